/-! PURE: the calls: lamps, odds -/
def lmD (a : Row) : Row := upd a 2 (a 2 * 1103515245 + 12345)
def lmA (a : Row) : Row := upd (lmD a) 4 (irm (ius (lmD a 2) 8) 10)
def lmB (a : Row) : Row := lmD (lmA a)
def lmW (a : Row) : Int32 := irm (ius (lmB a 2) 8) 8
def lmC (m : Nat) (a : Row) : Row := if isS m (lmW a) = true then upd (lmB a) (17 + (irm (lmB a 0) 6).toNatClampNeg) (lmW a) else lmB a
def lmR (m : Nat) (a : Row) : Row := minR (lmC m a)
def itN (f : Row → Row) : Nat → Row → Row
  | 0, a => a
  | d + 1, a => itN f d (f a)
theorem itN_s (f : Row → Row) (d : Nat) (a : Row) : itN f (d + 1) a = itN f d (f a) := rfl
theorem itN_0 (f : Row → Row) (a : Row) : itN f 0 a = a := rfl
theorem lmB_ok {T m : Nat} {a : Row} (h : okR T m a) : okR T m (lmB a) := okR_o (okR_o (okR_o h (by omega) (by omega) (by omega)) (by omega) (by omega) (by omega)) (by omega) (by omega) (by omega)
theorem lmB_S {m : Nat} {a : Row} (h : okS m a) : okS m (lmB a) := okS_u (okS_u (okS_u h fun i hi => ⟨by omega, by omega⟩) fun i hi => ⟨by omega, by omega⟩) fun i hi => ⟨by omega, by omega⟩
theorem lmD_agr {m : Nat} {a b : Row} (h : agr m a b) : agr m (lmD a) (lmD b) := agr_u h (by rw [h 2 (by omega)])
theorem lmB_agr {m : Nat} {a b : Row} (h : agr m a b) : agr m (lmB a) (lmB b) := by
  have h1 := lmD_agr h
  have h2 : agr m (lmA a) (lmA b) := agr_u h1 (by rw [h1 2 (by omega)])
  exact lmD_agr h2
theorem lm_p {T m : Nat} {a : Row} (h : okR T m a) (hT : T < 2 ^ 31) : ∃ p, p < 6 ∧ irm (a 0) 6 = nI p := by
  obtain ⟨-, -, ⟨t, ht, et⟩, -, -⟩ := h
  exact ⟨t % 6, by omega, by rw [et, irm6 (by omega)]⟩
theorem isQ_S {m : Nat} {v : Int32} (h : isS m v = true) : isQ m v = true := by unfold isQ; rw [h, Bool.or_true]
theorem lmC_ok {T m : Nat} {a : Row} (h : okR T m a) (hS : okS m a) (hT : T < 2 ^ 31) : okR T m (lmC m a) ∧ okS m (lmC m a) := by
  have h1 := lmB_ok h
  obtain ⟨p, hp, ep⟩ := lm_p h1 hT
  unfold lmC
  rw [ep, nI_clamp (by omega)]
  by_cases c : isS m (lmW a) = true
  · rw [if_pos c]; exact ⟨okR_q h1 hp (isQ_S c), okS_u (lmB_S hS) fun i hi => ⟨by omega, by omega⟩⟩
  · rw [if_neg c]; exact ⟨h1, lmB_S hS⟩
theorem lmC_agr {T m : Nat} {a b : Row} (h : agr m a b) (hok : okR T m a) (hT : T < 2 ^ 31) : agr m (lmC m a) (lmC m b) := by
  have h1 := lmB_agr h
  have ew : lmW a = lmW b := by unfold lmW; rw [h1 2 (by omega)]
  unfold lmC
  rw [← ew, ← h1 0 (by omega)]
  by_cases c : isS m (lmW a) = true
  · rw [if_pos c, if_pos c]; exact agr_u h1 rfl
  · rw [if_neg c, if_neg c]; exact h1
theorem lmR_ok {T m : Nat} {a : Row} (h : okR T m a) (hS : okS m a) (hT : T < 2 ^ 31) : okR (T + 1) m (lmR m a) ∧ okS m (lmR m a) := by
  obtain ⟨g1, g2⟩ := lmC_ok h hS hT
  unfold lmR
  exact ⟨okR_min g1, okS_min g2 g1.2.1 g1.1⟩
theorem lmR_agr {T m : Nat} {a b : Row} (h : agr m a b) (hok : okR T m a) (hS : okS m a) (hT : T < 2 ^ 31) : agr m (lmR m a) (lmR m b) := by
  unfold lmR
  exact agr_min (lmC_agr h hok hT) (lmC_ok hok hS hT).1 hT
theorem lmN_ok {m : Nat} : ∀ d T (a : Row), okR T m a → okS m a → T + d < 2 ^ 31 → okR (T + d) m (itN (lmR m) d a) ∧ okS m (itN (lmR m) d a) := by
  intro d
  induction d with
  | zero => intro T a h1 h2 _; rw [itN_0]; exact ⟨h1, h2⟩
  | succ d ih =>
    intro T a h1 h2 hT
    obtain ⟨g1, g2⟩ := lmR_ok h1 h2 (by omega)
    rw [itN_s, show T + (d + 1) = T + 1 + d by omega]
    exact ih (T + 1) (lmR m a) g1 g2 (by omega)
theorem lmN_agr {m : Nat} : ∀ d T (a b : Row), agr m a b → okR T m a → okS m a → T + d < 2 ^ 31 → agr m (itN (lmR m) d a) (itN (lmR m) d b) := by
  intro d
  induction d with
  | zero => intro T a b h _ _ _; rw [itN_0, itN_0]; exact h
  | succ d ih =>
    intro T a b h hok hS hT
    obtain ⟨g1, g2⟩ := lmR_ok hok hS (by omega)
    rw [itN_s, itN_s]
    exact ih (T + 1) _ _ (lmR_agr h hok hS (by omega)) g1 g2 (by omega)
theorem C_draw (σ : Sto) : F_X0_draw 1 σ = some (ius (lmD (V 1 σ) 2) 8, up2 σ 1 5 (V 1 σ 2 * 1103515245 + 12345)) := by
  rw [F_X0_draw, kdb 1 k1, ck_t, lts_e, V2 1 σ, up2_i, if_pos rfl, if_pos rfl]
  unfold lmD
  rw [upd_s]
theorem C_lm1 {T m : Nat} {σ : Sto} (hok : okR T m (V 1 σ)) (hS : okS m (V 1 σ)) (hT : T < 99999) (n j : Int32) (hj : ¬ n ≤ j) : ∃ σ', fr 1 σ σ' ∧ V 1 σ' = lmR m (V 1 σ) ∧ ∀ k, F_X4_lamps_b41 k 0 n j σ = k 0 n (j + 1) σ' := by
  have h8 := hok.1
  generalize hσ1 : up2 σ 1 5 (V 1 σ 2 * 1103515245 + 12345) = σ1
  have v1 : V 1 σ1 = lmD (V 1 σ) := by rw [← hσ1]; exact V_uh (b := 1) (by decide) (by omega)
  generalize hσ2 : up2 σ1 1 1 (irm (ius (lmD (V 1 σ) 2) 8) 10) = σ2
  have v2 : V 1 σ2 = lmA (V 1 σ) := by rw [← hσ2, V_uh (b := 1) (c := 4) (by decide) (by omega), v1]; rfl
  generalize hσ3 : up2 σ2 1 5 (V 1 σ2 2 * 1103515245 + 12345) = σ3
  have v3 : V 1 σ3 = lmB (V 1 σ) := by rw [← hσ3, V_uh (b := 1) (c := 2) (by decide) (by omega), v2]; rfl
  have f3 : fr 1 σ σ3 := by rw [← hσ3, ← hσ2, ← hσ1]; exact fr_t (fr_t (fr_u (by omega)) (fr_u (by omega))) (fr_u (by omega))
  have ok3 : okR T m (V 1 σ3) := by rw [v3]; exact lmB_ok hok
  have d1 : F_X0_draw 1 σ = some (ius (lmD (V 1 σ) 2) 8, σ1) := by rw [C_draw, hσ1]
  have d2 : F_X0_draw 1 σ2 = some (ius (lmB (V 1 σ) 2) 8, σ3) := by rw [C_draw, hσ3, v2]; rfl
  obtain ⟨p, hp, ep⟩ := lm_p ok3 (by omega)
  have hd : ∀ k, F_X4_lamps_b41 k 0 n j σ = if b2i (isS m (lmW (V 1 σ))) = 0 then bnd (F_X0_passMinute 1 σ3) (fun xr21 xσ19 => k 0 n (j + 1) xσ19) else bnd (F_X0_passMinute 1 (up2 σ3 11 p (lmW (V 1 σ)))) (fun xr30 xσ28 => k 0 n (j + 1) xσ28) := by
    intro k
    rw [F_X4_lamps_b41, if_neg hj, k04, ck_t, d1, bnd_s, lts_e, hσ2, d2, bnd_s, lti_e, show irm (ius (lmB (V 1 σ) 2) 8) 8 = lmW (V 1 σ) from rfl, C_isSitter k1 ok3.2.1 h8, bnd_s, F_X0_nextPlace, kdb 1 k1, ck_t, V0 1 σ3, ep, bnd_s, C_seat k1 hp, bnd_s]
  by_cases c : isS m (lmW (V 1 σ)) = true
  · have v4 : V 1 (up2 σ3 11 p (lmW (V 1 σ))) = lmC m (V 1 σ) := by
      rw [V_uq (b := 1) hp, v3]
      unfold lmC
      rw [if_pos c, ← v3, ep, nI_clamp (by omega)]
    obtain ⟨σ', e', v', f'⟩ := C_minute k1 (up2 σ3 11 p (lmW (V 1 σ))) (by rw [v4]; exact (lmC_ok hok hS (by omega)).1) hT
    refine ⟨σ', fr_t f3 (fr_t (fr_u (by omega)) f'), by rw [v', v4]; rfl, fun k => ?_⟩
    rw [hd, if_t c, e', bnd_s]
  · have v4 : V 1 σ3 = lmC m (V 1 σ) := by rw [v3]; unfold lmC; rw [if_neg c]
    obtain ⟨σ', e', v', f'⟩ := C_minute k1 σ3 ok3 hT
    refine ⟨σ', fr_t f3 f', by rw [v', v4]; rfl, fun k => ?_⟩
    rw [hd, if_f (wi_f c), e', bnd_s]
theorem M_lm1 {T m : Nat} {σ : Sto} (hok : okR T m (σ 50)) (hS : okS m (σ 50)) (hT : T < 99999) (n j : Int32) (hj : ¬ n ≤ j) (k : Nat → Int32 → Int32 → Sto → Option (Int32 × Sto)) : F_X5_lamps_b39 k 49 n j σ = k 49 n (j + 1) (up1 σ 50 (lmR m (σ 50))) := by
  have h8 := hok.1
  have d1 : F_X5_drawn 49 σ = some (ius (lmD (σ 50) 2) 8, up1 σ 50 (lmD (σ 50))) := by
    rw [F_X5_drawn, k49, ck_t, lts_e, up2_e, up1_s]; rfl
  have e2 : up2 (up1 σ 50 (lmD (σ 50))) 50 4 (irm (ius (lmD (σ 50) 2) 8) 10) = up1 σ 50 (lmA (σ 50)) := up2_up1 _ _ _ _ _
  have d3 : F_X5_drawn 49 (up1 σ 50 (lmA (σ 50))) = some (ius (lmB (σ 50) 2) 8, up1 σ 50 (lmB (σ 50))) := by
    rw [F_X5_drawn, k49, ck_t, lts_e, up2_e, up1_t, up1_s, up1_s]; rfl
  have ok3 := lmB_ok hok
  obtain ⟨p, hp, ep⟩ := lm_p ok3 (by omega)
  have m3 : (up1 σ 50 (lmB (σ 50))) 50 1 = nI m := by rw [up1_s]; exact ok3.2.1
  rw [F_X5_lamps_b39, if_neg hj, k49, ck_t, d1, bnd_s, lts_e, e2, d3, bnd_s, lti_e, lti_e, show irm (ius (lmB (σ 50) 2) 8) 8 = lmW (σ 50) from rfl, M_isSitter h8 m3, bnd_s, up1_s, ep, show (17 : Int32) + nI p = nI (17 + p) from nI_add 17 p, inr_nI (by omega) (by decide), ck_t, ck_t, lts_e, ck_t, lts_e, nI_clamp (by omega), up2_up1, up2_up1]
  have g := (lmC_ok hok hS (by omega)).1
  by_cases c : isS m (lmW (σ 50)) = true
  · have v4 : upd (lmB (σ 50)) (17 + p) (lmW (σ 50)) = lmC m (σ 50) := by unfold lmC; rw [if_pos c, ep, nI_clamp (by omega)]
    rw [if_t c, v4, M_minute _ (by rw [up1_s]; exact g) (by omega), bnd_s, up1_t, up1_s]; rfl
  · have v4 : lmB (σ 50) = lmC m (σ 50) := by unfold lmC; rw [if_neg c]
    rw [if_f (wi_f c), upd_same rfl, v4, M_minute _ (by rw [up1_s]; exact g) (by omega), bnd_s, up1_t, up1_s]; rfl
theorem C_lmN {m N : Nat} (hN : N ≤ 20) : ∀ d j n T (σ : Sto), j + d = N → d < n → okR T m (V 1 σ) → okS m (V 1 σ) → T + d < 99999 → ∃ σ', fr 1 σ σ' ∧ V 1 σ' = itN (lmR m) d (V 1 σ) ∧ lo3 F_X4_lamps_b41 n 0 (nI N) (nI j) σ = some (sumR 5 m (itN (lmR m) d (V 1 σ)), σ') := by
  intro d
  induction d with
  | zero =>
    intro j n T σ hj hn hok hS hT
    obtain ⟨n, rfl⟩ : ∃ q, n = q + 1 := ⟨n - 1, by omega⟩
    refine ⟨σ, fr_r 1 σ, (itN_0 _ _).symm, ?_⟩
    rw [lo3_s, F_X4_lamps_b41, if_pos (show nI N ≤ nI j by rw [show j = N by omega]; exact Int32.le_refl _), k04, ck_t, show (5 : Int32) = nI 5 from rfl, C_sumOf k1 hok.1 (by decide) σ hok.2.1, bnd_s, itN_0]
  | succ d ih =>
    intro j n T σ hj hn hok hS hT
    obtain ⟨n, rfl⟩ : ∃ q, n = q + 1 := ⟨n - 1, by omega⟩
    obtain ⟨σ1, f1, v1, e1⟩ := C_lm1 hok hS (by omega) (nI N) (nI j) (nI_lei (by omega) (by omega))
    obtain ⟨g1, g2⟩ := lmR_ok hok hS (by omega)
    obtain ⟨σ2, f2, v2, e2⟩ := ih (j + 1) n (T + 1) σ1 (by omega) (by omega) (by rw [v1]; exact g1) (by rw [v1]; exact g2) (by omega)
    refine ⟨σ2, fr_t f1 f2, by rw [v2, v1, itN_s], ?_⟩
    rw [lo3_s, e1, nI_1, e2, v1, itN_s]
theorem M_lmN {m N : Nat} (hN : N ≤ 20) : ∀ d j n T (σ : Sto), j + d = N → d < n → okR T m (σ 50) → okS m (σ 50) → T + d < 99999 → lo3 F_X5_lamps_b39 n 49 (nI N) (nI j) σ = some (sumR 5 m (itN (lmR m) d (σ 50)), up1 σ 50 (itN (lmR m) d (σ 50))) := by
  intro d
  induction d with
  | zero =>
    intro j n T σ hj hn hok hS hT
    obtain ⟨n, rfl⟩ : ∃ q, n = q + 1 := ⟨n - 1, by omega⟩
    rw [lo3_s, F_X5_lamps_b39, if_pos (show nI N ≤ nI j by rw [show j = N by omega]; exact Int32.le_refl _), k49, ck_t, show (5 : Int32) = nI 5 from rfl, M_sumOf hok.1 (by decide) σ hok.2.1, bnd_s, itN_0, up1_same (σ := σ) rfl]
  | succ d ih =>
    intro j n T σ hj hn hok hS hT
    obtain ⟨n, rfl⟩ : ∃ q, n = q + 1 := ⟨n - 1, by omega⟩
    obtain ⟨g1, g2⟩ := lmR_ok hok hS (by omega)
    rw [lo3_s, M_lm1 hok hS (by omega) (nI N) (nI j) (nI_lei (by omega) (by omega)), nI_1, ih (j + 1) n (T + 1) _ (by omega) (by omega) (by rw [up1_s]; exact g1) (by rw [up1_s]; exact g2) (by omega), up1_s, up1_t, itN_s]
theorem op_lamps (n : Int32) : Op (F_X4_lamps 0 n) (F_X5_lamps 49 n) := by
  intro K σ hK h
  obtain ⟨⟨⟨m, h1, h2, h4⟩, hk⟩, hT, hS, hF⟩ := id h
  have h8 := h1.1
  by_cases hw : wi n 1 20 = true
  · obtain ⟨N, hN1, hN2, rfl⟩ := wi_1 (n := 20) (by decide) hw
    obtain ⟨t, ht, et⟩ := h1.2.2.1
    have le : nI t + nI N ≤ 99999 := by rw [nI_add]; exact (nI_leI (b := 99999) (by omega) (by decide)).mpr (by omega)
    obtain ⟨σ1, f1, v1, e1⟩ := C_lmN hN2 N 0 1000 (100 * K) σ (by omega) (by omega) h1 h4 (by omega)
    have r50 : σ1 50 = σ 50 := f1 50 (by decide)
    have a1 := lmN_agr N (100 * K) _ _ h2 h1 h4 (by omega)
    have em := M_lmN hN2 N 0 1000 (100 * K) σ1 (by omega) (by omega) (by rw [r50]; exact okR_agr h2 h1) (by rw [r50]; exact okS_agr h2 h4) (by omega)
    obtain ⟨g1, g2⟩ := lmN_ok N (100 * K) _ h1 h4 (by omega)
    refine ⟨sumR 5 m (itN (lmR m) N (V 1 σ)), σ1, up1 σ1 50 (itN (lmR m) N (σ 50)), ?_, ?_, ?_⟩
    · rw [F_X4_lamps, if_neg (fun q => by have := (nI_ltI (b := 1) (by omega) (by decide)).mp q; omega), if_pos (show nI N ≤ 20 from (nI_leI (b := 20) (by omega) (by decide)).mpr hN2), k04, ck_t, V0 1 σ, et, if_pos le]
      exact e1
    · rw [F_X5_lamps, M_within, bnd_s, if_t hw, k49, ck_t, r50, ← h2 0 (by omega), et, if_pos le]
      rw [r50, ← agr_sum (by decide) a1 m (by omega)] at em
      exact em
    · refine Rel_real h f1 (fun k' hk' => up1_n hk') ⟨m, ?_, ?_, ?_⟩
      · rw [v1]; exact okR_mono g1 (by omega)
      · rw [v1, up1_s]; exact a1
      · rw [v1]; exact g2
  · have hc : F_X4_lamps 0 n σ = some (-1000001, fnd 0 σ) := by
      unfold wi at hw
      rw [Bool.and_eq_true, Bool.not_eq_true', Bool.not_eq_true', decide_eq_false_iff_not, decide_eq_false_iff_not] at hw
      by_cases c1 : n < 1
      · rw [F_X4_lamps, if_pos c1, k04, ck_t, C_f0, bnd_s]
      · rw [F_X4_lamps, if_neg c1, if_neg (fun q => hw ⟨c1, Int32.not_lt.mpr q⟩), k04, ck_t, C_f0, bnd_s]
    refine op_e0 h hc (fun τ hτ => ?_)
    rw [F_X5_lamps, M_within, bnd_s, if_f (wi_f hw), k49, ck_t, M_f0, bnd_s]

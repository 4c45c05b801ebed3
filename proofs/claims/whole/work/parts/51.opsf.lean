/-! PURE: the calls: kinds, lamps -/
def wkR (nm : Nat → Int32) (i : Nat) : Nat → Nat → Row → Bool
  | _, 0, _ => true
  | j, d + 1, a => (decide (nm j = -1) || decide (nm j = a (23 + 7 * i + 5))) && wkR nm i (j + 1) d (minR a)
theorem wkR_c {nm : Nat → Int32} {m i : Nat} (hi : i < m) : ∀ d j T (a b : Row), agr m a b → okR T m a → T + d < 2 ^ 31 → wkR nm i j d a = wkR nm i j d b := by
  intro d
  induction d with
  | zero => intro j T a b _ _ _; rfl
  | succ d ih => intro j T a b h hok hT; rw [wkR, wkR, h _ (by omega), ih (j + 1) (T + 1) _ _ (agr_min h hok (by omega)) (okR_min hok) (by omega)]
theorem wkR_n {f g : Nat → Int32} {i : Nat} : ∀ d j a, (∀ k, k < j + d → f k = g k) → wkR f i j d a = wkR g i j d a := by
  intro d
  induction d with
  | zero => intro j a _; rfl
  | succ d ih => intro j a hf; rw [wkR, wkR, hf j (by omega), ih (j + 1) _ (fun k hk => hf k (by omega))]
theorem C_wk {q z i m : Nat} (hq : q < 4) (hz : z ≤ 40) (hi : i < m) (h8 : m ≤ 8) {nm : Nat → Int32} : ∀ d j n T (σ : Sto), j + d = z → d < n → σ (40 + 2 * q) 1 = nI z → (∀ k, k < 40 → σ (40 + 2 * q + 1) k = nm k) → okR T m (V 13 σ) → T + d < 99999 → ∃ σ', fr 13 σ σ' ∧ lo4 F_X4_isKindAsTold_b24 n 0 (40 + 2 * q) (nI i) (nI j) σ = some (b2i (wkR nm i j d (V 13 σ)), σ') := by
  intro d
  induction d with
  | zero =>
    intro j n T σ hj hn h hnm hok hT
    obtain ⟨n, rfl⟩ : ∃ q, n = q + 1 := ⟨n - 1, by omega⟩
    refine ⟨σ, fr_r 13 σ, ?_⟩
    rw [lo4_s, F_X4_isKindAsTold_b24, kdS hq, ck_t, h, if_pos (show nI z ≤ nI j by rw [show j = z by omega]; exact Int32.le_refl _)]; rfl
  | succ d ih =>
    intro j n T σ hj hn h hnm hok hT
    obtain ⟨n, rfl⟩ : ∃ q, n = q + 1 := ⟨n - 1, by omega⟩
    obtain ⟨σ1, e1, v1, f1⟩ := C_minute k13 σ hok (by omega)
    obtain ⟨σ2, f2, e2⟩ := ih (j + 1) n (T + 1) σ1 (by omega) (by omega) (by rw [f1 _ (by omega)]; exact h) (fun k hk => by rw [f1 _ (by omega)]; exact hnm k hk) (by rw [v1]; exact okR_min hok) (by omega)
    have hd : lo4 F_X4_isKindAsTold_b24 (n + 1) 0 (40 + 2 * q) (nI i) (nI j) σ = if b2i (decide (nm j = -1) || decide (nm j = V 13 σ (23 + 7 * i + 5))) = 0 then some (0, σ) else bnd (F_X0_passMinute 13 σ) (fun _ σ' => lo4 F_X4_isKindAsTold_b24 n 0 (40 + 2 * q) (nI i) (nI (j + 1)) σ') := by
      rw [lo4_s, F_X4_isKindAsTold_b24, kdS hq, ck_t, h, if_neg (nI_lei (by omega) (by omega)), k04, ck_t, show (5 : Int32) = nI 5 from rfl, C_partOf k13 hok.2.1 h8 hi (by decide), bnd_s, C_allows hq hz (by omega) h, bnd_s, hnm j (by omega), nI_1]
    rw [hd, wkR]
    by_cases c : (decide (nm j = -1) || decide (nm j = V 13 σ (23 + 7 * i + 5))) = true
    · refine ⟨σ2, fr_t f1 f2, ?_⟩
      rw [if_t c, e1, bnd_s, e2, v1, c, Bool.true_and]
    · refine ⟨σ, fr_r 13 σ, ?_⟩
      rw [if_f (wi_f c), wi_f c, Bool.false_and]; rfl
theorem M_wk {q z i m : Nat} (hq : q < 4) (hz : z ≤ 40) (hi : i < m) (h8 : m ≤ 8) {nm : Nat → Int32} : ∀ d j n T (c : Bool) (σ : Sto), j + d = z → d < n → σ 58 q = nI z → (∀ k, k < 40 → σ 59 (40 * q + k) = nm k) → okR T m (σ 50) → T + d < 2 ^ 31 → ∃ g, lo5 F_X5_wasTakenSo_b16 n 49 (nI q) (nI i) (b2i c) (nI j) σ = some (b2i (c && wkR nm i j d (σ 50)), bk (up1 σ 50 g)) := by
  have cpy : ∀ σ : Sto, F_X5_copyRow 52 50 σ = some ((), bk σ) := fun σ => M_copy (by decide) (by decide) (by decide) (by decide) (by decide) σ
  intro d
  induction d with
  | zero =>
    intro j n T c σ hj hn h hnm hok hT
    obtain ⟨n, rfl⟩ : ∃ q, n = q + 1 := ⟨n - 1, by omega⟩
    refine ⟨σ 50, ?_⟩
    rw [up1_same rfl, lo5_s, F_X5_wasTakenSo_b16, k49, ck_t, inr_nI hq (by decide), ck_t, nI_clamp (by omega), h, if_pos (show nI z ≤ nI j by rw [show j = z by omega]; exact Int32.le_refl _), cpy, bnd_s, z01_b, ck_t, wkR, Bool.and_true]
  | succ d ih =>
    intro j n T c σ hj hn h hnm hok hT
    obtain ⟨n, rfl⟩ : ∃ q, n = q + 1 := ⟨n - 1, by omega⟩
    have hd : lo5 F_X5_wasTakenSo_b16 (n + 1) 49 (nI q) (nI i) (b2i c) (nI j) σ = if b2i c = 0 then some (b2i c, bk σ) else lo5 F_X5_wasTakenSo_b16 n 49 (nI q) (nI i) (b2i (decide (nm j = -1) || decide (nm j = σ 50 (23 + 7 * i + 5)))) (nI (j + 1)) (up1 σ 50 (minR (σ 50))) := by
      rw [lo5_s, F_X5_wasTakenSo_b16, k49, ck_t, inr_nI hq (by decide), ck_t, nI_clamp (by omega), h, if_neg (nI_lei (by omega) (by omega)), cpy, bnd_s, z01_b, ck_t, n40 hq, inr_nI (by omega) (by decide), ck_t, lti_e, nI_clamp (by omega), hnm j (by omega), M_is5 (by omega), bnd_s, F_X5_wasTakenSo_b62, k49, ck_t, M_minute σ hok (by omega), bnd_s, bnd_s, nI_1]
      by_cases c0 : b2i c = 0
      · rw [if_pos c0, if_pos c0]
      · rw [if_neg c0, if_neg c0]
        by_cases c1 : nm j = -1
        · rw [if_pos c1, decide_eq_true c1]; rfl
        · rw [if_neg c1, decide_eq_false c1]
          by_cases c2 : nm j = σ 50 (23 + 7 * i + 5)
          · rw [if_pos c2, decide_eq_true c2]; rfl
          · rw [if_neg c2, decide_eq_false c2]; rfl
    rw [hd]
    cases c with
    | false => exact ⟨σ 50, by rw [up1_same rfl, if_f rfl, Bool.false_and]⟩
    | true =>
      obtain ⟨g, e⟩ := ih (j + 1) n (T + 1) (decide (nm j = -1) || decide (nm j = σ 50 (23 + 7 * i + 5))) (up1 σ 50 (minR (σ 50))) (by omega) (by omega) (by rw [up1_n (by decide)]; exact h) (fun k hk => by rw [up1_n (by decide)]; exact hnm k hk) (by rw [up1_s]; exact okR_min hok) (by omega)
      refine ⟨g, ?_⟩
      rw [if_t rfl, e, up1_s, up1_t, wkR, Bool.true_and]
def orB (T : Nat → Bool) (j : Nat) (x : Int32) : Int32 := if T j = true then x ||| isl 1 (nI j) else x
theorem op_kinds (s w : Int32) : Op (F_X4_kinds 0 s w) (F_X5_kinds 49 s w) := by
  intro K σ hK h
  obtain ⟨⟨⟨m, h1, h2, h4⟩, hk⟩, hT, hS, hF⟩ := id h
  have h8 := h1.1
  by_cases hs : inr s 4 = true
  · obtain ⟨q, hq, rfl⟩ := inr_of hs
    obtain ⟨b1, z, b2, b3, b4, b5⟩ := hS q hq
    by_cases hw : σ (40 + 2 * q) 0 = 0
    · refine op_e 5 (-1000006) (by decide) h ?_ (fun τ hτ => ?_)
      · rw [F_X4_kinds, k04, ck_t, C_shS hq, bnd_s, oc_s, kdS hq, ck_t, C_miss hq, bnd_s, if_t (decide_eq_true hw), C_refM hq hw, bnd_s, C_f5, bnd_s]
      · rw [F_X5_kinds, k49, ck_t, M_isSitter h8 (m1of h1 (mrow h2 hτ)), bnd_s, M_lacksS hq, bnd_s, hτ 57 (by decide), ← b1, if_pos hw, if_neg (by decide), M_f5, bnd_s]
    · by_cases hi : isS m w = true
      · obtain ⟨i, hi', rfl⟩ := isS_of hi
        have hi8 : i < 8 := by omega
        have okx : ∀ a, okR (100 * K) m a → ∀ v, okR (100 * K) m (upd a (23 + 7 * i) v) := fun a ha v => okR_o ha (by omega) (by omega) (by omega)
        obtain ⟨T, hTT⟩ : ∃ T : Nat → Bool, T = fun t => wkR (σ (40 + 2 * q + 1)) i 0 z (upd (V 1 σ) (23 + 7 * i) (nI t)) := ⟨_, rfl⟩
        obtain ⟨n', σ', q', -, e'⟩ := q_loop (Q := fr 13) (fr_r 13) fr_t (I := fun σ' => fr 13 σ σ') (G := fun n (a : Int32) j => lo5 F_X4_kinds_b43 n 0 (nI i) (some (40 + 2 * q)) a (nI j)) (f := orB T) (N := 7) (fun a b ha q => fr_t ha q) (fun n a j σx hI hj => by
          have vI : V 1 σx = V 1 σ := V_fr hI (by omega)
          have h1x : okR (100 * K) m (V 1 σx) := by rw [vI]; exact h1
          obtain ⟨σ1, e1, a1, f1⟩ := C_become k13 k1 (by decide) h8 σx h1x.2.1
          have n1 : V 13 σ1 1 = nI m := by rw [a1 1 (by omega)]; exact h1x.2.1
          have v2 : V 13 (up2 σ1 (13 + 1 + 1 + i) 0 (nI j)) = upd (V 13 σ1) (23 + 7 * i) (nI j) := V_us (b := 13) (k := 0) hi8 (by decide)
          have ag : agr m (V 13 (up2 σ1 (13 + 1 + 1 + i) 0 (nI j))) (upd (V 1 σ) (23 + 7 * i) (nI j)) := by rw [v2, ← vI]; exact agr_u a1 rfl
          have f2 : fr 13 σ (up2 σ1 (13 + 1 + 1 + i) 0 (nI j)) := fr_t hI (fr_t f1 (fr_u (by omega)))
          have ok2 := okR_agr (agr_s ag) (okx _ h1 (nI j))
          obtain ⟨σ3, f3, e3⟩ := C_wk hq b2 hi' h8 (nm := σ (40 + 2 * q + 1)) z 0 1000 (100 * K) _ (by omega) (by omega) (by rw [f2 _ (by omega)]; exact b3) (fun k hk => by rw [f2 _ (by omega)]) ok2 (by omega)
          have eT : F_X4_isKindAsTold 0 (40 + 2 * q) (nI i) (nI j) σx = some (b2i (T j), σ3) := by
            have eg : F_X0_give 13 (nI i) 0 (nI j) σ1 = some ((), up2 σ1 (13 + 1 + 1 + i) 0 (nI j)) := C_give (k := 0) k13 h8 σ1 n1 hi' (by decide) _
            rw [F_X4_isKindAsTold, k04, ck_t, e1, bnd_s, eg, bnd_s]
            refine e3.trans ?_
            rw [wkR_c hi' z 0 (100 * K) _ _ ag ok2 (by omega), hTT]
          refine ⟨σ3, fr_t f1 (fr_t (fr_u (by omega)) f3), ?_⟩
          show lo5 F_X4_kinds_b43 (n + 1) 0 (nI i) (some (40 + 2 * q)) a (nI j) σx = lo5 F_X4_kinds_b43 n 0 (nI i) (some (40 + 2 * q)) (orB T j a) (nI (j + 1)) σ3
          rw [lo5_s, F_X4_kinds_b43, if_neg (fun z => by have := (nI_ltI (a := 6) (by decide) (by omega)).mp z; omega), oc_s, k04, ck_t, eT, bnd_s, lti_e, nI_1]
          unfold orB
          by_cases c : T j = true
          · rw [if_t c, if_pos c]
          · rw [if_f (wi_f c), if_neg c]) 7 0 1000 0 σ (by omega) (by omega) (fr_r 13 σ)
        have e2 : lo5 F_X4_kinds_b43 1000 0 (nI i) (some (40 + 2 * q)) 0 0 σ = lo5 F_X4_kinds_b43 (n' + 1) 0 (nI i) (some (40 + 2 * q)) (fldU (orB T) 0 7 0) (nI 7) σ' := e'
        refine op_ans (r := fldU (orB T) 0 7 0) h ⟨σ', ?_, cq_fr q'⟩ (fun τ hτ => ?_)
        · rw [F_X4_kinds, k04, ck_t, C_shS hq, bnd_s, oc_s, kdS hq, ck_t, C_miss hq, bnd_s, if_f (decide_eq_false hw), C_isSitter k1 h1.2.1 h8, bnd_s, if_t hi, e2, lo5_s, F_X4_kinds_b43, if_pos (by decide)]
        · obtain ⟨n'', τ', q2, -, em⟩ := q_loop (Q := mqp (23 + 7 * i)) (mqp_r _) mqp_t (I := fun τ' => agrp m (23 + 7 * i) (V 1 σ) (τ' 50) ∧ τ' 58 = σ 58 ∧ τ' 59 = σ 59) (G := fun n (a : Int32) j => lo7 F_X5_kinds_b43 n 49 (nI q) (nI i) (nI (23 + 7 * i)) (τ 50 (23 + 7 * i)) a (nI j)) (f := orB T) (N := 7) (fun a b ha q => ⟨agrp_mqp h8 ha.1 q, by rw [q.1 58 (by decide) (by decide) (by decide) (by decide) (by decide)]; exact ha.2.1, by rw [q.1 59 (by decide) (by decide) (by decide) (by decide) (by decide)]; exact ha.2.2⟩) (fun n a j τx hI hj => by
            generalize hτ1 : up2 τx 50 (23 + 7 * i) (nI j) = τ1
            have o1 : ∀ k, ¬ k = 50 → τ1 k = τx k := fun k hk => by rw [← hτ1, up2_e, up1_n hk]
            have ag : agr m (upd (V 1 σ) (23 + 7 * i) (nI j)) (τ1 50) := by rw [← hτ1, up2_e, up1_s]; exact agrp_u hI.1 _
            have okt := okR_agr ag (okx _ h1 (nI j))
            have r50 : (up1 τ1 52 (cp (τ1 50) (τ1 52))) 50 = τ1 50 := up1_n (by decide)
            obtain ⟨g, eg⟩ := M_wk hq b2 hi' h8 (nm := σ (40 + 2 * q + 1)) z 0 1000 (100 * K) true (up1 τ1 52 (cp (τ1 50) (τ1 52))) (by omega) (by omega) (by rw [up1_n (by decide), o1 58 (by decide), hI.2.1]; exact b4) (fun k hk => by rw [up1_n (by decide), o1 59 (by decide), hI.2.2]; exact (b5 k hk).symm) (by rw [r50]; exact okt) (by omega)
            have eT : F_X5_wasTakenSo 49 (nI q) (nI i) τ1 = some (b2i (T j), bk (up1 (up1 τ1 52 (cp (τ1 50) (τ1 52))) 50 g)) := by
              rw [F_X5_wasTakenSo, k49, ck_t, M_copy (by decide) (by decide) (by decide) (by decide) (by decide), bnd_s]
              refine eg.trans ?_
              rw [r50, Bool.true_and, ← wkR_c hi' z 0 (100 * K) _ _ ag (okx _ h1 _) (by omega), hTT]
            refine ⟨bk (up1 (up1 τ1 52 (cp (τ1 50) (τ1 52))) 50 g), mqp_t (by rw [← hτ1]; exact mqp_u _ τx _) (mqp_m _ (bk_mq τ1 g)), ?_⟩
            show lo7 F_X5_kinds_b43 (n + 1) 49 (nI q) (nI i) (nI (23 + 7 * i)) (τ 50 (23 + 7 * i)) a (nI j) τx = lo7 F_X5_kinds_b43 n 49 (nI q) (nI i) (nI (23 + 7 * i)) (τ 50 (23 + 7 * i)) (orB T j a) (nI (j + 1)) _
            rw [lo7_s, F_X5_kinds_b43, if_neg (fun z => by have := (nI_ltI (a := 6) (by decide) (by omega)).mp z; omega), k49, ck_t, inr_nI (by omega) (by decide), ck_t, lts_e, nI_clamp (by omega), hτ1, eT, bnd_s, lti_e, lti_e, nI_1, Int32.or_zero]
            unfold orB
            by_cases c : T j = true
            · rw [if_t c, if_pos c]
            · rw [if_f (wi_f c), if_neg c]) 7 0 1000 0 τ (by omega) (by omega) ⟨agr_agrp (mrow h2 hτ), hτ 58 (by decide), hτ 59 (by decide)⟩
          have em2 : lo7 F_X5_kinds_b43 1000 49 (nI q) (nI i) (nI (23 + 7 * i)) (τ 50 (23 + 7 * i)) 0 0 τ = lo7 F_X5_kinds_b43 (n'' + 1) 49 (nI q) (nI i) (nI (23 + 7 * i)) (τ 50 (23 + 7 * i)) (fldU (orB T) 0 7 0) (nI 7) τ' := em
          refine ⟨_, ?_, mqp_end q2⟩
          rw [F_X5_kinds, k49, ck_t, M_isSitter h8 (m1of h1 (mrow h2 hτ)), bnd_s, M_lacksS hq, bnd_s, hτ 57 (by decide), ← b1, if_neg hw, if_neg (b2i_1 hi), if_pos rfl, M_at0, bnd_s, inr_nI (by omega) (by decide), ck_t, lti_e, nI_clamp (by omega), em2, lo7_s, F_X5_kinds_b43, if_pos (by decide), k49, ck_t, inr_nI (by omega) (by decide), ck_t, lts_e, nI_clamp (by omega)]
      · refine op_e0 h ?_ (fun τ hτ => ?_)
        · rw [F_X4_kinds, k04, ck_t, C_shS hq, bnd_s, oc_s, kdS hq, ck_t, C_miss hq, bnd_s, if_f (decide_eq_false hw), C_isSitter k1 h1.2.1 h8, bnd_s, if_f (wi_f hi), C_refS hq hw, bnd_s, C_f0, bnd_s]
        · rw [F_X5_kinds, k49, ck_t, M_isSitter h8 (m1of h1 (mrow h2 hτ)), bnd_s, M_lacksS hq, bnd_s, hτ 57 (by decide), ← b1, if_neg hw, if_pos (b2i_0 (wi_f hi)), if_neg (by decide), M_f0, bnd_s]
  · refine op_e0 h ?_ (fun τ hτ => ?_)
    · rw [F_X4_kinds, k04, ck_t, C_sheetAt, if_neg hs, bnd_s, oc_n, C_refN, bnd_s, C_f0, bnd_s]
    · rw [F_X5_kinds, k49, ck_t, M_isSitter h8 (m1of h1 (mrow h2 hτ)), bnd_s, M_lacksN hs, bnd_s, if_neg (by decide), M_f0, bnd_s]

/-! PURE: the calls: odds -/
def pwB (x : Nat) (_ : Nat) (a : Int64) : Int64 := a * (nI x).toInt64
theorem C_pw {x N : Nat} (hN : N < 900) (σ : Sto) : ∀ d j n a, j + d = N → d < n → lo4 F_X4_power_b5 n (nI x) (nI N) a (nI j) σ = some (fldU (pwB x) j d a, σ) := by
  intro d
  induction d with
  | zero =>
    intro j n a hj hn
    obtain ⟨n, rfl⟩ : ∃ q, n = q + 1 := ⟨n - 1, by omega⟩
    rw [lo4_s, F_X4_power_b5, if_pos (show nI N ≤ nI j by rw [show j = N by omega]; exact Int32.le_refl _), fldU]
  | succ d ih =>
    intro j n a hj hn
    obtain ⟨n, rfl⟩ : ∃ q, n = q + 1 := ⟨n - 1, by omega⟩
    rw [lo4_s, F_X4_power_b5, if_neg (nI_lei (by omega) (by omega)), ltl_e, nI_1, ih (j + 1) n _ (by omega) (by omega), fldU]
    rfl
theorem C_power {x N : Nat} (hN : N < 900) (σ : Sto) : F_X4_power (nI x) (nI N) σ = some (fldU (pwB x) 0 N 1, σ) := by
  rw [F_X4_power, ltl_e]
  exact C_pw hN σ N 0 1000 1 (by omega) (by omega)
theorem M_pw {x g c N : Nat} {w : Int32} (hN : N < 900) (hc : nz (nI c) = true) (hx : (if w = 0 then nI g / nI c else 10 / nI c) = nI x) (σ : Sto) : ∀ d j n a, j + d = N → d < n → lo6 F_X5_odds_b142 n (nI N) w (nI g) (nI c) a (nI j) σ = some (fldU (pwB x) j d a, σ) := by
  intro d
  induction d with
  | zero =>
    intro j n a hj hn
    obtain ⟨n, rfl⟩ : ∃ q, n = q + 1 := ⟨n - 1, by omega⟩
    rw [lo6_s, F_X5_odds_b142, if_pos (show nI N ≤ nI j by rw [show j = N by omega]; exact Int32.le_refl _), fldU]
  | succ d ih =>
    intro j n a hj hn
    obtain ⟨n, rfl⟩ : ∃ q, n = q + 1 := ⟨n - 1, by omega⟩
    rw [lo6_s, F_X5_odds_b142, if_neg (nI_lei (by omega) (by omega)), hc, ck_t, ltl_e, ck_t, ltl_e, nI_1, ih (j + 1) n _ (by omega) (by omega), ih (j + 1) n _ (by omega) (by omega), fldU]
    by_cases c : w = 0
    · rw [if_pos c] at hx; rw [if_pos c, hx]; rfl
    · rw [if_neg c] at hx; rw [if_neg c, hx]; rfl
/-- good lights out of ten, in lowest terms -/
def gcU (g : Nat) : Nat := Nat.gcd g 10
def rdU : Nat → Int32 → Int32 → Int32 × Int32
  | 0, a, b => (a, b)
  | d + 1, a, b => if irm a (nI (d + 2)) = 0 ∧ irm b (nI (d + 2)) = 0 then rdU d (a / nI (d + 2)) (b / nI (d + 2)) else rdU d a b
theorem rd_9 : ∀ g, g < 11 → rdU 9 (nI g) 10 = (nI (g / gcU g), nI (10 / gcU g)) := by decide +kernel
theorem C_red {g : Nat} (hg : g ≤ 10) (n w : Int32) (σ : Sto) : lo5 F_X4_odds_b61 1000 n w (nI g) 10 10 σ = if w = 0 then bnd (F_X4_power (nI (g / gcU g)) n σ) (fun xr8 xσ6 => some (xr8, xσ6)) else bnd (F_X4_power (nI (10 / gcU g)) n σ) (fun xr5 xσ3 => some (xr5, xσ3)) := by
  have st : ∀ (k : Int32 → Int32 → Int32 → Int32 → Int32 → Sto → Option (Int64 × Sto)) (a b c : Int32), ¬ c ≤ 1 → nz c = true → F_X4_odds_b61 k n w a b c σ = if irm a c = 0 ∧ irm b c = 0 then k n w (a / c) (b / c) (c + -1) σ else k n w a b (c + -1) σ := by
    intro k a b c h1 h2
    rw [F_X4_odds_b61, if_neg h1, h2, ck_t, ck_t, ck_t, lti_e, ck_t, lti_e]
    by_cases p : irm a c = 0
    · rw [if_pos p]
      by_cases q : irm b c = 0
      · rw [if_pos q, if_pos ⟨p, q⟩]
      · rw [if_neg q, if_neg (fun z => q z.2)]
    · rw [if_neg p, if_neg (fun z => p z.1)]
  have en : ∀ (k : Int32 → Int32 → Int32 → Int32 → Int32 → Sto → Option (Int64 × Sto)) (a b : Int32), F_X4_odds_b61 k n w a b 1 σ = if w = 0 then bnd (F_X4_power a n σ) (fun xr8 xσ6 => some (xr8, xσ6)) else bnd (F_X4_power b n σ) (fun xr5 xσ3 => some (xr5, xσ3)) := by
    intro k a b
    rw [F_X4_odds_b61, if_pos (by decide)]
  have run : ∀ (d : Nat), d < 10 → ∀ (a b : Int32) (f : Nat), d < f → lo5 F_X4_odds_b61 f n w a b (nI (d + 1)) σ = (if w = 0 then bnd (F_X4_power (rdU d a b).1 n σ) (fun xr8 xσ6 => some (xr8, xσ6)) else bnd (F_X4_power (rdU d a b).2 n σ) (fun xr5 xσ3 => some (xr5, xσ3))) := by
    intro d
    induction d with
    | zero =>
      intro _ a b f hf
      obtain ⟨f, rfl⟩ : ∃ q, f = q + 1 := ⟨f - 1, by omega⟩
      rw [lo5_s, show nI (0 + 1) = 1 from rfl, en]
      rfl
    | succ d ih =>
      intro hd a b f hf
      obtain ⟨f, rfl⟩ : ∃ q, f = q + 1 := ⟨f - 1, by omega⟩
      have hz : nz (nI (d + 1 + 1)) = true := by
        rcases (show d = 0 ∨ d = 1 ∨ d = 2 ∨ d = 3 ∨ d = 4 ∨ d = 5 ∨ d = 6 ∨ d = 7 ∨ d = 8 by omega) with rfl | rfl | rfl | rfl | rfl | rfl | rfl | rfl | rfl <;> decide
      rw [lo5_s, st _ _ _ _ (fun q => by have := (nI_leI (b := 1) (by omega) (by decide)).mp q; omega) hz, ← Int32.sub_eq_add_neg, nI_m1, ih (by omega) _ _ f (by omega), ih (by omega) _ _ f (by omega)]
      rw [rdU]
      by_cases c : irm a (nI (d + 2)) = 0 ∧ irm b (nI (d + 2)) = 0
      · rw [if_pos c, if_pos c]
      · rw [if_neg c, if_neg c]
  have r := run 9 (by decide) (nI g) 10 1000 (by decide)
  rw [rd_9 g (by omega)] at r
  exact r
def euU : Nat → Int32 → Int32 → Option Int32
  | 0, _, _ => none
  | f + 1, a, b => if b = 0 then some a else euU f b (irm a b)
theorem eu_10 : ∀ g, g < 11 → euU 1000 10 (nI g) = some (nI (gcU g)) := by decide +kernel
theorem eu_ok : ∀ g, g < 11 → nz (nI (gcU g)) = true ∧ nI g / nI (gcU g) = nI (g / gcU g) ∧ 10 / nI (gcU g) = nI (10 / gcU g) := by decide +kernel
theorem M_eu (n w G : Int32) (σ : Sto) : ∀ (f : Nat) (a b : Int32), lo5 F_X5_odds_b113 f n w G a b σ = (euU f a b).bind (fun c => lo6 F_X5_odds_b142 1000 n w G c 1 0 σ) := by
  intro f
  induction f with
  | zero => intro a b; rfl
  | succ f ih =>
    intro a b
    rw [lo5_s, F_X5_odds_b113, euU]
    by_cases c : b = 0
    · rw [if_pos c, if_pos c, ltl_e]; rfl
    · have hz : nz b = true := by unfold nz; simp [c]
      rw [if_neg c, if_neg c, hz, ck_t, lti_e, ih]
theorem ct_n {T : Nat → Bool} : ∀ d j c, ∃ g, g ≤ c + d ∧ fldU (ctU T) j d (nI c) = nI g := by
  intro d
  induction d with
  | zero => intro j c; exact ⟨c, by omega, rfl⟩
  | succ d ih =>
    intro j c
    rw [fldU]
    unfold ctU
    by_cases h : T j = true
    · rw [if_pos h, nI_1]
      obtain ⟨g, hg, e⟩ := ih (j + 1) (c + 1)
      exact ⟨g, by omega, e⟩
    · rw [if_neg h]
      obtain ⟨g, hg, e⟩ := ih (j + 1) c
      exact ⟨g, by omega, e⟩
theorem op_odds (s f n w : Int32) : Op (F_X4_odds 0 s f n w) (F_X5_odds 49 s f n w) := by
  intro K σ hK h
  obtain ⟨⟨⟨m, h1, h2, h4⟩, hk⟩, hT, hS, hF⟩ := id h
  have h8 := h1.1
  by_cases hs : isS m s = true
  · obtain ⟨i, hi, rfl⟩ := isS_of hs
    by_cases hf : wi f 0 3 = true
    · by_cases hn : wi n 0 18 = true
      · by_cases hw : wi w 0 1 = true
        · obtain ⟨N, hN, rfl⟩ := wi_t (n := 18) (by decide) rfl hn
          obtain ⟨T, hTT⟩ : ∃ T : Nat → Bool, T = fun t => decide (fa (upd (V 1 σ) 4 (nI t)) i f = 0) := ⟨_, rfl⟩
          obtain ⟨g, hg, eg⟩ := ct_n (T := T) 10 0 0
          have eg0 : fldU (ctU T) 0 10 0 = nI g := eg
          obtain ⟨u1, u2, u3⟩ := eu_ok g (by omega)
          obtain ⟨x, hx⟩ : ∃ x, x = if w = 0 then g / gcU g else 10 / gcU g := ⟨_, rfl⟩
          obtain ⟨σ1, e1, a1, f1⟩ := C_become k13 k1 (by decide) h8 σ h1.2.1
          have n1 : V 13 σ1 1 = nI m := by rw [a1 1 (by omega)]; exact h1.2.1
          obtain ⟨n', σ', q', -, e'⟩ := q_loop (Q := tq 4) (tq_r _) tq_t (I := fun σ' => agrp m 4 (V 1 σ) (V 13 σ')) (G := fun n (a : Int32) j => lo5 F_X4_lightsWithoutFaults_b26 n 0 f (some (13 + 1 + 1 + i)) a (nI j)) (f := ctU T) (N := 10) (fun a b ha q => fun j hj hn => (ha j hj hn).trans (q.2 j hn).symm) (fun n a j σx hI hj => by
            have vx : V 13 (up2 σx 13 1 (nI j)) = upd (V 13 σx) 4 (nI j) := V_uh (b := 13) (by decide) (by omega)
            refine ⟨up2 σx 13 1 (nI j), ⟨fr_u (by omega), fun j' hj' => by rw [vx, upd_n hj']⟩, ?_⟩
            show lo5 F_X4_lightsWithoutFaults_b26 (n + 1) 0 f (some (13 + 1 + 1 + i)) a (nI j) σx = lo5 F_X4_lightsWithoutFaults_b26 n 0 f (some (13 + 1 + 1 + i)) (ctU T j a) (nI (j + 1)) _
            rw [lo5_s, F_X4_lightsWithoutFaults_b26, if_neg (show ¬ (10 : Int32) ≤ nI j from nI_lei (m := 10) hj (by decide)), oc_s, k04, ck_t, lts_e, C_faults k13 (by omega), bnd_s, vx, ← agr_fa (agrp_u hI (nI j)) hi, nI_1]
            unfold ctU
            rw [hTT]
            by_cases c : fa (upd (V 1 σ) 4 (nI j)) i f = 0
            · rw [if_pos c, if_pos (decide_eq_true c)]
            · rw [if_neg c, if_neg (by rw [decide_eq_true_eq]; exact c)]) 10 0 1000 0 σ1 (by omega) (by omega) (agr_agrp (agr_s a1))
          have e2 : lo5 F_X4_lightsWithoutFaults_b26 1000 0 f (some (13 + 1 + 1 + i)) 0 0 σ1 = lo5 F_X4_lightsWithoutFaults_b26 (n' + 1) 0 f (some (13 + 1 + 1 + i)) (fldU (ctU T) 0 10 0) (nI 10) σ' := e'
          have el : F_X4_lightsWithoutFaults 0 (nI i) f σ = some (nI g, σ') := by
            rw [F_X4_lightsWithoutFaults, k04, ck_t, e1, bnd_s, C_whoS k13 n1 h8 hi, bnd_s, e2, lo5_s, F_X4_lightsWithoutFaults_b26, if_pos (by decide), eg0]
          refine op_ans (r := fldU (pwB x) 0 N 1) h ⟨σ', ?_, cq_t (cq_fr f1) (cq_fr q'.1)⟩ (fun τ hτ => ?_)
          · rw [F_X4_odds, k04, ck_t, C_isSitter k1 h1.2.1 h8, bnd_s, if_t hs, C_within, bnd_s, if_t hf, C_within, bnd_s, if_t hn, C_within, bnd_s, if_t hw, el, bnd_s, C_red (by omega), C_power (by omega), C_power (by omega), bnd_s, bnd_s, hx]
            by_cases c : w = 0
            · rw [if_pos c, if_pos c]
            · rw [if_neg c, if_neg c]
          · obtain ⟨n'', τ', q2, -, em⟩ := q_loop (Q := mqp 4) (mqp_r _) mqp_t (I := fun τ' => agrp m 4 (V 1 σ) (τ' 50)) (G := fun n (a : Int32) j => lo8 F_X5_odds_b57 n 49 (nI i) f (nI N) w (τ 50 4) a (nI j)) (f := ctU T) (N := 10) (fun a b ha q => agrp_mqp h8 ha q) (fun n a j τx hI hj => by
              refine ⟨up2 τx 50 4 (nI j), mqp_u 4 τx _, ?_⟩
              have ag : agr m (upd (V 1 σ) 4 (nI j)) ((up2 τx 50 4 (nI j)) 50) := by rw [up2_e, up1_s]; exact agrp_u hI _
              show lo8 F_X5_odds_b57 (n + 1) 49 (nI i) f (nI N) w (τ 50 4) a (nI j) τx = lo8 F_X5_odds_b57 n 49 (nI i) f (nI N) w (τ 50 4) (ctU T j a) (nI (j + 1)) _
              rw [lo8_s, F_X5_odds_b57, if_neg (fun z => by have := (nI_ltI (a := 9) (by decide) (by omega)).mp z; omega), k49, ck_t, lts_e, M_faults (by omega), bnd_s, ← agr_fa ag hi, lti_e, lti_e, nI_1, Int32.add_zero]
              unfold ctU
              rw [hTT]
              by_cases c : fa (upd (V 1 σ) 4 (nI j)) i f = 0
              · rw [if_pos c, if_pos (decide_eq_true c)]
              · rw [if_neg c, if_neg (by rw [decide_eq_true_eq]; exact c)]) 10 0 1000 0 τ (by omega) (by omega) (agr_agrp (mrow h2 hτ))
            have em2 : lo8 F_X5_odds_b57 1000 49 (nI i) f (nI N) w (τ 50 4) 0 0 τ = lo8 F_X5_odds_b57 (n'' + 1) 49 (nI i) f (nI N) w (τ 50 4) (fldU (ctU T) 0 10 0) (nI 10) τ' := em
            refine ⟨_, ?_, mqp_end q2⟩
            have ep := M_pw (x := x) (g := g) (c := gcU g) (N := N) (w := w) (by omega) u1 (by
              rw [hx]
              by_cases c : w = 0
              · rw [if_pos c, if_pos c]; exact u2
              · rw [if_neg c, if_neg c]; exact u3) (up2 τ' 50 4 (τ 50 4)) N 0 1000 1 (by omega) (by omega)
            rw [F_X5_odds, k49, ck_t, M_isSitter h8 (m1of h1 (mrow h2 hτ)), bnd_s, if_t hs, M_isFlash, bnd_s, if_t hf, M_within, bnd_s, if_t hn, M_within, bnd_s, if_t hw, lti_e, em2, lo8_s, F_X5_odds_b57, if_pos (by decide), k49, ck_t, lts_e, eg0, M_eu, eu_10 g (by omega)]
            exact ep
        · refine op_e 0 ((-1000001 : Int32).toInt64) (by decide) h ?_ (fun τ hτ => ?_)
          · rw [F_X4_odds, k04, ck_t, C_isSitter k1 h1.2.1 h8, bnd_s, if_t hs, C_within, bnd_s, if_t hf, C_within, bnd_s, if_t hn, C_within, bnd_s, if_f (wi_f hw), C_f0, bnd_s]
          · rw [F_X5_odds, k49, ck_t, M_isSitter h8 (m1of h1 (mrow h2 hτ)), bnd_s, if_t hs, M_isFlash, bnd_s, if_t hf, M_within, bnd_s, if_t hn, M_within, bnd_s, if_f (wi_f hw), M_f0, bnd_s]
      · refine op_e 0 ((-1000001 : Int32).toInt64) (by decide) h ?_ (fun τ hτ => ?_)
        · rw [F_X4_odds, k04, ck_t, C_isSitter k1 h1.2.1 h8, bnd_s, if_t hs, C_within, bnd_s, if_t hf, C_within, bnd_s, if_f (wi_f hn), C_f0, bnd_s]
        · rw [F_X5_odds, k49, ck_t, M_isSitter h8 (m1of h1 (mrow h2 hτ)), bnd_s, if_t hs, M_isFlash, bnd_s, if_t hf, M_within, bnd_s, if_f (wi_f hn), M_f0, bnd_s]
    · refine op_e 0 ((-1000001 : Int32).toInt64) (by decide) h ?_ (fun τ hτ => ?_)
      · rw [F_X4_odds, k04, ck_t, C_isSitter k1 h1.2.1 h8, bnd_s, if_t hs, C_within, bnd_s, if_f (wi_f hf), C_f0, bnd_s]
      · rw [F_X5_odds, k49, ck_t, M_isSitter h8 (m1of h1 (mrow h2 hτ)), bnd_s, if_t hs, M_isFlash, bnd_s, if_f (wi_f hf), M_f0, bnd_s]
  · refine op_e 0 ((-1000001 : Int32).toInt64) (by decide) h ?_ (fun τ hτ => ?_)
    · rw [F_X4_odds, k04, ck_t, C_isSitter k1 h1.2.1 h8, bnd_s, if_f (wi_f hs), C_f0, bnd_s]
    · rw [F_X5_odds, k49, ck_t, M_isSitter h8 (m1of h1 (mrow h2 hτ)), bnd_s, if_f (wi_f hs), M_f0, bnd_s]

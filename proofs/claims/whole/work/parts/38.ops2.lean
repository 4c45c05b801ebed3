/-! PURE: the calls: set, sitter, of, change, faults, best -/
theorem mrow {σ : Sto} {m : Nat} (h2 : agr m (V 1 σ) (σ 50)) {τ : Sto} (hτ : ∀ k, 49 ≤ k → τ k = σ k) : agr m (V 1 σ) (τ 50) := by rw [hτ 50 (by decide)]; exact h2
theorem m1of {T m : Nat} {a b : Row} (h1 : okR T m a) (h : agr m a b) : b 1 = nI m := by rw [← h 1 (by omega)]; exact h1.2.1
def bm (k : Nat) : Int32 := if k = 0 then 60 else if k = 1 then 9 else if k = 2 then 20 else 99999
theorem C_bm {k : Nat} (hk : k ≤ 3) (σ : Sto) : F_X0_mostOf (nI k) σ = some (bm k, σ) := by
  rcases (show k = 0 ∨ k = 1 ∨ k = 2 ∨ k = 3 by omega) with rfl | rfl | rfl | rfl <;> rfl
theorem M_isSet {k : Nat} (hk : k ≤ 3) (v : Int32) (σ : Sto) : F_X5_isSet (nI k) v σ = some (b2i (wi v 0 (bm k)), σ) := by
  have e3 : (if b2i (wi v 0 99999) = 0 then some ((0 : Int32), σ) else some (1, σ)) = some (b2i (wi v 0 99999), σ) := by cases wi v 0 99999 <;> rfl
  rcases (show k = 0 ∨ k = 1 ∨ k = 2 ∨ k = 3 by omega) with rfl | rfl | rfl | rfl
  · rw [F_X5_isSet, if_pos (by decide), M_within, bnd_s, z01_b, ck_t]; rfl
  · rw [F_X5_isSet, if_neg (by decide), if_pos (by decide), M_within, bnd_s, z01_b, ck_t]; rfl
  · rw [F_X5_isSet, if_neg (by decide), if_neg (by decide), if_pos (by decide), M_within, bnd_s, z01_b, ck_t]; rfl
  · rw [F_X5_isSet, if_neg (by decide), if_neg (by decide), if_neg (by decide), if_pos (by decide), M_within, bnd_s, e3]; rfl
theorem M_isSet_no {w : Int32} (hw : wi w 0 3 = false) (v : Int32) (σ : Sto) : F_X5_isSet w v σ = some (0, σ) := by
  have n : ∀ k : Int32, wi k 0 3 = true → ¬ w = k := fun k hk e => by rw [e, hk] at hw; cases hw
  rw [F_X5_isSet, if_neg (n 0 (by decide)), if_neg (n 1 (by decide)), if_neg (n 2 (by decide)), if_neg (n 3 (by decide))]
theorem op_set (w v : Int32) : Op (F_X4_set 0 w v) (F_X5_set 49 w v) := by
  intro K σ hK h
  obtain ⟨⟨⟨m, h1, h2, h4⟩, hk⟩, hT, hS, hF⟩ := id h
  by_cases hw : wi w 0 3 = true
  · obtain ⟨k, hk3, rfl⟩ := wi_t (n := 3) (by decide) rfl hw
    by_cases hv : wi v 0 (bm k) = true
    · have em : ∀ τ : Sto, F_X5_set 49 (nI k) v τ = some (τ 50 (3 + k), up1 τ 50 (upd (τ 50) (3 + k) v)) := by
        intro τ
        rw [F_X5_set, M_isSet hk3, bnd_s, if_t hv, k49, ck_t, show 3 + nI k = nI (3 + k) from nI_add 3 k, M_becomeR (by omega), bnd_s]
      refine ⟨V 1 σ (3 + k), up2 σ 1 k v, _, ?_, (em _).trans (by rw [up2_e, up1_n (show ¬ 50 = 1 by decide), h2 (3 + k) (by omega)]), ?_⟩
      · rw [F_X4_set, C_isPart, bnd_s, if_t hw, C_bm hk3, bnd_s, C_within, bnd_s, if_t hv, k04, ck_t]
        rcases (show k = 0 ∨ k = 1 ∨ k = 2 ∨ k = 3 by omega) with rfl | rfl | rfl | rfl <;> rfl
      · have vv : V 1 (up2 σ 1 k v) = upd (V 1 σ) (3 + k) v := V_uh (b := 1) (by omega) (by omega)
        refine Rel_real h (fr_u (by omega)) (fun k' hk' => up1_n hk') ⟨m, ?_, ?_, ?_⟩
        · rw [vv]; exact okR_mono (okR_o h1 (by omega) (by omega) (by omega)) (by omega)
        · rw [vv, up1_s]; exact agr_u h2 rfl
        · rw [vv]; exact okS_u h4 fun i hi => ⟨by omega, by omega⟩
    · refine op_e0 h ?_ (fun τ hτ => ?_)
      · rw [F_X4_set, C_isPart, bnd_s, if_t hw, C_bm hk3, bnd_s, C_within, bnd_s, if_f (wi_f hv), k04, ck_t, C_f0, bnd_s]
      · rw [F_X5_set, M_isSet hk3, bnd_s, if_f (wi_f hv), k49, ck_t, M_f0, bnd_s]
  · refine op_e0 h ?_ (fun τ hτ => ?_)
    · rw [F_X4_set, C_isPart, bnd_s, if_f (wi_f hw), k04, ck_t, C_f0, bnd_s]
    · rw [F_X5_set, M_isSet_no (wi_f hw), bnd_s, if_pos rfl, k49, ck_t, M_f0, bnd_s]
theorem ns {m : Nat} {s : Int32} (h8 : m ≤ 8) (hs : ¬ isS m s = true) : ¬ ∃ i, i < m ∧ s = nI i := by
  rintro ⟨i, hi, rfl⟩
  exact hs (isS_nI hi h8)
theorem op_of (s w : Int32) : Op (F_X4_of 0 s w) (F_X5_of 49 s w) := by
  intro K σ hK h
  obtain ⟨⟨⟨m, h1, h2, h4⟩, hk⟩, hT, hS, hF⟩ := id h
  have h8 := h1.1
  by_cases hs : isS m s = true
  · obtain ⟨i, hi, rfl⟩ := isS_of hs
    have hi8 : i < 8 := by omega
    by_cases hw : wi w 0 8 = true
    · obtain ⟨k, hk8, rfl⟩ := wi_t (n := 8) (by decide) rfl hw
      have hs2 := kel k1 hi8
      have ec : ∃ r, (F_X4_of 0 (nI i) (nI k) σ = some (r, σ)) ∧ ∀ τ : Sto, (∀ k, 49 ≤ k → τ k = σ k) → F_X5_of 49 (nI i) (nI k) τ = some (r, τ) := by
        have c0 : ∀ p : Option (Int32 × Sto), (if nI k = 7 then ck (kd (1 + 1 + 1 + i) == 2) (bnd (F_X2_off (1 + 1 + 1 + i) (σ 1 0) σ) fun xr26 xσ23 => some (xr26, xσ23)) else if nI k = 8 then ck (kd (1 + 1 + 1 + i) == 2) (bnd (F_X2_mayBeOff (1 + 1 + 1 + i) σ) fun xr22 xσ19 => some (xr22, xσ19)) else ck (kd (1 + 1 + 1 + i) == 2) (bnd (F_X2_part (1 + 1 + 1 + i) (nI k) σ) fun xr18 xσ15 => some (xr18, xσ15))) = p → F_X4_of 0 (nI i) (nI k) σ = p := by
          intro p hp
          rw [F_X4_of, k04, ck_t, C_whoS k1 h1.2.1 h8 hi, bnd_s, oc_s, C_within, bnd_s, if_t hw]
          exact hp
        have m0 : ∀ (τ : Sto) (p : Option (Int32 × Sto)), τ 50 1 = nI m → (if 7 ≤ nI k then if nI k = 7 then bnd (F_X5_off 49 (nI i) τ) fun xr20 xσ18 => some (xr20, xσ18) else bnd (F_X5_may 49 (nI i) τ) fun xr17 xσ15 => some (xr17, xσ15) else bnd (F_X5_sitterIs 49 (nI i) (nI k) τ) fun xr23 xσ21 => some (xr23, xσ21)) = p → F_X5_of 49 (nI i) (nI k) τ = p := by
          intro τ p hτ hp
          rw [F_X5_of, k49, ck_t, M_isSitter h8 hτ, bnd_s, if_t hs, M_within, bnd_s, if_t hw]
          exact hp
        rcases (show k = 7 ∨ k = 8 ∨ k < 7 by omega) with rfl | rfl | hk7
        · refine ⟨iabs (V 1 σ (23 + 7 * i + 1) + V 1 σ 3 - 80), c0 _ ?_, fun τ hτ => m0 τ _ (m1of h1 (mrow h2 hτ)) ?_⟩
          · rw [if_pos (by decide), kdb _ hs2, ck_t, S2_off hs2, bnd_s, Vs 1 σ hi8 (by decide), V3 1 σ]
          · rw [if_pos (by decide), if_pos (by decide), M_off hi8, bnd_s, ← mrow h2 hτ (23 + 7 * i + 1) (by omega), ← mrow h2 hτ 3 (by omega)]
        · refine ⟨sMay (V 1 σ (23 + 7 * i)) (V 1 σ (23 + 7 * i + 2)), c0 _ ?_, fun τ hτ => m0 τ _ (m1of h1 (mrow h2 hτ)) ?_⟩
          · rw [if_neg (by decide), if_pos (by decide), kdb _ hs2, ck_t, S2_may hs2, bnd_s, Vs 1 σ hi8 (by decide), Vs 1 σ hi8 (by decide)]; rfl
          · rw [if_pos (by decide), if_neg (by decide), M_may hi8, bnd_s, ← mrow h2 hτ (23 + 7 * i) (by omega), ← mrow h2 hτ (23 + 7 * i + 2) (by omega)]
        · have n7 : ¬ nI k = 7 := fun e => by have := (nI_eq (b := 7) (by omega) (by decide)).mp e; omega
          have n8 : ¬ nI k = 8 := fun e => by have := (nI_eq (b := 8) (by omega) (by decide)).mp e; omega
          have l7 : ¬ (7 : Int32) ≤ nI k := fun e => by have := (nI_leI (a := 7) (by decide) (by omega)).mp e; omega
          refine ⟨V 1 σ (23 + 7 * i + k), c0 _ ?_, fun τ hτ => m0 τ _ (m1of h1 (mrow h2 hτ)) ?_⟩
          · rw [if_neg n7, if_neg n8, kdb _ hs2, ck_t, S2_part hs2 hk7, bnd_s, Vs 1 σ hi8 hk7]
          · rw [if_neg l7, M_is hi8 hk7, bnd_s, ← mrow h2 hτ (23 + 7 * i + k) (by omega)]
      obtain ⟨r, e1, e2⟩ := ec
      exact op_ans (r := r) h ⟨σ, e1, cq_r σ⟩ (fun τ hτ => ⟨τ, e2 τ hτ, mq_r τ⟩)
    · refine op_e0 h ?_ (fun τ hτ => ?_)
      · rw [F_X4_of, k04, ck_t, C_whoS k1 h1.2.1 h8 hi, bnd_s, oc_s, C_within, bnd_s, if_f (wi_f hw), C_f0, bnd_s]
      · rw [F_X5_of, k49, ck_t, M_isSitter h8 (m1of h1 (mrow h2 hτ)), bnd_s, if_t hs, M_within, bnd_s, if_f (wi_f hw), M_f0, bnd_s]
  · refine op_e0 h ?_ (fun τ hτ => ?_)
    · rw [F_X4_of, k04, ck_t, C_whoN k1 h1.2.1 h8 (ns h8 hs), bnd_s, oc_n, C_f0, bnd_s]
    · rw [F_X5_of, k49, ck_t, M_isSitter h8 (m1of h1 (mrow h2 hτ)), bnd_s, if_f (wi_f hs), M_f0, bnd_s]
theorem op_faults (s f : Int32) : Op (F_X4_faults 0 s f) (F_X5_faults 49 s f) := by
  intro K σ hK h
  obtain ⟨⟨⟨m, h1, h2, h4⟩, hk⟩, hT, hS, hF⟩ := id h
  have h8 := h1.1
  by_cases hs : isS m s = true
  · obtain ⟨i, hi, rfl⟩ := isS_of hs
    have hi8 : i < 8 := by omega
    by_cases hw : wi f 0 3 = true
    · refine op_ans (r := fa (V 1 σ) i f) h ⟨σ, ?_, cq_r σ⟩ (fun τ hτ => ⟨τ, ?_, mq_r τ⟩)
      · rw [F_X4_faults, k04, ck_t, C_whoS k1 h1.2.1 h8 hi, bnd_s, oc_s, C_within, bnd_s, if_t hw, C_faults k1 hi8, bnd_s]
      · rw [F_X5_faults, k49, ck_t, M_isSitter h8 (m1of h1 (mrow h2 hτ)), bnd_s, if_t hs, M_isFlash, bnd_s, if_t hw, M_faults hi8, bnd_s, agr_fa (mrow h2 hτ) hi]
    · refine op_e0 h ?_ (fun τ hτ => ?_)
      · rw [F_X4_faults, k04, ck_t, C_whoS k1 h1.2.1 h8 hi, bnd_s, oc_s, C_within, bnd_s, if_f (wi_f hw), C_f0, bnd_s]
      · rw [F_X5_faults, k49, ck_t, M_isSitter h8 (m1of h1 (mrow h2 hτ)), bnd_s, if_t hs, M_isFlash, bnd_s, if_f (wi_f hw), M_f0, bnd_s]
  · refine op_e0 h ?_ (fun τ hτ => ?_)
    · rw [F_X4_faults, k04, ck_t, C_whoN k1 h1.2.1 h8 (ns h8 hs), bnd_s, oc_n, C_f0, bnd_s]
    · rw [F_X5_faults, k49, ck_t, M_isSitter h8 (m1of h1 (mrow h2 hτ)), bnd_s, if_f (wi_f hs), M_f0, bnd_s]
theorem fa_lt (a : Row) (i : Nat) (f : Int32) : ∃ n, n < 32 ∧ fa a i f = nI n := fset_lt _ _ _ _ _
theorem M_bitsF (a : Row) (i : Nat) (f : Int32) (σ : Sto) : F_X5_bits (fa a i f) σ = some (bc (fa a i f), σ) := by
  obtain ⟨n, hn, e⟩ := fa_lt a i f
  rw [e]
  exact M_bits (by omega) σ
def bst (a : Row) (i : Nat) (b f : Int32) : Int32 := if bc (fa a i b) ≤ bc (fa a i f) then b else f
theorem op_best (s : Int32) : Op (F_X4_best 0 s) (F_X5_best 49 s) := by
  intro K σ hK h
  obtain ⟨⟨⟨m, h1, h2, h4⟩, hk⟩, hT, hS, hF⟩ := id h
  have h8 := h1.1
  by_cases hs : isS m s = true
  · obtain ⟨i, hi, rfl⟩ := isS_of hs
    have hi8 : i < 8 := by omega
    have cs : ∀ (k : Nat → Option Nat → Int32 → Int32 → Sto → Option (Int32 × Sto)) (b f : Int32), ¬ 4 ≤ f → F_X4_best_b25 k 0 (some (1 + 1 + 1 + i)) b f σ = k 0 (some (1 + 1 + 1 + i)) (bst (V 1 σ) i b f) (f + 1) σ := by
      intro k b f hf
      rw [F_X4_best_b25, if_neg hf, k04, ck_t, oc_s, C_faults k1 hi8, bnd_s, C_bits, bnd_s, C_faults k1 hi8, bnd_s, C_bits, bnd_s]
      unfold bst
      split <;> rfl
    have ms : ∀ (τ : Sto) (k : Nat → Int32 → Int32 → Int32 → Sto → Option (Int32 × Sto)) (b f : Int32), ¬ 4 ≤ f → F_X5_best_b19 k 49 (nI i) b f τ = k 49 (nI i) (bst (τ 50) i b f) (f + 1) τ := by
      intro τ k b f hf
      rw [F_X5_best_b19, if_neg hf, k49, ck_t, M_faults hi8, bnd_s, M_bitsF, bnd_s, M_faults hi8, bnd_s, M_bitsF, bnd_s]
      unfold bst
      split <;> rfl
    refine op_ans (r := bst (V 1 σ) i (bst (V 1 σ) i (bst (V 1 σ) i 0 1) 2) 3) h ⟨σ, ?_, cq_r σ⟩ (fun τ hτ => ⟨τ, ?_, mq_r τ⟩)
    · rw [F_X4_best, k04, ck_t, C_whoS k1 h1.2.1 h8 hi, bnd_s, oc_s]
      show F_X4_best_b25 (lo4 F_X4_best_b25 999) 0 _ 0 1 σ = _
      rw [cs _ _ _ (by decide)]
      show F_X4_best_b25 (lo4 F_X4_best_b25 998) 0 _ _ (1 + 1) σ = _
      rw [show (1 : Int32) + 1 = 2 from by decide, cs _ _ _ (by decide)]
      show F_X4_best_b25 (lo4 F_X4_best_b25 997) 0 _ _ (2 + 1) σ = _
      rw [show (2 : Int32) + 1 = 3 from by decide, cs _ _ _ (by decide)]
      show F_X4_best_b25 (lo4 F_X4_best_b25 996) 0 _ _ (3 + 1) σ = _
      rw [show (3 : Int32) + 1 = 4 from by decide, F_X4_best_b25, if_pos (by decide)]
    · have eb : ∀ b f, bst (τ 50) i b f = bst (V 1 σ) i b f := fun b f => by unfold bst; rw [agr_fa (mrow h2 hτ) hi, agr_fa (mrow h2 hτ) hi]
      rw [F_X5_best, k49, ck_t, M_isSitter h8 (m1of h1 (mrow h2 hτ)), bnd_s, if_t hs]
      show F_X5_best_b19 (lo4 F_X5_best_b19 999) 49 _ 0 1 τ = _
      rw [ms τ _ _ _ (by decide), eb]
      show F_X5_best_b19 (lo4 F_X5_best_b19 998) 49 _ _ (1 + 1) τ = _
      rw [show (1 : Int32) + 1 = 2 from by decide, ms τ _ _ _ (by decide), eb]
      show F_X5_best_b19 (lo4 F_X5_best_b19 997) 49 _ _ (2 + 1) τ = _
      rw [show (2 : Int32) + 1 = 3 from by decide, ms τ _ _ _ (by decide), eb]
      show F_X5_best_b19 (lo4 F_X5_best_b19 996) 49 _ _ (3 + 1) τ = _
      rw [show (3 : Int32) + 1 = 4 from by decide, F_X5_best_b19, if_pos (by decide)]
  · refine op_e0 h ?_ (fun τ hτ => ?_)
    · rw [F_X4_best, k04, ck_t, C_whoN k1 h1.2.1 h8 (ns h8 hs), bnd_s, oc_n, C_f0, bnd_s]
    · rw [F_X5_best, k49, ck_t, M_isSitter h8 (m1of h1 (mrow h2 hτ)), bnd_s, if_f (wi_f hs), M_f0, bnd_s]
/-! change -/
def sm (k : Nat) : Int32 := if k = 0 then 6 else if k = 1 then 90 else if k = 2 then 9 else if k = 3 then 9 else if k = 4 then 999 else if k = 5 then 999 else 9999
theorem C_sm {k : Nat} (hk : k ≤ 6) (σ : Sto) : F_X2_mostOf (nI k) σ = some (sm k, σ) := by
  rcases (show k = 0 ∨ k = 1 ∨ k = 2 ∨ k = 3 ∨ k = 4 ∨ k = 5 ∨ k = 6 by omega) with rfl | rfl | rfl | rfl | rfl | rfl | rfl <;> rfl
theorem M_isField {k : Nat} (hk : k ≤ 6) (v : Int32) (σ : Sto) : F_X5_isField (nI k) v σ = some (b2i (wi v 0 (sm k)), σ) := by
  rcases (show k = 0 ∨ k = 1 ∨ k = 2 ∨ k = 3 ∨ k = 4 ∨ k = 5 ∨ k = 6 by omega) with rfl | rfl | rfl | rfl | rfl | rfl | rfl
  · rw [F_X5_isField, if_pos (by decide), M_isKind, bnd_s, z01_b, ck_t]; rfl
  · rw [F_X5_isField, if_neg (by decide), if_pos (by decide), M_within, bnd_s, z01_b, ck_t]; rfl
  · rw [F_X5_isField, if_neg (by decide), if_neg (by decide), if_pos (by decide), M_within, bnd_s, z01_b, ck_t]; rfl
  · rw [F_X5_isField, if_neg (by decide), if_neg (by decide), if_neg (by decide), if_pos (by decide), M_within, bnd_s, z01_b, ck_t]; rfl
  · rw [F_X5_isField, if_neg (by decide), if_neg (by decide), if_neg (by decide), if_neg (by decide), if_pos (by decide), M_within, bnd_s, z01_b, ck_t]; rfl
  · rw [F_X5_isField, if_neg (by decide), if_neg (by decide), if_neg (by decide), if_neg (by decide), if_neg (by decide), if_pos (by decide), M_within, bnd_s, z01_b, ck_t]; rfl
  · rw [F_X5_isField, if_neg (by decide), if_neg (by decide), if_neg (by decide), if_neg (by decide), if_neg (by decide), if_neg (by decide), if_pos (by decide), M_within, bnd_s, z01_b, ck_t]; rfl
theorem M_isField_no {w : Int32} (hw : wi w 0 6 = false) (v : Int32) (σ : Sto) : F_X5_isField w v σ = some (0, σ) := by
  have n : ∀ k : Int32, wi k 0 6 = true → ¬ w = k := fun k hk e => by rw [e, hk] at hw; cases hw
  rw [F_X5_isField, if_neg (n 0 (by decide)), if_neg (n 1 (by decide)), if_neg (n 2 (by decide)), if_neg (n 3 (by decide)), if_neg (n 4 (by decide)), if_neg (n 5 (by decide)), if_neg (n 6 (by decide))]
theorem S2_put {s k : Nat} (hs : kd s = 2) (hk : k ≤ 6) (v : Int32) (σ : Sto) : F_X2_putPart s (nI k) v σ = some ((), up2 σ s k v) := by
  rw [F_X2_putPart, kdb s hs]
  rcases (show k = 0 ∨ k = 1 ∨ k = 2 ∨ k = 3 ∨ k = 4 ∨ k = 5 ∨ k = 6 by omega) with rfl | rfl | rfl | rfl | rfl | rfl | rfl <;> rfl
theorem okS_c {m i k : Nat} {a : Row} {v : Int32} (hs : okS m a) (hi : i < m) (hk : k ≤ 6) (hv : wi v 0 (sm k) = true) : okS m (upd a (23 + 7 * i + k) v) := by
  intro j hj
  obtain ⟨h1, h2⟩ := hs j hj
  refine ⟨?_, ?_⟩
  · rw [upd_i]
    by_cases e : 23 + 7 * j = 23 + 7 * i + k
    · have hk0 : k = 0 := by omega
      subst hk0
      rw [if_pos e]
      exact wi_t (n := 6) (by decide) rfl hv
    · rw [if_neg e]; exact h1
  · rw [upd_i]
    by_cases e : 23 + 7 * j + 5 = 23 + 7 * i + k
    · have hk0 : k = 5 := by omega
      subst hk0
      rw [if_pos e]
      exact wi_t (n := 999) (by decide) rfl hv
    · rw [if_neg e]; exact h2
theorem op_change (s w v : Int32) : Op (F_X4_change 0 s w v) (F_X5_change 49 s w v) := by
  intro K σ hK h
  obtain ⟨⟨⟨m, h1, h2, h4⟩, hk⟩, hT, hS, hF⟩ := id h
  have h8 := h1.1
  by_cases hs : isS m s = true
  · obtain ⟨i, hi, rfl⟩ := isS_of hs
    have hi8 : i < 8 := by omega
    have hs2 := kel k1 hi8
    by_cases hw : wi w 0 6 = true
    · obtain ⟨k, hk6, rfl⟩ := wi_t (n := 6) (by decide) rfl hw
      by_cases hv : wi v 0 (sm k) = true
      · have em : ∀ τ : Sto, τ 50 1 = nI m → F_X5_change 49 (nI i) (nI k) v τ = some (τ 50 (23 + 7 * i + k), up1 τ 50 (upd (τ 50) (23 + 7 * i + k) v)) := by
          intro τ hτ
          rw [F_X5_change, k49, ck_t, M_isSitter h8 hτ, bnd_s, if_t hs, M_isField hk6, bnd_s, if_t hv, M_at, bnd_s, M_becomeR (by omega), bnd_s]
        refine ⟨V 1 σ (23 + 7 * i + k), up2 σ (1 + 1 + 1 + i) k v, _, ?_, (em _ (by rw [up2_e, up1_n (by omega)]; exact m1of h1 h2)).trans (by rw [up2_e, up1_n (show ¬ 50 = 1 + 1 + 1 + i by omega), h2 (23 + 7 * i + k) (by omega)]), ?_⟩
        · rw [F_X4_change, k04, ck_t, C_whoS k1 h1.2.1 h8 hi, bnd_s, oc_s, C_within, bnd_s, if_t hw, C_sm hk6, bnd_s, C_within, bnd_s, if_t hv, kdb _ hs2, ck_t, S2_part hs2 (by omega), bnd_s, S2_put hs2 hk6, bnd_s, Vs 1 σ hi8 (by omega)]
        · have vv : V 1 (up2 σ (1 + 1 + 1 + i) k v) = upd (V 1 σ) (23 + 7 * i + k) v := V_us (b := 1) hi8 (by omega)
          refine Rel_real h (fr_u (by omega)) (fun k' hk' => up1_n hk') ⟨m, ?_, ?_, ?_⟩
          · rw [vv]; exact okR_mono (okR_o h1 (by omega) (by omega) (by omega)) (by omega)
          · rw [vv, up1_s]; exact agr_u h2 rfl
          · rw [vv]; exact okS_c h4 hi hk6 hv
      · refine op_e0 h ?_ (fun τ hτ => ?_)
        · rw [F_X4_change, k04, ck_t, C_whoS k1 h1.2.1 h8 hi, bnd_s, oc_s, C_within, bnd_s, if_t hw, C_sm hk6, bnd_s, C_within, bnd_s, if_f (wi_f hv), C_f0, bnd_s]
        · rw [F_X5_change, k49, ck_t, M_isSitter h8 (m1of h1 (mrow h2 hτ)), bnd_s, if_t hs, M_isField hk6, bnd_s, if_f (wi_f hv), M_f0, bnd_s]
    · refine op_e0 h ?_ (fun τ hτ => ?_)
      · rw [F_X4_change, k04, ck_t, C_whoS k1 h1.2.1 h8 hi, bnd_s, oc_s, C_within, bnd_s, if_f (wi_f hw), C_f0, bnd_s]
      · rw [F_X5_change, k49, ck_t, M_isSitter h8 (m1of h1 (mrow h2 hτ)), bnd_s, if_t hs, M_isField_no (wi_f hw), bnd_s, if_pos rfl, M_f0, bnd_s]
  · refine op_e0 h ?_ (fun τ hτ => ?_)
    · rw [F_X4_change, k04, ck_t, C_whoN k1 h1.2.1 h8 (ns h8 hs), bnd_s, oc_n, C_f0, bnd_s]
    · rw [F_X5_change, k49, ck_t, M_isSitter h8 (m1of h1 (mrow h2 hτ)), bnd_s, if_f (wi_f hs), M_f0, bnd_s]

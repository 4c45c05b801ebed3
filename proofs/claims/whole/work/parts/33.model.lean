/-! PURE: the reference: what its own methods answer, and what row they leave (its row is place 50) -/
theorem k49 : (kd 49 == 5) = true := by decide
theorem k50 : (kd 50 == 6) = true := by decide
theorem k51 : (kd 51 == 6) = true := by decide
theorem k52 : (kd 52 == 6) = true := by decide
theorem m_at (i k : Nat) : 23 + 7 * nI i + nI k = nI (23 + 7 * i + k) := by
  show nI 23 + nI 7 * nI i + nI k = _
  rw [pk_mul, nI_add, nI_add]
theorem M_at (i k : Nat) (σ : Sto) : F_X5_sitterAt (nI i) (nI k) σ = some (nI (23 + 7 * i + k), σ) := by
  unfold F_X5_sitterAt
  rw [m_at]
theorem M_is {i k : Nat} (hi : i < 8) (hk : k < 7) (σ : Sto) : F_X5_sitterIs 49 (nI i) (nI k) σ = some (σ 50 (23 + 7 * i + k), σ) := by
  unfold F_X5_sitterIs
  rw [k49, ck_t, M_at, bnd_s, inr_nI (by omega) (by decide), ck_t, nI_clamp (by omega)]
theorem M_at0 (i : Nat) (σ : Sto) : F_X5_sitterAt (nI i) 0 σ = some (nI (23 + 7 * i), σ) := M_at i 0 σ
theorem M_is0 {i : Nat} (hi : i < 8) (σ : Sto) : F_X5_sitterIs 49 (nI i) 0 σ = some (σ 50 (23 + 7 * i), σ) := M_is (k := 0) hi (by decide) σ
theorem M_at1 (i : Nat) (σ : Sto) : F_X5_sitterAt (nI i) 1 σ = some (nI (23 + 7 * i + 1), σ) := M_at i 1 σ
theorem M_is1 {i : Nat} (hi : i < 8) (σ : Sto) : F_X5_sitterIs 49 (nI i) 1 σ = some (σ 50 (23 + 7 * i + 1), σ) := M_is (k := 1) hi (by decide) σ
theorem M_at2 (i : Nat) (σ : Sto) : F_X5_sitterAt (nI i) 2 σ = some (nI (23 + 7 * i + 2), σ) := M_at i 2 σ
theorem M_is2 {i : Nat} (hi : i < 8) (σ : Sto) : F_X5_sitterIs 49 (nI i) 2 σ = some (σ 50 (23 + 7 * i + 2), σ) := M_is (k := 2) hi (by decide) σ
theorem M_at3 (i : Nat) (σ : Sto) : F_X5_sitterAt (nI i) 3 σ = some (nI (23 + 7 * i + 3), σ) := M_at i 3 σ
theorem M_is3 {i : Nat} (hi : i < 8) (σ : Sto) : F_X5_sitterIs 49 (nI i) 3 σ = some (σ 50 (23 + 7 * i + 3), σ) := M_is (k := 3) hi (by decide) σ
theorem M_at4 (i : Nat) (σ : Sto) : F_X5_sitterAt (nI i) 4 σ = some (nI (23 + 7 * i + 4), σ) := M_at i 4 σ
theorem M_is4 {i : Nat} (hi : i < 8) (σ : Sto) : F_X5_sitterIs 49 (nI i) 4 σ = some (σ 50 (23 + 7 * i + 4), σ) := M_is (k := 4) hi (by decide) σ
theorem M_at5 (i : Nat) (σ : Sto) : F_X5_sitterAt (nI i) 5 σ = some (nI (23 + 7 * i + 5), σ) := M_at i 5 σ
theorem M_is5 {i : Nat} (hi : i < 8) (σ : Sto) : F_X5_sitterIs 49 (nI i) 5 σ = some (σ 50 (23 + 7 * i + 5), σ) := M_is (k := 5) hi (by decide) σ
theorem M_at6 (i : Nat) (σ : Sto) : F_X5_sitterAt (nI i) 6 σ = some (nI (23 + 7 * i + 6), σ) := M_at i 6 σ
theorem M_is6 {i : Nat} (hi : i < 8) (σ : Sto) : F_X5_sitterIs 49 (nI i) 6 σ = some (σ 50 (23 + 7 * i + 6), σ) := M_is (k := 6) hi (by decide) σ
theorem M_off {i : Nat} (hi : i < 8) (σ : Sto) : F_X5_off 49 (nI i) σ = some (iabs (σ 50 (23 + 7 * i + 1) + σ 50 3 - 80), σ) := by
  unfold F_X5_off
  rw [k49, ck_t, M_is1 hi, bnd_s]
theorem M_may {i : Nat} (hi : i < 8) (σ : Sto) : F_X5_may 49 (nI i) σ = some (sMay (σ 50 (23 + 7 * i)) (σ 50 (23 + 7 * i + 2)), σ) := by
  unfold F_X5_may sMay
  rw [k49, ck_t, M_is0 hi, bnd_s, M_is2 hi, bnd_s]
  repeat' split
  all_goals rfl
theorem M_shut {i : Nat} (hi : i < 8) (f : Int32) (σ : Sto) : F_X5_isShut 49 (nI i) f σ = some (b2i (sShut (σ 50 (23 + 7 * i)) (σ 50 (23 + 7 * i + 2)) (σ 50 0) (σ 50 4) f), σ) := by
  have key : ∀ p q : Bool, F_X5_isShut_b44 49 (nI i) f (b2i p) (b2i q) σ = some (b2i (if σ 50 (23 + 7 * i) = 1 then p || !decide (σ 50 4 < 8) else if σ 50 (23 + 7 * i) = 2 then p else if σ 50 (23 + 7 * i) = 3 then q else if σ 50 (23 + 7 * i) = 4 then q && !decide (σ 50 4 < 4) else if σ 50 (23 + 7 * i) = 5 then p else if σ 50 (23 + 7 * i) = 6 then decide (irm f 2 = 0) else p), σ) := by
    intro p q
    unfold F_X5_isShut_b44
    rw [k49, ck_t, M_is0 hi, bnd_s]
    by_cases h8 : σ 50 4 < 8 <;> by_cases h4 : σ 50 4 < 4 <;> by_cases h2 : irm f 2 = 0 <;> cases p <;> cases q <;> simp only [h8, h4, h2, b2i_t, b2i_f, i10, if_true, if_false, z01_0, z01_1, ck_t, decide_true, decide_false, Bool.not_true, Bool.not_false, Bool.or_true, Bool.or_false, Bool.true_or, Bool.false_or, Bool.and_true, Bool.and_false, Bool.true_and, Bool.false_and] <;> (repeat' split) <;> rfl
  have k2 : ∀ p : Bool, F_X5_isShut_b25 49 (nI i) f (b2i p) σ = F_X5_isShut_b44 49 (nI i) f (b2i p) (b2i (decide (irm (σ 50 0 + f) 3 = 0))) σ := by
    intro p
    unfold F_X5_isShut_b25
    rw [k49, ck_t]
    by_cases h : irm (σ 50 0 + f) 3 = 0
    · rw [if_pos h, decide_eq_true h]; rfl
    · rw [if_neg h, decide_eq_false h]; rfl
  unfold F_X5_isShut
  rw [k49, ck_t, M_is2 hi, bnd_s]
  have k3 : (if irm (σ 50 0 + f + σ 50 (23 + 7 * i + 2)) 4 = 0 then F_X5_isShut_b25 49 (nI i) f 1 σ else F_X5_isShut_b25 49 (nI i) f 0 σ) = F_X5_isShut_b25 49 (nI i) f (b2i (decide (irm (σ 50 0 + f + σ 50 (23 + 7 * i + 2)) 4 = 0))) σ := by
    by_cases h : irm (σ 50 0 + f + σ 50 (23 + 7 * i + 2)) 4 = 0
    · rw [if_pos h, decide_eq_true h]; rfl
    · rw [if_neg h, decide_eq_false h]; rfl
  rw [k3, k2, key]
  rfl
theorem M_smile {i : Nat} (hi : i < 8) (f : Int32) (σ : Sto) : F_X5_isSmiling 49 (nI i) f σ = some (b2i (sSmile (σ 50 (23 + 7 * i)) (σ 50 (23 + 7 * i + 3)) f), σ) := by
  have key : ∀ (me : Int32) (p : Bool), F_X5_isSmiling_b27 49 (nI i) f me (b2i p) σ = some (b2i (if σ 50 (23 + 7 * i) = 1 then !decide (me + f ≤ 4) else if σ 50 (23 + 7 * i) = 2 then p else if σ 50 (23 + 7 * i) = 3 then false else if σ 50 (23 + 7 * i) = 4 then false else if σ 50 (23 + 7 * i) = 5 then p && !decide (f = 0) else if σ 50 (23 + 7 * i) = 6 then false else p), σ) := by
    intro me p
    unfold F_X5_isSmiling_b27
    rw [k49, ck_t, M_is0 hi, bnd_s]
    generalize me + f = w
    by_cases h8 : w ≤ 4 <;> by_cases h4 : f = 0 <;> cases p <;> simp only [h8, h4, b2i_t, b2i_f, i10, if_true, if_false, z01_0, z01_1, ck_t, decide_true, decide_false, Bool.not_true, Bool.not_false, Bool.and_true, Bool.and_false, Bool.true_and, Bool.false_and] <;> (repeat' split) <;> rfl
  unfold F_X5_isSmiling F_X5_isSmiling_b22 F_X5_isSmiling_b26
  rw [k49, ck_t, M_is3 hi, bnd_s]
  have k3 : ∀ me : Int32, (if 5 < me then F_X5_isSmiling_b27 49 (nI i) f me 1 σ else if f = 3 then if me ≤ 2 then F_X5_isSmiling_b27 49 (nI i) f me 0 σ else F_X5_isSmiling_b27 49 (nI i) f me 1 σ else F_X5_isSmiling_b27 49 (nI i) f me 0 σ) = F_X5_isSmiling_b27 49 (nI i) f me (b2i (sPl me f)) σ := by
    intro me
    unfold sPl
    by_cases h1 : 5 < me <;> by_cases h2 : f = 3 <;> by_cases h3 : me ≤ 2 <;> simp only [h1, h2, h3, if_true, if_false, decide_true, decide_false, Bool.not_true, Bool.not_false, Bool.or_true, Bool.or_false, Bool.true_or, Bool.false_or, Bool.and_true, Bool.and_false, Bool.true_and, Bool.false_and] <;> rfl
  rw [k3, key]
  rfl
theorem M_shine {i : Nat} (hi : i < 8) (σ : Sto) : F_X5_isShining 49 (nI i) σ = some (b2i (sShine (σ 50 (23 + 7 * i)) (σ 50 4)), σ) := by
  unfold F_X5_isShining sShine F_X5_isShining_b40
  rw [k49, ck_t, M_is0 hi, bnd_s]
  generalize σ 50 (23 + 7 * i) = q
  by_cases h4 : q = 4
  · subst h4
    by_cases h5 : σ 50 4 ≤ 5
    · rw [if_pos rfl, if_pos h5, if_neg (by decide), if_neg (by decide), if_pos rfl, decide_eq_true h5]; rfl
    · rw [if_pos rfl, if_neg h5, if_neg (by decide), if_neg (by decide), if_pos rfl, decide_eq_false h5]; rfl
  · rw [if_neg h4, if_neg h4]
    by_cases h8 : σ 50 4 ≤ 6 <;> simp only [h8, ck_t, if_true, if_false, decide_true, decide_false, Bool.not_true, Bool.not_false] <;> (repeat' split) <;> rfl
theorem fset_model (o s m h d : Bool) : fset o s m h d = (((((if o then (1 : Int32) else 0) ||| (if s then 2 else 0)) ||| (if m then 4 else 0)) ||| (if h then 8 else 0)) ||| (if d then 16 else 0)) := by
  cases o <;> cases s <;> cases m <;> cases h <;> cases d <;> decide
theorem M_faults {i : Nat} (hi : i < 8) (f : Int32) (σ : Sto) : F_X5_faultsNow 49 (nI i) f σ = some (fa (σ 50) i f, σ) := by
  have k4 : ∀ u v : Int32, F_X5_faultsNow_b68 49 u v σ = some (((v ||| u) ||| (if (!decide (2 ≤ σ 50 4)) = true then 16 else 0)), σ) := by
    intro u v
    unfold F_X5_faultsNow_b68
    rw [lti_e, k49, ck_t]
    by_cases h : 2 ≤ σ 50 4
    · rw [if_pos h, decide_eq_true h]; rfl
    · rw [if_neg h, decide_eq_false h]; rfl
  have k3 : ∀ u v : Int32, F_X5_faultsNow_b51 49 (nI i) u v σ = F_X5_faultsNow_b68 49 (if sShine (σ 50 (23 + 7 * i)) (σ 50 4) = true then 8 else 0) (v ||| u) σ := by
    intro u v
    unfold F_X5_faultsNow_b51
    rw [lti_e, k49, ck_t, M_shine hi, bnd_s]
    cases sShine (σ 50 (23 + 7 * i)) (σ 50 4) <;> rfl
  have k2 : ∀ u v : Int32, F_X5_faultsNow_b34 49 (nI i) f u v σ = F_X5_faultsNow_b51 49 (nI i) (if sSmile (σ 50 (23 + 7 * i)) (σ 50 (23 + 7 * i + 3)) f = true then 4 else 0) (v ||| u) σ := by
    intro u v
    unfold F_X5_faultsNow_b34
    rw [lti_e, k49, ck_t, M_smile hi, bnd_s]
    cases sSmile (σ 50 (23 + 7 * i)) (σ 50 (23 + 7 * i + 3)) f <;> rfl
  have k1 : ∀ u : Int32, F_X5_faultsNow_b18 49 (nI i) f u σ = F_X5_faultsNow_b34 49 (nI i) f (if sShut (σ 50 (23 + 7 * i)) (σ 50 (23 + 7 * i + 2)) (σ 50 0) (σ 50 4) f = true then 2 else 0) u σ := by
    intro u
    unfold F_X5_faultsNow_b18
    rw [k49, ck_t, M_shut hi, bnd_s]
    cases sShut (σ 50 (23 + 7 * i)) (σ 50 (23 + 7 * i + 2)) (σ 50 0) (σ 50 4) f <;> rfl
  unfold F_X5_faultsNow
  rw [k49, ck_t, M_off hi, bnd_s, M_may hi, bnd_s]
  have k0 : (if iabs (σ 50 (23 + 7 * i + 1) + σ 50 3 - 80) ≤ sMay (σ 50 (23 + 7 * i)) (σ 50 (23 + 7 * i + 2)) then F_X5_faultsNow_b18 49 (nI i) f 0 σ else F_X5_faultsNow_b18 49 (nI i) f 1 σ) = F_X5_faultsNow_b18 49 (nI i) f (if (!decide (iabs (σ 50 (23 + 7 * i + 1) + σ 50 3 - 80) ≤ sMay (σ 50 (23 + 7 * i)) (σ 50 (23 + 7 * i + 2)))) = true then 1 else 0) σ := by
    by_cases h : iabs (σ 50 (23 + 7 * i + 1) + σ 50 3 - 80) ≤ sMay (σ 50 (23 + 7 * i)) (σ 50 (23 + 7 * i + 2))
    · rw [if_pos h, decide_eq_true h]; rfl
    · rw [if_neg h, decide_eq_false h]; rfl
  rw [k0, k1, k2, k3, k4]
  unfold fa sF
  rw [fset_model]
theorem M_good {i : Nat} (hi : i < 8) (σ : Sto) : F_X5_isGood 49 (nI i) σ = some (b2i (good (σ 50) i), σ) := by
  have st : ∀ (k : Nat → Int32 → Int32 → Int32 → Sto → Option (Int32 × Sto)) (f : Int32) (g : Bool), ¬ 4 ≤ f → F_X5_isGood_b4 k 49 (nI i) (b2i g) f σ = k 49 (nI i) (b2i (g || decide (fa (σ 50) i f = 0))) (f + 1) σ := by
    intro k f g hf
    unfold F_X5_isGood_b4
    rw [if_neg hf, k49, ck_t, M_faults hi, bnd_s]
    cases g
    · rw [if_pos (show b2i false = 0 from rfl)]
      by_cases h : fa (σ 50) i f = 0
      · rw [if_pos h, decide_eq_true h]; rfl
      · rw [if_neg h, decide_eq_false h]; rfl
    · rw [if_neg (by decide), Bool.true_or]; rfl
  unfold F_X5_isGood
  show F_X5_isGood_b4 (lo4 F_X5_isGood_b4 999) 49 (nI i) (b2i false) 0 σ = _
  rw [st _ _ _ (by decide)]
  show F_X5_isGood_b4 (lo4 F_X5_isGood_b4 998) 49 (nI i) _ (0 + 1) σ = _
  rw [show (0 : Int32) + 1 = 1 from by decide, st _ _ _ (by decide)]
  show F_X5_isGood_b4 (lo4 F_X5_isGood_b4 997) 49 (nI i) _ (1 + 1) σ = _
  rw [show (1 : Int32) + 1 = 2 from by decide, st _ _ _ (by decide)]
  show F_X5_isGood_b4 (lo4 F_X5_isGood_b4 996) 49 (nI i) _ (2 + 1) σ = _
  rw [show (2 : Int32) + 1 = 3 from by decide, st _ _ _ (by decide)]
  show F_X5_isGood_b4 (lo4 F_X5_isGood_b4 995) 49 (nI i) _ (3 + 1) σ = _
  rw [show (3 : Int32) + 1 = 4 from by decide]
  unfold F_X5_isGood_b4 good
  rw [if_pos (show (4 : Int32) ≤ 4 by decide), Bool.false_or, Bool.or_assoc, Bool.or_assoc]
  cases (decide (fa (σ 50) i 0 = 0) || (decide (fa (σ 50) i 1 = 0) || (decide (fa (σ 50) i 2 = 0) || decide (fa (σ 50) i 3 = 0)))) <;> rfl
theorem up2_up1 (σ : Sto) (k j : Nat) (f : Row) (v : Int32) : up2 (up1 σ k f) k j v = up1 σ k (upd f j v) := by
  rw [up2_e, up1_t, up1_s]
theorem M_turn {t : Int32} (σ : Sto) : F_X5_turnsStool 49 t σ = some ((), up2 σ 50 3 (σ 50 3 + imax (-4) (imin (imax 0 (imin (80 - t) 60) - σ 50 3) 4))) := by
  unfold F_X5_turnsStool
  rw [lti_e, k49, ck_t, lti_e, lts_e, imin_c 60, imin_c 4]
theorem M_sits {i : Nat} (hi : i < 8) (σ : Sto) : F_X5_sits 49 (nI i) σ = some ((), up1 σ 50 (sits (σ 50) i)) := by
  have n : ∀ k, k < 7 → inr (nI (23 + 7 * i + k)) 79 = true := fun k hk => inr_nI (by omega) (by decide)
  have c : ∀ k, k < 7 → (nI (23 + 7 * i + k)).toNatClampNeg = 23 + 7 * i + k := fun k hk => nI_clamp (by omega)
  obtain ⟨σ1, e1⟩ : ∃ s, s = up2 σ 50 (23 + 7 * i + 4) (σ 50 (23 + 7 * i + 4) - σ 50 5) := ⟨_, rfl⟩
  have v1 : σ1 = up1 σ 50 (sitA (σ 50) i) := e1
  obtain ⟨σ2, e2⟩ : ∃ s, s = up2 σ1 50 6 (imin 99999 (σ1 50 6 + σ1 50 5)) := ⟨_, rfl⟩
  have v2 : σ2 = up1 σ 50 (sitB (sitA (σ 50) i)) := by rw [e2, v1, up2_up1, up1_s, imin_c]; rfl
  obtain ⟨σ3, e3⟩ : ∃ s, s = up2 σ2 50 (23 + 7 * i + 6) (imin 9999 (σ2 50 (23 + 7 * i + 6) + 1)) := ⟨_, rfl⟩
  have v3 : σ3 = up1 σ 50 (sitC (sitB (sitA (σ 50) i)) i) := by rw [e3, v2, up2_up1, up1_s, imin_c]; rfl
  obtain ⟨σ4, e4⟩ : ∃ s, s = up2 σ3 50 3 (σ3 50 3 + imax (-4) (imin (imax 0 (imin (80 - σ3 50 (23 + 7 * i + 1)) 60) - σ3 50 3) 4)) := ⟨_, rfl⟩
  have v4 : σ4 = up1 σ 50 (sitT (σ 50) i) := by rw [e4, v3, up2_up1, up1_s]; rfl
  have step : F_X5_sits 49 (nI i) σ = (if b2i (good (σ4 50) i) = 0 then some ((), up2 σ4 50 (23 + 7 * i + 3) (imax 0 (σ4 50 (23 + 7 * i + 3) - 1))) else some ((), up2 (up2 σ4 50 (23 + 7 * i + 5) (imin 999 (σ4 50 (23 + 7 * i + 5) + 1))) 50 (23 + 7 * i + 2) (imin 9 ((up2 σ4 50 (23 + 7 * i + 5) (imin 999 (σ4 50 (23 + 7 * i + 5) + 1))) 50 (23 + 7 * i + 2) + 1)))) := by
    unfold F_X5_sits
    rw [k49, ck_t, M_at4, bnd_s, n 4 (by decide), ck_t, ck_t, lts_e, c 4 (by decide), ← e1, lts_e, ← e2, M_at6, bnd_s, M_is6 hi, bnd_s, n 6 (by decide), ck_t, lts_e, c 6 (by decide), ← e3, M_is1 hi, bnd_s, M_turn, bnd_s, ← e4, M_good hi, bnd_s, M_at3, bnd_s, M_is3 hi, bnd_s, n 3 (by decide), ck_t, lts_e, c 3 (by decide), M_at5, bnd_s, M_is5 hi, bnd_s, n 5 (by decide), ck_t, lts_e, c 5 (by decide), M_at2, bnd_s, M_is2 hi, bnd_s, n 2 (by decide), ck_t, lts_e, c 2 (by decide)]
  rw [step, v4, up1_s]
  unfold sits
  cases hg : good (sitT (σ 50) i) i
  · rw [if_pos (show b2i false = 0 from rfl), if_neg (by decide), up2_up1, imax_c]; rfl
  · rw [if_neg (by decide), if_pos rfl, up2_up1, up1_s, up2_up1, imin_c 999, imin_c 9]; rfl
theorem M_pay {m : Nat} (h8 : m ≤ 8) (σ0 : Sto) (hm : σ0 50 1 = nI m) (h0 : irm (σ0 50 0) 6 = 0) : ∀ (d j n : Nat), j + d = m → d < n → lo2 F_X5_minute_b41 n 49 (nI j) (up1 σ0 50 (payN j (σ0 50))) = some ((), up1 σ0 50 (payN m (σ0 50))) := by
  intro d
  induction d with
  | zero =>
    intro j n hj hn
    have hjm : j = m := by omega
    subst hjm
    obtain ⟨n, rfl⟩ : ∃ k, n = k + 1 := ⟨n - 1, by omega⟩
    show F_X5_minute_b41 (lo2 F_X5_minute_b41 n) 49 (nI j) _ = _
    unfold F_X5_minute_b41
    rw [k49, ck_t, up1_s, payN_1, hm, if_pos (Int32.le_refl _)]
  | succ d ih =>
    intro j n hj hn
    obtain ⟨n, rfl⟩ : ∃ k, n = k + 1 := ⟨n - 1, by omega⟩
    have hj8 : j < 8 := by omega
    show F_X5_minute_b41 (lo2 F_X5_minute_b41 n) 49 (nI j) _ = _
    unfold F_X5_minute_b41
    rw [k49, ck_t, up1_s, payN_1, hm, if_neg (fun q => by have := (nI_leI (by omega) (by omega)).mp q; omega), payN_n _ (by decide), if_pos h0, M_at4, bnd_s, M_is4 hj8, bnd_s, inr_nI (by omega) (by decide), ck_t, lts_e, nI_clamp (by omega), up2_up1, up1_s, nI_1, imin_c]
    exact ih (j + 1) n (by omega) (by omega)
theorem M_pay0 {m : Nat} (h8 : m ≤ 8) (σ : Sto) (hm : σ 50 1 = nI m) (h0 : ¬ irm (σ 50 0) 6 = 0) : lo2 F_X5_minute_b41 1000 49 0 σ = some ((), σ) := by
  show F_X5_minute_b41 (lo2 F_X5_minute_b41 999) 49 0 σ = _
  unfold F_X5_minute_b41
  rw [k49, ck_t, if_neg h0, ite_self]
theorem M_tick {m : Nat} (h8 : m ≤ 8) (σ : Sto) (hm : σ 50 1 = nI m) : F_X5_minute_b29 49 σ = some ((), up1 σ 50 (tick (σ 50))) := by
  unfold F_X5_minute_b29
  rw [k49, ck_t, lts_e]
  obtain ⟨σ1, e1⟩ : ∃ s, s = up2 σ 50 0 (σ 50 0 + 1) := ⟨_, rfl⟩
  have v1 : σ1 = up1 σ 50 (tickA (σ 50)) := e1
  have r1 : σ1 50 = tickA (σ 50) := by rw [v1, up1_s]
  have hm1 : σ1 50 1 = nI m := by rw [r1]; unfold tickA; rw [upd_n (by decide)]; exact hm
  have hn : nOf (tickA (σ 50)) = m := by rw [← r1]; unfold nOf; rw [hm1]; exact nI_clamp (by omega)
  rw [← e1]
  unfold tick
  by_cases h : irm (tickA (σ 50) 0) 6 = 0
  · rw [if_pos h, hn]
    have h1 := M_pay h8 σ1 hm1 (by rw [r1]; exact h) m 0 1000 (by omega) (by omega)
    have h2 : up1 σ1 50 (payN 0 (σ1 50)) = σ1 := up1_same rfl
    rw [h2] at h1
    refine h1.trans ?_
    rw [v1, up1_t, up1_s]
  · rw [if_neg h, M_pay0 h8 σ1 hm1 (by rw [r1]; exact h), v1]
theorem M_minute {T m : Nat} (σ : Sto) (hok : okR T m (σ 50)) (hT : T < 2 ^ 31) : F_X5_minute 49 σ = some ((), up1 σ 50 (minR (σ 50))) := by
  obtain ⟨h8, hm, ⟨t', ht', ht⟩, hq, -⟩ := hok
  have e0 : F_X5_next 49 σ = some (σ 50 (17 + t' % 6), σ) := by
    unfold F_X5_next
    rw [k49, ck_t, ht, irm6 (by omega), show (17 : Int32) + nI (t' % 6) = nI (17 + t' % 6) from nI_add 17 _, inr_nI (by omega) (by decide), ck_t, nI_clamp (by omega)]
  have en : nxt (σ 50) = σ 50 (17 + t' % 6) := by unfold nxt; rw [ht, irm6 (by omega), nI_clamp (by omega)]
  unfold F_X5_minute minR
  rw [k49, ck_t, e0, bnd_s, en]
  unfold seated
  rcases hq (t' % 6) (by omega) with hw | ⟨i, hi, hw⟩
  · rw [hw, if_pos (by decide), if_pos (by decide)]
    exact M_tick h8 σ hm
  · have hi8 : i < 8 := by omega
    rw [hw, if_neg (nI_pos (by omega)), if_neg (nI_pos (by omega)), nI_clamp (by omega), M_is4 hi8, bnd_s]
    by_cases hc : σ 50 (23 + 7 * i + 4) < σ 50 5
    · rw [if_pos hc, if_pos hc]
      exact M_tick h8 σ hm
    · rw [if_neg hc, if_neg hc, M_sits hi8, bnd_s, M_tick h8 (up1 σ 50 (sits (σ 50) i)) (by rw [up1_s, sits_n (by omega) (by omega) (by omega)]; exact hm), up1_s, up1_t]
theorem M_mins {m : Nat} (N : Nat) (hN : N < 2 ^ 31) : ∀ (d j n T : Nat) (σ : Sto), j + d = N → d < n → okR T m (σ 50) → T + d < 2 ^ 31 → lo3 F_X5_minutes_b2 n 49 (nI N) (nI j) σ = some ((), up1 σ 50 (minsR d (σ 50))) := by
  intro d
  induction d with
  | zero =>
    intro j n T σ hj hn hok hT
    have hjm : j = N := by omega
    subst hjm
    obtain ⟨n, rfl⟩ : ∃ k, n = k + 1 := ⟨n - 1, by omega⟩
    show F_X5_minutes_b2 (lo3 F_X5_minutes_b2 n) 49 (nI j) (nI j) σ = _
    unfold F_X5_minutes_b2
    rw [if_pos (Int32.le_refl _)]
    show _ = some ((), up1 σ 50 (σ 50))
    rw [up1_same rfl]
  | succ d ih =>
    intro j n T σ hj hn hok hT
    obtain ⟨n, rfl⟩ : ∃ k, n = k + 1 := ⟨n - 1, by omega⟩
    show F_X5_minutes_b2 (lo3 F_X5_minutes_b2 n) 49 (nI N) (nI j) σ = _
    rw [F_X5_minutes_b2, if_neg (fun q => by have := (nI_leI hN (by omega)).mp q; omega), k49, ck_t, M_minute σ hok (by omega), bnd_s, nI_1, ih (j + 1) n (T + 1) _ (by omega) (by omega) (by rw [up1_s]; exact okR_min hok) (by omega), up1_t, up1_s]
    rfl
theorem M_minutes {T m N : Nat} (σ : Sto) (hok : okR T m (σ 50)) (hN : N ≤ 900) (hT : T + N < 2 ^ 31) : F_X5_minutes 49 (nI N) σ = some ((), up1 σ 50 (minsR N (σ 50))) :=
  M_mins N (by omega) N 0 1000 T σ (by omega) (by omega) hok hT

/-! PURE: the class's Sitter and Booth: what each method answers, and what row it leaves -/
theorem kdb (b : Nat) {c : Nat} (h : kd b = c) : (kd b == c) = true := by rw [h]; exact beq_self_eq_true c
theorem kel {b i : Nat} (hb : kd b = 0) (hi : i < 8) : kd (b + 1 + 1 + i) = 2 := by
  have h2 := el7n hb
  rcases (show i = 0 ∨ i = 1 ∨ i = 2 ∨ i = 3 ∨ i = 4 ∨ i = 5 ∨ i = 6 ∨ i = 7 by omega) with rfl | rfl | rfl | rfl | rfl | rfl | rfl | rfl
  · exact h2.1
  · exact h2.2.1
  · exact h2.2.2.1
  · exact h2.2.2.2.1
  · exact h2.2.2.2.2.1
  · exact h2.2.2.2.2.2.1
  · exact h2.2.2.2.2.2.2.1
  · exact h2.2.2.2.2.2.2.2
theorem inr_nI {i n : Nat} (h : i < n) (hn : n < 2 ^ 31) : inr (nI i) n = true := by
  unfold inr
  rw [nI_clamp (by omega), Bool.and_eq_true, decide_eq_true_eq, decide_eq_true_eq]
  exact ⟨nI_pos' (by omega), h⟩
theorem S2_off {s : Nat} (hs : kd s = 2) (st : Int32) (σ : Sto) : F_X2_off s st σ = some (iabs (σ s 1 + st - 80), σ) := by
  unfold F_X2_off
  rw [kdb s hs, ck_t]
theorem S2_may {s : Nat} (hs : kd s = 2) (σ : Sto) : F_X2_mayBeOff s σ = some (sMay (σ s 0) (σ s 2), σ) := by
  unfold F_X2_mayBeOff sMay
  rw [kdb s hs, ck_t, lti_e]
  repeat' split
  all_goals rfl
theorem S2_shut {s : Nat} (hs : kd s = 2) (f mi li : Int32) (σ : Sto) : F_X2_isShut s f mi li σ = some (b2i (sShut (σ s 0) (σ s 2) mi li f), σ) := by
  have key : ∀ p q : Bool, F_X2_isShut_b33 s f li (b2i p) (b2i q) σ = some (b2i (if σ s 0 = 1 then p || !decide (li < 8) else if σ s 0 = 2 then p else if σ s 0 = 3 then q else if σ s 0 = 4 then q && !decide (li < 4) else if σ s 0 = 5 then p else if σ s 0 = 6 then decide (irm f 2 = 0) else p), σ) := by
    intro p q
    unfold F_X2_isShut_b33
    rw [kdb s hs, ck_t, lti_e]
    by_cases h8 : li < 8 <;> by_cases h4 : li < 4 <;> by_cases h2 : irm f 2 = 0 <;> cases p <;> cases q <;> simp only [h8, h4, h2, b2i_t, b2i_f, i10, if_true, if_false, z01_0, z01_1, ck_t, decide_true, decide_false, Bool.not_true, Bool.not_false, Bool.or_true, Bool.or_false, Bool.true_or, Bool.false_or, Bool.and_true, Bool.and_false, Bool.true_and, Bool.false_and] <;> (repeat' split) <;> rfl
  have k2 : ∀ p : Bool, F_X2_isShut_b18 s f mi li (b2i p) σ = F_X2_isShut_b33 s f li (b2i p) (b2i (decide (irm (mi + f) 3 = 0))) σ := by
    intro p
    unfold F_X2_isShut_b18
    by_cases h : irm (mi + f) 3 = 0
    · rw [if_pos h, decide_eq_true h]; rfl
    · rw [if_neg h, decide_eq_false h]; rfl
  unfold F_X2_isShut
  rw [kdb s hs, ck_t]
  have k3 : (if irm (mi + f + σ s 2) 4 = 0 then F_X2_isShut_b18 s f mi li 1 σ else F_X2_isShut_b18 s f mi li 0 σ) = F_X2_isShut_b18 s f mi li (b2i (decide (irm (mi + f + σ s 2) 4 = 0))) σ := by
    by_cases h : irm (mi + f + σ s 2) 4 = 0
    · rw [if_pos h, decide_eq_true h]; rfl
    · rw [if_neg h, decide_eq_false h]; rfl
  rw [k3, k2, key]
  rfl
theorem S2_smile {s : Nat} (hs : kd s = 2) (f : Int32) (σ : Sto) : F_X2_isSmiling s f σ = some (b2i (sSmile (σ s 0) (σ s 3) f), σ) := by
  have key : ∀ p : Bool, F_X2_isSmiling_b26 s f (b2i p) σ = some (b2i (if σ s 0 = 1 then !decide (σ s 3 + f ≤ 4) else if σ s 0 = 2 then p else if σ s 0 = 3 then false else if σ s 0 = 4 then false else if σ s 0 = 5 then p && !decide (f = 0) else if σ s 0 = 6 then false else p), σ) := by
    intro p
    unfold F_X2_isSmiling_b26
    rw [kdb s hs, ck_t, lti_e]
    generalize σ s 3 + f = w
    by_cases h8 : w ≤ 4 <;> by_cases h4 : f = 0 <;> cases p <;> simp only [h8, h4, b2i_t, b2i_f, i10, if_true, if_false, z01_0, z01_1, ck_t, decide_true, decide_false, Bool.not_true, Bool.not_false, Bool.and_true, Bool.and_false, Bool.true_and, Bool.false_and] <;> (repeat' split) <;> rfl
  unfold F_X2_isSmiling F_X2_isSmiling_b21 F_X2_isSmiling_b25
  rw [kdb s hs, ck_t]
  have k3 : (if 5 < σ s 3 then F_X2_isSmiling_b26 s f 1 σ else if f = 3 then if σ s 3 ≤ 2 then F_X2_isSmiling_b26 s f 0 σ else F_X2_isSmiling_b26 s f 1 σ else F_X2_isSmiling_b26 s f 0 σ) = F_X2_isSmiling_b26 s f (b2i (sPl (σ s 3) f)) σ := by
    unfold sPl
    by_cases h1 : 5 < σ s 3 <;> by_cases h2 : f = 3 <;> by_cases h3 : σ s 3 ≤ 2 <;> simp only [h1, h2, h3, if_true, if_false, decide_true, decide_false, Bool.not_true, Bool.not_false, Bool.or_true, Bool.or_false, Bool.true_or, Bool.false_or, Bool.and_true, Bool.and_false, Bool.true_and, Bool.false_and] <;> rfl
  rw [k3, key]
  rfl
theorem S2_shine {s : Nat} (hs : kd s = 2) (li : Int32) (σ : Sto) : F_X2_isShining s li σ = some (b2i (sShine (σ s 0) li), σ) := by
  unfold F_X2_isShining sShine
  rw [kdb s hs, ck_t, lti_e]
  by_cases h8 : li ≤ 6 <;> by_cases h4 : li ≤ 5 <;> simp only [h8, h4, if_true, if_false, decide_true, decide_false, Bool.not_true, Bool.not_false] <;> (repeat' split) <;> rfl
theorem fset_class (o s m h d : Bool) : fset o s m h d = (let x0 : Int32 := if d then 16 else 0; let x1 : Int32 := if o then x0 ||| 1 else x0; let x2 : Int32 := if s then x1 ||| 2 else x1; let x3 : Int32 := if m then x2 ||| 4 else x2; if h then x3 ||| 8 else x3) := by
  cases o <;> cases s <;> cases m <;> cases h <;> cases d <;> decide
theorem S0_faults {b s : Nat} (hb : kd b = 0) (hs : kd s = 2) (f : Int32) (σ : Sto) : F_X0_faultsOf b s f σ = some (sF (σ s 0) (σ s 1) (σ s 2) (σ s 3) (σ b 0) (σ b 1) (σ b 4) f, σ) := by
  have k4 : ∀ v : Int32, F_X0_faultsOf_b66 b s v σ = some ((if sShine (σ s 0) (σ b 1) = true then v ||| 8 else v), σ) := by
    intro v
    unfold F_X0_faultsOf_b66
    rw [kdb b hb, kdb s hs, ck_t, ck_t, S2_shine hs, bnd_s]
    cases sShine (σ s 0) (σ b 1) <;> rfl
  have k3 : ∀ v : Int32, F_X0_faultsOf_b54 b s f v σ = F_X0_faultsOf_b66 b s (if sSmile (σ s 0) (σ s 3) f = true then v ||| 4 else v) σ := by
    intro v
    unfold F_X0_faultsOf_b54
    rw [kdb s hs, ck_t, S2_smile hs, bnd_s]
    cases sSmile (σ s 0) (σ s 3) f <;> rfl
  have k2 : ∀ v : Int32, F_X0_faultsOf_b34 b s f v σ = F_X0_faultsOf_b54 b s f (if sShut (σ s 0) (σ s 2) (σ b 4) (σ b 1) f = true then v ||| 2 else v) σ := by
    intro v
    unfold F_X0_faultsOf_b34
    rw [kdb b hb, kdb s hs, ck_t, ck_t, S2_shut hs, bnd_s]
    cases sShut (σ s 0) (σ s 2) (σ b 4) (σ b 1) f <;> rfl
  have k1 : ∀ v : Int32, F_X0_faultsOf_b14 b s f v σ = F_X0_faultsOf_b34 b s f (if (!decide (iabs (σ s 1 + σ b 0 - 80) ≤ sMay (σ s 0) (σ s 2))) = true then v ||| 1 else v) σ := by
    intro v
    unfold F_X0_faultsOf_b14
    rw [kdb b hb, kdb s hs, ck_t, ck_t, S2_off hs, bnd_s, S2_may hs, bnd_s]
    by_cases h : iabs (σ s 1 + σ b 0 - 80) ≤ sMay (σ s 0) (σ s 2)
    · rw [if_pos h, decide_eq_true h]; rfl
    · rw [if_neg h, decide_eq_false h]; rfl
  unfold F_X0_faultsOf
  rw [kdb b hb, ck_t]
  have k0 : (if 2 ≤ σ b 1 then F_X0_faultsOf_b14 b s f 0 σ else F_X0_faultsOf_b14 b s f 16 σ) = F_X0_faultsOf_b14 b s f (if (!decide (2 ≤ σ b 1)) = true then 16 else 0) σ := by
    by_cases h : 2 ≤ σ b 1
    · rw [if_pos h, decide_eq_true h]; rfl
    · rw [if_neg h, decide_eq_false h]; rfl
  rw [k0, k1, k2, k3, k4]
  unfold sF
  rw [fset_class]
theorem C_faults {b i : Nat} (hb : kd b = 0) (hi : i < 8) (f : Int32) (σ : Sto) : F_X0_faultsOf b (b + 1 + 1 + i) f σ = some (fa (V b σ) i f, σ) := by
  rw [S0_faults hb (kel hb hi), Vs b σ hi (by omega), Vs b σ hi (by omega), Vs b σ hi (by omega), Vs b σ hi (by omega), V3 b σ, V4 b σ, V0 b σ]
  rfl
theorem C_good {b i : Nat} (hb : kd b = 0) (hi : i < 8) (σ : Sto) : F_X0_hasClearFlash b (b + 1 + 1 + i) σ = some (b2i (good (V b σ) i), σ) := by
  have st : ∀ (k : Nat → Nat → Int32 → Sto → Option (Int32 × Sto)) (f : Int32), ¬ 4 ≤ f → F_X0_hasClearFlash_b2 k b (b + 1 + 1 + i) f σ = if fa (V b σ) i f = 0 then some (1, σ) else k b (b + 1 + 1 + i) (f + 1) σ := by
    intro k f hf
    unfold F_X0_hasClearFlash_b2
    rw [if_neg hf, kdb b hb, ck_t, C_faults hb hi, bnd_s]
  unfold F_X0_hasClearFlash
  show F_X0_hasClearFlash_b2 (lo3 F_X0_hasClearFlash_b2 999) b (b + 1 + 1 + i) 0 σ = _
  rw [st _ _ (by decide)]
  show (if _ then _ else F_X0_hasClearFlash_b2 (lo3 F_X0_hasClearFlash_b2 998) b (b + 1 + 1 + i) (0 + 1) σ) = _
  rw [show (0 : Int32) + 1 = 1 from by decide, st _ _ (by decide)]
  show (if _ then _ else if _ then _ else F_X0_hasClearFlash_b2 (lo3 F_X0_hasClearFlash_b2 997) b (b + 1 + 1 + i) (1 + 1) σ) = _
  rw [show (1 : Int32) + 1 = 2 from by decide, st _ _ (by decide)]
  show (if _ then _ else if _ then _ else if _ then _ else F_X0_hasClearFlash_b2 (lo3 F_X0_hasClearFlash_b2 996) b (b + 1 + 1 + i) (2 + 1) σ) = _
  rw [show (2 : Int32) + 1 = 3 from by decide, st _ _ (by decide)]
  show (if _ then _ else if _ then _ else if _ then _ else if _ then _ else F_X0_hasClearFlash_b2 (lo3 F_X0_hasClearFlash_b2 995) b (b + 1 + 1 + i) (3 + 1) σ) = _
  rw [show (3 : Int32) + 1 = 4 from by decide]
  unfold F_X0_hasClearFlash_b2 good
  rw [if_pos (show (4 : Int32) ≤ 4 by decide)]
  by_cases h0 : fa (V b σ) i 0 = 0 <;> by_cases h1 : fa (V b σ) i 1 = 0 <;> by_cases h2 : fa (V b σ) i 2 = 0 <;> by_cases h3 : fa (V b σ) i 3 = 0 <;> simp only [h0, h1, h2, h3, if_true, if_false, decide_true, decide_false, Bool.or_true, Bool.or_false, Bool.true_or, Bool.false_or] <;> rfl

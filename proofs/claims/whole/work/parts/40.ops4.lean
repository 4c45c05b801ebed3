/-! PURE: the calls: now, count, status, image, undo, tear, as -/
def fldU {A : Type} (f : Nat → A → A) : Nat → Nat → A → A
  | _, 0, a => a
  | j, d + 1, a => fldU f (j + 1) d (f j a)
theorem fldU_c {A : Type} {f g : Nat → A → A} {m : Nat} (h : ∀ i a, i < m → f i a = g i a) : ∀ d j a, j + d ≤ m → fldU f j d a = fldU g j d a := by
  intro d
  induction d with
  | zero => intro j a _; rfl
  | succ d ih => intro j a hj; rw [fldU, fldU, h j a (by omega), ih _ _ (by omega)]
theorem lo3_f {A1 A2 : Type} {B : (A1 → A2 → Int32 → Sto → Option (A2 × Sto)) → A1 → A2 → Int32 → Sto → Option (A2 × Sto)} (x : A1) (σ : Sto) (m : Nat) (f : Nat → A2 → A2) (he : ∀ k a, B k x a (nI m) σ = some (a, σ)) (hs : ∀ k a j, j < m → B k x a (nI j) σ = k x (f j a) (nI (j + 1)) σ) : ∀ d j n a, j + d = m → d < n → lo3 B n x a (nI j) σ = some (fldU f j d a, σ) := by
  intro d
  induction d with
  | zero =>
    intro j n a hj hn
    have e : j = m := by omega
    subst e
    obtain ⟨n, rfl⟩ : ∃ q, n = q + 1 := ⟨n - 1, by omega⟩
    exact he _ _
  | succ d ih =>
    intro j n a hj hn
    obtain ⟨n, rfl⟩ : ∃ q, n = q + 1 := ⟨n - 1, by omega⟩
    show B (lo3 B n) x a (nI j) σ = _
    rw [hs _ _ _ (by omega)]
    exact ih (j + 1) n _ (by omega) (by omega)
theorem nI_lei {j m : Nat} (h : j < m) (hm : m < 2 ^ 31) : ¬ nI m ≤ nI j := fun q => by have := (nI_leI hm (by omega)).mp q; omega
/-! now -/
def gdB (a : Row) (i : Nat) (x : Int32) : Int32 := if good a i = true then x ||| isl 1 (nI i) else x
def cmB (a : Row) (i : Nat) (x : Int32) : Int32 := x &&& fa a i 0 &&& fa a i 1 &&& fa a i 2 &&& fa a i 3
theorem C_goods {b m : Nat} (hb : kd b = 0) (h8 : m ≤ 8) (σ : Sto) (hm : V b σ 1 = nI m) : F_X0_sittersWithClearFlash b σ = some (fldU (gdB (V b σ)) 0 m 0, σ) := by
  refine lo3_f b σ m (gdB (V b σ)) (fun k a => ?_) (fun k a j hj => ?_) m 0 1000 0 (by omega) (by omega)
  · rw [F_X0_sittersWithClearFlash_b4, kdb b hb, ck_t, V1 b σ, hm, if_pos (Int32.le_refl _)]
  · rw [F_X0_sittersWithClearFlash_b4, kdb b hb, ck_t, V1 b σ, hm, if_neg (nI_lei hj (by omega)), C_whoS hb hm h8 hj, bnd_s, oc_s, C_good hb (by omega), bnd_s, lti_e, nI_1]
    unfold gdB
    cases good (V b σ) j <;> rfl
theorem M_goods {m : Nat} (h8 : m ≤ 8) (σ : Sto) (hm : σ 50 1 = nI m) : F_X5_goodOnes 49 σ = some (fldU (gdB (σ 50)) 0 m 0, σ) := by
  refine lo3_f 49 σ m (gdB (σ 50)) (fun k a => ?_) (fun k a j hj => ?_) m 0 1000 0 (by omega) (by omega)
  · rw [F_X5_goodOnes_b4, k49, ck_t, hm, if_pos (Int32.le_refl _)]
  · rw [F_X5_goodOnes_b4, k49, ck_t, hm, if_neg (nI_lei hj (by omega)), M_good (by omega), bnd_s, lti_e, lti_e, nI_1]
    unfold gdB
    cases good (σ 50) j
    · rw [Int32.or_zero]; rfl
    · rfl
theorem C_common {b m : Nat} (hb : kd b = 0) (h8 : m ≤ 8) (σ : Sto) (hm : V b σ 1 = nI m) : F_X0_commonFaults b σ = some (fldU (cmB (V b σ)) 0 m (if nI m = 0 then 0 else 31), σ) := by
  have h : ∀ a, lo3 (F_X0_commonFaults_b16) 1000 b a 0 σ = some (fldU (cmB (V b σ)) 0 m a, σ) := by
    intro a
    refine lo3_f b σ m (cmB (V b σ)) (fun k a => ?_) (fun k a j hj => ?_) m 0 1000 a (by omega) (by omega)
    · rw [F_X0_commonFaults_b16, kdb b hb, ck_t, V1 b σ, hm, if_pos (Int32.le_refl _)]
    · have st : ∀ k5 x f, ¬ 4 ≤ f → F_X0_commonFaults_b33 k k5 b x (nI j) (some (b + 1 + 1 + j)) f σ = k5 b (x &&& fa (V b σ) j f) (nI j) (some (b + 1 + 1 + j)) (f + 1) σ := by
        intro k5 x f hf
        rw [F_X0_commonFaults_b33, if_neg hf, oc_s, kdb b hb, ck_t, C_faults hb (by omega), bnd_s, lti_e]
      rw [F_X0_commonFaults_b16, kdb b hb, ck_t, V1 b σ, hm, if_neg (nI_lei hj (by omega)), C_whoS hb hm h8 hj, bnd_s]
      show F_X0_commonFaults_b33 k (lo5 (F_X0_commonFaults_b33 k) 999) b _ _ _ 0 σ = _
      rw [st _ _ _ (by decide)]
      show F_X0_commonFaults_b33 k (lo5 (F_X0_commonFaults_b33 k) 998) b _ _ _ (0 + 1) σ = _
      rw [show (0 : Int32) + 1 = 1 by decide, st _ _ _ (by decide)]
      show F_X0_commonFaults_b33 k (lo5 (F_X0_commonFaults_b33 k) 997) b _ _ _ (1 + 1) σ = _
      rw [show (1 : Int32) + 1 = 2 by decide, st _ _ _ (by decide)]
      show F_X0_commonFaults_b33 k (lo5 (F_X0_commonFaults_b33 k) 996) b _ _ _ (2 + 1) σ = _
      rw [show (2 : Int32) + 1 = 3 by decide, st _ _ _ (by decide)]
      show F_X0_commonFaults_b33 k (lo5 (F_X0_commonFaults_b33 k) 995) b _ _ _ (3 + 1) σ = _
      rw [show (3 : Int32) + 1 = 4 by decide, F_X0_commonFaults_b33, if_pos (by decide), nI_1]
      rfl
  rw [F_X0_commonFaults, kdb b hb, ck_t, V1 b σ, hm]
  by_cases e : nI m = 0
  · rw [if_pos e, if_pos e, h]
  · rw [if_neg e, if_neg e, h]
theorem M_common {m : Nat} (h8 : m ≤ 8) (σ : Sto) (hm : σ 50 1 = nI m) : F_X5_commonFaults 49 σ = some (fldU (cmB (σ 50)) 0 m (if nI m = 0 then 0 else 31), σ) := by
  have h : ∀ a, lo3 (F_X5_commonFaults_b18) 1000 49 a 0 σ = some (fldU (cmB (σ 50)) 0 m a, σ) := by
    intro a
    refine lo3_f 49 σ m (cmB (σ 50)) (fun k a => ?_) (fun k a j hj => ?_) m 0 1000 a (by omega) (by omega)
    · rw [F_X5_commonFaults_b18, k49, ck_t, hm, if_pos (Int32.le_refl _)]
    · have st : ∀ k5 x f, ¬ 4 ≤ f → F_X5_commonFaults_b30 k k5 49 x (nI j) f σ = k5 49 (x &&& fa (σ 50) j f) (nI j) (f + 1) σ := by
        intro k5 x f hf
        rw [F_X5_commonFaults_b30, if_neg hf, k49, ck_t, M_faults (by omega), bnd_s, lti_e]
      rw [F_X5_commonFaults_b18, k49, ck_t, hm, if_neg (nI_lei hj (by omega))]
      show F_X5_commonFaults_b30 k (lo4 (F_X5_commonFaults_b30 k) 999) 49 _ _ 0 σ = _
      rw [st _ _ _ (by decide)]
      show F_X5_commonFaults_b30 k (lo4 (F_X5_commonFaults_b30 k) 998) 49 _ _ (0 + 1) σ = _
      rw [show (0 : Int32) + 1 = 1 by decide, st _ _ _ (by decide)]
      show F_X5_commonFaults_b30 k (lo4 (F_X5_commonFaults_b30 k) 997) 49 _ _ (1 + 1) σ = _
      rw [show (1 : Int32) + 1 = 2 by decide, st _ _ _ (by decide)]
      show F_X5_commonFaults_b30 k (lo4 (F_X5_commonFaults_b30 k) 996) 49 _ _ (2 + 1) σ = _
      rw [show (2 : Int32) + 1 = 3 by decide, st _ _ _ (by decide)]
      show F_X5_commonFaults_b30 k (lo4 (F_X5_commonFaults_b30 k) 995) 49 _ _ (3 + 1) σ = _
      rw [show (3 : Int32) + 1 = 4 by decide, F_X5_commonFaults_b30, if_pos (by decide), nI_1]
      rfl
  rw [F_X5_commonFaults, k49, ck_t, hm]
  by_cases e : nI m = 0
  · rw [if_pos e, if_pos e, h]
  · rw [if_neg e, if_neg e, h]
theorem op_now (w : Int32) : Op (F_X4_now 0 w) (F_X5_now 49 w) := by
  intro K σ hK h
  obtain ⟨⟨⟨m, h1, h2, h4⟩, hk⟩, hT, hS, hF⟩ := id h
  have h8 := h1.1
  by_cases w0 : w = 0
  · refine op_ans (r := V 1 σ 0) h ⟨σ, ?_, cq_r σ⟩ (fun τ hτ => ⟨τ, ?_, mq_r τ⟩)
    · rw [F_X4_now, if_pos w0, k04, ck_t]; rfl
    · rw [F_X5_now, if_pos w0, k49, ck_t, mrow h2 hτ 0 (by omega)]
  by_cases w1 : w = 1
  · refine op_ans (r := sumR 5 m (V 1 σ)) h ⟨σ, ?_, cq_r σ⟩ (fun τ hτ => ⟨τ, ?_, mq_r τ⟩)
    · rw [F_X4_now, if_neg w0, if_pos w1, k04, ck_t, show (5 : Int32) = nI 5 from rfl, C_sumOf k1 h8 (by decide) σ h1.2.1, bnd_s]
    · rw [F_X5_now, if_neg w0, if_pos w1, k49, ck_t, show (5 : Int32) = nI 5 from rfl, M_sumOf h8 (by decide) τ (m1of h1 (mrow h2 hτ)), bnd_s, agr_sum (by decide) (mrow h2 hτ) m (by omega)]
  by_cases w2 : w = 2
  · refine op_ans (r := sumR 6 m (V 1 σ)) h ⟨σ, ?_, cq_r σ⟩ (fun τ hτ => ⟨τ, ?_, mq_r τ⟩)
    · rw [F_X4_now, if_neg w0, if_neg w1, if_pos w2, k04, ck_t, show (6 : Int32) = nI 6 from rfl, C_sumOf k1 h8 (by decide) σ h1.2.1, bnd_s]
    · rw [F_X5_now, if_neg w0, if_neg w1, if_pos w2, k49, ck_t, show (6 : Int32) = nI 6 from rfl, M_sumOf h8 (by decide) τ (m1of h1 (mrow h2 hτ)), bnd_s, agr_sum (by decide) (mrow h2 hτ) m (by omega)]
  by_cases w3 : w = 3
  · refine op_ans (r := sumR 4 m (V 1 σ)) h ⟨σ, ?_, cq_r σ⟩ (fun τ hτ => ⟨τ, ?_, mq_r τ⟩)
    · rw [F_X4_now, if_neg w0, if_neg w1, if_neg w2, if_pos w3, k04, ck_t, show (4 : Int32) = nI 4 from rfl, C_sumOf k1 h8 (by decide) σ h1.2.1, bnd_s]
    · rw [F_X5_now, if_neg w0, if_neg w1, if_neg w2, if_pos w3, k49, ck_t, show (4 : Int32) = nI 4 from rfl, M_sumOf h8 (by decide) τ (m1of h1 (mrow h2 hτ)), bnd_s, agr_sum (by decide) (mrow h2 hτ) m (by omega)]
  by_cases w4 : w = 4
  · obtain ⟨t, ht, et⟩ := h1.2.2.1
    refine op_ans (r := V 1 σ (17 + t % 6)) h ⟨σ, ?_, cq_r σ⟩ (fun τ hτ => ⟨τ, ?_, mq_r τ⟩)
    · rw [F_X4_now, if_neg w0, if_neg w1, if_neg w2, if_neg w3, if_pos w4, k04, ck_t, F_X0_nextPlace, kdb 1 k1, ck_t, V0 1 σ, et, irm6 (by omega), bnd_s, C_whoIsIn k1 (by omega), bnd_s]
    · rw [F_X5_now, if_neg w0, if_neg w1, if_neg w2, if_neg w3, if_pos w4, k49, ck_t, F_X5_next, k49, ck_t, ← mrow h2 hτ 0 (by omega), et, irm6 (by omega), show (17 : Int32) + nI (t % 6) = nI (17 + t % 6) from nI_add 17 _, inr_nI (by omega) (by decide), ck_t, nI_clamp (by omega), bnd_s, mrow h2 hτ (17 + t % 6) (by omega)]
  by_cases w5 : w = 5
  · refine op_ans (r := fldU (gdB (V 1 σ)) 0 m 0) h ⟨σ, ?_, cq_r σ⟩ (fun τ hτ => ⟨τ, ?_, mq_r τ⟩)
    · rw [F_X4_now, if_neg w0, if_neg w1, if_neg w2, if_neg w3, if_neg w4, if_pos w5, k04, ck_t, C_goods k1 h8 σ h1.2.1, bnd_s]
    · rw [F_X5_now, if_neg w0, if_neg w1, if_neg w2, if_neg w3, if_neg w4, if_pos w5, k49, ck_t, M_goods h8 τ (m1of h1 (mrow h2 hτ)), bnd_s, ← fldU_c (f := gdB (V 1 σ)) (g := gdB (τ 50)) (m := m) (fun i a hi => by unfold gdB; rw [agr_good (mrow h2 hτ) hi]) m 0 _ (by omega)]
  by_cases w6 : w = 6
  · refine op_ans (r := fldU (cmB (V 1 σ)) 0 m (if nI m = 0 then 0 else 31)) h ⟨σ, ?_, cq_r σ⟩ (fun τ hτ => ⟨τ, ?_, mq_r τ⟩)
    · rw [F_X4_now, if_neg w0, if_neg w1, if_neg w2, if_neg w3, if_neg w4, if_neg w5, if_pos w6, k04, ck_t, C_common k1 h8 σ h1.2.1, bnd_s]
    · rw [F_X5_now, if_neg w0, if_neg w1, if_neg w2, if_neg w3, if_neg w4, if_neg w5, if_pos w6, k49, ck_t, M_common h8 τ (m1of h1 (mrow h2 hτ)), bnd_s, ← fldU_c (f := cmB (V 1 σ)) (g := cmB (τ 50)) (m := m) (fun i a hi => by unfold cmB; simp only [agr_fa (mrow h2 hτ) hi]) m 0 _ (by omega)]
  · refine op_e0 h ?_ (fun τ hτ => ?_)
    · rw [F_X4_now, if_neg w0, if_neg w1, if_neg w2, if_neg w3, if_neg w4, if_neg w5, if_neg w6, k04, ck_t, C_f0, bnd_s]
    · rw [F_X5_now, if_neg w0, if_neg w1, if_neg w2, if_neg w3, if_neg w4, if_neg w5, if_neg w6, k49, ck_t, M_f0, bnd_s]
/-! count -/
def spB (a : Row) (i : Nat) (x : Int32) : Int32 := if a (7 + i) < 0 then x else x + 1
theorem C_spots {b : Nat} (hb : kd b = 0) (σ : Sto) : F_X0_spotsInUse b σ = some (fldU (spB (V b σ)) 0 10 0, σ) := by
  refine lo3_f b σ 10 (spB (V b σ)) (fun k a => ?_) (fun k a j hj => ?_) 10 0 1000 0 (by omega) (by omega)
  · rw [F_X0_spotsInUse_b4, if_pos (by decide)]
  · rw [F_X0_spotsInUse_b4, if_neg (show ¬ (10 : Int32) ≤ nI j from nI_lei hj (by decide)), kdb b hb, ck_t, inr_nI hj (by decide), ck_t, nI_clamp (by omega), Vsp b σ hj, nI_1]
    unfold spB
    split <;> rfl
theorem M_spots (σ : Sto) : lo3 (F_X5_count_b97) 1000 49 0 0 σ = some (fldU (spB (σ 50)) 0 10 0, σ) := by
  refine lo3_f 49 σ 10 (spB (σ 50)) (fun k a => ?_) (fun k a j hj => ?_) 10 0 1000 0 (by omega) (by omega)
  · rw [F_X5_count_b97, if_pos (by decide)]
  · rw [F_X5_count_b97, if_neg (show ¬ (10 : Int32) ≤ nI j from nI_lei hj (by decide)), k49, ck_t, show 7 + nI j = nI (7 + j) from nI_add 7 j, inr_nI (by omega) (by decide), ck_t, nI_clamp (by omega), lti_e, lti_e, nI_1, Int32.add_zero]
    unfold spB
    by_cases e : σ 50 (7 + j) < 0
    · rw [if_pos e, if_neg (Int32.not_le.mpr e)]
    · rw [if_neg e, if_pos (Int32.not_lt.mp e)]
theorem op_count (w : Int32) : Op (F_X4_count 0 w) (F_X5_count 49 w) := by
  intro K σ hK h
  obtain ⟨⟨⟨m, h1, h2, h4⟩, hk⟩, ⟨t, t1, t2, t3, t4⟩, hS, hF⟩ := id h
  have h8 := h1.1
  by_cases w0 : w = 0
  · refine op_ans (r := V 1 σ 0) h ⟨σ, ?_, cq_r σ⟩ (fun τ hτ => ⟨τ, ?_, mq_r τ⟩)
    · rw [F_X4_count, if_pos w0, k04, ck_t]; rfl
    · rw [F_X5_count, if_pos w0, k49, ck_t, mrow h2 hτ 0 (by omega)]
  by_cases w1 : w = 1
  · refine op_ans (r := V 1 σ 1) h ⟨σ, ?_, cq_r σ⟩ (fun τ hτ => ⟨τ, ?_, mq_r τ⟩)
    · rw [F_X4_count, if_neg w0, if_pos w1, k04, ck_t]; rfl
    · rw [F_X5_count, if_neg w0, if_pos w1, k49, ck_t, mrow h2 hτ 1 (by omega)]
  by_cases w2 : w = 2
  · refine op_ans (r := sumR 5 m (V 1 σ)) h ⟨σ, ?_, cq_r σ⟩ (fun τ hτ => ⟨τ, ?_, mq_r τ⟩)
    · rw [F_X4_count, if_neg w0, if_neg w1, if_pos w2, k04, ck_t, show (5 : Int32) = nI 5 from rfl, C_sumOf k1 h8 (by decide) σ h1.2.1, bnd_s]
    · rw [F_X5_count, if_neg w0, if_neg w1, if_pos w2, k49, ck_t, show (5 : Int32) = nI 5 from rfl, M_sumOf h8 (by decide) τ (m1of h1 (mrow h2 hτ)), bnd_s, agr_sum (by decide) (mrow h2 hτ) m (by omega)]
  by_cases w3 : w = 3
  · refine op_ans (r := sumR 6 m (V 1 σ)) h ⟨σ, ?_, cq_r σ⟩ (fun τ hτ => ⟨τ, ?_, mq_r τ⟩)
    · rw [F_X4_count, if_neg w0, if_neg w1, if_neg w2, if_pos w3, k04, ck_t, show (6 : Int32) = nI 6 from rfl, C_sumOf k1 h8 (by decide) σ h1.2.1, bnd_s]
    · rw [F_X5_count, if_neg w0, if_neg w1, if_neg w2, if_pos w3, k49, ck_t, show (6 : Int32) = nI 6 from rfl, M_sumOf h8 (by decide) τ (m1of h1 (mrow h2 hτ)), bnd_s, agr_sum (by decide) (mrow h2 hτ) m (by omega)]
  by_cases w4 : w = 4
  · refine op_ans (r := V 1 σ 6) h ⟨σ, ?_, cq_r σ⟩ (fun τ hτ => ⟨τ, ?_, mq_r τ⟩)
    · rw [F_X4_count, if_neg w0, if_neg w1, if_neg w2, if_neg w3, if_pos w4, k04, ck_t]; rfl
    · rw [F_X5_count, if_neg w0, if_neg w1, if_neg w2, if_neg w3, if_pos w4, k49, ck_t, mrow h2 hτ 6 (by omega)]
  by_cases w5 : w = 5
  · refine op_ans (r := nI t) h ⟨σ, ?_, cq_r σ⟩ (fun τ hτ => ⟨τ, ?_, mq_r τ⟩)
    · rw [F_X4_count, if_neg w0, if_neg w1, if_neg w2, if_neg w3, if_neg w4, if_pos w5, k04, ck_t, t2]
    · rw [F_X5_count, if_neg w0, if_neg w1, if_neg w2, if_neg w3, if_neg w4, if_pos w5, k49, ck_t, hτ 49 (by decide), t3]
  by_cases w6 : w = 6
  · refine op_ans (r := V 1 σ 2) h ⟨σ, ?_, cq_r σ⟩ (fun τ hτ => ⟨τ, ?_, mq_r τ⟩)
    · rw [F_X4_count, if_neg w0, if_neg w1, if_neg w2, if_neg w3, if_neg w4, if_neg w5, if_pos w6, k04, ck_t]; rfl
    · rw [F_X5_count, if_neg w0, if_neg w1, if_neg w2, if_neg w3, if_neg w4, if_neg w5, if_pos w6, k49, ck_t, mrow h2 hτ 2 (by omega)]
  by_cases w7 : w = 7
  · refine op_ans (r := fldU (spB (V 1 σ)) 0 10 0) h ⟨σ, ?_, cq_r σ⟩ (fun τ hτ => ⟨τ, ?_, mq_r τ⟩)
    · rw [F_X4_count, if_neg w0, if_neg w1, if_neg w2, if_neg w3, if_neg w4, if_neg w5, if_neg w6, if_pos w7, k04, ck_t, C_spots k1, bnd_s]
    · rw [F_X5_count, if_neg w0, if_neg w1, if_neg w2, if_neg w3, if_neg w4, if_neg w5, if_neg w6, if_pos w7, M_spots, ← fldU_c (f := spB (V 1 σ)) (g := spB (τ 50)) (m := 10) (fun i a hi => by unfold spB; rw [mrow h2 hτ (7 + i) (by omega)]) 10 0 _ (by omega)]
  · refine op_e0 h ?_ (fun τ hτ => ?_)
    · rw [F_X4_count, if_neg w0, if_neg w1, if_neg w2, if_neg w3, if_neg w4, if_neg w5, if_neg w6, if_neg w7, k04, ck_t, C_f0, bnd_s]
    · rw [F_X5_count, if_neg w0, if_neg w1, if_neg w2, if_neg w3, if_neg w4, if_neg w5, if_neg w6, if_neg w7, k49, ck_t, M_f0, bnd_s]
/-! status -/
theorem C_allF (σ : Sto) : lo3 (F_X4_status_b33) 1000 0 0 0 σ = some (σ 48 0 + σ 48 1 + σ 48 2 + σ 48 3 + σ 48 4 + σ 48 5 + σ 48 6, σ) := by
  have h := lo3_f (B := F_X4_status_b33) 0 σ 7 (fun j a => a + σ 48 j) (fun k a => by rw [F_X4_status_b33, if_pos (by decide)]) (fun k a j hj => by rw [F_X4_status_b33, if_neg (show ¬ (7 : Int32) ≤ nI j from nI_lei hj (by decide)), k04, ck_t, inr_nI hj (by decide), ck_t, lti_e, nI_clamp (by omega), nI_1]) 7 0 1000 0 (by omega) (by omega)
  refine h.trans ?_
  show some (((((((0 + σ 48 0) + σ 48 1) + σ 48 2) + σ 48 3) + σ 48 4) + σ 48 5) + σ 48 6, σ) = _
  rw [Int32.zero_add]
theorem op_status (w : Int32) : Op (F_X4_status 0 w) (F_X5_status 49 w) := by
  intro K σ hK h
  obtain ⟨⟨⟨m, h1, h2, h4⟩, hk⟩, hT, hS, hF1, hF2⟩ := id h
  by_cases c1 : w < -1
  · refine op_e0 h ?_ (fun τ hτ => ?_)
    · rw [F_X4_status, if_pos c1, k04, ck_t, C_f0, bnd_s]
    · rw [F_X5_status, M_within, bnd_s, if_f (by unfold wi; rw [decide_eq_true c1]; rfl), k49, ck_t, M_f0, bnd_s]
  by_cases c2 : w < 7
  · have c3 : wi w (-1) 6 = true := by
      unfold wi
      rw [decide_eq_false c1, decide_eq_false (show ¬ 6 < w from fun q => by
        rw [Int32.lt_iff_toInt_lt] at q c2
        have e6 : (6 : Int32).toInt = 6 := by decide
        have e7 : (7 : Int32).toInt = 7 := by decide
        omega)]; rfl
    by_cases c4 : w < 0
    · have e : w = -1 := by
        rw [Int32.lt_iff_toInt_lt] at c1 c4
        have e6 : (-1 : Int32).toInt = -1 := by decide
        have e7 : (0 : Int32).toInt = 0 := by decide
        exact Int32.toInt_inj.mp (by omega)
      subst e
      refine op_ans (r := σ 53 0) h ⟨σ, ?_, cq_r σ⟩ (fun τ hτ => ⟨τ, ?_, mq_r τ⟩)
      · rw [F_X4_status, if_neg c1, if_pos c2, if_pos c4, C_allF, hF2]
      · rw [F_X5_status, M_within, bnd_s, if_t c3, k49, ck_t, show inr (-1 + 1) 8 = true by decide, ck_t, show ((-1 : Int32) + 1).toNatClampNeg = 0 by decide, hτ 53 (by decide)]
    · obtain ⟨k, hk', rfl⟩ := nI_of c4
      have k7 : k < 7 := (nI_ltI (b := 7) hk' (by decide)).mp c2
      refine op_ans (r := σ 48 k) h ⟨σ, ?_, cq_r σ⟩ (fun τ hτ => ⟨τ, ?_, mq_r τ⟩)
      · rw [F_X4_status, if_neg c1, if_pos c2, if_neg c4, k04, ck_t, inr_nI k7 (by decide), ck_t, nI_clamp (by omega)]
      · rw [F_X5_status, M_within, bnd_s, if_t c3, k49, ck_t, nI_1, inr_nI (by omega) (by decide), ck_t, nI_clamp (by omega), hτ 53 (by decide), hF1 k k7]
  · refine op_e0 h ?_ (fun τ hτ => ?_)
    · rw [F_X4_status, if_neg c1, if_neg c2, k04, ck_t, C_f0, bnd_s]
    · rw [F_X5_status, M_within, bnd_s, if_f (by
        unfold wi
        rw [decide_eq_true (show 6 < w from by
          rw [Int32.lt_iff_toInt_lt] at c2 ⊢
          have e6 : (6 : Int32).toInt = 6 := by decide
          have e7 : (7 : Int32).toInt = 7 := by decide
          omega)]
        simp), k49, ck_t, M_f0, bnd_s]

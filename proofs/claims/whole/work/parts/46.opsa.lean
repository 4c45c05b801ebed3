/-! PURE: the calls on the tape: feed, wipe; on sheets: sheet, write, judge -/
theorem Rel_tape {K : Nat} {σ τ : Sto} (h : Rel K σ) (o : ∀ k, ¬ k = 37 → ¬ k = 38 → ¬ k = 49 → ¬ k = 54 → τ k = σ k) (h3 : τ 49 3 = σ 49 3) (hT : RelT τ) : Rel (K + 1) τ := by
  obtain ⟨⟨⟨m, h1, h2⟩, hk⟩, -, hS, hF⟩ := h
  have v1 : V 1 τ = V 1 σ := V_eq fun k a b => o k (by omega) (by omega) (by omega) (by omega)
  have v25 : V 25 τ = V 25 σ := V_eq fun k a b => o k (by omega) (by omega) (by omega) (by omega)
  have h0 : Rel K σ → True := fun _ => trivial
  refine ⟨?_, hT, fun s hs => ?_, ?_⟩
  · refine RelB_mono (K := K) ?_ (by omega)
    refine ⟨⟨m, by rw [v1]; exact h1, by rw [v1, o 50 (by decide) (by decide) (by decide) (by decide)]; exact h2.1, by rw [v1]; exact h2.2⟩, ?_⟩
    rw [v25, o 0 (by decide) (by decide) (by decide) (by decide), h3, o 51 (by decide) (by decide) (by decide) (by decide)]; exact hk
  · rw [o _ (by omega) (by omega) (by omega) (by omega), o (40 + 2 * s + 1) (by omega) (by omega) (by omega) (by omega), o 57 (by decide) (by decide) (by decide) (by decide), o 58 (by decide) (by decide) (by decide) (by decide), o 59 (by decide) (by decide) (by decide) (by decide)]; exact hS s hs
  · unfold RelF; rw [o 48 (by decide) (by decide) (by decide) (by decide), o 53 (by decide) (by decide) (by decide) (by decide)]; exact hF
theorem op_wipe : Op (F_X4_wipe 0) (F_X5_wipe 49) := by
  intro K σ hK h
  obtain ⟨t, t1, t2, t3, t4⟩ := id h.2.1
  refine ⟨nI t, up2 σ 37 1 0, up2 (up2 σ 37 1 0) 49 8 0, ?_, ?_, ?_⟩
  · rw [F_X4_wipe, k04, ck_t, lti_e, lts_e, t2]
  · rw [F_X5_wipe, k49, ck_t, lti_e, lts_e, up2_e σ, up1_n (by decide), t3]
  · refine Rel_tape h (fun k a b c d => by rw [up2_e _ 49, up1_n c, up2_e, up1_n a]) (by rw [up2_e _ 49, up1_s, upd_n (by decide), up2_e, up1_n (by decide)]) ⟨0, by omega, ?_, ?_, fun j hj => absurd hj (by omega)⟩
    · rw [up2_e _ 49, up1_n (by decide), up2_e, up1_s, upd_s]; rfl
    · rw [up2_e _ 49, up1_s, upd_s]; rfl
def byF (x : Int32) (d : Nat) : Int32 := ius x (8 * nI d) &&& 255
theorem byF_s {d : Nat} (hd : d < 4) (x : Int32) : isr x (8 * nI d) &&& 255 = byF x d := by
  have key : ∀ s : Nat, s ≤ 24 → ∀ b : BitVec 32, (b.sshiftRight s) &&& 255#32 = (b >>> s) &&& 255#32 := by
    intro s hs b
    apply BitVec.eq_of_getLsbD_eq
    intro i hi
    rw [BitVec.getLsbD_and, BitVec.getLsbD_and]
    by_cases h8 : i < 8
    · rw [BitVec.getLsbD_sshiftRight, BitVec.getLsbD_ushiftRight, decide_eq_false (show ¬ 32 ≤ i by omega), if_pos (show s + i < 32 by omega)]
      rfl
    · have : (255#32).getLsbD i = false := by
        rcases (show i = 8 ∨ i = 9 ∨ i = 10 ∨ i = 11 ∨ i = 12 ∨ i = 13 ∨ i = 14 ∨ i = 15 ∨ i = 16 ∨ i = 17 ∨ i = 18 ∨ i = 19 ∨ i = 20 ∨ i = 21 ∨ i = 22 ∨ i = 23 ∨ i = 24 ∨ i = 25 ∨ i = 26 ∨ i = 27 ∨ i = 28 ∨ i = 29 ∨ i = 30 ∨ i = 31 by omega) with rfl | rfl | rfl | rfl | rfl | rfl | rfl | rfl | rfl | rfl | rfl | rfl | rfl | rfl | rfl | rfl | rfl | rfl | rfl | rfl | rfl | rfl | rfl | rfl <;> rfl
      rw [this, Bool.and_false, Bool.and_false]
  have k2 : ∀ s : Nat, s ≤ 24 → (x >>> (Int32.ofNat s &&& 31)) &&& 255 = (x.toUInt32 >>> ((Int32.ofNat s).toUInt32 &&& Int32.toUInt32 31)).toInt32 &&& 255 → True := fun _ _ _ => trivial
  rcases (show d = 0 ∨ d = 1 ∨ d = 2 ∨ d = 3 by omega) with rfl | rfl | rfl | rfl
  · apply Int32.toBitVec_inj.mp
    exact key 0 (by omega) x.toBitVec
  · apply Int32.toBitVec_inj.mp
    exact key 8 (by omega) x.toBitVec
  · apply Int32.toBitVec_inj.mp
    exact key 16 (by omega) x.toBitVec
  · apply Int32.toBitVec_inj.mp
    exact key 24 (by omega) x.toBitVec
def fdR (x : Int32) : Nat → Nat → Row → Row
  | 0, _, f => f
  | d + 1, t, f => fdR x d (t + 1) (upd f t (byF x d))
theorem fdR_c (x : Int32) : ∀ d t (f g : Row), (∀ j, j < t → f j = g j) → ∀ j, j < t + d → fdR x d t f j = fdR x d t g j := by
  intro d
  induction d with
  | zero => intro t f g h j hj; exact h j (by omega)
  | succ d ih =>
    intro t f g h j hj
    refine ih (t + 1) _ _ (fun i hi => ?_) j (by omega)
    rw [upd_i, upd_i]
    by_cases e : i = t
    · rw [if_pos e, if_pos e]
    · rw [if_neg e, if_neg e]; exact h i (by omega)
theorem upd_same {f : Row} {k : Nat} {v : Int32} (h : f k = v) : upd f k v = f := by
  funext j
  rw [upd_i]
  by_cases e : j = k
  · rw [if_pos e, e, h]
  · rw [if_neg e]
theorem nI_m1 (d : Nat) : nI (d + 1) - 1 = nI d := nI_pred d
theorem C_feedL (x : Int32) : ∀ d t n (σ : Sto), t + d ≤ 120 → d < n → d ≤ 4 → σ 37 1 = nI t → lo3 F_X4_feed_b39 n 0 x (nI d - 1) σ = some (nI (t + d), up1 (up1 σ 38 (fdR x d t (σ 38))) 37 (upd (σ 37) 1 (nI (t + d)))) := by
  intro d
  induction d with
  | zero =>
    intro t n σ ht hn h4 hσ
    obtain ⟨n, rfl⟩ : ∃ q, n = q + 1 := ⟨n - 1, by omega⟩
    rw [lo3_s, F_X4_feed_b39, if_pos (by decide), k04, ck_t, hσ, Nat.add_zero, upd_same hσ, fdR, up1_same (σ := σ) rfl, up1_same (σ := σ) rfl]
  | succ d ih =>
    intro t n σ ht hn h4 hσ
    obtain ⟨n, rfl⟩ : ∃ q, n = q + 1 := ⟨n - 1, by omega⟩
    have ea : F_X3_append 37 (byF x d) σ = some ((), up2 (up2 σ 38 t (byF x d)) 37 1 (nI (t + 1))) := by
      rw [F_X3_append, show (kd 37 == 3) = true by decide, ck_t, hσ, if_neg (nI_pos (by omega)), if_neg (fun q => by have := (nI_leI (a := 120) (by decide) (by omega)).mp q; omega), inr_nI (by omega) (by decide), ck_t, lts_e, lts_e, nI_clamp (by omega), up2_e σ, up1_n (show ¬ 37 = 38 by decide), hσ, nI_1]
    rw [nI_m1, lo3_s, F_X4_feed_b39, if_neg (nI_pos (by omega)), k04, ck_t, show (ius x (8 * nI d)) &&& 255 = byF x d from rfl, ea, bnd_s, ← Int32.sub_eq_add_neg, ih (t + 1) n _ (by omega) (by omega) (by omega) (by rw [up2_e, up1_s, upd_s])]
    have e37 : (up2 (up2 σ 38 t (byF x d)) 37 1 (nI (t + 1))) 37 = upd (σ 37) 1 (nI (t + 1)) := by rw [up2_e, up1_s, up2_e, up1_n (by decide)]
    have e38 : (up2 (up2 σ 38 t (byF x d)) 37 1 (nI (t + 1))) 38 = upd (σ 38) t (byF x d) := by rw [up2_e, up1_n (by decide), up2_e, up1_s]
    rw [e37, e38, show t + 1 + d = t + (d + 1) by omega, show upd (upd (σ 37) 1 (nI (t + 1))) 1 (nI (t + (d + 1))) = upd (σ 37) 1 (nI (t + (d + 1))) from by funext j; rw [upd_i, upd_i, upd_i]; split <;> rfl]
    congr 2
    funext a
    unfold up1 up2 up1
    by_cases a1 : a = 37
    · rw [if_pos a1, if_pos a1]
    · by_cases a2 : a = 38
      · simp only [if_neg a1, if_pos a2]; rfl
      · simp only [if_neg a1, if_neg a2]
theorem M_feedL (x : Int32) : ∀ d t n (σ : Sto), t + d ≤ 120 → d < n → d ≤ 4 → σ 49 8 = nI t → lo3 F_X5_feed_b38 n 49 x (nI d - 1) σ = some (nI (t + d), up1 (up1 σ 54 (fdR x d t (σ 54))) 49 (upd (σ 49) 8 (nI (t + d)))) := by
  intro d
  induction d with
  | zero =>
    intro t n σ ht hn h4 hσ
    obtain ⟨n, rfl⟩ : ∃ q, n = q + 1 := ⟨n - 1, by omega⟩
    rw [lo3_s, F_X5_feed_b38, if_pos (by decide), k49, ck_t, hσ, Nat.add_zero, upd_same hσ, fdR, up1_same (σ := σ) rfl, up1_same (σ := σ) rfl]
  | succ d ih =>
    intro t n σ ht hn h4 hσ
    obtain ⟨n, rfl⟩ : ∃ q, n = q + 1 := ⟨n - 1, by omega⟩
    rw [nI_m1, lo3_s, F_X5_feed_b38, if_neg (nI_pos (by omega)), k49, ck_t, hσ, inr_nI (by omega) (by decide), ck_t, lts_e, lts_e, nI_clamp (by omega), byF_s (by omega), show (up2 σ 54 t (byF x d)) 49 8 = nI t by rw [up2_e, up1_n (by decide), hσ], nI_1, ← Int32.sub_eq_add_neg, ih (t + 1) n _ (by omega) (by omega) (by omega) (by rw [up2_e, up1_s, upd_s])]
    have e37 : (up2 (up2 σ 54 t (byF x d)) 49 8 (nI (t + 1))) 49 = upd (σ 49) 8 (nI (t + 1)) := by rw [up2_e, up1_s, up2_e, up1_n (by decide)]
    have e38 : (up2 (up2 σ 54 t (byF x d)) 49 8 (nI (t + 1))) 54 = upd (σ 54) t (byF x d) := by rw [up2_e, up1_n (by decide), up2_e, up1_s]
    rw [e37, e38, show t + 1 + d = t + (d + 1) by omega, show upd (upd (σ 49) 8 (nI (t + 1))) 8 (nI (t + (d + 1))) = upd (σ 49) 8 (nI (t + (d + 1))) from by funext j; rw [upd_i, upd_i, upd_i]; split <;> rfl]
    congr 2
    funext a
    unfold up1 up2 up1
    by_cases a1 : a = 49
    · rw [if_pos a1, if_pos a1]
    · by_cases a2 : a = 54
      · simp only [if_neg a1, if_pos a2]; rfl
      · simp only [if_neg a1, if_neg a2]
theorem op_feed (x n : Int32) : Op (F_X4_feed 0 x n) (F_X5_feed 49 x n) := by
  intro K σ hK h
  obtain ⟨t, t1, t2, t3, t4⟩ := id h.2.1
  by_cases hw : wi n 1 4 = true
  · obtain ⟨d, hd1, hd4, rfl⟩ := wi_1 (n := 4) (by decide) hw
    have c0 : F_X4_feed 0 x (nI d) σ = bnd (F_X3_hasRoomFor 37 (nI d) σ) (fun xr10 xσ8 => if (xr10) = 0 then bnd (F_X4_finding 0 (-1000002) xσ8) (fun xr15 xσ13 => some (xr15, xσ13)) else lo3 (F_X4_feed_b39) 1000 0 x (nI d - 1) xσ8) := by
      rw [F_X4_feed, if_neg (fun q => by have := (nI_ltI (b := 1) (by omega) (by decide)).mp q; omega), if_pos (show nI d ≤ 4 from (nI_leI (b := 4) (by omega) (by decide)).mpr hd4), k04, ck_t]
      rfl
    have er : F_X3_hasRoomFor 37 (nI d) σ = some (if 120 < t + d then 0 else 1, σ) := by
      rw [F_X3_hasRoomFor, show (kd 37 == 3) = true by decide, ck_t, t2, nI_add]
      by_cases q : 120 < t + d
      · rw [if_pos q, if_pos (show (120 : Int32) < nI (t + d) from (nI_ltI (a := 120) (by decide) (by omega)).mpr q)]
      · rw [if_neg q, if_neg (show ¬ (120 : Int32) < nI (t + d) from fun z => q ((nI_ltI (a := 120) (by decide) (by omega)).mp z))]
    have m0 : ∀ τ : Sto, τ 49 8 = nI t → F_X5_feed 49 x (nI d) τ = if 120 < t + d then some (-1000002, fndM 1 τ) else lo3 (F_X5_feed_b38) 1000 49 x (nI d - 1) τ := by
      intro τ hτ
      rw [F_X5_feed, M_within, bnd_s, if_t hw, k49, ck_t, hτ, nI_add]
      by_cases q : 120 < t + d
      · rw [if_pos q, if_neg (fun z => by have := (nI_leI (b := 120) (by omega) (by decide)).mp z; omega), M_f1, bnd_s]
      · rw [if_neg q, if_pos (show nI (t + d) ≤ 120 from (nI_leI (b := 120) (by omega) (by decide)).mpr (by omega)), lti_e]
    by_cases q : 120 < t + d
    · refine op_e 1 (-1000002) (by decide) h ?_ (fun τ hτ => ?_)
      · rw [c0, er, bnd_s, if_pos q, if_pos rfl, C_f1, bnd_s]
      · rw [m0 τ (by rw [hτ 49 (by decide)]; exact t3), if_pos q]
    · generalize hσ1 : up1 (up1 σ 38 (fdR x d t (σ 38))) 37 (upd (σ 37) 1 (nI (t + d))) = σ1
      have o1 : ∀ k, ¬ k = 37 → ¬ k = 38 → σ1 k = σ k := fun k a b => by rw [← hσ1, up1_n a, up1_n b]
      refine ⟨nI (t + d), σ1, up1 (up1 σ1 54 (fdR x d t (σ1 54))) 49 (upd (σ1 49) 8 (nI (t + d))), ?_, ?_, ?_⟩
      · rw [c0, er, bnd_s, if_neg q, if_neg (by decide), C_feedL x d t 1000 σ (by omega) (by omega) hd4 t2, hσ1]
      · rw [m0 σ1 (by rw [o1 49 (by decide) (by decide)]; exact t3), if_neg q, M_feedL x d t 1000 σ1 (by omega) (by omega) hd4 (by rw [o1 49 (by decide) (by decide)]; exact t3)]
      · refine Rel_tape h (fun k a b c e => by rw [up1_n c, up1_n e, o1 k a b]) (by rw [up1_s, upd_n (by decide), o1 49 (by decide) (by decide)]) ⟨t + d, by omega, ?_, ?_, fun j hj => ?_⟩
        · rw [up1_n (by decide), up1_n (by decide), ← hσ1, up1_s, upd_s]
        · rw [up1_s, upd_s]
        · rw [up1_n (by decide), up1_n (by decide), up1_n (by decide), up1_s, ← hσ1, up1_n (by decide), up1_s, up1_n (by decide), up1_n (by decide)]
          exact fdR_c x d t _ _ (fun i hi => t4 i hi) j hj
  · have hc : F_X4_feed 0 x n σ = some (-1000001, fnd 0 σ) := by
      unfold wi at hw
      rw [Bool.and_eq_true, Bool.not_eq_true', Bool.not_eq_true', decide_eq_false_iff_not, decide_eq_false_iff_not] at hw
      by_cases c1 : n < 1
      · rw [F_X4_feed, if_pos c1, k04, ck_t, C_f0, bnd_s]
      · rw [F_X4_feed, if_neg c1, if_neg (fun q => hw ⟨c1, Int32.not_lt.mpr q⟩), k04, ck_t, C_f0, bnd_s]
    refine op_e0 h hc (fun τ hτ => ?_)
    rw [F_X5_feed, M_within, bnd_s, if_f (wi_f hw), k49, ck_t, M_f0, bnd_s]

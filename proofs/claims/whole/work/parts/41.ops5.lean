/-! PURE: the calls: image, undo, tear, as, ahead, later -/
theorem V_map {b : Nat} {σ σ' : Sto} (h : ∀ k, b ≤ k → k < b + 12 → σ' k = σ k) : V b σ' = V b σ := V_eq h
theorem agr_cp {m : Nat} (h8 : m ≤ 8) {a b : Row} (g : Row) (h : agr m a b) : agr m a (cp b g) := agr_x h8 h fun j hj => cp_lt hj
theorem op_image : Op (F_X4_image 0) (F_X5_image 49) := by
  intro K σ hK h
  obtain ⟨⟨⟨m, h1, h2, h4⟩, hk⟩, ⟨t, t1, t2, t3, t4⟩, hS, hF⟩ := id h
  have h8 := h1.1
  obtain ⟨σ1, e1, a1, f1⟩ := C_become k25 k1 (by decide) h8 σ h1.2.1
  have r50 : up2 σ1 0 3 1 50 = σ 50 := by rw [up2_e, up1_n (by decide), f1 50 (by decide)]
  refine ⟨1, up2 σ1 0 3 1, up2 (up1 (up2 σ1 0 3 1) 51 (cp (σ 50) (up2 σ1 0 3 1 51))) 49 3 1, ?_, ?_, ?_⟩
  · rw [F_X4_image, k04, ck_t, e1, bnd_s, lts_e]
  · rw [F_X5_image, k49, ck_t, M_copy (by decide) (by decide) (by decide) (by decide) (by decide), bnd_s, lts_e, r50]
  · generalize hτ : up2 (up1 (up2 σ1 0 3 1) 51 (cp (σ 50) (up2 σ1 0 3 1 51))) 49 3 1 = τ
    have o : ∀ k, ¬ k = 0 → ¬ k = 49 → ¬ k = 51 → τ k = σ1 k := fun k p q r => by rw [← hτ, up2_e _ 49, up1_n q, up1_n r, up2_e, up1_n p]
    have oo : ∀ k, ¬ k = 0 → ¬ k = 49 → ¬ k = 51 → ¬ (25 ≤ k ∧ k < 37) → τ k = σ k := fun k p q r s => by rw [o k p q r, f1 k (by omega)]
    have z0 : τ 0 = upd (σ 0) 3 1 := by rw [← hτ, up2_e _ 49, up1_n (by decide), up1_n (by decide), up2_e, up1_s, f1 0 (by decide)]
    have z49 : τ 49 = upd (σ 49) 3 1 := by rw [← hτ, up2_e _ 49, up1_s, up1_n (by decide), up2_e, up1_n (by decide), f1 49 (by decide)]
    have z51 : ∀ j, j < 79 → τ 51 j = σ 50 j := fun j hj => by rw [← hτ, up2_e _ 49, up1_n (by decide), up1_s, cp_lt hj]
    have v1 : V 1 τ = V 1 σ := V_eq fun k a b => oo k (by omega) (by omega) (by omega) (by omega)
    have v25 : V 25 τ = V 25 σ1 := V_eq fun k a b => o k (by omega) (by omega) (by omega)
    have ag : agr m (V 25 σ1) (V 1 σ) := a1
    refine ⟨⟨⟨m, by rw [v1]; exact okR_mono h1 (by omega), by rw [v1, oo 50 (by decide) (by decide) (by decide) (by decide)]; exact h2, by rw [v1]; exact h4⟩, Or.inr ⟨by rw [z0, upd_s], by rw [z49, upd_s], m, ?_, ?_, ?_⟩⟩, ⟨t, t1, by rw [oo 37 (by decide) (by decide) (by decide) (by decide)]; exact t2, by rw [z49, upd_n (by decide)]; exact t3, fun j hj => by rw [oo 38 (by decide) (by decide) (by decide) (by decide), oo 54 (by decide) (by decide) (by decide) (by decide)]; exact t4 j hj⟩, fun s hs => ?_, ?_⟩
    · rw [v25]; exact okR_mono (okR_agr (agr_s ag) h1) (by omega)
    · rw [v25]; exact agr_x h8 (agr_t ag h2) z51
    · rw [v25]; exact okS_agr (agr_s ag) h4
    · rw [oo _ (by omega) (by omega) (by omega) (by omega), oo (40 + 2 * s + 1) (by omega) (by omega) (by omega) (by omega), oo 57 (by decide) (by decide) (by decide) (by decide), oo 58 (by decide) (by decide) (by decide) (by decide), oo 59 (by decide) (by decide) (by decide) (by decide)]; exact hS s hs
    · unfold RelF; rw [oo 48 (by decide) (by decide) (by decide) (by decide), oo 53 (by decide) (by decide) (by decide) (by decide)]; exact hF
theorem op_undo : Op (F_X4_undo 0) (F_X5_undo 49) := by
  intro K σ hK h
  obtain ⟨⟨⟨m, h1, h2, h4⟩, hk⟩, hT, hS, hF⟩ := id h
  rcases hk with ⟨k0, k49'⟩ | ⟨k0, k49', m', g1, g2, g4⟩
  · refine op_e 3 (-1000004) (by decide) h ?_ (fun τ hτ => ?_)
    · rw [F_X4_undo, k04, ck_t, if_pos k0, C_f3, bnd_s]
    · rw [F_X5_undo, k49, ck_t, if_pos (by rw [hτ 49 (by decide)]; exact k49'), M_f3, bnd_s]
  · have h8 := g1.1
    obtain ⟨σ1, e1, a1, f1⟩ := C_become k1 k25 (by decide) h8 σ g1.2.1
    have r51 : σ1 51 = σ 51 := f1 51 (by decide)
    refine ⟨V 25 σ 0, σ1, up1 σ1 50 (cp (σ1 51) (σ1 50)), ?_, ?_, ?_⟩
    · rw [F_X4_undo, k04, ck_t, if_neg (by rw [k0]; decide), e1, bnd_s, V0 1 σ1, a1 0 (by omega)]
    · rw [F_X5_undo, k49, ck_t, if_neg (by rw [f1 49 (by decide), k49']; decide), M_copy (by decide) (by decide) (by decide) (by decide) (by decide), bnd_s, up1_s, cp_lt (by decide), r51, g2 0 (by omega)]
    · refine Rel_real h f1 (fun k' hk' => up1_n hk') ⟨m', ?_, ?_, ?_⟩
      · exact okR_mono (okR_agr (agr_s a1) g1) (by omega)
      · rw [up1_s, r51]; exact agr_cp h8 _ (agr_t a1 g2)
      · exact okS_agr (agr_s a1) g4
theorem op_tear : Op (F_X4_tear 0) (F_X5_tear 49) := by
  intro K σ hK h
  obtain ⟨⟨⟨m, h1, h2, h4⟩, hk⟩, ⟨t, t1, t2, t3, t4⟩, hS, hF⟩ := id h
  have er : ∃ r, F_X4_tear 0 σ = some (r, up2 σ 0 3 0) ∧ F_X5_tear 49 (up2 σ 0 3 0) = some (r, up2 (up2 σ 0 3 0) 49 3 0) := by
    have q : (up2 σ 0 3 0) 49 3 = σ 49 3 := by rw [up2_e, up1_n (by decide)]
    rcases hk with ⟨k0, k49'⟩ | ⟨k0, k49', -⟩
    · refine ⟨0, ?_, ?_⟩
      · rw [F_X4_tear, k04, ck_t, if_pos k0, lts_e]
      · rw [F_X5_tear, k49, ck_t, if_pos (by rw [q]; exact k49'), lts_e]
    · refine ⟨1, ?_, ?_⟩
      · rw [F_X4_tear, k04, ck_t, if_neg (by rw [k0]; decide), lts_e]
      · rw [F_X5_tear, k49, ck_t, if_neg (by rw [q, k49']; decide), lts_e]
  obtain ⟨r, e1, e2⟩ := er
  refine ⟨r, _, _, e1, e2, ?_⟩
  generalize hτ : up2 (up2 σ 0 3 0) 49 3 0 = τ
  have o : ∀ k, ¬ k = 0 → ¬ k = 49 → τ k = σ k := fun k p q => by rw [← hτ, up2_e _ 49, up1_n q, up2_e, up1_n p]
  have z0 : τ 0 = upd (σ 0) 3 0 := by rw [← hτ, up2_e _ 49, up1_n (by decide), up2_e, up1_s]
  have z49 : τ 49 = upd (σ 49) 3 0 := by rw [← hτ, up2_e _ 49, up1_s, up2_e, up1_n (by decide)]
  have v1 : V 1 τ = V 1 σ := V_eq fun k a b => o k (by omega) (by omega)
  refine ⟨⟨⟨m, by rw [v1]; exact okR_mono h1 (by omega), by rw [v1, o 50 (by decide) (by decide)]; exact h2, by rw [v1]; exact h4⟩, Or.inl ⟨by rw [z0, upd_s], by rw [z49, upd_s]⟩⟩, ⟨t, t1, by rw [o 37 (by decide) (by decide)]; exact t2, by rw [z49, upd_n (by decide)]; exact t3, fun j hj => by rw [o 38 (by decide) (by decide), o 54 (by decide) (by decide)]; exact t4 j hj⟩, fun s hs => ?_, ?_⟩
  · rw [o _ (by omega) (by omega), o (40 + 2 * s + 1) (by omega) (by omega), o 57 (by decide) (by decide), o 58 (by decide) (by decide), o 59 (by decide) (by decide)]; exact hS s hs
  · unfold RelF; rw [o 48 (by decide) (by decide), o 53 (by decide) (by decide)]; exact hF
/-! as -/
def ofK (k q : Nat) : Bool := k == q || (match k with | 0 => false | 3 => q == 2 || q == 0 | 4 => q == 3 || q == 2 || q == 0 | 6 => q == 1 || q == 0 | _ => q == 0)
theorem C_ofK {k q : Nat} (hk : k ≤ 6) (hq : q ≤ 6) (σ : Sto) : F_X2_isOfOrUnder (nI k) (nI q) σ = some (b2i (ofK k q), σ) := by
  rcases (show k = 0 ∨ k = 1 ∨ k = 2 ∨ k = 3 ∨ k = 4 ∨ k = 5 ∨ k = 6 by omega) with rfl | rfl | rfl | rfl | rfl | rfl | rfl <;> rcases (show q = 0 ∨ q = 1 ∨ q = 2 ∨ q = 3 ∨ q = 4 ∨ q = 5 ∨ q = 6 by omega) with rfl | rfl | rfl | rfl | rfl | rfl | rfl <;> rfl
theorem M_ofK {k q : Nat} (hk : k ≤ 6) (hq : q ≤ 6) (σ : Sto) : F_X5_isUnder (nI k) (nI q) σ = some (b2i (ofK k q), σ) := by
  rcases (show k = 0 ∨ k = 1 ∨ k = 2 ∨ k = 3 ∨ k = 4 ∨ k = 5 ∨ k = 6 by omega) with rfl | rfl | rfl | rfl | rfl | rfl | rfl <;> rcases (show q = 0 ∨ q = 1 ∨ q = 2 ∨ q = 3 ∨ q = 4 ∨ q = 5 ∨ q = 6 by omega) with rfl | rfl | rfl | rfl | rfl | rfl | rfl <;> rfl
theorem M_isSpot (p : Int32) (τ : Sto) : F_X5_isSpot p τ = some (b2i (wi p 0 9), τ) := by rw [F_X5_isSpot, M_within, bnd_s, z01_b, ck_t]
theorem op_as (p q : Int32) : Op (F_X4_as 0 p q) (F_X5_as 49 p q) := by
  intro K σ hK h
  obtain ⟨⟨⟨m, h1, h2, h4⟩, hk⟩, hT, hS, hF⟩ := id h
  have h8 := h1.1
  by_cases hw : wi p 0 9 = true
  · by_cases hv : wi q 0 6 = true
    · obtain ⟨k, hk9, rfl⟩ := wi_t (n := 9) (by decide) rfl hw
      obtain ⟨z, hz6, rfl⟩ := wi_t (n := 6) (by decide) rfl hv
      have c0 : ∀ P, (bnd (F_X0_who 1 (V 1 σ (7 + k)) σ) (fun xr18 xσ16 => ocase xr18 (bnd (F_X4_finding 0 (-1000006) xσ16) (fun xr22 xσ20 => some (xr22, xσ20))) (fun xk19 => ck (kd (xk19) == 2) (bnd (F_X2_isOfOrUnder (xσ16 xk19 0) (nI z) xσ16) (fun xr26 xσ24 => if (xr26) = 0 then bnd (F_X4_finding 0 (-1000003) xσ24) (fun xr30 xσ28 => some (xr30, xσ28)) else some (V 1 σ (7 + k), xσ24)))))) = P → F_X4_as 0 (nI k) (nI z) σ = P := by
        intro P hP
        rw [F_X4_as, C_within, bnd_s, if_t hw, C_within, bnd_s, if_t hv, k04, ck_t, inr_nI (by omega) (by decide), ck_t, lti_e, nI_clamp (by omega), show σ 12 k = V 1 σ (7 + k) from Vsp 1 σ (by omega)]
        exact hP
      have m0 : ∀ (τ : Sto) P, τ 50 (7 + k) = V 1 σ (7 + k) → (if 0 ≤ (V 1 σ (7 + k)) then bnd (F_X5_sitterIs 49 (V 1 σ (7 + k)) 0 τ) (fun xr19 xσ17 => bnd (F_X5_isUnder (xr19) (nI z) xσ17) (fun xr22 xσ20 => if (xr22) = 0 then bnd (F_X5_finding 49 (-1000003) xσ20) (fun xr26 xσ24 => some (xr26, xσ24)) else some (V 1 σ (7 + k), xσ20))) else bnd (F_X5_finding 49 (-1000006) τ) (fun xr29 xσ27 => some (xr29, xσ27))) = P → F_X5_as 49 (nI k) (nI z) τ = P := by
        intro τ P e hP
        rw [F_X5_as, M_isSpot, bnd_s, if_t hw, M_isKind, bnd_s, if_t hv, k49, ck_t, show 7 + nI k = nI (7 + k) from nI_add 7 k, inr_nI (by omega) (by decide), ck_t, lti_e, nI_clamp (by omega), e]
        exact hP
      rcases h1.2.2.2.2 k (by omega) with e | ⟨i, hi, e⟩
      · refine op_e 5 (-1000006) (by decide) h (c0 _ ?_) (fun τ hτ => m0 τ _ (mrow h2 hτ _ (by omega)).symm ?_)
        · rw [e, C_whoN k1 h1.2.1 h8 (by rintro ⟨j, hj, ej⟩; exact absurd (show nI j < 0 by rw [← ej]; decide) (nI_pos (by omega))), bnd_s, oc_n, C_f5, bnd_s]
        · rw [e, if_neg (by decide), M_f5, bnd_s]
      · obtain ⟨⟨y, hy, ey⟩, -⟩ := h4 i hi
        by_cases hu : ofK y z = true
        · refine op_ans (r := nI i) h ⟨σ, c0 _ ?_, cq_r σ⟩ (fun τ hτ => ⟨τ, m0 τ _ (mrow h2 hτ _ (by omega)).symm ?_, mq_r τ⟩)
          · rw [e, C_whoS k1 h1.2.1 h8 hi, bnd_s, oc_s, kdb _ (kel k1 (by omega)), ck_t, Vs 1 σ (by omega) (by decide), Nat.add_zero, ey, C_ofK hy hz6, bnd_s, if_t hu]
          · rw [e, if_pos (nI_pos' (by omega)), M_is0 (by omega), bnd_s, ← mrow h2 hτ _ (by omega), ey, M_ofK hy hz6, bnd_s, if_t hu]
        · refine op_e 2 (-1000003) (by decide) h (c0 _ ?_) (fun τ hτ => m0 τ _ (mrow h2 hτ _ (by omega)).symm ?_)
          · rw [e, C_whoS k1 h1.2.1 h8 hi, bnd_s, oc_s, kdb _ (kel k1 (by omega)), ck_t, Vs 1 σ (by omega) (by decide), Nat.add_zero, ey, C_ofK hy hz6, bnd_s, if_f (wi_f hu), C_f2, bnd_s]
          · rw [e, if_pos (nI_pos' (by omega)), M_is0 (by omega), bnd_s, ← mrow h2 hτ _ (by omega), ey, M_ofK hy hz6, bnd_s, if_f (wi_f hu), M_f2, bnd_s]
    · refine op_e0 h ?_ (fun τ hτ => ?_)
      · rw [F_X4_as, C_within, bnd_s, if_t hw, C_within, bnd_s, if_f (wi_f hv), k04, ck_t, C_f0, bnd_s]
      · rw [F_X5_as, M_isSpot, bnd_s, if_t hw, M_isKind, bnd_s, if_f (wi_f hv), k49, ck_t, M_f0, bnd_s]
  · refine op_e0 h ?_ (fun τ hτ => ?_)
    · rw [F_X4_as, C_within, bnd_s, if_f (wi_f hw), k04, ck_t, C_f0, bnd_s]
    · rw [F_X5_as, M_isSpot, bnd_s, if_f (wi_f hw), k49, ck_t, M_f0, bnd_s]
/-! ahead, later -/
theorem C_trial {K m k : Nat} {σ : Sto} (h1 : okR (100 * K) m (V 1 σ)) (hK : K ≤ 512) (hk : k ≤ 200) : ∃ σ1 σ2, F_X0_become 13 1 σ = some ((), σ1) ∧ F_X0_passMinutes 13 (nI k) σ1 = some ((), σ2) ∧ cq σ σ2 ∧ agr m (V 13 σ2) (minsR k (V 1 σ)) ∧ V 13 σ2 1 = nI m := by
  have h8 := h1.1
  obtain ⟨σ1, e1, a1, f1⟩ := C_become k13 k1 (by decide) h8 σ h1.2.1
  have ok1 := okR_agr (agr_s a1) h1
  obtain ⟨σ2, e2, v2, f2⟩ := C_passMinutes (N := k) k13 σ1 ok1 (by omega) (by omega)
  refine ⟨σ1, σ2, e1, e2, cq_t (cq_fr f1) (cq_fr f2), ?_, ?_⟩
  · rw [v2]; exact agr_mins k (100 * K) a1 ok1 (by omega)
  · rw [v2]; exact (okR_mins k (100 * K) ok1).2.1
theorem op_ahead (s w n : Int32) : Op (F_X4_ahead 0 s w n) (F_X5_ahead 49 s w n) := by
  intro K σ hK h
  obtain ⟨⟨⟨m, h1, h2, h4⟩, hk⟩, hT, hS, hF⟩ := id h
  have h8 := h1.1
  by_cases hs : isS m s = true
  · obtain ⟨i, hi, rfl⟩ := isS_of hs
    by_cases hw : wi w 2 6 = true
    · have hw' := hw
      unfold wi at hw'
      rw [Bool.and_eq_true, Bool.not_eq_true', Bool.not_eq_true', decide_eq_false_iff_not, decide_eq_false_iff_not] at hw'
      obtain ⟨z, hz, rfl⟩ := nI_of (show ¬ w < 0 from fun q => hw'.1 (Int32.lt_trans q (by decide)))
      have z6 : z ≤ 6 := by
        rcases Nat.lt_or_ge 6 z with q | q
        · exact absurd ((nI_ltI (a := 6) (by decide) hz).mpr q) hw'.2
        · exact q
      by_cases hn : wi n 0 200 = true
      · obtain ⟨k, hk2, rfl⟩ := wi_t (n := 200) (by decide) rfl hn
        obtain ⟨σ1, σ2, e1, e2, q2, a2, n2⟩ := C_trial h1 hK hk2
        refine op_ans (r := minsR k (V 1 σ) (23 + 7 * i + z)) h ⟨σ2, ?_, q2⟩ (fun τ hτ => ?_)
        · rw [F_X4_ahead, k04, ck_t, C_isSitter k1 h1.2.1 h8, bnd_s, if_t hs, if_neg hw'.1, if_neg hw'.2, C_within, bnd_s, if_t hn, e1, bnd_s, e2, bnd_s, C_partOf k13 n2 h8 hi (by omega), bnd_s, a2 _ (by omega)]
        · have ok2 : okR (100 * K) m (τ 50) := okR_agr (mrow h2 hτ) h1
          obtain ⟨σ', e', q'⟩ := M_behind (p := 23 + 7 * i + z) (n := k) ok2 (by omega) (by omega) (by omega)
          refine ⟨σ', ?_, q'⟩
          rw [F_X5_ahead, k49, ck_t, M_isSitter h8 (m1of h1 (mrow h2 hτ)), bnd_s, if_t hs, M_within, bnd_s, if_t hw, M_within, bnd_s, if_t hn, M_at, bnd_s, e', bnd_s, agr_mins k (100 * K) (mrow h2 hτ) h1 (by omega) (23 + 7 * i + z) (by omega)]
      · refine op_e0 h ?_ (fun τ hτ => ?_)
        · rw [F_X4_ahead, k04, ck_t, C_isSitter k1 h1.2.1 h8, bnd_s, if_t hs, if_neg hw'.1, if_neg hw'.2, C_within, bnd_s, if_f (wi_f hn), C_f0, bnd_s]
        · rw [F_X5_ahead, k49, ck_t, M_isSitter h8 (m1of h1 (mrow h2 hτ)), bnd_s, if_t hs, M_within, bnd_s, if_t hw, M_within, bnd_s, if_f (wi_f hn), M_f0, bnd_s]
    · refine op_e0 h ?_ (fun τ hτ => ?_)
      · unfold wi at hw
        rw [Bool.and_eq_true, Bool.not_eq_true', Bool.not_eq_true', decide_eq_false_iff_not, decide_eq_false_iff_not] at hw
        rw [F_X4_ahead, k04, ck_t, C_isSitter k1 h1.2.1 h8, bnd_s, if_t hs]
        by_cases c1 : w < 2
        · rw [if_pos c1, C_f0, bnd_s]
        · rw [if_neg c1, if_pos (Decidable.byContradiction fun q => hw ⟨c1, q⟩), C_f0, bnd_s]
      · rw [F_X5_ahead, k49, ck_t, M_isSitter h8 (m1of h1 (mrow h2 hτ)), bnd_s, if_t hs, M_within, bnd_s, if_f (wi_f hw), M_f0, bnd_s]
  · refine op_e0 h ?_ (fun τ hτ => ?_)
    · rw [F_X4_ahead, k04, ck_t, C_isSitter k1 h1.2.1 h8, bnd_s, if_f (wi_f hs), C_f0, bnd_s]
    · rw [F_X5_ahead, k49, ck_t, M_isSitter h8 (m1of h1 (mrow h2 hτ)), bnd_s, if_f (wi_f hs), M_f0, bnd_s]
theorem op_later (w n : Int32) : Op (F_X4_later 0 w n) (F_X5_later 49 w n) := by
  intro K σ hK h
  obtain ⟨⟨⟨m, h1, h2, h4⟩, hk⟩, hT, hS, hF⟩ := id h
  have h8 := h1.1
  have both : ∀ z, (z = 0 ∨ z = 3) → ∃ r σ1 σ2, F_X4_later_b9 0 (nI z) n σ = some (r, σ1) ∧ F_X5_later_b9 49 (nI z) n σ1 = some (r, σ2) ∧ Rel (K + 1) σ2 := by
    intro z hz
    by_cases hn : wi n 0 200 = true
    · obtain ⟨k, hk2, rfl⟩ := wi_t (n := 200) (by decide) rfl hn
      obtain ⟨σ1, σ2, e1, e2, q2, a2, n2⟩ := C_trial h1 hK hk2
      refine op_ans (r := minsR k (V 1 σ) (3 + z)) h ⟨σ2, ?_, q2⟩ (fun τ hτ => ?_)
      · have ep : F_X0_part 13 (nI z) σ2 = some (V 13 σ2 (3 + z), σ2) := by rcases hz with rfl | rfl <;> rfl
        rw [F_X4_later_b9, C_within, bnd_s, if_t hn, k04, ck_t, e1, bnd_s, e2, bnd_s, ep, bnd_s, a2 _ (by omega)]
      · have ok2 : okR (100 * K) m (τ 50) := okR_agr (mrow h2 hτ) h1
        obtain ⟨σ', e', q'⟩ := M_behind (p := 3 + z) (n := k) ok2 (by omega) (by omega) (by omega)
        refine ⟨σ', ?_, q'⟩
        rw [F_X5_later_b9, M_within, bnd_s, if_t hn, k49, ck_t, show 3 + nI z = nI (3 + z) from nI_add 3 z, e', bnd_s, agr_mins k (100 * K) (mrow h2 hτ) h1 (by omega) (3 + z) (by omega)]
    · refine op_e0 h ?_ (fun τ hτ => ?_)
      · rw [F_X4_later_b9, C_within, bnd_s, if_f (wi_f hn), k04, ck_t, C_f0, bnd_s]
      · rw [F_X5_later_b9, M_within, bnd_s, if_f (wi_f hn), k49, ck_t, M_f0, bnd_s]
  by_cases w0 : w = 0
  · obtain ⟨r, σ1, σ2, e1, e2, hr⟩ := both 0 (Or.inl rfl)
    subst w0
    exact ⟨r, σ1, σ2, by rw [F_X4_later, if_pos rfl]; exact e1, by rw [F_X5_later, if_pos rfl]; exact e2, hr⟩
  by_cases w3 : w = 3
  · obtain ⟨r, σ1, σ2, e1, e2, hr⟩ := both 3 (Or.inr rfl)
    subst w3
    exact ⟨r, σ1, σ2, by rw [F_X4_later, if_neg (by decide), if_pos rfl]; exact e1, by rw [F_X5_later, if_neg (by decide), if_pos rfl]; exact e2, hr⟩
  · refine op_e0 h ?_ (fun τ hτ => ?_)
    · rw [F_X4_later, if_neg w0, if_neg w3, k04, ck_t, C_f0, bnd_s]
    · rw [F_X5_later, if_neg w0, if_neg w3, k49, ck_t, M_f0, bnd_s]

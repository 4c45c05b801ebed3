/-! PURE: the calls: away (the reference's trial) -/
theorem M_em {j m i k T : Nat} (hi : i < m) (hk : k ≤ 200) (hT : T + k < 2 ^ 31) : ∀ d p n (σ : Sto), p + d = 6 → d < n → okR T m (σ 50) → ∃ g, lo5 F_X5_takenWithout_b14 n 49 (nI j) (nI i) (nI k) (nI p) σ = some (minsR k (emG j m d p (σ 50)) (23 + 7 * i + 5), bk (up1 σ 50 g)) := by
  intro d
  induction d with
  | zero =>
    intro p n σ hp hn hok
    obtain ⟨n, rfl⟩ : ∃ q, n = q + 1 := ⟨n - 1, by omega⟩
    refine ⟨minsR k (σ 50), ?_⟩
    have e : p = 6 := by omega
    subst e
    rw [lo5_s, F_X5_takenWithout_b14, if_pos (by decide), k49, ck_t, M_minutes σ hok (by omega) hT, bnd_s, M_is5 (by have := hok.1; omega), bnd_s, M_putBack, bnd_s, up1_s, emG]
    unfold bk
    rw [up1_s]
  | succ d ih =>
    intro p n σ hp hn hok
    obtain ⟨n, rfl⟩ : ∃ q, n = q + 1 := ⟨n - 1, by omega⟩
    have hp6 : p < 6 := by omega
    have okv : okR T m (upd (σ 50) (17 + p) (emV j m (σ 50 (17 + p)))) := okR_q hok hp6 (emV_Q (isQ_q hok hp6))
    obtain ⟨g, eg⟩ := ih (p + 1) n (up1 σ 50 (upd (σ 50) (17 + p) (emV j m (σ 50 (17 + p))))) (by omega) (by omega) (by rw [up1_s]; exact okv)
    rw [up1_s, up1_t] at eg
    refine ⟨g, ?_⟩
    rw [emG, ← eg, lo5_s, F_X5_takenWithout_b14, if_neg (show ¬ (6 : Int32) ≤ nI p from nI_lei (m := 6) hp6 (by decide)), k49, ck_t, show (17 : Int32) + nI p = nI (17 + p) from nI_add 17 p, inr_nI (by omega) (by decide), ck_t, lti_e, ck_t, lts_e, nI_clamp (by omega), nI_1]
    rcases hok.2.2.2.1 p hp6 with e | ⟨s, hs, e⟩
    · have ev : emV j m (-1) = -1 := by unfold emV; rw [if_neg (by rw [isS_no (by rintro ⟨q, hq, eq⟩; exact absurd (show nI q < 0 by rw [← eq]; decide) (nI_pos (by have := hok.1; omega)))]; decide)]
      rw [e, if_pos (by decide), ev, up2_e]
    · have hs8 : s < 8 := by have := hok.1; omega
      rw [e, if_neg (nI_pos (by omega)), F_X5_hasBit]
      by_cases c : isr (nI j) (nI s) &&& 1 = 1
      · have ev : emV j m (nI s) = -1 := by unfold emV; rw [if_pos (isS_nI hs hok.1), nI_clamp (by omega), if_pos (show hbU j s = true from decide_eq_true c)]
        rw [if_pos c, bnd_s, if_neg (by decide), ck_t, lts_e, ev, up2_e]
      · have ev : emV j m (nI s) = nI s := by unfold emV; rw [if_pos (isS_nI hs hok.1), nI_clamp (by omega), if_neg (by unfold hbU; rw [decide_eq_true_eq]; exact c)]
        rw [if_neg c, bnd_s, if_pos rfl, ck_t, lts_e, ev, up2_e]
theorem M_tw {j m i k T : Nat} (hi : i < m) (hk : k ≤ 200) (hT : T + k < 2 ^ 31) (σ : Sto) (hok : okR T m (σ 50)) : ∃ σ', mq σ σ' ∧ F_X5_takenWithout 49 (nI j) (nI i) (nI k) σ = some (minsR k (emG j m 6 0 (σ 50)) (23 + 7 * i + 5), σ') := by
  have r50 : (up1 σ 52 (cp (σ 50) (σ 52))) 50 = σ 50 := up1_n (by decide)
  obtain ⟨g, eg⟩ := M_em (j := j) hi hk hT 6 0 1000 (up1 σ 52 (cp (σ 50) (σ 52))) (by omega) (by omega) (by rw [r50]; exact hok)
  rw [r50] at eg
  refine ⟨_, bk_mq σ g, ?_⟩
  rw [F_X5_takenWithout, k49, ck_t, M_copy (by decide) (by decide) (by decide) (by decide) (by decide), bnd_s]
  exact eg

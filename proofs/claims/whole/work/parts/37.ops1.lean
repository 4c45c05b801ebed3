/-! PURE: the calls, one by one: booth, queue, sitters -/
theorem k04 : (kd 0 == 4) = true := by decide
theorem k1 : kd 1 = 0 := by decide
theorem k13 : kd 13 = 0 := by decide
theorem k25 : kd 25 = 0 := by decide
theorem op_e {β : Type} {Fc Fm : Sto → Option (β × Sto)} {K : Nat} {σ : Sto} (i : Nat) (r : β) (hi : i < 7) (h : Rel K σ) (hc : Fc σ = some (r, fnd i σ)) (hm : ∀ τ : Sto, (∀ k, 49 ≤ k → τ k = σ k) → Fm τ = some (r, fndM i τ)) : ∃ r σ1 σ2, Fc σ = some (r, σ1) ∧ Fm σ1 = some (r, σ2) ∧ Rel (K + 1) σ2 := op_fin hi h ⟨σ, hc, cq_r σ⟩ (fun τ hτ => ⟨τ, hm τ hτ, mq_r τ⟩)
theorem op_e0 {Fc Fm : Sto → Option (Int32 × Sto)} {K : Nat} {σ : Sto} (h : Rel K σ) (hc : Fc σ = some (-1000001, fnd 0 σ)) (hm : ∀ τ : Sto, (∀ k, 49 ≤ k → τ k = σ k) → Fm τ = some (-1000001, fndM 0 τ)) : ∃ r σ1 σ2, Fc σ = some (r, σ1) ∧ Fm σ1 = some (r, σ2) ∧ Rel (K + 1) σ2 := op_e 0 _ (by decide) h hc hm
theorem if_f {α : Type} {c : Bool} (h : c = false) (p q : α) : (if b2i c = 0 then p else q) = p := by rw [h]; rfl
theorem if_t {α : Type} {c : Bool} (h : c = true) (p q : α) : (if b2i c = 0 then p else q) = q := by rw [h]; rfl
theorem okS_agr {m : Nat} {a b : Row} (h : agr m a b) (hs : okS m a) : okS m b := by
  intro i hi
  rw [← h (23 + 7 * i) (by omega), ← h (23 + 7 * i + 5) (by omega)]
  exact hs i hi
theorem okS_u {m k : Nat} {a : Row} {v : Int32} (hs : okS m a) (hk : ∀ i, i < m → ¬ k = 23 + 7 * i ∧ ¬ k = 23 + 7 * i + 5) : okS m (upd a k v) := by
  intro i hi
  rw [upd_n (Ne.symm (hk i hi).1), upd_n (Ne.symm (hk i hi).2)]
  exact hs i hi
/-- the real Booth changes in one place, the reference's row too -/
theorem Rel_real {K : Nat} {σ σ1 σ2 : Sto} (h : Rel K σ) (f : fr 1 σ σ1) (e : ∀ k, ¬ k = 50 → σ2 k = σ1 k) (n : ∃ m, okR (100 * (K + 1)) m (V 1 σ1) ∧ agr m (V 1 σ1) (σ2 50) ∧ okS m (V 1 σ1)) : Rel (K + 1) σ2 := by
  obtain ⟨⟨-, h3⟩, ⟨t, t1, t2, t3, t4⟩, hS, hF⟩ := h
  have o : ∀ k, ¬ (1 ≤ k ∧ k < 13) → ¬ k = 50 → σ2 k = σ k := fun k a b => (e k b).trans (f k (by omega))
  have v25 : V 25 σ2 = V 25 σ := V_eq fun k a b => o k (by omega) (by omega)
  have v1 : V 1 σ2 = V 1 σ1 := V_eq fun k a b => e k (by omega)
  obtain ⟨m, n1, n2, n3⟩ := n
  refine ⟨⟨⟨m, by rw [v1]; exact n1, by rw [v1]; exact n2, by rw [v1]; exact n3⟩, ?_⟩, ⟨t, t1, by rw [o 37 (by omega) (by omega)]; exact t2, by rw [o 49 (by omega) (by omega)]; exact t3, fun j hj => by rw [o 38 (by omega) (by omega), o 54 (by omega) (by omega)]; exact t4 j hj⟩, fun s hs => ?_, ?_⟩
  · rw [v25, o 0 (by omega) (by omega), o 49 (by omega) (by omega), o 51 (by omega) (by omega)]
    rcases h3 with h3 | ⟨a, b, m', h4, h5⟩
    · exact Or.inl h3
    · exact Or.inr ⟨a, b, m', okR_mono h4 (by omega), h5⟩
  · rw [o _ (by omega) (by omega), o (40 + 2 * s + 1) (by omega) (by omega), o 57 (by omega) (by omega), o 58 (by omega) (by omega), o 59 (by omega) (by omega)]; exact hS s hs
  · unfold RelF; rw [o 48 (by omega) (by omega), o 53 (by omega) (by omega)]; exact hF
theorem C_isPart (v : Int32) (σ : Sto) : F_X0_isPart v σ = some (b2i (wi v 0 3), σ) := by
  unfold F_X0_isPart wi
  by_cases h1 : v < 0
  · rw [if_pos h1, decide_eq_true h1]; rfl
  · rw [if_neg h1, decide_eq_false h1]
    by_cases h2 : 3 < v
    · rw [if_pos h2, decide_eq_true h2]; rfl
    · rw [if_neg h2, decide_eq_false h2]; rfl
theorem wi_f {c : Bool} (h : ¬ c = true) : c = false := by simpa using h
theorem op_booth (w : Int32) : Op (F_X4_booth 0 w) (F_X5_booth 49 w) := by
  intro K σ hK h
  obtain ⟨⟨⟨m, h1, h2, h4⟩, hk⟩, hT, hS, hF⟩ := id h
  by_cases hw : wi w 0 3 = true
  · obtain ⟨k, hk3, rfl⟩ := wi_t (n := 3) (by decide) rfl hw
    refine op_ans (r := V 1 σ (3 + k)) h ⟨σ, ?_, cq_r σ⟩ (fun τ hτ => ⟨τ, ?_, mq_r τ⟩)
    · rw [F_X4_booth, C_isPart, bnd_s, if_t hw, k04, ck_t]
      rcases (show k = 0 ∨ k = 1 ∨ k = 2 ∨ k = 3 by omega) with rfl | rfl | rfl | rfl <;> rfl
    · rw [F_X5_booth, M_within, bnd_s, if_t hw, k49, ck_t, show 3 + nI k = nI (3 + k) from nI_add 3 k, inr_nI (by omega) (by decide), ck_t, nI_clamp (by omega), hτ 50 (by decide), h2 (3 + k) (by omega)]
  · refine op_e0 h ?_ (fun τ hτ => ?_)
    · rw [F_X4_booth, C_isPart, bnd_s, if_f (wi_f hw), k04, ck_t, C_f0, bnd_s]
    · rw [F_X5_booth, M_within, bnd_s, if_f (wi_f hw), k49, ck_t, M_f0, bnd_s]
theorem op_place (p : Int32) : Op (F_X4_place 0 p) (F_X5_place 49 p) := by
  intro K σ hK h
  obtain ⟨⟨⟨m, h1, h2, h4⟩, hk⟩, hT, hS, hF⟩ := id h
  by_cases hw : inr p 6 = true
  · obtain ⟨k, hk6, rfl⟩ := inr_of hw
    refine op_ans (r := V 1 σ (17 + k)) h ⟨σ, ?_, cq_r σ⟩ (fun τ hτ => ⟨τ, ?_, mq_r τ⟩)
    · rw [F_X4_place, C_isPlace, bnd_s, if_t hw, k04, ck_t, C_whoIsIn k1 hk6, bnd_s]
    · rw [F_X5_place, M_isPlace, bnd_s, if_t hw, k49, ck_t, show 17 + nI k = nI (17 + k) from nI_add 17 k, inr_nI (by omega) (by decide), ck_t, nI_clamp (by omega), hτ 50 (by decide), h2 (17 + k) (by omega)]
  · refine op_e0 h ?_ (fun τ hτ => ?_)
    · rw [F_X4_place, C_isPlace, bnd_s, if_f (wi_f hw), k04, ck_t, C_f0, bnd_s]
    · rw [F_X5_place, M_isPlace, bnd_s, if_f (wi_f hw), k49, ck_t, M_f0, bnd_s]
theorem C_seat {b p : Nat} (hb : kd b = 0) (hp : p < 6) (v : Int32) (σ : Sto) : F_X0_seat b (nI p) v σ = some ((), up2 σ (b + 10) p v) := by
  rw [F_X0_seat, C_isPlace, bnd_s, if_t (inr_nI hp (by decide)), kdb b hb, ck_t, inr_nI hp (by decide), ck_t, lts_e, nI_clamp (by omega)]
theorem okR_q {T m p : Nat} {a : Row} {v : Int32} (h : okR T m a) (hp : p < 6) (hv : isQ m v = true) : okR T m (upd a (17 + p) v) := by
  obtain ⟨h8, hm, ⟨t, ht, et⟩, hq, hs⟩ := h
  refine ⟨h8, by rw [upd_n (by omega)]; exact hm, ⟨t, ht, by rw [upd_n (by omega)]; exact et⟩, fun q hq' => ?_, fun q hq' => ?_⟩
  · rw [upd_i]
    by_cases e : 17 + q = 17 + p
    · rw [if_pos e]; exact isQ_of hv
    · rw [if_neg e]; exact hq q hq'
  · rw [upd_n (by omega)]; exact hs q hq'
theorem okR_sp {T m p : Nat} {a : Row} {v : Int32} (h : okR T m a) (hp : p < 10) (hv : isQ m v = true) : okR T m (upd a (7 + p) v) := by
  obtain ⟨h8, hm, ⟨t, ht, et⟩, hq, hs⟩ := h
  refine ⟨h8, by rw [upd_n (by omega)]; exact hm, ⟨t, ht, by rw [upd_n (by omega)]; exact et⟩, fun q hq' => ?_, fun q hq' => ?_⟩
  · rw [upd_n (by omega)]; exact hq q hq'
  · rw [upd_i]
    by_cases e : 7 + q = 7 + p
    · rw [if_pos e]; exact isQ_of hv
    · rw [if_neg e]; exact hs q hq'
theorem okR_o {T m k : Nat} {a : Row} {v : Int32} (h : okR T m a) (h0 : ¬ k = 0) (h1 : ¬ k = 1) (h7 : ¬ (7 ≤ k ∧ k < 23)) : okR T m (upd a k v) := by
  obtain ⟨h8, hm, ⟨t, ht, et⟩, hq, hs⟩ := h
  exact ⟨h8, by rw [upd_n (Ne.symm h1)]; exact hm, ⟨t, ht, by rw [upd_n (Ne.symm h0)]; exact et⟩, fun q hq' => by rw [upd_n (by omega)]; exact hq q hq', fun q hq' => by rw [upd_n (by omega)]; exact hs q hq'⟩
theorem op_queue (p s : Int32) : Op (F_X4_queue 0 p s) (F_X5_queue 49 p s) := by
  intro K σ hK h
  obtain ⟨⟨⟨m, h1, h2, h4⟩, hk⟩, hT, hS, hF⟩ := id h
  by_cases hw : inr p 6 = true
  · obtain ⟨k, hk6, rfl⟩ := inr_of hw
    by_cases hq : isQ m s = true
    · have em : ∀ τ : Sto, τ 50 = σ 50 → F_X5_queue 49 (nI k) s τ = some (σ 50 (17 + k), up1 τ 50 (upd (τ 50) (17 + k) s)) := by
        intro τ hτ
        rw [F_X5_queue, M_isPlace, bnd_s, if_t hw, k49, ck_t, M_isQ h1.1 (by rw [hτ, ← h2 1 (by omega)]; exact h1.2.1), bnd_s, if_t hq, show 17 + nI k = nI (17 + k) from nI_add 17 k, M_becomeR (by omega), bnd_s, hτ]
      refine ⟨V 1 σ (17 + k), up2 σ 11 k s, _, ?_, by rw [h2 (17 + k) (by omega)]; exact em _ (up1_n (by decide)), ?_⟩
      · rw [F_X4_queue, C_isPlace, bnd_s, if_t hw, k04, ck_t, C_isQ k1 h1.2.1 h1.1, bnd_s, if_t hq, C_whoIsIn k1 hk6, bnd_s, C_seat k1 hk6, bnd_s]
      · have v : V 1 (up2 σ 11 k s) = upd (V 1 σ) (17 + k) s := V_uq (b := 1) hk6
        refine Rel_real h (fr_u (by omega)) (fun k' hk' => up1_n hk') ⟨m, ?_, ?_, ?_⟩
        · rw [v]; exact okR_mono (okR_q h1 hk6 hq) (by omega)
        · rw [v, up1_s, up2_e, up1_n (by decide)]; exact agr_u h2 rfl
        · rw [v]; exact okS_u h4 fun i hi => ⟨by omega, by omega⟩
    · refine op_e0 h ?_ (fun τ hτ => ?_)
      · rw [F_X4_queue, C_isPlace, bnd_s, if_t hw, k04, ck_t, C_isQ k1 h1.2.1 h1.1, bnd_s, if_f (wi_f hq), C_f0, bnd_s]
      · rw [F_X5_queue, M_isPlace, bnd_s, if_t hw, k49, ck_t, M_isQ h1.1 (by rw [hτ 50 (by decide), ← h2 1 (by omega)]; exact h1.2.1), bnd_s, if_f (wi_f hq), M_f0, bnd_s]
  · refine op_e0 h ?_ (fun τ hτ => ?_)
    · rw [F_X4_queue, C_isPlace, bnd_s, if_f (wi_f hw), k04, ck_t, C_f0, bnd_s]
    · rw [F_X5_queue, M_isPlace, bnd_s, if_f (wi_f hw), k49, ck_t, M_f0, bnd_s]
theorem op_seed (v : Int32) : Op (F_X4_seed 0 v) (F_X5_seed 49 v) := by
  intro K σ hK h
  obtain ⟨⟨⟨m, h1, h2, h4⟩, hk⟩, hT, hS, hF⟩ := id h
  refine ⟨V 1 σ 2, up2 σ 1 5 v, up1 (up2 σ 1 5 v) 50 (upd (σ 50) 2 v), ?_, ?_, ?_⟩
  · rw [F_X4_seed, k04, ck_t, lti_e, lts_e]; rfl
  · rw [F_X5_seed, k49, ck_t, show (2 : Int32) = nI 2 from rfl, M_becomeR (by decide), bnd_s, up2_e, up1_n (by decide), h2 2 (by omega)]
  · have vv : V 1 (up2 σ 1 5 v) = upd (V 1 σ) 2 v := V_uh (b := 1) (by decide) (by omega)
    refine Rel_real h (fr_u (by omega)) (fun k' hk' => up1_n hk') ⟨m, ?_, ?_, ?_⟩
    · rw [vv]; exact okR_mono (okR_o h1 (by decide) (by decide) (by decide)) (by omega)
    · rw [vv, up1_s]; exact agr_u h2 rfl
    · rw [vv]; exact okS_u h4 fun i hi => ⟨by omega, by omega⟩
theorem op_hold (p s : Int32) : Op (F_X4_hold 0 p s) (F_X5_hold 49 p s) := by
  intro K σ hK h
  obtain ⟨⟨⟨m, h1, h2, h4⟩, hk⟩, hT, hS, hF⟩ := id h
  have ms : ∀ τ : Sto, F_X5_isSpot p τ = some (b2i (wi p 0 9), τ) := by intro τ; rw [F_X5_isSpot, M_within, bnd_s, z01_b, ck_t]
  by_cases hw : wi p 0 9 = true
  · obtain ⟨k, hk9, rfl⟩ := wi_t (n := 9) (by decide) rfl hw
    by_cases hq : isQ m s = true
    · have em : ∀ τ : Sto, τ 50 = σ 50 → F_X5_hold 49 (nI k) s τ = some (1, up1 τ 50 (upd (τ 50) (7 + k) s)) := by
        intro τ hτ
        have e1 : τ 50 1 = nI m := by rw [hτ, ← h2 1 (by omega)]; exact h1.2.1
        unfold isQ at hq
        rw [F_X5_hold, ms, bnd_s, if_t hw, k49, ck_t, M_isSitter h1.1 e1, bnd_s, F_X5_hold_b27, k49, ck_t, show 7 + nI k = nI (7 + k) from nI_add 7 k, inr_nI (by omega) (by decide), ck_t, lts_e, nI_clamp (by omega)]
        by_cases e : s = -1
        · rw [if_pos e]; rfl
        · rw [if_neg e]
          rw [decide_eq_false e, Bool.false_or] at hq
          rw [if_t hq]; rfl
      refine ⟨1, up2 σ 12 k s, _, ?_, em _ (up1_n (by decide)), ?_⟩
      · rw [F_X4_hold, C_within, bnd_s, if_t hw, k04, ck_t, C_isQ k1 h1.2.1 h1.1, bnd_s, if_t hq, inr_nI (by omega) (by decide), ck_t, lts_e, nI_clamp (by omega)]
      · have v : V 1 (up2 σ 12 k s) = upd (V 1 σ) (7 + k) s := V_usp (b := 1) (by omega)
        refine Rel_real h (fr_u (by omega)) (fun k' hk' => up1_n hk') ⟨m, ?_, ?_, ?_⟩
        · rw [v]; exact okR_mono (okR_sp h1 (by omega) hq) (by omega)
        · rw [v, up1_s, up2_e, up1_n (by decide)]; exact agr_u h2 rfl
        · rw [v]; exact okS_u h4 fun i hi => ⟨by omega, by omega⟩
    · have hq' : ¬ s = -1 ∧ isS m s = false := by
        unfold isQ at hq
        rw [Bool.or_eq_true, decide_eq_true_eq] at hq
        exact ⟨fun e => hq (Or.inl e), wi_f fun e => hq (Or.inr e)⟩
      refine op_e0 h ?_ (fun τ hτ => ?_)
      · rw [F_X4_hold, C_within, bnd_s, if_t hw, k04, ck_t, C_isQ k1 h1.2.1 h1.1, bnd_s, if_f (wi_f hq), C_f0, bnd_s]
      · rw [F_X5_hold, ms, bnd_s, if_t hw, if_neg hq'.1, k49, ck_t, M_isSitter h1.1 (by rw [hτ 50 (by decide), ← h2 1 (by omega)]; exact h1.2.1), bnd_s, if_f hq'.2, M_f0, bnd_s]
  · refine op_e0 h ?_ (fun τ hτ => ?_)
    · rw [F_X4_hold, C_within, bnd_s, if_f (wi_f hw), k04, ck_t, C_f0, bnd_s]
    · rw [F_X5_hold, ms, bnd_s, if_f (wi_f hw), k49, ck_t, M_f0, bnd_s]

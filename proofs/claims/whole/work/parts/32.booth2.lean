/-! PURE: the Booth's minute -/
theorem C_isPlace (v : Int32) (σ : Sto) : F_X0_isPlace v σ = some (b2i (inr v 6), σ) := by
  unfold F_X0_isPlace
  by_cases h : v < 0
  · rw [if_pos h]
    have : inr v 6 = false := by
      unfold inr
      rw [decide_eq_false (Int32.not_le.mpr h)]; rfl
    rw [this]; rfl
  · rw [if_neg h]
    obtain ⟨n, hn, rfl⟩ := nI_of h
    unfold inr
    rw [decide_eq_true (nI_pos' hn), nI_clamp hn]
    by_cases h6 : n < 6
    · rw [if_neg (show ¬ (6 : Int32) ≤ nI n from fun q => by have := (nI_leI (a := 6) (by decide) hn).mp q; omega), decide_eq_true h6]; rfl
    · rw [if_pos (show (6 : Int32) ≤ nI n from (nI_leI (a := 6) (by decide) hn).mpr (by omega)), decide_eq_false h6]; rfl
theorem C_whoIsIn {b p : Nat} (hb : kd b = 0) (hp : p < 6) (σ : Sto) : F_X0_whoIsIn b (nI p) σ = some (V b σ (17 + p), σ) := by
  unfold F_X0_whoIsIn
  rw [C_isPlace, bnd_s, inr_nI hp (by decide), kdb b hb, ck_t, ck_t, nI_clamp (by omega), Vq b σ hp]
  rfl
/-- whether a number is a sitter's -/
def isS (m : Nat) (v : Int32) : Bool := decide (0 ≤ v) && decide (v.toNatClampNeg < m)
theorem isS_nI {m i : Nat} (h : i < m) (hm : m ≤ 8) : isS m (nI i) = true := by
  unfold isS
  rw [nI_clamp (by omega), Bool.and_eq_true, decide_eq_true_eq, decide_eq_true_eq]
  exact ⟨nI_pos' (by omega), h⟩
theorem isS_no {m : Nat} {v : Int32} (h : ¬ ∃ i, i < m ∧ v = nI i) : isS m v = false := by
  cases e : isS m v with
  | false => rfl
  | true =>
    exfalso
    unfold isS at e
    rw [Bool.and_eq_true, decide_eq_true_eq, decide_eq_true_eq] at e
    obtain ⟨n, hn, rfl⟩ := nI_of (Int32.not_lt.mpr e.1)
    rw [nI_clamp hn] at e
    exact h ⟨n, e.2, rfl⟩
theorem isS_of {m : Nat} {v : Int32} (h : isS m v = true) : ∃ i, i < m ∧ v = nI i := by
  unfold isS at h
  rw [Bool.and_eq_true, decide_eq_true_eq, decide_eq_true_eq] at h
  obtain ⟨n, hn, rfl⟩ := nI_of (Int32.not_lt.mpr h.1)
  rw [nI_clamp hn] at h
  exact ⟨n, h.2, rfl⟩
theorem C_isSitter {b m : Nat} (hb : kd b = 0) {σ : Sto} (hm : V b σ 1 = nI m) (h8 : m ≤ 8) (v : Int32) : F_X0_isSitter b v σ = some (b2i (isS m v), σ) := by
  unfold F_X0_isSitter
  rw [kdb b hb, ck_t, V1 b σ, hm]
  by_cases h : v < 0
  · rw [if_pos h]
    have : isS m v = false := by
      unfold isS
      rw [decide_eq_false (Int32.not_le.mpr h)]; rfl
    rw [this]; rfl
  · rw [if_neg h]
    obtain ⟨n, hn, rfl⟩ := nI_of h
    by_cases hl : n < m
    · rw [isS_nI hl h8, if_neg (show ¬ nI m ≤ nI n from fun q => by have := (nI_leI (by omega) hn).mp q; omega), if_neg (show ¬ (8 : Int32) ≤ nI n from fun q => by have := (nI_leI (a := 8) (by decide) hn).mp q; omega)]; rfl
    · rw [if_pos ((nI_leI (by omega) hn).mpr (by omega))]
      have : isS m (nI n) = false := by
        unfold isS
        rw [nI_clamp hn, decide_eq_false hl, Bool.and_false]
      rw [this]; rfl
theorem C_who {b m : Nat} (hb : kd b = 0) {σ : Sto} (hm : V b σ 1 = nI m) (h8 : m ≤ 8) (v : Int32) : F_X0_who b v σ = some ((if isS m v = true then some (b + 1 + 1 + v.toNatClampNeg) else none), σ) := by
  unfold F_X0_who
  rw [kdb b hb, ck_t, C_isSitter hb hm h8, bnd_s]
  cases e : isS m v with
  | false => rfl
  | true =>
    obtain ⟨i, hi, rfl⟩ := isS_of e
    rw [inr_nI (show i < 8 by omega) (by decide)]
    rfl
theorem C_whoS {b m i : Nat} (hb : kd b = 0) {σ : Sto} (hm : V b σ 1 = nI m) (h8 : m ≤ 8) (hi : i < m) : F_X0_who b (nI i) σ = some (some (b + 1 + 1 + i), σ) := by
  rw [C_who hb hm h8, isS_nI hi h8, nI_clamp (by omega)]
  rfl
theorem C_whoN {b m : Nat} (hb : kd b = 0) {σ : Sto} (hm : V b σ 1 = nI m) (h8 : m ≤ 8) {v : Int32} (hv : ¬ ∃ i, i < m ∧ v = nI i) : F_X0_who b v σ = some (none, σ) := by
  rw [C_who hb hm h8, isS_no hv]
  rfl
theorem C_turn {b i : Nat} (hb : kd b = 0) (hi : i < 8) (σ : Sto) : ∃ σ', F_X0_turnStool b (b + 1 + 1 + i) σ = some ((), σ') ∧ V b σ' = turnA (V b σ) i ∧ fr b σ σ' := by
  refine ⟨up2 σ b 0 (σ b 0 + imax (-4) (imin (imax 0 (imin (80 - σ (b + 1 + 1 + i) 1) 60) - σ b 0) 4)), ?_, ?_, fr_u (by omega)⟩
  · unfold F_X0_turnStool F_X0_mostOf
    rw [kdb b hb, kdb _ (kel hb hi)]
    rfl
  · rw [V_uh (c := 3) (by omega) (by omega), V3 b σ, Vs b σ hi (by omega)]
    rfl
theorem C_take {b i : Nat} (hb : kd b = 0) (hi : i < 8) (σ : Sto) : ∃ σ', F_X0_takePictures b (b + 1 + 1 + i) σ = some ((), σ') ∧ V b σ' = sits (V b σ) i ∧ fr b σ σ' := by
  have hs := kel hb hi
  obtain ⟨σ1, e1⟩ : ∃ s, s = up2 σ (b + 1 + 1 + i) 4 (σ (b + 1 + 1 + i) 4 - σ b 2) := ⟨_, rfl⟩
  have v1 : V b σ1 = sitA (V b σ) i := by rw [e1, V_us hi (by omega), Vs b σ hi (by omega), V5 b σ]; rfl
  have f1 : fr b σ σ1 := by rw [e1]; exact fr_u (by omega)
  obtain ⟨σ2, e2⟩ : ∃ s, s = up2 σ1 b 3 (imin (σ1 b 3 + σ1 b 2) 99999) := ⟨_, rfl⟩
  have v2 : V b σ2 = sitB (V b σ1) := by rw [e2, V_uh (c := 6) (by omega) (by omega), V6 b σ1, V5 b σ1]; rfl
  have f2 : fr b σ1 σ2 := by rw [e2]; exact fr_u (by omega)
  obtain ⟨σ3, e3⟩ : ∃ s, s = up2 σ2 (b + 1 + 1 + i) 6 (imin (σ2 (b + 1 + 1 + i) 6 + 1) 9999) := ⟨_, rfl⟩
  have v3 : V b σ3 = sitC (V b σ2) i := by rw [e3, V_us hi (by omega), Vs b σ2 hi (by omega)]; rfl
  have f3 : fr b σ2 σ3 := by rw [e3]; exact fr_u (by omega)
  obtain ⟨σ4, t4, v4, f4⟩ := C_turn hb hi σ3
  have v4' : V b σ4 = sitT (V b σ) i := by rw [v4, v3, v2, v1]; rfl
  have f4' : fr b σ σ4 := fr_t f1 (fr_t f2 (fr_t f3 f4))
  have step : F_X0_takePictures b (b + 1 + 1 + i) σ = (if b2i (good (V b σ4) i) = 0 then some ((), up2 σ4 (b + 1 + 1 + i) 3 (imax (σ4 (b + 1 + 1 + i) 3 - 1) 0)) else some ((), up2 (up2 σ4 (b + 1 + 1 + i) 5 (imin (σ4 (b + 1 + 1 + i) 5 + 1) 999)) (b + 1 + 1 + i) 2 (imin ((up2 σ4 (b + 1 + 1 + i) 5 (imin (σ4 (b + 1 + 1 + i) 5 + 1) 999)) (b + 1 + 1 + i) 2 + 1) 9))) := by
    unfold F_X0_takePictures
    rw [kdb b hb, kdb _ hs, ck_t, ck_t, lts_e, ← e1, show F_X0_mostOf 3 σ1 = some (99999, σ1) from rfl, bnd_s, lts_e, ← e2, show F_X2_mostOf 6 σ2 = some (9999, σ2) from rfl, bnd_s, lts_e, ← e3, t4, bnd_s, C_good hb hi, bnd_s]
    rfl
  rw [step]
  by_cases hg : good (V b σ4) i = true
  · refine ⟨_, by rw [hg]; rfl, ?_, fr_t f4' (fr_t (fr_u (by omega)) (fr_u (by omega)))⟩
    obtain ⟨σ5, e5⟩ : ∃ s, s = up2 σ4 (b + 1 + 1 + i) 5 (imin (σ4 (b + 1 + 1 + i) 5 + 1) 999) := ⟨_, rfl⟩
    have v5 : V b σ5 = sitD (V b σ4) i := by rw [e5, V_us hi (by omega), Vs b σ4 hi (by omega)]; rfl
    rw [← e5, V_us hi (by omega), Vs b σ5 hi (by omega), v5, v4']
    unfold sits
    rw [if_pos (by rw [← v4']; exact hg)]
    rfl
  · have hg' : good (V b σ4) i = false := by simpa using hg
    refine ⟨_, by rw [hg']; rfl, ?_, fr_t f4' (fr_u (by omega))⟩
    rw [V_us hi (by omega), Vs b σ4 hi (by omega), v4']
    unfold sits
    rw [if_neg (by rw [← v4']; exact hg)]
    rfl
theorem payN_1 (k : Nat) (a : Row) : payN k a 1 = a 1 := by
  induction k with
  | zero => rfl
  | succ k ih => rw [payN, upd_n (by omega)]; exact ih
theorem C_pay {b m : Nat} (hb : kd b = 0) (h8 : m ≤ 8) (σ0 : Sto) (hm : V b σ0 1 = nI m) : ∀ (d j n : Nat) (σ : Sto), j + d = m → d < n → V b σ = payN j (V b σ0) → fr b σ0 σ → ∃ σ', lo2 F_X0_payOut_b2 n b (nI j) σ = some ((), σ') ∧ V b σ' = payN m (V b σ0) ∧ fr b σ0 σ' := by
  intro d
  induction d with
  | zero =>
    intro j n σ hj hn hv hf
    have hjm : j = m := by omega
    subst hjm
    obtain ⟨n, rfl⟩ : ∃ k, n = k + 1 := ⟨n - 1, by omega⟩
    refine ⟨σ, ?_, hv, hf⟩
    show F_X0_payOut_b2 (lo2 F_X0_payOut_b2 n) b (nI j) σ = _
    unfold F_X0_payOut_b2
    rw [kdb b hb, ck_t, V1 b σ, hv, payN_1, hm, if_pos (Int32.le_refl _)]
  | succ d ih =>
    intro j n σ hj hn hv hf
    obtain ⟨n, rfl⟩ : ∃ k, n = k + 1 := ⟨n - 1, by omega⟩
    have hj8 : j < 8 := by omega
    have hm' : V b σ 1 = nI m := by rw [hv, payN_1, hm]
    obtain ⟨σ', e, hv', hf'⟩ := ih (j + 1) n (up2 σ (b + 1 + 1 + j) 4 (imin (σ (b + 1 + 1 + j) 4 + 3) 999)) (by omega) (by omega) (by rw [V_us hj8 (by omega), Vs b σ hj8 (by omega), hv]; rfl) (fr_t hf (fr_u (by omega)))
    refine ⟨σ', ?_, hv', hf'⟩
    show F_X0_payOut_b2 (lo2 F_X0_payOut_b2 n) b (nI j) σ = _
    unfold F_X0_payOut_b2
    rw [kdb b hb, ck_t, V1 b σ, hm', if_neg (fun q => by have := (nI_leI (by omega) (by omega)).mp q; omega), C_whoS hb hm' h8 (show j < m by omega), bnd_s, oc_s, kdb _ (kel hb hj8), ck_t, show F_X2_mostOf 4 σ = some (999, σ) from rfl, bnd_s, lts_e, nI_1]
    exact e
theorem C_payOut {b m : Nat} (hb : kd b = 0) (h8 : m ≤ 8) (σ : Sto) (hm : V b σ 1 = nI m) : ∃ σ', F_X0_payOut b σ = some ((), σ') ∧ V b σ' = payN m (V b σ) ∧ fr b σ σ' :=
  C_pay hb h8 σ hm m 0 1000 σ (by omega) (by omega) rfl (fr_r b σ)
theorem irm6 {t : Nat} (h : t < 2 ^ 31) : irm (nI t) 6 = nI (t % 6) := pk_rem (d := 6) h (by decide) (by decide)
theorem C_tick {b m t : Nat} (hb : kd b = 0) (h8 : m ≤ 8) (σ : Sto) (hm : V b σ 1 = nI m) (ht : V b σ 0 = nI t) (hT : t < 99999) : ∃ σ', F_X0_passMinute_b33 b σ = some ((), σ') ∧ V b σ' = tick (V b σ) ∧ fr b σ σ' := by
  obtain ⟨σ1, e1⟩ : ∃ s, s = up2 σ b 4 (imin (σ b 4 + 1) 99999) := ⟨_, rfl⟩
  have v1 : V b σ1 = tickA (V b σ) := by
    rw [e1, V_uh (c := 0) (by omega) (by omega), V0 b σ, ht, nI_1]
    unfold tickA
    rw [ht, nI_1]
    congr 1
    unfold imin
    rcases Nat.lt_or_ge 99999 (t + 1) with q | q
    · omega
    · exact if_neg (show ¬ nI 99999 < nI (t + 1) from fun z => by have := (nI_ltI (by decide) (by omega)).mp z; omega)
  have f1 : fr b σ σ1 := by rw [e1]; exact fr_u (by omega)
  have hm1 : V b σ1 1 = nI m := by rw [v1]; unfold tickA; rw [upd_n (by decide)]; exact hm
  obtain ⟨σ2, e2, v2, f2⟩ := C_payOut hb h8 σ1 hm1
  have step : F_X0_passMinute_b33 b σ = if irm (V b σ1 0) 6 = 0 then some ((), σ2) else some ((), σ1) := by
    unfold F_X0_passMinute_b33
    rw [kdb b hb, ck_t, lts_e, ← e1, e2]
    rfl
  rw [step]
  unfold tick
  rw [← v1]
  have hn : nOf (V b σ1) = m := by unfold nOf; rw [hm1]; exact nI_clamp (by omega)
  rw [hn]
  by_cases h : irm (V b σ1 0) 6 = 0
  · rw [if_pos h, if_pos h]; exact ⟨σ2, rfl, v2, fr_t f1 f2⟩
  · rw [if_neg h, if_neg h]; exact ⟨σ1, rfl, rfl, f1⟩
theorem sitT_n {a : Row} {i j : Nat} (h3 : ¬ j = 3) (h6 : ¬ j = 6) (hs : ¬ (23 + 7 * i ≤ j ∧ j < 30 + 7 * i)) : sitT a i j = a j := by
  unfold sitT turnA sitC sitB sitA
  rw [upd_n h3, upd_n (by omega), upd_n h6, upd_n (by omega)]
theorem sits_n {a : Row} {i j : Nat} (h3 : ¬ j = 3) (h6 : ¬ j = 6) (hs : ¬ (23 + 7 * i ≤ j ∧ j < 30 + 7 * i)) : sits a i j = a j := by
  unfold sits
  split
  · unfold sitE sitD
    rw [upd_n (by omega), upd_n (by omega)]
    exact sitT_n h3 h6 hs
  · unfold sitF
    rw [upd_n (by omega)]
    exact sitT_n h3 h6 hs
theorem C_minute {b m t : Nat} (hb : kd b = 0) (σ : Sto) (hok : okR t m (V b σ)) (hT : t < 99999) : ∃ σ', F_X0_passMinute b σ = some ((), σ') ∧ V b σ' = minR (V b σ) ∧ fr b σ σ' := by
  obtain ⟨h8, hm, ⟨t', ht', ht⟩, hq, -⟩ := hok
  have e0 : F_X0_nextPlace b σ = some (nI (t' % 6), σ) := by
    unfold F_X0_nextPlace
    rw [kdb b hb, ck_t, V0 b σ, ht, irm6 (by omega)]
  have en : nxt (V b σ) = V b σ (17 + t' % 6) := by unfold nxt; rw [ht, irm6 (by omega), nI_clamp (by omega)]
  unfold F_X0_passMinute minR
  rw [kdb b hb, ck_t, e0, bnd_s, C_whoIsIn hb (by omega), bnd_s, en]
  rcases hq (t' % 6) (by omega) with hw | ⟨i, hi, hw⟩
  · rw [hw, C_whoN hb hm h8 (by rintro ⟨i, hi, e⟩; exact absurd (e ▸ (by decide : (-1 : Int32) < 0)) (nI_pos (by omega))), bnd_s, oc_n]
    unfold seated
    rw [if_pos (by decide)]
    exact C_tick hb h8 σ hm ht (by omega)
  · have hi8 : i < 8 := by omega
    rw [hw, C_whoS hb hm h8 hi, bnd_s, oc_s, kdb _ (kel hb hi8), ck_t]
    unfold seated
    rw [if_neg (nI_pos (by omega)), nI_clamp (by omega), Vs b σ hi8 (by omega), V5 b σ]
    by_cases hc : V b σ (23 + 7 * i + 4) < V b σ 5
    · rw [if_pos hc, if_pos hc]
      exact C_tick hb h8 σ hm ht (by omega)
    · rw [if_neg hc, if_neg hc]
      obtain ⟨σ1, e1, v1, f1⟩ := C_take hb hi8 σ
      obtain ⟨σ2, e2, v2, f2⟩ := C_tick hb h8 σ1 (by rw [v1, sits_n (by omega) (by omega) (by omega)]; exact hm) (by rw [v1, sits_n (by omega) (by omega) (by omega)]; exact ht) (by omega)
      refine ⟨σ2, ?_, by rw [v2, v1], fr_t f1 f2⟩
      rw [e1, bnd_s, e2]
/-- a minute keeps a row well -/
theorem payN_n {k j : Nat} (a : Row) (h : j < 23) : payN k a j = a j := by
  induction k with
  | zero => rfl
  | succ k ih => rw [payN, upd_n (by omega)]; exact ih
theorem tick_n {a : Row} {j : Nat} (h0 : ¬ j = 0) (h : j < 23) : tick a j = a j := by
  have e : tickA a j = a j := by unfold tickA; exact upd_n h0
  unfold tick
  split
  · rw [payN_n _ h, e]
  · exact e
theorem tick_0 (a : Row) : tick a 0 = a 0 + 1 := by
  have e : tickA a 0 = a 0 + 1 := by unfold tickA; exact upd_s _ _ _
  unfold tick
  split
  · rw [payN_n _ (by omega), e]
  · exact e
theorem seated_n {a : Row} {w : Int32} {j : Nat} (h3 : ¬ j = 3) (h6 : ¬ j = 6) (h : j < 23) : seated a w j = a j := by
  unfold seated
  split
  · rfl
  · split
    · rfl
    · exact sits_n h3 h6 (by omega)
theorem minR_n {a : Row} {j : Nat} (h0 : ¬ j = 0) (h3 : ¬ j = 3) (h6 : ¬ j = 6) (h : j < 23) : minR a j = a j := by
  unfold minR
  rw [tick_n h0 h, seated_n h3 h6 h]
theorem minR_0 (a : Row) : minR a 0 = a 0 + 1 := by
  unfold minR
  rw [tick_0, seated_n (by omega) (by omega) (by omega)]
theorem okR_min {T m : Nat} {a : Row} (h : okR T m a) : okR (T + 1) m (minR a) := by
  obtain ⟨h8, hm, ⟨t, ht, e⟩, hq, hs⟩ := h
  refine ⟨h8, by rw [minR_n (by omega) (by omega) (by omega) (by omega)]; exact hm, ⟨t + 1, by omega, by rw [minR_0, e, nI_1]⟩, fun p hp => ?_, fun p hp => ?_⟩
  · rw [minR_n (by omega) (by omega) (by omega) (by omega)]; exact hq p hp
  · rw [minR_n (by omega) (by omega) (by omega) (by omega)]; exact hs p hp
theorem okR_mono {T T' m : Nat} {a : Row} (h : okR T m a) (hT : T ≤ T') : okR T' m a := by
  obtain ⟨h8, hm, ⟨t, ht, e⟩, hq, hs⟩ := h
  exact ⟨h8, hm, ⟨t, by omega, e⟩, hq, hs⟩
theorem C_mins {b m : Nat} (hb : kd b = 0) (N : Nat) (hN : N < 2 ^ 31) : ∀ (d j n T : Nat) (σ : Sto), j + d = N → d < n → okR T m (V b σ) → T + d ≤ 99999 → ∃ σ', lo3 F_X0_passMinutes_b2 n b (nI N) (nI j) σ = some ((), σ') ∧ V b σ' = minsR d (V b σ) ∧ fr b σ σ' := by
  intro d
  induction d with
  | zero =>
    intro j n T σ hj hn hok hT
    have hjm : j = N := by omega
    subst hjm
    obtain ⟨n, rfl⟩ : ∃ k, n = k + 1 := ⟨n - 1, by omega⟩
    refine ⟨σ, ?_, rfl, fr_r b σ⟩
    show F_X0_passMinutes_b2 (lo3 F_X0_passMinutes_b2 n) b (nI j) (nI j) σ = _
    unfold F_X0_passMinutes_b2
    rw [if_pos (Int32.le_refl _)]
  | succ d ih =>
    intro j n T σ hj hn hok hT
    obtain ⟨n, rfl⟩ : ∃ k, n = k + 1 := ⟨n - 1, by omega⟩
    obtain ⟨σ1, e1, v1, f1⟩ := C_minute hb σ hok (by omega)
    obtain ⟨σ2, e2, v2, f2⟩ := ih (j + 1) n (T + 1) σ1 (by omega) (by omega) (by rw [v1]; exact okR_min hok) (by omega)
    refine ⟨σ2, ?_, by rw [v2, v1]; rfl, fr_t f1 f2⟩
    show F_X0_passMinutes_b2 (lo3 F_X0_passMinutes_b2 n) b (nI N) (nI j) σ = _
    unfold F_X0_passMinutes_b2
    rw [if_neg (fun q => by have := (nI_leI hN (by omega)).mp q; omega), kdb b hb, ck_t, e1, bnd_s, nI_1]
    exact e2
theorem C_passMinutes {b m T N : Nat} (hb : kd b = 0) (σ : Sto) (hok : okR T m (V b σ)) (hN : N ≤ 900) (hT : T + N ≤ 99999) : ∃ σ', F_X0_passMinutes b (nI N) σ = some ((), σ') ∧ V b σ' = minsR N (V b σ) ∧ fr b σ σ' :=
  C_mins hb N (by omega) N 0 1000 T σ (by omega) (by omega) hok hT

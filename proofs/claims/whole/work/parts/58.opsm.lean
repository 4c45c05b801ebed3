/-! PURE: the calls: away -/
def awE (o : Option Nat) : Int32 := ocase o (-1) (fun b => nI (b % 256))
def awF (i : Nat) (n : Int32) (v : Nat → Int32) (j : Nat) (o : Option Nat) : Option Nat := if hbU j i = true then o else if ocase o false (fun b => decide (bc (nI (b % 256)) ≤ bc (nI j))) = true then o else if v j < n then o else some j
theorem awF_hi {i m : Nat} {n : Int32} {v : Nat → Int32} (h8 : m < 9) (hi : i < m) : ∀ d, othU m i + 1 + d ≤ 2 ^ m → fldU (awF i n v) 0 (othU m i + 1 + d) none = fldU (awF i n v) 0 (othU m i + 1) none := by
  intro d
  induction d with
  | zero => intro _; rfl
  | succ d ih =>
    intro hd
    rw [show othU m i + 1 + (d + 1) = (othU m i + 1 + d) + 1 from rfl, fldU_s, Nat.zero_add, ih (by omega)]
    unfold awF
    rw [if_pos (aw_3 m h8 i hi (othU m i + 1 + d) (by omega) (by omega))]
theorem awE_none : awE none = -1 := rfl
theorem awE_some (b : Nat) : awE (some b) = nI (b % 256) := rfl
theorem awE_lt {j : Nat} (h : j < 256) : awE (some j) = nI j := by rw [awE_some, Nat.mod_eq_of_lt h]
theorem hbU_e {j i : Nat} : (isr (nI j) (nI i) &&& 1 = 1) = (hbU j i = true) := by unfold hbU; rw [decide_eq_true_eq]
theorem C_awS {K m i k j q : Nat} {n : Int32} {v : Nat → Int32} {σ : Sto} (h1 : okR (100 * K) m (V 1 σ)) (hK : K ≤ 512) (hk : k ≤ 200) (hi : i < m) (hj : j < othU m i + 1) (hv : v j = minsR k (emG j m 6 0 (V 1 σ)) (23 + 7 * i + 5)) (o : Option Nat) : ∃ σ', cq σ σ' ∧ lo7 F_X4_away_b59 (q + 1) 0 (nI i) n (nI k) (nI (othU m i)) (awE o) (nI j) σ = lo7 F_X4_away_b59 q 0 (nI i) n (nI k) (nI (othU m i)) (awE (awF i n v j o)) (nI (j + 1)) σ' := by
  have h8 := h1.1
  obtain ⟨q1, q2⟩ := aw_4 m (by omega) i hi
  have hd := aw_2 m (by omega) i hi j (by omega)
  have s0 : ∀ σ, lo7 F_X4_away_b59 (q + 1) 0 (nI i) n (nI k) (nI (othU m i)) (awE o) (nI j) σ = F_X4_away_b81 (lo7 F_X4_away_b59 q) 0 (nI i) n (nI k) (nI (othU m i)) (awE o) (nI j) (if hbU j i = true then 0 else 1) σ := by
    intro σ
    rw [lo7_s, F_X4_away_b59, if_neg (fun z => by have := (nI_ltI (by omega) (by omega)).mp z; omega)]
    by_cases c : hbU j i = true
    · rw [c] at hd
      rw [if_neg (of_decide_eq_false hd), if_pos c]
    · rw [wi_f c] at hd
      rw [if_pos (of_decide_eq_true hd), if_neg c]
  by_cases c : hbU j i = true
  · refine ⟨σ, cq_r σ, ?_⟩
    have sk : ∀ z σ, F_X4_away_b106 (lo7 F_X4_away_b59 q) 0 (nI i) n (nI k) (nI (othU m i)) (awE o) (nI j) 0 z σ = lo7 F_X4_away_b59 q 0 (nI i) n (nI k) (nI (othU m i)) (awE o) (nI (j + 1)) σ := fun z σ => by rw [F_X4_away_b106, if_pos rfl, nI_1]
    have ef : awF i n v j o = o := by unfold awF; rw [if_pos c]
    rw [s0, if_pos c, ef, F_X4_away_b81, F_X4_away_b101, sk]
    split
    · rfl
    · rw [C_bits, bnd_s, C_bits, bnd_s, F_X4_away_b101, sk, sk]
      split <;> rfl
  · -- a trial
    obtain ⟨σ1, e1, a1, f1⟩ := C_become k13 k1 (by decide) h8 σ h1.2.1
    have ok1 := okR_agr (agr_s a1) h1
    obtain ⟨σ2, f2, v2, e2⟩ := C_em (j := j) k13 6 0 1000 σ1 (by omega) (by omega) ok1
    have ok2 : okR (100 * K) m (V 13 σ2) := by rw [v2]; exact emG_ok 6 0 _ (by omega) ok1
    obtain ⟨σ3, e3, v3, f3⟩ := C_passMinutes (N := k) k13 σ2 ok2 (by omega) (by omega)
    have n3 : V 13 σ3 1 = nI m := by rw [v3]; exact (okR_mins k (100 * K) ok2).2.1
    have ev : V 13 σ3 (23 + 7 * i + 5) = v j := by
      rw [v3, v2, hv]
      exact agr_mins k (100 * K) (emG_agr 6 0 _ _ (by omega) a1) (emG_ok 6 0 _ (by omega) ok1) (by omega) _ (by omega)
    have tr : F_X4_away_b106 (lo7 F_X4_away_b59 q) 0 (nI i) n (nI k) (nI (othU m i)) (awE o) (nI j) 1 1 σ = lo7 F_X4_away_b59 q 0 (nI i) n (nI k) (nI (othU m i)) (if v j < n then awE o else nI j) (nI (j + 1)) σ3 := by
      rw [F_X4_away_b106, if_neg (by decide), if_neg (by decide), k04, ck_t, e1, bnd_s, show F_X0_emptyPlacesOf 13 (nI j) σ1 = some ((), σ2) from e2, bnd_s, e3, bnd_s, show (5 : Int32) = nI 5 from rfl, C_partOf k13 n3 h8 hi (by decide), bnd_s, ev, nI_1]
      by_cases d : v j < n
      · rw [if_pos d, if_pos d]
      · rw [if_neg d, if_neg d]
    have e106 : ∀ σ, F_X4_away_b106 (lo7 F_X4_away_b59 q) 0 (nI i) n (nI k) (nI (othU m i)) (awE o) (nI j) 1 0 σ = lo7 F_X4_away_b59 q 0 (nI i) n (nI k) (nI (othU m i)) (awE o) (nI (j + 1)) σ := fun σ => by rw [F_X4_away_b106, if_neg (by decide), if_pos rfl, nI_1]
    by_cases d : ocase o false (fun b => decide (bc (nI (b % 256)) ≤ bc (nI j))) = true
    · refine ⟨σ, cq_r σ, ?_⟩
      have ef : awF i n v j o = o := by unfold awF; rw [if_neg c, if_pos d]
      cases o with
      | none => exact absurd (show false = true from d) (by decide)
      | some b =>
        rw [s0, if_neg c, ef, F_X4_away_b81, awE_some, if_neg (nI_pos (by omega)), C_bits, bnd_s, C_bits, bnd_s, if_pos (of_decide_eq_true d), ← awE_some, e106]
    · refine ⟨σ3, cq_t (cq_fr f1) (cq_t (cq_fr f2) (cq_fr f3)), ?_⟩
      have ef : awE (awF i n v j o) = if v j < n then awE o else nI j := by
        unfold awF
        rw [if_neg c, if_neg d]
        by_cases g : v j < n
        · rw [if_pos g, if_pos g]
        · rw [if_neg g, if_neg g, awE_lt (by omega)]
      rw [s0, if_neg c, ef, F_X4_away_b81]
      cases o with
      | none => rw [awE_none, if_pos (by decide), F_X4_away_b101, ← awE_none, tr]
      | some b =>
        rw [awE_some, if_neg (nI_pos (by omega)), C_bits, bnd_s, C_bits, bnd_s, if_neg (fun z => d (decide_eq_true z)), F_X4_away_b101, ← awE_some, tr]
theorem M_awS {T m i k j q : Nat} {n : Int32} {v : Nat → Int32} {σ : Sto} (hok : okR T m (σ 50)) (hk : k ≤ 200) (hT : T + k < 2 ^ 31) (hi : i < m) (hj : j < 2 ^ m) (hv : v j = minsR k (emG j m 6 0 (σ 50)) (23 + 7 * i + 5)) (o : Option Nat) : ∃ σ', mq σ σ' ∧ lo6 F_X5_away_b42 (q + 1) 49 (nI i) n (nI k) (awE o) (nI j) σ = lo6 F_X5_away_b42 q 49 (nI i) n (nI k) (awE (awF i n v j o)) (nI (j + 1)) σ' := by
  have h8 := hok.1
  obtain ⟨q1, q2⟩ := aw_4 m (by omega) i hi
  have s0 : lo6 F_X5_away_b42 (q + 1) 49 (nI i) n (nI k) (awE o) (nI j) σ = if hbU j i = true then F_X5_away_b86 (lo6 F_X5_away_b42 q) 49 (nI i) n (nI k) (awE o) (nI j) σ else if (awE o) < 0 then F_X5_away_b82 (lo6 F_X5_away_b42 q) 49 (nI i) n (nI k) (awE o) (nI j) σ else bnd (F_X5_bits (nI j) σ) (fun xr13 xσ11 => bnd (F_X5_bits (awE o) xσ11) (fun xr16 xσ14 => if xr16 ≤ xr13 then F_X5_away_b86 (lo6 F_X5_away_b42 q) 49 (nI i) n (nI k) (awE o) (nI j) xσ14 else F_X5_away_b82 (lo6 F_X5_away_b42 q) 49 (nI i) n (nI k) (awE o) (nI j) xσ14)) := by
    rw [lo6_s, F_X5_away_b42, k49, ck_t, hok.2.1, (aw_1 m (by omega) i hi).2, if_neg (fun z => by have := (nI_leI (by omega) (by omega)).mp z; omega), F_X5_hasBit]
    by_cases c : hbU j i = true
    · rw [if_pos (by rw [hbU_e]; exact c), bnd_s, if_neg (by decide), if_pos c]
    · rw [if_neg (by rw [hbU_e]; exact c), bnd_s, if_pos rfl, if_neg c]
  have e86 : ∀ σ, F_X5_away_b86 (lo6 F_X5_away_b42 q) 49 (nI i) n (nI k) (awE o) (nI j) σ = lo6 F_X5_away_b42 q 49 (nI i) n (nI k) (awE o) (nI (j + 1)) σ := fun σ => by rw [F_X5_away_b86, F_X5_away_b87, if_pos rfl, nI_1]
  by_cases c : hbU j i = true
  · refine ⟨σ, mq_r σ, ?_⟩
    have ef : awF i n v j o = o := by unfold awF; rw [if_pos c]
    rw [s0, if_pos c, e86, ef]
  · obtain ⟨σ', q', e'⟩ := M_tw (j := j) hi hk hT σ hok
    have tr : F_X5_away_b82 (lo6 F_X5_away_b42 q) 49 (nI i) n (nI k) (awE o) (nI j) σ = lo6 F_X5_away_b42 q 49 (nI i) n (nI k) (if v j < n then awE o else nI j) (nI (j + 1)) σ' := by
      rw [F_X5_away_b82, F_X5_away_b87, if_neg (by decide), k49, ck_t, e', bnd_s, ← hv, nI_1]
      by_cases d : v j < n
      · rw [if_pos d, if_pos d]
      · rw [if_neg d, if_neg d]
    by_cases d : ocase o false (fun b => decide (bc (nI (b % 256)) ≤ bc (nI j))) = true
    · refine ⟨σ, mq_r σ, ?_⟩
      have ef : awF i n v j o = o := by unfold awF; rw [if_neg c, if_pos d]
      cases o with
      | none => exact absurd (show false = true from d) (by decide)
      | some b =>
        rw [s0, if_neg c, ef, awE_some, if_neg (nI_pos (by omega)), M_bits (by omega), bnd_s, M_bits (by omega), bnd_s, if_pos (of_decide_eq_true d), ← awE_some, e86]
    · refine ⟨σ', q', ?_⟩
      have ef : awE (awF i n v j o) = if v j < n then awE o else nI j := by
        unfold awF
        rw [if_neg c, if_neg d]
        by_cases g : v j < n
        · rw [if_pos g, if_pos g]
        · rw [if_neg g, if_neg g, awE_lt (by omega)]
      rw [s0, if_neg c, ef]
      cases o with
      | none => rw [awE_none, if_pos (by decide), ← awE_none, tr]
      | some b =>
        rw [awE_some, if_neg (nI_pos (by omega)), M_bits (by omega), bnd_s, M_bits (by omega), bnd_s, if_neg (fun z => d (decide_eq_true z)), ← awE_some, tr]
theorem op_away (s n k : Int32) : Op (F_X4_away 0 s n k) (F_X5_away 49 s n k) := by
  intro K σ hK h
  obtain ⟨⟨⟨m, h1, h2, h4⟩, hk⟩, hT, hS, hF⟩ := id h
  have h8 := h1.1
  by_cases hs : isS m s = true
  · obtain ⟨i, hi, rfl⟩ := isS_of hs
    obtain ⟨q1, q2⟩ := aw_4 m (by omega) i hi
    by_cases hw : wi n 0 999 = true
    · by_cases hw2 : wi k 0 20 = true
      · obtain ⟨k, hk6, rfl⟩ := wi_t (n := 20) (by decide) rfl hw2
        obtain ⟨v, hv⟩ : ∃ v : Nat → Int32, v = fun j => minsR k (emG j m 6 0 (V 1 σ)) (23 + 7 * i + 5) := ⟨_, rfl⟩
        obtain ⟨n', σ', q', -, e'⟩ := q_loop (Q := cq) cq_r cq_t (I := fun σ' => V 1 σ' = V 1 σ) (G := fun q (a : Option Nat) j => lo7 F_X4_away_b59 q 0 (nI i) n (nI k) (nI (othU m i)) (awE a) (nI j)) (f := awF i n v) (N := othU m i + 1) (fun a b ha q => (cq_V1 q).trans ha) (fun q a j σx hI hj => C_awS (by rw [hI]; exact h1) hK (by omega) hi hj (by rw [hI, hv]) a) (othU m i + 1) 0 1000 none σ (by omega) (by omega) rfl
        have ec : F_X4_away 0 (nI i) n (nI k) σ = lo7 F_X4_away_b59 1000 0 (nI i) n (nI k) (nI (othU m i)) (awE none) (nI 0) σ := by
          rw [F_X4_away, k04, ck_t, C_isSitter k1 h1.2.1 h8, bnd_s, if_t hs, show F_X2_mostOf 5 σ = some (999, σ) from rfl, bnd_s, C_within, bnd_s, if_t hw, C_within, bnd_s, if_t hw2, F_X0_sitterSet, kdb 1 k1, ck_t, bnd_s, lti_e, V1 1 σ, h1.2.1, (aw_1 m (by omega) i hi).1, awE_none]
          rfl
        have em : ∀ τ : Sto, (∀ k, 49 ≤ k → τ k = σ k) → ∃ n' σ2, mq τ σ2 ∧ σ2 50 1 = nI m ∧ F_X5_away 49 (nI i) n (nI k) τ = lo6 F_X5_away_b42 (n' + 1) 49 (nI i) n (nI k) (awE (fldU (awF i n v) 0 (othU m i + 1) none)) (nI (2 ^ m)) σ2 := by
          intro τ hτ
          obtain ⟨n', σ2, q2', i2, e2⟩ := q_loop (Q := mq) mq_r mq_t (I := fun τ' => agr m (V 1 σ) (τ' 50)) (G := fun q (a : Option Nat) j => lo6 F_X5_away_b42 q 49 (nI i) n (nI k) (awE a) (nI j)) (f := awF i n v) (N := 2 ^ m) (fun a b ha q => agr_mq h8 ha q) (fun q a j τx hI hj => M_awS (T := 100 * K) (okR_agr hI h1) (by omega) (by omega) hi hj (by rw [hv]; exact agr_mins k (100 * K) (emG_agr 6 0 _ _ (by omega) hI) (emG_ok 6 0 _ (by omega) h1) (by omega) _ (by omega)) a) (2 ^ m) 0 1000 none τ (by omega) (by omega) (mrow h2 hτ)
          have eh := awF_hi (n := n) (v := v) (show m < 9 by omega) hi (2 ^ m - (othU m i + 1)) (by omega)
          rw [show othU m i + 1 + (2 ^ m - (othU m i + 1)) = 2 ^ m by omega] at eh
          refine ⟨n', σ2, q2', m1of h1 i2, ?_⟩
          have e2' : lo6 F_X5_away_b42 1000 49 (nI i) n (nI k) (awE none) (nI 0) τ = lo6 F_X5_away_b42 (n' + 1) 49 (nI i) n (nI k) (awE (fldU (awF i n v) 0 (2 ^ m) none)) (nI (2 ^ m)) σ2 := e2
          rw [F_X5_away, k49, ck_t, M_isSitter h8 (m1of h1 (mrow h2 hτ)), bnd_s, if_t hs, M_within, bnd_s, if_t hw, M_within, bnd_s, if_t hw2, ← eh, ← e2']
          rfl
        have e2' : lo7 F_X4_away_b59 1000 0 (nI i) n (nI k) (nI (othU m i)) (awE none) (nI 0) σ = lo7 F_X4_away_b59 (n' + 1) 0 (nI i) n (nI k) (nI (othU m i)) (awE (fldU (awF i n v) 0 (othU m i + 1) none)) (nI (othU m i + 1)) σ' := e'
        rw [e2'] at ec
        obtain ⟨o, ho⟩ : ∃ o, o = fldU (awF i n v) 0 (othU m i + 1) none := ⟨_, rfl⟩
        rw [← ho] at ec em
        rw [lo7_s, F_X4_away_b59, if_pos ((nI_ltI (by omega) (by omega)).mpr (by omega))] at ec
        cases o with
        | none =>
          refine op_fin (i := 3) (r := -1000004) (by decide) h ⟨σ', ?_, q'⟩ (fun τ hτ => ?_)
          · rw [ec, awE_none, if_neg (by decide), k04, ck_t, C_f3, bnd_s]
          · obtain ⟨n2, σ2, qm, m2, e2⟩ := em τ hτ
            refine ⟨σ2, ?_, qm⟩
            rw [e2, lo6_s, F_X5_away_b42, k49, ck_t, m2, (aw_1 m (by omega) i hi).2, if_pos (Int32.le_refl _), M_orNone, awE_none, if_neg (by decide), bnd_s]
        | some b =>
          refine op_ans (r := nI (b % 256)) h ⟨σ', ?_, q'⟩ (fun τ hτ => ?_)
          · rw [ec, awE_some, if_pos (nI_pos' (by omega))]
          · obtain ⟨n2, σ2, qm, m2, e2⟩ := em τ hτ
            refine ⟨σ2, ?_, qm⟩
            rw [e2, lo6_s, F_X5_away_b42, k49, ck_t, m2, (aw_1 m (by omega) i hi).2, if_pos (Int32.le_refl _), M_orNone, awE_some, if_pos (nI_pos' (by omega)), bnd_s]
      · refine op_e0 h ?_ (fun τ hτ => ?_)
        · rw [F_X4_away, k04, ck_t, C_isSitter k1 h1.2.1 h8, bnd_s, if_t hs, show F_X2_mostOf 5 σ = some (999, σ) from rfl, bnd_s, C_within, bnd_s, if_t hw, C_within, bnd_s, if_f (wi_f hw2), C_f0, bnd_s]
        · rw [F_X5_away, k49, ck_t, M_isSitter h8 (m1of h1 (mrow h2 hτ)), bnd_s, if_t hs, M_within, bnd_s, if_t hw, M_within, bnd_s, if_f (wi_f hw2), M_f0, bnd_s]
    · refine op_e0 h ?_ (fun τ hτ => ?_)
      · rw [F_X4_away, k04, ck_t, C_isSitter k1 h1.2.1 h8, bnd_s, if_t hs, show F_X2_mostOf 5 σ = some (999, σ) from rfl, bnd_s, C_within, bnd_s, if_f (wi_f hw), C_f0, bnd_s]
      · rw [F_X5_away, k49, ck_t, M_isSitter h8 (m1of h1 (mrow h2 hτ)), bnd_s, if_t hs, M_within, bnd_s, if_f (wi_f hw), M_f0, bnd_s]
  · refine op_e0 h ?_ (fun τ hτ => ?_)
    · rw [F_X4_away, k04, ck_t, C_isSitter k1 h1.2.1 h8, bnd_s, if_f (wi_f hs), C_f0, bnd_s]
    · rw [F_X5_away, k49, ck_t, M_isSitter h8 (m1of h1 (mrow h2 hτ)), bnd_s, if_f (wi_f hs), M_f0, bnd_s]

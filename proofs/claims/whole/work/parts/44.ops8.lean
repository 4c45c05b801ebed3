/-! PURE: the calls: lightFor, merryFor, priceFor, stoolFor -/
theorem agr_tkW {T m k i : Nat} {a b : Row} (hi : i < m) (h : agr m a b) (hok : okR T m a) (hT : T + k < 2 ^ 31) : tkW k i a = tkW k i b := by
  unfold tkW
  rw [agr_mins k T h hok hT _ (by omega), h (23 + 7 * i + 5) (by omega)]
theorem lo5_s {A1 A2 A3 A4 A5 β : Type} (B : (A1 → A2 → A3 → A4 → A5 → Sto → Option β) → A1 → A2 → A3 → A4 → A5 → Sto → Option β) (n : Nat) : lo5 B (n + 1) = B (lo5 B n) := rfl
theorem op_lightFor (s n : Int32) : Op (F_X4_lightFor 0 s n) (F_X5_lightFor 49 s n) := by
  intro K σ hK h
  obtain ⟨⟨⟨m, h1, h2, h4⟩, hk⟩, hT, hS, hF⟩ := id h
  have h8 := h1.1
  by_cases hs : isS m s = true
  · obtain ⟨i, hi, rfl⟩ := isS_of hs
    have hi8 : i < 8 := by omega
    by_cases hw : wi n 0 60 = true
    · obtain ⟨k, hk6, rfl⟩ := wi_t (n := 60) (by decide) rfl hw
      obtain ⟨T, hTT⟩ : ∃ T : Nat → Bool, T = fun j => tkW k i (upd (V 1 σ) 4 (nI j)) := ⟨_, rfl⟩
      have okx : ∀ a, okR (100 * K) m a → ∀ j, okR (100 * K) m (upd a 4 (nI j)) := fun a ha j => okR_o ha (by omega) (by omega) (by omega)
      obtain ⟨n', σ', q', -, e'⟩ := x_loop (Q := cq) cq_r cq_t (I := fun σ' => V 1 σ' = V 1 σ) (G := fun q j => lo5 F_X4_lightFor_b40 q 0 (nI i) (nI k) (V 1 σ (23 + 7 * i + 5)) (nI j)) (T := T) (w := nI) (N := 10) (fun a b ha q => (cq_V1 q).trans ha) (fun q j σx hI hj => by
        have h1x : okR (100 * K) m (V 1 σx) := by rw [hI]; exact h1
        obtain ⟨σ1, e1, q1, a1, n1, tw⟩ := C_tw h1x hK (k := k) (by omega)
        obtain ⟨σ3, e3, q3, a3, n3⟩ := tw 4 (nI j) (up2 σ1 13 1 (nI j)) (V_uh (b := 13) (by decide) (by omega)) (fr_u (by omega)) (by rw [hI]; exact okx _ h1 j)
        have eT : T j = !decide (minsR k (upd (V 1 σ) 4 (nI j)) (23 + 7 * i + 5) ≤ V 1 σ (23 + 7 * i + 5)) := by
          rw [hTT]
          show tkW k i (upd (V 1 σ) 4 (nI j)) = _
          unfold tkW
          rw [upd_n (show ¬ 23 + 7 * i + 5 = 4 by omega)]
        refine ⟨σ3, q3, ?_⟩
        show F_X4_lightFor_b40 (lo5 F_X4_lightFor_b40 q) 0 (nI i) (nI k) (V 1 σ (23 + 7 * i + 5)) (nI j) σx = if T j = true then some (nI j, σ3) else lo5 F_X4_lightFor_b40 q 0 (nI i) (nI k) (V 1 σ (23 + 7 * i + 5)) (nI (j + 1)) σ3
        rw [F_X4_lightFor_b40, show F_X0_mostOf 1 σx = some (9, σx) from rfl, bnd_s, if_neg (fun z => by have := (nI_ltI (a := 9) (by decide) (by omega)).mp z; omega), k04, ck_t, e1, bnd_s, lts_e, e3, bnd_s, show (5 : Int32) = nI 5 from rfl, C_partOf k13 n3 h8 hi (by decide), bnd_s, a3 _ (by omega), hI, nI_1, eT]
        by_cases c : minsR k (upd (V 1 σ) 4 (nI j)) (23 + 7 * i + 5) ≤ V 1 σ (23 + 7 * i + 5)
        · rw [if_pos c, decide_eq_true c]; rfl
        · rw [if_neg c, decide_eq_false c]; rfl) 10 0 1000 σ (by omega) (by omega) rfl
      have em : ∀ τ : Sto, (∀ k, 49 ≤ k → τ k = σ k) → ∃ n' σ2, mq τ σ2 ∧ F_X5_lightFor 49 (nI i) (nI k) τ = lo5 F_X5_lightFor_b28 (n' + 1) 49 (nI i) (nI k) (ocase (lstU T 0 10) (-1) nI) (-1) σ2 := by
        intro τ hτ
        obtain ⟨n', σ2, q2, -, e2⟩ := q_loop (Q := mq) mq_r mq_t (I := fun τ' => agr m (V 1 σ) (τ' 50)) (G := fun q (a : Int32) j => lo5 F_X5_lightFor_b28 q 49 (nI i) (nI k) a (9 - nI j)) (f := fun q a => if T (10 - 1 - q) = true then nI (10 - 1 - q) else a) (N := 10) (fun a b ha q => agr_mq h8 ha q) (fun q a j τx hI hj => by
          have ej : (9 : Int32) - nI j = nI (10 - 1 - j) := by rcases (show j = 0 ∨ j = 1 ∨ j = 2 ∨ j = 3 ∨ j = 4 ∨ j = 5 ∨ j = 6 ∨ j = 7 ∨ j = 8 ∨ j = 9 by omega) with rfl | rfl | rfl | rfl | rfl | rfl | rfl | rfl | rfl | rfl <;> decide
          have ej2 : nI (10 - 1 - j) + -1 = 9 - nI (j + 1) := by rcases (show j = 0 ∨ j = 1 ∨ j = 2 ∨ j = 3 ∨ j = 4 ∨ j = 5 ∨ j = 6 ∨ j = 7 ∨ j = 8 ∨ j = 9 by omega) with rfl | rfl | rfl | rfl | rfl | rfl | rfl | rfl | rfl | rfl <;> decide
          have okt := okx _ (okR_agr hI h1) (10 - 1 - j)
          obtain ⟨σ3, q3, e3⟩ := M_isTakenW (p := 4) (v := nI (10 - 1 - j)) (k := k) (i := i) (by omega) okt (by omega) (by omega) (by omega)
          refine ⟨σ3, q3, ?_⟩
          show F_X5_lightFor_b28 (lo5 F_X5_lightFor_b28 q) 49 (nI i) (nI k) a (9 - nI j) τx = lo5 F_X5_lightFor_b28 q 49 (nI i) (nI k) (if T (10 - 1 - j) = true then nI (10 - 1 - j) else a) (9 - nI (j + 1)) σ3
          have eT : tkW k i (upd (τx 50) 4 (nI (10 - 1 - j))) = T (10 - 1 - j) := by rw [hTT]; exact (agr_tkW hi (agr_u hI rfl) (okx _ h1 _) (by omega)).symm
          rw [ej, F_X5_lightFor_b28, if_neg (nI_pos (by omega)), k49, ck_t, show (4 : Int32) = nI 4 from rfl, e3, bnd_s, eT, ej2]
          by_cases c : T (10 - 1 - j) = true
          · rw [if_t c, if_pos c]
          · rw [if_f (wi_f c), if_neg c]) 10 0 1000 (-1) τ (by omega) (by omega) (mrow h2 hτ)
        refine ⟨n', σ2, q2, ?_⟩
        have er := rvU (T := T) (w := nI) (N := 10) (g := fun q a => if T (10 - 1 - q) = true then nI (10 - 1 - q) else a) (fun q a _ => rfl) (-1) 10 0 (by omega)
        rw [show 10 - 0 - 10 = 0 from rfl] at er
        rw [F_X5_lightFor, k49, ck_t, M_isSitter h8 (m1of h1 (mrow h2 hτ)), bnd_s, if_t hs, M_isThought, bnd_s, if_t hw]
        have e2' : lo5 F_X5_lightFor_b28 1000 49 (nI i) (nI k) (-1) (9 - nI 0) τ = lo5 F_X5_lightFor_b28 (n' + 1) 49 (nI i) (nI k) (fldU (fun q a => if T (10 - 1 - q) = true then nI (10 - 1 - q) else a) 0 10 (-1)) (9 - nI 10) σ2 := e2
        rw [show (9 : Int32) - nI 10 = -1 by decide, show (9 : Int32) - nI 0 = 9 by decide, er] at e2'
        exact e2'
      have ec : F_X4_lightFor 0 (nI i) (nI k) σ = lo5 F_X4_lightFor_b40 1000 0 (nI i) (nI k) (V 1 σ (23 + 7 * i + 5)) 0 σ := by
        rw [F_X4_lightFor, k04, ck_t, C_isSitter k1 h1.2.1 h8, bnd_s, if_t hs, C_within, bnd_s, if_t hw, show (5 : Int32) = nI 5 from rfl, C_partOf k1 h1.2.1 h8 hi (by decide), bnd_s]
      have fin : ∀ (r : Int32) n' σ2, F_X5_lightFor_b28 (lo5 F_X5_lightFor_b28 n') 49 (nI i) (nI k) r (-1) σ2 = if 0 ≤ r then some (r, σ2) else some (-1000004, fndM 3 σ2) := by
        intro r n' σ2
        rw [F_X5_lightFor_b28, if_pos (by decide), k49, ck_t, M_orNone]
        split <;> rfl
      cases ef : lstU T 0 10 with
      | some j =>
        have hj : j < 2 ^ 31 := by
          have : ∀ d q j, lstU T q d = some j → j < q + d := by
            intro d
            induction d with
            | zero => intro q j e; cases e
            | succ d ih =>
              intro q j e
              rw [lstU] at e
              split at e
              · cases e; omega
              · have := ih _ _ e; omega
          have := this _ _ _ ef
          omega
        rw [ef, oc_s] at e'
        have ec' : F_X4_lightFor 0 (nI i) (nI k) σ = some (nI j, σ') := by rw [ec]; exact e'
        refine op_ans (r := nI j) h ⟨σ', ec', q'⟩ (fun τ hτ => ?_)
        obtain ⟨n', σ2, q2, e2⟩ := em τ hτ
        rw [ef, oc_s] at e2
        refine ⟨σ2, ?_, q2⟩
        rw [e2, lo5_s, fin, if_pos (nI_pos' hj)]
      | none =>
        rw [ef, oc_n] at e'
        refine op_fin (i := 3) (r := -1000004) (by decide) h ⟨σ', (ec.trans e').trans ?_, q'⟩ (fun τ hτ => ?_)
        · show F_X4_lightFor_b40 (lo5 F_X4_lightFor_b40 n') 0 (nI i) (nI k) _ (nI 10) σ' = _
          rw [F_X4_lightFor_b40, show F_X0_mostOf 1 σ' = some (9, σ') from rfl, bnd_s, if_pos (by decide), k04, ck_t, C_f3, bnd_s]
        · obtain ⟨n', σ2, q2, e2⟩ := em τ hτ
          rw [ef, oc_n] at e2
          refine ⟨σ2, ?_, q2⟩
          rw [e2, lo5_s, fin, if_neg (by decide)]
    · refine op_e0 h ?_ (fun τ hτ => ?_)
      · rw [F_X4_lightFor, k04, ck_t, C_isSitter k1 h1.2.1 h8, bnd_s, if_t hs, C_within, bnd_s, if_f (wi_f hw), C_f0, bnd_s]
      · rw [F_X5_lightFor, k49, ck_t, M_isSitter h8 (m1of h1 (mrow h2 hτ)), bnd_s, if_t hs, M_isThought, bnd_s, if_f (wi_f hw), M_f0, bnd_s]
  · refine op_e0 h ?_ (fun τ hτ => ?_)
    · rw [F_X4_lightFor, k04, ck_t, C_isSitter k1 h1.2.1 h8, bnd_s, if_f (wi_f hs), C_f0, bnd_s]
    · rw [F_X5_lightFor, k49, ck_t, M_isSitter h8 (m1of h1 (mrow h2 hτ)), bnd_s, if_f (wi_f hs), M_f0, bnd_s]
theorem lstU_lt {T : Nat → Bool} : ∀ d q j, lstU T q d = some j → j < q + d := by
  intro d
  induction d with
  | zero => intro q j e; cases e
  | succ d ih =>
    intro q j e
    rw [lstU] at e
    split at e
    · cases e; omega
    · have := ih _ _ e; omega
theorem op_merryFor (s n : Int32) : Op (F_X4_merryFor 0 s n) (F_X5_merryFor 49 s n) := by
  intro K σ hK h
  obtain ⟨⟨⟨m, h1, h2, h4⟩, hk⟩, hT, hS, hF⟩ := id h
  have h8 := h1.1
  by_cases hs : isS m s = true
  · obtain ⟨i, hi, rfl⟩ := isS_of hs
    have hi8 : i < 8 := by omega
    by_cases hw : wi n 0 60 = true
    · obtain ⟨k, hk6, rfl⟩ := wi_t (n := 60) (by decide) rfl hw
      obtain ⟨T, hTT⟩ : ∃ T : Nat → Bool, T = fun j => tkW k i (upd (V 1 σ) (23 + 7 * i + 3) (nI (10 - 1 - j))) := ⟨_, rfl⟩
      have okx : ∀ a, okR (100 * K) m a → ∀ j, okR (100 * K) m (upd a (23 + 7 * i + 3) (nI j)) := fun a ha j => okR_o ha (by omega) (by omega) (by omega)
      obtain ⟨n', σ', q', -, e'⟩ := x_loop (Q := cq) cq_r cq_t (I := fun σ' => V 1 σ' = V 1 σ) (G := fun q j => lo5 F_X4_merryFor_b43 q 0 (nI i) (nI k) (V 1 σ (23 + 7 * i + 5)) (9 - nI j)) (T := T) (w := fun j => nI (10 - 1 - j)) (N := 10) (fun a b ha q => (cq_V1 q).trans ha) (fun q j σx hI hj => by
        have ej : (9 : Int32) - nI j = nI (10 - 1 - j) := by rcases (show j = 0 ∨ j = 1 ∨ j = 2 ∨ j = 3 ∨ j = 4 ∨ j = 5 ∨ j = 6 ∨ j = 7 ∨ j = 8 ∨ j = 9 by omega) with rfl | rfl | rfl | rfl | rfl | rfl | rfl | rfl | rfl | rfl <;> decide
        have ej2 : nI (10 - 1 - j) + -1 = 9 - nI (j + 1) := by rcases (show j = 0 ∨ j = 1 ∨ j = 2 ∨ j = 3 ∨ j = 4 ∨ j = 5 ∨ j = 6 ∨ j = 7 ∨ j = 8 ∨ j = 9 by omega) with rfl | rfl | rfl | rfl | rfl | rfl | rfl | rfl | rfl | rfl <;> decide
        have h1x : okR (100 * K) m (V 1 σx) := by rw [hI]; exact h1
        obtain ⟨σ1, e1, q1, a1, n1, tw⟩ := C_tw h1x hK (k := k) (by omega)
        obtain ⟨σ3, e3, q3, a3, n3⟩ := tw (23 + 7 * i + 3) (nI (10 - 1 - j)) (up2 σ1 (13 + 1 + 1 + i) 3 (nI (10 - 1 - j))) (V_us (b := 13) hi8 (by decide)) (fr_u (by omega)) (by rw [hI]; exact okx _ h1 _)
        have eT : T j = !decide (minsR k (upd (V 1 σ) (23 + 7 * i + 3) (nI (10 - 1 - j))) (23 + 7 * i + 5) ≤ V 1 σ (23 + 7 * i + 5)) := by
          rw [hTT]
          show tkW k i (upd (V 1 σ) (23 + 7 * i + 3) (nI (10 - 1 - j))) = _
          unfold tkW
          rw [upd_n (show ¬ 23 + 7 * i + 5 = 23 + 7 * i + 3 by omega)]
        refine ⟨σ3, q3, ?_⟩
        show F_X4_merryFor_b43 (lo5 F_X4_merryFor_b43 q) 0 (nI i) (nI k) (V 1 σ (23 + 7 * i + 5)) (9 - nI j) σx = if T j = true then some (nI (10 - 1 - j), σ3) else lo5 F_X4_merryFor_b43 q 0 (nI i) (nI k) (V 1 σ (23 + 7 * i + 5)) (9 - nI (j + 1)) σ3
        have eg : F_X0_give 13 (nI i) 3 (nI (10 - 1 - j)) σ1 = some ((), up2 σ1 (13 + 1 + 1 + i) 3 (nI (10 - 1 - j))) := C_give (k := 3) k13 h8 σ1 n1 hi (by decide) _
        rw [ej, F_X4_merryFor_b43, if_neg (nI_pos (by omega)), k04, ck_t, e1, bnd_s, eg, bnd_s, e3, bnd_s, show (5 : Int32) = nI 5 from rfl, C_partOf k13 n3 h8 hi (by decide), bnd_s, a3 _ (by omega), hI, ej2, eT]
        by_cases c : minsR k (upd (V 1 σ) (23 + 7 * i + 3) (nI (10 - 1 - j))) (23 + 7 * i + 5) ≤ V 1 σ (23 + 7 * i + 5)
        · rw [if_pos c, decide_eq_true c]; rfl
        · rw [if_neg c, decide_eq_false c]; rfl) 10 0 1000 σ (by omega) (by omega) rfl
      have em : ∀ τ : Sto, (∀ k, 49 ≤ k → τ k = σ k) → ∃ n' σ2, mq τ σ2 ∧ F_X5_merryFor 49 (nI i) (nI k) τ = lo5 F_X5_merryFor_b27 (n' + 1) 49 (nI i) (nI k) (ocase (lstU T 0 10) (-1) (fun k => nI (10 - 1 - k))) (nI 10) σ2 := by
        intro τ hτ
        obtain ⟨n', σ2, q2, -, e2⟩ := q_loop (Q := mq) mq_r mq_t (I := fun τ' => agr m (V 1 σ) (τ' 50)) (G := fun q (a : Int32) j => lo5 F_X5_merryFor_b27 q 49 (nI i) (nI k) a (nI j)) (f := fun q a => if T (10 - 1 - q) = true then nI (10 - 1 - (10 - 1 - q)) else a) (N := 10) (fun a b ha q => agr_mq h8 ha q) (fun q a j τx hI hj => by
          have okt := okx _ (okR_agr hI h1) j
          obtain ⟨σ3, q3, e3⟩ := M_isTakenW (p := 23 + 7 * i + 3) (v := nI j) (k := k) (i := i) (by omega) okt (by omega) (by omega) (by omega)
          refine ⟨σ3, q3, ?_⟩
          show F_X5_merryFor_b27 (lo5 F_X5_merryFor_b27 q) 49 (nI i) (nI k) a (nI j) τx = lo5 F_X5_merryFor_b27 q 49 (nI i) (nI k) (if T (10 - 1 - j) = true then nI (10 - 1 - (10 - 1 - j)) else a) (nI (j + 1)) σ3
          have ejj : 10 - 1 - (10 - 1 - j) = j := by omega
          have eT : tkW k i (upd (τx 50) (23 + 7 * i + 3) (nI j)) = T (10 - 1 - j) := by rw [hTT]; show _ = tkW k i (upd (V 1 σ) (23 + 7 * i + 3) (nI (10 - 1 - (10 - 1 - j)))); rw [ejj]; exact (agr_tkW hi (agr_u hI rfl) (okx _ h1 _) (by omega)).symm
          rw [F_X5_merryFor_b27, if_neg (fun z => by have := (nI_ltI (a := 9) (by decide) (by omega)).mp z; omega), M_at3, bnd_s, k49, ck_t, e3, bnd_s, eT, ejj, nI_1]
          by_cases c : T (10 - 1 - j) = true
          · rw [if_t c, if_pos c]
          · rw [if_f (wi_f c), if_neg c]) 10 0 1000 (-1) τ (by omega) (by omega) (mrow h2 hτ)
        refine ⟨n', σ2, q2, ?_⟩
        have er := rvU (T := T) (w := fun j => nI (10 - 1 - j)) (N := 10) (g := fun q a => if T (10 - 1 - q) = true then nI (10 - 1 - (10 - 1 - q)) else a) (fun q a _ => rfl) (-1) 10 0 (by omega)
        rw [F_X5_merryFor, k49, ck_t, M_isSitter h8 (m1of h1 (mrow h2 hτ)), bnd_s, if_t hs, M_isThought, bnd_s, if_t hw]
        refine e2.trans ?_
        rw [show 10 - 0 - 10 = 0 from rfl] at er
        rw [er]
      have ec : F_X4_merryFor 0 (nI i) (nI k) σ = lo5 F_X4_merryFor_b43 1000 0 (nI i) (nI k) (V 1 σ (23 + 7 * i + 5)) 9 σ := by
        rw [F_X4_merryFor, k04, ck_t, C_isSitter k1 h1.2.1 h8, bnd_s, if_t hs, C_within, bnd_s, if_t hw, show (5 : Int32) = nI 5 from rfl, C_partOf k1 h1.2.1 h8 hi (by decide), bnd_s, show F_X2_mostOf 3 σ = some (9, σ) from rfl, bnd_s]
      have fin : ∀ (r : Int32) n' σ2, F_X5_merryFor_b27 (lo5 F_X5_merryFor_b27 n') 49 (nI i) (nI k) r (nI 10) σ2 = if 0 ≤ r then some (r, σ2) else some (-1000004, fndM 3 σ2) := by
        intro r n' σ2
        rw [F_X5_merryFor_b27, if_pos (by decide), k49, ck_t, M_orNone]
        split <;> rfl
      cases ef : lstU T 0 10 with
      | some j =>
        rw [ef, oc_s] at e'
        refine op_ans (r := nI (10 - 1 - j)) h ⟨σ', ec.trans e', q'⟩ (fun τ hτ => ?_)
        obtain ⟨n', σ2, q2, e2⟩ := em τ hτ
        rw [ef, oc_s] at e2
        refine ⟨σ2, ?_, q2⟩
        rw [e2, lo5_s, fin, if_pos (nI_pos' (by omega))]
      | none =>
        rw [ef, oc_n] at e'
        refine op_fin (i := 3) (r := -1000004) (by decide) h ⟨σ', (ec.trans e').trans ?_, q'⟩ (fun τ hτ => ?_)
        · show F_X4_merryFor_b43 (lo5 F_X4_merryFor_b43 n') 0 (nI i) (nI k) _ (9 - nI 10) σ' = _
          rw [F_X4_merryFor_b43, if_pos (by decide), k04, ck_t, C_f3, bnd_s]
        · obtain ⟨n', σ2, q2, e2⟩ := em τ hτ
          rw [ef, oc_n] at e2
          refine ⟨σ2, ?_, q2⟩
          rw [e2, lo5_s, fin, if_neg (by decide)]
    · refine op_e0 h ?_ (fun τ hτ => ?_)
      · rw [F_X4_merryFor, k04, ck_t, C_isSitter k1 h1.2.1 h8, bnd_s, if_t hs, C_within, bnd_s, if_f (wi_f hw), C_f0, bnd_s]
      · rw [F_X5_merryFor, k49, ck_t, M_isSitter h8 (m1of h1 (mrow h2 hτ)), bnd_s, if_t hs, M_isThought, bnd_s, if_f (wi_f hw), M_f0, bnd_s]
  · refine op_e0 h ?_ (fun τ hτ => ?_)
    · rw [F_X4_merryFor, k04, ck_t, C_isSitter k1 h1.2.1 h8, bnd_s, if_f (wi_f hs), C_f0, bnd_s]
    · rw [F_X5_merryFor, k49, ck_t, M_isSitter h8 (m1of h1 (mrow h2 hτ)), bnd_s, if_f (wi_f hs), M_f0, bnd_s]

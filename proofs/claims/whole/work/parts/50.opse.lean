/-! PURE: the calls on sheets: fits, tall -/
/-- class's answer for one height, and what the trial Booth is after it -/
theorem C_tallT {q z i e m : Nat} (hq : q < 4) (hz : z ≤ 40) (hi : i < m) (h8 : m ≤ 8) (he : e ≤ 4) (hez : e ≤ z) (hend : e = 4 ∨ e = z) {a0 : Row} {nm : Nat → Int32} {T : Nat → Bool} (hT : T = fun t => alR nm (upd a0 (23 + 7 * i + 1) (nI t)) i 0 e) {σ : Sto} (hag : agrp m (23 + 7 * i + 1) a0 (V 13 σ)) (hm : V 13 σ 1 = nI m) (h1 : σ (40 + 2 * q) 1 = nI z) (hn : ∀ j, j < 40 → σ (40 + 2 * q + 1) j = nm j) (t : Nat) : ∃ σ', tq (23 + 7 * i + 1) σ σ' ∧ F_X4_isTallAsTold 0 (40 + 2 * q) (nI i) (nI t) σ = some (b2i (T t), σ') := by
  have vx : V 13 (up2 σ (13 + 1 + 1 + i) 1 (nI t)) = upd (V 13 σ) (23 + 7 * i + 1) (nI t) := V_us (b := 13) (by omega) (by decide)
  refine ⟨up2 σ (13 + 1 + 1 + i) 1 (nI t), ⟨fr_u (by omega), fun j hj => by rw [vx, upd_n hj]⟩, ?_⟩
  have o : ∀ k, ¬ k = 13 + 1 + 1 + i → (up2 σ (13 + 1 + 1 + i) 1 (nI t)) k = σ k := fun k hk => by rw [up2_e, up1_n hk]
  rw [F_X4_isTallAsTold, k04, ck_t, C_whoS k13 hm h8 hi, bnd_s, oc_s, kdb _ (kel k13 (by omega)), ck_t, lts_e]
  refine (C_alR hq hz (i := i) (by omega) he hez hend (σ := up2 σ (13 + 1 + 1 + i) 1 (nI t)) (by rw [o _ (by omega)]; exact h1) e 0 1000 (by omega) (by omega)).trans ?_
  rw [vx, hT]
  show _ = some (b2i (alR nm (upd a0 (23 + 7 * i + 1) (nI t)) i 0 e), _)
  rw [alR_c (agrp_u hag (nI t)) hi, alR_n (f := (up2 σ (13 + 1 + 1 + i) 1 (nI t)) (40 + 2 * q + 1)) (g := nm) e 0 (fun k hk => by rw [o _ (by omega)]; exact hn k (by omega))]
theorem op_fits (s w : Int32) : Op (F_X4_fits 0 s w) (F_X5_fits 49 s w) := by
  intro K σ hK h
  obtain ⟨⟨⟨m, h1, h2, h4⟩, hk⟩, hT, hS, hF⟩ := id h
  have h8 := h1.1
  by_cases hs : inr s 4 = true
  · obtain ⟨q, hq, rfl⟩ := inr_of hs
    obtain ⟨b1, z, b2, b3, b4, b5⟩ := hS q hq
    by_cases hw : σ (40 + 2 * q) 0 = 0
    · refine op_e 5 (-1000006) (by decide) h ?_ (fun τ hτ => ?_)
      · rw [F_X4_fits, k04, ck_t, C_shS hq, bnd_s, oc_s, kdS hq, ck_t, C_miss hq, bnd_s, if_t (decide_eq_true hw), C_refM hq hw, bnd_s, C_f5, bnd_s]
      · rw [F_X5_fits, k49, ck_t, M_isSitter h8 (m1of h1 (mrow h2 hτ)), bnd_s, M_lacksS hq, bnd_s, hτ 57 (by decide), ← b1, if_pos hw, if_neg (by decide), M_f5, bnd_s]
    · by_cases hi : isS m w = true
      · obtain ⟨i, hi', rfl⟩ := isS_of hi
        obtain ⟨e, he, hez, hend⟩ : ∃ e, e ≤ 4 ∧ e ≤ z ∧ (e = 4 ∨ e = z) := by
          rcases Nat.lt_or_ge z 4 with c | c
          · exact ⟨z, by omega, by omega, Or.inr rfl⟩
          · exact ⟨4, by omega, by omega, Or.inl rfl⟩
        obtain ⟨T, hTT⟩ : ∃ T : Nat → Bool, T = fun t => alR (σ (40 + 2 * q + 1)) (upd (V 1 σ) (23 + 7 * i + 1) (nI t)) i 0 e := ⟨_, rfl⟩
        obtain ⟨σ1, e1, a1, f1⟩ := C_become k13 k1 (by decide) h8 σ h1.2.1
        obtain ⟨n', σ', q', -, e'⟩ := q_loop (Q := tq (23 + 7 * i + 1)) (tq_r _) tq_t (I := fun σ' => fr 13 σ σ' ∧ agrp m (23 + 7 * i + 1) (V 1 σ) (V 13 σ')) (G := fun n (a : Int32) j => lo5 F_X4_fits_b54 n 0 (nI i) (some (40 + 2 * q)) a (nI j)) (f := ctU T) (N := 91) (fun a b ha q => ⟨fr_t ha.1 q.1, fun j hj hn => (ha.2 j hj hn).trans (q.2 j hn).symm⟩) (fun n a j σx hI hj => by
          obtain ⟨σ3, q3, e3⟩ := C_tallT hq b2 hi' h8 he hez hend hTT hI.2 (by rw [← hI.2 1 (by omega) (by omega)]; exact h1.2.1) (by rw [hI.1 _ (by omega)]; exact b3) (fun j hj => by rw [hI.1 _ (by omega)]) j
          refine ⟨σ3, q3, ?_⟩
          show lo5 F_X4_fits_b54 (n + 1) 0 (nI i) (some (40 + 2 * q)) a (nI j) σx = lo5 F_X4_fits_b54 n 0 (nI i) (some (40 + 2 * q)) (ctU T j a) (nI (j + 1)) σ3
          rw [lo5_s, F_X4_fits_b54, show F_X2_mostOf 1 σx = some (90, σx) from rfl, bnd_s, if_neg (fun z => by have := (nI_ltI (a := 90) (by decide) (by omega)).mp z; omega), oc_s, k04, ck_t, e3, bnd_s, nI_1]
          unfold ctU
          by_cases c : T j = true
          · rw [if_t c, if_pos c]
          · rw [if_f (wi_f c), if_neg c]) 91 0 1000 0 σ1 (by omega) (by omega) ⟨f1, agr_agrp (agr_s a1)⟩
        have e2 : lo5 F_X4_fits_b54 1000 0 (nI i) (some (40 + 2 * q)) 0 0 σ1 = lo5 F_X4_fits_b54 (n' + 1) 0 (nI i) (some (40 + 2 * q)) (fldU (ctU T) 0 91 0) (nI 91) σ' := e'
        refine op_ans (r := fldU (ctU T) 0 91 0) h ⟨σ', ?_, cq_t (cq_fr f1) (cq_fr q'.1)⟩ (fun τ hτ => ?_)
        · rw [F_X4_fits, k04, ck_t, C_shS hq, bnd_s, oc_s, kdS hq, ck_t, C_miss hq, bnd_s, if_f (decide_eq_false hw), C_isSitter k1 h1.2.1 h8, bnd_s, if_t hi, e1, bnd_s, e2, lo5_s, F_X4_fits_b54, show F_X2_mostOf 1 σ' = some (90, σ') from rfl, bnd_s, if_pos (by decide)]
        · obtain ⟨τ', q2, em, e5, e6⟩ := M_fit hq b2 hi' h8 he hez hend hTT (mrow h2 hτ) (by rw [hτ 58 (by decide)]; exact b4) (fun j hj => by rw [hτ 59 (by decide)]; exact (b5 j hj).symm)
          refine ⟨τ', ?_, q2⟩
          rw [F_X5_fits, k49, ck_t, M_isSitter h8 (m1of h1 (mrow h2 hτ)), bnd_s, M_lacksS hq, bnd_s, hτ 57 (by decide), ← b1, if_neg hw, if_neg (b2i_1 hi), if_pos rfl, em, bnd_s, e5, dnT_1]
      · refine op_e0 h ?_ (fun τ hτ => ?_)
        · rw [F_X4_fits, k04, ck_t, C_shS hq, bnd_s, oc_s, kdS hq, ck_t, C_miss hq, bnd_s, if_f (decide_eq_false hw), C_isSitter k1 h1.2.1 h8, bnd_s, if_f (wi_f hi), C_refS hq hw, bnd_s, C_f0, bnd_s]
        · rw [F_X5_fits, k49, ck_t, M_isSitter h8 (m1of h1 (mrow h2 hτ)), bnd_s, M_lacksS hq, bnd_s, hτ 57 (by decide), ← b1, if_neg hw, if_pos (b2i_0 (wi_f hi)), if_neg (by decide), M_f0, bnd_s]
  · refine op_e0 h ?_ (fun τ hτ => ?_)
    · rw [F_X4_fits, k04, ck_t, C_sheetAt, if_neg hs, bnd_s, oc_n, C_refN, bnd_s, C_f0, bnd_s]
    · rw [F_X5_fits, k49, ck_t, M_isSitter h8 (m1of h1 (mrow h2 hτ)), bnd_s, M_lacksN hs, bnd_s, if_neg (by decide), M_f0, bnd_s]
theorem op_tall (s w : Int32) : Op (F_X4_tall 0 s w) (F_X5_tall 49 s w) := by
  intro K σ hK h
  obtain ⟨⟨⟨m, h1, h2, h4⟩, hk⟩, hT, hS, hF⟩ := id h
  have h8 := h1.1
  by_cases hs : inr s 4 = true
  · obtain ⟨q, hq, rfl⟩ := inr_of hs
    obtain ⟨b1, z, b2, b3, b4, b5⟩ := hS q hq
    by_cases hw : σ (40 + 2 * q) 0 = 0
    · refine op_e 5 (-1000006) (by decide) h ?_ (fun τ hτ => ?_)
      · rw [F_X4_tall, k04, ck_t, C_shS hq, bnd_s, oc_s, kdS hq, ck_t, C_miss hq, bnd_s, if_t (decide_eq_true hw), C_refM hq hw, bnd_s, C_f5, bnd_s]
      · rw [F_X5_tall, k49, ck_t, M_isSitter h8 (m1of h1 (mrow h2 hτ)), bnd_s, M_lacksS hq, bnd_s, hτ 57 (by decide), ← b1, if_pos hw, if_neg (by decide), M_f5, bnd_s]
    · by_cases hi : isS m w = true
      · obtain ⟨i, hi', rfl⟩ := isS_of hi
        obtain ⟨e, he, hez, hend⟩ : ∃ e, e ≤ 4 ∧ e ≤ z ∧ (e = 4 ∨ e = z) := by
          rcases Nat.lt_or_ge z 4 with c | c
          · exact ⟨z, by omega, by omega, Or.inr rfl⟩
          · exact ⟨4, by omega, by omega, Or.inl rfl⟩
        obtain ⟨T, hTT⟩ : ∃ T : Nat → Bool, T = fun t => alR (σ (40 + 2 * q + 1)) (upd (V 1 σ) (23 + 7 * i + 1) (nI t)) i 0 e := ⟨_, rfl⟩
        obtain ⟨σ1, e1, a1, f1⟩ := C_become k13 k1 (by decide) h8 σ h1.2.1
        obtain ⟨n', σ', q', -, e'⟩ := x_loop (Q := tq (23 + 7 * i + 1)) (tq_r _) tq_t (I := fun σ' => fr 13 σ σ' ∧ agrp m (23 + 7 * i + 1) (V 1 σ) (V 13 σ')) (G := fun n j => lo4 F_X4_tall_b51 n 0 (nI i) (some (40 + 2 * q)) (nI j)) (T := T) (w := nI) (N := 91) (fun a b ha q => ⟨fr_t ha.1 q.1, fun j hj hn => (ha.2 j hj hn).trans (q.2 j hn).symm⟩) (fun n j σx hI hj => by
          obtain ⟨σ3, q3, e3⟩ := C_tallT hq b2 hi' h8 he hez hend hTT hI.2 (by rw [← hI.2 1 (by omega) (by omega)]; exact h1.2.1) (by rw [hI.1 _ (by omega)]; exact b3) (fun j hj => by rw [hI.1 _ (by omega)]) j
          refine ⟨σ3, q3, ?_⟩
          show lo4 F_X4_tall_b51 (n + 1) 0 (nI i) (some (40 + 2 * q)) (nI j) σx = if T j = true then some (nI j, σ3) else lo4 F_X4_tall_b51 n 0 (nI i) (some (40 + 2 * q)) (nI (j + 1)) σ3
          rw [lo4_s, F_X4_tall_b51, show F_X2_mostOf 1 σx = some (90, σx) from rfl, bnd_s, if_neg (fun z => by have := (nI_ltI (a := 90) (by decide) (by omega)).mp z; omega), oc_s, k04, ck_t, e3, bnd_s, nI_1]
          by_cases c : T j = true
          · rw [if_t c, if_pos c]
          · rw [if_f (wi_f c), if_neg c]) 91 0 1000 σ1 (by omega) (by omega) ⟨f1, agr_agrp (agr_s a1)⟩
        have e2 : lo4 F_X4_tall_b51 1000 0 (nI i) (some (40 + 2 * q)) 0 σ1 = ocase (lstU T 0 91) (lo4 F_X4_tall_b51 (n' + 1) 0 (nI i) (some (40 + 2 * q)) (nI 91) σ') (fun k => some (nI k, σ')) := e'
        have ec : F_X4_tall 0 (nI q) (nI i) σ = ocase (lstU T 0 91) (some (-1000004, fnd 3 σ')) (fun k => some (nI k, σ')) := by
          rw [F_X4_tall, k04, ck_t, C_shS hq, bnd_s, oc_s, kdS hq, ck_t, C_miss hq, bnd_s, if_f (decide_eq_false hw), C_isSitter k1 h1.2.1 h8, bnd_s, if_t hi, e1, bnd_s, e2, lo4_s, F_X4_tall_b51, show F_X2_mostOf 1 σ' = some (90, σ') from rfl, bnd_s, if_pos (by decide), k04, ck_t, C_f3, bnd_s]
        have em : ∀ τ : Sto, (∀ k, 49 ≤ k → τ k = σ k) → ∃ τ', mq τ τ' ∧ F_X5_tall 49 (nI q) (nI i) τ = ocase (lstU T 0 91) (some (-1000004, fndM 3 τ')) (fun k => some (nI k, τ')) := by
          intro τ hτ
          obtain ⟨τ', q2, em, e5, e6⟩ := M_fit hq b2 hi' h8 he hez hend hTT (mrow h2 hτ) (by rw [hτ 58 (by decide)]; exact b4) (fun j hj => by rw [hτ 59 (by decide)]; exact (b5 j hj).symm)
          refine ⟨τ', q2, ?_⟩
          rw [F_X5_tall, k49, ck_t, M_isSitter h8 (m1of h1 (mrow h2 hτ)), bnd_s, M_lacksS hq, bnd_s, hτ 57 (by decide), ← b1, if_neg hw, if_neg (b2i_1 hi), if_pos rfl, em, bnd_s, e6, dnT_2, M_orNone]
          cases ef : lstU T 0 91 with
          | some k =>
            have := lstU_lt _ _ _ ef
            rw [oc_s, oc_s, if_pos (nI_pos' (by omega)), bnd_s]
          | none => rw [oc_n, oc_n, if_neg (by decide), bnd_s]
        cases ef : lstU T 0 91 with
        | some k =>
          rw [ef, oc_s] at ec
          refine op_ans (r := nI k) h ⟨σ', ec, cq_t (cq_fr f1) (cq_fr q'.1)⟩ (fun τ hτ => ?_)
          obtain ⟨τ', q2, em'⟩ := em τ hτ
          rw [ef, oc_s] at em'
          exact ⟨τ', em', q2⟩
        | none =>
          rw [ef, oc_n] at ec
          refine op_fin (i := 3) (r := -1000004) (by decide) h ⟨σ', ec, cq_t (cq_fr f1) (cq_fr q'.1)⟩ (fun τ hτ => ?_)
          obtain ⟨τ', q2, em'⟩ := em τ hτ
          rw [ef, oc_n] at em'
          exact ⟨τ', em', q2⟩
      · refine op_e0 h ?_ (fun τ hτ => ?_)
        · rw [F_X4_tall, k04, ck_t, C_shS hq, bnd_s, oc_s, kdS hq, ck_t, C_miss hq, bnd_s, if_f (decide_eq_false hw), C_isSitter k1 h1.2.1 h8, bnd_s, if_f (wi_f hi), C_refS hq hw, bnd_s, C_f0, bnd_s]
        · rw [F_X5_tall, k49, ck_t, M_isSitter h8 (m1of h1 (mrow h2 hτ)), bnd_s, M_lacksS hq, bnd_s, hτ 57 (by decide), ← b1, if_neg hw, if_pos (b2i_0 (wi_f hi)), if_neg (by decide), M_f0, bnd_s]
  · refine op_e0 h ?_ (fun τ hτ => ?_)
    · rw [F_X4_tall, k04, ck_t, C_sheetAt, if_neg hs, bnd_s, oc_n, C_refN, bnd_s, C_f0, bnd_s]
    · rw [F_X5_tall, k49, ck_t, M_isSitter h8 (m1of h1 (mrow h2 hτ)), bnd_s, M_lacksN hs, bnd_s, if_neg (by decide), M_f0, bnd_s]

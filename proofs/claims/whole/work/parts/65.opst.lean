/-! PURE: text: the reference reads an item -/
def mS (L : Nat) (σ : Sto) (S : Bool × Nat × Nat × Nat × Nat) (n s : Nat) (H : Row) (τ : Sto) : Prop := (∀ k, ¬ k = 49 → ¬ k = 56 → τ k = σ k) ∧ (∀ j, j < 9 → τ 49 j = σ 49 j) ∧ sitM L S (τ 49) ∧ τ 49 16 = nI n ∧ τ 49 17 = nI s ∧ τ 56 = H
theorem mS_B {L n s : Nat} {σ τ : Sto} {S : Bool × Nat × Nat × Nat × Nat} {H B : Row} (h : mS L σ S n s H τ) (hB : ∀ j, j < L → σ 54 j = B j) : ∀ j, j < L → τ 54 j = B j := fun j hj => by rw [h.1 54 (by decide) (by decide)]; exact hB j hj
theorem mS_g {L n s : Nat} {σ τ : Sto} {S S' : Bool × Nat × Nat × Nat × Nat} {H g : Row} (h : mS L σ S n s H τ) (hs : sitM L S' g) (hg : gsn g (τ 49)) : mS L σ S' n s H (up1 τ 49 g) := by
  refine ⟨fun k h1 h2 => by rw [up1_n h1]; exact h.1 k h1 h2, fun j hj => ?_, by rw [up1_s]; exact hs, ?_, ?_, by rw [up1_n (by decide)]; exact h.2.2.2.2.2⟩
  · rw [up1_s, hg j (by omega)]; exact h.2.1 j hj
  · rw [up1_s, hg 16 (by omega)]; exact h.2.2.2.1
  · rw [up1_s, hg 17 (by omega)]; exact h.2.2.2.2.1
theorem mS_mst {L n s : Nat} {σ τ : Sto} {S : Bool × Nat × Nat × Nat × Nat} {H B : Row} (x : Bool) (hL : L ≤ 120) (hB : ∀ j, j < L → σ 54 j = B j) (hO : tOk B L S.2) (h : mS L σ S n s H τ) : ∃ τ', F_X5_must 49 (b2i x) τ = some ((), τ') ∧ mS L σ (mst B L x S) n s H τ' := by
  obtain ⟨g, e, h1, h2⟩ := M_mst x hL (mS_B h hB) hO h.2.2.1
  exact ⟨_, e, mS_g h h1 h2⟩
theorem mS_nbr {L n s m : Nat} {σ τ : Sto} {S : Bool × Nat × Nat × Nat × Nat} {H B : Row} (hm : m ≤ 1000) (hL : L ≤ 120) (hB : ∀ j, j < L → σ 54 j = B j) (hO : tOk B L S.2) (h : mS L σ S n s H τ) : ∃ v τ', F_X5_number 49 0 (nI m - 1) τ = some (v, τ') ∧ mS L σ (nbr B L m S) n s H τ' ∧ (isN S.2 m = true → v = nI S.2.2.2.2) := by
  obtain ⟨v, g, e, h1, h2, h3⟩ := M_nbr hm hL (mS_B h hB) hO h.2.2.1
  exact ⟨v, _, e, mS_g h h1 h2, h3⟩
theorem mS_prh {L n s q m : Nat} {σ τ : Sto} {S : Bool × Nat × Nat × Nat × Nat} {H B : Row} (d : Int32) (hq : q < 15) (hm : m ≤ 1000) (hL : L ≤ 120) (hB : ∀ j, j < L → σ 54 j = B j) (hO : tOk B L S.2) (h : mS L σ S n s H τ) : ∃ v τ', F_X5_perhaps 49 (100 + q) (nI m - 1) d τ = some (v, τ') ∧ mS L σ (prh B L q m S) n s H τ' ∧ ((prh B L q m S).1 = false → v = prV B L q d S) := by
  obtain ⟨v, g, e, h1, h2, h3⟩ := M_prh d hq hm hL (mS_B h hB) hO h.2.2.1
  exact ⟨v, _, e, mS_g h h1 h2, h3⟩
theorem mS_set {L n s j : Nat} {σ τ : Sto} {S : Bool × Nat × Nat × Nat × Nat} {H : Row} {v : Int32} (h : mS L σ S n s H τ) : mS L σ S n s (upd H j v) (up2 τ 56 j v) := by
  rw [up2_e]
  exact ⟨fun k h1 h2 => by rw [up1_n h2]; exact h.1 k h1 h2, fun j hj => by rw [up1_n (by decide)]; exact h.2.1 j hj, by rw [up1_n (by decide)]; exact h.2.2.1, by rw [up1_n (by decide)]; exact h.2.2.2.1, by rw [up1_n (by decide)]; exact h.2.2.2.2.1, by rw [up1_s, h.2.2.2.2.2]⟩
theorem sit_u {L : Nat} {S : Bool × Nat × Nat × Nat × Nat} {g g' : Row} (h : sitM L S g) (e : ∀ j, 8 ≤ j → j < 14 → g' j = g j) : sitM L S g' := ⟨tkM_u h.1 (fun j h1 h2 => e j h1 (by omega)), by rw [e 13 (by decide) (by decide)]; exact h.2⟩
theorem mS_17 {L n s : Nat} {σ τ : Sto} {S : Bool × Nat × Nat × Nat × Nat} {H : Row} (h : mS L σ S n s H τ) : mS L σ S n (s + 1) H (up2 τ 49 17 (nI (s + 1))) := by
  rw [up2_e]
  exact ⟨fun k h1 h2 => by rw [up1_n h1]; exact h.1 k h1 h2, fun j hj => by rw [up1_s, upd_n (by omega)]; exact h.2.1 j hj, by rw [up1_s]; exact sit_u h.2.2.1 (fun j h1 h2 => upd_n (by omega)), by rw [up1_s, upd_n (by decide)]; exact h.2.2.2.1, by rw [up1_s, upd_s], by rw [up1_n (by decide)]; exact h.2.2.2.2.2⟩
theorem mS_16 {L n n' s : Nat} {σ τ : Sto} {S : Bool × Nat × Nat × Nat × Nat} {H : Row} (h : mS L σ S n s H τ) : mS L σ S n' s H (up2 τ 49 16 (nI n')) := by
  rw [up2_e]
  exact ⟨fun k h1 h2 => by rw [up1_n h1]; exact h.1 k h1 h2, fun j hj => by rw [up1_s, upd_n (by omega)]; exact h.2.1 j hj, by rw [up1_s]; exact sit_u h.2.2.1 (fun j h1 h2 => upd_n (by omega)), by rw [up1_s, upd_s], by rw [up1_s, upd_n (by decide)]; exact h.2.2.2.2.1, by rw [up1_n (by decide)]; exact h.2.2.2.2.2⟩
theorem n7 (n : Nat) : 7 * nI n = nI (7 * n) := by
  show nI 7 * nI n = _
  rw [pk_mul]
theorem n7c (n c : Nat) : 7 * nI n + nI c = nI (7 * n + c) := by rw [n7, nI_add]
/-- rows that agree save at some places -/
theorem mS_adL {L n s : Nat} {σ : Sto} {S : Bool × Nat × Nat × Nat × Nat} (k v : Int32) (hn : n < 120) : ∀ d c q (τ : Sto) (H : Row), c + d = 7 → d < q → 1 ≤ c → mS L σ S n s H τ → ∃ τ' H', lo4 F_X5_addItem_b2 q 49 k v (nI c) τ = some ((), τ') ∧ mS L σ S (n + 1) s H' τ' ∧ H' (7 * n) = k ∧ H' (7 * n + 1) = v ∧ ∀ j, ¬ j = 7 * n → ¬ j = 7 * n + 1 → H' j = if 7 * n + c ≤ j ∧ j < 7 * n + 7 then -1 else H j := by
  intro d
  induction d with
  | zero =>
    intro c q τ H hc hq h1 h
    obtain ⟨q, rfl⟩ : ∃ x, q = x + 1 := ⟨q - 1, by omega⟩
    have e7 : c = 7 := by omega
    subst e7
    have r1 : ∀ x, (up2 τ 56 (7 * n) x) 49 = τ 49 := fun x => by rw [up2_e, up1_n (by decide)]
    have r2 : ∀ x y, (up2 (up2 τ 56 (7 * n) x) 56 (7 * n + 1) y) 49 = τ 49 := fun x y => by rw [up2_e, up1_n (by decide), r1]
    refine ⟨_, upd (upd H (7 * n) k) (7 * n + 1) v, ?_, mS_16 (mS_set (mS_set h)), ?_, upd_s _ _ _, fun j a1 a2 => ?_⟩
    · rw [lo4_s, F_X5_addItem_b2, if_pos (show (7 : Int32) ≤ nI 7 by decide), k49, ck_t, h.2.2.2.1, n7, inr_nI (by omega) (by decide), ck_t, lts_e, nI_clamp (by omega), r1, h.2.2.2.1, n7, show nI (7 * n) + 1 = nI (7 * n + 1) from nI_1 _, inr_nI (by omega) (by decide), ck_t, lts_e, nI_clamp (by omega), r2, h.2.2.2.1, lts_e, nI_1]
    · rw [upd_n (by omega), upd_s]
    · rw [upd_n a2, upd_n a1, if_neg (by omega)]
  | succ d ih =>
    intro c q τ H hc hq h1 h
    obtain ⟨q, rfl⟩ : ∃ x, q = x + 1 := ⟨q - 1, by omega⟩
    obtain ⟨τ', H', e', m', a', b', f'⟩ := ih (c + 1) q (up2 τ 56 (7 * n + c) (-1)) (upd H (7 * n + c) (-1)) (by omega) (by omega) (by omega) (mS_set h)
    refine ⟨τ', H', ?_, m', a', b', fun j a1 a2 => ?_⟩
    · rw [lo4_s, F_X5_addItem_b2, if_neg (show ¬ (7 : Int32) ≤ nI c from nI_lei (m := 7) (by omega) (by decide)), k49, ck_t, h.2.2.2.1, n7c, inr_nI (by omega) (by decide), ck_t, lts_e, nI_clamp (by omega), nI_1]
      exact e'
    · rw [f' j a1 a2, upd_i]
      by_cases x : j = 7 * n + c
      · rw [if_pos x, if_neg (by omega), if_pos (by omega)]
      · rw [if_neg x]
        by_cases y : 7 * n + c ≤ j ∧ j < 7 * n + 7
        · rw [if_pos (by omega), if_pos y]
        · rw [if_neg (by omega), if_neg y]
theorem mS_add {L n s k : Nat} {σ τ : Sto} {S : Bool × Nat × Nat × Nat × Nat} {H : Row} (v : Int32) (hn : n < 120) (h : mS L σ S n s H τ) : ∃ τ', F_X5_addItem 49 (nI k) v τ = some ((), τ') ∧ mS L σ S (n + 1) s (pti n (it1 k v) H) τ' := by
  obtain ⟨τ', H', e', m', a', b', f'⟩ := mS_adL (nI k) v hn 6 1 1000 τ H (by omega) (by omega) (by omega) h
  have eH : H' = pti n (it1 k v) H := by
    funext j
    unfold pti
    by_cases j0 : j = 7 * n
    · rw [j0, a', if_pos (by omega), Nat.sub_self]; rfl
    · by_cases j1 : j = 7 * n + 1
      · rw [j1, b', if_pos (by omega), show 7 * n + 1 - 7 * n = 1 by omega]; rfl
      · rw [f' j j0 j1]
        by_cases y : 7 * n + 1 ≤ j ∧ j < 7 * n + 7
        · rw [if_pos y, if_pos (by omega), it1_n k v (by omega)]
        · rw [if_neg y, if_neg (by omega)]
  rw [eH] at m'
  exact ⟨τ', e', m'⟩
theorem pti_u {n c : Nat} {it H : Row} {v : Int32} (hc : c < 7) : upd (pti n it H) (7 * n + c) v = pti n (upd it c v) H := by
  funext j
  rw [upd_i]
  unfold pti
  by_cases h : j = 7 * n + c
  · rw [if_pos h, if_pos (by omega), h, show 7 * n + c - 7 * n = c by omega, upd_s]
  · rw [if_neg h]
    by_cases h2 : 7 * n ≤ j ∧ j < 7 * n + 7
    · rw [if_pos h2, if_pos h2, upd_n (by omega)]
    · rw [if_neg h2, if_neg h2]
theorem M_rdS {σ τ : Sto} {B H : Row} {L s n i : Nat} {t : Nat × Nat × Nat × Nat} (hL : L ≤ 120) (hB : ∀ j, j < L → σ 54 j = B j) (hO : tOk B L t) (h8 : s ≤ 8) (hn : n < 120) (h : mS L σ (false, t) n s H τ) : ∃ τ' H', F_X5_readSitter 49 (nI i) τ = some ((), τ') ∧ mS L σ (trS B L s t 4) (n + 1) (s + 1) H' τ' ∧ ((trS B L s t 4).1 = false → H' = pti n (itS i (trV B L s t 0) (trV B L s t 1) (trV B L s t 2) (trV B L s t 3)) H) := by
  have oS := trS_ok (s := s) hO
  obtain ⟨τ1, e1, m1⟩ := mS_mst (decide (s < 8)) hL hB hO h
  obtain ⟨v1, τ2, e2, m2, w1⟩ := mS_prh (q := 7) (m := 91) 60 (by decide) (by decide) hL hB (oS 0).1 m1
  obtain ⟨τ3, e3, m3⟩ := mS_add (k := i) v1 hn m2
  obtain ⟨v2, τ4, e4, m4, w2⟩ := mS_prh (q := 8) (m := 10) 5 (by decide) (by decide) hL hB (oS 1).1 m3
  have m5 := mS_set (j := 7 * n + 2) (v := v2) m4
  obtain ⟨v3, τ6, e6, m6, w3⟩ := mS_prh (q := 9) (m := 10) 3 (by decide) (by decide) hL hB (oS 2).1 m5
  have m7 := mS_set (j := 7 * n + 3) (v := v3) m6
  obtain ⟨v4, τ8, e8, m8, w4⟩ := mS_prh (q := 10) (m := 1000) 20 (by decide) (by decide) hL hB (oS 3).1 m7
  have m9 := mS_set (j := 7 * n + 4) (v := v4) m8
  have m10 := mS_17 m9
  refine ⟨_, _, ?_, m10, fun hf => ?_⟩
  · have e0 : F_X5_readSitter 49 (nI i) τ = F_X5_readSitter_b15 49 (nI i) (b2i (decide (s < 8))) 49 τ := by
      rw [F_X5_readSitter, k49, ck_t, h.2.2.2.2.1]
      by_cases c : s < 8
      · rw [if_neg (show ¬ (8 : Int32) ≤ nI s from nI_lei (m := 8) c (by decide)), decide_eq_true c]; rfl
      · rw [if_pos (show (8 : Int32) ≤ nI s from (nI_leI (a := 8) (by decide) (by omega)).mpr (by omega)), decide_eq_false c]; rfl
    have e2' : F_X5_perhaps 49 107 90 60 τ1 = some (v1, τ2) := e2
    have e4' : F_X5_perhaps 49 108 9 5 τ3 = some (v2, τ4) := e4
    have e6' : F_X5_perhaps 49 109 9 3 (up2 τ4 56 (7 * n + 2) v2) = some (v3, τ6) := e6
    have e8' : F_X5_perhaps 49 110 999 20 (up2 τ6 56 (7 * n + 3) v3) = some (v4, τ8) := e8
    rw [e0, F_X5_readSitter_b15, k49, ck_t, e1, bnd_s, ck_t, e2', bnd_s, e3, bnd_s, lti_e, m3.2.2.2.1, nI_pred, n7, e4', bnd_s, show nI (7 * n) + 2 = nI (7 * n + 2) from nI_add _ 2, inr_nI (by omega) (by decide), ck_t, lts_e, nI_clamp (by omega), e6', bnd_s, show nI (7 * n) + 3 = nI (7 * n + 3) from nI_add _ 3, inr_nI (by omega) (by decide), ck_t, lts_e, nI_clamp (by omega), e8', bnd_s, show nI (7 * n) + 4 = nI (7 * n + 4) from nI_add _ 4, inr_nI (by omega) (by decide), ck_t, lts_e, nI_clamp (by omega), lts_e, m9.2.2.2.2.1, nI_1]
  · have f3 : (trS B L s t 3).1 = false := prh_f (B := B) (L := L) (q := 10) (s := 1000) hf
    have f2 : (trS B L s t 2).1 = false := prh_f (B := B) (L := L) (q := 9) (s := 10) f3
    have f1 : (trS B L s t 1).1 = false := prh_f (B := B) (L := L) (q := 8) (s := 10) f2
    rw [w1 f1, w2 f2, w3 f3, w4 hf, pti_u (by decide), pti_u (by decide), pti_u (by decide)]
    rfl
theorem M_kd {τ : Sto} {B : Row} {t : Nat × Nat × Nat × Nat} (hw : ∀ q, q < 15 → F_X5_isWord 49 (100 + q) τ = some (b2i (isWd B t q), τ)) : ∀ d j q acc, j + d = 7 → d < q → lo3 F_X5_kindTold_b4 q 49 acc (nI j) τ = some (ocase (lstU (fun q => isWd B t q) j d) acc (fun i => nI i), τ) := by
  intro d
  induction d with
  | zero =>
    intro j q acc hj hq
    obtain ⟨q, rfl⟩ : ∃ x, q = x + 1 := ⟨q - 1, by omega⟩
    have e : j = 7 := by omega
    subst e
    rw [lo3_s, F_X5_kindTold_b4, k49, ck_t, if_pos (by decide)]
    rfl
  | succ d ih =>
    intro j q acc hj hq
    obtain ⟨q, rfl⟩ : ∃ x, q = x + 1 := ⟨q - 1, by omega⟩
    rw [lo3_s, F_X5_kindTold_b4, k49, ck_t, if_neg (show ¬ (7 : Int32) ≤ nI j from nI_lei (m := 7) (by omega) (by decide)), inr_nI (by omega) (by decide), ck_t, nI_clamp (by omega), hw j (by omega), bnd_s, nI_1, ih (j + 1) q acc (by omega) (by omega), ih (j + 1) q (nI j) (by omega) (by omega), lstU]
    by_cases c : isWd B t j = true
    · rw [if_t c, if_pos c, oc_s]
      have en : lstU (fun q => isWd B t q) (j + 1) d = none := by
        cases el : lstU (fun q => isWd B t q) (j + 1) d with
        | none => rfl
        | some i =>
          have hi := lstU_1 _ _ _ el
          have := isWd_u (by omega) (by omega) c hi.2.2
          omega
      rw [en, oc_n]
    · rw [if_f (wi_f c), if_neg c]
theorem rq_f {σ : Sto} {B : Row} {L s n : Nat} (hL : L ≤ 120) (hB : ∀ j, j < L → σ 54 j = B j) (h8 : s ≤ 8) (hn : n < 120) : ∀ d p q (τ : Sto) t it (H : Row), p + d = 6 → 1 ≤ p → d + 1 < q → tOk B L t → mS L σ (false, t) (n + 1) s (pti n it H) τ → ∃ τ', lo3 F_X5_readQueue_b34 q 49 (nI (7 * n)) (nI p) τ = some ((), τ') ∧ mS L σ (rqT B L s d p t it).1 (n + 1) s (pti n (rqT B L s d p t it).2 H) τ' := by
  have sf : ∀ q p (τ : Sto) S H', S.1 = true → mS L σ S (n + 1) s H' τ → lo3 F_X5_readQueue_b34 (q + 1) 49 (nI (7 * n)) (nI p) τ = some ((), τ) := by
    intro q p τ S H' hS h
    rw [lo3_s, F_X5_readQueue_b34, k49, ck_t, h.2.2.1.2, if_t hS]
  have b76 : ∀ q p (τ : Sto) t H', tOk B L t → mS L σ (false, t) (n + 1) s H' τ → ∃ τ', F_X5_readQueue_b77 (lo3 F_X5_readQueue_b34 (q + 1)) 49 (nI (7 * n)) (nI p) 0 τ = some ((), τ') ∧ mS L σ (true, t) (n + 1) s H' τ' := by
    intro q p τ t H' hO h
    obtain ⟨τ1, e1, m1⟩ := mS_mst false hL hB (S := (false, t)) hO h
    have e1' : F_X5_must 49 0 τ = some ((), τ1) := e1
    have m1' : mS L σ (true, t) (n + 1) s H' τ1 := m1
    refine ⟨τ1, ?_, m1'⟩
    rw [F_X5_readQueue_b77, if_pos rfl, k49, ck_t, e1', bnd_s, nI_1, sf q (p + 1) τ1 _ _ rfl m1']
  intro d
  induction d with
  | zero =>
    intro p q τ t it H hp h1 hq hO h
    obtain ⟨q, rfl⟩ : ∃ x, q = x + 1 + 1 := ⟨q - 2, by omega⟩
    have e6 : p = 6 := by omega
    subst e6
    rw [rq_0]
    by_cases c : t.2.2.1 = 2
    · obtain ⟨τ', e', m'⟩ := b76 q 6 τ t _ hO h
      refine ⟨τ', ?_, by rw [decide_eq_true c]; exact m'⟩
      rw [lo3_s, F_X5_readQueue_b34, k49, ck_t, h.2.2.1.2, if_f rfl, h.2.2.1.1.2.2.2.1, if_pos (by rw [t4_2 hO.2.2.1]; exact c), if_pos (by decide), F_X5_readQueue_b76, e']
    · refine ⟨τ, ?_, by rw [decide_eq_false c]; exact h⟩
      rw [lo3_s, F_X5_readQueue_b34, k49, ck_t, h.2.2.1.2, if_f rfl, h.2.2.1.1.2.2.2.1, if_neg (by rw [t4_2 hO.2.2.1]; exact c)]
  | succ d ih =>
    intro p q τ t it H hp h1 hq hO h
    obtain ⟨q, rfl⟩ : ∃ x, q = x + 1 + 1 := ⟨q - 2, by omega⟩
    by_cases c : t.2.2.1 = 2
    · have s0 : lo3 F_X5_readQueue_b34 (q + 1 + 1) 49 (nI (7 * n)) (nI p) τ = if b2i (decide (t.2.2.2 < s)) = 0 then F_X5_readQueue_b77 (lo3 F_X5_readQueue_b34 (q + 1)) 49 (nI (7 * n)) (nI p) 0 τ else F_X5_readQueue_b77 (lo3 F_X5_readQueue_b34 (q + 1)) 49 (nI (7 * n)) (nI p) 1 τ := by
        rw [lo3_s, F_X5_readQueue_b34, k49, ck_t, h.2.2.1.2, if_f rfl, h.2.2.1.1.2.2.2.1, if_pos (by rw [t4_2 hO.2.2.1]; exact c), if_neg (show ¬ (6 : Int32) ≤ nI p from nI_lei (m := 6) (by omega) (by decide)), h.2.2.1.1.2.2.2.2 c, h.2.2.2.2.1, M_within, bnd_s, wi_N (by omega) hO.2.2.2.1, F_X5_readQueue_b76]
      by_cases cw : t.2.2.2 < s
      · have cn : isN t s = true := by unfold isN; rw [decide_eq_true c, decide_eq_true cw]; rfl
        have m1 := mS_set (j := 7 * n + (1 + p)) (v := nI t.2.2.2) h
        rw [pti_u (by omega)] at m1
        obtain ⟨τ2, e2, m2⟩ := mS_mst true hL hB (S := (false, t)) hO m1
        rw [mst_0] at m2
        have e2' : F_X5_must 49 1 (up2 τ 56 (7 * n + (1 + p)) (nI t.2.2.2)) = some ((), τ2) := e2
        obtain ⟨τ', e', m'⟩ := ih (p + 1) (q + 1) τ2 (tkn B L t.2.1) (upd it (1 + p) (nI t.2.2.2)) H (by omega) (by omega) (by omega) (tkn_t hO.2.1).1 m2
        refine ⟨τ', ?_, by rw [rq_1 cn]; exact m'⟩
        rw [s0, if_t (decide_eq_true cw), F_X5_readQueue_b77, if_neg (by decide), k49, ck_t, show nI (7 * n) + 1 + nI p = nI (7 * n + (1 + p)) by rw [nI_1, nI_add, Nat.add_assoc], inr_nI (by omega) (by decide), ck_t, lts_e, nI_clamp (by omega), h.2.2.1.1.2.2.2.2 c, e2', bnd_s, nI_1, e']
      · have cn : ¬ isN t s = true := fun e => cw (isN_w e).2
        obtain ⟨τ', e', m'⟩ := b76 q p τ t _ hO h
        refine ⟨τ', ?_, by rw [rq_2 cn, decide_eq_true c]; exact m'⟩
        rw [s0, if_f (decide_eq_false cw), e']
    · have cn : ¬ isN t s = true := fun e => c (isN_w e).1
      refine ⟨τ, ?_, by rw [rq_2 cn, decide_eq_false c]; exact h⟩
      rw [lo3_s, F_X5_readQueue_b34, k49, ck_t, h.2.2.1.2, if_f rfl, h.2.2.1.1.2.2.2.1, if_neg (by rw [t4_2 hO.2.2.1]; exact c)]
theorem M_rdQ {σ τ : Sto} {B H : Row} {L s n : Nat} {t : Nat × Nat × Nat × Nat} (hL : L ≤ 120) (hB : ∀ j, j < L → σ 54 j = B j) (hO : tOk B L t) (h8 : s ≤ 8) (hn : n < 120) (h : mS L σ (false, t) n s H τ) : ∃ τ' H', F_X5_readQueue 49 τ = some ((), τ') ∧ mS L σ (pQu B L s t).1 (n + 1) s H' τ' ∧ ((pQu B L s t).1.1 = false → H' = pti n (pQu B L s t).2 H) := by
  obtain ⟨τ1, e1, m1⟩ := mS_mst true hL hB (S := (false, t)) hO h
  have e1' : F_X5_must 49 1 τ = some ((), τ1) := e1
  rw [mst_0] at m1
  have o1 := (tkn_t (B := B) hO.2.1).1
  obtain ⟨v, τ2, e2, m2, w2⟩ := mS_nbr (m := s) (S := (false, tkn B L t.2.1)) (by omega) hL hB o1 m1
  obtain ⟨τ3, e3, m3⟩ := mS_add (k := 10) v hn m2
  have e3' : F_X5_addItem 49 10 v τ2 = some ((), τ3) := e3
  have s0 : F_X5_readQueue 49 τ = lo3 F_X5_readQueue_b34 1000 49 (nI (7 * n)) (nI 1) τ3 := by
    rw [F_X5_readQueue, k49, ck_t, e1', bnd_s, m1.2.2.2.2.1, e2, bnd_s, e3', bnd_s, lti_e, m3.2.2.2.1, nI_pred, n7]
    rfl
  unfold pQu
  rw [mst_0]
  have h2 := nbr_ok (s := s) o1
  by_cases cn : isN (tkn B L t.2.1) s = true
  · have en : nbr B L s (false, tkn B L t.2.1) = (false, tkn B L (tkn B L t.2.1).2.1) := by rw [nbr_0, if_pos cn]
    rw [w2 cn] at m3
    rw [en] at m3 h2 ⊢
    rw [if_neg (show ¬ false = true by decide)]
    obtain ⟨τ', e', m'⟩ := rq_f hL hB h8 hn 5 1 1000 τ3 _ (it1 10 (nI (tkn B L t.2.1).2.2.2)) H (by omega) (by omega) (by omega) h2.1 m3
    exact ⟨τ', _, by rw [s0, e'], m', fun _ => rfl⟩
  · have en : nbr B L s (false, tkn B L t.2.1) = (true, tkn B L t.2.1) := by rw [nbr_0, if_neg cn]
    rw [en] at m3 ⊢
    rw [if_pos (show true = true from rfl)]
    refine ⟨τ3, _, ?_, m3, fun hf => absurd (show true = false from hf) (by decide)⟩
    rw [s0, show (1000 : Nat) = 999 + 1 from rfl, lo3_s, F_X5_readQueue_b34, k49, ck_t, m3.2.2.1.2, if_t rfl]
theorem M_rdN {σ τ : Sto} {B H : Row} {L s n k m : Nat} {t : Nat × Nat × Nat × Nat} (hm : m ≤ 1000) (hL : L ≤ 120) (hB : ∀ j, j < L → σ 54 j = B j) (hO : tOk B L t) (hn : n < 120) (h : mS L σ (false, t) n s H τ) : ∃ τ' H', F_X5_readNumber 49 (nI k) (nI m - 1) τ = some ((), τ') ∧ mS L σ (pNu B L k m t).1 (n + 1) s H' τ' ∧ ((pNu B L k m t).1.1 = false → H' = pti n (pNu B L k m t).2 H) := by
  obtain ⟨τ1, e1, m1⟩ := mS_mst true hL hB (S := (false, t)) hO h
  have e1' : F_X5_must 49 1 τ = some ((), τ1) := e1
  rw [mst_0] at m1
  have o1 := (tkn_t (B := B) hO.2.1).1
  obtain ⟨v, τ2, e2, m2, w2⟩ := mS_nbr (m := m) (S := (false, tkn B L t.2.1)) hm hL hB o1 m1
  obtain ⟨τ3, e3, m3⟩ := mS_add (k := k) v hn m2
  unfold pNu
  rw [mst_0]
  refine ⟨τ3, _, ?_, m3, fun hf => ?_⟩
  · rw [F_X5_readNumber, k49, ck_t, e1', bnd_s, e2, bnd_s, e3, bnd_s]
  · by_cases cn : isN (tkn B L t.2.1) m = true
    · rw [w2 cn]
    · have hf' : (nbr B L m (false, tkn B L t.2.1)).1 = false := hf
      rw [nbr_0, if_neg cn] at hf'
      exact absurd (show true = false from hf') (by decide)
theorem M_rdI {σ τ : Sto} {B H : Row} {L s n : Nat} {t : Nat × Nat × Nat × Nat} (hL : L ≤ 120) (hB : ∀ j, j < L → σ 54 j = B j) (hO : tOk B L t) (h8 : s ≤ 8) (hn : n ≤ t.1) (h : mS L σ (false, t) n s H τ) : ∃ τ' n' s' H', F_X5_readItem 49 τ = some ((), τ') ∧ mS L σ (pIt B L s t).1.1 n' s' H' τ' ∧ ((pIt B L s t).1.1.1 = false → n' = n + 1 ∧ s' = (pIt B L s t).2 ∧ H' = pti n (pIt B L s t).1.2 H) := by
  have hw : ∀ q, q < 15 → F_X5_isWord 49 (100 + q) τ = some (b2i (isWd B t q), τ) := fun q hq => M_isWd hq hL (mS_B h hB) h.2.2.1.1 hO
  have ek : F_X5_kindTold 49 τ = _ := M_kd hw 7 0 1000 (-1) (by omega) (by omega)
  have n120 : t.2.2.1 = 1 → n < 120 := fun e => by have := hO.2.2.2.2.1 e; have := hO.2.1; omega
  rw [F_X5_readItem, k49, ck_t, ek, bnd_s]
  unfold pIt
  cases el : lstU (fun q => isWd B t q) 0 7 with
  | some i =>
    have hi := lstU_1 _ _ _ el
    rw [oc_s, oc_s, if_neg (nI_pos (by omega))]
    obtain ⟨τ', H', e', m', w'⟩ := M_rdS (i := i) hL hB hO h8 (n120 (isWd_1 hi.2.2)) h
    exact ⟨τ', n + 1, s + 1, H', by rw [e', bnd_s], m', fun hf => ⟨rfl, rfl, w' hf⟩⟩
  | none =>
    have w11 : F_X5_isWord 49 111 τ = _ := hw 11 (by decide)
    have w12 : F_X5_isWord 49 112 τ = _ := hw 12 (by decide)
    have w13 : F_X5_isWord 49 113 τ = _ := hw 13 (by decide)
    have w14 : F_X5_isWord 49 114 τ = _ := hw 14 (by decide)
    rw [oc_n, oc_n, if_pos (by decide), w11, bnd_s]
    by_cases c11 : isWd B t 11 = true
    · obtain ⟨τ', H', e', m', w'⟩ := M_rdQ hL hB hO h8 (n120 (isWd_1 c11)) h
      rw [if_t c11, if_pos c11]
      exact ⟨τ', n + 1, s, H', by rw [e', bnd_s], m', fun hf => ⟨rfl, rfl, w' hf⟩⟩
    · rw [if_f (wi_f c11), if_neg c11, w12, bnd_s]
      by_cases c12 : isWd B t 12 = true
      · obtain ⟨τ', H', e', m', w'⟩ := M_rdN (k := 11) (m := 61) (by decide) hL hB hO (n120 (isWd_1 c12)) h
        have e'' : F_X5_readNumber 49 11 60 τ = some ((), τ') := e'
        rw [if_t c12, if_pos c12]
        exact ⟨τ', n + 1, s, H', by rw [e'', bnd_s], m', fun hf => ⟨rfl, rfl, w' hf⟩⟩
      · rw [if_f (wi_f c12), if_neg c12, w13, bnd_s]
        by_cases c13 : isWd B t 13 = true
        · obtain ⟨τ', H', e', m', w'⟩ := M_rdN (k := 12) (m := 10) (by decide) hL hB hO (n120 (isWd_1 c13)) h
          have e'' : F_X5_readNumber 49 12 9 τ = some ((), τ') := e'
          rw [if_t c13, if_pos c13]
          exact ⟨τ', n + 1, s, H', by rw [e'', bnd_s], m', fun hf => ⟨rfl, rfl, w' hf⟩⟩
        · rw [if_f (wi_f c13), if_neg c13, w14, bnd_s]
          by_cases c14 : isWd B t 14 = true
          · obtain ⟨τ', H', e', m', w'⟩ := M_rdN (k := 13) (m := 21) (by decide) hL hB hO (n120 (isWd_1 c14)) h
            have e'' : F_X5_readNumber 49 13 20 τ = some ((), τ') := e'
            rw [if_t c14, if_pos c14]
            exact ⟨τ', n + 1, s, H', by rw [e'', bnd_s], m', fun hf => ⟨rfl, rfl, w' hf⟩⟩
          · rw [if_f (wi_f c14), if_neg c14]
            obtain ⟨τ', e', m'⟩ := mS_mst false hL hB (S := (false, t)) hO h
            have e'' : F_X5_must 49 0 τ = some ((), τ') := e'
            exact ⟨τ', n, s, H, by rw [e'', bnd_s], m', fun hf => absurd (show true = false from hf) (by decide)⟩

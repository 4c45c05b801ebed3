/-! PURE: the calls: text -/
theorem t4_0 {k : Nat} (h : k ≤ 4) : (nI (if k = 4 then 3 else k) = 0) = (k = 0) := by
  rcases (show k = 0 ∨ k = 1 ∨ k = 2 ∨ k = 3 ∨ k = 4 by omega) with rfl | rfl | rfl | rfl | rfl <;> decide +kernel
theorem t4_3 {k : Nat} (h : k ≤ 4) : (nI (if k = 4 then 3 else k) = 3) = (k = 3 ∨ k = 4) := by
  rcases (show k = 0 ∨ k = 1 ∨ k = 2 ∨ k = 3 ∨ k = 4 by omega) with rfl | rfl | rfl | rfl | rfl <;> decide +kernel
def fin0 (σ τ : Sto) : Prop := (∀ k, ¬ k = 49 → ¬ k = 56 → τ k = σ k) ∧ τ 49 3 = σ 49 3 ∧ τ 49 8 = 0
theorem M_74 {L n s : Nat} {σ τ : Sto} {S : Bool × Nat × Nat × Nat × Nat} {H B : Row} (hL : L ≤ 120) (hB : ∀ j, j < L → σ 54 j = B j) (hO : tOk B L S.2) (h : mS L σ S n s H τ) : ((S.1 = false ∧ S.2.2.2.1 = 0) → ∃ τ', F_X5_text_b74 49 τ = lo2 F_X5_text_b111 1000 49 0 τ' ∧ fin0 σ τ' ∧ τ' 49 16 = nI n ∧ τ' 56 = H) ∧ (¬ (S.1 = false ∧ S.2.2.2.1 = 0) → ∃ τ', F_X5_text_b74 49 τ = some (-1 - nI S.2.1, τ') ∧ fin0 σ τ') := by
  obtain ⟨τ1, e1, m1⟩ := mS_mst (decide (S.2.2.2.1 = 0)) hL hB hO h
  have s0 : F_X5_text_b74 49 τ = if (up2 τ1 49 8 0) 49 13 = 0 then lo2 F_X5_text_b111 1000 49 0 (up2 τ1 49 8 0) else some (-1 - (up2 τ1 49 8 0) 49 9, up2 τ1 49 8 0) := by
    have e87 : F_X5_text_b74 49 τ = F_X5_text_b87 49 (b2i (decide (S.2.2.2.1 = 0))) 49 τ := by
      rw [F_X5_text_b74, k49, ck_t, h.2.2.1.1.2.2.2.1]
      by_cases c : S.2.2.2.1 = 0
      · rw [if_pos (by rw [t4_0 hO.2.2.1]; exact c), decide_eq_true c]; rfl
      · rw [if_neg (by rw [t4_0 hO.2.2.1]; exact c), decide_eq_false c]; rfl
    rw [e87, F_X5_text_b87, k49, ck_t, e1, bnd_s, ck_t, lts_e]
  have r13 : (up2 τ1 49 8 0) 49 13 = b2i (mst B L (decide (S.2.2.2.1 = 0)) S).1 := by rw [up2_e, up1_s, upd_n (by decide)]; exact m1.2.2.1.2
  have r9 : (up2 τ1 49 8 0) 49 9 = nI (mst B L (decide (S.2.2.2.1 = 0)) S).2.1 := by rw [up2_e, up1_s, upd_n (by decide)]; exact m1.2.2.1.1.2.1
  have f0 : fin0 σ (up2 τ1 49 8 0) := ⟨fun k h1 h2 => by rw [up2_e, up1_n h1]; exact m1.1 k h1 h2, by rw [up2_e, up1_s, upd_n (by decide)]; exact m1.2.1 3 (by decide), by rw [up2_e, up1_s, upd_s]⟩
  rw [s0, r13, r9]
  refine ⟨fun hc => ?_, fun hc => ?_⟩
  · have em : (mst B L (decide (S.2.2.2.1 = 0)) S).1 = false := by unfold mst; rw [if_neg (by rw [hc.1]; decide), decide_eq_true hc.2, if_pos rfl]
    rw [if_f em]
    exact ⟨_, rfl, f0, by rw [up2_e, up1_s, upd_n (by decide)]; exact m1.2.2.2.1, by rw [up2_e, up1_n (by decide)]; exact m1.2.2.2.2.2⟩
  · have em : mst B L (decide (S.2.2.2.1 = 0)) S = (true, S.2) := by
      unfold mst
      by_cases c : S.1 = true
      · rw [if_pos c]
      · rw [if_neg c, decide_eq_false (fun e => hc ⟨wi_f c, e⟩), if_neg (by decide)]
    rw [em, if_t (show true = true from rfl)]
    exact ⟨_, rfl, f0⟩
theorem M_rdT {σ : Sto} {B : Row} {L : Nat} (hL : L ≤ 120) (hB : ∀ j, j < L → σ 54 j = B j) : ∀ d n s t H (τ : Sto) q, n + d = 120 → d < q → n ≤ t.1 → tOk B L t → s ≤ 8 → mS L σ (false, t) n s H τ → ((pTx B L d t s n H).1 = true → ∃ τ', bnd (F_X5_readItem 49 τ) (fun _ τ' => lo1 F_X5_text_b33 q 49 τ') = lo2 F_X5_text_b111 1000 49 0 τ' ∧ fin0 σ τ' ∧ τ' 49 16 = nI (pTx B L d t s n H).2.1 ∧ τ' 56 = (pTx B L d t s n H).2.2.1) ∧ ((pTx B L d t s n H).1 = false → ∃ τ', bnd (F_X5_readItem 49 τ) (fun _ τ' => lo1 F_X5_text_b33 q 49 τ') = some (-1 - nI (pTx B L d t s n H).2.1, τ') ∧ fin0 σ τ') := by
  intro d
  induction d with
  | zero =>
    intro n s t H τ q hn hq hnt hO h8 h
    obtain ⟨q, rfl⟩ : ∃ x, q = x + 1 := ⟨q - 1, by omega⟩
    refine ⟨fun hf => absurd (show false = true from hf) (by decide), fun _ => ?_⟩
    obtain ⟨τ1, n', s', H', e1, m1, -⟩ := M_rdI hL hB hO h8 hnt h
    have hk : ¬ t.2.2.1 = 1 := fun e => by have := hO.2.2.2.2.1 e; have := hO.2.1; omega
    rw [pIt_w hk] at m1
    obtain ⟨τ2, e2, f2⟩ := (M_74 hL hB hO m1).2 (fun z => absurd (show true = false from z.1) (by decide))
    refine ⟨τ2, ?_, f2⟩
    rw [e1, bnd_s, lo1_s, F_X5_text_b33, k49, ck_t, m1.2.2.1.2, if_t rfl, e2]
    rfl
  | succ d ih =>
    intro n s t H τ q hn hq hnt hO h8 h
    obtain ⟨q, rfl⟩ : ∃ x, q = x + 1 := ⟨q - 1, by omega⟩
    obtain ⟨τ1, n', s', H', e1, m1, w1⟩ := M_rdI hL hB hO h8 hnt h
    have p := pIt_ok hO h8
    have A := M_74 hL hB p.1 m1
    rw [e1, bnd_s, lo1_s, F_X5_text_b33, k49, ck_t, m1.2.2.1.2, pTx]
    by_cases c : (pIt B L s t).1.1.1 = true
    · rw [if_t c, if_pos c]
      exact ⟨fun hf => absurd (show false = true from hf) (by decide), fun _ => A.2 (fun z => by rw [c] at z; exact absurd z.1 (by decide))⟩
    · obtain ⟨p1, p2, p3, p4⟩ := p.2 (wi_f c)
      obtain ⟨rfl, rfl, rfl⟩ := w1 (wi_f c)
      rw [if_f (wi_f c), if_neg c, m1.2.2.1.1.2.2.2.1]
      by_cases c34 : (pIt B L s t).1.1.2.2.2.1 = 3 ∨ (pIt B L s t).1.1.2.2.2.1 = 4
      · obtain ⟨b1, b2⟩ := p.1.2.2.2.2.2 c34
        rw [if_pos (show nI (if (pIt B L s t).1.1.2.2.2.1 = 4 then 3 else (pIt B L s t).1.1.2.2.2.1) = 3 by rw [t4_3 p.1.2.2.1]; exact c34), m1.2.2.1.1.2.1, inr_nI (show (pIt B L s t).1.1.2.1 < 120 by omega) (by decide), ck_t, nI_clamp (show (pIt B L s t).1.1.2.1 < 2 ^ 31 by omega), mS_B m1 hB _ b1, if_neg (show ¬ (pIt B L s t).1.1.2.2.2.1 = 0 by omega)]
        by_cases c3 : (pIt B L s t).1.1.2.2.2.1 = 3
        · rw [if_pos (b2.mp c3), if_pos c3]
          have em : (pIt B L s t).1.1 = (false, (pIt B L s t).1.1.2) := by rw [← wi_f c]
          obtain ⟨τ2, e2, m2⟩ := mS_mst true hL hB p.1 m1
          have e2' : F_X5_must 49 1 τ1 = some ((), τ2) := e2
          rw [em, mst_0] at m2
          rw [e2', bnd_s]
          have t2 := tkn_t (B := B) p.1.2.1
          have hw : t.1 < t.2.1 := hO.2.2.2.2.1 p2
          have p11 := p.1.1
          exact ih (n + 1) _ (tkn B L (pIt B L s t).1.1.2.2.1) _ τ2 q (by omega) (by omega) (by have := t2.2; omega) t2.1 p4 m2
        · rw [if_neg (fun z => c3 (b2.mpr z)), if_neg c3]
          exact ⟨fun hf => absurd (show false = true from hf) (by decide), fun _ => A.2 (fun z => by omega)⟩
      · rw [if_neg (show ¬ nI (if (pIt B L s t).1.1.2.2.2.1 = 4 then 3 else (pIt B L s t).1.1.2.2.2.1) = 3 by rw [t4_3 p.1.2.2.1]; exact c34)]
        by_cases c0 : (pIt B L s t).1.1.2.2.2.1 = 0
        · rw [if_pos c0]
          exact ⟨fun _ => A.1 ⟨wi_f c, c0⟩, fun hf => absurd (show true = false from hf) (by decide)⟩
        · rw [if_neg c0, if_neg (fun z => c34 (Or.inl z))]
          exact ⟨fun hf => absurd (show false = true from hf) (by decide), fun _ => A.2 (fun z => c0 z.2)⟩
/-! the reference applies the items -/
def qzp (p : Nat) (it a : Row) : Row := fun j => if 17 ≤ j ∧ j < 17 + p ∧ 0 ≤ it (j - 16) then it (j - 16) else a j
theorem qzp_1 {p : Nat} {it a : Row} : qzp (p + 1) it a = if 0 ≤ it (1 + p) then upd (qzp p it a) (17 + p) (it (1 + p)) else qzp p it a := by
  funext j
  have e16 : 17 + p - 16 = 1 + p := by omega
  by_cases c : 0 ≤ it (1 + p)
  · rw [if_pos c, upd_i]
    unfold qzp
    by_cases h : j = 17 + p
    · subst h
      rw [if_pos ⟨by omega, by omega, by rw [e16]; exact c⟩, if_pos rfl, e16]
    · rw [if_neg h]
      by_cases h2 : 17 ≤ j ∧ j < 17 + p ∧ 0 ≤ it (j - 16)
      · rw [if_pos h2, if_pos ⟨h2.1, by omega, h2.2.2⟩]
      · rw [if_neg h2, if_neg (fun z => h2 ⟨z.1, by omega, z.2.2⟩)]
  · rw [if_neg c]
    unfold qzp
    by_cases h2 : 17 ≤ j ∧ j < 17 + p ∧ 0 ≤ it (j - 16)
    · rw [if_pos h2, if_pos ⟨h2.1, by omega, h2.2.2⟩]
    · rw [if_neg h2, if_neg (fun z => by
        by_cases h : j = 17 + p
        · subst h; rw [e16] at z; exact c z.2.2
        · exact h2 ⟨z.1, by omega, z.2.2⟩)]
theorem up1_id (σ : Sto) (k : Nat) : up1 σ k (σ k) = σ := up1_same rfl
theorem M_tq {σ : Sto} {j : Nat} (hj : j < 120) (a : Row) : ∀ d p q, p + d = 6 → d < q → lo4 F_X5_isToldSo_b34 q 49 (nI (7 * j)) 10 (nI p) (up1 σ 50 (qzp p (itH (σ 56) j) a)) = some ((), up1 σ 50 (qzp 6 (itH (σ 56) j) a)) := by
  intro d
  induction d with
  | zero =>
    intro p q hp hq
    obtain ⟨q, rfl⟩ : ∃ x, q = x + 1 := ⟨q - 1, by omega⟩
    have e : p = 6 := by omega
    subst e
    rw [lo4_s, F_X5_isToldSo_b34, if_pos (by decide), F_X5_isToldSo_b96, if_pos (by decide)]
  | succ d ih =>
    intro p q hp hq
    obtain ⟨q, rfl⟩ : ∃ x, q = x + 1 := ⟨q - 1, by omega⟩
    have ix : nI (7 * j) + 1 + nI p = nI (7 * j + (1 + p)) := by rw [nI_1, nI_add, Nat.add_assoc]
    have i17 : (17 : Int32) + nI p = nI (17 + p) := nI_add 17 p
    have r56 : (up1 σ 50 (qzp p (itH (σ 56) j) a)) 56 (7 * j + (1 + p)) = itH (σ 56) j (1 + p) := by rw [up1_n (by decide)]; rfl
    rw [lo4_s, F_X5_isToldSo_b34, if_neg (show ¬ (6 : Int32) ≤ nI p from nI_lei (m := 6) (by omega) (by decide)), if_pos rfl, k49, ck_t, ix, inr_nI (by omega) (by decide), ck_t, nI_clamp (by omega), r56, ck_t, i17, inr_nI (by omega) (by decide), ck_t, ck_t, nI_clamp (by omega), lts_e, lts_e, nI_1, up2_up1, up2_up1, up1_s, upd_same rfl]
    by_cases c : 0 ≤ itH (σ 56) j (1 + p)
    · rw [if_pos c, ← ih (p + 1) q (by omega) (by omega), qzp_1, if_pos c]
    · rw [if_neg c, ← ih (p + 1) q (by omega) (by omega), qzp_1, if_neg c, ck_t]
theorem M_told {T s s' j : Nat} {σ : Sto} (hj : j < 120) (v : vIt s (itH (σ 56) j) s') (hR : okR T s (σ 50)) : F_X5_isToldSo 49 (nI (7 * j)) σ = some ((), up1 σ 50 (apI (itH (σ 56) j) (σ 50))) := by
  have i0 : σ 56 (7 * j) = itH (σ 56) j 0 := rfl
  have i1 : σ 56 (7 * j + 1) = itH (σ 56) j 1 := rfl
  have i2 : σ 56 (7 * j + 2) = itH (σ 56) j 2 := rfl
  have i3 : σ 56 (7 * j + 3) = itH (σ 56) j 3 := rfl
  have i4 : σ 56 (7 * j + 4) = itH (σ 56) j 4 := rfl
  rw [F_X5_isToldSo, k49, ck_t, inr_nI (show 7 * j < 840 by omega) (by decide), ck_t, lti_e, nI_clamp (show 7 * j < 2 ^ 31 by omega), i0]
  rcases v with ⟨k, hk, e, h8, rfl⟩ | ⟨e, rfl, q⟩ | ⟨k, hk, e, rfl⟩
  · rw [apI_K hk e h8 hR.2.1, e, if_pos (show nI k < 11 from (nI_ltI (b := 11) (by omega) (by decide)).mpr (by omega)), show (1000 : Nat) = 999 + 1 from rfl, lo4_s, F_X5_isToldSo_b34, if_neg (by decide), if_neg (show ¬ nI k = 10 from fun z => by have := (nI_eq (b := 10) (by omega) (by decide)).mp z; omega), F_X5_isToldSo_b96, if_neg (show ¬ (10 : Int32) ≤ nI k from nI_lei (m := 10) (by omega) (by decide)), k49, ck_t, show nI (7 * j) + 1 = nI (7 * j + 1) from nI_add _ 1, show nI (7 * j) + 2 = nI (7 * j + 2) from nI_add _ 2, show nI (7 * j) + 3 = nI (7 * j + 3) from nI_add _ 3, show nI (7 * j) + 4 = nI (7 * j + 4) from nI_add _ 4, inr_nI (by omega) (by decide), ck_t, inr_nI (by omega) (by decide), ck_t, inr_nI (by omega) (by decide), ck_t, inr_nI (by omega) (by decide), ck_t, nI_clamp (by omega), nI_clamp (by omega), nI_clamp (by omega), nI_clamp (by omega), M_comes h8 σ hR.2.1, bnd_s]
    rfl
  · have h := M_tq (σ := σ) hj (σ 50) 6 0 1000 (by omega) (by omega)
    have z0 : qzp 0 (itH (σ 56) j) (σ 50) = σ 50 := by
      funext x
      unfold qzp
      rw [if_neg (fun z => by omega)]
    rw [z0, up1_id] at h
    rw [apI_Q e, e, if_pos (by decide)]
    exact h
  · rw [apI_N hk e, e, if_neg (show ¬ nI (11 + k) < 11 from fun z => by have := (nI_ltI (b := 11) (by omega) (by decide)).mp z; omega), show nI (7 * j) + 1 = nI (7 * j + 1) from nI_add _ 1, inr_nI (by omega) (by decide), ck_t, show (3 : Int32) + nI (11 + k) - 11 = nI (3 + k) by rw [show (3 : Int32) + nI (11 + k) = nI (3 + (11 + k)) from nI_add 3 _]; exact (nI_sb (b := 11) (by omega)).trans (by rw [show 3 + (11 + k) - 11 = 3 + k by omega]), inr_nI (by omega) (by decide), ck_t, lts_e, nI_clamp (by omega), nI_clamp (by omega), i1, up2_e, show (1000 : Nat) = 999 + 1 from rfl, lo4_s, F_X5_isToldSo_b34, if_neg (by decide), if_neg (show ¬ nI (11 + k) = 10 from fun z => by have := (nI_eq (b := 10) (by omega) (by decide)).mp z; omega), F_X5_isToldSo_b96, if_pos (show (10 : Int32) ≤ nI (11 + k) from (nI_leI (a := 10) (by decide) (by omega)).mpr (by omega))]
theorem M_tlL {N : Nat} (hN : N ≤ 120) (H : Row) : ∀ d j q T s s' (τ : Sto), j + d = N → d < q → τ 49 16 = nI N → τ 56 = H → vSq H d j s s' → okR T s (τ 50) → okS s (τ 50) → lo2 F_X5_text_b111 q 49 (nI j) τ = some (nI N, up1 τ 50 (apH H d j (τ 50))) := by
  intro d
  induction d with
  | zero =>
    intro j q T s s' τ hj hq h16 hH v hR hS
    obtain ⟨q, rfl⟩ : ∃ x, q = x + 1 := ⟨q - 1, by omega⟩
    rw [lo2_s, F_X5_text_b111, k49, ck_t, h16, if_pos ((nI_leI (by omega) (by omega)).mpr (by omega)), apH, up1_id]
  | succ d ih =>
    intro j q T s s' τ hj hq h16 hH v hR hS
    obtain ⟨q, rfl⟩ : ∃ x, q = x + 1 := ⟨q - 1, by omega⟩
    obtain ⟨s1, v1, v2⟩ := v
    have et := M_told (σ := τ) (j := j) (by omega) (by rw [hH]; exact v1) hR
    rw [hH] at et
    have ok := ok_apI v1 hR hS
    rw [lo2_s, F_X5_text_b111, k49, ck_t, h16, if_neg (nI_lei (by omega) (by omega)), n7, et, bnd_s, nI_1, ih (j + 1) q T s1 s' (up1 τ 50 (apI (itH H j) (τ 50))) (by omega) (by omega) (by rw [up1_n (by decide)]; exact h16) (by rw [up1_n (by decide)]; exact hH) v2 (by rw [up1_s]; exact ok.1) (by rw [up1_s]; exact ok.2), up1_s, up1_t, apH]
/-! the call -/
theorem Rel_txt {K : Nat} {σ τ : Sto} (h : Rel K σ) (o : ∀ k, ¬ (1 ≤ k ∧ k < 25) → ¬ k = 37 → ¬ k = 38 → ¬ k = 49 → ¬ k = 50 → ¬ k = 52 → ¬ k = 56 → ¬ k = 60 → τ k = σ k) (h3 : τ 49 3 = σ 49 3) (h37 : τ 37 1 = 0) (h8 : τ 49 8 = 0) (n : ∃ m, okR (100 * (K + 1)) m (V 1 τ) ∧ agr m (V 1 τ) (τ 50) ∧ okS m (V 1 τ)) : Rel (K + 1) τ := by
  obtain ⟨⟨-, hk⟩, -, hS, hF⟩ := h
  have v25 : V 25 τ = V 25 σ := V_eq fun k a b => o k (by omega) (by omega) (by omega) (by omega) (by omega) (by omega) (by omega) (by omega)
  refine ⟨⟨n, ?_⟩, ⟨0, by omega, h37, h8, fun j hj => absurd hj (by omega)⟩, fun s hs => ?_, ?_⟩
  · rw [v25, o 0 (by omega) (by omega) (by omega) (by omega) (by omega) (by omega) (by omega) (by omega), h3, o 51 (by omega) (by omega) (by omega) (by omega) (by omega) (by omega) (by omega) (by omega)]
    rcases hk with hk | ⟨a, b, m', h4, h5⟩
    · exact Or.inl hk
    · exact Or.inr ⟨a, b, m', okR_mono h4 (by omega), h5⟩
  · rw [o (40 + 2 * s) (by omega) (by omega) (by omega) (by omega) (by omega) (by omega) (by omega) (by omega), o (40 + 2 * s + 1) (by omega) (by omega) (by omega) (by omega) (by omega) (by omega) (by omega) (by omega), o 57 (by omega) (by omega) (by omega) (by omega) (by omega) (by omega) (by omega) (by omega), o 58 (by omega) (by omega) (by omega) (by omega) (by omega) (by omega) (by omega) (by omega), o 59 (by omega) (by omega) (by omega) (by omega) (by omega) (by omega) (by omega) (by omega)]
    exact hS s hs
  · unfold RelF
    rw [o 48 (by omega) (by omega) (by omega) (by omega) (by omega) (by omega) (by omega) (by omega), o 53 (by omega) (by omega) (by omega) (by omega) (by omega) (by omega) (by omega) (by omega)]
    exact hF
theorem op_text : Op (F_X4_text 0) (F_X5_text 49) := by
  intro K σ hK h
  obtain ⟨⟨⟨m, h1, h2, h4⟩, hk⟩, ⟨L, hL, t1, t2, t3⟩, hS, hF⟩ := id h
  have h8 := h1.1
  obtain ⟨B, hB⟩ : ∃ B, B = σ 38 := ⟨_, rfl⟩
  obtain ⟨R, hR⟩ : ∃ R, R = pTx B L 120 (tkn B L 0) m 0 (σ 56) := ⟨_, rfl⟩
  have o0 := (tkn_t (B := B) (Nat.zero_le L)).1
  -- the class
  obtain ⟨σ1, e1, a1, f1⟩ := C_become k13 k1 (by decide) h8 σ h1.2.1
  have ok1 := okR_agr (agr_s a1) h1
  have oS1 : okS m (V 13 σ1) := okS_agr (agr_s a1) h4
  have b1 : (up2 σ1 37 3 0) 38 = B := by rw [up2_e, up1_n (by decide), f1 38 (by omega), hB]
  have n1 : (up2 σ1 37 3 0) 37 1 = nI L := by rw [up2_e, up1_s, upd_n (by decide), f1 37 (by omega)]; exact t1
  obtain ⟨g, eg, tg⟩ := C_tok (σ := up2 σ1 37 3 0) (e := 0) hL n1 (by omega) (by rw [up2_e, up1_s, upd_s]; rfl)
  rw [b1] at tg
  obtain ⟨σ2, hσ2⟩ : ∃ x, x = up1 (up2 σ1 37 3 0) 37 g := ⟨_, rfl⟩
  rw [← hσ2] at eg
  have q2 : cq σ1 σ2 := ⟨fun k _ hk => by rw [hσ2, up1_n hk, up2_e, up1_n hk], by rw [hσ2, up1_s, tg.1, f1 37 (by omega)]; exact t1.symm⟩
  have v2 : V 13 σ2 = V 13 σ1 := by rw [hσ2, V13_37, up2_e, V13_37]
  obtain ⟨z, σ3, e3, q3, w3, w4⟩ := C_rdT (B := B) hL (V 13 σ1) 120 0 m (tkn B L 0) (σ 56) σ2 1000 (by omega) (by omega) (by rw [hσ2, up1_n (by decide)]; exact b1) (by rw [hσ2, up1_s]; exact tg) o0 h8 (by rw [v2]; exact ok1.2.1) v2
  rw [← hR] at w3 w4
  have e3' : lo3 F_X3_readInto_b11 1000 37 13 0 σ2 = some (z, σ3) := e3
  have er : F_X3_readInto 37 13 σ1 = some (z, σ3) := by rw [F_X3_readInto, k373, ck_t, lts_e, eg, bnd_s, e3']
  have q03 : cq σ σ3 := cq_t (cq_fr f1) (cq_t q2 q3)
  have ec : F_X4_text 0 σ = if z < 0 then some (z, up2 σ3 37 1 0) else bnd (F_X0_become 1 13 σ3) (fun _ σ4 => some (z, up2 σ4 37 1 0)) := by
    rw [F_X4_text, k04, ck_t, e1, bnd_s, er, bnd_s, lts_e]
    rfl
  -- the reference
  have em : ∀ τ : Sto, (∀ k, 49 ≤ k → τ k = σ k) → ∃ τ1, mS L τ (false, tkn B L 0) 0 m (σ 56) τ1 ∧ F_X5_text 49 τ = bnd (F_X5_readItem 49 τ1) (fun _ τ' => lo1 F_X5_text_b33 1000 49 τ') := by
    intro τ hτ
    obtain ⟨g0, hg0⟩ : ∃ x, x = upd (upd (upd (upd (τ 49) 10 0) 13 0) 16 0) 17 (nI m) := ⟨_, rfl⟩
    have m50 : τ 50 1 = nI m := m1of h1 (mrow h2 hτ)
    obtain ⟨g', eg', tg', jg'⟩ := M_tok (σ := τ) (B := B) (g := g0) (e := 0) hL (fun j hj => by rw [hτ 54 (by decide), hB]; exact (t3 j hj).symm) (by rw [hg0, upd_n (by decide), upd_n (by decide), upd_n (by decide), upd_n (by decide), hτ 49 (by decide)]; exact t2) (by omega) (by rw [hg0, upd_n (by decide), upd_n (by decide), upd_n (by decide), upd_s]; rfl)
    have j' : ∀ j, ¬ (9 ≤ j ∧ j < 13) → g' j = g0 j := fun j hj => jg' j (by omega) (by omega) (by omega) (by omega)
    refine ⟨up1 τ 49 g', ⟨fun k a b => up1_n a, fun j hj => ?_, ?_, ?_, ?_, ?_⟩, ?_⟩
    · rw [up1_s, j' j (by omega), hg0, upd_n (by omega), upd_n (by omega), upd_n (by omega), upd_n (by omega)]
    · rw [up1_s]; exact ⟨tg', by rw [j' 13 (by omega), hg0, upd_n (by decide), upd_n (by decide), upd_s]; rfl⟩
    · rw [up1_s, j' 16 (by omega), hg0, upd_n (by decide), upd_s]; rfl
    · rw [up1_s, j' 17 (by omega), hg0, upd_s]
    · rw [up1_n (by decide), hτ 56 (by decide)]
    · rw [F_X5_text, k49, ck_t, lts_e, lts_e, lts_e, lts_e, up2_e τ, up2_up1, up2_up1, up1_n (show ¬ 50 = 49 by decide), m50, up2_up1, ← hg0, eg', bnd_s]
  by_cases c : R.1 = true
  · -- it is taken
    obtain ⟨hz, hv⟩ := w3 c
    have pv := pTx_v (B := B) (L := L) (s0 := m) 120 (tkn B L 0) m 0 (σ 56) o0 h8 rfl (by rw [← hR]; exact c)
    rw [← hR] at pv
    obtain ⟨vs, hn⟩ := pv
    have okA := ok_apH R.2.1 0 m R.2.2.2 _ vs h1 h4
    have ok3 := ok_apH R.2.1 0 m R.2.2.2 _ vs ok1 oS1
    have ag3 := agr_apH R.2.1 0 m R.2.2.2 _ _ vs ok1 oS1 a1
    rw [← hv] at ok3 ag3
    obtain ⟨σ4, e4, a4, f4⟩ := C_become k1 k13 (by decide) ok3.1.1 σ3 ok3.1.2.1
    have oS4 : ∀ k, ¬ (1 ≤ k ∧ k < 25) → ¬ k = 37 → σ4 k = σ k := fun k h1 h37 => by rw [f4 k (by omega)]; exact q03.1 k (by omega) h37
    have ec' : F_X4_text 0 σ = some (nI R.2.1, up2 σ4 37 1 0) := by
      rw [ec, hz, if_neg (nI_pos (by omega)), e4, bnd_s]
    obtain ⟨σ5, hσ5⟩ : ∃ x, x = up2 σ4 37 1 0 := ⟨_, rfl⟩
    have o5 : ∀ k, ¬ (1 ≤ k ∧ k < 25) → ¬ k = 37 → σ5 k = σ k := fun k h1 h37 => by rw [hσ5, up2_e, up1_n h37]; exact oS4 k h1 h37
    have v5 : V 1 σ5 = V 1 σ4 := V_eq fun k _ _ => by rw [hσ5, up2_e, up1_n (by omega)]
    obtain ⟨τ1, m1, et1⟩ := em σ5 (fun k hk => o5 k (by omega) (by omega))
    have A := M_rdT (σ := σ5) (B := B) hL (fun j hj => by rw [o5 54 (by omega) (by omega), hB]; exact (t3 j hj).symm) 120 0 m (tkn B L 0) (σ 56) τ1 1000 (by omega) (by omega) (by omega) o0 h8 m1
    rw [← hR] at A
    obtain ⟨τ2, e2, fi, h16, hH⟩ := A.1 c
    have r50 : τ2 50 = σ 50 := by rw [fi.1 50 (by decide) (by decide)]; exact o5 50 (by omega) (by omega)
    have el := M_tlL (N := R.2.1) (by omega) R.2.2.1 R.2.1 0 1000 (100 * K) m R.2.2.2 τ2 (by omega) (by omega) h16 hH vs (by rw [r50]; exact okR_agr h2 h1) (by rw [r50]; exact okS_agr h2 h4)
    have el' : lo2 F_X5_text_b111 1000 49 0 τ2 = some (nI R.2.1, up1 τ2 50 (apH R.2.2.1 R.2.1 0 (τ2 50))) := el
    refine ⟨nI R.2.1, σ5, up1 τ2 50 (apH R.2.2.1 R.2.1 0 (τ2 50)), by rw [ec', hσ5], by rw [et1, e2, el'], ?_⟩
    have agF : agr R.2.2.2 (V 1 σ5) (apH R.2.2.1 R.2.1 0 (σ 50)) := by
      rw [v5]
      exact agr_t a4 (agr_t ag3 (agr_apH R.2.1 0 m R.2.2.2 _ _ vs h1 h4 h2))
    have vF : V 1 (up1 τ2 50 (apH R.2.2.1 R.2.1 0 (τ2 50))) = V 1 σ5 := V_eq fun k a b => by rw [up1_n (by omega)]; exact fi.1 k (by omega) (by omega)
    have agC : agr R.2.2.2 (V 13 σ3) (V 1 σ5) := by rw [v5]; exact agr_s a4
    refine Rel_txt h (fun k b1 b2 b3 b4 b5 b6 b7 b8 => ?_) ?_ ?_ ?_ ⟨R.2.2.2, ?_, ?_, ?_⟩
    · rw [up1_n b5, fi.1 k b4 b7]; exact o5 k b1 b2
    · rw [up1_n (by decide), fi.2.1, o5 49 (by omega) (by omega)]
    · rw [up1_n (by decide), fi.1 37 (by decide) (by decide), hσ5, up2_e, up1_s, upd_s]
    · rw [up1_n (by decide)]; exact fi.2.2
    · rw [vF]; exact okR_mono (okR_agr agC ok3.1) (by omega)
    · rw [vF, up1_s, r50]; exact agF
    · rw [vF]; exact okS_agr agC ok3.2
  · -- a fault
    have hz := w4 (wi_f c)
    have hb : R.2.1 ≤ 120 := by
      rw [hR]
      have key : ∀ d t s n H, tOk B L t → s ≤ 8 → (pTx B L d t s n H).1 = false → (pTx B L d t s n H).2.1 ≤ 120 := by
        intro d
        induction d with
        | zero => intro t s n H hO _ _; show t.1 ≤ 120; have := hO.1; have := hO.2.1; omega
        | succ d ih =>
          intro t s n H hO hs hf
          have p := pIt_ok hO hs
          have pb : (pIt B L s t).1.1.2.1 ≤ 120 := by have := p.1.1; have := p.1.2.1; omega
          rw [pTx] at hf ⊢
          by_cases c1 : (pIt B L s t).1.1.1 = true
          · rw [if_pos c1]; exact pb
          · rw [if_neg c1] at hf ⊢
            by_cases c2 : (pIt B L s t).1.1.2.2.2.1 = 0
            · rw [if_pos c2] at hf; exact absurd (show true = false from hf) (by decide)
            · rw [if_neg c2] at hf ⊢
              by_cases c3 : (pIt B L s t).1.1.2.2.2.1 = 3
              · rw [if_pos c3] at hf ⊢
                exact ih _ _ _ _ (tkn_t p.1.2.1).1 (p.2 (wi_f c1)).2.2.2 hf
              · rw [if_neg c3]; exact pb
      exact key _ _ _ _ _ o0 h8 (by rw [← hR]; exact wi_f c)
    have zneg : z < 0 := by
      rw [hz, Int32.lt_iff_toInt_lt]
      have : ∀ b, b < 121 → (-1 - nI b).toInt < (0 : Int32).toInt := by decide +kernel
      exact this _ (by omega)
    rw [if_pos zneg, hz] at ec
    obtain ⟨σ5, hσ5⟩ : ∃ x, x = up2 σ3 37 1 0 := ⟨_, rfl⟩
    have o5 : ∀ k, ¬ (13 ≤ k ∧ k < 25) → ¬ k = 37 → σ5 k = σ k := fun k h1 h37 => by rw [hσ5, up2_e, up1_n h37]; exact q03.1 k h1 h37
    have v5 : V 1 σ5 = V 1 σ := V_eq fun k _ _ => o5 k (by omega) (by omega)
    obtain ⟨τ1, m1, et1⟩ := em σ5 (fun k hk => o5 k (by omega) (by omega))
    have A := M_rdT (σ := σ5) (B := B) hL (fun j hj => by rw [o5 54 (by omega) (by omega), hB]; exact (t3 j hj).symm) 120 0 m (tkn B L 0) (σ 56) τ1 1000 (by omega) (by omega) (by omega) o0 h8 m1
    rw [← hR] at A
    obtain ⟨τ2, e2, fi⟩ := A.2 (wi_f c)
    refine ⟨-1 - nI R.2.1, σ5, τ2, by rw [ec, hσ5], by rw [et1, e2], ?_⟩
    have vF : V 1 τ2 = V 1 σ := by rw [← v5]; exact V_eq fun k a b => fi.1 k (by omega) (by omega)
    have r50 : τ2 50 = σ 50 := by rw [fi.1 50 (by decide) (by decide)]; exact o5 50 (by omega) (by omega)
    refine Rel_txt h (fun k b1 b2 b3 b4 b5 b6 b7 b8 => ?_) ?_ ?_ fi.2.2 ⟨m, ?_, ?_, ?_⟩
    · rw [fi.1 k b4 b7]; exact o5 k (by omega) b2
    · rw [fi.2.1, o5 49 (by omega) (by omega)]
    · rw [fi.1 37 (by decide) (by decide), hσ5, up2_e, up1_s, upd_s]
    · rw [vF]; exact okR_mono h1 (by omega)
    · rw [vF, r50]; exact h2
    · rw [vF]; exact h4

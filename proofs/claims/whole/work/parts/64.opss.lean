/-! PURE: text: what items do to a row; the class reads a text -/
def itH (H : Row) (j : Nat) : Row := fun c => H (7 * j + c)
def pti (n : Nat) (it H : Row) : Row := fun j => if 7 * n ≤ j ∧ j < 7 * n + 7 then it (j - 7 * n) else H j
def apH (H : Row) : Nat → Nat → Row → Row
  | 0, _, a => a
  | d + 1, j, a => apH H d (j + 1) (apI (itH H j) a)
def vIt (s : Nat) (it : Row) (s' : Nat) : Prop := (∃ k, k < 7 ∧ it 0 = nI k ∧ s < 8 ∧ s' = s + 1) ∨ (it 0 = nI 10 ∧ s' = s ∧ ∀ c, 1 ≤ c → c < 7 → it c = -1 ∨ ∃ i, i < s ∧ it c = nI i) ∨ (∃ k, k < 3 ∧ it 0 = nI (11 + k) ∧ s' = s)
def vSq (H : Row) : Nat → Nat → Nat → Nat → Prop
  | 0, _, s, s' => s = s'
  | d + 1, j, s, s' => ∃ s1, vIt s (itH H j) s1 ∧ vSq H d (j + 1) s1 s'
theorem apI_c {it it' : Row} (h : ∀ c, c < 7 → it c = it' c) (a : Row) : apI it a = apI it' a := by
  have hq : qz it a = qz it' a := by
    funext j
    unfold qz
    by_cases h2 : 17 ≤ j ∧ j < 23
    · rw [h (j - 16) (by omega)]
    · rw [if_neg (fun e => h2 ⟨e.1, e.2.1⟩), if_neg (fun e => h2 ⟨e.1, e.2.1⟩)]
  unfold apI
  rw [hq, h 0 (by decide), h 1 (by decide), h 2 (by decide), h 3 (by decide), h 4 (by decide)]
theorem vIt_c {it it' : Row} (h : ∀ c, c < 7 → it c = it' c) {s s' : Nat} (v : vIt s it s') : vIt s it' s' := by
  rcases v with ⟨k, hk, e, r⟩ | ⟨e, r, q⟩ | ⟨k, hk, e, r⟩
  · exact Or.inl ⟨k, hk, by rw [← h 0 (by decide)]; exact e, r⟩
  · exact Or.inr (Or.inl ⟨by rw [← h 0 (by decide)]; exact e, r, fun c h1 h7 => by rw [← h c h7]; exact q c h1 h7⟩)
  · exact Or.inr (Or.inr ⟨k, hk, by rw [← h 0 (by decide)]; exact e, r⟩)
theorem itH_p {n c : Nat} {it H : Row} (hc : c < 7) : itH (pti n it H) n c = it c := by
  unfold itH pti
  rw [if_pos (by omega), show 7 * n + c - 7 * n = c by omega]
theorem itH_o {n j c : Nat} {it H : Row} (hj : j < n) (hc : c < 7) : itH (pti n it H) j c = itH H j c := by
  unfold itH pti
  rw [if_neg (by omega)]
theorem apH_c {H H' : Row} : ∀ d j a, (∀ i, j ≤ i → i < j + d → ∀ c, c < 7 → itH H i c = itH H' i c) → apH H d j a = apH H' d j a := by
  intro d
  induction d with
  | zero => intro j a _; rfl
  | succ d ih => intro j a h; rw [apH, apH, apI_c (h j (by omega) (by omega)), ih (j + 1) _ (fun i h1 h2 => h i (by omega) (by omega))]
theorem apH_s (H : Row) : ∀ d j a, apH H (d + 1) j a = apI (itH H (j + d)) (apH H d j a) := by
  intro d
  induction d with
  | zero => intro j a; rfl
  | succ d ih => intro j a; rw [apH, ih (j + 1), show j + 1 + d = j + (d + 1) by omega]; rfl
theorem vSq_c {H H' : Row} : ∀ d j s s', (∀ i, j ≤ i → i < j + d → ∀ c, c < 7 → itH H i c = itH H' i c) → vSq H d j s s' → vSq H' d j s s' := by
  intro d
  induction d with
  | zero => intro j s s' _ h; exact h
  | succ d ih =>
    intro j s s' h v
    obtain ⟨s1, v1, v2⟩ := v
    exact ⟨s1, vIt_c (h j (by omega) (by omega)) v1, ih (j + 1) _ _ (fun i h1 h2 => h i (by omega) (by omega)) v2⟩
theorem vSq_s {H : Row} {s1 s2 : Nat} : ∀ d j s, vSq H d j s s1 → vIt s1 (itH H (j + d)) s2 → vSq H (d + 1) j s s2 := by
  intro d
  induction d with
  | zero => intro j s h v; cases h; exact ⟨s2, v, rfl⟩
  | succ d ih =>
    intro j s h v
    obtain ⟨s', v1, v2⟩ := h
    exact ⟨s', v1, ih (j + 1) s' v2 (by rw [show j + 1 + d = j + (d + 1) by omega]; exact v)⟩
theorem apI_K {k s : Nat} {it a : Row} (hk : k < 7) (h : it 0 = nI k) (h8 : s < 8) (ha : a 1 = nI s) : apI it a = comesR a s (nI k) (it 1) (it 2) (it 3) (it 4) := by
  unfold apI
  rw [h, if_pos (show nI k < 7 from (nI_ltI (b := 7) (by omega) (by decide)).mpr hk), ha, nI_clamp (by omega)]
theorem ok_apI {T s s' : Nat} {it a : Row} (v : vIt s it s') (hR : okR T s a) (hS : okS s a) : okR T s' (apI it a) ∧ okS s' (apI it a) := by
  rcases v with ⟨k, hk, e, h8, rfl⟩ | ⟨e, rfl, q⟩ | ⟨k, hk, e, rfl⟩
  · rw [apI_K hk e h8 hR.2.1]
    exact ⟨okR_comes hR h8 _ _ _ _ _, okS_comes hS ⟨k, by omega, rfl⟩ _ _ _ _⟩
  · rw [apI_Q e]
    obtain ⟨r1, r2, ⟨t, ht, et⟩, r4, r5⟩ := hR
    have o : ∀ j, ¬ (17 ≤ j ∧ j < 23) → qz it a j = a j := fun j hj => by unfold qz; rw [if_neg (fun z => hj ⟨z.1, z.2.1⟩)]
    refine ⟨⟨r1, by rw [o 1 (by omega)]; exact r2, ⟨t, ht, by rw [o 0 (by omega)]; exact et⟩, fun p hp => ?_, fun p hp => by rw [o _ (by omega)]; exact r5 p hp⟩, fun i hi => by rw [o _ (by omega), o _ (by omega)]; exact hS i hi⟩
    unfold qz
    rw [show 17 + p - 16 = 1 + p by omega]
    by_cases c : 0 ≤ it (1 + p)
    · rw [if_pos ⟨by omega, by omega, c⟩]
      rcases q (1 + p) (by omega) (by omega) with z | z
      · rw [z] at c; exact absurd c (by decide)
      · exact Or.inr z
    · rw [if_neg (fun z => c z.2.2)]
      exact r4 p hp
  · rw [apI_N hk e]
    exact ⟨okR_o hR (by omega) (by omega) (by omega), okS_u hS (fun i hi => ⟨by omega, by omega⟩)⟩
theorem agr_apI {T s s' : Nat} {it a b : Row} (v : vIt s it s') (hR : okR T s a) (h : agr s a b) : agr s' (apI it a) (apI it b) := by
  have hb : b 1 = nI s := by rw [← h 1 (by omega)]; exact hR.2.1
  rcases v with ⟨k, hk, e, h8, rfl⟩ | ⟨e, rfl, q⟩ | ⟨k, hk, e, rfl⟩
  · rw [apI_K hk e h8 hR.2.1, apI_K hk e h8 hb]
    exact agr_comes h _ _ _ _ _
  · rw [apI_Q e, apI_Q e]
    intro j hj
    unfold qz
    rw [h j hj]
  · rw [apI_N hk e, apI_N hk e]
    exact agr_u h rfl
theorem ok_apH {T : Nat} {H : Row} : ∀ d j s s' a, vSq H d j s s' → okR T s a → okS s a → okR T s' (apH H d j a) ∧ okS s' (apH H d j a) := by
  intro d
  induction d with
  | zero => intro j s s' a v h1 h2; cases v; exact ⟨h1, h2⟩
  | succ d ih =>
    intro j s s' a v h1 h2
    obtain ⟨s1, v1, v2⟩ := v
    have := ok_apI v1 h1 h2
    exact ih (j + 1) s1 s' _ v2 this.1 this.2
theorem agr_apH {T : Nat} {H : Row} : ∀ d j s s' a b, vSq H d j s s' → okR T s a → okS s a → agr s a b → agr s' (apH H d j a) (apH H d j b) := by
  intro d
  induction d with
  | zero => intro j s s' a b v _ _ h; cases v; exact h
  | succ d ih =>
    intro j s s' a b v h1 h2 h
    obtain ⟨s1, v1, v2⟩ := v
    have := ok_apI v1 h1 h2
    exact ih (j + 1) s1 s' _ _ v2 this.1 this.2 (agr_apI v1 h1 h)
/-! what is sure of an item that is read -/
theorem trS_0 {B : Row} {L s : Nat} {t : Nat × Nat × Nat × Nat} : ∀ c, (trS B L s t c).1 = false → s < 8 := by
  intro c
  induction c with
  | zero =>
    intro h
    rcases Nat.lt_or_ge s 8 with q | q
    · exact q
    · rw [trS, decide_eq_false (by omega)] at h
      exact absurd (show true = false from h) (by decide)
  | succ c ih => intro h; exact ih (prh_f h)
theorem trS_m {B : Row} {L s : Nat} {t : Nat × Nat × Nat × Nat} (h : tOk B L t) (h8 : s < 8) : ∀ c, t.2.1 ≤ (trS B L s t c).2.1 := by
  intro c
  induction c with
  | zero => rw [trS, decide_eq_true h8, mst_0]; exact (tkn_t (B := B) h.2.1).2
  | succ c ih => exact Nat.le_trans ih (prh_ok (trS_ok h c).1).2
theorem rq_ok {B : Row} {L s : Nat} : ∀ d p t it, tOk B L t → tOk B L (rqT B L s d p t it).1.2 ∧ t.1 ≤ (rqT B L s d p t it).1.2.1 := by
  intro d
  induction d with
  | zero => intro p t it h; rw [rq_0]; exact ⟨h, Nat.le_refl _⟩
  | succ d ih =>
    intro p t it h
    by_cases c : isN t s = true
    · have h1 := tkn_t (B := B) h.2.1
      have h2 := ih (p + 1) (tkn B L t.2.1) (upd it (1 + p) (nI t.2.2.2)) h1.1
      rw [rq_1 c]
      exact ⟨h2.1, by have := h.1; omega⟩
    · rw [rq_2 c]; exact ⟨h, Nat.le_refl _⟩
theorem rq_v {B : Row} {L s : Nat} : ∀ d p t it, p + d = 6 → (∀ c, 1 ≤ c → c < 7 → it c = -1 ∨ ∃ i, i < s ∧ it c = nI i) → ∀ c, 1 ≤ c → c < 7 → (rqT B L s d p t it).2 c = -1 ∨ ∃ i, i < s ∧ (rqT B L s d p t it).2 c = nI i := by
  intro d
  induction d with
  | zero => intro p t it _ h; rw [rq_0]; exact h
  | succ d ih =>
    intro p t it hp h
    by_cases c : isN t s = true
    · rw [rq_1 c]
      refine ih (p + 1) _ _ (by omega) (fun x h1 h7 => ?_)
      rw [upd_i]
      by_cases e : x = 1 + p
      · rw [if_pos e]; exact Or.inr ⟨_, (isN_w c).2, rfl⟩
      · rw [if_neg e]; exact h x h1 h7
    · rw [rq_2 c]; exact h
theorem nbr_ok {B : Row} {L s : Nat} {t : Nat × Nat × Nat × Nat} (h : tOk B L t) : tOk B L (nbr B L s (false, t)).2 ∧ t.1 ≤ (nbr B L s (false, t)).2.1 := mst_ok (S := (false, t)) h
theorem isWd_1 {B : Row} {t : Nat × Nat × Nat × Nat} {q : Nat} (h : isWd B t q = true) : t.2.2.1 = 1 := by
  unfold isWd at h
  rw [Bool.and_eq_true, decide_eq_true_eq] at h
  exact h.1
theorem pIt_ok {B : Row} {L s : Nat} {t : Nat × Nat × Nat × Nat} (h : tOk B L t) (h8 : s ≤ 8) : tOk B L (pIt B L s t).1.1.2 ∧ ((pIt B L s t).1.1.1 = false → t.2.1 ≤ (pIt B L s t).1.1.2.1 ∧ t.2.2.1 = 1 ∧ vIt s (pIt B L s t).1.2 (pIt B L s t).2 ∧ (pIt B L s t).2 ≤ 8) := by
  have o1 := tkn_t (B := B) h.2.1
  have num : ∀ k m, k < 3 → tOk B L (pNu B L (11 + k) m t).1.2 ∧ t.2.1 ≤ (pNu B L (11 + k) m t).1.2.1 ∧ vIt s (pNu B L (11 + k) m t).2 s := by
    intro k m hk
    unfold pNu
    rw [mst_0]
    have h2 := nbr_ok (s := m) o1.1
    exact ⟨h2.1, Nat.le_trans o1.2 h2.2, Or.inr (Or.inr ⟨k, hk, rfl, rfl⟩)⟩
  unfold pIt
  cases el : lstU (fun q => isWd B t q) 0 7 with
  | some i =>
    have hi := lstU_1 _ _ _ el
    rw [oc_s]
    refine ⟨(trS_ok h 4).1, fun hf => ?_⟩
    have hs := trS_0 4 hf
    exact ⟨trS_m h hs 4, isWd_1 hi.2.2, Or.inl ⟨i, by omega, rfl, hs, rfl⟩, hs⟩
  | none =>
    rw [oc_n]
    by_cases c11 : isWd B t 11 = true
    · rw [if_pos c11]
      show tOk B L (pQu B L s t).1.2 ∧ ((pQu B L s t).1.1 = false → t.2.1 ≤ (pQu B L s t).1.2.1 ∧ t.2.2.1 = 1 ∧ vIt s (pQu B L s t).2 s ∧ s ≤ 8)
      unfold pQu
      rw [mst_0]
      have h2 := nbr_ok (s := s) o1.1
      by_cases cn : isN (tkn B L t.2.1) s = true
      · have e1 : nbr B L s (false, tkn B L t.2.1) = (false, tkn B L (tkn B L t.2.1).2.1) := by rw [nbr_0, if_pos cn]
        rw [e1] at h2 ⊢
        rw [if_neg (show ¬ false = true by decide)]
        have h3 := rq_ok (s := s) 5 1 (tkn B L (tkn B L t.2.1).2.1) (it1 10 (nI (tkn B L t.2.1).2.2.2)) h2.1
        refine ⟨h3.1, fun _ => ⟨Nat.le_trans o1.2 (Nat.le_trans h2.2 h3.2), isWd_1 c11, Or.inr (Or.inl ⟨by rw [rq_i]; rfl, rfl, rq_v 5 1 _ _ rfl (fun c h1 h7 => ?_)⟩), h8⟩⟩
        by_cases e : c = 1
        · subst e; exact Or.inr ⟨_, (isN_w cn).2, rfl⟩
        · exact Or.inl (it1_n _ _ (by omega))
      · have e1 : nbr B L s (false, tkn B L t.2.1) = (true, tkn B L t.2.1) := by rw [nbr_0, if_neg cn]
        rw [e1, if_pos (show true = true from rfl)]
        exact ⟨o1.1, fun hf => absurd (show true = false from hf) (by decide)⟩
    · rw [if_neg c11]
      by_cases c12 : isWd B t 12 = true
      · rw [if_pos c12]
        have := num 0 61 (by decide)
        exact ⟨this.1, fun _ => ⟨this.2.1, isWd_1 c12, this.2.2, h8⟩⟩
      · rw [if_neg c12]
        by_cases c13 : isWd B t 13 = true
        · rw [if_pos c13]
          have := num 1 10 (by decide)
          exact ⟨this.1, fun _ => ⟨this.2.1, isWd_1 c13, this.2.2, h8⟩⟩
        · rw [if_neg c13]
          by_cases c14 : isWd B t 14 = true
          · rw [if_pos c14]
            have := num 2 21 (by decide)
            exact ⟨this.1, fun _ => ⟨this.2.1, isWd_1 c14, this.2.2, h8⟩⟩
          · rw [if_neg c14]
            exact ⟨h, fun hf => absurd (show true = false from hf) (by decide)⟩
theorem pIt_w {B : Row} {L s : Nat} {t : Nat × Nat × Nat × Nat} (h : ¬ t.2.2.1 = 1) : (pIt B L s t).1.1 = (true, t) := by
  have w : ∀ q, ¬ isWd B t q = true := fun q e => h (isWd_1 e)
  unfold pIt
  cases el : lstU (fun q => isWd B t q) 0 7 with
  | some i => exact absurd (lstU_1 _ _ _ el).2.2 (w i)
  | none => rw [oc_n, if_neg (w 11), if_neg (w 12), if_neg (w 13), if_neg (w 14)]
/-- a text -/
def pTx (B : Row) (L : Nat) : Nat → (Nat × Nat × Nat × Nat) → Nat → Nat → Row → Bool × Nat × Row × Nat
  | 0, t, s, _, H => (false, t.1, H, s)
  | d + 1, t, s, n, H => if (pIt B L s t).1.1.1 = true then (false, (pIt B L s t).1.1.2.1, H, s) else if (pIt B L s t).1.1.2.2.2.1 = 0 then (true, n + 1, pti n (pIt B L s t).1.2 H, (pIt B L s t).2) else if (pIt B L s t).1.1.2.2.2.1 = 3 then pTx B L d (tkn B L (pIt B L s t).1.1.2.2.1) (pIt B L s t).2 (n + 1) (pti n (pIt B L s t).1.2 H) else (false, (pIt B L s t).1.1.2.1, H, s)
theorem vSq_p {H it : Row} {n s0 s s' : Nat} (v : vSq H n 0 s0 s) (w : vIt s it s') : vSq (pti n it H) (n + 1) 0 s0 s' := by
  refine vSq_s n 0 s0 (vSq_c n 0 s0 s (fun i _ hi c hc => (itH_o (by omega) hc).symm) v) ?_
  rw [Nat.zero_add]
  exact vIt_c (fun c hc => (itH_p hc).symm) w
theorem apH_p (H it a : Row) (n : Nat) : apH (pti n it H) (n + 1) 0 a = apI it (apH H n 0 a) := by
  rw [apH_s, Nat.zero_add, apI_c (fun c hc => itH_p hc), apH_c n 0 a (fun i _ hi c hc => itH_o (by omega) hc)]
theorem pTx_v {B : Row} {L s0 : Nat} : ∀ d t s n H, tOk B L t → s ≤ 8 → vSq H n 0 s0 s → (pTx B L d t s n H).1 = true → vSq (pTx B L d t s n H).2.2.1 (pTx B L d t s n H).2.1 0 s0 (pTx B L d t s n H).2.2.2 ∧ (pTx B L d t s n H).2.1 ≤ n + d := by
  intro d
  induction d with
  | zero => intro t s n H _ _ _ h; exact absurd (show false = true from h) (by decide)
  | succ d ih =>
    intro t s n H hO h8 v h
    have p := pIt_ok hO h8
    rw [pTx] at h ⊢
    by_cases c : (pIt B L s t).1.1.1 = true
    · rw [if_pos c] at h; exact absurd (show false = true from h) (by decide)
    · obtain ⟨p1, p2, p3, p4⟩ := p.2 (wi_f c)
      rw [if_neg c] at h ⊢
      by_cases c0 : (pIt B L s t).1.1.2.2.2.1 = 0
      · rw [if_pos c0]
        exact ⟨vSq_p v p3, (by omega : n + 1 ≤ n + (d + 1))⟩
      · rw [if_neg c0] at h ⊢
        by_cases c3 : (pIt B L s t).1.1.2.2.2.1 = 3
        · rw [if_pos c3] at h ⊢
          have := ih _ _ _ _ (tkn_t (B := B) p.1.2.1).1 p4 (vSq_p v p3) h
          exact ⟨this.1, by omega⟩
        · rw [if_neg c3] at h; exact absurd (show false = true from h) (by decide)
theorem C_rdT {B : Row} {L : Nat} (hL : L ≤ 120) (a0 : Row) : ∀ d n s t H (σ : Sto) q, n + d = 120 → d < q → σ 38 = B → tkC L t (σ 37) → tOk B L t → s ≤ 8 → V 13 σ 1 = nI s → V 13 σ = apH H n 0 a0 → ∃ z σ', lo3 F_X3_readInto_b11 q 37 13 (nI n) σ = some (z, σ') ∧ cq σ σ' ∧ ((pTx B L d t s n H).1 = true → z = nI (pTx B L d t s n H).2.1 ∧ V 13 σ' = apH (pTx B L d t s n H).2.2.1 (pTx B L d t s n H).2.1 0 a0) ∧ ((pTx B L d t s n H).1 = false → z = -1 - nI (pTx B L d t s n H).2.1) := by
  intro d
  induction d with
  | zero =>
    intro n s t H σ q hn hq hB hT hO h8 hm hv
    obtain ⟨q, rfl⟩ : ∃ x, q = x + 1 := ⟨q - 1, by omega⟩
    have e : n = 120 := by omega
    subst e
    refine ⟨-1 - nI t.1, σ, ?_, cq_r σ, fun h => absurd (show false = true from h) (by decide), fun _ => rfl⟩
    rw [lo3_s, F_X3_readInto_b11, if_pos (by decide), k373, ck_t, hT.2.1]
  | succ d ih =>
    intro n s t H σ q hn hq hB hT hO h8 hm hv
    obtain ⟨q, rfl⟩ : ∃ x, q = x + 1 := ⟨q - 1, by omega⟩
    obtain ⟨z, σ1, e1, q1, o1⟩ := C_rdI hL hB hT hO h8 hm
    have p := pIt_ok hO h8
    have s0 : lo3 F_X3_readInto_b11 (q + 1) 37 13 (nI n) σ = if z = 0 then some (-1 - σ1 37 2, σ1) else if σ1 37 4 = 0 then some (nI (n + 1), σ1) else if σ1 37 4 = 3 then bnd (F_X3_nextToken 37 σ1) (fun _ σ2 => lo3 F_X3_readInto_b11 q 37 13 (nI (n + 1)) σ2) else some (-1 - σ1 37 2, σ1) := by
      rw [lo3_s, F_X3_readInto_b11, if_neg (show ¬ (120 : Int32) ≤ nI n from nI_lei (m := 120) (by omega) (by decide)), k373, ck_t, e1, bnd_s, nI_1]
    rw [s0, pTx]
    rcases o1 with ⟨hz, hS, h2⟩ | ⟨hz, hT1, hk, hV⟩
    · rw [if_pos hz, if_pos hS]
      exact ⟨_, σ1, rfl, q1, fun h => absurd (show false = true from h) (by decide), fun _ => by rw [h2]⟩
    · rw [if_neg (by rw [hz]; decide), hT1.2.2.2.1, hT1.2.1]
      have k4 := p.1.2.2.1
      by_cases c : (pIt B L s t).1.1.1 = true
      · rw [if_pos c, hk c, if_neg (by decide), if_neg (by decide)]
        exact ⟨_, σ1, rfl, q1, fun h => absurd (show false = true from h) (by decide), fun _ => rfl⟩
      · obtain ⟨p1, p2, p3, p4⟩ := p.2 (wi_f c)
        have v1 := hV (wi_f c)
        rw [if_neg c]
        by_cases c0 : (pIt B L s t).1.1.2.2.2.1 = 0
        · rw [if_pos (by rw [c0]; rfl), if_pos c0]
          exact ⟨_, σ1, rfl, q1, fun _ => ⟨rfl, by rw [v1, hv, apH_p]⟩, fun h => absurd (show true = false from h) (by decide)⟩
        · rw [if_neg (show ¬ nI _ = 0 from fun e => c0 ((nI_eq (b := 0) (by omega) (by decide)).mp e)), if_neg c0]
          by_cases c3 : (pIt B L s t).1.1.2.2.2.1 = 3
          · rw [if_pos (by rw [c3]; rfl), if_pos c3]
            obtain ⟨σ2, e2, q2, t2, v2⟩ := C_tk hL (cq38 q1 hB) hT1 p.1
            have hv2 : V 13 σ2 = apH (pti n (pIt B L s t).1.2 H) (n + 1) 0 a0 := by rw [v2, v1, hv, apH_p]
            have hm2 : V 13 σ2 1 = nI (pIt B L s t).2 := by
              rw [v2, v1]
              rcases p3 with ⟨k, hk, e, h8, e'⟩ | ⟨e, e', _⟩ | ⟨k, hk, e, e'⟩
              · rw [apI_K hk e h8 hm, e']; exact comes_1 _ _ _ _ _ _ _
              · rw [apI_Q e, qz_1, e']; exact hm
              · rw [apI_N hk e, upd_n (by omega), e']; exact hm
            obtain ⟨z3, σ3, e3, q3, r3⟩ := ih (n + 1) (pIt B L s t).2 _ (pti n (pIt B L s t).1.2 H) σ2 q (by omega) (by omega) (cq38 (cq_t q1 q2) hB) t2 (tkn_t (B := B) p.1.2.1).1 p4 hm2 hv2
            rw [e2, bnd_s]
            exact ⟨z3, σ3, e3, cq_t (cq_t q1 q2) q3, r3⟩
          · rw [if_neg (show ¬ nI _ = 3 from fun e => c3 ((nI_eq (b := 3) (by omega) (by decide)).mp e)), if_neg c3]
            exact ⟨_, σ1, rfl, q1, fun h => absurd (show false = true from h) (by decide), fun _ => rfl⟩

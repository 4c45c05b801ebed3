/-! PURE: text: the class reads an item -/
theorem rq_0 (B : Row) (L s p : Nat) (t : Nat × Nat × Nat × Nat) (it : Row) : rqT B L s 0 p t it = ((decide (t.2.2.1 = 2), t), it) := by
  rw [rqT]
  by_cases c : t.2.2.1 = 2
  · rw [if_pos c, decide_eq_true c]
  · rw [if_neg c, decide_eq_false c]
theorem rq_1 {B : Row} {L s d p : Nat} {t : Nat × Nat × Nat × Nat} {it : Row} (h : isN t s = true) : rqT B L s (d + 1) p t it = rqT B L s d (p + 1) (tkn B L t.2.1) (upd it (1 + p) (nI t.2.2.2)) := by
  unfold isN at h
  rw [Bool.and_eq_true, decide_eq_true_eq, decide_eq_true_eq] at h
  rw [rqT, if_pos h.1, if_pos h.2]
theorem rq_2 {B : Row} {L s d p : Nat} {t : Nat × Nat × Nat × Nat} {it : Row} (h : ¬ isN t s = true) : rqT B L s (d + 1) p t it = ((decide (t.2.2.1 = 2), t), it) := by
  unfold isN at h
  rw [Bool.and_eq_true, decide_eq_true_eq, decide_eq_true_eq] at h
  rw [rqT]
  by_cases c : t.2.2.1 = 2
  · rw [if_pos c, decide_eq_true c, if_neg (fun e => h ⟨c, e⟩)]
  · rw [if_neg c, decide_eq_false c]
theorem rq_k {B : Row} {L s : Nat} : ∀ d p t it, (rqT B L s d p t it).1.1 = true → (rqT B L s d p t it).1.2.2.2.1 = 2 := by
  intro d
  induction d with
  | zero => intro p t it h; rw [rq_0] at h ⊢; exact of_decide_eq_true h
  | succ d ih =>
    intro p t it h
    by_cases c : isN t s = true
    · rw [rq_1 c] at h ⊢; exact ih _ _ _ h
    · rw [rq_2 c] at h ⊢; exact of_decide_eq_true h
theorem rq_i {B : Row} {L s : Nat} : ∀ d p t it, (rqT B L s d p t it).2 0 = it 0 := by
  intro d
  induction d with
  | zero => intro p t it; rw [rq_0]
  | succ d ih =>
    intro p t it
    by_cases c : isN t s = true
    · rw [rq_1 c, ih, upd_n (by omega)]
    · rw [rq_2 c]
theorem isN_w {t : Nat × Nat × Nat × Nat} {s : Nat} (h : isN t s = true) : t.2.2.1 = 2 ∧ t.2.2.2 < s := by
  unfold isN at h
  rw [Bool.and_eq_true, decide_eq_true_eq, decide_eq_true_eq] at h
  exact h
theorem qz_1 (it a : Row) : qz it a 1 = a 1 := by unfold qz; rw [if_neg (by omega)]
theorem qz_u {it a : Row} {p : Nat} {w : Nat} (hp : p < 6) (hw : w < 2 ^ 31) : upd (qz it a) (17 + p) (nI w) = qz (upd it (1 + p) (nI w)) a := by
  funext j
  rw [upd_i]
  unfold qz
  by_cases h : j = 17 + p
  · subst h
    rw [if_pos rfl, show 17 + p - 16 = 1 + p by omega, upd_s, if_pos ⟨by omega, by omega, nI_pos' hw⟩]
  · rw [if_neg h]
    by_cases h2 : 17 ≤ j ∧ j < 23
    · rw [upd_n (show ¬ j - 16 = 1 + p by omega)]
    · rw [if_neg (fun e => h2 ⟨e.1, e.2.1⟩), if_neg (fun e => h2 ⟨e.1, e.2.1⟩)]
theorem C_rq {B : Row} {L s : Nat} (hL : L ≤ 120) (h8 : s ≤ 8) (a : Row) : ∀ d p n (σ : Sto) t it, p + d = 6 → d < n → 1 ≤ p → σ 38 = B → tkC L t (σ 37) → tOk B L t → a 1 = nI s → V 13 σ = qz it a → ∃ σ', lo3 F_X3_readQueue_b6 n 37 13 (nI p) σ = some (1, σ') ∧ cq σ σ' ∧ tkC L (rqT B L s d p t it).1.2 (σ' 37) ∧ V 13 σ' = qz (rqT B L s d p t it).2 a := by
  intro d
  induction d with
  | zero =>
    intro p n σ t it hp hn h1 hB hT hO ha hv
    obtain ⟨n, rfl⟩ : ∃ q, n = q + 1 := ⟨n - 1, by omega⟩
    have e6 : p = 6 := by omega
    subst e6
    refine ⟨σ, ?_, cq_r σ, by rw [rq_0]; exact hT, by rw [rq_0]; exact hv⟩
    rw [lo3_s, F_X3_readQueue_b6, if_pos (by decide), if_neg (by decide)]
  | succ d ih =>
    intro p n σ t it hp hn h1 hB hT hO ha hv
    obtain ⟨n, rfl⟩ : ∃ q, n = q + 1 := ⟨n - 1, by omega⟩
    have hm : V 13 σ 1 = nI s := by rw [hv, qz_1]; exact ha
    have hnum := C_isN (s := s) (σ := σ) (by omega) hT hO.2.2.1 hO.2.2.2.1
    have s0 : lo3 F_X3_readQueue_b6 (n + 1) 37 13 (nI p) σ = if b2i (isN t s) = 0 then some (1, σ) else bnd (F_X0_seat 13 (nI p) (σ 37 5) σ) (fun _ σ1 => bnd (F_X3_nextToken 37 σ1) (fun _ σ2 => lo3 F_X3_readQueue_b6 n 37 13 (nI (p + 1)) σ2)) := by
      rw [lo3_s, F_X3_readQueue_b6, if_neg (show ¬ (6 : Int32) ≤ nI p from nI_lei (m := 6) (by omega) (by decide)), kdb 13 k13, ck_t, k373, ck_t, V1 13 σ, hm, hnum, bnd_s, if_neg (show ¬ nI p ≤ 0 from nI_nle (by omega) (by omega)), nI_1]
    by_cases c : isN t s = true
    · have hk := isN_w c
      obtain ⟨σ1, hσ1⟩ : ∃ x, x = up2 σ (13 + 10) p (nI t.2.2.2) := ⟨_, rfl⟩
      have f1 : fr 13 σ σ1 := by rw [hσ1]; exact fr_u (by omega)
      have v1 : V 13 σ1 = qz (upd it (1 + p) (nI t.2.2.2)) a := by rw [hσ1, V_uq (b := 13) (by omega), hv, qz_u (by omega) (by omega)]
      obtain ⟨σ2, e2, q2, t2, v2⟩ := C_tk (σ := σ1) (B := B) (t := t) hL (cq38 (cq_fr f1) hB) (by rw [f1 37 (by omega)]; exact hT) hO
      have q02 := cq_t (cq_fr f1) q2
      obtain ⟨σ3, e3, q3, t3, v3⟩ := ih (p + 1) n σ2 (tkn B L t.2.1) (upd it (1 + p) (nI t.2.2.2)) (by omega) (by omega) (by omega) (cq38 q02 hB) t2 (tkn_t hO.2.1).1 ha (by rw [v2, v1])
      refine ⟨σ3, ?_, cq_t q02 q3, by rw [rq_1 c]; exact t3, by rw [rq_1 c]; exact v3⟩
      rw [s0, if_t c, hT.2.2.2.2 hk.1, C_seat k13 (by omega), bnd_s, ← hσ1, e2, bnd_s, e3]
    · refine ⟨σ, ?_, cq_r σ, by rw [rq_2 c]; exact hT, by rw [rq_2 c]; exact hv⟩
      rw [s0, if_f (wi_f c)]
def outC (L : Nat) (S : Bool × Nat × Nat × Nat × Nat) (R : Row) (z : Int32) (σ σ' : Sto) : Prop := cq σ σ' ∧ ((z = 0 ∧ S.1 = true ∧ σ' 37 2 = nI S.2.1) ∨ (z = 1 ∧ tkC L S.2 (σ' 37) ∧ (S.1 = true → S.2.2.2.1 = 2) ∧ (S.1 = false → V 13 σ' = R)))
theorem it1_v (k : Nat) (v : Int32) : it1 k v 0 = nI k ∧ it1 k v 1 = v := ⟨rfl, rfl⟩
theorem it1_n (k : Nat) (v : Int32) {c : Nat} (h : 2 ≤ c) : it1 k v c = -1 := by unfold it1; rw [upd_n (by omega), upd_n (by omega)]
theorem apI_Q {it a : Row} (h : it 0 = nI 10) : apI it a = qz it a := by unfold apI; rw [h, if_neg (by decide), if_pos (by decide)]
theorem apI_N {k : Nat} {it a : Row} (hk : k < 3) (h : it 0 = nI (11 + k)) : apI it a = upd a (3 + k) (it 1) := by
  unfold apI
  rw [h, if_neg (fun e => by have := (nI_ltI (b := 7) (by omega) (by decide)).mp e; omega), if_neg (fun e => by have := (nI_eq (b := 10) (by omega) (by decide)).mp e; omega), nI_clamp (by omega), show 11 + k - 11 = k by omega]
theorem qz_it1 (a : Row) {w : Nat} (hw : w < 2 ^ 31) : upd a 17 (nI w) = qz (it1 10 (nI w)) a := by
  funext j
  rw [upd_i]
  unfold qz
  by_cases h : j = 17
  · subst h
    rw [if_pos rfl, if_pos ⟨by omega, by omega, nI_pos' hw⟩]
    rfl
  · rw [if_neg h]
    by_cases h2 : 17 ≤ j ∧ j < 23
    · rw [if_neg (fun e => by rw [it1_n 10 (nI w) (by omega)] at e; exact absurd e.2.2 (by decide))]
    · rw [if_neg (fun e => h2 ⟨e.1, e.2.1⟩)]
theorem C_rdQ {σ : Sto} {B : Row} {L s : Nat} {t : Nat × Nat × Nat × Nat} (hL : L ≤ 120) (hB : σ 38 = B) (hT : tkC L t (σ 37)) (hO : tOk B L t) (h8 : s ≤ 8) (hm : V 13 σ 1 = nI s) : ∃ z σ', F_X3_readQueue 37 13 σ = some (z, σ') ∧ outC L (pQu B L s t).1 (apI (pQu B L s t).2 (V 13 σ)) z σ σ' := by
  obtain ⟨σ1, e1, q1, t1, v1⟩ := C_tk hL hB hT hO
  have o1 := (tkn_t (B := B) hO.2.1).1
  have hm1 : V 13 σ1 1 = nI s := by rw [v1]; exact hm
  have hnum := C_isN (s := s) (σ := σ1) (by omega) t1 o1.2.2.1 o1.2.2.2.1
  have s0 : F_X3_readQueue 37 13 σ = if b2i (isN (tkn B L t.2.1) s) = 0 then some (0, σ1) else bnd (F_X0_seat 13 (nI 0) (σ1 37 5) σ1) (fun _ σ1 => bnd (F_X3_nextToken 37 σ1) (fun _ σ2 => lo3 F_X3_readQueue_b6 999 37 13 (nI 1) σ2)) := by
    rw [F_X3_readQueue, k373, ck_t, e1, bnd_s, show (1000 : Nat) = 999 + 1 from rfl, lo3_s, F_X3_readQueue_b6, if_neg (by decide), kdb 13 k13, ck_t, k373, ck_t, V1 13 σ1, hm1, hnum, bnd_s, if_pos (show (0 : Int32) ≤ 0 by decide)]
    rfl
  unfold pQu
  rw [mst_0, nbr_0]
  by_cases c : isN (tkn B L t.2.1) s = true
  · have hk := isN_w c
    rw [if_pos c, if_neg (show ¬ false = true by decide)]
    obtain ⟨σ2, hσ2⟩ : ∃ x, x = up2 σ1 (13 + 10) 0 (nI (tkn B L t.2.1).2.2.2) := ⟨_, rfl⟩
    have f2 : fr 13 σ1 σ2 := by rw [hσ2]; exact fr_u (by omega)
    have v2 : V 13 σ2 = qz (it1 10 (nI (tkn B L t.2.1).2.2.2)) (V 13 σ) := by rw [hσ2, V_uq (b := 13) (by omega), v1]; exact qz_it1 _ (by omega)
    obtain ⟨σ3, e3, q3, t3, v3⟩ := C_tk (σ := σ2) (B := B) (t := tkn B L t.2.1) hL (cq38 (cq_fr f2) (cq38 q1 hB)) (by rw [f2 37 (by omega)]; exact t1) o1
    have q03 := cq_t q1 (cq_t (cq_fr f2) q3)
    obtain ⟨σ4, e4, q4, t4, v4⟩ := C_rq (B := B) hL h8 (V 13 σ) 5 1 999 σ3 (tkn B L (tkn B L t.2.1).2.1) (it1 10 (nI (tkn B L t.2.1).2.2.2)) (by omega) (by omega) (by omega) (cq38 q03 hB) t3 (tkn_t o1.2.1).1 hm (by rw [v3, v2])
    refine ⟨1, σ4, ?_, cq_t q03 q4, Or.inr ⟨rfl, t4, rq_k _ _ _ _, fun _ => ?_⟩⟩
    · rw [s0, if_t c, t1.2.2.2.2 hk.1, C_seat k13 (by omega), bnd_s, ← hσ2, e3, bnd_s, e4]
    · rw [v4, apI_Q (by rw [rq_i]; rfl)]
  · rw [if_neg c, if_pos (show true = true from rfl)]
    refine ⟨0, σ1, ?_, q1, Or.inl ⟨rfl, rfl, t1.2.1⟩⟩
    rw [s0, if_f (wi_f c)]
theorem C_rdN {σ : Sto} {B : Row} {L c m : Nat} {t : Nat × Nat × Nat × Nat} (hc : c < 3) (hmo : ∀ τ, F_X0_mostOf (nI c) τ = some (nI m - 1, τ)) (hm : m ≤ 1000) (hL : L ≤ 120) (hB : σ 38 = B) (hT : tkC L t (σ 37)) (hO : tOk B L t) : ∃ z σ', F_X3_readPart 37 13 (nI c) σ = some (z, σ') ∧ outC L (pNu B L (11 + c) m t).1 (apI (pNu B L (11 + c) m t).2 (V 13 σ)) z σ σ' := by
  obtain ⟨σ1, e1, q1, t1, v1⟩ := C_tk hL hB hT hO
  have o1 := (tkn_t (B := B) hO.2.1).1
  have hnum := C_isN (s := m) (σ := σ1) hm t1 o1.2.2.1 o1.2.2.2.1
  have s0 : F_X3_readPart 37 13 (nI c) σ = if b2i (isN (tkn B L t.2.1) m) = 0 then some (0, σ1) else bnd (F_X0_putPart 13 (nI c) (σ1 37 5) σ1) (fun _ σ1 => bnd (F_X3_nextToken 37 σ1) (fun _ σ2 => some (1, σ2))) := by
    rw [F_X3_readPart, k373, ck_t, e1, bnd_s, hmo, bnd_s, hnum, bnd_s, kdb 13 k13, ck_t]
  unfold pNu
  rw [mst_0, nbr_0]
  by_cases cn : isN (tkn B L t.2.1) m = true
  · have hk := isN_w cn
    rw [if_pos cn]
    obtain ⟨σ2, hσ2⟩ : ∃ x, x = up2 σ1 13 c (nI (tkn B L t.2.1).2.2.2) := ⟨_, rfl⟩
    have f2 : fr 13 σ1 σ2 := by rw [hσ2]; exact fr_u (by omega)
    have v2 : V 13 σ2 = upd (V 13 σ) (3 + c) (nI (tkn B L t.2.1).2.2.2) := by rw [hσ2, V_uh (b := 13) (c := 3 + c) (by omega) (by omega), v1]
    have ep : F_X0_putPart 13 (nI c) (nI (tkn B L t.2.1).2.2.2) σ1 = some ((), σ2) := by
      rw [hσ2]
      rcases (show c = 0 ∨ c = 1 ∨ c = 2 by omega) with rfl | rfl | rfl <;> rfl
    obtain ⟨σ3, e3, q3, t3, v3⟩ := C_tk (σ := σ2) (B := B) (t := tkn B L t.2.1) hL (cq38 (cq_fr f2) (cq38 q1 hB)) (by rw [f2 37 (by omega)]; exact t1) o1
    refine ⟨1, σ3, ?_, cq_t q1 (cq_t (cq_fr f2) q3), Or.inr ⟨rfl, t3, fun h => absurd (show false = true from h) (by decide), fun _ => ?_⟩⟩
    · rw [s0, if_t cn, t1.2.2.2.2 hk.1, ep, bnd_s, e3, bnd_s]
    · rw [v3, v2, apI_N hc (it1_v _ _).1]; rfl
  · rw [if_neg cn]
    refine ⟨0, σ1, ?_, q1, Or.inl ⟨rfl, rfl, t1.2.1⟩⟩
    rw [s0, if_f (wi_f cn)]
theorem wK {j : Nat} (hj : j < 7) (σ : Sto) : F_X3_wordOfKind (nI j) σ = some (100 + j, σ) := by
  rcases (show j = 0 ∨ j = 1 ∨ j = 2 ∨ j = 3 ∨ j = 4 ∨ j = 5 ∨ j = 6 by omega) with rfl | rfl | rfl | rfl | rfl | rfl | rfl <;> rfl
theorem wP {j : Nat} (hj : j < 3) (σ : Sto) : F_X3_wordOfPart (nI j) σ = some (112 + j, σ) := by
  rcases (show j = 0 ∨ j = 1 ∨ j = 2 by omega) with rfl | rfl | rfl <;> rfl
theorem C_kdL {σ : Sto} {B : Row} {L : Nat} {t : Nat × Nat × Nat × Nat} (hL : L ≤ 120) (hB : σ 38 = B) (hT : tkC L t (σ 37)) (hO : tOk B L t) : ∀ d j n, j + d = 7 → d < n → lo3 F_X3_readItem_b2 n 37 13 (nI j) σ = ocase (lstU (fun q => isWd B t q) j d) (if b2i (isWd B t 11) = 0 then lo3 F_X3_readItem_b49 1000 37 13 0 σ else bnd (F_X3_readQueue 37 13 σ) (fun z σ' => ck (z01 z) (some (z, σ')))) (fun i => bnd (F_X3_readSitter 37 13 (nI i) σ) (fun z σ' => ck (z01 z) (some (z, σ')))) := by
  have hw : ∀ q, q < 15 → F_X3_isWord 37 (100 + q) σ = some (b2i (isWd B t q), σ) := fun q hq => by
    have h := C_isWd (σ := σ) hq hL hT (by rw [hB]; exact hO)
    rw [hB] at h
    exact h
  intro d
  induction d with
  | zero =>
    intro j n hj hn
    obtain ⟨n, rfl⟩ : ∃ q, n = q + 1 := ⟨n - 1, by omega⟩
    have e7 : j = 7 := by omega
    subst e7
    rw [lo3_s, F_X3_readItem_b2, if_pos (by decide), k373, ck_t, show (111 : Nat) = 100 + 11 from rfl, hw 11 (by decide), bnd_s]
    rfl
  | succ d ih =>
    intro j n hj hn
    obtain ⟨n, rfl⟩ : ∃ q, n = q + 1 := ⟨n - 1, by omega⟩
    rw [lo3_s, F_X3_readItem_b2, if_neg (fun z => by have := (nI_ltI (a := 6) (by decide) (by omega)).mp z; omega), wK (by omega), bnd_s, k373, ck_t, hw j (by omega), bnd_s, nI_1, ih (j + 1) n (by omega) (by omega), lstU]
    by_cases c : isWd B t j = true
    · rw [if_t c, if_pos c]
      rfl
    · rw [if_f (wi_f c), if_neg c]
theorem bz_ck {z : Int32} {σ' : Sto} {F : Option (Int32 × Sto)} (e : F = some (z, σ')) (h : z = 0 ∨ z = 1) : bnd F (fun z σ' => ck (z01 z) (some (z, σ'))) = some (z, σ') := by
  rw [e, bnd_s]
  rcases h with rfl | rfl <;> rfl
theorem outC_z {L : Nat} {S : Bool × Nat × Nat × Nat × Nat} {R : Row} {z : Int32} {σ σ' : Sto} (h : outC L S R z σ σ') : z = 0 ∨ z = 1 := by
  rcases h.2 with h | h
  · exact Or.inl h.1
  · exact Or.inr h.1
theorem lstU_1 {T : Nat → Bool} : ∀ d j i, lstU T j d = some i → j ≤ i ∧ i < j + d ∧ T i = true := by
  intro d
  induction d with
  | zero => intro j i h; cases (show (none : Option Nat) = some i from h)
  | succ d ih =>
    intro j i h
    rw [lstU] at h
    by_cases c : T j = true
    · rw [if_pos c] at h
      cases h
      exact ⟨Nat.le_refl _, by omega, c⟩
    · rw [if_neg c] at h
      have := ih _ _ h
      exact ⟨by omega, by omega, this.2.2⟩
theorem C_rdI {σ : Sto} {B : Row} {L s : Nat} {t : Nat × Nat × Nat × Nat} (hL : L ≤ 120) (hB : σ 38 = B) (hT : tkC L t (σ 37)) (hO : tOk B L t) (h8 : s ≤ 8) (hm : V 13 σ 1 = nI s) : ∃ z σ', F_X3_readItem 37 13 σ = some (z, σ') ∧ outC L (pIt B L s t).1.1 (apI (pIt B L s t).1.2 (V 13 σ)) z σ σ' := by
  have hw : ∀ q, q < 15 → F_X3_isWord 37 (100 + q) σ = some (b2i (isWd B t q), σ) := fun q hq => by
    have h := C_isWd (σ := σ) hq hL hT (by rw [hB]; exact hO)
    rw [hB] at h
    exact h
  have e0 : F_X3_readItem 37 13 σ = _ := C_kdL hL hB hT hO 7 0 1000 (by omega) (by omega)
  rw [e0]
  unfold pIt
  cases el : lstU (fun q => isWd B t q) 0 7 with
  | some i =>
    have hi := lstU_1 _ _ _ el
    rw [oc_s, oc_s]
    have A := C_rdS (i := i) (by omega) hL hB hT hO h8 hm
    by_cases c : (trS B L s t 4).1 = true
    · obtain ⟨σ', e', q', b'⟩ := A.2 c
      exact ⟨0, σ', bz_ck e' (Or.inl rfl), q', Or.inl ⟨rfl, c, b'⟩⟩
    · obtain ⟨σ', e', q', t', v'⟩ := A.1 (wi_f c)
      exact ⟨1, σ', bz_ck e' (Or.inr rfl), q', Or.inr ⟨rfl, t', fun h => absurd h c, fun _ => v'⟩⟩
  | none =>
    rw [oc_n, oc_n]
    by_cases c11 : isWd B t 11 = true
    · obtain ⟨z, σ', e', o'⟩ := C_rdQ hL hB hT hO h8 hm
      rw [if_t c11, if_pos c11]
      exact ⟨z, σ', bz_ck e' (outC_z o'), o'⟩
    · rw [if_f (wi_f c11), if_neg c11]
      have st : ∀ c n, c < 3 → lo3 F_X3_readItem_b49 (n + 1) 37 13 (nI c) σ = if b2i (isWd B t (12 + c)) = 0 then lo3 F_X3_readItem_b49 n 37 13 (nI (c + 1)) σ else bnd (F_X3_readPart 37 13 (nI c) σ) (fun z σ' => ck (z01 z) (some (z, σ'))) := by
        intro c n hc
        rw [lo3_s, F_X3_readItem_b49, if_neg (fun z => by have := (nI_ltI (a := 2) (by decide) (by omega)).mp z; omega), wP hc, bnd_s, k373, ck_t, show 112 + c = 100 + (12 + c) by omega, hw _ (by omega), bnd_s, nI_1]
      have s0 : lo3 F_X3_readItem_b49 1000 37 13 0 σ = _ := st 0 999 (by decide)
      rw [s0]
      by_cases c12 : isWd B t 12 = true
      · obtain ⟨z, σ', e', o'⟩ := C_rdN (c := 0) (m := 61) (by decide) (fun τ => rfl) (by decide) hL hB hT hO
        rw [if_t c12, if_pos c12]
        exact ⟨z, σ', bz_ck e' (outC_z o'), o'⟩
      · rw [if_f (wi_f c12), if_neg c12, st 1 998 (by decide)]
        by_cases c13 : isWd B t 13 = true
        · obtain ⟨z, σ', e', o'⟩ := C_rdN (c := 1) (m := 10) (by decide) (fun τ => rfl) (by decide) hL hB hT hO
          rw [if_t c13, if_pos c13]
          exact ⟨z, σ', bz_ck e' (outC_z o'), o'⟩
        · rw [if_f (wi_f c13), if_neg c13, st 2 997 (by decide)]
          by_cases c14 : isWd B t 14 = true
          · obtain ⟨z, σ', e', o'⟩ := C_rdN (c := 2) (m := 21) (by decide) (fun τ => rfl) (by decide) hL hB hT hO
            rw [if_t c14, if_pos c14]
            exact ⟨z, σ', bz_ck e' (outC_z o'), o'⟩
          · rw [if_f (wi_f c14), if_neg c14]
            refine ⟨0, σ, ?_, cq_r σ, Or.inl ⟨rfl, rfl, hT.2.1⟩⟩
            rw [lo3_s, F_X3_readItem_b49, if_pos (by decide)]

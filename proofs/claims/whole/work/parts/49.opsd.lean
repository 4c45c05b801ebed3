/-! PURE: the calls on sheets: fits, tall -/
def alR (nm : Nat → Int32) (a : Row) (i : Nat) : Nat → Nat → Bool
  | _, 0 => true
  | j, d + 1 => (decide (nm j = -1) || decide (nm j = fa a i (nI j))) && alR nm a i (j + 1) d
theorem alR_c {m i : Nat} {nm : Nat → Int32} {a b : Row} (h : agr m a b) (hi : i < m) : ∀ d j, alR nm a i j d = alR nm b i j d := by
  intro d
  induction d with
  | zero => intro j; rfl
  | succ d ih => intro j; rw [alR, alR, agr_fa h hi, ih]
theorem C_allows {q z j : Nat} (hq : q < 4) (hz : z ≤ 40) (hj : j < z) {σ : Sto} (h : σ (40 + 2 * q) 1 = nI z) (v : Int32) : F_X1_allows (40 + 2 * q) (nI j) v σ = some (b2i (decide (σ (40 + 2 * q + 1) j = -1) || decide (σ (40 + 2 * q + 1) j = v)), σ) := by
  rw [F_X1_allows, kdS hq, ck_t, C_num hq hz hj h, bnd_s]
  by_cases c : σ (40 + 2 * q + 1) j = -1
  · rw [if_pos c, decide_eq_true c]; rfl
  · rw [if_neg c, decide_eq_false c]
    by_cases c2 : σ (40 + 2 * q + 1) j = v
    · rw [if_pos c2, decide_eq_true c2]; rfl
    · rw [if_neg c2, decide_eq_false c2]; rfl
theorem C_alR {q z i e : Nat} (hq : q < 4) (hz : z ≤ 40) (hi : i < 8) (he : e ≤ 4) (hez : e ≤ z) (hend : e = 4 ∨ e = z) {σ : Sto} (h : σ (40 + 2 * q) 1 = nI z) : ∀ d j n, j + d = e → d < n → lo4 F_X4_isTallAsTold_b26 n 0 (40 + 2 * q) (some (13 + 1 + 1 + i)) (nI j) σ = some (b2i (alR (σ (40 + 2 * q + 1)) (V 13 σ) i j d), σ) := by
  intro d
  induction d with
  | zero =>
    intro j n hj hn
    obtain ⟨n, rfl⟩ : ∃ q, n = q + 1 := ⟨n - 1, by omega⟩
    have ej : j = e := by omega
    subst ej
    rw [lo4_s, F_X4_isTallAsTold_b26]
    by_cases c : (4 : Int32) ≤ nI j
    · rw [if_pos c]; rfl
    · have : j = z := by
        rcases hend with e6 | e6
        · subst e6; exact absurd (by decide) c
        · exact e6
      subst this
      rw [if_neg c, kdS hq, ck_t, h, if_pos (Int32.le_refl _)]; rfl
  | succ d ih =>
    intro j n hj hn
    obtain ⟨n, rfl⟩ : ∃ q, n = q + 1 := ⟨n - 1, by omega⟩
    rw [lo4_s, F_X4_isTallAsTold_b26, if_neg (show ¬ (4 : Int32) ≤ nI j from nI_lei (m := 4) (by omega) (by decide)), kdS hq, ck_t, h, if_neg (nI_lei (by omega) (by omega)), k04, ck_t, oc_s, C_faults k13 hi, bnd_s, C_allows hq hz (by omega) h, bnd_s, nI_1, ih (j + 1) n (by omega) (by omega), alR]
    cases (decide (σ (40 + 2 * q + 1) j = -1) || decide (σ (40 + 2 * q + 1) j = fa (V 13 σ) i (nI j))) <;> rfl
theorem M_alR {q z i e : Nat} (hq : q < 4) (hz : z ≤ 40) (hi : i < 8) (he : e ≤ 4) (hez : e ≤ z) (hend : e = 4 ∨ e = z) {σ : Sto} (h : σ 58 q = nI z) : ∀ d j n (c : Bool), j + d = e → d < n → lo5 F_X5_areFaultsSo_b5 n 49 (nI q) (nI i) (b2i c) (nI j) σ = some (b2i (c && alR (fun j => σ 59 (40 * q + j)) (σ 50) i j d), σ) := by
  intro d
  induction d with
  | zero =>
    intro j n c hj hn
    obtain ⟨n, rfl⟩ : ∃ q, n = q + 1 := ⟨n - 1, by omega⟩
    have ej : j = e := by omega
    subst ej
    rw [lo5_s, F_X5_areFaultsSo_b5, alR, Bool.and_true]
    by_cases c4 : (4 : Int32) ≤ nI j
    · rw [if_pos c4, z01_b, ck_t]
    · have : j = z := by
        rcases hend with e6 | e6
        · subst e6; exact absurd (by decide) c4
        · exact e6
      subst this
      rw [if_neg c4, k49, ck_t, inr_nI hq (by decide), ck_t, nI_clamp (by omega), h, if_pos (Int32.le_refl _), z01_b, ck_t]
  | succ d ih =>
    intro j n c hj hn
    obtain ⟨n, rfl⟩ : ∃ q, n = q + 1 := ⟨n - 1, by omega⟩
    rw [lo5_s, F_X5_areFaultsSo_b5, if_neg (show ¬ (4 : Int32) ≤ nI j from nI_lei (m := 4) (by omega) (by decide)), k49, ck_t, inr_nI hq (by decide), ck_t, nI_clamp (by omega), h, if_neg (nI_lei (by omega) (by omega)), n40 hq, inr_nI (by omega) (by decide), ck_t, lti_e, nI_clamp (by omega), M_faults hi, bnd_s, nI_1]
    have i1 := fun c => ih (j + 1) n c (by omega) (by omega)
    have it := i1 true
    have iF := i1 false
    cases c with
    | false => rw [if_f rfl]; exact iF
    | true =>
      rw [if_t rfl, alR]
      by_cases c1 : σ 59 (40 * q + j) = -1
      · rw [if_pos c1, decide_eq_true c1]; exact it
      · rw [if_neg c1, decide_eq_false c1]
        by_cases c2 : σ 59 (40 * q + j) = fa (σ 50) i (nI j)
        · rw [if_pos c2, decide_eq_true c2]; exact it
        · rw [if_neg c2, decide_eq_false c2]; exact iF
theorem alR_n {f g : Nat → Int32} {a : Row} {i : Nat} : ∀ d j, (∀ k, k < j + d → f k = g k) → alR f a i j d = alR g a i j d := by
  intro d
  induction d with
  | zero => intro j _; rfl
  | succ d ih => intro j hf; rw [alR, alR, hf j (by omega), ih (j + 1) (fun k hk => hf k (by omega))]
def dnT (T : Nat → Bool) : Nat → Int32 × Int32 → Int32 × Int32
  | 0, a => a
  | d + 1, a => dnT T d (if T d = true then (a.1 + 1, nI d) else a)
def ctU (T : Nat → Bool) (j : Nat) (x : Int32) : Int32 := if T j = true then x + 1 else x
theorem ctU_1 {T : Nat → Bool} (x : Int32) : ∀ d, fldU (ctU T) 0 d (x + 1) = fldU (ctU T) 0 d x + 1 := by
  intro d
  induction d with
  | zero => rfl
  | succ d ih =>
    rw [fldU_s, fldU_s, ih]
    unfold ctU
    split <;> rfl
theorem dnT_1 {T : Nat → Bool} : ∀ d a, (dnT T d a).1 = fldU (ctU T) 0 d a.1 := by
  intro d
  induction d with
  | zero => intro a; rfl
  | succ d ih =>
    intro a
    rw [dnT, ih, fldU_s, Nat.zero_add]
    show _ = if T d = true then _ else _
    by_cases c : T d = true
    · rw [if_pos c, if_pos c]; exact ctU_1 _ _
    · rw [if_neg c, if_neg c]
theorem lstU_s {T : Nat → Bool} : ∀ d j, lstU T j (d + 1) = ocase (lstU T j d) (if T (j + d) = true then some (j + d) else none) some := by
  intro d
  induction d with
  | zero => intro j; rfl
  | succ d ih =>
    intro j
    rw [lstU, ih (j + 1)]
    show _ = ocase (if T j = true then some j else lstU T (j + 1) d) _ _
    by_cases c : T j = true
    · rw [if_pos c, if_pos c]; rfl
    · rw [if_neg c, if_neg c, show j + 1 + d = j + (d + 1) by omega]
theorem dnT_2 {T : Nat → Bool} : ∀ d a, (dnT T d a).2 = ocase (lstU T 0 d) a.2 nI := by
  intro d
  induction d with
  | zero => intro a; rfl
  | succ d ih =>
    intro a
    rw [dnT, ih, lstU_s, Nat.zero_add]
    cases lstU T 0 d with
    | some k => rfl
    | none =>
      rw [oc_n, oc_n]
      by_cases c : T d = true
      · rw [if_pos c, if_pos c]; rfl
      · rw [if_neg c, if_neg c]; rfl
theorem M_fitL {q z i e m : Nat} (hq : q < 4) (hz : z ≤ 40) (hi : i < m) (h8 : m ≤ 8) (he : e ≤ 4) (hez : e ≤ z) (hend : e = 4 ∨ e = z) {a0 : Row} {nm : Nat → Int32} {T : Nat → Bool} (hT : T = fun t => alR nm (upd a0 (23 + 7 * i + 1) (nI t)) i 0 e) (kp : Int32) : ∀ d n (τ : Sto) (a : Int32 × Int32), d < n → d ≤ 91 → agrp m (23 + 7 * i + 1) a0 (τ 50) → τ 58 q = nI z → (∀ j, j < 40 → τ 59 (40 * q + j) = nm j) → τ 49 5 = a.1 → τ 49 6 = a.2 → ∃ τ', mqp (23 + 7 * i + 1) τ τ' ∧ lo6 F_X5_fitTall_b28 n 49 (nI q) (nI i) (nI (23 + 7 * i + 1)) kp (nI d - 1) τ = some ((), up2 τ' 50 (23 + 7 * i + 1) kp) ∧ τ' 49 5 = (dnT T d a).1 ∧ τ' 49 6 = (dnT T d a).2 := by
  intro d
  induction d with
  | zero =>
    intro n τ a hn hd hag h58 h59 h5 h6
    obtain ⟨n, rfl⟩ : ∃ q, n = q + 1 := ⟨n - 1, by omega⟩
    refine ⟨τ, mqp_r _ τ, ?_, h5, h6⟩
    rw [lo6_s, F_X5_fitTall_b28, if_pos (by decide), k49, ck_t, inr_nI (by omega) (by decide), ck_t, lts_e, nI_clamp (by omega)]
  | succ d ih =>
    intro n τ a hn hd hag h58 h59 h5 h6
    obtain ⟨n, rfl⟩ : ∃ q, n = q + 1 := ⟨n - 1, by omega⟩
    generalize hτ1 : up2 τ 50 (23 + 7 * i + 1) (nI d) = τ1
    have q1 : mqp (23 + 7 * i + 1) τ τ1 := by rw [← hτ1]; exact mqp_u _ τ _
    have o1 : ∀ k, ¬ k = 50 → τ1 k = τ k := fun k hk => by rw [← hτ1, up2_e, up1_n hk]
    have eT : F_X5_areFaultsSo 49 (nI q) (nI i) τ1 = some (b2i (T d), τ1) := by
      have := M_alR hq hz (i := i) (by omega) he hez hend (σ := τ1) (by rw [o1 58 (by decide)]; exact h58) e 0 1000 true (by omega) (by omega)
      refine this.trans ?_
      rw [Bool.true_and, hT]
      congr 3
      have ea : agr m (upd a0 (23 + 7 * i + 1) (nI d)) (τ1 50) := by rw [← hτ1, up2_e, up1_s]; exact agrp_u hag _
      rw [← alR_c ea hi, alR_n (f := fun j => τ1 59 (40 * q + j)) (g := nm) e 0 (fun k hk => by rw [o1 59 (by decide)]; exact h59 k (by omega))]
    have go : ∀ τ2 : Sto, τ2 = up1 τ1 49 (upd (upd (τ1 49) 5 (if T d = true then a.1 + 1 else a.1)) 6 (if T d = true then nI d else a.2)) → ∃ τ', mqp (23 + 7 * i + 1) τ τ' ∧ lo6 F_X5_fitTall_b28 n 49 (nI q) (nI i) (nI (23 + 7 * i + 1)) kp (nI d - 1) τ2 = some ((), up2 τ' 50 (23 + 7 * i + 1) kp) ∧ τ' 49 5 = (dnT T (d + 1) a).1 ∧ τ' 49 6 = (dnT T (d + 1) a).2 := by
      intro τ2 hτ2
      have p2 : ∀ k, ¬ k = 49 → τ2 k = τ1 k := fun k hk => by rw [hτ2, up1_n hk]
      have q2 : mqp (23 + 7 * i + 1) τ1 τ2 := by
        refine ⟨fun k a b c d e => p2 k a, ?_, ?_, fun j hj hn => by rw [p2 50 (by decide)]⟩
        · rw [hτ2, up1_s, upd_n (by decide), upd_n (by decide)]
        · rw [hτ2, up1_s, upd_n (by decide), upd_n (by decide)]
      obtain ⟨τ', q3, e3, e5, e6⟩ := ih n τ2 (if T d = true then (a.1 + 1, nI d) else a) (by omega) (by omega) (agrp_mqp h8 hag (mqp_t q1 q2)) (by rw [p2 58 (by decide), o1 58 (by decide)]; exact h58) (fun j hj => by rw [p2 59 (by decide), o1 59 (by decide)]; exact h59 j hj) (by
        rw [hτ2, up1_s, upd_n (by decide), upd_s]
        split <;> rfl) (by
        rw [hτ2, up1_s, upd_s]
        split <;> rfl)
      exact ⟨τ', mqp_t q1 (mqp_t q2 q3), e3, e5, e6⟩
    have h5' : τ1 49 5 = a.1 := by rw [o1 49 (by decide)]; exact h5
    have h6' : τ1 49 6 = a.2 := by rw [o1 49 (by decide)]; exact h6
    rw [nI_m1, lo6_s, F_X5_fitTall_b28, if_neg (nI_pos (by omega)), k49, ck_t, inr_nI (by omega) (by decide), ck_t, lts_e, nI_clamp (by omega), hτ1, eT, bnd_s, h5']
    by_cases c : T d = true
    · rw [if_t c, F_X5_fitTall_b64, k49, ck_t, lts_e, if_t c, ck_t, lts_e, ← Int32.sub_eq_add_neg]
      refine go _ ?_
      rw [if_pos c, if_pos c, up2_e τ1, up2_up1]
    · rw [if_f (wi_f c), F_X5_fitTall_b64, k49, ck_t, lts_e, if_f (wi_f c), ck_t, lts_e, ← Int32.sub_eq_add_neg]
      refine go _ ?_
      rw [if_neg c, if_neg c, up2_e τ1, up2_up1, up1_s, upd_n (by decide), h6', Int32.add_zero]
theorem M_fit {q z i e m : Nat} (hq : q < 4) (hz : z ≤ 40) (hi : i < m) (h8 : m ≤ 8) (he : e ≤ 4) (hez : e ≤ z) (hend : e = 4 ∨ e = z) {a0 : Row} {nm : Nat → Int32} {T : Nat → Bool} (hT : T = fun t => alR nm (upd a0 (23 + 7 * i + 1) (nI t)) i 0 e) {τ : Sto} (hag : agr m a0 (τ 50)) (h58 : τ 58 q = nI z) (h59 : ∀ j, j < 40 → τ 59 (40 * q + j) = nm j) : ∃ τ', mq τ τ' ∧ F_X5_fitTall 49 (nI q) (nI i) τ = some ((), τ') ∧ τ' 49 5 = (dnT T 91 (0, -1)).1 ∧ τ' 49 6 = (dnT T 91 (0, -1)).2 := by
  generalize hτ1 : up2 (up2 τ 49 5 0) 49 6 (-1) = τ1
  have o1 : ∀ k, ¬ k = 49 → τ1 k = τ k := fun k hk => by rw [← hτ1, up2_e, up1_n hk, up2_e, up1_n hk]
  have x49 : τ1 49 = upd (upd (τ 49) 5 0) 6 (-1) := by rw [← hτ1, up2_e, up1_s, up2_e, up1_s]
  obtain ⟨τ', q', e', e5, e6⟩ := M_fitL hq hz hi h8 he hez hend hT (τ 50 (23 + 7 * i + 1)) 91 1000 τ1 (0, -1) (by omega) (by omega) (by rw [o1 50 (by decide)]; exact agr_agrp hag) (by rw [o1 58 (by decide)]; exact h58) (fun j hj => by rw [o1 59 (by decide)]; exact h59 j hj) (by rw [x49, upd_n (by decide), upd_s]) (by rw [x49, upd_s])
  have q0 : mqp (23 + 7 * i + 1) τ τ1 := ⟨fun k a b c d e => o1 k a, by rw [x49, upd_n (by decide), upd_n (by decide)], by rw [x49, upd_n (by decide), upd_n (by decide)], fun j hj hn => by rw [o1 50 (by decide)]⟩
  refine ⟨_, mqp_end (mqp_t q0 q'), ?_, by rw [up2_e, up1_n (by decide)]; exact e5, by rw [up2_e, up1_n (by decide)]; exact e6⟩
  rw [F_X5_fitTall, M_at1, bnd_s, k49, ck_t, inr_nI (by omega) (by decide), ck_t, lti_e, lts_e, lts_e, nI_clamp (by omega), hτ1]
  exact e'

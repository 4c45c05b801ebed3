/-! PURE: text: words, numbers -/
theorem nI_sb {a b : Nat} (h : b ≤ a) : nI a - nI b = nI (a - b) := by
  rw [show nI a = nI (a - b) + nI b by rw [nI_add, show a - b + b = a by omega], Int32.add_sub_cancel]
def wlB (B : Row) : Nat → Nat → List Int32
  | _, 0 => []
  | b, d + 1 => B b :: wlB B (b + 1) d
def isWd (B : Row) (t : Nat × Nat × Nat × Nat) (q : Nat) : Bool := decide (t.2.2.1 = 1) && decide (wlB B t.1 (t.2.1 - t.1) = strB (100 + q))
theorem wlB_len (B : Row) : ∀ d b, (wlB B b d).length = d := by
  intro d
  induction d with
  | zero => intro b; rfl
  | succ d ih => intro b; rw [wlB, List.length_cons, ih]
theorem isStr_q {q : Nat} (h : q < 15) : isStr (100 + q) = true := by
  unfold isStr
  rw [decide_eq_true (by omega), decide_eq_true (by omega)]
  rfl
theorem str_l : ∀ q, q < 15 → (strB (100 + q)).length < 8 := by decide +kernel
theorem str_u : ∀ q, q < 15 → ∀ q', q' < 15 → strB (100 + q) = strB (100 + q') → q = q' := by decide +kernel
theorem isWd_u {B : Row} {t : Nat × Nat × Nat × Nat} {q q' : Nat} (h : q < 15) (h' : q' < 15) (e : isWd B t q = true) (e' : isWd B t q' = true) : q = q' := by
  unfold isWd at e e'
  rw [Bool.and_eq_true, decide_eq_true_eq, decide_eq_true_eq] at e e'
  exact str_u q h q' h' (e.2.symm.trans e'.2)
theorem getD_drop (l : List Int32) {i : Nat} (h : i < l.length) : l.drop i = l.getD i 0 :: l.drop (i + 1) := by
  rw [List.drop_eq_getElem_cons h, List.getD_eq_getElem?_getD, List.getElem?_eq_getElem h, Option.getD_some]
theorem wl_ne {B : Row} {b d : Nat} {l : List Int32} (h : ¬ l.length = d) : ¬ wlB B b d = l := fun e => h (by rw [← e, wlB_len])
def tOk (B : Row) (L : Nat) (t : Nat × Nat × Nat × Nat) : Prop := t.1 ≤ t.2.1 ∧ t.2.1 ≤ L ∧ t.2.2.1 ≤ 4 ∧ t.2.2.2 ≤ 1000 ∧ (t.2.2.1 = 1 → t.1 < t.2.1) ∧ (t.2.2.1 = 3 ∨ t.2.2.1 = 4 → t.1 < L ∧ (t.2.2.1 = 3 ↔ B t.1 = 59))
theorem tkn_t {B : Row} {L e : Nat} (he : e ≤ L) : tOk B L (tkn B L e) ∧ e ≤ (tkn B L e).1 := by
  obtain ⟨h1, h2, h3, h4, h5⟩ := tkn_ok (B := B) he
  exact ⟨⟨h2, h3, h4, h5, tkn_w he, tkn_59⟩, h1⟩
/-- the class: a word -/
theorem C_wl {σ : Sto} {t : Nat × Nat × Nat × Nat} {L q : Nat} (hq : q < 15) (hL : L ≤ 120) (hT : tkC L t (σ 37)) (he : t.1 + (strB (100 + q)).length ≤ L) : ∀ d i n, i + d = (strB (100 + q)).length → d < n → lo3 F_X3_isWord_b28 n 37 (100 + q) (nI i) σ = some (b2i (decide (wlB (σ 38) (t.1 + i) d = (strB (100 + q)).drop i)), σ) := by
  have hl := str_l q hq
  intro d
  induction d with
  | zero =>
    intro i n hi hn
    obtain ⟨n, rfl⟩ : ∃ q, n = q + 1 := ⟨n - 1, by omega⟩
    rw [lo3_s, F_X3_isWord_b28, isStr_q hq, ck_t, F_J0_length_8abf5, isStr_q hq, ck_t, bnd_s, if_pos ((nI_leI (by omega) (by omega)).mpr (by omega)), wlB, List.drop_eq_nil_of_le (by omega), decide_eq_true rfl]
    rfl
  | succ d ih =>
    intro i n hi hn
    obtain ⟨n, rfl⟩ : ∃ q, n = q + 1 := ⟨n - 1, by omega⟩
    have hin : i < (strB (100 + q)).length := by omega
    rw [lo3_s, F_X3_isWord_b28, isStr_q hq, ck_t, F_J0_length_8abf5, isStr_q hq, ck_t, bnd_s, if_neg (nI_lei hin (by omega)), k373, ck_t, hT.2.1, nI_add, C_by (B := σ 38) (L := L) hT.1 hL rfl (by omega), bnd_s, F_J0_charAt_5068e, isStr_q hq, ck_t, inr_nI hin (by omega), ck_t, bnd_s, nI_clamp (by omega), byB_lt (by omega), nI_1, ih (i + 1) n (by omega) (by omega), wlB, getD_drop _ hin]
    by_cases c : σ 38 (t.1 + i) = (strB (100 + q)).getD i 0
    · rw [if_pos c, ← Nat.add_assoc]
      by_cases c2 : wlB (σ 38) (t.1 + i + 1) d = (strB (100 + q)).drop (i + 1)
      · rw [decide_eq_true c2, decide_eq_true (by rw [c, c2])]
      · rw [decide_eq_false c2, decide_eq_false (fun e => c2 (List.cons.inj e).2)]
    · rw [if_neg c, decide_eq_false (fun e => c (List.cons.inj e).1)]
      rfl
theorem C_isWd {σ : Sto} {t : Nat × Nat × Nat × Nat} {L q : Nat} (hq : q < 15) (hL : L ≤ 120) (hT : tkC L t (σ 37)) (hO : tOk (σ 38) L t) : F_X3_isWord 37 (100 + q) σ = some (b2i (isWd (σ 38) t q), σ) := by
  have hl := str_l q hq
  rw [F_X3_isWord, k373, ck_t, hT.2.2.2.1, isStr_q hq, ck_t, F_J0_length_8abf5, isStr_q hq, ck_t, bnd_s, hT.2.2.1, hT.2.1, nI_sb hO.1]
  unfold isWd
  by_cases c : t.2.2.1 = 1
  · rw [c, if_pos (show nI 1 = 1 from rfl), decide_eq_true rfl, Bool.true_and]
    by_cases c2 : (strB (100 + q)).length = t.2.1 - t.1
    · have h := C_wl hq hL hT (by have := hO.2.1; have := hO.1; omega) (strB (100 + q)).length 0 1000 (by omega) (by omega)
      rw [if_pos (by rw [c2]), ← c2]
      exact h
    · rw [if_neg (fun e => c2 ((nI_eq (by have := hO.2.1; omega) (by omega)).mp e).symm), decide_eq_false (wl_ne c2)]
      rfl
  · rw [if_neg (show ¬ nI t.2.2.1 = 1 from fun e => c ((nI_eq (b := 1) (by have := hO.2.2.1; omega) (by decide)).mp e)), decide_eq_false c, Bool.false_and]
    rfl
/-- the reference: a word -/
theorem M_wl0 {σ : Sto} {q : Nat} (hq : q < 15) (n i : Nat) : lo4 F_X5_isWord_b32 (n + 1) 49 (100 + q) 0 (nI i) σ = some (0, σ) := by
  rw [lo4_s, F_X5_isWord_b32, isStr_q hq, ck_t, F_J0_length_8abf5, isStr_q hq, ck_t, bnd_s, if_pos rfl, show z01 0 = true by decide, ck_t]
  split <;> rfl
theorem M_wl {σ : Sto} {B : Row} {t : Nat × Nat × Nat × Nat} {L q : Nat} (hq : q < 15) (hL : L ≤ 120) (hB : ∀ j, j < L → σ 54 j = B j) (hT : σ 49 9 = nI t.1) (he : t.1 + (strB (100 + q)).length ≤ L) : ∀ d i n, i + d = (strB (100 + q)).length → d + 1 < n → lo4 F_X5_isWord_b32 n 49 (100 + q) 1 (nI i) σ = some (b2i (decide (wlB B (t.1 + i) d = (strB (100 + q)).drop i)), σ) := by
  have hl := str_l q hq
  intro d
  induction d with
  | zero =>
    intro i n hi hn
    obtain ⟨n, rfl⟩ : ∃ q, n = q + 1 := ⟨n - 1, by omega⟩
    rw [lo4_s, F_X5_isWord_b32, isStr_q hq, ck_t, F_J0_length_8abf5, isStr_q hq, ck_t, bnd_s, if_pos ((nI_leI (by omega) (by omega)).mpr (by omega)), wlB, List.drop_eq_nil_of_le (by omega), decide_eq_true rfl, show z01 1 = true by decide, ck_t]
    rfl
  | succ d ih =>
    intro i n hi hn
    obtain ⟨n, rfl⟩ : ∃ q, n = q + 1 + 1 := ⟨n - 2, by omega⟩
    have hin : i < (strB (100 + q)).length := by omega
    rw [lo4_s, F_X5_isWord_b32, isStr_q hq, ck_t, F_J0_length_8abf5, isStr_q hq, ck_t, bnd_s, if_neg (nI_lei hin (by omega)), if_neg (by decide), k49, ck_t, hT, nI_add, inr_nI (by omega) (by decide), ck_t, F_J0_charAt_5068e, isStr_q hq, ck_t, inr_nI hin (by omega), ck_t, bnd_s, nI_clamp (by omega), nI_clamp (by omega), hB _ (by omega), nI_1, ih (i + 1) (n + 1) (by omega) (by omega), M_wl0 hq, wlB, getD_drop _ hin]
    by_cases c : B (t.1 + i) = (strB (100 + q)).getD i 0
    · rw [if_pos c, ← Nat.add_assoc]
      by_cases c2 : wlB B (t.1 + i + 1) d = (strB (100 + q)).drop (i + 1)
      · rw [decide_eq_true c2, decide_eq_true (by rw [c, c2])]
      · rw [decide_eq_false c2, decide_eq_false (fun e => c2 (List.cons.inj e).2)]
    · rw [if_neg c, decide_eq_false (fun e => c (List.cons.inj e).1)]
      rfl
theorem t4_1 {k : Nat} (h : k ≤ 4) : (nI (if k = 4 then 3 else k) = 1) = (k = 1) := by
  rcases (show k = 0 ∨ k = 1 ∨ k = 2 ∨ k = 3 ∨ k = 4 by omega) with rfl | rfl | rfl | rfl | rfl <;> decide +kernel
theorem t4_2 {k : Nat} (h : k ≤ 4) : (nI (if k = 4 then 3 else k) = 2) = (k = 2) := by
  rcases (show k = 0 ∨ k = 1 ∨ k = 2 ∨ k = 3 ∨ k = 4 by omega) with rfl | rfl | rfl | rfl | rfl <;> decide +kernel
theorem M_isWd {σ : Sto} {B : Row} {t : Nat × Nat × Nat × Nat} {L q : Nat} (hq : q < 15) (hL : L ≤ 120) (hB : ∀ j, j < L → σ 54 j = B j) (hT : tkM L t (σ 49)) (hO : tOk B L t) : F_X5_isWord 49 (100 + q) σ = some (b2i (isWd B t q), σ) := by
  have hl := str_l q hq
  rw [F_X5_isWord, k49, ck_t, hT.2.2.2.1, isStr_q hq, ck_t, F_J0_length_8abf5, isStr_q hq, ck_t, bnd_s, hT.2.2.1, hT.2.1, nI_sb hO.1]
  unfold isWd
  have z : lo4 F_X5_isWord_b32 1000 49 (100 + q) 0 0 σ = some (0, σ) := M_wl0 hq 999 0
  by_cases c : t.2.2.1 = 1
  · rw [if_pos (show nI (if t.2.2.1 = 4 then 3 else t.2.2.1) = 1 by rw [c]; rfl), decide_eq_true c, Bool.true_and]
    by_cases c2 : (strB (100 + q)).length = t.2.1 - t.1
    · have h := M_wl hq hL hB hT.2.1 (by have := hO.2.1; have := hO.1; omega) (strB (100 + q)).length 0 1000 (by omega) (by omega)
      rw [if_pos (by rw [c2]), ← c2]
      exact h
    · rw [if_neg (fun e => c2 ((nI_eq (by have := hO.2.1; omega) (by omega)).mp e).symm), decide_eq_false (wl_ne c2), z]
      rfl
  · rw [if_neg (by rw [t4_1 hO.2.2.1]; exact c), decide_eq_false c, Bool.false_and, z]
    rfl
/-! numbers -/
def isN (t : Nat × Nat × Nat × Nat) (s : Nat) : Bool := decide (t.2.2.1 = 2) && decide (t.2.2.2 < s)
theorem nI_below {s w : Nat} (hs : s ≤ 1000) (hw : w ≤ 1000) : (nI s - 1 < nI w) = ¬ w < s := by
  rw [Int32.lt_iff_toInt_lt, show (nI s - 1).toInt = (s : Int) - 1 from pk_sub_toInt (b := 1) (by omega) (by decide), nI_toInt (by omega)]
  exact propext ⟨fun h => by omega, fun h => by omega⟩
theorem C_isN {σ : Sto} {t : Nat × Nat × Nat × Nat} {L s : Nat} (hs : s ≤ 1000) (hT : tkC L t (σ 37)) (hk : t.2.2.1 ≤ 4) (hw : t.2.2.2 ≤ 1000) : F_X3_isNumber 37 (nI s - 1) σ = some (b2i (isN t s), σ) := by
  rw [F_X3_isNumber, k373, ck_t, hT.2.2.2.1]
  unfold isN
  by_cases c : t.2.2.1 = 2
  · rw [if_pos (by rw [c]; rfl), hT.2.2.2.2 c, decide_eq_true c, Bool.true_and]
    by_cases c2 : t.2.2.2 < s
    · rw [if_neg (by rw [nI_below hs hw]; exact fun h => h c2), decide_eq_true c2]; rfl
    · rw [if_pos (by rw [nI_below hs hw]; exact c2), decide_eq_false c2]; rfl
  · rw [if_neg (show ¬ nI t.2.2.1 = 2 from fun e => c ((nI_eq (b := 2) (by omega) (by decide)).mp e)), decide_eq_false c, Bool.false_and]; rfl
theorem wi_N {s w : Nat} (hs : s ≤ 1000) (hw : w ≤ 1000) : wi (nI w) 0 (nI s - 1) = decide (w < s) := by
  unfold wi
  rw [decide_eq_false (nI_pos (by omega)), Bool.not_false, Bool.true_and]
  by_cases c : w < s
  · rw [decide_eq_true c, decide_eq_false (by rw [nI_below hs hw]; exact fun h => h c)]; rfl
  · rw [decide_eq_false c, decide_eq_true (by rw [nI_below hs hw]; exact c)]; rfl
/-! the reference's token and fault, together -/
def mst (B : Row) (L : Nat) (x : Bool) (S : Bool × Nat × Nat × Nat × Nat) : Bool × Nat × Nat × Nat × Nat := if S.1 = true then (true, S.2) else if x = true then (false, tkn B L S.2.2.1) else (true, S.2)
def nbr (B : Row) (L s : Nat) (S : Bool × Nat × Nat × Nat × Nat) : Bool × Nat × Nat × Nat × Nat := mst B L (isN S.2 s) S
theorem mst_0 (B : Row) (L : Nat) (t : Nat × Nat × Nat × Nat) : mst B L true (false, t) = (false, tkn B L t.2.1) := rfl
theorem nbr_0 (B : Row) (L s : Nat) (t : Nat × Nat × Nat × Nat) : nbr B L s (false, t) = if isN t s = true then (false, tkn B L t.2.1) else (true, t) := rfl
def prh (B : Row) (L q s : Nat) (S : Bool × Nat × Nat × Nat × Nat) : Bool × Nat × Nat × Nat × Nat := if S.1 = true then S else if isWd B S.2 q = true then nbr B L s (mst B L true S) else S
def prV (B : Row) (L q : Nat) (d : Int32) (S : Bool × Nat × Nat × Nat × Nat) : Int32 := if isWd B S.2 q = true then nI (tkn B L S.2.2.1).2.2.2 else d
def sitM (L : Nat) (S : Bool × Nat × Nat × Nat × Nat) (g : Row) : Prop := tkM L S.2 g ∧ g 13 = b2i S.1
def gsn (g' g : Row) : Prop := ∀ j, ¬ (9 ≤ j ∧ j < 14) → g' j = g j
theorem gsn_t {a b c : Row} (h : gsn a b) (h2 : gsn b c) : gsn a c := fun j hj => (h j hj).trans (h2 j hj)
theorem gsn_r (a : Row) : gsn a a := fun _ _ => rfl
theorem mst_ok {B : Row} {L : Nat} {x : Bool} {S : Bool × Nat × Nat × Nat × Nat} (h : tOk B L S.2) : tOk B L (mst B L x S).2 ∧ S.2.1 ≤ (mst B L x S).2.1 := by
  unfold mst
  split
  · exact ⟨h, Nat.le_refl _⟩
  · split
    · have := tkn_t (B := B) h.2.1
      exact ⟨this.1, (by have := h.1; omega : S.2.1 ≤ (tkn B L S.2.2.1).1)⟩
    · exact ⟨h, Nat.le_refl _⟩
theorem prh_ok {B : Row} {L q s : Nat} {S : Bool × Nat × Nat × Nat × Nat} (h : tOk B L S.2) : tOk B L (prh B L q s S).2 ∧ S.2.1 ≤ (prh B L q s S).2.1 := by
  unfold prh
  split
  · exact ⟨h, Nat.le_refl _⟩
  · split
    · have h1 := mst_ok (x := true) h
      have h2 := mst_ok (x := isN (mst B L true S).2 s) h1.1
      exact ⟨h2.1, Nat.le_trans h1.2 h2.2⟩
    · exact ⟨h, Nat.le_refl _⟩
theorem tkM_u {L : Nat} {t : Nat × Nat × Nat × Nat} {g g' : Row} (h : tkM L t g) (e : ∀ j, 8 ≤ j → j < 13 → g' j = g j) : tkM L t g' := ⟨by rw [e 8 (by decide) (by decide)]; exact h.1, by rw [e 9 (by decide) (by decide)]; exact h.2.1, by rw [e 10 (by decide) (by decide)]; exact h.2.2.1, by rw [e 11 (by decide) (by decide)]; exact h.2.2.2.1, fun q => by rw [e 12 (by decide) (by decide)]; exact h.2.2.2.2 q⟩
theorem M_mst {σ : Sto} {B : Row} {L : Nat} {S : Bool × Nat × Nat × Nat × Nat} (x : Bool) (hL : L ≤ 120) (hB : ∀ j, j < L → σ 54 j = B j) (hO : tOk B L S.2) (hT : sitM L S (σ 49)) : ∃ g, F_X5_must 49 (b2i x) σ = some ((), up1 σ 49 g) ∧ sitM L (mst B L x S) g ∧ gsn g (σ 49) := by
  have e12 : F_X5_must_b12 49 49 σ = some ((), up1 σ 49 (upd (σ 49) 13 1)) := by
    rw [F_X5_must_b12, k49, ck_t, lts_e, ck_t, up2_e, up1_s, upd_s, if_neg (by decide)]
  have s1 : sitM L (true, S.2) (upd (σ 49) 13 1) := ⟨tkM_u hT.1 (fun j _ h => upd_n (by omega)), upd_s _ _ _⟩
  have s2 : gsn (upd (σ 49) 13 1) (σ 49) := fun j hj => upd_n (by omega)
  unfold mst
  rw [F_X5_must, k49, ck_t, hT.2]
  by_cases c : S.1 = true
  · rw [if_t c, if_pos c, e12]
    exact ⟨_, rfl, s1, s2⟩
  · rw [if_f (wi_f c), if_neg c]
    by_cases cx : x = true
    · rw [if_t cx, if_pos cx, lts_e, up2_e]
      have r : (up1 σ 49 (upd (σ 49) 13 0)) 49 13 = 0 := by rw [up1_s, upd_s]
      rw [if_pos r]
      obtain ⟨g', e', t', j'⟩ := M_tok (σ := σ) (B := B) (g := upd (σ 49) 13 0) hL hB (by rw [upd_n (by decide)]; exact hT.1.1) hO.2.1 (by rw [upd_n (by decide)]; exact hT.1.2.2.1)
      rw [e', bnd_s]
      refine ⟨g', rfl, ⟨t', ?_⟩, fun j hj => ?_⟩
      · rw [j' 13 (by decide) (by decide) (by decide) (by decide), upd_s]; rfl
      · rw [j' j (by omega) (by omega) (by omega) (by omega), upd_n (by omega)]
    · rw [if_f (wi_f cx), if_neg cx, e12]
      exact ⟨_, rfl, s1, s2⟩
theorem M_nbr {σ : Sto} {B : Row} {L s : Nat} {S : Bool × Nat × Nat × Nat × Nat} (hs : s ≤ 1000) (hL : L ≤ 120) (hB : ∀ j, j < L → σ 54 j = B j) (hO : tOk B L S.2) (hT : sitM L S (σ 49)) : ∃ v g, F_X5_number 49 0 (nI s - 1) σ = some (v, up1 σ 49 g) ∧ sitM L (nbr B L s S) g ∧ gsn g (σ 49) ∧ (isN S.2 s = true → v = nI S.2.2.2.2) := by
  have e0 : F_X5_number 49 0 (nI s - 1) σ = bnd (F_X5_must 49 (b2i (isN S.2 s)) σ) (fun _ σ' => some (σ 49 12, σ')) := by
    rw [F_X5_number, k49, ck_t, lti_e, hT.1.2.2.2.1]
    unfold isN
    by_cases c : S.2.2.2.1 = 2
    · rw [if_pos (by rw [t4_2 hO.2.2.1]; exact c), hT.1.2.2.2.2 c, M_within, bnd_s, wi_N hs hO.2.2.2.1, decide_eq_true c, Bool.true_and]
      by_cases c2 : S.2.2.2.2 < s
      · rw [decide_eq_true c2, if_t rfl]; rfl
      · rw [decide_eq_false c2, if_f rfl]; rfl
    · rw [if_neg (by rw [t4_2 hO.2.2.1]; exact c), decide_eq_false c, Bool.false_and]; rfl
  obtain ⟨g, e, s1, s2⟩ := M_mst (isN S.2 s) hL hB hO hT
  refine ⟨σ 49 12, g, by rw [e0, e, bnd_s], s1, s2, fun h => ?_⟩
  unfold isN at h
  rw [Bool.and_eq_true, decide_eq_true_eq] at h
  exact hT.1.2.2.2.2 h.1
theorem up1_54 {σ : Sto} {B g : Row} {L k : Nat} (hk : ¬ k = 54) (hB : ∀ j, j < L → σ 54 j = B j) : ∀ j, j < L → (up1 σ k g) 54 j = B j := fun j hj => by rw [up1_n (fun e => hk e.symm)]; exact hB j hj
theorem M_prh {σ : Sto} {B : Row} {L q s : Nat} {S : Bool × Nat × Nat × Nat × Nat} (d : Int32) (hq : q < 15) (hs : s ≤ 1000) (hL : L ≤ 120) (hB : ∀ j, j < L → σ 54 j = B j) (hO : tOk B L S.2) (hT : sitM L S (σ 49)) : ∃ v g, F_X5_perhaps 49 (100 + q) (nI s - 1) d σ = some (v, up1 σ 49 g) ∧ sitM L (prh B L q s S) g ∧ gsn g (σ 49) ∧ ((prh B L q s S).1 = false → v = prV B L q d S) := by
  rw [F_X5_perhaps, k49, ck_t, hT.2, M_isWd hq hL hB hT.1 hO, bnd_s]
  unfold prh prV
  by_cases c : S.1 = true
  · rw [if_t c, if_pos c]
    exact ⟨d, σ 49, by rw [up1_same rfl], hT, gsn_r _, fun h => absurd (c.symm.trans h) (by decide)⟩
  · rw [if_f (wi_f c), if_neg c]
    by_cases cw : isWd B S.2 q = true
    · rw [if_t cw, if_pos cw, if_pos cw]
      obtain ⟨g1, e1, t1, j1⟩ := M_mst true hL hB hO hT
      have o1 := mst_ok (x := true) hO
      obtain ⟨v, g2, e2, t2, j2, v2⟩ := M_nbr (σ := up1 σ 49 g1) (S := mst B L true S) hs hL (up1_54 (by decide) hB) o1.1 (by rw [up1_s]; exact t1)
      have e1' : F_X5_must 49 1 σ = some ((), up1 σ 49 g1) := e1
      rw [e1', bnd_s, e2, bnd_s, up1_t]
      rw [up1_s] at j2
      refine ⟨v, g2, rfl, t2, gsn_t j2 j1, fun h => ?_⟩
      have em : mst B L true S = (false, tkn B L S.2.2.1) := by unfold mst; rw [if_neg c, if_pos rfl]
      rw [em] at h v2
      by_cases cn : isN (tkn B L S.2.2.1) s = true
      · exact v2 cn
      · rw [nbr_0, if_neg cn] at h
        exact absurd (show true = false from h) (by decide)
    · rw [if_f (wi_f cw), if_neg cw, if_neg cw]
      exact ⟨d, σ 49, by rw [up1_same rfl], hT, gsn_r _, fun _ => rfl⟩

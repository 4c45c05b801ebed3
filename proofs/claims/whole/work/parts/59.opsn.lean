/-! PURE: text: its tokens, on both sides -/
theorem k373 : (kd 37 == 3) = true := by decide
def byB (B : Row) (L i : Nat) : Int32 := if i < L then B i else -1
def skp (P : Nat → Bool) : Nat → Nat → Nat
  | 0, e => e
  | d + 1, e => if P e = true then skp P d (e + 1) else e
def spT (B : Row) (L i : Nat) : Bool := decide (byB B L i = 32)
def ltT (B : Row) (L i : Nat) : Bool := wi (byB B L i) 97 122
def dgT (B : Row) (L i : Nat) : Bool := wi (byB B L i) 48 57
def dgS (w q : Nat) : Nat := if 1000 < 10 * w + q then 1000 else 10 * w + q
def dgW (B : Row) (L : Nat) : Nat → Nat → Nat → Nat × Nat
  | 0, e, w => (e, w)
  | d + 1, e, w => if dgT B L e = true then dgW B L d (e + 1) (dgS w ((byB B L e).toNatClampNeg - 48)) else (e, w)
def tkB (B : Row) (L b : Nat) : Nat × Nat × Nat × Nat := if byB B L b < 0 then (b, b, 0, 0) else if ltT B L b = true then (b, skp (ltT B L) (L - b) b, 1, 0) else if dgT B L b = true then (b, (dgW B L (L - b) b 0).1, 2, (dgW B L (L - b) b 0).2) else (b, b + 1, if byB B L b = 59 then 3 else 4, 0)
def tkn (B : Row) (L e : Nat) : Nat × Nat × Nat × Nat := tkB B L (skp (spT B L) (L - e) e)
theorem byB_lt {B : Row} {L i : Nat} (h : i < L) : byB B L i = B i := by unfold byB; rw [if_pos h]
theorem byB_ge {B : Row} {L i : Nat} (h : L ≤ i) : byB B L i = -1 := by unfold byB; rw [if_neg (by omega)]
theorem spT_ge {B : Row} {L i : Nat} (h : L ≤ i) : spT B L i = false := by unfold spT; rw [byB_ge h]; decide
theorem ltT_ge {B : Row} {L i : Nat} (h : L ≤ i) : ltT B L i = false := by unfold ltT; rw [byB_ge h]; decide
theorem dgT_ge {B : Row} {L i : Nat} (h : L ≤ i) : dgT B L i = false := by unfold dgT; rw [byB_ge h]; decide
theorem skp_b (P : Nat → Bool) : ∀ d e, e ≤ skp P d e ∧ skp P d e ≤ e + d := by
  intro d
  induction d with
  | zero => intro e; exact ⟨Nat.le_refl _, Nat.le_refl _⟩
  | succ d ih =>
    intro e
    rw [skp]
    obtain ⟨h1, h2⟩ := ih (e + 1)
    split
    · exact ⟨by omega, by omega⟩
    · exact ⟨by omega, by omega⟩
theorem dgW_b (B : Row) (L : Nat) : ∀ d e w, w ≤ 1000 → e ≤ (dgW B L d e w).1 ∧ (dgW B L d e w).1 ≤ e + d ∧ (dgW B L d e w).2 ≤ 1000 := by
  intro d
  induction d with
  | zero => intro e w h; exact ⟨Nat.le_refl _, Nat.le_refl _, h⟩
  | succ d ih =>
    intro e w h
    rw [dgW]
    obtain ⟨h1, h2, h3⟩ := ih (e + 1) (dgS w ((byB B L e).toNatClampNeg - 48)) (by unfold dgS; split <;> omega)
    split
    · exact ⟨by omega, by omega, h3⟩
    · exact ⟨by omega, by omega, h⟩
theorem dg_of {c : Int32} (h : wi c 48 57 = true) : ∃ q, q < 10 ∧ c = nI (48 + q) := by
  unfold wi at h
  rw [Bool.and_eq_true, Bool.not_eq_true', Bool.not_eq_true', decide_eq_false_iff_not, decide_eq_false_iff_not] at h
  obtain ⟨n, hn, rfl⟩ := nI_of (x := c) (fun q => h.1 (Int32.lt_trans q (by decide)))
  have h1 : ¬ n < 48 := fun q => h.1 ((nI_ltI (b := 48) hn (by decide)).mpr q)
  have h2 : ¬ 57 < n := fun q => h.2 ((nI_ltI (a := 57) (by decide) hn).mpr q)
  exact ⟨n - 48, by omega, by rw [show 48 + (n - 48) = n by omega]⟩
theorem dg_st : ∀ w, w < 1001 → ∀ q, q < 10 → imin (nI w * 10 + nI (48 + q) - 48) 1000 = nI (dgS w q) ∧ imin 1000 (10 * nI w + nI (48 + q) - 48) = nI (dgS w q) := by decide +kernel
theorem dgS_le (w q : Nat) : dgS w q ≤ 1000 := by unfold dgS; split <;> omega
/-- the class -/
theorem C_by {τ : Sto} {B : Row} {L i : Nat} (h1 : τ 37 1 = nI L) (hL : L ≤ 120) (hB : τ 38 = B) (hi : i ≤ 1000) : F_X3_byteAt 37 (nI i) τ = some (byB B L i, τ) := by
  rw [F_X3_byteAt, if_neg (nI_pos (by omega)), k373, ck_t, h1]
  by_cases h : i < L
  · rw [if_neg (nI_lei h (by omega)), if_neg (show ¬ (120 : Int32) ≤ nI i from nI_lei (m := 120) (by omega) (by decide)), inr_nI (by omega) (by decide), ck_t, nI_clamp (by omega), show 37 + 1 = 38 from rfl, hB, byB_lt h]
  · rw [if_pos ((nI_leI (by omega) (by omega)).mpr (by omega)), byB_ge (by omega)]
theorem C_isL (c : Int32) (σ : Sto) : F_X3_isLetter c σ = some (b2i (wi c 97 122), σ) := by
  rw [F_X3_isLetter]; unfold wi
  by_cases h1 : c < 97
  · rw [if_pos h1, decide_eq_true h1]; rfl
  · rw [if_neg h1, decide_eq_false h1]
    by_cases h2 : 122 < c
    · rw [if_pos h2, decide_eq_true h2]; rfl
    · rw [if_neg h2, decide_eq_false h2]; rfl
theorem C_isD (c : Int32) (σ : Sto) : F_X3_isDigit c σ = some (b2i (wi c 48 57), σ) := by
  rw [F_X3_isDigit]; unfold wi
  by_cases h1 : c < 48
  · rw [if_pos h1, decide_eq_true h1]; rfl
  · rw [if_neg h1, decide_eq_false h1]
    by_cases h2 : 57 < c
    · rw [if_pos h2, decide_eq_true h2]; rfl
    · rw [if_neg h2, decide_eq_false h2]; rfl
theorem C_sp {σ : Sto} {L : Nat} (hL : L ≤ 120) : ∀ d e n (g : Row), e + d = L → d < n → g 1 = nI L → g 2 = nI e → ∃ g', lo1 F_X3_nextToken_b8 n 37 (up1 σ 37 g) = F_X3_nextToken_b45 37 (up1 σ 37 g') ∧ g' 2 = nI (skp (spT (σ 38) L) d e) ∧ ∀ j, ¬ j = 2 → g' j = g j := by
  intro d
  induction d with
  | zero =>
    intro e n g he hn h1 h2
    obtain ⟨n, rfl⟩ : ∃ q, n = q + 1 := ⟨n - 1, by omega⟩
    refine ⟨g, ?_, h2, fun j _ => rfl⟩
    rw [lo1_s, F_X3_nextToken_b8, k373, ck_t, up1_s, h1, h2, if_pos ((nI_leI (by omega) (by omega)).mpr (by omega))]
  | succ d ih =>
    intro e n g he hn h1 h2
    obtain ⟨n, rfl⟩ : ∃ q, n = q + 1 := ⟨n - 1, by omega⟩
    have s0 : lo1 F_X3_nextToken_b8 (n + 1) 37 (up1 σ 37 g) = if byB (σ 38) L e = 32 then lo1 F_X3_nextToken_b8 n 37 (up1 σ 37 (upd g 2 (nI (e + 1)))) else F_X3_nextToken_b45 37 (up1 σ 37 g) := by
      rw [lo1_s, F_X3_nextToken_b8, k373, ck_t, up1_s, h1, h2, if_neg (nI_lei (show e < L by omega) (by omega)), C_by (B := σ 38) (L := L) (by rw [up1_s]; exact h1) hL (up1_n (by decide)) (by omega), bnd_s, lts_e, up1_s, h2, nI_1, up2_up1]
    rw [s0, skp]
    by_cases c : byB (σ 38) L e = 32
    · obtain ⟨g', e', h2', hj⟩ := ih (e + 1) n (upd g 2 (nI (e + 1))) (by omega) (by omega) (by rw [upd_n (by decide)]; exact h1) (upd_s _ _ _)
      rw [if_pos c, if_pos (show spT (σ 38) L e = true from decide_eq_true c)]
      exact ⟨g', e', h2', fun j hj2 => by rw [hj j hj2, upd_n hj2]⟩
    · rw [if_neg c, if_neg (show ¬ spT (σ 38) L e = true from fun q => c (of_decide_eq_true q))]
      exact ⟨g, rfl, h2, fun j _ => rfl⟩
theorem C_lt {σ : Sto} {L : Nat} (hL : L ≤ 120) : ∀ d e n (g : Row), e + d = L → d < n → g 1 = nI L → g 3 = nI e → ∃ g', lo1 F_X3_nextToken_b86 n 37 (up1 σ 37 g) = some ((), up1 σ 37 g') ∧ g' 3 = nI (skp (ltT (σ 38) L) d e) ∧ ∀ j, ¬ j = 3 → g' j = g j := by
  intro d
  induction d with
  | zero =>
    intro e n g he hn h1 h2
    obtain ⟨n, rfl⟩ : ∃ q, n = q + 1 := ⟨n - 1, by omega⟩
    refine ⟨g, ?_, h2, fun j _ => rfl⟩
    rw [lo1_s, F_X3_nextToken_b86, k373, ck_t, up1_s, h1, h2, if_pos ((nI_leI (by omega) (by omega)).mpr (by omega))]
  | succ d ih =>
    intro e n g he hn h1 h2
    obtain ⟨n, rfl⟩ : ∃ q, n = q + 1 := ⟨n - 1, by omega⟩
    have s0 : lo1 F_X3_nextToken_b86 (n + 1) 37 (up1 σ 37 g) = if b2i (ltT (σ 38) L e) = 0 then some ((), up1 σ 37 g) else lo1 F_X3_nextToken_b86 n 37 (up1 σ 37 (upd g 3 (nI (e + 1)))) := by
      rw [lo1_s, F_X3_nextToken_b86, k373, ck_t, up1_s, h1, h2, if_neg (nI_lei (show e < L by omega) (by omega)), C_by (B := σ 38) (L := L) (by rw [up1_s]; exact h1) hL (up1_n (by decide)) (by omega), bnd_s, C_isL, bnd_s, lts_e, up1_s, h2, nI_1, up2_up1]
      rfl
    rw [s0, skp]
    by_cases c : ltT (σ 38) L e = true
    · obtain ⟨g', e', h2', hj⟩ := ih (e + 1) n (upd g 3 (nI (e + 1))) (by omega) (by omega) (by rw [upd_n (by decide)]; exact h1) (upd_s _ _ _)
      rw [if_t c, if_pos c]
      exact ⟨g', e', h2', fun j hj2 => by rw [hj j hj2, upd_n hj2]⟩
    · rw [if_f (wi_f c), if_neg c]
      exact ⟨g, rfl, h2, fun j _ => rfl⟩
theorem C_dg {σ : Sto} {L : Nat} (hL : L ≤ 120) : ∀ d e w n (g : Row), e + d = L → d < n → w ≤ 1000 → g 1 = nI L → g 3 = nI e → g 5 = nI w → ∃ g', lo1 F_X3_readDigits_b5 n 37 (up1 σ 37 g) = some ((), up1 σ 37 g') ∧ g' 3 = nI (dgW (σ 38) L d e w).1 ∧ g' 5 = nI (dgW (σ 38) L d e w).2 ∧ ∀ j, ¬ j = 3 → ¬ j = 5 → g' j = g j := by
  intro d
  induction d with
  | zero =>
    intro e w n g he hn hw h1 h2 h3
    obtain ⟨n, rfl⟩ : ∃ q, n = q + 1 := ⟨n - 1, by omega⟩
    refine ⟨g, ?_, h2, h3, fun j _ _ => rfl⟩
    rw [lo1_s, F_X3_readDigits_b5, k373, ck_t, up1_s, h1, h2, if_pos ((nI_leI (by omega) (by omega)).mpr (by omega))]
  | succ d ih =>
    intro e w n g he hn hw h1 h2 h3
    obtain ⟨n, rfl⟩ : ∃ q, n = q + 1 := ⟨n - 1, by omega⟩
    have cb : ∀ g' : Row, g' 1 = nI L → F_X3_byteAt 37 (nI e) (up1 σ 37 g') = some (byB (σ 38) L e, up1 σ 37 g') := fun g' h => C_by (B := σ 38) (L := L) (by rw [up1_s]; exact h) hL (up1_n (by decide)) (by omega)
    have s0 : lo1 F_X3_readDigits_b5 (n + 1) 37 (up1 σ 37 g) = if b2i (dgT (σ 38) L e) = 0 then some ((), up1 σ 37 g) else lo1 F_X3_readDigits_b5 n 37 (up1 σ 37 (upd (upd g 5 (imin (nI w * 10 + byB (σ 38) L e - 48) 1000)) 3 (nI (e + 1)))) := by
      rw [lo1_s, F_X3_readDigits_b5, k373, ck_t, up1_s, h1, h2, if_neg (nI_lei (show e < L by omega) (by omega)), cb g h1, bnd_s, C_isD, bnd_s, up1_s, h2, cb g h1, bnd_s, lts_e, h3, up2_up1, lts_e, up1_s, upd_n (show ¬ 3 = 5 by decide), h2, nI_1, up2_up1]
      rfl
    rw [s0, dgW]
    by_cases c : dgT (σ 38) L e = true
    · obtain ⟨q, hq, eq⟩ := dg_of c
      have ev : imin (nI w * 10 + byB (σ 38) L e - 48) 1000 = nI (dgS w ((byB (σ 38) L e).toNatClampNeg - 48)) := by
        rw [eq, nI_clamp (by omega), (dg_st w (by omega) q hq).1, show 48 + q - 48 = q by omega]
      obtain ⟨g', e', h2', h3', hj⟩ := ih (e + 1) (dgS w ((byB (σ 38) L e).toNatClampNeg - 48)) n (upd (upd g 5 (imin (nI w * 10 + byB (σ 38) L e - 48) 1000)) 3 (nI (e + 1))) (by omega) (by omega) (dgS_le _ _) (by rw [upd_n (by decide), upd_n (by decide)]; exact h1) (upd_s _ _ _) (by rw [upd_n (by decide), upd_s, ev])
      rw [if_t c, if_pos c]
      exact ⟨g', e', h2', h3', fun j hj3 hj5 => by rw [hj j hj3 hj5, upd_n hj3, upd_n hj5]⟩
    · rw [if_f (wi_f c), if_neg c]
      exact ⟨g, rfl, h2, h3, fun j _ _ => rfl⟩
def tkC (L : Nat) (t : Nat × Nat × Nat × Nat) (g : Row) : Prop := g 1 = nI L ∧ g 2 = nI t.1 ∧ g 3 = nI t.2.1 ∧ g 4 = nI t.2.2.1 ∧ (t.2.2.1 = 2 → g 5 = nI t.2.2.2)
theorem C_tok {σ : Sto} {L e : Nat} (hL : L ≤ 120) (h1 : σ 37 1 = nI L) (he : e ≤ L) (h3 : σ 37 3 = nI e) : ∃ g, F_X3_nextToken 37 σ = some ((), up1 σ 37 g) ∧ tkC L (tkn (σ 38) L e) g := by
  obtain ⟨g1, e1, b2, bj⟩ := C_sp (σ := σ) hL (L - e) e 1000 (upd (σ 37) 2 (nI e)) (by omega) (by omega) (by rw [upd_n (by decide)]; exact h1) (upd_s _ _ _)
  obtain ⟨b, hb⟩ : ∃ b, b = skp (spT (σ 38) L) (L - e) e := ⟨_, rfl⟩
  have hbL : b ≤ L := by have := (skp_b (spT (σ 38) L) (L - e) e).2; omega
  rw [← hb] at b2
  have g11 : g1 1 = nI L := by rw [bj 1 (by decide), upd_n (by decide)]; exact h1
  have e0 : F_X3_nextToken 37 σ = F_X3_nextToken_b45 37 (up1 σ 37 g1) := by
    rw [F_X3_nextToken, k373, ck_t, h3, lts_e, up2_e, e1]
  unfold tkn
  rw [e0, ← hb]
  obtain ⟨g2, hg2⟩ : ∃ g, g = upd g1 3 (nI b) := ⟨_, rfl⟩
  have q1 : g2 1 = nI L := by rw [hg2, upd_n (by decide)]; exact g11
  have q2 : g2 2 = nI b := by rw [hg2, upd_n (by decide)]; exact b2
  have q3 : g2 3 = nI b := by rw [hg2, upd_s]
  have e45 : F_X3_nextToken_b45 37 (up1 σ 37 g1) = if 0 ≤ byB (σ 38) L b then (if b2i (ltT (σ 38) L b) = 0 then (if b2i (dgT (σ 38) L b) = 0 then (if byB (σ 38) L b = 59 then F_X3_nextToken_b155 37 3 37 (up1 σ 37 g2) else F_X3_nextToken_b155 37 4 37 (up1 σ 37 g2)) else bnd (F_X3_readDigits 37 (up1 σ 37 (upd g2 4 2))) (fun xr19 xσ17 => some ((), xσ17))) else lo1 F_X3_nextToken_b86 1000 37 (up1 σ 37 (upd g2 4 1))) else some ((), up1 σ 37 (upd g2 4 0)) := by
    rw [F_X3_nextToken_b45, k373, ck_t, lts_e, up1_s, b2, up2_up1, ← hg2, up1_s, q2, C_by (B := σ 38) (L := L) (by rw [up1_s]; exact q1) hL (up1_n (by decide)) (by omega), bnd_s, C_isL, bnd_s, C_isD, bnd_s, lts_e, lts_e, lts_e, up2_up1, up2_up1, up2_up1]
    rfl
  have s155 : ∀ k : Int32, F_X3_nextToken_b155 37 k 37 (up1 σ 37 g2) = some ((), up1 σ 37 (upd (upd g2 4 k) 3 (nI (b + 1)))) := by
    intro k
    rw [F_X3_nextToken_b155, k373, ck_t, lts_e, up2_up1, ck_t, lts_e, up1_s, upd_n (show ¬ 3 = 4 by decide), q3, nI_1, up2_up1]
  rw [e45]
  unfold tkB
  by_cases c0 : byB (σ 38) L b < 0
  · rw [if_neg (Int32.not_le.mpr c0), if_pos c0]
    refine ⟨_, rfl, ?_, ?_, ?_, ?_, fun h => absurd h (show ¬ (0 : Nat) = 2 by decide)⟩
    · rw [upd_n (by decide)]; exact q1
    · rw [upd_n (by decide)]; exact q2
    · rw [upd_n (by decide)]; exact q3
    · rw [upd_s]; rfl
  · rw [if_pos (Int32.not_lt.mp c0), if_neg c0]
    by_cases c1 : ltT (σ 38) L b = true
    · obtain ⟨g', e', h3', hj⟩ := C_lt (σ := σ) hL (L - b) b 1000 (upd g2 4 1) (by omega) (by omega) (by rw [upd_n (by decide)]; exact q1) (by rw [upd_n (by decide)]; exact q3)
      rw [if_t c1, if_pos c1, e']
      refine ⟨g', rfl, ?_, ?_, h3', ?_, fun h => absurd h (show ¬ (1 : Nat) = 2 by decide)⟩
      · rw [hj 1 (by decide), upd_n (by decide)]; exact q1
      · rw [hj 2 (by decide), upd_n (by decide)]; exact q2
      · rw [hj 4 (by decide), upd_s]; rfl
    · rw [if_f (wi_f c1), if_neg c1]
      by_cases c2 : dgT (σ 38) L b = true
      · obtain ⟨g', e', h3', h5', hj⟩ := C_dg (σ := σ) hL (L - b) b 0 1000 (upd (upd g2 4 2) 5 0) (by omega) (by omega) (by omega) (by rw [upd_n (by decide), upd_n (by decide)]; exact q1) (by rw [upd_n (by decide), upd_n (by decide)]; exact q3) (by rw [upd_s]; rfl)
        rw [if_t c2, if_pos c2, F_X3_readDigits, k373, ck_t, lts_e, up2_up1, e', bnd_s]
        refine ⟨g', rfl, ?_, ?_, h3', ?_, fun _ => h5'⟩
        · rw [hj 1 (by decide) (by decide), upd_n (by decide), upd_n (by decide)]; exact q1
        · rw [hj 2 (by decide) (by decide), upd_n (by decide), upd_n (by decide)]; exact q2
        · rw [hj 4 (by decide) (by decide), upd_n (by decide), upd_s]; rfl
      · rw [if_f (wi_f c2), if_neg c2, s155, s155]
        by_cases c3 : byB (σ 38) L b = 59
        · rw [if_pos c3, if_pos c3]
          refine ⟨_, rfl, ?_, ?_, ?_, ?_, fun h => absurd h (show ¬ (3 : Nat) = 2 by decide)⟩
          · rw [upd_n (by decide), upd_n (by decide)]; exact q1
          · rw [upd_n (by decide), upd_n (by decide)]; exact q2
          · rw [upd_s]
          · rw [upd_n (by decide), upd_s]; rfl
        · rw [if_neg c3, if_neg c3]
          refine ⟨_, rfl, ?_, ?_, ?_, ?_, fun h => absurd h (show ¬ (4 : Nat) = 2 by decide)⟩
          · rw [upd_n (by decide), upd_n (by decide)]; exact q1
          · rw [upd_n (by decide), upd_n (by decide)]; exact q2
          · rw [upd_s]
          · rw [upd_n (by decide), upd_s]; rfl

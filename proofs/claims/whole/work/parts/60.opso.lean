/-! PURE: text: the reference's tokens -/
theorem skp_e {P : Nat → Bool} {L : Nat} (h : P L = false) : ∀ d e, e + d = L → P (skp P d e) = false := by
  intro d
  induction d with
  | zero => intro e he; rw [skp, show e = L by omega]; exact h
  | succ d ih =>
    intro e he
    rw [skp]
    by_cases c : P e = true
    · rw [if_pos c]; exact ih (e + 1) (by omega)
    · rw [if_neg c]; exact wi_f c
theorem M_by {τ : Sto} {B : Row} {L i : Nat} (h1 : τ 49 8 = nI L) (hL : L ≤ 120) (hB : ∀ j, j < L → τ 54 j = B j) (hi : i ≤ 1000) : F_X5_byteAt 49 (nI i) τ = some (byB B L i, τ) := by
  rw [F_X5_byteAt, k49, ck_t, h1]
  by_cases h : i < L
  · rw [if_neg (nI_lei h (by omega)), inr_nI (by omega) (by decide), ck_t, nI_clamp (by omega), hB i h, byB_lt h]
  · rw [if_pos ((nI_leI (by omega) (by omega)).mpr (by omega)), byB_ge (by omega)]
theorem M_sp {σ : Sto} {B : Row} {L : Nat} (hL : L ≤ 120) (hB : ∀ j, j < L → σ 54 j = B j) : ∀ d e n (g : Row), e + d = L → d < n → g 8 = nI L → g 9 = nI e → ∃ n' g', lo1 F_X5_token_b8 n 49 (up1 σ 49 g) = lo1 F_X5_token_b8 (n' + 1) 49 (up1 σ 49 g') ∧ g' 9 = nI (skp (spT B L) d e) ∧ ∀ j, ¬ j = 9 → g' j = g j := by
  intro d
  induction d with
  | zero =>
    intro e n g he hn h1 h2
    obtain ⟨n, rfl⟩ : ∃ q, n = q + 1 := ⟨n - 1, by omega⟩
    exact ⟨n, g, rfl, h2, fun j _ => rfl⟩
  | succ d ih =>
    intro e n g he hn h1 h2
    obtain ⟨n, rfl⟩ : ∃ q, n = q + 1 := ⟨n - 1, by omega⟩
    rw [skp]
    by_cases c : byB B L e = 32
    · have s0 : lo1 F_X5_token_b8 (n + 1) 49 (up1 σ 49 g) = lo1 F_X5_token_b8 n 49 (up1 σ 49 (upd g 9 (nI (e + 1)))) := by
        rw [lo1_s, F_X5_token_b8, k49, ck_t, up1_s, h2, M_by (B := B) (L := L) (by rw [up1_s]; exact h1) hL (by rw [up1_n (by decide)]; exact hB) (by omega), bnd_s, if_pos c, lts_e, up1_s, h2, nI_1, up2_up1]
      obtain ⟨n', g', e', h2', hj⟩ := ih (e + 1) n (upd g 9 (nI (e + 1))) (by omega) (by omega) (by rw [upd_n (by decide)]; exact h1) (upd_s _ _ _)
      rw [s0, if_pos (show spT B L e = true from decide_eq_true c)]
      exact ⟨n', g', e', h2', fun j hj2 => by rw [hj j hj2, upd_n hj2]⟩
    · rw [if_neg (show ¬ spT B L e = true from fun q => c (of_decide_eq_true q))]
      exact ⟨n, g, rfl, h2, fun j _ => rfl⟩
theorem M_lt {σ : Sto} {B : Row} {L : Nat} (hL : L ≤ 120) (hB : ∀ j, j < L → σ 54 j = B j) : ∀ d e n (g : Row), e + d = L → d < n → g 8 = nI L → g 10 = nI e → ∃ g', lo1 F_X5_token_b84 n 49 (up1 σ 49 g) = some ((), up1 σ 49 g') ∧ g' 10 = nI (skp (ltT B L) d e) ∧ ∀ j, ¬ j = 10 → g' j = g j := by
  have s0 : ∀ e n (g : Row), e ≤ L → g 8 = nI L → g 10 = nI e → lo1 F_X5_token_b84 (n + 1) 49 (up1 σ 49 g) = if b2i (ltT B L e) = 0 then some ((), up1 σ 49 g) else lo1 F_X5_token_b84 n 49 (up1 σ 49 (upd g 10 (nI (e + 1)))) := by
    intro e n g he h1 h2
    rw [lo1_s, F_X5_token_b84, k49, ck_t, up1_s, h2, M_by (B := B) (L := L) (by rw [up1_s]; exact h1) hL (by rw [up1_n (by decide)]; exact hB) (by omega), bnd_s, M_within, bnd_s, lts_e, up1_s, h2, nI_1, up2_up1]
    rfl
  intro d
  induction d with
  | zero =>
    intro e n g he hn h1 h2
    obtain ⟨n, rfl⟩ : ∃ q, n = q + 1 := ⟨n - 1, by omega⟩
    refine ⟨g, ?_, h2, fun j _ => rfl⟩
    rw [s0 e n g (by omega) h1 h2, if_f (ltT_ge (by omega))]
  | succ d ih =>
    intro e n g he hn h1 h2
    obtain ⟨n, rfl⟩ : ∃ q, n = q + 1 := ⟨n - 1, by omega⟩
    rw [s0 e n g (by omega) h1 h2, skp]
    by_cases c : ltT B L e = true
    · obtain ⟨g', e', h2', hj⟩ := ih (e + 1) n (upd g 10 (nI (e + 1))) (by omega) (by omega) (by rw [upd_n (by decide)]; exact h1) (upd_s _ _ _)
      rw [if_t c, if_pos c]
      exact ⟨g', e', h2', fun j hj2 => by rw [hj j hj2, upd_n hj2]⟩
    · rw [if_f (wi_f c), if_neg c]
      exact ⟨g, rfl, h2, fun j _ => rfl⟩
theorem M_dg {σ : Sto} {B : Row} {L : Nat} (hL : L ≤ 120) (hB : ∀ j, j < L → σ 54 j = B j) : ∀ d e w n (g : Row), e + d = L → d < n → w ≤ 1000 → g 8 = nI L → g 10 = nI e → g 12 = nI w → ∃ g', lo1 F_X5_token_b131 n 49 (up1 σ 49 g) = some ((), up1 σ 49 g') ∧ g' 10 = nI (dgW B L d e w).1 ∧ g' 12 = nI (dgW B L d e w).2 ∧ ∀ j, ¬ j = 10 → ¬ j = 12 → g' j = g j := by
  have s0 : ∀ e w n (g : Row), e ≤ L → g 8 = nI L → g 10 = nI e → g 12 = nI w → lo1 F_X5_token_b131 (n + 1) 49 (up1 σ 49 g) = if b2i (dgT B L e) = 0 then some ((), up1 σ 49 g) else lo1 F_X5_token_b131 n 49 (up1 σ 49 (upd (upd g 12 (imin 1000 (10 * nI w + byB B L e - 48))) 10 (nI (e + 1)))) := by
    intro e w n g he h1 h2 h3
    have cb : ∀ g' : Row, g' 8 = nI L → F_X5_byteAt 49 (nI e) (up1 σ 49 g') = some (byB B L e, up1 σ 49 g') := fun g' h => M_by (B := B) (L := L) (by rw [up1_s]; exact h) hL (by rw [up1_n (by decide)]; exact hB) (by omega)
    rw [lo1_s, F_X5_token_b131, k49, ck_t, up1_s, h2, cb g h1, bnd_s, M_within, bnd_s, up1_s, h2, cb g h1, bnd_s, lts_e, h3, up2_up1, lts_e, up1_s, upd_n (show ¬ 10 = 12 by decide), h2, nI_1, up2_up1]
    rfl
  intro d
  induction d with
  | zero =>
    intro e w n g he hn hw h1 h2 h3
    obtain ⟨n, rfl⟩ : ∃ q, n = q + 1 := ⟨n - 1, by omega⟩
    refine ⟨g, ?_, h2, h3, fun j _ _ => rfl⟩
    rw [s0 e w n g (by omega) h1 h2 h3, if_f (dgT_ge (by omega))]
  | succ d ih =>
    intro e w n g he hn hw h1 h2 h3
    obtain ⟨n, rfl⟩ : ∃ q, n = q + 1 := ⟨n - 1, by omega⟩
    rw [s0 e w n g (by omega) h1 h2 h3, dgW]
    by_cases c : dgT B L e = true
    · obtain ⟨q, hq, eq⟩ := dg_of c
      have ev : imin 1000 (10 * nI w + byB B L e - 48) = nI (dgS w ((byB B L e).toNatClampNeg - 48)) := by
        rw [eq, nI_clamp (by omega), (dg_st w (by omega) q hq).2, show 48 + q - 48 = q by omega]
      obtain ⟨g', e', h2', h3', hj⟩ := ih (e + 1) (dgS w ((byB B L e).toNatClampNeg - 48)) n (upd (upd g 12 (imin 1000 (10 * nI w + byB B L e - 48))) 10 (nI (e + 1))) (by omega) (by omega) (dgS_le _ _) (by rw [upd_n (by decide), upd_n (by decide)]; exact h1) (upd_s _ _ _) (by rw [upd_n (by decide), upd_s, ev])
      rw [if_t c, if_pos c]
      exact ⟨g', e', h2', h3', fun j hj3 hj5 => by rw [hj j hj3 hj5, upd_n hj3, upd_n hj5]⟩
    · rw [if_f (wi_f c), if_neg c]
      exact ⟨g, rfl, h2, h3, fun j _ _ => rfl⟩
def tkM (L : Nat) (t : Nat × Nat × Nat × Nat) (g : Row) : Prop := g 8 = nI L ∧ g 9 = nI t.1 ∧ g 10 = nI t.2.1 ∧ g 11 = nI (if t.2.2.1 = 4 then 3 else t.2.2.1) ∧ (t.2.2.1 = 2 → g 12 = nI t.2.2.2)
def gsm (g' g : Row) : Prop := ∀ j, ¬ j = 9 → ¬ j = 10 → ¬ j = 11 → ¬ j = 12 → g' j = g j
theorem M_tok {σ : Sto} {B g : Row} {L e : Nat} (hL : L ≤ 120) (hB : ∀ j, j < L → σ 54 j = B j) (h1 : g 8 = nI L) (he : e ≤ L) (h3 : g 10 = nI e) : ∃ g', F_X5_token 49 (up1 σ 49 g) = some ((), up1 σ 49 g') ∧ tkM L (tkn B L e) g' ∧ gsm g' g := by
  obtain ⟨n', g1, e1, b2, bj⟩ := M_sp (σ := σ) hL hB (L - e) e 1000 (upd g 9 (nI e)) (by omega) (by omega) (by rw [upd_n (by decide)]; exact h1) (upd_s _ _ _)
  obtain ⟨b, hb⟩ : ∃ b, b = skp (spT B L) (L - e) e := ⟨_, rfl⟩
  have hbL : b ≤ L := by have := (skp_b (spT B L) (L - e) e).2; omega
  have hsp : spT B L b = false := by rw [hb]; exact skp_e (spT_ge (Nat.le_refl _)) _ _ (by omega)
  rw [← hb] at b2
  have b2' : ∀ j, ¬ j = 9 → g1 j = g j := fun j hj => by rw [bj j hj, upd_n hj]
  obtain ⟨g2, hg2⟩ : ∃ h, h = upd (upd g1 10 (nI b)) 12 0 := ⟨_, rfl⟩
  have q1 : g2 8 = nI L := by rw [hg2, upd_n (by decide), upd_n (by decide), b2' 8 (by decide)]; exact h1
  have q2 : g2 9 = nI b := by rw [hg2, upd_n (by decide), upd_n (by decide)]; exact b2
  have q3 : g2 10 = nI b := by rw [hg2, upd_n (by decide), upd_s]
  have q5 : g2 12 = 0 := by rw [hg2, upd_s]
  have qj : gsm g2 g := fun j a1 a2 a3 a4 => by rw [hg2, upd_n a4, upd_n a2, b2' j a1]
  have e0 : F_X5_token 49 (up1 σ 49 g) = if 0 ≤ byB B L b then (if b2i (ltT B L b) = 0 then (if b2i (dgT B L b) = 0 then some ((), up1 σ 49 (upd (upd g2 11 3) 10 (nI (b + 1)))) else lo1 F_X5_token_b131 1000 49 (up1 σ 49 (upd g2 11 2))) else lo1 F_X5_token_b84 1000 49 (up1 σ 49 (upd g2 11 1))) else some ((), up1 σ 49 (upd g2 11 0)) := by
    have cb : F_X5_byteAt 49 (nI b) (up1 σ 49 g1) = some (byB B L b, up1 σ 49 g1) := M_by (B := B) (L := L) (by rw [up1_s, b2' 8 (by decide)]; exact h1) hL (by rw [up1_n (by decide)]; exact hB) (by omega)
    rw [F_X5_token, k49, ck_t, up1_s, h3, lts_e, up2_up1, e1, lo1_s, F_X5_token_b8, k49, ck_t, up1_s, b2, cb, bnd_s, if_neg (of_decide_eq_false hsp), up1_s, b2, cb, bnd_s, lts_e, up1_s, b2, up2_up1, lts_e, up2_up1, ← hg2, M_within, bnd_s, M_within, bnd_s, lts_e, lts_e, lts_e, lts_e, lts_e, up2_up1, up2_up1, up2_up1, up2_up1, up1_s, upd_n (show ¬ 10 = 11 by decide), q3, nI_1, up2_up1]
    rfl
  rw [e0]
  unfold tkn
  rw [← hb]
  unfold tkB
  by_cases c0 : byB B L b < 0
  · rw [if_neg (Int32.not_le.mpr c0), if_pos c0]
    refine ⟨_, rfl, ⟨?_, ?_, ?_, ?_, fun h => absurd h (show ¬ (0 : Nat) = 2 by decide)⟩, fun j a1 a2 a3 a4 => by rw [upd_n a3]; exact qj j a1 a2 a3 a4⟩
    · rw [upd_n (by decide)]; exact q1
    · rw [upd_n (by decide)]; exact q2
    · rw [upd_n (by decide)]; exact q3
    · rw [upd_s]; rfl
  · rw [if_pos (Int32.not_lt.mp c0), if_neg c0]
    by_cases c1 : ltT B L b = true
    · obtain ⟨g', e', h3', hj⟩ := M_lt (σ := σ) hL hB (L - b) b 1000 (upd g2 11 1) (by omega) (by omega) (by rw [upd_n (by decide)]; exact q1) (by rw [upd_n (by decide)]; exact q3)
      rw [if_t c1, if_pos c1, e']
      refine ⟨g', rfl, ⟨?_, ?_, h3', ?_, fun h => absurd h (show ¬ (1 : Nat) = 2 by decide)⟩, fun j a1 a2 a3 a4 => by rw [hj j a2, upd_n a3]; exact qj j a1 a2 a3 a4⟩
      · rw [hj 8 (by decide), upd_n (by decide)]; exact q1
      · rw [hj 9 (by decide), upd_n (by decide)]; exact q2
      · rw [hj 11 (by decide), upd_s]; rfl
    · rw [if_f (wi_f c1), if_neg c1]
      by_cases c2 : dgT B L b = true
      · obtain ⟨g', e', h3', h5', hj⟩ := M_dg (σ := σ) hL hB (L - b) b 0 1000 (upd g2 11 2) (by omega) (by omega) (by omega) (by rw [upd_n (by decide)]; exact q1) (by rw [upd_n (by decide)]; exact q3) (by rw [upd_n (by decide), q5]; rfl)
        rw [if_t c2, if_pos c2, e']
        refine ⟨g', rfl, ⟨?_, ?_, h3', ?_, fun _ => h5'⟩, fun j a1 a2 a3 a4 => by rw [hj j a2 a4, upd_n a3]; exact qj j a1 a2 a3 a4⟩
        · rw [hj 8 (by decide) (by decide), upd_n (by decide)]; exact q1
        · rw [hj 9 (by decide) (by decide), upd_n (by decide)]; exact q2
        · rw [hj 11 (by decide) (by decide), upd_s]; rfl
      · rw [if_f (wi_f c2), if_neg c2]
        refine ⟨_, rfl, ⟨?_, ?_, ?_, ?_, ?_⟩, fun j a1 a2 a3 a4 => by rw [upd_n a2, upd_n a3]; exact qj j a1 a2 a3 a4⟩
        · rw [upd_n (by decide), upd_n (by decide)]; exact q1
        · rw [upd_n (by decide), upd_n (by decide)]; exact q2
        · rw [upd_s]
        · rw [upd_n (by decide), upd_s]
          by_cases c3 : byB B L b = 59
          · rw [if_pos c3]; rfl
          · rw [if_neg c3]; rfl
        · intro h
          by_cases c3 : byB B L b = 59
          · rw [if_pos c3] at h; exact absurd (show (3 : Nat) = 2 from h) (by decide)
          · rw [if_neg c3] at h; exact absurd (show (4 : Nat) = 2 from h) (by decide)
/-- what is sure of a token -/
def tkOk (L e : Nat) (t : Nat × Nat × Nat × Nat) : Prop := e ≤ t.1 ∧ t.1 ≤ t.2.1 ∧ t.2.1 ≤ L ∧ t.2.2.1 ≤ 4 ∧ t.2.2.2 ≤ 1000
theorem tkn_ok {B : Row} {L e : Nat} (he : e ≤ L) : tkOk L e (tkn B L e) := by
  unfold tkn
  obtain ⟨b, hb⟩ : ∃ b, b = skp (spT B L) (L - e) e := ⟨_, rfl⟩
  have h1 := skp_b (spT B L) (L - e) e
  rw [← hb] at h1 ⊢
  unfold tkB
  by_cases c0 : byB B L b < 0
  · rw [if_pos c0]; exact ⟨h1.1, Nat.le_refl _, (by omega : b ≤ L), (show (0 : Nat) ≤ 4 by decide), (show (0 : Nat) ≤ 1000 by decide)⟩
  · rw [if_neg c0]
    have hbL : b < L := by
      rcases Nat.lt_or_ge b L with q | q
      · exact q
      · exact absurd (show byB B L b < 0 by rw [byB_ge q]; decide) c0
    by_cases c1 : ltT B L b = true
    · have h2 := skp_b (ltT B L) (L - b) b
      rw [if_pos c1]; exact ⟨h1.1, h2.1, (by omega : skp (ltT B L) (L - b) b ≤ L), (show (1 : Nat) ≤ 4 by decide), (show (0 : Nat) ≤ 1000 by decide)⟩
    · rw [if_neg c1]
      by_cases c2 : dgT B L b = true
      · have h2 := dgW_b B L (L - b) b 0 (by omega)
        rw [if_pos c2]; exact ⟨h1.1, h2.1, (by omega : (dgW B L (L - b) b 0).1 ≤ L), (show (2 : Nat) ≤ 4 by decide), h2.2.2⟩
      · rw [if_neg c2]
        refine ⟨h1.1, (by omega : b ≤ b + 1), (by omega : b + 1 ≤ L), ?_, (show (0 : Nat) ≤ 1000 by decide)⟩
        show (if byB B L b = 59 then 3 else 4) ≤ 4
        split <;> decide
theorem tkn_59 {B : Row} {L e : Nat} (h : (tkn B L e).2.2.1 = 3 ∨ (tkn B L e).2.2.1 = 4) : (tkn B L e).1 < L ∧ ((tkn B L e).2.2.1 = 3 ↔ B (tkn B L e).1 = 59) := by
  unfold tkn at h ⊢
  obtain ⟨b, hb⟩ : ∃ b, b = skp (spT B L) (L - e) e := ⟨_, rfl⟩
  rw [← hb] at h ⊢
  unfold tkB at h ⊢
  by_cases c0 : byB B L b < 0
  · rw [if_pos c0] at h; exact absurd (show (0 : Nat) = 3 ∨ (0 : Nat) = 4 from h) (by decide)
  · rw [if_neg c0] at h ⊢
    have hbL : b < L := by
      rcases Nat.lt_or_ge b L with q | q
      · exact q
      · exact absurd (show byB B L b < 0 by rw [byB_ge q]; decide) c0
    by_cases c1 : ltT B L b = true
    · rw [if_pos c1] at h; exact absurd (show (1 : Nat) = 3 ∨ (1 : Nat) = 4 from h) (by decide)
    · rw [if_neg c1] at h ⊢
      by_cases c2 : dgT B L b = true
      · rw [if_pos c2] at h; exact absurd (show (2 : Nat) = 3 ∨ (2 : Nat) = 4 from h) (by decide)
      · rw [if_neg c2] at h ⊢
        refine ⟨hbL, ?_⟩
        rw [← byB_lt (B := B) hbL]
        by_cases c3 : byB B L b = 59
        · exact ⟨fun _ => c3, fun _ => if_pos c3⟩
        · exact ⟨fun h => absurd ((if_neg c3).symm.trans h) (show ¬ (4 : Nat) = 3 by decide), fun h => absurd h c3⟩
theorem tkn_w {B : Row} {L e : Nat} (he : e ≤ L) (h : (tkn B L e).2.2.1 = 1) : (tkn B L e).1 < (tkn B L e).2.1 := by
  unfold tkn at h ⊢
  obtain ⟨b, hb⟩ : ∃ b, b = skp (spT B L) (L - e) e := ⟨_, rfl⟩
  have h1 := skp_b (spT B L) (L - e) e
  rw [← hb] at h1
  rw [← hb] at h ⊢
  unfold tkB at h ⊢
  by_cases c0 : byB B L b < 0
  · rw [if_pos c0] at h; exact absurd (show (0 : Nat) = 1 from h) (by decide)
  · rw [if_neg c0] at h ⊢
    have hbL : b < L := by
      rcases Nat.lt_or_ge b L with q | q
      · exact q
      · exact absurd (show byB B L b < 0 by rw [byB_ge q]; decide) c0
    by_cases c1 : ltT B L b = true
    · rw [if_pos c1]
      obtain ⟨d, hd⟩ : ∃ d, L - b = d + 1 := ⟨L - b - 1, by omega⟩
      show b < skp (ltT B L) (L - b) b
      rw [hd, skp, if_pos c1]
      have := (skp_b (ltT B L) d (b + 1)).1
      omega
    · rw [if_neg c1] at h
      by_cases c2 : dgT B L b = true
      · rw [if_pos c2] at h; exact absurd (show (2 : Nat) = 1 from h) (by decide)
      · rw [if_neg c2] at h
        by_cases c3 : byB B L b = 59
        · rw [if_pos c3] at h; exact absurd (show (3 : Nat) = 1 from h) (by decide)
        · rw [if_neg c3] at h; exact absurd (show (4 : Nat) = 1 from h) (by decide)

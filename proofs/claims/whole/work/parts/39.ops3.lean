/-! PURE: the calls: sitter, go, now, count, status, image, undo, tear, as -/
def new7 (a : Row) (m : Nat) (k t s me c : Int32) : Row := upd (upd (upd (upd (upd (upd (upd a (23 + 7 * m) k) (23 + 7 * m + 1) t) (23 + 7 * m + 2) s) (23 + 7 * m + 3) me) (23 + 7 * m + 4) c) (23 + 7 * m + 5) 0) (23 + 7 * m + 6) 0
def comesR (a : Row) (m : Nat) (k t s me c : Int32) : Row := upd (new7 a m k t s me c) 1 (nI (m + 1))
theorem comes_o {a : Row} {m j : Nat} {k t s me c : Int32} (h1 : ¬ j = 1) (h : ¬ (23 + 7 * m ≤ j ∧ j < 30 + 7 * m)) : comesR a m k t s me c j = a j := by
  unfold comesR new7
  rw [upd_n h1, upd_n (by omega), upd_n (by omega), upd_n (by omega), upd_n (by omega), upd_n (by omega), upd_n (by omega), upd_n (by omega)]
theorem comes_1 (a : Row) (m : Nat) (k t s me c : Int32) : comesR a m k t s me c 1 = nI (m + 1) := upd_s _ _ _
theorem comes_k (a : Row) (m : Nat) (k t s me c : Int32) : comesR a m k t s me c (23 + 7 * m) = k := by
  unfold comesR new7
  rw [upd_n (by omega), upd_n (by omega), upd_n (by omega), upd_n (by omega), upd_n (by omega), upd_n (by omega), upd_n (by omega), upd_s]
theorem comes_5 (a : Row) (m : Nat) (k t s me c : Int32) : comesR a m k t s me c (23 + 7 * m + 5) = 0 := by
  unfold comesR new7
  rw [upd_n (by omega), upd_n (by omega), upd_s]
theorem comes_t (a : Row) (m : Nat) (k t0 t s me c : Int32) : upd (comesR a m k t0 s me c) (23 + 7 * m + 1) t = comesR a m k t s me c := by
  funext j
  unfold comesR new7
  simp only [upd_i]
  by_cases h : j = 23 + 7 * m + 1
  · subst h
    rw [if_pos rfl, if_neg (by omega), if_neg (by omega), if_neg (by omega), if_neg (by omega), if_neg (by omega), if_neg (by omega), if_pos rfl]
  · simp only [if_neg h]
theorem comes_s (a : Row) (m : Nat) (k t s0 s me c : Int32) : upd (comesR a m k t s0 me c) (23 + 7 * m + 2) s = comesR a m k t s me c := by
  funext j
  unfold comesR new7
  simp only [upd_i]
  by_cases h : j = 23 + 7 * m + 2
  · subst h
    rw [if_pos rfl, if_neg (by omega), if_neg (by omega), if_neg (by omega), if_neg (by omega), if_neg (by omega), if_pos rfl]
  · simp only [if_neg h]
theorem comes_m (a : Row) (m : Nat) (k t s me0 me c : Int32) : upd (comesR a m k t s me0 c) (23 + 7 * m + 3) me = comesR a m k t s me c := by
  funext j
  unfold comesR new7
  simp only [upd_i]
  by_cases h : j = 23 + 7 * m + 3
  · subst h
    rw [if_pos rfl, if_neg (by omega), if_neg (by omega), if_neg (by omega), if_neg (by omega), if_pos rfl]
  · simp only [if_neg h]
theorem comes_c (a : Row) (m : Nat) (k t s me c0 c : Int32) : upd (comesR a m k t s me c0) (23 + 7 * m + 4) c = comesR a m k t s me c := by
  funext j
  unfold comesR new7
  simp only [upd_i]
  by_cases h : j = 23 + 7 * m + 4
  · subst h
    rw [if_pos rfl, if_neg (by omega), if_neg (by omega), if_neg (by omega), if_pos rfl]
  · simp only [if_neg h]
theorem agr_comes {m : Nat} {a b : Row} (h : agr m a b) (k t s me c : Int32) : agr (m + 1) (comesR a m k t s me c) (comesR b m k t s me c) := by
  intro j hj
  by_cases h1 : j = 1
  · rw [h1, comes_1, comes_1]
  · by_cases h2 : 23 + 7 * m ≤ j ∧ j < 30 + 7 * m
    · unfold comesR new7
      rw [upd_n h1, upd_n h1]
      simp only [upd_i]
      rcases (show j = 23 + 7 * m ∨ j = 23 + 7 * m + 1 ∨ j = 23 + 7 * m + 2 ∨ j = 23 + 7 * m + 3 ∨ j = 23 + 7 * m + 4 ∨ j = 23 + 7 * m + 5 ∨ j = 23 + 7 * m + 6 by omega) with e | e | e | e | e | e | e <;> simp only [e] <;> simp
    · rw [comes_o h1 h2, comes_o h1 h2]; exact h j (by omega)
theorem okR_comes {T m : Nat} {a : Row} (h : okR T m a) (hm : m < 8) (k t s me c : Int32) : okR T (m + 1) (comesR a m k t s me c) := by
  obtain ⟨h8, -, ⟨t', ht, et⟩, hq, hs⟩ := h
  refine ⟨by omega, comes_1 _ _ _ _ _ _ _, ⟨t', ht, by rw [comes_o (by omega) (by omega)]; exact et⟩, fun p hp => ?_, fun p hp => ?_⟩
  · rw [comes_o (by omega) (by omega)]
    rcases hq p hp with e | ⟨i, hi, e⟩
    · exact Or.inl e
    · exact Or.inr ⟨i, by omega, e⟩
  · rw [comes_o (by omega) (by omega)]
    rcases hs p hp with e | ⟨i, hi, e⟩
    · exact Or.inl e
    · exact Or.inr ⟨i, by omega, e⟩
theorem okS_comes {m : Nat} {a : Row} (h : okS m a) {k : Int32} (hk : ∃ q, q ≤ 6 ∧ k = nI q) (t s me c : Int32) : okS (m + 1) (comesR a m k t s me c) := by
  intro i hi
  rcases Nat.lt_or_ge i m with q | q
  · rw [comes_o (by omega) (by omega), comes_o (by omega) (by omega)]; exact h i q
  · have e : i = m := by omega
    subst e
    rw [comes_k, comes_5]
    exact ⟨hk, 0, by omega, rfl⟩
theorem C_add {b m : Nat} (hb : kd b = 0) (σ : Sto) (hm : V b σ 1 = nI m) (h : m < 8) (k : Int32) : ∃ σ', F_X0_addSitter b k σ = some (nI m, σ') ∧ V b σ' = comesR (V b σ) m k 60 5 3 20 ∧ fr b σ σ' := by
  have hs := kel hb h
  obtain ⟨σ1, e1⟩ : ∃ s, s = up2 (up2 (up2 (up2 (up2 (up2 (up2 σ (b + 1 + 1 + m) 0 k) (b + 1 + 1 + m) 1 60) (b + 1 + 1 + m) 2 5) (b + 1 + 1 + m) 3 3) (b + 1 + 1 + m) 4 20) (b + 1 + 1 + m) 5 0) (b + 1 + 1 + m) 6 0 := ⟨_, rfl⟩
  have v1 : V b σ1 = new7 (V b σ) m k 60 5 3 20 := by
    rw [e1, V_us h (by decide), V_us h (by decide), V_us h (by decide), V_us h (by decide), V_us h (by decide), V_us h (by decide), V_us h (by decide)]
    rfl
  have f1 : fr b σ σ1 := by
    rw [e1]
    exact fr_t (fr_t (fr_t (fr_t (fr_t (fr_t (fr_u (by omega)) (fr_u (by omega))) (fr_u (by omega))) (fr_u (by omega))) (fr_u (by omega))) (fr_u (by omega))) (fr_u (by omega))
  have c1 : σ1 b 6 = nI m := by
    rw [V1 b σ1, v1]
    unfold new7
    rw [upd_n (by omega), upd_n (by omega), upd_n (by omega), upd_n (by omega), upd_n (by omega), upd_n (by omega), upd_n (by omega)]
    exact hm
  refine ⟨up2 σ1 b 6 (nI (m + 1)), ?_, ?_, fr_t f1 (fr_u (by omega))⟩
  · have eb : F_X2_begin (b + 1 + 1 + m) k σ = some ((), σ1) := by rw [F_X2_begin, kdb _ hs, ck_t, e1]; rfl
    rw [F_X0_addSitter, kdb b hb, ck_t, V1 b σ, hm, if_neg (nI_pos (by omega)), if_pos (show nI m < 8 from (nI_ltI (b := 8) (by omega) (by decide)).mpr h), inr_nI h (by decide), ck_t, nI_clamp (by omega), eb, bnd_s, lts_e, c1, nI_1]
    rw [show (up2 σ1 b 6 (nI (m + 1))) b 6 = nI (m + 1) by rw [up2_i, if_pos rfl, if_pos rfl], nI_pred]
  · rw [V_uh (c := 1) (by decide) (by omega), v1]
    rfl
theorem C_add8 {b : Nat} (hb : kd b = 0) (σ : Sto) (hm : V b σ 1 = nI 8) (k : Int32) : F_X0_addSitter b k σ = some (-1, σ) := by
  rw [F_X0_addSitter, kdb b hb, ck_t, V1 b σ, hm, if_neg (by decide), if_neg (by decide)]
theorem C_give {b m i k : Nat} (hb : kd b = 0) (h8 : m ≤ 8) (σ : Sto) (hm : V b σ 1 = nI m) (hi : i < m) (hk : k ≤ 6) (v : Int32) : F_X0_give b (nI i) (nI k) v σ = some ((), up2 σ (b + 1 + 1 + i) k v) := by
  have hs := kel hb (show i < 8 by omega)
  rw [F_X0_give, kdb b hb, ck_t, C_whoS hb hm h8 hi, bnd_s, oc_s, kdb _ hs, ck_t, S2_put hs hk, bnd_s]
theorem M_comes {m : Nat} (h : m < 8) (σ : Sto) (hm : σ 50 1 = nI m) (k t s me c : Int32) : F_X5_comes 49 k t s me c σ = some (nI m, up1 σ 50 (comesR (σ 50) m k t s me c)) := by
  have n : ∀ k, k < 7 → inr (nI (23 + 7 * m + k)) 79 = true := fun k hk => inr_nI (by omega) (by decide)
  have cc : ∀ k, k < 7 → (nI (23 + 7 * m + k)).toNatClampNeg = 23 + 7 * m + k := fun k hk => nI_clamp (by omega)
  have n0 : inr (nI (23 + 7 * m)) 79 = true := n 0 (by decide)
  have c0' : (nI (23 + 7 * m)).toNatClampNeg = 23 + 7 * m := cc 0 (by decide)
  rw [F_X5_comes, k49, ck_t, lti_e, hm, M_at0, bnd_s, n0, ck_t, lts_e, c0', M_at1, bnd_s, n 1 (by decide), ck_t, lts_e, cc 1 (by decide), M_at2, bnd_s, n 2 (by decide), ck_t, lts_e, cc 2 (by decide), M_at3, bnd_s, n 3 (by decide), ck_t, lts_e, cc 3 (by decide), M_at4, bnd_s, n 4 (by decide), ck_t, lts_e, cc 4 (by decide), M_at5, bnd_s, n 5 (by decide), ck_t, lts_e, cc 5 (by decide), M_at6, bnd_s, n 6 (by decide), ck_t, lts_e, cc 6 (by decide), lts_e]
  rw [up2_e σ, up2_up1, up2_up1, up2_up1, up2_up1, up2_up1, up2_up1, up2_up1, up1_s]
  have e1 : upd (upd (upd (upd (upd (upd (upd (σ 50) (23 + 7 * m) k) (23 + 7 * m + 1) t) (23 + 7 * m + 2) s) (23 + 7 * m + 3) me) (23 + 7 * m + 4) c) (23 + 7 * m + 5) 0) (23 + 7 * m + 6) 0 1 = nI m := by
    rw [upd_n (by omega), upd_n (by omega), upd_n (by omega), upd_n (by omega), upd_n (by omega), upd_n (by omega), upd_n (by omega)]
    exact hm
  rw [e1, nI_1]
  rfl
theorem op_sitter (k t : Int32) : Op (F_X4_sitter 0 k t) (F_X5_sitter 49 k t) := by
  intro K σ hK h
  obtain ⟨⟨⟨m, h1, h2, h4⟩, hk⟩, hT, hS, hF⟩ := id h
  have h8 := h1.1
  by_cases hw : wi k 0 6 = true
  · by_cases ht : wi t 0 90 = true
    · have c0 : F_X4_sitter 0 k t σ = bnd (F_X0_addSitter 1 k σ) (fun xr19 xσ17 => if 0 ≤ (xr19) then bnd (F_X0_give (1) (xr19) 1 (t) xσ17) (fun xr23 xσ21 => some (xr19, xσ21)) else bnd (F_X4_finding (0) (-1000002) xσ17) (fun xr26 xσ24 => some (xr26, xσ24))) := by
        rw [F_X4_sitter, C_within, bnd_s, if_t hw, show F_X2_mostOf 1 σ = some (90, σ) from rfl, bnd_s, C_within, bnd_s, if_t ht, k04, ck_t]
      have m0 : ∀ τ : Sto, F_X5_sitter 49 k t τ = if τ 50 1 = 8 then bnd (F_X5_finding 49 (-1000002) τ) (fun xr20 xσ18 => some (xr20, xσ18)) else bnd (F_X5_comes 49 k t 5 3 20 τ) (fun xr17 xσ15 => some (xr17, xσ15)) := by
        intro τ
        rw [F_X5_sitter, M_isKind, bnd_s, if_t hw, M_within, bnd_s, if_t ht, k49, ck_t]
      rcases Nat.lt_or_ge m 8 with hm8 | hm8
      · obtain ⟨σ1, e1, v1, f1⟩ := C_add k1 σ h1.2.1 hm8 k
        have g1 := C_give (i := m) (k := 1) k1 (m := m + 1) (by omega) σ1 (by rw [v1]; exact comes_1 _ _ _ _ _ _ _) (by omega) (by decide) t
        have r1 : σ1 50 = σ 50 := f1 50 (by decide)
        have em : F_X5_sitter 49 k t (up2 σ1 (1 + 1 + 1 + m) 1 t) = some (nI m, up1 (up2 σ1 (1 + 1 + 1 + m) 1 t) 50 (comesR (σ 50) m k t 5 3 20)) := by
          have e50 : (up2 σ1 (1 + 1 + 1 + m) 1 t) 50 = σ 50 := by rw [up2_e, up1_n (by omega), r1]
          have hm' : (up2 σ1 (1 + 1 + 1 + m) 1 t) 50 1 = nI m := by rw [e50]; exact m1of h1 h2
          rw [m0, hm', if_neg (fun e => by have := (nI_eq (b := 8) (by omega) (by decide)).mp e; omega), M_comes hm8 _ hm', bnd_s, e50]
        refine ⟨nI m, _, _, ?_, em, ?_⟩
        · rw [c0, e1, bnd_s, if_pos (nI_pos' (by omega)), show (1 : Int32) = nI 1 from rfl, g1, bnd_s]
        · have vv : V 1 (up2 σ1 (1 + 1 + 1 + m) 1 t) = comesR (V 1 σ) m k t 5 3 20 := by rw [V_us (b := 1) hm8 (by decide), v1, comes_t]
          refine Rel_real h (fr_t f1 (fr_u (by omega))) (fun k' hk' => up1_n hk') ⟨m + 1, ?_, ?_, ?_⟩
          · rw [vv]; exact okR_mono (okR_comes h1 hm8 _ _ _ _ _) (by omega)
          · rw [vv, up1_s]; exact agr_comes h2 _ _ _ _ _
          · rw [vv]; exact okS_comes h4 (wi_t (n := 6) (by decide) rfl hw) _ _ _ _
      · have e8 : m = 8 := by omega
        subst e8
        refine op_e 1 (-1000002) (by decide) h ?_ (fun τ hτ => ?_)
        · rw [c0, C_add8 k1 σ h1.2.1, bnd_s, if_neg (by decide), C_f1, bnd_s]
        · rw [m0, m1of h1 (mrow h2 hτ), if_pos (by decide), M_f1, bnd_s]
    · refine op_e0 h ?_ (fun τ hτ => ?_)
      · rw [F_X4_sitter, C_within, bnd_s, if_t hw, show F_X2_mostOf 1 σ = some (90, σ) from rfl, bnd_s, C_within, bnd_s, if_f (wi_f ht), k04, ck_t, C_f0, bnd_s]
      · rw [F_X5_sitter, M_isKind, bnd_s, if_t hw, M_within, bnd_s, if_f (wi_f ht), k49, ck_t, M_f0, bnd_s]
  · refine op_e0 h ?_ (fun τ hτ => ?_)
    · rw [F_X4_sitter, C_within, bnd_s, if_f (wi_f hw), k04, ck_t, C_f0, bnd_s]
    · rw [F_X5_sitter, M_isKind, bnd_s, if_f (wi_f hw), k49, ck_t, M_f0, bnd_s]
/-! go -/
theorem okS_min {m : Nat} {a : Row} (h : okS m a) (hn : (a 1) = nI m) (h8 : m ≤ 8) : okS m (minR a) := by
  have u : ∀ {b : Row} {k : Nat} {v : Int32}, okS m b → (k < 23 ∨ ∃ i j, (j = 2 ∨ j = 3 ∨ j = 4 ∨ j = 6) ∧ k = 23 + 7 * i + j) → okS m (upd b k v) := by
    intro b k v hb hk
    refine okS_u hb fun i hi => ?_
    rcases hk with hk | ⟨i', j, hj, rfl⟩
    · exact ⟨by omega, by omega⟩
    · exact ⟨by omega, by omega⟩
  have hp : ∀ k (b : Row), okS m b → okS m (payN k b) := by
    intro k
    induction k with
    | zero => intro b hb; exact hb
    | succ k ih => intro b hb; exact u (ih b hb) (Or.inr ⟨k, 4, by omega, rfl⟩)
  have ht : ∀ b : Row, okS m b → okS m (tick b) := by
    intro b hb
    unfold tick
    split
    · exact hp _ _ (u hb (Or.inl (by omega)))
    · exact u hb (Or.inl (by omega))
  have hs : ∀ i, okS m (sits a i) := by
    intro i
    have t : okS m (sitT a i) := by
      unfold sitT turnA sitC sitB sitA
      exact u (u (u (u h (Or.inr ⟨i, 4, by omega, rfl⟩)) (Or.inl (by omega))) (Or.inr ⟨i, 6, by omega, rfl⟩)) (Or.inl (by omega))
    unfold sits
    split
    · refine u ?_ (Or.inr ⟨i, 2, by omega, rfl⟩)
      intro j hj
      obtain ⟨g1, t', ht', e'⟩ := t j hj
      unfold sitD
      refine ⟨by rw [upd_n (by omega)]; exact g1, ?_⟩
      rw [upd_i]
      by_cases e : 23 + 7 * j + 5 = 23 + 7 * i + 5
      · rw [if_pos e, ← e, e', nI_1]
        unfold imin
        by_cases c : (999 : Int32) < nI (t' + 1)
        · rw [if_pos c]; exact ⟨999, by omega, rfl⟩
        · rw [if_neg c]
          refine ⟨t' + 1, ?_, rfl⟩
          rcases Nat.lt_or_ge 999 (t' + 1) with q | q
          · exact absurd ((nI_ltI (a := 999) (by decide) (by omega)).mpr q) c
          · omega
      · rw [if_neg e]; exact ⟨t', ht', e'⟩
    · exact u t (Or.inr ⟨i, 3, by omega, rfl⟩)
  unfold minR
  apply ht
  unfold seated
  split
  · exact h
  · split
    · exact h
    · exact hs _
theorem okS_mins {m : Nat} : ∀ (n T : Nat) {a : Row}, okR T m a → okS m a → okS m (minsR n a) := by
  intro n
  induction n with
  | zero => intro T a _ h; exact h
  | succ n ih => intro T a hok h; exact ih (T + 1) (okR_min hok) (okS_min h hok.2.1 hok.1)
theorem wi_1 {v : Int32} {n : Nat} (hn : n < 2 ^ 30) (h : wi v 1 (nI n) = true) : ∃ k, 1 ≤ k ∧ k ≤ n ∧ v = nI k := by
  unfold wi at h
  rw [Bool.and_eq_true, Bool.not_eq_true', Bool.not_eq_true', decide_eq_false_iff_not, decide_eq_false_iff_not] at h
  have h0 : ¬ v < 0 := fun q => h.1 (Int32.lt_trans q (by decide))
  obtain ⟨k, hk, rfl⟩ := nI_of h0
  refine ⟨k, ?_, ?_, rfl⟩
  · rcases Nat.lt_or_ge k 1 with q | q
    · exact absurd ((nI_ltI (b := 1) hk (by decide)).mpr q) h.1
    · exact q
  · rcases Nat.lt_or_ge n k with q | q
    · exact absurd ((nI_ltI (by omega) hk).mpr q) h.2
    · exact q
theorem op_go (n : Int32) : Op (F_X4_go 0 n) (F_X5_go 49 n) := by
  intro K σ hK h
  obtain ⟨⟨⟨m, h1, h2, h4⟩, hk⟩, hT, hS, hF⟩ := id h
  have h8 := h1.1
  by_cases hw : wi n 1 100 = true
  · obtain ⟨k, hk1, hk2, rfl⟩ := wi_1 (n := 100) (by decide) hw
    obtain ⟨t, ht, et⟩ := h1.2.2.1
    obtain ⟨σ1, e1, v1, f1⟩ := C_passMinutes (N := k) k1 σ h1 (by omega) (by omega)
    have okm := okR_mins k (100 * K) h1
    have r50 : σ1 50 = σ 50 := f1 50 (by decide)
    have le : nI t + nI k ≤ 99999 := by rw [nI_add]; exact (nI_leI (b := 99999) (by omega) (by decide)).mpr (by omega)
    have a1 := agr_mins k (100 * K) h2 h1 (by omega)
    refine ⟨sumR 5 m (minsR k (V 1 σ)), σ1, up1 σ1 50 (minsR k (σ 50)), ?_, ?_, ?_⟩
    · rw [F_X4_go, if_neg (fun q => by have := (nI_ltI (b := 1) (by omega) (by decide)).mp q; omega), if_pos (show nI k ≤ 100 from (nI_leI (b := 100) (by omega) (by decide)).mpr hk2), k04, ck_t, V0 1 σ, et, if_pos le, e1, bnd_s, show (5 : Int32) = nI 5 from rfl, C_sumOf k1 h8 (by decide) σ1 (by rw [v1]; exact okm.2.1), bnd_s, v1]
    · rw [F_X5_go, M_within, bnd_s, if_t hw, k49, ck_t, r50, ← h2 0 (by omega), et, if_pos le, M_minutes σ1 (by rw [r50]; exact okR_agr h2 h1) (by omega) (by omega), bnd_s, show (5 : Int32) = nI 5 from rfl, M_sumOf h8 (by decide) _ (by rw [up1_s, r50]; exact (okR_mins k (100 * K) (okR_agr h2 h1)).2.1), bnd_s, up1_s, r50, agr_sum (by decide) a1 m (by omega)]
    · refine Rel_real h f1 (fun k' hk' => up1_n hk') ⟨m, ?_, ?_, ?_⟩
      · rw [v1]; exact okR_mono okm (by omega)
      · rw [v1, up1_s]; exact a1
      · rw [v1]; exact okS_mins k (100 * K) h1 h4
  · have hc : F_X4_go 0 n σ = some (-1000001, fnd 0 σ) := by
      unfold wi at hw
      rw [Bool.and_eq_true, Bool.not_eq_true', Bool.not_eq_true', decide_eq_false_iff_not, decide_eq_false_iff_not] at hw
      by_cases c1 : n < 1
      · rw [F_X4_go, if_pos c1, k04, ck_t, C_f0, bnd_s]
      · rw [F_X4_go, if_neg c1, if_neg (fun q => hw ⟨c1, Int32.not_lt.mpr q⟩), k04, ck_t, C_f0, bnd_s]
    refine op_e0 h hc (fun τ hτ => ?_)
    rw [F_X5_go, M_within, bnd_s, if_f (wi_f hw), k49, ck_t, M_f0, bnd_s]

/-! PURE: the calls on sheets: copy -/
theorem lgc {i n z : Nat} (hi : i < 2 ^ 31) (hn : n < 2 ^ 31) (hz : z < 2 ^ 31) : lg_cmp ((nI i).toInt64 + (nI n).toInt64) (nI z).toInt64 = if z < i + n then 1 else if i + n = z then 0 else -1 := by
  have e : ((nI i).toInt64 + (nI n).toInt64).toInt = ((i + n : Nat) : Int) := by
    rw [Int64.toInt_add, Int32.toInt_toInt64, Int32.toInt_toInt64, nI_toInt hi, nI_toInt hn, Int.bmod_eq_of_le (by omega) (by omega)]
    omega
  have ez : (nI z).toInt64.toInt = (z : Int) := by rw [Int32.toInt_toInt64, nI_toInt hz]
  unfold lg_cmp
  by_cases c : z < i + n
  · rw [if_pos c, if_pos (show (nI i).toInt64 + (nI n).toInt64 > (nI z).toInt64 from Int64.lt_iff_toInt_lt.mpr (by rw [e, ez]; omega))]
  · rw [if_neg c, if_neg (show ¬ (nI i).toInt64 + (nI n).toInt64 > (nI z).toInt64 from fun q => by have := Int64.lt_iff_toInt_lt.mp q; rw [e, ez] at this; omega)]
    by_cases d : i + n = z
    · rw [if_pos d, if_pos (Int64.toInt_inj.mp (by rw [e, ez]; omega))]
    · rw [if_neg d, if_neg (fun q => by have := congrArg Int64.toInt q; rw [e, ez] at this; omega)]
theorem C_rgN {q : Nat} (σ : Sto) {i n : Int32} (h : i < 0 ∨ n < 0) : F_X1_hasRange (40 + 2 * q) i n σ = some (0, σ) := by
  by_cases c : i < 0
  · rw [F_X1_hasRange, if_pos c]
  · rcases h with h | h
    · exact absurd h c
    · rw [F_X1_hasRange, if_neg c, if_pos h]
theorem C_rg {q z i n : Nat} (hq : q < 4) (hz : z ≤ 40) (hi : i < 2 ^ 31) (hn : n < 2 ^ 31) {σ : Sto} (h : σ (40 + 2 * q) 1 = nI z) : F_X1_hasRange (40 + 2 * q) (nI i) (nI n) σ = some (b2i (decide (i + n ≤ z)), σ) := by
  rw [F_X1_hasRange, if_neg (nI_pos hi), if_neg (nI_pos hn), kdS hq, ck_t, h]
  by_cases c : z < i
  · rw [if_pos ((nI_ltI (by omega) hi).mpr c), decide_eq_false (by omega)]; rfl
  · rw [if_neg (fun z => c ((nI_ltI (by omega) hi).mp z))]
    have e : (nI z - nI i).toInt = (z : Int) - i := pk_sub_toInt (by omega) hi
    by_cases d : i + n ≤ z
    · rw [if_neg (fun q => by have := Int32.lt_iff_toInt_lt.mp q; rw [e, nI_toInt hn] at this; omega), decide_eq_true d]; rfl
    · rw [if_pos (Int32.lt_iff_toInt_lt.mpr (by rw [e, nI_toInt hn]; omega)), decide_eq_false d]; rfl
theorem n40k {q : Nat} (hq : q < 4) (i k : Nat) : 40 * nI q + nI i + nI k = nI (40 * q + i + k) := by rw [n40 hq, nI_add]
theorem M_cpB {b j n : Nat} (hb : b < 4) (hjn : j + n ≤ 40) (σ0 : Sto) : ∀ (d k u : Nat) (g : Row), k + d = n → d < u → (∀ x, 40 * b + j ≤ x → x < 40 * b + j + k → g x = σ0 60 (x - (40 * b + j))) → (∀ x, ¬ (40 * b + j ≤ x ∧ x < 40 * b + j + k) → g x = σ0 59 x) → lo5 F_X5_copy_b165 u 49 (nI b) (nI j) (nI n) (nI k) (up1 σ0 59 g) = some (nI n, up1 σ0 59 (va_cpy (σ0 60) (σ0 59) 0 (40 * b + j) n)) := by
  intro d
  induction d with
  | zero =>
    intro k u g hk hu h1 h2
    obtain ⟨u, rfl⟩ : ∃ q, u = q + 1 := ⟨u - 1, by omega⟩
    have e : g = va_cpy (σ0 60) (σ0 59) 0 (40 * b + j) n := by
      funext x
      unfold va_cpy
      by_cases c : 40 * b + j ≤ x ∧ x < 40 * b + j + n
      · rw [if_pos c, h1 x c.1 (by omega), Nat.zero_add]
      · rw [if_neg c, h2 x (by omega)]
    rw [lo5_s, F_X5_copy_b165, if_pos (show nI n ≤ nI k by rw [show k = n by omega]; exact Int32.le_refl _), e]
  | succ d ih =>
    intro k u g hk hu h1 h2
    obtain ⟨u, rfl⟩ : ∃ q, u = q + 1 := ⟨u - 1, by omega⟩
    rw [lo5_s, F_X5_copy_b165, if_neg (nI_lei (by omega) (by omega)), k49, ck_t, inr_nI (by omega) (by decide), ck_t, n40k hb, inr_nI (by omega) (by decide), ck_t, lts_e, nI_clamp (by omega), nI_clamp (by omega), up2_up1, up1_n (show ¬ 60 = 59 by decide), nI_1]
    refine ih (k + 1) u _ (by omega) (by omega) (fun x hx1 hx2 => ?_) (fun x hx => ?_)
    · rw [upd_i]
      by_cases c : x = 40 * b + j + k
      · rw [if_pos c, c, show 40 * b + j + k - (40 * b + j) = k by omega]
      · rw [if_neg c]; exact h1 x hx1 (by omega)
    · rw [upd_n (by omega)]; exact h2 x (by omega)
theorem M_cpA {a i b j n : Nat} (ha : a < 4) (hin : i + n ≤ 40) (hb : b < 4) (hjn : j + n ≤ 40) (σ0 : Sto) : ∀ (d k u : Nat) (g : Row), k + d = n → d < u → (∀ x, x < k → g x = σ0 59 (40 * a + i + x)) → ∃ g', (∀ x, x < n → g' x = σ0 59 (40 * a + i + x)) ∧ lo7 F_X5_copy_b128 u 49 (nI a) (nI i) (nI b) (nI j) (nI n) (nI k) (up1 σ0 60 g) = some (nI n, up1 (up1 σ0 60 g') 59 (va_cpy g' (σ0 59) 0 (40 * b + j) n)) := by
  intro d
  induction d with
  | zero =>
    intro k u g hk hu h1
    obtain ⟨u, rfl⟩ : ∃ q, u = q + 1 := ⟨u - 1, by omega⟩
    refine ⟨g, fun x hx => h1 x (by omega), ?_⟩
    rw [lo7_s, F_X5_copy_b128, if_pos (show nI n ≤ nI k by rw [show k = n by omega]; exact Int32.le_refl _)]
    have := M_cpB hb hjn (up1 σ0 60 g) n 0 1000 ((up1 σ0 60 g) 59) (by omega) (by omega) (fun x h1 h2 => absurd h2 (by omega)) (fun x _ => rfl)
    rw [up1_same rfl] at this
    refine this.trans ?_
    rw [up1_s, up1_n (show ¬ 59 = 60 by decide)]
  | succ d ih =>
    intro k u g hk hu h1
    obtain ⟨u, rfl⟩ : ∃ q, u = q + 1 := ⟨u - 1, by omega⟩
    obtain ⟨g', e1, e2⟩ := ih (k + 1) u (upd g k (σ0 59 (40 * a + i + k))) (by omega) (by omega) (fun x hx => by
      rw [upd_i]
      by_cases c : x = k
      · rw [if_pos c, c]
      · rw [if_neg c]; exact h1 x (by omega))
    refine ⟨g', e1, ?_⟩
    rw [lo7_s, F_X5_copy_b128, if_neg (nI_lei (by omega) (by omega)), k49, ck_t, n40k ha, inr_nI (by omega) (by decide), ck_t, inr_nI (by omega) (by decide), ck_t, lts_e, nI_clamp (by omega), nI_clamp (by omega), up2_up1, up1_n (show ¬ 59 = 60 by decide), nI_1]
    exact e2

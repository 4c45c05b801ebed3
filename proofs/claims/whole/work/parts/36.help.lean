/-! PURE: what both sides' helpers answer -/
theorem M_within (v lo hi : Int32) (σ : Sto) : F_X5_within v lo hi σ = some (b2i (wi v lo hi), σ) := by
  unfold F_X5_within wi
  by_cases h1 : v < lo
  · rw [if_pos h1, decide_eq_true h1]; rfl
  · rw [if_neg h1, decide_eq_false h1]
    by_cases h2 : hi < v
    · rw [if_pos h2, decide_eq_true h2]; rfl
    · rw [if_neg h2, decide_eq_false h2]; rfl
theorem z01_b (c : Bool) : z01 (b2i c) = true := by cases c <;> decide
theorem wi_isS {m : Nat} (h8 : m ≤ 8) (v : Int32) : wi v 0 (nI m - 1) = isS m v := by
  unfold wi isS
  by_cases h1 : v < 0
  · rw [decide_eq_true h1, decide_eq_false (Int32.not_le.mpr h1)]; rfl
  · rw [decide_eq_false h1, decide_eq_true (Int32.not_lt.mp h1)]
    obtain ⟨n, hn, rfl⟩ := nI_of h1
    rw [nI_clamp hn]
    have e : (nI m - 1).toInt = (m : Int) - 1 := pk_sub_toInt (b := 1) (by omega) (by decide)
    by_cases h : n < m
    · rw [decide_eq_true h, decide_eq_false (show ¬ nI m - 1 < nI n from fun q => by
        have := Int32.lt_iff_toInt_lt.mp q
        rw [e, nI_toInt hn] at this; omega)]; rfl
    · rw [decide_eq_false h, decide_eq_true (show nI m - 1 < nI n from Int32.lt_iff_toInt_lt.mpr (by rw [e, nI_toInt hn]; omega))]; rfl
theorem M_isSitter {m : Nat} (h8 : m ≤ 8) {σ : Sto} (hm : σ 50 1 = nI m) (v : Int32) : F_X5_isSitter 49 v σ = some (b2i (isS m v), σ) := by
  rw [F_X5_isSitter, k49, ck_t, hm, M_within, bnd_s, z01_b, ck_t, wi_isS h8]
theorem wi_inr (v : Int32) (n : Nat) (hn : n < 2 ^ 30) : wi v 0 (nI n) = inr v (n + 1) := by
  unfold wi inr
  by_cases h1 : v < 0
  · rw [decide_eq_true h1, decide_eq_false (Int32.not_le.mpr h1)]; rfl
  · rw [decide_eq_false h1, decide_eq_true (Int32.not_lt.mp h1)]
    obtain ⟨k, hk, rfl⟩ := nI_of h1
    rw [nI_clamp hk]
    by_cases h : k < n + 1
    · rw [decide_eq_true h, decide_eq_false (show ¬ nI n < nI k from fun q => by have := (nI_ltI (by omega) hk).mp q; omega)]; rfl
    · rw [decide_eq_false h, decide_eq_true ((nI_ltI (by omega) hk).mpr (by omega))]; rfl
theorem inr_of {v : Int32} {n : Nat} (h : inr v n = true) : ∃ k, k < n ∧ v = nI k := by
  unfold inr at h
  rw [Bool.and_eq_true, decide_eq_true_eq, decide_eq_true_eq] at h
  obtain ⟨k, hk, rfl⟩ := nI_of (Int32.not_lt.mpr h.1)
  rw [nI_clamp hk] at h
  exact ⟨k, h.2, rfl⟩
theorem M_isPlace (v : Int32) (σ : Sto) : F_X5_isPlace v σ = some (b2i (inr v 6), σ) := by
  rw [F_X5_isPlace, M_within, bnd_s, z01_b, ck_t, show wi v 0 5 = inr v 6 from wi_inr v 5 (by decide)]
theorem M_isKind (v : Int32) (σ : Sto) : F_X5_isKind v σ = some (b2i (wi v 0 6), σ) := by
  rw [F_X5_isKind, M_within, bnd_s, z01_b, ck_t]
theorem M_isFlash (v : Int32) (σ : Sto) : F_X5_isFlash v σ = some (b2i (wi v 0 3), σ) := by
  rw [F_X5_isFlash, M_within, bnd_s, z01_b, ck_t]
theorem wi_t {v hi : Int32} {n : Nat} (hn : n < 2 ^ 30) (e : hi = nI n) (h : wi v 0 hi = true) : ∃ k, k ≤ n ∧ v = nI k := by
  subst e
  rw [wi_inr v n hn] at h
  obtain ⟨k, hk, e⟩ := inr_of h
  exact ⟨k, by omega, e⟩
def isQ (m : Nat) (v : Int32) : Bool := decide (v = -1) || isS m v
theorem C_isQ {b m : Nat} (hb : kd b = 0) {σ : Sto} (hm : V b σ 1 = nI m) (h8 : m ≤ 8) (v : Int32) : F_X0_isSomebodyOrNobody b v σ = some (b2i (isQ m v), σ) := by
  rw [F_X0_isSomebodyOrNobody, kdb b hb, ck_t, C_isSitter hb hm h8, bnd_s]
  unfold isQ
  by_cases h : v = -1
  · rw [if_pos h, decide_eq_true h]; rfl
  · rw [if_neg h, decide_eq_false h]; cases isS m v <;> rfl
theorem M_isQ {m : Nat} (h8 : m ≤ 8) {σ : Sto} (hm : σ 50 1 = nI m) (v : Int32) : F_X5_isInQueue 49 v σ = some (b2i (isQ m v), σ) := by
  rw [F_X5_isInQueue, k49, ck_t, M_isSitter h8 hm, bnd_s]
  unfold isQ
  by_cases h : v = -1
  · rw [if_pos h, decide_eq_true h]; rfl
  · rw [if_neg h, decide_eq_false h]; cases isS m v <;> rfl
theorem isQ_of {m : Nat} {v : Int32} (h : isQ m v = true) : v = -1 ∨ ∃ i, i < m ∧ v = nI i := by
  unfold isQ at h
  rw [Bool.or_eq_true, decide_eq_true_eq] at h
  rcases h with h | h
  · exact Or.inl h
  · exact Or.inr (isS_of h)
/-! one number of a sitter, and sums of them -/
theorem S2_part {s k : Nat} (hs : kd s = 2) (hk : k < 7) (σ : Sto) : F_X2_part s (nI k) σ = some (σ s k, σ) := by
  rw [F_X2_part, kdb s hs]
  rcases (show k = 0 ∨ k = 1 ∨ k = 2 ∨ k = 3 ∨ k = 4 ∨ k = 5 ∨ k = 6 by omega) with rfl | rfl | rfl | rfl | rfl | rfl | rfl <;> rfl
theorem C_partOf {b m i k : Nat} (hb : kd b = 0) {σ : Sto} (hm : V b σ 1 = nI m) (h8 : m ≤ 8) (hi : i < m) (hk : k < 7) : F_X0_partOf b (nI i) (nI k) σ = some (V b σ (23 + 7 * i + k), σ) := by
  rw [F_X0_partOf, kdb b hb, ck_t, C_whoS hb hm h8 hi, bnd_s, oc_s, kdb _ (kel hb (show i < 8 by omega)), ck_t, S2_part (kel hb (by omega)) hk, bnd_s, Vs b σ (by omega) hk]
def sumR (k : Nat) : Nat → Row → Int32
  | 0, _ => 0
  | j + 1, a => sumR k j a + a (23 + 7 * j + k)
theorem C_sum {b m k : Nat} (hb : kd b = 0) (h8 : m ≤ 8) (hk : k < 7) (σ : Sto) (hm : V b σ 1 = nI m) : ∀ (d j n : Nat), j + d = m → d < n → lo4 F_X0_sumOf_b4 n b (nI k) (sumR k j (V b σ)) (nI j) σ = some (sumR k m (V b σ), σ) := by
  intro d
  induction d with
  | zero =>
    intro j n hj hn
    have hjm : j = m := by omega
    subst hjm
    obtain ⟨n, rfl⟩ : ∃ q, n = q + 1 := ⟨n - 1, by omega⟩
    show F_X0_sumOf_b4 (lo4 F_X0_sumOf_b4 n) b (nI k) _ (nI j) σ = _
    rw [F_X0_sumOf_b4, kdb b hb, ck_t, V1 b σ, hm, if_pos (Int32.le_refl _)]
  | succ d ih =>
    intro j n hj hn
    obtain ⟨n, rfl⟩ : ∃ q, n = q + 1 := ⟨n - 1, by omega⟩
    show F_X0_sumOf_b4 (lo4 F_X0_sumOf_b4 n) b (nI k) _ (nI j) σ = _
    rw [F_X0_sumOf_b4, kdb b hb, ck_t, V1 b σ, hm, if_neg (fun q => by have := (nI_leI (by omega) (by omega)).mp q; omega), C_partOf hb hm h8 (by omega) hk, bnd_s, lti_e, nI_1]
    exact ih (j + 1) n (by omega) (by omega)
theorem C_sumOf {b m k : Nat} (hb : kd b = 0) (h8 : m ≤ 8) (hk : k < 7) (σ : Sto) (hm : V b σ 1 = nI m) : F_X0_sumOf b (nI k) σ = some (sumR k m (V b σ), σ) := C_sum hb h8 hk σ hm m 0 1000 (by omega) (by omega)
theorem M_sum {m k : Nat} (h8 : m ≤ 8) (hk : k < 7) (σ : Sto) (hm : σ 50 1 = nI m) : ∀ (d j n : Nat), j + d = m → d < n → lo4 F_X5_sumOf_b4 n 49 (nI k) (sumR k j (σ 50)) (nI j) σ = some (sumR k m (σ 50), σ) := by
  intro d
  induction d with
  | zero =>
    intro j n hj hn
    have hjm : j = m := by omega
    subst hjm
    obtain ⟨n, rfl⟩ : ∃ q, n = q + 1 := ⟨n - 1, by omega⟩
    show F_X5_sumOf_b4 (lo4 F_X5_sumOf_b4 n) 49 (nI k) _ (nI j) σ = _
    rw [F_X5_sumOf_b4, k49, ck_t, hm, if_pos (Int32.le_refl _)]
  | succ d ih =>
    intro j n hj hn
    obtain ⟨n, rfl⟩ : ∃ q, n = q + 1 := ⟨n - 1, by omega⟩
    show F_X5_sumOf_b4 (lo4 F_X5_sumOf_b4 n) 49 (nI k) _ (nI j) σ = _
    rw [F_X5_sumOf_b4, k49, ck_t, hm, if_neg (fun q => by have := (nI_leI (by omega) (by omega)).mp q; omega), M_is (by omega) hk, bnd_s, lti_e, nI_1]
    exact ih (j + 1) n (by omega) (by omega)
theorem M_sumOf {m k : Nat} (h8 : m ≤ 8) (hk : k < 7) (σ : Sto) (hm : σ 50 1 = nI m) : F_X5_sumOf 49 (nI k) σ = some (sumR k m (σ 50), σ) := M_sum h8 hk σ hm m 0 1000 (by omega) (by omega)
theorem agr_sum {m k : Nat} (hk : k < 7) {a b : Row} (h : agr m a b) : ∀ j, j ≤ m → sumR k j a = sumR k j b := by
  intro j
  induction j with
  | zero => intro _; rfl
  | succ j ih => intro hj; rw [sumR, sumR, ih (by omega), h (23 + 7 * j + k) (by omega)]
/-! the reference's rows, copied -/
def cp (f g : Row) : Row := fun j => if j < 79 then f j else g j
theorem cp_lt {f g : Row} {j : Nat} (h : j < 79) : cp f g j = f j := by unfold cp; rw [if_pos h]
theorem cp_ge {f g : Row} {j : Nat} (h : 79 ≤ j) : cp f g j = g j := by unfold cp; rw [if_neg (by omega)]
theorem M_copyL {s d : Nat} (hs : kd s = 6) (hd : kd d = 6) (ls : ln s = 79) (ld : ln d = 79) (hne : ¬ s = d) (σ0 : Sto) : ∀ (q j n : Nat) (g : Row), j + q = 79 → q < n → (∀ i, i < j → g i = σ0 s i) → (∀ i, j ≤ i → g i = σ0 d i) → lo3 F_X5_copyRow_b2 n s d (nI j) (up1 σ0 d g) = some ((), up1 σ0 d (cp (σ0 s) (σ0 d))) := by
  intro q
  induction q with
  | zero =>
    intro j n g hj hn h1 h2
    have hjm : j = 79 := by omega
    subst hjm
    obtain ⟨n, rfl⟩ : ∃ q, n = q + 1 := ⟨n - 1, by omega⟩
    show F_X5_copyRow_b2 (lo3 F_X5_copyRow_b2 n) s d (nI 79) _ = _
    rw [F_X5_copyRow_b2, if_pos (show (79 : Int32) ≤ nI 79 by decide)]
    have e : g = cp (σ0 s) (σ0 d) := by
      funext i
      rcases Nat.lt_or_ge i 79 with q | q
      · rw [cp_lt q, h1 i q]
      · rw [cp_ge q, h2 i q]
    rw [e]
  | succ q ih =>
    intro j n g hj hn h1 h2
    obtain ⟨n, rfl⟩ : ∃ q, n = q + 1 := ⟨n - 1, by omega⟩
    show F_X5_copyRow_b2 (lo3 F_X5_copyRow_b2 n) s d (nI j) _ = _
    rw [F_X5_copyRow_b2, if_neg (show ¬ (79 : Int32) ≤ nI j from fun z => by have := (nI_leI (a := 79) (by decide) (by omega)).mp z; omega), kdb s hs, ck_t, ls, inr_nI (by omega) (by decide), ck_t, kdb d hd, ck_t, ld, inr_nI (by omega) (by decide), ck_t, lts_e, nI_clamp (by omega), up2_up1, up1_n hne, nI_1]
    refine ih (j + 1) n _ (by omega) (by omega) (fun i hi => ?_) (fun i hi => ?_)
    · rw [upd_i]
      by_cases h : i = j
      · rw [if_pos h, h]
      · rw [if_neg h]; exact h1 i (by omega)
    · rw [upd_n (by omega)]; exact h2 i (by omega)
theorem M_copy {s d : Nat} (hs : kd s = 6) (hd : kd d = 6) (ls : ln s = 79) (ld : ln d = 79) (hne : ¬ s = d) (σ : Sto) : F_X5_copyRow s d σ = some ((), up1 σ d (cp (σ s) (σ d))) := by
  have h := M_copyL hs hd ls ld hne σ 79 0 1000 (σ d) (by omega) (by omega) (fun i hi => absurd hi (by omega)) (fun _ _ => rfl)
  rw [up1_same rfl] at h
  exact h
theorem M_putBack (v : Int32) (σ : Sto) : F_X5_putBack 49 v σ = some (v, up1 σ 50 (cp (σ 52) (σ 50))) := by
  rw [F_X5_putBack, k49, ck_t, M_copy (by decide) (by decide) (by decide) (by decide) (by decide), bnd_s]
theorem M_behind {T m n p : Nat} {σ : Sto} (hok : okR T m (σ 50)) (hn : n ≤ 900) (hT : T + n < 2 ^ 31) (hp : p < 79) : ∃ σ', F_X5_behind 49 (nI p) (nI n) σ = some (minsR n (σ 50) p, σ') ∧ mq σ σ' := by
  refine ⟨up1 (up1 (up1 σ 52 (cp (σ 50) (σ 52))) 50 (minsR n (σ 50))) 50 (cp (cp (σ 50) (σ 52)) (minsR n (σ 50))), ?_, ?_⟩
  · rw [F_X5_behind, k49, ck_t, M_copy (by decide) (by decide) (by decide) (by decide) (by decide), bnd_s, M_minutes (T := T) (m := m) _ (by rw [up1_n (by decide)]; exact hok) hn hT, bnd_s, inr_nI hp (by decide), ck_t, nI_clamp (by omega), up1_s, up1_n (show ¬ 50 = 52 by decide), M_putBack, bnd_s, up1_s, up1_n (show ¬ 52 = 50 by decide), up1_s]
  · refine ⟨fun k h1 h2 h3 h4 h5 => ?_, ?_, ?_, fun j hj => ?_⟩
    · rw [up1_n h2, up1_n h2, up1_n h3]
    · rw [up1_n (by decide), up1_n (by decide), up1_n (by decide)]
    · rw [up1_n (by decide), up1_n (by decide), up1_n (by decide)]
    · rw [up1_s, cp_lt hj, cp_lt hj]
theorem M_becomeR {p : Nat} (hp : p < 79) (v : Int32) (σ : Sto) : F_X5_become 49 (nI p) v σ = some (σ 50 p, up1 σ 50 (upd (σ 50) p v)) := by
  rw [F_X5_become, k49, ck_t, inr_nI hp (by decide), ck_t, lti_e, ck_t, lts_e, nI_clamp (by omega)]
  rfl
theorem M_orNone (v : Int32) (σ : Sto) : F_X5_orNone 49 v σ = if 0 ≤ v then some (v, σ) else some (-1000004, fndM 3 σ) := by
  rw [F_X5_orNone, k49, ck_t, M_f3, bnd_s]
/-! how many bits -/
def bc (x0 : Int32) : Int32 := let v1 := x0 - (ius x0 1 &&& 1431655765); let v2 := (v1 &&& 858993459) + (ius v1 2 &&& 858993459); let v3 := (v2 + ius v2 4) &&& 252645135; let v4 := v3 + ius v3 8; let v5 := v4 + ius v4 16; v5 &&& 63
theorem C_bits (x : Int32) (σ : Sto) : F_J6_bitCount_0f7a4 x σ = some (bc x, σ) := rfl
def bl : Nat → Int32 → Int32 → Option Int32
  | 0, _, _ => none
  | k + 1, n, l => if l = 0 then some n else bl k (n + 1) (l &&& (l - 1))
theorem bl_lo (σ : Sto) : ∀ (k : Nat) (n l : Int32), lo2 F_X5_bits_b4 k n l σ = (bl k n l).map (fun v => (v, σ)) := by
  intro k
  induction k with
  | zero => intro n l; rfl
  | succ k ih =>
    intro n l
    show F_X5_bits_b4 (lo2 F_X5_bits_b4 k) n l σ = _
    rw [F_X5_bits_b4, bl, lti_e, ih]
    split <;> rfl
theorem bl_256 : ∀ n, n < 256 → bl 1000 0 (nI n) = some (bc (nI n)) := by decide +kernel
theorem M_bits {n : Nat} (h : n < 256) (σ : Sto) : F_X5_bits (nI n) σ = some (bc (nI n), σ) := by
  rw [F_X5_bits, bl_lo, bl_256 n h]
  rfl
theorem fset_lt (o s m h d : Bool) : ∃ n, n < 32 ∧ fset o s m h d = nI n := by
  exact ⟨(if d then 16 else 0) + (if o then 1 else 0) + (if s then 2 else 0) + (if m then 4 else 0) + (if h then 8 else 0), by cases o <;> cases s <;> cases m <;> cases h <;> cases d <;> decide, by cases o <;> cases s <;> cases m <;> cases h <;> cases d <;> decide⟩

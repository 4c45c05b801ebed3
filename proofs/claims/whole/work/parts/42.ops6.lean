/-! PURE: the calls: when, broke, all -/
def fstU (P : Row → Bool) : Nat → Nat → Row → Option Nat
  | 0, j, a => if P a = true then some j else none
  | d + 1, j, a => if P a = true then some j else fstU P d (j + 1) (minR a)
theorem fstU_c {P : Row → Bool} {m : Nat} (hP : ∀ a b : Row, agr m a b → P a = P b) : ∀ (d j T : Nat) (a b : Row), agr m a b → okR T m a → T + d < 2 ^ 31 → fstU P d j a = fstU P d j b := by
  intro d
  induction d with
  | zero => intro j T a b h _ _; rw [fstU, fstU, hP a b h]
  | succ d ih => intro j T a b h hok hT; rw [fstU, fstU, hP a b h, ih (j + 1) (T + 1) (minR a) (minR b) (agr_min h hok (by omega)) (okR_min hok) (by omega)]
theorem C_fst {P : Row → Bool} {m : Nat} {G : Nat → Int32 → Sto → Option (Int32 × Sto)} (hA : ∀ n σ, G (n + 1) (nI 201) σ = some (-1000004, fnd 3 σ)) (hB : ∀ n j σ T, j ≤ 200 → okR T m (V 13 σ) → G (n + 1) (nI j) σ = if P (V 13 σ) = true then some (nI j, σ) else bnd (F_X0_passMinute 13 σ) (fun _ σ' => G n (nI (j + 1)) σ')) : ∀ (d j n T : Nat) (σ : Sto), j + d = 200 → d + 1 < n → okR T m (V 13 σ) → T + d < 99999 → ∃ σ', cq σ σ' ∧ G n (nI j) σ = (match fstU P d j (V 13 σ) with | some k => some (nI k, σ') | none => some (-1000004, fnd 3 σ')) := by
  intro d
  induction d with
  | zero =>
    intro j n T σ hj hn hok hT
    obtain ⟨n, rfl⟩ : ∃ q, n = q + 1 + 1 := ⟨n - 2, by omega⟩
    have e : j = 200 := by omega
    subst e
    by_cases hp : P (V 13 σ) = true
    · exact ⟨σ, cq_r σ, by rw [hB _ _ _ T (by omega) hok, if_pos hp, fstU, if_pos hp]⟩
    · obtain ⟨σ1, e1, v1, f1⟩ := C_minute k13 σ hok (by omega)
      exact ⟨σ1, cq_fr f1, by rw [hB _ _ _ T (by omega) hok, if_neg hp, fstU, if_neg hp, e1, bnd_s, hA]⟩
  | succ d ih =>
    intro j n T σ hj hn hok hT
    obtain ⟨n, rfl⟩ : ∃ q, n = q + 1 := ⟨n - 1, by omega⟩
    by_cases hp : P (V 13 σ) = true
    · exact ⟨σ, cq_r σ, by rw [hB _ _ _ T (by omega) hok, if_pos hp, fstU, if_pos hp]⟩
    · obtain ⟨σ1, e1, v1, f1⟩ := C_minute k13 σ hok (by omega)
      obtain ⟨σ2, q2, e2⟩ := ih (j + 1) n (T + 1) σ1 (by omega) (by omega) (by rw [v1]; exact okR_min hok) (by omega)
      refine ⟨σ2, cq_t (cq_fr f1) q2, ?_⟩
      rw [hB _ _ _ T (by omega) hok, if_neg hp, fstU, if_neg hp, e1, bnd_s, e2, v1]
def bk (σ : Sto) : Sto := up1 σ 50 (cp (σ 52) (σ 50))
theorem M_fst {P : Row → Bool} {m : Nat} {E : Int32 → Sto → Option (Int32 × Sto)} {G : Nat → Int32 → Sto → Option (Int32 × Sto)} (hA : ∀ j σ T, j ≤ 200 → okR T m (σ 50) → okS m (σ 50) → E (nI j) σ = if P (σ 50) = true then some (nI j, bk σ) else some (-1000004, fndM 3 (bk σ))) (h2 : ∀ n σ, G (n + 1) (nI 200) σ = E (nI 200) σ) (hB : ∀ n j σ T, j < 200 → okR T m (σ 50) → okS m (σ 50) → G (n + 1) (nI j) σ = if P (σ 50) = true then E (nI j) σ else bnd (F_X5_minute 49 σ) (fun _ σ' => G n (nI (j + 1)) σ')) : ∀ (d j n T : Nat) (σ : Sto), j + d = 200 → d < n → okR T m (σ 50) → okS m (σ 50) → T + d < 2 ^ 31 → ∃ g, G n (nI j) σ = (match fstU P d j (σ 50) with | some k => some (nI k, bk (up1 σ 50 g)) | none => some (-1000004, fndM 3 (bk (up1 σ 50 g)))) := by
  intro d
  induction d with
  | zero =>
    intro j n T σ hj hn hok hoS hT
    obtain ⟨n, rfl⟩ : ∃ q, n = q + 1 := ⟨n - 1, by omega⟩
    have e : j = 200 := by omega
    subst e
    refine ⟨σ 50, ?_⟩
    rw [up1_same rfl, h2, hA _ _ T (by omega) hok hoS, fstU]
    split <;> rfl
  | succ d ih =>
    intro j n T σ hj hn hok hoS hT
    obtain ⟨n, rfl⟩ : ∃ q, n = q + 1 := ⟨n - 1, by omega⟩
    by_cases hp : P (σ 50) = true
    · refine ⟨σ 50, ?_⟩
      rw [up1_same rfl, hB _ _ _ T (by omega) hok hoS, if_pos hp, hA _ _ T (by omega) hok hoS, if_pos hp, fstU, if_pos hp]
    · obtain ⟨g, e2⟩ := ih (j + 1) n (T + 1) (up1 σ 50 (minR (σ 50))) (by omega) (by omega) (by rw [up1_s]; exact okR_min hok) (by rw [up1_s]; exact okS_min hoS hok.2.1 hok.1) (by omega)
      refine ⟨g, ?_⟩
      rw [hB _ _ _ T (by omega) hok hoS, if_neg hp, M_minute σ hok (by omega), bnd_s, e2, up1_s, up1_t, fstU, if_neg hp]
theorem bk_mq (σ : Sto) (g : Row) : mq σ (bk (up1 (up1 σ 52 (cp (σ 50) (σ 52))) 50 g)) := by
  unfold bk
  refine ⟨fun k h1 h2 h3 h4 h5 => ?_, ?_, ?_, fun j hj => ?_⟩
  · rw [up1_n h2, up1_n h2, up1_n h3]
  · rw [up1_n (by decide), up1_n (by decide), up1_n (by decide)]
  · rw [up1_n (by decide), up1_n (by decide), up1_n (by decide)]
  · rw [up1_s, cp_lt hj, up1_n (by decide), up1_s, cp_lt hj]
/-- the three calls, all at once -/
theorem fst_op {P : Row → Bool} {m K : Nat} {σ : Sto} (h : Rel K σ) (h1 : okR (100 * K) m (V 1 σ)) (h2 : agr m (V 1 σ) (σ 50)) (h4 : okS m (V 1 σ)) (hK : K ≤ 512) (hP : ∀ a b : Row, agr m a b → P a = P b) {Fc Fm : Sto → Option (Int32 × Sto)} {G H : Nat → Int32 → Sto → Option (Int32 × Sto)} {E : Int32 → Sto → Option (Int32 × Sto)}
    (hc : Fc σ = bnd (F_X0_become 13 1 σ) (fun _ σ' => G 1000 0 σ')) (cA : ∀ n σ, G (n + 1) (nI 201) σ = some (-1000004, fnd 3 σ)) (cB : ∀ n j σ T, j ≤ 200 → okR T m (V 13 σ) → G (n + 1) (nI j) σ = if P (V 13 σ) = true then some (nI j, σ) else bnd (F_X0_passMinute 13 σ) (fun _ σ' => G n (nI (j + 1)) σ'))
    (hm : ∀ τ : Sto, (∀ k, 49 ≤ k → τ k = σ k) → Fm τ = H 1000 0 (up1 τ 52 (cp (τ 50) (τ 52)))) (mA : ∀ j σ T, j ≤ 200 → okR T m (σ 50) → okS m (σ 50) → E (nI j) σ = if P (σ 50) = true then some (nI j, bk σ) else some (-1000004, fndM 3 (bk σ))) (m2 : ∀ n σ, H (n + 1) (nI 200) σ = E (nI 200) σ) (mB : ∀ n j σ T, j < 200 → okR T m (σ 50) → okS m (σ 50) → H (n + 1) (nI j) σ = if P (σ 50) = true then E (nI j) σ else bnd (F_X5_minute 49 σ) (fun _ σ' => H n (nI (j + 1)) σ')) :
    ∃ r σ1 σ2, Fc σ = some (r, σ1) ∧ Fm σ1 = some (r, σ2) ∧ Rel (K + 1) σ2 := by
  have h8 := h1.1
  obtain ⟨σ1, e1, a1, f1⟩ := C_become k13 k1 (by decide) h8 σ h1.2.1
  have ok1 := okR_agr (agr_s a1) h1
  obtain ⟨σ', q', e'⟩ := C_fst cA cB 200 0 1000 (100 * K) σ1 (by omega) (by omega) ok1 (by omega)
  have ec : fstU P 200 0 (V 13 σ1) = fstU P 200 0 (V 1 σ) := fstU_c hP 200 0 (100 * K) _ _ a1 ok1 (by omega)
  rw [ec] at e'
  have em : ∀ τ : Sto, (∀ k, 49 ≤ k → τ k = σ k) → ∃ g, Fm τ = (match fstU P 200 0 (V 1 σ) with | some k => some (nI k, bk (up1 (up1 τ 52 (cp (τ 50) (τ 52))) 50 g)) | none => some (-1000004, fndM 3 (bk (up1 (up1 τ 52 (cp (τ 50) (τ 52))) 50 g)))) := by
    intro τ hτ
    have r50 : (up1 τ 52 (cp (τ 50) (τ 52))) 50 = τ 50 := up1_n (by decide)
    have okm := okR_agr (mrow h2 hτ) h1
    obtain ⟨g, eg⟩ := M_fst mA m2 mB 200 0 1000 (100 * K) (up1 τ 52 (cp (τ 50) (τ 52))) (by omega) (by omega) (by rw [r50]; exact okm) (by rw [r50]; exact okS_agr (mrow h2 hτ) h4) (by omega)
    refine ⟨g, ?_⟩
    rw [r50, ← fstU_c hP 200 0 (100 * K) _ _ (mrow h2 hτ) h1 (by omega)] at eg
    rw [hm τ hτ]
    exact eg
  cases ef : fstU P 200 0 (V 1 σ) with
  | some k =>
    refine op_ans (r := nI k) h ⟨σ', ?_, cq_t (cq_fr f1) q'⟩ (fun τ hτ => ?_)
    · rw [hc, e1, bnd_s]
      rw [ef] at e'
      exact e'
    · obtain ⟨g, eg⟩ := em τ hτ
      rw [ef] at eg
      exact ⟨_, eg, bk_mq τ g⟩
  | none =>
    refine op_fin (i := 3) (r := -1000004) (by decide) h ⟨σ', ?_, cq_t (cq_fr f1) q'⟩ (fun τ hτ => ?_)
    · rw [hc, e1, bnd_s]
      rw [ef] at e'
      exact e'
    · obtain ⟨g, eg⟩ := em τ hτ
      rw [ef] at eg
      exact ⟨_, eg, bk_mq τ g⟩
theorem M_endP {j : Nat} (hj : j ≤ 200) (σ : Sto) : (bnd (F_X5_putBack 49 (nI j) σ) (fun xr8 xσ6 => bnd (F_X5_orNone 49 (xr8) xσ6) (fun xr11 xσ9 => some (xr11, xσ9)))) = some (nI j, bk σ) := by
  rw [M_putBack, bnd_s, M_orNone, if_pos (nI_pos' (by omega)), bnd_s]
  rfl
theorem M_endN (σ : Sto) : (bnd (F_X5_putBack 49 (-1) σ) (fun xr8 xσ6 => bnd (F_X5_orNone 49 (xr8) xσ6) (fun xr11 xσ9 => some (xr11, xσ9)))) = some (-1000004, fndM 3 (bk σ)) := by
  rw [M_putBack, bnd_s, M_orNone, if_neg (by decide), bnd_s]
  rfl
theorem i200 {j : Nat} (h : j ≤ 200) : ¬ (200 : Int32) < nI j := fun q => by have := (nI_ltI (a := 200) (by decide) (by omega)).mp q; omega
theorem i199 {j : Nat} (h : j < 200) : ¬ (200 : Int32) ≤ nI j := fun q => by have := (nI_leI (a := 200) (by decide) (by omega)).mp q; omega
theorem op_when (s n : Int32) : Op (F_X4_when 0 s n) (F_X5_when 49 s n) := by
  intro K σ hK h
  obtain ⟨⟨⟨m, h1, h2, h4⟩, hk⟩, hT, hS, hF⟩ := id h
  have h8 := h1.1
  by_cases hs : isS m s = true
  · obtain ⟨i, hi, rfl⟩ := isS_of hs
    by_cases hw : wi n 0 999 = true
    · refine fst_op (P := fun a => decide (n ≤ a (23 + 7 * i + 5))) (m := m) (G := fun q => lo4 (F_X4_when_b42) q 0 (nI i) n) (H := fun q => lo4 (F_X5_when_b39) q 49 (nI i) n) (E := F_X5_when_b66 49 (nI i) n) h h1 h2 h4 hK (fun a b hab => by rw [hab _ (by omega)]) ?_ (fun q σ => ?_) (fun q j σ T hj hok => ?_) (fun τ hτ => ?_) (fun j σ T hj hok hoS => ?_) (fun q σ => ?_) (fun q j σ T hj hok hoS => ?_)
      · rw [F_X4_when, k04, ck_t, C_isSitter k1 h1.2.1 h8, bnd_s, if_t hs, show F_X2_mostOf 5 σ = some (999, σ) from rfl, bnd_s, C_within, bnd_s, if_t hw]
      · show F_X4_when_b42 (lo4 F_X4_when_b42 q) 0 (nI i) n (nI 201) σ = _
        rw [F_X4_when_b42, if_pos (by decide), k04, ck_t, C_f3, bnd_s]
      · show F_X4_when_b42 (lo4 F_X4_when_b42 q) 0 (nI i) n (nI j) σ = _
        rw [F_X4_when_b42, if_neg (i200 hj), k04, ck_t, show (5 : Int32) = nI 5 from rfl, C_partOf k13 hok.2.1 h8 hi (by decide), bnd_s, nI_1]
        by_cases c : V 13 σ (23 + 7 * i + 5) < n
        · rw [if_pos c, if_neg (by rw [decide_eq_true_eq]; exact Int32.not_le.mpr c)]
        · rw [if_neg c, if_pos (by rw [decide_eq_true_eq]; exact Int32.not_lt.mp c)]
      · rw [F_X5_when, k49, ck_t, M_isSitter h8 (m1of h1 (mrow h2 hτ)), bnd_s, if_t hs, M_within, bnd_s, if_t hw, M_copy (by decide) (by decide) (by decide) (by decide) (by decide), bnd_s]
      · rw [F_X5_when_b66, k49, ck_t, M_is5 (by omega), bnd_s, M_endP hj, M_endN]
        by_cases c : n ≤ σ 50 (23 + 7 * i + 5)
        · rw [if_pos c, if_pos (decide_eq_true c)]
        · rw [if_neg c, if_neg (by rw [decide_eq_true_eq]; exact c)]
      · show F_X5_when_b39 (lo4 F_X5_when_b39 q) 49 (nI i) n (nI 200) σ = _
        rw [F_X5_when_b39, if_pos (by decide)]
      · show F_X5_when_b39 (lo4 F_X5_when_b39 q) 49 (nI i) n (nI j) σ = _
        rw [F_X5_when_b39, if_neg (i199 hj), k49, ck_t, M_is5 (by omega), bnd_s, nI_1]
        by_cases c : n ≤ σ 50 (23 + 7 * i + 5)
        · rw [if_pos c, if_pos (decide_eq_true c)]
        · rw [if_neg c, if_neg (by rw [decide_eq_true_eq]; exact c)]
    · refine op_e0 h ?_ (fun τ hτ => ?_)
      · rw [F_X4_when, k04, ck_t, C_isSitter k1 h1.2.1 h8, bnd_s, if_t hs, show F_X2_mostOf 5 σ = some (999, σ) from rfl, bnd_s, C_within, bnd_s, if_f (wi_f hw), C_f0, bnd_s]
      · rw [F_X5_when, k49, ck_t, M_isSitter h8 (m1of h1 (mrow h2 hτ)), bnd_s, if_t hs, M_within, bnd_s, if_f (wi_f hw), M_f0, bnd_s]
  · refine op_e0 h ?_ (fun τ hτ => ?_)
    · rw [F_X4_when, k04, ck_t, C_isSitter k1 h1.2.1 h8, bnd_s, if_f (wi_f hs), C_f0, bnd_s]
    · rw [F_X5_when, k49, ck_t, M_isSitter h8 (m1of h1 (mrow h2 hτ)), bnd_s, if_f (wi_f hs), M_f0, bnd_s]
theorem op_broke (s : Int32) : Op (F_X4_broke 0 s) (F_X5_broke 49 s) := by
  intro K σ hK h
  obtain ⟨⟨⟨m, h1, h2, h4⟩, hk⟩, hT, hS, hF⟩ := id h
  have h8 := h1.1
  by_cases hs : isS m s = true
  · obtain ⟨i, hi, rfl⟩ := isS_of hs
    refine fst_op (P := fun a => decide (a (23 + 7 * i + 4) < a 5)) (m := m) (G := fun q => lo3 (F_X4_broke_b31) q 0 (nI i)) (H := fun q => lo3 (F_X5_broke_b28) q 49 (nI i)) (E := F_X5_broke_b60 49 (nI i)) h h1 h2 h4 hK (fun a b hab => by rw [hab _ (by omega), hab 5 (by omega)]) ?_ (fun q σ => ?_) (fun q j σ T hj hok => ?_) (fun τ hτ => ?_) (fun j σ T hj hok hoS => ?_) (fun q σ => ?_) (fun q j σ T hj hok hoS => ?_)
    · rw [F_X4_broke, k04, ck_t, C_isSitter k1 h1.2.1 h8, bnd_s, if_t hs]
    · show F_X4_broke_b31 (lo3 F_X4_broke_b31 q) 0 (nI i) (nI 201) σ = _
      rw [F_X4_broke_b31, if_pos (by decide), k04, ck_t, C_f3, bnd_s]
    · show F_X4_broke_b31 (lo3 F_X4_broke_b31 q) 0 (nI i) (nI j) σ = _
      rw [F_X4_broke_b31, if_neg (i200 hj), k04, ck_t, show (4 : Int32) = nI 4 from rfl, C_partOf k13 hok.2.1 h8 hi (by decide), bnd_s, nI_1, V5 13 σ]
      by_cases c : V 13 σ (23 + 7 * i + 4) < V 13 σ 5
      · rw [if_neg (Int32.not_le.mpr c), if_pos (decide_eq_true c)]
      · rw [if_pos (Int32.not_lt.mp c), if_neg (by rw [decide_eq_true_eq]; exact c)]
    · rw [F_X5_broke, k49, ck_t, M_isSitter h8 (m1of h1 (mrow h2 hτ)), bnd_s, if_t hs, M_copy (by decide) (by decide) (by decide) (by decide) (by decide), bnd_s]
    · rw [F_X5_broke_b60, k49, ck_t, M_is4 (by omega), bnd_s, M_endP hj, M_endN]
      by_cases c : σ 50 (23 + 7 * i + 4) < σ 50 5
      · rw [if_pos c, if_pos (decide_eq_true c)]
      · rw [if_neg c, if_neg (by rw [decide_eq_true_eq]; exact c)]
    · show F_X5_broke_b28 (lo3 F_X5_broke_b28 q) 49 (nI i) (nI 200) σ = _
      rw [F_X5_broke_b28, if_pos (by decide)]
    · show F_X5_broke_b28 (lo3 F_X5_broke_b28 q) 49 (nI i) (nI j) σ = _
      rw [F_X5_broke_b28, if_neg (i199 hj), k49, ck_t, M_is4 (by omega), bnd_s, nI_1]
      by_cases c : σ 50 (23 + 7 * i + 4) < σ 50 5
      · rw [if_pos c, if_pos (decide_eq_true c)]
      · rw [if_neg c, if_neg (by rw [decide_eq_true_eq]; exact c)]
  · refine op_e0 h ?_ (fun τ hτ => ?_)
    · rw [F_X4_broke, k04, ck_t, C_isSitter k1 h1.2.1 h8, bnd_s, if_f (wi_f hs), C_f0, bnd_s]
    · rw [F_X5_broke, k49, ck_t, M_isSitter h8 (m1of h1 (mrow h2 hτ)), bnd_s, if_f (wi_f hs), M_f0, bnd_s]
/-! all -/
def atU (a : Row) : Nat → Nat → Bool
  | _, 0 => true
  | j, d + 1 => !decide (a (23 + 7 * j + 5) = 0) && atU a (j + 1) d
theorem atU_c {m : Nat} {a b : Row} (h : agr m a b) : ∀ d j, j + d ≤ m → atU a j d = atU b j d := by
  intro d
  induction d with
  | zero => intro j _; rfl
  | succ d ih => intro j hj; rw [atU, atU, h _ (by omega), ih _ (by omega)]
theorem C_atU {b m : Nat} (hb : kd b = 0) (h8 : m ≤ 8) (σ : Sto) (hm : V b σ 1 = nI m) : ∀ d j n, j + d = m → d < n → lo2 (F_X0_isEachTaken_b2) n b (nI j) σ = some (b2i (atU (V b σ) j d), σ) := by
  intro d
  induction d with
  | zero =>
    intro j n hj hn
    obtain ⟨n, rfl⟩ : ∃ q, n = q + 1 := ⟨n - 1, by omega⟩
    show F_X0_isEachTaken_b2 (lo2 F_X0_isEachTaken_b2 n) b (nI j) σ = _
    rw [F_X0_isEachTaken_b2, kdb b hb, ck_t, V1 b σ, hm, if_pos (show nI m ≤ nI j by rw [show j = m by omega]; exact Int32.le_refl _)]
    rfl
  | succ d ih =>
    intro j n hj hn
    obtain ⟨n, rfl⟩ : ∃ q, n = q + 1 := ⟨n - 1, by omega⟩
    show F_X0_isEachTaken_b2 (lo2 F_X0_isEachTaken_b2 n) b (nI j) σ = _
    rw [F_X0_isEachTaken_b2, kdb b hb, ck_t, V1 b σ, hm, if_neg (nI_lei (by omega) (by omega)), show (5 : Int32) = nI 5 from rfl, C_partOf hb hm h8 (by omega) (by decide), bnd_s, nI_1, ih (j + 1) n (by omega) (by omega), atU]
    by_cases c : V b σ (23 + 7 * j + 5) = 0
    · rw [if_pos c, decide_eq_true c]; rfl
    · rw [if_neg c, decide_eq_false c]; rfl
theorem M_atU {m : Nat} (h8 : m ≤ 8) (σ : Sto) (hm : σ 50 1 = nI m) (hS : okS m (σ 50)) : ∀ d j n (c : Bool), j + d = m → d < n → lo3 (F_X5_areAllTaken_b4) n 49 (b2i c) (nI j) σ = some (b2i (c && atU (σ 50) j d), σ) := by
  intro d
  induction d with
  | zero =>
    intro j n c hj hn
    obtain ⟨n, rfl⟩ : ∃ q, n = q + 1 := ⟨n - 1, by omega⟩
    show F_X5_areAllTaken_b4 (lo3 F_X5_areAllTaken_b4 n) 49 (b2i c) (nI j) σ = _
    rw [F_X5_areAllTaken_b4, k49, ck_t, hm, if_pos (show nI m ≤ nI j by rw [show j = m by omega]; exact Int32.le_refl _), z01_b, ck_t, atU, Bool.and_true]
  | succ d ih =>
    intro j n c hj hn
    obtain ⟨n, rfl⟩ : ∃ q, n = q + 1 := ⟨n - 1, by omega⟩
    show F_X5_areAllTaken_b4 (lo3 F_X5_areAllTaken_b4 n) 49 (b2i c) (nI j) σ = _
    rw [F_X5_areAllTaken_b4, k49, ck_t, hm, if_neg (nI_lei (by omega) (by omega)), nI_1]
    cases c with
    | false =>
      rw [if_f rfl]
      exact ih (j + 1) n false (by omega) (by omega)
    | true =>
      obtain ⟨-, t, ht, et⟩ := hS j (by omega)
      rw [if_t rfl, M_is5 (by omega), bnd_s, et, atU, et]
      by_cases c : t = 0
      · subst c
        rw [if_pos (by decide)]
        have := ih (j + 1) n false (by omega) (by omega)
        exact this
      · rw [if_neg (fun q => by have := (nI_leI (b := 0) (by omega) (by decide)).mp q; omega), decide_eq_false (fun q => by have := (nI_eq (b := 0) (by omega) (by decide)).mp q; omega)]
        have := ih (j + 1) n true (by omega) (by omega)
        exact this
theorem op_all : Op (F_X4_all 0) (F_X5_all 49) := by
  intro K σ hK h
  obtain ⟨⟨⟨m, h1, h2, h4⟩, hk⟩, hT, hS, hF⟩ := id h
  have h8 := h1.1
  by_cases e0 : nI m = 0
  · refine op_e 4 (-1000005) (by decide) h ?_ (fun τ hτ => ?_)
    · rw [F_X4_all, k04, ck_t, V1 1 σ, h1.2.1, if_pos e0, C_f4, bnd_s]
    · rw [F_X5_all, k49, ck_t, m1of h1 (mrow h2 hτ), if_pos e0, M_f4, bnd_s]
  · refine fst_op (P := fun a => atU a 0 m) (m := m) (G := fun q => lo2 (F_X4_all_b30) q 0) (H := fun q => lo2 (F_X5_all_b29) q 49) (E := F_X5_all_b53 49) h h1 h2 h4 hK (fun a b hab => atU_c hab m 0 (by omega)) ?_ (fun q σ => ?_) (fun q j σ T hj hok => ?_) (fun τ hτ => ?_) (fun j σ T hj hok hoS => ?_) (fun q σ => ?_) (fun q j σ T hj hok hoS => ?_)
    · rw [F_X4_all, k04, ck_t, V1 1 σ, h1.2.1, if_neg e0]
    · show F_X4_all_b30 (lo2 F_X4_all_b30 q) 0 (nI 201) σ = _
      rw [F_X4_all_b30, if_pos (by decide), k04, ck_t, C_f3, bnd_s]
    · show F_X4_all_b30 (lo2 F_X4_all_b30 q) 0 (nI j) σ = _
      rw [F_X4_all_b30, if_neg (i200 hj), k04, ck_t, show F_X0_isEachTaken 13 σ = some (b2i (atU (V 13 σ) 0 m), σ) from C_atU k13 h8 σ hok.2.1 m 0 1000 (by omega) (by omega), bnd_s, nI_1]
      by_cases c : atU (V 13 σ) 0 m = true
      · rw [if_t c, if_pos c]
      · rw [if_f (wi_f c), if_neg c]
    · rw [F_X5_all, k49, ck_t, m1of h1 (mrow h2 hτ), if_neg e0, M_copy (by decide) (by decide) (by decide) (by decide) (by decide), bnd_s]
    · rw [F_X5_all_b53, k49, ck_t, show F_X5_areAllTaken 49 σ = some (b2i (true && atU (σ 50) 0 m), σ) from M_atU h8 σ hok.2.1 hoS m 0 1000 true (by omega) (by omega), bnd_s, M_endP hj, M_endN, Bool.true_and]
      by_cases c : atU (σ 50) 0 m = true
      · rw [if_t c, if_pos c]
      · rw [if_f (wi_f c), if_neg c]
    · show F_X5_all_b29 (lo2 F_X5_all_b29 q) 49 (nI 200) σ = _
      rw [F_X5_all_b29, if_pos (by decide)]
    · show F_X5_all_b29 (lo2 F_X5_all_b29 q) 49 (nI j) σ = _
      rw [F_X5_all_b29, if_neg (i199 hj), k49, ck_t, show F_X5_areAllTaken 49 σ = some (b2i (true && atU (σ 50) 0 m), σ) from M_atU h8 σ hok.2.1 hoS m 0 1000 true (by omega) (by omega), bnd_s, nI_1, Bool.true_and]
      by_cases c : atU (σ 50) 0 m = true
      · rw [if_t c, if_pos c]
      · rw [if_f (wi_f c), if_neg c]

/-! PURE: the calls: priceFor, stoolFor -/
theorem lo1_s {A1 β : Type} (B : (A1 → Sto → Option β) → A1 → Sto → Option β) (n : Nat) : lo1 B (n + 1) = B (lo1 B n) := rfl
theorem lo2_s {A1 A2 β : Type} (B : (A1 → A2 → Sto → Option β) → A1 → A2 → Sto → Option β) (n : Nat) : lo2 B (n + 1) = B (lo2 B n) := rfl
theorem lo3_s {A1 A2 A3 β : Type} (B : (A1 → A2 → A3 → Sto → Option β) → A1 → A2 → A3 → Sto → Option β) (n : Nat) : lo3 B (n + 1) = B (lo3 B n) := rfl
theorem lo4_s {A1 A2 A3 A4 β : Type} (B : (A1 → A2 → A3 → A4 → Sto → Option β) → A1 → A2 → A3 → A4 → Sto → Option β) (n : Nat) : lo4 B (n + 1) = B (lo4 B n) := rfl
theorem lo6_s {A1 A2 A3 A4 A5 A6 β : Type} (B : (A1 → A2 → A3 → A4 → A5 → A6 → Sto → Option β) → A1 → A2 → A3 → A4 → A5 → A6 → Sto → Option β) (n : Nat) : lo6 B (n + 1) = B (lo6 B n) := rfl
theorem lo7_s {A1 A2 A3 A4 A5 A6 A7 β : Type} (B : (A1 → A2 → A3 → A4 → A5 → A6 → A7 → Sto → Option β) → A1 → A2 → A3 → A4 → A5 → A6 → A7 → Sto → Option β) (n : Nat) : lo7 B (n + 1) = B (lo7 B n) := rfl
theorem lo8_s {A1 A2 A3 A4 A5 A6 A7 A8 β : Type} (B : (A1 → A2 → A3 → A4 → A5 → A6 → A7 → A8 → Sto → Option β) → A1 → A2 → A3 → A4 → A5 → A6 → A7 → A8 → Sto → Option β) (n : Nat) : lo8 B (n + 1) = B (lo8 B n) := rfl
def agrp (m p : Nat) (a b : Row) : Prop := ∀ j, j < 23 + 7 * m → ¬ j = p → a j = b j
theorem agrp_u {m p : Nat} {a b : Row} (h : agrp m p a b) (v : Int32) : agr m (upd a p v) (upd b p v) := by
  intro j hj
  rw [upd_i, upd_i]
  by_cases e : j = p
  · rw [if_pos e, if_pos e]
  · rw [if_neg e, if_neg e]; exact h j hj e
theorem agr_agrp {m p : Nat} {a b : Row} (h : agr m a b) : agrp m p a b := fun j hj _ => h j hj
def mqp (p : Nat) (σ σ' : Sto) : Prop := (∀ k, ¬ k = 49 → ¬ k = 50 → ¬ k = 52 → ¬ k = 56 → ¬ k = 60 → σ' k = σ k) ∧ σ' 49 3 = σ 49 3 ∧ σ' 49 8 = σ 49 8 ∧ ∀ j, j < 79 → ¬ j = p → σ' 50 j = σ 50 j
theorem mqp_r (p : Nat) (σ : Sto) : mqp p σ σ := ⟨fun _ _ _ _ _ _ => rfl, rfl, rfl, fun _ _ _ => rfl⟩
theorem mqp_t {p : Nat} {a b c : Sto} (h : mqp p a b) (h2 : mqp p b c) : mqp p a c := ⟨fun k q1 q2 q3 q4 q5 => (h2.1 k q1 q2 q3 q4 q5).trans (h.1 k q1 q2 q3 q4 q5), h2.2.1.trans h.2.1, h2.2.2.1.trans h.2.2.1, fun j hj hn => (h2.2.2.2 j hj hn).trans (h.2.2.2 j hj hn)⟩
theorem mqp_m (p : Nat) {σ σ' : Sto} (h : mq σ σ') : mqp p σ σ' := ⟨h.1, h.2.1, h.2.2.1, fun j hj _ => h.2.2.2 j hj⟩
theorem mqp_u (p : Nat) (σ : Sto) (v : Int32) : mqp p σ (up2 σ 50 p v) := by
  rw [up2_e]
  exact ⟨fun k _ q _ _ _ => up1_n q, by rw [up1_n (by decide)], by rw [up1_n (by decide)], fun j hj hn => by rw [up1_s, upd_n hn]⟩
theorem mqp_end {p : Nat} {σ σ' : Sto} (h : mqp p σ σ') : mq σ (up2 σ' 50 p (σ 50 p)) := by
  obtain ⟨q1, q2, q3, q4⟩ := h
  rw [up2_e]
  refine ⟨fun k a b c d e => by rw [up1_n b]; exact q1 k a b c d e, by rw [up1_n (by decide)]; exact q2, by rw [up1_n (by decide)]; exact q3, fun j hj => ?_⟩
  rw [up1_s, upd_i]
  by_cases e : j = p
  · rw [if_pos e, e]
  · rw [if_neg e]; exact q4 j hj e
theorem agrp_mqp {m p : Nat} {a : Row} (h8 : m ≤ 8) {σ σ' : Sto} (h : agrp m p a (σ 50)) (q : mqp p σ σ') : agrp m p a (σ' 50) := fun j hj hn => (h j hj hn).trans (q.2.2.2 j (by omega) hn).symm
def vP (k : Nat) (a : Row) (j : Nat) : Int32 := minsR k (upd a 5 (nI j)) 6
theorem op_priceFor (n : Int32) : Op (F_X4_priceFor 0 n) (F_X5_priceFor 49 n) := by
  intro K σ hK h
  obtain ⟨⟨⟨m, h1, h2, h4⟩, hk⟩, hT, hS, hF⟩ := id h
  have h8 := h1.1
  by_cases hw : wi n 0 60 = true
  · obtain ⟨k, hk6, rfl⟩ := wi_t (n := 60) (by decide) rfl hw
    have okx : ∀ a, okR (100 * K) m a → ∀ v, okR (100 * K) m (upd a 5 v) := fun a ha v => okR_o ha (by omega) (by omega) (by omega)
    obtain ⟨n', σ', q', -, e'⟩ := q_loop (Q := cq) cq_r cq_t (I := fun σ' => V 1 σ' = V 1 σ) (G := fun q (a : Int32 × Int32) j => lo5 F_X4_priceFor_b23 q 0 (nI k) a.1 a.2 (nI j)) (f := mxU (vP k (V 1 σ))) (N := 21) (fun a b ha q => (cq_V1 q).trans ha) (fun q a j σx hI hj => by
      have h1x : okR (100 * K) m (V 1 σx) := by rw [hI]; exact h1
      obtain ⟨σ1, e1, q1, a1, n1, tw⟩ := C_tw h1x hK (k := k) (by omega)
      obtain ⟨σ3, e3, q3, a3, n3⟩ := tw 5 (nI j) (up2 σ1 13 2 (nI j)) (V_uh (b := 13) (by decide) (by omega)) (fr_u (by omega)) (by rw [hI]; exact okx _ h1 _)
      refine ⟨σ3, q3, ?_⟩
      show lo5 F_X4_priceFor_b23 (q + 1) 0 (nI k) a.1 a.2 (nI j) σx = lo5 F_X4_priceFor_b23 q 0 (nI k) (mxU (vP k (V 1 σ)) j a).1 (mxU (vP k (V 1 σ)) j a).2 (nI (j + 1)) σ3
      have ev : V 13 σ3 6 = vP k (V 1 σ) j := by rw [a3 _ (by omega), hI]; rfl
      rw [lo5_s, F_X4_priceFor_b23, show F_X0_mostOf 2 σx = some (20, σx) from rfl, bnd_s, if_neg (fun z => by have := (nI_ltI (a := 20) (by decide) (by omega)).mp z; omega), k04, ck_t, e1, bnd_s, lts_e, e3, bnd_s, V6 13 σ3, ev, lti_e, nI_1]
      unfold mxU
      by_cases c : vP k (V 1 σ) j ≤ a.2
      · rw [if_pos c, if_pos c]
      · rw [if_neg c, if_neg c]) 21 0 1000 (0, -1) σ (by omega) (by omega) rfl
    refine op_ans (r := (fldU (mxU (vP k (V 1 σ))) 0 21 (0, -1)).1) h ⟨σ', ?_, q'⟩ (fun τ hτ => ?_)
    · rw [F_X4_priceFor, C_within, bnd_s, if_t hw]
      have e2 : lo5 F_X4_priceFor_b23 1000 0 (nI k) 0 (-1) 0 σ = lo5 F_X4_priceFor_b23 (n' + 1) 0 (nI k) (fldU (mxU (vP k (V 1 σ))) 0 21 (0, -1)).1 (fldU (mxU (vP k (V 1 σ))) 0 21 (0, -1)).2 (nI 21) σ' := e'
      rw [e2, lo5_s, F_X4_priceFor_b23, show F_X0_mostOf 2 σ' = some (20, σ') from rfl, bnd_s, if_pos (by decide)]
    · obtain ⟨n', σ2, q2, -, e2⟩ := q_loop (Q := mqp 5) (mqp_r 5) mqp_t (I := fun τ' => agrp m 5 (V 1 σ) (τ' 50)) (G := fun q (a : Int32 × Int32) j => lo6 F_X5_priceFor_b29 q 49 (nI k) (τ 50 5) a.1 a.2 (nI j)) (f := mxU (vP k (V 1 σ))) (N := 21) (fun a b ha q => agrp_mqp h8 ha q) (fun q a j τx hI hj => by
        have ax := agrp_u hI (nI j)
        have okt : okR (100 * K) m ((up2 τx 50 5 (nI j)) 50) := by rw [up2_e, up1_s]; exact okR_agr ax (okx _ h1 _)
        obtain ⟨σ3, e3, q3⟩ := M_behind (p := 6) (n := k) okt (by omega) (by omega) (by omega)
        refine ⟨σ3, mqp_t (mqp_u 5 τx _) (mqp_m 5 q3), ?_⟩
        show F_X5_priceFor_b29 (lo6 F_X5_priceFor_b29 q) 49 (nI k) (τ 50 5) a.1 a.2 (nI j) τx = lo6 F_X5_priceFor_b29 q 49 (nI k) (τ 50 5) (mxU (vP k (V 1 σ)) j a).1 (mxU (vP k (V 1 σ)) j a).2 (nI (j + 1)) σ3
        have ev : minsR k ((up2 τx 50 5 (nI j)) 50) 6 = vP k (V 1 σ) j := by rw [up2_e, up1_s]; exact (agr_mins k (100 * K) ax (okx _ h1 _) (by omega) 6 (by omega)).symm
        rw [F_X5_priceFor_b29, if_neg (fun z => by have := (nI_ltI (a := 20) (by decide) (by omega)).mp z; omega), k49, ck_t, lts_e, show (6 : Int32) = nI 6 from rfl, e3, bnd_s, ev]
        unfold mxU
        by_cases c : vP k (V 1 σ) j ≤ a.2
        · rw [if_pos c, if_pos c, F_X5_priceFor_b66, lti_e, imax_le c, nI_1]
        · rw [if_neg c, if_neg c, F_X5_priceFor_b66, lti_e, imax_gt c, nI_1]) 21 0 1000 (0, -1) τ (by omega) (by omega) (agr_agrp (mrow h2 hτ))
      refine ⟨_, ?_, mqp_end q2⟩
      have e3 : lo6 F_X5_priceFor_b29 1000 49 (nI k) (τ 50 5) 0 (-1) 0 τ = lo6 F_X5_priceFor_b29 (n' + 1) 49 (nI k) (τ 50 5) (fldU (mxU (vP k (V 1 σ))) 0 21 (0, -1)).1 (fldU (mxU (vP k (V 1 σ))) 0 21 (0, -1)).2 (nI 21) σ2 := e2
      rw [F_X5_priceFor, M_isThought, bnd_s, if_t hw, k49, ck_t, lti_e, e3, lo6_s, F_X5_priceFor_b29, if_pos (by decide), k49, ck_t, lts_e]
  · refine op_e0 h ?_ (fun τ hτ => ?_)
    · rw [F_X4_priceFor, C_within, bnd_s, if_f (wi_f hw), k04, ck_t, C_f0, bnd_s]
    · rw [F_X5_priceFor, M_isThought, bnd_s, if_f (wi_f hw), k49, ck_t, M_f0, bnd_s]
/-! stoolFor -/
def fT (a : Row) (i : Nat) : Int32 := 0 + bc (fa a i 0) + bc (fa a i 1) + bc (fa a i 2) + bc (fa a i 3)
theorem bc_lt : ∀ n, n < 32 → ∃ c, c < 6 ∧ bc (nI n) = nI c := by decide +kernel
theorem fT_n (a : Row) (i : Nat) : ∃ n, n ≤ 20 ∧ fT a i = nI n := by
  have g : ∀ f, ∃ c, c < 6 ∧ bc (fa a i f) = nI c := fun f => by
    obtain ⟨n, hn, e⟩ := fa_lt a i f
    rw [e]
    exact bc_lt n hn
  obtain ⟨c0, l0, e0⟩ := g 0
  obtain ⟨c1, l1, e1⟩ := g 1
  obtain ⟨c2, l2, e2⟩ := g 2
  obtain ⟨c3, l3, e3⟩ := g 3
  refine ⟨c0 + c1 + c2 + c3, by omega, ?_⟩
  unfold fT
  rw [e0, e1, e2, e3, Int32.zero_add, nI_add, nI_add, nI_add]
theorem agr_fT {m i : Nat} {a b : Row} (h : agr m a b) (hi : i < m) : fT a i = fT b i := by
  unfold fT
  rw [agr_fa h hi, agr_fa h hi, agr_fa h hi, agr_fa h hi]
theorem C_fT {b m i : Nat} (hb : kd b = 0) (h8 : m ≤ 8) (σ : Sto) (hm : V b σ 1 = nI m) (hi : i < m) : F_X0_faultsTogether b (nI i) σ = some (fT (V b σ) i, σ) := by
  have st : ∀ k5 x f, ¬ 4 ≤ f → F_X0_faultsTogether_b11 k5 b (some (b + 1 + 1 + i)) x f σ = k5 b (some (b + 1 + 1 + i)) (x + bc (fa (V b σ) i f)) (f + 1) σ := by
    intro k5 x f hf
    rw [F_X0_faultsTogether_b11, if_neg hf, oc_s, kdb b hb, ck_t, C_faults hb (by omega), bnd_s, C_bits, bnd_s, lti_e]
  rw [F_X0_faultsTogether, kdb b hb, ck_t, C_whoS hb hm h8 hi, bnd_s]
  show F_X0_faultsTogether_b11 (lo4 F_X0_faultsTogether_b11 999) b _ 0 0 σ = _
  rw [st _ _ _ (by decide)]
  show F_X0_faultsTogether_b11 (lo4 F_X0_faultsTogether_b11 998) b _ _ (0 + 1) σ = _
  rw [show (0 : Int32) + 1 = 1 by decide, st _ _ _ (by decide)]
  show F_X0_faultsTogether_b11 (lo4 F_X0_faultsTogether_b11 997) b _ _ (1 + 1) σ = _
  rw [show (1 : Int32) + 1 = 2 by decide, st _ _ _ (by decide)]
  show F_X0_faultsTogether_b11 (lo4 F_X0_faultsTogether_b11 996) b _ _ (2 + 1) σ = _
  rw [show (2 : Int32) + 1 = 3 by decide, st _ _ _ (by decide)]
  show F_X0_faultsTogether_b11 (lo4 F_X0_faultsTogether_b11 995) b _ _ (3 + 1) σ = _
  rw [show (3 : Int32) + 1 = 4 by decide, F_X0_faultsTogether_b11, if_pos (by decide)]
  rfl
theorem M_fT {i : Nat} (hi : i < 8) (σ : Sto) : F_X5_faultsTogether 49 (nI i) σ = some (fT (σ 50) i, σ) := by
  have st : ∀ k5 x f, ¬ 4 ≤ f → F_X5_faultsTogether_b4 k5 49 (nI i) x f σ = k5 49 (nI i) (x + bc (fa (σ 50) i f)) (f + 1) σ := by
    intro k5 x f hf
    rw [F_X5_faultsTogether_b4, if_neg hf, k49, ck_t, M_faults hi, bnd_s, M_bitsF, bnd_s, lti_e]
  show F_X5_faultsTogether_b4 (lo4 F_X5_faultsTogether_b4 999) 49 _ 0 0 σ = _
  rw [st _ _ _ (by decide)]
  show F_X5_faultsTogether_b4 (lo4 F_X5_faultsTogether_b4 998) 49 _ _ (0 + 1) σ = _
  rw [show (0 : Int32) + 1 = 1 by decide, st _ _ _ (by decide)]
  show F_X5_faultsTogether_b4 (lo4 F_X5_faultsTogether_b4 997) 49 _ _ (1 + 1) σ = _
  rw [show (1 : Int32) + 1 = 2 by decide, st _ _ _ (by decide)]
  show F_X5_faultsTogether_b4 (lo4 F_X5_faultsTogether_b4 996) 49 _ _ (2 + 1) σ = _
  rw [show (2 : Int32) + 1 = 3 by decide, st _ _ _ (by decide)]
  show F_X5_faultsTogether_b4 (lo4 F_X5_faultsTogether_b4 995) 49 _ _ (3 + 1) σ = _
  rw [show (3 : Int32) + 1 = 4 by decide, F_X5_faultsTogether_b4, if_pos (by decide)]
  rfl
theorem fldU_i {A : Type} {f g : Nat → A → A} {P : A → Prop} {m : Nat} (h : ∀ i a, i < m → P a → f i a = g i a ∧ P (f i a)) : ∀ d j a, j + d ≤ m → P a → fldU f j d a = fldU g j d a := by
  intro d
  induction d with
  | zero => intro j a _ _; rfl
  | succ d ih =>
    intro j a hj hp
    obtain ⟨e, p⟩ := h j a (by omega) hp
    rw [fldU, fldU, ih _ _ (by omega) p, e]
def mnC (w : Nat → Int32) (j : Nat) (a : Int32 × Int32) : Int32 × Int32 := if a.2 < 0 then (nI j, w j) else if a.2 ≤ w j then a else (nI j, w j)
def mnM (w : Nat → Int32) (j : Nat) (a : Int32 × Int32) : Int32 × Int32 := (if a.2 ≤ w j then a.1 else nI j, imin a.2 (w j))
theorem mn_eq {w : Nat → Int32} (hw : ∀ j, ∃ n, n ≤ 20 ∧ w j = nI n) : fldU (mnC w) 0 61 (0, -1) = fldU (mnM w) 0 61 (0, 99) := by
  have nn : ∀ j, ¬ w j < 0 := fun j => by
    obtain ⟨n, hn, e⟩ := hw j
    rw [e]; exact nI_pos (by omega)
  have e1 : mnC w 0 (0, -1) = (nI 0, w 0) := by unfold mnC; rw [if_pos (show ((0, -1) : Int32 × Int32).2 < 0 by decide)]
  have e2 : mnM w 0 (0, 99) = (nI 0, w 0) := by
    obtain ⟨n, hn, e⟩ := hw 0
    unfold mnM
    have c : ¬ (99 : Int32) ≤ w 0 := fun q => by rw [e] at q; have := (nI_leI (a := 99) (by decide) (by omega)).mp q; omega
    show (if (99 : Int32) ≤ w 0 then (0 : Int32) else nI 0, imin 99 (w 0)) = (nI 0, w 0)
    rw [if_neg c]
    unfold imin
    rw [if_pos (Int32.not_le.mp c)]
  show fldU (mnC w) 1 60 (mnC w 0 (0, -1)) = fldU (mnM w) 1 60 (mnM w 0 (0, 99))
  rw [e1, e2]
  refine fldU_i (P := fun a => ¬ a.2 < 0) (m := 61) (fun j a _ ha => ?_) 60 1 _ (by omega) (nn 0)
  unfold mnC mnM
  rw [if_neg ha]
  by_cases c : a.2 ≤ w j
  · rw [if_pos c, if_pos c]
    unfold imin
    rw [if_neg (Int32.not_lt.mpr c)]
    exact ⟨rfl, ha⟩
  · rw [if_neg c, if_neg c]
    unfold imin
    rw [if_pos (Int32.not_le.mp c)]
    exact ⟨rfl, nn j⟩
/-- the trial Booth changes in one place -/
def tq (p : Nat) (σ σ' : Sto) : Prop := fr 13 σ σ' ∧ ∀ j, ¬ j = p → V 13 σ' j = V 13 σ j
theorem tq_r (p : Nat) (σ : Sto) : tq p σ σ := ⟨fr_r 13 σ, fun _ _ => rfl⟩
theorem tq_t {p : Nat} {a b c : Sto} (h : tq p a b) (h2 : tq p b c) : tq p a c := ⟨fr_t h.1 h2.1, fun j hj => (h2.2 j hj).trans (h.2 j hj)⟩
theorem op_stoolFor (s : Int32) : Op (F_X4_stoolFor 0 s) (F_X5_stoolFor 49 s) := by
  intro K σ hK h
  obtain ⟨⟨⟨m, h1, h2, h4⟩, hk⟩, hT, hS, hF⟩ := id h
  have h8 := h1.1
  by_cases hs : isS m s = true
  · obtain ⟨i, hi, rfl⟩ := isS_of hs
    obtain ⟨w, hw⟩ : ∃ w : Nat → Int32, w = fun j => fT (upd (V 1 σ) 3 (nI j)) i := ⟨_, rfl⟩
    obtain ⟨σ1, e1, a1, f1⟩ := C_become k13 k1 (by decide) h8 σ h1.2.1
    obtain ⟨n', σ', q', -, e'⟩ := q_loop (Q := tq 3) (tq_r 3) tq_t (I := fun σ' => agrp m 3 (V 1 σ) (V 13 σ')) (G := fun q (a : Int32 × Int32) j => lo5 F_X4_stoolFor_b36 q 0 (nI i) a.1 a.2 (nI j)) (f := mnC w) (N := 61) (fun a b ha q => fun j hj hn => (ha j hj hn).trans (q.2 j hn).symm) (fun q a j σx hI hj => by
      have vx : V 13 (up2 σx 13 0 (nI j)) = upd (V 13 σx) 3 (nI j) := V_uh (b := 13) (by decide) (by omega)
      refine ⟨up2 σx 13 0 (nI j), ⟨fr_u (by omega), fun j' hj' => by rw [vx, upd_n hj']⟩, ?_⟩
      have ev : fT (V 13 (up2 σx 13 0 (nI j))) i = w j := by rw [vx, hw]; exact (agr_fT (agrp_u hI (nI j)) hi).symm
      have hmx : V 13 (up2 σx 13 0 (nI j)) 1 = nI m := by rw [vx, upd_n (by decide), ← hI 1 (by omega) (by decide)]; exact h1.2.1
      show lo5 F_X4_stoolFor_b36 (q + 1) 0 (nI i) a.1 a.2 (nI j) σx = lo5 F_X4_stoolFor_b36 q 0 (nI i) (mnC w j a).1 (mnC w j a).2 (nI (j + 1)) _
      rw [lo5_s, F_X4_stoolFor_b36, show F_X0_mostOf 0 σx = some (60, σx) from rfl, bnd_s, if_neg (fun z => by have := (nI_ltI (a := 60) (by decide) (by omega)).mp z; omega), k04, ck_t, lts_e, C_fT k13 h8 _ hmx hi, bnd_s, ev, nI_1]
      unfold mnC
      by_cases c : a.2 < 0
      · rw [if_pos c, if_pos c]
      · rw [if_neg c, if_neg c]
        by_cases c2 : a.2 ≤ w j
        · rw [if_pos c2, if_pos c2]
        · rw [if_neg c2, if_neg c2]) 61 0 1000 (0, -1) σ1 (by omega) (by omega) (agr_agrp (agr_s a1))
    refine op_ans (r := (fldU (mnC w) 0 61 (0, -1)).1) h ⟨σ', ?_, cq_t (cq_fr f1) (cq_fr q'.1)⟩ (fun τ hτ => ?_)
    · have e2 : lo5 F_X4_stoolFor_b36 1000 0 (nI i) 0 (-1) 0 σ1 = lo5 F_X4_stoolFor_b36 (n' + 1) 0 (nI i) (fldU (mnC w) 0 61 (0, -1)).1 (fldU (mnC w) 0 61 (0, -1)).2 (nI 61) σ' := e'
      rw [F_X4_stoolFor, k04, ck_t, C_isSitter k1 h1.2.1 h8, bnd_s, if_t hs, e1, bnd_s, e2, lo5_s, F_X4_stoolFor_b36, show F_X0_mostOf 0 σ' = some (60, σ') from rfl, bnd_s, if_pos (by decide)]
    · obtain ⟨n', σ2, q2, -, e2⟩ := q_loop (Q := mqp 3) (mqp_r 3) mqp_t (I := fun τ' => agrp m 3 (V 1 σ) (τ' 50)) (G := fun q (a : Int32 × Int32) j => lo6 F_X5_stoolFor_b31 q 49 (nI i) (τ 50 3) a.1 a.2 (nI j)) (f := mnM w) (N := 61) (fun a b ha q => agrp_mqp h8 ha q) (fun q a j τx hI hj => by
        refine ⟨up2 τx 50 3 (nI j), mqp_u 3 τx _, ?_⟩
        show F_X5_stoolFor_b31 (lo6 F_X5_stoolFor_b31 q) 49 (nI i) (τ 50 3) a.1 a.2 (nI j) τx = lo6 F_X5_stoolFor_b31 q 49 (nI i) (τ 50 3) (mnM w j a).1 (mnM w j a).2 (nI (j + 1)) _
        have ev : fT ((up2 τx 50 3 (nI j)) 50) i = w j := by rw [up2_e, up1_s, hw]; exact (agr_fT (agrp_u hI (nI j)) hi).symm
        rw [F_X5_stoolFor_b31, if_neg (fun z => by have := (nI_ltI (a := 60) (by decide) (by omega)).mp z; omega), k49, ck_t, lts_e, M_fT (by omega), bnd_s, ev]
        unfold mnM
        by_cases c : a.2 ≤ w j
        · rw [if_pos c, F_X5_stoolFor_b66, lti_e, nI_1, if_pos c]
        · rw [if_neg c, F_X5_stoolFor_b66, lti_e, nI_1, if_neg c]) 61 0 1000 (0, 99) τ (by omega) (by omega) (agr_agrp (mrow h2 hτ))
      refine ⟨_, ?_, mqp_end q2⟩
      rw [F_X5_stoolFor, k49, ck_t, M_isSitter h8 (m1of h1 (mrow h2 hτ)), bnd_s, if_t hs, lti_e]
      have e3 : lo6 F_X5_stoolFor_b31 1000 49 (nI i) (τ 50 3) 0 99 0 τ = lo6 F_X5_stoolFor_b31 (n' + 1) 49 (nI i) (τ 50 3) (fldU (mnM w) 0 61 (0, 99)).1 (fldU (mnM w) 0 61 (0, 99)).2 (nI 61) σ2 := e2
      rw [e3, lo6_s, F_X5_stoolFor_b31, if_pos (by decide), k49, ck_t, lts_e, mn_eq (fun j => by rw [hw]; exact fT_n _ _)]
  · refine op_e0 h ?_ (fun τ hτ => ?_)
    · rw [F_X4_stoolFor, k04, ck_t, C_isSitter k1 h1.2.1 h8, bnd_s, if_f (wi_f hs), C_f0, bnd_s]
    · rw [F_X5_stoolFor, k49, ck_t, M_isSitter h8 (m1of h1 (mrow h2 hτ)), bnd_s, if_f (wi_f hs), M_f0, bnd_s]

/-! PURE: loops over trials; the calls: turnFor, kindFor, lightFor, merryFor -/
theorem q_loop {A β : Type} {Q : Sto → Sto → Prop} (qr : ∀ σ, Q σ σ) (qt : ∀ {a b c}, Q a b → Q b c → Q a c) {G : Nat → A → Nat → Sto → Option (β × Sto)} {I : Sto → Prop} {f : Nat → A → A} {N : Nat} (hI : ∀ σ σ', I σ → Q σ σ' → I σ') (hs : ∀ n a j σ, I σ → j < N → ∃ σ', Q σ σ' ∧ G (n + 1) a j σ = G n (f j a) (j + 1) σ') : ∀ d j n a σ, j + d = N → d < n → I σ → ∃ n' σ', Q σ σ' ∧ I σ' ∧ G n a j σ = G (n' + 1) (fldU f j d a) N σ' := by
  intro d
  induction d with
  | zero =>
    intro j n a σ hj hn hi
    obtain ⟨n, rfl⟩ : ∃ q, n = q + 1 := ⟨n - 1, by omega⟩
    have e : j = N := by omega
    subst e
    exact ⟨n, σ, qr σ, hi, rfl⟩
  | succ d ih =>
    intro j n a σ hj hn hi
    obtain ⟨n, rfl⟩ : ∃ q, n = q + 1 := ⟨n - 1, by omega⟩
    obtain ⟨σ', q', e'⟩ := hs n a j σ hi (by omega)
    obtain ⟨n', σ2, q2, i2, e2⟩ := ih (j + 1) n (f j a) σ' (by omega) (by omega) (hI _ _ hi q')
    exact ⟨n', σ2, qt q' q2, i2, e'.trans e2⟩
def lstU (T : Nat → Bool) : Nat → Nat → Option Nat
  | _, 0 => none
  | j, d + 1 => if T j = true then some j else lstU T (j + 1) d
theorem x_loop {β : Type} {Q : Sto → Sto → Prop} (qr : ∀ σ, Q σ σ) (qt : ∀ {a b c}, Q a b → Q b c → Q a c) {G : Nat → Nat → Sto → Option (β × Sto)} {I : Sto → Prop} {T : Nat → Bool} {w : Nat → β} {N : Nat} (hI : ∀ σ σ', I σ → Q σ σ' → I σ') (hs : ∀ n j σ, I σ → j < N → ∃ σ', Q σ σ' ∧ G (n + 1) j σ = if T j = true then some (w j, σ') else G n (j + 1) σ') : ∀ d j n σ, j + d = N → d < n → I σ → ∃ n' σ', Q σ σ' ∧ I σ' ∧ G n j σ = ocase (lstU T j d) (G (n' + 1) N σ') (fun k => some (w k, σ')) := by
  intro d
  induction d with
  | zero =>
    intro j n σ hj hn hi
    obtain ⟨n, rfl⟩ : ∃ q, n = q + 1 := ⟨n - 1, by omega⟩
    have e : j = N := by omega
    subst e
    exact ⟨n, σ, qr σ, hi, rfl⟩
  | succ d ih =>
    intro j n σ hj hn hi
    obtain ⟨n, rfl⟩ : ∃ q, n = q + 1 := ⟨n - 1, by omega⟩
    obtain ⟨σ', q', e'⟩ := hs n j σ hi (by omega)
    rw [lstU]
    by_cases c : T j = true
    · rw [if_pos c] at e'
      rw [if_pos c]
      exact ⟨n, σ', q', hI _ _ hi q', e'⟩
    · rw [if_neg c] at e'
      rw [if_neg c]
      obtain ⟨n', σ2, q2, i2, e2⟩ := ih (j + 1) n σ' (by omega) (by omega) (hI _ _ hi q')
      exact ⟨n', σ2, qt q' q2, i2, e'.trans e2⟩
theorem fldU_s {A : Type} (f : Nat → A → A) : ∀ d j a, fldU f j (d + 1) a = f (j + d) (fldU f j d a) := by
  intro d
  induction d with
  | zero => intro j a; rfl
  | succ d ih =>
    intro j a
    rw [fldU, ih (j + 1) (f j a), show j + 1 + d = j + (d + 1) by omega]
    rfl
theorem rvU {β : Type} {T : Nat → Bool} {w : Nat → β} {N : Nat} {g : Nat → β → β} (hg : ∀ q a, q < N → g q a = if T (N - 1 - q) = true then w (N - 1 - q) else a) (a : β) : ∀ d q, q + d ≤ N → fldU g q d a = ocase (lstU T (N - q - d) d) a w := by
  intro d
  induction d with
  | zero => intro q _; rfl
  | succ d ih =>
    intro q hq
    rw [fldU_s, hg _ _ (by omega), ih q (by omega), lstU, show N - 1 - (q + d) = N - q - (d + 1) by omega, show N - q - (d + 1) + 1 = N - q - d by omega]
    split <;> rfl
theorem lstU_c {T S : Nat → Bool} {N : Nat} (h : ∀ j, j < N → T j = S j) : ∀ d j, j + d ≤ N → lstU T j d = lstU S j d := by
  intro d
  induction d with
  | zero => intro j _; rfl
  | succ d ih => intro j hj; rw [lstU, lstU, h j (by omega), ih (j + 1) (by omega)]
/-! one trial, on both sides -/
theorem cq_V1 {σ σ' : Sto} (q : cq σ σ') : V 1 σ' = V 1 σ := V_eq fun k a b => q.1 k (by omega) (by omega)
theorem C_tw {K m k : Nat} {σ : Sto} (h1 : okR (100 * K) m (V 1 σ)) (hK : K ≤ 512) (hk : k ≤ 200) : ∃ σ1, F_X0_become 13 1 σ = some ((), σ1) ∧ cq σ σ1 ∧ agr m (V 13 σ1) (V 1 σ) ∧ V 13 σ1 1 = nI m ∧ ∀ (p : Nat) (v : Int32) (σ2 : Sto), V 13 σ2 = upd (V 13 σ1) p v → fr 13 σ1 σ2 → okR (100 * K) m (upd (V 1 σ) p v) → ∃ σ3, F_X0_passMinutes 13 (nI k) σ2 = some ((), σ3) ∧ cq σ σ3 ∧ agr m (V 13 σ3) (minsR k (upd (V 1 σ) p v)) ∧ V 13 σ3 1 = nI m := by
  have h8 := h1.1
  obtain ⟨σ1, e1, a1, f1⟩ := C_become k13 k1 (by decide) h8 σ h1.2.1
  refine ⟨σ1, e1, cq_fr f1, a1, by rw [a1 1 (by omega)]; exact h1.2.1, fun p v σ2 v2 f2 ok2 => ?_⟩
  have a2 : agr m (V 13 σ2) (upd (V 1 σ) p v) := by rw [v2]; exact agr_u a1 rfl
  have ok2' := okR_agr (agr_s a2) ok2
  obtain ⟨σ3, e3, v3, f3⟩ := C_passMinutes (N := k) k13 σ2 ok2' (by omega) (by omega)
  refine ⟨σ3, e3, cq_t (cq_fr f1) (cq_t (cq_fr f2) (cq_fr f3)), ?_, ?_⟩
  · rw [v3]; exact agr_mins k (100 * K) a2 ok2' (by omega)
  · rw [v3]; exact (okR_mins k (100 * K) ok2').2.1
theorem mq_row {σ σ' : Sto} {p : Nat} {v : Int32} (hp : p < 79) (q : mq (up1 σ 50 (upd (σ 50) p v)) σ') : mq σ (up2 σ' 50 p (σ 50 p)) := by
  obtain ⟨q1, q2, q3, q4⟩ := q
  refine ⟨fun k a b c d e => ?_, ?_, ?_, fun j hj => ?_⟩
  · rw [up2_e, up1_n b, q1 k a b c d e, up1_n b]
  · rw [up2_e, up1_n (by decide), q2, up1_n (by decide)]
  · rw [up2_e, up1_n (by decide), q3, up1_n (by decide)]
  · rw [up2_i, if_pos rfl]
    by_cases e : j = p
    · rw [if_pos e, e]
    · rw [if_neg e, q4 j hj, up1_s, upd_n e]
theorem M_takenW {T m i k p : Nat} {σ : Sto} {v : Int32} (hp : p < 79) (hok : okR T m (upd (σ 50) p v)) (hi : i < 8) (hk : k ≤ 900) (hT : T + k < 2 ^ 31) : ∃ σ', mq σ σ' ∧ F_X5_takenWith 49 (nI p) v (nI i) (nI k) σ = some (minsR k (upd (σ 50) p v) (23 + 7 * i + 5), σ') := by
  obtain ⟨σ', e', q'⟩ := M_behind (p := 23 + 7 * i + 5) (n := k) (σ := up1 σ 50 (upd (σ 50) p v)) (by rw [up1_s]; exact hok) hk hT (by omega)
  refine ⟨_, mq_row hp q', ?_⟩
  rw [F_X5_takenWith, k49, ck_t, M_becomeR hp, bnd_s, M_at5, bnd_s, e', bnd_s, inr_nI hp (by decide), ck_t, lts_e, nI_clamp (by omega), up1_s]
def tkW (k i : Nat) (a : Row) : Bool := !decide (minsR k a (23 + 7 * i + 5) ≤ a (23 + 7 * i + 5))
theorem M_isTakenW {T m i k p : Nat} {σ : Sto} {v : Int32} (hp : p < 79) (hok : okR T m (upd (σ 50) p v)) (hi : i < 8) (hk : k ≤ 900) (hT : T + k < 2 ^ 31) : ∃ σ', mq σ σ' ∧ F_X5_isTakenWith 49 (nI p) v (nI i) (nI k) σ = some (b2i (tkW k i (upd (σ 50) p v)), σ') := by
  obtain ⟨σ', e', q'⟩ := M_behind (p := 23 + 7 * i + 5) (n := k) (σ := up1 σ 50 (upd (σ 50) p v)) (by rw [up1_s]; exact hok) hk hT (by omega)
  refine ⟨_, mq_row hp q', ?_⟩
  have r5 : σ' 50 (23 + 7 * i + 5) = upd (σ 50) p v (23 + 7 * i + 5) := by rw [q'.2.2.2 _ (by omega), up1_s]
  have b33 : ∀ c : Bool, F_X5_isTakenWith_b33 49 (nI p) (σ 50 p) (b2i c) σ' = some (b2i c, up2 σ' 50 p (σ 50 p)) := by
    intro c
    rw [F_X5_isTakenWith_b33, k49, ck_t, inr_nI hp (by decide), ck_t, lts_e, nI_clamp (by omega), z01_b, ck_t]
  rw [F_X5_isTakenWith, k49, ck_t, M_becomeR hp, bnd_s, M_at5, bnd_s, e', bnd_s, M_is5 hi, bnd_s, r5, up1_s]
  unfold tkW
  by_cases c : minsR k (upd (σ 50) p v) (23 + 7 * i + 5) ≤ upd (σ 50) p v (23 + 7 * i + 5)
  · rw [if_pos c, decide_eq_true c]; exact b33 false
  · rw [if_neg c, decide_eq_false c]; exact b33 true
theorem agr_mq {m : Nat} {a : Row} (h8 : m ≤ 8) {σ σ' : Sto} (h : agr m a (σ 50)) (q : mq σ σ') : agr m a (σ' 50) := agr_x h8 h q.2.2.2
/-- the best of so many -/
def mxU (v : Nat → Int32) (j : Nat) (a : Int32 × Int32) : Int32 × Int32 := if v j ≤ a.2 then a else (nI j, v j)
theorem imax_le {x y : Int32} (h : y ≤ x) : imax x y = x := by unfold imax; rw [if_neg (Int32.not_lt.mpr h)]
theorem imax_gt {x y : Int32} (h : ¬ y ≤ x) : imax x y = y := by unfold imax; rw [if_pos (Int32.not_le.mp h)]
theorem M_isThought (n : Int32) (σ : Sto) : F_X5_isThought n σ = some (b2i (wi n 0 60), σ) := by rw [F_X5_isThought, M_within, bnd_s, z01_b, ck_t]
theorem isQ_nI {m i : Nat} (hi : i < m) (h8 : m ≤ 8) : isQ m (nI i) = true := by unfold isQ; rw [isS_nI hi h8, Bool.or_true]
def vT (k i : Nat) (x : Nat → Nat × Int32) (a : Row) (j : Nat) : Int32 := minsR k (upd a (x j).1 (x j).2) (23 + 7 * i + 5)
theorem vT_c {T m k i : Nat} {x : Nat → Nat × Int32} {a b : Row} (hi : i < m) (h : agr m a b) (j : Nat) (hok : okR T m (upd a (x j).1 (x j).2)) (hT : T + k < 2 ^ 31) : vT k i x a j = vT k i x b j := agr_mins k T (agr_u h rfl) hok hT _ (by omega)
theorem op_turnFor (s n : Int32) : Op (F_X4_turnFor 0 s n) (F_X5_turnFor 49 s n) := by
  intro K σ hK h
  obtain ⟨⟨⟨m, h1, h2, h4⟩, hk⟩, hT, hS, hF⟩ := id h
  have h8 := h1.1
  by_cases hs : isS m s = true
  · obtain ⟨i, hi, rfl⟩ := isS_of hs
    by_cases hw : wi n 0 60 = true
    · obtain ⟨k, hk6, rfl⟩ := wi_t (n := 60) (by decide) rfl hw
      obtain ⟨x, hx⟩ : ∃ x : Nat → Nat × Int32, x = fun j => (17 + j, nI i) := ⟨_, rfl⟩
      have okx : ∀ a, okR (100 * K) m a → ∀ j, j < 6 → okR (100 * K) m (upd a (x j).1 (x j).2) := fun a ha j hj => by rw [hx]; exact okR_q ha hj (isQ_nI hi h8)
      obtain ⟨n', σ', q', -, e'⟩ := q_loop (Q := cq) cq_r cq_t (I := fun σ' => V 1 σ' = V 1 σ) (G := fun q (a : Int32 × Int32) j => lo6 F_X4_turnFor_b35 q 0 (nI i) (nI k) a.1 a.2 (nI j)) (f := mxU (vT k i x (V 1 σ))) (N := 6) (fun a b ha q => (cq_V1 q).trans ha) (fun q a j σx hI hj => by
        have h1x : okR (100 * K) m (V 1 σx) := by rw [hI]; exact h1
        obtain ⟨σ1, e1, q1, a1, n1, tw⟩ := C_tw h1x hK (k := k) (by omega)
        obtain ⟨σ3, e3, q3, a3, n3⟩ := tw (17 + j) (nI i) (up2 σ1 23 j (nI i)) (V_uq (b := 13) hj) (fr_u (by omega)) (by rw [hI]; have := okx _ h1 j hj; rw [hx] at this; exact this)
        refine ⟨σ3, q3, ?_⟩
        show F_X4_turnFor_b35 (lo6 F_X4_turnFor_b35 q) 0 (nI i) (nI k) a.1 a.2 (nI j) σx = lo6 F_X4_turnFor_b35 q 0 (nI i) (nI k) (mxU (vT k i x (V 1 σ)) j a).1 (mxU (vT k i x (V 1 σ)) j a).2 (nI (j + 1)) σ3
        have ev : V 13 σ3 (23 + 7 * i + 5) = vT k i x (V 1 σ) j := by rw [a3 _ (by omega), hI, vT, hx]
        rw [F_X4_turnFor_b35, if_neg (show ¬ (6 : Int32) ≤ nI j from nI_lei hj (by decide)), k04, ck_t, e1, bnd_s, C_seat k13 hj, bnd_s, e3, bnd_s, show (5 : Int32) = nI 5 from rfl, C_partOf k13 n3 h8 hi (by decide), bnd_s, ev, nI_1]
        unfold mxU
        by_cases c : vT k i x (V 1 σ) j ≤ a.2
        · rw [if_pos c, if_pos c]
        · rw [if_neg c, if_neg c]) 6 0 1000 (0, -1) σ (by omega) (by omega) rfl
      refine op_ans (r := (fldU (mxU (vT k i x (V 1 σ))) 0 6 (0, -1)).1) h ⟨σ', ?_, q'⟩ (fun τ hτ => ?_)
      · rw [F_X4_turnFor, k04, ck_t, C_isSitter k1 h1.2.1 h8, bnd_s, if_t hs, C_within, bnd_s, if_t hw]
        refine e'.trans ?_
        show F_X4_turnFor_b35 (lo6 F_X4_turnFor_b35 n') 0 (nI i) (nI k) _ _ (nI 6) σ' = _
        rw [F_X4_turnFor_b35, if_pos (by decide)]
      · obtain ⟨n', σ2, q2, -, e2⟩ := q_loop (Q := mq) mq_r mq_t (I := fun τ' => agr m (V 1 σ) (τ' 50)) (G := fun q (a : Int32 × Int32) j => lo6 F_X5_turnFor_b30 q 49 (nI i) (nI k) a.1 a.2 (nI j)) (f := mxU (vT k i x (V 1 σ))) (N := 6) (fun a b ha q => agr_mq h8 ha q) (fun q a j τx hI hj => by
          have okt := okx _ (okR_agr hI h1) j hj
          have ex : upd (τx 50) (17 + j) (nI i) = upd (τx 50) (x j).1 (x j).2 := by rw [hx]
          obtain ⟨σ3, q3, e3⟩ := M_takenW (p := 17 + j) (v := nI i) (k := k) (i := i) (by omega) (by rw [ex]; exact okt) (by omega) (by omega) (by omega)
          refine ⟨σ3, q3, ?_⟩
          show F_X5_turnFor_b30 (lo6 F_X5_turnFor_b30 q) 49 (nI i) (nI k) a.1 a.2 (nI j) τx = lo6 F_X5_turnFor_b30 q 49 (nI i) (nI k) (mxU (vT k i x (V 1 σ)) j a).1 (mxU (vT k i x (V 1 σ)) j a).2 (nI (j + 1)) σ3
          have ev : minsR k (upd (τx 50) (17 + j) (nI i)) (23 + 7 * i + 5) = vT k i x (V 1 σ) j := by rw [ex]; exact (vT_c hi hI j (okx _ h1 j hj) (by omega)).symm
          rw [F_X5_turnFor_b30, if_neg (show ¬ (6 : Int32) ≤ nI j from nI_lei hj (by decide)), k49, ck_t, show 17 + nI j = nI (17 + j) from nI_add 17 j, e3, bnd_s, ev]
          unfold mxU
          by_cases c : vT k i x (V 1 σ) j ≤ a.2
          · rw [if_pos c, if_pos c, F_X5_turnFor_b64, lti_e, imax_le c, nI_1]
          · rw [if_neg c, if_neg c, F_X5_turnFor_b64, lti_e, imax_gt c, nI_1]) 6 0 1000 (0, -1) τ (by omega) (by omega) (mrow h2 hτ)
        refine ⟨σ2, ?_, q2⟩
        rw [F_X5_turnFor, k49, ck_t, M_isSitter h8 (m1of h1 (mrow h2 hτ)), bnd_s, if_t hs, M_isThought, bnd_s, if_t hw]
        refine e2.trans ?_
        show F_X5_turnFor_b30 (lo6 F_X5_turnFor_b30 n') 49 (nI i) (nI k) _ _ (nI 6) σ2 = _
        rw [F_X5_turnFor_b30, if_pos (by decide)]
    · refine op_e0 h ?_ (fun τ hτ => ?_)
      · rw [F_X4_turnFor, k04, ck_t, C_isSitter k1 h1.2.1 h8, bnd_s, if_t hs, C_within, bnd_s, if_f (wi_f hw), C_f0, bnd_s]
      · rw [F_X5_turnFor, k49, ck_t, M_isSitter h8 (m1of h1 (mrow h2 hτ)), bnd_s, if_t hs, M_isThought, bnd_s, if_f (wi_f hw), M_f0, bnd_s]
  · refine op_e0 h ?_ (fun τ hτ => ?_)
    · rw [F_X4_turnFor, k04, ck_t, C_isSitter k1 h1.2.1 h8, bnd_s, if_f (wi_f hs), C_f0, bnd_s]
    · rw [F_X5_turnFor, k49, ck_t, M_isSitter h8 (m1of h1 (mrow h2 hτ)), bnd_s, if_f (wi_f hs), M_f0, bnd_s]
theorem op_kindFor (s n : Int32) : Op (F_X4_kindFor 0 s n) (F_X5_kindFor 49 s n) := by
  intro K σ hK h
  obtain ⟨⟨⟨m, h1, h2, h4⟩, hk⟩, hT, hS, hF⟩ := id h
  have h8 := h1.1
  by_cases hs : isS m s = true
  · obtain ⟨i, hi, rfl⟩ := isS_of hs
    have hi8 : i < 8 := by omega
    by_cases hw : wi n 0 60 = true
    · obtain ⟨k, hk6, rfl⟩ := wi_t (n := 60) (by decide) rfl hw
      obtain ⟨x, hx⟩ : ∃ x : Nat → Nat × Int32, x = fun j => (23 + 7 * i, nI j) := ⟨_, rfl⟩
      have okx : ∀ a, okR (100 * K) m a → ∀ j, j < 7 → okR (100 * K) m (upd a (x j).1 (x j).2) := fun a ha j hj => by rw [hx]; exact okR_o (k := 23 + 7 * i) ha (by omega) (by omega) (by omega)
      obtain ⟨n', σ', q', -, e'⟩ := q_loop (Q := cq) cq_r cq_t (I := fun σ' => V 1 σ' = V 1 σ) (G := fun q (a : Int32 × Int32) j => lo6 F_X4_kindFor_b35 q 0 (nI i) (nI k) a.1 a.2 (nI j)) (f := mxU (vT k i x (V 1 σ))) (N := 7) (fun a b ha q => (cq_V1 q).trans ha) (fun q a j σx hI hj => by
        have h1x : okR (100 * K) m (V 1 σx) := by rw [hI]; exact h1
        obtain ⟨σ1, e1, q1, a1, n1, tw⟩ := C_tw h1x hK (k := k) (by omega)
        obtain ⟨σ3, e3, q3, a3, n3⟩ := tw (23 + 7 * i + 0) (nI j) (up2 σ1 (13 + 1 + 1 + i) 0 (nI j)) (V_us (b := 13) hi8 (by decide)) (fr_u (by omega)) (by rw [hI]; have := okx _ h1 j hj; rw [hx] at this; exact this)
        refine ⟨σ3, q3, ?_⟩
        show F_X4_kindFor_b35 (lo6 F_X4_kindFor_b35 q) 0 (nI i) (nI k) a.1 a.2 (nI j) σx = lo6 F_X4_kindFor_b35 q 0 (nI i) (nI k) (mxU (vT k i x (V 1 σ)) j a).1 (mxU (vT k i x (V 1 σ)) j a).2 (nI (j + 1)) σ3
        have ev : V 13 σ3 (23 + 7 * i + 5) = vT k i x (V 1 σ) j := by rw [a3 _ (by omega), hI, vT, hx]; rfl
        have eg : F_X0_give 13 (nI i) 0 (nI j) σ1 = some ((), up2 σ1 (13 + 1 + 1 + i) 0 (nI j)) := C_give (k := 0) k13 h8 σ1 n1 hi (by decide) (nI j)
        rw [F_X4_kindFor_b35, if_neg (fun z => by have := (nI_ltI (a := 6) (by decide) (by omega)).mp z; omega), k04, ck_t, e1, bnd_s, eg, bnd_s, e3, bnd_s, show (5 : Int32) = nI 5 from rfl, C_partOf k13 n3 h8 hi (by decide), bnd_s, ev, nI_1]
        unfold mxU
        by_cases c : vT k i x (V 1 σ) j ≤ a.2
        · rw [if_pos c, if_pos c]
        · rw [if_neg c, if_neg c]) 7 0 1000 (0, -1) σ (by omega) (by omega) rfl
      refine op_ans (r := (fldU (mxU (vT k i x (V 1 σ))) 0 7 (0, -1)).1) h ⟨σ', ?_, q'⟩ (fun τ hτ => ?_)
      · rw [F_X4_kindFor, k04, ck_t, C_isSitter k1 h1.2.1 h8, bnd_s, if_t hs, C_within, bnd_s, if_t hw]
        refine e'.trans ?_
        show F_X4_kindFor_b35 (lo6 F_X4_kindFor_b35 n') 0 (nI i) (nI k) _ _ (nI 7) σ' = _
        rw [F_X4_kindFor_b35, if_pos (by decide)]
      · obtain ⟨n', σ2, q2, -, e2⟩ := q_loop (Q := mq) mq_r mq_t (I := fun τ' => agr m (V 1 σ) (τ' 50)) (G := fun q (a : Int32 × Int32) j => lo6 F_X5_kindFor_b30 q 49 (nI i) (nI k) a.1 a.2 (nI j)) (f := mxU (vT k i x (V 1 σ))) (N := 7) (fun a b ha q => agr_mq h8 ha q) (fun q a j τx hI hj => by
          have okt := okx _ (okR_agr hI h1) j hj
          have ex : upd (τx 50) (23 + 7 * i) (nI j) = upd (τx 50) (x j).1 (x j).2 := by rw [hx]
          obtain ⟨σ3, q3, e3⟩ := M_takenW (p := 23 + 7 * i) (v := nI j) (k := k) (i := i) (by omega) (by rw [ex]; exact okt) (by omega) (by omega) (by omega)
          refine ⟨σ3, q3, ?_⟩
          show F_X5_kindFor_b30 (lo6 F_X5_kindFor_b30 q) 49 (nI i) (nI k) a.1 a.2 (nI j) τx = lo6 F_X5_kindFor_b30 q 49 (nI i) (nI k) (mxU (vT k i x (V 1 σ)) j a).1 (mxU (vT k i x (V 1 σ)) j a).2 (nI (j + 1)) σ3
          have ev : minsR k (upd (τx 50) (23 + 7 * i) (nI j)) (23 + 7 * i + 5) = vT k i x (V 1 σ) j := by rw [ex]; exact (vT_c hi hI j (okx _ h1 j hj) (by omega)).symm
          rw [F_X5_kindFor_b30, if_neg (fun z => by have := (nI_ltI (a := 6) (by decide) (by omega)).mp z; omega), M_at0, bnd_s, k49, ck_t, e3, bnd_s, ev]
          unfold mxU
          by_cases c : vT k i x (V 1 σ) j ≤ a.2
          · rw [if_pos c, if_pos c, F_X5_kindFor_b65, lti_e, imax_le c, nI_1]
          · rw [if_neg c, if_neg c, F_X5_kindFor_b65, lti_e, imax_gt c, nI_1]) 7 0 1000 (0, -1) τ (by omega) (by omega) (mrow h2 hτ)
        refine ⟨σ2, ?_, q2⟩
        rw [F_X5_kindFor, k49, ck_t, M_isSitter h8 (m1of h1 (mrow h2 hτ)), bnd_s, if_t hs, M_isThought, bnd_s, if_t hw]
        refine e2.trans ?_
        show F_X5_kindFor_b30 (lo6 F_X5_kindFor_b30 n') 49 (nI i) (nI k) _ _ (nI 7) σ2 = _
        rw [F_X5_kindFor_b30, if_pos (by decide)]
    · refine op_e0 h ?_ (fun τ hτ => ?_)
      · rw [F_X4_kindFor, k04, ck_t, C_isSitter k1 h1.2.1 h8, bnd_s, if_t hs, C_within, bnd_s, if_f (wi_f hw), C_f0, bnd_s]
      · rw [F_X5_kindFor, k49, ck_t, M_isSitter h8 (m1of h1 (mrow h2 hτ)), bnd_s, if_t hs, M_isThought, bnd_s, if_f (wi_f hw), M_f0, bnd_s]
  · refine op_e0 h ?_ (fun τ hτ => ?_)
    · rw [F_X4_kindFor, k04, ck_t, C_isSitter k1 h1.2.1 h8, bnd_s, if_f (wi_f hs), C_f0, bnd_s]
    · rw [F_X5_kindFor, k49, ck_t, M_isSitter h8 (m1of h1 (mrow h2 hτ)), bnd_s, if_f (wi_f hs), M_f0, bnd_s]

/-! PURE: how class and reference stand to each other between two calls; what a call may leave -/
/-- kinds and pictures taken are in their ranges -/
def okS (m : Nat) (a : Row) : Prop := ∀ i, i < m → (∃ k, k ≤ 6 ∧ a (23 + 7 * i) = nI k) ∧ ∃ t, t ≤ 999 ∧ a (23 + 7 * i + 5) = nI t
def RelB (K : Nat) (σ : Sto) : Prop := (∃ m, okR (100 * K) m (V 1 σ) ∧ agr m (V 1 σ) (σ 50) ∧ okS m (V 1 σ)) ∧ ((σ 0 3 = 0 ∧ σ 49 3 = 0) ∨ (σ 0 3 = 1 ∧ σ 49 3 = 1 ∧ ∃ m, okR (100 * K) m (V 25 σ) ∧ agr m (V 25 σ) (σ 51) ∧ okS m (V 25 σ)))
def RelT (σ : Sto) : Prop := ∃ t, t ≤ 120 ∧ σ 37 1 = nI t ∧ σ 49 8 = nI t ∧ ∀ j, j < t → σ 38 j = σ 54 j
def RelS (σ : Sto) : Prop := ∀ s, s < 4 → σ (40 + 2 * s) 0 = σ 57 s ∧ ∃ z, z ≤ 40 ∧ σ (40 + 2 * s) 1 = nI z ∧ σ 58 s = nI z ∧ ∀ j, j < 40 → σ (40 + 2 * s + 1) j = σ 59 (40 * s + j)
def RelF (σ : Sto) : Prop := (∀ i, i < 7 → σ 48 i = σ 53 (i + 1)) ∧ σ 53 0 = σ 48 0 + σ 48 1 + σ 48 2 + σ 48 3 + σ 48 4 + σ 48 5 + σ 48 6
def Rel (K : Nat) (σ : Sto) : Prop := RelB K σ ∧ RelT σ ∧ RelS σ ∧ RelF σ
/-- what the class leaves as it was (its trial Booth and its reader apart) -/
def cq (σ σ' : Sto) : Prop := (∀ k, ¬ (13 ≤ k ∧ k < 25) → ¬ k = 37 → σ' k = σ k) ∧ σ' 37 1 = σ 37 1
def mq (σ σ' : Sto) : Prop := (∀ k, ¬ k = 49 → ¬ k = 50 → ¬ k = 52 → ¬ k = 56 → ¬ k = 60 → σ' k = σ k) ∧ σ' 49 3 = σ 49 3 ∧ σ' 49 8 = σ 49 8 ∧ ∀ j, j < 79 → σ' 50 j = σ 50 j
def fnd (i : Nat) (σ : Sto) : Sto := up1 σ 48 (upd (σ 48) i (σ 48 i + 1))
def fndM (i : Nat) (σ : Sto) : Sto := up1 σ 53 (upd (upd (σ 53) (i + 1) (σ 53 (i + 1) + 1)) 0 (σ 53 0 + 1))
/-- the findings' own numbers -/
def cod (i : Nat) : Int32 := -1000001 - nI i
theorem cq_r (σ : Sto) : cq σ σ := ⟨fun _ _ _ => rfl, rfl⟩
theorem cq_t {a b c : Sto} (h : cq a b) (h2 : cq b c) : cq a c := ⟨fun k q1 q2 => (h2.1 k q1 q2).trans (h.1 k q1 q2), h2.2.trans h.2⟩
theorem cq_fr {σ σ' : Sto} (h : fr 13 σ σ') : cq σ σ' := ⟨fun k q _ => h k (by omega), by rw [h 37 (by omega)]⟩
theorem mq_r (σ : Sto) : mq σ σ := ⟨fun _ _ _ _ _ _ => rfl, rfl, rfl, fun _ _ => rfl⟩
theorem mq_t {a b c : Sto} (h : mq a b) (h2 : mq b c) : mq a c := ⟨fun k q1 q2 q3 q4 q5 => (h2.1 k q1 q2 q3 q4 q5).trans (h.1 k q1 q2 q3 q4 q5), h2.2.1.trans h.2.1, h2.2.2.1.trans h.2.2.1, fun j hj => (h2.2.2.2 j hj).trans (h.2.2.2 j hj)⟩
theorem mq_50 {σ : Sto} {f : Row} (h : ∀ j, j < 79 → f j = σ 50 j) : mq σ (up1 σ 50 f) := ⟨fun k _ q _ _ _ => up1_n q, by rw [up1_n (by decide)], by rw [up1_n (by decide)], fun j hj => by rw [up1_s]; exact h j hj⟩
theorem mq_52 (σ : Sto) (f : Row) : mq σ (up1 σ 52 f) := ⟨fun k _ _ q _ _ => up1_n q, by rw [up1_n (by decide)], by rw [up1_n (by decide)], fun j hj => by rw [up1_n (by decide)]⟩
theorem agr_x {m : Nat} (h8 : m ≤ 8) {a b c : Row} (h : agr m a b) (e : ∀ j, j < 79 → c j = b j) : agr m a c := fun j hj => (h j hj).trans (e j (by omega)).symm
theorem V_eq {b : Nat} {σ σ' : Sto} (h : ∀ k, b ≤ k → k < b + 12 → σ' k = σ k) : V b σ' = V b σ := by
  refine V_ext ?_ ?_ ?_ ?_ ?_ ?_ ?_ (fun p hp => ?_) (fun p hp => ?_) (fun i k hi hk => ?_) (fun j hj => Vhi b σ hj)
  any_goals (rw [h b (by omega) (by omega)]; rfl)
  · rw [h _ (by omega) (by omega)]; exact Vsp b σ hp
  · rw [h _ (by omega) (by omega)]; exact Vq b σ hp
  · rw [h _ (by omega) (by omega)]; exact Vs b σ hi hk
theorem RelB_mono {K K' : Nat} {σ : Sto} (h : RelB K σ) (hK : K ≤ K') : RelB K' σ := by
  obtain ⟨⟨m, h1, h2⟩, h3⟩ := h
  refine ⟨⟨m, okR_mono h1 (by omega), h2⟩, ?_⟩
  rcases h3 with h3 | ⟨a, b, m', h4, h5⟩
  · exact Or.inl h3
  · exact Or.inr ⟨a, b, m', okR_mono h4 (by omega), h5⟩
theorem Rel_cq {K : Nat} {σ σ' : Sto} (h : Rel K σ) (q : cq σ σ') : Rel K σ' := by
  obtain ⟨⟨⟨m, h1, h2⟩, h3⟩, ⟨t, t1, t2, t3, t4⟩, hS, hF⟩ := h
  obtain ⟨q1, q2⟩ := q
  have v1 : V 1 σ' = V 1 σ := V_eq fun k a b => q1 k (by omega) (by omega)
  have v25 : V 25 σ' = V 25 σ := V_eq fun k a b => q1 k (by omega) (by omega)
  refine ⟨⟨⟨m, by rw [v1]; exact h1, by rw [v1, q1 50 (by omega) (by omega)]; exact h2.1, by rw [v1]; exact h2.2⟩, ?_⟩, ⟨t, t1, by rw [q2]; exact t2, by rw [q1 49 (by omega) (by omega)]; exact t3, fun j hj => by rw [q1 38 (by omega) (by omega), q1 54 (by omega) (by omega)]; exact t4 j hj⟩, fun s hs => ?_, ?_⟩
  · rw [v25, q1 0 (by omega) (by omega), q1 49 (by omega) (by omega), q1 51 (by omega) (by omega)]; exact h3
  · rw [q1 _ (by omega) (by omega), q1 (40 + 2 * s + 1) (by omega) (by omega), q1 57 (by omega) (by omega), q1 58 (by omega) (by omega), q1 59 (by omega) (by omega)]; exact hS s hs
  · unfold RelF; rw [q1 48 (by omega) (by omega), q1 53 (by omega) (by omega)]; exact hF
theorem Rel_mq {K : Nat} {σ σ' : Sto} (h : Rel K σ) (q : mq σ σ') : Rel K σ' := by
  obtain ⟨⟨⟨m, h1, h2⟩, h3⟩, ⟨t, t1, t2, t3, t4⟩, hS, hF⟩ := h
  obtain ⟨q1, q2, q3, q4⟩ := q
  have q1' : ∀ k, k < 49 → σ' k = σ k := fun k hk => q1 k (by omega) (by omega) (by omega) (by omega) (by omega)
  have v1 : V 1 σ' = V 1 σ := V_eq fun k a b => q1' k (by omega)
  have v25 : V 25 σ' = V 25 σ := V_eq fun k a b => q1' k (by omega)
  have o : ∀ k, k = 51 ∨ k = 53 ∨ k = 54 ∨ k = 57 ∨ k = 58 ∨ k = 59 → σ' k = σ k := fun k hk => q1 k (by omega) (by omega) (by omega) (by omega) (by omega)
  refine ⟨⟨⟨m, by rw [v1]; exact h1, by rw [v1]; exact agr_x h1.1 h2.1 q4, by rw [v1]; exact h2.2⟩, ?_⟩, ⟨t, t1, by rw [q1' 37 (by omega)]; exact t2, by rw [q3]; exact t3, fun j hj => by rw [q1' 38 (by omega), o 54 (by omega)]; exact t4 j hj⟩, fun s hs => ?_, ?_⟩
  · rw [v25, q1' 0 (by omega), q2, o 51 (by omega)]; exact h3
  · rw [q1' _ (by omega), q1' (40 + 2 * s + 1) (by omega), o 57 (by omega), o 58 (by omega), o 59 (by omega)]; exact hS s hs
  · unfold RelF; rw [q1' 48 (by omega), o 53 (by omega)]; exact hF
theorem fsum (a b c d e f g : Int32) : ∀ i, i < 7 → ∀ u : Row, u 0 = a → u 1 = b → u 2 = c → u 3 = d → u 4 = e → u 5 = f → u 6 = g → upd u i (u i + 1) 0 + upd u i (u i + 1) 1 + upd u i (u i + 1) 2 + upd u i (u i + 1) 3 + upd u i (u i + 1) 4 + upd u i (u i + 1) 5 + upd u i (u i + 1) 6 = a + b + c + d + e + f + g + 1 := by
  intro i hi u h0 h1 h2 h3 h4 h5 h6
  rcases (show i = 0 ∨ i = 1 ∨ i = 2 ∨ i = 3 ∨ i = 4 ∨ i = 5 ∨ i = 6 by omega) with rfl | rfl | rfl | rfl | rfl | rfl | rfl <;> simp only [upd_i, h0, h1, h2, h3, h4, h5, h6] <;> simp <;> ac_rfl
theorem Rel_fnd {K i : Nat} {σ : Sto} (hi : i < 7) (h : Rel K σ) : Rel K (fndM i (fnd i σ)) := by
  obtain ⟨⟨⟨m, h1, h2⟩, h3⟩, ⟨t, t1, t2, t3, t4⟩, hS, hF1, hF2⟩ := h
  have o : ∀ k, ¬ k = 48 → ¬ k = 53 → fndM i (fnd i σ) k = σ k := fun k a b => by unfold fndM fnd; rw [up1_n b, up1_n a]
  have e48 : fndM i (fnd i σ) 48 = upd (σ 48) i (σ 48 i + 1) := by unfold fndM fnd; rw [up1_n (by decide), up1_s]
  have e53 : fndM i (fnd i σ) 53 = upd (upd (σ 53) (i + 1) (σ 53 (i + 1) + 1)) 0 (σ 53 0 + 1) := by unfold fndM fnd; rw [up1_s, up1_n (by decide)]
  have v1 : V 1 (fndM i (fnd i σ)) = V 1 σ := V_eq fun k a b => o k (by omega) (by omega)
  have v25 : V 25 (fndM i (fnd i σ)) = V 25 σ := V_eq fun k a b => o k (by omega) (by omega)
  refine ⟨⟨⟨m, by rw [v1]; exact h1, by rw [v1, o 50 (by omega) (by omega)]; exact h2.1, by rw [v1]; exact h2.2⟩, ?_⟩, ⟨t, t1, by rw [o 37 (by omega) (by omega)]; exact t2, by rw [o 49 (by omega) (by omega)]; exact t3, fun j hj => by rw [o 38 (by omega) (by omega), o 54 (by omega) (by omega)]; exact t4 j hj⟩, fun s hs => ?_, ?_⟩
  · rw [v25, o 0 (by omega) (by omega), o 49 (by omega) (by omega), o 51 (by omega) (by omega)]; exact h3
  · rw [o _ (by omega) (by omega), o (40 + 2 * s + 1) (by omega) (by omega), o 57 (by omega) (by omega), o 58 (by omega) (by omega), o 59 (by omega) (by omega)]; exact hS s hs
  · unfold RelF
    rw [e48, e53]
    refine ⟨fun j hj => ?_, ?_⟩
    · rw [upd_n (show ¬ j + 1 = 0 by omega), upd_i, upd_i]
      by_cases hij : j = i
      · rw [if_pos hij, if_pos (by omega), hF1 i hi]
      · rw [if_neg hij, if_neg (by omega)]; exact hF1 j hj
    · rw [upd_s, hF2, fsum _ _ _ _ _ _ _ i hi (σ 48) rfl rfl rfl rfl rfl rfl rfl]
theorem fnd_cq {i : Nat} {σ σ' : Sto} : fnd i σ' = up1 σ' 48 (upd (σ' 48) i (σ' 48 i + 1)) := rfl
/-- a reference's quiet change and a finding change places -/
theorem Rel_fin {K i : Nat} {σ σ1 σ2 : Sto} (hi : i < 7) (h : Rel K σ) (c : cq σ σ1) (q : mq (fnd i σ1) σ2) : Rel K (fndM i σ2) := by
  have h1 := Rel_fnd hi (Rel_cq h c)
  refine Rel_mq h1 ?_
  obtain ⟨q1, q2, q3, q4⟩ := q
  have e53 : σ2 53 = fnd i σ1 53 := q1 53 (by omega) (by omega) (by omega) (by omega) (by omega)
  unfold fndM
  refine ⟨fun k a b c d e => ?_, ?_, ?_, fun j hj => ?_⟩
  · by_cases hk : k = 53
    · subst hk; rw [up1_s, up1_s, e53]
    · rw [up1_n hk, up1_n hk]; exact q1 k a b c d e
  · rw [up1_n (by decide), up1_n (by decide)]; exact q2
  · rw [up1_n (by decide), up1_n (by decide)]; exact q3
  · rw [up1_n (by decide), up1_n (by decide)]; exact q4 j hj
theorem Rel_mono {K K' : Nat} {σ : Sto} (h : Rel K σ) (hK : K ≤ K') : Rel K' σ := ⟨RelB_mono h.1 hK, h.2⟩
/-- a call answers alike on both sides, and leaves them standing to each other as before -/
def Op {β : Type} (Fc Fm : Sto → Option (β × Sto)) : Prop := ∀ (K : Nat) (σ : Sto), K ≤ 512 → Rel K σ → ∃ r σ1 σ2, Fc σ = some (r, σ1) ∧ Fm σ1 = some (r, σ2) ∧ Rel (K + 1) σ2
/-- ends of a call: an answer that changes nothing; a finding -/
theorem op_ans {β : Type} {Fc Fm : Sto → Option (β × Sto)} {K : Nat} {σ : Sto} {r : β} (h : Rel K σ) (hc : ∃ σ1, Fc σ = some (r, σ1) ∧ cq σ σ1) (hm : ∀ τ : Sto, (∀ k, 49 ≤ k → τ k = σ k) → ∃ σ2, Fm τ = some (r, σ2) ∧ mq τ σ2) : ∃ r σ1 σ2, Fc σ = some (r, σ1) ∧ Fm σ1 = some (r, σ2) ∧ Rel (K + 1) σ2 := by
  obtain ⟨σ1, e1, q1⟩ := hc
  obtain ⟨σ2, e2, q2⟩ := hm σ1 (fun k hk => q1.1 k (by omega) (by omega))
  exact ⟨r, σ1, σ2, e1, e2, Rel_mono (Rel_mq (Rel_cq h q1) q2) (by omega)⟩
theorem op_fin {β : Type} {Fc Fm : Sto → Option (β × Sto)} {K i : Nat} {σ : Sto} {r : β} (hi : i < 7) (h : Rel K σ) (hc : ∃ σ1, Fc σ = some (r, fnd i σ1) ∧ cq σ σ1) (hm : ∀ τ : Sto, (∀ k, 49 ≤ k → τ k = σ k) → ∃ σ2, Fm τ = some (r, fndM i σ2) ∧ mq τ σ2) : ∃ r σ1 σ2, Fc σ = some (r, σ1) ∧ Fm σ1 = some (r, σ2) ∧ Rel (K + 1) σ2 := by
  obtain ⟨σ1, e1, q1⟩ := hc
  obtain ⟨σ2, e2, q2⟩ := hm (fnd i σ1) (fun k hk => by unfold fnd; rw [up1_n (by omega)]; exact q1.1 k (by omega) (by omega))
  exact ⟨r, fnd i σ1, fndM i σ2, e1, e2, Rel_mono (Rel_fin hi h q1 q2) (by omega)⟩
theorem C_fnd {i : Nat} (hi : i < 7) (σ : Sto) : F_X4_finding 0 (cod i) σ = some (cod i, fnd i σ) := by
  have h : ∀ i, i < 7 → -1000001 - cod i = nI i ∧ ¬ nI i < 0 ∧ ¬ 7 ≤ nI i ∧ inr (nI i) 7 = true ∧ (nI i).toNatClampNeg = i := by decide +kernel
  obtain ⟨h1, h2, h3, h4, h5⟩ := h i hi
  rw [F_X4_finding, lti_e, h1, if_neg h2, if_neg h3, show (kd 0 == 4) = true by decide, ck_t, h4, ck_t, ck_t, lts_e, h5]
  rfl
theorem M_fnd {i : Nat} (hi : i < 7) (σ : Sto) : F_X5_finding 49 (cod i) σ = some (cod i, fndM i σ) := by
  have h : ∀ i, i < 7 → -1000001 - cod i + 1 = nI (i + 1) ∧ inr (nI (i + 1)) 8 = true ∧ (nI (i + 1)).toNatClampNeg = i + 1 := by decide +kernel
  obtain ⟨h1, h2, h3⟩ := h i hi
  rw [F_X5_finding, h1, k49, ck_t, h2, ck_t, ck_t, lts_e, lts_e, h3]
  unfold fndM
  rw [up2_e, up2_e, up1_t, up1_s, upd_n (show ¬ 0 = i + 1 by omega)]
theorem cod0 : (-1000001 : Int32) = cod 0 := by decide
theorem cod1 : (-1000002 : Int32) = cod 1 := by decide
theorem cod2 : (-1000003 : Int32) = cod 2 := by decide
theorem cod3 : (-1000004 : Int32) = cod 3 := by decide
theorem cod4 : (-1000005 : Int32) = cod 4 := by decide
theorem cod5 : (-1000006 : Int32) = cod 5 := by decide
theorem cod6 : (-1000007 : Int32) = cod 6 := by decide
theorem C_f0 (σ : Sto) : F_X4_finding 0 (-1000001) σ = some (-1000001, fnd 0 σ) := C_fnd (i := 0) (by decide) σ
theorem C_f1 (σ : Sto) : F_X4_finding 0 (-1000002) σ = some (-1000002, fnd 1 σ) := C_fnd (i := 1) (by decide) σ
theorem C_f2 (σ : Sto) : F_X4_finding 0 (-1000003) σ = some (-1000003, fnd 2 σ) := C_fnd (i := 2) (by decide) σ
theorem C_f3 (σ : Sto) : F_X4_finding 0 (-1000004) σ = some (-1000004, fnd 3 σ) := C_fnd (i := 3) (by decide) σ
theorem C_f4 (σ : Sto) : F_X4_finding 0 (-1000005) σ = some (-1000005, fnd 4 σ) := C_fnd (i := 4) (by decide) σ
theorem C_f5 (σ : Sto) : F_X4_finding 0 (-1000006) σ = some (-1000006, fnd 5 σ) := C_fnd (i := 5) (by decide) σ
theorem C_f6 (σ : Sto) : F_X4_finding 0 (-1000007) σ = some (-1000007, fnd 6 σ) := C_fnd (i := 6) (by decide) σ
theorem M_f0 (σ : Sto) : F_X5_finding 49 (-1000001) σ = some (-1000001, fndM 0 σ) := M_fnd (i := 0) (by decide) σ
theorem M_f1 (σ : Sto) : F_X5_finding 49 (-1000002) σ = some (-1000002, fndM 1 σ) := M_fnd (i := 1) (by decide) σ
theorem M_f2 (σ : Sto) : F_X5_finding 49 (-1000003) σ = some (-1000003, fndM 2 σ) := M_fnd (i := 2) (by decide) σ
theorem M_f3 (σ : Sto) : F_X5_finding 49 (-1000004) σ = some (-1000004, fndM 3 σ) := M_fnd (i := 3) (by decide) σ
theorem M_f4 (σ : Sto) : F_X5_finding 49 (-1000005) σ = some (-1000005, fndM 4 σ) := M_fnd (i := 4) (by decide) σ
theorem M_f5 (σ : Sto) : F_X5_finding 49 (-1000006) σ = some (-1000006, fndM 5 σ) := M_fnd (i := 5) (by decide) σ
theorem M_f6 (σ : Sto) : F_X5_finding 49 (-1000007) σ = some (-1000007, fndM 6 σ) := M_fnd (i := 6) (by decide) σ
/-! simple checks, on both sides -/
def wi (v lo hi : Int32) : Bool := !decide (v < lo) && !decide (hi < v)
theorem C_within (v hi : Int32) (σ : Sto) : F_X4_isWithin v hi σ = some (b2i (wi v 0 hi), σ) := by
  unfold F_X4_isWithin wi
  by_cases h1 : v < 0
  · rw [if_pos h1, decide_eq_true h1]; rfl
  · rw [if_neg h1, decide_eq_false h1]
    by_cases h2 : hi < v
    · rw [if_pos h2, decide_eq_true h2]; rfl
    · rw [if_neg h2, decide_eq_false h2]; rfl
theorem b2i_0 {c : Bool} (h : c = false) : b2i c = 0 := by rw [h]; rfl
theorem b2i_1 {c : Bool} (h : c = true) : ¬ b2i c = 0 := by rw [h]; decide

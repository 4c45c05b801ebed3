/-! PURE: the calls on sheets: sheet, write, judge, load -/
theorem kdS {q : Nat} (hq : q < 4) : (kd (40 + 2 * q) == 1) = true := by
  rcases (show q = 0 ∨ q = 1 ∨ q = 2 ∨ q = 3 by omega) with rfl | rfl | rfl | rfl <;> decide
theorem Rel_sh {K : Nat} {σ τ : Sto} (h : Rel K σ) (o : ∀ k, ¬ (40 ≤ k ∧ k < 48) → ¬ k = 57 → ¬ k = 58 → ¬ k = 59 → ¬ k = 60 → τ k = σ k) (hS : RelS τ) : Rel (K + 1) τ := by
  obtain ⟨⟨⟨m, h1, h2⟩, hk⟩, ⟨t, t1, t2, t3, t4⟩, -, hF⟩ := h
  have v1 : V 1 τ = V 1 σ := V_eq fun k a b => o k (by omega) (by omega) (by omega) (by omega) (by omega)
  have v25 : V 25 τ = V 25 σ := V_eq fun k a b => o k (by omega) (by omega) (by omega) (by omega) (by omega)
  have o' : ∀ k, k < 40 ∨ (48 ≤ k ∧ k < 57) → τ k = σ k := fun k hk => o k (by omega) (by omega) (by omega) (by omega) (by omega)
  refine ⟨RelB_mono (K := K) ⟨⟨m, by rw [v1]; exact h1, by rw [v1, o' 50 (by omega)]; exact h2.1, by rw [v1]; exact h2.2⟩, ?_⟩ (by omega), ⟨t, t1, by rw [o' 37 (by omega)]; exact t2, by rw [o' 49 (by omega)]; exact t3, fun j hj => by rw [o' 38 (by omega), o' 54 (by omega)]; exact t4 j hj⟩, hS, ?_⟩
  · rw [v25, o' 0 (by omega), o' 49 (by omega), o' 51 (by omega)]; exact hk
  · unfold RelF; rw [o' 48 (by omega), o' 53 (by omega)]; exact hF
theorem C_sheetAt (s : Int32) (σ : Sto) : F_X4_sheetAt 0 s σ = some (if inr s 4 = true then some (40 + 2 * s.toNatClampNeg) else none, σ) := by
  by_cases h : inr s 4 = true
  · obtain ⟨q, hq, rfl⟩ := inr_of h
    rw [F_X4_sheetAt, if_neg (nI_pos (by omega)), if_neg (fun z => by have := (nI_leI (a := 4) (by decide) (by omega)).mp z; omega), k04, ck_t, h, ck_t, if_pos rfl]
  · have h' := h
    unfold inr at h
    rw [Bool.and_eq_true, decide_eq_true_eq, decide_eq_true_eq] at h
    rw [if_neg h']
    by_cases c : s < 0
    · rw [F_X4_sheetAt, if_pos c]
    · obtain ⟨q, hq, rfl⟩ := nI_of c
      rw [nI_clamp hq] at h
      have : ¬ q < 4 := fun z => h ⟨nI_pos' hq, z⟩
      rw [F_X4_sheetAt, if_neg c, if_pos (show (4 : Int32) ≤ nI q from (nI_leI (a := 4) (by decide) hq).mpr (by omega))]
theorem C_shS {q : Nat} (hq : q < 4) (σ : Sto) : F_X4_sheetAt 0 (nI q) σ = some (some (40 + 2 * q), σ) := by
  rw [C_sheetAt, if_pos (inr_nI hq (by decide)), nI_clamp (by omega)]
theorem M_isSheet (s : Int32) (σ : Sto) : F_X5_isSheet s σ = some (b2i (inr s 4), σ) := by
  rw [F_X5_isSheet, M_within, bnd_s, z01_b, ck_t, show wi s 0 3 = inr s 4 from wi_inr s 3 (by decide)]
theorem C_miss {q : Nat} (hq : q < 4) (σ : Sto) : F_X1_isMissing (40 + 2 * q) σ = some (b2i (decide (σ (40 + 2 * q) 0 = 0)), σ) := by
  rw [F_X1_isMissing, kdS hq, ck_t]
  by_cases c : σ (40 + 2 * q) 0 = 0
  · rw [if_pos c, decide_eq_true c]; rfl
  · rw [if_neg c, decide_eq_false c]; rfl
theorem C_refN (σ : Sto) : F_X4_refusalFor none σ = some (-1000001, σ) := rfl
theorem C_refM {q : Nat} (hq : q < 4) {σ : Sto} (h : σ (40 + 2 * q) 0 = 0) : F_X4_refusalFor (some (40 + 2 * q)) σ = some (-1000006, σ) := by
  rw [F_X4_refusalFor, oc_s, kdS hq, ck_t, C_miss hq, bnd_s, if_t (decide_eq_true h)]
theorem C_refS {q : Nat} (hq : q < 4) {σ : Sto} (h : ¬ σ (40 + 2 * q) 0 = 0) : F_X4_refusalFor (some (40 + 2 * q)) σ = some (-1000001, σ) := by
  rw [F_X4_refusalFor, oc_s, kdS hq, ck_t, C_miss hq, bnd_s, if_f (decide_eq_false h)]
theorem M_lacksN {s : Int32} (h : ¬ inr s 4 = true) (w : Int32) (σ : Sto) : F_X5_lacks 49 s w σ = some (-1000001, σ) := by
  rw [F_X5_lacks, M_isSheet, bnd_s, if_f (wi_f h)]
theorem M_lacksS {q : Nat} (hq : q < 4) (w : Int32) (σ : Sto) : F_X5_lacks 49 (nI q) w σ = some (if σ 57 q = 0 then -1000006 else if w = 0 then -1000001 else 0, σ) := by
  rw [F_X5_lacks, M_isSheet, bnd_s, if_t (inr_nI hq (by decide)), k49, ck_t, inr_nI hq (by decide), ck_t, nI_clamp (by omega)]
  by_cases c : σ 57 q = 0
  · rw [if_pos c, if_pos c]
  · rw [if_neg c, if_neg c]
    by_cases c2 : w = 0
    · rw [if_pos c2, if_pos c2]
    · rw [if_neg c2, if_neg c2]
/-! sheet -/
def zr (f : Row) : Row := fun j => if j < 40 then 0 else f j
def zq (q : Nat) (f : Row) : Row := fun j => if 40 * q ≤ j ∧ j < 40 * q + 40 then 0 else f j
theorem C_zero {q : Nat} (hq : q < 4) (σ0 : Sto) : ∀ (d j n : Nat) (g : Row), j + d = 40 → d < n → (∀ i, i < j → g i = 0) → (∀ i, j ≤ i → g i = σ0 (40 + 2 * q + 1) i) → lo2 F_X1_begin_b20 n (40 + 2 * q) (nI j) (up1 σ0 (40 + 2 * q + 1) g) = some ((), up1 σ0 (40 + 2 * q + 1) (zr (σ0 (40 + 2 * q + 1)))) := by
  intro d
  induction d with
  | zero =>
    intro j n g hj hn h1 h2
    obtain ⟨n, rfl⟩ : ∃ q, n = q + 1 := ⟨n - 1, by omega⟩
    have hjm : j = 40 := by omega
    subst hjm
    rw [lo2_s, F_X1_begin_b20, if_pos (by decide)]
    have e : g = zr (σ0 (40 + 2 * q + 1)) := by
      funext i
      unfold zr
      by_cases c : i < 40
      · rw [if_pos c, h1 i c]
      · rw [if_neg c, h2 i (by omega)]
    rw [e]
  | succ d ih =>
    intro j n g hj hn h1 h2
    obtain ⟨n, rfl⟩ : ∃ q, n = q + 1 := ⟨n - 1, by omega⟩
    rw [lo2_s, F_X1_begin_b20, if_neg (show ¬ (40 : Int32) ≤ nI j from fun z => by have := (nI_leI (a := 40) (by decide) (by omega)).mp z; omega), kdS hq, ck_t, inr_nI (by omega) (by decide), ck_t, lts_e, nI_clamp (by omega), up2_up1, nI_1]
    refine ih (j + 1) n _ (by omega) (by omega) (fun i hi => ?_) (fun i hi => ?_)
    · rw [upd_i]
      by_cases c : i = j
      · rw [if_pos c]
      · rw [if_neg c]; exact h1 i (by omega)
    · rw [upd_n (by omega)]; exact h2 i (by omega)
theorem M_zero {q : Nat} (hq : q < 4) (σ0 : Sto) : ∀ (d j n : Nat) (g : Row), j + d = 40 → d < n → (∀ i, i < j → g (40 * q + i) = 0) → (∀ i, ¬ (40 * q ≤ i ∧ i < 40 * q + j) → g i = σ0 59 i) → lo3 F_X5_sheet_b86 n 49 (nI q) (nI j) (up1 σ0 59 g) = some (σ0 58 q, up1 σ0 59 (zq q (σ0 59))) := by
  intro d
  induction d with
  | zero =>
    intro j n g hj hn h1 h2
    obtain ⟨n, rfl⟩ : ∃ q, n = q + 1 := ⟨n - 1, by omega⟩
    have hjm : j = 40 := by omega
    subst hjm
    have e : g = zq q (σ0 59) := by
      funext i
      unfold zq
      by_cases c : 40 * q ≤ i ∧ i < 40 * q + 40
      · rw [if_pos c]
        have := h1 (i - 40 * q) (by omega)
        rw [show 40 * q + (i - 40 * q) = i by omega] at this
        exact this
      · rw [if_neg c, h2 i c]
    rw [lo3_s, F_X5_sheet_b86, if_pos (by decide), k49, ck_t, inr_nI hq (by decide), ck_t, nI_clamp (by omega), up1_n (by decide), e]
  | succ d ih =>
    intro j n g hj hn h1 h2
    obtain ⟨n, rfl⟩ : ∃ q, n = q + 1 := ⟨n - 1, by omega⟩
    have e40 : 40 * nI q + nI j = nI (40 * q + j) := by
      rcases (show q = 0 ∨ q = 1 ∨ q = 2 ∨ q = 3 by omega) with rfl | rfl | rfl | rfl
      · exact nI_add 0 j
      · exact nI_add 40 j
      · exact nI_add 80 j
      · exact nI_add 120 j
    rw [lo3_s, F_X5_sheet_b86, if_neg (show ¬ (40 : Int32) ≤ nI j from fun z => by have := (nI_leI (a := 40) (by decide) (by omega)).mp z; omega), k49, ck_t, e40, inr_nI (by omega) (by decide), ck_t, lts_e, nI_clamp (by omega), up2_up1, nI_1]
    refine ih (j + 1) n _ (by omega) (by omega) (fun i hi => ?_) (fun i hi => ?_)
    · rw [upd_i]
      by_cases c : 40 * q + i = 40 * q + j
      · rw [if_pos c]
      · rw [if_neg c]; exact h1 i (by omega)
    · rw [upd_n (by omega)]; exact h2 i (by omega)
def isW (w : Int32) : Bool := decide (w = 0) || (decide (w = 8) || (decide (w = 16) || decide (w = 32)))
theorem C_isW (w : Int32) (σ : Sto) : F_X1_isWidth w σ = some (b2i (isW w), σ) := by
  unfold F_X1_isWidth isW
  by_cases c0 : w = 0
  · rw [if_pos c0, decide_eq_true c0]; rfl
  · rw [if_neg c0, decide_eq_false c0]
    by_cases c1 : w = 8
    · rw [if_pos c1, decide_eq_true c1]; rfl
    · rw [if_neg c1, decide_eq_false c1]
      by_cases c2 : w = 16
      · rw [if_pos c2, decide_eq_true c2]; rfl
      · rw [if_neg c2, decide_eq_false c2]
        by_cases c3 : w = 32
        · rw [if_pos c3, decide_eq_true c3]; rfl
        · rw [if_neg c3, decide_eq_false c3]; rfl
theorem M_isW {α : Type} (w : Int32) (p q : α) : (if w = 0 then p else if w = 8 then p else if w = 16 then p else if w = 32 then p else q) = if isW w = true then p else q := by
  unfold isW
  by_cases c0 : w = 0
  · rw [if_pos c0, decide_eq_true c0]; rfl
  · rw [if_neg c0, decide_eq_false c0]
    by_cases c1 : w = 8
    · rw [if_pos c1, decide_eq_true c1]; rfl
    · rw [if_neg c1, decide_eq_false c1]
      by_cases c2 : w = 16
      · rw [if_pos c2, decide_eq_true c2]; rfl
      · rw [if_neg c2, decide_eq_false c2]
        by_cases c3 : w = 32
        · rw [if_pos c3, decide_eq_true c3]; rfl
        · rw [if_neg c3, decide_eq_false c3]; rfl
theorem op_sheet (s w c : Int32) : Op (F_X4_sheet 0 s w c) (F_X5_sheet 49 s w c) := by
  intro K σ hK h
  have hS := h.2.2.1
  by_cases hs : inr s 4 = true
  · obtain ⟨q, hq, rfl⟩ := inr_of hs
    by_cases hw : isW w = true
    · have c0 : F_X4_sheet 0 (nI q) w c σ = if 0 ≤ c then if c ≤ 40 then bnd (F_X1_begin (40 + 2 * q) w c σ) (fun _ σ' => some (σ' (40 + 2 * q) 1, σ')) else some (-1000001, fnd 0 σ) else some (-1000007, fnd 6 σ) := by
        rw [F_X4_sheet, k04, ck_t, C_shS hq, bnd_s, oc_s, C_isW, bnd_s, if_t hw, kdS hq, ck_t, C_f0, bnd_s, C_f6, bnd_s]
      have m0 : ∀ τ : Sto, F_X5_sheet 49 (nI q) w c τ = F_X5_sheet_b36 49 (nI q) w c τ := by
        intro τ
        rw [F_X5_sheet, M_isSheet, bnd_s, if_t hs, M_isW, if_pos hw]
      by_cases g0 : (0 : Int32) ≤ c
      · by_cases g1 : c ≤ 40
        · obtain ⟨z, hz, rfl⟩ := nI_of (Int32.not_lt.mpr g0)
          have z40 : z ≤ 40 := (nI_leI (b := 40) hz (by decide)).mp g1
          obtain ⟨z', hz', ez⟩ : ∃ z' : Nat, z' ≤ 40 ∧ (if w = 0 then (0 : Int32) else nI z) = nI z' := by
            by_cases c : w = 0
            · exact ⟨0, by omega, by rw [if_pos c]; rfl⟩
            · exact ⟨z, z40, by rw [if_neg c]⟩
          generalize hσ1 : up2 (up2 σ (40 + 2 * q) 0 w) (40 + 2 * q) 1 (nI z') = σ1
          have o1 : ∀ k, ¬ k = 40 + 2 * q → σ1 k = σ k := fun k a => by rw [← hσ1, up2_e, up1_n a, up2_e, up1_n a]
          have eb : F_X1_begin (40 + 2 * q) w (nI z) σ = some ((), up1 σ1 (40 + 2 * q + 1) (zr (σ1 (40 + 2 * q + 1)))) := by
            have hz := C_zero hq σ1 40 0 1000 (σ1 (40 + 2 * q + 1)) (by omega) (by omega) (fun i hi => absurd hi (by omega)) (fun _ _ => rfl)
            rw [up1_same rfl] at hz
            have : F_X1_begin (40 + 2 * q) w (nI z) σ = lo2 F_X1_begin_b20 1000 (40 + 2 * q) 0 σ1 := by
              rw [F_X1_begin, kdS hq, ck_t, lts_e, ← hσ1, ← ez]
              by_cases c : w = 0
              · rw [if_pos c, if_pos c, lts_e]
              · rw [if_neg c, if_neg c, lts_e]
            rw [this]
            exact hz
          generalize hσ2 : up1 σ1 (40 + 2 * q + 1) (zr (σ1 (40 + 2 * q + 1))) = σ2 at eb
          have o2 : ∀ k, ¬ k = 40 + 2 * q → ¬ k = 40 + 2 * q + 1 → σ2 k = σ k := fun k a b => by rw [← hσ2, up1_n b, o1 k a]
          have x0 : σ2 (40 + 2 * q) = upd (upd (σ (40 + 2 * q)) 0 w) 1 (nI z') := by rw [← hσ2, up1_n (by omega), ← hσ1, up2_e, up1_s, up2_e, up1_s]
          have x1 : σ2 (40 + 2 * q + 1) = zr (σ (40 + 2 * q + 1)) := by rw [← hσ2, up1_s, o1 _ (by omega)]
          generalize hτ1 : up2 (up2 σ2 57 q w) 58 q (nI z') = τ1
          have p1 : ∀ k, ¬ k = 57 → ¬ k = 58 → τ1 k = σ2 k := fun k a b => by rw [← hτ1, up2_e, up1_n b, up2_e, up1_n a]
          have em : F_X5_sheet_b36 49 (nI q) w (nI z) σ2 = some (nI z', up1 τ1 59 (zq q (τ1 59))) := by
            have hz := M_zero hq τ1 40 0 1000 (τ1 59) (by omega) (by omega) (fun i hi => absurd hi (by omega)) (fun _ _ => rfl)
            rw [up1_same rfl, show τ1 58 q = nI z' by rw [← hτ1, up2_e, up1_s, upd_s]] at hz
            have : F_X5_sheet_b36 49 (nI q) w (nI z) σ2 = lo3 F_X5_sheet_b86 1000 49 (nI q) 0 τ1 := by
              rw [F_X5_sheet_b36, if_pos g0, if_pos g1, k49, ck_t, inr_nI hq (by decide), ck_t, lts_e, ck_t, lts_e, ck_t, lts_e, nI_clamp (by omega), ← hτ1, ← ez]
              by_cases c : w = 0
              · rw [if_pos c, if_pos c]
              · rw [if_neg c, if_neg c]
            rw [this]
            exact hz
          refine ⟨nI z', σ2, _, ?_, (m0 σ2).trans em, ?_⟩
          · rw [c0, if_pos g0, if_pos g1, eb, bnd_s, x0, upd_s]
          · refine Rel_sh h (fun k a b c d e => by rw [up1_n d, p1 k b c, o2 k (by omega) (by omega)]) (fun s hs' => ?_)
            have y57 : (up1 τ1 59 (zq q (τ1 59))) 57 = upd (σ 57) q w := by rw [up1_n (by decide), ← hτ1, up2_e, up1_n (by decide), up2_e, up1_s, o2 57 (by omega) (by omega)]
            have y58 : (up1 τ1 59 (zq q (τ1 59))) 58 = upd (σ 58) q (nI z') := by rw [up1_n (by decide), ← hτ1, up2_e, up1_s, up2_e, up1_n (by decide), o2 58 (by omega) (by omega)]
            have y59 : (up1 τ1 59 (zq q (τ1 59))) 59 = zq q (σ 59) := by rw [up1_s, p1 59 (by decide) (by decide), o2 59 (by omega) (by omega)]
            have ys : ∀ k, k < 48 → (up1 τ1 59 (zq q (τ1 59))) k = σ2 k := fun k hk => by rw [up1_n (by omega), p1 k (by omega) (by omega)]
            obtain ⟨b1, z2, b2, b3, b4, b5⟩ := hS s hs'
            rw [y57, y58, y59, ys _ (by omega), ys _ (by omega)]
            by_cases e : s = q
            · subst e
              rw [x0, x1, upd_s, upd_s, upd_n (by decide), upd_s, upd_s]
              refine ⟨rfl, z', hz', rfl, rfl, fun j hj => ?_⟩
              unfold zr zq
              rw [if_pos hj, if_pos ⟨by omega, by omega⟩]
            · rw [o2 _ (by omega) (by omega), o2 _ (by omega) (by omega), upd_n e, upd_n e]
              refine ⟨b1, z2, b2, b3, b4, fun j hj => ?_⟩
              unfold zq
              rw [if_neg (by omega)]
              exact b5 j hj
        · refine op_e0 h ?_ (fun τ hτ => ?_)
          · rw [c0, if_pos g0, if_neg g1]
          · rw [m0, F_X5_sheet_b36, if_pos g0, if_neg g1, k49, ck_t, M_f0, bnd_s]
      · refine op_e 6 (-1000007) (by decide) h ?_ (fun τ hτ => ?_)
        · rw [c0, if_neg g0]
        · rw [m0, F_X5_sheet_b36, if_neg g0, k49, ck_t, M_f6, bnd_s]
    · refine op_e0 h ?_ (fun τ hτ => ?_)
      · rw [F_X4_sheet, k04, ck_t, C_shS hq, bnd_s, oc_s, C_isW, bnd_s, if_f (wi_f hw), C_f0, bnd_s]
      · rw [F_X5_sheet, M_isSheet, bnd_s, if_t hs, M_isW, if_neg hw, k49, ck_t, M_f0, bnd_s]
  · refine op_e0 h ?_ (fun τ hτ => ?_)
    · rw [F_X4_sheet, k04, ck_t, C_sheetAt, if_neg hs, bnd_s, oc_n, C_f0, bnd_s]
    · rw [F_X5_sheet, M_isSheet, bnd_s, if_f (wi_f hs), k49, ck_t, M_f0, bnd_s]

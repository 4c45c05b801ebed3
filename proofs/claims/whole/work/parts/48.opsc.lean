/-! PURE: the calls on sheets: write, judge, load -/
theorem n40 {q : Nat} (hq : q < 4) (i : Nat) : 40 * nI q + nI i = nI (40 * q + i) := by
  rcases (show q = 0 ∨ q = 1 ∨ q = 2 ∨ q = 3 by omega) with rfl | rfl | rfl | rfl
  · exact nI_add 0 i
  · exact nI_add 40 i
  · exact nI_add 80 i
  · exact nI_add 120 i
theorem C_hasN {q z : Nat} (hq : q < 4) (hz : z ≤ 40) {σ : Sto} (h : σ (40 + 2 * q) 1 = nI z) (v : Int32) : F_X1_hasNumber (40 + 2 * q) v σ = some (b2i (inr v z), σ) := by
  unfold inr
  by_cases c : v < 0
  · rw [F_X1_hasNumber, if_pos c, decide_eq_false (Int32.not_le.mpr c)]; rfl
  · obtain ⟨k, hk, rfl⟩ := nI_of c
    rw [F_X1_hasNumber, if_neg c, kdS hq, ck_t, h, decide_eq_true (Int32.not_lt.mp c), nI_clamp hk]
    by_cases d : k < z
    · rw [if_neg (nI_lei d (by omega)), if_neg (fun w => by have := (nI_leI (a := 40) (by decide) hk).mp w; omega), decide_eq_true d]; rfl
    · rw [if_pos (show nI z ≤ nI k from (nI_leI (by omega) hk).mpr (by omega)), decide_eq_false d]; rfl
theorem M_hasN {z : Nat} (hz : z ≤ 40) (v : Int32) : wi v 0 (nI z - 1) = inr v z := by
  unfold wi inr
  by_cases c : v < 0
  · rw [decide_eq_true c, decide_eq_false (Int32.not_le.mpr c)]; rfl
  · obtain ⟨k, hk, rfl⟩ := nI_of c
    rw [decide_eq_false c, decide_eq_true (Int32.not_lt.mp c), nI_clamp hk]
    have e : (nI z - 1).toInt = (z : Int) - 1 := pk_sub_toInt (b := 1) (by omega) (by decide)
    by_cases d : k < z
    · rw [decide_eq_true d, decide_eq_false (show ¬ nI z - 1 < nI k from fun q => by
        have := Int32.lt_iff_toInt_lt.mp q
        rw [e, nI_toInt hk] at this; omega)]; rfl
    · rw [decide_eq_false d, decide_eq_true (show nI z - 1 < nI k from Int32.lt_iff_toInt_lt.mpr (by rw [e, nI_toInt hk]; omega))]; rfl
def cutW (v w : Int32) : Int32 := if w = 8 then ibyte v else if w = 16 then ishort v else v
theorem M_cut (v w : Int32) (σ : Sto) : F_X5_cutTo v w σ = some (cutW v w, σ) := by
  unfold F_X5_cutTo cutW
  by_cases c : w = 8
  · rw [if_pos c, if_pos c]
  · rw [if_neg c, if_neg c]
    by_cases c2 : w = 16
    · rw [if_pos c2, if_pos c2]
    · rw [if_neg c2, if_neg c2]
theorem op_write (s i v : Int32) : Op (F_X4_write 0 s i v) (F_X5_write 49 s i v) := by
  intro K σ hK h
  have hS := h.2.2.1
  by_cases hs : inr s 4 = true
  · obtain ⟨q, hq, rfl⟩ := inr_of hs
    obtain ⟨b1, z, b2, b3, b4, b5⟩ := hS q hq
    by_cases hw : σ (40 + 2 * q) 0 = 0
    · refine op_e 5 (-1000006) (by decide) h ?_ (fun τ hτ => ?_)
      · rw [F_X4_write, k04, ck_t, C_shS hq, bnd_s, oc_s, kdS hq, ck_t, C_miss hq, bnd_s, if_t (decide_eq_true hw), C_refM hq hw, bnd_s, C_f5, bnd_s]
      · rw [F_X5_write, M_isSheet, bnd_s, if_t hs, k49, ck_t, inr_nI hq (by decide), ck_t, nI_clamp (by omega), hτ 57 (by decide), ← b1, if_pos hw, M_f5, bnd_s]
    · by_cases hi : inr i z = true
      · obtain ⟨j, hj, rfl⟩ := inr_of hi
        have ec : F_X4_write 0 (nI q) (nI j) v σ = some (1, up2 σ (40 + 2 * q + 1) j (cutW v (σ (40 + 2 * q) 0))) := by
          have ep : F_X1_putNumber (40 + 2 * q) (nI j) v σ = some (1, up2 σ (40 + 2 * q + 1) j (cutW v (σ (40 + 2 * q) 0))) := by
            rw [F_X1_putNumber, kdS hq, ck_t, C_hasN hq b2 b3, bnd_s, if_t hi, inr_nI (by omega) (by decide), ck_t, lts_e, ck_t, lts_e, ck_t, lts_e, nI_clamp (by omega)]
            unfold cutW
            by_cases c : σ (40 + 2 * q) 0 = 8
            · rw [if_pos c, if_pos c]
            · rw [if_neg c, if_neg c]
              by_cases c2 : σ (40 + 2 * q) 0 = 16
              · rw [if_pos c2, if_pos c2]
              · rw [if_neg c2, if_neg c2]
          rw [F_X4_write, k04, ck_t, C_shS hq, bnd_s, oc_s, kdS hq, ck_t, C_miss hq, bnd_s, if_f (decide_eq_false hw), ep, bnd_s, if_neg (by decide)]
        generalize hσ1 : up2 σ (40 + 2 * q + 1) j (cutW v (σ (40 + 2 * q) 0)) = σ1 at ec
        have o1 : ∀ k, ¬ k = 40 + 2 * q + 1 → σ1 k = σ k := fun k a => by rw [← hσ1, up2_e, up1_n a]
        refine ⟨1, σ1, up2 σ1 59 (40 * q + j) (cutW v (σ (40 + 2 * q) 0)), ec, ?_, ?_⟩
        · rw [F_X5_write, M_isSheet, bnd_s, if_t hs, k49, ck_t, inr_nI hq (by decide), ck_t, nI_clamp (by omega), o1 57 (by omega), o1 58 (by omega), ← b1, if_neg hw, ck_t, b4, M_within, bnd_s, M_hasN b2, if_t hi, ck_t, M_cut, bnd_s, n40 hq, inr_nI (by omega) (by decide), ck_t, lts_e, nI_clamp (by omega), o1 57 (by omega), ← b1]
        · refine Rel_sh h (fun k a b c d e => by rw [up2_e, up1_n d, o1 k (by omega)]) (fun s hs' => ?_)
          obtain ⟨d1, z2, d2, d3, d4, d5⟩ := hS s hs'
          rw [up2_e, up1_n (by omega), up1_n (show ¬ 57 = 59 by decide), up1_n (show ¬ 58 = 59 by decide), up1_n (show ¬ 40 + 2 * s + 1 = 59 by omega), up1_s, o1 57 (by omega), o1 58 (by omega), o1 59 (by omega), o1 (40 + 2 * s) (by omega)]
          refine ⟨d1, z2, d2, d3, d4, fun k hk => ?_⟩
          by_cases e : s = q
          · subst e
            rw [← hσ1, up2_e, up1_s, upd_i, upd_i]
            by_cases e2 : k = j
            · rw [if_pos e2, if_pos (by omega)]
            · rw [if_neg e2, if_neg (by omega)]; exact d5 k hk
          · rw [o1 _ (by omega), upd_n (by omega)]; exact d5 k hk
      · refine op_e0 h ?_ (fun τ hτ => ?_)
        · have ep : F_X1_putNumber (40 + 2 * q) i v σ = some (0, σ) := by
            rw [F_X1_putNumber, kdS hq, ck_t, C_hasN hq b2 b3, bnd_s, if_f (wi_f hi)]
          rw [F_X4_write, k04, ck_t, C_shS hq, bnd_s, oc_s, kdS hq, ck_t, C_miss hq, bnd_s, if_f (decide_eq_false hw), ep, bnd_s, if_pos rfl, C_f0, bnd_s]
        · rw [F_X5_write, M_isSheet, bnd_s, if_t hs, k49, ck_t, inr_nI hq (by decide), ck_t, nI_clamp (by omega), hτ 57 (by decide), hτ 58 (by decide), ← b1, if_neg hw, ck_t, b4, M_within, bnd_s, M_hasN b2, if_f (wi_f hi), M_f0, bnd_s]
  · refine op_e0 h ?_ (fun τ hτ => ?_)
    · rw [F_X4_write, k04, ck_t, C_sheetAt, if_neg hs, bnd_s, oc_n, C_refN, bnd_s, C_f0, bnd_s]
    · rw [F_X5_write, M_isSheet, bnd_s, if_f (wi_f hs), k49, ck_t, M_f0, bnd_s]
theorem C_num {q z j : Nat} (hq : q < 4) (hz : z ≤ 40) (hj : j < z) {σ : Sto} (h : σ (40 + 2 * q) 1 = nI z) : F_X1_number (40 + 2 * q) (nI j) σ = some (σ (40 + 2 * q + 1) j, σ) := by
  rw [F_X1_number, kdS hq, ck_t, C_hasN hq hz h, bnd_s, if_t (inr_nI hj (by omega)), inr_nI (by omega) (by decide), ck_t, nI_clamp (by omega)]
/-! judge -/
def jdU (z m : Nat) (nm : Nat → Int32) (a : Row) : Nat → Nat → Int32
  | _, 0 => 0
  | j, d + 1 => if j < m then (if a (23 + 7 * j + 5) = nm j then jdU z m nm a (j + 1) d else 1 + nI j) else 1 + nI j
theorem jdU_c {z m : Nat} {nm : Nat → Int32} {a b : Row} (h : agr m a b) : ∀ d j, jdU z m nm a j d = jdU z m nm b j d := by
  intro d
  induction d with
  | zero => intro j; rfl
  | succ d ih =>
    intro j
    rw [jdU, jdU, ih]
    by_cases c : j < m
    · rw [if_pos c, if_pos c, h _ (by omega)]
    · rw [if_neg c, if_neg c]
theorem C_jd {q z m : Nat} (hq : q < 4) (hz : z ≤ 40) (h8 : m ≤ 8) {σ : Sto} (h : σ (40 + 2 * q) 1 = nI z) (hm : V 1 σ 1 = nI m) : ∀ d j n, j + d = z → d < n → lo3 F_X4_judge_b28 n 0 (some (40 + 2 * q)) (nI j) σ = some (jdU z m (σ (40 + 2 * q + 1)) (V 1 σ) j d, σ) := by
  intro d
  induction d with
  | zero =>
    intro j n hj hn
    obtain ⟨n, rfl⟩ : ∃ q, n = q + 1 := ⟨n - 1, by omega⟩
    rw [lo3_s, F_X4_judge_b28, oc_s, kdS hq, ck_t, h, if_pos (show nI z ≤ nI j by rw [show j = z by omega]; exact Int32.le_refl _)]
    rfl
  | succ d ih =>
    intro j n hj hn
    obtain ⟨n, rfl⟩ : ∃ q, n = q + 1 := ⟨n - 1, by omega⟩
    rw [lo3_s, F_X4_judge_b28, oc_s, kdS hq, ck_t, h, if_neg (nI_lei (by omega) (by omega)), k04, ck_t, jdU]
    by_cases c : j < m
    · rw [C_whoS k1 hm h8 c, bnd_s, oc_s, kdb _ (kel k1 (by omega)), ck_t, C_num hq hz (by omega) h, bnd_s, if_pos c, show σ (1 + 1 + 1 + j) 5 = V 1 σ (23 + 7 * j + 5) from Vs 1 σ (by omega) (by decide), nI_1]
      by_cases e : V 1 σ (23 + 7 * j + 5) = σ (40 + 2 * q + 1) j
      · rw [if_pos e, if_pos e, ih (j + 1) n (by omega) (by omega)]
      · rw [if_neg e, if_neg e]
    · rw [C_whoN k1 hm h8 (by rintro ⟨i, hi, ei⟩; have := (nI_eq (by omega) (by omega)).mp ei; omega), bnd_s, oc_n, if_neg c]
theorem M_jd {q z m : Nat} (hq : q < 4) (hz : z ≤ 40) (h8 : m ≤ 8) {σ : Sto} (h : σ 58 q = nI z) (hm : σ 50 1 = nI m) : ∀ d j n, j + d = z → d < n → lo3 F_X5_judge_b22 n 49 (nI q) (nI j) σ = some (jdU z m (fun j => σ 59 (40 * q + j)) (σ 50) j d, σ) := by
  have fin : ∀ j, j < z → F_X5_judge_b66 49 (nI q) (nI j) σ = some (1 + nI j, σ) := by
    intro j hj
    rw [F_X5_judge_b66, k49, ck_t, inr_nI hq (by decide), ck_t, nI_clamp (by omega), h, if_neg (fun e => by have := (nI_eq (by omega) (by omega)).mp e; omega)]
  intro d
  induction d with
  | zero =>
    intro j n hj hn
    obtain ⟨n, rfl⟩ : ∃ q, n = q + 1 := ⟨n - 1, by omega⟩
    have e : j = z := by omega
    subst e
    rw [lo3_s, F_X5_judge_b22, k49, ck_t, inr_nI hq (by decide), ck_t, nI_clamp (by omega), h, if_pos (Int32.le_refl _), F_X5_judge_b66, k49, ck_t, inr_nI hq (by decide), ck_t, nI_clamp (by omega), h, if_pos rfl]
    rfl
  | succ d ih =>
    intro j n hj hn
    obtain ⟨n, rfl⟩ : ∃ q, n = q + 1 := ⟨n - 1, by omega⟩
    rw [lo3_s, F_X5_judge_b22, k49, ck_t, inr_nI hq (by decide), ck_t, nI_clamp (by omega), h, if_neg (nI_lei (by omega) (by omega)), M_isSitter h8 hm, bnd_s, jdU]
    by_cases c : j < m
    · rw [if_t (isS_nI c h8), if_pos c, n40 hq, inr_nI (by omega) (by decide), ck_t, M_is5 (by omega), bnd_s, nI_clamp (by omega), nI_1, fin j (by omega)]
      by_cases e : σ 50 (23 + 7 * j + 5) = σ 59 (40 * q + j)
      · rw [if_pos e.symm, if_pos e, ih (j + 1) n (by omega) (by omega)]
      · rw [if_neg (Ne.symm e), if_neg e]
    · rw [if_f (isS_no (by rintro ⟨i, hi, ei⟩; have := (nI_eq (by omega) (by omega)).mp ei; omega)), if_neg c, fin j (by omega)]
theorem jdU_n {z m : Nat} {f g : Nat → Int32} {a : Row} : ∀ d j, (∀ i, i < j + d → f i = g i) → jdU z m f a j d = jdU z m g a j d := by
  intro d
  induction d with
  | zero => intro j _; rfl
  | succ d ih => intro j hf; rw [jdU, jdU, ih (j + 1) (fun i hi => hf i (by omega)), hf j (by omega)]
theorem op_judge (s : Int32) : Op (F_X4_judge 0 s) (F_X5_judge 49 s) := by
  intro K σ hK h
  obtain ⟨⟨⟨m, h1, h2, h4⟩, hk⟩, hT, hS, hF⟩ := id h
  have h8 := h1.1
  by_cases hs : inr s 4 = true
  · obtain ⟨q, hq, rfl⟩ := inr_of hs
    obtain ⟨b1, z, b2, b3, b4, b5⟩ := hS q hq
    by_cases hw : σ (40 + 2 * q) 0 = 0
    · refine op_e 5 (-1000006) (by decide) h ?_ (fun τ hτ => ?_)
      · rw [F_X4_judge, k04, ck_t, C_shS hq, bnd_s, oc_s, kdS hq, ck_t, C_miss hq, bnd_s, if_t (decide_eq_true hw), C_refM hq hw, bnd_s, C_f5, bnd_s]
      · rw [F_X5_judge, k49, ck_t, M_lacksS hq, bnd_s, hτ 57 (by decide), ← b1, if_pos hw, if_neg (by decide), M_lacksS hq, bnd_s, hτ 57 (by decide), ← b1, if_pos hw, M_f5, bnd_s]
    · refine op_ans (r := jdU z m (σ (40 + 2 * q + 1)) (V 1 σ) 0 z) h ⟨σ, ?_, cq_r σ⟩ (fun τ hτ => ⟨τ, ?_, mq_r τ⟩)
      · rw [F_X4_judge, k04, ck_t, C_shS hq, bnd_s, oc_s, kdS hq, ck_t, C_miss hq, bnd_s, if_f (decide_eq_false hw)]
        exact C_jd hq b2 h8 b3 h1.2.1 z 0 1000 (by omega) (by omega)
      · rw [F_X5_judge, k49, ck_t, M_lacksS hq, bnd_s, hτ 57 (by decide), ← b1, if_neg hw, if_neg (show ¬ (1 : Int32) = 0 by decide), if_pos rfl]
        have e := M_jd hq b2 h8 (σ := τ) (by rw [hτ 58 (by decide)]; exact b4) (m1of h1 (mrow h2 hτ)) z 0 1000 (by omega) (by omega)
        refine e.trans ?_
        rw [jdU_c (mrow h2 hτ), jdU_n (f := σ (40 + 2 * q + 1)) (g := fun j => τ 59 (40 * q + j)) z 0 (fun i hi => by rw [hτ 59 (by decide)]; exact b5 i (by omega))]
  · refine op_e0 h ?_ (fun τ hτ => ?_)
    · rw [F_X4_judge, k04, ck_t, C_sheetAt, if_neg hs, bnd_s, oc_n, C_refN, bnd_s, C_f0, bnd_s]
    · rw [F_X5_judge, k49, ck_t, M_lacksN hs, bnd_s, if_neg (by decide), M_lacksN hs, bnd_s, M_f0, bnd_s]
/-! load -/
def ldU (m : Nat) (nm : Nat → Int32) : Nat → Nat → Row → Nat × Row
  | 0, j, a => (j, a)
  | d + 1, j, a => if isQ m (nm j) = true then ldU m nm d (j + 1) (upd a (17 + j) (nm j)) else (j, a)
theorem ldU_n {m : Nat} {f g : Nat → Int32} : ∀ d j a, (∀ i, i < j + d → f i = g i) → ldU m f d j a = ldU m g d j a := by
  intro d
  induction d with
  | zero => intro j a _; rfl
  | succ d ih => intro j a hf; rw [ldU, ldU, hf j (by omega), ih (j + 1) _ (fun i hi => hf i (by omega))]
theorem ldU_ok {T m : Nat} {nm : Nat → Int32} : ∀ d j (a b : Row), j + d ≤ 6 → okR T m a → okS m a → agr m a b → okR T m (ldU m nm d j a).2 ∧ okS m (ldU m nm d j a).2 ∧ agr m (ldU m nm d j a).2 (ldU m nm d j b).2 ∧ (ldU m nm d j a).1 = (ldU m nm d j b).1 := by
  intro d
  induction d with
  | zero => intro j a b _ h1 h2 h3; exact ⟨h1, h2, h3, rfl⟩
  | succ d ih =>
    intro j a b hj h1 h2 h3
    rw [ldU, ldU]
    by_cases c : isQ m (nm j) = true
    · rw [if_pos c, if_pos c]
      exact ih (j + 1) _ _ (by omega) (okR_q h1 (by omega) c) (okS_u h2 fun i hi => ⟨by omega, by omega⟩) (agr_u h3 rfl)
    · rw [if_neg c, if_neg c]; exact ⟨h1, h2, h3, rfl⟩
theorem C_ld {q z m e : Nat} (hq : q < 4) (hz : z ≤ 40) (h8 : m ≤ 8) (he : e ≤ 6) (hez : e ≤ z) (hend : e = 6 ∨ e = z) (nm : Nat → Int32) : ∀ d j n (σ : Sto), j + d = e → d < n → σ (40 + 2 * q) 1 = nI z → (∀ i, i < 40 → σ (40 + 2 * q + 1) i = nm i) → V 1 σ 1 = nI m → ∃ σ', lo3 F_X4_load_b28 n 0 (some (40 + 2 * q)) (nI j) σ = some (nI (ldU m nm d j (V 1 σ)).1, σ') ∧ V 1 σ' = (ldU m nm d j (V 1 σ)).2 ∧ fr 1 σ σ' := by
  intro d
  induction d with
  | zero =>
    intro j n σ hj hn h hnm hm
    obtain ⟨n, rfl⟩ : ∃ q, n = q + 1 := ⟨n - 1, by omega⟩
    have ej : j = e := by omega
    subst ej
    refine ⟨σ, ?_, rfl, fr_r 1 σ⟩
    rw [lo3_s, F_X4_load_b28]
    by_cases c : (6 : Int32) ≤ nI j
    · rw [if_pos c]; rfl
    · have : j = z := by
        rcases hend with e6 | e6
        · subst e6; exact absurd (by decide) c
        · exact e6
      subst this
      rw [if_neg c, oc_s, kdS hq, ck_t, h, if_pos (Int32.le_refl _)]; rfl
  | succ d ih =>
    intro j n σ hj hn h hnm hm
    obtain ⟨n, rfl⟩ : ∃ q, n = q + 1 := ⟨n - 1, by omega⟩
    rw [ldU]
    by_cases c : isQ m (nm j) = true
    · obtain ⟨σ', e1, v1, f1⟩ := ih (j + 1) n (up2 σ (1 + 10) j (nm j)) (by omega) (by omega) (by rw [up2_e, up1_n (by omega)]; exact h) (fun i hi => by rw [up2_e, up1_n (by omega)]; exact hnm i hi) (by rw [V_uq (b := 1) (by omega), upd_n (by omega)]; exact hm)
      rw [V_uq (b := 1) (show j < 6 by omega)] at e1 v1
      refine ⟨σ', ?_, by rw [if_pos c]; exact v1, fr_t (fr_u (by omega)) f1⟩
      rw [if_pos c, lo3_s, F_X4_load_b28, if_neg (show ¬ (6 : Int32) ≤ nI j from nI_lei (m := 6) (by omega) (by decide)), oc_s, kdS hq, ck_t, h, if_neg (nI_lei (by omega) (by omega)), k04, ck_t, C_num hq hz (by omega) h, bnd_s, hnm j (by omega), C_isQ k1 hm h8, bnd_s, if_t c, C_num hq hz (by omega) h, bnd_s, hnm j (by omega), C_seat k1 (by omega), bnd_s, nI_1]
      exact e1
    · refine ⟨σ, ?_, by rw [if_neg c], fr_r 1 σ⟩
      rw [if_neg c, lo3_s, F_X4_load_b28, if_neg (show ¬ (6 : Int32) ≤ nI j from nI_lei (m := 6) (by omega) (by decide)), oc_s, kdS hq, ck_t, h, if_neg (nI_lei (by omega) (by omega)), k04, ck_t, C_num hq hz (by omega) h, bnd_s, hnm j (by omega), C_isQ k1 hm h8, bnd_s, if_f (wi_f c)]
theorem M_ld {q z m e : Nat} (hq : q < 4) (hz : z ≤ 40) (h8 : m ≤ 8) (he : e ≤ 6) (hez : e ≤ z) (hend : e = 6 ∨ e = z) (nm : Nat → Int32) : ∀ d j n (σ : Sto), j + d = e → d < n → σ 58 q = nI z → (∀ i, i < 40 → σ 59 (40 * q + i) = nm i) → σ 50 1 = nI m → lo3 F_X5_load_b22 n 49 (nI q) (nI j) σ = some (nI (ldU m nm d j (σ 50)).1, up1 σ 50 (ldU m nm d j (σ 50)).2) := by
  intro d
  induction d with
  | zero =>
    intro j n σ hj hn h hnm hm
    obtain ⟨n, rfl⟩ : ∃ q, n = q + 1 := ⟨n - 1, by omega⟩
    have ej : j = e := by omega
    subst ej
    rw [lo3_s, F_X5_load_b22, k49, ck_t, inr_nI hq (by decide), ck_t, nI_clamp (by omega), h, ldU, up1_same rfl]
    by_cases c : nI z ≤ nI j
    · rw [if_pos c]
    · have : j = 6 := by
        rcases hend with e6 | e6
        · exact e6
        · subst e6; exact absurd (Int32.le_refl _) c
      subst this
      rw [if_neg c, M_isPlace, bnd_s, if_f (by decide)]
  | succ d ih =>
    intro j n σ hj hn h hnm hm
    obtain ⟨n, rfl⟩ : ∃ q, n = q + 1 := ⟨n - 1, by omega⟩
    rw [lo3_s, F_X5_load_b22, k49, ck_t, inr_nI hq (by decide), ck_t, nI_clamp (by omega), h, if_neg (nI_lei (by omega) (by omega)), M_isPlace, bnd_s, if_t (inr_nI (by omega) (by decide)), n40 hq, inr_nI (by omega) (by decide), ck_t, nI_clamp (by omega), hnm j (by omega), M_isQ h8 hm, bnd_s, ldU]
    by_cases c : isQ m (nm j) = true
    · rw [if_t c, if_pos c, ck_t, show 17 + nI j = nI (17 + j) from nI_add 17 j, inr_nI (by omega) (by decide), ck_t, lts_e, nI_clamp (by omega), hnm j (by omega), nI_1, ih (j + 1) n _ (by omega) (by omega) (by rw [up2_e, up1_n (by decide)]; exact h) (fun i hi => by rw [up2_e, up1_n (by decide)]; exact hnm i hi) (by rw [up2_e, up1_s, upd_n (by omega)]; exact hm), up2_e, up1_s, up1_t]
    · rw [if_f (wi_f c), if_neg c, up1_same rfl]
theorem op_load (s : Int32) : Op (F_X4_load 0 s) (F_X5_load 49 s) := by
  intro K σ hK h
  obtain ⟨⟨⟨m, h1, h2, h4⟩, hk⟩, hT, hS, hF⟩ := id h
  have h8 := h1.1
  by_cases hs : inr s 4 = true
  · obtain ⟨q, hq, rfl⟩ := inr_of hs
    obtain ⟨b1, z, b2, b3, b4, b5⟩ := hS q hq
    by_cases hw : σ (40 + 2 * q) 0 = 0
    · refine op_e 5 (-1000006) (by decide) h ?_ (fun τ hτ => ?_)
      · rw [F_X4_load, k04, ck_t, C_shS hq, bnd_s, oc_s, kdS hq, ck_t, C_miss hq, bnd_s, if_t (decide_eq_true hw), C_refM hq hw, bnd_s, C_f5, bnd_s]
      · rw [F_X5_load, k49, ck_t, M_lacksS hq, bnd_s, hτ 57 (by decide), ← b1, if_pos hw, if_neg (by decide), M_lacksS hq, bnd_s, hτ 57 (by decide), ← b1, if_pos hw, M_f5, bnd_s]
    · obtain ⟨e, he, hez, hend⟩ : ∃ e, e ≤ 6 ∧ e ≤ z ∧ (e = 6 ∨ e = z) := by
        rcases Nat.lt_or_ge z 6 with c | c
        · exact ⟨z, by omega, by omega, Or.inr rfl⟩
        · exact ⟨6, by omega, by omega, Or.inl rfl⟩
      obtain ⟨σ1, e1, v1, f1⟩ := C_ld hq b2 h8 he hez hend (σ (40 + 2 * q + 1)) e 0 1000 σ (by omega) (by omega) b3 (fun _ _ => rfl) h1.2.1
      have r50 : σ1 50 = σ 50 := f1 50 (by decide)
      have em := M_ld hq b2 h8 he hez hend (σ (40 + 2 * q + 1)) e 0 1000 σ1 (by omega) (by omega) (by rw [f1 58 (by decide)]; exact b4) (fun i hi => by rw [f1 59 (by decide)]; exact (b5 i hi).symm) (by rw [r50]; exact m1of h1 h2)
      obtain ⟨g1, g2, g3, g4⟩ := ldU_ok (nm := σ (40 + 2 * q + 1)) e 0 (V 1 σ) (σ 50) (by omega) h1 h4 h2
      rw [r50, ← g4] at em
      refine ⟨nI (ldU m (σ (40 + 2 * q + 1)) e 0 (V 1 σ)).1, σ1, up1 σ1 50 (ldU m (σ (40 + 2 * q + 1)) e 0 (σ 50)).2, ?_, ?_, ?_⟩
      · rw [F_X4_load, k04, ck_t, C_shS hq, bnd_s, oc_s, kdS hq, ck_t, C_miss hq, bnd_s, if_f (decide_eq_false hw)]
        exact e1
      · rw [F_X5_load, k49, ck_t, M_lacksS hq, bnd_s, f1 57 (by decide), ← b1, if_neg hw, if_neg (show ¬ (1 : Int32) = 0 by decide), if_pos rfl]
        exact em
      · refine Rel_real h f1 (fun k' hk' => up1_n hk') ⟨m, ?_, ?_, ?_⟩
        · rw [v1]; exact okR_mono g1 (by omega)
        · rw [v1, up1_s]; exact g3
        · rw [v1]; exact g2
  · refine op_e0 h ?_ (fun τ hτ => ?_)
    · rw [F_X4_load, k04, ck_t, C_sheetAt, if_neg hs, bnd_s, oc_n, C_refN, bnd_s, C_f0, bnd_s]
    · rw [F_X5_load, k49, ck_t, M_lacksN hs, bnd_s, if_neg (by decide), M_lacksN hs, bnd_s, M_f0, bnd_s]

/-! PURE: the calls on sheets: copy -/
theorem lgc {i n z : Nat} (hi : i < 2 ^ 31) (hn : n < 2 ^ 31) (hz : z < 2 ^ 31) : lg_cmp ((nI i).toInt64 + (nI n).toInt64) (nI z).toInt64 = if z < i + n then 1 else if i + n = z then 0 else -1 := by
  have e : ((nI i).toInt64 + (nI n).toInt64).toInt = ((i + n : Nat) : Int) := by
    rw [Int64.toInt_add, Int32.toInt_toInt64, Int32.toInt_toInt64, nI_toInt hi, nI_toInt hn, Int.bmod_eq_of_le (by omega) (by omega)]
    omega
  have ez : (nI z).toInt64.toInt = (z : Int) := by rw [Int32.toInt_toInt64, nI_toInt hz]
  unfold lg_cmp
  by_cases c : z < i + n
  · rw [if_pos c, if_pos (show (nI i).toInt64 + (nI n).toInt64 > (nI z).toInt64 from Int64.lt_iff_toInt_lt.mpr (by rw [e, ez]; omega))]
  · rw [if_neg c, if_neg (show ¬ (nI i).toInt64 + (nI n).toInt64 > (nI z).toInt64 from fun q => by have := Int64.lt_iff_toInt_lt.mp q; rw [e, ez] at this; omega)]
    by_cases d : i + n = z
    · rw [if_pos d, if_pos (Int64.toInt_inj.mp (by rw [e, ez]; omega))]
    · rw [if_neg d, if_neg (fun q => by have := congrArg Int64.toInt q; rw [e, ez] at this; omega)]
theorem C_rgN {q : Nat} (σ : Sto) {i n : Int32} (h : i < 0 ∨ n < 0) : F_X1_hasRange (40 + 2 * q) i n σ = some (0, σ) := by
  by_cases c : i < 0
  · rw [F_X1_hasRange, if_pos c]
  · rcases h with h | h
    · exact absurd h c
    · rw [F_X1_hasRange, if_neg c, if_pos h]
theorem C_rg {q z i n : Nat} (hq : q < 4) (hz : z ≤ 40) (hi : i < 2 ^ 31) (hn : n < 2 ^ 31) {σ : Sto} (h : σ (40 + 2 * q) 1 = nI z) : F_X1_hasRange (40 + 2 * q) (nI i) (nI n) σ = some (b2i (decide (i + n ≤ z)), σ) := by
  rw [F_X1_hasRange, if_neg (nI_pos hi), if_neg (nI_pos hn), kdS hq, ck_t, h]
  by_cases c : z < i
  · rw [if_pos ((nI_ltI (by omega) hi).mpr c), decide_eq_false (by omega)]; rfl
  · rw [if_neg (fun z => c ((nI_ltI (by omega) hi).mp z))]
    have e : (nI z - nI i).toInt = (z : Int) - i := by rw [Int32.toInt_sub, nI_toInt (by omega), nI_toInt hi, Int.bmod_eq_of_le (by omega) (by omega)]
    by_cases d : i + n ≤ z
    · rw [if_neg (fun q => by have := Int32.lt_iff_toInt_lt.mp q; rw [e, nI_toInt hn] at this; omega), decide_eq_true d]; rfl
    · rw [if_pos (Int32.lt_iff_toInt_lt.mpr (by rw [e, nI_toInt hn]; omega)), decide_eq_false d]; rfl
theorem n40k {q : Nat} (hq : q < 4) (i k : Nat) : 40 * nI q + nI i + nI k = nI (40 * q + i + k) := by rw [n40 hq, nI_add]
theorem M_cpB {b j n : Nat} (hb : b < 4) (hjn : j + n ≤ 40) (σ0 : Sto) : ∀ (d k u : Nat) (g : Row), k + d = n → d < u → (∀ x, 40 * b + j ≤ x → x < 40 * b + j + k → g x = σ0 60 (x - (40 * b + j))) → (∀ x, ¬ (40 * b + j ≤ x ∧ x < 40 * b + j + k) → g x = σ0 59 x) → lo5 F_X5_copy_b165 u 49 (nI b) (nI j) (nI n) (nI k) (up1 σ0 59 g) = some (nI n, up1 σ0 59 (va_cpy (σ0 60) (σ0 59) 0 (40 * b + j) n)) := by
  intro d
  induction d with
  | zero =>
    intro k u g hk hu h1 h2
    obtain ⟨u, rfl⟩ : ∃ q, u = q + 1 := ⟨u - 1, by omega⟩
    have e : g = va_cpy (σ0 60) (σ0 59) 0 (40 * b + j) n := by
      funext x
      unfold va_cpy
      by_cases c : 40 * b + j ≤ x ∧ x < 40 * b + j + n
      · rw [if_pos c, h1 x c.1 (by omega), Nat.zero_add]
      · rw [if_neg c, h2 x (by omega)]
    rw [lo5_s, F_X5_copy_b165, if_pos (show nI n ≤ nI k by rw [show k = n by omega]; exact Int32.le_refl _), e]
  | succ d ih =>
    intro k u g hk hu h1 h2
    obtain ⟨u, rfl⟩ : ∃ q, u = q + 1 := ⟨u - 1, by omega⟩
    rw [lo5_s, F_X5_copy_b165, if_neg (nI_lei (by omega) (by omega)), k49, ck_t, inr_nI (by omega) (by decide), ck_t, n40k hb, inr_nI (by omega) (by decide), ck_t, lts_e, nI_clamp (by omega), nI_clamp (by omega), up2_up1, up1_n (show ¬ 60 = 59 by decide), nI_1]
    refine ih (k + 1) u _ (by omega) (by omega) (fun x hx1 hx2 => ?_) (fun x hx => ?_)
    · rw [upd_i]
      by_cases c : x = 40 * b + j + k
      · rw [if_pos c, c, show 40 * b + j + k - (40 * b + j) = k by omega]
      · rw [if_neg c]; exact h1 x hx1 (by omega)
    · rw [upd_n (by omega)]; exact h2 x (by omega)
theorem M_cpA {a i b j n : Nat} (ha : a < 4) (hin : i + n ≤ 40) (hb : b < 4) (hjn : j + n ≤ 40) (σ0 : Sto) : ∀ (d k u : Nat) (g : Row), k + d = n → d < u → (∀ x, x < k → g x = σ0 59 (40 * a + i + x)) → ∃ g', (∀ x, x < n → g' x = σ0 59 (40 * a + i + x)) ∧ lo7 F_X5_copy_b128 u 49 (nI a) (nI i) (nI b) (nI j) (nI n) (nI k) (up1 σ0 60 g) = some (nI n, up1 (up1 σ0 60 g') 59 (va_cpy g' (σ0 59) 0 (40 * b + j) n)) := by
  intro d
  induction d with
  | zero =>
    intro k u g hk hu h1
    obtain ⟨u, rfl⟩ : ∃ q, u = q + 1 := ⟨u - 1, by omega⟩
    refine ⟨g, fun x hx => h1 x (by omega), ?_⟩
    rw [lo7_s, F_X5_copy_b128, if_pos (show nI n ≤ nI k by rw [show k = n by omega]; exact Int32.le_refl _)]
    have := M_cpB hb hjn (up1 σ0 60 g) n 0 1000 ((up1 σ0 60 g) 59) (by omega) (by omega) (fun x h1 h2 => absurd h2 (by omega)) (fun x _ => rfl)
    rw [up1_same rfl] at this
    refine this.trans ?_
    rw [up1_s, up1_n (show ¬ 59 = 60 by decide)]
  | succ d ih =>
    intro k u g hk hu h1
    obtain ⟨u, rfl⟩ : ∃ q, u = q + 1 := ⟨u - 1, by omega⟩
    obtain ⟨g', e1, e2⟩ := ih (k + 1) u (upd g k (σ0 59 (40 * a + i + k))) (by omega) (by omega) (fun x hx => by
      rw [upd_i]
      by_cases c : x = k
      · rw [if_pos c, c]
      · rw [if_neg c]; exact h1 x (by omega))
    refine ⟨g', e1, ?_⟩
    rw [lo7_s, F_X5_copy_b128, if_neg (nI_lei (by omega) (by omega)), k49, ck_t, n40k ha, inr_nI (by omega) (by decide), ck_t, inr_nI (by omega) (by decide), ck_t, lts_e, nI_clamp (by omega), nI_clamp (by omega), up2_up1, up1_n (show ¬ 59 = 60 by decide), nI_1]
    exact e2
theorem cp_ok {i j n : Nat} (h1 : i + n ≤ 40) (h2 : j + n ≤ 40) : cpok (nI i) (nI j) (nI n) 40 40 = true := by
  unfold cpok
  rw [decide_eq_true (nI_pos' (by omega)), decide_eq_true (nI_pos' (by omega)), decide_eq_true (nI_pos' (by omega)), nI_clamp (by omega), nI_clamp (by omega), nI_clamp (by omega), decide_eq_true h1, decide_eq_true h2]
  rfl
theorem op_copy (s i s2 j n : Int32) : Op (F_X4_copy 0 s i s2 j n) (F_X5_copy 49 s i s2 j n) := by
  intro K σ hK h
  have hS := h.2.2.1
  by_cases ha : inr s 4 = true
  · obtain ⟨a, ha4, rfl⟩ := inr_of ha
    obtain ⟨b1, z, b2, b3, b4, b5⟩ := hS a ha4
    by_cases hb : inr s2 4 = true
    · obtain ⟨b, hb4, rfl⟩ := inr_of hb
      obtain ⟨d1, y, d2, d3, d4, d5⟩ := hS b hb4
      by_cases wa : σ (40 + 2 * a) 0 = 0
      · refine op_e 5 (-1000006) (by decide) h ?_ (fun τ hτ => ?_)
        · rw [F_X4_copy, k04, ck_t, C_shS ha4, bnd_s, C_shS hb4, bnd_s, oc_s, oc_s, kdS ha4, ck_t, C_miss ha4, bnd_s, if_t (decide_eq_true wa), C_f5, bnd_s]
        · rw [F_X5_copy, M_isSheet, bnd_s, if_t ha, M_isSheet, bnd_s, if_t hb, k49, ck_t, inr_nI ha4 (by decide), ck_t, nI_clamp (by omega), hτ 57 (by decide), ← b1, if_pos wa, M_f5, bnd_s]
      by_cases wb : σ (40 + 2 * b) 0 = 0
      · refine op_e 5 (-1000006) (by decide) h ?_ (fun τ hτ => ?_)
        · rw [F_X4_copy, k04, ck_t, C_shS ha4, bnd_s, C_shS hb4, bnd_s, oc_s, oc_s, kdS ha4, ck_t, C_miss ha4, bnd_s, if_f (decide_eq_false wa), kdS hb4, ck_t, C_miss hb4, bnd_s, if_t (decide_eq_true wb), C_f5, bnd_s]
        · rw [F_X5_copy, M_isSheet, bnd_s, if_t ha, M_isSheet, bnd_s, if_t hb, k49, ck_t, inr_nI ha4 (by decide), ck_t, nI_clamp (by omega), hτ 57 (by decide), ← b1, if_neg wa, inr_nI hb4 (by decide), ck_t, nI_clamp (by omega), ← d1, if_pos wb, M_f5, bnd_s]
      by_cases we : σ (40 + 2 * a) 0 = σ (40 + 2 * b) 0
      · have c0 : F_X4_copy 0 (nI a) i (nI b) j n σ = bnd (F_X1_hasRange (40 + 2 * a) i n σ) (fun xr32 xσ30 => if (xr32) = 0 then some (-1000001, fnd 0 xσ30) else bnd (F_X1_hasRange (40 + 2 * b) j n xσ30) (fun xr39 xσ37 => if (xr39) = 0 then some (-1000001, fnd 0 xσ37) else ck (cpok i j n 40 40) (some (n, up1 xσ37 (40 + 2 * b + 1) (va_cpy (xσ37 (40 + 2 * a + 1)) (xσ37 (40 + 2 * b + 1)) i.toNatClampNeg j.toNatClampNeg n.toNatClampNeg))))) := by
          rw [F_X4_copy, k04, ck_t, C_shS ha4, bnd_s, C_shS hb4, bnd_s, oc_s, oc_s, kdS ha4, ck_t, C_miss ha4, bnd_s, if_f (decide_eq_false wa), kdS hb4, ck_t, C_miss hb4, bnd_s, if_f (decide_eq_false wb), if_pos we]
          congr 1
        have m0 : ∀ τ : Sto, (∀ k, 49 ≤ k → τ k = σ k) → F_X5_copy 49 (nI a) i (nI b) j n τ = if i < 0 then some (-1000001, fndM 0 τ) else if j < 0 then some (-1000001, fndM 0 τ) else if n < 0 then some (-1000001, fndM 0 τ) else if 0 < lg_cmp (i.toInt64 + n.toInt64) (nI z).toInt64 then some (-1000001, fndM 0 τ) else if lg_cmp (j.toInt64 + n.toInt64) (nI y).toInt64 ≤ 0 then lo7 F_X5_copy_b128 1000 49 (nI a) i (nI b) j n 0 τ else some (-1000001, fndM 0 τ) := by
          intro τ hτ
          rw [F_X5_copy, M_isSheet, bnd_s, if_t ha, M_isSheet, bnd_s, if_t hb, k49, ck_t, inr_nI ha4 (by decide), ck_t, nI_clamp (by omega), hτ 57 (by decide), ← b1, if_neg wa, inr_nI hb4 (by decide), ck_t, nI_clamp (by omega), ← d1, if_neg wb, ck_t, ck_t, if_pos we, M_f0, bnd_s, ck_t, hτ 58 (by decide), b4, ck_t, d4]
        by_cases gi : i < 0
        · refine op_e0 h ?_ (fun τ hτ => by rw [m0 τ hτ, if_pos gi])
          rw [c0, C_rgN σ (Or.inl gi), bnd_s, if_pos rfl]
        by_cases gn : n < 0
        · refine op_e0 h ?_ (fun τ hτ => by rw [m0 τ hτ, if_neg gi, if_pos gn, ite_self])
          rw [c0, C_rgN σ (Or.inr gn), bnd_s, if_pos rfl]
        obtain ⟨i, hi, rfl⟩ := nI_of gi
        obtain ⟨n, hn, rfl⟩ := nI_of gn
        by_cases r1 : i + n ≤ z
        · by_cases gj : j < 0
          · refine op_e0 h ?_ (fun τ hτ => by rw [m0 τ hτ, if_neg gi, if_pos gj])
            rw [c0, C_rg ha4 b2 hi hn b3, bnd_s, if_t (decide_eq_true r1), C_rgN σ (Or.inl gj), bnd_s, if_pos rfl]
          obtain ⟨j, hj, rfl⟩ := nI_of gj
          have l1 : ¬ (0 : Int32) < lg_cmp ((nI i).toInt64 + (nI n).toInt64) (nI z).toInt64 := by
            rw [lgc hi hn (by omega), if_neg (by omega)]
            by_cases c : i + n = z
            · rw [if_pos c]; decide
            · rw [if_neg c]; decide
          by_cases r2 : j + n ≤ y
          · have l2 : lg_cmp ((nI j).toInt64 + (nI n).toInt64) (nI y).toInt64 ≤ 0 := by
              rw [lgc hj hn (by omega), if_neg (by omega)]
              by_cases c : j + n = y
              · rw [if_pos c]; decide
              · rw [if_neg c]; decide
            have ec : F_X4_copy 0 (nI a) (nI i) (nI b) (nI j) (nI n) σ = some (nI n, up1 σ (40 + 2 * b + 1) (va_cpy (σ (40 + 2 * a + 1)) (σ (40 + 2 * b + 1)) i j n)) := by
              rw [c0, C_rg ha4 b2 hi hn b3, bnd_s, if_t (decide_eq_true r1), C_rg hb4 d2 hj hn d3, bnd_s, if_t (decide_eq_true r2), cp_ok (by omega) (by omega), ck_t, nI_clamp (by omega), nI_clamp (by omega), nI_clamp (by omega)]
            generalize hσ1 : up1 σ (40 + 2 * b + 1) (va_cpy (σ (40 + 2 * a + 1)) (σ (40 + 2 * b + 1)) i j n) = σ1 at ec
            have o1 : ∀ k, ¬ k = 40 + 2 * b + 1 → σ1 k = σ k := fun k hk => by rw [← hσ1, up1_n hk]
            obtain ⟨g', eg, em⟩ := M_cpA ha4 (i := i) (n := n) (by omega) hb4 (j := j) (by omega) σ1 n 0 1000 (σ1 60) (by omega) (by omega) (fun x hx => absurd hx (by omega))
            rw [up1_same rfl] at em
            refine ⟨nI n, σ1, up1 (up1 σ1 60 g') 59 (va_cpy g' (σ1 59) 0 (40 * b + j) n), ec, ?_, ?_⟩
            · rw [m0 σ1 (fun k hk => o1 k (by omega)), if_neg gi, if_neg gj, if_neg gn, if_neg l1, if_pos l2]
              exact em
            · refine Rel_sh h (fun k p1 p2 p3 p4 p5 => by rw [up1_n p4, up1_n p5, o1 k (by omega)]) (fun s hs' => ?_)
              obtain ⟨u1, z2, u2, u3, u4, u5⟩ := hS s hs'
              rw [up1_n (show ¬ 40 + 2 * s = 59 by omega), up1_n (show ¬ 40 + 2 * s = 60 by omega), up1_n (show ¬ 57 = 59 by decide), up1_n (show ¬ 57 = 60 by decide), up1_n (show ¬ 58 = 59 by decide), up1_n (show ¬ 58 = 60 by decide), up1_n (show ¬ 40 + 2 * s + 1 = 59 by omega), up1_n (show ¬ 40 + 2 * s + 1 = 60 by omega), up1_s, o1 57 (by omega), o1 58 (by omega), o1 59 (by omega), o1 (40 + 2 * s) (by omega)]
              refine ⟨u1, z2, u2, u3, u4, fun x hx => ?_⟩
              by_cases e : s = b
              · subst e
                rw [← hσ1, up1_s]
                unfold va_cpy
                by_cases c : j ≤ x ∧ x < j + n
                · rw [if_pos c, if_pos (by omega), show 0 + (40 * s + x - (40 * s + j)) = x - j by omega, eg _ (by omega), o1 59 (by omega), b5 _ (by omega), show 40 * a + (i + (x - j)) = 40 * a + i + (x - j) by omega]
                · rw [if_neg c, if_neg (by omega)]; exact u5 x hx
              · rw [o1 _ (by omega)]
                unfold va_cpy
                rw [if_neg (by omega)]
                exact u5 x hx
          · have l2 : ¬ lg_cmp ((nI j).toInt64 + (nI n).toInt64) (nI y).toInt64 ≤ 0 := by
              rw [lgc hj hn (by omega), if_pos (by omega)]; decide
            refine op_e0 h ?_ (fun τ hτ => by rw [m0 τ hτ, if_neg gi, if_neg gj, if_neg gn, if_neg l1, if_neg l2])
            rw [c0, C_rg ha4 b2 hi hn b3, bnd_s, if_t (decide_eq_true r1), C_rg hb4 d2 hj hn d3, bnd_s, if_f (decide_eq_false r2)]
        · have l1 : (0 : Int32) < lg_cmp ((nI i).toInt64 + (nI n).toInt64) (nI z).toInt64 := by
            rw [lgc hi hn (by omega), if_pos (by omega)]; decide
          refine op_e0 h ?_ (fun τ hτ => by rw [m0 τ hτ, if_neg gi, if_neg gn, if_pos l1, ite_self])
          rw [c0, C_rg ha4 b2 hi hn b3, bnd_s, if_f (decide_eq_false r1)]
      · refine op_e 2 (-1000003) (by decide) h ?_ (fun τ hτ => ?_)
        · rw [F_X4_copy, k04, ck_t, C_shS ha4, bnd_s, C_shS hb4, bnd_s, oc_s, oc_s, kdS ha4, ck_t, C_miss ha4, bnd_s, if_f (decide_eq_false wa), kdS hb4, ck_t, C_miss hb4, bnd_s, if_f (decide_eq_false wb), if_neg we, C_f2, bnd_s]
        · rw [F_X5_copy, M_isSheet, bnd_s, if_t ha, M_isSheet, bnd_s, if_t hb, k49, ck_t, inr_nI ha4 (by decide), ck_t, nI_clamp (by omega), hτ 57 (by decide), ← b1, if_neg wa, inr_nI hb4 (by decide), ck_t, nI_clamp (by omega), ← d1, if_neg wb, ck_t, ck_t, if_neg we, M_f2, bnd_s]
    · refine op_e0 h ?_ (fun τ hτ => ?_)
      · rw [F_X4_copy, k04, ck_t, C_shS ha4, bnd_s, C_sheetAt, if_neg hb, bnd_s, oc_s, oc_n, C_f0, bnd_s]
      · rw [F_X5_copy, M_isSheet, bnd_s, if_t ha, M_isSheet, bnd_s, if_f (wi_f hb), k49, ck_t, M_f0, bnd_s]
  · refine op_e0 h ?_ (fun τ hτ => ?_)
    · rw [F_X4_copy, k04, ck_t, C_sheetAt, if_neg ha, bnd_s, C_sheetAt, bnd_s, oc_n, C_f0, bnd_s]
    · rw [F_X5_copy, M_isSheet, bnd_s, if_f (wi_f ha), k49, ck_t, M_f0, bnd_s]

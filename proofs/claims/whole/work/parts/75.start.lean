/-! THE LAW: its start -/
def FLx : List Cond := flatC (Jvm.Cond.and given_1 narrow_1)
def sxI (i : Nat) : Nat := [134, 122, 124, 126, 128, 130, 132, 148, 142, 144, 146, 50, 140, 136, 138].getD i 0
def sxM (i : Nat) : Nat := [27, 29, 31, 33, 35, 37, 39, 287, 296, 298, 300, 308, 313, 318, 320].getD i 0
def sxP (i : Nat) : Nat := [71, 21, 30, 41, 48, 55, 63, 108, 81, 90, 99, 116, 143, 125, 134].getD i 0
def sxE (i : Nat) : Nat := [162, 172, 184, 192, 200, 209, 218, 227, 237, 247, 257, 267, 277, 287, 297].getD i 0
def sxT (i : Nat) : Term := .string RX3 (sxI i)
def sxV (i : Nat) : Term := .field (sxT i) "java/lang/String" "value" "[B"
theorem sx_w : ∀ i, i < 15 → FLx[sxP i]? = some (.exactly (sxT i) "java/lang/String") ∧ FLx[sxP i + 1]? = some (.eq (.field (sxT i) "java/lang/String" "coder" "B") (.int 0)) ∧ FLx[sxP i + 2]? = some (.arrayOf (sxV i) .byte) ∧ FLx[sxP i + 3]? = some (.eq (.length (sxV i)) (.int (Int32.ofNat (bytJ.getD i []).length))) ∧ FLx[sxE i]? = some (.eq (sxT i) (.string RX5 (sxM i))) ∧ ∀ j, j < (bytJ.getD i []).length → FLx[sxP i + 4 + j]? = some (.eq (.elem (sxV i) (.int (Int32.ofNat j))) (.int ((bytJ.getD i []).getD j 0))) := by decide +kernel
theorem sx_4 : FLx[4]? = some (.eq (.static "java/lang/String" "COMPACT_STRINGS" "Z") (.int 1)) ∧ FLx[5]? = some (.isRef (.static "jdk/internal/util/Preconditions" "SIOOBE_FORMATTER" "Ljava/util/function/BiFunction;")) := by decide +kernel
theorem sx_s : ∀ q ∈ sitesJ, (q.1 = RX3 ∧ q.2.1 = sxI q.2.2.2 ∨ q.1 = RX5 ∧ q.2.1 = sxM q.2.2.2) ∧ q.2.2.2 < 15 := by decide +kernel
theorem eq_ref {args : Array Value} {s : State} {t u : Term} {a : Nat} (h : (Cond.eq t u).before args s = true) (ht : t.eval args s none [] s = some (.ref a)) : u.eval args s none [] s = some (.ref a) := by
  cases hv : u.eval args s none [] s with
  | none => simp [Cond.before, Cond.holds, Cond.value, ht, hv] at h
  | some w =>
    simp only [Cond.before, Cond.holds, Cond.value, ht, hv] at h
    cases w <;> simp_all
theorem sx_1 {args : Array Value} {s : State} {A : Nat → Prop} (hs : ∀ w ∈ FLx, w.before args s = true) (hA : ∀ a : Nat, a < s.heap.size → ¬ A a) (i : Nat) (hi : i < 15) : ∃ q : Nat × Nat, (sxT i).eval args s none [] s = some (.ref q.1) ∧ va_O "java/lang/String" q.1 A s s.heap ∧ va_OF "java/lang/String" "coder" "B" (.int 0) q.1 A s s.heap ∧ va_OF "java/lang/String" "value" "[B" (.ref q.2) q.1 A s s.heap ∧ va_T .byte q.2 ((bytJ.getD i []).length) (fun j => .int ((bytJ.getD i []).getD j 0)) A s s.heap := by
  obtain ⟨w1, w2, w3, w4, w5, w6⟩ := sx_w i hi
  have m := fun {n : Nat} {w : Cond} (h : FLx[n]? = some w) => hs w (List.mem_of_getElem? h)
  obtain ⟨a, c, cA, kA, q1, q2, q3, q4, q5, q6, -⟩ := Cond.exactly_spec (args := args) (first := s) (o := none) (s := s) (idx := []) (t := sxT i) (cls := "java/lang/String") (m w1)
  obtain ⟨t, ht, hT⟩ := va_Tof (f := fun j => .int ((bytJ.getD i []).getD j 0)) (A := A) (Nat.lt_trans (jb_len i hi) (by decide)) (m w3) (va_eqt (m w4)) (fun j hj => va_eqt (m (w6 j hj))) hA
  exact ⟨(a, t), q1, ⟨cA, q3, q5, by rw [q6]; exact q2, hA a (Array.getElem?_eq_some_iff.mp q3).1⟩, vk_OFof q1 (va_eqt (m w2)) hA, vk_OFof q1 ht hA, hT⟩
theorem tbl_3 {w : Cond} (i : Nat) (h : tables_1_3[i]? = some w) : w ∈ lw_tbl := List.mem_append_right _ (List.mem_append_right _ (List.mem_append_right _ (List.mem_append_left _ (List.mem_of_getElem? h))))
theorem tbl_1 {w : Cond} (i : Nat) (h : tables_1_1[i]? = some w) : w ∈ lw_tbl := List.mem_append_right _ (List.mem_append_left _ (List.mem_of_getElem? h))
theorem tbl_4 {w : Cond} (i : Nat) (h : tables_1_4[i]? = some w) : w ∈ lw_tbl := List.mem_append_right _ (List.mem_append_right _ (List.mem_append_right _ (List.mem_append_right _ (List.mem_append_left _ (List.mem_of_getElem? h)))))
theorem sx_r : ∀ q ∈ sitesJ, Cond.stringRef q.1 q.2.1 q.2.2.1 ∈ tables_1 := by decide +kernel
section LAWL
variable {x : XT} {y : YT} {A : Nat → Prop} {Z : State → Prop} {b L : Nat} {xs : Nat → Int32}
theorem law_loop (C : Cx x y A RL cL_law 4 room_1) (X : SX x A b L xs) (hL : L ≤ 3072) (kk : ∀ σ Q, GW x y A 4 Z 1524 (LV y b Q) [.int 1] σ) : ∀ (n Q : Nat) (σ : Sto), 6 * Q ≤ L → L + 6 ≤ 6 * Q + 6 * n → Rel Q σ → GW x y A 4 Z 18 (LV y b Q) [] σ := by
  intro n
  induction n with
  | zero => intro Q σ h1 h2 _; exact absurd h2 (by omega)
  | succ n ih =>
    intro Q σ h1 h2 hR
    refine g_iload_n (pc := 18) C dL_law_18 rfl 0 rfl ?_
    refine g_aload_n (pc := 19) C dL_law_19 rfl 3 rfl ?_
    refine g_slen (pc := 20) C X dL_law_20 ?_
    refine g_bipush (v := 6) (pc := 21) C dL_law_21 (by decide) ?_
    refine g_isub (pc := 23) C dL_law_23 ?_
    refine g_icmp_gt (pc := 24) (tgt := 1523) C dL_law_24 rfl (fun _ => ?_) (fun h => ?_)
    · refine g_iconst (v := 1) (pc := 1523) C dL_law_1523 (by decide) ?_
      exact kk σ Q
    · have hQ : 6 * Q + 6 ≤ L := by
        rw [Int32.lt_iff_toInt_lt, nI_toInt (by omega), show (nI L - 6).toInt = (L : Int) - 6 from pk_sub_toInt (b := 6) (by omega) (by decide)] at h
        omega
      refine g_aload_n (pc := 27) C dL_law_27 rfl 3 rfl ?_
      refine g_iload_n (pc := 28) C dL_law_28 rfl 0 rfl ?_
      refine g_sld (pc := 29) C X (by omega) hL dL_law_29 ?_
      refine g_bipush (v := 63) (pc := 30) C dL_law_30 (by decide) ?_
      refine g_iand (pc := 32) C dL_law_32 ?_
      refine law_case C X hQ hL hR (fun σ2 hR2 => ?_) _
      refine g_iinc (pc := 1517) (w := nI (6 * (Q + 1))) (lv' := LV y b (Q + 1)) C dL_law_1517 (k := 0) rfl (show nI (6 * Q) + nI 6 = nI (6 * (Q + 1)) by rw [nI_add]; rfl) (by decide) rfl ?_
      refine g_goto (pc := 1520) (tgt := 18) C dL_law_1520 rfl ?_
      exact ih (Q + 1) σ2 (by omega) (by omega) hR2
theorem law_pre (C : CK x y A RL cL_law 4 room_1 false) (kk : ∀ (h : Nat) (b1 b2 b3 : Nat → Nat) (qt at_ k : Nat) (z0 z1 z2 z3 : Nat × Nat) (f g a1 a2 a3 a4 a5 K a7 a8 a9 a10 a11 : Nat), GK x y A 4 Z 18 [(3, .int 0), (2, .ref g), (1, .ref h), (0, .ref b)] [] (fW y h b1 b2 b3 qt at_ k z0 z1 z2 z3 f ++ mW y g a1 a2 a3 a4 a5 K a7 a8 a9 a10 a11) 61 2028) : GK x y A 4 Z 0 [(0, .ref b)] [] [] 0 0 := by
  refine k_new (pc := 0) (ci := 4) (cn := RX4) (T := TX4) (N := 7) (fs := [.null, .null, .null, .int 0, .null, .null, .null]) (kc' := 1) (ks' := 7) C tyX4 tyX4_ok wl_L_7 wa_X4 wn_X4 dL_law_0 rfl inT4 (fun j hj => by rcases (show j = 0 ∨ j = 1 ∨ j = 2 ∨ j = 3 ∨ j = 4 ∨ j = 5 ∨ j = 6 by omega) with rfl | rfl | rfl | rfl | rfl | rfl | rfl <;> rfl) (Nat.le_of_ble_eq_true rfl) (Nat.le_of_ble_eq_true rfl) ⟨Nat.le_of_ble_eq_true rfl, Nat.le_of_ble_eq_true rfl⟩ (fun h => ?_)
  refine k_dup (pc := 3) C dL_law_3 rfl ?_
  refine k_callN (pc := 4) (kc' := 49) (ks' := 586) C dL_law_4 (fun l sz => n_X4_init l y h sz) wm_L_9 wi_X4_init wn_X4 wc_X4_init rfl (hd_i _ (by decide) (by decide)) ⟨Nat.le_of_ble_eq_true rfl, Nat.le_of_ble_eq_true rfl⟩ rfl (Nat.le_of_ble_eq_true rfl) (Nat.le_of_ble_eq_true rfl) (Nat.le_of_ble_eq_true rfl) ⟨Nat.le_of_ble_eq_true rfl, Nat.le_of_ble_eq_true rfl⟩ (fun w hw => ?_)
  obtain ⟨b1, b2, b3, qt, at_, k, z0, z1, z2, z3, f, rfl⟩ := hw
  refine k_astore_n (pc := 7) (lv' := [(1, .ref h), (0, .ref b)]) C dL_law_7 rfl (by decide) rfl ?_
  refine k_new (pc := 8) (ci := 5) (cn := RX5) (T := TX5) (N := 22) (fs := [.null, .null, .null, .int 0, .null, .int 0, .int 0, .null, .int 0, .int 0, .int 0, .int 0, .int 0, .int 0, .null, .null, .int 0, .int 0, .null, .null, .null, .null]) (kc' := 50) (ks' := 608) C tyX5 tyX5_ok wl_L_10 wa_X5 wn_X5 dL_law_8 rfl inT5 (fun j hj => by rcases (show j = 0 ∨ j = 1 ∨ j = 2 ∨ j = 3 ∨ j = 4 ∨ j = 5 ∨ j = 6 ∨ j = 7 ∨ j = 8 ∨ j = 9 ∨ j = 10 ∨ j = 11 ∨ j = 12 ∨ j = 13 ∨ j = 14 ∨ j = 15 ∨ j = 16 ∨ j = 17 ∨ j = 18 ∨ j = 19 ∨ j = 20 ∨ j = 21 by omega) with rfl | rfl | rfl | rfl | rfl | rfl | rfl | rfl | rfl | rfl | rfl | rfl | rfl | rfl | rfl | rfl | rfl | rfl | rfl | rfl | rfl | rfl <;> rfl) (Nat.le_of_ble_eq_true rfl) (Nat.le_of_ble_eq_true rfl) ⟨Nat.le_of_ble_eq_true rfl, Nat.le_of_ble_eq_true rfl⟩ (fun g => ?_)
  refine k_dup (pc := 11) C dL_law_11 rfl ?_
  refine k_callN (pc := 12) (kc' := 61) (ks' := 2028) C dL_law_12 (fun l sz => n_X5_init l y g sz) wm_L_12 wi_X5_init wn_X5 wc_X5_init rfl (hd_i _ (by decide) (by decide)) ⟨Nat.le_of_ble_eq_true rfl, Nat.le_of_ble_eq_true rfl⟩ rfl (Nat.le_of_ble_eq_true rfl) (Nat.le_of_ble_eq_true rfl) (Nat.le_of_ble_eq_true rfl) ⟨Nat.le_of_ble_eq_true rfl, Nat.le_of_ble_eq_true rfl⟩ (fun w hw => ?_)
  obtain ⟨a1, a2, a3, a4, a5, K, a7, a8, a9, a10, a11, rfl⟩ := hw
  refine k_astore_n (pc := 15) (lv' := [(2, .ref g), (1, .ref h), (0, .ref b)]) C dL_law_15 rfl (by decide) rfl ?_
  refine k_iconst (v := 0) (pc := 16) C dL_law_16 (by decide) ?_
  refine k_istore_n (pc := 17) (lv' := [(3, .int 0), (2, .ref g), (1, .ref h), (0, .ref b)]) C dL_law_17 rfl (by decide) rfl ?_
  exact kk h b1 b2 b3 qt at_ k z0 z1 z2 z3 f g a1 a2 a3 a4 a5 K a7 a8 a9 a10 a11
end LAWL
theorem arr_i {args : Array Value} {s : State} (h : (Cond.arrayClass .int).before args s = true) : ∃ cA : ClassId, ArrOfT s cA .int ∧ va_RA s cA .int := by
  obtain ⟨cA, kA, comp, h1, h2, h3⟩ := Cond.arrayClass_spec (args := args) (first := s) (o := none) (s := s) (idx := []) h
  exact ⟨cA, fun N z => ⟨(fun k h => by cases h), kA, h2, comp, h3⟩, h1⟩
theorem arr_o {args : Array Value} {s : State} {C : String} (h : (Cond.arrayOver (.object C)).before args s = true) : ∃ cA : ClassId, ArrOfT s cA (.object C) ∧ va_RA s cA (.object C) := by
  obtain ⟨comp, cA, kA, h1, h2, h3, h4, h5⟩ := Cond.arrayOver_spec (args := args) (first := s) (o := none) (s := s) (idx := []) h
  exact ⟨cA, fun N z => ⟨(fun k h => by cases h), kA, h3, comp, h4⟩, kA, comp, h3, h4, h1, h5⟩
/-- YOUR PART: from the entry, for every script of at most 3072 ints, the law comes to its end with true -/
theorem whole_start {p : Program} {e : Env} {s : State} {m : MethodId} {below : List Frame} {meth : Method} {c : Code} (l : Launch) (hflags : l.flags = flags0) {b L : Nat} {xs : Nat → Int32} (hL : L ≤ 3072) (C0 : lw_At p s m meth c b L xs) : W p l e room_1 s m #[Value.ref b] below meth c s.heap [] 0 0 (lw_Z below #[Value.ref b] s) (entryFrame m ([Value.ref b] : List Value).toArray 4) := by
  obtain ⟨hx, hb, hr, hml, hown, hts, hX, hbl, hlocks, hgv⟩ := id C0
  have htt : ∀ w ∈ TT, w.before #[Value.ref b] s = true := fun w hw => hts w (tt_tbl w hw)
  have hs : ∀ w ∈ FLx, w.before #[Value.ref b] s = true := flat_of_before _ hgv
  obtain ⟨A, hAe⟩ : ∃ A : Nat → Prop, A = fun q => s.heap.size ≤ q := ⟨_, rfl⟩
  have hA : ∀ q : Nat, s.heap.size ≤ q → A q := fun q h => by rw [hAe]; exact h
  have hA2 : ∀ a : Nat, a < s.heap.size → ¬ A a := fun a h => by rw [hAe]; exact Nat.not_le.mpr h
  have hA3 : ∀ q : Nat, A q → s.heap.size ≤ q := fun q h => by rw [hAe] at h; exact h
  -- the classes
  obtain ⟨c0, i0, k0⟩ := u_known (C := RX0) (T := TX0) (N := 10) (n := 10) htt inT0 (htt _ wa_X0)
  obtain ⟨c1, i1, k1⟩ := u_known (C := RX1) (T := TX1) (N := 3) (n := 3) htt inT1 (htt _ wa_X1)
  obtain ⟨c2, i2, k2⟩ := u_known (C := RX2) (T := TX2) (N := 7) (n := 7) htt inT2 (htt _ wa_X2)
  obtain ⟨c3, i3, k3⟩ := u_known (C := RX3) (T := TX3) (N := 6) (n := 6) htt inT3 (htt _ wa_X3)
  obtain ⟨c4, i4, k4⟩ := u_known (C := RX4) (T := TX4) (N := 7) (n := 7) htt inT4 (htt _ wa_X4)
  obtain ⟨c5, i5, k5⟩ := u_known (C := RX5) (T := TX5) (N := 22) (n := 22) htt inT5 (htt _ wa_X5)
  obtain ⟨dC, dI, hKc⟩ : ∃ (dC : Nat → ClassId) (dI : Nat → Nat → Nat), ∀ (k : Nat) (q : vw_C), vwCl[k]? = some q → u_Kn s q.1 q.2.1 q.2.2 (dC k) (dI k) := by
    refine ⟨fun k => if k = 0 then c0 else if k = 1 then c1 else if k = 2 then c2 else if k = 3 then c3 else if k = 4 then c4 else c5, fun k => if k = 0 then i0 else if k = 1 then i1 else if k = 2 then i2 else if k = 3 then i3 else if k = 4 then i4 else i5, ?_⟩
    intro k q hq
    have hk : k < 6 := (List.getElem?_eq_some_iff.mp hq).1
    rcases (show k = 0 ∨ k = 1 ∨ k = 2 ∨ k = 3 ∨ k = 4 ∨ k = 5 by omega) with rfl | rfl | rfl | rfl | rfl | rfl
    · cases hq; exact k0
    · cases hq; exact k1
    · cases hq; exact k2
    · cases hq; exact k3
    · cases hq; exact k4
    · cases hq; exact k5
  -- the rows' classes
  have o2 : (Cond.arrayOver (.object RX2)).before #[Value.ref b] s = true := hts _ (tbl_1 29 (by decide +kernel))
  have o1 : (Cond.arrayOver (.object RX1)).before #[Value.ref b] s = true := hts _ (tbl_1 138 (by decide +kernel))
  have oJ : (Cond.arrayOver (.object RJ0)).before #[Value.ref b] s = true := hts _ (tbl_4 44 (by decide +kernel))
  obtain ⟨tI, tI1, tI2⟩ := arr_i (htt _ wac_int)
  obtain ⟨t2, t21, t22⟩ := arr_o o2
  obtain ⟨t1, t11, t12⟩ := arr_o o1
  obtain ⟨tJ, tJ1, tJ2⟩ := arr_o oJ
  -- the literals
  have h0 : ∀ i : Nat, ∃ q : Nat × Nat, i < 15 → (sxT i).eval #[Value.ref b] s none [] s = some (.ref q.1) ∧ va_O "java/lang/String" q.1 A s s.heap ∧ va_OF "java/lang/String" "coder" "B" (.int 0) q.1 A s s.heap ∧ va_OF "java/lang/String" "value" "[B" (.ref q.2) q.1 A s s.heap ∧ va_T .byte q.2 ((bytJ.getD i []).length) (fun j => .int ((bytJ.getD i []).getD j 0)) A s s.heap := by
    intro i
    by_cases hi : i < 15
    · obtain ⟨q, hq⟩ := sx_1 hs hA2 i hi
      exact ⟨q, fun _ => hq⟩
    · exact ⟨(0, 0), fun h => absurd h hi⟩
  obtain ⟨ad, had⟩ := Classical.axiomOfChoice h0
  obtain ⟨y, hy⟩ : ∃ y : YT, y = ((dC, dI), (tI, t2, t1, tJ), (fun k => (ad (k - 100)).1), (fun i => (ad i).2)) := ⟨_, rfl⟩
  have ya : ∀ i, yad y (100 + i) = (ad i).1 := fun i => by rw [hy]; show (ad (100 + i - 100)).1 = _; rw [Nat.add_sub_cancel_left]
  have yv : ∀ i, yaV y i = (ad i).2 := fun i => by rw [hy]
  have hK : va_K (yD y) vwCl (tysL y) s := by
    rw [hy]
    refine ⟨hKc, fun k q hk => ?_⟩
    have hk4 : k < 4 := (List.getElem?_eq_some_iff.mp hk).1
    rcases (show k = 0 ∨ k = 1 ∨ k = 2 ∨ k = 3 by omega) with rfl | rfl | rfl | rfl
    · cases hk; exact ⟨tI1, tI2⟩
    · cases hk; exact ⟨t21, t22⟩
    · cases hk; exact ⟨t11, t12⟩
    · cases hk; exact ⟨tJ1, tJ2⟩
  have hO : Ovr s := ⟨va_AO.of o2, va_AO.of o1, va_AO.of oJ⟩
  have hStr : StrOK y A s s.heap := by
    refine ⟨fun i hi => ?_, va_Zof (hts _ (tbl_3 124 (by decide +kernel))) (htt _ wn_J0) (va_eqt (hs _ (List.mem_of_getElem? sx_4.1))) hA2, va_Zqof (hts _ (tbl_3 140 (by decide +kernel))) (htt _ wn_J3) (hs _ (List.mem_of_getElem? sx_4.2)) hA2⟩
    rw [ya, yv]
    exact (had i hi).2
  have hSit : SitOK y s := by
    intro q hq
    obtain ⟨hq1, hq15⟩ := sx_s q hq
    have w := hts _ (List.mem_append_right _ (sx_r q hq))
    rw [ya]
    refine vk_R.of w ?_
    rcases hq1 with ⟨e1, e2⟩ | ⟨e1, e2⟩
    · rw [e1, e2]
      exact (had _ hq15).1
    · rw [e1, e2]
      exact eq_ref (hs _ (List.mem_of_getElem? (sx_w _ hq15).2.2.2.2.1)) (had _ hq15).1
  have CK0 : CK (p, l, e, room_1, s, m, #[Value.ref b], below, meth, c, 61, 2028) y A RL cL_law 4 room_1 false := ⟨hx, hb, hml, hown, htt, rfl, hlocks, fun h => absurd h (by decide), hK, hO, hStr, hSit, hA⟩
  have main : GK (p, l, e, room_1, s, m, #[Value.ref b], below, meth, c, 61, 2028) y A 4 (lw_Z below #[Value.ref b] s) 0 [(0, .ref b)] [] [] 0 0 := by
    refine law_pre CK0 (fun h b1 b2 b3 qt at_ k z0 z1 z2 z3 f g a1 a2 a3 a4 a5 K a7 a8 a9 a10 a11 => ?_)
    have hw := w_all y h b1 b2 b3 qt at_ k z0 z1 z2 z3 f g a1 a2 a3 a4 a5 K a7 a8 a9 a10 a11
    obtain ⟨l1, hl1⟩ : ∃ l1, l1 = [h, b1 0, b1 1, b1 2, b1 3, b1 4, b1 5, b1 6, b1 7, b1 8, b1 9, b1 10, b1 11, b2 0, b2 1, b2 2, b2 3, b2 4, b2 5, b2 6, b2 7, b2 8, b2 9, b2 10, b2 11, b3 0, b3 1, b3 2, b3 3, b3 4, b3 5, b3 6, b3 7, b3 8, b3 9, b3 10, b3 11, qt, at_, k, z0.1, z0.2, z1.1, z1.2, z2.1, z2.2, z3.1, z3.2, f, g, a1, a2, a3, a4, a5, K, a7, a8, a9, a10, a11] := ⟨_, rfl⟩
    obtain ⟨y1, hy1⟩ : ∃ y1 : YT, y1 = (yD y, yC y, adF l1 (yad y), yaV y) := ⟨_, rfl⟩
    have hw : eqW (fW y h b1 b2 b3 qt at_ k z0 z1 z2 z3 f ++ mW y g a1 a2 a3 a4 a5 K a7 a8 a9 a10 a11) (Wl y1 sg0) := by rw [hy1, hl1]; exact hw
    have y0 : yad y1 0 = h := by rw [hy1, hl1]; rfl
    have y49 : yad y1 49 = g := by rw [hy1, hl1]; rfl
    intro H locs ls hP hD hS hl
    have hP1 : va_P (yD y1) vwCl (Wl y1 sg0) H := by
      have := conv_P hw hP
      rw [show yD y1 = yD y by rw [hy1]]
      exact this
    have hD1 := conv_D hw hD
    have ya1 : ∀ i, yad y1 (100 + i) = yad y (100 + i) := fun i => by rw [hy1]; exact adF_s _ _ i
    have yv1 : ∀ i, yaV y1 i = yaV y i := fun i => by rw [hy1]
    have hStr1 : StrOK y1 A s s.heap := ⟨fun i hi => by rw [ya1, yv1]; exact hStr.1 i hi, hStr.2⟩
    have hSit1 : SitOK y1 s := fun q hq => by rw [ya1]; exact hSit q hq
    have hK1 : va_K (yD y1) vwCl (tysL y1) s := by rw [hy1]; exact hK
    have hY1 : Yok y1 := fun i j hi hj hij => hD1.1 i j _ _ (Wl_at y1 sg0 hi) (Wl_at y1 sg0 hj) hij
    have hAd : ∀ k : Nat, k < 61 → A (yad y1 k) := fun k hk => hD1.2 k _ (Wl_at y1 sg0 hk)
    have C1 : Cx (p, l, e, room_1, s, m, #[Value.ref b], below, meth, c, 61, 2028) y1 A RL cL_law 4 room_1 := ⟨hx, hb, hml, hown, htt, rfl, Nat.le_of_ble_eq_true rfl, Nat.le_of_ble_eq_true rfl, hlocks, hK1, hY1, hAd, hStr1, hSit1⟩
    have X1 : SX (p, l, e, room_1, s, m, #[Value.ref b], below, meth, c, 61, 2028) A b L xs := ⟨hX, hbl, hA2 b hbl⟩
    have hend : ∀ σ Q, GW (p, l, e, room_1, s, m, #[Value.ref b], below, meth, c, 61, 2028) y1 A 4 (lw_Z below #[Value.ref b] s) 1524 (LV y1 b Q) [.int 1] σ := by
      intro σ Q H locs ls hP hS hl
      refine va_forget (fun q hq => hA3 _ (hS.2.2 q hq)) ?_
      refine W.widen (k := 600000) (n := 7302250) (Nat.le_of_ble_eq_true rfl) (Nat.le_of_ble_eq_true rfl) ?_
      exact lw_ret hx hb hr hlocks dL_law_1524
    have lp := law_loop C1 X1 hL hend (L + 2) 0 sg0 (by omega) (by omega) sg0_rel
    refine lp H locs ls hP1 hS ?_
    show lv_has ls 4 [(3, .int 0), (2, .ref (yad y1 49)), (1, .ref (yad y1 0)), (0, .ref b)]
    rw [y49, y0]
    exact hl
  rw [lg_entry_eq]
  exact main s.heap [] _ (fun k q h => by simp at h) ⟨fun i j p q h => by simp at h, fun k q h => by simp at h⟩ va_S.rf (lv_entry [.ref b] (Nat.le_of_ble_eq_true rfl))

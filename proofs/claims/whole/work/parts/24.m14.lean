/-! methods, by program: what each does to the store (F_), its walk (b_), its contract (c_): X5_wasTakenSo, X5_kinds, X5_drawn, X5_lamps, X5_odds, X5_seed, X5_feed, X5_wipe, X5_byteAt -/
def rm_X5_wasTakenSo : Room := { frames := 7, cells := 0, slots := 0, locals := 156 }
def F_X5_wasTakenSo_b62 (xk_16 : Nat → Int32 → Int32 → Int32 → Int32 → Sto → Option (Int32 × Sto)) (xa0 : Nat) (xa1 : Int32) (xa2 : Int32) (xa4 : Int32) (σ : Sto) : Option (Int32 × Sto) := ck (kd (xa0) == 5) (bnd (F_X5_minute (xa0) σ) (fun xr4 xσ1 => xk_16 xa0 xa1 xa2 1 (xa4 + 1) xσ1))
def F_X5_wasTakenSo_b16 (xk_16 : Nat → Int32 → Int32 → Int32 → Int32 → Sto → Option (Int32 × Sto)) (xa0 : Nat) (xa1 : Int32) (xa2 : Int32) (xa3 : Int32) (xa4 : Int32) (σ : Sto) : Option (Int32 × Sto) := ck (kd (xa0) == 5) (ck (inr (xa1) (4)) (if (σ 58 (xa1.toNatClampNeg)) ≤ xa4 then bnd (F_X5_copyRow (52) (50) σ) (fun xr6 xσ4 => ck (z01 (xa3)) (some (xa3, xσ4))) else if (xa3) = 0 then bnd (F_X5_copyRow (52) (50) σ) (fun xr10 xσ8 => ck (z01 (xa3)) (some (xa3, xσ8))) else ck (inr ((40 * xa1) + xa4) (160)) (lti (σ 59 (((40 * xa1) + xa4 : Int32).toNatClampNeg)) (fun xv12 => if xv12 = (-1) then F_X5_wasTakenSo_b62 xk_16 xa0 xa1 xa2 xa4 σ else bnd (F_X5_sitterIs (xa0) (xa2) 5 σ) (fun xr16 xσ14 => if xv12 = xr16 then F_X5_wasTakenSo_b62 xk_16 xa0 xa1 xa2 xa4 xσ14 else bnd (F_X5_minute (xa0) xσ14) (fun xr20 xσ18 => xk_16 xa0 xa1 xa2 0 (xa4 + 1) xσ18))))))
def F_X5_wasTakenSo (xa0 : Nat) (xa1 : Int32) (xa2 : Int32) (σ : Sto) : Option (Int32 × Sto) := ck (kd (xa0) == 5) (bnd (F_X5_copyRow (50) (52) σ) (fun xr4 xσ2 => lo5 (F_X5_wasTakenSo_b16) 1000 xa0 xa1 xa2 1 0 xσ2))
set_option maxHeartbeats 4000000 in
set_option maxRecDepth 20000 in
theorem b_X5_wasTakenSo_62 {x : XT} {y : YT} {Z : State → Prop} (C : Cx x y (AY y) RX5 cX5_wasTakenSo 6 rm_X5_wasTakenSo) {r : Int32} {σ' : Sto} (hr : RetZ x y (AY y) 6 cX5_wasTakenSo Z r σ') (xk_16 : Nat → Int32 → Int32 → Int32 → Int32 → Sto → Option (Int32 × Sto)) (xH16 : ∀ (xa0 : Nat) (xa1 : Int32) (xa2 : Int32) (xa3 : Int32) (xa4 : Int32) (σ : Sto), xk_16 xa0 xa1 xa2 xa3 xa4 σ = some (r, σ') → GW x y (AY y) 6 Z 16 [(0, .ref (yad y (xa0))), (1, .int (xa1)), (2, .int (xa2)), (3, .int (xa3)), (4, .int (xa4))] [] σ) (xa0 : Nat) (xa1 : Int32) (xa2 : Int32) (xa4 : Int32) (σ : Sto) (h : F_X5_wasTakenSo_b62 xk_16 xa0 xa1 xa2 xa4 σ = some (r, σ')) : GW x y (AY y) 6 Z 62 [(0, .ref (yad y (xa0))), (1, .int (xa1)), (2, .int (xa2)), (4, .int (xa4))] [] σ := by
  unfold F_X5_wasTakenSo_b62 at h
  refine g_iconst (v := 1) (pc := 62) C dX5_wasTakenSo_62 ci_1 ?_
  refine g_goto (pc := 63) C dX5_wasTakenSo_63 (tgt := 67) rfl ?_
  refine g_istore_n (i := 3) (lv' := [(3, .int (1)), (0, .ref (yad y (xa0))), (1, .int (xa1)), (2, .int (xa2)), (4, .int (xa4))]) (pc := 67) C dX5_wasTakenSo_67 rfl (Nat.le_of_ble_eq_true rfl) rfl ?_
  refine g_aload_n (pc := 68) C dX5_wasTakenSo_68 rfl 1 rfl ?_
  obtain ⟨xq3, h⟩ := iC h
  have xq3 := keq xq3
  obtain ⟨xr4, xσ1, xc2, h⟩ := iB h
  refine g_callVv (pc := 69) (As := []) (rest := []) C dX5_wasTakenSo_69 (fun l => c_X5_minute l y _ _ _ _ xc2) cv_X5_159 ⟨rfl, rfl, Nat.le_of_ble_eq_true rfl, Nat.le_of_ble_eq_true rfl⟩ (rv5 xq3) rfl (Nat.le_of_ble_eq_true rfl) ?_
  refine g_iinc (lv' := [(4, .int (xa4 + 1)), (3, .int (1)), (0, .ref (yad y (xa0))), (1, .int (xa1)), (2, .int (xa2))]) (w := xa4 + 1) (pc := 72) C dX5_wasTakenSo_72 (k := 4) rfl rfl (Nat.le_of_ble_eq_true rfl) rfl ?_
  refine g_goto (pc := 75) C dX5_wasTakenSo_75 (tgt := 16) rfl ?_
  refine g_sub (lv' := [(0, .ref (yad y (xa0))), (1, .int (xa1)), (2, .int (xa2)), (3, .int (1)), (4, .int (xa4 + 1))]) C [2, 3, 4, 1, 0] rfl ?_
  exact xH16 xa0 xa1 xa2 1 (xa4 + 1) xσ1 h
set_option maxHeartbeats 4000000 in
set_option maxRecDepth 20000 in
theorem b_X5_wasTakenSo_16 {x : XT} {y : YT} {Z : State → Prop} (C : Cx x y (AY y) RX5 cX5_wasTakenSo 6 rm_X5_wasTakenSo) {r : Int32} {σ' : Sto} (hr : RetZ x y (AY y) 6 cX5_wasTakenSo Z r σ') (xk_16 : Nat → Int32 → Int32 → Int32 → Int32 → Sto → Option (Int32 × Sto)) (xH16 : ∀ (xa0 : Nat) (xa1 : Int32) (xa2 : Int32) (xa3 : Int32) (xa4 : Int32) (σ : Sto), xk_16 xa0 xa1 xa2 xa3 xa4 σ = some (r, σ') → GW x y (AY y) 6 Z 16 [(0, .ref (yad y (xa0))), (1, .int (xa1)), (2, .int (xa2)), (3, .int (xa3)), (4, .int (xa4))] [] σ) (xa0 : Nat) (xa1 : Int32) (xa2 : Int32) (xa3 : Int32) (xa4 : Int32) (σ : Sto) (h : F_X5_wasTakenSo_b16 xk_16 xa0 xa1 xa2 xa3 xa4 σ = some (r, σ')) : GW x y (AY y) 6 Z 16 [(0, .ref (yad y (xa0))), (1, .int (xa1)), (2, .int (xa2)), (3, .int (xa3)), (4, .int (xa4))] [] σ := by
  unfold F_X5_wasTakenSo_b16 at h
  refine g_iload (pc := 16) C dX5_wasTakenSo_16 4 rfl ?_
  refine g_aload_n (pc := 18) C dX5_wasTakenSo_18 rfl 0 rfl ?_
  obtain ⟨xq1, h⟩ := iC h
  have xq1 := keq xq1
  refine gf_5_19 (pc := 19) C wf_X5_51 dX5_wasTakenSo_19 xq1 ?_
  refine g_iload_n (pc := 22) C dX5_wasTakenSo_22 rfl 1 rfl ?_
  obtain ⟨xq2, h⟩ := iC h
  refine g_iald (pc := 23) C dX5_wasTakenSo_23 rfl (ivp xq2 rfl) (j := xa1.toNatClampNeg) rfl ?_
  refine g_icmp_ge (pc := 24) C dX5_wasTakenSo_24 (tgt := 78) rfl (fun xq3 => ?_) (fun xq3 => ?_)
  · have h := iP xq3 h
    refine g_aload_n (pc := 78) C dX5_wasTakenSo_78 rfl 0 rfl ?_
    refine gf_5_2 (pc := 79) C wf_X5_16 dX5_wasTakenSo_79 xq1 ?_
    refine g_aload_n (pc := 82) C dX5_wasTakenSo_82 rfl 0 rfl ?_
    refine gf_5_0 (pc := 83) C wf_X5_9 dX5_wasTakenSo_83 xq1 ?_
    obtain ⟨xr6, xσ4, xc5, h⟩ := iB h
    refine g_callSv (pc := 86) (As := [.ref (yad y (52)), .ref (yad y (50))]) (rest := []) C dX5_wasTakenSo_86 (fun l => c_X5_copyRow l y _ _ _ _ _ xc5) cv_X5_61 ⟨rfl, rfl, Nat.le_of_ble_eq_true rfl, Nat.le_of_ble_eq_true rfl⟩ rfl (Nat.le_of_ble_eq_true rfl) ?_
    refine g_iload_n (pc := 89) C dX5_wasTakenSo_89 rfl 3 rfl ?_
    obtain ⟨xz, h⟩ := iC h
    exact rtZ hr dX5_wasTakenSo_90 (z01_or xz) h
  · have h := iN xq3 h
    refine g_iload_n (pc := 27) C dX5_wasTakenSo_27 rfl 3 rfl ?_
    refine g_if_eq (pc := 28) C dX5_wasTakenSo_28 (tgt := 78) rfl (fun xq7 => ?_) (fun xq7 => ?_)
    · have h := iP xq7 h
      refine g_aload_n (pc := 78) C dX5_wasTakenSo_78 rfl 0 rfl ?_
      refine gf_5_2 (pc := 79) C wf_X5_16 dX5_wasTakenSo_79 xq1 ?_
      refine g_aload_n (pc := 82) C dX5_wasTakenSo_82 rfl 0 rfl ?_
      refine gf_5_0 (pc := 83) C wf_X5_9 dX5_wasTakenSo_83 xq1 ?_
      obtain ⟨xr10, xσ8, xc9, h⟩ := iB h
      refine g_callSv (pc := 86) (As := [.ref (yad y (52)), .ref (yad y (50))]) (rest := []) C dX5_wasTakenSo_86 (fun l => c_X5_copyRow l y _ _ _ _ _ xc9) cv_X5_61 ⟨rfl, rfl, Nat.le_of_ble_eq_true rfl, Nat.le_of_ble_eq_true rfl⟩ rfl (Nat.le_of_ble_eq_true rfl) ?_
      refine g_iload_n (pc := 89) C dX5_wasTakenSo_89 rfl 3 rfl ?_
      obtain ⟨xz, h⟩ := iC h
      exact rtZ hr dX5_wasTakenSo_90 (z01_or xz) h
    · have h := iN xq7 h
      refine g_aload_n (pc := 31) C dX5_wasTakenSo_31 rfl 0 rfl ?_
      refine gf_5_20 (pc := 32) C wf_X5_54 dX5_wasTakenSo_32 xq1 ?_
      refine g_bipush (v := 40) (pc := 35) C dX5_wasTakenSo_35 cb_40 ?_
      refine g_iload_n (pc := 37) C dX5_wasTakenSo_37 rfl 1 rfl ?_
      refine g_imul (pc := 38) C dX5_wasTakenSo_38 ?_
      refine g_iload (pc := 39) C dX5_wasTakenSo_39 4 rfl ?_
      refine g_iadd (pc := 41) C dX5_wasTakenSo_41 ?_
      obtain ⟨xq11, h⟩ := iC h
      refine g_iald (pc := 42) C dX5_wasTakenSo_42 rfl (ivp xq11 rfl) (j := ((40 * xa1) + xa4 : Int32).toNatClampNeg) rfl ?_
      refine g_letI h (fun xv12 h => ?_)
      refine g_istore (i := 5) (lv' := [(5, .int (xv12)), (0, .ref (yad y (xa0))), (1, .int (xa1)), (2, .int (xa2)), (3, .int (xa3)), (4, .int (xa4))]) (pc := 43) C dX5_wasTakenSo_43 (Nat.le_of_ble_eq_true rfl) rfl ?_
      refine g_iload (pc := 45) C dX5_wasTakenSo_45 0 rfl ?_
      refine g_iconst (v := (-1)) (pc := 47) C dX5_wasTakenSo_47 ci_m1 ?_
      refine g_icmp_eq (pc := 48) C dX5_wasTakenSo_48 (tgt := 62) rfl (fun xq13 => ?_) (fun xq13 => ?_)
      · have h := iP xq13 h
        refine g_sub (lv' := [(0, .ref (yad y (xa0))), (1, .int (xa1)), (2, .int (xa2)), (4, .int (xa4))]) C [1, 2, 3, 5] rfl ?_
        exact b_X5_wasTakenSo_62 C hr xk_16 xH16 xa0 xa1 xa2 xa4 σ h
      · have h := iN xq13 h
        refine g_iload (pc := 51) C dX5_wasTakenSo_51 0 rfl ?_
        refine g_aload_n (pc := 53) C dX5_wasTakenSo_53 rfl 1 rfl ?_
        refine g_iload_n (pc := 54) C dX5_wasTakenSo_54 rfl 3 rfl ?_
        refine g_iconst (v := 5) (pc := 55) C dX5_wasTakenSo_55 ci_5 ?_
        obtain ⟨xr16, xσ14, xc15, h⟩ := iB h
        refine g_callVi (pc := 56) (As := [.int (xa2), .int (5)]) (rest := [.int (xv12)]) C dX5_wasTakenSo_56 (fun l => c_X5_sitterIs l y _ _ _ _ _ _ xc15) cv_X5_104 ⟨rfl, rfl, Nat.le_of_ble_eq_true rfl, Nat.le_of_ble_eq_true rfl⟩ (rv5 xq1) rfl (Nat.le_of_ble_eq_true rfl) ?_
        refine g_icmp_ne (pc := 59) C dX5_wasTakenSo_59 (tgt := 66) rfl (fun xq17 => ?_) (fun xq17 => ?_)
        · have h := iN xq17 h
          refine g_iconst (v := 0) (pc := 66) C dX5_wasTakenSo_66 ci_0 ?_
          refine g_istore_n (i := 3) (lv' := [(3, .int (0)), (5, .int (xv12)), (0, .ref (yad y (xa0))), (1, .int (xa1)), (2, .int (xa2)), (4, .int (xa4))]) (pc := 67) C dX5_wasTakenSo_67 rfl (Nat.le_of_ble_eq_true rfl) rfl ?_
          refine g_aload_n (pc := 68) C dX5_wasTakenSo_68 rfl 2 rfl ?_
          obtain ⟨xr20, xσ18, xc19, h⟩ := iB h
          refine g_callVv (pc := 69) (As := []) (rest := []) C dX5_wasTakenSo_69 (fun l => c_X5_minute l y _ _ _ _ xc19) cv_X5_159 ⟨rfl, rfl, Nat.le_of_ble_eq_true rfl, Nat.le_of_ble_eq_true rfl⟩ (rv5 xq1) rfl (Nat.le_of_ble_eq_true rfl) ?_
          refine g_iinc (lv' := [(4, .int (xa4 + 1)), (3, .int (0)), (5, .int (xv12)), (0, .ref (yad y (xa0))), (1, .int (xa1)), (2, .int (xa2))]) (w := xa4 + 1) (pc := 72) C dX5_wasTakenSo_72 (k := 5) rfl rfl (Nat.le_of_ble_eq_true rfl) rfl ?_
          refine g_goto (pc := 75) C dX5_wasTakenSo_75 (tgt := 16) rfl ?_
          refine g_sub (lv' := [(0, .ref (yad y (xa0))), (1, .int (xa1)), (2, .int (xa2)), (3, .int (0)), (4, .int (xa4 + 1))]) C [3, 4, 5, 1, 0] rfl ?_
          exact xH16 xa0 xa1 xa2 0 (xa4 + 1) xσ18 h
        · have h := iP xq17 h
          refine g_sub (lv' := [(0, .ref (yad y (xa0))), (1, .int (xa1)), (2, .int (xa2)), (4, .int (xa4))]) C [1, 2, 3, 5] rfl ?_
          exact b_X5_wasTakenSo_62 C hr xk_16 xH16 xa0 xa1 xa2 xa4 xσ14 h
theorem l_X5_wasTakenSo_16 {x : XT} {y : YT} {Z : State → Prop} (C : Cx x y (AY y) RX5 cX5_wasTakenSo 6 rm_X5_wasTakenSo) {r : Int32} {σ' : Sto} (hr : RetZ x y (AY y) 6 cX5_wasTakenSo Z r σ') (n : Nat) (xa0 : Nat) (xa1 : Int32) (xa2 : Int32) (xa3 : Int32) (xa4 : Int32) (σ : Sto) (h : lo5 (F_X5_wasTakenSo_b16) n xa0 xa1 xa2 xa3 xa4 σ = some (r, σ')) : GW x y (AY y) 6 Z 16 [(0, .ref (yad y (xa0))), (1, .int (xa1)), (2, .int (xa2)), (3, .int (xa3)), (4, .int (xa4))] [] σ :=
  lo5_gw (G := fun xa0 xa1 xa2 xa3 xa4 σ => GW x y (AY y) 6 Z 16 [(0, .ref (yad y (xa0))), (1, .int (xa1)), (2, .int (xa2)), (3, .int (xa3)), (4, .int (xa4))] [] σ) (fun xk xHk xa0 xa1 xa2 xa3 xa4 σ h => b_X5_wasTakenSo_16 C hr xk xHk xa0 xa1 xa2 xa3 xa4 σ h) n xa0 xa1 xa2 xa3 xa4 σ h
set_option maxHeartbeats 4000000 in
set_option maxRecDepth 20000 in
theorem b_X5_wasTakenSo_0 {x : XT} {y : YT} {Z : State → Prop} (C : Cx x y (AY y) RX5 cX5_wasTakenSo 6 rm_X5_wasTakenSo) {r : Int32} {σ' : Sto} (hr : RetZ x y (AY y) 6 cX5_wasTakenSo Z r σ') (xa0 : Nat) (xa1 : Int32) (xa2 : Int32) (σ : Sto) (h : F_X5_wasTakenSo xa0 xa1 xa2 σ = some (r, σ')) : GW x y (AY y) 6 Z 0 [(0, .ref (yad y (xa0))), (1, .int (xa1)), (2, .int (xa2))] [] σ := by
  unfold F_X5_wasTakenSo at h
  refine g_aload_n (pc := 0) C dX5_wasTakenSo_0 rfl 0 rfl ?_
  obtain ⟨xq1, h⟩ := iC h
  have xq1 := keq xq1
  refine gf_5_0 (pc := 1) C wf_X5_9 dX5_wasTakenSo_1 xq1 ?_
  refine g_aload_n (pc := 4) C dX5_wasTakenSo_4 rfl 0 rfl ?_
  refine gf_5_2 (pc := 5) C wf_X5_16 dX5_wasTakenSo_5 xq1 ?_
  obtain ⟨xr4, xσ2, xc3, h⟩ := iB h
  refine g_callSv (pc := 8) (As := [.ref (yad y (50)), .ref (yad y (52))]) (rest := []) C dX5_wasTakenSo_8 (fun l => c_X5_copyRow l y _ _ _ _ _ xc3) cv_X5_61 ⟨rfl, rfl, Nat.le_of_ble_eq_true rfl, Nat.le_of_ble_eq_true rfl⟩ rfl (Nat.le_of_ble_eq_true rfl) ?_
  refine g_iconst (v := 1) (pc := 11) C dX5_wasTakenSo_11 ci_1 ?_
  refine g_istore_n (i := 3) (lv' := [(3, .int (1)), (0, .ref (yad y (xa0))), (1, .int (xa1)), (2, .int (xa2))]) (pc := 12) C dX5_wasTakenSo_12 rfl (Nat.le_of_ble_eq_true rfl) rfl ?_
  refine g_iconst (v := 0) (pc := 13) C dX5_wasTakenSo_13 ci_0 ?_
  refine g_istore (i := 4) (lv' := [(4, .int (0)), (3, .int (1)), (0, .ref (yad y (xa0))), (1, .int (xa1)), (2, .int (xa2))]) (pc := 14) C dX5_wasTakenSo_14 (Nat.le_of_ble_eq_true rfl) rfl ?_
  refine g_sub (lv' := [(0, .ref (yad y (xa0))), (1, .int (xa1)), (2, .int (xa2)), (3, .int (1)), (4, .int (0))]) C [2, 3, 4, 1, 0] rfl ?_
  exact l_X5_wasTakenSo_16 C hr 1000 xa0 xa1 xa2 1 0 xσ2 h
theorem c_X5_wasTakenSo (l : Launch) (y : YT) (xa0 : Nat) (xa1 : Int32) (xa2 : Int32) (σ σ' : Sto) (r : Int32) (h : F_X5_wasTakenSo xa0 xa1 xa2 σ = some (r, σ')) : MI l y yX5_wasTakenSo (Cond.code yX5_wasTakenSo cX5_wasTakenSo 6 (some .boolean) :: TT) rm_X5_wasTakenSo [.ref (yad y (xa0)), .int (xa1), .int (xa2)] σ r σ' :=
  mkZ (by decide) rfl rfl rfl (Nat.le_of_ble_eq_true rfl) (fun x Z C hr => b_X5_wasTakenSo_0 C hr xa0 xa1 xa2 σ h)
def rm_X5_kinds : Room := { frames := 8, cells := 0, slots := 0, locals := 181 }
def F_X5_kinds_b43 (xk_43 : Nat → Int32 → Int32 → Int32 → Int32 → Int32 → Int32 → Sto → Option (Int32 × Sto)) (xa0 : Nat) (xa1 : Int32) (xa2 : Int32) (xa4 : Int32) (xa5 : Int32) (xa6 : Int32) (xa7 : Int32) (σ : Sto) : Option (Int32 × Sto) := if 6 < xa7 then ck (kd (xa0) == 5) (ck (inr (xa4) (79)) (lts (up2 σ 50 (xa4.toNatClampNeg) (xa5)) (fun xσ4 => some (xa6, xσ4)))) else ck (kd (xa0) == 5) (ck (inr (xa4) (79)) (lts (up2 σ 50 (xa4.toNatClampNeg) (xa7)) (fun xσ7 => bnd (F_X5_wasTakenSo (xa0) (xa1) (xa2) xσ7) (fun xr10 xσ8 => if (xr10) = 0 then lti (xa6 ||| 0) (fun xv12 => xk_43 xa0 xa1 xa2 xa4 xa5 xv12 (xa7 + 1) xσ8) else lti (xa6 ||| (isl 1 xa7)) (fun xv13 => xk_43 xa0 xa1 xa2 xa4 xa5 xv13 (xa7 + 1) xσ8)))))
def F_X5_kinds (xa0 : Nat) (xa1 : Int32) (xa2 : Int32) (σ : Sto) : Option (Int32 × Sto) := ck (kd (xa0) == 5) (bnd (F_X5_isSitter (xa0) (xa2) σ) (fun xr4 xσ1 => bnd (F_X5_lacks (xa0) (xa1) (xr4) xσ1) (fun xr7 xσ5 => if (xr7) = 0 then bnd (F_X5_sitterAt (xa2) 0 xσ5) (fun xr11 xσ9 => ck (inr (xr11) (79)) (lti (xσ9 50 (xr11.toNatClampNeg)) (fun xv13 => lo7 (F_X5_kinds_b43) 1000 xa0 xa1 xa2 xr11 xv13 0 0 xσ9))) else bnd (F_X5_finding (xa0) (xr7) xσ5) (fun xr16 xσ14 => some (xr16, xσ14)))))
set_option maxHeartbeats 4000000 in
set_option maxRecDepth 20000 in
theorem b_X5_kinds_43 {x : XT} {y : YT} {Z : State → Prop} (C : Cx x y (AY y) RX5 cX5_kinds 8 rm_X5_kinds) {r : Int32} {σ' : Sto} (hr : RetI x y (AY y) 8 cX5_kinds Z r σ') (xk_43 : Nat → Int32 → Int32 → Int32 → Int32 → Int32 → Int32 → Sto → Option (Int32 × Sto)) (xH43 : ∀ (xa0 : Nat) (xa1 : Int32) (xa2 : Int32) (xa4 : Int32) (xa5 : Int32) (xa6 : Int32) (xa7 : Int32) (σ : Sto), xk_43 xa0 xa1 xa2 xa4 xa5 xa6 xa7 σ = some (r, σ') → GW x y (AY y) 8 Z 43 [(0, .ref (yad y (xa0))), (1, .int (xa1)), (2, .int (xa2)), (4, .int (xa4)), (5, .int (xa5)), (6, .int (xa6)), (7, .int (xa7))] [] σ) (xa0 : Nat) (xa1 : Int32) (xa2 : Int32) (xa4 : Int32) (xa5 : Int32) (xa6 : Int32) (xa7 : Int32) (σ : Sto) (h : F_X5_kinds_b43 xk_43 xa0 xa1 xa2 xa4 xa5 xa6 xa7 σ = some (r, σ')) : GW x y (AY y) 8 Z 43 [(0, .ref (yad y (xa0))), (1, .int (xa1)), (2, .int (xa2)), (4, .int (xa4)), (5, .int (xa5)), (6, .int (xa6)), (7, .int (xa7))] [] σ := by
  unfold F_X5_kinds_b43 at h
  refine g_iload (pc := 43) C dX5_kinds_43 6 rfl ?_
  refine g_bipush (v := 6) (pc := 45) C dX5_kinds_45 cb_6 ?_
  refine g_icmp_gt (pc := 47) C dX5_kinds_47 (tgt := 87) rfl (fun xq1 => ?_) (fun xq1 => ?_)
  · have h := iP xq1 h
    refine g_aload_n (pc := 87) C dX5_kinds_87 rfl 0 rfl ?_
    obtain ⟨xq2, h⟩ := iC h
    have xq2 := keq xq2
    refine gf_5_0 (pc := 88) C wf_X5_9 dX5_kinds_88 xq2 ?_
    refine g_iload (pc := 91) C dX5_kinds_91 3 rfl ?_
    refine g_iload (pc := 93) C dX5_kinds_93 4 rfl ?_
    obtain ⟨xq3, h⟩ := iC h
    refine g_iast (pc := 95) C dX5_kinds_95 rfl (ivp xq3 rfl) (j := xa4.toNatClampNeg) rfl ?_
    refine g_letS h (fun xσ4 h => ?_)
    refine g_iload (pc := 96) C dX5_kinds_96 5 rfl ?_
    exact rtI hr dX5_kinds_98 h
  · have h := iN xq1 h
    refine g_aload_n (pc := 50) C dX5_kinds_50 rfl 0 rfl ?_
    obtain ⟨xq5, h⟩ := iC h
    have xq5 := keq xq5
    refine gf_5_0 (pc := 51) C wf_X5_9 dX5_kinds_51 xq5 ?_
    refine g_iload (pc := 54) C dX5_kinds_54 3 rfl ?_
    refine g_iload (pc := 56) C dX5_kinds_56 6 rfl ?_
    obtain ⟨xq6, h⟩ := iC h
    refine g_iast (pc := 58) C dX5_kinds_58 rfl (ivp xq6 rfl) (j := xa4.toNatClampNeg) rfl ?_
    refine g_letS h (fun xσ7 h => ?_)
    refine g_iload (pc := 59) C dX5_kinds_59 5 rfl ?_
    refine g_aload_n (pc := 61) C dX5_kinds_61 rfl 0 rfl ?_
    refine g_iload_n (pc := 62) C dX5_kinds_62 rfl 1 rfl ?_
    refine g_iload_n (pc := 63) C dX5_kinds_63 rfl 2 rfl ?_
    obtain ⟨xr10, xσ8, xc9, h⟩ := iB h
    refine g_callVi (pc := 64) (As := [.int (xa1), .int (xa2)]) (rest := [.int (xa6)]) C dX5_kinds_64 (fun l => c_X5_wasTakenSo l y _ _ _ _ _ _ xc9) cv_X5_231 ⟨rfl, rfl, Nat.le_of_ble_eq_true rfl, Nat.le_of_ble_eq_true rfl⟩ (rv5 xq5) rfl (Nat.le_of_ble_eq_true rfl) ?_
    refine g_if_eq (pc := 67) C dX5_kinds_67 (tgt := 77) rfl (fun xq11 => ?_) (fun xq11 => ?_)
    · have h := iP xq11 h
      refine g_iconst (v := 0) (pc := 77) C dX5_kinds_77 ci_0 ?_
      refine g_ior (pc := 78) C dX5_kinds_78 ?_
      refine g_letI h (fun xv12 h => ?_)
      refine g_istore (i := 6) (lv' := [(6, .int (xv12)), (0, .ref (yad y (xa0))), (1, .int (xa1)), (2, .int (xa2)), (4, .int (xa4)), (5, .int (xa5)), (7, .int (xa7))]) (pc := 79) C dX5_kinds_79 (Nat.le_of_ble_eq_true rfl) rfl ?_
      refine g_iinc (lv' := [(7, .int (xa7 + 1)), (6, .int (xv12)), (0, .ref (yad y (xa0))), (1, .int (xa1)), (2, .int (xa2)), (4, .int (xa4)), (5, .int (xa5))]) (w := xa7 + 1) (pc := 81) C dX5_kinds_81 (k := 6) rfl rfl (Nat.le_of_ble_eq_true rfl) rfl ?_
      refine g_goto (pc := 84) C dX5_kinds_84 (tgt := 43) rfl ?_
      refine g_sub (lv' := [(0, .ref (yad y (xa0))), (1, .int (xa1)), (2, .int (xa2)), (4, .int (xa4)), (5, .int (xa5)), (6, .int (xv12)), (7, .int (xa7 + 1))]) C [2, 3, 4, 5, 6, 1, 0] rfl ?_
      exact xH43 xa0 xa1 xa2 xa4 xa5 xv12 (xa7 + 1) xσ8 h
    · have h := iN xq11 h
      refine g_iconst (v := 1) (pc := 70) C dX5_kinds_70 ci_1 ?_
      refine g_iload (pc := 71) C dX5_kinds_71 6 rfl ?_
      refine g_ishl (pc := 73) C dX5_kinds_73 ?_
      refine g_goto (pc := 74) C dX5_kinds_74 (tgt := 78) rfl ?_
      refine g_ior (pc := 78) C dX5_kinds_78 ?_
      refine g_letI h (fun xv13 h => ?_)
      refine g_istore (i := 6) (lv' := [(6, .int (xv13)), (0, .ref (yad y (xa0))), (1, .int (xa1)), (2, .int (xa2)), (4, .int (xa4)), (5, .int (xa5)), (7, .int (xa7))]) (pc := 79) C dX5_kinds_79 (Nat.le_of_ble_eq_true rfl) rfl ?_
      refine g_iinc (lv' := [(7, .int (xa7 + 1)), (6, .int (xv13)), (0, .ref (yad y (xa0))), (1, .int (xa1)), (2, .int (xa2)), (4, .int (xa4)), (5, .int (xa5))]) (w := xa7 + 1) (pc := 81) C dX5_kinds_81 (k := 6) rfl rfl (Nat.le_of_ble_eq_true rfl) rfl ?_
      refine g_goto (pc := 84) C dX5_kinds_84 (tgt := 43) rfl ?_
      refine g_sub (lv' := [(0, .ref (yad y (xa0))), (1, .int (xa1)), (2, .int (xa2)), (4, .int (xa4)), (5, .int (xa5)), (6, .int (xv13)), (7, .int (xa7 + 1))]) C [2, 3, 4, 5, 6, 1, 0] rfl ?_
      exact xH43 xa0 xa1 xa2 xa4 xa5 xv13 (xa7 + 1) xσ8 h
theorem l_X5_kinds_43 {x : XT} {y : YT} {Z : State → Prop} (C : Cx x y (AY y) RX5 cX5_kinds 8 rm_X5_kinds) {r : Int32} {σ' : Sto} (hr : RetI x y (AY y) 8 cX5_kinds Z r σ') (n : Nat) (xa0 : Nat) (xa1 : Int32) (xa2 : Int32) (xa4 : Int32) (xa5 : Int32) (xa6 : Int32) (xa7 : Int32) (σ : Sto) (h : lo7 (F_X5_kinds_b43) n xa0 xa1 xa2 xa4 xa5 xa6 xa7 σ = some (r, σ')) : GW x y (AY y) 8 Z 43 [(0, .ref (yad y (xa0))), (1, .int (xa1)), (2, .int (xa2)), (4, .int (xa4)), (5, .int (xa5)), (6, .int (xa6)), (7, .int (xa7))] [] σ :=
  lo7_gw (G := fun xa0 xa1 xa2 xa4 xa5 xa6 xa7 σ => GW x y (AY y) 8 Z 43 [(0, .ref (yad y (xa0))), (1, .int (xa1)), (2, .int (xa2)), (4, .int (xa4)), (5, .int (xa5)), (6, .int (xa6)), (7, .int (xa7))] [] σ) (fun xk xHk xa0 xa1 xa2 xa4 xa5 xa6 xa7 σ h => b_X5_kinds_43 C hr xk xHk xa0 xa1 xa2 xa4 xa5 xa6 xa7 σ h) n xa0 xa1 xa2 xa4 xa5 xa6 xa7 σ h
set_option maxHeartbeats 4000000 in
set_option maxRecDepth 20000 in
theorem b_X5_kinds_0 {x : XT} {y : YT} {Z : State → Prop} (C : Cx x y (AY y) RX5 cX5_kinds 8 rm_X5_kinds) {r : Int32} {σ' : Sto} (hr : RetI x y (AY y) 8 cX5_kinds Z r σ') (xa0 : Nat) (xa1 : Int32) (xa2 : Int32) (σ : Sto) (h : F_X5_kinds xa0 xa1 xa2 σ = some (r, σ')) : GW x y (AY y) 8 Z 0 [(0, .ref (yad y (xa0))), (1, .int (xa1)), (2, .int (xa2))] [] σ := by
  unfold F_X5_kinds at h
  refine g_aload_n (pc := 0) C dX5_kinds_0 rfl 0 rfl ?_
  refine g_iload_n (pc := 1) C dX5_kinds_1 rfl 1 rfl ?_
  refine g_aload_n (pc := 2) C dX5_kinds_2 rfl 0 rfl ?_
  refine g_iload_n (pc := 3) C dX5_kinds_3 rfl 2 rfl ?_
  obtain ⟨xq3, h⟩ := iC h
  have xq3 := keq xq3
  obtain ⟨xr4, xσ1, xc2, h⟩ := iB h
  refine g_callVi (pc := 4) (As := [.int (xa2)]) (rest := [.int (xa1), .ref (yad y (xa0))]) C dX5_kinds_4 (fun l => c_X5_isSitter l y _ _ _ _ _ xc2) cv_X5_83 ⟨rfl, rfl, Nat.le_of_ble_eq_true rfl, Nat.le_of_ble_eq_true rfl⟩ (rv5 xq3) rfl (Nat.le_of_ble_eq_true rfl) ?_
  obtain ⟨xr7, xσ5, xc6, h⟩ := iB h
  refine g_callVi (pc := 7) (As := [.int (xa1), .int (xr4)]) (rest := []) C dX5_kinds_7 (fun l => c_X5_lacks l y _ _ _ _ _ _ xc6) cv_X5_223 ⟨rfl, rfl, Nat.le_of_ble_eq_true rfl, Nat.le_of_ble_eq_true rfl⟩ (rv5 xq3) rfl (Nat.le_of_ble_eq_true rfl) ?_
  refine g_istore_n (i := 3) (lv' := [(3, .int (xr7)), (0, .ref (yad y (xa0))), (1, .int (xa1)), (2, .int (xa2))]) (pc := 10) C dX5_kinds_10 rfl (Nat.le_of_ble_eq_true rfl) rfl ?_
  refine g_iload_n (pc := 11) C dX5_kinds_11 rfl 0 rfl ?_
  refine g_if_eq (pc := 12) C dX5_kinds_12 (tgt := 21) rfl (fun xq8 => ?_) (fun xq8 => ?_)
  · have h := iP xq8 h
    refine g_iload_n (pc := 21) C dX5_kinds_21 rfl 3 rfl ?_
    refine g_iconst (v := 0) (pc := 22) C dX5_kinds_22 ci_0 ?_
    obtain ⟨xr11, xσ9, xc10, h⟩ := iB h
    refine g_callSi (pc := 23) (As := [.int (xa2), .int (0)]) (rest := []) C dX5_kinds_23 (fun l => c_X5_sitterAt l y _ _ _ _ _ xc10) cv_X5_93 ⟨rfl, rfl, Nat.le_of_ble_eq_true rfl, Nat.le_of_ble_eq_true rfl⟩ rfl (Nat.le_of_ble_eq_true rfl) ?_
    refine g_istore (i := 4) (lv' := [(4, .int (xr11)), (3, .int (xr7)), (0, .ref (yad y (xa0))), (1, .int (xa1)), (2, .int (xa2))]) (pc := 26) C dX5_kinds_26 (Nat.le_of_ble_eq_true rfl) rfl ?_
    refine g_aload_n (pc := 28) C dX5_kinds_28 rfl 2 rfl ?_
    refine gf_5_0 (pc := 29) C wf_X5_9 dX5_kinds_29 xq3 ?_
    refine g_iload (pc := 32) C dX5_kinds_32 0 rfl ?_
    obtain ⟨xq12, h⟩ := iC h
    refine g_iald (pc := 34) C dX5_kinds_34 rfl (ivp xq12 rfl) (j := xr11.toNatClampNeg) rfl ?_
    refine g_letI h (fun xv13 h => ?_)
    refine g_istore (i := 5) (lv' := [(5, .int (xv13)), (4, .int (xr11)), (3, .int (xr7)), (0, .ref (yad y (xa0))), (1, .int (xa1)), (2, .int (xa2))]) (pc := 35) C dX5_kinds_35 (Nat.le_of_ble_eq_true rfl) rfl ?_
    refine g_iconst (v := 0) (pc := 37) C dX5_kinds_37 ci_0 ?_
    refine g_istore (i := 6) (lv' := [(6, .int (0)), (5, .int (xv13)), (4, .int (xr11)), (3, .int (xr7)), (0, .ref (yad y (xa0))), (1, .int (xa1)), (2, .int (xa2))]) (pc := 38) C dX5_kinds_38 (Nat.le_of_ble_eq_true rfl) rfl ?_
    refine g_iconst (v := 0) (pc := 40) C dX5_kinds_40 ci_0 ?_
    refine g_istore (i := 7) (lv' := [(7, .int (0)), (6, .int (0)), (5, .int (xv13)), (4, .int (xr11)), (3, .int (xr7)), (0, .ref (yad y (xa0))), (1, .int (xa1)), (2, .int (xa2))]) (pc := 41) C dX5_kinds_41 (Nat.le_of_ble_eq_true rfl) rfl ?_
    refine g_sub (lv' := [(0, .ref (yad y (xa0))), (1, .int (xa1)), (2, .int (xa2)), (4, .int (xr11)), (5, .int (xv13)), (6, .int (0)), (7, .int (0))]) C [5, 6, 7, 3, 2, 1, 0] rfl ?_
    exact l_X5_kinds_43 C hr 1000 xa0 xa1 xa2 xr11 xv13 0 0 xσ9 h
  · have h := iN xq8 h
    refine g_aload_n (pc := 15) C dX5_kinds_15 rfl 1 rfl ?_
    refine g_iload_n (pc := 16) C dX5_kinds_16 rfl 0 rfl ?_
    obtain ⟨xr16, xσ14, xc15, h⟩ := iB h
    refine g_callVi (pc := 17) (As := [.int (xr7)]) (rest := []) C dX5_kinds_17 (fun l => c_X5_finding l y _ _ _ _ _ xc15) cv_X5_66 ⟨rfl, rfl, Nat.le_of_ble_eq_true rfl, Nat.le_of_ble_eq_true rfl⟩ (rv5 xq3) rfl (Nat.le_of_ble_eq_true rfl) ?_
    exact rtI hr dX5_kinds_20 h
theorem c_X5_kinds (l : Launch) (y : YT) (xa0 : Nat) (xa1 : Int32) (xa2 : Int32) (σ σ' : Sto) (r : Int32) (h : F_X5_kinds xa0 xa1 xa2 σ = some (r, σ')) : MI l y yX5_kinds (Cond.code yX5_kinds cX5_kinds 8 (some .int) :: TT) rm_X5_kinds [.ref (yad y (xa0)), .int (xa1), .int (xa2)] σ r σ' :=
  mkI (by decide) rfl rfl rfl (Nat.le_of_ble_eq_true rfl) (fun x Z C hr => b_X5_kinds_0 C hr xa0 xa1 xa2 σ h)
def rm_X5_drawn : Room := { frames := 0, cells := 0, slots := 0, locals := 0 }
def F_X5_drawn (xa0 : Nat) (σ : Sto) : Option (Int32 × Sto) := ck (kd (xa0) == 5) (lts (up2 σ 50 2 (((σ 50 2) * 1103515245) + 12345)) (fun xσ2 => some (ius (xσ2 50 2) 8, xσ2)))
set_option maxHeartbeats 4000000 in
set_option maxRecDepth 20000 in
theorem b_X5_drawn_0 {x : XT} {y : YT} {Z : State → Prop} (C : Cx x y (AY y) RX5 cX5_drawn 1 rm_X5_drawn) {r : Int32} {σ' : Sto} (hr : RetI x y (AY y) 1 cX5_drawn Z r σ') (xa0 : Nat) (σ : Sto) (h : F_X5_drawn xa0 σ = some (r, σ')) : GW x y (AY y) 1 Z 0 [(0, .ref (yad y (xa0)))] [] σ := by
  unfold F_X5_drawn at h
  refine g_aload_n (pc := 0) C dX5_drawn_0 rfl 0 rfl ?_
  obtain ⟨xq1, h⟩ := iC h
  have xq1 := keq xq1
  refine gf_5_0 (pc := 1) C wf_X5_9 dX5_drawn_1 xq1 ?_
  refine g_iconst (v := 2) (pc := 4) C dX5_drawn_4 ci_2 ?_
  refine g_aload_n (pc := 5) C dX5_drawn_5 rfl 0 rfl ?_
  refine gf_5_0 (pc := 6) C wf_X5_9 dX5_drawn_6 xq1 ?_
  refine g_iconst (v := 2) (pc := 9) C dX5_drawn_9 ci_2 ?_
  refine g_iald (pc := 10) C dX5_drawn_10 rfl (ivp (by decide) rfl) (j := 2) ct_2 ?_
  refine g_ldc (v := 1103515245) (pc := 11) C dX5_drawn_11 wk_X5_234 ?_
  refine g_imul (pc := 13) C dX5_drawn_13 ?_
  refine g_sipush (v := 12345) (pc := 14) C dX5_drawn_14 cs_12345 ?_
  refine g_iadd (pc := 17) C dX5_drawn_17 ?_
  refine g_iast (pc := 18) C dX5_drawn_18 rfl (ivp (by decide) rfl) (j := 2) ct_2 ?_
  refine g_letS h (fun xσ2 h => ?_)
  refine g_aload_n (pc := 19) C dX5_drawn_19 rfl 0 rfl ?_
  refine gf_5_0 (pc := 20) C wf_X5_9 dX5_drawn_20 xq1 ?_
  refine g_iconst (v := 2) (pc := 23) C dX5_drawn_23 ci_2 ?_
  refine g_iald (pc := 24) C dX5_drawn_24 rfl (ivp (by decide) rfl) (j := 2) ct_2 ?_
  refine g_bipush (v := 8) (pc := 25) C dX5_drawn_25 cb_8 ?_
  refine g_iushr (pc := 27) C dX5_drawn_27 ?_
  exact rtI hr dX5_drawn_28 h
theorem c_X5_drawn (l : Launch) (y : YT) (xa0 : Nat) (σ σ' : Sto) (r : Int32) (h : F_X5_drawn xa0 σ = some (r, σ')) : MI l y yX5_drawn (Cond.code yX5_drawn cX5_drawn 1 (some .int) :: TT) rm_X5_drawn [.ref (yad y (xa0))] σ r σ' :=
  mkI (by decide) rfl rfl rfl (Nat.le_of_ble_eq_true rfl) (fun x Z C hr => b_X5_drawn_0 C hr xa0 σ h)
def rm_X5_lamps : Room := { frames := 7, cells := 0, slots := 0, locals := 156 }
def F_X5_lamps_b39 (xk_39 : Nat → Int32 → Int32 → Sto → Option (Int32 × Sto)) (xa0 : Nat) (xa1 : Int32) (xa2 : Int32) (σ : Sto) : Option (Int32 × Sto) := if xa1 ≤ xa2 then ck (kd (xa0) == 5) (bnd (F_X5_sumOf (xa0) 5 σ) (fun xr5 xσ2 => some (xr5, xσ2))) else ck (kd (xa0) == 5) (bnd (F_X5_drawn (xa0) σ) (fun xr9 xσ7 => lts (up2 xσ7 50 4 (irm xr9 10)) (fun xσ10 => bnd (F_X5_drawn (xa0) xσ10) (fun xr13 xσ11 => lti (irm xr13 8) (fun xv14 => lti (17 + (irm (xσ11 50 0) 6)) (fun xv15 => bnd (F_X5_isSitter (xa0) (xv14) xσ11) (fun xr18 xσ16 => if (xr18) = 0 then ck (inr (xv15) (79)) (ck (inr (xv15) (79)) (lts (up2 xσ16 50 (xv15.toNatClampNeg) (xσ16 50 (xv15.toNatClampNeg))) (fun xσ22 => bnd (F_X5_minute (xa0) xσ22) (fun xr25 xσ23 => xk_39 xa0 xa1 (xa2 + 1) xσ23)))) else ck (inr (xv15) (79)) (lts (up2 xσ16 50 (xv15.toNatClampNeg) (xv14)) (fun xσ27 => bnd (F_X5_minute (xa0) xσ27) (fun xr30 xσ28 => xk_39 xa0 xa1 (xa2 + 1) xσ28))))))))))
def F_X5_lamps (xa0 : Nat) (xa1 : Int32) (σ : Sto) : Option (Int32 × Sto) := bnd (F_X5_within (xa1) 1 20 σ) (fun xr3 xσ1 => if (xr3) = 0 then ck (kd (xa0) == 5) (bnd (F_X5_finding (xa0) (-1000001) xσ1) (fun xr13 xσ10 => some (xr13, xσ10))) else ck (kd (xa0) == 5) (if ((xσ1 50 0) + xa1) ≤ 99999 then lo3 (F_X5_lamps_b39) 1000 xa0 xa1 0 xσ1 else bnd (F_X5_finding (xa0) (-1000005) xσ1) (fun xr9 xσ7 => some (xr9, xσ7))))
set_option maxHeartbeats 4000000 in
set_option maxRecDepth 20000 in
theorem b_X5_lamps_39 {x : XT} {y : YT} {Z : State → Prop} (C : Cx x y (AY y) RX5 cX5_lamps 5 rm_X5_lamps) {r : Int32} {σ' : Sto} (hr : RetI x y (AY y) 5 cX5_lamps Z r σ') (xk_39 : Nat → Int32 → Int32 → Sto → Option (Int32 × Sto)) (xH39 : ∀ (xa0 : Nat) (xa1 : Int32) (xa2 : Int32) (σ : Sto), xk_39 xa0 xa1 xa2 σ = some (r, σ') → GW x y (AY y) 5 Z 39 [(0, .ref (yad y (xa0))), (1, .int (xa1)), (2, .int (xa2))] [] σ) (xa0 : Nat) (xa1 : Int32) (xa2 : Int32) (σ : Sto) (h : F_X5_lamps_b39 xk_39 xa0 xa1 xa2 σ = some (r, σ')) : GW x y (AY y) 5 Z 39 [(0, .ref (yad y (xa0))), (1, .int (xa1)), (2, .int (xa2))] [] σ := by
  unfold F_X5_lamps_b39 at h
  refine g_iload_n (pc := 39) C dX5_lamps_39 rfl 2 rfl ?_
  refine g_iload_n (pc := 40) C dX5_lamps_40 rfl 1 rfl ?_
  refine g_icmp_ge (pc := 41) C dX5_lamps_41 (tgt := 115) rfl (fun xq1 => ?_) (fun xq1 => ?_)
  · have h := iP xq1 h
    refine g_aload_n (pc := 115) C dX5_lamps_115 rfl 0 rfl ?_
    refine g_iconst (v := 5) (pc := 116) C dX5_lamps_116 ci_5 ?_
    obtain ⟨xq4, h⟩ := iC h
    have xq4 := keq xq4
    obtain ⟨xr5, xσ2, xc3, h⟩ := iB h
    refine g_callVi (pc := 117) (As := [.int (5)]) (rest := []) C dX5_lamps_117 (fun l => c_X5_sumOf l y _ _ _ _ _ xc3) cv_X5_166 ⟨rfl, rfl, Nat.le_of_ble_eq_true rfl, Nat.le_of_ble_eq_true rfl⟩ (rv5 xq4) rfl (Nat.le_of_ble_eq_true rfl) ?_
    exact rtI hr dX5_lamps_120 h
  · have h := iN xq1 h
    refine g_aload_n (pc := 44) C dX5_lamps_44 rfl 0 rfl ?_
    obtain ⟨xq6, h⟩ := iC h
    have xq6 := keq xq6
    refine gf_5_0 (pc := 45) C wf_X5_9 dX5_lamps_45 xq6 ?_
    refine g_iconst (v := 4) (pc := 48) C dX5_lamps_48 ci_4 ?_
    refine g_aload_n (pc := 49) C dX5_lamps_49 rfl 0 rfl ?_
    obtain ⟨xr9, xσ7, xc8, h⟩ := iB h
    refine g_callVi (pc := 50) (As := []) (rest := [.int (4), .ref (yad y (50))]) C dX5_lamps_50 (fun l => c_X5_drawn l y _ _ _ _ xc8) cv_X5_235 ⟨rfl, rfl, Nat.le_of_ble_eq_true rfl, Nat.le_of_ble_eq_true rfl⟩ (rv5 xq6) rfl (Nat.le_of_ble_eq_true rfl) ?_
    refine g_bipush (v := 10) (pc := 53) C dX5_lamps_53 cb_10 ?_
    refine g_irem (pc := 55) C dX5_lamps_55 (by decide) ?_
    refine g_iast (pc := 56) C dX5_lamps_56 rfl (ivp (by decide) rfl) (j := 4) ct_4 ?_
    refine g_letS h (fun xσ10 h => ?_)
    refine g_aload_n (pc := 57) C dX5_lamps_57 rfl 0 rfl ?_
    obtain ⟨xr13, xσ11, xc12, h⟩ := iB h
    refine g_callVi (pc := 58) (As := []) (rest := []) C dX5_lamps_58 (fun l => c_X5_drawn l y _ _ _ _ xc12) cv_X5_235 ⟨rfl, rfl, Nat.le_of_ble_eq_true rfl, Nat.le_of_ble_eq_true rfl⟩ (rv5 xq6) rfl (Nat.le_of_ble_eq_true rfl) ?_
    refine g_bipush (v := 8) (pc := 61) C dX5_lamps_61 cb_8 ?_
    refine g_irem (pc := 63) C dX5_lamps_63 (by decide) ?_
    refine g_letI h (fun xv14 h => ?_)
    refine g_istore_n (i := 3) (lv' := [(3, .int (xv14)), (0, .ref (yad y (xa0))), (1, .int (xa1)), (2, .int (xa2))]) (pc := 64) C dX5_lamps_64 rfl (Nat.le_of_ble_eq_true rfl) rfl ?_
    refine g_bipush (v := 17) (pc := 65) C dX5_lamps_65 cb_17 ?_
    refine g_aload_n (pc := 67) C dX5_lamps_67 rfl 1 rfl ?_
    refine gf_5_0 (pc := 68) C wf_X5_9 dX5_lamps_68 xq6 ?_
    refine g_iconst (v := 0) (pc := 71) C dX5_lamps_71 ci_0 ?_
    refine g_iald (pc := 72) C dX5_lamps_72 rfl (ivp (by decide) rfl) (j := 0) ct_0 ?_
    refine g_bipush (v := 6) (pc := 73) C dX5_lamps_73 cb_6 ?_
    refine g_irem (pc := 75) C dX5_lamps_75 (by decide) ?_
    refine g_iadd (pc := 76) C dX5_lamps_76 ?_
    refine g_letI h (fun xv15 h => ?_)
    refine g_istore (i := 4) (lv' := [(4, .int (xv15)), (3, .int (xv14)), (0, .ref (yad y (xa0))), (1, .int (xa1)), (2, .int (xa2))]) (pc := 77) C dX5_lamps_77 (Nat.le_of_ble_eq_true rfl) rfl ?_
    refine g_aload_n (pc := 79) C dX5_lamps_79 rfl 2 rfl ?_
    refine gf_5_0 (pc := 80) C wf_X5_9 dX5_lamps_80 xq6 ?_
    refine g_iload (pc := 83) C dX5_lamps_83 0 rfl ?_
    refine g_aload_n (pc := 85) C dX5_lamps_85 rfl 2 rfl ?_
    refine g_iload_n (pc := 86) C dX5_lamps_86 rfl 1 rfl ?_
    obtain ⟨xr18, xσ16, xc17, h⟩ := iB h
    refine g_callVi (pc := 87) (As := [.int (xv14)]) (rest := [.int (xv15), .ref (yad y (50))]) C dX5_lamps_87 (fun l => c_X5_isSitter l y _ _ _ _ _ xc17) cv_X5_83 ⟨rfl, rfl, Nat.le_of_ble_eq_true rfl, Nat.le_of_ble_eq_true rfl⟩ (rv5 xq6) rfl (Nat.le_of_ble_eq_true rfl) ?_
    refine g_if_eq (pc := 90) C dX5_lamps_90 (tgt := 97) rfl (fun xq19 => ?_) (fun xq19 => ?_)
    · have h := iP xq19 h
      refine g_aload_n (pc := 97) C dX5_lamps_97 rfl 2 rfl ?_
      refine gf_5_0 (pc := 98) C wf_X5_9 dX5_lamps_98 xq6 ?_
      refine g_iload (pc := 101) C dX5_lamps_101 0 rfl ?_
      obtain ⟨xq20, h⟩ := iC h
      refine g_iald (pc := 103) C dX5_lamps_103 rfl (ivp xq20 rfl) (j := xv15.toNatClampNeg) rfl ?_
      obtain ⟨xq21, h⟩ := iC h
      refine g_iast (pc := 104) C dX5_lamps_104 rfl (ivp xq21 rfl) (j := xv15.toNatClampNeg) rfl ?_
      refine g_letS h (fun xσ22 h => ?_)
      refine g_aload_n (pc := 105) C dX5_lamps_105 rfl 2 rfl ?_
      obtain ⟨xr25, xσ23, xc24, h⟩ := iB h
      refine g_callVv (pc := 106) (As := []) (rest := []) C dX5_lamps_106 (fun l => c_X5_minute l y _ _ _ _ xc24) cv_X5_159 ⟨rfl, rfl, Nat.le_of_ble_eq_true rfl, Nat.le_of_ble_eq_true rfl⟩ (rv5 xq6) rfl (Nat.le_of_ble_eq_true rfl) ?_
      refine g_iinc (lv' := [(2, .int (xa2 + 1)), (4, .int (xv15)), (3, .int (xv14)), (0, .ref (yad y (xa0))), (1, .int (xa1))]) (w := xa2 + 1) (pc := 109) C dX5_lamps_109 (k := 4) rfl rfl (Nat.le_of_ble_eq_true rfl) rfl ?_
      refine g_goto (pc := 112) C dX5_lamps_112 (tgt := 39) rfl ?_
      refine g_sub (lv' := [(0, .ref (yad y (xa0))), (1, .int (xa1)), (2, .int (xa2 + 1))]) C [3, 4, 0] rfl ?_
      exact xH39 xa0 xa1 (xa2 + 1) xσ23 h
    · have h := iN xq19 h
      refine g_iload_n (pc := 93) C dX5_lamps_93 rfl 1 rfl ?_
      refine g_goto (pc := 94) C dX5_lamps_94 (tgt := 104) rfl ?_
      obtain ⟨xq26, h⟩ := iC h
      refine g_iast (pc := 104) C dX5_lamps_104 rfl (ivp xq26 rfl) (j := xv15.toNatClampNeg) rfl ?_
      refine g_letS h (fun xσ27 h => ?_)
      refine g_aload_n (pc := 105) C dX5_lamps_105 rfl 2 rfl ?_
      obtain ⟨xr30, xσ28, xc29, h⟩ := iB h
      refine g_callVv (pc := 106) (As := []) (rest := []) C dX5_lamps_106 (fun l => c_X5_minute l y _ _ _ _ xc29) cv_X5_159 ⟨rfl, rfl, Nat.le_of_ble_eq_true rfl, Nat.le_of_ble_eq_true rfl⟩ (rv5 xq6) rfl (Nat.le_of_ble_eq_true rfl) ?_
      refine g_iinc (lv' := [(2, .int (xa2 + 1)), (4, .int (xv15)), (3, .int (xv14)), (0, .ref (yad y (xa0))), (1, .int (xa1))]) (w := xa2 + 1) (pc := 109) C dX5_lamps_109 (k := 4) rfl rfl (Nat.le_of_ble_eq_true rfl) rfl ?_
      refine g_goto (pc := 112) C dX5_lamps_112 (tgt := 39) rfl ?_
      refine g_sub (lv' := [(0, .ref (yad y (xa0))), (1, .int (xa1)), (2, .int (xa2 + 1))]) C [3, 4, 0] rfl ?_
      exact xH39 xa0 xa1 (xa2 + 1) xσ28 h
theorem l_X5_lamps_39 {x : XT} {y : YT} {Z : State → Prop} (C : Cx x y (AY y) RX5 cX5_lamps 5 rm_X5_lamps) {r : Int32} {σ' : Sto} (hr : RetI x y (AY y) 5 cX5_lamps Z r σ') (n : Nat) (xa0 : Nat) (xa1 : Int32) (xa2 : Int32) (σ : Sto) (h : lo3 (F_X5_lamps_b39) n xa0 xa1 xa2 σ = some (r, σ')) : GW x y (AY y) 5 Z 39 [(0, .ref (yad y (xa0))), (1, .int (xa1)), (2, .int (xa2))] [] σ :=
  lo3_gw (G := fun xa0 xa1 xa2 σ => GW x y (AY y) 5 Z 39 [(0, .ref (yad y (xa0))), (1, .int (xa1)), (2, .int (xa2))] [] σ) (fun xk xHk xa0 xa1 xa2 σ h => b_X5_lamps_39 C hr xk xHk xa0 xa1 xa2 σ h) n xa0 xa1 xa2 σ h
set_option maxHeartbeats 4000000 in
set_option maxRecDepth 20000 in
theorem b_X5_lamps_0 {x : XT} {y : YT} {Z : State → Prop} (C : Cx x y (AY y) RX5 cX5_lamps 5 rm_X5_lamps) {r : Int32} {σ' : Sto} (hr : RetI x y (AY y) 5 cX5_lamps Z r σ') (xa0 : Nat) (xa1 : Int32) (σ : Sto) (h : F_X5_lamps xa0 xa1 σ = some (r, σ')) : GW x y (AY y) 5 Z 0 [(0, .ref (yad y (xa0))), (1, .int (xa1))] [] σ := by
  unfold F_X5_lamps at h
  refine g_iload_n (pc := 0) C dX5_lamps_0 rfl 1 rfl ?_
  refine g_iconst (v := 1) (pc := 1) C dX5_lamps_1 ci_1 ?_
  refine g_bipush (v := 20) (pc := 2) C dX5_lamps_2 cb_20 ?_
  obtain ⟨xr3, xσ1, xc2, h⟩ := iB h
  refine g_callSi (pc := 4) (As := [.int (xa1), .int (1), .int (20)]) (rest := []) C dX5_lamps_4 (fun l => c_X5_within l y _ _ _ _ _ _ xc2) cv_X5_70 ⟨rfl, rfl, Nat.le_of_ble_eq_true rfl, Nat.le_of_ble_eq_true rfl⟩ rfl (Nat.le_of_ble_eq_true rfl) ?_
  refine g_if_ne (pc := 7) C dX5_lamps_7 (tgt := 17) rfl (fun xq4 => ?_) (fun xq4 => ?_)
  · have h := iN xq4 h
    refine g_aload_n (pc := 17) C dX5_lamps_17 rfl 0 rfl ?_
    obtain ⟨xq5, h⟩ := iC h
    have xq5 := keq xq5
    refine gf_5_0 (pc := 18) C wf_X5_9 dX5_lamps_18 xq5 ?_
    refine g_iconst (v := 0) (pc := 21) C dX5_lamps_21 ci_0 ?_
    refine g_iald (pc := 22) C dX5_lamps_22 rfl (ivp (by decide) rfl) (j := 0) ct_0 ?_
    refine g_iload_n (pc := 23) C dX5_lamps_23 rfl 1 rfl ?_
    refine g_iadd (pc := 24) C dX5_lamps_24 ?_
    refine g_ldc (v := 99999) (pc := 25) C dX5_lamps_25 wk_X5_74 ?_
    refine g_icmp_le (pc := 27) C dX5_lamps_27 (tgt := 37) rfl (fun xq6 => ?_) (fun xq6 => ?_)
    · have h := iP xq6 h
      refine g_iconst (v := 0) (pc := 37) C dX5_lamps_37 ci_0 ?_
      refine g_istore_n (i := 2) (lv' := [(2, .int (0)), (0, .ref (yad y (xa0))), (1, .int (xa1))]) (pc := 38) C dX5_lamps_38 rfl (Nat.le_of_ble_eq_true rfl) rfl ?_
      refine g_sub (lv' := [(0, .ref (yad y (xa0))), (1, .int (xa1)), (2, .int (0))]) C [1, 2, 0] rfl ?_
      exact l_X5_lamps_39 C hr 1000 xa0 xa1 0 xσ1 h
    · have h := iN xq6 h
      refine g_aload_n (pc := 30) C dX5_lamps_30 rfl 0 rfl ?_
      refine g_ldc (v := (-1000005)) (pc := 31) C dX5_lamps_31 wk_X5_162 ?_
      obtain ⟨xr9, xσ7, xc8, h⟩ := iB h
      refine g_callVi (pc := 33) (As := [.int ((-1000005))]) (rest := []) C dX5_lamps_33 (fun l => c_X5_finding l y _ _ _ _ _ xc8) cv_X5_66 ⟨rfl, rfl, Nat.le_of_ble_eq_true rfl, Nat.le_of_ble_eq_true rfl⟩ (rv5 xq5) rfl (Nat.le_of_ble_eq_true rfl) ?_
      exact rtI hr dX5_lamps_36 h
  · have h := iP xq4 h
    refine g_aload_n (pc := 10) C dX5_lamps_10 rfl 0 rfl ?_
    refine g_ldc (v := (-1000001)) (pc := 11) C dX5_lamps_11 wk_X5_60 ?_
    obtain ⟨xq12, h⟩ := iC h
    have xq12 := keq xq12
    obtain ⟨xr13, xσ10, xc11, h⟩ := iB h
    refine g_callVi (pc := 13) (As := [.int ((-1000001))]) (rest := []) C dX5_lamps_13 (fun l => c_X5_finding l y _ _ _ _ _ xc11) cv_X5_66 ⟨rfl, rfl, Nat.le_of_ble_eq_true rfl, Nat.le_of_ble_eq_true rfl⟩ (rv5 xq12) rfl (Nat.le_of_ble_eq_true rfl) ?_
    exact rtI hr dX5_lamps_16 h
theorem c_X5_lamps (l : Launch) (y : YT) (xa0 : Nat) (xa1 : Int32) (σ σ' : Sto) (r : Int32) (h : F_X5_lamps xa0 xa1 σ = some (r, σ')) : MI l y yX5_lamps (Cond.code yX5_lamps cX5_lamps 5 (some .int) :: TT) rm_X5_lamps [.ref (yad y (xa0)), .int (xa1)] σ r σ' :=
  mkI (by decide) rfl rfl rfl (Nat.le_of_ble_eq_true rfl) (fun x Z C hr => b_X5_lamps_0 C hr xa0 xa1 σ h)
def rm_X5_odds : Room := { frames := 4, cells := 0, slots := 0, locals := 90 }
def F_X5_odds_b142 (xk_142 : Int32 → Int32 → Int32 → Int32 → Int64 → Int32 → Sto → Option (Int64 × Sto)) (xa3 : Int32) (xa4 : Int32) (xa6 : Int32) (xa7 : Int32) (xa9 : Int64) (xa11 : Int32) (σ : Sto) : Option (Int64 × Sto) := if xa3 ≤ xa11 then some (xa9, σ) else if (xa4) = 0 then ck (nz (xa7)) (ltl ((xa9) * ((xa6 / xa7 : Int32).toInt64)) (fun xv6 => xk_142 xa3 xa4 xa6 xa7 xv6 (xa11 + 1) σ)) else ck (nz (xa7)) (ltl ((xa9) * ((10 / xa7 : Int32).toInt64)) (fun xv4 => xk_142 xa3 xa4 xa6 xa7 xv4 (xa11 + 1) σ))
def F_X5_odds_b113 (xk_113 : Int32 → Int32 → Int32 → Int32 → Int32 → Sto → Option (Int64 × Sto)) (xa3 : Int32) (xa4 : Int32) (xa6 : Int32) (xa7 : Int32) (xa8 : Int32) (σ : Sto) : Option (Int64 × Sto) := if (xa8) = 0 then ltl ((1 : Int64)) (fun xv2 => lo6 (F_X5_odds_b142) 1000 xa3 xa4 xa6 xa7 xv2 0 σ) else ck (nz (xa8)) (lti (irm xa7 xa8) (fun xv4 => xk_113 xa3 xa4 xa6 xa8 xv4 σ))
def F_X5_odds_b57 (xk_57 : Nat → Int32 → Int32 → Int32 → Int32 → Int32 → Int32 → Int32 → Sto → Option (Int64 × Sto)) (xa0 : Nat) (xa1 : Int32) (xa2 : Int32) (xa3 : Int32) (xa4 : Int32) (xa5 : Int32) (xa6 : Int32) (xa7 : Int32) (σ : Sto) : Option (Int64 × Sto) := if 9 < xa7 then ck (kd (xa0) == 5) (lts (up2 σ 50 4 (xa5)) (fun xσ3 => lo5 (F_X5_odds_b113) 1000 xa3 xa4 xa6 10 xa6 xσ3)) else ck (kd (xa0) == 5) (lts (up2 σ 50 4 (xa7)) (fun xσ5 => bnd (F_X5_faultsNow (xa0) (xa1) (xa2) xσ5) (fun xr8 xσ6 => if (xr8) = 0 then lti (xa6 + 1) (fun xv11 => xk_57 xa0 xa1 xa2 xa3 xa4 xa5 xv11 (xa7 + 1) xσ6) else lti (xa6 + 0) (fun xv10 => xk_57 xa0 xa1 xa2 xa3 xa4 xa5 xv10 (xa7 + 1) xσ6))))
def F_X5_odds (xa0 : Nat) (xa1 : Int32) (xa2 : Int32) (xa3 : Int32) (xa4 : Int32) (σ : Sto) : Option (Int64 × Sto) := ck (kd (xa0) == 5) (bnd (F_X5_isSitter (xa0) (xa1) σ) (fun xr4 xσ1 => if (xr4) = 0 then bnd (F_X5_finding (xa0) (-1000001) xσ1) (fun xr8 xσ6 => some ((xr8 : Int32).toInt64, xσ6)) else bnd (F_X5_isFlash (xa2) xσ1) (fun xr11 xσ9 => if (xr11) = 0 then bnd (F_X5_finding (xa0) (-1000001) xσ9) (fun xr15 xσ13 => some ((xr15 : Int32).toInt64, xσ13)) else bnd (F_X5_within (xa3) 0 18 xσ9) (fun xr18 xσ16 => if (xr18) = 0 then bnd (F_X5_finding (xa0) (-1000001) xσ16) (fun xr22 xσ20 => some ((xr22 : Int32).toInt64, xσ20)) else bnd (F_X5_within (xa4) 0 1 xσ16) (fun xr25 xσ23 => if (xr25) = 0 then bnd (F_X5_finding (xa0) (-1000001) xσ23) (fun xr30 xσ28 => some ((xr30 : Int32).toInt64, xσ28)) else lti (xσ23 50 4) (fun xv27 => lo8 (F_X5_odds_b57) 1000 xa0 xa1 xa2 xa3 xa4 xv27 0 0 xσ23))))))
set_option maxHeartbeats 4000000 in
set_option maxRecDepth 20000 in
theorem b_X5_odds_142 {x : XT} {y : YT} {Z : State → Prop} (C : Cx x y (AY y) RX5 cX5_odds 12 rm_X5_odds) {r : Int64} {σ' : Sto} (hr : RetL x y (AY y) 12 cX5_odds Z r σ') (xk_142 : Int32 → Int32 → Int32 → Int32 → Int64 → Int32 → Sto → Option (Int64 × Sto)) (xH142 : ∀ (xa3 : Int32) (xa4 : Int32) (xa6 : Int32) (xa7 : Int32) (xa9 : Int64) (xa11 : Int32) (σ : Sto), xk_142 xa3 xa4 xa6 xa7 xa9 xa11 σ = some (r, σ') → GW x y (AY y) 12 Z 142 [(3, .int (xa3)), (4, .int (xa4)), (6, .int (xa6)), (7, .int (xa7)), (9, .long (xa9)), (11, .int (xa11))] [] σ) (xa3 : Int32) (xa4 : Int32) (xa6 : Int32) (xa7 : Int32) (xa9 : Int64) (xa11 : Int32) (σ : Sto) (h : F_X5_odds_b142 xk_142 xa3 xa4 xa6 xa7 xa9 xa11 σ = some (r, σ')) : GW x y (AY y) 12 Z 142 [(3, .int (xa3)), (4, .int (xa4)), (6, .int (xa6)), (7, .int (xa7)), (9, .long (xa9)), (11, .int (xa11))] [] σ := by
  unfold F_X5_odds_b142 at h
  refine g_iload (pc := 142) C dX5_odds_142 5 rfl ?_
  refine g_iload_n (pc := 144) C dX5_odds_144 rfl 0 rfl ?_
  refine g_icmp_ge (pc := 145) C dX5_odds_145 (tgt := 179) rfl (fun xq1 => ?_) (fun xq1 => ?_)
  · have h := iP xq1 h
    refine g_lload (pc := 179) C dX5_odds_179 4 rfl ?_
    exact rtL hr dX5_odds_181 h
  · have h := iN xq1 h
    refine g_lload (pc := 148) C dX5_odds_148 4 rfl ?_
    refine g_iload (pc := 150) C dX5_odds_150 1 rfl ?_
    refine g_if_ne (pc := 152) C dX5_odds_152 (tgt := 164) rfl (fun xq2 => ?_) (fun xq2 => ?_)
    · have h := iN xq2 h
      refine g_bipush (v := 10) (pc := 164) C dX5_odds_164 cb_10 ?_
      refine g_iload (pc := 166) C dX5_odds_166 3 rfl ?_
      obtain ⟨xq3, h⟩ := iC h
      refine g_idiv (pc := 168) C dX5_odds_168 (nz_ne xq3) ?_
      refine g_i2l (pc := 169) C dX5_odds_169 ?_
      refine g_lmul (pc := 170) C dX5_odds_170 ?_
      refine g_letL h (fun xv4 h => ?_)
      refine g_lstore (i := 9) (lv' := [(9, .long (xv4)), (3, .int (xa3)), (4, .int (xa4)), (6, .int (xa6)), (7, .int (xa7)), (11, .int (xa11))]) (pc := 171) C dX5_odds_171 (Nat.le_of_ble_eq_true rfl) rfl ?_
      refine g_iinc (lv' := [(11, .int (xa11 + 1)), (9, .long (xv4)), (3, .int (xa3)), (4, .int (xa4)), (6, .int (xa6)), (7, .int (xa7))]) (w := xa11 + 1) (pc := 173) C dX5_odds_173 (k := 5) rfl rfl (Nat.le_of_ble_eq_true rfl) rfl ?_
      refine g_goto (pc := 176) C dX5_odds_176 (tgt := 142) rfl ?_
      refine g_sub (lv' := [(3, .int (xa3)), (4, .int (xa4)), (6, .int (xa6)), (7, .int (xa7)), (9, .long (xv4)), (11, .int (xa11 + 1))]) C [2, 3, 4, 5, 1, 0] rfl ?_
      exact xH142 xa3 xa4 xa6 xa7 xv4 (xa11 + 1) σ h
    · have h := iP xq2 h
      refine g_iload (pc := 155) C dX5_odds_155 2 rfl ?_
      refine g_iload (pc := 157) C dX5_odds_157 3 rfl ?_
      obtain ⟨xq5, h⟩ := iC h
      refine g_idiv (pc := 159) C dX5_odds_159 (nz_ne xq5) ?_
      refine g_i2l (pc := 160) C dX5_odds_160 ?_
      refine g_goto (pc := 161) C dX5_odds_161 (tgt := 170) rfl ?_
      refine g_lmul (pc := 170) C dX5_odds_170 ?_
      refine g_letL h (fun xv6 h => ?_)
      refine g_lstore (i := 9) (lv' := [(9, .long (xv6)), (3, .int (xa3)), (4, .int (xa4)), (6, .int (xa6)), (7, .int (xa7)), (11, .int (xa11))]) (pc := 171) C dX5_odds_171 (Nat.le_of_ble_eq_true rfl) rfl ?_
      refine g_iinc (lv' := [(11, .int (xa11 + 1)), (9, .long (xv6)), (3, .int (xa3)), (4, .int (xa4)), (6, .int (xa6)), (7, .int (xa7))]) (w := xa11 + 1) (pc := 173) C dX5_odds_173 (k := 5) rfl rfl (Nat.le_of_ble_eq_true rfl) rfl ?_
      refine g_goto (pc := 176) C dX5_odds_176 (tgt := 142) rfl ?_
      refine g_sub (lv' := [(3, .int (xa3)), (4, .int (xa4)), (6, .int (xa6)), (7, .int (xa7)), (9, .long (xv6)), (11, .int (xa11 + 1))]) C [2, 3, 4, 5, 1, 0] rfl ?_
      exact xH142 xa3 xa4 xa6 xa7 xv6 (xa11 + 1) σ h
theorem l_X5_odds_142 {x : XT} {y : YT} {Z : State → Prop} (C : Cx x y (AY y) RX5 cX5_odds 12 rm_X5_odds) {r : Int64} {σ' : Sto} (hr : RetL x y (AY y) 12 cX5_odds Z r σ') (n : Nat) (xa3 : Int32) (xa4 : Int32) (xa6 : Int32) (xa7 : Int32) (xa9 : Int64) (xa11 : Int32) (σ : Sto) (h : lo6 (F_X5_odds_b142) n xa3 xa4 xa6 xa7 xa9 xa11 σ = some (r, σ')) : GW x y (AY y) 12 Z 142 [(3, .int (xa3)), (4, .int (xa4)), (6, .int (xa6)), (7, .int (xa7)), (9, .long (xa9)), (11, .int (xa11))] [] σ :=
  lo6_gw (G := fun xa3 xa4 xa6 xa7 xa9 xa11 σ => GW x y (AY y) 12 Z 142 [(3, .int (xa3)), (4, .int (xa4)), (6, .int (xa6)), (7, .int (xa7)), (9, .long (xa9)), (11, .int (xa11))] [] σ) (fun xk xHk xa3 xa4 xa6 xa7 xa9 xa11 σ h => b_X5_odds_142 C hr xk xHk xa3 xa4 xa6 xa7 xa9 xa11 σ h) n xa3 xa4 xa6 xa7 xa9 xa11 σ h
set_option maxHeartbeats 4000000 in
set_option maxRecDepth 20000 in
theorem b_X5_odds_113 {x : XT} {y : YT} {Z : State → Prop} (C : Cx x y (AY y) RX5 cX5_odds 12 rm_X5_odds) {r : Int64} {σ' : Sto} (hr : RetL x y (AY y) 12 cX5_odds Z r σ') (xk_113 : Int32 → Int32 → Int32 → Int32 → Int32 → Sto → Option (Int64 × Sto)) (xH113 : ∀ (xa3 : Int32) (xa4 : Int32) (xa6 : Int32) (xa7 : Int32) (xa8 : Int32) (σ : Sto), xk_113 xa3 xa4 xa6 xa7 xa8 σ = some (r, σ') → GW x y (AY y) 12 Z 113 [(3, .int (xa3)), (4, .int (xa4)), (6, .int (xa6)), (7, .int (xa7)), (8, .int (xa8))] [] σ) (xa3 : Int32) (xa4 : Int32) (xa6 : Int32) (xa7 : Int32) (xa8 : Int32) (σ : Sto) (h : F_X5_odds_b113 xk_113 xa3 xa4 xa6 xa7 xa8 σ = some (r, σ')) : GW x y (AY y) 12 Z 113 [(3, .int (xa3)), (4, .int (xa4)), (6, .int (xa6)), (7, .int (xa7)), (8, .int (xa8))] [] σ := by
  unfold F_X5_odds_b113 at h
  refine g_iload (pc := 113) C dX5_odds_113 4 rfl ?_
  refine g_if_eq (pc := 115) C dX5_odds_115 (tgt := 136) rfl (fun xq1 => ?_) (fun xq1 => ?_)
  · have h := iP xq1 h
    refine g_lconst (v := 1) (pc := 136) C dX5_odds_136 cl_1 ?_
    refine g_letL h (fun xv2 h => ?_)
    refine g_lstore (i := 9) (lv' := [(9, .long (xv2)), (3, .int (xa3)), (4, .int (xa4)), (6, .int (xa6)), (7, .int (xa7)), (8, .int (xa8))]) (pc := 137) C dX5_odds_137 (Nat.le_of_ble_eq_true rfl) rfl ?_
    refine g_iconst (v := 0) (pc := 139) C dX5_odds_139 ci_0 ?_
    refine g_istore (i := 11) (lv' := [(11, .int (0)), (9, .long (xv2)), (3, .int (xa3)), (4, .int (xa4)), (6, .int (xa6)), (7, .int (xa7)), (8, .int (xa8))]) (pc := 140) C dX5_odds_140 (Nat.le_of_ble_eq_true rfl) rfl ?_
    refine g_sub (lv' := [(3, .int (xa3)), (4, .int (xa4)), (6, .int (xa6)), (7, .int (xa7)), (9, .long (xv2)), (11, .int (0))]) C [2, 3, 4, 5, 1, 0] rfl ?_
    exact l_X5_odds_142 C hr 1000 xa3 xa4 xa6 xa7 xv2 0 σ h
  · have h := iN xq1 h
    refine g_iload (pc := 118) C dX5_odds_118 3 rfl ?_
    refine g_iload (pc := 120) C dX5_odds_120 4 rfl ?_
    obtain ⟨xq3, h⟩ := iC h
    refine g_irem (pc := 122) C dX5_odds_122 (nz_ne xq3) ?_
    refine g_letI h (fun xv4 h => ?_)
    refine g_istore (i := 9) (lv' := [(9, .int (xv4)), (3, .int (xa3)), (4, .int (xa4)), (6, .int (xa6)), (7, .int (xa7)), (8, .int (xa8))]) (pc := 123) C dX5_odds_123 (Nat.le_of_ble_eq_true rfl) rfl ?_
    refine g_iload (pc := 125) C dX5_odds_125 5 rfl ?_
    refine g_istore (i := 7) (lv' := [(7, .int (xa8)), (9, .int (xv4)), (3, .int (xa3)), (4, .int (xa4)), (6, .int (xa6)), (8, .int (xa8))]) (pc := 127) C dX5_odds_127 (Nat.le_of_ble_eq_true rfl) rfl ?_
    refine g_iload (pc := 129) C dX5_odds_129 1 rfl ?_
    refine g_istore (i := 8) (lv' := [(8, .int (xv4)), (7, .int (xa8)), (9, .int (xv4)), (3, .int (xa3)), (4, .int (xa4)), (6, .int (xa6))]) (pc := 131) C dX5_odds_131 (Nat.le_of_ble_eq_true rfl) rfl ?_
    refine g_goto (pc := 133) C dX5_odds_133 (tgt := 113) rfl ?_
    refine g_sub (lv' := [(3, .int (xa3)), (4, .int (xa4)), (6, .int (xa6)), (7, .int (xa8)), (8, .int (xv4))]) C [3, 4, 5, 1, 0] rfl ?_
    exact xH113 xa3 xa4 xa6 xa8 xv4 σ h
theorem l_X5_odds_113 {x : XT} {y : YT} {Z : State → Prop} (C : Cx x y (AY y) RX5 cX5_odds 12 rm_X5_odds) {r : Int64} {σ' : Sto} (hr : RetL x y (AY y) 12 cX5_odds Z r σ') (n : Nat) (xa3 : Int32) (xa4 : Int32) (xa6 : Int32) (xa7 : Int32) (xa8 : Int32) (σ : Sto) (h : lo5 (F_X5_odds_b113) n xa3 xa4 xa6 xa7 xa8 σ = some (r, σ')) : GW x y (AY y) 12 Z 113 [(3, .int (xa3)), (4, .int (xa4)), (6, .int (xa6)), (7, .int (xa7)), (8, .int (xa8))] [] σ :=
  lo5_gw (G := fun xa3 xa4 xa6 xa7 xa8 σ => GW x y (AY y) 12 Z 113 [(3, .int (xa3)), (4, .int (xa4)), (6, .int (xa6)), (7, .int (xa7)), (8, .int (xa8))] [] σ) (fun xk xHk xa3 xa4 xa6 xa7 xa8 σ h => b_X5_odds_113 C hr xk xHk xa3 xa4 xa6 xa7 xa8 σ h) n xa3 xa4 xa6 xa7 xa8 σ h
set_option maxHeartbeats 4000000 in
set_option maxRecDepth 20000 in
theorem b_X5_odds_57 {x : XT} {y : YT} {Z : State → Prop} (C : Cx x y (AY y) RX5 cX5_odds 12 rm_X5_odds) {r : Int64} {σ' : Sto} (hr : RetL x y (AY y) 12 cX5_odds Z r σ') (xk_57 : Nat → Int32 → Int32 → Int32 → Int32 → Int32 → Int32 → Int32 → Sto → Option (Int64 × Sto)) (xH57 : ∀ (xa0 : Nat) (xa1 : Int32) (xa2 : Int32) (xa3 : Int32) (xa4 : Int32) (xa5 : Int32) (xa6 : Int32) (xa7 : Int32) (σ : Sto), xk_57 xa0 xa1 xa2 xa3 xa4 xa5 xa6 xa7 σ = some (r, σ') → GW x y (AY y) 12 Z 57 [(0, .ref (yad y (xa0))), (1, .int (xa1)), (2, .int (xa2)), (3, .int (xa3)), (4, .int (xa4)), (5, .int (xa5)), (6, .int (xa6)), (7, .int (xa7))] [] σ) (xa0 : Nat) (xa1 : Int32) (xa2 : Int32) (xa3 : Int32) (xa4 : Int32) (xa5 : Int32) (xa6 : Int32) (xa7 : Int32) (σ : Sto) (h : F_X5_odds_b57 xk_57 xa0 xa1 xa2 xa3 xa4 xa5 xa6 xa7 σ = some (r, σ')) : GW x y (AY y) 12 Z 57 [(0, .ref (yad y (xa0))), (1, .int (xa1)), (2, .int (xa2)), (3, .int (xa3)), (4, .int (xa4)), (5, .int (xa5)), (6, .int (xa6)), (7, .int (xa7))] [] σ := by
  unfold F_X5_odds_b57 at h
  refine g_iload (pc := 57) C dX5_odds_57 7 rfl ?_
  refine g_bipush (v := 9) (pc := 59) C dX5_odds_59 cb_9 ?_
  refine g_icmp_gt (pc := 61) C dX5_odds_61 (tgt := 97) rfl (fun xq1 => ?_) (fun xq1 => ?_)
  · have h := iP xq1 h
    refine g_aload_n (pc := 97) C dX5_odds_97 rfl 0 rfl ?_
    obtain ⟨xq2, h⟩ := iC h
    have xq2 := keq xq2
    refine gf_5_0 (pc := 98) C wf_X5_9 dX5_odds_98 xq2 ?_
    refine g_iconst (v := 4) (pc := 101) C dX5_odds_101 ci_4 ?_
    refine g_iload (pc := 102) C dX5_odds_102 5 rfl ?_
    refine g_iast (pc := 104) C dX5_odds_104 rfl (ivp (by decide) rfl) (j := 4) ct_4 ?_
    refine g_letS h (fun xσ3 h => ?_)
    refine g_bipush (v := 10) (pc := 105) C dX5_odds_105 cb_10 ?_
    refine g_istore (i := 7) (lv' := [(7, .int (10)), (0, .ref (yad y (xa0))), (1, .int (xa1)), (2, .int (xa2)), (3, .int (xa3)), (4, .int (xa4)), (5, .int (xa5)), (6, .int (xa6))]) (pc := 107) C dX5_odds_107 (Nat.le_of_ble_eq_true rfl) rfl ?_
    refine g_iload (pc := 109) C dX5_odds_109 7 rfl ?_
    refine g_istore (i := 8) (lv' := [(8, .int (xa6)), (7, .int (10)), (0, .ref (yad y (xa0))), (1, .int (xa1)), (2, .int (xa2)), (3, .int (xa3)), (4, .int (xa4)), (5, .int (xa5)), (6, .int (xa6))]) (pc := 111) C dX5_odds_111 (Nat.le_of_ble_eq_true rfl) rfl ?_
    refine g_sub (lv' := [(3, .int (xa3)), (4, .int (xa4)), (6, .int (xa6)), (7, .int (10)), (8, .int (xa6))]) C [5, 6, 8, 1, 0] rfl ?_
    exact l_X5_odds_113 C hr 1000 xa3 xa4 xa6 10 xa6 xσ3 h
  · have h := iN xq1 h
    refine g_aload_n (pc := 64) C dX5_odds_64 rfl 0 rfl ?_
    obtain ⟨xq4, h⟩ := iC h
    have xq4 := keq xq4
    refine gf_5_0 (pc := 65) C wf_X5_9 dX5_odds_65 xq4 ?_
    refine g_iconst (v := 4) (pc := 68) C dX5_odds_68 ci_4 ?_
    refine g_iload (pc := 69) C dX5_odds_69 7 rfl ?_
    refine g_iast (pc := 71) C dX5_odds_71 rfl (ivp (by decide) rfl) (j := 4) ct_4 ?_
    refine g_letS h (fun xσ5 h => ?_)
    refine g_iload (pc := 72) C dX5_odds_72 6 rfl ?_
    refine g_aload_n (pc := 74) C dX5_odds_74 rfl 0 rfl ?_
    refine g_iload_n (pc := 75) C dX5_odds_75 rfl 1 rfl ?_
    refine g_iload_n (pc := 76) C dX5_odds_76 rfl 2 rfl ?_
    obtain ⟨xr8, xσ6, xc7, h⟩ := iB h
    refine g_callVi (pc := 77) (As := [.int (xa1), .int (xa2)]) (rest := [.int (xa6)]) C dX5_odds_77 (fun l => c_X5_faultsNow l y _ _ _ _ _ _ xc7) cv_X5_133 ⟨rfl, rfl, Nat.le_of_ble_eq_true rfl, Nat.le_of_ble_eq_true rfl⟩ (rv5 xq4) rfl (Nat.le_of_ble_eq_true rfl) ?_
    refine g_if_ne (pc := 80) C dX5_odds_80 (tgt := 87) rfl (fun xq9 => ?_) (fun xq9 => ?_)
    · have h := iN xq9 h
      refine g_iconst (v := 0) (pc := 87) C dX5_odds_87 ci_0 ?_
      refine g_iadd (pc := 88) C dX5_odds_88 ?_
      refine g_letI h (fun xv10 h => ?_)
      refine g_istore (i := 6) (lv' := [(6, .int (xv10)), (0, .ref (yad y (xa0))), (1, .int (xa1)), (2, .int (xa2)), (3, .int (xa3)), (4, .int (xa4)), (5, .int (xa5)), (7, .int (xa7))]) (pc := 89) C dX5_odds_89 (Nat.le_of_ble_eq_true rfl) rfl ?_
      refine g_iinc (lv' := [(7, .int (xa7 + 1)), (6, .int (xv10)), (0, .ref (yad y (xa0))), (1, .int (xa1)), (2, .int (xa2)), (3, .int (xa3)), (4, .int (xa4)), (5, .int (xa5))]) (w := xa7 + 1) (pc := 91) C dX5_odds_91 (k := 7) rfl rfl (Nat.le_of_ble_eq_true rfl) rfl ?_
      refine g_goto (pc := 94) C dX5_odds_94 (tgt := 57) rfl ?_
      refine g_sub (lv' := [(0, .ref (yad y (xa0))), (1, .int (xa1)), (2, .int (xa2)), (3, .int (xa3)), (4, .int (xa4)), (5, .int (xa5)), (6, .int (xv10)), (7, .int (xa7 + 1))]) C [2, 3, 4, 5, 6, 7, 1, 0] rfl ?_
      exact xH57 xa0 xa1 xa2 xa3 xa4 xa5 xv10 (xa7 + 1) xσ6 h
    · have h := iP xq9 h
      refine g_iconst (v := 1) (pc := 83) C dX5_odds_83 ci_1 ?_
      refine g_goto (pc := 84) C dX5_odds_84 (tgt := 88) rfl ?_
      refine g_iadd (pc := 88) C dX5_odds_88 ?_
      refine g_letI h (fun xv11 h => ?_)
      refine g_istore (i := 6) (lv' := [(6, .int (xv11)), (0, .ref (yad y (xa0))), (1, .int (xa1)), (2, .int (xa2)), (3, .int (xa3)), (4, .int (xa4)), (5, .int (xa5)), (7, .int (xa7))]) (pc := 89) C dX5_odds_89 (Nat.le_of_ble_eq_true rfl) rfl ?_
      refine g_iinc (lv' := [(7, .int (xa7 + 1)), (6, .int (xv11)), (0, .ref (yad y (xa0))), (1, .int (xa1)), (2, .int (xa2)), (3, .int (xa3)), (4, .int (xa4)), (5, .int (xa5))]) (w := xa7 + 1) (pc := 91) C dX5_odds_91 (k := 7) rfl rfl (Nat.le_of_ble_eq_true rfl) rfl ?_
      refine g_goto (pc := 94) C dX5_odds_94 (tgt := 57) rfl ?_
      refine g_sub (lv' := [(0, .ref (yad y (xa0))), (1, .int (xa1)), (2, .int (xa2)), (3, .int (xa3)), (4, .int (xa4)), (5, .int (xa5)), (6, .int (xv11)), (7, .int (xa7 + 1))]) C [2, 3, 4, 5, 6, 7, 1, 0] rfl ?_
      exact xH57 xa0 xa1 xa2 xa3 xa4 xa5 xv11 (xa7 + 1) xσ6 h
theorem l_X5_odds_57 {x : XT} {y : YT} {Z : State → Prop} (C : Cx x y (AY y) RX5 cX5_odds 12 rm_X5_odds) {r : Int64} {σ' : Sto} (hr : RetL x y (AY y) 12 cX5_odds Z r σ') (n : Nat) (xa0 : Nat) (xa1 : Int32) (xa2 : Int32) (xa3 : Int32) (xa4 : Int32) (xa5 : Int32) (xa6 : Int32) (xa7 : Int32) (σ : Sto) (h : lo8 (F_X5_odds_b57) n xa0 xa1 xa2 xa3 xa4 xa5 xa6 xa7 σ = some (r, σ')) : GW x y (AY y) 12 Z 57 [(0, .ref (yad y (xa0))), (1, .int (xa1)), (2, .int (xa2)), (3, .int (xa3)), (4, .int (xa4)), (5, .int (xa5)), (6, .int (xa6)), (7, .int (xa7))] [] σ :=
  lo8_gw (G := fun xa0 xa1 xa2 xa3 xa4 xa5 xa6 xa7 σ => GW x y (AY y) 12 Z 57 [(0, .ref (yad y (xa0))), (1, .int (xa1)), (2, .int (xa2)), (3, .int (xa3)), (4, .int (xa4)), (5, .int (xa5)), (6, .int (xa6)), (7, .int (xa7))] [] σ) (fun xk xHk xa0 xa1 xa2 xa3 xa4 xa5 xa6 xa7 σ h => b_X5_odds_57 C hr xk xHk xa0 xa1 xa2 xa3 xa4 xa5 xa6 xa7 σ h) n xa0 xa1 xa2 xa3 xa4 xa5 xa6 xa7 σ h
set_option maxHeartbeats 4000000 in
set_option maxRecDepth 20000 in
theorem b_X5_odds_0 {x : XT} {y : YT} {Z : State → Prop} (C : Cx x y (AY y) RX5 cX5_odds 12 rm_X5_odds) {r : Int64} {σ' : Sto} (hr : RetL x y (AY y) 12 cX5_odds Z r σ') (xa0 : Nat) (xa1 : Int32) (xa2 : Int32) (xa3 : Int32) (xa4 : Int32) (σ : Sto) (h : F_X5_odds xa0 xa1 xa2 xa3 xa4 σ = some (r, σ')) : GW x y (AY y) 12 Z 0 [(0, .ref (yad y (xa0))), (1, .int (xa1)), (2, .int (xa2)), (3, .int (xa3)), (4, .int (xa4))] [] σ := by
  unfold F_X5_odds at h
  refine g_aload_n (pc := 0) C dX5_odds_0 rfl 0 rfl ?_
  refine g_iload_n (pc := 1) C dX5_odds_1 rfl 1 rfl ?_
  obtain ⟨xq3, h⟩ := iC h
  have xq3 := keq xq3
  obtain ⟨xr4, xσ1, xc2, h⟩ := iB h
  refine g_callVi (pc := 2) (As := [.int (xa1)]) (rest := []) C dX5_odds_2 (fun l => c_X5_isSitter l y _ _ _ _ _ xc2) cv_X5_83 ⟨rfl, rfl, Nat.le_of_ble_eq_true rfl, Nat.le_of_ble_eq_true rfl⟩ (rv5 xq3) rfl (Nat.le_of_ble_eq_true rfl) ?_
  refine g_if_eq (pc := 5) C dX5_odds_5 (tgt := 35) rfl (fun xq5 => ?_) (fun xq5 => ?_)
  · have h := iP xq5 h
    refine g_aload_n (pc := 35) C dX5_odds_35 rfl 0 rfl ?_
    refine g_ldc (v := (-1000001)) (pc := 36) C dX5_odds_36 wk_X5_60 ?_
    obtain ⟨xr8, xσ6, xc7, h⟩ := iB h
    refine g_callVi (pc := 38) (As := [.int ((-1000001))]) (rest := []) C dX5_odds_38 (fun l => c_X5_finding l y _ _ _ _ _ xc7) cv_X5_66 ⟨rfl, rfl, Nat.le_of_ble_eq_true rfl, Nat.le_of_ble_eq_true rfl⟩ (rv5 xq3) rfl (Nat.le_of_ble_eq_true rfl) ?_
    refine g_i2l (pc := 41) C dX5_odds_41 ?_
    exact rtL hr dX5_odds_42 h
  · have h := iN xq5 h
    refine g_iload_n (pc := 8) C dX5_odds_8 rfl 2 rfl ?_
    obtain ⟨xr11, xσ9, xc10, h⟩ := iB h
    refine g_callSi (pc := 9) (As := [.int (xa2)]) (rest := []) C dX5_odds_9 (fun l => c_X5_isFlash l y _ _ _ _ xc10) cv_X5_130 ⟨rfl, rfl, Nat.le_of_ble_eq_true rfl, Nat.le_of_ble_eq_true rfl⟩ rfl (Nat.le_of_ble_eq_true rfl) ?_
    refine g_if_eq (pc := 12) C dX5_odds_12 (tgt := 35) rfl (fun xq12 => ?_) (fun xq12 => ?_)
    · have h := iP xq12 h
      refine g_aload_n (pc := 35) C dX5_odds_35 rfl 0 rfl ?_
      refine g_ldc (v := (-1000001)) (pc := 36) C dX5_odds_36 wk_X5_60 ?_
      obtain ⟨xr15, xσ13, xc14, h⟩ := iB h
      refine g_callVi (pc := 38) (As := [.int ((-1000001))]) (rest := []) C dX5_odds_38 (fun l => c_X5_finding l y _ _ _ _ _ xc14) cv_X5_66 ⟨rfl, rfl, Nat.le_of_ble_eq_true rfl, Nat.le_of_ble_eq_true rfl⟩ (rv5 xq3) rfl (Nat.le_of_ble_eq_true rfl) ?_
      refine g_i2l (pc := 41) C dX5_odds_41 ?_
      exact rtL hr dX5_odds_42 h
    · have h := iN xq12 h
      refine g_iload_n (pc := 15) C dX5_odds_15 rfl 3 rfl ?_
      refine g_iconst (v := 0) (pc := 16) C dX5_odds_16 ci_0 ?_
      refine g_bipush (v := 18) (pc := 17) C dX5_odds_17 cb_18 ?_
      obtain ⟨xr18, xσ16, xc17, h⟩ := iB h
      refine g_callSi (pc := 19) (As := [.int (xa3), .int (0), .int (18)]) (rest := []) C dX5_odds_19 (fun l => c_X5_within l y _ _ _ _ _ _ xc17) cv_X5_70 ⟨rfl, rfl, Nat.le_of_ble_eq_true rfl, Nat.le_of_ble_eq_true rfl⟩ rfl (Nat.le_of_ble_eq_true rfl) ?_
      refine g_if_eq (pc := 22) C dX5_odds_22 (tgt := 35) rfl (fun xq19 => ?_) (fun xq19 => ?_)
      · have h := iP xq19 h
        refine g_aload_n (pc := 35) C dX5_odds_35 rfl 0 rfl ?_
        refine g_ldc (v := (-1000001)) (pc := 36) C dX5_odds_36 wk_X5_60 ?_
        obtain ⟨xr22, xσ20, xc21, h⟩ := iB h
        refine g_callVi (pc := 38) (As := [.int ((-1000001))]) (rest := []) C dX5_odds_38 (fun l => c_X5_finding l y _ _ _ _ _ xc21) cv_X5_66 ⟨rfl, rfl, Nat.le_of_ble_eq_true rfl, Nat.le_of_ble_eq_true rfl⟩ (rv5 xq3) rfl (Nat.le_of_ble_eq_true rfl) ?_
        refine g_i2l (pc := 41) C dX5_odds_41 ?_
        exact rtL hr dX5_odds_42 h
      · have h := iN xq19 h
        refine g_iload (pc := 25) C dX5_odds_25 4 rfl ?_
        refine g_iconst (v := 0) (pc := 27) C dX5_odds_27 ci_0 ?_
        refine g_iconst (v := 1) (pc := 28) C dX5_odds_28 ci_1 ?_
        obtain ⟨xr25, xσ23, xc24, h⟩ := iB h
        refine g_callSi (pc := 29) (As := [.int (xa4), .int (0), .int (1)]) (rest := []) C dX5_odds_29 (fun l => c_X5_within l y _ _ _ _ _ _ xc24) cv_X5_70 ⟨rfl, rfl, Nat.le_of_ble_eq_true rfl, Nat.le_of_ble_eq_true rfl⟩ rfl (Nat.le_of_ble_eq_true rfl) ?_
        refine g_if_ne (pc := 32) C dX5_odds_32 (tgt := 43) rfl (fun xq26 => ?_) (fun xq26 => ?_)
        · have h := iN xq26 h
          refine g_aload_n (pc := 43) C dX5_odds_43 rfl 0 rfl ?_
          refine gf_5_0 (pc := 44) C wf_X5_9 dX5_odds_44 xq3 ?_
          refine g_iconst (v := 4) (pc := 47) C dX5_odds_47 ci_4 ?_
          refine g_iald (pc := 48) C dX5_odds_48 rfl (ivp (by decide) rfl) (j := 4) ct_4 ?_
          refine g_letI h (fun xv27 h => ?_)
          refine g_istore (i := 5) (lv' := [(5, .int (xv27)), (0, .ref (yad y (xa0))), (1, .int (xa1)), (2, .int (xa2)), (3, .int (xa3)), (4, .int (xa4))]) (pc := 49) C dX5_odds_49 (Nat.le_of_ble_eq_true rfl) rfl ?_
          refine g_iconst (v := 0) (pc := 51) C dX5_odds_51 ci_0 ?_
          refine g_istore (i := 6) (lv' := [(6, .int (0)), (5, .int (xv27)), (0, .ref (yad y (xa0))), (1, .int (xa1)), (2, .int (xa2)), (3, .int (xa3)), (4, .int (xa4))]) (pc := 52) C dX5_odds_52 (Nat.le_of_ble_eq_true rfl) rfl ?_
          refine g_iconst (v := 0) (pc := 54) C dX5_odds_54 ci_0 ?_
          refine g_istore (i := 7) (lv' := [(7, .int (0)), (6, .int (0)), (5, .int (xv27)), (0, .ref (yad y (xa0))), (1, .int (xa1)), (2, .int (xa2)), (3, .int (xa3)), (4, .int (xa4))]) (pc := 55) C dX5_odds_55 (Nat.le_of_ble_eq_true rfl) rfl ?_
          refine g_sub (lv' := [(0, .ref (yad y (xa0))), (1, .int (xa1)), (2, .int (xa2)), (3, .int (xa3)), (4, .int (xa4)), (5, .int (xv27)), (6, .int (0)), (7, .int (0))]) C [3, 4, 5, 6, 7, 2, 1, 0] rfl ?_
          exact l_X5_odds_57 C hr 1000 xa0 xa1 xa2 xa3 xa4 xv27 0 0 xσ23 h
        · have h := iP xq26 h
          refine g_aload_n (pc := 35) C dX5_odds_35 rfl 0 rfl ?_
          refine g_ldc (v := (-1000001)) (pc := 36) C dX5_odds_36 wk_X5_60 ?_
          obtain ⟨xr30, xσ28, xc29, h⟩ := iB h
          refine g_callVi (pc := 38) (As := [.int ((-1000001))]) (rest := []) C dX5_odds_38 (fun l => c_X5_finding l y _ _ _ _ _ xc29) cv_X5_66 ⟨rfl, rfl, Nat.le_of_ble_eq_true rfl, Nat.le_of_ble_eq_true rfl⟩ (rv5 xq3) rfl (Nat.le_of_ble_eq_true rfl) ?_
          refine g_i2l (pc := 41) C dX5_odds_41 ?_
          exact rtL hr dX5_odds_42 h
theorem c_X5_odds (l : Launch) (y : YT) (xa0 : Nat) (xa1 : Int32) (xa2 : Int32) (xa3 : Int32) (xa4 : Int32) (σ σ' : Sto) (r : Int64) (h : F_X5_odds xa0 xa1 xa2 xa3 xa4 σ = some (r, σ')) : ML l y yX5_odds (Cond.code yX5_odds cX5_odds 12 (some .long) :: TT) rm_X5_odds [.ref (yad y (xa0)), .int (xa1), .int (xa2), .int (xa3), .int (xa4)] σ r σ' :=
  mkL (by decide) rfl rfl rfl (Nat.le_of_ble_eq_true rfl) (fun x Z C hr => b_X5_odds_0 C hr xa0 xa1 xa2 xa3 xa4 σ h)
def rm_X5_seed : Room := { frames := 1, cells := 0, slots := 0, locals := 23 }
def F_X5_seed (xa0 : Nat) (xa1 : Int32) (σ : Sto) : Option (Int32 × Sto) := ck (kd (xa0) == 5) (bnd (F_X5_become (xa0) 2 (xa1) σ) (fun xr4 xσ1 => some (xr4, xσ1)))
set_option maxHeartbeats 4000000 in
set_option maxRecDepth 20000 in
theorem b_X5_seed_0 {x : XT} {y : YT} {Z : State → Prop} (C : Cx x y (AY y) RX5 cX5_seed 2 rm_X5_seed) {r : Int32} {σ' : Sto} (hr : RetI x y (AY y) 2 cX5_seed Z r σ') (xa0 : Nat) (xa1 : Int32) (σ : Sto) (h : F_X5_seed xa0 xa1 σ = some (r, σ')) : GW x y (AY y) 2 Z 0 [(0, .ref (yad y (xa0))), (1, .int (xa1))] [] σ := by
  unfold F_X5_seed at h
  refine g_aload_n (pc := 0) C dX5_seed_0 rfl 0 rfl ?_
  refine g_iconst (v := 2) (pc := 1) C dX5_seed_1 ci_2 ?_
  refine g_iload_n (pc := 2) C dX5_seed_2 rfl 1 rfl ?_
  obtain ⟨xq3, h⟩ := iC h
  have xq3 := keq xq3
  obtain ⟨xr4, xσ1, xc2, h⟩ := iB h
  refine g_callVi (pc := 3) (As := [.int (2), .int (xa1)]) (rest := []) C dX5_seed_3 (fun l => c_X5_become l y _ _ _ _ _ _ xc2) cv_X5_79 ⟨rfl, rfl, Nat.le_of_ble_eq_true rfl, Nat.le_of_ble_eq_true rfl⟩ (rv5 xq3) rfl (Nat.le_of_ble_eq_true rfl) ?_
  exact rtI hr dX5_seed_6 h
theorem c_X5_seed (l : Launch) (y : YT) (xa0 : Nat) (xa1 : Int32) (σ σ' : Sto) (r : Int32) (h : F_X5_seed xa0 xa1 σ = some (r, σ')) : MI l y yX5_seed (Cond.code yX5_seed cX5_seed 2 (some .int) :: TT) rm_X5_seed [.ref (yad y (xa0)), .int (xa1)] σ r σ' :=
  mkI (by decide) rfl rfl rfl (Nat.le_of_ble_eq_true rfl) (fun x Z C hr => b_X5_seed_0 C hr xa0 xa1 σ h)
def rm_X5_feed : Room := { frames := 1, cells := 0, slots := 0, locals := 22 }
def F_X5_feed_b38 (xk_38 : Nat → Int32 → Int32 → Sto → Option (Int32 × Sto)) (xa0 : Nat) (xa1 : Int32) (xa3 : Int32) (σ : Sto) : Option (Int32 × Sto) := if (xa3) < 0 then ck (kd (xa0) == 5) (some (σ xa0 8, σ)) else ck (kd (xa0) == 5) (ck (inr (σ xa0 8) (120)) (lts (up2 σ 54 ((σ xa0 8 : Int32).toNatClampNeg) ((isr xa1 (8 * xa3)) &&& 255)) (fun xσ5 => lts (up2 xσ5 (xa0) 8 ((xσ5 xa0 8) + 1)) (fun xσ6 => xk_38 xa0 xa1 (xa3 + (-1)) xσ6))))
def F_X5_feed (xa0 : Nat) (xa1 : Int32) (xa2 : Int32) (σ : Sto) : Option (Int32 × Sto) := bnd (F_X5_within (xa2) 1 4 σ) (fun xr3 xσ1 => if (xr3) = 0 then ck (kd (xa0) == 5) (bnd (F_X5_finding (xa0) (-1000001) xσ1) (fun xr14 xσ11 => some (xr14, xσ11))) else ck (kd (xa0) == 5) (if ((xσ1 xa0 8) + xa2) ≤ 120 then lti (xa2 - 1) (fun xv7 => lo3 (F_X5_feed_b38) 1000 xa0 xa1 xv7 xσ1) else bnd (F_X5_finding (xa0) (-1000002) xσ1) (fun xr10 xσ8 => some (xr10, xσ8))))
set_option maxHeartbeats 4000000 in
set_option maxRecDepth 20000 in
theorem b_X5_feed_38 {x : XT} {y : YT} {Z : State → Prop} (C : Cx x y (AY y) RX5 cX5_feed 4 rm_X5_feed) {r : Int32} {σ' : Sto} (hr : RetI x y (AY y) 4 cX5_feed Z r σ') (xk_38 : Nat → Int32 → Int32 → Sto → Option (Int32 × Sto)) (xH38 : ∀ (xa0 : Nat) (xa1 : Int32) (xa3 : Int32) (σ : Sto), xk_38 xa0 xa1 xa3 σ = some (r, σ') → GW x y (AY y) 4 Z 38 [(0, .ref (yad y (xa0))), (1, .int (xa1)), (3, .int (xa3))] [] σ) (xa0 : Nat) (xa1 : Int32) (xa3 : Int32) (σ : Sto) (h : F_X5_feed_b38 xk_38 xa0 xa1 xa3 σ = some (r, σ')) : GW x y (AY y) 4 Z 38 [(0, .ref (yad y (xa0))), (1, .int (xa1)), (3, .int (xa3))] [] σ := by
  unfold F_X5_feed_b38 at h
  refine g_iload_n (pc := 38) C dX5_feed_38 rfl 2 rfl ?_
  refine g_if_lt (pc := 39) C dX5_feed_39 (tgt := 77) rfl (fun xq1 => ?_) (fun xq1 => ?_)
  · have h := iP xq1 h
    refine g_aload_n (pc := 77) C dX5_feed_77 rfl 0 rfl ?_
    obtain ⟨xq2, h⟩ := iC h
    have xq2 := keq xq2
    refine gf_5_8 (pc := 78) C wf_X5_238 dX5_feed_78 xq2 ?_
    exact rtI hr dX5_feed_81 h
  · have h := iN xq1 h
    refine g_aload_n (pc := 42) C dX5_feed_42 rfl 0 rfl ?_
    obtain ⟨xq3, h⟩ := iC h
    have xq3 := keq xq3
    refine gf_5_7 (pc := 43) C wf_X5_22 dX5_feed_43 xq3 ?_
    refine g_aload_n (pc := 46) C dX5_feed_46 rfl 0 rfl ?_
    refine gf_5_8 (pc := 47) C wf_X5_238 dX5_feed_47 xq3 ?_
    refine g_iload_n (pc := 50) C dX5_feed_50 rfl 1 rfl ?_
    refine g_bipush (v := 8) (pc := 51) C dX5_feed_51 cb_8 ?_
    refine g_iload_n (pc := 53) C dX5_feed_53 rfl 2 rfl ?_
    refine g_imul (pc := 54) C dX5_feed_54 ?_
    refine g_ishr (pc := 55) C dX5_feed_55 ?_
    refine g_sipush (v := 255) (pc := 56) C dX5_feed_56 cs_255 ?_
    refine g_iand (pc := 59) C dX5_feed_59 ?_
    obtain ⟨xq4, h⟩ := iC h
    refine g_iast (pc := 60) C dX5_feed_60 rfl (ivp xq4 rfl) (j := (σ xa0 8 : Int32).toNatClampNeg) rfl ?_
    refine g_letS h (fun xσ5 h => ?_)
    refine g_aload_n (pc := 61) C dX5_feed_61 rfl 0 rfl ?_
    refine g_dup (pc := 62) C dX5_feed_62 rfl ?_
    refine gf_5_8 (pc := 63) C wf_X5_238 dX5_feed_63 xq3 ?_
    refine g_iconst (v := 1) (pc := 66) C dX5_feed_66 ci_1 ?_
    refine g_iadd (pc := 67) C dX5_feed_67 ?_
    refine gp_5_8 (pc := 68) C wf_X5_238 dX5_feed_68 xq3 ?_
    refine g_letS h (fun xσ6 h => ?_)
    refine g_iinc (lv' := [(3, .int (xa3 + (-1))), (0, .ref (yad y (xa0))), (1, .int (xa1))]) (w := xa3 + (-1)) (pc := 71) C dX5_feed_71 (k := 2) rfl rfl (Nat.le_of_ble_eq_true rfl) rfl ?_
    refine g_goto (pc := 74) C dX5_feed_74 (tgt := 38) rfl ?_
    refine g_sub (lv' := [(0, .ref (yad y (xa0))), (1, .int (xa1)), (3, .int (xa3 + (-1)))]) C [1, 2, 0] rfl ?_
    exact xH38 xa0 xa1 (xa3 + (-1)) xσ6 h
theorem l_X5_feed_38 {x : XT} {y : YT} {Z : State → Prop} (C : Cx x y (AY y) RX5 cX5_feed 4 rm_X5_feed) {r : Int32} {σ' : Sto} (hr : RetI x y (AY y) 4 cX5_feed Z r σ') (n : Nat) (xa0 : Nat) (xa1 : Int32) (xa3 : Int32) (σ : Sto) (h : lo3 (F_X5_feed_b38) n xa0 xa1 xa3 σ = some (r, σ')) : GW x y (AY y) 4 Z 38 [(0, .ref (yad y (xa0))), (1, .int (xa1)), (3, .int (xa3))] [] σ :=
  lo3_gw (G := fun xa0 xa1 xa3 σ => GW x y (AY y) 4 Z 38 [(0, .ref (yad y (xa0))), (1, .int (xa1)), (3, .int (xa3))] [] σ) (fun xk xHk xa0 xa1 xa3 σ h => b_X5_feed_38 C hr xk xHk xa0 xa1 xa3 σ h) n xa0 xa1 xa3 σ h
set_option maxHeartbeats 4000000 in
set_option maxRecDepth 20000 in
theorem b_X5_feed_0 {x : XT} {y : YT} {Z : State → Prop} (C : Cx x y (AY y) RX5 cX5_feed 4 rm_X5_feed) {r : Int32} {σ' : Sto} (hr : RetI x y (AY y) 4 cX5_feed Z r σ') (xa0 : Nat) (xa1 : Int32) (xa2 : Int32) (σ : Sto) (h : F_X5_feed xa0 xa1 xa2 σ = some (r, σ')) : GW x y (AY y) 4 Z 0 [(0, .ref (yad y (xa0))), (1, .int (xa1)), (2, .int (xa2))] [] σ := by
  unfold F_X5_feed at h
  refine g_iload_n (pc := 0) C dX5_feed_0 rfl 2 rfl ?_
  refine g_iconst (v := 1) (pc := 1) C dX5_feed_1 ci_1 ?_
  refine g_iconst (v := 4) (pc := 2) C dX5_feed_2 ci_4 ?_
  obtain ⟨xr3, xσ1, xc2, h⟩ := iB h
  refine g_callSi (pc := 3) (As := [.int (xa2), .int (1), .int (4)]) (rest := []) C dX5_feed_3 (fun l => c_X5_within l y _ _ _ _ _ _ xc2) cv_X5_70 ⟨rfl, rfl, Nat.le_of_ble_eq_true rfl, Nat.le_of_ble_eq_true rfl⟩ rfl (Nat.le_of_ble_eq_true rfl) ?_
  refine g_if_ne (pc := 6) C dX5_feed_6 (tgt := 16) rfl (fun xq4 => ?_) (fun xq4 => ?_)
  · have h := iN xq4 h
    refine g_aload_n (pc := 16) C dX5_feed_16 rfl 0 rfl ?_
    obtain ⟨xq5, h⟩ := iC h
    have xq5 := keq xq5
    refine gf_5_8 (pc := 17) C wf_X5_238 dX5_feed_17 xq5 ?_
    refine g_iload_n (pc := 20) C dX5_feed_20 rfl 2 rfl ?_
    refine g_iadd (pc := 21) C dX5_feed_21 ?_
    refine g_bipush (v := 120) (pc := 22) C dX5_feed_22 cb_120 ?_
    refine g_icmp_le (pc := 24) C dX5_feed_24 (tgt := 34) rfl (fun xq6 => ?_) (fun xq6 => ?_)
    · have h := iP xq6 h
      refine g_iload_n (pc := 34) C dX5_feed_34 rfl 2 rfl ?_
      refine g_iconst (v := 1) (pc := 35) C dX5_feed_35 ci_1 ?_
      refine g_isub (pc := 36) C dX5_feed_36 ?_
      refine g_letI h (fun xv7 h => ?_)
      refine g_istore_n (i := 3) (lv' := [(3, .int (xv7)), (0, .ref (yad y (xa0))), (1, .int (xa1)), (2, .int (xa2))]) (pc := 37) C dX5_feed_37 rfl (Nat.le_of_ble_eq_true rfl) rfl ?_
      refine g_sub (lv' := [(0, .ref (yad y (xa0))), (1, .int (xa1)), (3, .int (xv7))]) C [1, 2, 0] rfl ?_
      exact l_X5_feed_38 C hr 1000 xa0 xa1 xv7 xσ1 h
    · have h := iN xq6 h
      refine g_aload_n (pc := 27) C dX5_feed_27 rfl 0 rfl ?_
      refine g_ldc (v := (-1000002)) (pc := 28) C dX5_feed_28 wk_X5_99 ?_
      obtain ⟨xr10, xσ8, xc9, h⟩ := iB h
      refine g_callVi (pc := 30) (As := [.int ((-1000002))]) (rest := []) C dX5_feed_30 (fun l => c_X5_finding l y _ _ _ _ _ xc9) cv_X5_66 ⟨rfl, rfl, Nat.le_of_ble_eq_true rfl, Nat.le_of_ble_eq_true rfl⟩ (rv5 xq5) rfl (Nat.le_of_ble_eq_true rfl) ?_
      exact rtI hr dX5_feed_33 h
  · have h := iP xq4 h
    refine g_aload_n (pc := 9) C dX5_feed_9 rfl 0 rfl ?_
    refine g_ldc (v := (-1000001)) (pc := 10) C dX5_feed_10 wk_X5_60 ?_
    obtain ⟨xq13, h⟩ := iC h
    have xq13 := keq xq13
    obtain ⟨xr14, xσ11, xc12, h⟩ := iB h
    refine g_callVi (pc := 12) (As := [.int ((-1000001))]) (rest := []) C dX5_feed_12 (fun l => c_X5_finding l y _ _ _ _ _ xc12) cv_X5_66 ⟨rfl, rfl, Nat.le_of_ble_eq_true rfl, Nat.le_of_ble_eq_true rfl⟩ (rv5 xq13) rfl (Nat.le_of_ble_eq_true rfl) ?_
    exact rtI hr dX5_feed_15 h
theorem c_X5_feed (l : Launch) (y : YT) (xa0 : Nat) (xa1 : Int32) (xa2 : Int32) (σ σ' : Sto) (r : Int32) (h : F_X5_feed xa0 xa1 xa2 σ = some (r, σ')) : MI l y yX5_feed (Cond.code yX5_feed cX5_feed 4 (some .int) :: TT) rm_X5_feed [.ref (yad y (xa0)), .int (xa1), .int (xa2)] σ r σ' :=
  mkI (by decide) rfl rfl rfl (Nat.le_of_ble_eq_true rfl) (fun x Z C hr => b_X5_feed_0 C hr xa0 xa1 xa2 σ h)
def rm_X5_wipe : Room := { frames := 0, cells := 0, slots := 0, locals := 0 }
def F_X5_wipe (xa0 : Nat) (σ : Sto) : Option (Int32 × Sto) := ck (kd (xa0) == 5) (lti (σ xa0 8) (fun xv2 => lts (up2 σ (xa0) 8 (0)) (fun xσ3 => some (xv2, xσ3))))
set_option maxHeartbeats 4000000 in
set_option maxRecDepth 20000 in
theorem b_X5_wipe_0 {x : XT} {y : YT} {Z : State → Prop} (C : Cx x y (AY y) RX5 cX5_wipe 2 rm_X5_wipe) {r : Int32} {σ' : Sto} (hr : RetI x y (AY y) 2 cX5_wipe Z r σ') (xa0 : Nat) (σ : Sto) (h : F_X5_wipe xa0 σ = some (r, σ')) : GW x y (AY y) 2 Z 0 [(0, .ref (yad y (xa0)))] [] σ := by
  unfold F_X5_wipe at h
  refine g_aload_n (pc := 0) C dX5_wipe_0 rfl 0 rfl ?_
  obtain ⟨xq1, h⟩ := iC h
  have xq1 := keq xq1
  refine gf_5_8 (pc := 1) C wf_X5_238 dX5_wipe_1 xq1 ?_
  refine g_letI h (fun xv2 h => ?_)
  refine g_istore_n (i := 1) (lv' := [(1, .int (xv2)), (0, .ref (yad y (xa0)))]) (pc := 4) C dX5_wipe_4 rfl (Nat.le_of_ble_eq_true rfl) rfl ?_
  refine g_aload_n (pc := 5) C dX5_wipe_5 rfl 1 rfl ?_
  refine g_iconst (v := 0) (pc := 6) C dX5_wipe_6 ci_0 ?_
  refine gp_5_8 (pc := 7) C wf_X5_238 dX5_wipe_7 xq1 ?_
  refine g_letS h (fun xσ3 h => ?_)
  refine g_iload_n (pc := 10) C dX5_wipe_10 rfl 0 rfl ?_
  exact rtI hr dX5_wipe_11 h
theorem c_X5_wipe (l : Launch) (y : YT) (xa0 : Nat) (σ σ' : Sto) (r : Int32) (h : F_X5_wipe xa0 σ = some (r, σ')) : MI l y yX5_wipe (Cond.code yX5_wipe cX5_wipe 2 (some .int) :: TT) rm_X5_wipe [.ref (yad y (xa0))] σ r σ' :=
  mkI (by decide) rfl rfl rfl (Nat.le_of_ble_eq_true rfl) (fun x Z C hr => b_X5_wipe_0 C hr xa0 σ h)
def rm_X5_byteAt : Room := { frames := 0, cells := 0, slots := 0, locals := 0 }
def F_X5_byteAt (xa0 : Nat) (xa1 : Int32) (σ : Sto) : Option (Int32 × Sto) := ck (kd (xa0) == 5) (if (σ xa0 8) ≤ xa1 then some ((-1), σ) else ck (inr (xa1) (120)) (some (σ 54 (xa1.toNatClampNeg), σ)))
set_option maxHeartbeats 4000000 in
set_option maxRecDepth 20000 in
theorem b_X5_byteAt_0 {x : XT} {y : YT} {Z : State → Prop} (C : Cx x y (AY y) RX5 cX5_byteAt 2 rm_X5_byteAt) {r : Int32} {σ' : Sto} (hr : RetI x y (AY y) 2 cX5_byteAt Z r σ') (xa0 : Nat) (xa1 : Int32) (σ : Sto) (h : F_X5_byteAt xa0 xa1 σ = some (r, σ')) : GW x y (AY y) 2 Z 0 [(0, .ref (yad y (xa0))), (1, .int (xa1))] [] σ := by
  unfold F_X5_byteAt at h
  refine g_iload_n (pc := 0) C dX5_byteAt_0 rfl 1 rfl ?_
  refine g_aload_n (pc := 1) C dX5_byteAt_1 rfl 0 rfl ?_
  obtain ⟨xq1, h⟩ := iC h
  have xq1 := keq xq1
  refine gf_5_8 (pc := 2) C wf_X5_238 dX5_byteAt_2 xq1 ?_
  refine g_icmp_ge (pc := 5) C dX5_byteAt_5 (tgt := 17) rfl (fun xq2 => ?_) (fun xq2 => ?_)
  · have h := iP xq2 h
    refine g_iconst (v := (-1)) (pc := 17) C dX5_byteAt_17 ci_m1 ?_
    exact rtI hr dX5_byteAt_18 h
  · have h := iN xq2 h
    refine g_aload_n (pc := 8) C dX5_byteAt_8 rfl 0 rfl ?_
    refine gf_5_7 (pc := 9) C wf_X5_22 dX5_byteAt_9 xq1 ?_
    refine g_iload_n (pc := 12) C dX5_byteAt_12 rfl 1 rfl ?_
    obtain ⟨xq3, h⟩ := iC h
    refine g_iald (pc := 13) C dX5_byteAt_13 rfl (ivp xq3 rfl) (j := xa1.toNatClampNeg) rfl ?_
    refine g_goto (pc := 14) C dX5_byteAt_14 (tgt := 18) rfl ?_
    exact rtI hr dX5_byteAt_18 h
theorem c_X5_byteAt (l : Launch) (y : YT) (xa0 : Nat) (xa1 : Int32) (σ σ' : Sto) (r : Int32) (h : F_X5_byteAt xa0 xa1 σ = some (r, σ')) : MI l y yX5_byteAt (Cond.code yX5_byteAt cX5_byteAt 2 (some .int) :: TT) rm_X5_byteAt [.ref (yad y (xa0)), .int (xa1)] σ r σ' :=
  mkI (by decide) rfl rfl rfl (Nat.le_of_ble_eq_true rfl) (fun x Z C hr => b_X5_byteAt_0 C hr xa0 xa1 σ h)

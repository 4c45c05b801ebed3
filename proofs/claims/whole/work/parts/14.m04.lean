/-! methods, by program: what each does to the store (F_), its walk (b_), its contract (c_): X4_of, X4_change, X4_faults, X4_best, X4_go, X4_now, X4_ahead, X4_later, X4_when, X4_broke, X4_all, X4_stoolFor -/
def rm_X4_of : Room := { frames := 2, cells := 0, slots := 0, locals := 61 }
def F_X4_of (xa0 : Nat) (xa1 : Int32) (xa2 : Int32) (σ : Sto) : Option (Int32 × Sto) := ck (kd (xa0) == 4) (bnd (F_X0_who (1) (xa1) σ) (fun xr4 xσ2 => ocase xr4 (bnd (F_X4_finding (xa0) (-1000001) xσ2) (fun xr8 xσ6 => some (xr8, xσ6))) (fun xk5 => bnd (F_X4_isWithin (xa2) 8 xσ2) (fun xr11 xσ9 => if (xr11) = 0 then bnd (F_X4_finding (xa0) (-1000001) xσ9) (fun xr29 xσ27 => some (xr29, xσ27)) else if xa2 = 7 then ck (kd (xk5) == 2) (bnd (F_X2_off (xk5) (xσ9 1 0) xσ9) (fun xr26 xσ23 => some (xr26, xσ23))) else if xa2 = 8 then ck (kd (xk5) == 2) (bnd (F_X2_mayBeOff (xk5) xσ9) (fun xr22 xσ19 => some (xr22, xσ19))) else ck (kd (xk5) == 2) (bnd (F_X2_part (xk5) (xa2) xσ9) (fun xr18 xσ15 => some (xr18, xσ15)))))))
set_option maxHeartbeats 4000000 in
set_option maxRecDepth 20000 in
theorem b_X4_of_0 {x : XT} {y : YT} {Z : State → Prop} (C : Cx x y (AY y) RX4 cX4_of 4 rm_X4_of) {r : Int32} {σ' : Sto} (hr : RetI x y (AY y) 4 cX4_of Z r σ') (xa0 : Nat) (xa1 : Int32) (xa2 : Int32) (σ : Sto) (h : F_X4_of xa0 xa1 xa2 σ = some (r, σ')) : GW x y (AY y) 4 Z 0 [(0, .ref (yad y (xa0))), (1, .int (xa1)), (2, .int (xa2))] [] σ := by
  unfold F_X4_of at h
  refine g_aload_n (pc := 0) C dX4_of_0 rfl 0 rfl ?_
  obtain ⟨xq1, h⟩ := iC h
  have xq1 := keq xq1
  refine gf_4_0 (pc := 1) C wf_X4_10 dX4_of_1 xq1 ?_
  refine g_iload_n (pc := 4) C dX4_of_4 rfl 1 rfl ?_
  obtain ⟨xr4, xσ2, xc3, h⟩ := iB h
  refine g_callVq (pc := 5) (As := [.int (xa1)]) (rest := []) C dX4_of_5 (fun l => c_X0_who l y _ _ _ _ _ xc3) cv_X4_90 ⟨rfl, rfl, Nat.le_of_ble_eq_true rfl, Nat.le_of_ble_eq_true rfl⟩ (rv0 rfl) rfl (Nat.le_of_ble_eq_true rfl) ?_
  refine g_nastore_n (i := 3) (lv' := [(3, nv y xr4), (0, .ref (yad y (xa0))), (1, .int (xa1)), (2, .int (xa2))]) (pc := 8) C dX4_of_8 rfl (Nat.le_of_ble_eq_true rfl) rfl ?_
  refine g_naload_n (pc := 9) C dX4_of_9 rfl 0 rfl ?_
  refine g_ifnull (pc := 10) C dX4_of_10 (tgt := 22) rfl (fun xq30 => ?_) (fun xk5 xq30 => ?_)
  · subst xq30
    have h := iO0 h
    refine g_aload_n (pc := 22) C dX4_of_22 rfl 1 rfl ?_
    refine g_ldc (v := (-1000001)) (pc := 23) C dX4_of_23 wk_X4_56 ?_
    obtain ⟨xr8, xσ6, xc7, h⟩ := iB h
    refine g_callVi (pc := 25) (As := [.int ((-1000001))]) (rest := []) C dX4_of_25 (fun l => c_X4_finding l y _ _ _ _ _ xc7) cv_X4_57 ⟨rfl, rfl, Nat.le_of_ble_eq_true rfl, Nat.le_of_ble_eq_true rfl⟩ (rv4 xq1) rfl (Nat.le_of_ble_eq_true rfl) ?_
    exact rtI hr dX4_of_28 h
  · subst xq30
    have h := iO1 h
    refine g_iload_n (pc := 13) C dX4_of_13 rfl 3 rfl ?_
    refine g_bipush (v := 8) (pc := 14) C dX4_of_14 cb_8 ?_
    obtain ⟨xr11, xσ9, xc10, h⟩ := iB h
    refine g_callSi (pc := 16) (As := [.int (xa2), .int (8)]) (rest := []) C dX4_of_16 (fun l => c_X4_isWithin l y _ _ _ _ _ xc10) cv_X4_52 ⟨rfl, rfl, Nat.le_of_ble_eq_true rfl, Nat.le_of_ble_eq_true rfl⟩ rfl (Nat.le_of_ble_eq_true rfl) ?_
    refine g_if_ne (pc := 19) C dX4_of_19 (tgt := 29) rfl (fun xq12 => ?_) (fun xq12 => ?_)
    · have h := iN xq12 h
      refine g_iload_n (pc := 29) C dX4_of_29 rfl 3 rfl ?_
      refine g_bipush (v := 7) (pc := 30) C dX4_of_30 cb_7 ?_
      refine g_icmp_ne (pc := 32) C dX4_of_32 (tgt := 47) rfl (fun xq13 => ?_) (fun xq13 => ?_)
      · have h := iN xq13 h
        refine g_iload_n (pc := 47) C dX4_of_47 rfl 3 rfl ?_
        refine g_bipush (v := 8) (pc := 48) C dX4_of_48 cb_8 ?_
        refine g_icmp_ne (pc := 50) C dX4_of_50 (tgt := 60) rfl (fun xq14 => ?_) (fun xq14 => ?_)
        · have h := iN xq14 h
          refine g_aload_n (pc := 60) C dX4_of_60 rfl 0 rfl ?_
          refine g_iload_n (pc := 61) C dX4_of_61 rfl 3 rfl ?_
          obtain ⟨xq17, h⟩ := iC h
          have xq17 := keq xq17
          obtain ⟨xr18, xσ15, xc16, h⟩ := iB h
          refine g_callVi (pc := 62) (As := [.int (xa2)]) (rest := []) C dX4_of_62 (fun l => c_X2_part l y _ _ _ _ _ xc16) cv_X4_105 ⟨rfl, rfl, Nat.le_of_ble_eq_true rfl, Nat.le_of_ble_eq_true rfl⟩ (rv2 xq17) rfl (Nat.le_of_ble_eq_true rfl) ?_
          exact rtI hr dX4_of_65 h
        · have h := iP xq14 h
          refine g_aload_n (pc := 53) C dX4_of_53 rfl 0 rfl ?_
          obtain ⟨xq21, h⟩ := iC h
          have xq21 := keq xq21
          obtain ⟨xr22, xσ19, xc20, h⟩ := iB h
          refine g_callVi (pc := 54) (As := []) (rest := []) C dX4_of_54 (fun l => c_X2_mayBeOff l y _ _ _ _ xc20) cv_X4_101 ⟨rfl, rfl, Nat.le_of_ble_eq_true rfl, Nat.le_of_ble_eq_true rfl⟩ (rv2 xq21) rfl (Nat.le_of_ble_eq_true rfl) ?_
          refine g_goto (pc := 57) C dX4_of_57 (tgt := 65) rfl ?_
          exact rtI hr dX4_of_65 h
      · have h := iP xq13 h
        refine g_aload_n (pc := 35) C dX4_of_35 rfl 0 rfl ?_
        refine g_aload_n (pc := 36) C dX4_of_36 rfl 1 rfl ?_
        refine gf_4_0 (pc := 37) C wf_X4_10 dX4_of_37 xq1 ?_
        refine gf_0_0 (pc := 40) C wf_X4_94 dX4_of_40 rfl ?_
        obtain ⟨xq25, h⟩ := iC h
        have xq25 := keq xq25
        obtain ⟨xr26, xσ23, xc24, h⟩ := iB h
        refine g_callVi (pc := 43) (As := [.int (xσ9 1 0)]) (rest := []) C dX4_of_43 (fun l => c_X2_off l y _ _ _ _ _ xc24) cv_X4_98 ⟨rfl, rfl, Nat.le_of_ble_eq_true rfl, Nat.le_of_ble_eq_true rfl⟩ (rv2 xq25) rfl (Nat.le_of_ble_eq_true rfl) ?_
        exact rtI hr dX4_of_46 h
    · have h := iP xq12 h
      refine g_aload_n (pc := 22) C dX4_of_22 rfl 1 rfl ?_
      refine g_ldc (v := (-1000001)) (pc := 23) C dX4_of_23 wk_X4_56 ?_
      obtain ⟨xr29, xσ27, xc28, h⟩ := iB h
      refine g_callVi (pc := 25) (As := [.int ((-1000001))]) (rest := []) C dX4_of_25 (fun l => c_X4_finding l y _ _ _ _ _ xc28) cv_X4_57 ⟨rfl, rfl, Nat.le_of_ble_eq_true rfl, Nat.le_of_ble_eq_true rfl⟩ (rv4 xq1) rfl (Nat.le_of_ble_eq_true rfl) ?_
      exact rtI hr dX4_of_28 h
theorem c_X4_of (l : Launch) (y : YT) (xa0 : Nat) (xa1 : Int32) (xa2 : Int32) (σ σ' : Sto) (r : Int32) (h : F_X4_of xa0 xa1 xa2 σ = some (r, σ')) : MI l y yX4_of (Cond.code yX4_of cX4_of 4 (some .int) :: TT) rm_X4_of [.ref (yad y (xa0)), .int (xa1), .int (xa2)] σ r σ' :=
  mkI (by decide) rfl rfl rfl (Nat.le_of_ble_eq_true rfl) (fun x Z C hr => b_X4_of_0 C hr xa0 xa1 xa2 σ h)
def rm_X4_change : Room := { frames := 2, cells := 0, slots := 0, locals := 42 }
def F_X4_change (xa0 : Nat) (xa1 : Int32) (xa2 : Int32) (xa3 : Int32) (σ : Sto) : Option (Int32 × Sto) := ck (kd (xa0) == 4) (bnd (F_X0_who (1) (xa1) σ) (fun xr4 xσ2 => ocase xr4 (bnd (F_X4_finding (xa0) (-1000001) xσ2) (fun xr8 xσ6 => some (xr8, xσ6))) (fun xk5 => bnd (F_X4_isWithin (xa2) 6 xσ2) (fun xr11 xσ9 => if (xr11) = 0 then bnd (F_X4_finding (xa0) (-1000001) xσ9) (fun xr15 xσ13 => some (xr15, xσ13)) else bnd (F_X2_mostOf (xa2) xσ9) (fun xr18 xσ16 => bnd (F_X4_isWithin (xa3) (xr18) xσ16) (fun xr21 xσ19 => if (xr21) = 0 then bnd (F_X4_finding (xa0) (-1000001) xσ19) (fun xr32 xσ30 => some (xr32, xσ30)) else ck (kd (xk5) == 2) (bnd (F_X2_part (xk5) (xa2) xσ19) (fun xr26 xσ23 => bnd (F_X2_putPart (xk5) (xa2) (xa3) xσ23) (fun xr29 xσ27 => some (xr26, xσ27))))))))))
set_option maxHeartbeats 4000000 in
set_option maxRecDepth 20000 in
theorem b_X4_change_0 {x : XT} {y : YT} {Z : State → Prop} (C : Cx x y (AY y) RX4 cX4_change 6 rm_X4_change) {r : Int32} {σ' : Sto} (hr : RetI x y (AY y) 6 cX4_change Z r σ') (xa0 : Nat) (xa1 : Int32) (xa2 : Int32) (xa3 : Int32) (σ : Sto) (h : F_X4_change xa0 xa1 xa2 xa3 σ = some (r, σ')) : GW x y (AY y) 6 Z 0 [(0, .ref (yad y (xa0))), (1, .int (xa1)), (2, .int (xa2)), (3, .int (xa3))] [] σ := by
  unfold F_X4_change at h
  refine g_aload_n (pc := 0) C dX4_change_0 rfl 0 rfl ?_
  obtain ⟨xq1, h⟩ := iC h
  have xq1 := keq xq1
  refine gf_4_0 (pc := 1) C wf_X4_10 dX4_change_1 xq1 ?_
  refine g_iload_n (pc := 4) C dX4_change_4 rfl 1 rfl ?_
  obtain ⟨xr4, xσ2, xc3, h⟩ := iB h
  refine g_callVq (pc := 5) (As := [.int (xa1)]) (rest := []) C dX4_change_5 (fun l => c_X0_who l y _ _ _ _ _ xc3) cv_X4_90 ⟨rfl, rfl, Nat.le_of_ble_eq_true rfl, Nat.le_of_ble_eq_true rfl⟩ (rv0 rfl) rfl (Nat.le_of_ble_eq_true rfl) ?_
  refine g_nastore (i := 4) (lv' := [(4, nv y xr4), (0, .ref (yad y (xa0))), (1, .int (xa1)), (2, .int (xa2)), (3, .int (xa3))]) (pc := 8) C dX4_change_8 (Nat.le_of_ble_eq_true rfl) rfl ?_
  refine g_naload (pc := 10) C dX4_change_10 0 rfl ?_
  refine g_ifnull (pc := 12) C dX4_change_12 (tgt := 35) rfl (fun xq33 => ?_) (fun xk5 xq33 => ?_)
  · subst xq33
    have h := iO0 h
    refine g_aload_n (pc := 35) C dX4_change_35 rfl 1 rfl ?_
    refine g_ldc (v := (-1000001)) (pc := 36) C dX4_change_36 wk_X4_56 ?_
    obtain ⟨xr8, xσ6, xc7, h⟩ := iB h
    refine g_callVi (pc := 38) (As := [.int ((-1000001))]) (rest := []) C dX4_change_38 (fun l => c_X4_finding l y _ _ _ _ _ xc7) cv_X4_57 ⟨rfl, rfl, Nat.le_of_ble_eq_true rfl, Nat.le_of_ble_eq_true rfl⟩ (rv4 xq1) rfl (Nat.le_of_ble_eq_true rfl) ?_
    exact rtI hr dX4_change_41 h
  · subst xq33
    have h := iO1 h
    refine g_iload_n (pc := 15) C dX4_change_15 rfl 3 rfl ?_
    refine g_bipush (v := 6) (pc := 16) C dX4_change_16 cb_6 ?_
    obtain ⟨xr11, xσ9, xc10, h⟩ := iB h
    refine g_callSi (pc := 18) (As := [.int (xa2), .int (6)]) (rest := []) C dX4_change_18 (fun l => c_X4_isWithin l y _ _ _ _ _ xc10) cv_X4_52 ⟨rfl, rfl, Nat.le_of_ble_eq_true rfl, Nat.le_of_ble_eq_true rfl⟩ rfl (Nat.le_of_ble_eq_true rfl) ?_
    refine g_if_eq (pc := 21) C dX4_change_21 (tgt := 35) rfl (fun xq12 => ?_) (fun xq12 => ?_)
    · have h := iP xq12 h
      refine g_aload_n (pc := 35) C dX4_change_35 rfl 1 rfl ?_
      refine g_ldc (v := (-1000001)) (pc := 36) C dX4_change_36 wk_X4_56 ?_
      obtain ⟨xr15, xσ13, xc14, h⟩ := iB h
      refine g_callVi (pc := 38) (As := [.int ((-1000001))]) (rest := []) C dX4_change_38 (fun l => c_X4_finding l y _ _ _ _ _ xc14) cv_X4_57 ⟨rfl, rfl, Nat.le_of_ble_eq_true rfl, Nat.le_of_ble_eq_true rfl⟩ (rv4 xq1) rfl (Nat.le_of_ble_eq_true rfl) ?_
      exact rtI hr dX4_change_41 h
    · have h := iN xq12 h
      refine g_iload_n (pc := 24) C dX4_change_24 rfl 4 rfl ?_
      refine g_iload_n (pc := 25) C dX4_change_25 rfl 3 rfl ?_
      obtain ⟨xr18, xσ16, xc17, h⟩ := iB h
      refine g_callSi (pc := 26) (As := [.int (xa2)]) (rest := [.int (xa3)]) C dX4_change_26 (fun l => c_X2_mostOf l y _ _ _ _ xc17) cv_X4_79 ⟨rfl, rfl, Nat.le_of_ble_eq_true rfl, Nat.le_of_ble_eq_true rfl⟩ rfl (Nat.le_of_ble_eq_true rfl) ?_
      obtain ⟨xr21, xσ19, xc20, h⟩ := iB h
      refine g_callSi (pc := 29) (As := [.int (xa3), .int (xr18)]) (rest := []) C dX4_change_29 (fun l => c_X4_isWithin l y _ _ _ _ _ xc20) cv_X4_52 ⟨rfl, rfl, Nat.le_of_ble_eq_true rfl, Nat.le_of_ble_eq_true rfl⟩ rfl (Nat.le_of_ble_eq_true rfl) ?_
      refine g_if_ne (pc := 32) C dX4_change_32 (tgt := 42) rfl (fun xq22 => ?_) (fun xq22 => ?_)
      · have h := iN xq22 h
        refine g_aload (pc := 42) C dX4_change_42 0 rfl ?_
        refine g_iload_n (pc := 44) C dX4_change_44 rfl 3 rfl ?_
        obtain ⟨xq25, h⟩ := iC h
        have xq25 := keq xq25
        obtain ⟨xr26, xσ23, xc24, h⟩ := iB h
        refine g_callVi (pc := 45) (As := [.int (xa2)]) (rest := []) C dX4_change_45 (fun l => c_X2_part l y _ _ _ _ _ xc24) cv_X4_105 ⟨rfl, rfl, Nat.le_of_ble_eq_true rfl, Nat.le_of_ble_eq_true rfl⟩ (rv2 xq25) rfl (Nat.le_of_ble_eq_true rfl) ?_
        refine g_istore (i := 5) (lv' := [(5, .int (xr26)), (4, .ref (yad y (xk5))), (0, .ref (yad y (xa0))), (1, .int (xa1)), (2, .int (xa2)), (3, .int (xa3))]) (pc := 48) C dX4_change_48 (Nat.le_of_ble_eq_true rfl) rfl ?_
        refine g_aload (pc := 50) C dX4_change_50 1 rfl ?_
        refine g_iload_n (pc := 52) C dX4_change_52 rfl 4 rfl ?_
        refine g_iload_n (pc := 53) C dX4_change_53 rfl 5 rfl ?_
        obtain ⟨xr29, xσ27, xc28, h⟩ := iB h
        refine g_callVv (pc := 54) (As := [.int (xa2), .int (xa3)]) (rest := []) C dX4_change_54 (fun l => c_X2_putPart l y _ _ _ _ _ _ xc28) cv_X4_106 ⟨rfl, rfl, Nat.le_of_ble_eq_true rfl, Nat.le_of_ble_eq_true rfl⟩ (rv2 xq25) rfl (Nat.le_of_ble_eq_true rfl) ?_
        refine g_iload (pc := 57) C dX4_change_57 0 rfl ?_
        exact rtI hr dX4_change_59 h
      · have h := iP xq22 h
        refine g_aload_n (pc := 35) C dX4_change_35 rfl 1 rfl ?_
        refine g_ldc (v := (-1000001)) (pc := 36) C dX4_change_36 wk_X4_56 ?_
        obtain ⟨xr32, xσ30, xc31, h⟩ := iB h
        refine g_callVi (pc := 38) (As := [.int ((-1000001))]) (rest := []) C dX4_change_38 (fun l => c_X4_finding l y _ _ _ _ _ xc31) cv_X4_57 ⟨rfl, rfl, Nat.le_of_ble_eq_true rfl, Nat.le_of_ble_eq_true rfl⟩ (rv4 xq1) rfl (Nat.le_of_ble_eq_true rfl) ?_
        exact rtI hr dX4_change_41 h
theorem c_X4_change (l : Launch) (y : YT) (xa0 : Nat) (xa1 : Int32) (xa2 : Int32) (xa3 : Int32) (σ σ' : Sto) (r : Int32) (h : F_X4_change xa0 xa1 xa2 xa3 σ = some (r, σ')) : MI l y yX4_change (Cond.code yX4_change cX4_change 6 (some .int) :: TT) rm_X4_change [.ref (yad y (xa0)), .int (xa1), .int (xa2), .int (xa3)] σ r σ' :=
  mkI (by decide) rfl rfl rfl (Nat.le_of_ble_eq_true rfl) (fun x Z C hr => b_X4_change_0 C hr xa0 xa1 xa2 xa3 σ h)
def rm_X4_faults : Room := { frames := 3, cells := 0, slots := 0, locals := 84 }
def F_X4_faults (xa0 : Nat) (xa1 : Int32) (xa2 : Int32) (σ : Sto) : Option (Int32 × Sto) := ck (kd (xa0) == 4) (bnd (F_X0_who (1) (xa1) σ) (fun xr4 xσ2 => ocase xr4 (bnd (F_X4_finding (xa0) (-1000001) xσ2) (fun xr8 xσ6 => some (xr8, xσ6))) (fun xk5 => bnd (F_X4_isWithin (xa2) 3 xσ2) (fun xr11 xσ9 => if (xr11) = 0 then bnd (F_X4_finding (xa0) (-1000001) xσ9) (fun xr18 xσ16 => some (xr18, xσ16)) else bnd (F_X0_faultsOf (1) (xk5) (xa2) xσ9) (fun xr15 xσ13 => some (xr15, xσ13))))))
set_option maxHeartbeats 4000000 in
set_option maxRecDepth 20000 in
theorem b_X4_faults_0 {x : XT} {y : YT} {Z : State → Prop} (C : Cx x y (AY y) RX4 cX4_faults 4 rm_X4_faults) {r : Int32} {σ' : Sto} (hr : RetI x y (AY y) 4 cX4_faults Z r σ') (xa0 : Nat) (xa1 : Int32) (xa2 : Int32) (σ : Sto) (h : F_X4_faults xa0 xa1 xa2 σ = some (r, σ')) : GW x y (AY y) 4 Z 0 [(0, .ref (yad y (xa0))), (1, .int (xa1)), (2, .int (xa2))] [] σ := by
  unfold F_X4_faults at h
  refine g_aload_n (pc := 0) C dX4_faults_0 rfl 0 rfl ?_
  obtain ⟨xq1, h⟩ := iC h
  have xq1 := keq xq1
  refine gf_4_0 (pc := 1) C wf_X4_10 dX4_faults_1 xq1 ?_
  refine g_iload_n (pc := 4) C dX4_faults_4 rfl 1 rfl ?_
  obtain ⟨xr4, xσ2, xc3, h⟩ := iB h
  refine g_callVq (pc := 5) (As := [.int (xa1)]) (rest := []) C dX4_faults_5 (fun l => c_X0_who l y _ _ _ _ _ xc3) cv_X4_90 ⟨rfl, rfl, Nat.le_of_ble_eq_true rfl, Nat.le_of_ble_eq_true rfl⟩ (rv0 rfl) rfl (Nat.le_of_ble_eq_true rfl) ?_
  refine g_nastore_n (i := 3) (lv' := [(3, nv y xr4), (0, .ref (yad y (xa0))), (1, .int (xa1)), (2, .int (xa2))]) (pc := 8) C dX4_faults_8 rfl (Nat.le_of_ble_eq_true rfl) rfl ?_
  refine g_naload_n (pc := 9) C dX4_faults_9 rfl 0 rfl ?_
  refine g_ifnull (pc := 10) C dX4_faults_10 (tgt := 21) rfl (fun xq19 => ?_) (fun xk5 xq19 => ?_)
  · subst xq19
    have h := iO0 h
    refine g_aload_n (pc := 21) C dX4_faults_21 rfl 1 rfl ?_
    refine g_ldc (v := (-1000001)) (pc := 22) C dX4_faults_22 wk_X4_56 ?_
    obtain ⟨xr8, xσ6, xc7, h⟩ := iB h
    refine g_callVi (pc := 24) (As := [.int ((-1000001))]) (rest := []) C dX4_faults_24 (fun l => c_X4_finding l y _ _ _ _ _ xc7) cv_X4_57 ⟨rfl, rfl, Nat.le_of_ble_eq_true rfl, Nat.le_of_ble_eq_true rfl⟩ (rv4 xq1) rfl (Nat.le_of_ble_eq_true rfl) ?_
    exact rtI hr dX4_faults_27 h
  · subst xq19
    have h := iO1 h
    refine g_iload_n (pc := 13) C dX4_faults_13 rfl 3 rfl ?_
    refine g_iconst (v := 3) (pc := 14) C dX4_faults_14 ci_3 ?_
    obtain ⟨xr11, xσ9, xc10, h⟩ := iB h
    refine g_callSi (pc := 15) (As := [.int (xa2), .int (3)]) (rest := []) C dX4_faults_15 (fun l => c_X4_isWithin l y _ _ _ _ _ xc10) cv_X4_52 ⟨rfl, rfl, Nat.le_of_ble_eq_true rfl, Nat.le_of_ble_eq_true rfl⟩ rfl (Nat.le_of_ble_eq_true rfl) ?_
    refine g_if_ne (pc := 18) C dX4_faults_18 (tgt := 28) rfl (fun xq12 => ?_) (fun xq12 => ?_)
    · have h := iN xq12 h
      refine g_aload_n (pc := 28) C dX4_faults_28 rfl 1 rfl ?_
      refine gf_4_0 (pc := 29) C wf_X4_10 dX4_faults_29 xq1 ?_
      refine g_aload_n (pc := 32) C dX4_faults_32 rfl 0 rfl ?_
      refine g_iload_n (pc := 33) C dX4_faults_33 rfl 3 rfl ?_
      obtain ⟨xr15, xσ13, xc14, h⟩ := iB h
      refine g_callVi (pc := 34) (As := [.ref (yad y (xk5)), .int (xa2)]) (rest := []) C dX4_faults_34 (fun l => c_X0_faultsOf l y _ _ _ _ _ _ xc14) cv_X4_107 ⟨rfl, rfl, Nat.le_of_ble_eq_true rfl, Nat.le_of_ble_eq_true rfl⟩ (rv0 rfl) rfl (Nat.le_of_ble_eq_true rfl) ?_
      exact rtI hr dX4_faults_37 h
    · have h := iP xq12 h
      refine g_aload_n (pc := 21) C dX4_faults_21 rfl 1 rfl ?_
      refine g_ldc (v := (-1000001)) (pc := 22) C dX4_faults_22 wk_X4_56 ?_
      obtain ⟨xr18, xσ16, xc17, h⟩ := iB h
      refine g_callVi (pc := 24) (As := [.int ((-1000001))]) (rest := []) C dX4_faults_24 (fun l => c_X4_finding l y _ _ _ _ _ xc17) cv_X4_57 ⟨rfl, rfl, Nat.le_of_ble_eq_true rfl, Nat.le_of_ble_eq_true rfl⟩ (rv4 xq1) rfl (Nat.le_of_ble_eq_true rfl) ?_
      exact rtI hr dX4_faults_27 h
theorem c_X4_faults (l : Launch) (y : YT) (xa0 : Nat) (xa1 : Int32) (xa2 : Int32) (σ σ' : Sto) (r : Int32) (h : F_X4_faults xa0 xa1 xa2 σ = some (r, σ')) : MI l y yX4_faults (Cond.code yX4_faults cX4_faults 4 (some .int) :: TT) rm_X4_faults [.ref (yad y (xa0)), .int (xa1), .int (xa2)] σ r σ' :=
  mkI (by decide) rfl rfl rfl (Nat.le_of_ble_eq_true rfl) (fun x Z C hr => b_X4_faults_0 C hr xa0 xa1 xa2 σ h)
def rm_X4_best : Room := { frames := 3, cells := 0, slots := 0, locals := 84 }
def F_X4_best_b25 (xk_25 : Nat → Option Nat → Int32 → Int32 → Sto → Option (Int32 × Sto)) (xa0 : Nat) (xa2 : Option Nat) (xa3 : Int32) (xa4 : Int32) (σ : Sto) : Option (Int32 × Sto) := if 4 ≤ xa4 then some (xa3, σ) else ck (kd (xa0) == 4) (ocase xa2 none (fun xk3 => bnd (F_X0_faultsOf (1) (xk3) (xa4) σ) (fun xr6 xσ4 => bnd (F_J6_bitCount_0f7a4 (xr6) xσ4) (fun xr9 xσ7 => bnd (F_X0_faultsOf (1) (xk3) (xa3) xσ7) (fun xr12 xσ10 => bnd (F_J6_bitCount_0f7a4 (xr12) xσ10) (fun xr15 xσ13 => if xr15 ≤ xr9 then xk_25 xa0 (some (xk3)) xa3 (xa4 + 1) xσ13 else xk_25 xa0 (some (xk3)) xa4 (xa4 + 1) xσ13))))))
def F_X4_best (xa0 : Nat) (xa1 : Int32) (σ : Sto) : Option (Int32 × Sto) := ck (kd (xa0) == 4) (bnd (F_X0_who (1) (xa1) σ) (fun xr4 xσ2 => ocase xr4 (bnd (F_X4_finding (xa0) (-1000001) xσ2) (fun xr8 xσ6 => some (xr8, xσ6))) (fun xk5 => lo4 (F_X4_best_b25) 1000 xa0 (some (xk5)) 0 1 xσ2)))
set_option maxHeartbeats 4000000 in
set_option maxRecDepth 20000 in
theorem b_X4_best_25 {x : XT} {y : YT} {Z : State → Prop} (C : Cx x y (AY y) RX4 cX4_best 5 rm_X4_best) {r : Int32} {σ' : Sto} (hr : RetI x y (AY y) 5 cX4_best Z r σ') (xk_25 : Nat → Option Nat → Int32 → Int32 → Sto → Option (Int32 × Sto)) (xH25 : ∀ (xa0 : Nat) (xa2 : Option Nat) (xa3 : Int32) (xa4 : Int32) (σ : Sto), xk_25 xa0 xa2 xa3 xa4 σ = some (r, σ') → GW x y (AY y) 5 Z 25 [(0, .ref (yad y (xa0))), (2, nv y xa2), (3, .int (xa3)), (4, .int (xa4))] [] σ) (xa0 : Nat) (xa2 : Option Nat) (xa3 : Int32) (xa4 : Int32) (σ : Sto) (h : F_X4_best_b25 xk_25 xa0 xa2 xa3 xa4 σ = some (r, σ')) : GW x y (AY y) 5 Z 25 [(0, .ref (yad y (xa0))), (2, nv y xa2), (3, .int (xa3)), (4, .int (xa4))] [] σ := by
  unfold F_X4_best_b25 at h
  refine g_iload (pc := 25) C dX4_best_25 3 rfl ?_
  refine g_iconst (v := 4) (pc := 27) C dX4_best_27 ci_4 ?_
  refine g_icmp_ge (pc := 28) C dX4_best_28 (tgt := 68) rfl (fun xq1 => ?_) (fun xq1 => ?_)
  · have h := iP xq1 h
    refine g_iload_n (pc := 68) C dX4_best_68 rfl 2 rfl ?_
    exact rtI hr dX4_best_69 h
  · have h := iN xq1 h
    refine g_aload_n (pc := 31) C dX4_best_31 rfl 0 rfl ?_
    obtain ⟨xq2, h⟩ := iC h
    have xq2 := keq xq2
    refine gf_4_0 (pc := 32) C wf_X4_10 dX4_best_32 xq2 ?_
    refine g_naload_n (pc := 35) C dX4_best_35 rfl 1 rfl ?_
    refine g_iload (pc := 36) C dX4_best_36 3 rfl ?_
    obtain ⟨xk3, rfl, h⟩ := iOs h
    obtain ⟨xr6, xσ4, xc5, h⟩ := iB h
    refine g_callVi (pc := 38) (As := [.ref (yad y (xk3)), .int (xa4)]) (rest := []) C dX4_best_38 (fun l => c_X0_faultsOf l y _ _ _ _ _ _ xc5) cv_X4_107 ⟨rfl, rfl, Nat.le_of_ble_eq_true rfl, Nat.le_of_ble_eq_true rfl⟩ (rv0 rfl) rfl (Nat.le_of_ble_eq_true rfl) ?_
    obtain ⟨xr9, xσ7, xc8, h⟩ := iB h
    refine g_callSi (pc := 41) (As := [.int (xr6)]) (rest := []) C dX4_best_41 (fun l => c_J6_bitCount_0f7a4 l y _ _ _ _ xc8) cv_X4_111 ⟨rfl, rfl, Nat.le_of_ble_eq_true rfl, Nat.le_of_ble_eq_true rfl⟩ rfl (Nat.le_of_ble_eq_true rfl) ?_
    refine g_aload_n (pc := 44) C dX4_best_44 rfl 0 rfl ?_
    refine gf_4_0 (pc := 45) C wf_X4_10 dX4_best_45 xq2 ?_
    refine g_aload_n (pc := 48) C dX4_best_48 rfl 1 rfl ?_
    refine g_iload_n (pc := 49) C dX4_best_49 rfl 2 rfl ?_
    obtain ⟨xr12, xσ10, xc11, h⟩ := iB h
    refine g_callVi (pc := 50) (As := [.ref (yad y (xk3)), .int (xa3)]) (rest := [.int (xr9)]) C dX4_best_50 (fun l => c_X0_faultsOf l y _ _ _ _ _ _ xc11) cv_X4_107 ⟨rfl, rfl, Nat.le_of_ble_eq_true rfl, Nat.le_of_ble_eq_true rfl⟩ (rv0 rfl) rfl (Nat.le_of_ble_eq_true rfl) ?_
    obtain ⟨xr15, xσ13, xc14, h⟩ := iB h
    refine g_callSi (pc := 53) (As := [.int (xr12)]) (rest := [.int (xr9)]) C dX4_best_53 (fun l => c_J6_bitCount_0f7a4 l y _ _ _ _ xc14) cv_X4_111 ⟨rfl, rfl, Nat.le_of_ble_eq_true rfl, Nat.le_of_ble_eq_true rfl⟩ rfl (Nat.le_of_ble_eq_true rfl) ?_
    refine g_icmp_ge (pc := 56) C dX4_best_56 (tgt := 62) rfl (fun xq16 => ?_) (fun xq16 => ?_)
    · have h := iP xq16 h
      refine g_iinc (lv' := [(4, .int (xa4 + 1)), (0, .ref (yad y (xa0))), (2, .ref (yad y (xk3))), (3, .int (xa3))]) (w := xa4 + 1) (pc := 62) C dX4_best_62 (k := 3) rfl rfl (Nat.le_of_ble_eq_true rfl) rfl ?_
      refine g_goto (pc := 65) C dX4_best_65 (tgt := 25) rfl ?_
      refine g_sub (lv' := [(0, .ref (yad y (xa0))), (2, nv y (some (xk3))), (3, .int (xa3)), (4, .int (xa4 + 1))]) C [1, 2, 3, 0] rfl ?_
      exact xH25 xa0 (some (xk3)) xa3 (xa4 + 1) xσ13 h
    · have h := iN xq16 h
      refine g_iload (pc := 59) C dX4_best_59 3 rfl ?_
      refine g_istore_n (i := 3) (lv' := [(3, .int (xa4)), (0, .ref (yad y (xa0))), (2, .ref (yad y (xk3))), (4, .int (xa4))]) (pc := 61) C dX4_best_61 rfl (Nat.le_of_ble_eq_true rfl) rfl ?_
      refine g_iinc (lv' := [(4, .int (xa4 + 1)), (3, .int (xa4)), (0, .ref (yad y (xa0))), (2, .ref (yad y (xk3)))]) (w := xa4 + 1) (pc := 62) C dX4_best_62 (k := 3) rfl rfl (Nat.le_of_ble_eq_true rfl) rfl ?_
      refine g_goto (pc := 65) C dX4_best_65 (tgt := 25) rfl ?_
      refine g_sub (lv' := [(0, .ref (yad y (xa0))), (2, nv y (some (xk3))), (3, .int (xa4)), (4, .int (xa4 + 1))]) C [2, 3, 1, 0] rfl ?_
      exact xH25 xa0 (some (xk3)) xa4 (xa4 + 1) xσ13 h
theorem l_X4_best_25 {x : XT} {y : YT} {Z : State → Prop} (C : Cx x y (AY y) RX4 cX4_best 5 rm_X4_best) {r : Int32} {σ' : Sto} (hr : RetI x y (AY y) 5 cX4_best Z r σ') (n : Nat) (xa0 : Nat) (xa2 : Option Nat) (xa3 : Int32) (xa4 : Int32) (σ : Sto) (h : lo4 (F_X4_best_b25) n xa0 xa2 xa3 xa4 σ = some (r, σ')) : GW x y (AY y) 5 Z 25 [(0, .ref (yad y (xa0))), (2, nv y xa2), (3, .int (xa3)), (4, .int (xa4))] [] σ :=
  lo4_gw (G := fun xa0 xa2 xa3 xa4 σ => GW x y (AY y) 5 Z 25 [(0, .ref (yad y (xa0))), (2, nv y xa2), (3, .int (xa3)), (4, .int (xa4))] [] σ) (fun xk xHk xa0 xa2 xa3 xa4 σ h => b_X4_best_25 C hr xk xHk xa0 xa2 xa3 xa4 σ h) n xa0 xa2 xa3 xa4 σ h
set_option maxHeartbeats 4000000 in
set_option maxRecDepth 20000 in
theorem b_X4_best_0 {x : XT} {y : YT} {Z : State → Prop} (C : Cx x y (AY y) RX4 cX4_best 5 rm_X4_best) {r : Int32} {σ' : Sto} (hr : RetI x y (AY y) 5 cX4_best Z r σ') (xa0 : Nat) (xa1 : Int32) (σ : Sto) (h : F_X4_best xa0 xa1 σ = some (r, σ')) : GW x y (AY y) 5 Z 0 [(0, .ref (yad y (xa0))), (1, .int (xa1))] [] σ := by
  unfold F_X4_best at h
  refine g_aload_n (pc := 0) C dX4_best_0 rfl 0 rfl ?_
  obtain ⟨xq1, h⟩ := iC h
  have xq1 := keq xq1
  refine gf_4_0 (pc := 1) C wf_X4_10 dX4_best_1 xq1 ?_
  refine g_iload_n (pc := 4) C dX4_best_4 rfl 1 rfl ?_
  obtain ⟨xr4, xσ2, xc3, h⟩ := iB h
  refine g_callVq (pc := 5) (As := [.int (xa1)]) (rest := []) C dX4_best_5 (fun l => c_X0_who l y _ _ _ _ _ xc3) cv_X4_90 ⟨rfl, rfl, Nat.le_of_ble_eq_true rfl, Nat.le_of_ble_eq_true rfl⟩ (rv0 rfl) rfl (Nat.le_of_ble_eq_true rfl) ?_
  refine g_nastore_n (i := 2) (lv' := [(2, nv y xr4), (0, .ref (yad y (xa0))), (1, .int (xa1))]) (pc := 8) C dX4_best_8 rfl (Nat.le_of_ble_eq_true rfl) rfl ?_
  refine g_naload_n (pc := 9) C dX4_best_9 rfl 0 rfl ?_
  refine g_ifnonnull (pc := 10) C dX4_best_10 (tgt := 20) rfl (fun xk5 xq9 => ?_) (fun xq9 => ?_)
  · subst xq9
    have h := iO1 h
    refine g_iconst (v := 0) (pc := 20) C dX4_best_20 ci_0 ?_
    refine g_istore_n (i := 3) (lv' := [(3, .int (0)), (2, .ref (yad y (xk5))), (0, .ref (yad y (xa0))), (1, .int (xa1))]) (pc := 21) C dX4_best_21 rfl (Nat.le_of_ble_eq_true rfl) rfl ?_
    refine g_iconst (v := 1) (pc := 22) C dX4_best_22 ci_1 ?_
    refine g_istore (i := 4) (lv' := [(4, .int (1)), (3, .int (0)), (2, .ref (yad y (xk5))), (0, .ref (yad y (xa0))), (1, .int (xa1))]) (pc := 23) C dX4_best_23 (Nat.le_of_ble_eq_true rfl) rfl ?_
    refine g_sub (lv' := [(0, .ref (yad y (xa0))), (2, nv y (some (xk5))), (3, .int (0)), (4, .int (1))]) C [3, 2, 1, 0] rfl ?_
    exact l_X4_best_25 C hr 1000 xa0 (some (xk5)) 0 1 xσ2 h
  · subst xq9
    have h := iO0 h
    refine g_aload_n (pc := 13) C dX4_best_13 rfl 1 rfl ?_
    refine g_ldc (v := (-1000001)) (pc := 14) C dX4_best_14 wk_X4_56 ?_
    obtain ⟨xr8, xσ6, xc7, h⟩ := iB h
    refine g_callVi (pc := 16) (As := [.int ((-1000001))]) (rest := []) C dX4_best_16 (fun l => c_X4_finding l y _ _ _ _ _ xc7) cv_X4_57 ⟨rfl, rfl, Nat.le_of_ble_eq_true rfl, Nat.le_of_ble_eq_true rfl⟩ (rv4 xq1) rfl (Nat.le_of_ble_eq_true rfl) ?_
    exact rtI hr dX4_best_19 h
theorem c_X4_best (l : Launch) (y : YT) (xa0 : Nat) (xa1 : Int32) (σ σ' : Sto) (r : Int32) (h : F_X4_best xa0 xa1 σ = some (r, σ')) : MI l y yX4_best (Cond.code yX4_best cX4_best 5 (some .int) :: TT) rm_X4_best [.ref (yad y (xa0)), .int (xa1)] σ r σ' :=
  mkI (by decide) rfl rfl rfl (Nat.le_of_ble_eq_true rfl) (fun x Z C hr => b_X4_best_0 C hr xa0 xa1 σ h)
def rm_X4_go : Room := { frames := 7, cells := 0, slots := 0, locals := 170 }
def F_X4_go (xa0 : Nat) (xa1 : Int32) (σ : Sto) : Option (Int32 × Sto) := if xa1 < 1 then ck (kd (xa0) == 4) (bnd (F_X4_finding (xa0) (-1000001) σ) (fun xr5 xσ2 => some (xr5, xσ2))) else if xa1 ≤ 100 then ck (kd (xa0) == 4) (if ((σ 1 4) + xa1) ≤ 99999 then bnd (F_X0_passMinutes (1) (xa1) σ) (fun xr11 xσ9 => bnd (F_X0_sumOf (1) 5 xσ9) (fun xr14 xσ12 => some (xr14, xσ12))) else bnd (F_X4_finding (xa0) (-1000005) σ) (fun xr17 xσ15 => some (xr17, xσ15))) else ck (kd (xa0) == 4) (bnd (F_X4_finding (xa0) (-1000001) σ) (fun xr21 xσ18 => some (xr21, xσ18)))
set_option maxHeartbeats 4000000 in
set_option maxRecDepth 20000 in
theorem b_X4_go_0 {x : XT} {y : YT} {Z : State → Prop} (C : Cx x y (AY y) RX4 cX4_go 2 rm_X4_go) {r : Int32} {σ' : Sto} (hr : RetI x y (AY y) 2 cX4_go Z r σ') (xa0 : Nat) (xa1 : Int32) (σ : Sto) (h : F_X4_go xa0 xa1 σ = some (r, σ')) : GW x y (AY y) 2 Z 0 [(0, .ref (yad y (xa0))), (1, .int (xa1))] [] σ := by
  unfold F_X4_go at h
  refine g_iload_n (pc := 0) C dX4_go_0 rfl 1 rfl ?_
  refine g_iconst (v := 1) (pc := 1) C dX4_go_1 ci_1 ?_
  refine g_icmp_lt (pc := 2) C dX4_go_2 (tgt := 11) rfl (fun xq1 => ?_) (fun xq1 => ?_)
  · have h := iP xq1 h
    refine g_aload_n (pc := 11) C dX4_go_11 rfl 0 rfl ?_
    refine g_ldc (v := (-1000001)) (pc := 12) C dX4_go_12 wk_X4_56 ?_
    obtain ⟨xq4, h⟩ := iC h
    have xq4 := keq xq4
    obtain ⟨xr5, xσ2, xc3, h⟩ := iB h
    refine g_callVi (pc := 14) (As := [.int ((-1000001))]) (rest := []) C dX4_go_14 (fun l => c_X4_finding l y _ _ _ _ _ xc3) cv_X4_57 ⟨rfl, rfl, Nat.le_of_ble_eq_true rfl, Nat.le_of_ble_eq_true rfl⟩ (rv4 xq4) rfl (Nat.le_of_ble_eq_true rfl) ?_
    exact rtI hr dX4_go_17 h
  · have h := iN xq1 h
    refine g_iload_n (pc := 5) C dX4_go_5 rfl 1 rfl ?_
    refine g_bipush (v := 100) (pc := 6) C dX4_go_6 cb_100 ?_
    refine g_icmp_le (pc := 8) C dX4_go_8 (tgt := 18) rfl (fun xq6 => ?_) (fun xq6 => ?_)
    · have h := iP xq6 h
      refine g_aload_n (pc := 18) C dX4_go_18 rfl 0 rfl ?_
      obtain ⟨xq7, h⟩ := iC h
      have xq7 := keq xq7
      refine gf_4_0 (pc := 19) C wf_X4_10 dX4_go_19 xq7 ?_
      refine gf_0_4 (pc := 22) C wf_X4_116 dX4_go_22 rfl ?_
      refine g_iload_n (pc := 25) C dX4_go_25 rfl 1 rfl ?_
      refine g_iadd (pc := 26) C dX4_go_26 ?_
      refine g_ldc (v := 99999) (pc := 27) C dX4_go_27 wk_X4_119 ?_
      refine g_icmp_le (pc := 29) C dX4_go_29 (tgt := 39) rfl (fun xq8 => ?_) (fun xq8 => ?_)
      · have h := iP xq8 h
        refine g_aload_n (pc := 39) C dX4_go_39 rfl 0 rfl ?_
        refine gf_4_0 (pc := 40) C wf_X4_10 dX4_go_40 xq7 ?_
        refine g_iload_n (pc := 43) C dX4_go_43 rfl 1 rfl ?_
        obtain ⟨xr11, xσ9, xc10, h⟩ := iB h
        refine g_callVv (pc := 44) (As := [.int (xa1)]) (rest := []) C dX4_go_44 (fun l => c_X0_passMinutes l y _ _ _ _ _ xc10) cv_X4_121 ⟨rfl, rfl, Nat.le_of_ble_eq_true rfl, Nat.le_of_ble_eq_true rfl⟩ (rv0 rfl) rfl (Nat.le_of_ble_eq_true rfl) ?_
        refine g_aload_n (pc := 47) C dX4_go_47 rfl 0 rfl ?_
        refine gf_4_0 (pc := 48) C wf_X4_10 dX4_go_48 xq7 ?_
        refine g_iconst (v := 5) (pc := 51) C dX4_go_51 ci_5 ?_
        obtain ⟨xr14, xσ12, xc13, h⟩ := iB h
        refine g_callVi (pc := 52) (As := [.int (5)]) (rest := []) C dX4_go_52 (fun l => c_X0_sumOf l y _ _ _ _ _ xc13) cv_X4_125 ⟨rfl, rfl, Nat.le_of_ble_eq_true rfl, Nat.le_of_ble_eq_true rfl⟩ (rv0 rfl) rfl (Nat.le_of_ble_eq_true rfl) ?_
        exact rtI hr dX4_go_55 h
      · have h := iN xq8 h
        refine g_aload_n (pc := 32) C dX4_go_32 rfl 0 rfl ?_
        refine g_ldc (v := (-1000005)) (pc := 33) C dX4_go_33 wk_X4_120 ?_
        obtain ⟨xr17, xσ15, xc16, h⟩ := iB h
        refine g_callVi (pc := 35) (As := [.int ((-1000005))]) (rest := []) C dX4_go_35 (fun l => c_X4_finding l y _ _ _ _ _ xc16) cv_X4_57 ⟨rfl, rfl, Nat.le_of_ble_eq_true rfl, Nat.le_of_ble_eq_true rfl⟩ (rv4 xq7) rfl (Nat.le_of_ble_eq_true rfl) ?_
        exact rtI hr dX4_go_38 h
    · have h := iN xq6 h
      refine g_aload_n (pc := 11) C dX4_go_11 rfl 0 rfl ?_
      refine g_ldc (v := (-1000001)) (pc := 12) C dX4_go_12 wk_X4_56 ?_
      obtain ⟨xq20, h⟩ := iC h
      have xq20 := keq xq20
      obtain ⟨xr21, xσ18, xc19, h⟩ := iB h
      refine g_callVi (pc := 14) (As := [.int ((-1000001))]) (rest := []) C dX4_go_14 (fun l => c_X4_finding l y _ _ _ _ _ xc19) cv_X4_57 ⟨rfl, rfl, Nat.le_of_ble_eq_true rfl, Nat.le_of_ble_eq_true rfl⟩ (rv4 xq20) rfl (Nat.le_of_ble_eq_true rfl) ?_
      exact rtI hr dX4_go_17 h
theorem c_X4_go (l : Launch) (y : YT) (xa0 : Nat) (xa1 : Int32) (σ σ' : Sto) (r : Int32) (h : F_X4_go xa0 xa1 σ = some (r, σ')) : MI l y yX4_go (Cond.code yX4_go cX4_go 2 (some .int) :: TT) rm_X4_go [.ref (yad y (xa0)), .int (xa1)] σ r σ' :=
  mkI (by decide) rfl rfl rfl (Nat.le_of_ble_eq_true rfl) (fun x Z C hr => b_X4_go_0 C hr xa0 xa1 σ h)
def rm_X4_now : Room := { frames := 5, cells := 0, slots := 0, locals := 129 }
def F_X4_now (xa0 : Nat) (xa1 : Int32) (σ : Sto) : Option (Int32 × Sto) := if xa1 = 0 then ck (kd (xa0) == 4) (some (σ 1 4, σ)) else if xa1 = 1 then ck (kd (xa0) == 4) (bnd (F_X0_sumOf (1) 5 σ) (fun xr7 xσ5 => some (xr7, xσ5))) else if xa1 = 2 then ck (kd (xa0) == 4) (bnd (F_X0_sumOf (1) 6 σ) (fun xr12 xσ10 => some (xr12, xσ10))) else if xa1 = 3 then ck (kd (xa0) == 4) (bnd (F_X0_sumOf (1) 4 σ) (fun xr17 xσ15 => some (xr17, xσ15))) else if xa1 = 4 then ck (kd (xa0) == 4) (bnd (F_X0_nextPlace (1) σ) (fun xr22 xσ20 => bnd (F_X0_whoIsIn (1) (xr22) xσ20) (fun xr25 xσ23 => some (xr25, xσ23)))) else if xa1 = 5 then ck (kd (xa0) == 4) (bnd (F_X0_sittersWithClearFlash (1) σ) (fun xr30 xσ28 => some (xr30, xσ28))) else if xa1 = 6 then ck (kd (xa0) == 4) (bnd (F_X0_commonFaults (1) σ) (fun xr35 xσ33 => some (xr35, xσ33))) else ck (kd (xa0) == 4) (bnd (F_X4_finding (xa0) (-1000001) σ) (fun xr39 xσ36 => some (xr39, xσ36)))
set_option maxHeartbeats 4000000 in
set_option maxRecDepth 20000 in
theorem b_X4_now_0 {x : XT} {y : YT} {Z : State → Prop} (C : Cx x y (AY y) RX4 cX4_now 2 rm_X4_now) {r : Int32} {σ' : Sto} (hr : RetI x y (AY y) 2 cX4_now Z r σ') (xa0 : Nat) (xa1 : Int32) (σ : Sto) (h : F_X4_now xa0 xa1 σ = some (r, σ')) : GW x y (AY y) 2 Z 0 [(0, .ref (yad y (xa0))), (1, .int (xa1))] [] σ := by
  unfold F_X4_now at h
  refine g_iload_n (pc := 0) C dX4_now_0 rfl 1 rfl ?_
  by_cases xq1 : xa1 = 0
  · have h := iP xq1 h
    refine g_tabIn (pc := 1) C dX4_now_1 (v := 0) (tgt := 44) (by decide) (by decide) rfl rfl xq1 ?_
    refine g_aload_n (pc := 44) C dX4_now_44 rfl 0 rfl ?_
    obtain ⟨xq2, h⟩ := iC h
    have xq2 := keq xq2
    refine gf_4_0 (pc := 45) C wf_X4_10 dX4_now_45 xq2 ?_
    refine gf_0_4 (pc := 48) C wf_X4_116 dX4_now_48 rfl ?_
    exact rtI hr dX4_now_51 h
  · have h := iN xq1 h
    by_cases xq3 : xa1 = 1
    · have h := iP xq3 h
      refine g_tabIn (pc := 1) C dX4_now_1 (v := 1) (tgt := 52) (by decide) (by decide) rfl rfl xq3 ?_
      refine g_aload_n (pc := 52) C dX4_now_52 rfl 0 rfl ?_
      obtain ⟨xq4, h⟩ := iC h
      have xq4 := keq xq4
      refine gf_4_0 (pc := 53) C wf_X4_10 dX4_now_53 xq4 ?_
      refine g_iconst (v := 5) (pc := 56) C dX4_now_56 ci_5 ?_
      obtain ⟨xr7, xσ5, xc6, h⟩ := iB h
      refine g_callVi (pc := 57) (As := [.int (5)]) (rest := []) C dX4_now_57 (fun l => c_X0_sumOf l y _ _ _ _ _ xc6) cv_X4_125 ⟨rfl, rfl, Nat.le_of_ble_eq_true rfl, Nat.le_of_ble_eq_true rfl⟩ (rv0 rfl) rfl (Nat.le_of_ble_eq_true rfl) ?_
      exact rtI hr dX4_now_60 h
    · have h := iN xq3 h
      by_cases xq8 : xa1 = 2
      · have h := iP xq8 h
        refine g_tabIn (pc := 1) C dX4_now_1 (v := 2) (tgt := 61) (by decide) (by decide) rfl rfl xq8 ?_
        refine g_aload_n (pc := 61) C dX4_now_61 rfl 0 rfl ?_
        obtain ⟨xq9, h⟩ := iC h
        have xq9 := keq xq9
        refine gf_4_0 (pc := 62) C wf_X4_10 dX4_now_62 xq9 ?_
        refine g_bipush (v := 6) (pc := 65) C dX4_now_65 cb_6 ?_
        obtain ⟨xr12, xσ10, xc11, h⟩ := iB h
        refine g_callVi (pc := 67) (As := [.int (6)]) (rest := []) C dX4_now_67 (fun l => c_X0_sumOf l y _ _ _ _ _ xc11) cv_X4_125 ⟨rfl, rfl, Nat.le_of_ble_eq_true rfl, Nat.le_of_ble_eq_true rfl⟩ (rv0 rfl) rfl (Nat.le_of_ble_eq_true rfl) ?_
        exact rtI hr dX4_now_70 h
      · have h := iN xq8 h
        by_cases xq13 : xa1 = 3
        · have h := iP xq13 h
          refine g_tabIn (pc := 1) C dX4_now_1 (v := 3) (tgt := 71) (by decide) (by decide) rfl rfl xq13 ?_
          refine g_aload_n (pc := 71) C dX4_now_71 rfl 0 rfl ?_
          obtain ⟨xq14, h⟩ := iC h
          have xq14 := keq xq14
          refine gf_4_0 (pc := 72) C wf_X4_10 dX4_now_72 xq14 ?_
          refine g_iconst (v := 4) (pc := 75) C dX4_now_75 ci_4 ?_
          obtain ⟨xr17, xσ15, xc16, h⟩ := iB h
          refine g_callVi (pc := 76) (As := [.int (4)]) (rest := []) C dX4_now_76 (fun l => c_X0_sumOf l y _ _ _ _ _ xc16) cv_X4_125 ⟨rfl, rfl, Nat.le_of_ble_eq_true rfl, Nat.le_of_ble_eq_true rfl⟩ (rv0 rfl) rfl (Nat.le_of_ble_eq_true rfl) ?_
          exact rtI hr dX4_now_79 h
        · have h := iN xq13 h
          by_cases xq18 : xa1 = 4
          · have h := iP xq18 h
            refine g_tabIn (pc := 1) C dX4_now_1 (v := 4) (tgt := 80) (by decide) (by decide) rfl rfl xq18 ?_
            refine g_aload_n (pc := 80) C dX4_now_80 rfl 0 rfl ?_
            obtain ⟨xq19, h⟩ := iC h
            have xq19 := keq xq19
            refine gf_4_0 (pc := 81) C wf_X4_10 dX4_now_81 xq19 ?_
            refine g_aload_n (pc := 84) C dX4_now_84 rfl 0 rfl ?_
            refine gf_4_0 (pc := 85) C wf_X4_10 dX4_now_85 xq19 ?_
            obtain ⟨xr22, xσ20, xc21, h⟩ := iB h
            refine g_callVi (pc := 88) (As := []) (rest := [.ref (yad y (1))]) C dX4_now_88 (fun l => c_X0_nextPlace l y _ _ _ _ xc21) cv_X4_128 ⟨rfl, rfl, Nat.le_of_ble_eq_true rfl, Nat.le_of_ble_eq_true rfl⟩ (rv0 rfl) rfl (Nat.le_of_ble_eq_true rfl) ?_
            obtain ⟨xr25, xσ23, xc24, h⟩ := iB h
            refine g_callVi (pc := 91) (As := [.int (xr22)]) (rest := []) C dX4_now_91 (fun l => c_X0_whoIsIn l y _ _ _ _ _ xc24) cv_X4_73 ⟨rfl, rfl, Nat.le_of_ble_eq_true rfl, Nat.le_of_ble_eq_true rfl⟩ (rv0 rfl) rfl (Nat.le_of_ble_eq_true rfl) ?_
            exact rtI hr dX4_now_94 h
          · have h := iN xq18 h
            by_cases xq26 : xa1 = 5
            · have h := iP xq26 h
              refine g_tabIn (pc := 1) C dX4_now_1 (v := 5) (tgt := 95) (by decide) (by decide) rfl rfl xq26 ?_
              refine g_aload_n (pc := 95) C dX4_now_95 rfl 0 rfl ?_
              obtain ⟨xq27, h⟩ := iC h
              have xq27 := keq xq27
              refine gf_4_0 (pc := 96) C wf_X4_10 dX4_now_96 xq27 ?_
              obtain ⟨xr30, xσ28, xc29, h⟩ := iB h
              refine g_callVi (pc := 99) (As := []) (rest := []) C dX4_now_99 (fun l => c_X0_sittersWithClearFlash l y _ _ _ _ xc29) cv_X4_131 ⟨rfl, rfl, Nat.le_of_ble_eq_true rfl, Nat.le_of_ble_eq_true rfl⟩ (rv0 rfl) rfl (Nat.le_of_ble_eq_true rfl) ?_
              exact rtI hr dX4_now_102 h
            · have h := iN xq26 h
              by_cases xq31 : xa1 = 6
              · have h := iP xq31 h
                refine g_tabIn (pc := 1) C dX4_now_1 (v := 6) (tgt := 103) (by decide) (by decide) rfl rfl xq31 ?_
                refine g_aload_n (pc := 103) C dX4_now_103 rfl 0 rfl ?_
                obtain ⟨xq32, h⟩ := iC h
                have xq32 := keq xq32
                refine gf_4_0 (pc := 104) C wf_X4_10 dX4_now_104 xq32 ?_
                obtain ⟨xr35, xσ33, xc34, h⟩ := iB h
                refine g_callVi (pc := 107) (As := []) (rest := []) C dX4_now_107 (fun l => c_X0_commonFaults l y _ _ _ _ xc34) cv_X4_134 ⟨rfl, rfl, Nat.le_of_ble_eq_true rfl, Nat.le_of_ble_eq_true rfl⟩ (rv0 rfl) rfl (Nat.le_of_ble_eq_true rfl) ?_
                exact rtI hr dX4_now_110 h
              · have h := iN xq31 h
                have xe0 : ¬ xa1.toInt = 0 := tne xq1
                have xe1 : ¬ xa1.toInt = 1 := tne xq3
                have xe2 : ¬ xa1.toInt = 2 := tne xq8
                have xe3 : ¬ xa1.toInt = 3 := tne xq13
                have xe4 : ¬ xa1.toInt = 4 := tne xq18
                have xe5 : ¬ xa1.toInt = 5 := tne xq26
                have xe6 : ¬ xa1.toInt = 6 := tne xq31
                refine g_tabOut (pc := 1) C dX4_now_1 (tgt := 111) (by omega) rfl ?_
                refine g_aload_n (pc := 111) C dX4_now_111 rfl 0 rfl ?_
                refine g_ldc (v := (-1000001)) (pc := 112) C dX4_now_112 wk_X4_56 ?_
                obtain ⟨xq38, h⟩ := iC h
                have xq38 := keq xq38
                obtain ⟨xr39, xσ36, xc37, h⟩ := iB h
                refine g_callVi (pc := 114) (As := [.int ((-1000001))]) (rest := []) C dX4_now_114 (fun l => c_X4_finding l y _ _ _ _ _ xc37) cv_X4_57 ⟨rfl, rfl, Nat.le_of_ble_eq_true rfl, Nat.le_of_ble_eq_true rfl⟩ (rv4 xq38) rfl (Nat.le_of_ble_eq_true rfl) ?_
                exact rtI hr dX4_now_117 h
theorem c_X4_now (l : Launch) (y : YT) (xa0 : Nat) (xa1 : Int32) (σ σ' : Sto) (r : Int32) (h : F_X4_now xa0 xa1 σ = some (r, σ')) : MI l y yX4_now (Cond.code yX4_now cX4_now 2 (some .int) :: TT) rm_X4_now [.ref (yad y (xa0)), .int (xa1)] σ r σ' :=
  mkI (by decide) rfl rfl rfl (Nat.le_of_ble_eq_true rfl) (fun x Z C hr => b_X4_now_0 C hr xa0 xa1 σ h)
def rm_X4_ahead : Room := { frames := 7, cells := 0, slots := 0, locals := 170 }
def F_X4_ahead (xa0 : Nat) (xa1 : Int32) (xa2 : Int32) (xa3 : Int32) (σ : Sto) : Option (Int32 × Sto) := ck (kd (xa0) == 4) (bnd (F_X0_isSitter (1) (xa1) σ) (fun xr4 xσ2 => if (xr4) = 0 then bnd (F_X4_finding (xa0) (-1000001) xσ2) (fun xr8 xσ6 => some (xr8, xσ6)) else if xa2 < 2 then bnd (F_X4_finding (xa0) (-1000001) xσ2) (fun xr12 xσ10 => some (xr12, xσ10)) else if 6 < xa2 then bnd (F_X4_finding (xa0) (-1000001) xσ2) (fun xr16 xσ14 => some (xr16, xσ14)) else bnd (F_X4_isWithin (xa3) 200 xσ2) (fun xr19 xσ17 => if (xr19) = 0 then bnd (F_X4_finding (xa0) (-1000001) xσ17) (fun xr32 xσ30 => some (xr32, xσ30)) else bnd (F_X0_become (13) (1) xσ17) (fun xr23 xσ21 => bnd (F_X0_passMinutes (13) (xa3) xσ21) (fun xr26 xσ24 => bnd (F_X0_partOf (13) (xa1) (xa2) xσ24) (fun xr29 xσ27 => some (xr29, xσ27)))))))
set_option maxHeartbeats 4000000 in
set_option maxRecDepth 20000 in
theorem b_X4_ahead_0 {x : XT} {y : YT} {Z : State → Prop} (C : Cx x y (AY y) RX4 cX4_ahead 4 rm_X4_ahead) {r : Int32} {σ' : Sto} (hr : RetI x y (AY y) 4 cX4_ahead Z r σ') (xa0 : Nat) (xa1 : Int32) (xa2 : Int32) (xa3 : Int32) (σ : Sto) (h : F_X4_ahead xa0 xa1 xa2 xa3 σ = some (r, σ')) : GW x y (AY y) 4 Z 0 [(0, .ref (yad y (xa0))), (1, .int (xa1)), (2, .int (xa2)), (3, .int (xa3))] [] σ := by
  unfold F_X4_ahead at h
  refine g_aload_n (pc := 0) C dX4_ahead_0 rfl 0 rfl ?_
  obtain ⟨xq1, h⟩ := iC h
  have xq1 := keq xq1
  refine gf_4_0 (pc := 1) C wf_X4_10 dX4_ahead_1 xq1 ?_
  refine g_iload_n (pc := 4) C dX4_ahead_4 rfl 1 rfl ?_
  obtain ⟨xr4, xσ2, xc3, h⟩ := iB h
  refine g_callVi (pc := 5) (As := [.int (xa1)]) (rest := []) C dX4_ahead_5 (fun l => c_X0_isSitter l y _ _ _ _ _ xc3) cv_X4_137 ⟨rfl, rfl, Nat.le_of_ble_eq_true rfl, Nat.le_of_ble_eq_true rfl⟩ (rv0 rfl) rfl (Nat.le_of_ble_eq_true rfl) ?_
  refine g_if_eq (pc := 8) C dX4_ahead_8 (tgt := 32) rfl (fun xq5 => ?_) (fun xq5 => ?_)
  · have h := iP xq5 h
    refine g_aload_n (pc := 32) C dX4_ahead_32 rfl 0 rfl ?_
    refine g_ldc (v := (-1000001)) (pc := 33) C dX4_ahead_33 wk_X4_56 ?_
    obtain ⟨xr8, xσ6, xc7, h⟩ := iB h
    refine g_callVi (pc := 35) (As := [.int ((-1000001))]) (rest := []) C dX4_ahead_35 (fun l => c_X4_finding l y _ _ _ _ _ xc7) cv_X4_57 ⟨rfl, rfl, Nat.le_of_ble_eq_true rfl, Nat.le_of_ble_eq_true rfl⟩ (rv4 xq1) rfl (Nat.le_of_ble_eq_true rfl) ?_
    exact rtI hr dX4_ahead_38 h
  · have h := iN xq5 h
    refine g_iload_n (pc := 11) C dX4_ahead_11 rfl 2 rfl ?_
    refine g_iconst (v := 2) (pc := 12) C dX4_ahead_12 ci_2 ?_
    refine g_icmp_lt (pc := 13) C dX4_ahead_13 (tgt := 32) rfl (fun xq9 => ?_) (fun xq9 => ?_)
    · have h := iP xq9 h
      refine g_aload_n (pc := 32) C dX4_ahead_32 rfl 0 rfl ?_
      refine g_ldc (v := (-1000001)) (pc := 33) C dX4_ahead_33 wk_X4_56 ?_
      obtain ⟨xr12, xσ10, xc11, h⟩ := iB h
      refine g_callVi (pc := 35) (As := [.int ((-1000001))]) (rest := []) C dX4_ahead_35 (fun l => c_X4_finding l y _ _ _ _ _ xc11) cv_X4_57 ⟨rfl, rfl, Nat.le_of_ble_eq_true rfl, Nat.le_of_ble_eq_true rfl⟩ (rv4 xq1) rfl (Nat.le_of_ble_eq_true rfl) ?_
      exact rtI hr dX4_ahead_38 h
    · have h := iN xq9 h
      refine g_iload_n (pc := 16) C dX4_ahead_16 rfl 2 rfl ?_
      refine g_bipush (v := 6) (pc := 17) C dX4_ahead_17 cb_6 ?_
      refine g_icmp_gt (pc := 19) C dX4_ahead_19 (tgt := 32) rfl (fun xq13 => ?_) (fun xq13 => ?_)
      · have h := iP xq13 h
        refine g_aload_n (pc := 32) C dX4_ahead_32 rfl 0 rfl ?_
        refine g_ldc (v := (-1000001)) (pc := 33) C dX4_ahead_33 wk_X4_56 ?_
        obtain ⟨xr16, xσ14, xc15, h⟩ := iB h
        refine g_callVi (pc := 35) (As := [.int ((-1000001))]) (rest := []) C dX4_ahead_35 (fun l => c_X4_finding l y _ _ _ _ _ xc15) cv_X4_57 ⟨rfl, rfl, Nat.le_of_ble_eq_true rfl, Nat.le_of_ble_eq_true rfl⟩ (rv4 xq1) rfl (Nat.le_of_ble_eq_true rfl) ?_
        exact rtI hr dX4_ahead_38 h
      · have h := iN xq13 h
        refine g_iload_n (pc := 22) C dX4_ahead_22 rfl 3 rfl ?_
        refine g_sipush (v := 200) (pc := 23) C dX4_ahead_23 cs_200 ?_
        obtain ⟨xr19, xσ17, xc18, h⟩ := iB h
        refine g_callSi (pc := 26) (As := [.int (xa3), .int (200)]) (rest := []) C dX4_ahead_26 (fun l => c_X4_isWithin l y _ _ _ _ _ xc18) cv_X4_52 ⟨rfl, rfl, Nat.le_of_ble_eq_true rfl, Nat.le_of_ble_eq_true rfl⟩ rfl (Nat.le_of_ble_eq_true rfl) ?_
        refine g_if_ne (pc := 29) C dX4_ahead_29 (tgt := 39) rfl (fun xq20 => ?_) (fun xq20 => ?_)
        · have h := iN xq20 h
          refine g_aload_n (pc := 39) C dX4_ahead_39 rfl 0 rfl ?_
          refine gf_4_1 (pc := 40) C wf_X4_16 dX4_ahead_40 xq1 ?_
          refine g_aload_n (pc := 43) C dX4_ahead_43 rfl 0 rfl ?_
          refine gf_4_0 (pc := 44) C wf_X4_10 dX4_ahead_44 xq1 ?_
          obtain ⟨xr23, xσ21, xc22, h⟩ := iB h
          refine g_callVv (pc := 47) (As := [.ref (yad y (1))]) (rest := []) C dX4_ahead_47 (fun l => c_X0_become l y _ _ _ _ _ xc22) cv_X4_140 ⟨rfl, rfl, Nat.le_of_ble_eq_true rfl, Nat.le_of_ble_eq_true rfl⟩ (rv0 rfl) rfl (Nat.le_of_ble_eq_true rfl) ?_
          refine g_aload_n (pc := 50) C dX4_ahead_50 rfl 0 rfl ?_
          refine gf_4_1 (pc := 51) C wf_X4_16 dX4_ahead_51 xq1 ?_
          refine g_iload_n (pc := 54) C dX4_ahead_54 rfl 3 rfl ?_
          obtain ⟨xr26, xσ24, xc25, h⟩ := iB h
          refine g_callVv (pc := 55) (As := [.int (xa3)]) (rest := []) C dX4_ahead_55 (fun l => c_X0_passMinutes l y _ _ _ _ _ xc25) cv_X4_121 ⟨rfl, rfl, Nat.le_of_ble_eq_true rfl, Nat.le_of_ble_eq_true rfl⟩ (rv0 rfl) rfl (Nat.le_of_ble_eq_true rfl) ?_
          refine g_aload_n (pc := 58) C dX4_ahead_58 rfl 0 rfl ?_
          refine gf_4_1 (pc := 59) C wf_X4_16 dX4_ahead_59 xq1 ?_
          refine g_iload_n (pc := 62) C dX4_ahead_62 rfl 1 rfl ?_
          refine g_iload_n (pc := 63) C dX4_ahead_63 rfl 2 rfl ?_
          obtain ⟨xr29, xσ27, xc28, h⟩ := iB h
          refine g_callVi (pc := 64) (As := [.int (xa1), .int (xa2)]) (rest := []) C dX4_ahead_64 (fun l => c_X0_partOf l y _ _ _ _ _ _ xc28) cv_X4_144 ⟨rfl, rfl, Nat.le_of_ble_eq_true rfl, Nat.le_of_ble_eq_true rfl⟩ (rv0 rfl) rfl (Nat.le_of_ble_eq_true rfl) ?_
          exact rtI hr dX4_ahead_67 h
        · have h := iP xq20 h
          refine g_aload_n (pc := 32) C dX4_ahead_32 rfl 0 rfl ?_
          refine g_ldc (v := (-1000001)) (pc := 33) C dX4_ahead_33 wk_X4_56 ?_
          obtain ⟨xr32, xσ30, xc31, h⟩ := iB h
          refine g_callVi (pc := 35) (As := [.int ((-1000001))]) (rest := []) C dX4_ahead_35 (fun l => c_X4_finding l y _ _ _ _ _ xc31) cv_X4_57 ⟨rfl, rfl, Nat.le_of_ble_eq_true rfl, Nat.le_of_ble_eq_true rfl⟩ (rv4 xq1) rfl (Nat.le_of_ble_eq_true rfl) ?_
          exact rtI hr dX4_ahead_38 h
theorem c_X4_ahead (l : Launch) (y : YT) (xa0 : Nat) (xa1 : Int32) (xa2 : Int32) (xa3 : Int32) (σ σ' : Sto) (r : Int32) (h : F_X4_ahead xa0 xa1 xa2 xa3 σ = some (r, σ')) : MI l y yX4_ahead (Cond.code yX4_ahead cX4_ahead 4 (some .int) :: TT) rm_X4_ahead [.ref (yad y (xa0)), .int (xa1), .int (xa2), .int (xa3)] σ r σ' :=
  mkI (by decide) rfl rfl rfl (Nat.le_of_ble_eq_true rfl) (fun x Z C hr => b_X4_ahead_0 C hr xa0 xa1 xa2 xa3 σ h)
def rm_X4_later : Room := { frames := 7, cells := 0, slots := 0, locals := 170 }
def F_X4_later_b9 (xa0 : Nat) (xa1 : Int32) (xa2 : Int32) (σ : Sto) : Option (Int32 × Sto) := bnd (F_X4_isWithin (xa2) 200 σ) (fun xr3 xσ1 => if (xr3) = 0 then ck (kd (xa0) == 4) (bnd (F_X4_finding (xa0) (-1000001) xσ1) (fun xr18 xσ15 => some (xr18, xσ15))) else ck (kd (xa0) == 4) (bnd (F_X0_become (13) (1) xσ1) (fun xr8 xσ6 => bnd (F_X0_passMinutes (13) (xa2) xσ6) (fun xr11 xσ9 => bnd (F_X0_part (13) (xa1) xσ9) (fun xr14 xσ12 => some (xr14, xσ12))))))
def F_X4_later (xa0 : Nat) (xa1 : Int32) (xa2 : Int32) (σ : Sto) : Option (Int32 × Sto) := if (xa1) = 0 then F_X4_later_b9 xa0 xa1 xa2 σ else if xa1 = 3 then F_X4_later_b9 xa0 xa1 xa2 σ else ck (kd (xa0) == 4) (bnd (F_X4_finding (xa0) (-1000001) σ) (fun xr6 xσ3 => some (xr6, xσ3)))
set_option maxHeartbeats 4000000 in
set_option maxRecDepth 20000 in
theorem b_X4_later_9 {x : XT} {y : YT} {Z : State → Prop} (C : Cx x y (AY y) RX4 cX4_later 3 rm_X4_later) {r : Int32} {σ' : Sto} (hr : RetI x y (AY y) 3 cX4_later Z r σ') (xa0 : Nat) (xa1 : Int32) (xa2 : Int32) (σ : Sto) (h : F_X4_later_b9 xa0 xa1 xa2 σ = some (r, σ')) : GW x y (AY y) 3 Z 9 [(0, .ref (yad y (xa0))), (1, .int (xa1)), (2, .int (xa2))] [] σ := by
  unfold F_X4_later_b9 at h
  refine g_iload_n (pc := 9) C dX4_later_9 rfl 2 rfl ?_
  refine g_sipush (v := 200) (pc := 10) C dX4_later_10 cs_200 ?_
  obtain ⟨xr3, xσ1, xc2, h⟩ := iB h
  refine g_callSi (pc := 13) (As := [.int (xa2), .int (200)]) (rest := []) C dX4_later_13 (fun l => c_X4_isWithin l y _ _ _ _ _ xc2) cv_X4_52 ⟨rfl, rfl, Nat.le_of_ble_eq_true rfl, Nat.le_of_ble_eq_true rfl⟩ rfl (Nat.le_of_ble_eq_true rfl) ?_
  refine g_if_ne (pc := 16) C dX4_later_16 (tgt := 26) rfl (fun xq4 => ?_) (fun xq4 => ?_)
  · have h := iN xq4 h
    refine g_aload_n (pc := 26) C dX4_later_26 rfl 0 rfl ?_
    obtain ⟨xq5, h⟩ := iC h
    have xq5 := keq xq5
    refine gf_4_1 (pc := 27) C wf_X4_16 dX4_later_27 xq5 ?_
    refine g_aload_n (pc := 30) C dX4_later_30 rfl 0 rfl ?_
    refine gf_4_0 (pc := 31) C wf_X4_10 dX4_later_31 xq5 ?_
    obtain ⟨xr8, xσ6, xc7, h⟩ := iB h
    refine g_callVv (pc := 34) (As := [.ref (yad y (1))]) (rest := []) C dX4_later_34 (fun l => c_X0_become l y _ _ _ _ _ xc7) cv_X4_140 ⟨rfl, rfl, Nat.le_of_ble_eq_true rfl, Nat.le_of_ble_eq_true rfl⟩ (rv0 rfl) rfl (Nat.le_of_ble_eq_true rfl) ?_
    refine g_aload_n (pc := 37) C dX4_later_37 rfl 0 rfl ?_
    refine gf_4_1 (pc := 38) C wf_X4_16 dX4_later_38 xq5 ?_
    refine g_iload_n (pc := 41) C dX4_later_41 rfl 2 rfl ?_
    obtain ⟨xr11, xσ9, xc10, h⟩ := iB h
    refine g_callVv (pc := 42) (As := [.int (xa2)]) (rest := []) C dX4_later_42 (fun l => c_X0_passMinutes l y _ _ _ _ _ xc10) cv_X4_121 ⟨rfl, rfl, Nat.le_of_ble_eq_true rfl, Nat.le_of_ble_eq_true rfl⟩ (rv0 rfl) rfl (Nat.le_of_ble_eq_true rfl) ?_
    refine g_aload_n (pc := 45) C dX4_later_45 rfl 0 rfl ?_
    refine gf_4_1 (pc := 46) C wf_X4_16 dX4_later_46 xq5 ?_
    refine g_iload_n (pc := 49) C dX4_later_49 rfl 1 rfl ?_
    obtain ⟨xr14, xσ12, xc13, h⟩ := iB h
    refine g_callVi (pc := 50) (As := [.int (xa1)]) (rest := []) C dX4_later_50 (fun l => c_X0_part l y _ _ _ _ _ xc13) cv_X4_60 ⟨rfl, rfl, Nat.le_of_ble_eq_true rfl, Nat.le_of_ble_eq_true rfl⟩ (rv0 rfl) rfl (Nat.le_of_ble_eq_true rfl) ?_
    exact rtI hr dX4_later_53 h
  · have h := iP xq4 h
    refine g_aload_n (pc := 19) C dX4_later_19 rfl 0 rfl ?_
    refine g_ldc (v := (-1000001)) (pc := 20) C dX4_later_20 wk_X4_56 ?_
    obtain ⟨xq17, h⟩ := iC h
    have xq17 := keq xq17
    obtain ⟨xr18, xσ15, xc16, h⟩ := iB h
    refine g_callVi (pc := 22) (As := [.int ((-1000001))]) (rest := []) C dX4_later_22 (fun l => c_X4_finding l y _ _ _ _ _ xc16) cv_X4_57 ⟨rfl, rfl, Nat.le_of_ble_eq_true rfl, Nat.le_of_ble_eq_true rfl⟩ (rv4 xq17) rfl (Nat.le_of_ble_eq_true rfl) ?_
    exact rtI hr dX4_later_25 h
set_option maxHeartbeats 4000000 in
set_option maxRecDepth 20000 in
theorem b_X4_later_0 {x : XT} {y : YT} {Z : State → Prop} (C : Cx x y (AY y) RX4 cX4_later 3 rm_X4_later) {r : Int32} {σ' : Sto} (hr : RetI x y (AY y) 3 cX4_later Z r σ') (xa0 : Nat) (xa1 : Int32) (xa2 : Int32) (σ : Sto) (h : F_X4_later xa0 xa1 xa2 σ = some (r, σ')) : GW x y (AY y) 3 Z 0 [(0, .ref (yad y (xa0))), (1, .int (xa1)), (2, .int (xa2))] [] σ := by
  unfold F_X4_later at h
  refine g_iload_n (pc := 0) C dX4_later_0 rfl 1 rfl ?_
  refine g_if_eq (pc := 1) C dX4_later_1 (tgt := 9) rfl (fun xq1 => ?_) (fun xq1 => ?_)
  · have h := iP xq1 h
    exact b_X4_later_9 C hr xa0 xa1 xa2 σ h
  · have h := iN xq1 h
    refine g_iload_n (pc := 4) C dX4_later_4 rfl 1 rfl ?_
    refine g_iconst (v := 3) (pc := 5) C dX4_later_5 ci_3 ?_
    refine g_icmp_ne (pc := 6) C dX4_later_6 (tgt := 19) rfl (fun xq2 => ?_) (fun xq2 => ?_)
    · have h := iN xq2 h
      refine g_aload_n (pc := 19) C dX4_later_19 rfl 0 rfl ?_
      refine g_ldc (v := (-1000001)) (pc := 20) C dX4_later_20 wk_X4_56 ?_
      obtain ⟨xq5, h⟩ := iC h
      have xq5 := keq xq5
      obtain ⟨xr6, xσ3, xc4, h⟩ := iB h
      refine g_callVi (pc := 22) (As := [.int ((-1000001))]) (rest := []) C dX4_later_22 (fun l => c_X4_finding l y _ _ _ _ _ xc4) cv_X4_57 ⟨rfl, rfl, Nat.le_of_ble_eq_true rfl, Nat.le_of_ble_eq_true rfl⟩ (rv4 xq5) rfl (Nat.le_of_ble_eq_true rfl) ?_
      exact rtI hr dX4_later_25 h
    · have h := iP xq2 h
      exact b_X4_later_9 C hr xa0 xa1 xa2 σ h
theorem c_X4_later (l : Launch) (y : YT) (xa0 : Nat) (xa1 : Int32) (xa2 : Int32) (σ σ' : Sto) (r : Int32) (h : F_X4_later xa0 xa1 xa2 σ = some (r, σ')) : MI l y yX4_later (Cond.code yX4_later cX4_later 3 (some .int) :: TT) rm_X4_later [.ref (yad y (xa0)), .int (xa1), .int (xa2)] σ r σ' :=
  mkI (by decide) rfl rfl rfl (Nat.le_of_ble_eq_true rfl) (fun x Z C hr => b_X4_later_0 C hr xa0 xa1 xa2 σ h)
def rm_X4_when : Room := { frames := 6, cells := 0, slots := 0, locals := 148 }
def F_X4_when_b42 (xk_42 : Nat → Int32 → Int32 → Int32 → Sto → Option (Int32 × Sto)) (xa0 : Nat) (xa1 : Int32) (xa2 : Int32) (xa3 : Int32) (σ : Sto) : Option (Int32 × Sto) := if 200 < xa3 then ck (kd (xa0) == 4) (bnd (F_X4_finding (xa0) (-1000004) σ) (fun xr5 xσ2 => some (xr5, xσ2))) else ck (kd (xa0) == 4) (bnd (F_X0_partOf (13) (xa1) 5 σ) (fun xr9 xσ7 => if xr9 < xa2 then bnd (F_X0_passMinute (13) xσ7) (fun xr13 xσ11 => xk_42 xa0 xa1 xa2 (xa3 + 1) xσ11) else some (xa3, xσ7)))
def F_X4_when (xa0 : Nat) (xa1 : Int32) (xa2 : Int32) (σ : Sto) : Option (Int32 × Sto) := ck (kd (xa0) == 4) (bnd (F_X0_isSitter (1) (xa1) σ) (fun xr4 xσ2 => if (xr4) = 0 then bnd (F_X4_finding (xa0) (-1000001) xσ2) (fun xr8 xσ6 => some (xr8, xσ6)) else bnd (F_X2_mostOf 5 xσ2) (fun xr11 xσ9 => bnd (F_X4_isWithin (xa2) (xr11) xσ9) (fun xr14 xσ12 => if (xr14) = 0 then bnd (F_X4_finding (xa0) (-1000001) xσ12) (fun xr21 xσ19 => some (xr21, xσ19)) else bnd (F_X0_become (13) (1) xσ12) (fun xr18 xσ16 => lo4 (F_X4_when_b42) 1000 xa0 xa1 xa2 0 xσ16)))))
set_option maxHeartbeats 4000000 in
set_option maxRecDepth 20000 in
theorem b_X4_when_42 {x : XT} {y : YT} {Z : State → Prop} (C : Cx x y (AY y) RX4 cX4_when 4 rm_X4_when) {r : Int32} {σ' : Sto} (hr : RetI x y (AY y) 4 cX4_when Z r σ') (xk_42 : Nat → Int32 → Int32 → Int32 → Sto → Option (Int32 × Sto)) (xH42 : ∀ (xa0 : Nat) (xa1 : Int32) (xa2 : Int32) (xa3 : Int32) (σ : Sto), xk_42 xa0 xa1 xa2 xa3 σ = some (r, σ') → GW x y (AY y) 4 Z 42 [(0, .ref (yad y (xa0))), (1, .int (xa1)), (2, .int (xa2)), (3, .int (xa3))] [] σ) (xa0 : Nat) (xa1 : Int32) (xa2 : Int32) (xa3 : Int32) (σ : Sto) (h : F_X4_when_b42 xk_42 xa0 xa1 xa2 xa3 σ = some (r, σ')) : GW x y (AY y) 4 Z 42 [(0, .ref (yad y (xa0))), (1, .int (xa1)), (2, .int (xa2)), (3, .int (xa3))] [] σ := by
  unfold F_X4_when_b42 at h
  refine g_iload_n (pc := 42) C dX4_when_42 rfl 3 rfl ?_
  refine g_sipush (v := 200) (pc := 43) C dX4_when_43 cs_200 ?_
  refine g_icmp_gt (pc := 46) C dX4_when_46 (tgt := 77) rfl (fun xq1 => ?_) (fun xq1 => ?_)
  · have h := iP xq1 h
    refine g_aload_n (pc := 77) C dX4_when_77 rfl 0 rfl ?_
    refine g_ldc (v := (-1000004)) (pc := 78) C dX4_when_78 wk_X4_151 ?_
    obtain ⟨xq4, h⟩ := iC h
    have xq4 := keq xq4
    obtain ⟨xr5, xσ2, xc3, h⟩ := iB h
    refine g_callVi (pc := 80) (As := [.int ((-1000004))]) (rest := []) C dX4_when_80 (fun l => c_X4_finding l y _ _ _ _ _ xc3) cv_X4_57 ⟨rfl, rfl, Nat.le_of_ble_eq_true rfl, Nat.le_of_ble_eq_true rfl⟩ (rv4 xq4) rfl (Nat.le_of_ble_eq_true rfl) ?_
    exact rtI hr dX4_when_83 h
  · have h := iN xq1 h
    refine g_aload_n (pc := 49) C dX4_when_49 rfl 0 rfl ?_
    obtain ⟨xq6, h⟩ := iC h
    have xq6 := keq xq6
    refine gf_4_1 (pc := 50) C wf_X4_16 dX4_when_50 xq6 ?_
    refine g_iload_n (pc := 53) C dX4_when_53 rfl 1 rfl ?_
    refine g_iconst (v := 5) (pc := 54) C dX4_when_54 ci_5 ?_
    obtain ⟨xr9, xσ7, xc8, h⟩ := iB h
    refine g_callVi (pc := 55) (As := [.int (xa1), .int (5)]) (rest := []) C dX4_when_55 (fun l => c_X0_partOf l y _ _ _ _ _ _ xc8) cv_X4_144 ⟨rfl, rfl, Nat.le_of_ble_eq_true rfl, Nat.le_of_ble_eq_true rfl⟩ (rv0 rfl) rfl (Nat.le_of_ble_eq_true rfl) ?_
    refine g_iload_n (pc := 58) C dX4_when_58 rfl 2 rfl ?_
    refine g_icmp_lt (pc := 59) C dX4_when_59 (tgt := 64) rfl (fun xq10 => ?_) (fun xq10 => ?_)
    · have h := iP xq10 h
      refine g_aload_n (pc := 64) C dX4_when_64 rfl 0 rfl ?_
      refine gf_4_1 (pc := 65) C wf_X4_16 dX4_when_65 xq6 ?_
      obtain ⟨xr13, xσ11, xc12, h⟩ := iB h
      refine g_callVv (pc := 68) (As := []) (rest := []) C dX4_when_68 (fun l => c_X0_passMinute l y _ _ _ _ xc12) cv_X4_148 ⟨rfl, rfl, Nat.le_of_ble_eq_true rfl, Nat.le_of_ble_eq_true rfl⟩ (rv0 rfl) rfl (Nat.le_of_ble_eq_true rfl) ?_
      refine g_iinc (lv' := [(3, .int (xa3 + 1)), (0, .ref (yad y (xa0))), (1, .int (xa1)), (2, .int (xa2))]) (w := xa3 + 1) (pc := 71) C dX4_when_71 (k := 3) rfl rfl (Nat.le_of_ble_eq_true rfl) rfl ?_
      refine g_goto (pc := 74) C dX4_when_74 (tgt := 42) rfl ?_
      refine g_sub (lv' := [(0, .ref (yad y (xa0))), (1, .int (xa1)), (2, .int (xa2)), (3, .int (xa3 + 1))]) C [1, 2, 3, 0] rfl ?_
      exact xH42 xa0 xa1 xa2 (xa3 + 1) xσ11 h
    · have h := iN xq10 h
      refine g_iload_n (pc := 62) C dX4_when_62 rfl 3 rfl ?_
      exact rtI hr dX4_when_63 h
theorem l_X4_when_42 {x : XT} {y : YT} {Z : State → Prop} (C : Cx x y (AY y) RX4 cX4_when 4 rm_X4_when) {r : Int32} {σ' : Sto} (hr : RetI x y (AY y) 4 cX4_when Z r σ') (n : Nat) (xa0 : Nat) (xa1 : Int32) (xa2 : Int32) (xa3 : Int32) (σ : Sto) (h : lo4 (F_X4_when_b42) n xa0 xa1 xa2 xa3 σ = some (r, σ')) : GW x y (AY y) 4 Z 42 [(0, .ref (yad y (xa0))), (1, .int (xa1)), (2, .int (xa2)), (3, .int (xa3))] [] σ :=
  lo4_gw (G := fun xa0 xa1 xa2 xa3 σ => GW x y (AY y) 4 Z 42 [(0, .ref (yad y (xa0))), (1, .int (xa1)), (2, .int (xa2)), (3, .int (xa3))] [] σ) (fun xk xHk xa0 xa1 xa2 xa3 σ h => b_X4_when_42 C hr xk xHk xa0 xa1 xa2 xa3 σ h) n xa0 xa1 xa2 xa3 σ h
set_option maxHeartbeats 4000000 in
set_option maxRecDepth 20000 in
theorem b_X4_when_0 {x : XT} {y : YT} {Z : State → Prop} (C : Cx x y (AY y) RX4 cX4_when 4 rm_X4_when) {r : Int32} {σ' : Sto} (hr : RetI x y (AY y) 4 cX4_when Z r σ') (xa0 : Nat) (xa1 : Int32) (xa2 : Int32) (σ : Sto) (h : F_X4_when xa0 xa1 xa2 σ = some (r, σ')) : GW x y (AY y) 4 Z 0 [(0, .ref (yad y (xa0))), (1, .int (xa1)), (2, .int (xa2))] [] σ := by
  unfold F_X4_when at h
  refine g_aload_n (pc := 0) C dX4_when_0 rfl 0 rfl ?_
  obtain ⟨xq1, h⟩ := iC h
  have xq1 := keq xq1
  refine gf_4_0 (pc := 1) C wf_X4_10 dX4_when_1 xq1 ?_
  refine g_iload_n (pc := 4) C dX4_when_4 rfl 1 rfl ?_
  obtain ⟨xr4, xσ2, xc3, h⟩ := iB h
  refine g_callVi (pc := 5) (As := [.int (xa1)]) (rest := []) C dX4_when_5 (fun l => c_X0_isSitter l y _ _ _ _ _ xc3) cv_X4_137 ⟨rfl, rfl, Nat.le_of_ble_eq_true rfl, Nat.le_of_ble_eq_true rfl⟩ (rv0 rfl) rfl (Nat.le_of_ble_eq_true rfl) ?_
  refine g_if_eq (pc := 8) C dX4_when_8 (tgt := 22) rfl (fun xq5 => ?_) (fun xq5 => ?_)
  · have h := iP xq5 h
    refine g_aload_n (pc := 22) C dX4_when_22 rfl 0 rfl ?_
    refine g_ldc (v := (-1000001)) (pc := 23) C dX4_when_23 wk_X4_56 ?_
    obtain ⟨xr8, xσ6, xc7, h⟩ := iB h
    refine g_callVi (pc := 25) (As := [.int ((-1000001))]) (rest := []) C dX4_when_25 (fun l => c_X4_finding l y _ _ _ _ _ xc7) cv_X4_57 ⟨rfl, rfl, Nat.le_of_ble_eq_true rfl, Nat.le_of_ble_eq_true rfl⟩ (rv4 xq1) rfl (Nat.le_of_ble_eq_true rfl) ?_
    exact rtI hr dX4_when_28 h
  · have h := iN xq5 h
    refine g_iload_n (pc := 11) C dX4_when_11 rfl 2 rfl ?_
    refine g_iconst (v := 5) (pc := 12) C dX4_when_12 ci_5 ?_
    obtain ⟨xr11, xσ9, xc10, h⟩ := iB h
    refine g_callSi (pc := 13) (As := [.int (5)]) (rest := [.int (xa2)]) C dX4_when_13 (fun l => c_X2_mostOf l y _ _ _ _ xc10) cv_X4_79 ⟨rfl, rfl, Nat.le_of_ble_eq_true rfl, Nat.le_of_ble_eq_true rfl⟩ rfl (Nat.le_of_ble_eq_true rfl) ?_
    obtain ⟨xr14, xσ12, xc13, h⟩ := iB h
    refine g_callSi (pc := 16) (As := [.int (xa2), .int (xr11)]) (rest := []) C dX4_when_16 (fun l => c_X4_isWithin l y _ _ _ _ _ xc13) cv_X4_52 ⟨rfl, rfl, Nat.le_of_ble_eq_true rfl, Nat.le_of_ble_eq_true rfl⟩ rfl (Nat.le_of_ble_eq_true rfl) ?_
    refine g_if_ne (pc := 19) C dX4_when_19 (tgt := 29) rfl (fun xq15 => ?_) (fun xq15 => ?_)
    · have h := iN xq15 h
      refine g_aload_n (pc := 29) C dX4_when_29 rfl 0 rfl ?_
      refine gf_4_1 (pc := 30) C wf_X4_16 dX4_when_30 xq1 ?_
      refine g_aload_n (pc := 33) C dX4_when_33 rfl 0 rfl ?_
      refine gf_4_0 (pc := 34) C wf_X4_10 dX4_when_34 xq1 ?_
      obtain ⟨xr18, xσ16, xc17, h⟩ := iB h
      refine g_callVv (pc := 37) (As := [.ref (yad y (1))]) (rest := []) C dX4_when_37 (fun l => c_X0_become l y _ _ _ _ _ xc17) cv_X4_140 ⟨rfl, rfl, Nat.le_of_ble_eq_true rfl, Nat.le_of_ble_eq_true rfl⟩ (rv0 rfl) rfl (Nat.le_of_ble_eq_true rfl) ?_
      refine g_iconst (v := 0) (pc := 40) C dX4_when_40 ci_0 ?_
      refine g_istore_n (i := 3) (lv' := [(3, .int (0)), (0, .ref (yad y (xa0))), (1, .int (xa1)), (2, .int (xa2))]) (pc := 41) C dX4_when_41 rfl (Nat.le_of_ble_eq_true rfl) rfl ?_
      refine g_sub (lv' := [(0, .ref (yad y (xa0))), (1, .int (xa1)), (2, .int (xa2)), (3, .int (0))]) C [1, 2, 3, 0] rfl ?_
      exact l_X4_when_42 C hr 1000 xa0 xa1 xa2 0 xσ16 h
    · have h := iP xq15 h
      refine g_aload_n (pc := 22) C dX4_when_22 rfl 0 rfl ?_
      refine g_ldc (v := (-1000001)) (pc := 23) C dX4_when_23 wk_X4_56 ?_
      obtain ⟨xr21, xσ19, xc20, h⟩ := iB h
      refine g_callVi (pc := 25) (As := [.int ((-1000001))]) (rest := []) C dX4_when_25 (fun l => c_X4_finding l y _ _ _ _ _ xc20) cv_X4_57 ⟨rfl, rfl, Nat.le_of_ble_eq_true rfl, Nat.le_of_ble_eq_true rfl⟩ (rv4 xq1) rfl (Nat.le_of_ble_eq_true rfl) ?_
      exact rtI hr dX4_when_28 h
theorem c_X4_when (l : Launch) (y : YT) (xa0 : Nat) (xa1 : Int32) (xa2 : Int32) (σ σ' : Sto) (r : Int32) (h : F_X4_when xa0 xa1 xa2 σ = some (r, σ')) : MI l y yX4_when (Cond.code yX4_when cX4_when 4 (some .int) :: TT) rm_X4_when [.ref (yad y (xa0)), .int (xa1), .int (xa2)] σ r σ' :=
  mkI (by decide) rfl rfl rfl (Nat.le_of_ble_eq_true rfl) (fun x Z C hr => b_X4_when_0 C hr xa0 xa1 xa2 σ h)
def rm_X4_broke : Room := { frames := 6, cells := 0, slots := 0, locals := 148 }
def F_X4_broke_b31 (xk_31 : Nat → Int32 → Int32 → Sto → Option (Int32 × Sto)) (xa0 : Nat) (xa1 : Int32) (xa2 : Int32) (σ : Sto) : Option (Int32 × Sto) := if 200 < xa2 then ck (kd (xa0) == 4) (bnd (F_X4_finding (xa0) (-1000004) σ) (fun xr5 xσ2 => some (xr5, xσ2))) else ck (kd (xa0) == 4) (bnd (F_X0_partOf (13) (xa1) 4 σ) (fun xr9 xσ7 => if (xσ7 13 2) ≤ xr9 then bnd (F_X0_passMinute (13) xσ7) (fun xr13 xσ11 => xk_31 xa0 xa1 (xa2 + 1) xσ11) else some (xa2, xσ7)))
def F_X4_broke (xa0 : Nat) (xa1 : Int32) (σ : Sto) : Option (Int32 × Sto) := ck (kd (xa0) == 4) (bnd (F_X0_isSitter (1) (xa1) σ) (fun xr4 xσ2 => if (xr4) = 0 then bnd (F_X4_finding (xa0) (-1000001) xσ2) (fun xr11 xσ9 => some (xr11, xσ9)) else bnd (F_X0_become (13) (1) xσ2) (fun xr8 xσ6 => lo3 (F_X4_broke_b31) 1000 xa0 xa1 0 xσ6)))
set_option maxHeartbeats 4000000 in
set_option maxRecDepth 20000 in
theorem b_X4_broke_31 {x : XT} {y : YT} {Z : State → Prop} (C : Cx x y (AY y) RX4 cX4_broke 3 rm_X4_broke) {r : Int32} {σ' : Sto} (hr : RetI x y (AY y) 3 cX4_broke Z r σ') (xk_31 : Nat → Int32 → Int32 → Sto → Option (Int32 × Sto)) (xH31 : ∀ (xa0 : Nat) (xa1 : Int32) (xa2 : Int32) (σ : Sto), xk_31 xa0 xa1 xa2 σ = some (r, σ') → GW x y (AY y) 3 Z 31 [(0, .ref (yad y (xa0))), (1, .int (xa1)), (2, .int (xa2))] [] σ) (xa0 : Nat) (xa1 : Int32) (xa2 : Int32) (σ : Sto) (h : F_X4_broke_b31 xk_31 xa0 xa1 xa2 σ = some (r, σ')) : GW x y (AY y) 3 Z 31 [(0, .ref (yad y (xa0))), (1, .int (xa1)), (2, .int (xa2))] [] σ := by
  unfold F_X4_broke_b31 at h
  refine g_iload_n (pc := 31) C dX4_broke_31 rfl 2 rfl ?_
  refine g_sipush (v := 200) (pc := 32) C dX4_broke_32 cs_200 ?_
  refine g_icmp_gt (pc := 35) C dX4_broke_35 (tgt := 72) rfl (fun xq1 => ?_) (fun xq1 => ?_)
  · have h := iP xq1 h
    refine g_aload_n (pc := 72) C dX4_broke_72 rfl 0 rfl ?_
    refine g_ldc (v := (-1000004)) (pc := 73) C dX4_broke_73 wk_X4_151 ?_
    obtain ⟨xq4, h⟩ := iC h
    have xq4 := keq xq4
    obtain ⟨xr5, xσ2, xc3, h⟩ := iB h
    refine g_callVi (pc := 75) (As := [.int ((-1000004))]) (rest := []) C dX4_broke_75 (fun l => c_X4_finding l y _ _ _ _ _ xc3) cv_X4_57 ⟨rfl, rfl, Nat.le_of_ble_eq_true rfl, Nat.le_of_ble_eq_true rfl⟩ (rv4 xq4) rfl (Nat.le_of_ble_eq_true rfl) ?_
    exact rtI hr dX4_broke_78 h
  · have h := iN xq1 h
    refine g_aload_n (pc := 38) C dX4_broke_38 rfl 0 rfl ?_
    obtain ⟨xq6, h⟩ := iC h
    have xq6 := keq xq6
    refine gf_4_1 (pc := 39) C wf_X4_16 dX4_broke_39 xq6 ?_
    refine g_iload_n (pc := 42) C dX4_broke_42 rfl 1 rfl ?_
    refine g_iconst (v := 4) (pc := 43) C dX4_broke_43 ci_4 ?_
    obtain ⟨xr9, xσ7, xc8, h⟩ := iB h
    refine g_callVi (pc := 44) (As := [.int (xa1), .int (4)]) (rest := []) C dX4_broke_44 (fun l => c_X0_partOf l y _ _ _ _ _ _ xc8) cv_X4_144 ⟨rfl, rfl, Nat.le_of_ble_eq_true rfl, Nat.le_of_ble_eq_true rfl⟩ (rv0 rfl) rfl (Nat.le_of_ble_eq_true rfl) ?_
    refine g_aload_n (pc := 47) C dX4_broke_47 rfl 0 rfl ?_
    refine gf_4_1 (pc := 48) C wf_X4_16 dX4_broke_48 xq6 ?_
    refine gf_0_2 (pc := 51) C wf_X4_152 dX4_broke_51 rfl ?_
    refine g_icmp_ge (pc := 54) C dX4_broke_54 (tgt := 59) rfl (fun xq10 => ?_) (fun xq10 => ?_)
    · have h := iP xq10 h
      refine g_aload_n (pc := 59) C dX4_broke_59 rfl 0 rfl ?_
      refine gf_4_1 (pc := 60) C wf_X4_16 dX4_broke_60 xq6 ?_
      obtain ⟨xr13, xσ11, xc12, h⟩ := iB h
      refine g_callVv (pc := 63) (As := []) (rest := []) C dX4_broke_63 (fun l => c_X0_passMinute l y _ _ _ _ xc12) cv_X4_148 ⟨rfl, rfl, Nat.le_of_ble_eq_true rfl, Nat.le_of_ble_eq_true rfl⟩ (rv0 rfl) rfl (Nat.le_of_ble_eq_true rfl) ?_
      refine g_iinc (lv' := [(2, .int (xa2 + 1)), (0, .ref (yad y (xa0))), (1, .int (xa1))]) (w := xa2 + 1) (pc := 66) C dX4_broke_66 (k := 2) rfl rfl (Nat.le_of_ble_eq_true rfl) rfl ?_
      refine g_goto (pc := 69) C dX4_broke_69 (tgt := 31) rfl ?_
      refine g_sub (lv' := [(0, .ref (yad y (xa0))), (1, .int (xa1)), (2, .int (xa2 + 1))]) C [1, 2, 0] rfl ?_
      exact xH31 xa0 xa1 (xa2 + 1) xσ11 h
    · have h := iN xq10 h
      refine g_iload_n (pc := 57) C dX4_broke_57 rfl 2 rfl ?_
      exact rtI hr dX4_broke_58 h
theorem l_X4_broke_31 {x : XT} {y : YT} {Z : State → Prop} (C : Cx x y (AY y) RX4 cX4_broke 3 rm_X4_broke) {r : Int32} {σ' : Sto} (hr : RetI x y (AY y) 3 cX4_broke Z r σ') (n : Nat) (xa0 : Nat) (xa1 : Int32) (xa2 : Int32) (σ : Sto) (h : lo3 (F_X4_broke_b31) n xa0 xa1 xa2 σ = some (r, σ')) : GW x y (AY y) 3 Z 31 [(0, .ref (yad y (xa0))), (1, .int (xa1)), (2, .int (xa2))] [] σ :=
  lo3_gw (G := fun xa0 xa1 xa2 σ => GW x y (AY y) 3 Z 31 [(0, .ref (yad y (xa0))), (1, .int (xa1)), (2, .int (xa2))] [] σ) (fun xk xHk xa0 xa1 xa2 σ h => b_X4_broke_31 C hr xk xHk xa0 xa1 xa2 σ h) n xa0 xa1 xa2 σ h
set_option maxHeartbeats 4000000 in
set_option maxRecDepth 20000 in
theorem b_X4_broke_0 {x : XT} {y : YT} {Z : State → Prop} (C : Cx x y (AY y) RX4 cX4_broke 3 rm_X4_broke) {r : Int32} {σ' : Sto} (hr : RetI x y (AY y) 3 cX4_broke Z r σ') (xa0 : Nat) (xa1 : Int32) (σ : Sto) (h : F_X4_broke xa0 xa1 σ = some (r, σ')) : GW x y (AY y) 3 Z 0 [(0, .ref (yad y (xa0))), (1, .int (xa1))] [] σ := by
  unfold F_X4_broke at h
  refine g_aload_n (pc := 0) C dX4_broke_0 rfl 0 rfl ?_
  obtain ⟨xq1, h⟩ := iC h
  have xq1 := keq xq1
  refine gf_4_0 (pc := 1) C wf_X4_10 dX4_broke_1 xq1 ?_
  refine g_iload_n (pc := 4) C dX4_broke_4 rfl 1 rfl ?_
  obtain ⟨xr4, xσ2, xc3, h⟩ := iB h
  refine g_callVi (pc := 5) (As := [.int (xa1)]) (rest := []) C dX4_broke_5 (fun l => c_X0_isSitter l y _ _ _ _ _ xc3) cv_X4_137 ⟨rfl, rfl, Nat.le_of_ble_eq_true rfl, Nat.le_of_ble_eq_true rfl⟩ (rv0 rfl) rfl (Nat.le_of_ble_eq_true rfl) ?_
  refine g_if_ne (pc := 8) C dX4_broke_8 (tgt := 18) rfl (fun xq5 => ?_) (fun xq5 => ?_)
  · have h := iN xq5 h
    refine g_aload_n (pc := 18) C dX4_broke_18 rfl 0 rfl ?_
    refine gf_4_1 (pc := 19) C wf_X4_16 dX4_broke_19 xq1 ?_
    refine g_aload_n (pc := 22) C dX4_broke_22 rfl 0 rfl ?_
    refine gf_4_0 (pc := 23) C wf_X4_10 dX4_broke_23 xq1 ?_
    obtain ⟨xr8, xσ6, xc7, h⟩ := iB h
    refine g_callVv (pc := 26) (As := [.ref (yad y (1))]) (rest := []) C dX4_broke_26 (fun l => c_X0_become l y _ _ _ _ _ xc7) cv_X4_140 ⟨rfl, rfl, Nat.le_of_ble_eq_true rfl, Nat.le_of_ble_eq_true rfl⟩ (rv0 rfl) rfl (Nat.le_of_ble_eq_true rfl) ?_
    refine g_iconst (v := 0) (pc := 29) C dX4_broke_29 ci_0 ?_
    refine g_istore_n (i := 2) (lv' := [(2, .int (0)), (0, .ref (yad y (xa0))), (1, .int (xa1))]) (pc := 30) C dX4_broke_30 rfl (Nat.le_of_ble_eq_true rfl) rfl ?_
    refine g_sub (lv' := [(0, .ref (yad y (xa0))), (1, .int (xa1)), (2, .int (0))]) C [1, 2, 0] rfl ?_
    exact l_X4_broke_31 C hr 1000 xa0 xa1 0 xσ6 h
  · have h := iP xq5 h
    refine g_aload_n (pc := 11) C dX4_broke_11 rfl 0 rfl ?_
    refine g_ldc (v := (-1000001)) (pc := 12) C dX4_broke_12 wk_X4_56 ?_
    obtain ⟨xr11, xσ9, xc10, h⟩ := iB h
    refine g_callVi (pc := 14) (As := [.int ((-1000001))]) (rest := []) C dX4_broke_14 (fun l => c_X4_finding l y _ _ _ _ _ xc10) cv_X4_57 ⟨rfl, rfl, Nat.le_of_ble_eq_true rfl, Nat.le_of_ble_eq_true rfl⟩ (rv4 xq1) rfl (Nat.le_of_ble_eq_true rfl) ?_
    exact rtI hr dX4_broke_17 h
theorem c_X4_broke (l : Launch) (y : YT) (xa0 : Nat) (xa1 : Int32) (σ σ' : Sto) (r : Int32) (h : F_X4_broke xa0 xa1 σ = some (r, σ')) : MI l y yX4_broke (Cond.code yX4_broke cX4_broke 3 (some .int) :: TT) rm_X4_broke [.ref (yad y (xa0)), .int (xa1)] σ r σ' :=
  mkI (by decide) rfl rfl rfl (Nat.le_of_ble_eq_true rfl) (fun x Z C hr => b_X4_broke_0 C hr xa0 xa1 σ h)
def rm_X4_all : Room := { frames := 6, cells := 0, slots := 0, locals := 148 }
def F_X4_all_b30 (xk_30 : Nat → Int32 → Sto → Option (Int32 × Sto)) (xa0 : Nat) (xa1 : Int32) (σ : Sto) : Option (Int32 × Sto) := if 200 < xa1 then ck (kd (xa0) == 4) (bnd (F_X4_finding (xa0) (-1000004) σ) (fun xr5 xσ2 => some (xr5, xσ2))) else ck (kd (xa0) == 4) (bnd (F_X0_isEachTaken (13) σ) (fun xr9 xσ7 => if (xr9) = 0 then bnd (F_X0_passMinute (13) xσ7) (fun xr13 xσ11 => xk_30 xa0 (xa1 + 1) xσ11) else some (xa1, xσ7)))
def F_X4_all (xa0 : Nat) (σ : Sto) : Option (Int32 × Sto) := ck (kd (xa0) == 4) (if (σ 1 6) = 0 then bnd (F_X4_finding (xa0) (-1000005) σ) (fun xr8 xσ6 => some (xr8, xσ6)) else bnd (F_X0_become (13) (1) σ) (fun xr5 xσ3 => lo2 (F_X4_all_b30) 1000 xa0 0 xσ3))
set_option maxHeartbeats 4000000 in
set_option maxRecDepth 20000 in
theorem b_X4_all_30 {x : XT} {y : YT} {Z : State → Prop} (C : Cx x y (AY y) RX4 cX4_all 2 rm_X4_all) {r : Int32} {σ' : Sto} (hr : RetI x y (AY y) 2 cX4_all Z r σ') (xk_30 : Nat → Int32 → Sto → Option (Int32 × Sto)) (xH30 : ∀ (xa0 : Nat) (xa1 : Int32) (σ : Sto), xk_30 xa0 xa1 σ = some (r, σ') → GW x y (AY y) 2 Z 30 [(0, .ref (yad y (xa0))), (1, .int (xa1))] [] σ) (xa0 : Nat) (xa1 : Int32) (σ : Sto) (h : F_X4_all_b30 xk_30 xa0 xa1 σ = some (r, σ')) : GW x y (AY y) 2 Z 30 [(0, .ref (yad y (xa0))), (1, .int (xa1))] [] σ := by
  unfold F_X4_all_b30 at h
  refine g_iload_n (pc := 30) C dX4_all_30 rfl 1 rfl ?_
  refine g_sipush (v := 200) (pc := 31) C dX4_all_31 cs_200 ?_
  refine g_icmp_gt (pc := 34) C dX4_all_34 (tgt := 62) rfl (fun xq1 => ?_) (fun xq1 => ?_)
  · have h := iP xq1 h
    refine g_aload_n (pc := 62) C dX4_all_62 rfl 0 rfl ?_
    refine g_ldc (v := (-1000004)) (pc := 63) C dX4_all_63 wk_X4_151 ?_
    obtain ⟨xq4, h⟩ := iC h
    have xq4 := keq xq4
    obtain ⟨xr5, xσ2, xc3, h⟩ := iB h
    refine g_callVi (pc := 65) (As := [.int ((-1000004))]) (rest := []) C dX4_all_65 (fun l => c_X4_finding l y _ _ _ _ _ xc3) cv_X4_57 ⟨rfl, rfl, Nat.le_of_ble_eq_true rfl, Nat.le_of_ble_eq_true rfl⟩ (rv4 xq4) rfl (Nat.le_of_ble_eq_true rfl) ?_
    exact rtI hr dX4_all_68 h
  · have h := iN xq1 h
    refine g_aload_n (pc := 37) C dX4_all_37 rfl 0 rfl ?_
    obtain ⟨xq6, h⟩ := iC h
    have xq6 := keq xq6
    refine gf_4_1 (pc := 38) C wf_X4_16 dX4_all_38 xq6 ?_
    obtain ⟨xr9, xσ7, xc8, h⟩ := iB h
    refine g_callVi (pc := 41) (As := []) (rest := []) C dX4_all_41 (fun l => c_X0_isEachTaken l y _ _ _ _ xc8) cv_X4_158 ⟨rfl, rfl, Nat.le_of_ble_eq_true rfl, Nat.le_of_ble_eq_true rfl⟩ (rv0 rfl) rfl (Nat.le_of_ble_eq_true rfl) ?_
    refine g_if_eq (pc := 44) C dX4_all_44 (tgt := 49) rfl (fun xq10 => ?_) (fun xq10 => ?_)
    · have h := iP xq10 h
      refine g_aload_n (pc := 49) C dX4_all_49 rfl 0 rfl ?_
      refine gf_4_1 (pc := 50) C wf_X4_16 dX4_all_50 xq6 ?_
      obtain ⟨xr13, xσ11, xc12, h⟩ := iB h
      refine g_callVv (pc := 53) (As := []) (rest := []) C dX4_all_53 (fun l => c_X0_passMinute l y _ _ _ _ xc12) cv_X4_148 ⟨rfl, rfl, Nat.le_of_ble_eq_true rfl, Nat.le_of_ble_eq_true rfl⟩ (rv0 rfl) rfl (Nat.le_of_ble_eq_true rfl) ?_
      refine g_iinc (lv' := [(1, .int (xa1 + 1)), (0, .ref (yad y (xa0)))]) (w := xa1 + 1) (pc := 56) C dX4_all_56 (k := 1) rfl rfl (Nat.le_of_ble_eq_true rfl) rfl ?_
      refine g_goto (pc := 59) C dX4_all_59 (tgt := 30) rfl ?_
      refine g_sub (lv' := [(0, .ref (yad y (xa0))), (1, .int (xa1 + 1))]) C [1, 0] rfl ?_
      exact xH30 xa0 (xa1 + 1) xσ11 h
    · have h := iN xq10 h
      refine g_iload_n (pc := 47) C dX4_all_47 rfl 1 rfl ?_
      exact rtI hr dX4_all_48 h
theorem l_X4_all_30 {x : XT} {y : YT} {Z : State → Prop} (C : Cx x y (AY y) RX4 cX4_all 2 rm_X4_all) {r : Int32} {σ' : Sto} (hr : RetI x y (AY y) 2 cX4_all Z r σ') (n : Nat) (xa0 : Nat) (xa1 : Int32) (σ : Sto) (h : lo2 (F_X4_all_b30) n xa0 xa1 σ = some (r, σ')) : GW x y (AY y) 2 Z 30 [(0, .ref (yad y (xa0))), (1, .int (xa1))] [] σ :=
  lo2_gw (G := fun xa0 xa1 σ => GW x y (AY y) 2 Z 30 [(0, .ref (yad y (xa0))), (1, .int (xa1))] [] σ) (fun xk xHk xa0 xa1 σ h => b_X4_all_30 C hr xk xHk xa0 xa1 σ h) n xa0 xa1 σ h
set_option maxHeartbeats 4000000 in
set_option maxRecDepth 20000 in
theorem b_X4_all_0 {x : XT} {y : YT} {Z : State → Prop} (C : Cx x y (AY y) RX4 cX4_all 2 rm_X4_all) {r : Int32} {σ' : Sto} (hr : RetI x y (AY y) 2 cX4_all Z r σ') (xa0 : Nat) (σ : Sto) (h : F_X4_all xa0 σ = some (r, σ')) : GW x y (AY y) 2 Z 0 [(0, .ref (yad y (xa0)))] [] σ := by
  unfold F_X4_all at h
  refine g_aload_n (pc := 0) C dX4_all_0 rfl 0 rfl ?_
  obtain ⟨xq1, h⟩ := iC h
  have xq1 := keq xq1
  refine gf_4_0 (pc := 1) C wf_X4_10 dX4_all_1 xq1 ?_
  refine gf_0_6 (pc := 4) C wf_X4_155 dX4_all_4 rfl ?_
  refine g_if_ne (pc := 7) C dX4_all_7 (tgt := 17) rfl (fun xq2 => ?_) (fun xq2 => ?_)
  · have h := iN xq2 h
    refine g_aload_n (pc := 17) C dX4_all_17 rfl 0 rfl ?_
    refine gf_4_1 (pc := 18) C wf_X4_16 dX4_all_18 xq1 ?_
    refine g_aload_n (pc := 21) C dX4_all_21 rfl 0 rfl ?_
    refine gf_4_0 (pc := 22) C wf_X4_10 dX4_all_22 xq1 ?_
    obtain ⟨xr5, xσ3, xc4, h⟩ := iB h
    refine g_callVv (pc := 25) (As := [.ref (yad y (1))]) (rest := []) C dX4_all_25 (fun l => c_X0_become l y _ _ _ _ _ xc4) cv_X4_140 ⟨rfl, rfl, Nat.le_of_ble_eq_true rfl, Nat.le_of_ble_eq_true rfl⟩ (rv0 rfl) rfl (Nat.le_of_ble_eq_true rfl) ?_
    refine g_iconst (v := 0) (pc := 28) C dX4_all_28 ci_0 ?_
    refine g_istore_n (i := 1) (lv' := [(1, .int (0)), (0, .ref (yad y (xa0)))]) (pc := 29) C dX4_all_29 rfl (Nat.le_of_ble_eq_true rfl) rfl ?_
    refine g_sub (lv' := [(0, .ref (yad y (xa0))), (1, .int (0))]) C [1, 0] rfl ?_
    exact l_X4_all_30 C hr 1000 xa0 0 xσ3 h
  · have h := iP xq2 h
    refine g_aload_n (pc := 10) C dX4_all_10 rfl 0 rfl ?_
    refine g_ldc (v := (-1000005)) (pc := 11) C dX4_all_11 wk_X4_120 ?_
    obtain ⟨xr8, xσ6, xc7, h⟩ := iB h
    refine g_callVi (pc := 13) (As := [.int ((-1000005))]) (rest := []) C dX4_all_13 (fun l => c_X4_finding l y _ _ _ _ _ xc7) cv_X4_57 ⟨rfl, rfl, Nat.le_of_ble_eq_true rfl, Nat.le_of_ble_eq_true rfl⟩ (rv4 xq1) rfl (Nat.le_of_ble_eq_true rfl) ?_
    exact rtI hr dX4_all_16 h
theorem c_X4_all (l : Launch) (y : YT) (xa0 : Nat) (σ σ' : Sto) (r : Int32) (h : F_X4_all xa0 σ = some (r, σ')) : MI l y yX4_all (Cond.code yX4_all cX4_all 2 (some .int) :: TT) rm_X4_all [.ref (yad y (xa0))] σ r σ' :=
  mkI (by decide) rfl rfl rfl (Nat.le_of_ble_eq_true rfl) (fun x Z C hr => b_X4_all_0 C hr xa0 σ h)
def rm_X4_stoolFor : Room := { frames := 4, cells := 0, slots := 0, locals := 108 }
def F_X4_stoolFor_b36 (xk_36 : Nat → Int32 → Int32 → Int32 → Int32 → Sto → Option (Int32 × Sto)) (xa0 : Nat) (xa1 : Int32) (xa2 : Int32) (xa3 : Int32) (xa4 : Int32) (σ : Sto) : Option (Int32 × Sto) := bnd (F_X0_mostOf 0 σ) (fun xr3 xσ1 => if xr3 < xa4 then some (xa2, xσ1) else ck (kd (xa0) == 4) (lts (up2 xσ1 (13) 0 (xa4)) (fun xσ6 => bnd (F_X0_faultsTogether (13) (xa1) xσ6) (fun xr9 xσ7 => if (xa3) < 0 then xk_36 xa0 xa1 xa4 xr9 (xa4 + 1) xσ7 else if xa3 ≤ xr9 then xk_36 xa0 xa1 xa2 xa3 (xa4 + 1) xσ7 else xk_36 xa0 xa1 xa4 xr9 (xa4 + 1) xσ7))))
def F_X4_stoolFor (xa0 : Nat) (xa1 : Int32) (σ : Sto) : Option (Int32 × Sto) := ck (kd (xa0) == 4) (bnd (F_X0_isSitter (1) (xa1) σ) (fun xr4 xσ2 => if (xr4) = 0 then bnd (F_X4_finding (xa0) (-1000001) xσ2) (fun xr11 xσ9 => some (xr11, xσ9)) else bnd (F_X0_become (13) (1) xσ2) (fun xr8 xσ6 => lo5 (F_X4_stoolFor_b36) 1000 xa0 xa1 0 (-1) 0 xσ6)))
set_option maxHeartbeats 4000000 in
set_option maxRecDepth 20000 in
theorem b_X4_stoolFor_36 {x : XT} {y : YT} {Z : State → Prop} (C : Cx x y (AY y) RX4 cX4_stoolFor 6 rm_X4_stoolFor) {r : Int32} {σ' : Sto} (hr : RetI x y (AY y) 6 cX4_stoolFor Z r σ') (xk_36 : Nat → Int32 → Int32 → Int32 → Int32 → Sto → Option (Int32 × Sto)) (xH36 : ∀ (xa0 : Nat) (xa1 : Int32) (xa2 : Int32) (xa3 : Int32) (xa4 : Int32) (σ : Sto), xk_36 xa0 xa1 xa2 xa3 xa4 σ = some (r, σ') → GW x y (AY y) 6 Z 36 [(0, .ref (yad y (xa0))), (1, .int (xa1)), (2, .int (xa2)), (3, .int (xa3)), (4, .int (xa4))] [] σ) (xa0 : Nat) (xa1 : Int32) (xa2 : Int32) (xa3 : Int32) (xa4 : Int32) (σ : Sto) (h : F_X4_stoolFor_b36 xk_36 xa0 xa1 xa2 xa3 xa4 σ = some (r, σ')) : GW x y (AY y) 6 Z 36 [(0, .ref (yad y (xa0))), (1, .int (xa1)), (2, .int (xa2)), (3, .int (xa3)), (4, .int (xa4))] [] σ := by
  unfold F_X4_stoolFor_b36 at h
  refine g_iload (pc := 36) C dX4_stoolFor_36 4 rfl ?_
  refine g_iconst (v := 0) (pc := 38) C dX4_stoolFor_38 ci_0 ?_
  obtain ⟨xr3, xσ1, xc2, h⟩ := iB h
  refine g_callSi (pc := 39) (As := [.int (0)]) (rest := [.int (xa4)]) C dX4_stoolFor_39 (fun l => c_X0_mostOf l y _ _ _ _ xc2) cv_X4_48 ⟨rfl, rfl, Nat.le_of_ble_eq_true rfl, Nat.le_of_ble_eq_true rfl⟩ rfl (Nat.le_of_ble_eq_true rfl) ?_
  refine g_icmp_gt (pc := 42) C dX4_stoolFor_42 (tgt := 86) rfl (fun xq4 => ?_) (fun xq4 => ?_)
  · have h := iP xq4 h
    refine g_iload_n (pc := 86) C dX4_stoolFor_86 rfl 2 rfl ?_
    exact rtI hr dX4_stoolFor_87 h
  · have h := iN xq4 h
    refine g_aload_n (pc := 45) C dX4_stoolFor_45 rfl 0 rfl ?_
    obtain ⟨xq5, h⟩ := iC h
    have xq5 := keq xq5
    refine gf_4_1 (pc := 46) C wf_X4_16 dX4_stoolFor_46 xq5 ?_
    refine g_iload (pc := 49) C dX4_stoolFor_49 4 rfl ?_
    refine gp_0_0 (pc := 51) C wf_X4_94 dX4_stoolFor_51 rfl ?_
    refine g_letS h (fun xσ6 h => ?_)
    refine g_aload_n (pc := 54) C dX4_stoolFor_54 rfl 0 rfl ?_
    refine gf_4_1 (pc := 55) C wf_X4_16 dX4_stoolFor_55 xq5 ?_
    refine g_iload_n (pc := 58) C dX4_stoolFor_58 rfl 1 rfl ?_
    obtain ⟨xr9, xσ7, xc8, h⟩ := iB h
    refine g_callVi (pc := 59) (As := [.int (xa1)]) (rest := []) C dX4_stoolFor_59 (fun l => c_X0_faultsTogether l y _ _ _ _ _ xc8) cv_X4_162 ⟨rfl, rfl, Nat.le_of_ble_eq_true rfl, Nat.le_of_ble_eq_true rfl⟩ (rv0 rfl) rfl (Nat.le_of_ble_eq_true rfl) ?_
    refine g_istore (i := 5) (lv' := [(5, .int (xr9)), (0, .ref (yad y (xa0))), (1, .int (xa1)), (2, .int (xa2)), (3, .int (xa3)), (4, .int (xa4))]) (pc := 62) C dX4_stoolFor_62 (Nat.le_of_ble_eq_true rfl) rfl ?_
    refine g_iload_n (pc := 64) C dX4_stoolFor_64 rfl 4 rfl ?_
    refine g_if_lt (pc := 65) C dX4_stoolFor_65 (tgt := 74) rfl (fun xq10 => ?_) (fun xq10 => ?_)
    · have h := iP xq10 h
      refine g_iload (pc := 74) C dX4_stoolFor_74 0 rfl ?_
      refine g_istore_n (i := 3) (lv' := [(3, .int (xr9)), (5, .int (xr9)), (0, .ref (yad y (xa0))), (1, .int (xa1)), (2, .int (xa2)), (4, .int (xa4))]) (pc := 76) C dX4_stoolFor_76 rfl (Nat.le_of_ble_eq_true rfl) rfl ?_
      refine g_iload (pc := 77) C dX4_stoolFor_77 5 rfl ?_
      refine g_istore_n (i := 2) (lv' := [(2, .int (xa4)), (3, .int (xr9)), (5, .int (xr9)), (0, .ref (yad y (xa0))), (1, .int (xa1)), (4, .int (xa4))]) (pc := 79) C dX4_stoolFor_79 rfl (Nat.le_of_ble_eq_true rfl) rfl ?_
      refine g_iinc (lv' := [(4, .int (xa4 + 1)), (2, .int (xa4)), (3, .int (xr9)), (5, .int (xr9)), (0, .ref (yad y (xa0))), (1, .int (xa1))]) (w := xa4 + 1) (pc := 80) C dX4_stoolFor_80 (k := 5) rfl rfl (Nat.le_of_ble_eq_true rfl) rfl ?_
      refine g_goto (pc := 83) C dX4_stoolFor_83 (tgt := 36) rfl ?_
      refine g_sub (lv' := [(0, .ref (yad y (xa0))), (1, .int (xa1)), (2, .int (xa4)), (3, .int (xr9)), (4, .int (xa4 + 1))]) C [4, 5, 1, 2, 0] rfl ?_
      exact xH36 xa0 xa1 xa4 xr9 (xa4 + 1) xσ7 h
    · have h := iN xq10 h
      refine g_iload (pc := 68) C dX4_stoolFor_68 0 rfl ?_
      refine g_iload_n (pc := 70) C dX4_stoolFor_70 rfl 4 rfl ?_
      refine g_icmp_ge (pc := 71) C dX4_stoolFor_71 (tgt := 80) rfl (fun xq11 => ?_) (fun xq11 => ?_)
      · have h := iP xq11 h
        refine g_iinc (lv' := [(4, .int (xa4 + 1)), (5, .int (xr9)), (0, .ref (yad y (xa0))), (1, .int (xa1)), (2, .int (xa2)), (3, .int (xa3))]) (w := xa4 + 1) (pc := 80) C dX4_stoolFor_80 (k := 5) rfl rfl (Nat.le_of_ble_eq_true rfl) rfl ?_
        refine g_goto (pc := 83) C dX4_stoolFor_83 (tgt := 36) rfl ?_
        refine g_sub (lv' := [(0, .ref (yad y (xa0))), (1, .int (xa1)), (2, .int (xa2)), (3, .int (xa3)), (4, .int (xa4 + 1))]) C [2, 3, 4, 5, 0] rfl ?_
        exact xH36 xa0 xa1 xa2 xa3 (xa4 + 1) xσ7 h
      · have h := iN xq11 h
        refine g_iload (pc := 74) C dX4_stoolFor_74 0 rfl ?_
        refine g_istore_n (i := 3) (lv' := [(3, .int (xr9)), (5, .int (xr9)), (0, .ref (yad y (xa0))), (1, .int (xa1)), (2, .int (xa2)), (4, .int (xa4))]) (pc := 76) C dX4_stoolFor_76 rfl (Nat.le_of_ble_eq_true rfl) rfl ?_
        refine g_iload (pc := 77) C dX4_stoolFor_77 5 rfl ?_
        refine g_istore_n (i := 2) (lv' := [(2, .int (xa4)), (3, .int (xr9)), (5, .int (xr9)), (0, .ref (yad y (xa0))), (1, .int (xa1)), (4, .int (xa4))]) (pc := 79) C dX4_stoolFor_79 rfl (Nat.le_of_ble_eq_true rfl) rfl ?_
        refine g_iinc (lv' := [(4, .int (xa4 + 1)), (2, .int (xa4)), (3, .int (xr9)), (5, .int (xr9)), (0, .ref (yad y (xa0))), (1, .int (xa1))]) (w := xa4 + 1) (pc := 80) C dX4_stoolFor_80 (k := 5) rfl rfl (Nat.le_of_ble_eq_true rfl) rfl ?_
        refine g_goto (pc := 83) C dX4_stoolFor_83 (tgt := 36) rfl ?_
        refine g_sub (lv' := [(0, .ref (yad y (xa0))), (1, .int (xa1)), (2, .int (xa4)), (3, .int (xr9)), (4, .int (xa4 + 1))]) C [4, 5, 1, 2, 0] rfl ?_
        exact xH36 xa0 xa1 xa4 xr9 (xa4 + 1) xσ7 h
theorem l_X4_stoolFor_36 {x : XT} {y : YT} {Z : State → Prop} (C : Cx x y (AY y) RX4 cX4_stoolFor 6 rm_X4_stoolFor) {r : Int32} {σ' : Sto} (hr : RetI x y (AY y) 6 cX4_stoolFor Z r σ') (n : Nat) (xa0 : Nat) (xa1 : Int32) (xa2 : Int32) (xa3 : Int32) (xa4 : Int32) (σ : Sto) (h : lo5 (F_X4_stoolFor_b36) n xa0 xa1 xa2 xa3 xa4 σ = some (r, σ')) : GW x y (AY y) 6 Z 36 [(0, .ref (yad y (xa0))), (1, .int (xa1)), (2, .int (xa2)), (3, .int (xa3)), (4, .int (xa4))] [] σ :=
  lo5_gw (G := fun xa0 xa1 xa2 xa3 xa4 σ => GW x y (AY y) 6 Z 36 [(0, .ref (yad y (xa0))), (1, .int (xa1)), (2, .int (xa2)), (3, .int (xa3)), (4, .int (xa4))] [] σ) (fun xk xHk xa0 xa1 xa2 xa3 xa4 σ h => b_X4_stoolFor_36 C hr xk xHk xa0 xa1 xa2 xa3 xa4 σ h) n xa0 xa1 xa2 xa3 xa4 σ h
set_option maxHeartbeats 4000000 in
set_option maxRecDepth 20000 in
theorem b_X4_stoolFor_0 {x : XT} {y : YT} {Z : State → Prop} (C : Cx x y (AY y) RX4 cX4_stoolFor 6 rm_X4_stoolFor) {r : Int32} {σ' : Sto} (hr : RetI x y (AY y) 6 cX4_stoolFor Z r σ') (xa0 : Nat) (xa1 : Int32) (σ : Sto) (h : F_X4_stoolFor xa0 xa1 σ = some (r, σ')) : GW x y (AY y) 6 Z 0 [(0, .ref (yad y (xa0))), (1, .int (xa1))] [] σ := by
  unfold F_X4_stoolFor at h
  refine g_aload_n (pc := 0) C dX4_stoolFor_0 rfl 0 rfl ?_
  obtain ⟨xq1, h⟩ := iC h
  have xq1 := keq xq1
  refine gf_4_0 (pc := 1) C wf_X4_10 dX4_stoolFor_1 xq1 ?_
  refine g_iload_n (pc := 4) C dX4_stoolFor_4 rfl 1 rfl ?_
  obtain ⟨xr4, xσ2, xc3, h⟩ := iB h
  refine g_callVi (pc := 5) (As := [.int (xa1)]) (rest := []) C dX4_stoolFor_5 (fun l => c_X0_isSitter l y _ _ _ _ _ xc3) cv_X4_137 ⟨rfl, rfl, Nat.le_of_ble_eq_true rfl, Nat.le_of_ble_eq_true rfl⟩ (rv0 rfl) rfl (Nat.le_of_ble_eq_true rfl) ?_
  refine g_if_ne (pc := 8) C dX4_stoolFor_8 (tgt := 18) rfl (fun xq5 => ?_) (fun xq5 => ?_)
  · have h := iN xq5 h
    refine g_aload_n (pc := 18) C dX4_stoolFor_18 rfl 0 rfl ?_
    refine gf_4_1 (pc := 19) C wf_X4_16 dX4_stoolFor_19 xq1 ?_
    refine g_aload_n (pc := 22) C dX4_stoolFor_22 rfl 0 rfl ?_
    refine gf_4_0 (pc := 23) C wf_X4_10 dX4_stoolFor_23 xq1 ?_
    obtain ⟨xr8, xσ6, xc7, h⟩ := iB h
    refine g_callVv (pc := 26) (As := [.ref (yad y (1))]) (rest := []) C dX4_stoolFor_26 (fun l => c_X0_become l y _ _ _ _ _ xc7) cv_X4_140 ⟨rfl, rfl, Nat.le_of_ble_eq_true rfl, Nat.le_of_ble_eq_true rfl⟩ (rv0 rfl) rfl (Nat.le_of_ble_eq_true rfl) ?_
    refine g_iconst (v := 0) (pc := 29) C dX4_stoolFor_29 ci_0 ?_
    refine g_istore_n (i := 2) (lv' := [(2, .int (0)), (0, .ref (yad y (xa0))), (1, .int (xa1))]) (pc := 30) C dX4_stoolFor_30 rfl (Nat.le_of_ble_eq_true rfl) rfl ?_
    refine g_iconst (v := (-1)) (pc := 31) C dX4_stoolFor_31 ci_m1 ?_
    refine g_istore_n (i := 3) (lv' := [(3, .int ((-1))), (2, .int (0)), (0, .ref (yad y (xa0))), (1, .int (xa1))]) (pc := 32) C dX4_stoolFor_32 rfl (Nat.le_of_ble_eq_true rfl) rfl ?_
    refine g_iconst (v := 0) (pc := 33) C dX4_stoolFor_33 ci_0 ?_
    refine g_istore (i := 4) (lv' := [(4, .int (0)), (3, .int ((-1))), (2, .int (0)), (0, .ref (yad y (xa0))), (1, .int (xa1))]) (pc := 34) C dX4_stoolFor_34 (Nat.le_of_ble_eq_true rfl) rfl ?_
    refine g_sub (lv' := [(0, .ref (yad y (xa0))), (1, .int (xa1)), (2, .int (0)), (3, .int ((-1))), (4, .int (0))]) C [3, 4, 2, 1, 0] rfl ?_
    exact l_X4_stoolFor_36 C hr 1000 xa0 xa1 0 (-1) 0 xσ6 h
  · have h := iP xq5 h
    refine g_aload_n (pc := 11) C dX4_stoolFor_11 rfl 0 rfl ?_
    refine g_ldc (v := (-1000001)) (pc := 12) C dX4_stoolFor_12 wk_X4_56 ?_
    obtain ⟨xr11, xσ9, xc10, h⟩ := iB h
    refine g_callVi (pc := 14) (As := [.int ((-1000001))]) (rest := []) C dX4_stoolFor_14 (fun l => c_X4_finding l y _ _ _ _ _ xc10) cv_X4_57 ⟨rfl, rfl, Nat.le_of_ble_eq_true rfl, Nat.le_of_ble_eq_true rfl⟩ (rv4 xq1) rfl (Nat.le_of_ble_eq_true rfl) ?_
    exact rtI hr dX4_stoolFor_17 h
theorem c_X4_stoolFor (l : Launch) (y : YT) (xa0 : Nat) (xa1 : Int32) (σ σ' : Sto) (r : Int32) (h : F_X4_stoolFor xa0 xa1 σ = some (r, σ')) : MI l y yX4_stoolFor (Cond.code yX4_stoolFor cX4_stoolFor 6 (some .int) :: TT) rm_X4_stoolFor [.ref (yad y (xa0)), .int (xa1)] σ r σ' :=
  mkI (by decide) rfl rfl rfl (Nat.le_of_ble_eq_true rfl) (fun x Z C hr => b_X4_stoolFor_0 C hr xa0 xa1 σ h)

/-! methods, by program: what each does to the store (F_), its walk (b_), its contract (c_): X4_lightFor, X4_turnFor, X4_kindFor, X4_merryFor, X4_priceFor, X4_away, X4_sheetAt, X4_refusalFor -/
def rm_X4_lightFor : Room := { frames := 7, cells := 0, slots := 0, locals := 170 }
def F_X4_lightFor_b40 (xk_40 : Nat → Int32 → Int32 → Int32 → Int32 → Sto → Option (Int32 × Sto)) (xa0 : Nat) (xa1 : Int32) (xa2 : Int32) (xa3 : Int32) (xa4 : Int32) (σ : Sto) : Option (Int32 × Sto) := bnd (F_X0_mostOf 1 σ) (fun xr3 xσ1 => if xr3 < xa4 then ck (kd (xa0) == 4) (bnd (F_X4_finding (xa0) (-1000004) xσ1) (fun xr8 xσ5 => some (xr8, xσ5))) else ck (kd (xa0) == 4) (bnd (F_X0_become (13) (1) xσ1) (fun xr12 xσ10 => lts (up2 xσ10 (13) 1 (xa4)) (fun xσ13 => bnd (F_X0_passMinutes (13) (xa2) xσ13) (fun xr16 xσ14 => bnd (F_X0_partOf (13) (xa1) 5 xσ14) (fun xr19 xσ17 => if xr19 ≤ xa3 then xk_40 xa0 xa1 xa2 xa3 (xa4 + 1) xσ17 else some (xa4, xσ17)))))))
def F_X4_lightFor (xa0 : Nat) (xa1 : Int32) (xa2 : Int32) (σ : Sto) : Option (Int32 × Sto) := ck (kd (xa0) == 4) (bnd (F_X0_isSitter (1) (xa1) σ) (fun xr4 xσ2 => if (xr4) = 0 then bnd (F_X4_finding (xa0) (-1000001) xσ2) (fun xr8 xσ6 => some (xr8, xσ6)) else bnd (F_X4_isWithin (xa2) 60 xσ2) (fun xr11 xσ9 => if (xr11) = 0 then bnd (F_X4_finding (xa0) (-1000001) xσ9) (fun xr18 xσ16 => some (xr18, xσ16)) else bnd (F_X0_partOf (1) (xa1) 5 xσ9) (fun xr15 xσ13 => lo5 (F_X4_lightFor_b40) 1000 xa0 xa1 xa2 xr15 0 xσ13))))
set_option maxHeartbeats 4000000 in
set_option maxRecDepth 20000 in
theorem b_X4_lightFor_40 {x : XT} {y : YT} {Z : State → Prop} (C : Cx x y (AY y) RX4 cX4_lightFor 5 rm_X4_lightFor) {r : Int32} {σ' : Sto} (hr : RetI x y (AY y) 5 cX4_lightFor Z r σ') (xk_40 : Nat → Int32 → Int32 → Int32 → Int32 → Sto → Option (Int32 × Sto)) (xH40 : ∀ (xa0 : Nat) (xa1 : Int32) (xa2 : Int32) (xa3 : Int32) (xa4 : Int32) (σ : Sto), xk_40 xa0 xa1 xa2 xa3 xa4 σ = some (r, σ') → GW x y (AY y) 5 Z 40 [(0, .ref (yad y (xa0))), (1, .int (xa1)), (2, .int (xa2)), (3, .int (xa3)), (4, .int (xa4))] [] σ) (xa0 : Nat) (xa1 : Int32) (xa2 : Int32) (xa3 : Int32) (xa4 : Int32) (σ : Sto) (h : F_X4_lightFor_b40 xk_40 xa0 xa1 xa2 xa3 xa4 σ = some (r, σ')) : GW x y (AY y) 5 Z 40 [(0, .ref (yad y (xa0))), (1, .int (xa1)), (2, .int (xa2)), (3, .int (xa3)), (4, .int (xa4))] [] σ := by
  unfold F_X4_lightFor_b40 at h
  refine g_iload (pc := 40) C dX4_lightFor_40 4 rfl ?_
  refine g_iconst (v := 1) (pc := 42) C dX4_lightFor_42 ci_1 ?_
  obtain ⟨xr3, xσ1, xc2, h⟩ := iB h
  refine g_callSi (pc := 43) (As := [.int (1)]) (rest := [.int (xa4)]) C dX4_lightFor_43 (fun l => c_X0_mostOf l y _ _ _ _ xc2) cv_X4_48 ⟨rfl, rfl, Nat.le_of_ble_eq_true rfl, Nat.le_of_ble_eq_true rfl⟩ rfl (Nat.le_of_ble_eq_true rfl) ?_
  refine g_icmp_gt (pc := 46) C dX4_lightFor_46 (tgt := 99) rfl (fun xq4 => ?_) (fun xq4 => ?_)
  · have h := iP xq4 h
    refine g_aload_n (pc := 99) C dX4_lightFor_99 rfl 0 rfl ?_
    refine g_ldc (v := (-1000004)) (pc := 100) C dX4_lightFor_100 wk_X4_151 ?_
    obtain ⟨xq7, h⟩ := iC h
    have xq7 := keq xq7
    obtain ⟨xr8, xσ5, xc6, h⟩ := iB h
    refine g_callVi (pc := 102) (As := [.int ((-1000004))]) (rest := []) C dX4_lightFor_102 (fun l => c_X4_finding l y _ _ _ _ _ xc6) cv_X4_57 ⟨rfl, rfl, Nat.le_of_ble_eq_true rfl, Nat.le_of_ble_eq_true rfl⟩ (rv4 xq7) rfl (Nat.le_of_ble_eq_true rfl) ?_
    exact rtI hr dX4_lightFor_105 h
  · have h := iN xq4 h
    refine g_aload_n (pc := 49) C dX4_lightFor_49 rfl 0 rfl ?_
    obtain ⟨xq9, h⟩ := iC h
    have xq9 := keq xq9
    refine gf_4_1 (pc := 50) C wf_X4_16 dX4_lightFor_50 xq9 ?_
    refine g_aload_n (pc := 53) C dX4_lightFor_53 rfl 0 rfl ?_
    refine gf_4_0 (pc := 54) C wf_X4_10 dX4_lightFor_54 xq9 ?_
    obtain ⟨xr12, xσ10, xc11, h⟩ := iB h
    refine g_callVv (pc := 57) (As := [.ref (yad y (1))]) (rest := []) C dX4_lightFor_57 (fun l => c_X0_become l y _ _ _ _ _ xc11) cv_X4_140 ⟨rfl, rfl, Nat.le_of_ble_eq_true rfl, Nat.le_of_ble_eq_true rfl⟩ (rv0 rfl) rfl (Nat.le_of_ble_eq_true rfl) ?_
    refine g_aload_n (pc := 60) C dX4_lightFor_60 rfl 0 rfl ?_
    refine gf_4_1 (pc := 61) C wf_X4_16 dX4_lightFor_61 xq9 ?_
    refine g_iload (pc := 64) C dX4_lightFor_64 4 rfl ?_
    refine gp_0_1 (pc := 66) C wf_X4_165 dX4_lightFor_66 rfl ?_
    refine g_letS h (fun xσ13 h => ?_)
    refine g_aload_n (pc := 69) C dX4_lightFor_69 rfl 0 rfl ?_
    refine gf_4_1 (pc := 70) C wf_X4_16 dX4_lightFor_70 xq9 ?_
    refine g_iload_n (pc := 73) C dX4_lightFor_73 rfl 2 rfl ?_
    obtain ⟨xr16, xσ14, xc15, h⟩ := iB h
    refine g_callVv (pc := 74) (As := [.int (xa2)]) (rest := []) C dX4_lightFor_74 (fun l => c_X0_passMinutes l y _ _ _ _ _ xc15) cv_X4_121 ⟨rfl, rfl, Nat.le_of_ble_eq_true rfl, Nat.le_of_ble_eq_true rfl⟩ (rv0 rfl) rfl (Nat.le_of_ble_eq_true rfl) ?_
    refine g_aload_n (pc := 77) C dX4_lightFor_77 rfl 0 rfl ?_
    refine gf_4_1 (pc := 78) C wf_X4_16 dX4_lightFor_78 xq9 ?_
    refine g_iload_n (pc := 81) C dX4_lightFor_81 rfl 1 rfl ?_
    refine g_iconst (v := 5) (pc := 82) C dX4_lightFor_82 ci_5 ?_
    obtain ⟨xr19, xσ17, xc18, h⟩ := iB h
    refine g_callVi (pc := 83) (As := [.int (xa1), .int (5)]) (rest := []) C dX4_lightFor_83 (fun l => c_X0_partOf l y _ _ _ _ _ _ xc18) cv_X4_144 ⟨rfl, rfl, Nat.le_of_ble_eq_true rfl, Nat.le_of_ble_eq_true rfl⟩ (rv0 rfl) rfl (Nat.le_of_ble_eq_true rfl) ?_
    refine g_iload_n (pc := 86) C dX4_lightFor_86 rfl 3 rfl ?_
    refine g_icmp_le (pc := 87) C dX4_lightFor_87 (tgt := 93) rfl (fun xq20 => ?_) (fun xq20 => ?_)
    · have h := iP xq20 h
      refine g_iinc (lv' := [(4, .int (xa4 + 1)), (0, .ref (yad y (xa0))), (1, .int (xa1)), (2, .int (xa2)), (3, .int (xa3))]) (w := xa4 + 1) (pc := 93) C dX4_lightFor_93 (k := 4) rfl rfl (Nat.le_of_ble_eq_true rfl) rfl ?_
      refine g_goto (pc := 96) C dX4_lightFor_96 (tgt := 40) rfl ?_
      refine g_sub (lv' := [(0, .ref (yad y (xa0))), (1, .int (xa1)), (2, .int (xa2)), (3, .int (xa3)), (4, .int (xa4 + 1))]) C [1, 2, 3, 4, 0] rfl ?_
      exact xH40 xa0 xa1 xa2 xa3 (xa4 + 1) xσ17 h
    · have h := iN xq20 h
      refine g_iload (pc := 90) C dX4_lightFor_90 4 rfl ?_
      exact rtI hr dX4_lightFor_92 h
theorem l_X4_lightFor_40 {x : XT} {y : YT} {Z : State → Prop} (C : Cx x y (AY y) RX4 cX4_lightFor 5 rm_X4_lightFor) {r : Int32} {σ' : Sto} (hr : RetI x y (AY y) 5 cX4_lightFor Z r σ') (n : Nat) (xa0 : Nat) (xa1 : Int32) (xa2 : Int32) (xa3 : Int32) (xa4 : Int32) (σ : Sto) (h : lo5 (F_X4_lightFor_b40) n xa0 xa1 xa2 xa3 xa4 σ = some (r, σ')) : GW x y (AY y) 5 Z 40 [(0, .ref (yad y (xa0))), (1, .int (xa1)), (2, .int (xa2)), (3, .int (xa3)), (4, .int (xa4))] [] σ :=
  lo5_gw (G := fun xa0 xa1 xa2 xa3 xa4 σ => GW x y (AY y) 5 Z 40 [(0, .ref (yad y (xa0))), (1, .int (xa1)), (2, .int (xa2)), (3, .int (xa3)), (4, .int (xa4))] [] σ) (fun xk xHk xa0 xa1 xa2 xa3 xa4 σ h => b_X4_lightFor_40 C hr xk xHk xa0 xa1 xa2 xa3 xa4 σ h) n xa0 xa1 xa2 xa3 xa4 σ h
set_option maxHeartbeats 4000000 in
set_option maxRecDepth 20000 in
theorem b_X4_lightFor_0 {x : XT} {y : YT} {Z : State → Prop} (C : Cx x y (AY y) RX4 cX4_lightFor 5 rm_X4_lightFor) {r : Int32} {σ' : Sto} (hr : RetI x y (AY y) 5 cX4_lightFor Z r σ') (xa0 : Nat) (xa1 : Int32) (xa2 : Int32) (σ : Sto) (h : F_X4_lightFor xa0 xa1 xa2 σ = some (r, σ')) : GW x y (AY y) 5 Z 0 [(0, .ref (yad y (xa0))), (1, .int (xa1)), (2, .int (xa2))] [] σ := by
  unfold F_X4_lightFor at h
  refine g_aload_n (pc := 0) C dX4_lightFor_0 rfl 0 rfl ?_
  obtain ⟨xq1, h⟩ := iC h
  have xq1 := keq xq1
  refine gf_4_0 (pc := 1) C wf_X4_10 dX4_lightFor_1 xq1 ?_
  refine g_iload_n (pc := 4) C dX4_lightFor_4 rfl 1 rfl ?_
  obtain ⟨xr4, xσ2, xc3, h⟩ := iB h
  refine g_callVi (pc := 5) (As := [.int (xa1)]) (rest := []) C dX4_lightFor_5 (fun l => c_X0_isSitter l y _ _ _ _ _ xc3) cv_X4_137 ⟨rfl, rfl, Nat.le_of_ble_eq_true rfl, Nat.le_of_ble_eq_true rfl⟩ (rv0 rfl) rfl (Nat.le_of_ble_eq_true rfl) ?_
  refine g_if_eq (pc := 8) C dX4_lightFor_8 (tgt := 20) rfl (fun xq5 => ?_) (fun xq5 => ?_)
  · have h := iP xq5 h
    refine g_aload_n (pc := 20) C dX4_lightFor_20 rfl 0 rfl ?_
    refine g_ldc (v := (-1000001)) (pc := 21) C dX4_lightFor_21 wk_X4_56 ?_
    obtain ⟨xr8, xσ6, xc7, h⟩ := iB h
    refine g_callVi (pc := 23) (As := [.int ((-1000001))]) (rest := []) C dX4_lightFor_23 (fun l => c_X4_finding l y _ _ _ _ _ xc7) cv_X4_57 ⟨rfl, rfl, Nat.le_of_ble_eq_true rfl, Nat.le_of_ble_eq_true rfl⟩ (rv4 xq1) rfl (Nat.le_of_ble_eq_true rfl) ?_
    exact rtI hr dX4_lightFor_26 h
  · have h := iN xq5 h
    refine g_iload_n (pc := 11) C dX4_lightFor_11 rfl 2 rfl ?_
    refine g_bipush (v := 60) (pc := 12) C dX4_lightFor_12 cb_60 ?_
    obtain ⟨xr11, xσ9, xc10, h⟩ := iB h
    refine g_callSi (pc := 14) (As := [.int (xa2), .int (60)]) (rest := []) C dX4_lightFor_14 (fun l => c_X4_isWithin l y _ _ _ _ _ xc10) cv_X4_52 ⟨rfl, rfl, Nat.le_of_ble_eq_true rfl, Nat.le_of_ble_eq_true rfl⟩ rfl (Nat.le_of_ble_eq_true rfl) ?_
    refine g_if_ne (pc := 17) C dX4_lightFor_17 (tgt := 27) rfl (fun xq12 => ?_) (fun xq12 => ?_)
    · have h := iN xq12 h
      refine g_aload_n (pc := 27) C dX4_lightFor_27 rfl 0 rfl ?_
      refine gf_4_0 (pc := 28) C wf_X4_10 dX4_lightFor_28 xq1 ?_
      refine g_iload_n (pc := 31) C dX4_lightFor_31 rfl 1 rfl ?_
      refine g_iconst (v := 5) (pc := 32) C dX4_lightFor_32 ci_5 ?_
      obtain ⟨xr15, xσ13, xc14, h⟩ := iB h
      refine g_callVi (pc := 33) (As := [.int (xa1), .int (5)]) (rest := []) C dX4_lightFor_33 (fun l => c_X0_partOf l y _ _ _ _ _ _ xc14) cv_X4_144 ⟨rfl, rfl, Nat.le_of_ble_eq_true rfl, Nat.le_of_ble_eq_true rfl⟩ (rv0 rfl) rfl (Nat.le_of_ble_eq_true rfl) ?_
      refine g_istore_n (i := 3) (lv' := [(3, .int (xr15)), (0, .ref (yad y (xa0))), (1, .int (xa1)), (2, .int (xa2))]) (pc := 36) C dX4_lightFor_36 rfl (Nat.le_of_ble_eq_true rfl) rfl ?_
      refine g_iconst (v := 0) (pc := 37) C dX4_lightFor_37 ci_0 ?_
      refine g_istore (i := 4) (lv' := [(4, .int (0)), (3, .int (xr15)), (0, .ref (yad y (xa0))), (1, .int (xa1)), (2, .int (xa2))]) (pc := 38) C dX4_lightFor_38 (Nat.le_of_ble_eq_true rfl) rfl ?_
      refine g_sub (lv' := [(0, .ref (yad y (xa0))), (1, .int (xa1)), (2, .int (xa2)), (3, .int (xr15)), (4, .int (0))]) C [2, 3, 4, 1, 0] rfl ?_
      exact l_X4_lightFor_40 C hr 1000 xa0 xa1 xa2 xr15 0 xσ13 h
    · have h := iP xq12 h
      refine g_aload_n (pc := 20) C dX4_lightFor_20 rfl 0 rfl ?_
      refine g_ldc (v := (-1000001)) (pc := 21) C dX4_lightFor_21 wk_X4_56 ?_
      obtain ⟨xr18, xσ16, xc17, h⟩ := iB h
      refine g_callVi (pc := 23) (As := [.int ((-1000001))]) (rest := []) C dX4_lightFor_23 (fun l => c_X4_finding l y _ _ _ _ _ xc17) cv_X4_57 ⟨rfl, rfl, Nat.le_of_ble_eq_true rfl, Nat.le_of_ble_eq_true rfl⟩ (rv4 xq1) rfl (Nat.le_of_ble_eq_true rfl) ?_
      exact rtI hr dX4_lightFor_26 h
theorem c_X4_lightFor (l : Launch) (y : YT) (xa0 : Nat) (xa1 : Int32) (xa2 : Int32) (σ σ' : Sto) (r : Int32) (h : F_X4_lightFor xa0 xa1 xa2 σ = some (r, σ')) : MI l y yX4_lightFor (Cond.code yX4_lightFor cX4_lightFor 5 (some .int) :: TT) rm_X4_lightFor [.ref (yad y (xa0)), .int (xa1), .int (xa2)] σ r σ' :=
  mkI (by decide) rfl rfl rfl (Nat.le_of_ble_eq_true rfl) (fun x Z C hr => b_X4_lightFor_0 C hr xa0 xa1 xa2 σ h)
def rm_X4_turnFor : Room := { frames := 7, cells := 0, slots := 0, locals := 170 }
def F_X4_turnFor_b35 (xk_35 : Nat → Int32 → Int32 → Int32 → Int32 → Int32 → Sto → Option (Int32 × Sto)) (xa0 : Nat) (xa1 : Int32) (xa2 : Int32) (xa3 : Int32) (xa4 : Int32) (xa5 : Int32) (σ : Sto) : Option (Int32 × Sto) := if 6 ≤ xa5 then some (xa3, σ) else ck (kd (xa0) == 4) (bnd (F_X0_become (13) (1) σ) (fun xr5 xσ3 => bnd (F_X0_seat (13) (xa5) (xa1) xσ3) (fun xr8 xσ6 => bnd (F_X0_passMinutes (13) (xa2) xσ6) (fun xr11 xσ9 => bnd (F_X0_partOf (13) (xa1) 5 xσ9) (fun xr14 xσ12 => if xr14 ≤ xa4 then xk_35 xa0 xa1 xa2 xa3 xa4 (xa5 + 1) xσ12 else xk_35 xa0 xa1 xa2 xa5 xr14 (xa5 + 1) xσ12)))))
def F_X4_turnFor (xa0 : Nat) (xa1 : Int32) (xa2 : Int32) (σ : Sto) : Option (Int32 × Sto) := ck (kd (xa0) == 4) (bnd (F_X0_isSitter (1) (xa1) σ) (fun xr4 xσ2 => if (xr4) = 0 then bnd (F_X4_finding (xa0) (-1000001) xσ2) (fun xr8 xσ6 => some (xr8, xσ6)) else bnd (F_X4_isWithin (xa2) 60 xσ2) (fun xr11 xσ9 => if (xr11) = 0 then bnd (F_X4_finding (xa0) (-1000001) xσ9) (fun xr15 xσ13 => some (xr15, xσ13)) else lo6 (F_X4_turnFor_b35) 1000 xa0 xa1 xa2 0 (-1) 0 xσ9)))
set_option maxHeartbeats 4000000 in
set_option maxRecDepth 20000 in
theorem b_X4_turnFor_35 {x : XT} {y : YT} {Z : State → Prop} (C : Cx x y (AY y) RX4 cX4_turnFor 7 rm_X4_turnFor) {r : Int32} {σ' : Sto} (hr : RetI x y (AY y) 7 cX4_turnFor Z r σ') (xk_35 : Nat → Int32 → Int32 → Int32 → Int32 → Int32 → Sto → Option (Int32 × Sto)) (xH35 : ∀ (xa0 : Nat) (xa1 : Int32) (xa2 : Int32) (xa3 : Int32) (xa4 : Int32) (xa5 : Int32) (σ : Sto), xk_35 xa0 xa1 xa2 xa3 xa4 xa5 σ = some (r, σ') → GW x y (AY y) 7 Z 35 [(0, .ref (yad y (xa0))), (1, .int (xa1)), (2, .int (xa2)), (3, .int (xa3)), (4, .int (xa4)), (5, .int (xa5))] [] σ) (xa0 : Nat) (xa1 : Int32) (xa2 : Int32) (xa3 : Int32) (xa4 : Int32) (xa5 : Int32) (σ : Sto) (h : F_X4_turnFor_b35 xk_35 xa0 xa1 xa2 xa3 xa4 xa5 σ = some (r, σ')) : GW x y (AY y) 7 Z 35 [(0, .ref (yad y (xa0))), (1, .int (xa1)), (2, .int (xa2)), (3, .int (xa3)), (4, .int (xa4)), (5, .int (xa5))] [] σ := by
  unfold F_X4_turnFor_b35 at h
  refine g_iload (pc := 35) C dX4_turnFor_35 5 rfl ?_
  refine g_bipush (v := 6) (pc := 37) C dX4_turnFor_37 cb_6 ?_
  refine g_icmp_ge (pc := 39) C dX4_turnFor_39 (tgt := 102) rfl (fun xq1 => ?_) (fun xq1 => ?_)
  · have h := iP xq1 h
    refine g_iload_n (pc := 102) C dX4_turnFor_102 rfl 3 rfl ?_
    exact rtI hr dX4_turnFor_103 h
  · have h := iN xq1 h
    refine g_aload_n (pc := 42) C dX4_turnFor_42 rfl 0 rfl ?_
    obtain ⟨xq2, h⟩ := iC h
    have xq2 := keq xq2
    refine gf_4_1 (pc := 43) C wf_X4_16 dX4_turnFor_43 xq2 ?_
    refine g_aload_n (pc := 46) C dX4_turnFor_46 rfl 0 rfl ?_
    refine gf_4_0 (pc := 47) C wf_X4_10 dX4_turnFor_47 xq2 ?_
    obtain ⟨xr5, xσ3, xc4, h⟩ := iB h
    refine g_callVv (pc := 50) (As := [.ref (yad y (1))]) (rest := []) C dX4_turnFor_50 (fun l => c_X0_become l y _ _ _ _ _ xc4) cv_X4_140 ⟨rfl, rfl, Nat.le_of_ble_eq_true rfl, Nat.le_of_ble_eq_true rfl⟩ (rv0 rfl) rfl (Nat.le_of_ble_eq_true rfl) ?_
    refine g_aload_n (pc := 53) C dX4_turnFor_53 rfl 0 rfl ?_
    refine gf_4_1 (pc := 54) C wf_X4_16 dX4_turnFor_54 xq2 ?_
    refine g_iload (pc := 57) C dX4_turnFor_57 5 rfl ?_
    refine g_iload_n (pc := 59) C dX4_turnFor_59 rfl 1 rfl ?_
    obtain ⟨xr8, xσ6, xc7, h⟩ := iB h
    refine g_callVv (pc := 60) (As := [.int (xa5), .int (xa1)]) (rest := []) C dX4_turnFor_60 (fun l => c_X0_seat l y _ _ _ _ _ _ xc7) cv_X4_76 ⟨rfl, rfl, Nat.le_of_ble_eq_true rfl, Nat.le_of_ble_eq_true rfl⟩ (rv0 rfl) rfl (Nat.le_of_ble_eq_true rfl) ?_
    refine g_aload_n (pc := 63) C dX4_turnFor_63 rfl 0 rfl ?_
    refine gf_4_1 (pc := 64) C wf_X4_16 dX4_turnFor_64 xq2 ?_
    refine g_iload_n (pc := 67) C dX4_turnFor_67 rfl 2 rfl ?_
    obtain ⟨xr11, xσ9, xc10, h⟩ := iB h
    refine g_callVv (pc := 68) (As := [.int (xa2)]) (rest := []) C dX4_turnFor_68 (fun l => c_X0_passMinutes l y _ _ _ _ _ xc10) cv_X4_121 ⟨rfl, rfl, Nat.le_of_ble_eq_true rfl, Nat.le_of_ble_eq_true rfl⟩ (rv0 rfl) rfl (Nat.le_of_ble_eq_true rfl) ?_
    refine g_aload_n (pc := 71) C dX4_turnFor_71 rfl 0 rfl ?_
    refine gf_4_1 (pc := 72) C wf_X4_16 dX4_turnFor_72 xq2 ?_
    refine g_iload_n (pc := 75) C dX4_turnFor_75 rfl 1 rfl ?_
    refine g_iconst (v := 5) (pc := 76) C dX4_turnFor_76 ci_5 ?_
    obtain ⟨xr14, xσ12, xc13, h⟩ := iB h
    refine g_callVi (pc := 77) (As := [.int (xa1), .int (5)]) (rest := []) C dX4_turnFor_77 (fun l => c_X0_partOf l y _ _ _ _ _ _ xc13) cv_X4_144 ⟨rfl, rfl, Nat.le_of_ble_eq_true rfl, Nat.le_of_ble_eq_true rfl⟩ (rv0 rfl) rfl (Nat.le_of_ble_eq_true rfl) ?_
    refine g_istore (i := 6) (lv' := [(6, .int (xr14)), (0, .ref (yad y (xa0))), (1, .int (xa1)), (2, .int (xa2)), (3, .int (xa3)), (4, .int (xa4)), (5, .int (xa5))]) (pc := 80) C dX4_turnFor_80 (Nat.le_of_ble_eq_true rfl) rfl ?_
    refine g_iload (pc := 82) C dX4_turnFor_82 0 rfl ?_
    refine g_iload (pc := 84) C dX4_turnFor_84 5 rfl ?_
    refine g_icmp_le (pc := 86) C dX4_turnFor_86 (tgt := 96) rfl (fun xq15 => ?_) (fun xq15 => ?_)
    · have h := iP xq15 h
      refine g_iinc (lv' := [(5, .int (xa5 + 1)), (6, .int (xr14)), (0, .ref (yad y (xa0))), (1, .int (xa1)), (2, .int (xa2)), (3, .int (xa3)), (4, .int (xa4))]) (w := xa5 + 1) (pc := 96) C dX4_turnFor_96 (k := 6) rfl rfl (Nat.le_of_ble_eq_true rfl) rfl ?_
      refine g_goto (pc := 99) C dX4_turnFor_99 (tgt := 35) rfl ?_
      refine g_sub (lv' := [(0, .ref (yad y (xa0))), (1, .int (xa1)), (2, .int (xa2)), (3, .int (xa3)), (4, .int (xa4)), (5, .int (xa5 + 1))]) C [2, 3, 4, 5, 6, 0] rfl ?_
      exact xH35 xa0 xa1 xa2 xa3 xa4 (xa5 + 1) xσ12 h
    · have h := iN xq15 h
      refine g_iload (pc := 89) C dX4_turnFor_89 0 rfl ?_
      refine g_istore (i := 4) (lv' := [(4, .int (xr14)), (6, .int (xr14)), (0, .ref (yad y (xa0))), (1, .int (xa1)), (2, .int (xa2)), (3, .int (xa3)), (5, .int (xa5))]) (pc := 91) C dX4_turnFor_91 (Nat.le_of_ble_eq_true rfl) rfl ?_
      refine g_iload (pc := 93) C dX4_turnFor_93 6 rfl ?_
      refine g_istore_n (i := 3) (lv' := [(3, .int (xa5)), (4, .int (xr14)), (6, .int (xr14)), (0, .ref (yad y (xa0))), (1, .int (xa1)), (2, .int (xa2)), (5, .int (xa5))]) (pc := 95) C dX4_turnFor_95 rfl (Nat.le_of_ble_eq_true rfl) rfl ?_
      refine g_iinc (lv' := [(5, .int (xa5 + 1)), (3, .int (xa5)), (4, .int (xr14)), (6, .int (xr14)), (0, .ref (yad y (xa0))), (1, .int (xa1)), (2, .int (xa2))]) (w := xa5 + 1) (pc := 96) C dX4_turnFor_96 (k := 6) rfl rfl (Nat.le_of_ble_eq_true rfl) rfl ?_
      refine g_goto (pc := 99) C dX4_turnFor_99 (tgt := 35) rfl ?_
      refine g_sub (lv' := [(0, .ref (yad y (xa0))), (1, .int (xa1)), (2, .int (xa2)), (3, .int (xa5)), (4, .int (xr14)), (5, .int (xa5 + 1))]) C [4, 5, 6, 1, 2, 0] rfl ?_
      exact xH35 xa0 xa1 xa2 xa5 xr14 (xa5 + 1) xσ12 h
theorem l_X4_turnFor_35 {x : XT} {y : YT} {Z : State → Prop} (C : Cx x y (AY y) RX4 cX4_turnFor 7 rm_X4_turnFor) {r : Int32} {σ' : Sto} (hr : RetI x y (AY y) 7 cX4_turnFor Z r σ') (n : Nat) (xa0 : Nat) (xa1 : Int32) (xa2 : Int32) (xa3 : Int32) (xa4 : Int32) (xa5 : Int32) (σ : Sto) (h : lo6 (F_X4_turnFor_b35) n xa0 xa1 xa2 xa3 xa4 xa5 σ = some (r, σ')) : GW x y (AY y) 7 Z 35 [(0, .ref (yad y (xa0))), (1, .int (xa1)), (2, .int (xa2)), (3, .int (xa3)), (4, .int (xa4)), (5, .int (xa5))] [] σ :=
  lo6_gw (G := fun xa0 xa1 xa2 xa3 xa4 xa5 σ => GW x y (AY y) 7 Z 35 [(0, .ref (yad y (xa0))), (1, .int (xa1)), (2, .int (xa2)), (3, .int (xa3)), (4, .int (xa4)), (5, .int (xa5))] [] σ) (fun xk xHk xa0 xa1 xa2 xa3 xa4 xa5 σ h => b_X4_turnFor_35 C hr xk xHk xa0 xa1 xa2 xa3 xa4 xa5 σ h) n xa0 xa1 xa2 xa3 xa4 xa5 σ h
set_option maxHeartbeats 4000000 in
set_option maxRecDepth 20000 in
theorem b_X4_turnFor_0 {x : XT} {y : YT} {Z : State → Prop} (C : Cx x y (AY y) RX4 cX4_turnFor 7 rm_X4_turnFor) {r : Int32} {σ' : Sto} (hr : RetI x y (AY y) 7 cX4_turnFor Z r σ') (xa0 : Nat) (xa1 : Int32) (xa2 : Int32) (σ : Sto) (h : F_X4_turnFor xa0 xa1 xa2 σ = some (r, σ')) : GW x y (AY y) 7 Z 0 [(0, .ref (yad y (xa0))), (1, .int (xa1)), (2, .int (xa2))] [] σ := by
  unfold F_X4_turnFor at h
  refine g_aload_n (pc := 0) C dX4_turnFor_0 rfl 0 rfl ?_
  obtain ⟨xq1, h⟩ := iC h
  have xq1 := keq xq1
  refine gf_4_0 (pc := 1) C wf_X4_10 dX4_turnFor_1 xq1 ?_
  refine g_iload_n (pc := 4) C dX4_turnFor_4 rfl 1 rfl ?_
  obtain ⟨xr4, xσ2, xc3, h⟩ := iB h
  refine g_callVi (pc := 5) (As := [.int (xa1)]) (rest := []) C dX4_turnFor_5 (fun l => c_X0_isSitter l y _ _ _ _ _ xc3) cv_X4_137 ⟨rfl, rfl, Nat.le_of_ble_eq_true rfl, Nat.le_of_ble_eq_true rfl⟩ (rv0 rfl) rfl (Nat.le_of_ble_eq_true rfl) ?_
  refine g_if_eq (pc := 8) C dX4_turnFor_8 (tgt := 20) rfl (fun xq5 => ?_) (fun xq5 => ?_)
  · have h := iP xq5 h
    refine g_aload_n (pc := 20) C dX4_turnFor_20 rfl 0 rfl ?_
    refine g_ldc (v := (-1000001)) (pc := 21) C dX4_turnFor_21 wk_X4_56 ?_
    obtain ⟨xr8, xσ6, xc7, h⟩ := iB h
    refine g_callVi (pc := 23) (As := [.int ((-1000001))]) (rest := []) C dX4_turnFor_23 (fun l => c_X4_finding l y _ _ _ _ _ xc7) cv_X4_57 ⟨rfl, rfl, Nat.le_of_ble_eq_true rfl, Nat.le_of_ble_eq_true rfl⟩ (rv4 xq1) rfl (Nat.le_of_ble_eq_true rfl) ?_
    exact rtI hr dX4_turnFor_26 h
  · have h := iN xq5 h
    refine g_iload_n (pc := 11) C dX4_turnFor_11 rfl 2 rfl ?_
    refine g_bipush (v := 60) (pc := 12) C dX4_turnFor_12 cb_60 ?_
    obtain ⟨xr11, xσ9, xc10, h⟩ := iB h
    refine g_callSi (pc := 14) (As := [.int (xa2), .int (60)]) (rest := []) C dX4_turnFor_14 (fun l => c_X4_isWithin l y _ _ _ _ _ xc10) cv_X4_52 ⟨rfl, rfl, Nat.le_of_ble_eq_true rfl, Nat.le_of_ble_eq_true rfl⟩ rfl (Nat.le_of_ble_eq_true rfl) ?_
    refine g_if_ne (pc := 17) C dX4_turnFor_17 (tgt := 27) rfl (fun xq12 => ?_) (fun xq12 => ?_)
    · have h := iN xq12 h
      refine g_iconst (v := 0) (pc := 27) C dX4_turnFor_27 ci_0 ?_
      refine g_istore_n (i := 3) (lv' := [(3, .int (0)), (0, .ref (yad y (xa0))), (1, .int (xa1)), (2, .int (xa2))]) (pc := 28) C dX4_turnFor_28 rfl (Nat.le_of_ble_eq_true rfl) rfl ?_
      refine g_iconst (v := (-1)) (pc := 29) C dX4_turnFor_29 ci_m1 ?_
      refine g_istore (i := 4) (lv' := [(4, .int ((-1))), (3, .int (0)), (0, .ref (yad y (xa0))), (1, .int (xa1)), (2, .int (xa2))]) (pc := 30) C dX4_turnFor_30 (Nat.le_of_ble_eq_true rfl) rfl ?_
      refine g_iconst (v := 0) (pc := 32) C dX4_turnFor_32 ci_0 ?_
      refine g_istore (i := 5) (lv' := [(5, .int (0)), (4, .int ((-1))), (3, .int (0)), (0, .ref (yad y (xa0))), (1, .int (xa1)), (2, .int (xa2))]) (pc := 33) C dX4_turnFor_33 (Nat.le_of_ble_eq_true rfl) rfl ?_
      refine g_sub (lv' := [(0, .ref (yad y (xa0))), (1, .int (xa1)), (2, .int (xa2)), (3, .int (0)), (4, .int ((-1))), (5, .int (0))]) C [3, 4, 5, 2, 1, 0] rfl ?_
      exact l_X4_turnFor_35 C hr 1000 xa0 xa1 xa2 0 (-1) 0 xσ9 h
    · have h := iP xq12 h
      refine g_aload_n (pc := 20) C dX4_turnFor_20 rfl 0 rfl ?_
      refine g_ldc (v := (-1000001)) (pc := 21) C dX4_turnFor_21 wk_X4_56 ?_
      obtain ⟨xr15, xσ13, xc14, h⟩ := iB h
      refine g_callVi (pc := 23) (As := [.int ((-1000001))]) (rest := []) C dX4_turnFor_23 (fun l => c_X4_finding l y _ _ _ _ _ xc14) cv_X4_57 ⟨rfl, rfl, Nat.le_of_ble_eq_true rfl, Nat.le_of_ble_eq_true rfl⟩ (rv4 xq1) rfl (Nat.le_of_ble_eq_true rfl) ?_
      exact rtI hr dX4_turnFor_26 h
theorem c_X4_turnFor (l : Launch) (y : YT) (xa0 : Nat) (xa1 : Int32) (xa2 : Int32) (σ σ' : Sto) (r : Int32) (h : F_X4_turnFor xa0 xa1 xa2 σ = some (r, σ')) : MI l y yX4_turnFor (Cond.code yX4_turnFor cX4_turnFor 7 (some .int) :: TT) rm_X4_turnFor [.ref (yad y (xa0)), .int (xa1), .int (xa2)] σ r σ' :=
  mkI (by decide) rfl rfl rfl (Nat.le_of_ble_eq_true rfl) (fun x Z C hr => b_X4_turnFor_0 C hr xa0 xa1 xa2 σ h)
def rm_X4_kindFor : Room := { frames := 7, cells := 0, slots := 0, locals := 170 }
def F_X4_kindFor_b35 (xk_35 : Nat → Int32 → Int32 → Int32 → Int32 → Int32 → Sto → Option (Int32 × Sto)) (xa0 : Nat) (xa1 : Int32) (xa2 : Int32) (xa3 : Int32) (xa4 : Int32) (xa5 : Int32) (σ : Sto) : Option (Int32 × Sto) := if 6 < xa5 then some (xa3, σ) else ck (kd (xa0) == 4) (bnd (F_X0_become (13) (1) σ) (fun xr5 xσ3 => bnd (F_X0_give (13) (xa1) 0 (xa5) xσ3) (fun xr8 xσ6 => bnd (F_X0_passMinutes (13) (xa2) xσ6) (fun xr11 xσ9 => bnd (F_X0_partOf (13) (xa1) 5 xσ9) (fun xr14 xσ12 => if xr14 ≤ xa4 then xk_35 xa0 xa1 xa2 xa3 xa4 (xa5 + 1) xσ12 else xk_35 xa0 xa1 xa2 xa5 xr14 (xa5 + 1) xσ12)))))
def F_X4_kindFor (xa0 : Nat) (xa1 : Int32) (xa2 : Int32) (σ : Sto) : Option (Int32 × Sto) := ck (kd (xa0) == 4) (bnd (F_X0_isSitter (1) (xa1) σ) (fun xr4 xσ2 => if (xr4) = 0 then bnd (F_X4_finding (xa0) (-1000001) xσ2) (fun xr8 xσ6 => some (xr8, xσ6)) else bnd (F_X4_isWithin (xa2) 60 xσ2) (fun xr11 xσ9 => if (xr11) = 0 then bnd (F_X4_finding (xa0) (-1000001) xσ9) (fun xr15 xσ13 => some (xr15, xσ13)) else lo6 (F_X4_kindFor_b35) 1000 xa0 xa1 xa2 0 (-1) 0 xσ9)))
set_option maxHeartbeats 4000000 in
set_option maxRecDepth 20000 in
theorem b_X4_kindFor_35 {x : XT} {y : YT} {Z : State → Prop} (C : Cx x y (AY y) RX4 cX4_kindFor 7 rm_X4_kindFor) {r : Int32} {σ' : Sto} (hr : RetI x y (AY y) 7 cX4_kindFor Z r σ') (xk_35 : Nat → Int32 → Int32 → Int32 → Int32 → Int32 → Sto → Option (Int32 × Sto)) (xH35 : ∀ (xa0 : Nat) (xa1 : Int32) (xa2 : Int32) (xa3 : Int32) (xa4 : Int32) (xa5 : Int32) (σ : Sto), xk_35 xa0 xa1 xa2 xa3 xa4 xa5 σ = some (r, σ') → GW x y (AY y) 7 Z 35 [(0, .ref (yad y (xa0))), (1, .int (xa1)), (2, .int (xa2)), (3, .int (xa3)), (4, .int (xa4)), (5, .int (xa5))] [] σ) (xa0 : Nat) (xa1 : Int32) (xa2 : Int32) (xa3 : Int32) (xa4 : Int32) (xa5 : Int32) (σ : Sto) (h : F_X4_kindFor_b35 xk_35 xa0 xa1 xa2 xa3 xa4 xa5 σ = some (r, σ')) : GW x y (AY y) 7 Z 35 [(0, .ref (yad y (xa0))), (1, .int (xa1)), (2, .int (xa2)), (3, .int (xa3)), (4, .int (xa4)), (5, .int (xa5))] [] σ := by
  unfold F_X4_kindFor_b35 at h
  refine g_iload (pc := 35) C dX4_kindFor_35 5 rfl ?_
  refine g_bipush (v := 6) (pc := 37) C dX4_kindFor_37 cb_6 ?_
  refine g_icmp_gt (pc := 39) C dX4_kindFor_39 (tgt := 103) rfl (fun xq1 => ?_) (fun xq1 => ?_)
  · have h := iP xq1 h
    refine g_iload_n (pc := 103) C dX4_kindFor_103 rfl 3 rfl ?_
    exact rtI hr dX4_kindFor_104 h
  · have h := iN xq1 h
    refine g_aload_n (pc := 42) C dX4_kindFor_42 rfl 0 rfl ?_
    obtain ⟨xq2, h⟩ := iC h
    have xq2 := keq xq2
    refine gf_4_1 (pc := 43) C wf_X4_16 dX4_kindFor_43 xq2 ?_
    refine g_aload_n (pc := 46) C dX4_kindFor_46 rfl 0 rfl ?_
    refine gf_4_0 (pc := 47) C wf_X4_10 dX4_kindFor_47 xq2 ?_
    obtain ⟨xr5, xσ3, xc4, h⟩ := iB h
    refine g_callVv (pc := 50) (As := [.ref (yad y (1))]) (rest := []) C dX4_kindFor_50 (fun l => c_X0_become l y _ _ _ _ _ xc4) cv_X4_140 ⟨rfl, rfl, Nat.le_of_ble_eq_true rfl, Nat.le_of_ble_eq_true rfl⟩ (rv0 rfl) rfl (Nat.le_of_ble_eq_true rfl) ?_
    refine g_aload_n (pc := 53) C dX4_kindFor_53 rfl 0 rfl ?_
    refine gf_4_1 (pc := 54) C wf_X4_16 dX4_kindFor_54 xq2 ?_
    refine g_iload_n (pc := 57) C dX4_kindFor_57 rfl 1 rfl ?_
    refine g_iconst (v := 0) (pc := 58) C dX4_kindFor_58 ci_0 ?_
    refine g_iload (pc := 59) C dX4_kindFor_59 5 rfl ?_
    obtain ⟨xr8, xσ6, xc7, h⟩ := iB h
    refine g_callVv (pc := 61) (As := [.int (xa1), .int (0), .int (xa5)]) (rest := []) C dX4_kindFor_61 (fun l => c_X0_give l y _ _ _ _ _ _ _ xc7) cv_X4_86 ⟨rfl, rfl, Nat.le_of_ble_eq_true rfl, Nat.le_of_ble_eq_true rfl⟩ (rv0 rfl) rfl (Nat.le_of_ble_eq_true rfl) ?_
    refine g_aload_n (pc := 64) C dX4_kindFor_64 rfl 0 rfl ?_
    refine gf_4_1 (pc := 65) C wf_X4_16 dX4_kindFor_65 xq2 ?_
    refine g_iload_n (pc := 68) C dX4_kindFor_68 rfl 2 rfl ?_
    obtain ⟨xr11, xσ9, xc10, h⟩ := iB h
    refine g_callVv (pc := 69) (As := [.int (xa2)]) (rest := []) C dX4_kindFor_69 (fun l => c_X0_passMinutes l y _ _ _ _ _ xc10) cv_X4_121 ⟨rfl, rfl, Nat.le_of_ble_eq_true rfl, Nat.le_of_ble_eq_true rfl⟩ (rv0 rfl) rfl (Nat.le_of_ble_eq_true rfl) ?_
    refine g_aload_n (pc := 72) C dX4_kindFor_72 rfl 0 rfl ?_
    refine gf_4_1 (pc := 73) C wf_X4_16 dX4_kindFor_73 xq2 ?_
    refine g_iload_n (pc := 76) C dX4_kindFor_76 rfl 1 rfl ?_
    refine g_iconst (v := 5) (pc := 77) C dX4_kindFor_77 ci_5 ?_
    obtain ⟨xr14, xσ12, xc13, h⟩ := iB h
    refine g_callVi (pc := 78) (As := [.int (xa1), .int (5)]) (rest := []) C dX4_kindFor_78 (fun l => c_X0_partOf l y _ _ _ _ _ _ xc13) cv_X4_144 ⟨rfl, rfl, Nat.le_of_ble_eq_true rfl, Nat.le_of_ble_eq_true rfl⟩ (rv0 rfl) rfl (Nat.le_of_ble_eq_true rfl) ?_
    refine g_istore (i := 6) (lv' := [(6, .int (xr14)), (0, .ref (yad y (xa0))), (1, .int (xa1)), (2, .int (xa2)), (3, .int (xa3)), (4, .int (xa4)), (5, .int (xa5))]) (pc := 81) C dX4_kindFor_81 (Nat.le_of_ble_eq_true rfl) rfl ?_
    refine g_iload (pc := 83) C dX4_kindFor_83 0 rfl ?_
    refine g_iload (pc := 85) C dX4_kindFor_85 5 rfl ?_
    refine g_icmp_le (pc := 87) C dX4_kindFor_87 (tgt := 97) rfl (fun xq15 => ?_) (fun xq15 => ?_)
    · have h := iP xq15 h
      refine g_iinc (lv' := [(5, .int (xa5 + 1)), (6, .int (xr14)), (0, .ref (yad y (xa0))), (1, .int (xa1)), (2, .int (xa2)), (3, .int (xa3)), (4, .int (xa4))]) (w := xa5 + 1) (pc := 97) C dX4_kindFor_97 (k := 6) rfl rfl (Nat.le_of_ble_eq_true rfl) rfl ?_
      refine g_goto (pc := 100) C dX4_kindFor_100 (tgt := 35) rfl ?_
      refine g_sub (lv' := [(0, .ref (yad y (xa0))), (1, .int (xa1)), (2, .int (xa2)), (3, .int (xa3)), (4, .int (xa4)), (5, .int (xa5 + 1))]) C [2, 3, 4, 5, 6, 0] rfl ?_
      exact xH35 xa0 xa1 xa2 xa3 xa4 (xa5 + 1) xσ12 h
    · have h := iN xq15 h
      refine g_iload (pc := 90) C dX4_kindFor_90 0 rfl ?_
      refine g_istore (i := 4) (lv' := [(4, .int (xr14)), (6, .int (xr14)), (0, .ref (yad y (xa0))), (1, .int (xa1)), (2, .int (xa2)), (3, .int (xa3)), (5, .int (xa5))]) (pc := 92) C dX4_kindFor_92 (Nat.le_of_ble_eq_true rfl) rfl ?_
      refine g_iload (pc := 94) C dX4_kindFor_94 6 rfl ?_
      refine g_istore_n (i := 3) (lv' := [(3, .int (xa5)), (4, .int (xr14)), (6, .int (xr14)), (0, .ref (yad y (xa0))), (1, .int (xa1)), (2, .int (xa2)), (5, .int (xa5))]) (pc := 96) C dX4_kindFor_96 rfl (Nat.le_of_ble_eq_true rfl) rfl ?_
      refine g_iinc (lv' := [(5, .int (xa5 + 1)), (3, .int (xa5)), (4, .int (xr14)), (6, .int (xr14)), (0, .ref (yad y (xa0))), (1, .int (xa1)), (2, .int (xa2))]) (w := xa5 + 1) (pc := 97) C dX4_kindFor_97 (k := 6) rfl rfl (Nat.le_of_ble_eq_true rfl) rfl ?_
      refine g_goto (pc := 100) C dX4_kindFor_100 (tgt := 35) rfl ?_
      refine g_sub (lv' := [(0, .ref (yad y (xa0))), (1, .int (xa1)), (2, .int (xa2)), (3, .int (xa5)), (4, .int (xr14)), (5, .int (xa5 + 1))]) C [4, 5, 6, 1, 2, 0] rfl ?_
      exact xH35 xa0 xa1 xa2 xa5 xr14 (xa5 + 1) xσ12 h
theorem l_X4_kindFor_35 {x : XT} {y : YT} {Z : State → Prop} (C : Cx x y (AY y) RX4 cX4_kindFor 7 rm_X4_kindFor) {r : Int32} {σ' : Sto} (hr : RetI x y (AY y) 7 cX4_kindFor Z r σ') (n : Nat) (xa0 : Nat) (xa1 : Int32) (xa2 : Int32) (xa3 : Int32) (xa4 : Int32) (xa5 : Int32) (σ : Sto) (h : lo6 (F_X4_kindFor_b35) n xa0 xa1 xa2 xa3 xa4 xa5 σ = some (r, σ')) : GW x y (AY y) 7 Z 35 [(0, .ref (yad y (xa0))), (1, .int (xa1)), (2, .int (xa2)), (3, .int (xa3)), (4, .int (xa4)), (5, .int (xa5))] [] σ :=
  lo6_gw (G := fun xa0 xa1 xa2 xa3 xa4 xa5 σ => GW x y (AY y) 7 Z 35 [(0, .ref (yad y (xa0))), (1, .int (xa1)), (2, .int (xa2)), (3, .int (xa3)), (4, .int (xa4)), (5, .int (xa5))] [] σ) (fun xk xHk xa0 xa1 xa2 xa3 xa4 xa5 σ h => b_X4_kindFor_35 C hr xk xHk xa0 xa1 xa2 xa3 xa4 xa5 σ h) n xa0 xa1 xa2 xa3 xa4 xa5 σ h
set_option maxHeartbeats 4000000 in
set_option maxRecDepth 20000 in
theorem b_X4_kindFor_0 {x : XT} {y : YT} {Z : State → Prop} (C : Cx x y (AY y) RX4 cX4_kindFor 7 rm_X4_kindFor) {r : Int32} {σ' : Sto} (hr : RetI x y (AY y) 7 cX4_kindFor Z r σ') (xa0 : Nat) (xa1 : Int32) (xa2 : Int32) (σ : Sto) (h : F_X4_kindFor xa0 xa1 xa2 σ = some (r, σ')) : GW x y (AY y) 7 Z 0 [(0, .ref (yad y (xa0))), (1, .int (xa1)), (2, .int (xa2))] [] σ := by
  unfold F_X4_kindFor at h
  refine g_aload_n (pc := 0) C dX4_kindFor_0 rfl 0 rfl ?_
  obtain ⟨xq1, h⟩ := iC h
  have xq1 := keq xq1
  refine gf_4_0 (pc := 1) C wf_X4_10 dX4_kindFor_1 xq1 ?_
  refine g_iload_n (pc := 4) C dX4_kindFor_4 rfl 1 rfl ?_
  obtain ⟨xr4, xσ2, xc3, h⟩ := iB h
  refine g_callVi (pc := 5) (As := [.int (xa1)]) (rest := []) C dX4_kindFor_5 (fun l => c_X0_isSitter l y _ _ _ _ _ xc3) cv_X4_137 ⟨rfl, rfl, Nat.le_of_ble_eq_true rfl, Nat.le_of_ble_eq_true rfl⟩ (rv0 rfl) rfl (Nat.le_of_ble_eq_true rfl) ?_
  refine g_if_eq (pc := 8) C dX4_kindFor_8 (tgt := 20) rfl (fun xq5 => ?_) (fun xq5 => ?_)
  · have h := iP xq5 h
    refine g_aload_n (pc := 20) C dX4_kindFor_20 rfl 0 rfl ?_
    refine g_ldc (v := (-1000001)) (pc := 21) C dX4_kindFor_21 wk_X4_56 ?_
    obtain ⟨xr8, xσ6, xc7, h⟩ := iB h
    refine g_callVi (pc := 23) (As := [.int ((-1000001))]) (rest := []) C dX4_kindFor_23 (fun l => c_X4_finding l y _ _ _ _ _ xc7) cv_X4_57 ⟨rfl, rfl, Nat.le_of_ble_eq_true rfl, Nat.le_of_ble_eq_true rfl⟩ (rv4 xq1) rfl (Nat.le_of_ble_eq_true rfl) ?_
    exact rtI hr dX4_kindFor_26 h
  · have h := iN xq5 h
    refine g_iload_n (pc := 11) C dX4_kindFor_11 rfl 2 rfl ?_
    refine g_bipush (v := 60) (pc := 12) C dX4_kindFor_12 cb_60 ?_
    obtain ⟨xr11, xσ9, xc10, h⟩ := iB h
    refine g_callSi (pc := 14) (As := [.int (xa2), .int (60)]) (rest := []) C dX4_kindFor_14 (fun l => c_X4_isWithin l y _ _ _ _ _ xc10) cv_X4_52 ⟨rfl, rfl, Nat.le_of_ble_eq_true rfl, Nat.le_of_ble_eq_true rfl⟩ rfl (Nat.le_of_ble_eq_true rfl) ?_
    refine g_if_ne (pc := 17) C dX4_kindFor_17 (tgt := 27) rfl (fun xq12 => ?_) (fun xq12 => ?_)
    · have h := iN xq12 h
      refine g_iconst (v := 0) (pc := 27) C dX4_kindFor_27 ci_0 ?_
      refine g_istore_n (i := 3) (lv' := [(3, .int (0)), (0, .ref (yad y (xa0))), (1, .int (xa1)), (2, .int (xa2))]) (pc := 28) C dX4_kindFor_28 rfl (Nat.le_of_ble_eq_true rfl) rfl ?_
      refine g_iconst (v := (-1)) (pc := 29) C dX4_kindFor_29 ci_m1 ?_
      refine g_istore (i := 4) (lv' := [(4, .int ((-1))), (3, .int (0)), (0, .ref (yad y (xa0))), (1, .int (xa1)), (2, .int (xa2))]) (pc := 30) C dX4_kindFor_30 (Nat.le_of_ble_eq_true rfl) rfl ?_
      refine g_iconst (v := 0) (pc := 32) C dX4_kindFor_32 ci_0 ?_
      refine g_istore (i := 5) (lv' := [(5, .int (0)), (4, .int ((-1))), (3, .int (0)), (0, .ref (yad y (xa0))), (1, .int (xa1)), (2, .int (xa2))]) (pc := 33) C dX4_kindFor_33 (Nat.le_of_ble_eq_true rfl) rfl ?_
      refine g_sub (lv' := [(0, .ref (yad y (xa0))), (1, .int (xa1)), (2, .int (xa2)), (3, .int (0)), (4, .int ((-1))), (5, .int (0))]) C [3, 4, 5, 2, 1, 0] rfl ?_
      exact l_X4_kindFor_35 C hr 1000 xa0 xa1 xa2 0 (-1) 0 xσ9 h
    · have h := iP xq12 h
      refine g_aload_n (pc := 20) C dX4_kindFor_20 rfl 0 rfl ?_
      refine g_ldc (v := (-1000001)) (pc := 21) C dX4_kindFor_21 wk_X4_56 ?_
      obtain ⟨xr15, xσ13, xc14, h⟩ := iB h
      refine g_callVi (pc := 23) (As := [.int ((-1000001))]) (rest := []) C dX4_kindFor_23 (fun l => c_X4_finding l y _ _ _ _ _ xc14) cv_X4_57 ⟨rfl, rfl, Nat.le_of_ble_eq_true rfl, Nat.le_of_ble_eq_true rfl⟩ (rv4 xq1) rfl (Nat.le_of_ble_eq_true rfl) ?_
      exact rtI hr dX4_kindFor_26 h
theorem c_X4_kindFor (l : Launch) (y : YT) (xa0 : Nat) (xa1 : Int32) (xa2 : Int32) (σ σ' : Sto) (r : Int32) (h : F_X4_kindFor xa0 xa1 xa2 σ = some (r, σ')) : MI l y yX4_kindFor (Cond.code yX4_kindFor cX4_kindFor 7 (some .int) :: TT) rm_X4_kindFor [.ref (yad y (xa0)), .int (xa1), .int (xa2)] σ r σ' :=
  mkI (by decide) rfl rfl rfl (Nat.le_of_ble_eq_true rfl) (fun x Z C hr => b_X4_kindFor_0 C hr xa0 xa1 xa2 σ h)
def rm_X4_merryFor : Room := { frames := 7, cells := 0, slots := 0, locals := 170 }
def F_X4_merryFor_b43 (xk_43 : Nat → Int32 → Int32 → Int32 → Int32 → Sto → Option (Int32 × Sto)) (xa0 : Nat) (xa1 : Int32) (xa2 : Int32) (xa3 : Int32) (xa4 : Int32) (σ : Sto) : Option (Int32 × Sto) := if (xa4) < 0 then ck (kd (xa0) == 4) (bnd (F_X4_finding (xa0) (-1000004) σ) (fun xr5 xσ2 => some (xr5, xσ2))) else ck (kd (xa0) == 4) (bnd (F_X0_become (13) (1) σ) (fun xr9 xσ7 => bnd (F_X0_give (13) (xa1) 3 (xa4) xσ7) (fun xr12 xσ10 => bnd (F_X0_passMinutes (13) (xa2) xσ10) (fun xr15 xσ13 => bnd (F_X0_partOf (13) (xa1) 5 xσ13) (fun xr18 xσ16 => if xr18 ≤ xa3 then xk_43 xa0 xa1 xa2 xa3 (xa4 + (-1)) xσ16 else some (xa4, xσ16))))))
def F_X4_merryFor (xa0 : Nat) (xa1 : Int32) (xa2 : Int32) (σ : Sto) : Option (Int32 × Sto) := ck (kd (xa0) == 4) (bnd (F_X0_isSitter (1) (xa1) σ) (fun xr4 xσ2 => if (xr4) = 0 then bnd (F_X4_finding (xa0) (-1000001) xσ2) (fun xr8 xσ6 => some (xr8, xσ6)) else bnd (F_X4_isWithin (xa2) 60 xσ2) (fun xr11 xσ9 => if (xr11) = 0 then bnd (F_X4_finding (xa0) (-1000001) xσ9) (fun xr21 xσ19 => some (xr21, xσ19)) else bnd (F_X0_partOf (1) (xa1) 5 xσ9) (fun xr15 xσ13 => bnd (F_X2_mostOf 3 xσ13) (fun xr18 xσ16 => lo5 (F_X4_merryFor_b43) 1000 xa0 xa1 xa2 xr15 xr18 xσ16)))))
set_option maxHeartbeats 4000000 in
set_option maxRecDepth 20000 in
theorem b_X4_merryFor_43 {x : XT} {y : YT} {Z : State → Prop} (C : Cx x y (AY y) RX4 cX4_merryFor 5 rm_X4_merryFor) {r : Int32} {σ' : Sto} (hr : RetI x y (AY y) 5 cX4_merryFor Z r σ') (xk_43 : Nat → Int32 → Int32 → Int32 → Int32 → Sto → Option (Int32 × Sto)) (xH43 : ∀ (xa0 : Nat) (xa1 : Int32) (xa2 : Int32) (xa3 : Int32) (xa4 : Int32) (σ : Sto), xk_43 xa0 xa1 xa2 xa3 xa4 σ = some (r, σ') → GW x y (AY y) 5 Z 43 [(0, .ref (yad y (xa0))), (1, .int (xa1)), (2, .int (xa2)), (3, .int (xa3)), (4, .int (xa4))] [] σ) (xa0 : Nat) (xa1 : Int32) (xa2 : Int32) (xa3 : Int32) (xa4 : Int32) (σ : Sto) (h : F_X4_merryFor_b43 xk_43 xa0 xa1 xa2 xa3 xa4 σ = some (r, σ')) : GW x y (AY y) 5 Z 43 [(0, .ref (yad y (xa0))), (1, .int (xa1)), (2, .int (xa2)), (3, .int (xa3)), (4, .int (xa4))] [] σ := by
  unfold F_X4_merryFor_b43 at h
  refine g_iload (pc := 43) C dX4_merryFor_43 4 rfl ?_
  refine g_if_lt (pc := 45) C dX4_merryFor_45 (tgt := 100) rfl (fun xq1 => ?_) (fun xq1 => ?_)
  · have h := iP xq1 h
    refine g_aload_n (pc := 100) C dX4_merryFor_100 rfl 0 rfl ?_
    refine g_ldc (v := (-1000004)) (pc := 101) C dX4_merryFor_101 wk_X4_151 ?_
    obtain ⟨xq4, h⟩ := iC h
    have xq4 := keq xq4
    obtain ⟨xr5, xσ2, xc3, h⟩ := iB h
    refine g_callVi (pc := 103) (As := [.int ((-1000004))]) (rest := []) C dX4_merryFor_103 (fun l => c_X4_finding l y _ _ _ _ _ xc3) cv_X4_57 ⟨rfl, rfl, Nat.le_of_ble_eq_true rfl, Nat.le_of_ble_eq_true rfl⟩ (rv4 xq4) rfl (Nat.le_of_ble_eq_true rfl) ?_
    exact rtI hr dX4_merryFor_106 h
  · have h := iN xq1 h
    refine g_aload_n (pc := 48) C dX4_merryFor_48 rfl 0 rfl ?_
    obtain ⟨xq6, h⟩ := iC h
    have xq6 := keq xq6
    refine gf_4_1 (pc := 49) C wf_X4_16 dX4_merryFor_49 xq6 ?_
    refine g_aload_n (pc := 52) C dX4_merryFor_52 rfl 0 rfl ?_
    refine gf_4_0 (pc := 53) C wf_X4_10 dX4_merryFor_53 xq6 ?_
    obtain ⟨xr9, xσ7, xc8, h⟩ := iB h
    refine g_callVv (pc := 56) (As := [.ref (yad y (1))]) (rest := []) C dX4_merryFor_56 (fun l => c_X0_become l y _ _ _ _ _ xc8) cv_X4_140 ⟨rfl, rfl, Nat.le_of_ble_eq_true rfl, Nat.le_of_ble_eq_true rfl⟩ (rv0 rfl) rfl (Nat.le_of_ble_eq_true rfl) ?_
    refine g_aload_n (pc := 59) C dX4_merryFor_59 rfl 0 rfl ?_
    refine gf_4_1 (pc := 60) C wf_X4_16 dX4_merryFor_60 xq6 ?_
    refine g_iload_n (pc := 63) C dX4_merryFor_63 rfl 1 rfl ?_
    refine g_iconst (v := 3) (pc := 64) C dX4_merryFor_64 ci_3 ?_
    refine g_iload (pc := 65) C dX4_merryFor_65 4 rfl ?_
    obtain ⟨xr12, xσ10, xc11, h⟩ := iB h
    refine g_callVv (pc := 67) (As := [.int (xa1), .int (3), .int (xa4)]) (rest := []) C dX4_merryFor_67 (fun l => c_X0_give l y _ _ _ _ _ _ _ xc11) cv_X4_86 ⟨rfl, rfl, Nat.le_of_ble_eq_true rfl, Nat.le_of_ble_eq_true rfl⟩ (rv0 rfl) rfl (Nat.le_of_ble_eq_true rfl) ?_
    refine g_aload_n (pc := 70) C dX4_merryFor_70 rfl 0 rfl ?_
    refine gf_4_1 (pc := 71) C wf_X4_16 dX4_merryFor_71 xq6 ?_
    refine g_iload_n (pc := 74) C dX4_merryFor_74 rfl 2 rfl ?_
    obtain ⟨xr15, xσ13, xc14, h⟩ := iB h
    refine g_callVv (pc := 75) (As := [.int (xa2)]) (rest := []) C dX4_merryFor_75 (fun l => c_X0_passMinutes l y _ _ _ _ _ xc14) cv_X4_121 ⟨rfl, rfl, Nat.le_of_ble_eq_true rfl, Nat.le_of_ble_eq_true rfl⟩ (rv0 rfl) rfl (Nat.le_of_ble_eq_true rfl) ?_
    refine g_aload_n (pc := 78) C dX4_merryFor_78 rfl 0 rfl ?_
    refine gf_4_1 (pc := 79) C wf_X4_16 dX4_merryFor_79 xq6 ?_
    refine g_iload_n (pc := 82) C dX4_merryFor_82 rfl 1 rfl ?_
    refine g_iconst (v := 5) (pc := 83) C dX4_merryFor_83 ci_5 ?_
    obtain ⟨xr18, xσ16, xc17, h⟩ := iB h
    refine g_callVi (pc := 84) (As := [.int (xa1), .int (5)]) (rest := []) C dX4_merryFor_84 (fun l => c_X0_partOf l y _ _ _ _ _ _ xc17) cv_X4_144 ⟨rfl, rfl, Nat.le_of_ble_eq_true rfl, Nat.le_of_ble_eq_true rfl⟩ (rv0 rfl) rfl (Nat.le_of_ble_eq_true rfl) ?_
    refine g_iload_n (pc := 87) C dX4_merryFor_87 rfl 3 rfl ?_
    refine g_icmp_le (pc := 88) C dX4_merryFor_88 (tgt := 94) rfl (fun xq19 => ?_) (fun xq19 => ?_)
    · have h := iP xq19 h
      refine g_iinc (lv' := [(4, .int (xa4 + (-1))), (0, .ref (yad y (xa0))), (1, .int (xa1)), (2, .int (xa2)), (3, .int (xa3))]) (w := xa4 + (-1)) (pc := 94) C dX4_merryFor_94 (k := 4) rfl rfl (Nat.le_of_ble_eq_true rfl) rfl ?_
      refine g_goto (pc := 97) C dX4_merryFor_97 (tgt := 43) rfl ?_
      refine g_sub (lv' := [(0, .ref (yad y (xa0))), (1, .int (xa1)), (2, .int (xa2)), (3, .int (xa3)), (4, .int (xa4 + (-1)))]) C [1, 2, 3, 4, 0] rfl ?_
      exact xH43 xa0 xa1 xa2 xa3 (xa4 + (-1)) xσ16 h
    · have h := iN xq19 h
      refine g_iload (pc := 91) C dX4_merryFor_91 4 rfl ?_
      exact rtI hr dX4_merryFor_93 h
theorem l_X4_merryFor_43 {x : XT} {y : YT} {Z : State → Prop} (C : Cx x y (AY y) RX4 cX4_merryFor 5 rm_X4_merryFor) {r : Int32} {σ' : Sto} (hr : RetI x y (AY y) 5 cX4_merryFor Z r σ') (n : Nat) (xa0 : Nat) (xa1 : Int32) (xa2 : Int32) (xa3 : Int32) (xa4 : Int32) (σ : Sto) (h : lo5 (F_X4_merryFor_b43) n xa0 xa1 xa2 xa3 xa4 σ = some (r, σ')) : GW x y (AY y) 5 Z 43 [(0, .ref (yad y (xa0))), (1, .int (xa1)), (2, .int (xa2)), (3, .int (xa3)), (4, .int (xa4))] [] σ :=
  lo5_gw (G := fun xa0 xa1 xa2 xa3 xa4 σ => GW x y (AY y) 5 Z 43 [(0, .ref (yad y (xa0))), (1, .int (xa1)), (2, .int (xa2)), (3, .int (xa3)), (4, .int (xa4))] [] σ) (fun xk xHk xa0 xa1 xa2 xa3 xa4 σ h => b_X4_merryFor_43 C hr xk xHk xa0 xa1 xa2 xa3 xa4 σ h) n xa0 xa1 xa2 xa3 xa4 σ h
set_option maxHeartbeats 4000000 in
set_option maxRecDepth 20000 in
theorem b_X4_merryFor_0 {x : XT} {y : YT} {Z : State → Prop} (C : Cx x y (AY y) RX4 cX4_merryFor 5 rm_X4_merryFor) {r : Int32} {σ' : Sto} (hr : RetI x y (AY y) 5 cX4_merryFor Z r σ') (xa0 : Nat) (xa1 : Int32) (xa2 : Int32) (σ : Sto) (h : F_X4_merryFor xa0 xa1 xa2 σ = some (r, σ')) : GW x y (AY y) 5 Z 0 [(0, .ref (yad y (xa0))), (1, .int (xa1)), (2, .int (xa2))] [] σ := by
  unfold F_X4_merryFor at h
  refine g_aload_n (pc := 0) C dX4_merryFor_0 rfl 0 rfl ?_
  obtain ⟨xq1, h⟩ := iC h
  have xq1 := keq xq1
  refine gf_4_0 (pc := 1) C wf_X4_10 dX4_merryFor_1 xq1 ?_
  refine g_iload_n (pc := 4) C dX4_merryFor_4 rfl 1 rfl ?_
  obtain ⟨xr4, xσ2, xc3, h⟩ := iB h
  refine g_callVi (pc := 5) (As := [.int (xa1)]) (rest := []) C dX4_merryFor_5 (fun l => c_X0_isSitter l y _ _ _ _ _ xc3) cv_X4_137 ⟨rfl, rfl, Nat.le_of_ble_eq_true rfl, Nat.le_of_ble_eq_true rfl⟩ (rv0 rfl) rfl (Nat.le_of_ble_eq_true rfl) ?_
  refine g_if_eq (pc := 8) C dX4_merryFor_8 (tgt := 20) rfl (fun xq5 => ?_) (fun xq5 => ?_)
  · have h := iP xq5 h
    refine g_aload_n (pc := 20) C dX4_merryFor_20 rfl 0 rfl ?_
    refine g_ldc (v := (-1000001)) (pc := 21) C dX4_merryFor_21 wk_X4_56 ?_
    obtain ⟨xr8, xσ6, xc7, h⟩ := iB h
    refine g_callVi (pc := 23) (As := [.int ((-1000001))]) (rest := []) C dX4_merryFor_23 (fun l => c_X4_finding l y _ _ _ _ _ xc7) cv_X4_57 ⟨rfl, rfl, Nat.le_of_ble_eq_true rfl, Nat.le_of_ble_eq_true rfl⟩ (rv4 xq1) rfl (Nat.le_of_ble_eq_true rfl) ?_
    exact rtI hr dX4_merryFor_26 h
  · have h := iN xq5 h
    refine g_iload_n (pc := 11) C dX4_merryFor_11 rfl 2 rfl ?_
    refine g_bipush (v := 60) (pc := 12) C dX4_merryFor_12 cb_60 ?_
    obtain ⟨xr11, xσ9, xc10, h⟩ := iB h
    refine g_callSi (pc := 14) (As := [.int (xa2), .int (60)]) (rest := []) C dX4_merryFor_14 (fun l => c_X4_isWithin l y _ _ _ _ _ xc10) cv_X4_52 ⟨rfl, rfl, Nat.le_of_ble_eq_true rfl, Nat.le_of_ble_eq_true rfl⟩ rfl (Nat.le_of_ble_eq_true rfl) ?_
    refine g_if_ne (pc := 17) C dX4_merryFor_17 (tgt := 27) rfl (fun xq12 => ?_) (fun xq12 => ?_)
    · have h := iN xq12 h
      refine g_aload_n (pc := 27) C dX4_merryFor_27 rfl 0 rfl ?_
      refine gf_4_0 (pc := 28) C wf_X4_10 dX4_merryFor_28 xq1 ?_
      refine g_iload_n (pc := 31) C dX4_merryFor_31 rfl 1 rfl ?_
      refine g_iconst (v := 5) (pc := 32) C dX4_merryFor_32 ci_5 ?_
      obtain ⟨xr15, xσ13, xc14, h⟩ := iB h
      refine g_callVi (pc := 33) (As := [.int (xa1), .int (5)]) (rest := []) C dX4_merryFor_33 (fun l => c_X0_partOf l y _ _ _ _ _ _ xc14) cv_X4_144 ⟨rfl, rfl, Nat.le_of_ble_eq_true rfl, Nat.le_of_ble_eq_true rfl⟩ (rv0 rfl) rfl (Nat.le_of_ble_eq_true rfl) ?_
      refine g_istore_n (i := 3) (lv' := [(3, .int (xr15)), (0, .ref (yad y (xa0))), (1, .int (xa1)), (2, .int (xa2))]) (pc := 36) C dX4_merryFor_36 rfl (Nat.le_of_ble_eq_true rfl) rfl ?_
      refine g_iconst (v := 3) (pc := 37) C dX4_merryFor_37 ci_3 ?_
      obtain ⟨xr18, xσ16, xc17, h⟩ := iB h
      refine g_callSi (pc := 38) (As := [.int (3)]) (rest := []) C dX4_merryFor_38 (fun l => c_X2_mostOf l y _ _ _ _ xc17) cv_X4_79 ⟨rfl, rfl, Nat.le_of_ble_eq_true rfl, Nat.le_of_ble_eq_true rfl⟩ rfl (Nat.le_of_ble_eq_true rfl) ?_
      refine g_istore (i := 4) (lv' := [(4, .int (xr18)), (3, .int (xr15)), (0, .ref (yad y (xa0))), (1, .int (xa1)), (2, .int (xa2))]) (pc := 41) C dX4_merryFor_41 (Nat.le_of_ble_eq_true rfl) rfl ?_
      refine g_sub (lv' := [(0, .ref (yad y (xa0))), (1, .int (xa1)), (2, .int (xa2)), (3, .int (xr15)), (4, .int (xr18))]) C [2, 3, 4, 1, 0] rfl ?_
      exact l_X4_merryFor_43 C hr 1000 xa0 xa1 xa2 xr15 xr18 xσ16 h
    · have h := iP xq12 h
      refine g_aload_n (pc := 20) C dX4_merryFor_20 rfl 0 rfl ?_
      refine g_ldc (v := (-1000001)) (pc := 21) C dX4_merryFor_21 wk_X4_56 ?_
      obtain ⟨xr21, xσ19, xc20, h⟩ := iB h
      refine g_callVi (pc := 23) (As := [.int ((-1000001))]) (rest := []) C dX4_merryFor_23 (fun l => c_X4_finding l y _ _ _ _ _ xc20) cv_X4_57 ⟨rfl, rfl, Nat.le_of_ble_eq_true rfl, Nat.le_of_ble_eq_true rfl⟩ (rv4 xq1) rfl (Nat.le_of_ble_eq_true rfl) ?_
      exact rtI hr dX4_merryFor_26 h
theorem c_X4_merryFor (l : Launch) (y : YT) (xa0 : Nat) (xa1 : Int32) (xa2 : Int32) (σ σ' : Sto) (r : Int32) (h : F_X4_merryFor xa0 xa1 xa2 σ = some (r, σ')) : MI l y yX4_merryFor (Cond.code yX4_merryFor cX4_merryFor 5 (some .int) :: TT) rm_X4_merryFor [.ref (yad y (xa0)), .int (xa1), .int (xa2)] σ r σ' :=
  mkI (by decide) rfl rfl rfl (Nat.le_of_ble_eq_true rfl) (fun x Z C hr => b_X4_merryFor_0 C hr xa0 xa1 xa2 σ h)
def rm_X4_priceFor : Room := { frames := 7, cells := 0, slots := 0, locals := 170 }
def F_X4_priceFor_b23 (xk_23 : Nat → Int32 → Int32 → Int32 → Int32 → Sto → Option (Int32 × Sto)) (xa0 : Nat) (xa1 : Int32) (xa2 : Int32) (xa3 : Int32) (xa4 : Int32) (σ : Sto) : Option (Int32 × Sto) := bnd (F_X0_mostOf 2 σ) (fun xr3 xσ1 => if xr3 < xa4 then some (xa2, xσ1) else ck (kd (xa0) == 4) (bnd (F_X0_become (13) (1) xσ1) (fun xr8 xσ6 => lts (up2 xσ6 (13) 2 (xa4)) (fun xσ9 => bnd (F_X0_passMinutes (13) (xa1) xσ9) (fun xr12 xσ10 => if (xσ10 13 3) ≤ xa3 then xk_23 xa0 xa1 xa2 xa3 (xa4 + 1) xσ10 else lti (xσ10 13 3) (fun xv14 => xk_23 xa0 xa1 xa4 xv14 (xa4 + 1) xσ10))))))
def F_X4_priceFor (xa0 : Nat) (xa1 : Int32) (σ : Sto) : Option (Int32 × Sto) := bnd (F_X4_isWithin (xa1) 60 σ) (fun xr3 xσ1 => if (xr3) = 0 then ck (kd (xa0) == 4) (bnd (F_X4_finding (xa0) (-1000001) xσ1) (fun xr8 xσ5 => some (xr8, xσ5))) else lo5 (F_X4_priceFor_b23) 1000 xa0 xa1 0 (-1) 0 xσ1)
set_option maxHeartbeats 4000000 in
set_option maxRecDepth 20000 in
theorem b_X4_priceFor_23 {x : XT} {y : YT} {Z : State → Prop} (C : Cx x y (AY y) RX4 cX4_priceFor 5 rm_X4_priceFor) {r : Int32} {σ' : Sto} (hr : RetI x y (AY y) 5 cX4_priceFor Z r σ') (xk_23 : Nat → Int32 → Int32 → Int32 → Int32 → Sto → Option (Int32 × Sto)) (xH23 : ∀ (xa0 : Nat) (xa1 : Int32) (xa2 : Int32) (xa3 : Int32) (xa4 : Int32) (σ : Sto), xk_23 xa0 xa1 xa2 xa3 xa4 σ = some (r, σ') → GW x y (AY y) 5 Z 23 [(0, .ref (yad y (xa0))), (1, .int (xa1)), (2, .int (xa2)), (3, .int (xa3)), (4, .int (xa4))] [] σ) (xa0 : Nat) (xa1 : Int32) (xa2 : Int32) (xa3 : Int32) (xa4 : Int32) (σ : Sto) (h : F_X4_priceFor_b23 xk_23 xa0 xa1 xa2 xa3 xa4 σ = some (r, σ')) : GW x y (AY y) 5 Z 23 [(0, .ref (yad y (xa0))), (1, .int (xa1)), (2, .int (xa2)), (3, .int (xa3)), (4, .int (xa4))] [] σ := by
  unfold F_X4_priceFor_b23 at h
  refine g_iload (pc := 23) C dX4_priceFor_23 4 rfl ?_
  refine g_iconst (v := 2) (pc := 25) C dX4_priceFor_25 ci_2 ?_
  obtain ⟨xr3, xσ1, xc2, h⟩ := iB h
  refine g_callSi (pc := 26) (As := [.int (2)]) (rest := [.int (xa4)]) C dX4_priceFor_26 (fun l => c_X0_mostOf l y _ _ _ _ xc2) cv_X4_48 ⟨rfl, rfl, Nat.le_of_ble_eq_true rfl, Nat.le_of_ble_eq_true rfl⟩ rfl (Nat.le_of_ble_eq_true rfl) ?_
  refine g_icmp_gt (pc := 29) C dX4_priceFor_29 (tgt := 88) rfl (fun xq4 => ?_) (fun xq4 => ?_)
  · have h := iP xq4 h
    refine g_iload_n (pc := 88) C dX4_priceFor_88 rfl 2 rfl ?_
    exact rtI hr dX4_priceFor_89 h
  · have h := iN xq4 h
    refine g_aload_n (pc := 32) C dX4_priceFor_32 rfl 0 rfl ?_
    obtain ⟨xq5, h⟩ := iC h
    have xq5 := keq xq5
    refine gf_4_1 (pc := 33) C wf_X4_16 dX4_priceFor_33 xq5 ?_
    refine g_aload_n (pc := 36) C dX4_priceFor_36 rfl 0 rfl ?_
    refine gf_4_0 (pc := 37) C wf_X4_10 dX4_priceFor_37 xq5 ?_
    obtain ⟨xr8, xσ6, xc7, h⟩ := iB h
    refine g_callVv (pc := 40) (As := [.ref (yad y (1))]) (rest := []) C dX4_priceFor_40 (fun l => c_X0_become l y _ _ _ _ _ xc7) cv_X4_140 ⟨rfl, rfl, Nat.le_of_ble_eq_true rfl, Nat.le_of_ble_eq_true rfl⟩ (rv0 rfl) rfl (Nat.le_of_ble_eq_true rfl) ?_
    refine g_aload_n (pc := 43) C dX4_priceFor_43 rfl 0 rfl ?_
    refine gf_4_1 (pc := 44) C wf_X4_16 dX4_priceFor_44 xq5 ?_
    refine g_iload (pc := 47) C dX4_priceFor_47 4 rfl ?_
    refine gp_0_2 (pc := 49) C wf_X4_152 dX4_priceFor_49 rfl ?_
    refine g_letS h (fun xσ9 h => ?_)
    refine g_aload_n (pc := 52) C dX4_priceFor_52 rfl 0 rfl ?_
    refine gf_4_1 (pc := 53) C wf_X4_16 dX4_priceFor_53 xq5 ?_
    refine g_iload_n (pc := 56) C dX4_priceFor_56 rfl 1 rfl ?_
    obtain ⟨xr12, xσ10, xc11, h⟩ := iB h
    refine g_callVv (pc := 57) (As := [.int (xa1)]) (rest := []) C dX4_priceFor_57 (fun l => c_X0_passMinutes l y _ _ _ _ _ xc11) cv_X4_121 ⟨rfl, rfl, Nat.le_of_ble_eq_true rfl, Nat.le_of_ble_eq_true rfl⟩ (rv0 rfl) rfl (Nat.le_of_ble_eq_true rfl) ?_
    refine g_aload_n (pc := 60) C dX4_priceFor_60 rfl 0 rfl ?_
    refine gf_4_1 (pc := 61) C wf_X4_16 dX4_priceFor_61 xq5 ?_
    refine gf_0_3 (pc := 64) C wf_X4_168 dX4_priceFor_64 rfl ?_
    refine g_iload_n (pc := 67) C dX4_priceFor_67 rfl 3 rfl ?_
    refine g_icmp_le (pc := 68) C dX4_priceFor_68 (tgt := 82) rfl (fun xq13 => ?_) (fun xq13 => ?_)
    · have h := iP xq13 h
      refine g_iinc (lv' := [(4, .int (xa4 + 1)), (0, .ref (yad y (xa0))), (1, .int (xa1)), (2, .int (xa2)), (3, .int (xa3))]) (w := xa4 + 1) (pc := 82) C dX4_priceFor_82 (k := 4) rfl rfl (Nat.le_of_ble_eq_true rfl) rfl ?_
      refine g_goto (pc := 85) C dX4_priceFor_85 (tgt := 23) rfl ?_
      refine g_sub (lv' := [(0, .ref (yad y (xa0))), (1, .int (xa1)), (2, .int (xa2)), (3, .int (xa3)), (4, .int (xa4 + 1))]) C [1, 2, 3, 4, 0] rfl ?_
      exact xH23 xa0 xa1 xa2 xa3 (xa4 + 1) xσ10 h
    · have h := iN xq13 h
      refine g_aload_n (pc := 71) C dX4_priceFor_71 rfl 0 rfl ?_
      refine gf_4_1 (pc := 72) C wf_X4_16 dX4_priceFor_72 xq5 ?_
      refine gf_0_3 (pc := 75) C wf_X4_168 dX4_priceFor_75 rfl ?_
      refine g_letI h (fun xv14 h => ?_)
      refine g_istore_n (i := 3) (lv' := [(3, .int (xv14)), (0, .ref (yad y (xa0))), (1, .int (xa1)), (2, .int (xa2)), (4, .int (xa4))]) (pc := 78) C dX4_priceFor_78 rfl (Nat.le_of_ble_eq_true rfl) rfl ?_
      refine g_iload (pc := 79) C dX4_priceFor_79 4 rfl ?_
      refine g_istore_n (i := 2) (lv' := [(2, .int (xa4)), (3, .int (xv14)), (0, .ref (yad y (xa0))), (1, .int (xa1)), (4, .int (xa4))]) (pc := 81) C dX4_priceFor_81 rfl (Nat.le_of_ble_eq_true rfl) rfl ?_
      refine g_iinc (lv' := [(4, .int (xa4 + 1)), (2, .int (xa4)), (3, .int (xv14)), (0, .ref (yad y (xa0))), (1, .int (xa1))]) (w := xa4 + 1) (pc := 82) C dX4_priceFor_82 (k := 4) rfl rfl (Nat.le_of_ble_eq_true rfl) rfl ?_
      refine g_goto (pc := 85) C dX4_priceFor_85 (tgt := 23) rfl ?_
      refine g_sub (lv' := [(0, .ref (yad y (xa0))), (1, .int (xa1)), (2, .int (xa4)), (3, .int (xv14)), (4, .int (xa4 + 1))]) C [3, 4, 1, 2, 0] rfl ?_
      exact xH23 xa0 xa1 xa4 xv14 (xa4 + 1) xσ10 h
theorem l_X4_priceFor_23 {x : XT} {y : YT} {Z : State → Prop} (C : Cx x y (AY y) RX4 cX4_priceFor 5 rm_X4_priceFor) {r : Int32} {σ' : Sto} (hr : RetI x y (AY y) 5 cX4_priceFor Z r σ') (n : Nat) (xa0 : Nat) (xa1 : Int32) (xa2 : Int32) (xa3 : Int32) (xa4 : Int32) (σ : Sto) (h : lo5 (F_X4_priceFor_b23) n xa0 xa1 xa2 xa3 xa4 σ = some (r, σ')) : GW x y (AY y) 5 Z 23 [(0, .ref (yad y (xa0))), (1, .int (xa1)), (2, .int (xa2)), (3, .int (xa3)), (4, .int (xa4))] [] σ :=
  lo5_gw (G := fun xa0 xa1 xa2 xa3 xa4 σ => GW x y (AY y) 5 Z 23 [(0, .ref (yad y (xa0))), (1, .int (xa1)), (2, .int (xa2)), (3, .int (xa3)), (4, .int (xa4))] [] σ) (fun xk xHk xa0 xa1 xa2 xa3 xa4 σ h => b_X4_priceFor_23 C hr xk xHk xa0 xa1 xa2 xa3 xa4 σ h) n xa0 xa1 xa2 xa3 xa4 σ h
set_option maxHeartbeats 4000000 in
set_option maxRecDepth 20000 in
theorem b_X4_priceFor_0 {x : XT} {y : YT} {Z : State → Prop} (C : Cx x y (AY y) RX4 cX4_priceFor 5 rm_X4_priceFor) {r : Int32} {σ' : Sto} (hr : RetI x y (AY y) 5 cX4_priceFor Z r σ') (xa0 : Nat) (xa1 : Int32) (σ : Sto) (h : F_X4_priceFor xa0 xa1 σ = some (r, σ')) : GW x y (AY y) 5 Z 0 [(0, .ref (yad y (xa0))), (1, .int (xa1))] [] σ := by
  unfold F_X4_priceFor at h
  refine g_iload_n (pc := 0) C dX4_priceFor_0 rfl 1 rfl ?_
  refine g_bipush (v := 60) (pc := 1) C dX4_priceFor_1 cb_60 ?_
  obtain ⟨xr3, xσ1, xc2, h⟩ := iB h
  refine g_callSi (pc := 3) (As := [.int (xa1), .int (60)]) (rest := []) C dX4_priceFor_3 (fun l => c_X4_isWithin l y _ _ _ _ _ xc2) cv_X4_52 ⟨rfl, rfl, Nat.le_of_ble_eq_true rfl, Nat.le_of_ble_eq_true rfl⟩ rfl (Nat.le_of_ble_eq_true rfl) ?_
  refine g_if_ne (pc := 6) C dX4_priceFor_6 (tgt := 16) rfl (fun xq4 => ?_) (fun xq4 => ?_)
  · have h := iN xq4 h
    refine g_iconst (v := 0) (pc := 16) C dX4_priceFor_16 ci_0 ?_
    refine g_istore_n (i := 2) (lv' := [(2, .int (0)), (0, .ref (yad y (xa0))), (1, .int (xa1))]) (pc := 17) C dX4_priceFor_17 rfl (Nat.le_of_ble_eq_true rfl) rfl ?_
    refine g_iconst (v := (-1)) (pc := 18) C dX4_priceFor_18 ci_m1 ?_
    refine g_istore_n (i := 3) (lv' := [(3, .int ((-1))), (2, .int (0)), (0, .ref (yad y (xa0))), (1, .int (xa1))]) (pc := 19) C dX4_priceFor_19 rfl (Nat.le_of_ble_eq_true rfl) rfl ?_
    refine g_iconst (v := 0) (pc := 20) C dX4_priceFor_20 ci_0 ?_
    refine g_istore (i := 4) (lv' := [(4, .int (0)), (3, .int ((-1))), (2, .int (0)), (0, .ref (yad y (xa0))), (1, .int (xa1))]) (pc := 21) C dX4_priceFor_21 (Nat.le_of_ble_eq_true rfl) rfl ?_
    refine g_sub (lv' := [(0, .ref (yad y (xa0))), (1, .int (xa1)), (2, .int (0)), (3, .int ((-1))), (4, .int (0))]) C [3, 4, 2, 1, 0] rfl ?_
    exact l_X4_priceFor_23 C hr 1000 xa0 xa1 0 (-1) 0 xσ1 h
  · have h := iP xq4 h
    refine g_aload_n (pc := 9) C dX4_priceFor_9 rfl 0 rfl ?_
    refine g_ldc (v := (-1000001)) (pc := 10) C dX4_priceFor_10 wk_X4_56 ?_
    obtain ⟨xq7, h⟩ := iC h
    have xq7 := keq xq7
    obtain ⟨xr8, xσ5, xc6, h⟩ := iB h
    refine g_callVi (pc := 12) (As := [.int ((-1000001))]) (rest := []) C dX4_priceFor_12 (fun l => c_X4_finding l y _ _ _ _ _ xc6) cv_X4_57 ⟨rfl, rfl, Nat.le_of_ble_eq_true rfl, Nat.le_of_ble_eq_true rfl⟩ (rv4 xq7) rfl (Nat.le_of_ble_eq_true rfl) ?_
    exact rtI hr dX4_priceFor_15 h
theorem c_X4_priceFor (l : Launch) (y : YT) (xa0 : Nat) (xa1 : Int32) (σ σ' : Sto) (r : Int32) (h : F_X4_priceFor xa0 xa1 σ = some (r, σ')) : MI l y yX4_priceFor (Cond.code yX4_priceFor cX4_priceFor 5 (some .int) :: TT) rm_X4_priceFor [.ref (yad y (xa0)), .int (xa1)] σ r σ' :=
  mkI (by decide) rfl rfl rfl (Nat.le_of_ble_eq_true rfl) (fun x Z C hr => b_X4_priceFor_0 C hr xa0 xa1 σ h)
def rm_X4_away : Room := { frames := 7, cells := 0, slots := 0, locals := 170 }
def F_X4_away_b106 (xk_59 : Nat → Int32 → Int32 → Int32 → Int32 → Int32 → Int32 → Sto → Option (Int32 × Sto)) (xa0 : Nat) (xa1 : Int32) (xa2 : Int32) (xa3 : Int32) (xa4 : Int32) (xa5 : Int32) (xa6 : Int32) (xa7 : Int32) (xs0 : Int32) (σ : Sto) : Option (Int32 × Sto) := if (xa7) = 0 then xk_59 xa0 xa1 xa2 xa3 xa4 xa5 (xa6 + 1) σ else if (xs0) = 0 then xk_59 xa0 xa1 xa2 xa3 xa4 xa5 (xa6 + 1) σ else ck (kd (xa0) == 4) (bnd (F_X0_become (13) (1) σ) (fun xr6 xσ4 => bnd (F_X0_emptyPlacesOf (13) (xa6) xσ4) (fun xr9 xσ7 => bnd (F_X0_passMinutes (13) (xa3) xσ7) (fun xr12 xσ10 => bnd (F_X0_partOf (13) (xa1) 5 xσ10) (fun xr15 xσ13 => if xr15 < xa2 then xk_59 xa0 xa1 xa2 xa3 xa4 xa5 (xa6 + 1) xσ13 else xk_59 xa0 xa1 xa2 xa3 xa4 xa6 (xa6 + 1) xσ13)))))
def F_X4_away_b101 (xk_59 : Nat → Int32 → Int32 → Int32 → Int32 → Int32 → Int32 → Sto → Option (Int32 × Sto)) (xa0 : Nat) (xa1 : Int32) (xa2 : Int32) (xa3 : Int32) (xa4 : Int32) (xa5 : Int32) (xa6 : Int32) (xa7 : Int32) (σ : Sto) : Option (Int32 × Sto) := F_X4_away_b106 xk_59 xa0 xa1 xa2 xa3 xa4 xa5 xa6 xa7 1 σ
def F_X4_away_b81 (xk_59 : Nat → Int32 → Int32 → Int32 → Int32 → Int32 → Int32 → Sto → Option (Int32 × Sto)) (xa0 : Nat) (xa1 : Int32) (xa2 : Int32) (xa3 : Int32) (xa4 : Int32) (xa5 : Int32) (xa6 : Int32) (xs0 : Int32) (σ : Sto) : Option (Int32 × Sto) := if (xa5) < 0 then F_X4_away_b101 xk_59 xa0 xa1 xa2 xa3 xa4 xa5 xa6 xs0 σ else bnd (F_J6_bitCount_0f7a4 (xa6) σ) (fun xr4 xσ2 => bnd (F_J6_bitCount_0f7a4 (xa5) xσ2) (fun xr7 xσ5 => if xr7 ≤ xr4 then F_X4_away_b106 xk_59 xa0 xa1 xa2 xa3 xa4 xa5 xa6 xs0 0 xσ5 else F_X4_away_b101 xk_59 xa0 xa1 xa2 xa3 xa4 xa5 xa6 xs0 xσ5))
def F_X4_away_b59 (xk_59 : Nat → Int32 → Int32 → Int32 → Int32 → Int32 → Int32 → Sto → Option (Int32 × Sto)) (xa0 : Nat) (xa1 : Int32) (xa2 : Int32) (xa3 : Int32) (xa4 : Int32) (xa5 : Int32) (xa6 : Int32) (σ : Sto) : Option (Int32 × Sto) := if xa4 < xa6 then if 0 ≤ (xa5) then some (xa5, σ) else ck (kd (xa0) == 4) (bnd (F_X4_finding (xa0) (-1000004) σ) (fun xr6 xσ3 => some (xr6, xσ3))) else if (xa6 &&& (xa4 ^^^ (-1))) = 0 then F_X4_away_b81 xk_59 xa0 xa1 xa2 xa3 xa4 xa5 xa6 1 σ else F_X4_away_b81 xk_59 xa0 xa1 xa2 xa3 xa4 xa5 xa6 0 σ
def F_X4_away (xa0 : Nat) (xa1 : Int32) (xa2 : Int32) (xa3 : Int32) (σ : Sto) : Option (Int32 × Sto) := ck (kd (xa0) == 4) (bnd (F_X0_isSitter (1) (xa1) σ) (fun xr4 xσ2 => if (xr4) = 0 then bnd (F_X4_finding (xa0) (-1000001) xσ2) (fun xr8 xσ6 => some (xr8, xσ6)) else bnd (F_X2_mostOf 5 xσ2) (fun xr11 xσ9 => bnd (F_X4_isWithin (xa2) (xr11) xσ9) (fun xr14 xσ12 => if (xr14) = 0 then bnd (F_X4_finding (xa0) (-1000001) xσ12) (fun xr18 xσ16 => some (xr18, xσ16)) else bnd (F_X4_isWithin (xa3) 20 xσ12) (fun xr21 xσ19 => if (xr21) = 0 then bnd (F_X4_finding (xa0) (-1000001) xσ19) (fun xr29 xσ27 => some (xr29, xσ27)) else bnd (F_X0_sitterSet (1) xσ19) (fun xr25 xσ23 => lti (xr25 &&& ((isl 1 xa1) ^^^ (-1))) (fun xv26 => lo7 (F_X4_away_b59) 1000 xa0 xa1 xa2 xa3 xv26 (-1) 0 xσ23)))))))
set_option maxHeartbeats 4000000 in
set_option maxRecDepth 20000 in
theorem b_X4_away_106 {x : XT} {y : YT} {Z : State → Prop} (C : Cx x y (AY y) RX4 cX4_away 9 rm_X4_away) {r : Int32} {σ' : Sto} (hr : RetI x y (AY y) 9 cX4_away Z r σ') (xk_59 : Nat → Int32 → Int32 → Int32 → Int32 → Int32 → Int32 → Sto → Option (Int32 × Sto)) (xH59 : ∀ (xa0 : Nat) (xa1 : Int32) (xa2 : Int32) (xa3 : Int32) (xa4 : Int32) (xa5 : Int32) (xa6 : Int32) (σ : Sto), xk_59 xa0 xa1 xa2 xa3 xa4 xa5 xa6 σ = some (r, σ') → GW x y (AY y) 9 Z 59 [(0, .ref (yad y (xa0))), (1, .int (xa1)), (2, .int (xa2)), (3, .int (xa3)), (4, .int (xa4)), (5, .int (xa5)), (6, .int (xa6))] [] σ) (xa0 : Nat) (xa1 : Int32) (xa2 : Int32) (xa3 : Int32) (xa4 : Int32) (xa5 : Int32) (xa6 : Int32) (xa7 : Int32) (xs0 : Int32) (σ : Sto) (h : F_X4_away_b106 xk_59 xa0 xa1 xa2 xa3 xa4 xa5 xa6 xa7 xs0 σ = some (r, σ')) : GW x y (AY y) 9 Z 106 [(0, .ref (yad y (xa0))), (1, .int (xa1)), (2, .int (xa2)), (3, .int (xa3)), (4, .int (xa4)), (5, .int (xa5)), (6, .int (xa6)), (7, .int (xa7))] [.int (xs0)] σ := by
  unfold F_X4_away_b106 at h
  refine g_istore (i := 8) (lv' := [(8, .int (xs0)), (0, .ref (yad y (xa0))), (1, .int (xa1)), (2, .int (xa2)), (3, .int (xa3)), (4, .int (xa4)), (5, .int (xa5)), (6, .int (xa6)), (7, .int (xa7))]) (pc := 106) C dX4_away_106 (Nat.le_of_ble_eq_true rfl) rfl ?_
  refine g_iload (pc := 108) C dX4_away_108 8 rfl ?_
  refine g_if_eq (pc := 110) C dX4_away_110 (tgt := 168) rfl (fun xq1 => ?_) (fun xq1 => ?_)
  · have h := iP xq1 h
    refine g_iinc (lv' := [(6, .int (xa6 + 1)), (8, .int (xs0)), (0, .ref (yad y (xa0))), (1, .int (xa1)), (2, .int (xa2)), (3, .int (xa3)), (4, .int (xa4)), (5, .int (xa5)), (7, .int (xa7))]) (w := xa6 + 1) (pc := 168) C dX4_away_168 (k := 7) rfl rfl (Nat.le_of_ble_eq_true rfl) rfl ?_
    refine g_goto (pc := 171) C dX4_away_171 (tgt := 59) rfl ?_
    refine g_sub (lv' := [(0, .ref (yad y (xa0))), (1, .int (xa1)), (2, .int (xa2)), (3, .int (xa3)), (4, .int (xa4)), (5, .int (xa5)), (6, .int (xa6 + 1))]) C [2, 3, 4, 5, 6, 7, 0] rfl ?_
    exact xH59 xa0 xa1 xa2 xa3 xa4 xa5 (xa6 + 1) σ h
  · have h := iN xq1 h
    refine g_iload (pc := 113) C dX4_away_113 0 rfl ?_
    refine g_if_eq (pc := 115) C dX4_away_115 (tgt := 168) rfl (fun xq2 => ?_) (fun xq2 => ?_)
    · have h := iP xq2 h
      refine g_iinc (lv' := [(6, .int (xa6 + 1)), (8, .int (xs0)), (0, .ref (yad y (xa0))), (1, .int (xa1)), (2, .int (xa2)), (3, .int (xa3)), (4, .int (xa4)), (5, .int (xa5)), (7, .int (xa7))]) (w := xa6 + 1) (pc := 168) C dX4_away_168 (k := 7) rfl rfl (Nat.le_of_ble_eq_true rfl) rfl ?_
      refine g_goto (pc := 171) C dX4_away_171 (tgt := 59) rfl ?_
      refine g_sub (lv' := [(0, .ref (yad y (xa0))), (1, .int (xa1)), (2, .int (xa2)), (3, .int (xa3)), (4, .int (xa4)), (5, .int (xa5)), (6, .int (xa6 + 1))]) C [2, 3, 4, 5, 6, 7, 0] rfl ?_
      exact xH59 xa0 xa1 xa2 xa3 xa4 xa5 (xa6 + 1) σ h
    · have h := iN xq2 h
      refine g_aload_n (pc := 118) C dX4_away_118 rfl 1 rfl ?_
      obtain ⟨xq3, h⟩ := iC h
      have xq3 := keq xq3
      refine gf_4_1 (pc := 119) C wf_X4_16 dX4_away_119 xq3 ?_
      refine g_aload_n (pc := 122) C dX4_away_122 rfl 1 rfl ?_
      refine gf_4_0 (pc := 123) C wf_X4_10 dX4_away_123 xq3 ?_
      obtain ⟨xr6, xσ4, xc5, h⟩ := iB h
      refine g_callVv (pc := 126) (As := [.ref (yad y (1))]) (rest := []) C dX4_away_126 (fun l => c_X0_become l y _ _ _ _ _ xc5) cv_X4_140 ⟨rfl, rfl, Nat.le_of_ble_eq_true rfl, Nat.le_of_ble_eq_true rfl⟩ (rv0 rfl) rfl (Nat.le_of_ble_eq_true rfl) ?_
      refine g_aload_n (pc := 129) C dX4_away_129 rfl 1 rfl ?_
      refine gf_4_1 (pc := 130) C wf_X4_16 dX4_away_130 xq3 ?_
      refine g_iload (pc := 133) C dX4_away_133 7 rfl ?_
      obtain ⟨xr9, xσ7, xc8, h⟩ := iB h
      refine g_callVv (pc := 135) (As := [.int (xa6)]) (rest := []) C dX4_away_135 (fun l => c_X0_emptyPlacesOf l y _ _ _ _ _ xc8) cv_X4_174 ⟨rfl, rfl, Nat.le_of_ble_eq_true rfl, Nat.le_of_ble_eq_true rfl⟩ (rv0 rfl) rfl (Nat.le_of_ble_eq_true rfl) ?_
      refine g_aload_n (pc := 138) C dX4_away_138 rfl 1 rfl ?_
      refine gf_4_1 (pc := 139) C wf_X4_16 dX4_away_139 xq3 ?_
      refine g_iload_n (pc := 142) C dX4_away_142 rfl 4 rfl ?_
      obtain ⟨xr12, xσ10, xc11, h⟩ := iB h
      refine g_callVv (pc := 143) (As := [.int (xa3)]) (rest := []) C dX4_away_143 (fun l => c_X0_passMinutes l y _ _ _ _ _ xc11) cv_X4_121 ⟨rfl, rfl, Nat.le_of_ble_eq_true rfl, Nat.le_of_ble_eq_true rfl⟩ (rv0 rfl) rfl (Nat.le_of_ble_eq_true rfl) ?_
      refine g_aload_n (pc := 146) C dX4_away_146 rfl 1 rfl ?_
      refine gf_4_1 (pc := 147) C wf_X4_16 dX4_away_147 xq3 ?_
      refine g_iload_n (pc := 150) C dX4_away_150 rfl 2 rfl ?_
      refine g_iconst (v := 5) (pc := 151) C dX4_away_151 ci_5 ?_
      obtain ⟨xr15, xσ13, xc14, h⟩ := iB h
      refine g_callVi (pc := 152) (As := [.int (xa1), .int (5)]) (rest := []) C dX4_away_152 (fun l => c_X0_partOf l y _ _ _ _ _ _ xc14) cv_X4_144 ⟨rfl, rfl, Nat.le_of_ble_eq_true rfl, Nat.le_of_ble_eq_true rfl⟩ (rv0 rfl) rfl (Nat.le_of_ble_eq_true rfl) ?_
      refine g_iload_n (pc := 155) C dX4_away_155 rfl 3 rfl ?_
      refine g_icmp_lt (pc := 156) C dX4_away_156 (tgt := 164) rfl (fun xq16 => ?_) (fun xq16 => ?_)
      · have h := iP xq16 h
        refine g_iload (pc := 164) C dX4_away_164 6 rfl ?_
        refine g_istore (i := 5) (lv' := [(5, .int (xa5)), (8, .int (xs0)), (0, .ref (yad y (xa0))), (1, .int (xa1)), (2, .int (xa2)), (3, .int (xa3)), (4, .int (xa4)), (6, .int (xa6)), (7, .int (xa7))]) (pc := 166) C dX4_away_166 (Nat.le_of_ble_eq_true rfl) rfl ?_
        refine g_iinc (lv' := [(6, .int (xa6 + 1)), (5, .int (xa5)), (8, .int (xs0)), (0, .ref (yad y (xa0))), (1, .int (xa1)), (2, .int (xa2)), (3, .int (xa3)), (4, .int (xa4)), (7, .int (xa7))]) (w := xa6 + 1) (pc := 168) C dX4_away_168 (k := 7) rfl rfl (Nat.le_of_ble_eq_true rfl) rfl ?_
        refine g_goto (pc := 171) C dX4_away_171 (tgt := 59) rfl ?_
        refine g_sub (lv' := [(0, .ref (yad y (xa0))), (1, .int (xa1)), (2, .int (xa2)), (3, .int (xa3)), (4, .int (xa4)), (5, .int (xa5)), (6, .int (xa6 + 1))]) C [3, 4, 5, 6, 7, 1, 0] rfl ?_
        exact xH59 xa0 xa1 xa2 xa3 xa4 xa5 (xa6 + 1) xσ13 h
      · have h := iN xq16 h
        refine g_iload (pc := 159) C dX4_away_159 7 rfl ?_
        refine g_goto (pc := 161) C dX4_away_161 (tgt := 166) rfl ?_
        refine g_istore (i := 5) (lv' := [(5, .int (xa6)), (8, .int (xs0)), (0, .ref (yad y (xa0))), (1, .int (xa1)), (2, .int (xa2)), (3, .int (xa3)), (4, .int (xa4)), (6, .int (xa6)), (7, .int (xa7))]) (pc := 166) C dX4_away_166 (Nat.le_of_ble_eq_true rfl) rfl ?_
        refine g_iinc (lv' := [(6, .int (xa6 + 1)), (5, .int (xa6)), (8, .int (xs0)), (0, .ref (yad y (xa0))), (1, .int (xa1)), (2, .int (xa2)), (3, .int (xa3)), (4, .int (xa4)), (7, .int (xa7))]) (w := xa6 + 1) (pc := 168) C dX4_away_168 (k := 7) rfl rfl (Nat.le_of_ble_eq_true rfl) rfl ?_
        refine g_goto (pc := 171) C dX4_away_171 (tgt := 59) rfl ?_
        refine g_sub (lv' := [(0, .ref (yad y (xa0))), (1, .int (xa1)), (2, .int (xa2)), (3, .int (xa3)), (4, .int (xa4)), (5, .int (xa6)), (6, .int (xa6 + 1))]) C [3, 4, 5, 6, 7, 1, 0] rfl ?_
        exact xH59 xa0 xa1 xa2 xa3 xa4 xa6 (xa6 + 1) xσ13 h
set_option maxHeartbeats 4000000 in
set_option maxRecDepth 20000 in
theorem b_X4_away_101 {x : XT} {y : YT} {Z : State → Prop} (C : Cx x y (AY y) RX4 cX4_away 9 rm_X4_away) {r : Int32} {σ' : Sto} (hr : RetI x y (AY y) 9 cX4_away Z r σ') (xk_59 : Nat → Int32 → Int32 → Int32 → Int32 → Int32 → Int32 → Sto → Option (Int32 × Sto)) (xH59 : ∀ (xa0 : Nat) (xa1 : Int32) (xa2 : Int32) (xa3 : Int32) (xa4 : Int32) (xa5 : Int32) (xa6 : Int32) (σ : Sto), xk_59 xa0 xa1 xa2 xa3 xa4 xa5 xa6 σ = some (r, σ') → GW x y (AY y) 9 Z 59 [(0, .ref (yad y (xa0))), (1, .int (xa1)), (2, .int (xa2)), (3, .int (xa3)), (4, .int (xa4)), (5, .int (xa5)), (6, .int (xa6))] [] σ) (xa0 : Nat) (xa1 : Int32) (xa2 : Int32) (xa3 : Int32) (xa4 : Int32) (xa5 : Int32) (xa6 : Int32) (xa7 : Int32) (σ : Sto) (h : F_X4_away_b101 xk_59 xa0 xa1 xa2 xa3 xa4 xa5 xa6 xa7 σ = some (r, σ')) : GW x y (AY y) 9 Z 101 [(0, .ref (yad y (xa0))), (1, .int (xa1)), (2, .int (xa2)), (3, .int (xa3)), (4, .int (xa4)), (5, .int (xa5)), (6, .int (xa6)), (7, .int (xa7))] [] σ := by
  unfold F_X4_away_b101 at h
  refine g_iconst (v := 1) (pc := 101) C dX4_away_101 ci_1 ?_
  refine g_goto (pc := 102) C dX4_away_102 (tgt := 106) rfl ?_
  exact b_X4_away_106 C hr xk_59 xH59 xa0 xa1 xa2 xa3 xa4 xa5 xa6 xa7 1 σ h
set_option maxHeartbeats 4000000 in
set_option maxRecDepth 20000 in
theorem b_X4_away_81 {x : XT} {y : YT} {Z : State → Prop} (C : Cx x y (AY y) RX4 cX4_away 9 rm_X4_away) {r : Int32} {σ' : Sto} (hr : RetI x y (AY y) 9 cX4_away Z r σ') (xk_59 : Nat → Int32 → Int32 → Int32 → Int32 → Int32 → Int32 → Sto → Option (Int32 × Sto)) (xH59 : ∀ (xa0 : Nat) (xa1 : Int32) (xa2 : Int32) (xa3 : Int32) (xa4 : Int32) (xa5 : Int32) (xa6 : Int32) (σ : Sto), xk_59 xa0 xa1 xa2 xa3 xa4 xa5 xa6 σ = some (r, σ') → GW x y (AY y) 9 Z 59 [(0, .ref (yad y (xa0))), (1, .int (xa1)), (2, .int (xa2)), (3, .int (xa3)), (4, .int (xa4)), (5, .int (xa5)), (6, .int (xa6))] [] σ) (xa0 : Nat) (xa1 : Int32) (xa2 : Int32) (xa3 : Int32) (xa4 : Int32) (xa5 : Int32) (xa6 : Int32) (xs0 : Int32) (σ : Sto) (h : F_X4_away_b81 xk_59 xa0 xa1 xa2 xa3 xa4 xa5 xa6 xs0 σ = some (r, σ')) : GW x y (AY y) 9 Z 81 [(0, .ref (yad y (xa0))), (1, .int (xa1)), (2, .int (xa2)), (3, .int (xa3)), (4, .int (xa4)), (5, .int (xa5)), (6, .int (xa6))] [.int (xs0)] σ := by
  unfold F_X4_away_b81 at h
  refine g_istore (i := 7) (lv' := [(7, .int (xs0)), (0, .ref (yad y (xa0))), (1, .int (xa1)), (2, .int (xa2)), (3, .int (xa3)), (4, .int (xa4)), (5, .int (xa5)), (6, .int (xa6))]) (pc := 81) C dX4_away_81 (Nat.le_of_ble_eq_true rfl) rfl ?_
  refine g_iload (pc := 83) C dX4_away_83 6 rfl ?_
  refine g_if_lt (pc := 85) C dX4_away_85 (tgt := 101) rfl (fun xq1 => ?_) (fun xq1 => ?_)
  · have h := iP xq1 h
    refine g_sub (lv' := [(0, .ref (yad y (xa0))), (1, .int (xa1)), (2, .int (xa2)), (3, .int (xa3)), (4, .int (xa4)), (5, .int (xa5)), (6, .int (xa6)), (7, .int (xs0))]) C [1, 2, 3, 4, 5, 6, 7, 0] rfl ?_
    exact b_X4_away_101 C hr xk_59 xH59 xa0 xa1 xa2 xa3 xa4 xa5 xa6 xs0 σ h
  · have h := iN xq1 h
    refine g_iload (pc := 88) C dX4_away_88 7 rfl ?_
    obtain ⟨xr4, xσ2, xc3, h⟩ := iB h
    refine g_callSi (pc := 90) (As := [.int (xa6)]) (rest := []) C dX4_away_90 (fun l => c_J6_bitCount_0f7a4 l y _ _ _ _ xc3) cv_X4_111 ⟨rfl, rfl, Nat.le_of_ble_eq_true rfl, Nat.le_of_ble_eq_true rfl⟩ rfl (Nat.le_of_ble_eq_true rfl) ?_
    refine g_iload (pc := 93) C dX4_away_93 6 rfl ?_
    obtain ⟨xr7, xσ5, xc6, h⟩ := iB h
    refine g_callSi (pc := 95) (As := [.int (xa5)]) (rest := [.int (xr4)]) C dX4_away_95 (fun l => c_J6_bitCount_0f7a4 l y _ _ _ _ xc6) cv_X4_111 ⟨rfl, rfl, Nat.le_of_ble_eq_true rfl, Nat.le_of_ble_eq_true rfl⟩ rfl (Nat.le_of_ble_eq_true rfl) ?_
    refine g_icmp_ge (pc := 98) C dX4_away_98 (tgt := 105) rfl (fun xq8 => ?_) (fun xq8 => ?_)
    · have h := iP xq8 h
      refine g_iconst (v := 0) (pc := 105) C dX4_away_105 ci_0 ?_
      refine g_sub (lv' := [(0, .ref (yad y (xa0))), (1, .int (xa1)), (2, .int (xa2)), (3, .int (xa3)), (4, .int (xa4)), (5, .int (xa5)), (6, .int (xa6)), (7, .int (xs0))]) C [1, 2, 3, 4, 5, 6, 7, 0] rfl ?_
      exact b_X4_away_106 C hr xk_59 xH59 xa0 xa1 xa2 xa3 xa4 xa5 xa6 xs0 0 xσ5 h
    · have h := iN xq8 h
      refine g_sub (lv' := [(0, .ref (yad y (xa0))), (1, .int (xa1)), (2, .int (xa2)), (3, .int (xa3)), (4, .int (xa4)), (5, .int (xa5)), (6, .int (xa6)), (7, .int (xs0))]) C [1, 2, 3, 4, 5, 6, 7, 0] rfl ?_
      exact b_X4_away_101 C hr xk_59 xH59 xa0 xa1 xa2 xa3 xa4 xa5 xa6 xs0 xσ5 h
set_option maxHeartbeats 4000000 in
set_option maxRecDepth 20000 in
theorem b_X4_away_59 {x : XT} {y : YT} {Z : State → Prop} (C : Cx x y (AY y) RX4 cX4_away 9 rm_X4_away) {r : Int32} {σ' : Sto} (hr : RetI x y (AY y) 9 cX4_away Z r σ') (xk_59 : Nat → Int32 → Int32 → Int32 → Int32 → Int32 → Int32 → Sto → Option (Int32 × Sto)) (xH59 : ∀ (xa0 : Nat) (xa1 : Int32) (xa2 : Int32) (xa3 : Int32) (xa4 : Int32) (xa5 : Int32) (xa6 : Int32) (σ : Sto), xk_59 xa0 xa1 xa2 xa3 xa4 xa5 xa6 σ = some (r, σ') → GW x y (AY y) 9 Z 59 [(0, .ref (yad y (xa0))), (1, .int (xa1)), (2, .int (xa2)), (3, .int (xa3)), (4, .int (xa4)), (5, .int (xa5)), (6, .int (xa6))] [] σ) (xa0 : Nat) (xa1 : Int32) (xa2 : Int32) (xa3 : Int32) (xa4 : Int32) (xa5 : Int32) (xa6 : Int32) (σ : Sto) (h : F_X4_away_b59 xk_59 xa0 xa1 xa2 xa3 xa4 xa5 xa6 σ = some (r, σ')) : GW x y (AY y) 9 Z 59 [(0, .ref (yad y (xa0))), (1, .int (xa1)), (2, .int (xa2)), (3, .int (xa3)), (4, .int (xa4)), (5, .int (xa5)), (6, .int (xa6))] [] σ := by
  unfold F_X4_away_b59 at h
  refine g_iload (pc := 59) C dX4_away_59 6 rfl ?_
  refine g_iload (pc := 61) C dX4_away_61 4 rfl ?_
  refine g_icmp_gt (pc := 63) C dX4_away_63 (tgt := 174) rfl (fun xq1 => ?_) (fun xq1 => ?_)
  · have h := iP xq1 h
    refine g_iload (pc := 174) C dX4_away_174 5 rfl ?_
    refine g_if_ge (pc := 176) C dX4_away_176 (tgt := 188) rfl (fun xq2 => ?_) (fun xq2 => ?_)
    · have h := iP xq2 h
      refine g_iload (pc := 188) C dX4_away_188 5 rfl ?_
      exact rtI hr dX4_away_190 h
    · have h := iN xq2 h
      refine g_aload_n (pc := 179) C dX4_away_179 rfl 0 rfl ?_
      refine g_ldc (v := (-1000004)) (pc := 180) C dX4_away_180 wk_X4_151 ?_
      obtain ⟨xq5, h⟩ := iC h
      have xq5 := keq xq5
      obtain ⟨xr6, xσ3, xc4, h⟩ := iB h
      refine g_callVi (pc := 182) (As := [.int ((-1000004))]) (rest := []) C dX4_away_182 (fun l => c_X4_finding l y _ _ _ _ _ xc4) cv_X4_57 ⟨rfl, rfl, Nat.le_of_ble_eq_true rfl, Nat.le_of_ble_eq_true rfl⟩ (rv4 xq5) rfl (Nat.le_of_ble_eq_true rfl) ?_
      refine g_goto (pc := 185) C dX4_away_185 (tgt := 190) rfl ?_
      exact rtI hr dX4_away_190 h
  · have h := iN xq1 h
    refine g_iload (pc := 66) C dX4_away_66 6 rfl ?_
    refine g_iload (pc := 68) C dX4_away_68 4 rfl ?_
    refine g_iconst (v := (-1)) (pc := 70) C dX4_away_70 ci_m1 ?_
    refine g_ixor (pc := 71) C dX4_away_71 ?_
    refine g_iand (pc := 72) C dX4_away_72 ?_
    refine g_if_ne (pc := 73) C dX4_away_73 (tgt := 80) rfl (fun xq7 => ?_) (fun xq7 => ?_)
    · have h := iN xq7 h
      refine g_iconst (v := 0) (pc := 80) C dX4_away_80 ci_0 ?_
      exact b_X4_away_81 C hr xk_59 xH59 xa0 xa1 xa2 xa3 xa4 xa5 xa6 0 σ h
    · have h := iP xq7 h
      refine g_iconst (v := 1) (pc := 76) C dX4_away_76 ci_1 ?_
      refine g_goto (pc := 77) C dX4_away_77 (tgt := 81) rfl ?_
      exact b_X4_away_81 C hr xk_59 xH59 xa0 xa1 xa2 xa3 xa4 xa5 xa6 1 σ h
theorem l_X4_away_59 {x : XT} {y : YT} {Z : State → Prop} (C : Cx x y (AY y) RX4 cX4_away 9 rm_X4_away) {r : Int32} {σ' : Sto} (hr : RetI x y (AY y) 9 cX4_away Z r σ') (n : Nat) (xa0 : Nat) (xa1 : Int32) (xa2 : Int32) (xa3 : Int32) (xa4 : Int32) (xa5 : Int32) (xa6 : Int32) (σ : Sto) (h : lo7 (F_X4_away_b59) n xa0 xa1 xa2 xa3 xa4 xa5 xa6 σ = some (r, σ')) : GW x y (AY y) 9 Z 59 [(0, .ref (yad y (xa0))), (1, .int (xa1)), (2, .int (xa2)), (3, .int (xa3)), (4, .int (xa4)), (5, .int (xa5)), (6, .int (xa6))] [] σ :=
  lo7_gw (G := fun xa0 xa1 xa2 xa3 xa4 xa5 xa6 σ => GW x y (AY y) 9 Z 59 [(0, .ref (yad y (xa0))), (1, .int (xa1)), (2, .int (xa2)), (3, .int (xa3)), (4, .int (xa4)), (5, .int (xa5)), (6, .int (xa6))] [] σ) (fun xk xHk xa0 xa1 xa2 xa3 xa4 xa5 xa6 σ h => b_X4_away_59 C hr xk xHk xa0 xa1 xa2 xa3 xa4 xa5 xa6 σ h) n xa0 xa1 xa2 xa3 xa4 xa5 xa6 σ h
set_option maxHeartbeats 4000000 in
set_option maxRecDepth 20000 in
theorem b_X4_away_0 {x : XT} {y : YT} {Z : State → Prop} (C : Cx x y (AY y) RX4 cX4_away 9 rm_X4_away) {r : Int32} {σ' : Sto} (hr : RetI x y (AY y) 9 cX4_away Z r σ') (xa0 : Nat) (xa1 : Int32) (xa2 : Int32) (xa3 : Int32) (σ : Sto) (h : F_X4_away xa0 xa1 xa2 xa3 σ = some (r, σ')) : GW x y (AY y) 9 Z 0 [(0, .ref (yad y (xa0))), (1, .int (xa1)), (2, .int (xa2)), (3, .int (xa3))] [] σ := by
  unfold F_X4_away at h
  refine g_aload_n (pc := 0) C dX4_away_0 rfl 0 rfl ?_
  obtain ⟨xq1, h⟩ := iC h
  have xq1 := keq xq1
  refine gf_4_0 (pc := 1) C wf_X4_10 dX4_away_1 xq1 ?_
  refine g_iload_n (pc := 4) C dX4_away_4 rfl 1 rfl ?_
  obtain ⟨xr4, xσ2, xc3, h⟩ := iB h
  refine g_callVi (pc := 5) (As := [.int (xa1)]) (rest := []) C dX4_away_5 (fun l => c_X0_isSitter l y _ _ _ _ _ xc3) cv_X4_137 ⟨rfl, rfl, Nat.le_of_ble_eq_true rfl, Nat.le_of_ble_eq_true rfl⟩ (rv0 rfl) rfl (Nat.le_of_ble_eq_true rfl) ?_
  refine g_if_eq (pc := 8) C dX4_away_8 (tgt := 31) rfl (fun xq5 => ?_) (fun xq5 => ?_)
  · have h := iP xq5 h
    refine g_aload_n (pc := 31) C dX4_away_31 rfl 0 rfl ?_
    refine g_ldc (v := (-1000001)) (pc := 32) C dX4_away_32 wk_X4_56 ?_
    obtain ⟨xr8, xσ6, xc7, h⟩ := iB h
    refine g_callVi (pc := 34) (As := [.int ((-1000001))]) (rest := []) C dX4_away_34 (fun l => c_X4_finding l y _ _ _ _ _ xc7) cv_X4_57 ⟨rfl, rfl, Nat.le_of_ble_eq_true rfl, Nat.le_of_ble_eq_true rfl⟩ (rv4 xq1) rfl (Nat.le_of_ble_eq_true rfl) ?_
    exact rtI hr dX4_away_37 h
  · have h := iN xq5 h
    refine g_iload_n (pc := 11) C dX4_away_11 rfl 2 rfl ?_
    refine g_iconst (v := 5) (pc := 12) C dX4_away_12 ci_5 ?_
    obtain ⟨xr11, xσ9, xc10, h⟩ := iB h
    refine g_callSi (pc := 13) (As := [.int (5)]) (rest := [.int (xa2)]) C dX4_away_13 (fun l => c_X2_mostOf l y _ _ _ _ xc10) cv_X4_79 ⟨rfl, rfl, Nat.le_of_ble_eq_true rfl, Nat.le_of_ble_eq_true rfl⟩ rfl (Nat.le_of_ble_eq_true rfl) ?_
    obtain ⟨xr14, xσ12, xc13, h⟩ := iB h
    refine g_callSi (pc := 16) (As := [.int (xa2), .int (xr11)]) (rest := []) C dX4_away_16 (fun l => c_X4_isWithin l y _ _ _ _ _ xc13) cv_X4_52 ⟨rfl, rfl, Nat.le_of_ble_eq_true rfl, Nat.le_of_ble_eq_true rfl⟩ rfl (Nat.le_of_ble_eq_true rfl) ?_
    refine g_if_eq (pc := 19) C dX4_away_19 (tgt := 31) rfl (fun xq15 => ?_) (fun xq15 => ?_)
    · have h := iP xq15 h
      refine g_aload_n (pc := 31) C dX4_away_31 rfl 0 rfl ?_
      refine g_ldc (v := (-1000001)) (pc := 32) C dX4_away_32 wk_X4_56 ?_
      obtain ⟨xr18, xσ16, xc17, h⟩ := iB h
      refine g_callVi (pc := 34) (As := [.int ((-1000001))]) (rest := []) C dX4_away_34 (fun l => c_X4_finding l y _ _ _ _ _ xc17) cv_X4_57 ⟨rfl, rfl, Nat.le_of_ble_eq_true rfl, Nat.le_of_ble_eq_true rfl⟩ (rv4 xq1) rfl (Nat.le_of_ble_eq_true rfl) ?_
      exact rtI hr dX4_away_37 h
    · have h := iN xq15 h
      refine g_iload_n (pc := 22) C dX4_away_22 rfl 3 rfl ?_
      refine g_bipush (v := 20) (pc := 23) C dX4_away_23 cb_20 ?_
      obtain ⟨xr21, xσ19, xc20, h⟩ := iB h
      refine g_callSi (pc := 25) (As := [.int (xa3), .int (20)]) (rest := []) C dX4_away_25 (fun l => c_X4_isWithin l y _ _ _ _ _ xc20) cv_X4_52 ⟨rfl, rfl, Nat.le_of_ble_eq_true rfl, Nat.le_of_ble_eq_true rfl⟩ rfl (Nat.le_of_ble_eq_true rfl) ?_
      refine g_if_ne (pc := 28) C dX4_away_28 (tgt := 38) rfl (fun xq22 => ?_) (fun xq22 => ?_)
      · have h := iN xq22 h
        refine g_aload_n (pc := 38) C dX4_away_38 rfl 0 rfl ?_
        refine gf_4_0 (pc := 39) C wf_X4_10 dX4_away_39 xq1 ?_
        obtain ⟨xr25, xσ23, xc24, h⟩ := iB h
        refine g_callVi (pc := 42) (As := []) (rest := []) C dX4_away_42 (fun l => c_X0_sitterSet l y _ _ _ _ xc24) cv_X4_171 ⟨rfl, rfl, Nat.le_of_ble_eq_true rfl, Nat.le_of_ble_eq_true rfl⟩ (rv0 rfl) rfl (Nat.le_of_ble_eq_true rfl) ?_
        refine g_iconst (v := 1) (pc := 45) C dX4_away_45 ci_1 ?_
        refine g_iload_n (pc := 46) C dX4_away_46 rfl 1 rfl ?_
        refine g_ishl (pc := 47) C dX4_away_47 ?_
        refine g_iconst (v := (-1)) (pc := 48) C dX4_away_48 ci_m1 ?_
        refine g_ixor (pc := 49) C dX4_away_49 ?_
        refine g_iand (pc := 50) C dX4_away_50 ?_
        refine g_letI h (fun xv26 h => ?_)
        refine g_istore (i := 4) (lv' := [(4, .int (xv26)), (0, .ref (yad y (xa0))), (1, .int (xa1)), (2, .int (xa2)), (3, .int (xa3))]) (pc := 51) C dX4_away_51 (Nat.le_of_ble_eq_true rfl) rfl ?_
        refine g_iconst (v := (-1)) (pc := 53) C dX4_away_53 ci_m1 ?_
        refine g_istore (i := 5) (lv' := [(5, .int ((-1))), (4, .int (xv26)), (0, .ref (yad y (xa0))), (1, .int (xa1)), (2, .int (xa2)), (3, .int (xa3))]) (pc := 54) C dX4_away_54 (Nat.le_of_ble_eq_true rfl) rfl ?_
        refine g_iconst (v := 0) (pc := 56) C dX4_away_56 ci_0 ?_
        refine g_istore (i := 6) (lv' := [(6, .int (0)), (5, .int ((-1))), (4, .int (xv26)), (0, .ref (yad y (xa0))), (1, .int (xa1)), (2, .int (xa2)), (3, .int (xa3))]) (pc := 57) C dX4_away_57 (Nat.le_of_ble_eq_true rfl) rfl ?_
        refine g_sub (lv' := [(0, .ref (yad y (xa0))), (1, .int (xa1)), (2, .int (xa2)), (3, .int (xa3)), (4, .int (xv26)), (5, .int ((-1))), (6, .int (0))]) C [3, 4, 5, 6, 2, 1, 0] rfl ?_
        exact l_X4_away_59 C hr 1000 xa0 xa1 xa2 xa3 xv26 (-1) 0 xσ23 h
      · have h := iP xq22 h
        refine g_aload_n (pc := 31) C dX4_away_31 rfl 0 rfl ?_
        refine g_ldc (v := (-1000001)) (pc := 32) C dX4_away_32 wk_X4_56 ?_
        obtain ⟨xr29, xσ27, xc28, h⟩ := iB h
        refine g_callVi (pc := 34) (As := [.int ((-1000001))]) (rest := []) C dX4_away_34 (fun l => c_X4_finding l y _ _ _ _ _ xc28) cv_X4_57 ⟨rfl, rfl, Nat.le_of_ble_eq_true rfl, Nat.le_of_ble_eq_true rfl⟩ (rv4 xq1) rfl (Nat.le_of_ble_eq_true rfl) ?_
        exact rtI hr dX4_away_37 h
theorem c_X4_away (l : Launch) (y : YT) (xa0 : Nat) (xa1 : Int32) (xa2 : Int32) (xa3 : Int32) (σ σ' : Sto) (r : Int32) (h : F_X4_away xa0 xa1 xa2 xa3 σ = some (r, σ')) : MI l y yX4_away (Cond.code yX4_away cX4_away 9 (some .int) :: TT) rm_X4_away [.ref (yad y (xa0)), .int (xa1), .int (xa2), .int (xa3)] σ r σ' :=
  mkI (by decide) rfl rfl rfl (Nat.le_of_ble_eq_true rfl) (fun x Z C hr => b_X4_away_0 C hr xa0 xa1 xa2 xa3 σ h)
def rm_X4_sheetAt : Room := { frames := 0, cells := 0, slots := 0, locals := 0 }
def F_X4_sheetAt (xa0 : Nat) (xa1 : Int32) (σ : Sto) : Option (Option Nat × Sto) := if (xa1) < 0 then some (none, σ) else if 4 ≤ xa1 then some (none, σ) else ck (kd (xa0) == 4) (ck (inr (xa1) (4)) (some (some (40 + 2 * xa1.toNatClampNeg), σ)))
set_option maxHeartbeats 4000000 in
set_option maxRecDepth 20000 in
theorem b_X4_sheetAt_0 {x : XT} {y : YT} {Z : State → Prop} (C : Cx x y (AY y) RX4 cX4_sheetAt 2 rm_X4_sheetAt) {r : Option Nat} {σ' : Sto} (hr : RetQ x y (AY y) 2 cX4_sheetAt Z r σ') (xa0 : Nat) (xa1 : Int32) (σ : Sto) (h : F_X4_sheetAt xa0 xa1 σ = some (r, σ')) : GW x y (AY y) 2 Z 0 [(0, .ref (yad y (xa0))), (1, .int (xa1))] [] σ := by
  unfold F_X4_sheetAt at h
  refine g_iload_n (pc := 0) C dX4_sheetAt_0 rfl 1 rfl ?_
  refine g_if_lt (pc := 1) C dX4_sheetAt_1 (tgt := 18) rfl (fun xq1 => ?_) (fun xq1 => ?_)
  · have h := iP xq1 h
    refine g_null (pc := 18) C dX4_sheetAt_18 ?_
    exact rtQ (v := none) hr dX4_sheetAt_19 h
  · have h := iN xq1 h
    refine g_iload_n (pc := 4) C dX4_sheetAt_4 rfl 1 rfl ?_
    refine g_iconst (v := 4) (pc := 5) C dX4_sheetAt_5 ci_4 ?_
    refine g_icmp_ge (pc := 6) C dX4_sheetAt_6 (tgt := 18) rfl (fun xq2 => ?_) (fun xq2 => ?_)
    · have h := iP xq2 h
      refine g_null (pc := 18) C dX4_sheetAt_18 ?_
      exact rtQ (v := none) hr dX4_sheetAt_19 h
    · have h := iN xq2 h
      refine g_aload_n (pc := 9) C dX4_sheetAt_9 rfl 0 rfl ?_
      obtain ⟨xq3, h⟩ := iC h
      have xq3 := keq xq3
      refine gf_4_5 (pc := 10) C wf_X4_35 dX4_sheetAt_10 xq3 ?_
      refine g_iload_n (pc := 13) C dX4_sheetAt_13 rfl 1 rfl ?_
      obtain ⟨xq4, h⟩ := iC h
      refine g_aald8 (pc := 14) C dX4_sheetAt_14 rfl (ivp xq4 rfl) ?_
      refine g_goto (pc := 15) C dX4_sheetAt_15 (tgt := 19) rfl ?_
      exact rtQ (v := (some (40 + 2 * xa1.toNatClampNeg))) hr dX4_sheetAt_19 h
theorem c_X4_sheetAt (l : Launch) (y : YT) (xa0 : Nat) (xa1 : Int32) (σ σ' : Sto) (r : Option Nat) (h : F_X4_sheetAt xa0 xa1 σ = some (r, σ')) : MQ' l y yX4_sheetAt (Cond.code yX4_sheetAt cX4_sheetAt 2 (some (.object "BoothFlash$Sheet")) :: TT) rm_X4_sheetAt [.ref (yad y (xa0)), .int (xa1)] σ r σ' :=
  mkQ (by decide) rfl rfl rfl (Nat.le_of_ble_eq_true rfl) (fun x Z C hr => b_X4_sheetAt_0 C hr xa0 xa1 σ h)
def rm_X4_refusalFor : Room := { frames := 1, cells := 0, slots := 0, locals := 20 }
def F_X4_refusalFor (xa0 : Option Nat) (σ : Sto) : Option (Int32 × Sto) := ocase xa0 (some ((-1000001), σ)) (fun xk1 => ck (kd (xk1) == 1) (bnd (F_X1_isMissing (xk1) σ) (fun xr5 xσ2 => if (xr5) = 0 then some ((-1000001), xσ2) else some ((-1000006), xσ2))))
set_option maxHeartbeats 4000000 in
set_option maxRecDepth 20000 in
theorem b_X4_refusalFor_0 {x : XT} {y : YT} {Z : State → Prop} (C : Cx x y (AY y) RX4 cX4_refusalFor 1 rm_X4_refusalFor) {r : Int32} {σ' : Sto} (hr : RetI x y (AY y) 1 cX4_refusalFor Z r σ') (xa0 : Option Nat) (σ : Sto) (h : F_X4_refusalFor xa0 σ = some (r, σ')) : GW x y (AY y) 1 Z 0 [(0, nv y xa0)] [] σ := by
  unfold F_X4_refusalFor at h
  refine g_naload_n (pc := 0) C dX4_refusalFor_0 rfl 0 rfl ?_
  refine g_ifnull (pc := 1) C dX4_refusalFor_1 (tgt := 16) rfl (fun xq7 => ?_) (fun xk1 xq7 => ?_)
  · subst xq7
    have h := iO0 h
    refine g_ldc (v := (-1000001)) (pc := 16) C dX4_refusalFor_16 wk_X4_56 ?_
    exact rtI hr dX4_refusalFor_18 h
  · subst xq7
    have h := iO1 h
    refine g_aload_n (pc := 4) C dX4_refusalFor_4 rfl 0 rfl ?_
    obtain ⟨xq4, h⟩ := iC h
    have xq4 := keq xq4
    obtain ⟨xr5, xσ2, xc3, h⟩ := iB h
    refine g_callVi (pc := 5) (As := []) (rest := []) C dX4_refusalFor_5 (fun l => c_X1_isMissing l y _ _ _ _ xc3) cv_X4_181 ⟨rfl, rfl, Nat.le_of_ble_eq_true rfl, Nat.le_of_ble_eq_true rfl⟩ (rv1 xq4) rfl (Nat.le_of_ble_eq_true rfl) ?_
    refine g_if_eq (pc := 8) C dX4_refusalFor_8 (tgt := 16) rfl (fun xq6 => ?_) (fun xq6 => ?_)
    · have h := iP xq6 h
      refine g_ldc (v := (-1000001)) (pc := 16) C dX4_refusalFor_16 wk_X4_56 ?_
      exact rtI hr dX4_refusalFor_18 h
    · have h := iN xq6 h
      refine g_ldc (v := (-1000006)) (pc := 11) C dX4_refusalFor_11 wk_X4_224 ?_
      refine g_goto (pc := 13) C dX4_refusalFor_13 (tgt := 18) rfl ?_
      exact rtI hr dX4_refusalFor_18 h
theorem c_X4_refusalFor (l : Launch) (y : YT) (xa0 : Option Nat) (σ σ' : Sto) (r : Int32) (h : F_X4_refusalFor xa0 σ = some (r, σ')) : MI l y yX4_refusalFor (Cond.code yX4_refusalFor cX4_refusalFor 1 (some .int) :: TT) rm_X4_refusalFor [nv y xa0] σ r σ' :=
  mkI (by decide) rfl rfl rfl (by cases xa0 <;> exact Nat.le_of_ble_eq_true rfl) (fun x Z C hr => b_X4_refusalFor_0 C hr xa0 σ h)

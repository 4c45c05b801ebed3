/-! methods, by program: what each does to the store (F_), its walk (b_), its contract (c_): X4_odds, X4_seed, X4_feed, X4_wipe, X4_text, X4_hold, X4_as, X4_sheet, X4_write, X4_copy, X4_load, X4_judge, X4_image, X4_undo -/
def rm_X4_odds : Room := { frames := 4, cells := 0, slots := 0, locals := 109 }
def F_X4_odds_b61 (xk_61 : Int32 → Int32 → Int32 → Int32 → Int32 → Sto → Option (Int64 × Sto)) (xa3 : Int32) (xa4 : Int32) (xa5 : Int32) (xa6 : Int32) (xa7 : Int32) (σ : Sto) : Option (Int64 × Sto) := if xa7 ≤ 1 then if (xa4) = 0 then bnd (F_X4_power (xa5) (xa3) σ) (fun xr8 xσ6 => some (xr8, xσ6)) else bnd (F_X4_power (xa6) (xa3) σ) (fun xr5 xσ3 => some (xr5, xσ3)) else ck (nz (xa7)) (if (irm xa5 xa7) = 0 then ck (nz (xa7)) (if (irm xa6 xa7) = 0 then ck (nz (xa7)) (lti (xa5 / xa7) (fun xv14 => ck (nz (xa7)) (lti (xa6 / xa7) (fun xv16 => xk_61 xa3 xa4 xv14 xv16 (xa7 + (-1)) σ)))) else xk_61 xa3 xa4 xa5 xa6 (xa7 + (-1)) σ) else xk_61 xa3 xa4 xa5 xa6 (xa7 + (-1)) σ)
def F_X4_odds (xa0 : Nat) (xa1 : Int32) (xa2 : Int32) (xa3 : Int32) (xa4 : Int32) (σ : Sto) : Option (Int64 × Sto) := ck (kd (xa0) == 4) (bnd (F_X0_isSitter (1) (xa1) σ) (fun xr4 xσ2 => if (xr4) = 0 then bnd (F_X4_finding (xa0) (-1000001) xσ2) (fun xr8 xσ6 => some ((xr8 : Int32).toInt64, xσ6)) else bnd (F_X4_isWithin (xa2) 3 xσ2) (fun xr11 xσ9 => if (xr11) = 0 then bnd (F_X4_finding (xa0) (-1000001) xσ9) (fun xr15 xσ13 => some ((xr15 : Int32).toInt64, xσ13)) else bnd (F_X4_isWithin (xa3) 18 xσ9) (fun xr18 xσ16 => if (xr18) = 0 then bnd (F_X4_finding (xa0) (-1000001) xσ16) (fun xr22 xσ20 => some ((xr22 : Int32).toInt64, xσ20)) else bnd (F_X4_isWithin (xa4) 1 xσ16) (fun xr25 xσ23 => if (xr25) = 0 then bnd (F_X4_finding (xa0) (-1000001) xσ23) (fun xr32 xσ30 => some ((xr32 : Int32).toInt64, xσ30)) else bnd (F_X4_lightsWithoutFaults (xa0) (xa1) (xa2) xσ23) (fun xr29 xσ27 => lo5 (F_X4_odds_b61) 1000 xa3 xa4 xr29 10 10 xσ27))))))
set_option maxHeartbeats 4000000 in
set_option maxRecDepth 20000 in
theorem b_X4_odds_61 {x : XT} {y : YT} {Z : State → Prop} (C : Cx x y (AY y) RX4 cX4_odds 8 rm_X4_odds) {r : Int64} {σ' : Sto} (hr : RetL x y (AY y) 8 cX4_odds Z r σ') (xk_61 : Int32 → Int32 → Int32 → Int32 → Int32 → Sto → Option (Int64 × Sto)) (xH61 : ∀ (xa3 : Int32) (xa4 : Int32) (xa5 : Int32) (xa6 : Int32) (xa7 : Int32) (σ : Sto), xk_61 xa3 xa4 xa5 xa6 xa7 σ = some (r, σ') → GW x y (AY y) 8 Z 61 [(3, .int (xa3)), (4, .int (xa4)), (5, .int (xa5)), (6, .int (xa6)), (7, .int (xa7))] [] σ) (xa3 : Int32) (xa4 : Int32) (xa5 : Int32) (xa6 : Int32) (xa7 : Int32) (σ : Sto) (h : F_X4_odds_b61 xk_61 xa3 xa4 xa5 xa6 xa7 σ = some (r, σ')) : GW x y (AY y) 8 Z 61 [(3, .int (xa3)), (4, .int (xa4)), (5, .int (xa5)), (6, .int (xa6)), (7, .int (xa7))] [] σ := by
  unfold F_X4_odds_b61 at h
  refine g_iload (pc := 61) C dX4_odds_61 4 rfl ?_
  refine g_iconst (v := 1) (pc := 63) C dX4_odds_63 ci_1 ?_
  refine g_icmp_le (pc := 64) C dX4_odds_64 (tgt := 103) rfl (fun xq1 => ?_) (fun xq1 => ?_)
  · have h := iP xq1 h
    refine g_iload (pc := 103) C dX4_odds_103 1 rfl ?_
    refine g_if_ne (pc := 105) C dX4_odds_105 (tgt := 113) rfl (fun xq2 => ?_) (fun xq2 => ?_)
    · have h := iN xq2 h
      refine g_iload (pc := 113) C dX4_odds_113 3 rfl ?_
      refine g_iload_n (pc := 115) C dX4_odds_115 rfl 0 rfl ?_
      obtain ⟨xr5, xσ3, xc4, h⟩ := iB h
      refine g_callSl (pc := 116) (As := [.int (xa6), .int (xa3)]) (rest := []) C dX4_odds_116 (fun l => c_X4_power l y _ _ _ _ _ xc4) cv_X4_201 ⟨rfl, rfl, Nat.le_of_ble_eq_true rfl, Nat.le_of_ble_eq_true rfl⟩ rfl (Nat.le_of_ble_eq_true rfl) ?_
      exact rtL hr dX4_odds_119 h
    · have h := iP xq2 h
      refine g_iload (pc := 108) C dX4_odds_108 2 rfl ?_
      refine g_goto (pc := 110) C dX4_odds_110 (tgt := 115) rfl ?_
      refine g_iload_n (pc := 115) C dX4_odds_115 rfl 0 rfl ?_
      obtain ⟨xr8, xσ6, xc7, h⟩ := iB h
      refine g_callSl (pc := 116) (As := [.int (xa5), .int (xa3)]) (rest := []) C dX4_odds_116 (fun l => c_X4_power l y _ _ _ _ _ xc7) cv_X4_201 ⟨rfl, rfl, Nat.le_of_ble_eq_true rfl, Nat.le_of_ble_eq_true rfl⟩ rfl (Nat.le_of_ble_eq_true rfl) ?_
      exact rtL hr dX4_odds_119 h
  · have h := iN xq1 h
    refine g_iload (pc := 67) C dX4_odds_67 2 rfl ?_
    refine g_iload (pc := 69) C dX4_odds_69 4 rfl ?_
    obtain ⟨xq9, h⟩ := iC h
    refine g_irem (pc := 71) C dX4_odds_71 (nz_ne xq9) ?_
    refine g_if_ne (pc := 72) C dX4_odds_72 (tgt := 97) rfl (fun xq10 => ?_) (fun xq10 => ?_)
    · have h := iN xq10 h
      refine g_iinc (lv' := [(7, .int (xa7 + (-1))), (3, .int (xa3)), (4, .int (xa4)), (5, .int (xa5)), (6, .int (xa6))]) (w := xa7 + (-1)) (pc := 97) C dX4_odds_97 (k := 4) rfl rfl (Nat.le_of_ble_eq_true rfl) rfl ?_
      refine g_goto (pc := 100) C dX4_odds_100 (tgt := 61) rfl ?_
      refine g_sub (lv' := [(3, .int (xa3)), (4, .int (xa4)), (5, .int (xa5)), (6, .int (xa6)), (7, .int (xa7 + (-1)))]) C [1, 2, 3, 4, 0] rfl ?_
      exact xH61 xa3 xa4 xa5 xa6 (xa7 + (-1)) σ h
    · have h := iP xq10 h
      refine g_iload (pc := 75) C dX4_odds_75 3 rfl ?_
      refine g_iload (pc := 77) C dX4_odds_77 4 rfl ?_
      obtain ⟨xq11, h⟩ := iC h
      refine g_irem (pc := 79) C dX4_odds_79 (nz_ne xq11) ?_
      refine g_if_ne (pc := 80) C dX4_odds_80 (tgt := 97) rfl (fun xq12 => ?_) (fun xq12 => ?_)
      · have h := iN xq12 h
        refine g_iinc (lv' := [(7, .int (xa7 + (-1))), (3, .int (xa3)), (4, .int (xa4)), (5, .int (xa5)), (6, .int (xa6))]) (w := xa7 + (-1)) (pc := 97) C dX4_odds_97 (k := 4) rfl rfl (Nat.le_of_ble_eq_true rfl) rfl ?_
        refine g_goto (pc := 100) C dX4_odds_100 (tgt := 61) rfl ?_
        refine g_sub (lv' := [(3, .int (xa3)), (4, .int (xa4)), (5, .int (xa5)), (6, .int (xa6)), (7, .int (xa7 + (-1)))]) C [1, 2, 3, 4, 0] rfl ?_
        exact xH61 xa3 xa4 xa5 xa6 (xa7 + (-1)) σ h
      · have h := iP xq12 h
        refine g_iload (pc := 83) C dX4_odds_83 2 rfl ?_
        refine g_iload (pc := 85) C dX4_odds_85 4 rfl ?_
        obtain ⟨xq13, h⟩ := iC h
        refine g_idiv (pc := 87) C dX4_odds_87 (nz_ne xq13) ?_
        refine g_letI h (fun xv14 h => ?_)
        refine g_istore (i := 5) (lv' := [(5, .int (xv14)), (3, .int (xa3)), (4, .int (xa4)), (6, .int (xa6)), (7, .int (xa7))]) (pc := 88) C dX4_odds_88 (Nat.le_of_ble_eq_true rfl) rfl ?_
        refine g_iload (pc := 90) C dX4_odds_90 3 rfl ?_
        refine g_iload (pc := 92) C dX4_odds_92 4 rfl ?_
        obtain ⟨xq15, h⟩ := iC h
        refine g_idiv (pc := 94) C dX4_odds_94 (nz_ne xq15) ?_
        refine g_letI h (fun xv16 h => ?_)
        refine g_istore (i := 6) (lv' := [(6, .int (xv16)), (5, .int (xv14)), (3, .int (xa3)), (4, .int (xa4)), (7, .int (xa7))]) (pc := 95) C dX4_odds_95 (Nat.le_of_ble_eq_true rfl) rfl ?_
        refine g_iinc (lv' := [(7, .int (xa7 + (-1))), (6, .int (xv16)), (5, .int (xv14)), (3, .int (xa3)), (4, .int (xa4))]) (w := xa7 + (-1)) (pc := 97) C dX4_odds_97 (k := 4) rfl rfl (Nat.le_of_ble_eq_true rfl) rfl ?_
        refine g_goto (pc := 100) C dX4_odds_100 (tgt := 61) rfl ?_
        refine g_sub (lv' := [(3, .int (xa3)), (4, .int (xa4)), (5, .int (xv14)), (6, .int (xv16)), (7, .int (xa7 + (-1)))]) C [3, 4, 2, 1, 0] rfl ?_
        exact xH61 xa3 xa4 xv14 xv16 (xa7 + (-1)) σ h
theorem l_X4_odds_61 {x : XT} {y : YT} {Z : State → Prop} (C : Cx x y (AY y) RX4 cX4_odds 8 rm_X4_odds) {r : Int64} {σ' : Sto} (hr : RetL x y (AY y) 8 cX4_odds Z r σ') (n : Nat) (xa3 : Int32) (xa4 : Int32) (xa5 : Int32) (xa6 : Int32) (xa7 : Int32) (σ : Sto) (h : lo5 (F_X4_odds_b61) n xa3 xa4 xa5 xa6 xa7 σ = some (r, σ')) : GW x y (AY y) 8 Z 61 [(3, .int (xa3)), (4, .int (xa4)), (5, .int (xa5)), (6, .int (xa6)), (7, .int (xa7))] [] σ :=
  lo5_gw (G := fun xa3 xa4 xa5 xa6 xa7 σ => GW x y (AY y) 8 Z 61 [(3, .int (xa3)), (4, .int (xa4)), (5, .int (xa5)), (6, .int (xa6)), (7, .int (xa7))] [] σ) (fun xk xHk xa3 xa4 xa5 xa6 xa7 σ h => b_X4_odds_61 C hr xk xHk xa3 xa4 xa5 xa6 xa7 σ h) n xa3 xa4 xa5 xa6 xa7 σ h
set_option maxHeartbeats 4000000 in
set_option maxRecDepth 20000 in
theorem b_X4_odds_0 {x : XT} {y : YT} {Z : State → Prop} (C : Cx x y (AY y) RX4 cX4_odds 8 rm_X4_odds) {r : Int64} {σ' : Sto} (hr : RetL x y (AY y) 8 cX4_odds Z r σ') (xa0 : Nat) (xa1 : Int32) (xa2 : Int32) (xa3 : Int32) (xa4 : Int32) (σ : Sto) (h : F_X4_odds xa0 xa1 xa2 xa3 xa4 σ = some (r, σ')) : GW x y (AY y) 8 Z 0 [(0, .ref (yad y (xa0))), (1, .int (xa1)), (2, .int (xa2)), (3, .int (xa3)), (4, .int (xa4))] [] σ := by
  unfold F_X4_odds at h
  refine g_aload_n (pc := 0) C dX4_odds_0 rfl 0 rfl ?_
  obtain ⟨xq1, h⟩ := iC h
  have xq1 := keq xq1
  refine gf_4_0 (pc := 1) C wf_X4_10 dX4_odds_1 xq1 ?_
  refine g_iload_n (pc := 4) C dX4_odds_4 rfl 1 rfl ?_
  obtain ⟨xr4, xσ2, xc3, h⟩ := iB h
  refine g_callVi (pc := 5) (As := [.int (xa1)]) (rest := []) C dX4_odds_5 (fun l => c_X0_isSitter l y _ _ _ _ _ xc3) cv_X4_137 ⟨rfl, rfl, Nat.le_of_ble_eq_true rfl, Nat.le_of_ble_eq_true rfl⟩ (rv0 rfl) rfl (Nat.le_of_ble_eq_true rfl) ?_
  refine g_if_eq (pc := 8) C dX4_odds_8 (tgt := 37) rfl (fun xq5 => ?_) (fun xq5 => ?_)
  · have h := iP xq5 h
    refine g_aload_n (pc := 37) C dX4_odds_37 rfl 0 rfl ?_
    refine g_ldc (v := (-1000001)) (pc := 38) C dX4_odds_38 wk_X4_56 ?_
    obtain ⟨xr8, xσ6, xc7, h⟩ := iB h
    refine g_callVi (pc := 40) (As := [.int ((-1000001))]) (rest := []) C dX4_odds_40 (fun l => c_X4_finding l y _ _ _ _ _ xc7) cv_X4_57 ⟨rfl, rfl, Nat.le_of_ble_eq_true rfl, Nat.le_of_ble_eq_true rfl⟩ (rv4 xq1) rfl (Nat.le_of_ble_eq_true rfl) ?_
    refine g_i2l (pc := 43) C dX4_odds_43 ?_
    exact rtL hr dX4_odds_44 h
  · have h := iN xq5 h
    refine g_iload_n (pc := 11) C dX4_odds_11 rfl 2 rfl ?_
    refine g_iconst (v := 3) (pc := 12) C dX4_odds_12 ci_3 ?_
    obtain ⟨xr11, xσ9, xc10, h⟩ := iB h
    refine g_callSi (pc := 13) (As := [.int (xa2), .int (3)]) (rest := []) C dX4_odds_13 (fun l => c_X4_isWithin l y _ _ _ _ _ xc10) cv_X4_52 ⟨rfl, rfl, Nat.le_of_ble_eq_true rfl, Nat.le_of_ble_eq_true rfl⟩ rfl (Nat.le_of_ble_eq_true rfl) ?_
    refine g_if_eq (pc := 16) C dX4_odds_16 (tgt := 37) rfl (fun xq12 => ?_) (fun xq12 => ?_)
    · have h := iP xq12 h
      refine g_aload_n (pc := 37) C dX4_odds_37 rfl 0 rfl ?_
      refine g_ldc (v := (-1000001)) (pc := 38) C dX4_odds_38 wk_X4_56 ?_
      obtain ⟨xr15, xσ13, xc14, h⟩ := iB h
      refine g_callVi (pc := 40) (As := [.int ((-1000001))]) (rest := []) C dX4_odds_40 (fun l => c_X4_finding l y _ _ _ _ _ xc14) cv_X4_57 ⟨rfl, rfl, Nat.le_of_ble_eq_true rfl, Nat.le_of_ble_eq_true rfl⟩ (rv4 xq1) rfl (Nat.le_of_ble_eq_true rfl) ?_
      refine g_i2l (pc := 43) C dX4_odds_43 ?_
      exact rtL hr dX4_odds_44 h
    · have h := iN xq12 h
      refine g_iload_n (pc := 19) C dX4_odds_19 rfl 3 rfl ?_
      refine g_bipush (v := 18) (pc := 20) C dX4_odds_20 cb_18 ?_
      obtain ⟨xr18, xσ16, xc17, h⟩ := iB h
      refine g_callSi (pc := 22) (As := [.int (xa3), .int (18)]) (rest := []) C dX4_odds_22 (fun l => c_X4_isWithin l y _ _ _ _ _ xc17) cv_X4_52 ⟨rfl, rfl, Nat.le_of_ble_eq_true rfl, Nat.le_of_ble_eq_true rfl⟩ rfl (Nat.le_of_ble_eq_true rfl) ?_
      refine g_if_eq (pc := 25) C dX4_odds_25 (tgt := 37) rfl (fun xq19 => ?_) (fun xq19 => ?_)
      · have h := iP xq19 h
        refine g_aload_n (pc := 37) C dX4_odds_37 rfl 0 rfl ?_
        refine g_ldc (v := (-1000001)) (pc := 38) C dX4_odds_38 wk_X4_56 ?_
        obtain ⟨xr22, xσ20, xc21, h⟩ := iB h
        refine g_callVi (pc := 40) (As := [.int ((-1000001))]) (rest := []) C dX4_odds_40 (fun l => c_X4_finding l y _ _ _ _ _ xc21) cv_X4_57 ⟨rfl, rfl, Nat.le_of_ble_eq_true rfl, Nat.le_of_ble_eq_true rfl⟩ (rv4 xq1) rfl (Nat.le_of_ble_eq_true rfl) ?_
        refine g_i2l (pc := 43) C dX4_odds_43 ?_
        exact rtL hr dX4_odds_44 h
      · have h := iN xq19 h
        refine g_iload (pc := 28) C dX4_odds_28 4 rfl ?_
        refine g_iconst (v := 1) (pc := 30) C dX4_odds_30 ci_1 ?_
        obtain ⟨xr25, xσ23, xc24, h⟩ := iB h
        refine g_callSi (pc := 31) (As := [.int (xa4), .int (1)]) (rest := []) C dX4_odds_31 (fun l => c_X4_isWithin l y _ _ _ _ _ xc24) cv_X4_52 ⟨rfl, rfl, Nat.le_of_ble_eq_true rfl, Nat.le_of_ble_eq_true rfl⟩ rfl (Nat.le_of_ble_eq_true rfl) ?_
        refine g_if_ne (pc := 34) C dX4_odds_34 (tgt := 45) rfl (fun xq26 => ?_) (fun xq26 => ?_)
        · have h := iN xq26 h
          refine g_aload_n (pc := 45) C dX4_odds_45 rfl 0 rfl ?_
          refine g_iload_n (pc := 46) C dX4_odds_46 rfl 1 rfl ?_
          refine g_iload_n (pc := 47) C dX4_odds_47 rfl 2 rfl ?_
          obtain ⟨xr29, xσ27, xc28, h⟩ := iB h
          refine g_callVi (pc := 48) (As := [.int (xa1), .int (xa2)]) (rest := []) C dX4_odds_48 (fun l => c_X4_lightsWithoutFaults l y _ _ _ _ _ _ xc28) cv_X4_198 ⟨rfl, rfl, Nat.le_of_ble_eq_true rfl, Nat.le_of_ble_eq_true rfl⟩ (rv4 xq1) rfl (Nat.le_of_ble_eq_true rfl) ?_
          refine g_istore (i := 5) (lv' := [(5, .int (xr29)), (0, .ref (yad y (xa0))), (1, .int (xa1)), (2, .int (xa2)), (3, .int (xa3)), (4, .int (xa4))]) (pc := 51) C dX4_odds_51 (Nat.le_of_ble_eq_true rfl) rfl ?_
          refine g_bipush (v := 10) (pc := 53) C dX4_odds_53 cb_10 ?_
          refine g_istore (i := 6) (lv' := [(6, .int (10)), (5, .int (xr29)), (0, .ref (yad y (xa0))), (1, .int (xa1)), (2, .int (xa2)), (3, .int (xa3)), (4, .int (xa4))]) (pc := 55) C dX4_odds_55 (Nat.le_of_ble_eq_true rfl) rfl ?_
          refine g_bipush (v := 10) (pc := 57) C dX4_odds_57 cb_10 ?_
          refine g_istore (i := 7) (lv' := [(7, .int (10)), (6, .int (10)), (5, .int (xr29)), (0, .ref (yad y (xa0))), (1, .int (xa1)), (2, .int (xa2)), (3, .int (xa3)), (4, .int (xa4))]) (pc := 59) C dX4_odds_59 (Nat.le_of_ble_eq_true rfl) rfl ?_
          refine g_sub (lv' := [(3, .int (xa3)), (4, .int (xa4)), (5, .int (xr29)), (6, .int (10)), (7, .int (10))]) C [6, 7, 2, 1, 0] rfl ?_
          exact l_X4_odds_61 C hr 1000 xa3 xa4 xr29 10 10 xσ27 h
        · have h := iP xq26 h
          refine g_aload_n (pc := 37) C dX4_odds_37 rfl 0 rfl ?_
          refine g_ldc (v := (-1000001)) (pc := 38) C dX4_odds_38 wk_X4_56 ?_
          obtain ⟨xr32, xσ30, xc31, h⟩ := iB h
          refine g_callVi (pc := 40) (As := [.int ((-1000001))]) (rest := []) C dX4_odds_40 (fun l => c_X4_finding l y _ _ _ _ _ xc31) cv_X4_57 ⟨rfl, rfl, Nat.le_of_ble_eq_true rfl, Nat.le_of_ble_eq_true rfl⟩ (rv4 xq1) rfl (Nat.le_of_ble_eq_true rfl) ?_
          refine g_i2l (pc := 43) C dX4_odds_43 ?_
          exact rtL hr dX4_odds_44 h
theorem c_X4_odds (l : Launch) (y : YT) (xa0 : Nat) (xa1 : Int32) (xa2 : Int32) (xa3 : Int32) (xa4 : Int32) (σ σ' : Sto) (r : Int64) (h : F_X4_odds xa0 xa1 xa2 xa3 xa4 σ = some (r, σ')) : ML l y yX4_odds (Cond.code yX4_odds cX4_odds 8 (some .long) :: TT) rm_X4_odds [.ref (yad y (xa0)), .int (xa1), .int (xa2), .int (xa3), .int (xa4)] σ r σ' :=
  mkL (by decide) rfl rfl rfl (Nat.le_of_ble_eq_true rfl) (fun x Z C hr => b_X4_odds_0 C hr xa0 xa1 xa2 xa3 xa4 σ h)
def rm_X4_seed : Room := { frames := 0, cells := 0, slots := 0, locals := 0 }
def F_X4_seed (xa0 : Nat) (xa1 : Int32) (σ : Sto) : Option (Int32 × Sto) := ck (kd (xa0) == 4) (lti (σ 1 5) (fun xv2 => lts (up2 σ (1) 5 (xa1)) (fun xσ3 => some (xv2, xσ3))))
set_option maxHeartbeats 4000000 in
set_option maxRecDepth 20000 in
theorem b_X4_seed_0 {x : XT} {y : YT} {Z : State → Prop} (C : Cx x y (AY y) RX4 cX4_seed 3 rm_X4_seed) {r : Int32} {σ' : Sto} (hr : RetI x y (AY y) 3 cX4_seed Z r σ') (xa0 : Nat) (xa1 : Int32) (σ : Sto) (h : F_X4_seed xa0 xa1 σ = some (r, σ')) : GW x y (AY y) 3 Z 0 [(0, .ref (yad y (xa0))), (1, .int (xa1))] [] σ := by
  unfold F_X4_seed at h
  refine g_aload_n (pc := 0) C dX4_seed_0 rfl 0 rfl ?_
  obtain ⟨xq1, h⟩ := iC h
  have xq1 := keq xq1
  refine gf_4_0 (pc := 1) C wf_X4_10 dX4_seed_1 xq1 ?_
  refine gf_0_5 (pc := 4) C wf_X4_205 dX4_seed_4 rfl ?_
  refine g_letI h (fun xv2 h => ?_)
  refine g_istore_n (i := 2) (lv' := [(2, .int (xv2)), (0, .ref (yad y (xa0))), (1, .int (xa1))]) (pc := 7) C dX4_seed_7 rfl (Nat.le_of_ble_eq_true rfl) rfl ?_
  refine g_aload_n (pc := 8) C dX4_seed_8 rfl 1 rfl ?_
  refine gf_4_0 (pc := 9) C wf_X4_10 dX4_seed_9 xq1 ?_
  refine g_iload_n (pc := 12) C dX4_seed_12 rfl 2 rfl ?_
  refine gp_0_5 (pc := 13) C wf_X4_205 dX4_seed_13 rfl ?_
  refine g_letS h (fun xσ3 h => ?_)
  refine g_iload_n (pc := 16) C dX4_seed_16 rfl 0 rfl ?_
  exact rtI hr dX4_seed_17 h
theorem c_X4_seed (l : Launch) (y : YT) (xa0 : Nat) (xa1 : Int32) (σ σ' : Sto) (r : Int32) (h : F_X4_seed xa0 xa1 σ = some (r, σ')) : MI l y yX4_seed (Cond.code yX4_seed cX4_seed 3 (some .int) :: TT) rm_X4_seed [.ref (yad y (xa0)), .int (xa1)] σ r σ' :=
  mkI (by decide) rfl rfl rfl (Nat.le_of_ble_eq_true rfl) (fun x Z C hr => b_X4_seed_0 C hr xa0 xa1 σ h)
def rm_X4_feed : Room := { frames := 1, cells := 0, slots := 0, locals := 22 }
def F_X4_feed_b39 (xk_39 : Nat → Int32 → Int32 → Sto → Option (Int32 × Sto)) (xa0 : Nat) (xa1 : Int32) (xa3 : Int32) (σ : Sto) : Option (Int32 × Sto) := if (xa3) < 0 then ck (kd (xa0) == 4) (some (σ 37 1, σ)) else ck (kd (xa0) == 4) (bnd (F_X3_append (37) ((ius xa1 (8 * xa3)) &&& 255) σ) (fun xr6 xσ4 => xk_39 xa0 xa1 (xa3 + (-1)) xσ4))
def F_X4_feed (xa0 : Nat) (xa1 : Int32) (xa2 : Int32) (σ : Sto) : Option (Int32 × Sto) := if xa2 < 1 then ck (kd (xa0) == 4) (bnd (F_X4_finding (xa0) (-1000001) σ) (fun xr5 xσ2 => some (xr5, xσ2))) else if xa2 ≤ 4 then ck (kd (xa0) == 4) (bnd (F_X3_hasRoomFor (37) (xa2) σ) (fun xr10 xσ8 => if (xr10) = 0 then bnd (F_X4_finding (xa0) (-1000002) xσ8) (fun xr15 xσ13 => some (xr15, xσ13)) else lti (xa2 - 1) (fun xv12 => lo3 (F_X4_feed_b39) 1000 xa0 xa1 xv12 xσ8))) else ck (kd (xa0) == 4) (bnd (F_X4_finding (xa0) (-1000001) σ) (fun xr19 xσ16 => some (xr19, xσ16)))
set_option maxHeartbeats 4000000 in
set_option maxRecDepth 20000 in
theorem b_X4_feed_39 {x : XT} {y : YT} {Z : State → Prop} (C : Cx x y (AY y) RX4 cX4_feed 4 rm_X4_feed) {r : Int32} {σ' : Sto} (hr : RetI x y (AY y) 4 cX4_feed Z r σ') (xk_39 : Nat → Int32 → Int32 → Sto → Option (Int32 × Sto)) (xH39 : ∀ (xa0 : Nat) (xa1 : Int32) (xa3 : Int32) (σ : Sto), xk_39 xa0 xa1 xa3 σ = some (r, σ') → GW x y (AY y) 4 Z 39 [(0, .ref (yad y (xa0))), (1, .int (xa1)), (3, .int (xa3))] [] σ) (xa0 : Nat) (xa1 : Int32) (xa3 : Int32) (σ : Sto) (h : F_X4_feed_b39 xk_39 xa0 xa1 xa3 σ = some (r, σ')) : GW x y (AY y) 4 Z 39 [(0, .ref (yad y (xa0))), (1, .int (xa1)), (3, .int (xa3))] [] σ := by
  unfold F_X4_feed_b39 at h
  refine g_iload_n (pc := 39) C dX4_feed_39 rfl 2 rfl ?_
  refine g_if_lt (pc := 40) C dX4_feed_40 (tgt := 66) rfl (fun xq1 => ?_) (fun xq1 => ?_)
  · have h := iP xq1 h
    refine g_aload_n (pc := 66) C dX4_feed_66 rfl 0 rfl ?_
    obtain ⟨xq2, h⟩ := iC h
    have xq2 := keq xq2
    refine gf_4_4 (pc := 67) C wf_X4_29 dX4_feed_67 xq2 ?_
    refine gf_3_1 (pc := 70) C wf_X4_214 dX4_feed_70 rfl ?_
    exact rtI hr dX4_feed_73 h
  · have h := iN xq1 h
    refine g_aload_n (pc := 43) C dX4_feed_43 rfl 0 rfl ?_
    obtain ⟨xq3, h⟩ := iC h
    have xq3 := keq xq3
    refine gf_4_4 (pc := 44) C wf_X4_29 dX4_feed_44 xq3 ?_
    refine g_iload_n (pc := 47) C dX4_feed_47 rfl 1 rfl ?_
    refine g_bipush (v := 8) (pc := 48) C dX4_feed_48 cb_8 ?_
    refine g_iload_n (pc := 50) C dX4_feed_50 rfl 2 rfl ?_
    refine g_imul (pc := 51) C dX4_feed_51 ?_
    refine g_iushr (pc := 52) C dX4_feed_52 ?_
    refine g_sipush (v := 255) (pc := 53) C dX4_feed_53 cs_255 ?_
    refine g_iand (pc := 56) C dX4_feed_56 ?_
    obtain ⟨xr6, xσ4, xc5, h⟩ := iB h
    refine g_callVv (pc := 57) (As := [.int ((ius xa1 (8 * xa3)) &&& 255)]) (rest := []) C dX4_feed_57 (fun l => c_X3_append l y _ _ _ _ _ xc5) cv_X4_211 ⟨rfl, rfl, Nat.le_of_ble_eq_true rfl, Nat.le_of_ble_eq_true rfl⟩ (rv3 rfl) rfl (Nat.le_of_ble_eq_true rfl) ?_
    refine g_iinc (lv' := [(3, .int (xa3 + (-1))), (0, .ref (yad y (xa0))), (1, .int (xa1))]) (w := xa3 + (-1)) (pc := 60) C dX4_feed_60 (k := 2) rfl rfl (Nat.le_of_ble_eq_true rfl) rfl ?_
    refine g_goto (pc := 63) C dX4_feed_63 (tgt := 39) rfl ?_
    refine g_sub (lv' := [(0, .ref (yad y (xa0))), (1, .int (xa1)), (3, .int (xa3 + (-1)))]) C [1, 2, 0] rfl ?_
    exact xH39 xa0 xa1 (xa3 + (-1)) xσ4 h
theorem l_X4_feed_39 {x : XT} {y : YT} {Z : State → Prop} (C : Cx x y (AY y) RX4 cX4_feed 4 rm_X4_feed) {r : Int32} {σ' : Sto} (hr : RetI x y (AY y) 4 cX4_feed Z r σ') (n : Nat) (xa0 : Nat) (xa1 : Int32) (xa3 : Int32) (σ : Sto) (h : lo3 (F_X4_feed_b39) n xa0 xa1 xa3 σ = some (r, σ')) : GW x y (AY y) 4 Z 39 [(0, .ref (yad y (xa0))), (1, .int (xa1)), (3, .int (xa3))] [] σ :=
  lo3_gw (G := fun xa0 xa1 xa3 σ => GW x y (AY y) 4 Z 39 [(0, .ref (yad y (xa0))), (1, .int (xa1)), (3, .int (xa3))] [] σ) (fun xk xHk xa0 xa1 xa3 σ h => b_X4_feed_39 C hr xk xHk xa0 xa1 xa3 σ h) n xa0 xa1 xa3 σ h
set_option maxHeartbeats 4000000 in
set_option maxRecDepth 20000 in
theorem b_X4_feed_0 {x : XT} {y : YT} {Z : State → Prop} (C : Cx x y (AY y) RX4 cX4_feed 4 rm_X4_feed) {r : Int32} {σ' : Sto} (hr : RetI x y (AY y) 4 cX4_feed Z r σ') (xa0 : Nat) (xa1 : Int32) (xa2 : Int32) (σ : Sto) (h : F_X4_feed xa0 xa1 xa2 σ = some (r, σ')) : GW x y (AY y) 4 Z 0 [(0, .ref (yad y (xa0))), (1, .int (xa1)), (2, .int (xa2))] [] σ := by
  unfold F_X4_feed at h
  refine g_iload_n (pc := 0) C dX4_feed_0 rfl 2 rfl ?_
  refine g_iconst (v := 1) (pc := 1) C dX4_feed_1 ci_1 ?_
  refine g_icmp_lt (pc := 2) C dX4_feed_2 (tgt := 10) rfl (fun xq1 => ?_) (fun xq1 => ?_)
  · have h := iP xq1 h
    refine g_aload_n (pc := 10) C dX4_feed_10 rfl 0 rfl ?_
    refine g_ldc (v := (-1000001)) (pc := 11) C dX4_feed_11 wk_X4_56 ?_
    obtain ⟨xq4, h⟩ := iC h
    have xq4 := keq xq4
    obtain ⟨xr5, xσ2, xc3, h⟩ := iB h
    refine g_callVi (pc := 13) (As := [.int ((-1000001))]) (rest := []) C dX4_feed_13 (fun l => c_X4_finding l y _ _ _ _ _ xc3) cv_X4_57 ⟨rfl, rfl, Nat.le_of_ble_eq_true rfl, Nat.le_of_ble_eq_true rfl⟩ (rv4 xq4) rfl (Nat.le_of_ble_eq_true rfl) ?_
    exact rtI hr dX4_feed_16 h
  · have h := iN xq1 h
    refine g_iload_n (pc := 5) C dX4_feed_5 rfl 2 rfl ?_
    refine g_iconst (v := 4) (pc := 6) C dX4_feed_6 ci_4 ?_
    refine g_icmp_le (pc := 7) C dX4_feed_7 (tgt := 17) rfl (fun xq6 => ?_) (fun xq6 => ?_)
    · have h := iP xq6 h
      refine g_aload_n (pc := 17) C dX4_feed_17 rfl 0 rfl ?_
      obtain ⟨xq7, h⟩ := iC h
      have xq7 := keq xq7
      refine gf_4_4 (pc := 18) C wf_X4_29 dX4_feed_18 xq7 ?_
      refine g_iload_n (pc := 21) C dX4_feed_21 rfl 2 rfl ?_
      obtain ⟨xr10, xσ8, xc9, h⟩ := iB h
      refine g_callVi (pc := 22) (As := [.int (xa2)]) (rest := []) C dX4_feed_22 (fun l => c_X3_hasRoomFor l y _ _ _ _ _ xc9) cv_X4_208 ⟨rfl, rfl, Nat.le_of_ble_eq_true rfl, Nat.le_of_ble_eq_true rfl⟩ (rv3 rfl) rfl (Nat.le_of_ble_eq_true rfl) ?_
      refine g_if_ne (pc := 25) C dX4_feed_25 (tgt := 35) rfl (fun xq11 => ?_) (fun xq11 => ?_)
      · have h := iN xq11 h
        refine g_iload_n (pc := 35) C dX4_feed_35 rfl 2 rfl ?_
        refine g_iconst (v := 1) (pc := 36) C dX4_feed_36 ci_1 ?_
        refine g_isub (pc := 37) C dX4_feed_37 ?_
        refine g_letI h (fun xv12 h => ?_)
        refine g_istore_n (i := 3) (lv' := [(3, .int (xv12)), (0, .ref (yad y (xa0))), (1, .int (xa1)), (2, .int (xa2))]) (pc := 38) C dX4_feed_38 rfl (Nat.le_of_ble_eq_true rfl) rfl ?_
        refine g_sub (lv' := [(0, .ref (yad y (xa0))), (1, .int (xa1)), (3, .int (xv12))]) C [1, 2, 0] rfl ?_
        exact l_X4_feed_39 C hr 1000 xa0 xa1 xv12 xσ8 h
      · have h := iP xq11 h
        refine g_aload_n (pc := 28) C dX4_feed_28 rfl 0 rfl ?_
        refine g_ldc (v := (-1000002)) (pc := 29) C dX4_feed_29 wk_X4_85 ?_
        obtain ⟨xr15, xσ13, xc14, h⟩ := iB h
        refine g_callVi (pc := 31) (As := [.int ((-1000002))]) (rest := []) C dX4_feed_31 (fun l => c_X4_finding l y _ _ _ _ _ xc14) cv_X4_57 ⟨rfl, rfl, Nat.le_of_ble_eq_true rfl, Nat.le_of_ble_eq_true rfl⟩ (rv4 xq7) rfl (Nat.le_of_ble_eq_true rfl) ?_
        exact rtI hr dX4_feed_34 h
    · have h := iN xq6 h
      refine g_aload_n (pc := 10) C dX4_feed_10 rfl 0 rfl ?_
      refine g_ldc (v := (-1000001)) (pc := 11) C dX4_feed_11 wk_X4_56 ?_
      obtain ⟨xq18, h⟩ := iC h
      have xq18 := keq xq18
      obtain ⟨xr19, xσ16, xc17, h⟩ := iB h
      refine g_callVi (pc := 13) (As := [.int ((-1000001))]) (rest := []) C dX4_feed_13 (fun l => c_X4_finding l y _ _ _ _ _ xc17) cv_X4_57 ⟨rfl, rfl, Nat.le_of_ble_eq_true rfl, Nat.le_of_ble_eq_true rfl⟩ (rv4 xq18) rfl (Nat.le_of_ble_eq_true rfl) ?_
      exact rtI hr dX4_feed_16 h
theorem c_X4_feed (l : Launch) (y : YT) (xa0 : Nat) (xa1 : Int32) (xa2 : Int32) (σ σ' : Sto) (r : Int32) (h : F_X4_feed xa0 xa1 xa2 σ = some (r, σ')) : MI l y yX4_feed (Cond.code yX4_feed cX4_feed 4 (some .int) :: TT) rm_X4_feed [.ref (yad y (xa0)), .int (xa1), .int (xa2)] σ r σ' :=
  mkI (by decide) rfl rfl rfl (Nat.le_of_ble_eq_true rfl) (fun x Z C hr => b_X4_feed_0 C hr xa0 xa1 xa2 σ h)
def rm_X4_wipe : Room := { frames := 0, cells := 0, slots := 0, locals := 0 }
def F_X4_wipe (xa0 : Nat) (σ : Sto) : Option (Int32 × Sto) := ck (kd (xa0) == 4) (lti (σ 37 1) (fun xv2 => lts (up2 σ (37) 1 (0)) (fun xσ3 => some (xv2, xσ3))))
set_option maxHeartbeats 4000000 in
set_option maxRecDepth 20000 in
theorem b_X4_wipe_0 {x : XT} {y : YT} {Z : State → Prop} (C : Cx x y (AY y) RX4 cX4_wipe 2 rm_X4_wipe) {r : Int32} {σ' : Sto} (hr : RetI x y (AY y) 2 cX4_wipe Z r σ') (xa0 : Nat) (σ : Sto) (h : F_X4_wipe xa0 σ = some (r, σ')) : GW x y (AY y) 2 Z 0 [(0, .ref (yad y (xa0)))] [] σ := by
  unfold F_X4_wipe at h
  refine g_aload_n (pc := 0) C dX4_wipe_0 rfl 0 rfl ?_
  obtain ⟨xq1, h⟩ := iC h
  have xq1 := keq xq1
  refine gf_4_4 (pc := 1) C wf_X4_29 dX4_wipe_1 xq1 ?_
  refine gf_3_1 (pc := 4) C wf_X4_214 dX4_wipe_4 rfl ?_
  refine g_letI h (fun xv2 h => ?_)
  refine g_istore_n (i := 1) (lv' := [(1, .int (xv2)), (0, .ref (yad y (xa0)))]) (pc := 7) C dX4_wipe_7 rfl (Nat.le_of_ble_eq_true rfl) rfl ?_
  refine g_aload_n (pc := 8) C dX4_wipe_8 rfl 1 rfl ?_
  refine gf_4_4 (pc := 9) C wf_X4_29 dX4_wipe_9 xq1 ?_
  refine g_iconst (v := 0) (pc := 12) C dX4_wipe_12 ci_0 ?_
  refine gp_3_1 (pc := 13) C wf_X4_214 dX4_wipe_13 rfl ?_
  refine g_letS h (fun xσ3 h => ?_)
  refine g_iload_n (pc := 16) C dX4_wipe_16 rfl 0 rfl ?_
  exact rtI hr dX4_wipe_17 h
theorem c_X4_wipe (l : Launch) (y : YT) (xa0 : Nat) (σ σ' : Sto) (r : Int32) (h : F_X4_wipe xa0 σ = some (r, σ')) : MI l y yX4_wipe (Cond.code yX4_wipe cX4_wipe 2 (some .int) :: TT) rm_X4_wipe [.ref (yad y (xa0))] σ r σ' :=
  mkI (by decide) rfl rfl rfl (Nat.le_of_ble_eq_true rfl) (fun x Z C hr => b_X4_wipe_0 C hr xa0 σ h)
def rm_X4_text : Room := { frames := 10, cells := 0, slots := 0, locals := 251 }
def F_X4_text (xa0 : Nat) (σ : Sto) : Option (Int32 × Sto) := ck (kd (xa0) == 4) (bnd (F_X0_become (13) (1) σ) (fun xr4 xσ2 => bnd (F_X3_readInto (37) (13) xσ2) (fun xr7 xσ5 => if (xr7) < 0 then lts (up2 xσ5 (37) 1 (0)) (fun xσ9 => some (xr7, xσ9)) else bnd (F_X0_become (1) (13) xσ5) (fun xr12 xσ10 => lts (up2 xσ10 (37) 1 (0)) (fun xσ13 => some (xr7, xσ13))))))
set_option maxHeartbeats 4000000 in
set_option maxRecDepth 20000 in
theorem b_X4_text_0 {x : XT} {y : YT} {Z : State → Prop} (C : Cx x y (AY y) RX4 cX4_text 2 rm_X4_text) {r : Int32} {σ' : Sto} (hr : RetI x y (AY y) 2 cX4_text Z r σ') (xa0 : Nat) (σ : Sto) (h : F_X4_text xa0 σ = some (r, σ')) : GW x y (AY y) 2 Z 0 [(0, .ref (yad y (xa0)))] [] σ := by
  unfold F_X4_text at h
  refine g_aload_n (pc := 0) C dX4_text_0 rfl 0 rfl ?_
  obtain ⟨xq1, h⟩ := iC h
  have xq1 := keq xq1
  refine gf_4_1 (pc := 1) C wf_X4_16 dX4_text_1 xq1 ?_
  refine g_aload_n (pc := 4) C dX4_text_4 rfl 0 rfl ?_
  refine gf_4_0 (pc := 5) C wf_X4_10 dX4_text_5 xq1 ?_
  obtain ⟨xr4, xσ2, xc3, h⟩ := iB h
  refine g_callVv (pc := 8) (As := [.ref (yad y (1))]) (rest := []) C dX4_text_8 (fun l => c_X0_become l y _ _ _ _ _ xc3) cv_X4_140 ⟨rfl, rfl, Nat.le_of_ble_eq_true rfl, Nat.le_of_ble_eq_true rfl⟩ (rv0 rfl) rfl (Nat.le_of_ble_eq_true rfl) ?_
  refine g_aload_n (pc := 11) C dX4_text_11 rfl 0 rfl ?_
  refine gf_4_4 (pc := 12) C wf_X4_29 dX4_text_12 xq1 ?_
  refine g_aload_n (pc := 15) C dX4_text_15 rfl 0 rfl ?_
  refine gf_4_1 (pc := 16) C wf_X4_16 dX4_text_16 xq1 ?_
  obtain ⟨xr7, xσ5, xc6, h⟩ := iB h
  refine g_callVi (pc := 19) (As := [.ref (yad y (13))]) (rest := []) C dX4_text_19 (fun l => c_X3_readInto l y _ _ _ _ _ xc6) cv_X4_217 ⟨rfl, rfl, Nat.le_of_ble_eq_true rfl, Nat.le_of_ble_eq_true rfl⟩ (rv3 rfl) rfl (Nat.le_of_ble_eq_true rfl) ?_
  refine g_istore_n (i := 1) (lv' := [(1, .int (xr7)), (0, .ref (yad y (xa0)))]) (pc := 22) C dX4_text_22 rfl (Nat.le_of_ble_eq_true rfl) rfl ?_
  refine g_iload_n (pc := 23) C dX4_text_23 rfl 0 rfl ?_
  refine g_if_lt (pc := 24) C dX4_text_24 (tgt := 38) rfl (fun xq8 => ?_) (fun xq8 => ?_)
  · have h := iP xq8 h
    refine g_aload_n (pc := 38) C dX4_text_38 rfl 1 rfl ?_
    refine gf_4_4 (pc := 39) C wf_X4_29 dX4_text_39 xq1 ?_
    refine g_iconst (v := 0) (pc := 42) C dX4_text_42 ci_0 ?_
    refine gp_3_1 (pc := 43) C wf_X4_214 dX4_text_43 rfl ?_
    refine g_letS h (fun xσ9 h => ?_)
    refine g_iload_n (pc := 46) C dX4_text_46 rfl 0 rfl ?_
    exact rtI hr dX4_text_47 h
  · have h := iN xq8 h
    refine g_aload_n (pc := 27) C dX4_text_27 rfl 1 rfl ?_
    refine gf_4_0 (pc := 28) C wf_X4_10 dX4_text_28 xq1 ?_
    refine g_aload_n (pc := 31) C dX4_text_31 rfl 1 rfl ?_
    refine gf_4_1 (pc := 32) C wf_X4_16 dX4_text_32 xq1 ?_
    obtain ⟨xr12, xσ10, xc11, h⟩ := iB h
    refine g_callVv (pc := 35) (As := [.ref (yad y (13))]) (rest := []) C dX4_text_35 (fun l => c_X0_become l y _ _ _ _ _ xc11) cv_X4_140 ⟨rfl, rfl, Nat.le_of_ble_eq_true rfl, Nat.le_of_ble_eq_true rfl⟩ (rv0 rfl) rfl (Nat.le_of_ble_eq_true rfl) ?_
    refine g_aload_n (pc := 38) C dX4_text_38 rfl 1 rfl ?_
    refine gf_4_4 (pc := 39) C wf_X4_29 dX4_text_39 xq1 ?_
    refine g_iconst (v := 0) (pc := 42) C dX4_text_42 ci_0 ?_
    refine gp_3_1 (pc := 43) C wf_X4_214 dX4_text_43 rfl ?_
    refine g_letS h (fun xσ13 h => ?_)
    refine g_iload_n (pc := 46) C dX4_text_46 rfl 0 rfl ?_
    exact rtI hr dX4_text_47 h
theorem c_X4_text (l : Launch) (y : YT) (xa0 : Nat) (σ σ' : Sto) (r : Int32) (h : F_X4_text xa0 σ = some (r, σ')) : MI l y yX4_text (Cond.code yX4_text cX4_text 2 (some .int) :: TT) rm_X4_text [.ref (yad y (xa0))] σ r σ' :=
  mkI (by decide) rfl rfl rfl (Nat.le_of_ble_eq_true rfl) (fun x Z C hr => b_X4_text_0 C hr xa0 σ h)
def rm_X4_hold : Room := { frames := 2, cells := 0, slots := 0, locals := 42 }
def F_X4_hold (xa0 : Nat) (xa1 : Int32) (xa2 : Int32) (σ : Sto) : Option (Int32 × Sto) := bnd (F_X4_isWithin (xa1) 9 σ) (fun xr3 xσ1 => if (xr3) = 0 then ck (kd (xa0) == 4) (bnd (F_X4_finding (xa0) (-1000001) xσ1) (fun xr8 xσ5 => some (xr8, xσ5))) else ck (kd (xa0) == 4) (bnd (F_X0_isSomebodyOrNobody (1) (xa2) xσ1) (fun xr12 xσ10 => if (xr12) = 0 then bnd (F_X4_finding (xa0) (-1000001) xσ10) (fun xr18 xσ16 => some (xr18, xσ16)) else ck (inr (xa1) (10)) (lts (up2 xσ10 12 (xa1.toNatClampNeg) (xa2)) (fun xσ15 => some (1, xσ15))))))
set_option maxHeartbeats 4000000 in
set_option maxRecDepth 20000 in
theorem b_X4_hold_0 {x : XT} {y : YT} {Z : State → Prop} (C : Cx x y (AY y) RX4 cX4_hold 3 rm_X4_hold) {r : Int32} {σ' : Sto} (hr : RetI x y (AY y) 3 cX4_hold Z r σ') (xa0 : Nat) (xa1 : Int32) (xa2 : Int32) (σ : Sto) (h : F_X4_hold xa0 xa1 xa2 σ = some (r, σ')) : GW x y (AY y) 3 Z 0 [(0, .ref (yad y (xa0))), (1, .int (xa1)), (2, .int (xa2))] [] σ := by
  unfold F_X4_hold at h
  refine g_iload_n (pc := 0) C dX4_hold_0 rfl 1 rfl ?_
  refine g_bipush (v := 9) (pc := 1) C dX4_hold_1 cb_9 ?_
  obtain ⟨xr3, xσ1, xc2, h⟩ := iB h
  refine g_callSi (pc := 3) (As := [.int (xa1), .int (9)]) (rest := []) C dX4_hold_3 (fun l => c_X4_isWithin l y _ _ _ _ _ xc2) cv_X4_52 ⟨rfl, rfl, Nat.le_of_ble_eq_true rfl, Nat.le_of_ble_eq_true rfl⟩ rfl (Nat.le_of_ble_eq_true rfl) ?_
  refine g_if_eq (pc := 6) C dX4_hold_6 (tgt := 20) rfl (fun xq4 => ?_) (fun xq4 => ?_)
  · have h := iP xq4 h
    refine g_aload_n (pc := 20) C dX4_hold_20 rfl 0 rfl ?_
    refine g_ldc (v := (-1000001)) (pc := 21) C dX4_hold_21 wk_X4_56 ?_
    obtain ⟨xq7, h⟩ := iC h
    have xq7 := keq xq7
    obtain ⟨xr8, xσ5, xc6, h⟩ := iB h
    refine g_callVi (pc := 23) (As := [.int ((-1000001))]) (rest := []) C dX4_hold_23 (fun l => c_X4_finding l y _ _ _ _ _ xc6) cv_X4_57 ⟨rfl, rfl, Nat.le_of_ble_eq_true rfl, Nat.le_of_ble_eq_true rfl⟩ (rv4 xq7) rfl (Nat.le_of_ble_eq_true rfl) ?_
    exact rtI hr dX4_hold_26 h
  · have h := iN xq4 h
    refine g_aload_n (pc := 9) C dX4_hold_9 rfl 0 rfl ?_
    obtain ⟨xq9, h⟩ := iC h
    have xq9 := keq xq9
    refine gf_4_0 (pc := 10) C wf_X4_10 dX4_hold_10 xq9 ?_
    refine g_iload_n (pc := 13) C dX4_hold_13 rfl 2 rfl ?_
    obtain ⟨xr12, xσ10, xc11, h⟩ := iB h
    refine g_callVi (pc := 14) (As := [.int (xa2)]) (rest := []) C dX4_hold_14 (fun l => c_X0_isSomebodyOrNobody l y _ _ _ _ _ xc11) cv_X4_70 ⟨rfl, rfl, Nat.le_of_ble_eq_true rfl, Nat.le_of_ble_eq_true rfl⟩ (rv0 rfl) rfl (Nat.le_of_ble_eq_true rfl) ?_
    refine g_if_ne (pc := 17) C dX4_hold_17 (tgt := 27) rfl (fun xq13 => ?_) (fun xq13 => ?_)
    · have h := iN xq13 h
      refine g_aload_n (pc := 27) C dX4_hold_27 rfl 0 rfl ?_
      refine gf_4_0 (pc := 28) C wf_X4_10 dX4_hold_28 xq9 ?_
      refine gf_0_9 (pc := 31) C wf_X4_221 dX4_hold_31 rfl ?_
      refine g_iload_n (pc := 34) C dX4_hold_34 rfl 1 rfl ?_
      refine g_iload_n (pc := 35) C dX4_hold_35 rfl 2 rfl ?_
      obtain ⟨xq14, h⟩ := iC h
      refine g_iast (pc := 36) C dX4_hold_36 rfl (ivp xq14 rfl) (j := xa1.toNatClampNeg) rfl ?_
      refine g_letS h (fun xσ15 h => ?_)
      refine g_iconst (v := 1) (pc := 37) C dX4_hold_37 ci_1 ?_
      exact rtI hr dX4_hold_38 h
    · have h := iP xq13 h
      refine g_aload_n (pc := 20) C dX4_hold_20 rfl 0 rfl ?_
      refine g_ldc (v := (-1000001)) (pc := 21) C dX4_hold_21 wk_X4_56 ?_
      obtain ⟨xr18, xσ16, xc17, h⟩ := iB h
      refine g_callVi (pc := 23) (As := [.int ((-1000001))]) (rest := []) C dX4_hold_23 (fun l => c_X4_finding l y _ _ _ _ _ xc17) cv_X4_57 ⟨rfl, rfl, Nat.le_of_ble_eq_true rfl, Nat.le_of_ble_eq_true rfl⟩ (rv4 xq9) rfl (Nat.le_of_ble_eq_true rfl) ?_
      exact rtI hr dX4_hold_26 h
theorem c_X4_hold (l : Launch) (y : YT) (xa0 : Nat) (xa1 : Int32) (xa2 : Int32) (σ σ' : Sto) (r : Int32) (h : F_X4_hold xa0 xa1 xa2 σ = some (r, σ')) : MI l y yX4_hold (Cond.code yX4_hold cX4_hold 3 (some .int) :: TT) rm_X4_hold [.ref (yad y (xa0)), .int (xa1), .int (xa2)] σ r σ' :=
  mkI (by decide) rfl rfl rfl (Nat.le_of_ble_eq_true rfl) (fun x Z C hr => b_X4_hold_0 C hr xa0 xa1 xa2 σ h)
def rm_X4_as : Room := { frames := 2, cells := 0, slots := 0, locals := 43 }
def F_X4_as (xa0 : Nat) (xa1 : Int32) (xa2 : Int32) (σ : Sto) : Option (Int32 × Sto) := bnd (F_X4_isWithin (xa1) 9 σ) (fun xr3 xσ1 => if (xr3) = 0 then ck (kd (xa0) == 4) (bnd (F_X4_finding (xa0) (-1000001) xσ1) (fun xr8 xσ5 => some (xr8, xσ5))) else bnd (F_X4_isWithin (xa2) 6 xσ1) (fun xr11 xσ9 => if (xr11) = 0 then ck (kd (xa0) == 4) (bnd (F_X4_finding (xa0) (-1000001) xσ9) (fun xr35 xσ32 => some (xr35, xσ32))) else ck (kd (xa0) == 4) (ck (inr (xa1) (10)) (lti (xσ9 12 (xa1.toNatClampNeg)) (fun xv15 => bnd (F_X0_who (1) (xv15) xσ9) (fun xr18 xσ16 => ocase xr18 (bnd (F_X4_finding (xa0) (-1000006) xσ16) (fun xr22 xσ20 => some (xr22, xσ20))) (fun xk19 => ck (kd (xk19) == 2) (bnd (F_X2_isOfOrUnder (xσ16 xk19 0) (xa2) xσ16) (fun xr26 xσ24 => if (xr26) = 0 then bnd (F_X4_finding (xa0) (-1000003) xσ24) (fun xr30 xσ28 => some (xr30, xσ28)) else some (xv15, xσ24))))))))))
set_option maxHeartbeats 4000000 in
set_option maxRecDepth 20000 in
theorem b_X4_as_0 {x : XT} {y : YT} {Z : State → Prop} (C : Cx x y (AY y) RX4 cX4_as 5 rm_X4_as) {r : Int32} {σ' : Sto} (hr : RetI x y (AY y) 5 cX4_as Z r σ') (xa0 : Nat) (xa1 : Int32) (xa2 : Int32) (σ : Sto) (h : F_X4_as xa0 xa1 xa2 σ = some (r, σ')) : GW x y (AY y) 5 Z 0 [(0, .ref (yad y (xa0))), (1, .int (xa1)), (2, .int (xa2))] [] σ := by
  unfold F_X4_as at h
  refine g_iload_n (pc := 0) C dX4_as_0 rfl 1 rfl ?_
  refine g_bipush (v := 9) (pc := 1) C dX4_as_1 cb_9 ?_
  obtain ⟨xr3, xσ1, xc2, h⟩ := iB h
  refine g_callSi (pc := 3) (As := [.int (xa1), .int (9)]) (rest := []) C dX4_as_3 (fun l => c_X4_isWithin l y _ _ _ _ _ xc2) cv_X4_52 ⟨rfl, rfl, Nat.le_of_ble_eq_true rfl, Nat.le_of_ble_eq_true rfl⟩ rfl (Nat.le_of_ble_eq_true rfl) ?_
  refine g_if_eq (pc := 6) C dX4_as_6 (tgt := 18) rfl (fun xq4 => ?_) (fun xq4 => ?_)
  · have h := iP xq4 h
    refine g_aload_n (pc := 18) C dX4_as_18 rfl 0 rfl ?_
    refine g_ldc (v := (-1000001)) (pc := 19) C dX4_as_19 wk_X4_56 ?_
    obtain ⟨xq7, h⟩ := iC h
    have xq7 := keq xq7
    obtain ⟨xr8, xσ5, xc6, h⟩ := iB h
    refine g_callVi (pc := 21) (As := [.int ((-1000001))]) (rest := []) C dX4_as_21 (fun l => c_X4_finding l y _ _ _ _ _ xc6) cv_X4_57 ⟨rfl, rfl, Nat.le_of_ble_eq_true rfl, Nat.le_of_ble_eq_true rfl⟩ (rv4 xq7) rfl (Nat.le_of_ble_eq_true rfl) ?_
    exact rtI hr dX4_as_24 h
  · have h := iN xq4 h
    refine g_iload_n (pc := 9) C dX4_as_9 rfl 2 rfl ?_
    refine g_bipush (v := 6) (pc := 10) C dX4_as_10 cb_6 ?_
    obtain ⟨xr11, xσ9, xc10, h⟩ := iB h
    refine g_callSi (pc := 12) (As := [.int (xa2), .int (6)]) (rest := []) C dX4_as_12 (fun l => c_X4_isWithin l y _ _ _ _ _ xc10) cv_X4_52 ⟨rfl, rfl, Nat.le_of_ble_eq_true rfl, Nat.le_of_ble_eq_true rfl⟩ rfl (Nat.le_of_ble_eq_true rfl) ?_
    refine g_if_ne (pc := 15) C dX4_as_15 (tgt := 25) rfl (fun xq12 => ?_) (fun xq12 => ?_)
    · have h := iN xq12 h
      refine g_aload_n (pc := 25) C dX4_as_25 rfl 0 rfl ?_
      obtain ⟨xq13, h⟩ := iC h
      have xq13 := keq xq13
      refine gf_4_0 (pc := 26) C wf_X4_10 dX4_as_26 xq13 ?_
      refine gf_0_9 (pc := 29) C wf_X4_221 dX4_as_29 rfl ?_
      refine g_iload_n (pc := 32) C dX4_as_32 rfl 1 rfl ?_
      obtain ⟨xq14, h⟩ := iC h
      refine g_iald (pc := 33) C dX4_as_33 rfl (ivp xq14 rfl) (j := xa1.toNatClampNeg) rfl ?_
      refine g_letI h (fun xv15 h => ?_)
      refine g_istore_n (i := 3) (lv' := [(3, .int (xv15)), (0, .ref (yad y (xa0))), (1, .int (xa1)), (2, .int (xa2))]) (pc := 34) C dX4_as_34 rfl (Nat.le_of_ble_eq_true rfl) rfl ?_
      refine g_aload_n (pc := 35) C dX4_as_35 rfl 1 rfl ?_
      refine gf_4_0 (pc := 36) C wf_X4_10 dX4_as_36 xq13 ?_
      refine g_iload_n (pc := 39) C dX4_as_39 rfl 0 rfl ?_
      obtain ⟨xr18, xσ16, xc17, h⟩ := iB h
      refine g_callVq (pc := 40) (As := [.int (xv15)]) (rest := []) C dX4_as_40 (fun l => c_X0_who l y _ _ _ _ _ xc17) cv_X4_90 ⟨rfl, rfl, Nat.le_of_ble_eq_true rfl, Nat.le_of_ble_eq_true rfl⟩ (rv0 rfl) rfl (Nat.le_of_ble_eq_true rfl) ?_
      refine g_nastore (i := 4) (lv' := [(4, nv y xr18), (3, .int (xv15)), (0, .ref (yad y (xa0))), (1, .int (xa1)), (2, .int (xa2))]) (pc := 43) C dX4_as_43 (Nat.le_of_ble_eq_true rfl) rfl ?_
      refine g_naload (pc := 45) C dX4_as_45 0 rfl ?_
      refine g_ifnonnull (pc := 47) C dX4_as_47 (tgt := 57) rfl (fun xk19 xq31 => ?_) (fun xq31 => ?_)
      · subst xq31
        have h := iO1 h
        refine g_aload (pc := 57) C dX4_as_57 0 rfl ?_
        obtain ⟨xq23, h⟩ := iC h
        have xq23 := keq xq23
        refine gf_2_0 (pc := 59) C wf_X4_225 dX4_as_59 xq23 ?_
        refine g_iload_n (pc := 62) C dX4_as_62 rfl 4 rfl ?_
        obtain ⟨xr26, xσ24, xc25, h⟩ := iB h
        refine g_callSi (pc := 63) (As := [.int (xσ16 xk19 0), .int (xa2)]) (rest := []) C dX4_as_63 (fun l => c_X2_isOfOrUnder l y _ _ _ _ _ xc25) cv_X4_228 ⟨rfl, rfl, Nat.le_of_ble_eq_true rfl, Nat.le_of_ble_eq_true rfl⟩ rfl (Nat.le_of_ble_eq_true rfl) ?_
        refine g_if_eq (pc := 66) C dX4_as_66 (tgt := 73) rfl (fun xq27 => ?_) (fun xq27 => ?_)
        · have h := iP xq27 h
          refine g_aload_n (pc := 73) C dX4_as_73 rfl 2 rfl ?_
          refine g_ldc (v := (-1000003)) (pc := 74) C dX4_as_74 wk_X4_231 ?_
          obtain ⟨xr30, xσ28, xc29, h⟩ := iB h
          refine g_callVi (pc := 76) (As := [.int ((-1000003))]) (rest := []) C dX4_as_76 (fun l => c_X4_finding l y _ _ _ _ _ xc29) cv_X4_57 ⟨rfl, rfl, Nat.le_of_ble_eq_true rfl, Nat.le_of_ble_eq_true rfl⟩ (rv4 xq13) rfl (Nat.le_of_ble_eq_true rfl) ?_
          exact rtI hr dX4_as_79 h
        · have h := iN xq27 h
          refine g_iload_n (pc := 69) C dX4_as_69 rfl 1 rfl ?_
          refine g_goto (pc := 70) C dX4_as_70 (tgt := 79) rfl ?_
          exact rtI hr dX4_as_79 h
      · subst xq31
        have h := iO0 h
        refine g_aload_n (pc := 50) C dX4_as_50 rfl 2 rfl ?_
        refine g_ldc (v := (-1000006)) (pc := 51) C dX4_as_51 wk_X4_224 ?_
        obtain ⟨xr22, xσ20, xc21, h⟩ := iB h
        refine g_callVi (pc := 53) (As := [.int ((-1000006))]) (rest := []) C dX4_as_53 (fun l => c_X4_finding l y _ _ _ _ _ xc21) cv_X4_57 ⟨rfl, rfl, Nat.le_of_ble_eq_true rfl, Nat.le_of_ble_eq_true rfl⟩ (rv4 xq13) rfl (Nat.le_of_ble_eq_true rfl) ?_
        exact rtI hr dX4_as_56 h
    · have h := iP xq12 h
      refine g_aload_n (pc := 18) C dX4_as_18 rfl 0 rfl ?_
      refine g_ldc (v := (-1000001)) (pc := 19) C dX4_as_19 wk_X4_56 ?_
      obtain ⟨xq34, h⟩ := iC h
      have xq34 := keq xq34
      obtain ⟨xr35, xσ32, xc33, h⟩ := iB h
      refine g_callVi (pc := 21) (As := [.int ((-1000001))]) (rest := []) C dX4_as_21 (fun l => c_X4_finding l y _ _ _ _ _ xc33) cv_X4_57 ⟨rfl, rfl, Nat.le_of_ble_eq_true rfl, Nat.le_of_ble_eq_true rfl⟩ (rv4 xq34) rfl (Nat.le_of_ble_eq_true rfl) ?_
      exact rtI hr dX4_as_24 h
theorem c_X4_as (l : Launch) (y : YT) (xa0 : Nat) (xa1 : Int32) (xa2 : Int32) (σ σ' : Sto) (r : Int32) (h : F_X4_as xa0 xa1 xa2 σ = some (r, σ')) : MI l y yX4_as (Cond.code yX4_as cX4_as 5 (some .int) :: TT) rm_X4_as [.ref (yad y (xa0)), .int (xa1), .int (xa2)] σ r σ' :=
  mkI (by decide) rfl rfl rfl (Nat.le_of_ble_eq_true rfl) (fun x Z C hr => b_X4_as_0 C hr xa0 xa1 xa2 σ h)
def rm_X4_sheet : Room := { frames := 1, cells := 0, slots := 0, locals := 23 }
def F_X4_sheet (xa0 : Nat) (xa1 : Int32) (xa2 : Int32) (xa3 : Int32) (σ : Sto) : Option (Int32 × Sto) := ck (kd (xa0) == 4) (bnd (F_X4_sheetAt (xa0) (xa1) σ) (fun xr4 xσ1 => ocase xr4 (bnd (F_X4_finding (xa0) (-1000001) xσ1) (fun xr8 xσ6 => some (xr8, xσ6))) (fun xk5 => bnd (F_X1_isWidth (xa2) xσ1) (fun xr11 xσ9 => if (xr11) = 0 then bnd (F_X4_finding (xa0) (-1000001) xσ9) (fun xr27 xσ25 => some (xr27, xσ25)) else if 0 ≤ (xa3) then if xa3 ≤ 40 then ck (kd (xk5) == 1) (bnd (F_X1_begin (xk5) (xa2) (xa3) xσ9) (fun xr18 xσ15 => some (xσ15 xk5 1, xσ15))) else bnd (F_X4_finding (xa0) (-1000001) xσ9) (fun xr21 xσ19 => some (xr21, xσ19)) else bnd (F_X4_finding (xa0) (-1000007) xσ9) (fun xr24 xσ22 => some (xr24, xσ22))))))
set_option maxHeartbeats 4000000 in
set_option maxRecDepth 20000 in
theorem b_X4_sheet_0 {x : XT} {y : YT} {Z : State → Prop} (C : Cx x y (AY y) RX4 cX4_sheet 5 rm_X4_sheet) {r : Int32} {σ' : Sto} (hr : RetI x y (AY y) 5 cX4_sheet Z r σ') (xa0 : Nat) (xa1 : Int32) (xa2 : Int32) (xa3 : Int32) (σ : Sto) (h : F_X4_sheet xa0 xa1 xa2 xa3 σ = some (r, σ')) : GW x y (AY y) 5 Z 0 [(0, .ref (yad y (xa0))), (1, .int (xa1)), (2, .int (xa2)), (3, .int (xa3))] [] σ := by
  unfold F_X4_sheet at h
  refine g_aload_n (pc := 0) C dX4_sheet_0 rfl 0 rfl ?_
  refine g_iload_n (pc := 1) C dX4_sheet_1 rfl 1 rfl ?_
  obtain ⟨xq3, h⟩ := iC h
  have xq3 := keq xq3
  obtain ⟨xr4, xσ1, xc2, h⟩ := iB h
  refine g_callVq (pc := 2) (As := [.int (xa1)]) (rest := []) C dX4_sheet_2 (fun l => c_X4_sheetAt l y _ _ _ _ _ xc2) cv_X4_177 ⟨rfl, rfl, Nat.le_of_ble_eq_true rfl, Nat.le_of_ble_eq_true rfl⟩ (rv4 xq3) rfl (Nat.le_of_ble_eq_true rfl) ?_
  refine g_nastore (i := 4) (lv' := [(4, nv y xr4), (0, .ref (yad y (xa0))), (1, .int (xa1)), (2, .int (xa2)), (3, .int (xa3))]) (pc := 5) C dX4_sheet_5 (Nat.le_of_ble_eq_true rfl) rfl ?_
  refine g_naload (pc := 7) C dX4_sheet_7 0 rfl ?_
  refine g_ifnull (pc := 9) C dX4_sheet_9 (tgt := 19) rfl (fun xq28 => ?_) (fun xk5 xq28 => ?_)
  · subst xq28
    have h := iO0 h
    refine g_aload_n (pc := 19) C dX4_sheet_19 rfl 1 rfl ?_
    refine g_ldc (v := (-1000001)) (pc := 20) C dX4_sheet_20 wk_X4_56 ?_
    obtain ⟨xr8, xσ6, xc7, h⟩ := iB h
    refine g_callVi (pc := 22) (As := [.int ((-1000001))]) (rest := []) C dX4_sheet_22 (fun l => c_X4_finding l y _ _ _ _ _ xc7) cv_X4_57 ⟨rfl, rfl, Nat.le_of_ble_eq_true rfl, Nat.le_of_ble_eq_true rfl⟩ (rv4 xq3) rfl (Nat.le_of_ble_eq_true rfl) ?_
    exact rtI hr dX4_sheet_25 h
  · subst xq28
    have h := iO1 h
    refine g_iload_n (pc := 12) C dX4_sheet_12 rfl 3 rfl ?_
    obtain ⟨xr11, xσ9, xc10, h⟩ := iB h
    refine g_callSi (pc := 13) (As := [.int (xa2)]) (rest := []) C dX4_sheet_13 (fun l => c_X1_isWidth l y _ _ _ _ xc10) cv_X4_232 ⟨rfl, rfl, Nat.le_of_ble_eq_true rfl, Nat.le_of_ble_eq_true rfl⟩ rfl (Nat.le_of_ble_eq_true rfl) ?_
    refine g_if_ne (pc := 16) C dX4_sheet_16 (tgt := 26) rfl (fun xq12 => ?_) (fun xq12 => ?_)
    · have h := iN xq12 h
      refine g_iload_n (pc := 26) C dX4_sheet_26 rfl 4 rfl ?_
      refine g_if_ge (pc := 27) C dX4_sheet_27 (tgt := 37) rfl (fun xq13 => ?_) (fun xq13 => ?_)
      · have h := iP xq13 h
        refine g_iload_n (pc := 37) C dX4_sheet_37 rfl 4 rfl ?_
        refine g_bipush (v := 40) (pc := 38) C dX4_sheet_38 cb_40 ?_
        refine g_icmp_le (pc := 40) C dX4_sheet_40 (tgt := 50) rfl (fun xq14 => ?_) (fun xq14 => ?_)
        · have h := iP xq14 h
          refine g_aload (pc := 50) C dX4_sheet_50 0 rfl ?_
          refine g_iload_n (pc := 52) C dX4_sheet_52 rfl 3 rfl ?_
          refine g_iload_n (pc := 53) C dX4_sheet_53 rfl 4 rfl ?_
          obtain ⟨xq17, h⟩ := iC h
          have xq17 := keq xq17
          obtain ⟨xr18, xσ15, xc16, h⟩ := iB h
          refine g_callVv (pc := 54) (As := [.int (xa2), .int (xa3)]) (rest := []) C dX4_sheet_54 (fun l => c_X1_begin l y _ _ _ _ _ _ xc16) cv_X4_236 ⟨rfl, rfl, Nat.le_of_ble_eq_true rfl, Nat.le_of_ble_eq_true rfl⟩ (rv1 xq17) rfl (Nat.le_of_ble_eq_true rfl) ?_
          refine g_aload (pc := 57) C dX4_sheet_57 0 rfl ?_
          refine gf_1_1 (pc := 59) C wf_X4_239 dX4_sheet_59 xq17 ?_
          exact rtI hr dX4_sheet_62 h
        · have h := iN xq14 h
          refine g_aload_n (pc := 43) C dX4_sheet_43 rfl 1 rfl ?_
          refine g_ldc (v := (-1000001)) (pc := 44) C dX4_sheet_44 wk_X4_56 ?_
          obtain ⟨xr21, xσ19, xc20, h⟩ := iB h
          refine g_callVi (pc := 46) (As := [.int ((-1000001))]) (rest := []) C dX4_sheet_46 (fun l => c_X4_finding l y _ _ _ _ _ xc20) cv_X4_57 ⟨rfl, rfl, Nat.le_of_ble_eq_true rfl, Nat.le_of_ble_eq_true rfl⟩ (rv4 xq3) rfl (Nat.le_of_ble_eq_true rfl) ?_
          exact rtI hr dX4_sheet_49 h
      · have h := iN xq13 h
        refine g_aload_n (pc := 30) C dX4_sheet_30 rfl 1 rfl ?_
        refine g_ldc (v := (-1000007)) (pc := 31) C dX4_sheet_31 wk_X4_235 ?_
        obtain ⟨xr24, xσ22, xc23, h⟩ := iB h
        refine g_callVi (pc := 33) (As := [.int ((-1000007))]) (rest := []) C dX4_sheet_33 (fun l => c_X4_finding l y _ _ _ _ _ xc23) cv_X4_57 ⟨rfl, rfl, Nat.le_of_ble_eq_true rfl, Nat.le_of_ble_eq_true rfl⟩ (rv4 xq3) rfl (Nat.le_of_ble_eq_true rfl) ?_
        exact rtI hr dX4_sheet_36 h
    · have h := iP xq12 h
      refine g_aload_n (pc := 19) C dX4_sheet_19 rfl 1 rfl ?_
      refine g_ldc (v := (-1000001)) (pc := 20) C dX4_sheet_20 wk_X4_56 ?_
      obtain ⟨xr27, xσ25, xc26, h⟩ := iB h
      refine g_callVi (pc := 22) (As := [.int ((-1000001))]) (rest := []) C dX4_sheet_22 (fun l => c_X4_finding l y _ _ _ _ _ xc26) cv_X4_57 ⟨rfl, rfl, Nat.le_of_ble_eq_true rfl, Nat.le_of_ble_eq_true rfl⟩ (rv4 xq3) rfl (Nat.le_of_ble_eq_true rfl) ?_
      exact rtI hr dX4_sheet_25 h
theorem c_X4_sheet (l : Launch) (y : YT) (xa0 : Nat) (xa1 : Int32) (xa2 : Int32) (xa3 : Int32) (σ σ' : Sto) (r : Int32) (h : F_X4_sheet xa0 xa1 xa2 xa3 σ = some (r, σ')) : MI l y yX4_sheet (Cond.code yX4_sheet cX4_sheet 5 (some .int) :: TT) rm_X4_sheet [.ref (yad y (xa0)), .int (xa1), .int (xa2), .int (xa3)] σ r σ' :=
  mkI (by decide) rfl rfl rfl (Nat.le_of_ble_eq_true rfl) (fun x Z C hr => b_X4_sheet_0 C hr xa0 xa1 xa2 xa3 σ h)
def rm_X4_write : Room := { frames := 2, cells := 0, slots := 0, locals := 43 }
def F_X4_write (xa0 : Nat) (xa1 : Int32) (xa2 : Int32) (xa3 : Int32) (σ : Sto) : Option (Int32 × Sto) := ck (kd (xa0) == 4) (bnd (F_X4_sheetAt (xa0) (xa1) σ) (fun xr4 xσ1 => ocase xr4 (bnd (F_X4_refusalFor none xσ1) (fun xr8 xσ6 => bnd (F_X4_finding (xa0) (xr8) xσ6) (fun xr11 xσ9 => some (xr11, xσ9)))) (fun xk5 => ck (kd (xk5) == 1) (bnd (F_X1_isMissing (xk5) xσ1) (fun xr15 xσ12 => if (xr15) = 0 then bnd (F_X1_putNumber (xk5) (xa2) (xa3) xσ12) (fun xr19 xσ17 => if (xr19) = 0 then bnd (F_X4_finding (xa0) (-1000001) xσ17) (fun xr23 xσ21 => some (xr23, xσ21)) else some (1, xσ17)) else bnd (F_X4_refusalFor (some (xk5)) xσ12) (fun xr26 xσ24 => bnd (F_X4_finding (xa0) (xr26) xσ24) (fun xr29 xσ27 => some (xr29, xσ27))))))))
set_option maxHeartbeats 4000000 in
set_option maxRecDepth 20000 in
theorem b_X4_write_0 {x : XT} {y : YT} {Z : State → Prop} (C : Cx x y (AY y) RX4 cX4_write 5 rm_X4_write) {r : Int32} {σ' : Sto} (hr : RetI x y (AY y) 5 cX4_write Z r σ') (xa0 : Nat) (xa1 : Int32) (xa2 : Int32) (xa3 : Int32) (σ : Sto) (h : F_X4_write xa0 xa1 xa2 xa3 σ = some (r, σ')) : GW x y (AY y) 5 Z 0 [(0, .ref (yad y (xa0))), (1, .int (xa1)), (2, .int (xa2)), (3, .int (xa3))] [] σ := by
  unfold F_X4_write at h
  refine g_aload_n (pc := 0) C dX4_write_0 rfl 0 rfl ?_
  refine g_iload_n (pc := 1) C dX4_write_1 rfl 1 rfl ?_
  obtain ⟨xq3, h⟩ := iC h
  have xq3 := keq xq3
  obtain ⟨xr4, xσ1, xc2, h⟩ := iB h
  refine g_callVq (pc := 2) (As := [.int (xa1)]) (rest := []) C dX4_write_2 (fun l => c_X4_sheetAt l y _ _ _ _ _ xc2) cv_X4_177 ⟨rfl, rfl, Nat.le_of_ble_eq_true rfl, Nat.le_of_ble_eq_true rfl⟩ (rv4 xq3) rfl (Nat.le_of_ble_eq_true rfl) ?_
  refine g_nastore (i := 4) (lv' := [(4, nv y xr4), (0, .ref (yad y (xa0))), (1, .int (xa1)), (2, .int (xa2)), (3, .int (xa3))]) (pc := 5) C dX4_write_5 (Nat.le_of_ble_eq_true rfl) rfl ?_
  refine g_naload (pc := 7) C dX4_write_7 0 rfl ?_
  refine g_ifnull (pc := 9) C dX4_write_9 (tgt := 20) rfl (fun xq30 => ?_) (fun xk5 xq30 => ?_)
  · subst xq30
    have h := iO0 h
    refine g_aload_n (pc := 20) C dX4_write_20 rfl 1 rfl ?_
    refine g_naload (pc := 21) C dX4_write_21 0 rfl ?_
    obtain ⟨xr8, xσ6, xc7, h⟩ := iB h
    refine g_callSi (pc := 23) (As := [nv y none]) (rest := [.ref (yad y (xa0))]) C dX4_write_23 (fun l => c_X4_refusalFor l y _ _ _ _ xc7) cv_X4_184 ⟨rfl, rfl, Nat.le_of_ble_eq_true rfl, Nat.le_of_ble_eq_true rfl⟩ rfl (Nat.le_of_ble_eq_true rfl) ?_
    obtain ⟨xr11, xσ9, xc10, h⟩ := iB h
    refine g_callVi (pc := 26) (As := [.int (xr8)]) (rest := []) C dX4_write_26 (fun l => c_X4_finding l y _ _ _ _ _ xc10) cv_X4_57 ⟨rfl, rfl, Nat.le_of_ble_eq_true rfl, Nat.le_of_ble_eq_true rfl⟩ (rv4 xq3) rfl (Nat.le_of_ble_eq_true rfl) ?_
    exact rtI hr dX4_write_29 h
  · subst xq30
    have h := iO1 h
    refine g_aload (pc := 12) C dX4_write_12 0 rfl ?_
    obtain ⟨xq14, h⟩ := iC h
    have xq14 := keq xq14
    obtain ⟨xr15, xσ12, xc13, h⟩ := iB h
    refine g_callVi (pc := 14) (As := []) (rest := []) C dX4_write_14 (fun l => c_X1_isMissing l y _ _ _ _ xc13) cv_X4_181 ⟨rfl, rfl, Nat.le_of_ble_eq_true rfl, Nat.le_of_ble_eq_true rfl⟩ (rv1 xq14) rfl (Nat.le_of_ble_eq_true rfl) ?_
    refine g_if_eq (pc := 17) C dX4_write_17 (tgt := 30) rfl (fun xq16 => ?_) (fun xq16 => ?_)
    · have h := iP xq16 h
      refine g_aload (pc := 30) C dX4_write_30 0 rfl ?_
      refine g_iload_n (pc := 32) C dX4_write_32 rfl 3 rfl ?_
      refine g_iload_n (pc := 33) C dX4_write_33 rfl 4 rfl ?_
      obtain ⟨xr19, xσ17, xc18, h⟩ := iB h
      refine g_callVi (pc := 34) (As := [.int (xa2), .int (xa3)]) (rest := []) C dX4_write_34 (fun l => c_X1_putNumber l y _ _ _ _ _ _ xc18) cv_X4_240 ⟨rfl, rfl, Nat.le_of_ble_eq_true rfl, Nat.le_of_ble_eq_true rfl⟩ (rv1 xq14) rfl (Nat.le_of_ble_eq_true rfl) ?_
      refine g_if_eq (pc := 37) C dX4_write_37 (tgt := 44) rfl (fun xq20 => ?_) (fun xq20 => ?_)
      · have h := iP xq20 h
        refine g_aload_n (pc := 44) C dX4_write_44 rfl 1 rfl ?_
        refine g_ldc (v := (-1000001)) (pc := 45) C dX4_write_45 wk_X4_56 ?_
        obtain ⟨xr23, xσ21, xc22, h⟩ := iB h
        refine g_callVi (pc := 47) (As := [.int ((-1000001))]) (rest := []) C dX4_write_47 (fun l => c_X4_finding l y _ _ _ _ _ xc22) cv_X4_57 ⟨rfl, rfl, Nat.le_of_ble_eq_true rfl, Nat.le_of_ble_eq_true rfl⟩ (rv4 xq3) rfl (Nat.le_of_ble_eq_true rfl) ?_
        exact rtI hr dX4_write_50 h
      · have h := iN xq20 h
        refine g_iconst (v := 1) (pc := 40) C dX4_write_40 ci_1 ?_
        refine g_goto (pc := 41) C dX4_write_41 (tgt := 50) rfl ?_
        exact rtI hr dX4_write_50 h
    · have h := iN xq16 h
      refine g_aload_n (pc := 20) C dX4_write_20 rfl 1 rfl ?_
      refine g_aload (pc := 21) C dX4_write_21 0 rfl ?_
      obtain ⟨xr26, xσ24, xc25, h⟩ := iB h
      refine g_callSi (pc := 23) (As := [nv y (some (xk5))]) (rest := [.ref (yad y (xa0))]) C dX4_write_23 (fun l => c_X4_refusalFor l y _ _ _ _ xc25) cv_X4_184 ⟨rfl, rfl, Nat.le_of_ble_eq_true rfl, Nat.le_of_ble_eq_true rfl⟩ rfl (Nat.le_of_ble_eq_true rfl) ?_
      obtain ⟨xr29, xσ27, xc28, h⟩ := iB h
      refine g_callVi (pc := 26) (As := [.int (xr26)]) (rest := []) C dX4_write_26 (fun l => c_X4_finding l y _ _ _ _ _ xc28) cv_X4_57 ⟨rfl, rfl, Nat.le_of_ble_eq_true rfl, Nat.le_of_ble_eq_true rfl⟩ (rv4 xq3) rfl (Nat.le_of_ble_eq_true rfl) ?_
      exact rtI hr dX4_write_29 h
theorem c_X4_write (l : Launch) (y : YT) (xa0 : Nat) (xa1 : Int32) (xa2 : Int32) (xa3 : Int32) (σ σ' : Sto) (r : Int32) (h : F_X4_write xa0 xa1 xa2 xa3 σ = some (r, σ')) : MI l y yX4_write (Cond.code yX4_write cX4_write 5 (some .int) :: TT) rm_X4_write [.ref (yad y (xa0)), .int (xa1), .int (xa2), .int (xa3)] σ r σ' :=
  mkI (by decide) rfl rfl rfl (Nat.le_of_ble_eq_true rfl) (fun x Z C hr => b_X4_write_0 C hr xa0 xa1 xa2 xa3 σ h)
def rm_X4_copy : Room := { frames := 1, cells := 0, slots := 0, locals := 60 }
def F_X4_copy (xa0 : Nat) (xa1 : Int32) (xa2 : Int32) (xa3 : Int32) (xa4 : Int32) (xa5 : Int32) (σ : Sto) : Option (Int32 × Sto) := ck (kd (xa0) == 4) (bnd (F_X4_sheetAt (xa0) (xa1) σ) (fun xr4 xσ1 => bnd (F_X4_sheetAt (xa0) (xa3) xσ1) (fun xr7 xσ5 => ocase xr4 (bnd (F_X4_finding (xa0) (-1000001) xσ5) (fun xr11 xσ9 => some (xr11, xσ9))) (fun xk8 => ocase xr7 (bnd (F_X4_finding (xa0) (-1000001) xσ5) (fun xr15 xσ13 => some (xr15, xσ13))) (fun xk12 => ck (kd (xk8) == 1) (bnd (F_X1_isMissing (xk8) xσ5) (fun xr19 xσ16 => if (xr19) = 0 then ck (kd (xk12) == 1) (bnd (F_X1_isMissing (xk12) xσ16) (fun xr27 xσ24 => if (xr27) = 0 then if (xσ24 xk8 0) = (xσ24 xk12 0) then bnd (F_X1_hasRange (xk8) (xa2) (xa5) xσ24) (fun xr32 xσ30 => if (xr32) = 0 then bnd (F_X4_finding (xa0) (-1000001) xσ30) (fun xr36 xσ34 => some (xr36, xσ34)) else bnd (F_X1_hasRange (xk12) (xa4) (xa5) xσ30) (fun xr39 xσ37 => if (xr39) = 0 then bnd (F_X4_finding (xa0) (-1000001) xσ37) (fun xr45 xσ43 => some (xr45, xσ43)) else ck (cpok (xa2) (xa4) (xa5) (40) (40)) (lts (up1 xσ37 (xk12 + 1) (va_cpy (xσ37 (xk8 + 1)) (xσ37 (xk12 + 1)) (xa2 : Int32).toNatClampNeg (xa4 : Int32).toNatClampNeg (xa5 : Int32).toNatClampNeg)) (fun xσ42 => some (xa5, xσ42))))) else bnd (F_X4_finding (xa0) (-1000003) xσ24) (fun xr48 xσ46 => some (xr48, xσ46)) else bnd (F_X4_finding (xa0) (-1000006) xσ24) (fun xr51 xσ49 => some (xr51, xσ49)))) else bnd (F_X4_finding (xa0) (-1000006) xσ16) (fun xr23 xσ21 => some (xr23, xσ21)))))))))
set_option maxHeartbeats 4000000 in
set_option maxRecDepth 20000 in
theorem b_X4_copy_0 {x : XT} {y : YT} {Z : State → Prop} (C : Cx x y (AY y) RX4 cX4_copy 8 rm_X4_copy) {r : Int32} {σ' : Sto} (hr : RetI x y (AY y) 8 cX4_copy Z r σ') (xa0 : Nat) (xa1 : Int32) (xa2 : Int32) (xa3 : Int32) (xa4 : Int32) (xa5 : Int32) (σ : Sto) (h : F_X4_copy xa0 xa1 xa2 xa3 xa4 xa5 σ = some (r, σ')) : GW x y (AY y) 8 Z 0 [(0, .ref (yad y (xa0))), (1, .int (xa1)), (2, .int (xa2)), (3, .int (xa3)), (4, .int (xa4)), (5, .int (xa5))] [] σ := by
  unfold F_X4_copy at h
  refine g_aload_n (pc := 0) C dX4_copy_0 rfl 0 rfl ?_
  refine g_iload_n (pc := 1) C dX4_copy_1 rfl 1 rfl ?_
  obtain ⟨xq3, h⟩ := iC h
  have xq3 := keq xq3
  obtain ⟨xr4, xσ1, xc2, h⟩ := iB h
  refine g_callVq (pc := 2) (As := [.int (xa1)]) (rest := []) C dX4_copy_2 (fun l => c_X4_sheetAt l y _ _ _ _ _ xc2) cv_X4_177 ⟨rfl, rfl, Nat.le_of_ble_eq_true rfl, Nat.le_of_ble_eq_true rfl⟩ (rv4 xq3) rfl (Nat.le_of_ble_eq_true rfl) ?_
  refine g_nastore (i := 6) (lv' := [(6, nv y xr4), (0, .ref (yad y (xa0))), (1, .int (xa1)), (2, .int (xa2)), (3, .int (xa3)), (4, .int (xa4)), (5, .int (xa5))]) (pc := 5) C dX4_copy_5 (Nat.le_of_ble_eq_true rfl) rfl ?_
  refine g_aload_n (pc := 7) C dX4_copy_7 rfl 1 rfl ?_
  refine g_iload_n (pc := 8) C dX4_copy_8 rfl 4 rfl ?_
  obtain ⟨xr7, xσ5, xc6, h⟩ := iB h
  refine g_callVq (pc := 9) (As := [.int (xa3)]) (rest := []) C dX4_copy_9 (fun l => c_X4_sheetAt l y _ _ _ _ _ xc6) cv_X4_177 ⟨rfl, rfl, Nat.le_of_ble_eq_true rfl, Nat.le_of_ble_eq_true rfl⟩ (rv4 xq3) rfl (Nat.le_of_ble_eq_true rfl) ?_
  refine g_nastore (i := 7) (lv' := [(7, nv y xr7), (6, nv y xr4), (0, .ref (yad y (xa0))), (1, .int (xa1)), (2, .int (xa2)), (3, .int (xa3)), (4, .int (xa4)), (5, .int (xa5))]) (pc := 12) C dX4_copy_12 (Nat.le_of_ble_eq_true rfl) (by simp [nv_cat, cat_int, cat_ref]) ?_
  refine g_naload (pc := 14) C dX4_copy_14 1 rfl ?_
  refine g_ifnull (pc := 16) C dX4_copy_16 (tgt := 24) rfl (fun xq53 => ?_) (fun xk8 xq53 => ?_)
  · subst xq53
    have h := iO0 h
    refine g_aload_n (pc := 24) C dX4_copy_24 rfl 2 rfl ?_
    refine g_ldc (v := (-1000001)) (pc := 25) C dX4_copy_25 wk_X4_56 ?_
    obtain ⟨xr11, xσ9, xc10, h⟩ := iB h
    refine g_callVi (pc := 27) (As := [.int ((-1000001))]) (rest := []) C dX4_copy_27 (fun l => c_X4_finding l y _ _ _ _ _ xc10) cv_X4_57 ⟨rfl, rfl, Nat.le_of_ble_eq_true rfl, Nat.le_of_ble_eq_true rfl⟩ (rv4 xq3) rfl (Nat.le_of_ble_eq_true rfl) ?_
    exact rtI hr dX4_copy_30 h
  · subst xq53
    have h := iO1 h
    refine g_naload (pc := 19) C dX4_copy_19 0 rfl ?_
    refine g_ifnonnull (pc := 21) C dX4_copy_21 (tgt := 31) rfl (fun xk12 xq52 => ?_) (fun xq52 => ?_)
    · subst xq52
      have h := iO1 h
      refine g_aload (pc := 31) C dX4_copy_31 1 rfl ?_
      obtain ⟨xq18, h⟩ := iC h
      have xq18 := keq xq18
      obtain ⟨xr19, xσ16, xc17, h⟩ := iB h
      refine g_callVi (pc := 33) (As := []) (rest := []) C dX4_copy_33 (fun l => c_X1_isMissing l y _ _ _ _ xc17) cv_X4_181 ⟨rfl, rfl, Nat.le_of_ble_eq_true rfl, Nat.le_of_ble_eq_true rfl⟩ (rv1 xq18) rfl (Nat.le_of_ble_eq_true rfl) ?_
      refine g_if_ne (pc := 36) C dX4_copy_36 (tgt := 47) rfl (fun xq20 => ?_) (fun xq20 => ?_)
      · have h := iN xq20 h
        refine g_aload_n (pc := 47) C dX4_copy_47 rfl 2 rfl ?_
        refine g_ldc (v := (-1000006)) (pc := 48) C dX4_copy_48 wk_X4_224 ?_
        obtain ⟨xr23, xσ21, xc22, h⟩ := iB h
        refine g_callVi (pc := 50) (As := [.int ((-1000006))]) (rest := []) C dX4_copy_50 (fun l => c_X4_finding l y _ _ _ _ _ xc22) cv_X4_57 ⟨rfl, rfl, Nat.le_of_ble_eq_true rfl, Nat.le_of_ble_eq_true rfl⟩ (rv4 xq3) rfl (Nat.le_of_ble_eq_true rfl) ?_
        exact rtI hr dX4_copy_53 h
      · have h := iP xq20 h
        refine g_aload (pc := 39) C dX4_copy_39 0 rfl ?_
        obtain ⟨xq26, h⟩ := iC h
        have xq26 := keq xq26
        obtain ⟨xr27, xσ24, xc25, h⟩ := iB h
        refine g_callVi (pc := 41) (As := []) (rest := []) C dX4_copy_41 (fun l => c_X1_isMissing l y _ _ _ _ xc25) cv_X4_181 ⟨rfl, rfl, Nat.le_of_ble_eq_true rfl, Nat.le_of_ble_eq_true rfl⟩ (rv1 xq26) rfl (Nat.le_of_ble_eq_true rfl) ?_
        refine g_if_eq (pc := 44) C dX4_copy_44 (tgt := 54) rfl (fun xq28 => ?_) (fun xq28 => ?_)
        · have h := iP xq28 h
          refine g_aload (pc := 54) C dX4_copy_54 1 rfl ?_
          refine gf_1_0 (pc := 56) C wf_X4_243 dX4_copy_56 xq18 ?_
          refine g_aload (pc := 59) C dX4_copy_59 0 rfl ?_
          refine gf_1_0 (pc := 61) C wf_X4_243 dX4_copy_61 xq26 ?_
          refine g_icmp_eq (pc := 64) C dX4_copy_64 (tgt := 74) rfl (fun xq29 => ?_) (fun xq29 => ?_)
          · have h := iP xq29 h
            refine g_aload (pc := 74) C dX4_copy_74 1 rfl ?_
            refine g_iload_n (pc := 76) C dX4_copy_76 rfl 4 rfl ?_
            refine g_iload (pc := 77) C dX4_copy_77 7 rfl ?_
            obtain ⟨xr32, xσ30, xc31, h⟩ := iB h
            refine g_callVi (pc := 79) (As := [.int (xa2), .int (xa5)]) (rest := []) C dX4_copy_79 (fun l => c_X1_hasRange l y _ _ _ _ _ _ xc31) cv_X4_246 ⟨rfl, rfl, Nat.le_of_ble_eq_true rfl, Nat.le_of_ble_eq_true rfl⟩ (rv1 xq18) rfl (Nat.le_of_ble_eq_true rfl) ?_
            refine g_if_eq (pc := 82) C dX4_copy_82 (tgt := 97) rfl (fun xq33 => ?_) (fun xq33 => ?_)
            · have h := iP xq33 h
              refine g_aload_n (pc := 97) C dX4_copy_97 rfl 2 rfl ?_
              refine g_ldc (v := (-1000001)) (pc := 98) C dX4_copy_98 wk_X4_56 ?_
              obtain ⟨xr36, xσ34, xc35, h⟩ := iB h
              refine g_callVi (pc := 100) (As := [.int ((-1000001))]) (rest := []) C dX4_copy_100 (fun l => c_X4_finding l y _ _ _ _ _ xc35) cv_X4_57 ⟨rfl, rfl, Nat.le_of_ble_eq_true rfl, Nat.le_of_ble_eq_true rfl⟩ (rv4 xq3) rfl (Nat.le_of_ble_eq_true rfl) ?_
              exact rtI hr dX4_copy_103 h
            · have h := iN xq33 h
              refine g_aload (pc := 85) C dX4_copy_85 0 rfl ?_
              refine g_iload (pc := 87) C dX4_copy_87 6 rfl ?_
              refine g_iload (pc := 89) C dX4_copy_89 7 rfl ?_
              obtain ⟨xr39, xσ37, xc38, h⟩ := iB h
              refine g_callVi (pc := 91) (As := [.int (xa4), .int (xa5)]) (rest := []) C dX4_copy_91 (fun l => c_X1_hasRange l y _ _ _ _ _ _ xc38) cv_X4_246 ⟨rfl, rfl, Nat.le_of_ble_eq_true rfl, Nat.le_of_ble_eq_true rfl⟩ (rv1 xq26) rfl (Nat.le_of_ble_eq_true rfl) ?_
              refine g_if_ne (pc := 94) C dX4_copy_94 (tgt := 104) rfl (fun xq40 => ?_) (fun xq40 => ?_)
              · have h := iN xq40 h
                refine g_aload (pc := 104) C dX4_copy_104 1 rfl ?_
                refine gf_1_2 (pc := 106) C wf_X4_249 dX4_copy_106 xq18 ?_
                refine g_iload_n (pc := 109) C dX4_copy_109 rfl 4 rfl ?_
                refine g_aload (pc := 110) C dX4_copy_110 0 rfl ?_
                refine gf_1_2 (pc := 112) C wf_X4_249 dX4_copy_112 xq26 ?_
                refine g_iload (pc := 115) C dX4_copy_115 6 rfl ?_
                refine g_iload (pc := 117) C dX4_copy_117 7 rfl ?_
                obtain ⟨xq41, h⟩ := iC h
                refine g_cpy (pc := 119) C dX4_copy_119 wm_X4_252 wnative_arraycopy wt_arraycopy wn_J10 (kr_1_2 xq18) (kr_1_2 xq26) xq41 (lr_1_2 xq18) (lr_1_2 xq26) (Nat.le_of_ble_eq_true rfl) (by decide) ?_
                refine g_letS h (fun xσ42 h => ?_)
                refine g_iload (pc := 122) C dX4_copy_122 7 rfl ?_
                exact rtI hr dX4_copy_124 h
              · have h := iP xq40 h
                refine g_aload_n (pc := 97) C dX4_copy_97 rfl 2 rfl ?_
                refine g_ldc (v := (-1000001)) (pc := 98) C dX4_copy_98 wk_X4_56 ?_
                obtain ⟨xr45, xσ43, xc44, h⟩ := iB h
                refine g_callVi (pc := 100) (As := [.int ((-1000001))]) (rest := []) C dX4_copy_100 (fun l => c_X4_finding l y _ _ _ _ _ xc44) cv_X4_57 ⟨rfl, rfl, Nat.le_of_ble_eq_true rfl, Nat.le_of_ble_eq_true rfl⟩ (rv4 xq3) rfl (Nat.le_of_ble_eq_true rfl) ?_
                exact rtI hr dX4_copy_103 h
          · have h := iN xq29 h
            refine g_aload_n (pc := 67) C dX4_copy_67 rfl 2 rfl ?_
            refine g_ldc (v := (-1000003)) (pc := 68) C dX4_copy_68 wk_X4_231 ?_
            obtain ⟨xr48, xσ46, xc47, h⟩ := iB h
            refine g_callVi (pc := 70) (As := [.int ((-1000003))]) (rest := []) C dX4_copy_70 (fun l => c_X4_finding l y _ _ _ _ _ xc47) cv_X4_57 ⟨rfl, rfl, Nat.le_of_ble_eq_true rfl, Nat.le_of_ble_eq_true rfl⟩ (rv4 xq3) rfl (Nat.le_of_ble_eq_true rfl) ?_
            exact rtI hr dX4_copy_73 h
        · have h := iN xq28 h
          refine g_aload_n (pc := 47) C dX4_copy_47 rfl 2 rfl ?_
          refine g_ldc (v := (-1000006)) (pc := 48) C dX4_copy_48 wk_X4_224 ?_
          obtain ⟨xr51, xσ49, xc50, h⟩ := iB h
          refine g_callVi (pc := 50) (As := [.int ((-1000006))]) (rest := []) C dX4_copy_50 (fun l => c_X4_finding l y _ _ _ _ _ xc50) cv_X4_57 ⟨rfl, rfl, Nat.le_of_ble_eq_true rfl, Nat.le_of_ble_eq_true rfl⟩ (rv4 xq3) rfl (Nat.le_of_ble_eq_true rfl) ?_
          exact rtI hr dX4_copy_53 h
    · subst xq52
      have h := iO0 h
      refine g_aload_n (pc := 24) C dX4_copy_24 rfl 2 rfl ?_
      refine g_ldc (v := (-1000001)) (pc := 25) C dX4_copy_25 wk_X4_56 ?_
      obtain ⟨xr15, xσ13, xc14, h⟩ := iB h
      refine g_callVi (pc := 27) (As := [.int ((-1000001))]) (rest := []) C dX4_copy_27 (fun l => c_X4_finding l y _ _ _ _ _ xc14) cv_X4_57 ⟨rfl, rfl, Nat.le_of_ble_eq_true rfl, Nat.le_of_ble_eq_true rfl⟩ (rv4 xq3) rfl (Nat.le_of_ble_eq_true rfl) ?_
      exact rtI hr dX4_copy_30 h
theorem c_X4_copy (l : Launch) (y : YT) (xa0 : Nat) (xa1 : Int32) (xa2 : Int32) (xa3 : Int32) (xa4 : Int32) (xa5 : Int32) (σ σ' : Sto) (r : Int32) (h : F_X4_copy xa0 xa1 xa2 xa3 xa4 xa5 σ = some (r, σ')) : MI l y yX4_copy (Cond.code yX4_copy cX4_copy 8 (some .int) :: TT) rm_X4_copy [.ref (yad y (xa0)), .int (xa1), .int (xa2), .int (xa3), .int (xa4), .int (xa5)] σ r σ' :=
  mkI (by decide) rfl rfl rfl (Nat.le_of_ble_eq_true rfl) (fun x Z C hr => b_X4_copy_0 C hr xa0 xa1 xa2 xa3 xa4 xa5 σ h)
def rm_X4_load : Room := { frames := 2, cells := 0, slots := 0, locals := 42 }
def F_X4_load_b28 (xk_28 : Nat → Option Nat → Int32 → Sto → Option (Int32 × Sto)) (xa0 : Nat) (xa2 : Option Nat) (xa3 : Int32) (σ : Sto) : Option (Int32 × Sto) := if 6 ≤ xa3 then some (xa3, σ) else ocase xa2 none (fun xk2 => ck (kd (xk2) == 1) (if (σ xk2 1) ≤ xa3 then some (xa3, σ) else ck (kd (xa0) == 4) (bnd (F_X1_number (xk2) (xa3) σ) (fun xr8 xσ6 => bnd (F_X0_isSomebodyOrNobody (1) (xr8) xσ6) (fun xr11 xσ9 => if (xr11) = 0 then some (xa3, xσ9) else bnd (F_X1_number (xk2) (xa3) xσ9) (fun xr15 xσ13 => bnd (F_X0_seat (1) (xa3) (xr15) xσ13) (fun xr18 xσ16 => xk_28 xa0 (some (xk2)) (xa3 + 1) xσ16)))))))
def F_X4_load (xa0 : Nat) (xa1 : Int32) (σ : Sto) : Option (Int32 × Sto) := ck (kd (xa0) == 4) (bnd (F_X4_sheetAt (xa0) (xa1) σ) (fun xr4 xσ1 => ocase xr4 (bnd (F_X4_refusalFor none xσ1) (fun xr8 xσ6 => bnd (F_X4_finding (xa0) (xr8) xσ6) (fun xr11 xσ9 => some (xr11, xσ9)))) (fun xk5 => ck (kd (xk5) == 1) (bnd (F_X1_isMissing (xk5) xσ1) (fun xr15 xσ12 => if (xr15) = 0 then lo3 (F_X4_load_b28) 1000 xa0 (some (xk5)) 0 xσ12 else bnd (F_X4_refusalFor (some (xk5)) xσ12) (fun xr19 xσ17 => bnd (F_X4_finding (xa0) (xr19) xσ17) (fun xr22 xσ20 => some (xr22, xσ20))))))))
set_option maxHeartbeats 4000000 in
set_option maxRecDepth 20000 in
theorem b_X4_load_28 {x : XT} {y : YT} {Z : State → Prop} (C : Cx x y (AY y) RX4 cX4_load 4 rm_X4_load) {r : Int32} {σ' : Sto} (hr : RetI x y (AY y) 4 cX4_load Z r σ') (xk_28 : Nat → Option Nat → Int32 → Sto → Option (Int32 × Sto)) (xH28 : ∀ (xa0 : Nat) (xa2 : Option Nat) (xa3 : Int32) (σ : Sto), xk_28 xa0 xa2 xa3 σ = some (r, σ') → GW x y (AY y) 4 Z 28 [(0, .ref (yad y (xa0))), (2, nv y xa2), (3, .int (xa3))] [] σ) (xa0 : Nat) (xa2 : Option Nat) (xa3 : Int32) (σ : Sto) (h : F_X4_load_b28 xk_28 xa0 xa2 xa3 σ = some (r, σ')) : GW x y (AY y) 4 Z 28 [(0, .ref (yad y (xa0))), (2, nv y xa2), (3, .int (xa3))] [] σ := by
  unfold F_X4_load_b28 at h
  refine g_iload_n (pc := 28) C dX4_load_28 rfl 2 rfl ?_
  refine g_bipush (v := 6) (pc := 29) C dX4_load_29 cb_6 ?_
  refine g_icmp_ge (pc := 31) C dX4_load_31 (tgt := 76) rfl (fun xq1 => ?_) (fun xq1 => ?_)
  · have h := iP xq1 h
    refine g_iload_n (pc := 76) C dX4_load_76 rfl 2 rfl ?_
    exact rtI hr dX4_load_77 h
  · have h := iN xq1 h
    refine g_iload_n (pc := 34) C dX4_load_34 rfl 2 rfl ?_
    refine g_naload_n (pc := 35) C dX4_load_35 rfl 1 rfl ?_
    obtain ⟨xk2, rfl, h⟩ := iOs h
    obtain ⟨xq3, h⟩ := iC h
    have xq3 := keq xq3
    refine gf_1_1 (pc := 36) C wf_X4_239 dX4_load_36 xq3 ?_
    refine g_icmp_ge (pc := 39) C dX4_load_39 (tgt := 76) rfl (fun xq4 => ?_) (fun xq4 => ?_)
    · have h := iP xq4 h
      refine g_iload_n (pc := 76) C dX4_load_76 rfl 2 rfl ?_
      exact rtI hr dX4_load_77 h
    · have h := iN xq4 h
      refine g_aload_n (pc := 42) C dX4_load_42 rfl 0 rfl ?_
      obtain ⟨xq5, h⟩ := iC h
      have xq5 := keq xq5
      refine gf_4_0 (pc := 43) C wf_X4_10 dX4_load_43 xq5 ?_
      refine g_aload_n (pc := 46) C dX4_load_46 rfl 1 rfl ?_
      refine g_iload_n (pc := 47) C dX4_load_47 rfl 2 rfl ?_
      obtain ⟨xr8, xσ6, xc7, h⟩ := iB h
      refine g_callVi (pc := 48) (As := [.int (xa3)]) (rest := [.ref (yad y (1))]) C dX4_load_48 (fun l => c_X1_number l y _ _ _ _ _ xc7) cv_X4_258 ⟨rfl, rfl, Nat.le_of_ble_eq_true rfl, Nat.le_of_ble_eq_true rfl⟩ (rv1 xq3) rfl (Nat.le_of_ble_eq_true rfl) ?_
      obtain ⟨xr11, xσ9, xc10, h⟩ := iB h
      refine g_callVi (pc := 51) (As := [.int (xr8)]) (rest := []) C dX4_load_51 (fun l => c_X0_isSomebodyOrNobody l y _ _ _ _ _ xc10) cv_X4_70 ⟨rfl, rfl, Nat.le_of_ble_eq_true rfl, Nat.le_of_ble_eq_true rfl⟩ (rv0 rfl) rfl (Nat.le_of_ble_eq_true rfl) ?_
      refine g_if_eq (pc := 54) C dX4_load_54 (tgt := 76) rfl (fun xq12 => ?_) (fun xq12 => ?_)
      · have h := iP xq12 h
        refine g_iload_n (pc := 76) C dX4_load_76 rfl 2 rfl ?_
        exact rtI hr dX4_load_77 h
      · have h := iN xq12 h
        refine g_aload_n (pc := 57) C dX4_load_57 rfl 0 rfl ?_
        refine gf_4_0 (pc := 58) C wf_X4_10 dX4_load_58 xq5 ?_
        refine g_iload_n (pc := 61) C dX4_load_61 rfl 2 rfl ?_
        refine g_aload_n (pc := 62) C dX4_load_62 rfl 1 rfl ?_
        refine g_iload_n (pc := 63) C dX4_load_63 rfl 2 rfl ?_
        obtain ⟨xr15, xσ13, xc14, h⟩ := iB h
        refine g_callVi (pc := 64) (As := [.int (xa3)]) (rest := [.int (xa3), .ref (yad y (1))]) C dX4_load_64 (fun l => c_X1_number l y _ _ _ _ _ xc14) cv_X4_258 ⟨rfl, rfl, Nat.le_of_ble_eq_true rfl, Nat.le_of_ble_eq_true rfl⟩ (rv1 xq3) rfl (Nat.le_of_ble_eq_true rfl) ?_
        obtain ⟨xr18, xσ16, xc17, h⟩ := iB h
        refine g_callVv (pc := 67) (As := [.int (xa3), .int (xr15)]) (rest := []) C dX4_load_67 (fun l => c_X0_seat l y _ _ _ _ _ _ xc17) cv_X4_76 ⟨rfl, rfl, Nat.le_of_ble_eq_true rfl, Nat.le_of_ble_eq_true rfl⟩ (rv0 rfl) rfl (Nat.le_of_ble_eq_true rfl) ?_
        refine g_iinc (lv' := [(3, .int (xa3 + 1)), (0, .ref (yad y (xa0))), (2, .ref (yad y (xk2)))]) (w := xa3 + 1) (pc := 70) C dX4_load_70 (k := 2) rfl rfl (Nat.le_of_ble_eq_true rfl) rfl ?_
        refine g_goto (pc := 73) C dX4_load_73 (tgt := 28) rfl ?_
        refine g_sub (lv' := [(0, .ref (yad y (xa0))), (2, nv y (some (xk2))), (3, .int (xa3 + 1))]) C [1, 2, 0] rfl ?_
        exact xH28 xa0 (some (xk2)) (xa3 + 1) xσ16 h
theorem l_X4_load_28 {x : XT} {y : YT} {Z : State → Prop} (C : Cx x y (AY y) RX4 cX4_load 4 rm_X4_load) {r : Int32} {σ' : Sto} (hr : RetI x y (AY y) 4 cX4_load Z r σ') (n : Nat) (xa0 : Nat) (xa2 : Option Nat) (xa3 : Int32) (σ : Sto) (h : lo3 (F_X4_load_b28) n xa0 xa2 xa3 σ = some (r, σ')) : GW x y (AY y) 4 Z 28 [(0, .ref (yad y (xa0))), (2, nv y xa2), (3, .int (xa3))] [] σ :=
  lo3_gw (G := fun xa0 xa2 xa3 σ => GW x y (AY y) 4 Z 28 [(0, .ref (yad y (xa0))), (2, nv y xa2), (3, .int (xa3))] [] σ) (fun xk xHk xa0 xa2 xa3 σ h => b_X4_load_28 C hr xk xHk xa0 xa2 xa3 σ h) n xa0 xa2 xa3 σ h
set_option maxHeartbeats 4000000 in
set_option maxRecDepth 20000 in
theorem b_X4_load_0 {x : XT} {y : YT} {Z : State → Prop} (C : Cx x y (AY y) RX4 cX4_load 4 rm_X4_load) {r : Int32} {σ' : Sto} (hr : RetI x y (AY y) 4 cX4_load Z r σ') (xa0 : Nat) (xa1 : Int32) (σ : Sto) (h : F_X4_load xa0 xa1 σ = some (r, σ')) : GW x y (AY y) 4 Z 0 [(0, .ref (yad y (xa0))), (1, .int (xa1))] [] σ := by
  unfold F_X4_load at h
  refine g_aload_n (pc := 0) C dX4_load_0 rfl 0 rfl ?_
  refine g_iload_n (pc := 1) C dX4_load_1 rfl 1 rfl ?_
  obtain ⟨xq3, h⟩ := iC h
  have xq3 := keq xq3
  obtain ⟨xr4, xσ1, xc2, h⟩ := iB h
  refine g_callVq (pc := 2) (As := [.int (xa1)]) (rest := []) C dX4_load_2 (fun l => c_X4_sheetAt l y _ _ _ _ _ xc2) cv_X4_177 ⟨rfl, rfl, Nat.le_of_ble_eq_true rfl, Nat.le_of_ble_eq_true rfl⟩ (rv4 xq3) rfl (Nat.le_of_ble_eq_true rfl) ?_
  refine g_nastore_n (i := 2) (lv' := [(2, nv y xr4), (0, .ref (yad y (xa0))), (1, .int (xa1))]) (pc := 5) C dX4_load_5 rfl (Nat.le_of_ble_eq_true rfl) rfl ?_
  refine g_naload_n (pc := 6) C dX4_load_6 rfl 0 rfl ?_
  refine g_ifnull (pc := 7) C dX4_load_7 (tgt := 17) rfl (fun xq23 => ?_) (fun xk5 xq23 => ?_)
  · subst xq23
    have h := iO0 h
    refine g_aload_n (pc := 17) C dX4_load_17 rfl 1 rfl ?_
    refine g_naload_n (pc := 18) C dX4_load_18 rfl 0 rfl ?_
    obtain ⟨xr8, xσ6, xc7, h⟩ := iB h
    refine g_callSi (pc := 19) (As := [nv y none]) (rest := [.ref (yad y (xa0))]) C dX4_load_19 (fun l => c_X4_refusalFor l y _ _ _ _ xc7) cv_X4_184 ⟨rfl, rfl, Nat.le_of_ble_eq_true rfl, Nat.le_of_ble_eq_true rfl⟩ rfl (Nat.le_of_ble_eq_true rfl) ?_
    obtain ⟨xr11, xσ9, xc10, h⟩ := iB h
    refine g_callVi (pc := 22) (As := [.int (xr8)]) (rest := []) C dX4_load_22 (fun l => c_X4_finding l y _ _ _ _ _ xc10) cv_X4_57 ⟨rfl, rfl, Nat.le_of_ble_eq_true rfl, Nat.le_of_ble_eq_true rfl⟩ (rv4 xq3) rfl (Nat.le_of_ble_eq_true rfl) ?_
    exact rtI hr dX4_load_25 h
  · subst xq23
    have h := iO1 h
    refine g_aload_n (pc := 10) C dX4_load_10 rfl 0 rfl ?_
    obtain ⟨xq14, h⟩ := iC h
    have xq14 := keq xq14
    obtain ⟨xr15, xσ12, xc13, h⟩ := iB h
    refine g_callVi (pc := 11) (As := []) (rest := []) C dX4_load_11 (fun l => c_X1_isMissing l y _ _ _ _ xc13) cv_X4_181 ⟨rfl, rfl, Nat.le_of_ble_eq_true rfl, Nat.le_of_ble_eq_true rfl⟩ (rv1 xq14) rfl (Nat.le_of_ble_eq_true rfl) ?_
    refine g_if_eq (pc := 14) C dX4_load_14 (tgt := 26) rfl (fun xq16 => ?_) (fun xq16 => ?_)
    · have h := iP xq16 h
      refine g_iconst (v := 0) (pc := 26) C dX4_load_26 ci_0 ?_
      refine g_istore_n (i := 3) (lv' := [(3, .int (0)), (2, .ref (yad y (xk5))), (0, .ref (yad y (xa0))), (1, .int (xa1))]) (pc := 27) C dX4_load_27 rfl (Nat.le_of_ble_eq_true rfl) rfl ?_
      refine g_sub (lv' := [(0, .ref (yad y (xa0))), (2, nv y (some (xk5))), (3, .int (0))]) C [2, 1, 0] rfl ?_
      exact l_X4_load_28 C hr 1000 xa0 (some (xk5)) 0 xσ12 h
    · have h := iN xq16 h
      refine g_aload_n (pc := 17) C dX4_load_17 rfl 1 rfl ?_
      refine g_aload_n (pc := 18) C dX4_load_18 rfl 0 rfl ?_
      obtain ⟨xr19, xσ17, xc18, h⟩ := iB h
      refine g_callSi (pc := 19) (As := [nv y (some (xk5))]) (rest := [.ref (yad y (xa0))]) C dX4_load_19 (fun l => c_X4_refusalFor l y _ _ _ _ xc18) cv_X4_184 ⟨rfl, rfl, Nat.le_of_ble_eq_true rfl, Nat.le_of_ble_eq_true rfl⟩ rfl (Nat.le_of_ble_eq_true rfl) ?_
      obtain ⟨xr22, xσ20, xc21, h⟩ := iB h
      refine g_callVi (pc := 22) (As := [.int (xr19)]) (rest := []) C dX4_load_22 (fun l => c_X4_finding l y _ _ _ _ _ xc21) cv_X4_57 ⟨rfl, rfl, Nat.le_of_ble_eq_true rfl, Nat.le_of_ble_eq_true rfl⟩ (rv4 xq3) rfl (Nat.le_of_ble_eq_true rfl) ?_
      exact rtI hr dX4_load_25 h
theorem c_X4_load (l : Launch) (y : YT) (xa0 : Nat) (xa1 : Int32) (σ σ' : Sto) (r : Int32) (h : F_X4_load xa0 xa1 σ = some (r, σ')) : MI l y yX4_load (Cond.code yX4_load cX4_load 4 (some .int) :: TT) rm_X4_load [.ref (yad y (xa0)), .int (xa1)] σ r σ' :=
  mkI (by decide) rfl rfl rfl (Nat.le_of_ble_eq_true rfl) (fun x Z C hr => b_X4_load_0 C hr xa0 xa1 σ h)
def rm_X4_judge : Room := { frames := 2, cells := 0, slots := 0, locals := 42 }
def F_X4_judge_b28 (xk_28 : Nat → Option Nat → Int32 → Sto → Option (Int32 × Sto)) (xa0 : Nat) (xa2 : Option Nat) (xa3 : Int32) (σ : Sto) : Option (Int32 × Sto) := ocase xa2 none (fun xk1 => ck (kd (xk1) == 1) (if (σ xk1 1) ≤ xa3 then some (0, σ) else ck (kd (xa0) == 4) (bnd (F_X0_who (1) (xa3) σ) (fun xr7 xσ5 => ocase xr7 (some (1 + xa3, xσ5)) (fun xk8 => ck (kd (xk8) == 2) (bnd (F_X1_number (xk1) (xa3) xσ5) (fun xr12 xσ10 => if (xσ5 xk8 5) = xr12 then xk_28 xa0 (some (xk1)) (xa3 + 1) xσ10 else some (1 + xa3, xσ10))))))))
def F_X4_judge (xa0 : Nat) (xa1 : Int32) (σ : Sto) : Option (Int32 × Sto) := ck (kd (xa0) == 4) (bnd (F_X4_sheetAt (xa0) (xa1) σ) (fun xr4 xσ1 => ocase xr4 (bnd (F_X4_refusalFor none xσ1) (fun xr8 xσ6 => bnd (F_X4_finding (xa0) (xr8) xσ6) (fun xr11 xσ9 => some (xr11, xσ9)))) (fun xk5 => ck (kd (xk5) == 1) (bnd (F_X1_isMissing (xk5) xσ1) (fun xr15 xσ12 => if (xr15) = 0 then lo3 (F_X4_judge_b28) 1000 xa0 (some (xk5)) 0 xσ12 else bnd (F_X4_refusalFor (some (xk5)) xσ12) (fun xr19 xσ17 => bnd (F_X4_finding (xa0) (xr19) xσ17) (fun xr22 xσ20 => some (xr22, xσ20))))))))
set_option maxHeartbeats 4000000 in
set_option maxRecDepth 20000 in
theorem b_X4_judge_28 {x : XT} {y : YT} {Z : State → Prop} (C : Cx x y (AY y) RX4 cX4_judge 5 rm_X4_judge) {r : Int32} {σ' : Sto} (hr : RetI x y (AY y) 5 cX4_judge Z r σ') (xk_28 : Nat → Option Nat → Int32 → Sto → Option (Int32 × Sto)) (xH28 : ∀ (xa0 : Nat) (xa2 : Option Nat) (xa3 : Int32) (σ : Sto), xk_28 xa0 xa2 xa3 σ = some (r, σ') → GW x y (AY y) 5 Z 28 [(0, .ref (yad y (xa0))), (2, nv y xa2), (3, .int (xa3))] [] σ) (xa0 : Nat) (xa2 : Option Nat) (xa3 : Int32) (σ : Sto) (h : F_X4_judge_b28 xk_28 xa0 xa2 xa3 σ = some (r, σ')) : GW x y (AY y) 5 Z 28 [(0, .ref (yad y (xa0))), (2, nv y xa2), (3, .int (xa3))] [] σ := by
  unfold F_X4_judge_b28 at h
  refine g_iload_n (pc := 28) C dX4_judge_28 rfl 2 rfl ?_
  refine g_naload_n (pc := 29) C dX4_judge_29 rfl 1 rfl ?_
  obtain ⟨xk1, rfl, h⟩ := iOs h
  obtain ⟨xq2, h⟩ := iC h
  have xq2 := keq xq2
  refine gf_1_1 (pc := 30) C wf_X4_239 dX4_judge_30 xq2 ?_
  refine g_icmp_ge (pc := 33) C dX4_judge_33 (tgt := 74) rfl (fun xq3 => ?_) (fun xq3 => ?_)
  · have h := iP xq3 h
    refine g_iconst (v := 0) (pc := 74) C dX4_judge_74 ci_0 ?_
    exact rtI hr dX4_judge_75 h
  · have h := iN xq3 h
    refine g_aload_n (pc := 36) C dX4_judge_36 rfl 0 rfl ?_
    obtain ⟨xq4, h⟩ := iC h
    have xq4 := keq xq4
    refine gf_4_0 (pc := 37) C wf_X4_10 dX4_judge_37 xq4 ?_
    refine g_iload_n (pc := 40) C dX4_judge_40 rfl 2 rfl ?_
    obtain ⟨xr7, xσ5, xc6, h⟩ := iB h
    refine g_callVq (pc := 41) (As := [.int (xa3)]) (rest := []) C dX4_judge_41 (fun l => c_X0_who l y _ _ _ _ _ xc6) cv_X4_90 ⟨rfl, rfl, Nat.le_of_ble_eq_true rfl, Nat.le_of_ble_eq_true rfl⟩ (rv0 rfl) rfl (Nat.le_of_ble_eq_true rfl) ?_
    refine g_nastore (i := 4) (lv' := [(4, nv y xr7), (0, .ref (yad y (xa0))), (2, .ref (yad y (xk1))), (3, .int (xa3))]) (pc := 44) C dX4_judge_44 (Nat.le_of_ble_eq_true rfl) rfl ?_
    refine g_naload (pc := 46) C dX4_judge_46 0 rfl ?_
    refine g_ifnull (pc := 48) C dX4_judge_48 (tgt := 64) rfl (fun xq14 => ?_) (fun xk8 xq14 => ?_)
    · subst xq14
      have h := iO0 h
      refine g_iconst (v := 1) (pc := 64) C dX4_judge_64 ci_1 ?_
      refine g_iload_n (pc := 65) C dX4_judge_65 rfl 3 rfl ?_
      refine g_iadd (pc := 66) C dX4_judge_66 ?_
      exact rtI hr dX4_judge_67 h
    · subst xq14
      have h := iO1 h
      refine g_aload (pc := 51) C dX4_judge_51 0 rfl ?_
      obtain ⟨xq9, h⟩ := iC h
      have xq9 := keq xq9
      refine gf_2_5 (pc := 53) C wf_X4_261 dX4_judge_53 xq9 ?_
      refine g_aload_n (pc := 56) C dX4_judge_56 rfl 2 rfl ?_
      refine g_iload_n (pc := 57) C dX4_judge_57 rfl 3 rfl ?_
      obtain ⟨xr12, xσ10, xc11, h⟩ := iB h
      refine g_callVi (pc := 58) (As := [.int (xa3)]) (rest := [.int (xσ5 xk8 5)]) C dX4_judge_58 (fun l => c_X1_number l y _ _ _ _ _ xc11) cv_X4_258 ⟨rfl, rfl, Nat.le_of_ble_eq_true rfl, Nat.le_of_ble_eq_true rfl⟩ (rv1 xq2) rfl (Nat.le_of_ble_eq_true rfl) ?_
      refine g_icmp_eq (pc := 61) C dX4_judge_61 (tgt := 68) rfl (fun xq13 => ?_) (fun xq13 => ?_)
      · have h := iP xq13 h
        refine g_iinc (lv' := [(3, .int (xa3 + 1)), (4, .ref (yad y (xk8))), (0, .ref (yad y (xa0))), (2, .ref (yad y (xk1)))]) (w := xa3 + 1) (pc := 68) C dX4_judge_68 (k := 3) rfl rfl (Nat.le_of_ble_eq_true rfl) rfl ?_
        refine g_goto (pc := 71) C dX4_judge_71 (tgt := 28) rfl ?_
        refine g_sub (lv' := [(0, .ref (yad y (xa0))), (2, nv y (some (xk1))), (3, .int (xa3 + 1))]) C [2, 3, 0] rfl ?_
        exact xH28 xa0 (some (xk1)) (xa3 + 1) xσ10 h
      · have h := iN xq13 h
        refine g_iconst (v := 1) (pc := 64) C dX4_judge_64 ci_1 ?_
        refine g_iload_n (pc := 65) C dX4_judge_65 rfl 3 rfl ?_
        refine g_iadd (pc := 66) C dX4_judge_66 ?_
        exact rtI hr dX4_judge_67 h
theorem l_X4_judge_28 {x : XT} {y : YT} {Z : State → Prop} (C : Cx x y (AY y) RX4 cX4_judge 5 rm_X4_judge) {r : Int32} {σ' : Sto} (hr : RetI x y (AY y) 5 cX4_judge Z r σ') (n : Nat) (xa0 : Nat) (xa2 : Option Nat) (xa3 : Int32) (σ : Sto) (h : lo3 (F_X4_judge_b28) n xa0 xa2 xa3 σ = some (r, σ')) : GW x y (AY y) 5 Z 28 [(0, .ref (yad y (xa0))), (2, nv y xa2), (3, .int (xa3))] [] σ :=
  lo3_gw (G := fun xa0 xa2 xa3 σ => GW x y (AY y) 5 Z 28 [(0, .ref (yad y (xa0))), (2, nv y xa2), (3, .int (xa3))] [] σ) (fun xk xHk xa0 xa2 xa3 σ h => b_X4_judge_28 C hr xk xHk xa0 xa2 xa3 σ h) n xa0 xa2 xa3 σ h
set_option maxHeartbeats 4000000 in
set_option maxRecDepth 20000 in
theorem b_X4_judge_0 {x : XT} {y : YT} {Z : State → Prop} (C : Cx x y (AY y) RX4 cX4_judge 5 rm_X4_judge) {r : Int32} {σ' : Sto} (hr : RetI x y (AY y) 5 cX4_judge Z r σ') (xa0 : Nat) (xa1 : Int32) (σ : Sto) (h : F_X4_judge xa0 xa1 σ = some (r, σ')) : GW x y (AY y) 5 Z 0 [(0, .ref (yad y (xa0))), (1, .int (xa1))] [] σ := by
  unfold F_X4_judge at h
  refine g_aload_n (pc := 0) C dX4_judge_0 rfl 0 rfl ?_
  refine g_iload_n (pc := 1) C dX4_judge_1 rfl 1 rfl ?_
  obtain ⟨xq3, h⟩ := iC h
  have xq3 := keq xq3
  obtain ⟨xr4, xσ1, xc2, h⟩ := iB h
  refine g_callVq (pc := 2) (As := [.int (xa1)]) (rest := []) C dX4_judge_2 (fun l => c_X4_sheetAt l y _ _ _ _ _ xc2) cv_X4_177 ⟨rfl, rfl, Nat.le_of_ble_eq_true rfl, Nat.le_of_ble_eq_true rfl⟩ (rv4 xq3) rfl (Nat.le_of_ble_eq_true rfl) ?_
  refine g_nastore_n (i := 2) (lv' := [(2, nv y xr4), (0, .ref (yad y (xa0))), (1, .int (xa1))]) (pc := 5) C dX4_judge_5 rfl (Nat.le_of_ble_eq_true rfl) rfl ?_
  refine g_naload_n (pc := 6) C dX4_judge_6 rfl 0 rfl ?_
  refine g_ifnull (pc := 7) C dX4_judge_7 (tgt := 17) rfl (fun xq23 => ?_) (fun xk5 xq23 => ?_)
  · subst xq23
    have h := iO0 h
    refine g_aload_n (pc := 17) C dX4_judge_17 rfl 1 rfl ?_
    refine g_naload_n (pc := 18) C dX4_judge_18 rfl 0 rfl ?_
    obtain ⟨xr8, xσ6, xc7, h⟩ := iB h
    refine g_callSi (pc := 19) (As := [nv y none]) (rest := [.ref (yad y (xa0))]) C dX4_judge_19 (fun l => c_X4_refusalFor l y _ _ _ _ xc7) cv_X4_184 ⟨rfl, rfl, Nat.le_of_ble_eq_true rfl, Nat.le_of_ble_eq_true rfl⟩ rfl (Nat.le_of_ble_eq_true rfl) ?_
    obtain ⟨xr11, xσ9, xc10, h⟩ := iB h
    refine g_callVi (pc := 22) (As := [.int (xr8)]) (rest := []) C dX4_judge_22 (fun l => c_X4_finding l y _ _ _ _ _ xc10) cv_X4_57 ⟨rfl, rfl, Nat.le_of_ble_eq_true rfl, Nat.le_of_ble_eq_true rfl⟩ (rv4 xq3) rfl (Nat.le_of_ble_eq_true rfl) ?_
    exact rtI hr dX4_judge_25 h
  · subst xq23
    have h := iO1 h
    refine g_aload_n (pc := 10) C dX4_judge_10 rfl 0 rfl ?_
    obtain ⟨xq14, h⟩ := iC h
    have xq14 := keq xq14
    obtain ⟨xr15, xσ12, xc13, h⟩ := iB h
    refine g_callVi (pc := 11) (As := []) (rest := []) C dX4_judge_11 (fun l => c_X1_isMissing l y _ _ _ _ xc13) cv_X4_181 ⟨rfl, rfl, Nat.le_of_ble_eq_true rfl, Nat.le_of_ble_eq_true rfl⟩ (rv1 xq14) rfl (Nat.le_of_ble_eq_true rfl) ?_
    refine g_if_eq (pc := 14) C dX4_judge_14 (tgt := 26) rfl (fun xq16 => ?_) (fun xq16 => ?_)
    · have h := iP xq16 h
      refine g_iconst (v := 0) (pc := 26) C dX4_judge_26 ci_0 ?_
      refine g_istore_n (i := 3) (lv' := [(3, .int (0)), (2, .ref (yad y (xk5))), (0, .ref (yad y (xa0))), (1, .int (xa1))]) (pc := 27) C dX4_judge_27 rfl (Nat.le_of_ble_eq_true rfl) rfl ?_
      refine g_sub (lv' := [(0, .ref (yad y (xa0))), (2, nv y (some (xk5))), (3, .int (0))]) C [2, 1, 0] rfl ?_
      exact l_X4_judge_28 C hr 1000 xa0 (some (xk5)) 0 xσ12 h
    · have h := iN xq16 h
      refine g_aload_n (pc := 17) C dX4_judge_17 rfl 1 rfl ?_
      refine g_aload_n (pc := 18) C dX4_judge_18 rfl 0 rfl ?_
      obtain ⟨xr19, xσ17, xc18, h⟩ := iB h
      refine g_callSi (pc := 19) (As := [nv y (some (xk5))]) (rest := [.ref (yad y (xa0))]) C dX4_judge_19 (fun l => c_X4_refusalFor l y _ _ _ _ xc18) cv_X4_184 ⟨rfl, rfl, Nat.le_of_ble_eq_true rfl, Nat.le_of_ble_eq_true rfl⟩ rfl (Nat.le_of_ble_eq_true rfl) ?_
      obtain ⟨xr22, xσ20, xc21, h⟩ := iB h
      refine g_callVi (pc := 22) (As := [.int (xr19)]) (rest := []) C dX4_judge_22 (fun l => c_X4_finding l y _ _ _ _ _ xc21) cv_X4_57 ⟨rfl, rfl, Nat.le_of_ble_eq_true rfl, Nat.le_of_ble_eq_true rfl⟩ (rv4 xq3) rfl (Nat.le_of_ble_eq_true rfl) ?_
      exact rtI hr dX4_judge_25 h
theorem c_X4_judge (l : Launch) (y : YT) (xa0 : Nat) (xa1 : Int32) (σ σ' : Sto) (r : Int32) (h : F_X4_judge xa0 xa1 σ = some (r, σ')) : MI l y yX4_judge (Cond.code yX4_judge cX4_judge 5 (some .int) :: TT) rm_X4_judge [.ref (yad y (xa0)), .int (xa1)] σ r σ' :=
  mkI (by decide) rfl rfl rfl (Nat.le_of_ble_eq_true rfl) (fun x Z C hr => b_X4_judge_0 C hr xa0 xa1 σ h)
def rm_X4_image : Room := { frames := 2, cells := 0, slots := 0, locals := 82 }
def F_X4_image (xa0 : Nat) (σ : Sto) : Option (Int32 × Sto) := ck (kd (xa0) == 4) (bnd (F_X0_become (25) (1) σ) (fun xr4 xσ2 => lts (up2 xσ2 (xa0) 3 (1)) (fun xσ5 => some (1, xσ5))))
set_option maxHeartbeats 4000000 in
set_option maxRecDepth 20000 in
theorem b_X4_image_0 {x : XT} {y : YT} {Z : State → Prop} (C : Cx x y (AY y) RX4 cX4_image 1 rm_X4_image) {r : Int32} {σ' : Sto} (hr : RetI x y (AY y) 1 cX4_image Z r σ') (xa0 : Nat) (σ : Sto) (h : F_X4_image xa0 σ = some (r, σ')) : GW x y (AY y) 1 Z 0 [(0, .ref (yad y (xa0)))] [] σ := by
  unfold F_X4_image at h
  refine g_aload_n (pc := 0) C dX4_image_0 rfl 0 rfl ?_
  obtain ⟨xq1, h⟩ := iC h
  have xq1 := keq xq1
  refine gf_4_2 (pc := 1) C wf_X4_19 dX4_image_1 xq1 ?_
  refine g_aload_n (pc := 4) C dX4_image_4 rfl 0 rfl ?_
  refine gf_4_0 (pc := 5) C wf_X4_10 dX4_image_5 xq1 ?_
  obtain ⟨xr4, xσ2, xc3, h⟩ := iB h
  refine g_callVv (pc := 8) (As := [.ref (yad y (1))]) (rest := []) C dX4_image_8 (fun l => c_X0_become l y _ _ _ _ _ xc3) cv_X4_140 ⟨rfl, rfl, Nat.le_of_ble_eq_true rfl, Nat.le_of_ble_eq_true rfl⟩ (rv0 rfl) rfl (Nat.le_of_ble_eq_true rfl) ?_
  refine g_aload_n (pc := 11) C dX4_image_11 rfl 0 rfl ?_
  refine g_iconst (v := 1) (pc := 12) C dX4_image_12 ci_1 ?_
  refine gp_4_3 (pc := 13) C wf_X4_22 dX4_image_13 xq1 (by decide) ?_
  refine g_letS h (fun xσ5 h => ?_)
  refine g_iconst (v := 1) (pc := 16) C dX4_image_16 ci_1 ?_
  exact rtI hr dX4_image_17 h
theorem c_X4_image (l : Launch) (y : YT) (xa0 : Nat) (σ σ' : Sto) (r : Int32) (h : F_X4_image xa0 σ = some (r, σ')) : MI l y yX4_image (Cond.code yX4_image cX4_image 1 (some .int) :: TT) rm_X4_image [.ref (yad y (xa0))] σ r σ' :=
  mkI (by decide) rfl rfl rfl (Nat.le_of_ble_eq_true rfl) (fun x Z C hr => b_X4_image_0 C hr xa0 σ h)
def rm_X4_undo : Room := { frames := 2, cells := 0, slots := 0, locals := 82 }
def F_X4_undo (xa0 : Nat) (σ : Sto) : Option (Int32 × Sto) := ck (kd (xa0) == 4) (if (σ xa0 3) = 0 then bnd (F_X4_finding (xa0) (-1000004) σ) (fun xr8 xσ6 => some (xr8, xσ6)) else bnd (F_X0_become (1) (25) σ) (fun xr5 xσ3 => some (xσ3 1 4, xσ3)))
set_option maxHeartbeats 4000000 in
set_option maxRecDepth 20000 in
theorem b_X4_undo_0 {x : XT} {y : YT} {Z : State → Prop} (C : Cx x y (AY y) RX4 cX4_undo 1 rm_X4_undo) {r : Int32} {σ' : Sto} (hr : RetI x y (AY y) 1 cX4_undo Z r σ') (xa0 : Nat) (σ : Sto) (h : F_X4_undo xa0 σ = some (r, σ')) : GW x y (AY y) 1 Z 0 [(0, .ref (yad y (xa0)))] [] σ := by
  unfold F_X4_undo at h
  refine g_aload_n (pc := 0) C dX4_undo_0 rfl 0 rfl ?_
  obtain ⟨xq1, h⟩ := iC h
  have xq1 := keq xq1
  refine gf_4_3 (pc := 1) C wf_X4_22 dX4_undo_1 xq1 ?_
  refine g_if_ne (pc := 4) C dX4_undo_4 (tgt := 14) rfl (fun xq2 => ?_) (fun xq2 => ?_)
  · have h := iN xq2 h
    refine g_aload_n (pc := 14) C dX4_undo_14 rfl 0 rfl ?_
    refine gf_4_0 (pc := 15) C wf_X4_10 dX4_undo_15 xq1 ?_
    refine g_aload_n (pc := 18) C dX4_undo_18 rfl 0 rfl ?_
    refine gf_4_2 (pc := 19) C wf_X4_19 dX4_undo_19 xq1 ?_
    obtain ⟨xr5, xσ3, xc4, h⟩ := iB h
    refine g_callVv (pc := 22) (As := [.ref (yad y (25))]) (rest := []) C dX4_undo_22 (fun l => c_X0_become l y _ _ _ _ _ xc4) cv_X4_140 ⟨rfl, rfl, Nat.le_of_ble_eq_true rfl, Nat.le_of_ble_eq_true rfl⟩ (rv0 rfl) rfl (Nat.le_of_ble_eq_true rfl) ?_
    refine g_aload_n (pc := 25) C dX4_undo_25 rfl 0 rfl ?_
    refine gf_4_0 (pc := 26) C wf_X4_10 dX4_undo_26 xq1 ?_
    refine gf_0_4 (pc := 29) C wf_X4_116 dX4_undo_29 rfl ?_
    exact rtI hr dX4_undo_32 h
  · have h := iP xq2 h
    refine g_aload_n (pc := 7) C dX4_undo_7 rfl 0 rfl ?_
    refine g_ldc (v := (-1000004)) (pc := 8) C dX4_undo_8 wk_X4_151 ?_
    obtain ⟨xr8, xσ6, xc7, h⟩ := iB h
    refine g_callVi (pc := 10) (As := [.int ((-1000004))]) (rest := []) C dX4_undo_10 (fun l => c_X4_finding l y _ _ _ _ _ xc7) cv_X4_57 ⟨rfl, rfl, Nat.le_of_ble_eq_true rfl, Nat.le_of_ble_eq_true rfl⟩ (rv4 xq1) rfl (Nat.le_of_ble_eq_true rfl) ?_
    exact rtI hr dX4_undo_13 h
theorem c_X4_undo (l : Launch) (y : YT) (xa0 : Nat) (σ σ' : Sto) (r : Int32) (h : F_X4_undo xa0 σ = some (r, σ')) : MI l y yX4_undo (Cond.code yX4_undo cX4_undo 1 (some .int) :: TT) rm_X4_undo [.ref (yad y (xa0))] σ r σ' :=
  mkI (by decide) rfl rfl rfl (Nat.le_of_ble_eq_true rfl) (fun x Z C hr => b_X4_undo_0 C hr xa0 σ h)

/-! methods, by program: what each does to the store (F_), its walk (b_), its contract (c_): X4_isTallAsTold, X4_fits, X4_tall, X4_isKindAsTold, X4_kinds, X4_lamps, X4_lightsWithoutFaults, X4_power -/
def rm_X4_isTallAsTold : Room := { frames := 3, cells := 0, slots := 0, locals := 84 }
def F_X4_isTallAsTold_b26 (xk_26 : Nat → Nat → Option Nat → Int32 → Sto → Option (Int32 × Sto)) (xa0 : Nat) (xa1 : Nat) (xa4 : Option Nat) (xa5 : Int32) (σ : Sto) : Option (Int32 × Sto) := if 4 ≤ xa5 then some (1, σ) else ck (kd (xa1) == 1) (if (σ xa1 1) ≤ xa5 then some (1, σ) else ck (kd (xa0) == 4) (ocase xa4 none (fun xk5 => bnd (F_X0_faultsOf (13) (xk5) (xa5) σ) (fun xr8 xσ6 => bnd (F_X1_allows (xa1) (xa5) (xr8) xσ6) (fun xr11 xσ9 => if (xr11) = 0 then some (0, xσ9) else xk_26 xa0 xa1 (some (xk5)) (xa5 + 1) xσ9)))))
def F_X4_isTallAsTold (xa0 : Nat) (xa1 : Nat) (xa2 : Int32) (xa3 : Int32) (σ : Sto) : Option (Int32 × Sto) := ck (kd (xa0) == 4) (bnd (F_X0_who (13) (xa2) σ) (fun xr4 xσ2 => ocase xr4 (some (0, xσ2)) (fun xk5 => ck (kd (xk5) == 2) (lts (up2 xσ2 (xk5) 1 (xa3)) (fun xσ7 => lo4 (F_X4_isTallAsTold_b26) 1000 xa0 xa1 (some (xk5)) 0 xσ7)))))
set_option maxHeartbeats 4000000 in
set_option maxRecDepth 20000 in
theorem b_X4_isTallAsTold_26 {x : XT} {y : YT} {Z : State → Prop} (C : Cx x y (AY y) RX4 cX4_isTallAsTold 6 rm_X4_isTallAsTold) {r : Int32} {σ' : Sto} (hr : RetZ x y (AY y) 6 cX4_isTallAsTold Z r σ') (xk_26 : Nat → Nat → Option Nat → Int32 → Sto → Option (Int32 × Sto)) (xH26 : ∀ (xa0 : Nat) (xa1 : Nat) (xa4 : Option Nat) (xa5 : Int32) (σ : Sto), xk_26 xa0 xa1 xa4 xa5 σ = some (r, σ') → GW x y (AY y) 6 Z 26 [(0, .ref (yad y (xa0))), (1, .ref (yad y (xa1))), (4, nv y xa4), (5, .int (xa5))] [] σ) (xa0 : Nat) (xa1 : Nat) (xa4 : Option Nat) (xa5 : Int32) (σ : Sto) (h : F_X4_isTallAsTold_b26 xk_26 xa0 xa1 xa4 xa5 σ = some (r, σ')) : GW x y (AY y) 6 Z 26 [(0, .ref (yad y (xa0))), (1, .ref (yad y (xa1))), (4, nv y xa4), (5, .int (xa5))] [] σ := by
  unfold F_X4_isTallAsTold_b26 at h
  refine g_iload (pc := 26) C dX4_isTallAsTold_26 3 rfl ?_
  refine g_iconst (v := 4) (pc := 28) C dX4_isTallAsTold_28 ci_4 ?_
  refine g_icmp_ge (pc := 29) C dX4_isTallAsTold_29 (tgt := 69) rfl (fun xq1 => ?_) (fun xq1 => ?_)
  · have h := iP xq1 h
    refine g_iconst (v := 1) (pc := 69) C dX4_isTallAsTold_69 ci_1 ?_
    exact rtZ hr dX4_isTallAsTold_70 (by decide) h
  · have h := iN xq1 h
    refine g_iload (pc := 32) C dX4_isTallAsTold_32 3 rfl ?_
    refine g_aload_n (pc := 34) C dX4_isTallAsTold_34 rfl 1 rfl ?_
    obtain ⟨xq2, h⟩ := iC h
    have xq2 := keq xq2
    refine gf_1_1 (pc := 35) C wf_X4_239 dX4_isTallAsTold_35 xq2 ?_
    refine g_icmp_ge (pc := 38) C dX4_isTallAsTold_38 (tgt := 69) rfl (fun xq3 => ?_) (fun xq3 => ?_)
    · have h := iP xq3 h
      refine g_iconst (v := 1) (pc := 69) C dX4_isTallAsTold_69 ci_1 ?_
      exact rtZ hr dX4_isTallAsTold_70 (by decide) h
    · have h := iN xq3 h
      refine g_aload_n (pc := 41) C dX4_isTallAsTold_41 rfl 1 rfl ?_
      refine g_iload (pc := 42) C dX4_isTallAsTold_42 3 rfl ?_
      refine g_aload_n (pc := 44) C dX4_isTallAsTold_44 rfl 0 rfl ?_
      obtain ⟨xq4, h⟩ := iC h
      have xq4 := keq xq4
      refine gf_4_1 (pc := 45) C wf_X4_16 dX4_isTallAsTold_45 xq4 ?_
      refine g_naload (pc := 48) C dX4_isTallAsTold_48 2 rfl ?_
      refine g_iload (pc := 50) C dX4_isTallAsTold_50 3 rfl ?_
      obtain ⟨xk5, rfl, h⟩ := iOs h
      obtain ⟨xr8, xσ6, xc7, h⟩ := iB h
      refine g_callVi (pc := 52) (As := [.ref (yad y (xk5)), .int (xa5)]) (rest := [.int (xa5), .ref (yad y (xa1))]) C dX4_isTallAsTold_52 (fun l => c_X0_faultsOf l y _ _ _ _ _ _ xc7) cv_X4_107 ⟨rfl, rfl, Nat.le_of_ble_eq_true rfl, Nat.le_of_ble_eq_true rfl⟩ (rv0 rfl) rfl (Nat.le_of_ble_eq_true rfl) ?_
      obtain ⟨xr11, xσ9, xc10, h⟩ := iB h
      refine g_callVi (pc := 55) (As := [.int (xa5), .int (xr8)]) (rest := []) C dX4_isTallAsTold_55 (fun l => c_X1_allows l y _ _ _ _ _ _ xc10) cv_X4_270 ⟨rfl, rfl, Nat.le_of_ble_eq_true rfl, Nat.le_of_ble_eq_true rfl⟩ (rv1 xq2) rfl (Nat.le_of_ble_eq_true rfl) ?_
      refine g_if_ne (pc := 58) C dX4_isTallAsTold_58 (tgt := 63) rfl (fun xq12 => ?_) (fun xq12 => ?_)
      · have h := iN xq12 h
        refine g_iinc (lv' := [(5, .int (xa5 + 1)), (0, .ref (yad y (xa0))), (1, .ref (yad y (xa1))), (4, .ref (yad y (xk5)))]) (w := xa5 + 1) (pc := 63) C dX4_isTallAsTold_63 (k := 3) rfl rfl (Nat.le_of_ble_eq_true rfl) rfl ?_
        refine g_goto (pc := 66) C dX4_isTallAsTold_66 (tgt := 26) rfl ?_
        refine g_sub (lv' := [(0, .ref (yad y (xa0))), (1, .ref (yad y (xa1))), (4, nv y (some (xk5))), (5, .int (xa5 + 1))]) C [1, 2, 3, 0] rfl ?_
        exact xH26 xa0 xa1 (some (xk5)) (xa5 + 1) xσ9 h
      · have h := iP xq12 h
        refine g_iconst (v := 0) (pc := 61) C dX4_isTallAsTold_61 ci_0 ?_
        exact rtZ hr dX4_isTallAsTold_62 (by decide) h
theorem l_X4_isTallAsTold_26 {x : XT} {y : YT} {Z : State → Prop} (C : Cx x y (AY y) RX4 cX4_isTallAsTold 6 rm_X4_isTallAsTold) {r : Int32} {σ' : Sto} (hr : RetZ x y (AY y) 6 cX4_isTallAsTold Z r σ') (n : Nat) (xa0 : Nat) (xa1 : Nat) (xa4 : Option Nat) (xa5 : Int32) (σ : Sto) (h : lo4 (F_X4_isTallAsTold_b26) n xa0 xa1 xa4 xa5 σ = some (r, σ')) : GW x y (AY y) 6 Z 26 [(0, .ref (yad y (xa0))), (1, .ref (yad y (xa1))), (4, nv y xa4), (5, .int (xa5))] [] σ :=
  lo4_gw (G := fun xa0 xa1 xa4 xa5 σ => GW x y (AY y) 6 Z 26 [(0, .ref (yad y (xa0))), (1, .ref (yad y (xa1))), (4, nv y xa4), (5, .int (xa5))] [] σ) (fun xk xHk xa0 xa1 xa4 xa5 σ h => b_X4_isTallAsTold_26 C hr xk xHk xa0 xa1 xa4 xa5 σ h) n xa0 xa1 xa4 xa5 σ h
set_option maxHeartbeats 4000000 in
set_option maxRecDepth 20000 in
theorem b_X4_isTallAsTold_0 {x : XT} {y : YT} {Z : State → Prop} (C : Cx x y (AY y) RX4 cX4_isTallAsTold 6 rm_X4_isTallAsTold) {r : Int32} {σ' : Sto} (hr : RetZ x y (AY y) 6 cX4_isTallAsTold Z r σ') (xa0 : Nat) (xa1 : Nat) (xa2 : Int32) (xa3 : Int32) (σ : Sto) (h : F_X4_isTallAsTold xa0 xa1 xa2 xa3 σ = some (r, σ')) : GW x y (AY y) 6 Z 0 [(0, .ref (yad y (xa0))), (1, .ref (yad y (xa1))), (2, .int (xa2)), (3, .int (xa3))] [] σ := by
  unfold F_X4_isTallAsTold at h
  refine g_aload_n (pc := 0) C dX4_isTallAsTold_0 rfl 0 rfl ?_
  obtain ⟨xq1, h⟩ := iC h
  have xq1 := keq xq1
  refine gf_4_1 (pc := 1) C wf_X4_16 dX4_isTallAsTold_1 xq1 ?_
  refine g_iload_n (pc := 4) C dX4_isTallAsTold_4 rfl 2 rfl ?_
  obtain ⟨xr4, xσ2, xc3, h⟩ := iB h
  refine g_callVq (pc := 5) (As := [.int (xa2)]) (rest := []) C dX4_isTallAsTold_5 (fun l => c_X0_who l y _ _ _ _ _ xc3) cv_X4_90 ⟨rfl, rfl, Nat.le_of_ble_eq_true rfl, Nat.le_of_ble_eq_true rfl⟩ (rv0 rfl) rfl (Nat.le_of_ble_eq_true rfl) ?_
  refine g_nastore (i := 4) (lv' := [(4, nv y xr4), (0, .ref (yad y (xa0))), (1, .ref (yad y (xa1))), (2, .int (xa2)), (3, .int (xa3))]) (pc := 8) C dX4_isTallAsTold_8 (Nat.le_of_ble_eq_true rfl) rfl ?_
  refine g_naload (pc := 10) C dX4_isTallAsTold_10 0 rfl ?_
  refine g_ifnonnull (pc := 12) C dX4_isTallAsTold_12 (tgt := 17) rfl (fun xk5 xq8 => ?_) (fun xq8 => ?_)
  · subst xq8
    have h := iO1 h
    refine g_aload (pc := 17) C dX4_isTallAsTold_17 0 rfl ?_
    refine g_iload_n (pc := 19) C dX4_isTallAsTold_19 rfl 4 rfl ?_
    obtain ⟨xq6, h⟩ := iC h
    have xq6 := keq xq6
    refine gp_2_1 (pc := 20) C wf_X4_267 dX4_isTallAsTold_20 xq6 ?_
    refine g_letS h (fun xσ7 h => ?_)
    refine g_iconst (v := 0) (pc := 23) C dX4_isTallAsTold_23 ci_0 ?_
    refine g_istore (i := 5) (lv' := [(5, .int (0)), (4, .ref (yad y (xk5))), (0, .ref (yad y (xa0))), (1, .ref (yad y (xa1))), (2, .int (xa2)), (3, .int (xa3))]) (pc := 24) C dX4_isTallAsTold_24 (Nat.le_of_ble_eq_true rfl) rfl ?_
    refine g_sub (lv' := [(0, .ref (yad y (xa0))), (1, .ref (yad y (xa1))), (4, nv y (some (xk5))), (5, .int (0))]) C [2, 3, 1, 0] rfl ?_
    exact l_X4_isTallAsTold_26 C hr 1000 xa0 xa1 (some (xk5)) 0 xσ7 h
  · subst xq8
    have h := iO0 h
    refine g_iconst (v := 0) (pc := 15) C dX4_isTallAsTold_15 ci_0 ?_
    exact rtZ hr dX4_isTallAsTold_16 (by decide) h
theorem c_X4_isTallAsTold (l : Launch) (y : YT) (xa0 : Nat) (xa1 : Nat) (xa2 : Int32) (xa3 : Int32) (σ σ' : Sto) (r : Int32) (h : F_X4_isTallAsTold xa0 xa1 xa2 xa3 σ = some (r, σ')) : MI l y yX4_isTallAsTold (Cond.code yX4_isTallAsTold cX4_isTallAsTold 6 (some .boolean) :: TT) rm_X4_isTallAsTold [.ref (yad y (xa0)), .ref (yad y (xa1)), .int (xa2), .int (xa3)] σ r σ' :=
  mkZ (by decide) rfl rfl rfl (Nat.le_of_ble_eq_true rfl) (fun x Z C hr => b_X4_isTallAsTold_0 C hr xa0 xa1 xa2 xa3 σ h)
def rm_X4_fits : Room := { frames := 4, cells := 0, slots := 0, locals := 109 }
def F_X4_fits_b54 (xk_54 : Nat → Int32 → Option Nat → Int32 → Int32 → Sto → Option (Int32 × Sto)) (xa0 : Nat) (xa2 : Int32) (xa3 : Option Nat) (xa4 : Int32) (xa5 : Int32) (σ : Sto) : Option (Int32 × Sto) := bnd (F_X2_mostOf 1 σ) (fun xr3 xσ1 => if xr3 < xa5 then some (xa4, xσ1) else ocase xa3 none (fun xk5 => ck (kd (xa0) == 4) (bnd (F_X4_isTallAsTold (xa0) (xk5) (xa2) (xa5) xσ1) (fun xr9 xσ6 => if (xr9) = 0 then xk_54 xa0 xa2 (some (xk5)) xa4 (xa5 + 1) xσ6 else xk_54 xa0 xa2 (some (xk5)) (xa4 + 1) (xa5 + 1) xσ6))))
def F_X4_fits (xa0 : Nat) (xa1 : Int32) (xa2 : Int32) (σ : Sto) : Option (Int32 × Sto) := ck (kd (xa0) == 4) (bnd (F_X4_sheetAt (xa0) (xa1) σ) (fun xr4 xσ1 => ocase xr4 (bnd (F_X4_refusalFor none xσ1) (fun xr8 xσ6 => bnd (F_X4_finding (xa0) (xr8) xσ6) (fun xr11 xσ9 => some (xr11, xσ9)))) (fun xk5 => ck (kd (xk5) == 1) (bnd (F_X1_isMissing (xk5) xσ1) (fun xr15 xσ12 => if (xr15) = 0 then bnd (F_X0_isSitter (1) (xa2) xσ12) (fun xr25 xσ23 => if (xr25) = 0 then bnd (F_X4_refusalFor (some (xk5)) xσ23) (fun xr32 xσ30 => bnd (F_X4_finding (xa0) (xr32) xσ30) (fun xr35 xσ33 => some (xr35, xσ33))) else bnd (F_X0_become (13) (1) xσ23) (fun xr29 xσ27 => lo5 (F_X4_fits_b54) 1000 xa0 xa2 (some (xk5)) 0 0 xσ27)) else bnd (F_X4_refusalFor (some (xk5)) xσ12) (fun xr19 xσ17 => bnd (F_X4_finding (xa0) (xr19) xσ17) (fun xr22 xσ20 => some (xr22, xσ20))))))))
set_option maxHeartbeats 4000000 in
set_option maxRecDepth 20000 in
theorem b_X4_fits_54 {x : XT} {y : YT} {Z : State → Prop} (C : Cx x y (AY y) RX4 cX4_fits 6 rm_X4_fits) {r : Int32} {σ' : Sto} (hr : RetI x y (AY y) 6 cX4_fits Z r σ') (xk_54 : Nat → Int32 → Option Nat → Int32 → Int32 → Sto → Option (Int32 × Sto)) (xH54 : ∀ (xa0 : Nat) (xa2 : Int32) (xa3 : Option Nat) (xa4 : Int32) (xa5 : Int32) (σ : Sto), xk_54 xa0 xa2 xa3 xa4 xa5 σ = some (r, σ') → GW x y (AY y) 6 Z 54 [(0, .ref (yad y (xa0))), (2, .int (xa2)), (3, nv y xa3), (4, .int (xa4)), (5, .int (xa5))] [] σ) (xa0 : Nat) (xa2 : Int32) (xa3 : Option Nat) (xa4 : Int32) (xa5 : Int32) (σ : Sto) (h : F_X4_fits_b54 xk_54 xa0 xa2 xa3 xa4 xa5 σ = some (r, σ')) : GW x y (AY y) 6 Z 54 [(0, .ref (yad y (xa0))), (2, .int (xa2)), (3, nv y xa3), (4, .int (xa4)), (5, .int (xa5))] [] σ := by
  unfold F_X4_fits_b54 at h
  refine g_iload (pc := 54) C dX4_fits_54 4 rfl ?_
  refine g_iconst (v := 1) (pc := 56) C dX4_fits_56 ci_1 ?_
  obtain ⟨xr3, xσ1, xc2, h⟩ := iB h
  refine g_callSi (pc := 57) (As := [.int (1)]) (rest := [.int (xa5)]) C dX4_fits_57 (fun l => c_X2_mostOf l y _ _ _ _ xc2) cv_X4_79 ⟨rfl, rfl, Nat.le_of_ble_eq_true rfl, Nat.le_of_ble_eq_true rfl⟩ rfl (Nat.le_of_ble_eq_true rfl) ?_
  refine g_icmp_gt (pc := 60) C dX4_fits_60 (tgt := 83) rfl (fun xq4 => ?_) (fun xq4 => ?_)
  · have h := iP xq4 h
    refine g_iload (pc := 83) C dX4_fits_83 3 rfl ?_
    exact rtI hr dX4_fits_85 h
  · have h := iN xq4 h
    refine g_aload_n (pc := 63) C dX4_fits_63 rfl 0 rfl ?_
    refine g_naload_n (pc := 64) C dX4_fits_64 rfl 2 rfl ?_
    refine g_iload_n (pc := 65) C dX4_fits_65 rfl 1 rfl ?_
    refine g_iload (pc := 66) C dX4_fits_66 4 rfl ?_
    obtain ⟨xk5, rfl, h⟩ := iOs h
    obtain ⟨xq8, h⟩ := iC h
    have xq8 := keq xq8
    obtain ⟨xr9, xσ6, xc7, h⟩ := iB h
    refine g_callVi (pc := 68) (As := [.ref (yad y (xk5)), .int (xa2), .int (xa5)]) (rest := []) C dX4_fits_68 (fun l => c_X4_isTallAsTold l y _ _ _ _ _ _ _ xc7) cv_X4_188 ⟨rfl, rfl, Nat.le_of_ble_eq_true rfl, Nat.le_of_ble_eq_true rfl⟩ (rv4 xq8) rfl (Nat.le_of_ble_eq_true rfl) ?_
    refine g_if_eq (pc := 71) C dX4_fits_71 (tgt := 77) rfl (fun xq10 => ?_) (fun xq10 => ?_)
    · have h := iP xq10 h
      refine g_iinc (lv' := [(5, .int (xa5 + 1)), (0, .ref (yad y (xa0))), (2, .int (xa2)), (3, .ref (yad y (xk5))), (4, .int (xa4))]) (w := xa5 + 1) (pc := 77) C dX4_fits_77 (k := 4) rfl rfl (Nat.le_of_ble_eq_true rfl) rfl ?_
      refine g_goto (pc := 80) C dX4_fits_80 (tgt := 54) rfl ?_
      refine g_sub (lv' := [(0, .ref (yad y (xa0))), (2, .int (xa2)), (3, nv y (some (xk5))), (4, .int (xa4)), (5, .int (xa5 + 1))]) C [1, 2, 3, 4, 0] rfl ?_
      exact xH54 xa0 xa2 (some (xk5)) xa4 (xa5 + 1) xσ6 h
    · have h := iN xq10 h
      refine g_iinc (lv' := [(4, .int (xa4 + 1)), (0, .ref (yad y (xa0))), (2, .int (xa2)), (3, .ref (yad y (xk5))), (5, .int (xa5))]) (w := xa4 + 1) (pc := 74) C dX4_fits_74 (k := 3) rfl rfl (Nat.le_of_ble_eq_true rfl) rfl ?_
      refine g_iinc (lv' := [(5, .int (xa5 + 1)), (4, .int (xa4 + 1)), (0, .ref (yad y (xa0))), (2, .int (xa2)), (3, .ref (yad y (xk5)))]) (w := xa5 + 1) (pc := 77) C dX4_fits_77 (k := 4) rfl rfl (Nat.le_of_ble_eq_true rfl) rfl ?_
      refine g_goto (pc := 80) C dX4_fits_80 (tgt := 54) rfl ?_
      refine g_sub (lv' := [(0, .ref (yad y (xa0))), (2, .int (xa2)), (3, nv y (some (xk5))), (4, .int (xa4 + 1)), (5, .int (xa5 + 1))]) C [2, 3, 4, 1, 0] rfl ?_
      exact xH54 xa0 xa2 (some (xk5)) (xa4 + 1) (xa5 + 1) xσ6 h
theorem l_X4_fits_54 {x : XT} {y : YT} {Z : State → Prop} (C : Cx x y (AY y) RX4 cX4_fits 6 rm_X4_fits) {r : Int32} {σ' : Sto} (hr : RetI x y (AY y) 6 cX4_fits Z r σ') (n : Nat) (xa0 : Nat) (xa2 : Int32) (xa3 : Option Nat) (xa4 : Int32) (xa5 : Int32) (σ : Sto) (h : lo5 (F_X4_fits_b54) n xa0 xa2 xa3 xa4 xa5 σ = some (r, σ')) : GW x y (AY y) 6 Z 54 [(0, .ref (yad y (xa0))), (2, .int (xa2)), (3, nv y xa3), (4, .int (xa4)), (5, .int (xa5))] [] σ :=
  lo5_gw (G := fun xa0 xa2 xa3 xa4 xa5 σ => GW x y (AY y) 6 Z 54 [(0, .ref (yad y (xa0))), (2, .int (xa2)), (3, nv y xa3), (4, .int (xa4)), (5, .int (xa5))] [] σ) (fun xk xHk xa0 xa2 xa3 xa4 xa5 σ h => b_X4_fits_54 C hr xk xHk xa0 xa2 xa3 xa4 xa5 σ h) n xa0 xa2 xa3 xa4 xa5 σ h
set_option maxHeartbeats 4000000 in
set_option maxRecDepth 20000 in
theorem b_X4_fits_0 {x : XT} {y : YT} {Z : State → Prop} (C : Cx x y (AY y) RX4 cX4_fits 6 rm_X4_fits) {r : Int32} {σ' : Sto} (hr : RetI x y (AY y) 6 cX4_fits Z r σ') (xa0 : Nat) (xa1 : Int32) (xa2 : Int32) (σ : Sto) (h : F_X4_fits xa0 xa1 xa2 σ = some (r, σ')) : GW x y (AY y) 6 Z 0 [(0, .ref (yad y (xa0))), (1, .int (xa1)), (2, .int (xa2))] [] σ := by
  unfold F_X4_fits at h
  refine g_aload_n (pc := 0) C dX4_fits_0 rfl 0 rfl ?_
  refine g_iload_n (pc := 1) C dX4_fits_1 rfl 1 rfl ?_
  obtain ⟨xq3, h⟩ := iC h
  have xq3 := keq xq3
  obtain ⟨xr4, xσ1, xc2, h⟩ := iB h
  refine g_callVq (pc := 2) (As := [.int (xa1)]) (rest := []) C dX4_fits_2 (fun l => c_X4_sheetAt l y _ _ _ _ _ xc2) cv_X4_177 ⟨rfl, rfl, Nat.le_of_ble_eq_true rfl, Nat.le_of_ble_eq_true rfl⟩ (rv4 xq3) rfl (Nat.le_of_ble_eq_true rfl) ?_
  refine g_nastore_n (i := 3) (lv' := [(3, nv y xr4), (0, .ref (yad y (xa0))), (1, .int (xa1)), (2, .int (xa2))]) (pc := 5) C dX4_fits_5 rfl (Nat.le_of_ble_eq_true rfl) rfl ?_
  refine g_naload_n (pc := 6) C dX4_fits_6 rfl 0 rfl ?_
  refine g_ifnull (pc := 7) C dX4_fits_7 (tgt := 28) rfl (fun xq36 => ?_) (fun xk5 xq36 => ?_)
  · subst xq36
    have h := iO0 h
    refine g_aload_n (pc := 28) C dX4_fits_28 rfl 1 rfl ?_
    refine g_naload_n (pc := 29) C dX4_fits_29 rfl 0 rfl ?_
    obtain ⟨xr8, xσ6, xc7, h⟩ := iB h
    refine g_callSi (pc := 30) (As := [nv y none]) (rest := [.ref (yad y (xa0))]) C dX4_fits_30 (fun l => c_X4_refusalFor l y _ _ _ _ xc7) cv_X4_184 ⟨rfl, rfl, Nat.le_of_ble_eq_true rfl, Nat.le_of_ble_eq_true rfl⟩ rfl (Nat.le_of_ble_eq_true rfl) ?_
    obtain ⟨xr11, xσ9, xc10, h⟩ := iB h
    refine g_callVi (pc := 33) (As := [.int (xr8)]) (rest := []) C dX4_fits_33 (fun l => c_X4_finding l y _ _ _ _ _ xc10) cv_X4_57 ⟨rfl, rfl, Nat.le_of_ble_eq_true rfl, Nat.le_of_ble_eq_true rfl⟩ (rv4 xq3) rfl (Nat.le_of_ble_eq_true rfl) ?_
    exact rtI hr dX4_fits_36 h
  · subst xq36
    have h := iO1 h
    refine g_aload_n (pc := 10) C dX4_fits_10 rfl 0 rfl ?_
    obtain ⟨xq14, h⟩ := iC h
    have xq14 := keq xq14
    obtain ⟨xr15, xσ12, xc13, h⟩ := iB h
    refine g_callVi (pc := 11) (As := []) (rest := []) C dX4_fits_11 (fun l => c_X1_isMissing l y _ _ _ _ xc13) cv_X4_181 ⟨rfl, rfl, Nat.le_of_ble_eq_true rfl, Nat.le_of_ble_eq_true rfl⟩ (rv1 xq14) rfl (Nat.le_of_ble_eq_true rfl) ?_
    refine g_if_ne (pc := 14) C dX4_fits_14 (tgt := 28) rfl (fun xq16 => ?_) (fun xq16 => ?_)
    · have h := iN xq16 h
      refine g_aload_n (pc := 28) C dX4_fits_28 rfl 1 rfl ?_
      refine g_aload_n (pc := 29) C dX4_fits_29 rfl 0 rfl ?_
      obtain ⟨xr19, xσ17, xc18, h⟩ := iB h
      refine g_callSi (pc := 30) (As := [nv y (some (xk5))]) (rest := [.ref (yad y (xa0))]) C dX4_fits_30 (fun l => c_X4_refusalFor l y _ _ _ _ xc18) cv_X4_184 ⟨rfl, rfl, Nat.le_of_ble_eq_true rfl, Nat.le_of_ble_eq_true rfl⟩ rfl (Nat.le_of_ble_eq_true rfl) ?_
      obtain ⟨xr22, xσ20, xc21, h⟩ := iB h
      refine g_callVi (pc := 33) (As := [.int (xr19)]) (rest := []) C dX4_fits_33 (fun l => c_X4_finding l y _ _ _ _ _ xc21) cv_X4_57 ⟨rfl, rfl, Nat.le_of_ble_eq_true rfl, Nat.le_of_ble_eq_true rfl⟩ (rv4 xq3) rfl (Nat.le_of_ble_eq_true rfl) ?_
      exact rtI hr dX4_fits_36 h
    · have h := iP xq16 h
      refine g_aload_n (pc := 17) C dX4_fits_17 rfl 1 rfl ?_
      refine gf_4_0 (pc := 18) C wf_X4_10 dX4_fits_18 xq3 ?_
      refine g_iload_n (pc := 21) C dX4_fits_21 rfl 3 rfl ?_
      obtain ⟨xr25, xσ23, xc24, h⟩ := iB h
      refine g_callVi (pc := 22) (As := [.int (xa2)]) (rest := []) C dX4_fits_22 (fun l => c_X0_isSitter l y _ _ _ _ _ xc24) cv_X4_137 ⟨rfl, rfl, Nat.le_of_ble_eq_true rfl, Nat.le_of_ble_eq_true rfl⟩ (rv0 rfl) rfl (Nat.le_of_ble_eq_true rfl) ?_
      refine g_if_ne (pc := 25) C dX4_fits_25 (tgt := 37) rfl (fun xq26 => ?_) (fun xq26 => ?_)
      · have h := iN xq26 h
        refine g_aload_n (pc := 37) C dX4_fits_37 rfl 1 rfl ?_
        refine gf_4_1 (pc := 38) C wf_X4_16 dX4_fits_38 xq3 ?_
        refine g_aload_n (pc := 41) C dX4_fits_41 rfl 1 rfl ?_
        refine gf_4_0 (pc := 42) C wf_X4_10 dX4_fits_42 xq3 ?_
        obtain ⟨xr29, xσ27, xc28, h⟩ := iB h
        refine g_callVv (pc := 45) (As := [.ref (yad y (1))]) (rest := []) C dX4_fits_45 (fun l => c_X0_become l y _ _ _ _ _ xc28) cv_X4_140 ⟨rfl, rfl, Nat.le_of_ble_eq_true rfl, Nat.le_of_ble_eq_true rfl⟩ (rv0 rfl) rfl (Nat.le_of_ble_eq_true rfl) ?_
        refine g_iconst (v := 0) (pc := 48) C dX4_fits_48 ci_0 ?_
        refine g_istore (i := 4) (lv' := [(4, .int (0)), (3, .ref (yad y (xk5))), (0, .ref (yad y (xa0))), (1, .int (xa1)), (2, .int (xa2))]) (pc := 49) C dX4_fits_49 (Nat.le_of_ble_eq_true rfl) rfl ?_
        refine g_iconst (v := 0) (pc := 51) C dX4_fits_51 ci_0 ?_
        refine g_istore (i := 5) (lv' := [(5, .int (0)), (4, .int (0)), (3, .ref (yad y (xk5))), (0, .ref (yad y (xa0))), (1, .int (xa1)), (2, .int (xa2))]) (pc := 52) C dX4_fits_52 (Nat.le_of_ble_eq_true rfl) rfl ?_
        refine g_sub (lv' := [(0, .ref (yad y (xa0))), (2, .int (xa2)), (3, nv y (some (xk5))), (4, .int (0)), (5, .int (0))]) C [3, 5, 2, 1, 0] rfl ?_
        exact l_X4_fits_54 C hr 1000 xa0 xa2 (some (xk5)) 0 0 xσ27 h
      · have h := iP xq26 h
        refine g_aload_n (pc := 28) C dX4_fits_28 rfl 1 rfl ?_
        refine g_aload_n (pc := 29) C dX4_fits_29 rfl 0 rfl ?_
        obtain ⟨xr32, xσ30, xc31, h⟩ := iB h
        refine g_callSi (pc := 30) (As := [nv y (some (xk5))]) (rest := [.ref (yad y (xa0))]) C dX4_fits_30 (fun l => c_X4_refusalFor l y _ _ _ _ xc31) cv_X4_184 ⟨rfl, rfl, Nat.le_of_ble_eq_true rfl, Nat.le_of_ble_eq_true rfl⟩ rfl (Nat.le_of_ble_eq_true rfl) ?_
        obtain ⟨xr35, xσ33, xc34, h⟩ := iB h
        refine g_callVi (pc := 33) (As := [.int (xr32)]) (rest := []) C dX4_fits_33 (fun l => c_X4_finding l y _ _ _ _ _ xc34) cv_X4_57 ⟨rfl, rfl, Nat.le_of_ble_eq_true rfl, Nat.le_of_ble_eq_true rfl⟩ (rv4 xq3) rfl (Nat.le_of_ble_eq_true rfl) ?_
        exact rtI hr dX4_fits_36 h
theorem c_X4_fits (l : Launch) (y : YT) (xa0 : Nat) (xa1 : Int32) (xa2 : Int32) (σ σ' : Sto) (r : Int32) (h : F_X4_fits xa0 xa1 xa2 σ = some (r, σ')) : MI l y yX4_fits (Cond.code yX4_fits cX4_fits 6 (some .int) :: TT) rm_X4_fits [.ref (yad y (xa0)), .int (xa1), .int (xa2)] σ r σ' :=
  mkI (by decide) rfl rfl rfl (Nat.le_of_ble_eq_true rfl) (fun x Z C hr => b_X4_fits_0 C hr xa0 xa1 xa2 σ h)
def rm_X4_tall : Room := { frames := 4, cells := 0, slots := 0, locals := 109 }
def F_X4_tall_b51 (xk_51 : Nat → Int32 → Option Nat → Int32 → Sto → Option (Int32 × Sto)) (xa0 : Nat) (xa2 : Int32) (xa3 : Option Nat) (xa4 : Int32) (σ : Sto) : Option (Int32 × Sto) := bnd (F_X2_mostOf 1 σ) (fun xr3 xσ1 => if xr3 < xa4 then ck (kd (xa0) == 4) (bnd (F_X4_finding (xa0) (-1000004) xσ1) (fun xr8 xσ5 => some (xr8, xσ5))) else ocase xa3 none (fun xk9 => ck (kd (xa0) == 4) (bnd (F_X4_isTallAsTold (xa0) (xk9) (xa2) (xa4) xσ1) (fun xr13 xσ10 => if (xr13) = 0 then xk_51 xa0 xa2 (some (xk9)) (xa4 + 1) xσ10 else some (xa4, xσ10)))))
def F_X4_tall (xa0 : Nat) (xa1 : Int32) (xa2 : Int32) (σ : Sto) : Option (Int32 × Sto) := ck (kd (xa0) == 4) (bnd (F_X4_sheetAt (xa0) (xa1) σ) (fun xr4 xσ1 => ocase xr4 (bnd (F_X4_refusalFor none xσ1) (fun xr8 xσ6 => bnd (F_X4_finding (xa0) (xr8) xσ6) (fun xr11 xσ9 => some (xr11, xσ9)))) (fun xk5 => ck (kd (xk5) == 1) (bnd (F_X1_isMissing (xk5) xσ1) (fun xr15 xσ12 => if (xr15) = 0 then bnd (F_X0_isSitter (1) (xa2) xσ12) (fun xr25 xσ23 => if (xr25) = 0 then bnd (F_X4_refusalFor (some (xk5)) xσ23) (fun xr32 xσ30 => bnd (F_X4_finding (xa0) (xr32) xσ30) (fun xr35 xσ33 => some (xr35, xσ33))) else bnd (F_X0_become (13) (1) xσ23) (fun xr29 xσ27 => lo4 (F_X4_tall_b51) 1000 xa0 xa2 (some (xk5)) 0 xσ27)) else bnd (F_X4_refusalFor (some (xk5)) xσ12) (fun xr19 xσ17 => bnd (F_X4_finding (xa0) (xr19) xσ17) (fun xr22 xσ20 => some (xr22, xσ20))))))))
set_option maxHeartbeats 4000000 in
set_option maxRecDepth 20000 in
theorem b_X4_tall_51 {x : XT} {y : YT} {Z : State → Prop} (C : Cx x y (AY y) RX4 cX4_tall 5 rm_X4_tall) {r : Int32} {σ' : Sto} (hr : RetI x y (AY y) 5 cX4_tall Z r σ') (xk_51 : Nat → Int32 → Option Nat → Int32 → Sto → Option (Int32 × Sto)) (xH51 : ∀ (xa0 : Nat) (xa2 : Int32) (xa3 : Option Nat) (xa4 : Int32) (σ : Sto), xk_51 xa0 xa2 xa3 xa4 σ = some (r, σ') → GW x y (AY y) 5 Z 51 [(0, .ref (yad y (xa0))), (2, .int (xa2)), (3, nv y xa3), (4, .int (xa4))] [] σ) (xa0 : Nat) (xa2 : Int32) (xa3 : Option Nat) (xa4 : Int32) (σ : Sto) (h : F_X4_tall_b51 xk_51 xa0 xa2 xa3 xa4 σ = some (r, σ')) : GW x y (AY y) 5 Z 51 [(0, .ref (yad y (xa0))), (2, .int (xa2)), (3, nv y xa3), (4, .int (xa4))] [] σ := by
  unfold F_X4_tall_b51 at h
  refine g_iload (pc := 51) C dX4_tall_51 3 rfl ?_
  refine g_iconst (v := 1) (pc := 53) C dX4_tall_53 ci_1 ?_
  obtain ⟨xr3, xσ1, xc2, h⟩ := iB h
  refine g_callSi (pc := 54) (As := [.int (1)]) (rest := [.int (xa4)]) C dX4_tall_54 (fun l => c_X2_mostOf l y _ _ _ _ xc2) cv_X4_79 ⟨rfl, rfl, Nat.le_of_ble_eq_true rfl, Nat.le_of_ble_eq_true rfl⟩ rfl (Nat.le_of_ble_eq_true rfl) ?_
  refine g_icmp_gt (pc := 57) C dX4_tall_57 (tgt := 80) rfl (fun xq4 => ?_) (fun xq4 => ?_)
  · have h := iP xq4 h
    refine g_aload_n (pc := 80) C dX4_tall_80 rfl 0 rfl ?_
    refine g_ldc (v := (-1000004)) (pc := 81) C dX4_tall_81 wk_X4_151 ?_
    obtain ⟨xq7, h⟩ := iC h
    have xq7 := keq xq7
    obtain ⟨xr8, xσ5, xc6, h⟩ := iB h
    refine g_callVi (pc := 83) (As := [.int ((-1000004))]) (rest := []) C dX4_tall_83 (fun l => c_X4_finding l y _ _ _ _ _ xc6) cv_X4_57 ⟨rfl, rfl, Nat.le_of_ble_eq_true rfl, Nat.le_of_ble_eq_true rfl⟩ (rv4 xq7) rfl (Nat.le_of_ble_eq_true rfl) ?_
    exact rtI hr dX4_tall_86 h
  · have h := iN xq4 h
    refine g_aload_n (pc := 60) C dX4_tall_60 rfl 0 rfl ?_
    refine g_naload_n (pc := 61) C dX4_tall_61 rfl 2 rfl ?_
    refine g_iload_n (pc := 62) C dX4_tall_62 rfl 1 rfl ?_
    refine g_iload (pc := 63) C dX4_tall_63 3 rfl ?_
    obtain ⟨xk9, rfl, h⟩ := iOs h
    obtain ⟨xq12, h⟩ := iC h
    have xq12 := keq xq12
    obtain ⟨xr13, xσ10, xc11, h⟩ := iB h
    refine g_callVi (pc := 65) (As := [.ref (yad y (xk9)), .int (xa2), .int (xa4)]) (rest := []) C dX4_tall_65 (fun l => c_X4_isTallAsTold l y _ _ _ _ _ _ _ xc11) cv_X4_188 ⟨rfl, rfl, Nat.le_of_ble_eq_true rfl, Nat.le_of_ble_eq_true rfl⟩ (rv4 xq12) rfl (Nat.le_of_ble_eq_true rfl) ?_
    refine g_if_eq (pc := 68) C dX4_tall_68 (tgt := 74) rfl (fun xq14 => ?_) (fun xq14 => ?_)
    · have h := iP xq14 h
      refine g_iinc (lv' := [(4, .int (xa4 + 1)), (0, .ref (yad y (xa0))), (2, .int (xa2)), (3, .ref (yad y (xk9)))]) (w := xa4 + 1) (pc := 74) C dX4_tall_74 (k := 3) rfl rfl (Nat.le_of_ble_eq_true rfl) rfl ?_
      refine g_goto (pc := 77) C dX4_tall_77 (tgt := 51) rfl ?_
      refine g_sub (lv' := [(0, .ref (yad y (xa0))), (2, .int (xa2)), (3, nv y (some (xk9))), (4, .int (xa4 + 1))]) C [1, 2, 3, 0] rfl ?_
      exact xH51 xa0 xa2 (some (xk9)) (xa4 + 1) xσ10 h
    · have h := iN xq14 h
      refine g_iload (pc := 71) C dX4_tall_71 3 rfl ?_
      exact rtI hr dX4_tall_73 h
theorem l_X4_tall_51 {x : XT} {y : YT} {Z : State → Prop} (C : Cx x y (AY y) RX4 cX4_tall 5 rm_X4_tall) {r : Int32} {σ' : Sto} (hr : RetI x y (AY y) 5 cX4_tall Z r σ') (n : Nat) (xa0 : Nat) (xa2 : Int32) (xa3 : Option Nat) (xa4 : Int32) (σ : Sto) (h : lo4 (F_X4_tall_b51) n xa0 xa2 xa3 xa4 σ = some (r, σ')) : GW x y (AY y) 5 Z 51 [(0, .ref (yad y (xa0))), (2, .int (xa2)), (3, nv y xa3), (4, .int (xa4))] [] σ :=
  lo4_gw (G := fun xa0 xa2 xa3 xa4 σ => GW x y (AY y) 5 Z 51 [(0, .ref (yad y (xa0))), (2, .int (xa2)), (3, nv y xa3), (4, .int (xa4))] [] σ) (fun xk xHk xa0 xa2 xa3 xa4 σ h => b_X4_tall_51 C hr xk xHk xa0 xa2 xa3 xa4 σ h) n xa0 xa2 xa3 xa4 σ h
set_option maxHeartbeats 4000000 in
set_option maxRecDepth 20000 in
theorem b_X4_tall_0 {x : XT} {y : YT} {Z : State → Prop} (C : Cx x y (AY y) RX4 cX4_tall 5 rm_X4_tall) {r : Int32} {σ' : Sto} (hr : RetI x y (AY y) 5 cX4_tall Z r σ') (xa0 : Nat) (xa1 : Int32) (xa2 : Int32) (σ : Sto) (h : F_X4_tall xa0 xa1 xa2 σ = some (r, σ')) : GW x y (AY y) 5 Z 0 [(0, .ref (yad y (xa0))), (1, .int (xa1)), (2, .int (xa2))] [] σ := by
  unfold F_X4_tall at h
  refine g_aload_n (pc := 0) C dX4_tall_0 rfl 0 rfl ?_
  refine g_iload_n (pc := 1) C dX4_tall_1 rfl 1 rfl ?_
  obtain ⟨xq3, h⟩ := iC h
  have xq3 := keq xq3
  obtain ⟨xr4, xσ1, xc2, h⟩ := iB h
  refine g_callVq (pc := 2) (As := [.int (xa1)]) (rest := []) C dX4_tall_2 (fun l => c_X4_sheetAt l y _ _ _ _ _ xc2) cv_X4_177 ⟨rfl, rfl, Nat.le_of_ble_eq_true rfl, Nat.le_of_ble_eq_true rfl⟩ (rv4 xq3) rfl (Nat.le_of_ble_eq_true rfl) ?_
  refine g_nastore_n (i := 3) (lv' := [(3, nv y xr4), (0, .ref (yad y (xa0))), (1, .int (xa1)), (2, .int (xa2))]) (pc := 5) C dX4_tall_5 rfl (Nat.le_of_ble_eq_true rfl) rfl ?_
  refine g_naload_n (pc := 6) C dX4_tall_6 rfl 0 rfl ?_
  refine g_ifnull (pc := 7) C dX4_tall_7 (tgt := 28) rfl (fun xq36 => ?_) (fun xk5 xq36 => ?_)
  · subst xq36
    have h := iO0 h
    refine g_aload_n (pc := 28) C dX4_tall_28 rfl 1 rfl ?_
    refine g_naload_n (pc := 29) C dX4_tall_29 rfl 0 rfl ?_
    obtain ⟨xr8, xσ6, xc7, h⟩ := iB h
    refine g_callSi (pc := 30) (As := [nv y none]) (rest := [.ref (yad y (xa0))]) C dX4_tall_30 (fun l => c_X4_refusalFor l y _ _ _ _ xc7) cv_X4_184 ⟨rfl, rfl, Nat.le_of_ble_eq_true rfl, Nat.le_of_ble_eq_true rfl⟩ rfl (Nat.le_of_ble_eq_true rfl) ?_
    obtain ⟨xr11, xσ9, xc10, h⟩ := iB h
    refine g_callVi (pc := 33) (As := [.int (xr8)]) (rest := []) C dX4_tall_33 (fun l => c_X4_finding l y _ _ _ _ _ xc10) cv_X4_57 ⟨rfl, rfl, Nat.le_of_ble_eq_true rfl, Nat.le_of_ble_eq_true rfl⟩ (rv4 xq3) rfl (Nat.le_of_ble_eq_true rfl) ?_
    exact rtI hr dX4_tall_36 h
  · subst xq36
    have h := iO1 h
    refine g_aload_n (pc := 10) C dX4_tall_10 rfl 0 rfl ?_
    obtain ⟨xq14, h⟩ := iC h
    have xq14 := keq xq14
    obtain ⟨xr15, xσ12, xc13, h⟩ := iB h
    refine g_callVi (pc := 11) (As := []) (rest := []) C dX4_tall_11 (fun l => c_X1_isMissing l y _ _ _ _ xc13) cv_X4_181 ⟨rfl, rfl, Nat.le_of_ble_eq_true rfl, Nat.le_of_ble_eq_true rfl⟩ (rv1 xq14) rfl (Nat.le_of_ble_eq_true rfl) ?_
    refine g_if_ne (pc := 14) C dX4_tall_14 (tgt := 28) rfl (fun xq16 => ?_) (fun xq16 => ?_)
    · have h := iN xq16 h
      refine g_aload_n (pc := 28) C dX4_tall_28 rfl 1 rfl ?_
      refine g_aload_n (pc := 29) C dX4_tall_29 rfl 0 rfl ?_
      obtain ⟨xr19, xσ17, xc18, h⟩ := iB h
      refine g_callSi (pc := 30) (As := [nv y (some (xk5))]) (rest := [.ref (yad y (xa0))]) C dX4_tall_30 (fun l => c_X4_refusalFor l y _ _ _ _ xc18) cv_X4_184 ⟨rfl, rfl, Nat.le_of_ble_eq_true rfl, Nat.le_of_ble_eq_true rfl⟩ rfl (Nat.le_of_ble_eq_true rfl) ?_
      obtain ⟨xr22, xσ20, xc21, h⟩ := iB h
      refine g_callVi (pc := 33) (As := [.int (xr19)]) (rest := []) C dX4_tall_33 (fun l => c_X4_finding l y _ _ _ _ _ xc21) cv_X4_57 ⟨rfl, rfl, Nat.le_of_ble_eq_true rfl, Nat.le_of_ble_eq_true rfl⟩ (rv4 xq3) rfl (Nat.le_of_ble_eq_true rfl) ?_
      exact rtI hr dX4_tall_36 h
    · have h := iP xq16 h
      refine g_aload_n (pc := 17) C dX4_tall_17 rfl 1 rfl ?_
      refine gf_4_0 (pc := 18) C wf_X4_10 dX4_tall_18 xq3 ?_
      refine g_iload_n (pc := 21) C dX4_tall_21 rfl 3 rfl ?_
      obtain ⟨xr25, xσ23, xc24, h⟩ := iB h
      refine g_callVi (pc := 22) (As := [.int (xa2)]) (rest := []) C dX4_tall_22 (fun l => c_X0_isSitter l y _ _ _ _ _ xc24) cv_X4_137 ⟨rfl, rfl, Nat.le_of_ble_eq_true rfl, Nat.le_of_ble_eq_true rfl⟩ (rv0 rfl) rfl (Nat.le_of_ble_eq_true rfl) ?_
      refine g_if_ne (pc := 25) C dX4_tall_25 (tgt := 37) rfl (fun xq26 => ?_) (fun xq26 => ?_)
      · have h := iN xq26 h
        refine g_aload_n (pc := 37) C dX4_tall_37 rfl 1 rfl ?_
        refine gf_4_1 (pc := 38) C wf_X4_16 dX4_tall_38 xq3 ?_
        refine g_aload_n (pc := 41) C dX4_tall_41 rfl 1 rfl ?_
        refine gf_4_0 (pc := 42) C wf_X4_10 dX4_tall_42 xq3 ?_
        obtain ⟨xr29, xσ27, xc28, h⟩ := iB h
        refine g_callVv (pc := 45) (As := [.ref (yad y (1))]) (rest := []) C dX4_tall_45 (fun l => c_X0_become l y _ _ _ _ _ xc28) cv_X4_140 ⟨rfl, rfl, Nat.le_of_ble_eq_true rfl, Nat.le_of_ble_eq_true rfl⟩ (rv0 rfl) rfl (Nat.le_of_ble_eq_true rfl) ?_
        refine g_iconst (v := 0) (pc := 48) C dX4_tall_48 ci_0 ?_
        refine g_istore (i := 4) (lv' := [(4, .int (0)), (3, .ref (yad y (xk5))), (0, .ref (yad y (xa0))), (1, .int (xa1)), (2, .int (xa2))]) (pc := 49) C dX4_tall_49 (Nat.le_of_ble_eq_true rfl) rfl ?_
        refine g_sub (lv' := [(0, .ref (yad y (xa0))), (2, .int (xa2)), (3, nv y (some (xk5))), (4, .int (0))]) C [2, 4, 1, 0] rfl ?_
        exact l_X4_tall_51 C hr 1000 xa0 xa2 (some (xk5)) 0 xσ27 h
      · have h := iP xq26 h
        refine g_aload_n (pc := 28) C dX4_tall_28 rfl 1 rfl ?_
        refine g_aload_n (pc := 29) C dX4_tall_29 rfl 0 rfl ?_
        obtain ⟨xr32, xσ30, xc31, h⟩ := iB h
        refine g_callSi (pc := 30) (As := [nv y (some (xk5))]) (rest := [.ref (yad y (xa0))]) C dX4_tall_30 (fun l => c_X4_refusalFor l y _ _ _ _ xc31) cv_X4_184 ⟨rfl, rfl, Nat.le_of_ble_eq_true rfl, Nat.le_of_ble_eq_true rfl⟩ rfl (Nat.le_of_ble_eq_true rfl) ?_
        obtain ⟨xr35, xσ33, xc34, h⟩ := iB h
        refine g_callVi (pc := 33) (As := [.int (xr32)]) (rest := []) C dX4_tall_33 (fun l => c_X4_finding l y _ _ _ _ _ xc34) cv_X4_57 ⟨rfl, rfl, Nat.le_of_ble_eq_true rfl, Nat.le_of_ble_eq_true rfl⟩ (rv4 xq3) rfl (Nat.le_of_ble_eq_true rfl) ?_
        exact rtI hr dX4_tall_36 h
theorem c_X4_tall (l : Launch) (y : YT) (xa0 : Nat) (xa1 : Int32) (xa2 : Int32) (σ σ' : Sto) (r : Int32) (h : F_X4_tall xa0 xa1 xa2 σ = some (r, σ')) : MI l y yX4_tall (Cond.code yX4_tall cX4_tall 5 (some .int) :: TT) rm_X4_tall [.ref (yad y (xa0)), .int (xa1), .int (xa2)] σ r σ' :=
  mkI (by decide) rfl rfl rfl (Nat.le_of_ble_eq_true rfl) (fun x Z C hr => b_X4_tall_0 C hr xa0 xa1 xa2 σ h)
def rm_X4_isKindAsTold : Room := { frames := 6, cells := 0, slots := 0, locals := 148 }
def F_X4_isKindAsTold_b24 (xk_24 : Nat → Nat → Int32 → Int32 → Sto → Option (Int32 × Sto)) (xa0 : Nat) (xa1 : Nat) (xa2 : Int32) (xa4 : Int32) (σ : Sto) : Option (Int32 × Sto) := ck (kd (xa1) == 1) (if (σ xa1 1) ≤ xa4 then some (1, σ) else ck (kd (xa0) == 4) (bnd (F_X0_partOf (13) (xa2) 5 σ) (fun xr6 xσ4 => bnd (F_X1_allows (xa1) (xa4) (xr6) xσ4) (fun xr9 xσ7 => if (xr9) = 0 then some (0, xσ7) else bnd (F_X0_passMinute (13) xσ7) (fun xr13 xσ11 => xk_24 xa0 xa1 xa2 (xa4 + 1) xσ11)))))
def F_X4_isKindAsTold (xa0 : Nat) (xa1 : Nat) (xa2 : Int32) (xa3 : Int32) (σ : Sto) : Option (Int32 × Sto) := ck (kd (xa0) == 4) (bnd (F_X0_become (13) (1) σ) (fun xr4 xσ2 => bnd (F_X0_give (13) (xa2) 0 (xa3) xσ2) (fun xr7 xσ5 => lo4 (F_X4_isKindAsTold_b24) 1000 xa0 xa1 xa2 0 xσ5)))
set_option maxHeartbeats 4000000 in
set_option maxRecDepth 20000 in
theorem b_X4_isKindAsTold_24 {x : XT} {y : YT} {Z : State → Prop} (C : Cx x y (AY y) RX4 cX4_isKindAsTold 5 rm_X4_isKindAsTold) {r : Int32} {σ' : Sto} (hr : RetZ x y (AY y) 5 cX4_isKindAsTold Z r σ') (xk_24 : Nat → Nat → Int32 → Int32 → Sto → Option (Int32 × Sto)) (xH24 : ∀ (xa0 : Nat) (xa1 : Nat) (xa2 : Int32) (xa4 : Int32) (σ : Sto), xk_24 xa0 xa1 xa2 xa4 σ = some (r, σ') → GW x y (AY y) 5 Z 24 [(0, .ref (yad y (xa0))), (1, .ref (yad y (xa1))), (2, .int (xa2)), (4, .int (xa4))] [] σ) (xa0 : Nat) (xa1 : Nat) (xa2 : Int32) (xa4 : Int32) (σ : Sto) (h : F_X4_isKindAsTold_b24 xk_24 xa0 xa1 xa2 xa4 σ = some (r, σ')) : GW x y (AY y) 5 Z 24 [(0, .ref (yad y (xa0))), (1, .ref (yad y (xa1))), (2, .int (xa2)), (4, .int (xa4))] [] σ := by
  unfold F_X4_isKindAsTold_b24 at h
  refine g_iload (pc := 24) C dX4_isKindAsTold_24 3 rfl ?_
  refine g_aload_n (pc := 26) C dX4_isKindAsTold_26 rfl 1 rfl ?_
  obtain ⟨xq1, h⟩ := iC h
  have xq1 := keq xq1
  refine gf_1_1 (pc := 27) C wf_X4_239 dX4_isKindAsTold_27 xq1 ?_
  refine g_icmp_ge (pc := 30) C dX4_isKindAsTold_30 (tgt := 66) rfl (fun xq2 => ?_) (fun xq2 => ?_)
  · have h := iP xq2 h
    refine g_iconst (v := 1) (pc := 66) C dX4_isKindAsTold_66 ci_1 ?_
    exact rtZ hr dX4_isKindAsTold_67 (by decide) h
  · have h := iN xq2 h
    refine g_aload_n (pc := 33) C dX4_isKindAsTold_33 rfl 1 rfl ?_
    refine g_iload (pc := 34) C dX4_isKindAsTold_34 3 rfl ?_
    refine g_aload_n (pc := 36) C dX4_isKindAsTold_36 rfl 0 rfl ?_
    obtain ⟨xq3, h⟩ := iC h
    have xq3 := keq xq3
    refine gf_4_1 (pc := 37) C wf_X4_16 dX4_isKindAsTold_37 xq3 ?_
    refine g_iload_n (pc := 40) C dX4_isKindAsTold_40 rfl 2 rfl ?_
    refine g_iconst (v := 5) (pc := 41) C dX4_isKindAsTold_41 ci_5 ?_
    obtain ⟨xr6, xσ4, xc5, h⟩ := iB h
    refine g_callVi (pc := 42) (As := [.int (xa2), .int (5)]) (rest := [.int (xa4), .ref (yad y (xa1))]) C dX4_isKindAsTold_42 (fun l => c_X0_partOf l y _ _ _ _ _ _ xc5) cv_X4_144 ⟨rfl, rfl, Nat.le_of_ble_eq_true rfl, Nat.le_of_ble_eq_true rfl⟩ (rv0 rfl) rfl (Nat.le_of_ble_eq_true rfl) ?_
    obtain ⟨xr9, xσ7, xc8, h⟩ := iB h
    refine g_callVi (pc := 45) (As := [.int (xa4), .int (xr6)]) (rest := []) C dX4_isKindAsTold_45 (fun l => c_X1_allows l y _ _ _ _ _ _ xc8) cv_X4_270 ⟨rfl, rfl, Nat.le_of_ble_eq_true rfl, Nat.le_of_ble_eq_true rfl⟩ (rv1 xq1) rfl (Nat.le_of_ble_eq_true rfl) ?_
    refine g_if_ne (pc := 48) C dX4_isKindAsTold_48 (tgt := 53) rfl (fun xq10 => ?_) (fun xq10 => ?_)
    · have h := iN xq10 h
      refine g_aload_n (pc := 53) C dX4_isKindAsTold_53 rfl 0 rfl ?_
      refine gf_4_1 (pc := 54) C wf_X4_16 dX4_isKindAsTold_54 xq3 ?_
      obtain ⟨xr13, xσ11, xc12, h⟩ := iB h
      refine g_callVv (pc := 57) (As := []) (rest := []) C dX4_isKindAsTold_57 (fun l => c_X0_passMinute l y _ _ _ _ xc12) cv_X4_148 ⟨rfl, rfl, Nat.le_of_ble_eq_true rfl, Nat.le_of_ble_eq_true rfl⟩ (rv0 rfl) rfl (Nat.le_of_ble_eq_true rfl) ?_
      refine g_iinc (lv' := [(4, .int (xa4 + 1)), (0, .ref (yad y (xa0))), (1, .ref (yad y (xa1))), (2, .int (xa2))]) (w := xa4 + 1) (pc := 60) C dX4_isKindAsTold_60 (k := 3) rfl rfl (Nat.le_of_ble_eq_true rfl) rfl ?_
      refine g_goto (pc := 63) C dX4_isKindAsTold_63 (tgt := 24) rfl ?_
      refine g_sub (lv' := [(0, .ref (yad y (xa0))), (1, .ref (yad y (xa1))), (2, .int (xa2)), (4, .int (xa4 + 1))]) C [1, 2, 3, 0] rfl ?_
      exact xH24 xa0 xa1 xa2 (xa4 + 1) xσ11 h
    · have h := iP xq10 h
      refine g_iconst (v := 0) (pc := 51) C dX4_isKindAsTold_51 ci_0 ?_
      exact rtZ hr dX4_isKindAsTold_52 (by decide) h
theorem l_X4_isKindAsTold_24 {x : XT} {y : YT} {Z : State → Prop} (C : Cx x y (AY y) RX4 cX4_isKindAsTold 5 rm_X4_isKindAsTold) {r : Int32} {σ' : Sto} (hr : RetZ x y (AY y) 5 cX4_isKindAsTold Z r σ') (n : Nat) (xa0 : Nat) (xa1 : Nat) (xa2 : Int32) (xa4 : Int32) (σ : Sto) (h : lo4 (F_X4_isKindAsTold_b24) n xa0 xa1 xa2 xa4 σ = some (r, σ')) : GW x y (AY y) 5 Z 24 [(0, .ref (yad y (xa0))), (1, .ref (yad y (xa1))), (2, .int (xa2)), (4, .int (xa4))] [] σ :=
  lo4_gw (G := fun xa0 xa1 xa2 xa4 σ => GW x y (AY y) 5 Z 24 [(0, .ref (yad y (xa0))), (1, .ref (yad y (xa1))), (2, .int (xa2)), (4, .int (xa4))] [] σ) (fun xk xHk xa0 xa1 xa2 xa4 σ h => b_X4_isKindAsTold_24 C hr xk xHk xa0 xa1 xa2 xa4 σ h) n xa0 xa1 xa2 xa4 σ h
set_option maxHeartbeats 4000000 in
set_option maxRecDepth 20000 in
theorem b_X4_isKindAsTold_0 {x : XT} {y : YT} {Z : State → Prop} (C : Cx x y (AY y) RX4 cX4_isKindAsTold 5 rm_X4_isKindAsTold) {r : Int32} {σ' : Sto} (hr : RetZ x y (AY y) 5 cX4_isKindAsTold Z r σ') (xa0 : Nat) (xa1 : Nat) (xa2 : Int32) (xa3 : Int32) (σ : Sto) (h : F_X4_isKindAsTold xa0 xa1 xa2 xa3 σ = some (r, σ')) : GW x y (AY y) 5 Z 0 [(0, .ref (yad y (xa0))), (1, .ref (yad y (xa1))), (2, .int (xa2)), (3, .int (xa3))] [] σ := by
  unfold F_X4_isKindAsTold at h
  refine g_aload_n (pc := 0) C dX4_isKindAsTold_0 rfl 0 rfl ?_
  obtain ⟨xq1, h⟩ := iC h
  have xq1 := keq xq1
  refine gf_4_1 (pc := 1) C wf_X4_16 dX4_isKindAsTold_1 xq1 ?_
  refine g_aload_n (pc := 4) C dX4_isKindAsTold_4 rfl 0 rfl ?_
  refine gf_4_0 (pc := 5) C wf_X4_10 dX4_isKindAsTold_5 xq1 ?_
  obtain ⟨xr4, xσ2, xc3, h⟩ := iB h
  refine g_callVv (pc := 8) (As := [.ref (yad y (1))]) (rest := []) C dX4_isKindAsTold_8 (fun l => c_X0_become l y _ _ _ _ _ xc3) cv_X4_140 ⟨rfl, rfl, Nat.le_of_ble_eq_true rfl, Nat.le_of_ble_eq_true rfl⟩ (rv0 rfl) rfl (Nat.le_of_ble_eq_true rfl) ?_
  refine g_aload_n (pc := 11) C dX4_isKindAsTold_11 rfl 0 rfl ?_
  refine gf_4_1 (pc := 12) C wf_X4_16 dX4_isKindAsTold_12 xq1 ?_
  refine g_iload_n (pc := 15) C dX4_isKindAsTold_15 rfl 2 rfl ?_
  refine g_iconst (v := 0) (pc := 16) C dX4_isKindAsTold_16 ci_0 ?_
  refine g_iload_n (pc := 17) C dX4_isKindAsTold_17 rfl 3 rfl ?_
  obtain ⟨xr7, xσ5, xc6, h⟩ := iB h
  refine g_callVv (pc := 18) (As := [.int (xa2), .int (0), .int (xa3)]) (rest := []) C dX4_isKindAsTold_18 (fun l => c_X0_give l y _ _ _ _ _ _ _ xc6) cv_X4_86 ⟨rfl, rfl, Nat.le_of_ble_eq_true rfl, Nat.le_of_ble_eq_true rfl⟩ (rv0 rfl) rfl (Nat.le_of_ble_eq_true rfl) ?_
  refine g_iconst (v := 0) (pc := 21) C dX4_isKindAsTold_21 ci_0 ?_
  refine g_istore (i := 4) (lv' := [(4, .int (0)), (0, .ref (yad y (xa0))), (1, .ref (yad y (xa1))), (2, .int (xa2)), (3, .int (xa3))]) (pc := 22) C dX4_isKindAsTold_22 (Nat.le_of_ble_eq_true rfl) rfl ?_
  refine g_sub (lv' := [(0, .ref (yad y (xa0))), (1, .ref (yad y (xa1))), (2, .int (xa2)), (4, .int (0))]) C [1, 2, 3, 0] rfl ?_
  exact l_X4_isKindAsTold_24 C hr 1000 xa0 xa1 xa2 0 xσ5 h
theorem c_X4_isKindAsTold (l : Launch) (y : YT) (xa0 : Nat) (xa1 : Nat) (xa2 : Int32) (xa3 : Int32) (σ σ' : Sto) (r : Int32) (h : F_X4_isKindAsTold xa0 xa1 xa2 xa3 σ = some (r, σ')) : MI l y yX4_isKindAsTold (Cond.code yX4_isKindAsTold cX4_isKindAsTold 5 (some .boolean) :: TT) rm_X4_isKindAsTold [.ref (yad y (xa0)), .ref (yad y (xa1)), .int (xa2), .int (xa3)] σ r σ' :=
  mkZ (by decide) rfl rfl rfl (Nat.le_of_ble_eq_true rfl) (fun x Z C hr => b_X4_isKindAsTold_0 C hr xa0 xa1 xa2 xa3 σ h)
def rm_X4_kinds : Room := { frames := 7, cells := 0, slots := 0, locals := 172 }
def F_X4_kinds_b43 (xk_43 : Nat → Int32 → Option Nat → Int32 → Int32 → Sto → Option (Int32 × Sto)) (xa0 : Nat) (xa2 : Int32) (xa3 : Option Nat) (xa4 : Int32) (xa5 : Int32) (σ : Sto) : Option (Int32 × Sto) := if 6 < xa5 then some (xa4, σ) else ocase xa3 none (fun xk2 => ck (kd (xa0) == 4) (bnd (F_X4_isKindAsTold (xa0) (xk2) (xa2) (xa5) σ) (fun xr6 xσ3 => if (xr6) = 0 then xk_43 xa0 xa2 (some (xk2)) xa4 (xa5 + 1) xσ3 else lti (xa4 ||| (isl 1 xa5)) (fun xv8 => xk_43 xa0 xa2 (some (xk2)) xv8 (xa5 + 1) xσ3))))
def F_X4_kinds (xa0 : Nat) (xa1 : Int32) (xa2 : Int32) (σ : Sto) : Option (Int32 × Sto) := ck (kd (xa0) == 4) (bnd (F_X4_sheetAt (xa0) (xa1) σ) (fun xr4 xσ1 => ocase xr4 (bnd (F_X4_refusalFor none xσ1) (fun xr8 xσ6 => bnd (F_X4_finding (xa0) (xr8) xσ6) (fun xr11 xσ9 => some (xr11, xσ9)))) (fun xk5 => ck (kd (xk5) == 1) (bnd (F_X1_isMissing (xk5) xσ1) (fun xr15 xσ12 => if (xr15) = 0 then bnd (F_X0_isSitter (1) (xa2) xσ12) (fun xr25 xσ23 => if (xr25) = 0 then bnd (F_X4_refusalFor (some (xk5)) xσ23) (fun xr29 xσ27 => bnd (F_X4_finding (xa0) (xr29) xσ27) (fun xr32 xσ30 => some (xr32, xσ30))) else lo5 (F_X4_kinds_b43) 1000 xa0 xa2 (some (xk5)) 0 0 xσ23) else bnd (F_X4_refusalFor (some (xk5)) xσ12) (fun xr19 xσ17 => bnd (F_X4_finding (xa0) (xr19) xσ17) (fun xr22 xσ20 => some (xr22, xσ20))))))))
set_option maxHeartbeats 4000000 in
set_option maxRecDepth 20000 in
theorem b_X4_kinds_43 {x : XT} {y : YT} {Z : State → Prop} (C : Cx x y (AY y) RX4 cX4_kinds 6 rm_X4_kinds) {r : Int32} {σ' : Sto} (hr : RetI x y (AY y) 6 cX4_kinds Z r σ') (xk_43 : Nat → Int32 → Option Nat → Int32 → Int32 → Sto → Option (Int32 × Sto)) (xH43 : ∀ (xa0 : Nat) (xa2 : Int32) (xa3 : Option Nat) (xa4 : Int32) (xa5 : Int32) (σ : Sto), xk_43 xa0 xa2 xa3 xa4 xa5 σ = some (r, σ') → GW x y (AY y) 6 Z 43 [(0, .ref (yad y (xa0))), (2, .int (xa2)), (3, nv y xa3), (4, .int (xa4)), (5, .int (xa5))] [] σ) (xa0 : Nat) (xa2 : Int32) (xa3 : Option Nat) (xa4 : Int32) (xa5 : Int32) (σ : Sto) (h : F_X4_kinds_b43 xk_43 xa0 xa2 xa3 xa4 xa5 σ = some (r, σ')) : GW x y (AY y) 6 Z 43 [(0, .ref (yad y (xa0))), (2, .int (xa2)), (3, nv y xa3), (4, .int (xa4)), (5, .int (xa5))] [] σ := by
  unfold F_X4_kinds_b43 at h
  refine g_iload (pc := 43) C dX4_kinds_43 4 rfl ?_
  refine g_bipush (v := 6) (pc := 45) C dX4_kinds_45 cb_6 ?_
  refine g_icmp_gt (pc := 47) C dX4_kinds_47 (tgt := 76) rfl (fun xq1 => ?_) (fun xq1 => ?_)
  · have h := iP xq1 h
    refine g_iload (pc := 76) C dX4_kinds_76 3 rfl ?_
    exact rtI hr dX4_kinds_78 h
  · have h := iN xq1 h
    refine g_aload_n (pc := 50) C dX4_kinds_50 rfl 0 rfl ?_
    refine g_naload_n (pc := 51) C dX4_kinds_51 rfl 2 rfl ?_
    refine g_iload_n (pc := 52) C dX4_kinds_52 rfl 1 rfl ?_
    refine g_iload (pc := 53) C dX4_kinds_53 4 rfl ?_
    obtain ⟨xk2, rfl, h⟩ := iOs h
    obtain ⟨xq5, h⟩ := iC h
    have xq5 := keq xq5
    obtain ⟨xr6, xσ3, xc4, h⟩ := iB h
    refine g_callVi (pc := 55) (As := [.ref (yad y (xk2)), .int (xa2), .int (xa5)]) (rest := []) C dX4_kinds_55 (fun l => c_X4_isKindAsTold l y _ _ _ _ _ _ _ xc4) cv_X4_192 ⟨rfl, rfl, Nat.le_of_ble_eq_true rfl, Nat.le_of_ble_eq_true rfl⟩ (rv4 xq5) rfl (Nat.le_of_ble_eq_true rfl) ?_
    refine g_if_eq (pc := 58) C dX4_kinds_58 (tgt := 70) rfl (fun xq7 => ?_) (fun xq7 => ?_)
    · have h := iP xq7 h
      refine g_iinc (lv' := [(5, .int (xa5 + 1)), (0, .ref (yad y (xa0))), (2, .int (xa2)), (3, .ref (yad y (xk2))), (4, .int (xa4))]) (w := xa5 + 1) (pc := 70) C dX4_kinds_70 (k := 4) rfl rfl (Nat.le_of_ble_eq_true rfl) rfl ?_
      refine g_goto (pc := 73) C dX4_kinds_73 (tgt := 43) rfl ?_
      refine g_sub (lv' := [(0, .ref (yad y (xa0))), (2, .int (xa2)), (3, nv y (some (xk2))), (4, .int (xa4)), (5, .int (xa5 + 1))]) C [1, 2, 3, 4, 0] rfl ?_
      exact xH43 xa0 xa2 (some (xk2)) xa4 (xa5 + 1) xσ3 h
    · have h := iN xq7 h
      refine g_iload (pc := 61) C dX4_kinds_61 3 rfl ?_
      refine g_iconst (v := 1) (pc := 63) C dX4_kinds_63 ci_1 ?_
      refine g_iload (pc := 64) C dX4_kinds_64 4 rfl ?_
      refine g_ishl (pc := 66) C dX4_kinds_66 ?_
      refine g_ior (pc := 67) C dX4_kinds_67 ?_
      refine g_letI h (fun xv8 h => ?_)
      refine g_istore (i := 4) (lv' := [(4, .int (xv8)), (0, .ref (yad y (xa0))), (2, .int (xa2)), (3, .ref (yad y (xk2))), (5, .int (xa5))]) (pc := 68) C dX4_kinds_68 (Nat.le_of_ble_eq_true rfl) rfl ?_
      refine g_iinc (lv' := [(5, .int (xa5 + 1)), (4, .int (xv8)), (0, .ref (yad y (xa0))), (2, .int (xa2)), (3, .ref (yad y (xk2)))]) (w := xa5 + 1) (pc := 70) C dX4_kinds_70 (k := 4) rfl rfl (Nat.le_of_ble_eq_true rfl) rfl ?_
      refine g_goto (pc := 73) C dX4_kinds_73 (tgt := 43) rfl ?_
      refine g_sub (lv' := [(0, .ref (yad y (xa0))), (2, .int (xa2)), (3, nv y (some (xk2))), (4, .int (xv8)), (5, .int (xa5 + 1))]) C [2, 3, 4, 1, 0] rfl ?_
      exact xH43 xa0 xa2 (some (xk2)) xv8 (xa5 + 1) xσ3 h
theorem l_X4_kinds_43 {x : XT} {y : YT} {Z : State → Prop} (C : Cx x y (AY y) RX4 cX4_kinds 6 rm_X4_kinds) {r : Int32} {σ' : Sto} (hr : RetI x y (AY y) 6 cX4_kinds Z r σ') (n : Nat) (xa0 : Nat) (xa2 : Int32) (xa3 : Option Nat) (xa4 : Int32) (xa5 : Int32) (σ : Sto) (h : lo5 (F_X4_kinds_b43) n xa0 xa2 xa3 xa4 xa5 σ = some (r, σ')) : GW x y (AY y) 6 Z 43 [(0, .ref (yad y (xa0))), (2, .int (xa2)), (3, nv y xa3), (4, .int (xa4)), (5, .int (xa5))] [] σ :=
  lo5_gw (G := fun xa0 xa2 xa3 xa4 xa5 σ => GW x y (AY y) 6 Z 43 [(0, .ref (yad y (xa0))), (2, .int (xa2)), (3, nv y xa3), (4, .int (xa4)), (5, .int (xa5))] [] σ) (fun xk xHk xa0 xa2 xa3 xa4 xa5 σ h => b_X4_kinds_43 C hr xk xHk xa0 xa2 xa3 xa4 xa5 σ h) n xa0 xa2 xa3 xa4 xa5 σ h
set_option maxHeartbeats 4000000 in
set_option maxRecDepth 20000 in
theorem b_X4_kinds_0 {x : XT} {y : YT} {Z : State → Prop} (C : Cx x y (AY y) RX4 cX4_kinds 6 rm_X4_kinds) {r : Int32} {σ' : Sto} (hr : RetI x y (AY y) 6 cX4_kinds Z r σ') (xa0 : Nat) (xa1 : Int32) (xa2 : Int32) (σ : Sto) (h : F_X4_kinds xa0 xa1 xa2 σ = some (r, σ')) : GW x y (AY y) 6 Z 0 [(0, .ref (yad y (xa0))), (1, .int (xa1)), (2, .int (xa2))] [] σ := by
  unfold F_X4_kinds at h
  refine g_aload_n (pc := 0) C dX4_kinds_0 rfl 0 rfl ?_
  refine g_iload_n (pc := 1) C dX4_kinds_1 rfl 1 rfl ?_
  obtain ⟨xq3, h⟩ := iC h
  have xq3 := keq xq3
  obtain ⟨xr4, xσ1, xc2, h⟩ := iB h
  refine g_callVq (pc := 2) (As := [.int (xa1)]) (rest := []) C dX4_kinds_2 (fun l => c_X4_sheetAt l y _ _ _ _ _ xc2) cv_X4_177 ⟨rfl, rfl, Nat.le_of_ble_eq_true rfl, Nat.le_of_ble_eq_true rfl⟩ (rv4 xq3) rfl (Nat.le_of_ble_eq_true rfl) ?_
  refine g_nastore_n (i := 3) (lv' := [(3, nv y xr4), (0, .ref (yad y (xa0))), (1, .int (xa1)), (2, .int (xa2))]) (pc := 5) C dX4_kinds_5 rfl (Nat.le_of_ble_eq_true rfl) rfl ?_
  refine g_naload_n (pc := 6) C dX4_kinds_6 rfl 0 rfl ?_
  refine g_ifnull (pc := 7) C dX4_kinds_7 (tgt := 28) rfl (fun xq33 => ?_) (fun xk5 xq33 => ?_)
  · subst xq33
    have h := iO0 h
    refine g_aload_n (pc := 28) C dX4_kinds_28 rfl 1 rfl ?_
    refine g_naload_n (pc := 29) C dX4_kinds_29 rfl 0 rfl ?_
    obtain ⟨xr8, xσ6, xc7, h⟩ := iB h
    refine g_callSi (pc := 30) (As := [nv y none]) (rest := [.ref (yad y (xa0))]) C dX4_kinds_30 (fun l => c_X4_refusalFor l y _ _ _ _ xc7) cv_X4_184 ⟨rfl, rfl, Nat.le_of_ble_eq_true rfl, Nat.le_of_ble_eq_true rfl⟩ rfl (Nat.le_of_ble_eq_true rfl) ?_
    obtain ⟨xr11, xσ9, xc10, h⟩ := iB h
    refine g_callVi (pc := 33) (As := [.int (xr8)]) (rest := []) C dX4_kinds_33 (fun l => c_X4_finding l y _ _ _ _ _ xc10) cv_X4_57 ⟨rfl, rfl, Nat.le_of_ble_eq_true rfl, Nat.le_of_ble_eq_true rfl⟩ (rv4 xq3) rfl (Nat.le_of_ble_eq_true rfl) ?_
    exact rtI hr dX4_kinds_36 h
  · subst xq33
    have h := iO1 h
    refine g_aload_n (pc := 10) C dX4_kinds_10 rfl 0 rfl ?_
    obtain ⟨xq14, h⟩ := iC h
    have xq14 := keq xq14
    obtain ⟨xr15, xσ12, xc13, h⟩ := iB h
    refine g_callVi (pc := 11) (As := []) (rest := []) C dX4_kinds_11 (fun l => c_X1_isMissing l y _ _ _ _ xc13) cv_X4_181 ⟨rfl, rfl, Nat.le_of_ble_eq_true rfl, Nat.le_of_ble_eq_true rfl⟩ (rv1 xq14) rfl (Nat.le_of_ble_eq_true rfl) ?_
    refine g_if_ne (pc := 14) C dX4_kinds_14 (tgt := 28) rfl (fun xq16 => ?_) (fun xq16 => ?_)
    · have h := iN xq16 h
      refine g_aload_n (pc := 28) C dX4_kinds_28 rfl 1 rfl ?_
      refine g_aload_n (pc := 29) C dX4_kinds_29 rfl 0 rfl ?_
      obtain ⟨xr19, xσ17, xc18, h⟩ := iB h
      refine g_callSi (pc := 30) (As := [nv y (some (xk5))]) (rest := [.ref (yad y (xa0))]) C dX4_kinds_30 (fun l => c_X4_refusalFor l y _ _ _ _ xc18) cv_X4_184 ⟨rfl, rfl, Nat.le_of_ble_eq_true rfl, Nat.le_of_ble_eq_true rfl⟩ rfl (Nat.le_of_ble_eq_true rfl) ?_
      obtain ⟨xr22, xσ20, xc21, h⟩ := iB h
      refine g_callVi (pc := 33) (As := [.int (xr19)]) (rest := []) C dX4_kinds_33 (fun l => c_X4_finding l y _ _ _ _ _ xc21) cv_X4_57 ⟨rfl, rfl, Nat.le_of_ble_eq_true rfl, Nat.le_of_ble_eq_true rfl⟩ (rv4 xq3) rfl (Nat.le_of_ble_eq_true rfl) ?_
      exact rtI hr dX4_kinds_36 h
    · have h := iP xq16 h
      refine g_aload_n (pc := 17) C dX4_kinds_17 rfl 1 rfl ?_
      refine gf_4_0 (pc := 18) C wf_X4_10 dX4_kinds_18 xq3 ?_
      refine g_iload_n (pc := 21) C dX4_kinds_21 rfl 3 rfl ?_
      obtain ⟨xr25, xσ23, xc24, h⟩ := iB h
      refine g_callVi (pc := 22) (As := [.int (xa2)]) (rest := []) C dX4_kinds_22 (fun l => c_X0_isSitter l y _ _ _ _ _ xc24) cv_X4_137 ⟨rfl, rfl, Nat.le_of_ble_eq_true rfl, Nat.le_of_ble_eq_true rfl⟩ (rv0 rfl) rfl (Nat.le_of_ble_eq_true rfl) ?_
      refine g_if_ne (pc := 25) C dX4_kinds_25 (tgt := 37) rfl (fun xq26 => ?_) (fun xq26 => ?_)
      · have h := iN xq26 h
        refine g_iconst (v := 0) (pc := 37) C dX4_kinds_37 ci_0 ?_
        refine g_istore (i := 4) (lv' := [(4, .int (0)), (3, .ref (yad y (xk5))), (0, .ref (yad y (xa0))), (1, .int (xa1)), (2, .int (xa2))]) (pc := 38) C dX4_kinds_38 (Nat.le_of_ble_eq_true rfl) rfl ?_
        refine g_iconst (v := 0) (pc := 40) C dX4_kinds_40 ci_0 ?_
        refine g_istore (i := 5) (lv' := [(5, .int (0)), (4, .int (0)), (3, .ref (yad y (xk5))), (0, .ref (yad y (xa0))), (1, .int (xa1)), (2, .int (xa2))]) (pc := 41) C dX4_kinds_41 (Nat.le_of_ble_eq_true rfl) rfl ?_
        refine g_sub (lv' := [(0, .ref (yad y (xa0))), (2, .int (xa2)), (3, nv y (some (xk5))), (4, .int (0)), (5, .int (0))]) C [3, 5, 2, 1, 0] rfl ?_
        exact l_X4_kinds_43 C hr 1000 xa0 xa2 (some (xk5)) 0 0 xσ23 h
      · have h := iP xq26 h
        refine g_aload_n (pc := 28) C dX4_kinds_28 rfl 1 rfl ?_
        refine g_aload_n (pc := 29) C dX4_kinds_29 rfl 0 rfl ?_
        obtain ⟨xr29, xσ27, xc28, h⟩ := iB h
        refine g_callSi (pc := 30) (As := [nv y (some (xk5))]) (rest := [.ref (yad y (xa0))]) C dX4_kinds_30 (fun l => c_X4_refusalFor l y _ _ _ _ xc28) cv_X4_184 ⟨rfl, rfl, Nat.le_of_ble_eq_true rfl, Nat.le_of_ble_eq_true rfl⟩ rfl (Nat.le_of_ble_eq_true rfl) ?_
        obtain ⟨xr32, xσ30, xc31, h⟩ := iB h
        refine g_callVi (pc := 33) (As := [.int (xr29)]) (rest := []) C dX4_kinds_33 (fun l => c_X4_finding l y _ _ _ _ _ xc31) cv_X4_57 ⟨rfl, rfl, Nat.le_of_ble_eq_true rfl, Nat.le_of_ble_eq_true rfl⟩ (rv4 xq3) rfl (Nat.le_of_ble_eq_true rfl) ?_
        exact rtI hr dX4_kinds_36 h
theorem c_X4_kinds (l : Launch) (y : YT) (xa0 : Nat) (xa1 : Int32) (xa2 : Int32) (σ σ' : Sto) (r : Int32) (h : F_X4_kinds xa0 xa1 xa2 σ = some (r, σ')) : MI l y yX4_kinds (Cond.code yX4_kinds cX4_kinds 6 (some .int) :: TT) rm_X4_kinds [.ref (yad y (xa0)), .int (xa1), .int (xa2)] σ r σ' :=
  mkI (by decide) rfl rfl rfl (Nat.le_of_ble_eq_true rfl) (fun x Z C hr => b_X4_kinds_0 C hr xa0 xa1 xa2 σ h)
def rm_X4_lamps : Room := { frames := 6, cells := 0, slots := 0, locals := 148 }
def F_X4_lamps_b41 (xk_41 : Nat → Int32 → Int32 → Sto → Option (Int32 × Sto)) (xa0 : Nat) (xa1 : Int32) (xa2 : Int32) (σ : Sto) : Option (Int32 × Sto) := if xa1 ≤ xa2 then ck (kd (xa0) == 4) (bnd (F_X0_sumOf (1) 5 σ) (fun xr5 xσ3 => some (xr5, xσ3))) else ck (kd (xa0) == 4) (bnd (F_X0_draw (1) σ) (fun xr9 xσ7 => lts (up2 xσ7 (1) 1 (irm xr9 10)) (fun xσ10 => bnd (F_X0_draw (1) xσ10) (fun xr13 xσ11 => lti (irm xr13 8) (fun xv14 => bnd (F_X0_isSitter (1) (xv14) xσ11) (fun xr17 xσ15 => if (xr17) = 0 then bnd (F_X0_passMinute (1) xσ15) (fun xr21 xσ19 => xk_41 xa0 xa1 (xa2 + 1) xσ19) else bnd (F_X0_nextPlace (1) xσ15) (fun xr24 xσ22 => bnd (F_X0_seat (1) (xr24) (xv14) xσ22) (fun xr27 xσ25 => bnd (F_X0_passMinute (1) xσ25) (fun xr30 xσ28 => xk_41 xa0 xa1 (xa2 + 1) xσ28)))))))))
def F_X4_lamps (xa0 : Nat) (xa1 : Int32) (σ : Sto) : Option (Int32 × Sto) := if xa1 < 1 then ck (kd (xa0) == 4) (bnd (F_X4_finding (xa0) (-1000001) σ) (fun xr5 xσ2 => some (xr5, xσ2))) else if xa1 ≤ 20 then ck (kd (xa0) == 4) (if ((σ 1 4) + xa1) ≤ 99999 then lo3 (F_X4_lamps_b41) 1000 xa0 xa1 0 σ else bnd (F_X4_finding (xa0) (-1000005) σ) (fun xr11 xσ9 => some (xr11, xσ9))) else ck (kd (xa0) == 4) (bnd (F_X4_finding (xa0) (-1000001) σ) (fun xr15 xσ12 => some (xr15, xσ12)))
set_option maxHeartbeats 4000000 in
set_option maxRecDepth 20000 in
theorem b_X4_lamps_41 {x : XT} {y : YT} {Z : State → Prop} (C : Cx x y (AY y) RX4 cX4_lamps 4 rm_X4_lamps) {r : Int32} {σ' : Sto} (hr : RetI x y (AY y) 4 cX4_lamps Z r σ') (xk_41 : Nat → Int32 → Int32 → Sto → Option (Int32 × Sto)) (xH41 : ∀ (xa0 : Nat) (xa1 : Int32) (xa2 : Int32) (σ : Sto), xk_41 xa0 xa1 xa2 σ = some (r, σ') → GW x y (AY y) 4 Z 41 [(0, .ref (yad y (xa0))), (1, .int (xa1)), (2, .int (xa2))] [] σ) (xa0 : Nat) (xa1 : Int32) (xa2 : Int32) (σ : Sto) (h : F_X4_lamps_b41 xk_41 xa0 xa1 xa2 σ = some (r, σ')) : GW x y (AY y) 4 Z 41 [(0, .ref (yad y (xa0))), (1, .int (xa1)), (2, .int (xa2))] [] σ := by
  unfold F_X4_lamps_b41 at h
  refine g_iload_n (pc := 41) C dX4_lamps_41 rfl 2 rfl ?_
  refine g_iload_n (pc := 42) C dX4_lamps_42 rfl 1 rfl ?_
  refine g_icmp_ge (pc := 43) C dX4_lamps_43 (tgt := 113) rfl (fun xq1 => ?_) (fun xq1 => ?_)
  · have h := iP xq1 h
    refine g_aload_n (pc := 113) C dX4_lamps_113 rfl 0 rfl ?_
    obtain ⟨xq2, h⟩ := iC h
    have xq2 := keq xq2
    refine gf_4_0 (pc := 114) C wf_X4_10 dX4_lamps_114 xq2 ?_
    refine g_iconst (v := 5) (pc := 117) C dX4_lamps_117 ci_5 ?_
    obtain ⟨xr5, xσ3, xc4, h⟩ := iB h
    refine g_callVi (pc := 118) (As := [.int (5)]) (rest := []) C dX4_lamps_118 (fun l => c_X0_sumOf l y _ _ _ _ _ xc4) cv_X4_125 ⟨rfl, rfl, Nat.le_of_ble_eq_true rfl, Nat.le_of_ble_eq_true rfl⟩ (rv0 rfl) rfl (Nat.le_of_ble_eq_true rfl) ?_
    exact rtI hr dX4_lamps_121 h
  · have h := iN xq1 h
    refine g_aload_n (pc := 46) C dX4_lamps_46 rfl 0 rfl ?_
    obtain ⟨xq6, h⟩ := iC h
    have xq6 := keq xq6
    refine gf_4_0 (pc := 47) C wf_X4_10 dX4_lamps_47 xq6 ?_
    refine g_aload_n (pc := 50) C dX4_lamps_50 rfl 0 rfl ?_
    refine gf_4_0 (pc := 51) C wf_X4_10 dX4_lamps_51 xq6 ?_
    obtain ⟨xr9, xσ7, xc8, h⟩ := iB h
    refine g_callVi (pc := 54) (As := []) (rest := [.ref (yad y (1))]) C dX4_lamps_54 (fun l => c_X0_draw l y _ _ _ _ xc8) cv_X4_195 ⟨rfl, rfl, Nat.le_of_ble_eq_true rfl, Nat.le_of_ble_eq_true rfl⟩ (rv0 rfl) rfl (Nat.le_of_ble_eq_true rfl) ?_
    refine g_bipush (v := 10) (pc := 57) C dX4_lamps_57 cb_10 ?_
    refine g_irem (pc := 59) C dX4_lamps_59 (by decide) ?_
    refine gp_0_1 (pc := 60) C wf_X4_165 dX4_lamps_60 rfl ?_
    refine g_letS h (fun xσ10 h => ?_)
    refine g_aload_n (pc := 63) C dX4_lamps_63 rfl 0 rfl ?_
    refine gf_4_0 (pc := 64) C wf_X4_10 dX4_lamps_64 xq6 ?_
    obtain ⟨xr13, xσ11, xc12, h⟩ := iB h
    refine g_callVi (pc := 67) (As := []) (rest := []) C dX4_lamps_67 (fun l => c_X0_draw l y _ _ _ _ xc12) cv_X4_195 ⟨rfl, rfl, Nat.le_of_ble_eq_true rfl, Nat.le_of_ble_eq_true rfl⟩ (rv0 rfl) rfl (Nat.le_of_ble_eq_true rfl) ?_
    refine g_bipush (v := 8) (pc := 70) C dX4_lamps_70 cb_8 ?_
    refine g_irem (pc := 72) C dX4_lamps_72 (by decide) ?_
    refine g_letI h (fun xv14 h => ?_)
    refine g_istore_n (i := 3) (lv' := [(3, .int (xv14)), (0, .ref (yad y (xa0))), (1, .int (xa1)), (2, .int (xa2))]) (pc := 73) C dX4_lamps_73 rfl (Nat.le_of_ble_eq_true rfl) rfl ?_
    refine g_aload_n (pc := 74) C dX4_lamps_74 rfl 1 rfl ?_
    refine gf_4_0 (pc := 75) C wf_X4_10 dX4_lamps_75 xq6 ?_
    refine g_iload_n (pc := 78) C dX4_lamps_78 rfl 0 rfl ?_
    obtain ⟨xr17, xσ15, xc16, h⟩ := iB h
    refine g_callVi (pc := 79) (As := [.int (xv14)]) (rest := []) C dX4_lamps_79 (fun l => c_X0_isSitter l y _ _ _ _ _ xc16) cv_X4_137 ⟨rfl, rfl, Nat.le_of_ble_eq_true rfl, Nat.le_of_ble_eq_true rfl⟩ (rv0 rfl) rfl (Nat.le_of_ble_eq_true rfl) ?_
    refine g_if_eq (pc := 82) C dX4_lamps_82 (tgt := 100) rfl (fun xq18 => ?_) (fun xq18 => ?_)
    · have h := iP xq18 h
      refine g_aload_n (pc := 100) C dX4_lamps_100 rfl 1 rfl ?_
      refine gf_4_0 (pc := 101) C wf_X4_10 dX4_lamps_101 xq6 ?_
      obtain ⟨xr21, xσ19, xc20, h⟩ := iB h
      refine g_callVv (pc := 104) (As := []) (rest := []) C dX4_lamps_104 (fun l => c_X0_passMinute l y _ _ _ _ xc20) cv_X4_148 ⟨rfl, rfl, Nat.le_of_ble_eq_true rfl, Nat.le_of_ble_eq_true rfl⟩ (rv0 rfl) rfl (Nat.le_of_ble_eq_true rfl) ?_
      refine g_iinc (lv' := [(2, .int (xa2 + 1)), (3, .int (xv14)), (0, .ref (yad y (xa0))), (1, .int (xa1))]) (w := xa2 + 1) (pc := 107) C dX4_lamps_107 (k := 3) rfl rfl (Nat.le_of_ble_eq_true rfl) rfl ?_
      refine g_goto (pc := 110) C dX4_lamps_110 (tgt := 41) rfl ?_
      refine g_sub (lv' := [(0, .ref (yad y (xa0))), (1, .int (xa1)), (2, .int (xa2 + 1))]) C [2, 3, 0] rfl ?_
      exact xH41 xa0 xa1 (xa2 + 1) xσ19 h
    · have h := iN xq18 h
      refine g_aload_n (pc := 85) C dX4_lamps_85 rfl 1 rfl ?_
      refine gf_4_0 (pc := 86) C wf_X4_10 dX4_lamps_86 xq6 ?_
      refine g_aload_n (pc := 89) C dX4_lamps_89 rfl 1 rfl ?_
      refine gf_4_0 (pc := 90) C wf_X4_10 dX4_lamps_90 xq6 ?_
      obtain ⟨xr24, xσ22, xc23, h⟩ := iB h
      refine g_callVi (pc := 93) (As := []) (rest := [.ref (yad y (1))]) C dX4_lamps_93 (fun l => c_X0_nextPlace l y _ _ _ _ xc23) cv_X4_128 ⟨rfl, rfl, Nat.le_of_ble_eq_true rfl, Nat.le_of_ble_eq_true rfl⟩ (rv0 rfl) rfl (Nat.le_of_ble_eq_true rfl) ?_
      refine g_iload_n (pc := 96) C dX4_lamps_96 rfl 0 rfl ?_
      obtain ⟨xr27, xσ25, xc26, h⟩ := iB h
      refine g_callVv (pc := 97) (As := [.int (xr24), .int (xv14)]) (rest := []) C dX4_lamps_97 (fun l => c_X0_seat l y _ _ _ _ _ _ xc26) cv_X4_76 ⟨rfl, rfl, Nat.le_of_ble_eq_true rfl, Nat.le_of_ble_eq_true rfl⟩ (rv0 rfl) rfl (Nat.le_of_ble_eq_true rfl) ?_
      refine g_aload_n (pc := 100) C dX4_lamps_100 rfl 1 rfl ?_
      refine gf_4_0 (pc := 101) C wf_X4_10 dX4_lamps_101 xq6 ?_
      obtain ⟨xr30, xσ28, xc29, h⟩ := iB h
      refine g_callVv (pc := 104) (As := []) (rest := []) C dX4_lamps_104 (fun l => c_X0_passMinute l y _ _ _ _ xc29) cv_X4_148 ⟨rfl, rfl, Nat.le_of_ble_eq_true rfl, Nat.le_of_ble_eq_true rfl⟩ (rv0 rfl) rfl (Nat.le_of_ble_eq_true rfl) ?_
      refine g_iinc (lv' := [(2, .int (xa2 + 1)), (3, .int (xv14)), (0, .ref (yad y (xa0))), (1, .int (xa1))]) (w := xa2 + 1) (pc := 107) C dX4_lamps_107 (k := 3) rfl rfl (Nat.le_of_ble_eq_true rfl) rfl ?_
      refine g_goto (pc := 110) C dX4_lamps_110 (tgt := 41) rfl ?_
      refine g_sub (lv' := [(0, .ref (yad y (xa0))), (1, .int (xa1)), (2, .int (xa2 + 1))]) C [2, 3, 0] rfl ?_
      exact xH41 xa0 xa1 (xa2 + 1) xσ28 h
theorem l_X4_lamps_41 {x : XT} {y : YT} {Z : State → Prop} (C : Cx x y (AY y) RX4 cX4_lamps 4 rm_X4_lamps) {r : Int32} {σ' : Sto} (hr : RetI x y (AY y) 4 cX4_lamps Z r σ') (n : Nat) (xa0 : Nat) (xa1 : Int32) (xa2 : Int32) (σ : Sto) (h : lo3 (F_X4_lamps_b41) n xa0 xa1 xa2 σ = some (r, σ')) : GW x y (AY y) 4 Z 41 [(0, .ref (yad y (xa0))), (1, .int (xa1)), (2, .int (xa2))] [] σ :=
  lo3_gw (G := fun xa0 xa1 xa2 σ => GW x y (AY y) 4 Z 41 [(0, .ref (yad y (xa0))), (1, .int (xa1)), (2, .int (xa2))] [] σ) (fun xk xHk xa0 xa1 xa2 σ h => b_X4_lamps_41 C hr xk xHk xa0 xa1 xa2 σ h) n xa0 xa1 xa2 σ h
set_option maxHeartbeats 4000000 in
set_option maxRecDepth 20000 in
theorem b_X4_lamps_0 {x : XT} {y : YT} {Z : State → Prop} (C : Cx x y (AY y) RX4 cX4_lamps 4 rm_X4_lamps) {r : Int32} {σ' : Sto} (hr : RetI x y (AY y) 4 cX4_lamps Z r σ') (xa0 : Nat) (xa1 : Int32) (σ : Sto) (h : F_X4_lamps xa0 xa1 σ = some (r, σ')) : GW x y (AY y) 4 Z 0 [(0, .ref (yad y (xa0))), (1, .int (xa1))] [] σ := by
  unfold F_X4_lamps at h
  refine g_iload_n (pc := 0) C dX4_lamps_0 rfl 1 rfl ?_
  refine g_iconst (v := 1) (pc := 1) C dX4_lamps_1 ci_1 ?_
  refine g_icmp_lt (pc := 2) C dX4_lamps_2 (tgt := 11) rfl (fun xq1 => ?_) (fun xq1 => ?_)
  · have h := iP xq1 h
    refine g_aload_n (pc := 11) C dX4_lamps_11 rfl 0 rfl ?_
    refine g_ldc (v := (-1000001)) (pc := 12) C dX4_lamps_12 wk_X4_56 ?_
    obtain ⟨xq4, h⟩ := iC h
    have xq4 := keq xq4
    obtain ⟨xr5, xσ2, xc3, h⟩ := iB h
    refine g_callVi (pc := 14) (As := [.int ((-1000001))]) (rest := []) C dX4_lamps_14 (fun l => c_X4_finding l y _ _ _ _ _ xc3) cv_X4_57 ⟨rfl, rfl, Nat.le_of_ble_eq_true rfl, Nat.le_of_ble_eq_true rfl⟩ (rv4 xq4) rfl (Nat.le_of_ble_eq_true rfl) ?_
    exact rtI hr dX4_lamps_17 h
  · have h := iN xq1 h
    refine g_iload_n (pc := 5) C dX4_lamps_5 rfl 1 rfl ?_
    refine g_bipush (v := 20) (pc := 6) C dX4_lamps_6 cb_20 ?_
    refine g_icmp_le (pc := 8) C dX4_lamps_8 (tgt := 18) rfl (fun xq6 => ?_) (fun xq6 => ?_)
    · have h := iP xq6 h
      refine g_aload_n (pc := 18) C dX4_lamps_18 rfl 0 rfl ?_
      obtain ⟨xq7, h⟩ := iC h
      have xq7 := keq xq7
      refine gf_4_0 (pc := 19) C wf_X4_10 dX4_lamps_19 xq7 ?_
      refine gf_0_4 (pc := 22) C wf_X4_116 dX4_lamps_22 rfl ?_
      refine g_iload_n (pc := 25) C dX4_lamps_25 rfl 1 rfl ?_
      refine g_iadd (pc := 26) C dX4_lamps_26 ?_
      refine g_ldc (v := 99999) (pc := 27) C dX4_lamps_27 wk_X4_119 ?_
      refine g_icmp_le (pc := 29) C dX4_lamps_29 (tgt := 39) rfl (fun xq8 => ?_) (fun xq8 => ?_)
      · have h := iP xq8 h
        refine g_iconst (v := 0) (pc := 39) C dX4_lamps_39 ci_0 ?_
        refine g_istore_n (i := 2) (lv' := [(2, .int (0)), (0, .ref (yad y (xa0))), (1, .int (xa1))]) (pc := 40) C dX4_lamps_40 rfl (Nat.le_of_ble_eq_true rfl) rfl ?_
        refine g_sub (lv' := [(0, .ref (yad y (xa0))), (1, .int (xa1)), (2, .int (0))]) C [1, 2, 0] rfl ?_
        exact l_X4_lamps_41 C hr 1000 xa0 xa1 0 σ h
      · have h := iN xq8 h
        refine g_aload_n (pc := 32) C dX4_lamps_32 rfl 0 rfl ?_
        refine g_ldc (v := (-1000005)) (pc := 33) C dX4_lamps_33 wk_X4_120 ?_
        obtain ⟨xr11, xσ9, xc10, h⟩ := iB h
        refine g_callVi (pc := 35) (As := [.int ((-1000005))]) (rest := []) C dX4_lamps_35 (fun l => c_X4_finding l y _ _ _ _ _ xc10) cv_X4_57 ⟨rfl, rfl, Nat.le_of_ble_eq_true rfl, Nat.le_of_ble_eq_true rfl⟩ (rv4 xq7) rfl (Nat.le_of_ble_eq_true rfl) ?_
        exact rtI hr dX4_lamps_38 h
    · have h := iN xq6 h
      refine g_aload_n (pc := 11) C dX4_lamps_11 rfl 0 rfl ?_
      refine g_ldc (v := (-1000001)) (pc := 12) C dX4_lamps_12 wk_X4_56 ?_
      obtain ⟨xq14, h⟩ := iC h
      have xq14 := keq xq14
      obtain ⟨xr15, xσ12, xc13, h⟩ := iB h
      refine g_callVi (pc := 14) (As := [.int ((-1000001))]) (rest := []) C dX4_lamps_14 (fun l => c_X4_finding l y _ _ _ _ _ xc13) cv_X4_57 ⟨rfl, rfl, Nat.le_of_ble_eq_true rfl, Nat.le_of_ble_eq_true rfl⟩ (rv4 xq14) rfl (Nat.le_of_ble_eq_true rfl) ?_
      exact rtI hr dX4_lamps_17 h
theorem c_X4_lamps (l : Launch) (y : YT) (xa0 : Nat) (xa1 : Int32) (σ σ' : Sto) (r : Int32) (h : F_X4_lamps xa0 xa1 σ = some (r, σ')) : MI l y yX4_lamps (Cond.code yX4_lamps cX4_lamps 4 (some .int) :: TT) rm_X4_lamps [.ref (yad y (xa0)), .int (xa1)] σ r σ' :=
  mkI (by decide) rfl rfl rfl (Nat.le_of_ble_eq_true rfl) (fun x Z C hr => b_X4_lamps_0 C hr xa0 xa1 σ h)
def rm_X4_lightsWithoutFaults : Room := { frames := 3, cells := 0, slots := 0, locals := 84 }
def F_X4_lightsWithoutFaults_b26 (xk_26 : Nat → Int32 → Option Nat → Int32 → Int32 → Sto → Option (Int32 × Sto)) (xa0 : Nat) (xa2 : Int32) (xa3 : Option Nat) (xa4 : Int32) (xa5 : Int32) (σ : Sto) : Option (Int32 × Sto) := if 10 ≤ xa5 then some (xa4, σ) else ocase xa3 (some (xa4, σ)) (fun xk2 => ck (kd (xa0) == 4) (lts (up2 σ (13) 1 (xa5)) (fun xσ4 => bnd (F_X0_faultsOf (13) (xk2) (xa2) xσ4) (fun xr7 xσ5 => if (xr7) = 0 then xk_26 xa0 xa2 (some (xk2)) (xa4 + 1) (xa5 + 1) xσ5 else xk_26 xa0 xa2 (some (xk2)) xa4 (xa5 + 1) xσ5))))
def F_X4_lightsWithoutFaults (xa0 : Nat) (xa1 : Int32) (xa2 : Int32) (σ : Sto) : Option (Int32 × Sto) := ck (kd (xa0) == 4) (bnd (F_X0_become (13) (1) σ) (fun xr4 xσ2 => bnd (F_X0_who (13) (xa1) xσ2) (fun xr7 xσ5 => lo5 (F_X4_lightsWithoutFaults_b26) 1000 xa0 xa2 xr7 0 0 xσ5)))
set_option maxHeartbeats 4000000 in
set_option maxRecDepth 20000 in
theorem b_X4_lightsWithoutFaults_26 {x : XT} {y : YT} {Z : State → Prop} (C : Cx x y (AY y) RX4 cX4_lightsWithoutFaults 6 rm_X4_lightsWithoutFaults) {r : Int32} {σ' : Sto} (hr : RetI x y (AY y) 6 cX4_lightsWithoutFaults Z r σ') (xk_26 : Nat → Int32 → Option Nat → Int32 → Int32 → Sto → Option (Int32 × Sto)) (xH26 : ∀ (xa0 : Nat) (xa2 : Int32) (xa3 : Option Nat) (xa4 : Int32) (xa5 : Int32) (σ : Sto), xk_26 xa0 xa2 xa3 xa4 xa5 σ = some (r, σ') → GW x y (AY y) 6 Z 26 [(0, .ref (yad y (xa0))), (2, .int (xa2)), (3, nv y xa3), (4, .int (xa4)), (5, .int (xa5))] [] σ) (xa0 : Nat) (xa2 : Int32) (xa3 : Option Nat) (xa4 : Int32) (xa5 : Int32) (σ : Sto) (h : F_X4_lightsWithoutFaults_b26 xk_26 xa0 xa2 xa3 xa4 xa5 σ = some (r, σ')) : GW x y (AY y) 6 Z 26 [(0, .ref (yad y (xa0))), (2, .int (xa2)), (3, nv y xa3), (4, .int (xa4)), (5, .int (xa5))] [] σ := by
  unfold F_X4_lightsWithoutFaults_b26 at h
  refine g_iload (pc := 26) C dX4_lightsWithoutFaults_26 4 rfl ?_
  refine g_bipush (v := 10) (pc := 28) C dX4_lightsWithoutFaults_28 cb_10 ?_
  refine g_icmp_ge (pc := 30) C dX4_lightsWithoutFaults_30 (tgt := 67) rfl (fun xq1 => ?_) (fun xq1 => ?_)
  · have h := iP xq1 h
    refine g_iload (pc := 67) C dX4_lightsWithoutFaults_67 3 rfl ?_
    exact rtI hr dX4_lightsWithoutFaults_69 h
  · have h := iN xq1 h
    refine g_naload_n (pc := 33) C dX4_lightsWithoutFaults_33 rfl 2 rfl ?_
    refine g_ifnull (pc := 34) C dX4_lightsWithoutFaults_34 (tgt := 67) rfl (fun xq9 => ?_) (fun xk2 xq9 => ?_)
    · subst xq9
      have h := iO0 h
      refine g_iload (pc := 67) C dX4_lightsWithoutFaults_67 3 rfl ?_
      exact rtI hr dX4_lightsWithoutFaults_69 h
    · subst xq9
      have h := iO1 h
      refine g_aload_n (pc := 37) C dX4_lightsWithoutFaults_37 rfl 0 rfl ?_
      obtain ⟨xq3, h⟩ := iC h
      have xq3 := keq xq3
      refine gf_4_1 (pc := 38) C wf_X4_16 dX4_lightsWithoutFaults_38 xq3 ?_
      refine g_iload (pc := 41) C dX4_lightsWithoutFaults_41 4 rfl ?_
      refine gp_0_1 (pc := 43) C wf_X4_165 dX4_lightsWithoutFaults_43 rfl ?_
      refine g_letS h (fun xσ4 h => ?_)
      refine g_aload_n (pc := 46) C dX4_lightsWithoutFaults_46 rfl 0 rfl ?_
      refine gf_4_1 (pc := 47) C wf_X4_16 dX4_lightsWithoutFaults_47 xq3 ?_
      refine g_aload_n (pc := 50) C dX4_lightsWithoutFaults_50 rfl 2 rfl ?_
      refine g_iload_n (pc := 51) C dX4_lightsWithoutFaults_51 rfl 1 rfl ?_
      obtain ⟨xr7, xσ5, xc6, h⟩ := iB h
      refine g_callVi (pc := 52) (As := [.ref (yad y (xk2)), .int (xa2)]) (rest := []) C dX4_lightsWithoutFaults_52 (fun l => c_X0_faultsOf l y _ _ _ _ _ _ xc6) cv_X4_107 ⟨rfl, rfl, Nat.le_of_ble_eq_true rfl, Nat.le_of_ble_eq_true rfl⟩ (rv0 rfl) rfl (Nat.le_of_ble_eq_true rfl) ?_
      refine g_if_ne (pc := 55) C dX4_lightsWithoutFaults_55 (tgt := 61) rfl (fun xq8 => ?_) (fun xq8 => ?_)
      · have h := iN xq8 h
        refine g_iinc (lv' := [(5, .int (xa5 + 1)), (0, .ref (yad y (xa0))), (2, .int (xa2)), (3, .ref (yad y (xk2))), (4, .int (xa4))]) (w := xa5 + 1) (pc := 61) C dX4_lightsWithoutFaults_61 (k := 4) rfl rfl (Nat.le_of_ble_eq_true rfl) rfl ?_
        refine g_goto (pc := 64) C dX4_lightsWithoutFaults_64 (tgt := 26) rfl ?_
        refine g_sub (lv' := [(0, .ref (yad y (xa0))), (2, .int (xa2)), (3, nv y (some (xk2))), (4, .int (xa4)), (5, .int (xa5 + 1))]) C [1, 2, 3, 4, 0] rfl ?_
        exact xH26 xa0 xa2 (some (xk2)) xa4 (xa5 + 1) xσ5 h
      · have h := iP xq8 h
        refine g_iinc (lv' := [(4, .int (xa4 + 1)), (0, .ref (yad y (xa0))), (2, .int (xa2)), (3, .ref (yad y (xk2))), (5, .int (xa5))]) (w := xa4 + 1) (pc := 58) C dX4_lightsWithoutFaults_58 (k := 3) rfl rfl (Nat.le_of_ble_eq_true rfl) rfl ?_
        refine g_iinc (lv' := [(5, .int (xa5 + 1)), (4, .int (xa4 + 1)), (0, .ref (yad y (xa0))), (2, .int (xa2)), (3, .ref (yad y (xk2)))]) (w := xa5 + 1) (pc := 61) C dX4_lightsWithoutFaults_61 (k := 4) rfl rfl (Nat.le_of_ble_eq_true rfl) rfl ?_
        refine g_goto (pc := 64) C dX4_lightsWithoutFaults_64 (tgt := 26) rfl ?_
        refine g_sub (lv' := [(0, .ref (yad y (xa0))), (2, .int (xa2)), (3, nv y (some (xk2))), (4, .int (xa4 + 1)), (5, .int (xa5 + 1))]) C [2, 3, 4, 1, 0] rfl ?_
        exact xH26 xa0 xa2 (some (xk2)) (xa4 + 1) (xa5 + 1) xσ5 h
theorem l_X4_lightsWithoutFaults_26 {x : XT} {y : YT} {Z : State → Prop} (C : Cx x y (AY y) RX4 cX4_lightsWithoutFaults 6 rm_X4_lightsWithoutFaults) {r : Int32} {σ' : Sto} (hr : RetI x y (AY y) 6 cX4_lightsWithoutFaults Z r σ') (n : Nat) (xa0 : Nat) (xa2 : Int32) (xa3 : Option Nat) (xa4 : Int32) (xa5 : Int32) (σ : Sto) (h : lo5 (F_X4_lightsWithoutFaults_b26) n xa0 xa2 xa3 xa4 xa5 σ = some (r, σ')) : GW x y (AY y) 6 Z 26 [(0, .ref (yad y (xa0))), (2, .int (xa2)), (3, nv y xa3), (4, .int (xa4)), (5, .int (xa5))] [] σ :=
  lo5_gw (G := fun xa0 xa2 xa3 xa4 xa5 σ => GW x y (AY y) 6 Z 26 [(0, .ref (yad y (xa0))), (2, .int (xa2)), (3, nv y xa3), (4, .int (xa4)), (5, .int (xa5))] [] σ) (fun xk xHk xa0 xa2 xa3 xa4 xa5 σ h => b_X4_lightsWithoutFaults_26 C hr xk xHk xa0 xa2 xa3 xa4 xa5 σ h) n xa0 xa2 xa3 xa4 xa5 σ h
set_option maxHeartbeats 4000000 in
set_option maxRecDepth 20000 in
theorem b_X4_lightsWithoutFaults_0 {x : XT} {y : YT} {Z : State → Prop} (C : Cx x y (AY y) RX4 cX4_lightsWithoutFaults 6 rm_X4_lightsWithoutFaults) {r : Int32} {σ' : Sto} (hr : RetI x y (AY y) 6 cX4_lightsWithoutFaults Z r σ') (xa0 : Nat) (xa1 : Int32) (xa2 : Int32) (σ : Sto) (h : F_X4_lightsWithoutFaults xa0 xa1 xa2 σ = some (r, σ')) : GW x y (AY y) 6 Z 0 [(0, .ref (yad y (xa0))), (1, .int (xa1)), (2, .int (xa2))] [] σ := by
  unfold F_X4_lightsWithoutFaults at h
  refine g_aload_n (pc := 0) C dX4_lightsWithoutFaults_0 rfl 0 rfl ?_
  obtain ⟨xq1, h⟩ := iC h
  have xq1 := keq xq1
  refine gf_4_1 (pc := 1) C wf_X4_16 dX4_lightsWithoutFaults_1 xq1 ?_
  refine g_aload_n (pc := 4) C dX4_lightsWithoutFaults_4 rfl 0 rfl ?_
  refine gf_4_0 (pc := 5) C wf_X4_10 dX4_lightsWithoutFaults_5 xq1 ?_
  obtain ⟨xr4, xσ2, xc3, h⟩ := iB h
  refine g_callVv (pc := 8) (As := [.ref (yad y (1))]) (rest := []) C dX4_lightsWithoutFaults_8 (fun l => c_X0_become l y _ _ _ _ _ xc3) cv_X4_140 ⟨rfl, rfl, Nat.le_of_ble_eq_true rfl, Nat.le_of_ble_eq_true rfl⟩ (rv0 rfl) rfl (Nat.le_of_ble_eq_true rfl) ?_
  refine g_aload_n (pc := 11) C dX4_lightsWithoutFaults_11 rfl 0 rfl ?_
  refine gf_4_1 (pc := 12) C wf_X4_16 dX4_lightsWithoutFaults_12 xq1 ?_
  refine g_iload_n (pc := 15) C dX4_lightsWithoutFaults_15 rfl 1 rfl ?_
  obtain ⟨xr7, xσ5, xc6, h⟩ := iB h
  refine g_callVq (pc := 16) (As := [.int (xa1)]) (rest := []) C dX4_lightsWithoutFaults_16 (fun l => c_X0_who l y _ _ _ _ _ xc6) cv_X4_90 ⟨rfl, rfl, Nat.le_of_ble_eq_true rfl, Nat.le_of_ble_eq_true rfl⟩ (rv0 rfl) rfl (Nat.le_of_ble_eq_true rfl) ?_
  refine g_nastore_n (i := 3) (lv' := [(3, nv y xr7), (0, .ref (yad y (xa0))), (1, .int (xa1)), (2, .int (xa2))]) (pc := 19) C dX4_lightsWithoutFaults_19 rfl (Nat.le_of_ble_eq_true rfl) rfl ?_
  refine g_iconst (v := 0) (pc := 20) C dX4_lightsWithoutFaults_20 ci_0 ?_
  refine g_istore (i := 4) (lv' := [(4, .int (0)), (3, nv y xr7), (0, .ref (yad y (xa0))), (1, .int (xa1)), (2, .int (xa2))]) (pc := 21) C dX4_lightsWithoutFaults_21 (Nat.le_of_ble_eq_true rfl) (by simp [nv_cat, cat_int, cat_ref]) ?_
  refine g_iconst (v := 0) (pc := 23) C dX4_lightsWithoutFaults_23 ci_0 ?_
  refine g_istore (i := 5) (lv' := [(5, .int (0)), (4, .int (0)), (3, nv y xr7), (0, .ref (yad y (xa0))), (1, .int (xa1)), (2, .int (xa2))]) (pc := 24) C dX4_lightsWithoutFaults_24 (Nat.le_of_ble_eq_true rfl) rfl ?_
  refine g_sub (lv' := [(0, .ref (yad y (xa0))), (2, .int (xa2)), (3, nv y xr7), (4, .int (0)), (5, .int (0))]) C [3, 5, 2, 1, 0] rfl ?_
  exact l_X4_lightsWithoutFaults_26 C hr 1000 xa0 xa2 xr7 0 0 xσ5 h
theorem c_X4_lightsWithoutFaults (l : Launch) (y : YT) (xa0 : Nat) (xa1 : Int32) (xa2 : Int32) (σ σ' : Sto) (r : Int32) (h : F_X4_lightsWithoutFaults xa0 xa1 xa2 σ = some (r, σ')) : MI l y yX4_lightsWithoutFaults (Cond.code yX4_lightsWithoutFaults cX4_lightsWithoutFaults 6 (some .int) :: TT) rm_X4_lightsWithoutFaults [.ref (yad y (xa0)), .int (xa1), .int (xa2)] σ r σ' :=
  mkI (by decide) rfl rfl rfl (Nat.le_of_ble_eq_true rfl) (fun x Z C hr => b_X4_lightsWithoutFaults_0 C hr xa0 xa1 xa2 σ h)
def rm_X4_power : Room := { frames := 0, cells := 0, slots := 0, locals := 0 }
def F_X4_power_b5 (xk_5 : Int32 → Int32 → Int64 → Int32 → Sto → Option (Int64 × Sto)) (xa0 : Int32) (xa1 : Int32) (xa2 : Int64) (xa4 : Int32) (σ : Sto) : Option (Int64 × Sto) := if xa1 ≤ xa4 then some (xa2, σ) else ltl ((xa2) * ((xa0 : Int32).toInt64)) (fun xv2 => xk_5 xa0 xa1 xv2 (xa4 + 1) σ)
def F_X4_power (xa0 : Int32) (xa1 : Int32) (σ : Sto) : Option (Int64 × Sto) := ltl ((1 : Int64)) (fun xv1 => lo4 (F_X4_power_b5) 1000 xa0 xa1 xv1 0 σ)
set_option maxHeartbeats 4000000 in
set_option maxRecDepth 20000 in
theorem b_X4_power_5 {x : XT} {y : YT} {Z : State → Prop} (C : Cx x y (AY y) RX4 cX4_power 5 rm_X4_power) {r : Int64} {σ' : Sto} (hr : RetL x y (AY y) 5 cX4_power Z r σ') (xk_5 : Int32 → Int32 → Int64 → Int32 → Sto → Option (Int64 × Sto)) (xH5 : ∀ (xa0 : Int32) (xa1 : Int32) (xa2 : Int64) (xa4 : Int32) (σ : Sto), xk_5 xa0 xa1 xa2 xa4 σ = some (r, σ') → GW x y (AY y) 5 Z 5 [(0, .int (xa0)), (1, .int (xa1)), (2, .long (xa2)), (4, .int (xa4))] [] σ) (xa0 : Int32) (xa1 : Int32) (xa2 : Int64) (xa4 : Int32) (σ : Sto) (h : F_X4_power_b5 xk_5 xa0 xa1 xa2 xa4 σ = some (r, σ')) : GW x y (AY y) 5 Z 5 [(0, .int (xa0)), (1, .int (xa1)), (2, .long (xa2)), (4, .int (xa4))] [] σ := by
  unfold F_X4_power_b5 at h
  refine g_iload (pc := 5) C dX4_power_5 3 rfl ?_
  refine g_iload_n (pc := 7) C dX4_power_7 rfl 1 rfl ?_
  refine g_icmp_ge (pc := 8) C dX4_power_8 (tgt := 22) rfl (fun xq1 => ?_) (fun xq1 => ?_)
  · have h := iP xq1 h
    refine g_lload_n (pc := 22) C dX4_power_22 rfl 2 rfl ?_
    exact rtL hr dX4_power_23 h
  · have h := iN xq1 h
    refine g_lload_n (pc := 11) C dX4_power_11 rfl 2 rfl ?_
    refine g_iload_n (pc := 12) C dX4_power_12 rfl 0 rfl ?_
    refine g_i2l (pc := 13) C dX4_power_13 ?_
    refine g_lmul (pc := 14) C dX4_power_14 ?_
    refine g_letL h (fun xv2 h => ?_)
    refine g_lstore_n (i := 2) (lv' := [(2, .long (xv2)), (0, .int (xa0)), (1, .int (xa1)), (4, .int (xa4))]) (pc := 15) C dX4_power_15 rfl (Nat.le_of_ble_eq_true rfl) rfl ?_
    refine g_iinc (lv' := [(4, .int (xa4 + 1)), (2, .long (xv2)), (0, .int (xa0)), (1, .int (xa1))]) (w := xa4 + 1) (pc := 16) C dX4_power_16 (k := 3) rfl rfl (Nat.le_of_ble_eq_true rfl) rfl ?_
    refine g_goto (pc := 19) C dX4_power_19 (tgt := 5) rfl ?_
    refine g_sub (lv' := [(0, .int (xa0)), (1, .int (xa1)), (2, .long (xv2)), (4, .int (xa4 + 1))]) C [2, 3, 1, 0] rfl ?_
    exact xH5 xa0 xa1 xv2 (xa4 + 1) σ h
theorem l_X4_power_5 {x : XT} {y : YT} {Z : State → Prop} (C : Cx x y (AY y) RX4 cX4_power 5 rm_X4_power) {r : Int64} {σ' : Sto} (hr : RetL x y (AY y) 5 cX4_power Z r σ') (n : Nat) (xa0 : Int32) (xa1 : Int32) (xa2 : Int64) (xa4 : Int32) (σ : Sto) (h : lo4 (F_X4_power_b5) n xa0 xa1 xa2 xa4 σ = some (r, σ')) : GW x y (AY y) 5 Z 5 [(0, .int (xa0)), (1, .int (xa1)), (2, .long (xa2)), (4, .int (xa4))] [] σ :=
  lo4_gw (G := fun xa0 xa1 xa2 xa4 σ => GW x y (AY y) 5 Z 5 [(0, .int (xa0)), (1, .int (xa1)), (2, .long (xa2)), (4, .int (xa4))] [] σ) (fun xk xHk xa0 xa1 xa2 xa4 σ h => b_X4_power_5 C hr xk xHk xa0 xa1 xa2 xa4 σ h) n xa0 xa1 xa2 xa4 σ h
set_option maxHeartbeats 4000000 in
set_option maxRecDepth 20000 in
theorem b_X4_power_0 {x : XT} {y : YT} {Z : State → Prop} (C : Cx x y (AY y) RX4 cX4_power 5 rm_X4_power) {r : Int64} {σ' : Sto} (hr : RetL x y (AY y) 5 cX4_power Z r σ') (xa0 : Int32) (xa1 : Int32) (σ : Sto) (h : F_X4_power xa0 xa1 σ = some (r, σ')) : GW x y (AY y) 5 Z 0 [(0, .int (xa0)), (1, .int (xa1))] [] σ := by
  unfold F_X4_power at h
  refine g_lconst (v := 1) (pc := 0) C dX4_power_0 cl_1 ?_
  refine g_letL h (fun xv1 h => ?_)
  refine g_lstore_n (i := 2) (lv' := [(2, .long (xv1)), (0, .int (xa0)), (1, .int (xa1))]) (pc := 1) C dX4_power_1 rfl (Nat.le_of_ble_eq_true rfl) rfl ?_
  refine g_iconst (v := 0) (pc := 2) C dX4_power_2 ci_0 ?_
  refine g_istore (i := 4) (lv' := [(4, .int (0)), (2, .long (xv1)), (0, .int (xa0)), (1, .int (xa1))]) (pc := 3) C dX4_power_3 (Nat.le_of_ble_eq_true rfl) rfl ?_
  refine g_sub (lv' := [(0, .int (xa0)), (1, .int (xa1)), (2, .long (xv1)), (4, .int (0))]) C [2, 3, 1, 0] rfl ?_
  exact l_X4_power_5 C hr 1000 xa0 xa1 xv1 0 σ h
theorem c_X4_power (l : Launch) (y : YT) (xa0 : Int32) (xa1 : Int32) (σ σ' : Sto) (r : Int64) (h : F_X4_power xa0 xa1 σ = some (r, σ')) : ML l y yX4_power (Cond.code yX4_power cX4_power 5 (some .long) :: TT) rm_X4_power [.int (xa0), .int (xa1)] σ r σ' :=
  mkL (by decide) rfl rfl rfl (Nat.le_of_ble_eq_true rfl) (fun x Z C hr => b_X4_power_0 C hr xa0 xa1 σ h)

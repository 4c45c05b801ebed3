/-! methods, by program: what each does to the store (F_), its walk (b_), its contract (c_): X5_priceFor, X5_takenWithout, X5_away, X5_isSheet, X5_lacks, X5_areFaultsSo, X5_fitTall, X5_fits, X5_tall -/
def rm_X5_priceFor : Room := { frames := 9, cells := 0, slots := 0, locals := 200 }
def F_X5_priceFor_b66 (xk_29 : Nat → Int32 → Int32 → Int32 → Int32 → Int32 → Sto → Option (Int32 × Sto)) (xa0 : Nat) (xa1 : Int32) (xa2 : Int32) (xa4 : Int32) (xa5 : Int32) (xa6 : Int32) (xs0 : Int32) (σ : Sto) : Option (Int32 × Sto) := lti (imax xa4 xa6) (fun xv1 => xk_29 xa0 xa1 xa2 xs0 xv1 (xa5 + 1) σ)
def F_X5_priceFor_b29 (xk_29 : Nat → Int32 → Int32 → Int32 → Int32 → Int32 → Sto → Option (Int32 × Sto)) (xa0 : Nat) (xa1 : Int32) (xa2 : Int32) (xa3 : Int32) (xa4 : Int32) (xa5 : Int32) (σ : Sto) : Option (Int32 × Sto) := if 20 < xa5 then ck (kd (xa0) == 5) (lts (up2 σ 50 5 (xa2)) (fun xσ3 => some (xa3, xσ3))) else ck (kd (xa0) == 5) (lts (up2 σ 50 5 (xa5)) (fun xσ5 => bnd (F_X5_behind (xa0) 6 (xa1) xσ5) (fun xr8 xσ6 => if xr8 ≤ xa4 then F_X5_priceFor_b66 xk_29 xa0 xa1 xa2 xa4 xa5 xr8 xa3 xσ6 else F_X5_priceFor_b66 xk_29 xa0 xa1 xa2 xa4 xa5 xr8 xa5 xσ6)))
def F_X5_priceFor (xa0 : Nat) (xa1 : Int32) (σ : Sto) : Option (Int32 × Sto) := bnd (F_X5_isThought (xa1) σ) (fun xr3 xσ1 => if (xr3) = 0 then ck (kd (xa0) == 5) (bnd (F_X5_finding (xa0) (-1000001) xσ1) (fun xr10 xσ7 => some (xr10, xσ7))) else ck (kd (xa0) == 5) (lti (xσ1 50 5) (fun xv6 => lo6 (F_X5_priceFor_b29) 1000 xa0 xa1 xv6 0 (-1) 0 xσ1)))
set_option maxHeartbeats 4000000 in
set_option maxRecDepth 20000 in
theorem b_X5_priceFor_66 {x : XT} {y : YT} {Z : State → Prop} (C : Cx x y (AY y) RX5 cX5_priceFor 7 rm_X5_priceFor) {r : Int32} {σ' : Sto} (hr : RetI x y (AY y) 7 cX5_priceFor Z r σ') (xk_29 : Nat → Int32 → Int32 → Int32 → Int32 → Int32 → Sto → Option (Int32 × Sto)) (xH29 : ∀ (xa0 : Nat) (xa1 : Int32) (xa2 : Int32) (xa3 : Int32) (xa4 : Int32) (xa5 : Int32) (σ : Sto), xk_29 xa0 xa1 xa2 xa3 xa4 xa5 σ = some (r, σ') → GW x y (AY y) 7 Z 29 [(0, .ref (yad y (xa0))), (1, .int (xa1)), (2, .int (xa2)), (3, .int (xa3)), (4, .int (xa4)), (5, .int (xa5))] [] σ) (xa0 : Nat) (xa1 : Int32) (xa2 : Int32) (xa4 : Int32) (xa5 : Int32) (xa6 : Int32) (xs0 : Int32) (σ : Sto) (h : F_X5_priceFor_b66 xk_29 xa0 xa1 xa2 xa4 xa5 xa6 xs0 σ = some (r, σ')) : GW x y (AY y) 7 Z 66 [(0, .ref (yad y (xa0))), (1, .int (xa1)), (2, .int (xa2)), (4, .int (xa4)), (5, .int (xa5)), (6, .int (xa6))] [.int (xs0)] σ := by
  unfold F_X5_priceFor_b66 at h
  refine g_istore_n (i := 3) (lv' := [(3, .int (xs0)), (0, .ref (yad y (xa0))), (1, .int (xa1)), (2, .int (xa2)), (4, .int (xa4)), (5, .int (xa5)), (6, .int (xa6))]) (pc := 66) C dX5_priceFor_66 rfl (Nat.le_of_ble_eq_true rfl) rfl ?_
  refine g_iload (pc := 67) C dX5_priceFor_67 4 rfl ?_
  refine g_iload (pc := 69) C dX5_priceFor_69 6 rfl ?_
  refine g_mmax (pc := 71) C dX5_priceFor_71 wm_X5_142 wt_max wn_Math wc_max (Nat.le_of_ble_eq_true rfl) (Nat.le_of_ble_eq_true rfl) ?_
  refine g_letI h (fun xv1 h => ?_)
  refine g_istore (i := 4) (lv' := [(4, .int (xv1)), (3, .int (xs0)), (0, .ref (yad y (xa0))), (1, .int (xa1)), (2, .int (xa2)), (5, .int (xa5)), (6, .int (xa6))]) (pc := 74) C dX5_priceFor_74 (Nat.le_of_ble_eq_true rfl) rfl ?_
  refine g_iinc (lv' := [(5, .int (xa5 + 1)), (4, .int (xv1)), (3, .int (xs0)), (0, .ref (yad y (xa0))), (1, .int (xa1)), (2, .int (xa2)), (6, .int (xa6))]) (w := xa5 + 1) (pc := 76) C dX5_priceFor_76 (k := 5) rfl rfl (Nat.le_of_ble_eq_true rfl) rfl ?_
  refine g_goto (pc := 79) C dX5_priceFor_79 (tgt := 29) rfl ?_
  refine g_sub (lv' := [(0, .ref (yad y (xa0))), (1, .int (xa1)), (2, .int (xa2)), (3, .int (xs0)), (4, .int (xv1)), (5, .int (xa5 + 1))]) C [3, 4, 5, 2, 1, 0] rfl ?_
  exact xH29 xa0 xa1 xa2 xs0 xv1 (xa5 + 1) σ h
set_option maxHeartbeats 4000000 in
set_option maxRecDepth 20000 in
theorem b_X5_priceFor_29 {x : XT} {y : YT} {Z : State → Prop} (C : Cx x y (AY y) RX5 cX5_priceFor 7 rm_X5_priceFor) {r : Int32} {σ' : Sto} (hr : RetI x y (AY y) 7 cX5_priceFor Z r σ') (xk_29 : Nat → Int32 → Int32 → Int32 → Int32 → Int32 → Sto → Option (Int32 × Sto)) (xH29 : ∀ (xa0 : Nat) (xa1 : Int32) (xa2 : Int32) (xa3 : Int32) (xa4 : Int32) (xa5 : Int32) (σ : Sto), xk_29 xa0 xa1 xa2 xa3 xa4 xa5 σ = some (r, σ') → GW x y (AY y) 7 Z 29 [(0, .ref (yad y (xa0))), (1, .int (xa1)), (2, .int (xa2)), (3, .int (xa3)), (4, .int (xa4)), (5, .int (xa5))] [] σ) (xa0 : Nat) (xa1 : Int32) (xa2 : Int32) (xa3 : Int32) (xa4 : Int32) (xa5 : Int32) (σ : Sto) (h : F_X5_priceFor_b29 xk_29 xa0 xa1 xa2 xa3 xa4 xa5 σ = some (r, σ')) : GW x y (AY y) 7 Z 29 [(0, .ref (yad y (xa0))), (1, .int (xa1)), (2, .int (xa2)), (3, .int (xa3)), (4, .int (xa4)), (5, .int (xa5))] [] σ := by
  unfold F_X5_priceFor_b29 at h
  refine g_iload (pc := 29) C dX5_priceFor_29 5 rfl ?_
  refine g_bipush (v := 20) (pc := 31) C dX5_priceFor_31 cb_20 ?_
  refine g_icmp_gt (pc := 33) C dX5_priceFor_33 (tgt := 82) rfl (fun xq1 => ?_) (fun xq1 => ?_)
  · have h := iP xq1 h
    refine g_aload_n (pc := 82) C dX5_priceFor_82 rfl 0 rfl ?_
    obtain ⟨xq2, h⟩ := iC h
    have xq2 := keq xq2
    refine gf_5_0 (pc := 83) C wf_X5_9 dX5_priceFor_83 xq2 ?_
    refine g_iconst (v := 5) (pc := 86) C dX5_priceFor_86 ci_5 ?_
    refine g_iload_n (pc := 87) C dX5_priceFor_87 rfl 2 rfl ?_
    refine g_iast (pc := 88) C dX5_priceFor_88 rfl (ivp (by decide) rfl) (j := 5) ct_5 ?_
    refine g_letS h (fun xσ3 h => ?_)
    refine g_iload_n (pc := 89) C dX5_priceFor_89 rfl 3 rfl ?_
    exact rtI hr dX5_priceFor_90 h
  · have h := iN xq1 h
    refine g_aload_n (pc := 36) C dX5_priceFor_36 rfl 0 rfl ?_
    obtain ⟨xq4, h⟩ := iC h
    have xq4 := keq xq4
    refine gf_5_0 (pc := 37) C wf_X5_9 dX5_priceFor_37 xq4 ?_
    refine g_iconst (v := 5) (pc := 40) C dX5_priceFor_40 ci_5 ?_
    refine g_iload (pc := 41) C dX5_priceFor_41 5 rfl ?_
    refine g_iast (pc := 43) C dX5_priceFor_43 rfl (ivp (by decide) rfl) (j := 5) ct_5 ?_
    refine g_letS h (fun xσ5 h => ?_)
    refine g_aload_n (pc := 44) C dX5_priceFor_44 rfl 0 rfl ?_
    refine g_bipush (v := 6) (pc := 45) C dX5_priceFor_45 cb_6 ?_
    refine g_iload_n (pc := 47) C dX5_priceFor_47 rfl 1 rfl ?_
    obtain ⟨xr8, xσ6, xc7, h⟩ := iB h
    refine g_callVi (pc := 48) (As := [.int (6), .int (xa1)]) (rest := []) C dX5_priceFor_48 (fun l => c_X5_behind l y _ _ _ _ _ _ xc7) cv_X5_178 ⟨rfl, rfl, Nat.le_of_ble_eq_true rfl, Nat.le_of_ble_eq_true rfl⟩ (rv5 xq4) rfl (Nat.le_of_ble_eq_true rfl) ?_
    refine g_istore (i := 6) (lv' := [(6, .int (xr8)), (0, .ref (yad y (xa0))), (1, .int (xa1)), (2, .int (xa2)), (3, .int (xa3)), (4, .int (xa4)), (5, .int (xa5))]) (pc := 51) C dX5_priceFor_51 (Nat.le_of_ble_eq_true rfl) rfl ?_
    refine g_iload (pc := 53) C dX5_priceFor_53 0 rfl ?_
    refine g_iload (pc := 55) C dX5_priceFor_55 5 rfl ?_
    refine g_icmp_le (pc := 57) C dX5_priceFor_57 (tgt := 65) rfl (fun xq9 => ?_) (fun xq9 => ?_)
    · have h := iP xq9 h
      refine g_iload_n (pc := 65) C dX5_priceFor_65 rfl 4 rfl ?_
      refine g_sub (lv' := [(0, .ref (yad y (xa0))), (1, .int (xa1)), (2, .int (xa2)), (4, .int (xa4)), (5, .int (xa5)), (6, .int (xr8))]) C [1, 2, 3, 5, 6, 0] rfl ?_
      exact b_X5_priceFor_66 C hr xk_29 xH29 xa0 xa1 xa2 xa4 xa5 xr8 xa3 xσ6 h
    · have h := iN xq9 h
      refine g_iload (pc := 60) C dX5_priceFor_60 6 rfl ?_
      refine g_goto (pc := 62) C dX5_priceFor_62 (tgt := 66) rfl ?_
      refine g_sub (lv' := [(0, .ref (yad y (xa0))), (1, .int (xa1)), (2, .int (xa2)), (4, .int (xa4)), (5, .int (xa5)), (6, .int (xr8))]) C [1, 2, 3, 5, 6, 0] rfl ?_
      exact b_X5_priceFor_66 C hr xk_29 xH29 xa0 xa1 xa2 xa4 xa5 xr8 xa5 xσ6 h
theorem l_X5_priceFor_29 {x : XT} {y : YT} {Z : State → Prop} (C : Cx x y (AY y) RX5 cX5_priceFor 7 rm_X5_priceFor) {r : Int32} {σ' : Sto} (hr : RetI x y (AY y) 7 cX5_priceFor Z r σ') (n : Nat) (xa0 : Nat) (xa1 : Int32) (xa2 : Int32) (xa3 : Int32) (xa4 : Int32) (xa5 : Int32) (σ : Sto) (h : lo6 (F_X5_priceFor_b29) n xa0 xa1 xa2 xa3 xa4 xa5 σ = some (r, σ')) : GW x y (AY y) 7 Z 29 [(0, .ref (yad y (xa0))), (1, .int (xa1)), (2, .int (xa2)), (3, .int (xa3)), (4, .int (xa4)), (5, .int (xa5))] [] σ :=
  lo6_gw (G := fun xa0 xa1 xa2 xa3 xa4 xa5 σ => GW x y (AY y) 7 Z 29 [(0, .ref (yad y (xa0))), (1, .int (xa1)), (2, .int (xa2)), (3, .int (xa3)), (4, .int (xa4)), (5, .int (xa5))] [] σ) (fun xk xHk xa0 xa1 xa2 xa3 xa4 xa5 σ h => b_X5_priceFor_29 C hr xk xHk xa0 xa1 xa2 xa3 xa4 xa5 σ h) n xa0 xa1 xa2 xa3 xa4 xa5 σ h
set_option maxHeartbeats 4000000 in
set_option maxRecDepth 20000 in
theorem b_X5_priceFor_0 {x : XT} {y : YT} {Z : State → Prop} (C : Cx x y (AY y) RX5 cX5_priceFor 7 rm_X5_priceFor) {r : Int32} {σ' : Sto} (hr : RetI x y (AY y) 7 cX5_priceFor Z r σ') (xa0 : Nat) (xa1 : Int32) (σ : Sto) (h : F_X5_priceFor xa0 xa1 σ = some (r, σ')) : GW x y (AY y) 7 Z 0 [(0, .ref (yad y (xa0))), (1, .int (xa1))] [] σ := by
  unfold F_X5_priceFor at h
  refine g_iload_n (pc := 0) C dX5_priceFor_0 rfl 1 rfl ?_
  obtain ⟨xr3, xσ1, xc2, h⟩ := iB h
  refine g_callSi (pc := 1) (As := [.int (xa1)]) (rest := []) C dX5_priceFor_1 (fun l => c_X5_isThought l y _ _ _ _ xc2) cv_X5_191 ⟨rfl, rfl, Nat.le_of_ble_eq_true rfl, Nat.le_of_ble_eq_true rfl⟩ rfl (Nat.le_of_ble_eq_true rfl) ?_
  refine g_if_ne (pc := 4) C dX5_priceFor_4 (tgt := 14) rfl (fun xq4 => ?_) (fun xq4 => ?_)
  · have h := iN xq4 h
    refine g_aload_n (pc := 14) C dX5_priceFor_14 rfl 0 rfl ?_
    obtain ⟨xq5, h⟩ := iC h
    have xq5 := keq xq5
    refine gf_5_0 (pc := 15) C wf_X5_9 dX5_priceFor_15 xq5 ?_
    refine g_iconst (v := 5) (pc := 18) C dX5_priceFor_18 ci_5 ?_
    refine g_iald (pc := 19) C dX5_priceFor_19 rfl (ivp (by decide) rfl) (j := 5) ct_5 ?_
    refine g_letI h (fun xv6 h => ?_)
    refine g_istore_n (i := 2) (lv' := [(2, .int (xv6)), (0, .ref (yad y (xa0))), (1, .int (xa1))]) (pc := 20) C dX5_priceFor_20 rfl (Nat.le_of_ble_eq_true rfl) rfl ?_
    refine g_iconst (v := 0) (pc := 21) C dX5_priceFor_21 ci_0 ?_
    refine g_istore_n (i := 3) (lv' := [(3, .int (0)), (2, .int (xv6)), (0, .ref (yad y (xa0))), (1, .int (xa1))]) (pc := 22) C dX5_priceFor_22 rfl (Nat.le_of_ble_eq_true rfl) rfl ?_
    refine g_iconst (v := (-1)) (pc := 23) C dX5_priceFor_23 ci_m1 ?_
    refine g_istore (i := 4) (lv' := [(4, .int ((-1))), (3, .int (0)), (2, .int (xv6)), (0, .ref (yad y (xa0))), (1, .int (xa1))]) (pc := 24) C dX5_priceFor_24 (Nat.le_of_ble_eq_true rfl) rfl ?_
    refine g_iconst (v := 0) (pc := 26) C dX5_priceFor_26 ci_0 ?_
    refine g_istore (i := 5) (lv' := [(5, .int (0)), (4, .int ((-1))), (3, .int (0)), (2, .int (xv6)), (0, .ref (yad y (xa0))), (1, .int (xa1))]) (pc := 27) C dX5_priceFor_27 (Nat.le_of_ble_eq_true rfl) rfl ?_
    refine g_sub (lv' := [(0, .ref (yad y (xa0))), (1, .int (xa1)), (2, .int (xv6)), (3, .int (0)), (4, .int ((-1))), (5, .int (0))]) C [4, 5, 3, 2, 1, 0] rfl ?_
    exact l_X5_priceFor_29 C hr 1000 xa0 xa1 xv6 0 (-1) 0 xσ1 h
  · have h := iP xq4 h
    refine g_aload_n (pc := 7) C dX5_priceFor_7 rfl 0 rfl ?_
    refine g_ldc (v := (-1000001)) (pc := 8) C dX5_priceFor_8 wk_X5_60 ?_
    obtain ⟨xq9, h⟩ := iC h
    have xq9 := keq xq9
    obtain ⟨xr10, xσ7, xc8, h⟩ := iB h
    refine g_callVi (pc := 10) (As := [.int ((-1000001))]) (rest := []) C dX5_priceFor_10 (fun l => c_X5_finding l y _ _ _ _ _ xc8) cv_X5_66 ⟨rfl, rfl, Nat.le_of_ble_eq_true rfl, Nat.le_of_ble_eq_true rfl⟩ (rv5 xq9) rfl (Nat.le_of_ble_eq_true rfl) ?_
    exact rtI hr dX5_priceFor_13 h
theorem c_X5_priceFor (l : Launch) (y : YT) (xa0 : Nat) (xa1 : Int32) (σ σ' : Sto) (r : Int32) (h : F_X5_priceFor xa0 xa1 σ = some (r, σ')) : MI l y yX5_priceFor (Cond.code yX5_priceFor cX5_priceFor 7 (some .int) :: TT) rm_X5_priceFor [.ref (yad y (xa0)), .int (xa1)] σ r σ' :=
  mkI (by decide) rfl rfl rfl (Nat.le_of_ble_eq_true rfl) (fun x Z C hr => b_X5_priceFor_0 C hr xa0 xa1 σ h)
def rm_X5_takenWithout : Room := { frames := 8, cells := 0, slots := 0, locals := 178 }
def F_X5_takenWithout_b14 (xk_14 : Nat → Int32 → Int32 → Int32 → Int32 → Sto → Option (Int32 × Sto)) (xa0 : Nat) (xa1 : Int32) (xa2 : Int32) (xa3 : Int32) (xa4 : Int32) (σ : Sto) : Option (Int32 × Sto) := if 6 ≤ xa4 then ck (kd (xa0) == 5) (bnd (F_X5_minutes (xa0) (xa3) σ) (fun xr5 xσ2 => bnd (F_X5_sitterIs (xa0) (xa2) 5 xσ2) (fun xr8 xσ6 => bnd (F_X5_putBack (xa0) (xr8) xσ6) (fun xr11 xσ9 => some (xr11, xσ9))))) else ck (kd (xa0) == 5) (ck (inr (17 + xa4) (79)) (lti (σ 50 ((17 + xa4 : Int32).toNatClampNeg)) (fun xv14 => if (xv14) < 0 then ck (inr (17 + xa4) (79)) (lts (up2 σ 50 ((17 + xa4 : Int32).toNatClampNeg) (xv14)) (fun xσ17 => xk_14 xa0 xa1 xa2 xa3 (xa4 + 1) xσ17)) else bnd (F_X5_hasBit (xa1) (xv14) σ) (fun xr20 xσ18 => if (xr20) = 0 then ck (inr (17 + xa4) (79)) (lts (up2 xσ18 50 ((17 + xa4 : Int32).toNatClampNeg) (xv14)) (fun xσ23 => xk_14 xa0 xa1 xa2 xa3 (xa4 + 1) xσ23)) else ck (inr (17 + xa4) (79)) (lts (up2 xσ18 50 ((17 + xa4 : Int32).toNatClampNeg) ((-1))) (fun xσ25 => xk_14 xa0 xa1 xa2 xa3 (xa4 + 1) xσ25))))))
def F_X5_takenWithout (xa0 : Nat) (xa1 : Int32) (xa2 : Int32) (xa3 : Int32) (σ : Sto) : Option (Int32 × Sto) := ck (kd (xa0) == 5) (bnd (F_X5_copyRow (50) (52) σ) (fun xr4 xσ2 => lo5 (F_X5_takenWithout_b14) 1000 xa0 xa1 xa2 xa3 0 xσ2))
set_option maxHeartbeats 4000000 in
set_option maxRecDepth 20000 in
theorem b_X5_takenWithout_14 {x : XT} {y : YT} {Z : State → Prop} (C : Cx x y (AY y) RX5 cX5_takenWithout 6 rm_X5_takenWithout) {r : Int32} {σ' : Sto} (hr : RetI x y (AY y) 6 cX5_takenWithout Z r σ') (xk_14 : Nat → Int32 → Int32 → Int32 → Int32 → Sto → Option (Int32 × Sto)) (xH14 : ∀ (xa0 : Nat) (xa1 : Int32) (xa2 : Int32) (xa3 : Int32) (xa4 : Int32) (σ : Sto), xk_14 xa0 xa1 xa2 xa3 xa4 σ = some (r, σ') → GW x y (AY y) 6 Z 14 [(0, .ref (yad y (xa0))), (1, .int (xa1)), (2, .int (xa2)), (3, .int (xa3)), (4, .int (xa4))] [] σ) (xa0 : Nat) (xa1 : Int32) (xa2 : Int32) (xa3 : Int32) (xa4 : Int32) (σ : Sto) (h : F_X5_takenWithout_b14 xk_14 xa0 xa1 xa2 xa3 xa4 σ = some (r, σ')) : GW x y (AY y) 6 Z 14 [(0, .ref (yad y (xa0))), (1, .int (xa1)), (2, .int (xa2)), (3, .int (xa3)), (4, .int (xa4))] [] σ := by
  unfold F_X5_takenWithout_b14 at h
  refine g_iload (pc := 14) C dX5_takenWithout_14 4 rfl ?_
  refine g_bipush (v := 6) (pc := 16) C dX5_takenWithout_16 cb_6 ?_
  refine g_icmp_ge (pc := 18) C dX5_takenWithout_18 (tgt := 69) rfl (fun xq1 => ?_) (fun xq1 => ?_)
  · have h := iP xq1 h
    refine g_aload_n (pc := 69) C dX5_takenWithout_69 rfl 0 rfl ?_
    refine g_iload_n (pc := 70) C dX5_takenWithout_70 rfl 3 rfl ?_
    obtain ⟨xq4, h⟩ := iC h
    have xq4 := keq xq4
    obtain ⟨xr5, xσ2, xc3, h⟩ := iB h
    refine g_callVv (pc := 71) (As := [.int (xa3)]) (rest := []) C dX5_takenWithout_71 (fun l => c_X5_minutes l y _ _ _ _ _ xc3) cv_X5_163 ⟨rfl, rfl, Nat.le_of_ble_eq_true rfl, Nat.le_of_ble_eq_true rfl⟩ (rv5 xq4) rfl (Nat.le_of_ble_eq_true rfl) ?_
    refine g_aload_n (pc := 74) C dX5_takenWithout_74 rfl 0 rfl ?_
    refine g_aload_n (pc := 75) C dX5_takenWithout_75 rfl 0 rfl ?_
    refine g_iload_n (pc := 76) C dX5_takenWithout_76 rfl 2 rfl ?_
    refine g_iconst (v := 5) (pc := 77) C dX5_takenWithout_77 ci_5 ?_
    obtain ⟨xr8, xσ6, xc7, h⟩ := iB h
    refine g_callVi (pc := 78) (As := [.int (xa2), .int (5)]) (rest := [.ref (yad y (xa0))]) C dX5_takenWithout_78 (fun l => c_X5_sitterIs l y _ _ _ _ _ _ xc7) cv_X5_104 ⟨rfl, rfl, Nat.le_of_ble_eq_true rfl, Nat.le_of_ble_eq_true rfl⟩ (rv5 xq4) rfl (Nat.le_of_ble_eq_true rfl) ?_
    obtain ⟨xr11, xσ9, xc10, h⟩ := iB h
    refine g_callVi (pc := 81) (As := [.int (xr8)]) (rest := []) C dX5_takenWithout_81 (fun l => c_X5_putBack l y _ _ _ _ _ xc10) cv_X5_175 ⟨rfl, rfl, Nat.le_of_ble_eq_true rfl, Nat.le_of_ble_eq_true rfl⟩ (rv5 xq4) rfl (Nat.le_of_ble_eq_true rfl) ?_
    exact rtI hr dX5_takenWithout_84 h
  · have h := iN xq1 h
    refine g_aload_n (pc := 21) C dX5_takenWithout_21 rfl 0 rfl ?_
    obtain ⟨xq12, h⟩ := iC h
    have xq12 := keq xq12
    refine gf_5_0 (pc := 22) C wf_X5_9 dX5_takenWithout_22 xq12 ?_
    refine g_bipush (v := 17) (pc := 25) C dX5_takenWithout_25 cb_17 ?_
    refine g_iload (pc := 27) C dX5_takenWithout_27 4 rfl ?_
    refine g_iadd (pc := 29) C dX5_takenWithout_29 ?_
    obtain ⟨xq13, h⟩ := iC h
    refine g_iald (pc := 30) C dX5_takenWithout_30 rfl (ivp xq13 rfl) (j := (17 + xa4 : Int32).toNatClampNeg) rfl ?_
    refine g_letI h (fun xv14 h => ?_)
    refine g_istore (i := 5) (lv' := [(5, .int (xv14)), (0, .ref (yad y (xa0))), (1, .int (xa1)), (2, .int (xa2)), (3, .int (xa3)), (4, .int (xa4))]) (pc := 31) C dX5_takenWithout_31 (Nat.le_of_ble_eq_true rfl) rfl ?_
    refine g_aload_n (pc := 33) C dX5_takenWithout_33 rfl 1 rfl ?_
    refine gf_5_0 (pc := 34) C wf_X5_9 dX5_takenWithout_34 xq12 ?_
    refine g_bipush (v := 17) (pc := 37) C dX5_takenWithout_37 cb_17 ?_
    refine g_iload (pc := 39) C dX5_takenWithout_39 5 rfl ?_
    refine g_iadd (pc := 41) C dX5_takenWithout_41 ?_
    refine g_iload (pc := 42) C dX5_takenWithout_42 0 rfl ?_
    refine g_if_lt (pc := 44) C dX5_takenWithout_44 (tgt := 60) rfl (fun xq15 => ?_) (fun xq15 => ?_)
    · have h := iP xq15 h
      refine g_iload (pc := 60) C dX5_takenWithout_60 0 rfl ?_
      obtain ⟨xq16, h⟩ := iC h
      refine g_iast (pc := 62) C dX5_takenWithout_62 rfl (ivp xq16 rfl) (j := (17 + xa4 : Int32).toNatClampNeg) rfl ?_
      refine g_letS h (fun xσ17 h => ?_)
      refine g_iinc (lv' := [(4, .int (xa4 + 1)), (5, .int (xv14)), (0, .ref (yad y (xa0))), (1, .int (xa1)), (2, .int (xa2)), (3, .int (xa3))]) (w := xa4 + 1) (pc := 63) C dX5_takenWithout_63 (k := 5) rfl rfl (Nat.le_of_ble_eq_true rfl) rfl ?_
      refine g_goto (pc := 66) C dX5_takenWithout_66 (tgt := 14) rfl ?_
      refine g_sub (lv' := [(0, .ref (yad y (xa0))), (1, .int (xa1)), (2, .int (xa2)), (3, .int (xa3)), (4, .int (xa4 + 1))]) C [2, 3, 4, 5, 0] rfl ?_
      exact xH14 xa0 xa1 xa2 xa3 (xa4 + 1) xσ17 h
    · have h := iN xq15 h
      refine g_iload_n (pc := 47) C dX5_takenWithout_47 rfl 2 rfl ?_
      refine g_iload (pc := 48) C dX5_takenWithout_48 0 rfl ?_
      obtain ⟨xr20, xσ18, xc19, h⟩ := iB h
      refine g_callSi (pc := 50) (As := [.int (xa1), .int (xv14)]) (rest := [.int (17 + xa4), .ref (yad y (50))]) C dX5_takenWithout_50 (fun l => c_X5_hasBit l y _ _ _ _ _ xc19) cv_X5_202 ⟨rfl, rfl, Nat.le_of_ble_eq_true rfl, Nat.le_of_ble_eq_true rfl⟩ rfl (Nat.le_of_ble_eq_true rfl) ?_
      refine g_if_eq (pc := 53) C dX5_takenWithout_53 (tgt := 60) rfl (fun xq21 => ?_) (fun xq21 => ?_)
      · have h := iP xq21 h
        refine g_iload (pc := 60) C dX5_takenWithout_60 0 rfl ?_
        obtain ⟨xq22, h⟩ := iC h
        refine g_iast (pc := 62) C dX5_takenWithout_62 rfl (ivp xq22 rfl) (j := (17 + xa4 : Int32).toNatClampNeg) rfl ?_
        refine g_letS h (fun xσ23 h => ?_)
        refine g_iinc (lv' := [(4, .int (xa4 + 1)), (5, .int (xv14)), (0, .ref (yad y (xa0))), (1, .int (xa1)), (2, .int (xa2)), (3, .int (xa3))]) (w := xa4 + 1) (pc := 63) C dX5_takenWithout_63 (k := 5) rfl rfl (Nat.le_of_ble_eq_true rfl) rfl ?_
        refine g_goto (pc := 66) C dX5_takenWithout_66 (tgt := 14) rfl ?_
        refine g_sub (lv' := [(0, .ref (yad y (xa0))), (1, .int (xa1)), (2, .int (xa2)), (3, .int (xa3)), (4, .int (xa4 + 1))]) C [2, 3, 4, 5, 0] rfl ?_
        exact xH14 xa0 xa1 xa2 xa3 (xa4 + 1) xσ23 h
      · have h := iN xq21 h
        refine g_iconst (v := (-1)) (pc := 56) C dX5_takenWithout_56 ci_m1 ?_
        refine g_goto (pc := 57) C dX5_takenWithout_57 (tgt := 62) rfl ?_
        obtain ⟨xq24, h⟩ := iC h
        refine g_iast (pc := 62) C dX5_takenWithout_62 rfl (ivp xq24 rfl) (j := (17 + xa4 : Int32).toNatClampNeg) rfl ?_
        refine g_letS h (fun xσ25 h => ?_)
        refine g_iinc (lv' := [(4, .int (xa4 + 1)), (5, .int (xv14)), (0, .ref (yad y (xa0))), (1, .int (xa1)), (2, .int (xa2)), (3, .int (xa3))]) (w := xa4 + 1) (pc := 63) C dX5_takenWithout_63 (k := 5) rfl rfl (Nat.le_of_ble_eq_true rfl) rfl ?_
        refine g_goto (pc := 66) C dX5_takenWithout_66 (tgt := 14) rfl ?_
        refine g_sub (lv' := [(0, .ref (yad y (xa0))), (1, .int (xa1)), (2, .int (xa2)), (3, .int (xa3)), (4, .int (xa4 + 1))]) C [2, 3, 4, 5, 0] rfl ?_
        exact xH14 xa0 xa1 xa2 xa3 (xa4 + 1) xσ25 h
theorem l_X5_takenWithout_14 {x : XT} {y : YT} {Z : State → Prop} (C : Cx x y (AY y) RX5 cX5_takenWithout 6 rm_X5_takenWithout) {r : Int32} {σ' : Sto} (hr : RetI x y (AY y) 6 cX5_takenWithout Z r σ') (n : Nat) (xa0 : Nat) (xa1 : Int32) (xa2 : Int32) (xa3 : Int32) (xa4 : Int32) (σ : Sto) (h : lo5 (F_X5_takenWithout_b14) n xa0 xa1 xa2 xa3 xa4 σ = some (r, σ')) : GW x y (AY y) 6 Z 14 [(0, .ref (yad y (xa0))), (1, .int (xa1)), (2, .int (xa2)), (3, .int (xa3)), (4, .int (xa4))] [] σ :=
  lo5_gw (G := fun xa0 xa1 xa2 xa3 xa4 σ => GW x y (AY y) 6 Z 14 [(0, .ref (yad y (xa0))), (1, .int (xa1)), (2, .int (xa2)), (3, .int (xa3)), (4, .int (xa4))] [] σ) (fun xk xHk xa0 xa1 xa2 xa3 xa4 σ h => b_X5_takenWithout_14 C hr xk xHk xa0 xa1 xa2 xa3 xa4 σ h) n xa0 xa1 xa2 xa3 xa4 σ h
set_option maxHeartbeats 4000000 in
set_option maxRecDepth 20000 in
theorem b_X5_takenWithout_0 {x : XT} {y : YT} {Z : State → Prop} (C : Cx x y (AY y) RX5 cX5_takenWithout 6 rm_X5_takenWithout) {r : Int32} {σ' : Sto} (hr : RetI x y (AY y) 6 cX5_takenWithout Z r σ') (xa0 : Nat) (xa1 : Int32) (xa2 : Int32) (xa3 : Int32) (σ : Sto) (h : F_X5_takenWithout xa0 xa1 xa2 xa3 σ = some (r, σ')) : GW x y (AY y) 6 Z 0 [(0, .ref (yad y (xa0))), (1, .int (xa1)), (2, .int (xa2)), (3, .int (xa3))] [] σ := by
  unfold F_X5_takenWithout at h
  refine g_aload_n (pc := 0) C dX5_takenWithout_0 rfl 0 rfl ?_
  obtain ⟨xq1, h⟩ := iC h
  have xq1 := keq xq1
  refine gf_5_0 (pc := 1) C wf_X5_9 dX5_takenWithout_1 xq1 ?_
  refine g_aload_n (pc := 4) C dX5_takenWithout_4 rfl 0 rfl ?_
  refine gf_5_2 (pc := 5) C wf_X5_16 dX5_takenWithout_5 xq1 ?_
  obtain ⟨xr4, xσ2, xc3, h⟩ := iB h
  refine g_callSv (pc := 8) (As := [.ref (yad y (50)), .ref (yad y (52))]) (rest := []) C dX5_takenWithout_8 (fun l => c_X5_copyRow l y _ _ _ _ _ xc3) cv_X5_61 ⟨rfl, rfl, Nat.le_of_ble_eq_true rfl, Nat.le_of_ble_eq_true rfl⟩ rfl (Nat.le_of_ble_eq_true rfl) ?_
  refine g_iconst (v := 0) (pc := 11) C dX5_takenWithout_11 ci_0 ?_
  refine g_istore (i := 4) (lv' := [(4, .int (0)), (0, .ref (yad y (xa0))), (1, .int (xa1)), (2, .int (xa2)), (3, .int (xa3))]) (pc := 12) C dX5_takenWithout_12 (Nat.le_of_ble_eq_true rfl) rfl ?_
  refine g_sub (lv' := [(0, .ref (yad y (xa0))), (1, .int (xa1)), (2, .int (xa2)), (3, .int (xa3)), (4, .int (0))]) C [1, 2, 3, 4, 0] rfl ?_
  exact l_X5_takenWithout_14 C hr 1000 xa0 xa1 xa2 xa3 0 xσ2 h
theorem c_X5_takenWithout (l : Launch) (y : YT) (xa0 : Nat) (xa1 : Int32) (xa2 : Int32) (xa3 : Int32) (σ σ' : Sto) (r : Int32) (h : F_X5_takenWithout xa0 xa1 xa2 xa3 σ = some (r, σ')) : MI l y yX5_takenWithout (Cond.code yX5_takenWithout cX5_takenWithout 6 (some .int) :: TT) rm_X5_takenWithout [.ref (yad y (xa0)), .int (xa1), .int (xa2), .int (xa3)] σ r σ' :=
  mkI (by decide) rfl rfl rfl (Nat.le_of_ble_eq_true rfl) (fun x Z C hr => b_X5_takenWithout_0 C hr xa0 xa1 xa2 xa3 σ h)
def rm_X5_away : Room := { frames := 9, cells := 0, slots := 0, locals := 203 }
def F_X5_away_b87 (xk_42 : Nat → Int32 → Int32 → Int32 → Int32 → Int32 → Sto → Option (Int32 × Sto)) (xa0 : Nat) (xa1 : Int32) (xa2 : Int32) (xa3 : Int32) (xa4 : Int32) (xa5 : Int32) (xs0 : Int32) (σ : Sto) : Option (Int32 × Sto) := if (xs0) = 0 then xk_42 xa0 xa1 xa2 xa3 xa4 (xa5 + 1) σ else ck (kd (xa0) == 5) (bnd (F_X5_takenWithout (xa0) (xa5) (xa1) (xa3) σ) (fun xr5 xσ2 => if xr5 < xa2 then xk_42 xa0 xa1 xa2 xa3 xa4 (xa5 + 1) xσ2 else xk_42 xa0 xa1 xa2 xa3 xa5 (xa5 + 1) xσ2))
def F_X5_away_b82 (xk_42 : Nat → Int32 → Int32 → Int32 → Int32 → Int32 → Sto → Option (Int32 × Sto)) (xa0 : Nat) (xa1 : Int32) (xa2 : Int32) (xa3 : Int32) (xa4 : Int32) (xa5 : Int32) (σ : Sto) : Option (Int32 × Sto) := F_X5_away_b87 xk_42 xa0 xa1 xa2 xa3 xa4 xa5 1 σ
def F_X5_away_b86 (xk_42 : Nat → Int32 → Int32 → Int32 → Int32 → Int32 → Sto → Option (Int32 × Sto)) (xa0 : Nat) (xa1 : Int32) (xa2 : Int32) (xa3 : Int32) (xa4 : Int32) (xa5 : Int32) (σ : Sto) : Option (Int32 × Sto) := F_X5_away_b87 xk_42 xa0 xa1 xa2 xa3 xa4 xa5 0 σ
def F_X5_away_b42 (xk_42 : Nat → Int32 → Int32 → Int32 → Int32 → Int32 → Sto → Option (Int32 × Sto)) (xa0 : Nat) (xa1 : Int32) (xa2 : Int32) (xa3 : Int32) (xa4 : Int32) (xa5 : Int32) (σ : Sto) : Option (Int32 × Sto) := ck (kd (xa0) == 5) (if (isl 1 (σ 50 1)) ≤ xa5 then bnd (F_X5_orNone (xa0) (xa4) σ) (fun xr5 xσ3 => some (xr5, xσ3)) else bnd (F_X5_hasBit (xa5) (xa1) σ) (fun xr8 xσ6 => if (xr8) = 0 then if (xa4) < 0 then F_X5_away_b82 xk_42 xa0 xa1 xa2 xa3 xa4 xa5 xσ6 else bnd (F_X5_bits (xa5) xσ6) (fun xr13 xσ11 => bnd (F_X5_bits (xa4) xσ11) (fun xr16 xσ14 => if xr16 ≤ xr13 then F_X5_away_b86 xk_42 xa0 xa1 xa2 xa3 xa4 xa5 xσ14 else F_X5_away_b82 xk_42 xa0 xa1 xa2 xa3 xa4 xa5 xσ14)) else F_X5_away_b86 xk_42 xa0 xa1 xa2 xa3 xa4 xa5 xσ6))
def F_X5_away (xa0 : Nat) (xa1 : Int32) (xa2 : Int32) (xa3 : Int32) (σ : Sto) : Option (Int32 × Sto) := ck (kd (xa0) == 5) (bnd (F_X5_isSitter (xa0) (xa1) σ) (fun xr4 xσ1 => if (xr4) = 0 then bnd (F_X5_finding (xa0) (-1000001) xσ1) (fun xr8 xσ6 => some (xr8, xσ6)) else bnd (F_X5_within (xa2) 0 999 xσ1) (fun xr11 xσ9 => if (xr11) = 0 then bnd (F_X5_finding (xa0) (-1000001) xσ9) (fun xr15 xσ13 => some (xr15, xσ13)) else bnd (F_X5_within (xa3) 0 20 xσ9) (fun xr18 xσ16 => if (xr18) = 0 then bnd (F_X5_finding (xa0) (-1000001) xσ16) (fun xr22 xσ20 => some (xr22, xσ20)) else lo6 (F_X5_away_b42) 1000 xa0 xa1 xa2 xa3 (-1) 0 xσ16))))
set_option maxHeartbeats 4000000 in
set_option maxRecDepth 20000 in
theorem b_X5_away_87 {x : XT} {y : YT} {Z : State → Prop} (C : Cx x y (AY y) RX5 cX5_away 7 rm_X5_away) {r : Int32} {σ' : Sto} (hr : RetI x y (AY y) 7 cX5_away Z r σ') (xk_42 : Nat → Int32 → Int32 → Int32 → Int32 → Int32 → Sto → Option (Int32 × Sto)) (xH42 : ∀ (xa0 : Nat) (xa1 : Int32) (xa2 : Int32) (xa3 : Int32) (xa4 : Int32) (xa5 : Int32) (σ : Sto), xk_42 xa0 xa1 xa2 xa3 xa4 xa5 σ = some (r, σ') → GW x y (AY y) 7 Z 42 [(0, .ref (yad y (xa0))), (1, .int (xa1)), (2, .int (xa2)), (3, .int (xa3)), (4, .int (xa4)), (5, .int (xa5))] [] σ) (xa0 : Nat) (xa1 : Int32) (xa2 : Int32) (xa3 : Int32) (xa4 : Int32) (xa5 : Int32) (xs0 : Int32) (σ : Sto) (h : F_X5_away_b87 xk_42 xa0 xa1 xa2 xa3 xa4 xa5 xs0 σ = some (r, σ')) : GW x y (AY y) 7 Z 87 [(0, .ref (yad y (xa0))), (1, .int (xa1)), (2, .int (xa2)), (3, .int (xa3)), (4, .int (xa4)), (5, .int (xa5))] [.int (xs0)] σ := by
  unfold F_X5_away_b87 at h
  refine g_istore (i := 6) (lv' := [(6, .int (xs0)), (0, .ref (yad y (xa0))), (1, .int (xa1)), (2, .int (xa2)), (3, .int (xa3)), (4, .int (xa4)), (5, .int (xa5))]) (pc := 87) C dX5_away_87 (Nat.le_of_ble_eq_true rfl) rfl ?_
  refine g_iload (pc := 89) C dX5_away_89 0 rfl ?_
  refine g_if_eq (pc := 91) C dX5_away_91 (tgt := 111) rfl (fun xq1 => ?_) (fun xq1 => ?_)
  · have h := iP xq1 h
    refine g_iload (pc := 111) C dX5_away_111 5 rfl ?_
    refine g_istore (i := 4) (lv' := [(4, .int (xa4)), (6, .int (xs0)), (0, .ref (yad y (xa0))), (1, .int (xa1)), (2, .int (xa2)), (3, .int (xa3)), (5, .int (xa5))]) (pc := 113) C dX5_away_113 (Nat.le_of_ble_eq_true rfl) rfl ?_
    refine g_iinc (lv' := [(5, .int (xa5 + 1)), (4, .int (xa4)), (6, .int (xs0)), (0, .ref (yad y (xa0))), (1, .int (xa1)), (2, .int (xa2)), (3, .int (xa3))]) (w := xa5 + 1) (pc := 115) C dX5_away_115 (k := 6) rfl rfl (Nat.le_of_ble_eq_true rfl) rfl ?_
    refine g_goto (pc := 118) C dX5_away_118 (tgt := 42) rfl ?_
    refine g_sub (lv' := [(0, .ref (yad y (xa0))), (1, .int (xa1)), (2, .int (xa2)), (3, .int (xa3)), (4, .int (xa4)), (5, .int (xa5 + 1))]) C [3, 4, 5, 6, 1, 0] rfl ?_
    exact xH42 xa0 xa1 xa2 xa3 xa4 (xa5 + 1) σ h
  · have h := iN xq1 h
    refine g_aload_n (pc := 94) C dX5_away_94 rfl 1 rfl ?_
    refine g_iload (pc := 95) C dX5_away_95 6 rfl ?_
    refine g_iload_n (pc := 97) C dX5_away_97 rfl 2 rfl ?_
    refine g_iload_n (pc := 98) C dX5_away_98 rfl 4 rfl ?_
    obtain ⟨xq4, h⟩ := iC h
    have xq4 := keq xq4
    obtain ⟨xr5, xσ2, xc3, h⟩ := iB h
    refine g_callVi (pc := 99) (As := [.int (xa5), .int (xa1), .int (xa3)]) (rest := []) C dX5_away_99 (fun l => c_X5_takenWithout l y _ _ _ _ _ _ _ xc3) cv_X5_205 ⟨rfl, rfl, Nat.le_of_ble_eq_true rfl, Nat.le_of_ble_eq_true rfl⟩ (rv5 xq4) rfl (Nat.le_of_ble_eq_true rfl) ?_
    refine g_iload_n (pc := 102) C dX5_away_102 rfl 3 rfl ?_
    refine g_icmp_lt (pc := 103) C dX5_away_103 (tgt := 111) rfl (fun xq6 => ?_) (fun xq6 => ?_)
    · have h := iP xq6 h
      refine g_iload (pc := 111) C dX5_away_111 5 rfl ?_
      refine g_istore (i := 4) (lv' := [(4, .int (xa4)), (6, .int (xs0)), (0, .ref (yad y (xa0))), (1, .int (xa1)), (2, .int (xa2)), (3, .int (xa3)), (5, .int (xa5))]) (pc := 113) C dX5_away_113 (Nat.le_of_ble_eq_true rfl) rfl ?_
      refine g_iinc (lv' := [(5, .int (xa5 + 1)), (4, .int (xa4)), (6, .int (xs0)), (0, .ref (yad y (xa0))), (1, .int (xa1)), (2, .int (xa2)), (3, .int (xa3))]) (w := xa5 + 1) (pc := 115) C dX5_away_115 (k := 6) rfl rfl (Nat.le_of_ble_eq_true rfl) rfl ?_
      refine g_goto (pc := 118) C dX5_away_118 (tgt := 42) rfl ?_
      refine g_sub (lv' := [(0, .ref (yad y (xa0))), (1, .int (xa1)), (2, .int (xa2)), (3, .int (xa3)), (4, .int (xa4)), (5, .int (xa5 + 1))]) C [3, 4, 5, 6, 1, 0] rfl ?_
      exact xH42 xa0 xa1 xa2 xa3 xa4 (xa5 + 1) xσ2 h
    · have h := iN xq6 h
      refine g_iload (pc := 106) C dX5_away_106 6 rfl ?_
      refine g_goto (pc := 108) C dX5_away_108 (tgt := 113) rfl ?_
      refine g_istore (i := 4) (lv' := [(4, .int (xa5)), (6, .int (xs0)), (0, .ref (yad y (xa0))), (1, .int (xa1)), (2, .int (xa2)), (3, .int (xa3)), (5, .int (xa5))]) (pc := 113) C dX5_away_113 (Nat.le_of_ble_eq_true rfl) rfl ?_
      refine g_iinc (lv' := [(5, .int (xa5 + 1)), (4, .int (xa5)), (6, .int (xs0)), (0, .ref (yad y (xa0))), (1, .int (xa1)), (2, .int (xa2)), (3, .int (xa3))]) (w := xa5 + 1) (pc := 115) C dX5_away_115 (k := 6) rfl rfl (Nat.le_of_ble_eq_true rfl) rfl ?_
      refine g_goto (pc := 118) C dX5_away_118 (tgt := 42) rfl ?_
      refine g_sub (lv' := [(0, .ref (yad y (xa0))), (1, .int (xa1)), (2, .int (xa2)), (3, .int (xa3)), (4, .int (xa5)), (5, .int (xa5 + 1))]) C [3, 4, 5, 6, 1, 0] rfl ?_
      exact xH42 xa0 xa1 xa2 xa3 xa5 (xa5 + 1) xσ2 h
set_option maxHeartbeats 4000000 in
set_option maxRecDepth 20000 in
theorem b_X5_away_82 {x : XT} {y : YT} {Z : State → Prop} (C : Cx x y (AY y) RX5 cX5_away 7 rm_X5_away) {r : Int32} {σ' : Sto} (hr : RetI x y (AY y) 7 cX5_away Z r σ') (xk_42 : Nat → Int32 → Int32 → Int32 → Int32 → Int32 → Sto → Option (Int32 × Sto)) (xH42 : ∀ (xa0 : Nat) (xa1 : Int32) (xa2 : Int32) (xa3 : Int32) (xa4 : Int32) (xa5 : Int32) (σ : Sto), xk_42 xa0 xa1 xa2 xa3 xa4 xa5 σ = some (r, σ') → GW x y (AY y) 7 Z 42 [(0, .ref (yad y (xa0))), (1, .int (xa1)), (2, .int (xa2)), (3, .int (xa3)), (4, .int (xa4)), (5, .int (xa5))] [] σ) (xa0 : Nat) (xa1 : Int32) (xa2 : Int32) (xa3 : Int32) (xa4 : Int32) (xa5 : Int32) (σ : Sto) (h : F_X5_away_b82 xk_42 xa0 xa1 xa2 xa3 xa4 xa5 σ = some (r, σ')) : GW x y (AY y) 7 Z 82 [(0, .ref (yad y (xa0))), (1, .int (xa1)), (2, .int (xa2)), (3, .int (xa3)), (4, .int (xa4)), (5, .int (xa5))] [] σ := by
  unfold F_X5_away_b82 at h
  refine g_iconst (v := 1) (pc := 82) C dX5_away_82 ci_1 ?_
  refine g_goto (pc := 83) C dX5_away_83 (tgt := 87) rfl ?_
  exact b_X5_away_87 C hr xk_42 xH42 xa0 xa1 xa2 xa3 xa4 xa5 1 σ h
set_option maxHeartbeats 4000000 in
set_option maxRecDepth 20000 in
theorem b_X5_away_86 {x : XT} {y : YT} {Z : State → Prop} (C : Cx x y (AY y) RX5 cX5_away 7 rm_X5_away) {r : Int32} {σ' : Sto} (hr : RetI x y (AY y) 7 cX5_away Z r σ') (xk_42 : Nat → Int32 → Int32 → Int32 → Int32 → Int32 → Sto → Option (Int32 × Sto)) (xH42 : ∀ (xa0 : Nat) (xa1 : Int32) (xa2 : Int32) (xa3 : Int32) (xa4 : Int32) (xa5 : Int32) (σ : Sto), xk_42 xa0 xa1 xa2 xa3 xa4 xa5 σ = some (r, σ') → GW x y (AY y) 7 Z 42 [(0, .ref (yad y (xa0))), (1, .int (xa1)), (2, .int (xa2)), (3, .int (xa3)), (4, .int (xa4)), (5, .int (xa5))] [] σ) (xa0 : Nat) (xa1 : Int32) (xa2 : Int32) (xa3 : Int32) (xa4 : Int32) (xa5 : Int32) (σ : Sto) (h : F_X5_away_b86 xk_42 xa0 xa1 xa2 xa3 xa4 xa5 σ = some (r, σ')) : GW x y (AY y) 7 Z 86 [(0, .ref (yad y (xa0))), (1, .int (xa1)), (2, .int (xa2)), (3, .int (xa3)), (4, .int (xa4)), (5, .int (xa5))] [] σ := by
  unfold F_X5_away_b86 at h
  refine g_iconst (v := 0) (pc := 86) C dX5_away_86 ci_0 ?_
  exact b_X5_away_87 C hr xk_42 xH42 xa0 xa1 xa2 xa3 xa4 xa5 0 σ h
set_option maxHeartbeats 4000000 in
set_option maxRecDepth 20000 in
theorem b_X5_away_42 {x : XT} {y : YT} {Z : State → Prop} (C : Cx x y (AY y) RX5 cX5_away 7 rm_X5_away) {r : Int32} {σ' : Sto} (hr : RetI x y (AY y) 7 cX5_away Z r σ') (xk_42 : Nat → Int32 → Int32 → Int32 → Int32 → Int32 → Sto → Option (Int32 × Sto)) (xH42 : ∀ (xa0 : Nat) (xa1 : Int32) (xa2 : Int32) (xa3 : Int32) (xa4 : Int32) (xa5 : Int32) (σ : Sto), xk_42 xa0 xa1 xa2 xa3 xa4 xa5 σ = some (r, σ') → GW x y (AY y) 7 Z 42 [(0, .ref (yad y (xa0))), (1, .int (xa1)), (2, .int (xa2)), (3, .int (xa3)), (4, .int (xa4)), (5, .int (xa5))] [] σ) (xa0 : Nat) (xa1 : Int32) (xa2 : Int32) (xa3 : Int32) (xa4 : Int32) (xa5 : Int32) (σ : Sto) (h : F_X5_away_b42 xk_42 xa0 xa1 xa2 xa3 xa4 xa5 σ = some (r, σ')) : GW x y (AY y) 7 Z 42 [(0, .ref (yad y (xa0))), (1, .int (xa1)), (2, .int (xa2)), (3, .int (xa3)), (4, .int (xa4)), (5, .int (xa5))] [] σ := by
  unfold F_X5_away_b42 at h
  refine g_iload (pc := 42) C dX5_away_42 5 rfl ?_
  refine g_iconst (v := 1) (pc := 44) C dX5_away_44 ci_1 ?_
  refine g_aload_n (pc := 45) C dX5_away_45 rfl 0 rfl ?_
  obtain ⟨xq1, h⟩ := iC h
  have xq1 := keq xq1
  refine gf_5_0 (pc := 46) C wf_X5_9 dX5_away_46 xq1 ?_
  refine g_iconst (v := 1) (pc := 49) C dX5_away_49 ci_1 ?_
  refine g_iald (pc := 50) C dX5_away_50 rfl (ivp (by decide) rfl) (j := 1) ct_1 ?_
  refine g_ishl (pc := 51) C dX5_away_51 ?_
  refine g_icmp_ge (pc := 52) C dX5_away_52 (tgt := 121) rfl (fun xq2 => ?_) (fun xq2 => ?_)
  · have h := iP xq2 h
    refine g_aload_n (pc := 121) C dX5_away_121 rfl 0 rfl ?_
    refine g_iload (pc := 122) C dX5_away_122 4 rfl ?_
    obtain ⟨xr5, xσ3, xc4, h⟩ := iB h
    refine g_callVi (pc := 124) (As := [.int (xa4)]) (rest := []) C dX5_away_124 (fun l => c_X5_orNone l y _ _ _ _ _ xc4) cv_X5_181 ⟨rfl, rfl, Nat.le_of_ble_eq_true rfl, Nat.le_of_ble_eq_true rfl⟩ (rv5 xq1) rfl (Nat.le_of_ble_eq_true rfl) ?_
    exact rtI hr dX5_away_127 h
  · have h := iN xq2 h
    refine g_iload (pc := 55) C dX5_away_55 5 rfl ?_
    refine g_iload_n (pc := 57) C dX5_away_57 rfl 1 rfl ?_
    obtain ⟨xr8, xσ6, xc7, h⟩ := iB h
    refine g_callSi (pc := 58) (As := [.int (xa5), .int (xa1)]) (rest := []) C dX5_away_58 (fun l => c_X5_hasBit l y _ _ _ _ _ xc7) cv_X5_202 ⟨rfl, rfl, Nat.le_of_ble_eq_true rfl, Nat.le_of_ble_eq_true rfl⟩ rfl (Nat.le_of_ble_eq_true rfl) ?_
    refine g_if_ne (pc := 61) C dX5_away_61 (tgt := 86) rfl (fun xq9 => ?_) (fun xq9 => ?_)
    · have h := iN xq9 h
      exact b_X5_away_86 C hr xk_42 xH42 xa0 xa1 xa2 xa3 xa4 xa5 xσ6 h
    · have h := iP xq9 h
      refine g_iload (pc := 64) C dX5_away_64 4 rfl ?_
      refine g_if_lt (pc := 66) C dX5_away_66 (tgt := 82) rfl (fun xq10 => ?_) (fun xq10 => ?_)
      · have h := iP xq10 h
        exact b_X5_away_82 C hr xk_42 xH42 xa0 xa1 xa2 xa3 xa4 xa5 xσ6 h
      · have h := iN xq10 h
        refine g_iload (pc := 69) C dX5_away_69 5 rfl ?_
        obtain ⟨xr13, xσ11, xc12, h⟩ := iB h
        refine g_callSi (pc := 71) (As := [.int (xa5)]) (rest := []) C dX5_away_71 (fun l => c_X5_bits l y _ _ _ _ xc12) cv_X5_136 ⟨rfl, rfl, Nat.le_of_ble_eq_true rfl, Nat.le_of_ble_eq_true rfl⟩ rfl (Nat.le_of_ble_eq_true rfl) ?_
        refine g_iload (pc := 74) C dX5_away_74 4 rfl ?_
        obtain ⟨xr16, xσ14, xc15, h⟩ := iB h
        refine g_callSi (pc := 76) (As := [.int (xa4)]) (rest := [.int (xr13)]) C dX5_away_76 (fun l => c_X5_bits l y _ _ _ _ xc15) cv_X5_136 ⟨rfl, rfl, Nat.le_of_ble_eq_true rfl, Nat.le_of_ble_eq_true rfl⟩ rfl (Nat.le_of_ble_eq_true rfl) ?_
        refine g_icmp_ge (pc := 79) C dX5_away_79 (tgt := 86) rfl (fun xq17 => ?_) (fun xq17 => ?_)
        · have h := iP xq17 h
          exact b_X5_away_86 C hr xk_42 xH42 xa0 xa1 xa2 xa3 xa4 xa5 xσ14 h
        · have h := iN xq17 h
          exact b_X5_away_82 C hr xk_42 xH42 xa0 xa1 xa2 xa3 xa4 xa5 xσ14 h
theorem l_X5_away_42 {x : XT} {y : YT} {Z : State → Prop} (C : Cx x y (AY y) RX5 cX5_away 7 rm_X5_away) {r : Int32} {σ' : Sto} (hr : RetI x y (AY y) 7 cX5_away Z r σ') (n : Nat) (xa0 : Nat) (xa1 : Int32) (xa2 : Int32) (xa3 : Int32) (xa4 : Int32) (xa5 : Int32) (σ : Sto) (h : lo6 (F_X5_away_b42) n xa0 xa1 xa2 xa3 xa4 xa5 σ = some (r, σ')) : GW x y (AY y) 7 Z 42 [(0, .ref (yad y (xa0))), (1, .int (xa1)), (2, .int (xa2)), (3, .int (xa3)), (4, .int (xa4)), (5, .int (xa5))] [] σ :=
  lo6_gw (G := fun xa0 xa1 xa2 xa3 xa4 xa5 σ => GW x y (AY y) 7 Z 42 [(0, .ref (yad y (xa0))), (1, .int (xa1)), (2, .int (xa2)), (3, .int (xa3)), (4, .int (xa4)), (5, .int (xa5))] [] σ) (fun xk xHk xa0 xa1 xa2 xa3 xa4 xa5 σ h => b_X5_away_42 C hr xk xHk xa0 xa1 xa2 xa3 xa4 xa5 σ h) n xa0 xa1 xa2 xa3 xa4 xa5 σ h
set_option maxHeartbeats 4000000 in
set_option maxRecDepth 20000 in
theorem b_X5_away_0 {x : XT} {y : YT} {Z : State → Prop} (C : Cx x y (AY y) RX5 cX5_away 7 rm_X5_away) {r : Int32} {σ' : Sto} (hr : RetI x y (AY y) 7 cX5_away Z r σ') (xa0 : Nat) (xa1 : Int32) (xa2 : Int32) (xa3 : Int32) (σ : Sto) (h : F_X5_away xa0 xa1 xa2 xa3 σ = some (r, σ')) : GW x y (AY y) 7 Z 0 [(0, .ref (yad y (xa0))), (1, .int (xa1)), (2, .int (xa2)), (3, .int (xa3))] [] σ := by
  unfold F_X5_away at h
  refine g_aload_n (pc := 0) C dX5_away_0 rfl 0 rfl ?_
  refine g_iload_n (pc := 1) C dX5_away_1 rfl 1 rfl ?_
  obtain ⟨xq3, h⟩ := iC h
  have xq3 := keq xq3
  obtain ⟨xr4, xσ1, xc2, h⟩ := iB h
  refine g_callVi (pc := 2) (As := [.int (xa1)]) (rest := []) C dX5_away_2 (fun l => c_X5_isSitter l y _ _ _ _ _ xc2) cv_X5_83 ⟨rfl, rfl, Nat.le_of_ble_eq_true rfl, Nat.le_of_ble_eq_true rfl⟩ (rv5 xq3) rfl (Nat.le_of_ble_eq_true rfl) ?_
  refine g_if_eq (pc := 5) C dX5_away_5 (tgt := 29) rfl (fun xq5 => ?_) (fun xq5 => ?_)
  · have h := iP xq5 h
    refine g_aload_n (pc := 29) C dX5_away_29 rfl 0 rfl ?_
    refine g_ldc (v := (-1000001)) (pc := 30) C dX5_away_30 wk_X5_60 ?_
    obtain ⟨xr8, xσ6, xc7, h⟩ := iB h
    refine g_callVi (pc := 32) (As := [.int ((-1000001))]) (rest := []) C dX5_away_32 (fun l => c_X5_finding l y _ _ _ _ _ xc7) cv_X5_66 ⟨rfl, rfl, Nat.le_of_ble_eq_true rfl, Nat.le_of_ble_eq_true rfl⟩ (rv5 xq3) rfl (Nat.le_of_ble_eq_true rfl) ?_
    exact rtI hr dX5_away_35 h
  · have h := iN xq5 h
    refine g_iload_n (pc := 8) C dX5_away_8 rfl 2 rfl ?_
    refine g_iconst (v := 0) (pc := 9) C dX5_away_9 ci_0 ?_
    refine g_sipush (v := 999) (pc := 10) C dX5_away_10 cs_999 ?_
    obtain ⟨xr11, xσ9, xc10, h⟩ := iB h
    refine g_callSi (pc := 13) (As := [.int (xa2), .int (0), .int (999)]) (rest := []) C dX5_away_13 (fun l => c_X5_within l y _ _ _ _ _ _ xc10) cv_X5_70 ⟨rfl, rfl, Nat.le_of_ble_eq_true rfl, Nat.le_of_ble_eq_true rfl⟩ rfl (Nat.le_of_ble_eq_true rfl) ?_
    refine g_if_eq (pc := 16) C dX5_away_16 (tgt := 29) rfl (fun xq12 => ?_) (fun xq12 => ?_)
    · have h := iP xq12 h
      refine g_aload_n (pc := 29) C dX5_away_29 rfl 0 rfl ?_
      refine g_ldc (v := (-1000001)) (pc := 30) C dX5_away_30 wk_X5_60 ?_
      obtain ⟨xr15, xσ13, xc14, h⟩ := iB h
      refine g_callVi (pc := 32) (As := [.int ((-1000001))]) (rest := []) C dX5_away_32 (fun l => c_X5_finding l y _ _ _ _ _ xc14) cv_X5_66 ⟨rfl, rfl, Nat.le_of_ble_eq_true rfl, Nat.le_of_ble_eq_true rfl⟩ (rv5 xq3) rfl (Nat.le_of_ble_eq_true rfl) ?_
      exact rtI hr dX5_away_35 h
    · have h := iN xq12 h
      refine g_iload_n (pc := 19) C dX5_away_19 rfl 3 rfl ?_
      refine g_iconst (v := 0) (pc := 20) C dX5_away_20 ci_0 ?_
      refine g_bipush (v := 20) (pc := 21) C dX5_away_21 cb_20 ?_
      obtain ⟨xr18, xσ16, xc17, h⟩ := iB h
      refine g_callSi (pc := 23) (As := [.int (xa3), .int (0), .int (20)]) (rest := []) C dX5_away_23 (fun l => c_X5_within l y _ _ _ _ _ _ xc17) cv_X5_70 ⟨rfl, rfl, Nat.le_of_ble_eq_true rfl, Nat.le_of_ble_eq_true rfl⟩ rfl (Nat.le_of_ble_eq_true rfl) ?_
      refine g_if_ne (pc := 26) C dX5_away_26 (tgt := 36) rfl (fun xq19 => ?_) (fun xq19 => ?_)
      · have h := iN xq19 h
        refine g_iconst (v := (-1)) (pc := 36) C dX5_away_36 ci_m1 ?_
        refine g_istore (i := 4) (lv' := [(4, .int ((-1))), (0, .ref (yad y (xa0))), (1, .int (xa1)), (2, .int (xa2)), (3, .int (xa3))]) (pc := 37) C dX5_away_37 (Nat.le_of_ble_eq_true rfl) rfl ?_
        refine g_iconst (v := 0) (pc := 39) C dX5_away_39 ci_0 ?_
        refine g_istore (i := 5) (lv' := [(5, .int (0)), (4, .int ((-1))), (0, .ref (yad y (xa0))), (1, .int (xa1)), (2, .int (xa2)), (3, .int (xa3))]) (pc := 40) C dX5_away_40 (Nat.le_of_ble_eq_true rfl) rfl ?_
        refine g_sub (lv' := [(0, .ref (yad y (xa0))), (1, .int (xa1)), (2, .int (xa2)), (3, .int (xa3)), (4, .int ((-1))), (5, .int (0))]) C [2, 3, 4, 5, 1, 0] rfl ?_
        exact l_X5_away_42 C hr 1000 xa0 xa1 xa2 xa3 (-1) 0 xσ16 h
      · have h := iP xq19 h
        refine g_aload_n (pc := 29) C dX5_away_29 rfl 0 rfl ?_
        refine g_ldc (v := (-1000001)) (pc := 30) C dX5_away_30 wk_X5_60 ?_
        obtain ⟨xr22, xσ20, xc21, h⟩ := iB h
        refine g_callVi (pc := 32) (As := [.int ((-1000001))]) (rest := []) C dX5_away_32 (fun l => c_X5_finding l y _ _ _ _ _ xc21) cv_X5_66 ⟨rfl, rfl, Nat.le_of_ble_eq_true rfl, Nat.le_of_ble_eq_true rfl⟩ (rv5 xq3) rfl (Nat.le_of_ble_eq_true rfl) ?_
        exact rtI hr dX5_away_35 h
theorem c_X5_away (l : Launch) (y : YT) (xa0 : Nat) (xa1 : Int32) (xa2 : Int32) (xa3 : Int32) (σ σ' : Sto) (r : Int32) (h : F_X5_away xa0 xa1 xa2 xa3 σ = some (r, σ')) : MI l y yX5_away (Cond.code yX5_away cX5_away 7 (some .int) :: TT) rm_X5_away [.ref (yad y (xa0)), .int (xa1), .int (xa2), .int (xa3)] σ r σ' :=
  mkI (by decide) rfl rfl rfl (Nat.le_of_ble_eq_true rfl) (fun x Z C hr => b_X5_away_0 C hr xa0 xa1 xa2 xa3 σ h)
def rm_X5_isSheet : Room := { frames := 1, cells := 0, slots := 0, locals := 22 }
def F_X5_isSheet (xa0 : Int32) (σ : Sto) : Option (Int32 × Sto) := bnd (F_X5_within (xa0) 0 3 σ) (fun xr3 xσ1 => ck (z01 (xr3)) (some (xr3, xσ1)))
set_option maxHeartbeats 4000000 in
set_option maxRecDepth 20000 in
theorem b_X5_isSheet_0 {x : XT} {y : YT} {Z : State → Prop} (C : Cx x y (AY y) RX5 cX5_isSheet 1 rm_X5_isSheet) {r : Int32} {σ' : Sto} (hr : RetZ x y (AY y) 1 cX5_isSheet Z r σ') (xa0 : Int32) (σ : Sto) (h : F_X5_isSheet xa0 σ = some (r, σ')) : GW x y (AY y) 1 Z 0 [(0, .int (xa0))] [] σ := by
  unfold F_X5_isSheet at h
  refine g_iload_n (pc := 0) C dX5_isSheet_0 rfl 0 rfl ?_
  refine g_iconst (v := 0) (pc := 1) C dX5_isSheet_1 ci_0 ?_
  refine g_iconst (v := 3) (pc := 2) C dX5_isSheet_2 ci_3 ?_
  obtain ⟨xr3, xσ1, xc2, h⟩ := iB h
  refine g_callSi (pc := 3) (As := [.int (xa0), .int (0), .int (3)]) (rest := []) C dX5_isSheet_3 (fun l => c_X5_within l y _ _ _ _ _ _ xc2) cv_X5_70 ⟨rfl, rfl, Nat.le_of_ble_eq_true rfl, Nat.le_of_ble_eq_true rfl⟩ rfl (Nat.le_of_ble_eq_true rfl) ?_
  obtain ⟨xz, h⟩ := iC h
  exact rtZ hr dX5_isSheet_6 (z01_or xz) h
theorem c_X5_isSheet (l : Launch) (y : YT) (xa0 : Int32) (σ σ' : Sto) (r : Int32) (h : F_X5_isSheet xa0 σ = some (r, σ')) : MI l y yX5_isSheet (Cond.code yX5_isSheet cX5_isSheet 1 (some .boolean) :: TT) rm_X5_isSheet [.int (xa0)] σ r σ' :=
  mkZ (by decide) rfl rfl rfl (Nat.le_of_ble_eq_true rfl) (fun x Z C hr => b_X5_isSheet_0 C hr xa0 σ h)
def rm_X5_lacks : Room := { frames := 2, cells := 0, slots := 0, locals := 42 }
def F_X5_lacks (xa0 : Nat) (xa1 : Int32) (xa2 : Int32) (σ : Sto) : Option (Int32 × Sto) := bnd (F_X5_isSheet (xa1) σ) (fun xr3 xσ1 => if (xr3) = 0 then some ((-1000001), xσ1) else ck (kd (xa0) == 5) (ck (inr (xa1) (4)) (if (xσ1 57 (xa1.toNatClampNeg)) = 0 then some ((-1000006), xσ1) else if (xa2) = 0 then some ((-1000001), xσ1) else some (0, xσ1))))
set_option maxHeartbeats 4000000 in
set_option maxRecDepth 20000 in
theorem b_X5_lacks_0 {x : XT} {y : YT} {Z : State → Prop} (C : Cx x y (AY y) RX5 cX5_lacks 3 rm_X5_lacks) {r : Int32} {σ' : Sto} (hr : RetI x y (AY y) 3 cX5_lacks Z r σ') (xa0 : Nat) (xa1 : Int32) (xa2 : Int32) (σ : Sto) (h : F_X5_lacks xa0 xa1 xa2 σ = some (r, σ')) : GW x y (AY y) 3 Z 0 [(0, .ref (yad y (xa0))), (1, .int (xa1)), (2, .int (xa2))] [] σ := by
  unfold F_X5_lacks at h
  refine g_iload_n (pc := 0) C dX5_lacks_0 rfl 1 rfl ?_
  obtain ⟨xr3, xσ1, xc2, h⟩ := iB h
  refine g_callSi (pc := 1) (As := [.int (xa1)]) (rest := []) C dX5_lacks_1 (fun l => c_X5_isSheet l y _ _ _ _ xc2) cv_X5_209 ⟨rfl, rfl, Nat.le_of_ble_eq_true rfl, Nat.le_of_ble_eq_true rfl⟩ rfl (Nat.le_of_ble_eq_true rfl) ?_
  refine g_if_ne (pc := 4) C dX5_lacks_4 (tgt := 12) rfl (fun xq4 => ?_) (fun xq4 => ?_)
  · have h := iN xq4 h
    refine g_aload_n (pc := 12) C dX5_lacks_12 rfl 0 rfl ?_
    obtain ⟨xq5, h⟩ := iC h
    have xq5 := keq xq5
    refine gf_5_18 (pc := 13) C wf_X5_48 dX5_lacks_13 xq5 ?_
    refine g_iload_n (pc := 16) C dX5_lacks_16 rfl 1 rfl ?_
    obtain ⟨xq6, h⟩ := iC h
    refine g_iald (pc := 17) C dX5_lacks_17 rfl (ivp xq6 rfl) (j := xa1.toNatClampNeg) rfl ?_
    refine g_if_ne (pc := 18) C dX5_lacks_18 (tgt := 26) rfl (fun xq7 => ?_) (fun xq7 => ?_)
    · have h := iN xq7 h
      refine g_iload_n (pc := 26) C dX5_lacks_26 rfl 2 rfl ?_
      refine g_if_eq (pc := 27) C dX5_lacks_27 (tgt := 34) rfl (fun xq8 => ?_) (fun xq8 => ?_)
      · have h := iP xq8 h
        refine g_ldc (v := (-1000001)) (pc := 34) C dX5_lacks_34 wk_X5_60 ?_
        exact rtI hr dX5_lacks_36 h
      · have h := iN xq8 h
        refine g_iconst (v := 0) (pc := 30) C dX5_lacks_30 ci_0 ?_
        refine g_goto (pc := 31) C dX5_lacks_31 (tgt := 36) rfl ?_
        exact rtI hr dX5_lacks_36 h
    · have h := iP xq7 h
      refine g_ldc (v := (-1000006)) (pc := 21) C dX5_lacks_21 wk_X5_212 ?_
      refine g_goto (pc := 23) C dX5_lacks_23 (tgt := 36) rfl ?_
      exact rtI hr dX5_lacks_36 h
  · have h := iP xq4 h
    refine g_ldc (v := (-1000001)) (pc := 7) C dX5_lacks_7 wk_X5_60 ?_
    refine g_goto (pc := 9) C dX5_lacks_9 (tgt := 36) rfl ?_
    exact rtI hr dX5_lacks_36 h
theorem c_X5_lacks (l : Launch) (y : YT) (xa0 : Nat) (xa1 : Int32) (xa2 : Int32) (σ σ' : Sto) (r : Int32) (h : F_X5_lacks xa0 xa1 xa2 σ = some (r, σ')) : MI l y yX5_lacks (Cond.code yX5_lacks cX5_lacks 3 (some .int) :: TT) rm_X5_lacks [.ref (yad y (xa0)), .int (xa1), .int (xa2)] σ r σ' :=
  mkI (by decide) rfl rfl rfl (Nat.le_of_ble_eq_true rfl) (fun x Z C hr => b_X5_lacks_0 C hr xa0 xa1 xa2 σ h)
def rm_X5_areFaultsSo : Room := { frames := 4, cells := 0, slots := 0, locals := 90 }
def F_X5_areFaultsSo_b5 (xk_5 : Nat → Int32 → Int32 → Int32 → Int32 → Sto → Option (Int32 × Sto)) (xa0 : Nat) (xa1 : Int32) (xa2 : Int32) (xa3 : Int32) (xa4 : Int32) (σ : Sto) : Option (Int32 × Sto) := if 4 ≤ xa4 then ck (z01 (xa3)) (some (xa3, σ)) else ck (kd (xa0) == 5) (ck (inr (xa1) (4)) (if (σ 58 (xa1.toNatClampNeg)) ≤ xa4 then ck (z01 (xa3)) (some (xa3, σ)) else ck (inr ((40 * xa1) + xa4) (160)) (lti (σ 59 (((40 * xa1) + xa4 : Int32).toNatClampNeg)) (fun xv6 => if (xa3) = 0 then xk_5 xa0 xa1 xa2 0 (xa4 + 1) σ else if xv6 = (-1) then xk_5 xa0 xa1 xa2 1 (xa4 + 1) σ else bnd (F_X5_faultsNow (xa0) (xa2) (xa4) σ) (fun xr11 xσ9 => if xv6 = xr11 then xk_5 xa0 xa1 xa2 1 (xa4 + 1) xσ9 else xk_5 xa0 xa1 xa2 0 (xa4 + 1) xσ9)))))
def F_X5_areFaultsSo (xa0 : Nat) (xa1 : Int32) (xa2 : Int32) (σ : Sto) : Option (Int32 × Sto) := lo5 (F_X5_areFaultsSo_b5) 1000 xa0 xa1 xa2 1 0 σ
set_option maxHeartbeats 4000000 in
set_option maxRecDepth 20000 in
theorem b_X5_areFaultsSo_5 {x : XT} {y : YT} {Z : State → Prop} (C : Cx x y (AY y) RX5 cX5_areFaultsSo 6 rm_X5_areFaultsSo) {r : Int32} {σ' : Sto} (hr : RetZ x y (AY y) 6 cX5_areFaultsSo Z r σ') (xk_5 : Nat → Int32 → Int32 → Int32 → Int32 → Sto → Option (Int32 × Sto)) (xH5 : ∀ (xa0 : Nat) (xa1 : Int32) (xa2 : Int32) (xa3 : Int32) (xa4 : Int32) (σ : Sto), xk_5 xa0 xa1 xa2 xa3 xa4 σ = some (r, σ') → GW x y (AY y) 6 Z 5 [(0, .ref (yad y (xa0))), (1, .int (xa1)), (2, .int (xa2)), (3, .int (xa3)), (4, .int (xa4))] [] σ) (xa0 : Nat) (xa1 : Int32) (xa2 : Int32) (xa3 : Int32) (xa4 : Int32) (σ : Sto) (h : F_X5_areFaultsSo_b5 xk_5 xa0 xa1 xa2 xa3 xa4 σ = some (r, σ')) : GW x y (AY y) 6 Z 5 [(0, .ref (yad y (xa0))), (1, .int (xa1)), (2, .int (xa2)), (3, .int (xa3)), (4, .int (xa4))] [] σ := by
  unfold F_X5_areFaultsSo_b5 at h
  refine g_iload (pc := 5) C dX5_areFaultsSo_5 4 rfl ?_
  refine g_iconst (v := 4) (pc := 7) C dX5_areFaultsSo_7 ci_4 ?_
  refine g_icmp_ge (pc := 8) C dX5_areFaultsSo_8 (tgt := 70) rfl (fun xq1 => ?_) (fun xq1 => ?_)
  · have h := iP xq1 h
    refine g_iload_n (pc := 70) C dX5_areFaultsSo_70 rfl 3 rfl ?_
    obtain ⟨xz, h⟩ := iC h
    exact rtZ hr dX5_areFaultsSo_71 (z01_or xz) h
  · have h := iN xq1 h
    refine g_iload (pc := 11) C dX5_areFaultsSo_11 4 rfl ?_
    refine g_aload_n (pc := 13) C dX5_areFaultsSo_13 rfl 0 rfl ?_
    obtain ⟨xq2, h⟩ := iC h
    have xq2 := keq xq2
    refine gf_5_19 (pc := 14) C wf_X5_51 dX5_areFaultsSo_14 xq2 ?_
    refine g_iload_n (pc := 17) C dX5_areFaultsSo_17 rfl 1 rfl ?_
    obtain ⟨xq3, h⟩ := iC h
    refine g_iald (pc := 18) C dX5_areFaultsSo_18 rfl (ivp xq3 rfl) (j := xa1.toNatClampNeg) rfl ?_
    refine g_icmp_ge (pc := 19) C dX5_areFaultsSo_19 (tgt := 70) rfl (fun xq4 => ?_) (fun xq4 => ?_)
    · have h := iP xq4 h
      refine g_iload_n (pc := 70) C dX5_areFaultsSo_70 rfl 3 rfl ?_
      obtain ⟨xz, h⟩ := iC h
      exact rtZ hr dX5_areFaultsSo_71 (z01_or xz) h
    · have h := iN xq4 h
      refine g_aload_n (pc := 22) C dX5_areFaultsSo_22 rfl 0 rfl ?_
      refine gf_5_20 (pc := 23) C wf_X5_54 dX5_areFaultsSo_23 xq2 ?_
      refine g_bipush (v := 40) (pc := 26) C dX5_areFaultsSo_26 cb_40 ?_
      refine g_iload_n (pc := 28) C dX5_areFaultsSo_28 rfl 1 rfl ?_
      refine g_imul (pc := 29) C dX5_areFaultsSo_29 ?_
      refine g_iload (pc := 30) C dX5_areFaultsSo_30 4 rfl ?_
      refine g_iadd (pc := 32) C dX5_areFaultsSo_32 ?_
      obtain ⟨xq5, h⟩ := iC h
      refine g_iald (pc := 33) C dX5_areFaultsSo_33 rfl (ivp xq5 rfl) (j := ((40 * xa1) + xa4 : Int32).toNatClampNeg) rfl ?_
      refine g_letI h (fun xv6 h => ?_)
      refine g_istore (i := 5) (lv' := [(5, .int (xv6)), (0, .ref (yad y (xa0))), (1, .int (xa1)), (2, .int (xa2)), (3, .int (xa3)), (4, .int (xa4))]) (pc := 34) C dX5_areFaultsSo_34 (Nat.le_of_ble_eq_true rfl) rfl ?_
      refine g_iload_n (pc := 36) C dX5_areFaultsSo_36 rfl 4 rfl ?_
      refine g_if_eq (pc := 37) C dX5_areFaultsSo_37 (tgt := 62) rfl (fun xq7 => ?_) (fun xq7 => ?_)
      · have h := iP xq7 h
        refine g_iconst (v := 0) (pc := 62) C dX5_areFaultsSo_62 ci_0 ?_
        refine g_istore_n (i := 3) (lv' := [(3, .int (0)), (5, .int (xv6)), (0, .ref (yad y (xa0))), (1, .int (xa1)), (2, .int (xa2)), (4, .int (xa4))]) (pc := 63) C dX5_areFaultsSo_63 rfl (Nat.le_of_ble_eq_true rfl) rfl ?_
        refine g_iinc (lv' := [(4, .int (xa4 + 1)), (3, .int (0)), (5, .int (xv6)), (0, .ref (yad y (xa0))), (1, .int (xa1)), (2, .int (xa2))]) (w := xa4 + 1) (pc := 64) C dX5_areFaultsSo_64 (k := 5) rfl rfl (Nat.le_of_ble_eq_true rfl) rfl ?_
        refine g_goto (pc := 67) C dX5_areFaultsSo_67 (tgt := 5) rfl ?_
        refine g_sub (lv' := [(0, .ref (yad y (xa0))), (1, .int (xa1)), (2, .int (xa2)), (3, .int (0)), (4, .int (xa4 + 1))]) C [3, 4, 5, 1, 0] rfl ?_
        exact xH5 xa0 xa1 xa2 0 (xa4 + 1) σ h
      · have h := iN xq7 h
        refine g_iload (pc := 40) C dX5_areFaultsSo_40 0 rfl ?_
        refine g_iconst (v := (-1)) (pc := 42) C dX5_areFaultsSo_42 ci_m1 ?_
        refine g_icmp_eq (pc := 43) C dX5_areFaultsSo_43 (tgt := 58) rfl (fun xq8 => ?_) (fun xq8 => ?_)
        · have h := iP xq8 h
          refine g_iconst (v := 1) (pc := 58) C dX5_areFaultsSo_58 ci_1 ?_
          refine g_goto (pc := 59) C dX5_areFaultsSo_59 (tgt := 63) rfl ?_
          refine g_istore_n (i := 3) (lv' := [(3, .int (1)), (5, .int (xv6)), (0, .ref (yad y (xa0))), (1, .int (xa1)), (2, .int (xa2)), (4, .int (xa4))]) (pc := 63) C dX5_areFaultsSo_63 rfl (Nat.le_of_ble_eq_true rfl) rfl ?_
          refine g_iinc (lv' := [(4, .int (xa4 + 1)), (3, .int (1)), (5, .int (xv6)), (0, .ref (yad y (xa0))), (1, .int (xa1)), (2, .int (xa2))]) (w := xa4 + 1) (pc := 64) C dX5_areFaultsSo_64 (k := 5) rfl rfl (Nat.le_of_ble_eq_true rfl) rfl ?_
          refine g_goto (pc := 67) C dX5_areFaultsSo_67 (tgt := 5) rfl ?_
          refine g_sub (lv' := [(0, .ref (yad y (xa0))), (1, .int (xa1)), (2, .int (xa2)), (3, .int (1)), (4, .int (xa4 + 1))]) C [3, 4, 5, 1, 0] rfl ?_
          exact xH5 xa0 xa1 xa2 1 (xa4 + 1) σ h
        · have h := iN xq8 h
          refine g_iload (pc := 46) C dX5_areFaultsSo_46 0 rfl ?_
          refine g_aload_n (pc := 48) C dX5_areFaultsSo_48 rfl 1 rfl ?_
          refine g_iload_n (pc := 49) C dX5_areFaultsSo_49 rfl 3 rfl ?_
          refine g_iload (pc := 50) C dX5_areFaultsSo_50 5 rfl ?_
          obtain ⟨xr11, xσ9, xc10, h⟩ := iB h
          refine g_callVi (pc := 52) (As := [.int (xa2), .int (xa4)]) (rest := [.int (xv6)]) C dX5_areFaultsSo_52 (fun l => c_X5_faultsNow l y _ _ _ _ _ _ xc10) cv_X5_133 ⟨rfl, rfl, Nat.le_of_ble_eq_true rfl, Nat.le_of_ble_eq_true rfl⟩ (rv5 xq2) rfl (Nat.le_of_ble_eq_true rfl) ?_
          refine g_icmp_ne (pc := 55) C dX5_areFaultsSo_55 (tgt := 62) rfl (fun xq12 => ?_) (fun xq12 => ?_)
          · have h := iN xq12 h
            refine g_iconst (v := 0) (pc := 62) C dX5_areFaultsSo_62 ci_0 ?_
            refine g_istore_n (i := 3) (lv' := [(3, .int (0)), (5, .int (xv6)), (0, .ref (yad y (xa0))), (1, .int (xa1)), (2, .int (xa2)), (4, .int (xa4))]) (pc := 63) C dX5_areFaultsSo_63 rfl (Nat.le_of_ble_eq_true rfl) rfl ?_
            refine g_iinc (lv' := [(4, .int (xa4 + 1)), (3, .int (0)), (5, .int (xv6)), (0, .ref (yad y (xa0))), (1, .int (xa1)), (2, .int (xa2))]) (w := xa4 + 1) (pc := 64) C dX5_areFaultsSo_64 (k := 5) rfl rfl (Nat.le_of_ble_eq_true rfl) rfl ?_
            refine g_goto (pc := 67) C dX5_areFaultsSo_67 (tgt := 5) rfl ?_
            refine g_sub (lv' := [(0, .ref (yad y (xa0))), (1, .int (xa1)), (2, .int (xa2)), (3, .int (0)), (4, .int (xa4 + 1))]) C [3, 4, 5, 1, 0] rfl ?_
            exact xH5 xa0 xa1 xa2 0 (xa4 + 1) xσ9 h
          · have h := iP xq12 h
            refine g_iconst (v := 1) (pc := 58) C dX5_areFaultsSo_58 ci_1 ?_
            refine g_goto (pc := 59) C dX5_areFaultsSo_59 (tgt := 63) rfl ?_
            refine g_istore_n (i := 3) (lv' := [(3, .int (1)), (5, .int (xv6)), (0, .ref (yad y (xa0))), (1, .int (xa1)), (2, .int (xa2)), (4, .int (xa4))]) (pc := 63) C dX5_areFaultsSo_63 rfl (Nat.le_of_ble_eq_true rfl) rfl ?_
            refine g_iinc (lv' := [(4, .int (xa4 + 1)), (3, .int (1)), (5, .int (xv6)), (0, .ref (yad y (xa0))), (1, .int (xa1)), (2, .int (xa2))]) (w := xa4 + 1) (pc := 64) C dX5_areFaultsSo_64 (k := 5) rfl rfl (Nat.le_of_ble_eq_true rfl) rfl ?_
            refine g_goto (pc := 67) C dX5_areFaultsSo_67 (tgt := 5) rfl ?_
            refine g_sub (lv' := [(0, .ref (yad y (xa0))), (1, .int (xa1)), (2, .int (xa2)), (3, .int (1)), (4, .int (xa4 + 1))]) C [3, 4, 5, 1, 0] rfl ?_
            exact xH5 xa0 xa1 xa2 1 (xa4 + 1) xσ9 h
theorem l_X5_areFaultsSo_5 {x : XT} {y : YT} {Z : State → Prop} (C : Cx x y (AY y) RX5 cX5_areFaultsSo 6 rm_X5_areFaultsSo) {r : Int32} {σ' : Sto} (hr : RetZ x y (AY y) 6 cX5_areFaultsSo Z r σ') (n : Nat) (xa0 : Nat) (xa1 : Int32) (xa2 : Int32) (xa3 : Int32) (xa4 : Int32) (σ : Sto) (h : lo5 (F_X5_areFaultsSo_b5) n xa0 xa1 xa2 xa3 xa4 σ = some (r, σ')) : GW x y (AY y) 6 Z 5 [(0, .ref (yad y (xa0))), (1, .int (xa1)), (2, .int (xa2)), (3, .int (xa3)), (4, .int (xa4))] [] σ :=
  lo5_gw (G := fun xa0 xa1 xa2 xa3 xa4 σ => GW x y (AY y) 6 Z 5 [(0, .ref (yad y (xa0))), (1, .int (xa1)), (2, .int (xa2)), (3, .int (xa3)), (4, .int (xa4))] [] σ) (fun xk xHk xa0 xa1 xa2 xa3 xa4 σ h => b_X5_areFaultsSo_5 C hr xk xHk xa0 xa1 xa2 xa3 xa4 σ h) n xa0 xa1 xa2 xa3 xa4 σ h
set_option maxHeartbeats 4000000 in
set_option maxRecDepth 20000 in
theorem b_X5_areFaultsSo_0 {x : XT} {y : YT} {Z : State → Prop} (C : Cx x y (AY y) RX5 cX5_areFaultsSo 6 rm_X5_areFaultsSo) {r : Int32} {σ' : Sto} (hr : RetZ x y (AY y) 6 cX5_areFaultsSo Z r σ') (xa0 : Nat) (xa1 : Int32) (xa2 : Int32) (σ : Sto) (h : F_X5_areFaultsSo xa0 xa1 xa2 σ = some (r, σ')) : GW x y (AY y) 6 Z 0 [(0, .ref (yad y (xa0))), (1, .int (xa1)), (2, .int (xa2))] [] σ := by
  unfold F_X5_areFaultsSo at h
  refine g_iconst (v := 1) (pc := 0) C dX5_areFaultsSo_0 ci_1 ?_
  refine g_istore_n (i := 3) (lv' := [(3, .int (1)), (0, .ref (yad y (xa0))), (1, .int (xa1)), (2, .int (xa2))]) (pc := 1) C dX5_areFaultsSo_1 rfl (Nat.le_of_ble_eq_true rfl) rfl ?_
  refine g_iconst (v := 0) (pc := 2) C dX5_areFaultsSo_2 ci_0 ?_
  refine g_istore (i := 4) (lv' := [(4, .int (0)), (3, .int (1)), (0, .ref (yad y (xa0))), (1, .int (xa1)), (2, .int (xa2))]) (pc := 3) C dX5_areFaultsSo_3 (Nat.le_of_ble_eq_true rfl) rfl ?_
  refine g_sub (lv' := [(0, .ref (yad y (xa0))), (1, .int (xa1)), (2, .int (xa2)), (3, .int (1)), (4, .int (0))]) C [2, 3, 4, 1, 0] rfl ?_
  exact l_X5_areFaultsSo_5 C hr 1000 xa0 xa1 xa2 1 0 σ h
theorem c_X5_areFaultsSo (l : Launch) (y : YT) (xa0 : Nat) (xa1 : Int32) (xa2 : Int32) (σ σ' : Sto) (r : Int32) (h : F_X5_areFaultsSo xa0 xa1 xa2 σ = some (r, σ')) : MI l y yX5_areFaultsSo (Cond.code yX5_areFaultsSo cX5_areFaultsSo 6 (some .boolean) :: TT) rm_X5_areFaultsSo [.ref (yad y (xa0)), .int (xa1), .int (xa2)] σ r σ' :=
  mkZ (by decide) rfl rfl rfl (Nat.le_of_ble_eq_true rfl) (fun x Z C hr => b_X5_areFaultsSo_0 C hr xa0 xa1 xa2 σ h)
def rm_X5_fitTall : Room := { frames := 5, cells := 0, slots := 0, locals := 115 }
def F_X5_fitTall_b64 (xk_28 : Nat → Int32 → Int32 → Int32 → Int32 → Int32 → Sto → Option (Unit × Sto)) (xa0 : Nat) (xa1 : Int32) (xa2 : Int32) (xa3 : Int32) (xa4 : Int32) (xa5 : Int32) (xa6 : Int32) (xs0 : Int32) (xs1 : Int32) (xs2 : Nat) (σ : Sto) : Option (Unit × Sto) := ck (kd (xs2) == 5) (lts (up2 σ (xs2) 5 (xs1 + xs0)) (fun xσ2 => if (xa6) = 0 then ck (kd (xa0) == 5) (lts (up2 xσ2 (xa0) 6 (xσ2 xa0 6)) (fun xσ5 => xk_28 xa0 xa1 xa2 xa3 xa4 (xa5 + (-1)) xσ5)) else ck (kd (xa0) == 5) (lts (up2 xσ2 (xa0) 6 (xa5)) (fun xσ7 => xk_28 xa0 xa1 xa2 xa3 xa4 (xa5 + (-1)) xσ7))))
def F_X5_fitTall_b28 (xk_28 : Nat → Int32 → Int32 → Int32 → Int32 → Int32 → Sto → Option (Unit × Sto)) (xa0 : Nat) (xa1 : Int32) (xa2 : Int32) (xa3 : Int32) (xa4 : Int32) (xa5 : Int32) (σ : Sto) : Option (Unit × Sto) := if (xa5) < 0 then ck (kd (xa0) == 5) (ck (inr (xa3) (79)) (lts (up2 σ 50 (xa3.toNatClampNeg) (xa4)) (fun xσ4 => some ((), xσ4)))) else ck (kd (xa0) == 5) (ck (inr (xa3) (79)) (lts (up2 σ 50 (xa3.toNatClampNeg) (xa5)) (fun xσ7 => bnd (F_X5_areFaultsSo (xa0) (xa1) (xa2) xσ7) (fun xr10 xσ8 => if (xr10) = 0 then F_X5_fitTall_b64 xk_28 xa0 xa1 xa2 xa3 xa4 xa5 xr10 0 (xσ8 xa0 5) xa0 xσ8 else F_X5_fitTall_b64 xk_28 xa0 xa1 xa2 xa3 xa4 xa5 xr10 1 (xσ8 xa0 5) xa0 xσ8))))
def F_X5_fitTall (xa0 : Nat) (xa1 : Int32) (xa2 : Int32) (σ : Sto) : Option (Unit × Sto) := bnd (F_X5_sitterAt (xa2) 1 σ) (fun xr3 xσ1 => ck (kd (xa0) == 5) (ck (inr (xr3) (79)) (lti (xσ1 50 (xr3.toNatClampNeg)) (fun xv6 => lts (up2 xσ1 (xa0) 5 (0)) (fun xσ7 => lts (up2 xσ7 (xa0) 6 ((-1))) (fun xσ8 => lo6 (F_X5_fitTall_b28) 1000 xa0 xa1 xa2 xr3 xv6 90 xσ8))))))
set_option maxHeartbeats 4000000 in
set_option maxRecDepth 20000 in
theorem b_X5_fitTall_64 {x : XT} {y : YT} {Z : State → Prop} (C : Cx x y (AY y) RX5 cX5_fitTall 7 rm_X5_fitTall) {r : Unit} {σ' : Sto} (hr : RetV x y (AY y) 7 cX5_fitTall Z r σ') (xk_28 : Nat → Int32 → Int32 → Int32 → Int32 → Int32 → Sto → Option (Unit × Sto)) (xH28 : ∀ (xa0 : Nat) (xa1 : Int32) (xa2 : Int32) (xa3 : Int32) (xa4 : Int32) (xa5 : Int32) (σ : Sto), xk_28 xa0 xa1 xa2 xa3 xa4 xa5 σ = some (r, σ') → GW x y (AY y) 7 Z 28 [(0, .ref (yad y (xa0))), (1, .int (xa1)), (2, .int (xa2)), (3, .int (xa3)), (4, .int (xa4)), (5, .int (xa5))] [] σ) (xa0 : Nat) (xa1 : Int32) (xa2 : Int32) (xa3 : Int32) (xa4 : Int32) (xa5 : Int32) (xa6 : Int32) (xs0 : Int32) (xs1 : Int32) (xs2 : Nat) (σ : Sto) (h : F_X5_fitTall_b64 xk_28 xa0 xa1 xa2 xa3 xa4 xa5 xa6 xs0 xs1 xs2 σ = some (r, σ')) : GW x y (AY y) 7 Z 64 [(0, .ref (yad y (xa0))), (1, .int (xa1)), (2, .int (xa2)), (3, .int (xa3)), (4, .int (xa4)), (5, .int (xa5)), (6, .int (xa6))] [.int (xs0), .int (xs1), .ref (yad y (xs2))] σ := by
  unfold F_X5_fitTall_b64 at h
  refine g_iadd (pc := 64) C dX5_fitTall_64 ?_
  obtain ⟨xq1, h⟩ := iC h
  have xq1 := keq xq1
  refine gp_5_5 (pc := 65) C wf_X5_213 dX5_fitTall_65 xq1 ?_
  refine g_letS h (fun xσ2 h => ?_)
  refine g_aload_n (pc := 68) C dX5_fitTall_68 rfl 0 rfl ?_
  refine g_iload (pc := 69) C dX5_fitTall_69 6 rfl ?_
  refine g_if_eq (pc := 71) C dX5_fitTall_71 (tgt := 79) rfl (fun xq3 => ?_) (fun xq3 => ?_)
  · have h := iP xq3 h
    refine g_aload_n (pc := 79) C dX5_fitTall_79 rfl 0 rfl ?_
    obtain ⟨xq4, h⟩ := iC h
    have xq4 := keq xq4
    refine gf_5_6 (pc := 80) C wf_X5_217 dX5_fitTall_80 xq4 ?_
    refine gp_5_6 (pc := 83) C wf_X5_217 dX5_fitTall_83 xq4 ?_
    refine g_letS h (fun xσ5 h => ?_)
    refine g_iinc (lv' := [(5, .int (xa5 + (-1))), (0, .ref (yad y (xa0))), (1, .int (xa1)), (2, .int (xa2)), (3, .int (xa3)), (4, .int (xa4)), (6, .int (xa6))]) (w := xa5 + (-1)) (pc := 86) C dX5_fitTall_86 (k := 5) rfl rfl (Nat.le_of_ble_eq_true rfl) rfl ?_
    refine g_goto (pc := 89) C dX5_fitTall_89 (tgt := 28) rfl ?_
    refine g_sub (lv' := [(0, .ref (yad y (xa0))), (1, .int (xa1)), (2, .int (xa2)), (3, .int (xa3)), (4, .int (xa4)), (5, .int (xa5 + (-1)))]) C [1, 2, 3, 4, 5, 0] rfl ?_
    exact xH28 xa0 xa1 xa2 xa3 xa4 (xa5 + (-1)) xσ5 h
  · have h := iN xq3 h
    refine g_iload (pc := 74) C dX5_fitTall_74 5 rfl ?_
    refine g_goto (pc := 76) C dX5_fitTall_76 (tgt := 83) rfl ?_
    obtain ⟨xq6, h⟩ := iC h
    have xq6 := keq xq6
    refine gp_5_6 (pc := 83) C wf_X5_217 dX5_fitTall_83 xq6 ?_
    refine g_letS h (fun xσ7 h => ?_)
    refine g_iinc (lv' := [(5, .int (xa5 + (-1))), (0, .ref (yad y (xa0))), (1, .int (xa1)), (2, .int (xa2)), (3, .int (xa3)), (4, .int (xa4)), (6, .int (xa6))]) (w := xa5 + (-1)) (pc := 86) C dX5_fitTall_86 (k := 5) rfl rfl (Nat.le_of_ble_eq_true rfl) rfl ?_
    refine g_goto (pc := 89) C dX5_fitTall_89 (tgt := 28) rfl ?_
    refine g_sub (lv' := [(0, .ref (yad y (xa0))), (1, .int (xa1)), (2, .int (xa2)), (3, .int (xa3)), (4, .int (xa4)), (5, .int (xa5 + (-1)))]) C [1, 2, 3, 4, 5, 0] rfl ?_
    exact xH28 xa0 xa1 xa2 xa3 xa4 (xa5 + (-1)) xσ7 h
set_option maxHeartbeats 4000000 in
set_option maxRecDepth 20000 in
theorem b_X5_fitTall_28 {x : XT} {y : YT} {Z : State → Prop} (C : Cx x y (AY y) RX5 cX5_fitTall 7 rm_X5_fitTall) {r : Unit} {σ' : Sto} (hr : RetV x y (AY y) 7 cX5_fitTall Z r σ') (xk_28 : Nat → Int32 → Int32 → Int32 → Int32 → Int32 → Sto → Option (Unit × Sto)) (xH28 : ∀ (xa0 : Nat) (xa1 : Int32) (xa2 : Int32) (xa3 : Int32) (xa4 : Int32) (xa5 : Int32) (σ : Sto), xk_28 xa0 xa1 xa2 xa3 xa4 xa5 σ = some (r, σ') → GW x y (AY y) 7 Z 28 [(0, .ref (yad y (xa0))), (1, .int (xa1)), (2, .int (xa2)), (3, .int (xa3)), (4, .int (xa4)), (5, .int (xa5))] [] σ) (xa0 : Nat) (xa1 : Int32) (xa2 : Int32) (xa3 : Int32) (xa4 : Int32) (xa5 : Int32) (σ : Sto) (h : F_X5_fitTall_b28 xk_28 xa0 xa1 xa2 xa3 xa4 xa5 σ = some (r, σ')) : GW x y (AY y) 7 Z 28 [(0, .ref (yad y (xa0))), (1, .int (xa1)), (2, .int (xa2)), (3, .int (xa3)), (4, .int (xa4)), (5, .int (xa5))] [] σ := by
  unfold F_X5_fitTall_b28 at h
  refine g_iload (pc := 28) C dX5_fitTall_28 5 rfl ?_
  refine g_if_lt (pc := 30) C dX5_fitTall_30 (tgt := 92) rfl (fun xq1 => ?_) (fun xq1 => ?_)
  · have h := iP xq1 h
    refine g_aload_n (pc := 92) C dX5_fitTall_92 rfl 0 rfl ?_
    obtain ⟨xq2, h⟩ := iC h
    have xq2 := keq xq2
    refine gf_5_0 (pc := 93) C wf_X5_9 dX5_fitTall_93 xq2 ?_
    refine g_iload_n (pc := 96) C dX5_fitTall_96 rfl 3 rfl ?_
    refine g_iload (pc := 97) C dX5_fitTall_97 4 rfl ?_
    obtain ⟨xq3, h⟩ := iC h
    refine g_iast (pc := 99) C dX5_fitTall_99 rfl (ivp xq3 rfl) (j := xa3.toNatClampNeg) rfl ?_
    refine g_letS h (fun xσ4 h => ?_)
    exact rtV hr dX5_fitTall_100 h
  · have h := iN xq1 h
    refine g_aload_n (pc := 33) C dX5_fitTall_33 rfl 0 rfl ?_
    obtain ⟨xq5, h⟩ := iC h
    have xq5 := keq xq5
    refine gf_5_0 (pc := 34) C wf_X5_9 dX5_fitTall_34 xq5 ?_
    refine g_iload_n (pc := 37) C dX5_fitTall_37 rfl 3 rfl ?_
    refine g_iload (pc := 38) C dX5_fitTall_38 5 rfl ?_
    obtain ⟨xq6, h⟩ := iC h
    refine g_iast (pc := 40) C dX5_fitTall_40 rfl (ivp xq6 rfl) (j := xa3.toNatClampNeg) rfl ?_
    refine g_letS h (fun xσ7 h => ?_)
    refine g_aload_n (pc := 41) C dX5_fitTall_41 rfl 0 rfl ?_
    refine g_iload_n (pc := 42) C dX5_fitTall_42 rfl 1 rfl ?_
    refine g_iload_n (pc := 43) C dX5_fitTall_43 rfl 2 rfl ?_
    obtain ⟨xr10, xσ8, xc9, h⟩ := iB h
    refine g_callVi (pc := 44) (As := [.int (xa1), .int (xa2)]) (rest := []) C dX5_fitTall_44 (fun l => c_X5_areFaultsSo l y _ _ _ _ _ _ xc9) cv_X5_220 ⟨rfl, rfl, Nat.le_of_ble_eq_true rfl, Nat.le_of_ble_eq_true rfl⟩ (rv5 xq5) rfl (Nat.le_of_ble_eq_true rfl) ?_
    refine g_istore (i := 6) (lv' := [(6, .int (xr10)), (0, .ref (yad y (xa0))), (1, .int (xa1)), (2, .int (xa2)), (3, .int (xa3)), (4, .int (xa4)), (5, .int (xa5))]) (pc := 47) C dX5_fitTall_47 (Nat.le_of_ble_eq_true rfl) rfl ?_
    refine g_aload_n (pc := 49) C dX5_fitTall_49 rfl 1 rfl ?_
    refine g_dup (pc := 50) C dX5_fitTall_50 rfl ?_
    refine gf_5_5 (pc := 51) C wf_X5_213 dX5_fitTall_51 xq5 ?_
    refine g_iload (pc := 54) C dX5_fitTall_54 0 rfl ?_
    refine g_if_eq (pc := 56) C dX5_fitTall_56 (tgt := 63) rfl (fun xq11 => ?_) (fun xq11 => ?_)
    · have h := iP xq11 h
      refine g_iconst (v := 0) (pc := 63) C dX5_fitTall_63 ci_0 ?_
      refine g_sub (lv' := [(0, .ref (yad y (xa0))), (1, .int (xa1)), (2, .int (xa2)), (3, .int (xa3)), (4, .int (xa4)), (5, .int (xa5)), (6, .int (xr10))]) C [1, 2, 3, 4, 5, 6, 0] rfl ?_
      exact b_X5_fitTall_64 C hr xk_28 xH28 xa0 xa1 xa2 xa3 xa4 xa5 xr10 0 (xσ8 xa0 5) xa0 xσ8 h
    · have h := iN xq11 h
      refine g_iconst (v := 1) (pc := 59) C dX5_fitTall_59 ci_1 ?_
      refine g_goto (pc := 60) C dX5_fitTall_60 (tgt := 64) rfl ?_
      refine g_sub (lv' := [(0, .ref (yad y (xa0))), (1, .int (xa1)), (2, .int (xa2)), (3, .int (xa3)), (4, .int (xa4)), (5, .int (xa5)), (6, .int (xr10))]) C [1, 2, 3, 4, 5, 6, 0] rfl ?_
      exact b_X5_fitTall_64 C hr xk_28 xH28 xa0 xa1 xa2 xa3 xa4 xa5 xr10 1 (xσ8 xa0 5) xa0 xσ8 h
theorem l_X5_fitTall_28 {x : XT} {y : YT} {Z : State → Prop} (C : Cx x y (AY y) RX5 cX5_fitTall 7 rm_X5_fitTall) {r : Unit} {σ' : Sto} (hr : RetV x y (AY y) 7 cX5_fitTall Z r σ') (n : Nat) (xa0 : Nat) (xa1 : Int32) (xa2 : Int32) (xa3 : Int32) (xa4 : Int32) (xa5 : Int32) (σ : Sto) (h : lo6 (F_X5_fitTall_b28) n xa0 xa1 xa2 xa3 xa4 xa5 σ = some (r, σ')) : GW x y (AY y) 7 Z 28 [(0, .ref (yad y (xa0))), (1, .int (xa1)), (2, .int (xa2)), (3, .int (xa3)), (4, .int (xa4)), (5, .int (xa5))] [] σ :=
  lo6_gw (G := fun xa0 xa1 xa2 xa3 xa4 xa5 σ => GW x y (AY y) 7 Z 28 [(0, .ref (yad y (xa0))), (1, .int (xa1)), (2, .int (xa2)), (3, .int (xa3)), (4, .int (xa4)), (5, .int (xa5))] [] σ) (fun xk xHk xa0 xa1 xa2 xa3 xa4 xa5 σ h => b_X5_fitTall_28 C hr xk xHk xa0 xa1 xa2 xa3 xa4 xa5 σ h) n xa0 xa1 xa2 xa3 xa4 xa5 σ h
set_option maxHeartbeats 4000000 in
set_option maxRecDepth 20000 in
theorem b_X5_fitTall_0 {x : XT} {y : YT} {Z : State → Prop} (C : Cx x y (AY y) RX5 cX5_fitTall 7 rm_X5_fitTall) {r : Unit} {σ' : Sto} (hr : RetV x y (AY y) 7 cX5_fitTall Z r σ') (xa0 : Nat) (xa1 : Int32) (xa2 : Int32) (σ : Sto) (h : F_X5_fitTall xa0 xa1 xa2 σ = some (r, σ')) : GW x y (AY y) 7 Z 0 [(0, .ref (yad y (xa0))), (1, .int (xa1)), (2, .int (xa2))] [] σ := by
  unfold F_X5_fitTall at h
  refine g_iload_n (pc := 0) C dX5_fitTall_0 rfl 2 rfl ?_
  refine g_iconst (v := 1) (pc := 1) C dX5_fitTall_1 ci_1 ?_
  obtain ⟨xr3, xσ1, xc2, h⟩ := iB h
  refine g_callSi (pc := 2) (As := [.int (xa2), .int (1)]) (rest := []) C dX5_fitTall_2 (fun l => c_X5_sitterAt l y _ _ _ _ _ xc2) cv_X5_93 ⟨rfl, rfl, Nat.le_of_ble_eq_true rfl, Nat.le_of_ble_eq_true rfl⟩ rfl (Nat.le_of_ble_eq_true rfl) ?_
  refine g_istore_n (i := 3) (lv' := [(3, .int (xr3)), (0, .ref (yad y (xa0))), (1, .int (xa1)), (2, .int (xa2))]) (pc := 5) C dX5_fitTall_5 rfl (Nat.le_of_ble_eq_true rfl) rfl ?_
  refine g_aload_n (pc := 6) C dX5_fitTall_6 rfl 1 rfl ?_
  obtain ⟨xq4, h⟩ := iC h
  have xq4 := keq xq4
  refine gf_5_0 (pc := 7) C wf_X5_9 dX5_fitTall_7 xq4 ?_
  refine g_iload_n (pc := 10) C dX5_fitTall_10 rfl 0 rfl ?_
  obtain ⟨xq5, h⟩ := iC h
  refine g_iald (pc := 11) C dX5_fitTall_11 rfl (ivp xq5 rfl) (j := xr3.toNatClampNeg) rfl ?_
  refine g_letI h (fun xv6 h => ?_)
  refine g_istore (i := 4) (lv' := [(4, .int (xv6)), (3, .int (xr3)), (0, .ref (yad y (xa0))), (1, .int (xa1)), (2, .int (xa2))]) (pc := 12) C dX5_fitTall_12 (Nat.le_of_ble_eq_true rfl) rfl ?_
  refine g_aload_n (pc := 14) C dX5_fitTall_14 rfl 2 rfl ?_
  refine g_iconst (v := 0) (pc := 15) C dX5_fitTall_15 ci_0 ?_
  refine gp_5_5 (pc := 16) C wf_X5_213 dX5_fitTall_16 xq4 ?_
  refine g_letS h (fun xσ7 h => ?_)
  refine g_aload_n (pc := 19) C dX5_fitTall_19 rfl 2 rfl ?_
  refine g_iconst (v := (-1)) (pc := 20) C dX5_fitTall_20 ci_m1 ?_
  refine gp_5_6 (pc := 21) C wf_X5_217 dX5_fitTall_21 xq4 ?_
  refine g_letS h (fun xσ8 h => ?_)
  refine g_bipush (v := 90) (pc := 24) C dX5_fitTall_24 cb_90 ?_
  refine g_istore (i := 5) (lv' := [(5, .int (90)), (4, .int (xv6)), (3, .int (xr3)), (0, .ref (yad y (xa0))), (1, .int (xa1)), (2, .int (xa2))]) (pc := 26) C dX5_fitTall_26 (Nat.le_of_ble_eq_true rfl) rfl ?_
  refine g_sub (lv' := [(0, .ref (yad y (xa0))), (1, .int (xa1)), (2, .int (xa2)), (3, .int (xr3)), (4, .int (xv6)), (5, .int (90))]) C [3, 4, 5, 2, 1, 0] rfl ?_
  exact l_X5_fitTall_28 C hr 1000 xa0 xa1 xa2 xr3 xv6 90 xσ8 h
theorem c_X5_fitTall (l : Launch) (y : YT) (xa0 : Nat) (xa1 : Int32) (xa2 : Int32) (σ σ' : Sto) (r : Unit) (h : F_X5_fitTall xa0 xa1 xa2 σ = some (r, σ')) : MV l y yX5_fitTall (Cond.code yX5_fitTall cX5_fitTall 7 none :: TT) rm_X5_fitTall [.ref (yad y (xa0)), .int (xa1), .int (xa2)] σ r σ' :=
  mkV (by decide) rfl rfl rfl (Nat.le_of_ble_eq_true rfl) (fun x Z C hr => b_X5_fitTall_0 C hr xa0 xa1 xa2 σ h)
def rm_X5_fits : Room := { frames := 6, cells := 0, slots := 0, locals := 141 }
def F_X5_fits (xa0 : Nat) (xa1 : Int32) (xa2 : Int32) (σ : Sto) : Option (Int32 × Sto) := ck (kd (xa0) == 5) (bnd (F_X5_isSitter (xa0) (xa2) σ) (fun xr4 xσ1 => bnd (F_X5_lacks (xa0) (xa1) (xr4) xσ1) (fun xr7 xσ5 => if (xr7) = 0 then bnd (F_X5_fitTall (xa0) (xa1) (xa2) xσ5) (fun xr11 xσ9 => some (xσ9 xa0 5, xσ9)) else bnd (F_X5_finding (xa0) (xr7) xσ5) (fun xr14 xσ12 => some (xr14, xσ12)))))
set_option maxHeartbeats 4000000 in
set_option maxRecDepth 20000 in
theorem b_X5_fits_0 {x : XT} {y : YT} {Z : State → Prop} (C : Cx x y (AY y) RX5 cX5_fits 4 rm_X5_fits) {r : Int32} {σ' : Sto} (hr : RetI x y (AY y) 4 cX5_fits Z r σ') (xa0 : Nat) (xa1 : Int32) (xa2 : Int32) (σ : Sto) (h : F_X5_fits xa0 xa1 xa2 σ = some (r, σ')) : GW x y (AY y) 4 Z 0 [(0, .ref (yad y (xa0))), (1, .int (xa1)), (2, .int (xa2))] [] σ := by
  unfold F_X5_fits at h
  refine g_aload_n (pc := 0) C dX5_fits_0 rfl 0 rfl ?_
  refine g_iload_n (pc := 1) C dX5_fits_1 rfl 1 rfl ?_
  refine g_aload_n (pc := 2) C dX5_fits_2 rfl 0 rfl ?_
  refine g_iload_n (pc := 3) C dX5_fits_3 rfl 2 rfl ?_
  obtain ⟨xq3, h⟩ := iC h
  have xq3 := keq xq3
  obtain ⟨xr4, xσ1, xc2, h⟩ := iB h
  refine g_callVi (pc := 4) (As := [.int (xa2)]) (rest := [.int (xa1), .ref (yad y (xa0))]) C dX5_fits_4 (fun l => c_X5_isSitter l y _ _ _ _ _ xc2) cv_X5_83 ⟨rfl, rfl, Nat.le_of_ble_eq_true rfl, Nat.le_of_ble_eq_true rfl⟩ (rv5 xq3) rfl (Nat.le_of_ble_eq_true rfl) ?_
  obtain ⟨xr7, xσ5, xc6, h⟩ := iB h
  refine g_callVi (pc := 7) (As := [.int (xa1), .int (xr4)]) (rest := []) C dX5_fits_7 (fun l => c_X5_lacks l y _ _ _ _ _ _ xc6) cv_X5_223 ⟨rfl, rfl, Nat.le_of_ble_eq_true rfl, Nat.le_of_ble_eq_true rfl⟩ (rv5 xq3) rfl (Nat.le_of_ble_eq_true rfl) ?_
  refine g_istore_n (i := 3) (lv' := [(3, .int (xr7)), (0, .ref (yad y (xa0))), (1, .int (xa1)), (2, .int (xa2))]) (pc := 10) C dX5_fits_10 rfl (Nat.le_of_ble_eq_true rfl) rfl ?_
  refine g_iload_n (pc := 11) C dX5_fits_11 rfl 0 rfl ?_
  refine g_if_eq (pc := 12) C dX5_fits_12 (tgt := 21) rfl (fun xq8 => ?_) (fun xq8 => ?_)
  · have h := iP xq8 h
    refine g_aload_n (pc := 21) C dX5_fits_21 rfl 1 rfl ?_
    refine g_iload_n (pc := 22) C dX5_fits_22 rfl 2 rfl ?_
    refine g_iload_n (pc := 23) C dX5_fits_23 rfl 3 rfl ?_
    obtain ⟨xr11, xσ9, xc10, h⟩ := iB h
    refine g_callVv (pc := 24) (As := [.int (xa1), .int (xa2)]) (rest := []) C dX5_fits_24 (fun l => c_X5_fitTall l y _ _ _ _ _ _ xc10) cv_X5_227 ⟨rfl, rfl, Nat.le_of_ble_eq_true rfl, Nat.le_of_ble_eq_true rfl⟩ (rv5 xq3) rfl (Nat.le_of_ble_eq_true rfl) ?_
    refine g_aload_n (pc := 27) C dX5_fits_27 rfl 1 rfl ?_
    refine gf_5_5 (pc := 28) C wf_X5_213 dX5_fits_28 xq3 ?_
    exact rtI hr dX5_fits_31 h
  · have h := iN xq8 h
    refine g_aload_n (pc := 15) C dX5_fits_15 rfl 1 rfl ?_
    refine g_iload_n (pc := 16) C dX5_fits_16 rfl 0 rfl ?_
    obtain ⟨xr14, xσ12, xc13, h⟩ := iB h
    refine g_callVi (pc := 17) (As := [.int (xr7)]) (rest := []) C dX5_fits_17 (fun l => c_X5_finding l y _ _ _ _ _ xc13) cv_X5_66 ⟨rfl, rfl, Nat.le_of_ble_eq_true rfl, Nat.le_of_ble_eq_true rfl⟩ (rv5 xq3) rfl (Nat.le_of_ble_eq_true rfl) ?_
    exact rtI hr dX5_fits_20 h
theorem c_X5_fits (l : Launch) (y : YT) (xa0 : Nat) (xa1 : Int32) (xa2 : Int32) (σ σ' : Sto) (r : Int32) (h : F_X5_fits xa0 xa1 xa2 σ = some (r, σ')) : MI l y yX5_fits (Cond.code yX5_fits cX5_fits 4 (some .int) :: TT) rm_X5_fits [.ref (yad y (xa0)), .int (xa1), .int (xa2)] σ r σ' :=
  mkI (by decide) rfl rfl rfl (Nat.le_of_ble_eq_true rfl) (fun x Z C hr => b_X5_fits_0 C hr xa0 xa1 xa2 σ h)
def rm_X5_tall : Room := { frames := 6, cells := 0, slots := 0, locals := 141 }
def F_X5_tall (xa0 : Nat) (xa1 : Int32) (xa2 : Int32) (σ : Sto) : Option (Int32 × Sto) := ck (kd (xa0) == 5) (bnd (F_X5_isSitter (xa0) (xa2) σ) (fun xr4 xσ1 => bnd (F_X5_lacks (xa0) (xa1) (xr4) xσ1) (fun xr7 xσ5 => if (xr7) = 0 then bnd (F_X5_fitTall (xa0) (xa1) (xa2) xσ5) (fun xr11 xσ9 => bnd (F_X5_orNone (xa0) (xσ9 xa0 6) xσ9) (fun xr14 xσ12 => some (xr14, xσ12))) else bnd (F_X5_finding (xa0) (xr7) xσ5) (fun xr17 xσ15 => some (xr17, xσ15)))))
set_option maxHeartbeats 4000000 in
set_option maxRecDepth 20000 in
theorem b_X5_tall_0 {x : XT} {y : YT} {Z : State → Prop} (C : Cx x y (AY y) RX5 cX5_tall 4 rm_X5_tall) {r : Int32} {σ' : Sto} (hr : RetI x y (AY y) 4 cX5_tall Z r σ') (xa0 : Nat) (xa1 : Int32) (xa2 : Int32) (σ : Sto) (h : F_X5_tall xa0 xa1 xa2 σ = some (r, σ')) : GW x y (AY y) 4 Z 0 [(0, .ref (yad y (xa0))), (1, .int (xa1)), (2, .int (xa2))] [] σ := by
  unfold F_X5_tall at h
  refine g_aload_n (pc := 0) C dX5_tall_0 rfl 0 rfl ?_
  refine g_iload_n (pc := 1) C dX5_tall_1 rfl 1 rfl ?_
  refine g_aload_n (pc := 2) C dX5_tall_2 rfl 0 rfl ?_
  refine g_iload_n (pc := 3) C dX5_tall_3 rfl 2 rfl ?_
  obtain ⟨xq3, h⟩ := iC h
  have xq3 := keq xq3
  obtain ⟨xr4, xσ1, xc2, h⟩ := iB h
  refine g_callVi (pc := 4) (As := [.int (xa2)]) (rest := [.int (xa1), .ref (yad y (xa0))]) C dX5_tall_4 (fun l => c_X5_isSitter l y _ _ _ _ _ xc2) cv_X5_83 ⟨rfl, rfl, Nat.le_of_ble_eq_true rfl, Nat.le_of_ble_eq_true rfl⟩ (rv5 xq3) rfl (Nat.le_of_ble_eq_true rfl) ?_
  obtain ⟨xr7, xσ5, xc6, h⟩ := iB h
  refine g_callVi (pc := 7) (As := [.int (xa1), .int (xr4)]) (rest := []) C dX5_tall_7 (fun l => c_X5_lacks l y _ _ _ _ _ _ xc6) cv_X5_223 ⟨rfl, rfl, Nat.le_of_ble_eq_true rfl, Nat.le_of_ble_eq_true rfl⟩ (rv5 xq3) rfl (Nat.le_of_ble_eq_true rfl) ?_
  refine g_istore_n (i := 3) (lv' := [(3, .int (xr7)), (0, .ref (yad y (xa0))), (1, .int (xa1)), (2, .int (xa2))]) (pc := 10) C dX5_tall_10 rfl (Nat.le_of_ble_eq_true rfl) rfl ?_
  refine g_iload_n (pc := 11) C dX5_tall_11 rfl 0 rfl ?_
  refine g_if_eq (pc := 12) C dX5_tall_12 (tgt := 21) rfl (fun xq8 => ?_) (fun xq8 => ?_)
  · have h := iP xq8 h
    refine g_aload_n (pc := 21) C dX5_tall_21 rfl 1 rfl ?_
    refine g_iload_n (pc := 22) C dX5_tall_22 rfl 2 rfl ?_
    refine g_iload_n (pc := 23) C dX5_tall_23 rfl 3 rfl ?_
    obtain ⟨xr11, xσ9, xc10, h⟩ := iB h
    refine g_callVv (pc := 24) (As := [.int (xa1), .int (xa2)]) (rest := []) C dX5_tall_24 (fun l => c_X5_fitTall l y _ _ _ _ _ _ xc10) cv_X5_227 ⟨rfl, rfl, Nat.le_of_ble_eq_true rfl, Nat.le_of_ble_eq_true rfl⟩ (rv5 xq3) rfl (Nat.le_of_ble_eq_true rfl) ?_
    refine g_aload_n (pc := 27) C dX5_tall_27 rfl 1 rfl ?_
    refine g_aload_n (pc := 28) C dX5_tall_28 rfl 1 rfl ?_
    refine gf_5_6 (pc := 29) C wf_X5_217 dX5_tall_29 xq3 ?_
    obtain ⟨xr14, xσ12, xc13, h⟩ := iB h
    refine g_callVi (pc := 32) (As := [.int (xσ9 xa0 6)]) (rest := []) C dX5_tall_32 (fun l => c_X5_orNone l y _ _ _ _ _ xc13) cv_X5_181 ⟨rfl, rfl, Nat.le_of_ble_eq_true rfl, Nat.le_of_ble_eq_true rfl⟩ (rv5 xq3) rfl (Nat.le_of_ble_eq_true rfl) ?_
    exact rtI hr dX5_tall_35 h
  · have h := iN xq8 h
    refine g_aload_n (pc := 15) C dX5_tall_15 rfl 1 rfl ?_
    refine g_iload_n (pc := 16) C dX5_tall_16 rfl 0 rfl ?_
    obtain ⟨xr17, xσ15, xc16, h⟩ := iB h
    refine g_callVi (pc := 17) (As := [.int (xr7)]) (rest := []) C dX5_tall_17 (fun l => c_X5_finding l y _ _ _ _ _ xc16) cv_X5_66 ⟨rfl, rfl, Nat.le_of_ble_eq_true rfl, Nat.le_of_ble_eq_true rfl⟩ (rv5 xq3) rfl (Nat.le_of_ble_eq_true rfl) ?_
    exact rtI hr dX5_tall_20 h
theorem c_X5_tall (l : Launch) (y : YT) (xa0 : Nat) (xa1 : Int32) (xa2 : Int32) (σ σ' : Sto) (r : Int32) (h : F_X5_tall xa0 xa1 xa2 σ = some (r, σ')) : MI l y yX5_tall (Cond.code yX5_tall cX5_tall 4 (some .int) :: TT) rm_X5_tall [.ref (yad y (xa0)), .int (xa1), .int (xa2)] σ r σ' :=
  mkI (by decide) rfl rfl rfl (Nat.le_of_ble_eq_true rfl) (fun x Z C hr => b_X5_tall_0 C hr xa0 xa1 xa2 σ h)

/-! methods, by program: what each does to the store (F_), its walk (b_), its contract (c_): X4_tear, X4_count, X4_status -/
def rm_X4_tear : Room := { frames := 0, cells := 0, slots := 0, locals := 0 }
def F_X4_tear (xa0 : Nat) (σ : Sto) : Option (Int32 × Sto) := ck (kd (xa0) == 4) (if (σ xa0 3) = 0 then lts (up2 σ (xa0) 3 (0)) (fun xσ3 => some (0, xσ3)) else lts (up2 σ (xa0) 3 (0)) (fun xσ4 => some (1, xσ4)))
set_option maxHeartbeats 4000000 in
set_option maxRecDepth 20000 in
theorem b_X4_tear_0 {x : XT} {y : YT} {Z : State → Prop} (C : Cx x y (AY y) RX4 cX4_tear 2 rm_X4_tear) {r : Int32} {σ' : Sto} (hr : RetI x y (AY y) 2 cX4_tear Z r σ') (xa0 : Nat) (σ : Sto) (h : F_X4_tear xa0 σ = some (r, σ')) : GW x y (AY y) 2 Z 0 [(0, .ref (yad y (xa0)))] [] σ := by
  unfold F_X4_tear at h
  refine g_aload_n (pc := 0) C dX4_tear_0 rfl 0 rfl ?_
  obtain ⟨xq1, h⟩ := iC h
  have xq1 := keq xq1
  refine gf_4_3 (pc := 1) C wf_X4_22 dX4_tear_1 xq1 ?_
  refine g_if_eq (pc := 4) C dX4_tear_4 (tgt := 11) rfl (fun xq2 => ?_) (fun xq2 => ?_)
  · have h := iP xq2 h
    refine g_iconst (v := 0) (pc := 11) C dX4_tear_11 ci_0 ?_
    refine g_istore_n (i := 1) (lv' := [(1, .int (0)), (0, .ref (yad y (xa0)))]) (pc := 12) C dX4_tear_12 rfl (Nat.le_of_ble_eq_true rfl) rfl ?_
    refine g_aload_n (pc := 13) C dX4_tear_13 rfl 1 rfl ?_
    refine g_iconst (v := 0) (pc := 14) C dX4_tear_14 ci_0 ?_
    refine gp_4_3 (pc := 15) C wf_X4_22 dX4_tear_15 xq1 (by decide) ?_
    refine g_letS h (fun xσ3 h => ?_)
    refine g_iload_n (pc := 18) C dX4_tear_18 rfl 0 rfl ?_
    exact rtI hr dX4_tear_19 h
  · have h := iN xq2 h
    refine g_iconst (v := 1) (pc := 7) C dX4_tear_7 ci_1 ?_
    refine g_goto (pc := 8) C dX4_tear_8 (tgt := 12) rfl ?_
    refine g_istore_n (i := 1) (lv' := [(1, .int (1)), (0, .ref (yad y (xa0)))]) (pc := 12) C dX4_tear_12 rfl (Nat.le_of_ble_eq_true rfl) rfl ?_
    refine g_aload_n (pc := 13) C dX4_tear_13 rfl 1 rfl ?_
    refine g_iconst (v := 0) (pc := 14) C dX4_tear_14 ci_0 ?_
    refine gp_4_3 (pc := 15) C wf_X4_22 dX4_tear_15 xq1 (by decide) ?_
    refine g_letS h (fun xσ4 h => ?_)
    refine g_iload_n (pc := 18) C dX4_tear_18 rfl 0 rfl ?_
    exact rtI hr dX4_tear_19 h
theorem c_X4_tear (l : Launch) (y : YT) (xa0 : Nat) (σ σ' : Sto) (r : Int32) (h : F_X4_tear xa0 σ = some (r, σ')) : MI l y yX4_tear (Cond.code yX4_tear cX4_tear 2 (some .int) :: TT) rm_X4_tear [.ref (yad y (xa0))] σ r σ' :=
  mkI (by decide) rfl rfl rfl (Nat.le_of_ble_eq_true rfl) (fun x Z C hr => b_X4_tear_0 C hr xa0 σ h)
def rm_X4_count : Room := { frames := 4, cells := 0, slots := 0, locals := 88 }
def F_X4_count (xa0 : Nat) (xa1 : Int32) (σ : Sto) : Option (Int32 × Sto) := if xa1 = 0 then ck (kd (xa0) == 4) (some (σ 1 4, σ)) else if xa1 = 1 then ck (kd (xa0) == 4) (some (σ 1 6, σ)) else if xa1 = 2 then ck (kd (xa0) == 4) (bnd (F_X0_sumOf (1) 5 σ) (fun xr9 xσ7 => some (xr9, xσ7))) else if xa1 = 3 then ck (kd (xa0) == 4) (bnd (F_X0_sumOf (1) 6 σ) (fun xr14 xσ12 => some (xr14, xσ12))) else if xa1 = 4 then ck (kd (xa0) == 4) (some (σ 1 3, σ)) else if xa1 = 5 then ck (kd (xa0) == 4) (some (σ 37 1, σ)) else if xa1 = 6 then ck (kd (xa0) == 4) (some (σ 1 5, σ)) else if xa1 = 7 then ck (kd (xa0) == 4) (bnd (F_X0_spotsInUse (1) σ) (fun xr25 xσ23 => some (xr25, xσ23))) else ck (kd (xa0) == 4) (bnd (F_X4_finding (xa0) (-1000001) σ) (fun xr29 xσ26 => some (xr29, xσ26)))
set_option maxHeartbeats 4000000 in
set_option maxRecDepth 20000 in
theorem b_X4_count_0 {x : XT} {y : YT} {Z : State → Prop} (C : Cx x y (AY y) RX4 cX4_count 2 rm_X4_count) {r : Int32} {σ' : Sto} (hr : RetI x y (AY y) 2 cX4_count Z r σ') (xa0 : Nat) (xa1 : Int32) (σ : Sto) (h : F_X4_count xa0 xa1 σ = some (r, σ')) : GW x y (AY y) 2 Z 0 [(0, .ref (yad y (xa0))), (1, .int (xa1))] [] σ := by
  unfold F_X4_count at h
  refine g_iload_n (pc := 0) C dX4_count_0 rfl 1 rfl ?_
  by_cases xq1 : xa1 = 0
  · have h := iP xq1 h
    refine g_tabIn (pc := 1) C dX4_count_1 (v := 0) (tgt := 48) (by decide) (by decide) rfl rfl xq1 ?_
    refine g_aload_n (pc := 48) C dX4_count_48 rfl 0 rfl ?_
    obtain ⟨xq2, h⟩ := iC h
    have xq2 := keq xq2
    refine gf_4_0 (pc := 49) C wf_X4_10 dX4_count_49 xq2 ?_
    refine gf_0_4 (pc := 52) C wf_X4_116 dX4_count_52 rfl ?_
    exact rtI hr dX4_count_55 h
  · have h := iN xq1 h
    by_cases xq3 : xa1 = 1
    · have h := iP xq3 h
      refine g_tabIn (pc := 1) C dX4_count_1 (v := 1) (tgt := 56) (by decide) (by decide) rfl rfl xq3 ?_
      refine g_aload_n (pc := 56) C dX4_count_56 rfl 0 rfl ?_
      obtain ⟨xq4, h⟩ := iC h
      have xq4 := keq xq4
      refine gf_4_0 (pc := 57) C wf_X4_10 dX4_count_57 xq4 ?_
      refine gf_0_6 (pc := 60) C wf_X4_155 dX4_count_60 rfl ?_
      exact rtI hr dX4_count_63 h
    · have h := iN xq3 h
      by_cases xq5 : xa1 = 2
      · have h := iP xq5 h
        refine g_tabIn (pc := 1) C dX4_count_1 (v := 2) (tgt := 64) (by decide) (by decide) rfl rfl xq5 ?_
        refine g_aload_n (pc := 64) C dX4_count_64 rfl 0 rfl ?_
        obtain ⟨xq6, h⟩ := iC h
        have xq6 := keq xq6
        refine gf_4_0 (pc := 65) C wf_X4_10 dX4_count_65 xq6 ?_
        refine g_iconst (v := 5) (pc := 68) C dX4_count_68 ci_5 ?_
        obtain ⟨xr9, xσ7, xc8, h⟩ := iB h
        refine g_callVi (pc := 69) (As := [.int (5)]) (rest := []) C dX4_count_69 (fun l => c_X0_sumOf l y _ _ _ _ _ xc8) cv_X4_125 ⟨rfl, rfl, Nat.le_of_ble_eq_true rfl, Nat.le_of_ble_eq_true rfl⟩ (rv0 rfl) rfl (Nat.le_of_ble_eq_true rfl) ?_
        exact rtI hr dX4_count_72 h
      · have h := iN xq5 h
        by_cases xq10 : xa1 = 3
        · have h := iP xq10 h
          refine g_tabIn (pc := 1) C dX4_count_1 (v := 3) (tgt := 73) (by decide) (by decide) rfl rfl xq10 ?_
          refine g_aload_n (pc := 73) C dX4_count_73 rfl 0 rfl ?_
          obtain ⟨xq11, h⟩ := iC h
          have xq11 := keq xq11
          refine gf_4_0 (pc := 74) C wf_X4_10 dX4_count_74 xq11 ?_
          refine g_bipush (v := 6) (pc := 77) C dX4_count_77 cb_6 ?_
          obtain ⟨xr14, xσ12, xc13, h⟩ := iB h
          refine g_callVi (pc := 79) (As := [.int (6)]) (rest := []) C dX4_count_79 (fun l => c_X0_sumOf l y _ _ _ _ _ xc13) cv_X4_125 ⟨rfl, rfl, Nat.le_of_ble_eq_true rfl, Nat.le_of_ble_eq_true rfl⟩ (rv0 rfl) rfl (Nat.le_of_ble_eq_true rfl) ?_
          exact rtI hr dX4_count_82 h
        · have h := iN xq10 h
          by_cases xq15 : xa1 = 4
          · have h := iP xq15 h
            refine g_tabIn (pc := 1) C dX4_count_1 (v := 4) (tgt := 83) (by decide) (by decide) rfl rfl xq15 ?_
            refine g_aload_n (pc := 83) C dX4_count_83 rfl 0 rfl ?_
            obtain ⟨xq16, h⟩ := iC h
            have xq16 := keq xq16
            refine gf_4_0 (pc := 84) C wf_X4_10 dX4_count_84 xq16 ?_
            refine gf_0_3 (pc := 87) C wf_X4_168 dX4_count_87 rfl ?_
            exact rtI hr dX4_count_90 h
          · have h := iN xq15 h
            by_cases xq17 : xa1 = 5
            · have h := iP xq17 h
              refine g_tabIn (pc := 1) C dX4_count_1 (v := 5) (tgt := 91) (by decide) (by decide) rfl rfl xq17 ?_
              refine g_aload_n (pc := 91) C dX4_count_91 rfl 0 rfl ?_
              obtain ⟨xq18, h⟩ := iC h
              have xq18 := keq xq18
              refine gf_4_4 (pc := 92) C wf_X4_29 dX4_count_92 xq18 ?_
              refine gf_3_1 (pc := 95) C wf_X4_214 dX4_count_95 rfl ?_
              exact rtI hr dX4_count_98 h
            · have h := iN xq17 h
              by_cases xq19 : xa1 = 6
              · have h := iP xq19 h
                refine g_tabIn (pc := 1) C dX4_count_1 (v := 6) (tgt := 99) (by decide) (by decide) rfl rfl xq19 ?_
                refine g_aload_n (pc := 99) C dX4_count_99 rfl 0 rfl ?_
                obtain ⟨xq20, h⟩ := iC h
                have xq20 := keq xq20
                refine gf_4_0 (pc := 100) C wf_X4_10 dX4_count_100 xq20 ?_
                refine gf_0_5 (pc := 103) C wf_X4_205 dX4_count_103 rfl ?_
                exact rtI hr dX4_count_106 h
              · have h := iN xq19 h
                by_cases xq21 : xa1 = 7
                · have h := iP xq21 h
                  refine g_tabIn (pc := 1) C dX4_count_1 (v := 7) (tgt := 107) (by decide) (by decide) rfl rfl xq21 ?_
                  refine g_aload_n (pc := 107) C dX4_count_107 rfl 0 rfl ?_
                  obtain ⟨xq22, h⟩ := iC h
                  have xq22 := keq xq22
                  refine gf_4_0 (pc := 108) C wf_X4_10 dX4_count_108 xq22 ?_
                  obtain ⟨xr25, xσ23, xc24, h⟩ := iB h
                  refine g_callVi (pc := 111) (As := []) (rest := []) C dX4_count_111 (fun l => c_X0_spotsInUse l y _ _ _ _ xc24) cv_X4_264 ⟨rfl, rfl, Nat.le_of_ble_eq_true rfl, Nat.le_of_ble_eq_true rfl⟩ (rv0 rfl) rfl (Nat.le_of_ble_eq_true rfl) ?_
                  exact rtI hr dX4_count_114 h
                · have h := iN xq21 h
                  have xe0 : ¬ xa1.toInt = 0 := tne xq1
                  have xe1 : ¬ xa1.toInt = 1 := tne xq3
                  have xe2 : ¬ xa1.toInt = 2 := tne xq5
                  have xe3 : ¬ xa1.toInt = 3 := tne xq10
                  have xe4 : ¬ xa1.toInt = 4 := tne xq15
                  have xe5 : ¬ xa1.toInt = 5 := tne xq17
                  have xe6 : ¬ xa1.toInt = 6 := tne xq19
                  have xe7 : ¬ xa1.toInt = 7 := tne xq21
                  refine g_tabOut (pc := 1) C dX4_count_1 (tgt := 115) (by omega) rfl ?_
                  refine g_aload_n (pc := 115) C dX4_count_115 rfl 0 rfl ?_
                  refine g_ldc (v := (-1000001)) (pc := 116) C dX4_count_116 wk_X4_56 ?_
                  obtain ⟨xq28, h⟩ := iC h
                  have xq28 := keq xq28
                  obtain ⟨xr29, xσ26, xc27, h⟩ := iB h
                  refine g_callVi (pc := 118) (As := [.int ((-1000001))]) (rest := []) C dX4_count_118 (fun l => c_X4_finding l y _ _ _ _ _ xc27) cv_X4_57 ⟨rfl, rfl, Nat.le_of_ble_eq_true rfl, Nat.le_of_ble_eq_true rfl⟩ (rv4 xq28) rfl (Nat.le_of_ble_eq_true rfl) ?_
                  exact rtI hr dX4_count_121 h
theorem c_X4_count (l : Launch) (y : YT) (xa0 : Nat) (xa1 : Int32) (σ σ' : Sto) (r : Int32) (h : F_X4_count xa0 xa1 σ = some (r, σ')) : MI l y yX4_count (Cond.code yX4_count cX4_count 2 (some .int) :: TT) rm_X4_count [.ref (yad y (xa0)), .int (xa1)] σ r σ' :=
  mkI (by decide) rfl rfl rfl (Nat.le_of_ble_eq_true rfl) (fun x Z C hr => b_X4_count_0 C hr xa0 xa1 σ h)
def rm_X4_status : Room := { frames := 1, cells := 0, slots := 0, locals := 22 }
def F_X4_status_b33 (xk_33 : Nat → Int32 → Int32 → Sto → Option (Int32 × Sto)) (xa0 : Nat) (xa2 : Int32) (xa3 : Int32) (σ : Sto) : Option (Int32 × Sto) := if 7 ≤ xa3 then some (xa2, σ) else ck (kd (xa0) == 4) (ck (inr (xa3) (7)) (lti (xa2 + (σ 48 (xa3.toNatClampNeg))) (fun xv4 => xk_33 xa0 xv4 (xa3 + 1) σ)))
def F_X4_status (xa0 : Nat) (xa1 : Int32) (σ : Sto) : Option (Int32 × Sto) := if xa1 < (-1) then ck (kd (xa0) == 4) (bnd (F_X4_finding (xa0) (-1000001) σ) (fun xr5 xσ2 => some (xr5, xσ2))) else if xa1 < 7 then if (xa1) < 0 then lo3 (F_X4_status_b33) 1000 xa0 0 0 σ else ck (kd (xa0) == 4) (ck (inr (xa1) (7)) (some (σ 48 (xa1.toNatClampNeg), σ))) else ck (kd (xa0) == 4) (bnd (F_X4_finding (xa0) (-1000001) σ) (fun xr13 xσ10 => some (xr13, xσ10)))
set_option maxHeartbeats 4000000 in
set_option maxRecDepth 20000 in
theorem b_X4_status_33 {x : XT} {y : YT} {Z : State → Prop} (C : Cx x y (AY y) RX4 cX4_status 4 rm_X4_status) {r : Int32} {σ' : Sto} (hr : RetI x y (AY y) 4 cX4_status Z r σ') (xk_33 : Nat → Int32 → Int32 → Sto → Option (Int32 × Sto)) (xH33 : ∀ (xa0 : Nat) (xa2 : Int32) (xa3 : Int32) (σ : Sto), xk_33 xa0 xa2 xa3 σ = some (r, σ') → GW x y (AY y) 4 Z 33 [(0, .ref (yad y (xa0))), (2, .int (xa2)), (3, .int (xa3))] [] σ) (xa0 : Nat) (xa2 : Int32) (xa3 : Int32) (σ : Sto) (h : F_X4_status_b33 xk_33 xa0 xa2 xa3 σ = some (r, σ')) : GW x y (AY y) 4 Z 33 [(0, .ref (yad y (xa0))), (2, .int (xa2)), (3, .int (xa3))] [] σ := by
  unfold F_X4_status_b33 at h
  refine g_iload_n (pc := 33) C dX4_status_33 rfl 2 rfl ?_
  refine g_bipush (v := 7) (pc := 34) C dX4_status_34 cb_7 ?_
  refine g_icmp_ge (pc := 36) C dX4_status_36 (tgt := 54) rfl (fun xq1 => ?_) (fun xq1 => ?_)
  · have h := iP xq1 h
    refine g_iload_n (pc := 54) C dX4_status_54 rfl 1 rfl ?_
    exact rtI hr dX4_status_55 h
  · have h := iN xq1 h
    refine g_iload_n (pc := 39) C dX4_status_39 rfl 1 rfl ?_
    refine g_aload_n (pc := 40) C dX4_status_40 rfl 0 rfl ?_
    obtain ⟨xq2, h⟩ := iC h
    have xq2 := keq xq2
    refine gf_4_6 (pc := 41) C wf_X4_40 dX4_status_41 xq2 ?_
    refine g_iload_n (pc := 44) C dX4_status_44 rfl 2 rfl ?_
    obtain ⟨xq3, h⟩ := iC h
    refine g_iald (pc := 45) C dX4_status_45 rfl (ivp xq3 rfl) (j := xa3.toNatClampNeg) rfl ?_
    refine g_iadd (pc := 46) C dX4_status_46 ?_
    refine g_letI h (fun xv4 h => ?_)
    refine g_istore_n (i := 2) (lv' := [(2, .int (xv4)), (0, .ref (yad y (xa0))), (3, .int (xa3))]) (pc := 47) C dX4_status_47 rfl (Nat.le_of_ble_eq_true rfl) rfl ?_
    refine g_iinc (lv' := [(3, .int (xa3 + 1)), (2, .int (xv4)), (0, .ref (yad y (xa0)))]) (w := xa3 + 1) (pc := 48) C dX4_status_48 (k := 2) rfl rfl (Nat.le_of_ble_eq_true rfl) rfl ?_
    refine g_goto (pc := 51) C dX4_status_51 (tgt := 33) rfl ?_
    refine g_sub (lv' := [(0, .ref (yad y (xa0))), (2, .int (xv4)), (3, .int (xa3 + 1))]) C [2, 1, 0] rfl ?_
    exact xH33 xa0 xv4 (xa3 + 1) σ h
theorem l_X4_status_33 {x : XT} {y : YT} {Z : State → Prop} (C : Cx x y (AY y) RX4 cX4_status 4 rm_X4_status) {r : Int32} {σ' : Sto} (hr : RetI x y (AY y) 4 cX4_status Z r σ') (n : Nat) (xa0 : Nat) (xa2 : Int32) (xa3 : Int32) (σ : Sto) (h : lo3 (F_X4_status_b33) n xa0 xa2 xa3 σ = some (r, σ')) : GW x y (AY y) 4 Z 33 [(0, .ref (yad y (xa0))), (2, .int (xa2)), (3, .int (xa3))] [] σ :=
  lo3_gw (G := fun xa0 xa2 xa3 σ => GW x y (AY y) 4 Z 33 [(0, .ref (yad y (xa0))), (2, .int (xa2)), (3, .int (xa3))] [] σ) (fun xk xHk xa0 xa2 xa3 σ h => b_X4_status_33 C hr xk xHk xa0 xa2 xa3 σ h) n xa0 xa2 xa3 σ h
set_option maxHeartbeats 4000000 in
set_option maxRecDepth 20000 in
theorem b_X4_status_0 {x : XT} {y : YT} {Z : State → Prop} (C : Cx x y (AY y) RX4 cX4_status 4 rm_X4_status) {r : Int32} {σ' : Sto} (hr : RetI x y (AY y) 4 cX4_status Z r σ') (xa0 : Nat) (xa1 : Int32) (σ : Sto) (h : F_X4_status xa0 xa1 σ = some (r, σ')) : GW x y (AY y) 4 Z 0 [(0, .ref (yad y (xa0))), (1, .int (xa1))] [] σ := by
  unfold F_X4_status at h
  refine g_iload_n (pc := 0) C dX4_status_0 rfl 1 rfl ?_
  refine g_iconst (v := (-1)) (pc := 1) C dX4_status_1 ci_m1 ?_
  refine g_icmp_lt (pc := 2) C dX4_status_2 (tgt := 11) rfl (fun xq1 => ?_) (fun xq1 => ?_)
  · have h := iP xq1 h
    refine g_aload_n (pc := 11) C dX4_status_11 rfl 0 rfl ?_
    refine g_ldc (v := (-1000001)) (pc := 12) C dX4_status_12 wk_X4_56 ?_
    obtain ⟨xq4, h⟩ := iC h
    have xq4 := keq xq4
    obtain ⟨xr5, xσ2, xc3, h⟩ := iB h
    refine g_callVi (pc := 14) (As := [.int ((-1000001))]) (rest := []) C dX4_status_14 (fun l => c_X4_finding l y _ _ _ _ _ xc3) cv_X4_57 ⟨rfl, rfl, Nat.le_of_ble_eq_true rfl, Nat.le_of_ble_eq_true rfl⟩ (rv4 xq4) rfl (Nat.le_of_ble_eq_true rfl) ?_
    exact rtI hr dX4_status_17 h
  · have h := iN xq1 h
    refine g_iload_n (pc := 5) C dX4_status_5 rfl 1 rfl ?_
    refine g_bipush (v := 7) (pc := 6) C dX4_status_6 cb_7 ?_
    refine g_icmp_lt (pc := 8) C dX4_status_8 (tgt := 18) rfl (fun xq6 => ?_) (fun xq6 => ?_)
    · have h := iP xq6 h
      refine g_iload_n (pc := 18) C dX4_status_18 rfl 1 rfl ?_
      refine g_if_lt (pc := 19) C dX4_status_19 (tgt := 29) rfl (fun xq7 => ?_) (fun xq7 => ?_)
      · have h := iP xq7 h
        refine g_iconst (v := 0) (pc := 29) C dX4_status_29 ci_0 ?_
        refine g_istore_n (i := 2) (lv' := [(2, .int (0)), (0, .ref (yad y (xa0))), (1, .int (xa1))]) (pc := 30) C dX4_status_30 rfl (Nat.le_of_ble_eq_true rfl) rfl ?_
        refine g_iconst (v := 0) (pc := 31) C dX4_status_31 ci_0 ?_
        refine g_istore_n (i := 3) (lv' := [(3, .int (0)), (2, .int (0)), (0, .ref (yad y (xa0))), (1, .int (xa1))]) (pc := 32) C dX4_status_32 rfl (Nat.le_of_ble_eq_true rfl) rfl ?_
        refine g_sub (lv' := [(0, .ref (yad y (xa0))), (2, .int (0)), (3, .int (0))]) C [2, 1, 0] rfl ?_
        exact l_X4_status_33 C hr 1000 xa0 0 0 σ h
      · have h := iN xq7 h
        refine g_aload_n (pc := 22) C dX4_status_22 rfl 0 rfl ?_
        obtain ⟨xq8, h⟩ := iC h
        have xq8 := keq xq8
        refine gf_4_6 (pc := 23) C wf_X4_40 dX4_status_23 xq8 ?_
        refine g_iload_n (pc := 26) C dX4_status_26 rfl 1 rfl ?_
        obtain ⟨xq9, h⟩ := iC h
        refine g_iald (pc := 27) C dX4_status_27 rfl (ivp xq9 rfl) (j := xa1.toNatClampNeg) rfl ?_
        exact rtI hr dX4_status_28 h
    · have h := iN xq6 h
      refine g_aload_n (pc := 11) C dX4_status_11 rfl 0 rfl ?_
      refine g_ldc (v := (-1000001)) (pc := 12) C dX4_status_12 wk_X4_56 ?_
      obtain ⟨xq12, h⟩ := iC h
      have xq12 := keq xq12
      obtain ⟨xr13, xσ10, xc11, h⟩ := iB h
      refine g_callVi (pc := 14) (As := [.int ((-1000001))]) (rest := []) C dX4_status_14 (fun l => c_X4_finding l y _ _ _ _ _ xc11) cv_X4_57 ⟨rfl, rfl, Nat.le_of_ble_eq_true rfl, Nat.le_of_ble_eq_true rfl⟩ (rv4 xq12) rfl (Nat.le_of_ble_eq_true rfl) ?_
      exact rtI hr dX4_status_17 h
theorem c_X4_status (l : Launch) (y : YT) (xa0 : Nat) (xa1 : Int32) (σ σ' : Sto) (r : Int32) (h : F_X4_status xa0 xa1 σ = some (r, σ')) : MI l y yX4_status (Cond.code yX4_status cX4_status 4 (some .int) :: TT) rm_X4_status [.ref (yad y (xa0)), .int (xa1)] σ r σ' :=
  mkI (by decide) rfl rfl rfl (Nat.le_of_ble_eq_true rfl) (fun x Z C hr => b_X4_status_0 C hr xa0 xa1 σ h)

/-! methods, by program: what each does to the store (F_), its walk (b_), its contract (c_): J6_bitCount_0f7a4, X2_begin, X2_become, X2_mostOf, X2_part, X2_putPart, X2_kindAbove, X2_isOfOrUnder, X2_off, X2_mayBeOff, X2_isShut, X2_isSmiling, X2_isShining, X1_isWidth, X1_isMissing, X1_begin, X1_hasNumber, X1_hasRange, X1_number, X1_putNumber -/
def rm_J6_bitCount_0f7a4 : Room := { frames := 0, cells := 0, slots := 0, locals := 0 }
def F_J6_bitCount_0f7a4 (xa0 : Int32) (σ : Sto) : Option (Int32 × Sto) := lti (xa0 - ((ius xa0 1) &&& 1431655765)) (fun xv1 => lti ((xv1 &&& 858993459) + ((ius xv1 2) &&& 858993459)) (fun xv2 => lti ((xv2 + (ius xv2 4)) &&& 252645135) (fun xv3 => lti (xv3 + (ius xv3 8)) (fun xv4 => lti (xv4 + (ius xv4 16)) (fun xv5 => some (xv5 &&& 63, σ))))))
set_option maxHeartbeats 4000000 in
set_option maxRecDepth 20000 in
theorem b_J6_bitCount_0f7a4_0 {x : XT} {y : YT} {Z : State → Prop} (C : Cx x y (AY y) RJ6 cJ6_bitCount_0f7a4 1 rm_J6_bitCount_0f7a4) {r : Int32} {σ' : Sto} (hr : RetI x y (AY y) 1 cJ6_bitCount_0f7a4 Z r σ') (xa0 : Int32) (σ : Sto) (h : F_J6_bitCount_0f7a4 xa0 σ = some (r, σ')) : GW x y (AY y) 1 Z 0 [(0, .int (xa0))] [] σ := by
  unfold F_J6_bitCount_0f7a4 at h
  refine g_iload_n (pc := 0) C dJ6_bitCount_0f7a4_0 rfl 0 rfl ?_
  refine g_iload_n (pc := 1) C dJ6_bitCount_0f7a4_1 rfl 0 rfl ?_
  refine g_iconst (v := 1) (pc := 2) C dJ6_bitCount_0f7a4_2 ci_1 ?_
  refine g_iushr (pc := 3) C dJ6_bitCount_0f7a4_3 ?_
  refine g_ldcw (v := 1431655765) (pc := 4) C dJ6_bitCount_0f7a4_4 wk_J6_265 ?_
  refine g_iand (pc := 7) C dJ6_bitCount_0f7a4_7 ?_
  refine g_isub (pc := 8) C dJ6_bitCount_0f7a4_8 ?_
  refine g_letI h (fun xv1 h => ?_)
  refine g_istore_n (i := 0) (lv' := [(0, .int (xv1))]) (pc := 9) C dJ6_bitCount_0f7a4_9 rfl (Nat.le_of_ble_eq_true rfl) rfl ?_
  refine g_iload_n (pc := 10) C dJ6_bitCount_0f7a4_10 rfl 0 rfl ?_
  refine g_ldcw (v := 858993459) (pc := 11) C dJ6_bitCount_0f7a4_11 wk_J6_266 ?_
  refine g_iand (pc := 14) C dJ6_bitCount_0f7a4_14 ?_
  refine g_iload_n (pc := 15) C dJ6_bitCount_0f7a4_15 rfl 0 rfl ?_
  refine g_iconst (v := 2) (pc := 16) C dJ6_bitCount_0f7a4_16 ci_2 ?_
  refine g_iushr (pc := 17) C dJ6_bitCount_0f7a4_17 ?_
  refine g_ldcw (v := 858993459) (pc := 18) C dJ6_bitCount_0f7a4_18 wk_J6_266 ?_
  refine g_iand (pc := 21) C dJ6_bitCount_0f7a4_21 ?_
  refine g_iadd (pc := 22) C dJ6_bitCount_0f7a4_22 ?_
  refine g_letI h (fun xv2 h => ?_)
  refine g_istore_n (i := 0) (lv' := [(0, .int (xv2))]) (pc := 23) C dJ6_bitCount_0f7a4_23 rfl (Nat.le_of_ble_eq_true rfl) rfl ?_
  refine g_iload_n (pc := 24) C dJ6_bitCount_0f7a4_24 rfl 0 rfl ?_
  refine g_iload_n (pc := 25) C dJ6_bitCount_0f7a4_25 rfl 0 rfl ?_
  refine g_iconst (v := 4) (pc := 26) C dJ6_bitCount_0f7a4_26 ci_4 ?_
  refine g_iushr (pc := 27) C dJ6_bitCount_0f7a4_27 ?_
  refine g_iadd (pc := 28) C dJ6_bitCount_0f7a4_28 ?_
  refine g_ldcw (v := 252645135) (pc := 29) C dJ6_bitCount_0f7a4_29 wk_J6_267 ?_
  refine g_iand (pc := 32) C dJ6_bitCount_0f7a4_32 ?_
  refine g_letI h (fun xv3 h => ?_)
  refine g_istore_n (i := 0) (lv' := [(0, .int (xv3))]) (pc := 33) C dJ6_bitCount_0f7a4_33 rfl (Nat.le_of_ble_eq_true rfl) rfl ?_
  refine g_iload_n (pc := 34) C dJ6_bitCount_0f7a4_34 rfl 0 rfl ?_
  refine g_iload_n (pc := 35) C dJ6_bitCount_0f7a4_35 rfl 0 rfl ?_
  refine g_bipush (v := 8) (pc := 36) C dJ6_bitCount_0f7a4_36 cb_8 ?_
  refine g_iushr (pc := 38) C dJ6_bitCount_0f7a4_38 ?_
  refine g_iadd (pc := 39) C dJ6_bitCount_0f7a4_39 ?_
  refine g_letI h (fun xv4 h => ?_)
  refine g_istore_n (i := 0) (lv' := [(0, .int (xv4))]) (pc := 40) C dJ6_bitCount_0f7a4_40 rfl (Nat.le_of_ble_eq_true rfl) rfl ?_
  refine g_iload_n (pc := 41) C dJ6_bitCount_0f7a4_41 rfl 0 rfl ?_
  refine g_iload_n (pc := 42) C dJ6_bitCount_0f7a4_42 rfl 0 rfl ?_
  refine g_bipush (v := 16) (pc := 43) C dJ6_bitCount_0f7a4_43 cb_16 ?_
  refine g_iushr (pc := 45) C dJ6_bitCount_0f7a4_45 ?_
  refine g_iadd (pc := 46) C dJ6_bitCount_0f7a4_46 ?_
  refine g_letI h (fun xv5 h => ?_)
  refine g_istore_n (i := 0) (lv' := [(0, .int (xv5))]) (pc := 47) C dJ6_bitCount_0f7a4_47 rfl (Nat.le_of_ble_eq_true rfl) rfl ?_
  refine g_iload_n (pc := 48) C dJ6_bitCount_0f7a4_48 rfl 0 rfl ?_
  refine g_bipush (v := 63) (pc := 49) C dJ6_bitCount_0f7a4_49 cb_63 ?_
  refine g_iand (pc := 51) C dJ6_bitCount_0f7a4_51 ?_
  exact rtI hr dJ6_bitCount_0f7a4_52 h
theorem c_J6_bitCount_0f7a4 (l : Launch) (y : YT) (xa0 : Int32) (σ σ' : Sto) (r : Int32) (h : F_J6_bitCount_0f7a4 xa0 σ = some (r, σ')) : MI l y yJ6_bitCount_0f7a4 (Cond.code yJ6_bitCount_0f7a4 cJ6_bitCount_0f7a4 1 (some .int) :: TT) rm_J6_bitCount_0f7a4 [.int (xa0)] σ r σ' :=
  mkI (by decide) rfl rfl rfl (Nat.le_of_ble_eq_true rfl) (fun x Z C hr => b_J6_bitCount_0f7a4_0 C hr xa0 σ h)
def rm_X2_begin : Room := { frames := 0, cells := 0, slots := 0, locals := 0 }
def F_X2_begin (xa0 : Nat) (xa1 : Int32) (σ : Sto) : Option (Unit × Sto) := ck (kd (xa0) == 2) (lts (up2 σ (xa0) 0 (xa1)) (fun xσ2 => lts (up2 xσ2 (xa0) 1 (60)) (fun xσ3 => lts (up2 xσ3 (xa0) 2 (5)) (fun xσ4 => lts (up2 xσ4 (xa0) 3 (3)) (fun xσ5 => lts (up2 xσ5 (xa0) 4 (20)) (fun xσ6 => lts (up2 xσ6 (xa0) 5 (0)) (fun xσ7 => lts (up2 xσ7 (xa0) 6 (0)) (fun xσ8 => some ((), xσ8)))))))))
set_option maxHeartbeats 4000000 in
set_option maxRecDepth 20000 in
theorem b_X2_begin_0 {x : XT} {y : YT} {Z : State → Prop} (C : Cx x y (AY y) RX2 cX2_begin 2 rm_X2_begin) {r : Unit} {σ' : Sto} (hr : RetV x y (AY y) 2 cX2_begin Z r σ') (xa0 : Nat) (xa1 : Int32) (σ : Sto) (h : F_X2_begin xa0 xa1 σ = some (r, σ')) : GW x y (AY y) 2 Z 0 [(0, .ref (yad y (xa0))), (1, .int (xa1))] [] σ := by
  unfold F_X2_begin at h
  refine g_aload_n (pc := 0) C dX2_begin_0 rfl 0 rfl ?_
  refine g_iload_n (pc := 1) C dX2_begin_1 rfl 1 rfl ?_
  obtain ⟨xq1, h⟩ := iC h
  have xq1 := keq xq1
  refine gp_2_0 (pc := 2) C wf_X2_15 dX2_begin_2 xq1 ?_
  refine g_letS h (fun xσ2 h => ?_)
  refine g_aload_n (pc := 5) C dX2_begin_5 rfl 0 rfl ?_
  refine g_bipush (v := 60) (pc := 6) C dX2_begin_6 cb_60 ?_
  refine gp_2_1 (pc := 8) C wf_X2_19 dX2_begin_8 xq1 ?_
  refine g_letS h (fun xσ3 h => ?_)
  refine g_aload_n (pc := 11) C dX2_begin_11 rfl 0 rfl ?_
  refine g_iconst (v := 5) (pc := 12) C dX2_begin_12 ci_5 ?_
  refine gp_2_2 (pc := 13) C wf_X2_22 dX2_begin_13 xq1 ?_
  refine g_letS h (fun xσ4 h => ?_)
  refine g_aload_n (pc := 16) C dX2_begin_16 rfl 0 rfl ?_
  refine g_iconst (v := 3) (pc := 17) C dX2_begin_17 ci_3 ?_
  refine gp_2_3 (pc := 18) C wf_X2_25 dX2_begin_18 xq1 ?_
  refine g_letS h (fun xσ5 h => ?_)
  refine g_aload_n (pc := 21) C dX2_begin_21 rfl 0 rfl ?_
  refine g_bipush (v := 20) (pc := 22) C dX2_begin_22 cb_20 ?_
  refine gp_2_4 (pc := 24) C wf_X2_28 dX2_begin_24 xq1 ?_
  refine g_letS h (fun xσ6 h => ?_)
  refine g_aload_n (pc := 27) C dX2_begin_27 rfl 0 rfl ?_
  refine g_iconst (v := 0) (pc := 28) C dX2_begin_28 ci_0 ?_
  refine gp_2_5 (pc := 29) C wf_X2_31 dX2_begin_29 xq1 ?_
  refine g_letS h (fun xσ7 h => ?_)
  refine g_aload_n (pc := 32) C dX2_begin_32 rfl 0 rfl ?_
  refine g_iconst (v := 0) (pc := 33) C dX2_begin_33 ci_0 ?_
  refine gp_2_6 (pc := 34) C wf_X2_34 dX2_begin_34 xq1 ?_
  refine g_letS h (fun xσ8 h => ?_)
  exact rtV hr dX2_begin_37 h
theorem c_X2_begin (l : Launch) (y : YT) (xa0 : Nat) (xa1 : Int32) (σ σ' : Sto) (r : Unit) (h : F_X2_begin xa0 xa1 σ = some (r, σ')) : MV l y yX2_begin (Cond.code yX2_begin cX2_begin 2 none :: TT) rm_X2_begin [.ref (yad y (xa0)), .int (xa1)] σ r σ' :=
  mkV (by decide) rfl rfl rfl (Nat.le_of_ble_eq_true rfl) (fun x Z C hr => b_X2_begin_0 C hr xa0 xa1 σ h)
def rm_X2_become : Room := { frames := 0, cells := 0, slots := 0, locals := 0 }
def F_X2_become (xa0 : Nat) (xa1 : Nat) (σ : Sto) : Option (Unit × Sto) := ck (kd (xa1) == 2) (ck (kd (xa0) == 2) (lts (up2 σ (xa0) 0 (σ xa1 0)) (fun xσ3 => lts (up2 xσ3 (xa0) 1 (xσ3 xa1 1)) (fun xσ4 => lts (up2 xσ4 (xa0) 2 (xσ4 xa1 2)) (fun xσ5 => lts (up2 xσ5 (xa0) 3 (xσ5 xa1 3)) (fun xσ6 => lts (up2 xσ6 (xa0) 4 (xσ6 xa1 4)) (fun xσ7 => lts (up2 xσ7 (xa0) 5 (xσ7 xa1 5)) (fun xσ8 => lts (up2 xσ8 (xa0) 6 (xσ8 xa1 6)) (fun xσ9 => some ((), xσ9))))))))))
set_option maxHeartbeats 4000000 in
set_option maxRecDepth 20000 in
theorem b_X2_become_0 {x : XT} {y : YT} {Z : State → Prop} (C : Cx x y (AY y) RX2 cX2_become 2 rm_X2_become) {r : Unit} {σ' : Sto} (hr : RetV x y (AY y) 2 cX2_become Z r σ') (xa0 : Nat) (xa1 : Nat) (σ : Sto) (h : F_X2_become xa0 xa1 σ = some (r, σ')) : GW x y (AY y) 2 Z 0 [(0, .ref (yad y (xa0))), (1, .ref (yad y (xa1)))] [] σ := by
  unfold F_X2_become at h
  refine g_aload_n (pc := 0) C dX2_become_0 rfl 0 rfl ?_
  refine g_aload_n (pc := 1) C dX2_become_1 rfl 1 rfl ?_
  obtain ⟨xq1, h⟩ := iC h
  have xq1 := keq xq1
  refine gf_2_0 (pc := 2) C wf_X2_15 dX2_become_2 xq1 ?_
  obtain ⟨xq2, h⟩ := iC h
  have xq2 := keq xq2
  refine gp_2_0 (pc := 5) C wf_X2_15 dX2_become_5 xq2 ?_
  refine g_letS h (fun xσ3 h => ?_)
  refine g_aload_n (pc := 8) C dX2_become_8 rfl 0 rfl ?_
  refine g_aload_n (pc := 9) C dX2_become_9 rfl 1 rfl ?_
  refine gf_2_1 (pc := 10) C wf_X2_19 dX2_become_10 xq1 ?_
  refine gp_2_1 (pc := 13) C wf_X2_19 dX2_become_13 xq2 ?_
  refine g_letS h (fun xσ4 h => ?_)
  refine g_aload_n (pc := 16) C dX2_become_16 rfl 0 rfl ?_
  refine g_aload_n (pc := 17) C dX2_become_17 rfl 1 rfl ?_
  refine gf_2_2 (pc := 18) C wf_X2_22 dX2_become_18 xq1 ?_
  refine gp_2_2 (pc := 21) C wf_X2_22 dX2_become_21 xq2 ?_
  refine g_letS h (fun xσ5 h => ?_)
  refine g_aload_n (pc := 24) C dX2_become_24 rfl 0 rfl ?_
  refine g_aload_n (pc := 25) C dX2_become_25 rfl 1 rfl ?_
  refine gf_2_3 (pc := 26) C wf_X2_25 dX2_become_26 xq1 ?_
  refine gp_2_3 (pc := 29) C wf_X2_25 dX2_become_29 xq2 ?_
  refine g_letS h (fun xσ6 h => ?_)
  refine g_aload_n (pc := 32) C dX2_become_32 rfl 0 rfl ?_
  refine g_aload_n (pc := 33) C dX2_become_33 rfl 1 rfl ?_
  refine gf_2_4 (pc := 34) C wf_X2_28 dX2_become_34 xq1 ?_
  refine gp_2_4 (pc := 37) C wf_X2_28 dX2_become_37 xq2 ?_
  refine g_letS h (fun xσ7 h => ?_)
  refine g_aload_n (pc := 40) C dX2_become_40 rfl 0 rfl ?_
  refine g_aload_n (pc := 41) C dX2_become_41 rfl 1 rfl ?_
  refine gf_2_5 (pc := 42) C wf_X2_31 dX2_become_42 xq1 ?_
  refine gp_2_5 (pc := 45) C wf_X2_31 dX2_become_45 xq2 ?_
  refine g_letS h (fun xσ8 h => ?_)
  refine g_aload_n (pc := 48) C dX2_become_48 rfl 0 rfl ?_
  refine g_aload_n (pc := 49) C dX2_become_49 rfl 1 rfl ?_
  refine gf_2_6 (pc := 50) C wf_X2_34 dX2_become_50 xq1 ?_
  refine gp_2_6 (pc := 53) C wf_X2_34 dX2_become_53 xq2 ?_
  refine g_letS h (fun xσ9 h => ?_)
  exact rtV hr dX2_become_56 h
theorem c_X2_become (l : Launch) (y : YT) (xa0 : Nat) (xa1 : Nat) (σ σ' : Sto) (r : Unit) (h : F_X2_become xa0 xa1 σ = some (r, σ')) : MV l y yX2_become (Cond.code yX2_become cX2_become 2 none :: TT) rm_X2_become [.ref (yad y (xa0)), .ref (yad y (xa1))] σ r σ' :=
  mkV (by decide) rfl rfl rfl (Nat.le_of_ble_eq_true rfl) (fun x Z C hr => b_X2_become_0 C hr xa0 xa1 σ h)
def rm_X2_mostOf : Room := { frames := 0, cells := 0, slots := 0, locals := 0 }
def F_X2_mostOf (xa0 : Int32) (σ : Sto) : Option (Int32 × Sto) := if xa0 = 0 then some (6, σ) else if xa0 = 1 then some (90, σ) else if xa0 = 2 then some (9, σ) else if xa0 = 3 then some (9, σ) else if xa0 = 4 then some (999, σ) else if xa0 = 5 then some (999, σ) else if xa0 = 6 then some (9999, σ) else some ((-1), σ)
set_option maxHeartbeats 4000000 in
set_option maxRecDepth 20000 in
theorem b_X2_mostOf_0 {x : XT} {y : YT} {Z : State → Prop} (C : Cx x y (AY y) RX2 cX2_mostOf 1 rm_X2_mostOf) {r : Int32} {σ' : Sto} (hr : RetI x y (AY y) 1 cX2_mostOf Z r σ') (xa0 : Int32) (σ : Sto) (h : F_X2_mostOf xa0 σ = some (r, σ')) : GW x y (AY y) 1 Z 0 [(0, .int (xa0))] [] σ := by
  unfold F_X2_mostOf at h
  refine g_iload_n (pc := 0) C dX2_mostOf_0 rfl 0 rfl ?_
  by_cases xq1 : xa0 = 0
  · have h := iP xq1 h
    refine g_tabIn (pc := 1) C dX2_mostOf_1 (v := 0) (tgt := 44) (by decide) (by decide) rfl rfl xq1 ?_
    refine g_bipush (v := 6) (pc := 44) C dX2_mostOf_44 cb_6 ?_
    exact rtI hr dX2_mostOf_46 h
  · have h := iN xq1 h
    by_cases xq2 : xa0 = 1
    · have h := iP xq2 h
      refine g_tabIn (pc := 1) C dX2_mostOf_1 (v := 1) (tgt := 47) (by decide) (by decide) rfl rfl xq2 ?_
      refine g_bipush (v := 90) (pc := 47) C dX2_mostOf_47 cb_90 ?_
      exact rtI hr dX2_mostOf_49 h
    · have h := iN xq2 h
      by_cases xq3 : xa0 = 2
      · have h := iP xq3 h
        refine g_tabIn (pc := 1) C dX2_mostOf_1 (v := 2) (tgt := 50) (by decide) (by decide) rfl rfl xq3 ?_
        refine g_bipush (v := 9) (pc := 50) C dX2_mostOf_50 cb_9 ?_
        exact rtI hr dX2_mostOf_52 h
      · have h := iN xq3 h
        by_cases xq4 : xa0 = 3
        · have h := iP xq4 h
          refine g_tabIn (pc := 1) C dX2_mostOf_1 (v := 3) (tgt := 53) (by decide) (by decide) rfl rfl xq4 ?_
          refine g_bipush (v := 9) (pc := 53) C dX2_mostOf_53 cb_9 ?_
          exact rtI hr dX2_mostOf_55 h
        · have h := iN xq4 h
          by_cases xq5 : xa0 = 4
          · have h := iP xq5 h
            refine g_tabIn (pc := 1) C dX2_mostOf_1 (v := 4) (tgt := 56) (by decide) (by decide) rfl rfl xq5 ?_
            refine g_sipush (v := 999) (pc := 56) C dX2_mostOf_56 cs_999 ?_
            exact rtI hr dX2_mostOf_59 h
          · have h := iN xq5 h
            by_cases xq6 : xa0 = 5
            · have h := iP xq6 h
              refine g_tabIn (pc := 1) C dX2_mostOf_1 (v := 5) (tgt := 60) (by decide) (by decide) rfl rfl xq6 ?_
              refine g_sipush (v := 999) (pc := 60) C dX2_mostOf_60 cs_999 ?_
              exact rtI hr dX2_mostOf_63 h
            · have h := iN xq6 h
              by_cases xq7 : xa0 = 6
              · have h := iP xq7 h
                refine g_tabIn (pc := 1) C dX2_mostOf_1 (v := 6) (tgt := 64) (by decide) (by decide) rfl rfl xq7 ?_
                refine g_sipush (v := 9999) (pc := 64) C dX2_mostOf_64 cs_9999 ?_
                exact rtI hr dX2_mostOf_67 h
              · have h := iN xq7 h
                have xe0 : ¬ xa0.toInt = 0 := tne xq1
                have xe1 : ¬ xa0.toInt = 1 := tne xq2
                have xe2 : ¬ xa0.toInt = 2 := tne xq3
                have xe3 : ¬ xa0.toInt = 3 := tne xq4
                have xe4 : ¬ xa0.toInt = 4 := tne xq5
                have xe5 : ¬ xa0.toInt = 5 := tne xq6
                have xe6 : ¬ xa0.toInt = 6 := tne xq7
                refine g_tabOut (pc := 1) C dX2_mostOf_1 (tgt := 68) (by omega) rfl ?_
                refine g_iconst (v := (-1)) (pc := 68) C dX2_mostOf_68 ci_m1 ?_
                exact rtI hr dX2_mostOf_69 h
theorem c_X2_mostOf (l : Launch) (y : YT) (xa0 : Int32) (σ σ' : Sto) (r : Int32) (h : F_X2_mostOf xa0 σ = some (r, σ')) : MI l y yX2_mostOf (Cond.code yX2_mostOf cX2_mostOf 1 (some .int) :: TT) rm_X2_mostOf [.int (xa0)] σ r σ' :=
  mkI (by decide) rfl rfl rfl (Nat.le_of_ble_eq_true rfl) (fun x Z C hr => b_X2_mostOf_0 C hr xa0 σ h)
def rm_X2_part : Room := { frames := 0, cells := 0, slots := 0, locals := 0 }
def F_X2_part (xa0 : Nat) (xa1 : Int32) (σ : Sto) : Option (Int32 × Sto) := if xa1 = 0 then ck (kd (xa0) == 2) (some (σ xa0 0, σ)) else if xa1 = 1 then ck (kd (xa0) == 2) (some (σ xa0 1, σ)) else if xa1 = 2 then ck (kd (xa0) == 2) (some (σ xa0 2, σ)) else if xa1 = 3 then ck (kd (xa0) == 2) (some (σ xa0 3, σ)) else if xa1 = 4 then ck (kd (xa0) == 2) (some (σ xa0 4, σ)) else if xa1 = 5 then ck (kd (xa0) == 2) (some (σ xa0 5, σ)) else if xa1 = 6 then ck (kd (xa0) == 2) (some (σ xa0 6, σ)) else some (0, σ)
set_option maxHeartbeats 4000000 in
set_option maxRecDepth 20000 in
theorem b_X2_part_0 {x : XT} {y : YT} {Z : State → Prop} (C : Cx x y (AY y) RX2 cX2_part 2 rm_X2_part) {r : Int32} {σ' : Sto} (hr : RetI x y (AY y) 2 cX2_part Z r σ') (xa0 : Nat) (xa1 : Int32) (σ : Sto) (h : F_X2_part xa0 xa1 σ = some (r, σ')) : GW x y (AY y) 2 Z 0 [(0, .ref (yad y (xa0))), (1, .int (xa1))] [] σ := by
  unfold F_X2_part at h
  refine g_iload_n (pc := 0) C dX2_part_0 rfl 1 rfl ?_
  by_cases xq1 : xa1 = 0
  · have h := iP xq1 h
    refine g_tabIn (pc := 1) C dX2_part_1 (v := 0) (tgt := 44) (by decide) (by decide) rfl rfl xq1 ?_
    refine g_aload_n (pc := 44) C dX2_part_44 rfl 0 rfl ?_
    obtain ⟨xq2, h⟩ := iC h
    have xq2 := keq xq2
    refine gf_2_0 (pc := 45) C wf_X2_15 dX2_part_45 xq2 ?_
    exact rtI hr dX2_part_48 h
  · have h := iN xq1 h
    by_cases xq3 : xa1 = 1
    · have h := iP xq3 h
      refine g_tabIn (pc := 1) C dX2_part_1 (v := 1) (tgt := 49) (by decide) (by decide) rfl rfl xq3 ?_
      refine g_aload_n (pc := 49) C dX2_part_49 rfl 0 rfl ?_
      obtain ⟨xq4, h⟩ := iC h
      have xq4 := keq xq4
      refine gf_2_1 (pc := 50) C wf_X2_19 dX2_part_50 xq4 ?_
      exact rtI hr dX2_part_53 h
    · have h := iN xq3 h
      by_cases xq5 : xa1 = 2
      · have h := iP xq5 h
        refine g_tabIn (pc := 1) C dX2_part_1 (v := 2) (tgt := 54) (by decide) (by decide) rfl rfl xq5 ?_
        refine g_aload_n (pc := 54) C dX2_part_54 rfl 0 rfl ?_
        obtain ⟨xq6, h⟩ := iC h
        have xq6 := keq xq6
        refine gf_2_2 (pc := 55) C wf_X2_22 dX2_part_55 xq6 ?_
        exact rtI hr dX2_part_58 h
      · have h := iN xq5 h
        by_cases xq7 : xa1 = 3
        · have h := iP xq7 h
          refine g_tabIn (pc := 1) C dX2_part_1 (v := 3) (tgt := 59) (by decide) (by decide) rfl rfl xq7 ?_
          refine g_aload_n (pc := 59) C dX2_part_59 rfl 0 rfl ?_
          obtain ⟨xq8, h⟩ := iC h
          have xq8 := keq xq8
          refine gf_2_3 (pc := 60) C wf_X2_25 dX2_part_60 xq8 ?_
          exact rtI hr dX2_part_63 h
        · have h := iN xq7 h
          by_cases xq9 : xa1 = 4
          · have h := iP xq9 h
            refine g_tabIn (pc := 1) C dX2_part_1 (v := 4) (tgt := 64) (by decide) (by decide) rfl rfl xq9 ?_
            refine g_aload_n (pc := 64) C dX2_part_64 rfl 0 rfl ?_
            obtain ⟨xq10, h⟩ := iC h
            have xq10 := keq xq10
            refine gf_2_4 (pc := 65) C wf_X2_28 dX2_part_65 xq10 ?_
            exact rtI hr dX2_part_68 h
          · have h := iN xq9 h
            by_cases xq11 : xa1 = 5
            · have h := iP xq11 h
              refine g_tabIn (pc := 1) C dX2_part_1 (v := 5) (tgt := 69) (by decide) (by decide) rfl rfl xq11 ?_
              refine g_aload_n (pc := 69) C dX2_part_69 rfl 0 rfl ?_
              obtain ⟨xq12, h⟩ := iC h
              have xq12 := keq xq12
              refine gf_2_5 (pc := 70) C wf_X2_31 dX2_part_70 xq12 ?_
              exact rtI hr dX2_part_73 h
            · have h := iN xq11 h
              by_cases xq13 : xa1 = 6
              · have h := iP xq13 h
                refine g_tabIn (pc := 1) C dX2_part_1 (v := 6) (tgt := 74) (by decide) (by decide) rfl rfl xq13 ?_
                refine g_aload_n (pc := 74) C dX2_part_74 rfl 0 rfl ?_
                obtain ⟨xq14, h⟩ := iC h
                have xq14 := keq xq14
                refine gf_2_6 (pc := 75) C wf_X2_34 dX2_part_75 xq14 ?_
                exact rtI hr dX2_part_78 h
              · have h := iN xq13 h
                have xe0 : ¬ xa1.toInt = 0 := tne xq1
                have xe1 : ¬ xa1.toInt = 1 := tne xq3
                have xe2 : ¬ xa1.toInt = 2 := tne xq5
                have xe3 : ¬ xa1.toInt = 3 := tne xq7
                have xe4 : ¬ xa1.toInt = 4 := tne xq9
                have xe5 : ¬ xa1.toInt = 5 := tne xq11
                have xe6 : ¬ xa1.toInt = 6 := tne xq13
                refine g_tabOut (pc := 1) C dX2_part_1 (tgt := 79) (by omega) rfl ?_
                refine g_iconst (v := 0) (pc := 79) C dX2_part_79 ci_0 ?_
                exact rtI hr dX2_part_80 h
theorem c_X2_part (l : Launch) (y : YT) (xa0 : Nat) (xa1 : Int32) (σ σ' : Sto) (r : Int32) (h : F_X2_part xa0 xa1 σ = some (r, σ')) : MI l y yX2_part (Cond.code yX2_part cX2_part 2 (some .int) :: TT) rm_X2_part [.ref (yad y (xa0)), .int (xa1)] σ r σ' :=
  mkI (by decide) rfl rfl rfl (Nat.le_of_ble_eq_true rfl) (fun x Z C hr => b_X2_part_0 C hr xa0 xa1 σ h)
def rm_X2_putPart : Room := { frames := 0, cells := 0, slots := 0, locals := 0 }
def F_X2_putPart (xa0 : Nat) (xa1 : Int32) (xa2 : Int32) (σ : Sto) : Option (Unit × Sto) := if xa1 = 0 then ck (kd (xa0) == 2) (lts (up2 σ (xa0) 0 (xa2)) (fun xσ3 => some ((), xσ3))) else if xa1 = 1 then ck (kd (xa0) == 2) (lts (up2 σ (xa0) 1 (xa2)) (fun xσ6 => some ((), xσ6))) else if xa1 = 2 then ck (kd (xa0) == 2) (lts (up2 σ (xa0) 2 (xa2)) (fun xσ9 => some ((), xσ9))) else if xa1 = 3 then ck (kd (xa0) == 2) (lts (up2 σ (xa0) 3 (xa2)) (fun xσ12 => some ((), xσ12))) else if xa1 = 4 then ck (kd (xa0) == 2) (lts (up2 σ (xa0) 4 (xa2)) (fun xσ15 => some ((), xσ15))) else if xa1 = 5 then ck (kd (xa0) == 2) (lts (up2 σ (xa0) 5 (xa2)) (fun xσ18 => some ((), xσ18))) else if xa1 = 6 then ck (kd (xa0) == 2) (lts (up2 σ (xa0) 6 (xa2)) (fun xσ21 => some ((), xσ21))) else some ((), σ)
set_option maxHeartbeats 4000000 in
set_option maxRecDepth 20000 in
theorem b_X2_putPart_0 {x : XT} {y : YT} {Z : State → Prop} (C : Cx x y (AY y) RX2 cX2_putPart 3 rm_X2_putPart) {r : Unit} {σ' : Sto} (hr : RetV x y (AY y) 3 cX2_putPart Z r σ') (xa0 : Nat) (xa1 : Int32) (xa2 : Int32) (σ : Sto) (h : F_X2_putPart xa0 xa1 xa2 σ = some (r, σ')) : GW x y (AY y) 3 Z 0 [(0, .ref (yad y (xa0))), (1, .int (xa1)), (2, .int (xa2))] [] σ := by
  unfold F_X2_putPart at h
  refine g_iload_n (pc := 0) C dX2_putPart_0 rfl 1 rfl ?_
  by_cases xq1 : xa1 = 0
  · have h := iP xq1 h
    refine g_tabIn (pc := 1) C dX2_putPart_1 (v := 0) (tgt := 44) (by decide) (by decide) rfl rfl xq1 ?_
    refine g_aload_n (pc := 44) C dX2_putPart_44 rfl 0 rfl ?_
    refine g_iload_n (pc := 45) C dX2_putPart_45 rfl 2 rfl ?_
    obtain ⟨xq2, h⟩ := iC h
    have xq2 := keq xq2
    refine gp_2_0 (pc := 46) C wf_X2_15 dX2_putPart_46 xq2 ?_
    refine g_letS h (fun xσ3 h => ?_)
    refine g_goto (pc := 49) C dX2_putPart_49 (tgt := 100) rfl ?_
    exact rtV hr dX2_putPart_100 h
  · have h := iN xq1 h
    by_cases xq4 : xa1 = 1
    · have h := iP xq4 h
      refine g_tabIn (pc := 1) C dX2_putPart_1 (v := 1) (tgt := 52) (by decide) (by decide) rfl rfl xq4 ?_
      refine g_aload_n (pc := 52) C dX2_putPart_52 rfl 0 rfl ?_
      refine g_iload_n (pc := 53) C dX2_putPart_53 rfl 2 rfl ?_
      obtain ⟨xq5, h⟩ := iC h
      have xq5 := keq xq5
      refine gp_2_1 (pc := 54) C wf_X2_19 dX2_putPart_54 xq5 ?_
      refine g_letS h (fun xσ6 h => ?_)
      refine g_goto (pc := 57) C dX2_putPart_57 (tgt := 100) rfl ?_
      exact rtV hr dX2_putPart_100 h
    · have h := iN xq4 h
      by_cases xq7 : xa1 = 2
      · have h := iP xq7 h
        refine g_tabIn (pc := 1) C dX2_putPart_1 (v := 2) (tgt := 60) (by decide) (by decide) rfl rfl xq7 ?_
        refine g_aload_n (pc := 60) C dX2_putPart_60 rfl 0 rfl ?_
        refine g_iload_n (pc := 61) C dX2_putPart_61 rfl 2 rfl ?_
        obtain ⟨xq8, h⟩ := iC h
        have xq8 := keq xq8
        refine gp_2_2 (pc := 62) C wf_X2_22 dX2_putPart_62 xq8 ?_
        refine g_letS h (fun xσ9 h => ?_)
        refine g_goto (pc := 65) C dX2_putPart_65 (tgt := 100) rfl ?_
        exact rtV hr dX2_putPart_100 h
      · have h := iN xq7 h
        by_cases xq10 : xa1 = 3
        · have h := iP xq10 h
          refine g_tabIn (pc := 1) C dX2_putPart_1 (v := 3) (tgt := 68) (by decide) (by decide) rfl rfl xq10 ?_
          refine g_aload_n (pc := 68) C dX2_putPart_68 rfl 0 rfl ?_
          refine g_iload_n (pc := 69) C dX2_putPart_69 rfl 2 rfl ?_
          obtain ⟨xq11, h⟩ := iC h
          have xq11 := keq xq11
          refine gp_2_3 (pc := 70) C wf_X2_25 dX2_putPart_70 xq11 ?_
          refine g_letS h (fun xσ12 h => ?_)
          refine g_goto (pc := 73) C dX2_putPart_73 (tgt := 100) rfl ?_
          exact rtV hr dX2_putPart_100 h
        · have h := iN xq10 h
          by_cases xq13 : xa1 = 4
          · have h := iP xq13 h
            refine g_tabIn (pc := 1) C dX2_putPart_1 (v := 4) (tgt := 76) (by decide) (by decide) rfl rfl xq13 ?_
            refine g_aload_n (pc := 76) C dX2_putPart_76 rfl 0 rfl ?_
            refine g_iload_n (pc := 77) C dX2_putPart_77 rfl 2 rfl ?_
            obtain ⟨xq14, h⟩ := iC h
            have xq14 := keq xq14
            refine gp_2_4 (pc := 78) C wf_X2_28 dX2_putPart_78 xq14 ?_
            refine g_letS h (fun xσ15 h => ?_)
            refine g_goto (pc := 81) C dX2_putPart_81 (tgt := 100) rfl ?_
            exact rtV hr dX2_putPart_100 h
          · have h := iN xq13 h
            by_cases xq16 : xa1 = 5
            · have h := iP xq16 h
              refine g_tabIn (pc := 1) C dX2_putPart_1 (v := 5) (tgt := 84) (by decide) (by decide) rfl rfl xq16 ?_
              refine g_aload_n (pc := 84) C dX2_putPart_84 rfl 0 rfl ?_
              refine g_iload_n (pc := 85) C dX2_putPart_85 rfl 2 rfl ?_
              obtain ⟨xq17, h⟩ := iC h
              have xq17 := keq xq17
              refine gp_2_5 (pc := 86) C wf_X2_31 dX2_putPart_86 xq17 ?_
              refine g_letS h (fun xσ18 h => ?_)
              refine g_goto (pc := 89) C dX2_putPart_89 (tgt := 100) rfl ?_
              exact rtV hr dX2_putPart_100 h
            · have h := iN xq16 h
              by_cases xq19 : xa1 = 6
              · have h := iP xq19 h
                refine g_tabIn (pc := 1) C dX2_putPart_1 (v := 6) (tgt := 92) (by decide) (by decide) rfl rfl xq19 ?_
                refine g_aload_n (pc := 92) C dX2_putPart_92 rfl 0 rfl ?_
                refine g_iload_n (pc := 93) C dX2_putPart_93 rfl 2 rfl ?_
                obtain ⟨xq20, h⟩ := iC h
                have xq20 := keq xq20
                refine gp_2_6 (pc := 94) C wf_X2_34 dX2_putPart_94 xq20 ?_
                refine g_letS h (fun xσ21 h => ?_)
                refine g_goto (pc := 97) C dX2_putPart_97 (tgt := 100) rfl ?_
                exact rtV hr dX2_putPart_100 h
              · have h := iN xq19 h
                have xe0 : ¬ xa1.toInt = 0 := tne xq1
                have xe1 : ¬ xa1.toInt = 1 := tne xq4
                have xe2 : ¬ xa1.toInt = 2 := tne xq7
                have xe3 : ¬ xa1.toInt = 3 := tne xq10
                have xe4 : ¬ xa1.toInt = 4 := tne xq13
                have xe5 : ¬ xa1.toInt = 5 := tne xq16
                have xe6 : ¬ xa1.toInt = 6 := tne xq19
                refine g_tabOut (pc := 1) C dX2_putPart_1 (tgt := 100) (by omega) rfl ?_
                exact rtV hr dX2_putPart_100 h
theorem c_X2_putPart (l : Launch) (y : YT) (xa0 : Nat) (xa1 : Int32) (xa2 : Int32) (σ σ' : Sto) (r : Unit) (h : F_X2_putPart xa0 xa1 xa2 σ = some (r, σ')) : MV l y yX2_putPart (Cond.code yX2_putPart cX2_putPart 3 none :: TT) rm_X2_putPart [.ref (yad y (xa0)), .int (xa1), .int (xa2)] σ r σ' :=
  mkV (by decide) rfl rfl rfl (Nat.le_of_ble_eq_true rfl) (fun x Z C hr => b_X2_putPart_0 C hr xa0 xa1 xa2 σ h)
def rm_X2_kindAbove : Room := { frames := 0, cells := 0, slots := 0, locals := 0 }
def F_X2_kindAbove (xa0 : Int32) (σ : Sto) : Option (Int32 × Sto) := if xa0 = 1 then some (0, σ) else if xa0 = 2 then some (0, σ) else if xa0 = 3 then some (2, σ) else if xa0 = 4 then some (3, σ) else if xa0 = 5 then some (0, σ) else if xa0 = 6 then some (1, σ) else some ((-1), σ)
set_option maxHeartbeats 4000000 in
set_option maxRecDepth 20000 in
theorem b_X2_kindAbove_0 {x : XT} {y : YT} {Z : State → Prop} (C : Cx x y (AY y) RX2 cX2_kindAbove 1 rm_X2_kindAbove) {r : Int32} {σ' : Sto} (hr : RetI x y (AY y) 1 cX2_kindAbove Z r σ') (xa0 : Int32) (σ : Sto) (h : F_X2_kindAbove xa0 σ = some (r, σ')) : GW x y (AY y) 1 Z 0 [(0, .int (xa0))] [] σ := by
  unfold F_X2_kindAbove at h
  refine g_iload_n (pc := 0) C dX2_kindAbove_0 rfl 0 rfl ?_
  by_cases xq1 : xa0 = 1
  · have h := iP xq1 h
    refine g_tabIn (pc := 1) C dX2_kindAbove_1 (v := 1) (tgt := 40) (by decide) (by decide) rfl rfl xq1 ?_
    refine g_iconst (v := 0) (pc := 40) C dX2_kindAbove_40 ci_0 ?_
    exact rtI hr dX2_kindAbove_41 h
  · have h := iN xq1 h
    by_cases xq2 : xa0 = 2
    · have h := iP xq2 h
      refine g_tabIn (pc := 1) C dX2_kindAbove_1 (v := 2) (tgt := 40) (by decide) (by decide) rfl rfl xq2 ?_
      refine g_iconst (v := 0) (pc := 40) C dX2_kindAbove_40 ci_0 ?_
      exact rtI hr dX2_kindAbove_41 h
    · have h := iN xq2 h
      by_cases xq3 : xa0 = 3
      · have h := iP xq3 h
        refine g_tabIn (pc := 1) C dX2_kindAbove_1 (v := 3) (tgt := 42) (by decide) (by decide) rfl rfl xq3 ?_
        refine g_iconst (v := 2) (pc := 42) C dX2_kindAbove_42 ci_2 ?_
        exact rtI hr dX2_kindAbove_43 h
      · have h := iN xq3 h
        by_cases xq4 : xa0 = 4
        · have h := iP xq4 h
          refine g_tabIn (pc := 1) C dX2_kindAbove_1 (v := 4) (tgt := 44) (by decide) (by decide) rfl rfl xq4 ?_
          refine g_iconst (v := 3) (pc := 44) C dX2_kindAbove_44 ci_3 ?_
          exact rtI hr dX2_kindAbove_45 h
        · have h := iN xq4 h
          by_cases xq5 : xa0 = 5
          · have h := iP xq5 h
            refine g_tabIn (pc := 1) C dX2_kindAbove_1 (v := 5) (tgt := 40) (by decide) (by decide) rfl rfl xq5 ?_
            refine g_iconst (v := 0) (pc := 40) C dX2_kindAbove_40 ci_0 ?_
            exact rtI hr dX2_kindAbove_41 h
          · have h := iN xq5 h
            by_cases xq6 : xa0 = 6
            · have h := iP xq6 h
              refine g_tabIn (pc := 1) C dX2_kindAbove_1 (v := 6) (tgt := 46) (by decide) (by decide) rfl rfl xq6 ?_
              refine g_iconst (v := 1) (pc := 46) C dX2_kindAbove_46 ci_1 ?_
              exact rtI hr dX2_kindAbove_47 h
            · have h := iN xq6 h
              have xe0 : ¬ xa0.toInt = 1 := tne xq1
              have xe1 : ¬ xa0.toInt = 2 := tne xq2
              have xe2 : ¬ xa0.toInt = 3 := tne xq3
              have xe3 : ¬ xa0.toInt = 4 := tne xq4
              have xe4 : ¬ xa0.toInt = 5 := tne xq5
              have xe5 : ¬ xa0.toInt = 6 := tne xq6
              refine g_tabOut (pc := 1) C dX2_kindAbove_1 (tgt := 48) (by omega) rfl ?_
              refine g_iconst (v := (-1)) (pc := 48) C dX2_kindAbove_48 ci_m1 ?_
              exact rtI hr dX2_kindAbove_49 h
theorem c_X2_kindAbove (l : Launch) (y : YT) (xa0 : Int32) (σ σ' : Sto) (r : Int32) (h : F_X2_kindAbove xa0 σ = some (r, σ')) : MI l y yX2_kindAbove (Cond.code yX2_kindAbove cX2_kindAbove 1 (some .int) :: TT) rm_X2_kindAbove [.int (xa0)] σ r σ' :=
  mkI (by decide) rfl rfl rfl (Nat.le_of_ble_eq_true rfl) (fun x Z C hr => b_X2_kindAbove_0 C hr xa0 σ h)
def rm_X2_isOfOrUnder : Room := { frames := 1, cells := 0, slots := 0, locals := 20 }
def F_X2_isOfOrUnder_b4 (xk_4 : Int32 → Int32 → Int32 → Sto → Option (Int32 × Sto)) (xa1 : Int32) (xa2 : Int32) (xa3 : Int32) (σ : Sto) : Option (Int32 × Sto) := if 6 < xa3 then some (0, σ) else if (xa2) < 0 then some (0, σ) else if xa2 = xa1 then some (1, σ) else bnd (F_X2_kindAbove (xa2) σ) (fun xr6 xσ4 => xk_4 xa1 xr6 (xa3 + 1) xσ4)
def F_X2_isOfOrUnder (xa0 : Int32) (xa1 : Int32) (σ : Sto) : Option (Int32 × Sto) := lo3 (F_X2_isOfOrUnder_b4) 1000 xa1 xa0 0 σ
set_option maxHeartbeats 4000000 in
set_option maxRecDepth 20000 in
theorem b_X2_isOfOrUnder_4 {x : XT} {y : YT} {Z : State → Prop} (C : Cx x y (AY y) RX2 cX2_isOfOrUnder 4 rm_X2_isOfOrUnder) {r : Int32} {σ' : Sto} (hr : RetZ x y (AY y) 4 cX2_isOfOrUnder Z r σ') (xk_4 : Int32 → Int32 → Int32 → Sto → Option (Int32 × Sto)) (xH4 : ∀ (xa1 : Int32) (xa2 : Int32) (xa3 : Int32) (σ : Sto), xk_4 xa1 xa2 xa3 σ = some (r, σ') → GW x y (AY y) 4 Z 4 [(1, .int (xa1)), (2, .int (xa2)), (3, .int (xa3))] [] σ) (xa1 : Int32) (xa2 : Int32) (xa3 : Int32) (σ : Sto) (h : F_X2_isOfOrUnder_b4 xk_4 xa1 xa2 xa3 σ = some (r, σ')) : GW x y (AY y) 4 Z 4 [(1, .int (xa1)), (2, .int (xa2)), (3, .int (xa3))] [] σ := by
  unfold F_X2_isOfOrUnder_b4 at h
  refine g_iload_n (pc := 4) C dX2_isOfOrUnder_4 rfl 2 rfl ?_
  refine g_bipush (v := 6) (pc := 5) C dX2_isOfOrUnder_5 cb_6 ?_
  refine g_icmp_gt (pc := 7) C dX2_isOfOrUnder_7 (tgt := 32) rfl (fun xq1 => ?_) (fun xq1 => ?_)
  · have h := iP xq1 h
    refine g_iconst (v := 0) (pc := 32) C dX2_isOfOrUnder_32 ci_0 ?_
    exact rtZ hr dX2_isOfOrUnder_33 (by decide) h
  · have h := iN xq1 h
    refine g_iload_n (pc := 10) C dX2_isOfOrUnder_10 rfl 1 rfl ?_
    refine g_if_lt (pc := 11) C dX2_isOfOrUnder_11 (tgt := 32) rfl (fun xq2 => ?_) (fun xq2 => ?_)
    · have h := iP xq2 h
      refine g_iconst (v := 0) (pc := 32) C dX2_isOfOrUnder_32 ci_0 ?_
      exact rtZ hr dX2_isOfOrUnder_33 (by decide) h
    · have h := iN xq2 h
      refine g_iload_n (pc := 14) C dX2_isOfOrUnder_14 rfl 1 rfl ?_
      refine g_iload_n (pc := 15) C dX2_isOfOrUnder_15 rfl 0 rfl ?_
      refine g_icmp_ne (pc := 16) C dX2_isOfOrUnder_16 (tgt := 21) rfl (fun xq3 => ?_) (fun xq3 => ?_)
      · have h := iN xq3 h
        refine g_iload_n (pc := 21) C dX2_isOfOrUnder_21 rfl 1 rfl ?_
        obtain ⟨xr6, xσ4, xc5, h⟩ := iB h
        refine g_callSi (pc := 22) (As := [.int (xa2)]) (rest := []) C dX2_isOfOrUnder_22 (fun l => c_X2_kindAbove l y _ _ _ _ xc5) cv_X2_37 ⟨rfl, rfl, Nat.le_of_ble_eq_true rfl, Nat.le_of_ble_eq_true rfl⟩ rfl (Nat.le_of_ble_eq_true rfl) ?_
        refine g_istore_n (i := 2) (lv' := [(2, .int (xr6)), (1, .int (xa1)), (3, .int (xa3))]) (pc := 25) C dX2_isOfOrUnder_25 rfl (Nat.le_of_ble_eq_true rfl) rfl ?_
        refine g_iinc (lv' := [(3, .int (xa3 + 1)), (2, .int (xr6)), (1, .int (xa1))]) (w := xa3 + 1) (pc := 26) C dX2_isOfOrUnder_26 (k := 2) rfl rfl (Nat.le_of_ble_eq_true rfl) rfl ?_
        refine g_goto (pc := 29) C dX2_isOfOrUnder_29 (tgt := 4) rfl ?_
        refine g_sub (lv' := [(1, .int (xa1)), (2, .int (xr6)), (3, .int (xa3 + 1))]) C [2, 1, 0] rfl ?_
        exact xH4 xa1 xr6 (xa3 + 1) xσ4 h
      · have h := iP xq3 h
        refine g_iconst (v := 1) (pc := 19) C dX2_isOfOrUnder_19 ci_1 ?_
        exact rtZ hr dX2_isOfOrUnder_20 (by decide) h
theorem l_X2_isOfOrUnder_4 {x : XT} {y : YT} {Z : State → Prop} (C : Cx x y (AY y) RX2 cX2_isOfOrUnder 4 rm_X2_isOfOrUnder) {r : Int32} {σ' : Sto} (hr : RetZ x y (AY y) 4 cX2_isOfOrUnder Z r σ') (n : Nat) (xa1 : Int32) (xa2 : Int32) (xa3 : Int32) (σ : Sto) (h : lo3 (F_X2_isOfOrUnder_b4) n xa1 xa2 xa3 σ = some (r, σ')) : GW x y (AY y) 4 Z 4 [(1, .int (xa1)), (2, .int (xa2)), (3, .int (xa3))] [] σ :=
  lo3_gw (G := fun xa1 xa2 xa3 σ => GW x y (AY y) 4 Z 4 [(1, .int (xa1)), (2, .int (xa2)), (3, .int (xa3))] [] σ) (fun xk xHk xa1 xa2 xa3 σ h => b_X2_isOfOrUnder_4 C hr xk xHk xa1 xa2 xa3 σ h) n xa1 xa2 xa3 σ h
set_option maxHeartbeats 4000000 in
set_option maxRecDepth 20000 in
theorem b_X2_isOfOrUnder_0 {x : XT} {y : YT} {Z : State → Prop} (C : Cx x y (AY y) RX2 cX2_isOfOrUnder 4 rm_X2_isOfOrUnder) {r : Int32} {σ' : Sto} (hr : RetZ x y (AY y) 4 cX2_isOfOrUnder Z r σ') (xa0 : Int32) (xa1 : Int32) (σ : Sto) (h : F_X2_isOfOrUnder xa0 xa1 σ = some (r, σ')) : GW x y (AY y) 4 Z 0 [(0, .int (xa0)), (1, .int (xa1))] [] σ := by
  unfold F_X2_isOfOrUnder at h
  refine g_iload_n (pc := 0) C dX2_isOfOrUnder_0 rfl 0 rfl ?_
  refine g_istore_n (i := 2) (lv' := [(2, .int (xa0)), (0, .int (xa0)), (1, .int (xa1))]) (pc := 1) C dX2_isOfOrUnder_1 rfl (Nat.le_of_ble_eq_true rfl) rfl ?_
  refine g_iconst (v := 0) (pc := 2) C dX2_isOfOrUnder_2 ci_0 ?_
  refine g_istore_n (i := 3) (lv' := [(3, .int (0)), (2, .int (xa0)), (0, .int (xa0)), (1, .int (xa1))]) (pc := 3) C dX2_isOfOrUnder_3 rfl (Nat.le_of_ble_eq_true rfl) rfl ?_
  refine g_sub (lv' := [(1, .int (xa1)), (2, .int (xa0)), (3, .int (0))]) C [3, 1, 0] rfl ?_
  exact l_X2_isOfOrUnder_4 C hr 1000 xa1 xa0 0 σ h
theorem c_X2_isOfOrUnder (l : Launch) (y : YT) (xa0 : Int32) (xa1 : Int32) (σ σ' : Sto) (r : Int32) (h : F_X2_isOfOrUnder xa0 xa1 σ = some (r, σ')) : MI l y yX2_isOfOrUnder (Cond.code yX2_isOfOrUnder cX2_isOfOrUnder 4 (some .boolean) :: TT) rm_X2_isOfOrUnder [.int (xa0), .int (xa1)] σ r σ' :=
  mkZ (by decide) rfl rfl rfl (Nat.le_of_ble_eq_true rfl) (fun x Z C hr => b_X2_isOfOrUnder_0 C hr xa0 xa1 σ h)
def rm_X2_off : Room := { frames := 1, cells := 0, slots := 0, locals := 40 }
def F_X2_off (xa0 : Nat) (xa1 : Int32) (σ : Sto) : Option (Int32 × Sto) := ck (kd (xa0) == 2) (some (iabs (((σ xa0 1) + xa1) - 80), σ))
set_option maxHeartbeats 4000000 in
set_option maxRecDepth 20000 in
theorem b_X2_off_0 {x : XT} {y : YT} {Z : State → Prop} (C : Cx x y (AY y) RX2 cX2_off 2 rm_X2_off) {r : Int32} {σ' : Sto} (hr : RetI x y (AY y) 2 cX2_off Z r σ') (xa0 : Nat) (xa1 : Int32) (σ : Sto) (h : F_X2_off xa0 xa1 σ = some (r, σ')) : GW x y (AY y) 2 Z 0 [(0, .ref (yad y (xa0))), (1, .int (xa1))] [] σ := by
  unfold F_X2_off at h
  refine g_aload_n (pc := 0) C dX2_off_0 rfl 0 rfl ?_
  obtain ⟨xq1, h⟩ := iC h
  have xq1 := keq xq1
  refine gf_2_1 (pc := 1) C wf_X2_19 dX2_off_1 xq1 ?_
  refine g_iload_n (pc := 4) C dX2_off_4 rfl 1 rfl ?_
  refine g_iadd (pc := 5) C dX2_off_5 ?_
  refine g_bipush (v := 80) (pc := 6) C dX2_off_6 cb_80 ?_
  refine g_isub (pc := 8) C dX2_off_8 ?_
  refine g_mabs (pc := 9) C dX2_off_9 wm_X2_41 wt_abs wn_Math wc_abs (Nat.le_of_ble_eq_true rfl) (Nat.le_of_ble_eq_true rfl) ?_
  exact rtI hr dX2_off_12 h
theorem c_X2_off (l : Launch) (y : YT) (xa0 : Nat) (xa1 : Int32) (σ σ' : Sto) (r : Int32) (h : F_X2_off xa0 xa1 σ = some (r, σ')) : MI l y yX2_off (Cond.code yX2_off cX2_off 2 (some .int) :: TT) rm_X2_off [.ref (yad y (xa0)), .int (xa1)] σ r σ' :=
  mkI (by decide) rfl rfl rfl (Nat.le_of_ble_eq_true rfl) (fun x Z C hr => b_X2_off_0 C hr xa0 xa1 σ h)
def rm_X2_mayBeOff : Room := { frames := 0, cells := 0, slots := 0, locals := 0 }
def F_X2_mayBeOff (xa0 : Nat) (σ : Sto) : Option (Int32 × Sto) := ck (kd (xa0) == 2) (lti (σ xa0 0) (fun xv2 => if xv2 = 1 then some (5, σ) else if xv2 = 2 then some (2, σ) else if xv2 = 3 then some (1, σ) else if xv2 = 4 then some (1 + ((σ xa0 2) / 3), σ) else if xv2 = 5 then some (2, σ) else if xv2 = 6 then some (10, σ) else some (2, σ)))
set_option maxHeartbeats 4000000 in
set_option maxRecDepth 20000 in
theorem b_X2_mayBeOff_0 {x : XT} {y : YT} {Z : State → Prop} (C : Cx x y (AY y) RX2 cX2_mayBeOff 1 rm_X2_mayBeOff) {r : Int32} {σ' : Sto} (hr : RetI x y (AY y) 1 cX2_mayBeOff Z r σ') (xa0 : Nat) (σ : Sto) (h : F_X2_mayBeOff xa0 σ = some (r, σ')) : GW x y (AY y) 1 Z 0 [(0, .ref (yad y (xa0)))] [] σ := by
  unfold F_X2_mayBeOff at h
  refine g_aload_n (pc := 0) C dX2_mayBeOff_0 rfl 0 rfl ?_
  obtain ⟨xq1, h⟩ := iC h
  have xq1 := keq xq1
  refine gf_2_0 (pc := 1) C wf_X2_15 dX2_mayBeOff_1 xq1 ?_
  refine g_letI h (fun xv2 h => ?_)
  by_cases xq3 : xv2 = 1
  · have h := iP xq3 h
    refine g_tabIn (pc := 4) C dX2_mayBeOff_4 (v := 1) (tgt := 44) (by decide) (by decide) rfl rfl xq3 ?_
    refine g_iconst (v := 5) (pc := 44) C dX2_mayBeOff_44 ci_5 ?_
    exact rtI hr dX2_mayBeOff_45 h
  · have h := iN xq3 h
    by_cases xq4 : xv2 = 2
    · have h := iP xq4 h
      refine g_tabIn (pc := 4) C dX2_mayBeOff_4 (v := 2) (tgt := 60) (by decide) (by decide) rfl rfl xq4 ?_
      refine g_iconst (v := 2) (pc := 60) C dX2_mayBeOff_60 ci_2 ?_
      exact rtI hr dX2_mayBeOff_61 h
    · have h := iN xq4 h
      by_cases xq5 : xv2 = 3
      · have h := iP xq5 h
        refine g_tabIn (pc := 4) C dX2_mayBeOff_4 (v := 3) (tgt := 49) (by decide) (by decide) rfl rfl xq5 ?_
        refine g_iconst (v := 1) (pc := 49) C dX2_mayBeOff_49 ci_1 ?_
        exact rtI hr dX2_mayBeOff_50 h
      · have h := iN xq5 h
        by_cases xq6 : xv2 = 4
        · have h := iP xq6 h
          refine g_tabIn (pc := 4) C dX2_mayBeOff_4 (v := 4) (tgt := 51) (by decide) (by decide) rfl rfl xq6 ?_
          refine g_iconst (v := 1) (pc := 51) C dX2_mayBeOff_51 ci_1 ?_
          refine g_aload_n (pc := 52) C dX2_mayBeOff_52 rfl 0 rfl ?_
          refine gf_2_2 (pc := 53) C wf_X2_22 dX2_mayBeOff_53 xq1 ?_
          refine g_iconst (v := 3) (pc := 56) C dX2_mayBeOff_56 ci_3 ?_
          refine g_idiv (pc := 57) C dX2_mayBeOff_57 (by decide) ?_
          refine g_iadd (pc := 58) C dX2_mayBeOff_58 ?_
          exact rtI hr dX2_mayBeOff_59 h
        · have h := iN xq6 h
          by_cases xq7 : xv2 = 5
          · have h := iP xq7 h
            refine g_tabIn (pc := 4) C dX2_mayBeOff_4 (v := 5) (tgt := 60) (by decide) (by decide) rfl rfl xq7 ?_
            refine g_iconst (v := 2) (pc := 60) C dX2_mayBeOff_60 ci_2 ?_
            exact rtI hr dX2_mayBeOff_61 h
          · have h := iN xq7 h
            by_cases xq8 : xv2 = 6
            · have h := iP xq8 h
              refine g_tabIn (pc := 4) C dX2_mayBeOff_4 (v := 6) (tgt := 46) (by decide) (by decide) rfl rfl xq8 ?_
              refine g_bipush (v := 10) (pc := 46) C dX2_mayBeOff_46 cb_10 ?_
              exact rtI hr dX2_mayBeOff_48 h
            · have h := iN xq8 h
              have xe0 : ¬ xv2.toInt = 1 := tne xq3
              have xe1 : ¬ xv2.toInt = 2 := tne xq4
              have xe2 : ¬ xv2.toInt = 3 := tne xq5
              have xe3 : ¬ xv2.toInt = 4 := tne xq6
              have xe4 : ¬ xv2.toInt = 5 := tne xq7
              have xe5 : ¬ xv2.toInt = 6 := tne xq8
              refine g_tabOut (pc := 4) C dX2_mayBeOff_4 (tgt := 60) (by omega) rfl ?_
              refine g_iconst (v := 2) (pc := 60) C dX2_mayBeOff_60 ci_2 ?_
              exact rtI hr dX2_mayBeOff_61 h
theorem c_X2_mayBeOff (l : Launch) (y : YT) (xa0 : Nat) (σ σ' : Sto) (r : Int32) (h : F_X2_mayBeOff xa0 σ = some (r, σ')) : MI l y yX2_mayBeOff (Cond.code yX2_mayBeOff cX2_mayBeOff 1 (some .int) :: TT) rm_X2_mayBeOff [.ref (yad y (xa0))] σ r σ' :=
  mkI (by decide) rfl rfl rfl (Nat.le_of_ble_eq_true rfl) (fun x Z C hr => b_X2_mayBeOff_0 C hr xa0 σ h)
def rm_X2_isShut : Room := { frames := 0, cells := 0, slots := 0, locals := 0 }
def F_X2_isShut_b33 (xa0 : Nat) (xa1 : Int32) (xa3 : Int32) (xa4 : Int32) (xs0 : Int32) (σ : Sto) : Option (Int32 × Sto) := ck (kd (xa0) == 2) (lti (σ xa0 0) (fun xv2 => if xv2 = 1 then if (xa4) = 0 then if xa3 < 8 then some (0, σ) else some (1, σ) else some (1, σ) else if xv2 = 2 then ck (z01 (xa4)) (some (xa4, σ)) else if xv2 = 3 then ck (z01 (xs0)) (some (xs0, σ)) else if xv2 = 4 then if (xs0) = 0 then some (0, σ) else if xa3 < 4 then some (0, σ) else some (1, σ) else if xv2 = 5 then ck (z01 (xa4)) (some (xa4, σ)) else if xv2 = 6 then if (irm xa1 2) = 0 then some (1, σ) else some (0, σ) else ck (z01 (xa4)) (some (xa4, σ))))
def F_X2_isShut_b18 (xa0 : Nat) (xa1 : Int32) (xa2 : Int32) (xa3 : Int32) (xs0 : Int32) (σ : Sto) : Option (Int32 × Sto) := if (irm (xa2 + xa1) 3) = 0 then F_X2_isShut_b33 xa0 xa1 xa3 xs0 1 σ else F_X2_isShut_b33 xa0 xa1 xa3 xs0 0 σ
def F_X2_isShut (xa0 : Nat) (xa1 : Int32) (xa2 : Int32) (xa3 : Int32) (σ : Sto) : Option (Int32 × Sto) := ck (kd (xa0) == 2) (if (irm ((xa2 + xa1) + (σ xa0 2)) 4) = 0 then F_X2_isShut_b18 xa0 xa1 xa2 xa3 1 σ else F_X2_isShut_b18 xa0 xa1 xa2 xa3 0 σ)
set_option maxHeartbeats 4000000 in
set_option maxRecDepth 20000 in
theorem b_X2_isShut_33 {x : XT} {y : YT} {Z : State → Prop} (C : Cx x y (AY y) RX2 cX2_isShut 6 rm_X2_isShut) {r : Int32} {σ' : Sto} (hr : RetZ x y (AY y) 6 cX2_isShut Z r σ') (xa0 : Nat) (xa1 : Int32) (xa3 : Int32) (xa4 : Int32) (xs0 : Int32) (σ : Sto) (h : F_X2_isShut_b33 xa0 xa1 xa3 xa4 xs0 σ = some (r, σ')) : GW x y (AY y) 6 Z 33 [(0, .ref (yad y (xa0))), (1, .int (xa1)), (3, .int (xa3)), (4, .int (xa4))] [.int (xs0)] σ := by
  unfold F_X2_isShut_b33 at h
  refine g_istore (i := 5) (lv' := [(5, .int (xs0)), (0, .ref (yad y (xa0))), (1, .int (xa1)), (3, .int (xa3)), (4, .int (xa4))]) (pc := 33) C dX2_isShut_33 (Nat.le_of_ble_eq_true rfl) rfl ?_
  refine g_aload_n (pc := 35) C dX2_isShut_35 rfl 1 rfl ?_
  obtain ⟨xq1, h⟩ := iC h
  have xq1 := keq xq1
  refine gf_2_0 (pc := 36) C wf_X2_15 dX2_isShut_36 xq1 ?_
  refine g_letI h (fun xv2 h => ?_)
  by_cases xq3 : xv2 = 1
  · have h := iP xq3 h
    refine g_tabIn (pc := 39) C dX2_isShut_39 (v := 1) (tgt := 76) (by decide) (by decide) rfl rfl xq3 ?_
    refine g_iload (pc := 76) C dX2_isShut_76 4 rfl ?_
    refine g_if_ne (pc := 78) C dX2_isShut_78 (tgt := 87) rfl (fun xq4 => ?_) (fun xq4 => ?_)
    · have h := iN xq4 h
      refine g_iconst (v := 1) (pc := 87) C dX2_isShut_87 ci_1 ?_
      refine g_goto (pc := 88) C dX2_isShut_88 (tgt := 92) rfl ?_
      exact rtZ hr dX2_isShut_92 (by decide) h
    · have h := iP xq4 h
      refine g_iload_n (pc := 81) C dX2_isShut_81 rfl 3 rfl ?_
      refine g_bipush (v := 8) (pc := 82) C dX2_isShut_82 cb_8 ?_
      refine g_icmp_lt (pc := 84) C dX2_isShut_84 (tgt := 91) rfl (fun xq5 => ?_) (fun xq5 => ?_)
      · have h := iP xq5 h
        refine g_iconst (v := 0) (pc := 91) C dX2_isShut_91 ci_0 ?_
        exact rtZ hr dX2_isShut_92 (by decide) h
      · have h := iN xq5 h
        refine g_iconst (v := 1) (pc := 87) C dX2_isShut_87 ci_1 ?_
        refine g_goto (pc := 88) C dX2_isShut_88 (tgt := 92) rfl ?_
        exact rtZ hr dX2_isShut_92 (by decide) h
  · have h := iN xq3 h
    by_cases xq6 : xv2 = 2
    · have h := iP xq6 h
      refine g_tabIn (pc := 39) C dX2_isShut_39 (v := 2) (tgt := 124) (by decide) (by decide) rfl rfl xq6 ?_
      refine g_iload (pc := 124) C dX2_isShut_124 4 rfl ?_
      obtain ⟨xz, h⟩ := iC h
      exact rtZ hr dX2_isShut_126 (z01_or xz) h
    · have h := iN xq6 h
      by_cases xq7 : xv2 = 3
      · have h := iP xq7 h
        refine g_tabIn (pc := 39) C dX2_isShut_39 (v := 3) (tgt := 105) (by decide) (by decide) rfl rfl xq7 ?_
        refine g_iload (pc := 105) C dX2_isShut_105 0 rfl ?_
        obtain ⟨xz, h⟩ := iC h
        exact rtZ hr dX2_isShut_107 (z01_or xz) h
      · have h := iN xq7 h
        by_cases xq8 : xv2 = 4
        · have h := iP xq8 h
          refine g_tabIn (pc := 39) C dX2_isShut_39 (v := 4) (tgt := 108) (by decide) (by decide) rfl rfl xq8 ?_
          refine g_iload (pc := 108) C dX2_isShut_108 0 rfl ?_
          refine g_if_eq (pc := 110) C dX2_isShut_110 (tgt := 122) rfl (fun xq9 => ?_) (fun xq9 => ?_)
          · have h := iP xq9 h
            refine g_iconst (v := 0) (pc := 122) C dX2_isShut_122 ci_0 ?_
            exact rtZ hr dX2_isShut_123 (by decide) h
          · have h := iN xq9 h
            refine g_iload_n (pc := 113) C dX2_isShut_113 rfl 3 rfl ?_
            refine g_iconst (v := 4) (pc := 114) C dX2_isShut_114 ci_4 ?_
            refine g_icmp_lt (pc := 115) C dX2_isShut_115 (tgt := 122) rfl (fun xq10 => ?_) (fun xq10 => ?_)
            · have h := iP xq10 h
              refine g_iconst (v := 0) (pc := 122) C dX2_isShut_122 ci_0 ?_
              exact rtZ hr dX2_isShut_123 (by decide) h
            · have h := iN xq10 h
              refine g_iconst (v := 1) (pc := 118) C dX2_isShut_118 ci_1 ?_
              refine g_goto (pc := 119) C dX2_isShut_119 (tgt := 123) rfl ?_
              exact rtZ hr dX2_isShut_123 (by decide) h
        · have h := iN xq8 h
          by_cases xq11 : xv2 = 5
          · have h := iP xq11 h
            refine g_tabIn (pc := 39) C dX2_isShut_39 (v := 5) (tgt := 124) (by decide) (by decide) rfl rfl xq11 ?_
            refine g_iload (pc := 124) C dX2_isShut_124 4 rfl ?_
            obtain ⟨xz, h⟩ := iC h
            exact rtZ hr dX2_isShut_126 (z01_or xz) h
          · have h := iN xq11 h
            by_cases xq12 : xv2 = 6
            · have h := iP xq12 h
              refine g_tabIn (pc := 39) C dX2_isShut_39 (v := 6) (tgt := 93) (by decide) (by decide) rfl rfl xq12 ?_
              refine g_iload_n (pc := 93) C dX2_isShut_93 rfl 2 rfl ?_
              refine g_iconst (v := 2) (pc := 94) C dX2_isShut_94 ci_2 ?_
              refine g_irem (pc := 95) C dX2_isShut_95 (by decide) ?_
              refine g_if_ne (pc := 96) C dX2_isShut_96 (tgt := 103) rfl (fun xq13 => ?_) (fun xq13 => ?_)
              · have h := iN xq13 h
                refine g_iconst (v := 0) (pc := 103) C dX2_isShut_103 ci_0 ?_
                exact rtZ hr dX2_isShut_104 (by decide) h
              · have h := iP xq13 h
                refine g_iconst (v := 1) (pc := 99) C dX2_isShut_99 ci_1 ?_
                refine g_goto (pc := 100) C dX2_isShut_100 (tgt := 104) rfl ?_
                exact rtZ hr dX2_isShut_104 (by decide) h
            · have h := iN xq12 h
              have xe0 : ¬ xv2.toInt = 1 := tne xq3
              have xe1 : ¬ xv2.toInt = 2 := tne xq6
              have xe2 : ¬ xv2.toInt = 3 := tne xq7
              have xe3 : ¬ xv2.toInt = 4 := tne xq8
              have xe4 : ¬ xv2.toInt = 5 := tne xq11
              have xe5 : ¬ xv2.toInt = 6 := tne xq12
              refine g_tabOut (pc := 39) C dX2_isShut_39 (tgt := 124) (by omega) rfl ?_
              refine g_iload (pc := 124) C dX2_isShut_124 4 rfl ?_
              obtain ⟨xz, h⟩ := iC h
              exact rtZ hr dX2_isShut_126 (z01_or xz) h
set_option maxHeartbeats 4000000 in
set_option maxRecDepth 20000 in
theorem b_X2_isShut_18 {x : XT} {y : YT} {Z : State → Prop} (C : Cx x y (AY y) RX2 cX2_isShut 6 rm_X2_isShut) {r : Int32} {σ' : Sto} (hr : RetZ x y (AY y) 6 cX2_isShut Z r σ') (xa0 : Nat) (xa1 : Int32) (xa2 : Int32) (xa3 : Int32) (xs0 : Int32) (σ : Sto) (h : F_X2_isShut_b18 xa0 xa1 xa2 xa3 xs0 σ = some (r, σ')) : GW x y (AY y) 6 Z 18 [(0, .ref (yad y (xa0))), (1, .int (xa1)), (2, .int (xa2)), (3, .int (xa3))] [.int (xs0)] σ := by
  unfold F_X2_isShut_b18 at h
  refine g_istore (i := 4) (lv' := [(4, .int (xs0)), (0, .ref (yad y (xa0))), (1, .int (xa1)), (2, .int (xa2)), (3, .int (xa3))]) (pc := 18) C dX2_isShut_18 (Nat.le_of_ble_eq_true rfl) rfl ?_
  refine g_iload_n (pc := 20) C dX2_isShut_20 rfl 3 rfl ?_
  refine g_iload_n (pc := 21) C dX2_isShut_21 rfl 2 rfl ?_
  refine g_iadd (pc := 22) C dX2_isShut_22 ?_
  refine g_iconst (v := 3) (pc := 23) C dX2_isShut_23 ci_3 ?_
  refine g_irem (pc := 24) C dX2_isShut_24 (by decide) ?_
  refine g_if_ne (pc := 25) C dX2_isShut_25 (tgt := 32) rfl (fun xq1 => ?_) (fun xq1 => ?_)
  · have h := iN xq1 h
    refine g_iconst (v := 0) (pc := 32) C dX2_isShut_32 ci_0 ?_
    refine g_sub (lv' := [(0, .ref (yad y (xa0))), (1, .int (xa1)), (3, .int (xa3)), (4, .int (xs0))]) C [1, 2, 4, 0] rfl ?_
    exact b_X2_isShut_33 C hr xa0 xa1 xa3 xs0 0 σ h
  · have h := iP xq1 h
    refine g_iconst (v := 1) (pc := 28) C dX2_isShut_28 ci_1 ?_
    refine g_goto (pc := 29) C dX2_isShut_29 (tgt := 33) rfl ?_
    refine g_sub (lv' := [(0, .ref (yad y (xa0))), (1, .int (xa1)), (3, .int (xa3)), (4, .int (xs0))]) C [1, 2, 4, 0] rfl ?_
    exact b_X2_isShut_33 C hr xa0 xa1 xa3 xs0 1 σ h
set_option maxHeartbeats 4000000 in
set_option maxRecDepth 20000 in
theorem b_X2_isShut_0 {x : XT} {y : YT} {Z : State → Prop} (C : Cx x y (AY y) RX2 cX2_isShut 6 rm_X2_isShut) {r : Int32} {σ' : Sto} (hr : RetZ x y (AY y) 6 cX2_isShut Z r σ') (xa0 : Nat) (xa1 : Int32) (xa2 : Int32) (xa3 : Int32) (σ : Sto) (h : F_X2_isShut xa0 xa1 xa2 xa3 σ = some (r, σ')) : GW x y (AY y) 6 Z 0 [(0, .ref (yad y (xa0))), (1, .int (xa1)), (2, .int (xa2)), (3, .int (xa3))] [] σ := by
  unfold F_X2_isShut at h
  refine g_iload_n (pc := 0) C dX2_isShut_0 rfl 2 rfl ?_
  refine g_iload_n (pc := 1) C dX2_isShut_1 rfl 1 rfl ?_
  refine g_iadd (pc := 2) C dX2_isShut_2 ?_
  refine g_aload_n (pc := 3) C dX2_isShut_3 rfl 0 rfl ?_
  obtain ⟨xq1, h⟩ := iC h
  have xq1 := keq xq1
  refine gf_2_2 (pc := 4) C wf_X2_22 dX2_isShut_4 xq1 ?_
  refine g_iadd (pc := 7) C dX2_isShut_7 ?_
  refine g_iconst (v := 4) (pc := 8) C dX2_isShut_8 ci_4 ?_
  refine g_irem (pc := 9) C dX2_isShut_9 (by decide) ?_
  refine g_if_ne (pc := 10) C dX2_isShut_10 (tgt := 17) rfl (fun xq2 => ?_) (fun xq2 => ?_)
  · have h := iN xq2 h
    refine g_iconst (v := 0) (pc := 17) C dX2_isShut_17 ci_0 ?_
    exact b_X2_isShut_18 C hr xa0 xa1 xa2 xa3 0 σ h
  · have h := iP xq2 h
    refine g_iconst (v := 1) (pc := 13) C dX2_isShut_13 ci_1 ?_
    refine g_goto (pc := 14) C dX2_isShut_14 (tgt := 18) rfl ?_
    exact b_X2_isShut_18 C hr xa0 xa1 xa2 xa3 1 σ h
theorem c_X2_isShut (l : Launch) (y : YT) (xa0 : Nat) (xa1 : Int32) (xa2 : Int32) (xa3 : Int32) (σ σ' : Sto) (r : Int32) (h : F_X2_isShut xa0 xa1 xa2 xa3 σ = some (r, σ')) : MI l y yX2_isShut (Cond.code yX2_isShut cX2_isShut 6 (some .boolean) :: TT) rm_X2_isShut [.ref (yad y (xa0)), .int (xa1), .int (xa2), .int (xa3)] σ r σ' :=
  mkZ (by decide) rfl rfl rfl (Nat.le_of_ble_eq_true rfl) (fun x Z C hr => b_X2_isShut_0 C hr xa0 xa1 xa2 xa3 σ h)
def rm_X2_isSmiling : Room := { frames := 0, cells := 0, slots := 0, locals := 0 }
def F_X2_isSmiling_b26 (xa0 : Nat) (xa1 : Int32) (xs0 : Int32) (σ : Sto) : Option (Int32 × Sto) := ck (kd (xa0) == 2) (lti (σ xa0 0) (fun xv2 => if xv2 = 1 then if ((σ xa0 3) + xa1) ≤ 4 then some (0, σ) else some (1, σ) else if xv2 = 2 then ck (z01 (xs0)) (some (xs0, σ)) else if xv2 = 3 then some (0, σ) else if xv2 = 4 then some (0, σ) else if xv2 = 5 then if (xs0) = 0 then some (0, σ) else if (xa1) = 0 then some (0, σ) else some (1, σ) else if xv2 = 6 then some (0, σ) else ck (z01 (xs0)) (some (xs0, σ))))
def F_X2_isSmiling_b21 (xa0 : Nat) (xa1 : Int32) (σ : Sto) : Option (Int32 × Sto) := F_X2_isSmiling_b26 xa0 xa1 1 σ
def F_X2_isSmiling_b25 (xa0 : Nat) (xa1 : Int32) (σ : Sto) : Option (Int32 × Sto) := F_X2_isSmiling_b26 xa0 xa1 0 σ
def F_X2_isSmiling (xa0 : Nat) (xa1 : Int32) (σ : Sto) : Option (Int32 × Sto) := ck (kd (xa0) == 2) (if 5 < (σ xa0 3) then F_X2_isSmiling_b21 xa0 xa1 σ else if xa1 = 3 then if (σ xa0 3) ≤ 2 then F_X2_isSmiling_b25 xa0 xa1 σ else F_X2_isSmiling_b21 xa0 xa1 σ else F_X2_isSmiling_b25 xa0 xa1 σ)
set_option maxHeartbeats 4000000 in
set_option maxRecDepth 20000 in
theorem b_X2_isSmiling_26 {x : XT} {y : YT} {Z : State → Prop} (C : Cx x y (AY y) RX2 cX2_isSmiling 3 rm_X2_isSmiling) {r : Int32} {σ' : Sto} (hr : RetZ x y (AY y) 3 cX2_isSmiling Z r σ') (xa0 : Nat) (xa1 : Int32) (xs0 : Int32) (σ : Sto) (h : F_X2_isSmiling_b26 xa0 xa1 xs0 σ = some (r, σ')) : GW x y (AY y) 3 Z 26 [(0, .ref (yad y (xa0))), (1, .int (xa1))] [.int (xs0)] σ := by
  unfold F_X2_isSmiling_b26 at h
  refine g_istore_n (i := 2) (lv' := [(2, .int (xs0)), (0, .ref (yad y (xa0))), (1, .int (xa1))]) (pc := 26) C dX2_isSmiling_26 rfl (Nat.le_of_ble_eq_true rfl) rfl ?_
  refine g_aload_n (pc := 27) C dX2_isSmiling_27 rfl 1 rfl ?_
  obtain ⟨xq1, h⟩ := iC h
  have xq1 := keq xq1
  refine gf_2_0 (pc := 28) C wf_X2_15 dX2_isSmiling_28 xq1 ?_
  refine g_letI h (fun xv2 h => ?_)
  by_cases xq3 : xv2 = 1
  · have h := iP xq3 h
    refine g_tabIn (pc := 31) C dX2_isSmiling_31 (v := 1) (tgt := 68) (by decide) (by decide) rfl rfl xq3 ?_
    refine g_aload_n (pc := 68) C dX2_isSmiling_68 rfl 1 rfl ?_
    refine gf_2_3 (pc := 69) C wf_X2_25 dX2_isSmiling_69 xq1 ?_
    refine g_iload_n (pc := 72) C dX2_isSmiling_72 rfl 2 rfl ?_
    refine g_iadd (pc := 73) C dX2_isSmiling_73 ?_
    refine g_iconst (v := 4) (pc := 74) C dX2_isSmiling_74 ci_4 ?_
    refine g_icmp_le (pc := 75) C dX2_isSmiling_75 (tgt := 82) rfl (fun xq4 => ?_) (fun xq4 => ?_)
    · have h := iP xq4 h
      refine g_iconst (v := 0) (pc := 82) C dX2_isSmiling_82 ci_0 ?_
      exact rtZ hr dX2_isSmiling_83 (by decide) h
    · have h := iN xq4 h
      refine g_iconst (v := 1) (pc := 78) C dX2_isSmiling_78 ci_1 ?_
      refine g_goto (pc := 79) C dX2_isSmiling_79 (tgt := 83) rfl ?_
      exact rtZ hr dX2_isSmiling_83 (by decide) h
  · have h := iN xq3 h
    by_cases xq5 : xv2 = 2
    · have h := iP xq5 h
      refine g_tabIn (pc := 31) C dX2_isSmiling_31 (v := 2) (tgt := 100) (by decide) (by decide) rfl rfl xq5 ?_
      refine g_iload_n (pc := 100) C dX2_isSmiling_100 rfl 0 rfl ?_
      obtain ⟨xz, h⟩ := iC h
      exact rtZ hr dX2_isSmiling_101 (z01_or xz) h
    · have h := iN xq5 h
      by_cases xq6 : xv2 = 3
      · have h := iP xq6 h
        refine g_tabIn (pc := 31) C dX2_isSmiling_31 (v := 3) (tgt := 84) (by decide) (by decide) rfl rfl xq6 ?_
        refine g_iconst (v := 0) (pc := 84) C dX2_isSmiling_84 ci_0 ?_
        exact rtZ hr dX2_isSmiling_85 (by decide) h
      · have h := iN xq6 h
        by_cases xq7 : xv2 = 4
        · have h := iP xq7 h
          refine g_tabIn (pc := 31) C dX2_isSmiling_31 (v := 4) (tgt := 84) (by decide) (by decide) rfl rfl xq7 ?_
          refine g_iconst (v := 0) (pc := 84) C dX2_isSmiling_84 ci_0 ?_
          exact rtZ hr dX2_isSmiling_85 (by decide) h
        · have h := iN xq7 h
          by_cases xq8 : xv2 = 5
          · have h := iP xq8 h
            refine g_tabIn (pc := 31) C dX2_isSmiling_31 (v := 5) (tgt := 86) (by decide) (by decide) rfl rfl xq8 ?_
            refine g_iload_n (pc := 86) C dX2_isSmiling_86 rfl 0 rfl ?_
            refine g_if_eq (pc := 87) C dX2_isSmiling_87 (tgt := 98) rfl (fun xq9 => ?_) (fun xq9 => ?_)
            · have h := iP xq9 h
              refine g_iconst (v := 0) (pc := 98) C dX2_isSmiling_98 ci_0 ?_
              exact rtZ hr dX2_isSmiling_99 (by decide) h
            · have h := iN xq9 h
              refine g_iload_n (pc := 90) C dX2_isSmiling_90 rfl 2 rfl ?_
              refine g_if_eq (pc := 91) C dX2_isSmiling_91 (tgt := 98) rfl (fun xq10 => ?_) (fun xq10 => ?_)
              · have h := iP xq10 h
                refine g_iconst (v := 0) (pc := 98) C dX2_isSmiling_98 ci_0 ?_
                exact rtZ hr dX2_isSmiling_99 (by decide) h
              · have h := iN xq10 h
                refine g_iconst (v := 1) (pc := 94) C dX2_isSmiling_94 ci_1 ?_
                refine g_goto (pc := 95) C dX2_isSmiling_95 (tgt := 99) rfl ?_
                exact rtZ hr dX2_isSmiling_99 (by decide) h
          · have h := iN xq8 h
            by_cases xq11 : xv2 = 6
            · have h := iP xq11 h
              refine g_tabIn (pc := 31) C dX2_isSmiling_31 (v := 6) (tgt := 84) (by decide) (by decide) rfl rfl xq11 ?_
              refine g_iconst (v := 0) (pc := 84) C dX2_isSmiling_84 ci_0 ?_
              exact rtZ hr dX2_isSmiling_85 (by decide) h
            · have h := iN xq11 h
              have xe0 : ¬ xv2.toInt = 1 := tne xq3
              have xe1 : ¬ xv2.toInt = 2 := tne xq5
              have xe2 : ¬ xv2.toInt = 3 := tne xq6
              have xe3 : ¬ xv2.toInt = 4 := tne xq7
              have xe4 : ¬ xv2.toInt = 5 := tne xq8
              have xe5 : ¬ xv2.toInt = 6 := tne xq11
              refine g_tabOut (pc := 31) C dX2_isSmiling_31 (tgt := 100) (by omega) rfl ?_
              refine g_iload_n (pc := 100) C dX2_isSmiling_100 rfl 0 rfl ?_
              obtain ⟨xz, h⟩ := iC h
              exact rtZ hr dX2_isSmiling_101 (z01_or xz) h
set_option maxHeartbeats 4000000 in
set_option maxRecDepth 20000 in
theorem b_X2_isSmiling_21 {x : XT} {y : YT} {Z : State → Prop} (C : Cx x y (AY y) RX2 cX2_isSmiling 3 rm_X2_isSmiling) {r : Int32} {σ' : Sto} (hr : RetZ x y (AY y) 3 cX2_isSmiling Z r σ') (xa0 : Nat) (xa1 : Int32) (σ : Sto) (h : F_X2_isSmiling_b21 xa0 xa1 σ = some (r, σ')) : GW x y (AY y) 3 Z 21 [(0, .ref (yad y (xa0))), (1, .int (xa1))] [] σ := by
  unfold F_X2_isSmiling_b21 at h
  refine g_iconst (v := 1) (pc := 21) C dX2_isSmiling_21 ci_1 ?_
  refine g_goto (pc := 22) C dX2_isSmiling_22 (tgt := 26) rfl ?_
  exact b_X2_isSmiling_26 C hr xa0 xa1 1 σ h
set_option maxHeartbeats 4000000 in
set_option maxRecDepth 20000 in
theorem b_X2_isSmiling_25 {x : XT} {y : YT} {Z : State → Prop} (C : Cx x y (AY y) RX2 cX2_isSmiling 3 rm_X2_isSmiling) {r : Int32} {σ' : Sto} (hr : RetZ x y (AY y) 3 cX2_isSmiling Z r σ') (xa0 : Nat) (xa1 : Int32) (σ : Sto) (h : F_X2_isSmiling_b25 xa0 xa1 σ = some (r, σ')) : GW x y (AY y) 3 Z 25 [(0, .ref (yad y (xa0))), (1, .int (xa1))] [] σ := by
  unfold F_X2_isSmiling_b25 at h
  refine g_iconst (v := 0) (pc := 25) C dX2_isSmiling_25 ci_0 ?_
  exact b_X2_isSmiling_26 C hr xa0 xa1 0 σ h
set_option maxHeartbeats 4000000 in
set_option maxRecDepth 20000 in
theorem b_X2_isSmiling_0 {x : XT} {y : YT} {Z : State → Prop} (C : Cx x y (AY y) RX2 cX2_isSmiling 3 rm_X2_isSmiling) {r : Int32} {σ' : Sto} (hr : RetZ x y (AY y) 3 cX2_isSmiling Z r σ') (xa0 : Nat) (xa1 : Int32) (σ : Sto) (h : F_X2_isSmiling xa0 xa1 σ = some (r, σ')) : GW x y (AY y) 3 Z 0 [(0, .ref (yad y (xa0))), (1, .int (xa1))] [] σ := by
  unfold F_X2_isSmiling at h
  refine g_aload_n (pc := 0) C dX2_isSmiling_0 rfl 0 rfl ?_
  obtain ⟨xq1, h⟩ := iC h
  have xq1 := keq xq1
  refine gf_2_3 (pc := 1) C wf_X2_25 dX2_isSmiling_1 xq1 ?_
  refine g_iconst (v := 5) (pc := 4) C dX2_isSmiling_4 ci_5 ?_
  refine g_icmp_gt (pc := 5) C dX2_isSmiling_5 (tgt := 21) rfl (fun xq2 => ?_) (fun xq2 => ?_)
  · have h := iP xq2 h
    exact b_X2_isSmiling_21 C hr xa0 xa1 σ h
  · have h := iN xq2 h
    refine g_iload_n (pc := 8) C dX2_isSmiling_8 rfl 1 rfl ?_
    refine g_iconst (v := 3) (pc := 9) C dX2_isSmiling_9 ci_3 ?_
    refine g_icmp_ne (pc := 10) C dX2_isSmiling_10 (tgt := 25) rfl (fun xq3 => ?_) (fun xq3 => ?_)
    · have h := iN xq3 h
      exact b_X2_isSmiling_25 C hr xa0 xa1 σ h
    · have h := iP xq3 h
      refine g_aload_n (pc := 13) C dX2_isSmiling_13 rfl 0 rfl ?_
      refine gf_2_3 (pc := 14) C wf_X2_25 dX2_isSmiling_14 xq1 ?_
      refine g_iconst (v := 2) (pc := 17) C dX2_isSmiling_17 ci_2 ?_
      refine g_icmp_le (pc := 18) C dX2_isSmiling_18 (tgt := 25) rfl (fun xq4 => ?_) (fun xq4 => ?_)
      · have h := iP xq4 h
        exact b_X2_isSmiling_25 C hr xa0 xa1 σ h
      · have h := iN xq4 h
        exact b_X2_isSmiling_21 C hr xa0 xa1 σ h
theorem c_X2_isSmiling (l : Launch) (y : YT) (xa0 : Nat) (xa1 : Int32) (σ σ' : Sto) (r : Int32) (h : F_X2_isSmiling xa0 xa1 σ = some (r, σ')) : MI l y yX2_isSmiling (Cond.code yX2_isSmiling cX2_isSmiling 3 (some .boolean) :: TT) rm_X2_isSmiling [.ref (yad y (xa0)), .int (xa1)] σ r σ' :=
  mkZ (by decide) rfl rfl rfl (Nat.le_of_ble_eq_true rfl) (fun x Z C hr => b_X2_isSmiling_0 C hr xa0 xa1 σ h)
def rm_X2_isShining : Room := { frames := 0, cells := 0, slots := 0, locals := 0 }
def F_X2_isShining (xa0 : Nat) (xa1 : Int32) (σ : Sto) : Option (Int32 × Sto) := ck (kd (xa0) == 2) (lti (σ xa0 0) (fun xv2 => if xv2 = 2 then if xa1 ≤ 6 then some (0, σ) else some (1, σ) else if xv2 = 3 then if xa1 ≤ 6 then some (0, σ) else some (1, σ) else if xv2 = 4 then if xa1 ≤ 5 then some (0, σ) else some (1, σ) else some (0, σ)))
set_option maxHeartbeats 4000000 in
set_option maxRecDepth 20000 in
theorem b_X2_isShining_0 {x : XT} {y : YT} {Z : State → Prop} (C : Cx x y (AY y) RX2 cX2_isShining 2 rm_X2_isShining) {r : Int32} {σ' : Sto} (hr : RetZ x y (AY y) 2 cX2_isShining Z r σ') (xa0 : Nat) (xa1 : Int32) (σ : Sto) (h : F_X2_isShining xa0 xa1 σ = some (r, σ')) : GW x y (AY y) 2 Z 0 [(0, .ref (yad y (xa0))), (1, .int (xa1))] [] σ := by
  unfold F_X2_isShining at h
  refine g_aload_n (pc := 0) C dX2_isShining_0 rfl 0 rfl ?_
  obtain ⟨xq1, h⟩ := iC h
  have xq1 := keq xq1
  refine gf_2_0 (pc := 1) C wf_X2_15 dX2_isShining_1 xq1 ?_
  refine g_letI h (fun xv2 h => ?_)
  by_cases xq3 : xv2 = 2
  · have h := iP xq3 h
    refine g_tabIn (pc := 4) C dX2_isShining_4 (v := 2) (tgt := 32) (by decide) (by decide) rfl rfl xq3 ?_
    refine g_iload_n (pc := 32) C dX2_isShining_32 rfl 1 rfl ?_
    refine g_bipush (v := 6) (pc := 33) C dX2_isShining_33 cb_6 ?_
    refine g_icmp_le (pc := 35) C dX2_isShining_35 (tgt := 42) rfl (fun xq4 => ?_) (fun xq4 => ?_)
    · have h := iP xq4 h
      refine g_iconst (v := 0) (pc := 42) C dX2_isShining_42 ci_0 ?_
      exact rtZ hr dX2_isShining_43 (by decide) h
    · have h := iN xq4 h
      refine g_iconst (v := 1) (pc := 38) C dX2_isShining_38 ci_1 ?_
      refine g_goto (pc := 39) C dX2_isShining_39 (tgt := 43) rfl ?_
      exact rtZ hr dX2_isShining_43 (by decide) h
  · have h := iN xq3 h
    by_cases xq5 : xv2 = 3
    · have h := iP xq5 h
      refine g_tabIn (pc := 4) C dX2_isShining_4 (v := 3) (tgt := 32) (by decide) (by decide) rfl rfl xq5 ?_
      refine g_iload_n (pc := 32) C dX2_isShining_32 rfl 1 rfl ?_
      refine g_bipush (v := 6) (pc := 33) C dX2_isShining_33 cb_6 ?_
      refine g_icmp_le (pc := 35) C dX2_isShining_35 (tgt := 42) rfl (fun xq6 => ?_) (fun xq6 => ?_)
      · have h := iP xq6 h
        refine g_iconst (v := 0) (pc := 42) C dX2_isShining_42 ci_0 ?_
        exact rtZ hr dX2_isShining_43 (by decide) h
      · have h := iN xq6 h
        refine g_iconst (v := 1) (pc := 38) C dX2_isShining_38 ci_1 ?_
        refine g_goto (pc := 39) C dX2_isShining_39 (tgt := 43) rfl ?_
        exact rtZ hr dX2_isShining_43 (by decide) h
    · have h := iN xq5 h
      by_cases xq7 : xv2 = 4
      · have h := iP xq7 h
        refine g_tabIn (pc := 4) C dX2_isShining_4 (v := 4) (tgt := 44) (by decide) (by decide) rfl rfl xq7 ?_
        refine g_iload_n (pc := 44) C dX2_isShining_44 rfl 1 rfl ?_
        refine g_iconst (v := 5) (pc := 45) C dX2_isShining_45 ci_5 ?_
        refine g_icmp_le (pc := 46) C dX2_isShining_46 (tgt := 53) rfl (fun xq8 => ?_) (fun xq8 => ?_)
        · have h := iP xq8 h
          refine g_iconst (v := 0) (pc := 53) C dX2_isShining_53 ci_0 ?_
          exact rtZ hr dX2_isShining_54 (by decide) h
        · have h := iN xq8 h
          refine g_iconst (v := 1) (pc := 49) C dX2_isShining_49 ci_1 ?_
          refine g_goto (pc := 50) C dX2_isShining_50 (tgt := 54) rfl ?_
          exact rtZ hr dX2_isShining_54 (by decide) h
      · have h := iN xq7 h
        have xe0 : ¬ xv2.toInt = 2 := tne xq3
        have xe1 : ¬ xv2.toInt = 3 := tne xq5
        have xe2 : ¬ xv2.toInt = 4 := tne xq7
        refine g_tabOut (pc := 4) C dX2_isShining_4 (tgt := 55) (by omega) rfl ?_
        refine g_iconst (v := 0) (pc := 55) C dX2_isShining_55 ci_0 ?_
        exact rtZ hr dX2_isShining_56 (by decide) h
theorem c_X2_isShining (l : Launch) (y : YT) (xa0 : Nat) (xa1 : Int32) (σ σ' : Sto) (r : Int32) (h : F_X2_isShining xa0 xa1 σ = some (r, σ')) : MI l y yX2_isShining (Cond.code yX2_isShining cX2_isShining 2 (some .boolean) :: TT) rm_X2_isShining [.ref (yad y (xa0)), .int (xa1)] σ r σ' :=
  mkZ (by decide) rfl rfl rfl (Nat.le_of_ble_eq_true rfl) (fun x Z C hr => b_X2_isShining_0 C hr xa0 xa1 σ h)
def rm_X1_isWidth : Room := { frames := 0, cells := 0, slots := 0, locals := 0 }
def F_X1_isWidth (xa0 : Int32) (σ : Sto) : Option (Int32 × Sto) := if (xa0) = 0 then some (1, σ) else if xa0 = 8 then some (1, σ) else if xa0 = 16 then some (1, σ) else if xa0 = 32 then some (1, σ) else some (0, σ)
set_option maxHeartbeats 4000000 in
set_option maxRecDepth 20000 in
theorem b_X1_isWidth_0 {x : XT} {y : YT} {Z : State → Prop} (C : Cx x y (AY y) RX1 cX1_isWidth 1 rm_X1_isWidth) {r : Int32} {σ' : Sto} (hr : RetZ x y (AY y) 1 cX1_isWidth Z r σ') (xa0 : Int32) (σ : Sto) (h : F_X1_isWidth xa0 σ = some (r, σ')) : GW x y (AY y) 1 Z 0 [(0, .int (xa0))] [] σ := by
  unfold F_X1_isWidth at h
  refine g_iload_n (pc := 0) C dX1_isWidth_0 rfl 0 rfl ?_
  refine g_if_eq (pc := 1) C dX1_isWidth_1 (tgt := 22) rfl (fun xq1 => ?_) (fun xq1 => ?_)
  · have h := iP xq1 h
    refine g_iconst (v := 1) (pc := 22) C dX1_isWidth_22 ci_1 ?_
    refine g_goto (pc := 23) C dX1_isWidth_23 (tgt := 27) rfl ?_
    exact rtZ hr dX1_isWidth_27 (by decide) h
  · have h := iN xq1 h
    refine g_iload_n (pc := 4) C dX1_isWidth_4 rfl 0 rfl ?_
    refine g_bipush (v := 8) (pc := 5) C dX1_isWidth_5 cb_8 ?_
    refine g_icmp_eq (pc := 7) C dX1_isWidth_7 (tgt := 22) rfl (fun xq2 => ?_) (fun xq2 => ?_)
    · have h := iP xq2 h
      refine g_iconst (v := 1) (pc := 22) C dX1_isWidth_22 ci_1 ?_
      refine g_goto (pc := 23) C dX1_isWidth_23 (tgt := 27) rfl ?_
      exact rtZ hr dX1_isWidth_27 (by decide) h
    · have h := iN xq2 h
      refine g_iload_n (pc := 10) C dX1_isWidth_10 rfl 0 rfl ?_
      refine g_bipush (v := 16) (pc := 11) C dX1_isWidth_11 cb_16 ?_
      refine g_icmp_eq (pc := 13) C dX1_isWidth_13 (tgt := 22) rfl (fun xq3 => ?_) (fun xq3 => ?_)
      · have h := iP xq3 h
        refine g_iconst (v := 1) (pc := 22) C dX1_isWidth_22 ci_1 ?_
        refine g_goto (pc := 23) C dX1_isWidth_23 (tgt := 27) rfl ?_
        exact rtZ hr dX1_isWidth_27 (by decide) h
      · have h := iN xq3 h
        refine g_iload_n (pc := 16) C dX1_isWidth_16 rfl 0 rfl ?_
        refine g_bipush (v := 32) (pc := 17) C dX1_isWidth_17 cb_32 ?_
        refine g_icmp_ne (pc := 19) C dX1_isWidth_19 (tgt := 26) rfl (fun xq4 => ?_) (fun xq4 => ?_)
        · have h := iN xq4 h
          refine g_iconst (v := 0) (pc := 26) C dX1_isWidth_26 ci_0 ?_
          exact rtZ hr dX1_isWidth_27 (by decide) h
        · have h := iP xq4 h
          refine g_iconst (v := 1) (pc := 22) C dX1_isWidth_22 ci_1 ?_
          refine g_goto (pc := 23) C dX1_isWidth_23 (tgt := 27) rfl ?_
          exact rtZ hr dX1_isWidth_27 (by decide) h
theorem c_X1_isWidth (l : Launch) (y : YT) (xa0 : Int32) (σ σ' : Sto) (r : Int32) (h : F_X1_isWidth xa0 σ = some (r, σ')) : MI l y yX1_isWidth (Cond.code yX1_isWidth cX1_isWidth 1 (some .boolean) :: TT) rm_X1_isWidth [.int (xa0)] σ r σ' :=
  mkZ (by decide) rfl rfl rfl (Nat.le_of_ble_eq_true rfl) (fun x Z C hr => b_X1_isWidth_0 C hr xa0 σ h)
def rm_X1_isMissing : Room := { frames := 0, cells := 0, slots := 0, locals := 0 }
def F_X1_isMissing (xa0 : Nat) (σ : Sto) : Option (Int32 × Sto) := ck (kd (xa0) == 1) (if (σ xa0 0) = 0 then some (1, σ) else some (0, σ))
set_option maxHeartbeats 4000000 in
set_option maxRecDepth 20000 in
theorem b_X1_isMissing_0 {x : XT} {y : YT} {Z : State → Prop} (C : Cx x y (AY y) RX1 cX1_isMissing 1 rm_X1_isMissing) {r : Int32} {σ' : Sto} (hr : RetZ x y (AY y) 1 cX1_isMissing Z r σ') (xa0 : Nat) (σ : Sto) (h : F_X1_isMissing xa0 σ = some (r, σ')) : GW x y (AY y) 1 Z 0 [(0, .ref (yad y (xa0)))] [] σ := by
  unfold F_X1_isMissing at h
  refine g_aload_n (pc := 0) C dX1_isMissing_0 rfl 0 rfl ?_
  obtain ⟨xq1, h⟩ := iC h
  have xq1 := keq xq1
  refine gf_1_0 (pc := 1) C wf_X1_7 dX1_isMissing_1 xq1 ?_
  refine g_if_ne (pc := 4) C dX1_isMissing_4 (tgt := 11) rfl (fun xq2 => ?_) (fun xq2 => ?_)
  · have h := iN xq2 h
    refine g_iconst (v := 0) (pc := 11) C dX1_isMissing_11 ci_0 ?_
    exact rtZ hr dX1_isMissing_12 (by decide) h
  · have h := iP xq2 h
    refine g_iconst (v := 1) (pc := 7) C dX1_isMissing_7 ci_1 ?_
    refine g_goto (pc := 8) C dX1_isMissing_8 (tgt := 12) rfl ?_
    exact rtZ hr dX1_isMissing_12 (by decide) h
theorem c_X1_isMissing (l : Launch) (y : YT) (xa0 : Nat) (σ σ' : Sto) (r : Int32) (h : F_X1_isMissing xa0 σ = some (r, σ')) : MI l y yX1_isMissing (Cond.code yX1_isMissing cX1_isMissing 1 (some .boolean) :: TT) rm_X1_isMissing [.ref (yad y (xa0))] σ r σ' :=
  mkZ (by decide) rfl rfl rfl (Nat.le_of_ble_eq_true rfl) (fun x Z C hr => b_X1_isMissing_0 C hr xa0 σ h)
def rm_X1_begin : Room := { frames := 0, cells := 0, slots := 0, locals := 0 }
def F_X1_begin_b20 (xk_20 : Nat → Int32 → Sto → Option (Unit × Sto)) (xa0 : Nat) (xa3 : Int32) (σ : Sto) : Option (Unit × Sto) := if 40 ≤ xa3 then some ((), σ) else ck (kd (xa0) == 1) (ck (inr (xa3) (40)) (lts (up2 σ (xa0 + 1) (xa3.toNatClampNeg) (0)) (fun xσ4 => xk_20 xa0 (xa3 + 1) xσ4)))
def F_X1_begin (xa0 : Nat) (xa1 : Int32) (xa2 : Int32) (σ : Sto) : Option (Unit × Sto) := ck (kd (xa0) == 1) (lts (up2 σ (xa0) 0 (xa1)) (fun xσ2 => if (xa1) = 0 then lts (up2 xσ2 (xa0) 1 (0)) (fun xσ5 => lo2 (F_X1_begin_b20) 1000 xa0 0 xσ5) else lts (up2 xσ2 (xa0) 1 (xa2)) (fun xσ4 => lo2 (F_X1_begin_b20) 1000 xa0 0 xσ4)))
set_option maxHeartbeats 4000000 in
set_option maxRecDepth 20000 in
theorem b_X1_begin_20 {x : XT} {y : YT} {Z : State → Prop} (C : Cx x y (AY y) RX1 cX1_begin 4 rm_X1_begin) {r : Unit} {σ' : Sto} (hr : RetV x y (AY y) 4 cX1_begin Z r σ') (xk_20 : Nat → Int32 → Sto → Option (Unit × Sto)) (xH20 : ∀ (xa0 : Nat) (xa3 : Int32) (σ : Sto), xk_20 xa0 xa3 σ = some (r, σ') → GW x y (AY y) 4 Z 20 [(0, .ref (yad y (xa0))), (3, .int (xa3))] [] σ) (xa0 : Nat) (xa3 : Int32) (σ : Sto) (h : F_X1_begin_b20 xk_20 xa0 xa3 σ = some (r, σ')) : GW x y (AY y) 4 Z 20 [(0, .ref (yad y (xa0))), (3, .int (xa3))] [] σ := by
  unfold F_X1_begin_b20 at h
  refine g_iload_n (pc := 20) C dX1_begin_20 rfl 1 rfl ?_
  refine g_bipush (v := 40) (pc := 21) C dX1_begin_21 cb_40 ?_
  refine g_icmp_ge (pc := 23) C dX1_begin_23 (tgt := 39) rfl (fun xq1 => ?_) (fun xq1 => ?_)
  · have h := iP xq1 h
    exact rtV hr dX1_begin_39 h
  · have h := iN xq1 h
    refine g_aload_n (pc := 26) C dX1_begin_26 rfl 0 rfl ?_
    obtain ⟨xq2, h⟩ := iC h
    have xq2 := keq xq2
    refine gf_1_2 (pc := 27) C wf_X1_16 dX1_begin_27 xq2 ?_
    refine g_iload_n (pc := 30) C dX1_begin_30 rfl 1 rfl ?_
    refine g_iconst (v := 0) (pc := 31) C dX1_begin_31 ci_0 ?_
    obtain ⟨xq3, h⟩ := iC h
    refine g_iast (pc := 32) C dX1_begin_32 (kr_1_2 xq2) (ivp xq3 (lr_1_2 xq2)) (j := xa3.toNatClampNeg) rfl ?_
    refine g_letS h (fun xσ4 h => ?_)
    refine g_iinc (lv' := [(3, .int (xa3 + 1)), (0, .ref (yad y (xa0)))]) (w := xa3 + 1) (pc := 33) C dX1_begin_33 (k := 1) rfl rfl (Nat.le_of_ble_eq_true rfl) rfl ?_
    refine g_goto (pc := 36) C dX1_begin_36 (tgt := 20) rfl ?_
    refine g_sub (lv' := [(0, .ref (yad y (xa0))), (3, .int (xa3 + 1))]) C [1, 0] rfl ?_
    exact xH20 xa0 (xa3 + 1) xσ4 h
theorem l_X1_begin_20 {x : XT} {y : YT} {Z : State → Prop} (C : Cx x y (AY y) RX1 cX1_begin 4 rm_X1_begin) {r : Unit} {σ' : Sto} (hr : RetV x y (AY y) 4 cX1_begin Z r σ') (n : Nat) (xa0 : Nat) (xa3 : Int32) (σ : Sto) (h : lo2 (F_X1_begin_b20) n xa0 xa3 σ = some (r, σ')) : GW x y (AY y) 4 Z 20 [(0, .ref (yad y (xa0))), (3, .int (xa3))] [] σ :=
  lo2_gw (G := fun xa0 xa3 σ => GW x y (AY y) 4 Z 20 [(0, .ref (yad y (xa0))), (3, .int (xa3))] [] σ) (fun xk xHk xa0 xa3 σ h => b_X1_begin_20 C hr xk xHk xa0 xa3 σ h) n xa0 xa3 σ h
set_option maxHeartbeats 4000000 in
set_option maxRecDepth 20000 in
theorem b_X1_begin_0 {x : XT} {y : YT} {Z : State → Prop} (C : Cx x y (AY y) RX1 cX1_begin 4 rm_X1_begin) {r : Unit} {σ' : Sto} (hr : RetV x y (AY y) 4 cX1_begin Z r σ') (xa0 : Nat) (xa1 : Int32) (xa2 : Int32) (σ : Sto) (h : F_X1_begin xa0 xa1 xa2 σ = some (r, σ')) : GW x y (AY y) 4 Z 0 [(0, .ref (yad y (xa0))), (1, .int (xa1)), (2, .int (xa2))] [] σ := by
  unfold F_X1_begin at h
  refine g_aload_n (pc := 0) C dX1_begin_0 rfl 0 rfl ?_
  refine g_iload_n (pc := 1) C dX1_begin_1 rfl 1 rfl ?_
  obtain ⟨xq1, h⟩ := iC h
  have xq1 := keq xq1
  refine gp_1_0 (pc := 2) C wf_X1_7 dX1_begin_2 xq1 ?_
  refine g_letS h (fun xσ2 h => ?_)
  refine g_aload_n (pc := 5) C dX1_begin_5 rfl 0 rfl ?_
  refine g_iload_n (pc := 6) C dX1_begin_6 rfl 1 rfl ?_
  refine g_if_ne (pc := 7) C dX1_begin_7 (tgt := 14) rfl (fun xq3 => ?_) (fun xq3 => ?_)
  · have h := iN xq3 h
    refine g_iload_n (pc := 14) C dX1_begin_14 rfl 2 rfl ?_
    refine gp_1_1 (pc := 15) C wf_X1_13 dX1_begin_15 xq1 ?_
    refine g_letS h (fun xσ4 h => ?_)
    refine g_iconst (v := 0) (pc := 18) C dX1_begin_18 ci_0 ?_
    refine g_istore_n (i := 3) (lv' := [(3, .int (0)), (0, .ref (yad y (xa0))), (1, .int (xa1)), (2, .int (xa2))]) (pc := 19) C dX1_begin_19 rfl (Nat.le_of_ble_eq_true rfl) rfl ?_
    refine g_sub (lv' := [(0, .ref (yad y (xa0))), (3, .int (0))]) C [1, 0] rfl ?_
    exact l_X1_begin_20 C hr 1000 xa0 0 xσ4 h
  · have h := iP xq3 h
    refine g_iconst (v := 0) (pc := 10) C dX1_begin_10 ci_0 ?_
    refine g_goto (pc := 11) C dX1_begin_11 (tgt := 15) rfl ?_
    refine gp_1_1 (pc := 15) C wf_X1_13 dX1_begin_15 xq1 ?_
    refine g_letS h (fun xσ5 h => ?_)
    refine g_iconst (v := 0) (pc := 18) C dX1_begin_18 ci_0 ?_
    refine g_istore_n (i := 3) (lv' := [(3, .int (0)), (0, .ref (yad y (xa0))), (1, .int (xa1)), (2, .int (xa2))]) (pc := 19) C dX1_begin_19 rfl (Nat.le_of_ble_eq_true rfl) rfl ?_
    refine g_sub (lv' := [(0, .ref (yad y (xa0))), (3, .int (0))]) C [1, 0] rfl ?_
    exact l_X1_begin_20 C hr 1000 xa0 0 xσ5 h
theorem c_X1_begin (l : Launch) (y : YT) (xa0 : Nat) (xa1 : Int32) (xa2 : Int32) (σ σ' : Sto) (r : Unit) (h : F_X1_begin xa0 xa1 xa2 σ = some (r, σ')) : MV l y yX1_begin (Cond.code yX1_begin cX1_begin 4 none :: TT) rm_X1_begin [.ref (yad y (xa0)), .int (xa1), .int (xa2)] σ r σ' :=
  mkV (by decide) rfl rfl rfl (Nat.le_of_ble_eq_true rfl) (fun x Z C hr => b_X1_begin_0 C hr xa0 xa1 xa2 σ h)
def rm_X1_hasNumber : Room := { frames := 0, cells := 0, slots := 0, locals := 0 }
def F_X1_hasNumber (xa0 : Nat) (xa1 : Int32) (σ : Sto) : Option (Int32 × Sto) := if (xa1) < 0 then some (0, σ) else ck (kd (xa0) == 1) (if (σ xa0 1) ≤ xa1 then some (0, σ) else if 40 ≤ xa1 then some (0, σ) else some (1, σ))
set_option maxHeartbeats 4000000 in
set_option maxRecDepth 20000 in
theorem b_X1_hasNumber_0 {x : XT} {y : YT} {Z : State → Prop} (C : Cx x y (AY y) RX1 cX1_hasNumber 2 rm_X1_hasNumber) {r : Int32} {σ' : Sto} (hr : RetZ x y (AY y) 2 cX1_hasNumber Z r σ') (xa0 : Nat) (xa1 : Int32) (σ : Sto) (h : F_X1_hasNumber xa0 xa1 σ = some (r, σ')) : GW x y (AY y) 2 Z 0 [(0, .ref (yad y (xa0))), (1, .int (xa1))] [] σ := by
  unfold F_X1_hasNumber at h
  refine g_iload_n (pc := 0) C dX1_hasNumber_0 rfl 1 rfl ?_
  refine g_if_lt (pc := 1) C dX1_hasNumber_1 (tgt := 22) rfl (fun xq1 => ?_) (fun xq1 => ?_)
  · have h := iP xq1 h
    refine g_iconst (v := 0) (pc := 22) C dX1_hasNumber_22 ci_0 ?_
    exact rtZ hr dX1_hasNumber_23 (by decide) h
  · have h := iN xq1 h
    refine g_iload_n (pc := 4) C dX1_hasNumber_4 rfl 1 rfl ?_
    refine g_aload_n (pc := 5) C dX1_hasNumber_5 rfl 0 rfl ?_
    obtain ⟨xq2, h⟩ := iC h
    have xq2 := keq xq2
    refine gf_1_1 (pc := 6) C wf_X1_13 dX1_hasNumber_6 xq2 ?_
    refine g_icmp_ge (pc := 9) C dX1_hasNumber_9 (tgt := 22) rfl (fun xq3 => ?_) (fun xq3 => ?_)
    · have h := iP xq3 h
      refine g_iconst (v := 0) (pc := 22) C dX1_hasNumber_22 ci_0 ?_
      exact rtZ hr dX1_hasNumber_23 (by decide) h
    · have h := iN xq3 h
      refine g_iload_n (pc := 12) C dX1_hasNumber_12 rfl 1 rfl ?_
      refine g_bipush (v := 40) (pc := 13) C dX1_hasNumber_13 cb_40 ?_
      refine g_icmp_ge (pc := 15) C dX1_hasNumber_15 (tgt := 22) rfl (fun xq4 => ?_) (fun xq4 => ?_)
      · have h := iP xq4 h
        refine g_iconst (v := 0) (pc := 22) C dX1_hasNumber_22 ci_0 ?_
        exact rtZ hr dX1_hasNumber_23 (by decide) h
      · have h := iN xq4 h
        refine g_iconst (v := 1) (pc := 18) C dX1_hasNumber_18 ci_1 ?_
        refine g_goto (pc := 19) C dX1_hasNumber_19 (tgt := 23) rfl ?_
        exact rtZ hr dX1_hasNumber_23 (by decide) h
theorem c_X1_hasNumber (l : Launch) (y : YT) (xa0 : Nat) (xa1 : Int32) (σ σ' : Sto) (r : Int32) (h : F_X1_hasNumber xa0 xa1 σ = some (r, σ')) : MI l y yX1_hasNumber (Cond.code yX1_hasNumber cX1_hasNumber 2 (some .boolean) :: TT) rm_X1_hasNumber [.ref (yad y (xa0)), .int (xa1)] σ r σ' :=
  mkZ (by decide) rfl rfl rfl (Nat.le_of_ble_eq_true rfl) (fun x Z C hr => b_X1_hasNumber_0 C hr xa0 xa1 σ h)
def rm_X1_hasRange : Room := { frames := 0, cells := 0, slots := 0, locals := 0 }
def F_X1_hasRange (xa0 : Nat) (xa1 : Int32) (xa2 : Int32) (σ : Sto) : Option (Int32 × Sto) := if (xa1) < 0 then some (0, σ) else if (xa2) < 0 then some (0, σ) else ck (kd (xa0) == 1) (if (σ xa0 1) < xa1 then some (0, σ) else if ((σ xa0 1) - xa1) < xa2 then some (0, σ) else some (1, σ))
set_option maxHeartbeats 4000000 in
set_option maxRecDepth 20000 in
theorem b_X1_hasRange_0 {x : XT} {y : YT} {Z : State → Prop} (C : Cx x y (AY y) RX1 cX1_hasRange 3 rm_X1_hasRange) {r : Int32} {σ' : Sto} (hr : RetZ x y (AY y) 3 cX1_hasRange Z r σ') (xa0 : Nat) (xa1 : Int32) (xa2 : Int32) (σ : Sto) (h : F_X1_hasRange xa0 xa1 xa2 σ = some (r, σ')) : GW x y (AY y) 3 Z 0 [(0, .ref (yad y (xa0))), (1, .int (xa1)), (2, .int (xa2))] [] σ := by
  unfold F_X1_hasRange at h
  refine g_iload_n (pc := 0) C dX1_hasRange_0 rfl 1 rfl ?_
  refine g_if_lt (pc := 1) C dX1_hasRange_1 (tgt := 30) rfl (fun xq1 => ?_) (fun xq1 => ?_)
  · have h := iP xq1 h
    refine g_iconst (v := 0) (pc := 30) C dX1_hasRange_30 ci_0 ?_
    exact rtZ hr dX1_hasRange_31 (by decide) h
  · have h := iN xq1 h
    refine g_iload_n (pc := 4) C dX1_hasRange_4 rfl 2 rfl ?_
    refine g_if_lt (pc := 5) C dX1_hasRange_5 (tgt := 30) rfl (fun xq2 => ?_) (fun xq2 => ?_)
    · have h := iP xq2 h
      refine g_iconst (v := 0) (pc := 30) C dX1_hasRange_30 ci_0 ?_
      exact rtZ hr dX1_hasRange_31 (by decide) h
    · have h := iN xq2 h
      refine g_iload_n (pc := 8) C dX1_hasRange_8 rfl 1 rfl ?_
      refine g_aload_n (pc := 9) C dX1_hasRange_9 rfl 0 rfl ?_
      obtain ⟨xq3, h⟩ := iC h
      have xq3 := keq xq3
      refine gf_1_1 (pc := 10) C wf_X1_13 dX1_hasRange_10 xq3 ?_
      refine g_icmp_gt (pc := 13) C dX1_hasRange_13 (tgt := 30) rfl (fun xq4 => ?_) (fun xq4 => ?_)
      · have h := iP xq4 h
        refine g_iconst (v := 0) (pc := 30) C dX1_hasRange_30 ci_0 ?_
        exact rtZ hr dX1_hasRange_31 (by decide) h
      · have h := iN xq4 h
        refine g_iload_n (pc := 16) C dX1_hasRange_16 rfl 2 rfl ?_
        refine g_aload_n (pc := 17) C dX1_hasRange_17 rfl 0 rfl ?_
        refine gf_1_1 (pc := 18) C wf_X1_13 dX1_hasRange_18 xq3 ?_
        refine g_iload_n (pc := 21) C dX1_hasRange_21 rfl 1 rfl ?_
        refine g_isub (pc := 22) C dX1_hasRange_22 ?_
        refine g_icmp_gt (pc := 23) C dX1_hasRange_23 (tgt := 30) rfl (fun xq5 => ?_) (fun xq5 => ?_)
        · have h := iP xq5 h
          refine g_iconst (v := 0) (pc := 30) C dX1_hasRange_30 ci_0 ?_
          exact rtZ hr dX1_hasRange_31 (by decide) h
        · have h := iN xq5 h
          refine g_iconst (v := 1) (pc := 26) C dX1_hasRange_26 ci_1 ?_
          refine g_goto (pc := 27) C dX1_hasRange_27 (tgt := 31) rfl ?_
          exact rtZ hr dX1_hasRange_31 (by decide) h
theorem c_X1_hasRange (l : Launch) (y : YT) (xa0 : Nat) (xa1 : Int32) (xa2 : Int32) (σ σ' : Sto) (r : Int32) (h : F_X1_hasRange xa0 xa1 xa2 σ = some (r, σ')) : MI l y yX1_hasRange (Cond.code yX1_hasRange cX1_hasRange 3 (some .boolean) :: TT) rm_X1_hasRange [.ref (yad y (xa0)), .int (xa1), .int (xa2)] σ r σ' :=
  mkZ (by decide) rfl rfl rfl (Nat.le_of_ble_eq_true rfl) (fun x Z C hr => b_X1_hasRange_0 C hr xa0 xa1 xa2 σ h)
def rm_X1_number : Room := { frames := 1, cells := 0, slots := 0, locals := 21 }
def F_X1_number (xa0 : Nat) (xa1 : Int32) (σ : Sto) : Option (Int32 × Sto) := ck (kd (xa0) == 1) (bnd (F_X1_hasNumber (xa0) (xa1) σ) (fun xr4 xσ1 => if (xr4) = 0 then some (0, xσ1) else ck (inr (xa1) (40)) (some (xσ1 (xa0 + 1) (xa1.toNatClampNeg), xσ1))))
set_option maxHeartbeats 4000000 in
set_option maxRecDepth 20000 in
theorem b_X1_number_0 {x : XT} {y : YT} {Z : State → Prop} (C : Cx x y (AY y) RX1 cX1_number 2 rm_X1_number) {r : Int32} {σ' : Sto} (hr : RetI x y (AY y) 2 cX1_number Z r σ') (xa0 : Nat) (xa1 : Int32) (σ : Sto) (h : F_X1_number xa0 xa1 σ = some (r, σ')) : GW x y (AY y) 2 Z 0 [(0, .ref (yad y (xa0))), (1, .int (xa1))] [] σ := by
  unfold F_X1_number at h
  refine g_aload_n (pc := 0) C dX1_number_0 rfl 0 rfl ?_
  refine g_iload_n (pc := 1) C dX1_number_1 rfl 1 rfl ?_
  obtain ⟨xq3, h⟩ := iC h
  have xq3 := keq xq3
  obtain ⟨xr4, xσ1, xc2, h⟩ := iB h
  refine g_callVi (pc := 2) (As := [.int (xa1)]) (rest := []) C dX1_number_2 (fun l => c_X1_hasNumber l y _ _ _ _ _ xc2) cv_X1_20 ⟨rfl, rfl, Nat.le_of_ble_eq_true rfl, Nat.le_of_ble_eq_true rfl⟩ (rv1 xq3) rfl (Nat.le_of_ble_eq_true rfl) ?_
  refine g_if_eq (pc := 5) C dX1_number_5 (tgt := 17) rfl (fun xq5 => ?_) (fun xq5 => ?_)
  · have h := iP xq5 h
    refine g_iconst (v := 0) (pc := 17) C dX1_number_17 ci_0 ?_
    exact rtI hr dX1_number_18 h
  · have h := iN xq5 h
    refine g_aload_n (pc := 8) C dX1_number_8 rfl 0 rfl ?_
    refine gf_1_2 (pc := 9) C wf_X1_16 dX1_number_9 xq3 ?_
    refine g_iload_n (pc := 12) C dX1_number_12 rfl 1 rfl ?_
    obtain ⟨xq6, h⟩ := iC h
    refine g_iald (pc := 13) C dX1_number_13 (kr_1_2 xq3) (ivp xq6 (lr_1_2 xq3)) (j := xa1.toNatClampNeg) rfl ?_
    refine g_goto (pc := 14) C dX1_number_14 (tgt := 18) rfl ?_
    exact rtI hr dX1_number_18 h
theorem c_X1_number (l : Launch) (y : YT) (xa0 : Nat) (xa1 : Int32) (σ σ' : Sto) (r : Int32) (h : F_X1_number xa0 xa1 σ = some (r, σ')) : MI l y yX1_number (Cond.code yX1_number cX1_number 2 (some .int) :: TT) rm_X1_number [.ref (yad y (xa0)), .int (xa1)] σ r σ' :=
  mkI (by decide) rfl rfl rfl (Nat.le_of_ble_eq_true rfl) (fun x Z C hr => b_X1_number_0 C hr xa0 xa1 σ h)
def rm_X1_putNumber : Room := { frames := 1, cells := 0, slots := 0, locals := 21 }
def F_X1_putNumber (xa0 : Nat) (xa1 : Int32) (xa2 : Int32) (σ : Sto) : Option (Int32 × Sto) := ck (kd (xa0) == 1) (bnd (F_X1_hasNumber (xa0) (xa1) σ) (fun xr4 xσ1 => if (xr4) = 0 then some (0, xσ1) else if (xσ1 xa0 0) = 8 then ck (inr (xa1) (40)) (lts (up2 xσ1 (xa0 + 1) (xa1.toNatClampNeg) (ibyte xa2)) (fun xσ13 => some (1, xσ13))) else if (xσ1 xa0 0) = 16 then ck (inr (xa1) (40)) (lts (up2 xσ1 (xa0 + 1) (xa1.toNatClampNeg) (ishort xa2)) (fun xσ11 => some (1, xσ11))) else ck (inr (xa1) (40)) (lts (up2 xσ1 (xa0 + 1) (xa1.toNatClampNeg) (xa2)) (fun xσ9 => some (1, xσ9)))))
set_option maxHeartbeats 4000000 in
set_option maxRecDepth 20000 in
theorem b_X1_putNumber_0 {x : XT} {y : YT} {Z : State → Prop} (C : Cx x y (AY y) RX1 cX1_putNumber 3 rm_X1_putNumber) {r : Int32} {σ' : Sto} (hr : RetZ x y (AY y) 3 cX1_putNumber Z r σ') (xa0 : Nat) (xa1 : Int32) (xa2 : Int32) (σ : Sto) (h : F_X1_putNumber xa0 xa1 xa2 σ = some (r, σ')) : GW x y (AY y) 3 Z 0 [(0, .ref (yad y (xa0))), (1, .int (xa1)), (2, .int (xa2))] [] σ := by
  unfold F_X1_putNumber at h
  refine g_aload_n (pc := 0) C dX1_putNumber_0 rfl 0 rfl ?_
  refine g_iload_n (pc := 1) C dX1_putNumber_1 rfl 1 rfl ?_
  obtain ⟨xq3, h⟩ := iC h
  have xq3 := keq xq3
  obtain ⟨xr4, xσ1, xc2, h⟩ := iB h
  refine g_callVi (pc := 2) (As := [.int (xa1)]) (rest := []) C dX1_putNumber_2 (fun l => c_X1_hasNumber l y _ _ _ _ _ xc2) cv_X1_20 ⟨rfl, rfl, Nat.le_of_ble_eq_true rfl, Nat.le_of_ble_eq_true rfl⟩ (rv1 xq3) rfl (Nat.le_of_ble_eq_true rfl) ?_
  refine g_if_ne (pc := 5) C dX1_putNumber_5 (tgt := 10) rfl (fun xq5 => ?_) (fun xq5 => ?_)
  · have h := iN xq5 h
    refine g_aload_n (pc := 10) C dX1_putNumber_10 rfl 0 rfl ?_
    refine gf_1_0 (pc := 11) C wf_X1_7 dX1_putNumber_11 xq3 ?_
    refine g_bipush (v := 8) (pc := 14) C dX1_putNumber_14 cb_8 ?_
    refine g_icmp_ne (pc := 16) C dX1_putNumber_16 (tgt := 30) rfl (fun xq6 => ?_) (fun xq6 => ?_)
    · have h := iN xq6 h
      refine g_aload_n (pc := 30) C dX1_putNumber_30 rfl 0 rfl ?_
      refine gf_1_2 (pc := 31) C wf_X1_16 dX1_putNumber_31 xq3 ?_
      refine g_iload_n (pc := 34) C dX1_putNumber_34 rfl 1 rfl ?_
      refine g_aload_n (pc := 35) C dX1_putNumber_35 rfl 0 rfl ?_
      refine gf_1_0 (pc := 36) C wf_X1_7 dX1_putNumber_36 xq3 ?_
      refine g_bipush (v := 16) (pc := 39) C dX1_putNumber_39 cb_16 ?_
      refine g_icmp_ne (pc := 41) C dX1_putNumber_41 (tgt := 49) rfl (fun xq7 => ?_) (fun xq7 => ?_)
      · have h := iN xq7 h
        refine g_iload_n (pc := 49) C dX1_putNumber_49 rfl 2 rfl ?_
        obtain ⟨xq8, h⟩ := iC h
        refine g_iast (pc := 50) C dX1_putNumber_50 (kr_1_2 xq3) (ivp xq8 (lr_1_2 xq3)) (j := xa1.toNatClampNeg) rfl ?_
        refine g_letS h (fun xσ9 h => ?_)
        refine g_iconst (v := 1) (pc := 51) C dX1_putNumber_51 ci_1 ?_
        exact rtZ hr dX1_putNumber_52 (by decide) h
      · have h := iP xq7 h
        refine g_iload_n (pc := 44) C dX1_putNumber_44 rfl 2 rfl ?_
        refine g_i2s (pc := 45) C dX1_putNumber_45 ?_
        refine g_goto (pc := 46) C dX1_putNumber_46 (tgt := 50) rfl ?_
        obtain ⟨xq10, h⟩ := iC h
        refine g_iast (pc := 50) C dX1_putNumber_50 (kr_1_2 xq3) (ivp xq10 (lr_1_2 xq3)) (j := xa1.toNatClampNeg) rfl ?_
        refine g_letS h (fun xσ11 h => ?_)
        refine g_iconst (v := 1) (pc := 51) C dX1_putNumber_51 ci_1 ?_
        exact rtZ hr dX1_putNumber_52 (by decide) h
    · have h := iP xq6 h
      refine g_aload_n (pc := 19) C dX1_putNumber_19 rfl 0 rfl ?_
      refine gf_1_2 (pc := 20) C wf_X1_16 dX1_putNumber_20 xq3 ?_
      refine g_iload_n (pc := 23) C dX1_putNumber_23 rfl 1 rfl ?_
      refine g_iload_n (pc := 24) C dX1_putNumber_24 rfl 2 rfl ?_
      refine g_i2b (pc := 25) C dX1_putNumber_25 ?_
      obtain ⟨xq12, h⟩ := iC h
      refine g_iast (pc := 26) C dX1_putNumber_26 (kr_1_2 xq3) (ivp xq12 (lr_1_2 xq3)) (j := xa1.toNatClampNeg) rfl ?_
      refine g_letS h (fun xσ13 h => ?_)
      refine g_goto (pc := 27) C dX1_putNumber_27 (tgt := 51) rfl ?_
      refine g_iconst (v := 1) (pc := 51) C dX1_putNumber_51 ci_1 ?_
      exact rtZ hr dX1_putNumber_52 (by decide) h
  · have h := iP xq5 h
    refine g_iconst (v := 0) (pc := 8) C dX1_putNumber_8 ci_0 ?_
    exact rtZ hr dX1_putNumber_9 (by decide) h
theorem c_X1_putNumber (l : Launch) (y : YT) (xa0 : Nat) (xa1 : Int32) (xa2 : Int32) (σ σ' : Sto) (r : Int32) (h : F_X1_putNumber xa0 xa1 xa2 σ = some (r, σ')) : MI l y yX1_putNumber (Cond.code yX1_putNumber cX1_putNumber 3 (some .boolean) :: TT) rm_X1_putNumber [.ref (yad y (xa0)), .int (xa1), .int (xa2)] σ r σ' :=
  mkZ (by decide) rfl rfl rfl (Nat.le_of_ble_eq_true rfl) (fun x Z C hr => b_X1_putNumber_0 C hr xa0 xa1 xa2 σ h)

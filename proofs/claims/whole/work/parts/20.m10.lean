/-! methods, by program: what each does to the store (F_), its walk (b_), its contract (c_): X5_isSmiling, X5_isShining, X5_faultsNow, X5_of, X5_isField, X5_change, X5_isFlash, X5_faults, X5_best, X5_isGood, X5_turnsStool, X5_sits, X5_next -/
def rm_X5_isSmiling : Room := { frames := 2, cells := 0, slots := 0, locals := 43 }
def F_X5_isSmiling_b27 (xa0 : Nat) (xa1 : Int32) (xa2 : Int32) (xa3 : Int32) (xs0 : Int32) (σ : Sto) : Option (Int32 × Sto) := ck (kd (xa0) == 5) (bnd (F_X5_sitterIs (xa0) (xa1) 0 σ) (fun xr4 xσ1 => if xr4 = 1 then if (xa3 + xa2) ≤ 4 then some (0, xσ1) else some (1, xσ1) else if xr4 = 2 then ck (z01 (xs0)) (some (xs0, xσ1)) else if xr4 = 3 then some (0, xσ1) else if xr4 = 4 then some (0, xσ1) else if xr4 = 5 then if (xs0) = 0 then some (0, xσ1) else if (xa2) = 0 then some (0, xσ1) else some (1, xσ1) else if xr4 = 6 then some (0, xσ1) else ck (z01 (xs0)) (some (xs0, xσ1))))
def F_X5_isSmiling_b22 (xa0 : Nat) (xa1 : Int32) (xa2 : Int32) (xa3 : Int32) (σ : Sto) : Option (Int32 × Sto) := F_X5_isSmiling_b27 xa0 xa1 xa2 xa3 1 σ
def F_X5_isSmiling_b26 (xa0 : Nat) (xa1 : Int32) (xa2 : Int32) (xa3 : Int32) (σ : Sto) : Option (Int32 × Sto) := F_X5_isSmiling_b27 xa0 xa1 xa2 xa3 0 σ
def F_X5_isSmiling (xa0 : Nat) (xa1 : Int32) (xa2 : Int32) (σ : Sto) : Option (Int32 × Sto) := ck (kd (xa0) == 5) (bnd (F_X5_sitterIs (xa0) (xa1) 3 σ) (fun xr4 xσ1 => if 5 < xr4 then F_X5_isSmiling_b22 xa0 xa1 xa2 xr4 xσ1 else if xa2 = 3 then if xr4 ≤ 2 then F_X5_isSmiling_b26 xa0 xa1 xa2 xr4 xσ1 else F_X5_isSmiling_b22 xa0 xa1 xa2 xr4 xσ1 else F_X5_isSmiling_b26 xa0 xa1 xa2 xr4 xσ1))
set_option maxHeartbeats 4000000 in
set_option maxRecDepth 20000 in
theorem b_X5_isSmiling_27 {x : XT} {y : YT} {Z : State → Prop} (C : Cx x y (AY y) RX5 cX5_isSmiling 5 rm_X5_isSmiling) {r : Int32} {σ' : Sto} (hr : RetZ x y (AY y) 5 cX5_isSmiling Z r σ') (xa0 : Nat) (xa1 : Int32) (xa2 : Int32) (xa3 : Int32) (xs0 : Int32) (σ : Sto) (h : F_X5_isSmiling_b27 xa0 xa1 xa2 xa3 xs0 σ = some (r, σ')) : GW x y (AY y) 5 Z 27 [(0, .ref (yad y (xa0))), (1, .int (xa1)), (2, .int (xa2)), (3, .int (xa3))] [.int (xs0)] σ := by
  unfold F_X5_isSmiling_b27 at h
  refine g_istore (i := 4) (lv' := [(4, .int (xs0)), (0, .ref (yad y (xa0))), (1, .int (xa1)), (2, .int (xa2)), (3, .int (xa3))]) (pc := 27) C dX5_isSmiling_27 (Nat.le_of_ble_eq_true rfl) rfl ?_
  refine g_aload_n (pc := 29) C dX5_isSmiling_29 rfl 1 rfl ?_
  refine g_iload_n (pc := 30) C dX5_isSmiling_30 rfl 2 rfl ?_
  refine g_iconst (v := 0) (pc := 31) C dX5_isSmiling_31 ci_0 ?_
  obtain ⟨xq3, h⟩ := iC h
  have xq3 := keq xq3
  obtain ⟨xr4, xσ1, xc2, h⟩ := iB h
  refine g_callVi (pc := 32) (As := [.int (xa1), .int (0)]) (rest := []) C dX5_isSmiling_32 (fun l => c_X5_sitterIs l y _ _ _ _ _ _ xc2) cv_X5_104 ⟨rfl, rfl, Nat.le_of_ble_eq_true rfl, Nat.le_of_ble_eq_true rfl⟩ (rv5 xq3) rfl (Nat.le_of_ble_eq_true rfl) ?_
  by_cases xq5 : xr4 = 1
  · have h := iP xq5 h
    refine g_tabIn (pc := 35) C dX5_isSmiling_35 (v := 1) (tgt := 72) (by decide) (by decide) rfl rfl xq5 ?_
    refine g_iload_n (pc := 72) C dX5_isSmiling_72 rfl 4 rfl ?_
    refine g_iload_n (pc := 73) C dX5_isSmiling_73 rfl 3 rfl ?_
    refine g_iadd (pc := 74) C dX5_isSmiling_74 ?_
    refine g_iconst (v := 4) (pc := 75) C dX5_isSmiling_75 ci_4 ?_
    refine g_icmp_le (pc := 76) C dX5_isSmiling_76 (tgt := 83) rfl (fun xq6 => ?_) (fun xq6 => ?_)
    · have h := iP xq6 h
      refine g_iconst (v := 0) (pc := 83) C dX5_isSmiling_83 ci_0 ?_
      exact rtZ hr dX5_isSmiling_84 (by decide) h
    · have h := iN xq6 h
      refine g_iconst (v := 1) (pc := 79) C dX5_isSmiling_79 ci_1 ?_
      refine g_goto (pc := 80) C dX5_isSmiling_80 (tgt := 84) rfl ?_
      exact rtZ hr dX5_isSmiling_84 (by decide) h
  · have h := iN xq5 h
    by_cases xq7 : xr4 = 2
    · have h := iP xq7 h
      refine g_tabIn (pc := 35) C dX5_isSmiling_35 (v := 2) (tgt := 102) (by decide) (by decide) rfl rfl xq7 ?_
      refine g_iload (pc := 102) C dX5_isSmiling_102 0 rfl ?_
      obtain ⟨xz, h⟩ := iC h
      exact rtZ hr dX5_isSmiling_104 (z01_or xz) h
    · have h := iN xq7 h
      by_cases xq8 : xr4 = 3
      · have h := iP xq8 h
        refine g_tabIn (pc := 35) C dX5_isSmiling_35 (v := 3) (tgt := 85) (by decide) (by decide) rfl rfl xq8 ?_
        refine g_iconst (v := 0) (pc := 85) C dX5_isSmiling_85 ci_0 ?_
        exact rtZ hr dX5_isSmiling_86 (by decide) h
      · have h := iN xq8 h
        by_cases xq9 : xr4 = 4
        · have h := iP xq9 h
          refine g_tabIn (pc := 35) C dX5_isSmiling_35 (v := 4) (tgt := 85) (by decide) (by decide) rfl rfl xq9 ?_
          refine g_iconst (v := 0) (pc := 85) C dX5_isSmiling_85 ci_0 ?_
          exact rtZ hr dX5_isSmiling_86 (by decide) h
        · have h := iN xq9 h
          by_cases xq10 : xr4 = 5
          · have h := iP xq10 h
            refine g_tabIn (pc := 35) C dX5_isSmiling_35 (v := 5) (tgt := 87) (by decide) (by decide) rfl rfl xq10 ?_
            refine g_iload (pc := 87) C dX5_isSmiling_87 0 rfl ?_
            refine g_if_eq (pc := 89) C dX5_isSmiling_89 (tgt := 100) rfl (fun xq11 => ?_) (fun xq11 => ?_)
            · have h := iP xq11 h
              refine g_iconst (v := 0) (pc := 100) C dX5_isSmiling_100 ci_0 ?_
              exact rtZ hr dX5_isSmiling_101 (by decide) h
            · have h := iN xq11 h
              refine g_iload_n (pc := 92) C dX5_isSmiling_92 rfl 3 rfl ?_
              refine g_if_eq (pc := 93) C dX5_isSmiling_93 (tgt := 100) rfl (fun xq12 => ?_) (fun xq12 => ?_)
              · have h := iP xq12 h
                refine g_iconst (v := 0) (pc := 100) C dX5_isSmiling_100 ci_0 ?_
                exact rtZ hr dX5_isSmiling_101 (by decide) h
              · have h := iN xq12 h
                refine g_iconst (v := 1) (pc := 96) C dX5_isSmiling_96 ci_1 ?_
                refine g_goto (pc := 97) C dX5_isSmiling_97 (tgt := 101) rfl ?_
                exact rtZ hr dX5_isSmiling_101 (by decide) h
          · have h := iN xq10 h
            by_cases xq13 : xr4 = 6
            · have h := iP xq13 h
              refine g_tabIn (pc := 35) C dX5_isSmiling_35 (v := 6) (tgt := 85) (by decide) (by decide) rfl rfl xq13 ?_
              refine g_iconst (v := 0) (pc := 85) C dX5_isSmiling_85 ci_0 ?_
              exact rtZ hr dX5_isSmiling_86 (by decide) h
            · have h := iN xq13 h
              have xe0 : ¬ xr4.toInt = 1 := tne xq5
              have xe1 : ¬ xr4.toInt = 2 := tne xq7
              have xe2 : ¬ xr4.toInt = 3 := tne xq8
              have xe3 : ¬ xr4.toInt = 4 := tne xq9
              have xe4 : ¬ xr4.toInt = 5 := tne xq10
              have xe5 : ¬ xr4.toInt = 6 := tne xq13
              refine g_tabOut (pc := 35) C dX5_isSmiling_35 (tgt := 102) (by omega) rfl ?_
              refine g_iload (pc := 102) C dX5_isSmiling_102 0 rfl ?_
              obtain ⟨xz, h⟩ := iC h
              exact rtZ hr dX5_isSmiling_104 (z01_or xz) h
set_option maxHeartbeats 4000000 in
set_option maxRecDepth 20000 in
theorem b_X5_isSmiling_22 {x : XT} {y : YT} {Z : State → Prop} (C : Cx x y (AY y) RX5 cX5_isSmiling 5 rm_X5_isSmiling) {r : Int32} {σ' : Sto} (hr : RetZ x y (AY y) 5 cX5_isSmiling Z r σ') (xa0 : Nat) (xa1 : Int32) (xa2 : Int32) (xa3 : Int32) (σ : Sto) (h : F_X5_isSmiling_b22 xa0 xa1 xa2 xa3 σ = some (r, σ')) : GW x y (AY y) 5 Z 22 [(0, .ref (yad y (xa0))), (1, .int (xa1)), (2, .int (xa2)), (3, .int (xa3))] [] σ := by
  unfold F_X5_isSmiling_b22 at h
  refine g_iconst (v := 1) (pc := 22) C dX5_isSmiling_22 ci_1 ?_
  refine g_goto (pc := 23) C dX5_isSmiling_23 (tgt := 27) rfl ?_
  exact b_X5_isSmiling_27 C hr xa0 xa1 xa2 xa3 1 σ h
set_option maxHeartbeats 4000000 in
set_option maxRecDepth 20000 in
theorem b_X5_isSmiling_26 {x : XT} {y : YT} {Z : State → Prop} (C : Cx x y (AY y) RX5 cX5_isSmiling 5 rm_X5_isSmiling) {r : Int32} {σ' : Sto} (hr : RetZ x y (AY y) 5 cX5_isSmiling Z r σ') (xa0 : Nat) (xa1 : Int32) (xa2 : Int32) (xa3 : Int32) (σ : Sto) (h : F_X5_isSmiling_b26 xa0 xa1 xa2 xa3 σ = some (r, σ')) : GW x y (AY y) 5 Z 26 [(0, .ref (yad y (xa0))), (1, .int (xa1)), (2, .int (xa2)), (3, .int (xa3))] [] σ := by
  unfold F_X5_isSmiling_b26 at h
  refine g_iconst (v := 0) (pc := 26) C dX5_isSmiling_26 ci_0 ?_
  exact b_X5_isSmiling_27 C hr xa0 xa1 xa2 xa3 0 σ h
set_option maxHeartbeats 4000000 in
set_option maxRecDepth 20000 in
theorem b_X5_isSmiling_0 {x : XT} {y : YT} {Z : State → Prop} (C : Cx x y (AY y) RX5 cX5_isSmiling 5 rm_X5_isSmiling) {r : Int32} {σ' : Sto} (hr : RetZ x y (AY y) 5 cX5_isSmiling Z r σ') (xa0 : Nat) (xa1 : Int32) (xa2 : Int32) (σ : Sto) (h : F_X5_isSmiling xa0 xa1 xa2 σ = some (r, σ')) : GW x y (AY y) 5 Z 0 [(0, .ref (yad y (xa0))), (1, .int (xa1)), (2, .int (xa2))] [] σ := by
  unfold F_X5_isSmiling at h
  refine g_aload_n (pc := 0) C dX5_isSmiling_0 rfl 0 rfl ?_
  refine g_iload_n (pc := 1) C dX5_isSmiling_1 rfl 1 rfl ?_
  refine g_iconst (v := 3) (pc := 2) C dX5_isSmiling_2 ci_3 ?_
  obtain ⟨xq3, h⟩ := iC h
  have xq3 := keq xq3
  obtain ⟨xr4, xσ1, xc2, h⟩ := iB h
  refine g_callVi (pc := 3) (As := [.int (xa1), .int (3)]) (rest := []) C dX5_isSmiling_3 (fun l => c_X5_sitterIs l y _ _ _ _ _ _ xc2) cv_X5_104 ⟨rfl, rfl, Nat.le_of_ble_eq_true rfl, Nat.le_of_ble_eq_true rfl⟩ (rv5 xq3) rfl (Nat.le_of_ble_eq_true rfl) ?_
  refine g_istore_n (i := 3) (lv' := [(3, .int (xr4)), (0, .ref (yad y (xa0))), (1, .int (xa1)), (2, .int (xa2))]) (pc := 6) C dX5_isSmiling_6 rfl (Nat.le_of_ble_eq_true rfl) rfl ?_
  refine g_iload_n (pc := 7) C dX5_isSmiling_7 rfl 0 rfl ?_
  refine g_iconst (v := 5) (pc := 8) C dX5_isSmiling_8 ci_5 ?_
  refine g_icmp_gt (pc := 9) C dX5_isSmiling_9 (tgt := 22) rfl (fun xq5 => ?_) (fun xq5 => ?_)
  · have h := iP xq5 h
    refine g_sub (lv' := [(0, .ref (yad y (xa0))), (1, .int (xa1)), (2, .int (xa2)), (3, .int (xr4))]) C [1, 2, 3, 0] rfl ?_
    exact b_X5_isSmiling_22 C hr xa0 xa1 xa2 xr4 xσ1 h
  · have h := iN xq5 h
    refine g_iload_n (pc := 12) C dX5_isSmiling_12 rfl 3 rfl ?_
    refine g_iconst (v := 3) (pc := 13) C dX5_isSmiling_13 ci_3 ?_
    refine g_icmp_ne (pc := 14) C dX5_isSmiling_14 (tgt := 26) rfl (fun xq6 => ?_) (fun xq6 => ?_)
    · have h := iN xq6 h
      refine g_sub (lv' := [(0, .ref (yad y (xa0))), (1, .int (xa1)), (2, .int (xa2)), (3, .int (xr4))]) C [1, 2, 3, 0] rfl ?_
      exact b_X5_isSmiling_26 C hr xa0 xa1 xa2 xr4 xσ1 h
    · have h := iP xq6 h
      refine g_iload_n (pc := 17) C dX5_isSmiling_17 rfl 0 rfl ?_
      refine g_iconst (v := 2) (pc := 18) C dX5_isSmiling_18 ci_2 ?_
      refine g_icmp_le (pc := 19) C dX5_isSmiling_19 (tgt := 26) rfl (fun xq7 => ?_) (fun xq7 => ?_)
      · have h := iP xq7 h
        refine g_sub (lv' := [(0, .ref (yad y (xa0))), (1, .int (xa1)), (2, .int (xa2)), (3, .int (xr4))]) C [1, 2, 3, 0] rfl ?_
        exact b_X5_isSmiling_26 C hr xa0 xa1 xa2 xr4 xσ1 h
      · have h := iN xq7 h
        refine g_sub (lv' := [(0, .ref (yad y (xa0))), (1, .int (xa1)), (2, .int (xa2)), (3, .int (xr4))]) C [1, 2, 3, 0] rfl ?_
        exact b_X5_isSmiling_22 C hr xa0 xa1 xa2 xr4 xσ1 h
theorem c_X5_isSmiling (l : Launch) (y : YT) (xa0 : Nat) (xa1 : Int32) (xa2 : Int32) (σ σ' : Sto) (r : Int32) (h : F_X5_isSmiling xa0 xa1 xa2 σ = some (r, σ')) : MI l y yX5_isSmiling (Cond.code yX5_isSmiling cX5_isSmiling 5 (some .boolean) :: TT) rm_X5_isSmiling [.ref (yad y (xa0)), .int (xa1), .int (xa2)] σ r σ' :=
  mkZ (by decide) rfl rfl rfl (Nat.le_of_ble_eq_true rfl) (fun x Z C hr => b_X5_isSmiling_0 C hr xa0 xa1 xa2 σ h)
def rm_X5_isShining : Room := { frames := 2, cells := 0, slots := 0, locals := 43 }
def F_X5_isShining_b40 (xa0 : Nat) (σ : Sto) : Option (Int32 × Sto) := ck (kd (xa0) == 5) (if (σ 50 4) ≤ 6 then some (0, σ) else some (1, σ))
def F_X5_isShining (xa0 : Nat) (xa1 : Int32) (σ : Sto) : Option (Int32 × Sto) := ck (kd (xa0) == 5) (bnd (F_X5_sitterIs (xa0) (xa1) 0 σ) (fun xr4 xσ1 => if xr4 = 4 then if (xσ1 50 4) ≤ 5 then some (0, xσ1) else some (1, xσ1) else if xr4 = 2 then F_X5_isShining_b40 xa0 xσ1 else if xr4 = 3 then F_X5_isShining_b40 xa0 xσ1 else some (0, xσ1)))
set_option maxHeartbeats 4000000 in
set_option maxRecDepth 20000 in
theorem b_X5_isShining_40 {x : XT} {y : YT} {Z : State → Prop} (C : Cx x y (AY y) RX5 cX5_isShining 3 rm_X5_isShining) {r : Int32} {σ' : Sto} (hr : RetZ x y (AY y) 3 cX5_isShining Z r σ') (xa0 : Nat) (σ : Sto) (h : F_X5_isShining_b40 xa0 σ = some (r, σ')) : GW x y (AY y) 3 Z 40 [(0, .ref (yad y (xa0)))] [] σ := by
  unfold F_X5_isShining_b40 at h
  refine g_aload_n (pc := 40) C dX5_isShining_40 rfl 0 rfl ?_
  obtain ⟨xq1, h⟩ := iC h
  have xq1 := keq xq1
  refine gf_5_0 (pc := 41) C wf_X5_9 dX5_isShining_41 xq1 ?_
  refine g_iconst (v := 4) (pc := 44) C dX5_isShining_44 ci_4 ?_
  refine g_iald (pc := 45) C dX5_isShining_45 rfl (ivp (by decide) rfl) (j := 4) ct_4 ?_
  refine g_bipush (v := 6) (pc := 46) C dX5_isShining_46 cb_6 ?_
  refine g_icmp_le (pc := 48) C dX5_isShining_48 (tgt := 55) rfl (fun xq2 => ?_) (fun xq2 => ?_)
  · have h := iP xq2 h
    refine g_iconst (v := 0) (pc := 55) C dX5_isShining_55 ci_0 ?_
    exact rtZ hr dX5_isShining_56 (by decide) h
  · have h := iN xq2 h
    refine g_iconst (v := 1) (pc := 51) C dX5_isShining_51 ci_1 ?_
    refine g_goto (pc := 52) C dX5_isShining_52 (tgt := 56) rfl ?_
    exact rtZ hr dX5_isShining_56 (by decide) h
set_option maxHeartbeats 4000000 in
set_option maxRecDepth 20000 in
theorem b_X5_isShining_0 {x : XT} {y : YT} {Z : State → Prop} (C : Cx x y (AY y) RX5 cX5_isShining 3 rm_X5_isShining) {r : Int32} {σ' : Sto} (hr : RetZ x y (AY y) 3 cX5_isShining Z r σ') (xa0 : Nat) (xa1 : Int32) (σ : Sto) (h : F_X5_isShining xa0 xa1 σ = some (r, σ')) : GW x y (AY y) 3 Z 0 [(0, .ref (yad y (xa0))), (1, .int (xa1))] [] σ := by
  unfold F_X5_isShining at h
  refine g_aload_n (pc := 0) C dX5_isShining_0 rfl 0 rfl ?_
  refine g_iload_n (pc := 1) C dX5_isShining_1 rfl 1 rfl ?_
  refine g_iconst (v := 0) (pc := 2) C dX5_isShining_2 ci_0 ?_
  obtain ⟨xq3, h⟩ := iC h
  have xq3 := keq xq3
  obtain ⟨xr4, xσ1, xc2, h⟩ := iB h
  refine g_callVi (pc := 3) (As := [.int (xa1), .int (0)]) (rest := []) C dX5_isShining_3 (fun l => c_X5_sitterIs l y _ _ _ _ _ _ xc2) cv_X5_104 ⟨rfl, rfl, Nat.le_of_ble_eq_true rfl, Nat.le_of_ble_eq_true rfl⟩ (rv5 xq3) rfl (Nat.le_of_ble_eq_true rfl) ?_
  refine g_istore_n (i := 2) (lv' := [(2, .int (xr4)), (0, .ref (yad y (xa0))), (1, .int (xa1))]) (pc := 6) C dX5_isShining_6 rfl (Nat.le_of_ble_eq_true rfl) rfl ?_
  refine g_iload_n (pc := 7) C dX5_isShining_7 rfl 0 rfl ?_
  refine g_iconst (v := 4) (pc := 8) C dX5_isShining_8 ci_4 ?_
  refine g_icmp_ne (pc := 9) C dX5_isShining_9 (tgt := 30) rfl (fun xq5 => ?_) (fun xq5 => ?_)
  · have h := iN xq5 h
    refine g_iload_n (pc := 30) C dX5_isShining_30 rfl 0 rfl ?_
    refine g_iconst (v := 2) (pc := 31) C dX5_isShining_31 ci_2 ?_
    refine g_icmp_eq (pc := 32) C dX5_isShining_32 (tgt := 40) rfl (fun xq6 => ?_) (fun xq6 => ?_)
    · have h := iP xq6 h
      refine g_sub (lv' := [(0, .ref (yad y (xa0)))]) C [1] rfl ?_
      exact b_X5_isShining_40 C hr xa0 xσ1 h
    · have h := iN xq6 h
      refine g_iload_n (pc := 35) C dX5_isShining_35 rfl 0 rfl ?_
      refine g_iconst (v := 3) (pc := 36) C dX5_isShining_36 ci_3 ?_
      refine g_icmp_ne (pc := 37) C dX5_isShining_37 (tgt := 55) rfl (fun xq7 => ?_) (fun xq7 => ?_)
      · have h := iN xq7 h
        refine g_iconst (v := 0) (pc := 55) C dX5_isShining_55 ci_0 ?_
        exact rtZ hr dX5_isShining_56 (by decide) h
      · have h := iP xq7 h
        refine g_sub (lv' := [(0, .ref (yad y (xa0)))]) C [1] rfl ?_
        exact b_X5_isShining_40 C hr xa0 xσ1 h
  · have h := iP xq5 h
    refine g_aload_n (pc := 12) C dX5_isShining_12 rfl 1 rfl ?_
    refine gf_5_0 (pc := 13) C wf_X5_9 dX5_isShining_13 xq3 ?_
    refine g_iconst (v := 4) (pc := 16) C dX5_isShining_16 ci_4 ?_
    refine g_iald (pc := 17) C dX5_isShining_17 rfl (ivp (by decide) rfl) (j := 4) ct_4 ?_
    refine g_iconst (v := 5) (pc := 18) C dX5_isShining_18 ci_5 ?_
    refine g_icmp_le (pc := 19) C dX5_isShining_19 (tgt := 26) rfl (fun xq8 => ?_) (fun xq8 => ?_)
    · have h := iP xq8 h
      refine g_iconst (v := 0) (pc := 26) C dX5_isShining_26 ci_0 ?_
      refine g_goto (pc := 27) C dX5_isShining_27 (tgt := 56) rfl ?_
      exact rtZ hr dX5_isShining_56 (by decide) h
    · have h := iN xq8 h
      refine g_iconst (v := 1) (pc := 22) C dX5_isShining_22 ci_1 ?_
      refine g_goto (pc := 23) C dX5_isShining_23 (tgt := 56) rfl ?_
      exact rtZ hr dX5_isShining_56 (by decide) h
theorem c_X5_isShining (l : Launch) (y : YT) (xa0 : Nat) (xa1 : Int32) (σ σ' : Sto) (r : Int32) (h : F_X5_isShining xa0 xa1 σ = some (r, σ')) : MI l y yX5_isShining (Cond.code yX5_isShining cX5_isShining 3 (some .boolean) :: TT) rm_X5_isShining [.ref (yad y (xa0)), .int (xa1)] σ r σ' :=
  mkZ (by decide) rfl rfl rfl (Nat.le_of_ble_eq_true rfl) (fun x Z C hr => b_X5_isShining_0 C hr xa0 xa1 σ h)
def rm_X5_faultsNow : Room := { frames := 3, cells := 0, slots := 0, locals := 67 }
def F_X5_faultsNow_b68 (xa0 : Nat) (xs0 : Int32) (xs1 : Int32) (σ : Sto) : Option (Int32 × Sto) := lti (xs1 ||| xs0) (fun xv1 => ck (kd (xa0) == 5) (if 2 ≤ (σ 50 4) then some (xv1 ||| 0, σ) else some (xv1 ||| 16, σ)))
def F_X5_faultsNow_b51 (xa0 : Nat) (xa1 : Int32) (xs0 : Int32) (xs1 : Int32) (σ : Sto) : Option (Int32 × Sto) := lti (xs1 ||| xs0) (fun xv1 => ck (kd (xa0) == 5) (bnd (F_X5_isShining (xa0) (xa1) σ) (fun xr5 xσ2 => if (xr5) = 0 then F_X5_faultsNow_b68 xa0 0 xv1 xσ2 else F_X5_faultsNow_b68 xa0 8 xv1 xσ2)))
def F_X5_faultsNow_b34 (xa0 : Nat) (xa1 : Int32) (xa2 : Int32) (xs0 : Int32) (xs1 : Int32) (σ : Sto) : Option (Int32 × Sto) := lti (xs1 ||| xs0) (fun xv1 => ck (kd (xa0) == 5) (bnd (F_X5_isSmiling (xa0) (xa1) (xa2) σ) (fun xr5 xσ2 => if (xr5) = 0 then F_X5_faultsNow_b51 xa0 xa1 0 xv1 xσ2 else F_X5_faultsNow_b51 xa0 xa1 4 xv1 xσ2)))
def F_X5_faultsNow_b18 (xa0 : Nat) (xa1 : Int32) (xa2 : Int32) (xs0 : Int32) (σ : Sto) : Option (Int32 × Sto) := ck (kd (xa0) == 5) (bnd (F_X5_isShut (xa0) (xa1) (xa2) σ) (fun xr4 xσ1 => if (xr4) = 0 then F_X5_faultsNow_b34 xa0 xa1 xa2 0 xs0 xσ1 else F_X5_faultsNow_b34 xa0 xa1 xa2 2 xs0 xσ1))
def F_X5_faultsNow (xa0 : Nat) (xa1 : Int32) (xa2 : Int32) (σ : Sto) : Option (Int32 × Sto) := ck (kd (xa0) == 5) (bnd (F_X5_off (xa0) (xa1) σ) (fun xr4 xσ1 => bnd (F_X5_may (xa0) (xa1) xσ1) (fun xr7 xσ5 => if xr4 ≤ xr7 then F_X5_faultsNow_b18 xa0 xa1 xa2 0 xσ5 else F_X5_faultsNow_b18 xa0 xa1 xa2 1 xσ5)))
set_option maxHeartbeats 4000000 in
set_option maxRecDepth 20000 in
theorem b_X5_faultsNow_68 {x : XT} {y : YT} {Z : State → Prop} (C : Cx x y (AY y) RX5 cX5_faultsNow 4 rm_X5_faultsNow) {r : Int32} {σ' : Sto} (hr : RetI x y (AY y) 4 cX5_faultsNow Z r σ') (xa0 : Nat) (xs0 : Int32) (xs1 : Int32) (σ : Sto) (h : F_X5_faultsNow_b68 xa0 xs0 xs1 σ = some (r, σ')) : GW x y (AY y) 4 Z 68 [(0, .ref (yad y (xa0)))] [.int (xs0), .int (xs1)] σ := by
  unfold F_X5_faultsNow_b68 at h
  refine g_ior (pc := 68) C dX5_faultsNow_68 ?_
  refine g_letI h (fun xv1 h => ?_)
  refine g_istore_n (i := 3) (lv' := [(3, .int (xv1)), (0, .ref (yad y (xa0)))]) (pc := 69) C dX5_faultsNow_69 rfl (Nat.le_of_ble_eq_true rfl) rfl ?_
  refine g_iload_n (pc := 70) C dX5_faultsNow_70 rfl 0 rfl ?_
  refine g_aload_n (pc := 71) C dX5_faultsNow_71 rfl 1 rfl ?_
  obtain ⟨xq2, h⟩ := iC h
  have xq2 := keq xq2
  refine gf_5_0 (pc := 72) C wf_X5_9 dX5_faultsNow_72 xq2 ?_
  refine g_iconst (v := 4) (pc := 75) C dX5_faultsNow_75 ci_4 ?_
  refine g_iald (pc := 76) C dX5_faultsNow_76 rfl (ivp (by decide) rfl) (j := 4) ct_4 ?_
  refine g_iconst (v := 2) (pc := 77) C dX5_faultsNow_77 ci_2 ?_
  refine g_icmp_ge (pc := 78) C dX5_faultsNow_78 (tgt := 86) rfl (fun xq3 => ?_) (fun xq3 => ?_)
  · have h := iP xq3 h
    refine g_iconst (v := 0) (pc := 86) C dX5_faultsNow_86 ci_0 ?_
    refine g_ior (pc := 87) C dX5_faultsNow_87 ?_
    exact rtI hr dX5_faultsNow_88 h
  · have h := iN xq3 h
    refine g_bipush (v := 16) (pc := 81) C dX5_faultsNow_81 cb_16 ?_
    refine g_goto (pc := 83) C dX5_faultsNow_83 (tgt := 87) rfl ?_
    refine g_ior (pc := 87) C dX5_faultsNow_87 ?_
    exact rtI hr dX5_faultsNow_88 h
set_option maxHeartbeats 4000000 in
set_option maxRecDepth 20000 in
theorem b_X5_faultsNow_51 {x : XT} {y : YT} {Z : State → Prop} (C : Cx x y (AY y) RX5 cX5_faultsNow 4 rm_X5_faultsNow) {r : Int32} {σ' : Sto} (hr : RetI x y (AY y) 4 cX5_faultsNow Z r σ') (xa0 : Nat) (xa1 : Int32) (xs0 : Int32) (xs1 : Int32) (σ : Sto) (h : F_X5_faultsNow_b51 xa0 xa1 xs0 xs1 σ = some (r, σ')) : GW x y (AY y) 4 Z 51 [(0, .ref (yad y (xa0))), (1, .int (xa1))] [.int (xs0), .int (xs1)] σ := by
  unfold F_X5_faultsNow_b51 at h
  refine g_ior (pc := 51) C dX5_faultsNow_51 ?_
  refine g_letI h (fun xv1 h => ?_)
  refine g_istore_n (i := 3) (lv' := [(3, .int (xv1)), (0, .ref (yad y (xa0))), (1, .int (xa1))]) (pc := 52) C dX5_faultsNow_52 rfl (Nat.le_of_ble_eq_true rfl) rfl ?_
  refine g_iload_n (pc := 53) C dX5_faultsNow_53 rfl 0 rfl ?_
  refine g_aload_n (pc := 54) C dX5_faultsNow_54 rfl 1 rfl ?_
  refine g_iload_n (pc := 55) C dX5_faultsNow_55 rfl 2 rfl ?_
  obtain ⟨xq4, h⟩ := iC h
  have xq4 := keq xq4
  obtain ⟨xr5, xσ2, xc3, h⟩ := iB h
  refine g_callVi (pc := 56) (As := [.int (xa1)]) (rest := [.int (xv1)]) C dX5_faultsNow_56 (fun l => c_X5_isShining l y _ _ _ _ _ xc3) cv_X5_124 ⟨rfl, rfl, Nat.le_of_ble_eq_true rfl, Nat.le_of_ble_eq_true rfl⟩ (rv5 xq4) rfl (Nat.le_of_ble_eq_true rfl) ?_
  refine g_if_eq (pc := 59) C dX5_faultsNow_59 (tgt := 67) rfl (fun xq6 => ?_) (fun xq6 => ?_)
  · have h := iP xq6 h
    refine g_iconst (v := 0) (pc := 67) C dX5_faultsNow_67 ci_0 ?_
    refine g_sub (lv' := [(0, .ref (yad y (xa0)))]) C [1] rfl ?_
    exact b_X5_faultsNow_68 C hr xa0 0 xv1 xσ2 h
  · have h := iN xq6 h
    refine g_bipush (v := 8) (pc := 62) C dX5_faultsNow_62 cb_8 ?_
    refine g_goto (pc := 64) C dX5_faultsNow_64 (tgt := 68) rfl ?_
    refine g_sub (lv' := [(0, .ref (yad y (xa0)))]) C [1] rfl ?_
    exact b_X5_faultsNow_68 C hr xa0 8 xv1 xσ2 h
set_option maxHeartbeats 4000000 in
set_option maxRecDepth 20000 in
theorem b_X5_faultsNow_34 {x : XT} {y : YT} {Z : State → Prop} (C : Cx x y (AY y) RX5 cX5_faultsNow 4 rm_X5_faultsNow) {r : Int32} {σ' : Sto} (hr : RetI x y (AY y) 4 cX5_faultsNow Z r σ') (xa0 : Nat) (xa1 : Int32) (xa2 : Int32) (xs0 : Int32) (xs1 : Int32) (σ : Sto) (h : F_X5_faultsNow_b34 xa0 xa1 xa2 xs0 xs1 σ = some (r, σ')) : GW x y (AY y) 4 Z 34 [(0, .ref (yad y (xa0))), (1, .int (xa1)), (2, .int (xa2))] [.int (xs0), .int (xs1)] σ := by
  unfold F_X5_faultsNow_b34 at h
  refine g_ior (pc := 34) C dX5_faultsNow_34 ?_
  refine g_letI h (fun xv1 h => ?_)
  refine g_istore_n (i := 3) (lv' := [(3, .int (xv1)), (0, .ref (yad y (xa0))), (1, .int (xa1)), (2, .int (xa2))]) (pc := 35) C dX5_faultsNow_35 rfl (Nat.le_of_ble_eq_true rfl) rfl ?_
  refine g_iload_n (pc := 36) C dX5_faultsNow_36 rfl 0 rfl ?_
  refine g_aload_n (pc := 37) C dX5_faultsNow_37 rfl 1 rfl ?_
  refine g_iload_n (pc := 38) C dX5_faultsNow_38 rfl 2 rfl ?_
  refine g_iload_n (pc := 39) C dX5_faultsNow_39 rfl 3 rfl ?_
  obtain ⟨xq4, h⟩ := iC h
  have xq4 := keq xq4
  obtain ⟨xr5, xσ2, xc3, h⟩ := iB h
  refine g_callVi (pc := 40) (As := [.int (xa1), .int (xa2)]) (rest := [.int (xv1)]) C dX5_faultsNow_40 (fun l => c_X5_isSmiling l y _ _ _ _ _ _ xc3) cv_X5_121 ⟨rfl, rfl, Nat.le_of_ble_eq_true rfl, Nat.le_of_ble_eq_true rfl⟩ (rv5 xq4) rfl (Nat.le_of_ble_eq_true rfl) ?_
  refine g_if_eq (pc := 43) C dX5_faultsNow_43 (tgt := 50) rfl (fun xq6 => ?_) (fun xq6 => ?_)
  · have h := iP xq6 h
    refine g_iconst (v := 0) (pc := 50) C dX5_faultsNow_50 ci_0 ?_
    refine g_sub (lv' := [(0, .ref (yad y (xa0))), (1, .int (xa1))]) C [1, 2] rfl ?_
    exact b_X5_faultsNow_51 C hr xa0 xa1 0 xv1 xσ2 h
  · have h := iN xq6 h
    refine g_iconst (v := 4) (pc := 46) C dX5_faultsNow_46 ci_4 ?_
    refine g_goto (pc := 47) C dX5_faultsNow_47 (tgt := 51) rfl ?_
    refine g_sub (lv' := [(0, .ref (yad y (xa0))), (1, .int (xa1))]) C [1, 2] rfl ?_
    exact b_X5_faultsNow_51 C hr xa0 xa1 4 xv1 xσ2 h
set_option maxHeartbeats 4000000 in
set_option maxRecDepth 20000 in
theorem b_X5_faultsNow_18 {x : XT} {y : YT} {Z : State → Prop} (C : Cx x y (AY y) RX5 cX5_faultsNow 4 rm_X5_faultsNow) {r : Int32} {σ' : Sto} (hr : RetI x y (AY y) 4 cX5_faultsNow Z r σ') (xa0 : Nat) (xa1 : Int32) (xa2 : Int32) (xs0 : Int32) (σ : Sto) (h : F_X5_faultsNow_b18 xa0 xa1 xa2 xs0 σ = some (r, σ')) : GW x y (AY y) 4 Z 18 [(0, .ref (yad y (xa0))), (1, .int (xa1)), (2, .int (xa2))] [.int (xs0)] σ := by
  unfold F_X5_faultsNow_b18 at h
  refine g_istore_n (i := 3) (lv' := [(3, .int (xs0)), (0, .ref (yad y (xa0))), (1, .int (xa1)), (2, .int (xa2))]) (pc := 18) C dX5_faultsNow_18 rfl (Nat.le_of_ble_eq_true rfl) rfl ?_
  refine g_iload_n (pc := 19) C dX5_faultsNow_19 rfl 0 rfl ?_
  refine g_aload_n (pc := 20) C dX5_faultsNow_20 rfl 1 rfl ?_
  refine g_iload_n (pc := 21) C dX5_faultsNow_21 rfl 2 rfl ?_
  refine g_iload_n (pc := 22) C dX5_faultsNow_22 rfl 3 rfl ?_
  obtain ⟨xq3, h⟩ := iC h
  have xq3 := keq xq3
  obtain ⟨xr4, xσ1, xc2, h⟩ := iB h
  refine g_callVi (pc := 23) (As := [.int (xa1), .int (xa2)]) (rest := [.int (xs0)]) C dX5_faultsNow_23 (fun l => c_X5_isShut l y _ _ _ _ _ _ xc2) cv_X5_118 ⟨rfl, rfl, Nat.le_of_ble_eq_true rfl, Nat.le_of_ble_eq_true rfl⟩ (rv5 xq3) rfl (Nat.le_of_ble_eq_true rfl) ?_
  refine g_if_eq (pc := 26) C dX5_faultsNow_26 (tgt := 33) rfl (fun xq5 => ?_) (fun xq5 => ?_)
  · have h := iP xq5 h
    refine g_iconst (v := 0) (pc := 33) C dX5_faultsNow_33 ci_0 ?_
    refine g_sub (lv' := [(0, .ref (yad y (xa0))), (1, .int (xa1)), (2, .int (xa2))]) C [1, 2, 3] rfl ?_
    exact b_X5_faultsNow_34 C hr xa0 xa1 xa2 0 xs0 xσ1 h
  · have h := iN xq5 h
    refine g_iconst (v := 2) (pc := 29) C dX5_faultsNow_29 ci_2 ?_
    refine g_goto (pc := 30) C dX5_faultsNow_30 (tgt := 34) rfl ?_
    refine g_sub (lv' := [(0, .ref (yad y (xa0))), (1, .int (xa1)), (2, .int (xa2))]) C [1, 2, 3] rfl ?_
    exact b_X5_faultsNow_34 C hr xa0 xa1 xa2 2 xs0 xσ1 h
set_option maxHeartbeats 4000000 in
set_option maxRecDepth 20000 in
theorem b_X5_faultsNow_0 {x : XT} {y : YT} {Z : State → Prop} (C : Cx x y (AY y) RX5 cX5_faultsNow 4 rm_X5_faultsNow) {r : Int32} {σ' : Sto} (hr : RetI x y (AY y) 4 cX5_faultsNow Z r σ') (xa0 : Nat) (xa1 : Int32) (xa2 : Int32) (σ : Sto) (h : F_X5_faultsNow xa0 xa1 xa2 σ = some (r, σ')) : GW x y (AY y) 4 Z 0 [(0, .ref (yad y (xa0))), (1, .int (xa1)), (2, .int (xa2))] [] σ := by
  unfold F_X5_faultsNow at h
  refine g_aload_n (pc := 0) C dX5_faultsNow_0 rfl 0 rfl ?_
  refine g_iload_n (pc := 1) C dX5_faultsNow_1 rfl 1 rfl ?_
  obtain ⟨xq3, h⟩ := iC h
  have xq3 := keq xq3
  obtain ⟨xr4, xσ1, xc2, h⟩ := iB h
  refine g_callVi (pc := 2) (As := [.int (xa1)]) (rest := []) C dX5_faultsNow_2 (fun l => c_X5_off l y _ _ _ _ _ xc2) cv_X5_112 ⟨rfl, rfl, Nat.le_of_ble_eq_true rfl, Nat.le_of_ble_eq_true rfl⟩ (rv5 xq3) rfl (Nat.le_of_ble_eq_true rfl) ?_
  refine g_aload_n (pc := 5) C dX5_faultsNow_5 rfl 0 rfl ?_
  refine g_iload_n (pc := 6) C dX5_faultsNow_6 rfl 1 rfl ?_
  obtain ⟨xr7, xσ5, xc6, h⟩ := iB h
  refine g_callVi (pc := 7) (As := [.int (xa1)]) (rest := [.int (xr4)]) C dX5_faultsNow_7 (fun l => c_X5_may l y _ _ _ _ _ xc6) cv_X5_115 ⟨rfl, rfl, Nat.le_of_ble_eq_true rfl, Nat.le_of_ble_eq_true rfl⟩ (rv5 xq3) rfl (Nat.le_of_ble_eq_true rfl) ?_
  refine g_icmp_le (pc := 10) C dX5_faultsNow_10 (tgt := 17) rfl (fun xq8 => ?_) (fun xq8 => ?_)
  · have h := iP xq8 h
    refine g_iconst (v := 0) (pc := 17) C dX5_faultsNow_17 ci_0 ?_
    exact b_X5_faultsNow_18 C hr xa0 xa1 xa2 0 xσ5 h
  · have h := iN xq8 h
    refine g_iconst (v := 1) (pc := 13) C dX5_faultsNow_13 ci_1 ?_
    refine g_goto (pc := 14) C dX5_faultsNow_14 (tgt := 18) rfl ?_
    exact b_X5_faultsNow_18 C hr xa0 xa1 xa2 1 xσ5 h
theorem c_X5_faultsNow (l : Launch) (y : YT) (xa0 : Nat) (xa1 : Int32) (xa2 : Int32) (σ σ' : Sto) (r : Int32) (h : F_X5_faultsNow xa0 xa1 xa2 σ = some (r, σ')) : MI l y yX5_faultsNow (Cond.code yX5_faultsNow cX5_faultsNow 4 (some .int) :: TT) rm_X5_faultsNow [.ref (yad y (xa0)), .int (xa1), .int (xa2)] σ r σ' :=
  mkI (by decide) rfl rfl rfl (Nat.le_of_ble_eq_true rfl) (fun x Z C hr => b_X5_faultsNow_0 C hr xa0 xa1 xa2 σ h)
def rm_X5_of : Room := { frames := 3, cells := 0, slots := 0, locals := 64 }
def F_X5_of (xa0 : Nat) (xa1 : Int32) (xa2 : Int32) (σ : Sto) : Option (Int32 × Sto) := ck (kd (xa0) == 5) (bnd (F_X5_isSitter (xa0) (xa1) σ) (fun xr4 xσ1 => if (xr4) = 0 then bnd (F_X5_finding (xa0) (-1000001) xσ1) (fun xr8 xσ6 => some (xr8, xσ6)) else bnd (F_X5_within (xa2) 0 8 xσ1) (fun xr11 xσ9 => if (xr11) = 0 then bnd (F_X5_finding (xa0) (-1000001) xσ9) (fun xr26 xσ24 => some (xr26, xσ24)) else if 7 ≤ xa2 then if xa2 = 7 then bnd (F_X5_off (xa0) (xa1) xσ9) (fun xr20 xσ18 => some (xr20, xσ18)) else bnd (F_X5_may (xa0) (xa1) xσ9) (fun xr17 xσ15 => some (xr17, xσ15)) else bnd (F_X5_sitterIs (xa0) (xa1) (xa2) xσ9) (fun xr23 xσ21 => some (xr23, xσ21)))))
set_option maxHeartbeats 4000000 in
set_option maxRecDepth 20000 in
theorem b_X5_of_0 {x : XT} {y : YT} {Z : State → Prop} (C : Cx x y (AY y) RX5 cX5_of 3 rm_X5_of) {r : Int32} {σ' : Sto} (hr : RetI x y (AY y) 3 cX5_of Z r σ') (xa0 : Nat) (xa1 : Int32) (xa2 : Int32) (σ : Sto) (h : F_X5_of xa0 xa1 xa2 σ = some (r, σ')) : GW x y (AY y) 3 Z 0 [(0, .ref (yad y (xa0))), (1, .int (xa1)), (2, .int (xa2))] [] σ := by
  unfold F_X5_of at h
  refine g_aload_n (pc := 0) C dX5_of_0 rfl 0 rfl ?_
  refine g_iload_n (pc := 1) C dX5_of_1 rfl 1 rfl ?_
  obtain ⟨xq3, h⟩ := iC h
  have xq3 := keq xq3
  obtain ⟨xr4, xσ1, xc2, h⟩ := iB h
  refine g_callVi (pc := 2) (As := [.int (xa1)]) (rest := []) C dX5_of_2 (fun l => c_X5_isSitter l y _ _ _ _ _ xc2) cv_X5_83 ⟨rfl, rfl, Nat.le_of_ble_eq_true rfl, Nat.le_of_ble_eq_true rfl⟩ (rv5 xq3) rfl (Nat.le_of_ble_eq_true rfl) ?_
  refine g_if_eq (pc := 5) C dX5_of_5 (tgt := 18) rfl (fun xq5 => ?_) (fun xq5 => ?_)
  · have h := iP xq5 h
    refine g_aload_n (pc := 18) C dX5_of_18 rfl 0 rfl ?_
    refine g_ldc (v := (-1000001)) (pc := 19) C dX5_of_19 wk_X5_60 ?_
    obtain ⟨xr8, xσ6, xc7, h⟩ := iB h
    refine g_callVi (pc := 21) (As := [.int ((-1000001))]) (rest := []) C dX5_of_21 (fun l => c_X5_finding l y _ _ _ _ _ xc7) cv_X5_66 ⟨rfl, rfl, Nat.le_of_ble_eq_true rfl, Nat.le_of_ble_eq_true rfl⟩ (rv5 xq3) rfl (Nat.le_of_ble_eq_true rfl) ?_
    exact rtI hr dX5_of_24 h
  · have h := iN xq5 h
    refine g_iload_n (pc := 8) C dX5_of_8 rfl 2 rfl ?_
    refine g_iconst (v := 0) (pc := 9) C dX5_of_9 ci_0 ?_
    refine g_bipush (v := 8) (pc := 10) C dX5_of_10 cb_8 ?_
    obtain ⟨xr11, xσ9, xc10, h⟩ := iB h
    refine g_callSi (pc := 12) (As := [.int (xa2), .int (0), .int (8)]) (rest := []) C dX5_of_12 (fun l => c_X5_within l y _ _ _ _ _ _ xc10) cv_X5_70 ⟨rfl, rfl, Nat.le_of_ble_eq_true rfl, Nat.le_of_ble_eq_true rfl⟩ rfl (Nat.le_of_ble_eq_true rfl) ?_
    refine g_if_ne (pc := 15) C dX5_of_15 (tgt := 25) rfl (fun xq12 => ?_) (fun xq12 => ?_)
    · have h := iN xq12 h
      refine g_iload_n (pc := 25) C dX5_of_25 rfl 2 rfl ?_
      refine g_bipush (v := 7) (pc := 26) C dX5_of_26 cb_7 ?_
      refine g_icmp_ge (pc := 28) C dX5_of_28 (tgt := 40) rfl (fun xq13 => ?_) (fun xq13 => ?_)
      · have h := iP xq13 h
        refine g_iload_n (pc := 40) C dX5_of_40 rfl 2 rfl ?_
        refine g_bipush (v := 7) (pc := 41) C dX5_of_41 cb_7 ?_
        refine g_icmp_ne (pc := 43) C dX5_of_43 (tgt := 54) rfl (fun xq14 => ?_) (fun xq14 => ?_)
        · have h := iN xq14 h
          refine g_aload_n (pc := 54) C dX5_of_54 rfl 0 rfl ?_
          refine g_iload_n (pc := 55) C dX5_of_55 rfl 1 rfl ?_
          obtain ⟨xr17, xσ15, xc16, h⟩ := iB h
          refine g_callVi (pc := 56) (As := [.int (xa1)]) (rest := []) C dX5_of_56 (fun l => c_X5_may l y _ _ _ _ _ xc16) cv_X5_115 ⟨rfl, rfl, Nat.le_of_ble_eq_true rfl, Nat.le_of_ble_eq_true rfl⟩ (rv5 xq3) rfl (Nat.le_of_ble_eq_true rfl) ?_
          exact rtI hr dX5_of_59 h
        · have h := iP xq14 h
          refine g_aload_n (pc := 46) C dX5_of_46 rfl 0 rfl ?_
          refine g_iload_n (pc := 47) C dX5_of_47 rfl 1 rfl ?_
          obtain ⟨xr20, xσ18, xc19, h⟩ := iB h
          refine g_callVi (pc := 48) (As := [.int (xa1)]) (rest := []) C dX5_of_48 (fun l => c_X5_off l y _ _ _ _ _ xc19) cv_X5_112 ⟨rfl, rfl, Nat.le_of_ble_eq_true rfl, Nat.le_of_ble_eq_true rfl⟩ (rv5 xq3) rfl (Nat.le_of_ble_eq_true rfl) ?_
          refine g_goto (pc := 51) C dX5_of_51 (tgt := 59) rfl ?_
          exact rtI hr dX5_of_59 h
      · have h := iN xq13 h
        refine g_aload_n (pc := 31) C dX5_of_31 rfl 0 rfl ?_
        refine g_iload_n (pc := 32) C dX5_of_32 rfl 1 rfl ?_
        refine g_iload_n (pc := 33) C dX5_of_33 rfl 2 rfl ?_
        obtain ⟨xr23, xσ21, xc22, h⟩ := iB h
        refine g_callVi (pc := 34) (As := [.int (xa1), .int (xa2)]) (rest := []) C dX5_of_34 (fun l => c_X5_sitterIs l y _ _ _ _ _ _ xc22) cv_X5_104 ⟨rfl, rfl, Nat.le_of_ble_eq_true rfl, Nat.le_of_ble_eq_true rfl⟩ (rv5 xq3) rfl (Nat.le_of_ble_eq_true rfl) ?_
        refine g_goto (pc := 37) C dX5_of_37 (tgt := 59) rfl ?_
        exact rtI hr dX5_of_59 h
    · have h := iP xq12 h
      refine g_aload_n (pc := 18) C dX5_of_18 rfl 0 rfl ?_
      refine g_ldc (v := (-1000001)) (pc := 19) C dX5_of_19 wk_X5_60 ?_
      obtain ⟨xr26, xσ24, xc25, h⟩ := iB h
      refine g_callVi (pc := 21) (As := [.int ((-1000001))]) (rest := []) C dX5_of_21 (fun l => c_X5_finding l y _ _ _ _ _ xc25) cv_X5_66 ⟨rfl, rfl, Nat.le_of_ble_eq_true rfl, Nat.le_of_ble_eq_true rfl⟩ (rv5 xq3) rfl (Nat.le_of_ble_eq_true rfl) ?_
      exact rtI hr dX5_of_24 h
theorem c_X5_of (l : Launch) (y : YT) (xa0 : Nat) (xa1 : Int32) (xa2 : Int32) (σ σ' : Sto) (r : Int32) (h : F_X5_of xa0 xa1 xa2 σ = some (r, σ')) : MI l y yX5_of (Cond.code yX5_of cX5_of 3 (some .int) :: TT) rm_X5_of [.ref (yad y (xa0)), .int (xa1), .int (xa2)] σ r σ' :=
  mkI (by decide) rfl rfl rfl (Nat.le_of_ble_eq_true rfl) (fun x Z C hr => b_X5_of_0 C hr xa0 xa1 xa2 σ h)
def rm_X5_isField : Room := { frames := 2, cells := 0, slots := 0, locals := 42 }
def F_X5_isField (xa0 : Int32) (xa1 : Int32) (σ : Sto) : Option (Int32 × Sto) := if xa0 = 0 then bnd (F_X5_isKind (xa1) σ) (fun xr4 xσ2 => ck (z01 (xr4)) (some (xr4, xσ2))) else if xa0 = 1 then bnd (F_X5_within (xa1) 0 90 σ) (fun xr8 xσ6 => ck (z01 (xr8)) (some (xr8, xσ6))) else if xa0 = 2 then bnd (F_X5_within (xa1) 0 9 σ) (fun xr12 xσ10 => ck (z01 (xr12)) (some (xr12, xσ10))) else if xa0 = 3 then bnd (F_X5_within (xa1) 0 9 σ) (fun xr16 xσ14 => ck (z01 (xr16)) (some (xr16, xσ14))) else if xa0 = 4 then bnd (F_X5_within (xa1) 0 999 σ) (fun xr20 xσ18 => ck (z01 (xr20)) (some (xr20, xσ18))) else if xa0 = 5 then bnd (F_X5_within (xa1) 0 999 σ) (fun xr24 xσ22 => ck (z01 (xr24)) (some (xr24, xσ22))) else if xa0 = 6 then bnd (F_X5_within (xa1) 0 9999 σ) (fun xr28 xσ26 => ck (z01 (xr28)) (some (xr28, xσ26))) else some (0, σ)
set_option maxHeartbeats 4000000 in
set_option maxRecDepth 20000 in
theorem b_X5_isField_0 {x : XT} {y : YT} {Z : State → Prop} (C : Cx x y (AY y) RX5 cX5_isField 2 rm_X5_isField) {r : Int32} {σ' : Sto} (hr : RetZ x y (AY y) 2 cX5_isField Z r σ') (xa0 : Int32) (xa1 : Int32) (σ : Sto) (h : F_X5_isField xa0 xa1 σ = some (r, σ')) : GW x y (AY y) 2 Z 0 [(0, .int (xa0)), (1, .int (xa1))] [] σ := by
  unfold F_X5_isField at h
  refine g_iload_n (pc := 0) C dX5_isField_0 rfl 0 rfl ?_
  by_cases xq1 : xa0 = 0
  · have h := iP xq1 h
    refine g_tabIn (pc := 1) C dX5_isField_1 (v := 0) (tgt := 44) (by decide) (by decide) rfl rfl xq1 ?_
    refine g_iload_n (pc := 44) C dX5_isField_44 rfl 1 rfl ?_
    obtain ⟨xr4, xσ2, xc3, h⟩ := iB h
    refine g_callSi (pc := 45) (As := [.int (xa1)]) (rest := []) C dX5_isField_45 (fun l => c_X5_isKind l y _ _ _ _ xc3) cv_X5_96 ⟨rfl, rfl, Nat.le_of_ble_eq_true rfl, Nat.le_of_ble_eq_true rfl⟩ rfl (Nat.le_of_ble_eq_true rfl) ?_
    obtain ⟨xz, h⟩ := iC h
    exact rtZ hr dX5_isField_48 (z01_or xz) h
  · have h := iN xq1 h
    by_cases xq5 : xa0 = 1
    · have h := iP xq5 h
      refine g_tabIn (pc := 1) C dX5_isField_1 (v := 1) (tgt := 49) (by decide) (by decide) rfl rfl xq5 ?_
      refine g_iload_n (pc := 49) C dX5_isField_49 rfl 1 rfl ?_
      refine g_iconst (v := 0) (pc := 50) C dX5_isField_50 ci_0 ?_
      refine g_bipush (v := 90) (pc := 51) C dX5_isField_51 cb_90 ?_
      obtain ⟨xr8, xσ6, xc7, h⟩ := iB h
      refine g_callSi (pc := 53) (As := [.int (xa1), .int (0), .int (90)]) (rest := []) C dX5_isField_53 (fun l => c_X5_within l y _ _ _ _ _ _ xc7) cv_X5_70 ⟨rfl, rfl, Nat.le_of_ble_eq_true rfl, Nat.le_of_ble_eq_true rfl⟩ rfl (Nat.le_of_ble_eq_true rfl) ?_
      obtain ⟨xz, h⟩ := iC h
      exact rtZ hr dX5_isField_56 (z01_or xz) h
    · have h := iN xq5 h
      by_cases xq9 : xa0 = 2
      · have h := iP xq9 h
        refine g_tabIn (pc := 1) C dX5_isField_1 (v := 2) (tgt := 57) (by decide) (by decide) rfl rfl xq9 ?_
        refine g_iload_n (pc := 57) C dX5_isField_57 rfl 1 rfl ?_
        refine g_iconst (v := 0) (pc := 58) C dX5_isField_58 ci_0 ?_
        refine g_bipush (v := 9) (pc := 59) C dX5_isField_59 cb_9 ?_
        obtain ⟨xr12, xσ10, xc11, h⟩ := iB h
        refine g_callSi (pc := 61) (As := [.int (xa1), .int (0), .int (9)]) (rest := []) C dX5_isField_61 (fun l => c_X5_within l y _ _ _ _ _ _ xc11) cv_X5_70 ⟨rfl, rfl, Nat.le_of_ble_eq_true rfl, Nat.le_of_ble_eq_true rfl⟩ rfl (Nat.le_of_ble_eq_true rfl) ?_
        obtain ⟨xz, h⟩ := iC h
        exact rtZ hr dX5_isField_64 (z01_or xz) h
      · have h := iN xq9 h
        by_cases xq13 : xa0 = 3
        · have h := iP xq13 h
          refine g_tabIn (pc := 1) C dX5_isField_1 (v := 3) (tgt := 57) (by decide) (by decide) rfl rfl xq13 ?_
          refine g_iload_n (pc := 57) C dX5_isField_57 rfl 1 rfl ?_
          refine g_iconst (v := 0) (pc := 58) C dX5_isField_58 ci_0 ?_
          refine g_bipush (v := 9) (pc := 59) C dX5_isField_59 cb_9 ?_
          obtain ⟨xr16, xσ14, xc15, h⟩ := iB h
          refine g_callSi (pc := 61) (As := [.int (xa1), .int (0), .int (9)]) (rest := []) C dX5_isField_61 (fun l => c_X5_within l y _ _ _ _ _ _ xc15) cv_X5_70 ⟨rfl, rfl, Nat.le_of_ble_eq_true rfl, Nat.le_of_ble_eq_true rfl⟩ rfl (Nat.le_of_ble_eq_true rfl) ?_
          obtain ⟨xz, h⟩ := iC h
          exact rtZ hr dX5_isField_64 (z01_or xz) h
        · have h := iN xq13 h
          by_cases xq17 : xa0 = 4
          · have h := iP xq17 h
            refine g_tabIn (pc := 1) C dX5_isField_1 (v := 4) (tgt := 65) (by decide) (by decide) rfl rfl xq17 ?_
            refine g_iload_n (pc := 65) C dX5_isField_65 rfl 1 rfl ?_
            refine g_iconst (v := 0) (pc := 66) C dX5_isField_66 ci_0 ?_
            refine g_sipush (v := 999) (pc := 67) C dX5_isField_67 cs_999 ?_
            obtain ⟨xr20, xσ18, xc19, h⟩ := iB h
            refine g_callSi (pc := 70) (As := [.int (xa1), .int (0), .int (999)]) (rest := []) C dX5_isField_70 (fun l => c_X5_within l y _ _ _ _ _ _ xc19) cv_X5_70 ⟨rfl, rfl, Nat.le_of_ble_eq_true rfl, Nat.le_of_ble_eq_true rfl⟩ rfl (Nat.le_of_ble_eq_true rfl) ?_
            obtain ⟨xz, h⟩ := iC h
            exact rtZ hr dX5_isField_73 (z01_or xz) h
          · have h := iN xq17 h
            by_cases xq21 : xa0 = 5
            · have h := iP xq21 h
              refine g_tabIn (pc := 1) C dX5_isField_1 (v := 5) (tgt := 65) (by decide) (by decide) rfl rfl xq21 ?_
              refine g_iload_n (pc := 65) C dX5_isField_65 rfl 1 rfl ?_
              refine g_iconst (v := 0) (pc := 66) C dX5_isField_66 ci_0 ?_
              refine g_sipush (v := 999) (pc := 67) C dX5_isField_67 cs_999 ?_
              obtain ⟨xr24, xσ22, xc23, h⟩ := iB h
              refine g_callSi (pc := 70) (As := [.int (xa1), .int (0), .int (999)]) (rest := []) C dX5_isField_70 (fun l => c_X5_within l y _ _ _ _ _ _ xc23) cv_X5_70 ⟨rfl, rfl, Nat.le_of_ble_eq_true rfl, Nat.le_of_ble_eq_true rfl⟩ rfl (Nat.le_of_ble_eq_true rfl) ?_
              obtain ⟨xz, h⟩ := iC h
              exact rtZ hr dX5_isField_73 (z01_or xz) h
            · have h := iN xq21 h
              by_cases xq25 : xa0 = 6
              · have h := iP xq25 h
                refine g_tabIn (pc := 1) C dX5_isField_1 (v := 6) (tgt := 74) (by decide) (by decide) rfl rfl xq25 ?_
                refine g_iload_n (pc := 74) C dX5_isField_74 rfl 1 rfl ?_
                refine g_iconst (v := 0) (pc := 75) C dX5_isField_75 ci_0 ?_
                refine g_sipush (v := 9999) (pc := 76) C dX5_isField_76 cs_9999 ?_
                obtain ⟨xr28, xσ26, xc27, h⟩ := iB h
                refine g_callSi (pc := 79) (As := [.int (xa1), .int (0), .int (9999)]) (rest := []) C dX5_isField_79 (fun l => c_X5_within l y _ _ _ _ _ _ xc27) cv_X5_70 ⟨rfl, rfl, Nat.le_of_ble_eq_true rfl, Nat.le_of_ble_eq_true rfl⟩ rfl (Nat.le_of_ble_eq_true rfl) ?_
                obtain ⟨xz, h⟩ := iC h
                exact rtZ hr dX5_isField_82 (z01_or xz) h
              · have h := iN xq25 h
                have xe0 : ¬ xa0.toInt = 0 := tne xq1
                have xe1 : ¬ xa0.toInt = 1 := tne xq5
                have xe2 : ¬ xa0.toInt = 2 := tne xq9
                have xe3 : ¬ xa0.toInt = 3 := tne xq13
                have xe4 : ¬ xa0.toInt = 4 := tne xq17
                have xe5 : ¬ xa0.toInt = 5 := tne xq21
                have xe6 : ¬ xa0.toInt = 6 := tne xq25
                refine g_tabOut (pc := 1) C dX5_isField_1 (tgt := 83) (by omega) rfl ?_
                refine g_iconst (v := 0) (pc := 83) C dX5_isField_83 ci_0 ?_
                exact rtZ hr dX5_isField_84 (by decide) h
theorem c_X5_isField (l : Launch) (y : YT) (xa0 : Int32) (xa1 : Int32) (σ σ' : Sto) (r : Int32) (h : F_X5_isField xa0 xa1 σ = some (r, σ')) : MI l y yX5_isField (Cond.code yX5_isField cX5_isField 2 (some .boolean) :: TT) rm_X5_isField [.int (xa0), .int (xa1)] σ r σ' :=
  mkZ (by decide) rfl rfl rfl (Nat.le_of_ble_eq_true rfl) (fun x Z C hr => b_X5_isField_0 C hr xa0 xa1 σ h)
def rm_X5_change : Room := { frames := 3, cells := 0, slots := 0, locals := 63 }
def F_X5_change (xa0 : Nat) (xa1 : Int32) (xa2 : Int32) (xa3 : Int32) (σ : Sto) : Option (Int32 × Sto) := ck (kd (xa0) == 5) (bnd (F_X5_isSitter (xa0) (xa1) σ) (fun xr4 xσ1 => if (xr4) = 0 then bnd (F_X5_finding (xa0) (-1000001) xσ1) (fun xr8 xσ6 => some (xr8, xσ6)) else bnd (F_X5_isField (xa2) (xa3) xσ1) (fun xr11 xσ9 => if (xr11) = 0 then bnd (F_X5_finding (xa0) (-1000001) xσ9) (fun xr15 xσ13 => some (xr15, xσ13)) else bnd (F_X5_sitterAt (xa1) (xa2) xσ9) (fun xr18 xσ16 => bnd (F_X5_become (xa0) (xr18) (xa3) xσ16) (fun xr21 xσ19 => some (xr21, xσ19))))))
set_option maxHeartbeats 4000000 in
set_option maxRecDepth 20000 in
theorem b_X5_change_0 {x : XT} {y : YT} {Z : State → Prop} (C : Cx x y (AY y) RX5 cX5_change 4 rm_X5_change) {r : Int32} {σ' : Sto} (hr : RetI x y (AY y) 4 cX5_change Z r σ') (xa0 : Nat) (xa1 : Int32) (xa2 : Int32) (xa3 : Int32) (σ : Sto) (h : F_X5_change xa0 xa1 xa2 xa3 σ = some (r, σ')) : GW x y (AY y) 4 Z 0 [(0, .ref (yad y (xa0))), (1, .int (xa1)), (2, .int (xa2)), (3, .int (xa3))] [] σ := by
  unfold F_X5_change at h
  refine g_aload_n (pc := 0) C dX5_change_0 rfl 0 rfl ?_
  refine g_iload_n (pc := 1) C dX5_change_1 rfl 1 rfl ?_
  obtain ⟨xq3, h⟩ := iC h
  have xq3 := keq xq3
  obtain ⟨xr4, xσ1, xc2, h⟩ := iB h
  refine g_callVi (pc := 2) (As := [.int (xa1)]) (rest := []) C dX5_change_2 (fun l => c_X5_isSitter l y _ _ _ _ _ xc2) cv_X5_83 ⟨rfl, rfl, Nat.le_of_ble_eq_true rfl, Nat.le_of_ble_eq_true rfl⟩ (rv5 xq3) rfl (Nat.le_of_ble_eq_true rfl) ?_
  refine g_if_eq (pc := 5) C dX5_change_5 (tgt := 29) rfl (fun xq5 => ?_) (fun xq5 => ?_)
  · have h := iP xq5 h
    refine g_aload_n (pc := 29) C dX5_change_29 rfl 0 rfl ?_
    refine g_ldc (v := (-1000001)) (pc := 30) C dX5_change_30 wk_X5_60 ?_
    obtain ⟨xr8, xσ6, xc7, h⟩ := iB h
    refine g_callVi (pc := 32) (As := [.int ((-1000001))]) (rest := []) C dX5_change_32 (fun l => c_X5_finding l y _ _ _ _ _ xc7) cv_X5_66 ⟨rfl, rfl, Nat.le_of_ble_eq_true rfl, Nat.le_of_ble_eq_true rfl⟩ (rv5 xq3) rfl (Nat.le_of_ble_eq_true rfl) ?_
    exact rtI hr dX5_change_35 h
  · have h := iN xq5 h
    refine g_iload_n (pc := 8) C dX5_change_8 rfl 2 rfl ?_
    refine g_iload_n (pc := 9) C dX5_change_9 rfl 3 rfl ?_
    obtain ⟨xr11, xσ9, xc10, h⟩ := iB h
    refine g_callSi (pc := 10) (As := [.int (xa2), .int (xa3)]) (rest := []) C dX5_change_10 (fun l => c_X5_isField l y _ _ _ _ _ xc10) cv_X5_127 ⟨rfl, rfl, Nat.le_of_ble_eq_true rfl, Nat.le_of_ble_eq_true rfl⟩ rfl (Nat.le_of_ble_eq_true rfl) ?_
    refine g_if_eq (pc := 13) C dX5_change_13 (tgt := 29) rfl (fun xq12 => ?_) (fun xq12 => ?_)
    · have h := iP xq12 h
      refine g_aload_n (pc := 29) C dX5_change_29 rfl 0 rfl ?_
      refine g_ldc (v := (-1000001)) (pc := 30) C dX5_change_30 wk_X5_60 ?_
      obtain ⟨xr15, xσ13, xc14, h⟩ := iB h
      refine g_callVi (pc := 32) (As := [.int ((-1000001))]) (rest := []) C dX5_change_32 (fun l => c_X5_finding l y _ _ _ _ _ xc14) cv_X5_66 ⟨rfl, rfl, Nat.le_of_ble_eq_true rfl, Nat.le_of_ble_eq_true rfl⟩ (rv5 xq3) rfl (Nat.le_of_ble_eq_true rfl) ?_
      exact rtI hr dX5_change_35 h
    · have h := iN xq12 h
      refine g_aload_n (pc := 16) C dX5_change_16 rfl 0 rfl ?_
      refine g_iload_n (pc := 17) C dX5_change_17 rfl 1 rfl ?_
      refine g_iload_n (pc := 18) C dX5_change_18 rfl 2 rfl ?_
      obtain ⟨xr18, xσ16, xc17, h⟩ := iB h
      refine g_callSi (pc := 19) (As := [.int (xa1), .int (xa2)]) (rest := [.ref (yad y (xa0))]) C dX5_change_19 (fun l => c_X5_sitterAt l y _ _ _ _ _ xc17) cv_X5_93 ⟨rfl, rfl, Nat.le_of_ble_eq_true rfl, Nat.le_of_ble_eq_true rfl⟩ rfl (Nat.le_of_ble_eq_true rfl) ?_
      refine g_iload_n (pc := 22) C dX5_change_22 rfl 3 rfl ?_
      obtain ⟨xr21, xσ19, xc20, h⟩ := iB h
      refine g_callVi (pc := 23) (As := [.int (xr18), .int (xa3)]) (rest := []) C dX5_change_23 (fun l => c_X5_become l y _ _ _ _ _ _ xc20) cv_X5_79 ⟨rfl, rfl, Nat.le_of_ble_eq_true rfl, Nat.le_of_ble_eq_true rfl⟩ (rv5 xq3) rfl (Nat.le_of_ble_eq_true rfl) ?_
      refine g_goto (pc := 26) C dX5_change_26 (tgt := 35) rfl ?_
      exact rtI hr dX5_change_35 h
theorem c_X5_change (l : Launch) (y : YT) (xa0 : Nat) (xa1 : Int32) (xa2 : Int32) (xa3 : Int32) (σ σ' : Sto) (r : Int32) (h : F_X5_change xa0 xa1 xa2 xa3 σ = some (r, σ')) : MI l y yX5_change (Cond.code yX5_change cX5_change 4 (some .int) :: TT) rm_X5_change [.ref (yad y (xa0)), .int (xa1), .int (xa2), .int (xa3)] σ r σ' :=
  mkI (by decide) rfl rfl rfl (Nat.le_of_ble_eq_true rfl) (fun x Z C hr => b_X5_change_0 C hr xa0 xa1 xa2 xa3 σ h)
def rm_X5_isFlash : Room := { frames := 1, cells := 0, slots := 0, locals := 22 }
def F_X5_isFlash (xa0 : Int32) (σ : Sto) : Option (Int32 × Sto) := bnd (F_X5_within (xa0) 0 3 σ) (fun xr3 xσ1 => ck (z01 (xr3)) (some (xr3, xσ1)))
set_option maxHeartbeats 4000000 in
set_option maxRecDepth 20000 in
theorem b_X5_isFlash_0 {x : XT} {y : YT} {Z : State → Prop} (C : Cx x y (AY y) RX5 cX5_isFlash 1 rm_X5_isFlash) {r : Int32} {σ' : Sto} (hr : RetZ x y (AY y) 1 cX5_isFlash Z r σ') (xa0 : Int32) (σ : Sto) (h : F_X5_isFlash xa0 σ = some (r, σ')) : GW x y (AY y) 1 Z 0 [(0, .int (xa0))] [] σ := by
  unfold F_X5_isFlash at h
  refine g_iload_n (pc := 0) C dX5_isFlash_0 rfl 0 rfl ?_
  refine g_iconst (v := 0) (pc := 1) C dX5_isFlash_1 ci_0 ?_
  refine g_iconst (v := 3) (pc := 2) C dX5_isFlash_2 ci_3 ?_
  obtain ⟨xr3, xσ1, xc2, h⟩ := iB h
  refine g_callSi (pc := 3) (As := [.int (xa0), .int (0), .int (3)]) (rest := []) C dX5_isFlash_3 (fun l => c_X5_within l y _ _ _ _ _ _ xc2) cv_X5_70 ⟨rfl, rfl, Nat.le_of_ble_eq_true rfl, Nat.le_of_ble_eq_true rfl⟩ rfl (Nat.le_of_ble_eq_true rfl) ?_
  obtain ⟨xz, h⟩ := iC h
  exact rtZ hr dX5_isFlash_6 (z01_or xz) h
theorem c_X5_isFlash (l : Launch) (y : YT) (xa0 : Int32) (σ σ' : Sto) (r : Int32) (h : F_X5_isFlash xa0 σ = some (r, σ')) : MI l y yX5_isFlash (Cond.code yX5_isFlash cX5_isFlash 1 (some .boolean) :: TT) rm_X5_isFlash [.int (xa0)] σ r σ' :=
  mkZ (by decide) rfl rfl rfl (Nat.le_of_ble_eq_true rfl) (fun x Z C hr => b_X5_isFlash_0 C hr xa0 σ h)
def rm_X5_faults : Room := { frames := 4, cells := 0, slots := 0, locals := 90 }
def F_X5_faults (xa0 : Nat) (xa1 : Int32) (xa2 : Int32) (σ : Sto) : Option (Int32 × Sto) := ck (kd (xa0) == 5) (bnd (F_X5_isSitter (xa0) (xa1) σ) (fun xr4 xσ1 => if (xr4) = 0 then bnd (F_X5_finding (xa0) (-1000001) xσ1) (fun xr8 xσ6 => some (xr8, xσ6)) else bnd (F_X5_isFlash (xa2) xσ1) (fun xr11 xσ9 => if (xr11) = 0 then bnd (F_X5_finding (xa0) (-1000001) xσ9) (fun xr15 xσ13 => some (xr15, xσ13)) else bnd (F_X5_faultsNow (xa0) (xa1) (xa2) xσ9) (fun xr18 xσ16 => some (xr18, xσ16)))))
set_option maxHeartbeats 4000000 in
set_option maxRecDepth 20000 in
theorem b_X5_faults_0 {x : XT} {y : YT} {Z : State → Prop} (C : Cx x y (AY y) RX5 cX5_faults 3 rm_X5_faults) {r : Int32} {σ' : Sto} (hr : RetI x y (AY y) 3 cX5_faults Z r σ') (xa0 : Nat) (xa1 : Int32) (xa2 : Int32) (σ : Sto) (h : F_X5_faults xa0 xa1 xa2 σ = some (r, σ')) : GW x y (AY y) 3 Z 0 [(0, .ref (yad y (xa0))), (1, .int (xa1)), (2, .int (xa2))] [] σ := by
  unfold F_X5_faults at h
  refine g_aload_n (pc := 0) C dX5_faults_0 rfl 0 rfl ?_
  refine g_iload_n (pc := 1) C dX5_faults_1 rfl 1 rfl ?_
  obtain ⟨xq3, h⟩ := iC h
  have xq3 := keq xq3
  obtain ⟨xr4, xσ1, xc2, h⟩ := iB h
  refine g_callVi (pc := 2) (As := [.int (xa1)]) (rest := []) C dX5_faults_2 (fun l => c_X5_isSitter l y _ _ _ _ _ xc2) cv_X5_83 ⟨rfl, rfl, Nat.le_of_ble_eq_true rfl, Nat.le_of_ble_eq_true rfl⟩ (rv5 xq3) rfl (Nat.le_of_ble_eq_true rfl) ?_
  refine g_if_eq (pc := 5) C dX5_faults_5 (tgt := 24) rfl (fun xq5 => ?_) (fun xq5 => ?_)
  · have h := iP xq5 h
    refine g_aload_n (pc := 24) C dX5_faults_24 rfl 0 rfl ?_
    refine g_ldc (v := (-1000001)) (pc := 25) C dX5_faults_25 wk_X5_60 ?_
    obtain ⟨xr8, xσ6, xc7, h⟩ := iB h
    refine g_callVi (pc := 27) (As := [.int ((-1000001))]) (rest := []) C dX5_faults_27 (fun l => c_X5_finding l y _ _ _ _ _ xc7) cv_X5_66 ⟨rfl, rfl, Nat.le_of_ble_eq_true rfl, Nat.le_of_ble_eq_true rfl⟩ (rv5 xq3) rfl (Nat.le_of_ble_eq_true rfl) ?_
    exact rtI hr dX5_faults_30 h
  · have h := iN xq5 h
    refine g_iload_n (pc := 8) C dX5_faults_8 rfl 2 rfl ?_
    obtain ⟨xr11, xσ9, xc10, h⟩ := iB h
    refine g_callSi (pc := 9) (As := [.int (xa2)]) (rest := []) C dX5_faults_9 (fun l => c_X5_isFlash l y _ _ _ _ xc10) cv_X5_130 ⟨rfl, rfl, Nat.le_of_ble_eq_true rfl, Nat.le_of_ble_eq_true rfl⟩ rfl (Nat.le_of_ble_eq_true rfl) ?_
    refine g_if_eq (pc := 12) C dX5_faults_12 (tgt := 24) rfl (fun xq12 => ?_) (fun xq12 => ?_)
    · have h := iP xq12 h
      refine g_aload_n (pc := 24) C dX5_faults_24 rfl 0 rfl ?_
      refine g_ldc (v := (-1000001)) (pc := 25) C dX5_faults_25 wk_X5_60 ?_
      obtain ⟨xr15, xσ13, xc14, h⟩ := iB h
      refine g_callVi (pc := 27) (As := [.int ((-1000001))]) (rest := []) C dX5_faults_27 (fun l => c_X5_finding l y _ _ _ _ _ xc14) cv_X5_66 ⟨rfl, rfl, Nat.le_of_ble_eq_true rfl, Nat.le_of_ble_eq_true rfl⟩ (rv5 xq3) rfl (Nat.le_of_ble_eq_true rfl) ?_
      exact rtI hr dX5_faults_30 h
    · have h := iN xq12 h
      refine g_aload_n (pc := 15) C dX5_faults_15 rfl 0 rfl ?_
      refine g_iload_n (pc := 16) C dX5_faults_16 rfl 1 rfl ?_
      refine g_iload_n (pc := 17) C dX5_faults_17 rfl 2 rfl ?_
      obtain ⟨xr18, xσ16, xc17, h⟩ := iB h
      refine g_callVi (pc := 18) (As := [.int (xa1), .int (xa2)]) (rest := []) C dX5_faults_18 (fun l => c_X5_faultsNow l y _ _ _ _ _ _ xc17) cv_X5_133 ⟨rfl, rfl, Nat.le_of_ble_eq_true rfl, Nat.le_of_ble_eq_true rfl⟩ (rv5 xq3) rfl (Nat.le_of_ble_eq_true rfl) ?_
      refine g_goto (pc := 21) C dX5_faults_21 (tgt := 30) rfl ?_
      exact rtI hr dX5_faults_30 h
theorem c_X5_faults (l : Launch) (y : YT) (xa0 : Nat) (xa1 : Int32) (xa2 : Int32) (σ σ' : Sto) (r : Int32) (h : F_X5_faults xa0 xa1 xa2 σ = some (r, σ')) : MI l y yX5_faults (Cond.code yX5_faults cX5_faults 3 (some .int) :: TT) rm_X5_faults [.ref (yad y (xa0)), .int (xa1), .int (xa2)] σ r σ' :=
  mkI (by decide) rfl rfl rfl (Nat.le_of_ble_eq_true rfl) (fun x Z C hr => b_X5_faults_0 C hr xa0 xa1 xa2 σ h)
def rm_X5_best : Room := { frames := 4, cells := 0, slots := 0, locals := 90 }
def F_X5_best_b19 (xk_19 : Nat → Int32 → Int32 → Int32 → Sto → Option (Int32 × Sto)) (xa0 : Nat) (xa1 : Int32) (xa2 : Int32) (xa3 : Int32) (σ : Sto) : Option (Int32 × Sto) := if 4 ≤ xa3 then some (xa2, σ) else ck (kd (xa0) == 5) (bnd (F_X5_faultsNow (xa0) (xa1) (xa3) σ) (fun xr5 xσ2 => bnd (F_X5_bits (xr5) xσ2) (fun xr8 xσ6 => bnd (F_X5_faultsNow (xa0) (xa1) (xa2) xσ6) (fun xr11 xσ9 => bnd (F_X5_bits (xr11) xσ9) (fun xr14 xσ12 => if xr14 ≤ xr8 then xk_19 xa0 xa1 xa2 (xa3 + 1) xσ12 else xk_19 xa0 xa1 xa3 (xa3 + 1) xσ12)))))
def F_X5_best (xa0 : Nat) (xa1 : Int32) (σ : Sto) : Option (Int32 × Sto) := ck (kd (xa0) == 5) (bnd (F_X5_isSitter (xa0) (xa1) σ) (fun xr4 xσ1 => if (xr4) = 0 then bnd (F_X5_finding (xa0) (-1000001) xσ1) (fun xr8 xσ6 => some (xr8, xσ6)) else lo4 (F_X5_best_b19) 1000 xa0 xa1 0 1 xσ1))
set_option maxHeartbeats 4000000 in
set_option maxRecDepth 20000 in
theorem b_X5_best_19 {x : XT} {y : YT} {Z : State → Prop} (C : Cx x y (AY y) RX5 cX5_best 4 rm_X5_best) {r : Int32} {σ' : Sto} (hr : RetI x y (AY y) 4 cX5_best Z r σ') (xk_19 : Nat → Int32 → Int32 → Int32 → Sto → Option (Int32 × Sto)) (xH19 : ∀ (xa0 : Nat) (xa1 : Int32) (xa2 : Int32) (xa3 : Int32) (σ : Sto), xk_19 xa0 xa1 xa2 xa3 σ = some (r, σ') → GW x y (AY y) 4 Z 19 [(0, .ref (yad y (xa0))), (1, .int (xa1)), (2, .int (xa2)), (3, .int (xa3))] [] σ) (xa0 : Nat) (xa1 : Int32) (xa2 : Int32) (xa3 : Int32) (σ : Sto) (h : F_X5_best_b19 xk_19 xa0 xa1 xa2 xa3 σ = some (r, σ')) : GW x y (AY y) 4 Z 19 [(0, .ref (yad y (xa0))), (1, .int (xa1)), (2, .int (xa2)), (3, .int (xa3))] [] σ := by
  unfold F_X5_best_b19 at h
  refine g_iload_n (pc := 19) C dX5_best_19 rfl 3 rfl ?_
  refine g_iconst (v := 4) (pc := 20) C dX5_best_20 ci_4 ?_
  refine g_icmp_ge (pc := 21) C dX5_best_21 (tgt := 57) rfl (fun xq1 => ?_) (fun xq1 => ?_)
  · have h := iP xq1 h
    refine g_iload_n (pc := 57) C dX5_best_57 rfl 2 rfl ?_
    exact rtI hr dX5_best_58 h
  · have h := iN xq1 h
    refine g_aload_n (pc := 24) C dX5_best_24 rfl 0 rfl ?_
    refine g_iload_n (pc := 25) C dX5_best_25 rfl 1 rfl ?_
    refine g_iload_n (pc := 26) C dX5_best_26 rfl 3 rfl ?_
    obtain ⟨xq4, h⟩ := iC h
    have xq4 := keq xq4
    obtain ⟨xr5, xσ2, xc3, h⟩ := iB h
    refine g_callVi (pc := 27) (As := [.int (xa1), .int (xa3)]) (rest := []) C dX5_best_27 (fun l => c_X5_faultsNow l y _ _ _ _ _ _ xc3) cv_X5_133 ⟨rfl, rfl, Nat.le_of_ble_eq_true rfl, Nat.le_of_ble_eq_true rfl⟩ (rv5 xq4) rfl (Nat.le_of_ble_eq_true rfl) ?_
    obtain ⟨xr8, xσ6, xc7, h⟩ := iB h
    refine g_callSi (pc := 30) (As := [.int (xr5)]) (rest := []) C dX5_best_30 (fun l => c_X5_bits l y _ _ _ _ xc7) cv_X5_136 ⟨rfl, rfl, Nat.le_of_ble_eq_true rfl, Nat.le_of_ble_eq_true rfl⟩ rfl (Nat.le_of_ble_eq_true rfl) ?_
    refine g_aload_n (pc := 33) C dX5_best_33 rfl 0 rfl ?_
    refine g_iload_n (pc := 34) C dX5_best_34 rfl 1 rfl ?_
    refine g_iload_n (pc := 35) C dX5_best_35 rfl 2 rfl ?_
    obtain ⟨xr11, xσ9, xc10, h⟩ := iB h
    refine g_callVi (pc := 36) (As := [.int (xa1), .int (xa2)]) (rest := [.int (xr8)]) C dX5_best_36 (fun l => c_X5_faultsNow l y _ _ _ _ _ _ xc10) cv_X5_133 ⟨rfl, rfl, Nat.le_of_ble_eq_true rfl, Nat.le_of_ble_eq_true rfl⟩ (rv5 xq4) rfl (Nat.le_of_ble_eq_true rfl) ?_
    obtain ⟨xr14, xσ12, xc13, h⟩ := iB h
    refine g_callSi (pc := 39) (As := [.int (xr11)]) (rest := [.int (xr8)]) C dX5_best_39 (fun l => c_X5_bits l y _ _ _ _ xc13) cv_X5_136 ⟨rfl, rfl, Nat.le_of_ble_eq_true rfl, Nat.le_of_ble_eq_true rfl⟩ rfl (Nat.le_of_ble_eq_true rfl) ?_
    refine g_icmp_ge (pc := 42) C dX5_best_42 (tgt := 49) rfl (fun xq15 => ?_) (fun xq15 => ?_)
    · have h := iP xq15 h
      refine g_iload_n (pc := 49) C dX5_best_49 rfl 2 rfl ?_
      refine g_istore_n (i := 2) (lv' := [(2, .int (xa2)), (0, .ref (yad y (xa0))), (1, .int (xa1)), (3, .int (xa3))]) (pc := 50) C dX5_best_50 rfl (Nat.le_of_ble_eq_true rfl) rfl ?_
      refine g_iinc (lv' := [(3, .int (xa3 + 1)), (2, .int (xa2)), (0, .ref (yad y (xa0))), (1, .int (xa1))]) (w := xa3 + 1) (pc := 51) C dX5_best_51 (k := 3) rfl rfl (Nat.le_of_ble_eq_true rfl) rfl ?_
      refine g_goto (pc := 54) C dX5_best_54 (tgt := 19) rfl ?_
      refine g_sub (lv' := [(0, .ref (yad y (xa0))), (1, .int (xa1)), (2, .int (xa2)), (3, .int (xa3 + 1))]) C [2, 3, 1, 0] rfl ?_
      exact xH19 xa0 xa1 xa2 (xa3 + 1) xσ12 h
    · have h := iN xq15 h
      refine g_iload_n (pc := 45) C dX5_best_45 rfl 3 rfl ?_
      refine g_goto (pc := 46) C dX5_best_46 (tgt := 50) rfl ?_
      refine g_istore_n (i := 2) (lv' := [(2, .int (xa3)), (0, .ref (yad y (xa0))), (1, .int (xa1)), (3, .int (xa3))]) (pc := 50) C dX5_best_50 rfl (Nat.le_of_ble_eq_true rfl) rfl ?_
      refine g_iinc (lv' := [(3, .int (xa3 + 1)), (2, .int (xa3)), (0, .ref (yad y (xa0))), (1, .int (xa1))]) (w := xa3 + 1) (pc := 51) C dX5_best_51 (k := 3) rfl rfl (Nat.le_of_ble_eq_true rfl) rfl ?_
      refine g_goto (pc := 54) C dX5_best_54 (tgt := 19) rfl ?_
      refine g_sub (lv' := [(0, .ref (yad y (xa0))), (1, .int (xa1)), (2, .int (xa3)), (3, .int (xa3 + 1))]) C [2, 3, 1, 0] rfl ?_
      exact xH19 xa0 xa1 xa3 (xa3 + 1) xσ12 h
theorem l_X5_best_19 {x : XT} {y : YT} {Z : State → Prop} (C : Cx x y (AY y) RX5 cX5_best 4 rm_X5_best) {r : Int32} {σ' : Sto} (hr : RetI x y (AY y) 4 cX5_best Z r σ') (n : Nat) (xa0 : Nat) (xa1 : Int32) (xa2 : Int32) (xa3 : Int32) (σ : Sto) (h : lo4 (F_X5_best_b19) n xa0 xa1 xa2 xa3 σ = some (r, σ')) : GW x y (AY y) 4 Z 19 [(0, .ref (yad y (xa0))), (1, .int (xa1)), (2, .int (xa2)), (3, .int (xa3))] [] σ :=
  lo4_gw (G := fun xa0 xa1 xa2 xa3 σ => GW x y (AY y) 4 Z 19 [(0, .ref (yad y (xa0))), (1, .int (xa1)), (2, .int (xa2)), (3, .int (xa3))] [] σ) (fun xk xHk xa0 xa1 xa2 xa3 σ h => b_X5_best_19 C hr xk xHk xa0 xa1 xa2 xa3 σ h) n xa0 xa1 xa2 xa3 σ h
set_option maxHeartbeats 4000000 in
set_option maxRecDepth 20000 in
theorem b_X5_best_0 {x : XT} {y : YT} {Z : State → Prop} (C : Cx x y (AY y) RX5 cX5_best 4 rm_X5_best) {r : Int32} {σ' : Sto} (hr : RetI x y (AY y) 4 cX5_best Z r σ') (xa0 : Nat) (xa1 : Int32) (σ : Sto) (h : F_X5_best xa0 xa1 σ = some (r, σ')) : GW x y (AY y) 4 Z 0 [(0, .ref (yad y (xa0))), (1, .int (xa1))] [] σ := by
  unfold F_X5_best at h
  refine g_aload_n (pc := 0) C dX5_best_0 rfl 0 rfl ?_
  refine g_iload_n (pc := 1) C dX5_best_1 rfl 1 rfl ?_
  obtain ⟨xq3, h⟩ := iC h
  have xq3 := keq xq3
  obtain ⟨xr4, xσ1, xc2, h⟩ := iB h
  refine g_callVi (pc := 2) (As := [.int (xa1)]) (rest := []) C dX5_best_2 (fun l => c_X5_isSitter l y _ _ _ _ _ xc2) cv_X5_83 ⟨rfl, rfl, Nat.le_of_ble_eq_true rfl, Nat.le_of_ble_eq_true rfl⟩ (rv5 xq3) rfl (Nat.le_of_ble_eq_true rfl) ?_
  refine g_if_ne (pc := 5) C dX5_best_5 (tgt := 15) rfl (fun xq5 => ?_) (fun xq5 => ?_)
  · have h := iN xq5 h
    refine g_iconst (v := 0) (pc := 15) C dX5_best_15 ci_0 ?_
    refine g_istore_n (i := 2) (lv' := [(2, .int (0)), (0, .ref (yad y (xa0))), (1, .int (xa1))]) (pc := 16) C dX5_best_16 rfl (Nat.le_of_ble_eq_true rfl) rfl ?_
    refine g_iconst (v := 1) (pc := 17) C dX5_best_17 ci_1 ?_
    refine g_istore_n (i := 3) (lv' := [(3, .int (1)), (2, .int (0)), (0, .ref (yad y (xa0))), (1, .int (xa1))]) (pc := 18) C dX5_best_18 rfl (Nat.le_of_ble_eq_true rfl) rfl ?_
    refine g_sub (lv' := [(0, .ref (yad y (xa0))), (1, .int (xa1)), (2, .int (0)), (3, .int (1))]) C [2, 3, 1, 0] rfl ?_
    exact l_X5_best_19 C hr 1000 xa0 xa1 0 1 xσ1 h
  · have h := iP xq5 h
    refine g_aload_n (pc := 8) C dX5_best_8 rfl 0 rfl ?_
    refine g_ldc (v := (-1000001)) (pc := 9) C dX5_best_9 wk_X5_60 ?_
    obtain ⟨xr8, xσ6, xc7, h⟩ := iB h
    refine g_callVi (pc := 11) (As := [.int ((-1000001))]) (rest := []) C dX5_best_11 (fun l => c_X5_finding l y _ _ _ _ _ xc7) cv_X5_66 ⟨rfl, rfl, Nat.le_of_ble_eq_true rfl, Nat.le_of_ble_eq_true rfl⟩ (rv5 xq3) rfl (Nat.le_of_ble_eq_true rfl) ?_
    exact rtI hr dX5_best_14 h
theorem c_X5_best (l : Launch) (y : YT) (xa0 : Nat) (xa1 : Int32) (σ σ' : Sto) (r : Int32) (h : F_X5_best xa0 xa1 σ = some (r, σ')) : MI l y yX5_best (Cond.code yX5_best cX5_best 4 (some .int) :: TT) rm_X5_best [.ref (yad y (xa0)), .int (xa1)] σ r σ' :=
  mkI (by decide) rfl rfl rfl (Nat.le_of_ble_eq_true rfl) (fun x Z C hr => b_X5_best_0 C hr xa0 xa1 σ h)
def rm_X5_isGood : Room := { frames := 4, cells := 0, slots := 0, locals := 90 }
def F_X5_isGood_b4 (xk_4 : Nat → Int32 → Int32 → Int32 → Sto → Option (Int32 × Sto)) (xa0 : Nat) (xa1 : Int32) (xa2 : Int32) (xa3 : Int32) (σ : Sto) : Option (Int32 × Sto) := if 4 ≤ xa3 then ck (z01 (xa2)) (some (xa2, σ)) else if (xa2) = 0 then ck (kd (xa0) == 5) (bnd (F_X5_faultsNow (xa0) (xa1) (xa3) σ) (fun xr6 xσ3 => if (xr6) = 0 then xk_4 xa0 xa1 1 (xa3 + 1) xσ3 else xk_4 xa0 xa1 0 (xa3 + 1) xσ3)) else xk_4 xa0 xa1 1 (xa3 + 1) σ
def F_X5_isGood (xa0 : Nat) (xa1 : Int32) (σ : Sto) : Option (Int32 × Sto) := lo4 (F_X5_isGood_b4) 1000 xa0 xa1 0 0 σ
set_option maxHeartbeats 4000000 in
set_option maxRecDepth 20000 in
theorem b_X5_isGood_4 {x : XT} {y : YT} {Z : State → Prop} (C : Cx x y (AY y) RX5 cX5_isGood 4 rm_X5_isGood) {r : Int32} {σ' : Sto} (hr : RetZ x y (AY y) 4 cX5_isGood Z r σ') (xk_4 : Nat → Int32 → Int32 → Int32 → Sto → Option (Int32 × Sto)) (xH4 : ∀ (xa0 : Nat) (xa1 : Int32) (xa2 : Int32) (xa3 : Int32) (σ : Sto), xk_4 xa0 xa1 xa2 xa3 σ = some (r, σ') → GW x y (AY y) 4 Z 4 [(0, .ref (yad y (xa0))), (1, .int (xa1)), (2, .int (xa2)), (3, .int (xa3))] [] σ) (xa0 : Nat) (xa1 : Int32) (xa2 : Int32) (xa3 : Int32) (σ : Sto) (h : F_X5_isGood_b4 xk_4 xa0 xa1 xa2 xa3 σ = some (r, σ')) : GW x y (AY y) 4 Z 4 [(0, .ref (yad y (xa0))), (1, .int (xa1)), (2, .int (xa2)), (3, .int (xa3))] [] σ := by
  unfold F_X5_isGood_b4 at h
  refine g_iload_n (pc := 4) C dX5_isGood_4 rfl 3 rfl ?_
  refine g_iconst (v := 4) (pc := 5) C dX5_isGood_5 ci_4 ?_
  refine g_icmp_ge (pc := 6) C dX5_isGood_6 (tgt := 34) rfl (fun xq1 => ?_) (fun xq1 => ?_)
  · have h := iP xq1 h
    refine g_iload_n (pc := 34) C dX5_isGood_34 rfl 2 rfl ?_
    obtain ⟨xz, h⟩ := iC h
    exact rtZ hr dX5_isGood_35 (z01_or xz) h
  · have h := iN xq1 h
    refine g_iload_n (pc := 9) C dX5_isGood_9 rfl 2 rfl ?_
    refine g_if_ne (pc := 10) C dX5_isGood_10 (tgt := 22) rfl (fun xq2 => ?_) (fun xq2 => ?_)
    · have h := iN xq2 h
      refine g_iconst (v := 1) (pc := 22) C dX5_isGood_22 ci_1 ?_
      refine g_goto (pc := 23) C dX5_isGood_23 (tgt := 27) rfl ?_
      refine g_istore_n (i := 2) (lv' := [(2, .int (1)), (0, .ref (yad y (xa0))), (1, .int (xa1)), (3, .int (xa3))]) (pc := 27) C dX5_isGood_27 rfl (Nat.le_of_ble_eq_true rfl) rfl ?_
      refine g_iinc (lv' := [(3, .int (xa3 + 1)), (2, .int (1)), (0, .ref (yad y (xa0))), (1, .int (xa1))]) (w := xa3 + 1) (pc := 28) C dX5_isGood_28 (k := 3) rfl rfl (Nat.le_of_ble_eq_true rfl) rfl ?_
      refine g_goto (pc := 31) C dX5_isGood_31 (tgt := 4) rfl ?_
      refine g_sub (lv' := [(0, .ref (yad y (xa0))), (1, .int (xa1)), (2, .int (1)), (3, .int (xa3 + 1))]) C [2, 3, 1, 0] rfl ?_
      exact xH4 xa0 xa1 1 (xa3 + 1) σ h
    · have h := iP xq2 h
      refine g_aload_n (pc := 13) C dX5_isGood_13 rfl 0 rfl ?_
      refine g_iload_n (pc := 14) C dX5_isGood_14 rfl 1 rfl ?_
      refine g_iload_n (pc := 15) C dX5_isGood_15 rfl 3 rfl ?_
      obtain ⟨xq5, h⟩ := iC h
      have xq5 := keq xq5
      obtain ⟨xr6, xσ3, xc4, h⟩ := iB h
      refine g_callVi (pc := 16) (As := [.int (xa1), .int (xa3)]) (rest := []) C dX5_isGood_16 (fun l => c_X5_faultsNow l y _ _ _ _ _ _ xc4) cv_X5_133 ⟨rfl, rfl, Nat.le_of_ble_eq_true rfl, Nat.le_of_ble_eq_true rfl⟩ (rv5 xq5) rfl (Nat.le_of_ble_eq_true rfl) ?_
      refine g_if_ne (pc := 19) C dX5_isGood_19 (tgt := 26) rfl (fun xq7 => ?_) (fun xq7 => ?_)
      · have h := iN xq7 h
        refine g_iconst (v := 0) (pc := 26) C dX5_isGood_26 ci_0 ?_
        refine g_istore_n (i := 2) (lv' := [(2, .int (0)), (0, .ref (yad y (xa0))), (1, .int (xa1)), (3, .int (xa3))]) (pc := 27) C dX5_isGood_27 rfl (Nat.le_of_ble_eq_true rfl) rfl ?_
        refine g_iinc (lv' := [(3, .int (xa3 + 1)), (2, .int (0)), (0, .ref (yad y (xa0))), (1, .int (xa1))]) (w := xa3 + 1) (pc := 28) C dX5_isGood_28 (k := 3) rfl rfl (Nat.le_of_ble_eq_true rfl) rfl ?_
        refine g_goto (pc := 31) C dX5_isGood_31 (tgt := 4) rfl ?_
        refine g_sub (lv' := [(0, .ref (yad y (xa0))), (1, .int (xa1)), (2, .int (0)), (3, .int (xa3 + 1))]) C [2, 3, 1, 0] rfl ?_
        exact xH4 xa0 xa1 0 (xa3 + 1) xσ3 h
      · have h := iP xq7 h
        refine g_iconst (v := 1) (pc := 22) C dX5_isGood_22 ci_1 ?_
        refine g_goto (pc := 23) C dX5_isGood_23 (tgt := 27) rfl ?_
        refine g_istore_n (i := 2) (lv' := [(2, .int (1)), (0, .ref (yad y (xa0))), (1, .int (xa1)), (3, .int (xa3))]) (pc := 27) C dX5_isGood_27 rfl (Nat.le_of_ble_eq_true rfl) rfl ?_
        refine g_iinc (lv' := [(3, .int (xa3 + 1)), (2, .int (1)), (0, .ref (yad y (xa0))), (1, .int (xa1))]) (w := xa3 + 1) (pc := 28) C dX5_isGood_28 (k := 3) rfl rfl (Nat.le_of_ble_eq_true rfl) rfl ?_
        refine g_goto (pc := 31) C dX5_isGood_31 (tgt := 4) rfl ?_
        refine g_sub (lv' := [(0, .ref (yad y (xa0))), (1, .int (xa1)), (2, .int (1)), (3, .int (xa3 + 1))]) C [2, 3, 1, 0] rfl ?_
        exact xH4 xa0 xa1 1 (xa3 + 1) xσ3 h
theorem l_X5_isGood_4 {x : XT} {y : YT} {Z : State → Prop} (C : Cx x y (AY y) RX5 cX5_isGood 4 rm_X5_isGood) {r : Int32} {σ' : Sto} (hr : RetZ x y (AY y) 4 cX5_isGood Z r σ') (n : Nat) (xa0 : Nat) (xa1 : Int32) (xa2 : Int32) (xa3 : Int32) (σ : Sto) (h : lo4 (F_X5_isGood_b4) n xa0 xa1 xa2 xa3 σ = some (r, σ')) : GW x y (AY y) 4 Z 4 [(0, .ref (yad y (xa0))), (1, .int (xa1)), (2, .int (xa2)), (3, .int (xa3))] [] σ :=
  lo4_gw (G := fun xa0 xa1 xa2 xa3 σ => GW x y (AY y) 4 Z 4 [(0, .ref (yad y (xa0))), (1, .int (xa1)), (2, .int (xa2)), (3, .int (xa3))] [] σ) (fun xk xHk xa0 xa1 xa2 xa3 σ h => b_X5_isGood_4 C hr xk xHk xa0 xa1 xa2 xa3 σ h) n xa0 xa1 xa2 xa3 σ h
set_option maxHeartbeats 4000000 in
set_option maxRecDepth 20000 in
theorem b_X5_isGood_0 {x : XT} {y : YT} {Z : State → Prop} (C : Cx x y (AY y) RX5 cX5_isGood 4 rm_X5_isGood) {r : Int32} {σ' : Sto} (hr : RetZ x y (AY y) 4 cX5_isGood Z r σ') (xa0 : Nat) (xa1 : Int32) (σ : Sto) (h : F_X5_isGood xa0 xa1 σ = some (r, σ')) : GW x y (AY y) 4 Z 0 [(0, .ref (yad y (xa0))), (1, .int (xa1))] [] σ := by
  unfold F_X5_isGood at h
  refine g_iconst (v := 0) (pc := 0) C dX5_isGood_0 ci_0 ?_
  refine g_istore_n (i := 2) (lv' := [(2, .int (0)), (0, .ref (yad y (xa0))), (1, .int (xa1))]) (pc := 1) C dX5_isGood_1 rfl (Nat.le_of_ble_eq_true rfl) rfl ?_
  refine g_iconst (v := 0) (pc := 2) C dX5_isGood_2 ci_0 ?_
  refine g_istore_n (i := 3) (lv' := [(3, .int (0)), (2, .int (0)), (0, .ref (yad y (xa0))), (1, .int (xa1))]) (pc := 3) C dX5_isGood_3 rfl (Nat.le_of_ble_eq_true rfl) rfl ?_
  refine g_sub (lv' := [(0, .ref (yad y (xa0))), (1, .int (xa1)), (2, .int (0)), (3, .int (0))]) C [2, 3, 1, 0] rfl ?_
  exact l_X5_isGood_4 C hr 1000 xa0 xa1 0 0 σ h
theorem c_X5_isGood (l : Launch) (y : YT) (xa0 : Nat) (xa1 : Int32) (σ σ' : Sto) (r : Int32) (h : F_X5_isGood xa0 xa1 σ = some (r, σ')) : MI l y yX5_isGood (Cond.code yX5_isGood cX5_isGood 4 (some .boolean) :: TT) rm_X5_isGood [.ref (yad y (xa0)), .int (xa1)] σ r σ' :=
  mkZ (by decide) rfl rfl rfl (Nat.le_of_ble_eq_true rfl) (fun x Z C hr => b_X5_isGood_0 C hr xa0 xa1 σ h)
def rm_X5_turnsStool : Room := { frames := 1, cells := 0, slots := 0, locals := 40 }
def F_X5_turnsStool (xa0 : Nat) (xa1 : Int32) (σ : Sto) : Option (Unit × Sto) := lti (imax 0 (imin 60 (80 - xa1))) (fun xv1 => ck (kd (xa0) == 5) (lti (xv1 - (σ 50 3)) (fun xv3 => lts (up2 σ 50 3 ((σ 50 3) + (imax (-4) (imin 4 xv3)))) (fun xσ4 => some ((), xσ4)))))
set_option maxHeartbeats 4000000 in
set_option maxRecDepth 20000 in
theorem b_X5_turnsStool_0 {x : XT} {y : YT} {Z : State → Prop} (C : Cx x y (AY y) RX5 cX5_turnsStool 4 rm_X5_turnsStool) {r : Unit} {σ' : Sto} (hr : RetV x y (AY y) 4 cX5_turnsStool Z r σ') (xa0 : Nat) (xa1 : Int32) (σ : Sto) (h : F_X5_turnsStool xa0 xa1 σ = some (r, σ')) : GW x y (AY y) 4 Z 0 [(0, .ref (yad y (xa0))), (1, .int (xa1))] [] σ := by
  unfold F_X5_turnsStool at h
  refine g_iconst (v := 0) (pc := 0) C dX5_turnsStool_0 ci_0 ?_
  refine g_bipush (v := 60) (pc := 1) C dX5_turnsStool_1 cb_60 ?_
  refine g_bipush (v := 80) (pc := 3) C dX5_turnsStool_3 cb_80 ?_
  refine g_iload_n (pc := 5) C dX5_turnsStool_5 rfl 1 rfl ?_
  refine g_isub (pc := 6) C dX5_turnsStool_6 ?_
  refine g_mmin (pc := 7) C dX5_turnsStool_7 wm_X5_139 wt_min wn_Math wc_min (Nat.le_of_ble_eq_true rfl) (Nat.le_of_ble_eq_true rfl) ?_
  refine g_mmax (pc := 10) C dX5_turnsStool_10 wm_X5_142 wt_max wn_Math wc_max (Nat.le_of_ble_eq_true rfl) (Nat.le_of_ble_eq_true rfl) ?_
  refine g_letI h (fun xv1 h => ?_)
  refine g_istore_n (i := 2) (lv' := [(2, .int (xv1)), (0, .ref (yad y (xa0))), (1, .int (xa1))]) (pc := 13) C dX5_turnsStool_13 rfl (Nat.le_of_ble_eq_true rfl) rfl ?_
  refine g_iload_n (pc := 14) C dX5_turnsStool_14 rfl 0 rfl ?_
  refine g_aload_n (pc := 15) C dX5_turnsStool_15 rfl 1 rfl ?_
  obtain ⟨xq2, h⟩ := iC h
  have xq2 := keq xq2
  refine gf_5_0 (pc := 16) C wf_X5_9 dX5_turnsStool_16 xq2 ?_
  refine g_iconst (v := 3) (pc := 19) C dX5_turnsStool_19 ci_3 ?_
  refine g_iald (pc := 20) C dX5_turnsStool_20 rfl (ivp (by decide) rfl) (j := 3) ct_3 ?_
  refine g_isub (pc := 21) C dX5_turnsStool_21 ?_
  refine g_letI h (fun xv3 h => ?_)
  refine g_istore_n (i := 3) (lv' := [(3, .int (xv3)), (2, .int (xv1)), (0, .ref (yad y (xa0))), (1, .int (xa1))]) (pc := 22) C dX5_turnsStool_22 rfl (Nat.le_of_ble_eq_true rfl) rfl ?_
  refine g_aload_n (pc := 23) C dX5_turnsStool_23 rfl 2 rfl ?_
  refine gf_5_0 (pc := 24) C wf_X5_9 dX5_turnsStool_24 xq2 ?_
  refine g_iconst (v := 3) (pc := 27) C dX5_turnsStool_27 ci_3 ?_
  refine g_dup2 (pc := 28) C dX5_turnsStool_28 rfl rfl ?_
  refine g_iald (pc := 29) C dX5_turnsStool_29 rfl (ivp (by decide) rfl) (j := 3) ct_3 ?_
  refine g_bipush (v := (-4)) (pc := 30) C dX5_turnsStool_30 cb_m4 ?_
  refine g_iconst (v := 4) (pc := 32) C dX5_turnsStool_32 ci_4 ?_
  refine g_iload_n (pc := 33) C dX5_turnsStool_33 rfl 0 rfl ?_
  refine g_mmin (pc := 34) C dX5_turnsStool_34 wm_X5_139 wt_min wn_Math wc_min (Nat.le_of_ble_eq_true rfl) (Nat.le_of_ble_eq_true rfl) ?_
  refine g_mmax (pc := 37) C dX5_turnsStool_37 wm_X5_142 wt_max wn_Math wc_max (Nat.le_of_ble_eq_true rfl) (Nat.le_of_ble_eq_true rfl) ?_
  refine g_iadd (pc := 40) C dX5_turnsStool_40 ?_
  refine g_iast (pc := 41) C dX5_turnsStool_41 rfl (ivp (by decide) rfl) (j := 3) ct_3 ?_
  refine g_letS h (fun xσ4 h => ?_)
  exact rtV hr dX5_turnsStool_42 h
theorem c_X5_turnsStool (l : Launch) (y : YT) (xa0 : Nat) (xa1 : Int32) (σ σ' : Sto) (r : Unit) (h : F_X5_turnsStool xa0 xa1 σ = some (r, σ')) : MV l y yX5_turnsStool (Cond.code yX5_turnsStool cX5_turnsStool 4 none :: TT) rm_X5_turnsStool [.ref (yad y (xa0)), .int (xa1)] σ r σ' :=
  mkV (by decide) rfl rfl rfl (Nat.le_of_ble_eq_true rfl) (fun x Z C hr => b_X5_turnsStool_0 C hr xa0 xa1 σ h)
def rm_X5_sits : Room := { frames := 5, cells := 0, slots := 0, locals := 113 }
def F_X5_sits (xa0 : Nat) (xa1 : Int32) (σ : Sto) : Option (Unit × Sto) := ck (kd (xa0) == 5) (bnd (F_X5_sitterAt (xa1) 4 σ) (fun xr4 xσ2 => ck (inr (xr4) (79)) (ck (inr (xr4) (79)) (lts (up2 xσ2 50 (xr4.toNatClampNeg) ((xσ2 50 (xr4.toNatClampNeg)) - (xσ2 50 5))) (fun xσ7 => lts (up2 xσ7 50 6 (imin 99999 ((xσ7 50 6) + (xσ7 50 5)))) (fun xσ8 => bnd (F_X5_sitterAt (xa1) 6 xσ8) (fun xr11 xσ9 => bnd (F_X5_sitterIs (xa0) (xa1) 6 xσ9) (fun xr14 xσ12 => ck (inr (xr11) (79)) (lts (up2 xσ12 50 (xr11.toNatClampNeg) (imin 9999 (xr14 + 1))) (fun xσ16 => bnd (F_X5_sitterIs (xa0) (xa1) 1 xσ16) (fun xr19 xσ17 => bnd (F_X5_turnsStool (xa0) (xr19) xσ17) (fun xr22 xσ20 => bnd (F_X5_isGood (xa0) (xa1) xσ20) (fun xr25 xσ23 => if (xr25) = 0 then bnd (F_X5_sitterAt (xa1) 3 xσ23) (fun xr29 xσ27 => bnd (F_X5_sitterIs (xa0) (xa1) 3 xσ27) (fun xr32 xσ30 => ck (inr (xr29) (79)) (lts (up2 xσ30 50 (xr29.toNatClampNeg) (imax 0 (xr32 - 1))) (fun xσ34 => some ((), xσ34))))) else bnd (F_X5_sitterAt (xa1) 5 xσ23) (fun xr37 xσ35 => bnd (F_X5_sitterIs (xa0) (xa1) 5 xσ35) (fun xr40 xσ38 => ck (inr (xr37) (79)) (lts (up2 xσ38 50 (xr37.toNatClampNeg) (imin 999 (xr40 + 1))) (fun xσ42 => bnd (F_X5_sitterAt (xa1) 2 xσ42) (fun xr45 xσ43 => bnd (F_X5_sitterIs (xa0) (xa1) 2 xσ43) (fun xr48 xσ46 => ck (inr (xr45) (79)) (lts (up2 xσ46 50 (xr45.toNatClampNeg) (imin 9 (xr48 + 1))) (fun xσ50 => some ((), xσ50))))))))))))))))))))))
set_option maxHeartbeats 4000000 in
set_option maxRecDepth 20000 in
theorem b_X5_sits_0 {x : XT} {y : YT} {Z : State → Prop} (C : Cx x y (AY y) RX5 cX5_sits 2 rm_X5_sits) {r : Unit} {σ' : Sto} (hr : RetV x y (AY y) 2 cX5_sits Z r σ') (xa0 : Nat) (xa1 : Int32) (σ : Sto) (h : F_X5_sits xa0 xa1 σ = some (r, σ')) : GW x y (AY y) 2 Z 0 [(0, .ref (yad y (xa0))), (1, .int (xa1))] [] σ := by
  unfold F_X5_sits at h
  refine g_aload_n (pc := 0) C dX5_sits_0 rfl 0 rfl ?_
  obtain ⟨xq1, h⟩ := iC h
  have xq1 := keq xq1
  refine gf_5_0 (pc := 1) C wf_X5_9 dX5_sits_1 xq1 ?_
  refine g_iload_n (pc := 4) C dX5_sits_4 rfl 1 rfl ?_
  refine g_iconst (v := 4) (pc := 5) C dX5_sits_5 ci_4 ?_
  obtain ⟨xr4, xσ2, xc3, h⟩ := iB h
  refine g_callSi (pc := 6) (As := [.int (xa1), .int (4)]) (rest := [.ref (yad y (50))]) C dX5_sits_6 (fun l => c_X5_sitterAt l y _ _ _ _ _ xc3) cv_X5_93 ⟨rfl, rfl, Nat.le_of_ble_eq_true rfl, Nat.le_of_ble_eq_true rfl⟩ rfl (Nat.le_of_ble_eq_true rfl) ?_
  refine g_dup2 (pc := 9) C dX5_sits_9 rfl rfl ?_
  obtain ⟨xq5, h⟩ := iC h
  refine g_iald (pc := 10) C dX5_sits_10 rfl (ivp xq5 rfl) (j := xr4.toNatClampNeg) rfl ?_
  refine g_aload_n (pc := 11) C dX5_sits_11 rfl 0 rfl ?_
  refine gf_5_0 (pc := 12) C wf_X5_9 dX5_sits_12 xq1 ?_
  refine g_iconst (v := 5) (pc := 15) C dX5_sits_15 ci_5 ?_
  refine g_iald (pc := 16) C dX5_sits_16 rfl (ivp (by decide) rfl) (j := 5) ct_5 ?_
  refine g_isub (pc := 17) C dX5_sits_17 ?_
  obtain ⟨xq6, h⟩ := iC h
  refine g_iast (pc := 18) C dX5_sits_18 rfl (ivp xq6 rfl) (j := xr4.toNatClampNeg) rfl ?_
  refine g_letS h (fun xσ7 h => ?_)
  refine g_aload_n (pc := 19) C dX5_sits_19 rfl 0 rfl ?_
  refine gf_5_0 (pc := 20) C wf_X5_9 dX5_sits_20 xq1 ?_
  refine g_bipush (v := 6) (pc := 23) C dX5_sits_23 cb_6 ?_
  refine g_ldc (v := 99999) (pc := 25) C dX5_sits_25 wk_X5_74 ?_
  refine g_aload_n (pc := 27) C dX5_sits_27 rfl 0 rfl ?_
  refine gf_5_0 (pc := 28) C wf_X5_9 dX5_sits_28 xq1 ?_
  refine g_bipush (v := 6) (pc := 31) C dX5_sits_31 cb_6 ?_
  refine g_iald (pc := 33) C dX5_sits_33 rfl (ivp (by decide) rfl) (j := 6) ct_6 ?_
  refine g_aload_n (pc := 34) C dX5_sits_34 rfl 0 rfl ?_
  refine gf_5_0 (pc := 35) C wf_X5_9 dX5_sits_35 xq1 ?_
  refine g_iconst (v := 5) (pc := 38) C dX5_sits_38 ci_5 ?_
  refine g_iald (pc := 39) C dX5_sits_39 rfl (ivp (by decide) rfl) (j := 5) ct_5 ?_
  refine g_iadd (pc := 40) C dX5_sits_40 ?_
  refine g_mmin (pc := 41) C dX5_sits_41 wm_X5_139 wt_min wn_Math wc_min (Nat.le_of_ble_eq_true rfl) (Nat.le_of_ble_eq_true rfl) ?_
  refine g_iast (pc := 44) C dX5_sits_44 rfl (ivp (by decide) rfl) (j := 6) ct_6 ?_
  refine g_letS h (fun xσ8 h => ?_)
  refine g_aload_n (pc := 45) C dX5_sits_45 rfl 0 rfl ?_
  refine gf_5_0 (pc := 46) C wf_X5_9 dX5_sits_46 xq1 ?_
  refine g_iload_n (pc := 49) C dX5_sits_49 rfl 1 rfl ?_
  refine g_bipush (v := 6) (pc := 50) C dX5_sits_50 cb_6 ?_
  obtain ⟨xr11, xσ9, xc10, h⟩ := iB h
  refine g_callSi (pc := 52) (As := [.int (xa1), .int (6)]) (rest := [.ref (yad y (50))]) C dX5_sits_52 (fun l => c_X5_sitterAt l y _ _ _ _ _ xc10) cv_X5_93 ⟨rfl, rfl, Nat.le_of_ble_eq_true rfl, Nat.le_of_ble_eq_true rfl⟩ rfl (Nat.le_of_ble_eq_true rfl) ?_
  refine g_sipush (v := 9999) (pc := 55) C dX5_sits_55 cs_9999 ?_
  refine g_aload_n (pc := 58) C dX5_sits_58 rfl 0 rfl ?_
  refine g_iload_n (pc := 59) C dX5_sits_59 rfl 1 rfl ?_
  refine g_bipush (v := 6) (pc := 60) C dX5_sits_60 cb_6 ?_
  obtain ⟨xr14, xσ12, xc13, h⟩ := iB h
  refine g_callVi (pc := 62) (As := [.int (xa1), .int (6)]) (rest := [.int (9999), .int (xr11), .ref (yad y (50))]) C dX5_sits_62 (fun l => c_X5_sitterIs l y _ _ _ _ _ _ xc13) cv_X5_104 ⟨rfl, rfl, Nat.le_of_ble_eq_true rfl, Nat.le_of_ble_eq_true rfl⟩ (rv5 xq1) rfl (Nat.le_of_ble_eq_true rfl) ?_
  refine g_iconst (v := 1) (pc := 65) C dX5_sits_65 ci_1 ?_
  refine g_iadd (pc := 66) C dX5_sits_66 ?_
  refine g_mmin (pc := 67) C dX5_sits_67 wm_X5_139 wt_min wn_Math wc_min (Nat.le_of_ble_eq_true rfl) (Nat.le_of_ble_eq_true rfl) ?_
  obtain ⟨xq15, h⟩ := iC h
  refine g_iast (pc := 70) C dX5_sits_70 rfl (ivp xq15 rfl) (j := xr11.toNatClampNeg) rfl ?_
  refine g_letS h (fun xσ16 h => ?_)
  refine g_aload_n (pc := 71) C dX5_sits_71 rfl 0 rfl ?_
  refine g_aload_n (pc := 72) C dX5_sits_72 rfl 0 rfl ?_
  refine g_iload_n (pc := 73) C dX5_sits_73 rfl 1 rfl ?_
  refine g_iconst (v := 1) (pc := 74) C dX5_sits_74 ci_1 ?_
  obtain ⟨xr19, xσ17, xc18, h⟩ := iB h
  refine g_callVi (pc := 75) (As := [.int (xa1), .int (1)]) (rest := [.ref (yad y (xa0))]) C dX5_sits_75 (fun l => c_X5_sitterIs l y _ _ _ _ _ _ xc18) cv_X5_104 ⟨rfl, rfl, Nat.le_of_ble_eq_true rfl, Nat.le_of_ble_eq_true rfl⟩ (rv5 xq1) rfl (Nat.le_of_ble_eq_true rfl) ?_
  obtain ⟨xr22, xσ20, xc21, h⟩ := iB h
  refine g_callVv (pc := 78) (As := [.int (xr19)]) (rest := []) C dX5_sits_78 (fun l => c_X5_turnsStool l y _ _ _ _ _ xc21) cv_X5_145 ⟨rfl, rfl, Nat.le_of_ble_eq_true rfl, Nat.le_of_ble_eq_true rfl⟩ (rv5 xq1) rfl (Nat.le_of_ble_eq_true rfl) ?_
  refine g_aload_n (pc := 81) C dX5_sits_81 rfl 0 rfl ?_
  refine g_iload_n (pc := 82) C dX5_sits_82 rfl 1 rfl ?_
  obtain ⟨xr25, xσ23, xc24, h⟩ := iB h
  refine g_callVi (pc := 83) (As := [.int (xa1)]) (rest := []) C dX5_sits_83 (fun l => c_X5_isGood l y _ _ _ _ _ xc24) cv_X5_149 ⟨rfl, rfl, Nat.le_of_ble_eq_true rfl, Nat.le_of_ble_eq_true rfl⟩ (rv5 xq1) rfl (Nat.le_of_ble_eq_true rfl) ?_
  refine g_if_eq (pc := 86) C dX5_sits_86 (tgt := 139) rfl (fun xq26 => ?_) (fun xq26 => ?_)
  · have h := iP xq26 h
    refine g_aload_n (pc := 139) C dX5_sits_139 rfl 0 rfl ?_
    refine gf_5_0 (pc := 140) C wf_X5_9 dX5_sits_140 xq1 ?_
    refine g_iload_n (pc := 143) C dX5_sits_143 rfl 1 rfl ?_
    refine g_iconst (v := 3) (pc := 144) C dX5_sits_144 ci_3 ?_
    obtain ⟨xr29, xσ27, xc28, h⟩ := iB h
    refine g_callSi (pc := 145) (As := [.int (xa1), .int (3)]) (rest := [.ref (yad y (50))]) C dX5_sits_145 (fun l => c_X5_sitterAt l y _ _ _ _ _ xc28) cv_X5_93 ⟨rfl, rfl, Nat.le_of_ble_eq_true rfl, Nat.le_of_ble_eq_true rfl⟩ rfl (Nat.le_of_ble_eq_true rfl) ?_
    refine g_iconst (v := 0) (pc := 148) C dX5_sits_148 ci_0 ?_
    refine g_aload_n (pc := 149) C dX5_sits_149 rfl 0 rfl ?_
    refine g_iload_n (pc := 150) C dX5_sits_150 rfl 1 rfl ?_
    refine g_iconst (v := 3) (pc := 151) C dX5_sits_151 ci_3 ?_
    obtain ⟨xr32, xσ30, xc31, h⟩ := iB h
    refine g_callVi (pc := 152) (As := [.int (xa1), .int (3)]) (rest := [.int (0), .int (xr29), .ref (yad y (50))]) C dX5_sits_152 (fun l => c_X5_sitterIs l y _ _ _ _ _ _ xc31) cv_X5_104 ⟨rfl, rfl, Nat.le_of_ble_eq_true rfl, Nat.le_of_ble_eq_true rfl⟩ (rv5 xq1) rfl (Nat.le_of_ble_eq_true rfl) ?_
    refine g_iconst (v := 1) (pc := 155) C dX5_sits_155 ci_1 ?_
    refine g_isub (pc := 156) C dX5_sits_156 ?_
    refine g_mmax (pc := 157) C dX5_sits_157 wm_X5_142 wt_max wn_Math wc_max (Nat.le_of_ble_eq_true rfl) (Nat.le_of_ble_eq_true rfl) ?_
    obtain ⟨xq33, h⟩ := iC h
    refine g_iast (pc := 160) C dX5_sits_160 rfl (ivp xq33 rfl) (j := xr29.toNatClampNeg) rfl ?_
    refine g_letS h (fun xσ34 h => ?_)
    exact rtV hr dX5_sits_161 h
  · have h := iN xq26 h
    refine g_aload_n (pc := 89) C dX5_sits_89 rfl 0 rfl ?_
    refine gf_5_0 (pc := 90) C wf_X5_9 dX5_sits_90 xq1 ?_
    refine g_iload_n (pc := 93) C dX5_sits_93 rfl 1 rfl ?_
    refine g_iconst (v := 5) (pc := 94) C dX5_sits_94 ci_5 ?_
    obtain ⟨xr37, xσ35, xc36, h⟩ := iB h
    refine g_callSi (pc := 95) (As := [.int (xa1), .int (5)]) (rest := [.ref (yad y (50))]) C dX5_sits_95 (fun l => c_X5_sitterAt l y _ _ _ _ _ xc36) cv_X5_93 ⟨rfl, rfl, Nat.le_of_ble_eq_true rfl, Nat.le_of_ble_eq_true rfl⟩ rfl (Nat.le_of_ble_eq_true rfl) ?_
    refine g_sipush (v := 999) (pc := 98) C dX5_sits_98 cs_999 ?_
    refine g_aload_n (pc := 101) C dX5_sits_101 rfl 0 rfl ?_
    refine g_iload_n (pc := 102) C dX5_sits_102 rfl 1 rfl ?_
    refine g_iconst (v := 5) (pc := 103) C dX5_sits_103 ci_5 ?_
    obtain ⟨xr40, xσ38, xc39, h⟩ := iB h
    refine g_callVi (pc := 104) (As := [.int (xa1), .int (5)]) (rest := [.int (999), .int (xr37), .ref (yad y (50))]) C dX5_sits_104 (fun l => c_X5_sitterIs l y _ _ _ _ _ _ xc39) cv_X5_104 ⟨rfl, rfl, Nat.le_of_ble_eq_true rfl, Nat.le_of_ble_eq_true rfl⟩ (rv5 xq1) rfl (Nat.le_of_ble_eq_true rfl) ?_
    refine g_iconst (v := 1) (pc := 107) C dX5_sits_107 ci_1 ?_
    refine g_iadd (pc := 108) C dX5_sits_108 ?_
    refine g_mmin (pc := 109) C dX5_sits_109 wm_X5_139 wt_min wn_Math wc_min (Nat.le_of_ble_eq_true rfl) (Nat.le_of_ble_eq_true rfl) ?_
    obtain ⟨xq41, h⟩ := iC h
    refine g_iast (pc := 112) C dX5_sits_112 rfl (ivp xq41 rfl) (j := xr37.toNatClampNeg) rfl ?_
    refine g_letS h (fun xσ42 h => ?_)
    refine g_aload_n (pc := 113) C dX5_sits_113 rfl 0 rfl ?_
    refine gf_5_0 (pc := 114) C wf_X5_9 dX5_sits_114 xq1 ?_
    refine g_iload_n (pc := 117) C dX5_sits_117 rfl 1 rfl ?_
    refine g_iconst (v := 2) (pc := 118) C dX5_sits_118 ci_2 ?_
    obtain ⟨xr45, xσ43, xc44, h⟩ := iB h
    refine g_callSi (pc := 119) (As := [.int (xa1), .int (2)]) (rest := [.ref (yad y (50))]) C dX5_sits_119 (fun l => c_X5_sitterAt l y _ _ _ _ _ xc44) cv_X5_93 ⟨rfl, rfl, Nat.le_of_ble_eq_true rfl, Nat.le_of_ble_eq_true rfl⟩ rfl (Nat.le_of_ble_eq_true rfl) ?_
    refine g_bipush (v := 9) (pc := 122) C dX5_sits_122 cb_9 ?_
    refine g_aload_n (pc := 124) C dX5_sits_124 rfl 0 rfl ?_
    refine g_iload_n (pc := 125) C dX5_sits_125 rfl 1 rfl ?_
    refine g_iconst (v := 2) (pc := 126) C dX5_sits_126 ci_2 ?_
    obtain ⟨xr48, xσ46, xc47, h⟩ := iB h
    refine g_callVi (pc := 127) (As := [.int (xa1), .int (2)]) (rest := [.int (9), .int (xr45), .ref (yad y (50))]) C dX5_sits_127 (fun l => c_X5_sitterIs l y _ _ _ _ _ _ xc47) cv_X5_104 ⟨rfl, rfl, Nat.le_of_ble_eq_true rfl, Nat.le_of_ble_eq_true rfl⟩ (rv5 xq1) rfl (Nat.le_of_ble_eq_true rfl) ?_
    refine g_iconst (v := 1) (pc := 130) C dX5_sits_130 ci_1 ?_
    refine g_iadd (pc := 131) C dX5_sits_131 ?_
    refine g_mmin (pc := 132) C dX5_sits_132 wm_X5_139 wt_min wn_Math wc_min (Nat.le_of_ble_eq_true rfl) (Nat.le_of_ble_eq_true rfl) ?_
    obtain ⟨xq49, h⟩ := iC h
    refine g_iast (pc := 135) C dX5_sits_135 rfl (ivp xq49 rfl) (j := xr45.toNatClampNeg) rfl ?_
    refine g_letS h (fun xσ50 h => ?_)
    refine g_goto (pc := 136) C dX5_sits_136 (tgt := 161) rfl ?_
    exact rtV hr dX5_sits_161 h
theorem c_X5_sits (l : Launch) (y : YT) (xa0 : Nat) (xa1 : Int32) (σ σ' : Sto) (r : Unit) (h : F_X5_sits xa0 xa1 σ = some (r, σ')) : MV l y yX5_sits (Cond.code yX5_sits cX5_sits 2 none :: TT) rm_X5_sits [.ref (yad y (xa0)), .int (xa1)] σ r σ' :=
  mkV (by decide) rfl rfl rfl (Nat.le_of_ble_eq_true rfl) (fun x Z C hr => b_X5_sits_0 C hr xa0 xa1 σ h)
def rm_X5_next : Room := { frames := 0, cells := 0, slots := 0, locals := 0 }
def F_X5_next (xa0 : Nat) (σ : Sto) : Option (Int32 × Sto) := ck (kd (xa0) == 5) (ck (inr (17 + (irm (σ 50 0) 6)) (79)) (some (σ 50 ((17 + (irm (σ 50 0) 6) : Int32).toNatClampNeg), σ)))
set_option maxHeartbeats 4000000 in
set_option maxRecDepth 20000 in
theorem b_X5_next_0 {x : XT} {y : YT} {Z : State → Prop} (C : Cx x y (AY y) RX5 cX5_next 1 rm_X5_next) {r : Int32} {σ' : Sto} (hr : RetI x y (AY y) 1 cX5_next Z r σ') (xa0 : Nat) (σ : Sto) (h : F_X5_next xa0 σ = some (r, σ')) : GW x y (AY y) 1 Z 0 [(0, .ref (yad y (xa0)))] [] σ := by
  unfold F_X5_next at h
  refine g_aload_n (pc := 0) C dX5_next_0 rfl 0 rfl ?_
  obtain ⟨xq1, h⟩ := iC h
  have xq1 := keq xq1
  refine gf_5_0 (pc := 1) C wf_X5_9 dX5_next_1 xq1 ?_
  refine g_bipush (v := 17) (pc := 4) C dX5_next_4 cb_17 ?_
  refine g_aload_n (pc := 6) C dX5_next_6 rfl 0 rfl ?_
  refine gf_5_0 (pc := 7) C wf_X5_9 dX5_next_7 xq1 ?_
  refine g_iconst (v := 0) (pc := 10) C dX5_next_10 ci_0 ?_
  refine g_iald (pc := 11) C dX5_next_11 rfl (ivp (by decide) rfl) (j := 0) ct_0 ?_
  refine g_bipush (v := 6) (pc := 12) C dX5_next_12 cb_6 ?_
  refine g_irem (pc := 14) C dX5_next_14 (by decide) ?_
  refine g_iadd (pc := 15) C dX5_next_15 ?_
  obtain ⟨xq2, h⟩ := iC h
  refine g_iald (pc := 16) C dX5_next_16 rfl (ivp xq2 rfl) (j := (17 + (irm (σ 50 0) 6) : Int32).toNatClampNeg) rfl ?_
  exact rtI hr dX5_next_17 h
theorem c_X5_next (l : Launch) (y : YT) (xa0 : Nat) (σ σ' : Sto) (r : Int32) (h : F_X5_next xa0 σ = some (r, σ')) : MI l y yX5_next (Cond.code yX5_next cX5_next 1 (some .int) :: TT) rm_X5_next [.ref (yad y (xa0))] σ r σ' :=
  mkI (by decide) rfl rfl rfl (Nat.le_of_ble_eq_true rfl) (fun x Z C hr => b_X5_next_0 C hr xa0 σ h)

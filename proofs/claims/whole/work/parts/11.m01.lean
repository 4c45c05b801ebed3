/-! methods, by program: what each does to the store (F_), its walk (b_), its contract (c_): X1_allows, X0_become, X0_isPart, X0_mostOf, X0_part, X0_putPart, X0_isPlace, X0_nextPlace, X0_whoIsIn, X0_seat, X0_isSitter, X0_emptyPlacesOf, X0_isSomebodyOrNobody, X0_who, X0_addSitter, X0_partOf, X0_give, X0_sumOf, X0_sitterSet, X0_isEachTaken, X0_spotsInUse, X0_faultsOf, X0_hasClearFlash -/
def rm_X1_allows : Room := { frames := 2, cells := 0, slots := 0, locals := 42 }
def F_X1_allows (xa0 : Nat) (xa1 : Int32) (xa2 : Int32) (σ : Sto) : Option (Int32 × Sto) := ck (kd (xa0) == 1) (bnd (F_X1_number (xa0) (xa1) σ) (fun xr4 xσ1 => if xr4 = (-1) then some (1, xσ1) else if xr4 = xa2 then some (1, xσ1) else some (0, xσ1)))
set_option maxHeartbeats 4000000 in
set_option maxRecDepth 20000 in
theorem b_X1_allows_0 {x : XT} {y : YT} {Z : State → Prop} (C : Cx x y (AY y) RX1 cX1_allows 4 rm_X1_allows) {r : Int32} {σ' : Sto} (hr : RetZ x y (AY y) 4 cX1_allows Z r σ') (xa0 : Nat) (xa1 : Int32) (xa2 : Int32) (σ : Sto) (h : F_X1_allows xa0 xa1 xa2 σ = some (r, σ')) : GW x y (AY y) 4 Z 0 [(0, .ref (yad y (xa0))), (1, .int (xa1)), (2, .int (xa2))] [] σ := by
  unfold F_X1_allows at h
  refine g_aload_n (pc := 0) C dX1_allows_0 rfl 0 rfl ?_
  refine g_iload_n (pc := 1) C dX1_allows_1 rfl 1 rfl ?_
  obtain ⟨xq3, h⟩ := iC h
  have xq3 := keq xq3
  obtain ⟨xr4, xσ1, xc2, h⟩ := iB h
  refine g_callVi (pc := 2) (As := [.int (xa1)]) (rest := []) C dX1_allows_2 (fun l => c_X1_number l y _ _ _ _ _ xc2) cv_X1_24 ⟨rfl, rfl, Nat.le_of_ble_eq_true rfl, Nat.le_of_ble_eq_true rfl⟩ (rv1 xq3) rfl (Nat.le_of_ble_eq_true rfl) ?_
  refine g_istore_n (i := 3) (lv' := [(3, .int (xr4)), (0, .ref (yad y (xa0))), (1, .int (xa1)), (2, .int (xa2))]) (pc := 5) C dX1_allows_5 rfl (Nat.le_of_ble_eq_true rfl) rfl ?_
  refine g_iload_n (pc := 6) C dX1_allows_6 rfl 0 rfl ?_
  refine g_iconst (v := (-1)) (pc := 7) C dX1_allows_7 ci_m1 ?_
  refine g_icmp_eq (pc := 8) C dX1_allows_8 (tgt := 16) rfl (fun xq5 => ?_) (fun xq5 => ?_)
  · have h := iP xq5 h
    refine g_iconst (v := 1) (pc := 16) C dX1_allows_16 ci_1 ?_
    refine g_goto (pc := 17) C dX1_allows_17 (tgt := 21) rfl ?_
    exact rtZ hr dX1_allows_21 (by decide) h
  · have h := iN xq5 h
    refine g_iload_n (pc := 11) C dX1_allows_11 rfl 0 rfl ?_
    refine g_iload_n (pc := 12) C dX1_allows_12 rfl 3 rfl ?_
    refine g_icmp_ne (pc := 13) C dX1_allows_13 (tgt := 20) rfl (fun xq6 => ?_) (fun xq6 => ?_)
    · have h := iN xq6 h
      refine g_iconst (v := 0) (pc := 20) C dX1_allows_20 ci_0 ?_
      exact rtZ hr dX1_allows_21 (by decide) h
    · have h := iP xq6 h
      refine g_iconst (v := 1) (pc := 16) C dX1_allows_16 ci_1 ?_
      refine g_goto (pc := 17) C dX1_allows_17 (tgt := 21) rfl ?_
      exact rtZ hr dX1_allows_21 (by decide) h
theorem c_X1_allows (l : Launch) (y : YT) (xa0 : Nat) (xa1 : Int32) (xa2 : Int32) (σ σ' : Sto) (r : Int32) (h : F_X1_allows xa0 xa1 xa2 σ = some (r, σ')) : MI l y yX1_allows (Cond.code yX1_allows cX1_allows 4 (some .boolean) :: TT) rm_X1_allows [.ref (yad y (xa0)), .int (xa1), .int (xa2)] σ r σ' :=
  mkZ (by decide) rfl rfl rfl (Nat.le_of_ble_eq_true rfl) (fun x Z C hr => b_X1_allows_0 C hr xa0 xa1 xa2 σ h)
def rm_X0_become : Room := { frames := 1, cells := 0, slots := 0, locals := 60 }
def F_X0_become_b93 (xa0 : Nat) (xa1 : Nat) (σ : Sto) : Option (Unit × Sto) := ck (kd (xa1) == 0) (ck (kd (xa0) == 0) (ck (cpok (0) (0) (6) (6) (6)) (lts (up1 σ (xa0 + 10) (va_cpy (σ (xa1 + 10)) (σ (xa0 + 10)) (0 : Int32).toNatClampNeg (0 : Int32).toNatClampNeg (6 : Int32).toNatClampNeg)) (fun xσ4 => ck (cpok (0) (0) (10) (10) (10)) (lts (up1 xσ4 (xa0 + 11) (va_cpy (xσ4 (xa1 + 11)) (xσ4 (xa0 + 11)) (0 : Int32).toNatClampNeg (0 : Int32).toNatClampNeg (10 : Int32).toNatClampNeg)) (fun xσ6 => some ((), xσ6)))))))
def F_X0_become_b58 (xk_58 : Nat → Nat → Int32 → Sto → Option (Unit × Sto)) (xa0 : Nat) (xa1 : Nat) (xa2 : Int32) (σ : Sto) : Option (Unit × Sto) := if 8 ≤ xa2 then F_X0_become_b93 xa0 xa1 σ else ck (kd (xa0) == 0) (if (σ xa0 6) ≤ xa2 then F_X0_become_b93 xa0 xa1 σ else ck (inr (xa2) (8)) (ck (kd (xa1) == 0) (ck (inr (xa2) (8)) (bnd (F_X2_become (xa0 + 1 + 1 + xa2.toNatClampNeg) (xa1 + 1 + 1 + xa2.toNatClampNeg) σ) (fun xr9 xσ7 => xk_58 xa0 xa1 (xa2 + 1) xσ7)))))
def F_X0_become (xa0 : Nat) (xa1 : Nat) (σ : Sto) : Option (Unit × Sto) := ck (kd (xa1) == 0) (ck (kd (xa0) == 0) (lts (up2 σ (xa0) 0 (σ xa1 0)) (fun xσ3 => lts (up2 xσ3 (xa0) 1 (xσ3 xa1 1)) (fun xσ4 => lts (up2 xσ4 (xa0) 2 (xσ4 xa1 2)) (fun xσ5 => lts (up2 xσ5 (xa0) 3 (xσ5 xa1 3)) (fun xσ6 => lts (up2 xσ6 (xa0) 4 (xσ6 xa1 4)) (fun xσ7 => lts (up2 xσ7 (xa0) 5 (xσ7 xa1 5)) (fun xσ8 => lts (up2 xσ8 (xa0) 6 (xσ8 xa1 6)) (fun xσ9 => lo3 (F_X0_become_b58) 1000 xa0 xa1 0 xσ9)))))))))
set_option maxHeartbeats 4000000 in
set_option maxRecDepth 20000 in
theorem b_X0_become_93 {x : XT} {y : YT} {Z : State → Prop} (C : Cx x y (AY y) RX0 cX0_become 3 rm_X0_become) {r : Unit} {σ' : Sto} (hr : RetV x y (AY y) 3 cX0_become Z r σ') (xa0 : Nat) (xa1 : Nat) (σ : Sto) (h : F_X0_become_b93 xa0 xa1 σ = some (r, σ')) : GW x y (AY y) 3 Z 93 [(0, .ref (yad y (xa0))), (1, .ref (yad y (xa1)))] [] σ := by
  unfold F_X0_become_b93 at h
  refine g_aload_n (pc := 93) C dX0_become_93 rfl 1 rfl ?_
  obtain ⟨xq1, h⟩ := iC h
  have xq1 := keq xq1
  refine gf_0_8 (pc := 94) C wf_X0_40 dX0_become_94 xq1 ?_
  refine g_iconst (v := 0) (pc := 97) C dX0_become_97 ci_0 ?_
  refine g_aload_n (pc := 98) C dX0_become_98 rfl 0 rfl ?_
  obtain ⟨xq2, h⟩ := iC h
  have xq2 := keq xq2
  refine gf_0_8 (pc := 99) C wf_X0_40 dX0_become_99 xq2 ?_
  refine g_iconst (v := 0) (pc := 102) C dX0_become_102 ci_0 ?_
  refine g_bipush (v := 6) (pc := 103) C dX0_become_103 cb_6 ?_
  obtain ⟨xq3, h⟩ := iC h
  refine g_cpy (pc := 105) C dX0_become_105 wm_X0_51 wnative_arraycopy wt_arraycopy wn_J10 (kr_0_8 xq1) (kr_0_8 xq2) xq3 (lr_0_8 xq1) (lr_0_8 xq2) (Nat.le_of_ble_eq_true rfl) (by decide) ?_
  refine g_letS h (fun xσ4 h => ?_)
  refine g_aload_n (pc := 108) C dX0_become_108 rfl 1 rfl ?_
  refine gf_0_9 (pc := 109) C wf_X0_44 dX0_become_109 xq1 ?_
  refine g_iconst (v := 0) (pc := 112) C dX0_become_112 ci_0 ?_
  refine g_aload_n (pc := 113) C dX0_become_113 rfl 0 rfl ?_
  refine gf_0_9 (pc := 114) C wf_X0_44 dX0_become_114 xq2 ?_
  refine g_iconst (v := 0) (pc := 117) C dX0_become_117 ci_0 ?_
  refine g_bipush (v := 10) (pc := 118) C dX0_become_118 cb_10 ?_
  obtain ⟨xq5, h⟩ := iC h
  refine g_cpy (pc := 120) C dX0_become_120 wm_X0_51 wnative_arraycopy wt_arraycopy wn_J10 (kr_0_9 xq1) (kr_0_9 xq2) xq5 (lr_0_9 xq1) (lr_0_9 xq2) (Nat.le_of_ble_eq_true rfl) (by decide) ?_
  refine g_letS h (fun xσ6 h => ?_)
  exact rtV hr dX0_become_123 h
set_option maxHeartbeats 4000000 in
set_option maxRecDepth 20000 in
theorem b_X0_become_58 {x : XT} {y : YT} {Z : State → Prop} (C : Cx x y (AY y) RX0 cX0_become 3 rm_X0_become) {r : Unit} {σ' : Sto} (hr : RetV x y (AY y) 3 cX0_become Z r σ') (xk_58 : Nat → Nat → Int32 → Sto → Option (Unit × Sto)) (xH58 : ∀ (xa0 : Nat) (xa1 : Nat) (xa2 : Int32) (σ : Sto), xk_58 xa0 xa1 xa2 σ = some (r, σ') → GW x y (AY y) 3 Z 58 [(0, .ref (yad y (xa0))), (1, .ref (yad y (xa1))), (2, .int (xa2))] [] σ) (xa0 : Nat) (xa1 : Nat) (xa2 : Int32) (σ : Sto) (h : F_X0_become_b58 xk_58 xa0 xa1 xa2 σ = some (r, σ')) : GW x y (AY y) 3 Z 58 [(0, .ref (yad y (xa0))), (1, .ref (yad y (xa1))), (2, .int (xa2))] [] σ := by
  unfold F_X0_become_b58 at h
  refine g_iload_n (pc := 58) C dX0_become_58 rfl 2 rfl ?_
  refine g_bipush (v := 8) (pc := 59) C dX0_become_59 cb_8 ?_
  refine g_icmp_ge (pc := 61) C dX0_become_61 (tgt := 93) rfl (fun xq1 => ?_) (fun xq1 => ?_)
  · have h := iP xq1 h
    refine g_sub (lv' := [(0, .ref (yad y (xa0))), (1, .ref (yad y (xa1)))]) C [0, 1] rfl ?_
    exact b_X0_become_93 C hr xa0 xa1 σ h
  · have h := iN xq1 h
    refine g_iload_n (pc := 64) C dX0_become_64 rfl 2 rfl ?_
    refine g_aload_n (pc := 65) C dX0_become_65 rfl 0 rfl ?_
    obtain ⟨xq2, h⟩ := iC h
    have xq2 := keq xq2
    refine gf_0_6 (pc := 66) C wf_X0_30 dX0_become_66 xq2 ?_
    refine g_icmp_ge (pc := 69) C dX0_become_69 (tgt := 93) rfl (fun xq3 => ?_) (fun xq3 => ?_)
    · have h := iP xq3 h
      refine g_sub (lv' := [(0, .ref (yad y (xa0))), (1, .ref (yad y (xa1)))]) C [0, 1] rfl ?_
      exact b_X0_become_93 C hr xa0 xa1 σ h
    · have h := iN xq3 h
      refine g_aload_n (pc := 72) C dX0_become_72 rfl 0 rfl ?_
      refine gf_0_7 (pc := 73) C wf_X0_35 dX0_become_73 xq2 ?_
      refine g_iload_n (pc := 76) C dX0_become_76 rfl 2 rfl ?_
      obtain ⟨xq4, h⟩ := iC h
      refine g_aald7 (pc := 77) C dX0_become_77 (kr_0_7 xq2) (ivp xq4 (lr_0_7 xq2)) ?_
      refine g_aload_n (pc := 78) C dX0_become_78 rfl 1 rfl ?_
      obtain ⟨xq5, h⟩ := iC h
      have xq5 := keq xq5
      refine gf_0_7 (pc := 79) C wf_X0_35 dX0_become_79 xq5 ?_
      refine g_iload_n (pc := 82) C dX0_become_82 rfl 2 rfl ?_
      obtain ⟨xq6, h⟩ := iC h
      refine g_aald7 (pc := 83) C dX0_become_83 (kr_0_7 xq5) (ivp xq6 (lr_0_7 xq5)) ?_
      obtain ⟨xr9, xσ7, xc8, h⟩ := iB h
      refine g_callVv (pc := 84) (As := [.ref (yad y (xa1 + 1 + 1 + xa2.toNatClampNeg))]) (rest := []) C dX0_become_84 (fun l => c_X2_become l y _ _ _ _ _ xc8) cv_X0_47 ⟨rfl, rfl, Nat.le_of_ble_eq_true rfl, Nat.le_of_ble_eq_true rfl⟩ (rv2 (el7 xq2 xq4)) rfl (Nat.le_of_ble_eq_true rfl) ?_
      refine g_iinc (lv' := [(2, .int (xa2 + 1)), (0, .ref (yad y (xa0))), (1, .ref (yad y (xa1)))]) (w := xa2 + 1) (pc := 87) C dX0_become_87 (k := 2) rfl rfl (Nat.le_of_ble_eq_true rfl) rfl ?_
      refine g_goto (pc := 90) C dX0_become_90 (tgt := 58) rfl ?_
      refine g_sub (lv' := [(0, .ref (yad y (xa0))), (1, .ref (yad y (xa1))), (2, .int (xa2 + 1))]) C [1, 2, 0] rfl ?_
      exact xH58 xa0 xa1 (xa2 + 1) xσ7 h
theorem l_X0_become_58 {x : XT} {y : YT} {Z : State → Prop} (C : Cx x y (AY y) RX0 cX0_become 3 rm_X0_become) {r : Unit} {σ' : Sto} (hr : RetV x y (AY y) 3 cX0_become Z r σ') (n : Nat) (xa0 : Nat) (xa1 : Nat) (xa2 : Int32) (σ : Sto) (h : lo3 (F_X0_become_b58) n xa0 xa1 xa2 σ = some (r, σ')) : GW x y (AY y) 3 Z 58 [(0, .ref (yad y (xa0))), (1, .ref (yad y (xa1))), (2, .int (xa2))] [] σ :=
  lo3_gw (G := fun xa0 xa1 xa2 σ => GW x y (AY y) 3 Z 58 [(0, .ref (yad y (xa0))), (1, .ref (yad y (xa1))), (2, .int (xa2))] [] σ) (fun xk xHk xa0 xa1 xa2 σ h => b_X0_become_58 C hr xk xHk xa0 xa1 xa2 σ h) n xa0 xa1 xa2 σ h
set_option maxHeartbeats 4000000 in
set_option maxRecDepth 20000 in
theorem b_X0_become_0 {x : XT} {y : YT} {Z : State → Prop} (C : Cx x y (AY y) RX0 cX0_become 3 rm_X0_become) {r : Unit} {σ' : Sto} (hr : RetV x y (AY y) 3 cX0_become Z r σ') (xa0 : Nat) (xa1 : Nat) (σ : Sto) (h : F_X0_become xa0 xa1 σ = some (r, σ')) : GW x y (AY y) 3 Z 0 [(0, .ref (yad y (xa0))), (1, .ref (yad y (xa1)))] [] σ := by
  unfold F_X0_become at h
  refine g_aload_n (pc := 0) C dX0_become_0 rfl 0 rfl ?_
  refine g_aload_n (pc := 1) C dX0_become_1 rfl 1 rfl ?_
  obtain ⟨xq1, h⟩ := iC h
  have xq1 := keq xq1
  refine gf_0_0 (pc := 2) C wf_X0_9 dX0_become_2 xq1 ?_
  obtain ⟨xq2, h⟩ := iC h
  have xq2 := keq xq2
  refine gp_0_0 (pc := 5) C wf_X0_9 dX0_become_5 xq2 ?_
  refine g_letS h (fun xσ3 h => ?_)
  refine g_aload_n (pc := 8) C dX0_become_8 rfl 0 rfl ?_
  refine g_aload_n (pc := 9) C dX0_become_9 rfl 1 rfl ?_
  refine gf_0_1 (pc := 10) C wf_X0_15 dX0_become_10 xq1 ?_
  refine gp_0_1 (pc := 13) C wf_X0_15 dX0_become_13 xq2 ?_
  refine g_letS h (fun xσ4 h => ?_)
  refine g_aload_n (pc := 16) C dX0_become_16 rfl 0 rfl ?_
  refine g_aload_n (pc := 17) C dX0_become_17 rfl 1 rfl ?_
  refine gf_0_2 (pc := 18) C wf_X0_18 dX0_become_18 xq1 ?_
  refine gp_0_2 (pc := 21) C wf_X0_18 dX0_become_21 xq2 ?_
  refine g_letS h (fun xσ5 h => ?_)
  refine g_aload_n (pc := 24) C dX0_become_24 rfl 0 rfl ?_
  refine g_aload_n (pc := 25) C dX0_become_25 rfl 1 rfl ?_
  refine gf_0_3 (pc := 26) C wf_X0_21 dX0_become_26 xq1 ?_
  refine gp_0_3 (pc := 29) C wf_X0_21 dX0_become_29 xq2 ?_
  refine g_letS h (fun xσ6 h => ?_)
  refine g_aload_n (pc := 32) C dX0_become_32 rfl 0 rfl ?_
  refine g_aload_n (pc := 33) C dX0_become_33 rfl 1 rfl ?_
  refine gf_0_4 (pc := 34) C wf_X0_24 dX0_become_34 xq1 ?_
  refine gp_0_4 (pc := 37) C wf_X0_24 dX0_become_37 xq2 ?_
  refine g_letS h (fun xσ7 h => ?_)
  refine g_aload_n (pc := 40) C dX0_become_40 rfl 0 rfl ?_
  refine g_aload_n (pc := 41) C dX0_become_41 rfl 1 rfl ?_
  refine gf_0_5 (pc := 42) C wf_X0_27 dX0_become_42 xq1 ?_
  refine gp_0_5 (pc := 45) C wf_X0_27 dX0_become_45 xq2 ?_
  refine g_letS h (fun xσ8 h => ?_)
  refine g_aload_n (pc := 48) C dX0_become_48 rfl 0 rfl ?_
  refine g_aload_n (pc := 49) C dX0_become_49 rfl 1 rfl ?_
  refine gf_0_6 (pc := 50) C wf_X0_30 dX0_become_50 xq1 ?_
  refine gp_0_6 (pc := 53) C wf_X0_30 dX0_become_53 xq2 ?_
  refine g_letS h (fun xσ9 h => ?_)
  refine g_iconst (v := 0) (pc := 56) C dX0_become_56 ci_0 ?_
  refine g_istore_n (i := 2) (lv' := [(2, .int (0)), (0, .ref (yad y (xa0))), (1, .ref (yad y (xa1)))]) (pc := 57) C dX0_become_57 rfl (Nat.le_of_ble_eq_true rfl) rfl ?_
  refine g_sub (lv' := [(0, .ref (yad y (xa0))), (1, .ref (yad y (xa1))), (2, .int (0))]) C [1, 2, 0] rfl ?_
  exact l_X0_become_58 C hr 1000 xa0 xa1 0 xσ9 h
theorem c_X0_become (l : Launch) (y : YT) (xa0 : Nat) (xa1 : Nat) (σ σ' : Sto) (r : Unit) (h : F_X0_become xa0 xa1 σ = some (r, σ')) : MV l y yX0_become (Cond.code yX0_become cX0_become 3 none :: TT) rm_X0_become [.ref (yad y (xa0)), .ref (yad y (xa1))] σ r σ' :=
  mkV (by decide) rfl rfl rfl (Nat.le_of_ble_eq_true rfl) (fun x Z C hr => b_X0_become_0 C hr xa0 xa1 σ h)
def rm_X0_isPart : Room := { frames := 0, cells := 0, slots := 0, locals := 0 }
def F_X0_isPart (xa0 : Int32) (σ : Sto) : Option (Int32 × Sto) := if (xa0) < 0 then some (0, σ) else if 3 < xa0 then some (0, σ) else some (1, σ)
set_option maxHeartbeats 4000000 in
set_option maxRecDepth 20000 in
theorem b_X0_isPart_0 {x : XT} {y : YT} {Z : State → Prop} (C : Cx x y (AY y) RX0 cX0_isPart 1 rm_X0_isPart) {r : Int32} {σ' : Sto} (hr : RetZ x y (AY y) 1 cX0_isPart Z r σ') (xa0 : Int32) (σ : Sto) (h : F_X0_isPart xa0 σ = some (r, σ')) : GW x y (AY y) 1 Z 0 [(0, .int (xa0))] [] σ := by
  unfold F_X0_isPart at h
  refine g_iload_n (pc := 0) C dX0_isPart_0 rfl 0 rfl ?_
  refine g_if_lt (pc := 1) C dX0_isPart_1 (tgt := 13) rfl (fun xq1 => ?_) (fun xq1 => ?_)
  · have h := iP xq1 h
    refine g_iconst (v := 0) (pc := 13) C dX0_isPart_13 ci_0 ?_
    exact rtZ hr dX0_isPart_14 (by decide) h
  · have h := iN xq1 h
    refine g_iload_n (pc := 4) C dX0_isPart_4 rfl 0 rfl ?_
    refine g_iconst (v := 3) (pc := 5) C dX0_isPart_5 ci_3 ?_
    refine g_icmp_gt (pc := 6) C dX0_isPart_6 (tgt := 13) rfl (fun xq2 => ?_) (fun xq2 => ?_)
    · have h := iP xq2 h
      refine g_iconst (v := 0) (pc := 13) C dX0_isPart_13 ci_0 ?_
      exact rtZ hr dX0_isPart_14 (by decide) h
    · have h := iN xq2 h
      refine g_iconst (v := 1) (pc := 9) C dX0_isPart_9 ci_1 ?_
      refine g_goto (pc := 10) C dX0_isPart_10 (tgt := 14) rfl ?_
      exact rtZ hr dX0_isPart_14 (by decide) h
theorem c_X0_isPart (l : Launch) (y : YT) (xa0 : Int32) (σ σ' : Sto) (r : Int32) (h : F_X0_isPart xa0 σ = some (r, σ')) : MI l y yX0_isPart (Cond.code yX0_isPart cX0_isPart 1 (some .boolean) :: TT) rm_X0_isPart [.int (xa0)] σ r σ' :=
  mkZ (by decide) rfl rfl rfl (Nat.le_of_ble_eq_true rfl) (fun x Z C hr => b_X0_isPart_0 C hr xa0 σ h)
def rm_X0_mostOf : Room := { frames := 0, cells := 0, slots := 0, locals := 0 }
def F_X0_mostOf (xa0 : Int32) (σ : Sto) : Option (Int32 × Sto) := if xa0 = 0 then some (60, σ) else if xa0 = 1 then some (9, σ) else if xa0 = 2 then some (20, σ) else if xa0 = 3 then some (99999, σ) else some ((-1), σ)
set_option maxHeartbeats 4000000 in
set_option maxRecDepth 20000 in
theorem b_X0_mostOf_0 {x : XT} {y : YT} {Z : State → Prop} (C : Cx x y (AY y) RX0 cX0_mostOf 1 rm_X0_mostOf) {r : Int32} {σ' : Sto} (hr : RetI x y (AY y) 1 cX0_mostOf Z r σ') (xa0 : Int32) (σ : Sto) (h : F_X0_mostOf xa0 σ = some (r, σ')) : GW x y (AY y) 1 Z 0 [(0, .int (xa0))] [] σ := by
  unfold F_X0_mostOf at h
  refine g_iload_n (pc := 0) C dX0_mostOf_0 rfl 0 rfl ?_
  by_cases xq1 : xa0 = 0
  · have h := iP xq1 h
    refine g_tabIn (pc := 1) C dX0_mostOf_1 (v := 0) (tgt := 32) (by decide) (by decide) rfl rfl xq1 ?_
    refine g_bipush (v := 60) (pc := 32) C dX0_mostOf_32 cb_60 ?_
    exact rtI hr dX0_mostOf_34 h
  · have h := iN xq1 h
    by_cases xq2 : xa0 = 1
    · have h := iP xq2 h
      refine g_tabIn (pc := 1) C dX0_mostOf_1 (v := 1) (tgt := 35) (by decide) (by decide) rfl rfl xq2 ?_
      refine g_bipush (v := 9) (pc := 35) C dX0_mostOf_35 cb_9 ?_
      exact rtI hr dX0_mostOf_37 h
    · have h := iN xq2 h
      by_cases xq3 : xa0 = 2
      · have h := iP xq3 h
        refine g_tabIn (pc := 1) C dX0_mostOf_1 (v := 2) (tgt := 38) (by decide) (by decide) rfl rfl xq3 ?_
        refine g_bipush (v := 20) (pc := 38) C dX0_mostOf_38 cb_20 ?_
        exact rtI hr dX0_mostOf_40 h
      · have h := iN xq3 h
        by_cases xq4 : xa0 = 3
        · have h := iP xq4 h
          refine g_tabIn (pc := 1) C dX0_mostOf_1 (v := 3) (tgt := 41) (by decide) (by decide) rfl rfl xq4 ?_
          refine g_ldc (v := 99999) (pc := 41) C dX0_mostOf_41 wk_X0_57 ?_
          exact rtI hr dX0_mostOf_43 h
        · have h := iN xq4 h
          have xe0 : ¬ xa0.toInt = 0 := tne xq1
          have xe1 : ¬ xa0.toInt = 1 := tne xq2
          have xe2 : ¬ xa0.toInt = 2 := tne xq3
          have xe3 : ¬ xa0.toInt = 3 := tne xq4
          refine g_tabOut (pc := 1) C dX0_mostOf_1 (tgt := 44) (by omega) rfl ?_
          refine g_iconst (v := (-1)) (pc := 44) C dX0_mostOf_44 ci_m1 ?_
          exact rtI hr dX0_mostOf_45 h
theorem c_X0_mostOf (l : Launch) (y : YT) (xa0 : Int32) (σ σ' : Sto) (r : Int32) (h : F_X0_mostOf xa0 σ = some (r, σ')) : MI l y yX0_mostOf (Cond.code yX0_mostOf cX0_mostOf 1 (some .int) :: TT) rm_X0_mostOf [.int (xa0)] σ r σ' :=
  mkI (by decide) rfl rfl rfl (Nat.le_of_ble_eq_true rfl) (fun x Z C hr => b_X0_mostOf_0 C hr xa0 σ h)
def rm_X0_part : Room := { frames := 0, cells := 0, slots := 0, locals := 0 }
def F_X0_part (xa0 : Nat) (xa1 : Int32) (σ : Sto) : Option (Int32 × Sto) := if xa1 = 0 then ck (kd (xa0) == 0) (some (σ xa0 0, σ)) else if xa1 = 1 then ck (kd (xa0) == 0) (some (σ xa0 1, σ)) else if xa1 = 2 then ck (kd (xa0) == 0) (some (σ xa0 2, σ)) else if xa1 = 3 then ck (kd (xa0) == 0) (some (σ xa0 3, σ)) else some (0, σ)
set_option maxHeartbeats 4000000 in
set_option maxRecDepth 20000 in
theorem b_X0_part_0 {x : XT} {y : YT} {Z : State → Prop} (C : Cx x y (AY y) RX0 cX0_part 2 rm_X0_part) {r : Int32} {σ' : Sto} (hr : RetI x y (AY y) 2 cX0_part Z r σ') (xa0 : Nat) (xa1 : Int32) (σ : Sto) (h : F_X0_part xa0 xa1 σ = some (r, σ')) : GW x y (AY y) 2 Z 0 [(0, .ref (yad y (xa0))), (1, .int (xa1))] [] σ := by
  unfold F_X0_part at h
  refine g_iload_n (pc := 0) C dX0_part_0 rfl 1 rfl ?_
  by_cases xq1 : xa1 = 0
  · have h := iP xq1 h
    refine g_tabIn (pc := 1) C dX0_part_1 (v := 0) (tgt := 32) (by decide) (by decide) rfl rfl xq1 ?_
    refine g_aload_n (pc := 32) C dX0_part_32 rfl 0 rfl ?_
    obtain ⟨xq2, h⟩ := iC h
    have xq2 := keq xq2
    refine gf_0_0 (pc := 33) C wf_X0_9 dX0_part_33 xq2 ?_
    exact rtI hr dX0_part_36 h
  · have h := iN xq1 h
    by_cases xq3 : xa1 = 1
    · have h := iP xq3 h
      refine g_tabIn (pc := 1) C dX0_part_1 (v := 1) (tgt := 37) (by decide) (by decide) rfl rfl xq3 ?_
      refine g_aload_n (pc := 37) C dX0_part_37 rfl 0 rfl ?_
      obtain ⟨xq4, h⟩ := iC h
      have xq4 := keq xq4
      refine gf_0_1 (pc := 38) C wf_X0_15 dX0_part_38 xq4 ?_
      exact rtI hr dX0_part_41 h
    · have h := iN xq3 h
      by_cases xq5 : xa1 = 2
      · have h := iP xq5 h
        refine g_tabIn (pc := 1) C dX0_part_1 (v := 2) (tgt := 42) (by decide) (by decide) rfl rfl xq5 ?_
        refine g_aload_n (pc := 42) C dX0_part_42 rfl 0 rfl ?_
        obtain ⟨xq6, h⟩ := iC h
        have xq6 := keq xq6
        refine gf_0_2 (pc := 43) C wf_X0_18 dX0_part_43 xq6 ?_
        exact rtI hr dX0_part_46 h
      · have h := iN xq5 h
        by_cases xq7 : xa1 = 3
        · have h := iP xq7 h
          refine g_tabIn (pc := 1) C dX0_part_1 (v := 3) (tgt := 47) (by decide) (by decide) rfl rfl xq7 ?_
          refine g_aload_n (pc := 47) C dX0_part_47 rfl 0 rfl ?_
          obtain ⟨xq8, h⟩ := iC h
          have xq8 := keq xq8
          refine gf_0_3 (pc := 48) C wf_X0_21 dX0_part_48 xq8 ?_
          exact rtI hr dX0_part_51 h
        · have h := iN xq7 h
          have xe0 : ¬ xa1.toInt = 0 := tne xq1
          have xe1 : ¬ xa1.toInt = 1 := tne xq3
          have xe2 : ¬ xa1.toInt = 2 := tne xq5
          have xe3 : ¬ xa1.toInt = 3 := tne xq7
          refine g_tabOut (pc := 1) C dX0_part_1 (tgt := 52) (by omega) rfl ?_
          refine g_iconst (v := 0) (pc := 52) C dX0_part_52 ci_0 ?_
          exact rtI hr dX0_part_53 h
theorem c_X0_part (l : Launch) (y : YT) (xa0 : Nat) (xa1 : Int32) (σ σ' : Sto) (r : Int32) (h : F_X0_part xa0 xa1 σ = some (r, σ')) : MI l y yX0_part (Cond.code yX0_part cX0_part 2 (some .int) :: TT) rm_X0_part [.ref (yad y (xa0)), .int (xa1)] σ r σ' :=
  mkI (by decide) rfl rfl rfl (Nat.le_of_ble_eq_true rfl) (fun x Z C hr => b_X0_part_0 C hr xa0 xa1 σ h)
def rm_X0_putPart : Room := { frames := 0, cells := 0, slots := 0, locals := 0 }
def F_X0_putPart (xa0 : Nat) (xa1 : Int32) (xa2 : Int32) (σ : Sto) : Option (Unit × Sto) := if xa1 = 0 then ck (kd (xa0) == 0) (lts (up2 σ (xa0) 0 (xa2)) (fun xσ3 => some ((), xσ3))) else if xa1 = 1 then ck (kd (xa0) == 0) (lts (up2 σ (xa0) 1 (xa2)) (fun xσ6 => some ((), xσ6))) else if xa1 = 2 then ck (kd (xa0) == 0) (lts (up2 σ (xa0) 2 (xa2)) (fun xσ9 => some ((), xσ9))) else if xa1 = 3 then ck (kd (xa0) == 0) (lts (up2 σ (xa0) 3 (xa2)) (fun xσ12 => some ((), xσ12))) else some ((), σ)
set_option maxHeartbeats 4000000 in
set_option maxRecDepth 20000 in
theorem b_X0_putPart_0 {x : XT} {y : YT} {Z : State → Prop} (C : Cx x y (AY y) RX0 cX0_putPart 3 rm_X0_putPart) {r : Unit} {σ' : Sto} (hr : RetV x y (AY y) 3 cX0_putPart Z r σ') (xa0 : Nat) (xa1 : Int32) (xa2 : Int32) (σ : Sto) (h : F_X0_putPart xa0 xa1 xa2 σ = some (r, σ')) : GW x y (AY y) 3 Z 0 [(0, .ref (yad y (xa0))), (1, .int (xa1)), (2, .int (xa2))] [] σ := by
  unfold F_X0_putPart at h
  refine g_iload_n (pc := 0) C dX0_putPart_0 rfl 1 rfl ?_
  by_cases xq1 : xa1 = 0
  · have h := iP xq1 h
    refine g_tabIn (pc := 1) C dX0_putPart_1 (v := 0) (tgt := 32) (by decide) (by decide) rfl rfl xq1 ?_
    refine g_aload_n (pc := 32) C dX0_putPart_32 rfl 0 rfl ?_
    refine g_iload_n (pc := 33) C dX0_putPart_33 rfl 2 rfl ?_
    obtain ⟨xq2, h⟩ := iC h
    have xq2 := keq xq2
    refine gp_0_0 (pc := 34) C wf_X0_9 dX0_putPart_34 xq2 ?_
    refine g_letS h (fun xσ3 h => ?_)
    refine g_goto (pc := 37) C dX0_putPart_37 (tgt := 64) rfl ?_
    exact rtV hr dX0_putPart_64 h
  · have h := iN xq1 h
    by_cases xq4 : xa1 = 1
    · have h := iP xq4 h
      refine g_tabIn (pc := 1) C dX0_putPart_1 (v := 1) (tgt := 40) (by decide) (by decide) rfl rfl xq4 ?_
      refine g_aload_n (pc := 40) C dX0_putPart_40 rfl 0 rfl ?_
      refine g_iload_n (pc := 41) C dX0_putPart_41 rfl 2 rfl ?_
      obtain ⟨xq5, h⟩ := iC h
      have xq5 := keq xq5
      refine gp_0_1 (pc := 42) C wf_X0_15 dX0_putPart_42 xq5 ?_
      refine g_letS h (fun xσ6 h => ?_)
      refine g_goto (pc := 45) C dX0_putPart_45 (tgt := 64) rfl ?_
      exact rtV hr dX0_putPart_64 h
    · have h := iN xq4 h
      by_cases xq7 : xa1 = 2
      · have h := iP xq7 h
        refine g_tabIn (pc := 1) C dX0_putPart_1 (v := 2) (tgt := 48) (by decide) (by decide) rfl rfl xq7 ?_
        refine g_aload_n (pc := 48) C dX0_putPart_48 rfl 0 rfl ?_
        refine g_iload_n (pc := 49) C dX0_putPart_49 rfl 2 rfl ?_
        obtain ⟨xq8, h⟩ := iC h
        have xq8 := keq xq8
        refine gp_0_2 (pc := 50) C wf_X0_18 dX0_putPart_50 xq8 ?_
        refine g_letS h (fun xσ9 h => ?_)
        refine g_goto (pc := 53) C dX0_putPart_53 (tgt := 64) rfl ?_
        exact rtV hr dX0_putPart_64 h
      · have h := iN xq7 h
        by_cases xq10 : xa1 = 3
        · have h := iP xq10 h
          refine g_tabIn (pc := 1) C dX0_putPart_1 (v := 3) (tgt := 56) (by decide) (by decide) rfl rfl xq10 ?_
          refine g_aload_n (pc := 56) C dX0_putPart_56 rfl 0 rfl ?_
          refine g_iload_n (pc := 57) C dX0_putPart_57 rfl 2 rfl ?_
          obtain ⟨xq11, h⟩ := iC h
          have xq11 := keq xq11
          refine gp_0_3 (pc := 58) C wf_X0_21 dX0_putPart_58 xq11 ?_
          refine g_letS h (fun xσ12 h => ?_)
          refine g_goto (pc := 61) C dX0_putPart_61 (tgt := 64) rfl ?_
          exact rtV hr dX0_putPart_64 h
        · have h := iN xq10 h
          have xe0 : ¬ xa1.toInt = 0 := tne xq1
          have xe1 : ¬ xa1.toInt = 1 := tne xq4
          have xe2 : ¬ xa1.toInt = 2 := tne xq7
          have xe3 : ¬ xa1.toInt = 3 := tne xq10
          refine g_tabOut (pc := 1) C dX0_putPart_1 (tgt := 64) (by omega) rfl ?_
          exact rtV hr dX0_putPart_64 h
theorem c_X0_putPart (l : Launch) (y : YT) (xa0 : Nat) (xa1 : Int32) (xa2 : Int32) (σ σ' : Sto) (r : Unit) (h : F_X0_putPart xa0 xa1 xa2 σ = some (r, σ')) : MV l y yX0_putPart (Cond.code yX0_putPart cX0_putPart 3 none :: TT) rm_X0_putPart [.ref (yad y (xa0)), .int (xa1), .int (xa2)] σ r σ' :=
  mkV (by decide) rfl rfl rfl (Nat.le_of_ble_eq_true rfl) (fun x Z C hr => b_X0_putPart_0 C hr xa0 xa1 xa2 σ h)
def rm_X0_isPlace : Room := { frames := 0, cells := 0, slots := 0, locals := 0 }
def F_X0_isPlace (xa0 : Int32) (σ : Sto) : Option (Int32 × Sto) := if (xa0) < 0 then some (0, σ) else if 6 ≤ xa0 then some (0, σ) else some (1, σ)
set_option maxHeartbeats 4000000 in
set_option maxRecDepth 20000 in
theorem b_X0_isPlace_0 {x : XT} {y : YT} {Z : State → Prop} (C : Cx x y (AY y) RX0 cX0_isPlace 1 rm_X0_isPlace) {r : Int32} {σ' : Sto} (hr : RetZ x y (AY y) 1 cX0_isPlace Z r σ') (xa0 : Int32) (σ : Sto) (h : F_X0_isPlace xa0 σ = some (r, σ')) : GW x y (AY y) 1 Z 0 [(0, .int (xa0))] [] σ := by
  unfold F_X0_isPlace at h
  refine g_iload_n (pc := 0) C dX0_isPlace_0 rfl 0 rfl ?_
  refine g_if_lt (pc := 1) C dX0_isPlace_1 (tgt := 14) rfl (fun xq1 => ?_) (fun xq1 => ?_)
  · have h := iP xq1 h
    refine g_iconst (v := 0) (pc := 14) C dX0_isPlace_14 ci_0 ?_
    exact rtZ hr dX0_isPlace_15 (by decide) h
  · have h := iN xq1 h
    refine g_iload_n (pc := 4) C dX0_isPlace_4 rfl 0 rfl ?_
    refine g_bipush (v := 6) (pc := 5) C dX0_isPlace_5 cb_6 ?_
    refine g_icmp_ge (pc := 7) C dX0_isPlace_7 (tgt := 14) rfl (fun xq2 => ?_) (fun xq2 => ?_)
    · have h := iP xq2 h
      refine g_iconst (v := 0) (pc := 14) C dX0_isPlace_14 ci_0 ?_
      exact rtZ hr dX0_isPlace_15 (by decide) h
    · have h := iN xq2 h
      refine g_iconst (v := 1) (pc := 10) C dX0_isPlace_10 ci_1 ?_
      refine g_goto (pc := 11) C dX0_isPlace_11 (tgt := 15) rfl ?_
      exact rtZ hr dX0_isPlace_15 (by decide) h
theorem c_X0_isPlace (l : Launch) (y : YT) (xa0 : Int32) (σ σ' : Sto) (r : Int32) (h : F_X0_isPlace xa0 σ = some (r, σ')) : MI l y yX0_isPlace (Cond.code yX0_isPlace cX0_isPlace 1 (some .boolean) :: TT) rm_X0_isPlace [.int (xa0)] σ r σ' :=
  mkZ (by decide) rfl rfl rfl (Nat.le_of_ble_eq_true rfl) (fun x Z C hr => b_X0_isPlace_0 C hr xa0 σ h)
def rm_X0_nextPlace : Room := { frames := 0, cells := 0, slots := 0, locals := 0 }
def F_X0_nextPlace (xa0 : Nat) (σ : Sto) : Option (Int32 × Sto) := ck (kd (xa0) == 0) (some (irm (σ xa0 4) 6, σ))
set_option maxHeartbeats 4000000 in
set_option maxRecDepth 20000 in
theorem b_X0_nextPlace_0 {x : XT} {y : YT} {Z : State → Prop} (C : Cx x y (AY y) RX0 cX0_nextPlace 1 rm_X0_nextPlace) {r : Int32} {σ' : Sto} (hr : RetI x y (AY y) 1 cX0_nextPlace Z r σ') (xa0 : Nat) (σ : Sto) (h : F_X0_nextPlace xa0 σ = some (r, σ')) : GW x y (AY y) 1 Z 0 [(0, .ref (yad y (xa0)))] [] σ := by
  unfold F_X0_nextPlace at h
  refine g_aload_n (pc := 0) C dX0_nextPlace_0 rfl 0 rfl ?_
  obtain ⟨xq1, h⟩ := iC h
  have xq1 := keq xq1
  refine gf_0_4 (pc := 1) C wf_X0_24 dX0_nextPlace_1 xq1 ?_
  refine g_bipush (v := 6) (pc := 4) C dX0_nextPlace_4 cb_6 ?_
  refine g_irem (pc := 6) C dX0_nextPlace_6 (by decide) ?_
  exact rtI hr dX0_nextPlace_7 h
theorem c_X0_nextPlace (l : Launch) (y : YT) (xa0 : Nat) (σ σ' : Sto) (r : Int32) (h : F_X0_nextPlace xa0 σ = some (r, σ')) : MI l y yX0_nextPlace (Cond.code yX0_nextPlace cX0_nextPlace 1 (some .int) :: TT) rm_X0_nextPlace [.ref (yad y (xa0))] σ r σ' :=
  mkI (by decide) rfl rfl rfl (Nat.le_of_ble_eq_true rfl) (fun x Z C hr => b_X0_nextPlace_0 C hr xa0 σ h)
def rm_X0_whoIsIn : Room := { frames := 1, cells := 0, slots := 0, locals := 20 }
def F_X0_whoIsIn (xa0 : Nat) (xa1 : Int32) (σ : Sto) : Option (Int32 × Sto) := bnd (F_X0_isPlace (xa1) σ) (fun xr3 xσ1 => if (xr3) = 0 then some ((-1), xσ1) else ck (kd (xa0) == 0) (ck (inr (xa1) (6)) (some (xσ1 (xa0 + 10) (xa1.toNatClampNeg), xσ1))))
set_option maxHeartbeats 4000000 in
set_option maxRecDepth 20000 in
theorem b_X0_whoIsIn_0 {x : XT} {y : YT} {Z : State → Prop} (C : Cx x y (AY y) RX0 cX0_whoIsIn 2 rm_X0_whoIsIn) {r : Int32} {σ' : Sto} (hr : RetI x y (AY y) 2 cX0_whoIsIn Z r σ') (xa0 : Nat) (xa1 : Int32) (σ : Sto) (h : F_X0_whoIsIn xa0 xa1 σ = some (r, σ')) : GW x y (AY y) 2 Z 0 [(0, .ref (yad y (xa0))), (1, .int (xa1))] [] σ := by
  unfold F_X0_whoIsIn at h
  refine g_iload_n (pc := 0) C dX0_whoIsIn_0 rfl 1 rfl ?_
  obtain ⟨xr3, xσ1, xc2, h⟩ := iB h
  refine g_callSi (pc := 1) (As := [.int (xa1)]) (rest := []) C dX0_whoIsIn_1 (fun l => c_X0_isPlace l y _ _ _ _ xc2) cv_X0_58 ⟨rfl, rfl, Nat.le_of_ble_eq_true rfl, Nat.le_of_ble_eq_true rfl⟩ rfl (Nat.le_of_ble_eq_true rfl) ?_
  refine g_if_eq (pc := 4) C dX0_whoIsIn_4 (tgt := 16) rfl (fun xq4 => ?_) (fun xq4 => ?_)
  · have h := iP xq4 h
    refine g_iconst (v := (-1)) (pc := 16) C dX0_whoIsIn_16 ci_m1 ?_
    exact rtI hr dX0_whoIsIn_17 h
  · have h := iN xq4 h
    refine g_aload_n (pc := 7) C dX0_whoIsIn_7 rfl 0 rfl ?_
    obtain ⟨xq5, h⟩ := iC h
    have xq5 := keq xq5
    refine gf_0_8 (pc := 8) C wf_X0_40 dX0_whoIsIn_8 xq5 ?_
    refine g_iload_n (pc := 11) C dX0_whoIsIn_11 rfl 1 rfl ?_
    obtain ⟨xq6, h⟩ := iC h
    refine g_iald (pc := 12) C dX0_whoIsIn_12 (kr_0_8 xq5) (ivp xq6 (lr_0_8 xq5)) (j := xa1.toNatClampNeg) rfl ?_
    refine g_goto (pc := 13) C dX0_whoIsIn_13 (tgt := 17) rfl ?_
    exact rtI hr dX0_whoIsIn_17 h
theorem c_X0_whoIsIn (l : Launch) (y : YT) (xa0 : Nat) (xa1 : Int32) (σ σ' : Sto) (r : Int32) (h : F_X0_whoIsIn xa0 xa1 σ = some (r, σ')) : MI l y yX0_whoIsIn (Cond.code yX0_whoIsIn cX0_whoIsIn 2 (some .int) :: TT) rm_X0_whoIsIn [.ref (yad y (xa0)), .int (xa1)] σ r σ' :=
  mkI (by decide) rfl rfl rfl (Nat.le_of_ble_eq_true rfl) (fun x Z C hr => b_X0_whoIsIn_0 C hr xa0 xa1 σ h)
def rm_X0_seat : Room := { frames := 1, cells := 0, slots := 0, locals := 20 }
def F_X0_seat (xa0 : Nat) (xa1 : Int32) (xa2 : Int32) (σ : Sto) : Option (Unit × Sto) := bnd (F_X0_isPlace (xa1) σ) (fun xr3 xσ1 => if (xr3) = 0 then some ((), xσ1) else ck (kd (xa0) == 0) (ck (inr (xa1) (6)) (lts (up2 xσ1 (xa0 + 10) (xa1.toNatClampNeg) (xa2)) (fun xσ7 => some ((), xσ7)))))
set_option maxHeartbeats 4000000 in
set_option maxRecDepth 20000 in
theorem b_X0_seat_0 {x : XT} {y : YT} {Z : State → Prop} (C : Cx x y (AY y) RX0 cX0_seat 3 rm_X0_seat) {r : Unit} {σ' : Sto} (hr : RetV x y (AY y) 3 cX0_seat Z r σ') (xa0 : Nat) (xa1 : Int32) (xa2 : Int32) (σ : Sto) (h : F_X0_seat xa0 xa1 xa2 σ = some (r, σ')) : GW x y (AY y) 3 Z 0 [(0, .ref (yad y (xa0))), (1, .int (xa1)), (2, .int (xa2))] [] σ := by
  unfold F_X0_seat at h
  refine g_iload_n (pc := 0) C dX0_seat_0 rfl 1 rfl ?_
  obtain ⟨xr3, xσ1, xc2, h⟩ := iB h
  refine g_callSi (pc := 1) (As := [.int (xa1)]) (rest := []) C dX0_seat_1 (fun l => c_X0_isPlace l y _ _ _ _ xc2) cv_X0_58 ⟨rfl, rfl, Nat.le_of_ble_eq_true rfl, Nat.le_of_ble_eq_true rfl⟩ rfl (Nat.le_of_ble_eq_true rfl) ?_
  refine g_if_eq (pc := 4) C dX0_seat_4 (tgt := 14) rfl (fun xq4 => ?_) (fun xq4 => ?_)
  · have h := iP xq4 h
    exact rtV hr dX0_seat_14 h
  · have h := iN xq4 h
    refine g_aload_n (pc := 7) C dX0_seat_7 rfl 0 rfl ?_
    obtain ⟨xq5, h⟩ := iC h
    have xq5 := keq xq5
    refine gf_0_8 (pc := 8) C wf_X0_40 dX0_seat_8 xq5 ?_
    refine g_iload_n (pc := 11) C dX0_seat_11 rfl 1 rfl ?_
    refine g_iload_n (pc := 12) C dX0_seat_12 rfl 2 rfl ?_
    obtain ⟨xq6, h⟩ := iC h
    refine g_iast (pc := 13) C dX0_seat_13 (kr_0_8 xq5) (ivp xq6 (lr_0_8 xq5)) (j := xa1.toNatClampNeg) rfl ?_
    refine g_letS h (fun xσ7 h => ?_)
    exact rtV hr dX0_seat_14 h
theorem c_X0_seat (l : Launch) (y : YT) (xa0 : Nat) (xa1 : Int32) (xa2 : Int32) (σ σ' : Sto) (r : Unit) (h : F_X0_seat xa0 xa1 xa2 σ = some (r, σ')) : MV l y yX0_seat (Cond.code yX0_seat cX0_seat 3 none :: TT) rm_X0_seat [.ref (yad y (xa0)), .int (xa1), .int (xa2)] σ r σ' :=
  mkV (by decide) rfl rfl rfl (Nat.le_of_ble_eq_true rfl) (fun x Z C hr => b_X0_seat_0 C hr xa0 xa1 xa2 σ h)
def rm_X0_isSitter : Room := { frames := 0, cells := 0, slots := 0, locals := 0 }
def F_X0_isSitter (xa0 : Nat) (xa1 : Int32) (σ : Sto) : Option (Int32 × Sto) := if (xa1) < 0 then some (0, σ) else ck (kd (xa0) == 0) (if (σ xa0 6) ≤ xa1 then some (0, σ) else if 8 ≤ xa1 then some (0, σ) else some (1, σ))
set_option maxHeartbeats 4000000 in
set_option maxRecDepth 20000 in
theorem b_X0_isSitter_0 {x : XT} {y : YT} {Z : State → Prop} (C : Cx x y (AY y) RX0 cX0_isSitter 2 rm_X0_isSitter) {r : Int32} {σ' : Sto} (hr : RetZ x y (AY y) 2 cX0_isSitter Z r σ') (xa0 : Nat) (xa1 : Int32) (σ : Sto) (h : F_X0_isSitter xa0 xa1 σ = some (r, σ')) : GW x y (AY y) 2 Z 0 [(0, .ref (yad y (xa0))), (1, .int (xa1))] [] σ := by
  unfold F_X0_isSitter at h
  refine g_iload_n (pc := 0) C dX0_isSitter_0 rfl 1 rfl ?_
  refine g_if_lt (pc := 1) C dX0_isSitter_1 (tgt := 22) rfl (fun xq1 => ?_) (fun xq1 => ?_)
  · have h := iP xq1 h
    refine g_iconst (v := 0) (pc := 22) C dX0_isSitter_22 ci_0 ?_
    exact rtZ hr dX0_isSitter_23 (by decide) h
  · have h := iN xq1 h
    refine g_iload_n (pc := 4) C dX0_isSitter_4 rfl 1 rfl ?_
    refine g_aload_n (pc := 5) C dX0_isSitter_5 rfl 0 rfl ?_
    obtain ⟨xq2, h⟩ := iC h
    have xq2 := keq xq2
    refine gf_0_6 (pc := 6) C wf_X0_30 dX0_isSitter_6 xq2 ?_
    refine g_icmp_ge (pc := 9) C dX0_isSitter_9 (tgt := 22) rfl (fun xq3 => ?_) (fun xq3 => ?_)
    · have h := iP xq3 h
      refine g_iconst (v := 0) (pc := 22) C dX0_isSitter_22 ci_0 ?_
      exact rtZ hr dX0_isSitter_23 (by decide) h
    · have h := iN xq3 h
      refine g_iload_n (pc := 12) C dX0_isSitter_12 rfl 1 rfl ?_
      refine g_bipush (v := 8) (pc := 13) C dX0_isSitter_13 cb_8 ?_
      refine g_icmp_ge (pc := 15) C dX0_isSitter_15 (tgt := 22) rfl (fun xq4 => ?_) (fun xq4 => ?_)
      · have h := iP xq4 h
        refine g_iconst (v := 0) (pc := 22) C dX0_isSitter_22 ci_0 ?_
        exact rtZ hr dX0_isSitter_23 (by decide) h
      · have h := iN xq4 h
        refine g_iconst (v := 1) (pc := 18) C dX0_isSitter_18 ci_1 ?_
        refine g_goto (pc := 19) C dX0_isSitter_19 (tgt := 23) rfl ?_
        exact rtZ hr dX0_isSitter_23 (by decide) h
theorem c_X0_isSitter (l : Launch) (y : YT) (xa0 : Nat) (xa1 : Int32) (σ σ' : Sto) (r : Int32) (h : F_X0_isSitter xa0 xa1 σ = some (r, σ')) : MI l y yX0_isSitter (Cond.code yX0_isSitter cX0_isSitter 2 (some .boolean) :: TT) rm_X0_isSitter [.ref (yad y (xa0)), .int (xa1)] σ r σ' :=
  mkZ (by decide) rfl rfl rfl (Nat.le_of_ble_eq_true rfl) (fun x Z C hr => b_X0_isSitter_0 C hr xa0 xa1 σ h)
def rm_X0_emptyPlacesOf : Room := { frames := 1, cells := 0, slots := 0, locals := 21 }
def F_X0_emptyPlacesOf_b2 (xk_2 : Nat → Int32 → Int32 → Sto → Option (Unit × Sto)) (xa0 : Nat) (xa1 : Int32) (xa2 : Int32) (σ : Sto) : Option (Unit × Sto) := if 6 ≤ xa2 then some ((), σ) else ck (kd (xa0) == 0) (ck (inr (xa2) (6)) (bnd (F_X0_isSitter (xa0) (σ (xa0 + 10) (xa2.toNatClampNeg)) σ) (fun xr6 xσ4 => if (xr6) = 0 then xk_2 xa0 xa1 (xa2 + 1) xσ4 else ck (inr (xa2) (6)) (if ((isr xa1 (xσ4 (xa0 + 10) (xa2.toNatClampNeg))) &&& 1) = 1 then ck (inr (xa2) (6)) (lts (up2 xσ4 (xa0 + 10) (xa2.toNatClampNeg) ((-1))) (fun xσ11 => xk_2 xa0 xa1 (xa2 + 1) xσ11)) else xk_2 xa0 xa1 (xa2 + 1) xσ4))))
def F_X0_emptyPlacesOf (xa0 : Nat) (xa1 : Int32) (σ : Sto) : Option (Unit × Sto) := lo3 (F_X0_emptyPlacesOf_b2) 1000 xa0 xa1 0 σ
set_option maxHeartbeats 4000000 in
set_option maxRecDepth 20000 in
theorem b_X0_emptyPlacesOf_2 {x : XT} {y : YT} {Z : State → Prop} (C : Cx x y (AY y) RX0 cX0_emptyPlacesOf 3 rm_X0_emptyPlacesOf) {r : Unit} {σ' : Sto} (hr : RetV x y (AY y) 3 cX0_emptyPlacesOf Z r σ') (xk_2 : Nat → Int32 → Int32 → Sto → Option (Unit × Sto)) (xH2 : ∀ (xa0 : Nat) (xa1 : Int32) (xa2 : Int32) (σ : Sto), xk_2 xa0 xa1 xa2 σ = some (r, σ') → GW x y (AY y) 3 Z 2 [(0, .ref (yad y (xa0))), (1, .int (xa1)), (2, .int (xa2))] [] σ) (xa0 : Nat) (xa1 : Int32) (xa2 : Int32) (σ : Sto) (h : F_X0_emptyPlacesOf_b2 xk_2 xa0 xa1 xa2 σ = some (r, σ')) : GW x y (AY y) 3 Z 2 [(0, .ref (yad y (xa0))), (1, .int (xa1)), (2, .int (xa2))] [] σ := by
  unfold F_X0_emptyPlacesOf_b2 at h
  refine g_iload_n (pc := 2) C dX0_emptyPlacesOf_2 rfl 2 rfl ?_
  refine g_bipush (v := 6) (pc := 3) C dX0_emptyPlacesOf_3 cb_6 ?_
  refine g_icmp_ge (pc := 5) C dX0_emptyPlacesOf_5 (tgt := 48) rfl (fun xq1 => ?_) (fun xq1 => ?_)
  · have h := iP xq1 h
    exact rtV hr dX0_emptyPlacesOf_48 h
  · have h := iN xq1 h
    refine g_aload_n (pc := 8) C dX0_emptyPlacesOf_8 rfl 0 rfl ?_
    refine g_aload_n (pc := 9) C dX0_emptyPlacesOf_9 rfl 0 rfl ?_
    obtain ⟨xq2, h⟩ := iC h
    have xq2 := keq xq2
    refine gf_0_8 (pc := 10) C wf_X0_40 dX0_emptyPlacesOf_10 xq2 ?_
    refine g_iload_n (pc := 13) C dX0_emptyPlacesOf_13 rfl 2 rfl ?_
    obtain ⟨xq3, h⟩ := iC h
    refine g_iald (pc := 14) C dX0_emptyPlacesOf_14 (kr_0_8 xq2) (ivp xq3 (lr_0_8 xq2)) (j := xa2.toNatClampNeg) rfl ?_
    obtain ⟨xr6, xσ4, xc5, h⟩ := iB h
    refine g_callVi (pc := 15) (As := [.int (σ (xa0 + 10) (xa2.toNatClampNeg))]) (rest := []) C dX0_emptyPlacesOf_15 (fun l => c_X0_isSitter l y _ _ _ _ _ xc5) cv_X0_62 ⟨rfl, rfl, Nat.le_of_ble_eq_true rfl, Nat.le_of_ble_eq_true rfl⟩ (rv0 xq2) rfl (Nat.le_of_ble_eq_true rfl) ?_
    refine g_if_eq (pc := 18) C dX0_emptyPlacesOf_18 (tgt := 42) rfl (fun xq7 => ?_) (fun xq7 => ?_)
    · have h := iP xq7 h
      refine g_iinc (lv' := [(2, .int (xa2 + 1)), (0, .ref (yad y (xa0))), (1, .int (xa1))]) (w := xa2 + 1) (pc := 42) C dX0_emptyPlacesOf_42 (k := 2) rfl rfl (Nat.le_of_ble_eq_true rfl) rfl ?_
      refine g_goto (pc := 45) C dX0_emptyPlacesOf_45 (tgt := 2) rfl ?_
      refine g_sub (lv' := [(0, .ref (yad y (xa0))), (1, .int (xa1)), (2, .int (xa2 + 1))]) C [1, 2, 0] rfl ?_
      exact xH2 xa0 xa1 (xa2 + 1) xσ4 h
    · have h := iN xq7 h
      refine g_iload_n (pc := 21) C dX0_emptyPlacesOf_21 rfl 1 rfl ?_
      refine g_aload_n (pc := 22) C dX0_emptyPlacesOf_22 rfl 0 rfl ?_
      refine gf_0_8 (pc := 23) C wf_X0_40 dX0_emptyPlacesOf_23 xq2 ?_
      refine g_iload_n (pc := 26) C dX0_emptyPlacesOf_26 rfl 2 rfl ?_
      obtain ⟨xq8, h⟩ := iC h
      refine g_iald (pc := 27) C dX0_emptyPlacesOf_27 (kr_0_8 xq2) (ivp xq8 (lr_0_8 xq2)) (j := xa2.toNatClampNeg) rfl ?_
      refine g_ishr (pc := 28) C dX0_emptyPlacesOf_28 ?_
      refine g_iconst (v := 1) (pc := 29) C dX0_emptyPlacesOf_29 ci_1 ?_
      refine g_iand (pc := 30) C dX0_emptyPlacesOf_30 ?_
      refine g_iconst (v := 1) (pc := 31) C dX0_emptyPlacesOf_31 ci_1 ?_
      refine g_icmp_ne (pc := 32) C dX0_emptyPlacesOf_32 (tgt := 42) rfl (fun xq9 => ?_) (fun xq9 => ?_)
      · have h := iN xq9 h
        refine g_iinc (lv' := [(2, .int (xa2 + 1)), (0, .ref (yad y (xa0))), (1, .int (xa1))]) (w := xa2 + 1) (pc := 42) C dX0_emptyPlacesOf_42 (k := 2) rfl rfl (Nat.le_of_ble_eq_true rfl) rfl ?_
        refine g_goto (pc := 45) C dX0_emptyPlacesOf_45 (tgt := 2) rfl ?_
        refine g_sub (lv' := [(0, .ref (yad y (xa0))), (1, .int (xa1)), (2, .int (xa2 + 1))]) C [1, 2, 0] rfl ?_
        exact xH2 xa0 xa1 (xa2 + 1) xσ4 h
      · have h := iP xq9 h
        refine g_aload_n (pc := 35) C dX0_emptyPlacesOf_35 rfl 0 rfl ?_
        refine gf_0_8 (pc := 36) C wf_X0_40 dX0_emptyPlacesOf_36 xq2 ?_
        refine g_iload_n (pc := 39) C dX0_emptyPlacesOf_39 rfl 2 rfl ?_
        refine g_iconst (v := (-1)) (pc := 40) C dX0_emptyPlacesOf_40 ci_m1 ?_
        obtain ⟨xq10, h⟩ := iC h
        refine g_iast (pc := 41) C dX0_emptyPlacesOf_41 (kr_0_8 xq2) (ivp xq10 (lr_0_8 xq2)) (j := xa2.toNatClampNeg) rfl ?_
        refine g_letS h (fun xσ11 h => ?_)
        refine g_iinc (lv' := [(2, .int (xa2 + 1)), (0, .ref (yad y (xa0))), (1, .int (xa1))]) (w := xa2 + 1) (pc := 42) C dX0_emptyPlacesOf_42 (k := 2) rfl rfl (Nat.le_of_ble_eq_true rfl) rfl ?_
        refine g_goto (pc := 45) C dX0_emptyPlacesOf_45 (tgt := 2) rfl ?_
        refine g_sub (lv' := [(0, .ref (yad y (xa0))), (1, .int (xa1)), (2, .int (xa2 + 1))]) C [1, 2, 0] rfl ?_
        exact xH2 xa0 xa1 (xa2 + 1) xσ11 h
theorem l_X0_emptyPlacesOf_2 {x : XT} {y : YT} {Z : State → Prop} (C : Cx x y (AY y) RX0 cX0_emptyPlacesOf 3 rm_X0_emptyPlacesOf) {r : Unit} {σ' : Sto} (hr : RetV x y (AY y) 3 cX0_emptyPlacesOf Z r σ') (n : Nat) (xa0 : Nat) (xa1 : Int32) (xa2 : Int32) (σ : Sto) (h : lo3 (F_X0_emptyPlacesOf_b2) n xa0 xa1 xa2 σ = some (r, σ')) : GW x y (AY y) 3 Z 2 [(0, .ref (yad y (xa0))), (1, .int (xa1)), (2, .int (xa2))] [] σ :=
  lo3_gw (G := fun xa0 xa1 xa2 σ => GW x y (AY y) 3 Z 2 [(0, .ref (yad y (xa0))), (1, .int (xa1)), (2, .int (xa2))] [] σ) (fun xk xHk xa0 xa1 xa2 σ h => b_X0_emptyPlacesOf_2 C hr xk xHk xa0 xa1 xa2 σ h) n xa0 xa1 xa2 σ h
set_option maxHeartbeats 4000000 in
set_option maxRecDepth 20000 in
theorem b_X0_emptyPlacesOf_0 {x : XT} {y : YT} {Z : State → Prop} (C : Cx x y (AY y) RX0 cX0_emptyPlacesOf 3 rm_X0_emptyPlacesOf) {r : Unit} {σ' : Sto} (hr : RetV x y (AY y) 3 cX0_emptyPlacesOf Z r σ') (xa0 : Nat) (xa1 : Int32) (σ : Sto) (h : F_X0_emptyPlacesOf xa0 xa1 σ = some (r, σ')) : GW x y (AY y) 3 Z 0 [(0, .ref (yad y (xa0))), (1, .int (xa1))] [] σ := by
  unfold F_X0_emptyPlacesOf at h
  refine g_iconst (v := 0) (pc := 0) C dX0_emptyPlacesOf_0 ci_0 ?_
  refine g_istore_n (i := 2) (lv' := [(2, .int (0)), (0, .ref (yad y (xa0))), (1, .int (xa1))]) (pc := 1) C dX0_emptyPlacesOf_1 rfl (Nat.le_of_ble_eq_true rfl) rfl ?_
  refine g_sub (lv' := [(0, .ref (yad y (xa0))), (1, .int (xa1)), (2, .int (0))]) C [1, 2, 0] rfl ?_
  exact l_X0_emptyPlacesOf_2 C hr 1000 xa0 xa1 0 σ h
theorem c_X0_emptyPlacesOf (l : Launch) (y : YT) (xa0 : Nat) (xa1 : Int32) (σ σ' : Sto) (r : Unit) (h : F_X0_emptyPlacesOf xa0 xa1 σ = some (r, σ')) : MV l y yX0_emptyPlacesOf (Cond.code yX0_emptyPlacesOf cX0_emptyPlacesOf 3 none :: TT) rm_X0_emptyPlacesOf [.ref (yad y (xa0)), .int (xa1)] σ r σ' :=
  mkV (by decide) rfl rfl rfl (Nat.le_of_ble_eq_true rfl) (fun x Z C hr => b_X0_emptyPlacesOf_0 C hr xa0 xa1 σ h)
def rm_X0_isSomebodyOrNobody : Room := { frames := 1, cells := 0, slots := 0, locals := 21 }
def F_X0_isSomebodyOrNobody (xa0 : Nat) (xa1 : Int32) (σ : Sto) : Option (Int32 × Sto) := if xa1 = (-1) then some (1, σ) else ck (kd (xa0) == 0) (bnd (F_X0_isSitter (xa0) (xa1) σ) (fun xr5 xσ2 => if (xr5) = 0 then some (0, xσ2) else some (1, xσ2)))
set_option maxHeartbeats 4000000 in
set_option maxRecDepth 20000 in
theorem b_X0_isSomebodyOrNobody_0 {x : XT} {y : YT} {Z : State → Prop} (C : Cx x y (AY y) RX0 cX0_isSomebodyOrNobody 2 rm_X0_isSomebodyOrNobody) {r : Int32} {σ' : Sto} (hr : RetZ x y (AY y) 2 cX0_isSomebodyOrNobody Z r σ') (xa0 : Nat) (xa1 : Int32) (σ : Sto) (h : F_X0_isSomebodyOrNobody xa0 xa1 σ = some (r, σ')) : GW x y (AY y) 2 Z 0 [(0, .ref (yad y (xa0))), (1, .int (xa1))] [] σ := by
  unfold F_X0_isSomebodyOrNobody at h
  refine g_iload_n (pc := 0) C dX0_isSomebodyOrNobody_0 rfl 1 rfl ?_
  refine g_iconst (v := (-1)) (pc := 1) C dX0_isSomebodyOrNobody_1 ci_m1 ?_
  refine g_icmp_eq (pc := 2) C dX0_isSomebodyOrNobody_2 (tgt := 13) rfl (fun xq1 => ?_) (fun xq1 => ?_)
  · have h := iP xq1 h
    refine g_iconst (v := 1) (pc := 13) C dX0_isSomebodyOrNobody_13 ci_1 ?_
    refine g_goto (pc := 14) C dX0_isSomebodyOrNobody_14 (tgt := 18) rfl ?_
    exact rtZ hr dX0_isSomebodyOrNobody_18 (by decide) h
  · have h := iN xq1 h
    refine g_aload_n (pc := 5) C dX0_isSomebodyOrNobody_5 rfl 0 rfl ?_
    refine g_iload_n (pc := 6) C dX0_isSomebodyOrNobody_6 rfl 1 rfl ?_
    obtain ⟨xq4, h⟩ := iC h
    have xq4 := keq xq4
    obtain ⟨xr5, xσ2, xc3, h⟩ := iB h
    refine g_callVi (pc := 7) (As := [.int (xa1)]) (rest := []) C dX0_isSomebodyOrNobody_7 (fun l => c_X0_isSitter l y _ _ _ _ _ xc3) cv_X0_62 ⟨rfl, rfl, Nat.le_of_ble_eq_true rfl, Nat.le_of_ble_eq_true rfl⟩ (rv0 xq4) rfl (Nat.le_of_ble_eq_true rfl) ?_
    refine g_if_eq (pc := 10) C dX0_isSomebodyOrNobody_10 (tgt := 17) rfl (fun xq6 => ?_) (fun xq6 => ?_)
    · have h := iP xq6 h
      refine g_iconst (v := 0) (pc := 17) C dX0_isSomebodyOrNobody_17 ci_0 ?_
      exact rtZ hr dX0_isSomebodyOrNobody_18 (by decide) h
    · have h := iN xq6 h
      refine g_iconst (v := 1) (pc := 13) C dX0_isSomebodyOrNobody_13 ci_1 ?_
      refine g_goto (pc := 14) C dX0_isSomebodyOrNobody_14 (tgt := 18) rfl ?_
      exact rtZ hr dX0_isSomebodyOrNobody_18 (by decide) h
theorem c_X0_isSomebodyOrNobody (l : Launch) (y : YT) (xa0 : Nat) (xa1 : Int32) (σ σ' : Sto) (r : Int32) (h : F_X0_isSomebodyOrNobody xa0 xa1 σ = some (r, σ')) : MI l y yX0_isSomebodyOrNobody (Cond.code yX0_isSomebodyOrNobody cX0_isSomebodyOrNobody 2 (some .boolean) :: TT) rm_X0_isSomebodyOrNobody [.ref (yad y (xa0)), .int (xa1)] σ r σ' :=
  mkZ (by decide) rfl rfl rfl (Nat.le_of_ble_eq_true rfl) (fun x Z C hr => b_X0_isSomebodyOrNobody_0 C hr xa0 xa1 σ h)
def rm_X0_who : Room := { frames := 1, cells := 0, slots := 0, locals := 21 }
def F_X0_who (xa0 : Nat) (xa1 : Int32) (σ : Sto) : Option (Option Nat × Sto) := ck (kd (xa0) == 0) (bnd (F_X0_isSitter (xa0) (xa1) σ) (fun xr4 xσ1 => if (xr4) = 0 then some (none, xσ1) else ck (inr (xa1) (8)) (some (some (xa0 + 1 + 1 + xa1.toNatClampNeg), xσ1))))
set_option maxHeartbeats 4000000 in
set_option maxRecDepth 20000 in
theorem b_X0_who_0 {x : XT} {y : YT} {Z : State → Prop} (C : Cx x y (AY y) RX0 cX0_who 2 rm_X0_who) {r : Option Nat} {σ' : Sto} (hr : RetQ x y (AY y) 2 cX0_who Z r σ') (xa0 : Nat) (xa1 : Int32) (σ : Sto) (h : F_X0_who xa0 xa1 σ = some (r, σ')) : GW x y (AY y) 2 Z 0 [(0, .ref (yad y (xa0))), (1, .int (xa1))] [] σ := by
  unfold F_X0_who at h
  refine g_aload_n (pc := 0) C dX0_who_0 rfl 0 rfl ?_
  refine g_iload_n (pc := 1) C dX0_who_1 rfl 1 rfl ?_
  obtain ⟨xq3, h⟩ := iC h
  have xq3 := keq xq3
  obtain ⟨xr4, xσ1, xc2, h⟩ := iB h
  refine g_callVi (pc := 2) (As := [.int (xa1)]) (rest := []) C dX0_who_2 (fun l => c_X0_isSitter l y _ _ _ _ _ xc2) cv_X0_62 ⟨rfl, rfl, Nat.le_of_ble_eq_true rfl, Nat.le_of_ble_eq_true rfl⟩ (rv0 xq3) rfl (Nat.le_of_ble_eq_true rfl) ?_
  refine g_if_eq (pc := 5) C dX0_who_5 (tgt := 17) rfl (fun xq5 => ?_) (fun xq5 => ?_)
  · have h := iP xq5 h
    refine g_null (pc := 17) C dX0_who_17 ?_
    exact rtQ (v := none) hr dX0_who_18 h
  · have h := iN xq5 h
    refine g_aload_n (pc := 8) C dX0_who_8 rfl 0 rfl ?_
    refine gf_0_7 (pc := 9) C wf_X0_35 dX0_who_9 xq3 ?_
    refine g_iload_n (pc := 12) C dX0_who_12 rfl 1 rfl ?_
    obtain ⟨xq6, h⟩ := iC h
    refine g_aald7 (pc := 13) C dX0_who_13 (kr_0_7 xq3) (ivp xq6 (lr_0_7 xq3)) ?_
    refine g_goto (pc := 14) C dX0_who_14 (tgt := 18) rfl ?_
    exact rtQ (v := (some (xa0 + 1 + 1 + xa1.toNatClampNeg))) hr dX0_who_18 h
theorem c_X0_who (l : Launch) (y : YT) (xa0 : Nat) (xa1 : Int32) (σ σ' : Sto) (r : Option Nat) (h : F_X0_who xa0 xa1 σ = some (r, σ')) : MQ' l y yX0_who (Cond.code yX0_who cX0_who 2 (some (.object "BoothFlash$Sitter")) :: TT) rm_X0_who [.ref (yad y (xa0)), .int (xa1)] σ r σ' :=
  mkQ (by decide) rfl rfl rfl (Nat.le_of_ble_eq_true rfl) (fun x Z C hr => b_X0_who_0 C hr xa0 xa1 σ h)
def rm_X0_addSitter : Room := { frames := 1, cells := 0, slots := 0, locals := 21 }
def F_X0_addSitter (xa0 : Nat) (xa1 : Int32) (σ : Sto) : Option (Int32 × Sto) := ck (kd (xa0) == 0) (if (σ xa0 6) < 0 then some ((-1), σ) else if (σ xa0 6) < 8 then ck (inr (σ xa0 6) (8)) (bnd (F_X2_begin (xa0 + 1 + 1 + (σ xa0 6).toNatClampNeg) (xa1) σ) (fun xr7 xσ5 => lts (up2 xσ5 (xa0) 6 ((xσ5 xa0 6) + 1)) (fun xσ8 => some ((xσ8 xa0 6) - 1, xσ8)))) else some ((-1), σ))
set_option maxHeartbeats 4000000 in
set_option maxRecDepth 20000 in
theorem b_X0_addSitter_0 {x : XT} {y : YT} {Z : State → Prop} (C : Cx x y (AY y) RX0 cX0_addSitter 2 rm_X0_addSitter) {r : Int32} {σ' : Sto} (hr : RetI x y (AY y) 2 cX0_addSitter Z r σ') (xa0 : Nat) (xa1 : Int32) (σ : Sto) (h : F_X0_addSitter xa0 xa1 σ = some (r, σ')) : GW x y (AY y) 2 Z 0 [(0, .ref (yad y (xa0))), (1, .int (xa1))] [] σ := by
  unfold F_X0_addSitter at h
  refine g_aload_n (pc := 0) C dX0_addSitter_0 rfl 0 rfl ?_
  obtain ⟨xq1, h⟩ := iC h
  have xq1 := keq xq1
  refine gf_0_6 (pc := 1) C wf_X0_30 dX0_addSitter_1 xq1 ?_
  refine g_if_lt (pc := 4) C dX0_addSitter_4 (tgt := 16) rfl (fun xq2 => ?_) (fun xq2 => ?_)
  · have h := iP xq2 h
    refine g_iconst (v := (-1)) (pc := 16) C dX0_addSitter_16 ci_m1 ?_
    exact rtI hr dX0_addSitter_17 h
  · have h := iN xq2 h
    refine g_aload_n (pc := 7) C dX0_addSitter_7 rfl 0 rfl ?_
    refine gf_0_6 (pc := 8) C wf_X0_30 dX0_addSitter_8 xq1 ?_
    refine g_bipush (v := 8) (pc := 11) C dX0_addSitter_11 cb_8 ?_
    refine g_icmp_lt (pc := 13) C dX0_addSitter_13 (tgt := 18) rfl (fun xq3 => ?_) (fun xq3 => ?_)
    · have h := iP xq3 h
      refine g_aload_n (pc := 18) C dX0_addSitter_18 rfl 0 rfl ?_
      refine gf_0_7 (pc := 19) C wf_X0_35 dX0_addSitter_19 xq1 ?_
      refine g_aload_n (pc := 22) C dX0_addSitter_22 rfl 0 rfl ?_
      refine gf_0_6 (pc := 23) C wf_X0_30 dX0_addSitter_23 xq1 ?_
      obtain ⟨xq4, h⟩ := iC h
      refine g_aald7 (pc := 26) C dX0_addSitter_26 (kr_0_7 xq1) (ivp xq4 (lr_0_7 xq1)) ?_
      refine g_iload_n (pc := 27) C dX0_addSitter_27 rfl 1 rfl ?_
      obtain ⟨xr7, xσ5, xc6, h⟩ := iB h
      refine g_callVv (pc := 28) (As := [.int (xa1)]) (rest := []) C dX0_addSitter_28 (fun l => c_X2_begin l y _ _ _ _ _ xc6) cv_X0_65 ⟨rfl, rfl, Nat.le_of_ble_eq_true rfl, Nat.le_of_ble_eq_true rfl⟩ (rv2 (el7 xq1 xq4)) rfl (Nat.le_of_ble_eq_true rfl) ?_
      refine g_aload_n (pc := 31) C dX0_addSitter_31 rfl 0 rfl ?_
      refine g_dup (pc := 32) C dX0_addSitter_32 rfl ?_
      refine gf_0_6 (pc := 33) C wf_X0_30 dX0_addSitter_33 xq1 ?_
      refine g_iconst (v := 1) (pc := 36) C dX0_addSitter_36 ci_1 ?_
      refine g_iadd (pc := 37) C dX0_addSitter_37 ?_
      refine gp_0_6 (pc := 38) C wf_X0_30 dX0_addSitter_38 xq1 ?_
      refine g_letS h (fun xσ8 h => ?_)
      refine g_aload_n (pc := 41) C dX0_addSitter_41 rfl 0 rfl ?_
      refine gf_0_6 (pc := 42) C wf_X0_30 dX0_addSitter_42 xq1 ?_
      refine g_iconst (v := 1) (pc := 45) C dX0_addSitter_45 ci_1 ?_
      refine g_isub (pc := 46) C dX0_addSitter_46 ?_
      exact rtI hr dX0_addSitter_47 h
    · have h := iN xq3 h
      refine g_iconst (v := (-1)) (pc := 16) C dX0_addSitter_16 ci_m1 ?_
      exact rtI hr dX0_addSitter_17 h
theorem c_X0_addSitter (l : Launch) (y : YT) (xa0 : Nat) (xa1 : Int32) (σ σ' : Sto) (r : Int32) (h : F_X0_addSitter xa0 xa1 σ = some (r, σ')) : MI l y yX0_addSitter (Cond.code yX0_addSitter cX0_addSitter 2 (some .int) :: TT) rm_X0_addSitter [.ref (yad y (xa0)), .int (xa1)] σ r σ' :=
  mkI (by decide) rfl rfl rfl (Nat.le_of_ble_eq_true rfl) (fun x Z C hr => b_X0_addSitter_0 C hr xa0 xa1 σ h)
def rm_X0_partOf : Room := { frames := 2, cells := 0, slots := 0, locals := 42 }
def F_X0_partOf (xa0 : Nat) (xa1 : Int32) (xa2 : Int32) (σ : Sto) : Option (Int32 × Sto) := ck (kd (xa0) == 0) (bnd (F_X0_who (xa0) (xa1) σ) (fun xr4 xσ1 => ocase xr4 (some (0, xσ1)) (fun xk5 => ck (kd (xk5) == 2) (bnd (F_X2_part (xk5) (xa2) xσ1) (fun xr9 xσ6 => some (xr9, xσ6))))))
set_option maxHeartbeats 4000000 in
set_option maxRecDepth 20000 in
theorem b_X0_partOf_0 {x : XT} {y : YT} {Z : State → Prop} (C : Cx x y (AY y) RX0 cX0_partOf 4 rm_X0_partOf) {r : Int32} {σ' : Sto} (hr : RetI x y (AY y) 4 cX0_partOf Z r σ') (xa0 : Nat) (xa1 : Int32) (xa2 : Int32) (σ : Sto) (h : F_X0_partOf xa0 xa1 xa2 σ = some (r, σ')) : GW x y (AY y) 4 Z 0 [(0, .ref (yad y (xa0))), (1, .int (xa1)), (2, .int (xa2))] [] σ := by
  unfold F_X0_partOf at h
  refine g_aload_n (pc := 0) C dX0_partOf_0 rfl 0 rfl ?_
  refine g_iload_n (pc := 1) C dX0_partOf_1 rfl 1 rfl ?_
  obtain ⟨xq3, h⟩ := iC h
  have xq3 := keq xq3
  obtain ⟨xr4, xσ1, xc2, h⟩ := iB h
  refine g_callVq (pc := 2) (As := [.int (xa1)]) (rest := []) C dX0_partOf_2 (fun l => c_X0_who l y _ _ _ _ _ xc2) cv_X0_69 ⟨rfl, rfl, Nat.le_of_ble_eq_true rfl, Nat.le_of_ble_eq_true rfl⟩ (rv0 xq3) rfl (Nat.le_of_ble_eq_true rfl) ?_
  refine g_nastore_n (i := 3) (lv' := [(3, nv y xr4), (0, .ref (yad y (xa0))), (1, .int (xa1)), (2, .int (xa2))]) (pc := 5) C dX0_partOf_5 rfl (Nat.le_of_ble_eq_true rfl) rfl ?_
  refine g_naload_n (pc := 6) C dX0_partOf_6 rfl 0 rfl ?_
  refine g_ifnonnull (pc := 7) C dX0_partOf_7 (tgt := 14) rfl (fun xk5 xq10 => ?_) (fun xq10 => ?_)
  · subst xq10
    have h := iO1 h
    refine g_aload_n (pc := 14) C dX0_partOf_14 rfl 0 rfl ?_
    refine g_iload_n (pc := 15) C dX0_partOf_15 rfl 3 rfl ?_
    obtain ⟨xq8, h⟩ := iC h
    have xq8 := keq xq8
    obtain ⟨xr9, xσ6, xc7, h⟩ := iB h
    refine g_callVi (pc := 16) (As := [.int (xa2)]) (rest := []) C dX0_partOf_16 (fun l => c_X2_part l y _ _ _ _ _ xc7) cv_X0_73 ⟨rfl, rfl, Nat.le_of_ble_eq_true rfl, Nat.le_of_ble_eq_true rfl⟩ (rv2 xq8) rfl (Nat.le_of_ble_eq_true rfl) ?_
    exact rtI hr dX0_partOf_19 h
  · subst xq10
    have h := iO0 h
    refine g_iconst (v := 0) (pc := 10) C dX0_partOf_10 ci_0 ?_
    refine g_goto (pc := 11) C dX0_partOf_11 (tgt := 19) rfl ?_
    exact rtI hr dX0_partOf_19 h
theorem c_X0_partOf (l : Launch) (y : YT) (xa0 : Nat) (xa1 : Int32) (xa2 : Int32) (σ σ' : Sto) (r : Int32) (h : F_X0_partOf xa0 xa1 xa2 σ = some (r, σ')) : MI l y yX0_partOf (Cond.code yX0_partOf cX0_partOf 4 (some .int) :: TT) rm_X0_partOf [.ref (yad y (xa0)), .int (xa1), .int (xa2)] σ r σ' :=
  mkI (by decide) rfl rfl rfl (Nat.le_of_ble_eq_true rfl) (fun x Z C hr => b_X0_partOf_0 C hr xa0 xa1 xa2 σ h)
def rm_X0_give : Room := { frames := 2, cells := 0, slots := 0, locals := 42 }
def F_X0_give (xa0 : Nat) (xa1 : Int32) (xa2 : Int32) (xa3 : Int32) (σ : Sto) : Option (Unit × Sto) := ck (kd (xa0) == 0) (bnd (F_X0_who (xa0) (xa1) σ) (fun xr4 xσ1 => ocase xr4 (some ((), xσ1)) (fun xk5 => ck (kd (xk5) == 2) (bnd (F_X2_putPart (xk5) (xa2) (xa3) xσ1) (fun xr9 xσ6 => some ((), xσ6))))))
set_option maxHeartbeats 4000000 in
set_option maxRecDepth 20000 in
theorem b_X0_give_0 {x : XT} {y : YT} {Z : State → Prop} (C : Cx x y (AY y) RX0 cX0_give 5 rm_X0_give) {r : Unit} {σ' : Sto} (hr : RetV x y (AY y) 5 cX0_give Z r σ') (xa0 : Nat) (xa1 : Int32) (xa2 : Int32) (xa3 : Int32) (σ : Sto) (h : F_X0_give xa0 xa1 xa2 xa3 σ = some (r, σ')) : GW x y (AY y) 5 Z 0 [(0, .ref (yad y (xa0))), (1, .int (xa1)), (2, .int (xa2)), (3, .int (xa3))] [] σ := by
  unfold F_X0_give at h
  refine g_aload_n (pc := 0) C dX0_give_0 rfl 0 rfl ?_
  refine g_iload_n (pc := 1) C dX0_give_1 rfl 1 rfl ?_
  obtain ⟨xq3, h⟩ := iC h
  have xq3 := keq xq3
  obtain ⟨xr4, xσ1, xc2, h⟩ := iB h
  refine g_callVq (pc := 2) (As := [.int (xa1)]) (rest := []) C dX0_give_2 (fun l => c_X0_who l y _ _ _ _ _ xc2) cv_X0_69 ⟨rfl, rfl, Nat.le_of_ble_eq_true rfl, Nat.le_of_ble_eq_true rfl⟩ (rv0 xq3) rfl (Nat.le_of_ble_eq_true rfl) ?_
  refine g_nastore (i := 4) (lv' := [(4, nv y xr4), (0, .ref (yad y (xa0))), (1, .int (xa1)), (2, .int (xa2)), (3, .int (xa3))]) (pc := 5) C dX0_give_5 (Nat.le_of_ble_eq_true rfl) rfl ?_
  refine g_naload (pc := 7) C dX0_give_7 0 rfl ?_
  refine g_ifnull (pc := 9) C dX0_give_9 (tgt := 19) rfl (fun xq10 => ?_) (fun xk5 xq10 => ?_)
  · subst xq10
    have h := iO0 h
    exact rtV hr dX0_give_19 h
  · subst xq10
    have h := iO1 h
    refine g_aload (pc := 12) C dX0_give_12 0 rfl ?_
    refine g_iload_n (pc := 14) C dX0_give_14 rfl 3 rfl ?_
    refine g_iload_n (pc := 15) C dX0_give_15 rfl 4 rfl ?_
    obtain ⟨xq8, h⟩ := iC h
    have xq8 := keq xq8
    obtain ⟨xr9, xσ6, xc7, h⟩ := iB h
    refine g_callVv (pc := 16) (As := [.int (xa2), .int (xa3)]) (rest := []) C dX0_give_16 (fun l => c_X2_putPart l y _ _ _ _ _ _ xc7) cv_X0_77 ⟨rfl, rfl, Nat.le_of_ble_eq_true rfl, Nat.le_of_ble_eq_true rfl⟩ (rv2 xq8) rfl (Nat.le_of_ble_eq_true rfl) ?_
    exact rtV hr dX0_give_19 h
theorem c_X0_give (l : Launch) (y : YT) (xa0 : Nat) (xa1 : Int32) (xa2 : Int32) (xa3 : Int32) (σ σ' : Sto) (r : Unit) (h : F_X0_give xa0 xa1 xa2 xa3 σ = some (r, σ')) : MV l y yX0_give (Cond.code yX0_give cX0_give 5 none :: TT) rm_X0_give [.ref (yad y (xa0)), .int (xa1), .int (xa2), .int (xa3)] σ r σ' :=
  mkV (by decide) rfl rfl rfl (Nat.le_of_ble_eq_true rfl) (fun x Z C hr => b_X0_give_0 C hr xa0 xa1 xa2 xa3 σ h)
def rm_X0_sumOf : Room := { frames := 3, cells := 0, slots := 0, locals := 65 }
def F_X0_sumOf_b4 (xk_4 : Nat → Int32 → Int32 → Int32 → Sto → Option (Int32 × Sto)) (xa0 : Nat) (xa1 : Int32) (xa2 : Int32) (xa3 : Int32) (σ : Sto) : Option (Int32 × Sto) := ck (kd (xa0) == 0) (if (σ xa0 6) ≤ xa3 then some (xa2, σ) else bnd (F_X0_partOf (xa0) (xa3) (xa1) σ) (fun xr5 xσ3 => lti (xa2 + xr5) (fun xv6 => xk_4 xa0 xa1 xv6 (xa3 + 1) xσ3)))
def F_X0_sumOf (xa0 : Nat) (xa1 : Int32) (σ : Sto) : Option (Int32 × Sto) := lo4 (F_X0_sumOf_b4) 1000 xa0 xa1 0 0 σ
set_option maxHeartbeats 4000000 in
set_option maxRecDepth 20000 in
theorem b_X0_sumOf_4 {x : XT} {y : YT} {Z : State → Prop} (C : Cx x y (AY y) RX0 cX0_sumOf 4 rm_X0_sumOf) {r : Int32} {σ' : Sto} (hr : RetI x y (AY y) 4 cX0_sumOf Z r σ') (xk_4 : Nat → Int32 → Int32 → Int32 → Sto → Option (Int32 × Sto)) (xH4 : ∀ (xa0 : Nat) (xa1 : Int32) (xa2 : Int32) (xa3 : Int32) (σ : Sto), xk_4 xa0 xa1 xa2 xa3 σ = some (r, σ') → GW x y (AY y) 4 Z 4 [(0, .ref (yad y (xa0))), (1, .int (xa1)), (2, .int (xa2)), (3, .int (xa3))] [] σ) (xa0 : Nat) (xa1 : Int32) (xa2 : Int32) (xa3 : Int32) (σ : Sto) (h : F_X0_sumOf_b4 xk_4 xa0 xa1 xa2 xa3 σ = some (r, σ')) : GW x y (AY y) 4 Z 4 [(0, .ref (yad y (xa0))), (1, .int (xa1)), (2, .int (xa2)), (3, .int (xa3))] [] σ := by
  unfold F_X0_sumOf_b4 at h
  refine g_iload_n (pc := 4) C dX0_sumOf_4 rfl 3 rfl ?_
  refine g_aload_n (pc := 5) C dX0_sumOf_5 rfl 0 rfl ?_
  obtain ⟨xq1, h⟩ := iC h
  have xq1 := keq xq1
  refine gf_0_6 (pc := 6) C wf_X0_30 dX0_sumOf_6 xq1 ?_
  refine g_icmp_ge (pc := 9) C dX0_sumOf_9 (tgt := 27) rfl (fun xq2 => ?_) (fun xq2 => ?_)
  · have h := iP xq2 h
    refine g_iload_n (pc := 27) C dX0_sumOf_27 rfl 2 rfl ?_
    exact rtI hr dX0_sumOf_28 h
  · have h := iN xq2 h
    refine g_iload_n (pc := 12) C dX0_sumOf_12 rfl 2 rfl ?_
    refine g_aload_n (pc := 13) C dX0_sumOf_13 rfl 0 rfl ?_
    refine g_iload_n (pc := 14) C dX0_sumOf_14 rfl 3 rfl ?_
    refine g_iload_n (pc := 15) C dX0_sumOf_15 rfl 1 rfl ?_
    obtain ⟨xr5, xσ3, xc4, h⟩ := iB h
    refine g_callVi (pc := 16) (As := [.int (xa3), .int (xa1)]) (rest := [.int (xa2)]) C dX0_sumOf_16 (fun l => c_X0_partOf l y _ _ _ _ _ _ xc4) cv_X0_81 ⟨rfl, rfl, Nat.le_of_ble_eq_true rfl, Nat.le_of_ble_eq_true rfl⟩ (rv0 xq1) rfl (Nat.le_of_ble_eq_true rfl) ?_
    refine g_iadd (pc := 19) C dX0_sumOf_19 ?_
    refine g_letI h (fun xv6 h => ?_)
    refine g_istore_n (i := 2) (lv' := [(2, .int (xv6)), (0, .ref (yad y (xa0))), (1, .int (xa1)), (3, .int (xa3))]) (pc := 20) C dX0_sumOf_20 rfl (Nat.le_of_ble_eq_true rfl) rfl ?_
    refine g_iinc (lv' := [(3, .int (xa3 + 1)), (2, .int (xv6)), (0, .ref (yad y (xa0))), (1, .int (xa1))]) (w := xa3 + 1) (pc := 21) C dX0_sumOf_21 (k := 3) rfl rfl (Nat.le_of_ble_eq_true rfl) rfl ?_
    refine g_goto (pc := 24) C dX0_sumOf_24 (tgt := 4) rfl ?_
    refine g_sub (lv' := [(0, .ref (yad y (xa0))), (1, .int (xa1)), (2, .int (xv6)), (3, .int (xa3 + 1))]) C [2, 3, 1, 0] rfl ?_
    exact xH4 xa0 xa1 xv6 (xa3 + 1) xσ3 h
theorem l_X0_sumOf_4 {x : XT} {y : YT} {Z : State → Prop} (C : Cx x y (AY y) RX0 cX0_sumOf 4 rm_X0_sumOf) {r : Int32} {σ' : Sto} (hr : RetI x y (AY y) 4 cX0_sumOf Z r σ') (n : Nat) (xa0 : Nat) (xa1 : Int32) (xa2 : Int32) (xa3 : Int32) (σ : Sto) (h : lo4 (F_X0_sumOf_b4) n xa0 xa1 xa2 xa3 σ = some (r, σ')) : GW x y (AY y) 4 Z 4 [(0, .ref (yad y (xa0))), (1, .int (xa1)), (2, .int (xa2)), (3, .int (xa3))] [] σ :=
  lo4_gw (G := fun xa0 xa1 xa2 xa3 σ => GW x y (AY y) 4 Z 4 [(0, .ref (yad y (xa0))), (1, .int (xa1)), (2, .int (xa2)), (3, .int (xa3))] [] σ) (fun xk xHk xa0 xa1 xa2 xa3 σ h => b_X0_sumOf_4 C hr xk xHk xa0 xa1 xa2 xa3 σ h) n xa0 xa1 xa2 xa3 σ h
set_option maxHeartbeats 4000000 in
set_option maxRecDepth 20000 in
theorem b_X0_sumOf_0 {x : XT} {y : YT} {Z : State → Prop} (C : Cx x y (AY y) RX0 cX0_sumOf 4 rm_X0_sumOf) {r : Int32} {σ' : Sto} (hr : RetI x y (AY y) 4 cX0_sumOf Z r σ') (xa0 : Nat) (xa1 : Int32) (σ : Sto) (h : F_X0_sumOf xa0 xa1 σ = some (r, σ')) : GW x y (AY y) 4 Z 0 [(0, .ref (yad y (xa0))), (1, .int (xa1))] [] σ := by
  unfold F_X0_sumOf at h
  refine g_iconst (v := 0) (pc := 0) C dX0_sumOf_0 ci_0 ?_
  refine g_istore_n (i := 2) (lv' := [(2, .int (0)), (0, .ref (yad y (xa0))), (1, .int (xa1))]) (pc := 1) C dX0_sumOf_1 rfl (Nat.le_of_ble_eq_true rfl) rfl ?_
  refine g_iconst (v := 0) (pc := 2) C dX0_sumOf_2 ci_0 ?_
  refine g_istore_n (i := 3) (lv' := [(3, .int (0)), (2, .int (0)), (0, .ref (yad y (xa0))), (1, .int (xa1))]) (pc := 3) C dX0_sumOf_3 rfl (Nat.le_of_ble_eq_true rfl) rfl ?_
  refine g_sub (lv' := [(0, .ref (yad y (xa0))), (1, .int (xa1)), (2, .int (0)), (3, .int (0))]) C [2, 3, 1, 0] rfl ?_
  exact l_X0_sumOf_4 C hr 1000 xa0 xa1 0 0 σ h
theorem c_X0_sumOf (l : Launch) (y : YT) (xa0 : Nat) (xa1 : Int32) (σ σ' : Sto) (r : Int32) (h : F_X0_sumOf xa0 xa1 σ = some (r, σ')) : MI l y yX0_sumOf (Cond.code yX0_sumOf cX0_sumOf 4 (some .int) :: TT) rm_X0_sumOf [.ref (yad y (xa0)), .int (xa1)] σ r σ' :=
  mkI (by decide) rfl rfl rfl (Nat.le_of_ble_eq_true rfl) (fun x Z C hr => b_X0_sumOf_0 C hr xa0 xa1 σ h)
def rm_X0_sitterSet : Room := { frames := 0, cells := 0, slots := 0, locals := 0 }
def F_X0_sitterSet (xa0 : Nat) (σ : Sto) : Option (Int32 × Sto) := ck (kd (xa0) == 0) (some ((isl 1 (σ xa0 6)) - 1, σ))
set_option maxHeartbeats 4000000 in
set_option maxRecDepth 20000 in
theorem b_X0_sitterSet_0 {x : XT} {y : YT} {Z : State → Prop} (C : Cx x y (AY y) RX0 cX0_sitterSet 1 rm_X0_sitterSet) {r : Int32} {σ' : Sto} (hr : RetI x y (AY y) 1 cX0_sitterSet Z r σ') (xa0 : Nat) (σ : Sto) (h : F_X0_sitterSet xa0 σ = some (r, σ')) : GW x y (AY y) 1 Z 0 [(0, .ref (yad y (xa0)))] [] σ := by
  unfold F_X0_sitterSet at h
  refine g_iconst (v := 1) (pc := 0) C dX0_sitterSet_0 ci_1 ?_
  refine g_aload_n (pc := 1) C dX0_sitterSet_1 rfl 0 rfl ?_
  obtain ⟨xq1, h⟩ := iC h
  have xq1 := keq xq1
  refine gf_0_6 (pc := 2) C wf_X0_30 dX0_sitterSet_2 xq1 ?_
  refine g_ishl (pc := 5) C dX0_sitterSet_5 ?_
  refine g_iconst (v := 1) (pc := 6) C dX0_sitterSet_6 ci_1 ?_
  refine g_isub (pc := 7) C dX0_sitterSet_7 ?_
  exact rtI hr dX0_sitterSet_8 h
theorem c_X0_sitterSet (l : Launch) (y : YT) (xa0 : Nat) (σ σ' : Sto) (r : Int32) (h : F_X0_sitterSet xa0 σ = some (r, σ')) : MI l y yX0_sitterSet (Cond.code yX0_sitterSet cX0_sitterSet 1 (some .int) :: TT) rm_X0_sitterSet [.ref (yad y (xa0))] σ r σ' :=
  mkI (by decide) rfl rfl rfl (Nat.le_of_ble_eq_true rfl) (fun x Z C hr => b_X0_sitterSet_0 C hr xa0 σ h)
def rm_X0_isEachTaken : Room := { frames := 3, cells := 0, slots := 0, locals := 65 }
def F_X0_isEachTaken_b2 (xk_2 : Nat → Int32 → Sto → Option (Int32 × Sto)) (xa0 : Nat) (xa1 : Int32) (σ : Sto) : Option (Int32 × Sto) := ck (kd (xa0) == 0) (if (σ xa0 6) ≤ xa1 then some (1, σ) else bnd (F_X0_partOf (xa0) (xa1) 5 σ) (fun xr5 xσ3 => if (xr5) = 0 then some (0, xσ3) else xk_2 xa0 (xa1 + 1) xσ3))
def F_X0_isEachTaken (xa0 : Nat) (σ : Sto) : Option (Int32 × Sto) := lo2 (F_X0_isEachTaken_b2) 1000 xa0 0 σ
set_option maxHeartbeats 4000000 in
set_option maxRecDepth 20000 in
theorem b_X0_isEachTaken_2 {x : XT} {y : YT} {Z : State → Prop} (C : Cx x y (AY y) RX0 cX0_isEachTaken 2 rm_X0_isEachTaken) {r : Int32} {σ' : Sto} (hr : RetZ x y (AY y) 2 cX0_isEachTaken Z r σ') (xk_2 : Nat → Int32 → Sto → Option (Int32 × Sto)) (xH2 : ∀ (xa0 : Nat) (xa1 : Int32) (σ : Sto), xk_2 xa0 xa1 σ = some (r, σ') → GW x y (AY y) 2 Z 2 [(0, .ref (yad y (xa0))), (1, .int (xa1))] [] σ) (xa0 : Nat) (xa1 : Int32) (σ : Sto) (h : F_X0_isEachTaken_b2 xk_2 xa0 xa1 σ = some (r, σ')) : GW x y (AY y) 2 Z 2 [(0, .ref (yad y (xa0))), (1, .int (xa1))] [] σ := by
  unfold F_X0_isEachTaken_b2 at h
  refine g_iload_n (pc := 2) C dX0_isEachTaken_2 rfl 1 rfl ?_
  refine g_aload_n (pc := 3) C dX0_isEachTaken_3 rfl 0 rfl ?_
  obtain ⟨xq1, h⟩ := iC h
  have xq1 := keq xq1
  refine gf_0_6 (pc := 4) C wf_X0_30 dX0_isEachTaken_4 xq1 ?_
  refine g_icmp_ge (pc := 7) C dX0_isEachTaken_7 (tgt := 27) rfl (fun xq2 => ?_) (fun xq2 => ?_)
  · have h := iP xq2 h
    refine g_iconst (v := 1) (pc := 27) C dX0_isEachTaken_27 ci_1 ?_
    exact rtZ hr dX0_isEachTaken_28 (by decide) h
  · have h := iN xq2 h
    refine g_aload_n (pc := 10) C dX0_isEachTaken_10 rfl 0 rfl ?_
    refine g_iload_n (pc := 11) C dX0_isEachTaken_11 rfl 1 rfl ?_
    refine g_iconst (v := 5) (pc := 12) C dX0_isEachTaken_12 ci_5 ?_
    obtain ⟨xr5, xσ3, xc4, h⟩ := iB h
    refine g_callVi (pc := 13) (As := [.int (xa1), .int (5)]) (rest := []) C dX0_isEachTaken_13 (fun l => c_X0_partOf l y _ _ _ _ _ _ xc4) cv_X0_81 ⟨rfl, rfl, Nat.le_of_ble_eq_true rfl, Nat.le_of_ble_eq_true rfl⟩ (rv0 xq1) rfl (Nat.le_of_ble_eq_true rfl) ?_
    refine g_if_ne (pc := 16) C dX0_isEachTaken_16 (tgt := 21) rfl (fun xq6 => ?_) (fun xq6 => ?_)
    · have h := iN xq6 h
      refine g_iinc (lv' := [(1, .int (xa1 + 1)), (0, .ref (yad y (xa0)))]) (w := xa1 + 1) (pc := 21) C dX0_isEachTaken_21 (k := 1) rfl rfl (Nat.le_of_ble_eq_true rfl) rfl ?_
      refine g_goto (pc := 24) C dX0_isEachTaken_24 (tgt := 2) rfl ?_
      refine g_sub (lv' := [(0, .ref (yad y (xa0))), (1, .int (xa1 + 1))]) C [1, 0] rfl ?_
      exact xH2 xa0 (xa1 + 1) xσ3 h
    · have h := iP xq6 h
      refine g_iconst (v := 0) (pc := 19) C dX0_isEachTaken_19 ci_0 ?_
      exact rtZ hr dX0_isEachTaken_20 (by decide) h
theorem l_X0_isEachTaken_2 {x : XT} {y : YT} {Z : State → Prop} (C : Cx x y (AY y) RX0 cX0_isEachTaken 2 rm_X0_isEachTaken) {r : Int32} {σ' : Sto} (hr : RetZ x y (AY y) 2 cX0_isEachTaken Z r σ') (n : Nat) (xa0 : Nat) (xa1 : Int32) (σ : Sto) (h : lo2 (F_X0_isEachTaken_b2) n xa0 xa1 σ = some (r, σ')) : GW x y (AY y) 2 Z 2 [(0, .ref (yad y (xa0))), (1, .int (xa1))] [] σ :=
  lo2_gw (G := fun xa0 xa1 σ => GW x y (AY y) 2 Z 2 [(0, .ref (yad y (xa0))), (1, .int (xa1))] [] σ) (fun xk xHk xa0 xa1 σ h => b_X0_isEachTaken_2 C hr xk xHk xa0 xa1 σ h) n xa0 xa1 σ h
set_option maxHeartbeats 4000000 in
set_option maxRecDepth 20000 in
theorem b_X0_isEachTaken_0 {x : XT} {y : YT} {Z : State → Prop} (C : Cx x y (AY y) RX0 cX0_isEachTaken 2 rm_X0_isEachTaken) {r : Int32} {σ' : Sto} (hr : RetZ x y (AY y) 2 cX0_isEachTaken Z r σ') (xa0 : Nat) (σ : Sto) (h : F_X0_isEachTaken xa0 σ = some (r, σ')) : GW x y (AY y) 2 Z 0 [(0, .ref (yad y (xa0)))] [] σ := by
  unfold F_X0_isEachTaken at h
  refine g_iconst (v := 0) (pc := 0) C dX0_isEachTaken_0 ci_0 ?_
  refine g_istore_n (i := 1) (lv' := [(1, .int (0)), (0, .ref (yad y (xa0)))]) (pc := 1) C dX0_isEachTaken_1 rfl (Nat.le_of_ble_eq_true rfl) rfl ?_
  refine g_sub (lv' := [(0, .ref (yad y (xa0))), (1, .int (0))]) C [1, 0] rfl ?_
  exact l_X0_isEachTaken_2 C hr 1000 xa0 0 σ h
theorem c_X0_isEachTaken (l : Launch) (y : YT) (xa0 : Nat) (σ σ' : Sto) (r : Int32) (h : F_X0_isEachTaken xa0 σ = some (r, σ')) : MI l y yX0_isEachTaken (Cond.code yX0_isEachTaken cX0_isEachTaken 2 (some .boolean) :: TT) rm_X0_isEachTaken [.ref (yad y (xa0))] σ r σ' :=
  mkZ (by decide) rfl rfl rfl (Nat.le_of_ble_eq_true rfl) (fun x Z C hr => b_X0_isEachTaken_0 C hr xa0 σ h)
def rm_X0_spotsInUse : Room := { frames := 0, cells := 0, slots := 0, locals := 0 }
def F_X0_spotsInUse_b4 (xk_4 : Nat → Int32 → Int32 → Sto → Option (Int32 × Sto)) (xa0 : Nat) (xa1 : Int32) (xa2 : Int32) (σ : Sto) : Option (Int32 × Sto) := if 10 ≤ xa2 then some (xa1, σ) else ck (kd (xa0) == 0) (ck (inr (xa2) (10)) (if (σ (xa0 + 11) (xa2.toNatClampNeg)) < 0 then xk_4 xa0 xa1 (xa2 + 1) σ else xk_4 xa0 (xa1 + 1) (xa2 + 1) σ))
def F_X0_spotsInUse (xa0 : Nat) (σ : Sto) : Option (Int32 × Sto) := lo3 (F_X0_spotsInUse_b4) 1000 xa0 0 0 σ
set_option maxHeartbeats 4000000 in
set_option maxRecDepth 20000 in
theorem b_X0_spotsInUse_4 {x : XT} {y : YT} {Z : State → Prop} (C : Cx x y (AY y) RX0 cX0_spotsInUse 3 rm_X0_spotsInUse) {r : Int32} {σ' : Sto} (hr : RetI x y (AY y) 3 cX0_spotsInUse Z r σ') (xk_4 : Nat → Int32 → Int32 → Sto → Option (Int32 × Sto)) (xH4 : ∀ (xa0 : Nat) (xa1 : Int32) (xa2 : Int32) (σ : Sto), xk_4 xa0 xa1 xa2 σ = some (r, σ') → GW x y (AY y) 3 Z 4 [(0, .ref (yad y (xa0))), (1, .int (xa1)), (2, .int (xa2))] [] σ) (xa0 : Nat) (xa1 : Int32) (xa2 : Int32) (σ : Sto) (h : F_X0_spotsInUse_b4 xk_4 xa0 xa1 xa2 σ = some (r, σ')) : GW x y (AY y) 3 Z 4 [(0, .ref (yad y (xa0))), (1, .int (xa1)), (2, .int (xa2))] [] σ := by
  unfold F_X0_spotsInUse_b4 at h
  refine g_iload_n (pc := 4) C dX0_spotsInUse_4 rfl 2 rfl ?_
  refine g_bipush (v := 10) (pc := 5) C dX0_spotsInUse_5 cb_10 ?_
  refine g_icmp_ge (pc := 7) C dX0_spotsInUse_7 (tgt := 28) rfl (fun xq1 => ?_) (fun xq1 => ?_)
  · have h := iP xq1 h
    refine g_iload_n (pc := 28) C dX0_spotsInUse_28 rfl 1 rfl ?_
    exact rtI hr dX0_spotsInUse_29 h
  · have h := iN xq1 h
    refine g_aload_n (pc := 10) C dX0_spotsInUse_10 rfl 0 rfl ?_
    obtain ⟨xq2, h⟩ := iC h
    have xq2 := keq xq2
    refine gf_0_9 (pc := 11) C wf_X0_44 dX0_spotsInUse_11 xq2 ?_
    refine g_iload_n (pc := 14) C dX0_spotsInUse_14 rfl 2 rfl ?_
    obtain ⟨xq3, h⟩ := iC h
    refine g_iald (pc := 15) C dX0_spotsInUse_15 (kr_0_9 xq2) (ivp xq3 (lr_0_9 xq2)) (j := xa2.toNatClampNeg) rfl ?_
    refine g_if_lt (pc := 16) C dX0_spotsInUse_16 (tgt := 22) rfl (fun xq4 => ?_) (fun xq4 => ?_)
    · have h := iP xq4 h
      refine g_iinc (lv' := [(2, .int (xa2 + 1)), (0, .ref (yad y (xa0))), (1, .int (xa1))]) (w := xa2 + 1) (pc := 22) C dX0_spotsInUse_22 (k := 2) rfl rfl (Nat.le_of_ble_eq_true rfl) rfl ?_
      refine g_goto (pc := 25) C dX0_spotsInUse_25 (tgt := 4) rfl ?_
      refine g_sub (lv' := [(0, .ref (yad y (xa0))), (1, .int (xa1)), (2, .int (xa2 + 1))]) C [1, 2, 0] rfl ?_
      exact xH4 xa0 xa1 (xa2 + 1) σ h
    · have h := iN xq4 h
      refine g_iinc (lv' := [(1, .int (xa1 + 1)), (0, .ref (yad y (xa0))), (2, .int (xa2))]) (w := xa1 + 1) (pc := 19) C dX0_spotsInUse_19 (k := 1) rfl rfl (Nat.le_of_ble_eq_true rfl) rfl ?_
      refine g_iinc (lv' := [(2, .int (xa2 + 1)), (1, .int (xa1 + 1)), (0, .ref (yad y (xa0)))]) (w := xa2 + 1) (pc := 22) C dX0_spotsInUse_22 (k := 2) rfl rfl (Nat.le_of_ble_eq_true rfl) rfl ?_
      refine g_goto (pc := 25) C dX0_spotsInUse_25 (tgt := 4) rfl ?_
      refine g_sub (lv' := [(0, .ref (yad y (xa0))), (1, .int (xa1 + 1)), (2, .int (xa2 + 1))]) C [2, 1, 0] rfl ?_
      exact xH4 xa0 (xa1 + 1) (xa2 + 1) σ h
theorem l_X0_spotsInUse_4 {x : XT} {y : YT} {Z : State → Prop} (C : Cx x y (AY y) RX0 cX0_spotsInUse 3 rm_X0_spotsInUse) {r : Int32} {σ' : Sto} (hr : RetI x y (AY y) 3 cX0_spotsInUse Z r σ') (n : Nat) (xa0 : Nat) (xa1 : Int32) (xa2 : Int32) (σ : Sto) (h : lo3 (F_X0_spotsInUse_b4) n xa0 xa1 xa2 σ = some (r, σ')) : GW x y (AY y) 3 Z 4 [(0, .ref (yad y (xa0))), (1, .int (xa1)), (2, .int (xa2))] [] σ :=
  lo3_gw (G := fun xa0 xa1 xa2 σ => GW x y (AY y) 3 Z 4 [(0, .ref (yad y (xa0))), (1, .int (xa1)), (2, .int (xa2))] [] σ) (fun xk xHk xa0 xa1 xa2 σ h => b_X0_spotsInUse_4 C hr xk xHk xa0 xa1 xa2 σ h) n xa0 xa1 xa2 σ h
set_option maxHeartbeats 4000000 in
set_option maxRecDepth 20000 in
theorem b_X0_spotsInUse_0 {x : XT} {y : YT} {Z : State → Prop} (C : Cx x y (AY y) RX0 cX0_spotsInUse 3 rm_X0_spotsInUse) {r : Int32} {σ' : Sto} (hr : RetI x y (AY y) 3 cX0_spotsInUse Z r σ') (xa0 : Nat) (σ : Sto) (h : F_X0_spotsInUse xa0 σ = some (r, σ')) : GW x y (AY y) 3 Z 0 [(0, .ref (yad y (xa0)))] [] σ := by
  unfold F_X0_spotsInUse at h
  refine g_iconst (v := 0) (pc := 0) C dX0_spotsInUse_0 ci_0 ?_
  refine g_istore_n (i := 1) (lv' := [(1, .int (0)), (0, .ref (yad y (xa0)))]) (pc := 1) C dX0_spotsInUse_1 rfl (Nat.le_of_ble_eq_true rfl) rfl ?_
  refine g_iconst (v := 0) (pc := 2) C dX0_spotsInUse_2 ci_0 ?_
  refine g_istore_n (i := 2) (lv' := [(2, .int (0)), (1, .int (0)), (0, .ref (yad y (xa0)))]) (pc := 3) C dX0_spotsInUse_3 rfl (Nat.le_of_ble_eq_true rfl) rfl ?_
  refine g_sub (lv' := [(0, .ref (yad y (xa0))), (1, .int (0)), (2, .int (0))]) C [2, 1, 0] rfl ?_
  exact l_X0_spotsInUse_4 C hr 1000 xa0 0 0 σ h
theorem c_X0_spotsInUse (l : Launch) (y : YT) (xa0 : Nat) (σ σ' : Sto) (r : Int32) (h : F_X0_spotsInUse xa0 σ = some (r, σ')) : MI l y yX0_spotsInUse (Cond.code yX0_spotsInUse cX0_spotsInUse 3 (some .int) :: TT) rm_X0_spotsInUse [.ref (yad y (xa0))] σ r σ' :=
  mkI (by decide) rfl rfl rfl (Nat.le_of_ble_eq_true rfl) (fun x Z C hr => b_X0_spotsInUse_0 C hr xa0 σ h)
def rm_X0_faultsOf : Room := { frames := 2, cells := 0, slots := 0, locals := 61 }
def F_X0_faultsOf_b66 (xa0 : Nat) (xa1 : Nat) (xa3 : Int32) (σ : Sto) : Option (Int32 × Sto) := ck (kd (xa0) == 0) (ck (kd (xa1) == 2) (bnd (F_X2_isShining (xa1) (σ xa0 1) σ) (fun xr5 xσ2 => if (xr5) = 0 then some (xa3, xσ2) else lti (xa3 ||| 8) (fun xv7 => some (xv7, xσ2)))))
def F_X0_faultsOf_b54 (xa0 : Nat) (xa1 : Nat) (xa2 : Int32) (xa3 : Int32) (σ : Sto) : Option (Int32 × Sto) := ck (kd (xa1) == 2) (bnd (F_X2_isSmiling (xa1) (xa2) σ) (fun xr4 xσ1 => if (xr4) = 0 then F_X0_faultsOf_b66 xa0 xa1 xa3 xσ1 else lti (xa3 ||| 4) (fun xv6 => F_X0_faultsOf_b66 xa0 xa1 xv6 xσ1)))
def F_X0_faultsOf_b34 (xa0 : Nat) (xa1 : Nat) (xa2 : Int32) (xa3 : Int32) (σ : Sto) : Option (Int32 × Sto) := ck (kd (xa0) == 0) (ck (kd (xa1) == 2) (bnd (F_X2_isShut (xa1) (xa2) (σ xa0 4) (σ xa0 1) σ) (fun xr5 xσ2 => if (xr5) = 0 then F_X0_faultsOf_b54 xa0 xa1 xa2 xa3 xσ2 else lti (xa3 ||| 2) (fun xv7 => F_X0_faultsOf_b54 xa0 xa1 xa2 xv7 xσ2))))
def F_X0_faultsOf_b14 (xa0 : Nat) (xa1 : Nat) (xa2 : Int32) (xs0 : Int32) (σ : Sto) : Option (Int32 × Sto) := ck (kd (xa0) == 0) (ck (kd (xa1) == 2) (bnd (F_X2_off (xa1) (σ xa0 0) σ) (fun xr5 xσ2 => bnd (F_X2_mayBeOff (xa1) xσ2) (fun xr8 xσ6 => if xr5 ≤ xr8 then F_X0_faultsOf_b34 xa0 xa1 xa2 xs0 xσ6 else lti (xs0 ||| 1) (fun xv10 => F_X0_faultsOf_b34 xa0 xa1 xa2 xv10 xσ6)))))
def F_X0_faultsOf (xa0 : Nat) (xa1 : Nat) (xa2 : Int32) (σ : Sto) : Option (Int32 × Sto) := ck (kd (xa0) == 0) (if 2 ≤ (σ xa0 1) then F_X0_faultsOf_b14 xa0 xa1 xa2 0 σ else F_X0_faultsOf_b14 xa0 xa1 xa2 16 σ)
set_option maxHeartbeats 4000000 in
set_option maxRecDepth 20000 in
theorem b_X0_faultsOf_66 {x : XT} {y : YT} {Z : State → Prop} (C : Cx x y (AY y) RX0 cX0_faultsOf 4 rm_X0_faultsOf) {r : Int32} {σ' : Sto} (hr : RetI x y (AY y) 4 cX0_faultsOf Z r σ') (xa0 : Nat) (xa1 : Nat) (xa3 : Int32) (σ : Sto) (h : F_X0_faultsOf_b66 xa0 xa1 xa3 σ = some (r, σ')) : GW x y (AY y) 4 Z 66 [(0, .ref (yad y (xa0))), (1, .ref (yad y (xa1))), (3, .int (xa3))] [] σ := by
  unfold F_X0_faultsOf_b66 at h
  refine g_aload_n (pc := 66) C dX0_faultsOf_66 rfl 1 rfl ?_
  refine g_aload_n (pc := 67) C dX0_faultsOf_67 rfl 0 rfl ?_
  obtain ⟨xq1, h⟩ := iC h
  have xq1 := keq xq1
  refine gf_0_1 (pc := 68) C wf_X0_15 dX0_faultsOf_68 xq1 ?_
  obtain ⟨xq4, h⟩ := iC h
  have xq4 := keq xq4
  obtain ⟨xr5, xσ2, xc3, h⟩ := iB h
  refine g_callVi (pc := 71) (As := [.int (σ xa0 1)]) (rest := []) C dX0_faultsOf_71 (fun l => c_X2_isShining l y _ _ _ _ _ xc3) cv_X0_99 ⟨rfl, rfl, Nat.le_of_ble_eq_true rfl, Nat.le_of_ble_eq_true rfl⟩ (rv2 xq4) rfl (Nat.le_of_ble_eq_true rfl) ?_
  refine g_if_eq (pc := 74) C dX0_faultsOf_74 (tgt := 82) rfl (fun xq6 => ?_) (fun xq6 => ?_)
  · have h := iP xq6 h
    refine g_iload_n (pc := 82) C dX0_faultsOf_82 rfl 2 rfl ?_
    exact rtI hr dX0_faultsOf_83 h
  · have h := iN xq6 h
    refine g_iload_n (pc := 77) C dX0_faultsOf_77 rfl 2 rfl ?_
    refine g_bipush (v := 8) (pc := 78) C dX0_faultsOf_78 cb_8 ?_
    refine g_ior (pc := 80) C dX0_faultsOf_80 ?_
    refine g_letI h (fun xv7 h => ?_)
    refine g_istore_n (i := 3) (lv' := [(3, .int (xv7)), (0, .ref (yad y (xa0))), (1, .ref (yad y (xa1)))]) (pc := 81) C dX0_faultsOf_81 rfl (Nat.le_of_ble_eq_true rfl) rfl ?_
    refine g_iload_n (pc := 82) C dX0_faultsOf_82 rfl 0 rfl ?_
    exact rtI hr dX0_faultsOf_83 h
set_option maxHeartbeats 4000000 in
set_option maxRecDepth 20000 in
theorem b_X0_faultsOf_54 {x : XT} {y : YT} {Z : State → Prop} (C : Cx x y (AY y) RX0 cX0_faultsOf 4 rm_X0_faultsOf) {r : Int32} {σ' : Sto} (hr : RetI x y (AY y) 4 cX0_faultsOf Z r σ') (xa0 : Nat) (xa1 : Nat) (xa2 : Int32) (xa3 : Int32) (σ : Sto) (h : F_X0_faultsOf_b54 xa0 xa1 xa2 xa3 σ = some (r, σ')) : GW x y (AY y) 4 Z 54 [(0, .ref (yad y (xa0))), (1, .ref (yad y (xa1))), (2, .int (xa2)), (3, .int (xa3))] [] σ := by
  unfold F_X0_faultsOf_b54 at h
  refine g_aload_n (pc := 54) C dX0_faultsOf_54 rfl 1 rfl ?_
  refine g_iload_n (pc := 55) C dX0_faultsOf_55 rfl 2 rfl ?_
  obtain ⟨xq3, h⟩ := iC h
  have xq3 := keq xq3
  obtain ⟨xr4, xσ1, xc2, h⟩ := iB h
  refine g_callVi (pc := 56) (As := [.int (xa2)]) (rest := []) C dX0_faultsOf_56 (fun l => c_X2_isSmiling l y _ _ _ _ _ xc2) cv_X0_96 ⟨rfl, rfl, Nat.le_of_ble_eq_true rfl, Nat.le_of_ble_eq_true rfl⟩ (rv2 xq3) rfl (Nat.le_of_ble_eq_true rfl) ?_
  refine g_if_eq (pc := 59) C dX0_faultsOf_59 (tgt := 66) rfl (fun xq5 => ?_) (fun xq5 => ?_)
  · have h := iP xq5 h
    refine g_sub (lv' := [(0, .ref (yad y (xa0))), (1, .ref (yad y (xa1))), (3, .int (xa3))]) C [0, 1, 3] rfl ?_
    exact b_X0_faultsOf_66 C hr xa0 xa1 xa3 xσ1 h
  · have h := iN xq5 h
    refine g_iload_n (pc := 62) C dX0_faultsOf_62 rfl 3 rfl ?_
    refine g_iconst (v := 4) (pc := 63) C dX0_faultsOf_63 ci_4 ?_
    refine g_ior (pc := 64) C dX0_faultsOf_64 ?_
    refine g_letI h (fun xv6 h => ?_)
    refine g_istore_n (i := 3) (lv' := [(3, .int (xv6)), (0, .ref (yad y (xa0))), (1, .ref (yad y (xa1))), (2, .int (xa2))]) (pc := 65) C dX0_faultsOf_65 rfl (Nat.le_of_ble_eq_true rfl) rfl ?_
    refine g_sub (lv' := [(0, .ref (yad y (xa0))), (1, .ref (yad y (xa1))), (3, .int (xv6))]) C [1, 2, 0] rfl ?_
    exact b_X0_faultsOf_66 C hr xa0 xa1 xv6 xσ1 h
set_option maxHeartbeats 4000000 in
set_option maxRecDepth 20000 in
theorem b_X0_faultsOf_34 {x : XT} {y : YT} {Z : State → Prop} (C : Cx x y (AY y) RX0 cX0_faultsOf 4 rm_X0_faultsOf) {r : Int32} {σ' : Sto} (hr : RetI x y (AY y) 4 cX0_faultsOf Z r σ') (xa0 : Nat) (xa1 : Nat) (xa2 : Int32) (xa3 : Int32) (σ : Sto) (h : F_X0_faultsOf_b34 xa0 xa1 xa2 xa3 σ = some (r, σ')) : GW x y (AY y) 4 Z 34 [(0, .ref (yad y (xa0))), (1, .ref (yad y (xa1))), (2, .int (xa2)), (3, .int (xa3))] [] σ := by
  unfold F_X0_faultsOf_b34 at h
  refine g_aload_n (pc := 34) C dX0_faultsOf_34 rfl 1 rfl ?_
  refine g_iload_n (pc := 35) C dX0_faultsOf_35 rfl 2 rfl ?_
  refine g_aload_n (pc := 36) C dX0_faultsOf_36 rfl 0 rfl ?_
  obtain ⟨xq1, h⟩ := iC h
  have xq1 := keq xq1
  refine gf_0_4 (pc := 37) C wf_X0_24 dX0_faultsOf_37 xq1 ?_
  refine g_aload_n (pc := 40) C dX0_faultsOf_40 rfl 0 rfl ?_
  refine gf_0_1 (pc := 41) C wf_X0_15 dX0_faultsOf_41 xq1 ?_
  obtain ⟨xq4, h⟩ := iC h
  have xq4 := keq xq4
  obtain ⟨xr5, xσ2, xc3, h⟩ := iB h
  refine g_callVi (pc := 44) (As := [.int (xa2), .int (σ xa0 4), .int (σ xa0 1)]) (rest := []) C dX0_faultsOf_44 (fun l => c_X2_isShut l y _ _ _ _ _ _ _ xc3) cv_X0_92 ⟨rfl, rfl, Nat.le_of_ble_eq_true rfl, Nat.le_of_ble_eq_true rfl⟩ (rv2 xq4) rfl (Nat.le_of_ble_eq_true rfl) ?_
  refine g_if_eq (pc := 47) C dX0_faultsOf_47 (tgt := 54) rfl (fun xq6 => ?_) (fun xq6 => ?_)
  · have h := iP xq6 h
    exact b_X0_faultsOf_54 C hr xa0 xa1 xa2 xa3 xσ2 h
  · have h := iN xq6 h
    refine g_iload_n (pc := 50) C dX0_faultsOf_50 rfl 3 rfl ?_
    refine g_iconst (v := 2) (pc := 51) C dX0_faultsOf_51 ci_2 ?_
    refine g_ior (pc := 52) C dX0_faultsOf_52 ?_
    refine g_letI h (fun xv7 h => ?_)
    refine g_istore_n (i := 3) (lv' := [(3, .int (xv7)), (0, .ref (yad y (xa0))), (1, .ref (yad y (xa1))), (2, .int (xa2))]) (pc := 53) C dX0_faultsOf_53 rfl (Nat.le_of_ble_eq_true rfl) rfl ?_
    refine g_sub (lv' := [(0, .ref (yad y (xa0))), (1, .ref (yad y (xa1))), (2, .int (xa2)), (3, .int (xv7))]) C [1, 2, 3, 0] rfl ?_
    exact b_X0_faultsOf_54 C hr xa0 xa1 xa2 xv7 xσ2 h
set_option maxHeartbeats 4000000 in
set_option maxRecDepth 20000 in
theorem b_X0_faultsOf_14 {x : XT} {y : YT} {Z : State → Prop} (C : Cx x y (AY y) RX0 cX0_faultsOf 4 rm_X0_faultsOf) {r : Int32} {σ' : Sto} (hr : RetI x y (AY y) 4 cX0_faultsOf Z r σ') (xa0 : Nat) (xa1 : Nat) (xa2 : Int32) (xs0 : Int32) (σ : Sto) (h : F_X0_faultsOf_b14 xa0 xa1 xa2 xs0 σ = some (r, σ')) : GW x y (AY y) 4 Z 14 [(0, .ref (yad y (xa0))), (1, .ref (yad y (xa1))), (2, .int (xa2))] [.int (xs0)] σ := by
  unfold F_X0_faultsOf_b14 at h
  refine g_istore_n (i := 3) (lv' := [(3, .int (xs0)), (0, .ref (yad y (xa0))), (1, .ref (yad y (xa1))), (2, .int (xa2))]) (pc := 14) C dX0_faultsOf_14 rfl (Nat.le_of_ble_eq_true rfl) rfl ?_
  refine g_aload_n (pc := 15) C dX0_faultsOf_15 rfl 2 rfl ?_
  refine g_aload_n (pc := 16) C dX0_faultsOf_16 rfl 1 rfl ?_
  obtain ⟨xq1, h⟩ := iC h
  have xq1 := keq xq1
  refine gf_0_0 (pc := 17) C wf_X0_9 dX0_faultsOf_17 xq1 ?_
  obtain ⟨xq4, h⟩ := iC h
  have xq4 := keq xq4
  obtain ⟨xr5, xσ2, xc3, h⟩ := iB h
  refine g_callVi (pc := 20) (As := [.int (σ xa0 0)]) (rest := []) C dX0_faultsOf_20 (fun l => c_X2_off l y _ _ _ _ _ xc3) cv_X0_85 ⟨rfl, rfl, Nat.le_of_ble_eq_true rfl, Nat.le_of_ble_eq_true rfl⟩ (rv2 xq4) rfl (Nat.le_of_ble_eq_true rfl) ?_
  refine g_aload_n (pc := 23) C dX0_faultsOf_23 rfl 2 rfl ?_
  obtain ⟨xr8, xσ6, xc7, h⟩ := iB h
  refine g_callVi (pc := 24) (As := []) (rest := [.int (xr5)]) C dX0_faultsOf_24 (fun l => c_X2_mayBeOff l y _ _ _ _ xc7) cv_X0_88 ⟨rfl, rfl, Nat.le_of_ble_eq_true rfl, Nat.le_of_ble_eq_true rfl⟩ (rv2 xq4) rfl (Nat.le_of_ble_eq_true rfl) ?_
  refine g_icmp_le (pc := 27) C dX0_faultsOf_27 (tgt := 34) rfl (fun xq9 => ?_) (fun xq9 => ?_)
  · have h := iP xq9 h
    refine g_sub (lv' := [(0, .ref (yad y (xa0))), (1, .ref (yad y (xa1))), (2, .int (xa2)), (3, .int (xs0))]) C [1, 2, 3, 0] rfl ?_
    exact b_X0_faultsOf_34 C hr xa0 xa1 xa2 xs0 xσ6 h
  · have h := iN xq9 h
    refine g_iload_n (pc := 30) C dX0_faultsOf_30 rfl 0 rfl ?_
    refine g_iconst (v := 1) (pc := 31) C dX0_faultsOf_31 ci_1 ?_
    refine g_ior (pc := 32) C dX0_faultsOf_32 ?_
    refine g_letI h (fun xv10 h => ?_)
    refine g_istore_n (i := 3) (lv' := [(3, .int (xv10)), (0, .ref (yad y (xa0))), (1, .ref (yad y (xa1))), (2, .int (xa2))]) (pc := 33) C dX0_faultsOf_33 rfl (Nat.le_of_ble_eq_true rfl) rfl ?_
    refine g_sub (lv' := [(0, .ref (yad y (xa0))), (1, .ref (yad y (xa1))), (2, .int (xa2)), (3, .int (xv10))]) C [1, 2, 3, 0] rfl ?_
    exact b_X0_faultsOf_34 C hr xa0 xa1 xa2 xv10 xσ6 h
set_option maxHeartbeats 4000000 in
set_option maxRecDepth 20000 in
theorem b_X0_faultsOf_0 {x : XT} {y : YT} {Z : State → Prop} (C : Cx x y (AY y) RX0 cX0_faultsOf 4 rm_X0_faultsOf) {r : Int32} {σ' : Sto} (hr : RetI x y (AY y) 4 cX0_faultsOf Z r σ') (xa0 : Nat) (xa1 : Nat) (xa2 : Int32) (σ : Sto) (h : F_X0_faultsOf xa0 xa1 xa2 σ = some (r, σ')) : GW x y (AY y) 4 Z 0 [(0, .ref (yad y (xa0))), (1, .ref (yad y (xa1))), (2, .int (xa2))] [] σ := by
  unfold F_X0_faultsOf at h
  refine g_aload_n (pc := 0) C dX0_faultsOf_0 rfl 0 rfl ?_
  obtain ⟨xq1, h⟩ := iC h
  have xq1 := keq xq1
  refine gf_0_1 (pc := 1) C wf_X0_15 dX0_faultsOf_1 xq1 ?_
  refine g_iconst (v := 2) (pc := 4) C dX0_faultsOf_4 ci_2 ?_
  refine g_icmp_ge (pc := 5) C dX0_faultsOf_5 (tgt := 13) rfl (fun xq2 => ?_) (fun xq2 => ?_)
  · have h := iP xq2 h
    refine g_iconst (v := 0) (pc := 13) C dX0_faultsOf_13 ci_0 ?_
    exact b_X0_faultsOf_14 C hr xa0 xa1 xa2 0 σ h
  · have h := iN xq2 h
    refine g_bipush (v := 16) (pc := 8) C dX0_faultsOf_8 cb_16 ?_
    refine g_goto (pc := 10) C dX0_faultsOf_10 (tgt := 14) rfl ?_
    exact b_X0_faultsOf_14 C hr xa0 xa1 xa2 16 σ h
theorem c_X0_faultsOf (l : Launch) (y : YT) (xa0 : Nat) (xa1 : Nat) (xa2 : Int32) (σ σ' : Sto) (r : Int32) (h : F_X0_faultsOf xa0 xa1 xa2 σ = some (r, σ')) : MI l y yX0_faultsOf (Cond.code yX0_faultsOf cX0_faultsOf 4 (some .int) :: TT) rm_X0_faultsOf [.ref (yad y (xa0)), .ref (yad y (xa1)), .int (xa2)] σ r σ' :=
  mkI (by decide) rfl rfl rfl (Nat.le_of_ble_eq_true rfl) (fun x Z C hr => b_X0_faultsOf_0 C hr xa0 xa1 xa2 σ h)
def rm_X0_hasClearFlash : Room := { frames := 3, cells := 0, slots := 0, locals := 84 }
def F_X0_hasClearFlash_b2 (xk_2 : Nat → Nat → Int32 → Sto → Option (Int32 × Sto)) (xa0 : Nat) (xa1 : Nat) (xa2 : Int32) (σ : Sto) : Option (Int32 × Sto) := if 4 ≤ xa2 then some (0, σ) else ck (kd (xa0) == 0) (bnd (F_X0_faultsOf (xa0) (xa1) (xa2) σ) (fun xr5 xσ2 => if (xr5) = 0 then some (1, xσ2) else xk_2 xa0 xa1 (xa2 + 1) xσ2))
def F_X0_hasClearFlash (xa0 : Nat) (xa1 : Nat) (σ : Sto) : Option (Int32 × Sto) := lo3 (F_X0_hasClearFlash_b2) 1000 xa0 xa1 0 σ
set_option maxHeartbeats 4000000 in
set_option maxRecDepth 20000 in
theorem b_X0_hasClearFlash_2 {x : XT} {y : YT} {Z : State → Prop} (C : Cx x y (AY y) RX0 cX0_hasClearFlash 3 rm_X0_hasClearFlash) {r : Int32} {σ' : Sto} (hr : RetZ x y (AY y) 3 cX0_hasClearFlash Z r σ') (xk_2 : Nat → Nat → Int32 → Sto → Option (Int32 × Sto)) (xH2 : ∀ (xa0 : Nat) (xa1 : Nat) (xa2 : Int32) (σ : Sto), xk_2 xa0 xa1 xa2 σ = some (r, σ') → GW x y (AY y) 3 Z 2 [(0, .ref (yad y (xa0))), (1, .ref (yad y (xa1))), (2, .int (xa2))] [] σ) (xa0 : Nat) (xa1 : Nat) (xa2 : Int32) (σ : Sto) (h : F_X0_hasClearFlash_b2 xk_2 xa0 xa1 xa2 σ = some (r, σ')) : GW x y (AY y) 3 Z 2 [(0, .ref (yad y (xa0))), (1, .ref (yad y (xa1))), (2, .int (xa2))] [] σ := by
  unfold F_X0_hasClearFlash_b2 at h
  refine g_iload_n (pc := 2) C dX0_hasClearFlash_2 rfl 2 rfl ?_
  refine g_iconst (v := 4) (pc := 3) C dX0_hasClearFlash_3 ci_4 ?_
  refine g_icmp_ge (pc := 4) C dX0_hasClearFlash_4 (tgt := 24) rfl (fun xq1 => ?_) (fun xq1 => ?_)
  · have h := iP xq1 h
    refine g_iconst (v := 0) (pc := 24) C dX0_hasClearFlash_24 ci_0 ?_
    exact rtZ hr dX0_hasClearFlash_25 (by decide) h
  · have h := iN xq1 h
    refine g_aload_n (pc := 7) C dX0_hasClearFlash_7 rfl 0 rfl ?_
    refine g_aload_n (pc := 8) C dX0_hasClearFlash_8 rfl 1 rfl ?_
    refine g_iload_n (pc := 9) C dX0_hasClearFlash_9 rfl 2 rfl ?_
    obtain ⟨xq4, h⟩ := iC h
    have xq4 := keq xq4
    obtain ⟨xr5, xσ2, xc3, h⟩ := iB h
    refine g_callVi (pc := 10) (As := [.ref (yad y (xa1)), .int (xa2)]) (rest := []) C dX0_hasClearFlash_10 (fun l => c_X0_faultsOf l y _ _ _ _ _ _ xc3) cv_X0_102 ⟨rfl, rfl, Nat.le_of_ble_eq_true rfl, Nat.le_of_ble_eq_true rfl⟩ (rv0 xq4) rfl (Nat.le_of_ble_eq_true rfl) ?_
    refine g_if_ne (pc := 13) C dX0_hasClearFlash_13 (tgt := 18) rfl (fun xq6 => ?_) (fun xq6 => ?_)
    · have h := iN xq6 h
      refine g_iinc (lv' := [(2, .int (xa2 + 1)), (0, .ref (yad y (xa0))), (1, .ref (yad y (xa1)))]) (w := xa2 + 1) (pc := 18) C dX0_hasClearFlash_18 (k := 2) rfl rfl (Nat.le_of_ble_eq_true rfl) rfl ?_
      refine g_goto (pc := 21) C dX0_hasClearFlash_21 (tgt := 2) rfl ?_
      refine g_sub (lv' := [(0, .ref (yad y (xa0))), (1, .ref (yad y (xa1))), (2, .int (xa2 + 1))]) C [1, 2, 0] rfl ?_
      exact xH2 xa0 xa1 (xa2 + 1) xσ2 h
    · have h := iP xq6 h
      refine g_iconst (v := 1) (pc := 16) C dX0_hasClearFlash_16 ci_1 ?_
      exact rtZ hr dX0_hasClearFlash_17 (by decide) h
theorem l_X0_hasClearFlash_2 {x : XT} {y : YT} {Z : State → Prop} (C : Cx x y (AY y) RX0 cX0_hasClearFlash 3 rm_X0_hasClearFlash) {r : Int32} {σ' : Sto} (hr : RetZ x y (AY y) 3 cX0_hasClearFlash Z r σ') (n : Nat) (xa0 : Nat) (xa1 : Nat) (xa2 : Int32) (σ : Sto) (h : lo3 (F_X0_hasClearFlash_b2) n xa0 xa1 xa2 σ = some (r, σ')) : GW x y (AY y) 3 Z 2 [(0, .ref (yad y (xa0))), (1, .ref (yad y (xa1))), (2, .int (xa2))] [] σ :=
  lo3_gw (G := fun xa0 xa1 xa2 σ => GW x y (AY y) 3 Z 2 [(0, .ref (yad y (xa0))), (1, .ref (yad y (xa1))), (2, .int (xa2))] [] σ) (fun xk xHk xa0 xa1 xa2 σ h => b_X0_hasClearFlash_2 C hr xk xHk xa0 xa1 xa2 σ h) n xa0 xa1 xa2 σ h
set_option maxHeartbeats 4000000 in
set_option maxRecDepth 20000 in
theorem b_X0_hasClearFlash_0 {x : XT} {y : YT} {Z : State → Prop} (C : Cx x y (AY y) RX0 cX0_hasClearFlash 3 rm_X0_hasClearFlash) {r : Int32} {σ' : Sto} (hr : RetZ x y (AY y) 3 cX0_hasClearFlash Z r σ') (xa0 : Nat) (xa1 : Nat) (σ : Sto) (h : F_X0_hasClearFlash xa0 xa1 σ = some (r, σ')) : GW x y (AY y) 3 Z 0 [(0, .ref (yad y (xa0))), (1, .ref (yad y (xa1)))] [] σ := by
  unfold F_X0_hasClearFlash at h
  refine g_iconst (v := 0) (pc := 0) C dX0_hasClearFlash_0 ci_0 ?_
  refine g_istore_n (i := 2) (lv' := [(2, .int (0)), (0, .ref (yad y (xa0))), (1, .ref (yad y (xa1)))]) (pc := 1) C dX0_hasClearFlash_1 rfl (Nat.le_of_ble_eq_true rfl) rfl ?_
  refine g_sub (lv' := [(0, .ref (yad y (xa0))), (1, .ref (yad y (xa1))), (2, .int (0))]) C [1, 2, 0] rfl ?_
  exact l_X0_hasClearFlash_2 C hr 1000 xa0 xa1 0 σ h
theorem c_X0_hasClearFlash (l : Launch) (y : YT) (xa0 : Nat) (xa1 : Nat) (σ σ' : Sto) (r : Int32) (h : F_X0_hasClearFlash xa0 xa1 σ = some (r, σ')) : MI l y yX0_hasClearFlash (Cond.code yX0_hasClearFlash cX0_hasClearFlash 3 (some .boolean) :: TT) rm_X0_hasClearFlash [.ref (yad y (xa0)), .ref (yad y (xa1))] σ r σ' :=
  mkZ (by decide) rfl rfl rfl (Nat.le_of_ble_eq_true rfl) (fun x Z C hr => b_X0_hasClearFlash_0 C hr xa0 xa1 σ h)

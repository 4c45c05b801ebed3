/-! methods, by program: what each does to the store (F_), its walk (b_), its contract (c_): X5_isToldSo, X5_text, X5_isSpot, X5_hold, X5_above, X5_isUnder, X5_as, X5_cutTo, X5_sheet, X5_write -/
def rm_X5_isToldSo : Room := { frames := 2, cells := 0, slots := 0, locals := 47 }
def F_X5_isToldSo_b96 (xa0 : Nat) (xa1 : Int32) (xa2 : Int32) (σ : Sto) : Option (Unit × Sto) := if 10 ≤ xa2 then some ((), σ) else ck (kd (xa0) == 5) (ck (inr (xa1 + 1) (840)) (ck (inr (xa1 + 2) (840)) (ck (inr (xa1 + 3) (840)) (ck (inr (xa1 + 4) (840)) (bnd (F_X5_comes (xa0) (xa2) (σ 56 ((xa1 + 1 : Int32).toNatClampNeg)) (σ 56 ((xa1 + 2 : Int32).toNatClampNeg)) (σ 56 ((xa1 + 3 : Int32).toNatClampNeg)) (σ 56 ((xa1 + 4 : Int32).toNatClampNeg)) σ) (fun xr9 xσ7 => some ((), xσ7)))))))
def F_X5_isToldSo_b34 (xk_34 : Nat → Int32 → Int32 → Int32 → Sto → Option (Unit × Sto)) (xa0 : Nat) (xa1 : Int32) (xa2 : Int32) (xa3 : Int32) (σ : Sto) : Option (Unit × Sto) := if 6 ≤ xa3 then F_X5_isToldSo_b96 xa0 xa1 xa2 σ else if xa2 = 10 then ck (kd (xa0) == 5) (ck (inr ((xa1 + 1) + xa3) (840)) (if 0 ≤ (σ 56 (((xa1 + 1) + xa3 : Int32).toNatClampNeg)) then ck (inr ((xa1 + 1) + xa3) (840)) (ck (inr (17 + xa3) (79)) (lts (up2 σ 50 ((17 + xa3 : Int32).toNatClampNeg) (σ 56 (((xa1 + 1) + xa3 : Int32).toNatClampNeg))) (fun xσ8 => xk_34 xa0 xa1 xa2 (xa3 + 1) xσ8))) else ck (inr (17 + xa3) (79)) (ck (inr (17 + xa3) (79)) (lts (up2 σ 50 ((17 + xa3 : Int32).toNatClampNeg) (σ 50 ((17 + xa3 : Int32).toNatClampNeg))) (fun xσ11 => xk_34 xa0 xa1 xa2 (xa3 + 1) xσ11))))) else F_X5_isToldSo_b96 xa0 xa1 xa2 σ
def F_X5_isToldSo (xa0 : Nat) (xa1 : Int32) (σ : Sto) : Option (Unit × Sto) := ck (kd (xa0) == 5) (ck (inr (xa1) (840)) (lti (σ 56 (xa1.toNatClampNeg)) (fun xv3 => if xv3 < 11 then lo4 (F_X5_isToldSo_b34) 1000 xa0 xa1 xv3 0 σ else ck (inr (xa1 + 1) (840)) (ck (inr ((3 + xv3) - 11) (79)) (lts (up2 σ 50 (((3 + xv3) - 11 : Int32).toNatClampNeg) (σ 56 ((xa1 + 1 : Int32).toNatClampNeg))) (fun xσ7 => lo4 (F_X5_isToldSo_b34) 1000 xa0 xa1 xv3 0 xσ7))))))
set_option maxHeartbeats 4000000 in
set_option maxRecDepth 20000 in
theorem b_X5_isToldSo_96 {x : XT} {y : YT} {Z : State → Prop} (C : Cx x y (AY y) RX5 cX5_isToldSo 4 rm_X5_isToldSo) {r : Unit} {σ' : Sto} (hr : RetV x y (AY y) 4 cX5_isToldSo Z r σ') (xa0 : Nat) (xa1 : Int32) (xa2 : Int32) (σ : Sto) (h : F_X5_isToldSo_b96 xa0 xa1 xa2 σ = some (r, σ')) : GW x y (AY y) 4 Z 96 [(0, .ref (yad y (xa0))), (1, .int (xa1)), (2, .int (xa2))] [] σ := by
  unfold F_X5_isToldSo_b96 at h
  refine g_iload_n (pc := 96) C dX5_isToldSo_96 rfl 2 rfl ?_
  refine g_bipush (v := 10) (pc := 97) C dX5_isToldSo_97 cb_10 ?_
  refine g_icmp_ge (pc := 99) C dX5_isToldSo_99 (tgt := 140) rfl (fun xq1 => ?_) (fun xq1 => ?_)
  · have h := iP xq1 h
    exact rtV hr dX5_isToldSo_140 h
  · have h := iN xq1 h
    refine g_aload_n (pc := 102) C dX5_isToldSo_102 rfl 0 rfl ?_
    refine g_iload_n (pc := 103) C dX5_isToldSo_103 rfl 2 rfl ?_
    refine g_aload_n (pc := 104) C dX5_isToldSo_104 rfl 0 rfl ?_
    obtain ⟨xq2, h⟩ := iC h
    have xq2 := keq xq2
    refine gf_5_15 (pc := 105) C wf_X5_45 dX5_isToldSo_105 xq2 ?_
    refine g_iload_n (pc := 108) C dX5_isToldSo_108 rfl 1 rfl ?_
    refine g_iconst (v := 1) (pc := 109) C dX5_isToldSo_109 ci_1 ?_
    refine g_iadd (pc := 110) C dX5_isToldSo_110 ?_
    obtain ⟨xq3, h⟩ := iC h
    refine g_iald (pc := 111) C dX5_isToldSo_111 rfl (ivp xq3 rfl) (j := (xa1 + 1 : Int32).toNatClampNeg) rfl ?_
    refine g_aload_n (pc := 112) C dX5_isToldSo_112 rfl 0 rfl ?_
    refine gf_5_15 (pc := 113) C wf_X5_45 dX5_isToldSo_113 xq2 ?_
    refine g_iload_n (pc := 116) C dX5_isToldSo_116 rfl 1 rfl ?_
    refine g_iconst (v := 2) (pc := 117) C dX5_isToldSo_117 ci_2 ?_
    refine g_iadd (pc := 118) C dX5_isToldSo_118 ?_
    obtain ⟨xq4, h⟩ := iC h
    refine g_iald (pc := 119) C dX5_isToldSo_119 rfl (ivp xq4 rfl) (j := (xa1 + 2 : Int32).toNatClampNeg) rfl ?_
    refine g_aload_n (pc := 120) C dX5_isToldSo_120 rfl 0 rfl ?_
    refine gf_5_15 (pc := 121) C wf_X5_45 dX5_isToldSo_121 xq2 ?_
    refine g_iload_n (pc := 124) C dX5_isToldSo_124 rfl 1 rfl ?_
    refine g_iconst (v := 3) (pc := 125) C dX5_isToldSo_125 ci_3 ?_
    refine g_iadd (pc := 126) C dX5_isToldSo_126 ?_
    obtain ⟨xq5, h⟩ := iC h
    refine g_iald (pc := 127) C dX5_isToldSo_127 rfl (ivp xq5 rfl) (j := (xa1 + 3 : Int32).toNatClampNeg) rfl ?_
    refine g_aload_n (pc := 128) C dX5_isToldSo_128 rfl 0 rfl ?_
    refine gf_5_15 (pc := 129) C wf_X5_45 dX5_isToldSo_129 xq2 ?_
    refine g_iload_n (pc := 132) C dX5_isToldSo_132 rfl 1 rfl ?_
    refine g_iconst (v := 4) (pc := 133) C dX5_isToldSo_133 ci_4 ?_
    refine g_iadd (pc := 134) C dX5_isToldSo_134 ?_
    obtain ⟨xq6, h⟩ := iC h
    refine g_iald (pc := 135) C dX5_isToldSo_135 rfl (ivp xq6 rfl) (j := (xa1 + 4 : Int32).toNatClampNeg) rfl ?_
    obtain ⟨xr9, xσ7, xc8, h⟩ := iB h
    refine g_callVi (pc := 136) (As := [.int (xa2), .int (σ 56 ((xa1 + 1 : Int32).toNatClampNeg)), .int (σ 56 ((xa1 + 2 : Int32).toNatClampNeg)), .int (σ 56 ((xa1 + 3 : Int32).toNatClampNeg)), .int (σ 56 ((xa1 + 4 : Int32).toNatClampNeg))]) (rest := []) C dX5_isToldSo_136 (fun l => c_X5_comes l y _ _ _ _ _ _ _ _ _ xc8) cv_X5_100 ⟨rfl, rfl, Nat.le_of_ble_eq_true rfl, Nat.le_of_ble_eq_true rfl⟩ (rv5 xq2) rfl (Nat.le_of_ble_eq_true rfl) ?_
    refine g_istore_n (i := 3) (lv' := [(3, .int (xr9)), (0, .ref (yad y (xa0))), (1, .int (xa1)), (2, .int (xa2))]) (pc := 139) C dX5_isToldSo_139 rfl (Nat.le_of_ble_eq_true rfl) rfl ?_
    exact rtV hr dX5_isToldSo_140 h
set_option maxHeartbeats 4000000 in
set_option maxRecDepth 20000 in
theorem b_X5_isToldSo_34 {x : XT} {y : YT} {Z : State → Prop} (C : Cx x y (AY y) RX5 cX5_isToldSo 4 rm_X5_isToldSo) {r : Unit} {σ' : Sto} (hr : RetV x y (AY y) 4 cX5_isToldSo Z r σ') (xk_34 : Nat → Int32 → Int32 → Int32 → Sto → Option (Unit × Sto)) (xH34 : ∀ (xa0 : Nat) (xa1 : Int32) (xa2 : Int32) (xa3 : Int32) (σ : Sto), xk_34 xa0 xa1 xa2 xa3 σ = some (r, σ') → GW x y (AY y) 4 Z 34 [(0, .ref (yad y (xa0))), (1, .int (xa1)), (2, .int (xa2)), (3, .int (xa3))] [] σ) (xa0 : Nat) (xa1 : Int32) (xa2 : Int32) (xa3 : Int32) (σ : Sto) (h : F_X5_isToldSo_b34 xk_34 xa0 xa1 xa2 xa3 σ = some (r, σ')) : GW x y (AY y) 4 Z 34 [(0, .ref (yad y (xa0))), (1, .int (xa1)), (2, .int (xa2)), (3, .int (xa3))] [] σ := by
  unfold F_X5_isToldSo_b34 at h
  refine g_iload_n (pc := 34) C dX5_isToldSo_34 rfl 3 rfl ?_
  refine g_bipush (v := 6) (pc := 35) C dX5_isToldSo_35 cb_6 ?_
  refine g_icmp_ge (pc := 37) C dX5_isToldSo_37 (tgt := 96) rfl (fun xq1 => ?_) (fun xq1 => ?_)
  · have h := iP xq1 h
    refine g_sub (lv' := [(0, .ref (yad y (xa0))), (1, .int (xa1)), (2, .int (xa2))]) C [0, 1, 2] rfl ?_
    exact b_X5_isToldSo_96 C hr xa0 xa1 xa2 σ h
  · have h := iN xq1 h
    refine g_iload_n (pc := 40) C dX5_isToldSo_40 rfl 2 rfl ?_
    refine g_bipush (v := 10) (pc := 41) C dX5_isToldSo_41 cb_10 ?_
    refine g_icmp_ne (pc := 43) C dX5_isToldSo_43 (tgt := 96) rfl (fun xq2 => ?_) (fun xq2 => ?_)
    · have h := iN xq2 h
      refine g_sub (lv' := [(0, .ref (yad y (xa0))), (1, .int (xa1)), (2, .int (xa2))]) C [0, 1, 2] rfl ?_
      exact b_X5_isToldSo_96 C hr xa0 xa1 xa2 σ h
    · have h := iP xq2 h
      refine g_aload_n (pc := 46) C dX5_isToldSo_46 rfl 0 rfl ?_
      obtain ⟨xq3, h⟩ := iC h
      have xq3 := keq xq3
      refine gf_5_0 (pc := 47) C wf_X5_9 dX5_isToldSo_47 xq3 ?_
      refine g_bipush (v := 17) (pc := 50) C dX5_isToldSo_50 cb_17 ?_
      refine g_iload_n (pc := 52) C dX5_isToldSo_52 rfl 3 rfl ?_
      refine g_iadd (pc := 53) C dX5_isToldSo_53 ?_
      refine g_aload_n (pc := 54) C dX5_isToldSo_54 rfl 0 rfl ?_
      refine gf_5_15 (pc := 55) C wf_X5_45 dX5_isToldSo_55 xq3 ?_
      refine g_iload_n (pc := 58) C dX5_isToldSo_58 rfl 1 rfl ?_
      refine g_iconst (v := 1) (pc := 59) C dX5_isToldSo_59 ci_1 ?_
      refine g_iadd (pc := 60) C dX5_isToldSo_60 ?_
      refine g_iload_n (pc := 61) C dX5_isToldSo_61 rfl 3 rfl ?_
      refine g_iadd (pc := 62) C dX5_isToldSo_62 ?_
      obtain ⟨xq4, h⟩ := iC h
      refine g_iald (pc := 63) C dX5_isToldSo_63 rfl (ivp xq4 rfl) (j := ((xa1 + 1) + xa3 : Int32).toNatClampNeg) rfl ?_
      refine g_if_ge (pc := 64) C dX5_isToldSo_64 (tgt := 79) rfl (fun xq5 => ?_) (fun xq5 => ?_)
      · have h := iP xq5 h
        refine g_aload_n (pc := 79) C dX5_isToldSo_79 rfl 0 rfl ?_
        refine gf_5_15 (pc := 80) C wf_X5_45 dX5_isToldSo_80 xq3 ?_
        refine g_iload_n (pc := 83) C dX5_isToldSo_83 rfl 1 rfl ?_
        refine g_iconst (v := 1) (pc := 84) C dX5_isToldSo_84 ci_1 ?_
        refine g_iadd (pc := 85) C dX5_isToldSo_85 ?_
        refine g_iload_n (pc := 86) C dX5_isToldSo_86 rfl 3 rfl ?_
        refine g_iadd (pc := 87) C dX5_isToldSo_87 ?_
        obtain ⟨xq6, h⟩ := iC h
        refine g_iald (pc := 88) C dX5_isToldSo_88 rfl (ivp xq6 rfl) (j := ((xa1 + 1) + xa3 : Int32).toNatClampNeg) rfl ?_
        obtain ⟨xq7, h⟩ := iC h
        refine g_iast (pc := 89) C dX5_isToldSo_89 rfl (ivp xq7 rfl) (j := (17 + xa3 : Int32).toNatClampNeg) rfl ?_
        refine g_letS h (fun xσ8 h => ?_)
        refine g_iinc (lv' := [(3, .int (xa3 + 1)), (0, .ref (yad y (xa0))), (1, .int (xa1)), (2, .int (xa2))]) (w := xa3 + 1) (pc := 90) C dX5_isToldSo_90 (k := 3) rfl rfl (Nat.le_of_ble_eq_true rfl) rfl ?_
        refine g_goto (pc := 93) C dX5_isToldSo_93 (tgt := 34) rfl ?_
        refine g_sub (lv' := [(0, .ref (yad y (xa0))), (1, .int (xa1)), (2, .int (xa2)), (3, .int (xa3 + 1))]) C [1, 2, 3, 0] rfl ?_
        exact xH34 xa0 xa1 xa2 (xa3 + 1) xσ8 h
      · have h := iN xq5 h
        refine g_aload_n (pc := 67) C dX5_isToldSo_67 rfl 0 rfl ?_
        refine gf_5_0 (pc := 68) C wf_X5_9 dX5_isToldSo_68 xq3 ?_
        refine g_bipush (v := 17) (pc := 71) C dX5_isToldSo_71 cb_17 ?_
        refine g_iload_n (pc := 73) C dX5_isToldSo_73 rfl 3 rfl ?_
        refine g_iadd (pc := 74) C dX5_isToldSo_74 ?_
        obtain ⟨xq9, h⟩ := iC h
        refine g_iald (pc := 75) C dX5_isToldSo_75 rfl (ivp xq9 rfl) (j := (17 + xa3 : Int32).toNatClampNeg) rfl ?_
        refine g_goto (pc := 76) C dX5_isToldSo_76 (tgt := 89) rfl ?_
        obtain ⟨xq10, h⟩ := iC h
        refine g_iast (pc := 89) C dX5_isToldSo_89 rfl (ivp xq10 rfl) (j := (17 + xa3 : Int32).toNatClampNeg) rfl ?_
        refine g_letS h (fun xσ11 h => ?_)
        refine g_iinc (lv' := [(3, .int (xa3 + 1)), (0, .ref (yad y (xa0))), (1, .int (xa1)), (2, .int (xa2))]) (w := xa3 + 1) (pc := 90) C dX5_isToldSo_90 (k := 3) rfl rfl (Nat.le_of_ble_eq_true rfl) rfl ?_
        refine g_goto (pc := 93) C dX5_isToldSo_93 (tgt := 34) rfl ?_
        refine g_sub (lv' := [(0, .ref (yad y (xa0))), (1, .int (xa1)), (2, .int (xa2)), (3, .int (xa3 + 1))]) C [1, 2, 3, 0] rfl ?_
        exact xH34 xa0 xa1 xa2 (xa3 + 1) xσ11 h
theorem l_X5_isToldSo_34 {x : XT} {y : YT} {Z : State → Prop} (C : Cx x y (AY y) RX5 cX5_isToldSo 4 rm_X5_isToldSo) {r : Unit} {σ' : Sto} (hr : RetV x y (AY y) 4 cX5_isToldSo Z r σ') (n : Nat) (xa0 : Nat) (xa1 : Int32) (xa2 : Int32) (xa3 : Int32) (σ : Sto) (h : lo4 (F_X5_isToldSo_b34) n xa0 xa1 xa2 xa3 σ = some (r, σ')) : GW x y (AY y) 4 Z 34 [(0, .ref (yad y (xa0))), (1, .int (xa1)), (2, .int (xa2)), (3, .int (xa3))] [] σ :=
  lo4_gw (G := fun xa0 xa1 xa2 xa3 σ => GW x y (AY y) 4 Z 34 [(0, .ref (yad y (xa0))), (1, .int (xa1)), (2, .int (xa2)), (3, .int (xa3))] [] σ) (fun xk xHk xa0 xa1 xa2 xa3 σ h => b_X5_isToldSo_34 C hr xk xHk xa0 xa1 xa2 xa3 σ h) n xa0 xa1 xa2 xa3 σ h
set_option maxHeartbeats 4000000 in
set_option maxRecDepth 20000 in
theorem b_X5_isToldSo_0 {x : XT} {y : YT} {Z : State → Prop} (C : Cx x y (AY y) RX5 cX5_isToldSo 4 rm_X5_isToldSo) {r : Unit} {σ' : Sto} (hr : RetV x y (AY y) 4 cX5_isToldSo Z r σ') (xa0 : Nat) (xa1 : Int32) (σ : Sto) (h : F_X5_isToldSo xa0 xa1 σ = some (r, σ')) : GW x y (AY y) 4 Z 0 [(0, .ref (yad y (xa0))), (1, .int (xa1))] [] σ := by
  unfold F_X5_isToldSo at h
  refine g_aload_n (pc := 0) C dX5_isToldSo_0 rfl 0 rfl ?_
  obtain ⟨xq1, h⟩ := iC h
  have xq1 := keq xq1
  refine gf_5_15 (pc := 1) C wf_X5_45 dX5_isToldSo_1 xq1 ?_
  refine g_iload_n (pc := 4) C dX5_isToldSo_4 rfl 1 rfl ?_
  obtain ⟨xq2, h⟩ := iC h
  refine g_iald (pc := 5) C dX5_isToldSo_5 rfl (ivp xq2 rfl) (j := xa1.toNatClampNeg) rfl ?_
  refine g_letI h (fun xv3 h => ?_)
  refine g_istore_n (i := 2) (lv' := [(2, .int (xv3)), (0, .ref (yad y (xa0))), (1, .int (xa1))]) (pc := 6) C dX5_isToldSo_6 rfl (Nat.le_of_ble_eq_true rfl) rfl ?_
  refine g_iload_n (pc := 7) C dX5_isToldSo_7 rfl 0 rfl ?_
  refine g_bipush (v := 11) (pc := 8) C dX5_isToldSo_8 cb_11 ?_
  refine g_icmp_lt (pc := 10) C dX5_isToldSo_10 (tgt := 32) rfl (fun xq4 => ?_) (fun xq4 => ?_)
  · have h := iP xq4 h
    refine g_iconst (v := 0) (pc := 32) C dX5_isToldSo_32 ci_0 ?_
    refine g_istore_n (i := 3) (lv' := [(3, .int (0)), (2, .int (xv3)), (0, .ref (yad y (xa0))), (1, .int (xa1))]) (pc := 33) C dX5_isToldSo_33 rfl (Nat.le_of_ble_eq_true rfl) rfl ?_
    refine g_sub (lv' := [(0, .ref (yad y (xa0))), (1, .int (xa1)), (2, .int (xv3)), (3, .int (0))]) C [2, 3, 1, 0] rfl ?_
    exact l_X5_isToldSo_34 C hr 1000 xa0 xa1 xv3 0 σ h
  · have h := iN xq4 h
    refine g_aload_n (pc := 13) C dX5_isToldSo_13 rfl 1 rfl ?_
    refine gf_5_0 (pc := 14) C wf_X5_9 dX5_isToldSo_14 xq1 ?_
    refine g_iconst (v := 3) (pc := 17) C dX5_isToldSo_17 ci_3 ?_
    refine g_iload_n (pc := 18) C dX5_isToldSo_18 rfl 0 rfl ?_
    refine g_iadd (pc := 19) C dX5_isToldSo_19 ?_
    refine g_bipush (v := 11) (pc := 20) C dX5_isToldSo_20 cb_11 ?_
    refine g_isub (pc := 22) C dX5_isToldSo_22 ?_
    refine g_aload_n (pc := 23) C dX5_isToldSo_23 rfl 1 rfl ?_
    refine gf_5_15 (pc := 24) C wf_X5_45 dX5_isToldSo_24 xq1 ?_
    refine g_iload_n (pc := 27) C dX5_isToldSo_27 rfl 2 rfl ?_
    refine g_iconst (v := 1) (pc := 28) C dX5_isToldSo_28 ci_1 ?_
    refine g_iadd (pc := 29) C dX5_isToldSo_29 ?_
    obtain ⟨xq5, h⟩ := iC h
    refine g_iald (pc := 30) C dX5_isToldSo_30 rfl (ivp xq5 rfl) (j := (xa1 + 1 : Int32).toNatClampNeg) rfl ?_
    obtain ⟨xq6, h⟩ := iC h
    refine g_iast (pc := 31) C dX5_isToldSo_31 rfl (ivp xq6 rfl) (j := ((3 + xv3) - 11 : Int32).toNatClampNeg) rfl ?_
    refine g_letS h (fun xσ7 h => ?_)
    refine g_iconst (v := 0) (pc := 32) C dX5_isToldSo_32 ci_0 ?_
    refine g_istore_n (i := 3) (lv' := [(3, .int (0)), (2, .int (xv3)), (0, .ref (yad y (xa0))), (1, .int (xa1))]) (pc := 33) C dX5_isToldSo_33 rfl (Nat.le_of_ble_eq_true rfl) rfl ?_
    refine g_sub (lv' := [(0, .ref (yad y (xa0))), (1, .int (xa1)), (2, .int (xv3)), (3, .int (0))]) C [2, 3, 1, 0] rfl ?_
    exact l_X5_isToldSo_34 C hr 1000 xa0 xa1 xv3 0 xσ7 h
theorem c_X5_isToldSo (l : Launch) (y : YT) (xa0 : Nat) (xa1 : Int32) (σ σ' : Sto) (r : Unit) (h : F_X5_isToldSo xa0 xa1 σ = some (r, σ')) : MV l y yX5_isToldSo (Cond.code yX5_isToldSo cX5_isToldSo 4 none :: TT) rm_X5_isToldSo [.ref (yad y (xa0)), .int (xa1)] σ r σ' :=
  mkV (by decide) rfl rfl rfl (Nat.le_of_ble_eq_true rfl) (fun x Z C hr => b_X5_isToldSo_0 C hr xa0 xa1 σ h)
def rm_X5_text : Room := { frames := 10, cells := 0, slots := 0, locals := 250 }
def F_X5_text_b111 (xk_111 : Nat → Int32 → Sto → Option (Int32 × Sto)) (xa0 : Nat) (xa1 : Int32) (σ : Sto) : Option (Int32 × Sto) := ck (kd (xa0) == 5) (if (σ xa0 16) ≤ xa1 then some (σ xa0 16, σ) else bnd (F_X5_isToldSo (xa0) (7 * xa1) σ) (fun xr5 xσ3 => xk_111 xa0 (xa1 + 1) xσ3))
def F_X5_text_b87 (xa0 : Nat) (xs0 : Int32) (xs1 : Nat) (σ : Sto) : Option (Int32 × Sto) := ck (kd (xs1) == 5) (bnd (F_X5_must (xs1) (xs0) σ) (fun xr4 xσ1 => ck (kd (xa0) == 5) (lts (up2 xσ1 (xa0) 8 (0)) (fun xσ6 => if (xσ6 xa0 13) = 0 then lo2 (F_X5_text_b111) 1000 xa0 0 xσ6 else some ((-1) - (xσ6 xa0 9), xσ6)))))
def F_X5_text_b74 (xa0 : Nat) (σ : Sto) : Option (Int32 × Sto) := ck (kd (xa0) == 5) (if (σ xa0 11) = 0 then F_X5_text_b87 xa0 1 xa0 σ else F_X5_text_b87 xa0 0 xa0 σ)
def F_X5_text_b33 (xk_33 : Nat → Sto → Option (Int32 × Sto)) (xa0 : Nat) (σ : Sto) : Option (Int32 × Sto) := ck (kd (xa0) == 5) (if (σ xa0 13) = 0 then if (σ xa0 11) = 3 then ck (inr (σ xa0 9) (120)) (if (σ 54 ((σ xa0 9 : Int32).toNatClampNeg)) = 59 then bnd (F_X5_must (xa0) 1 σ) (fun xr8 xσ6 => bnd (F_X5_readItem (xa0) xσ6) (fun xr11 xσ9 => xk_33 xa0 xσ9)) else F_X5_text_b74 xa0 σ) else F_X5_text_b74 xa0 σ else F_X5_text_b74 xa0 σ)
def F_X5_text (xa0 : Nat) (σ : Sto) : Option (Int32 × Sto) := ck (kd (xa0) == 5) (lts (up2 σ (xa0) 10 (0)) (fun xσ2 => lts (up2 xσ2 (xa0) 13 (0)) (fun xσ3 => lts (up2 xσ3 (xa0) 16 (0)) (fun xσ4 => lts (up2 xσ4 (xa0) 17 (xσ4 50 1)) (fun xσ5 => bnd (F_X5_token (xa0) xσ5) (fun xr8 xσ6 => bnd (F_X5_readItem (xa0) xσ6) (fun xr11 xσ9 => lo1 (F_X5_text_b33) 1000 xa0 xσ9)))))))
set_option maxHeartbeats 4000000 in
set_option maxRecDepth 20000 in
theorem b_X5_text_111 {x : XT} {y : YT} {Z : State → Prop} (C : Cx x y (AY y) RX5 cX5_text 2 rm_X5_text) {r : Int32} {σ' : Sto} (hr : RetI x y (AY y) 2 cX5_text Z r σ') (xk_111 : Nat → Int32 → Sto → Option (Int32 × Sto)) (xH111 : ∀ (xa0 : Nat) (xa1 : Int32) (σ : Sto), xk_111 xa0 xa1 σ = some (r, σ') → GW x y (AY y) 2 Z 111 [(0, .ref (yad y (xa0))), (1, .int (xa1))] [] σ) (xa0 : Nat) (xa1 : Int32) (σ : Sto) (h : F_X5_text_b111 xk_111 xa0 xa1 σ = some (r, σ')) : GW x y (AY y) 2 Z 111 [(0, .ref (yad y (xa0))), (1, .int (xa1))] [] σ := by
  unfold F_X5_text_b111 at h
  refine g_iload_n (pc := 111) C dX5_text_111 rfl 1 rfl ?_
  refine g_aload_n (pc := 112) C dX5_text_112 rfl 0 rfl ?_
  obtain ⟨xq1, h⟩ := iC h
  have xq1 := keq xq1
  refine gf_5_16 (pc := 113) C wf_X5_274 dX5_text_113 xq1 ?_
  refine g_icmp_ge (pc := 116) C dX5_text_116 (tgt := 133) rfl (fun xq2 => ?_) (fun xq2 => ?_)
  · have h := iP xq2 h
    refine g_aload_n (pc := 133) C dX5_text_133 rfl 0 rfl ?_
    refine gf_5_16 (pc := 134) C wf_X5_274 dX5_text_134 xq1 ?_
    exact rtI hr dX5_text_137 h
  · have h := iN xq2 h
    refine g_aload_n (pc := 119) C dX5_text_119 rfl 0 rfl ?_
    refine g_bipush (v := 7) (pc := 120) C dX5_text_120 cb_7 ?_
    refine g_iload_n (pc := 122) C dX5_text_122 rfl 1 rfl ?_
    refine g_imul (pc := 123) C dX5_text_123 ?_
    obtain ⟨xr5, xσ3, xc4, h⟩ := iB h
    refine g_callVv (pc := 124) (As := [.int (7 * xa1)]) (rest := []) C dX5_text_124 (fun l => c_X5_isToldSo l y _ _ _ _ _ xc4) cv_X5_325 ⟨rfl, rfl, Nat.le_of_ble_eq_true rfl, Nat.le_of_ble_eq_true rfl⟩ (rv5 xq1) rfl (Nat.le_of_ble_eq_true rfl) ?_
    refine g_iinc (lv' := [(1, .int (xa1 + 1)), (0, .ref (yad y (xa0)))]) (w := xa1 + 1) (pc := 127) C dX5_text_127 (k := 1) rfl rfl (Nat.le_of_ble_eq_true rfl) rfl ?_
    refine g_goto (pc := 130) C dX5_text_130 (tgt := 111) rfl ?_
    refine g_sub (lv' := [(0, .ref (yad y (xa0))), (1, .int (xa1 + 1))]) C [1, 0] rfl ?_
    exact xH111 xa0 (xa1 + 1) xσ3 h
theorem l_X5_text_111 {x : XT} {y : YT} {Z : State → Prop} (C : Cx x y (AY y) RX5 cX5_text 2 rm_X5_text) {r : Int32} {σ' : Sto} (hr : RetI x y (AY y) 2 cX5_text Z r σ') (n : Nat) (xa0 : Nat) (xa1 : Int32) (σ : Sto) (h : lo2 (F_X5_text_b111) n xa0 xa1 σ = some (r, σ')) : GW x y (AY y) 2 Z 111 [(0, .ref (yad y (xa0))), (1, .int (xa1))] [] σ :=
  lo2_gw (G := fun xa0 xa1 σ => GW x y (AY y) 2 Z 111 [(0, .ref (yad y (xa0))), (1, .int (xa1))] [] σ) (fun xk xHk xa0 xa1 σ h => b_X5_text_111 C hr xk xHk xa0 xa1 σ h) n xa0 xa1 σ h
set_option maxHeartbeats 4000000 in
set_option maxRecDepth 20000 in
theorem b_X5_text_87 {x : XT} {y : YT} {Z : State → Prop} (C : Cx x y (AY y) RX5 cX5_text 2 rm_X5_text) {r : Int32} {σ' : Sto} (hr : RetI x y (AY y) 2 cX5_text Z r σ') (xa0 : Nat) (xs0 : Int32) (xs1 : Nat) (σ : Sto) (h : F_X5_text_b87 xa0 xs0 xs1 σ = some (r, σ')) : GW x y (AY y) 2 Z 87 [(0, .ref (yad y (xa0)))] [.int (xs0), .ref (yad y (xs1))] σ := by
  unfold F_X5_text_b87 at h
  obtain ⟨xq3, h⟩ := iC h
  have xq3 := keq xq3
  obtain ⟨xr4, xσ1, xc2, h⟩ := iB h
  refine g_callVv (pc := 87) (As := [.int (xs0)]) (rest := []) C dX5_text_87 (fun l => c_X5_must l y _ _ _ _ _ xc2) cv_X5_270 ⟨rfl, rfl, Nat.le_of_ble_eq_true rfl, Nat.le_of_ble_eq_true rfl⟩ (rv5 xq3) rfl (Nat.le_of_ble_eq_true rfl) ?_
  refine g_aload_n (pc := 90) C dX5_text_90 rfl 0 rfl ?_
  refine g_iconst (v := 0) (pc := 91) C dX5_text_91 ci_0 ?_
  obtain ⟨xq5, h⟩ := iC h
  have xq5 := keq xq5
  refine gp_5_8 (pc := 92) C wf_X5_238 dX5_text_92 xq5 ?_
  refine g_letS h (fun xσ6 h => ?_)
  refine g_aload_n (pc := 95) C dX5_text_95 rfl 0 rfl ?_
  refine gf_5_13 (pc := 96) C wf_X5_263 dX5_text_96 xq5 ?_
  refine g_if_eq (pc := 99) C dX5_text_99 (tgt := 109) rfl (fun xq7 => ?_) (fun xq7 => ?_)
  · have h := iP xq7 h
    refine g_iconst (v := 0) (pc := 109) C dX5_text_109 ci_0 ?_
    refine g_istore_n (i := 1) (lv' := [(1, .int (0)), (0, .ref (yad y (xa0)))]) (pc := 110) C dX5_text_110 rfl (Nat.le_of_ble_eq_true rfl) rfl ?_
    refine g_sub (lv' := [(0, .ref (yad y (xa0))), (1, .int (0))]) C [1, 0] rfl ?_
    exact l_X5_text_111 C hr 1000 xa0 0 xσ6 h
  · have h := iN xq7 h
    refine g_iconst (v := (-1)) (pc := 102) C dX5_text_102 ci_m1 ?_
    refine g_aload_n (pc := 103) C dX5_text_103 rfl 0 rfl ?_
    refine gf_5_9 (pc := 104) C wf_X5_244 dX5_text_104 xq5 ?_
    refine g_isub (pc := 107) C dX5_text_107 ?_
    exact rtI hr dX5_text_108 h
set_option maxHeartbeats 4000000 in
set_option maxRecDepth 20000 in
theorem b_X5_text_74 {x : XT} {y : YT} {Z : State → Prop} (C : Cx x y (AY y) RX5 cX5_text 2 rm_X5_text) {r : Int32} {σ' : Sto} (hr : RetI x y (AY y) 2 cX5_text Z r σ') (xa0 : Nat) (σ : Sto) (h : F_X5_text_b74 xa0 σ = some (r, σ')) : GW x y (AY y) 2 Z 74 [(0, .ref (yad y (xa0)))] [] σ := by
  unfold F_X5_text_b74 at h
  refine g_aload_n (pc := 74) C dX5_text_74 rfl 0 rfl ?_
  refine g_aload_n (pc := 75) C dX5_text_75 rfl 0 rfl ?_
  obtain ⟨xq1, h⟩ := iC h
  have xq1 := keq xq1
  refine gf_5_11 (pc := 76) C wf_X5_253 dX5_text_76 xq1 ?_
  refine g_if_ne (pc := 79) C dX5_text_79 (tgt := 86) rfl (fun xq2 => ?_) (fun xq2 => ?_)
  · have h := iN xq2 h
    refine g_iconst (v := 0) (pc := 86) C dX5_text_86 ci_0 ?_
    exact b_X5_text_87 C hr xa0 0 xa0 σ h
  · have h := iP xq2 h
    refine g_iconst (v := 1) (pc := 82) C dX5_text_82 ci_1 ?_
    refine g_goto (pc := 83) C dX5_text_83 (tgt := 87) rfl ?_
    exact b_X5_text_87 C hr xa0 1 xa0 σ h
set_option maxHeartbeats 4000000 in
set_option maxRecDepth 20000 in
theorem b_X5_text_33 {x : XT} {y : YT} {Z : State → Prop} (C : Cx x y (AY y) RX5 cX5_text 2 rm_X5_text) {r : Int32} {σ' : Sto} (hr : RetI x y (AY y) 2 cX5_text Z r σ') (xk_33 : Nat → Sto → Option (Int32 × Sto)) (xH33 : ∀ (xa0 : Nat) (σ : Sto), xk_33 xa0 σ = some (r, σ') → GW x y (AY y) 2 Z 33 [(0, .ref (yad y (xa0)))] [] σ) (xa0 : Nat) (σ : Sto) (h : F_X5_text_b33 xk_33 xa0 σ = some (r, σ')) : GW x y (AY y) 2 Z 33 [(0, .ref (yad y (xa0)))] [] σ := by
  unfold F_X5_text_b33 at h
  refine g_aload_n (pc := 33) C dX5_text_33 rfl 0 rfl ?_
  obtain ⟨xq1, h⟩ := iC h
  have xq1 := keq xq1
  refine gf_5_13 (pc := 34) C wf_X5_263 dX5_text_34 xq1 ?_
  refine g_if_ne (pc := 37) C dX5_text_37 (tgt := 74) rfl (fun xq2 => ?_) (fun xq2 => ?_)
  · have h := iN xq2 h
    exact b_X5_text_74 C hr xa0 σ h
  · have h := iP xq2 h
    refine g_aload_n (pc := 40) C dX5_text_40 rfl 0 rfl ?_
    refine gf_5_11 (pc := 41) C wf_X5_253 dX5_text_41 xq1 ?_
    refine g_iconst (v := 3) (pc := 44) C dX5_text_44 ci_3 ?_
    refine g_icmp_ne (pc := 45) C dX5_text_45 (tgt := 74) rfl (fun xq3 => ?_) (fun xq3 => ?_)
    · have h := iN xq3 h
      exact b_X5_text_74 C hr xa0 σ h
    · have h := iP xq3 h
      refine g_aload_n (pc := 48) C dX5_text_48 rfl 0 rfl ?_
      refine gf_5_7 (pc := 49) C wf_X5_22 dX5_text_49 xq1 ?_
      refine g_aload_n (pc := 52) C dX5_text_52 rfl 0 rfl ?_
      refine gf_5_9 (pc := 53) C wf_X5_244 dX5_text_53 xq1 ?_
      obtain ⟨xq4, h⟩ := iC h
      refine g_iald (pc := 56) C dX5_text_56 rfl (ivp xq4 rfl) (j := (σ xa0 9 : Int32).toNatClampNeg) rfl ?_
      refine g_bipush (v := 59) (pc := 57) C dX5_text_57 cb_59 ?_
      refine g_icmp_ne (pc := 59) C dX5_text_59 (tgt := 74) rfl (fun xq5 => ?_) (fun xq5 => ?_)
      · have h := iN xq5 h
        exact b_X5_text_74 C hr xa0 σ h
      · have h := iP xq5 h
        refine g_aload_n (pc := 62) C dX5_text_62 rfl 0 rfl ?_
        refine g_iconst (v := 1) (pc := 63) C dX5_text_63 ci_1 ?_
        obtain ⟨xr8, xσ6, xc7, h⟩ := iB h
        refine g_callVv (pc := 64) (As := [.int (1)]) (rest := []) C dX5_text_64 (fun l => c_X5_must l y _ _ _ _ _ xc7) cv_X5_270 ⟨rfl, rfl, Nat.le_of_ble_eq_true rfl, Nat.le_of_ble_eq_true rfl⟩ (rv5 xq1) rfl (Nat.le_of_ble_eq_true rfl) ?_
        refine g_aload_n (pc := 67) C dX5_text_67 rfl 0 rfl ?_
        obtain ⟨xr11, xσ9, xc10, h⟩ := iB h
        refine g_callVv (pc := 68) (As := []) (rest := []) C dX5_text_68 (fun l => c_X5_readItem l y _ _ _ _ xc10) cv_X5_322 ⟨rfl, rfl, Nat.le_of_ble_eq_true rfl, Nat.le_of_ble_eq_true rfl⟩ (rv5 xq1) rfl (Nat.le_of_ble_eq_true rfl) ?_
        refine g_goto (pc := 71) C dX5_text_71 (tgt := 33) rfl ?_
        exact xH33 xa0 xσ9 h
theorem l_X5_text_33 {x : XT} {y : YT} {Z : State → Prop} (C : Cx x y (AY y) RX5 cX5_text 2 rm_X5_text) {r : Int32} {σ' : Sto} (hr : RetI x y (AY y) 2 cX5_text Z r σ') (n : Nat) (xa0 : Nat) (σ : Sto) (h : lo1 (F_X5_text_b33) n xa0 σ = some (r, σ')) : GW x y (AY y) 2 Z 33 [(0, .ref (yad y (xa0)))] [] σ :=
  lo1_gw (G := fun xa0 σ => GW x y (AY y) 2 Z 33 [(0, .ref (yad y (xa0)))] [] σ) (fun xk xHk xa0 σ h => b_X5_text_33 C hr xk xHk xa0 σ h) n xa0 σ h
set_option maxHeartbeats 4000000 in
set_option maxRecDepth 20000 in
theorem b_X5_text_0 {x : XT} {y : YT} {Z : State → Prop} (C : Cx x y (AY y) RX5 cX5_text 2 rm_X5_text) {r : Int32} {σ' : Sto} (hr : RetI x y (AY y) 2 cX5_text Z r σ') (xa0 : Nat) (σ : Sto) (h : F_X5_text xa0 σ = some (r, σ')) : GW x y (AY y) 2 Z 0 [(0, .ref (yad y (xa0)))] [] σ := by
  unfold F_X5_text at h
  refine g_aload_n (pc := 0) C dX5_text_0 rfl 0 rfl ?_
  refine g_iconst (v := 0) (pc := 1) C dX5_text_1 ci_0 ?_
  obtain ⟨xq1, h⟩ := iC h
  have xq1 := keq xq1
  refine gp_5_10 (pc := 2) C wf_X5_241 dX5_text_2 xq1 ?_
  refine g_letS h (fun xσ2 h => ?_)
  refine g_aload_n (pc := 5) C dX5_text_5 rfl 0 rfl ?_
  refine g_iconst (v := 0) (pc := 6) C dX5_text_6 ci_0 ?_
  refine gp_5_13 (pc := 7) C wf_X5_263 dX5_text_7 xq1 (by decide) ?_
  refine g_letS h (fun xσ3 h => ?_)
  refine g_aload_n (pc := 10) C dX5_text_10 rfl 0 rfl ?_
  refine g_iconst (v := 0) (pc := 11) C dX5_text_11 ci_0 ?_
  refine gp_5_16 (pc := 12) C wf_X5_274 dX5_text_12 xq1 ?_
  refine g_letS h (fun xσ4 h => ?_)
  refine g_aload_n (pc := 15) C dX5_text_15 rfl 0 rfl ?_
  refine g_aload_n (pc := 16) C dX5_text_16 rfl 0 rfl ?_
  refine gf_5_0 (pc := 17) C wf_X5_9 dX5_text_17 xq1 ?_
  refine g_iconst (v := 1) (pc := 20) C dX5_text_20 ci_1 ?_
  refine g_iald (pc := 21) C dX5_text_21 rfl (ivp (by decide) rfl) (j := 1) ct_1 ?_
  refine gp_5_17 (pc := 22) C wf_X5_284 dX5_text_22 xq1 ?_
  refine g_letS h (fun xσ5 h => ?_)
  refine g_aload_n (pc := 25) C dX5_text_25 rfl 0 rfl ?_
  obtain ⟨xr8, xσ6, xc7, h⟩ := iB h
  refine g_callVv (pc := 26) (As := []) (rest := []) C dX5_text_26 (fun l => c_X5_token l y _ _ _ _ xc7) cv_X5_267 ⟨rfl, rfl, Nat.le_of_ble_eq_true rfl, Nat.le_of_ble_eq_true rfl⟩ (rv5 xq1) rfl (Nat.le_of_ble_eq_true rfl) ?_
  refine g_aload_n (pc := 29) C dX5_text_29 rfl 0 rfl ?_
  obtain ⟨xr11, xσ9, xc10, h⟩ := iB h
  refine g_callVv (pc := 30) (As := []) (rest := []) C dX5_text_30 (fun l => c_X5_readItem l y _ _ _ _ xc10) cv_X5_322 ⟨rfl, rfl, Nat.le_of_ble_eq_true rfl, Nat.le_of_ble_eq_true rfl⟩ (rv5 xq1) rfl (Nat.le_of_ble_eq_true rfl) ?_
  exact l_X5_text_33 C hr 1000 xa0 xσ9 h
theorem c_X5_text (l : Launch) (y : YT) (xa0 : Nat) (σ σ' : Sto) (r : Int32) (h : F_X5_text xa0 σ = some (r, σ')) : MI l y yX5_text (Cond.code yX5_text cX5_text 2 (some .int) :: TT) rm_X5_text [.ref (yad y (xa0))] σ r σ' :=
  mkI (by decide) rfl rfl rfl (Nat.le_of_ble_eq_true rfl) (fun x Z C hr => b_X5_text_0 C hr xa0 σ h)
def rm_X5_isSpot : Room := { frames := 1, cells := 0, slots := 0, locals := 22 }
def F_X5_isSpot (xa0 : Int32) (σ : Sto) : Option (Int32 × Sto) := bnd (F_X5_within (xa0) 0 9 σ) (fun xr3 xσ1 => ck (z01 (xr3)) (some (xr3, xσ1)))
set_option maxHeartbeats 4000000 in
set_option maxRecDepth 20000 in
theorem b_X5_isSpot_0 {x : XT} {y : YT} {Z : State → Prop} (C : Cx x y (AY y) RX5 cX5_isSpot 1 rm_X5_isSpot) {r : Int32} {σ' : Sto} (hr : RetZ x y (AY y) 1 cX5_isSpot Z r σ') (xa0 : Int32) (σ : Sto) (h : F_X5_isSpot xa0 σ = some (r, σ')) : GW x y (AY y) 1 Z 0 [(0, .int (xa0))] [] σ := by
  unfold F_X5_isSpot at h
  refine g_iload_n (pc := 0) C dX5_isSpot_0 rfl 0 rfl ?_
  refine g_iconst (v := 0) (pc := 1) C dX5_isSpot_1 ci_0 ?_
  refine g_bipush (v := 9) (pc := 2) C dX5_isSpot_2 cb_9 ?_
  obtain ⟨xr3, xσ1, xc2, h⟩ := iB h
  refine g_callSi (pc := 4) (As := [.int (xa0), .int (0), .int (9)]) (rest := []) C dX5_isSpot_4 (fun l => c_X5_within l y _ _ _ _ _ _ xc2) cv_X5_70 ⟨rfl, rfl, Nat.le_of_ble_eq_true rfl, Nat.le_of_ble_eq_true rfl⟩ rfl (Nat.le_of_ble_eq_true rfl) ?_
  obtain ⟨xz, h⟩ := iC h
  exact rtZ hr dX5_isSpot_7 (z01_or xz) h
theorem c_X5_isSpot (l : Launch) (y : YT) (xa0 : Int32) (σ σ' : Sto) (r : Int32) (h : F_X5_isSpot xa0 σ = some (r, σ')) : MI l y yX5_isSpot (Cond.code yX5_isSpot cX5_isSpot 1 (some .boolean) :: TT) rm_X5_isSpot [.int (xa0)] σ r σ' :=
  mkZ (by decide) rfl rfl rfl (Nat.le_of_ble_eq_true rfl) (fun x Z C hr => b_X5_isSpot_0 C hr xa0 σ h)
def rm_X5_hold : Room := { frames := 2, cells := 0, slots := 0, locals := 43 }
def F_X5_hold_b27 (xa0 : Nat) (xa1 : Int32) (xa2 : Int32) (σ : Sto) : Option (Int32 × Sto) := ck (kd (xa0) == 5) (ck (inr (7 + xa1) (79)) (lts (up2 σ 50 ((7 + xa1 : Int32).toNatClampNeg) (xa2)) (fun xσ3 => some (1, xσ3))))
def F_X5_hold (xa0 : Nat) (xa1 : Int32) (xa2 : Int32) (σ : Sto) : Option (Int32 × Sto) := bnd (F_X5_isSpot (xa1) σ) (fun xr3 xσ1 => if (xr3) = 0 then ck (kd (xa0) == 5) (bnd (F_X5_finding (xa0) (-1000001) xσ1) (fun xr8 xσ5 => some (xr8, xσ5))) else if xa2 = (-1) then F_X5_hold_b27 xa0 xa1 xa2 xσ1 else ck (kd (xa0) == 5) (bnd (F_X5_isSitter (xa0) (xa2) xσ1) (fun xr13 xσ10 => if (xr13) = 0 then bnd (F_X5_finding (xa0) (-1000001) xσ10) (fun xr17 xσ15 => some (xr17, xσ15)) else F_X5_hold_b27 xa0 xa1 xa2 xσ10)))
set_option maxHeartbeats 4000000 in
set_option maxRecDepth 20000 in
theorem b_X5_hold_27 {x : XT} {y : YT} {Z : State → Prop} (C : Cx x y (AY y) RX5 cX5_hold 3 rm_X5_hold) {r : Int32} {σ' : Sto} (hr : RetI x y (AY y) 3 cX5_hold Z r σ') (xa0 : Nat) (xa1 : Int32) (xa2 : Int32) (σ : Sto) (h : F_X5_hold_b27 xa0 xa1 xa2 σ = some (r, σ')) : GW x y (AY y) 3 Z 27 [(0, .ref (yad y (xa0))), (1, .int (xa1)), (2, .int (xa2))] [] σ := by
  unfold F_X5_hold_b27 at h
  refine g_aload_n (pc := 27) C dX5_hold_27 rfl 0 rfl ?_
  obtain ⟨xq1, h⟩ := iC h
  have xq1 := keq xq1
  refine gf_5_0 (pc := 28) C wf_X5_9 dX5_hold_28 xq1 ?_
  refine g_bipush (v := 7) (pc := 31) C dX5_hold_31 cb_7 ?_
  refine g_iload_n (pc := 33) C dX5_hold_33 rfl 1 rfl ?_
  refine g_iadd (pc := 34) C dX5_hold_34 ?_
  refine g_iload_n (pc := 35) C dX5_hold_35 rfl 2 rfl ?_
  obtain ⟨xq2, h⟩ := iC h
  refine g_iast (pc := 36) C dX5_hold_36 rfl (ivp xq2 rfl) (j := (7 + xa1 : Int32).toNatClampNeg) rfl ?_
  refine g_letS h (fun xσ3 h => ?_)
  refine g_iconst (v := 1) (pc := 37) C dX5_hold_37 ci_1 ?_
  exact rtI hr dX5_hold_38 h
set_option maxHeartbeats 4000000 in
set_option maxRecDepth 20000 in
theorem b_X5_hold_0 {x : XT} {y : YT} {Z : State → Prop} (C : Cx x y (AY y) RX5 cX5_hold 3 rm_X5_hold) {r : Int32} {σ' : Sto} (hr : RetI x y (AY y) 3 cX5_hold Z r σ') (xa0 : Nat) (xa1 : Int32) (xa2 : Int32) (σ : Sto) (h : F_X5_hold xa0 xa1 xa2 σ = some (r, σ')) : GW x y (AY y) 3 Z 0 [(0, .ref (yad y (xa0))), (1, .int (xa1)), (2, .int (xa2))] [] σ := by
  unfold F_X5_hold at h
  refine g_iload_n (pc := 0) C dX5_hold_0 rfl 1 rfl ?_
  obtain ⟨xr3, xσ1, xc2, h⟩ := iB h
  refine g_callSi (pc := 1) (As := [.int (xa1)]) (rest := []) C dX5_hold_1 (fun l => c_X5_isSpot l y _ _ _ _ xc2) cv_X5_328 ⟨rfl, rfl, Nat.le_of_ble_eq_true rfl, Nat.le_of_ble_eq_true rfl⟩ rfl (Nat.le_of_ble_eq_true rfl) ?_
  refine g_if_eq (pc := 4) C dX5_hold_4 (tgt := 20) rfl (fun xq4 => ?_) (fun xq4 => ?_)
  · have h := iP xq4 h
    refine g_aload_n (pc := 20) C dX5_hold_20 rfl 0 rfl ?_
    refine g_ldc (v := (-1000001)) (pc := 21) C dX5_hold_21 wk_X5_60 ?_
    obtain ⟨xq7, h⟩ := iC h
    have xq7 := keq xq7
    obtain ⟨xr8, xσ5, xc6, h⟩ := iB h
    refine g_callVi (pc := 23) (As := [.int ((-1000001))]) (rest := []) C dX5_hold_23 (fun l => c_X5_finding l y _ _ _ _ _ xc6) cv_X5_66 ⟨rfl, rfl, Nat.le_of_ble_eq_true rfl, Nat.le_of_ble_eq_true rfl⟩ (rv5 xq7) rfl (Nat.le_of_ble_eq_true rfl) ?_
    exact rtI hr dX5_hold_26 h
  · have h := iN xq4 h
    refine g_iload_n (pc := 7) C dX5_hold_7 rfl 2 rfl ?_
    refine g_iconst (v := (-1)) (pc := 8) C dX5_hold_8 ci_m1 ?_
    refine g_icmp_eq (pc := 9) C dX5_hold_9 (tgt := 27) rfl (fun xq9 => ?_) (fun xq9 => ?_)
    · have h := iP xq9 h
      exact b_X5_hold_27 C hr xa0 xa1 xa2 xσ1 h
    · have h := iN xq9 h
      refine g_aload_n (pc := 12) C dX5_hold_12 rfl 0 rfl ?_
      refine g_iload_n (pc := 13) C dX5_hold_13 rfl 2 rfl ?_
      obtain ⟨xq12, h⟩ := iC h
      have xq12 := keq xq12
      obtain ⟨xr13, xσ10, xc11, h⟩ := iB h
      refine g_callVi (pc := 14) (As := [.int (xa2)]) (rest := []) C dX5_hold_14 (fun l => c_X5_isSitter l y _ _ _ _ _ xc11) cv_X5_83 ⟨rfl, rfl, Nat.le_of_ble_eq_true rfl, Nat.le_of_ble_eq_true rfl⟩ (rv5 xq12) rfl (Nat.le_of_ble_eq_true rfl) ?_
      refine g_if_ne (pc := 17) C dX5_hold_17 (tgt := 27) rfl (fun xq14 => ?_) (fun xq14 => ?_)
      · have h := iN xq14 h
        exact b_X5_hold_27 C hr xa0 xa1 xa2 xσ10 h
      · have h := iP xq14 h
        refine g_aload_n (pc := 20) C dX5_hold_20 rfl 0 rfl ?_
        refine g_ldc (v := (-1000001)) (pc := 21) C dX5_hold_21 wk_X5_60 ?_
        obtain ⟨xr17, xσ15, xc16, h⟩ := iB h
        refine g_callVi (pc := 23) (As := [.int ((-1000001))]) (rest := []) C dX5_hold_23 (fun l => c_X5_finding l y _ _ _ _ _ xc16) cv_X5_66 ⟨rfl, rfl, Nat.le_of_ble_eq_true rfl, Nat.le_of_ble_eq_true rfl⟩ (rv5 xq12) rfl (Nat.le_of_ble_eq_true rfl) ?_
        exact rtI hr dX5_hold_26 h
theorem c_X5_hold (l : Launch) (y : YT) (xa0 : Nat) (xa1 : Int32) (xa2 : Int32) (σ σ' : Sto) (r : Int32) (h : F_X5_hold xa0 xa1 xa2 σ = some (r, σ')) : MI l y yX5_hold (Cond.code yX5_hold cX5_hold 3 (some .int) :: TT) rm_X5_hold [.ref (yad y (xa0)), .int (xa1), .int (xa2)] σ r σ' :=
  mkI (by decide) rfl rfl rfl (Nat.le_of_ble_eq_true rfl) (fun x Z C hr => b_X5_hold_0 C hr xa0 xa1 xa2 σ h)
def rm_X5_above : Room := { frames := 0, cells := 0, slots := 0, locals := 0 }
def F_X5_above (xa0 : Int32) (σ : Sto) : Option (Int32 × Sto) := if (xa0) = 0 then some ((-1), σ) else if xa0 = 3 then some (2, σ) else if xa0 = 4 then some (3, σ) else if xa0 = 6 then some (1, σ) else some (0, σ)
set_option maxHeartbeats 4000000 in
set_option maxRecDepth 20000 in
theorem b_X5_above_0 {x : XT} {y : YT} {Z : State → Prop} (C : Cx x y (AY y) RX5 cX5_above 1 rm_X5_above) {r : Int32} {σ' : Sto} (hr : RetI x y (AY y) 1 cX5_above Z r σ') (xa0 : Int32) (σ : Sto) (h : F_X5_above xa0 σ = some (r, σ')) : GW x y (AY y) 1 Z 0 [(0, .int (xa0))] [] σ := by
  unfold F_X5_above at h
  refine g_iload_n (pc := 0) C dX5_above_0 rfl 0 rfl ?_
  refine g_if_ne (pc := 1) C dX5_above_1 (tgt := 8) rfl (fun xq1 => ?_) (fun xq1 => ?_)
  · have h := iN xq1 h
    refine g_iload_n (pc := 8) C dX5_above_8 rfl 0 rfl ?_
    refine g_iconst (v := 3) (pc := 9) C dX5_above_9 ci_3 ?_
    refine g_icmp_ne (pc := 10) C dX5_above_10 (tgt := 17) rfl (fun xq2 => ?_) (fun xq2 => ?_)
    · have h := iN xq2 h
      refine g_iload_n (pc := 17) C dX5_above_17 rfl 0 rfl ?_
      refine g_iconst (v := 4) (pc := 18) C dX5_above_18 ci_4 ?_
      refine g_icmp_ne (pc := 19) C dX5_above_19 (tgt := 26) rfl (fun xq3 => ?_) (fun xq3 => ?_)
      · have h := iN xq3 h
        refine g_iload_n (pc := 26) C dX5_above_26 rfl 0 rfl ?_
        refine g_bipush (v := 6) (pc := 27) C dX5_above_27 cb_6 ?_
        refine g_icmp_ne (pc := 29) C dX5_above_29 (tgt := 36) rfl (fun xq4 => ?_) (fun xq4 => ?_)
        · have h := iN xq4 h
          refine g_iconst (v := 0) (pc := 36) C dX5_above_36 ci_0 ?_
          exact rtI hr dX5_above_37 h
        · have h := iP xq4 h
          refine g_iconst (v := 1) (pc := 32) C dX5_above_32 ci_1 ?_
          refine g_goto (pc := 33) C dX5_above_33 (tgt := 37) rfl ?_
          exact rtI hr dX5_above_37 h
      · have h := iP xq3 h
        refine g_iconst (v := 3) (pc := 22) C dX5_above_22 ci_3 ?_
        refine g_goto (pc := 23) C dX5_above_23 (tgt := 37) rfl ?_
        exact rtI hr dX5_above_37 h
    · have h := iP xq2 h
      refine g_iconst (v := 2) (pc := 13) C dX5_above_13 ci_2 ?_
      refine g_goto (pc := 14) C dX5_above_14 (tgt := 37) rfl ?_
      exact rtI hr dX5_above_37 h
  · have h := iP xq1 h
    refine g_iconst (v := (-1)) (pc := 4) C dX5_above_4 ci_m1 ?_
    refine g_goto (pc := 5) C dX5_above_5 (tgt := 37) rfl ?_
    exact rtI hr dX5_above_37 h
theorem c_X5_above (l : Launch) (y : YT) (xa0 : Int32) (σ σ' : Sto) (r : Int32) (h : F_X5_above xa0 σ = some (r, σ')) : MI l y yX5_above (Cond.code yX5_above cX5_above 1 (some .int) :: TT) rm_X5_above [.int (xa0)] σ r σ' :=
  mkI (by decide) rfl rfl rfl (Nat.le_of_ble_eq_true rfl) (fun x Z C hr => b_X5_above_0 C hr xa0 σ h)
def rm_X5_isUnder : Room := { frames := 1, cells := 0, slots := 0, locals := 20 }
def F_X5_isUnder_b2 (xk_2 : Int32 → Int32 → Sto → Option (Int32 × Sto)) (xa1 : Int32) (xa2 : Int32) (σ : Sto) : Option (Int32 × Sto) := if (xa2) < 0 then if (xa2) < 0 then some (0, σ) else some (1, σ) else if xa2 = xa1 then if (xa2) < 0 then some (0, σ) else some (1, σ) else bnd (F_X5_above (xa2) σ) (fun xr7 xσ5 => xk_2 xa1 xr7 xσ5)
def F_X5_isUnder (xa0 : Int32) (xa1 : Int32) (σ : Sto) : Option (Int32 × Sto) := lo2 (F_X5_isUnder_b2) 1000 xa1 xa0 σ
set_option maxHeartbeats 4000000 in
set_option maxRecDepth 20000 in
theorem b_X5_isUnder_2 {x : XT} {y : YT} {Z : State → Prop} (C : Cx x y (AY y) RX5 cX5_isUnder 3 rm_X5_isUnder) {r : Int32} {σ' : Sto} (hr : RetZ x y (AY y) 3 cX5_isUnder Z r σ') (xk_2 : Int32 → Int32 → Sto → Option (Int32 × Sto)) (xH2 : ∀ (xa1 : Int32) (xa2 : Int32) (σ : Sto), xk_2 xa1 xa2 σ = some (r, σ') → GW x y (AY y) 3 Z 2 [(1, .int (xa1)), (2, .int (xa2))] [] σ) (xa1 : Int32) (xa2 : Int32) (σ : Sto) (h : F_X5_isUnder_b2 xk_2 xa1 xa2 σ = some (r, σ')) : GW x y (AY y) 3 Z 2 [(1, .int (xa1)), (2, .int (xa2))] [] σ := by
  unfold F_X5_isUnder_b2 at h
  refine g_iload_n (pc := 2) C dX5_isUnder_2 rfl 1 rfl ?_
  refine g_if_lt (pc := 3) C dX5_isUnder_3 (tgt := 19) rfl (fun xq1 => ?_) (fun xq1 => ?_)
  · have h := iP xq1 h
    refine g_iload_n (pc := 19) C dX5_isUnder_19 rfl 1 rfl ?_
    refine g_if_lt (pc := 20) C dX5_isUnder_20 (tgt := 27) rfl (fun xq2 => ?_) (fun xq2 => ?_)
    · have h := iP xq2 h
      refine g_iconst (v := 0) (pc := 27) C dX5_isUnder_27 ci_0 ?_
      exact rtZ hr dX5_isUnder_28 (by decide) h
    · have h := iN xq2 h
      refine g_iconst (v := 1) (pc := 23) C dX5_isUnder_23 ci_1 ?_
      refine g_goto (pc := 24) C dX5_isUnder_24 (tgt := 28) rfl ?_
      exact rtZ hr dX5_isUnder_28 (by decide) h
  · have h := iN xq1 h
    refine g_iload_n (pc := 6) C dX5_isUnder_6 rfl 1 rfl ?_
    refine g_iload_n (pc := 7) C dX5_isUnder_7 rfl 0 rfl ?_
    refine g_icmp_eq (pc := 8) C dX5_isUnder_8 (tgt := 19) rfl (fun xq3 => ?_) (fun xq3 => ?_)
    · have h := iP xq3 h
      refine g_iload_n (pc := 19) C dX5_isUnder_19 rfl 1 rfl ?_
      refine g_if_lt (pc := 20) C dX5_isUnder_20 (tgt := 27) rfl (fun xq4 => ?_) (fun xq4 => ?_)
      · have h := iP xq4 h
        refine g_iconst (v := 0) (pc := 27) C dX5_isUnder_27 ci_0 ?_
        exact rtZ hr dX5_isUnder_28 (by decide) h
      · have h := iN xq4 h
        refine g_iconst (v := 1) (pc := 23) C dX5_isUnder_23 ci_1 ?_
        refine g_goto (pc := 24) C dX5_isUnder_24 (tgt := 28) rfl ?_
        exact rtZ hr dX5_isUnder_28 (by decide) h
    · have h := iN xq3 h
      refine g_iload_n (pc := 11) C dX5_isUnder_11 rfl 1 rfl ?_
      obtain ⟨xr7, xσ5, xc6, h⟩ := iB h
      refine g_callSi (pc := 12) (As := [.int (xa2)]) (rest := []) C dX5_isUnder_12 (fun l => c_X5_above l y _ _ _ _ xc6) cv_X5_339 ⟨rfl, rfl, Nat.le_of_ble_eq_true rfl, Nat.le_of_ble_eq_true rfl⟩ rfl (Nat.le_of_ble_eq_true rfl) ?_
      refine g_istore_n (i := 2) (lv' := [(2, .int (xr7)), (1, .int (xa1))]) (pc := 15) C dX5_isUnder_15 rfl (Nat.le_of_ble_eq_true rfl) rfl ?_
      refine g_goto (pc := 16) C dX5_isUnder_16 (tgt := 2) rfl ?_
      refine g_sub (lv' := [(1, .int (xa1)), (2, .int (xr7))]) C [1, 0] rfl ?_
      exact xH2 xa1 xr7 xσ5 h
theorem l_X5_isUnder_2 {x : XT} {y : YT} {Z : State → Prop} (C : Cx x y (AY y) RX5 cX5_isUnder 3 rm_X5_isUnder) {r : Int32} {σ' : Sto} (hr : RetZ x y (AY y) 3 cX5_isUnder Z r σ') (n : Nat) (xa1 : Int32) (xa2 : Int32) (σ : Sto) (h : lo2 (F_X5_isUnder_b2) n xa1 xa2 σ = some (r, σ')) : GW x y (AY y) 3 Z 2 [(1, .int (xa1)), (2, .int (xa2))] [] σ :=
  lo2_gw (G := fun xa1 xa2 σ => GW x y (AY y) 3 Z 2 [(1, .int (xa1)), (2, .int (xa2))] [] σ) (fun xk xHk xa1 xa2 σ h => b_X5_isUnder_2 C hr xk xHk xa1 xa2 σ h) n xa1 xa2 σ h
set_option maxHeartbeats 4000000 in
set_option maxRecDepth 20000 in
theorem b_X5_isUnder_0 {x : XT} {y : YT} {Z : State → Prop} (C : Cx x y (AY y) RX5 cX5_isUnder 3 rm_X5_isUnder) {r : Int32} {σ' : Sto} (hr : RetZ x y (AY y) 3 cX5_isUnder Z r σ') (xa0 : Int32) (xa1 : Int32) (σ : Sto) (h : F_X5_isUnder xa0 xa1 σ = some (r, σ')) : GW x y (AY y) 3 Z 0 [(0, .int (xa0)), (1, .int (xa1))] [] σ := by
  unfold F_X5_isUnder at h
  refine g_iload_n (pc := 0) C dX5_isUnder_0 rfl 0 rfl ?_
  refine g_istore_n (i := 2) (lv' := [(2, .int (xa0)), (0, .int (xa0)), (1, .int (xa1))]) (pc := 1) C dX5_isUnder_1 rfl (Nat.le_of_ble_eq_true rfl) rfl ?_
  refine g_sub (lv' := [(1, .int (xa1)), (2, .int (xa0))]) C [2, 0] rfl ?_
  exact l_X5_isUnder_2 C hr 1000 xa1 xa0 σ h
theorem c_X5_isUnder (l : Launch) (y : YT) (xa0 : Int32) (xa1 : Int32) (σ σ' : Sto) (r : Int32) (h : F_X5_isUnder xa0 xa1 σ = some (r, σ')) : MI l y yX5_isUnder (Cond.code yX5_isUnder cX5_isUnder 3 (some .boolean) :: TT) rm_X5_isUnder [.int (xa0), .int (xa1)] σ r σ' :=
  mkZ (by decide) rfl rfl rfl (Nat.le_of_ble_eq_true rfl) (fun x Z C hr => b_X5_isUnder_0 C hr xa0 xa1 σ h)
def rm_X5_as : Room := { frames := 2, cells := 0, slots := 0, locals := 43 }
def F_X5_as (xa0 : Nat) (xa1 : Int32) (xa2 : Int32) (σ : Sto) : Option (Int32 × Sto) := bnd (F_X5_isSpot (xa1) σ) (fun xr3 xσ1 => if (xr3) = 0 then ck (kd (xa0) == 5) (bnd (F_X5_finding (xa0) (-1000001) xσ1) (fun xr8 xσ5 => some (xr8, xσ5))) else bnd (F_X5_isKind (xa2) xσ1) (fun xr11 xσ9 => if (xr11) = 0 then ck (kd (xa0) == 5) (bnd (F_X5_finding (xa0) (-1000001) xσ9) (fun xr33 xσ30 => some (xr33, xσ30))) else ck (kd (xa0) == 5) (ck (inr (7 + xa1) (79)) (lti (xσ9 50 ((7 + xa1 : Int32).toNatClampNeg)) (fun xv15 => if 0 ≤ (xv15) then bnd (F_X5_sitterIs (xa0) (xv15) 0 xσ9) (fun xr19 xσ17 => bnd (F_X5_isUnder (xr19) (xa2) xσ17) (fun xr22 xσ20 => if (xr22) = 0 then bnd (F_X5_finding (xa0) (-1000003) xσ20) (fun xr26 xσ24 => some (xr26, xσ24)) else some (xv15, xσ20))) else bnd (F_X5_finding (xa0) (-1000006) xσ9) (fun xr29 xσ27 => some (xr29, xσ27)))))))
set_option maxHeartbeats 4000000 in
set_option maxRecDepth 20000 in
theorem b_X5_as_0 {x : XT} {y : YT} {Z : State → Prop} (C : Cx x y (AY y) RX5 cX5_as 4 rm_X5_as) {r : Int32} {σ' : Sto} (hr : RetI x y (AY y) 4 cX5_as Z r σ') (xa0 : Nat) (xa1 : Int32) (xa2 : Int32) (σ : Sto) (h : F_X5_as xa0 xa1 xa2 σ = some (r, σ')) : GW x y (AY y) 4 Z 0 [(0, .ref (yad y (xa0))), (1, .int (xa1)), (2, .int (xa2))] [] σ := by
  unfold F_X5_as at h
  refine g_iload_n (pc := 0) C dX5_as_0 rfl 1 rfl ?_
  obtain ⟨xr3, xσ1, xc2, h⟩ := iB h
  refine g_callSi (pc := 1) (As := [.int (xa1)]) (rest := []) C dX5_as_1 (fun l => c_X5_isSpot l y _ _ _ _ xc2) cv_X5_328 ⟨rfl, rfl, Nat.le_of_ble_eq_true rfl, Nat.le_of_ble_eq_true rfl⟩ rfl (Nat.le_of_ble_eq_true rfl) ?_
  refine g_if_eq (pc := 4) C dX5_as_4 (tgt := 14) rfl (fun xq4 => ?_) (fun xq4 => ?_)
  · have h := iP xq4 h
    refine g_aload_n (pc := 14) C dX5_as_14 rfl 0 rfl ?_
    refine g_ldc (v := (-1000001)) (pc := 15) C dX5_as_15 wk_X5_60 ?_
    obtain ⟨xq7, h⟩ := iC h
    have xq7 := keq xq7
    obtain ⟨xr8, xσ5, xc6, h⟩ := iB h
    refine g_callVi (pc := 17) (As := [.int ((-1000001))]) (rest := []) C dX5_as_17 (fun l => c_X5_finding l y _ _ _ _ _ xc6) cv_X5_66 ⟨rfl, rfl, Nat.le_of_ble_eq_true rfl, Nat.le_of_ble_eq_true rfl⟩ (rv5 xq7) rfl (Nat.le_of_ble_eq_true rfl) ?_
    exact rtI hr dX5_as_20 h
  · have h := iN xq4 h
    refine g_iload_n (pc := 7) C dX5_as_7 rfl 2 rfl ?_
    obtain ⟨xr11, xσ9, xc10, h⟩ := iB h
    refine g_callSi (pc := 8) (As := [.int (xa2)]) (rest := []) C dX5_as_8 (fun l => c_X5_isKind l y _ _ _ _ xc10) cv_X5_96 ⟨rfl, rfl, Nat.le_of_ble_eq_true rfl, Nat.le_of_ble_eq_true rfl⟩ rfl (Nat.le_of_ble_eq_true rfl) ?_
    refine g_if_ne (pc := 11) C dX5_as_11 (tgt := 21) rfl (fun xq12 => ?_) (fun xq12 => ?_)
    · have h := iN xq12 h
      refine g_aload_n (pc := 21) C dX5_as_21 rfl 0 rfl ?_
      obtain ⟨xq13, h⟩ := iC h
      have xq13 := keq xq13
      refine gf_5_0 (pc := 22) C wf_X5_9 dX5_as_22 xq13 ?_
      refine g_bipush (v := 7) (pc := 25) C dX5_as_25 cb_7 ?_
      refine g_iload_n (pc := 27) C dX5_as_27 rfl 1 rfl ?_
      refine g_iadd (pc := 28) C dX5_as_28 ?_
      obtain ⟨xq14, h⟩ := iC h
      refine g_iald (pc := 29) C dX5_as_29 rfl (ivp xq14 rfl) (j := (7 + xa1 : Int32).toNatClampNeg) rfl ?_
      refine g_letI h (fun xv15 h => ?_)
      refine g_istore_n (i := 3) (lv' := [(3, .int (xv15)), (0, .ref (yad y (xa0))), (1, .int (xa1)), (2, .int (xa2))]) (pc := 30) C dX5_as_30 rfl (Nat.le_of_ble_eq_true rfl) rfl ?_
      refine g_iload_n (pc := 31) C dX5_as_31 rfl 0 rfl ?_
      refine g_if_ge (pc := 32) C dX5_as_32 (tgt := 42) rfl (fun xq16 => ?_) (fun xq16 => ?_)
      · have h := iP xq16 h
        refine g_aload_n (pc := 42) C dX5_as_42 rfl 1 rfl ?_
        refine g_iload_n (pc := 43) C dX5_as_43 rfl 0 rfl ?_
        refine g_iconst (v := 0) (pc := 44) C dX5_as_44 ci_0 ?_
        obtain ⟨xr19, xσ17, xc18, h⟩ := iB h
        refine g_callVi (pc := 45) (As := [.int (xv15), .int (0)]) (rest := []) C dX5_as_45 (fun l => c_X5_sitterIs l y _ _ _ _ _ _ xc18) cv_X5_104 ⟨rfl, rfl, Nat.le_of_ble_eq_true rfl, Nat.le_of_ble_eq_true rfl⟩ (rv5 xq13) rfl (Nat.le_of_ble_eq_true rfl) ?_
        refine g_iload_n (pc := 48) C dX5_as_48 rfl 3 rfl ?_
        obtain ⟨xr22, xσ20, xc21, h⟩ := iB h
        refine g_callSi (pc := 49) (As := [.int (xr19), .int (xa2)]) (rest := []) C dX5_as_49 (fun l => c_X5_isUnder l y _ _ _ _ _ xc21) cv_X5_331 ⟨rfl, rfl, Nat.le_of_ble_eq_true rfl, Nat.le_of_ble_eq_true rfl⟩ rfl (Nat.le_of_ble_eq_true rfl) ?_
        refine g_if_eq (pc := 52) C dX5_as_52 (tgt := 59) rfl (fun xq23 => ?_) (fun xq23 => ?_)
        · have h := iP xq23 h
          refine g_aload_n (pc := 59) C dX5_as_59 rfl 1 rfl ?_
          refine g_ldcw (v := (-1000003)) (pc := 60) C dX5_as_60 wk_X5_334 ?_
          obtain ⟨xr26, xσ24, xc25, h⟩ := iB h
          refine g_callVi (pc := 63) (As := [.int ((-1000003))]) (rest := []) C dX5_as_63 (fun l => c_X5_finding l y _ _ _ _ _ xc25) cv_X5_66 ⟨rfl, rfl, Nat.le_of_ble_eq_true rfl, Nat.le_of_ble_eq_true rfl⟩ (rv5 xq13) rfl (Nat.le_of_ble_eq_true rfl) ?_
          exact rtI hr dX5_as_66 h
        · have h := iN xq23 h
          refine g_iload_n (pc := 55) C dX5_as_55 rfl 0 rfl ?_
          refine g_goto (pc := 56) C dX5_as_56 (tgt := 66) rfl ?_
          exact rtI hr dX5_as_66 h
      · have h := iN xq16 h
        refine g_aload_n (pc := 35) C dX5_as_35 rfl 1 rfl ?_
        refine g_ldc (v := (-1000006)) (pc := 36) C dX5_as_36 wk_X5_212 ?_
        obtain ⟨xr29, xσ27, xc28, h⟩ := iB h
        refine g_callVi (pc := 38) (As := [.int ((-1000006))]) (rest := []) C dX5_as_38 (fun l => c_X5_finding l y _ _ _ _ _ xc28) cv_X5_66 ⟨rfl, rfl, Nat.le_of_ble_eq_true rfl, Nat.le_of_ble_eq_true rfl⟩ (rv5 xq13) rfl (Nat.le_of_ble_eq_true rfl) ?_
        exact rtI hr dX5_as_41 h
    · have h := iP xq12 h
      refine g_aload_n (pc := 14) C dX5_as_14 rfl 0 rfl ?_
      refine g_ldc (v := (-1000001)) (pc := 15) C dX5_as_15 wk_X5_60 ?_
      obtain ⟨xq32, h⟩ := iC h
      have xq32 := keq xq32
      obtain ⟨xr33, xσ30, xc31, h⟩ := iB h
      refine g_callVi (pc := 17) (As := [.int ((-1000001))]) (rest := []) C dX5_as_17 (fun l => c_X5_finding l y _ _ _ _ _ xc31) cv_X5_66 ⟨rfl, rfl, Nat.le_of_ble_eq_true rfl, Nat.le_of_ble_eq_true rfl⟩ (rv5 xq32) rfl (Nat.le_of_ble_eq_true rfl) ?_
      exact rtI hr dX5_as_20 h
theorem c_X5_as (l : Launch) (y : YT) (xa0 : Nat) (xa1 : Int32) (xa2 : Int32) (σ σ' : Sto) (r : Int32) (h : F_X5_as xa0 xa1 xa2 σ = some (r, σ')) : MI l y yX5_as (Cond.code yX5_as cX5_as 4 (some .int) :: TT) rm_X5_as [.ref (yad y (xa0)), .int (xa1), .int (xa2)] σ r σ' :=
  mkI (by decide) rfl rfl rfl (Nat.le_of_ble_eq_true rfl) (fun x Z C hr => b_X5_as_0 C hr xa0 xa1 xa2 σ h)
def rm_X5_cutTo : Room := { frames := 0, cells := 0, slots := 0, locals := 0 }
def F_X5_cutTo (xa0 : Int32) (xa1 : Int32) (σ : Sto) : Option (Int32 × Sto) := if xa1 = 8 then some (ibyte xa0, σ) else if xa1 = 16 then some (ishort xa0, σ) else some (xa0, σ)
set_option maxHeartbeats 4000000 in
set_option maxRecDepth 20000 in
theorem b_X5_cutTo_0 {x : XT} {y : YT} {Z : State → Prop} (C : Cx x y (AY y) RX5 cX5_cutTo 2 rm_X5_cutTo) {r : Int32} {σ' : Sto} (hr : RetI x y (AY y) 2 cX5_cutTo Z r σ') (xa0 : Int32) (xa1 : Int32) (σ : Sto) (h : F_X5_cutTo xa0 xa1 σ = some (r, σ')) : GW x y (AY y) 2 Z 0 [(0, .int (xa0)), (1, .int (xa1))] [] σ := by
  unfold F_X5_cutTo at h
  refine g_iload_n (pc := 0) C dX5_cutTo_0 rfl 1 rfl ?_
  refine g_bipush (v := 8) (pc := 1) C dX5_cutTo_1 cb_8 ?_
  refine g_icmp_ne (pc := 3) C dX5_cutTo_3 (tgt := 11) rfl (fun xq1 => ?_) (fun xq1 => ?_)
  · have h := iN xq1 h
    refine g_iload_n (pc := 11) C dX5_cutTo_11 rfl 1 rfl ?_
    refine g_bipush (v := 16) (pc := 12) C dX5_cutTo_12 cb_16 ?_
    refine g_icmp_ne (pc := 14) C dX5_cutTo_14 (tgt := 22) rfl (fun xq2 => ?_) (fun xq2 => ?_)
    · have h := iN xq2 h
      refine g_iload_n (pc := 22) C dX5_cutTo_22 rfl 0 rfl ?_
      exact rtI hr dX5_cutTo_23 h
    · have h := iP xq2 h
      refine g_iload_n (pc := 17) C dX5_cutTo_17 rfl 0 rfl ?_
      refine g_i2s (pc := 18) C dX5_cutTo_18 ?_
      refine g_goto (pc := 19) C dX5_cutTo_19 (tgt := 23) rfl ?_
      exact rtI hr dX5_cutTo_23 h
  · have h := iP xq1 h
    refine g_iload_n (pc := 6) C dX5_cutTo_6 rfl 0 rfl ?_
    refine g_i2b (pc := 7) C dX5_cutTo_7 ?_
    refine g_goto (pc := 8) C dX5_cutTo_8 (tgt := 23) rfl ?_
    exact rtI hr dX5_cutTo_23 h
theorem c_X5_cutTo (l : Launch) (y : YT) (xa0 : Int32) (xa1 : Int32) (σ σ' : Sto) (r : Int32) (h : F_X5_cutTo xa0 xa1 σ = some (r, σ')) : MI l y yX5_cutTo (Cond.code yX5_cutTo cX5_cutTo 2 (some .int) :: TT) rm_X5_cutTo [.int (xa0), .int (xa1)] σ r σ' :=
  mkI (by decide) rfl rfl rfl (Nat.le_of_ble_eq_true rfl) (fun x Z C hr => b_X5_cutTo_0 C hr xa0 xa1 σ h)
def rm_X5_sheet : Room := { frames := 2, cells := 0, slots := 0, locals := 42 }
def F_X5_sheet_b86 (xk_86 : Nat → Int32 → Int32 → Sto → Option (Int32 × Sto)) (xa0 : Nat) (xa1 : Int32) (xa4 : Int32) (σ : Sto) : Option (Int32 × Sto) := if 40 ≤ xa4 then ck (kd (xa0) == 5) (ck (inr (xa1) (4)) (some (σ 58 (xa1.toNatClampNeg), σ))) else ck (kd (xa0) == 5) (ck (inr ((40 * xa1) + xa4) (160)) (lts (up2 σ 59 (((40 * xa1) + xa4 : Int32).toNatClampNeg) (0)) (fun xσ6 => xk_86 xa0 xa1 (xa4 + 1) xσ6)))
def F_X5_sheet_b36 (xa0 : Nat) (xa1 : Int32) (xa2 : Int32) (xa3 : Int32) (σ : Sto) : Option (Int32 × Sto) := if 0 ≤ (xa3) then if xa3 ≤ 40 then ck (kd (xa0) == 5) (ck (inr (xa1) (4)) (lts (up2 σ 57 (xa1.toNatClampNeg) (xa2)) (fun xσ5 => if (xa2) = 0 then ck (inr (xa1) (4)) (lts (up2 xσ5 58 (xa1.toNatClampNeg) (0)) (fun xσ10 => lo3 (F_X5_sheet_b86) 1000 xa0 xa1 0 xσ10)) else ck (inr (xa1) (4)) (lts (up2 xσ5 58 (xa1.toNatClampNeg) (xa3)) (fun xσ8 => lo3 (F_X5_sheet_b86) 1000 xa0 xa1 0 xσ8))))) else ck (kd (xa0) == 5) (bnd (F_X5_finding (xa0) (-1000001) σ) (fun xr14 xσ11 => some (xr14, xσ11))) else ck (kd (xa0) == 5) (bnd (F_X5_finding (xa0) (-1000007) σ) (fun xr18 xσ15 => some (xr18, xσ15)))
def F_X5_sheet (xa0 : Nat) (xa1 : Int32) (xa2 : Int32) (xa3 : Int32) (σ : Sto) : Option (Int32 × Sto) := bnd (F_X5_isSheet (xa1) σ) (fun xr3 xσ1 => if (xr3) = 0 then ck (kd (xa0) == 5) (bnd (F_X5_finding (xa0) (-1000001) xσ1) (fun xr8 xσ5 => some (xr8, xσ5))) else if (xa2) = 0 then F_X5_sheet_b36 xa0 xa1 xa2 xa3 xσ1 else if xa2 = 8 then F_X5_sheet_b36 xa0 xa1 xa2 xa3 xσ1 else if xa2 = 16 then F_X5_sheet_b36 xa0 xa1 xa2 xa3 xσ1 else if xa2 = 32 then F_X5_sheet_b36 xa0 xa1 xa2 xa3 xσ1 else ck (kd (xa0) == 5) (bnd (F_X5_finding (xa0) (-1000001) xσ1) (fun xr16 xσ13 => some (xr16, xσ13))))
set_option maxHeartbeats 4000000 in
set_option maxRecDepth 20000 in
theorem b_X5_sheet_86 {x : XT} {y : YT} {Z : State → Prop} (C : Cx x y (AY y) RX5 cX5_sheet 5 rm_X5_sheet) {r : Int32} {σ' : Sto} (hr : RetI x y (AY y) 5 cX5_sheet Z r σ') (xk_86 : Nat → Int32 → Int32 → Sto → Option (Int32 × Sto)) (xH86 : ∀ (xa0 : Nat) (xa1 : Int32) (xa4 : Int32) (σ : Sto), xk_86 xa0 xa1 xa4 σ = some (r, σ') → GW x y (AY y) 5 Z 86 [(0, .ref (yad y (xa0))), (1, .int (xa1)), (4, .int (xa4))] [] σ) (xa0 : Nat) (xa1 : Int32) (xa4 : Int32) (σ : Sto) (h : F_X5_sheet_b86 xk_86 xa0 xa1 xa4 σ = some (r, σ')) : GW x y (AY y) 5 Z 86 [(0, .ref (yad y (xa0))), (1, .int (xa1)), (4, .int (xa4))] [] σ := by
  unfold F_X5_sheet_b86 at h
  refine g_iload (pc := 86) C dX5_sheet_86 2 rfl ?_
  refine g_bipush (v := 40) (pc := 88) C dX5_sheet_88 cb_40 ?_
  refine g_icmp_ge (pc := 90) C dX5_sheet_90 (tgt := 112) rfl (fun xq1 => ?_) (fun xq1 => ?_)
  · have h := iP xq1 h
    refine g_aload_n (pc := 112) C dX5_sheet_112 rfl 0 rfl ?_
    obtain ⟨xq2, h⟩ := iC h
    have xq2 := keq xq2
    refine gf_5_19 (pc := 113) C wf_X5_51 dX5_sheet_113 xq2 ?_
    refine g_iload_n (pc := 116) C dX5_sheet_116 rfl 1 rfl ?_
    obtain ⟨xq3, h⟩ := iC h
    refine g_iald (pc := 117) C dX5_sheet_117 rfl (ivp xq3 rfl) (j := xa1.toNatClampNeg) rfl ?_
    exact rtI hr dX5_sheet_118 h
  · have h := iN xq1 h
    refine g_aload_n (pc := 93) C dX5_sheet_93 rfl 0 rfl ?_
    obtain ⟨xq4, h⟩ := iC h
    have xq4 := keq xq4
    refine gf_5_20 (pc := 94) C wf_X5_54 dX5_sheet_94 xq4 ?_
    refine g_bipush (v := 40) (pc := 97) C dX5_sheet_97 cb_40 ?_
    refine g_iload_n (pc := 99) C dX5_sheet_99 rfl 1 rfl ?_
    refine g_imul (pc := 100) C dX5_sheet_100 ?_
    refine g_iload (pc := 101) C dX5_sheet_101 2 rfl ?_
    refine g_iadd (pc := 103) C dX5_sheet_103 ?_
    refine g_iconst (v := 0) (pc := 104) C dX5_sheet_104 ci_0 ?_
    obtain ⟨xq5, h⟩ := iC h
    refine g_iast (pc := 105) C dX5_sheet_105 rfl (ivp xq5 rfl) (j := ((40 * xa1) + xa4 : Int32).toNatClampNeg) rfl ?_
    refine g_letS h (fun xσ6 h => ?_)
    refine g_iinc (lv' := [(4, .int (xa4 + 1)), (0, .ref (yad y (xa0))), (1, .int (xa1))]) (w := xa4 + 1) (pc := 106) C dX5_sheet_106 (k := 2) rfl rfl (Nat.le_of_ble_eq_true rfl) rfl ?_
    refine g_goto (pc := 109) C dX5_sheet_109 (tgt := 86) rfl ?_
    refine g_sub (lv' := [(0, .ref (yad y (xa0))), (1, .int (xa1)), (4, .int (xa4 + 1))]) C [1, 2, 0] rfl ?_
    exact xH86 xa0 xa1 (xa4 + 1) xσ6 h
theorem l_X5_sheet_86 {x : XT} {y : YT} {Z : State → Prop} (C : Cx x y (AY y) RX5 cX5_sheet 5 rm_X5_sheet) {r : Int32} {σ' : Sto} (hr : RetI x y (AY y) 5 cX5_sheet Z r σ') (n : Nat) (xa0 : Nat) (xa1 : Int32) (xa4 : Int32) (σ : Sto) (h : lo3 (F_X5_sheet_b86) n xa0 xa1 xa4 σ = some (r, σ')) : GW x y (AY y) 5 Z 86 [(0, .ref (yad y (xa0))), (1, .int (xa1)), (4, .int (xa4))] [] σ :=
  lo3_gw (G := fun xa0 xa1 xa4 σ => GW x y (AY y) 5 Z 86 [(0, .ref (yad y (xa0))), (1, .int (xa1)), (4, .int (xa4))] [] σ) (fun xk xHk xa0 xa1 xa4 σ h => b_X5_sheet_86 C hr xk xHk xa0 xa1 xa4 σ h) n xa0 xa1 xa4 σ h
set_option maxHeartbeats 4000000 in
set_option maxRecDepth 20000 in
theorem b_X5_sheet_36 {x : XT} {y : YT} {Z : State → Prop} (C : Cx x y (AY y) RX5 cX5_sheet 5 rm_X5_sheet) {r : Int32} {σ' : Sto} (hr : RetI x y (AY y) 5 cX5_sheet Z r σ') (xa0 : Nat) (xa1 : Int32) (xa2 : Int32) (xa3 : Int32) (σ : Sto) (h : F_X5_sheet_b36 xa0 xa1 xa2 xa3 σ = some (r, σ')) : GW x y (AY y) 5 Z 36 [(0, .ref (yad y (xa0))), (1, .int (xa1)), (2, .int (xa2)), (3, .int (xa3))] [] σ := by
  unfold F_X5_sheet_b36 at h
  refine g_iload_n (pc := 36) C dX5_sheet_36 rfl 3 rfl ?_
  refine g_if_ge (pc := 37) C dX5_sheet_37 (tgt := 48) rfl (fun xq1 => ?_) (fun xq1 => ?_)
  · have h := iP xq1 h
    refine g_iload_n (pc := 48) C dX5_sheet_48 rfl 3 rfl ?_
    refine g_bipush (v := 40) (pc := 49) C dX5_sheet_49 cb_40 ?_
    refine g_icmp_le (pc := 51) C dX5_sheet_51 (tgt := 61) rfl (fun xq2 => ?_) (fun xq2 => ?_)
    · have h := iP xq2 h
      refine g_aload_n (pc := 61) C dX5_sheet_61 rfl 0 rfl ?_
      obtain ⟨xq3, h⟩ := iC h
      have xq3 := keq xq3
      refine gf_5_18 (pc := 62) C wf_X5_48 dX5_sheet_62 xq3 ?_
      refine g_iload_n (pc := 65) C dX5_sheet_65 rfl 1 rfl ?_
      refine g_iload_n (pc := 66) C dX5_sheet_66 rfl 2 rfl ?_
      obtain ⟨xq4, h⟩ := iC h
      refine g_iast (pc := 67) C dX5_sheet_67 rfl (ivp xq4 rfl) (j := xa1.toNatClampNeg) rfl ?_
      refine g_letS h (fun xσ5 h => ?_)
      refine g_aload_n (pc := 68) C dX5_sheet_68 rfl 0 rfl ?_
      refine gf_5_19 (pc := 69) C wf_X5_51 dX5_sheet_69 xq3 ?_
      refine g_iload_n (pc := 72) C dX5_sheet_72 rfl 1 rfl ?_
      refine g_iload_n (pc := 73) C dX5_sheet_73 rfl 2 rfl ?_
      refine g_if_ne (pc := 74) C dX5_sheet_74 (tgt := 81) rfl (fun xq6 => ?_) (fun xq6 => ?_)
      · have h := iN xq6 h
        refine g_iload_n (pc := 81) C dX5_sheet_81 rfl 3 rfl ?_
        obtain ⟨xq7, h⟩ := iC h
        refine g_iast (pc := 82) C dX5_sheet_82 rfl (ivp xq7 rfl) (j := xa1.toNatClampNeg) rfl ?_
        refine g_letS h (fun xσ8 h => ?_)
        refine g_iconst (v := 0) (pc := 83) C dX5_sheet_83 ci_0 ?_
        refine g_istore (i := 4) (lv' := [(4, .int (0)), (0, .ref (yad y (xa0))), (1, .int (xa1)), (2, .int (xa2)), (3, .int (xa3))]) (pc := 84) C dX5_sheet_84 (Nat.le_of_ble_eq_true rfl) rfl ?_
        refine g_sub (lv' := [(0, .ref (yad y (xa0))), (1, .int (xa1)), (4, .int (0))]) C [1, 2, 0] rfl ?_
        exact l_X5_sheet_86 C hr 1000 xa0 xa1 0 xσ8 h
      · have h := iP xq6 h
        refine g_iconst (v := 0) (pc := 77) C dX5_sheet_77 ci_0 ?_
        refine g_goto (pc := 78) C dX5_sheet_78 (tgt := 82) rfl ?_
        obtain ⟨xq9, h⟩ := iC h
        refine g_iast (pc := 82) C dX5_sheet_82 rfl (ivp xq9 rfl) (j := xa1.toNatClampNeg) rfl ?_
        refine g_letS h (fun xσ10 h => ?_)
        refine g_iconst (v := 0) (pc := 83) C dX5_sheet_83 ci_0 ?_
        refine g_istore (i := 4) (lv' := [(4, .int (0)), (0, .ref (yad y (xa0))), (1, .int (xa1)), (2, .int (xa2)), (3, .int (xa3))]) (pc := 84) C dX5_sheet_84 (Nat.le_of_ble_eq_true rfl) rfl ?_
        refine g_sub (lv' := [(0, .ref (yad y (xa0))), (1, .int (xa1)), (4, .int (0))]) C [1, 2, 0] rfl ?_
        exact l_X5_sheet_86 C hr 1000 xa0 xa1 0 xσ10 h
    · have h := iN xq2 h
      refine g_aload_n (pc := 54) C dX5_sheet_54 rfl 0 rfl ?_
      refine g_ldc (v := (-1000001)) (pc := 55) C dX5_sheet_55 wk_X5_60 ?_
      obtain ⟨xq13, h⟩ := iC h
      have xq13 := keq xq13
      obtain ⟨xr14, xσ11, xc12, h⟩ := iB h
      refine g_callVi (pc := 57) (As := [.int ((-1000001))]) (rest := []) C dX5_sheet_57 (fun l => c_X5_finding l y _ _ _ _ _ xc12) cv_X5_66 ⟨rfl, rfl, Nat.le_of_ble_eq_true rfl, Nat.le_of_ble_eq_true rfl⟩ (rv5 xq13) rfl (Nat.le_of_ble_eq_true rfl) ?_
      exact rtI hr dX5_sheet_60 h
  · have h := iN xq1 h
    refine g_aload_n (pc := 40) C dX5_sheet_40 rfl 0 rfl ?_
    refine g_ldcw (v := (-1000007)) (pc := 41) C dX5_sheet_41 wk_X5_335 ?_
    obtain ⟨xq17, h⟩ := iC h
    have xq17 := keq xq17
    obtain ⟨xr18, xσ15, xc16, h⟩ := iB h
    refine g_callVi (pc := 44) (As := [.int ((-1000007))]) (rest := []) C dX5_sheet_44 (fun l => c_X5_finding l y _ _ _ _ _ xc16) cv_X5_66 ⟨rfl, rfl, Nat.le_of_ble_eq_true rfl, Nat.le_of_ble_eq_true rfl⟩ (rv5 xq17) rfl (Nat.le_of_ble_eq_true rfl) ?_
    exact rtI hr dX5_sheet_47 h
set_option maxHeartbeats 4000000 in
set_option maxRecDepth 20000 in
theorem b_X5_sheet_0 {x : XT} {y : YT} {Z : State → Prop} (C : Cx x y (AY y) RX5 cX5_sheet 5 rm_X5_sheet) {r : Int32} {σ' : Sto} (hr : RetI x y (AY y) 5 cX5_sheet Z r σ') (xa0 : Nat) (xa1 : Int32) (xa2 : Int32) (xa3 : Int32) (σ : Sto) (h : F_X5_sheet xa0 xa1 xa2 xa3 σ = some (r, σ')) : GW x y (AY y) 5 Z 0 [(0, .ref (yad y (xa0))), (1, .int (xa1)), (2, .int (xa2)), (3, .int (xa3))] [] σ := by
  unfold F_X5_sheet at h
  refine g_iload_n (pc := 0) C dX5_sheet_0 rfl 1 rfl ?_
  obtain ⟨xr3, xσ1, xc2, h⟩ := iB h
  refine g_callSi (pc := 1) (As := [.int (xa1)]) (rest := []) C dX5_sheet_1 (fun l => c_X5_isSheet l y _ _ _ _ xc2) cv_X5_209 ⟨rfl, rfl, Nat.le_of_ble_eq_true rfl, Nat.le_of_ble_eq_true rfl⟩ rfl (Nat.le_of_ble_eq_true rfl) ?_
  refine g_if_eq (pc := 4) C dX5_sheet_4 (tgt := 29) rfl (fun xq4 => ?_) (fun xq4 => ?_)
  · have h := iP xq4 h
    refine g_aload_n (pc := 29) C dX5_sheet_29 rfl 0 rfl ?_
    refine g_ldc (v := (-1000001)) (pc := 30) C dX5_sheet_30 wk_X5_60 ?_
    obtain ⟨xq7, h⟩ := iC h
    have xq7 := keq xq7
    obtain ⟨xr8, xσ5, xc6, h⟩ := iB h
    refine g_callVi (pc := 32) (As := [.int ((-1000001))]) (rest := []) C dX5_sheet_32 (fun l => c_X5_finding l y _ _ _ _ _ xc6) cv_X5_66 ⟨rfl, rfl, Nat.le_of_ble_eq_true rfl, Nat.le_of_ble_eq_true rfl⟩ (rv5 xq7) rfl (Nat.le_of_ble_eq_true rfl) ?_
    exact rtI hr dX5_sheet_35 h
  · have h := iN xq4 h
    refine g_iload_n (pc := 7) C dX5_sheet_7 rfl 2 rfl ?_
    refine g_if_eq (pc := 8) C dX5_sheet_8 (tgt := 36) rfl (fun xq9 => ?_) (fun xq9 => ?_)
    · have h := iP xq9 h
      exact b_X5_sheet_36 C hr xa0 xa1 xa2 xa3 xσ1 h
    · have h := iN xq9 h
      refine g_iload_n (pc := 11) C dX5_sheet_11 rfl 2 rfl ?_
      refine g_bipush (v := 8) (pc := 12) C dX5_sheet_12 cb_8 ?_
      refine g_icmp_eq (pc := 14) C dX5_sheet_14 (tgt := 36) rfl (fun xq10 => ?_) (fun xq10 => ?_)
      · have h := iP xq10 h
        exact b_X5_sheet_36 C hr xa0 xa1 xa2 xa3 xσ1 h
      · have h := iN xq10 h
        refine g_iload_n (pc := 17) C dX5_sheet_17 rfl 2 rfl ?_
        refine g_bipush (v := 16) (pc := 18) C dX5_sheet_18 cb_16 ?_
        refine g_icmp_eq (pc := 20) C dX5_sheet_20 (tgt := 36) rfl (fun xq11 => ?_) (fun xq11 => ?_)
        · have h := iP xq11 h
          exact b_X5_sheet_36 C hr xa0 xa1 xa2 xa3 xσ1 h
        · have h := iN xq11 h
          refine g_iload_n (pc := 23) C dX5_sheet_23 rfl 2 rfl ?_
          refine g_bipush (v := 32) (pc := 24) C dX5_sheet_24 cb_32 ?_
          refine g_icmp_eq (pc := 26) C dX5_sheet_26 (tgt := 36) rfl (fun xq12 => ?_) (fun xq12 => ?_)
          · have h := iP xq12 h
            exact b_X5_sheet_36 C hr xa0 xa1 xa2 xa3 xσ1 h
          · have h := iN xq12 h
            refine g_aload_n (pc := 29) C dX5_sheet_29 rfl 0 rfl ?_
            refine g_ldc (v := (-1000001)) (pc := 30) C dX5_sheet_30 wk_X5_60 ?_
            obtain ⟨xq15, h⟩ := iC h
            have xq15 := keq xq15
            obtain ⟨xr16, xσ13, xc14, h⟩ := iB h
            refine g_callVi (pc := 32) (As := [.int ((-1000001))]) (rest := []) C dX5_sheet_32 (fun l => c_X5_finding l y _ _ _ _ _ xc14) cv_X5_66 ⟨rfl, rfl, Nat.le_of_ble_eq_true rfl, Nat.le_of_ble_eq_true rfl⟩ (rv5 xq15) rfl (Nat.le_of_ble_eq_true rfl) ?_
            exact rtI hr dX5_sheet_35 h
theorem c_X5_sheet (l : Launch) (y : YT) (xa0 : Nat) (xa1 : Int32) (xa2 : Int32) (xa3 : Int32) (σ σ' : Sto) (r : Int32) (h : F_X5_sheet xa0 xa1 xa2 xa3 σ = some (r, σ')) : MI l y yX5_sheet (Cond.code yX5_sheet cX5_sheet 5 (some .int) :: TT) rm_X5_sheet [.ref (yad y (xa0)), .int (xa1), .int (xa2), .int (xa3)] σ r σ' :=
  mkI (by decide) rfl rfl rfl (Nat.le_of_ble_eq_true rfl) (fun x Z C hr => b_X5_sheet_0 C hr xa0 xa1 xa2 xa3 σ h)
def rm_X5_write : Room := { frames := 2, cells := 0, slots := 0, locals := 42 }
def F_X5_write (xa0 : Nat) (xa1 : Int32) (xa2 : Int32) (xa3 : Int32) (σ : Sto) : Option (Int32 × Sto) := bnd (F_X5_isSheet (xa1) σ) (fun xr3 xσ1 => if (xr3) = 0 then ck (kd (xa0) == 5) (bnd (F_X5_finding (xa0) (-1000001) xσ1) (fun xr28 xσ25 => some (xr28, xσ25))) else ck (kd (xa0) == 5) (ck (inr (xa1) (4)) (if (xσ1 57 (xa1.toNatClampNeg)) = 0 then bnd (F_X5_finding (xa0) (-1000006) xσ1) (fun xr24 xσ22 => some (xr24, xσ22)) else ck (inr (xa1) (4)) (bnd (F_X5_within (xa2) 0 ((xσ1 58 (xa1.toNatClampNeg)) - 1) xσ1) (fun xr11 xσ9 => if (xr11) = 0 then bnd (F_X5_finding (xa0) (-1000001) xσ9) (fun xr21 xσ19 => some (xr21, xσ19)) else ck (inr (xa1) (4)) (bnd (F_X5_cutTo (xa3) (xσ9 57 (xa1.toNatClampNeg)) xσ9) (fun xr16 xσ14 => ck (inr ((40 * xa1) + xa2) (160)) (lts (up2 xσ14 59 (((40 * xa1) + xa2 : Int32).toNatClampNeg) (xr16)) (fun xσ18 => some (1, xσ18))))))))))
set_option maxHeartbeats 4000000 in
set_option maxRecDepth 20000 in
theorem b_X5_write_0 {x : XT} {y : YT} {Z : State → Prop} (C : Cx x y (AY y) RX5 cX5_write 4 rm_X5_write) {r : Int32} {σ' : Sto} (hr : RetI x y (AY y) 4 cX5_write Z r σ') (xa0 : Nat) (xa1 : Int32) (xa2 : Int32) (xa3 : Int32) (σ : Sto) (h : F_X5_write xa0 xa1 xa2 xa3 σ = some (r, σ')) : GW x y (AY y) 4 Z 0 [(0, .ref (yad y (xa0))), (1, .int (xa1)), (2, .int (xa2)), (3, .int (xa3))] [] σ := by
  unfold F_X5_write at h
  refine g_iload_n (pc := 0) C dX5_write_0 rfl 1 rfl ?_
  obtain ⟨xr3, xσ1, xc2, h⟩ := iB h
  refine g_callSi (pc := 1) (As := [.int (xa1)]) (rest := []) C dX5_write_1 (fun l => c_X5_isSheet l y _ _ _ _ xc2) cv_X5_209 ⟨rfl, rfl, Nat.le_of_ble_eq_true rfl, Nat.le_of_ble_eq_true rfl⟩ rfl (Nat.le_of_ble_eq_true rfl) ?_
  refine g_if_ne (pc := 4) C dX5_write_4 (tgt := 14) rfl (fun xq4 => ?_) (fun xq4 => ?_)
  · have h := iN xq4 h
    refine g_aload_n (pc := 14) C dX5_write_14 rfl 0 rfl ?_
    obtain ⟨xq5, h⟩ := iC h
    have xq5 := keq xq5
    refine gf_5_18 (pc := 15) C wf_X5_48 dX5_write_15 xq5 ?_
    refine g_iload_n (pc := 18) C dX5_write_18 rfl 1 rfl ?_
    obtain ⟨xq6, h⟩ := iC h
    refine g_iald (pc := 19) C dX5_write_19 rfl (ivp xq6 rfl) (j := xa1.toNatClampNeg) rfl ?_
    refine g_if_ne (pc := 20) C dX5_write_20 (tgt := 30) rfl (fun xq7 => ?_) (fun xq7 => ?_)
    · have h := iN xq7 h
      refine g_iload_n (pc := 30) C dX5_write_30 rfl 2 rfl ?_
      refine g_iconst (v := 0) (pc := 31) C dX5_write_31 ci_0 ?_
      refine g_aload_n (pc := 32) C dX5_write_32 rfl 0 rfl ?_
      refine gf_5_19 (pc := 33) C wf_X5_51 dX5_write_33 xq5 ?_
      refine g_iload_n (pc := 36) C dX5_write_36 rfl 1 rfl ?_
      obtain ⟨xq8, h⟩ := iC h
      refine g_iald (pc := 37) C dX5_write_37 rfl (ivp xq8 rfl) (j := xa1.toNatClampNeg) rfl ?_
      refine g_iconst (v := 1) (pc := 38) C dX5_write_38 ci_1 ?_
      refine g_isub (pc := 39) C dX5_write_39 ?_
      obtain ⟨xr11, xσ9, xc10, h⟩ := iB h
      refine g_callSi (pc := 40) (As := [.int (xa2), .int (0), .int ((xσ1 58 (xa1.toNatClampNeg)) - 1)]) (rest := []) C dX5_write_40 (fun l => c_X5_within l y _ _ _ _ _ _ xc10) cv_X5_70 ⟨rfl, rfl, Nat.le_of_ble_eq_true rfl, Nat.le_of_ble_eq_true rfl⟩ rfl (Nat.le_of_ble_eq_true rfl) ?_
      refine g_if_ne (pc := 43) C dX5_write_43 (tgt := 53) rfl (fun xq12 => ?_) (fun xq12 => ?_)
      · have h := iN xq12 h
        refine g_aload_n (pc := 53) C dX5_write_53 rfl 0 rfl ?_
        refine gf_5_20 (pc := 54) C wf_X5_54 dX5_write_54 xq5 ?_
        refine g_bipush (v := 40) (pc := 57) C dX5_write_57 cb_40 ?_
        refine g_iload_n (pc := 59) C dX5_write_59 rfl 1 rfl ?_
        refine g_imul (pc := 60) C dX5_write_60 ?_
        refine g_iload_n (pc := 61) C dX5_write_61 rfl 2 rfl ?_
        refine g_iadd (pc := 62) C dX5_write_62 ?_
        refine g_iload_n (pc := 63) C dX5_write_63 rfl 3 rfl ?_
        refine g_aload_n (pc := 64) C dX5_write_64 rfl 0 rfl ?_
        refine gf_5_18 (pc := 65) C wf_X5_48 dX5_write_65 xq5 ?_
        refine g_iload_n (pc := 68) C dX5_write_68 rfl 1 rfl ?_
        obtain ⟨xq13, h⟩ := iC h
        refine g_iald (pc := 69) C dX5_write_69 rfl (ivp xq13 rfl) (j := xa1.toNatClampNeg) rfl ?_
        obtain ⟨xr16, xσ14, xc15, h⟩ := iB h
        refine g_callSi (pc := 70) (As := [.int (xa3), .int (xσ9 57 (xa1.toNatClampNeg))]) (rest := [.int ((40 * xa1) + xa2), .ref (yad y (59))]) C dX5_write_70 (fun l => c_X5_cutTo l y _ _ _ _ _ xc15) cv_X5_336 ⟨rfl, rfl, Nat.le_of_ble_eq_true rfl, Nat.le_of_ble_eq_true rfl⟩ rfl (Nat.le_of_ble_eq_true rfl) ?_
        obtain ⟨xq17, h⟩ := iC h
        refine g_iast (pc := 73) C dX5_write_73 rfl (ivp xq17 rfl) (j := ((40 * xa1) + xa2 : Int32).toNatClampNeg) rfl ?_
        refine g_letS h (fun xσ18 h => ?_)
        refine g_iconst (v := 1) (pc := 74) C dX5_write_74 ci_1 ?_
        exact rtI hr dX5_write_75 h
      · have h := iP xq12 h
        refine g_aload_n (pc := 46) C dX5_write_46 rfl 0 rfl ?_
        refine g_ldc (v := (-1000001)) (pc := 47) C dX5_write_47 wk_X5_60 ?_
        obtain ⟨xr21, xσ19, xc20, h⟩ := iB h
        refine g_callVi (pc := 49) (As := [.int ((-1000001))]) (rest := []) C dX5_write_49 (fun l => c_X5_finding l y _ _ _ _ _ xc20) cv_X5_66 ⟨rfl, rfl, Nat.le_of_ble_eq_true rfl, Nat.le_of_ble_eq_true rfl⟩ (rv5 xq5) rfl (Nat.le_of_ble_eq_true rfl) ?_
        exact rtI hr dX5_write_52 h
    · have h := iP xq7 h
      refine g_aload_n (pc := 23) C dX5_write_23 rfl 0 rfl ?_
      refine g_ldc (v := (-1000006)) (pc := 24) C dX5_write_24 wk_X5_212 ?_
      obtain ⟨xr24, xσ22, xc23, h⟩ := iB h
      refine g_callVi (pc := 26) (As := [.int ((-1000006))]) (rest := []) C dX5_write_26 (fun l => c_X5_finding l y _ _ _ _ _ xc23) cv_X5_66 ⟨rfl, rfl, Nat.le_of_ble_eq_true rfl, Nat.le_of_ble_eq_true rfl⟩ (rv5 xq5) rfl (Nat.le_of_ble_eq_true rfl) ?_
      exact rtI hr dX5_write_29 h
  · have h := iP xq4 h
    refine g_aload_n (pc := 7) C dX5_write_7 rfl 0 rfl ?_
    refine g_ldc (v := (-1000001)) (pc := 8) C dX5_write_8 wk_X5_60 ?_
    obtain ⟨xq27, h⟩ := iC h
    have xq27 := keq xq27
    obtain ⟨xr28, xσ25, xc26, h⟩ := iB h
    refine g_callVi (pc := 10) (As := [.int ((-1000001))]) (rest := []) C dX5_write_10 (fun l => c_X5_finding l y _ _ _ _ _ xc26) cv_X5_66 ⟨rfl, rfl, Nat.le_of_ble_eq_true rfl, Nat.le_of_ble_eq_true rfl⟩ (rv5 xq27) rfl (Nat.le_of_ble_eq_true rfl) ?_
    exact rtI hr dX5_write_13 h
theorem c_X5_write (l : Launch) (y : YT) (xa0 : Nat) (xa1 : Int32) (xa2 : Int32) (xa3 : Int32) (σ σ' : Sto) (r : Int32) (h : F_X5_write xa0 xa1 xa2 xa3 σ = some (r, σ')) : MI l y yX5_write (Cond.code yX5_write cX5_write 4 (some .int) :: TT) rm_X5_write [.ref (yad y (xa0)), .int (xa1), .int (xa2), .int (xa3)] σ r σ' :=
  mkI (by decide) rfl rfl rfl (Nat.le_of_ble_eq_true rfl) (fun x Z C hr => b_X5_write_0 C hr xa0 xa1 xa2 xa3 σ h)

/-! methods, by program: what each does to the store (F_), its walk (b_), its contract (c_): X5_copy, X5_load, X5_judge, X5_image, X5_undo, X5_tear, X5_count, X5_status -/
def rm_X5_copy : Room := { frames := 2, cells := 0, slots := 0, locals := 42 }
def F_X5_copy_b165 (xk_165 : Nat → Int32 → Int32 → Int32 → Int32 → Sto → Option (Int32 × Sto)) (xa0 : Nat) (xa3 : Int32) (xa4 : Int32) (xa5 : Int32) (xa6 : Int32) (σ : Sto) : Option (Int32 × Sto) := if xa5 ≤ xa6 then some (xa5, σ) else ck (kd (xa0) == 5) (ck (inr (xa6) (40)) (ck (inr (((40 * xa3) + xa4) + xa6) (160)) (lts (up2 σ 59 ((((40 * xa3) + xa4) + xa6 : Int32).toNatClampNeg) (σ 60 (xa6.toNatClampNeg))) (fun xσ5 => xk_165 xa0 xa3 xa4 xa5 (xa6 + 1) xσ5))))
def F_X5_copy_b128 (xk_128 : Nat → Int32 → Int32 → Int32 → Int32 → Int32 → Int32 → Sto → Option (Int32 × Sto)) (xa0 : Nat) (xa1 : Int32) (xa2 : Int32) (xa3 : Int32) (xa4 : Int32) (xa5 : Int32) (xa6 : Int32) (σ : Sto) : Option (Int32 × Sto) := if xa5 ≤ xa6 then lo5 (F_X5_copy_b165) 1000 xa0 xa3 xa4 xa5 0 σ else ck (kd (xa0) == 5) (ck (inr (((40 * xa1) + xa2) + xa6) (160)) (ck (inr (xa6) (40)) (lts (up2 σ 60 (xa6.toNatClampNeg) (σ 59 ((((40 * xa1) + xa2) + xa6 : Int32).toNatClampNeg))) (fun xσ5 => xk_128 xa0 xa1 xa2 xa3 xa4 xa5 (xa6 + 1) xσ5))))
def F_X5_copy (xa0 : Nat) (xa1 : Int32) (xa2 : Int32) (xa3 : Int32) (xa4 : Int32) (xa5 : Int32) (σ : Sto) : Option (Int32 × Sto) := bnd (F_X5_isSheet (xa1) σ) (fun xr3 xσ1 => if (xr3) = 0 then ck (kd (xa0) == 5) (bnd (F_X5_finding (xa0) (-1000001) xσ1) (fun xr8 xσ5 => some (xr8, xσ5))) else bnd (F_X5_isSheet (xa3) xσ1) (fun xr11 xσ9 => if (xr11) = 0 then ck (kd (xa0) == 5) (bnd (F_X5_finding (xa0) (-1000001) xσ9) (fun xr55 xσ52 => some (xr55, xσ52))) else ck (kd (xa0) == 5) (ck (inr (xa1) (4)) (if (xσ9 57 (xa1.toNatClampNeg)) = 0 then bnd (F_X5_finding (xa0) (-1000006) xσ9) (fun xr18 xσ16 => some (xr18, xσ16)) else ck (inr (xa3) (4)) (if (xσ9 57 (xa3.toNatClampNeg)) = 0 then bnd (F_X5_finding (xa0) (-1000006) xσ9) (fun xr51 xσ49 => some (xr51, xσ49)) else ck (inr (xa1) (4)) (ck (inr (xa3) (4)) (if (xσ9 57 (xa1.toNatClampNeg)) = (xσ9 57 (xa3.toNatClampNeg)) then if (xa2) < 0 then bnd (F_X5_finding (xa0) (-1000001) xσ9) (fun xr27 xσ25 => some (xr27, xσ25)) else if (xa4) < 0 then bnd (F_X5_finding (xa0) (-1000001) xσ9) (fun xr31 xσ29 => some (xr31, xσ29)) else if (xa5) < 0 then bnd (F_X5_finding (xa0) (-1000001) xσ9) (fun xr35 xσ33 => some (xr35, xσ33)) else ck (inr (xa1) (4)) (if 0 < (lg_cmp (((xa2 : Int32).toInt64) + ((xa5 : Int32).toInt64)) ((xσ9 58 (xa1.toNatClampNeg) : Int32).toInt64)) then bnd (F_X5_finding (xa0) (-1000001) xσ9) (fun xr40 xσ38 => some (xr40, xσ38)) else ck (inr (xa3) (4)) (if (lg_cmp (((xa4 : Int32).toInt64) + ((xa5 : Int32).toInt64)) ((xσ9 58 (xa3.toNatClampNeg) : Int32).toInt64)) ≤ 0 then lo7 (F_X5_copy_b128) 1000 xa0 xa1 xa2 xa3 xa4 xa5 0 xσ9 else bnd (F_X5_finding (xa0) (-1000001) xσ9) (fun xr45 xσ43 => some (xr45, xσ43)))) else bnd (F_X5_finding (xa0) (-1000003) xσ9) (fun xr48 xσ46 => some (xr48, xσ46)))))))))
set_option maxHeartbeats 4000000 in
set_option maxRecDepth 20000 in
theorem b_X5_copy_165 {x : XT} {y : YT} {Z : State → Prop} (C : Cx x y (AY y) RX5 cX5_copy 7 rm_X5_copy) {r : Int32} {σ' : Sto} (hr : RetI x y (AY y) 7 cX5_copy Z r σ') (xk_165 : Nat → Int32 → Int32 → Int32 → Int32 → Sto → Option (Int32 × Sto)) (xH165 : ∀ (xa0 : Nat) (xa3 : Int32) (xa4 : Int32) (xa5 : Int32) (xa6 : Int32) (σ : Sto), xk_165 xa0 xa3 xa4 xa5 xa6 σ = some (r, σ') → GW x y (AY y) 7 Z 165 [(0, .ref (yad y (xa0))), (3, .int (xa3)), (4, .int (xa4)), (5, .int (xa5)), (6, .int (xa6))] [] σ) (xa0 : Nat) (xa3 : Int32) (xa4 : Int32) (xa5 : Int32) (xa6 : Int32) (σ : Sto) (h : F_X5_copy_b165 xk_165 xa0 xa3 xa4 xa5 xa6 σ = some (r, σ')) : GW x y (AY y) 7 Z 165 [(0, .ref (yad y (xa0))), (3, .int (xa3)), (4, .int (xa4)), (5, .int (xa5)), (6, .int (xa6))] [] σ := by
  unfold F_X5_copy_b165 at h
  refine g_iload (pc := 165) C dX5_copy_165 4 rfl ?_
  refine g_iload (pc := 167) C dX5_copy_167 3 rfl ?_
  refine g_icmp_ge (pc := 169) C dX5_copy_169 (tgt := 200) rfl (fun xq1 => ?_) (fun xq1 => ?_)
  · have h := iP xq1 h
    refine g_iload (pc := 200) C dX5_copy_200 3 rfl ?_
    exact rtI hr dX5_copy_202 h
  · have h := iN xq1 h
    refine g_aload_n (pc := 172) C dX5_copy_172 rfl 0 rfl ?_
    obtain ⟨xq2, h⟩ := iC h
    have xq2 := keq xq2
    refine gf_5_20 (pc := 173) C wf_X5_54 dX5_copy_173 xq2 ?_
    refine g_bipush (v := 40) (pc := 176) C dX5_copy_176 cb_40 ?_
    refine g_iload_n (pc := 178) C dX5_copy_178 rfl 1 rfl ?_
    refine g_imul (pc := 179) C dX5_copy_179 ?_
    refine g_iload (pc := 180) C dX5_copy_180 2 rfl ?_
    refine g_iadd (pc := 182) C dX5_copy_182 ?_
    refine g_iload (pc := 183) C dX5_copy_183 4 rfl ?_
    refine g_iadd (pc := 185) C dX5_copy_185 ?_
    refine g_aload_n (pc := 186) C dX5_copy_186 rfl 0 rfl ?_
    refine gf_5_21 (pc := 187) C wf_X5_57 dX5_copy_187 xq2 ?_
    refine g_iload (pc := 190) C dX5_copy_190 4 rfl ?_
    obtain ⟨xq3, h⟩ := iC h
    refine g_iald (pc := 192) C dX5_copy_192 rfl (ivp xq3 rfl) (j := xa6.toNatClampNeg) rfl ?_
    obtain ⟨xq4, h⟩ := iC h
    refine g_iast (pc := 193) C dX5_copy_193 rfl (ivp xq4 rfl) (j := (((40 * xa3) + xa4) + xa6 : Int32).toNatClampNeg) rfl ?_
    refine g_letS h (fun xσ5 h => ?_)
    refine g_iinc (lv' := [(6, .int (xa6 + 1)), (0, .ref (yad y (xa0))), (3, .int (xa3)), (4, .int (xa4)), (5, .int (xa5))]) (w := xa6 + 1) (pc := 194) C dX5_copy_194 (k := 4) rfl rfl (Nat.le_of_ble_eq_true rfl) rfl ?_
    refine g_goto (pc := 197) C dX5_copy_197 (tgt := 165) rfl ?_
    refine g_sub (lv' := [(0, .ref (yad y (xa0))), (3, .int (xa3)), (4, .int (xa4)), (5, .int (xa5)), (6, .int (xa6 + 1))]) C [1, 2, 3, 4, 0] rfl ?_
    exact xH165 xa0 xa3 xa4 xa5 (xa6 + 1) xσ5 h
theorem l_X5_copy_165 {x : XT} {y : YT} {Z : State → Prop} (C : Cx x y (AY y) RX5 cX5_copy 7 rm_X5_copy) {r : Int32} {σ' : Sto} (hr : RetI x y (AY y) 7 cX5_copy Z r σ') (n : Nat) (xa0 : Nat) (xa3 : Int32) (xa4 : Int32) (xa5 : Int32) (xa6 : Int32) (σ : Sto) (h : lo5 (F_X5_copy_b165) n xa0 xa3 xa4 xa5 xa6 σ = some (r, σ')) : GW x y (AY y) 7 Z 165 [(0, .ref (yad y (xa0))), (3, .int (xa3)), (4, .int (xa4)), (5, .int (xa5)), (6, .int (xa6))] [] σ :=
  lo5_gw (G := fun xa0 xa3 xa4 xa5 xa6 σ => GW x y (AY y) 7 Z 165 [(0, .ref (yad y (xa0))), (3, .int (xa3)), (4, .int (xa4)), (5, .int (xa5)), (6, .int (xa6))] [] σ) (fun xk xHk xa0 xa3 xa4 xa5 xa6 σ h => b_X5_copy_165 C hr xk xHk xa0 xa3 xa4 xa5 xa6 σ h) n xa0 xa3 xa4 xa5 xa6 σ h
set_option maxHeartbeats 4000000 in
set_option maxRecDepth 20000 in
theorem b_X5_copy_128 {x : XT} {y : YT} {Z : State → Prop} (C : Cx x y (AY y) RX5 cX5_copy 7 rm_X5_copy) {r : Int32} {σ' : Sto} (hr : RetI x y (AY y) 7 cX5_copy Z r σ') (xk_128 : Nat → Int32 → Int32 → Int32 → Int32 → Int32 → Int32 → Sto → Option (Int32 × Sto)) (xH128 : ∀ (xa0 : Nat) (xa1 : Int32) (xa2 : Int32) (xa3 : Int32) (xa4 : Int32) (xa5 : Int32) (xa6 : Int32) (σ : Sto), xk_128 xa0 xa1 xa2 xa3 xa4 xa5 xa6 σ = some (r, σ') → GW x y (AY y) 7 Z 128 [(0, .ref (yad y (xa0))), (1, .int (xa1)), (2, .int (xa2)), (3, .int (xa3)), (4, .int (xa4)), (5, .int (xa5)), (6, .int (xa6))] [] σ) (xa0 : Nat) (xa1 : Int32) (xa2 : Int32) (xa3 : Int32) (xa4 : Int32) (xa5 : Int32) (xa6 : Int32) (σ : Sto) (h : F_X5_copy_b128 xk_128 xa0 xa1 xa2 xa3 xa4 xa5 xa6 σ = some (r, σ')) : GW x y (AY y) 7 Z 128 [(0, .ref (yad y (xa0))), (1, .int (xa1)), (2, .int (xa2)), (3, .int (xa3)), (4, .int (xa4)), (5, .int (xa5)), (6, .int (xa6))] [] σ := by
  unfold F_X5_copy_b128 at h
  refine g_iload (pc := 128) C dX5_copy_128 6 rfl ?_
  refine g_iload (pc := 130) C dX5_copy_130 5 rfl ?_
  refine g_icmp_ge (pc := 132) C dX5_copy_132 (tgt := 162) rfl (fun xq1 => ?_) (fun xq1 => ?_)
  · have h := iP xq1 h
    refine g_iconst (v := 0) (pc := 162) C dX5_copy_162 ci_0 ?_
    refine g_istore (i := 6) (lv' := [(6, .int (0)), (0, .ref (yad y (xa0))), (1, .int (xa1)), (2, .int (xa2)), (3, .int (xa3)), (4, .int (xa4)), (5, .int (xa5))]) (pc := 163) C dX5_copy_163 (Nat.le_of_ble_eq_true rfl) rfl ?_
    refine g_sub (lv' := [(0, .ref (yad y (xa0))), (3, .int (xa3)), (4, .int (xa4)), (5, .int (xa5)), (6, .int (0))]) C [1, 4, 5, 6, 0] rfl ?_
    exact l_X5_copy_165 C hr 1000 xa0 xa3 xa4 xa5 0 σ h
  · have h := iN xq1 h
    refine g_aload_n (pc := 135) C dX5_copy_135 rfl 0 rfl ?_
    obtain ⟨xq2, h⟩ := iC h
    have xq2 := keq xq2
    refine gf_5_21 (pc := 136) C wf_X5_57 dX5_copy_136 xq2 ?_
    refine g_iload (pc := 139) C dX5_copy_139 6 rfl ?_
    refine g_aload_n (pc := 141) C dX5_copy_141 rfl 0 rfl ?_
    refine gf_5_20 (pc := 142) C wf_X5_54 dX5_copy_142 xq2 ?_
    refine g_bipush (v := 40) (pc := 145) C dX5_copy_145 cb_40 ?_
    refine g_iload_n (pc := 147) C dX5_copy_147 rfl 1 rfl ?_
    refine g_imul (pc := 148) C dX5_copy_148 ?_
    refine g_iload_n (pc := 149) C dX5_copy_149 rfl 2 rfl ?_
    refine g_iadd (pc := 150) C dX5_copy_150 ?_
    refine g_iload (pc := 151) C dX5_copy_151 6 rfl ?_
    refine g_iadd (pc := 153) C dX5_copy_153 ?_
    obtain ⟨xq3, h⟩ := iC h
    refine g_iald (pc := 154) C dX5_copy_154 rfl (ivp xq3 rfl) (j := (((40 * xa1) + xa2) + xa6 : Int32).toNatClampNeg) rfl ?_
    obtain ⟨xq4, h⟩ := iC h
    refine g_iast (pc := 155) C dX5_copy_155 rfl (ivp xq4 rfl) (j := xa6.toNatClampNeg) rfl ?_
    refine g_letS h (fun xσ5 h => ?_)
    refine g_iinc (lv' := [(6, .int (xa6 + 1)), (0, .ref (yad y (xa0))), (1, .int (xa1)), (2, .int (xa2)), (3, .int (xa3)), (4, .int (xa4)), (5, .int (xa5))]) (w := xa6 + 1) (pc := 156) C dX5_copy_156 (k := 6) rfl rfl (Nat.le_of_ble_eq_true rfl) rfl ?_
    refine g_goto (pc := 159) C dX5_copy_159 (tgt := 128) rfl ?_
    refine g_sub (lv' := [(0, .ref (yad y (xa0))), (1, .int (xa1)), (2, .int (xa2)), (3, .int (xa3)), (4, .int (xa4)), (5, .int (xa5)), (6, .int (xa6 + 1))]) C [1, 2, 3, 4, 5, 6, 0] rfl ?_
    exact xH128 xa0 xa1 xa2 xa3 xa4 xa5 (xa6 + 1) xσ5 h
theorem l_X5_copy_128 {x : XT} {y : YT} {Z : State → Prop} (C : Cx x y (AY y) RX5 cX5_copy 7 rm_X5_copy) {r : Int32} {σ' : Sto} (hr : RetI x y (AY y) 7 cX5_copy Z r σ') (n : Nat) (xa0 : Nat) (xa1 : Int32) (xa2 : Int32) (xa3 : Int32) (xa4 : Int32) (xa5 : Int32) (xa6 : Int32) (σ : Sto) (h : lo7 (F_X5_copy_b128) n xa0 xa1 xa2 xa3 xa4 xa5 xa6 σ = some (r, σ')) : GW x y (AY y) 7 Z 128 [(0, .ref (yad y (xa0))), (1, .int (xa1)), (2, .int (xa2)), (3, .int (xa3)), (4, .int (xa4)), (5, .int (xa5)), (6, .int (xa6))] [] σ :=
  lo7_gw (G := fun xa0 xa1 xa2 xa3 xa4 xa5 xa6 σ => GW x y (AY y) 7 Z 128 [(0, .ref (yad y (xa0))), (1, .int (xa1)), (2, .int (xa2)), (3, .int (xa3)), (4, .int (xa4)), (5, .int (xa5)), (6, .int (xa6))] [] σ) (fun xk xHk xa0 xa1 xa2 xa3 xa4 xa5 xa6 σ h => b_X5_copy_128 C hr xk xHk xa0 xa1 xa2 xa3 xa4 xa5 xa6 σ h) n xa0 xa1 xa2 xa3 xa4 xa5 xa6 σ h
set_option maxHeartbeats 4000000 in
set_option maxRecDepth 20000 in
theorem b_X5_copy_0 {x : XT} {y : YT} {Z : State → Prop} (C : Cx x y (AY y) RX5 cX5_copy 7 rm_X5_copy) {r : Int32} {σ' : Sto} (hr : RetI x y (AY y) 7 cX5_copy Z r σ') (xa0 : Nat) (xa1 : Int32) (xa2 : Int32) (xa3 : Int32) (xa4 : Int32) (xa5 : Int32) (σ : Sto) (h : F_X5_copy xa0 xa1 xa2 xa3 xa4 xa5 σ = some (r, σ')) : GW x y (AY y) 7 Z 0 [(0, .ref (yad y (xa0))), (1, .int (xa1)), (2, .int (xa2)), (3, .int (xa3)), (4, .int (xa4)), (5, .int (xa5))] [] σ := by
  unfold F_X5_copy at h
  refine g_iload_n (pc := 0) C dX5_copy_0 rfl 1 rfl ?_
  obtain ⟨xr3, xσ1, xc2, h⟩ := iB h
  refine g_callSi (pc := 1) (As := [.int (xa1)]) (rest := []) C dX5_copy_1 (fun l => c_X5_isSheet l y _ _ _ _ xc2) cv_X5_209 ⟨rfl, rfl, Nat.le_of_ble_eq_true rfl, Nat.le_of_ble_eq_true rfl⟩ rfl (Nat.le_of_ble_eq_true rfl) ?_
  refine g_if_eq (pc := 4) C dX5_copy_4 (tgt := 14) rfl (fun xq4 => ?_) (fun xq4 => ?_)
  · have h := iP xq4 h
    refine g_aload_n (pc := 14) C dX5_copy_14 rfl 0 rfl ?_
    refine g_ldc (v := (-1000001)) (pc := 15) C dX5_copy_15 wk_X5_60 ?_
    obtain ⟨xq7, h⟩ := iC h
    have xq7 := keq xq7
    obtain ⟨xr8, xσ5, xc6, h⟩ := iB h
    refine g_callVi (pc := 17) (As := [.int ((-1000001))]) (rest := []) C dX5_copy_17 (fun l => c_X5_finding l y _ _ _ _ _ xc6) cv_X5_66 ⟨rfl, rfl, Nat.le_of_ble_eq_true rfl, Nat.le_of_ble_eq_true rfl⟩ (rv5 xq7) rfl (Nat.le_of_ble_eq_true rfl) ?_
    exact rtI hr dX5_copy_20 h
  · have h := iN xq4 h
    refine g_iload_n (pc := 7) C dX5_copy_7 rfl 3 rfl ?_
    obtain ⟨xr11, xσ9, xc10, h⟩ := iB h
    refine g_callSi (pc := 8) (As := [.int (xa3)]) (rest := []) C dX5_copy_8 (fun l => c_X5_isSheet l y _ _ _ _ xc10) cv_X5_209 ⟨rfl, rfl, Nat.le_of_ble_eq_true rfl, Nat.le_of_ble_eq_true rfl⟩ rfl (Nat.le_of_ble_eq_true rfl) ?_
    refine g_if_ne (pc := 11) C dX5_copy_11 (tgt := 21) rfl (fun xq12 => ?_) (fun xq12 => ?_)
    · have h := iN xq12 h
      refine g_aload_n (pc := 21) C dX5_copy_21 rfl 0 rfl ?_
      obtain ⟨xq13, h⟩ := iC h
      have xq13 := keq xq13
      refine gf_5_18 (pc := 22) C wf_X5_48 dX5_copy_22 xq13 ?_
      refine g_iload_n (pc := 25) C dX5_copy_25 rfl 1 rfl ?_
      obtain ⟨xq14, h⟩ := iC h
      refine g_iald (pc := 26) C dX5_copy_26 rfl (ivp xq14 rfl) (j := xa1.toNatClampNeg) rfl ?_
      refine g_if_eq (pc := 27) C dX5_copy_27 (tgt := 39) rfl (fun xq15 => ?_) (fun xq15 => ?_)
      · have h := iP xq15 h
        refine g_aload_n (pc := 39) C dX5_copy_39 rfl 0 rfl ?_
        refine g_ldc (v := (-1000006)) (pc := 40) C dX5_copy_40 wk_X5_212 ?_
        obtain ⟨xr18, xσ16, xc17, h⟩ := iB h
        refine g_callVi (pc := 42) (As := [.int ((-1000006))]) (rest := []) C dX5_copy_42 (fun l => c_X5_finding l y _ _ _ _ _ xc17) cv_X5_66 ⟨rfl, rfl, Nat.le_of_ble_eq_true rfl, Nat.le_of_ble_eq_true rfl⟩ (rv5 xq13) rfl (Nat.le_of_ble_eq_true rfl) ?_
        exact rtI hr dX5_copy_45 h
      · have h := iN xq15 h
        refine g_aload_n (pc := 30) C dX5_copy_30 rfl 0 rfl ?_
        refine gf_5_18 (pc := 31) C wf_X5_48 dX5_copy_31 xq13 ?_
        refine g_iload_n (pc := 34) C dX5_copy_34 rfl 3 rfl ?_
        obtain ⟨xq19, h⟩ := iC h
        refine g_iald (pc := 35) C dX5_copy_35 rfl (ivp xq19 rfl) (j := xa3.toNatClampNeg) rfl ?_
        refine g_if_ne (pc := 36) C dX5_copy_36 (tgt := 46) rfl (fun xq20 => ?_) (fun xq20 => ?_)
        · have h := iN xq20 h
          refine g_aload_n (pc := 46) C dX5_copy_46 rfl 0 rfl ?_
          refine gf_5_18 (pc := 47) C wf_X5_48 dX5_copy_47 xq13 ?_
          refine g_iload_n (pc := 50) C dX5_copy_50 rfl 1 rfl ?_
          obtain ⟨xq21, h⟩ := iC h
          refine g_iald (pc := 51) C dX5_copy_51 rfl (ivp xq21 rfl) (j := xa1.toNatClampNeg) rfl ?_
          refine g_aload_n (pc := 52) C dX5_copy_52 rfl 0 rfl ?_
          refine gf_5_18 (pc := 53) C wf_X5_48 dX5_copy_53 xq13 ?_
          refine g_iload_n (pc := 56) C dX5_copy_56 rfl 3 rfl ?_
          obtain ⟨xq22, h⟩ := iC h
          refine g_iald (pc := 57) C dX5_copy_57 rfl (ivp xq22 rfl) (j := xa3.toNatClampNeg) rfl ?_
          refine g_icmp_eq (pc := 58) C dX5_copy_58 (tgt := 69) rfl (fun xq23 => ?_) (fun xq23 => ?_)
          · have h := iP xq23 h
            refine g_iload_n (pc := 69) C dX5_copy_69 rfl 2 rfl ?_
            refine g_if_lt (pc := 70) C dX5_copy_70 (tgt := 118) rfl (fun xq24 => ?_) (fun xq24 => ?_)
            · have h := iP xq24 h
              refine g_aload_n (pc := 118) C dX5_copy_118 rfl 0 rfl ?_
              refine g_ldc (v := (-1000001)) (pc := 119) C dX5_copy_119 wk_X5_60 ?_
              obtain ⟨xr27, xσ25, xc26, h⟩ := iB h
              refine g_callVi (pc := 121) (As := [.int ((-1000001))]) (rest := []) C dX5_copy_121 (fun l => c_X5_finding l y _ _ _ _ _ xc26) cv_X5_66 ⟨rfl, rfl, Nat.le_of_ble_eq_true rfl, Nat.le_of_ble_eq_true rfl⟩ (rv5 xq13) rfl (Nat.le_of_ble_eq_true rfl) ?_
              exact rtI hr dX5_copy_124 h
            · have h := iN xq24 h
              refine g_iload (pc := 73) C dX5_copy_73 4 rfl ?_
              refine g_if_lt (pc := 75) C dX5_copy_75 (tgt := 118) rfl (fun xq28 => ?_) (fun xq28 => ?_)
              · have h := iP xq28 h
                refine g_aload_n (pc := 118) C dX5_copy_118 rfl 0 rfl ?_
                refine g_ldc (v := (-1000001)) (pc := 119) C dX5_copy_119 wk_X5_60 ?_
                obtain ⟨xr31, xσ29, xc30, h⟩ := iB h
                refine g_callVi (pc := 121) (As := [.int ((-1000001))]) (rest := []) C dX5_copy_121 (fun l => c_X5_finding l y _ _ _ _ _ xc30) cv_X5_66 ⟨rfl, rfl, Nat.le_of_ble_eq_true rfl, Nat.le_of_ble_eq_true rfl⟩ (rv5 xq13) rfl (Nat.le_of_ble_eq_true rfl) ?_
                exact rtI hr dX5_copy_124 h
              · have h := iN xq28 h
                refine g_iload (pc := 78) C dX5_copy_78 5 rfl ?_
                refine g_if_lt (pc := 80) C dX5_copy_80 (tgt := 118) rfl (fun xq32 => ?_) (fun xq32 => ?_)
                · have h := iP xq32 h
                  refine g_aload_n (pc := 118) C dX5_copy_118 rfl 0 rfl ?_
                  refine g_ldc (v := (-1000001)) (pc := 119) C dX5_copy_119 wk_X5_60 ?_
                  obtain ⟨xr35, xσ33, xc34, h⟩ := iB h
                  refine g_callVi (pc := 121) (As := [.int ((-1000001))]) (rest := []) C dX5_copy_121 (fun l => c_X5_finding l y _ _ _ _ _ xc34) cv_X5_66 ⟨rfl, rfl, Nat.le_of_ble_eq_true rfl, Nat.le_of_ble_eq_true rfl⟩ (rv5 xq13) rfl (Nat.le_of_ble_eq_true rfl) ?_
                  exact rtI hr dX5_copy_124 h
                · have h := iN xq32 h
                  refine g_iload_n (pc := 83) C dX5_copy_83 rfl 2 rfl ?_
                  refine g_i2l (pc := 84) C dX5_copy_84 ?_
                  refine g_iload (pc := 85) C dX5_copy_85 5 rfl ?_
                  refine g_i2l (pc := 87) C dX5_copy_87 ?_
                  refine g_ladd (pc := 88) C dX5_copy_88 ?_
                  refine g_aload_n (pc := 89) C dX5_copy_89 rfl 0 rfl ?_
                  refine gf_5_19 (pc := 90) C wf_X5_51 dX5_copy_90 xq13 ?_
                  refine g_iload_n (pc := 93) C dX5_copy_93 rfl 1 rfl ?_
                  obtain ⟨xq36, h⟩ := iC h
                  refine g_iald (pc := 94) C dX5_copy_94 rfl (ivp xq36 rfl) (j := xa1.toNatClampNeg) rfl ?_
                  refine g_i2l (pc := 95) C dX5_copy_95 ?_
                  refine g_lcmp (pc := 96) C dX5_copy_96 ?_
                  refine g_if_gt (pc := 97) C dX5_copy_97 (tgt := 118) rfl (fun xq37 => ?_) (fun xq37 => ?_)
                  · have h := iP xq37 h
                    refine g_aload_n (pc := 118) C dX5_copy_118 rfl 0 rfl ?_
                    refine g_ldc (v := (-1000001)) (pc := 119) C dX5_copy_119 wk_X5_60 ?_
                    obtain ⟨xr40, xσ38, xc39, h⟩ := iB h
                    refine g_callVi (pc := 121) (As := [.int ((-1000001))]) (rest := []) C dX5_copy_121 (fun l => c_X5_finding l y _ _ _ _ _ xc39) cv_X5_66 ⟨rfl, rfl, Nat.le_of_ble_eq_true rfl, Nat.le_of_ble_eq_true rfl⟩ (rv5 xq13) rfl (Nat.le_of_ble_eq_true rfl) ?_
                    exact rtI hr dX5_copy_124 h
                  · have h := iN xq37 h
                    refine g_iload (pc := 100) C dX5_copy_100 4 rfl ?_
                    refine g_i2l (pc := 102) C dX5_copy_102 ?_
                    refine g_iload (pc := 103) C dX5_copy_103 5 rfl ?_
                    refine g_i2l (pc := 105) C dX5_copy_105 ?_
                    refine g_ladd (pc := 106) C dX5_copy_106 ?_
                    refine g_aload_n (pc := 107) C dX5_copy_107 rfl 0 rfl ?_
                    refine gf_5_19 (pc := 108) C wf_X5_51 dX5_copy_108 xq13 ?_
                    refine g_iload_n (pc := 111) C dX5_copy_111 rfl 3 rfl ?_
                    obtain ⟨xq41, h⟩ := iC h
                    refine g_iald (pc := 112) C dX5_copy_112 rfl (ivp xq41 rfl) (j := xa3.toNatClampNeg) rfl ?_
                    refine g_i2l (pc := 113) C dX5_copy_113 ?_
                    refine g_lcmp (pc := 114) C dX5_copy_114 ?_
                    refine g_if_le (pc := 115) C dX5_copy_115 (tgt := 125) rfl (fun xq42 => ?_) (fun xq42 => ?_)
                    · have h := iP xq42 h
                      refine g_iconst (v := 0) (pc := 125) C dX5_copy_125 ci_0 ?_
                      refine g_istore (i := 6) (lv' := [(6, .int (0)), (0, .ref (yad y (xa0))), (1, .int (xa1)), (2, .int (xa2)), (3, .int (xa3)), (4, .int (xa4)), (5, .int (xa5))]) (pc := 126) C dX5_copy_126 (Nat.le_of_ble_eq_true rfl) rfl ?_
                      refine g_sub (lv' := [(0, .ref (yad y (xa0))), (1, .int (xa1)), (2, .int (xa2)), (3, .int (xa3)), (4, .int (xa4)), (5, .int (xa5)), (6, .int (0))]) C [1, 2, 3, 4, 5, 6, 0] rfl ?_
                      exact l_X5_copy_128 C hr 1000 xa0 xa1 xa2 xa3 xa4 xa5 0 xσ9 h
                    · have h := iN xq42 h
                      refine g_aload_n (pc := 118) C dX5_copy_118 rfl 0 rfl ?_
                      refine g_ldc (v := (-1000001)) (pc := 119) C dX5_copy_119 wk_X5_60 ?_
                      obtain ⟨xr45, xσ43, xc44, h⟩ := iB h
                      refine g_callVi (pc := 121) (As := [.int ((-1000001))]) (rest := []) C dX5_copy_121 (fun l => c_X5_finding l y _ _ _ _ _ xc44) cv_X5_66 ⟨rfl, rfl, Nat.le_of_ble_eq_true rfl, Nat.le_of_ble_eq_true rfl⟩ (rv5 xq13) rfl (Nat.le_of_ble_eq_true rfl) ?_
                      exact rtI hr dX5_copy_124 h
          · have h := iN xq23 h
            refine g_aload_n (pc := 61) C dX5_copy_61 rfl 0 rfl ?_
            refine g_ldcw (v := (-1000003)) (pc := 62) C dX5_copy_62 wk_X5_334 ?_
            obtain ⟨xr48, xσ46, xc47, h⟩ := iB h
            refine g_callVi (pc := 65) (As := [.int ((-1000003))]) (rest := []) C dX5_copy_65 (fun l => c_X5_finding l y _ _ _ _ _ xc47) cv_X5_66 ⟨rfl, rfl, Nat.le_of_ble_eq_true rfl, Nat.le_of_ble_eq_true rfl⟩ (rv5 xq13) rfl (Nat.le_of_ble_eq_true rfl) ?_
            exact rtI hr dX5_copy_68 h
        · have h := iP xq20 h
          refine g_aload_n (pc := 39) C dX5_copy_39 rfl 0 rfl ?_
          refine g_ldc (v := (-1000006)) (pc := 40) C dX5_copy_40 wk_X5_212 ?_
          obtain ⟨xr51, xσ49, xc50, h⟩ := iB h
          refine g_callVi (pc := 42) (As := [.int ((-1000006))]) (rest := []) C dX5_copy_42 (fun l => c_X5_finding l y _ _ _ _ _ xc50) cv_X5_66 ⟨rfl, rfl, Nat.le_of_ble_eq_true rfl, Nat.le_of_ble_eq_true rfl⟩ (rv5 xq13) rfl (Nat.le_of_ble_eq_true rfl) ?_
          exact rtI hr dX5_copy_45 h
    · have h := iP xq12 h
      refine g_aload_n (pc := 14) C dX5_copy_14 rfl 0 rfl ?_
      refine g_ldc (v := (-1000001)) (pc := 15) C dX5_copy_15 wk_X5_60 ?_
      obtain ⟨xq54, h⟩ := iC h
      have xq54 := keq xq54
      obtain ⟨xr55, xσ52, xc53, h⟩ := iB h
      refine g_callVi (pc := 17) (As := [.int ((-1000001))]) (rest := []) C dX5_copy_17 (fun l => c_X5_finding l y _ _ _ _ _ xc53) cv_X5_66 ⟨rfl, rfl, Nat.le_of_ble_eq_true rfl, Nat.le_of_ble_eq_true rfl⟩ (rv5 xq54) rfl (Nat.le_of_ble_eq_true rfl) ?_
      exact rtI hr dX5_copy_20 h
theorem c_X5_copy (l : Launch) (y : YT) (xa0 : Nat) (xa1 : Int32) (xa2 : Int32) (xa3 : Int32) (xa4 : Int32) (xa5 : Int32) (σ σ' : Sto) (r : Int32) (h : F_X5_copy xa0 xa1 xa2 xa3 xa4 xa5 σ = some (r, σ')) : MI l y yX5_copy (Cond.code yX5_copy cX5_copy 7 (some .int) :: TT) rm_X5_copy [.ref (yad y (xa0)), .int (xa1), .int (xa2), .int (xa3), .int (xa4), .int (xa5)] σ r σ' :=
  mkI (by decide) rfl rfl rfl (Nat.le_of_ble_eq_true rfl) (fun x Z C hr => b_X5_copy_0 C hr xa0 xa1 xa2 xa3 xa4 xa5 σ h)
def rm_X5_load : Room := { frames := 3, cells := 0, slots := 0, locals := 64 }
def F_X5_load_b22 (xk_22 : Nat → Int32 → Int32 → Sto → Option (Int32 × Sto)) (xa0 : Nat) (xa1 : Int32) (xa2 : Int32) (σ : Sto) : Option (Int32 × Sto) := ck (kd (xa0) == 5) (ck (inr (xa1) (4)) (if (σ 58 (xa1.toNatClampNeg)) ≤ xa2 then some (xa2, σ) else bnd (F_X5_isPlace (xa2) σ) (fun xr6 xσ4 => if (xr6) = 0 then some (xa2, xσ4) else ck (inr ((40 * xa1) + xa2) (160)) (bnd (F_X5_isInQueue (xa0) (xσ4 59 (((40 * xa1) + xa2 : Int32).toNatClampNeg)) xσ4) (fun xr11 xσ9 => if (xr11) = 0 then some (xa2, xσ9) else ck (inr ((40 * xa1) + xa2) (160)) (ck (inr (17 + xa2) (79)) (lts (up2 xσ9 50 ((17 + xa2 : Int32).toNatClampNeg) (xσ9 59 (((40 * xa1) + xa2 : Int32).toNatClampNeg))) (fun xσ15 => xk_22 xa0 xa1 (xa2 + 1) xσ15))))))))
def F_X5_load (xa0 : Nat) (xa1 : Int32) (σ : Sto) : Option (Int32 × Sto) := ck (kd (xa0) == 5) (bnd (F_X5_lacks (xa0) (xa1) 1 σ) (fun xr4 xσ1 => if (xr4) = 0 then lo3 (F_X5_load_b22) 1000 xa0 xa1 0 xσ1 else bnd (F_X5_lacks (xa0) (xa1) 1 xσ1) (fun xr8 xσ6 => bnd (F_X5_finding (xa0) (xr8) xσ6) (fun xr11 xσ9 => some (xr11, xσ9)))))
set_option maxHeartbeats 4000000 in
set_option maxRecDepth 20000 in
theorem b_X5_load_22 {x : XT} {y : YT} {Z : State → Prop} (C : Cx x y (AY y) RX5 cX5_load 3 rm_X5_load) {r : Int32} {σ' : Sto} (hr : RetI x y (AY y) 3 cX5_load Z r σ') (xk_22 : Nat → Int32 → Int32 → Sto → Option (Int32 × Sto)) (xH22 : ∀ (xa0 : Nat) (xa1 : Int32) (xa2 : Int32) (σ : Sto), xk_22 xa0 xa1 xa2 σ = some (r, σ') → GW x y (AY y) 3 Z 22 [(0, .ref (yad y (xa0))), (1, .int (xa1)), (2, .int (xa2))] [] σ) (xa0 : Nat) (xa1 : Int32) (xa2 : Int32) (σ : Sto) (h : F_X5_load_b22 xk_22 xa0 xa1 xa2 σ = some (r, σ')) : GW x y (AY y) 3 Z 22 [(0, .ref (yad y (xa0))), (1, .int (xa1)), (2, .int (xa2))] [] σ := by
  unfold F_X5_load_b22 at h
  refine g_iload_n (pc := 22) C dX5_load_22 rfl 2 rfl ?_
  refine g_aload_n (pc := 23) C dX5_load_23 rfl 0 rfl ?_
  obtain ⟨xq1, h⟩ := iC h
  have xq1 := keq xq1
  refine gf_5_19 (pc := 24) C wf_X5_51 dX5_load_24 xq1 ?_
  refine g_iload_n (pc := 27) C dX5_load_27 rfl 1 rfl ?_
  obtain ⟨xq2, h⟩ := iC h
  refine g_iald (pc := 28) C dX5_load_28 rfl (ivp xq2 rfl) (j := xa1.toNatClampNeg) rfl ?_
  refine g_icmp_ge (pc := 29) C dX5_load_29 (tgt := 83) rfl (fun xq3 => ?_) (fun xq3 => ?_)
  · have h := iP xq3 h
    refine g_iload_n (pc := 83) C dX5_load_83 rfl 2 rfl ?_
    exact rtI hr dX5_load_84 h
  · have h := iN xq3 h
    refine g_iload_n (pc := 32) C dX5_load_32 rfl 2 rfl ?_
    obtain ⟨xr6, xσ4, xc5, h⟩ := iB h
    refine g_callSi (pc := 33) (As := [.int (xa2)]) (rest := []) C dX5_load_33 (fun l => c_X5_isPlace l y _ _ _ _ xc5) cv_X5_87 ⟨rfl, rfl, Nat.le_of_ble_eq_true rfl, Nat.le_of_ble_eq_true rfl⟩ rfl (Nat.le_of_ble_eq_true rfl) ?_
    refine g_if_eq (pc := 36) C dX5_load_36 (tgt := 83) rfl (fun xq7 => ?_) (fun xq7 => ?_)
    · have h := iP xq7 h
      refine g_iload_n (pc := 83) C dX5_load_83 rfl 2 rfl ?_
      exact rtI hr dX5_load_84 h
    · have h := iN xq7 h
      refine g_aload_n (pc := 39) C dX5_load_39 rfl 0 rfl ?_
      refine g_aload_n (pc := 40) C dX5_load_40 rfl 0 rfl ?_
      refine gf_5_20 (pc := 41) C wf_X5_54 dX5_load_41 xq1 ?_
      refine g_bipush (v := 40) (pc := 44) C dX5_load_44 cb_40 ?_
      refine g_iload_n (pc := 46) C dX5_load_46 rfl 1 rfl ?_
      refine g_imul (pc := 47) C dX5_load_47 ?_
      refine g_iload_n (pc := 48) C dX5_load_48 rfl 2 rfl ?_
      refine g_iadd (pc := 49) C dX5_load_49 ?_
      obtain ⟨xq8, h⟩ := iC h
      refine g_iald (pc := 50) C dX5_load_50 rfl (ivp xq8 rfl) (j := ((40 * xa1) + xa2 : Int32).toNatClampNeg) rfl ?_
      obtain ⟨xr11, xσ9, xc10, h⟩ := iB h
      refine g_callVi (pc := 51) (As := [.int (xσ4 59 (((40 * xa1) + xa2 : Int32).toNatClampNeg))]) (rest := []) C dX5_load_51 (fun l => c_X5_isInQueue l y _ _ _ _ _ xc10) cv_X5_90 ⟨rfl, rfl, Nat.le_of_ble_eq_true rfl, Nat.le_of_ble_eq_true rfl⟩ (rv5 xq1) rfl (Nat.le_of_ble_eq_true rfl) ?_
      refine g_if_eq (pc := 54) C dX5_load_54 (tgt := 83) rfl (fun xq12 => ?_) (fun xq12 => ?_)
      · have h := iP xq12 h
        refine g_iload_n (pc := 83) C dX5_load_83 rfl 2 rfl ?_
        exact rtI hr dX5_load_84 h
      · have h := iN xq12 h
        refine g_aload_n (pc := 57) C dX5_load_57 rfl 0 rfl ?_
        refine gf_5_0 (pc := 58) C wf_X5_9 dX5_load_58 xq1 ?_
        refine g_bipush (v := 17) (pc := 61) C dX5_load_61 cb_17 ?_
        refine g_iload_n (pc := 63) C dX5_load_63 rfl 2 rfl ?_
        refine g_iadd (pc := 64) C dX5_load_64 ?_
        refine g_aload_n (pc := 65) C dX5_load_65 rfl 0 rfl ?_
        refine gf_5_20 (pc := 66) C wf_X5_54 dX5_load_66 xq1 ?_
        refine g_bipush (v := 40) (pc := 69) C dX5_load_69 cb_40 ?_
        refine g_iload_n (pc := 71) C dX5_load_71 rfl 1 rfl ?_
        refine g_imul (pc := 72) C dX5_load_72 ?_
        refine g_iload_n (pc := 73) C dX5_load_73 rfl 2 rfl ?_
        refine g_iadd (pc := 74) C dX5_load_74 ?_
        obtain ⟨xq13, h⟩ := iC h
        refine g_iald (pc := 75) C dX5_load_75 rfl (ivp xq13 rfl) (j := ((40 * xa1) + xa2 : Int32).toNatClampNeg) rfl ?_
        obtain ⟨xq14, h⟩ := iC h
        refine g_iast (pc := 76) C dX5_load_76 rfl (ivp xq14 rfl) (j := (17 + xa2 : Int32).toNatClampNeg) rfl ?_
        refine g_letS h (fun xσ15 h => ?_)
        refine g_iinc (lv' := [(2, .int (xa2 + 1)), (0, .ref (yad y (xa0))), (1, .int (xa1))]) (w := xa2 + 1) (pc := 77) C dX5_load_77 (k := 2) rfl rfl (Nat.le_of_ble_eq_true rfl) rfl ?_
        refine g_goto (pc := 80) C dX5_load_80 (tgt := 22) rfl ?_
        refine g_sub (lv' := [(0, .ref (yad y (xa0))), (1, .int (xa1)), (2, .int (xa2 + 1))]) C [1, 2, 0] rfl ?_
        exact xH22 xa0 xa1 (xa2 + 1) xσ15 h
theorem l_X5_load_22 {x : XT} {y : YT} {Z : State → Prop} (C : Cx x y (AY y) RX5 cX5_load 3 rm_X5_load) {r : Int32} {σ' : Sto} (hr : RetI x y (AY y) 3 cX5_load Z r σ') (n : Nat) (xa0 : Nat) (xa1 : Int32) (xa2 : Int32) (σ : Sto) (h : lo3 (F_X5_load_b22) n xa0 xa1 xa2 σ = some (r, σ')) : GW x y (AY y) 3 Z 22 [(0, .ref (yad y (xa0))), (1, .int (xa1)), (2, .int (xa2))] [] σ :=
  lo3_gw (G := fun xa0 xa1 xa2 σ => GW x y (AY y) 3 Z 22 [(0, .ref (yad y (xa0))), (1, .int (xa1)), (2, .int (xa2))] [] σ) (fun xk xHk xa0 xa1 xa2 σ h => b_X5_load_22 C hr xk xHk xa0 xa1 xa2 σ h) n xa0 xa1 xa2 σ h
set_option maxHeartbeats 4000000 in
set_option maxRecDepth 20000 in
theorem b_X5_load_0 {x : XT} {y : YT} {Z : State → Prop} (C : Cx x y (AY y) RX5 cX5_load 3 rm_X5_load) {r : Int32} {σ' : Sto} (hr : RetI x y (AY y) 3 cX5_load Z r σ') (xa0 : Nat) (xa1 : Int32) (σ : Sto) (h : F_X5_load xa0 xa1 σ = some (r, σ')) : GW x y (AY y) 3 Z 0 [(0, .ref (yad y (xa0))), (1, .int (xa1))] [] σ := by
  unfold F_X5_load at h
  refine g_aload_n (pc := 0) C dX5_load_0 rfl 0 rfl ?_
  refine g_iload_n (pc := 1) C dX5_load_1 rfl 1 rfl ?_
  refine g_iconst (v := 1) (pc := 2) C dX5_load_2 ci_1 ?_
  obtain ⟨xq3, h⟩ := iC h
  have xq3 := keq xq3
  obtain ⟨xr4, xσ1, xc2, h⟩ := iB h
  refine g_callVi (pc := 3) (As := [.int (xa1), .int (1)]) (rest := []) C dX5_load_3 (fun l => c_X5_lacks l y _ _ _ _ _ _ xc2) cv_X5_223 ⟨rfl, rfl, Nat.le_of_ble_eq_true rfl, Nat.le_of_ble_eq_true rfl⟩ (rv5 xq3) rfl (Nat.le_of_ble_eq_true rfl) ?_
  refine g_if_eq (pc := 6) C dX5_load_6 (tgt := 20) rfl (fun xq5 => ?_) (fun xq5 => ?_)
  · have h := iP xq5 h
    refine g_iconst (v := 0) (pc := 20) C dX5_load_20 ci_0 ?_
    refine g_istore_n (i := 2) (lv' := [(2, .int (0)), (0, .ref (yad y (xa0))), (1, .int (xa1))]) (pc := 21) C dX5_load_21 rfl (Nat.le_of_ble_eq_true rfl) rfl ?_
    refine g_sub (lv' := [(0, .ref (yad y (xa0))), (1, .int (xa1)), (2, .int (0))]) C [1, 2, 0] rfl ?_
    exact l_X5_load_22 C hr 1000 xa0 xa1 0 xσ1 h
  · have h := iN xq5 h
    refine g_aload_n (pc := 9) C dX5_load_9 rfl 0 rfl ?_
    refine g_aload_n (pc := 10) C dX5_load_10 rfl 0 rfl ?_
    refine g_iload_n (pc := 11) C dX5_load_11 rfl 1 rfl ?_
    refine g_iconst (v := 1) (pc := 12) C dX5_load_12 ci_1 ?_
    obtain ⟨xr8, xσ6, xc7, h⟩ := iB h
    refine g_callVi (pc := 13) (As := [.int (xa1), .int (1)]) (rest := [.ref (yad y (xa0))]) C dX5_load_13 (fun l => c_X5_lacks l y _ _ _ _ _ _ xc7) cv_X5_223 ⟨rfl, rfl, Nat.le_of_ble_eq_true rfl, Nat.le_of_ble_eq_true rfl⟩ (rv5 xq3) rfl (Nat.le_of_ble_eq_true rfl) ?_
    obtain ⟨xr11, xσ9, xc10, h⟩ := iB h
    refine g_callVi (pc := 16) (As := [.int (xr8)]) (rest := []) C dX5_load_16 (fun l => c_X5_finding l y _ _ _ _ _ xc10) cv_X5_66 ⟨rfl, rfl, Nat.le_of_ble_eq_true rfl, Nat.le_of_ble_eq_true rfl⟩ (rv5 xq3) rfl (Nat.le_of_ble_eq_true rfl) ?_
    exact rtI hr dX5_load_19 h
theorem c_X5_load (l : Launch) (y : YT) (xa0 : Nat) (xa1 : Int32) (σ σ' : Sto) (r : Int32) (h : F_X5_load xa0 xa1 σ = some (r, σ')) : MI l y yX5_load (Cond.code yX5_load cX5_load 3 (some .int) :: TT) rm_X5_load [.ref (yad y (xa0)), .int (xa1)] σ r σ' :=
  mkI (by decide) rfl rfl rfl (Nat.le_of_ble_eq_true rfl) (fun x Z C hr => b_X5_load_0 C hr xa0 xa1 σ h)
def rm_X5_judge : Room := { frames := 3, cells := 0, slots := 0, locals := 64 }
def F_X5_judge_b66 (xa0 : Nat) (xa1 : Int32) (xa2 : Int32) (σ : Sto) : Option (Int32 × Sto) := ck (kd (xa0) == 5) (ck (inr (xa1) (4)) (if xa2 = (σ 58 (xa1.toNatClampNeg)) then some (0, σ) else some (1 + xa2, σ)))
def F_X5_judge_b22 (xk_22 : Nat → Int32 → Int32 → Sto → Option (Int32 × Sto)) (xa0 : Nat) (xa1 : Int32) (xa2 : Int32) (σ : Sto) : Option (Int32 × Sto) := ck (kd (xa0) == 5) (ck (inr (xa1) (4)) (if (σ 58 (xa1.toNatClampNeg)) ≤ xa2 then F_X5_judge_b66 xa0 xa1 xa2 σ else bnd (F_X5_isSitter (xa0) (xa2) σ) (fun xr6 xσ4 => if (xr6) = 0 then F_X5_judge_b66 xa0 xa1 xa2 xσ4 else ck (inr ((40 * xa1) + xa2) (160)) (bnd (F_X5_sitterIs (xa0) (xa2) 5 xσ4) (fun xr11 xσ9 => if (xσ4 59 (((40 * xa1) + xa2 : Int32).toNatClampNeg)) = xr11 then xk_22 xa0 xa1 (xa2 + 1) xσ9 else F_X5_judge_b66 xa0 xa1 xa2 xσ9)))))
def F_X5_judge (xa0 : Nat) (xa1 : Int32) (σ : Sto) : Option (Int32 × Sto) := ck (kd (xa0) == 5) (bnd (F_X5_lacks (xa0) (xa1) 1 σ) (fun xr4 xσ1 => if (xr4) = 0 then lo3 (F_X5_judge_b22) 1000 xa0 xa1 0 xσ1 else bnd (F_X5_lacks (xa0) (xa1) 1 xσ1) (fun xr8 xσ6 => bnd (F_X5_finding (xa0) (xr8) xσ6) (fun xr11 xσ9 => some (xr11, xσ9)))))
set_option maxHeartbeats 4000000 in
set_option maxRecDepth 20000 in
theorem b_X5_judge_66 {x : XT} {y : YT} {Z : State → Prop} (C : Cx x y (AY y) RX5 cX5_judge 3 rm_X5_judge) {r : Int32} {σ' : Sto} (hr : RetI x y (AY y) 3 cX5_judge Z r σ') (xa0 : Nat) (xa1 : Int32) (xa2 : Int32) (σ : Sto) (h : F_X5_judge_b66 xa0 xa1 xa2 σ = some (r, σ')) : GW x y (AY y) 3 Z 66 [(0, .ref (yad y (xa0))), (1, .int (xa1)), (2, .int (xa2))] [] σ := by
  unfold F_X5_judge_b66 at h
  refine g_iload_n (pc := 66) C dX5_judge_66 rfl 2 rfl ?_
  refine g_aload_n (pc := 67) C dX5_judge_67 rfl 0 rfl ?_
  obtain ⟨xq1, h⟩ := iC h
  have xq1 := keq xq1
  refine gf_5_19 (pc := 68) C wf_X5_51 dX5_judge_68 xq1 ?_
  refine g_iload_n (pc := 71) C dX5_judge_71 rfl 1 rfl ?_
  obtain ⟨xq2, h⟩ := iC h
  refine g_iald (pc := 72) C dX5_judge_72 rfl (ivp xq2 rfl) (j := xa1.toNatClampNeg) rfl ?_
  refine g_icmp_ne (pc := 73) C dX5_judge_73 (tgt := 80) rfl (fun xq3 => ?_) (fun xq3 => ?_)
  · have h := iN xq3 h
    refine g_iconst (v := 1) (pc := 80) C dX5_judge_80 ci_1 ?_
    refine g_iload_n (pc := 81) C dX5_judge_81 rfl 2 rfl ?_
    refine g_iadd (pc := 82) C dX5_judge_82 ?_
    exact rtI hr dX5_judge_83 h
  · have h := iP xq3 h
    refine g_iconst (v := 0) (pc := 76) C dX5_judge_76 ci_0 ?_
    refine g_goto (pc := 77) C dX5_judge_77 (tgt := 83) rfl ?_
    exact rtI hr dX5_judge_83 h
set_option maxHeartbeats 4000000 in
set_option maxRecDepth 20000 in
theorem b_X5_judge_22 {x : XT} {y : YT} {Z : State → Prop} (C : Cx x y (AY y) RX5 cX5_judge 3 rm_X5_judge) {r : Int32} {σ' : Sto} (hr : RetI x y (AY y) 3 cX5_judge Z r σ') (xk_22 : Nat → Int32 → Int32 → Sto → Option (Int32 × Sto)) (xH22 : ∀ (xa0 : Nat) (xa1 : Int32) (xa2 : Int32) (σ : Sto), xk_22 xa0 xa1 xa2 σ = some (r, σ') → GW x y (AY y) 3 Z 22 [(0, .ref (yad y (xa0))), (1, .int (xa1)), (2, .int (xa2))] [] σ) (xa0 : Nat) (xa1 : Int32) (xa2 : Int32) (σ : Sto) (h : F_X5_judge_b22 xk_22 xa0 xa1 xa2 σ = some (r, σ')) : GW x y (AY y) 3 Z 22 [(0, .ref (yad y (xa0))), (1, .int (xa1)), (2, .int (xa2))] [] σ := by
  unfold F_X5_judge_b22 at h
  refine g_iload_n (pc := 22) C dX5_judge_22 rfl 2 rfl ?_
  refine g_aload_n (pc := 23) C dX5_judge_23 rfl 0 rfl ?_
  obtain ⟨xq1, h⟩ := iC h
  have xq1 := keq xq1
  refine gf_5_19 (pc := 24) C wf_X5_51 dX5_judge_24 xq1 ?_
  refine g_iload_n (pc := 27) C dX5_judge_27 rfl 1 rfl ?_
  obtain ⟨xq2, h⟩ := iC h
  refine g_iald (pc := 28) C dX5_judge_28 rfl (ivp xq2 rfl) (j := xa1.toNatClampNeg) rfl ?_
  refine g_icmp_ge (pc := 29) C dX5_judge_29 (tgt := 66) rfl (fun xq3 => ?_) (fun xq3 => ?_)
  · have h := iP xq3 h
    exact b_X5_judge_66 C hr xa0 xa1 xa2 σ h
  · have h := iN xq3 h
    refine g_aload_n (pc := 32) C dX5_judge_32 rfl 0 rfl ?_
    refine g_iload_n (pc := 33) C dX5_judge_33 rfl 2 rfl ?_
    obtain ⟨xr6, xσ4, xc5, h⟩ := iB h
    refine g_callVi (pc := 34) (As := [.int (xa2)]) (rest := []) C dX5_judge_34 (fun l => c_X5_isSitter l y _ _ _ _ _ xc5) cv_X5_83 ⟨rfl, rfl, Nat.le_of_ble_eq_true rfl, Nat.le_of_ble_eq_true rfl⟩ (rv5 xq1) rfl (Nat.le_of_ble_eq_true rfl) ?_
    refine g_if_eq (pc := 37) C dX5_judge_37 (tgt := 66) rfl (fun xq7 => ?_) (fun xq7 => ?_)
    · have h := iP xq7 h
      exact b_X5_judge_66 C hr xa0 xa1 xa2 xσ4 h
    · have h := iN xq7 h
      refine g_aload_n (pc := 40) C dX5_judge_40 rfl 0 rfl ?_
      refine gf_5_20 (pc := 41) C wf_X5_54 dX5_judge_41 xq1 ?_
      refine g_bipush (v := 40) (pc := 44) C dX5_judge_44 cb_40 ?_
      refine g_iload_n (pc := 46) C dX5_judge_46 rfl 1 rfl ?_
      refine g_imul (pc := 47) C dX5_judge_47 ?_
      refine g_iload_n (pc := 48) C dX5_judge_48 rfl 2 rfl ?_
      refine g_iadd (pc := 49) C dX5_judge_49 ?_
      obtain ⟨xq8, h⟩ := iC h
      refine g_iald (pc := 50) C dX5_judge_50 rfl (ivp xq8 rfl) (j := ((40 * xa1) + xa2 : Int32).toNatClampNeg) rfl ?_
      refine g_aload_n (pc := 51) C dX5_judge_51 rfl 0 rfl ?_
      refine g_iload_n (pc := 52) C dX5_judge_52 rfl 2 rfl ?_
      refine g_iconst (v := 5) (pc := 53) C dX5_judge_53 ci_5 ?_
      obtain ⟨xr11, xσ9, xc10, h⟩ := iB h
      refine g_callVi (pc := 54) (As := [.int (xa2), .int (5)]) (rest := [.int (xσ4 59 (((40 * xa1) + xa2 : Int32).toNatClampNeg))]) C dX5_judge_54 (fun l => c_X5_sitterIs l y _ _ _ _ _ _ xc10) cv_X5_104 ⟨rfl, rfl, Nat.le_of_ble_eq_true rfl, Nat.le_of_ble_eq_true rfl⟩ (rv5 xq1) rfl (Nat.le_of_ble_eq_true rfl) ?_
      refine g_icmp_ne (pc := 57) C dX5_judge_57 (tgt := 66) rfl (fun xq12 => ?_) (fun xq12 => ?_)
      · have h := iN xq12 h
        exact b_X5_judge_66 C hr xa0 xa1 xa2 xσ9 h
      · have h := iP xq12 h
        refine g_iinc (lv' := [(2, .int (xa2 + 1)), (0, .ref (yad y (xa0))), (1, .int (xa1))]) (w := xa2 + 1) (pc := 60) C dX5_judge_60 (k := 2) rfl rfl (Nat.le_of_ble_eq_true rfl) rfl ?_
        refine g_goto (pc := 63) C dX5_judge_63 (tgt := 22) rfl ?_
        refine g_sub (lv' := [(0, .ref (yad y (xa0))), (1, .int (xa1)), (2, .int (xa2 + 1))]) C [1, 2, 0] rfl ?_
        exact xH22 xa0 xa1 (xa2 + 1) xσ9 h
theorem l_X5_judge_22 {x : XT} {y : YT} {Z : State → Prop} (C : Cx x y (AY y) RX5 cX5_judge 3 rm_X5_judge) {r : Int32} {σ' : Sto} (hr : RetI x y (AY y) 3 cX5_judge Z r σ') (n : Nat) (xa0 : Nat) (xa1 : Int32) (xa2 : Int32) (σ : Sto) (h : lo3 (F_X5_judge_b22) n xa0 xa1 xa2 σ = some (r, σ')) : GW x y (AY y) 3 Z 22 [(0, .ref (yad y (xa0))), (1, .int (xa1)), (2, .int (xa2))] [] σ :=
  lo3_gw (G := fun xa0 xa1 xa2 σ => GW x y (AY y) 3 Z 22 [(0, .ref (yad y (xa0))), (1, .int (xa1)), (2, .int (xa2))] [] σ) (fun xk xHk xa0 xa1 xa2 σ h => b_X5_judge_22 C hr xk xHk xa0 xa1 xa2 σ h) n xa0 xa1 xa2 σ h
set_option maxHeartbeats 4000000 in
set_option maxRecDepth 20000 in
theorem b_X5_judge_0 {x : XT} {y : YT} {Z : State → Prop} (C : Cx x y (AY y) RX5 cX5_judge 3 rm_X5_judge) {r : Int32} {σ' : Sto} (hr : RetI x y (AY y) 3 cX5_judge Z r σ') (xa0 : Nat) (xa1 : Int32) (σ : Sto) (h : F_X5_judge xa0 xa1 σ = some (r, σ')) : GW x y (AY y) 3 Z 0 [(0, .ref (yad y (xa0))), (1, .int (xa1))] [] σ := by
  unfold F_X5_judge at h
  refine g_aload_n (pc := 0) C dX5_judge_0 rfl 0 rfl ?_
  refine g_iload_n (pc := 1) C dX5_judge_1 rfl 1 rfl ?_
  refine g_iconst (v := 1) (pc := 2) C dX5_judge_2 ci_1 ?_
  obtain ⟨xq3, h⟩ := iC h
  have xq3 := keq xq3
  obtain ⟨xr4, xσ1, xc2, h⟩ := iB h
  refine g_callVi (pc := 3) (As := [.int (xa1), .int (1)]) (rest := []) C dX5_judge_3 (fun l => c_X5_lacks l y _ _ _ _ _ _ xc2) cv_X5_223 ⟨rfl, rfl, Nat.le_of_ble_eq_true rfl, Nat.le_of_ble_eq_true rfl⟩ (rv5 xq3) rfl (Nat.le_of_ble_eq_true rfl) ?_
  refine g_if_eq (pc := 6) C dX5_judge_6 (tgt := 20) rfl (fun xq5 => ?_) (fun xq5 => ?_)
  · have h := iP xq5 h
    refine g_iconst (v := 0) (pc := 20) C dX5_judge_20 ci_0 ?_
    refine g_istore_n (i := 2) (lv' := [(2, .int (0)), (0, .ref (yad y (xa0))), (1, .int (xa1))]) (pc := 21) C dX5_judge_21 rfl (Nat.le_of_ble_eq_true rfl) rfl ?_
    refine g_sub (lv' := [(0, .ref (yad y (xa0))), (1, .int (xa1)), (2, .int (0))]) C [1, 2, 0] rfl ?_
    exact l_X5_judge_22 C hr 1000 xa0 xa1 0 xσ1 h
  · have h := iN xq5 h
    refine g_aload_n (pc := 9) C dX5_judge_9 rfl 0 rfl ?_
    refine g_aload_n (pc := 10) C dX5_judge_10 rfl 0 rfl ?_
    refine g_iload_n (pc := 11) C dX5_judge_11 rfl 1 rfl ?_
    refine g_iconst (v := 1) (pc := 12) C dX5_judge_12 ci_1 ?_
    obtain ⟨xr8, xσ6, xc7, h⟩ := iB h
    refine g_callVi (pc := 13) (As := [.int (xa1), .int (1)]) (rest := [.ref (yad y (xa0))]) C dX5_judge_13 (fun l => c_X5_lacks l y _ _ _ _ _ _ xc7) cv_X5_223 ⟨rfl, rfl, Nat.le_of_ble_eq_true rfl, Nat.le_of_ble_eq_true rfl⟩ (rv5 xq3) rfl (Nat.le_of_ble_eq_true rfl) ?_
    obtain ⟨xr11, xσ9, xc10, h⟩ := iB h
    refine g_callVi (pc := 16) (As := [.int (xr8)]) (rest := []) C dX5_judge_16 (fun l => c_X5_finding l y _ _ _ _ _ xc10) cv_X5_66 ⟨rfl, rfl, Nat.le_of_ble_eq_true rfl, Nat.le_of_ble_eq_true rfl⟩ (rv5 xq3) rfl (Nat.le_of_ble_eq_true rfl) ?_
    exact rtI hr dX5_judge_19 h
theorem c_X5_judge (l : Launch) (y : YT) (xa0 : Nat) (xa1 : Int32) (σ σ' : Sto) (r : Int32) (h : F_X5_judge xa0 xa1 σ = some (r, σ')) : MI l y yX5_judge (Cond.code yX5_judge cX5_judge 3 (some .int) :: TT) rm_X5_judge [.ref (yad y (xa0)), .int (xa1)] σ r σ' :=
  mkI (by decide) rfl rfl rfl (Nat.le_of_ble_eq_true rfl) (fun x Z C hr => b_X5_judge_0 C hr xa0 xa1 σ h)
def rm_X5_image : Room := { frames := 1, cells := 0, slots := 0, locals := 22 }
def F_X5_image (xa0 : Nat) (σ : Sto) : Option (Int32 × Sto) := ck (kd (xa0) == 5) (bnd (F_X5_copyRow (50) (51) σ) (fun xr4 xσ2 => lts (up2 xσ2 (xa0) 3 (1)) (fun xσ5 => some (1, xσ5))))
set_option maxHeartbeats 4000000 in
set_option maxRecDepth 20000 in
theorem b_X5_image_0 {x : XT} {y : YT} {Z : State → Prop} (C : Cx x y (AY y) RX5 cX5_image 1 rm_X5_image) {r : Int32} {σ' : Sto} (hr : RetI x y (AY y) 1 cX5_image Z r σ') (xa0 : Nat) (σ : Sto) (h : F_X5_image xa0 σ = some (r, σ')) : GW x y (AY y) 1 Z 0 [(0, .ref (yad y (xa0)))] [] σ := by
  unfold F_X5_image at h
  refine g_aload_n (pc := 0) C dX5_image_0 rfl 0 rfl ?_
  obtain ⟨xq1, h⟩ := iC h
  have xq1 := keq xq1
  refine gf_5_0 (pc := 1) C wf_X5_9 dX5_image_1 xq1 ?_
  refine g_aload_n (pc := 4) C dX5_image_4 rfl 0 rfl ?_
  refine gf_5_1 (pc := 5) C wf_X5_13 dX5_image_5 xq1 ?_
  obtain ⟨xr4, xσ2, xc3, h⟩ := iB h
  refine g_callSv (pc := 8) (As := [.ref (yad y (50)), .ref (yad y (51))]) (rest := []) C dX5_image_8 (fun l => c_X5_copyRow l y _ _ _ _ _ xc3) cv_X5_61 ⟨rfl, rfl, Nat.le_of_ble_eq_true rfl, Nat.le_of_ble_eq_true rfl⟩ rfl (Nat.le_of_ble_eq_true rfl) ?_
  refine g_aload_n (pc := 11) C dX5_image_11 rfl 0 rfl ?_
  refine g_iconst (v := 1) (pc := 12) C dX5_image_12 ci_1 ?_
  refine gp_5_3 (pc := 13) C wf_X5_342 dX5_image_13 xq1 (by decide) ?_
  refine g_letS h (fun xσ5 h => ?_)
  refine g_iconst (v := 1) (pc := 16) C dX5_image_16 ci_1 ?_
  exact rtI hr dX5_image_17 h
theorem c_X5_image (l : Launch) (y : YT) (xa0 : Nat) (σ σ' : Sto) (r : Int32) (h : F_X5_image xa0 σ = some (r, σ')) : MI l y yX5_image (Cond.code yX5_image cX5_image 1 (some .int) :: TT) rm_X5_image [.ref (yad y (xa0))] σ r σ' :=
  mkI (by decide) rfl rfl rfl (Nat.le_of_ble_eq_true rfl) (fun x Z C hr => b_X5_image_0 C hr xa0 σ h)
def rm_X5_undo : Room := { frames := 1, cells := 0, slots := 0, locals := 22 }
def F_X5_undo (xa0 : Nat) (σ : Sto) : Option (Int32 × Sto) := ck (kd (xa0) == 5) (if (σ xa0 3) = 0 then bnd (F_X5_finding (xa0) (-1000004) σ) (fun xr8 xσ6 => some (xr8, xσ6)) else bnd (F_X5_copyRow (51) (50) σ) (fun xr5 xσ3 => some (xσ3 50 0, xσ3)))
set_option maxHeartbeats 4000000 in
set_option maxRecDepth 20000 in
theorem b_X5_undo_0 {x : XT} {y : YT} {Z : State → Prop} (C : Cx x y (AY y) RX5 cX5_undo 1 rm_X5_undo) {r : Int32} {σ' : Sto} (hr : RetI x y (AY y) 1 cX5_undo Z r σ') (xa0 : Nat) (σ : Sto) (h : F_X5_undo xa0 σ = some (r, σ')) : GW x y (AY y) 1 Z 0 [(0, .ref (yad y (xa0)))] [] σ := by
  unfold F_X5_undo at h
  refine g_aload_n (pc := 0) C dX5_undo_0 rfl 0 rfl ?_
  obtain ⟨xq1, h⟩ := iC h
  have xq1 := keq xq1
  refine gf_5_3 (pc := 1) C wf_X5_342 dX5_undo_1 xq1 ?_
  refine g_if_ne (pc := 4) C dX5_undo_4 (tgt := 14) rfl (fun xq2 => ?_) (fun xq2 => ?_)
  · have h := iN xq2 h
    refine g_aload_n (pc := 14) C dX5_undo_14 rfl 0 rfl ?_
    refine gf_5_1 (pc := 15) C wf_X5_13 dX5_undo_15 xq1 ?_
    refine g_aload_n (pc := 18) C dX5_undo_18 rfl 0 rfl ?_
    refine gf_5_0 (pc := 19) C wf_X5_9 dX5_undo_19 xq1 ?_
    obtain ⟨xr5, xσ3, xc4, h⟩ := iB h
    refine g_callSv (pc := 22) (As := [.ref (yad y (51)), .ref (yad y (50))]) (rest := []) C dX5_undo_22 (fun l => c_X5_copyRow l y _ _ _ _ _ xc4) cv_X5_61 ⟨rfl, rfl, Nat.le_of_ble_eq_true rfl, Nat.le_of_ble_eq_true rfl⟩ rfl (Nat.le_of_ble_eq_true rfl) ?_
    refine g_aload_n (pc := 25) C dX5_undo_25 rfl 0 rfl ?_
    refine gf_5_0 (pc := 26) C wf_X5_9 dX5_undo_26 xq1 ?_
    refine g_iconst (v := 0) (pc := 29) C dX5_undo_29 ci_0 ?_
    refine g_iald (pc := 30) C dX5_undo_30 rfl (ivp (by decide) rfl) (j := 0) ct_0 ?_
    exact rtI hr dX5_undo_31 h
  · have h := iP xq2 h
    refine g_aload_n (pc := 7) C dX5_undo_7 rfl 0 rfl ?_
    refine g_ldc (v := (-1000004)) (pc := 8) C dX5_undo_8 wk_X5_65 ?_
    obtain ⟨xr8, xσ6, xc7, h⟩ := iB h
    refine g_callVi (pc := 10) (As := [.int ((-1000004))]) (rest := []) C dX5_undo_10 (fun l => c_X5_finding l y _ _ _ _ _ xc7) cv_X5_66 ⟨rfl, rfl, Nat.le_of_ble_eq_true rfl, Nat.le_of_ble_eq_true rfl⟩ (rv5 xq1) rfl (Nat.le_of_ble_eq_true rfl) ?_
    exact rtI hr dX5_undo_13 h
theorem c_X5_undo (l : Launch) (y : YT) (xa0 : Nat) (σ σ' : Sto) (r : Int32) (h : F_X5_undo xa0 σ = some (r, σ')) : MI l y yX5_undo (Cond.code yX5_undo cX5_undo 1 (some .int) :: TT) rm_X5_undo [.ref (yad y (xa0))] σ r σ' :=
  mkI (by decide) rfl rfl rfl (Nat.le_of_ble_eq_true rfl) (fun x Z C hr => b_X5_undo_0 C hr xa0 σ h)
def rm_X5_tear : Room := { frames := 0, cells := 0, slots := 0, locals := 0 }
def F_X5_tear (xa0 : Nat) (σ : Sto) : Option (Int32 × Sto) := ck (kd (xa0) == 5) (if (σ xa0 3) = 0 then lts (up2 σ (xa0) 3 (0)) (fun xσ3 => some (0, xσ3)) else lts (up2 σ (xa0) 3 (0)) (fun xσ4 => some (1, xσ4)))
set_option maxHeartbeats 4000000 in
set_option maxRecDepth 20000 in
theorem b_X5_tear_0 {x : XT} {y : YT} {Z : State → Prop} (C : Cx x y (AY y) RX5 cX5_tear 2 rm_X5_tear) {r : Int32} {σ' : Sto} (hr : RetI x y (AY y) 2 cX5_tear Z r σ') (xa0 : Nat) (σ : Sto) (h : F_X5_tear xa0 σ = some (r, σ')) : GW x y (AY y) 2 Z 0 [(0, .ref (yad y (xa0)))] [] σ := by
  unfold F_X5_tear at h
  refine g_aload_n (pc := 0) C dX5_tear_0 rfl 0 rfl ?_
  obtain ⟨xq1, h⟩ := iC h
  have xq1 := keq xq1
  refine gf_5_3 (pc := 1) C wf_X5_342 dX5_tear_1 xq1 ?_
  refine g_if_eq (pc := 4) C dX5_tear_4 (tgt := 11) rfl (fun xq2 => ?_) (fun xq2 => ?_)
  · have h := iP xq2 h
    refine g_iconst (v := 0) (pc := 11) C dX5_tear_11 ci_0 ?_
    refine g_istore_n (i := 1) (lv' := [(1, .int (0)), (0, .ref (yad y (xa0)))]) (pc := 12) C dX5_tear_12 rfl (Nat.le_of_ble_eq_true rfl) rfl ?_
    refine g_aload_n (pc := 13) C dX5_tear_13 rfl 1 rfl ?_
    refine g_iconst (v := 0) (pc := 14) C dX5_tear_14 ci_0 ?_
    refine gp_5_3 (pc := 15) C wf_X5_342 dX5_tear_15 xq1 (by decide) ?_
    refine g_letS h (fun xσ3 h => ?_)
    refine g_iload_n (pc := 18) C dX5_tear_18 rfl 0 rfl ?_
    exact rtI hr dX5_tear_19 h
  · have h := iN xq2 h
    refine g_iconst (v := 1) (pc := 7) C dX5_tear_7 ci_1 ?_
    refine g_goto (pc := 8) C dX5_tear_8 (tgt := 12) rfl ?_
    refine g_istore_n (i := 1) (lv' := [(1, .int (1)), (0, .ref (yad y (xa0)))]) (pc := 12) C dX5_tear_12 rfl (Nat.le_of_ble_eq_true rfl) rfl ?_
    refine g_aload_n (pc := 13) C dX5_tear_13 rfl 1 rfl ?_
    refine g_iconst (v := 0) (pc := 14) C dX5_tear_14 ci_0 ?_
    refine gp_5_3 (pc := 15) C wf_X5_342 dX5_tear_15 xq1 (by decide) ?_
    refine g_letS h (fun xσ4 h => ?_)
    refine g_iload_n (pc := 18) C dX5_tear_18 rfl 0 rfl ?_
    exact rtI hr dX5_tear_19 h
theorem c_X5_tear (l : Launch) (y : YT) (xa0 : Nat) (σ σ' : Sto) (r : Int32) (h : F_X5_tear xa0 σ = some (r, σ')) : MI l y yX5_tear (Cond.code yX5_tear cX5_tear 2 (some .int) :: TT) rm_X5_tear [.ref (yad y (xa0))] σ r σ' :=
  mkI (by decide) rfl rfl rfl (Nat.le_of_ble_eq_true rfl) (fun x Z C hr => b_X5_tear_0 C hr xa0 σ h)
def rm_X5_count : Room := { frames := 3, cells := 0, slots := 0, locals := 66 }
def F_X5_count_b97 (xk_97 : Nat → Int32 → Int32 → Sto → Option (Int32 × Sto)) (xa0 : Nat) (xa2 : Int32) (xa3 : Int32) (σ : Sto) : Option (Int32 × Sto) := if 10 ≤ xa3 then some (xa2, σ) else ck (kd (xa0) == 5) (ck (inr (7 + xa3) (79)) (if 0 ≤ (σ 50 ((7 + xa3 : Int32).toNatClampNeg)) then lti (xa2 + 1) (fun xv5 => xk_97 xa0 xv5 (xa3 + 1) σ) else lti (xa2 + 0) (fun xv6 => xk_97 xa0 xv6 (xa3 + 1) σ)))
def F_X5_count (xa0 : Nat) (xa1 : Int32) (σ : Sto) : Option (Int32 × Sto) := if xa1 = 0 then ck (kd (xa0) == 5) (some (σ 50 0, σ)) else if xa1 = 1 then ck (kd (xa0) == 5) (some (σ 50 1, σ)) else if xa1 = 2 then ck (kd (xa0) == 5) (bnd (F_X5_sumOf (xa0) 5 σ) (fun xr9 xσ6 => some (xr9, xσ6))) else if xa1 = 3 then ck (kd (xa0) == 5) (bnd (F_X5_sumOf (xa0) 6 σ) (fun xr14 xσ11 => some (xr14, xσ11))) else if xa1 = 4 then ck (kd (xa0) == 5) (some (σ 50 6, σ)) else if xa1 = 5 then ck (kd (xa0) == 5) (some (σ xa0 8, σ)) else if xa1 = 6 then ck (kd (xa0) == 5) (some (σ 50 2, σ)) else if xa1 = 7 then lo3 (F_X5_count_b97) 1000 xa0 0 0 σ else ck (kd (xa0) == 5) (bnd (F_X5_finding (xa0) (-1000001) σ) (fun xr25 xσ22 => some (xr25, xσ22)))
set_option maxHeartbeats 4000000 in
set_option maxRecDepth 20000 in
theorem b_X5_count_97 {x : XT} {y : YT} {Z : State → Prop} (C : Cx x y (AY y) RX5 cX5_count 4 rm_X5_count) {r : Int32} {σ' : Sto} (hr : RetI x y (AY y) 4 cX5_count Z r σ') (xk_97 : Nat → Int32 → Int32 → Sto → Option (Int32 × Sto)) (xH97 : ∀ (xa0 : Nat) (xa2 : Int32) (xa3 : Int32) (σ : Sto), xk_97 xa0 xa2 xa3 σ = some (r, σ') → GW x y (AY y) 4 Z 97 [(0, .ref (yad y (xa0))), (2, .int (xa2)), (3, .int (xa3))] [] σ) (xa0 : Nat) (xa2 : Int32) (xa3 : Int32) (σ : Sto) (h : F_X5_count_b97 xk_97 xa0 xa2 xa3 σ = some (r, σ')) : GW x y (AY y) 4 Z 97 [(0, .ref (yad y (xa0))), (2, .int (xa2)), (3, .int (xa3))] [] σ := by
  unfold F_X5_count_b97 at h
  refine g_iload_n (pc := 97) C dX5_count_97 rfl 2 rfl ?_
  refine g_bipush (v := 10) (pc := 98) C dX5_count_98 cb_10 ?_
  refine g_icmp_ge (pc := 100) C dX5_count_100 (tgt := 129) rfl (fun xq1 => ?_) (fun xq1 => ?_)
  · have h := iP xq1 h
    refine g_iload_n (pc := 129) C dX5_count_129 rfl 1 rfl ?_
    exact rtI hr dX5_count_130 h
  · have h := iN xq1 h
    refine g_iload_n (pc := 103) C dX5_count_103 rfl 1 rfl ?_
    refine g_aload_n (pc := 104) C dX5_count_104 rfl 0 rfl ?_
    obtain ⟨xq2, h⟩ := iC h
    have xq2 := keq xq2
    refine gf_5_0 (pc := 105) C wf_X5_9 dX5_count_105 xq2 ?_
    refine g_bipush (v := 7) (pc := 108) C dX5_count_108 cb_7 ?_
    refine g_iload_n (pc := 110) C dX5_count_110 rfl 2 rfl ?_
    refine g_iadd (pc := 111) C dX5_count_111 ?_
    obtain ⟨xq3, h⟩ := iC h
    refine g_iald (pc := 112) C dX5_count_112 rfl (ivp xq3 rfl) (j := (7 + xa3 : Int32).toNatClampNeg) rfl ?_
    refine g_if_ge (pc := 113) C dX5_count_113 (tgt := 120) rfl (fun xq4 => ?_) (fun xq4 => ?_)
    · have h := iP xq4 h
      refine g_iconst (v := 1) (pc := 120) C dX5_count_120 ci_1 ?_
      refine g_iadd (pc := 121) C dX5_count_121 ?_
      refine g_letI h (fun xv5 h => ?_)
      refine g_istore_n (i := 2) (lv' := [(2, .int (xv5)), (0, .ref (yad y (xa0))), (3, .int (xa3))]) (pc := 122) C dX5_count_122 rfl (Nat.le_of_ble_eq_true rfl) rfl ?_
      refine g_iinc (lv' := [(3, .int (xa3 + 1)), (2, .int (xv5)), (0, .ref (yad y (xa0)))]) (w := xa3 + 1) (pc := 123) C dX5_count_123 (k := 2) rfl rfl (Nat.le_of_ble_eq_true rfl) rfl ?_
      refine g_goto (pc := 126) C dX5_count_126 (tgt := 97) rfl ?_
      refine g_sub (lv' := [(0, .ref (yad y (xa0))), (2, .int (xv5)), (3, .int (xa3 + 1))]) C [2, 1, 0] rfl ?_
      exact xH97 xa0 xv5 (xa3 + 1) σ h
    · have h := iN xq4 h
      refine g_iconst (v := 0) (pc := 116) C dX5_count_116 ci_0 ?_
      refine g_goto (pc := 117) C dX5_count_117 (tgt := 121) rfl ?_
      refine g_iadd (pc := 121) C dX5_count_121 ?_
      refine g_letI h (fun xv6 h => ?_)
      refine g_istore_n (i := 2) (lv' := [(2, .int (xv6)), (0, .ref (yad y (xa0))), (3, .int (xa3))]) (pc := 122) C dX5_count_122 rfl (Nat.le_of_ble_eq_true rfl) rfl ?_
      refine g_iinc (lv' := [(3, .int (xa3 + 1)), (2, .int (xv6)), (0, .ref (yad y (xa0)))]) (w := xa3 + 1) (pc := 123) C dX5_count_123 (k := 2) rfl rfl (Nat.le_of_ble_eq_true rfl) rfl ?_
      refine g_goto (pc := 126) C dX5_count_126 (tgt := 97) rfl ?_
      refine g_sub (lv' := [(0, .ref (yad y (xa0))), (2, .int (xv6)), (3, .int (xa3 + 1))]) C [2, 1, 0] rfl ?_
      exact xH97 xa0 xv6 (xa3 + 1) σ h
theorem l_X5_count_97 {x : XT} {y : YT} {Z : State → Prop} (C : Cx x y (AY y) RX5 cX5_count 4 rm_X5_count) {r : Int32} {σ' : Sto} (hr : RetI x y (AY y) 4 cX5_count Z r σ') (n : Nat) (xa0 : Nat) (xa2 : Int32) (xa3 : Int32) (σ : Sto) (h : lo3 (F_X5_count_b97) n xa0 xa2 xa3 σ = some (r, σ')) : GW x y (AY y) 4 Z 97 [(0, .ref (yad y (xa0))), (2, .int (xa2)), (3, .int (xa3))] [] σ :=
  lo3_gw (G := fun xa0 xa2 xa3 σ => GW x y (AY y) 4 Z 97 [(0, .ref (yad y (xa0))), (2, .int (xa2)), (3, .int (xa3))] [] σ) (fun xk xHk xa0 xa2 xa3 σ h => b_X5_count_97 C hr xk xHk xa0 xa2 xa3 σ h) n xa0 xa2 xa3 σ h
set_option maxHeartbeats 4000000 in
set_option maxRecDepth 20000 in
theorem b_X5_count_0 {x : XT} {y : YT} {Z : State → Prop} (C : Cx x y (AY y) RX5 cX5_count 4 rm_X5_count) {r : Int32} {σ' : Sto} (hr : RetI x y (AY y) 4 cX5_count Z r σ') (xa0 : Nat) (xa1 : Int32) (σ : Sto) (h : F_X5_count xa0 xa1 σ = some (r, σ')) : GW x y (AY y) 4 Z 0 [(0, .ref (yad y (xa0))), (1, .int (xa1))] [] σ := by
  unfold F_X5_count at h
  refine g_iconst (v := 0) (pc := 0) C dX5_count_0 ci_0 ?_
  refine g_istore_n (i := 2) (lv' := [(2, .int (0)), (0, .ref (yad y (xa0))), (1, .int (xa1))]) (pc := 1) C dX5_count_1 rfl (Nat.le_of_ble_eq_true rfl) rfl ?_
  refine g_iload_n (pc := 2) C dX5_count_2 rfl 2 rfl ?_
  by_cases xq1 : xa1 = 0
  · have h := iP xq1 h
    refine g_tabIn (pc := 3) C dX5_count_3 (v := 0) (tgt := 48) (by decide) (by decide) rfl rfl xq1 ?_
    refine g_aload_n (pc := 48) C dX5_count_48 rfl 1 rfl ?_
    obtain ⟨xq2, h⟩ := iC h
    have xq2 := keq xq2
    refine gf_5_0 (pc := 49) C wf_X5_9 dX5_count_49 xq2 ?_
    refine g_iconst (v := 0) (pc := 52) C dX5_count_52 ci_0 ?_
    refine g_iald (pc := 53) C dX5_count_53 rfl (ivp (by decide) rfl) (j := 0) ct_0 ?_
    exact rtI hr dX5_count_54 h
  · have h := iN xq1 h
    by_cases xq3 : xa1 = 1
    · have h := iP xq3 h
      refine g_tabIn (pc := 3) C dX5_count_3 (v := 1) (tgt := 55) (by decide) (by decide) rfl rfl xq3 ?_
      refine g_aload_n (pc := 55) C dX5_count_55 rfl 1 rfl ?_
      obtain ⟨xq4, h⟩ := iC h
      have xq4 := keq xq4
      refine gf_5_0 (pc := 56) C wf_X5_9 dX5_count_56 xq4 ?_
      refine g_iconst (v := 1) (pc := 59) C dX5_count_59 ci_1 ?_
      refine g_iald (pc := 60) C dX5_count_60 rfl (ivp (by decide) rfl) (j := 1) ct_1 ?_
      exact rtI hr dX5_count_61 h
    · have h := iN xq3 h
      by_cases xq5 : xa1 = 2
      · have h := iP xq5 h
        refine g_tabIn (pc := 3) C dX5_count_3 (v := 2) (tgt := 62) (by decide) (by decide) rfl rfl xq5 ?_
        refine g_aload_n (pc := 62) C dX5_count_62 rfl 1 rfl ?_
        refine g_iconst (v := 5) (pc := 63) C dX5_count_63 ci_5 ?_
        obtain ⟨xq8, h⟩ := iC h
        have xq8 := keq xq8
        obtain ⟨xr9, xσ6, xc7, h⟩ := iB h
        refine g_callVi (pc := 64) (As := [.int (5)]) (rest := []) C dX5_count_64 (fun l => c_X5_sumOf l y _ _ _ _ _ xc7) cv_X5_166 ⟨rfl, rfl, Nat.le_of_ble_eq_true rfl, Nat.le_of_ble_eq_true rfl⟩ (rv5 xq8) rfl (Nat.le_of_ble_eq_true rfl) ?_
        exact rtI hr dX5_count_67 h
      · have h := iN xq5 h
        by_cases xq10 : xa1 = 3
        · have h := iP xq10 h
          refine g_tabIn (pc := 3) C dX5_count_3 (v := 3) (tgt := 68) (by decide) (by decide) rfl rfl xq10 ?_
          refine g_aload_n (pc := 68) C dX5_count_68 rfl 1 rfl ?_
          refine g_bipush (v := 6) (pc := 69) C dX5_count_69 cb_6 ?_
          obtain ⟨xq13, h⟩ := iC h
          have xq13 := keq xq13
          obtain ⟨xr14, xσ11, xc12, h⟩ := iB h
          refine g_callVi (pc := 71) (As := [.int (6)]) (rest := []) C dX5_count_71 (fun l => c_X5_sumOf l y _ _ _ _ _ xc12) cv_X5_166 ⟨rfl, rfl, Nat.le_of_ble_eq_true rfl, Nat.le_of_ble_eq_true rfl⟩ (rv5 xq13) rfl (Nat.le_of_ble_eq_true rfl) ?_
          exact rtI hr dX5_count_74 h
        · have h := iN xq10 h
          by_cases xq15 : xa1 = 4
          · have h := iP xq15 h
            refine g_tabIn (pc := 3) C dX5_count_3 (v := 4) (tgt := 75) (by decide) (by decide) rfl rfl xq15 ?_
            refine g_aload_n (pc := 75) C dX5_count_75 rfl 1 rfl ?_
            obtain ⟨xq16, h⟩ := iC h
            have xq16 := keq xq16
            refine gf_5_0 (pc := 76) C wf_X5_9 dX5_count_76 xq16 ?_
            refine g_bipush (v := 6) (pc := 79) C dX5_count_79 cb_6 ?_
            refine g_iald (pc := 81) C dX5_count_81 rfl (ivp (by decide) rfl) (j := 6) ct_6 ?_
            exact rtI hr dX5_count_82 h
          · have h := iN xq15 h
            by_cases xq17 : xa1 = 5
            · have h := iP xq17 h
              refine g_tabIn (pc := 3) C dX5_count_3 (v := 5) (tgt := 83) (by decide) (by decide) rfl rfl xq17 ?_
              refine g_aload_n (pc := 83) C dX5_count_83 rfl 1 rfl ?_
              obtain ⟨xq18, h⟩ := iC h
              have xq18 := keq xq18
              refine gf_5_8 (pc := 84) C wf_X5_238 dX5_count_84 xq18 ?_
              exact rtI hr dX5_count_87 h
            · have h := iN xq17 h
              by_cases xq19 : xa1 = 6
              · have h := iP xq19 h
                refine g_tabIn (pc := 3) C dX5_count_3 (v := 6) (tgt := 88) (by decide) (by decide) rfl rfl xq19 ?_
                refine g_aload_n (pc := 88) C dX5_count_88 rfl 1 rfl ?_
                obtain ⟨xq20, h⟩ := iC h
                have xq20 := keq xq20
                refine gf_5_0 (pc := 89) C wf_X5_9 dX5_count_89 xq20 ?_
                refine g_iconst (v := 2) (pc := 92) C dX5_count_92 ci_2 ?_
                refine g_iald (pc := 93) C dX5_count_93 rfl (ivp (by decide) rfl) (j := 2) ct_2 ?_
                exact rtI hr dX5_count_94 h
              · have h := iN xq19 h
                by_cases xq21 : xa1 = 7
                · have h := iP xq21 h
                  refine g_tabIn (pc := 3) C dX5_count_3 (v := 7) (tgt := 95) (by decide) (by decide) rfl rfl xq21 ?_
                  refine g_iconst (v := 0) (pc := 95) C dX5_count_95 ci_0 ?_
                  refine g_istore_n (i := 3) (lv' := [(3, .int (0)), (2, .int (0)), (0, .ref (yad y (xa0))), (1, .int (xa1))]) (pc := 96) C dX5_count_96 rfl (Nat.le_of_ble_eq_true rfl) rfl ?_
                  refine g_sub (lv' := [(0, .ref (yad y (xa0))), (2, .int (0)), (3, .int (0))]) C [2, 1, 0] rfl ?_
                  exact l_X5_count_97 C hr 1000 xa0 0 0 σ h
                · have h := iN xq21 h
                  have xe0 : ¬ xa1.toInt = 0 := tne xq1
                  have xe1 : ¬ xa1.toInt = 1 := tne xq3
                  have xe2 : ¬ xa1.toInt = 2 := tne xq5
                  have xe3 : ¬ xa1.toInt = 3 := tne xq10
                  have xe4 : ¬ xa1.toInt = 4 := tne xq15
                  have xe5 : ¬ xa1.toInt = 5 := tne xq17
                  have xe6 : ¬ xa1.toInt = 6 := tne xq19
                  have xe7 : ¬ xa1.toInt = 7 := tne xq21
                  refine g_tabOut (pc := 3) C dX5_count_3 (tgt := 131) (by omega) rfl ?_
                  refine g_aload_n (pc := 131) C dX5_count_131 rfl 1 rfl ?_
                  refine g_ldc (v := (-1000001)) (pc := 132) C dX5_count_132 wk_X5_60 ?_
                  obtain ⟨xq24, h⟩ := iC h
                  have xq24 := keq xq24
                  obtain ⟨xr25, xσ22, xc23, h⟩ := iB h
                  refine g_callVi (pc := 134) (As := [.int ((-1000001))]) (rest := []) C dX5_count_134 (fun l => c_X5_finding l y _ _ _ _ _ xc23) cv_X5_66 ⟨rfl, rfl, Nat.le_of_ble_eq_true rfl, Nat.le_of_ble_eq_true rfl⟩ (rv5 xq24) rfl (Nat.le_of_ble_eq_true rfl) ?_
                  exact rtI hr dX5_count_137 h
theorem c_X5_count (l : Launch) (y : YT) (xa0 : Nat) (xa1 : Int32) (σ σ' : Sto) (r : Int32) (h : F_X5_count xa0 xa1 σ = some (r, σ')) : MI l y yX5_count (Cond.code yX5_count cX5_count 4 (some .int) :: TT) rm_X5_count [.ref (yad y (xa0)), .int (xa1)] σ r σ' :=
  mkI (by decide) rfl rfl rfl (Nat.le_of_ble_eq_true rfl) (fun x Z C hr => b_X5_count_0 C hr xa0 xa1 σ h)
def rm_X5_status : Room := { frames := 1, cells := 0, slots := 0, locals := 22 }
def F_X5_status (xa0 : Nat) (xa1 : Int32) (σ : Sto) : Option (Int32 × Sto) := bnd (F_X5_within (xa1) (-1) 6 σ) (fun xr3 xσ1 => if (xr3) = 0 then ck (kd (xa0) == 5) (bnd (F_X5_finding (xa0) (-1000001) xσ1) (fun xr8 xσ5 => some (xr8, xσ5))) else ck (kd (xa0) == 5) (ck (inr (xa1 + 1) (8)) (some (xσ1 53 ((xa1 + 1 : Int32).toNatClampNeg), xσ1))))
set_option maxHeartbeats 4000000 in
set_option maxRecDepth 20000 in
theorem b_X5_status_0 {x : XT} {y : YT} {Z : State → Prop} (C : Cx x y (AY y) RX5 cX5_status 2 rm_X5_status) {r : Int32} {σ' : Sto} (hr : RetI x y (AY y) 2 cX5_status Z r σ') (xa0 : Nat) (xa1 : Int32) (σ : Sto) (h : F_X5_status xa0 xa1 σ = some (r, σ')) : GW x y (AY y) 2 Z 0 [(0, .ref (yad y (xa0))), (1, .int (xa1))] [] σ := by
  unfold F_X5_status at h
  refine g_iload_n (pc := 0) C dX5_status_0 rfl 1 rfl ?_
  refine g_iconst (v := (-1)) (pc := 1) C dX5_status_1 ci_m1 ?_
  refine g_bipush (v := 6) (pc := 2) C dX5_status_2 cb_6 ?_
  obtain ⟨xr3, xσ1, xc2, h⟩ := iB h
  refine g_callSi (pc := 4) (As := [.int (xa1), .int ((-1)), .int (6)]) (rest := []) C dX5_status_4 (fun l => c_X5_within l y _ _ _ _ _ _ xc2) cv_X5_70 ⟨rfl, rfl, Nat.le_of_ble_eq_true rfl, Nat.le_of_ble_eq_true rfl⟩ rfl (Nat.le_of_ble_eq_true rfl) ?_
  refine g_if_eq (pc := 7) C dX5_status_7 (tgt := 21) rfl (fun xq4 => ?_) (fun xq4 => ?_)
  · have h := iP xq4 h
    refine g_aload_n (pc := 21) C dX5_status_21 rfl 0 rfl ?_
    refine g_ldc (v := (-1000001)) (pc := 22) C dX5_status_22 wk_X5_60 ?_
    obtain ⟨xq7, h⟩ := iC h
    have xq7 := keq xq7
    obtain ⟨xr8, xσ5, xc6, h⟩ := iB h
    refine g_callVi (pc := 24) (As := [.int ((-1000001))]) (rest := []) C dX5_status_24 (fun l => c_X5_finding l y _ _ _ _ _ xc6) cv_X5_66 ⟨rfl, rfl, Nat.le_of_ble_eq_true rfl, Nat.le_of_ble_eq_true rfl⟩ (rv5 xq7) rfl (Nat.le_of_ble_eq_true rfl) ?_
    exact rtI hr dX5_status_27 h
  · have h := iN xq4 h
    refine g_aload_n (pc := 10) C dX5_status_10 rfl 0 rfl ?_
    obtain ⟨xq9, h⟩ := iC h
    have xq9 := keq xq9
    refine gf_5_4 (pc := 11) C wf_X5_19 dX5_status_11 xq9 ?_
    refine g_iload_n (pc := 14) C dX5_status_14 rfl 1 rfl ?_
    refine g_iconst (v := 1) (pc := 15) C dX5_status_15 ci_1 ?_
    refine g_iadd (pc := 16) C dX5_status_16 ?_
    obtain ⟨xq10, h⟩ := iC h
    refine g_iald (pc := 17) C dX5_status_17 rfl (ivp xq10 rfl) (j := (xa1 + 1 : Int32).toNatClampNeg) rfl ?_
    refine g_goto (pc := 18) C dX5_status_18 (tgt := 27) rfl ?_
    exact rtI hr dX5_status_27 h
theorem c_X5_status (l : Launch) (y : YT) (xa0 : Nat) (xa1 : Int32) (σ σ' : Sto) (r : Int32) (h : F_X5_status xa0 xa1 σ = some (r, σ')) : MI l y yX5_status (Cond.code yX5_status cX5_status 2 (some .int) :: TT) rm_X5_status [.ref (yad y (xa0)), .int (xa1)] σ r σ' :=
  mkI (by decide) rfl rfl rfl (Nat.le_of_ble_eq_true rfl) (fun x Z C hr => b_X5_status_0 C hr xa0 xa1 σ h)

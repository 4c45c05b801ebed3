/-! methods, by program: what each does to the store (F_), its walk (b_), its contract (c_): X5_token, X5_isWord, X5_must, X5_number, X5_addItem, X5_kindTold, X5_perhaps, X5_readSitter, X5_readQueue, X5_readNumber, X5_readItem -/
def rm_X5_token : Room := { frames := 1, cells := 0, slots := 0, locals := 40 }
def F_X5_token_b84 (xk_84 : Nat → Sto → Option (Unit × Sto)) (xa0 : Nat) (σ : Sto) : Option (Unit × Sto) := ck (kd (xa0) == 5) (bnd (F_X5_byteAt (xa0) (σ xa0 10) σ) (fun xr4 xσ2 => bnd (F_X5_within (xr4) 97 122 xσ2) (fun xr7 xσ5 => if (xr7) = 0 then some ((), xσ5) else lts (up2 xσ5 (xa0) 10 ((xσ5 xa0 10) + 1)) (fun xσ9 => xk_84 xa0 xσ9))))
def F_X5_token_b131 (xk_131 : Nat → Sto → Option (Unit × Sto)) (xa0 : Nat) (σ : Sto) : Option (Unit × Sto) := ck (kd (xa0) == 5) (bnd (F_X5_byteAt (xa0) (σ xa0 10) σ) (fun xr4 xσ2 => bnd (F_X5_within (xr4) 48 57 xσ2) (fun xr7 xσ5 => if (xr7) = 0 then some ((), xσ5) else bnd (F_X5_byteAt (xa0) (xσ5 xa0 10) xσ5) (fun xr11 xσ9 => lts (up2 xσ9 (xa0) 12 (imin 1000 (((10 * (xσ5 xa0 12)) + xr11) - 48))) (fun xσ12 => lts (up2 xσ12 (xa0) 10 ((xσ12 xa0 10) + 1)) (fun xσ13 => xk_131 xa0 xσ13))))))
def F_X5_token_b8 (xk_8 : Nat → Sto → Option (Unit × Sto)) (xa0 : Nat) (σ : Sto) : Option (Unit × Sto) := ck (kd (xa0) == 5) (bnd (F_X5_byteAt (xa0) (σ xa0 9) σ) (fun xr4 xσ2 => if xr4 = 32 then lts (up2 xσ2 (xa0) 9 ((xσ2 xa0 9) + 1)) (fun xσ25 => xk_8 xa0 xσ25) else bnd (F_X5_byteAt (xa0) (xσ2 xa0 9) xσ2) (fun xr8 xσ6 => lts (up2 xσ6 (xa0) 10 (xσ6 xa0 9)) (fun xσ9 => lts (up2 xσ9 (xa0) 12 (0)) (fun xσ10 => if 0 ≤ (xr8) then bnd (F_X5_within (xr8) 97 122 xσ10) (fun xr14 xσ12 => if (xr14) = 0 then bnd (F_X5_within (xr8) 48 57 xσ12) (fun xr18 xσ16 => if (xr18) = 0 then lts (up2 xσ16 (xa0) 11 (3)) (fun xσ20 => lts (up2 xσ20 (xa0) 10 ((xσ20 xa0 10) + 1)) (fun xσ21 => some ((), xσ21))) else lts (up2 xσ16 (xa0) 11 (2)) (fun xσ22 => lo1 (F_X5_token_b131) 1000 xa0 xσ22)) else lts (up2 xσ12 (xa0) 11 (1)) (fun xσ23 => lo1 (F_X5_token_b84) 1000 xa0 xσ23)) else lts (up2 xσ10 (xa0) 11 (0)) (fun xσ24 => some ((), xσ24)))))))
def F_X5_token (xa0 : Nat) (σ : Sto) : Option (Unit × Sto) := ck (kd (xa0) == 5) (lts (up2 σ (xa0) 9 (σ xa0 10)) (fun xσ2 => lo1 (F_X5_token_b8) 1000 xa0 xσ2))
set_option maxHeartbeats 4000000 in
set_option maxRecDepth 20000 in
theorem b_X5_token_84 {x : XT} {y : YT} {Z : State → Prop} (C : Cx x y (AY y) RX5 cX5_token 2 rm_X5_token) {r : Unit} {σ' : Sto} (hr : RetV x y (AY y) 2 cX5_token Z r σ') (xk_84 : Nat → Sto → Option (Unit × Sto)) (xH84 : ∀ (xa0 : Nat) (σ : Sto), xk_84 xa0 σ = some (r, σ') → GW x y (AY y) 2 Z 84 [(0, .ref (yad y (xa0)))] [] σ) (xa0 : Nat) (σ : Sto) (h : F_X5_token_b84 xk_84 xa0 σ = some (r, σ')) : GW x y (AY y) 2 Z 84 [(0, .ref (yad y (xa0)))] [] σ := by
  unfold F_X5_token_b84 at h
  refine g_aload_n (pc := 84) C dX5_token_84 rfl 0 rfl ?_
  refine g_aload_n (pc := 85) C dX5_token_85 rfl 0 rfl ?_
  obtain ⟨xq1, h⟩ := iC h
  have xq1 := keq xq1
  refine gf_5_10 (pc := 86) C wf_X5_241 dX5_token_86 xq1 ?_
  obtain ⟨xr4, xσ2, xc3, h⟩ := iB h
  refine g_callVi (pc := 89) (As := [.int (σ xa0 10)]) (rest := []) C dX5_token_89 (fun l => c_X5_byteAt l y _ _ _ _ _ xc3) cv_X5_247 ⟨rfl, rfl, Nat.le_of_ble_eq_true rfl, Nat.le_of_ble_eq_true rfl⟩ (rv5 xq1) rfl (Nat.le_of_ble_eq_true rfl) ?_
  refine g_bipush (v := 97) (pc := 92) C dX5_token_92 cb_97 ?_
  refine g_bipush (v := 122) (pc := 94) C dX5_token_94 cb_122 ?_
  obtain ⟨xr7, xσ5, xc6, h⟩ := iB h
  refine g_callSi (pc := 96) (As := [.int (xr4), .int (97), .int (122)]) (rest := []) C dX5_token_96 (fun l => c_X5_within l y _ _ _ _ _ _ xc6) cv_X5_70 ⟨rfl, rfl, Nat.le_of_ble_eq_true rfl, Nat.le_of_ble_eq_true rfl⟩ rfl (Nat.le_of_ble_eq_true rfl) ?_
  refine g_if_eq (pc := 99) C dX5_token_99 (tgt := 206) rfl (fun xq8 => ?_) (fun xq8 => ?_)
  · have h := iP xq8 h
    exact rtV hr dX5_token_206 h
  · have h := iN xq8 h
    refine g_aload_n (pc := 102) C dX5_token_102 rfl 0 rfl ?_
    refine g_dup (pc := 103) C dX5_token_103 rfl ?_
    refine gf_5_10 (pc := 104) C wf_X5_241 dX5_token_104 xq1 ?_
    refine g_iconst (v := 1) (pc := 107) C dX5_token_107 ci_1 ?_
    refine g_iadd (pc := 108) C dX5_token_108 ?_
    refine gp_5_10 (pc := 109) C wf_X5_241 dX5_token_109 xq1 ?_
    refine g_letS h (fun xσ9 h => ?_)
    refine g_goto (pc := 112) C dX5_token_112 (tgt := 84) rfl ?_
    exact xH84 xa0 xσ9 h
theorem l_X5_token_84 {x : XT} {y : YT} {Z : State → Prop} (C : Cx x y (AY y) RX5 cX5_token 2 rm_X5_token) {r : Unit} {σ' : Sto} (hr : RetV x y (AY y) 2 cX5_token Z r σ') (n : Nat) (xa0 : Nat) (σ : Sto) (h : lo1 (F_X5_token_b84) n xa0 σ = some (r, σ')) : GW x y (AY y) 2 Z 84 [(0, .ref (yad y (xa0)))] [] σ :=
  lo1_gw (G := fun xa0 σ => GW x y (AY y) 2 Z 84 [(0, .ref (yad y (xa0)))] [] σ) (fun xk xHk xa0 σ h => b_X5_token_84 C hr xk xHk xa0 σ h) n xa0 σ h
set_option maxHeartbeats 4000000 in
set_option maxRecDepth 20000 in
theorem b_X5_token_131 {x : XT} {y : YT} {Z : State → Prop} (C : Cx x y (AY y) RX5 cX5_token 2 rm_X5_token) {r : Unit} {σ' : Sto} (hr : RetV x y (AY y) 2 cX5_token Z r σ') (xk_131 : Nat → Sto → Option (Unit × Sto)) (xH131 : ∀ (xa0 : Nat) (σ : Sto), xk_131 xa0 σ = some (r, σ') → GW x y (AY y) 2 Z 131 [(0, .ref (yad y (xa0)))] [] σ) (xa0 : Nat) (σ : Sto) (h : F_X5_token_b131 xk_131 xa0 σ = some (r, σ')) : GW x y (AY y) 2 Z 131 [(0, .ref (yad y (xa0)))] [] σ := by
  unfold F_X5_token_b131 at h
  refine g_aload_n (pc := 131) C dX5_token_131 rfl 0 rfl ?_
  refine g_aload_n (pc := 132) C dX5_token_132 rfl 0 rfl ?_
  obtain ⟨xq1, h⟩ := iC h
  have xq1 := keq xq1
  refine gf_5_10 (pc := 133) C wf_X5_241 dX5_token_133 xq1 ?_
  obtain ⟨xr4, xσ2, xc3, h⟩ := iB h
  refine g_callVi (pc := 136) (As := [.int (σ xa0 10)]) (rest := []) C dX5_token_136 (fun l => c_X5_byteAt l y _ _ _ _ _ xc3) cv_X5_247 ⟨rfl, rfl, Nat.le_of_ble_eq_true rfl, Nat.le_of_ble_eq_true rfl⟩ (rv5 xq1) rfl (Nat.le_of_ble_eq_true rfl) ?_
  refine g_bipush (v := 48) (pc := 139) C dX5_token_139 cb_48 ?_
  refine g_bipush (v := 57) (pc := 141) C dX5_token_141 cb_57 ?_
  obtain ⟨xr7, xσ5, xc6, h⟩ := iB h
  refine g_callSi (pc := 143) (As := [.int (xr4), .int (48), .int (57)]) (rest := []) C dX5_token_143 (fun l => c_X5_within l y _ _ _ _ _ _ xc6) cv_X5_70 ⟨rfl, rfl, Nat.le_of_ble_eq_true rfl, Nat.le_of_ble_eq_true rfl⟩ rfl (Nat.le_of_ble_eq_true rfl) ?_
  refine g_if_eq (pc := 146) C dX5_token_146 (tgt := 206) rfl (fun xq8 => ?_) (fun xq8 => ?_)
  · have h := iP xq8 h
    exact rtV hr dX5_token_206 h
  · have h := iN xq8 h
    refine g_aload_n (pc := 149) C dX5_token_149 rfl 0 rfl ?_
    refine g_sipush (v := 1000) (pc := 150) C dX5_token_150 cs_1000 ?_
    refine g_bipush (v := 10) (pc := 153) C dX5_token_153 cb_10 ?_
    refine g_aload_n (pc := 155) C dX5_token_155 rfl 0 rfl ?_
    refine gf_5_12 (pc := 156) C wf_X5_250 dX5_token_156 xq1 ?_
    refine g_imul (pc := 159) C dX5_token_159 ?_
    refine g_aload_n (pc := 160) C dX5_token_160 rfl 0 rfl ?_
    refine g_aload_n (pc := 161) C dX5_token_161 rfl 0 rfl ?_
    refine gf_5_10 (pc := 162) C wf_X5_241 dX5_token_162 xq1 ?_
    obtain ⟨xr11, xσ9, xc10, h⟩ := iB h
    refine g_callVi (pc := 165) (As := [.int (xσ5 xa0 10)]) (rest := [.int (10 * (xσ5 xa0 12)), .int (1000), .ref (yad y (xa0))]) C dX5_token_165 (fun l => c_X5_byteAt l y _ _ _ _ _ xc10) cv_X5_247 ⟨rfl, rfl, Nat.le_of_ble_eq_true rfl, Nat.le_of_ble_eq_true rfl⟩ (rv5 xq1) rfl (Nat.le_of_ble_eq_true rfl) ?_
    refine g_iadd (pc := 168) C dX5_token_168 ?_
    refine g_bipush (v := 48) (pc := 169) C dX5_token_169 cb_48 ?_
    refine g_isub (pc := 171) C dX5_token_171 ?_
    refine g_mmin (pc := 172) C dX5_token_172 wm_X5_139 wt_min wn_Math wc_min (Nat.le_of_ble_eq_true rfl) (Nat.le_of_ble_eq_true rfl) ?_
    refine gp_5_12 (pc := 175) C wf_X5_250 dX5_token_175 xq1 ?_
    refine g_letS h (fun xσ12 h => ?_)
    refine g_aload_n (pc := 178) C dX5_token_178 rfl 0 rfl ?_
    refine g_dup (pc := 179) C dX5_token_179 rfl ?_
    refine gf_5_10 (pc := 180) C wf_X5_241 dX5_token_180 xq1 ?_
    refine g_iconst (v := 1) (pc := 183) C dX5_token_183 ci_1 ?_
    refine g_iadd (pc := 184) C dX5_token_184 ?_
    refine gp_5_10 (pc := 185) C wf_X5_241 dX5_token_185 xq1 ?_
    refine g_letS h (fun xσ13 h => ?_)
    refine g_goto (pc := 188) C dX5_token_188 (tgt := 131) rfl ?_
    exact xH131 xa0 xσ13 h
theorem l_X5_token_131 {x : XT} {y : YT} {Z : State → Prop} (C : Cx x y (AY y) RX5 cX5_token 2 rm_X5_token) {r : Unit} {σ' : Sto} (hr : RetV x y (AY y) 2 cX5_token Z r σ') (n : Nat) (xa0 : Nat) (σ : Sto) (h : lo1 (F_X5_token_b131) n xa0 σ = some (r, σ')) : GW x y (AY y) 2 Z 131 [(0, .ref (yad y (xa0)))] [] σ :=
  lo1_gw (G := fun xa0 σ => GW x y (AY y) 2 Z 131 [(0, .ref (yad y (xa0)))] [] σ) (fun xk xHk xa0 σ h => b_X5_token_131 C hr xk xHk xa0 σ h) n xa0 σ h
set_option maxHeartbeats 4000000 in
set_option maxRecDepth 20000 in
theorem b_X5_token_8 {x : XT} {y : YT} {Z : State → Prop} (C : Cx x y (AY y) RX5 cX5_token 2 rm_X5_token) {r : Unit} {σ' : Sto} (hr : RetV x y (AY y) 2 cX5_token Z r σ') (xk_8 : Nat → Sto → Option (Unit × Sto)) (xH8 : ∀ (xa0 : Nat) (σ : Sto), xk_8 xa0 σ = some (r, σ') → GW x y (AY y) 2 Z 8 [(0, .ref (yad y (xa0)))] [] σ) (xa0 : Nat) (σ : Sto) (h : F_X5_token_b8 xk_8 xa0 σ = some (r, σ')) : GW x y (AY y) 2 Z 8 [(0, .ref (yad y (xa0)))] [] σ := by
  unfold F_X5_token_b8 at h
  refine g_aload_n (pc := 8) C dX5_token_8 rfl 0 rfl ?_
  refine g_aload_n (pc := 9) C dX5_token_9 rfl 0 rfl ?_
  obtain ⟨xq1, h⟩ := iC h
  have xq1 := keq xq1
  refine gf_5_9 (pc := 10) C wf_X5_244 dX5_token_10 xq1 ?_
  obtain ⟨xr4, xσ2, xc3, h⟩ := iB h
  refine g_callVi (pc := 13) (As := [.int (σ xa0 9)]) (rest := []) C dX5_token_13 (fun l => c_X5_byteAt l y _ _ _ _ _ xc3) cv_X5_247 ⟨rfl, rfl, Nat.le_of_ble_eq_true rfl, Nat.le_of_ble_eq_true rfl⟩ (rv5 xq1) rfl (Nat.le_of_ble_eq_true rfl) ?_
  refine g_bipush (v := 32) (pc := 16) C dX5_token_16 cb_32 ?_
  refine g_icmp_ne (pc := 18) C dX5_token_18 (tgt := 34) rfl (fun xq5 => ?_) (fun xq5 => ?_)
  · have h := iN xq5 h
    refine g_aload_n (pc := 34) C dX5_token_34 rfl 0 rfl ?_
    refine g_aload_n (pc := 35) C dX5_token_35 rfl 0 rfl ?_
    refine gf_5_9 (pc := 36) C wf_X5_244 dX5_token_36 xq1 ?_
    obtain ⟨xr8, xσ6, xc7, h⟩ := iB h
    refine g_callVi (pc := 39) (As := [.int (xσ2 xa0 9)]) (rest := []) C dX5_token_39 (fun l => c_X5_byteAt l y _ _ _ _ _ xc7) cv_X5_247 ⟨rfl, rfl, Nat.le_of_ble_eq_true rfl, Nat.le_of_ble_eq_true rfl⟩ (rv5 xq1) rfl (Nat.le_of_ble_eq_true rfl) ?_
    refine g_istore_n (i := 1) (lv' := [(1, .int (xr8)), (0, .ref (yad y (xa0)))]) (pc := 42) C dX5_token_42 rfl (Nat.le_of_ble_eq_true rfl) rfl ?_
    refine g_aload_n (pc := 43) C dX5_token_43 rfl 1 rfl ?_
    refine g_aload_n (pc := 44) C dX5_token_44 rfl 1 rfl ?_
    refine gf_5_9 (pc := 45) C wf_X5_244 dX5_token_45 xq1 ?_
    refine gp_5_10 (pc := 48) C wf_X5_241 dX5_token_48 xq1 ?_
    refine g_letS h (fun xσ9 h => ?_)
    refine g_aload_n (pc := 51) C dX5_token_51 rfl 1 rfl ?_
    refine g_iconst (v := 0) (pc := 52) C dX5_token_52 ci_0 ?_
    refine gp_5_12 (pc := 53) C wf_X5_250 dX5_token_53 xq1 ?_
    refine g_letS h (fun xσ10 h => ?_)
    refine g_iload_n (pc := 56) C dX5_token_56 rfl 0 rfl ?_
    refine g_if_ge (pc := 57) C dX5_token_57 (tgt := 68) rfl (fun xq11 => ?_) (fun xq11 => ?_)
    · have h := iP xq11 h
      refine g_iload_n (pc := 68) C dX5_token_68 rfl 0 rfl ?_
      refine g_bipush (v := 97) (pc := 69) C dX5_token_69 cb_97 ?_
      refine g_bipush (v := 122) (pc := 71) C dX5_token_71 cb_122 ?_
      obtain ⟨xr14, xσ12, xc13, h⟩ := iB h
      refine g_callSi (pc := 73) (As := [.int (xr8), .int (97), .int (122)]) (rest := []) C dX5_token_73 (fun l => c_X5_within l y _ _ _ _ _ _ xc13) cv_X5_70 ⟨rfl, rfl, Nat.le_of_ble_eq_true rfl, Nat.le_of_ble_eq_true rfl⟩ rfl (Nat.le_of_ble_eq_true rfl) ?_
      refine g_if_eq (pc := 76) C dX5_token_76 (tgt := 115) rfl (fun xq15 => ?_) (fun xq15 => ?_)
      · have h := iP xq15 h
        refine g_iload_n (pc := 115) C dX5_token_115 rfl 0 rfl ?_
        refine g_bipush (v := 48) (pc := 116) C dX5_token_116 cb_48 ?_
        refine g_bipush (v := 57) (pc := 118) C dX5_token_118 cb_57 ?_
        obtain ⟨xr18, xσ16, xc17, h⟩ := iB h
        refine g_callSi (pc := 120) (As := [.int (xr8), .int (48), .int (57)]) (rest := []) C dX5_token_120 (fun l => c_X5_within l y _ _ _ _ _ _ xc17) cv_X5_70 ⟨rfl, rfl, Nat.le_of_ble_eq_true rfl, Nat.le_of_ble_eq_true rfl⟩ rfl (Nat.le_of_ble_eq_true rfl) ?_
        refine g_if_eq (pc := 123) C dX5_token_123 (tgt := 191) rfl (fun xq19 => ?_) (fun xq19 => ?_)
        · have h := iP xq19 h
          refine g_aload_n (pc := 191) C dX5_token_191 rfl 1 rfl ?_
          refine g_iconst (v := 3) (pc := 192) C dX5_token_192 ci_3 ?_
          refine gp_5_11 (pc := 193) C wf_X5_253 dX5_token_193 xq1 ?_
          refine g_letS h (fun xσ20 h => ?_)
          refine g_aload_n (pc := 196) C dX5_token_196 rfl 1 rfl ?_
          refine g_dup (pc := 197) C dX5_token_197 rfl ?_
          refine gf_5_10 (pc := 198) C wf_X5_241 dX5_token_198 xq1 ?_
          refine g_iconst (v := 1) (pc := 201) C dX5_token_201 ci_1 ?_
          refine g_iadd (pc := 202) C dX5_token_202 ?_
          refine gp_5_10 (pc := 203) C wf_X5_241 dX5_token_203 xq1 ?_
          refine g_letS h (fun xσ21 h => ?_)
          exact rtV hr dX5_token_206 h
        · have h := iN xq19 h
          refine g_aload_n (pc := 126) C dX5_token_126 rfl 1 rfl ?_
          refine g_iconst (v := 2) (pc := 127) C dX5_token_127 ci_2 ?_
          refine gp_5_11 (pc := 128) C wf_X5_253 dX5_token_128 xq1 ?_
          refine g_letS h (fun xσ22 h => ?_)
          refine g_sub (lv' := [(0, .ref (yad y (xa0)))]) C [1] rfl ?_
          exact l_X5_token_131 C hr 1000 xa0 xσ22 h
      · have h := iN xq15 h
        refine g_aload_n (pc := 79) C dX5_token_79 rfl 1 rfl ?_
        refine g_iconst (v := 1) (pc := 80) C dX5_token_80 ci_1 ?_
        refine gp_5_11 (pc := 81) C wf_X5_253 dX5_token_81 xq1 ?_
        refine g_letS h (fun xσ23 h => ?_)
        refine g_sub (lv' := [(0, .ref (yad y (xa0)))]) C [1] rfl ?_
        exact l_X5_token_84 C hr 1000 xa0 xσ23 h
    · have h := iN xq11 h
      refine g_aload_n (pc := 60) C dX5_token_60 rfl 1 rfl ?_
      refine g_iconst (v := 0) (pc := 61) C dX5_token_61 ci_0 ?_
      refine gp_5_11 (pc := 62) C wf_X5_253 dX5_token_62 xq1 ?_
      refine g_letS h (fun xσ24 h => ?_)
      refine g_goto (pc := 65) C dX5_token_65 (tgt := 206) rfl ?_
      exact rtV hr dX5_token_206 h
  · have h := iP xq5 h
    refine g_aload_n (pc := 21) C dX5_token_21 rfl 0 rfl ?_
    refine g_dup (pc := 22) C dX5_token_22 rfl ?_
    refine gf_5_9 (pc := 23) C wf_X5_244 dX5_token_23 xq1 ?_
    refine g_iconst (v := 1) (pc := 26) C dX5_token_26 ci_1 ?_
    refine g_iadd (pc := 27) C dX5_token_27 ?_
    refine gp_5_9 (pc := 28) C wf_X5_244 dX5_token_28 xq1 ?_
    refine g_letS h (fun xσ25 h => ?_)
    refine g_goto (pc := 31) C dX5_token_31 (tgt := 8) rfl ?_
    exact xH8 xa0 xσ25 h
theorem l_X5_token_8 {x : XT} {y : YT} {Z : State → Prop} (C : Cx x y (AY y) RX5 cX5_token 2 rm_X5_token) {r : Unit} {σ' : Sto} (hr : RetV x y (AY y) 2 cX5_token Z r σ') (n : Nat) (xa0 : Nat) (σ : Sto) (h : lo1 (F_X5_token_b8) n xa0 σ = some (r, σ')) : GW x y (AY y) 2 Z 8 [(0, .ref (yad y (xa0)))] [] σ :=
  lo1_gw (G := fun xa0 σ => GW x y (AY y) 2 Z 8 [(0, .ref (yad y (xa0)))] [] σ) (fun xk xHk xa0 σ h => b_X5_token_8 C hr xk xHk xa0 σ h) n xa0 σ h
set_option maxHeartbeats 4000000 in
set_option maxRecDepth 20000 in
theorem b_X5_token_0 {x : XT} {y : YT} {Z : State → Prop} (C : Cx x y (AY y) RX5 cX5_token 2 rm_X5_token) {r : Unit} {σ' : Sto} (hr : RetV x y (AY y) 2 cX5_token Z r σ') (xa0 : Nat) (σ : Sto) (h : F_X5_token xa0 σ = some (r, σ')) : GW x y (AY y) 2 Z 0 [(0, .ref (yad y (xa0)))] [] σ := by
  unfold F_X5_token at h
  refine g_aload_n (pc := 0) C dX5_token_0 rfl 0 rfl ?_
  refine g_aload_n (pc := 1) C dX5_token_1 rfl 0 rfl ?_
  obtain ⟨xq1, h⟩ := iC h
  have xq1 := keq xq1
  refine gf_5_10 (pc := 2) C wf_X5_241 dX5_token_2 xq1 ?_
  refine gp_5_9 (pc := 5) C wf_X5_244 dX5_token_5 xq1 ?_
  refine g_letS h (fun xσ2 h => ?_)
  exact l_X5_token_8 C hr 1000 xa0 xσ2 h
theorem c_X5_token (l : Launch) (y : YT) (xa0 : Nat) (σ σ' : Sto) (r : Unit) (h : F_X5_token xa0 σ = some (r, σ')) : MV l y yX5_token (Cond.code yX5_token cX5_token 2 none :: TT) rm_X5_token [.ref (yad y (xa0))] σ r σ' :=
  mkV (by decide) rfl rfl rfl (Nat.le_of_ble_eq_true rfl) (fun x Z C hr => b_X5_token_0 C hr xa0 σ h)
def rm_X5_isWord : Room := { frames := 6, cells := 0, slots := 0, locals := 161 }
def F_X5_isWord_b32 (xk_32 : Nat → Nat → Int32 → Int32 → Sto → Option (Int32 × Sto)) (xa0 : Nat) (xa1 : Nat) (xa2 : Int32) (xa3 : Int32) (σ : Sto) : Option (Int32 × Sto) := ck (isStr (xa1)) (bnd (F_J0_length_8abf5 (xa1) σ) (fun xr4 xσ1 => if xr4 ≤ xa3 then ck (z01 (xa2)) (some (xa2, xσ1)) else if (xa2) = 0 then ck (z01 (xa2)) (some (xa2, xσ1)) else ck (kd (xa0) == 5) (ck (inr ((xσ1 xa0 9) + xa3) (120)) (bnd (F_J0_charAt_5068e (xa1) (xa3) xσ1) (fun xr11 xσ9 => if (xσ1 54 (((xσ1 xa0 9) + xa3 : Int32).toNatClampNeg)) = xr11 then xk_32 xa0 xa1 1 (xa3 + 1) xσ9 else xk_32 xa0 xa1 0 (xa3 + 1) xσ9)))))
def F_X5_isWord (xa0 : Nat) (xa1 : Nat) (σ : Sto) : Option (Int32 × Sto) := ck (kd (xa0) == 5) (if (σ xa0 11) = 1 then ck (isStr (xa1)) (bnd (F_J0_length_8abf5 (xa1) σ) (fun xr6 xσ3 => if ((σ xa0 10) - (σ xa0 9)) = xr6 then lo4 (F_X5_isWord_b32) 1000 xa0 xa1 1 0 xσ3 else lo4 (F_X5_isWord_b32) 1000 xa0 xa1 0 0 xσ3)) else lo4 (F_X5_isWord_b32) 1000 xa0 xa1 0 0 σ)
set_option maxHeartbeats 4000000 in
set_option maxRecDepth 20000 in
theorem b_X5_isWord_32 {x : XT} {y : YT} {Z : State → Prop} (C : Cx x y (AY y) RX5 cX5_isWord 4 rm_X5_isWord) {r : Int32} {σ' : Sto} (hr : RetZ x y (AY y) 4 cX5_isWord Z r σ') (xk_32 : Nat → Nat → Int32 → Int32 → Sto → Option (Int32 × Sto)) (xH32 : ∀ (xa0 : Nat) (xa1 : Nat) (xa2 : Int32) (xa3 : Int32) (σ : Sto), xk_32 xa0 xa1 xa2 xa3 σ = some (r, σ') → GW x y (AY y) 4 Z 32 [(0, .ref (yad y (xa0))), (1, .ref (yad y (xa1))), (2, .int (xa2)), (3, .int (xa3))] [] σ) (xa0 : Nat) (xa1 : Nat) (xa2 : Int32) (xa3 : Int32) (σ : Sto) (h : F_X5_isWord_b32 xk_32 xa0 xa1 xa2 xa3 σ = some (r, σ')) : GW x y (AY y) 4 Z 32 [(0, .ref (yad y (xa0))), (1, .ref (yad y (xa1))), (2, .int (xa2)), (3, .int (xa3))] [] σ := by
  unfold F_X5_isWord_b32 at h
  refine g_iload_n (pc := 32) C dX5_isWord_32 rfl 3 rfl ?_
  refine g_aload_n (pc := 33) C dX5_isWord_33 rfl 1 rfl ?_
  obtain ⟨xq3, h⟩ := iC h
  obtain ⟨xr4, xσ1, xc2, h⟩ := iB h
  refine g_callVi (pc := 34) (As := []) (rest := [.int (xa3)]) C dX5_isWord_34 (fun l => c_J0_length_8abf5 l y _ _ _ _ xc2) cv_X5_256 ⟨rfl, rfl, Nat.le_of_ble_eq_true rfl, Nat.le_of_ble_eq_true rfl⟩ (rvS xq3) rfl (Nat.le_of_ble_eq_true rfl) ?_
  refine g_icmp_ge (pc := 37) C dX5_isWord_37 (tgt := 75) rfl (fun xq5 => ?_) (fun xq5 => ?_)
  · have h := iP xq5 h
    refine g_iload_n (pc := 75) C dX5_isWord_75 rfl 2 rfl ?_
    obtain ⟨xz, h⟩ := iC h
    exact rtZ hr dX5_isWord_76 (z01_or xz) h
  · have h := iN xq5 h
    refine g_iload_n (pc := 40) C dX5_isWord_40 rfl 2 rfl ?_
    refine g_if_eq (pc := 41) C dX5_isWord_41 (tgt := 75) rfl (fun xq6 => ?_) (fun xq6 => ?_)
    · have h := iP xq6 h
      refine g_iload_n (pc := 75) C dX5_isWord_75 rfl 2 rfl ?_
      obtain ⟨xz, h⟩ := iC h
      exact rtZ hr dX5_isWord_76 (z01_or xz) h
    · have h := iN xq6 h
      refine g_aload_n (pc := 44) C dX5_isWord_44 rfl 0 rfl ?_
      obtain ⟨xq7, h⟩ := iC h
      have xq7 := keq xq7
      refine gf_5_7 (pc := 45) C wf_X5_22 dX5_isWord_45 xq7 ?_
      refine g_aload_n (pc := 48) C dX5_isWord_48 rfl 0 rfl ?_
      refine gf_5_9 (pc := 49) C wf_X5_244 dX5_isWord_49 xq7 ?_
      refine g_iload_n (pc := 52) C dX5_isWord_52 rfl 3 rfl ?_
      refine g_iadd (pc := 53) C dX5_isWord_53 ?_
      obtain ⟨xq8, h⟩ := iC h
      refine g_iald (pc := 54) C dX5_isWord_54 rfl (ivp xq8 rfl) (j := ((xσ1 xa0 9) + xa3 : Int32).toNatClampNeg) rfl ?_
      refine g_aload_n (pc := 55) C dX5_isWord_55 rfl 1 rfl ?_
      refine g_iload_n (pc := 56) C dX5_isWord_56 rfl 3 rfl ?_
      obtain ⟨xr11, xσ9, xc10, h⟩ := iB h
      refine g_callVi (pc := 57) (As := [.int (xa3)]) (rest := [.int (xσ1 54 (((xσ1 xa0 9) + xa3 : Int32).toNatClampNeg))]) C dX5_isWord_57 (fun l => c_J0_charAt_5068e l y _ _ _ _ _ xc10) cv_X5_259 ⟨rfl, rfl, Nat.le_of_ble_eq_true rfl, Nat.le_of_ble_eq_true rfl⟩ (rvS xq3) rfl (Nat.le_of_ble_eq_true rfl) ?_
      refine g_icmp_ne (pc := 60) C dX5_isWord_60 (tgt := 67) rfl (fun xq12 => ?_) (fun xq12 => ?_)
      · have h := iN xq12 h
        refine g_iconst (v := 0) (pc := 67) C dX5_isWord_67 ci_0 ?_
        refine g_istore_n (i := 2) (lv' := [(2, .int (0)), (0, .ref (yad y (xa0))), (1, .ref (yad y (xa1))), (3, .int (xa3))]) (pc := 68) C dX5_isWord_68 rfl (Nat.le_of_ble_eq_true rfl) rfl ?_
        refine g_iinc (lv' := [(3, .int (xa3 + 1)), (2, .int (0)), (0, .ref (yad y (xa0))), (1, .ref (yad y (xa1)))]) (w := xa3 + 1) (pc := 69) C dX5_isWord_69 (k := 3) rfl rfl (Nat.le_of_ble_eq_true rfl) rfl ?_
        refine g_goto (pc := 72) C dX5_isWord_72 (tgt := 32) rfl ?_
        refine g_sub (lv' := [(0, .ref (yad y (xa0))), (1, .ref (yad y (xa1))), (2, .int (0)), (3, .int (xa3 + 1))]) C [2, 3, 1, 0] rfl ?_
        exact xH32 xa0 xa1 0 (xa3 + 1) xσ9 h
      · have h := iP xq12 h
        refine g_iconst (v := 1) (pc := 63) C dX5_isWord_63 ci_1 ?_
        refine g_goto (pc := 64) C dX5_isWord_64 (tgt := 68) rfl ?_
        refine g_istore_n (i := 2) (lv' := [(2, .int (1)), (0, .ref (yad y (xa0))), (1, .ref (yad y (xa1))), (3, .int (xa3))]) (pc := 68) C dX5_isWord_68 rfl (Nat.le_of_ble_eq_true rfl) rfl ?_
        refine g_iinc (lv' := [(3, .int (xa3 + 1)), (2, .int (1)), (0, .ref (yad y (xa0))), (1, .ref (yad y (xa1)))]) (w := xa3 + 1) (pc := 69) C dX5_isWord_69 (k := 3) rfl rfl (Nat.le_of_ble_eq_true rfl) rfl ?_
        refine g_goto (pc := 72) C dX5_isWord_72 (tgt := 32) rfl ?_
        refine g_sub (lv' := [(0, .ref (yad y (xa0))), (1, .ref (yad y (xa1))), (2, .int (1)), (3, .int (xa3 + 1))]) C [2, 3, 1, 0] rfl ?_
        exact xH32 xa0 xa1 1 (xa3 + 1) xσ9 h
theorem l_X5_isWord_32 {x : XT} {y : YT} {Z : State → Prop} (C : Cx x y (AY y) RX5 cX5_isWord 4 rm_X5_isWord) {r : Int32} {σ' : Sto} (hr : RetZ x y (AY y) 4 cX5_isWord Z r σ') (n : Nat) (xa0 : Nat) (xa1 : Nat) (xa2 : Int32) (xa3 : Int32) (σ : Sto) (h : lo4 (F_X5_isWord_b32) n xa0 xa1 xa2 xa3 σ = some (r, σ')) : GW x y (AY y) 4 Z 32 [(0, .ref (yad y (xa0))), (1, .ref (yad y (xa1))), (2, .int (xa2)), (3, .int (xa3))] [] σ :=
  lo4_gw (G := fun xa0 xa1 xa2 xa3 σ => GW x y (AY y) 4 Z 32 [(0, .ref (yad y (xa0))), (1, .ref (yad y (xa1))), (2, .int (xa2)), (3, .int (xa3))] [] σ) (fun xk xHk xa0 xa1 xa2 xa3 σ h => b_X5_isWord_32 C hr xk xHk xa0 xa1 xa2 xa3 σ h) n xa0 xa1 xa2 xa3 σ h
set_option maxHeartbeats 4000000 in
set_option maxRecDepth 20000 in
theorem b_X5_isWord_0 {x : XT} {y : YT} {Z : State → Prop} (C : Cx x y (AY y) RX5 cX5_isWord 4 rm_X5_isWord) {r : Int32} {σ' : Sto} (hr : RetZ x y (AY y) 4 cX5_isWord Z r σ') (xa0 : Nat) (xa1 : Nat) (σ : Sto) (h : F_X5_isWord xa0 xa1 σ = some (r, σ')) : GW x y (AY y) 4 Z 0 [(0, .ref (yad y (xa0))), (1, .ref (yad y (xa1)))] [] σ := by
  unfold F_X5_isWord at h
  refine g_aload_n (pc := 0) C dX5_isWord_0 rfl 0 rfl ?_
  obtain ⟨xq1, h⟩ := iC h
  have xq1 := keq xq1
  refine gf_5_11 (pc := 1) C wf_X5_253 dX5_isWord_1 xq1 ?_
  refine g_iconst (v := 1) (pc := 4) C dX5_isWord_4 ci_1 ?_
  refine g_icmp_ne (pc := 5) C dX5_isWord_5 (tgt := 28) rfl (fun xq2 => ?_) (fun xq2 => ?_)
  · have h := iN xq2 h
    refine g_iconst (v := 0) (pc := 28) C dX5_isWord_28 ci_0 ?_
    refine g_istore_n (i := 2) (lv' := [(2, .int (0)), (0, .ref (yad y (xa0))), (1, .ref (yad y (xa1)))]) (pc := 29) C dX5_isWord_29 rfl (Nat.le_of_ble_eq_true rfl) rfl ?_
    refine g_iconst (v := 0) (pc := 30) C dX5_isWord_30 ci_0 ?_
    refine g_istore_n (i := 3) (lv' := [(3, .int (0)), (2, .int (0)), (0, .ref (yad y (xa0))), (1, .ref (yad y (xa1)))]) (pc := 31) C dX5_isWord_31 rfl (Nat.le_of_ble_eq_true rfl) rfl ?_
    refine g_sub (lv' := [(0, .ref (yad y (xa0))), (1, .ref (yad y (xa1))), (2, .int (0)), (3, .int (0))]) C [2, 3, 1, 0] rfl ?_
    exact l_X5_isWord_32 C hr 1000 xa0 xa1 0 0 σ h
  · have h := iP xq2 h
    refine g_aload_n (pc := 8) C dX5_isWord_8 rfl 0 rfl ?_
    refine gf_5_10 (pc := 9) C wf_X5_241 dX5_isWord_9 xq1 ?_
    refine g_aload_n (pc := 12) C dX5_isWord_12 rfl 0 rfl ?_
    refine gf_5_9 (pc := 13) C wf_X5_244 dX5_isWord_13 xq1 ?_
    refine g_isub (pc := 16) C dX5_isWord_16 ?_
    refine g_aload_n (pc := 17) C dX5_isWord_17 rfl 1 rfl ?_
    obtain ⟨xq5, h⟩ := iC h
    obtain ⟨xr6, xσ3, xc4, h⟩ := iB h
    refine g_callVi (pc := 18) (As := []) (rest := [.int ((σ xa0 10) - (σ xa0 9))]) C dX5_isWord_18 (fun l => c_J0_length_8abf5 l y _ _ _ _ xc4) cv_X5_256 ⟨rfl, rfl, Nat.le_of_ble_eq_true rfl, Nat.le_of_ble_eq_true rfl⟩ (rvS xq5) rfl (Nat.le_of_ble_eq_true rfl) ?_
    refine g_icmp_ne (pc := 21) C dX5_isWord_21 (tgt := 28) rfl (fun xq7 => ?_) (fun xq7 => ?_)
    · have h := iN xq7 h
      refine g_iconst (v := 0) (pc := 28) C dX5_isWord_28 ci_0 ?_
      refine g_istore_n (i := 2) (lv' := [(2, .int (0)), (0, .ref (yad y (xa0))), (1, .ref (yad y (xa1)))]) (pc := 29) C dX5_isWord_29 rfl (Nat.le_of_ble_eq_true rfl) rfl ?_
      refine g_iconst (v := 0) (pc := 30) C dX5_isWord_30 ci_0 ?_
      refine g_istore_n (i := 3) (lv' := [(3, .int (0)), (2, .int (0)), (0, .ref (yad y (xa0))), (1, .ref (yad y (xa1)))]) (pc := 31) C dX5_isWord_31 rfl (Nat.le_of_ble_eq_true rfl) rfl ?_
      refine g_sub (lv' := [(0, .ref (yad y (xa0))), (1, .ref (yad y (xa1))), (2, .int (0)), (3, .int (0))]) C [2, 3, 1, 0] rfl ?_
      exact l_X5_isWord_32 C hr 1000 xa0 xa1 0 0 xσ3 h
    · have h := iP xq7 h
      refine g_iconst (v := 1) (pc := 24) C dX5_isWord_24 ci_1 ?_
      refine g_goto (pc := 25) C dX5_isWord_25 (tgt := 29) rfl ?_
      refine g_istore_n (i := 2) (lv' := [(2, .int (1)), (0, .ref (yad y (xa0))), (1, .ref (yad y (xa1)))]) (pc := 29) C dX5_isWord_29 rfl (Nat.le_of_ble_eq_true rfl) rfl ?_
      refine g_iconst (v := 0) (pc := 30) C dX5_isWord_30 ci_0 ?_
      refine g_istore_n (i := 3) (lv' := [(3, .int (0)), (2, .int (1)), (0, .ref (yad y (xa0))), (1, .ref (yad y (xa1)))]) (pc := 31) C dX5_isWord_31 rfl (Nat.le_of_ble_eq_true rfl) rfl ?_
      refine g_sub (lv' := [(0, .ref (yad y (xa0))), (1, .ref (yad y (xa1))), (2, .int (1)), (3, .int (0))]) C [2, 3, 1, 0] rfl ?_
      exact l_X5_isWord_32 C hr 1000 xa0 xa1 1 0 xσ3 h
theorem c_X5_isWord (l : Launch) (y : YT) (xa0 : Nat) (xa1 : Nat) (σ σ' : Sto) (r : Int32) (h : F_X5_isWord xa0 xa1 σ = some (r, σ')) : MI l y yX5_isWord (Cond.code yX5_isWord cX5_isWord 4 (some .boolean) :: TT) rm_X5_isWord [.ref (yad y (xa0)), .ref (yad y (xa1))] σ r σ' :=
  mkZ (by decide) rfl rfl rfl (Nat.le_of_ble_eq_true rfl) (fun x Z C hr => b_X5_isWord_0 C hr xa0 xa1 σ h)
def rm_X5_must : Room := { frames := 2, cells := 0, slots := 0, locals := 61 }
def F_X5_must_b12 (xa0 : Nat) (xs0 : Nat) (σ : Sto) : Option (Unit × Sto) := ck (kd (xs0) == 5) (lts (up2 σ (xs0) 13 (1)) (fun xσ2 => ck (kd (xa0) == 5) (if (xσ2 xa0 13) = 0 then bnd (F_X5_token (xa0) xσ2) (fun xr7 xσ5 => some ((), xσ5)) else some ((), xσ2))))
def F_X5_must (xa0 : Nat) (xa1 : Int32) (σ : Sto) : Option (Unit × Sto) := ck (kd (xa0) == 5) (if (σ xa0 13) = 0 then if (xa1) = 0 then F_X5_must_b12 xa0 xa0 σ else lts (up2 σ (xa0) 13 (0)) (fun xσ4 => if (xσ4 xa0 13) = 0 then bnd (F_X5_token (xa0) xσ4) (fun xr8 xσ6 => some ((), xσ6)) else some ((), xσ4)) else F_X5_must_b12 xa0 xa0 σ)
set_option maxHeartbeats 4000000 in
set_option maxRecDepth 20000 in
theorem b_X5_must_12 {x : XT} {y : YT} {Z : State → Prop} (C : Cx x y (AY y) RX5 cX5_must 2 rm_X5_must) {r : Unit} {σ' : Sto} (hr : RetV x y (AY y) 2 cX5_must Z r σ') (xa0 : Nat) (xs0 : Nat) (σ : Sto) (h : F_X5_must_b12 xa0 xs0 σ = some (r, σ')) : GW x y (AY y) 2 Z 12 [(0, .ref (yad y (xa0)))] [.ref (yad y (xs0))] σ := by
  unfold F_X5_must_b12 at h
  refine g_iconst (v := 1) (pc := 12) C dX5_must_12 ci_1 ?_
  refine g_goto (pc := 13) C dX5_must_13 (tgt := 17) rfl ?_
  obtain ⟨xq1, h⟩ := iC h
  have xq1 := keq xq1
  refine gp_5_13 (pc := 17) C wf_X5_263 dX5_must_17 xq1 (by decide) ?_
  refine g_letS h (fun xσ2 h => ?_)
  refine g_aload_n (pc := 20) C dX5_must_20 rfl 0 rfl ?_
  obtain ⟨xq3, h⟩ := iC h
  have xq3 := keq xq3
  refine gf_5_13 (pc := 21) C wf_X5_263 dX5_must_21 xq3 ?_
  refine g_if_ne (pc := 24) C dX5_must_24 (tgt := 31) rfl (fun xq4 => ?_) (fun xq4 => ?_)
  · have h := iN xq4 h
    exact rtV hr dX5_must_31 h
  · have h := iP xq4 h
    refine g_aload_n (pc := 27) C dX5_must_27 rfl 0 rfl ?_
    obtain ⟨xr7, xσ5, xc6, h⟩ := iB h
    refine g_callVv (pc := 28) (As := []) (rest := []) C dX5_must_28 (fun l => c_X5_token l y _ _ _ _ xc6) cv_X5_267 ⟨rfl, rfl, Nat.le_of_ble_eq_true rfl, Nat.le_of_ble_eq_true rfl⟩ (rv5 xq3) rfl (Nat.le_of_ble_eq_true rfl) ?_
    exact rtV hr dX5_must_31 h
set_option maxHeartbeats 4000000 in
set_option maxRecDepth 20000 in
theorem b_X5_must_0 {x : XT} {y : YT} {Z : State → Prop} (C : Cx x y (AY y) RX5 cX5_must 2 rm_X5_must) {r : Unit} {σ' : Sto} (hr : RetV x y (AY y) 2 cX5_must Z r σ') (xa0 : Nat) (xa1 : Int32) (σ : Sto) (h : F_X5_must xa0 xa1 σ = some (r, σ')) : GW x y (AY y) 2 Z 0 [(0, .ref (yad y (xa0))), (1, .int (xa1))] [] σ := by
  unfold F_X5_must at h
  refine g_aload_n (pc := 0) C dX5_must_0 rfl 0 rfl ?_
  refine g_aload_n (pc := 1) C dX5_must_1 rfl 0 rfl ?_
  obtain ⟨xq1, h⟩ := iC h
  have xq1 := keq xq1
  refine gf_5_13 (pc := 2) C wf_X5_263 dX5_must_2 xq1 ?_
  refine g_if_ne (pc := 5) C dX5_must_5 (tgt := 12) rfl (fun xq2 => ?_) (fun xq2 => ?_)
  · have h := iN xq2 h
    refine g_sub (lv' := [(0, .ref (yad y (xa0)))]) C [0] rfl ?_
    exact b_X5_must_12 C hr xa0 xa0 σ h
  · have h := iP xq2 h
    refine g_iload_n (pc := 8) C dX5_must_8 rfl 1 rfl ?_
    refine g_if_ne (pc := 9) C dX5_must_9 (tgt := 16) rfl (fun xq3 => ?_) (fun xq3 => ?_)
    · have h := iN xq3 h
      refine g_iconst (v := 0) (pc := 16) C dX5_must_16 ci_0 ?_
      refine gp_5_13 (pc := 17) C wf_X5_263 dX5_must_17 xq1 (by decide) ?_
      refine g_letS h (fun xσ4 h => ?_)
      refine g_aload_n (pc := 20) C dX5_must_20 rfl 0 rfl ?_
      refine gf_5_13 (pc := 21) C wf_X5_263 dX5_must_21 xq1 ?_
      refine g_if_ne (pc := 24) C dX5_must_24 (tgt := 31) rfl (fun xq5 => ?_) (fun xq5 => ?_)
      · have h := iN xq5 h
        exact rtV hr dX5_must_31 h
      · have h := iP xq5 h
        refine g_aload_n (pc := 27) C dX5_must_27 rfl 0 rfl ?_
        obtain ⟨xr8, xσ6, xc7, h⟩ := iB h
        refine g_callVv (pc := 28) (As := []) (rest := []) C dX5_must_28 (fun l => c_X5_token l y _ _ _ _ xc7) cv_X5_267 ⟨rfl, rfl, Nat.le_of_ble_eq_true rfl, Nat.le_of_ble_eq_true rfl⟩ (rv5 xq1) rfl (Nat.le_of_ble_eq_true rfl) ?_
        exact rtV hr dX5_must_31 h
    · have h := iP xq3 h
      refine g_sub (lv' := [(0, .ref (yad y (xa0)))]) C [0] rfl ?_
      exact b_X5_must_12 C hr xa0 xa0 σ h
theorem c_X5_must (l : Launch) (y : YT) (xa0 : Nat) (xa1 : Int32) (σ σ' : Sto) (r : Unit) (h : F_X5_must xa0 xa1 σ = some (r, σ')) : MV l y yX5_must (Cond.code yX5_must cX5_must 2 none :: TT) rm_X5_must [.ref (yad y (xa0)), .int (xa1)] σ r σ' :=
  mkV (by decide) rfl rfl rfl (Nat.le_of_ble_eq_true rfl) (fun x Z C hr => b_X5_must_0 C hr xa0 xa1 σ h)
def rm_X5_number : Room := { frames := 3, cells := 0, slots := 0, locals := 82 }
def F_X5_number (xa0 : Nat) (xa1 : Int32) (xa2 : Int32) (σ : Sto) : Option (Int32 × Sto) := ck (kd (xa0) == 5) (lti (σ xa0 12) (fun xv2 => if (σ xa0 11) = 2 then bnd (F_X5_within (xv2) (xa1) (xa2) σ) (fun xr9 xσ7 => if (xr9) = 0 then bnd (F_X5_must (xa0) 0 xσ7) (fun xr13 xσ11 => some (xv2, xσ11)) else bnd (F_X5_must (xa0) 1 xσ7) (fun xr16 xσ14 => some (xv2, xσ14))) else bnd (F_X5_must (xa0) 0 σ) (fun xr6 xσ4 => some (xv2, xσ4))))
set_option maxHeartbeats 4000000 in
set_option maxRecDepth 20000 in
theorem b_X5_number_0 {x : XT} {y : YT} {Z : State → Prop} (C : Cx x y (AY y) RX5 cX5_number 4 rm_X5_number) {r : Int32} {σ' : Sto} (hr : RetI x y (AY y) 4 cX5_number Z r σ') (xa0 : Nat) (xa1 : Int32) (xa2 : Int32) (σ : Sto) (h : F_X5_number xa0 xa1 xa2 σ = some (r, σ')) : GW x y (AY y) 4 Z 0 [(0, .ref (yad y (xa0))), (1, .int (xa1)), (2, .int (xa2))] [] σ := by
  unfold F_X5_number at h
  refine g_aload_n (pc := 0) C dX5_number_0 rfl 0 rfl ?_
  obtain ⟨xq1, h⟩ := iC h
  have xq1 := keq xq1
  refine gf_5_12 (pc := 1) C wf_X5_250 dX5_number_1 xq1 ?_
  refine g_letI h (fun xv2 h => ?_)
  refine g_istore_n (i := 3) (lv' := [(3, .int (xv2)), (0, .ref (yad y (xa0))), (1, .int (xa1)), (2, .int (xa2))]) (pc := 4) C dX5_number_4 rfl (Nat.le_of_ble_eq_true rfl) rfl ?_
  refine g_aload_n (pc := 5) C dX5_number_5 rfl 1 rfl ?_
  refine g_aload_n (pc := 6) C dX5_number_6 rfl 1 rfl ?_
  refine gf_5_11 (pc := 7) C wf_X5_253 dX5_number_7 xq1 ?_
  refine g_iconst (v := 2) (pc := 10) C dX5_number_10 ci_2 ?_
  refine g_icmp_ne (pc := 11) C dX5_number_11 (tgt := 27) rfl (fun xq3 => ?_) (fun xq3 => ?_)
  · have h := iN xq3 h
    refine g_iconst (v := 0) (pc := 27) C dX5_number_27 ci_0 ?_
    obtain ⟨xr6, xσ4, xc5, h⟩ := iB h
    refine g_callVv (pc := 28) (As := [.int (0)]) (rest := []) C dX5_number_28 (fun l => c_X5_must l y _ _ _ _ _ xc5) cv_X5_270 ⟨rfl, rfl, Nat.le_of_ble_eq_true rfl, Nat.le_of_ble_eq_true rfl⟩ (rv5 xq1) rfl (Nat.le_of_ble_eq_true rfl) ?_
    refine g_iload_n (pc := 31) C dX5_number_31 rfl 0 rfl ?_
    exact rtI hr dX5_number_32 h
  · have h := iP xq3 h
    refine g_iload_n (pc := 14) C dX5_number_14 rfl 0 rfl ?_
    refine g_iload_n (pc := 15) C dX5_number_15 rfl 2 rfl ?_
    refine g_iload_n (pc := 16) C dX5_number_16 rfl 3 rfl ?_
    obtain ⟨xr9, xσ7, xc8, h⟩ := iB h
    refine g_callSi (pc := 17) (As := [.int (xv2), .int (xa1), .int (xa2)]) (rest := [.ref (yad y (xa0))]) C dX5_number_17 (fun l => c_X5_within l y _ _ _ _ _ _ xc8) cv_X5_70 ⟨rfl, rfl, Nat.le_of_ble_eq_true rfl, Nat.le_of_ble_eq_true rfl⟩ rfl (Nat.le_of_ble_eq_true rfl) ?_
    refine g_if_eq (pc := 20) C dX5_number_20 (tgt := 27) rfl (fun xq10 => ?_) (fun xq10 => ?_)
    · have h := iP xq10 h
      refine g_iconst (v := 0) (pc := 27) C dX5_number_27 ci_0 ?_
      obtain ⟨xr13, xσ11, xc12, h⟩ := iB h
      refine g_callVv (pc := 28) (As := [.int (0)]) (rest := []) C dX5_number_28 (fun l => c_X5_must l y _ _ _ _ _ xc12) cv_X5_270 ⟨rfl, rfl, Nat.le_of_ble_eq_true rfl, Nat.le_of_ble_eq_true rfl⟩ (rv5 xq1) rfl (Nat.le_of_ble_eq_true rfl) ?_
      refine g_iload_n (pc := 31) C dX5_number_31 rfl 0 rfl ?_
      exact rtI hr dX5_number_32 h
    · have h := iN xq10 h
      refine g_iconst (v := 1) (pc := 23) C dX5_number_23 ci_1 ?_
      refine g_goto (pc := 24) C dX5_number_24 (tgt := 28) rfl ?_
      obtain ⟨xr16, xσ14, xc15, h⟩ := iB h
      refine g_callVv (pc := 28) (As := [.int (1)]) (rest := []) C dX5_number_28 (fun l => c_X5_must l y _ _ _ _ _ xc15) cv_X5_270 ⟨rfl, rfl, Nat.le_of_ble_eq_true rfl, Nat.le_of_ble_eq_true rfl⟩ (rv5 xq1) rfl (Nat.le_of_ble_eq_true rfl) ?_
      refine g_iload_n (pc := 31) C dX5_number_31 rfl 0 rfl ?_
      exact rtI hr dX5_number_32 h
theorem c_X5_number (l : Launch) (y : YT) (xa0 : Nat) (xa1 : Int32) (xa2 : Int32) (σ σ' : Sto) (r : Int32) (h : F_X5_number xa0 xa1 xa2 σ = some (r, σ')) : MI l y yX5_number (Cond.code yX5_number cX5_number 4 (some .int) :: TT) rm_X5_number [.ref (yad y (xa0)), .int (xa1), .int (xa2)] σ r σ' :=
  mkI (by decide) rfl rfl rfl (Nat.le_of_ble_eq_true rfl) (fun x Z C hr => b_X5_number_0 C hr xa0 xa1 xa2 σ h)
def rm_X5_addItem : Room := { frames := 0, cells := 0, slots := 0, locals := 0 }
def F_X5_addItem_b2 (xk_2 : Nat → Int32 → Int32 → Int32 → Sto → Option (Unit × Sto)) (xa0 : Nat) (xa1 : Int32) (xa2 : Int32) (xa3 : Int32) (σ : Sto) : Option (Unit × Sto) := if 7 ≤ xa3 then ck (kd (xa0) == 5) (ck (inr (7 * (σ xa0 16)) (840)) (lts (up2 σ 56 ((7 * (σ xa0 16) : Int32).toNatClampNeg) (xa1)) (fun xσ4 => ck (inr ((7 * (xσ4 xa0 16)) + 1) (840)) (lts (up2 xσ4 56 (((7 * (xσ4 xa0 16)) + 1 : Int32).toNatClampNeg) (xa2)) (fun xσ6 => lts (up2 xσ6 (xa0) 16 ((xσ6 xa0 16) + 1)) (fun xσ7 => some ((), xσ7))))))) else ck (kd (xa0) == 5) (ck (inr ((7 * (σ xa0 16)) + xa3) (840)) (lts (up2 σ 56 (((7 * (σ xa0 16)) + xa3 : Int32).toNatClampNeg) ((-1))) (fun xσ10 => xk_2 xa0 xa1 xa2 (xa3 + 1) xσ10)))
def F_X5_addItem (xa0 : Nat) (xa1 : Int32) (xa2 : Int32) (σ : Sto) : Option (Unit × Sto) := lo4 (F_X5_addItem_b2) 1000 xa0 xa1 xa2 1 σ
set_option maxHeartbeats 4000000 in
set_option maxRecDepth 20000 in
theorem b_X5_addItem_2 {x : XT} {y : YT} {Z : State → Prop} (C : Cx x y (AY y) RX5 cX5_addItem 4 rm_X5_addItem) {r : Unit} {σ' : Sto} (hr : RetV x y (AY y) 4 cX5_addItem Z r σ') (xk_2 : Nat → Int32 → Int32 → Int32 → Sto → Option (Unit × Sto)) (xH2 : ∀ (xa0 : Nat) (xa1 : Int32) (xa2 : Int32) (xa3 : Int32) (σ : Sto), xk_2 xa0 xa1 xa2 xa3 σ = some (r, σ') → GW x y (AY y) 4 Z 2 [(0, .ref (yad y (xa0))), (1, .int (xa1)), (2, .int (xa2)), (3, .int (xa3))] [] σ) (xa0 : Nat) (xa1 : Int32) (xa2 : Int32) (xa3 : Int32) (σ : Sto) (h : F_X5_addItem_b2 xk_2 xa0 xa1 xa2 xa3 σ = some (r, σ')) : GW x y (AY y) 4 Z 2 [(0, .ref (yad y (xa0))), (1, .int (xa1)), (2, .int (xa2)), (3, .int (xa3))] [] σ := by
  unfold F_X5_addItem_b2 at h
  refine g_iload_n (pc := 2) C dX5_addItem_2 rfl 3 rfl ?_
  refine g_bipush (v := 7) (pc := 3) C dX5_addItem_3 cb_7 ?_
  refine g_icmp_ge (pc := 5) C dX5_addItem_5 (tgt := 29) rfl (fun xq1 => ?_) (fun xq1 => ?_)
  · have h := iP xq1 h
    refine g_aload_n (pc := 29) C dX5_addItem_29 rfl 0 rfl ?_
    obtain ⟨xq2, h⟩ := iC h
    have xq2 := keq xq2
    refine gf_5_15 (pc := 30) C wf_X5_45 dX5_addItem_30 xq2 ?_
    refine g_bipush (v := 7) (pc := 33) C dX5_addItem_33 cb_7 ?_
    refine g_aload_n (pc := 35) C dX5_addItem_35 rfl 0 rfl ?_
    refine gf_5_16 (pc := 36) C wf_X5_274 dX5_addItem_36 xq2 ?_
    refine g_imul (pc := 39) C dX5_addItem_39 ?_
    refine g_iload_n (pc := 40) C dX5_addItem_40 rfl 1 rfl ?_
    obtain ⟨xq3, h⟩ := iC h
    refine g_iast (pc := 41) C dX5_addItem_41 rfl (ivp xq3 rfl) (j := (7 * (σ xa0 16) : Int32).toNatClampNeg) rfl ?_
    refine g_letS h (fun xσ4 h => ?_)
    refine g_aload_n (pc := 42) C dX5_addItem_42 rfl 0 rfl ?_
    refine gf_5_15 (pc := 43) C wf_X5_45 dX5_addItem_43 xq2 ?_
    refine g_bipush (v := 7) (pc := 46) C dX5_addItem_46 cb_7 ?_
    refine g_aload_n (pc := 48) C dX5_addItem_48 rfl 0 rfl ?_
    refine gf_5_16 (pc := 49) C wf_X5_274 dX5_addItem_49 xq2 ?_
    refine g_imul (pc := 52) C dX5_addItem_52 ?_
    refine g_iconst (v := 1) (pc := 53) C dX5_addItem_53 ci_1 ?_
    refine g_iadd (pc := 54) C dX5_addItem_54 ?_
    refine g_iload_n (pc := 55) C dX5_addItem_55 rfl 2 rfl ?_
    obtain ⟨xq5, h⟩ := iC h
    refine g_iast (pc := 56) C dX5_addItem_56 rfl (ivp xq5 rfl) (j := ((7 * (xσ4 xa0 16)) + 1 : Int32).toNatClampNeg) rfl ?_
    refine g_letS h (fun xσ6 h => ?_)
    refine g_aload_n (pc := 57) C dX5_addItem_57 rfl 0 rfl ?_
    refine g_dup (pc := 58) C dX5_addItem_58 rfl ?_
    refine gf_5_16 (pc := 59) C wf_X5_274 dX5_addItem_59 xq2 ?_
    refine g_iconst (v := 1) (pc := 62) C dX5_addItem_62 ci_1 ?_
    refine g_iadd (pc := 63) C dX5_addItem_63 ?_
    refine gp_5_16 (pc := 64) C wf_X5_274 dX5_addItem_64 xq2 ?_
    refine g_letS h (fun xσ7 h => ?_)
    exact rtV hr dX5_addItem_67 h
  · have h := iN xq1 h
    refine g_aload_n (pc := 8) C dX5_addItem_8 rfl 0 rfl ?_
    obtain ⟨xq8, h⟩ := iC h
    have xq8 := keq xq8
    refine gf_5_15 (pc := 9) C wf_X5_45 dX5_addItem_9 xq8 ?_
    refine g_bipush (v := 7) (pc := 12) C dX5_addItem_12 cb_7 ?_
    refine g_aload_n (pc := 14) C dX5_addItem_14 rfl 0 rfl ?_
    refine gf_5_16 (pc := 15) C wf_X5_274 dX5_addItem_15 xq8 ?_
    refine g_imul (pc := 18) C dX5_addItem_18 ?_
    refine g_iload_n (pc := 19) C dX5_addItem_19 rfl 3 rfl ?_
    refine g_iadd (pc := 20) C dX5_addItem_20 ?_
    refine g_iconst (v := (-1)) (pc := 21) C dX5_addItem_21 ci_m1 ?_
    obtain ⟨xq9, h⟩ := iC h
    refine g_iast (pc := 22) C dX5_addItem_22 rfl (ivp xq9 rfl) (j := ((7 * (σ xa0 16)) + xa3 : Int32).toNatClampNeg) rfl ?_
    refine g_letS h (fun xσ10 h => ?_)
    refine g_iinc (lv' := [(3, .int (xa3 + 1)), (0, .ref (yad y (xa0))), (1, .int (xa1)), (2, .int (xa2))]) (w := xa3 + 1) (pc := 23) C dX5_addItem_23 (k := 3) rfl rfl (Nat.le_of_ble_eq_true rfl) rfl ?_
    refine g_goto (pc := 26) C dX5_addItem_26 (tgt := 2) rfl ?_
    refine g_sub (lv' := [(0, .ref (yad y (xa0))), (1, .int (xa1)), (2, .int (xa2)), (3, .int (xa3 + 1))]) C [1, 2, 3, 0] rfl ?_
    exact xH2 xa0 xa1 xa2 (xa3 + 1) xσ10 h
theorem l_X5_addItem_2 {x : XT} {y : YT} {Z : State → Prop} (C : Cx x y (AY y) RX5 cX5_addItem 4 rm_X5_addItem) {r : Unit} {σ' : Sto} (hr : RetV x y (AY y) 4 cX5_addItem Z r σ') (n : Nat) (xa0 : Nat) (xa1 : Int32) (xa2 : Int32) (xa3 : Int32) (σ : Sto) (h : lo4 (F_X5_addItem_b2) n xa0 xa1 xa2 xa3 σ = some (r, σ')) : GW x y (AY y) 4 Z 2 [(0, .ref (yad y (xa0))), (1, .int (xa1)), (2, .int (xa2)), (3, .int (xa3))] [] σ :=
  lo4_gw (G := fun xa0 xa1 xa2 xa3 σ => GW x y (AY y) 4 Z 2 [(0, .ref (yad y (xa0))), (1, .int (xa1)), (2, .int (xa2)), (3, .int (xa3))] [] σ) (fun xk xHk xa0 xa1 xa2 xa3 σ h => b_X5_addItem_2 C hr xk xHk xa0 xa1 xa2 xa3 σ h) n xa0 xa1 xa2 xa3 σ h
set_option maxHeartbeats 4000000 in
set_option maxRecDepth 20000 in
theorem b_X5_addItem_0 {x : XT} {y : YT} {Z : State → Prop} (C : Cx x y (AY y) RX5 cX5_addItem 4 rm_X5_addItem) {r : Unit} {σ' : Sto} (hr : RetV x y (AY y) 4 cX5_addItem Z r σ') (xa0 : Nat) (xa1 : Int32) (xa2 : Int32) (σ : Sto) (h : F_X5_addItem xa0 xa1 xa2 σ = some (r, σ')) : GW x y (AY y) 4 Z 0 [(0, .ref (yad y (xa0))), (1, .int (xa1)), (2, .int (xa2))] [] σ := by
  unfold F_X5_addItem at h
  refine g_iconst (v := 1) (pc := 0) C dX5_addItem_0 ci_1 ?_
  refine g_istore_n (i := 3) (lv' := [(3, .int (1)), (0, .ref (yad y (xa0))), (1, .int (xa1)), (2, .int (xa2))]) (pc := 1) C dX5_addItem_1 rfl (Nat.le_of_ble_eq_true rfl) rfl ?_
  refine g_sub (lv' := [(0, .ref (yad y (xa0))), (1, .int (xa1)), (2, .int (xa2)), (3, .int (1))]) C [1, 2, 3, 0] rfl ?_
  exact l_X5_addItem_2 C hr 1000 xa0 xa1 xa2 1 σ h
theorem c_X5_addItem (l : Launch) (y : YT) (xa0 : Nat) (xa1 : Int32) (xa2 : Int32) (σ σ' : Sto) (r : Unit) (h : F_X5_addItem xa0 xa1 xa2 σ = some (r, σ')) : MV l y yX5_addItem (Cond.code yX5_addItem cX5_addItem 4 none :: TT) rm_X5_addItem [.ref (yad y (xa0)), .int (xa1), .int (xa2)] σ r σ' :=
  mkV (by decide) rfl rfl rfl (Nat.le_of_ble_eq_true rfl) (fun x Z C hr => b_X5_addItem_0 C hr xa0 xa1 xa2 σ h)
def rm_X5_kindTold : Room := { frames := 7, cells := 0, slots := 0, locals := 184 }
def F_X5_kindTold_b4 (xk_4 : Nat → Int32 → Int32 → Sto → Option (Int32 × Sto)) (xa0 : Nat) (xa1 : Int32) (xa2 : Int32) (σ : Sto) : Option (Int32 × Sto) := ck (kd (xa0) == 5) (if 7 ≤ xa2 then some (xa1, σ) else ck (inr (xa2) (7)) (bnd (F_X5_isWord (xa0) (100 + xa2.toNatClampNeg) σ) (fun xr6 xσ4 => if (xr6) = 0 then xk_4 xa0 xa1 (xa2 + 1) xσ4 else xk_4 xa0 xa2 (xa2 + 1) xσ4)))
def F_X5_kindTold (xa0 : Nat) (σ : Sto) : Option (Int32 × Sto) := lo3 (F_X5_kindTold_b4) 1000 xa0 (-1) 0 σ
set_option maxHeartbeats 4000000 in
set_option maxRecDepth 20000 in
theorem b_X5_kindTold_4 {x : XT} {y : YT} {Z : State → Prop} (C : Cx x y (AY y) RX5 cX5_kindTold 3 rm_X5_kindTold) {r : Int32} {σ' : Sto} (hr : RetI x y (AY y) 3 cX5_kindTold Z r σ') (xk_4 : Nat → Int32 → Int32 → Sto → Option (Int32 × Sto)) (xH4 : ∀ (xa0 : Nat) (xa1 : Int32) (xa2 : Int32) (σ : Sto), xk_4 xa0 xa1 xa2 σ = some (r, σ') → GW x y (AY y) 3 Z 4 [(0, .ref (yad y (xa0))), (1, .int (xa1)), (2, .int (xa2))] [] σ) (xa0 : Nat) (xa1 : Int32) (xa2 : Int32) (σ : Sto) (h : F_X5_kindTold_b4 xk_4 xa0 xa1 xa2 σ = some (r, σ')) : GW x y (AY y) 3 Z 4 [(0, .ref (yad y (xa0))), (1, .int (xa1)), (2, .int (xa2))] [] σ := by
  unfold F_X5_kindTold_b4 at h
  refine g_iload_n (pc := 4) C dX5_kindTold_4 rfl 2 rfl ?_
  refine g_aload_n (pc := 5) C dX5_kindTold_5 rfl 0 rfl ?_
  obtain ⟨xq1, h⟩ := iC h
  have xq1 := keq xq1
  refine gf_5_14 (pc := 6) C wf_X5_41 dX5_kindTold_6 xq1 ?_
  refine g_alen9 (pc := 9) C dX5_kindTold_9 rfl (v := 7) (by decide) ?_
  refine g_icmp_ge (pc := 10) C dX5_kindTold_10 (tgt := 38) rfl (fun xq2 => ?_) (fun xq2 => ?_)
  · have h := iP xq2 h
    refine g_iload_n (pc := 38) C dX5_kindTold_38 rfl 1 rfl ?_
    exact rtI hr dX5_kindTold_39 h
  · have h := iN xq2 h
    refine g_aload_n (pc := 13) C dX5_kindTold_13 rfl 0 rfl ?_
    refine g_aload_n (pc := 14) C dX5_kindTold_14 rfl 0 rfl ?_
    refine gf_5_14 (pc := 15) C wf_X5_41 dX5_kindTold_15 xq1 ?_
    refine g_iload_n (pc := 18) C dX5_kindTold_18 rfl 2 rfl ?_
    obtain ⟨xq3, h⟩ := iC h
    refine g_aald9 (pc := 19) C dX5_kindTold_19 rfl (ivp xq3 rfl) ?_
    obtain ⟨xr6, xσ4, xc5, h⟩ := iB h
    refine g_callVi (pc := 20) (As := [.ref (yad y (100 + xa2.toNatClampNeg))]) (rest := []) C dX5_kindTold_20 (fun l => c_X5_isWord l y _ _ _ _ _ xc5) cv_X5_277 ⟨rfl, rfl, Nat.le_of_ble_eq_true rfl, Nat.le_of_ble_eq_true rfl⟩ (rv5 xq1) rfl (Nat.le_of_ble_eq_true rfl) ?_
    refine g_if_eq (pc := 23) C dX5_kindTold_23 (tgt := 30) rfl (fun xq7 => ?_) (fun xq7 => ?_)
    · have h := iP xq7 h
      refine g_iload_n (pc := 30) C dX5_kindTold_30 rfl 1 rfl ?_
      refine g_istore_n (i := 1) (lv' := [(1, .int (xa1)), (0, .ref (yad y (xa0))), (2, .int (xa2))]) (pc := 31) C dX5_kindTold_31 rfl (Nat.le_of_ble_eq_true rfl) rfl ?_
      refine g_iinc (lv' := [(2, .int (xa2 + 1)), (1, .int (xa1)), (0, .ref (yad y (xa0)))]) (w := xa2 + 1) (pc := 32) C dX5_kindTold_32 (k := 2) rfl rfl (Nat.le_of_ble_eq_true rfl) rfl ?_
      refine g_goto (pc := 35) C dX5_kindTold_35 (tgt := 4) rfl ?_
      refine g_sub (lv' := [(0, .ref (yad y (xa0))), (1, .int (xa1)), (2, .int (xa2 + 1))]) C [2, 1, 0] rfl ?_
      exact xH4 xa0 xa1 (xa2 + 1) xσ4 h
    · have h := iN xq7 h
      refine g_iload_n (pc := 26) C dX5_kindTold_26 rfl 2 rfl ?_
      refine g_goto (pc := 27) C dX5_kindTold_27 (tgt := 31) rfl ?_
      refine g_istore_n (i := 1) (lv' := [(1, .int (xa2)), (0, .ref (yad y (xa0))), (2, .int (xa2))]) (pc := 31) C dX5_kindTold_31 rfl (Nat.le_of_ble_eq_true rfl) rfl ?_
      refine g_iinc (lv' := [(2, .int (xa2 + 1)), (1, .int (xa2)), (0, .ref (yad y (xa0)))]) (w := xa2 + 1) (pc := 32) C dX5_kindTold_32 (k := 2) rfl rfl (Nat.le_of_ble_eq_true rfl) rfl ?_
      refine g_goto (pc := 35) C dX5_kindTold_35 (tgt := 4) rfl ?_
      refine g_sub (lv' := [(0, .ref (yad y (xa0))), (1, .int (xa2)), (2, .int (xa2 + 1))]) C [2, 1, 0] rfl ?_
      exact xH4 xa0 xa2 (xa2 + 1) xσ4 h
theorem l_X5_kindTold_4 {x : XT} {y : YT} {Z : State → Prop} (C : Cx x y (AY y) RX5 cX5_kindTold 3 rm_X5_kindTold) {r : Int32} {σ' : Sto} (hr : RetI x y (AY y) 3 cX5_kindTold Z r σ') (n : Nat) (xa0 : Nat) (xa1 : Int32) (xa2 : Int32) (σ : Sto) (h : lo3 (F_X5_kindTold_b4) n xa0 xa1 xa2 σ = some (r, σ')) : GW x y (AY y) 3 Z 4 [(0, .ref (yad y (xa0))), (1, .int (xa1)), (2, .int (xa2))] [] σ :=
  lo3_gw (G := fun xa0 xa1 xa2 σ => GW x y (AY y) 3 Z 4 [(0, .ref (yad y (xa0))), (1, .int (xa1)), (2, .int (xa2))] [] σ) (fun xk xHk xa0 xa1 xa2 σ h => b_X5_kindTold_4 C hr xk xHk xa0 xa1 xa2 σ h) n xa0 xa1 xa2 σ h
set_option maxHeartbeats 4000000 in
set_option maxRecDepth 20000 in
theorem b_X5_kindTold_0 {x : XT} {y : YT} {Z : State → Prop} (C : Cx x y (AY y) RX5 cX5_kindTold 3 rm_X5_kindTold) {r : Int32} {σ' : Sto} (hr : RetI x y (AY y) 3 cX5_kindTold Z r σ') (xa0 : Nat) (σ : Sto) (h : F_X5_kindTold xa0 σ = some (r, σ')) : GW x y (AY y) 3 Z 0 [(0, .ref (yad y (xa0)))] [] σ := by
  unfold F_X5_kindTold at h
  refine g_iconst (v := (-1)) (pc := 0) C dX5_kindTold_0 ci_m1 ?_
  refine g_istore_n (i := 1) (lv' := [(1, .int ((-1))), (0, .ref (yad y (xa0)))]) (pc := 1) C dX5_kindTold_1 rfl (Nat.le_of_ble_eq_true rfl) rfl ?_
  refine g_iconst (v := 0) (pc := 2) C dX5_kindTold_2 ci_0 ?_
  refine g_istore_n (i := 2) (lv' := [(2, .int (0)), (1, .int ((-1))), (0, .ref (yad y (xa0)))]) (pc := 3) C dX5_kindTold_3 rfl (Nat.le_of_ble_eq_true rfl) rfl ?_
  refine g_sub (lv' := [(0, .ref (yad y (xa0))), (1, .int ((-1))), (2, .int (0))]) C [2, 1, 0] rfl ?_
  exact l_X5_kindTold_4 C hr 1000 xa0 (-1) 0 σ h
theorem c_X5_kindTold (l : Launch) (y : YT) (xa0 : Nat) (σ σ' : Sto) (r : Int32) (h : F_X5_kindTold xa0 σ = some (r, σ')) : MI l y yX5_kindTold (Cond.code yX5_kindTold cX5_kindTold 3 (some .int) :: TT) rm_X5_kindTold [.ref (yad y (xa0))] σ r σ' :=
  mkI (by decide) rfl rfl rfl (Nat.le_of_ble_eq_true rfl) (fun x Z C hr => b_X5_kindTold_0 C hr xa0 σ h)
def rm_X5_perhaps : Room := { frames := 7, cells := 0, slots := 0, locals := 184 }
def F_X5_perhaps (xa0 : Nat) (xa1 : Nat) (xa2 : Int32) (xa3 : Int32) (σ : Sto) : Option (Int32 × Sto) := ck (kd (xa0) == 5) (if (σ xa0 13) = 0 then bnd (F_X5_isWord (xa0) (xa1) σ) (fun xr5 xσ3 => if (xr5) = 0 then some (xa3, xσ3) else bnd (F_X5_must (xa0) 1 xσ3) (fun xr9 xσ7 => bnd (F_X5_number (xa0) 0 (xa2) xσ7) (fun xr12 xσ10 => some (xr12, xσ10)))) else some (xa3, σ))
set_option maxHeartbeats 4000000 in
set_option maxRecDepth 20000 in
theorem b_X5_perhaps_0 {x : XT} {y : YT} {Z : State → Prop} (C : Cx x y (AY y) RX5 cX5_perhaps 4 rm_X5_perhaps) {r : Int32} {σ' : Sto} (hr : RetI x y (AY y) 4 cX5_perhaps Z r σ') (xa0 : Nat) (xa1 : Nat) (xa2 : Int32) (xa3 : Int32) (σ : Sto) (h : F_X5_perhaps xa0 xa1 xa2 xa3 σ = some (r, σ')) : GW x y (AY y) 4 Z 0 [(0, .ref (yad y (xa0))), (1, .ref (yad y (xa1))), (2, .int (xa2)), (3, .int (xa3))] [] σ := by
  unfold F_X5_perhaps at h
  refine g_aload_n (pc := 0) C dX5_perhaps_0 rfl 0 rfl ?_
  obtain ⟨xq1, h⟩ := iC h
  have xq1 := keq xq1
  refine gf_5_13 (pc := 1) C wf_X5_263 dX5_perhaps_1 xq1 ?_
  refine g_if_ne (pc := 4) C dX5_perhaps_4 (tgt := 15) rfl (fun xq2 => ?_) (fun xq2 => ?_)
  · have h := iN xq2 h
    refine g_iload_n (pc := 15) C dX5_perhaps_15 rfl 3 rfl ?_
    exact rtI hr dX5_perhaps_16 h
  · have h := iP xq2 h
    refine g_aload_n (pc := 7) C dX5_perhaps_7 rfl 0 rfl ?_
    refine g_aload_n (pc := 8) C dX5_perhaps_8 rfl 1 rfl ?_
    obtain ⟨xr5, xσ3, xc4, h⟩ := iB h
    refine g_callVi (pc := 9) (As := [.ref (yad y (xa1))]) (rest := []) C dX5_perhaps_9 (fun l => c_X5_isWord l y _ _ _ _ _ xc4) cv_X5_277 ⟨rfl, rfl, Nat.le_of_ble_eq_true rfl, Nat.le_of_ble_eq_true rfl⟩ (rv5 xq1) rfl (Nat.le_of_ble_eq_true rfl) ?_
    refine g_if_ne (pc := 12) C dX5_perhaps_12 (tgt := 17) rfl (fun xq6 => ?_) (fun xq6 => ?_)
    · have h := iN xq6 h
      refine g_aload_n (pc := 17) C dX5_perhaps_17 rfl 0 rfl ?_
      refine g_iconst (v := 1) (pc := 18) C dX5_perhaps_18 ci_1 ?_
      obtain ⟨xr9, xσ7, xc8, h⟩ := iB h
      refine g_callVv (pc := 19) (As := [.int (1)]) (rest := []) C dX5_perhaps_19 (fun l => c_X5_must l y _ _ _ _ _ xc8) cv_X5_270 ⟨rfl, rfl, Nat.le_of_ble_eq_true rfl, Nat.le_of_ble_eq_true rfl⟩ (rv5 xq1) rfl (Nat.le_of_ble_eq_true rfl) ?_
      refine g_aload_n (pc := 22) C dX5_perhaps_22 rfl 0 rfl ?_
      refine g_iconst (v := 0) (pc := 23) C dX5_perhaps_23 ci_0 ?_
      refine g_iload_n (pc := 24) C dX5_perhaps_24 rfl 2 rfl ?_
      obtain ⟨xr12, xσ10, xc11, h⟩ := iB h
      refine g_callVi (pc := 25) (As := [.int (0), .int (xa2)]) (rest := []) C dX5_perhaps_25 (fun l => c_X5_number l y _ _ _ _ _ _ xc11) cv_X5_281 ⟨rfl, rfl, Nat.le_of_ble_eq_true rfl, Nat.le_of_ble_eq_true rfl⟩ (rv5 xq1) rfl (Nat.le_of_ble_eq_true rfl) ?_
      exact rtI hr dX5_perhaps_28 h
    · have h := iP xq6 h
      refine g_iload_n (pc := 15) C dX5_perhaps_15 rfl 3 rfl ?_
      exact rtI hr dX5_perhaps_16 h
theorem c_X5_perhaps (l : Launch) (y : YT) (xa0 : Nat) (xa1 : Nat) (xa2 : Int32) (xa3 : Int32) (σ σ' : Sto) (r : Int32) (h : F_X5_perhaps xa0 xa1 xa2 xa3 σ = some (r, σ')) : MI l y yX5_perhaps (Cond.code yX5_perhaps cX5_perhaps 4 (some .int) :: TT) rm_X5_perhaps [.ref (yad y (xa0)), .ref (yad y (xa1)), .int (xa2), .int (xa3)] σ r σ' :=
  mkI (by decide) rfl rfl rfl (Nat.le_of_ble_eq_true rfl) (fun x Z C hr => b_X5_perhaps_0 C hr xa0 xa1 xa2 xa3 σ h)
def rm_X5_readSitter : Room := { frames := 8, cells := 0, slots := 0, locals := 207 }
def F_X5_readSitter_b15 (xa0 : Nat) (xa1 : Int32) (xs0 : Int32) (xs1 : Nat) (σ : Sto) : Option (Unit × Sto) := ck (kd (xs1) == 5) (bnd (F_X5_must (xs1) (xs0) σ) (fun xr4 xσ1 => ck (kd (xa0) == 5) (bnd (F_X5_perhaps (xa0) (107) 90 60 xσ1) (fun xr8 xσ5 => bnd (F_X5_addItem (xa0) (xa1) (xr8) xσ5) (fun xr11 xσ9 => lti (7 * ((xσ9 xa0 16) - 1)) (fun xv12 => bnd (F_X5_perhaps (xa0) (108) 9 5 xσ9) (fun xr15 xσ13 => ck (inr (xv12 + 2) (840)) (lts (up2 xσ13 56 ((xv12 + 2 : Int32).toNatClampNeg) (xr15)) (fun xσ17 => bnd (F_X5_perhaps (xa0) (109) 9 3 xσ17) (fun xr20 xσ18 => ck (inr (xv12 + 3) (840)) (lts (up2 xσ18 56 ((xv12 + 3 : Int32).toNatClampNeg) (xr20)) (fun xσ22 => bnd (F_X5_perhaps (xa0) (110) 999 20 xσ22) (fun xr25 xσ23 => ck (inr (xv12 + 4) (840)) (lts (up2 xσ23 56 ((xv12 + 4 : Int32).toNatClampNeg) (xr25)) (fun xσ27 => lts (up2 xσ27 (xa0) 17 ((xσ27 xa0 17) + 1)) (fun xσ28 => some ((), xσ28)))))))))))))))))
def F_X5_readSitter (xa0 : Nat) (xa1 : Int32) (σ : Sto) : Option (Unit × Sto) := ck (kd (xa0) == 5) (if 8 ≤ (σ xa0 17) then F_X5_readSitter_b15 xa0 xa1 0 xa0 σ else F_X5_readSitter_b15 xa0 xa1 1 xa0 σ)
set_option maxHeartbeats 4000000 in
set_option maxRecDepth 20000 in
theorem b_X5_readSitter_15 {x : XT} {y : YT} {Z : State → Prop} (C : Cx x y (AY y) RX5 cX5_readSitter 3 rm_X5_readSitter) {r : Unit} {σ' : Sto} (hr : RetV x y (AY y) 3 cX5_readSitter Z r σ') (xa0 : Nat) (xa1 : Int32) (xs0 : Int32) (xs1 : Nat) (σ : Sto) (h : F_X5_readSitter_b15 xa0 xa1 xs0 xs1 σ = some (r, σ')) : GW x y (AY y) 3 Z 15 [(0, .ref (yad y (xa0))), (1, .int (xa1))] [.int (xs0), .ref (yad y (xs1))] σ := by
  unfold F_X5_readSitter_b15 at h
  obtain ⟨xq3, h⟩ := iC h
  have xq3 := keq xq3
  obtain ⟨xr4, xσ1, xc2, h⟩ := iB h
  refine g_callVv (pc := 15) (As := [.int (xs0)]) (rest := []) C dX5_readSitter_15 (fun l => c_X5_must l y _ _ _ _ _ xc2) cv_X5_270 ⟨rfl, rfl, Nat.le_of_ble_eq_true rfl, Nat.le_of_ble_eq_true rfl⟩ (rv5 xq3) rfl (Nat.le_of_ble_eq_true rfl) ?_
  refine g_aload_n (pc := 18) C dX5_readSitter_18 rfl 0 rfl ?_
  refine g_iload_n (pc := 19) C dX5_readSitter_19 rfl 1 rfl ?_
  refine g_aload_n (pc := 20) C dX5_readSitter_20 rfl 0 rfl ?_
  refine g_ldcws (pc := 21) C dX5_readSitter_21 (k := 7) (tx := _) sit_X5_287 ?_
  refine g_bipush (v := 90) (pc := 24) C dX5_readSitter_24 cb_90 ?_
  refine g_bipush (v := 60) (pc := 26) C dX5_readSitter_26 cb_60 ?_
  obtain ⟨xq7, h⟩ := iC h
  have xq7 := keq xq7
  obtain ⟨xr8, xσ5, xc6, h⟩ := iB h
  refine g_callVi (pc := 28) (As := [.ref (yad y (107)), .int (90), .int (60)]) (rest := [.int (xa1), .ref (yad y (xa0))]) C dX5_readSitter_28 (fun l => c_X5_perhaps l y _ _ _ _ _ _ _ xc6) cv_X5_289 ⟨rfl, rfl, Nat.le_of_ble_eq_true rfl, Nat.le_of_ble_eq_true rfl⟩ (rv5 xq7) rfl (Nat.le_of_ble_eq_true rfl) ?_
  obtain ⟨xr11, xσ9, xc10, h⟩ := iB h
  refine g_callVv (pc := 31) (As := [.int (xa1), .int (xr8)]) (rest := []) C dX5_readSitter_31 (fun l => c_X5_addItem l y _ _ _ _ _ _ xc10) cv_X5_293 ⟨rfl, rfl, Nat.le_of_ble_eq_true rfl, Nat.le_of_ble_eq_true rfl⟩ (rv5 xq7) rfl (Nat.le_of_ble_eq_true rfl) ?_
  refine g_bipush (v := 7) (pc := 34) C dX5_readSitter_34 cb_7 ?_
  refine g_aload_n (pc := 36) C dX5_readSitter_36 rfl 0 rfl ?_
  refine gf_5_16 (pc := 37) C wf_X5_274 dX5_readSitter_37 xq7 ?_
  refine g_iconst (v := 1) (pc := 40) C dX5_readSitter_40 ci_1 ?_
  refine g_isub (pc := 41) C dX5_readSitter_41 ?_
  refine g_imul (pc := 42) C dX5_readSitter_42 ?_
  refine g_letI h (fun xv12 h => ?_)
  refine g_istore_n (i := 2) (lv' := [(2, .int (xv12)), (0, .ref (yad y (xa0))), (1, .int (xa1))]) (pc := 43) C dX5_readSitter_43 rfl (Nat.le_of_ble_eq_true rfl) rfl ?_
  refine g_aload_n (pc := 44) C dX5_readSitter_44 rfl 1 rfl ?_
  refine gf_5_15 (pc := 45) C wf_X5_45 dX5_readSitter_45 xq7 ?_
  refine g_iload_n (pc := 48) C dX5_readSitter_48 rfl 0 rfl ?_
  refine g_iconst (v := 2) (pc := 49) C dX5_readSitter_49 ci_2 ?_
  refine g_iadd (pc := 50) C dX5_readSitter_50 ?_
  refine g_aload_n (pc := 51) C dX5_readSitter_51 rfl 1 rfl ?_
  refine g_ldcws (pc := 52) C dX5_readSitter_52 (k := 8) (tx := _) sit_X5_296 ?_
  refine g_bipush (v := 9) (pc := 55) C dX5_readSitter_55 cb_9 ?_
  refine g_iconst (v := 5) (pc := 57) C dX5_readSitter_57 ci_5 ?_
  obtain ⟨xr15, xσ13, xc14, h⟩ := iB h
  refine g_callVi (pc := 58) (As := [.ref (yad y (108)), .int (9), .int (5)]) (rest := [.int (xv12 + 2), .ref (yad y (56))]) C dX5_readSitter_58 (fun l => c_X5_perhaps l y _ _ _ _ _ _ _ xc14) cv_X5_289 ⟨rfl, rfl, Nat.le_of_ble_eq_true rfl, Nat.le_of_ble_eq_true rfl⟩ (rv5 xq7) rfl (Nat.le_of_ble_eq_true rfl) ?_
  obtain ⟨xq16, h⟩ := iC h
  refine g_iast (pc := 61) C dX5_readSitter_61 rfl (ivp xq16 rfl) (j := (xv12 + 2 : Int32).toNatClampNeg) rfl ?_
  refine g_letS h (fun xσ17 h => ?_)
  refine g_aload_n (pc := 62) C dX5_readSitter_62 rfl 1 rfl ?_
  refine gf_5_15 (pc := 63) C wf_X5_45 dX5_readSitter_63 xq7 ?_
  refine g_iload_n (pc := 66) C dX5_readSitter_66 rfl 0 rfl ?_
  refine g_iconst (v := 3) (pc := 67) C dX5_readSitter_67 ci_3 ?_
  refine g_iadd (pc := 68) C dX5_readSitter_68 ?_
  refine g_aload_n (pc := 69) C dX5_readSitter_69 rfl 1 rfl ?_
  refine g_ldcws (pc := 70) C dX5_readSitter_70 (k := 9) (tx := _) sit_X5_298 ?_
  refine g_bipush (v := 9) (pc := 73) C dX5_readSitter_73 cb_9 ?_
  refine g_iconst (v := 3) (pc := 75) C dX5_readSitter_75 ci_3 ?_
  obtain ⟨xr20, xσ18, xc19, h⟩ := iB h
  refine g_callVi (pc := 76) (As := [.ref (yad y (109)), .int (9), .int (3)]) (rest := [.int (xv12 + 3), .ref (yad y (56))]) C dX5_readSitter_76 (fun l => c_X5_perhaps l y _ _ _ _ _ _ _ xc19) cv_X5_289 ⟨rfl, rfl, Nat.le_of_ble_eq_true rfl, Nat.le_of_ble_eq_true rfl⟩ (rv5 xq7) rfl (Nat.le_of_ble_eq_true rfl) ?_
  obtain ⟨xq21, h⟩ := iC h
  refine g_iast (pc := 79) C dX5_readSitter_79 rfl (ivp xq21 rfl) (j := (xv12 + 3 : Int32).toNatClampNeg) rfl ?_
  refine g_letS h (fun xσ22 h => ?_)
  refine g_aload_n (pc := 80) C dX5_readSitter_80 rfl 1 rfl ?_
  refine gf_5_15 (pc := 81) C wf_X5_45 dX5_readSitter_81 xq7 ?_
  refine g_iload_n (pc := 84) C dX5_readSitter_84 rfl 0 rfl ?_
  refine g_iconst (v := 4) (pc := 85) C dX5_readSitter_85 ci_4 ?_
  refine g_iadd (pc := 86) C dX5_readSitter_86 ?_
  refine g_aload_n (pc := 87) C dX5_readSitter_87 rfl 1 rfl ?_
  refine g_ldcws (pc := 88) C dX5_readSitter_88 (k := 10) (tx := _) sit_X5_300 ?_
  refine g_sipush (v := 999) (pc := 91) C dX5_readSitter_91 cs_999 ?_
  refine g_bipush (v := 20) (pc := 94) C dX5_readSitter_94 cb_20 ?_
  obtain ⟨xr25, xσ23, xc24, h⟩ := iB h
  refine g_callVi (pc := 96) (As := [.ref (yad y (110)), .int (999), .int (20)]) (rest := [.int (xv12 + 4), .ref (yad y (56))]) C dX5_readSitter_96 (fun l => c_X5_perhaps l y _ _ _ _ _ _ _ xc24) cv_X5_289 ⟨rfl, rfl, Nat.le_of_ble_eq_true rfl, Nat.le_of_ble_eq_true rfl⟩ (rv5 xq7) rfl (Nat.le_of_ble_eq_true rfl) ?_
  obtain ⟨xq26, h⟩ := iC h
  refine g_iast (pc := 99) C dX5_readSitter_99 rfl (ivp xq26 rfl) (j := (xv12 + 4 : Int32).toNatClampNeg) rfl ?_
  refine g_letS h (fun xσ27 h => ?_)
  refine g_aload_n (pc := 100) C dX5_readSitter_100 rfl 1 rfl ?_
  refine g_dup (pc := 101) C dX5_readSitter_101 rfl ?_
  refine gf_5_17 (pc := 102) C wf_X5_284 dX5_readSitter_102 xq7 ?_
  refine g_iconst (v := 1) (pc := 105) C dX5_readSitter_105 ci_1 ?_
  refine g_iadd (pc := 106) C dX5_readSitter_106 ?_
  refine gp_5_17 (pc := 107) C wf_X5_284 dX5_readSitter_107 xq7 ?_
  refine g_letS h (fun xσ28 h => ?_)
  exact rtV hr dX5_readSitter_110 h
set_option maxHeartbeats 4000000 in
set_option maxRecDepth 20000 in
theorem b_X5_readSitter_0 {x : XT} {y : YT} {Z : State → Prop} (C : Cx x y (AY y) RX5 cX5_readSitter 3 rm_X5_readSitter) {r : Unit} {σ' : Sto} (hr : RetV x y (AY y) 3 cX5_readSitter Z r σ') (xa0 : Nat) (xa1 : Int32) (σ : Sto) (h : F_X5_readSitter xa0 xa1 σ = some (r, σ')) : GW x y (AY y) 3 Z 0 [(0, .ref (yad y (xa0))), (1, .int (xa1))] [] σ := by
  unfold F_X5_readSitter at h
  refine g_aload_n (pc := 0) C dX5_readSitter_0 rfl 0 rfl ?_
  refine g_aload_n (pc := 1) C dX5_readSitter_1 rfl 0 rfl ?_
  obtain ⟨xq1, h⟩ := iC h
  have xq1 := keq xq1
  refine gf_5_17 (pc := 2) C wf_X5_284 dX5_readSitter_2 xq1 ?_
  refine g_bipush (v := 8) (pc := 5) C dX5_readSitter_5 cb_8 ?_
  refine g_icmp_ge (pc := 7) C dX5_readSitter_7 (tgt := 14) rfl (fun xq2 => ?_) (fun xq2 => ?_)
  · have h := iP xq2 h
    refine g_iconst (v := 0) (pc := 14) C dX5_readSitter_14 ci_0 ?_
    exact b_X5_readSitter_15 C hr xa0 xa1 0 xa0 σ h
  · have h := iN xq2 h
    refine g_iconst (v := 1) (pc := 10) C dX5_readSitter_10 ci_1 ?_
    refine g_goto (pc := 11) C dX5_readSitter_11 (tgt := 15) rfl ?_
    exact b_X5_readSitter_15 C hr xa0 xa1 1 xa0 σ h
theorem c_X5_readSitter (l : Launch) (y : YT) (xa0 : Nat) (xa1 : Int32) (σ σ' : Sto) (r : Unit) (h : F_X5_readSitter xa0 xa1 σ = some (r, σ')) : MV l y yX5_readSitter (Cond.code yX5_readSitter cX5_readSitter 3 none :: TT) rm_X5_readSitter [.ref (yad y (xa0)), .int (xa1)] σ r σ' :=
  mkV (by decide) rfl rfl rfl (Nat.le_of_ble_eq_true rfl) (fun x Z C hr => b_X5_readSitter_0 C hr xa0 xa1 σ h)
def rm_X5_readQueue : Room := { frames := 4, cells := 0, slots := 0, locals := 105 }
def F_X5_readQueue_b77 (xk_34 : Nat → Int32 → Int32 → Sto → Option (Unit × Sto)) (xa0 : Nat) (xa1 : Int32) (xa2 : Int32) (xs0 : Int32) (σ : Sto) : Option (Unit × Sto) := if (xs0) = 0 then ck (kd (xa0) == 5) (bnd (F_X5_must (xa0) (xs0) σ) (fun xr5 xσ2 => xk_34 xa0 xa1 (xa2 + 1) xσ2)) else ck (kd (xa0) == 5) (ck (inr ((xa1 + 1) + xa2) (840)) (lts (up2 σ 56 (((xa1 + 1) + xa2 : Int32).toNatClampNeg) (σ xa0 12)) (fun xσ8 => bnd (F_X5_must (xa0) (xs0) xσ8) (fun xr11 xσ9 => xk_34 xa0 xa1 (xa2 + 1) xσ9))))
def F_X5_readQueue_b76 (xk_34 : Nat → Int32 → Int32 → Sto → Option (Unit × Sto)) (xa0 : Nat) (xa1 : Int32) (xa2 : Int32) (σ : Sto) : Option (Unit × Sto) := F_X5_readQueue_b77 xk_34 xa0 xa1 xa2 0 σ
def F_X5_readQueue_b34 (xk_34 : Nat → Int32 → Int32 → Sto → Option (Unit × Sto)) (xa0 : Nat) (xa1 : Int32) (xa2 : Int32) (σ : Sto) : Option (Unit × Sto) := ck (kd (xa0) == 5) (if (σ xa0 13) = 0 then if (σ xa0 11) = 2 then if 6 ≤ xa2 then F_X5_readQueue_b76 xk_34 xa0 xa1 xa2 σ else bnd (F_X5_within (σ xa0 12) 0 ((σ xa0 17) - 1) σ) (fun xr7 xσ5 => if (xr7) = 0 then F_X5_readQueue_b76 xk_34 xa0 xa1 xa2 xσ5 else F_X5_readQueue_b77 xk_34 xa0 xa1 xa2 1 xσ5) else some ((), σ) else some ((), σ))
def F_X5_readQueue (xa0 : Nat) (σ : Sto) : Option (Unit × Sto) := ck (kd (xa0) == 5) (bnd (F_X5_must (xa0) 1 σ) (fun xr4 xσ1 => bnd (F_X5_number (xa0) 0 ((xσ1 xa0 17) - 1) xσ1) (fun xr7 xσ5 => bnd (F_X5_addItem (xa0) 10 (xr7) xσ5) (fun xr10 xσ8 => lti (7 * ((xσ8 xa0 16) - 1)) (fun xv11 => lo3 (F_X5_readQueue_b34) 1000 xa0 xv11 1 xσ8)))))
set_option maxHeartbeats 4000000 in
set_option maxRecDepth 20000 in
theorem b_X5_readQueue_77 {x : XT} {y : YT} {Z : State → Prop} (C : Cx x y (AY y) RX5 cX5_readQueue 4 rm_X5_readQueue) {r : Unit} {σ' : Sto} (hr : RetV x y (AY y) 4 cX5_readQueue Z r σ') (xk_34 : Nat → Int32 → Int32 → Sto → Option (Unit × Sto)) (xH34 : ∀ (xa0 : Nat) (xa1 : Int32) (xa2 : Int32) (σ : Sto), xk_34 xa0 xa1 xa2 σ = some (r, σ') → GW x y (AY y) 4 Z 34 [(0, .ref (yad y (xa0))), (1, .int (xa1)), (2, .int (xa2))] [] σ) (xa0 : Nat) (xa1 : Int32) (xa2 : Int32) (xs0 : Int32) (σ : Sto) (h : F_X5_readQueue_b77 xk_34 xa0 xa1 xa2 xs0 σ = some (r, σ')) : GW x y (AY y) 4 Z 77 [(0, .ref (yad y (xa0))), (1, .int (xa1)), (2, .int (xa2))] [.int (xs0)] σ := by
  unfold F_X5_readQueue_b77 at h
  refine g_istore_n (i := 3) (lv' := [(3, .int (xs0)), (0, .ref (yad y (xa0))), (1, .int (xa1)), (2, .int (xa2))]) (pc := 77) C dX5_readQueue_77 rfl (Nat.le_of_ble_eq_true rfl) rfl ?_
  refine g_iload_n (pc := 78) C dX5_readQueue_78 rfl 0 rfl ?_
  refine g_if_eq (pc := 79) C dX5_readQueue_79 (tgt := 96) rfl (fun xq1 => ?_) (fun xq1 => ?_)
  · have h := iP xq1 h
    refine g_aload_n (pc := 96) C dX5_readQueue_96 rfl 1 rfl ?_
    refine g_iload_n (pc := 97) C dX5_readQueue_97 rfl 0 rfl ?_
    obtain ⟨xq4, h⟩ := iC h
    have xq4 := keq xq4
    obtain ⟨xr5, xσ2, xc3, h⟩ := iB h
    refine g_callVv (pc := 98) (As := [.int (xs0)]) (rest := []) C dX5_readQueue_98 (fun l => c_X5_must l y _ _ _ _ _ xc3) cv_X5_270 ⟨rfl, rfl, Nat.le_of_ble_eq_true rfl, Nat.le_of_ble_eq_true rfl⟩ (rv5 xq4) rfl (Nat.le_of_ble_eq_true rfl) ?_
    refine g_iinc (lv' := [(2, .int (xa2 + 1)), (3, .int (xs0)), (0, .ref (yad y (xa0))), (1, .int (xa1))]) (w := xa2 + 1) (pc := 101) C dX5_readQueue_101 (k := 3) rfl rfl (Nat.le_of_ble_eq_true rfl) rfl ?_
    refine g_goto (pc := 104) C dX5_readQueue_104 (tgt := 34) rfl ?_
    refine g_sub (lv' := [(0, .ref (yad y (xa0))), (1, .int (xa1)), (2, .int (xa2 + 1))]) C [2, 3, 0] rfl ?_
    exact xH34 xa0 xa1 (xa2 + 1) xσ2 h
  · have h := iN xq1 h
    refine g_aload_n (pc := 82) C dX5_readQueue_82 rfl 1 rfl ?_
    obtain ⟨xq6, h⟩ := iC h
    have xq6 := keq xq6
    refine gf_5_15 (pc := 83) C wf_X5_45 dX5_readQueue_83 xq6 ?_
    refine g_iload_n (pc := 86) C dX5_readQueue_86 rfl 2 rfl ?_
    refine g_iconst (v := 1) (pc := 87) C dX5_readQueue_87 ci_1 ?_
    refine g_iadd (pc := 88) C dX5_readQueue_88 ?_
    refine g_iload_n (pc := 89) C dX5_readQueue_89 rfl 3 rfl ?_
    refine g_iadd (pc := 90) C dX5_readQueue_90 ?_
    refine g_aload_n (pc := 91) C dX5_readQueue_91 rfl 1 rfl ?_
    refine gf_5_12 (pc := 92) C wf_X5_250 dX5_readQueue_92 xq6 ?_
    obtain ⟨xq7, h⟩ := iC h
    refine g_iast (pc := 95) C dX5_readQueue_95 rfl (ivp xq7 rfl) (j := ((xa1 + 1) + xa2 : Int32).toNatClampNeg) rfl ?_
    refine g_letS h (fun xσ8 h => ?_)
    refine g_aload_n (pc := 96) C dX5_readQueue_96 rfl 1 rfl ?_
    refine g_iload_n (pc := 97) C dX5_readQueue_97 rfl 0 rfl ?_
    obtain ⟨xr11, xσ9, xc10, h⟩ := iB h
    refine g_callVv (pc := 98) (As := [.int (xs0)]) (rest := []) C dX5_readQueue_98 (fun l => c_X5_must l y _ _ _ _ _ xc10) cv_X5_270 ⟨rfl, rfl, Nat.le_of_ble_eq_true rfl, Nat.le_of_ble_eq_true rfl⟩ (rv5 xq6) rfl (Nat.le_of_ble_eq_true rfl) ?_
    refine g_iinc (lv' := [(2, .int (xa2 + 1)), (3, .int (xs0)), (0, .ref (yad y (xa0))), (1, .int (xa1))]) (w := xa2 + 1) (pc := 101) C dX5_readQueue_101 (k := 3) rfl rfl (Nat.le_of_ble_eq_true rfl) rfl ?_
    refine g_goto (pc := 104) C dX5_readQueue_104 (tgt := 34) rfl ?_
    refine g_sub (lv' := [(0, .ref (yad y (xa0))), (1, .int (xa1)), (2, .int (xa2 + 1))]) C [2, 3, 0] rfl ?_
    exact xH34 xa0 xa1 (xa2 + 1) xσ9 h
set_option maxHeartbeats 4000000 in
set_option maxRecDepth 20000 in
theorem b_X5_readQueue_76 {x : XT} {y : YT} {Z : State → Prop} (C : Cx x y (AY y) RX5 cX5_readQueue 4 rm_X5_readQueue) {r : Unit} {σ' : Sto} (hr : RetV x y (AY y) 4 cX5_readQueue Z r σ') (xk_34 : Nat → Int32 → Int32 → Sto → Option (Unit × Sto)) (xH34 : ∀ (xa0 : Nat) (xa1 : Int32) (xa2 : Int32) (σ : Sto), xk_34 xa0 xa1 xa2 σ = some (r, σ') → GW x y (AY y) 4 Z 34 [(0, .ref (yad y (xa0))), (1, .int (xa1)), (2, .int (xa2))] [] σ) (xa0 : Nat) (xa1 : Int32) (xa2 : Int32) (σ : Sto) (h : F_X5_readQueue_b76 xk_34 xa0 xa1 xa2 σ = some (r, σ')) : GW x y (AY y) 4 Z 76 [(0, .ref (yad y (xa0))), (1, .int (xa1)), (2, .int (xa2))] [] σ := by
  unfold F_X5_readQueue_b76 at h
  refine g_iconst (v := 0) (pc := 76) C dX5_readQueue_76 ci_0 ?_
  exact b_X5_readQueue_77 C hr xk_34 xH34 xa0 xa1 xa2 0 σ h
set_option maxHeartbeats 4000000 in
set_option maxRecDepth 20000 in
theorem b_X5_readQueue_34 {x : XT} {y : YT} {Z : State → Prop} (C : Cx x y (AY y) RX5 cX5_readQueue 4 rm_X5_readQueue) {r : Unit} {σ' : Sto} (hr : RetV x y (AY y) 4 cX5_readQueue Z r σ') (xk_34 : Nat → Int32 → Int32 → Sto → Option (Unit × Sto)) (xH34 : ∀ (xa0 : Nat) (xa1 : Int32) (xa2 : Int32) (σ : Sto), xk_34 xa0 xa1 xa2 σ = some (r, σ') → GW x y (AY y) 4 Z 34 [(0, .ref (yad y (xa0))), (1, .int (xa1)), (2, .int (xa2))] [] σ) (xa0 : Nat) (xa1 : Int32) (xa2 : Int32) (σ : Sto) (h : F_X5_readQueue_b34 xk_34 xa0 xa1 xa2 σ = some (r, σ')) : GW x y (AY y) 4 Z 34 [(0, .ref (yad y (xa0))), (1, .int (xa1)), (2, .int (xa2))] [] σ := by
  unfold F_X5_readQueue_b34 at h
  refine g_aload_n (pc := 34) C dX5_readQueue_34 rfl 0 rfl ?_
  obtain ⟨xq1, h⟩ := iC h
  have xq1 := keq xq1
  refine gf_5_13 (pc := 35) C wf_X5_263 dX5_readQueue_35 xq1 ?_
  refine g_if_ne (pc := 38) C dX5_readQueue_38 (tgt := 107) rfl (fun xq2 => ?_) (fun xq2 => ?_)
  · have h := iN xq2 h
    exact rtV hr dX5_readQueue_107 h
  · have h := iP xq2 h
    refine g_aload_n (pc := 41) C dX5_readQueue_41 rfl 0 rfl ?_
    refine gf_5_11 (pc := 42) C wf_X5_253 dX5_readQueue_42 xq1 ?_
    refine g_iconst (v := 2) (pc := 45) C dX5_readQueue_45 ci_2 ?_
    refine g_icmp_ne (pc := 46) C dX5_readQueue_46 (tgt := 107) rfl (fun xq3 => ?_) (fun xq3 => ?_)
    · have h := iN xq3 h
      exact rtV hr dX5_readQueue_107 h
    · have h := iP xq3 h
      refine g_iload_n (pc := 49) C dX5_readQueue_49 rfl 2 rfl ?_
      refine g_bipush (v := 6) (pc := 50) C dX5_readQueue_50 cb_6 ?_
      refine g_icmp_ge (pc := 52) C dX5_readQueue_52 (tgt := 76) rfl (fun xq4 => ?_) (fun xq4 => ?_)
      · have h := iP xq4 h
        exact b_X5_readQueue_76 C hr xk_34 xH34 xa0 xa1 xa2 σ h
      · have h := iN xq4 h
        refine g_aload_n (pc := 55) C dX5_readQueue_55 rfl 0 rfl ?_
        refine gf_5_12 (pc := 56) C wf_X5_250 dX5_readQueue_56 xq1 ?_
        refine g_iconst (v := 0) (pc := 59) C dX5_readQueue_59 ci_0 ?_
        refine g_aload_n (pc := 60) C dX5_readQueue_60 rfl 0 rfl ?_
        refine gf_5_17 (pc := 61) C wf_X5_284 dX5_readQueue_61 xq1 ?_
        refine g_iconst (v := 1) (pc := 64) C dX5_readQueue_64 ci_1 ?_
        refine g_isub (pc := 65) C dX5_readQueue_65 ?_
        obtain ⟨xr7, xσ5, xc6, h⟩ := iB h
        refine g_callSi (pc := 66) (As := [.int (σ xa0 12), .int (0), .int ((σ xa0 17) - 1)]) (rest := []) C dX5_readQueue_66 (fun l => c_X5_within l y _ _ _ _ _ _ xc6) cv_X5_70 ⟨rfl, rfl, Nat.le_of_ble_eq_true rfl, Nat.le_of_ble_eq_true rfl⟩ rfl (Nat.le_of_ble_eq_true rfl) ?_
        refine g_if_eq (pc := 69) C dX5_readQueue_69 (tgt := 76) rfl (fun xq8 => ?_) (fun xq8 => ?_)
        · have h := iP xq8 h
          exact b_X5_readQueue_76 C hr xk_34 xH34 xa0 xa1 xa2 xσ5 h
        · have h := iN xq8 h
          refine g_iconst (v := 1) (pc := 72) C dX5_readQueue_72 ci_1 ?_
          refine g_goto (pc := 73) C dX5_readQueue_73 (tgt := 77) rfl ?_
          exact b_X5_readQueue_77 C hr xk_34 xH34 xa0 xa1 xa2 1 xσ5 h
theorem l_X5_readQueue_34 {x : XT} {y : YT} {Z : State → Prop} (C : Cx x y (AY y) RX5 cX5_readQueue 4 rm_X5_readQueue) {r : Unit} {σ' : Sto} (hr : RetV x y (AY y) 4 cX5_readQueue Z r σ') (n : Nat) (xa0 : Nat) (xa1 : Int32) (xa2 : Int32) (σ : Sto) (h : lo3 (F_X5_readQueue_b34) n xa0 xa1 xa2 σ = some (r, σ')) : GW x y (AY y) 4 Z 34 [(0, .ref (yad y (xa0))), (1, .int (xa1)), (2, .int (xa2))] [] σ :=
  lo3_gw (G := fun xa0 xa1 xa2 σ => GW x y (AY y) 4 Z 34 [(0, .ref (yad y (xa0))), (1, .int (xa1)), (2, .int (xa2))] [] σ) (fun xk xHk xa0 xa1 xa2 σ h => b_X5_readQueue_34 C hr xk xHk xa0 xa1 xa2 σ h) n xa0 xa1 xa2 σ h
set_option maxHeartbeats 4000000 in
set_option maxRecDepth 20000 in
theorem b_X5_readQueue_0 {x : XT} {y : YT} {Z : State → Prop} (C : Cx x y (AY y) RX5 cX5_readQueue 4 rm_X5_readQueue) {r : Unit} {σ' : Sto} (hr : RetV x y (AY y) 4 cX5_readQueue Z r σ') (xa0 : Nat) (σ : Sto) (h : F_X5_readQueue xa0 σ = some (r, σ')) : GW x y (AY y) 4 Z 0 [(0, .ref (yad y (xa0)))] [] σ := by
  unfold F_X5_readQueue at h
  refine g_aload_n (pc := 0) C dX5_readQueue_0 rfl 0 rfl ?_
  refine g_iconst (v := 1) (pc := 1) C dX5_readQueue_1 ci_1 ?_
  obtain ⟨xq3, h⟩ := iC h
  have xq3 := keq xq3
  obtain ⟨xr4, xσ1, xc2, h⟩ := iB h
  refine g_callVv (pc := 2) (As := [.int (1)]) (rest := []) C dX5_readQueue_2 (fun l => c_X5_must l y _ _ _ _ _ xc2) cv_X5_270 ⟨rfl, rfl, Nat.le_of_ble_eq_true rfl, Nat.le_of_ble_eq_true rfl⟩ (rv5 xq3) rfl (Nat.le_of_ble_eq_true rfl) ?_
  refine g_aload_n (pc := 5) C dX5_readQueue_5 rfl 0 rfl ?_
  refine g_bipush (v := 10) (pc := 6) C dX5_readQueue_6 cb_10 ?_
  refine g_aload_n (pc := 8) C dX5_readQueue_8 rfl 0 rfl ?_
  refine g_iconst (v := 0) (pc := 9) C dX5_readQueue_9 ci_0 ?_
  refine g_aload_n (pc := 10) C dX5_readQueue_10 rfl 0 rfl ?_
  refine gf_5_17 (pc := 11) C wf_X5_284 dX5_readQueue_11 xq3 ?_
  refine g_iconst (v := 1) (pc := 14) C dX5_readQueue_14 ci_1 ?_
  refine g_isub (pc := 15) C dX5_readQueue_15 ?_
  obtain ⟨xr7, xσ5, xc6, h⟩ := iB h
  refine g_callVi (pc := 16) (As := [.int (0), .int ((xσ1 xa0 17) - 1)]) (rest := [.int (10), .ref (yad y (xa0))]) C dX5_readQueue_16 (fun l => c_X5_number l y _ _ _ _ _ _ xc6) cv_X5_281 ⟨rfl, rfl, Nat.le_of_ble_eq_true rfl, Nat.le_of_ble_eq_true rfl⟩ (rv5 xq3) rfl (Nat.le_of_ble_eq_true rfl) ?_
  obtain ⟨xr10, xσ8, xc9, h⟩ := iB h
  refine g_callVv (pc := 19) (As := [.int (10), .int (xr7)]) (rest := []) C dX5_readQueue_19 (fun l => c_X5_addItem l y _ _ _ _ _ _ xc9) cv_X5_293 ⟨rfl, rfl, Nat.le_of_ble_eq_true rfl, Nat.le_of_ble_eq_true rfl⟩ (rv5 xq3) rfl (Nat.le_of_ble_eq_true rfl) ?_
  refine g_bipush (v := 7) (pc := 22) C dX5_readQueue_22 cb_7 ?_
  refine g_aload_n (pc := 24) C dX5_readQueue_24 rfl 0 rfl ?_
  refine gf_5_16 (pc := 25) C wf_X5_274 dX5_readQueue_25 xq3 ?_
  refine g_iconst (v := 1) (pc := 28) C dX5_readQueue_28 ci_1 ?_
  refine g_isub (pc := 29) C dX5_readQueue_29 ?_
  refine g_imul (pc := 30) C dX5_readQueue_30 ?_
  refine g_letI h (fun xv11 h => ?_)
  refine g_istore_n (i := 1) (lv' := [(1, .int (xv11)), (0, .ref (yad y (xa0)))]) (pc := 31) C dX5_readQueue_31 rfl (Nat.le_of_ble_eq_true rfl) rfl ?_
  refine g_iconst (v := 1) (pc := 32) C dX5_readQueue_32 ci_1 ?_
  refine g_istore_n (i := 2) (lv' := [(2, .int (1)), (1, .int (xv11)), (0, .ref (yad y (xa0)))]) (pc := 33) C dX5_readQueue_33 rfl (Nat.le_of_ble_eq_true rfl) rfl ?_
  refine g_sub (lv' := [(0, .ref (yad y (xa0))), (1, .int (xv11)), (2, .int (1))]) C [2, 1, 0] rfl ?_
  exact l_X5_readQueue_34 C hr 1000 xa0 xv11 1 xσ8 h
theorem c_X5_readQueue (l : Launch) (y : YT) (xa0 : Nat) (σ σ' : Sto) (r : Unit) (h : F_X5_readQueue xa0 σ = some (r, σ')) : MV l y yX5_readQueue (Cond.code yX5_readQueue cX5_readQueue 4 none :: TT) rm_X5_readQueue [.ref (yad y (xa0))] σ r σ' :=
  mkV (by decide) rfl rfl rfl (Nat.le_of_ble_eq_true rfl) (fun x Z C hr => b_X5_readQueue_0 C hr xa0 σ h)
def rm_X5_readNumber : Room := { frames := 4, cells := 0, slots := 0, locals := 105 }
def F_X5_readNumber (xa0 : Nat) (xa1 : Int32) (xa2 : Int32) (σ : Sto) : Option (Unit × Sto) := ck (kd (xa0) == 5) (bnd (F_X5_must (xa0) 1 σ) (fun xr4 xσ1 => bnd (F_X5_number (xa0) 0 (xa2) xσ1) (fun xr7 xσ5 => bnd (F_X5_addItem (xa0) (xa1) (xr7) xσ5) (fun xr10 xσ8 => some ((), xσ8)))))
set_option maxHeartbeats 4000000 in
set_option maxRecDepth 20000 in
theorem b_X5_readNumber_0 {x : XT} {y : YT} {Z : State → Prop} (C : Cx x y (AY y) RX5 cX5_readNumber 3 rm_X5_readNumber) {r : Unit} {σ' : Sto} (hr : RetV x y (AY y) 3 cX5_readNumber Z r σ') (xa0 : Nat) (xa1 : Int32) (xa2 : Int32) (σ : Sto) (h : F_X5_readNumber xa0 xa1 xa2 σ = some (r, σ')) : GW x y (AY y) 3 Z 0 [(0, .ref (yad y (xa0))), (1, .int (xa1)), (2, .int (xa2))] [] σ := by
  unfold F_X5_readNumber at h
  refine g_aload_n (pc := 0) C dX5_readNumber_0 rfl 0 rfl ?_
  refine g_iconst (v := 1) (pc := 1) C dX5_readNumber_1 ci_1 ?_
  obtain ⟨xq3, h⟩ := iC h
  have xq3 := keq xq3
  obtain ⟨xr4, xσ1, xc2, h⟩ := iB h
  refine g_callVv (pc := 2) (As := [.int (1)]) (rest := []) C dX5_readNumber_2 (fun l => c_X5_must l y _ _ _ _ _ xc2) cv_X5_270 ⟨rfl, rfl, Nat.le_of_ble_eq_true rfl, Nat.le_of_ble_eq_true rfl⟩ (rv5 xq3) rfl (Nat.le_of_ble_eq_true rfl) ?_
  refine g_aload_n (pc := 5) C dX5_readNumber_5 rfl 0 rfl ?_
  refine g_iload_n (pc := 6) C dX5_readNumber_6 rfl 1 rfl ?_
  refine g_aload_n (pc := 7) C dX5_readNumber_7 rfl 0 rfl ?_
  refine g_iconst (v := 0) (pc := 8) C dX5_readNumber_8 ci_0 ?_
  refine g_iload_n (pc := 9) C dX5_readNumber_9 rfl 2 rfl ?_
  obtain ⟨xr7, xσ5, xc6, h⟩ := iB h
  refine g_callVi (pc := 10) (As := [.int (0), .int (xa2)]) (rest := [.int (xa1), .ref (yad y (xa0))]) C dX5_readNumber_10 (fun l => c_X5_number l y _ _ _ _ _ _ xc6) cv_X5_281 ⟨rfl, rfl, Nat.le_of_ble_eq_true rfl, Nat.le_of_ble_eq_true rfl⟩ (rv5 xq3) rfl (Nat.le_of_ble_eq_true rfl) ?_
  obtain ⟨xr10, xσ8, xc9, h⟩ := iB h
  refine g_callVv (pc := 13) (As := [.int (xa1), .int (xr7)]) (rest := []) C dX5_readNumber_13 (fun l => c_X5_addItem l y _ _ _ _ _ _ xc9) cv_X5_293 ⟨rfl, rfl, Nat.le_of_ble_eq_true rfl, Nat.le_of_ble_eq_true rfl⟩ (rv5 xq3) rfl (Nat.le_of_ble_eq_true rfl) ?_
  exact rtV hr dX5_readNumber_16 h
theorem c_X5_readNumber (l : Launch) (y : YT) (xa0 : Nat) (xa1 : Int32) (xa2 : Int32) (σ σ' : Sto) (r : Unit) (h : F_X5_readNumber xa0 xa1 xa2 σ = some (r, σ')) : MV l y yX5_readNumber (Cond.code yX5_readNumber cX5_readNumber 3 none :: TT) rm_X5_readNumber [.ref (yad y (xa0)), .int (xa1), .int (xa2)] σ r σ' :=
  mkV (by decide) rfl rfl rfl (Nat.le_of_ble_eq_true rfl) (fun x Z C hr => b_X5_readNumber_0 C hr xa0 xa1 xa2 σ h)
def rm_X5_readItem : Room := { frames := 9, cells := 0, slots := 0, locals := 229 }
def F_X5_readItem (xa0 : Nat) (σ : Sto) : Option (Unit × Sto) := ck (kd (xa0) == 5) (bnd (F_X5_kindTold (xa0) σ) (fun xr4 xσ1 => if (xr4) < 0 then bnd (F_X5_isWord (xa0) (111) xσ1) (fun xr8 xσ6 => if (xr8) = 0 then bnd (F_X5_isWord (xa0) (112) xσ6) (fun xr12 xσ10 => if (xr12) = 0 then bnd (F_X5_isWord (xa0) (113) xσ10) (fun xr16 xσ14 => if (xr16) = 0 then bnd (F_X5_isWord (xa0) (114) xσ14) (fun xr20 xσ18 => if (xr20) = 0 then bnd (F_X5_must (xa0) 0 xσ18) (fun xr24 xσ22 => some ((), xσ22)) else bnd (F_X5_readNumber (xa0) 13 20 xσ18) (fun xr27 xσ25 => some ((), xσ25))) else bnd (F_X5_readNumber (xa0) 12 9 xσ14) (fun xr30 xσ28 => some ((), xσ28))) else bnd (F_X5_readNumber (xa0) 11 60 xσ10) (fun xr33 xσ31 => some ((), xσ31))) else bnd (F_X5_readQueue (xa0) xσ6) (fun xr36 xσ34 => some ((), xσ34))) else bnd (F_X5_readSitter (xa0) (xr4) xσ1) (fun xr39 xσ37 => some ((), xσ37))))
set_option maxHeartbeats 4000000 in
set_option maxRecDepth 20000 in
theorem b_X5_readItem_0 {x : XT} {y : YT} {Z : State → Prop} (C : Cx x y (AY y) RX5 cX5_readItem 2 rm_X5_readItem) {r : Unit} {σ' : Sto} (hr : RetV x y (AY y) 2 cX5_readItem Z r σ') (xa0 : Nat) (σ : Sto) (h : F_X5_readItem xa0 σ = some (r, σ')) : GW x y (AY y) 2 Z 0 [(0, .ref (yad y (xa0)))] [] σ := by
  unfold F_X5_readItem at h
  refine g_aload_n (pc := 0) C dX5_readItem_0 rfl 0 rfl ?_
  obtain ⟨xq3, h⟩ := iC h
  have xq3 := keq xq3
  obtain ⟨xr4, xσ1, xc2, h⟩ := iB h
  refine g_callVi (pc := 1) (As := []) (rest := []) C dX5_readItem_1 (fun l => c_X5_kindTold l y _ _ _ _ xc2) cv_X5_302 ⟨rfl, rfl, Nat.le_of_ble_eq_true rfl, Nat.le_of_ble_eq_true rfl⟩ (rv5 xq3) rfl (Nat.le_of_ble_eq_true rfl) ?_
  refine g_istore_n (i := 1) (lv' := [(1, .int (xr4)), (0, .ref (yad y (xa0)))]) (pc := 4) C dX5_readItem_4 rfl (Nat.le_of_ble_eq_true rfl) rfl ?_
  refine g_iload_n (pc := 5) C dX5_readItem_5 rfl 0 rfl ?_
  refine g_if_lt (pc := 6) C dX5_readItem_6 (tgt := 17) rfl (fun xq5 => ?_) (fun xq5 => ?_)
  · have h := iP xq5 h
    refine g_aload_n (pc := 17) C dX5_readItem_17 rfl 1 rfl ?_
    refine g_ldcws (pc := 18) C dX5_readItem_18 (k := 11) (tx := _) sit_X5_308 ?_
    obtain ⟨xr8, xσ6, xc7, h⟩ := iB h
    refine g_callVi (pc := 21) (As := [.ref (yad y (111))]) (rest := []) C dX5_readItem_21 (fun l => c_X5_isWord l y _ _ _ _ _ xc7) cv_X5_277 ⟨rfl, rfl, Nat.le_of_ble_eq_true rfl, Nat.le_of_ble_eq_true rfl⟩ (rv5 xq3) rfl (Nat.le_of_ble_eq_true rfl) ?_
    refine g_if_eq (pc := 24) C dX5_readItem_24 (tgt := 34) rfl (fun xq9 => ?_) (fun xq9 => ?_)
    · have h := iP xq9 h
      refine g_aload_n (pc := 34) C dX5_readItem_34 rfl 1 rfl ?_
      refine g_ldcws (pc := 35) C dX5_readItem_35 (k := 12) (tx := _) sit_X5_313 ?_
      obtain ⟨xr12, xσ10, xc11, h⟩ := iB h
      refine g_callVi (pc := 38) (As := [.ref (yad y (112))]) (rest := []) C dX5_readItem_38 (fun l => c_X5_isWord l y _ _ _ _ _ xc11) cv_X5_277 ⟨rfl, rfl, Nat.le_of_ble_eq_true rfl, Nat.le_of_ble_eq_true rfl⟩ (rv5 xq3) rfl (Nat.le_of_ble_eq_true rfl) ?_
      refine g_if_eq (pc := 41) C dX5_readItem_41 (tgt := 55) rfl (fun xq13 => ?_) (fun xq13 => ?_)
      · have h := iP xq13 h
        refine g_aload_n (pc := 55) C dX5_readItem_55 rfl 1 rfl ?_
        refine g_ldcws (pc := 56) C dX5_readItem_56 (k := 13) (tx := _) sit_X5_318 ?_
        obtain ⟨xr16, xσ14, xc15, h⟩ := iB h
        refine g_callVi (pc := 59) (As := [.ref (yad y (113))]) (rest := []) C dX5_readItem_59 (fun l => c_X5_isWord l y _ _ _ _ _ xc15) cv_X5_277 ⟨rfl, rfl, Nat.le_of_ble_eq_true rfl, Nat.le_of_ble_eq_true rfl⟩ (rv5 xq3) rfl (Nat.le_of_ble_eq_true rfl) ?_
        refine g_if_eq (pc := 62) C dX5_readItem_62 (tgt := 76) rfl (fun xq17 => ?_) (fun xq17 => ?_)
        · have h := iP xq17 h
          refine g_aload_n (pc := 76) C dX5_readItem_76 rfl 1 rfl ?_
          refine g_ldcws (pc := 77) C dX5_readItem_77 (k := 14) (tx := _) sit_X5_320 ?_
          obtain ⟨xr20, xσ18, xc19, h⟩ := iB h
          refine g_callVi (pc := 80) (As := [.ref (yad y (114))]) (rest := []) C dX5_readItem_80 (fun l => c_X5_isWord l y _ _ _ _ _ xc19) cv_X5_277 ⟨rfl, rfl, Nat.le_of_ble_eq_true rfl, Nat.le_of_ble_eq_true rfl⟩ (rv5 xq3) rfl (Nat.le_of_ble_eq_true rfl) ?_
          refine g_if_eq (pc := 83) C dX5_readItem_83 (tgt := 97) rfl (fun xq21 => ?_) (fun xq21 => ?_)
          · have h := iP xq21 h
            refine g_aload_n (pc := 97) C dX5_readItem_97 rfl 1 rfl ?_
            refine g_iconst (v := 0) (pc := 98) C dX5_readItem_98 ci_0 ?_
            obtain ⟨xr24, xσ22, xc23, h⟩ := iB h
            refine g_callVv (pc := 99) (As := [.int (0)]) (rest := []) C dX5_readItem_99 (fun l => c_X5_must l y _ _ _ _ _ xc23) cv_X5_270 ⟨rfl, rfl, Nat.le_of_ble_eq_true rfl, Nat.le_of_ble_eq_true rfl⟩ (rv5 xq3) rfl (Nat.le_of_ble_eq_true rfl) ?_
            exact rtV hr dX5_readItem_102 h
          · have h := iN xq21 h
            refine g_aload_n (pc := 86) C dX5_readItem_86 rfl 1 rfl ?_
            refine g_bipush (v := 13) (pc := 87) C dX5_readItem_87 cb_13 ?_
            refine g_bipush (v := 20) (pc := 89) C dX5_readItem_89 cb_20 ?_
            obtain ⟨xr27, xσ25, xc26, h⟩ := iB h
            refine g_callVv (pc := 91) (As := [.int (13), .int (20)]) (rest := []) C dX5_readItem_91 (fun l => c_X5_readNumber l y _ _ _ _ _ _ xc26) cv_X5_315 ⟨rfl, rfl, Nat.le_of_ble_eq_true rfl, Nat.le_of_ble_eq_true rfl⟩ (rv5 xq3) rfl (Nat.le_of_ble_eq_true rfl) ?_
            refine g_goto (pc := 94) C dX5_readItem_94 (tgt := 102) rfl ?_
            exact rtV hr dX5_readItem_102 h
        · have h := iN xq17 h
          refine g_aload_n (pc := 65) C dX5_readItem_65 rfl 1 rfl ?_
          refine g_bipush (v := 12) (pc := 66) C dX5_readItem_66 cb_12 ?_
          refine g_bipush (v := 9) (pc := 68) C dX5_readItem_68 cb_9 ?_
          obtain ⟨xr30, xσ28, xc29, h⟩ := iB h
          refine g_callVv (pc := 70) (As := [.int (12), .int (9)]) (rest := []) C dX5_readItem_70 (fun l => c_X5_readNumber l y _ _ _ _ _ _ xc29) cv_X5_315 ⟨rfl, rfl, Nat.le_of_ble_eq_true rfl, Nat.le_of_ble_eq_true rfl⟩ (rv5 xq3) rfl (Nat.le_of_ble_eq_true rfl) ?_
          refine g_goto (pc := 73) C dX5_readItem_73 (tgt := 102) rfl ?_
          exact rtV hr dX5_readItem_102 h
      · have h := iN xq13 h
        refine g_aload_n (pc := 44) C dX5_readItem_44 rfl 1 rfl ?_
        refine g_bipush (v := 11) (pc := 45) C dX5_readItem_45 cb_11 ?_
        refine g_bipush (v := 60) (pc := 47) C dX5_readItem_47 cb_60 ?_
        obtain ⟨xr33, xσ31, xc32, h⟩ := iB h
        refine g_callVv (pc := 49) (As := [.int (11), .int (60)]) (rest := []) C dX5_readItem_49 (fun l => c_X5_readNumber l y _ _ _ _ _ _ xc32) cv_X5_315 ⟨rfl, rfl, Nat.le_of_ble_eq_true rfl, Nat.le_of_ble_eq_true rfl⟩ (rv5 xq3) rfl (Nat.le_of_ble_eq_true rfl) ?_
        refine g_goto (pc := 52) C dX5_readItem_52 (tgt := 102) rfl ?_
        exact rtV hr dX5_readItem_102 h
    · have h := iN xq9 h
      refine g_aload_n (pc := 27) C dX5_readItem_27 rfl 1 rfl ?_
      obtain ⟨xr36, xσ34, xc35, h⟩ := iB h
      refine g_callVv (pc := 28) (As := []) (rest := []) C dX5_readItem_28 (fun l => c_X5_readQueue l y _ _ _ _ xc35) cv_X5_310 ⟨rfl, rfl, Nat.le_of_ble_eq_true rfl, Nat.le_of_ble_eq_true rfl⟩ (rv5 xq3) rfl (Nat.le_of_ble_eq_true rfl) ?_
      refine g_goto (pc := 31) C dX5_readItem_31 (tgt := 102) rfl ?_
      exact rtV hr dX5_readItem_102 h
  · have h := iN xq5 h
    refine g_aload_n (pc := 9) C dX5_readItem_9 rfl 1 rfl ?_
    refine g_iload_n (pc := 10) C dX5_readItem_10 rfl 0 rfl ?_
    obtain ⟨xr39, xσ37, xc38, h⟩ := iB h
    refine g_callVv (pc := 11) (As := [.int (xr4)]) (rest := []) C dX5_readItem_11 (fun l => c_X5_readSitter l y _ _ _ _ _ xc38) cv_X5_305 ⟨rfl, rfl, Nat.le_of_ble_eq_true rfl, Nat.le_of_ble_eq_true rfl⟩ (rv5 xq3) rfl (Nat.le_of_ble_eq_true rfl) ?_
    refine g_goto (pc := 14) C dX5_readItem_14 (tgt := 102) rfl ?_
    exact rtV hr dX5_readItem_102 h
theorem c_X5_readItem (l : Launch) (y : YT) (xa0 : Nat) (σ σ' : Sto) (r : Unit) (h : F_X5_readItem xa0 σ = some (r, σ')) : MV l y yX5_readItem (Cond.code yX5_readItem cX5_readItem 2 none :: TT) rm_X5_readItem [.ref (yad y (xa0))] σ r σ' :=
  mkV (by decide) rfl rfl rfl (Nat.le_of_ble_eq_true rfl) (fun x Z C hr => b_X5_readItem_0 C hr xa0 σ h)

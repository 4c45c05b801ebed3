/-! methods, by program: what each does to the store (F_), its walk (b_), its contract (c_): X5_all, X5_faultsTogether, X5_stoolFor, X5_isThought, X5_isTakenWith, X5_lightFor, X5_merryFor, X5_takenWith, X5_turnFor, X5_kindFor -/
def rm_X5_all : Room := { frames := 7, cells := 0, slots := 0, locals := 156 }
def F_X5_all_b53 (xa0 : Nat) (xa1 : Int32) (σ : Sto) : Option (Int32 × Sto) := ck (kd (xa0) == 5) (bnd (F_X5_areAllTaken (xa0) σ) (fun xr4 xσ1 => if (xr4) = 0 then bnd (F_X5_putBack (xa0) (-1) xσ1) (fun xr8 xσ6 => bnd (F_X5_orNone (xa0) (xr8) xσ6) (fun xr11 xσ9 => some (xr11, xσ9))) else bnd (F_X5_putBack (xa0) (xa1) xσ1) (fun xr14 xσ12 => bnd (F_X5_orNone (xa0) (xr14) xσ12) (fun xr17 xσ15 => some (xr17, xσ15)))))
def F_X5_all_b29 (xk_29 : Nat → Int32 → Sto → Option (Int32 × Sto)) (xa0 : Nat) (xa1 : Int32) (σ : Sto) : Option (Int32 × Sto) := if 200 ≤ xa1 then F_X5_all_b53 xa0 xa1 σ else ck (kd (xa0) == 5) (bnd (F_X5_areAllTaken (xa0) σ) (fun xr5 xσ2 => if (xr5) = 0 then bnd (F_X5_minute (xa0) xσ2) (fun xr9 xσ7 => xk_29 xa0 (xa1 + 1) xσ7) else F_X5_all_b53 xa0 xa1 xσ2))
def F_X5_all (xa0 : Nat) (σ : Sto) : Option (Int32 × Sto) := ck (kd (xa0) == 5) (if (σ 50 1) = 0 then bnd (F_X5_finding (xa0) (-1000005) σ) (fun xr8 xσ6 => some (xr8, xσ6)) else bnd (F_X5_copyRow (50) (52) σ) (fun xr5 xσ3 => lo2 (F_X5_all_b29) 1000 xa0 0 xσ3))
set_option maxHeartbeats 4000000 in
set_option maxRecDepth 20000 in
theorem b_X5_all_53 {x : XT} {y : YT} {Z : State → Prop} (C : Cx x y (AY y) RX5 cX5_all 2 rm_X5_all) {r : Int32} {σ' : Sto} (hr : RetI x y (AY y) 2 cX5_all Z r σ') (xa0 : Nat) (xa1 : Int32) (σ : Sto) (h : F_X5_all_b53 xa0 xa1 σ = some (r, σ')) : GW x y (AY y) 2 Z 53 [(0, .ref (yad y (xa0))), (1, .int (xa1))] [] σ := by
  unfold F_X5_all_b53 at h
  refine g_aload_n (pc := 53) C dX5_all_53 rfl 0 rfl ?_
  refine g_aload_n (pc := 54) C dX5_all_54 rfl 0 rfl ?_
  refine g_aload_n (pc := 55) C dX5_all_55 rfl 0 rfl ?_
  obtain ⟨xq3, h⟩ := iC h
  have xq3 := keq xq3
  obtain ⟨xr4, xσ1, xc2, h⟩ := iB h
  refine g_callVi (pc := 56) (As := []) (rest := [.ref (yad y (xa0)), .ref (yad y (xa0))]) C dX5_all_56 (fun l => c_X5_areAllTaken l y _ _ _ _ xc2) cv_X5_184 ⟨rfl, rfl, Nat.le_of_ble_eq_true rfl, Nat.le_of_ble_eq_true rfl⟩ (rv5 xq3) rfl (Nat.le_of_ble_eq_true rfl) ?_
  refine g_if_eq (pc := 59) C dX5_all_59 (tgt := 66) rfl (fun xq5 => ?_) (fun xq5 => ?_)
  · have h := iP xq5 h
    refine g_iconst (v := (-1)) (pc := 66) C dX5_all_66 ci_m1 ?_
    obtain ⟨xr8, xσ6, xc7, h⟩ := iB h
    refine g_callVi (pc := 67) (As := [.int ((-1))]) (rest := [.ref (yad y (xa0))]) C dX5_all_67 (fun l => c_X5_putBack l y _ _ _ _ _ xc7) cv_X5_175 ⟨rfl, rfl, Nat.le_of_ble_eq_true rfl, Nat.le_of_ble_eq_true rfl⟩ (rv5 xq3) rfl (Nat.le_of_ble_eq_true rfl) ?_
    obtain ⟨xr11, xσ9, xc10, h⟩ := iB h
    refine g_callVi (pc := 70) (As := [.int (xr8)]) (rest := []) C dX5_all_70 (fun l => c_X5_orNone l y _ _ _ _ _ xc10) cv_X5_181 ⟨rfl, rfl, Nat.le_of_ble_eq_true rfl, Nat.le_of_ble_eq_true rfl⟩ (rv5 xq3) rfl (Nat.le_of_ble_eq_true rfl) ?_
    exact rtI hr dX5_all_73 h
  · have h := iN xq5 h
    refine g_iload_n (pc := 62) C dX5_all_62 rfl 1 rfl ?_
    refine g_goto (pc := 63) C dX5_all_63 (tgt := 67) rfl ?_
    obtain ⟨xr14, xσ12, xc13, h⟩ := iB h
    refine g_callVi (pc := 67) (As := [.int (xa1)]) (rest := [.ref (yad y (xa0))]) C dX5_all_67 (fun l => c_X5_putBack l y _ _ _ _ _ xc13) cv_X5_175 ⟨rfl, rfl, Nat.le_of_ble_eq_true rfl, Nat.le_of_ble_eq_true rfl⟩ (rv5 xq3) rfl (Nat.le_of_ble_eq_true rfl) ?_
    obtain ⟨xr17, xσ15, xc16, h⟩ := iB h
    refine g_callVi (pc := 70) (As := [.int (xr14)]) (rest := []) C dX5_all_70 (fun l => c_X5_orNone l y _ _ _ _ _ xc16) cv_X5_181 ⟨rfl, rfl, Nat.le_of_ble_eq_true rfl, Nat.le_of_ble_eq_true rfl⟩ (rv5 xq3) rfl (Nat.le_of_ble_eq_true rfl) ?_
    exact rtI hr dX5_all_73 h
set_option maxHeartbeats 4000000 in
set_option maxRecDepth 20000 in
theorem b_X5_all_29 {x : XT} {y : YT} {Z : State → Prop} (C : Cx x y (AY y) RX5 cX5_all 2 rm_X5_all) {r : Int32} {σ' : Sto} (hr : RetI x y (AY y) 2 cX5_all Z r σ') (xk_29 : Nat → Int32 → Sto → Option (Int32 × Sto)) (xH29 : ∀ (xa0 : Nat) (xa1 : Int32) (σ : Sto), xk_29 xa0 xa1 σ = some (r, σ') → GW x y (AY y) 2 Z 29 [(0, .ref (yad y (xa0))), (1, .int (xa1))] [] σ) (xa0 : Nat) (xa1 : Int32) (σ : Sto) (h : F_X5_all_b29 xk_29 xa0 xa1 σ = some (r, σ')) : GW x y (AY y) 2 Z 29 [(0, .ref (yad y (xa0))), (1, .int (xa1))] [] σ := by
  unfold F_X5_all_b29 at h
  refine g_iload_n (pc := 29) C dX5_all_29 rfl 1 rfl ?_
  refine g_sipush (v := 200) (pc := 30) C dX5_all_30 cs_200 ?_
  refine g_icmp_ge (pc := 33) C dX5_all_33 (tgt := 53) rfl (fun xq1 => ?_) (fun xq1 => ?_)
  · have h := iP xq1 h
    exact b_X5_all_53 C hr xa0 xa1 σ h
  · have h := iN xq1 h
    refine g_aload_n (pc := 36) C dX5_all_36 rfl 0 rfl ?_
    obtain ⟨xq4, h⟩ := iC h
    have xq4 := keq xq4
    obtain ⟨xr5, xσ2, xc3, h⟩ := iB h
    refine g_callVi (pc := 37) (As := []) (rest := []) C dX5_all_37 (fun l => c_X5_areAllTaken l y _ _ _ _ xc3) cv_X5_184 ⟨rfl, rfl, Nat.le_of_ble_eq_true rfl, Nat.le_of_ble_eq_true rfl⟩ (rv5 xq4) rfl (Nat.le_of_ble_eq_true rfl) ?_
    refine g_if_ne (pc := 40) C dX5_all_40 (tgt := 53) rfl (fun xq6 => ?_) (fun xq6 => ?_)
    · have h := iN xq6 h
      exact b_X5_all_53 C hr xa0 xa1 xσ2 h
    · have h := iP xq6 h
      refine g_aload_n (pc := 43) C dX5_all_43 rfl 0 rfl ?_
      obtain ⟨xr9, xσ7, xc8, h⟩ := iB h
      refine g_callVv (pc := 44) (As := []) (rest := []) C dX5_all_44 (fun l => c_X5_minute l y _ _ _ _ xc8) cv_X5_159 ⟨rfl, rfl, Nat.le_of_ble_eq_true rfl, Nat.le_of_ble_eq_true rfl⟩ (rv5 xq4) rfl (Nat.le_of_ble_eq_true rfl) ?_
      refine g_iinc (lv' := [(1, .int (xa1 + 1)), (0, .ref (yad y (xa0)))]) (w := xa1 + 1) (pc := 47) C dX5_all_47 (k := 1) rfl rfl (Nat.le_of_ble_eq_true rfl) rfl ?_
      refine g_goto (pc := 50) C dX5_all_50 (tgt := 29) rfl ?_
      refine g_sub (lv' := [(0, .ref (yad y (xa0))), (1, .int (xa1 + 1))]) C [1, 0] rfl ?_
      exact xH29 xa0 (xa1 + 1) xσ7 h
theorem l_X5_all_29 {x : XT} {y : YT} {Z : State → Prop} (C : Cx x y (AY y) RX5 cX5_all 2 rm_X5_all) {r : Int32} {σ' : Sto} (hr : RetI x y (AY y) 2 cX5_all Z r σ') (n : Nat) (xa0 : Nat) (xa1 : Int32) (σ : Sto) (h : lo2 (F_X5_all_b29) n xa0 xa1 σ = some (r, σ')) : GW x y (AY y) 2 Z 29 [(0, .ref (yad y (xa0))), (1, .int (xa1))] [] σ :=
  lo2_gw (G := fun xa0 xa1 σ => GW x y (AY y) 2 Z 29 [(0, .ref (yad y (xa0))), (1, .int (xa1))] [] σ) (fun xk xHk xa0 xa1 σ h => b_X5_all_29 C hr xk xHk xa0 xa1 σ h) n xa0 xa1 σ h
set_option maxHeartbeats 4000000 in
set_option maxRecDepth 20000 in
theorem b_X5_all_0 {x : XT} {y : YT} {Z : State → Prop} (C : Cx x y (AY y) RX5 cX5_all 2 rm_X5_all) {r : Int32} {σ' : Sto} (hr : RetI x y (AY y) 2 cX5_all Z r σ') (xa0 : Nat) (σ : Sto) (h : F_X5_all xa0 σ = some (r, σ')) : GW x y (AY y) 2 Z 0 [(0, .ref (yad y (xa0)))] [] σ := by
  unfold F_X5_all at h
  refine g_aload_n (pc := 0) C dX5_all_0 rfl 0 rfl ?_
  obtain ⟨xq1, h⟩ := iC h
  have xq1 := keq xq1
  refine gf_5_0 (pc := 1) C wf_X5_9 dX5_all_1 xq1 ?_
  refine g_iconst (v := 1) (pc := 4) C dX5_all_4 ci_1 ?_
  refine g_iald (pc := 5) C dX5_all_5 rfl (ivp (by decide) rfl) (j := 1) ct_1 ?_
  refine g_if_ne (pc := 6) C dX5_all_6 (tgt := 16) rfl (fun xq2 => ?_) (fun xq2 => ?_)
  · have h := iN xq2 h
    refine g_aload_n (pc := 16) C dX5_all_16 rfl 0 rfl ?_
    refine gf_5_0 (pc := 17) C wf_X5_9 dX5_all_17 xq1 ?_
    refine g_aload_n (pc := 20) C dX5_all_20 rfl 0 rfl ?_
    refine gf_5_2 (pc := 21) C wf_X5_16 dX5_all_21 xq1 ?_
    obtain ⟨xr5, xσ3, xc4, h⟩ := iB h
    refine g_callSv (pc := 24) (As := [.ref (yad y (50)), .ref (yad y (52))]) (rest := []) C dX5_all_24 (fun l => c_X5_copyRow l y _ _ _ _ _ xc4) cv_X5_61 ⟨rfl, rfl, Nat.le_of_ble_eq_true rfl, Nat.le_of_ble_eq_true rfl⟩ rfl (Nat.le_of_ble_eq_true rfl) ?_
    refine g_iconst (v := 0) (pc := 27) C dX5_all_27 ci_0 ?_
    refine g_istore_n (i := 1) (lv' := [(1, .int (0)), (0, .ref (yad y (xa0)))]) (pc := 28) C dX5_all_28 rfl (Nat.le_of_ble_eq_true rfl) rfl ?_
    refine g_sub (lv' := [(0, .ref (yad y (xa0))), (1, .int (0))]) C [1, 0] rfl ?_
    exact l_X5_all_29 C hr 1000 xa0 0 xσ3 h
  · have h := iP xq2 h
    refine g_aload_n (pc := 9) C dX5_all_9 rfl 0 rfl ?_
    refine g_ldc (v := (-1000005)) (pc := 10) C dX5_all_10 wk_X5_162 ?_
    obtain ⟨xr8, xσ6, xc7, h⟩ := iB h
    refine g_callVi (pc := 12) (As := [.int ((-1000005))]) (rest := []) C dX5_all_12 (fun l => c_X5_finding l y _ _ _ _ _ xc7) cv_X5_66 ⟨rfl, rfl, Nat.le_of_ble_eq_true rfl, Nat.le_of_ble_eq_true rfl⟩ (rv5 xq1) rfl (Nat.le_of_ble_eq_true rfl) ?_
    exact rtI hr dX5_all_15 h
theorem c_X5_all (l : Launch) (y : YT) (xa0 : Nat) (σ σ' : Sto) (r : Int32) (h : F_X5_all xa0 σ = some (r, σ')) : MI l y yX5_all (Cond.code yX5_all cX5_all 2 (some .int) :: TT) rm_X5_all [.ref (yad y (xa0))] σ r σ' :=
  mkI (by decide) rfl rfl rfl (Nat.le_of_ble_eq_true rfl) (fun x Z C hr => b_X5_all_0 C hr xa0 σ h)
def rm_X5_faultsTogether : Room := { frames := 4, cells := 0, slots := 0, locals := 90 }
def F_X5_faultsTogether_b4 (xk_4 : Nat → Int32 → Int32 → Int32 → Sto → Option (Int32 × Sto)) (xa0 : Nat) (xa1 : Int32) (xa2 : Int32) (xa3 : Int32) (σ : Sto) : Option (Int32 × Sto) := if 4 ≤ xa3 then some (xa2, σ) else ck (kd (xa0) == 5) (bnd (F_X5_faultsNow (xa0) (xa1) (xa3) σ) (fun xr5 xσ2 => bnd (F_X5_bits (xr5) xσ2) (fun xr8 xσ6 => lti (xa2 + xr8) (fun xv9 => xk_4 xa0 xa1 xv9 (xa3 + 1) xσ6))))
def F_X5_faultsTogether (xa0 : Nat) (xa1 : Int32) (σ : Sto) : Option (Int32 × Sto) := lo4 (F_X5_faultsTogether_b4) 1000 xa0 xa1 0 0 σ
set_option maxHeartbeats 4000000 in
set_option maxRecDepth 20000 in
theorem b_X5_faultsTogether_4 {x : XT} {y : YT} {Z : State → Prop} (C : Cx x y (AY y) RX5 cX5_faultsTogether 4 rm_X5_faultsTogether) {r : Int32} {σ' : Sto} (hr : RetI x y (AY y) 4 cX5_faultsTogether Z r σ') (xk_4 : Nat → Int32 → Int32 → Int32 → Sto → Option (Int32 × Sto)) (xH4 : ∀ (xa0 : Nat) (xa1 : Int32) (xa2 : Int32) (xa3 : Int32) (σ : Sto), xk_4 xa0 xa1 xa2 xa3 σ = some (r, σ') → GW x y (AY y) 4 Z 4 [(0, .ref (yad y (xa0))), (1, .int (xa1)), (2, .int (xa2)), (3, .int (xa3))] [] σ) (xa0 : Nat) (xa1 : Int32) (xa2 : Int32) (xa3 : Int32) (σ : Sto) (h : F_X5_faultsTogether_b4 xk_4 xa0 xa1 xa2 xa3 σ = some (r, σ')) : GW x y (AY y) 4 Z 4 [(0, .ref (yad y (xa0))), (1, .int (xa1)), (2, .int (xa2)), (3, .int (xa3))] [] σ := by
  unfold F_X5_faultsTogether_b4 at h
  refine g_iload_n (pc := 4) C dX5_faultsTogether_4 rfl 3 rfl ?_
  refine g_iconst (v := 4) (pc := 5) C dX5_faultsTogether_5 ci_4 ?_
  refine g_icmp_ge (pc := 6) C dX5_faultsTogether_6 (tgt := 27) rfl (fun xq1 => ?_) (fun xq1 => ?_)
  · have h := iP xq1 h
    refine g_iload_n (pc := 27) C dX5_faultsTogether_27 rfl 2 rfl ?_
    exact rtI hr dX5_faultsTogether_28 h
  · have h := iN xq1 h
    refine g_iload_n (pc := 9) C dX5_faultsTogether_9 rfl 2 rfl ?_
    refine g_aload_n (pc := 10) C dX5_faultsTogether_10 rfl 0 rfl ?_
    refine g_iload_n (pc := 11) C dX5_faultsTogether_11 rfl 1 rfl ?_
    refine g_iload_n (pc := 12) C dX5_faultsTogether_12 rfl 3 rfl ?_
    obtain ⟨xq4, h⟩ := iC h
    have xq4 := keq xq4
    obtain ⟨xr5, xσ2, xc3, h⟩ := iB h
    refine g_callVi (pc := 13) (As := [.int (xa1), .int (xa3)]) (rest := [.int (xa2)]) C dX5_faultsTogether_13 (fun l => c_X5_faultsNow l y _ _ _ _ _ _ xc3) cv_X5_133 ⟨rfl, rfl, Nat.le_of_ble_eq_true rfl, Nat.le_of_ble_eq_true rfl⟩ (rv5 xq4) rfl (Nat.le_of_ble_eq_true rfl) ?_
    obtain ⟨xr8, xσ6, xc7, h⟩ := iB h
    refine g_callSi (pc := 16) (As := [.int (xr5)]) (rest := [.int (xa2)]) C dX5_faultsTogether_16 (fun l => c_X5_bits l y _ _ _ _ xc7) cv_X5_136 ⟨rfl, rfl, Nat.le_of_ble_eq_true rfl, Nat.le_of_ble_eq_true rfl⟩ rfl (Nat.le_of_ble_eq_true rfl) ?_
    refine g_iadd (pc := 19) C dX5_faultsTogether_19 ?_
    refine g_letI h (fun xv9 h => ?_)
    refine g_istore_n (i := 2) (lv' := [(2, .int (xv9)), (0, .ref (yad y (xa0))), (1, .int (xa1)), (3, .int (xa3))]) (pc := 20) C dX5_faultsTogether_20 rfl (Nat.le_of_ble_eq_true rfl) rfl ?_
    refine g_iinc (lv' := [(3, .int (xa3 + 1)), (2, .int (xv9)), (0, .ref (yad y (xa0))), (1, .int (xa1))]) (w := xa3 + 1) (pc := 21) C dX5_faultsTogether_21 (k := 3) rfl rfl (Nat.le_of_ble_eq_true rfl) rfl ?_
    refine g_goto (pc := 24) C dX5_faultsTogether_24 (tgt := 4) rfl ?_
    refine g_sub (lv' := [(0, .ref (yad y (xa0))), (1, .int (xa1)), (2, .int (xv9)), (3, .int (xa3 + 1))]) C [2, 3, 1, 0] rfl ?_
    exact xH4 xa0 xa1 xv9 (xa3 + 1) xσ6 h
theorem l_X5_faultsTogether_4 {x : XT} {y : YT} {Z : State → Prop} (C : Cx x y (AY y) RX5 cX5_faultsTogether 4 rm_X5_faultsTogether) {r : Int32} {σ' : Sto} (hr : RetI x y (AY y) 4 cX5_faultsTogether Z r σ') (n : Nat) (xa0 : Nat) (xa1 : Int32) (xa2 : Int32) (xa3 : Int32) (σ : Sto) (h : lo4 (F_X5_faultsTogether_b4) n xa0 xa1 xa2 xa3 σ = some (r, σ')) : GW x y (AY y) 4 Z 4 [(0, .ref (yad y (xa0))), (1, .int (xa1)), (2, .int (xa2)), (3, .int (xa3))] [] σ :=
  lo4_gw (G := fun xa0 xa1 xa2 xa3 σ => GW x y (AY y) 4 Z 4 [(0, .ref (yad y (xa0))), (1, .int (xa1)), (2, .int (xa2)), (3, .int (xa3))] [] σ) (fun xk xHk xa0 xa1 xa2 xa3 σ h => b_X5_faultsTogether_4 C hr xk xHk xa0 xa1 xa2 xa3 σ h) n xa0 xa1 xa2 xa3 σ h
set_option maxHeartbeats 4000000 in
set_option maxRecDepth 20000 in
theorem b_X5_faultsTogether_0 {x : XT} {y : YT} {Z : State → Prop} (C : Cx x y (AY y) RX5 cX5_faultsTogether 4 rm_X5_faultsTogether) {r : Int32} {σ' : Sto} (hr : RetI x y (AY y) 4 cX5_faultsTogether Z r σ') (xa0 : Nat) (xa1 : Int32) (σ : Sto) (h : F_X5_faultsTogether xa0 xa1 σ = some (r, σ')) : GW x y (AY y) 4 Z 0 [(0, .ref (yad y (xa0))), (1, .int (xa1))] [] σ := by
  unfold F_X5_faultsTogether at h
  refine g_iconst (v := 0) (pc := 0) C dX5_faultsTogether_0 ci_0 ?_
  refine g_istore_n (i := 2) (lv' := [(2, .int (0)), (0, .ref (yad y (xa0))), (1, .int (xa1))]) (pc := 1) C dX5_faultsTogether_1 rfl (Nat.le_of_ble_eq_true rfl) rfl ?_
  refine g_iconst (v := 0) (pc := 2) C dX5_faultsTogether_2 ci_0 ?_
  refine g_istore_n (i := 3) (lv' := [(3, .int (0)), (2, .int (0)), (0, .ref (yad y (xa0))), (1, .int (xa1))]) (pc := 3) C dX5_faultsTogether_3 rfl (Nat.le_of_ble_eq_true rfl) rfl ?_
  refine g_sub (lv' := [(0, .ref (yad y (xa0))), (1, .int (xa1)), (2, .int (0)), (3, .int (0))]) C [2, 3, 1, 0] rfl ?_
  exact l_X5_faultsTogether_4 C hr 1000 xa0 xa1 0 0 σ h
theorem c_X5_faultsTogether (l : Launch) (y : YT) (xa0 : Nat) (xa1 : Int32) (σ σ' : Sto) (r : Int32) (h : F_X5_faultsTogether xa0 xa1 σ = some (r, σ')) : MI l y yX5_faultsTogether (Cond.code yX5_faultsTogether cX5_faultsTogether 4 (some .int) :: TT) rm_X5_faultsTogether [.ref (yad y (xa0)), .int (xa1)] σ r σ' :=
  mkI (by decide) rfl rfl rfl (Nat.le_of_ble_eq_true rfl) (fun x Z C hr => b_X5_faultsTogether_0 C hr xa0 xa1 σ h)
def rm_X5_stoolFor : Room := { frames := 5, cells := 0, slots := 0, locals := 113 }
def F_X5_stoolFor_b66 (xk_31 : Nat → Int32 → Int32 → Int32 → Int32 → Int32 → Sto → Option (Int32 × Sto)) (xa0 : Nat) (xa1 : Int32) (xa2 : Int32) (xa4 : Int32) (xa5 : Int32) (xa6 : Int32) (xs0 : Int32) (σ : Sto) : Option (Int32 × Sto) := lti (imin xa4 xa6) (fun xv1 => xk_31 xa0 xa1 xa2 xs0 xv1 (xa5 + 1) σ)
def F_X5_stoolFor_b31 (xk_31 : Nat → Int32 → Int32 → Int32 → Int32 → Int32 → Sto → Option (Int32 × Sto)) (xa0 : Nat) (xa1 : Int32) (xa2 : Int32) (xa3 : Int32) (xa4 : Int32) (xa5 : Int32) (σ : Sto) : Option (Int32 × Sto) := if 60 < xa5 then ck (kd (xa0) == 5) (lts (up2 σ 50 3 (xa2)) (fun xσ3 => some (xa3, xσ3))) else ck (kd (xa0) == 5) (lts (up2 σ 50 3 (xa5)) (fun xσ5 => bnd (F_X5_faultsTogether (xa0) (xa1) xσ5) (fun xr8 xσ6 => if xa4 ≤ xr8 then F_X5_stoolFor_b66 xk_31 xa0 xa1 xa2 xa4 xa5 xr8 xa3 xσ6 else F_X5_stoolFor_b66 xk_31 xa0 xa1 xa2 xa4 xa5 xr8 xa5 xσ6)))
def F_X5_stoolFor (xa0 : Nat) (xa1 : Int32) (σ : Sto) : Option (Int32 × Sto) := ck (kd (xa0) == 5) (bnd (F_X5_isSitter (xa0) (xa1) σ) (fun xr4 xσ1 => if (xr4) = 0 then bnd (F_X5_finding (xa0) (-1000001) xσ1) (fun xr9 xσ7 => some (xr9, xσ7)) else lti (xσ1 50 3) (fun xv6 => lo6 (F_X5_stoolFor_b31) 1000 xa0 xa1 xv6 0 99 0 xσ1)))
set_option maxHeartbeats 4000000 in
set_option maxRecDepth 20000 in
theorem b_X5_stoolFor_66 {x : XT} {y : YT} {Z : State → Prop} (C : Cx x y (AY y) RX5 cX5_stoolFor 7 rm_X5_stoolFor) {r : Int32} {σ' : Sto} (hr : RetI x y (AY y) 7 cX5_stoolFor Z r σ') (xk_31 : Nat → Int32 → Int32 → Int32 → Int32 → Int32 → Sto → Option (Int32 × Sto)) (xH31 : ∀ (xa0 : Nat) (xa1 : Int32) (xa2 : Int32) (xa3 : Int32) (xa4 : Int32) (xa5 : Int32) (σ : Sto), xk_31 xa0 xa1 xa2 xa3 xa4 xa5 σ = some (r, σ') → GW x y (AY y) 7 Z 31 [(0, .ref (yad y (xa0))), (1, .int (xa1)), (2, .int (xa2)), (3, .int (xa3)), (4, .int (xa4)), (5, .int (xa5))] [] σ) (xa0 : Nat) (xa1 : Int32) (xa2 : Int32) (xa4 : Int32) (xa5 : Int32) (xa6 : Int32) (xs0 : Int32) (σ : Sto) (h : F_X5_stoolFor_b66 xk_31 xa0 xa1 xa2 xa4 xa5 xa6 xs0 σ = some (r, σ')) : GW x y (AY y) 7 Z 66 [(0, .ref (yad y (xa0))), (1, .int (xa1)), (2, .int (xa2)), (4, .int (xa4)), (5, .int (xa5)), (6, .int (xa6))] [.int (xs0)] σ := by
  unfold F_X5_stoolFor_b66 at h
  refine g_istore_n (i := 3) (lv' := [(3, .int (xs0)), (0, .ref (yad y (xa0))), (1, .int (xa1)), (2, .int (xa2)), (4, .int (xa4)), (5, .int (xa5)), (6, .int (xa6))]) (pc := 66) C dX5_stoolFor_66 rfl (Nat.le_of_ble_eq_true rfl) rfl ?_
  refine g_iload (pc := 67) C dX5_stoolFor_67 4 rfl ?_
  refine g_iload (pc := 69) C dX5_stoolFor_69 6 rfl ?_
  refine g_mmin (pc := 71) C dX5_stoolFor_71 wm_X5_139 wt_min wn_Math wc_min (Nat.le_of_ble_eq_true rfl) (Nat.le_of_ble_eq_true rfl) ?_
  refine g_letI h (fun xv1 h => ?_)
  refine g_istore (i := 4) (lv' := [(4, .int (xv1)), (3, .int (xs0)), (0, .ref (yad y (xa0))), (1, .int (xa1)), (2, .int (xa2)), (5, .int (xa5)), (6, .int (xa6))]) (pc := 74) C dX5_stoolFor_74 (Nat.le_of_ble_eq_true rfl) rfl ?_
  refine g_iinc (lv' := [(5, .int (xa5 + 1)), (4, .int (xv1)), (3, .int (xs0)), (0, .ref (yad y (xa0))), (1, .int (xa1)), (2, .int (xa2)), (6, .int (xa6))]) (w := xa5 + 1) (pc := 76) C dX5_stoolFor_76 (k := 5) rfl rfl (Nat.le_of_ble_eq_true rfl) rfl ?_
  refine g_goto (pc := 79) C dX5_stoolFor_79 (tgt := 31) rfl ?_
  refine g_sub (lv' := [(0, .ref (yad y (xa0))), (1, .int (xa1)), (2, .int (xa2)), (3, .int (xs0)), (4, .int (xv1)), (5, .int (xa5 + 1))]) C [3, 4, 5, 2, 1, 0] rfl ?_
  exact xH31 xa0 xa1 xa2 xs0 xv1 (xa5 + 1) σ h
set_option maxHeartbeats 4000000 in
set_option maxRecDepth 20000 in
theorem b_X5_stoolFor_31 {x : XT} {y : YT} {Z : State → Prop} (C : Cx x y (AY y) RX5 cX5_stoolFor 7 rm_X5_stoolFor) {r : Int32} {σ' : Sto} (hr : RetI x y (AY y) 7 cX5_stoolFor Z r σ') (xk_31 : Nat → Int32 → Int32 → Int32 → Int32 → Int32 → Sto → Option (Int32 × Sto)) (xH31 : ∀ (xa0 : Nat) (xa1 : Int32) (xa2 : Int32) (xa3 : Int32) (xa4 : Int32) (xa5 : Int32) (σ : Sto), xk_31 xa0 xa1 xa2 xa3 xa4 xa5 σ = some (r, σ') → GW x y (AY y) 7 Z 31 [(0, .ref (yad y (xa0))), (1, .int (xa1)), (2, .int (xa2)), (3, .int (xa3)), (4, .int (xa4)), (5, .int (xa5))] [] σ) (xa0 : Nat) (xa1 : Int32) (xa2 : Int32) (xa3 : Int32) (xa4 : Int32) (xa5 : Int32) (σ : Sto) (h : F_X5_stoolFor_b31 xk_31 xa0 xa1 xa2 xa3 xa4 xa5 σ = some (r, σ')) : GW x y (AY y) 7 Z 31 [(0, .ref (yad y (xa0))), (1, .int (xa1)), (2, .int (xa2)), (3, .int (xa3)), (4, .int (xa4)), (5, .int (xa5))] [] σ := by
  unfold F_X5_stoolFor_b31 at h
  refine g_iload (pc := 31) C dX5_stoolFor_31 5 rfl ?_
  refine g_bipush (v := 60) (pc := 33) C dX5_stoolFor_33 cb_60 ?_
  refine g_icmp_gt (pc := 35) C dX5_stoolFor_35 (tgt := 82) rfl (fun xq1 => ?_) (fun xq1 => ?_)
  · have h := iP xq1 h
    refine g_aload_n (pc := 82) C dX5_stoolFor_82 rfl 0 rfl ?_
    obtain ⟨xq2, h⟩ := iC h
    have xq2 := keq xq2
    refine gf_5_0 (pc := 83) C wf_X5_9 dX5_stoolFor_83 xq2 ?_
    refine g_iconst (v := 3) (pc := 86) C dX5_stoolFor_86 ci_3 ?_
    refine g_iload_n (pc := 87) C dX5_stoolFor_87 rfl 2 rfl ?_
    refine g_iast (pc := 88) C dX5_stoolFor_88 rfl (ivp (by decide) rfl) (j := 3) ct_3 ?_
    refine g_letS h (fun xσ3 h => ?_)
    refine g_iload_n (pc := 89) C dX5_stoolFor_89 rfl 3 rfl ?_
    exact rtI hr dX5_stoolFor_90 h
  · have h := iN xq1 h
    refine g_aload_n (pc := 38) C dX5_stoolFor_38 rfl 0 rfl ?_
    obtain ⟨xq4, h⟩ := iC h
    have xq4 := keq xq4
    refine gf_5_0 (pc := 39) C wf_X5_9 dX5_stoolFor_39 xq4 ?_
    refine g_iconst (v := 3) (pc := 42) C dX5_stoolFor_42 ci_3 ?_
    refine g_iload (pc := 43) C dX5_stoolFor_43 5 rfl ?_
    refine g_iast (pc := 45) C dX5_stoolFor_45 rfl (ivp (by decide) rfl) (j := 3) ct_3 ?_
    refine g_letS h (fun xσ5 h => ?_)
    refine g_aload_n (pc := 46) C dX5_stoolFor_46 rfl 0 rfl ?_
    refine g_iload_n (pc := 47) C dX5_stoolFor_47 rfl 1 rfl ?_
    obtain ⟨xr8, xσ6, xc7, h⟩ := iB h
    refine g_callVi (pc := 48) (As := [.int (xa1)]) (rest := []) C dX5_stoolFor_48 (fun l => c_X5_faultsTogether l y _ _ _ _ _ xc7) cv_X5_188 ⟨rfl, rfl, Nat.le_of_ble_eq_true rfl, Nat.le_of_ble_eq_true rfl⟩ (rv5 xq4) rfl (Nat.le_of_ble_eq_true rfl) ?_
    refine g_istore (i := 6) (lv' := [(6, .int (xr8)), (0, .ref (yad y (xa0))), (1, .int (xa1)), (2, .int (xa2)), (3, .int (xa3)), (4, .int (xa4)), (5, .int (xa5))]) (pc := 51) C dX5_stoolFor_51 (Nat.le_of_ble_eq_true rfl) rfl ?_
    refine g_iload (pc := 53) C dX5_stoolFor_53 0 rfl ?_
    refine g_iload (pc := 55) C dX5_stoolFor_55 5 rfl ?_
    refine g_icmp_ge (pc := 57) C dX5_stoolFor_57 (tgt := 65) rfl (fun xq9 => ?_) (fun xq9 => ?_)
    · have h := iP xq9 h
      refine g_iload_n (pc := 65) C dX5_stoolFor_65 rfl 4 rfl ?_
      refine g_sub (lv' := [(0, .ref (yad y (xa0))), (1, .int (xa1)), (2, .int (xa2)), (4, .int (xa4)), (5, .int (xa5)), (6, .int (xr8))]) C [1, 2, 3, 5, 6, 0] rfl ?_
      exact b_X5_stoolFor_66 C hr xk_31 xH31 xa0 xa1 xa2 xa4 xa5 xr8 xa3 xσ6 h
    · have h := iN xq9 h
      refine g_iload (pc := 60) C dX5_stoolFor_60 6 rfl ?_
      refine g_goto (pc := 62) C dX5_stoolFor_62 (tgt := 66) rfl ?_
      refine g_sub (lv' := [(0, .ref (yad y (xa0))), (1, .int (xa1)), (2, .int (xa2)), (4, .int (xa4)), (5, .int (xa5)), (6, .int (xr8))]) C [1, 2, 3, 5, 6, 0] rfl ?_
      exact b_X5_stoolFor_66 C hr xk_31 xH31 xa0 xa1 xa2 xa4 xa5 xr8 xa5 xσ6 h
theorem l_X5_stoolFor_31 {x : XT} {y : YT} {Z : State → Prop} (C : Cx x y (AY y) RX5 cX5_stoolFor 7 rm_X5_stoolFor) {r : Int32} {σ' : Sto} (hr : RetI x y (AY y) 7 cX5_stoolFor Z r σ') (n : Nat) (xa0 : Nat) (xa1 : Int32) (xa2 : Int32) (xa3 : Int32) (xa4 : Int32) (xa5 : Int32) (σ : Sto) (h : lo6 (F_X5_stoolFor_b31) n xa0 xa1 xa2 xa3 xa4 xa5 σ = some (r, σ')) : GW x y (AY y) 7 Z 31 [(0, .ref (yad y (xa0))), (1, .int (xa1)), (2, .int (xa2)), (3, .int (xa3)), (4, .int (xa4)), (5, .int (xa5))] [] σ :=
  lo6_gw (G := fun xa0 xa1 xa2 xa3 xa4 xa5 σ => GW x y (AY y) 7 Z 31 [(0, .ref (yad y (xa0))), (1, .int (xa1)), (2, .int (xa2)), (3, .int (xa3)), (4, .int (xa4)), (5, .int (xa5))] [] σ) (fun xk xHk xa0 xa1 xa2 xa3 xa4 xa5 σ h => b_X5_stoolFor_31 C hr xk xHk xa0 xa1 xa2 xa3 xa4 xa5 σ h) n xa0 xa1 xa2 xa3 xa4 xa5 σ h
set_option maxHeartbeats 4000000 in
set_option maxRecDepth 20000 in
theorem b_X5_stoolFor_0 {x : XT} {y : YT} {Z : State → Prop} (C : Cx x y (AY y) RX5 cX5_stoolFor 7 rm_X5_stoolFor) {r : Int32} {σ' : Sto} (hr : RetI x y (AY y) 7 cX5_stoolFor Z r σ') (xa0 : Nat) (xa1 : Int32) (σ : Sto) (h : F_X5_stoolFor xa0 xa1 σ = some (r, σ')) : GW x y (AY y) 7 Z 0 [(0, .ref (yad y (xa0))), (1, .int (xa1))] [] σ := by
  unfold F_X5_stoolFor at h
  refine g_aload_n (pc := 0) C dX5_stoolFor_0 rfl 0 rfl ?_
  refine g_iload_n (pc := 1) C dX5_stoolFor_1 rfl 1 rfl ?_
  obtain ⟨xq3, h⟩ := iC h
  have xq3 := keq xq3
  obtain ⟨xr4, xσ1, xc2, h⟩ := iB h
  refine g_callVi (pc := 2) (As := [.int (xa1)]) (rest := []) C dX5_stoolFor_2 (fun l => c_X5_isSitter l y _ _ _ _ _ xc2) cv_X5_83 ⟨rfl, rfl, Nat.le_of_ble_eq_true rfl, Nat.le_of_ble_eq_true rfl⟩ (rv5 xq3) rfl (Nat.le_of_ble_eq_true rfl) ?_
  refine g_if_ne (pc := 5) C dX5_stoolFor_5 (tgt := 15) rfl (fun xq5 => ?_) (fun xq5 => ?_)
  · have h := iN xq5 h
    refine g_aload_n (pc := 15) C dX5_stoolFor_15 rfl 0 rfl ?_
    refine gf_5_0 (pc := 16) C wf_X5_9 dX5_stoolFor_16 xq3 ?_
    refine g_iconst (v := 3) (pc := 19) C dX5_stoolFor_19 ci_3 ?_
    refine g_iald (pc := 20) C dX5_stoolFor_20 rfl (ivp (by decide) rfl) (j := 3) ct_3 ?_
    refine g_letI h (fun xv6 h => ?_)
    refine g_istore_n (i := 2) (lv' := [(2, .int (xv6)), (0, .ref (yad y (xa0))), (1, .int (xa1))]) (pc := 21) C dX5_stoolFor_21 rfl (Nat.le_of_ble_eq_true rfl) rfl ?_
    refine g_iconst (v := 0) (pc := 22) C dX5_stoolFor_22 ci_0 ?_
    refine g_istore_n (i := 3) (lv' := [(3, .int (0)), (2, .int (xv6)), (0, .ref (yad y (xa0))), (1, .int (xa1))]) (pc := 23) C dX5_stoolFor_23 rfl (Nat.le_of_ble_eq_true rfl) rfl ?_
    refine g_bipush (v := 99) (pc := 24) C dX5_stoolFor_24 cb_99 ?_
    refine g_istore (i := 4) (lv' := [(4, .int (99)), (3, .int (0)), (2, .int (xv6)), (0, .ref (yad y (xa0))), (1, .int (xa1))]) (pc := 26) C dX5_stoolFor_26 (Nat.le_of_ble_eq_true rfl) rfl ?_
    refine g_iconst (v := 0) (pc := 28) C dX5_stoolFor_28 ci_0 ?_
    refine g_istore (i := 5) (lv' := [(5, .int (0)), (4, .int (99)), (3, .int (0)), (2, .int (xv6)), (0, .ref (yad y (xa0))), (1, .int (xa1))]) (pc := 29) C dX5_stoolFor_29 (Nat.le_of_ble_eq_true rfl) rfl ?_
    refine g_sub (lv' := [(0, .ref (yad y (xa0))), (1, .int (xa1)), (2, .int (xv6)), (3, .int (0)), (4, .int (99)), (5, .int (0))]) C [4, 5, 3, 2, 1, 0] rfl ?_
    exact l_X5_stoolFor_31 C hr 1000 xa0 xa1 xv6 0 99 0 xσ1 h
  · have h := iP xq5 h
    refine g_aload_n (pc := 8) C dX5_stoolFor_8 rfl 0 rfl ?_
    refine g_ldc (v := (-1000001)) (pc := 9) C dX5_stoolFor_9 wk_X5_60 ?_
    obtain ⟨xr9, xσ7, xc8, h⟩ := iB h
    refine g_callVi (pc := 11) (As := [.int ((-1000001))]) (rest := []) C dX5_stoolFor_11 (fun l => c_X5_finding l y _ _ _ _ _ xc8) cv_X5_66 ⟨rfl, rfl, Nat.le_of_ble_eq_true rfl, Nat.le_of_ble_eq_true rfl⟩ (rv5 xq3) rfl (Nat.le_of_ble_eq_true rfl) ?_
    exact rtI hr dX5_stoolFor_14 h
theorem c_X5_stoolFor (l : Launch) (y : YT) (xa0 : Nat) (xa1 : Int32) (σ σ' : Sto) (r : Int32) (h : F_X5_stoolFor xa0 xa1 σ = some (r, σ')) : MI l y yX5_stoolFor (Cond.code yX5_stoolFor cX5_stoolFor 7 (some .int) :: TT) rm_X5_stoolFor [.ref (yad y (xa0)), .int (xa1)] σ r σ' :=
  mkI (by decide) rfl rfl rfl (Nat.le_of_ble_eq_true rfl) (fun x Z C hr => b_X5_stoolFor_0 C hr xa0 xa1 σ h)
def rm_X5_isThought : Room := { frames := 1, cells := 0, slots := 0, locals := 22 }
def F_X5_isThought (xa0 : Int32) (σ : Sto) : Option (Int32 × Sto) := bnd (F_X5_within (xa0) 0 60 σ) (fun xr3 xσ1 => ck (z01 (xr3)) (some (xr3, xσ1)))
set_option maxHeartbeats 4000000 in
set_option maxRecDepth 20000 in
theorem b_X5_isThought_0 {x : XT} {y : YT} {Z : State → Prop} (C : Cx x y (AY y) RX5 cX5_isThought 1 rm_X5_isThought) {r : Int32} {σ' : Sto} (hr : RetZ x y (AY y) 1 cX5_isThought Z r σ') (xa0 : Int32) (σ : Sto) (h : F_X5_isThought xa0 σ = some (r, σ')) : GW x y (AY y) 1 Z 0 [(0, .int (xa0))] [] σ := by
  unfold F_X5_isThought at h
  refine g_iload_n (pc := 0) C dX5_isThought_0 rfl 0 rfl ?_
  refine g_iconst (v := 0) (pc := 1) C dX5_isThought_1 ci_0 ?_
  refine g_bipush (v := 60) (pc := 2) C dX5_isThought_2 cb_60 ?_
  obtain ⟨xr3, xσ1, xc2, h⟩ := iB h
  refine g_callSi (pc := 4) (As := [.int (xa0), .int (0), .int (60)]) (rest := []) C dX5_isThought_4 (fun l => c_X5_within l y _ _ _ _ _ _ xc2) cv_X5_70 ⟨rfl, rfl, Nat.le_of_ble_eq_true rfl, Nat.le_of_ble_eq_true rfl⟩ rfl (Nat.le_of_ble_eq_true rfl) ?_
  obtain ⟨xz, h⟩ := iC h
  exact rtZ hr dX5_isThought_7 (z01_or xz) h
theorem c_X5_isThought (l : Launch) (y : YT) (xa0 : Int32) (σ σ' : Sto) (r : Int32) (h : F_X5_isThought xa0 σ = some (r, σ')) : MI l y yX5_isThought (Cond.code yX5_isThought cX5_isThought 1 (some .boolean) :: TT) rm_X5_isThought [.int (xa0)] σ r σ' :=
  mkZ (by decide) rfl rfl rfl (Nat.le_of_ble_eq_true rfl) (fun x Z C hr => b_X5_isThought_0 C hr xa0 σ h)
def rm_X5_isTakenWith : Room := { frames := 9, cells := 0, slots := 0, locals := 200 }
def F_X5_isTakenWith_b33 (xa0 : Nat) (xa1 : Int32) (xa5 : Int32) (xs0 : Int32) (σ : Sto) : Option (Int32 × Sto) := ck (kd (xa0) == 5) (ck (inr (xa1) (79)) (lts (up2 σ 50 (xa1.toNatClampNeg) (xa5)) (fun xσ3 => ck (z01 (xs0)) (some (xs0, xσ3)))))
def F_X5_isTakenWith (xa0 : Nat) (xa1 : Int32) (xa2 : Int32) (xa3 : Int32) (xa4 : Int32) (σ : Sto) : Option (Int32 × Sto) := ck (kd (xa0) == 5) (bnd (F_X5_become (xa0) (xa1) (xa2) σ) (fun xr4 xσ1 => bnd (F_X5_sitterAt (xa3) 5 xσ1) (fun xr7 xσ5 => bnd (F_X5_behind (xa0) (xr7) (xa4) xσ5) (fun xr10 xσ8 => bnd (F_X5_sitterIs (xa0) (xa3) 5 xσ8) (fun xr13 xσ11 => if xr10 ≤ xr13 then F_X5_isTakenWith_b33 xa0 xa1 xr4 0 xσ11 else F_X5_isTakenWith_b33 xa0 xa1 xr4 1 xσ11)))))
set_option maxHeartbeats 4000000 in
set_option maxRecDepth 20000 in
theorem b_X5_isTakenWith_33 {x : XT} {y : YT} {Z : State → Prop} (C : Cx x y (AY y) RX5 cX5_isTakenWith 7 rm_X5_isTakenWith) {r : Int32} {σ' : Sto} (hr : RetZ x y (AY y) 7 cX5_isTakenWith Z r σ') (xa0 : Nat) (xa1 : Int32) (xa5 : Int32) (xs0 : Int32) (σ : Sto) (h : F_X5_isTakenWith_b33 xa0 xa1 xa5 xs0 σ = some (r, σ')) : GW x y (AY y) 7 Z 33 [(0, .ref (yad y (xa0))), (1, .int (xa1)), (5, .int (xa5))] [.int (xs0)] σ := by
  unfold F_X5_isTakenWith_b33 at h
  refine g_istore (i := 6) (lv' := [(6, .int (xs0)), (0, .ref (yad y (xa0))), (1, .int (xa1)), (5, .int (xa5))]) (pc := 33) C dX5_isTakenWith_33 (Nat.le_of_ble_eq_true rfl) rfl ?_
  refine g_aload_n (pc := 35) C dX5_isTakenWith_35 rfl 1 rfl ?_
  obtain ⟨xq1, h⟩ := iC h
  have xq1 := keq xq1
  refine gf_5_0 (pc := 36) C wf_X5_9 dX5_isTakenWith_36 xq1 ?_
  refine g_iload_n (pc := 39) C dX5_isTakenWith_39 rfl 2 rfl ?_
  refine g_iload (pc := 40) C dX5_isTakenWith_40 3 rfl ?_
  obtain ⟨xq2, h⟩ := iC h
  refine g_iast (pc := 42) C dX5_isTakenWith_42 rfl (ivp xq2 rfl) (j := xa1.toNatClampNeg) rfl ?_
  refine g_letS h (fun xσ3 h => ?_)
  refine g_iload (pc := 43) C dX5_isTakenWith_43 0 rfl ?_
  obtain ⟨xz, h⟩ := iC h
  exact rtZ hr dX5_isTakenWith_45 (z01_or xz) h
set_option maxHeartbeats 4000000 in
set_option maxRecDepth 20000 in
theorem b_X5_isTakenWith_0 {x : XT} {y : YT} {Z : State → Prop} (C : Cx x y (AY y) RX5 cX5_isTakenWith 7 rm_X5_isTakenWith) {r : Int32} {σ' : Sto} (hr : RetZ x y (AY y) 7 cX5_isTakenWith Z r σ') (xa0 : Nat) (xa1 : Int32) (xa2 : Int32) (xa3 : Int32) (xa4 : Int32) (σ : Sto) (h : F_X5_isTakenWith xa0 xa1 xa2 xa3 xa4 σ = some (r, σ')) : GW x y (AY y) 7 Z 0 [(0, .ref (yad y (xa0))), (1, .int (xa1)), (2, .int (xa2)), (3, .int (xa3)), (4, .int (xa4))] [] σ := by
  unfold F_X5_isTakenWith at h
  refine g_aload_n (pc := 0) C dX5_isTakenWith_0 rfl 0 rfl ?_
  refine g_iload_n (pc := 1) C dX5_isTakenWith_1 rfl 1 rfl ?_
  refine g_iload_n (pc := 2) C dX5_isTakenWith_2 rfl 2 rfl ?_
  obtain ⟨xq3, h⟩ := iC h
  have xq3 := keq xq3
  obtain ⟨xr4, xσ1, xc2, h⟩ := iB h
  refine g_callVi (pc := 3) (As := [.int (xa1), .int (xa2)]) (rest := []) C dX5_isTakenWith_3 (fun l => c_X5_become l y _ _ _ _ _ _ xc2) cv_X5_79 ⟨rfl, rfl, Nat.le_of_ble_eq_true rfl, Nat.le_of_ble_eq_true rfl⟩ (rv5 xq3) rfl (Nat.le_of_ble_eq_true rfl) ?_
  refine g_istore (i := 5) (lv' := [(5, .int (xr4)), (0, .ref (yad y (xa0))), (1, .int (xa1)), (2, .int (xa2)), (3, .int (xa3)), (4, .int (xa4))]) (pc := 6) C dX5_isTakenWith_6 (Nat.le_of_ble_eq_true rfl) rfl ?_
  refine g_aload_n (pc := 8) C dX5_isTakenWith_8 rfl 1 rfl ?_
  refine g_iload_n (pc := 9) C dX5_isTakenWith_9 rfl 4 rfl ?_
  refine g_iconst (v := 5) (pc := 10) C dX5_isTakenWith_10 ci_5 ?_
  obtain ⟨xr7, xσ5, xc6, h⟩ := iB h
  refine g_callSi (pc := 11) (As := [.int (xa3), .int (5)]) (rest := [.ref (yad y (xa0))]) C dX5_isTakenWith_11 (fun l => c_X5_sitterAt l y _ _ _ _ _ xc6) cv_X5_93 ⟨rfl, rfl, Nat.le_of_ble_eq_true rfl, Nat.le_of_ble_eq_true rfl⟩ rfl (Nat.le_of_ble_eq_true rfl) ?_
  refine g_iload (pc := 14) C dX5_isTakenWith_14 5 rfl ?_
  obtain ⟨xr10, xσ8, xc9, h⟩ := iB h
  refine g_callVi (pc := 16) (As := [.int (xr7), .int (xa4)]) (rest := []) C dX5_isTakenWith_16 (fun l => c_X5_behind l y _ _ _ _ _ _ xc9) cv_X5_178 ⟨rfl, rfl, Nat.le_of_ble_eq_true rfl, Nat.le_of_ble_eq_true rfl⟩ (rv5 xq3) rfl (Nat.le_of_ble_eq_true rfl) ?_
  refine g_aload_n (pc := 19) C dX5_isTakenWith_19 rfl 1 rfl ?_
  refine g_iload_n (pc := 20) C dX5_isTakenWith_20 rfl 4 rfl ?_
  refine g_iconst (v := 5) (pc := 21) C dX5_isTakenWith_21 ci_5 ?_
  obtain ⟨xr13, xσ11, xc12, h⟩ := iB h
  refine g_callVi (pc := 22) (As := [.int (xa3), .int (5)]) (rest := [.int (xr10)]) C dX5_isTakenWith_22 (fun l => c_X5_sitterIs l y _ _ _ _ _ _ xc12) cv_X5_104 ⟨rfl, rfl, Nat.le_of_ble_eq_true rfl, Nat.le_of_ble_eq_true rfl⟩ (rv5 xq3) rfl (Nat.le_of_ble_eq_true rfl) ?_
  refine g_icmp_le (pc := 25) C dX5_isTakenWith_25 (tgt := 32) rfl (fun xq14 => ?_) (fun xq14 => ?_)
  · have h := iP xq14 h
    refine g_iconst (v := 0) (pc := 32) C dX5_isTakenWith_32 ci_0 ?_
    refine g_sub (lv' := [(0, .ref (yad y (xa0))), (1, .int (xa1)), (5, .int (xr4))]) C [1, 2, 0] rfl ?_
    exact b_X5_isTakenWith_33 C hr xa0 xa1 xr4 0 xσ11 h
  · have h := iN xq14 h
    refine g_iconst (v := 1) (pc := 28) C dX5_isTakenWith_28 ci_1 ?_
    refine g_goto (pc := 29) C dX5_isTakenWith_29 (tgt := 33) rfl ?_
    refine g_sub (lv' := [(0, .ref (yad y (xa0))), (1, .int (xa1)), (5, .int (xr4))]) C [1, 2, 0] rfl ?_
    exact b_X5_isTakenWith_33 C hr xa0 xa1 xr4 1 xσ11 h
theorem c_X5_isTakenWith (l : Launch) (y : YT) (xa0 : Nat) (xa1 : Int32) (xa2 : Int32) (xa3 : Int32) (xa4 : Int32) (σ σ' : Sto) (r : Int32) (h : F_X5_isTakenWith xa0 xa1 xa2 xa3 xa4 σ = some (r, σ')) : MI l y yX5_isTakenWith (Cond.code yX5_isTakenWith cX5_isTakenWith 7 (some .boolean) :: TT) rm_X5_isTakenWith [.ref (yad y (xa0)), .int (xa1), .int (xa2), .int (xa3), .int (xa4)] σ r σ' :=
  mkZ (by decide) rfl rfl rfl (Nat.le_of_ble_eq_true rfl) (fun x Z C hr => b_X5_isTakenWith_0 C hr xa0 xa1 xa2 xa3 xa4 σ h)
def rm_X5_lightFor : Room := { frames := 10, cells := 0, slots := 0, locals := 226 }
def F_X5_lightFor_b28 (xk_28 : Nat → Int32 → Int32 → Int32 → Int32 → Sto → Option (Int32 × Sto)) (xa0 : Nat) (xa1 : Int32) (xa2 : Int32) (xa3 : Int32) (xa4 : Int32) (σ : Sto) : Option (Int32 × Sto) := if (xa4) < 0 then ck (kd (xa0) == 5) (bnd (F_X5_orNone (xa0) (xa3) σ) (fun xr5 xσ2 => some (xr5, xσ2))) else ck (kd (xa0) == 5) (bnd (F_X5_isTakenWith (xa0) 4 (xa4) (xa1) (xa2) σ) (fun xr9 xσ6 => if (xr9) = 0 then xk_28 xa0 xa1 xa2 xa3 (xa4 + (-1)) xσ6 else xk_28 xa0 xa1 xa2 xa4 (xa4 + (-1)) xσ6))
def F_X5_lightFor (xa0 : Nat) (xa1 : Int32) (xa2 : Int32) (σ : Sto) : Option (Int32 × Sto) := ck (kd (xa0) == 5) (bnd (F_X5_isSitter (xa0) (xa1) σ) (fun xr4 xσ1 => if (xr4) = 0 then bnd (F_X5_finding (xa0) (-1000001) xσ1) (fun xr8 xσ6 => some (xr8, xσ6)) else bnd (F_X5_isThought (xa2) xσ1) (fun xr11 xσ9 => if (xr11) = 0 then bnd (F_X5_finding (xa0) (-1000001) xσ9) (fun xr15 xσ13 => some (xr15, xσ13)) else lo5 (F_X5_lightFor_b28) 1000 xa0 xa1 xa2 (-1) 9 xσ9)))
set_option maxHeartbeats 4000000 in
set_option maxRecDepth 20000 in
theorem b_X5_lightFor_28 {x : XT} {y : YT} {Z : State → Prop} (C : Cx x y (AY y) RX5 cX5_lightFor 5 rm_X5_lightFor) {r : Int32} {σ' : Sto} (hr : RetI x y (AY y) 5 cX5_lightFor Z r σ') (xk_28 : Nat → Int32 → Int32 → Int32 → Int32 → Sto → Option (Int32 × Sto)) (xH28 : ∀ (xa0 : Nat) (xa1 : Int32) (xa2 : Int32) (xa3 : Int32) (xa4 : Int32) (σ : Sto), xk_28 xa0 xa1 xa2 xa3 xa4 σ = some (r, σ') → GW x y (AY y) 5 Z 28 [(0, .ref (yad y (xa0))), (1, .int (xa1)), (2, .int (xa2)), (3, .int (xa3)), (4, .int (xa4))] [] σ) (xa0 : Nat) (xa1 : Int32) (xa2 : Int32) (xa3 : Int32) (xa4 : Int32) (σ : Sto) (h : F_X5_lightFor_b28 xk_28 xa0 xa1 xa2 xa3 xa4 σ = some (r, σ')) : GW x y (AY y) 5 Z 28 [(0, .ref (yad y (xa0))), (1, .int (xa1)), (2, .int (xa2)), (3, .int (xa3)), (4, .int (xa4))] [] σ := by
  unfold F_X5_lightFor_b28 at h
  refine g_iload (pc := 28) C dX5_lightFor_28 4 rfl ?_
  refine g_if_lt (pc := 30) C dX5_lightFor_30 (tgt := 58) rfl (fun xq1 => ?_) (fun xq1 => ?_)
  · have h := iP xq1 h
    refine g_aload_n (pc := 58) C dX5_lightFor_58 rfl 0 rfl ?_
    refine g_iload_n (pc := 59) C dX5_lightFor_59 rfl 3 rfl ?_
    obtain ⟨xq4, h⟩ := iC h
    have xq4 := keq xq4
    obtain ⟨xr5, xσ2, xc3, h⟩ := iB h
    refine g_callVi (pc := 60) (As := [.int (xa3)]) (rest := []) C dX5_lightFor_60 (fun l => c_X5_orNone l y _ _ _ _ _ xc3) cv_X5_181 ⟨rfl, rfl, Nat.le_of_ble_eq_true rfl, Nat.le_of_ble_eq_true rfl⟩ (rv5 xq4) rfl (Nat.le_of_ble_eq_true rfl) ?_
    exact rtI hr dX5_lightFor_63 h
  · have h := iN xq1 h
    refine g_aload_n (pc := 33) C dX5_lightFor_33 rfl 0 rfl ?_
    refine g_iconst (v := 4) (pc := 34) C dX5_lightFor_34 ci_4 ?_
    refine g_iload (pc := 35) C dX5_lightFor_35 4 rfl ?_
    refine g_iload_n (pc := 37) C dX5_lightFor_37 rfl 1 rfl ?_
    refine g_iload_n (pc := 38) C dX5_lightFor_38 rfl 2 rfl ?_
    obtain ⟨xq8, h⟩ := iC h
    have xq8 := keq xq8
    obtain ⟨xr9, xσ6, xc7, h⟩ := iB h
    refine g_callVi (pc := 39) (As := [.int (4), .int (xa4), .int (xa1), .int (xa2)]) (rest := []) C dX5_lightFor_39 (fun l => c_X5_isTakenWith l y _ _ _ _ _ _ _ _ xc7) cv_X5_194 ⟨rfl, rfl, Nat.le_of_ble_eq_true rfl, Nat.le_of_ble_eq_true rfl⟩ (rv5 xq8) rfl (Nat.le_of_ble_eq_true rfl) ?_
    refine g_if_eq (pc := 42) C dX5_lightFor_42 (tgt := 50) rfl (fun xq10 => ?_) (fun xq10 => ?_)
    · have h := iP xq10 h
      refine g_iload_n (pc := 50) C dX5_lightFor_50 rfl 3 rfl ?_
      refine g_istore_n (i := 3) (lv' := [(3, .int (xa3)), (0, .ref (yad y (xa0))), (1, .int (xa1)), (2, .int (xa2)), (4, .int (xa4))]) (pc := 51) C dX5_lightFor_51 rfl (Nat.le_of_ble_eq_true rfl) rfl ?_
      refine g_iinc (lv' := [(4, .int (xa4 + (-1))), (3, .int (xa3)), (0, .ref (yad y (xa0))), (1, .int (xa1)), (2, .int (xa2))]) (w := xa4 + (-1)) (pc := 52) C dX5_lightFor_52 (k := 4) rfl rfl (Nat.le_of_ble_eq_true rfl) rfl ?_
      refine g_goto (pc := 55) C dX5_lightFor_55 (tgt := 28) rfl ?_
      refine g_sub (lv' := [(0, .ref (yad y (xa0))), (1, .int (xa1)), (2, .int (xa2)), (3, .int (xa3)), (4, .int (xa4 + (-1)))]) C [2, 3, 4, 1, 0] rfl ?_
      exact xH28 xa0 xa1 xa2 xa3 (xa4 + (-1)) xσ6 h
    · have h := iN xq10 h
      refine g_iload (pc := 45) C dX5_lightFor_45 4 rfl ?_
      refine g_goto (pc := 47) C dX5_lightFor_47 (tgt := 51) rfl ?_
      refine g_istore_n (i := 3) (lv' := [(3, .int (xa4)), (0, .ref (yad y (xa0))), (1, .int (xa1)), (2, .int (xa2)), (4, .int (xa4))]) (pc := 51) C dX5_lightFor_51 rfl (Nat.le_of_ble_eq_true rfl) rfl ?_
      refine g_iinc (lv' := [(4, .int (xa4 + (-1))), (3, .int (xa4)), (0, .ref (yad y (xa0))), (1, .int (xa1)), (2, .int (xa2))]) (w := xa4 + (-1)) (pc := 52) C dX5_lightFor_52 (k := 4) rfl rfl (Nat.le_of_ble_eq_true rfl) rfl ?_
      refine g_goto (pc := 55) C dX5_lightFor_55 (tgt := 28) rfl ?_
      refine g_sub (lv' := [(0, .ref (yad y (xa0))), (1, .int (xa1)), (2, .int (xa2)), (3, .int (xa4)), (4, .int (xa4 + (-1)))]) C [2, 3, 4, 1, 0] rfl ?_
      exact xH28 xa0 xa1 xa2 xa4 (xa4 + (-1)) xσ6 h
theorem l_X5_lightFor_28 {x : XT} {y : YT} {Z : State → Prop} (C : Cx x y (AY y) RX5 cX5_lightFor 5 rm_X5_lightFor) {r : Int32} {σ' : Sto} (hr : RetI x y (AY y) 5 cX5_lightFor Z r σ') (n : Nat) (xa0 : Nat) (xa1 : Int32) (xa2 : Int32) (xa3 : Int32) (xa4 : Int32) (σ : Sto) (h : lo5 (F_X5_lightFor_b28) n xa0 xa1 xa2 xa3 xa4 σ = some (r, σ')) : GW x y (AY y) 5 Z 28 [(0, .ref (yad y (xa0))), (1, .int (xa1)), (2, .int (xa2)), (3, .int (xa3)), (4, .int (xa4))] [] σ :=
  lo5_gw (G := fun xa0 xa1 xa2 xa3 xa4 σ => GW x y (AY y) 5 Z 28 [(0, .ref (yad y (xa0))), (1, .int (xa1)), (2, .int (xa2)), (3, .int (xa3)), (4, .int (xa4))] [] σ) (fun xk xHk xa0 xa1 xa2 xa3 xa4 σ h => b_X5_lightFor_28 C hr xk xHk xa0 xa1 xa2 xa3 xa4 σ h) n xa0 xa1 xa2 xa3 xa4 σ h
set_option maxHeartbeats 4000000 in
set_option maxRecDepth 20000 in
theorem b_X5_lightFor_0 {x : XT} {y : YT} {Z : State → Prop} (C : Cx x y (AY y) RX5 cX5_lightFor 5 rm_X5_lightFor) {r : Int32} {σ' : Sto} (hr : RetI x y (AY y) 5 cX5_lightFor Z r σ') (xa0 : Nat) (xa1 : Int32) (xa2 : Int32) (σ : Sto) (h : F_X5_lightFor xa0 xa1 xa2 σ = some (r, σ')) : GW x y (AY y) 5 Z 0 [(0, .ref (yad y (xa0))), (1, .int (xa1)), (2, .int (xa2))] [] σ := by
  unfold F_X5_lightFor at h
  refine g_aload_n (pc := 0) C dX5_lightFor_0 rfl 0 rfl ?_
  refine g_iload_n (pc := 1) C dX5_lightFor_1 rfl 1 rfl ?_
  obtain ⟨xq3, h⟩ := iC h
  have xq3 := keq xq3
  obtain ⟨xr4, xσ1, xc2, h⟩ := iB h
  refine g_callVi (pc := 2) (As := [.int (xa1)]) (rest := []) C dX5_lightFor_2 (fun l => c_X5_isSitter l y _ _ _ _ _ xc2) cv_X5_83 ⟨rfl, rfl, Nat.le_of_ble_eq_true rfl, Nat.le_of_ble_eq_true rfl⟩ (rv5 xq3) rfl (Nat.le_of_ble_eq_true rfl) ?_
  refine g_if_eq (pc := 5) C dX5_lightFor_5 (tgt := 15) rfl (fun xq5 => ?_) (fun xq5 => ?_)
  · have h := iP xq5 h
    refine g_aload_n (pc := 15) C dX5_lightFor_15 rfl 0 rfl ?_
    refine g_ldc (v := (-1000001)) (pc := 16) C dX5_lightFor_16 wk_X5_60 ?_
    obtain ⟨xr8, xσ6, xc7, h⟩ := iB h
    refine g_callVi (pc := 18) (As := [.int ((-1000001))]) (rest := []) C dX5_lightFor_18 (fun l => c_X5_finding l y _ _ _ _ _ xc7) cv_X5_66 ⟨rfl, rfl, Nat.le_of_ble_eq_true rfl, Nat.le_of_ble_eq_true rfl⟩ (rv5 xq3) rfl (Nat.le_of_ble_eq_true rfl) ?_
    exact rtI hr dX5_lightFor_21 h
  · have h := iN xq5 h
    refine g_iload_n (pc := 8) C dX5_lightFor_8 rfl 2 rfl ?_
    obtain ⟨xr11, xσ9, xc10, h⟩ := iB h
    refine g_callSi (pc := 9) (As := [.int (xa2)]) (rest := []) C dX5_lightFor_9 (fun l => c_X5_isThought l y _ _ _ _ xc10) cv_X5_191 ⟨rfl, rfl, Nat.le_of_ble_eq_true rfl, Nat.le_of_ble_eq_true rfl⟩ rfl (Nat.le_of_ble_eq_true rfl) ?_
    refine g_if_ne (pc := 12) C dX5_lightFor_12 (tgt := 22) rfl (fun xq12 => ?_) (fun xq12 => ?_)
    · have h := iN xq12 h
      refine g_iconst (v := (-1)) (pc := 22) C dX5_lightFor_22 ci_m1 ?_
      refine g_istore_n (i := 3) (lv' := [(3, .int ((-1))), (0, .ref (yad y (xa0))), (1, .int (xa1)), (2, .int (xa2))]) (pc := 23) C dX5_lightFor_23 rfl (Nat.le_of_ble_eq_true rfl) rfl ?_
      refine g_bipush (v := 9) (pc := 24) C dX5_lightFor_24 cb_9 ?_
      refine g_istore (i := 4) (lv' := [(4, .int (9)), (3, .int ((-1))), (0, .ref (yad y (xa0))), (1, .int (xa1)), (2, .int (xa2))]) (pc := 26) C dX5_lightFor_26 (Nat.le_of_ble_eq_true rfl) rfl ?_
      refine g_sub (lv' := [(0, .ref (yad y (xa0))), (1, .int (xa1)), (2, .int (xa2)), (3, .int ((-1))), (4, .int (9))]) C [2, 3, 4, 1, 0] rfl ?_
      exact l_X5_lightFor_28 C hr 1000 xa0 xa1 xa2 (-1) 9 xσ9 h
    · have h := iP xq12 h
      refine g_aload_n (pc := 15) C dX5_lightFor_15 rfl 0 rfl ?_
      refine g_ldc (v := (-1000001)) (pc := 16) C dX5_lightFor_16 wk_X5_60 ?_
      obtain ⟨xr15, xσ13, xc14, h⟩ := iB h
      refine g_callVi (pc := 18) (As := [.int ((-1000001))]) (rest := []) C dX5_lightFor_18 (fun l => c_X5_finding l y _ _ _ _ _ xc14) cv_X5_66 ⟨rfl, rfl, Nat.le_of_ble_eq_true rfl, Nat.le_of_ble_eq_true rfl⟩ (rv5 xq3) rfl (Nat.le_of_ble_eq_true rfl) ?_
      exact rtI hr dX5_lightFor_21 h
theorem c_X5_lightFor (l : Launch) (y : YT) (xa0 : Nat) (xa1 : Int32) (xa2 : Int32) (σ σ' : Sto) (r : Int32) (h : F_X5_lightFor xa0 xa1 xa2 σ = some (r, σ')) : MI l y yX5_lightFor (Cond.code yX5_lightFor cX5_lightFor 5 (some .int) :: TT) rm_X5_lightFor [.ref (yad y (xa0)), .int (xa1), .int (xa2)] σ r σ' :=
  mkI (by decide) rfl rfl rfl (Nat.le_of_ble_eq_true rfl) (fun x Z C hr => b_X5_lightFor_0 C hr xa0 xa1 xa2 σ h)
def rm_X5_merryFor : Room := { frames := 10, cells := 0, slots := 0, locals := 226 }
def F_X5_merryFor_b27 (xk_27 : Nat → Int32 → Int32 → Int32 → Int32 → Sto → Option (Int32 × Sto)) (xa0 : Nat) (xa1 : Int32) (xa2 : Int32) (xa3 : Int32) (xa4 : Int32) (σ : Sto) : Option (Int32 × Sto) := if 9 < xa4 then ck (kd (xa0) == 5) (bnd (F_X5_orNone (xa0) (xa3) σ) (fun xr5 xσ2 => some (xr5, xσ2))) else bnd (F_X5_sitterAt (xa1) 3 σ) (fun xr8 xσ6 => ck (kd (xa0) == 5) (bnd (F_X5_isTakenWith (xa0) (xr8) (xa4) (xa1) (xa2) xσ6) (fun xr12 xσ9 => if (xr12) = 0 then xk_27 xa0 xa1 xa2 xa3 (xa4 + 1) xσ9 else xk_27 xa0 xa1 xa2 xa4 (xa4 + 1) xσ9)))
def F_X5_merryFor (xa0 : Nat) (xa1 : Int32) (xa2 : Int32) (σ : Sto) : Option (Int32 × Sto) := ck (kd (xa0) == 5) (bnd (F_X5_isSitter (xa0) (xa1) σ) (fun xr4 xσ1 => if (xr4) = 0 then bnd (F_X5_finding (xa0) (-1000001) xσ1) (fun xr8 xσ6 => some (xr8, xσ6)) else bnd (F_X5_isThought (xa2) xσ1) (fun xr11 xσ9 => if (xr11) = 0 then bnd (F_X5_finding (xa0) (-1000001) xσ9) (fun xr15 xσ13 => some (xr15, xσ13)) else lo5 (F_X5_merryFor_b27) 1000 xa0 xa1 xa2 (-1) 0 xσ9)))
set_option maxHeartbeats 4000000 in
set_option maxRecDepth 20000 in
theorem b_X5_merryFor_27 {x : XT} {y : YT} {Z : State → Prop} (C : Cx x y (AY y) RX5 cX5_merryFor 5 rm_X5_merryFor) {r : Int32} {σ' : Sto} (hr : RetI x y (AY y) 5 cX5_merryFor Z r σ') (xk_27 : Nat → Int32 → Int32 → Int32 → Int32 → Sto → Option (Int32 × Sto)) (xH27 : ∀ (xa0 : Nat) (xa1 : Int32) (xa2 : Int32) (xa3 : Int32) (xa4 : Int32) (σ : Sto), xk_27 xa0 xa1 xa2 xa3 xa4 σ = some (r, σ') → GW x y (AY y) 5 Z 27 [(0, .ref (yad y (xa0))), (1, .int (xa1)), (2, .int (xa2)), (3, .int (xa3)), (4, .int (xa4))] [] σ) (xa0 : Nat) (xa1 : Int32) (xa2 : Int32) (xa3 : Int32) (xa4 : Int32) (σ : Sto) (h : F_X5_merryFor_b27 xk_27 xa0 xa1 xa2 xa3 xa4 σ = some (r, σ')) : GW x y (AY y) 5 Z 27 [(0, .ref (yad y (xa0))), (1, .int (xa1)), (2, .int (xa2)), (3, .int (xa3)), (4, .int (xa4))] [] σ := by
  unfold F_X5_merryFor_b27 at h
  refine g_iload (pc := 27) C dX5_merryFor_27 4 rfl ?_
  refine g_bipush (v := 9) (pc := 29) C dX5_merryFor_29 cb_9 ?_
  refine g_icmp_gt (pc := 31) C dX5_merryFor_31 (tgt := 63) rfl (fun xq1 => ?_) (fun xq1 => ?_)
  · have h := iP xq1 h
    refine g_aload_n (pc := 63) C dX5_merryFor_63 rfl 0 rfl ?_
    refine g_iload_n (pc := 64) C dX5_merryFor_64 rfl 3 rfl ?_
    obtain ⟨xq4, h⟩ := iC h
    have xq4 := keq xq4
    obtain ⟨xr5, xσ2, xc3, h⟩ := iB h
    refine g_callVi (pc := 65) (As := [.int (xa3)]) (rest := []) C dX5_merryFor_65 (fun l => c_X5_orNone l y _ _ _ _ _ xc3) cv_X5_181 ⟨rfl, rfl, Nat.le_of_ble_eq_true rfl, Nat.le_of_ble_eq_true rfl⟩ (rv5 xq4) rfl (Nat.le_of_ble_eq_true rfl) ?_
    exact rtI hr dX5_merryFor_68 h
  · have h := iN xq1 h
    refine g_aload_n (pc := 34) C dX5_merryFor_34 rfl 0 rfl ?_
    refine g_iload_n (pc := 35) C dX5_merryFor_35 rfl 1 rfl ?_
    refine g_iconst (v := 3) (pc := 36) C dX5_merryFor_36 ci_3 ?_
    obtain ⟨xr8, xσ6, xc7, h⟩ := iB h
    refine g_callSi (pc := 37) (As := [.int (xa1), .int (3)]) (rest := [.ref (yad y (xa0))]) C dX5_merryFor_37 (fun l => c_X5_sitterAt l y _ _ _ _ _ xc7) cv_X5_93 ⟨rfl, rfl, Nat.le_of_ble_eq_true rfl, Nat.le_of_ble_eq_true rfl⟩ rfl (Nat.le_of_ble_eq_true rfl) ?_
    refine g_iload (pc := 40) C dX5_merryFor_40 4 rfl ?_
    refine g_iload_n (pc := 42) C dX5_merryFor_42 rfl 1 rfl ?_
    refine g_iload_n (pc := 43) C dX5_merryFor_43 rfl 2 rfl ?_
    obtain ⟨xq11, h⟩ := iC h
    have xq11 := keq xq11
    obtain ⟨xr12, xσ9, xc10, h⟩ := iB h
    refine g_callVi (pc := 44) (As := [.int (xr8), .int (xa4), .int (xa1), .int (xa2)]) (rest := []) C dX5_merryFor_44 (fun l => c_X5_isTakenWith l y _ _ _ _ _ _ _ _ xc10) cv_X5_194 ⟨rfl, rfl, Nat.le_of_ble_eq_true rfl, Nat.le_of_ble_eq_true rfl⟩ (rv5 xq11) rfl (Nat.le_of_ble_eq_true rfl) ?_
    refine g_if_eq (pc := 47) C dX5_merryFor_47 (tgt := 55) rfl (fun xq13 => ?_) (fun xq13 => ?_)
    · have h := iP xq13 h
      refine g_iload_n (pc := 55) C dX5_merryFor_55 rfl 3 rfl ?_
      refine g_istore_n (i := 3) (lv' := [(3, .int (xa3)), (0, .ref (yad y (xa0))), (1, .int (xa1)), (2, .int (xa2)), (4, .int (xa4))]) (pc := 56) C dX5_merryFor_56 rfl (Nat.le_of_ble_eq_true rfl) rfl ?_
      refine g_iinc (lv' := [(4, .int (xa4 + 1)), (3, .int (xa3)), (0, .ref (yad y (xa0))), (1, .int (xa1)), (2, .int (xa2))]) (w := xa4 + 1) (pc := 57) C dX5_merryFor_57 (k := 4) rfl rfl (Nat.le_of_ble_eq_true rfl) rfl ?_
      refine g_goto (pc := 60) C dX5_merryFor_60 (tgt := 27) rfl ?_
      refine g_sub (lv' := [(0, .ref (yad y (xa0))), (1, .int (xa1)), (2, .int (xa2)), (3, .int (xa3)), (4, .int (xa4 + 1))]) C [2, 3, 4, 1, 0] rfl ?_
      exact xH27 xa0 xa1 xa2 xa3 (xa4 + 1) xσ9 h
    · have h := iN xq13 h
      refine g_iload (pc := 50) C dX5_merryFor_50 4 rfl ?_
      refine g_goto (pc := 52) C dX5_merryFor_52 (tgt := 56) rfl ?_
      refine g_istore_n (i := 3) (lv' := [(3, .int (xa4)), (0, .ref (yad y (xa0))), (1, .int (xa1)), (2, .int (xa2)), (4, .int (xa4))]) (pc := 56) C dX5_merryFor_56 rfl (Nat.le_of_ble_eq_true rfl) rfl ?_
      refine g_iinc (lv' := [(4, .int (xa4 + 1)), (3, .int (xa4)), (0, .ref (yad y (xa0))), (1, .int (xa1)), (2, .int (xa2))]) (w := xa4 + 1) (pc := 57) C dX5_merryFor_57 (k := 4) rfl rfl (Nat.le_of_ble_eq_true rfl) rfl ?_
      refine g_goto (pc := 60) C dX5_merryFor_60 (tgt := 27) rfl ?_
      refine g_sub (lv' := [(0, .ref (yad y (xa0))), (1, .int (xa1)), (2, .int (xa2)), (3, .int (xa4)), (4, .int (xa4 + 1))]) C [2, 3, 4, 1, 0] rfl ?_
      exact xH27 xa0 xa1 xa2 xa4 (xa4 + 1) xσ9 h
theorem l_X5_merryFor_27 {x : XT} {y : YT} {Z : State → Prop} (C : Cx x y (AY y) RX5 cX5_merryFor 5 rm_X5_merryFor) {r : Int32} {σ' : Sto} (hr : RetI x y (AY y) 5 cX5_merryFor Z r σ') (n : Nat) (xa0 : Nat) (xa1 : Int32) (xa2 : Int32) (xa3 : Int32) (xa4 : Int32) (σ : Sto) (h : lo5 (F_X5_merryFor_b27) n xa0 xa1 xa2 xa3 xa4 σ = some (r, σ')) : GW x y (AY y) 5 Z 27 [(0, .ref (yad y (xa0))), (1, .int (xa1)), (2, .int (xa2)), (3, .int (xa3)), (4, .int (xa4))] [] σ :=
  lo5_gw (G := fun xa0 xa1 xa2 xa3 xa4 σ => GW x y (AY y) 5 Z 27 [(0, .ref (yad y (xa0))), (1, .int (xa1)), (2, .int (xa2)), (3, .int (xa3)), (4, .int (xa4))] [] σ) (fun xk xHk xa0 xa1 xa2 xa3 xa4 σ h => b_X5_merryFor_27 C hr xk xHk xa0 xa1 xa2 xa3 xa4 σ h) n xa0 xa1 xa2 xa3 xa4 σ h
set_option maxHeartbeats 4000000 in
set_option maxRecDepth 20000 in
theorem b_X5_merryFor_0 {x : XT} {y : YT} {Z : State → Prop} (C : Cx x y (AY y) RX5 cX5_merryFor 5 rm_X5_merryFor) {r : Int32} {σ' : Sto} (hr : RetI x y (AY y) 5 cX5_merryFor Z r σ') (xa0 : Nat) (xa1 : Int32) (xa2 : Int32) (σ : Sto) (h : F_X5_merryFor xa0 xa1 xa2 σ = some (r, σ')) : GW x y (AY y) 5 Z 0 [(0, .ref (yad y (xa0))), (1, .int (xa1)), (2, .int (xa2))] [] σ := by
  unfold F_X5_merryFor at h
  refine g_aload_n (pc := 0) C dX5_merryFor_0 rfl 0 rfl ?_
  refine g_iload_n (pc := 1) C dX5_merryFor_1 rfl 1 rfl ?_
  obtain ⟨xq3, h⟩ := iC h
  have xq3 := keq xq3
  obtain ⟨xr4, xσ1, xc2, h⟩ := iB h
  refine g_callVi (pc := 2) (As := [.int (xa1)]) (rest := []) C dX5_merryFor_2 (fun l => c_X5_isSitter l y _ _ _ _ _ xc2) cv_X5_83 ⟨rfl, rfl, Nat.le_of_ble_eq_true rfl, Nat.le_of_ble_eq_true rfl⟩ (rv5 xq3) rfl (Nat.le_of_ble_eq_true rfl) ?_
  refine g_if_eq (pc := 5) C dX5_merryFor_5 (tgt := 15) rfl (fun xq5 => ?_) (fun xq5 => ?_)
  · have h := iP xq5 h
    refine g_aload_n (pc := 15) C dX5_merryFor_15 rfl 0 rfl ?_
    refine g_ldc (v := (-1000001)) (pc := 16) C dX5_merryFor_16 wk_X5_60 ?_
    obtain ⟨xr8, xσ6, xc7, h⟩ := iB h
    refine g_callVi (pc := 18) (As := [.int ((-1000001))]) (rest := []) C dX5_merryFor_18 (fun l => c_X5_finding l y _ _ _ _ _ xc7) cv_X5_66 ⟨rfl, rfl, Nat.le_of_ble_eq_true rfl, Nat.le_of_ble_eq_true rfl⟩ (rv5 xq3) rfl (Nat.le_of_ble_eq_true rfl) ?_
    exact rtI hr dX5_merryFor_21 h
  · have h := iN xq5 h
    refine g_iload_n (pc := 8) C dX5_merryFor_8 rfl 2 rfl ?_
    obtain ⟨xr11, xσ9, xc10, h⟩ := iB h
    refine g_callSi (pc := 9) (As := [.int (xa2)]) (rest := []) C dX5_merryFor_9 (fun l => c_X5_isThought l y _ _ _ _ xc10) cv_X5_191 ⟨rfl, rfl, Nat.le_of_ble_eq_true rfl, Nat.le_of_ble_eq_true rfl⟩ rfl (Nat.le_of_ble_eq_true rfl) ?_
    refine g_if_ne (pc := 12) C dX5_merryFor_12 (tgt := 22) rfl (fun xq12 => ?_) (fun xq12 => ?_)
    · have h := iN xq12 h
      refine g_iconst (v := (-1)) (pc := 22) C dX5_merryFor_22 ci_m1 ?_
      refine g_istore_n (i := 3) (lv' := [(3, .int ((-1))), (0, .ref (yad y (xa0))), (1, .int (xa1)), (2, .int (xa2))]) (pc := 23) C dX5_merryFor_23 rfl (Nat.le_of_ble_eq_true rfl) rfl ?_
      refine g_iconst (v := 0) (pc := 24) C dX5_merryFor_24 ci_0 ?_
      refine g_istore (i := 4) (lv' := [(4, .int (0)), (3, .int ((-1))), (0, .ref (yad y (xa0))), (1, .int (xa1)), (2, .int (xa2))]) (pc := 25) C dX5_merryFor_25 (Nat.le_of_ble_eq_true rfl) rfl ?_
      refine g_sub (lv' := [(0, .ref (yad y (xa0))), (1, .int (xa1)), (2, .int (xa2)), (3, .int ((-1))), (4, .int (0))]) C [2, 3, 4, 1, 0] rfl ?_
      exact l_X5_merryFor_27 C hr 1000 xa0 xa1 xa2 (-1) 0 xσ9 h
    · have h := iP xq12 h
      refine g_aload_n (pc := 15) C dX5_merryFor_15 rfl 0 rfl ?_
      refine g_ldc (v := (-1000001)) (pc := 16) C dX5_merryFor_16 wk_X5_60 ?_
      obtain ⟨xr15, xσ13, xc14, h⟩ := iB h
      refine g_callVi (pc := 18) (As := [.int ((-1000001))]) (rest := []) C dX5_merryFor_18 (fun l => c_X5_finding l y _ _ _ _ _ xc14) cv_X5_66 ⟨rfl, rfl, Nat.le_of_ble_eq_true rfl, Nat.le_of_ble_eq_true rfl⟩ (rv5 xq3) rfl (Nat.le_of_ble_eq_true rfl) ?_
      exact rtI hr dX5_merryFor_21 h
theorem c_X5_merryFor (l : Launch) (y : YT) (xa0 : Nat) (xa1 : Int32) (xa2 : Int32) (σ σ' : Sto) (r : Int32) (h : F_X5_merryFor xa0 xa1 xa2 σ = some (r, σ')) : MI l y yX5_merryFor (Cond.code yX5_merryFor cX5_merryFor 5 (some .int) :: TT) rm_X5_merryFor [.ref (yad y (xa0)), .int (xa1), .int (xa2)] σ r σ' :=
  mkI (by decide) rfl rfl rfl (Nat.le_of_ble_eq_true rfl) (fun x Z C hr => b_X5_merryFor_0 C hr xa0 xa1 xa2 σ h)
def rm_X5_takenWith : Room := { frames := 9, cells := 0, slots := 0, locals := 200 }
def F_X5_takenWith (xa0 : Nat) (xa1 : Int32) (xa2 : Int32) (xa3 : Int32) (xa4 : Int32) (σ : Sto) : Option (Int32 × Sto) := ck (kd (xa0) == 5) (bnd (F_X5_become (xa0) (xa1) (xa2) σ) (fun xr4 xσ1 => bnd (F_X5_sitterAt (xa3) 5 xσ1) (fun xr7 xσ5 => bnd (F_X5_behind (xa0) (xr7) (xa4) xσ5) (fun xr10 xσ8 => ck (inr (xa1) (79)) (lts (up2 xσ8 50 (xa1.toNatClampNeg) (xr4)) (fun xσ12 => some (xr10, xσ12)))))))
set_option maxHeartbeats 4000000 in
set_option maxRecDepth 20000 in
theorem b_X5_takenWith_0 {x : XT} {y : YT} {Z : State → Prop} (C : Cx x y (AY y) RX5 cX5_takenWith 7 rm_X5_takenWith) {r : Int32} {σ' : Sto} (hr : RetI x y (AY y) 7 cX5_takenWith Z r σ') (xa0 : Nat) (xa1 : Int32) (xa2 : Int32) (xa3 : Int32) (xa4 : Int32) (σ : Sto) (h : F_X5_takenWith xa0 xa1 xa2 xa3 xa4 σ = some (r, σ')) : GW x y (AY y) 7 Z 0 [(0, .ref (yad y (xa0))), (1, .int (xa1)), (2, .int (xa2)), (3, .int (xa3)), (4, .int (xa4))] [] σ := by
  unfold F_X5_takenWith at h
  refine g_aload_n (pc := 0) C dX5_takenWith_0 rfl 0 rfl ?_
  refine g_iload_n (pc := 1) C dX5_takenWith_1 rfl 1 rfl ?_
  refine g_iload_n (pc := 2) C dX5_takenWith_2 rfl 2 rfl ?_
  obtain ⟨xq3, h⟩ := iC h
  have xq3 := keq xq3
  obtain ⟨xr4, xσ1, xc2, h⟩ := iB h
  refine g_callVi (pc := 3) (As := [.int (xa1), .int (xa2)]) (rest := []) C dX5_takenWith_3 (fun l => c_X5_become l y _ _ _ _ _ _ xc2) cv_X5_79 ⟨rfl, rfl, Nat.le_of_ble_eq_true rfl, Nat.le_of_ble_eq_true rfl⟩ (rv5 xq3) rfl (Nat.le_of_ble_eq_true rfl) ?_
  refine g_istore (i := 5) (lv' := [(5, .int (xr4)), (0, .ref (yad y (xa0))), (1, .int (xa1)), (2, .int (xa2)), (3, .int (xa3)), (4, .int (xa4))]) (pc := 6) C dX5_takenWith_6 (Nat.le_of_ble_eq_true rfl) rfl ?_
  refine g_aload_n (pc := 8) C dX5_takenWith_8 rfl 1 rfl ?_
  refine g_iload_n (pc := 9) C dX5_takenWith_9 rfl 4 rfl ?_
  refine g_iconst (v := 5) (pc := 10) C dX5_takenWith_10 ci_5 ?_
  obtain ⟨xr7, xσ5, xc6, h⟩ := iB h
  refine g_callSi (pc := 11) (As := [.int (xa3), .int (5)]) (rest := [.ref (yad y (xa0))]) C dX5_takenWith_11 (fun l => c_X5_sitterAt l y _ _ _ _ _ xc6) cv_X5_93 ⟨rfl, rfl, Nat.le_of_ble_eq_true rfl, Nat.le_of_ble_eq_true rfl⟩ rfl (Nat.le_of_ble_eq_true rfl) ?_
  refine g_iload (pc := 14) C dX5_takenWith_14 5 rfl ?_
  obtain ⟨xr10, xσ8, xc9, h⟩ := iB h
  refine g_callVi (pc := 16) (As := [.int (xr7), .int (xa4)]) (rest := []) C dX5_takenWith_16 (fun l => c_X5_behind l y _ _ _ _ _ _ xc9) cv_X5_178 ⟨rfl, rfl, Nat.le_of_ble_eq_true rfl, Nat.le_of_ble_eq_true rfl⟩ (rv5 xq3) rfl (Nat.le_of_ble_eq_true rfl) ?_
  refine g_istore (i := 6) (lv' := [(6, .int (xr10)), (5, .int (xr4)), (0, .ref (yad y (xa0))), (1, .int (xa1)), (2, .int (xa2)), (3, .int (xa3)), (4, .int (xa4))]) (pc := 19) C dX5_takenWith_19 (Nat.le_of_ble_eq_true rfl) rfl ?_
  refine g_aload_n (pc := 21) C dX5_takenWith_21 rfl 2 rfl ?_
  refine gf_5_0 (pc := 22) C wf_X5_9 dX5_takenWith_22 xq3 ?_
  refine g_iload_n (pc := 25) C dX5_takenWith_25 rfl 3 rfl ?_
  refine g_iload (pc := 26) C dX5_takenWith_26 1 rfl ?_
  obtain ⟨xq11, h⟩ := iC h
  refine g_iast (pc := 28) C dX5_takenWith_28 rfl (ivp xq11 rfl) (j := xa1.toNatClampNeg) rfl ?_
  refine g_letS h (fun xσ12 h => ?_)
  refine g_iload (pc := 29) C dX5_takenWith_29 0 rfl ?_
  exact rtI hr dX5_takenWith_31 h
theorem c_X5_takenWith (l : Launch) (y : YT) (xa0 : Nat) (xa1 : Int32) (xa2 : Int32) (xa3 : Int32) (xa4 : Int32) (σ σ' : Sto) (r : Int32) (h : F_X5_takenWith xa0 xa1 xa2 xa3 xa4 σ = some (r, σ')) : MI l y yX5_takenWith (Cond.code yX5_takenWith cX5_takenWith 7 (some .int) :: TT) rm_X5_takenWith [.ref (yad y (xa0)), .int (xa1), .int (xa2), .int (xa3), .int (xa4)] σ r σ' :=
  mkI (by decide) rfl rfl rfl (Nat.le_of_ble_eq_true rfl) (fun x Z C hr => b_X5_takenWith_0 C hr xa0 xa1 xa2 xa3 xa4 σ h)
def rm_X5_turnFor : Room := { frames := 10, cells := 0, slots := 0, locals := 226 }
def F_X5_turnFor_b64 (xk_30 : Nat → Int32 → Int32 → Int32 → Int32 → Int32 → Sto → Option (Int32 × Sto)) (xa0 : Nat) (xa1 : Int32) (xa2 : Int32) (xa4 : Int32) (xa5 : Int32) (xa6 : Int32) (xs0 : Int32) (σ : Sto) : Option (Int32 × Sto) := lti (imax xa4 xa6) (fun xv1 => xk_30 xa0 xa1 xa2 xs0 xv1 (xa5 + 1) σ)
def F_X5_turnFor_b30 (xk_30 : Nat → Int32 → Int32 → Int32 → Int32 → Int32 → Sto → Option (Int32 × Sto)) (xa0 : Nat) (xa1 : Int32) (xa2 : Int32) (xa3 : Int32) (xa4 : Int32) (xa5 : Int32) (σ : Sto) : Option (Int32 × Sto) := if 6 ≤ xa5 then some (xa3, σ) else ck (kd (xa0) == 5) (bnd (F_X5_takenWith (xa0) (17 + xa5) (xa1) (xa1) (xa2) σ) (fun xr5 xσ2 => if xr5 ≤ xa4 then F_X5_turnFor_b64 xk_30 xa0 xa1 xa2 xa4 xa5 xr5 xa3 xσ2 else F_X5_turnFor_b64 xk_30 xa0 xa1 xa2 xa4 xa5 xr5 xa5 xσ2))
def F_X5_turnFor (xa0 : Nat) (xa1 : Int32) (xa2 : Int32) (σ : Sto) : Option (Int32 × Sto) := ck (kd (xa0) == 5) (bnd (F_X5_isSitter (xa0) (xa1) σ) (fun xr4 xσ1 => if (xr4) = 0 then bnd (F_X5_finding (xa0) (-1000001) xσ1) (fun xr8 xσ6 => some (xr8, xσ6)) else bnd (F_X5_isThought (xa2) xσ1) (fun xr11 xσ9 => if (xr11) = 0 then bnd (F_X5_finding (xa0) (-1000001) xσ9) (fun xr15 xσ13 => some (xr15, xσ13)) else lo6 (F_X5_turnFor_b30) 1000 xa0 xa1 xa2 0 (-1) 0 xσ9)))
set_option maxHeartbeats 4000000 in
set_option maxRecDepth 20000 in
theorem b_X5_turnFor_64 {x : XT} {y : YT} {Z : State → Prop} (C : Cx x y (AY y) RX5 cX5_turnFor 7 rm_X5_turnFor) {r : Int32} {σ' : Sto} (hr : RetI x y (AY y) 7 cX5_turnFor Z r σ') (xk_30 : Nat → Int32 → Int32 → Int32 → Int32 → Int32 → Sto → Option (Int32 × Sto)) (xH30 : ∀ (xa0 : Nat) (xa1 : Int32) (xa2 : Int32) (xa3 : Int32) (xa4 : Int32) (xa5 : Int32) (σ : Sto), xk_30 xa0 xa1 xa2 xa3 xa4 xa5 σ = some (r, σ') → GW x y (AY y) 7 Z 30 [(0, .ref (yad y (xa0))), (1, .int (xa1)), (2, .int (xa2)), (3, .int (xa3)), (4, .int (xa4)), (5, .int (xa5))] [] σ) (xa0 : Nat) (xa1 : Int32) (xa2 : Int32) (xa4 : Int32) (xa5 : Int32) (xa6 : Int32) (xs0 : Int32) (σ : Sto) (h : F_X5_turnFor_b64 xk_30 xa0 xa1 xa2 xa4 xa5 xa6 xs0 σ = some (r, σ')) : GW x y (AY y) 7 Z 64 [(0, .ref (yad y (xa0))), (1, .int (xa1)), (2, .int (xa2)), (4, .int (xa4)), (5, .int (xa5)), (6, .int (xa6))] [.int (xs0)] σ := by
  unfold F_X5_turnFor_b64 at h
  refine g_istore_n (i := 3) (lv' := [(3, .int (xs0)), (0, .ref (yad y (xa0))), (1, .int (xa1)), (2, .int (xa2)), (4, .int (xa4)), (5, .int (xa5)), (6, .int (xa6))]) (pc := 64) C dX5_turnFor_64 rfl (Nat.le_of_ble_eq_true rfl) rfl ?_
  refine g_iload (pc := 65) C dX5_turnFor_65 4 rfl ?_
  refine g_iload (pc := 67) C dX5_turnFor_67 6 rfl ?_
  refine g_mmax (pc := 69) C dX5_turnFor_69 wm_X5_142 wt_max wn_Math wc_max (Nat.le_of_ble_eq_true rfl) (Nat.le_of_ble_eq_true rfl) ?_
  refine g_letI h (fun xv1 h => ?_)
  refine g_istore (i := 4) (lv' := [(4, .int (xv1)), (3, .int (xs0)), (0, .ref (yad y (xa0))), (1, .int (xa1)), (2, .int (xa2)), (5, .int (xa5)), (6, .int (xa6))]) (pc := 72) C dX5_turnFor_72 (Nat.le_of_ble_eq_true rfl) rfl ?_
  refine g_iinc (lv' := [(5, .int (xa5 + 1)), (4, .int (xv1)), (3, .int (xs0)), (0, .ref (yad y (xa0))), (1, .int (xa1)), (2, .int (xa2)), (6, .int (xa6))]) (w := xa5 + 1) (pc := 74) C dX5_turnFor_74 (k := 5) rfl rfl (Nat.le_of_ble_eq_true rfl) rfl ?_
  refine g_goto (pc := 77) C dX5_turnFor_77 (tgt := 30) rfl ?_
  refine g_sub (lv' := [(0, .ref (yad y (xa0))), (1, .int (xa1)), (2, .int (xa2)), (3, .int (xs0)), (4, .int (xv1)), (5, .int (xa5 + 1))]) C [3, 4, 5, 2, 1, 0] rfl ?_
  exact xH30 xa0 xa1 xa2 xs0 xv1 (xa5 + 1) σ h
set_option maxHeartbeats 4000000 in
set_option maxRecDepth 20000 in
theorem b_X5_turnFor_30 {x : XT} {y : YT} {Z : State → Prop} (C : Cx x y (AY y) RX5 cX5_turnFor 7 rm_X5_turnFor) {r : Int32} {σ' : Sto} (hr : RetI x y (AY y) 7 cX5_turnFor Z r σ') (xk_30 : Nat → Int32 → Int32 → Int32 → Int32 → Int32 → Sto → Option (Int32 × Sto)) (xH30 : ∀ (xa0 : Nat) (xa1 : Int32) (xa2 : Int32) (xa3 : Int32) (xa4 : Int32) (xa5 : Int32) (σ : Sto), xk_30 xa0 xa1 xa2 xa3 xa4 xa5 σ = some (r, σ') → GW x y (AY y) 7 Z 30 [(0, .ref (yad y (xa0))), (1, .int (xa1)), (2, .int (xa2)), (3, .int (xa3)), (4, .int (xa4)), (5, .int (xa5))] [] σ) (xa0 : Nat) (xa1 : Int32) (xa2 : Int32) (xa3 : Int32) (xa4 : Int32) (xa5 : Int32) (σ : Sto) (h : F_X5_turnFor_b30 xk_30 xa0 xa1 xa2 xa3 xa4 xa5 σ = some (r, σ')) : GW x y (AY y) 7 Z 30 [(0, .ref (yad y (xa0))), (1, .int (xa1)), (2, .int (xa2)), (3, .int (xa3)), (4, .int (xa4)), (5, .int (xa5))] [] σ := by
  unfold F_X5_turnFor_b30 at h
  refine g_iload (pc := 30) C dX5_turnFor_30 5 rfl ?_
  refine g_bipush (v := 6) (pc := 32) C dX5_turnFor_32 cb_6 ?_
  refine g_icmp_ge (pc := 34) C dX5_turnFor_34 (tgt := 80) rfl (fun xq1 => ?_) (fun xq1 => ?_)
  · have h := iP xq1 h
    refine g_iload_n (pc := 80) C dX5_turnFor_80 rfl 3 rfl ?_
    exact rtI hr dX5_turnFor_81 h
  · have h := iN xq1 h
    refine g_aload_n (pc := 37) C dX5_turnFor_37 rfl 0 rfl ?_
    refine g_bipush (v := 17) (pc := 38) C dX5_turnFor_38 cb_17 ?_
    refine g_iload (pc := 40) C dX5_turnFor_40 5 rfl ?_
    refine g_iadd (pc := 42) C dX5_turnFor_42 ?_
    refine g_iload_n (pc := 43) C dX5_turnFor_43 rfl 1 rfl ?_
    refine g_iload_n (pc := 44) C dX5_turnFor_44 rfl 1 rfl ?_
    refine g_iload_n (pc := 45) C dX5_turnFor_45 rfl 2 rfl ?_
    obtain ⟨xq4, h⟩ := iC h
    have xq4 := keq xq4
    obtain ⟨xr5, xσ2, xc3, h⟩ := iB h
    refine g_callVi (pc := 46) (As := [.int (17 + xa5), .int (xa1), .int (xa1), .int (xa2)]) (rest := []) C dX5_turnFor_46 (fun l => c_X5_takenWith l y _ _ _ _ _ _ _ _ xc3) cv_X5_198 ⟨rfl, rfl, Nat.le_of_ble_eq_true rfl, Nat.le_of_ble_eq_true rfl⟩ (rv5 xq4) rfl (Nat.le_of_ble_eq_true rfl) ?_
    refine g_istore (i := 6) (lv' := [(6, .int (xr5)), (0, .ref (yad y (xa0))), (1, .int (xa1)), (2, .int (xa2)), (3, .int (xa3)), (4, .int (xa4)), (5, .int (xa5))]) (pc := 49) C dX5_turnFor_49 (Nat.le_of_ble_eq_true rfl) rfl ?_
    refine g_iload (pc := 51) C dX5_turnFor_51 0 rfl ?_
    refine g_iload (pc := 53) C dX5_turnFor_53 5 rfl ?_
    refine g_icmp_le (pc := 55) C dX5_turnFor_55 (tgt := 63) rfl (fun xq6 => ?_) (fun xq6 => ?_)
    · have h := iP xq6 h
      refine g_iload_n (pc := 63) C dX5_turnFor_63 rfl 4 rfl ?_
      refine g_sub (lv' := [(0, .ref (yad y (xa0))), (1, .int (xa1)), (2, .int (xa2)), (4, .int (xa4)), (5, .int (xa5)), (6, .int (xr5))]) C [1, 2, 3, 5, 6, 0] rfl ?_
      exact b_X5_turnFor_64 C hr xk_30 xH30 xa0 xa1 xa2 xa4 xa5 xr5 xa3 xσ2 h
    · have h := iN xq6 h
      refine g_iload (pc := 58) C dX5_turnFor_58 6 rfl ?_
      refine g_goto (pc := 60) C dX5_turnFor_60 (tgt := 64) rfl ?_
      refine g_sub (lv' := [(0, .ref (yad y (xa0))), (1, .int (xa1)), (2, .int (xa2)), (4, .int (xa4)), (5, .int (xa5)), (6, .int (xr5))]) C [1, 2, 3, 5, 6, 0] rfl ?_
      exact b_X5_turnFor_64 C hr xk_30 xH30 xa0 xa1 xa2 xa4 xa5 xr5 xa5 xσ2 h
theorem l_X5_turnFor_30 {x : XT} {y : YT} {Z : State → Prop} (C : Cx x y (AY y) RX5 cX5_turnFor 7 rm_X5_turnFor) {r : Int32} {σ' : Sto} (hr : RetI x y (AY y) 7 cX5_turnFor Z r σ') (n : Nat) (xa0 : Nat) (xa1 : Int32) (xa2 : Int32) (xa3 : Int32) (xa4 : Int32) (xa5 : Int32) (σ : Sto) (h : lo6 (F_X5_turnFor_b30) n xa0 xa1 xa2 xa3 xa4 xa5 σ = some (r, σ')) : GW x y (AY y) 7 Z 30 [(0, .ref (yad y (xa0))), (1, .int (xa1)), (2, .int (xa2)), (3, .int (xa3)), (4, .int (xa4)), (5, .int (xa5))] [] σ :=
  lo6_gw (G := fun xa0 xa1 xa2 xa3 xa4 xa5 σ => GW x y (AY y) 7 Z 30 [(0, .ref (yad y (xa0))), (1, .int (xa1)), (2, .int (xa2)), (3, .int (xa3)), (4, .int (xa4)), (5, .int (xa5))] [] σ) (fun xk xHk xa0 xa1 xa2 xa3 xa4 xa5 σ h => b_X5_turnFor_30 C hr xk xHk xa0 xa1 xa2 xa3 xa4 xa5 σ h) n xa0 xa1 xa2 xa3 xa4 xa5 σ h
set_option maxHeartbeats 4000000 in
set_option maxRecDepth 20000 in
theorem b_X5_turnFor_0 {x : XT} {y : YT} {Z : State → Prop} (C : Cx x y (AY y) RX5 cX5_turnFor 7 rm_X5_turnFor) {r : Int32} {σ' : Sto} (hr : RetI x y (AY y) 7 cX5_turnFor Z r σ') (xa0 : Nat) (xa1 : Int32) (xa2 : Int32) (σ : Sto) (h : F_X5_turnFor xa0 xa1 xa2 σ = some (r, σ')) : GW x y (AY y) 7 Z 0 [(0, .ref (yad y (xa0))), (1, .int (xa1)), (2, .int (xa2))] [] σ := by
  unfold F_X5_turnFor at h
  refine g_aload_n (pc := 0) C dX5_turnFor_0 rfl 0 rfl ?_
  refine g_iload_n (pc := 1) C dX5_turnFor_1 rfl 1 rfl ?_
  obtain ⟨xq3, h⟩ := iC h
  have xq3 := keq xq3
  obtain ⟨xr4, xσ1, xc2, h⟩ := iB h
  refine g_callVi (pc := 2) (As := [.int (xa1)]) (rest := []) C dX5_turnFor_2 (fun l => c_X5_isSitter l y _ _ _ _ _ xc2) cv_X5_83 ⟨rfl, rfl, Nat.le_of_ble_eq_true rfl, Nat.le_of_ble_eq_true rfl⟩ (rv5 xq3) rfl (Nat.le_of_ble_eq_true rfl) ?_
  refine g_if_eq (pc := 5) C dX5_turnFor_5 (tgt := 15) rfl (fun xq5 => ?_) (fun xq5 => ?_)
  · have h := iP xq5 h
    refine g_aload_n (pc := 15) C dX5_turnFor_15 rfl 0 rfl ?_
    refine g_ldc (v := (-1000001)) (pc := 16) C dX5_turnFor_16 wk_X5_60 ?_
    obtain ⟨xr8, xσ6, xc7, h⟩ := iB h
    refine g_callVi (pc := 18) (As := [.int ((-1000001))]) (rest := []) C dX5_turnFor_18 (fun l => c_X5_finding l y _ _ _ _ _ xc7) cv_X5_66 ⟨rfl, rfl, Nat.le_of_ble_eq_true rfl, Nat.le_of_ble_eq_true rfl⟩ (rv5 xq3) rfl (Nat.le_of_ble_eq_true rfl) ?_
    exact rtI hr dX5_turnFor_21 h
  · have h := iN xq5 h
    refine g_iload_n (pc := 8) C dX5_turnFor_8 rfl 2 rfl ?_
    obtain ⟨xr11, xσ9, xc10, h⟩ := iB h
    refine g_callSi (pc := 9) (As := [.int (xa2)]) (rest := []) C dX5_turnFor_9 (fun l => c_X5_isThought l y _ _ _ _ xc10) cv_X5_191 ⟨rfl, rfl, Nat.le_of_ble_eq_true rfl, Nat.le_of_ble_eq_true rfl⟩ rfl (Nat.le_of_ble_eq_true rfl) ?_
    refine g_if_ne (pc := 12) C dX5_turnFor_12 (tgt := 22) rfl (fun xq12 => ?_) (fun xq12 => ?_)
    · have h := iN xq12 h
      refine g_iconst (v := 0) (pc := 22) C dX5_turnFor_22 ci_0 ?_
      refine g_istore_n (i := 3) (lv' := [(3, .int (0)), (0, .ref (yad y (xa0))), (1, .int (xa1)), (2, .int (xa2))]) (pc := 23) C dX5_turnFor_23 rfl (Nat.le_of_ble_eq_true rfl) rfl ?_
      refine g_iconst (v := (-1)) (pc := 24) C dX5_turnFor_24 ci_m1 ?_
      refine g_istore (i := 4) (lv' := [(4, .int ((-1))), (3, .int (0)), (0, .ref (yad y (xa0))), (1, .int (xa1)), (2, .int (xa2))]) (pc := 25) C dX5_turnFor_25 (Nat.le_of_ble_eq_true rfl) rfl ?_
      refine g_iconst (v := 0) (pc := 27) C dX5_turnFor_27 ci_0 ?_
      refine g_istore (i := 5) (lv' := [(5, .int (0)), (4, .int ((-1))), (3, .int (0)), (0, .ref (yad y (xa0))), (1, .int (xa1)), (2, .int (xa2))]) (pc := 28) C dX5_turnFor_28 (Nat.le_of_ble_eq_true rfl) rfl ?_
      refine g_sub (lv' := [(0, .ref (yad y (xa0))), (1, .int (xa1)), (2, .int (xa2)), (3, .int (0)), (4, .int ((-1))), (5, .int (0))]) C [3, 4, 5, 2, 1, 0] rfl ?_
      exact l_X5_turnFor_30 C hr 1000 xa0 xa1 xa2 0 (-1) 0 xσ9 h
    · have h := iP xq12 h
      refine g_aload_n (pc := 15) C dX5_turnFor_15 rfl 0 rfl ?_
      refine g_ldc (v := (-1000001)) (pc := 16) C dX5_turnFor_16 wk_X5_60 ?_
      obtain ⟨xr15, xσ13, xc14, h⟩ := iB h
      refine g_callVi (pc := 18) (As := [.int ((-1000001))]) (rest := []) C dX5_turnFor_18 (fun l => c_X5_finding l y _ _ _ _ _ xc14) cv_X5_66 ⟨rfl, rfl, Nat.le_of_ble_eq_true rfl, Nat.le_of_ble_eq_true rfl⟩ (rv5 xq3) rfl (Nat.le_of_ble_eq_true rfl) ?_
      exact rtI hr dX5_turnFor_21 h
theorem c_X5_turnFor (l : Launch) (y : YT) (xa0 : Nat) (xa1 : Int32) (xa2 : Int32) (σ σ' : Sto) (r : Int32) (h : F_X5_turnFor xa0 xa1 xa2 σ = some (r, σ')) : MI l y yX5_turnFor (Cond.code yX5_turnFor cX5_turnFor 7 (some .int) :: TT) rm_X5_turnFor [.ref (yad y (xa0)), .int (xa1), .int (xa2)] σ r σ' :=
  mkI (by decide) rfl rfl rfl (Nat.le_of_ble_eq_true rfl) (fun x Z C hr => b_X5_turnFor_0 C hr xa0 xa1 xa2 σ h)
def rm_X5_kindFor : Room := { frames := 10, cells := 0, slots := 0, locals := 226 }
def F_X5_kindFor_b65 (xk_30 : Nat → Int32 → Int32 → Int32 → Int32 → Int32 → Sto → Option (Int32 × Sto)) (xa0 : Nat) (xa1 : Int32) (xa2 : Int32) (xa4 : Int32) (xa5 : Int32) (xa6 : Int32) (xs0 : Int32) (σ : Sto) : Option (Int32 × Sto) := lti (imax xa4 xa6) (fun xv1 => xk_30 xa0 xa1 xa2 xs0 xv1 (xa5 + 1) σ)
def F_X5_kindFor_b30 (xk_30 : Nat → Int32 → Int32 → Int32 → Int32 → Int32 → Sto → Option (Int32 × Sto)) (xa0 : Nat) (xa1 : Int32) (xa2 : Int32) (xa3 : Int32) (xa4 : Int32) (xa5 : Int32) (σ : Sto) : Option (Int32 × Sto) := if 6 < xa5 then some (xa3, σ) else bnd (F_X5_sitterAt (xa1) 0 σ) (fun xr4 xσ2 => ck (kd (xa0) == 5) (bnd (F_X5_takenWith (xa0) (xr4) (xa5) (xa1) (xa2) xσ2) (fun xr8 xσ5 => if xr8 ≤ xa4 then F_X5_kindFor_b65 xk_30 xa0 xa1 xa2 xa4 xa5 xr8 xa3 xσ5 else F_X5_kindFor_b65 xk_30 xa0 xa1 xa2 xa4 xa5 xr8 xa5 xσ5)))
def F_X5_kindFor (xa0 : Nat) (xa1 : Int32) (xa2 : Int32) (σ : Sto) : Option (Int32 × Sto) := ck (kd (xa0) == 5) (bnd (F_X5_isSitter (xa0) (xa1) σ) (fun xr4 xσ1 => if (xr4) = 0 then bnd (F_X5_finding (xa0) (-1000001) xσ1) (fun xr8 xσ6 => some (xr8, xσ6)) else bnd (F_X5_isThought (xa2) xσ1) (fun xr11 xσ9 => if (xr11) = 0 then bnd (F_X5_finding (xa0) (-1000001) xσ9) (fun xr15 xσ13 => some (xr15, xσ13)) else lo6 (F_X5_kindFor_b30) 1000 xa0 xa1 xa2 0 (-1) 0 xσ9)))
set_option maxHeartbeats 4000000 in
set_option maxRecDepth 20000 in
theorem b_X5_kindFor_65 {x : XT} {y : YT} {Z : State → Prop} (C : Cx x y (AY y) RX5 cX5_kindFor 7 rm_X5_kindFor) {r : Int32} {σ' : Sto} (hr : RetI x y (AY y) 7 cX5_kindFor Z r σ') (xk_30 : Nat → Int32 → Int32 → Int32 → Int32 → Int32 → Sto → Option (Int32 × Sto)) (xH30 : ∀ (xa0 : Nat) (xa1 : Int32) (xa2 : Int32) (xa3 : Int32) (xa4 : Int32) (xa5 : Int32) (σ : Sto), xk_30 xa0 xa1 xa2 xa3 xa4 xa5 σ = some (r, σ') → GW x y (AY y) 7 Z 30 [(0, .ref (yad y (xa0))), (1, .int (xa1)), (2, .int (xa2)), (3, .int (xa3)), (4, .int (xa4)), (5, .int (xa5))] [] σ) (xa0 : Nat) (xa1 : Int32) (xa2 : Int32) (xa4 : Int32) (xa5 : Int32) (xa6 : Int32) (xs0 : Int32) (σ : Sto) (h : F_X5_kindFor_b65 xk_30 xa0 xa1 xa2 xa4 xa5 xa6 xs0 σ = some (r, σ')) : GW x y (AY y) 7 Z 65 [(0, .ref (yad y (xa0))), (1, .int (xa1)), (2, .int (xa2)), (4, .int (xa4)), (5, .int (xa5)), (6, .int (xa6))] [.int (xs0)] σ := by
  unfold F_X5_kindFor_b65 at h
  refine g_istore_n (i := 3) (lv' := [(3, .int (xs0)), (0, .ref (yad y (xa0))), (1, .int (xa1)), (2, .int (xa2)), (4, .int (xa4)), (5, .int (xa5)), (6, .int (xa6))]) (pc := 65) C dX5_kindFor_65 rfl (Nat.le_of_ble_eq_true rfl) rfl ?_
  refine g_iload (pc := 66) C dX5_kindFor_66 4 rfl ?_
  refine g_iload (pc := 68) C dX5_kindFor_68 6 rfl ?_
  refine g_mmax (pc := 70) C dX5_kindFor_70 wm_X5_142 wt_max wn_Math wc_max (Nat.le_of_ble_eq_true rfl) (Nat.le_of_ble_eq_true rfl) ?_
  refine g_letI h (fun xv1 h => ?_)
  refine g_istore (i := 4) (lv' := [(4, .int (xv1)), (3, .int (xs0)), (0, .ref (yad y (xa0))), (1, .int (xa1)), (2, .int (xa2)), (5, .int (xa5)), (6, .int (xa6))]) (pc := 73) C dX5_kindFor_73 (Nat.le_of_ble_eq_true rfl) rfl ?_
  refine g_iinc (lv' := [(5, .int (xa5 + 1)), (4, .int (xv1)), (3, .int (xs0)), (0, .ref (yad y (xa0))), (1, .int (xa1)), (2, .int (xa2)), (6, .int (xa6))]) (w := xa5 + 1) (pc := 75) C dX5_kindFor_75 (k := 5) rfl rfl (Nat.le_of_ble_eq_true rfl) rfl ?_
  refine g_goto (pc := 78) C dX5_kindFor_78 (tgt := 30) rfl ?_
  refine g_sub (lv' := [(0, .ref (yad y (xa0))), (1, .int (xa1)), (2, .int (xa2)), (3, .int (xs0)), (4, .int (xv1)), (5, .int (xa5 + 1))]) C [3, 4, 5, 2, 1, 0] rfl ?_
  exact xH30 xa0 xa1 xa2 xs0 xv1 (xa5 + 1) σ h
set_option maxHeartbeats 4000000 in
set_option maxRecDepth 20000 in
theorem b_X5_kindFor_30 {x : XT} {y : YT} {Z : State → Prop} (C : Cx x y (AY y) RX5 cX5_kindFor 7 rm_X5_kindFor) {r : Int32} {σ' : Sto} (hr : RetI x y (AY y) 7 cX5_kindFor Z r σ') (xk_30 : Nat → Int32 → Int32 → Int32 → Int32 → Int32 → Sto → Option (Int32 × Sto)) (xH30 : ∀ (xa0 : Nat) (xa1 : Int32) (xa2 : Int32) (xa3 : Int32) (xa4 : Int32) (xa5 : Int32) (σ : Sto), xk_30 xa0 xa1 xa2 xa3 xa4 xa5 σ = some (r, σ') → GW x y (AY y) 7 Z 30 [(0, .ref (yad y (xa0))), (1, .int (xa1)), (2, .int (xa2)), (3, .int (xa3)), (4, .int (xa4)), (5, .int (xa5))] [] σ) (xa0 : Nat) (xa1 : Int32) (xa2 : Int32) (xa3 : Int32) (xa4 : Int32) (xa5 : Int32) (σ : Sto) (h : F_X5_kindFor_b30 xk_30 xa0 xa1 xa2 xa3 xa4 xa5 σ = some (r, σ')) : GW x y (AY y) 7 Z 30 [(0, .ref (yad y (xa0))), (1, .int (xa1)), (2, .int (xa2)), (3, .int (xa3)), (4, .int (xa4)), (5, .int (xa5))] [] σ := by
  unfold F_X5_kindFor_b30 at h
  refine g_iload (pc := 30) C dX5_kindFor_30 5 rfl ?_
  refine g_bipush (v := 6) (pc := 32) C dX5_kindFor_32 cb_6 ?_
  refine g_icmp_gt (pc := 34) C dX5_kindFor_34 (tgt := 81) rfl (fun xq1 => ?_) (fun xq1 => ?_)
  · have h := iP xq1 h
    refine g_iload_n (pc := 81) C dX5_kindFor_81 rfl 3 rfl ?_
    exact rtI hr dX5_kindFor_82 h
  · have h := iN xq1 h
    refine g_aload_n (pc := 37) C dX5_kindFor_37 rfl 0 rfl ?_
    refine g_iload_n (pc := 38) C dX5_kindFor_38 rfl 1 rfl ?_
    refine g_iconst (v := 0) (pc := 39) C dX5_kindFor_39 ci_0 ?_
    obtain ⟨xr4, xσ2, xc3, h⟩ := iB h
    refine g_callSi (pc := 40) (As := [.int (xa1), .int (0)]) (rest := [.ref (yad y (xa0))]) C dX5_kindFor_40 (fun l => c_X5_sitterAt l y _ _ _ _ _ xc3) cv_X5_93 ⟨rfl, rfl, Nat.le_of_ble_eq_true rfl, Nat.le_of_ble_eq_true rfl⟩ rfl (Nat.le_of_ble_eq_true rfl) ?_
    refine g_iload (pc := 43) C dX5_kindFor_43 5 rfl ?_
    refine g_iload_n (pc := 45) C dX5_kindFor_45 rfl 1 rfl ?_
    refine g_iload_n (pc := 46) C dX5_kindFor_46 rfl 2 rfl ?_
    obtain ⟨xq7, h⟩ := iC h
    have xq7 := keq xq7
    obtain ⟨xr8, xσ5, xc6, h⟩ := iB h
    refine g_callVi (pc := 47) (As := [.int (xr4), .int (xa5), .int (xa1), .int (xa2)]) (rest := []) C dX5_kindFor_47 (fun l => c_X5_takenWith l y _ _ _ _ _ _ _ _ xc6) cv_X5_198 ⟨rfl, rfl, Nat.le_of_ble_eq_true rfl, Nat.le_of_ble_eq_true rfl⟩ (rv5 xq7) rfl (Nat.le_of_ble_eq_true rfl) ?_
    refine g_istore (i := 6) (lv' := [(6, .int (xr8)), (0, .ref (yad y (xa0))), (1, .int (xa1)), (2, .int (xa2)), (3, .int (xa3)), (4, .int (xa4)), (5, .int (xa5))]) (pc := 50) C dX5_kindFor_50 (Nat.le_of_ble_eq_true rfl) rfl ?_
    refine g_iload (pc := 52) C dX5_kindFor_52 0 rfl ?_
    refine g_iload (pc := 54) C dX5_kindFor_54 5 rfl ?_
    refine g_icmp_le (pc := 56) C dX5_kindFor_56 (tgt := 64) rfl (fun xq9 => ?_) (fun xq9 => ?_)
    · have h := iP xq9 h
      refine g_iload_n (pc := 64) C dX5_kindFor_64 rfl 4 rfl ?_
      refine g_sub (lv' := [(0, .ref (yad y (xa0))), (1, .int (xa1)), (2, .int (xa2)), (4, .int (xa4)), (5, .int (xa5)), (6, .int (xr8))]) C [1, 2, 3, 5, 6, 0] rfl ?_
      exact b_X5_kindFor_65 C hr xk_30 xH30 xa0 xa1 xa2 xa4 xa5 xr8 xa3 xσ5 h
    · have h := iN xq9 h
      refine g_iload (pc := 59) C dX5_kindFor_59 6 rfl ?_
      refine g_goto (pc := 61) C dX5_kindFor_61 (tgt := 65) rfl ?_
      refine g_sub (lv' := [(0, .ref (yad y (xa0))), (1, .int (xa1)), (2, .int (xa2)), (4, .int (xa4)), (5, .int (xa5)), (6, .int (xr8))]) C [1, 2, 3, 5, 6, 0] rfl ?_
      exact b_X5_kindFor_65 C hr xk_30 xH30 xa0 xa1 xa2 xa4 xa5 xr8 xa5 xσ5 h
theorem l_X5_kindFor_30 {x : XT} {y : YT} {Z : State → Prop} (C : Cx x y (AY y) RX5 cX5_kindFor 7 rm_X5_kindFor) {r : Int32} {σ' : Sto} (hr : RetI x y (AY y) 7 cX5_kindFor Z r σ') (n : Nat) (xa0 : Nat) (xa1 : Int32) (xa2 : Int32) (xa3 : Int32) (xa4 : Int32) (xa5 : Int32) (σ : Sto) (h : lo6 (F_X5_kindFor_b30) n xa0 xa1 xa2 xa3 xa4 xa5 σ = some (r, σ')) : GW x y (AY y) 7 Z 30 [(0, .ref (yad y (xa0))), (1, .int (xa1)), (2, .int (xa2)), (3, .int (xa3)), (4, .int (xa4)), (5, .int (xa5))] [] σ :=
  lo6_gw (G := fun xa0 xa1 xa2 xa3 xa4 xa5 σ => GW x y (AY y) 7 Z 30 [(0, .ref (yad y (xa0))), (1, .int (xa1)), (2, .int (xa2)), (3, .int (xa3)), (4, .int (xa4)), (5, .int (xa5))] [] σ) (fun xk xHk xa0 xa1 xa2 xa3 xa4 xa5 σ h => b_X5_kindFor_30 C hr xk xHk xa0 xa1 xa2 xa3 xa4 xa5 σ h) n xa0 xa1 xa2 xa3 xa4 xa5 σ h
set_option maxHeartbeats 4000000 in
set_option maxRecDepth 20000 in
theorem b_X5_kindFor_0 {x : XT} {y : YT} {Z : State → Prop} (C : Cx x y (AY y) RX5 cX5_kindFor 7 rm_X5_kindFor) {r : Int32} {σ' : Sto} (hr : RetI x y (AY y) 7 cX5_kindFor Z r σ') (xa0 : Nat) (xa1 : Int32) (xa2 : Int32) (σ : Sto) (h : F_X5_kindFor xa0 xa1 xa2 σ = some (r, σ')) : GW x y (AY y) 7 Z 0 [(0, .ref (yad y (xa0))), (1, .int (xa1)), (2, .int (xa2))] [] σ := by
  unfold F_X5_kindFor at h
  refine g_aload_n (pc := 0) C dX5_kindFor_0 rfl 0 rfl ?_
  refine g_iload_n (pc := 1) C dX5_kindFor_1 rfl 1 rfl ?_
  obtain ⟨xq3, h⟩ := iC h
  have xq3 := keq xq3
  obtain ⟨xr4, xσ1, xc2, h⟩ := iB h
  refine g_callVi (pc := 2) (As := [.int (xa1)]) (rest := []) C dX5_kindFor_2 (fun l => c_X5_isSitter l y _ _ _ _ _ xc2) cv_X5_83 ⟨rfl, rfl, Nat.le_of_ble_eq_true rfl, Nat.le_of_ble_eq_true rfl⟩ (rv5 xq3) rfl (Nat.le_of_ble_eq_true rfl) ?_
  refine g_if_eq (pc := 5) C dX5_kindFor_5 (tgt := 15) rfl (fun xq5 => ?_) (fun xq5 => ?_)
  · have h := iP xq5 h
    refine g_aload_n (pc := 15) C dX5_kindFor_15 rfl 0 rfl ?_
    refine g_ldc (v := (-1000001)) (pc := 16) C dX5_kindFor_16 wk_X5_60 ?_
    obtain ⟨xr8, xσ6, xc7, h⟩ := iB h
    refine g_callVi (pc := 18) (As := [.int ((-1000001))]) (rest := []) C dX5_kindFor_18 (fun l => c_X5_finding l y _ _ _ _ _ xc7) cv_X5_66 ⟨rfl, rfl, Nat.le_of_ble_eq_true rfl, Nat.le_of_ble_eq_true rfl⟩ (rv5 xq3) rfl (Nat.le_of_ble_eq_true rfl) ?_
    exact rtI hr dX5_kindFor_21 h
  · have h := iN xq5 h
    refine g_iload_n (pc := 8) C dX5_kindFor_8 rfl 2 rfl ?_
    obtain ⟨xr11, xσ9, xc10, h⟩ := iB h
    refine g_callSi (pc := 9) (As := [.int (xa2)]) (rest := []) C dX5_kindFor_9 (fun l => c_X5_isThought l y _ _ _ _ xc10) cv_X5_191 ⟨rfl, rfl, Nat.le_of_ble_eq_true rfl, Nat.le_of_ble_eq_true rfl⟩ rfl (Nat.le_of_ble_eq_true rfl) ?_
    refine g_if_ne (pc := 12) C dX5_kindFor_12 (tgt := 22) rfl (fun xq12 => ?_) (fun xq12 => ?_)
    · have h := iN xq12 h
      refine g_iconst (v := 0) (pc := 22) C dX5_kindFor_22 ci_0 ?_
      refine g_istore_n (i := 3) (lv' := [(3, .int (0)), (0, .ref (yad y (xa0))), (1, .int (xa1)), (2, .int (xa2))]) (pc := 23) C dX5_kindFor_23 rfl (Nat.le_of_ble_eq_true rfl) rfl ?_
      refine g_iconst (v := (-1)) (pc := 24) C dX5_kindFor_24 ci_m1 ?_
      refine g_istore (i := 4) (lv' := [(4, .int ((-1))), (3, .int (0)), (0, .ref (yad y (xa0))), (1, .int (xa1)), (2, .int (xa2))]) (pc := 25) C dX5_kindFor_25 (Nat.le_of_ble_eq_true rfl) rfl ?_
      refine g_iconst (v := 0) (pc := 27) C dX5_kindFor_27 ci_0 ?_
      refine g_istore (i := 5) (lv' := [(5, .int (0)), (4, .int ((-1))), (3, .int (0)), (0, .ref (yad y (xa0))), (1, .int (xa1)), (2, .int (xa2))]) (pc := 28) C dX5_kindFor_28 (Nat.le_of_ble_eq_true rfl) rfl ?_
      refine g_sub (lv' := [(0, .ref (yad y (xa0))), (1, .int (xa1)), (2, .int (xa2)), (3, .int (0)), (4, .int ((-1))), (5, .int (0))]) C [3, 4, 5, 2, 1, 0] rfl ?_
      exact l_X5_kindFor_30 C hr 1000 xa0 xa1 xa2 0 (-1) 0 xσ9 h
    · have h := iP xq12 h
      refine g_aload_n (pc := 15) C dX5_kindFor_15 rfl 0 rfl ?_
      refine g_ldc (v := (-1000001)) (pc := 16) C dX5_kindFor_16 wk_X5_60 ?_
      obtain ⟨xr15, xσ13, xc14, h⟩ := iB h
      refine g_callVi (pc := 18) (As := [.int ((-1000001))]) (rest := []) C dX5_kindFor_18 (fun l => c_X5_finding l y _ _ _ _ _ xc14) cv_X5_66 ⟨rfl, rfl, Nat.le_of_ble_eq_true rfl, Nat.le_of_ble_eq_true rfl⟩ (rv5 xq3) rfl (Nat.le_of_ble_eq_true rfl) ?_
      exact rtI hr dX5_kindFor_21 h
theorem c_X5_kindFor (l : Launch) (y : YT) (xa0 : Nat) (xa1 : Int32) (xa2 : Int32) (σ σ' : Sto) (r : Int32) (h : F_X5_kindFor xa0 xa1 xa2 σ = some (r, σ')) : MI l y yX5_kindFor (Cond.code yX5_kindFor cX5_kindFor 7 (some .int) :: TT) rm_X5_kindFor [.ref (yad y (xa0)), .int (xa1), .int (xa2)] σ r σ' :=
  mkI (by decide) rfl rfl rfl (Nat.le_of_ble_eq_true rfl) (fun x Z C hr => b_X5_kindFor_0 C hr xa0 xa1 xa2 σ h)

/-! methods, by program: what each does to the store (F_), its walk (b_), its contract (c_): X0_sittersWithClearFlash, X0_commonFaults, X0_faultsTogether, X0_turnStool, X0_takePictures, X0_payOut, X0_passMinute, X0_passMinutes, X0_draw, X3_hasRoomFor, X3_append, X3_byteAt, X3_isLetter, X3_isDigit, X3_readDigits, X3_nextToken -/
def rm_X0_sittersWithClearFlash : Room := { frames := 4, cells := 0, slots := 0, locals := 106 }
def F_X0_sittersWithClearFlash_b4 (xk_4 : Nat → Int32 → Int32 → Sto → Option (Int32 × Sto)) (xa0 : Nat) (xa1 : Int32) (xa2 : Int32) (σ : Sto) : Option (Int32 × Sto) := ck (kd (xa0) == 0) (if (σ xa0 6) ≤ xa2 then some (xa1, σ) else bnd (F_X0_who (xa0) (xa2) σ) (fun xr5 xσ3 => ocase xr5 (xk_4 xa0 xa1 (xa2 + 1) xσ3) (fun xk6 => bnd (F_X0_hasClearFlash (xa0) (xk6) xσ3) (fun xr9 xσ7 => if (xr9) = 0 then xk_4 xa0 xa1 (xa2 + 1) xσ7 else lti (xa1 ||| (isl 1 xa2)) (fun xv11 => xk_4 xa0 xv11 (xa2 + 1) xσ7)))))
def F_X0_sittersWithClearFlash (xa0 : Nat) (σ : Sto) : Option (Int32 × Sto) := lo3 (F_X0_sittersWithClearFlash_b4) 1000 xa0 0 0 σ
set_option maxHeartbeats 4000000 in
set_option maxRecDepth 20000 in
theorem b_X0_sittersWithClearFlash_4 {x : XT} {y : YT} {Z : State → Prop} (C : Cx x y (AY y) RX0 cX0_sittersWithClearFlash 4 rm_X0_sittersWithClearFlash) {r : Int32} {σ' : Sto} (hr : RetI x y (AY y) 4 cX0_sittersWithClearFlash Z r σ') (xk_4 : Nat → Int32 → Int32 → Sto → Option (Int32 × Sto)) (xH4 : ∀ (xa0 : Nat) (xa1 : Int32) (xa2 : Int32) (σ : Sto), xk_4 xa0 xa1 xa2 σ = some (r, σ') → GW x y (AY y) 4 Z 4 [(0, .ref (yad y (xa0))), (1, .int (xa1)), (2, .int (xa2))] [] σ) (xa0 : Nat) (xa1 : Int32) (xa2 : Int32) (σ : Sto) (h : F_X0_sittersWithClearFlash_b4 xk_4 xa0 xa1 xa2 σ = some (r, σ')) : GW x y (AY y) 4 Z 4 [(0, .ref (yad y (xa0))), (1, .int (xa1)), (2, .int (xa2))] [] σ := by
  unfold F_X0_sittersWithClearFlash_b4 at h
  refine g_iload_n (pc := 4) C dX0_sittersWithClearFlash_4 rfl 2 rfl ?_
  refine g_aload_n (pc := 5) C dX0_sittersWithClearFlash_5 rfl 0 rfl ?_
  obtain ⟨xq1, h⟩ := iC h
  have xq1 := keq xq1
  refine gf_0_6 (pc := 6) C wf_X0_30 dX0_sittersWithClearFlash_6 xq1 ?_
  refine g_icmp_ge (pc := 9) C dX0_sittersWithClearFlash_9 (tgt := 42) rfl (fun xq2 => ?_) (fun xq2 => ?_)
  · have h := iP xq2 h
    refine g_iload_n (pc := 42) C dX0_sittersWithClearFlash_42 rfl 1 rfl ?_
    exact rtI hr dX0_sittersWithClearFlash_43 h
  · have h := iN xq2 h
    refine g_aload_n (pc := 12) C dX0_sittersWithClearFlash_12 rfl 0 rfl ?_
    refine g_iload_n (pc := 13) C dX0_sittersWithClearFlash_13 rfl 2 rfl ?_
    obtain ⟨xr5, xσ3, xc4, h⟩ := iB h
    refine g_callVq (pc := 14) (As := [.int (xa2)]) (rest := []) C dX0_sittersWithClearFlash_14 (fun l => c_X0_who l y _ _ _ _ _ xc4) cv_X0_69 ⟨rfl, rfl, Nat.le_of_ble_eq_true rfl, Nat.le_of_ble_eq_true rfl⟩ (rv0 xq1) rfl (Nat.le_of_ble_eq_true rfl) ?_
    refine g_nastore_n (i := 3) (lv' := [(3, nv y xr5), (0, .ref (yad y (xa0))), (1, .int (xa1)), (2, .int (xa2))]) (pc := 17) C dX0_sittersWithClearFlash_17 rfl (Nat.le_of_ble_eq_true rfl) rfl ?_
    refine g_naload_n (pc := 18) C dX0_sittersWithClearFlash_18 rfl 0 rfl ?_
    refine g_ifnull (pc := 19) C dX0_sittersWithClearFlash_19 (tgt := 36) rfl (fun xq12 => ?_) (fun xk6 xq12 => ?_)
    · subst xq12
      have h := iO0 h
      refine g_iinc (lv' := [(2, .int (xa2 + 1)), (3, nv y none), (0, .ref (yad y (xa0))), (1, .int (xa1))]) (w := xa2 + 1) (pc := 36) C dX0_sittersWithClearFlash_36 (k := 3) rfl rfl (Nat.le_of_ble_eq_true rfl) rfl ?_
      refine g_goto (pc := 39) C dX0_sittersWithClearFlash_39 (tgt := 4) rfl ?_
      refine g_sub (lv' := [(0, .ref (yad y (xa0))), (1, .int (xa1)), (2, .int (xa2 + 1))]) C [2, 3, 0] rfl ?_
      exact xH4 xa0 xa1 (xa2 + 1) xσ3 h
    · subst xq12
      have h := iO1 h
      refine g_aload_n (pc := 22) C dX0_sittersWithClearFlash_22 rfl 1 rfl ?_
      refine g_aload_n (pc := 23) C dX0_sittersWithClearFlash_23 rfl 0 rfl ?_
      obtain ⟨xr9, xσ7, xc8, h⟩ := iB h
      refine g_callVi (pc := 24) (As := [.ref (yad y (xk6))]) (rest := []) C dX0_sittersWithClearFlash_24 (fun l => c_X0_hasClearFlash l y _ _ _ _ _ xc8) cv_X0_106 ⟨rfl, rfl, Nat.le_of_ble_eq_true rfl, Nat.le_of_ble_eq_true rfl⟩ (rv0 xq1) rfl (Nat.le_of_ble_eq_true rfl) ?_
      refine g_if_eq (pc := 27) C dX0_sittersWithClearFlash_27 (tgt := 36) rfl (fun xq10 => ?_) (fun xq10 => ?_)
      · have h := iP xq10 h
        refine g_iinc (lv' := [(2, .int (xa2 + 1)), (3, .ref (yad y (xk6))), (0, .ref (yad y (xa0))), (1, .int (xa1))]) (w := xa2 + 1) (pc := 36) C dX0_sittersWithClearFlash_36 (k := 3) rfl rfl (Nat.le_of_ble_eq_true rfl) rfl ?_
        refine g_goto (pc := 39) C dX0_sittersWithClearFlash_39 (tgt := 4) rfl ?_
        refine g_sub (lv' := [(0, .ref (yad y (xa0))), (1, .int (xa1)), (2, .int (xa2 + 1))]) C [2, 3, 0] rfl ?_
        exact xH4 xa0 xa1 (xa2 + 1) xσ7 h
      · have h := iN xq10 h
        refine g_iload_n (pc := 30) C dX0_sittersWithClearFlash_30 rfl 2 rfl ?_
        refine g_iconst (v := 1) (pc := 31) C dX0_sittersWithClearFlash_31 ci_1 ?_
        refine g_iload_n (pc := 32) C dX0_sittersWithClearFlash_32 rfl 3 rfl ?_
        refine g_ishl (pc := 33) C dX0_sittersWithClearFlash_33 ?_
        refine g_ior (pc := 34) C dX0_sittersWithClearFlash_34 ?_
        refine g_letI h (fun xv11 h => ?_)
        refine g_istore_n (i := 1) (lv' := [(1, .int (xv11)), (3, .ref (yad y (xk6))), (0, .ref (yad y (xa0))), (2, .int (xa2))]) (pc := 35) C dX0_sittersWithClearFlash_35 rfl (Nat.le_of_ble_eq_true rfl) rfl ?_
        refine g_iinc (lv' := [(2, .int (xa2 + 1)), (1, .int (xv11)), (3, .ref (yad y (xk6))), (0, .ref (yad y (xa0)))]) (w := xa2 + 1) (pc := 36) C dX0_sittersWithClearFlash_36 (k := 3) rfl rfl (Nat.le_of_ble_eq_true rfl) rfl ?_
        refine g_goto (pc := 39) C dX0_sittersWithClearFlash_39 (tgt := 4) rfl ?_
        refine g_sub (lv' := [(0, .ref (yad y (xa0))), (1, .int (xv11)), (2, .int (xa2 + 1))]) C [3, 1, 0] rfl ?_
        exact xH4 xa0 xv11 (xa2 + 1) xσ7 h
theorem l_X0_sittersWithClearFlash_4 {x : XT} {y : YT} {Z : State → Prop} (C : Cx x y (AY y) RX0 cX0_sittersWithClearFlash 4 rm_X0_sittersWithClearFlash) {r : Int32} {σ' : Sto} (hr : RetI x y (AY y) 4 cX0_sittersWithClearFlash Z r σ') (n : Nat) (xa0 : Nat) (xa1 : Int32) (xa2 : Int32) (σ : Sto) (h : lo3 (F_X0_sittersWithClearFlash_b4) n xa0 xa1 xa2 σ = some (r, σ')) : GW x y (AY y) 4 Z 4 [(0, .ref (yad y (xa0))), (1, .int (xa1)), (2, .int (xa2))] [] σ :=
  lo3_gw (G := fun xa0 xa1 xa2 σ => GW x y (AY y) 4 Z 4 [(0, .ref (yad y (xa0))), (1, .int (xa1)), (2, .int (xa2))] [] σ) (fun xk xHk xa0 xa1 xa2 σ h => b_X0_sittersWithClearFlash_4 C hr xk xHk xa0 xa1 xa2 σ h) n xa0 xa1 xa2 σ h
set_option maxHeartbeats 4000000 in
set_option maxRecDepth 20000 in
theorem b_X0_sittersWithClearFlash_0 {x : XT} {y : YT} {Z : State → Prop} (C : Cx x y (AY y) RX0 cX0_sittersWithClearFlash 4 rm_X0_sittersWithClearFlash) {r : Int32} {σ' : Sto} (hr : RetI x y (AY y) 4 cX0_sittersWithClearFlash Z r σ') (xa0 : Nat) (σ : Sto) (h : F_X0_sittersWithClearFlash xa0 σ = some (r, σ')) : GW x y (AY y) 4 Z 0 [(0, .ref (yad y (xa0)))] [] σ := by
  unfold F_X0_sittersWithClearFlash at h
  refine g_iconst (v := 0) (pc := 0) C dX0_sittersWithClearFlash_0 ci_0 ?_
  refine g_istore_n (i := 1) (lv' := [(1, .int (0)), (0, .ref (yad y (xa0)))]) (pc := 1) C dX0_sittersWithClearFlash_1 rfl (Nat.le_of_ble_eq_true rfl) rfl ?_
  refine g_iconst (v := 0) (pc := 2) C dX0_sittersWithClearFlash_2 ci_0 ?_
  refine g_istore_n (i := 2) (lv' := [(2, .int (0)), (1, .int (0)), (0, .ref (yad y (xa0)))]) (pc := 3) C dX0_sittersWithClearFlash_3 rfl (Nat.le_of_ble_eq_true rfl) rfl ?_
  refine g_sub (lv' := [(0, .ref (yad y (xa0))), (1, .int (0)), (2, .int (0))]) C [2, 1, 0] rfl ?_
  exact l_X0_sittersWithClearFlash_4 C hr 1000 xa0 0 0 σ h
theorem c_X0_sittersWithClearFlash (l : Launch) (y : YT) (xa0 : Nat) (σ σ' : Sto) (r : Int32) (h : F_X0_sittersWithClearFlash xa0 σ = some (r, σ')) : MI l y yX0_sittersWithClearFlash (Cond.code yX0_sittersWithClearFlash cX0_sittersWithClearFlash 4 (some .int) :: TT) rm_X0_sittersWithClearFlash [.ref (yad y (xa0))] σ r σ' :=
  mkI (by decide) rfl rfl rfl (Nat.le_of_ble_eq_true rfl) (fun x Z C hr => b_X0_sittersWithClearFlash_0 C hr xa0 σ h)
def rm_X0_commonFaults : Room := { frames := 3, cells := 0, slots := 0, locals := 84 }
def F_X0_commonFaults_b33 (xk_16 : Nat → Int32 → Int32 → Sto → Option (Int32 × Sto)) (xk_33 : Nat → Int32 → Int32 → Option Nat → Int32 → Sto → Option (Int32 × Sto)) (xa0 : Nat) (xa1 : Int32) (xa2 : Int32) (xa3 : Option Nat) (xa4 : Int32) (σ : Sto) : Option (Int32 × Sto) := if 4 ≤ xa4 then xk_16 xa0 xa1 (xa2 + 1) σ else ocase xa3 (xk_16 xa0 xa1 (xa2 + 1) σ) (fun xk2 => ck (kd (xa0) == 0) (bnd (F_X0_faultsOf (xa0) (xk2) (xa4) σ) (fun xr6 xσ3 => lti (xa1 &&& xr6) (fun xv7 => xk_33 xa0 xv7 xa2 (some (xk2)) (xa4 + 1) xσ3))))
def F_X0_commonFaults_b16 (xk_16 : Nat → Int32 → Int32 → Sto → Option (Int32 × Sto)) (xa0 : Nat) (xa1 : Int32) (xa2 : Int32) (σ : Sto) : Option (Int32 × Sto) := ck (kd (xa0) == 0) (if (σ xa0 6) ≤ xa2 then some (xa1, σ) else bnd (F_X0_who (xa0) (xa2) σ) (fun xr5 xσ3 => lo5 (F_X0_commonFaults_b33 xk_16) 1000 xa0 xa1 xa2 xr5 0 xσ3))
def F_X0_commonFaults (xa0 : Nat) (σ : Sto) : Option (Int32 × Sto) := ck (kd (xa0) == 0) (if (σ xa0 6) = 0 then lo3 (F_X0_commonFaults_b16) 1000 xa0 0 0 σ else lo3 (F_X0_commonFaults_b16) 1000 xa0 31 0 σ)
set_option maxHeartbeats 4000000 in
set_option maxRecDepth 20000 in
theorem b_X0_commonFaults_33 {x : XT} {y : YT} {Z : State → Prop} (C : Cx x y (AY y) RX0 cX0_commonFaults 5 rm_X0_commonFaults) {r : Int32} {σ' : Sto} (hr : RetI x y (AY y) 5 cX0_commonFaults Z r σ') (xk_16 : Nat → Int32 → Int32 → Sto → Option (Int32 × Sto)) (xH16 : ∀ (xa0 : Nat) (xa1 : Int32) (xa2 : Int32) (σ : Sto), xk_16 xa0 xa1 xa2 σ = some (r, σ') → GW x y (AY y) 5 Z 16 [(0, .ref (yad y (xa0))), (1, .int (xa1)), (2, .int (xa2))] [] σ) (xk_33 : Nat → Int32 → Int32 → Option Nat → Int32 → Sto → Option (Int32 × Sto)) (xH33 : ∀ (xa0 : Nat) (xa1 : Int32) (xa2 : Int32) (xa3 : Option Nat) (xa4 : Int32) (σ : Sto), xk_33 xa0 xa1 xa2 xa3 xa4 σ = some (r, σ') → GW x y (AY y) 5 Z 33 [(0, .ref (yad y (xa0))), (1, .int (xa1)), (2, .int (xa2)), (3, nv y xa3), (4, .int (xa4))] [] σ) (xa0 : Nat) (xa1 : Int32) (xa2 : Int32) (xa3 : Option Nat) (xa4 : Int32) (σ : Sto) (h : F_X0_commonFaults_b33 xk_16 xk_33 xa0 xa1 xa2 xa3 xa4 σ = some (r, σ')) : GW x y (AY y) 5 Z 33 [(0, .ref (yad y (xa0))), (1, .int (xa1)), (2, .int (xa2)), (3, nv y xa3), (4, .int (xa4))] [] σ := by
  unfold F_X0_commonFaults_b33 at h
  refine g_iload (pc := 33) C dX0_commonFaults_33 4 rfl ?_
  refine g_iconst (v := 4) (pc := 35) C dX0_commonFaults_35 ci_4 ?_
  refine g_icmp_ge (pc := 36) C dX0_commonFaults_36 (tgt := 59) rfl (fun xq1 => ?_) (fun xq1 => ?_)
  · have h := iP xq1 h
    refine g_iinc (lv' := [(2, .int (xa2 + 1)), (0, .ref (yad y (xa0))), (1, .int (xa1)), (3, nv y xa3), (4, .int (xa4))]) (w := xa2 + 1) (pc := 59) C dX0_commonFaults_59 (k := 2) rfl rfl (Nat.le_of_ble_eq_true rfl) rfl ?_
    refine g_goto (pc := 62) C dX0_commonFaults_62 (tgt := 16) rfl ?_
    refine g_sub (lv' := [(0, .ref (yad y (xa0))), (1, .int (xa1)), (2, .int (xa2 + 1))]) C [1, 2, 0] rfl ?_
    exact xH16 xa0 xa1 (xa2 + 1) σ h
  · have h := iN xq1 h
    refine g_naload_n (pc := 39) C dX0_commonFaults_39 rfl 3 rfl ?_
    refine g_ifnull (pc := 40) C dX0_commonFaults_40 (tgt := 59) rfl (fun xq8 => ?_) (fun xk2 xq8 => ?_)
    · subst xq8
      have h := iO0 h
      refine g_iinc (lv' := [(2, .int (xa2 + 1)), (0, .ref (yad y (xa0))), (1, .int (xa1)), (3, nv y none), (4, .int (xa4))]) (w := xa2 + 1) (pc := 59) C dX0_commonFaults_59 (k := 2) rfl rfl (Nat.le_of_ble_eq_true rfl) rfl ?_
      refine g_goto (pc := 62) C dX0_commonFaults_62 (tgt := 16) rfl ?_
      refine g_sub (lv' := [(0, .ref (yad y (xa0))), (1, .int (xa1)), (2, .int (xa2 + 1))]) C [1, 2, 0] rfl ?_
      exact xH16 xa0 xa1 (xa2 + 1) σ h
    · subst xq8
      have h := iO1 h
      refine g_iload_n (pc := 43) C dX0_commonFaults_43 rfl 1 rfl ?_
      refine g_aload_n (pc := 44) C dX0_commonFaults_44 rfl 0 rfl ?_
      refine g_aload_n (pc := 45) C dX0_commonFaults_45 rfl 3 rfl ?_
      refine g_iload (pc := 46) C dX0_commonFaults_46 4 rfl ?_
      obtain ⟨xq5, h⟩ := iC h
      have xq5 := keq xq5
      obtain ⟨xr6, xσ3, xc4, h⟩ := iB h
      refine g_callVi (pc := 48) (As := [.ref (yad y (xk2)), .int (xa4)]) (rest := [.int (xa1)]) C dX0_commonFaults_48 (fun l => c_X0_faultsOf l y _ _ _ _ _ _ xc4) cv_X0_102 ⟨rfl, rfl, Nat.le_of_ble_eq_true rfl, Nat.le_of_ble_eq_true rfl⟩ (rv0 xq5) rfl (Nat.le_of_ble_eq_true rfl) ?_
      refine g_iand (pc := 51) C dX0_commonFaults_51 ?_
      refine g_letI h (fun xv7 h => ?_)
      refine g_istore_n (i := 1) (lv' := [(1, .int (xv7)), (0, .ref (yad y (xa0))), (2, .int (xa2)), (3, .ref (yad y (xk2))), (4, .int (xa4))]) (pc := 52) C dX0_commonFaults_52 rfl (Nat.le_of_ble_eq_true rfl) rfl ?_
      refine g_iinc (lv' := [(4, .int (xa4 + 1)), (1, .int (xv7)), (0, .ref (yad y (xa0))), (2, .int (xa2)), (3, .ref (yad y (xk2)))]) (w := xa4 + 1) (pc := 53) C dX0_commonFaults_53 (k := 4) rfl rfl (Nat.le_of_ble_eq_true rfl) rfl ?_
      refine g_goto (pc := 56) C dX0_commonFaults_56 (tgt := 33) rfl ?_
      refine g_sub (lv' := [(0, .ref (yad y (xa0))), (1, .int (xv7)), (2, .int (xa2)), (3, nv y (some (xk2))), (4, .int (xa4 + 1))]) C [2, 1, 3, 4, 0] rfl ?_
      exact xH33 xa0 xv7 xa2 (some (xk2)) (xa4 + 1) xσ3 h
theorem l_X0_commonFaults_33 {x : XT} {y : YT} {Z : State → Prop} (C : Cx x y (AY y) RX0 cX0_commonFaults 5 rm_X0_commonFaults) {r : Int32} {σ' : Sto} (hr : RetI x y (AY y) 5 cX0_commonFaults Z r σ') (xk_16 : Nat → Int32 → Int32 → Sto → Option (Int32 × Sto)) (xH16 : ∀ (xa0 : Nat) (xa1 : Int32) (xa2 : Int32) (σ : Sto), xk_16 xa0 xa1 xa2 σ = some (r, σ') → GW x y (AY y) 5 Z 16 [(0, .ref (yad y (xa0))), (1, .int (xa1)), (2, .int (xa2))] [] σ) (n : Nat) (xa0 : Nat) (xa1 : Int32) (xa2 : Int32) (xa3 : Option Nat) (xa4 : Int32) (σ : Sto) (h : lo5 (F_X0_commonFaults_b33 xk_16) n xa0 xa1 xa2 xa3 xa4 σ = some (r, σ')) : GW x y (AY y) 5 Z 33 [(0, .ref (yad y (xa0))), (1, .int (xa1)), (2, .int (xa2)), (3, nv y xa3), (4, .int (xa4))] [] σ :=
  lo5_gw (G := fun xa0 xa1 xa2 xa3 xa4 σ => GW x y (AY y) 5 Z 33 [(0, .ref (yad y (xa0))), (1, .int (xa1)), (2, .int (xa2)), (3, nv y xa3), (4, .int (xa4))] [] σ) (fun xk xHk xa0 xa1 xa2 xa3 xa4 σ h => b_X0_commonFaults_33 C hr xk_16 xH16 xk xHk xa0 xa1 xa2 xa3 xa4 σ h) n xa0 xa1 xa2 xa3 xa4 σ h
set_option maxHeartbeats 4000000 in
set_option maxRecDepth 20000 in
theorem b_X0_commonFaults_16 {x : XT} {y : YT} {Z : State → Prop} (C : Cx x y (AY y) RX0 cX0_commonFaults 5 rm_X0_commonFaults) {r : Int32} {σ' : Sto} (hr : RetI x y (AY y) 5 cX0_commonFaults Z r σ') (xk_16 : Nat → Int32 → Int32 → Sto → Option (Int32 × Sto)) (xH16 : ∀ (xa0 : Nat) (xa1 : Int32) (xa2 : Int32) (σ : Sto), xk_16 xa0 xa1 xa2 σ = some (r, σ') → GW x y (AY y) 5 Z 16 [(0, .ref (yad y (xa0))), (1, .int (xa1)), (2, .int (xa2))] [] σ) (xa0 : Nat) (xa1 : Int32) (xa2 : Int32) (σ : Sto) (h : F_X0_commonFaults_b16 xk_16 xa0 xa1 xa2 σ = some (r, σ')) : GW x y (AY y) 5 Z 16 [(0, .ref (yad y (xa0))), (1, .int (xa1)), (2, .int (xa2))] [] σ := by
  unfold F_X0_commonFaults_b16 at h
  refine g_iload_n (pc := 16) C dX0_commonFaults_16 rfl 2 rfl ?_
  refine g_aload_n (pc := 17) C dX0_commonFaults_17 rfl 0 rfl ?_
  obtain ⟨xq1, h⟩ := iC h
  have xq1 := keq xq1
  refine gf_0_6 (pc := 18) C wf_X0_30 dX0_commonFaults_18 xq1 ?_
  refine g_icmp_ge (pc := 21) C dX0_commonFaults_21 (tgt := 65) rfl (fun xq2 => ?_) (fun xq2 => ?_)
  · have h := iP xq2 h
    refine g_iload_n (pc := 65) C dX0_commonFaults_65 rfl 1 rfl ?_
    exact rtI hr dX0_commonFaults_66 h
  · have h := iN xq2 h
    refine g_aload_n (pc := 24) C dX0_commonFaults_24 rfl 0 rfl ?_
    refine g_iload_n (pc := 25) C dX0_commonFaults_25 rfl 2 rfl ?_
    obtain ⟨xr5, xσ3, xc4, h⟩ := iB h
    refine g_callVq (pc := 26) (As := [.int (xa2)]) (rest := []) C dX0_commonFaults_26 (fun l => c_X0_who l y _ _ _ _ _ xc4) cv_X0_69 ⟨rfl, rfl, Nat.le_of_ble_eq_true rfl, Nat.le_of_ble_eq_true rfl⟩ (rv0 xq1) rfl (Nat.le_of_ble_eq_true rfl) ?_
    refine g_nastore_n (i := 3) (lv' := [(3, nv y xr5), (0, .ref (yad y (xa0))), (1, .int (xa1)), (2, .int (xa2))]) (pc := 29) C dX0_commonFaults_29 rfl (Nat.le_of_ble_eq_true rfl) rfl ?_
    refine g_iconst (v := 0) (pc := 30) C dX0_commonFaults_30 ci_0 ?_
    refine g_istore (i := 4) (lv' := [(4, .int (0)), (3, nv y xr5), (0, .ref (yad y (xa0))), (1, .int (xa1)), (2, .int (xa2))]) (pc := 31) C dX0_commonFaults_31 (Nat.le_of_ble_eq_true rfl) (by simp [nv_cat, cat_int, cat_ref]) ?_
    refine g_sub (lv' := [(0, .ref (yad y (xa0))), (1, .int (xa1)), (2, .int (xa2)), (3, nv y xr5), (4, .int (0))]) C [2, 3, 4, 1, 0] rfl ?_
    exact l_X0_commonFaults_33 C hr xk_16 xH16 1000 xa0 xa1 xa2 xr5 0 xσ3 h
theorem l_X0_commonFaults_16 {x : XT} {y : YT} {Z : State → Prop} (C : Cx x y (AY y) RX0 cX0_commonFaults 5 rm_X0_commonFaults) {r : Int32} {σ' : Sto} (hr : RetI x y (AY y) 5 cX0_commonFaults Z r σ') (n : Nat) (xa0 : Nat) (xa1 : Int32) (xa2 : Int32) (σ : Sto) (h : lo3 (F_X0_commonFaults_b16) n xa0 xa1 xa2 σ = some (r, σ')) : GW x y (AY y) 5 Z 16 [(0, .ref (yad y (xa0))), (1, .int (xa1)), (2, .int (xa2))] [] σ :=
  lo3_gw (G := fun xa0 xa1 xa2 σ => GW x y (AY y) 5 Z 16 [(0, .ref (yad y (xa0))), (1, .int (xa1)), (2, .int (xa2))] [] σ) (fun xk xHk xa0 xa1 xa2 σ h => b_X0_commonFaults_16 C hr xk xHk xa0 xa1 xa2 σ h) n xa0 xa1 xa2 σ h
set_option maxHeartbeats 4000000 in
set_option maxRecDepth 20000 in
theorem b_X0_commonFaults_0 {x : XT} {y : YT} {Z : State → Prop} (C : Cx x y (AY y) RX0 cX0_commonFaults 5 rm_X0_commonFaults) {r : Int32} {σ' : Sto} (hr : RetI x y (AY y) 5 cX0_commonFaults Z r σ') (xa0 : Nat) (σ : Sto) (h : F_X0_commonFaults xa0 σ = some (r, σ')) : GW x y (AY y) 5 Z 0 [(0, .ref (yad y (xa0)))] [] σ := by
  unfold F_X0_commonFaults at h
  refine g_aload_n (pc := 0) C dX0_commonFaults_0 rfl 0 rfl ?_
  obtain ⟨xq1, h⟩ := iC h
  have xq1 := keq xq1
  refine gf_0_6 (pc := 1) C wf_X0_30 dX0_commonFaults_1 xq1 ?_
  refine g_if_ne (pc := 4) C dX0_commonFaults_4 (tgt := 11) rfl (fun xq2 => ?_) (fun xq2 => ?_)
  · have h := iN xq2 h
    refine g_bipush (v := 31) (pc := 11) C dX0_commonFaults_11 cb_31 ?_
    refine g_istore_n (i := 1) (lv' := [(1, .int (31)), (0, .ref (yad y (xa0)))]) (pc := 13) C dX0_commonFaults_13 rfl (Nat.le_of_ble_eq_true rfl) rfl ?_
    refine g_iconst (v := 0) (pc := 14) C dX0_commonFaults_14 ci_0 ?_
    refine g_istore_n (i := 2) (lv' := [(2, .int (0)), (1, .int (31)), (0, .ref (yad y (xa0)))]) (pc := 15) C dX0_commonFaults_15 rfl (Nat.le_of_ble_eq_true rfl) rfl ?_
    refine g_sub (lv' := [(0, .ref (yad y (xa0))), (1, .int (31)), (2, .int (0))]) C [2, 1, 0] rfl ?_
    exact l_X0_commonFaults_16 C hr 1000 xa0 31 0 σ h
  · have h := iP xq2 h
    refine g_iconst (v := 0) (pc := 7) C dX0_commonFaults_7 ci_0 ?_
    refine g_goto (pc := 8) C dX0_commonFaults_8 (tgt := 13) rfl ?_
    refine g_istore_n (i := 1) (lv' := [(1, .int (0)), (0, .ref (yad y (xa0)))]) (pc := 13) C dX0_commonFaults_13 rfl (Nat.le_of_ble_eq_true rfl) rfl ?_
    refine g_iconst (v := 0) (pc := 14) C dX0_commonFaults_14 ci_0 ?_
    refine g_istore_n (i := 2) (lv' := [(2, .int (0)), (1, .int (0)), (0, .ref (yad y (xa0)))]) (pc := 15) C dX0_commonFaults_15 rfl (Nat.le_of_ble_eq_true rfl) rfl ?_
    refine g_sub (lv' := [(0, .ref (yad y (xa0))), (1, .int (0)), (2, .int (0))]) C [2, 1, 0] rfl ?_
    exact l_X0_commonFaults_16 C hr 1000 xa0 0 0 σ h
theorem c_X0_commonFaults (l : Launch) (y : YT) (xa0 : Nat) (σ σ' : Sto) (r : Int32) (h : F_X0_commonFaults xa0 σ = some (r, σ')) : MI l y yX0_commonFaults (Cond.code yX0_commonFaults cX0_commonFaults 5 (some .int) :: TT) rm_X0_commonFaults [.ref (yad y (xa0))] σ r σ' :=
  mkI (by decide) rfl rfl rfl (Nat.le_of_ble_eq_true rfl) (fun x Z C hr => b_X0_commonFaults_0 C hr xa0 σ h)
def rm_X0_faultsTogether : Room := { frames := 3, cells := 0, slots := 0, locals := 84 }
def F_X0_faultsTogether_b11 (xk_11 : Nat → Option Nat → Int32 → Int32 → Sto → Option (Int32 × Sto)) (xa0 : Nat) (xa2 : Option Nat) (xa3 : Int32) (xa4 : Int32) (σ : Sto) : Option (Int32 × Sto) := if 4 ≤ xa4 then some (xa3, σ) else ocase xa2 (some (xa3, σ)) (fun xk2 => ck (kd (xa0) == 0) (bnd (F_X0_faultsOf (xa0) (xk2) (xa4) σ) (fun xr6 xσ3 => bnd (F_J6_bitCount_0f7a4 (xr6) xσ3) (fun xr9 xσ7 => lti (xa3 + xr9) (fun xv10 => xk_11 xa0 (some (xk2)) xv10 (xa4 + 1) xσ7)))))
def F_X0_faultsTogether (xa0 : Nat) (xa1 : Int32) (σ : Sto) : Option (Int32 × Sto) := ck (kd (xa0) == 0) (bnd (F_X0_who (xa0) (xa1) σ) (fun xr4 xσ1 => lo4 (F_X0_faultsTogether_b11) 1000 xa0 xr4 0 0 xσ1))
set_option maxHeartbeats 4000000 in
set_option maxRecDepth 20000 in
theorem b_X0_faultsTogether_11 {x : XT} {y : YT} {Z : State → Prop} (C : Cx x y (AY y) RX0 cX0_faultsTogether 5 rm_X0_faultsTogether) {r : Int32} {σ' : Sto} (hr : RetI x y (AY y) 5 cX0_faultsTogether Z r σ') (xk_11 : Nat → Option Nat → Int32 → Int32 → Sto → Option (Int32 × Sto)) (xH11 : ∀ (xa0 : Nat) (xa2 : Option Nat) (xa3 : Int32) (xa4 : Int32) (σ : Sto), xk_11 xa0 xa2 xa3 xa4 σ = some (r, σ') → GW x y (AY y) 5 Z 11 [(0, .ref (yad y (xa0))), (2, nv y xa2), (3, .int (xa3)), (4, .int (xa4))] [] σ) (xa0 : Nat) (xa2 : Option Nat) (xa3 : Int32) (xa4 : Int32) (σ : Sto) (h : F_X0_faultsTogether_b11 xk_11 xa0 xa2 xa3 xa4 σ = some (r, σ')) : GW x y (AY y) 5 Z 11 [(0, .ref (yad y (xa0))), (2, nv y xa2), (3, .int (xa3)), (4, .int (xa4))] [] σ := by
  unfold F_X0_faultsTogether_b11 at h
  refine g_iload (pc := 11) C dX0_faultsTogether_11 3 rfl ?_
  refine g_iconst (v := 4) (pc := 13) C dX0_faultsTogether_13 ci_4 ?_
  refine g_icmp_ge (pc := 14) C dX0_faultsTogether_14 (tgt := 40) rfl (fun xq1 => ?_) (fun xq1 => ?_)
  · have h := iP xq1 h
    refine g_iload_n (pc := 40) C dX0_faultsTogether_40 rfl 2 rfl ?_
    exact rtI hr dX0_faultsTogether_41 h
  · have h := iN xq1 h
    refine g_naload_n (pc := 17) C dX0_faultsTogether_17 rfl 1 rfl ?_
    refine g_ifnull (pc := 18) C dX0_faultsTogether_18 (tgt := 40) rfl (fun xq11 => ?_) (fun xk2 xq11 => ?_)
    · subst xq11
      have h := iO0 h
      refine g_iload_n (pc := 40) C dX0_faultsTogether_40 rfl 2 rfl ?_
      exact rtI hr dX0_faultsTogether_41 h
    · subst xq11
      have h := iO1 h
      refine g_iload_n (pc := 21) C dX0_faultsTogether_21 rfl 2 rfl ?_
      refine g_aload_n (pc := 22) C dX0_faultsTogether_22 rfl 0 rfl ?_
      refine g_aload_n (pc := 23) C dX0_faultsTogether_23 rfl 1 rfl ?_
      refine g_iload (pc := 24) C dX0_faultsTogether_24 3 rfl ?_
      obtain ⟨xq5, h⟩ := iC h
      have xq5 := keq xq5
      obtain ⟨xr6, xσ3, xc4, h⟩ := iB h
      refine g_callVi (pc := 26) (As := [.ref (yad y (xk2)), .int (xa4)]) (rest := [.int (xa3)]) C dX0_faultsTogether_26 (fun l => c_X0_faultsOf l y _ _ _ _ _ _ xc4) cv_X0_102 ⟨rfl, rfl, Nat.le_of_ble_eq_true rfl, Nat.le_of_ble_eq_true rfl⟩ (rv0 xq5) rfl (Nat.le_of_ble_eq_true rfl) ?_
      obtain ⟨xr9, xσ7, xc8, h⟩ := iB h
      refine g_callSi (pc := 29) (As := [.int (xr6)]) (rest := [.int (xa3)]) C dX0_faultsTogether_29 (fun l => c_J6_bitCount_0f7a4 l y _ _ _ _ xc8) cv_X0_110 ⟨rfl, rfl, Nat.le_of_ble_eq_true rfl, Nat.le_of_ble_eq_true rfl⟩ rfl (Nat.le_of_ble_eq_true rfl) ?_
      refine g_iadd (pc := 32) C dX0_faultsTogether_32 ?_
      refine g_letI h (fun xv10 h => ?_)
      refine g_istore_n (i := 3) (lv' := [(3, .int (xv10)), (0, .ref (yad y (xa0))), (2, .ref (yad y (xk2))), (4, .int (xa4))]) (pc := 33) C dX0_faultsTogether_33 rfl (Nat.le_of_ble_eq_true rfl) rfl ?_
      refine g_iinc (lv' := [(4, .int (xa4 + 1)), (3, .int (xv10)), (0, .ref (yad y (xa0))), (2, .ref (yad y (xk2)))]) (w := xa4 + 1) (pc := 34) C dX0_faultsTogether_34 (k := 3) rfl rfl (Nat.le_of_ble_eq_true rfl) rfl ?_
      refine g_goto (pc := 37) C dX0_faultsTogether_37 (tgt := 11) rfl ?_
      refine g_sub (lv' := [(0, .ref (yad y (xa0))), (2, nv y (some (xk2))), (3, .int (xv10)), (4, .int (xa4 + 1))]) C [2, 3, 1, 0] rfl ?_
      exact xH11 xa0 (some (xk2)) xv10 (xa4 + 1) xσ7 h
theorem l_X0_faultsTogether_11 {x : XT} {y : YT} {Z : State → Prop} (C : Cx x y (AY y) RX0 cX0_faultsTogether 5 rm_X0_faultsTogether) {r : Int32} {σ' : Sto} (hr : RetI x y (AY y) 5 cX0_faultsTogether Z r σ') (n : Nat) (xa0 : Nat) (xa2 : Option Nat) (xa3 : Int32) (xa4 : Int32) (σ : Sto) (h : lo4 (F_X0_faultsTogether_b11) n xa0 xa2 xa3 xa4 σ = some (r, σ')) : GW x y (AY y) 5 Z 11 [(0, .ref (yad y (xa0))), (2, nv y xa2), (3, .int (xa3)), (4, .int (xa4))] [] σ :=
  lo4_gw (G := fun xa0 xa2 xa3 xa4 σ => GW x y (AY y) 5 Z 11 [(0, .ref (yad y (xa0))), (2, nv y xa2), (3, .int (xa3)), (4, .int (xa4))] [] σ) (fun xk xHk xa0 xa2 xa3 xa4 σ h => b_X0_faultsTogether_11 C hr xk xHk xa0 xa2 xa3 xa4 σ h) n xa0 xa2 xa3 xa4 σ h
set_option maxHeartbeats 4000000 in
set_option maxRecDepth 20000 in
theorem b_X0_faultsTogether_0 {x : XT} {y : YT} {Z : State → Prop} (C : Cx x y (AY y) RX0 cX0_faultsTogether 5 rm_X0_faultsTogether) {r : Int32} {σ' : Sto} (hr : RetI x y (AY y) 5 cX0_faultsTogether Z r σ') (xa0 : Nat) (xa1 : Int32) (σ : Sto) (h : F_X0_faultsTogether xa0 xa1 σ = some (r, σ')) : GW x y (AY y) 5 Z 0 [(0, .ref (yad y (xa0))), (1, .int (xa1))] [] σ := by
  unfold F_X0_faultsTogether at h
  refine g_aload_n (pc := 0) C dX0_faultsTogether_0 rfl 0 rfl ?_
  refine g_iload_n (pc := 1) C dX0_faultsTogether_1 rfl 1 rfl ?_
  obtain ⟨xq3, h⟩ := iC h
  have xq3 := keq xq3
  obtain ⟨xr4, xσ1, xc2, h⟩ := iB h
  refine g_callVq (pc := 2) (As := [.int (xa1)]) (rest := []) C dX0_faultsTogether_2 (fun l => c_X0_who l y _ _ _ _ _ xc2) cv_X0_69 ⟨rfl, rfl, Nat.le_of_ble_eq_true rfl, Nat.le_of_ble_eq_true rfl⟩ (rv0 xq3) rfl (Nat.le_of_ble_eq_true rfl) ?_
  refine g_nastore_n (i := 2) (lv' := [(2, nv y xr4), (0, .ref (yad y (xa0))), (1, .int (xa1))]) (pc := 5) C dX0_faultsTogether_5 rfl (Nat.le_of_ble_eq_true rfl) rfl ?_
  refine g_iconst (v := 0) (pc := 6) C dX0_faultsTogether_6 ci_0 ?_
  refine g_istore_n (i := 3) (lv' := [(3, .int (0)), (2, nv y xr4), (0, .ref (yad y (xa0))), (1, .int (xa1))]) (pc := 7) C dX0_faultsTogether_7 rfl (Nat.le_of_ble_eq_true rfl) (by simp [nv_cat, cat_int, cat_ref]) ?_
  refine g_iconst (v := 0) (pc := 8) C dX0_faultsTogether_8 ci_0 ?_
  refine g_istore (i := 4) (lv' := [(4, .int (0)), (3, .int (0)), (2, nv y xr4), (0, .ref (yad y (xa0))), (1, .int (xa1))]) (pc := 9) C dX0_faultsTogether_9 (Nat.le_of_ble_eq_true rfl) rfl ?_
  refine g_sub (lv' := [(0, .ref (yad y (xa0))), (2, nv y xr4), (3, .int (0)), (4, .int (0))]) C [3, 2, 1, 0] rfl ?_
  exact l_X0_faultsTogether_11 C hr 1000 xa0 xr4 0 0 xσ1 h
theorem c_X0_faultsTogether (l : Launch) (y : YT) (xa0 : Nat) (xa1 : Int32) (σ σ' : Sto) (r : Int32) (h : F_X0_faultsTogether xa0 xa1 σ = some (r, σ')) : MI l y yX0_faultsTogether (Cond.code yX0_faultsTogether cX0_faultsTogether 5 (some .int) :: TT) rm_X0_faultsTogether [.ref (yad y (xa0)), .int (xa1)] σ r σ' :=
  mkI (by decide) rfl rfl rfl (Nat.le_of_ble_eq_true rfl) (fun x Z C hr => b_X0_faultsTogether_0 C hr xa0 xa1 σ h)
def rm_X0_turnStool : Room := { frames := 1, cells := 0, slots := 0, locals := 40 }
def F_X0_turnStool (xa0 : Nat) (xa1 : Nat) (σ : Sto) : Option (Unit × Sto) := ck (kd (xa1) == 2) (bnd (F_X0_mostOf 0 σ) (fun xr4 xσ2 => lti (imax 0 (imin (80 - (σ xa1 1)) xr4)) (fun xv5 => ck (kd (xa0) == 0) (lts (up2 xσ2 (xa0) 0 ((xσ2 xa0 0) + (imax (-4) (imin (xv5 - (xσ2 xa0 0)) 4)))) (fun xσ7 => some ((), xσ7))))))
set_option maxHeartbeats 4000000 in
set_option maxRecDepth 20000 in
theorem b_X0_turnStool_0 {x : XT} {y : YT} {Z : State → Prop} (C : Cx x y (AY y) RX0 cX0_turnStool 3 rm_X0_turnStool) {r : Unit} {σ' : Sto} (hr : RetV x y (AY y) 3 cX0_turnStool Z r σ') (xa0 : Nat) (xa1 : Nat) (σ : Sto) (h : F_X0_turnStool xa0 xa1 σ = some (r, σ')) : GW x y (AY y) 3 Z 0 [(0, .ref (yad y (xa0))), (1, .ref (yad y (xa1)))] [] σ := by
  unfold F_X0_turnStool at h
  refine g_iconst (v := 0) (pc := 0) C dX0_turnStool_0 ci_0 ?_
  refine g_bipush (v := 80) (pc := 1) C dX0_turnStool_1 cb_80 ?_
  refine g_aload_n (pc := 3) C dX0_turnStool_3 rfl 1 rfl ?_
  obtain ⟨xq1, h⟩ := iC h
  have xq1 := keq xq1
  refine gf_2_1 (pc := 4) C wf_X0_160 dX0_turnStool_4 xq1 ?_
  refine g_isub (pc := 7) C dX0_turnStool_7 ?_
  refine g_iconst (v := 0) (pc := 8) C dX0_turnStool_8 ci_0 ?_
  obtain ⟨xr4, xσ2, xc3, h⟩ := iB h
  refine g_callSi (pc := 9) (As := [.int (0)]) (rest := [.int (80 - (σ xa1 1)), .int (0)]) C dX0_turnStool_9 (fun l => c_X0_mostOf l y _ _ _ _ xc3) cv_X0_138 ⟨rfl, rfl, Nat.le_of_ble_eq_true rfl, Nat.le_of_ble_eq_true rfl⟩ rfl (Nat.le_of_ble_eq_true rfl) ?_
  refine g_mmin (pc := 12) C dX0_turnStool_12 wm_X0_130 wt_min wn_Math wc_min (Nat.le_of_ble_eq_true rfl) (Nat.le_of_ble_eq_true rfl) ?_
  refine g_mmax (pc := 15) C dX0_turnStool_15 wm_X0_157 wt_max wn_Math wc_max (Nat.le_of_ble_eq_true rfl) (Nat.le_of_ble_eq_true rfl) ?_
  refine g_letI h (fun xv5 h => ?_)
  refine g_istore_n (i := 2) (lv' := [(2, .int (xv5)), (0, .ref (yad y (xa0))), (1, .ref (yad y (xa1)))]) (pc := 18) C dX0_turnStool_18 rfl (Nat.le_of_ble_eq_true rfl) rfl ?_
  refine g_aload_n (pc := 19) C dX0_turnStool_19 rfl 1 rfl ?_
  refine g_dup (pc := 20) C dX0_turnStool_20 rfl ?_
  obtain ⟨xq6, h⟩ := iC h
  have xq6 := keq xq6
  refine gf_0_0 (pc := 21) C wf_X0_9 dX0_turnStool_21 xq6 ?_
  refine g_bipush (v := (-4)) (pc := 24) C dX0_turnStool_24 cb_m4 ?_
  refine g_iload_n (pc := 26) C dX0_turnStool_26 rfl 0 rfl ?_
  refine g_aload_n (pc := 27) C dX0_turnStool_27 rfl 1 rfl ?_
  refine gf_0_0 (pc := 28) C wf_X0_9 dX0_turnStool_28 xq6 ?_
  refine g_isub (pc := 31) C dX0_turnStool_31 ?_
  refine g_iconst (v := 4) (pc := 32) C dX0_turnStool_32 ci_4 ?_
  refine g_mmin (pc := 33) C dX0_turnStool_33 wm_X0_130 wt_min wn_Math wc_min (Nat.le_of_ble_eq_true rfl) (Nat.le_of_ble_eq_true rfl) ?_
  refine g_mmax (pc := 36) C dX0_turnStool_36 wm_X0_157 wt_max wn_Math wc_max (Nat.le_of_ble_eq_true rfl) (Nat.le_of_ble_eq_true rfl) ?_
  refine g_iadd (pc := 39) C dX0_turnStool_39 ?_
  refine gp_0_0 (pc := 40) C wf_X0_9 dX0_turnStool_40 xq6 ?_
  refine g_letS h (fun xσ7 h => ?_)
  exact rtV hr dX0_turnStool_43 h
theorem c_X0_turnStool (l : Launch) (y : YT) (xa0 : Nat) (xa1 : Nat) (σ σ' : Sto) (r : Unit) (h : F_X0_turnStool xa0 xa1 σ = some (r, σ')) : MV l y yX0_turnStool (Cond.code yX0_turnStool cX0_turnStool 3 none :: TT) rm_X0_turnStool [.ref (yad y (xa0)), .ref (yad y (xa1))] σ r σ' :=
  mkV (by decide) rfl rfl rfl (Nat.le_of_ble_eq_true rfl) (fun x Z C hr => b_X0_turnStool_0 C hr xa0 xa1 σ h)
def rm_X0_takePictures : Room := { frames := 4, cells := 0, slots := 0, locals := 106 }
def F_X0_takePictures (xa0 : Nat) (xa1 : Nat) (σ : Sto) : Option (Unit × Sto) := ck (kd (xa1) == 2) (ck (kd (xa0) == 0) (lts (up2 σ (xa1) 4 ((σ xa1 4) - (σ xa0 2))) (fun xσ3 => bnd (F_X0_mostOf 3 xσ3) (fun xr6 xσ4 => lts (up2 xσ4 (xa0) 3 (imin ((xσ3 xa0 3) + (xσ3 xa0 2)) xr6)) (fun xσ7 => bnd (F_X2_mostOf 6 xσ7) (fun xr10 xσ8 => lts (up2 xσ8 (xa1) 6 (imin ((xσ7 xa1 6) + 1) xr10)) (fun xσ11 => bnd (F_X0_turnStool (xa0) (xa1) xσ11) (fun xr14 xσ12 => bnd (F_X0_hasClearFlash (xa0) (xa1) xσ12) (fun xr17 xσ15 => if (xr17) = 0 then lts (up2 xσ15 (xa1) 3 (imax ((xσ15 xa1 3) - 1) 0)) (fun xσ19 => some ((), xσ19)) else bnd (F_X2_mostOf 5 xσ15) (fun xr22 xσ20 => lts (up2 xσ20 (xa1) 5 (imin ((xσ15 xa1 5) + 1) xr22)) (fun xσ23 => bnd (F_X2_mostOf 2 xσ23) (fun xr26 xσ24 => lts (up2 xσ24 (xa1) 2 (imin ((xσ23 xa1 2) + 1) xr26)) (fun xσ27 => some ((), xσ27))))))))))))))
set_option maxHeartbeats 4000000 in
set_option maxRecDepth 20000 in
theorem b_X0_takePictures_0 {x : XT} {y : YT} {Z : State → Prop} (C : Cx x y (AY y) RX0 cX0_takePictures 2 rm_X0_takePictures) {r : Unit} {σ' : Sto} (hr : RetV x y (AY y) 2 cX0_takePictures Z r σ') (xa0 : Nat) (xa1 : Nat) (σ : Sto) (h : F_X0_takePictures xa0 xa1 σ = some (r, σ')) : GW x y (AY y) 2 Z 0 [(0, .ref (yad y (xa0))), (1, .ref (yad y (xa1)))] [] σ := by
  unfold F_X0_takePictures at h
  refine g_aload_n (pc := 0) C dX0_takePictures_0 rfl 1 rfl ?_
  refine g_dup (pc := 1) C dX0_takePictures_1 rfl ?_
  obtain ⟨xq1, h⟩ := iC h
  have xq1 := keq xq1
  refine gf_2_4 (pc := 2) C wf_X0_124 dX0_takePictures_2 xq1 ?_
  refine g_aload_n (pc := 5) C dX0_takePictures_5 rfl 0 rfl ?_
  obtain ⟨xq2, h⟩ := iC h
  have xq2 := keq xq2
  refine gf_0_2 (pc := 6) C wf_X0_18 dX0_takePictures_6 xq2 ?_
  refine g_isub (pc := 9) C dX0_takePictures_9 ?_
  refine gp_2_4 (pc := 10) C wf_X0_124 dX0_takePictures_10 xq1 ?_
  refine g_letS h (fun xσ3 h => ?_)
  refine g_aload_n (pc := 13) C dX0_takePictures_13 rfl 0 rfl ?_
  refine g_aload_n (pc := 14) C dX0_takePictures_14 rfl 0 rfl ?_
  refine gf_0_3 (pc := 15) C wf_X0_21 dX0_takePictures_15 xq2 ?_
  refine g_aload_n (pc := 18) C dX0_takePictures_18 rfl 0 rfl ?_
  refine gf_0_2 (pc := 19) C wf_X0_18 dX0_takePictures_19 xq2 ?_
  refine g_iadd (pc := 22) C dX0_takePictures_22 ?_
  refine g_iconst (v := 3) (pc := 23) C dX0_takePictures_23 ci_3 ?_
  obtain ⟨xr6, xσ4, xc5, h⟩ := iB h
  refine g_callSi (pc := 24) (As := [.int (3)]) (rest := [.int ((xσ3 xa0 3) + (xσ3 xa0 2)), .ref (yad y (xa0))]) C dX0_takePictures_24 (fun l => c_X0_mostOf l y _ _ _ _ xc5) cv_X0_138 ⟨rfl, rfl, Nat.le_of_ble_eq_true rfl, Nat.le_of_ble_eq_true rfl⟩ rfl (Nat.le_of_ble_eq_true rfl) ?_
  refine g_mmin (pc := 27) C dX0_takePictures_27 wm_X0_130 wt_min wn_Math wc_min (Nat.le_of_ble_eq_true rfl) (Nat.le_of_ble_eq_true rfl) ?_
  refine gp_0_3 (pc := 30) C wf_X0_21 dX0_takePictures_30 xq2 ?_
  refine g_letS h (fun xσ7 h => ?_)
  refine g_aload_n (pc := 33) C dX0_takePictures_33 rfl 1 rfl ?_
  refine g_aload_n (pc := 34) C dX0_takePictures_34 rfl 1 rfl ?_
  refine gf_2_6 (pc := 35) C wf_X0_141 dX0_takePictures_35 xq1 ?_
  refine g_iconst (v := 1) (pc := 38) C dX0_takePictures_38 ci_1 ?_
  refine g_iadd (pc := 39) C dX0_takePictures_39 ?_
  refine g_bipush (v := 6) (pc := 40) C dX0_takePictures_40 cb_6 ?_
  obtain ⟨xr10, xσ8, xc9, h⟩ := iB h
  refine g_callSi (pc := 42) (As := [.int (6)]) (rest := [.int ((xσ7 xa1 6) + 1), .ref (yad y (xa1))]) C dX0_takePictures_42 (fun l => c_X2_mostOf l y _ _ _ _ xc9) cv_X0_144 ⟨rfl, rfl, Nat.le_of_ble_eq_true rfl, Nat.le_of_ble_eq_true rfl⟩ rfl (Nat.le_of_ble_eq_true rfl) ?_
  refine g_mmin (pc := 45) C dX0_takePictures_45 wm_X0_130 wt_min wn_Math wc_min (Nat.le_of_ble_eq_true rfl) (Nat.le_of_ble_eq_true rfl) ?_
  refine gp_2_6 (pc := 48) C wf_X0_141 dX0_takePictures_48 xq1 ?_
  refine g_letS h (fun xσ11 h => ?_)
  refine g_aload_n (pc := 51) C dX0_takePictures_51 rfl 0 rfl ?_
  refine g_aload_n (pc := 52) C dX0_takePictures_52 rfl 1 rfl ?_
  obtain ⟨xr14, xσ12, xc13, h⟩ := iB h
  refine g_callVv (pc := 53) (As := [.ref (yad y (xa1))]) (rest := []) C dX0_takePictures_53 (fun l => c_X0_turnStool l y _ _ _ _ _ xc13) cv_X0_145 ⟨rfl, rfl, Nat.le_of_ble_eq_true rfl, Nat.le_of_ble_eq_true rfl⟩ (rv0 xq2) rfl (Nat.le_of_ble_eq_true rfl) ?_
  refine g_aload_n (pc := 56) C dX0_takePictures_56 rfl 0 rfl ?_
  refine g_aload_n (pc := 57) C dX0_takePictures_57 rfl 1 rfl ?_
  obtain ⟨xr17, xσ15, xc16, h⟩ := iB h
  refine g_callVi (pc := 58) (As := [.ref (yad y (xa1))]) (rest := []) C dX0_takePictures_58 (fun l => c_X0_hasClearFlash l y _ _ _ _ _ xc16) cv_X0_106 ⟨rfl, rfl, Nat.le_of_ble_eq_true rfl, Nat.le_of_ble_eq_true rfl⟩ (rv0 xq2) rfl (Nat.le_of_ble_eq_true rfl) ?_
  refine g_if_eq (pc := 61) C dX0_takePictures_61 (tgt := 101) rfl (fun xq18 => ?_) (fun xq18 => ?_)
  · have h := iP xq18 h
    refine g_aload_n (pc := 101) C dX0_takePictures_101 rfl 1 rfl ?_
    refine g_aload_n (pc := 102) C dX0_takePictures_102 rfl 1 rfl ?_
    refine gf_2_3 (pc := 103) C wf_X0_154 dX0_takePictures_103 xq1 ?_
    refine g_iconst (v := 1) (pc := 106) C dX0_takePictures_106 ci_1 ?_
    refine g_isub (pc := 107) C dX0_takePictures_107 ?_
    refine g_iconst (v := 0) (pc := 108) C dX0_takePictures_108 ci_0 ?_
    refine g_mmax (pc := 109) C dX0_takePictures_109 wm_X0_157 wt_max wn_Math wc_max (Nat.le_of_ble_eq_true rfl) (Nat.le_of_ble_eq_true rfl) ?_
    refine gp_2_3 (pc := 112) C wf_X0_154 dX0_takePictures_112 xq1 ?_
    refine g_letS h (fun xσ19 h => ?_)
    exact rtV hr dX0_takePictures_115 h
  · have h := iN xq18 h
    refine g_aload_n (pc := 64) C dX0_takePictures_64 rfl 1 rfl ?_
    refine g_aload_n (pc := 65) C dX0_takePictures_65 rfl 1 rfl ?_
    refine gf_2_5 (pc := 66) C wf_X0_148 dX0_takePictures_66 xq1 ?_
    refine g_iconst (v := 1) (pc := 69) C dX0_takePictures_69 ci_1 ?_
    refine g_iadd (pc := 70) C dX0_takePictures_70 ?_
    refine g_iconst (v := 5) (pc := 71) C dX0_takePictures_71 ci_5 ?_
    obtain ⟨xr22, xσ20, xc21, h⟩ := iB h
    refine g_callSi (pc := 72) (As := [.int (5)]) (rest := [.int ((xσ15 xa1 5) + 1), .ref (yad y (xa1))]) C dX0_takePictures_72 (fun l => c_X2_mostOf l y _ _ _ _ xc21) cv_X0_144 ⟨rfl, rfl, Nat.le_of_ble_eq_true rfl, Nat.le_of_ble_eq_true rfl⟩ rfl (Nat.le_of_ble_eq_true rfl) ?_
    refine g_mmin (pc := 75) C dX0_takePictures_75 wm_X0_130 wt_min wn_Math wc_min (Nat.le_of_ble_eq_true rfl) (Nat.le_of_ble_eq_true rfl) ?_
    refine gp_2_5 (pc := 78) C wf_X0_148 dX0_takePictures_78 xq1 ?_
    refine g_letS h (fun xσ23 h => ?_)
    refine g_aload_n (pc := 81) C dX0_takePictures_81 rfl 1 rfl ?_
    refine g_aload_n (pc := 82) C dX0_takePictures_82 rfl 1 rfl ?_
    refine gf_2_2 (pc := 83) C wf_X0_151 dX0_takePictures_83 xq1 ?_
    refine g_iconst (v := 1) (pc := 86) C dX0_takePictures_86 ci_1 ?_
    refine g_iadd (pc := 87) C dX0_takePictures_87 ?_
    refine g_iconst (v := 2) (pc := 88) C dX0_takePictures_88 ci_2 ?_
    obtain ⟨xr26, xσ24, xc25, h⟩ := iB h
    refine g_callSi (pc := 89) (As := [.int (2)]) (rest := [.int ((xσ23 xa1 2) + 1), .ref (yad y (xa1))]) C dX0_takePictures_89 (fun l => c_X2_mostOf l y _ _ _ _ xc25) cv_X0_144 ⟨rfl, rfl, Nat.le_of_ble_eq_true rfl, Nat.le_of_ble_eq_true rfl⟩ rfl (Nat.le_of_ble_eq_true rfl) ?_
    refine g_mmin (pc := 92) C dX0_takePictures_92 wm_X0_130 wt_min wn_Math wc_min (Nat.le_of_ble_eq_true rfl) (Nat.le_of_ble_eq_true rfl) ?_
    refine gp_2_2 (pc := 95) C wf_X0_151 dX0_takePictures_95 xq1 ?_
    refine g_letS h (fun xσ27 h => ?_)
    refine g_goto (pc := 98) C dX0_takePictures_98 (tgt := 115) rfl ?_
    exact rtV hr dX0_takePictures_115 h
theorem c_X0_takePictures (l : Launch) (y : YT) (xa0 : Nat) (xa1 : Nat) (σ σ' : Sto) (r : Unit) (h : F_X0_takePictures xa0 xa1 σ = some (r, σ')) : MV l y yX0_takePictures (Cond.code yX0_takePictures cX0_takePictures 2 none :: TT) rm_X0_takePictures [.ref (yad y (xa0)), .ref (yad y (xa1))] σ r σ' :=
  mkV (by decide) rfl rfl rfl (Nat.le_of_ble_eq_true rfl) (fun x Z C hr => b_X0_takePictures_0 C hr xa0 xa1 σ h)
def rm_X0_payOut : Room := { frames := 2, cells := 0, slots := 0, locals := 42 }
def F_X0_payOut_b2 (xk_2 : Nat → Int32 → Sto → Option (Unit × Sto)) (xa0 : Nat) (xa1 : Int32) (σ : Sto) : Option (Unit × Sto) := ck (kd (xa0) == 0) (if (σ xa0 6) ≤ xa1 then some ((), σ) else bnd (F_X0_who (xa0) (xa1) σ) (fun xr5 xσ3 => ocase xr5 (xk_2 xa0 (xa1 + 1) xσ3) (fun xk6 => ck (kd (xk6) == 2) (bnd (F_X2_mostOf 4 xσ3) (fun xr10 xσ8 => lts (up2 xσ8 (xk6) 4 (imin ((xσ3 xk6 4) + 3) xr10)) (fun xσ11 => xk_2 xa0 (xa1 + 1) xσ11))))))
def F_X0_payOut (xa0 : Nat) (σ : Sto) : Option (Unit × Sto) := lo2 (F_X0_payOut_b2) 1000 xa0 0 σ
set_option maxHeartbeats 4000000 in
set_option maxRecDepth 20000 in
theorem b_X0_payOut_2 {x : XT} {y : YT} {Z : State → Prop} (C : Cx x y (AY y) RX0 cX0_payOut 3 rm_X0_payOut) {r : Unit} {σ' : Sto} (hr : RetV x y (AY y) 3 cX0_payOut Z r σ') (xk_2 : Nat → Int32 → Sto → Option (Unit × Sto)) (xH2 : ∀ (xa0 : Nat) (xa1 : Int32) (σ : Sto), xk_2 xa0 xa1 σ = some (r, σ') → GW x y (AY y) 3 Z 2 [(0, .ref (yad y (xa0))), (1, .int (xa1))] [] σ) (xa0 : Nat) (xa1 : Int32) (σ : Sto) (h : F_X0_payOut_b2 xk_2 xa0 xa1 σ = some (r, σ')) : GW x y (AY y) 3 Z 2 [(0, .ref (yad y (xa0))), (1, .int (xa1))] [] σ := by
  unfold F_X0_payOut_b2 at h
  refine g_iload_n (pc := 2) C dX0_payOut_2 rfl 1 rfl ?_
  refine g_aload_n (pc := 3) C dX0_payOut_3 rfl 0 rfl ?_
  obtain ⟨xq1, h⟩ := iC h
  have xq1 := keq xq1
  refine gf_0_6 (pc := 4) C wf_X0_30 dX0_payOut_4 xq1 ?_
  refine g_icmp_ge (pc := 7) C dX0_payOut_7 (tgt := 43) rfl (fun xq2 => ?_) (fun xq2 => ?_)
  · have h := iP xq2 h
    exact rtV hr dX0_payOut_43 h
  · have h := iN xq2 h
    refine g_aload_n (pc := 10) C dX0_payOut_10 rfl 0 rfl ?_
    refine g_iload_n (pc := 11) C dX0_payOut_11 rfl 1 rfl ?_
    obtain ⟨xr5, xσ3, xc4, h⟩ := iB h
    refine g_callVq (pc := 12) (As := [.int (xa1)]) (rest := []) C dX0_payOut_12 (fun l => c_X0_who l y _ _ _ _ _ xc4) cv_X0_69 ⟨rfl, rfl, Nat.le_of_ble_eq_true rfl, Nat.le_of_ble_eq_true rfl⟩ (rv0 xq1) rfl (Nat.le_of_ble_eq_true rfl) ?_
    refine g_nastore_n (i := 2) (lv' := [(2, nv y xr5), (0, .ref (yad y (xa0))), (1, .int (xa1))]) (pc := 15) C dX0_payOut_15 rfl (Nat.le_of_ble_eq_true rfl) rfl ?_
    refine g_naload_n (pc := 16) C dX0_payOut_16 rfl 0 rfl ?_
    refine g_ifnull (pc := 17) C dX0_payOut_17 (tgt := 37) rfl (fun xq12 => ?_) (fun xk6 xq12 => ?_)
    · subst xq12
      have h := iO0 h
      refine g_iinc (lv' := [(1, .int (xa1 + 1)), (2, nv y none), (0, .ref (yad y (xa0)))]) (w := xa1 + 1) (pc := 37) C dX0_payOut_37 (k := 2) rfl rfl (Nat.le_of_ble_eq_true rfl) rfl ?_
      refine g_goto (pc := 40) C dX0_payOut_40 (tgt := 2) rfl ?_
      refine g_sub (lv' := [(0, .ref (yad y (xa0))), (1, .int (xa1 + 1))]) C [2, 0] rfl ?_
      exact xH2 xa0 (xa1 + 1) xσ3 h
    · subst xq12
      have h := iO1 h
      refine g_aload_n (pc := 20) C dX0_payOut_20 rfl 0 rfl ?_
      refine g_aload_n (pc := 21) C dX0_payOut_21 rfl 0 rfl ?_
      obtain ⟨xq7, h⟩ := iC h
      have xq7 := keq xq7
      refine gf_2_4 (pc := 22) C wf_X0_124 dX0_payOut_22 xq7 ?_
      refine g_iconst (v := 3) (pc := 25) C dX0_payOut_25 ci_3 ?_
      refine g_iadd (pc := 26) C dX0_payOut_26 ?_
      refine g_iconst (v := 4) (pc := 27) C dX0_payOut_27 ci_4 ?_
      obtain ⟨xr10, xσ8, xc9, h⟩ := iB h
      refine g_callSi (pc := 28) (As := [.int (4)]) (rest := [.int ((xσ3 xk6 4) + 3), .ref (yad y (xk6))]) C dX0_payOut_28 (fun l => c_X2_mostOf l y _ _ _ _ xc9) cv_X0_144 ⟨rfl, rfl, Nat.le_of_ble_eq_true rfl, Nat.le_of_ble_eq_true rfl⟩ rfl (Nat.le_of_ble_eq_true rfl) ?_
      refine g_mmin (pc := 31) C dX0_payOut_31 wm_X0_130 wt_min wn_Math wc_min (Nat.le_of_ble_eq_true rfl) (Nat.le_of_ble_eq_true rfl) ?_
      refine gp_2_4 (pc := 34) C wf_X0_124 dX0_payOut_34 xq7 ?_
      refine g_letS h (fun xσ11 h => ?_)
      refine g_iinc (lv' := [(1, .int (xa1 + 1)), (2, .ref (yad y (xk6))), (0, .ref (yad y (xa0)))]) (w := xa1 + 1) (pc := 37) C dX0_payOut_37 (k := 2) rfl rfl (Nat.le_of_ble_eq_true rfl) rfl ?_
      refine g_goto (pc := 40) C dX0_payOut_40 (tgt := 2) rfl ?_
      refine g_sub (lv' := [(0, .ref (yad y (xa0))), (1, .int (xa1 + 1))]) C [2, 0] rfl ?_
      exact xH2 xa0 (xa1 + 1) xσ11 h
theorem l_X0_payOut_2 {x : XT} {y : YT} {Z : State → Prop} (C : Cx x y (AY y) RX0 cX0_payOut 3 rm_X0_payOut) {r : Unit} {σ' : Sto} (hr : RetV x y (AY y) 3 cX0_payOut Z r σ') (n : Nat) (xa0 : Nat) (xa1 : Int32) (σ : Sto) (h : lo2 (F_X0_payOut_b2) n xa0 xa1 σ = some (r, σ')) : GW x y (AY y) 3 Z 2 [(0, .ref (yad y (xa0))), (1, .int (xa1))] [] σ :=
  lo2_gw (G := fun xa0 xa1 σ => GW x y (AY y) 3 Z 2 [(0, .ref (yad y (xa0))), (1, .int (xa1))] [] σ) (fun xk xHk xa0 xa1 σ h => b_X0_payOut_2 C hr xk xHk xa0 xa1 σ h) n xa0 xa1 σ h
set_option maxHeartbeats 4000000 in
set_option maxRecDepth 20000 in
theorem b_X0_payOut_0 {x : XT} {y : YT} {Z : State → Prop} (C : Cx x y (AY y) RX0 cX0_payOut 3 rm_X0_payOut) {r : Unit} {σ' : Sto} (hr : RetV x y (AY y) 3 cX0_payOut Z r σ') (xa0 : Nat) (σ : Sto) (h : F_X0_payOut xa0 σ = some (r, σ')) : GW x y (AY y) 3 Z 0 [(0, .ref (yad y (xa0)))] [] σ := by
  unfold F_X0_payOut at h
  refine g_iconst (v := 0) (pc := 0) C dX0_payOut_0 ci_0 ?_
  refine g_istore_n (i := 1) (lv' := [(1, .int (0)), (0, .ref (yad y (xa0)))]) (pc := 1) C dX0_payOut_1 rfl (Nat.le_of_ble_eq_true rfl) rfl ?_
  refine g_sub (lv' := [(0, .ref (yad y (xa0))), (1, .int (0))]) C [1, 0] rfl ?_
  exact l_X0_payOut_2 C hr 1000 xa0 0 σ h
theorem c_X0_payOut (l : Launch) (y : YT) (xa0 : Nat) (σ σ' : Sto) (r : Unit) (h : F_X0_payOut xa0 σ = some (r, σ')) : MV l y yX0_payOut (Cond.code yX0_payOut cX0_payOut 3 none :: TT) rm_X0_payOut [.ref (yad y (xa0))] σ r σ' :=
  mkV (by decide) rfl rfl rfl (Nat.le_of_ble_eq_true rfl) (fun x Z C hr => b_X0_payOut_0 C hr xa0 σ h)
def rm_X0_passMinute : Room := { frames := 5, cells := 0, slots := 0, locals := 127 }
def F_X0_passMinute_b33 (xa0 : Nat) (σ : Sto) : Option (Unit × Sto) := ck (kd (xa0) == 0) (lts (up2 σ (xa0) 4 (imin ((σ xa0 4) + 1) 99999)) (fun xσ2 => if (irm (xσ2 xa0 4) 6) = 0 then bnd (F_X0_payOut (xa0) xσ2) (fun xr6 xσ4 => some ((), xσ4)) else some ((), xσ2)))
def F_X0_passMinute (xa0 : Nat) (σ : Sto) : Option (Unit × Sto) := ck (kd (xa0) == 0) (bnd (F_X0_nextPlace (xa0) σ) (fun xr4 xσ1 => bnd (F_X0_whoIsIn (xa0) (xr4) xσ1) (fun xr7 xσ5 => bnd (F_X0_who (xa0) (xr7) xσ5) (fun xr10 xσ8 => ocase xr10 (F_X0_passMinute_b33 xa0 xσ8) (fun xk11 => ck (kd (xk11) == 2) (if (xσ8 xk11 4) < (xσ8 xa0 2) then F_X0_passMinute_b33 xa0 xσ8 else bnd (F_X0_takePictures (xa0) (xk11) xσ8) (fun xr16 xσ14 => F_X0_passMinute_b33 xa0 xσ14)))))))
set_option maxHeartbeats 4000000 in
set_option maxRecDepth 20000 in
theorem b_X0_passMinute_33 {x : XT} {y : YT} {Z : State → Prop} (C : Cx x y (AY y) RX0 cX0_passMinute 2 rm_X0_passMinute) {r : Unit} {σ' : Sto} (hr : RetV x y (AY y) 2 cX0_passMinute Z r σ') (xa0 : Nat) (σ : Sto) (h : F_X0_passMinute_b33 xa0 σ = some (r, σ')) : GW x y (AY y) 2 Z 33 [(0, .ref (yad y (xa0)))] [] σ := by
  unfold F_X0_passMinute_b33 at h
  refine g_aload_n (pc := 33) C dX0_passMinute_33 rfl 0 rfl ?_
  refine g_aload_n (pc := 34) C dX0_passMinute_34 rfl 0 rfl ?_
  obtain ⟨xq1, h⟩ := iC h
  have xq1 := keq xq1
  refine gf_0_4 (pc := 35) C wf_X0_24 dX0_passMinute_35 xq1 ?_
  refine g_iconst (v := 1) (pc := 38) C dX0_passMinute_38 ci_1 ?_
  refine g_iadd (pc := 39) C dX0_passMinute_39 ?_
  refine g_ldc (v := 99999) (pc := 40) C dX0_passMinute_40 wk_X0_57 ?_
  refine g_mmin (pc := 42) C dX0_passMinute_42 wm_X0_130 wt_min wn_Math wc_min (Nat.le_of_ble_eq_true rfl) (Nat.le_of_ble_eq_true rfl) ?_
  refine gp_0_4 (pc := 45) C wf_X0_24 dX0_passMinute_45 xq1 ?_
  refine g_letS h (fun xσ2 h => ?_)
  refine g_aload_n (pc := 48) C dX0_passMinute_48 rfl 0 rfl ?_
  refine gf_0_4 (pc := 49) C wf_X0_24 dX0_passMinute_49 xq1 ?_
  refine g_bipush (v := 6) (pc := 52) C dX0_passMinute_52 cb_6 ?_
  refine g_irem (pc := 54) C dX0_passMinute_54 (by decide) ?_
  refine g_if_ne (pc := 55) C dX0_passMinute_55 (tgt := 62) rfl (fun xq3 => ?_) (fun xq3 => ?_)
  · have h := iN xq3 h
    exact rtV hr dX0_passMinute_62 h
  · have h := iP xq3 h
    refine g_aload_n (pc := 58) C dX0_passMinute_58 rfl 0 rfl ?_
    obtain ⟨xr6, xσ4, xc5, h⟩ := iB h
    refine g_callVv (pc := 59) (As := []) (rest := []) C dX0_passMinute_59 (fun l => c_X0_payOut l y _ _ _ _ xc5) cv_X0_135 ⟨rfl, rfl, Nat.le_of_ble_eq_true rfl, Nat.le_of_ble_eq_true rfl⟩ (rv0 xq1) rfl (Nat.le_of_ble_eq_true rfl) ?_
    exact rtV hr dX0_passMinute_62 h
set_option maxHeartbeats 4000000 in
set_option maxRecDepth 20000 in
theorem b_X0_passMinute_0 {x : XT} {y : YT} {Z : State → Prop} (C : Cx x y (AY y) RX0 cX0_passMinute 2 rm_X0_passMinute) {r : Unit} {σ' : Sto} (hr : RetV x y (AY y) 2 cX0_passMinute Z r σ') (xa0 : Nat) (σ : Sto) (h : F_X0_passMinute xa0 σ = some (r, σ')) : GW x y (AY y) 2 Z 0 [(0, .ref (yad y (xa0)))] [] σ := by
  unfold F_X0_passMinute at h
  refine g_aload_n (pc := 0) C dX0_passMinute_0 rfl 0 rfl ?_
  refine g_aload_n (pc := 1) C dX0_passMinute_1 rfl 0 rfl ?_
  refine g_aload_n (pc := 2) C dX0_passMinute_2 rfl 0 rfl ?_
  obtain ⟨xq3, h⟩ := iC h
  have xq3 := keq xq3
  obtain ⟨xr4, xσ1, xc2, h⟩ := iB h
  refine g_callVi (pc := 3) (As := []) (rest := [.ref (yad y (xa0)), .ref (yad y (xa0))]) C dX0_passMinute_3 (fun l => c_X0_nextPlace l y _ _ _ _ xc2) cv_X0_118 ⟨rfl, rfl, Nat.le_of_ble_eq_true rfl, Nat.le_of_ble_eq_true rfl⟩ (rv0 xq3) rfl (Nat.le_of_ble_eq_true rfl) ?_
  obtain ⟨xr7, xσ5, xc6, h⟩ := iB h
  refine g_callVi (pc := 6) (As := [.int (xr4)]) (rest := [.ref (yad y (xa0))]) C dX0_passMinute_6 (fun l => c_X0_whoIsIn l y _ _ _ _ _ xc6) cv_X0_121 ⟨rfl, rfl, Nat.le_of_ble_eq_true rfl, Nat.le_of_ble_eq_true rfl⟩ (rv0 xq3) rfl (Nat.le_of_ble_eq_true rfl) ?_
  obtain ⟨xr10, xσ8, xc9, h⟩ := iB h
  refine g_callVq (pc := 9) (As := [.int (xr7)]) (rest := []) C dX0_passMinute_9 (fun l => c_X0_who l y _ _ _ _ _ xc9) cv_X0_69 ⟨rfl, rfl, Nat.le_of_ble_eq_true rfl, Nat.le_of_ble_eq_true rfl⟩ (rv0 xq3) rfl (Nat.le_of_ble_eq_true rfl) ?_
  refine g_nastore_n (i := 1) (lv' := [(1, nv y xr10), (0, .ref (yad y (xa0)))]) (pc := 12) C dX0_passMinute_12 rfl (Nat.le_of_ble_eq_true rfl) rfl ?_
  refine g_naload_n (pc := 13) C dX0_passMinute_13 rfl 0 rfl ?_
  refine g_ifnull (pc := 14) C dX0_passMinute_14 (tgt := 33) rfl (fun xq17 => ?_) (fun xk11 xq17 => ?_)
  · subst xq17
    have h := iO0 h
    refine g_sub (lv' := [(0, .ref (yad y (xa0)))]) C [1] rfl ?_
    exact b_X0_passMinute_33 C hr xa0 xσ8 h
  · subst xq17
    have h := iO1 h
    refine g_aload_n (pc := 17) C dX0_passMinute_17 rfl 0 rfl ?_
    obtain ⟨xq12, h⟩ := iC h
    have xq12 := keq xq12
    refine gf_2_4 (pc := 18) C wf_X0_124 dX0_passMinute_18 xq12 ?_
    refine g_aload_n (pc := 21) C dX0_passMinute_21 rfl 1 rfl ?_
    refine gf_0_2 (pc := 22) C wf_X0_18 dX0_passMinute_22 xq3 ?_
    refine g_icmp_lt (pc := 25) C dX0_passMinute_25 (tgt := 33) rfl (fun xq13 => ?_) (fun xq13 => ?_)
    · have h := iP xq13 h
      refine g_sub (lv' := [(0, .ref (yad y (xa0)))]) C [1] rfl ?_
      exact b_X0_passMinute_33 C hr xa0 xσ8 h
    · have h := iN xq13 h
      refine g_aload_n (pc := 28) C dX0_passMinute_28 rfl 1 rfl ?_
      refine g_aload_n (pc := 29) C dX0_passMinute_29 rfl 0 rfl ?_
      obtain ⟨xr16, xσ14, xc15, h⟩ := iB h
      refine g_callVv (pc := 30) (As := [.ref (yad y (xk11))]) (rest := []) C dX0_passMinute_30 (fun l => c_X0_takePictures l y _ _ _ _ _ xc15) cv_X0_127 ⟨rfl, rfl, Nat.le_of_ble_eq_true rfl, Nat.le_of_ble_eq_true rfl⟩ (rv0 xq3) rfl (Nat.le_of_ble_eq_true rfl) ?_
      refine g_sub (lv' := [(0, .ref (yad y (xa0)))]) C [1] rfl ?_
      exact b_X0_passMinute_33 C hr xa0 xσ14 h
theorem c_X0_passMinute (l : Launch) (y : YT) (xa0 : Nat) (σ σ' : Sto) (r : Unit) (h : F_X0_passMinute xa0 σ = some (r, σ')) : MV l y yX0_passMinute (Cond.code yX0_passMinute cX0_passMinute 2 none :: TT) rm_X0_passMinute [.ref (yad y (xa0))] σ r σ' :=
  mkV (by decide) rfl rfl rfl (Nat.le_of_ble_eq_true rfl) (fun x Z C hr => b_X0_passMinute_0 C hr xa0 σ h)
def rm_X0_passMinutes : Room := { frames := 6, cells := 0, slots := 0, locals := 148 }
def F_X0_passMinutes_b2 (xk_2 : Nat → Int32 → Int32 → Sto → Option (Unit × Sto)) (xa0 : Nat) (xa1 : Int32) (xa2 : Int32) (σ : Sto) : Option (Unit × Sto) := if xa1 ≤ xa2 then some ((), σ) else ck (kd (xa0) == 0) (bnd (F_X0_passMinute (xa0) σ) (fun xr5 xσ2 => xk_2 xa0 xa1 (xa2 + 1) xσ2))
def F_X0_passMinutes (xa0 : Nat) (xa1 : Int32) (σ : Sto) : Option (Unit × Sto) := lo3 (F_X0_passMinutes_b2) 1000 xa0 xa1 0 σ
set_option maxHeartbeats 4000000 in
set_option maxRecDepth 20000 in
theorem b_X0_passMinutes_2 {x : XT} {y : YT} {Z : State → Prop} (C : Cx x y (AY y) RX0 cX0_passMinutes 3 rm_X0_passMinutes) {r : Unit} {σ' : Sto} (hr : RetV x y (AY y) 3 cX0_passMinutes Z r σ') (xk_2 : Nat → Int32 → Int32 → Sto → Option (Unit × Sto)) (xH2 : ∀ (xa0 : Nat) (xa1 : Int32) (xa2 : Int32) (σ : Sto), xk_2 xa0 xa1 xa2 σ = some (r, σ') → GW x y (AY y) 3 Z 2 [(0, .ref (yad y (xa0))), (1, .int (xa1)), (2, .int (xa2))] [] σ) (xa0 : Nat) (xa1 : Int32) (xa2 : Int32) (σ : Sto) (h : F_X0_passMinutes_b2 xk_2 xa0 xa1 xa2 σ = some (r, σ')) : GW x y (AY y) 3 Z 2 [(0, .ref (yad y (xa0))), (1, .int (xa1)), (2, .int (xa2))] [] σ := by
  unfold F_X0_passMinutes_b2 at h
  refine g_iload_n (pc := 2) C dX0_passMinutes_2 rfl 2 rfl ?_
  refine g_iload_n (pc := 3) C dX0_passMinutes_3 rfl 1 rfl ?_
  refine g_icmp_ge (pc := 4) C dX0_passMinutes_4 (tgt := 17) rfl (fun xq1 => ?_) (fun xq1 => ?_)
  · have h := iP xq1 h
    exact rtV hr dX0_passMinutes_17 h
  · have h := iN xq1 h
    refine g_aload_n (pc := 7) C dX0_passMinutes_7 rfl 0 rfl ?_
    obtain ⟨xq4, h⟩ := iC h
    have xq4 := keq xq4
    obtain ⟨xr5, xσ2, xc3, h⟩ := iB h
    refine g_callVv (pc := 8) (As := []) (rest := []) C dX0_passMinutes_8 (fun l => c_X0_passMinute l y _ _ _ _ xc3) cv_X0_115 ⟨rfl, rfl, Nat.le_of_ble_eq_true rfl, Nat.le_of_ble_eq_true rfl⟩ (rv0 xq4) rfl (Nat.le_of_ble_eq_true rfl) ?_
    refine g_iinc (lv' := [(2, .int (xa2 + 1)), (0, .ref (yad y (xa0))), (1, .int (xa1))]) (w := xa2 + 1) (pc := 11) C dX0_passMinutes_11 (k := 2) rfl rfl (Nat.le_of_ble_eq_true rfl) rfl ?_
    refine g_goto (pc := 14) C dX0_passMinutes_14 (tgt := 2) rfl ?_
    refine g_sub (lv' := [(0, .ref (yad y (xa0))), (1, .int (xa1)), (2, .int (xa2 + 1))]) C [1, 2, 0] rfl ?_
    exact xH2 xa0 xa1 (xa2 + 1) xσ2 h
theorem l_X0_passMinutes_2 {x : XT} {y : YT} {Z : State → Prop} (C : Cx x y (AY y) RX0 cX0_passMinutes 3 rm_X0_passMinutes) {r : Unit} {σ' : Sto} (hr : RetV x y (AY y) 3 cX0_passMinutes Z r σ') (n : Nat) (xa0 : Nat) (xa1 : Int32) (xa2 : Int32) (σ : Sto) (h : lo3 (F_X0_passMinutes_b2) n xa0 xa1 xa2 σ = some (r, σ')) : GW x y (AY y) 3 Z 2 [(0, .ref (yad y (xa0))), (1, .int (xa1)), (2, .int (xa2))] [] σ :=
  lo3_gw (G := fun xa0 xa1 xa2 σ => GW x y (AY y) 3 Z 2 [(0, .ref (yad y (xa0))), (1, .int (xa1)), (2, .int (xa2))] [] σ) (fun xk xHk xa0 xa1 xa2 σ h => b_X0_passMinutes_2 C hr xk xHk xa0 xa1 xa2 σ h) n xa0 xa1 xa2 σ h
set_option maxHeartbeats 4000000 in
set_option maxRecDepth 20000 in
theorem b_X0_passMinutes_0 {x : XT} {y : YT} {Z : State → Prop} (C : Cx x y (AY y) RX0 cX0_passMinutes 3 rm_X0_passMinutes) {r : Unit} {σ' : Sto} (hr : RetV x y (AY y) 3 cX0_passMinutes Z r σ') (xa0 : Nat) (xa1 : Int32) (σ : Sto) (h : F_X0_passMinutes xa0 xa1 σ = some (r, σ')) : GW x y (AY y) 3 Z 0 [(0, .ref (yad y (xa0))), (1, .int (xa1))] [] σ := by
  unfold F_X0_passMinutes at h
  refine g_iconst (v := 0) (pc := 0) C dX0_passMinutes_0 ci_0 ?_
  refine g_istore_n (i := 2) (lv' := [(2, .int (0)), (0, .ref (yad y (xa0))), (1, .int (xa1))]) (pc := 1) C dX0_passMinutes_1 rfl (Nat.le_of_ble_eq_true rfl) rfl ?_
  refine g_sub (lv' := [(0, .ref (yad y (xa0))), (1, .int (xa1)), (2, .int (0))]) C [1, 2, 0] rfl ?_
  exact l_X0_passMinutes_2 C hr 1000 xa0 xa1 0 σ h
theorem c_X0_passMinutes (l : Launch) (y : YT) (xa0 : Nat) (xa1 : Int32) (σ σ' : Sto) (r : Unit) (h : F_X0_passMinutes xa0 xa1 σ = some (r, σ')) : MV l y yX0_passMinutes (Cond.code yX0_passMinutes cX0_passMinutes 3 none :: TT) rm_X0_passMinutes [.ref (yad y (xa0)), .int (xa1)] σ r σ' :=
  mkV (by decide) rfl rfl rfl (Nat.le_of_ble_eq_true rfl) (fun x Z C hr => b_X0_passMinutes_0 C hr xa0 xa1 σ h)
def rm_X0_draw : Room := { frames := 0, cells := 0, slots := 0, locals := 0 }
def F_X0_draw (xa0 : Nat) (σ : Sto) : Option (Int32 × Sto) := ck (kd (xa0) == 0) (lts (up2 σ (xa0) 5 (((σ xa0 5) * 1103515245) + 12345)) (fun xσ2 => some (ius (xσ2 xa0 5) 8, xσ2)))
set_option maxHeartbeats 4000000 in
set_option maxRecDepth 20000 in
theorem b_X0_draw_0 {x : XT} {y : YT} {Z : State → Prop} (C : Cx x y (AY y) RX0 cX0_draw 1 rm_X0_draw) {r : Int32} {σ' : Sto} (hr : RetI x y (AY y) 1 cX0_draw Z r σ') (xa0 : Nat) (σ : Sto) (h : F_X0_draw xa0 σ = some (r, σ')) : GW x y (AY y) 1 Z 0 [(0, .ref (yad y (xa0)))] [] σ := by
  unfold F_X0_draw at h
  refine g_aload_n (pc := 0) C dX0_draw_0 rfl 0 rfl ?_
  refine g_aload_n (pc := 1) C dX0_draw_1 rfl 0 rfl ?_
  obtain ⟨xq1, h⟩ := iC h
  have xq1 := keq xq1
  refine gf_0_5 (pc := 2) C wf_X0_27 dX0_draw_2 xq1 ?_
  refine g_ldc (v := 1103515245) (pc := 5) C dX0_draw_5 wk_X0_163 ?_
  refine g_imul (pc := 7) C dX0_draw_7 ?_
  refine g_sipush (v := 12345) (pc := 8) C dX0_draw_8 cs_12345 ?_
  refine g_iadd (pc := 11) C dX0_draw_11 ?_
  refine gp_0_5 (pc := 12) C wf_X0_27 dX0_draw_12 xq1 ?_
  refine g_letS h (fun xσ2 h => ?_)
  refine g_aload_n (pc := 15) C dX0_draw_15 rfl 0 rfl ?_
  refine gf_0_5 (pc := 16) C wf_X0_27 dX0_draw_16 xq1 ?_
  refine g_bipush (v := 8) (pc := 19) C dX0_draw_19 cb_8 ?_
  refine g_iushr (pc := 21) C dX0_draw_21 ?_
  exact rtI hr dX0_draw_22 h
theorem c_X0_draw (l : Launch) (y : YT) (xa0 : Nat) (σ σ' : Sto) (r : Int32) (h : F_X0_draw xa0 σ = some (r, σ')) : MI l y yX0_draw (Cond.code yX0_draw cX0_draw 1 (some .int) :: TT) rm_X0_draw [.ref (yad y (xa0))] σ r σ' :=
  mkI (by decide) rfl rfl rfl (Nat.le_of_ble_eq_true rfl) (fun x Z C hr => b_X0_draw_0 C hr xa0 σ h)
def rm_X3_hasRoomFor : Room := { frames := 0, cells := 0, slots := 0, locals := 0 }
def F_X3_hasRoomFor (xa0 : Nat) (xa1 : Int32) (σ : Sto) : Option (Int32 × Sto) := ck (kd (xa0) == 3) (if 120 < ((σ xa0 1) + xa1) then some (0, σ) else some (1, σ))
set_option maxHeartbeats 4000000 in
set_option maxRecDepth 20000 in
theorem b_X3_hasRoomFor_0 {x : XT} {y : YT} {Z : State → Prop} (C : Cx x y (AY y) RX3 cX3_hasRoomFor 2 rm_X3_hasRoomFor) {r : Int32} {σ' : Sto} (hr : RetZ x y (AY y) 2 cX3_hasRoomFor Z r σ') (xa0 : Nat) (xa1 : Int32) (σ : Sto) (h : F_X3_hasRoomFor xa0 xa1 σ = some (r, σ')) : GW x y (AY y) 2 Z 0 [(0, .ref (yad y (xa0))), (1, .int (xa1))] [] σ := by
  unfold F_X3_hasRoomFor at h
  refine g_aload_n (pc := 0) C dX3_hasRoomFor_0 rfl 0 rfl ?_
  obtain ⟨xq1, h⟩ := iC h
  have xq1 := keq xq1
  refine gf_3_1 (pc := 1) C wf_X3_15 dX3_hasRoomFor_1 xq1 ?_
  refine g_iload_n (pc := 4) C dX3_hasRoomFor_4 rfl 1 rfl ?_
  refine g_iadd (pc := 5) C dX3_hasRoomFor_5 ?_
  refine g_bipush (v := 120) (pc := 6) C dX3_hasRoomFor_6 cb_120 ?_
  refine g_icmp_gt (pc := 8) C dX3_hasRoomFor_8 (tgt := 15) rfl (fun xq2 => ?_) (fun xq2 => ?_)
  · have h := iP xq2 h
    refine g_iconst (v := 0) (pc := 15) C dX3_hasRoomFor_15 ci_0 ?_
    exact rtZ hr dX3_hasRoomFor_16 (by decide) h
  · have h := iN xq2 h
    refine g_iconst (v := 1) (pc := 11) C dX3_hasRoomFor_11 ci_1 ?_
    refine g_goto (pc := 12) C dX3_hasRoomFor_12 (tgt := 16) rfl ?_
    exact rtZ hr dX3_hasRoomFor_16 (by decide) h
theorem c_X3_hasRoomFor (l : Launch) (y : YT) (xa0 : Nat) (xa1 : Int32) (σ σ' : Sto) (r : Int32) (h : F_X3_hasRoomFor xa0 xa1 σ = some (r, σ')) : MI l y yX3_hasRoomFor (Cond.code yX3_hasRoomFor cX3_hasRoomFor 2 (some .boolean) :: TT) rm_X3_hasRoomFor [.ref (yad y (xa0)), .int (xa1)] σ r σ' :=
  mkZ (by decide) rfl rfl rfl (Nat.le_of_ble_eq_true rfl) (fun x Z C hr => b_X3_hasRoomFor_0 C hr xa0 xa1 σ h)
def rm_X3_append : Room := { frames := 0, cells := 0, slots := 0, locals := 0 }
def F_X3_append (xa0 : Nat) (xa1 : Int32) (σ : Sto) : Option (Unit × Sto) := ck (kd (xa0) == 3) (if (σ xa0 1) < 0 then some ((), σ) else if 120 ≤ (σ xa0 1) then some ((), σ) else ck (inr (σ xa0 1) (120)) (lts (up2 σ (xa0 + 1) ((σ xa0 1 : Int32).toNatClampNeg) (xa1)) (fun xσ5 => lts (up2 xσ5 (xa0) 1 ((xσ5 xa0 1) + 1)) (fun xσ6 => some ((), xσ6)))))
set_option maxHeartbeats 4000000 in
set_option maxRecDepth 20000 in
theorem b_X3_append_0 {x : XT} {y : YT} {Z : State → Prop} (C : Cx x y (AY y) RX3 cX3_append 2 rm_X3_append) {r : Unit} {σ' : Sto} (hr : RetV x y (AY y) 2 cX3_append Z r σ') (xa0 : Nat) (xa1 : Int32) (σ : Sto) (h : F_X3_append xa0 xa1 σ = some (r, σ')) : GW x y (AY y) 2 Z 0 [(0, .ref (yad y (xa0))), (1, .int (xa1))] [] σ := by
  unfold F_X3_append at h
  refine g_aload_n (pc := 0) C dX3_append_0 rfl 0 rfl ?_
  obtain ⟨xq1, h⟩ := iC h
  have xq1 := keq xq1
  refine gf_3_1 (pc := 1) C wf_X3_15 dX3_append_1 xq1 ?_
  refine g_if_lt (pc := 4) C dX3_append_4 (tgt := 36) rfl (fun xq2 => ?_) (fun xq2 => ?_)
  · have h := iP xq2 h
    exact rtV hr dX3_append_36 h
  · have h := iN xq2 h
    refine g_aload_n (pc := 7) C dX3_append_7 rfl 0 rfl ?_
    refine gf_3_1 (pc := 8) C wf_X3_15 dX3_append_8 xq1 ?_
    refine g_bipush (v := 120) (pc := 11) C dX3_append_11 cb_120 ?_
    refine g_icmp_ge (pc := 13) C dX3_append_13 (tgt := 36) rfl (fun xq3 => ?_) (fun xq3 => ?_)
    · have h := iP xq3 h
      exact rtV hr dX3_append_36 h
    · have h := iN xq3 h
      refine g_aload_n (pc := 16) C dX3_append_16 rfl 0 rfl ?_
      refine gf_3_0 (pc := 17) C wf_X3_11 dX3_append_17 xq1 ?_
      refine g_aload_n (pc := 20) C dX3_append_20 rfl 0 rfl ?_
      refine gf_3_1 (pc := 21) C wf_X3_15 dX3_append_21 xq1 ?_
      refine g_iload_n (pc := 24) C dX3_append_24 rfl 1 rfl ?_
      obtain ⟨xq4, h⟩ := iC h
      refine g_iast (pc := 25) C dX3_append_25 (kr_3_0 xq1) (ivp xq4 (lr_3_0 xq1)) (j := (σ xa0 1 : Int32).toNatClampNeg) rfl ?_
      refine g_letS h (fun xσ5 h => ?_)
      refine g_aload_n (pc := 26) C dX3_append_26 rfl 0 rfl ?_
      refine g_dup (pc := 27) C dX3_append_27 rfl ?_
      refine gf_3_1 (pc := 28) C wf_X3_15 dX3_append_28 xq1 ?_
      refine g_iconst (v := 1) (pc := 31) C dX3_append_31 ci_1 ?_
      refine g_iadd (pc := 32) C dX3_append_32 ?_
      refine gp_3_1 (pc := 33) C wf_X3_15 dX3_append_33 xq1 ?_
      refine g_letS h (fun xσ6 h => ?_)
      exact rtV hr dX3_append_36 h
theorem c_X3_append (l : Launch) (y : YT) (xa0 : Nat) (xa1 : Int32) (σ σ' : Sto) (r : Unit) (h : F_X3_append xa0 xa1 σ = some (r, σ')) : MV l y yX3_append (Cond.code yX3_append cX3_append 2 none :: TT) rm_X3_append [.ref (yad y (xa0)), .int (xa1)] σ r σ' :=
  mkV (by decide) rfl rfl rfl (Nat.le_of_ble_eq_true rfl) (fun x Z C hr => b_X3_append_0 C hr xa0 xa1 σ h)
def rm_X3_byteAt : Room := { frames := 0, cells := 0, slots := 0, locals := 0 }
def F_X3_byteAt (xa0 : Nat) (xa1 : Int32) (σ : Sto) : Option (Int32 × Sto) := if (xa1) < 0 then some ((-1), σ) else ck (kd (xa0) == 3) (if (σ xa0 1) ≤ xa1 then some ((-1), σ) else if 120 ≤ xa1 then some ((-1), σ) else ck (inr (xa1) (120)) (some (σ (xa0 + 1) (xa1.toNatClampNeg), σ)))
set_option maxHeartbeats 4000000 in
set_option maxRecDepth 20000 in
theorem b_X3_byteAt_0 {x : XT} {y : YT} {Z : State → Prop} (C : Cx x y (AY y) RX3 cX3_byteAt 2 rm_X3_byteAt) {r : Int32} {σ' : Sto} (hr : RetI x y (AY y) 2 cX3_byteAt Z r σ') (xa0 : Nat) (xa1 : Int32) (σ : Sto) (h : F_X3_byteAt xa0 xa1 σ = some (r, σ')) : GW x y (AY y) 2 Z 0 [(0, .ref (yad y (xa0))), (1, .int (xa1))] [] σ := by
  unfold F_X3_byteAt at h
  refine g_iload_n (pc := 0) C dX3_byteAt_0 rfl 1 rfl ?_
  refine g_if_lt (pc := 1) C dX3_byteAt_1 (tgt := 27) rfl (fun xq1 => ?_) (fun xq1 => ?_)
  · have h := iP xq1 h
    refine g_iconst (v := (-1)) (pc := 27) C dX3_byteAt_27 ci_m1 ?_
    exact rtI hr dX3_byteAt_28 h
  · have h := iN xq1 h
    refine g_iload_n (pc := 4) C dX3_byteAt_4 rfl 1 rfl ?_
    refine g_aload_n (pc := 5) C dX3_byteAt_5 rfl 0 rfl ?_
    obtain ⟨xq2, h⟩ := iC h
    have xq2 := keq xq2
    refine gf_3_1 (pc := 6) C wf_X3_15 dX3_byteAt_6 xq2 ?_
    refine g_icmp_ge (pc := 9) C dX3_byteAt_9 (tgt := 27) rfl (fun xq3 => ?_) (fun xq3 => ?_)
    · have h := iP xq3 h
      refine g_iconst (v := (-1)) (pc := 27) C dX3_byteAt_27 ci_m1 ?_
      exact rtI hr dX3_byteAt_28 h
    · have h := iN xq3 h
      refine g_iload_n (pc := 12) C dX3_byteAt_12 rfl 1 rfl ?_
      refine g_bipush (v := 120) (pc := 13) C dX3_byteAt_13 cb_120 ?_
      refine g_icmp_ge (pc := 15) C dX3_byteAt_15 (tgt := 27) rfl (fun xq4 => ?_) (fun xq4 => ?_)
      · have h := iP xq4 h
        refine g_iconst (v := (-1)) (pc := 27) C dX3_byteAt_27 ci_m1 ?_
        exact rtI hr dX3_byteAt_28 h
      · have h := iN xq4 h
        refine g_aload_n (pc := 18) C dX3_byteAt_18 rfl 0 rfl ?_
        refine gf_3_0 (pc := 19) C wf_X3_11 dX3_byteAt_19 xq2 ?_
        refine g_iload_n (pc := 22) C dX3_byteAt_22 rfl 1 rfl ?_
        obtain ⟨xq5, h⟩ := iC h
        refine g_iald (pc := 23) C dX3_byteAt_23 (kr_3_0 xq2) (ivp xq5 (lr_3_0 xq2)) (j := xa1.toNatClampNeg) rfl ?_
        refine g_goto (pc := 24) C dX3_byteAt_24 (tgt := 28) rfl ?_
        exact rtI hr dX3_byteAt_28 h
theorem c_X3_byteAt (l : Launch) (y : YT) (xa0 : Nat) (xa1 : Int32) (σ σ' : Sto) (r : Int32) (h : F_X3_byteAt xa0 xa1 σ = some (r, σ')) : MI l y yX3_byteAt (Cond.code yX3_byteAt cX3_byteAt 2 (some .int) :: TT) rm_X3_byteAt [.ref (yad y (xa0)), .int (xa1)] σ r σ' :=
  mkI (by decide) rfl rfl rfl (Nat.le_of_ble_eq_true rfl) (fun x Z C hr => b_X3_byteAt_0 C hr xa0 xa1 σ h)
def rm_X3_isLetter : Room := { frames := 0, cells := 0, slots := 0, locals := 0 }
def F_X3_isLetter (xa0 : Int32) (σ : Sto) : Option (Int32 × Sto) := if xa0 < 97 then some (0, σ) else if 122 < xa0 then some (0, σ) else some (1, σ)
set_option maxHeartbeats 4000000 in
set_option maxRecDepth 20000 in
theorem b_X3_isLetter_0 {x : XT} {y : YT} {Z : State → Prop} (C : Cx x y (AY y) RX3 cX3_isLetter 1 rm_X3_isLetter) {r : Int32} {σ' : Sto} (hr : RetZ x y (AY y) 1 cX3_isLetter Z r σ') (xa0 : Int32) (σ : Sto) (h : F_X3_isLetter xa0 σ = some (r, σ')) : GW x y (AY y) 1 Z 0 [(0, .int (xa0))] [] σ := by
  unfold F_X3_isLetter at h
  refine g_iload_n (pc := 0) C dX3_isLetter_0 rfl 0 rfl ?_
  refine g_bipush (v := 97) (pc := 1) C dX3_isLetter_1 cb_97 ?_
  refine g_icmp_lt (pc := 3) C dX3_isLetter_3 (tgt := 16) rfl (fun xq1 => ?_) (fun xq1 => ?_)
  · have h := iP xq1 h
    refine g_iconst (v := 0) (pc := 16) C dX3_isLetter_16 ci_0 ?_
    exact rtZ hr dX3_isLetter_17 (by decide) h
  · have h := iN xq1 h
    refine g_iload_n (pc := 6) C dX3_isLetter_6 rfl 0 rfl ?_
    refine g_bipush (v := 122) (pc := 7) C dX3_isLetter_7 cb_122 ?_
    refine g_icmp_gt (pc := 9) C dX3_isLetter_9 (tgt := 16) rfl (fun xq2 => ?_) (fun xq2 => ?_)
    · have h := iP xq2 h
      refine g_iconst (v := 0) (pc := 16) C dX3_isLetter_16 ci_0 ?_
      exact rtZ hr dX3_isLetter_17 (by decide) h
    · have h := iN xq2 h
      refine g_iconst (v := 1) (pc := 12) C dX3_isLetter_12 ci_1 ?_
      refine g_goto (pc := 13) C dX3_isLetter_13 (tgt := 17) rfl ?_
      exact rtZ hr dX3_isLetter_17 (by decide) h
theorem c_X3_isLetter (l : Launch) (y : YT) (xa0 : Int32) (σ σ' : Sto) (r : Int32) (h : F_X3_isLetter xa0 σ = some (r, σ')) : MI l y yX3_isLetter (Cond.code yX3_isLetter cX3_isLetter 1 (some .boolean) :: TT) rm_X3_isLetter [.int (xa0)] σ r σ' :=
  mkZ (by decide) rfl rfl rfl (Nat.le_of_ble_eq_true rfl) (fun x Z C hr => b_X3_isLetter_0 C hr xa0 σ h)
def rm_X3_isDigit : Room := { frames := 0, cells := 0, slots := 0, locals := 0 }
def F_X3_isDigit (xa0 : Int32) (σ : Sto) : Option (Int32 × Sto) := if xa0 < 48 then some (0, σ) else if 57 < xa0 then some (0, σ) else some (1, σ)
set_option maxHeartbeats 4000000 in
set_option maxRecDepth 20000 in
theorem b_X3_isDigit_0 {x : XT} {y : YT} {Z : State → Prop} (C : Cx x y (AY y) RX3 cX3_isDigit 1 rm_X3_isDigit) {r : Int32} {σ' : Sto} (hr : RetZ x y (AY y) 1 cX3_isDigit Z r σ') (xa0 : Int32) (σ : Sto) (h : F_X3_isDigit xa0 σ = some (r, σ')) : GW x y (AY y) 1 Z 0 [(0, .int (xa0))] [] σ := by
  unfold F_X3_isDigit at h
  refine g_iload_n (pc := 0) C dX3_isDigit_0 rfl 0 rfl ?_
  refine g_bipush (v := 48) (pc := 1) C dX3_isDigit_1 cb_48 ?_
  refine g_icmp_lt (pc := 3) C dX3_isDigit_3 (tgt := 16) rfl (fun xq1 => ?_) (fun xq1 => ?_)
  · have h := iP xq1 h
    refine g_iconst (v := 0) (pc := 16) C dX3_isDigit_16 ci_0 ?_
    exact rtZ hr dX3_isDigit_17 (by decide) h
  · have h := iN xq1 h
    refine g_iload_n (pc := 6) C dX3_isDigit_6 rfl 0 rfl ?_
    refine g_bipush (v := 57) (pc := 7) C dX3_isDigit_7 cb_57 ?_
    refine g_icmp_gt (pc := 9) C dX3_isDigit_9 (tgt := 16) rfl (fun xq2 => ?_) (fun xq2 => ?_)
    · have h := iP xq2 h
      refine g_iconst (v := 0) (pc := 16) C dX3_isDigit_16 ci_0 ?_
      exact rtZ hr dX3_isDigit_17 (by decide) h
    · have h := iN xq2 h
      refine g_iconst (v := 1) (pc := 12) C dX3_isDigit_12 ci_1 ?_
      refine g_goto (pc := 13) C dX3_isDigit_13 (tgt := 17) rfl ?_
      exact rtZ hr dX3_isDigit_17 (by decide) h
theorem c_X3_isDigit (l : Launch) (y : YT) (xa0 : Int32) (σ σ' : Sto) (r : Int32) (h : F_X3_isDigit xa0 σ = some (r, σ')) : MI l y yX3_isDigit (Cond.code yX3_isDigit cX3_isDigit 1 (some .boolean) :: TT) rm_X3_isDigit [.int (xa0)] σ r σ' :=
  mkZ (by decide) rfl rfl rfl (Nat.le_of_ble_eq_true rfl) (fun x Z C hr => b_X3_isDigit_0 C hr xa0 σ h)
def rm_X3_readDigits : Room := { frames := 1, cells := 0, slots := 0, locals := 40 }
def F_X3_readDigits_b5 (xk_5 : Nat → Sto → Option (Unit × Sto)) (xa0 : Nat) (σ : Sto) : Option (Unit × Sto) := ck (kd (xa0) == 3) (if (σ xa0 1) ≤ (σ xa0 3) then some ((), σ) else bnd (F_X3_byteAt (xa0) (σ xa0 3) σ) (fun xr5 xσ3 => bnd (F_X3_isDigit (xr5) xσ3) (fun xr8 xσ6 => if (xr8) = 0 then some ((), xσ6) else bnd (F_X3_byteAt (xa0) (xσ6 xa0 3) xσ6) (fun xr12 xσ10 => lts (up2 xσ10 (xa0) 5 (imin ((((xσ6 xa0 5) * 10) + xr12) - 48) 1000)) (fun xσ13 => lts (up2 xσ13 (xa0) 3 ((xσ13 xa0 3) + 1)) (fun xσ14 => xk_5 xa0 xσ14))))))
def F_X3_readDigits (xa0 : Nat) (σ : Sto) : Option (Unit × Sto) := ck (kd (xa0) == 3) (lts (up2 σ (xa0) 5 (0)) (fun xσ2 => lo1 (F_X3_readDigits_b5) 1000 xa0 xσ2))
set_option maxHeartbeats 4000000 in
set_option maxRecDepth 20000 in
theorem b_X3_readDigits_5 {x : XT} {y : YT} {Z : State → Prop} (C : Cx x y (AY y) RX3 cX3_readDigits 1 rm_X3_readDigits) {r : Unit} {σ' : Sto} (hr : RetV x y (AY y) 1 cX3_readDigits Z r σ') (xk_5 : Nat → Sto → Option (Unit × Sto)) (xH5 : ∀ (xa0 : Nat) (σ : Sto), xk_5 xa0 σ = some (r, σ') → GW x y (AY y) 1 Z 5 [(0, .ref (yad y (xa0)))] [] σ) (xa0 : Nat) (σ : Sto) (h : F_X3_readDigits_b5 xk_5 xa0 σ = some (r, σ')) : GW x y (AY y) 1 Z 5 [(0, .ref (yad y (xa0)))] [] σ := by
  unfold F_X3_readDigits_b5 at h
  refine g_aload_n (pc := 5) C dX3_readDigits_5 rfl 0 rfl ?_
  obtain ⟨xq1, h⟩ := iC h
  have xq1 := keq xq1
  refine gf_3_3 (pc := 6) C wf_X3_22 dX3_readDigits_6 xq1 ?_
  refine g_aload_n (pc := 9) C dX3_readDigits_9 rfl 0 rfl ?_
  refine gf_3_1 (pc := 10) C wf_X3_15 dX3_readDigits_10 xq1 ?_
  refine g_icmp_ge (pc := 13) C dX3_readDigits_13 (tgt := 72) rfl (fun xq2 => ?_) (fun xq2 => ?_)
  · have h := iP xq2 h
    exact rtV hr dX3_readDigits_72 h
  · have h := iN xq2 h
    refine g_aload_n (pc := 16) C dX3_readDigits_16 rfl 0 rfl ?_
    refine g_aload_n (pc := 17) C dX3_readDigits_17 rfl 0 rfl ?_
    refine gf_3_3 (pc := 18) C wf_X3_22 dX3_readDigits_18 xq1 ?_
    obtain ⟨xr5, xσ3, xc4, h⟩ := iB h
    refine g_callVi (pc := 21) (As := [.int (σ xa0 3)]) (rest := []) C dX3_readDigits_21 (fun l => c_X3_byteAt l y _ _ _ _ _ xc4) cv_X3_94 ⟨rfl, rfl, Nat.le_of_ble_eq_true rfl, Nat.le_of_ble_eq_true rfl⟩ (rv3 xq1) rfl (Nat.le_of_ble_eq_true rfl) ?_
    obtain ⟨xr8, xσ6, xc7, h⟩ := iB h
    refine g_callSi (pc := 24) (As := [.int (xr5)]) (rest := []) C dX3_readDigits_24 (fun l => c_X3_isDigit l y _ _ _ _ xc7) cv_X3_100 ⟨rfl, rfl, Nat.le_of_ble_eq_true rfl, Nat.le_of_ble_eq_true rfl⟩ rfl (Nat.le_of_ble_eq_true rfl) ?_
    refine g_if_eq (pc := 27) C dX3_readDigits_27 (tgt := 72) rfl (fun xq9 => ?_) (fun xq9 => ?_)
    · have h := iP xq9 h
      exact rtV hr dX3_readDigits_72 h
    · have h := iN xq9 h
      refine g_aload_n (pc := 30) C dX3_readDigits_30 rfl 0 rfl ?_
      refine g_aload_n (pc := 31) C dX3_readDigits_31 rfl 0 rfl ?_
      refine gf_3_5 (pc := 32) C wf_X3_28 dX3_readDigits_32 xq1 ?_
      refine g_bipush (v := 10) (pc := 35) C dX3_readDigits_35 cb_10 ?_
      refine g_imul (pc := 37) C dX3_readDigits_37 ?_
      refine g_aload_n (pc := 38) C dX3_readDigits_38 rfl 0 rfl ?_
      refine g_aload_n (pc := 39) C dX3_readDigits_39 rfl 0 rfl ?_
      refine gf_3_3 (pc := 40) C wf_X3_22 dX3_readDigits_40 xq1 ?_
      obtain ⟨xr12, xσ10, xc11, h⟩ := iB h
      refine g_callVi (pc := 43) (As := [.int (xσ6 xa0 3)]) (rest := [.int ((xσ6 xa0 5) * 10), .ref (yad y (xa0))]) C dX3_readDigits_43 (fun l => c_X3_byteAt l y _ _ _ _ _ xc11) cv_X3_94 ⟨rfl, rfl, Nat.le_of_ble_eq_true rfl, Nat.le_of_ble_eq_true rfl⟩ (rv3 xq1) rfl (Nat.le_of_ble_eq_true rfl) ?_
      refine g_iadd (pc := 46) C dX3_readDigits_46 ?_
      refine g_bipush (v := 48) (pc := 47) C dX3_readDigits_47 cb_48 ?_
      refine g_isub (pc := 49) C dX3_readDigits_49 ?_
      refine g_sipush (v := 1000) (pc := 50) C dX3_readDigits_50 cs_1000 ?_
      refine g_mmin (pc := 53) C dX3_readDigits_53 wm_X3_106 wt_min wn_Math wc_min (Nat.le_of_ble_eq_true rfl) (Nat.le_of_ble_eq_true rfl) ?_
      refine gp_3_5 (pc := 56) C wf_X3_28 dX3_readDigits_56 xq1 ?_
      refine g_letS h (fun xσ13 h => ?_)
      refine g_aload_n (pc := 59) C dX3_readDigits_59 rfl 0 rfl ?_
      refine g_dup (pc := 60) C dX3_readDigits_60 rfl ?_
      refine gf_3_3 (pc := 61) C wf_X3_22 dX3_readDigits_61 xq1 ?_
      refine g_iconst (v := 1) (pc := 64) C dX3_readDigits_64 ci_1 ?_
      refine g_iadd (pc := 65) C dX3_readDigits_65 ?_
      refine gp_3_3 (pc := 66) C wf_X3_22 dX3_readDigits_66 xq1 ?_
      refine g_letS h (fun xσ14 h => ?_)
      refine g_goto (pc := 69) C dX3_readDigits_69 (tgt := 5) rfl ?_
      exact xH5 xa0 xσ14 h
theorem l_X3_readDigits_5 {x : XT} {y : YT} {Z : State → Prop} (C : Cx x y (AY y) RX3 cX3_readDigits 1 rm_X3_readDigits) {r : Unit} {σ' : Sto} (hr : RetV x y (AY y) 1 cX3_readDigits Z r σ') (n : Nat) (xa0 : Nat) (σ : Sto) (h : lo1 (F_X3_readDigits_b5) n xa0 σ = some (r, σ')) : GW x y (AY y) 1 Z 5 [(0, .ref (yad y (xa0)))] [] σ :=
  lo1_gw (G := fun xa0 σ => GW x y (AY y) 1 Z 5 [(0, .ref (yad y (xa0)))] [] σ) (fun xk xHk xa0 σ h => b_X3_readDigits_5 C hr xk xHk xa0 σ h) n xa0 σ h
set_option maxHeartbeats 4000000 in
set_option maxRecDepth 20000 in
theorem b_X3_readDigits_0 {x : XT} {y : YT} {Z : State → Prop} (C : Cx x y (AY y) RX3 cX3_readDigits 1 rm_X3_readDigits) {r : Unit} {σ' : Sto} (hr : RetV x y (AY y) 1 cX3_readDigits Z r σ') (xa0 : Nat) (σ : Sto) (h : F_X3_readDigits xa0 σ = some (r, σ')) : GW x y (AY y) 1 Z 0 [(0, .ref (yad y (xa0)))] [] σ := by
  unfold F_X3_readDigits at h
  refine g_aload_n (pc := 0) C dX3_readDigits_0 rfl 0 rfl ?_
  refine g_iconst (v := 0) (pc := 1) C dX3_readDigits_1 ci_0 ?_
  obtain ⟨xq1, h⟩ := iC h
  have xq1 := keq xq1
  refine gp_3_5 (pc := 2) C wf_X3_28 dX3_readDigits_2 xq1 ?_
  refine g_letS h (fun xσ2 h => ?_)
  exact l_X3_readDigits_5 C hr 1000 xa0 xσ2 h
theorem c_X3_readDigits (l : Launch) (y : YT) (xa0 : Nat) (σ σ' : Sto) (r : Unit) (h : F_X3_readDigits xa0 σ = some (r, σ')) : MV l y yX3_readDigits (Cond.code yX3_readDigits cX3_readDigits 1 none :: TT) rm_X3_readDigits [.ref (yad y (xa0))] σ r σ' :=
  mkV (by decide) rfl rfl rfl (Nat.le_of_ble_eq_true rfl) (fun x Z C hr => b_X3_readDigits_0 C hr xa0 σ h)
def rm_X3_nextToken : Room := { frames := 2, cells := 0, slots := 0, locals := 60 }
def F_X3_nextToken_b86 (xk_86 : Nat → Sto → Option (Unit × Sto)) (xa0 : Nat) (σ : Sto) : Option (Unit × Sto) := ck (kd (xa0) == 3) (if (σ xa0 1) ≤ (σ xa0 3) then some ((), σ) else bnd (F_X3_byteAt (xa0) (σ xa0 3) σ) (fun xr5 xσ3 => bnd (F_X3_isLetter (xr5) xσ3) (fun xr8 xσ6 => if (xr8) = 0 then some ((), xσ6) else lts (up2 xσ6 (xa0) 3 ((xσ6 xa0 3) + 1)) (fun xσ10 => xk_86 xa0 xσ10))))
def F_X3_nextToken_b155 (xa0 : Nat) (xs0 : Int32) (xs1 : Nat) (σ : Sto) : Option (Unit × Sto) := ck (kd (xs1) == 3) (lts (up2 σ (xs1) 4 (xs0)) (fun xσ2 => ck (kd (xa0) == 3) (lts (up2 xσ2 (xa0) 3 ((xσ2 xa0 3) + 1)) (fun xσ4 => some ((), xσ4)))))
def F_X3_nextToken_b45 (xa0 : Nat) (σ : Sto) : Option (Unit × Sto) := ck (kd (xa0) == 3) (lts (up2 σ (xa0) 3 (σ xa0 2)) (fun xσ2 => bnd (F_X3_byteAt (xa0) (xσ2 xa0 2) xσ2) (fun xr5 xσ3 => if 0 ≤ (xr5) then bnd (F_X3_isLetter (xr5) xσ3) (fun xr9 xσ7 => if (xr9) = 0 then bnd (F_X3_isDigit (xr5) xσ7) (fun xr13 xσ11 => if (xr13) = 0 then if xr5 = 59 then F_X3_nextToken_b155 xa0 3 xa0 xσ11 else F_X3_nextToken_b155 xa0 4 xa0 xσ11 else lts (up2 xσ11 (xa0) 4 (2)) (fun xσ16 => bnd (F_X3_readDigits (xa0) xσ16) (fun xr19 xσ17 => some ((), xσ17)))) else lts (up2 xσ7 (xa0) 4 (1)) (fun xσ20 => lo1 (F_X3_nextToken_b86) 1000 xa0 xσ20)) else lts (up2 xσ3 (xa0) 4 (0)) (fun xσ21 => some ((), xσ21)))))
def F_X3_nextToken_b8 (xk_8 : Nat → Sto → Option (Unit × Sto)) (xa0 : Nat) (σ : Sto) : Option (Unit × Sto) := ck (kd (xa0) == 3) (if (σ xa0 1) ≤ (σ xa0 2) then F_X3_nextToken_b45 xa0 σ else bnd (F_X3_byteAt (xa0) (σ xa0 2) σ) (fun xr5 xσ3 => if xr5 = 32 then lts (up2 xσ3 (xa0) 2 ((xσ3 xa0 2) + 1)) (fun xσ7 => xk_8 xa0 xσ7) else F_X3_nextToken_b45 xa0 xσ3))
def F_X3_nextToken (xa0 : Nat) (σ : Sto) : Option (Unit × Sto) := ck (kd (xa0) == 3) (lts (up2 σ (xa0) 2 (σ xa0 3)) (fun xσ2 => lo1 (F_X3_nextToken_b8) 1000 xa0 xσ2))
set_option maxHeartbeats 4000000 in
set_option maxRecDepth 20000 in
theorem b_X3_nextToken_86 {x : XT} {y : YT} {Z : State → Prop} (C : Cx x y (AY y) RX3 cX3_nextToken 2 rm_X3_nextToken) {r : Unit} {σ' : Sto} (hr : RetV x y (AY y) 2 cX3_nextToken Z r σ') (xk_86 : Nat → Sto → Option (Unit × Sto)) (xH86 : ∀ (xa0 : Nat) (σ : Sto), xk_86 xa0 σ = some (r, σ') → GW x y (AY y) 2 Z 86 [(0, .ref (yad y (xa0)))] [] σ) (xa0 : Nat) (σ : Sto) (h : F_X3_nextToken_b86 xk_86 xa0 σ = some (r, σ')) : GW x y (AY y) 2 Z 86 [(0, .ref (yad y (xa0)))] [] σ := by
  unfold F_X3_nextToken_b86 at h
  refine g_aload_n (pc := 86) C dX3_nextToken_86 rfl 0 rfl ?_
  obtain ⟨xq1, h⟩ := iC h
  have xq1 := keq xq1
  refine gf_3_3 (pc := 87) C wf_X3_22 dX3_nextToken_87 xq1 ?_
  refine g_aload_n (pc := 90) C dX3_nextToken_90 rfl 0 rfl ?_
  refine gf_3_1 (pc := 91) C wf_X3_15 dX3_nextToken_91 xq1 ?_
  refine g_icmp_ge (pc := 94) C dX3_nextToken_94 (tgt := 168) rfl (fun xq2 => ?_) (fun xq2 => ?_)
  · have h := iP xq2 h
    exact rtV hr dX3_nextToken_168 h
  · have h := iN xq2 h
    refine g_aload_n (pc := 97) C dX3_nextToken_97 rfl 0 rfl ?_
    refine g_aload_n (pc := 98) C dX3_nextToken_98 rfl 0 rfl ?_
    refine gf_3_3 (pc := 99) C wf_X3_22 dX3_nextToken_99 xq1 ?_
    obtain ⟨xr5, xσ3, xc4, h⟩ := iB h
    refine g_callVi (pc := 102) (As := [.int (σ xa0 3)]) (rest := []) C dX3_nextToken_102 (fun l => c_X3_byteAt l y _ _ _ _ _ xc4) cv_X3_94 ⟨rfl, rfl, Nat.le_of_ble_eq_true rfl, Nat.le_of_ble_eq_true rfl⟩ (rv3 xq1) rfl (Nat.le_of_ble_eq_true rfl) ?_
    obtain ⟨xr8, xσ6, xc7, h⟩ := iB h
    refine g_callSi (pc := 105) (As := [.int (xr5)]) (rest := []) C dX3_nextToken_105 (fun l => c_X3_isLetter l y _ _ _ _ xc7) cv_X3_97 ⟨rfl, rfl, Nat.le_of_ble_eq_true rfl, Nat.le_of_ble_eq_true rfl⟩ rfl (Nat.le_of_ble_eq_true rfl) ?_
    refine g_if_eq (pc := 108) C dX3_nextToken_108 (tgt := 168) rfl (fun xq9 => ?_) (fun xq9 => ?_)
    · have h := iP xq9 h
      exact rtV hr dX3_nextToken_168 h
    · have h := iN xq9 h
      refine g_aload_n (pc := 111) C dX3_nextToken_111 rfl 0 rfl ?_
      refine g_dup (pc := 112) C dX3_nextToken_112 rfl ?_
      refine gf_3_3 (pc := 113) C wf_X3_22 dX3_nextToken_113 xq1 ?_
      refine g_iconst (v := 1) (pc := 116) C dX3_nextToken_116 ci_1 ?_
      refine g_iadd (pc := 117) C dX3_nextToken_117 ?_
      refine gp_3_3 (pc := 118) C wf_X3_22 dX3_nextToken_118 xq1 ?_
      refine g_letS h (fun xσ10 h => ?_)
      refine g_goto (pc := 121) C dX3_nextToken_121 (tgt := 86) rfl ?_
      exact xH86 xa0 xσ10 h
theorem l_X3_nextToken_86 {x : XT} {y : YT} {Z : State → Prop} (C : Cx x y (AY y) RX3 cX3_nextToken 2 rm_X3_nextToken) {r : Unit} {σ' : Sto} (hr : RetV x y (AY y) 2 cX3_nextToken Z r σ') (n : Nat) (xa0 : Nat) (σ : Sto) (h : lo1 (F_X3_nextToken_b86) n xa0 σ = some (r, σ')) : GW x y (AY y) 2 Z 86 [(0, .ref (yad y (xa0)))] [] σ :=
  lo1_gw (G := fun xa0 σ => GW x y (AY y) 2 Z 86 [(0, .ref (yad y (xa0)))] [] σ) (fun xk xHk xa0 σ h => b_X3_nextToken_86 C hr xk xHk xa0 σ h) n xa0 σ h
set_option maxHeartbeats 4000000 in
set_option maxRecDepth 20000 in
theorem b_X3_nextToken_155 {x : XT} {y : YT} {Z : State → Prop} (C : Cx x y (AY y) RX3 cX3_nextToken 2 rm_X3_nextToken) {r : Unit} {σ' : Sto} (hr : RetV x y (AY y) 2 cX3_nextToken Z r σ') (xa0 : Nat) (xs0 : Int32) (xs1 : Nat) (σ : Sto) (h : F_X3_nextToken_b155 xa0 xs0 xs1 σ = some (r, σ')) : GW x y (AY y) 2 Z 155 [(0, .ref (yad y (xa0)))] [.int (xs0), .ref (yad y (xs1))] σ := by
  unfold F_X3_nextToken_b155 at h
  obtain ⟨xq1, h⟩ := iC h
  have xq1 := keq xq1
  refine gp_3_4 (pc := 155) C wf_X3_25 dX3_nextToken_155 xq1 ?_
  refine g_letS h (fun xσ2 h => ?_)
  refine g_aload_n (pc := 158) C dX3_nextToken_158 rfl 0 rfl ?_
  refine g_dup (pc := 159) C dX3_nextToken_159 rfl ?_
  obtain ⟨xq3, h⟩ := iC h
  have xq3 := keq xq3
  refine gf_3_3 (pc := 160) C wf_X3_22 dX3_nextToken_160 xq3 ?_
  refine g_iconst (v := 1) (pc := 163) C dX3_nextToken_163 ci_1 ?_
  refine g_iadd (pc := 164) C dX3_nextToken_164 ?_
  refine gp_3_3 (pc := 165) C wf_X3_22 dX3_nextToken_165 xq3 ?_
  refine g_letS h (fun xσ4 h => ?_)
  exact rtV hr dX3_nextToken_168 h
set_option maxHeartbeats 4000000 in
set_option maxRecDepth 20000 in
theorem b_X3_nextToken_45 {x : XT} {y : YT} {Z : State → Prop} (C : Cx x y (AY y) RX3 cX3_nextToken 2 rm_X3_nextToken) {r : Unit} {σ' : Sto} (hr : RetV x y (AY y) 2 cX3_nextToken Z r σ') (xa0 : Nat) (σ : Sto) (h : F_X3_nextToken_b45 xa0 σ = some (r, σ')) : GW x y (AY y) 2 Z 45 [(0, .ref (yad y (xa0)))] [] σ := by
  unfold F_X3_nextToken_b45 at h
  refine g_aload_n (pc := 45) C dX3_nextToken_45 rfl 0 rfl ?_
  refine g_aload_n (pc := 46) C dX3_nextToken_46 rfl 0 rfl ?_
  obtain ⟨xq1, h⟩ := iC h
  have xq1 := keq xq1
  refine gf_3_2 (pc := 47) C wf_X3_19 dX3_nextToken_47 xq1 ?_
  refine gp_3_3 (pc := 50) C wf_X3_22 dX3_nextToken_50 xq1 ?_
  refine g_letS h (fun xσ2 h => ?_)
  refine g_aload_n (pc := 53) C dX3_nextToken_53 rfl 0 rfl ?_
  refine g_aload_n (pc := 54) C dX3_nextToken_54 rfl 0 rfl ?_
  refine gf_3_2 (pc := 55) C wf_X3_19 dX3_nextToken_55 xq1 ?_
  obtain ⟨xr5, xσ3, xc4, h⟩ := iB h
  refine g_callVi (pc := 58) (As := [.int (xσ2 xa0 2)]) (rest := []) C dX3_nextToken_58 (fun l => c_X3_byteAt l y _ _ _ _ _ xc4) cv_X3_94 ⟨rfl, rfl, Nat.le_of_ble_eq_true rfl, Nat.le_of_ble_eq_true rfl⟩ (rv3 xq1) rfl (Nat.le_of_ble_eq_true rfl) ?_
  refine g_istore_n (i := 1) (lv' := [(1, .int (xr5)), (0, .ref (yad y (xa0)))]) (pc := 61) C dX3_nextToken_61 rfl (Nat.le_of_ble_eq_true rfl) rfl ?_
  refine g_iload_n (pc := 62) C dX3_nextToken_62 rfl 0 rfl ?_
  refine g_if_ge (pc := 63) C dX3_nextToken_63 (tgt := 74) rfl (fun xq6 => ?_) (fun xq6 => ?_)
  · have h := iP xq6 h
    refine g_iload_n (pc := 74) C dX3_nextToken_74 rfl 0 rfl ?_
    obtain ⟨xr9, xσ7, xc8, h⟩ := iB h
    refine g_callSi (pc := 75) (As := [.int (xr5)]) (rest := []) C dX3_nextToken_75 (fun l => c_X3_isLetter l y _ _ _ _ xc8) cv_X3_97 ⟨rfl, rfl, Nat.le_of_ble_eq_true rfl, Nat.le_of_ble_eq_true rfl⟩ rfl (Nat.le_of_ble_eq_true rfl) ?_
    refine g_if_eq (pc := 78) C dX3_nextToken_78 (tgt := 124) rfl (fun xq10 => ?_) (fun xq10 => ?_)
    · have h := iP xq10 h
      refine g_iload_n (pc := 124) C dX3_nextToken_124 rfl 0 rfl ?_
      obtain ⟨xr13, xσ11, xc12, h⟩ := iB h
      refine g_callSi (pc := 125) (As := [.int (xr5)]) (rest := []) C dX3_nextToken_125 (fun l => c_X3_isDigit l y _ _ _ _ xc12) cv_X3_100 ⟨rfl, rfl, Nat.le_of_ble_eq_true rfl, Nat.le_of_ble_eq_true rfl⟩ rfl (Nat.le_of_ble_eq_true rfl) ?_
      refine g_if_eq (pc := 128) C dX3_nextToken_128 (tgt := 143) rfl (fun xq14 => ?_) (fun xq14 => ?_)
      · have h := iP xq14 h
        refine g_aload_n (pc := 143) C dX3_nextToken_143 rfl 1 rfl ?_
        refine g_iload_n (pc := 144) C dX3_nextToken_144 rfl 0 rfl ?_
        refine g_bipush (v := 59) (pc := 145) C dX3_nextToken_145 cb_59 ?_
        refine g_icmp_ne (pc := 147) C dX3_nextToken_147 (tgt := 154) rfl (fun xq15 => ?_) (fun xq15 => ?_)
        · have h := iN xq15 h
          refine g_iconst (v := 4) (pc := 154) C dX3_nextToken_154 ci_4 ?_
          refine g_sub (lv' := [(0, .ref (yad y (xa0)))]) C [1] rfl ?_
          exact b_X3_nextToken_155 C hr xa0 4 xa0 xσ11 h
        · have h := iP xq15 h
          refine g_iconst (v := 3) (pc := 150) C dX3_nextToken_150 ci_3 ?_
          refine g_goto (pc := 151) C dX3_nextToken_151 (tgt := 155) rfl ?_
          refine g_sub (lv' := [(0, .ref (yad y (xa0)))]) C [1] rfl ?_
          exact b_X3_nextToken_155 C hr xa0 3 xa0 xσ11 h
      · have h := iN xq14 h
        refine g_aload_n (pc := 131) C dX3_nextToken_131 rfl 1 rfl ?_
        refine g_iconst (v := 2) (pc := 132) C dX3_nextToken_132 ci_2 ?_
        refine gp_3_4 (pc := 133) C wf_X3_25 dX3_nextToken_133 xq1 ?_
        refine g_letS h (fun xσ16 h => ?_)
        refine g_aload_n (pc := 136) C dX3_nextToken_136 rfl 1 rfl ?_
        obtain ⟨xr19, xσ17, xc18, h⟩ := iB h
        refine g_callVv (pc := 137) (As := []) (rest := []) C dX3_nextToken_137 (fun l => c_X3_readDigits l y _ _ _ _ xc18) cv_X3_103 ⟨rfl, rfl, Nat.le_of_ble_eq_true rfl, Nat.le_of_ble_eq_true rfl⟩ (rv3 xq1) rfl (Nat.le_of_ble_eq_true rfl) ?_
        refine g_goto (pc := 140) C dX3_nextToken_140 (tgt := 168) rfl ?_
        exact rtV hr dX3_nextToken_168 h
    · have h := iN xq10 h
      refine g_aload_n (pc := 81) C dX3_nextToken_81 rfl 1 rfl ?_
      refine g_iconst (v := 1) (pc := 82) C dX3_nextToken_82 ci_1 ?_
      refine gp_3_4 (pc := 83) C wf_X3_25 dX3_nextToken_83 xq1 ?_
      refine g_letS h (fun xσ20 h => ?_)
      refine g_sub (lv' := [(0, .ref (yad y (xa0)))]) C [1] rfl ?_
      exact l_X3_nextToken_86 C hr 1000 xa0 xσ20 h
  · have h := iN xq6 h
    refine g_aload_n (pc := 66) C dX3_nextToken_66 rfl 1 rfl ?_
    refine g_iconst (v := 0) (pc := 67) C dX3_nextToken_67 ci_0 ?_
    refine gp_3_4 (pc := 68) C wf_X3_25 dX3_nextToken_68 xq1 ?_
    refine g_letS h (fun xσ21 h => ?_)
    refine g_goto (pc := 71) C dX3_nextToken_71 (tgt := 168) rfl ?_
    exact rtV hr dX3_nextToken_168 h
set_option maxHeartbeats 4000000 in
set_option maxRecDepth 20000 in
theorem b_X3_nextToken_8 {x : XT} {y : YT} {Z : State → Prop} (C : Cx x y (AY y) RX3 cX3_nextToken 2 rm_X3_nextToken) {r : Unit} {σ' : Sto} (hr : RetV x y (AY y) 2 cX3_nextToken Z r σ') (xk_8 : Nat → Sto → Option (Unit × Sto)) (xH8 : ∀ (xa0 : Nat) (σ : Sto), xk_8 xa0 σ = some (r, σ') → GW x y (AY y) 2 Z 8 [(0, .ref (yad y (xa0)))] [] σ) (xa0 : Nat) (σ : Sto) (h : F_X3_nextToken_b8 xk_8 xa0 σ = some (r, σ')) : GW x y (AY y) 2 Z 8 [(0, .ref (yad y (xa0)))] [] σ := by
  unfold F_X3_nextToken_b8 at h
  refine g_aload_n (pc := 8) C dX3_nextToken_8 rfl 0 rfl ?_
  obtain ⟨xq1, h⟩ := iC h
  have xq1 := keq xq1
  refine gf_3_2 (pc := 9) C wf_X3_19 dX3_nextToken_9 xq1 ?_
  refine g_aload_n (pc := 12) C dX3_nextToken_12 rfl 0 rfl ?_
  refine gf_3_1 (pc := 13) C wf_X3_15 dX3_nextToken_13 xq1 ?_
  refine g_icmp_ge (pc := 16) C dX3_nextToken_16 (tgt := 45) rfl (fun xq2 => ?_) (fun xq2 => ?_)
  · have h := iP xq2 h
    exact b_X3_nextToken_45 C hr xa0 σ h
  · have h := iN xq2 h
    refine g_aload_n (pc := 19) C dX3_nextToken_19 rfl 0 rfl ?_
    refine g_aload_n (pc := 20) C dX3_nextToken_20 rfl 0 rfl ?_
    refine gf_3_2 (pc := 21) C wf_X3_19 dX3_nextToken_21 xq1 ?_
    obtain ⟨xr5, xσ3, xc4, h⟩ := iB h
    refine g_callVi (pc := 24) (As := [.int (σ xa0 2)]) (rest := []) C dX3_nextToken_24 (fun l => c_X3_byteAt l y _ _ _ _ _ xc4) cv_X3_94 ⟨rfl, rfl, Nat.le_of_ble_eq_true rfl, Nat.le_of_ble_eq_true rfl⟩ (rv3 xq1) rfl (Nat.le_of_ble_eq_true rfl) ?_
    refine g_bipush (v := 32) (pc := 27) C dX3_nextToken_27 cb_32 ?_
    refine g_icmp_ne (pc := 29) C dX3_nextToken_29 (tgt := 45) rfl (fun xq6 => ?_) (fun xq6 => ?_)
    · have h := iN xq6 h
      exact b_X3_nextToken_45 C hr xa0 xσ3 h
    · have h := iP xq6 h
      refine g_aload_n (pc := 32) C dX3_nextToken_32 rfl 0 rfl ?_
      refine g_dup (pc := 33) C dX3_nextToken_33 rfl ?_
      refine gf_3_2 (pc := 34) C wf_X3_19 dX3_nextToken_34 xq1 ?_
      refine g_iconst (v := 1) (pc := 37) C dX3_nextToken_37 ci_1 ?_
      refine g_iadd (pc := 38) C dX3_nextToken_38 ?_
      refine gp_3_2 (pc := 39) C wf_X3_19 dX3_nextToken_39 xq1 ?_
      refine g_letS h (fun xσ7 h => ?_)
      refine g_goto (pc := 42) C dX3_nextToken_42 (tgt := 8) rfl ?_
      exact xH8 xa0 xσ7 h
theorem l_X3_nextToken_8 {x : XT} {y : YT} {Z : State → Prop} (C : Cx x y (AY y) RX3 cX3_nextToken 2 rm_X3_nextToken) {r : Unit} {σ' : Sto} (hr : RetV x y (AY y) 2 cX3_nextToken Z r σ') (n : Nat) (xa0 : Nat) (σ : Sto) (h : lo1 (F_X3_nextToken_b8) n xa0 σ = some (r, σ')) : GW x y (AY y) 2 Z 8 [(0, .ref (yad y (xa0)))] [] σ :=
  lo1_gw (G := fun xa0 σ => GW x y (AY y) 2 Z 8 [(0, .ref (yad y (xa0)))] [] σ) (fun xk xHk xa0 σ h => b_X3_nextToken_8 C hr xk xHk xa0 σ h) n xa0 σ h
set_option maxHeartbeats 4000000 in
set_option maxRecDepth 20000 in
theorem b_X3_nextToken_0 {x : XT} {y : YT} {Z : State → Prop} (C : Cx x y (AY y) RX3 cX3_nextToken 2 rm_X3_nextToken) {r : Unit} {σ' : Sto} (hr : RetV x y (AY y) 2 cX3_nextToken Z r σ') (xa0 : Nat) (σ : Sto) (h : F_X3_nextToken xa0 σ = some (r, σ')) : GW x y (AY y) 2 Z 0 [(0, .ref (yad y (xa0)))] [] σ := by
  unfold F_X3_nextToken at h
  refine g_aload_n (pc := 0) C dX3_nextToken_0 rfl 0 rfl ?_
  refine g_aload_n (pc := 1) C dX3_nextToken_1 rfl 0 rfl ?_
  obtain ⟨xq1, h⟩ := iC h
  have xq1 := keq xq1
  refine gf_3_3 (pc := 2) C wf_X3_22 dX3_nextToken_2 xq1 ?_
  refine gp_3_2 (pc := 5) C wf_X3_19 dX3_nextToken_5 xq1 ?_
  refine g_letS h (fun xσ2 h => ?_)
  exact l_X3_nextToken_8 C hr 1000 xa0 xσ2 h
theorem c_X3_nextToken (l : Launch) (y : YT) (xa0 : Nat) (σ σ' : Sto) (r : Unit) (h : F_X3_nextToken xa0 σ = some (r, σ')) : MV l y yX3_nextToken (Cond.code yX3_nextToken cX3_nextToken 2 none :: TT) rm_X3_nextToken [.ref (yad y (xa0))] σ r σ' :=
  mkV (by decide) rfl rfl rfl (Nat.le_of_ble_eq_true rfl) (fun x Z C hr => b_X3_nextToken_0 C hr xa0 σ h)

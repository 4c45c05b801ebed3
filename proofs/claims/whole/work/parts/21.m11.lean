/-! methods, by program: what each does to the store (F_), its walk (b_), its contract (c_): X5_minute, X5_minutes, X5_sumOf, X5_go, X5_goodOnes, X5_commonFaults, X5_now, X5_behind, X5_ahead, X5_later, X5_when, X5_broke, X5_areAllTaken -/
def rm_X5_minute : Room := { frames := 6, cells := 0, slots := 0, locals := 134 }
def F_X5_minute_b41 (xk_41 : Nat → Int32 → Sto → Option (Unit × Sto)) (xa0 : Nat) (xa2 : Int32) (σ : Sto) : Option (Unit × Sto) := ck (kd (xa0) == 5) (if (σ 50 1) ≤ xa2 then some ((), σ) else if (irm (σ 50 0) 6) = 0 then bnd (F_X5_sitterAt (xa2) 4 σ) (fun xr6 xσ4 => bnd (F_X5_sitterIs (xa0) (xa2) 4 xσ4) (fun xr9 xσ7 => ck (inr (xr6) (79)) (lts (up2 xσ7 50 (xr6.toNatClampNeg) (imin 999 (xr9 + 3))) (fun xσ11 => xk_41 xa0 (xa2 + 1) xσ11)))) else some ((), σ))
def F_X5_minute_b29 (xa0 : Nat) (σ : Sto) : Option (Unit × Sto) := ck (kd (xa0) == 5) (lts (up2 σ 50 0 ((σ 50 0) + 1)) (fun xσ2 => lo2 (F_X5_minute_b41) 1000 xa0 0 xσ2))
def F_X5_minute (xa0 : Nat) (σ : Sto) : Option (Unit × Sto) := ck (kd (xa0) == 5) (bnd (F_X5_next (xa0) σ) (fun xr4 xσ1 => if (xr4) < 0 then F_X5_minute_b29 xa0 xσ1 else bnd (F_X5_sitterIs (xa0) (xr4) 4 xσ1) (fun xr8 xσ6 => if xr8 < (xσ6 50 5) then F_X5_minute_b29 xa0 xσ6 else bnd (F_X5_sits (xa0) (xr4) xσ6) (fun xr12 xσ10 => F_X5_minute_b29 xa0 xσ10))))
set_option maxHeartbeats 4000000 in
set_option maxRecDepth 20000 in
theorem b_X5_minute_41 {x : XT} {y : YT} {Z : State → Prop} (C : Cx x y (AY y) RX5 cX5_minute 3 rm_X5_minute) {r : Unit} {σ' : Sto} (hr : RetV x y (AY y) 3 cX5_minute Z r σ') (xk_41 : Nat → Int32 → Sto → Option (Unit × Sto)) (xH41 : ∀ (xa0 : Nat) (xa2 : Int32) (σ : Sto), xk_41 xa0 xa2 σ = some (r, σ') → GW x y (AY y) 3 Z 41 [(0, .ref (yad y (xa0))), (2, .int (xa2))] [] σ) (xa0 : Nat) (xa2 : Int32) (σ : Sto) (h : F_X5_minute_b41 xk_41 xa0 xa2 σ = some (r, σ')) : GW x y (AY y) 3 Z 41 [(0, .ref (yad y (xa0))), (2, .int (xa2))] [] σ := by
  unfold F_X5_minute_b41 at h
  refine g_iload_n (pc := 41) C dX5_minute_41 rfl 1 rfl ?_
  refine g_aload_n (pc := 42) C dX5_minute_42 rfl 0 rfl ?_
  obtain ⟨xq1, h⟩ := iC h
  have xq1 := keq xq1
  refine gf_5_0 (pc := 43) C wf_X5_9 dX5_minute_43 xq1 ?_
  refine g_iconst (v := 1) (pc := 46) C dX5_minute_46 ci_1 ?_
  refine g_iald (pc := 47) C dX5_minute_47 rfl (ivp (by decide) rfl) (j := 1) ct_1 ?_
  refine g_icmp_ge (pc := 48) C dX5_minute_48 (tgt := 93) rfl (fun xq2 => ?_) (fun xq2 => ?_)
  · have h := iP xq2 h
    exact rtV hr dX5_minute_93 h
  · have h := iN xq2 h
    refine g_aload_n (pc := 51) C dX5_minute_51 rfl 0 rfl ?_
    refine gf_5_0 (pc := 52) C wf_X5_9 dX5_minute_52 xq1 ?_
    refine g_iconst (v := 0) (pc := 55) C dX5_minute_55 ci_0 ?_
    refine g_iald (pc := 56) C dX5_minute_56 rfl (ivp (by decide) rfl) (j := 0) ct_0 ?_
    refine g_bipush (v := 6) (pc := 57) C dX5_minute_57 cb_6 ?_
    refine g_irem (pc := 59) C dX5_minute_59 (by decide) ?_
    refine g_if_ne (pc := 60) C dX5_minute_60 (tgt := 93) rfl (fun xq3 => ?_) (fun xq3 => ?_)
    · have h := iN xq3 h
      exact rtV hr dX5_minute_93 h
    · have h := iP xq3 h
      refine g_aload_n (pc := 63) C dX5_minute_63 rfl 0 rfl ?_
      refine gf_5_0 (pc := 64) C wf_X5_9 dX5_minute_64 xq1 ?_
      refine g_iload_n (pc := 67) C dX5_minute_67 rfl 1 rfl ?_
      refine g_iconst (v := 4) (pc := 68) C dX5_minute_68 ci_4 ?_
      obtain ⟨xr6, xσ4, xc5, h⟩ := iB h
      refine g_callSi (pc := 69) (As := [.int (xa2), .int (4)]) (rest := [.ref (yad y (50))]) C dX5_minute_69 (fun l => c_X5_sitterAt l y _ _ _ _ _ xc5) cv_X5_93 ⟨rfl, rfl, Nat.le_of_ble_eq_true rfl, Nat.le_of_ble_eq_true rfl⟩ rfl (Nat.le_of_ble_eq_true rfl) ?_
      refine g_sipush (v := 999) (pc := 72) C dX5_minute_72 cs_999 ?_
      refine g_aload_n (pc := 75) C dX5_minute_75 rfl 0 rfl ?_
      refine g_iload_n (pc := 76) C dX5_minute_76 rfl 1 rfl ?_
      refine g_iconst (v := 4) (pc := 77) C dX5_minute_77 ci_4 ?_
      obtain ⟨xr9, xσ7, xc8, h⟩ := iB h
      refine g_callVi (pc := 78) (As := [.int (xa2), .int (4)]) (rest := [.int (999), .int (xr6), .ref (yad y (50))]) C dX5_minute_78 (fun l => c_X5_sitterIs l y _ _ _ _ _ _ xc8) cv_X5_104 ⟨rfl, rfl, Nat.le_of_ble_eq_true rfl, Nat.le_of_ble_eq_true rfl⟩ (rv5 xq1) rfl (Nat.le_of_ble_eq_true rfl) ?_
      refine g_iconst (v := 3) (pc := 81) C dX5_minute_81 ci_3 ?_
      refine g_iadd (pc := 82) C dX5_minute_82 ?_
      refine g_mmin (pc := 83) C dX5_minute_83 wm_X5_139 wt_min wn_Math wc_min (Nat.le_of_ble_eq_true rfl) (Nat.le_of_ble_eq_true rfl) ?_
      obtain ⟨xq10, h⟩ := iC h
      refine g_iast (pc := 86) C dX5_minute_86 rfl (ivp xq10 rfl) (j := xr6.toNatClampNeg) rfl ?_
      refine g_letS h (fun xσ11 h => ?_)
      refine g_iinc (lv' := [(2, .int (xa2 + 1)), (0, .ref (yad y (xa0)))]) (w := xa2 + 1) (pc := 87) C dX5_minute_87 (k := 1) rfl rfl (Nat.le_of_ble_eq_true rfl) rfl ?_
      refine g_goto (pc := 90) C dX5_minute_90 (tgt := 41) rfl ?_
      refine g_sub (lv' := [(0, .ref (yad y (xa0))), (2, .int (xa2 + 1))]) C [1, 0] rfl ?_
      exact xH41 xa0 (xa2 + 1) xσ11 h
theorem l_X5_minute_41 {x : XT} {y : YT} {Z : State → Prop} (C : Cx x y (AY y) RX5 cX5_minute 3 rm_X5_minute) {r : Unit} {σ' : Sto} (hr : RetV x y (AY y) 3 cX5_minute Z r σ') (n : Nat) (xa0 : Nat) (xa2 : Int32) (σ : Sto) (h : lo2 (F_X5_minute_b41) n xa0 xa2 σ = some (r, σ')) : GW x y (AY y) 3 Z 41 [(0, .ref (yad y (xa0))), (2, .int (xa2))] [] σ :=
  lo2_gw (G := fun xa0 xa2 σ => GW x y (AY y) 3 Z 41 [(0, .ref (yad y (xa0))), (2, .int (xa2))] [] σ) (fun xk xHk xa0 xa2 σ h => b_X5_minute_41 C hr xk xHk xa0 xa2 σ h) n xa0 xa2 σ h
set_option maxHeartbeats 4000000 in
set_option maxRecDepth 20000 in
theorem b_X5_minute_29 {x : XT} {y : YT} {Z : State → Prop} (C : Cx x y (AY y) RX5 cX5_minute 3 rm_X5_minute) {r : Unit} {σ' : Sto} (hr : RetV x y (AY y) 3 cX5_minute Z r σ') (xa0 : Nat) (σ : Sto) (h : F_X5_minute_b29 xa0 σ = some (r, σ')) : GW x y (AY y) 3 Z 29 [(0, .ref (yad y (xa0)))] [] σ := by
  unfold F_X5_minute_b29 at h
  refine g_aload_n (pc := 29) C dX5_minute_29 rfl 0 rfl ?_
  obtain ⟨xq1, h⟩ := iC h
  have xq1 := keq xq1
  refine gf_5_0 (pc := 30) C wf_X5_9 dX5_minute_30 xq1 ?_
  refine g_iconst (v := 0) (pc := 33) C dX5_minute_33 ci_0 ?_
  refine g_dup2 (pc := 34) C dX5_minute_34 rfl rfl ?_
  refine g_iald (pc := 35) C dX5_minute_35 rfl (ivp (by decide) rfl) (j := 0) ct_0 ?_
  refine g_iconst (v := 1) (pc := 36) C dX5_minute_36 ci_1 ?_
  refine g_iadd (pc := 37) C dX5_minute_37 ?_
  refine g_iast (pc := 38) C dX5_minute_38 rfl (ivp (by decide) rfl) (j := 0) ct_0 ?_
  refine g_letS h (fun xσ2 h => ?_)
  refine g_iconst (v := 0) (pc := 39) C dX5_minute_39 ci_0 ?_
  refine g_istore_n (i := 2) (lv' := [(2, .int (0)), (0, .ref (yad y (xa0)))]) (pc := 40) C dX5_minute_40 rfl (Nat.le_of_ble_eq_true rfl) rfl ?_
  refine g_sub (lv' := [(0, .ref (yad y (xa0))), (2, .int (0))]) C [1, 0] rfl ?_
  exact l_X5_minute_41 C hr 1000 xa0 0 xσ2 h
set_option maxHeartbeats 4000000 in
set_option maxRecDepth 20000 in
theorem b_X5_minute_0 {x : XT} {y : YT} {Z : State → Prop} (C : Cx x y (AY y) RX5 cX5_minute 3 rm_X5_minute) {r : Unit} {σ' : Sto} (hr : RetV x y (AY y) 3 cX5_minute Z r σ') (xa0 : Nat) (σ : Sto) (h : F_X5_minute xa0 σ = some (r, σ')) : GW x y (AY y) 3 Z 0 [(0, .ref (yad y (xa0)))] [] σ := by
  unfold F_X5_minute at h
  refine g_aload_n (pc := 0) C dX5_minute_0 rfl 0 rfl ?_
  obtain ⟨xq3, h⟩ := iC h
  have xq3 := keq xq3
  obtain ⟨xr4, xσ1, xc2, h⟩ := iB h
  refine g_callVi (pc := 1) (As := []) (rest := []) C dX5_minute_1 (fun l => c_X5_next l y _ _ _ _ xc2) cv_X5_152 ⟨rfl, rfl, Nat.le_of_ble_eq_true rfl, Nat.le_of_ble_eq_true rfl⟩ (rv5 xq3) rfl (Nat.le_of_ble_eq_true rfl) ?_
  refine g_istore_n (i := 1) (lv' := [(1, .int (xr4)), (0, .ref (yad y (xa0)))]) (pc := 4) C dX5_minute_4 rfl (Nat.le_of_ble_eq_true rfl) rfl ?_
  refine g_iload_n (pc := 5) C dX5_minute_5 rfl 0 rfl ?_
  refine g_if_lt (pc := 6) C dX5_minute_6 (tgt := 29) rfl (fun xq5 => ?_) (fun xq5 => ?_)
  · have h := iP xq5 h
    refine g_sub (lv' := [(0, .ref (yad y (xa0)))]) C [1] rfl ?_
    exact b_X5_minute_29 C hr xa0 xσ1 h
  · have h := iN xq5 h
    refine g_aload_n (pc := 9) C dX5_minute_9 rfl 1 rfl ?_
    refine g_iload_n (pc := 10) C dX5_minute_10 rfl 0 rfl ?_
    refine g_iconst (v := 4) (pc := 11) C dX5_minute_11 ci_4 ?_
    obtain ⟨xr8, xσ6, xc7, h⟩ := iB h
    refine g_callVi (pc := 12) (As := [.int (xr4), .int (4)]) (rest := []) C dX5_minute_12 (fun l => c_X5_sitterIs l y _ _ _ _ _ _ xc7) cv_X5_104 ⟨rfl, rfl, Nat.le_of_ble_eq_true rfl, Nat.le_of_ble_eq_true rfl⟩ (rv5 xq3) rfl (Nat.le_of_ble_eq_true rfl) ?_
    refine g_aload_n (pc := 15) C dX5_minute_15 rfl 1 rfl ?_
    refine gf_5_0 (pc := 16) C wf_X5_9 dX5_minute_16 xq3 ?_
    refine g_iconst (v := 5) (pc := 19) C dX5_minute_19 ci_5 ?_
    refine g_iald (pc := 20) C dX5_minute_20 rfl (ivp (by decide) rfl) (j := 5) ct_5 ?_
    refine g_icmp_lt (pc := 21) C dX5_minute_21 (tgt := 29) rfl (fun xq9 => ?_) (fun xq9 => ?_)
    · have h := iP xq9 h
      refine g_sub (lv' := [(0, .ref (yad y (xa0)))]) C [1] rfl ?_
      exact b_X5_minute_29 C hr xa0 xσ6 h
    · have h := iN xq9 h
      refine g_aload_n (pc := 24) C dX5_minute_24 rfl 1 rfl ?_
      refine g_iload_n (pc := 25) C dX5_minute_25 rfl 0 rfl ?_
      obtain ⟨xr12, xσ10, xc11, h⟩ := iB h
      refine g_callVv (pc := 26) (As := [.int (xr4)]) (rest := []) C dX5_minute_26 (fun l => c_X5_sits l y _ _ _ _ _ xc11) cv_X5_156 ⟨rfl, rfl, Nat.le_of_ble_eq_true rfl, Nat.le_of_ble_eq_true rfl⟩ (rv5 xq3) rfl (Nat.le_of_ble_eq_true rfl) ?_
      refine g_sub (lv' := [(0, .ref (yad y (xa0)))]) C [1] rfl ?_
      exact b_X5_minute_29 C hr xa0 xσ10 h
theorem c_X5_minute (l : Launch) (y : YT) (xa0 : Nat) (σ σ' : Sto) (r : Unit) (h : F_X5_minute xa0 σ = some (r, σ')) : MV l y yX5_minute (Cond.code yX5_minute cX5_minute 3 none :: TT) rm_X5_minute [.ref (yad y (xa0))] σ r σ' :=
  mkV (by decide) rfl rfl rfl (Nat.le_of_ble_eq_true rfl) (fun x Z C hr => b_X5_minute_0 C hr xa0 σ h)
def rm_X5_minutes : Room := { frames := 7, cells := 0, slots := 0, locals := 156 }
def F_X5_minutes_b2 (xk_2 : Nat → Int32 → Int32 → Sto → Option (Unit × Sto)) (xa0 : Nat) (xa1 : Int32) (xa2 : Int32) (σ : Sto) : Option (Unit × Sto) := if xa1 ≤ xa2 then some ((), σ) else ck (kd (xa0) == 5) (bnd (F_X5_minute (xa0) σ) (fun xr5 xσ2 => xk_2 xa0 xa1 (xa2 + 1) xσ2))
def F_X5_minutes (xa0 : Nat) (xa1 : Int32) (σ : Sto) : Option (Unit × Sto) := lo3 (F_X5_minutes_b2) 1000 xa0 xa1 0 σ
set_option maxHeartbeats 4000000 in
set_option maxRecDepth 20000 in
theorem b_X5_minutes_2 {x : XT} {y : YT} {Z : State → Prop} (C : Cx x y (AY y) RX5 cX5_minutes 3 rm_X5_minutes) {r : Unit} {σ' : Sto} (hr : RetV x y (AY y) 3 cX5_minutes Z r σ') (xk_2 : Nat → Int32 → Int32 → Sto → Option (Unit × Sto)) (xH2 : ∀ (xa0 : Nat) (xa1 : Int32) (xa2 : Int32) (σ : Sto), xk_2 xa0 xa1 xa2 σ = some (r, σ') → GW x y (AY y) 3 Z 2 [(0, .ref (yad y (xa0))), (1, .int (xa1)), (2, .int (xa2))] [] σ) (xa0 : Nat) (xa1 : Int32) (xa2 : Int32) (σ : Sto) (h : F_X5_minutes_b2 xk_2 xa0 xa1 xa2 σ = some (r, σ')) : GW x y (AY y) 3 Z 2 [(0, .ref (yad y (xa0))), (1, .int (xa1)), (2, .int (xa2))] [] σ := by
  unfold F_X5_minutes_b2 at h
  refine g_iload_n (pc := 2) C dX5_minutes_2 rfl 2 rfl ?_
  refine g_iload_n (pc := 3) C dX5_minutes_3 rfl 1 rfl ?_
  refine g_icmp_ge (pc := 4) C dX5_minutes_4 (tgt := 17) rfl (fun xq1 => ?_) (fun xq1 => ?_)
  · have h := iP xq1 h
    exact rtV hr dX5_minutes_17 h
  · have h := iN xq1 h
    refine g_aload_n (pc := 7) C dX5_minutes_7 rfl 0 rfl ?_
    obtain ⟨xq4, h⟩ := iC h
    have xq4 := keq xq4
    obtain ⟨xr5, xσ2, xc3, h⟩ := iB h
    refine g_callVv (pc := 8) (As := []) (rest := []) C dX5_minutes_8 (fun l => c_X5_minute l y _ _ _ _ xc3) cv_X5_159 ⟨rfl, rfl, Nat.le_of_ble_eq_true rfl, Nat.le_of_ble_eq_true rfl⟩ (rv5 xq4) rfl (Nat.le_of_ble_eq_true rfl) ?_
    refine g_iinc (lv' := [(2, .int (xa2 + 1)), (0, .ref (yad y (xa0))), (1, .int (xa1))]) (w := xa2 + 1) (pc := 11) C dX5_minutes_11 (k := 2) rfl rfl (Nat.le_of_ble_eq_true rfl) rfl ?_
    refine g_goto (pc := 14) C dX5_minutes_14 (tgt := 2) rfl ?_
    refine g_sub (lv' := [(0, .ref (yad y (xa0))), (1, .int (xa1)), (2, .int (xa2 + 1))]) C [1, 2, 0] rfl ?_
    exact xH2 xa0 xa1 (xa2 + 1) xσ2 h
theorem l_X5_minutes_2 {x : XT} {y : YT} {Z : State → Prop} (C : Cx x y (AY y) RX5 cX5_minutes 3 rm_X5_minutes) {r : Unit} {σ' : Sto} (hr : RetV x y (AY y) 3 cX5_minutes Z r σ') (n : Nat) (xa0 : Nat) (xa1 : Int32) (xa2 : Int32) (σ : Sto) (h : lo3 (F_X5_minutes_b2) n xa0 xa1 xa2 σ = some (r, σ')) : GW x y (AY y) 3 Z 2 [(0, .ref (yad y (xa0))), (1, .int (xa1)), (2, .int (xa2))] [] σ :=
  lo3_gw (G := fun xa0 xa1 xa2 σ => GW x y (AY y) 3 Z 2 [(0, .ref (yad y (xa0))), (1, .int (xa1)), (2, .int (xa2))] [] σ) (fun xk xHk xa0 xa1 xa2 σ h => b_X5_minutes_2 C hr xk xHk xa0 xa1 xa2 σ h) n xa0 xa1 xa2 σ h
set_option maxHeartbeats 4000000 in
set_option maxRecDepth 20000 in
theorem b_X5_minutes_0 {x : XT} {y : YT} {Z : State → Prop} (C : Cx x y (AY y) RX5 cX5_minutes 3 rm_X5_minutes) {r : Unit} {σ' : Sto} (hr : RetV x y (AY y) 3 cX5_minutes Z r σ') (xa0 : Nat) (xa1 : Int32) (σ : Sto) (h : F_X5_minutes xa0 xa1 σ = some (r, σ')) : GW x y (AY y) 3 Z 0 [(0, .ref (yad y (xa0))), (1, .int (xa1))] [] σ := by
  unfold F_X5_minutes at h
  refine g_iconst (v := 0) (pc := 0) C dX5_minutes_0 ci_0 ?_
  refine g_istore_n (i := 2) (lv' := [(2, .int (0)), (0, .ref (yad y (xa0))), (1, .int (xa1))]) (pc := 1) C dX5_minutes_1 rfl (Nat.le_of_ble_eq_true rfl) rfl ?_
  refine g_sub (lv' := [(0, .ref (yad y (xa0))), (1, .int (xa1)), (2, .int (0))]) C [1, 2, 0] rfl ?_
  exact l_X5_minutes_2 C hr 1000 xa0 xa1 0 σ h
theorem c_X5_minutes (l : Launch) (y : YT) (xa0 : Nat) (xa1 : Int32) (σ σ' : Sto) (r : Unit) (h : F_X5_minutes xa0 xa1 σ = some (r, σ')) : MV l y yX5_minutes (Cond.code yX5_minutes cX5_minutes 3 none :: TT) rm_X5_minutes [.ref (yad y (xa0)), .int (xa1)] σ r σ' :=
  mkV (by decide) rfl rfl rfl (Nat.le_of_ble_eq_true rfl) (fun x Z C hr => b_X5_minutes_0 C hr xa0 xa1 σ h)
def rm_X5_sumOf : Room := { frames := 2, cells := 0, slots := 0, locals := 43 }
def F_X5_sumOf_b4 (xk_4 : Nat → Int32 → Int32 → Int32 → Sto → Option (Int32 × Sto)) (xa0 : Nat) (xa1 : Int32) (xa2 : Int32) (xa3 : Int32) (σ : Sto) : Option (Int32 × Sto) := ck (kd (xa0) == 5) (if (σ 50 1) ≤ xa3 then some (xa2, σ) else bnd (F_X5_sitterIs (xa0) (xa3) (xa1) σ) (fun xr5 xσ3 => lti (xa2 + xr5) (fun xv6 => xk_4 xa0 xa1 xv6 (xa3 + 1) xσ3)))
def F_X5_sumOf (xa0 : Nat) (xa1 : Int32) (σ : Sto) : Option (Int32 × Sto) := lo4 (F_X5_sumOf_b4) 1000 xa0 xa1 0 0 σ
set_option maxHeartbeats 4000000 in
set_option maxRecDepth 20000 in
theorem b_X5_sumOf_4 {x : XT} {y : YT} {Z : State → Prop} (C : Cx x y (AY y) RX5 cX5_sumOf 4 rm_X5_sumOf) {r : Int32} {σ' : Sto} (hr : RetI x y (AY y) 4 cX5_sumOf Z r σ') (xk_4 : Nat → Int32 → Int32 → Int32 → Sto → Option (Int32 × Sto)) (xH4 : ∀ (xa0 : Nat) (xa1 : Int32) (xa2 : Int32) (xa3 : Int32) (σ : Sto), xk_4 xa0 xa1 xa2 xa3 σ = some (r, σ') → GW x y (AY y) 4 Z 4 [(0, .ref (yad y (xa0))), (1, .int (xa1)), (2, .int (xa2)), (3, .int (xa3))] [] σ) (xa0 : Nat) (xa1 : Int32) (xa2 : Int32) (xa3 : Int32) (σ : Sto) (h : F_X5_sumOf_b4 xk_4 xa0 xa1 xa2 xa3 σ = some (r, σ')) : GW x y (AY y) 4 Z 4 [(0, .ref (yad y (xa0))), (1, .int (xa1)), (2, .int (xa2)), (3, .int (xa3))] [] σ := by
  unfold F_X5_sumOf_b4 at h
  refine g_iload_n (pc := 4) C dX5_sumOf_4 rfl 3 rfl ?_
  refine g_aload_n (pc := 5) C dX5_sumOf_5 rfl 0 rfl ?_
  obtain ⟨xq1, h⟩ := iC h
  have xq1 := keq xq1
  refine gf_5_0 (pc := 6) C wf_X5_9 dX5_sumOf_6 xq1 ?_
  refine g_iconst (v := 1) (pc := 9) C dX5_sumOf_9 ci_1 ?_
  refine g_iald (pc := 10) C dX5_sumOf_10 rfl (ivp (by decide) rfl) (j := 1) ct_1 ?_
  refine g_icmp_ge (pc := 11) C dX5_sumOf_11 (tgt := 29) rfl (fun xq2 => ?_) (fun xq2 => ?_)
  · have h := iP xq2 h
    refine g_iload_n (pc := 29) C dX5_sumOf_29 rfl 2 rfl ?_
    exact rtI hr dX5_sumOf_30 h
  · have h := iN xq2 h
    refine g_iload_n (pc := 14) C dX5_sumOf_14 rfl 2 rfl ?_
    refine g_aload_n (pc := 15) C dX5_sumOf_15 rfl 0 rfl ?_
    refine g_iload_n (pc := 16) C dX5_sumOf_16 rfl 3 rfl ?_
    refine g_iload_n (pc := 17) C dX5_sumOf_17 rfl 1 rfl ?_
    obtain ⟨xr5, xσ3, xc4, h⟩ := iB h
    refine g_callVi (pc := 18) (As := [.int (xa3), .int (xa1)]) (rest := [.int (xa2)]) C dX5_sumOf_18 (fun l => c_X5_sitterIs l y _ _ _ _ _ _ xc4) cv_X5_104 ⟨rfl, rfl, Nat.le_of_ble_eq_true rfl, Nat.le_of_ble_eq_true rfl⟩ (rv5 xq1) rfl (Nat.le_of_ble_eq_true rfl) ?_
    refine g_iadd (pc := 21) C dX5_sumOf_21 ?_
    refine g_letI h (fun xv6 h => ?_)
    refine g_istore_n (i := 2) (lv' := [(2, .int (xv6)), (0, .ref (yad y (xa0))), (1, .int (xa1)), (3, .int (xa3))]) (pc := 22) C dX5_sumOf_22 rfl (Nat.le_of_ble_eq_true rfl) rfl ?_
    refine g_iinc (lv' := [(3, .int (xa3 + 1)), (2, .int (xv6)), (0, .ref (yad y (xa0))), (1, .int (xa1))]) (w := xa3 + 1) (pc := 23) C dX5_sumOf_23 (k := 3) rfl rfl (Nat.le_of_ble_eq_true rfl) rfl ?_
    refine g_goto (pc := 26) C dX5_sumOf_26 (tgt := 4) rfl ?_
    refine g_sub (lv' := [(0, .ref (yad y (xa0))), (1, .int (xa1)), (2, .int (xv6)), (3, .int (xa3 + 1))]) C [2, 3, 1, 0] rfl ?_
    exact xH4 xa0 xa1 xv6 (xa3 + 1) xσ3 h
theorem l_X5_sumOf_4 {x : XT} {y : YT} {Z : State → Prop} (C : Cx x y (AY y) RX5 cX5_sumOf 4 rm_X5_sumOf) {r : Int32} {σ' : Sto} (hr : RetI x y (AY y) 4 cX5_sumOf Z r σ') (n : Nat) (xa0 : Nat) (xa1 : Int32) (xa2 : Int32) (xa3 : Int32) (σ : Sto) (h : lo4 (F_X5_sumOf_b4) n xa0 xa1 xa2 xa3 σ = some (r, σ')) : GW x y (AY y) 4 Z 4 [(0, .ref (yad y (xa0))), (1, .int (xa1)), (2, .int (xa2)), (3, .int (xa3))] [] σ :=
  lo4_gw (G := fun xa0 xa1 xa2 xa3 σ => GW x y (AY y) 4 Z 4 [(0, .ref (yad y (xa0))), (1, .int (xa1)), (2, .int (xa2)), (3, .int (xa3))] [] σ) (fun xk xHk xa0 xa1 xa2 xa3 σ h => b_X5_sumOf_4 C hr xk xHk xa0 xa1 xa2 xa3 σ h) n xa0 xa1 xa2 xa3 σ h
set_option maxHeartbeats 4000000 in
set_option maxRecDepth 20000 in
theorem b_X5_sumOf_0 {x : XT} {y : YT} {Z : State → Prop} (C : Cx x y (AY y) RX5 cX5_sumOf 4 rm_X5_sumOf) {r : Int32} {σ' : Sto} (hr : RetI x y (AY y) 4 cX5_sumOf Z r σ') (xa0 : Nat) (xa1 : Int32) (σ : Sto) (h : F_X5_sumOf xa0 xa1 σ = some (r, σ')) : GW x y (AY y) 4 Z 0 [(0, .ref (yad y (xa0))), (1, .int (xa1))] [] σ := by
  unfold F_X5_sumOf at h
  refine g_iconst (v := 0) (pc := 0) C dX5_sumOf_0 ci_0 ?_
  refine g_istore_n (i := 2) (lv' := [(2, .int (0)), (0, .ref (yad y (xa0))), (1, .int (xa1))]) (pc := 1) C dX5_sumOf_1 rfl (Nat.le_of_ble_eq_true rfl) rfl ?_
  refine g_iconst (v := 0) (pc := 2) C dX5_sumOf_2 ci_0 ?_
  refine g_istore_n (i := 3) (lv' := [(3, .int (0)), (2, .int (0)), (0, .ref (yad y (xa0))), (1, .int (xa1))]) (pc := 3) C dX5_sumOf_3 rfl (Nat.le_of_ble_eq_true rfl) rfl ?_
  refine g_sub (lv' := [(0, .ref (yad y (xa0))), (1, .int (xa1)), (2, .int (0)), (3, .int (0))]) C [2, 3, 1, 0] rfl ?_
  exact l_X5_sumOf_4 C hr 1000 xa0 xa1 0 0 σ h
theorem c_X5_sumOf (l : Launch) (y : YT) (xa0 : Nat) (xa1 : Int32) (σ σ' : Sto) (r : Int32) (h : F_X5_sumOf xa0 xa1 σ = some (r, σ')) : MI l y yX5_sumOf (Cond.code yX5_sumOf cX5_sumOf 4 (some .int) :: TT) rm_X5_sumOf [.ref (yad y (xa0)), .int (xa1)] σ r σ' :=
  mkI (by decide) rfl rfl rfl (Nat.le_of_ble_eq_true rfl) (fun x Z C hr => b_X5_sumOf_0 C hr xa0 xa1 σ h)
def rm_X5_go : Room := { frames := 8, cells := 0, slots := 0, locals := 178 }
def F_X5_go (xa0 : Nat) (xa1 : Int32) (σ : Sto) : Option (Int32 × Sto) := bnd (F_X5_within (xa1) 1 100 σ) (fun xr3 xσ1 => if (xr3) = 0 then ck (kd (xa0) == 5) (bnd (F_X5_finding (xa0) (-1000001) xσ1) (fun xr19 xσ16 => some (xr19, xσ16))) else ck (kd (xa0) == 5) (if ((xσ1 50 0) + xa1) ≤ 99999 then bnd (F_X5_minutes (xa0) (xa1) xσ1) (fun xr9 xσ7 => bnd (F_X5_sumOf (xa0) 5 xσ7) (fun xr12 xσ10 => some (xr12, xσ10))) else bnd (F_X5_finding (xa0) (-1000005) xσ1) (fun xr15 xσ13 => some (xr15, xσ13))))
set_option maxHeartbeats 4000000 in
set_option maxRecDepth 20000 in
theorem b_X5_go_0 {x : XT} {y : YT} {Z : State → Prop} (C : Cx x y (AY y) RX5 cX5_go 2 rm_X5_go) {r : Int32} {σ' : Sto} (hr : RetI x y (AY y) 2 cX5_go Z r σ') (xa0 : Nat) (xa1 : Int32) (σ : Sto) (h : F_X5_go xa0 xa1 σ = some (r, σ')) : GW x y (AY y) 2 Z 0 [(0, .ref (yad y (xa0))), (1, .int (xa1))] [] σ := by
  unfold F_X5_go at h
  refine g_iload_n (pc := 0) C dX5_go_0 rfl 1 rfl ?_
  refine g_iconst (v := 1) (pc := 1) C dX5_go_1 ci_1 ?_
  refine g_bipush (v := 100) (pc := 2) C dX5_go_2 cb_100 ?_
  obtain ⟨xr3, xσ1, xc2, h⟩ := iB h
  refine g_callSi (pc := 4) (As := [.int (xa1), .int (1), .int (100)]) (rest := []) C dX5_go_4 (fun l => c_X5_within l y _ _ _ _ _ _ xc2) cv_X5_70 ⟨rfl, rfl, Nat.le_of_ble_eq_true rfl, Nat.le_of_ble_eq_true rfl⟩ rfl (Nat.le_of_ble_eq_true rfl) ?_
  refine g_if_ne (pc := 7) C dX5_go_7 (tgt := 17) rfl (fun xq4 => ?_) (fun xq4 => ?_)
  · have h := iN xq4 h
    refine g_aload_n (pc := 17) C dX5_go_17 rfl 0 rfl ?_
    obtain ⟨xq5, h⟩ := iC h
    have xq5 := keq xq5
    refine gf_5_0 (pc := 18) C wf_X5_9 dX5_go_18 xq5 ?_
    refine g_iconst (v := 0) (pc := 21) C dX5_go_21 ci_0 ?_
    refine g_iald (pc := 22) C dX5_go_22 rfl (ivp (by decide) rfl) (j := 0) ct_0 ?_
    refine g_iload_n (pc := 23) C dX5_go_23 rfl 1 rfl ?_
    refine g_iadd (pc := 24) C dX5_go_24 ?_
    refine g_ldc (v := 99999) (pc := 25) C dX5_go_25 wk_X5_74 ?_
    refine g_icmp_le (pc := 27) C dX5_go_27 (tgt := 37) rfl (fun xq6 => ?_) (fun xq6 => ?_)
    · have h := iP xq6 h
      refine g_aload_n (pc := 37) C dX5_go_37 rfl 0 rfl ?_
      refine g_iload_n (pc := 38) C dX5_go_38 rfl 1 rfl ?_
      obtain ⟨xr9, xσ7, xc8, h⟩ := iB h
      refine g_callVv (pc := 39) (As := [.int (xa1)]) (rest := []) C dX5_go_39 (fun l => c_X5_minutes l y _ _ _ _ _ xc8) cv_X5_163 ⟨rfl, rfl, Nat.le_of_ble_eq_true rfl, Nat.le_of_ble_eq_true rfl⟩ (rv5 xq5) rfl (Nat.le_of_ble_eq_true rfl) ?_
      refine g_aload_n (pc := 42) C dX5_go_42 rfl 0 rfl ?_
      refine g_iconst (v := 5) (pc := 43) C dX5_go_43 ci_5 ?_
      obtain ⟨xr12, xσ10, xc11, h⟩ := iB h
      refine g_callVi (pc := 44) (As := [.int (5)]) (rest := []) C dX5_go_44 (fun l => c_X5_sumOf l y _ _ _ _ _ xc11) cv_X5_166 ⟨rfl, rfl, Nat.le_of_ble_eq_true rfl, Nat.le_of_ble_eq_true rfl⟩ (rv5 xq5) rfl (Nat.le_of_ble_eq_true rfl) ?_
      exact rtI hr dX5_go_47 h
    · have h := iN xq6 h
      refine g_aload_n (pc := 30) C dX5_go_30 rfl 0 rfl ?_
      refine g_ldc (v := (-1000005)) (pc := 31) C dX5_go_31 wk_X5_162 ?_
      obtain ⟨xr15, xσ13, xc14, h⟩ := iB h
      refine g_callVi (pc := 33) (As := [.int ((-1000005))]) (rest := []) C dX5_go_33 (fun l => c_X5_finding l y _ _ _ _ _ xc14) cv_X5_66 ⟨rfl, rfl, Nat.le_of_ble_eq_true rfl, Nat.le_of_ble_eq_true rfl⟩ (rv5 xq5) rfl (Nat.le_of_ble_eq_true rfl) ?_
      exact rtI hr dX5_go_36 h
  · have h := iP xq4 h
    refine g_aload_n (pc := 10) C dX5_go_10 rfl 0 rfl ?_
    refine g_ldc (v := (-1000001)) (pc := 11) C dX5_go_11 wk_X5_60 ?_
    obtain ⟨xq18, h⟩ := iC h
    have xq18 := keq xq18
    obtain ⟨xr19, xσ16, xc17, h⟩ := iB h
    refine g_callVi (pc := 13) (As := [.int ((-1000001))]) (rest := []) C dX5_go_13 (fun l => c_X5_finding l y _ _ _ _ _ xc17) cv_X5_66 ⟨rfl, rfl, Nat.le_of_ble_eq_true rfl, Nat.le_of_ble_eq_true rfl⟩ (rv5 xq18) rfl (Nat.le_of_ble_eq_true rfl) ?_
    exact rtI hr dX5_go_16 h
theorem c_X5_go (l : Launch) (y : YT) (xa0 : Nat) (xa1 : Int32) (σ σ' : Sto) (r : Int32) (h : F_X5_go xa0 xa1 σ = some (r, σ')) : MI l y yX5_go (Cond.code yX5_go cX5_go 2 (some .int) :: TT) rm_X5_go [.ref (yad y (xa0)), .int (xa1)] σ r σ' :=
  mkI (by decide) rfl rfl rfl (Nat.le_of_ble_eq_true rfl) (fun x Z C hr => b_X5_go_0 C hr xa0 xa1 σ h)
def rm_X5_goodOnes : Room := { frames := 5, cells := 0, slots := 0, locals := 113 }
def F_X5_goodOnes_b4 (xk_4 : Nat → Int32 → Int32 → Sto → Option (Int32 × Sto)) (xa0 : Nat) (xa1 : Int32) (xa2 : Int32) (σ : Sto) : Option (Int32 × Sto) := ck (kd (xa0) == 5) (if (σ 50 1) ≤ xa2 then some (xa1, σ) else bnd (F_X5_isGood (xa0) (xa2) σ) (fun xr5 xσ3 => if (xr5) = 0 then lti (xa1 ||| 0) (fun xv7 => xk_4 xa0 xv7 (xa2 + 1) xσ3) else lti (xa1 ||| (isl 1 xa2)) (fun xv8 => xk_4 xa0 xv8 (xa2 + 1) xσ3)))
def F_X5_goodOnes (xa0 : Nat) (σ : Sto) : Option (Int32 × Sto) := lo3 (F_X5_goodOnes_b4) 1000 xa0 0 0 σ
set_option maxHeartbeats 4000000 in
set_option maxRecDepth 20000 in
theorem b_X5_goodOnes_4 {x : XT} {y : YT} {Z : State → Prop} (C : Cx x y (AY y) RX5 cX5_goodOnes 3 rm_X5_goodOnes) {r : Int32} {σ' : Sto} (hr : RetI x y (AY y) 3 cX5_goodOnes Z r σ') (xk_4 : Nat → Int32 → Int32 → Sto → Option (Int32 × Sto)) (xH4 : ∀ (xa0 : Nat) (xa1 : Int32) (xa2 : Int32) (σ : Sto), xk_4 xa0 xa1 xa2 σ = some (r, σ') → GW x y (AY y) 3 Z 4 [(0, .ref (yad y (xa0))), (1, .int (xa1)), (2, .int (xa2))] [] σ) (xa0 : Nat) (xa1 : Int32) (xa2 : Int32) (σ : Sto) (h : F_X5_goodOnes_b4 xk_4 xa0 xa1 xa2 σ = some (r, σ')) : GW x y (AY y) 3 Z 4 [(0, .ref (yad y (xa0))), (1, .int (xa1)), (2, .int (xa2))] [] σ := by
  unfold F_X5_goodOnes_b4 at h
  refine g_iload_n (pc := 4) C dX5_goodOnes_4 rfl 2 rfl ?_
  refine g_aload_n (pc := 5) C dX5_goodOnes_5 rfl 0 rfl ?_
  obtain ⟨xq1, h⟩ := iC h
  have xq1 := keq xq1
  refine gf_5_0 (pc := 6) C wf_X5_9 dX5_goodOnes_6 xq1 ?_
  refine g_iconst (v := 1) (pc := 9) C dX5_goodOnes_9 ci_1 ?_
  refine g_iald (pc := 10) C dX5_goodOnes_10 rfl (ivp (by decide) rfl) (j := 1) ct_1 ?_
  refine g_icmp_ge (pc := 11) C dX5_goodOnes_11 (tgt := 38) rfl (fun xq2 => ?_) (fun xq2 => ?_)
  · have h := iP xq2 h
    refine g_iload_n (pc := 38) C dX5_goodOnes_38 rfl 1 rfl ?_
    exact rtI hr dX5_goodOnes_39 h
  · have h := iN xq2 h
    refine g_iload_n (pc := 14) C dX5_goodOnes_14 rfl 1 rfl ?_
    refine g_aload_n (pc := 15) C dX5_goodOnes_15 rfl 0 rfl ?_
    refine g_iload_n (pc := 16) C dX5_goodOnes_16 rfl 2 rfl ?_
    obtain ⟨xr5, xσ3, xc4, h⟩ := iB h
    refine g_callVi (pc := 17) (As := [.int (xa2)]) (rest := [.int (xa1)]) C dX5_goodOnes_17 (fun l => c_X5_isGood l y _ _ _ _ _ xc4) cv_X5_149 ⟨rfl, rfl, Nat.le_of_ble_eq_true rfl, Nat.le_of_ble_eq_true rfl⟩ (rv5 xq1) rfl (Nat.le_of_ble_eq_true rfl) ?_
    refine g_if_eq (pc := 20) C dX5_goodOnes_20 (tgt := 29) rfl (fun xq6 => ?_) (fun xq6 => ?_)
    · have h := iP xq6 h
      refine g_iconst (v := 0) (pc := 29) C dX5_goodOnes_29 ci_0 ?_
      refine g_ior (pc := 30) C dX5_goodOnes_30 ?_
      refine g_letI h (fun xv7 h => ?_)
      refine g_istore_n (i := 1) (lv' := [(1, .int (xv7)), (0, .ref (yad y (xa0))), (2, .int (xa2))]) (pc := 31) C dX5_goodOnes_31 rfl (Nat.le_of_ble_eq_true rfl) rfl ?_
      refine g_iinc (lv' := [(2, .int (xa2 + 1)), (1, .int (xv7)), (0, .ref (yad y (xa0)))]) (w := xa2 + 1) (pc := 32) C dX5_goodOnes_32 (k := 2) rfl rfl (Nat.le_of_ble_eq_true rfl) rfl ?_
      refine g_goto (pc := 35) C dX5_goodOnes_35 (tgt := 4) rfl ?_
      refine g_sub (lv' := [(0, .ref (yad y (xa0))), (1, .int (xv7)), (2, .int (xa2 + 1))]) C [2, 1, 0] rfl ?_
      exact xH4 xa0 xv7 (xa2 + 1) xσ3 h
    · have h := iN xq6 h
      refine g_iconst (v := 1) (pc := 23) C dX5_goodOnes_23 ci_1 ?_
      refine g_iload_n (pc := 24) C dX5_goodOnes_24 rfl 2 rfl ?_
      refine g_ishl (pc := 25) C dX5_goodOnes_25 ?_
      refine g_goto (pc := 26) C dX5_goodOnes_26 (tgt := 30) rfl ?_
      refine g_ior (pc := 30) C dX5_goodOnes_30 ?_
      refine g_letI h (fun xv8 h => ?_)
      refine g_istore_n (i := 1) (lv' := [(1, .int (xv8)), (0, .ref (yad y (xa0))), (2, .int (xa2))]) (pc := 31) C dX5_goodOnes_31 rfl (Nat.le_of_ble_eq_true rfl) rfl ?_
      refine g_iinc (lv' := [(2, .int (xa2 + 1)), (1, .int (xv8)), (0, .ref (yad y (xa0)))]) (w := xa2 + 1) (pc := 32) C dX5_goodOnes_32 (k := 2) rfl rfl (Nat.le_of_ble_eq_true rfl) rfl ?_
      refine g_goto (pc := 35) C dX5_goodOnes_35 (tgt := 4) rfl ?_
      refine g_sub (lv' := [(0, .ref (yad y (xa0))), (1, .int (xv8)), (2, .int (xa2 + 1))]) C [2, 1, 0] rfl ?_
      exact xH4 xa0 xv8 (xa2 + 1) xσ3 h
theorem l_X5_goodOnes_4 {x : XT} {y : YT} {Z : State → Prop} (C : Cx x y (AY y) RX5 cX5_goodOnes 3 rm_X5_goodOnes) {r : Int32} {σ' : Sto} (hr : RetI x y (AY y) 3 cX5_goodOnes Z r σ') (n : Nat) (xa0 : Nat) (xa1 : Int32) (xa2 : Int32) (σ : Sto) (h : lo3 (F_X5_goodOnes_b4) n xa0 xa1 xa2 σ = some (r, σ')) : GW x y (AY y) 3 Z 4 [(0, .ref (yad y (xa0))), (1, .int (xa1)), (2, .int (xa2))] [] σ :=
  lo3_gw (G := fun xa0 xa1 xa2 σ => GW x y (AY y) 3 Z 4 [(0, .ref (yad y (xa0))), (1, .int (xa1)), (2, .int (xa2))] [] σ) (fun xk xHk xa0 xa1 xa2 σ h => b_X5_goodOnes_4 C hr xk xHk xa0 xa1 xa2 σ h) n xa0 xa1 xa2 σ h
set_option maxHeartbeats 4000000 in
set_option maxRecDepth 20000 in
theorem b_X5_goodOnes_0 {x : XT} {y : YT} {Z : State → Prop} (C : Cx x y (AY y) RX5 cX5_goodOnes 3 rm_X5_goodOnes) {r : Int32} {σ' : Sto} (hr : RetI x y (AY y) 3 cX5_goodOnes Z r σ') (xa0 : Nat) (σ : Sto) (h : F_X5_goodOnes xa0 σ = some (r, σ')) : GW x y (AY y) 3 Z 0 [(0, .ref (yad y (xa0)))] [] σ := by
  unfold F_X5_goodOnes at h
  refine g_iconst (v := 0) (pc := 0) C dX5_goodOnes_0 ci_0 ?_
  refine g_istore_n (i := 1) (lv' := [(1, .int (0)), (0, .ref (yad y (xa0)))]) (pc := 1) C dX5_goodOnes_1 rfl (Nat.le_of_ble_eq_true rfl) rfl ?_
  refine g_iconst (v := 0) (pc := 2) C dX5_goodOnes_2 ci_0 ?_
  refine g_istore_n (i := 2) (lv' := [(2, .int (0)), (1, .int (0)), (0, .ref (yad y (xa0)))]) (pc := 3) C dX5_goodOnes_3 rfl (Nat.le_of_ble_eq_true rfl) rfl ?_
  refine g_sub (lv' := [(0, .ref (yad y (xa0))), (1, .int (0)), (2, .int (0))]) C [2, 1, 0] rfl ?_
  exact l_X5_goodOnes_4 C hr 1000 xa0 0 0 σ h
theorem c_X5_goodOnes (l : Launch) (y : YT) (xa0 : Nat) (σ σ' : Sto) (r : Int32) (h : F_X5_goodOnes xa0 σ = some (r, σ')) : MI l y yX5_goodOnes (Cond.code yX5_goodOnes cX5_goodOnes 3 (some .int) :: TT) rm_X5_goodOnes [.ref (yad y (xa0))] σ r σ' :=
  mkI (by decide) rfl rfl rfl (Nat.le_of_ble_eq_true rfl) (fun x Z C hr => b_X5_goodOnes_0 C hr xa0 σ h)
def rm_X5_commonFaults : Room := { frames := 4, cells := 0, slots := 0, locals := 90 }
def F_X5_commonFaults_b30 (xk_18 : Nat → Int32 → Int32 → Sto → Option (Int32 × Sto)) (xk_30 : Nat → Int32 → Int32 → Int32 → Sto → Option (Int32 × Sto)) (xa0 : Nat) (xa1 : Int32) (xa2 : Int32) (xa3 : Int32) (σ : Sto) : Option (Int32 × Sto) := if 4 ≤ xa3 then xk_18 xa0 xa1 (xa2 + 1) σ else ck (kd (xa0) == 5) (bnd (F_X5_faultsNow (xa0) (xa2) (xa3) σ) (fun xr5 xσ2 => lti (xa1 &&& xr5) (fun xv6 => xk_30 xa0 xv6 xa2 (xa3 + 1) xσ2)))
def F_X5_commonFaults_b18 (xk_18 : Nat → Int32 → Int32 → Sto → Option (Int32 × Sto)) (xa0 : Nat) (xa1 : Int32) (xa2 : Int32) (σ : Sto) : Option (Int32 × Sto) := ck (kd (xa0) == 5) (if (σ 50 1) ≤ xa2 then some (xa1, σ) else lo4 (F_X5_commonFaults_b30 xk_18) 1000 xa0 xa1 xa2 0 σ)
def F_X5_commonFaults (xa0 : Nat) (σ : Sto) : Option (Int32 × Sto) := ck (kd (xa0) == 5) (if (σ 50 1) = 0 then lo3 (F_X5_commonFaults_b18) 1000 xa0 0 0 σ else lo3 (F_X5_commonFaults_b18) 1000 xa0 31 0 σ)
set_option maxHeartbeats 4000000 in
set_option maxRecDepth 20000 in
theorem b_X5_commonFaults_30 {x : XT} {y : YT} {Z : State → Prop} (C : Cx x y (AY y) RX5 cX5_commonFaults 4 rm_X5_commonFaults) {r : Int32} {σ' : Sto} (hr : RetI x y (AY y) 4 cX5_commonFaults Z r σ') (xk_18 : Nat → Int32 → Int32 → Sto → Option (Int32 × Sto)) (xH18 : ∀ (xa0 : Nat) (xa1 : Int32) (xa2 : Int32) (σ : Sto), xk_18 xa0 xa1 xa2 σ = some (r, σ') → GW x y (AY y) 4 Z 18 [(0, .ref (yad y (xa0))), (1, .int (xa1)), (2, .int (xa2))] [] σ) (xk_30 : Nat → Int32 → Int32 → Int32 → Sto → Option (Int32 × Sto)) (xH30 : ∀ (xa0 : Nat) (xa1 : Int32) (xa2 : Int32) (xa3 : Int32) (σ : Sto), xk_30 xa0 xa1 xa2 xa3 σ = some (r, σ') → GW x y (AY y) 4 Z 30 [(0, .ref (yad y (xa0))), (1, .int (xa1)), (2, .int (xa2)), (3, .int (xa3))] [] σ) (xa0 : Nat) (xa1 : Int32) (xa2 : Int32) (xa3 : Int32) (σ : Sto) (h : F_X5_commonFaults_b30 xk_18 xk_30 xa0 xa1 xa2 xa3 σ = some (r, σ')) : GW x y (AY y) 4 Z 30 [(0, .ref (yad y (xa0))), (1, .int (xa1)), (2, .int (xa2)), (3, .int (xa3))] [] σ := by
  unfold F_X5_commonFaults_b30 at h
  refine g_iload_n (pc := 30) C dX5_commonFaults_30 rfl 3 rfl ?_
  refine g_iconst (v := 4) (pc := 31) C dX5_commonFaults_31 ci_4 ?_
  refine g_icmp_ge (pc := 32) C dX5_commonFaults_32 (tgt := 50) rfl (fun xq1 => ?_) (fun xq1 => ?_)
  · have h := iP xq1 h
    refine g_iinc (lv' := [(2, .int (xa2 + 1)), (0, .ref (yad y (xa0))), (1, .int (xa1)), (3, .int (xa3))]) (w := xa2 + 1) (pc := 50) C dX5_commonFaults_50 (k := 2) rfl rfl (Nat.le_of_ble_eq_true rfl) rfl ?_
    refine g_goto (pc := 53) C dX5_commonFaults_53 (tgt := 18) rfl ?_
    refine g_sub (lv' := [(0, .ref (yad y (xa0))), (1, .int (xa1)), (2, .int (xa2 + 1))]) C [1, 2, 0] rfl ?_
    exact xH18 xa0 xa1 (xa2 + 1) σ h
  · have h := iN xq1 h
    refine g_iload_n (pc := 35) C dX5_commonFaults_35 rfl 1 rfl ?_
    refine g_aload_n (pc := 36) C dX5_commonFaults_36 rfl 0 rfl ?_
    refine g_iload_n (pc := 37) C dX5_commonFaults_37 rfl 2 rfl ?_
    refine g_iload_n (pc := 38) C dX5_commonFaults_38 rfl 3 rfl ?_
    obtain ⟨xq4, h⟩ := iC h
    have xq4 := keq xq4
    obtain ⟨xr5, xσ2, xc3, h⟩ := iB h
    refine g_callVi (pc := 39) (As := [.int (xa2), .int (xa3)]) (rest := [.int (xa1)]) C dX5_commonFaults_39 (fun l => c_X5_faultsNow l y _ _ _ _ _ _ xc3) cv_X5_133 ⟨rfl, rfl, Nat.le_of_ble_eq_true rfl, Nat.le_of_ble_eq_true rfl⟩ (rv5 xq4) rfl (Nat.le_of_ble_eq_true rfl) ?_
    refine g_iand (pc := 42) C dX5_commonFaults_42 ?_
    refine g_letI h (fun xv6 h => ?_)
    refine g_istore_n (i := 1) (lv' := [(1, .int (xv6)), (0, .ref (yad y (xa0))), (2, .int (xa2)), (3, .int (xa3))]) (pc := 43) C dX5_commonFaults_43 rfl (Nat.le_of_ble_eq_true rfl) rfl ?_
    refine g_iinc (lv' := [(3, .int (xa3 + 1)), (1, .int (xv6)), (0, .ref (yad y (xa0))), (2, .int (xa2))]) (w := xa3 + 1) (pc := 44) C dX5_commonFaults_44 (k := 3) rfl rfl (Nat.le_of_ble_eq_true rfl) rfl ?_
    refine g_goto (pc := 47) C dX5_commonFaults_47 (tgt := 30) rfl ?_
    refine g_sub (lv' := [(0, .ref (yad y (xa0))), (1, .int (xv6)), (2, .int (xa2)), (3, .int (xa3 + 1))]) C [2, 1, 3, 0] rfl ?_
    exact xH30 xa0 xv6 xa2 (xa3 + 1) xσ2 h
theorem l_X5_commonFaults_30 {x : XT} {y : YT} {Z : State → Prop} (C : Cx x y (AY y) RX5 cX5_commonFaults 4 rm_X5_commonFaults) {r : Int32} {σ' : Sto} (hr : RetI x y (AY y) 4 cX5_commonFaults Z r σ') (xk_18 : Nat → Int32 → Int32 → Sto → Option (Int32 × Sto)) (xH18 : ∀ (xa0 : Nat) (xa1 : Int32) (xa2 : Int32) (σ : Sto), xk_18 xa0 xa1 xa2 σ = some (r, σ') → GW x y (AY y) 4 Z 18 [(0, .ref (yad y (xa0))), (1, .int (xa1)), (2, .int (xa2))] [] σ) (n : Nat) (xa0 : Nat) (xa1 : Int32) (xa2 : Int32) (xa3 : Int32) (σ : Sto) (h : lo4 (F_X5_commonFaults_b30 xk_18) n xa0 xa1 xa2 xa3 σ = some (r, σ')) : GW x y (AY y) 4 Z 30 [(0, .ref (yad y (xa0))), (1, .int (xa1)), (2, .int (xa2)), (3, .int (xa3))] [] σ :=
  lo4_gw (G := fun xa0 xa1 xa2 xa3 σ => GW x y (AY y) 4 Z 30 [(0, .ref (yad y (xa0))), (1, .int (xa1)), (2, .int (xa2)), (3, .int (xa3))] [] σ) (fun xk xHk xa0 xa1 xa2 xa3 σ h => b_X5_commonFaults_30 C hr xk_18 xH18 xk xHk xa0 xa1 xa2 xa3 σ h) n xa0 xa1 xa2 xa3 σ h
set_option maxHeartbeats 4000000 in
set_option maxRecDepth 20000 in
theorem b_X5_commonFaults_18 {x : XT} {y : YT} {Z : State → Prop} (C : Cx x y (AY y) RX5 cX5_commonFaults 4 rm_X5_commonFaults) {r : Int32} {σ' : Sto} (hr : RetI x y (AY y) 4 cX5_commonFaults Z r σ') (xk_18 : Nat → Int32 → Int32 → Sto → Option (Int32 × Sto)) (xH18 : ∀ (xa0 : Nat) (xa1 : Int32) (xa2 : Int32) (σ : Sto), xk_18 xa0 xa1 xa2 σ = some (r, σ') → GW x y (AY y) 4 Z 18 [(0, .ref (yad y (xa0))), (1, .int (xa1)), (2, .int (xa2))] [] σ) (xa0 : Nat) (xa1 : Int32) (xa2 : Int32) (σ : Sto) (h : F_X5_commonFaults_b18 xk_18 xa0 xa1 xa2 σ = some (r, σ')) : GW x y (AY y) 4 Z 18 [(0, .ref (yad y (xa0))), (1, .int (xa1)), (2, .int (xa2))] [] σ := by
  unfold F_X5_commonFaults_b18 at h
  refine g_iload_n (pc := 18) C dX5_commonFaults_18 rfl 2 rfl ?_
  refine g_aload_n (pc := 19) C dX5_commonFaults_19 rfl 0 rfl ?_
  obtain ⟨xq1, h⟩ := iC h
  have xq1 := keq xq1
  refine gf_5_0 (pc := 20) C wf_X5_9 dX5_commonFaults_20 xq1 ?_
  refine g_iconst (v := 1) (pc := 23) C dX5_commonFaults_23 ci_1 ?_
  refine g_iald (pc := 24) C dX5_commonFaults_24 rfl (ivp (by decide) rfl) (j := 1) ct_1 ?_
  refine g_icmp_ge (pc := 25) C dX5_commonFaults_25 (tgt := 56) rfl (fun xq2 => ?_) (fun xq2 => ?_)
  · have h := iP xq2 h
    refine g_iload_n (pc := 56) C dX5_commonFaults_56 rfl 1 rfl ?_
    exact rtI hr dX5_commonFaults_57 h
  · have h := iN xq2 h
    refine g_iconst (v := 0) (pc := 28) C dX5_commonFaults_28 ci_0 ?_
    refine g_istore_n (i := 3) (lv' := [(3, .int (0)), (0, .ref (yad y (xa0))), (1, .int (xa1)), (2, .int (xa2))]) (pc := 29) C dX5_commonFaults_29 rfl (Nat.le_of_ble_eq_true rfl) rfl ?_
    refine g_sub (lv' := [(0, .ref (yad y (xa0))), (1, .int (xa1)), (2, .int (xa2)), (3, .int (0))]) C [1, 2, 3, 0] rfl ?_
    exact l_X5_commonFaults_30 C hr xk_18 xH18 1000 xa0 xa1 xa2 0 σ h
theorem l_X5_commonFaults_18 {x : XT} {y : YT} {Z : State → Prop} (C : Cx x y (AY y) RX5 cX5_commonFaults 4 rm_X5_commonFaults) {r : Int32} {σ' : Sto} (hr : RetI x y (AY y) 4 cX5_commonFaults Z r σ') (n : Nat) (xa0 : Nat) (xa1 : Int32) (xa2 : Int32) (σ : Sto) (h : lo3 (F_X5_commonFaults_b18) n xa0 xa1 xa2 σ = some (r, σ')) : GW x y (AY y) 4 Z 18 [(0, .ref (yad y (xa0))), (1, .int (xa1)), (2, .int (xa2))] [] σ :=
  lo3_gw (G := fun xa0 xa1 xa2 σ => GW x y (AY y) 4 Z 18 [(0, .ref (yad y (xa0))), (1, .int (xa1)), (2, .int (xa2))] [] σ) (fun xk xHk xa0 xa1 xa2 σ h => b_X5_commonFaults_18 C hr xk xHk xa0 xa1 xa2 σ h) n xa0 xa1 xa2 σ h
set_option maxHeartbeats 4000000 in
set_option maxRecDepth 20000 in
theorem b_X5_commonFaults_0 {x : XT} {y : YT} {Z : State → Prop} (C : Cx x y (AY y) RX5 cX5_commonFaults 4 rm_X5_commonFaults) {r : Int32} {σ' : Sto} (hr : RetI x y (AY y) 4 cX5_commonFaults Z r σ') (xa0 : Nat) (σ : Sto) (h : F_X5_commonFaults xa0 σ = some (r, σ')) : GW x y (AY y) 4 Z 0 [(0, .ref (yad y (xa0)))] [] σ := by
  unfold F_X5_commonFaults at h
  refine g_aload_n (pc := 0) C dX5_commonFaults_0 rfl 0 rfl ?_
  obtain ⟨xq1, h⟩ := iC h
  have xq1 := keq xq1
  refine gf_5_0 (pc := 1) C wf_X5_9 dX5_commonFaults_1 xq1 ?_
  refine g_iconst (v := 1) (pc := 4) C dX5_commonFaults_4 ci_1 ?_
  refine g_iald (pc := 5) C dX5_commonFaults_5 rfl (ivp (by decide) rfl) (j := 1) ct_1 ?_
  refine g_if_ne (pc := 6) C dX5_commonFaults_6 (tgt := 13) rfl (fun xq2 => ?_) (fun xq2 => ?_)
  · have h := iN xq2 h
    refine g_bipush (v := 31) (pc := 13) C dX5_commonFaults_13 cb_31 ?_
    refine g_istore_n (i := 1) (lv' := [(1, .int (31)), (0, .ref (yad y (xa0)))]) (pc := 15) C dX5_commonFaults_15 rfl (Nat.le_of_ble_eq_true rfl) rfl ?_
    refine g_iconst (v := 0) (pc := 16) C dX5_commonFaults_16 ci_0 ?_
    refine g_istore_n (i := 2) (lv' := [(2, .int (0)), (1, .int (31)), (0, .ref (yad y (xa0)))]) (pc := 17) C dX5_commonFaults_17 rfl (Nat.le_of_ble_eq_true rfl) rfl ?_
    refine g_sub (lv' := [(0, .ref (yad y (xa0))), (1, .int (31)), (2, .int (0))]) C [2, 1, 0] rfl ?_
    exact l_X5_commonFaults_18 C hr 1000 xa0 31 0 σ h
  · have h := iP xq2 h
    refine g_iconst (v := 0) (pc := 9) C dX5_commonFaults_9 ci_0 ?_
    refine g_goto (pc := 10) C dX5_commonFaults_10 (tgt := 15) rfl ?_
    refine g_istore_n (i := 1) (lv' := [(1, .int (0)), (0, .ref (yad y (xa0)))]) (pc := 15) C dX5_commonFaults_15 rfl (Nat.le_of_ble_eq_true rfl) rfl ?_
    refine g_iconst (v := 0) (pc := 16) C dX5_commonFaults_16 ci_0 ?_
    refine g_istore_n (i := 2) (lv' := [(2, .int (0)), (1, .int (0)), (0, .ref (yad y (xa0)))]) (pc := 17) C dX5_commonFaults_17 rfl (Nat.le_of_ble_eq_true rfl) rfl ?_
    refine g_sub (lv' := [(0, .ref (yad y (xa0))), (1, .int (0)), (2, .int (0))]) C [2, 1, 0] rfl ?_
    exact l_X5_commonFaults_18 C hr 1000 xa0 0 0 σ h
theorem c_X5_commonFaults (l : Launch) (y : YT) (xa0 : Nat) (σ σ' : Sto) (r : Int32) (h : F_X5_commonFaults xa0 σ = some (r, σ')) : MI l y yX5_commonFaults (Cond.code yX5_commonFaults cX5_commonFaults 4 (some .int) :: TT) rm_X5_commonFaults [.ref (yad y (xa0))] σ r σ' :=
  mkI (by decide) rfl rfl rfl (Nat.le_of_ble_eq_true rfl) (fun x Z C hr => b_X5_commonFaults_0 C hr xa0 σ h)
def rm_X5_now : Room := { frames := 6, cells := 0, slots := 0, locals := 135 }
def F_X5_now (xa0 : Nat) (xa1 : Int32) (σ : Sto) : Option (Int32 × Sto) := if xa1 = 0 then ck (kd (xa0) == 5) (some (σ 50 0, σ)) else if xa1 = 1 then ck (kd (xa0) == 5) (bnd (F_X5_sumOf (xa0) 5 σ) (fun xr7 xσ4 => some (xr7, xσ4))) else if xa1 = 2 then ck (kd (xa0) == 5) (bnd (F_X5_sumOf (xa0) 6 σ) (fun xr12 xσ9 => some (xr12, xσ9))) else if xa1 = 3 then ck (kd (xa0) == 5) (bnd (F_X5_sumOf (xa0) 4 σ) (fun xr17 xσ14 => some (xr17, xσ14))) else if xa1 = 4 then ck (kd (xa0) == 5) (bnd (F_X5_next (xa0) σ) (fun xr22 xσ19 => some (xr22, xσ19))) else if xa1 = 5 then ck (kd (xa0) == 5) (bnd (F_X5_goodOnes (xa0) σ) (fun xr27 xσ24 => some (xr27, xσ24))) else if xa1 = 6 then ck (kd (xa0) == 5) (bnd (F_X5_commonFaults (xa0) σ) (fun xr32 xσ29 => some (xr32, xσ29))) else ck (kd (xa0) == 5) (bnd (F_X5_finding (xa0) (-1000001) σ) (fun xr36 xσ33 => some (xr36, xσ33)))
set_option maxHeartbeats 4000000 in
set_option maxRecDepth 20000 in
theorem b_X5_now_0 {x : XT} {y : YT} {Z : State → Prop} (C : Cx x y (AY y) RX5 cX5_now 2 rm_X5_now) {r : Int32} {σ' : Sto} (hr : RetI x y (AY y) 2 cX5_now Z r σ') (xa0 : Nat) (xa1 : Int32) (σ : Sto) (h : F_X5_now xa0 xa1 σ = some (r, σ')) : GW x y (AY y) 2 Z 0 [(0, .ref (yad y (xa0))), (1, .int (xa1))] [] σ := by
  unfold F_X5_now at h
  refine g_iload_n (pc := 0) C dX5_now_0 rfl 1 rfl ?_
  by_cases xq1 : xa1 = 0
  · have h := iP xq1 h
    refine g_tabIn (pc := 1) C dX5_now_1 (v := 0) (tgt := 44) (by decide) (by decide) rfl rfl xq1 ?_
    refine g_aload_n (pc := 44) C dX5_now_44 rfl 0 rfl ?_
    obtain ⟨xq2, h⟩ := iC h
    have xq2 := keq xq2
    refine gf_5_0 (pc := 45) C wf_X5_9 dX5_now_45 xq2 ?_
    refine g_iconst (v := 0) (pc := 48) C dX5_now_48 ci_0 ?_
    refine g_iald (pc := 49) C dX5_now_49 rfl (ivp (by decide) rfl) (j := 0) ct_0 ?_
    exact rtI hr dX5_now_50 h
  · have h := iN xq1 h
    by_cases xq3 : xa1 = 1
    · have h := iP xq3 h
      refine g_tabIn (pc := 1) C dX5_now_1 (v := 1) (tgt := 51) (by decide) (by decide) rfl rfl xq3 ?_
      refine g_aload_n (pc := 51) C dX5_now_51 rfl 0 rfl ?_
      refine g_iconst (v := 5) (pc := 52) C dX5_now_52 ci_5 ?_
      obtain ⟨xq6, h⟩ := iC h
      have xq6 := keq xq6
      obtain ⟨xr7, xσ4, xc5, h⟩ := iB h
      refine g_callVi (pc := 53) (As := [.int (5)]) (rest := []) C dX5_now_53 (fun l => c_X5_sumOf l y _ _ _ _ _ xc5) cv_X5_166 ⟨rfl, rfl, Nat.le_of_ble_eq_true rfl, Nat.le_of_ble_eq_true rfl⟩ (rv5 xq6) rfl (Nat.le_of_ble_eq_true rfl) ?_
      exact rtI hr dX5_now_56 h
    · have h := iN xq3 h
      by_cases xq8 : xa1 = 2
      · have h := iP xq8 h
        refine g_tabIn (pc := 1) C dX5_now_1 (v := 2) (tgt := 57) (by decide) (by decide) rfl rfl xq8 ?_
        refine g_aload_n (pc := 57) C dX5_now_57 rfl 0 rfl ?_
        refine g_bipush (v := 6) (pc := 58) C dX5_now_58 cb_6 ?_
        obtain ⟨xq11, h⟩ := iC h
        have xq11 := keq xq11
        obtain ⟨xr12, xσ9, xc10, h⟩ := iB h
        refine g_callVi (pc := 60) (As := [.int (6)]) (rest := []) C dX5_now_60 (fun l => c_X5_sumOf l y _ _ _ _ _ xc10) cv_X5_166 ⟨rfl, rfl, Nat.le_of_ble_eq_true rfl, Nat.le_of_ble_eq_true rfl⟩ (rv5 xq11) rfl (Nat.le_of_ble_eq_true rfl) ?_
        exact rtI hr dX5_now_63 h
      · have h := iN xq8 h
        by_cases xq13 : xa1 = 3
        · have h := iP xq13 h
          refine g_tabIn (pc := 1) C dX5_now_1 (v := 3) (tgt := 64) (by decide) (by decide) rfl rfl xq13 ?_
          refine g_aload_n (pc := 64) C dX5_now_64 rfl 0 rfl ?_
          refine g_iconst (v := 4) (pc := 65) C dX5_now_65 ci_4 ?_
          obtain ⟨xq16, h⟩ := iC h
          have xq16 := keq xq16
          obtain ⟨xr17, xσ14, xc15, h⟩ := iB h
          refine g_callVi (pc := 66) (As := [.int (4)]) (rest := []) C dX5_now_66 (fun l => c_X5_sumOf l y _ _ _ _ _ xc15) cv_X5_166 ⟨rfl, rfl, Nat.le_of_ble_eq_true rfl, Nat.le_of_ble_eq_true rfl⟩ (rv5 xq16) rfl (Nat.le_of_ble_eq_true rfl) ?_
          exact rtI hr dX5_now_69 h
        · have h := iN xq13 h
          by_cases xq18 : xa1 = 4
          · have h := iP xq18 h
            refine g_tabIn (pc := 1) C dX5_now_1 (v := 4) (tgt := 70) (by decide) (by decide) rfl rfl xq18 ?_
            refine g_aload_n (pc := 70) C dX5_now_70 rfl 0 rfl ?_
            obtain ⟨xq21, h⟩ := iC h
            have xq21 := keq xq21
            obtain ⟨xr22, xσ19, xc20, h⟩ := iB h
            refine g_callVi (pc := 71) (As := []) (rest := []) C dX5_now_71 (fun l => c_X5_next l y _ _ _ _ xc20) cv_X5_152 ⟨rfl, rfl, Nat.le_of_ble_eq_true rfl, Nat.le_of_ble_eq_true rfl⟩ (rv5 xq21) rfl (Nat.le_of_ble_eq_true rfl) ?_
            exact rtI hr dX5_now_74 h
          · have h := iN xq18 h
            by_cases xq23 : xa1 = 5
            · have h := iP xq23 h
              refine g_tabIn (pc := 1) C dX5_now_1 (v := 5) (tgt := 75) (by decide) (by decide) rfl rfl xq23 ?_
              refine g_aload_n (pc := 75) C dX5_now_75 rfl 0 rfl ?_
              obtain ⟨xq26, h⟩ := iC h
              have xq26 := keq xq26
              obtain ⟨xr27, xσ24, xc25, h⟩ := iB h
              refine g_callVi (pc := 76) (As := []) (rest := []) C dX5_now_76 (fun l => c_X5_goodOnes l y _ _ _ _ xc25) cv_X5_169 ⟨rfl, rfl, Nat.le_of_ble_eq_true rfl, Nat.le_of_ble_eq_true rfl⟩ (rv5 xq26) rfl (Nat.le_of_ble_eq_true rfl) ?_
              exact rtI hr dX5_now_79 h
            · have h := iN xq23 h
              by_cases xq28 : xa1 = 6
              · have h := iP xq28 h
                refine g_tabIn (pc := 1) C dX5_now_1 (v := 6) (tgt := 80) (by decide) (by decide) rfl rfl xq28 ?_
                refine g_aload_n (pc := 80) C dX5_now_80 rfl 0 rfl ?_
                obtain ⟨xq31, h⟩ := iC h
                have xq31 := keq xq31
                obtain ⟨xr32, xσ29, xc30, h⟩ := iB h
                refine g_callVi (pc := 81) (As := []) (rest := []) C dX5_now_81 (fun l => c_X5_commonFaults l y _ _ _ _ xc30) cv_X5_172 ⟨rfl, rfl, Nat.le_of_ble_eq_true rfl, Nat.le_of_ble_eq_true rfl⟩ (rv5 xq31) rfl (Nat.le_of_ble_eq_true rfl) ?_
                exact rtI hr dX5_now_84 h
              · have h := iN xq28 h
                have xe0 : ¬ xa1.toInt = 0 := tne xq1
                have xe1 : ¬ xa1.toInt = 1 := tne xq3
                have xe2 : ¬ xa1.toInt = 2 := tne xq8
                have xe3 : ¬ xa1.toInt = 3 := tne xq13
                have xe4 : ¬ xa1.toInt = 4 := tne xq18
                have xe5 : ¬ xa1.toInt = 5 := tne xq23
                have xe6 : ¬ xa1.toInt = 6 := tne xq28
                refine g_tabOut (pc := 1) C dX5_now_1 (tgt := 85) (by omega) rfl ?_
                refine g_aload_n (pc := 85) C dX5_now_85 rfl 0 rfl ?_
                refine g_ldc (v := (-1000001)) (pc := 86) C dX5_now_86 wk_X5_60 ?_
                obtain ⟨xq35, h⟩ := iC h
                have xq35 := keq xq35
                obtain ⟨xr36, xσ33, xc34, h⟩ := iB h
                refine g_callVi (pc := 88) (As := [.int ((-1000001))]) (rest := []) C dX5_now_88 (fun l => c_X5_finding l y _ _ _ _ _ xc34) cv_X5_66 ⟨rfl, rfl, Nat.le_of_ble_eq_true rfl, Nat.le_of_ble_eq_true rfl⟩ (rv5 xq35) rfl (Nat.le_of_ble_eq_true rfl) ?_
                exact rtI hr dX5_now_91 h
theorem c_X5_now (l : Launch) (y : YT) (xa0 : Nat) (xa1 : Int32) (σ σ' : Sto) (r : Int32) (h : F_X5_now xa0 xa1 σ = some (r, σ')) : MI l y yX5_now (Cond.code yX5_now cX5_now 2 (some .int) :: TT) rm_X5_now [.ref (yad y (xa0)), .int (xa1)] σ r σ' :=
  mkI (by decide) rfl rfl rfl (Nat.le_of_ble_eq_true rfl) (fun x Z C hr => b_X5_now_0 C hr xa0 xa1 σ h)
def rm_X5_behind : Room := { frames := 8, cells := 0, slots := 0, locals := 178 }
def F_X5_behind (xa0 : Nat) (xa1 : Int32) (xa2 : Int32) (σ : Sto) : Option (Int32 × Sto) := ck (kd (xa0) == 5) (bnd (F_X5_copyRow (50) (52) σ) (fun xr4 xσ2 => bnd (F_X5_minutes (xa0) (xa2) xσ2) (fun xr7 xσ5 => ck (inr (xa1) (79)) (bnd (F_X5_putBack (xa0) (xσ5 50 (xa1.toNatClampNeg)) xσ5) (fun xr11 xσ9 => some (xr11, xσ9))))))
set_option maxHeartbeats 4000000 in
set_option maxRecDepth 20000 in
theorem b_X5_behind_0 {x : XT} {y : YT} {Z : State → Prop} (C : Cx x y (AY y) RX5 cX5_behind 3 rm_X5_behind) {r : Int32} {σ' : Sto} (hr : RetI x y (AY y) 3 cX5_behind Z r σ') (xa0 : Nat) (xa1 : Int32) (xa2 : Int32) (σ : Sto) (h : F_X5_behind xa0 xa1 xa2 σ = some (r, σ')) : GW x y (AY y) 3 Z 0 [(0, .ref (yad y (xa0))), (1, .int (xa1)), (2, .int (xa2))] [] σ := by
  unfold F_X5_behind at h
  refine g_aload_n (pc := 0) C dX5_behind_0 rfl 0 rfl ?_
  obtain ⟨xq1, h⟩ := iC h
  have xq1 := keq xq1
  refine gf_5_0 (pc := 1) C wf_X5_9 dX5_behind_1 xq1 ?_
  refine g_aload_n (pc := 4) C dX5_behind_4 rfl 0 rfl ?_
  refine gf_5_2 (pc := 5) C wf_X5_16 dX5_behind_5 xq1 ?_
  obtain ⟨xr4, xσ2, xc3, h⟩ := iB h
  refine g_callSv (pc := 8) (As := [.ref (yad y (50)), .ref (yad y (52))]) (rest := []) C dX5_behind_8 (fun l => c_X5_copyRow l y _ _ _ _ _ xc3) cv_X5_61 ⟨rfl, rfl, Nat.le_of_ble_eq_true rfl, Nat.le_of_ble_eq_true rfl⟩ rfl (Nat.le_of_ble_eq_true rfl) ?_
  refine g_aload_n (pc := 11) C dX5_behind_11 rfl 0 rfl ?_
  refine g_iload_n (pc := 12) C dX5_behind_12 rfl 2 rfl ?_
  obtain ⟨xr7, xσ5, xc6, h⟩ := iB h
  refine g_callVv (pc := 13) (As := [.int (xa2)]) (rest := []) C dX5_behind_13 (fun l => c_X5_minutes l y _ _ _ _ _ xc6) cv_X5_163 ⟨rfl, rfl, Nat.le_of_ble_eq_true rfl, Nat.le_of_ble_eq_true rfl⟩ (rv5 xq1) rfl (Nat.le_of_ble_eq_true rfl) ?_
  refine g_aload_n (pc := 16) C dX5_behind_16 rfl 0 rfl ?_
  refine g_aload_n (pc := 17) C dX5_behind_17 rfl 0 rfl ?_
  refine gf_5_0 (pc := 18) C wf_X5_9 dX5_behind_18 xq1 ?_
  refine g_iload_n (pc := 21) C dX5_behind_21 rfl 1 rfl ?_
  obtain ⟨xq8, h⟩ := iC h
  refine g_iald (pc := 22) C dX5_behind_22 rfl (ivp xq8 rfl) (j := xa1.toNatClampNeg) rfl ?_
  obtain ⟨xr11, xσ9, xc10, h⟩ := iB h
  refine g_callVi (pc := 23) (As := [.int (xσ5 50 (xa1.toNatClampNeg))]) (rest := []) C dX5_behind_23 (fun l => c_X5_putBack l y _ _ _ _ _ xc10) cv_X5_175 ⟨rfl, rfl, Nat.le_of_ble_eq_true rfl, Nat.le_of_ble_eq_true rfl⟩ (rv5 xq1) rfl (Nat.le_of_ble_eq_true rfl) ?_
  exact rtI hr dX5_behind_26 h
theorem c_X5_behind (l : Launch) (y : YT) (xa0 : Nat) (xa1 : Int32) (xa2 : Int32) (σ σ' : Sto) (r : Int32) (h : F_X5_behind xa0 xa1 xa2 σ = some (r, σ')) : MI l y yX5_behind (Cond.code yX5_behind cX5_behind 3 (some .int) :: TT) rm_X5_behind [.ref (yad y (xa0)), .int (xa1), .int (xa2)] σ r σ' :=
  mkI (by decide) rfl rfl rfl (Nat.le_of_ble_eq_true rfl) (fun x Z C hr => b_X5_behind_0 C hr xa0 xa1 xa2 σ h)
def rm_X5_ahead : Room := { frames := 9, cells := 0, slots := 0, locals := 200 }
def F_X5_ahead (xa0 : Nat) (xa1 : Int32) (xa2 : Int32) (xa3 : Int32) (σ : Sto) : Option (Int32 × Sto) := ck (kd (xa0) == 5) (bnd (F_X5_isSitter (xa0) (xa1) σ) (fun xr4 xσ1 => if (xr4) = 0 then bnd (F_X5_finding (xa0) (-1000001) xσ1) (fun xr8 xσ6 => some (xr8, xσ6)) else bnd (F_X5_within (xa2) 2 6 xσ1) (fun xr11 xσ9 => if (xr11) = 0 then bnd (F_X5_finding (xa0) (-1000001) xσ9) (fun xr15 xσ13 => some (xr15, xσ13)) else bnd (F_X5_within (xa3) 0 200 xσ9) (fun xr18 xσ16 => if (xr18) = 0 then bnd (F_X5_finding (xa0) (-1000001) xσ16) (fun xr22 xσ20 => some (xr22, xσ20)) else bnd (F_X5_sitterAt (xa1) (xa2) xσ16) (fun xr25 xσ23 => bnd (F_X5_behind (xa0) (xr25) (xa3) xσ23) (fun xr28 xσ26 => some (xr28, xσ26)))))))
set_option maxHeartbeats 4000000 in
set_option maxRecDepth 20000 in
theorem b_X5_ahead_0 {x : XT} {y : YT} {Z : State → Prop} (C : Cx x y (AY y) RX5 cX5_ahead 4 rm_X5_ahead) {r : Int32} {σ' : Sto} (hr : RetI x y (AY y) 4 cX5_ahead Z r σ') (xa0 : Nat) (xa1 : Int32) (xa2 : Int32) (xa3 : Int32) (σ : Sto) (h : F_X5_ahead xa0 xa1 xa2 xa3 σ = some (r, σ')) : GW x y (AY y) 4 Z 0 [(0, .ref (yad y (xa0))), (1, .int (xa1)), (2, .int (xa2)), (3, .int (xa3))] [] σ := by
  unfold F_X5_ahead at h
  refine g_aload_n (pc := 0) C dX5_ahead_0 rfl 0 rfl ?_
  refine g_iload_n (pc := 1) C dX5_ahead_1 rfl 1 rfl ?_
  obtain ⟨xq3, h⟩ := iC h
  have xq3 := keq xq3
  obtain ⟨xr4, xσ1, xc2, h⟩ := iB h
  refine g_callVi (pc := 2) (As := [.int (xa1)]) (rest := []) C dX5_ahead_2 (fun l => c_X5_isSitter l y _ _ _ _ _ xc2) cv_X5_83 ⟨rfl, rfl, Nat.le_of_ble_eq_true rfl, Nat.le_of_ble_eq_true rfl⟩ (rv5 xq3) rfl (Nat.le_of_ble_eq_true rfl) ?_
  refine g_if_eq (pc := 5) C dX5_ahead_5 (tgt := 42) rfl (fun xq5 => ?_) (fun xq5 => ?_)
  · have h := iP xq5 h
    refine g_aload_n (pc := 42) C dX5_ahead_42 rfl 0 rfl ?_
    refine g_ldc (v := (-1000001)) (pc := 43) C dX5_ahead_43 wk_X5_60 ?_
    obtain ⟨xr8, xσ6, xc7, h⟩ := iB h
    refine g_callVi (pc := 45) (As := [.int ((-1000001))]) (rest := []) C dX5_ahead_45 (fun l => c_X5_finding l y _ _ _ _ _ xc7) cv_X5_66 ⟨rfl, rfl, Nat.le_of_ble_eq_true rfl, Nat.le_of_ble_eq_true rfl⟩ (rv5 xq3) rfl (Nat.le_of_ble_eq_true rfl) ?_
    exact rtI hr dX5_ahead_48 h
  · have h := iN xq5 h
    refine g_iload_n (pc := 8) C dX5_ahead_8 rfl 2 rfl ?_
    refine g_iconst (v := 2) (pc := 9) C dX5_ahead_9 ci_2 ?_
    refine g_bipush (v := 6) (pc := 10) C dX5_ahead_10 cb_6 ?_
    obtain ⟨xr11, xσ9, xc10, h⟩ := iB h
    refine g_callSi (pc := 12) (As := [.int (xa2), .int (2), .int (6)]) (rest := []) C dX5_ahead_12 (fun l => c_X5_within l y _ _ _ _ _ _ xc10) cv_X5_70 ⟨rfl, rfl, Nat.le_of_ble_eq_true rfl, Nat.le_of_ble_eq_true rfl⟩ rfl (Nat.le_of_ble_eq_true rfl) ?_
    refine g_if_eq (pc := 15) C dX5_ahead_15 (tgt := 42) rfl (fun xq12 => ?_) (fun xq12 => ?_)
    · have h := iP xq12 h
      refine g_aload_n (pc := 42) C dX5_ahead_42 rfl 0 rfl ?_
      refine g_ldc (v := (-1000001)) (pc := 43) C dX5_ahead_43 wk_X5_60 ?_
      obtain ⟨xr15, xσ13, xc14, h⟩ := iB h
      refine g_callVi (pc := 45) (As := [.int ((-1000001))]) (rest := []) C dX5_ahead_45 (fun l => c_X5_finding l y _ _ _ _ _ xc14) cv_X5_66 ⟨rfl, rfl, Nat.le_of_ble_eq_true rfl, Nat.le_of_ble_eq_true rfl⟩ (rv5 xq3) rfl (Nat.le_of_ble_eq_true rfl) ?_
      exact rtI hr dX5_ahead_48 h
    · have h := iN xq12 h
      refine g_iload_n (pc := 18) C dX5_ahead_18 rfl 3 rfl ?_
      refine g_iconst (v := 0) (pc := 19) C dX5_ahead_19 ci_0 ?_
      refine g_sipush (v := 200) (pc := 20) C dX5_ahead_20 cs_200 ?_
      obtain ⟨xr18, xσ16, xc17, h⟩ := iB h
      refine g_callSi (pc := 23) (As := [.int (xa3), .int (0), .int (200)]) (rest := []) C dX5_ahead_23 (fun l => c_X5_within l y _ _ _ _ _ _ xc17) cv_X5_70 ⟨rfl, rfl, Nat.le_of_ble_eq_true rfl, Nat.le_of_ble_eq_true rfl⟩ rfl (Nat.le_of_ble_eq_true rfl) ?_
      refine g_if_eq (pc := 26) C dX5_ahead_26 (tgt := 42) rfl (fun xq19 => ?_) (fun xq19 => ?_)
      · have h := iP xq19 h
        refine g_aload_n (pc := 42) C dX5_ahead_42 rfl 0 rfl ?_
        refine g_ldc (v := (-1000001)) (pc := 43) C dX5_ahead_43 wk_X5_60 ?_
        obtain ⟨xr22, xσ20, xc21, h⟩ := iB h
        refine g_callVi (pc := 45) (As := [.int ((-1000001))]) (rest := []) C dX5_ahead_45 (fun l => c_X5_finding l y _ _ _ _ _ xc21) cv_X5_66 ⟨rfl, rfl, Nat.le_of_ble_eq_true rfl, Nat.le_of_ble_eq_true rfl⟩ (rv5 xq3) rfl (Nat.le_of_ble_eq_true rfl) ?_
        exact rtI hr dX5_ahead_48 h
      · have h := iN xq19 h
        refine g_aload_n (pc := 29) C dX5_ahead_29 rfl 0 rfl ?_
        refine g_iload_n (pc := 30) C dX5_ahead_30 rfl 1 rfl ?_
        refine g_iload_n (pc := 31) C dX5_ahead_31 rfl 2 rfl ?_
        obtain ⟨xr25, xσ23, xc24, h⟩ := iB h
        refine g_callSi (pc := 32) (As := [.int (xa1), .int (xa2)]) (rest := [.ref (yad y (xa0))]) C dX5_ahead_32 (fun l => c_X5_sitterAt l y _ _ _ _ _ xc24) cv_X5_93 ⟨rfl, rfl, Nat.le_of_ble_eq_true rfl, Nat.le_of_ble_eq_true rfl⟩ rfl (Nat.le_of_ble_eq_true rfl) ?_
        refine g_iload_n (pc := 35) C dX5_ahead_35 rfl 3 rfl ?_
        obtain ⟨xr28, xσ26, xc27, h⟩ := iB h
        refine g_callVi (pc := 36) (As := [.int (xr25), .int (xa3)]) (rest := []) C dX5_ahead_36 (fun l => c_X5_behind l y _ _ _ _ _ _ xc27) cv_X5_178 ⟨rfl, rfl, Nat.le_of_ble_eq_true rfl, Nat.le_of_ble_eq_true rfl⟩ (rv5 xq3) rfl (Nat.le_of_ble_eq_true rfl) ?_
        refine g_goto (pc := 39) C dX5_ahead_39 (tgt := 48) rfl ?_
        exact rtI hr dX5_ahead_48 h
theorem c_X5_ahead (l : Launch) (y : YT) (xa0 : Nat) (xa1 : Int32) (xa2 : Int32) (xa3 : Int32) (σ σ' : Sto) (r : Int32) (h : F_X5_ahead xa0 xa1 xa2 xa3 σ = some (r, σ')) : MI l y yX5_ahead (Cond.code yX5_ahead cX5_ahead 4 (some .int) :: TT) rm_X5_ahead [.ref (yad y (xa0)), .int (xa1), .int (xa2), .int (xa3)] σ r σ' :=
  mkI (by decide) rfl rfl rfl (Nat.le_of_ble_eq_true rfl) (fun x Z C hr => b_X5_ahead_0 C hr xa0 xa1 xa2 xa3 σ h)
def rm_X5_later : Room := { frames := 9, cells := 0, slots := 0, locals := 200 }
def F_X5_later_b9 (xa0 : Nat) (xa1 : Int32) (xa2 : Int32) (σ : Sto) : Option (Int32 × Sto) := bnd (F_X5_within (xa2) 0 200 σ) (fun xr3 xσ1 => if (xr3) = 0 then ck (kd (xa0) == 5) (bnd (F_X5_finding (xa0) (-1000001) xσ1) (fun xr8 xσ5 => some (xr8, xσ5))) else ck (kd (xa0) == 5) (bnd (F_X5_behind (xa0) (3 + xa1) (xa2) xσ1) (fun xr12 xσ9 => some (xr12, xσ9))))
def F_X5_later (xa0 : Nat) (xa1 : Int32) (xa2 : Int32) (σ : Sto) : Option (Int32 × Sto) := if (xa1) = 0 then F_X5_later_b9 xa0 xa1 xa2 σ else if xa1 = 3 then F_X5_later_b9 xa0 xa1 xa2 σ else ck (kd (xa0) == 5) (bnd (F_X5_finding (xa0) (-1000001) σ) (fun xr6 xσ3 => some (xr6, xσ3)))
set_option maxHeartbeats 4000000 in
set_option maxRecDepth 20000 in
theorem b_X5_later_9 {x : XT} {y : YT} {Z : State → Prop} (C : Cx x y (AY y) RX5 cX5_later 3 rm_X5_later) {r : Int32} {σ' : Sto} (hr : RetI x y (AY y) 3 cX5_later Z r σ') (xa0 : Nat) (xa1 : Int32) (xa2 : Int32) (σ : Sto) (h : F_X5_later_b9 xa0 xa1 xa2 σ = some (r, σ')) : GW x y (AY y) 3 Z 9 [(0, .ref (yad y (xa0))), (1, .int (xa1)), (2, .int (xa2))] [] σ := by
  unfold F_X5_later_b9 at h
  refine g_iload_n (pc := 9) C dX5_later_9 rfl 2 rfl ?_
  refine g_iconst (v := 0) (pc := 10) C dX5_later_10 ci_0 ?_
  refine g_sipush (v := 200) (pc := 11) C dX5_later_11 cs_200 ?_
  obtain ⟨xr3, xσ1, xc2, h⟩ := iB h
  refine g_callSi (pc := 14) (As := [.int (xa2), .int (0), .int (200)]) (rest := []) C dX5_later_14 (fun l => c_X5_within l y _ _ _ _ _ _ xc2) cv_X5_70 ⟨rfl, rfl, Nat.le_of_ble_eq_true rfl, Nat.le_of_ble_eq_true rfl⟩ rfl (Nat.le_of_ble_eq_true rfl) ?_
  refine g_if_eq (pc := 17) C dX5_later_17 (tgt := 31) rfl (fun xq4 => ?_) (fun xq4 => ?_)
  · have h := iP xq4 h
    refine g_aload_n (pc := 31) C dX5_later_31 rfl 0 rfl ?_
    refine g_ldc (v := (-1000001)) (pc := 32) C dX5_later_32 wk_X5_60 ?_
    obtain ⟨xq7, h⟩ := iC h
    have xq7 := keq xq7
    obtain ⟨xr8, xσ5, xc6, h⟩ := iB h
    refine g_callVi (pc := 34) (As := [.int ((-1000001))]) (rest := []) C dX5_later_34 (fun l => c_X5_finding l y _ _ _ _ _ xc6) cv_X5_66 ⟨rfl, rfl, Nat.le_of_ble_eq_true rfl, Nat.le_of_ble_eq_true rfl⟩ (rv5 xq7) rfl (Nat.le_of_ble_eq_true rfl) ?_
    exact rtI hr dX5_later_37 h
  · have h := iN xq4 h
    refine g_aload_n (pc := 20) C dX5_later_20 rfl 0 rfl ?_
    refine g_iconst (v := 3) (pc := 21) C dX5_later_21 ci_3 ?_
    refine g_iload_n (pc := 22) C dX5_later_22 rfl 1 rfl ?_
    refine g_iadd (pc := 23) C dX5_later_23 ?_
    refine g_iload_n (pc := 24) C dX5_later_24 rfl 2 rfl ?_
    obtain ⟨xq11, h⟩ := iC h
    have xq11 := keq xq11
    obtain ⟨xr12, xσ9, xc10, h⟩ := iB h
    refine g_callVi (pc := 25) (As := [.int (3 + xa1), .int (xa2)]) (rest := []) C dX5_later_25 (fun l => c_X5_behind l y _ _ _ _ _ _ xc10) cv_X5_178 ⟨rfl, rfl, Nat.le_of_ble_eq_true rfl, Nat.le_of_ble_eq_true rfl⟩ (rv5 xq11) rfl (Nat.le_of_ble_eq_true rfl) ?_
    refine g_goto (pc := 28) C dX5_later_28 (tgt := 37) rfl ?_
    exact rtI hr dX5_later_37 h
set_option maxHeartbeats 4000000 in
set_option maxRecDepth 20000 in
theorem b_X5_later_0 {x : XT} {y : YT} {Z : State → Prop} (C : Cx x y (AY y) RX5 cX5_later 3 rm_X5_later) {r : Int32} {σ' : Sto} (hr : RetI x y (AY y) 3 cX5_later Z r σ') (xa0 : Nat) (xa1 : Int32) (xa2 : Int32) (σ : Sto) (h : F_X5_later xa0 xa1 xa2 σ = some (r, σ')) : GW x y (AY y) 3 Z 0 [(0, .ref (yad y (xa0))), (1, .int (xa1)), (2, .int (xa2))] [] σ := by
  unfold F_X5_later at h
  refine g_iload_n (pc := 0) C dX5_later_0 rfl 1 rfl ?_
  refine g_if_eq (pc := 1) C dX5_later_1 (tgt := 9) rfl (fun xq1 => ?_) (fun xq1 => ?_)
  · have h := iP xq1 h
    exact b_X5_later_9 C hr xa0 xa1 xa2 σ h
  · have h := iN xq1 h
    refine g_iload_n (pc := 4) C dX5_later_4 rfl 1 rfl ?_
    refine g_iconst (v := 3) (pc := 5) C dX5_later_5 ci_3 ?_
    refine g_icmp_ne (pc := 6) C dX5_later_6 (tgt := 31) rfl (fun xq2 => ?_) (fun xq2 => ?_)
    · have h := iN xq2 h
      refine g_aload_n (pc := 31) C dX5_later_31 rfl 0 rfl ?_
      refine g_ldc (v := (-1000001)) (pc := 32) C dX5_later_32 wk_X5_60 ?_
      obtain ⟨xq5, h⟩ := iC h
      have xq5 := keq xq5
      obtain ⟨xr6, xσ3, xc4, h⟩ := iB h
      refine g_callVi (pc := 34) (As := [.int ((-1000001))]) (rest := []) C dX5_later_34 (fun l => c_X5_finding l y _ _ _ _ _ xc4) cv_X5_66 ⟨rfl, rfl, Nat.le_of_ble_eq_true rfl, Nat.le_of_ble_eq_true rfl⟩ (rv5 xq5) rfl (Nat.le_of_ble_eq_true rfl) ?_
      exact rtI hr dX5_later_37 h
    · have h := iP xq2 h
      exact b_X5_later_9 C hr xa0 xa1 xa2 σ h
theorem c_X5_later (l : Launch) (y : YT) (xa0 : Nat) (xa1 : Int32) (xa2 : Int32) (σ σ' : Sto) (r : Int32) (h : F_X5_later xa0 xa1 xa2 σ = some (r, σ')) : MI l y yX5_later (Cond.code yX5_later cX5_later 3 (some .int) :: TT) rm_X5_later [.ref (yad y (xa0)), .int (xa1), .int (xa2)] σ r σ' :=
  mkI (by decide) rfl rfl rfl (Nat.le_of_ble_eq_true rfl) (fun x Z C hr => b_X5_later_0 C hr xa0 xa1 xa2 σ h)
def rm_X5_when : Room := { frames := 7, cells := 0, slots := 0, locals := 156 }
def F_X5_when_b66 (xa0 : Nat) (xa1 : Int32) (xa2 : Int32) (xa3 : Int32) (σ : Sto) : Option (Int32 × Sto) := ck (kd (xa0) == 5) (bnd (F_X5_sitterIs (xa0) (xa1) 5 σ) (fun xr4 xσ1 => if xa2 ≤ xr4 then bnd (F_X5_putBack (xa0) (xa3) xσ1) (fun xr8 xσ6 => bnd (F_X5_orNone (xa0) (xr8) xσ6) (fun xr11 xσ9 => some (xr11, xσ9))) else bnd (F_X5_putBack (xa0) (-1) xσ1) (fun xr14 xσ12 => bnd (F_X5_orNone (xa0) (xr14) xσ12) (fun xr17 xσ15 => some (xr17, xσ15)))))
def F_X5_when_b39 (xk_39 : Nat → Int32 → Int32 → Int32 → Sto → Option (Int32 × Sto)) (xa0 : Nat) (xa1 : Int32) (xa2 : Int32) (xa3 : Int32) (σ : Sto) : Option (Int32 × Sto) := if 200 ≤ xa3 then F_X5_when_b66 xa0 xa1 xa2 xa3 σ else ck (kd (xa0) == 5) (bnd (F_X5_sitterIs (xa0) (xa1) 5 σ) (fun xr5 xσ2 => if xa2 ≤ xr5 then F_X5_when_b66 xa0 xa1 xa2 xa3 xσ2 else bnd (F_X5_minute (xa0) xσ2) (fun xr9 xσ7 => xk_39 xa0 xa1 xa2 (xa3 + 1) xσ7)))
def F_X5_when (xa0 : Nat) (xa1 : Int32) (xa2 : Int32) (σ : Sto) : Option (Int32 × Sto) := ck (kd (xa0) == 5) (bnd (F_X5_isSitter (xa0) (xa1) σ) (fun xr4 xσ1 => if (xr4) = 0 then bnd (F_X5_finding (xa0) (-1000001) xσ1) (fun xr8 xσ6 => some (xr8, xσ6)) else bnd (F_X5_within (xa2) 0 999 xσ1) (fun xr11 xσ9 => if (xr11) = 0 then bnd (F_X5_finding (xa0) (-1000001) xσ9) (fun xr18 xσ16 => some (xr18, xσ16)) else bnd (F_X5_copyRow (50) (52) xσ9) (fun xr15 xσ13 => lo4 (F_X5_when_b39) 1000 xa0 xa1 xa2 0 xσ13))))
set_option maxHeartbeats 4000000 in
set_option maxRecDepth 20000 in
theorem b_X5_when_66 {x : XT} {y : YT} {Z : State → Prop} (C : Cx x y (AY y) RX5 cX5_when 4 rm_X5_when) {r : Int32} {σ' : Sto} (hr : RetI x y (AY y) 4 cX5_when Z r σ') (xa0 : Nat) (xa1 : Int32) (xa2 : Int32) (xa3 : Int32) (σ : Sto) (h : F_X5_when_b66 xa0 xa1 xa2 xa3 σ = some (r, σ')) : GW x y (AY y) 4 Z 66 [(0, .ref (yad y (xa0))), (1, .int (xa1)), (2, .int (xa2)), (3, .int (xa3))] [] σ := by
  unfold F_X5_when_b66 at h
  refine g_aload_n (pc := 66) C dX5_when_66 rfl 0 rfl ?_
  refine g_aload_n (pc := 67) C dX5_when_67 rfl 0 rfl ?_
  refine g_aload_n (pc := 68) C dX5_when_68 rfl 0 rfl ?_
  refine g_iload_n (pc := 69) C dX5_when_69 rfl 1 rfl ?_
  refine g_iconst (v := 5) (pc := 70) C dX5_when_70 ci_5 ?_
  obtain ⟨xq3, h⟩ := iC h
  have xq3 := keq xq3
  obtain ⟨xr4, xσ1, xc2, h⟩ := iB h
  refine g_callVi (pc := 71) (As := [.int (xa1), .int (5)]) (rest := [.ref (yad y (xa0)), .ref (yad y (xa0))]) C dX5_when_71 (fun l => c_X5_sitterIs l y _ _ _ _ _ _ xc2) cv_X5_104 ⟨rfl, rfl, Nat.le_of_ble_eq_true rfl, Nat.le_of_ble_eq_true rfl⟩ (rv5 xq3) rfl (Nat.le_of_ble_eq_true rfl) ?_
  refine g_iload_n (pc := 74) C dX5_when_74 rfl 2 rfl ?_
  refine g_icmp_ge (pc := 75) C dX5_when_75 (tgt := 82) rfl (fun xq5 => ?_) (fun xq5 => ?_)
  · have h := iP xq5 h
    refine g_iload_n (pc := 82) C dX5_when_82 rfl 3 rfl ?_
    obtain ⟨xr8, xσ6, xc7, h⟩ := iB h
    refine g_callVi (pc := 83) (As := [.int (xa3)]) (rest := [.ref (yad y (xa0))]) C dX5_when_83 (fun l => c_X5_putBack l y _ _ _ _ _ xc7) cv_X5_175 ⟨rfl, rfl, Nat.le_of_ble_eq_true rfl, Nat.le_of_ble_eq_true rfl⟩ (rv5 xq3) rfl (Nat.le_of_ble_eq_true rfl) ?_
    obtain ⟨xr11, xσ9, xc10, h⟩ := iB h
    refine g_callVi (pc := 86) (As := [.int (xr8)]) (rest := []) C dX5_when_86 (fun l => c_X5_orNone l y _ _ _ _ _ xc10) cv_X5_181 ⟨rfl, rfl, Nat.le_of_ble_eq_true rfl, Nat.le_of_ble_eq_true rfl⟩ (rv5 xq3) rfl (Nat.le_of_ble_eq_true rfl) ?_
    exact rtI hr dX5_when_89 h
  · have h := iN xq5 h
    refine g_iconst (v := (-1)) (pc := 78) C dX5_when_78 ci_m1 ?_
    refine g_goto (pc := 79) C dX5_when_79 (tgt := 83) rfl ?_
    obtain ⟨xr14, xσ12, xc13, h⟩ := iB h
    refine g_callVi (pc := 83) (As := [.int ((-1))]) (rest := [.ref (yad y (xa0))]) C dX5_when_83 (fun l => c_X5_putBack l y _ _ _ _ _ xc13) cv_X5_175 ⟨rfl, rfl, Nat.le_of_ble_eq_true rfl, Nat.le_of_ble_eq_true rfl⟩ (rv5 xq3) rfl (Nat.le_of_ble_eq_true rfl) ?_
    obtain ⟨xr17, xσ15, xc16, h⟩ := iB h
    refine g_callVi (pc := 86) (As := [.int (xr14)]) (rest := []) C dX5_when_86 (fun l => c_X5_orNone l y _ _ _ _ _ xc16) cv_X5_181 ⟨rfl, rfl, Nat.le_of_ble_eq_true rfl, Nat.le_of_ble_eq_true rfl⟩ (rv5 xq3) rfl (Nat.le_of_ble_eq_true rfl) ?_
    exact rtI hr dX5_when_89 h
set_option maxHeartbeats 4000000 in
set_option maxRecDepth 20000 in
theorem b_X5_when_39 {x : XT} {y : YT} {Z : State → Prop} (C : Cx x y (AY y) RX5 cX5_when 4 rm_X5_when) {r : Int32} {σ' : Sto} (hr : RetI x y (AY y) 4 cX5_when Z r σ') (xk_39 : Nat → Int32 → Int32 → Int32 → Sto → Option (Int32 × Sto)) (xH39 : ∀ (xa0 : Nat) (xa1 : Int32) (xa2 : Int32) (xa3 : Int32) (σ : Sto), xk_39 xa0 xa1 xa2 xa3 σ = some (r, σ') → GW x y (AY y) 4 Z 39 [(0, .ref (yad y (xa0))), (1, .int (xa1)), (2, .int (xa2)), (3, .int (xa3))] [] σ) (xa0 : Nat) (xa1 : Int32) (xa2 : Int32) (xa3 : Int32) (σ : Sto) (h : F_X5_when_b39 xk_39 xa0 xa1 xa2 xa3 σ = some (r, σ')) : GW x y (AY y) 4 Z 39 [(0, .ref (yad y (xa0))), (1, .int (xa1)), (2, .int (xa2)), (3, .int (xa3))] [] σ := by
  unfold F_X5_when_b39 at h
  refine g_iload_n (pc := 39) C dX5_when_39 rfl 3 rfl ?_
  refine g_sipush (v := 200) (pc := 40) C dX5_when_40 cs_200 ?_
  refine g_icmp_ge (pc := 43) C dX5_when_43 (tgt := 66) rfl (fun xq1 => ?_) (fun xq1 => ?_)
  · have h := iP xq1 h
    exact b_X5_when_66 C hr xa0 xa1 xa2 xa3 σ h
  · have h := iN xq1 h
    refine g_aload_n (pc := 46) C dX5_when_46 rfl 0 rfl ?_
    refine g_iload_n (pc := 47) C dX5_when_47 rfl 1 rfl ?_
    refine g_iconst (v := 5) (pc := 48) C dX5_when_48 ci_5 ?_
    obtain ⟨xq4, h⟩ := iC h
    have xq4 := keq xq4
    obtain ⟨xr5, xσ2, xc3, h⟩ := iB h
    refine g_callVi (pc := 49) (As := [.int (xa1), .int (5)]) (rest := []) C dX5_when_49 (fun l => c_X5_sitterIs l y _ _ _ _ _ _ xc3) cv_X5_104 ⟨rfl, rfl, Nat.le_of_ble_eq_true rfl, Nat.le_of_ble_eq_true rfl⟩ (rv5 xq4) rfl (Nat.le_of_ble_eq_true rfl) ?_
    refine g_iload_n (pc := 52) C dX5_when_52 rfl 2 rfl ?_
    refine g_icmp_ge (pc := 53) C dX5_when_53 (tgt := 66) rfl (fun xq6 => ?_) (fun xq6 => ?_)
    · have h := iP xq6 h
      exact b_X5_when_66 C hr xa0 xa1 xa2 xa3 xσ2 h
    · have h := iN xq6 h
      refine g_aload_n (pc := 56) C dX5_when_56 rfl 0 rfl ?_
      obtain ⟨xr9, xσ7, xc8, h⟩ := iB h
      refine g_callVv (pc := 57) (As := []) (rest := []) C dX5_when_57 (fun l => c_X5_minute l y _ _ _ _ xc8) cv_X5_159 ⟨rfl, rfl, Nat.le_of_ble_eq_true rfl, Nat.le_of_ble_eq_true rfl⟩ (rv5 xq4) rfl (Nat.le_of_ble_eq_true rfl) ?_
      refine g_iinc (lv' := [(3, .int (xa3 + 1)), (0, .ref (yad y (xa0))), (1, .int (xa1)), (2, .int (xa2))]) (w := xa3 + 1) (pc := 60) C dX5_when_60 (k := 3) rfl rfl (Nat.le_of_ble_eq_true rfl) rfl ?_
      refine g_goto (pc := 63) C dX5_when_63 (tgt := 39) rfl ?_
      refine g_sub (lv' := [(0, .ref (yad y (xa0))), (1, .int (xa1)), (2, .int (xa2)), (3, .int (xa3 + 1))]) C [1, 2, 3, 0] rfl ?_
      exact xH39 xa0 xa1 xa2 (xa3 + 1) xσ7 h
theorem l_X5_when_39 {x : XT} {y : YT} {Z : State → Prop} (C : Cx x y (AY y) RX5 cX5_when 4 rm_X5_when) {r : Int32} {σ' : Sto} (hr : RetI x y (AY y) 4 cX5_when Z r σ') (n : Nat) (xa0 : Nat) (xa1 : Int32) (xa2 : Int32) (xa3 : Int32) (σ : Sto) (h : lo4 (F_X5_when_b39) n xa0 xa1 xa2 xa3 σ = some (r, σ')) : GW x y (AY y) 4 Z 39 [(0, .ref (yad y (xa0))), (1, .int (xa1)), (2, .int (xa2)), (3, .int (xa3))] [] σ :=
  lo4_gw (G := fun xa0 xa1 xa2 xa3 σ => GW x y (AY y) 4 Z 39 [(0, .ref (yad y (xa0))), (1, .int (xa1)), (2, .int (xa2)), (3, .int (xa3))] [] σ) (fun xk xHk xa0 xa1 xa2 xa3 σ h => b_X5_when_39 C hr xk xHk xa0 xa1 xa2 xa3 σ h) n xa0 xa1 xa2 xa3 σ h
set_option maxHeartbeats 4000000 in
set_option maxRecDepth 20000 in
theorem b_X5_when_0 {x : XT} {y : YT} {Z : State → Prop} (C : Cx x y (AY y) RX5 cX5_when 4 rm_X5_when) {r : Int32} {σ' : Sto} (hr : RetI x y (AY y) 4 cX5_when Z r σ') (xa0 : Nat) (xa1 : Int32) (xa2 : Int32) (σ : Sto) (h : F_X5_when xa0 xa1 xa2 σ = some (r, σ')) : GW x y (AY y) 4 Z 0 [(0, .ref (yad y (xa0))), (1, .int (xa1)), (2, .int (xa2))] [] σ := by
  unfold F_X5_when at h
  refine g_aload_n (pc := 0) C dX5_when_0 rfl 0 rfl ?_
  refine g_iload_n (pc := 1) C dX5_when_1 rfl 1 rfl ?_
  obtain ⟨xq3, h⟩ := iC h
  have xq3 := keq xq3
  obtain ⟨xr4, xσ1, xc2, h⟩ := iB h
  refine g_callVi (pc := 2) (As := [.int (xa1)]) (rest := []) C dX5_when_2 (fun l => c_X5_isSitter l y _ _ _ _ _ xc2) cv_X5_83 ⟨rfl, rfl, Nat.le_of_ble_eq_true rfl, Nat.le_of_ble_eq_true rfl⟩ (rv5 xq3) rfl (Nat.le_of_ble_eq_true rfl) ?_
  refine g_if_eq (pc := 5) C dX5_when_5 (tgt := 19) rfl (fun xq5 => ?_) (fun xq5 => ?_)
  · have h := iP xq5 h
    refine g_aload_n (pc := 19) C dX5_when_19 rfl 0 rfl ?_
    refine g_ldc (v := (-1000001)) (pc := 20) C dX5_when_20 wk_X5_60 ?_
    obtain ⟨xr8, xσ6, xc7, h⟩ := iB h
    refine g_callVi (pc := 22) (As := [.int ((-1000001))]) (rest := []) C dX5_when_22 (fun l => c_X5_finding l y _ _ _ _ _ xc7) cv_X5_66 ⟨rfl, rfl, Nat.le_of_ble_eq_true rfl, Nat.le_of_ble_eq_true rfl⟩ (rv5 xq3) rfl (Nat.le_of_ble_eq_true rfl) ?_
    exact rtI hr dX5_when_25 h
  · have h := iN xq5 h
    refine g_iload_n (pc := 8) C dX5_when_8 rfl 2 rfl ?_
    refine g_iconst (v := 0) (pc := 9) C dX5_when_9 ci_0 ?_
    refine g_sipush (v := 999) (pc := 10) C dX5_when_10 cs_999 ?_
    obtain ⟨xr11, xσ9, xc10, h⟩ := iB h
    refine g_callSi (pc := 13) (As := [.int (xa2), .int (0), .int (999)]) (rest := []) C dX5_when_13 (fun l => c_X5_within l y _ _ _ _ _ _ xc10) cv_X5_70 ⟨rfl, rfl, Nat.le_of_ble_eq_true rfl, Nat.le_of_ble_eq_true rfl⟩ rfl (Nat.le_of_ble_eq_true rfl) ?_
    refine g_if_ne (pc := 16) C dX5_when_16 (tgt := 26) rfl (fun xq12 => ?_) (fun xq12 => ?_)
    · have h := iN xq12 h
      refine g_aload_n (pc := 26) C dX5_when_26 rfl 0 rfl ?_
      refine gf_5_0 (pc := 27) C wf_X5_9 dX5_when_27 xq3 ?_
      refine g_aload_n (pc := 30) C dX5_when_30 rfl 0 rfl ?_
      refine gf_5_2 (pc := 31) C wf_X5_16 dX5_when_31 xq3 ?_
      obtain ⟨xr15, xσ13, xc14, h⟩ := iB h
      refine g_callSv (pc := 34) (As := [.ref (yad y (50)), .ref (yad y (52))]) (rest := []) C dX5_when_34 (fun l => c_X5_copyRow l y _ _ _ _ _ xc14) cv_X5_61 ⟨rfl, rfl, Nat.le_of_ble_eq_true rfl, Nat.le_of_ble_eq_true rfl⟩ rfl (Nat.le_of_ble_eq_true rfl) ?_
      refine g_iconst (v := 0) (pc := 37) C dX5_when_37 ci_0 ?_
      refine g_istore_n (i := 3) (lv' := [(3, .int (0)), (0, .ref (yad y (xa0))), (1, .int (xa1)), (2, .int (xa2))]) (pc := 38) C dX5_when_38 rfl (Nat.le_of_ble_eq_true rfl) rfl ?_
      refine g_sub (lv' := [(0, .ref (yad y (xa0))), (1, .int (xa1)), (2, .int (xa2)), (3, .int (0))]) C [1, 2, 3, 0] rfl ?_
      exact l_X5_when_39 C hr 1000 xa0 xa1 xa2 0 xσ13 h
    · have h := iP xq12 h
      refine g_aload_n (pc := 19) C dX5_when_19 rfl 0 rfl ?_
      refine g_ldc (v := (-1000001)) (pc := 20) C dX5_when_20 wk_X5_60 ?_
      obtain ⟨xr18, xσ16, xc17, h⟩ := iB h
      refine g_callVi (pc := 22) (As := [.int ((-1000001))]) (rest := []) C dX5_when_22 (fun l => c_X5_finding l y _ _ _ _ _ xc17) cv_X5_66 ⟨rfl, rfl, Nat.le_of_ble_eq_true rfl, Nat.le_of_ble_eq_true rfl⟩ (rv5 xq3) rfl (Nat.le_of_ble_eq_true rfl) ?_
      exact rtI hr dX5_when_25 h
theorem c_X5_when (l : Launch) (y : YT) (xa0 : Nat) (xa1 : Int32) (xa2 : Int32) (σ σ' : Sto) (r : Int32) (h : F_X5_when xa0 xa1 xa2 σ = some (r, σ')) : MI l y yX5_when (Cond.code yX5_when cX5_when 4 (some .int) :: TT) rm_X5_when [.ref (yad y (xa0)), .int (xa1), .int (xa2)] σ r σ' :=
  mkI (by decide) rfl rfl rfl (Nat.le_of_ble_eq_true rfl) (fun x Z C hr => b_X5_when_0 C hr xa0 xa1 xa2 σ h)
def rm_X5_broke : Room := { frames := 7, cells := 0, slots := 0, locals := 156 }
def F_X5_broke_b60 (xa0 : Nat) (xa1 : Int32) (xa2 : Int32) (σ : Sto) : Option (Int32 × Sto) := ck (kd (xa0) == 5) (bnd (F_X5_sitterIs (xa0) (xa1) 4 σ) (fun xr4 xσ1 => if xr4 < (xσ1 50 5) then bnd (F_X5_putBack (xa0) (xa2) xσ1) (fun xr8 xσ6 => bnd (F_X5_orNone (xa0) (xr8) xσ6) (fun xr11 xσ9 => some (xr11, xσ9))) else bnd (F_X5_putBack (xa0) (-1) xσ1) (fun xr14 xσ12 => bnd (F_X5_orNone (xa0) (xr14) xσ12) (fun xr17 xσ15 => some (xr17, xσ15)))))
def F_X5_broke_b28 (xk_28 : Nat → Int32 → Int32 → Sto → Option (Int32 × Sto)) (xa0 : Nat) (xa1 : Int32) (xa2 : Int32) (σ : Sto) : Option (Int32 × Sto) := if 200 ≤ xa2 then F_X5_broke_b60 xa0 xa1 xa2 σ else ck (kd (xa0) == 5) (bnd (F_X5_sitterIs (xa0) (xa1) 4 σ) (fun xr5 xσ2 => if xr5 < (xσ2 50 5) then F_X5_broke_b60 xa0 xa1 xa2 xσ2 else bnd (F_X5_minute (xa0) xσ2) (fun xr9 xσ7 => xk_28 xa0 xa1 (xa2 + 1) xσ7)))
def F_X5_broke (xa0 : Nat) (xa1 : Int32) (σ : Sto) : Option (Int32 × Sto) := ck (kd (xa0) == 5) (bnd (F_X5_isSitter (xa0) (xa1) σ) (fun xr4 xσ1 => if (xr4) = 0 then bnd (F_X5_finding (xa0) (-1000001) xσ1) (fun xr11 xσ9 => some (xr11, xσ9)) else bnd (F_X5_copyRow (50) (52) xσ1) (fun xr8 xσ6 => lo3 (F_X5_broke_b28) 1000 xa0 xa1 0 xσ6)))
set_option maxHeartbeats 4000000 in
set_option maxRecDepth 20000 in
theorem b_X5_broke_60 {x : XT} {y : YT} {Z : State → Prop} (C : Cx x y (AY y) RX5 cX5_broke 3 rm_X5_broke) {r : Int32} {σ' : Sto} (hr : RetI x y (AY y) 3 cX5_broke Z r σ') (xa0 : Nat) (xa1 : Int32) (xa2 : Int32) (σ : Sto) (h : F_X5_broke_b60 xa0 xa1 xa2 σ = some (r, σ')) : GW x y (AY y) 3 Z 60 [(0, .ref (yad y (xa0))), (1, .int (xa1)), (2, .int (xa2))] [] σ := by
  unfold F_X5_broke_b60 at h
  refine g_aload_n (pc := 60) C dX5_broke_60 rfl 0 rfl ?_
  refine g_aload_n (pc := 61) C dX5_broke_61 rfl 0 rfl ?_
  refine g_aload_n (pc := 62) C dX5_broke_62 rfl 0 rfl ?_
  refine g_iload_n (pc := 63) C dX5_broke_63 rfl 1 rfl ?_
  refine g_iconst (v := 4) (pc := 64) C dX5_broke_64 ci_4 ?_
  obtain ⟨xq3, h⟩ := iC h
  have xq3 := keq xq3
  obtain ⟨xr4, xσ1, xc2, h⟩ := iB h
  refine g_callVi (pc := 65) (As := [.int (xa1), .int (4)]) (rest := [.ref (yad y (xa0)), .ref (yad y (xa0))]) C dX5_broke_65 (fun l => c_X5_sitterIs l y _ _ _ _ _ _ xc2) cv_X5_104 ⟨rfl, rfl, Nat.le_of_ble_eq_true rfl, Nat.le_of_ble_eq_true rfl⟩ (rv5 xq3) rfl (Nat.le_of_ble_eq_true rfl) ?_
  refine g_aload_n (pc := 68) C dX5_broke_68 rfl 0 rfl ?_
  refine gf_5_0 (pc := 69) C wf_X5_9 dX5_broke_69 xq3 ?_
  refine g_iconst (v := 5) (pc := 72) C dX5_broke_72 ci_5 ?_
  refine g_iald (pc := 73) C dX5_broke_73 rfl (ivp (by decide) rfl) (j := 5) ct_5 ?_
  refine g_icmp_lt (pc := 74) C dX5_broke_74 (tgt := 81) rfl (fun xq5 => ?_) (fun xq5 => ?_)
  · have h := iP xq5 h
    refine g_iload_n (pc := 81) C dX5_broke_81 rfl 2 rfl ?_
    obtain ⟨xr8, xσ6, xc7, h⟩ := iB h
    refine g_callVi (pc := 82) (As := [.int (xa2)]) (rest := [.ref (yad y (xa0))]) C dX5_broke_82 (fun l => c_X5_putBack l y _ _ _ _ _ xc7) cv_X5_175 ⟨rfl, rfl, Nat.le_of_ble_eq_true rfl, Nat.le_of_ble_eq_true rfl⟩ (rv5 xq3) rfl (Nat.le_of_ble_eq_true rfl) ?_
    obtain ⟨xr11, xσ9, xc10, h⟩ := iB h
    refine g_callVi (pc := 85) (As := [.int (xr8)]) (rest := []) C dX5_broke_85 (fun l => c_X5_orNone l y _ _ _ _ _ xc10) cv_X5_181 ⟨rfl, rfl, Nat.le_of_ble_eq_true rfl, Nat.le_of_ble_eq_true rfl⟩ (rv5 xq3) rfl (Nat.le_of_ble_eq_true rfl) ?_
    exact rtI hr dX5_broke_88 h
  · have h := iN xq5 h
    refine g_iconst (v := (-1)) (pc := 77) C dX5_broke_77 ci_m1 ?_
    refine g_goto (pc := 78) C dX5_broke_78 (tgt := 82) rfl ?_
    obtain ⟨xr14, xσ12, xc13, h⟩ := iB h
    refine g_callVi (pc := 82) (As := [.int ((-1))]) (rest := [.ref (yad y (xa0))]) C dX5_broke_82 (fun l => c_X5_putBack l y _ _ _ _ _ xc13) cv_X5_175 ⟨rfl, rfl, Nat.le_of_ble_eq_true rfl, Nat.le_of_ble_eq_true rfl⟩ (rv5 xq3) rfl (Nat.le_of_ble_eq_true rfl) ?_
    obtain ⟨xr17, xσ15, xc16, h⟩ := iB h
    refine g_callVi (pc := 85) (As := [.int (xr14)]) (rest := []) C dX5_broke_85 (fun l => c_X5_orNone l y _ _ _ _ _ xc16) cv_X5_181 ⟨rfl, rfl, Nat.le_of_ble_eq_true rfl, Nat.le_of_ble_eq_true rfl⟩ (rv5 xq3) rfl (Nat.le_of_ble_eq_true rfl) ?_
    exact rtI hr dX5_broke_88 h
set_option maxHeartbeats 4000000 in
set_option maxRecDepth 20000 in
theorem b_X5_broke_28 {x : XT} {y : YT} {Z : State → Prop} (C : Cx x y (AY y) RX5 cX5_broke 3 rm_X5_broke) {r : Int32} {σ' : Sto} (hr : RetI x y (AY y) 3 cX5_broke Z r σ') (xk_28 : Nat → Int32 → Int32 → Sto → Option (Int32 × Sto)) (xH28 : ∀ (xa0 : Nat) (xa1 : Int32) (xa2 : Int32) (σ : Sto), xk_28 xa0 xa1 xa2 σ = some (r, σ') → GW x y (AY y) 3 Z 28 [(0, .ref (yad y (xa0))), (1, .int (xa1)), (2, .int (xa2))] [] σ) (xa0 : Nat) (xa1 : Int32) (xa2 : Int32) (σ : Sto) (h : F_X5_broke_b28 xk_28 xa0 xa1 xa2 σ = some (r, σ')) : GW x y (AY y) 3 Z 28 [(0, .ref (yad y (xa0))), (1, .int (xa1)), (2, .int (xa2))] [] σ := by
  unfold F_X5_broke_b28 at h
  refine g_iload_n (pc := 28) C dX5_broke_28 rfl 2 rfl ?_
  refine g_sipush (v := 200) (pc := 29) C dX5_broke_29 cs_200 ?_
  refine g_icmp_ge (pc := 32) C dX5_broke_32 (tgt := 60) rfl (fun xq1 => ?_) (fun xq1 => ?_)
  · have h := iP xq1 h
    exact b_X5_broke_60 C hr xa0 xa1 xa2 σ h
  · have h := iN xq1 h
    refine g_aload_n (pc := 35) C dX5_broke_35 rfl 0 rfl ?_
    refine g_iload_n (pc := 36) C dX5_broke_36 rfl 1 rfl ?_
    refine g_iconst (v := 4) (pc := 37) C dX5_broke_37 ci_4 ?_
    obtain ⟨xq4, h⟩ := iC h
    have xq4 := keq xq4
    obtain ⟨xr5, xσ2, xc3, h⟩ := iB h
    refine g_callVi (pc := 38) (As := [.int (xa1), .int (4)]) (rest := []) C dX5_broke_38 (fun l => c_X5_sitterIs l y _ _ _ _ _ _ xc3) cv_X5_104 ⟨rfl, rfl, Nat.le_of_ble_eq_true rfl, Nat.le_of_ble_eq_true rfl⟩ (rv5 xq4) rfl (Nat.le_of_ble_eq_true rfl) ?_
    refine g_aload_n (pc := 41) C dX5_broke_41 rfl 0 rfl ?_
    refine gf_5_0 (pc := 42) C wf_X5_9 dX5_broke_42 xq4 ?_
    refine g_iconst (v := 5) (pc := 45) C dX5_broke_45 ci_5 ?_
    refine g_iald (pc := 46) C dX5_broke_46 rfl (ivp (by decide) rfl) (j := 5) ct_5 ?_
    refine g_icmp_lt (pc := 47) C dX5_broke_47 (tgt := 60) rfl (fun xq6 => ?_) (fun xq6 => ?_)
    · have h := iP xq6 h
      exact b_X5_broke_60 C hr xa0 xa1 xa2 xσ2 h
    · have h := iN xq6 h
      refine g_aload_n (pc := 50) C dX5_broke_50 rfl 0 rfl ?_
      obtain ⟨xr9, xσ7, xc8, h⟩ := iB h
      refine g_callVv (pc := 51) (As := []) (rest := []) C dX5_broke_51 (fun l => c_X5_minute l y _ _ _ _ xc8) cv_X5_159 ⟨rfl, rfl, Nat.le_of_ble_eq_true rfl, Nat.le_of_ble_eq_true rfl⟩ (rv5 xq4) rfl (Nat.le_of_ble_eq_true rfl) ?_
      refine g_iinc (lv' := [(2, .int (xa2 + 1)), (0, .ref (yad y (xa0))), (1, .int (xa1))]) (w := xa2 + 1) (pc := 54) C dX5_broke_54 (k := 2) rfl rfl (Nat.le_of_ble_eq_true rfl) rfl ?_
      refine g_goto (pc := 57) C dX5_broke_57 (tgt := 28) rfl ?_
      refine g_sub (lv' := [(0, .ref (yad y (xa0))), (1, .int (xa1)), (2, .int (xa2 + 1))]) C [1, 2, 0] rfl ?_
      exact xH28 xa0 xa1 (xa2 + 1) xσ7 h
theorem l_X5_broke_28 {x : XT} {y : YT} {Z : State → Prop} (C : Cx x y (AY y) RX5 cX5_broke 3 rm_X5_broke) {r : Int32} {σ' : Sto} (hr : RetI x y (AY y) 3 cX5_broke Z r σ') (n : Nat) (xa0 : Nat) (xa1 : Int32) (xa2 : Int32) (σ : Sto) (h : lo3 (F_X5_broke_b28) n xa0 xa1 xa2 σ = some (r, σ')) : GW x y (AY y) 3 Z 28 [(0, .ref (yad y (xa0))), (1, .int (xa1)), (2, .int (xa2))] [] σ :=
  lo3_gw (G := fun xa0 xa1 xa2 σ => GW x y (AY y) 3 Z 28 [(0, .ref (yad y (xa0))), (1, .int (xa1)), (2, .int (xa2))] [] σ) (fun xk xHk xa0 xa1 xa2 σ h => b_X5_broke_28 C hr xk xHk xa0 xa1 xa2 σ h) n xa0 xa1 xa2 σ h
set_option maxHeartbeats 4000000 in
set_option maxRecDepth 20000 in
theorem b_X5_broke_0 {x : XT} {y : YT} {Z : State → Prop} (C : Cx x y (AY y) RX5 cX5_broke 3 rm_X5_broke) {r : Int32} {σ' : Sto} (hr : RetI x y (AY y) 3 cX5_broke Z r σ') (xa0 : Nat) (xa1 : Int32) (σ : Sto) (h : F_X5_broke xa0 xa1 σ = some (r, σ')) : GW x y (AY y) 3 Z 0 [(0, .ref (yad y (xa0))), (1, .int (xa1))] [] σ := by
  unfold F_X5_broke at h
  refine g_aload_n (pc := 0) C dX5_broke_0 rfl 0 rfl ?_
  refine g_iload_n (pc := 1) C dX5_broke_1 rfl 1 rfl ?_
  obtain ⟨xq3, h⟩ := iC h
  have xq3 := keq xq3
  obtain ⟨xr4, xσ1, xc2, h⟩ := iB h
  refine g_callVi (pc := 2) (As := [.int (xa1)]) (rest := []) C dX5_broke_2 (fun l => c_X5_isSitter l y _ _ _ _ _ xc2) cv_X5_83 ⟨rfl, rfl, Nat.le_of_ble_eq_true rfl, Nat.le_of_ble_eq_true rfl⟩ (rv5 xq3) rfl (Nat.le_of_ble_eq_true rfl) ?_
  refine g_if_ne (pc := 5) C dX5_broke_5 (tgt := 15) rfl (fun xq5 => ?_) (fun xq5 => ?_)
  · have h := iN xq5 h
    refine g_aload_n (pc := 15) C dX5_broke_15 rfl 0 rfl ?_
    refine gf_5_0 (pc := 16) C wf_X5_9 dX5_broke_16 xq3 ?_
    refine g_aload_n (pc := 19) C dX5_broke_19 rfl 0 rfl ?_
    refine gf_5_2 (pc := 20) C wf_X5_16 dX5_broke_20 xq3 ?_
    obtain ⟨xr8, xσ6, xc7, h⟩ := iB h
    refine g_callSv (pc := 23) (As := [.ref (yad y (50)), .ref (yad y (52))]) (rest := []) C dX5_broke_23 (fun l => c_X5_copyRow l y _ _ _ _ _ xc7) cv_X5_61 ⟨rfl, rfl, Nat.le_of_ble_eq_true rfl, Nat.le_of_ble_eq_true rfl⟩ rfl (Nat.le_of_ble_eq_true rfl) ?_
    refine g_iconst (v := 0) (pc := 26) C dX5_broke_26 ci_0 ?_
    refine g_istore_n (i := 2) (lv' := [(2, .int (0)), (0, .ref (yad y (xa0))), (1, .int (xa1))]) (pc := 27) C dX5_broke_27 rfl (Nat.le_of_ble_eq_true rfl) rfl ?_
    refine g_sub (lv' := [(0, .ref (yad y (xa0))), (1, .int (xa1)), (2, .int (0))]) C [1, 2, 0] rfl ?_
    exact l_X5_broke_28 C hr 1000 xa0 xa1 0 xσ6 h
  · have h := iP xq5 h
    refine g_aload_n (pc := 8) C dX5_broke_8 rfl 0 rfl ?_
    refine g_ldc (v := (-1000001)) (pc := 9) C dX5_broke_9 wk_X5_60 ?_
    obtain ⟨xr11, xσ9, xc10, h⟩ := iB h
    refine g_callVi (pc := 11) (As := [.int ((-1000001))]) (rest := []) C dX5_broke_11 (fun l => c_X5_finding l y _ _ _ _ _ xc10) cv_X5_66 ⟨rfl, rfl, Nat.le_of_ble_eq_true rfl, Nat.le_of_ble_eq_true rfl⟩ (rv5 xq3) rfl (Nat.le_of_ble_eq_true rfl) ?_
    exact rtI hr dX5_broke_14 h
theorem c_X5_broke (l : Launch) (y : YT) (xa0 : Nat) (xa1 : Int32) (σ σ' : Sto) (r : Int32) (h : F_X5_broke xa0 xa1 σ = some (r, σ')) : MI l y yX5_broke (Cond.code yX5_broke cX5_broke 3 (some .int) :: TT) rm_X5_broke [.ref (yad y (xa0)), .int (xa1)] σ r σ' :=
  mkI (by decide) rfl rfl rfl (Nat.le_of_ble_eq_true rfl) (fun x Z C hr => b_X5_broke_0 C hr xa0 xa1 σ h)
def rm_X5_areAllTaken : Room := { frames := 2, cells := 0, slots := 0, locals := 43 }
def F_X5_areAllTaken_b4 (xk_4 : Nat → Int32 → Int32 → Sto → Option (Int32 × Sto)) (xa0 : Nat) (xa1 : Int32) (xa2 : Int32) (σ : Sto) : Option (Int32 × Sto) := ck (kd (xa0) == 5) (if (σ 50 1) ≤ xa2 then ck (z01 (xa1)) (some (xa1, σ)) else if (xa1) = 0 then xk_4 xa0 0 (xa2 + 1) σ else bnd (F_X5_sitterIs (xa0) (xa2) 5 σ) (fun xr6 xσ4 => if (xr6) ≤ 0 then xk_4 xa0 0 (xa2 + 1) xσ4 else xk_4 xa0 1 (xa2 + 1) xσ4))
def F_X5_areAllTaken (xa0 : Nat) (σ : Sto) : Option (Int32 × Sto) := lo3 (F_X5_areAllTaken_b4) 1000 xa0 1 0 σ
set_option maxHeartbeats 4000000 in
set_option maxRecDepth 20000 in
theorem b_X5_areAllTaken_4 {x : XT} {y : YT} {Z : State → Prop} (C : Cx x y (AY y) RX5 cX5_areAllTaken 3 rm_X5_areAllTaken) {r : Int32} {σ' : Sto} (hr : RetZ x y (AY y) 3 cX5_areAllTaken Z r σ') (xk_4 : Nat → Int32 → Int32 → Sto → Option (Int32 × Sto)) (xH4 : ∀ (xa0 : Nat) (xa1 : Int32) (xa2 : Int32) (σ : Sto), xk_4 xa0 xa1 xa2 σ = some (r, σ') → GW x y (AY y) 3 Z 4 [(0, .ref (yad y (xa0))), (1, .int (xa1)), (2, .int (xa2))] [] σ) (xa0 : Nat) (xa1 : Int32) (xa2 : Int32) (σ : Sto) (h : F_X5_areAllTaken_b4 xk_4 xa0 xa1 xa2 σ = some (r, σ')) : GW x y (AY y) 3 Z 4 [(0, .ref (yad y (xa0))), (1, .int (xa1)), (2, .int (xa2))] [] σ := by
  unfold F_X5_areAllTaken_b4 at h
  refine g_iload_n (pc := 4) C dX5_areAllTaken_4 rfl 2 rfl ?_
  refine g_aload_n (pc := 5) C dX5_areAllTaken_5 rfl 0 rfl ?_
  obtain ⟨xq1, h⟩ := iC h
  have xq1 := keq xq1
  refine gf_5_0 (pc := 6) C wf_X5_9 dX5_areAllTaken_6 xq1 ?_
  refine g_iconst (v := 1) (pc := 9) C dX5_areAllTaken_9 ci_1 ?_
  refine g_iald (pc := 10) C dX5_areAllTaken_10 rfl (ivp (by decide) rfl) (j := 1) ct_1 ?_
  refine g_icmp_ge (pc := 11) C dX5_areAllTaken_11 (tgt := 39) rfl (fun xq2 => ?_) (fun xq2 => ?_)
  · have h := iP xq2 h
    refine g_iload_n (pc := 39) C dX5_areAllTaken_39 rfl 1 rfl ?_
    obtain ⟨xz, h⟩ := iC h
    exact rtZ hr dX5_areAllTaken_40 (z01_or xz) h
  · have h := iN xq2 h
    refine g_iload_n (pc := 14) C dX5_areAllTaken_14 rfl 1 rfl ?_
    refine g_if_eq (pc := 15) C dX5_areAllTaken_15 (tgt := 31) rfl (fun xq3 => ?_) (fun xq3 => ?_)
    · have h := iP xq3 h
      refine g_iconst (v := 0) (pc := 31) C dX5_areAllTaken_31 ci_0 ?_
      refine g_istore_n (i := 1) (lv' := [(1, .int (0)), (0, .ref (yad y (xa0))), (2, .int (xa2))]) (pc := 32) C dX5_areAllTaken_32 rfl (Nat.le_of_ble_eq_true rfl) rfl ?_
      refine g_iinc (lv' := [(2, .int (xa2 + 1)), (1, .int (0)), (0, .ref (yad y (xa0)))]) (w := xa2 + 1) (pc := 33) C dX5_areAllTaken_33 (k := 2) rfl rfl (Nat.le_of_ble_eq_true rfl) rfl ?_
      refine g_goto (pc := 36) C dX5_areAllTaken_36 (tgt := 4) rfl ?_
      refine g_sub (lv' := [(0, .ref (yad y (xa0))), (1, .int (0)), (2, .int (xa2 + 1))]) C [2, 1, 0] rfl ?_
      exact xH4 xa0 0 (xa2 + 1) σ h
    · have h := iN xq3 h
      refine g_aload_n (pc := 18) C dX5_areAllTaken_18 rfl 0 rfl ?_
      refine g_iload_n (pc := 19) C dX5_areAllTaken_19 rfl 2 rfl ?_
      refine g_iconst (v := 5) (pc := 20) C dX5_areAllTaken_20 ci_5 ?_
      obtain ⟨xr6, xσ4, xc5, h⟩ := iB h
      refine g_callVi (pc := 21) (As := [.int (xa2), .int (5)]) (rest := []) C dX5_areAllTaken_21 (fun l => c_X5_sitterIs l y _ _ _ _ _ _ xc5) cv_X5_104 ⟨rfl, rfl, Nat.le_of_ble_eq_true rfl, Nat.le_of_ble_eq_true rfl⟩ (rv5 xq1) rfl (Nat.le_of_ble_eq_true rfl) ?_
      refine g_if_le (pc := 24) C dX5_areAllTaken_24 (tgt := 31) rfl (fun xq7 => ?_) (fun xq7 => ?_)
      · have h := iP xq7 h
        refine g_iconst (v := 0) (pc := 31) C dX5_areAllTaken_31 ci_0 ?_
        refine g_istore_n (i := 1) (lv' := [(1, .int (0)), (0, .ref (yad y (xa0))), (2, .int (xa2))]) (pc := 32) C dX5_areAllTaken_32 rfl (Nat.le_of_ble_eq_true rfl) rfl ?_
        refine g_iinc (lv' := [(2, .int (xa2 + 1)), (1, .int (0)), (0, .ref (yad y (xa0)))]) (w := xa2 + 1) (pc := 33) C dX5_areAllTaken_33 (k := 2) rfl rfl (Nat.le_of_ble_eq_true rfl) rfl ?_
        refine g_goto (pc := 36) C dX5_areAllTaken_36 (tgt := 4) rfl ?_
        refine g_sub (lv' := [(0, .ref (yad y (xa0))), (1, .int (0)), (2, .int (xa2 + 1))]) C [2, 1, 0] rfl ?_
        exact xH4 xa0 0 (xa2 + 1) xσ4 h
      · have h := iN xq7 h
        refine g_iconst (v := 1) (pc := 27) C dX5_areAllTaken_27 ci_1 ?_
        refine g_goto (pc := 28) C dX5_areAllTaken_28 (tgt := 32) rfl ?_
        refine g_istore_n (i := 1) (lv' := [(1, .int (1)), (0, .ref (yad y (xa0))), (2, .int (xa2))]) (pc := 32) C dX5_areAllTaken_32 rfl (Nat.le_of_ble_eq_true rfl) rfl ?_
        refine g_iinc (lv' := [(2, .int (xa2 + 1)), (1, .int (1)), (0, .ref (yad y (xa0)))]) (w := xa2 + 1) (pc := 33) C dX5_areAllTaken_33 (k := 2) rfl rfl (Nat.le_of_ble_eq_true rfl) rfl ?_
        refine g_goto (pc := 36) C dX5_areAllTaken_36 (tgt := 4) rfl ?_
        refine g_sub (lv' := [(0, .ref (yad y (xa0))), (1, .int (1)), (2, .int (xa2 + 1))]) C [2, 1, 0] rfl ?_
        exact xH4 xa0 1 (xa2 + 1) xσ4 h
theorem l_X5_areAllTaken_4 {x : XT} {y : YT} {Z : State → Prop} (C : Cx x y (AY y) RX5 cX5_areAllTaken 3 rm_X5_areAllTaken) {r : Int32} {σ' : Sto} (hr : RetZ x y (AY y) 3 cX5_areAllTaken Z r σ') (n : Nat) (xa0 : Nat) (xa1 : Int32) (xa2 : Int32) (σ : Sto) (h : lo3 (F_X5_areAllTaken_b4) n xa0 xa1 xa2 σ = some (r, σ')) : GW x y (AY y) 3 Z 4 [(0, .ref (yad y (xa0))), (1, .int (xa1)), (2, .int (xa2))] [] σ :=
  lo3_gw (G := fun xa0 xa1 xa2 σ => GW x y (AY y) 3 Z 4 [(0, .ref (yad y (xa0))), (1, .int (xa1)), (2, .int (xa2))] [] σ) (fun xk xHk xa0 xa1 xa2 σ h => b_X5_areAllTaken_4 C hr xk xHk xa0 xa1 xa2 σ h) n xa0 xa1 xa2 σ h
set_option maxHeartbeats 4000000 in
set_option maxRecDepth 20000 in
theorem b_X5_areAllTaken_0 {x : XT} {y : YT} {Z : State → Prop} (C : Cx x y (AY y) RX5 cX5_areAllTaken 3 rm_X5_areAllTaken) {r : Int32} {σ' : Sto} (hr : RetZ x y (AY y) 3 cX5_areAllTaken Z r σ') (xa0 : Nat) (σ : Sto) (h : F_X5_areAllTaken xa0 σ = some (r, σ')) : GW x y (AY y) 3 Z 0 [(0, .ref (yad y (xa0)))] [] σ := by
  unfold F_X5_areAllTaken at h
  refine g_iconst (v := 1) (pc := 0) C dX5_areAllTaken_0 ci_1 ?_
  refine g_istore_n (i := 1) (lv' := [(1, .int (1)), (0, .ref (yad y (xa0)))]) (pc := 1) C dX5_areAllTaken_1 rfl (Nat.le_of_ble_eq_true rfl) rfl ?_
  refine g_iconst (v := 0) (pc := 2) C dX5_areAllTaken_2 ci_0 ?_
  refine g_istore_n (i := 2) (lv' := [(2, .int (0)), (1, .int (1)), (0, .ref (yad y (xa0)))]) (pc := 3) C dX5_areAllTaken_3 rfl (Nat.le_of_ble_eq_true rfl) rfl ?_
  refine g_sub (lv' := [(0, .ref (yad y (xa0))), (1, .int (1)), (2, .int (0))]) C [2, 1, 0] rfl ?_
  exact l_X5_areAllTaken_4 C hr 1000 xa0 1 0 σ h
theorem c_X5_areAllTaken (l : Launch) (y : YT) (xa0 : Nat) (σ σ' : Sto) (r : Int32) (h : F_X5_areAllTaken xa0 σ = some (r, σ')) : MI l y yX5_areAllTaken (Cond.code yX5_areAllTaken cX5_areAllTaken 3 (some .boolean) :: TT) rm_X5_areAllTaken [.ref (yad y (xa0))] σ r σ' :=
  mkZ (by decide) rfl rfl rfl (Nat.le_of_ble_eq_true rfl) (fun x Z C hr => b_X5_areAllTaken_0 C hr xa0 σ h)

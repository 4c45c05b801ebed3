/-! methods, by program: what each does to the store (F_), its walk (b_), its contract (c_): X5_finding, X5_within, X5_become, X5_copyRow, X5_putBack, X5_orNone, X5_bits, X5_hasBit, X5_isSet, X5_set, X5_booth, X5_isPlace, X5_isSitter, X5_isInQueue, X5_queue, X5_place, X5_isKind, X5_sitterAt, X5_sitterIs, X5_comes, X5_sitter, X5_off, X5_may, X5_isShut -/
def rm_X5_finding : Room := { frames := 0, cells := 0, slots := 0, locals := 0 }
def F_X5_finding (xa0 : Nat) (xa1 : Int32) (σ : Sto) : Option (Int32 × Sto) := ck (kd (xa0) == 5) (ck (inr (((-1000001) - xa1) + 1) (8)) (ck (inr (((-1000001) - xa1) + 1) (8)) (lts (up2 σ 53 ((((-1000001) - xa1) + 1 : Int32).toNatClampNeg) ((σ 53 ((((-1000001) - xa1) + 1 : Int32).toNatClampNeg)) + 1)) (fun xσ4 => lts (up2 xσ4 53 0 ((xσ4 53 0) + 1)) (fun xσ5 => some (xa1, xσ5))))))
set_option maxHeartbeats 4000000 in
set_option maxRecDepth 20000 in
theorem b_X5_finding_0 {x : XT} {y : YT} {Z : State → Prop} (C : Cx x y (AY y) RX5 cX5_finding 2 rm_X5_finding) {r : Int32} {σ' : Sto} (hr : RetI x y (AY y) 2 cX5_finding Z r σ') (xa0 : Nat) (xa1 : Int32) (σ : Sto) (h : F_X5_finding xa0 xa1 σ = some (r, σ')) : GW x y (AY y) 2 Z 0 [(0, .ref (yad y (xa0))), (1, .int (xa1))] [] σ := by
  unfold F_X5_finding at h
  refine g_aload_n (pc := 0) C dX5_finding_0 rfl 0 rfl ?_
  obtain ⟨xq1, h⟩ := iC h
  have xq1 := keq xq1
  refine gf_5_4 (pc := 1) C wf_X5_19 dX5_finding_1 xq1 ?_
  refine g_ldc (v := (-1000001)) (pc := 4) C dX5_finding_4 wk_X5_60 ?_
  refine g_iload_n (pc := 6) C dX5_finding_6 rfl 1 rfl ?_
  refine g_isub (pc := 7) C dX5_finding_7 ?_
  refine g_iconst (v := 1) (pc := 8) C dX5_finding_8 ci_1 ?_
  refine g_iadd (pc := 9) C dX5_finding_9 ?_
  refine g_dup2 (pc := 10) C dX5_finding_10 rfl rfl ?_
  obtain ⟨xq2, h⟩ := iC h
  refine g_iald (pc := 11) C dX5_finding_11 rfl (ivp xq2 rfl) (j := (((-1000001) - xa1) + 1 : Int32).toNatClampNeg) rfl ?_
  refine g_iconst (v := 1) (pc := 12) C dX5_finding_12 ci_1 ?_
  refine g_iadd (pc := 13) C dX5_finding_13 ?_
  obtain ⟨xq3, h⟩ := iC h
  refine g_iast (pc := 14) C dX5_finding_14 rfl (ivp xq3 rfl) (j := (((-1000001) - xa1) + 1 : Int32).toNatClampNeg) rfl ?_
  refine g_letS h (fun xσ4 h => ?_)
  refine g_aload_n (pc := 15) C dX5_finding_15 rfl 0 rfl ?_
  refine gf_5_4 (pc := 16) C wf_X5_19 dX5_finding_16 xq1 ?_
  refine g_iconst (v := 0) (pc := 19) C dX5_finding_19 ci_0 ?_
  refine g_dup2 (pc := 20) C dX5_finding_20 rfl rfl ?_
  refine g_iald (pc := 21) C dX5_finding_21 rfl (ivp (by decide) rfl) (j := 0) ct_0 ?_
  refine g_iconst (v := 1) (pc := 22) C dX5_finding_22 ci_1 ?_
  refine g_iadd (pc := 23) C dX5_finding_23 ?_
  refine g_iast (pc := 24) C dX5_finding_24 rfl (ivp (by decide) rfl) (j := 0) ct_0 ?_
  refine g_letS h (fun xσ5 h => ?_)
  refine g_iload_n (pc := 25) C dX5_finding_25 rfl 1 rfl ?_
  exact rtI hr dX5_finding_26 h
theorem c_X5_finding (l : Launch) (y : YT) (xa0 : Nat) (xa1 : Int32) (σ σ' : Sto) (r : Int32) (h : F_X5_finding xa0 xa1 σ = some (r, σ')) : MI l y yX5_finding (Cond.code yX5_finding cX5_finding 2 (some .int) :: TT) rm_X5_finding [.ref (yad y (xa0)), .int (xa1)] σ r σ' :=
  mkI (by decide) rfl rfl rfl (Nat.le_of_ble_eq_true rfl) (fun x Z C hr => b_X5_finding_0 C hr xa0 xa1 σ h)
def rm_X5_within : Room := { frames := 0, cells := 0, slots := 0, locals := 0 }
def F_X5_within (xa0 : Int32) (xa1 : Int32) (xa2 : Int32) (σ : Sto) : Option (Int32 × Sto) := if xa0 < xa1 then some (0, σ) else if xa2 < xa0 then some (0, σ) else some (1, σ)
set_option maxHeartbeats 4000000 in
set_option maxRecDepth 20000 in
theorem b_X5_within_0 {x : XT} {y : YT} {Z : State → Prop} (C : Cx x y (AY y) RX5 cX5_within 3 rm_X5_within) {r : Int32} {σ' : Sto} (hr : RetZ x y (AY y) 3 cX5_within Z r σ') (xa0 : Int32) (xa1 : Int32) (xa2 : Int32) (σ : Sto) (h : F_X5_within xa0 xa1 xa2 σ = some (r, σ')) : GW x y (AY y) 3 Z 0 [(0, .int (xa0)), (1, .int (xa1)), (2, .int (xa2))] [] σ := by
  unfold F_X5_within at h
  refine g_iload_n (pc := 0) C dX5_within_0 rfl 0 rfl ?_
  refine g_iload_n (pc := 1) C dX5_within_1 rfl 1 rfl ?_
  refine g_icmp_lt (pc := 2) C dX5_within_2 (tgt := 14) rfl (fun xq1 => ?_) (fun xq1 => ?_)
  · have h := iP xq1 h
    refine g_iconst (v := 0) (pc := 14) C dX5_within_14 ci_0 ?_
    exact rtZ hr dX5_within_15 (by decide) h
  · have h := iN xq1 h
    refine g_iload_n (pc := 5) C dX5_within_5 rfl 0 rfl ?_
    refine g_iload_n (pc := 6) C dX5_within_6 rfl 2 rfl ?_
    refine g_icmp_gt (pc := 7) C dX5_within_7 (tgt := 14) rfl (fun xq2 => ?_) (fun xq2 => ?_)
    · have h := iP xq2 h
      refine g_iconst (v := 0) (pc := 14) C dX5_within_14 ci_0 ?_
      exact rtZ hr dX5_within_15 (by decide) h
    · have h := iN xq2 h
      refine g_iconst (v := 1) (pc := 10) C dX5_within_10 ci_1 ?_
      refine g_goto (pc := 11) C dX5_within_11 (tgt := 15) rfl ?_
      exact rtZ hr dX5_within_15 (by decide) h
theorem c_X5_within (l : Launch) (y : YT) (xa0 : Int32) (xa1 : Int32) (xa2 : Int32) (σ σ' : Sto) (r : Int32) (h : F_X5_within xa0 xa1 xa2 σ = some (r, σ')) : MI l y yX5_within (Cond.code yX5_within cX5_within 3 (some .boolean) :: TT) rm_X5_within [.int (xa0), .int (xa1), .int (xa2)] σ r σ' :=
  mkZ (by decide) rfl rfl rfl (Nat.le_of_ble_eq_true rfl) (fun x Z C hr => b_X5_within_0 C hr xa0 xa1 xa2 σ h)
def rm_X5_become : Room := { frames := 0, cells := 0, slots := 0, locals := 0 }
def F_X5_become (xa0 : Nat) (xa1 : Int32) (xa2 : Int32) (σ : Sto) : Option (Int32 × Sto) := ck (kd (xa0) == 5) (ck (inr (xa1) (79)) (lti (σ 50 (xa1.toNatClampNeg)) (fun xv3 => ck (inr (xa1) (79)) (lts (up2 σ 50 (xa1.toNatClampNeg) (xa2)) (fun xσ5 => some (xv3, xσ5))))))
set_option maxHeartbeats 4000000 in
set_option maxRecDepth 20000 in
theorem b_X5_become_0 {x : XT} {y : YT} {Z : State → Prop} (C : Cx x y (AY y) RX5 cX5_become 4 rm_X5_become) {r : Int32} {σ' : Sto} (hr : RetI x y (AY y) 4 cX5_become Z r σ') (xa0 : Nat) (xa1 : Int32) (xa2 : Int32) (σ : Sto) (h : F_X5_become xa0 xa1 xa2 σ = some (r, σ')) : GW x y (AY y) 4 Z 0 [(0, .ref (yad y (xa0))), (1, .int (xa1)), (2, .int (xa2))] [] σ := by
  unfold F_X5_become at h
  refine g_aload_n (pc := 0) C dX5_become_0 rfl 0 rfl ?_
  obtain ⟨xq1, h⟩ := iC h
  have xq1 := keq xq1
  refine gf_5_0 (pc := 1) C wf_X5_9 dX5_become_1 xq1 ?_
  refine g_iload_n (pc := 4) C dX5_become_4 rfl 1 rfl ?_
  obtain ⟨xq2, h⟩ := iC h
  refine g_iald (pc := 5) C dX5_become_5 rfl (ivp xq2 rfl) (j := xa1.toNatClampNeg) rfl ?_
  refine g_letI h (fun xv3 h => ?_)
  refine g_istore_n (i := 3) (lv' := [(3, .int (xv3)), (0, .ref (yad y (xa0))), (1, .int (xa1)), (2, .int (xa2))]) (pc := 6) C dX5_become_6 rfl (Nat.le_of_ble_eq_true rfl) rfl ?_
  refine g_aload_n (pc := 7) C dX5_become_7 rfl 1 rfl ?_
  refine gf_5_0 (pc := 8) C wf_X5_9 dX5_become_8 xq1 ?_
  refine g_iload_n (pc := 11) C dX5_become_11 rfl 2 rfl ?_
  refine g_iload_n (pc := 12) C dX5_become_12 rfl 3 rfl ?_
  obtain ⟨xq4, h⟩ := iC h
  refine g_iast (pc := 13) C dX5_become_13 rfl (ivp xq4 rfl) (j := xa1.toNatClampNeg) rfl ?_
  refine g_letS h (fun xσ5 h => ?_)
  refine g_iload_n (pc := 14) C dX5_become_14 rfl 0 rfl ?_
  exact rtI hr dX5_become_15 h
theorem c_X5_become (l : Launch) (y : YT) (xa0 : Nat) (xa1 : Int32) (xa2 : Int32) (σ σ' : Sto) (r : Int32) (h : F_X5_become xa0 xa1 xa2 σ = some (r, σ')) : MI l y yX5_become (Cond.code yX5_become cX5_become 4 (some .int) :: TT) rm_X5_become [.ref (yad y (xa0)), .int (xa1), .int (xa2)] σ r σ' :=
  mkI (by decide) rfl rfl rfl (Nat.le_of_ble_eq_true rfl) (fun x Z C hr => b_X5_become_0 C hr xa0 xa1 xa2 σ h)
def rm_X5_copyRow : Room := { frames := 0, cells := 0, slots := 0, locals := 0 }
def F_X5_copyRow_b2 (xk_2 : Nat → Nat → Int32 → Sto → Option (Unit × Sto)) (xa0 : Nat) (xa1 : Nat) (xa2 : Int32) (σ : Sto) : Option (Unit × Sto) := if 79 ≤ xa2 then some ((), σ) else ck (kd (xa0) == 6) (ck (inr (xa2) (ln (xa0))) (ck (kd (xa1) == 6) (ck (inr (xa2) (ln (xa1))) (lts (up2 σ xa1 (xa2.toNatClampNeg) (σ xa0 (xa2.toNatClampNeg))) (fun xσ6 => xk_2 xa0 xa1 (xa2 + 1) xσ6)))))
def F_X5_copyRow (xa0 : Nat) (xa1 : Nat) (σ : Sto) : Option (Unit × Sto) := lo3 (F_X5_copyRow_b2) 1000 xa0 xa1 0 σ
set_option maxHeartbeats 4000000 in
set_option maxRecDepth 20000 in
theorem b_X5_copyRow_2 {x : XT} {y : YT} {Z : State → Prop} (C : Cx x y (AY y) RX5 cX5_copyRow 3 rm_X5_copyRow) {r : Unit} {σ' : Sto} (hr : RetV x y (AY y) 3 cX5_copyRow Z r σ') (xk_2 : Nat → Nat → Int32 → Sto → Option (Unit × Sto)) (xH2 : ∀ (xa0 : Nat) (xa1 : Nat) (xa2 : Int32) (σ : Sto), xk_2 xa0 xa1 xa2 σ = some (r, σ') → GW x y (AY y) 3 Z 2 [(0, .ref (yad y (xa0))), (1, .ref (yad y (xa1))), (2, .int (xa2))] [] σ) (xa0 : Nat) (xa1 : Nat) (xa2 : Int32) (σ : Sto) (h : F_X5_copyRow_b2 xk_2 xa0 xa1 xa2 σ = some (r, σ')) : GW x y (AY y) 3 Z 2 [(0, .ref (yad y (xa0))), (1, .ref (yad y (xa1))), (2, .int (xa2))] [] σ := by
  unfold F_X5_copyRow_b2 at h
  refine g_iload_n (pc := 2) C dX5_copyRow_2 rfl 2 rfl ?_
  refine g_bipush (v := 79) (pc := 3) C dX5_copyRow_3 cb_79 ?_
  refine g_icmp_ge (pc := 5) C dX5_copyRow_5 (tgt := 20) rfl (fun xq1 => ?_) (fun xq1 => ?_)
  · have h := iP xq1 h
    exact rtV hr dX5_copyRow_20 h
  · have h := iN xq1 h
    refine g_aload_n (pc := 8) C dX5_copyRow_8 rfl 1 rfl ?_
    refine g_iload_n (pc := 9) C dX5_copyRow_9 rfl 2 rfl ?_
    refine g_aload_n (pc := 10) C dX5_copyRow_10 rfl 0 rfl ?_
    refine g_iload_n (pc := 11) C dX5_copyRow_11 rfl 2 rfl ?_
    obtain ⟨xq2, h⟩ := iC h
    have xq2 := keq xq2
    obtain ⟨xq3, h⟩ := iC h
    refine g_iald (pc := 12) C dX5_copyRow_12 xq2 (ivp xq3 rfl) (j := xa2.toNatClampNeg) rfl ?_
    obtain ⟨xq4, h⟩ := iC h
    have xq4 := keq xq4
    obtain ⟨xq5, h⟩ := iC h
    refine g_iast (pc := 13) C dX5_copyRow_13 xq4 (ivp xq5 rfl) (j := xa2.toNatClampNeg) rfl ?_
    refine g_letS h (fun xσ6 h => ?_)
    refine g_iinc (lv' := [(2, .int (xa2 + 1)), (0, .ref (yad y (xa0))), (1, .ref (yad y (xa1)))]) (w := xa2 + 1) (pc := 14) C dX5_copyRow_14 (k := 2) rfl rfl (Nat.le_of_ble_eq_true rfl) rfl ?_
    refine g_goto (pc := 17) C dX5_copyRow_17 (tgt := 2) rfl ?_
    refine g_sub (lv' := [(0, .ref (yad y (xa0))), (1, .ref (yad y (xa1))), (2, .int (xa2 + 1))]) C [1, 2, 0] rfl ?_
    exact xH2 xa0 xa1 (xa2 + 1) xσ6 h
theorem l_X5_copyRow_2 {x : XT} {y : YT} {Z : State → Prop} (C : Cx x y (AY y) RX5 cX5_copyRow 3 rm_X5_copyRow) {r : Unit} {σ' : Sto} (hr : RetV x y (AY y) 3 cX5_copyRow Z r σ') (n : Nat) (xa0 : Nat) (xa1 : Nat) (xa2 : Int32) (σ : Sto) (h : lo3 (F_X5_copyRow_b2) n xa0 xa1 xa2 σ = some (r, σ')) : GW x y (AY y) 3 Z 2 [(0, .ref (yad y (xa0))), (1, .ref (yad y (xa1))), (2, .int (xa2))] [] σ :=
  lo3_gw (G := fun xa0 xa1 xa2 σ => GW x y (AY y) 3 Z 2 [(0, .ref (yad y (xa0))), (1, .ref (yad y (xa1))), (2, .int (xa2))] [] σ) (fun xk xHk xa0 xa1 xa2 σ h => b_X5_copyRow_2 C hr xk xHk xa0 xa1 xa2 σ h) n xa0 xa1 xa2 σ h
set_option maxHeartbeats 4000000 in
set_option maxRecDepth 20000 in
theorem b_X5_copyRow_0 {x : XT} {y : YT} {Z : State → Prop} (C : Cx x y (AY y) RX5 cX5_copyRow 3 rm_X5_copyRow) {r : Unit} {σ' : Sto} (hr : RetV x y (AY y) 3 cX5_copyRow Z r σ') (xa0 : Nat) (xa1 : Nat) (σ : Sto) (h : F_X5_copyRow xa0 xa1 σ = some (r, σ')) : GW x y (AY y) 3 Z 0 [(0, .ref (yad y (xa0))), (1, .ref (yad y (xa1)))] [] σ := by
  unfold F_X5_copyRow at h
  refine g_iconst (v := 0) (pc := 0) C dX5_copyRow_0 ci_0 ?_
  refine g_istore_n (i := 2) (lv' := [(2, .int (0)), (0, .ref (yad y (xa0))), (1, .ref (yad y (xa1)))]) (pc := 1) C dX5_copyRow_1 rfl (Nat.le_of_ble_eq_true rfl) rfl ?_
  refine g_sub (lv' := [(0, .ref (yad y (xa0))), (1, .ref (yad y (xa1))), (2, .int (0))]) C [1, 2, 0] rfl ?_
  exact l_X5_copyRow_2 C hr 1000 xa0 xa1 0 σ h
theorem c_X5_copyRow (l : Launch) (y : YT) (xa0 : Nat) (xa1 : Nat) (σ σ' : Sto) (r : Unit) (h : F_X5_copyRow xa0 xa1 σ = some (r, σ')) : MV l y yX5_copyRow (Cond.code yX5_copyRow cX5_copyRow 3 none :: TT) rm_X5_copyRow [.ref (yad y (xa0)), .ref (yad y (xa1))] σ r σ' :=
  mkV (by decide) rfl rfl rfl (Nat.le_of_ble_eq_true rfl) (fun x Z C hr => b_X5_copyRow_0 C hr xa0 xa1 σ h)
def rm_X5_putBack : Room := { frames := 1, cells := 0, slots := 0, locals := 22 }
def F_X5_putBack (xa0 : Nat) (xa1 : Int32) (σ : Sto) : Option (Int32 × Sto) := ck (kd (xa0) == 5) (bnd (F_X5_copyRow (52) (50) σ) (fun xr4 xσ2 => some (xa1, xσ2)))
set_option maxHeartbeats 4000000 in
set_option maxRecDepth 20000 in
theorem b_X5_putBack_0 {x : XT} {y : YT} {Z : State → Prop} (C : Cx x y (AY y) RX5 cX5_putBack 2 rm_X5_putBack) {r : Int32} {σ' : Sto} (hr : RetI x y (AY y) 2 cX5_putBack Z r σ') (xa0 : Nat) (xa1 : Int32) (σ : Sto) (h : F_X5_putBack xa0 xa1 σ = some (r, σ')) : GW x y (AY y) 2 Z 0 [(0, .ref (yad y (xa0))), (1, .int (xa1))] [] σ := by
  unfold F_X5_putBack at h
  refine g_aload_n (pc := 0) C dX5_putBack_0 rfl 0 rfl ?_
  obtain ⟨xq1, h⟩ := iC h
  have xq1 := keq xq1
  refine gf_5_2 (pc := 1) C wf_X5_16 dX5_putBack_1 xq1 ?_
  refine g_aload_n (pc := 4) C dX5_putBack_4 rfl 0 rfl ?_
  refine gf_5_0 (pc := 5) C wf_X5_9 dX5_putBack_5 xq1 ?_
  obtain ⟨xr4, xσ2, xc3, h⟩ := iB h
  refine g_callSv (pc := 8) (As := [.ref (yad y (52)), .ref (yad y (50))]) (rest := []) C dX5_putBack_8 (fun l => c_X5_copyRow l y _ _ _ _ _ xc3) cv_X5_61 ⟨rfl, rfl, Nat.le_of_ble_eq_true rfl, Nat.le_of_ble_eq_true rfl⟩ rfl (Nat.le_of_ble_eq_true rfl) ?_
  refine g_iload_n (pc := 11) C dX5_putBack_11 rfl 1 rfl ?_
  exact rtI hr dX5_putBack_12 h
theorem c_X5_putBack (l : Launch) (y : YT) (xa0 : Nat) (xa1 : Int32) (σ σ' : Sto) (r : Int32) (h : F_X5_putBack xa0 xa1 σ = some (r, σ')) : MI l y yX5_putBack (Cond.code yX5_putBack cX5_putBack 2 (some .int) :: TT) rm_X5_putBack [.ref (yad y (xa0)), .int (xa1)] σ r σ' :=
  mkI (by decide) rfl rfl rfl (Nat.le_of_ble_eq_true rfl) (fun x Z C hr => b_X5_putBack_0 C hr xa0 xa1 σ h)
def rm_X5_orNone : Room := { frames := 1, cells := 0, slots := 0, locals := 21 }
def F_X5_orNone (xa0 : Nat) (xa1 : Int32) (σ : Sto) : Option (Int32 × Sto) := if 0 ≤ (xa1) then some (xa1, σ) else ck (kd (xa0) == 5) (bnd (F_X5_finding (xa0) (-1000004) σ) (fun xr5 xσ2 => some (xr5, xσ2)))
set_option maxHeartbeats 4000000 in
set_option maxRecDepth 20000 in
theorem b_X5_orNone_0 {x : XT} {y : YT} {Z : State → Prop} (C : Cx x y (AY y) RX5 cX5_orNone 2 rm_X5_orNone) {r : Int32} {σ' : Sto} (hr : RetI x y (AY y) 2 cX5_orNone Z r σ') (xa0 : Nat) (xa1 : Int32) (σ : Sto) (h : F_X5_orNone xa0 xa1 σ = some (r, σ')) : GW x y (AY y) 2 Z 0 [(0, .ref (yad y (xa0))), (1, .int (xa1))] [] σ := by
  unfold F_X5_orNone at h
  refine g_iload_n (pc := 0) C dX5_orNone_0 rfl 1 rfl ?_
  refine g_if_ge (pc := 1) C dX5_orNone_1 (tgt := 13) rfl (fun xq1 => ?_) (fun xq1 => ?_)
  · have h := iP xq1 h
    refine g_iload_n (pc := 13) C dX5_orNone_13 rfl 1 rfl ?_
    exact rtI hr dX5_orNone_14 h
  · have h := iN xq1 h
    refine g_aload_n (pc := 4) C dX5_orNone_4 rfl 0 rfl ?_
    refine g_ldc (v := (-1000004)) (pc := 5) C dX5_orNone_5 wk_X5_65 ?_
    obtain ⟨xq4, h⟩ := iC h
    have xq4 := keq xq4
    obtain ⟨xr5, xσ2, xc3, h⟩ := iB h
    refine g_callVi (pc := 7) (As := [.int ((-1000004))]) (rest := []) C dX5_orNone_7 (fun l => c_X5_finding l y _ _ _ _ _ xc3) cv_X5_66 ⟨rfl, rfl, Nat.le_of_ble_eq_true rfl, Nat.le_of_ble_eq_true rfl⟩ (rv5 xq4) rfl (Nat.le_of_ble_eq_true rfl) ?_
    refine g_goto (pc := 10) C dX5_orNone_10 (tgt := 14) rfl ?_
    exact rtI hr dX5_orNone_14 h
theorem c_X5_orNone (l : Launch) (y : YT) (xa0 : Nat) (xa1 : Int32) (σ σ' : Sto) (r : Int32) (h : F_X5_orNone xa0 xa1 σ = some (r, σ')) : MI l y yX5_orNone (Cond.code yX5_orNone cX5_orNone 2 (some .int) :: TT) rm_X5_orNone [.ref (yad y (xa0)), .int (xa1)] σ r σ' :=
  mkI (by decide) rfl rfl rfl (Nat.le_of_ble_eq_true rfl) (fun x Z C hr => b_X5_orNone_0 C hr xa0 xa1 σ h)
def rm_X5_bits : Room := { frames := 0, cells := 0, slots := 0, locals := 0 }
def F_X5_bits_b4 (xk_4 : Int32 → Int32 → Sto → Option (Int32 × Sto)) (xa1 : Int32) (xa2 : Int32) (σ : Sto) : Option (Int32 × Sto) := if (xa2) = 0 then some (xa1, σ) else lti (xa2 &&& (xa2 - 1)) (fun xv2 => xk_4 (xa1 + 1) xv2 σ)
def F_X5_bits (xa0 : Int32) (σ : Sto) : Option (Int32 × Sto) := lo2 (F_X5_bits_b4) 1000 0 xa0 σ
set_option maxHeartbeats 4000000 in
set_option maxRecDepth 20000 in
theorem b_X5_bits_4 {x : XT} {y : YT} {Z : State → Prop} (C : Cx x y (AY y) RX5 cX5_bits 3 rm_X5_bits) {r : Int32} {σ' : Sto} (hr : RetI x y (AY y) 3 cX5_bits Z r σ') (xk_4 : Int32 → Int32 → Sto → Option (Int32 × Sto)) (xH4 : ∀ (xa1 : Int32) (xa2 : Int32) (σ : Sto), xk_4 xa1 xa2 σ = some (r, σ') → GW x y (AY y) 3 Z 4 [(1, .int (xa1)), (2, .int (xa2))] [] σ) (xa1 : Int32) (xa2 : Int32) (σ : Sto) (h : F_X5_bits_b4 xk_4 xa1 xa2 σ = some (r, σ')) : GW x y (AY y) 3 Z 4 [(1, .int (xa1)), (2, .int (xa2))] [] σ := by
  unfold F_X5_bits_b4 at h
  refine g_iload_n (pc := 4) C dX5_bits_4 rfl 1 rfl ?_
  refine g_if_eq (pc := 5) C dX5_bits_5 (tgt := 20) rfl (fun xq1 => ?_) (fun xq1 => ?_)
  · have h := iP xq1 h
    refine g_iload_n (pc := 20) C dX5_bits_20 rfl 0 rfl ?_
    exact rtI hr dX5_bits_21 h
  · have h := iN xq1 h
    refine g_iinc (lv' := [(1, .int (xa1 + 1)), (2, .int (xa2))]) (w := xa1 + 1) (pc := 8) C dX5_bits_8 (k := 0) rfl rfl (Nat.le_of_ble_eq_true rfl) rfl ?_
    refine g_iload_n (pc := 11) C dX5_bits_11 rfl 1 rfl ?_
    refine g_iload_n (pc := 12) C dX5_bits_12 rfl 1 rfl ?_
    refine g_iconst (v := 1) (pc := 13) C dX5_bits_13 ci_1 ?_
    refine g_isub (pc := 14) C dX5_bits_14 ?_
    refine g_iand (pc := 15) C dX5_bits_15 ?_
    refine g_letI h (fun xv2 h => ?_)
    refine g_istore_n (i := 2) (lv' := [(2, .int (xv2)), (1, .int (xa1 + 1))]) (pc := 16) C dX5_bits_16 rfl (Nat.le_of_ble_eq_true rfl) rfl ?_
    refine g_goto (pc := 17) C dX5_bits_17 (tgt := 4) rfl ?_
    refine g_sub (lv' := [(1, .int (xa1 + 1)), (2, .int (xv2))]) C [1, 0] rfl ?_
    exact xH4 (xa1 + 1) xv2 σ h
theorem l_X5_bits_4 {x : XT} {y : YT} {Z : State → Prop} (C : Cx x y (AY y) RX5 cX5_bits 3 rm_X5_bits) {r : Int32} {σ' : Sto} (hr : RetI x y (AY y) 3 cX5_bits Z r σ') (n : Nat) (xa1 : Int32) (xa2 : Int32) (σ : Sto) (h : lo2 (F_X5_bits_b4) n xa1 xa2 σ = some (r, σ')) : GW x y (AY y) 3 Z 4 [(1, .int (xa1)), (2, .int (xa2))] [] σ :=
  lo2_gw (G := fun xa1 xa2 σ => GW x y (AY y) 3 Z 4 [(1, .int (xa1)), (2, .int (xa2))] [] σ) (fun xk xHk xa1 xa2 σ h => b_X5_bits_4 C hr xk xHk xa1 xa2 σ h) n xa1 xa2 σ h
set_option maxHeartbeats 4000000 in
set_option maxRecDepth 20000 in
theorem b_X5_bits_0 {x : XT} {y : YT} {Z : State → Prop} (C : Cx x y (AY y) RX5 cX5_bits 3 rm_X5_bits) {r : Int32} {σ' : Sto} (hr : RetI x y (AY y) 3 cX5_bits Z r σ') (xa0 : Int32) (σ : Sto) (h : F_X5_bits xa0 σ = some (r, σ')) : GW x y (AY y) 3 Z 0 [(0, .int (xa0))] [] σ := by
  unfold F_X5_bits at h
  refine g_iconst (v := 0) (pc := 0) C dX5_bits_0 ci_0 ?_
  refine g_istore_n (i := 1) (lv' := [(1, .int (0)), (0, .int (xa0))]) (pc := 1) C dX5_bits_1 rfl (Nat.le_of_ble_eq_true rfl) rfl ?_
  refine g_iload_n (pc := 2) C dX5_bits_2 rfl 1 rfl ?_
  refine g_istore_n (i := 2) (lv' := [(2, .int (xa0)), (1, .int (0)), (0, .int (xa0))]) (pc := 3) C dX5_bits_3 rfl (Nat.le_of_ble_eq_true rfl) rfl ?_
  refine g_sub (lv' := [(1, .int (0)), (2, .int (xa0))]) C [1, 0] rfl ?_
  exact l_X5_bits_4 C hr 1000 0 xa0 σ h
theorem c_X5_bits (l : Launch) (y : YT) (xa0 : Int32) (σ σ' : Sto) (r : Int32) (h : F_X5_bits xa0 σ = some (r, σ')) : MI l y yX5_bits (Cond.code yX5_bits cX5_bits 3 (some .int) :: TT) rm_X5_bits [.int (xa0)] σ r σ' :=
  mkI (by decide) rfl rfl rfl (Nat.le_of_ble_eq_true rfl) (fun x Z C hr => b_X5_bits_0 C hr xa0 σ h)
def rm_X5_hasBit : Room := { frames := 0, cells := 0, slots := 0, locals := 0 }
def F_X5_hasBit (xa0 : Int32) (xa1 : Int32) (σ : Sto) : Option (Int32 × Sto) := if ((isr xa0 xa1) &&& 1) = 1 then some (1, σ) else some (0, σ)
set_option maxHeartbeats 4000000 in
set_option maxRecDepth 20000 in
theorem b_X5_hasBit_0 {x : XT} {y : YT} {Z : State → Prop} (C : Cx x y (AY y) RX5 cX5_hasBit 2 rm_X5_hasBit) {r : Int32} {σ' : Sto} (hr : RetZ x y (AY y) 2 cX5_hasBit Z r σ') (xa0 : Int32) (xa1 : Int32) (σ : Sto) (h : F_X5_hasBit xa0 xa1 σ = some (r, σ')) : GW x y (AY y) 2 Z 0 [(0, .int (xa0)), (1, .int (xa1))] [] σ := by
  unfold F_X5_hasBit at h
  refine g_iload_n (pc := 0) C dX5_hasBit_0 rfl 0 rfl ?_
  refine g_iload_n (pc := 1) C dX5_hasBit_1 rfl 1 rfl ?_
  refine g_ishr (pc := 2) C dX5_hasBit_2 ?_
  refine g_iconst (v := 1) (pc := 3) C dX5_hasBit_3 ci_1 ?_
  refine g_iand (pc := 4) C dX5_hasBit_4 ?_
  refine g_iconst (v := 1) (pc := 5) C dX5_hasBit_5 ci_1 ?_
  refine g_icmp_ne (pc := 6) C dX5_hasBit_6 (tgt := 13) rfl (fun xq1 => ?_) (fun xq1 => ?_)
  · have h := iN xq1 h
    refine g_iconst (v := 0) (pc := 13) C dX5_hasBit_13 ci_0 ?_
    exact rtZ hr dX5_hasBit_14 (by decide) h
  · have h := iP xq1 h
    refine g_iconst (v := 1) (pc := 9) C dX5_hasBit_9 ci_1 ?_
    refine g_goto (pc := 10) C dX5_hasBit_10 (tgt := 14) rfl ?_
    exact rtZ hr dX5_hasBit_14 (by decide) h
theorem c_X5_hasBit (l : Launch) (y : YT) (xa0 : Int32) (xa1 : Int32) (σ σ' : Sto) (r : Int32) (h : F_X5_hasBit xa0 xa1 σ = some (r, σ')) : MI l y yX5_hasBit (Cond.code yX5_hasBit cX5_hasBit 2 (some .boolean) :: TT) rm_X5_hasBit [.int (xa0), .int (xa1)] σ r σ' :=
  mkZ (by decide) rfl rfl rfl (Nat.le_of_ble_eq_true rfl) (fun x Z C hr => b_X5_hasBit_0 C hr xa0 xa1 σ h)
def rm_X5_isSet : Room := { frames := 1, cells := 0, slots := 0, locals := 22 }
def F_X5_isSet (xa0 : Int32) (xa1 : Int32) (σ : Sto) : Option (Int32 × Sto) := if (xa0) = 0 then bnd (F_X5_within (xa1) 0 60 σ) (fun xr17 xσ15 => ck (z01 (xr17)) (some (xr17, xσ15))) else if xa0 = 1 then bnd (F_X5_within (xa1) 0 9 σ) (fun xr14 xσ12 => ck (z01 (xr14)) (some (xr14, xσ12))) else if xa0 = 2 then bnd (F_X5_within (xa1) 0 20 σ) (fun xr11 xσ9 => ck (z01 (xr11)) (some (xr11, xσ9))) else if xa0 = 3 then bnd (F_X5_within (xa1) 0 99999 σ) (fun xr7 xσ5 => if (xr7) = 0 then some (0, xσ5) else some (1, xσ5)) else some (0, σ)
set_option maxHeartbeats 4000000 in
set_option maxRecDepth 20000 in
theorem b_X5_isSet_0 {x : XT} {y : YT} {Z : State → Prop} (C : Cx x y (AY y) RX5 cX5_isSet 2 rm_X5_isSet) {r : Int32} {σ' : Sto} (hr : RetZ x y (AY y) 2 cX5_isSet Z r σ') (xa0 : Int32) (xa1 : Int32) (σ : Sto) (h : F_X5_isSet xa0 xa1 σ = some (r, σ')) : GW x y (AY y) 2 Z 0 [(0, .int (xa0)), (1, .int (xa1))] [] σ := by
  unfold F_X5_isSet at h
  refine g_iload_n (pc := 0) C dX5_isSet_0 rfl 0 rfl ?_
  refine g_if_ne (pc := 1) C dX5_isSet_1 (tgt := 14) rfl (fun xq1 => ?_) (fun xq1 => ?_)
  · have h := iN xq1 h
    refine g_iload_n (pc := 14) C dX5_isSet_14 rfl 0 rfl ?_
    refine g_iconst (v := 1) (pc := 15) C dX5_isSet_15 ci_1 ?_
    refine g_icmp_ne (pc := 16) C dX5_isSet_16 (tgt := 29) rfl (fun xq2 => ?_) (fun xq2 => ?_)
    · have h := iN xq2 h
      refine g_iload_n (pc := 29) C dX5_isSet_29 rfl 0 rfl ?_
      refine g_iconst (v := 2) (pc := 30) C dX5_isSet_30 ci_2 ?_
      refine g_icmp_ne (pc := 31) C dX5_isSet_31 (tgt := 44) rfl (fun xq3 => ?_) (fun xq3 => ?_)
      · have h := iN xq3 h
        refine g_iload_n (pc := 44) C dX5_isSet_44 rfl 0 rfl ?_
        refine g_iconst (v := 3) (pc := 45) C dX5_isSet_45 ci_3 ?_
        refine g_icmp_ne (pc := 46) C dX5_isSet_46 (tgt := 63) rfl (fun xq4 => ?_) (fun xq4 => ?_)
        · have h := iN xq4 h
          refine g_iconst (v := 0) (pc := 63) C dX5_isSet_63 ci_0 ?_
          exact rtZ hr dX5_isSet_64 (by decide) h
        · have h := iP xq4 h
          refine g_iload_n (pc := 49) C dX5_isSet_49 rfl 1 rfl ?_
          refine g_iconst (v := 0) (pc := 50) C dX5_isSet_50 ci_0 ?_
          refine g_ldc (v := 99999) (pc := 51) C dX5_isSet_51 wk_X5_74 ?_
          obtain ⟨xr7, xσ5, xc6, h⟩ := iB h
          refine g_callSi (pc := 53) (As := [.int (xa1), .int (0), .int (99999)]) (rest := []) C dX5_isSet_53 (fun l => c_X5_within l y _ _ _ _ _ _ xc6) cv_X5_70 ⟨rfl, rfl, Nat.le_of_ble_eq_true rfl, Nat.le_of_ble_eq_true rfl⟩ rfl (Nat.le_of_ble_eq_true rfl) ?_
          refine g_if_eq (pc := 56) C dX5_isSet_56 (tgt := 63) rfl (fun xq8 => ?_) (fun xq8 => ?_)
          · have h := iP xq8 h
            refine g_iconst (v := 0) (pc := 63) C dX5_isSet_63 ci_0 ?_
            exact rtZ hr dX5_isSet_64 (by decide) h
          · have h := iN xq8 h
            refine g_iconst (v := 1) (pc := 59) C dX5_isSet_59 ci_1 ?_
            refine g_goto (pc := 60) C dX5_isSet_60 (tgt := 64) rfl ?_
            exact rtZ hr dX5_isSet_64 (by decide) h
      · have h := iP xq3 h
        refine g_iload_n (pc := 34) C dX5_isSet_34 rfl 1 rfl ?_
        refine g_iconst (v := 0) (pc := 35) C dX5_isSet_35 ci_0 ?_
        refine g_bipush (v := 20) (pc := 36) C dX5_isSet_36 cb_20 ?_
        obtain ⟨xr11, xσ9, xc10, h⟩ := iB h
        refine g_callSi (pc := 38) (As := [.int (xa1), .int (0), .int (20)]) (rest := []) C dX5_isSet_38 (fun l => c_X5_within l y _ _ _ _ _ _ xc10) cv_X5_70 ⟨rfl, rfl, Nat.le_of_ble_eq_true rfl, Nat.le_of_ble_eq_true rfl⟩ rfl (Nat.le_of_ble_eq_true rfl) ?_
        refine g_goto (pc := 41) C dX5_isSet_41 (tgt := 64) rfl ?_
        obtain ⟨xz, h⟩ := iC h
        exact rtZ hr dX5_isSet_64 (z01_or xz) h
    · have h := iP xq2 h
      refine g_iload_n (pc := 19) C dX5_isSet_19 rfl 1 rfl ?_
      refine g_iconst (v := 0) (pc := 20) C dX5_isSet_20 ci_0 ?_
      refine g_bipush (v := 9) (pc := 21) C dX5_isSet_21 cb_9 ?_
      obtain ⟨xr14, xσ12, xc13, h⟩ := iB h
      refine g_callSi (pc := 23) (As := [.int (xa1), .int (0), .int (9)]) (rest := []) C dX5_isSet_23 (fun l => c_X5_within l y _ _ _ _ _ _ xc13) cv_X5_70 ⟨rfl, rfl, Nat.le_of_ble_eq_true rfl, Nat.le_of_ble_eq_true rfl⟩ rfl (Nat.le_of_ble_eq_true rfl) ?_
      refine g_goto (pc := 26) C dX5_isSet_26 (tgt := 64) rfl ?_
      obtain ⟨xz, h⟩ := iC h
      exact rtZ hr dX5_isSet_64 (z01_or xz) h
  · have h := iP xq1 h
    refine g_iload_n (pc := 4) C dX5_isSet_4 rfl 1 rfl ?_
    refine g_iconst (v := 0) (pc := 5) C dX5_isSet_5 ci_0 ?_
    refine g_bipush (v := 60) (pc := 6) C dX5_isSet_6 cb_60 ?_
    obtain ⟨xr17, xσ15, xc16, h⟩ := iB h
    refine g_callSi (pc := 8) (As := [.int (xa1), .int (0), .int (60)]) (rest := []) C dX5_isSet_8 (fun l => c_X5_within l y _ _ _ _ _ _ xc16) cv_X5_70 ⟨rfl, rfl, Nat.le_of_ble_eq_true rfl, Nat.le_of_ble_eq_true rfl⟩ rfl (Nat.le_of_ble_eq_true rfl) ?_
    refine g_goto (pc := 11) C dX5_isSet_11 (tgt := 64) rfl ?_
    obtain ⟨xz, h⟩ := iC h
    exact rtZ hr dX5_isSet_64 (z01_or xz) h
theorem c_X5_isSet (l : Launch) (y : YT) (xa0 : Int32) (xa1 : Int32) (σ σ' : Sto) (r : Int32) (h : F_X5_isSet xa0 xa1 σ = some (r, σ')) : MI l y yX5_isSet (Cond.code yX5_isSet cX5_isSet 2 (some .boolean) :: TT) rm_X5_isSet [.int (xa0), .int (xa1)] σ r σ' :=
  mkZ (by decide) rfl rfl rfl (Nat.le_of_ble_eq_true rfl) (fun x Z C hr => b_X5_isSet_0 C hr xa0 xa1 σ h)
def rm_X5_set : Room := { frames := 2, cells := 0, slots := 0, locals := 43 }
def F_X5_set (xa0 : Nat) (xa1 : Int32) (xa2 : Int32) (σ : Sto) : Option (Int32 × Sto) := bnd (F_X5_isSet (xa1) (xa2) σ) (fun xr3 xσ1 => if (xr3) = 0 then ck (kd (xa0) == 5) (bnd (F_X5_finding (xa0) (-1000001) xσ1) (fun xr8 xσ5 => some (xr8, xσ5))) else ck (kd (xa0) == 5) (bnd (F_X5_become (xa0) (3 + xa1) (xa2) xσ1) (fun xr12 xσ9 => some (xr12, xσ9))))
set_option maxHeartbeats 4000000 in
set_option maxRecDepth 20000 in
theorem b_X5_set_0 {x : XT} {y : YT} {Z : State → Prop} (C : Cx x y (AY y) RX5 cX5_set 3 rm_X5_set) {r : Int32} {σ' : Sto} (hr : RetI x y (AY y) 3 cX5_set Z r σ') (xa0 : Nat) (xa1 : Int32) (xa2 : Int32) (σ : Sto) (h : F_X5_set xa0 xa1 xa2 σ = some (r, σ')) : GW x y (AY y) 3 Z 0 [(0, .ref (yad y (xa0))), (1, .int (xa1)), (2, .int (xa2))] [] σ := by
  unfold F_X5_set at h
  refine g_iload_n (pc := 0) C dX5_set_0 rfl 1 rfl ?_
  refine g_iload_n (pc := 1) C dX5_set_1 rfl 2 rfl ?_
  obtain ⟨xr3, xσ1, xc2, h⟩ := iB h
  refine g_callSi (pc := 2) (As := [.int (xa1), .int (xa2)]) (rest := []) C dX5_set_2 (fun l => c_X5_isSet l y _ _ _ _ _ xc2) cv_X5_75 ⟨rfl, rfl, Nat.le_of_ble_eq_true rfl, Nat.le_of_ble_eq_true rfl⟩ rfl (Nat.le_of_ble_eq_true rfl) ?_
  refine g_if_eq (pc := 5) C dX5_set_5 (tgt := 19) rfl (fun xq4 => ?_) (fun xq4 => ?_)
  · have h := iP xq4 h
    refine g_aload_n (pc := 19) C dX5_set_19 rfl 0 rfl ?_
    refine g_ldc (v := (-1000001)) (pc := 20) C dX5_set_20 wk_X5_60 ?_
    obtain ⟨xq7, h⟩ := iC h
    have xq7 := keq xq7
    obtain ⟨xr8, xσ5, xc6, h⟩ := iB h
    refine g_callVi (pc := 22) (As := [.int ((-1000001))]) (rest := []) C dX5_set_22 (fun l => c_X5_finding l y _ _ _ _ _ xc6) cv_X5_66 ⟨rfl, rfl, Nat.le_of_ble_eq_true rfl, Nat.le_of_ble_eq_true rfl⟩ (rv5 xq7) rfl (Nat.le_of_ble_eq_true rfl) ?_
    exact rtI hr dX5_set_25 h
  · have h := iN xq4 h
    refine g_aload_n (pc := 8) C dX5_set_8 rfl 0 rfl ?_
    refine g_iconst (v := 3) (pc := 9) C dX5_set_9 ci_3 ?_
    refine g_iload_n (pc := 10) C dX5_set_10 rfl 1 rfl ?_
    refine g_iadd (pc := 11) C dX5_set_11 ?_
    refine g_iload_n (pc := 12) C dX5_set_12 rfl 2 rfl ?_
    obtain ⟨xq11, h⟩ := iC h
    have xq11 := keq xq11
    obtain ⟨xr12, xσ9, xc10, h⟩ := iB h
    refine g_callVi (pc := 13) (As := [.int (3 + xa1), .int (xa2)]) (rest := []) C dX5_set_13 (fun l => c_X5_become l y _ _ _ _ _ _ xc10) cv_X5_79 ⟨rfl, rfl, Nat.le_of_ble_eq_true rfl, Nat.le_of_ble_eq_true rfl⟩ (rv5 xq11) rfl (Nat.le_of_ble_eq_true rfl) ?_
    refine g_goto (pc := 16) C dX5_set_16 (tgt := 25) rfl ?_
    exact rtI hr dX5_set_25 h
theorem c_X5_set (l : Launch) (y : YT) (xa0 : Nat) (xa1 : Int32) (xa2 : Int32) (σ σ' : Sto) (r : Int32) (h : F_X5_set xa0 xa1 xa2 σ = some (r, σ')) : MI l y yX5_set (Cond.code yX5_set cX5_set 3 (some .int) :: TT) rm_X5_set [.ref (yad y (xa0)), .int (xa1), .int (xa2)] σ r σ' :=
  mkI (by decide) rfl rfl rfl (Nat.le_of_ble_eq_true rfl) (fun x Z C hr => b_X5_set_0 C hr xa0 xa1 xa2 σ h)
def rm_X5_booth : Room := { frames := 1, cells := 0, slots := 0, locals := 22 }
def F_X5_booth (xa0 : Nat) (xa1 : Int32) (σ : Sto) : Option (Int32 × Sto) := bnd (F_X5_within (xa1) 0 3 σ) (fun xr3 xσ1 => if (xr3) = 0 then ck (kd (xa0) == 5) (bnd (F_X5_finding (xa0) (-1000001) xσ1) (fun xr8 xσ5 => some (xr8, xσ5))) else ck (kd (xa0) == 5) (ck (inr (3 + xa1) (79)) (some (xσ1 50 ((3 + xa1 : Int32).toNatClampNeg), xσ1))))
set_option maxHeartbeats 4000000 in
set_option maxRecDepth 20000 in
theorem b_X5_booth_0 {x : XT} {y : YT} {Z : State → Prop} (C : Cx x y (AY y) RX5 cX5_booth 2 rm_X5_booth) {r : Int32} {σ' : Sto} (hr : RetI x y (AY y) 2 cX5_booth Z r σ') (xa0 : Nat) (xa1 : Int32) (σ : Sto) (h : F_X5_booth xa0 xa1 σ = some (r, σ')) : GW x y (AY y) 2 Z 0 [(0, .ref (yad y (xa0))), (1, .int (xa1))] [] σ := by
  unfold F_X5_booth at h
  refine g_iload_n (pc := 0) C dX5_booth_0 rfl 1 rfl ?_
  refine g_iconst (v := 0) (pc := 1) C dX5_booth_1 ci_0 ?_
  refine g_iconst (v := 3) (pc := 2) C dX5_booth_2 ci_3 ?_
  obtain ⟨xr3, xσ1, xc2, h⟩ := iB h
  refine g_callSi (pc := 3) (As := [.int (xa1), .int (0), .int (3)]) (rest := []) C dX5_booth_3 (fun l => c_X5_within l y _ _ _ _ _ _ xc2) cv_X5_70 ⟨rfl, rfl, Nat.le_of_ble_eq_true rfl, Nat.le_of_ble_eq_true rfl⟩ rfl (Nat.le_of_ble_eq_true rfl) ?_
  refine g_if_eq (pc := 6) C dX5_booth_6 (tgt := 20) rfl (fun xq4 => ?_) (fun xq4 => ?_)
  · have h := iP xq4 h
    refine g_aload_n (pc := 20) C dX5_booth_20 rfl 0 rfl ?_
    refine g_ldc (v := (-1000001)) (pc := 21) C dX5_booth_21 wk_X5_60 ?_
    obtain ⟨xq7, h⟩ := iC h
    have xq7 := keq xq7
    obtain ⟨xr8, xσ5, xc6, h⟩ := iB h
    refine g_callVi (pc := 23) (As := [.int ((-1000001))]) (rest := []) C dX5_booth_23 (fun l => c_X5_finding l y _ _ _ _ _ xc6) cv_X5_66 ⟨rfl, rfl, Nat.le_of_ble_eq_true rfl, Nat.le_of_ble_eq_true rfl⟩ (rv5 xq7) rfl (Nat.le_of_ble_eq_true rfl) ?_
    exact rtI hr dX5_booth_26 h
  · have h := iN xq4 h
    refine g_aload_n (pc := 9) C dX5_booth_9 rfl 0 rfl ?_
    obtain ⟨xq9, h⟩ := iC h
    have xq9 := keq xq9
    refine gf_5_0 (pc := 10) C wf_X5_9 dX5_booth_10 xq9 ?_
    refine g_iconst (v := 3) (pc := 13) C dX5_booth_13 ci_3 ?_
    refine g_iload_n (pc := 14) C dX5_booth_14 rfl 1 rfl ?_
    refine g_iadd (pc := 15) C dX5_booth_15 ?_
    obtain ⟨xq10, h⟩ := iC h
    refine g_iald (pc := 16) C dX5_booth_16 rfl (ivp xq10 rfl) (j := (3 + xa1 : Int32).toNatClampNeg) rfl ?_
    refine g_goto (pc := 17) C dX5_booth_17 (tgt := 26) rfl ?_
    exact rtI hr dX5_booth_26 h
theorem c_X5_booth (l : Launch) (y : YT) (xa0 : Nat) (xa1 : Int32) (σ σ' : Sto) (r : Int32) (h : F_X5_booth xa0 xa1 σ = some (r, σ')) : MI l y yX5_booth (Cond.code yX5_booth cX5_booth 2 (some .int) :: TT) rm_X5_booth [.ref (yad y (xa0)), .int (xa1)] σ r σ' :=
  mkI (by decide) rfl rfl rfl (Nat.le_of_ble_eq_true rfl) (fun x Z C hr => b_X5_booth_0 C hr xa0 xa1 σ h)
def rm_X5_isPlace : Room := { frames := 1, cells := 0, slots := 0, locals := 22 }
def F_X5_isPlace (xa0 : Int32) (σ : Sto) : Option (Int32 × Sto) := bnd (F_X5_within (xa0) 0 5 σ) (fun xr3 xσ1 => ck (z01 (xr3)) (some (xr3, xσ1)))
set_option maxHeartbeats 4000000 in
set_option maxRecDepth 20000 in
theorem b_X5_isPlace_0 {x : XT} {y : YT} {Z : State → Prop} (C : Cx x y (AY y) RX5 cX5_isPlace 1 rm_X5_isPlace) {r : Int32} {σ' : Sto} (hr : RetZ x y (AY y) 1 cX5_isPlace Z r σ') (xa0 : Int32) (σ : Sto) (h : F_X5_isPlace xa0 σ = some (r, σ')) : GW x y (AY y) 1 Z 0 [(0, .int (xa0))] [] σ := by
  unfold F_X5_isPlace at h
  refine g_iload_n (pc := 0) C dX5_isPlace_0 rfl 0 rfl ?_
  refine g_iconst (v := 0) (pc := 1) C dX5_isPlace_1 ci_0 ?_
  refine g_iconst (v := 5) (pc := 2) C dX5_isPlace_2 ci_5 ?_
  obtain ⟨xr3, xσ1, xc2, h⟩ := iB h
  refine g_callSi (pc := 3) (As := [.int (xa0), .int (0), .int (5)]) (rest := []) C dX5_isPlace_3 (fun l => c_X5_within l y _ _ _ _ _ _ xc2) cv_X5_70 ⟨rfl, rfl, Nat.le_of_ble_eq_true rfl, Nat.le_of_ble_eq_true rfl⟩ rfl (Nat.le_of_ble_eq_true rfl) ?_
  obtain ⟨xz, h⟩ := iC h
  exact rtZ hr dX5_isPlace_6 (z01_or xz) h
theorem c_X5_isPlace (l : Launch) (y : YT) (xa0 : Int32) (σ σ' : Sto) (r : Int32) (h : F_X5_isPlace xa0 σ = some (r, σ')) : MI l y yX5_isPlace (Cond.code yX5_isPlace cX5_isPlace 1 (some .boolean) :: TT) rm_X5_isPlace [.int (xa0)] σ r σ' :=
  mkZ (by decide) rfl rfl rfl (Nat.le_of_ble_eq_true rfl) (fun x Z C hr => b_X5_isPlace_0 C hr xa0 σ h)
def rm_X5_isSitter : Room := { frames := 1, cells := 0, slots := 0, locals := 22 }
def F_X5_isSitter (xa0 : Nat) (xa1 : Int32) (σ : Sto) : Option (Int32 × Sto) := ck (kd (xa0) == 5) (bnd (F_X5_within (xa1) 0 ((σ 50 1) - 1) σ) (fun xr4 xσ2 => ck (z01 (xr4)) (some (xr4, xσ2))))
set_option maxHeartbeats 4000000 in
set_option maxRecDepth 20000 in
theorem b_X5_isSitter_0 {x : XT} {y : YT} {Z : State → Prop} (C : Cx x y (AY y) RX5 cX5_isSitter 2 rm_X5_isSitter) {r : Int32} {σ' : Sto} (hr : RetZ x y (AY y) 2 cX5_isSitter Z r σ') (xa0 : Nat) (xa1 : Int32) (σ : Sto) (h : F_X5_isSitter xa0 xa1 σ = some (r, σ')) : GW x y (AY y) 2 Z 0 [(0, .ref (yad y (xa0))), (1, .int (xa1))] [] σ := by
  unfold F_X5_isSitter at h
  refine g_iload_n (pc := 0) C dX5_isSitter_0 rfl 1 rfl ?_
  refine g_iconst (v := 0) (pc := 1) C dX5_isSitter_1 ci_0 ?_
  refine g_aload_n (pc := 2) C dX5_isSitter_2 rfl 0 rfl ?_
  obtain ⟨xq1, h⟩ := iC h
  have xq1 := keq xq1
  refine gf_5_0 (pc := 3) C wf_X5_9 dX5_isSitter_3 xq1 ?_
  refine g_iconst (v := 1) (pc := 6) C dX5_isSitter_6 ci_1 ?_
  refine g_iald (pc := 7) C dX5_isSitter_7 rfl (ivp (by decide) rfl) (j := 1) ct_1 ?_
  refine g_iconst (v := 1) (pc := 8) C dX5_isSitter_8 ci_1 ?_
  refine g_isub (pc := 9) C dX5_isSitter_9 ?_
  obtain ⟨xr4, xσ2, xc3, h⟩ := iB h
  refine g_callSi (pc := 10) (As := [.int (xa1), .int (0), .int ((σ 50 1) - 1)]) (rest := []) C dX5_isSitter_10 (fun l => c_X5_within l y _ _ _ _ _ _ xc3) cv_X5_70 ⟨rfl, rfl, Nat.le_of_ble_eq_true rfl, Nat.le_of_ble_eq_true rfl⟩ rfl (Nat.le_of_ble_eq_true rfl) ?_
  obtain ⟨xz, h⟩ := iC h
  exact rtZ hr dX5_isSitter_13 (z01_or xz) h
theorem c_X5_isSitter (l : Launch) (y : YT) (xa0 : Nat) (xa1 : Int32) (σ σ' : Sto) (r : Int32) (h : F_X5_isSitter xa0 xa1 σ = some (r, σ')) : MI l y yX5_isSitter (Cond.code yX5_isSitter cX5_isSitter 2 (some .boolean) :: TT) rm_X5_isSitter [.ref (yad y (xa0)), .int (xa1)] σ r σ' :=
  mkZ (by decide) rfl rfl rfl (Nat.le_of_ble_eq_true rfl) (fun x Z C hr => b_X5_isSitter_0 C hr xa0 xa1 σ h)
def rm_X5_isInQueue : Room := { frames := 2, cells := 0, slots := 0, locals := 43 }
def F_X5_isInQueue (xa0 : Nat) (xa1 : Int32) (σ : Sto) : Option (Int32 × Sto) := if xa1 = (-1) then some (1, σ) else ck (kd (xa0) == 5) (bnd (F_X5_isSitter (xa0) (xa1) σ) (fun xr5 xσ2 => if (xr5) = 0 then some (0, xσ2) else some (1, xσ2)))
set_option maxHeartbeats 4000000 in
set_option maxRecDepth 20000 in
theorem b_X5_isInQueue_0 {x : XT} {y : YT} {Z : State → Prop} (C : Cx x y (AY y) RX5 cX5_isInQueue 2 rm_X5_isInQueue) {r : Int32} {σ' : Sto} (hr : RetZ x y (AY y) 2 cX5_isInQueue Z r σ') (xa0 : Nat) (xa1 : Int32) (σ : Sto) (h : F_X5_isInQueue xa0 xa1 σ = some (r, σ')) : GW x y (AY y) 2 Z 0 [(0, .ref (yad y (xa0))), (1, .int (xa1))] [] σ := by
  unfold F_X5_isInQueue at h
  refine g_iload_n (pc := 0) C dX5_isInQueue_0 rfl 1 rfl ?_
  refine g_iconst (v := (-1)) (pc := 1) C dX5_isInQueue_1 ci_m1 ?_
  refine g_icmp_eq (pc := 2) C dX5_isInQueue_2 (tgt := 13) rfl (fun xq1 => ?_) (fun xq1 => ?_)
  · have h := iP xq1 h
    refine g_iconst (v := 1) (pc := 13) C dX5_isInQueue_13 ci_1 ?_
    refine g_goto (pc := 14) C dX5_isInQueue_14 (tgt := 18) rfl ?_
    exact rtZ hr dX5_isInQueue_18 (by decide) h
  · have h := iN xq1 h
    refine g_aload_n (pc := 5) C dX5_isInQueue_5 rfl 0 rfl ?_
    refine g_iload_n (pc := 6) C dX5_isInQueue_6 rfl 1 rfl ?_
    obtain ⟨xq4, h⟩ := iC h
    have xq4 := keq xq4
    obtain ⟨xr5, xσ2, xc3, h⟩ := iB h
    refine g_callVi (pc := 7) (As := [.int (xa1)]) (rest := []) C dX5_isInQueue_7 (fun l => c_X5_isSitter l y _ _ _ _ _ xc3) cv_X5_83 ⟨rfl, rfl, Nat.le_of_ble_eq_true rfl, Nat.le_of_ble_eq_true rfl⟩ (rv5 xq4) rfl (Nat.le_of_ble_eq_true rfl) ?_
    refine g_if_eq (pc := 10) C dX5_isInQueue_10 (tgt := 17) rfl (fun xq6 => ?_) (fun xq6 => ?_)
    · have h := iP xq6 h
      refine g_iconst (v := 0) (pc := 17) C dX5_isInQueue_17 ci_0 ?_
      exact rtZ hr dX5_isInQueue_18 (by decide) h
    · have h := iN xq6 h
      refine g_iconst (v := 1) (pc := 13) C dX5_isInQueue_13 ci_1 ?_
      refine g_goto (pc := 14) C dX5_isInQueue_14 (tgt := 18) rfl ?_
      exact rtZ hr dX5_isInQueue_18 (by decide) h
theorem c_X5_isInQueue (l : Launch) (y : YT) (xa0 : Nat) (xa1 : Int32) (σ σ' : Sto) (r : Int32) (h : F_X5_isInQueue xa0 xa1 σ = some (r, σ')) : MI l y yX5_isInQueue (Cond.code yX5_isInQueue cX5_isInQueue 2 (some .boolean) :: TT) rm_X5_isInQueue [.ref (yad y (xa0)), .int (xa1)] σ r σ' :=
  mkZ (by decide) rfl rfl rfl (Nat.le_of_ble_eq_true rfl) (fun x Z C hr => b_X5_isInQueue_0 C hr xa0 xa1 σ h)
def rm_X5_queue : Room := { frames := 3, cells := 0, slots := 0, locals := 64 }
def F_X5_queue (xa0 : Nat) (xa1 : Int32) (xa2 : Int32) (σ : Sto) : Option (Int32 × Sto) := bnd (F_X5_isPlace (xa1) σ) (fun xr3 xσ1 => if (xr3) = 0 then ck (kd (xa0) == 5) (bnd (F_X5_finding (xa0) (-1000001) xσ1) (fun xr8 xσ5 => some (xr8, xσ5))) else ck (kd (xa0) == 5) (bnd (F_X5_isInQueue (xa0) (xa2) xσ1) (fun xr12 xσ9 => if (xr12) = 0 then bnd (F_X5_finding (xa0) (-1000001) xσ9) (fun xr16 xσ14 => some (xr16, xσ14)) else bnd (F_X5_become (xa0) (17 + xa1) (xa2) xσ9) (fun xr19 xσ17 => some (xr19, xσ17)))))
set_option maxHeartbeats 4000000 in
set_option maxRecDepth 20000 in
theorem b_X5_queue_0 {x : XT} {y : YT} {Z : State → Prop} (C : Cx x y (AY y) RX5 cX5_queue 3 rm_X5_queue) {r : Int32} {σ' : Sto} (hr : RetI x y (AY y) 3 cX5_queue Z r σ') (xa0 : Nat) (xa1 : Int32) (xa2 : Int32) (σ : Sto) (h : F_X5_queue xa0 xa1 xa2 σ = some (r, σ')) : GW x y (AY y) 3 Z 0 [(0, .ref (yad y (xa0))), (1, .int (xa1)), (2, .int (xa2))] [] σ := by
  unfold F_X5_queue at h
  refine g_iload_n (pc := 0) C dX5_queue_0 rfl 1 rfl ?_
  obtain ⟨xr3, xσ1, xc2, h⟩ := iB h
  refine g_callSi (pc := 1) (As := [.int (xa1)]) (rest := []) C dX5_queue_1 (fun l => c_X5_isPlace l y _ _ _ _ xc2) cv_X5_87 ⟨rfl, rfl, Nat.le_of_ble_eq_true rfl, Nat.le_of_ble_eq_true rfl⟩ rfl (Nat.le_of_ble_eq_true rfl) ?_
  refine g_if_eq (pc := 4) C dX5_queue_4 (tgt := 27) rfl (fun xq4 => ?_) (fun xq4 => ?_)
  · have h := iP xq4 h
    refine g_aload_n (pc := 27) C dX5_queue_27 rfl 0 rfl ?_
    refine g_ldc (v := (-1000001)) (pc := 28) C dX5_queue_28 wk_X5_60 ?_
    obtain ⟨xq7, h⟩ := iC h
    have xq7 := keq xq7
    obtain ⟨xr8, xσ5, xc6, h⟩ := iB h
    refine g_callVi (pc := 30) (As := [.int ((-1000001))]) (rest := []) C dX5_queue_30 (fun l => c_X5_finding l y _ _ _ _ _ xc6) cv_X5_66 ⟨rfl, rfl, Nat.le_of_ble_eq_true rfl, Nat.le_of_ble_eq_true rfl⟩ (rv5 xq7) rfl (Nat.le_of_ble_eq_true rfl) ?_
    exact rtI hr dX5_queue_33 h
  · have h := iN xq4 h
    refine g_aload_n (pc := 7) C dX5_queue_7 rfl 0 rfl ?_
    refine g_iload_n (pc := 8) C dX5_queue_8 rfl 2 rfl ?_
    obtain ⟨xq11, h⟩ := iC h
    have xq11 := keq xq11
    obtain ⟨xr12, xσ9, xc10, h⟩ := iB h
    refine g_callVi (pc := 9) (As := [.int (xa2)]) (rest := []) C dX5_queue_9 (fun l => c_X5_isInQueue l y _ _ _ _ _ xc10) cv_X5_90 ⟨rfl, rfl, Nat.le_of_ble_eq_true rfl, Nat.le_of_ble_eq_true rfl⟩ (rv5 xq11) rfl (Nat.le_of_ble_eq_true rfl) ?_
    refine g_if_eq (pc := 12) C dX5_queue_12 (tgt := 27) rfl (fun xq13 => ?_) (fun xq13 => ?_)
    · have h := iP xq13 h
      refine g_aload_n (pc := 27) C dX5_queue_27 rfl 0 rfl ?_
      refine g_ldc (v := (-1000001)) (pc := 28) C dX5_queue_28 wk_X5_60 ?_
      obtain ⟨xr16, xσ14, xc15, h⟩ := iB h
      refine g_callVi (pc := 30) (As := [.int ((-1000001))]) (rest := []) C dX5_queue_30 (fun l => c_X5_finding l y _ _ _ _ _ xc15) cv_X5_66 ⟨rfl, rfl, Nat.le_of_ble_eq_true rfl, Nat.le_of_ble_eq_true rfl⟩ (rv5 xq11) rfl (Nat.le_of_ble_eq_true rfl) ?_
      exact rtI hr dX5_queue_33 h
    · have h := iN xq13 h
      refine g_aload_n (pc := 15) C dX5_queue_15 rfl 0 rfl ?_
      refine g_bipush (v := 17) (pc := 16) C dX5_queue_16 cb_17 ?_
      refine g_iload_n (pc := 18) C dX5_queue_18 rfl 1 rfl ?_
      refine g_iadd (pc := 19) C dX5_queue_19 ?_
      refine g_iload_n (pc := 20) C dX5_queue_20 rfl 2 rfl ?_
      obtain ⟨xr19, xσ17, xc18, h⟩ := iB h
      refine g_callVi (pc := 21) (As := [.int (17 + xa1), .int (xa2)]) (rest := []) C dX5_queue_21 (fun l => c_X5_become l y _ _ _ _ _ _ xc18) cv_X5_79 ⟨rfl, rfl, Nat.le_of_ble_eq_true rfl, Nat.le_of_ble_eq_true rfl⟩ (rv5 xq11) rfl (Nat.le_of_ble_eq_true rfl) ?_
      refine g_goto (pc := 24) C dX5_queue_24 (tgt := 33) rfl ?_
      exact rtI hr dX5_queue_33 h
theorem c_X5_queue (l : Launch) (y : YT) (xa0 : Nat) (xa1 : Int32) (xa2 : Int32) (σ σ' : Sto) (r : Int32) (h : F_X5_queue xa0 xa1 xa2 σ = some (r, σ')) : MI l y yX5_queue (Cond.code yX5_queue cX5_queue 3 (some .int) :: TT) rm_X5_queue [.ref (yad y (xa0)), .int (xa1), .int (xa2)] σ r σ' :=
  mkI (by decide) rfl rfl rfl (Nat.le_of_ble_eq_true rfl) (fun x Z C hr => b_X5_queue_0 C hr xa0 xa1 xa2 σ h)
def rm_X5_place : Room := { frames := 2, cells := 0, slots := 0, locals := 42 }
def F_X5_place (xa0 : Nat) (xa1 : Int32) (σ : Sto) : Option (Int32 × Sto) := bnd (F_X5_isPlace (xa1) σ) (fun xr3 xσ1 => if (xr3) = 0 then ck (kd (xa0) == 5) (bnd (F_X5_finding (xa0) (-1000001) xσ1) (fun xr8 xσ5 => some (xr8, xσ5))) else ck (kd (xa0) == 5) (ck (inr (17 + xa1) (79)) (some (xσ1 50 ((17 + xa1 : Int32).toNatClampNeg), xσ1))))
set_option maxHeartbeats 4000000 in
set_option maxRecDepth 20000 in
theorem b_X5_place_0 {x : XT} {y : YT} {Z : State → Prop} (C : Cx x y (AY y) RX5 cX5_place 2 rm_X5_place) {r : Int32} {σ' : Sto} (hr : RetI x y (AY y) 2 cX5_place Z r σ') (xa0 : Nat) (xa1 : Int32) (σ : Sto) (h : F_X5_place xa0 xa1 σ = some (r, σ')) : GW x y (AY y) 2 Z 0 [(0, .ref (yad y (xa0))), (1, .int (xa1))] [] σ := by
  unfold F_X5_place at h
  refine g_iload_n (pc := 0) C dX5_place_0 rfl 1 rfl ?_
  obtain ⟨xr3, xσ1, xc2, h⟩ := iB h
  refine g_callSi (pc := 1) (As := [.int (xa1)]) (rest := []) C dX5_place_1 (fun l => c_X5_isPlace l y _ _ _ _ xc2) cv_X5_87 ⟨rfl, rfl, Nat.le_of_ble_eq_true rfl, Nat.le_of_ble_eq_true rfl⟩ rfl (Nat.le_of_ble_eq_true rfl) ?_
  refine g_if_eq (pc := 4) C dX5_place_4 (tgt := 19) rfl (fun xq4 => ?_) (fun xq4 => ?_)
  · have h := iP xq4 h
    refine g_aload_n (pc := 19) C dX5_place_19 rfl 0 rfl ?_
    refine g_ldc (v := (-1000001)) (pc := 20) C dX5_place_20 wk_X5_60 ?_
    obtain ⟨xq7, h⟩ := iC h
    have xq7 := keq xq7
    obtain ⟨xr8, xσ5, xc6, h⟩ := iB h
    refine g_callVi (pc := 22) (As := [.int ((-1000001))]) (rest := []) C dX5_place_22 (fun l => c_X5_finding l y _ _ _ _ _ xc6) cv_X5_66 ⟨rfl, rfl, Nat.le_of_ble_eq_true rfl, Nat.le_of_ble_eq_true rfl⟩ (rv5 xq7) rfl (Nat.le_of_ble_eq_true rfl) ?_
    exact rtI hr dX5_place_25 h
  · have h := iN xq4 h
    refine g_aload_n (pc := 7) C dX5_place_7 rfl 0 rfl ?_
    obtain ⟨xq9, h⟩ := iC h
    have xq9 := keq xq9
    refine gf_5_0 (pc := 8) C wf_X5_9 dX5_place_8 xq9 ?_
    refine g_bipush (v := 17) (pc := 11) C dX5_place_11 cb_17 ?_
    refine g_iload_n (pc := 13) C dX5_place_13 rfl 1 rfl ?_
    refine g_iadd (pc := 14) C dX5_place_14 ?_
    obtain ⟨xq10, h⟩ := iC h
    refine g_iald (pc := 15) C dX5_place_15 rfl (ivp xq10 rfl) (j := (17 + xa1 : Int32).toNatClampNeg) rfl ?_
    refine g_goto (pc := 16) C dX5_place_16 (tgt := 25) rfl ?_
    exact rtI hr dX5_place_25 h
theorem c_X5_place (l : Launch) (y : YT) (xa0 : Nat) (xa1 : Int32) (σ σ' : Sto) (r : Int32) (h : F_X5_place xa0 xa1 σ = some (r, σ')) : MI l y yX5_place (Cond.code yX5_place cX5_place 2 (some .int) :: TT) rm_X5_place [.ref (yad y (xa0)), .int (xa1)] σ r σ' :=
  mkI (by decide) rfl rfl rfl (Nat.le_of_ble_eq_true rfl) (fun x Z C hr => b_X5_place_0 C hr xa0 xa1 σ h)
def rm_X5_isKind : Room := { frames := 1, cells := 0, slots := 0, locals := 22 }
def F_X5_isKind (xa0 : Int32) (σ : Sto) : Option (Int32 × Sto) := bnd (F_X5_within (xa0) 0 6 σ) (fun xr3 xσ1 => ck (z01 (xr3)) (some (xr3, xσ1)))
set_option maxHeartbeats 4000000 in
set_option maxRecDepth 20000 in
theorem b_X5_isKind_0 {x : XT} {y : YT} {Z : State → Prop} (C : Cx x y (AY y) RX5 cX5_isKind 1 rm_X5_isKind) {r : Int32} {σ' : Sto} (hr : RetZ x y (AY y) 1 cX5_isKind Z r σ') (xa0 : Int32) (σ : Sto) (h : F_X5_isKind xa0 σ = some (r, σ')) : GW x y (AY y) 1 Z 0 [(0, .int (xa0))] [] σ := by
  unfold F_X5_isKind at h
  refine g_iload_n (pc := 0) C dX5_isKind_0 rfl 0 rfl ?_
  refine g_iconst (v := 0) (pc := 1) C dX5_isKind_1 ci_0 ?_
  refine g_bipush (v := 6) (pc := 2) C dX5_isKind_2 cb_6 ?_
  obtain ⟨xr3, xσ1, xc2, h⟩ := iB h
  refine g_callSi (pc := 4) (As := [.int (xa0), .int (0), .int (6)]) (rest := []) C dX5_isKind_4 (fun l => c_X5_within l y _ _ _ _ _ _ xc2) cv_X5_70 ⟨rfl, rfl, Nat.le_of_ble_eq_true rfl, Nat.le_of_ble_eq_true rfl⟩ rfl (Nat.le_of_ble_eq_true rfl) ?_
  obtain ⟨xz, h⟩ := iC h
  exact rtZ hr dX5_isKind_7 (z01_or xz) h
theorem c_X5_isKind (l : Launch) (y : YT) (xa0 : Int32) (σ σ' : Sto) (r : Int32) (h : F_X5_isKind xa0 σ = some (r, σ')) : MI l y yX5_isKind (Cond.code yX5_isKind cX5_isKind 1 (some .boolean) :: TT) rm_X5_isKind [.int (xa0)] σ r σ' :=
  mkZ (by decide) rfl rfl rfl (Nat.le_of_ble_eq_true rfl) (fun x Z C hr => b_X5_isKind_0 C hr xa0 σ h)
def rm_X5_sitterAt : Room := { frames := 0, cells := 0, slots := 0, locals := 0 }
def F_X5_sitterAt (xa0 : Int32) (xa1 : Int32) (σ : Sto) : Option (Int32 × Sto) := some ((23 + (7 * xa0)) + xa1, σ)
set_option maxHeartbeats 4000000 in
set_option maxRecDepth 20000 in
theorem b_X5_sitterAt_0 {x : XT} {y : YT} {Z : State → Prop} (C : Cx x y (AY y) RX5 cX5_sitterAt 2 rm_X5_sitterAt) {r : Int32} {σ' : Sto} (hr : RetI x y (AY y) 2 cX5_sitterAt Z r σ') (xa0 : Int32) (xa1 : Int32) (σ : Sto) (h : F_X5_sitterAt xa0 xa1 σ = some (r, σ')) : GW x y (AY y) 2 Z 0 [(0, .int (xa0)), (1, .int (xa1))] [] σ := by
  unfold F_X5_sitterAt at h
  refine g_bipush (v := 23) (pc := 0) C dX5_sitterAt_0 cb_23 ?_
  refine g_bipush (v := 7) (pc := 2) C dX5_sitterAt_2 cb_7 ?_
  refine g_iload_n (pc := 4) C dX5_sitterAt_4 rfl 0 rfl ?_
  refine g_imul (pc := 5) C dX5_sitterAt_5 ?_
  refine g_iadd (pc := 6) C dX5_sitterAt_6 ?_
  refine g_iload_n (pc := 7) C dX5_sitterAt_7 rfl 1 rfl ?_
  refine g_iadd (pc := 8) C dX5_sitterAt_8 ?_
  exact rtI hr dX5_sitterAt_9 h
theorem c_X5_sitterAt (l : Launch) (y : YT) (xa0 : Int32) (xa1 : Int32) (σ σ' : Sto) (r : Int32) (h : F_X5_sitterAt xa0 xa1 σ = some (r, σ')) : MI l y yX5_sitterAt (Cond.code yX5_sitterAt cX5_sitterAt 2 (some .int) :: TT) rm_X5_sitterAt [.int (xa0), .int (xa1)] σ r σ' :=
  mkI (by decide) rfl rfl rfl (Nat.le_of_ble_eq_true rfl) (fun x Z C hr => b_X5_sitterAt_0 C hr xa0 xa1 σ h)
def rm_X5_sitterIs : Room := { frames := 1, cells := 0, slots := 0, locals := 21 }
def F_X5_sitterIs (xa0 : Nat) (xa1 : Int32) (xa2 : Int32) (σ : Sto) : Option (Int32 × Sto) := ck (kd (xa0) == 5) (bnd (F_X5_sitterAt (xa1) (xa2) σ) (fun xr4 xσ2 => ck (inr (xr4) (79)) (some (xσ2 50 (xr4.toNatClampNeg), xσ2))))
set_option maxHeartbeats 4000000 in
set_option maxRecDepth 20000 in
theorem b_X5_sitterIs_0 {x : XT} {y : YT} {Z : State → Prop} (C : Cx x y (AY y) RX5 cX5_sitterIs 3 rm_X5_sitterIs) {r : Int32} {σ' : Sto} (hr : RetI x y (AY y) 3 cX5_sitterIs Z r σ') (xa0 : Nat) (xa1 : Int32) (xa2 : Int32) (σ : Sto) (h : F_X5_sitterIs xa0 xa1 xa2 σ = some (r, σ')) : GW x y (AY y) 3 Z 0 [(0, .ref (yad y (xa0))), (1, .int (xa1)), (2, .int (xa2))] [] σ := by
  unfold F_X5_sitterIs at h
  refine g_aload_n (pc := 0) C dX5_sitterIs_0 rfl 0 rfl ?_
  obtain ⟨xq1, h⟩ := iC h
  have xq1 := keq xq1
  refine gf_5_0 (pc := 1) C wf_X5_9 dX5_sitterIs_1 xq1 ?_
  refine g_iload_n (pc := 4) C dX5_sitterIs_4 rfl 1 rfl ?_
  refine g_iload_n (pc := 5) C dX5_sitterIs_5 rfl 2 rfl ?_
  obtain ⟨xr4, xσ2, xc3, h⟩ := iB h
  refine g_callSi (pc := 6) (As := [.int (xa1), .int (xa2)]) (rest := [.ref (yad y (50))]) C dX5_sitterIs_6 (fun l => c_X5_sitterAt l y _ _ _ _ _ xc3) cv_X5_93 ⟨rfl, rfl, Nat.le_of_ble_eq_true rfl, Nat.le_of_ble_eq_true rfl⟩ rfl (Nat.le_of_ble_eq_true rfl) ?_
  obtain ⟨xq5, h⟩ := iC h
  refine g_iald (pc := 9) C dX5_sitterIs_9 rfl (ivp xq5 rfl) (j := xr4.toNatClampNeg) rfl ?_
  exact rtI hr dX5_sitterIs_10 h
theorem c_X5_sitterIs (l : Launch) (y : YT) (xa0 : Nat) (xa1 : Int32) (xa2 : Int32) (σ σ' : Sto) (r : Int32) (h : F_X5_sitterIs xa0 xa1 xa2 σ = some (r, σ')) : MI l y yX5_sitterIs (Cond.code yX5_sitterIs cX5_sitterIs 3 (some .int) :: TT) rm_X5_sitterIs [.ref (yad y (xa0)), .int (xa1), .int (xa2)] σ r σ' :=
  mkI (by decide) rfl rfl rfl (Nat.le_of_ble_eq_true rfl) (fun x Z C hr => b_X5_sitterIs_0 C hr xa0 xa1 xa2 σ h)
def rm_X5_comes : Room := { frames := 1, cells := 0, slots := 0, locals := 21 }
def F_X5_comes (xa0 : Nat) (xa1 : Int32) (xa2 : Int32) (xa3 : Int32) (xa4 : Int32) (xa5 : Int32) (σ : Sto) : Option (Int32 × Sto) := ck (kd (xa0) == 5) (lti (σ 50 1) (fun xv2 => bnd (F_X5_sitterAt (xv2) 0 σ) (fun xr5 xσ3 => ck (inr (xr5) (79)) (lts (up2 xσ3 50 (xr5.toNatClampNeg) (xa1)) (fun xσ7 => bnd (F_X5_sitterAt (xv2) 1 xσ7) (fun xr10 xσ8 => ck (inr (xr10) (79)) (lts (up2 xσ8 50 (xr10.toNatClampNeg) (xa2)) (fun xσ12 => bnd (F_X5_sitterAt (xv2) 2 xσ12) (fun xr15 xσ13 => ck (inr (xr15) (79)) (lts (up2 xσ13 50 (xr15.toNatClampNeg) (xa3)) (fun xσ17 => bnd (F_X5_sitterAt (xv2) 3 xσ17) (fun xr20 xσ18 => ck (inr (xr20) (79)) (lts (up2 xσ18 50 (xr20.toNatClampNeg) (xa4)) (fun xσ22 => bnd (F_X5_sitterAt (xv2) 4 xσ22) (fun xr25 xσ23 => ck (inr (xr25) (79)) (lts (up2 xσ23 50 (xr25.toNatClampNeg) (xa5)) (fun xσ27 => bnd (F_X5_sitterAt (xv2) 5 xσ27) (fun xr30 xσ28 => ck (inr (xr30) (79)) (lts (up2 xσ28 50 (xr30.toNatClampNeg) (0)) (fun xσ32 => bnd (F_X5_sitterAt (xv2) 6 xσ32) (fun xr35 xσ33 => ck (inr (xr35) (79)) (lts (up2 xσ33 50 (xr35.toNatClampNeg) (0)) (fun xσ37 => lts (up2 xσ37 50 1 ((xσ37 50 1) + 1)) (fun xσ38 => some (xv2, xσ38)))))))))))))))))))))))))
set_option maxHeartbeats 4000000 in
set_option maxRecDepth 20000 in
theorem b_X5_comes_0 {x : XT} {y : YT} {Z : State → Prop} (C : Cx x y (AY y) RX5 cX5_comes 7 rm_X5_comes) {r : Int32} {σ' : Sto} (hr : RetI x y (AY y) 7 cX5_comes Z r σ') (xa0 : Nat) (xa1 : Int32) (xa2 : Int32) (xa3 : Int32) (xa4 : Int32) (xa5 : Int32) (σ : Sto) (h : F_X5_comes xa0 xa1 xa2 xa3 xa4 xa5 σ = some (r, σ')) : GW x y (AY y) 7 Z 0 [(0, .ref (yad y (xa0))), (1, .int (xa1)), (2, .int (xa2)), (3, .int (xa3)), (4, .int (xa4)), (5, .int (xa5))] [] σ := by
  unfold F_X5_comes at h
  refine g_aload_n (pc := 0) C dX5_comes_0 rfl 0 rfl ?_
  obtain ⟨xq1, h⟩ := iC h
  have xq1 := keq xq1
  refine gf_5_0 (pc := 1) C wf_X5_9 dX5_comes_1 xq1 ?_
  refine g_iconst (v := 1) (pc := 4) C dX5_comes_4 ci_1 ?_
  refine g_iald (pc := 5) C dX5_comes_5 rfl (ivp (by decide) rfl) (j := 1) ct_1 ?_
  refine g_letI h (fun xv2 h => ?_)
  refine g_istore (i := 6) (lv' := [(6, .int (xv2)), (0, .ref (yad y (xa0))), (1, .int (xa1)), (2, .int (xa2)), (3, .int (xa3)), (4, .int (xa4)), (5, .int (xa5))]) (pc := 6) C dX5_comes_6 (Nat.le_of_ble_eq_true rfl) rfl ?_
  refine g_aload_n (pc := 8) C dX5_comes_8 rfl 1 rfl ?_
  refine gf_5_0 (pc := 9) C wf_X5_9 dX5_comes_9 xq1 ?_
  refine g_iload (pc := 12) C dX5_comes_12 0 rfl ?_
  refine g_iconst (v := 0) (pc := 14) C dX5_comes_14 ci_0 ?_
  obtain ⟨xr5, xσ3, xc4, h⟩ := iB h
  refine g_callSi (pc := 15) (As := [.int (xv2), .int (0)]) (rest := [.ref (yad y (50))]) C dX5_comes_15 (fun l => c_X5_sitterAt l y _ _ _ _ _ xc4) cv_X5_93 ⟨rfl, rfl, Nat.le_of_ble_eq_true rfl, Nat.le_of_ble_eq_true rfl⟩ rfl (Nat.le_of_ble_eq_true rfl) ?_
  refine g_iload_n (pc := 18) C dX5_comes_18 rfl 2 rfl ?_
  obtain ⟨xq6, h⟩ := iC h
  refine g_iast (pc := 19) C dX5_comes_19 rfl (ivp xq6 rfl) (j := xr5.toNatClampNeg) rfl ?_
  refine g_letS h (fun xσ7 h => ?_)
  refine g_aload_n (pc := 20) C dX5_comes_20 rfl 1 rfl ?_
  refine gf_5_0 (pc := 21) C wf_X5_9 dX5_comes_21 xq1 ?_
  refine g_iload (pc := 24) C dX5_comes_24 0 rfl ?_
  refine g_iconst (v := 1) (pc := 26) C dX5_comes_26 ci_1 ?_
  obtain ⟨xr10, xσ8, xc9, h⟩ := iB h
  refine g_callSi (pc := 27) (As := [.int (xv2), .int (1)]) (rest := [.ref (yad y (50))]) C dX5_comes_27 (fun l => c_X5_sitterAt l y _ _ _ _ _ xc9) cv_X5_93 ⟨rfl, rfl, Nat.le_of_ble_eq_true rfl, Nat.le_of_ble_eq_true rfl⟩ rfl (Nat.le_of_ble_eq_true rfl) ?_
  refine g_iload_n (pc := 30) C dX5_comes_30 rfl 3 rfl ?_
  obtain ⟨xq11, h⟩ := iC h
  refine g_iast (pc := 31) C dX5_comes_31 rfl (ivp xq11 rfl) (j := xr10.toNatClampNeg) rfl ?_
  refine g_letS h (fun xσ12 h => ?_)
  refine g_aload_n (pc := 32) C dX5_comes_32 rfl 1 rfl ?_
  refine gf_5_0 (pc := 33) C wf_X5_9 dX5_comes_33 xq1 ?_
  refine g_iload (pc := 36) C dX5_comes_36 0 rfl ?_
  refine g_iconst (v := 2) (pc := 38) C dX5_comes_38 ci_2 ?_
  obtain ⟨xr15, xσ13, xc14, h⟩ := iB h
  refine g_callSi (pc := 39) (As := [.int (xv2), .int (2)]) (rest := [.ref (yad y (50))]) C dX5_comes_39 (fun l => c_X5_sitterAt l y _ _ _ _ _ xc14) cv_X5_93 ⟨rfl, rfl, Nat.le_of_ble_eq_true rfl, Nat.le_of_ble_eq_true rfl⟩ rfl (Nat.le_of_ble_eq_true rfl) ?_
  refine g_iload_n (pc := 42) C dX5_comes_42 rfl 4 rfl ?_
  obtain ⟨xq16, h⟩ := iC h
  refine g_iast (pc := 43) C dX5_comes_43 rfl (ivp xq16 rfl) (j := xr15.toNatClampNeg) rfl ?_
  refine g_letS h (fun xσ17 h => ?_)
  refine g_aload_n (pc := 44) C dX5_comes_44 rfl 1 rfl ?_
  refine gf_5_0 (pc := 45) C wf_X5_9 dX5_comes_45 xq1 ?_
  refine g_iload (pc := 48) C dX5_comes_48 0 rfl ?_
  refine g_iconst (v := 3) (pc := 50) C dX5_comes_50 ci_3 ?_
  obtain ⟨xr20, xσ18, xc19, h⟩ := iB h
  refine g_callSi (pc := 51) (As := [.int (xv2), .int (3)]) (rest := [.ref (yad y (50))]) C dX5_comes_51 (fun l => c_X5_sitterAt l y _ _ _ _ _ xc19) cv_X5_93 ⟨rfl, rfl, Nat.le_of_ble_eq_true rfl, Nat.le_of_ble_eq_true rfl⟩ rfl (Nat.le_of_ble_eq_true rfl) ?_
  refine g_iload (pc := 54) C dX5_comes_54 5 rfl ?_
  obtain ⟨xq21, h⟩ := iC h
  refine g_iast (pc := 56) C dX5_comes_56 rfl (ivp xq21 rfl) (j := xr20.toNatClampNeg) rfl ?_
  refine g_letS h (fun xσ22 h => ?_)
  refine g_aload_n (pc := 57) C dX5_comes_57 rfl 1 rfl ?_
  refine gf_5_0 (pc := 58) C wf_X5_9 dX5_comes_58 xq1 ?_
  refine g_iload (pc := 61) C dX5_comes_61 0 rfl ?_
  refine g_iconst (v := 4) (pc := 63) C dX5_comes_63 ci_4 ?_
  obtain ⟨xr25, xσ23, xc24, h⟩ := iB h
  refine g_callSi (pc := 64) (As := [.int (xv2), .int (4)]) (rest := [.ref (yad y (50))]) C dX5_comes_64 (fun l => c_X5_sitterAt l y _ _ _ _ _ xc24) cv_X5_93 ⟨rfl, rfl, Nat.le_of_ble_eq_true rfl, Nat.le_of_ble_eq_true rfl⟩ rfl (Nat.le_of_ble_eq_true rfl) ?_
  refine g_iload (pc := 67) C dX5_comes_67 6 rfl ?_
  obtain ⟨xq26, h⟩ := iC h
  refine g_iast (pc := 69) C dX5_comes_69 rfl (ivp xq26 rfl) (j := xr25.toNatClampNeg) rfl ?_
  refine g_letS h (fun xσ27 h => ?_)
  refine g_aload_n (pc := 70) C dX5_comes_70 rfl 1 rfl ?_
  refine gf_5_0 (pc := 71) C wf_X5_9 dX5_comes_71 xq1 ?_
  refine g_iload (pc := 74) C dX5_comes_74 0 rfl ?_
  refine g_iconst (v := 5) (pc := 76) C dX5_comes_76 ci_5 ?_
  obtain ⟨xr30, xσ28, xc29, h⟩ := iB h
  refine g_callSi (pc := 77) (As := [.int (xv2), .int (5)]) (rest := [.ref (yad y (50))]) C dX5_comes_77 (fun l => c_X5_sitterAt l y _ _ _ _ _ xc29) cv_X5_93 ⟨rfl, rfl, Nat.le_of_ble_eq_true rfl, Nat.le_of_ble_eq_true rfl⟩ rfl (Nat.le_of_ble_eq_true rfl) ?_
  refine g_iconst (v := 0) (pc := 80) C dX5_comes_80 ci_0 ?_
  obtain ⟨xq31, h⟩ := iC h
  refine g_iast (pc := 81) C dX5_comes_81 rfl (ivp xq31 rfl) (j := xr30.toNatClampNeg) rfl ?_
  refine g_letS h (fun xσ32 h => ?_)
  refine g_aload_n (pc := 82) C dX5_comes_82 rfl 1 rfl ?_
  refine gf_5_0 (pc := 83) C wf_X5_9 dX5_comes_83 xq1 ?_
  refine g_iload (pc := 86) C dX5_comes_86 0 rfl ?_
  refine g_bipush (v := 6) (pc := 88) C dX5_comes_88 cb_6 ?_
  obtain ⟨xr35, xσ33, xc34, h⟩ := iB h
  refine g_callSi (pc := 90) (As := [.int (xv2), .int (6)]) (rest := [.ref (yad y (50))]) C dX5_comes_90 (fun l => c_X5_sitterAt l y _ _ _ _ _ xc34) cv_X5_93 ⟨rfl, rfl, Nat.le_of_ble_eq_true rfl, Nat.le_of_ble_eq_true rfl⟩ rfl (Nat.le_of_ble_eq_true rfl) ?_
  refine g_iconst (v := 0) (pc := 93) C dX5_comes_93 ci_0 ?_
  obtain ⟨xq36, h⟩ := iC h
  refine g_iast (pc := 94) C dX5_comes_94 rfl (ivp xq36 rfl) (j := xr35.toNatClampNeg) rfl ?_
  refine g_letS h (fun xσ37 h => ?_)
  refine g_aload_n (pc := 95) C dX5_comes_95 rfl 1 rfl ?_
  refine gf_5_0 (pc := 96) C wf_X5_9 dX5_comes_96 xq1 ?_
  refine g_iconst (v := 1) (pc := 99) C dX5_comes_99 ci_1 ?_
  refine g_dup2 (pc := 100) C dX5_comes_100 rfl rfl ?_
  refine g_iald (pc := 101) C dX5_comes_101 rfl (ivp (by decide) rfl) (j := 1) ct_1 ?_
  refine g_iconst (v := 1) (pc := 102) C dX5_comes_102 ci_1 ?_
  refine g_iadd (pc := 103) C dX5_comes_103 ?_
  refine g_iast (pc := 104) C dX5_comes_104 rfl (ivp (by decide) rfl) (j := 1) ct_1 ?_
  refine g_letS h (fun xσ38 h => ?_)
  refine g_iload (pc := 105) C dX5_comes_105 0 rfl ?_
  exact rtI hr dX5_comes_107 h
theorem c_X5_comes (l : Launch) (y : YT) (xa0 : Nat) (xa1 : Int32) (xa2 : Int32) (xa3 : Int32) (xa4 : Int32) (xa5 : Int32) (σ σ' : Sto) (r : Int32) (h : F_X5_comes xa0 xa1 xa2 xa3 xa4 xa5 σ = some (r, σ')) : MI l y yX5_comes (Cond.code yX5_comes cX5_comes 7 (some .int) :: TT) rm_X5_comes [.ref (yad y (xa0)), .int (xa1), .int (xa2), .int (xa3), .int (xa4), .int (xa5)] σ r σ' :=
  mkI (by decide) rfl rfl rfl (Nat.le_of_ble_eq_true rfl) (fun x Z C hr => b_X5_comes_0 C hr xa0 xa1 xa2 xa3 xa4 xa5 σ h)
def rm_X5_sitter : Room := { frames := 2, cells := 0, slots := 0, locals := 47 }
def F_X5_sitter (xa0 : Nat) (xa1 : Int32) (xa2 : Int32) (σ : Sto) : Option (Int32 × Sto) := bnd (F_X5_isKind (xa1) σ) (fun xr3 xσ1 => if (xr3) = 0 then ck (kd (xa0) == 5) (bnd (F_X5_finding (xa0) (-1000001) xσ1) (fun xr8 xσ5 => some (xr8, xσ5))) else bnd (F_X5_within (xa2) 0 90 xσ1) (fun xr11 xσ9 => if (xr11) = 0 then ck (kd (xa0) == 5) (bnd (F_X5_finding (xa0) (-1000001) xσ9) (fun xr24 xσ21 => some (xr24, xσ21))) else ck (kd (xa0) == 5) (if (xσ9 50 1) = 8 then bnd (F_X5_finding (xa0) (-1000002) xσ9) (fun xr20 xσ18 => some (xr20, xσ18)) else bnd (F_X5_comes (xa0) (xa1) (xa2) 5 3 20 xσ9) (fun xr17 xσ15 => some (xr17, xσ15)))))
set_option maxHeartbeats 4000000 in
set_option maxRecDepth 20000 in
theorem b_X5_sitter_0 {x : XT} {y : YT} {Z : State → Prop} (C : Cx x y (AY y) RX5 cX5_sitter 3 rm_X5_sitter) {r : Int32} {σ' : Sto} (hr : RetI x y (AY y) 3 cX5_sitter Z r σ') (xa0 : Nat) (xa1 : Int32) (xa2 : Int32) (σ : Sto) (h : F_X5_sitter xa0 xa1 xa2 σ = some (r, σ')) : GW x y (AY y) 3 Z 0 [(0, .ref (yad y (xa0))), (1, .int (xa1)), (2, .int (xa2))] [] σ := by
  unfold F_X5_sitter at h
  refine g_iload_n (pc := 0) C dX5_sitter_0 rfl 1 rfl ?_
  obtain ⟨xr3, xσ1, xc2, h⟩ := iB h
  refine g_callSi (pc := 1) (As := [.int (xa1)]) (rest := []) C dX5_sitter_1 (fun l => c_X5_isKind l y _ _ _ _ xc2) cv_X5_96 ⟨rfl, rfl, Nat.le_of_ble_eq_true rfl, Nat.le_of_ble_eq_true rfl⟩ rfl (Nat.le_of_ble_eq_true rfl) ?_
  refine g_if_eq (pc := 4) C dX5_sitter_4 (tgt := 17) rfl (fun xq4 => ?_) (fun xq4 => ?_)
  · have h := iP xq4 h
    refine g_aload_n (pc := 17) C dX5_sitter_17 rfl 0 rfl ?_
    refine g_ldc (v := (-1000001)) (pc := 18) C dX5_sitter_18 wk_X5_60 ?_
    obtain ⟨xq7, h⟩ := iC h
    have xq7 := keq xq7
    obtain ⟨xr8, xσ5, xc6, h⟩ := iB h
    refine g_callVi (pc := 20) (As := [.int ((-1000001))]) (rest := []) C dX5_sitter_20 (fun l => c_X5_finding l y _ _ _ _ _ xc6) cv_X5_66 ⟨rfl, rfl, Nat.le_of_ble_eq_true rfl, Nat.le_of_ble_eq_true rfl⟩ (rv5 xq7) rfl (Nat.le_of_ble_eq_true rfl) ?_
    exact rtI hr dX5_sitter_23 h
  · have h := iN xq4 h
    refine g_iload_n (pc := 7) C dX5_sitter_7 rfl 2 rfl ?_
    refine g_iconst (v := 0) (pc := 8) C dX5_sitter_8 ci_0 ?_
    refine g_bipush (v := 90) (pc := 9) C dX5_sitter_9 cb_90 ?_
    obtain ⟨xr11, xσ9, xc10, h⟩ := iB h
    refine g_callSi (pc := 11) (As := [.int (xa2), .int (0), .int (90)]) (rest := []) C dX5_sitter_11 (fun l => c_X5_within l y _ _ _ _ _ _ xc10) cv_X5_70 ⟨rfl, rfl, Nat.le_of_ble_eq_true rfl, Nat.le_of_ble_eq_true rfl⟩ rfl (Nat.le_of_ble_eq_true rfl) ?_
    refine g_if_ne (pc := 14) C dX5_sitter_14 (tgt := 24) rfl (fun xq12 => ?_) (fun xq12 => ?_)
    · have h := iN xq12 h
      refine g_aload_n (pc := 24) C dX5_sitter_24 rfl 0 rfl ?_
      obtain ⟨xq13, h⟩ := iC h
      have xq13 := keq xq13
      refine gf_5_0 (pc := 25) C wf_X5_9 dX5_sitter_25 xq13 ?_
      refine g_iconst (v := 1) (pc := 28) C dX5_sitter_28 ci_1 ?_
      refine g_iald (pc := 29) C dX5_sitter_29 rfl (ivp (by decide) rfl) (j := 1) ct_1 ?_
      refine g_bipush (v := 8) (pc := 30) C dX5_sitter_30 cb_8 ?_
      refine g_icmp_ne (pc := 32) C dX5_sitter_32 (tgt := 44) rfl (fun xq14 => ?_) (fun xq14 => ?_)
      · have h := iN xq14 h
        refine g_aload_n (pc := 44) C dX5_sitter_44 rfl 0 rfl ?_
        refine g_iload_n (pc := 45) C dX5_sitter_45 rfl 1 rfl ?_
        refine g_iload_n (pc := 46) C dX5_sitter_46 rfl 2 rfl ?_
        refine g_iconst (v := 5) (pc := 47) C dX5_sitter_47 ci_5 ?_
        refine g_iconst (v := 3) (pc := 48) C dX5_sitter_48 ci_3 ?_
        refine g_bipush (v := 20) (pc := 49) C dX5_sitter_49 cb_20 ?_
        obtain ⟨xr17, xσ15, xc16, h⟩ := iB h
        refine g_callVi (pc := 51) (As := [.int (xa1), .int (xa2), .int (5), .int (3), .int (20)]) (rest := []) C dX5_sitter_51 (fun l => c_X5_comes l y _ _ _ _ _ _ _ _ _ xc16) cv_X5_100 ⟨rfl, rfl, Nat.le_of_ble_eq_true rfl, Nat.le_of_ble_eq_true rfl⟩ (rv5 xq13) rfl (Nat.le_of_ble_eq_true rfl) ?_
        exact rtI hr dX5_sitter_54 h
      · have h := iP xq14 h
        refine g_aload_n (pc := 35) C dX5_sitter_35 rfl 0 rfl ?_
        refine g_ldc (v := (-1000002)) (pc := 36) C dX5_sitter_36 wk_X5_99 ?_
        obtain ⟨xr20, xσ18, xc19, h⟩ := iB h
        refine g_callVi (pc := 38) (As := [.int ((-1000002))]) (rest := []) C dX5_sitter_38 (fun l => c_X5_finding l y _ _ _ _ _ xc19) cv_X5_66 ⟨rfl, rfl, Nat.le_of_ble_eq_true rfl, Nat.le_of_ble_eq_true rfl⟩ (rv5 xq13) rfl (Nat.le_of_ble_eq_true rfl) ?_
        refine g_goto (pc := 41) C dX5_sitter_41 (tgt := 54) rfl ?_
        exact rtI hr dX5_sitter_54 h
    · have h := iP xq12 h
      refine g_aload_n (pc := 17) C dX5_sitter_17 rfl 0 rfl ?_
      refine g_ldc (v := (-1000001)) (pc := 18) C dX5_sitter_18 wk_X5_60 ?_
      obtain ⟨xq23, h⟩ := iC h
      have xq23 := keq xq23
      obtain ⟨xr24, xσ21, xc22, h⟩ := iB h
      refine g_callVi (pc := 20) (As := [.int ((-1000001))]) (rest := []) C dX5_sitter_20 (fun l => c_X5_finding l y _ _ _ _ _ xc22) cv_X5_66 ⟨rfl, rfl, Nat.le_of_ble_eq_true rfl, Nat.le_of_ble_eq_true rfl⟩ (rv5 xq23) rfl (Nat.le_of_ble_eq_true rfl) ?_
      exact rtI hr dX5_sitter_23 h
theorem c_X5_sitter (l : Launch) (y : YT) (xa0 : Nat) (xa1 : Int32) (xa2 : Int32) (σ σ' : Sto) (r : Int32) (h : F_X5_sitter xa0 xa1 xa2 σ = some (r, σ')) : MI l y yX5_sitter (Cond.code yX5_sitter cX5_sitter 3 (some .int) :: TT) rm_X5_sitter [.ref (yad y (xa0)), .int (xa1), .int (xa2)] σ r σ' :=
  mkI (by decide) rfl rfl rfl (Nat.le_of_ble_eq_true rfl) (fun x Z C hr => b_X5_sitter_0 C hr xa0 xa1 xa2 σ h)
def rm_X5_off : Room := { frames := 2, cells := 0, slots := 0, locals := 43 }
def F_X5_off (xa0 : Nat) (xa1 : Int32) (σ : Sto) : Option (Int32 × Sto) := ck (kd (xa0) == 5) (bnd (F_X5_sitterIs (xa0) (xa1) 1 σ) (fun xr4 xσ1 => some (iabs ((xr4 + (xσ1 50 3)) - 80), xσ1)))
set_option maxHeartbeats 4000000 in
set_option maxRecDepth 20000 in
theorem b_X5_off_0 {x : XT} {y : YT} {Z : State → Prop} (C : Cx x y (AY y) RX5 cX5_off 2 rm_X5_off) {r : Int32} {σ' : Sto} (hr : RetI x y (AY y) 2 cX5_off Z r σ') (xa0 : Nat) (xa1 : Int32) (σ : Sto) (h : F_X5_off xa0 xa1 σ = some (r, σ')) : GW x y (AY y) 2 Z 0 [(0, .ref (yad y (xa0))), (1, .int (xa1))] [] σ := by
  unfold F_X5_off at h
  refine g_aload_n (pc := 0) C dX5_off_0 rfl 0 rfl ?_
  refine g_iload_n (pc := 1) C dX5_off_1 rfl 1 rfl ?_
  refine g_iconst (v := 1) (pc := 2) C dX5_off_2 ci_1 ?_
  obtain ⟨xq3, h⟩ := iC h
  have xq3 := keq xq3
  obtain ⟨xr4, xσ1, xc2, h⟩ := iB h
  refine g_callVi (pc := 3) (As := [.int (xa1), .int (1)]) (rest := []) C dX5_off_3 (fun l => c_X5_sitterIs l y _ _ _ _ _ _ xc2) cv_X5_104 ⟨rfl, rfl, Nat.le_of_ble_eq_true rfl, Nat.le_of_ble_eq_true rfl⟩ (rv5 xq3) rfl (Nat.le_of_ble_eq_true rfl) ?_
  refine g_aload_n (pc := 6) C dX5_off_6 rfl 0 rfl ?_
  refine gf_5_0 (pc := 7) C wf_X5_9 dX5_off_7 xq3 ?_
  refine g_iconst (v := 3) (pc := 10) C dX5_off_10 ci_3 ?_
  refine g_iald (pc := 11) C dX5_off_11 rfl (ivp (by decide) rfl) (j := 3) ct_3 ?_
  refine g_iadd (pc := 12) C dX5_off_12 ?_
  refine g_bipush (v := 80) (pc := 13) C dX5_off_13 cb_80 ?_
  refine g_isub (pc := 15) C dX5_off_15 ?_
  refine g_mabs (pc := 16) C dX5_off_16 wm_X5_107 wt_abs wn_Math wc_abs (Nat.le_of_ble_eq_true rfl) (Nat.le_of_ble_eq_true rfl) ?_
  exact rtI hr dX5_off_19 h
theorem c_X5_off (l : Launch) (y : YT) (xa0 : Nat) (xa1 : Int32) (σ σ' : Sto) (r : Int32) (h : F_X5_off xa0 xa1 σ = some (r, σ')) : MI l y yX5_off (Cond.code yX5_off cX5_off 2 (some .int) :: TT) rm_X5_off [.ref (yad y (xa0)), .int (xa1)] σ r σ' :=
  mkI (by decide) rfl rfl rfl (Nat.le_of_ble_eq_true rfl) (fun x Z C hr => b_X5_off_0 C hr xa0 xa1 σ h)
def rm_X5_may : Room := { frames := 2, cells := 0, slots := 0, locals := 43 }
def F_X5_may (xa0 : Nat) (xa1 : Int32) (σ : Sto) : Option (Int32 × Sto) := ck (kd (xa0) == 5) (bnd (F_X5_sitterIs (xa0) (xa1) 0 σ) (fun xr4 xσ1 => if xr4 = 1 then some (5, xσ1) else if xr4 = 2 then some (2, xσ1) else if xr4 = 3 then some (1, xσ1) else if xr4 = 4 then bnd (F_X5_sitterIs (xa0) (xa1) 2 xσ1) (fun xr11 xσ9 => some (1 + (xr11 / 3), xσ9)) else if xr4 = 5 then some (2, xσ1) else if xr4 = 6 then some (10, xσ1) else some (2, xσ1)))
set_option maxHeartbeats 4000000 in
set_option maxRecDepth 20000 in
theorem b_X5_may_0 {x : XT} {y : YT} {Z : State → Prop} (C : Cx x y (AY y) RX5 cX5_may 2 rm_X5_may) {r : Int32} {σ' : Sto} (hr : RetI x y (AY y) 2 cX5_may Z r σ') (xa0 : Nat) (xa1 : Int32) (σ : Sto) (h : F_X5_may xa0 xa1 σ = some (r, σ')) : GW x y (AY y) 2 Z 0 [(0, .ref (yad y (xa0))), (1, .int (xa1))] [] σ := by
  unfold F_X5_may at h
  refine g_aload_n (pc := 0) C dX5_may_0 rfl 0 rfl ?_
  refine g_iload_n (pc := 1) C dX5_may_1 rfl 1 rfl ?_
  refine g_iconst (v := 0) (pc := 2) C dX5_may_2 ci_0 ?_
  obtain ⟨xq3, h⟩ := iC h
  have xq3 := keq xq3
  obtain ⟨xr4, xσ1, xc2, h⟩ := iB h
  refine g_callVi (pc := 3) (As := [.int (xa1), .int (0)]) (rest := []) C dX5_may_3 (fun l => c_X5_sitterIs l y _ _ _ _ _ _ xc2) cv_X5_104 ⟨rfl, rfl, Nat.le_of_ble_eq_true rfl, Nat.le_of_ble_eq_true rfl⟩ (rv5 xq3) rfl (Nat.le_of_ble_eq_true rfl) ?_
  by_cases xq5 : xr4 = 1
  · have h := iP xq5 h
    refine g_tabIn (pc := 6) C dX5_may_6 (v := 1) (tgt := 44) (by decide) (by decide) rfl rfl xq5 ?_
    refine g_iconst (v := 5) (pc := 44) C dX5_may_44 ci_5 ?_
    exact rtI hr dX5_may_45 h
  · have h := iN xq5 h
    by_cases xq6 : xr4 = 2
    · have h := iP xq6 h
      refine g_tabIn (pc := 6) C dX5_may_6 (v := 2) (tgt := 62) (by decide) (by decide) rfl rfl xq6 ?_
      refine g_iconst (v := 2) (pc := 62) C dX5_may_62 ci_2 ?_
      exact rtI hr dX5_may_63 h
    · have h := iN xq6 h
      by_cases xq7 : xr4 = 3
      · have h := iP xq7 h
        refine g_tabIn (pc := 6) C dX5_may_6 (v := 3) (tgt := 49) (by decide) (by decide) rfl rfl xq7 ?_
        refine g_iconst (v := 1) (pc := 49) C dX5_may_49 ci_1 ?_
        exact rtI hr dX5_may_50 h
      · have h := iN xq7 h
        by_cases xq8 : xr4 = 4
        · have h := iP xq8 h
          refine g_tabIn (pc := 6) C dX5_may_6 (v := 4) (tgt := 51) (by decide) (by decide) rfl rfl xq8 ?_
          refine g_iconst (v := 1) (pc := 51) C dX5_may_51 ci_1 ?_
          refine g_aload_n (pc := 52) C dX5_may_52 rfl 0 rfl ?_
          refine g_iload_n (pc := 53) C dX5_may_53 rfl 1 rfl ?_
          refine g_iconst (v := 2) (pc := 54) C dX5_may_54 ci_2 ?_
          obtain ⟨xr11, xσ9, xc10, h⟩ := iB h
          refine g_callVi (pc := 55) (As := [.int (xa1), .int (2)]) (rest := [.int (1)]) C dX5_may_55 (fun l => c_X5_sitterIs l y _ _ _ _ _ _ xc10) cv_X5_104 ⟨rfl, rfl, Nat.le_of_ble_eq_true rfl, Nat.le_of_ble_eq_true rfl⟩ (rv5 xq3) rfl (Nat.le_of_ble_eq_true rfl) ?_
          refine g_iconst (v := 3) (pc := 58) C dX5_may_58 ci_3 ?_
          refine g_idiv (pc := 59) C dX5_may_59 (by decide) ?_
          refine g_iadd (pc := 60) C dX5_may_60 ?_
          exact rtI hr dX5_may_61 h
        · have h := iN xq8 h
          by_cases xq12 : xr4 = 5
          · have h := iP xq12 h
            refine g_tabIn (pc := 6) C dX5_may_6 (v := 5) (tgt := 62) (by decide) (by decide) rfl rfl xq12 ?_
            refine g_iconst (v := 2) (pc := 62) C dX5_may_62 ci_2 ?_
            exact rtI hr dX5_may_63 h
          · have h := iN xq12 h
            by_cases xq13 : xr4 = 6
            · have h := iP xq13 h
              refine g_tabIn (pc := 6) C dX5_may_6 (v := 6) (tgt := 46) (by decide) (by decide) rfl rfl xq13 ?_
              refine g_bipush (v := 10) (pc := 46) C dX5_may_46 cb_10 ?_
              exact rtI hr dX5_may_48 h
            · have h := iN xq13 h
              have xe0 : ¬ xr4.toInt = 1 := tne xq5
              have xe1 : ¬ xr4.toInt = 2 := tne xq6
              have xe2 : ¬ xr4.toInt = 3 := tne xq7
              have xe3 : ¬ xr4.toInt = 4 := tne xq8
              have xe4 : ¬ xr4.toInt = 5 := tne xq12
              have xe5 : ¬ xr4.toInt = 6 := tne xq13
              refine g_tabOut (pc := 6) C dX5_may_6 (tgt := 62) (by omega) rfl ?_
              refine g_iconst (v := 2) (pc := 62) C dX5_may_62 ci_2 ?_
              exact rtI hr dX5_may_63 h
theorem c_X5_may (l : Launch) (y : YT) (xa0 : Nat) (xa1 : Int32) (σ σ' : Sto) (r : Int32) (h : F_X5_may xa0 xa1 σ = some (r, σ')) : MI l y yX5_may (Cond.code yX5_may cX5_may 2 (some .int) :: TT) rm_X5_may [.ref (yad y (xa0)), .int (xa1)] σ r σ' :=
  mkI (by decide) rfl rfl rfl (Nat.le_of_ble_eq_true rfl) (fun x Z C hr => b_X5_may_0 C hr xa0 xa1 σ h)
def rm_X5_isShut : Room := { frames := 2, cells := 0, slots := 0, locals := 43 }
def F_X5_isShut_b44 (xa0 : Nat) (xa1 : Int32) (xa2 : Int32) (xa3 : Int32) (xs0 : Int32) (σ : Sto) : Option (Int32 × Sto) := ck (kd (xa0) == 5) (bnd (F_X5_sitterIs (xa0) (xa1) 0 σ) (fun xr4 xσ1 => if xr4 = 1 then if (xa3) = 0 then if (xσ1 50 4) < 8 then some (0, xσ1) else some (1, xσ1) else some (1, xσ1) else if xr4 = 2 then ck (z01 (xa3)) (some (xa3, xσ1)) else if xr4 = 3 then ck (z01 (xs0)) (some (xs0, xσ1)) else if xr4 = 4 then if (xs0) = 0 then some (0, xσ1) else if (xσ1 50 4) < 4 then some (0, xσ1) else some (1, xσ1) else if xr4 = 5 then ck (z01 (xa3)) (some (xa3, xσ1)) else if xr4 = 6 then if (irm xa2 2) = 0 then some (1, xσ1) else some (0, xσ1) else ck (z01 (xa3)) (some (xa3, xσ1))))
def F_X5_isShut_b25 (xa0 : Nat) (xa1 : Int32) (xa2 : Int32) (xs0 : Int32) (σ : Sto) : Option (Int32 × Sto) := ck (kd (xa0) == 5) (if (irm ((σ 50 0) + xa2) 3) = 0 then F_X5_isShut_b44 xa0 xa1 xa2 xs0 1 σ else F_X5_isShut_b44 xa0 xa1 xa2 xs0 0 σ)
def F_X5_isShut (xa0 : Nat) (xa1 : Int32) (xa2 : Int32) (σ : Sto) : Option (Int32 × Sto) := ck (kd (xa0) == 5) (bnd (F_X5_sitterIs (xa0) (xa1) 2 σ) (fun xr4 xσ2 => if (irm (((σ 50 0) + xa2) + xr4) 4) = 0 then F_X5_isShut_b25 xa0 xa1 xa2 1 xσ2 else F_X5_isShut_b25 xa0 xa1 xa2 0 xσ2))
set_option maxHeartbeats 4000000 in
set_option maxRecDepth 20000 in
theorem b_X5_isShut_44 {x : XT} {y : YT} {Z : State → Prop} (C : Cx x y (AY y) RX5 cX5_isShut 5 rm_X5_isShut) {r : Int32} {σ' : Sto} (hr : RetZ x y (AY y) 5 cX5_isShut Z r σ') (xa0 : Nat) (xa1 : Int32) (xa2 : Int32) (xa3 : Int32) (xs0 : Int32) (σ : Sto) (h : F_X5_isShut_b44 xa0 xa1 xa2 xa3 xs0 σ = some (r, σ')) : GW x y (AY y) 5 Z 44 [(0, .ref (yad y (xa0))), (1, .int (xa1)), (2, .int (xa2)), (3, .int (xa3))] [.int (xs0)] σ := by
  unfold F_X5_isShut_b44 at h
  refine g_istore (i := 4) (lv' := [(4, .int (xs0)), (0, .ref (yad y (xa0))), (1, .int (xa1)), (2, .int (xa2)), (3, .int (xa3))]) (pc := 44) C dX5_isShut_44 (Nat.le_of_ble_eq_true rfl) rfl ?_
  refine g_aload_n (pc := 46) C dX5_isShut_46 rfl 1 rfl ?_
  refine g_iload_n (pc := 47) C dX5_isShut_47 rfl 2 rfl ?_
  refine g_iconst (v := 0) (pc := 48) C dX5_isShut_48 ci_0 ?_
  obtain ⟨xq3, h⟩ := iC h
  have xq3 := keq xq3
  obtain ⟨xr4, xσ1, xc2, h⟩ := iB h
  refine g_callVi (pc := 49) (As := [.int (xa1), .int (0)]) (rest := []) C dX5_isShut_49 (fun l => c_X5_sitterIs l y _ _ _ _ _ _ xc2) cv_X5_104 ⟨rfl, rfl, Nat.le_of_ble_eq_true rfl, Nat.le_of_ble_eq_true rfl⟩ (rv5 xq3) rfl (Nat.le_of_ble_eq_true rfl) ?_
  by_cases xq5 : xr4 = 1
  · have h := iP xq5 h
    refine g_tabIn (pc := 52) C dX5_isShut_52 (v := 1) (tgt := 92) (by decide) (by decide) rfl rfl xq5 ?_
    refine g_iload_n (pc := 92) C dX5_isShut_92 rfl 4 rfl ?_
    refine g_if_ne (pc := 93) C dX5_isShut_93 (tgt := 107) rfl (fun xq6 => ?_) (fun xq6 => ?_)
    · have h := iN xq6 h
      refine g_iconst (v := 1) (pc := 107) C dX5_isShut_107 ci_1 ?_
      refine g_goto (pc := 108) C dX5_isShut_108 (tgt := 112) rfl ?_
      exact rtZ hr dX5_isShut_112 (by decide) h
    · have h := iP xq6 h
      refine g_aload_n (pc := 96) C dX5_isShut_96 rfl 1 rfl ?_
      refine gf_5_0 (pc := 97) C wf_X5_9 dX5_isShut_97 xq3 ?_
      refine g_iconst (v := 4) (pc := 100) C dX5_isShut_100 ci_4 ?_
      refine g_iald (pc := 101) C dX5_isShut_101 rfl (ivp (by decide) rfl) (j := 4) ct_4 ?_
      refine g_bipush (v := 8) (pc := 102) C dX5_isShut_102 cb_8 ?_
      refine g_icmp_lt (pc := 104) C dX5_isShut_104 (tgt := 111) rfl (fun xq7 => ?_) (fun xq7 => ?_)
      · have h := iP xq7 h
        refine g_iconst (v := 0) (pc := 111) C dX5_isShut_111 ci_0 ?_
        exact rtZ hr dX5_isShut_112 (by decide) h
      · have h := iN xq7 h
        refine g_iconst (v := 1) (pc := 107) C dX5_isShut_107 ci_1 ?_
        refine g_goto (pc := 108) C dX5_isShut_108 (tgt := 112) rfl ?_
        exact rtZ hr dX5_isShut_112 (by decide) h
  · have h := iN xq5 h
    by_cases xq8 : xr4 = 2
    · have h := iP xq8 h
      refine g_tabIn (pc := 52) C dX5_isShut_52 (v := 2) (tgt := 149) (by decide) (by decide) rfl rfl xq8 ?_
      refine g_iload_n (pc := 149) C dX5_isShut_149 rfl 4 rfl ?_
      obtain ⟨xz, h⟩ := iC h
      exact rtZ hr dX5_isShut_150 (z01_or xz) h
    · have h := iN xq8 h
      by_cases xq9 : xr4 = 3
      · have h := iP xq9 h
        refine g_tabIn (pc := 52) C dX5_isShut_52 (v := 3) (tgt := 125) (by decide) (by decide) rfl rfl xq9 ?_
        refine g_iload (pc := 125) C dX5_isShut_125 0 rfl ?_
        obtain ⟨xz, h⟩ := iC h
        exact rtZ hr dX5_isShut_127 (z01_or xz) h
      · have h := iN xq9 h
        by_cases xq10 : xr4 = 4
        · have h := iP xq10 h
          refine g_tabIn (pc := 52) C dX5_isShut_52 (v := 4) (tgt := 128) (by decide) (by decide) rfl rfl xq10 ?_
          refine g_iload (pc := 128) C dX5_isShut_128 0 rfl ?_
          refine g_if_eq (pc := 130) C dX5_isShut_130 (tgt := 147) rfl (fun xq11 => ?_) (fun xq11 => ?_)
          · have h := iP xq11 h
            refine g_iconst (v := 0) (pc := 147) C dX5_isShut_147 ci_0 ?_
            exact rtZ hr dX5_isShut_148 (by decide) h
          · have h := iN xq11 h
            refine g_aload_n (pc := 133) C dX5_isShut_133 rfl 1 rfl ?_
            refine gf_5_0 (pc := 134) C wf_X5_9 dX5_isShut_134 xq3 ?_
            refine g_iconst (v := 4) (pc := 137) C dX5_isShut_137 ci_4 ?_
            refine g_iald (pc := 138) C dX5_isShut_138 rfl (ivp (by decide) rfl) (j := 4) ct_4 ?_
            refine g_iconst (v := 4) (pc := 139) C dX5_isShut_139 ci_4 ?_
            refine g_icmp_lt (pc := 140) C dX5_isShut_140 (tgt := 147) rfl (fun xq12 => ?_) (fun xq12 => ?_)
            · have h := iP xq12 h
              refine g_iconst (v := 0) (pc := 147) C dX5_isShut_147 ci_0 ?_
              exact rtZ hr dX5_isShut_148 (by decide) h
            · have h := iN xq12 h
              refine g_iconst (v := 1) (pc := 143) C dX5_isShut_143 ci_1 ?_
              refine g_goto (pc := 144) C dX5_isShut_144 (tgt := 148) rfl ?_
              exact rtZ hr dX5_isShut_148 (by decide) h
        · have h := iN xq10 h
          by_cases xq13 : xr4 = 5
          · have h := iP xq13 h
            refine g_tabIn (pc := 52) C dX5_isShut_52 (v := 5) (tgt := 149) (by decide) (by decide) rfl rfl xq13 ?_
            refine g_iload_n (pc := 149) C dX5_isShut_149 rfl 4 rfl ?_
            obtain ⟨xz, h⟩ := iC h
            exact rtZ hr dX5_isShut_150 (z01_or xz) h
          · have h := iN xq13 h
            by_cases xq14 : xr4 = 6
            · have h := iP xq14 h
              refine g_tabIn (pc := 52) C dX5_isShut_52 (v := 6) (tgt := 113) (by decide) (by decide) rfl rfl xq14 ?_
              refine g_iload_n (pc := 113) C dX5_isShut_113 rfl 3 rfl ?_
              refine g_iconst (v := 2) (pc := 114) C dX5_isShut_114 ci_2 ?_
              refine g_irem (pc := 115) C dX5_isShut_115 (by decide) ?_
              refine g_if_ne (pc := 116) C dX5_isShut_116 (tgt := 123) rfl (fun xq15 => ?_) (fun xq15 => ?_)
              · have h := iN xq15 h
                refine g_iconst (v := 0) (pc := 123) C dX5_isShut_123 ci_0 ?_
                exact rtZ hr dX5_isShut_124 (by decide) h
              · have h := iP xq15 h
                refine g_iconst (v := 1) (pc := 119) C dX5_isShut_119 ci_1 ?_
                refine g_goto (pc := 120) C dX5_isShut_120 (tgt := 124) rfl ?_
                exact rtZ hr dX5_isShut_124 (by decide) h
            · have h := iN xq14 h
              have xe0 : ¬ xr4.toInt = 1 := tne xq5
              have xe1 : ¬ xr4.toInt = 2 := tne xq8
              have xe2 : ¬ xr4.toInt = 3 := tne xq9
              have xe3 : ¬ xr4.toInt = 4 := tne xq10
              have xe4 : ¬ xr4.toInt = 5 := tne xq13
              have xe5 : ¬ xr4.toInt = 6 := tne xq14
              refine g_tabOut (pc := 52) C dX5_isShut_52 (tgt := 149) (by omega) rfl ?_
              refine g_iload_n (pc := 149) C dX5_isShut_149 rfl 4 rfl ?_
              obtain ⟨xz, h⟩ := iC h
              exact rtZ hr dX5_isShut_150 (z01_or xz) h
set_option maxHeartbeats 4000000 in
set_option maxRecDepth 20000 in
theorem b_X5_isShut_25 {x : XT} {y : YT} {Z : State → Prop} (C : Cx x y (AY y) RX5 cX5_isShut 5 rm_X5_isShut) {r : Int32} {σ' : Sto} (hr : RetZ x y (AY y) 5 cX5_isShut Z r σ') (xa0 : Nat) (xa1 : Int32) (xa2 : Int32) (xs0 : Int32) (σ : Sto) (h : F_X5_isShut_b25 xa0 xa1 xa2 xs0 σ = some (r, σ')) : GW x y (AY y) 5 Z 25 [(0, .ref (yad y (xa0))), (1, .int (xa1)), (2, .int (xa2))] [.int (xs0)] σ := by
  unfold F_X5_isShut_b25 at h
  refine g_istore_n (i := 3) (lv' := [(3, .int (xs0)), (0, .ref (yad y (xa0))), (1, .int (xa1)), (2, .int (xa2))]) (pc := 25) C dX5_isShut_25 rfl (Nat.le_of_ble_eq_true rfl) rfl ?_
  refine g_aload_n (pc := 26) C dX5_isShut_26 rfl 1 rfl ?_
  obtain ⟨xq1, h⟩ := iC h
  have xq1 := keq xq1
  refine gf_5_0 (pc := 27) C wf_X5_9 dX5_isShut_27 xq1 ?_
  refine g_iconst (v := 0) (pc := 30) C dX5_isShut_30 ci_0 ?_
  refine g_iald (pc := 31) C dX5_isShut_31 rfl (ivp (by decide) rfl) (j := 0) ct_0 ?_
  refine g_iload_n (pc := 32) C dX5_isShut_32 rfl 3 rfl ?_
  refine g_iadd (pc := 33) C dX5_isShut_33 ?_
  refine g_iconst (v := 3) (pc := 34) C dX5_isShut_34 ci_3 ?_
  refine g_irem (pc := 35) C dX5_isShut_35 (by decide) ?_
  refine g_if_ne (pc := 36) C dX5_isShut_36 (tgt := 43) rfl (fun xq2 => ?_) (fun xq2 => ?_)
  · have h := iN xq2 h
    refine g_iconst (v := 0) (pc := 43) C dX5_isShut_43 ci_0 ?_
    refine g_sub (lv' := [(0, .ref (yad y (xa0))), (1, .int (xa1)), (2, .int (xa2)), (3, .int (xs0))]) C [1, 2, 3, 0] rfl ?_
    exact b_X5_isShut_44 C hr xa0 xa1 xa2 xs0 0 σ h
  · have h := iP xq2 h
    refine g_iconst (v := 1) (pc := 39) C dX5_isShut_39 ci_1 ?_
    refine g_goto (pc := 40) C dX5_isShut_40 (tgt := 44) rfl ?_
    refine g_sub (lv' := [(0, .ref (yad y (xa0))), (1, .int (xa1)), (2, .int (xa2)), (3, .int (xs0))]) C [1, 2, 3, 0] rfl ?_
    exact b_X5_isShut_44 C hr xa0 xa1 xa2 xs0 1 σ h
set_option maxHeartbeats 4000000 in
set_option maxRecDepth 20000 in
theorem b_X5_isShut_0 {x : XT} {y : YT} {Z : State → Prop} (C : Cx x y (AY y) RX5 cX5_isShut 5 rm_X5_isShut) {r : Int32} {σ' : Sto} (hr : RetZ x y (AY y) 5 cX5_isShut Z r σ') (xa0 : Nat) (xa1 : Int32) (xa2 : Int32) (σ : Sto) (h : F_X5_isShut xa0 xa1 xa2 σ = some (r, σ')) : GW x y (AY y) 5 Z 0 [(0, .ref (yad y (xa0))), (1, .int (xa1)), (2, .int (xa2))] [] σ := by
  unfold F_X5_isShut at h
  refine g_aload_n (pc := 0) C dX5_isShut_0 rfl 0 rfl ?_
  obtain ⟨xq1, h⟩ := iC h
  have xq1 := keq xq1
  refine gf_5_0 (pc := 1) C wf_X5_9 dX5_isShut_1 xq1 ?_
  refine g_iconst (v := 0) (pc := 4) C dX5_isShut_4 ci_0 ?_
  refine g_iald (pc := 5) C dX5_isShut_5 rfl (ivp (by decide) rfl) (j := 0) ct_0 ?_
  refine g_iload_n (pc := 6) C dX5_isShut_6 rfl 2 rfl ?_
  refine g_iadd (pc := 7) C dX5_isShut_7 ?_
  refine g_aload_n (pc := 8) C dX5_isShut_8 rfl 0 rfl ?_
  refine g_iload_n (pc := 9) C dX5_isShut_9 rfl 1 rfl ?_
  refine g_iconst (v := 2) (pc := 10) C dX5_isShut_10 ci_2 ?_
  obtain ⟨xr4, xσ2, xc3, h⟩ := iB h
  refine g_callVi (pc := 11) (As := [.int (xa1), .int (2)]) (rest := [.int ((σ 50 0) + xa2)]) C dX5_isShut_11 (fun l => c_X5_sitterIs l y _ _ _ _ _ _ xc3) cv_X5_104 ⟨rfl, rfl, Nat.le_of_ble_eq_true rfl, Nat.le_of_ble_eq_true rfl⟩ (rv5 xq1) rfl (Nat.le_of_ble_eq_true rfl) ?_
  refine g_iadd (pc := 14) C dX5_isShut_14 ?_
  refine g_iconst (v := 4) (pc := 15) C dX5_isShut_15 ci_4 ?_
  refine g_irem (pc := 16) C dX5_isShut_16 (by decide) ?_
  refine g_if_ne (pc := 17) C dX5_isShut_17 (tgt := 24) rfl (fun xq5 => ?_) (fun xq5 => ?_)
  · have h := iN xq5 h
    refine g_iconst (v := 0) (pc := 24) C dX5_isShut_24 ci_0 ?_
    exact b_X5_isShut_25 C hr xa0 xa1 xa2 0 xσ2 h
  · have h := iP xq5 h
    refine g_iconst (v := 1) (pc := 20) C dX5_isShut_20 ci_1 ?_
    refine g_goto (pc := 21) C dX5_isShut_21 (tgt := 25) rfl ?_
    exact b_X5_isShut_25 C hr xa0 xa1 xa2 1 xσ2 h
theorem c_X5_isShut (l : Launch) (y : YT) (xa0 : Nat) (xa1 : Int32) (xa2 : Int32) (σ σ' : Sto) (r : Int32) (h : F_X5_isShut xa0 xa1 xa2 σ = some (r, σ')) : MI l y yX5_isShut (Cond.code yX5_isShut cX5_isShut 5 (some .boolean) :: TT) rm_X5_isShut [.ref (yad y (xa0)), .int (xa1), .int (xa2)] σ r σ' :=
  mkZ (by decide) rfl rfl rfl (Nat.le_of_ble_eq_true rfl) (fun x Z C hr => b_X5_isShut_0 C hr xa0 xa1 xa2 σ h)

/-! methods, by program: what each does to the store (F_), its walk (b_), its contract (c_): X3_wordOfKind, X3_isWord, X3_wordOfTrait, X3_isNumber, X3_readSitter, X3_readQueue, X3_wordOfPart, X3_readPart, X3_readItem, X3_readInto, X4_isWithin, X4_finding, X4_set, X4_booth, X4_queue, X4_place, X4_sitter -/
def rm_X3_wordOfKind : Room := { frames := 0, cells := 0, slots := 0, locals := 0 }
def F_X3_wordOfKind (xa0 : Int32) (σ : Sto) : Option (Nat × Sto) := if xa0 = 1 then some (101, σ) else if xa0 = 2 then some (102, σ) else if xa0 = 3 then some (103, σ) else if xa0 = 4 then some (104, σ) else if xa0 = 5 then some (105, σ) else if xa0 = 6 then some (106, σ) else some (100, σ)
set_option maxHeartbeats 4000000 in
set_option maxRecDepth 20000 in
theorem b_X3_wordOfKind_0 {x : XT} {y : YT} {Z : State → Prop} (C : Cx x y (AY y) RX3 cX3_wordOfKind 1 rm_X3_wordOfKind) {r : Nat} {σ' : Sto} (hr : RetR x y (AY y) 1 cX3_wordOfKind Z r σ') (xa0 : Int32) (σ : Sto) (h : F_X3_wordOfKind xa0 σ = some (r, σ')) : GW x y (AY y) 1 Z 0 [(0, .int (xa0))] [] σ := by
  unfold F_X3_wordOfKind at h
  refine g_iload_n (pc := 0) C dX3_wordOfKind_0 rfl 0 rfl ?_
  by_cases xq1 : xa0 = 1
  · have h := iP xq1 h
    refine g_tabIn (pc := 1) C dX3_wordOfKind_1 (v := 1) (tgt := 40) (by decide) (by decide) rfl rfl xq1 ?_
    refine g_ldcs (pc := 40) C dX3_wordOfKind_40 (k := 1) (tx := _) sit_X3_122 ?_
    exact rtR hr dX3_wordOfKind_42 h
  · have h := iN xq1 h
    by_cases xq2 : xa0 = 2
    · have h := iP xq2 h
      refine g_tabIn (pc := 1) C dX3_wordOfKind_1 (v := 2) (tgt := 43) (by decide) (by decide) rfl rfl xq2 ?_
      refine g_ldcs (pc := 43) C dX3_wordOfKind_43 (k := 2) (tx := _) sit_X3_124 ?_
      exact rtR hr dX3_wordOfKind_45 h
    · have h := iN xq2 h
      by_cases xq3 : xa0 = 3
      · have h := iP xq3 h
        refine g_tabIn (pc := 1) C dX3_wordOfKind_1 (v := 3) (tgt := 46) (by decide) (by decide) rfl rfl xq3 ?_
        refine g_ldcs (pc := 46) C dX3_wordOfKind_46 (k := 3) (tx := _) sit_X3_126 ?_
        exact rtR hr dX3_wordOfKind_48 h
      · have h := iN xq3 h
        by_cases xq4 : xa0 = 4
        · have h := iP xq4 h
          refine g_tabIn (pc := 1) C dX3_wordOfKind_1 (v := 4) (tgt := 49) (by decide) (by decide) rfl rfl xq4 ?_
          refine g_ldcs (pc := 49) C dX3_wordOfKind_49 (k := 4) (tx := _) sit_X3_128 ?_
          exact rtR hr dX3_wordOfKind_51 h
        · have h := iN xq4 h
          by_cases xq5 : xa0 = 5
          · have h := iP xq5 h
            refine g_tabIn (pc := 1) C dX3_wordOfKind_1 (v := 5) (tgt := 52) (by decide) (by decide) rfl rfl xq5 ?_
            refine g_ldcs (pc := 52) C dX3_wordOfKind_52 (k := 5) (tx := _) sit_X3_130 ?_
            exact rtR hr dX3_wordOfKind_54 h
          · have h := iN xq5 h
            by_cases xq6 : xa0 = 6
            · have h := iP xq6 h
              refine g_tabIn (pc := 1) C dX3_wordOfKind_1 (v := 6) (tgt := 55) (by decide) (by decide) rfl rfl xq6 ?_
              refine g_ldcs (pc := 55) C dX3_wordOfKind_55 (k := 6) (tx := _) sit_X3_132 ?_
              exact rtR hr dX3_wordOfKind_57 h
            · have h := iN xq6 h
              have xe0 : ¬ xa0.toInt = 1 := tne xq1
              have xe1 : ¬ xa0.toInt = 2 := tne xq2
              have xe2 : ¬ xa0.toInt = 3 := tne xq3
              have xe3 : ¬ xa0.toInt = 4 := tne xq4
              have xe4 : ¬ xa0.toInt = 5 := tne xq5
              have xe5 : ¬ xa0.toInt = 6 := tne xq6
              refine g_tabOut (pc := 1) C dX3_wordOfKind_1 (tgt := 58) (by omega) rfl ?_
              refine g_ldcs (pc := 58) C dX3_wordOfKind_58 (k := 0) (tx := _) sit_X3_134 ?_
              exact rtR hr dX3_wordOfKind_60 h
theorem c_X3_wordOfKind (l : Launch) (y : YT) (xa0 : Int32) (σ σ' : Sto) (r : Nat) (h : F_X3_wordOfKind xa0 σ = some (r, σ')) : MR l y yX3_wordOfKind (Cond.code yX3_wordOfKind cX3_wordOfKind 1 (some (.object "java/lang/String")) :: TT) rm_X3_wordOfKind [.int (xa0)] σ r σ' :=
  mkR (by decide) rfl rfl rfl (Nat.le_of_ble_eq_true rfl) (fun x Z C hr => b_X3_wordOfKind_0 C hr xa0 σ h)
def rm_X3_isWord : Room := { frames := 6, cells := 0, slots := 0, locals := 161 }
def F_X3_isWord_b28 (xk_28 : Nat → Nat → Int32 → Sto → Option (Int32 × Sto)) (xa0 : Nat) (xa1 : Nat) (xa2 : Int32) (σ : Sto) : Option (Int32 × Sto) := ck (isStr (xa1)) (bnd (F_J0_length_8abf5 (xa1) σ) (fun xr4 xσ1 => if xr4 ≤ xa2 then some (1, xσ1) else ck (kd (xa0) == 3) (bnd (F_X3_byteAt (xa0) ((xσ1 xa0 2) + xa2) xσ1) (fun xr9 xσ7 => bnd (F_J0_charAt_5068e (xa1) (xa2) xσ7) (fun xr12 xσ10 => if xr9 = xr12 then xk_28 xa0 xa1 (xa2 + 1) xσ10 else some (0, xσ10))))))
def F_X3_isWord (xa0 : Nat) (xa1 : Nat) (σ : Sto) : Option (Int32 × Sto) := ck (kd (xa0) == 3) (if (σ xa0 4) = 1 then ck (isStr (xa1)) (bnd (F_J0_length_8abf5 (xa1) σ) (fun xr6 xσ3 => if ((σ xa0 3) - (σ xa0 2)) = xr6 then lo3 (F_X3_isWord_b28) 1000 xa0 xa1 0 xσ3 else some (0, xσ3))) else some (0, σ))
set_option maxHeartbeats 4000000 in
set_option maxRecDepth 20000 in
theorem b_X3_isWord_28 {x : XT} {y : YT} {Z : State → Prop} (C : Cx x y (AY y) RX3 cX3_isWord 3 rm_X3_isWord) {r : Int32} {σ' : Sto} (hr : RetZ x y (AY y) 3 cX3_isWord Z r σ') (xk_28 : Nat → Nat → Int32 → Sto → Option (Int32 × Sto)) (xH28 : ∀ (xa0 : Nat) (xa1 : Nat) (xa2 : Int32) (σ : Sto), xk_28 xa0 xa1 xa2 σ = some (r, σ') → GW x y (AY y) 3 Z 28 [(0, .ref (yad y (xa0))), (1, .ref (yad y (xa1))), (2, .int (xa2))] [] σ) (xa0 : Nat) (xa1 : Nat) (xa2 : Int32) (σ : Sto) (h : F_X3_isWord_b28 xk_28 xa0 xa1 xa2 σ = some (r, σ')) : GW x y (AY y) 3 Z 28 [(0, .ref (yad y (xa0))), (1, .ref (yad y (xa1))), (2, .int (xa2))] [] σ := by
  unfold F_X3_isWord_b28 at h
  refine g_iload_n (pc := 28) C dX3_isWord_28 rfl 2 rfl ?_
  refine g_aload_n (pc := 29) C dX3_isWord_29 rfl 1 rfl ?_
  obtain ⟨xq3, h⟩ := iC h
  obtain ⟨xr4, xσ1, xc2, h⟩ := iB h
  refine g_callVi (pc := 30) (As := []) (rest := [.int (xa2)]) C dX3_isWord_30 (fun l => c_J0_length_8abf5 l y _ _ _ _ xc2) cv_X3_112 ⟨rfl, rfl, Nat.le_of_ble_eq_true rfl, Nat.le_of_ble_eq_true rfl⟩ (rvS xq3) rfl (Nat.le_of_ble_eq_true rfl) ?_
  refine g_icmp_ge (pc := 33) C dX3_isWord_33 (tgt := 62) rfl (fun xq5 => ?_) (fun xq5 => ?_)
  · have h := iP xq5 h
    refine g_iconst (v := 1) (pc := 62) C dX3_isWord_62 ci_1 ?_
    exact rtZ hr dX3_isWord_63 (by decide) h
  · have h := iN xq5 h
    refine g_aload_n (pc := 36) C dX3_isWord_36 rfl 0 rfl ?_
    refine g_aload_n (pc := 37) C dX3_isWord_37 rfl 0 rfl ?_
    obtain ⟨xq6, h⟩ := iC h
    have xq6 := keq xq6
    refine gf_3_2 (pc := 38) C wf_X3_19 dX3_isWord_38 xq6 ?_
    refine g_iload_n (pc := 41) C dX3_isWord_41 rfl 2 rfl ?_
    refine g_iadd (pc := 42) C dX3_isWord_42 ?_
    obtain ⟨xr9, xσ7, xc8, h⟩ := iB h
    refine g_callVi (pc := 43) (As := [.int ((xσ1 xa0 2) + xa2)]) (rest := []) C dX3_isWord_43 (fun l => c_X3_byteAt l y _ _ _ _ _ xc8) cv_X3_94 ⟨rfl, rfl, Nat.le_of_ble_eq_true rfl, Nat.le_of_ble_eq_true rfl⟩ (rv3 xq6) rfl (Nat.le_of_ble_eq_true rfl) ?_
    refine g_aload_n (pc := 46) C dX3_isWord_46 rfl 1 rfl ?_
    refine g_iload_n (pc := 47) C dX3_isWord_47 rfl 2 rfl ?_
    obtain ⟨xr12, xσ10, xc11, h⟩ := iB h
    refine g_callVi (pc := 48) (As := [.int (xa2)]) (rest := [.int (xr9)]) C dX3_isWord_48 (fun l => c_J0_charAt_5068e l y _ _ _ _ _ xc11) cv_X3_118 ⟨rfl, rfl, Nat.le_of_ble_eq_true rfl, Nat.le_of_ble_eq_true rfl⟩ (rvS xq3) rfl (Nat.le_of_ble_eq_true rfl) ?_
    refine g_icmp_eq (pc := 51) C dX3_isWord_51 (tgt := 56) rfl (fun xq13 => ?_) (fun xq13 => ?_)
    · have h := iP xq13 h
      refine g_iinc (lv' := [(2, .int (xa2 + 1)), (0, .ref (yad y (xa0))), (1, .ref (yad y (xa1)))]) (w := xa2 + 1) (pc := 56) C dX3_isWord_56 (k := 2) rfl rfl (Nat.le_of_ble_eq_true rfl) rfl ?_
      refine g_goto (pc := 59) C dX3_isWord_59 (tgt := 28) rfl ?_
      refine g_sub (lv' := [(0, .ref (yad y (xa0))), (1, .ref (yad y (xa1))), (2, .int (xa2 + 1))]) C [1, 2, 0] rfl ?_
      exact xH28 xa0 xa1 (xa2 + 1) xσ10 h
    · have h := iN xq13 h
      refine g_iconst (v := 0) (pc := 54) C dX3_isWord_54 ci_0 ?_
      exact rtZ hr dX3_isWord_55 (by decide) h
theorem l_X3_isWord_28 {x : XT} {y : YT} {Z : State → Prop} (C : Cx x y (AY y) RX3 cX3_isWord 3 rm_X3_isWord) {r : Int32} {σ' : Sto} (hr : RetZ x y (AY y) 3 cX3_isWord Z r σ') (n : Nat) (xa0 : Nat) (xa1 : Nat) (xa2 : Int32) (σ : Sto) (h : lo3 (F_X3_isWord_b28) n xa0 xa1 xa2 σ = some (r, σ')) : GW x y (AY y) 3 Z 28 [(0, .ref (yad y (xa0))), (1, .ref (yad y (xa1))), (2, .int (xa2))] [] σ :=
  lo3_gw (G := fun xa0 xa1 xa2 σ => GW x y (AY y) 3 Z 28 [(0, .ref (yad y (xa0))), (1, .ref (yad y (xa1))), (2, .int (xa2))] [] σ) (fun xk xHk xa0 xa1 xa2 σ h => b_X3_isWord_28 C hr xk xHk xa0 xa1 xa2 σ h) n xa0 xa1 xa2 σ h
set_option maxHeartbeats 4000000 in
set_option maxRecDepth 20000 in
theorem b_X3_isWord_0 {x : XT} {y : YT} {Z : State → Prop} (C : Cx x y (AY y) RX3 cX3_isWord 3 rm_X3_isWord) {r : Int32} {σ' : Sto} (hr : RetZ x y (AY y) 3 cX3_isWord Z r σ') (xa0 : Nat) (xa1 : Nat) (σ : Sto) (h : F_X3_isWord xa0 xa1 σ = some (r, σ')) : GW x y (AY y) 3 Z 0 [(0, .ref (yad y (xa0))), (1, .ref (yad y (xa1)))] [] σ := by
  unfold F_X3_isWord at h
  refine g_aload_n (pc := 0) C dX3_isWord_0 rfl 0 rfl ?_
  obtain ⟨xq1, h⟩ := iC h
  have xq1 := keq xq1
  refine gf_3_4 (pc := 1) C wf_X3_25 dX3_isWord_1 xq1 ?_
  refine g_iconst (v := 1) (pc := 4) C dX3_isWord_4 ci_1 ?_
  refine g_icmp_ne (pc := 5) C dX3_isWord_5 (tgt := 24) rfl (fun xq2 => ?_) (fun xq2 => ?_)
  · have h := iN xq2 h
    refine g_iconst (v := 0) (pc := 24) C dX3_isWord_24 ci_0 ?_
    exact rtZ hr dX3_isWord_25 (by decide) h
  · have h := iP xq2 h
    refine g_aload_n (pc := 8) C dX3_isWord_8 rfl 0 rfl ?_
    refine gf_3_3 (pc := 9) C wf_X3_22 dX3_isWord_9 xq1 ?_
    refine g_aload_n (pc := 12) C dX3_isWord_12 rfl 0 rfl ?_
    refine gf_3_2 (pc := 13) C wf_X3_19 dX3_isWord_13 xq1 ?_
    refine g_isub (pc := 16) C dX3_isWord_16 ?_
    refine g_aload_n (pc := 17) C dX3_isWord_17 rfl 1 rfl ?_
    obtain ⟨xq5, h⟩ := iC h
    obtain ⟨xr6, xσ3, xc4, h⟩ := iB h
    refine g_callVi (pc := 18) (As := []) (rest := [.int ((σ xa0 3) - (σ xa0 2))]) C dX3_isWord_18 (fun l => c_J0_length_8abf5 l y _ _ _ _ xc4) cv_X3_112 ⟨rfl, rfl, Nat.le_of_ble_eq_true rfl, Nat.le_of_ble_eq_true rfl⟩ (rvS xq5) rfl (Nat.le_of_ble_eq_true rfl) ?_
    refine g_icmp_eq (pc := 21) C dX3_isWord_21 (tgt := 26) rfl (fun xq7 => ?_) (fun xq7 => ?_)
    · have h := iP xq7 h
      refine g_iconst (v := 0) (pc := 26) C dX3_isWord_26 ci_0 ?_
      refine g_istore_n (i := 2) (lv' := [(2, .int (0)), (0, .ref (yad y (xa0))), (1, .ref (yad y (xa1)))]) (pc := 27) C dX3_isWord_27 rfl (Nat.le_of_ble_eq_true rfl) rfl ?_
      refine g_sub (lv' := [(0, .ref (yad y (xa0))), (1, .ref (yad y (xa1))), (2, .int (0))]) C [1, 2, 0] rfl ?_
      exact l_X3_isWord_28 C hr 1000 xa0 xa1 0 xσ3 h
    · have h := iN xq7 h
      refine g_iconst (v := 0) (pc := 24) C dX3_isWord_24 ci_0 ?_
      exact rtZ hr dX3_isWord_25 (by decide) h
theorem c_X3_isWord (l : Launch) (y : YT) (xa0 : Nat) (xa1 : Nat) (σ σ' : Sto) (r : Int32) (h : F_X3_isWord xa0 xa1 σ = some (r, σ')) : MI l y yX3_isWord (Cond.code yX3_isWord cX3_isWord 3 (some .boolean) :: TT) rm_X3_isWord [.ref (yad y (xa0)), .ref (yad y (xa1))] σ r σ' :=
  mkZ (by decide) rfl rfl rfl (Nat.le_of_ble_eq_true rfl) (fun x Z C hr => b_X3_isWord_0 C hr xa0 xa1 σ h)
def rm_X3_wordOfTrait : Room := { frames := 0, cells := 0, slots := 0, locals := 0 }
def F_X3_wordOfTrait (xa0 : Int32) (σ : Sto) : Option (Nat × Sto) := if xa0 = 2 then some (108, σ) else if xa0 = 3 then some (109, σ) else if xa0 = 4 then some (110, σ) else some (107, σ)
set_option maxHeartbeats 4000000 in
set_option maxRecDepth 20000 in
theorem b_X3_wordOfTrait_0 {x : XT} {y : YT} {Z : State → Prop} (C : Cx x y (AY y) RX3 cX3_wordOfTrait 1 rm_X3_wordOfTrait) {r : Nat} {σ' : Sto} (hr : RetR x y (AY y) 1 cX3_wordOfTrait Z r σ') (xa0 : Int32) (σ : Sto) (h : F_X3_wordOfTrait xa0 σ = some (r, σ')) : GW x y (AY y) 1 Z 0 [(0, .int (xa0))] [] σ := by
  unfold F_X3_wordOfTrait at h
  refine g_iload_n (pc := 0) C dX3_wordOfTrait_0 rfl 0 rfl ?_
  by_cases xq1 : xa0 = 2
  · have h := iP xq1 h
    refine g_tabIn (pc := 1) C dX3_wordOfTrait_1 (v := 2) (tgt := 28) (by decide) (by decide) rfl rfl xq1 ?_
    refine g_ldcs (pc := 28) C dX3_wordOfTrait_28 (k := 8) (tx := _) sit_X3_142 ?_
    exact rtR hr dX3_wordOfTrait_30 h
  · have h := iN xq1 h
    by_cases xq2 : xa0 = 3
    · have h := iP xq2 h
      refine g_tabIn (pc := 1) C dX3_wordOfTrait_1 (v := 3) (tgt := 31) (by decide) (by decide) rfl rfl xq2 ?_
      refine g_ldcs (pc := 31) C dX3_wordOfTrait_31 (k := 9) (tx := _) sit_X3_144 ?_
      exact rtR hr dX3_wordOfTrait_33 h
    · have h := iN xq2 h
      by_cases xq3 : xa0 = 4
      · have h := iP xq3 h
        refine g_tabIn (pc := 1) C dX3_wordOfTrait_1 (v := 4) (tgt := 34) (by decide) (by decide) rfl rfl xq3 ?_
        refine g_ldcs (pc := 34) C dX3_wordOfTrait_34 (k := 10) (tx := _) sit_X3_146 ?_
        exact rtR hr dX3_wordOfTrait_36 h
      · have h := iN xq3 h
        have xe0 : ¬ xa0.toInt = 2 := tne xq1
        have xe1 : ¬ xa0.toInt = 3 := tne xq2
        have xe2 : ¬ xa0.toInt = 4 := tne xq3
        refine g_tabOut (pc := 1) C dX3_wordOfTrait_1 (tgt := 37) (by omega) rfl ?_
        refine g_ldcs (pc := 37) C dX3_wordOfTrait_37 (k := 7) (tx := _) sit_X3_148 ?_
        exact rtR hr dX3_wordOfTrait_39 h
theorem c_X3_wordOfTrait (l : Launch) (y : YT) (xa0 : Int32) (σ σ' : Sto) (r : Nat) (h : F_X3_wordOfTrait xa0 σ = some (r, σ')) : MR l y yX3_wordOfTrait (Cond.code yX3_wordOfTrait cX3_wordOfTrait 1 (some (.object "java/lang/String")) :: TT) rm_X3_wordOfTrait [.int (xa0)] σ r σ' :=
  mkR (by decide) rfl rfl rfl (Nat.le_of_ble_eq_true rfl) (fun x Z C hr => b_X3_wordOfTrait_0 C hr xa0 σ h)
def rm_X3_isNumber : Room := { frames := 0, cells := 0, slots := 0, locals := 0 }
def F_X3_isNumber (xa0 : Nat) (xa1 : Int32) (σ : Sto) : Option (Int32 × Sto) := ck (kd (xa0) == 3) (if (σ xa0 4) = 2 then if xa1 < (σ xa0 5) then some (0, σ) else some (1, σ) else some (0, σ))
set_option maxHeartbeats 4000000 in
set_option maxRecDepth 20000 in
theorem b_X3_isNumber_0 {x : XT} {y : YT} {Z : State → Prop} (C : Cx x y (AY y) RX3 cX3_isNumber 2 rm_X3_isNumber) {r : Int32} {σ' : Sto} (hr : RetZ x y (AY y) 2 cX3_isNumber Z r σ') (xa0 : Nat) (xa1 : Int32) (σ : Sto) (h : F_X3_isNumber xa0 xa1 σ = some (r, σ')) : GW x y (AY y) 2 Z 0 [(0, .ref (yad y (xa0))), (1, .int (xa1))] [] σ := by
  unfold F_X3_isNumber at h
  refine g_aload_n (pc := 0) C dX3_isNumber_0 rfl 0 rfl ?_
  obtain ⟨xq1, h⟩ := iC h
  have xq1 := keq xq1
  refine gf_3_4 (pc := 1) C wf_X3_25 dX3_isNumber_1 xq1 ?_
  refine g_iconst (v := 2) (pc := 4) C dX3_isNumber_4 ci_2 ?_
  refine g_icmp_ne (pc := 5) C dX3_isNumber_5 (tgt := 20) rfl (fun xq2 => ?_) (fun xq2 => ?_)
  · have h := iN xq2 h
    refine g_iconst (v := 0) (pc := 20) C dX3_isNumber_20 ci_0 ?_
    exact rtZ hr dX3_isNumber_21 (by decide) h
  · have h := iP xq2 h
    refine g_aload_n (pc := 8) C dX3_isNumber_8 rfl 0 rfl ?_
    refine gf_3_5 (pc := 9) C wf_X3_28 dX3_isNumber_9 xq1 ?_
    refine g_iload_n (pc := 12) C dX3_isNumber_12 rfl 1 rfl ?_
    refine g_icmp_gt (pc := 13) C dX3_isNumber_13 (tgt := 20) rfl (fun xq3 => ?_) (fun xq3 => ?_)
    · have h := iP xq3 h
      refine g_iconst (v := 0) (pc := 20) C dX3_isNumber_20 ci_0 ?_
      exact rtZ hr dX3_isNumber_21 (by decide) h
    · have h := iN xq3 h
      refine g_iconst (v := 1) (pc := 16) C dX3_isNumber_16 ci_1 ?_
      refine g_goto (pc := 17) C dX3_isNumber_17 (tgt := 21) rfl ?_
      exact rtZ hr dX3_isNumber_21 (by decide) h
theorem c_X3_isNumber (l : Launch) (y : YT) (xa0 : Nat) (xa1 : Int32) (σ σ' : Sto) (r : Int32) (h : F_X3_isNumber xa0 xa1 σ = some (r, σ')) : MI l y yX3_isNumber (Cond.code yX3_isNumber cX3_isNumber 2 (some .boolean) :: TT) rm_X3_isNumber [.ref (yad y (xa0)), .int (xa1)] σ r σ' :=
  mkZ (by decide) rfl rfl rfl (Nat.le_of_ble_eq_true rfl) (fun x Z C hr => b_X3_isNumber_0 C hr xa0 xa1 σ h)
def rm_X3_readSitter : Room := { frames := 7, cells := 0, slots := 0, locals := 183 }
def F_X3_readSitter_b19 (xk_19 : Nat → Nat → Int32 → Int32 → Sto → Option (Int32 × Sto)) (xa0 : Nat) (xa1 : Nat) (xa3 : Int32) (xa4 : Int32) (σ : Sto) : Option (Int32 × Sto) := if 4 < xa4 then some (1, σ) else bnd (F_X3_wordOfTrait (xa4) σ) (fun xr4 xσ2 => ck (kd (xa0) == 3) (bnd (F_X3_isWord (xa0) (xr4) xσ2) (fun xr8 xσ5 => if (xr8) = 0 then xk_19 xa0 xa1 xa3 (xa4 + 1) xσ5 else bnd (F_X3_nextToken (xa0) xσ5) (fun xr12 xσ10 => bnd (F_X2_mostOf (xa4) xσ10) (fun xr15 xσ13 => bnd (F_X3_isNumber (xa0) (xr15) xσ13) (fun xr18 xσ16 => if (xr18) = 0 then some (0, xσ16) else ck (kd (xa1) == 0) (bnd (F_X0_give (xa1) (xa3) (xa4) (xσ16 xa0 5) xσ16) (fun xr23 xσ20 => bnd (F_X3_nextToken (xa0) xσ20) (fun xr26 xσ24 => xk_19 xa0 xa1 xa3 (xa4 + 1) xσ24)))))))))
def F_X3_readSitter (xa0 : Nat) (xa1 : Nat) (xa2 : Int32) (σ : Sto) : Option (Int32 × Sto) := ck (kd (xa1) == 0) (bnd (F_X0_addSitter (xa1) (xa2) σ) (fun xr4 xσ1 => if 0 ≤ (xr4) then ck (kd (xa0) == 3) (bnd (F_X3_nextToken (xa0) xσ1) (fun xr9 xσ6 => lo4 (F_X3_readSitter_b19) 1000 xa0 xa1 xr4 1 xσ6)) else some (0, xσ1)))
set_option maxHeartbeats 4000000 in
set_option maxRecDepth 20000 in
theorem b_X3_readSitter_19 {x : XT} {y : YT} {Z : State → Prop} (C : Cx x y (AY y) RX3 cX3_readSitter 5 rm_X3_readSitter) {r : Int32} {σ' : Sto} (hr : RetZ x y (AY y) 5 cX3_readSitter Z r σ') (xk_19 : Nat → Nat → Int32 → Int32 → Sto → Option (Int32 × Sto)) (xH19 : ∀ (xa0 : Nat) (xa1 : Nat) (xa3 : Int32) (xa4 : Int32) (σ : Sto), xk_19 xa0 xa1 xa3 xa4 σ = some (r, σ') → GW x y (AY y) 5 Z 19 [(0, .ref (yad y (xa0))), (1, .ref (yad y (xa1))), (3, .int (xa3)), (4, .int (xa4))] [] σ) (xa0 : Nat) (xa1 : Nat) (xa3 : Int32) (xa4 : Int32) (σ : Sto) (h : F_X3_readSitter_b19 xk_19 xa0 xa1 xa3 xa4 σ = some (r, σ')) : GW x y (AY y) 5 Z 19 [(0, .ref (yad y (xa0))), (1, .ref (yad y (xa1))), (3, .int (xa3)), (4, .int (xa4))] [] σ := by
  unfold F_X3_readSitter_b19 at h
  refine g_iload (pc := 19) C dX3_readSitter_19 3 rfl ?_
  refine g_iconst (v := 4) (pc := 21) C dX3_readSitter_21 ci_4 ?_
  refine g_icmp_gt (pc := 22) C dX3_readSitter_22 (tgt := 76) rfl (fun xq1 => ?_) (fun xq1 => ?_)
  · have h := iP xq1 h
    refine g_iconst (v := 1) (pc := 76) C dX3_readSitter_76 ci_1 ?_
    exact rtZ hr dX3_readSitter_77 (by decide) h
  · have h := iN xq1 h
    refine g_aload_n (pc := 25) C dX3_readSitter_25 rfl 0 rfl ?_
    refine g_iload (pc := 26) C dX3_readSitter_26 3 rfl ?_
    obtain ⟨xr4, xσ2, xc3, h⟩ := iB h
    refine g_callSr (pc := 28) (As := [.int (xa4)]) (rest := [.ref (yad y (xa0))]) C dX3_readSitter_28 (fun l => c_X3_wordOfTrait l y _ _ _ _ xc3) cv_X3_67 ⟨rfl, rfl, Nat.le_of_ble_eq_true rfl, Nat.le_of_ble_eq_true rfl⟩ rfl (Nat.le_of_ble_eq_true rfl) ?_
    obtain ⟨xq7, h⟩ := iC h
    have xq7 := keq xq7
    obtain ⟨xr8, xσ5, xc6, h⟩ := iB h
    refine g_callVi (pc := 31) (As := [.ref (yad y (xr4))]) (rest := []) C dX3_readSitter_31 (fun l => c_X3_isWord l y _ _ _ _ _ xc6) cv_X3_42 ⟨rfl, rfl, Nat.le_of_ble_eq_true rfl, Nat.le_of_ble_eq_true rfl⟩ (rv3 xq7) rfl (Nat.le_of_ble_eq_true rfl) ?_
    refine g_if_eq (pc := 34) C dX3_readSitter_34 (tgt := 70) rfl (fun xq9 => ?_) (fun xq9 => ?_)
    · have h := iP xq9 h
      refine g_iinc (lv' := [(4, .int (xa4 + 1)), (0, .ref (yad y (xa0))), (1, .ref (yad y (xa1))), (3, .int (xa3))]) (w := xa4 + 1) (pc := 70) C dX3_readSitter_70 (k := 3) rfl rfl (Nat.le_of_ble_eq_true rfl) rfl ?_
      refine g_goto (pc := 73) C dX3_readSitter_73 (tgt := 19) rfl ?_
      refine g_sub (lv' := [(0, .ref (yad y (xa0))), (1, .ref (yad y (xa1))), (3, .int (xa3)), (4, .int (xa4 + 1))]) C [1, 2, 3, 0] rfl ?_
      exact xH19 xa0 xa1 xa3 (xa4 + 1) xσ5 h
    · have h := iN xq9 h
      refine g_aload_n (pc := 37) C dX3_readSitter_37 rfl 0 rfl ?_
      obtain ⟨xr12, xσ10, xc11, h⟩ := iB h
      refine g_callVv (pc := 38) (As := []) (rest := []) C dX3_readSitter_38 (fun l => c_X3_nextToken l y _ _ _ _ xc11) cv_X3_31 ⟨rfl, rfl, Nat.le_of_ble_eq_true rfl, Nat.le_of_ble_eq_true rfl⟩ (rv3 xq7) rfl (Nat.le_of_ble_eq_true rfl) ?_
      refine g_aload_n (pc := 41) C dX3_readSitter_41 rfl 0 rfl ?_
      refine g_iload (pc := 42) C dX3_readSitter_42 3 rfl ?_
      obtain ⟨xr15, xσ13, xc14, h⟩ := iB h
      refine g_callSi (pc := 44) (As := [.int (xa4)]) (rest := [.ref (yad y (xa0))]) C dX3_readSitter_44 (fun l => c_X2_mostOf l y _ _ _ _ xc14) cv_X3_70 ⟨rfl, rfl, Nat.le_of_ble_eq_true rfl, Nat.le_of_ble_eq_true rfl⟩ rfl (Nat.le_of_ble_eq_true rfl) ?_
      obtain ⟨xr18, xσ16, xc17, h⟩ := iB h
      refine g_callVi (pc := 47) (As := [.int (xr15)]) (rest := []) C dX3_readSitter_47 (fun l => c_X3_isNumber l y _ _ _ _ _ xc17) cv_X3_75 ⟨rfl, rfl, Nat.le_of_ble_eq_true rfl, Nat.le_of_ble_eq_true rfl⟩ (rv3 xq7) rfl (Nat.le_of_ble_eq_true rfl) ?_
      refine g_if_ne (pc := 50) C dX3_readSitter_50 (tgt := 55) rfl (fun xq19 => ?_) (fun xq19 => ?_)
      · have h := iN xq19 h
        refine g_aload_n (pc := 55) C dX3_readSitter_55 rfl 1 rfl ?_
        refine g_iload_n (pc := 56) C dX3_readSitter_56 rfl 2 rfl ?_
        refine g_iload (pc := 57) C dX3_readSitter_57 3 rfl ?_
        refine g_aload_n (pc := 59) C dX3_readSitter_59 rfl 0 rfl ?_
        refine gf_3_5 (pc := 60) C wf_X3_28 dX3_readSitter_60 xq7 ?_
        obtain ⟨xq22, h⟩ := iC h
        have xq22 := keq xq22
        obtain ⟨xr23, xσ20, xc21, h⟩ := iB h
        refine g_callVv (pc := 63) (As := [.int (xa3), .int (xa4), .int (xσ16 xa0 5)]) (rest := []) C dX3_readSitter_63 (fun l => c_X0_give l y _ _ _ _ _ _ _ xc21) cv_X3_79 ⟨rfl, rfl, Nat.le_of_ble_eq_true rfl, Nat.le_of_ble_eq_true rfl⟩ (rv0 xq22) rfl (Nat.le_of_ble_eq_true rfl) ?_
        refine g_aload_n (pc := 66) C dX3_readSitter_66 rfl 0 rfl ?_
        obtain ⟨xr26, xσ24, xc25, h⟩ := iB h
        refine g_callVv (pc := 67) (As := []) (rest := []) C dX3_readSitter_67 (fun l => c_X3_nextToken l y _ _ _ _ xc25) cv_X3_31 ⟨rfl, rfl, Nat.le_of_ble_eq_true rfl, Nat.le_of_ble_eq_true rfl⟩ (rv3 xq7) rfl (Nat.le_of_ble_eq_true rfl) ?_
        refine g_iinc (lv' := [(4, .int (xa4 + 1)), (0, .ref (yad y (xa0))), (1, .ref (yad y (xa1))), (3, .int (xa3))]) (w := xa4 + 1) (pc := 70) C dX3_readSitter_70 (k := 3) rfl rfl (Nat.le_of_ble_eq_true rfl) rfl ?_
        refine g_goto (pc := 73) C dX3_readSitter_73 (tgt := 19) rfl ?_
        refine g_sub (lv' := [(0, .ref (yad y (xa0))), (1, .ref (yad y (xa1))), (3, .int (xa3)), (4, .int (xa4 + 1))]) C [1, 2, 3, 0] rfl ?_
        exact xH19 xa0 xa1 xa3 (xa4 + 1) xσ24 h
      · have h := iP xq19 h
        refine g_iconst (v := 0) (pc := 53) C dX3_readSitter_53 ci_0 ?_
        exact rtZ hr dX3_readSitter_54 (by decide) h
theorem l_X3_readSitter_19 {x : XT} {y : YT} {Z : State → Prop} (C : Cx x y (AY y) RX3 cX3_readSitter 5 rm_X3_readSitter) {r : Int32} {σ' : Sto} (hr : RetZ x y (AY y) 5 cX3_readSitter Z r σ') (n : Nat) (xa0 : Nat) (xa1 : Nat) (xa3 : Int32) (xa4 : Int32) (σ : Sto) (h : lo4 (F_X3_readSitter_b19) n xa0 xa1 xa3 xa4 σ = some (r, σ')) : GW x y (AY y) 5 Z 19 [(0, .ref (yad y (xa0))), (1, .ref (yad y (xa1))), (3, .int (xa3)), (4, .int (xa4))] [] σ :=
  lo4_gw (G := fun xa0 xa1 xa3 xa4 σ => GW x y (AY y) 5 Z 19 [(0, .ref (yad y (xa0))), (1, .ref (yad y (xa1))), (3, .int (xa3)), (4, .int (xa4))] [] σ) (fun xk xHk xa0 xa1 xa3 xa4 σ h => b_X3_readSitter_19 C hr xk xHk xa0 xa1 xa3 xa4 σ h) n xa0 xa1 xa3 xa4 σ h
set_option maxHeartbeats 4000000 in
set_option maxRecDepth 20000 in
theorem b_X3_readSitter_0 {x : XT} {y : YT} {Z : State → Prop} (C : Cx x y (AY y) RX3 cX3_readSitter 5 rm_X3_readSitter) {r : Int32} {σ' : Sto} (hr : RetZ x y (AY y) 5 cX3_readSitter Z r σ') (xa0 : Nat) (xa1 : Nat) (xa2 : Int32) (σ : Sto) (h : F_X3_readSitter xa0 xa1 xa2 σ = some (r, σ')) : GW x y (AY y) 5 Z 0 [(0, .ref (yad y (xa0))), (1, .ref (yad y (xa1))), (2, .int (xa2))] [] σ := by
  unfold F_X3_readSitter at h
  refine g_aload_n (pc := 0) C dX3_readSitter_0 rfl 1 rfl ?_
  refine g_iload_n (pc := 1) C dX3_readSitter_1 rfl 2 rfl ?_
  obtain ⟨xq3, h⟩ := iC h
  have xq3 := keq xq3
  obtain ⟨xr4, xσ1, xc2, h⟩ := iB h
  refine g_callVi (pc := 2) (As := [.int (xa2)]) (rest := []) C dX3_readSitter_2 (fun l => c_X0_addSitter l y _ _ _ _ _ xc2) cv_X3_61 ⟨rfl, rfl, Nat.le_of_ble_eq_true rfl, Nat.le_of_ble_eq_true rfl⟩ (rv0 xq3) rfl (Nat.le_of_ble_eq_true rfl) ?_
  refine g_istore_n (i := 3) (lv' := [(3, .int (xr4)), (0, .ref (yad y (xa0))), (1, .ref (yad y (xa1))), (2, .int (xa2))]) (pc := 5) C dX3_readSitter_5 rfl (Nat.le_of_ble_eq_true rfl) rfl ?_
  refine g_iload_n (pc := 6) C dX3_readSitter_6 rfl 0 rfl ?_
  refine g_if_ge (pc := 7) C dX3_readSitter_7 (tgt := 12) rfl (fun xq5 => ?_) (fun xq5 => ?_)
  · have h := iP xq5 h
    refine g_aload_n (pc := 12) C dX3_readSitter_12 rfl 1 rfl ?_
    obtain ⟨xq8, h⟩ := iC h
    have xq8 := keq xq8
    obtain ⟨xr9, xσ6, xc7, h⟩ := iB h
    refine g_callVv (pc := 13) (As := []) (rest := []) C dX3_readSitter_13 (fun l => c_X3_nextToken l y _ _ _ _ xc7) cv_X3_31 ⟨rfl, rfl, Nat.le_of_ble_eq_true rfl, Nat.le_of_ble_eq_true rfl⟩ (rv3 xq8) rfl (Nat.le_of_ble_eq_true rfl) ?_
    refine g_iconst (v := 1) (pc := 16) C dX3_readSitter_16 ci_1 ?_
    refine g_istore (i := 4) (lv' := [(4, .int (1)), (3, .int (xr4)), (0, .ref (yad y (xa0))), (1, .ref (yad y (xa1))), (2, .int (xa2))]) (pc := 17) C dX3_readSitter_17 (Nat.le_of_ble_eq_true rfl) rfl ?_
    refine g_sub (lv' := [(0, .ref (yad y (xa0))), (1, .ref (yad y (xa1))), (3, .int (xr4)), (4, .int (1))]) C [2, 3, 1, 0] rfl ?_
    exact l_X3_readSitter_19 C hr 1000 xa0 xa1 xr4 1 xσ6 h
  · have h := iN xq5 h
    refine g_iconst (v := 0) (pc := 10) C dX3_readSitter_10 ci_0 ?_
    exact rtZ hr dX3_readSitter_11 (by decide) h
theorem c_X3_readSitter (l : Launch) (y : YT) (xa0 : Nat) (xa1 : Nat) (xa2 : Int32) (σ σ' : Sto) (r : Int32) (h : F_X3_readSitter xa0 xa1 xa2 σ = some (r, σ')) : MI l y yX3_readSitter (Cond.code yX3_readSitter cX3_readSitter 5 (some .boolean) :: TT) rm_X3_readSitter [.ref (yad y (xa0)), .ref (yad y (xa1)), .int (xa2)] σ r σ' :=
  mkZ (by decide) rfl rfl rfl (Nat.le_of_ble_eq_true rfl) (fun x Z C hr => b_X3_readSitter_0 C hr xa0 xa1 xa2 σ h)
def rm_X3_readQueue : Room := { frames := 3, cells := 0, slots := 0, locals := 81 }
def F_X3_readQueue_b6 (xk_6 : Nat → Nat → Int32 → Sto → Option (Int32 × Sto)) (xa0 : Nat) (xa1 : Nat) (xa2 : Int32) (σ : Sto) : Option (Int32 × Sto) := if 6 ≤ xa2 then if (xa2) ≤ 0 then some (0, σ) else some (1, σ) else ck (kd (xa1) == 0) (ck (kd (xa0) == 3) (bnd (F_X3_isNumber (xa0) ((σ xa1 6) - 1) σ) (fun xr7 xσ4 => if (xr7) = 0 then if (xa2) ≤ 0 then some (0, xσ4) else some (1, xσ4) else bnd (F_X0_seat (xa1) (xa2) (xσ4 xa0 5) xσ4) (fun xr12 xσ10 => bnd (F_X3_nextToken (xa0) xσ10) (fun xr15 xσ13 => xk_6 xa0 xa1 (xa2 + 1) xσ13)))))
def F_X3_readQueue (xa0 : Nat) (xa1 : Nat) (σ : Sto) : Option (Int32 × Sto) := ck (kd (xa0) == 3) (bnd (F_X3_nextToken (xa0) σ) (fun xr4 xσ1 => lo3 (F_X3_readQueue_b6) 1000 xa0 xa1 0 xσ1))
set_option maxHeartbeats 4000000 in
set_option maxRecDepth 20000 in
theorem b_X3_readQueue_6 {x : XT} {y : YT} {Z : State → Prop} (C : Cx x y (AY y) RX3 cX3_readQueue 3 rm_X3_readQueue) {r : Int32} {σ' : Sto} (hr : RetZ x y (AY y) 3 cX3_readQueue Z r σ') (xk_6 : Nat → Nat → Int32 → Sto → Option (Int32 × Sto)) (xH6 : ∀ (xa0 : Nat) (xa1 : Nat) (xa2 : Int32) (σ : Sto), xk_6 xa0 xa1 xa2 σ = some (r, σ') → GW x y (AY y) 3 Z 6 [(0, .ref (yad y (xa0))), (1, .ref (yad y (xa1))), (2, .int (xa2))] [] σ) (xa0 : Nat) (xa1 : Nat) (xa2 : Int32) (σ : Sto) (h : F_X3_readQueue_b6 xk_6 xa0 xa1 xa2 σ = some (r, σ')) : GW x y (AY y) 3 Z 6 [(0, .ref (yad y (xa0))), (1, .ref (yad y (xa1))), (2, .int (xa2))] [] σ := by
  unfold F_X3_readQueue_b6 at h
  refine g_iload_n (pc := 6) C dX3_readQueue_6 rfl 2 rfl ?_
  refine g_bipush (v := 6) (pc := 7) C dX3_readQueue_7 cb_6 ?_
  refine g_icmp_ge (pc := 9) C dX3_readQueue_9 (tgt := 44) rfl (fun xq1 => ?_) (fun xq1 => ?_)
  · have h := iP xq1 h
    refine g_iload_n (pc := 44) C dX3_readQueue_44 rfl 2 rfl ?_
    refine g_if_le (pc := 45) C dX3_readQueue_45 (tgt := 52) rfl (fun xq2 => ?_) (fun xq2 => ?_)
    · have h := iP xq2 h
      refine g_iconst (v := 0) (pc := 52) C dX3_readQueue_52 ci_0 ?_
      exact rtZ hr dX3_readQueue_53 (by decide) h
    · have h := iN xq2 h
      refine g_iconst (v := 1) (pc := 48) C dX3_readQueue_48 ci_1 ?_
      refine g_goto (pc := 49) C dX3_readQueue_49 (tgt := 53) rfl ?_
      exact rtZ hr dX3_readQueue_53 (by decide) h
  · have h := iN xq1 h
    refine g_aload_n (pc := 12) C dX3_readQueue_12 rfl 0 rfl ?_
    refine g_aload_n (pc := 13) C dX3_readQueue_13 rfl 1 rfl ?_
    obtain ⟨xq3, h⟩ := iC h
    have xq3 := keq xq3
    refine gf_0_6 (pc := 14) C wf_X3_83 dX3_readQueue_14 xq3 ?_
    refine g_iconst (v := 1) (pc := 17) C dX3_readQueue_17 ci_1 ?_
    refine g_isub (pc := 18) C dX3_readQueue_18 ?_
    obtain ⟨xq6, h⟩ := iC h
    have xq6 := keq xq6
    obtain ⟨xr7, xσ4, xc5, h⟩ := iB h
    refine g_callVi (pc := 19) (As := [.int ((σ xa1 6) - 1)]) (rest := []) C dX3_readQueue_19 (fun l => c_X3_isNumber l y _ _ _ _ _ xc5) cv_X3_75 ⟨rfl, rfl, Nat.le_of_ble_eq_true rfl, Nat.le_of_ble_eq_true rfl⟩ (rv3 xq6) rfl (Nat.le_of_ble_eq_true rfl) ?_
    refine g_if_eq (pc := 22) C dX3_readQueue_22 (tgt := 44) rfl (fun xq8 => ?_) (fun xq8 => ?_)
    · have h := iP xq8 h
      refine g_iload_n (pc := 44) C dX3_readQueue_44 rfl 2 rfl ?_
      refine g_if_le (pc := 45) C dX3_readQueue_45 (tgt := 52) rfl (fun xq9 => ?_) (fun xq9 => ?_)
      · have h := iP xq9 h
        refine g_iconst (v := 0) (pc := 52) C dX3_readQueue_52 ci_0 ?_
        exact rtZ hr dX3_readQueue_53 (by decide) h
      · have h := iN xq9 h
        refine g_iconst (v := 1) (pc := 48) C dX3_readQueue_48 ci_1 ?_
        refine g_goto (pc := 49) C dX3_readQueue_49 (tgt := 53) rfl ?_
        exact rtZ hr dX3_readQueue_53 (by decide) h
    · have h := iN xq8 h
      refine g_aload_n (pc := 25) C dX3_readQueue_25 rfl 1 rfl ?_
      refine g_iload_n (pc := 26) C dX3_readQueue_26 rfl 2 rfl ?_
      refine g_aload_n (pc := 27) C dX3_readQueue_27 rfl 0 rfl ?_
      refine gf_3_5 (pc := 28) C wf_X3_28 dX3_readQueue_28 xq6 ?_
      obtain ⟨xr12, xσ10, xc11, h⟩ := iB h
      refine g_callVv (pc := 31) (As := [.int (xa2), .int (xσ4 xa0 5)]) (rest := []) C dX3_readQueue_31 (fun l => c_X0_seat l y _ _ _ _ _ _ xc11) cv_X3_86 ⟨rfl, rfl, Nat.le_of_ble_eq_true rfl, Nat.le_of_ble_eq_true rfl⟩ (rv0 xq3) rfl (Nat.le_of_ble_eq_true rfl) ?_
      refine g_aload_n (pc := 34) C dX3_readQueue_34 rfl 0 rfl ?_
      obtain ⟨xr15, xσ13, xc14, h⟩ := iB h
      refine g_callVv (pc := 35) (As := []) (rest := []) C dX3_readQueue_35 (fun l => c_X3_nextToken l y _ _ _ _ xc14) cv_X3_31 ⟨rfl, rfl, Nat.le_of_ble_eq_true rfl, Nat.le_of_ble_eq_true rfl⟩ (rv3 xq6) rfl (Nat.le_of_ble_eq_true rfl) ?_
      refine g_iinc (lv' := [(2, .int (xa2 + 1)), (0, .ref (yad y (xa0))), (1, .ref (yad y (xa1)))]) (w := xa2 + 1) (pc := 38) C dX3_readQueue_38 (k := 2) rfl rfl (Nat.le_of_ble_eq_true rfl) rfl ?_
      refine g_goto (pc := 41) C dX3_readQueue_41 (tgt := 6) rfl ?_
      refine g_sub (lv' := [(0, .ref (yad y (xa0))), (1, .ref (yad y (xa1))), (2, .int (xa2 + 1))]) C [1, 2, 0] rfl ?_
      exact xH6 xa0 xa1 (xa2 + 1) xσ13 h
theorem l_X3_readQueue_6 {x : XT} {y : YT} {Z : State → Prop} (C : Cx x y (AY y) RX3 cX3_readQueue 3 rm_X3_readQueue) {r : Int32} {σ' : Sto} (hr : RetZ x y (AY y) 3 cX3_readQueue Z r σ') (n : Nat) (xa0 : Nat) (xa1 : Nat) (xa2 : Int32) (σ : Sto) (h : lo3 (F_X3_readQueue_b6) n xa0 xa1 xa2 σ = some (r, σ')) : GW x y (AY y) 3 Z 6 [(0, .ref (yad y (xa0))), (1, .ref (yad y (xa1))), (2, .int (xa2))] [] σ :=
  lo3_gw (G := fun xa0 xa1 xa2 σ => GW x y (AY y) 3 Z 6 [(0, .ref (yad y (xa0))), (1, .ref (yad y (xa1))), (2, .int (xa2))] [] σ) (fun xk xHk xa0 xa1 xa2 σ h => b_X3_readQueue_6 C hr xk xHk xa0 xa1 xa2 σ h) n xa0 xa1 xa2 σ h
set_option maxHeartbeats 4000000 in
set_option maxRecDepth 20000 in
theorem b_X3_readQueue_0 {x : XT} {y : YT} {Z : State → Prop} (C : Cx x y (AY y) RX3 cX3_readQueue 3 rm_X3_readQueue) {r : Int32} {σ' : Sto} (hr : RetZ x y (AY y) 3 cX3_readQueue Z r σ') (xa0 : Nat) (xa1 : Nat) (σ : Sto) (h : F_X3_readQueue xa0 xa1 σ = some (r, σ')) : GW x y (AY y) 3 Z 0 [(0, .ref (yad y (xa0))), (1, .ref (yad y (xa1)))] [] σ := by
  unfold F_X3_readQueue at h
  refine g_aload_n (pc := 0) C dX3_readQueue_0 rfl 0 rfl ?_
  obtain ⟨xq3, h⟩ := iC h
  have xq3 := keq xq3
  obtain ⟨xr4, xσ1, xc2, h⟩ := iB h
  refine g_callVv (pc := 1) (As := []) (rest := []) C dX3_readQueue_1 (fun l => c_X3_nextToken l y _ _ _ _ xc2) cv_X3_31 ⟨rfl, rfl, Nat.le_of_ble_eq_true rfl, Nat.le_of_ble_eq_true rfl⟩ (rv3 xq3) rfl (Nat.le_of_ble_eq_true rfl) ?_
  refine g_iconst (v := 0) (pc := 4) C dX3_readQueue_4 ci_0 ?_
  refine g_istore_n (i := 2) (lv' := [(2, .int (0)), (0, .ref (yad y (xa0))), (1, .ref (yad y (xa1)))]) (pc := 5) C dX3_readQueue_5 rfl (Nat.le_of_ble_eq_true rfl) rfl ?_
  refine g_sub (lv' := [(0, .ref (yad y (xa0))), (1, .ref (yad y (xa1))), (2, .int (0))]) C [1, 2, 0] rfl ?_
  exact l_X3_readQueue_6 C hr 1000 xa0 xa1 0 xσ1 h
theorem c_X3_readQueue (l : Launch) (y : YT) (xa0 : Nat) (xa1 : Nat) (σ σ' : Sto) (r : Int32) (h : F_X3_readQueue xa0 xa1 σ = some (r, σ')) : MI l y yX3_readQueue (Cond.code yX3_readQueue cX3_readQueue 3 (some .boolean) :: TT) rm_X3_readQueue [.ref (yad y (xa0)), .ref (yad y (xa1))] σ r σ' :=
  mkZ (by decide) rfl rfl rfl (Nat.le_of_ble_eq_true rfl) (fun x Z C hr => b_X3_readQueue_0 C hr xa0 xa1 σ h)
def rm_X3_wordOfPart : Room := { frames := 0, cells := 0, slots := 0, locals := 0 }
def F_X3_wordOfPart (xa0 : Int32) (σ : Sto) : Option (Nat × Sto) := if xa0 = 1 then some (113, σ) else if xa0 = 2 then some (114, σ) else some (112, σ)
set_option maxHeartbeats 4000000 in
set_option maxRecDepth 20000 in
theorem b_X3_wordOfPart_0 {x : XT} {y : YT} {Z : State → Prop} (C : Cx x y (AY y) RX3 cX3_wordOfPart 1 rm_X3_wordOfPart) {r : Nat} {σ' : Sto} (hr : RetR x y (AY y) 1 cX3_wordOfPart Z r σ') (xa0 : Int32) (σ : Sto) (h : F_X3_wordOfPart xa0 σ = some (r, σ')) : GW x y (AY y) 1 Z 0 [(0, .int (xa0))] [] σ := by
  unfold F_X3_wordOfPart at h
  refine g_iload_n (pc := 0) C dX3_wordOfPart_0 rfl 0 rfl ?_
  by_cases xq1 : xa0 = 1
  · have h := iP xq1 h
    refine g_lookup (pc := 1) C dX3_wordOfPart_1 (off := 27) (tgt := 28) (by decide) (by rw [xq1]; decide) rfl ?_
    refine g_ldcs (pc := 28) C dX3_wordOfPart_28 (k := 13) (tx := _) sit_X3_136 ?_
    exact rtR hr dX3_wordOfPart_30 h
  · have h := iN xq1 h
    by_cases xq2 : xa0 = 2
    · have h := iP xq2 h
      refine g_lookup (pc := 1) C dX3_wordOfPart_1 (off := 30) (tgt := 31) (by decide) (by rw [xq2]; decide) rfl ?_
      refine g_ldcs (pc := 31) C dX3_wordOfPart_31 (k := 14) (tx := _) sit_X3_138 ?_
      exact rtR hr dX3_wordOfPart_33 h
    · have h := iN xq2 h
      have xe0 : ¬ xa0.toInt = 1 := tne xq1
      have xe1 : ¬ xa0.toInt = 2 := tne xq2
      refine g_lookup (pc := 1) C dX3_wordOfPart_1 (off := 33) (tgt := 34) (by decide) (by simp [Op.lookupswitch.offset, xe0, Ne.symm xe0, xe1, Ne.symm xe1]) rfl ?_
      refine g_ldcs (pc := 34) C dX3_wordOfPart_34 (k := 12) (tx := _) sit_X3_140 ?_
      exact rtR hr dX3_wordOfPart_36 h
theorem c_X3_wordOfPart (l : Launch) (y : YT) (xa0 : Int32) (σ σ' : Sto) (r : Nat) (h : F_X3_wordOfPart xa0 σ = some (r, σ')) : MR l y yX3_wordOfPart (Cond.code yX3_wordOfPart cX3_wordOfPart 1 (some (.object "java/lang/String")) :: TT) rm_X3_wordOfPart [.int (xa0)] σ r σ' :=
  mkR (by decide) rfl rfl rfl (Nat.le_of_ble_eq_true rfl) (fun x Z C hr => b_X3_wordOfPart_0 C hr xa0 σ h)
def rm_X3_readPart : Room := { frames := 3, cells := 0, slots := 0, locals := 81 }
def F_X3_readPart (xa0 : Nat) (xa1 : Nat) (xa2 : Int32) (σ : Sto) : Option (Int32 × Sto) := ck (kd (xa0) == 3) (bnd (F_X3_nextToken (xa0) σ) (fun xr4 xσ1 => bnd (F_X0_mostOf (xa2) xσ1) (fun xr7 xσ5 => bnd (F_X3_isNumber (xa0) (xr7) xσ5) (fun xr10 xσ8 => if (xr10) = 0 then some (0, xσ8) else ck (kd (xa1) == 0) (bnd (F_X0_putPart (xa1) (xa2) (xσ8 xa0 5) xσ8) (fun xr15 xσ12 => bnd (F_X3_nextToken (xa0) xσ12) (fun xr18 xσ16 => some (1, xσ16))))))))
set_option maxHeartbeats 4000000 in
set_option maxRecDepth 20000 in
theorem b_X3_readPart_0 {x : XT} {y : YT} {Z : State → Prop} (C : Cx x y (AY y) RX3 cX3_readPart 3 rm_X3_readPart) {r : Int32} {σ' : Sto} (hr : RetZ x y (AY y) 3 cX3_readPart Z r σ') (xa0 : Nat) (xa1 : Nat) (xa2 : Int32) (σ : Sto) (h : F_X3_readPart xa0 xa1 xa2 σ = some (r, σ')) : GW x y (AY y) 3 Z 0 [(0, .ref (yad y (xa0))), (1, .ref (yad y (xa1))), (2, .int (xa2))] [] σ := by
  unfold F_X3_readPart at h
  refine g_aload_n (pc := 0) C dX3_readPart_0 rfl 0 rfl ?_
  obtain ⟨xq3, h⟩ := iC h
  have xq3 := keq xq3
  obtain ⟨xr4, xσ1, xc2, h⟩ := iB h
  refine g_callVv (pc := 1) (As := []) (rest := []) C dX3_readPart_1 (fun l => c_X3_nextToken l y _ _ _ _ xc2) cv_X3_31 ⟨rfl, rfl, Nat.le_of_ble_eq_true rfl, Nat.le_of_ble_eq_true rfl⟩ (rv3 xq3) rfl (Nat.le_of_ble_eq_true rfl) ?_
  refine g_aload_n (pc := 4) C dX3_readPart_4 rfl 0 rfl ?_
  refine g_iload_n (pc := 5) C dX3_readPart_5 rfl 2 rfl ?_
  obtain ⟨xr7, xσ5, xc6, h⟩ := iB h
  refine g_callSi (pc := 6) (As := [.int (xa2)]) (rest := [.ref (yad y (xa0))]) C dX3_readPart_6 (fun l => c_X0_mostOf l y _ _ _ _ xc6) cv_X3_90 ⟨rfl, rfl, Nat.le_of_ble_eq_true rfl, Nat.le_of_ble_eq_true rfl⟩ rfl (Nat.le_of_ble_eq_true rfl) ?_
  obtain ⟨xr10, xσ8, xc9, h⟩ := iB h
  refine g_callVi (pc := 9) (As := [.int (xr7)]) (rest := []) C dX3_readPart_9 (fun l => c_X3_isNumber l y _ _ _ _ _ xc9) cv_X3_75 ⟨rfl, rfl, Nat.le_of_ble_eq_true rfl, Nat.le_of_ble_eq_true rfl⟩ (rv3 xq3) rfl (Nat.le_of_ble_eq_true rfl) ?_
  refine g_if_ne (pc := 12) C dX3_readPart_12 (tgt := 17) rfl (fun xq11 => ?_) (fun xq11 => ?_)
  · have h := iN xq11 h
    refine g_aload_n (pc := 17) C dX3_readPart_17 rfl 1 rfl ?_
    refine g_iload_n (pc := 18) C dX3_readPart_18 rfl 2 rfl ?_
    refine g_aload_n (pc := 19) C dX3_readPart_19 rfl 0 rfl ?_
    refine gf_3_5 (pc := 20) C wf_X3_28 dX3_readPart_20 xq3 ?_
    obtain ⟨xq14, h⟩ := iC h
    have xq14 := keq xq14
    obtain ⟨xr15, xσ12, xc13, h⟩ := iB h
    refine g_callVv (pc := 23) (As := [.int (xa2), .int (xσ8 xa0 5)]) (rest := []) C dX3_readPart_23 (fun l => c_X0_putPart l y _ _ _ _ _ _ xc13) cv_X3_91 ⟨rfl, rfl, Nat.le_of_ble_eq_true rfl, Nat.le_of_ble_eq_true rfl⟩ (rv0 xq14) rfl (Nat.le_of_ble_eq_true rfl) ?_
    refine g_aload_n (pc := 26) C dX3_readPart_26 rfl 0 rfl ?_
    obtain ⟨xr18, xσ16, xc17, h⟩ := iB h
    refine g_callVv (pc := 27) (As := []) (rest := []) C dX3_readPart_27 (fun l => c_X3_nextToken l y _ _ _ _ xc17) cv_X3_31 ⟨rfl, rfl, Nat.le_of_ble_eq_true rfl, Nat.le_of_ble_eq_true rfl⟩ (rv3 xq3) rfl (Nat.le_of_ble_eq_true rfl) ?_
    refine g_iconst (v := 1) (pc := 30) C dX3_readPart_30 ci_1 ?_
    exact rtZ hr dX3_readPart_31 (by decide) h
  · have h := iP xq11 h
    refine g_iconst (v := 0) (pc := 15) C dX3_readPart_15 ci_0 ?_
    exact rtZ hr dX3_readPart_16 (by decide) h
theorem c_X3_readPart (l : Launch) (y : YT) (xa0 : Nat) (xa1 : Nat) (xa2 : Int32) (σ σ' : Sto) (r : Int32) (h : F_X3_readPart xa0 xa1 xa2 σ = some (r, σ')) : MI l y yX3_readPart (Cond.code yX3_readPart cX3_readPart 3 (some .boolean) :: TT) rm_X3_readPart [.ref (yad y (xa0)), .ref (yad y (xa1)), .int (xa2)] σ r σ' :=
  mkZ (by decide) rfl rfl rfl (Nat.le_of_ble_eq_true rfl) (fun x Z C hr => b_X3_readPart_0 C hr xa0 xa1 xa2 σ h)
def rm_X3_readItem : Room := { frames := 8, cells := 0, slots := 0, locals := 207 }
def F_X3_readItem_b49 (xk_49 : Nat → Nat → Int32 → Sto → Option (Int32 × Sto)) (xa0 : Nat) (xa1 : Nat) (xa2 : Int32) (σ : Sto) : Option (Int32 × Sto) := if 2 < xa2 then some (0, σ) else bnd (F_X3_wordOfPart (xa2) σ) (fun xr4 xσ2 => ck (kd (xa0) == 3) (bnd (F_X3_isWord (xa0) (xr4) xσ2) (fun xr8 xσ5 => if (xr8) = 0 then xk_49 xa0 xa1 (xa2 + 1) xσ5 else bnd (F_X3_readPart (xa0) (xa1) (xa2) xσ5) (fun xr12 xσ10 => ck (z01 (xr12)) (some (xr12, xσ10))))))
def F_X3_readItem_b2 (xk_2 : Nat → Nat → Int32 → Sto → Option (Int32 × Sto)) (xa0 : Nat) (xa1 : Nat) (xa2 : Int32) (σ : Sto) : Option (Int32 × Sto) := if 6 < xa2 then ck (kd (xa0) == 3) (bnd (F_X3_isWord (xa0) (111) σ) (fun xr5 xσ2 => if (xr5) = 0 then lo3 (F_X3_readItem_b49) 1000 xa0 xa1 0 xσ2 else bnd (F_X3_readQueue (xa0) (xa1) xσ2) (fun xr9 xσ7 => ck (z01 (xr9)) (some (xr9, xσ7))))) else bnd (F_X3_wordOfKind (xa2) σ) (fun xr12 xσ10 => ck (kd (xa0) == 3) (bnd (F_X3_isWord (xa0) (xr12) xσ10) (fun xr16 xσ13 => if (xr16) = 0 then xk_2 xa0 xa1 (xa2 + 1) xσ13 else bnd (F_X3_readSitter (xa0) (xa1) (xa2) xσ13) (fun xr20 xσ18 => ck (z01 (xr20)) (some (xr20, xσ18))))))
def F_X3_readItem (xa0 : Nat) (xa1 : Nat) (σ : Sto) : Option (Int32 × Sto) := lo3 (F_X3_readItem_b2) 1000 xa0 xa1 0 σ
set_option maxHeartbeats 4000000 in
set_option maxRecDepth 20000 in
theorem b_X3_readItem_49 {x : XT} {y : YT} {Z : State → Prop} (C : Cx x y (AY y) RX3 cX3_readItem 3 rm_X3_readItem) {r : Int32} {σ' : Sto} (hr : RetZ x y (AY y) 3 cX3_readItem Z r σ') (xk_49 : Nat → Nat → Int32 → Sto → Option (Int32 × Sto)) (xH49 : ∀ (xa0 : Nat) (xa1 : Nat) (xa2 : Int32) (σ : Sto), xk_49 xa0 xa1 xa2 σ = some (r, σ') → GW x y (AY y) 3 Z 49 [(0, .ref (yad y (xa0))), (1, .ref (yad y (xa1))), (2, .int (xa2))] [] σ) (xa0 : Nat) (xa1 : Nat) (xa2 : Int32) (σ : Sto) (h : F_X3_readItem_b49 xk_49 xa0 xa1 xa2 σ = some (r, σ')) : GW x y (AY y) 3 Z 49 [(0, .ref (yad y (xa0))), (1, .ref (yad y (xa1))), (2, .int (xa2))] [] σ := by
  unfold F_X3_readItem_b49 at h
  refine g_iload_n (pc := 49) C dX3_readItem_49 rfl 2 rfl ?_
  refine g_iconst (v := 2) (pc := 50) C dX3_readItem_50 ci_2 ?_
  refine g_icmp_gt (pc := 51) C dX3_readItem_51 (tgt := 78) rfl (fun xq1 => ?_) (fun xq1 => ?_)
  · have h := iP xq1 h
    refine g_iconst (v := 0) (pc := 78) C dX3_readItem_78 ci_0 ?_
    exact rtZ hr dX3_readItem_79 (by decide) h
  · have h := iN xq1 h
    refine g_aload_n (pc := 54) C dX3_readItem_54 rfl 0 rfl ?_
    refine g_iload_n (pc := 55) C dX3_readItem_55 rfl 2 rfl ?_
    obtain ⟨xr4, xσ2, xc3, h⟩ := iB h
    refine g_callSr (pc := 56) (As := [.int (xa2)]) (rest := [.ref (yad y (xa0))]) C dX3_readItem_56 (fun l => c_X3_wordOfPart l y _ _ _ _ xc3) cv_X3_55 ⟨rfl, rfl, Nat.le_of_ble_eq_true rfl, Nat.le_of_ble_eq_true rfl⟩ rfl (Nat.le_of_ble_eq_true rfl) ?_
    obtain ⟨xq7, h⟩ := iC h
    have xq7 := keq xq7
    obtain ⟨xr8, xσ5, xc6, h⟩ := iB h
    refine g_callVi (pc := 59) (As := [.ref (yad y (xr4))]) (rest := []) C dX3_readItem_59 (fun l => c_X3_isWord l y _ _ _ _ _ xc6) cv_X3_42 ⟨rfl, rfl, Nat.le_of_ble_eq_true rfl, Nat.le_of_ble_eq_true rfl⟩ (rv3 xq7) rfl (Nat.le_of_ble_eq_true rfl) ?_
    refine g_if_eq (pc := 62) C dX3_readItem_62 (tgt := 72) rfl (fun xq9 => ?_) (fun xq9 => ?_)
    · have h := iP xq9 h
      refine g_iinc (lv' := [(2, .int (xa2 + 1)), (0, .ref (yad y (xa0))), (1, .ref (yad y (xa1)))]) (w := xa2 + 1) (pc := 72) C dX3_readItem_72 (k := 2) rfl rfl (Nat.le_of_ble_eq_true rfl) rfl ?_
      refine g_goto (pc := 75) C dX3_readItem_75 (tgt := 49) rfl ?_
      refine g_sub (lv' := [(0, .ref (yad y (xa0))), (1, .ref (yad y (xa1))), (2, .int (xa2 + 1))]) C [1, 2, 0] rfl ?_
      exact xH49 xa0 xa1 (xa2 + 1) xσ5 h
    · have h := iN xq9 h
      refine g_aload_n (pc := 65) C dX3_readItem_65 rfl 0 rfl ?_
      refine g_aload_n (pc := 66) C dX3_readItem_66 rfl 1 rfl ?_
      refine g_iload_n (pc := 67) C dX3_readItem_67 rfl 2 rfl ?_
      obtain ⟨xr12, xσ10, xc11, h⟩ := iB h
      refine g_callVi (pc := 68) (As := [.ref (yad y (xa1)), .int (xa2)]) (rest := []) C dX3_readItem_68 (fun l => c_X3_readPart l y _ _ _ _ _ _ xc11) cv_X3_58 ⟨rfl, rfl, Nat.le_of_ble_eq_true rfl, Nat.le_of_ble_eq_true rfl⟩ (rv3 xq7) rfl (Nat.le_of_ble_eq_true rfl) ?_
      obtain ⟨xz, h⟩ := iC h
      exact rtZ hr dX3_readItem_71 (z01_or xz) h
theorem l_X3_readItem_49 {x : XT} {y : YT} {Z : State → Prop} (C : Cx x y (AY y) RX3 cX3_readItem 3 rm_X3_readItem) {r : Int32} {σ' : Sto} (hr : RetZ x y (AY y) 3 cX3_readItem Z r σ') (n : Nat) (xa0 : Nat) (xa1 : Nat) (xa2 : Int32) (σ : Sto) (h : lo3 (F_X3_readItem_b49) n xa0 xa1 xa2 σ = some (r, σ')) : GW x y (AY y) 3 Z 49 [(0, .ref (yad y (xa0))), (1, .ref (yad y (xa1))), (2, .int (xa2))] [] σ :=
  lo3_gw (G := fun xa0 xa1 xa2 σ => GW x y (AY y) 3 Z 49 [(0, .ref (yad y (xa0))), (1, .ref (yad y (xa1))), (2, .int (xa2))] [] σ) (fun xk xHk xa0 xa1 xa2 σ h => b_X3_readItem_49 C hr xk xHk xa0 xa1 xa2 σ h) n xa0 xa1 xa2 σ h
set_option maxHeartbeats 4000000 in
set_option maxRecDepth 20000 in
theorem b_X3_readItem_2 {x : XT} {y : YT} {Z : State → Prop} (C : Cx x y (AY y) RX3 cX3_readItem 3 rm_X3_readItem) {r : Int32} {σ' : Sto} (hr : RetZ x y (AY y) 3 cX3_readItem Z r σ') (xk_2 : Nat → Nat → Int32 → Sto → Option (Int32 × Sto)) (xH2 : ∀ (xa0 : Nat) (xa1 : Nat) (xa2 : Int32) (σ : Sto), xk_2 xa0 xa1 xa2 σ = some (r, σ') → GW x y (AY y) 3 Z 2 [(0, .ref (yad y (xa0))), (1, .ref (yad y (xa1))), (2, .int (xa2))] [] σ) (xa0 : Nat) (xa1 : Nat) (xa2 : Int32) (σ : Sto) (h : F_X3_readItem_b2 xk_2 xa0 xa1 xa2 σ = some (r, σ')) : GW x y (AY y) 3 Z 2 [(0, .ref (yad y (xa0))), (1, .ref (yad y (xa1))), (2, .int (xa2))] [] σ := by
  unfold F_X3_readItem_b2 at h
  refine g_iload_n (pc := 2) C dX3_readItem_2 rfl 2 rfl ?_
  refine g_bipush (v := 6) (pc := 3) C dX3_readItem_3 cb_6 ?_
  refine g_icmp_gt (pc := 5) C dX3_readItem_5 (tgt := 32) rfl (fun xq1 => ?_) (fun xq1 => ?_)
  · have h := iP xq1 h
    refine g_aload_n (pc := 32) C dX3_readItem_32 rfl 0 rfl ?_
    refine g_ldcs (pc := 33) C dX3_readItem_33 (k := 11) (tx := _) sit_X3_50 ?_
    obtain ⟨xq4, h⟩ := iC h
    have xq4 := keq xq4
    obtain ⟨xr5, xσ2, xc3, h⟩ := iB h
    refine g_callVi (pc := 35) (As := [.ref (yad y (111))]) (rest := []) C dX3_readItem_35 (fun l => c_X3_isWord l y _ _ _ _ _ xc3) cv_X3_42 ⟨rfl, rfl, Nat.le_of_ble_eq_true rfl, Nat.le_of_ble_eq_true rfl⟩ (rv3 xq4) rfl (Nat.le_of_ble_eq_true rfl) ?_
    refine g_if_eq (pc := 38) C dX3_readItem_38 (tgt := 47) rfl (fun xq6 => ?_) (fun xq6 => ?_)
    · have h := iP xq6 h
      refine g_iconst (v := 0) (pc := 47) C dX3_readItem_47 ci_0 ?_
      refine g_istore_n (i := 2) (lv' := [(2, .int (0)), (0, .ref (yad y (xa0))), (1, .ref (yad y (xa1)))]) (pc := 48) C dX3_readItem_48 rfl (Nat.le_of_ble_eq_true rfl) rfl ?_
      refine g_sub (lv' := [(0, .ref (yad y (xa0))), (1, .ref (yad y (xa1))), (2, .int (0))]) C [1, 2, 0] rfl ?_
      exact l_X3_readItem_49 C hr 1000 xa0 xa1 0 xσ2 h
    · have h := iN xq6 h
      refine g_aload_n (pc := 41) C dX3_readItem_41 rfl 0 rfl ?_
      refine g_aload_n (pc := 42) C dX3_readItem_42 rfl 1 rfl ?_
      obtain ⟨xr9, xσ7, xc8, h⟩ := iB h
      refine g_callVi (pc := 43) (As := [.ref (yad y (xa1))]) (rest := []) C dX3_readItem_43 (fun l => c_X3_readQueue l y _ _ _ _ _ xc8) cv_X3_52 ⟨rfl, rfl, Nat.le_of_ble_eq_true rfl, Nat.le_of_ble_eq_true rfl⟩ (rv3 xq4) rfl (Nat.le_of_ble_eq_true rfl) ?_
      obtain ⟨xz, h⟩ := iC h
      exact rtZ hr dX3_readItem_46 (z01_or xz) h
  · have h := iN xq1 h
    refine g_aload_n (pc := 8) C dX3_readItem_8 rfl 0 rfl ?_
    refine g_iload_n (pc := 9) C dX3_readItem_9 rfl 2 rfl ?_
    obtain ⟨xr12, xσ10, xc11, h⟩ := iB h
    refine g_callSr (pc := 10) (As := [.int (xa2)]) (rest := [.ref (yad y (xa0))]) C dX3_readItem_10 (fun l => c_X3_wordOfKind l y _ _ _ _ xc11) cv_X3_38 ⟨rfl, rfl, Nat.le_of_ble_eq_true rfl, Nat.le_of_ble_eq_true rfl⟩ rfl (Nat.le_of_ble_eq_true rfl) ?_
    obtain ⟨xq15, h⟩ := iC h
    have xq15 := keq xq15
    obtain ⟨xr16, xσ13, xc14, h⟩ := iB h
    refine g_callVi (pc := 13) (As := [.ref (yad y (xr12))]) (rest := []) C dX3_readItem_13 (fun l => c_X3_isWord l y _ _ _ _ _ xc14) cv_X3_42 ⟨rfl, rfl, Nat.le_of_ble_eq_true rfl, Nat.le_of_ble_eq_true rfl⟩ (rv3 xq15) rfl (Nat.le_of_ble_eq_true rfl) ?_
    refine g_if_eq (pc := 16) C dX3_readItem_16 (tgt := 26) rfl (fun xq17 => ?_) (fun xq17 => ?_)
    · have h := iP xq17 h
      refine g_iinc (lv' := [(2, .int (xa2 + 1)), (0, .ref (yad y (xa0))), (1, .ref (yad y (xa1)))]) (w := xa2 + 1) (pc := 26) C dX3_readItem_26 (k := 2) rfl rfl (Nat.le_of_ble_eq_true rfl) rfl ?_
      refine g_goto (pc := 29) C dX3_readItem_29 (tgt := 2) rfl ?_
      refine g_sub (lv' := [(0, .ref (yad y (xa0))), (1, .ref (yad y (xa1))), (2, .int (xa2 + 1))]) C [1, 2, 0] rfl ?_
      exact xH2 xa0 xa1 (xa2 + 1) xσ13 h
    · have h := iN xq17 h
      refine g_aload_n (pc := 19) C dX3_readItem_19 rfl 0 rfl ?_
      refine g_aload_n (pc := 20) C dX3_readItem_20 rfl 1 rfl ?_
      refine g_iload_n (pc := 21) C dX3_readItem_21 rfl 2 rfl ?_
      obtain ⟨xr20, xσ18, xc19, h⟩ := iB h
      refine g_callVi (pc := 22) (As := [.ref (yad y (xa1)), .int (xa2)]) (rest := []) C dX3_readItem_22 (fun l => c_X3_readSitter l y _ _ _ _ _ _ xc19) cv_X3_46 ⟨rfl, rfl, Nat.le_of_ble_eq_true rfl, Nat.le_of_ble_eq_true rfl⟩ (rv3 xq15) rfl (Nat.le_of_ble_eq_true rfl) ?_
      obtain ⟨xz, h⟩ := iC h
      exact rtZ hr dX3_readItem_25 (z01_or xz) h
theorem l_X3_readItem_2 {x : XT} {y : YT} {Z : State → Prop} (C : Cx x y (AY y) RX3 cX3_readItem 3 rm_X3_readItem) {r : Int32} {σ' : Sto} (hr : RetZ x y (AY y) 3 cX3_readItem Z r σ') (n : Nat) (xa0 : Nat) (xa1 : Nat) (xa2 : Int32) (σ : Sto) (h : lo3 (F_X3_readItem_b2) n xa0 xa1 xa2 σ = some (r, σ')) : GW x y (AY y) 3 Z 2 [(0, .ref (yad y (xa0))), (1, .ref (yad y (xa1))), (2, .int (xa2))] [] σ :=
  lo3_gw (G := fun xa0 xa1 xa2 σ => GW x y (AY y) 3 Z 2 [(0, .ref (yad y (xa0))), (1, .ref (yad y (xa1))), (2, .int (xa2))] [] σ) (fun xk xHk xa0 xa1 xa2 σ h => b_X3_readItem_2 C hr xk xHk xa0 xa1 xa2 σ h) n xa0 xa1 xa2 σ h
set_option maxHeartbeats 4000000 in
set_option maxRecDepth 20000 in
theorem b_X3_readItem_0 {x : XT} {y : YT} {Z : State → Prop} (C : Cx x y (AY y) RX3 cX3_readItem 3 rm_X3_readItem) {r : Int32} {σ' : Sto} (hr : RetZ x y (AY y) 3 cX3_readItem Z r σ') (xa0 : Nat) (xa1 : Nat) (σ : Sto) (h : F_X3_readItem xa0 xa1 σ = some (r, σ')) : GW x y (AY y) 3 Z 0 [(0, .ref (yad y (xa0))), (1, .ref (yad y (xa1)))] [] σ := by
  unfold F_X3_readItem at h
  refine g_iconst (v := 0) (pc := 0) C dX3_readItem_0 ci_0 ?_
  refine g_istore_n (i := 2) (lv' := [(2, .int (0)), (0, .ref (yad y (xa0))), (1, .ref (yad y (xa1)))]) (pc := 1) C dX3_readItem_1 rfl (Nat.le_of_ble_eq_true rfl) rfl ?_
  refine g_sub (lv' := [(0, .ref (yad y (xa0))), (1, .ref (yad y (xa1))), (2, .int (0))]) C [1, 2, 0] rfl ?_
  exact l_X3_readItem_2 C hr 1000 xa0 xa1 0 σ h
theorem c_X3_readItem (l : Launch) (y : YT) (xa0 : Nat) (xa1 : Nat) (σ σ' : Sto) (r : Int32) (h : F_X3_readItem xa0 xa1 σ = some (r, σ')) : MI l y yX3_readItem (Cond.code yX3_readItem cX3_readItem 3 (some .boolean) :: TT) rm_X3_readItem [.ref (yad y (xa0)), .ref (yad y (xa1))] σ r σ' :=
  mkZ (by decide) rfl rfl rfl (Nat.le_of_ble_eq_true rfl) (fun x Z C hr => b_X3_readItem_0 C hr xa0 xa1 σ h)
def rm_X3_readInto : Room := { frames := 9, cells := 0, slots := 0, locals := 229 }
def F_X3_readInto_b11 (xk_11 : Nat → Nat → Int32 → Sto → Option (Int32 × Sto)) (xa0 : Nat) (xa1 : Nat) (xa2 : Int32) (σ : Sto) : Option (Int32 × Sto) := if 120 ≤ xa2 then ck (kd (xa0) == 3) (some ((-1) - (σ xa0 2), σ)) else ck (kd (xa0) == 3) (bnd (F_X3_readItem (xa0) (xa1) σ) (fun xr6 xσ3 => if (xr6) = 0 then some ((-1) - (xσ3 xa0 2), xσ3) else if (xσ3 xa0 4) = 0 then some (xa2 + 1, xσ3) else if (xσ3 xa0 4) = 3 then bnd (F_X3_nextToken (xa0) xσ3) (fun xr12 xσ10 => xk_11 xa0 xa1 (xa2 + 1) xσ10) else some ((-1) - (xσ3 xa0 2), xσ3)))
def F_X3_readInto (xa0 : Nat) (xa1 : Nat) (σ : Sto) : Option (Int32 × Sto) := ck (kd (xa0) == 3) (lts (up2 σ (xa0) 3 (0)) (fun xσ2 => bnd (F_X3_nextToken (xa0) xσ2) (fun xr5 xσ3 => lo3 (F_X3_readInto_b11) 1000 xa0 xa1 0 xσ3)))
set_option maxHeartbeats 4000000 in
set_option maxRecDepth 20000 in
theorem b_X3_readInto_11 {x : XT} {y : YT} {Z : State → Prop} (C : Cx x y (AY y) RX3 cX3_readInto 3 rm_X3_readInto) {r : Int32} {σ' : Sto} (hr : RetI x y (AY y) 3 cX3_readInto Z r σ') (xk_11 : Nat → Nat → Int32 → Sto → Option (Int32 × Sto)) (xH11 : ∀ (xa0 : Nat) (xa1 : Nat) (xa2 : Int32) (σ : Sto), xk_11 xa0 xa1 xa2 σ = some (r, σ') → GW x y (AY y) 3 Z 11 [(0, .ref (yad y (xa0))), (1, .ref (yad y (xa1))), (2, .int (xa2))] [] σ) (xa0 : Nat) (xa1 : Nat) (xa2 : Int32) (σ : Sto) (h : F_X3_readInto_b11 xk_11 xa0 xa1 xa2 σ = some (r, σ')) : GW x y (AY y) 3 Z 11 [(0, .ref (yad y (xa0))), (1, .ref (yad y (xa1))), (2, .int (xa2))] [] σ := by
  unfold F_X3_readInto_b11 at h
  refine g_iload_n (pc := 11) C dX3_readInto_11 rfl 2 rfl ?_
  refine g_bipush (v := 120) (pc := 12) C dX3_readInto_12 cb_120 ?_
  refine g_icmp_ge (pc := 14) C dX3_readInto_14 (tgt := 55) rfl (fun xq1 => ?_) (fun xq1 => ?_)
  · have h := iP xq1 h
    refine g_iconst (v := (-1)) (pc := 55) C dX3_readInto_55 ci_m1 ?_
    refine g_aload_n (pc := 56) C dX3_readInto_56 rfl 0 rfl ?_
    obtain ⟨xq2, h⟩ := iC h
    have xq2 := keq xq2
    refine gf_3_2 (pc := 57) C wf_X3_19 dX3_readInto_57 xq2 ?_
    refine g_isub (pc := 60) C dX3_readInto_60 ?_
    exact rtI hr dX3_readInto_61 h
  · have h := iN xq1 h
    refine g_aload_n (pc := 17) C dX3_readInto_17 rfl 0 rfl ?_
    refine g_aload_n (pc := 18) C dX3_readInto_18 rfl 1 rfl ?_
    obtain ⟨xq5, h⟩ := iC h
    have xq5 := keq xq5
    obtain ⟨xr6, xσ3, xc4, h⟩ := iB h
    refine g_callVi (pc := 19) (As := [.ref (yad y (xa1))]) (rest := []) C dX3_readInto_19 (fun l => c_X3_readItem l y _ _ _ _ _ xc4) cv_X3_34 ⟨rfl, rfl, Nat.le_of_ble_eq_true rfl, Nat.le_of_ble_eq_true rfl⟩ (rv3 xq5) rfl (Nat.le_of_ble_eq_true rfl) ?_
    refine g_if_eq (pc := 22) C dX3_readInto_22 (tgt := 55) rfl (fun xq7 => ?_) (fun xq7 => ?_)
    · have h := iP xq7 h
      refine g_iconst (v := (-1)) (pc := 55) C dX3_readInto_55 ci_m1 ?_
      refine g_aload_n (pc := 56) C dX3_readInto_56 rfl 0 rfl ?_
      refine gf_3_2 (pc := 57) C wf_X3_19 dX3_readInto_57 xq5 ?_
      refine g_isub (pc := 60) C dX3_readInto_60 ?_
      exact rtI hr dX3_readInto_61 h
    · have h := iN xq7 h
      refine g_iinc (lv' := [(2, .int (xa2 + 1)), (0, .ref (yad y (xa0))), (1, .ref (yad y (xa1)))]) (w := xa2 + 1) (pc := 25) C dX3_readInto_25 (k := 2) rfl rfl (Nat.le_of_ble_eq_true rfl) rfl ?_
      refine g_aload_n (pc := 28) C dX3_readInto_28 rfl 1 rfl ?_
      refine gf_3_4 (pc := 29) C wf_X3_25 dX3_readInto_29 xq5 ?_
      refine g_if_ne (pc := 32) C dX3_readInto_32 (tgt := 37) rfl (fun xq8 => ?_) (fun xq8 => ?_)
      · have h := iN xq8 h
        refine g_aload_n (pc := 37) C dX3_readInto_37 rfl 1 rfl ?_
        refine gf_3_4 (pc := 38) C wf_X3_25 dX3_readInto_38 xq5 ?_
        refine g_iconst (v := 3) (pc := 41) C dX3_readInto_41 ci_3 ?_
        refine g_icmp_eq (pc := 42) C dX3_readInto_42 (tgt := 48) rfl (fun xq9 => ?_) (fun xq9 => ?_)
        · have h := iP xq9 h
          refine g_aload_n (pc := 48) C dX3_readInto_48 rfl 1 rfl ?_
          obtain ⟨xr12, xσ10, xc11, h⟩ := iB h
          refine g_callVv (pc := 49) (As := []) (rest := []) C dX3_readInto_49 (fun l => c_X3_nextToken l y _ _ _ _ xc11) cv_X3_31 ⟨rfl, rfl, Nat.le_of_ble_eq_true rfl, Nat.le_of_ble_eq_true rfl⟩ (rv3 xq5) rfl (Nat.le_of_ble_eq_true rfl) ?_
          refine g_goto (pc := 52) C dX3_readInto_52 (tgt := 11) rfl ?_
          refine g_sub (lv' := [(0, .ref (yad y (xa0))), (1, .ref (yad y (xa1))), (2, .int (xa2 + 1))]) C [1, 2, 0] rfl ?_
          exact xH11 xa0 xa1 (xa2 + 1) xσ10 h
        · have h := iN xq9 h
          refine g_goto (pc := 45) C dX3_readInto_45 (tgt := 55) rfl ?_
          refine g_iconst (v := (-1)) (pc := 55) C dX3_readInto_55 ci_m1 ?_
          refine g_aload_n (pc := 56) C dX3_readInto_56 rfl 1 rfl ?_
          refine gf_3_2 (pc := 57) C wf_X3_19 dX3_readInto_57 xq5 ?_
          refine g_isub (pc := 60) C dX3_readInto_60 ?_
          exact rtI hr dX3_readInto_61 h
      · have h := iP xq8 h
        refine g_iload_n (pc := 35) C dX3_readInto_35 rfl 0 rfl ?_
        exact rtI hr dX3_readInto_36 h
theorem l_X3_readInto_11 {x : XT} {y : YT} {Z : State → Prop} (C : Cx x y (AY y) RX3 cX3_readInto 3 rm_X3_readInto) {r : Int32} {σ' : Sto} (hr : RetI x y (AY y) 3 cX3_readInto Z r σ') (n : Nat) (xa0 : Nat) (xa1 : Nat) (xa2 : Int32) (σ : Sto) (h : lo3 (F_X3_readInto_b11) n xa0 xa1 xa2 σ = some (r, σ')) : GW x y (AY y) 3 Z 11 [(0, .ref (yad y (xa0))), (1, .ref (yad y (xa1))), (2, .int (xa2))] [] σ :=
  lo3_gw (G := fun xa0 xa1 xa2 σ => GW x y (AY y) 3 Z 11 [(0, .ref (yad y (xa0))), (1, .ref (yad y (xa1))), (2, .int (xa2))] [] σ) (fun xk xHk xa0 xa1 xa2 σ h => b_X3_readInto_11 C hr xk xHk xa0 xa1 xa2 σ h) n xa0 xa1 xa2 σ h
set_option maxHeartbeats 4000000 in
set_option maxRecDepth 20000 in
theorem b_X3_readInto_0 {x : XT} {y : YT} {Z : State → Prop} (C : Cx x y (AY y) RX3 cX3_readInto 3 rm_X3_readInto) {r : Int32} {σ' : Sto} (hr : RetI x y (AY y) 3 cX3_readInto Z r σ') (xa0 : Nat) (xa1 : Nat) (σ : Sto) (h : F_X3_readInto xa0 xa1 σ = some (r, σ')) : GW x y (AY y) 3 Z 0 [(0, .ref (yad y (xa0))), (1, .ref (yad y (xa1)))] [] σ := by
  unfold F_X3_readInto at h
  refine g_aload_n (pc := 0) C dX3_readInto_0 rfl 0 rfl ?_
  refine g_iconst (v := 0) (pc := 1) C dX3_readInto_1 ci_0 ?_
  obtain ⟨xq1, h⟩ := iC h
  have xq1 := keq xq1
  refine gp_3_3 (pc := 2) C wf_X3_22 dX3_readInto_2 xq1 ?_
  refine g_letS h (fun xσ2 h => ?_)
  refine g_aload_n (pc := 5) C dX3_readInto_5 rfl 0 rfl ?_
  obtain ⟨xr5, xσ3, xc4, h⟩ := iB h
  refine g_callVv (pc := 6) (As := []) (rest := []) C dX3_readInto_6 (fun l => c_X3_nextToken l y _ _ _ _ xc4) cv_X3_31 ⟨rfl, rfl, Nat.le_of_ble_eq_true rfl, Nat.le_of_ble_eq_true rfl⟩ (rv3 xq1) rfl (Nat.le_of_ble_eq_true rfl) ?_
  refine g_iconst (v := 0) (pc := 9) C dX3_readInto_9 ci_0 ?_
  refine g_istore_n (i := 2) (lv' := [(2, .int (0)), (0, .ref (yad y (xa0))), (1, .ref (yad y (xa1)))]) (pc := 10) C dX3_readInto_10 rfl (Nat.le_of_ble_eq_true rfl) rfl ?_
  refine g_sub (lv' := [(0, .ref (yad y (xa0))), (1, .ref (yad y (xa1))), (2, .int (0))]) C [1, 2, 0] rfl ?_
  exact l_X3_readInto_11 C hr 1000 xa0 xa1 0 xσ3 h
theorem c_X3_readInto (l : Launch) (y : YT) (xa0 : Nat) (xa1 : Nat) (σ σ' : Sto) (r : Int32) (h : F_X3_readInto xa0 xa1 σ = some (r, σ')) : MI l y yX3_readInto (Cond.code yX3_readInto cX3_readInto 3 (some .int) :: TT) rm_X3_readInto [.ref (yad y (xa0)), .ref (yad y (xa1))] σ r σ' :=
  mkI (by decide) rfl rfl rfl (Nat.le_of_ble_eq_true rfl) (fun x Z C hr => b_X3_readInto_0 C hr xa0 xa1 σ h)
def rm_X4_isWithin : Room := { frames := 0, cells := 0, slots := 0, locals := 0 }
def F_X4_isWithin (xa0 : Int32) (xa1 : Int32) (σ : Sto) : Option (Int32 × Sto) := if (xa0) < 0 then some (0, σ) else if xa1 < xa0 then some (0, σ) else some (1, σ)
set_option maxHeartbeats 4000000 in
set_option maxRecDepth 20000 in
theorem b_X4_isWithin_0 {x : XT} {y : YT} {Z : State → Prop} (C : Cx x y (AY y) RX4 cX4_isWithin 2 rm_X4_isWithin) {r : Int32} {σ' : Sto} (hr : RetZ x y (AY y) 2 cX4_isWithin Z r σ') (xa0 : Int32) (xa1 : Int32) (σ : Sto) (h : F_X4_isWithin xa0 xa1 σ = some (r, σ')) : GW x y (AY y) 2 Z 0 [(0, .int (xa0)), (1, .int (xa1))] [] σ := by
  unfold F_X4_isWithin at h
  refine g_iload_n (pc := 0) C dX4_isWithin_0 rfl 0 rfl ?_
  refine g_if_lt (pc := 1) C dX4_isWithin_1 (tgt := 13) rfl (fun xq1 => ?_) (fun xq1 => ?_)
  · have h := iP xq1 h
    refine g_iconst (v := 0) (pc := 13) C dX4_isWithin_13 ci_0 ?_
    exact rtZ hr dX4_isWithin_14 (by decide) h
  · have h := iN xq1 h
    refine g_iload_n (pc := 4) C dX4_isWithin_4 rfl 0 rfl ?_
    refine g_iload_n (pc := 5) C dX4_isWithin_5 rfl 1 rfl ?_
    refine g_icmp_gt (pc := 6) C dX4_isWithin_6 (tgt := 13) rfl (fun xq2 => ?_) (fun xq2 => ?_)
    · have h := iP xq2 h
      refine g_iconst (v := 0) (pc := 13) C dX4_isWithin_13 ci_0 ?_
      exact rtZ hr dX4_isWithin_14 (by decide) h
    · have h := iN xq2 h
      refine g_iconst (v := 1) (pc := 9) C dX4_isWithin_9 ci_1 ?_
      refine g_goto (pc := 10) C dX4_isWithin_10 (tgt := 14) rfl ?_
      exact rtZ hr dX4_isWithin_14 (by decide) h
theorem c_X4_isWithin (l : Launch) (y : YT) (xa0 : Int32) (xa1 : Int32) (σ σ' : Sto) (r : Int32) (h : F_X4_isWithin xa0 xa1 σ = some (r, σ')) : MI l y yX4_isWithin (Cond.code yX4_isWithin cX4_isWithin 2 (some .boolean) :: TT) rm_X4_isWithin [.int (xa0), .int (xa1)] σ r σ' :=
  mkZ (by decide) rfl rfl rfl (Nat.le_of_ble_eq_true rfl) (fun x Z C hr => b_X4_isWithin_0 C hr xa0 xa1 σ h)
def rm_X4_finding : Room := { frames := 0, cells := 0, slots := 0, locals := 0 }
def F_X4_finding (xa0 : Nat) (xa1 : Int32) (σ : Sto) : Option (Int32 × Sto) := lti ((-1000001) - xa1) (fun xv1 => if (xv1) < 0 then some (xa1, σ) else if 7 ≤ xv1 then some (xa1, σ) else ck (kd (xa0) == 4) (ck (inr (xv1) (7)) (ck (inr (xv1) (7)) (lts (up2 σ 48 (xv1.toNatClampNeg) ((σ 48 (xv1.toNatClampNeg)) + 1)) (fun xσ7 => some (xa1, xσ7))))))
set_option maxHeartbeats 4000000 in
set_option maxRecDepth 20000 in
theorem b_X4_finding_0 {x : XT} {y : YT} {Z : State → Prop} (C : Cx x y (AY y) RX4 cX4_finding 3 rm_X4_finding) {r : Int32} {σ' : Sto} (hr : RetI x y (AY y) 3 cX4_finding Z r σ') (xa0 : Nat) (xa1 : Int32) (σ : Sto) (h : F_X4_finding xa0 xa1 σ = some (r, σ')) : GW x y (AY y) 3 Z 0 [(0, .ref (yad y (xa0))), (1, .int (xa1))] [] σ := by
  unfold F_X4_finding at h
  refine g_ldc (v := (-1000001)) (pc := 0) C dX4_finding_0 wk_X4_56 ?_
  refine g_iload_n (pc := 2) C dX4_finding_2 rfl 1 rfl ?_
  refine g_isub (pc := 3) C dX4_finding_3 ?_
  refine g_letI h (fun xv1 h => ?_)
  refine g_istore_n (i := 2) (lv' := [(2, .int (xv1)), (0, .ref (yad y (xa0))), (1, .int (xa1))]) (pc := 4) C dX4_finding_4 rfl (Nat.le_of_ble_eq_true rfl) rfl ?_
  refine g_iload_n (pc := 5) C dX4_finding_5 rfl 0 rfl ?_
  refine g_if_lt (pc := 6) C dX4_finding_6 (tgt := 25) rfl (fun xq2 => ?_) (fun xq2 => ?_)
  · have h := iP xq2 h
    refine g_iload_n (pc := 25) C dX4_finding_25 rfl 2 rfl ?_
    exact rtI hr dX4_finding_26 h
  · have h := iN xq2 h
    refine g_iload_n (pc := 9) C dX4_finding_9 rfl 0 rfl ?_
    refine g_bipush (v := 7) (pc := 10) C dX4_finding_10 cb_7 ?_
    refine g_icmp_ge (pc := 12) C dX4_finding_12 (tgt := 25) rfl (fun xq3 => ?_) (fun xq3 => ?_)
    · have h := iP xq3 h
      refine g_iload_n (pc := 25) C dX4_finding_25 rfl 2 rfl ?_
      exact rtI hr dX4_finding_26 h
    · have h := iN xq3 h
      refine g_aload_n (pc := 15) C dX4_finding_15 rfl 1 rfl ?_
      obtain ⟨xq4, h⟩ := iC h
      have xq4 := keq xq4
      refine gf_4_6 (pc := 16) C wf_X4_40 dX4_finding_16 xq4 ?_
      refine g_iload_n (pc := 19) C dX4_finding_19 rfl 0 rfl ?_
      refine g_dup2 (pc := 20) C dX4_finding_20 rfl rfl ?_
      obtain ⟨xq5, h⟩ := iC h
      refine g_iald (pc := 21) C dX4_finding_21 rfl (ivp xq5 rfl) (j := xv1.toNatClampNeg) rfl ?_
      refine g_iconst (v := 1) (pc := 22) C dX4_finding_22 ci_1 ?_
      refine g_iadd (pc := 23) C dX4_finding_23 ?_
      obtain ⟨xq6, h⟩ := iC h
      refine g_iast (pc := 24) C dX4_finding_24 rfl (ivp xq6 rfl) (j := xv1.toNatClampNeg) rfl ?_
      refine g_letS h (fun xσ7 h => ?_)
      refine g_iload_n (pc := 25) C dX4_finding_25 rfl 2 rfl ?_
      exact rtI hr dX4_finding_26 h
theorem c_X4_finding (l : Launch) (y : YT) (xa0 : Nat) (xa1 : Int32) (σ σ' : Sto) (r : Int32) (h : F_X4_finding xa0 xa1 σ = some (r, σ')) : MI l y yX4_finding (Cond.code yX4_finding cX4_finding 3 (some .int) :: TT) rm_X4_finding [.ref (yad y (xa0)), .int (xa1)] σ r σ' :=
  mkI (by decide) rfl rfl rfl (Nat.le_of_ble_eq_true rfl) (fun x Z C hr => b_X4_finding_0 C hr xa0 xa1 σ h)
def rm_X4_set : Room := { frames := 1, cells := 0, slots := 0, locals := 22 }
def F_X4_set (xa0 : Nat) (xa1 : Int32) (xa2 : Int32) (σ : Sto) : Option (Int32 × Sto) := bnd (F_X0_isPart (xa1) σ) (fun xr3 xσ1 => if (xr3) = 0 then ck (kd (xa0) == 4) (bnd (F_X4_finding (xa0) (-1000001) xσ1) (fun xr8 xσ5 => some (xr8, xσ5))) else bnd (F_X0_mostOf (xa1) xσ1) (fun xr11 xσ9 => bnd (F_X4_isWithin (xa2) (xr11) xσ9) (fun xr14 xσ12 => if (xr14) = 0 then ck (kd (xa0) == 4) (bnd (F_X4_finding (xa0) (-1000001) xσ12) (fun xr26 xσ23 => some (xr26, xσ23))) else ck (kd (xa0) == 4) (bnd (F_X0_part (1) (xa1) xσ12) (fun xr19 xσ17 => bnd (F_X0_putPart (1) (xa1) (xa2) xσ17) (fun xr22 xσ20 => some (xr19, xσ20)))))))
set_option maxHeartbeats 4000000 in
set_option maxRecDepth 20000 in
theorem b_X4_set_0 {x : XT} {y : YT} {Z : State → Prop} (C : Cx x y (AY y) RX4 cX4_set 4 rm_X4_set) {r : Int32} {σ' : Sto} (hr : RetI x y (AY y) 4 cX4_set Z r σ') (xa0 : Nat) (xa1 : Int32) (xa2 : Int32) (σ : Sto) (h : F_X4_set xa0 xa1 xa2 σ = some (r, σ')) : GW x y (AY y) 4 Z 0 [(0, .ref (yad y (xa0))), (1, .int (xa1)), (2, .int (xa2))] [] σ := by
  unfold F_X4_set at h
  refine g_iload_n (pc := 0) C dX4_set_0 rfl 1 rfl ?_
  obtain ⟨xr3, xσ1, xc2, h⟩ := iB h
  refine g_callSi (pc := 1) (As := [.int (xa1)]) (rest := []) C dX4_set_1 (fun l => c_X0_isPart l y _ _ _ _ xc2) cv_X4_44 ⟨rfl, rfl, Nat.le_of_ble_eq_true rfl, Nat.le_of_ble_eq_true rfl⟩ rfl (Nat.le_of_ble_eq_true rfl) ?_
  refine g_if_eq (pc := 4) C dX4_set_4 (tgt := 18) rfl (fun xq4 => ?_) (fun xq4 => ?_)
  · have h := iP xq4 h
    refine g_aload_n (pc := 18) C dX4_set_18 rfl 0 rfl ?_
    refine g_ldc (v := (-1000001)) (pc := 19) C dX4_set_19 wk_X4_56 ?_
    obtain ⟨xq7, h⟩ := iC h
    have xq7 := keq xq7
    obtain ⟨xr8, xσ5, xc6, h⟩ := iB h
    refine g_callVi (pc := 21) (As := [.int ((-1000001))]) (rest := []) C dX4_set_21 (fun l => c_X4_finding l y _ _ _ _ _ xc6) cv_X4_57 ⟨rfl, rfl, Nat.le_of_ble_eq_true rfl, Nat.le_of_ble_eq_true rfl⟩ (rv4 xq7) rfl (Nat.le_of_ble_eq_true rfl) ?_
    exact rtI hr dX4_set_24 h
  · have h := iN xq4 h
    refine g_iload_n (pc := 7) C dX4_set_7 rfl 2 rfl ?_
    refine g_iload_n (pc := 8) C dX4_set_8 rfl 1 rfl ?_
    obtain ⟨xr11, xσ9, xc10, h⟩ := iB h
    refine g_callSi (pc := 9) (As := [.int (xa1)]) (rest := [.int (xa2)]) C dX4_set_9 (fun l => c_X0_mostOf l y _ _ _ _ xc10) cv_X4_48 ⟨rfl, rfl, Nat.le_of_ble_eq_true rfl, Nat.le_of_ble_eq_true rfl⟩ rfl (Nat.le_of_ble_eq_true rfl) ?_
    obtain ⟨xr14, xσ12, xc13, h⟩ := iB h
    refine g_callSi (pc := 12) (As := [.int (xa2), .int (xr11)]) (rest := []) C dX4_set_12 (fun l => c_X4_isWithin l y _ _ _ _ _ xc13) cv_X4_52 ⟨rfl, rfl, Nat.le_of_ble_eq_true rfl, Nat.le_of_ble_eq_true rfl⟩ rfl (Nat.le_of_ble_eq_true rfl) ?_
    refine g_if_ne (pc := 15) C dX4_set_15 (tgt := 25) rfl (fun xq15 => ?_) (fun xq15 => ?_)
    · have h := iN xq15 h
      refine g_aload_n (pc := 25) C dX4_set_25 rfl 0 rfl ?_
      obtain ⟨xq16, h⟩ := iC h
      have xq16 := keq xq16
      refine gf_4_0 (pc := 26) C wf_X4_10 dX4_set_26 xq16 ?_
      refine g_iload_n (pc := 29) C dX4_set_29 rfl 1 rfl ?_
      obtain ⟨xr19, xσ17, xc18, h⟩ := iB h
      refine g_callVi (pc := 30) (As := [.int (xa1)]) (rest := []) C dX4_set_30 (fun l => c_X0_part l y _ _ _ _ _ xc18) cv_X4_60 ⟨rfl, rfl, Nat.le_of_ble_eq_true rfl, Nat.le_of_ble_eq_true rfl⟩ (rv0 rfl) rfl (Nat.le_of_ble_eq_true rfl) ?_
      refine g_istore_n (i := 3) (lv' := [(3, .int (xr19)), (0, .ref (yad y (xa0))), (1, .int (xa1)), (2, .int (xa2))]) (pc := 33) C dX4_set_33 rfl (Nat.le_of_ble_eq_true rfl) rfl ?_
      refine g_aload_n (pc := 34) C dX4_set_34 rfl 1 rfl ?_
      refine gf_4_0 (pc := 35) C wf_X4_10 dX4_set_35 xq16 ?_
      refine g_iload_n (pc := 38) C dX4_set_38 rfl 2 rfl ?_
      refine g_iload_n (pc := 39) C dX4_set_39 rfl 3 rfl ?_
      obtain ⟨xr22, xσ20, xc21, h⟩ := iB h
      refine g_callVv (pc := 40) (As := [.int (xa1), .int (xa2)]) (rest := []) C dX4_set_40 (fun l => c_X0_putPart l y _ _ _ _ _ _ xc21) cv_X4_63 ⟨rfl, rfl, Nat.le_of_ble_eq_true rfl, Nat.le_of_ble_eq_true rfl⟩ (rv0 rfl) rfl (Nat.le_of_ble_eq_true rfl) ?_
      refine g_iload_n (pc := 43) C dX4_set_43 rfl 0 rfl ?_
      exact rtI hr dX4_set_44 h
    · have h := iP xq15 h
      refine g_aload_n (pc := 18) C dX4_set_18 rfl 0 rfl ?_
      refine g_ldc (v := (-1000001)) (pc := 19) C dX4_set_19 wk_X4_56 ?_
      obtain ⟨xq25, h⟩ := iC h
      have xq25 := keq xq25
      obtain ⟨xr26, xσ23, xc24, h⟩ := iB h
      refine g_callVi (pc := 21) (As := [.int ((-1000001))]) (rest := []) C dX4_set_21 (fun l => c_X4_finding l y _ _ _ _ _ xc24) cv_X4_57 ⟨rfl, rfl, Nat.le_of_ble_eq_true rfl, Nat.le_of_ble_eq_true rfl⟩ (rv4 xq25) rfl (Nat.le_of_ble_eq_true rfl) ?_
      exact rtI hr dX4_set_24 h
theorem c_X4_set (l : Launch) (y : YT) (xa0 : Nat) (xa1 : Int32) (xa2 : Int32) (σ σ' : Sto) (r : Int32) (h : F_X4_set xa0 xa1 xa2 σ = some (r, σ')) : MI l y yX4_set (Cond.code yX4_set cX4_set 4 (some .int) :: TT) rm_X4_set [.ref (yad y (xa0)), .int (xa1), .int (xa2)] σ r σ' :=
  mkI (by decide) rfl rfl rfl (Nat.le_of_ble_eq_true rfl) (fun x Z C hr => b_X4_set_0 C hr xa0 xa1 xa2 σ h)
def rm_X4_booth : Room := { frames := 1, cells := 0, slots := 0, locals := 22 }
def F_X4_booth (xa0 : Nat) (xa1 : Int32) (σ : Sto) : Option (Int32 × Sto) := bnd (F_X0_isPart (xa1) σ) (fun xr3 xσ1 => if (xr3) = 0 then ck (kd (xa0) == 4) (bnd (F_X4_finding (xa0) (-1000001) xσ1) (fun xr8 xσ5 => some (xr8, xσ5))) else ck (kd (xa0) == 4) (bnd (F_X0_part (1) (xa1) xσ1) (fun xr12 xσ10 => some (xr12, xσ10))))
set_option maxHeartbeats 4000000 in
set_option maxRecDepth 20000 in
theorem b_X4_booth_0 {x : XT} {y : YT} {Z : State → Prop} (C : Cx x y (AY y) RX4 cX4_booth 2 rm_X4_booth) {r : Int32} {σ' : Sto} (hr : RetI x y (AY y) 2 cX4_booth Z r σ') (xa0 : Nat) (xa1 : Int32) (σ : Sto) (h : F_X4_booth xa0 xa1 σ = some (r, σ')) : GW x y (AY y) 2 Z 0 [(0, .ref (yad y (xa0))), (1, .int (xa1))] [] σ := by
  unfold F_X4_booth at h
  refine g_iload_n (pc := 0) C dX4_booth_0 rfl 1 rfl ?_
  obtain ⟨xr3, xσ1, xc2, h⟩ := iB h
  refine g_callSi (pc := 1) (As := [.int (xa1)]) (rest := []) C dX4_booth_1 (fun l => c_X0_isPart l y _ _ _ _ xc2) cv_X4_44 ⟨rfl, rfl, Nat.le_of_ble_eq_true rfl, Nat.le_of_ble_eq_true rfl⟩ rfl (Nat.le_of_ble_eq_true rfl) ?_
  refine g_if_eq (pc := 4) C dX4_booth_4 (tgt := 18) rfl (fun xq4 => ?_) (fun xq4 => ?_)
  · have h := iP xq4 h
    refine g_aload_n (pc := 18) C dX4_booth_18 rfl 0 rfl ?_
    refine g_ldc (v := (-1000001)) (pc := 19) C dX4_booth_19 wk_X4_56 ?_
    obtain ⟨xq7, h⟩ := iC h
    have xq7 := keq xq7
    obtain ⟨xr8, xσ5, xc6, h⟩ := iB h
    refine g_callVi (pc := 21) (As := [.int ((-1000001))]) (rest := []) C dX4_booth_21 (fun l => c_X4_finding l y _ _ _ _ _ xc6) cv_X4_57 ⟨rfl, rfl, Nat.le_of_ble_eq_true rfl, Nat.le_of_ble_eq_true rfl⟩ (rv4 xq7) rfl (Nat.le_of_ble_eq_true rfl) ?_
    exact rtI hr dX4_booth_24 h
  · have h := iN xq4 h
    refine g_aload_n (pc := 7) C dX4_booth_7 rfl 0 rfl ?_
    obtain ⟨xq9, h⟩ := iC h
    have xq9 := keq xq9
    refine gf_4_0 (pc := 8) C wf_X4_10 dX4_booth_8 xq9 ?_
    refine g_iload_n (pc := 11) C dX4_booth_11 rfl 1 rfl ?_
    obtain ⟨xr12, xσ10, xc11, h⟩ := iB h
    refine g_callVi (pc := 12) (As := [.int (xa1)]) (rest := []) C dX4_booth_12 (fun l => c_X0_part l y _ _ _ _ _ xc11) cv_X4_60 ⟨rfl, rfl, Nat.le_of_ble_eq_true rfl, Nat.le_of_ble_eq_true rfl⟩ (rv0 rfl) rfl (Nat.le_of_ble_eq_true rfl) ?_
    refine g_goto (pc := 15) C dX4_booth_15 (tgt := 24) rfl ?_
    exact rtI hr dX4_booth_24 h
theorem c_X4_booth (l : Launch) (y : YT) (xa0 : Nat) (xa1 : Int32) (σ σ' : Sto) (r : Int32) (h : F_X4_booth xa0 xa1 σ = some (r, σ')) : MI l y yX4_booth (Cond.code yX4_booth cX4_booth 2 (some .int) :: TT) rm_X4_booth [.ref (yad y (xa0)), .int (xa1)] σ r σ' :=
  mkI (by decide) rfl rfl rfl (Nat.le_of_ble_eq_true rfl) (fun x Z C hr => b_X4_booth_0 C hr xa0 xa1 σ h)
def rm_X4_queue : Room := { frames := 2, cells := 0, slots := 0, locals := 42 }
def F_X4_queue (xa0 : Nat) (xa1 : Int32) (xa2 : Int32) (σ : Sto) : Option (Int32 × Sto) := bnd (F_X0_isPlace (xa1) σ) (fun xr3 xσ1 => if (xr3) = 0 then ck (kd (xa0) == 4) (bnd (F_X4_finding (xa0) (-1000001) xσ1) (fun xr8 xσ5 => some (xr8, xσ5))) else ck (kd (xa0) == 4) (bnd (F_X0_isSomebodyOrNobody (1) (xa2) xσ1) (fun xr12 xσ10 => if (xr12) = 0 then bnd (F_X4_finding (xa0) (-1000001) xσ10) (fun xr22 xσ20 => some (xr22, xσ20)) else bnd (F_X0_whoIsIn (1) (xa1) xσ10) (fun xr16 xσ14 => bnd (F_X0_seat (1) (xa1) (xa2) xσ14) (fun xr19 xσ17 => some (xr16, xσ17))))))
set_option maxHeartbeats 4000000 in
set_option maxRecDepth 20000 in
theorem b_X4_queue_0 {x : XT} {y : YT} {Z : State → Prop} (C : Cx x y (AY y) RX4 cX4_queue 4 rm_X4_queue) {r : Int32} {σ' : Sto} (hr : RetI x y (AY y) 4 cX4_queue Z r σ') (xa0 : Nat) (xa1 : Int32) (xa2 : Int32) (σ : Sto) (h : F_X4_queue xa0 xa1 xa2 σ = some (r, σ')) : GW x y (AY y) 4 Z 0 [(0, .ref (yad y (xa0))), (1, .int (xa1)), (2, .int (xa2))] [] σ := by
  unfold F_X4_queue at h
  refine g_iload_n (pc := 0) C dX4_queue_0 rfl 1 rfl ?_
  obtain ⟨xr3, xσ1, xc2, h⟩ := iB h
  refine g_callSi (pc := 1) (As := [.int (xa1)]) (rest := []) C dX4_queue_1 (fun l => c_X0_isPlace l y _ _ _ _ xc2) cv_X4_67 ⟨rfl, rfl, Nat.le_of_ble_eq_true rfl, Nat.le_of_ble_eq_true rfl⟩ rfl (Nat.le_of_ble_eq_true rfl) ?_
  refine g_if_eq (pc := 4) C dX4_queue_4 (tgt := 18) rfl (fun xq4 => ?_) (fun xq4 => ?_)
  · have h := iP xq4 h
    refine g_aload_n (pc := 18) C dX4_queue_18 rfl 0 rfl ?_
    refine g_ldc (v := (-1000001)) (pc := 19) C dX4_queue_19 wk_X4_56 ?_
    obtain ⟨xq7, h⟩ := iC h
    have xq7 := keq xq7
    obtain ⟨xr8, xσ5, xc6, h⟩ := iB h
    refine g_callVi (pc := 21) (As := [.int ((-1000001))]) (rest := []) C dX4_queue_21 (fun l => c_X4_finding l y _ _ _ _ _ xc6) cv_X4_57 ⟨rfl, rfl, Nat.le_of_ble_eq_true rfl, Nat.le_of_ble_eq_true rfl⟩ (rv4 xq7) rfl (Nat.le_of_ble_eq_true rfl) ?_
    exact rtI hr dX4_queue_24 h
  · have h := iN xq4 h
    refine g_aload_n (pc := 7) C dX4_queue_7 rfl 0 rfl ?_
    obtain ⟨xq9, h⟩ := iC h
    have xq9 := keq xq9
    refine gf_4_0 (pc := 8) C wf_X4_10 dX4_queue_8 xq9 ?_
    refine g_iload_n (pc := 11) C dX4_queue_11 rfl 2 rfl ?_
    obtain ⟨xr12, xσ10, xc11, h⟩ := iB h
    refine g_callVi (pc := 12) (As := [.int (xa2)]) (rest := []) C dX4_queue_12 (fun l => c_X0_isSomebodyOrNobody l y _ _ _ _ _ xc11) cv_X4_70 ⟨rfl, rfl, Nat.le_of_ble_eq_true rfl, Nat.le_of_ble_eq_true rfl⟩ (rv0 rfl) rfl (Nat.le_of_ble_eq_true rfl) ?_
    refine g_if_ne (pc := 15) C dX4_queue_15 (tgt := 25) rfl (fun xq13 => ?_) (fun xq13 => ?_)
    · have h := iN xq13 h
      refine g_aload_n (pc := 25) C dX4_queue_25 rfl 0 rfl ?_
      refine gf_4_0 (pc := 26) C wf_X4_10 dX4_queue_26 xq9 ?_
      refine g_iload_n (pc := 29) C dX4_queue_29 rfl 1 rfl ?_
      obtain ⟨xr16, xσ14, xc15, h⟩ := iB h
      refine g_callVi (pc := 30) (As := [.int (xa1)]) (rest := []) C dX4_queue_30 (fun l => c_X0_whoIsIn l y _ _ _ _ _ xc15) cv_X4_73 ⟨rfl, rfl, Nat.le_of_ble_eq_true rfl, Nat.le_of_ble_eq_true rfl⟩ (rv0 rfl) rfl (Nat.le_of_ble_eq_true rfl) ?_
      refine g_istore_n (i := 3) (lv' := [(3, .int (xr16)), (0, .ref (yad y (xa0))), (1, .int (xa1)), (2, .int (xa2))]) (pc := 33) C dX4_queue_33 rfl (Nat.le_of_ble_eq_true rfl) rfl ?_
      refine g_aload_n (pc := 34) C dX4_queue_34 rfl 1 rfl ?_
      refine gf_4_0 (pc := 35) C wf_X4_10 dX4_queue_35 xq9 ?_
      refine g_iload_n (pc := 38) C dX4_queue_38 rfl 2 rfl ?_
      refine g_iload_n (pc := 39) C dX4_queue_39 rfl 3 rfl ?_
      obtain ⟨xr19, xσ17, xc18, h⟩ := iB h
      refine g_callVv (pc := 40) (As := [.int (xa1), .int (xa2)]) (rest := []) C dX4_queue_40 (fun l => c_X0_seat l y _ _ _ _ _ _ xc18) cv_X4_76 ⟨rfl, rfl, Nat.le_of_ble_eq_true rfl, Nat.le_of_ble_eq_true rfl⟩ (rv0 rfl) rfl (Nat.le_of_ble_eq_true rfl) ?_
      refine g_iload_n (pc := 43) C dX4_queue_43 rfl 0 rfl ?_
      exact rtI hr dX4_queue_44 h
    · have h := iP xq13 h
      refine g_aload_n (pc := 18) C dX4_queue_18 rfl 0 rfl ?_
      refine g_ldc (v := (-1000001)) (pc := 19) C dX4_queue_19 wk_X4_56 ?_
      obtain ⟨xr22, xσ20, xc21, h⟩ := iB h
      refine g_callVi (pc := 21) (As := [.int ((-1000001))]) (rest := []) C dX4_queue_21 (fun l => c_X4_finding l y _ _ _ _ _ xc21) cv_X4_57 ⟨rfl, rfl, Nat.le_of_ble_eq_true rfl, Nat.le_of_ble_eq_true rfl⟩ (rv4 xq9) rfl (Nat.le_of_ble_eq_true rfl) ?_
      exact rtI hr dX4_queue_24 h
theorem c_X4_queue (l : Launch) (y : YT) (xa0 : Nat) (xa1 : Int32) (xa2 : Int32) (σ σ' : Sto) (r : Int32) (h : F_X4_queue xa0 xa1 xa2 σ = some (r, σ')) : MI l y yX4_queue (Cond.code yX4_queue cX4_queue 4 (some .int) :: TT) rm_X4_queue [.ref (yad y (xa0)), .int (xa1), .int (xa2)] σ r σ' :=
  mkI (by decide) rfl rfl rfl (Nat.le_of_ble_eq_true rfl) (fun x Z C hr => b_X4_queue_0 C hr xa0 xa1 xa2 σ h)
def rm_X4_place : Room := { frames := 2, cells := 0, slots := 0, locals := 41 }
def F_X4_place (xa0 : Nat) (xa1 : Int32) (σ : Sto) : Option (Int32 × Sto) := bnd (F_X0_isPlace (xa1) σ) (fun xr3 xσ1 => if (xr3) = 0 then ck (kd (xa0) == 4) (bnd (F_X4_finding (xa0) (-1000001) xσ1) (fun xr8 xσ5 => some (xr8, xσ5))) else ck (kd (xa0) == 4) (bnd (F_X0_whoIsIn (1) (xa1) xσ1) (fun xr12 xσ10 => some (xr12, xσ10))))
set_option maxHeartbeats 4000000 in
set_option maxRecDepth 20000 in
theorem b_X4_place_0 {x : XT} {y : YT} {Z : State → Prop} (C : Cx x y (AY y) RX4 cX4_place 2 rm_X4_place) {r : Int32} {σ' : Sto} (hr : RetI x y (AY y) 2 cX4_place Z r σ') (xa0 : Nat) (xa1 : Int32) (σ : Sto) (h : F_X4_place xa0 xa1 σ = some (r, σ')) : GW x y (AY y) 2 Z 0 [(0, .ref (yad y (xa0))), (1, .int (xa1))] [] σ := by
  unfold F_X4_place at h
  refine g_iload_n (pc := 0) C dX4_place_0 rfl 1 rfl ?_
  obtain ⟨xr3, xσ1, xc2, h⟩ := iB h
  refine g_callSi (pc := 1) (As := [.int (xa1)]) (rest := []) C dX4_place_1 (fun l => c_X0_isPlace l y _ _ _ _ xc2) cv_X4_67 ⟨rfl, rfl, Nat.le_of_ble_eq_true rfl, Nat.le_of_ble_eq_true rfl⟩ rfl (Nat.le_of_ble_eq_true rfl) ?_
  refine g_if_eq (pc := 4) C dX4_place_4 (tgt := 18) rfl (fun xq4 => ?_) (fun xq4 => ?_)
  · have h := iP xq4 h
    refine g_aload_n (pc := 18) C dX4_place_18 rfl 0 rfl ?_
    refine g_ldc (v := (-1000001)) (pc := 19) C dX4_place_19 wk_X4_56 ?_
    obtain ⟨xq7, h⟩ := iC h
    have xq7 := keq xq7
    obtain ⟨xr8, xσ5, xc6, h⟩ := iB h
    refine g_callVi (pc := 21) (As := [.int ((-1000001))]) (rest := []) C dX4_place_21 (fun l => c_X4_finding l y _ _ _ _ _ xc6) cv_X4_57 ⟨rfl, rfl, Nat.le_of_ble_eq_true rfl, Nat.le_of_ble_eq_true rfl⟩ (rv4 xq7) rfl (Nat.le_of_ble_eq_true rfl) ?_
    exact rtI hr dX4_place_24 h
  · have h := iN xq4 h
    refine g_aload_n (pc := 7) C dX4_place_7 rfl 0 rfl ?_
    obtain ⟨xq9, h⟩ := iC h
    have xq9 := keq xq9
    refine gf_4_0 (pc := 8) C wf_X4_10 dX4_place_8 xq9 ?_
    refine g_iload_n (pc := 11) C dX4_place_11 rfl 1 rfl ?_
    obtain ⟨xr12, xσ10, xc11, h⟩ := iB h
    refine g_callVi (pc := 12) (As := [.int (xa1)]) (rest := []) C dX4_place_12 (fun l => c_X0_whoIsIn l y _ _ _ _ _ xc11) cv_X4_73 ⟨rfl, rfl, Nat.le_of_ble_eq_true rfl, Nat.le_of_ble_eq_true rfl⟩ (rv0 rfl) rfl (Nat.le_of_ble_eq_true rfl) ?_
    refine g_goto (pc := 15) C dX4_place_15 (tgt := 24) rfl ?_
    exact rtI hr dX4_place_24 h
theorem c_X4_place (l : Launch) (y : YT) (xa0 : Nat) (xa1 : Int32) (σ σ' : Sto) (r : Int32) (h : F_X4_place xa0 xa1 σ = some (r, σ')) : MI l y yX4_place (Cond.code yX4_place cX4_place 2 (some .int) :: TT) rm_X4_place [.ref (yad y (xa0)), .int (xa1)] σ r σ' :=
  mkI (by decide) rfl rfl rfl (Nat.le_of_ble_eq_true rfl) (fun x Z C hr => b_X4_place_0 C hr xa0 xa1 σ h)
def rm_X4_sitter : Room := { frames := 3, cells := 0, slots := 0, locals := 66 }
def F_X4_sitter (xa0 : Nat) (xa1 : Int32) (xa2 : Int32) (σ : Sto) : Option (Int32 × Sto) := bnd (F_X4_isWithin (xa1) 6 σ) (fun xr3 xσ1 => if (xr3) = 0 then ck (kd (xa0) == 4) (bnd (F_X4_finding (xa0) (-1000001) xσ1) (fun xr8 xσ5 => some (xr8, xσ5))) else bnd (F_X2_mostOf 1 xσ1) (fun xr11 xσ9 => bnd (F_X4_isWithin (xa2) (xr11) xσ9) (fun xr14 xσ12 => if (xr14) = 0 then ck (kd (xa0) == 4) (bnd (F_X4_finding (xa0) (-1000001) xσ12) (fun xr30 xσ27 => some (xr30, xσ27))) else ck (kd (xa0) == 4) (bnd (F_X0_addSitter (1) (xa1) xσ12) (fun xr19 xσ17 => if 0 ≤ (xr19) then bnd (F_X0_give (1) (xr19) 1 (xa2) xσ17) (fun xr23 xσ21 => some (xr19, xσ21)) else bnd (F_X4_finding (xa0) (-1000002) xσ17) (fun xr26 xσ24 => some (xr26, xσ24)))))))
set_option maxHeartbeats 4000000 in
set_option maxRecDepth 20000 in
theorem b_X4_sitter_0 {x : XT} {y : YT} {Z : State → Prop} (C : Cx x y (AY y) RX4 cX4_sitter 4 rm_X4_sitter) {r : Int32} {σ' : Sto} (hr : RetI x y (AY y) 4 cX4_sitter Z r σ') (xa0 : Nat) (xa1 : Int32) (xa2 : Int32) (σ : Sto) (h : F_X4_sitter xa0 xa1 xa2 σ = some (r, σ')) : GW x y (AY y) 4 Z 0 [(0, .ref (yad y (xa0))), (1, .int (xa1)), (2, .int (xa2))] [] σ := by
  unfold F_X4_sitter at h
  refine g_iload_n (pc := 0) C dX4_sitter_0 rfl 1 rfl ?_
  refine g_bipush (v := 6) (pc := 1) C dX4_sitter_1 cb_6 ?_
  obtain ⟨xr3, xσ1, xc2, h⟩ := iB h
  refine g_callSi (pc := 3) (As := [.int (xa1), .int (6)]) (rest := []) C dX4_sitter_3 (fun l => c_X4_isWithin l y _ _ _ _ _ xc2) cv_X4_52 ⟨rfl, rfl, Nat.le_of_ble_eq_true rfl, Nat.le_of_ble_eq_true rfl⟩ rfl (Nat.le_of_ble_eq_true rfl) ?_
  refine g_if_eq (pc := 6) C dX4_sitter_6 (tgt := 20) rfl (fun xq4 => ?_) (fun xq4 => ?_)
  · have h := iP xq4 h
    refine g_aload_n (pc := 20) C dX4_sitter_20 rfl 0 rfl ?_
    refine g_ldc (v := (-1000001)) (pc := 21) C dX4_sitter_21 wk_X4_56 ?_
    obtain ⟨xq7, h⟩ := iC h
    have xq7 := keq xq7
    obtain ⟨xr8, xσ5, xc6, h⟩ := iB h
    refine g_callVi (pc := 23) (As := [.int ((-1000001))]) (rest := []) C dX4_sitter_23 (fun l => c_X4_finding l y _ _ _ _ _ xc6) cv_X4_57 ⟨rfl, rfl, Nat.le_of_ble_eq_true rfl, Nat.le_of_ble_eq_true rfl⟩ (rv4 xq7) rfl (Nat.le_of_ble_eq_true rfl) ?_
    exact rtI hr dX4_sitter_26 h
  · have h := iN xq4 h
    refine g_iload_n (pc := 9) C dX4_sitter_9 rfl 2 rfl ?_
    refine g_iconst (v := 1) (pc := 10) C dX4_sitter_10 ci_1 ?_
    obtain ⟨xr11, xσ9, xc10, h⟩ := iB h
    refine g_callSi (pc := 11) (As := [.int (1)]) (rest := [.int (xa2)]) C dX4_sitter_11 (fun l => c_X2_mostOf l y _ _ _ _ xc10) cv_X4_79 ⟨rfl, rfl, Nat.le_of_ble_eq_true rfl, Nat.le_of_ble_eq_true rfl⟩ rfl (Nat.le_of_ble_eq_true rfl) ?_
    obtain ⟨xr14, xσ12, xc13, h⟩ := iB h
    refine g_callSi (pc := 14) (As := [.int (xa2), .int (xr11)]) (rest := []) C dX4_sitter_14 (fun l => c_X4_isWithin l y _ _ _ _ _ xc13) cv_X4_52 ⟨rfl, rfl, Nat.le_of_ble_eq_true rfl, Nat.le_of_ble_eq_true rfl⟩ rfl (Nat.le_of_ble_eq_true rfl) ?_
    refine g_if_ne (pc := 17) C dX4_sitter_17 (tgt := 27) rfl (fun xq15 => ?_) (fun xq15 => ?_)
    · have h := iN xq15 h
      refine g_aload_n (pc := 27) C dX4_sitter_27 rfl 0 rfl ?_
      obtain ⟨xq16, h⟩ := iC h
      have xq16 := keq xq16
      refine gf_4_0 (pc := 28) C wf_X4_10 dX4_sitter_28 xq16 ?_
      refine g_iload_n (pc := 31) C dX4_sitter_31 rfl 1 rfl ?_
      obtain ⟨xr19, xσ17, xc18, h⟩ := iB h
      refine g_callVi (pc := 32) (As := [.int (xa1)]) (rest := []) C dX4_sitter_32 (fun l => c_X0_addSitter l y _ _ _ _ _ xc18) cv_X4_82 ⟨rfl, rfl, Nat.le_of_ble_eq_true rfl, Nat.le_of_ble_eq_true rfl⟩ (rv0 rfl) rfl (Nat.le_of_ble_eq_true rfl) ?_
      refine g_istore_n (i := 3) (lv' := [(3, .int (xr19)), (0, .ref (yad y (xa0))), (1, .int (xa1)), (2, .int (xa2))]) (pc := 35) C dX4_sitter_35 rfl (Nat.le_of_ble_eq_true rfl) rfl ?_
      refine g_iload_n (pc := 36) C dX4_sitter_36 rfl 0 rfl ?_
      refine g_if_ge (pc := 37) C dX4_sitter_37 (tgt := 47) rfl (fun xq20 => ?_) (fun xq20 => ?_)
      · have h := iP xq20 h
        refine g_aload_n (pc := 47) C dX4_sitter_47 rfl 1 rfl ?_
        refine gf_4_0 (pc := 48) C wf_X4_10 dX4_sitter_48 xq16 ?_
        refine g_iload_n (pc := 51) C dX4_sitter_51 rfl 0 rfl ?_
        refine g_iconst (v := 1) (pc := 52) C dX4_sitter_52 ci_1 ?_
        refine g_iload_n (pc := 53) C dX4_sitter_53 rfl 3 rfl ?_
        obtain ⟨xr23, xσ21, xc22, h⟩ := iB h
        refine g_callVv (pc := 54) (As := [.int (xr19), .int (1), .int (xa2)]) (rest := []) C dX4_sitter_54 (fun l => c_X0_give l y _ _ _ _ _ _ _ xc22) cv_X4_86 ⟨rfl, rfl, Nat.le_of_ble_eq_true rfl, Nat.le_of_ble_eq_true rfl⟩ (rv0 rfl) rfl (Nat.le_of_ble_eq_true rfl) ?_
        refine g_iload_n (pc := 57) C dX4_sitter_57 rfl 0 rfl ?_
        exact rtI hr dX4_sitter_58 h
      · have h := iN xq20 h
        refine g_aload_n (pc := 40) C dX4_sitter_40 rfl 1 rfl ?_
        refine g_ldc (v := (-1000002)) (pc := 41) C dX4_sitter_41 wk_X4_85 ?_
        obtain ⟨xr26, xσ24, xc25, h⟩ := iB h
        refine g_callVi (pc := 43) (As := [.int ((-1000002))]) (rest := []) C dX4_sitter_43 (fun l => c_X4_finding l y _ _ _ _ _ xc25) cv_X4_57 ⟨rfl, rfl, Nat.le_of_ble_eq_true rfl, Nat.le_of_ble_eq_true rfl⟩ (rv4 xq16) rfl (Nat.le_of_ble_eq_true rfl) ?_
        exact rtI hr dX4_sitter_46 h
    · have h := iP xq15 h
      refine g_aload_n (pc := 20) C dX4_sitter_20 rfl 0 rfl ?_
      refine g_ldc (v := (-1000001)) (pc := 21) C dX4_sitter_21 wk_X4_56 ?_
      obtain ⟨xq29, h⟩ := iC h
      have xq29 := keq xq29
      obtain ⟨xr30, xσ27, xc28, h⟩ := iB h
      refine g_callVi (pc := 23) (As := [.int ((-1000001))]) (rest := []) C dX4_sitter_23 (fun l => c_X4_finding l y _ _ _ _ _ xc28) cv_X4_57 ⟨rfl, rfl, Nat.le_of_ble_eq_true rfl, Nat.le_of_ble_eq_true rfl⟩ (rv4 xq29) rfl (Nat.le_of_ble_eq_true rfl) ?_
      exact rtI hr dX4_sitter_26 h
theorem c_X4_sitter (l : Launch) (y : YT) (xa0 : Nat) (xa1 : Int32) (xa2 : Int32) (σ σ' : Sto) (r : Int32) (h : F_X4_sitter xa0 xa1 xa2 σ = some (r, σ')) : MI l y yX4_sitter (Cond.code yX4_sitter cX4_sitter 4 (some .int) :: TT) rm_X4_sitter [.ref (yad y (xa0)), .int (xa1), .int (xa2)] σ r σ' :=
  mkI (by decide) rfl rfl rfl (Nat.le_of_ble_eq_true rfl) (fun x Z C hr => b_X4_sitter_0 C hr xa0 xa1 xa2 σ h)

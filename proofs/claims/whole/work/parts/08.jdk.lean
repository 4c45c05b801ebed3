/-! THE JDK's OWN MEMBERS that are reached: length and charAt of a literal -/
def strB (k : Nat) : List Int32 := bytJ.getD (k - 100) []
def F_J0_length_8abf5 (k : Nat) (σ : Sto) : Option (Int32 × Sto) := ck (isStr k) (some (nI (strB k).length, σ))
def F_J0_charAt_5068e (k : Nat) (j : Int32) (σ : Sto) : Option (Int32 × Sto) := ck (isStr k) (ck (inr j (strB k).length) (some ((strB k).getD j.toNatClampNeg 0, σ)))
def rm_J0a : Room := { frames := 0, cells := 0, slots := 0, locals := 0 }
def rm_J0c : Room := { frames := 1, cells := 0, slots := 0, locals := 30 }
def rm_J1 : Room := { frames := 2, cells := 0, slots := 0, locals := 60 }
def rm_J0_length_8abf5 : Room := { frames := 2, cells := 0, slots := 0, locals := 60 }
def rm_J0_charAt_5068e : Room := { frames := 5, cells := 0, slots := 0, locals := 140 }
theorem str_of {k : Nat} (h : isStr k = true) : ∃ q, q < 15 ∧ k = 100 + q ∧ strB k = bytJ.getD q [] := by
  unfold isStr at h
  rw [Bool.and_eq_true, decide_eq_true_eq, decide_eq_true_eq] at h
  refine ⟨k - 100, by omega, by omega, rfl⟩
section JB
variable {l : Launch} {y : YT} {nm : MethodName} {cc : ByteArray} {nL : Nat} {ws : List Cond} {rm : Room} {args : List Value} {σ σ' : Sto}
theorem mkT {r : Int32} {ty : FieldType} (hn : narrow ty (.int r) = .int r) (hy : plainName nm.cls = true) (hws : ws = Cond.code nm cc nL (some ty) :: TT) (hrc : rm.cells = 0) (hrs : rm.slots = 0) (hnl : (lg_sl args).length ≤ nL)
    (body : ∀ (x : XT) (Z : State → Prop), Cx x y (AY y) nm.cls cc nL rm → RetI x y (AY y) nL cc Z r σ' → GW x y (AY y) nL Z 0 (lv_args 0 args) [] σ) : MI l y nm ws rm args σ r σ' := by
  refine Met.ofW (cc := cc) (maxL := nL) (ret := some ty) hy hws ?_
  intro p e s m args' below meth c s₁ B hml hv
  obtain ⟨rfl, hI⟩ := hv
  have CX := mk_cx hws hrc hrs B hml hI
  rw [lg_entry_eq]
  refine body (p, l, e, (headSpec ws rm).room, s, m, args.toArray, below, meth, c, 0, 0) _ CX ?_ s.heap [] _ hI.1 va_S.rf (lv_entry args hnl)
  intro pc lv hd H locs ls hP hS hl
  exact W.zret B.exec B.bytes B.returns hn (fun t ht hW => ⟨⟨r, (), rfl, rfl, Inv.at hI.2.1 hI.2.2.1 hI.2.2.2.1 hI.2.2.2.2 hP hS ht hW⟩, hS.F ht⟩) hS.2.2 hd B.notSynchronized
end JB
section JR
variable {x : XT} {y : YT} {A : Nat → Prop} {own : String} {cc : ByteArray} {nL : Nat} {R : Room} {Z : State → Prop} {pc : Nat} {lv lv' : List (Nat × Value)} {st : List Value} {σ : Sto}
theorem gj_compact {i : Nat} (C : Cx x y A own cc nL R) (hw : Cond.fieldLink own i "java/lang/String" "COMPACT_STRINGS" "Z" ∈ TT) (hd : decode cc pc = .ok (.getstatic i, 3)) (kk : GW x y A nL Z (pc + 3) lv (.int 1 :: st) σ) : GW x y A nL Z pc lv st σ := by
  obtain ⟨p, l, e, R', s, m, args, below, meth, c, kc, ks⟩ := x
  obtain ⟨hx, hb, hml, hown, hts, hR, hkc, hks, hlk, hK, hY, hAd, hStr, hSit⟩ := C
  intro H locs ls hP hS hl
  exact va_gets hx hb hStr.2.1 hS hown (hts _ hw) (fun _ h => h) hd (kk H locs ls hP hS hl)
theorem gj_form {i : Nat} (C : Cx x y A own cc nL R) (hw : Cond.fieldLink own i "jdk/internal/util/Preconditions" "SIOOBE_FORMATTER" "Ljava/util/function/BiFunction;" ∈ TT) (hd : decode cc pc = .ok (.getstatic i, 3)) (kk : ∀ o : Option Nat, GW x y A nL Z (pc + 3) lv (va_rf o :: st) σ) : GW x y A nL Z pc lv st σ := by
  obtain ⟨p, l, e, R', s, m, args, below, meth, c, kc, ks⟩ := x
  obtain ⟨hx, hb, hml, hown, hts, hR, hkc, hks, hlk, hK, hY, hAd, hStr, hSit⟩ := C
  intro H locs ls hP hS hl
  rcases hStr.2.2 with h | ⟨t, h⟩
  · exact va_gets hx hb h hS hown (hts _ hw) (fun _ h => h) hd (kk none H locs ls hP hS hl)
  · exact va_gets hx hb h hS hown (hts _ hw) (fun _ h => h) hd (kk (some t) H locs ls hP hS hl)
theorem gj_coder {i q : Nat} (hq : q < 15) (C : Cx x y A own cc nL R) (hw : Cond.fieldLink own i "java/lang/String" "coder" "B" ∈ TT) (hd : decode cc pc = .ok (.getfield i, 3)) (kk : GW x y A nL Z (pc + 3) lv (.int 0 :: st) σ) : GW x y A nL Z pc lv (.ref (yad y (100 + q)) :: st) σ := by
  obtain ⟨p, l, e, R', s, m, args, below, meth, c, kc, ks⟩ := x
  obtain ⟨hx, hb, hml, hown, hts, hR, hkc, hks, hlk, hK, hY, hAd, hStr, hSit⟩ := C
  intro H locs ls hP hS hl
  exact vk_getf hx hb (hStr.1 q hq).2.1 hS hown (hts _ hw) (fun _ h => h) hd (kk H locs ls hP hS hl)
theorem gj_value {i q : Nat} (hq : q < 15) (C : Cx x y A own cc nL R) (hw : Cond.fieldLink own i "java/lang/String" "value" "[B" ∈ TT) (hd : decode cc pc = .ok (.getfield i, 3)) (kk : GW x y A nL Z (pc + 3) lv (.ref (yaV y q) :: st) σ) : GW x y A nL Z pc lv (.ref (yad y (100 + q)) :: st) σ := by
  obtain ⟨p, l, e, R', s, m, args, below, meth, c, kc, ks⟩ := x
  obtain ⟨hx, hb, hml, hown, hts, hR, hkc, hks, hlk, hK, hY, hAd, hStr, hSit⟩ := C
  intro H locs ls hP hS hl
  exact vk_getf hx hb (hStr.1 q hq).2.2.1 hS hown (hts _ hw) (fun _ h => h) hd (kk H locs ls hP hS hl)
theorem gj_len {q : Nat} (hq : q < 15) (C : Cx x y A own cc nL R) (hd : decode cc pc = .ok (.arraylength, 1)) (kk : GW x y A nL Z (pc + 1) lv (.int (nI (bytJ.getD q []).length) :: st) σ) : GW x y A nL Z pc lv (.ref (yaV y q) :: st) σ := by
  obtain ⟨p, l, e, R', s, m, args, below, meth, c, kc, ks⟩ := x
  obtain ⟨hx, hb, hml, hown, hts, hR, hkc, hks, hlk, hK, hY, hAd, hStr, hSit⟩ := C
  intro H locs ls hP hS hl
  exact va_tlen hx hb (hStr.1 q hq).2.2.2 hS rfl hd (kk H locs ls hP hS hl)
theorem gj_bald {q : Nat} {i : Int32} (hq : q < 15) (hin : vp_in i (bytJ.getD q []).length) (C : Cx x y A own cc nL R) (hd : decode cc pc = .ok (.baload, 1)) (kk : GW x y A nL Z (pc + 1) lv (.int ((bytJ.getD q []).getD i.toNatClampNeg 0) :: st) σ) : GW x y A nL Z pc lv (.int i :: .ref (yaV y q) :: st) σ := by
  obtain ⟨p, l, e, R', s, m, args, below, meth, c, kc, ks⟩ := x
  obtain ⟨hx, hb, hml, hown, hts, hR, hkc, hks, hlk, hK, hY, hAd, hStr, hSit⟩ := C
  intro H locs ls hP hS hl
  exact va_tb hx hb (hStr.1 q hq).2.2.2 hS hin rfl hd (kk H locs ls hP hS hl)
theorem gj_i2c {u v : Int32} (C : Cx x y A own cc nL R) (hd : decode cc pc = .ok (.i2c, 1)) (hv : (u.toUInt32 % 65536).toInt32 = v) (kk : GW x y A nL Z (pc + 1) lv (.int v :: st) σ) : GW x y A nL Z pc lv (.int u :: st) σ := by
  obtain ⟨p, l, e, R', s, m, args, below, meth, c, kc, ks⟩ := x
  obtain ⟨hx, hb, hml, hown, hts, hR, hkc, hks, hlk, hK, hY, hAd, hStr, hSit⟩ := C
  intro H locs ls hP hS hl
  exact lv_i2c hx hb hd hv (kk H locs ls hP hS hl)
end JR
theorem jb_ok : ∀ q, q < 15 → ∀ b ∈ bytJ.getD q [], ((b &&& 255).toUInt32 % 65536).toInt32 = b ∧ narrow .char (.int b) = .int b := by decide +kernel
theorem jb_len : ∀ q, q < 15 → (bytJ.getD q []).length < 8 := by decide +kernel
theorem hd_J0_coder_7d493 : yJ0_coder_7d493.cls ≠ "java/lang/invoke/MethodHandle" ∧ yJ0_coder_7d493.cls ≠ "java/lang/invoke/VarHandle" ∧ (parseMethodDescriptor yJ0_coder_7d493.desc).map (fun d => d.parameters.length) = some 0 := ⟨by decide, by decide, by decide +kernel⟩
theorem hd_J0_isLatin1_aae02 : yJ0_isLatin1_aae02.cls ≠ "java/lang/invoke/MethodHandle" ∧ yJ0_isLatin1_aae02.cls ≠ "java/lang/invoke/VarHandle" ∧ (parseMethodDescriptor yJ0_isLatin1_aae02.desc).map (fun d => d.parameters.length) = some 0 := ⟨by decide, by decide, by decide +kernel⟩
theorem hd_J1_charAt_3b067 : yJ1_charAt_3b067.cls ≠ "java/lang/invoke/MethodHandle" ∧ yJ1_charAt_3b067.cls ≠ "java/lang/invoke/VarHandle" ∧ (parseMethodDescriptor yJ1_charAt_3b067.desc).map (fun d => d.parameters.length) = some 2 := ⟨by decide, by decide, by decide +kernel⟩
theorem hd_J0_checkIndex_df160 : yJ0_checkIndex_df160.cls ≠ "java/lang/invoke/MethodHandle" ∧ yJ0_checkIndex_df160.cls ≠ "java/lang/invoke/VarHandle" ∧ (parseMethodDescriptor yJ0_checkIndex_df160.desc).map (fun d => d.parameters.length) = some 2 := ⟨by decide, by decide, by decide +kernel⟩
theorem hd_J3_checkIndex_8e157 : yJ3_checkIndex_8e157.cls ≠ "java/lang/invoke/MethodHandle" ∧ yJ3_checkIndex_8e157.cls ≠ "java/lang/invoke/VarHandle" ∧ (parseMethodDescriptor yJ3_checkIndex_8e157.desc).map (fun d => d.parameters.length) = some 3 := ⟨by decide, by decide, by decide +kernel⟩
theorem cv_J0_335 : CV RJ0 335 yJ0_coder_7d493 cJ0_coder_7d493 1 (some .byte) 0 := ⟨wm_J0_335, wi_J0_coder_7d493, wv_J0_coder_7d493, wn_J0, wc_J0_coder_7d493, hd_J0_coder_7d493⟩
theorem cv_J0_492 : CV RJ0 492 yJ0_isLatin1_aae02 cJ0_isLatin1_aae02 1 (some .boolean) 0 := ⟨wm_J0_492, wi_J0_isLatin1_aae02, wv_J0_isLatin1_aae02, wn_J0, wc_J0_isLatin1_aae02, hd_J0_isLatin1_aae02⟩
theorem cv_J0_495 : CS RJ0 495 yJ1_charAt_3b067 cJ1_charAt_3b067 2 (some .char) 2 := ⟨wm_J0_495, wt_J1_charAt_3b067, wn_J1, wc_J1_charAt_3b067, hd_J1_charAt_3b067⟩
theorem cv_J1_9 : CS RJ1 9 yJ0_checkIndex_df160 cJ0_checkIndex_df160 2 none 2 := ⟨wm_J1_9, wt_J0_checkIndex_df160, wn_J0, wc_J0_checkIndex_df160, hd_J0_checkIndex_df160⟩
theorem cv_J0_1059 : CS RJ0 1059 yJ3_checkIndex_8e157 cJ3_checkIndex_8e157 3 (some .int) 3 := ⟨wm_J0_1059, wt_J3_checkIndex_8e157, wn_J3, wc_J3_checkIndex_8e157, hd_J3_checkIndex_8e157⟩
theorem c_J0_coder (l : Launch) (y : YT) (q : Nat) (hq : q < 15) (σ : Sto) : MI l y yJ0_coder_7d493 (Cond.code yJ0_coder_7d493 cJ0_coder_7d493 1 (some .byte) :: TT) rm_J0a [.ref (yad y (100 + q))] σ 0 σ :=
  mkT rfl (by decide) rfl rfl rfl (Nat.le_of_ble_eq_true rfl) (fun x Z C hr => by
    refine gj_compact (pc := 0) C wf_J0_38 dJ0_coder_7d493_0 ?_
    refine g_if_eq (pc := 3) C dJ0_coder_7d493_3 (tgt := 13) rfl (fun h => absurd h (by decide)) (fun _ => ?_)
    refine g_aload_n (pc := 6) C dJ0_coder_7d493_6 rfl 0 rfl ?_
    refine gj_coder (pc := 7) hq C wf_J0_15 dJ0_coder_7d493_7 ?_
    refine g_goto (pc := 10) C dJ0_coder_7d493_10 (tgt := 14) rfl ?_
    exact hr _ _ dJ0_coder_7d493_14)
theorem c_J0_isLatin1 (l : Launch) (y : YT) (q : Nat) (hq : q < 15) (σ : Sto) : MI l y yJ0_isLatin1_aae02 (Cond.code yJ0_isLatin1_aae02 cJ0_isLatin1_aae02 1 (some .boolean) :: TT) rm_J0a [.ref (yad y (100 + q))] σ 1 σ :=
  mkT rfl (by decide) rfl rfl rfl (Nat.le_of_ble_eq_true rfl) (fun x Z C hr => by
    refine gj_compact (pc := 0) C wf_J0_38 dJ0_isLatin1_aae02_0 ?_
    refine g_if_eq (pc := 3) C dJ0_isLatin1_aae02_3 (tgt := 17) rfl (fun h => absurd h (by decide)) (fun _ => ?_)
    refine g_aload_n (pc := 6) C dJ0_isLatin1_aae02_6 rfl 0 rfl ?_
    refine gj_coder (pc := 7) hq C wf_J0_15 dJ0_isLatin1_aae02_7 ?_
    refine g_if_ne (pc := 10) C dJ0_isLatin1_aae02_10 (tgt := 17) rfl (fun h => absurd rfl h) (fun _ => ?_)
    refine g_iconst (v := 1) (pc := 13) C dJ0_isLatin1_aae02_13 ci_1 ?_
    refine g_goto (pc := 14) C dJ0_isLatin1_aae02_14 (tgt := 18) rfl ?_
    exact hr _ _ dJ0_isLatin1_aae02_18)
theorem c_J0_length (l : Launch) (y : YT) (q : Nat) (hq : q < 15) (σ : Sto) : MI l y yJ0_length_8abf5 (Cond.code yJ0_length_8abf5 cJ0_length_8abf5 1 (some .int) :: TT) rm_J0_length_8abf5 [.ref (yad y (100 + q))] σ (nI (bytJ.getD q []).length) σ :=
  mkI (by decide) rfl rfl rfl (Nat.le_of_ble_eq_true rfl) (fun x Z C hr => by
    refine g_aload_n (pc := 0) C dJ0_length_8abf5_0 rfl 0 rfl ?_
    refine gj_value (pc := 1) hq C wf_J0_9 dJ0_length_8abf5_1 ?_
    refine gj_len (pc := 4) hq C dJ0_length_8abf5_4 ?_
    refine g_aload_n (pc := 5) C dJ0_length_8abf5_5 rfl 0 rfl ?_
    refine g_callVi (pc := 6) (As := []) (rest := [.int (nI (bytJ.getD q []).length)]) C dJ0_length_8abf5_6 (fun l => c_J0_coder l y q hq σ) cv_J0_335 ⟨rfl, rfl, Nat.le_of_ble_eq_true rfl, Nat.le_of_ble_eq_true rfl⟩ (Or.inr ⟨q, hq, rfl, rfl⟩) rfl (Nat.le_of_ble_eq_true rfl) ?_
    refine g_ishr (pc := 9) C dJ0_length_8abf5_9 ?_
    have e : isr (nI (bytJ.getD q []).length) 0 = nI (bytJ.getD q []).length := sb_shr0 _
    rw [e]
    exact hr _ _ dJ0_length_8abf5_10)
theorem c_J0_length_8abf5 (l : Launch) (y : YT) (k : Nat) (σ σ' : Sto) (r : Int32) (h : F_J0_length_8abf5 k σ = some (r, σ')) : MI l y yJ0_length_8abf5 (Cond.code yJ0_length_8abf5 cJ0_length_8abf5 1 (some .int) :: TT) rm_J0_length_8abf5 [.ref (yad y k)] σ r σ' := by
  obtain ⟨h1, h⟩ := iC h
  obtain ⟨q, hq, rfl, e⟩ := str_of h1
  cases h
  rw [e]
  exact c_J0_length l y q hq _
theorem c_J3_check (l : Launch) (y : YT) (i n : Int32) (o : Option Nat) (h0 : 0 ≤ i) (h1 : i < n) (σ : Sto) : MI l y yJ3_checkIndex_8e157 (Cond.code yJ3_checkIndex_8e157 cJ3_checkIndex_8e157 3 (some .int) :: TT) rm_J0a [.int i, .int n, va_rf o] σ i σ :=
  mkI (by decide) rfl rfl rfl (by cases o <;> exact Nat.le_of_ble_eq_true rfl) (fun x Z C hr => by
    show GW x y (AY y) 3 Z 0 (lv_args 0 [.int i, .int n, va_rf o]) [] σ
    rw [show lv_args 0 [.int i, .int n, va_rf o] = [(0, .int i), (1, .int n), (2, va_rf o)] from rfl]
    refine g_iload_n (pc := 0) C dJ3_checkIndex_8e157_0 rfl 0 rfl ?_
    refine g_if_lt (pc := 1) C dJ3_checkIndex_8e157_1 (tgt := 9) rfl (fun h => absurd h (Int32.not_lt.mpr h0)) (fun _ => ?_)
    refine g_iload_n (pc := 4) C dJ3_checkIndex_8e157_4 rfl 0 rfl ?_
    refine g_iload_n (pc := 5) C dJ3_checkIndex_8e157_5 rfl 1 rfl ?_
    refine g_icmp_lt (pc := 6) C dJ3_checkIndex_8e157_6 (tgt := 16) rfl (fun _ => ?_) (fun h => absurd h1 h)
    refine g_iload_n (pc := 16) C dJ3_checkIndex_8e157_16 rfl 0 rfl ?_
    exact hr _ _ dJ3_checkIndex_8e157_17)
theorem c_J0_check (l : Launch) (y : YT) (i n : Int32) (h0 : 0 ≤ i) (h1 : i < n) (σ : Sto) : MV l y yJ0_checkIndex_df160 (Cond.code yJ0_checkIndex_df160 cJ0_checkIndex_df160 2 none :: TT) rm_J0c [.int i, .int n] σ () σ :=
  mkV (by decide) rfl rfl rfl (Nat.le_of_ble_eq_true rfl) (fun x Z C hr => by
    refine g_iload_n (pc := 0) C dJ0_checkIndex_df160_0 rfl 0 rfl ?_
    refine g_iload_n (pc := 1) C dJ0_checkIndex_df160_1 rfl 1 rfl ?_
    refine gj_form (pc := 2) C wf_J0_1053 dJ0_checkIndex_df160_2 (fun o => ?_)
    refine g_callSi (pc := 5) (As := [.int i, .int n, va_rf o]) (rest := []) C dJ0_checkIndex_df160_5 (fun l => c_J3_check l y i n o h0 h1 σ) cv_J0_1059 ⟨rfl, rfl, Nat.le_of_ble_eq_true rfl, Nat.le_of_ble_eq_true rfl⟩ rfl (Nat.le_of_ble_eq_true rfl) ?_
    refine g_pop (pc := 8) C dJ0_checkIndex_df160_8 rfl ?_
    exact hr _ _ dJ0_checkIndex_df160_9)
theorem jin_of {q : Nat} {j : Int32} (hq : q < 15) (h : inr j (bytJ.getD q []).length = true) : 0 ≤ j ∧ j < nI (bytJ.getD q []).length ∧ (bytJ.getD q []).getD j.toNatClampNeg 0 ∈ bytJ.getD q [] := by
  have hl := jb_len q hq
  have h2 := inr_lt h
  have h3 : 0 ≤ j := by
    unfold inr at h
    rw [Bool.and_eq_true, decide_eq_true_eq, decide_eq_true_eq] at h
    exact h.1
  obtain ⟨n, hn, rfl⟩ := nI_of (Int32.not_lt.mpr h3)
  rw [nI_clamp hn] at h2 ⊢
  refine ⟨h3, nI_lt h2 (by omega), ?_⟩
  clear h hl
  generalize bytJ.getD q [] = L at h2 ⊢
  rw [List.getD_eq_getElem?_getD, List.getElem?_eq_getElem h2]
  exact List.getElem_mem h2
theorem c_J1_charAt (l : Launch) (y : YT) (q : Nat) (hq : q < 15) (j : Int32) (h : inr j (bytJ.getD q []).length = true) (σ : Sto) : MI l y yJ1_charAt_3b067 (Cond.code yJ1_charAt_3b067 cJ1_charAt_3b067 2 (some .char) :: TT) rm_J1 [.ref (yaV y q), .int j] σ ((bytJ.getD q []).getD j.toNatClampNeg 0) σ := by
  obtain ⟨h0, h1, h2⟩ := jin_of hq h
  obtain ⟨e1, e2⟩ := jb_ok q hq _ h2
  exact mkT e2 (by decide) rfl rfl rfl (Nat.le_of_ble_eq_true rfl) (fun x Z C hr => by
    refine g_iload_n (pc := 0) C dJ1_charAt_3b067_0 rfl 1 rfl ?_
    refine g_aload_n (pc := 1) C dJ1_charAt_3b067_1 rfl 0 rfl ?_
    refine gj_len (pc := 2) hq C dJ1_charAt_3b067_2 ?_
    refine g_callSv (pc := 3) (As := [.int j, .int (nI (bytJ.getD q []).length)]) (rest := []) C dJ1_charAt_3b067_3 (fun l => c_J0_check l y j _ h0 h1 σ) cv_J1_9 ⟨rfl, rfl, Nat.le_of_ble_eq_true rfl, Nat.le_of_ble_eq_true rfl⟩ rfl (Nat.le_of_ble_eq_true rfl) ?_
    refine g_aload_n (pc := 6) C dJ1_charAt_3b067_6 rfl 0 rfl ?_
    refine g_iload_n (pc := 7) C dJ1_charAt_3b067_7 rfl 1 rfl ?_
    refine gj_bald (pc := 8) hq (ivp h rfl) C dJ1_charAt_3b067_8 ?_
    refine g_sipush (v := 255) (pc := 9) C dJ1_charAt_3b067_9 (by decide) ?_
    refine g_iand (pc := 12) C dJ1_charAt_3b067_12 ?_
    refine gj_i2c (pc := 13) C dJ1_charAt_3b067_13 e1 ?_
    exact hr _ _ dJ1_charAt_3b067_14)
theorem c_J0_charAt (l : Launch) (y : YT) (q : Nat) (hq : q < 15) (j : Int32) (h : inr j (bytJ.getD q []).length = true) (σ : Sto) : MI l y yJ0_charAt_5068e (Cond.code yJ0_charAt_5068e cJ0_charAt_5068e 2 (some .char) :: TT) rm_J0_charAt_5068e [.ref (yad y (100 + q)), .int j] σ ((bytJ.getD q []).getD j.toNatClampNeg 0) σ := by
  obtain ⟨h0, h1, h2⟩ := jin_of hq h
  obtain ⟨e1, e2⟩ := jb_ok q hq _ h2
  exact mkT e2 (by decide) rfl rfl rfl (Nat.le_of_ble_eq_true rfl) (fun x Z C hr => by
    refine g_aload_n (pc := 0) C dJ0_charAt_5068e_0 rfl 0 rfl ?_
    refine g_callVi (pc := 1) (As := []) (rest := []) C dJ0_charAt_5068e_1 (fun l => c_J0_isLatin1 l y q hq σ) cv_J0_492 ⟨rfl, rfl, Nat.le_of_ble_eq_true rfl, Nat.le_of_ble_eq_true rfl⟩ (Or.inr ⟨q, hq, rfl, rfl⟩) rfl (Nat.le_of_ble_eq_true rfl) ?_
    refine g_if_eq (pc := 4) C dJ0_charAt_5068e_4 (tgt := 16) rfl (fun h => absurd h (by decide)) (fun _ => ?_)
    refine g_aload_n (pc := 7) C dJ0_charAt_5068e_7 rfl 0 rfl ?_
    refine gj_value (pc := 8) hq C wf_J0_9 dJ0_charAt_5068e_8 ?_
    refine g_iload_n (pc := 11) C dJ0_charAt_5068e_11 rfl 1 rfl ?_
    refine g_callSi (pc := 12) (As := [.ref (yaV y q), .int j]) (rest := []) C dJ0_charAt_5068e_12 (fun l => c_J1_charAt l y q hq j h σ) cv_J0_495 ⟨rfl, rfl, Nat.le_of_ble_eq_true rfl, Nat.le_of_ble_eq_true rfl⟩ rfl (Nat.le_of_ble_eq_true rfl) ?_
    exact hr _ _ dJ0_charAt_5068e_15)
theorem c_J0_charAt_5068e (l : Launch) (y : YT) (k : Nat) (j : Int32) (σ σ' : Sto) (r : Int32) (h : F_J0_charAt_5068e k j σ = some (r, σ')) : MI l y yJ0_charAt_5068e (Cond.code yJ0_charAt_5068e cJ0_charAt_5068e 2 (some .char) :: TT) rm_J0_charAt_5068e [.ref (yad y k), .int j] σ r σ' := by
  obtain ⟨h1, h⟩ := iC h
  obtain ⟨q, hq, rfl, e⟩ := str_of h1
  obtain ⟨h2, h⟩ := iC h
  cases h
  rw [e] at h2 ⊢
  exact c_J0_charAt l y q hq j h2 _
/-! a literal by the wide instruction -/
section LW
variable {p : Program} {l : Launch} {e : Env} {R : Room} {s : State} {m : MethodId} {args : Array Value} {below : List Frame} {meth : Method} {c : Code} {T : State} {locs : List Loc} {cells slots : Nat}
theorem lw_string (X : Stand p l e R s m args below meth c T locs cells slots) (hexec : p.tables.exec = Jvm.exec) {own text : String} {index : Nat} {a : Addr} (hown : s.vm.findClass own = some m.cls)
    (hconst : (Cond.stringRef own index text).before args s = true) (hev : (Term.string own index).eval args s none [] s = some (.ref a)) {g : JFrame} (hg : g.method = m) (hdg : decode c.code g.pc = .ok (.ldc_w index, 3)) :
    ∀ target, Steps p.tables e below (T.setTop { g with pc := g.pc + 3, stack := .ref a :: g.stack }) target → Steps p.tables e below (T.setTop g) target := by
  obtain ⟨k, cf, i, a', hk, hcf, hcp, -, hr, hev'⟩ := Cond.stringRef_spec hown hconst
  cases hev.symm.trans hev'
  obtain ⟨k', hk', he⟩ := X.warmed.alike.2.2 _ _ hk
  have hr' : k'.resolved[index]? = some (some (.string a)) := by
    rcases X.warmed.entry hk hk' index with h | ⟨h, -⟩
    · rw [h]; exact hr
    · rw [hr] at h; cases h
  intro target hrest
  subst hg
  jvm_step X.here [hexec, hdg, ldc_w.wp_string (e := e) (s := T) (f := g) X.here.top hk' (by rw [he]; exact hcf) hcp hr']
  exact hrest
end LW
theorem g_ldcws {x : XT} {y : YT} {A : Nat → Prop} {own : String} {cc : ByteArray} {nL : Nat} {R : Room} {Z : State → Prop} {pc : Nat} {lv : List (Nat × Value)} {st : List Value} {σ : Sto} (C : Cx x y A own cc nL R) {i k : Nat} {tx : String} (hd : decode cc pc = .ok (.ldc_w i, 3)) (hw : (own, i, tx, k) ∈ sitesJ) (kk : GW x y A nL Z (pc + 3) lv (.ref (yad y (100 + k)) :: st) σ) : GW x y A nL Z pc lv st σ := by
  obtain ⟨p, l, e, R', s, m, args, below, meth, c, kc, ks⟩ := x
  obtain ⟨hx, hb, hml, hown, hts, hR, hkc, hks, hlk, hK, hY, hAd, hStr, hSit⟩ := C
  intro H locs ls hP hS hl T hT X
  obtain ⟨t, a1, b1⟩ := kk H locs ls hP hS hl T hT X
  exact ⟨t, lw_string X hx hown (hSit _ hw).1 (hSit _ hw).2 (g := F0 m pc ls st) rfl (by rw [hb]; exact hd) t a1, b1⟩

/-! CONSTRUCTORS: Sitter, Sheet, Tape -/
def rm_begin0 : Room := { frames := 0, cells := 0, slots := 0, locals := 0 }
theorem n_X2_begin (l : Launch) (y : YT) (q sz : Nat) (k : Int32) : MN l y yX2_begin (Cond.code yX2_begin cX2_begin 2 none :: TT) rm_begin0 q [.int k] 2 [.int 0, .int 0, .int 0, .int 0, .int 0, .int 0, .int 0] sz (fun w => w = [(q, .inr (2, [.int k, .int 60, .int 5, .int 3, .int 20, .int 0, .int 0]))]) :=
  mkN (b := false) (by decide) rfl (fun h => absurd h (by decide)) (Nat.le_of_ble_eq_true rfl) (fun x Z C hr => by
    refine k_aload_n (pc := 0) C dX2_begin_0 rfl 0 rfl ?_
    refine k_iload_n (pc := 1) C dX2_begin_1 rfl 1 rfl ?_
    refine k_put (q0 := 0) (pc := 2) (ci := 2) (j := 0) (cn := RX2) (T := TX2) (N := 7) (v := .int k) (ty := .int) (ws' := [(q, .inr (2, [.int k, .int 0, .int 0, .int 0, .int 0, .int 0, .int 0]))]) C tyX2 tyX2_ok nmX2 wf_X2_15 dX2_begin_2 rfl rfl inT2 (by decide) rfl (by decide +kernel) rfl rfl (Nat.le_of_ble_eq_true rfl) rfl ?_
    refine k_aload_n (pc := 5) C dX2_begin_5 rfl 0 rfl ?_
    refine k_bipush (v := 60) (pc := 6) C dX2_begin_6 (by decide) ?_
    refine k_put (q0 := 0) (pc := 8) (ci := 2) (j := 1) (cn := RX2) (T := TX2) (N := 7) (v := .int 60) (ty := .int) (ws' := [(q, .inr (2, [.int k, .int 60, .int 0, .int 0, .int 0, .int 0, .int 0]))]) C tyX2 tyX2_ok nmX2 wf_X2_19 dX2_begin_8 rfl rfl inT2 (by decide) rfl (by decide +kernel) rfl rfl (Nat.le_of_ble_eq_true rfl) rfl ?_
    refine k_aload_n (pc := 11) C dX2_begin_11 rfl 0 rfl ?_
    refine k_iconst (v := 5) (pc := 12) C dX2_begin_12 (by decide) ?_
    refine k_put (q0 := 0) (pc := 13) (ci := 2) (j := 2) (cn := RX2) (T := TX2) (N := 7) (v := .int 5) (ty := .int) (ws' := [(q, .inr (2, [.int k, .int 60, .int 5, .int 0, .int 0, .int 0, .int 0]))]) C tyX2 tyX2_ok nmX2 wf_X2_22 dX2_begin_13 rfl rfl inT2 (by decide) rfl (by decide +kernel) rfl rfl (Nat.le_of_ble_eq_true rfl) rfl ?_
    refine k_aload_n (pc := 16) C dX2_begin_16 rfl 0 rfl ?_
    refine k_iconst (v := 3) (pc := 17) C dX2_begin_17 (by decide) ?_
    refine k_put (q0 := 0) (pc := 18) (ci := 2) (j := 3) (cn := RX2) (T := TX2) (N := 7) (v := .int 3) (ty := .int) (ws' := [(q, .inr (2, [.int k, .int 60, .int 5, .int 3, .int 0, .int 0, .int 0]))]) C tyX2 tyX2_ok nmX2 wf_X2_25 dX2_begin_18 rfl rfl inT2 (by decide) rfl (by decide +kernel) rfl rfl (Nat.le_of_ble_eq_true rfl) rfl ?_
    refine k_aload_n (pc := 21) C dX2_begin_21 rfl 0 rfl ?_
    refine k_bipush (v := 20) (pc := 22) C dX2_begin_22 (by decide) ?_
    refine k_put (q0 := 0) (pc := 24) (ci := 2) (j := 4) (cn := RX2) (T := TX2) (N := 7) (v := .int 20) (ty := .int) (ws' := [(q, .inr (2, [.int k, .int 60, .int 5, .int 3, .int 20, .int 0, .int 0]))]) C tyX2 tyX2_ok nmX2 wf_X2_28 dX2_begin_24 rfl rfl inT2 (by decide) rfl (by decide +kernel) rfl rfl (Nat.le_of_ble_eq_true rfl) rfl ?_
    refine k_aload_n (pc := 27) C dX2_begin_27 rfl 0 rfl ?_
    refine k_iconst (v := 0) (pc := 28) C dX2_begin_28 (by decide) ?_
    refine k_put (q0 := 0) (pc := 29) (ci := 2) (j := 5) (cn := RX2) (T := TX2) (N := 7) (v := .int 0) (ty := .int) (ws' := [(q, .inr (2, [.int k, .int 60, .int 5, .int 3, .int 20, .int 0, .int 0]))]) C tyX2 tyX2_ok nmX2 wf_X2_31 dX2_begin_29 rfl rfl inT2 (by decide) rfl (by decide +kernel) rfl rfl (Nat.le_of_ble_eq_true rfl) rfl ?_
    refine k_aload_n (pc := 32) C dX2_begin_32 rfl 0 rfl ?_
    refine k_iconst (v := 0) (pc := 33) C dX2_begin_33 (by decide) ?_
    refine k_put (q0 := 0) (pc := 34) (ci := 2) (j := 6) (cn := RX2) (T := TX2) (N := 7) (v := .int 0) (ty := .int) (ws' := [(q, .inr (2, [.int k, .int 60, .int 5, .int 3, .int 20, .int 0, .int 0]))]) C tyX2 tyX2_ok nmX2 wf_X2_34 dX2_begin_34 rfl rfl inT2 (by decide) rfl (by decide +kernel) rfl rfl (Nat.le_of_ble_eq_true rfl) rfl ?_
    exact hr 37 _ _ dX2_begin_37 rfl)
abbrev sit0 : List Value := [.int 0, .int 60, .int 5, .int 3, .int 20, .int 0, .int 0]
def rm_X2i : Room := { frames := 1, cells := 0, slots := 0, locals := 21 }
theorem hd_X2b : yX2_begin.cls ≠ "java/lang/invoke/MethodHandle" ∧ yX2_begin.cls ≠ "java/lang/invoke/VarHandle" ∧ (parseMethodDescriptor yX2_begin.desc).map (fun d => d.parameters.length) = some 1 := ⟨by decide, by decide, by decide +kernel⟩
theorem n_X2_init (l : Launch) (y : YT) (q sz : Nat) : MN l y yX2_init (Cond.code yX2_init cX2_init 1 none :: TT) rm_X2i q [] 2 [.int 0, .int 0, .int 0, .int 0, .int 0, .int 0, .int 0] sz (fun w => w = [(q, .inr (2, sit0))]) :=
  mkN (b := true) (by decide) rfl (fun _ => rfl) (Nat.le_of_ble_eq_true rfl) (fun x Z C hr => by
    refine k_aload_n (pc := 0) C dX2_init_0 rfl 0 rfl ?_
    refine k_obj (pc := 1) C wm_X2_3 dX2_init_1 (Nat.le_of_ble_eq_true rfl) (Nat.le_of_ble_eq_true rfl) ?_
    refine k_aload_n (pc := 4) C dX2_init_4 rfl 0 rfl ?_
    refine k_iconst (v := 0) (pc := 5) C dX2_init_5 (by decide) ?_
    refine k_callV (pc := 6) (As := [.int 0]) (rest := []) (wr := []) (T := TX2) (N := 7) (kc' := 0) (ks' := 0) C dX2_init_6 (fun l sz => n_X2_begin l y q sz 0) wm_X2_9 wi_X2_begin wv_X2_begin wn_X2 wc_X2_begin hd_X2b ⟨Nat.le_of_ble_eq_true rfl, Nat.le_of_ble_eq_true rfl⟩ rfl 0 [] rfl rfl rfl (fun _ h => absurd h List.not_mem_nil) rfl (Nat.le_of_ble_eq_true rfl) (Nat.le_of_ble_eq_true rfl) (Nat.le_of_ble_eq_true rfl) ⟨Nat.le_of_ble_eq_true rfl, Nat.le_of_ble_eq_true rfl⟩ (fun w hw => ?_)
    subst hw
    exact hr 9 _ _ dX2_init_9 rfl)
def rm_X1i : Room := { frames := 1, cells := 1, slots := 40, locals := 12 }
theorem n_X1_init (l : Launch) (y : YT) (q sz : Nat) : MN l y yX1_init (Cond.code yX1_init cX1_init 1 none :: TT) rm_X1i q [] 1 [.int 0, .int 0, .null] sz (fun w => ∃ a, w = (q, .inr (1, [.int 0, .int 0, .ref a])) :: [(a, .inl ((yC y).1, (40, .inl (fun _ => 0))))]) :=
  mkN (b := true) (by decide) rfl (fun _ => rfl) (Nat.le_of_ble_eq_true rfl) (fun x Z C hr => by
    refine k_aload_n (pc := 0) C dX1_init_0 rfl 0 rfl ?_
    refine k_obj (pc := 1) C wm_X1_1 dX1_init_1 (Nat.le_of_ble_eq_true rfl) (Nat.le_of_ble_eq_true rfl) ?_
    refine k_aload_n (pc := 4) C dX1_init_4 rfl 0 rfl ?_
    refine k_iconst (v := 0) (pc := 5) C dX1_init_5 (by decide) ?_
    refine k_put (q0 := 0) (pc := 6) (ci := 1) (j := 0) (cn := RX1) (T := TX1) (N := 3) (v := .int 0) (ty := .int) (ws' := (q, .inr (1, [.int 0, .int 0, .null])) :: []) C tyX1 tyX1_ok nmX1 wf_X1_7 dX1_init_6 rfl rfl inT1 (by decide) rfl (by decide +kernel) rfl rfl (Nat.le_of_ble_eq_true rfl) rfl ?_
    refine k_aload_n (pc := 9) C dX1_init_9 rfl 0 rfl ?_
    refine k_iconst (v := 0) (pc := 10) C dX1_init_10 (by decide) ?_
    refine k_put (q0 := 0) (pc := 11) (ci := 1) (j := 1) (cn := RX1) (T := TX1) (N := 3) (v := .int 0) (ty := .int) (ws' := (q, .inr (1, [.int 0, .int 0, .null])) :: []) C tyX1 tyX1_ok nmX1 wf_X1_13 dX1_init_11 rfl rfl inT1 (by decide) rfl (by decide +kernel) rfl rfl (Nat.le_of_ble_eq_true rfl) rfl ?_
    refine k_aload_n (pc := 14) C dX1_init_14 rfl 0 rfl ?_
    refine k_bipush (v := 40) (pc := 15) C dX1_init_15 (by decide) ?_
    refine k_newa (pc := 17) (N := 40) (kc' := 1) (ks' := 40) C dX1_init_17 (by decide) (by decide) (Nat.le_of_ble_eq_true rfl) (Nat.le_of_ble_eq_true rfl) (Nat.le_of_ble_eq_true rfl) ⟨Nat.le_of_ble_eq_true rfl, Nat.le_of_ble_eq_true rfl⟩ (fun a => ?_)
    refine k_putF (q0 := 0) (pc := 19) (ci := 1) (j := 2) (cn := RX1) (T := TX1) (N := 3) (v := .ref a) (ty := .array .int) (ws' := (q, .inr (1, [.int 0, .int 0, .ref a])) :: [(a, .inl ((yC y).1, (40, .inl (fun _ => 0))))]) C tyX1 tyX1_ok nmX1 wf_X1_16 dX1_init_19 rfl rfl inT1 (by decide) rfl rfl (by decide +kernel) rfl rfl (Nat.le_of_ble_eq_true rfl) rfl ?_
    exact hr 22 _ _ dX1_init_22 ⟨a, rfl⟩)
def rm_X3i : Room := { frames := 1, cells := 1, slots := 120, locals := 12 }
theorem n_X3_init (l : Launch) (y : YT) (q sz : Nat) : MN l y yX3_init (Cond.code yX3_init cX3_init 1 none :: TT) rm_X3i q [] 3 [.null, .int 0, .int 0, .int 0, .int 0, .int 0] sz (fun w => ∃ a, w = (q, .inr (3, [.ref a, .int 0, .int 0, .int 0, .int 0, .int 0])) :: [(a, .inl ((yC y).1, (120, .inl (fun _ => 0))))]) :=
  mkN (b := true) (by decide) rfl (fun _ => rfl) (Nat.le_of_ble_eq_true rfl) (fun x Z C hr => by
    refine k_aload_n (pc := 0) C dX3_init_0 rfl 0 rfl ?_
    refine k_obj (pc := 1) C wm_X3_3 dX3_init_1 (Nat.le_of_ble_eq_true rfl) (Nat.le_of_ble_eq_true rfl) ?_
    refine k_aload_n (pc := 4) C dX3_init_4 rfl 0 rfl ?_
    refine k_bipush (v := 120) (pc := 5) C dX3_init_5 (by decide) ?_
    refine k_newa (pc := 7) (N := 120) (kc' := 1) (ks' := 120) C dX3_init_7 (by decide) (by decide) (Nat.le_of_ble_eq_true rfl) (Nat.le_of_ble_eq_true rfl) (Nat.le_of_ble_eq_true rfl) ⟨Nat.le_of_ble_eq_true rfl, Nat.le_of_ble_eq_true rfl⟩ (fun a => ?_)
    refine k_putF (q0 := 0) (pc := 9) (ci := 3) (j := 0) (cn := RX3) (T := TX3) (N := 6) (v := .ref a) (ty := .array .int) (ws' := (q, .inr (3, [.ref a, .int 0, .int 0, .int 0, .int 0, .int 0])) :: [(a, .inl ((yC y).1, (120, .inl (fun _ => 0))))]) C tyX3 tyX3_ok nmX3 wf_X3_11 dX3_init_9 rfl rfl inT3 (by decide) rfl rfl (by decide +kernel) rfl rfl (Nat.le_of_ble_eq_true rfl) rfl ?_
    refine k_aload_n (pc := 12) C dX3_init_12 rfl 0 rfl ?_
    refine k_iconst (v := 0) (pc := 13) C dX3_init_13 (by decide) ?_
    refine k_put (q0 := 0) (pc := 14) (ci := 3) (j := 1) (cn := RX3) (T := TX3) (N := 6) (v := .int 0) (ty := .int) (ws' := (q, .inr (3, [.ref a, .int 0, .int 0, .int 0, .int 0, .int 0])) :: [(a, .inl ((yC y).1, (120, .inl (fun _ => 0))))]) C tyX3 tyX3_ok nmX3 wf_X3_15 dX3_init_14 rfl rfl inT3 (by decide) rfl (by decide +kernel) rfl rfl (Nat.le_of_ble_eq_true rfl) rfl ?_
    refine k_aload_n (pc := 17) C dX3_init_17 rfl 0 rfl ?_
    refine k_iconst (v := 0) (pc := 18) C dX3_init_18 (by decide) ?_
    refine k_put (q0 := 0) (pc := 19) (ci := 3) (j := 2) (cn := RX3) (T := TX3) (N := 6) (v := .int 0) (ty := .int) (ws' := (q, .inr (3, [.ref a, .int 0, .int 0, .int 0, .int 0, .int 0])) :: [(a, .inl ((yC y).1, (120, .inl (fun _ => 0))))]) C tyX3 tyX3_ok nmX3 wf_X3_19 dX3_init_19 rfl rfl inT3 (by decide) rfl (by decide +kernel) rfl rfl (Nat.le_of_ble_eq_true rfl) rfl ?_
    refine k_aload_n (pc := 22) C dX3_init_22 rfl 0 rfl ?_
    refine k_iconst (v := 0) (pc := 23) C dX3_init_23 (by decide) ?_
    refine k_put (q0 := 0) (pc := 24) (ci := 3) (j := 3) (cn := RX3) (T := TX3) (N := 6) (v := .int 0) (ty := .int) (ws' := (q, .inr (3, [.ref a, .int 0, .int 0, .int 0, .int 0, .int 0])) :: [(a, .inl ((yC y).1, (120, .inl (fun _ => 0))))]) C tyX3 tyX3_ok nmX3 wf_X3_22 dX3_init_24 rfl rfl inT3 (by decide) rfl (by decide +kernel) rfl rfl (Nat.le_of_ble_eq_true rfl) rfl ?_
    refine k_aload_n (pc := 27) C dX3_init_27 rfl 0 rfl ?_
    refine k_iconst (v := 0) (pc := 28) C dX3_init_28 (by decide) ?_
    refine k_put (q0 := 0) (pc := 29) (ci := 3) (j := 4) (cn := RX3) (T := TX3) (N := 6) (v := .int 0) (ty := .int) (ws' := (q, .inr (3, [.ref a, .int 0, .int 0, .int 0, .int 0, .int 0])) :: [(a, .inl ((yC y).1, (120, .inl (fun _ => 0))))]) C tyX3 tyX3_ok nmX3 wf_X3_25 dX3_init_29 rfl rfl inT3 (by decide) rfl (by decide +kernel) rfl rfl (Nat.le_of_ble_eq_true rfl) rfl ?_
    refine k_aload_n (pc := 32) C dX3_init_32 rfl 0 rfl ?_
    refine k_iconst (v := 0) (pc := 33) C dX3_init_33 (by decide) ?_
    refine k_put (q0 := 0) (pc := 34) (ci := 3) (j := 5) (cn := RX3) (T := TX3) (N := 6) (v := .int 0) (ty := .int) (ws' := (q, .inr (3, [.ref a, .int 0, .int 0, .int 0, .int 0, .int 0])) :: [(a, .inl ((yC y).1, (120, .inl (fun _ => 0))))]) C tyX3 tyX3_ok nmX3 wf_X3_28 dX3_init_34 rfl rfl inT3 (by decide) rfl (by decide +kernel) rfl rfl (Nat.le_of_ble_eq_true rfl) rfl ?_
    exact hr 37 _ _ dX3_init_37 ⟨a, rfl⟩)

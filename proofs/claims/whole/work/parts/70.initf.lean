/-! CONSTRUCTORS: BoothFlash -/
abbrev bWF (y : YT) (b : Nat → Nat) : va_W := [(b 0, .inr (0, [.int 20, .int 5, .int 5, .int 0, .int 0, .int 1, .int 0, .ref (b 1), .ref (b 10), .ref (b 11)])), (b 1, .inl ((yC y).2.1, (8, .inr (.inr (.inr (.inr (fun j => [b 2, b 3, b 4, b 5, b 6, b 7, b 8, b 9][j]?))))))), (b 2, .inr (2, sit0)), (b 3, .inr (2, sit0)), (b 4, .inr (2, sit0)), (b 5, .inr (2, sit0)), (b 6, .inr (2, sit0)), (b 7, .inr (2, sit0)), (b 8, .inr (2, sit0)), (b 9, .inr (2, sit0)), (b 10, .inl ((yC y).1, (6, .inl (fun _ => -1)))), (b 11, .inl ((yC y).1, (10, .inl (fun _ => -1))))]
theorem bW_b {y : YT} {q : Nat} {w : va_W} (h : ∃ a s0 s1 s2 s3 s4 s5 s6 s7 p t, w = bWX y q a s0 s1 s2 s3 s4 s5 s6 s7 p t) : ∃ b : Nat → Nat, b 0 = q ∧ w = bWF y b := by
  obtain ⟨a, s0, s1, s2, s3, s4, s5, s6, s7, p, t, rfl⟩ := h
  exact ⟨fun j => [q, a, s0, s1, s2, s3, s4, s5, s6, s7, p, t].getD j 0, rfl, rfl⟩
def rm_X4i : Room := { frames := 3, cells := 48, slots := 579, locals := 62 }
def shF (y : YT) : List (Nat × Nat) → va_W
  | [] => []
  | z :: t => (z.1, .inr (1, [.int 0, .int 0, .ref z.2])) :: (z.2, .inl ((yC y).1, (40, .inl (fun _ => 0)))) :: shF y t
theorem shF_s (y : YT) (z : Nat × Nat) : ∀ ss, shF y (ss ++ [z]) = shF y ss ++ [(z.1, .inr (1, [.int 0, .int 0, .ref z.2])), (z.2, .inl ((yC y).1, (40, .inl (fun _ => 0))))] := by
  intro ss
  induction ss with
  | nil => rfl
  | cons a t ih => rw [List.cons_append, shF, shF, ih]; rfl
theorem set_mid {α : Type} (P : List α) (x z : α) (r : List α) : (P ++ x :: r).set P.length z = P ++ z :: r := by
  induction P with
  | nil => rfl
  | cons a P ih => show a :: (P ++ x :: r).set P.length z = a :: (P ++ z :: r); rw [ih]
abbrev sW (y : YT) (P : va_W) (k : Nat) (ss : List (Nat × Nat)) : va_W := P ++ (k, .inl ((yC y).2.2.1, (4, .inr (.inr (.inr (.inr (fun j => (ss.map Prod.fst)[j]?))))))) :: shF y ss
theorem len_4 {l : List (Nat × Nat)} (h : l.length = 4) : ∃ a b c d, l = [a, b, c, d] := by
  obtain ⟨a, l1, rfl, h1⟩ := len_s h
  obtain ⟨b, l2, rfl, h2⟩ := len_s h1
  obtain ⟨c, l3, rfl, h3⟩ := len_s h2
  obtain ⟨d, l4, rfl, h4⟩ := len_s h3
  obtain rfl := List.eq_nil_of_length_eq_zero h4
  exact ⟨a, b, c, d, rfl⟩
theorem bl_s {x : XT} {y : YT} {A : Nat → Prop} {Z : State → Prop} {q k : Nat} {fs : List Value} {P : va_W} (C : CK x y A RX4 cX4_init 2 rm_X4i true) (hP : ∀ r, (P ++ r)[0]? = some (q, .inr (4, fs))) (hf : fs[5]? = some (.ref k)) (kk : ∀ z0 z1 z2 z3 : Nat × Nat, GK x y A 2 Z 87 [(1, .int 4), (0, .ref q)] [] (sW y P k [z0, z1, z2, z3]) 47 572) : ∀ (d : Nat) (ss : List (Nat × Nat)), ss.length + d = 4 → GK x y A 2 Z 63 [(1, .int (nI ss.length)), (0, .ref q)] [] (sW y P k ss) (39 + 2 * ss.length) (400 + 43 * ss.length) := by
  intro d
  induction d with
  | zero =>
    intro ss hl
    refine k_iload_n (pc := 63) C dX4_init_63 rfl 0 rfl ?_
    refine k_iconst (v := 4) (pc := 64) C dX4_init_64 (by decide) ?_
    refine k_icmp_ge (pc := 65) (tgt := 87) C dX4_init_65 rfl (fun _ => ?_) (fun h => absurd (show (4 : Int32) ≤ nI ss.length by rw [show ss.length = 4 by omega]; decide) h)
    obtain ⟨z0, z1, z2, z3, rfl⟩ := len_4 (show ss.length = 4 by omega)
    exact kk z0 z1 z2 z3
  | succ d ih =>
    intro ss hl
    have h8 : ss.length < 4 := by omega
    refine k_iload_n (pc := 63) C dX4_init_63 rfl 0 rfl ?_
    refine k_iconst (v := 4) (pc := 64) C dX4_init_64 (by decide) ?_
    refine k_icmp_ge (pc := 65) (tgt := 87) C dX4_init_65 rfl (fun h => absurd h (show ¬ (4 : Int32) ≤ nI ss.length from nI_lei (m := 4) h8 (by decide))) (fun _ => ?_)
    refine k_aload_n (pc := 68) C dX4_init_68 rfl 1 rfl ?_
    refine k_get (pc := 69) (q0 := 0) (ci := 4) (j := 5) (cn := RX4) (T := TX4) (N := 7) C wf_X4_35 dX4_init_69 (hP _) rfl inT4 (by decide) hf ?_
    refine k_iload_n (pc := 72) C dX4_init_72 rfl 0 rfl ?_
    refine k_new (pc := 73) (ci := 1) (cn := RX1) (T := TX1) (N := 3) (fs := [.int 0, .int 0, .null]) (kc' := 39 + 2 * ss.length + 1) (ks' := 400 + 43 * ss.length + 3) C tyX1 tyX1_ok wl_X4_33 wa_X1 wn_X1 dX4_init_73 rfl inT1 (fun j hj => by rcases (show j = 0 ∨ j = 1 ∨ j = 2 by omega) with rfl | rfl | rfl <;> rfl) (Nat.le_refl _) (Nat.le_refl _) ⟨show _ ≤ 48 by omega, show _ ≤ 579 by omega⟩ (fun z => ?_)
    refine k_dup (pc := 76) C dX4_init_76 rfl ?_
    refine k_callN (pc := 77) (kc' := 39 + 2 * (ss.length + 1)) (ks' := 400 + 43 * (ss.length + 1)) C dX4_init_77 (fun l sz => n_X1_init l y z sz) wm_X4_39 wi_X1_init wn_X1 wc_X1_init rfl (hd_i _ (by decide) (by decide)) ⟨Nat.le_of_ble_eq_true rfl, Nat.le_of_ble_eq_true rfl⟩ rfl (Nat.le_of_ble_eq_true rfl) (show 39 + 2 * ss.length + 1 + 1 ≤ _ by omega) (show 400 + 43 * ss.length + 3 + 40 ≤ _ by omega) ⟨show _ ≤ 48 by omega, show _ ≤ 579 by omega⟩ (fun w hw => ?_)
    obtain ⟨a, rfl⟩ := hw
    refine k_astq (pc := 80) (q0 := P.length) (qk := (sW y P k ss).length) (ci := 1) (r := (RX1, TX1, 3)) (ws' := sW y P k (ss ++ [(z, a)])) C 2 rfl dX4_init_80 (by rw [List.append_assoc]; exact last_at P _ _) (last_at _ _ _) rfl (vin_n h8 (by decide)) ?_ ?_
    · have hm : ss.length = (ss.map Prod.fst).length := (List.length_map _).symm
      have e1 : ss.map Prod.fst ++ [z] = (ss ++ [(z, a)]).map Prod.fst := by rw [List.map_append]; rfl
      rw [nI_clamp (by omega), List.append_assoc]
      show (P ++ _ :: (shF y ss ++ _)).set P.length _ = _
      rw [set_mid, hm, va_up_len, e1, ← shF_s y (z, a) ss]
    · refine k_iinc (pc := 81) (w := nI (ss.length + 1)) (lv' := [(1, .int (nI (ss.length + 1))), (0, .ref q)]) C dX4_init_81 (k := 0) rfl (nI_1 _) (by decide) rfl ?_
      refine k_goto (pc := 84) (tgt := 63) C dX4_init_84 rfl ?_
      have h := ih (ss ++ [(z, a)]) (by rw [List.length_append, List.length_singleton]; omega)
      rw [List.length_append, List.length_singleton] at h
      exact h
abbrev fW (y : YT) (h : Nat) (b1 b2 b3 : Nat → Nat) (qt at_ k : Nat) (z0 z1 z2 z3 : Nat × Nat) (f : Nat) : va_W := (h, .inr (4, [.ref (b1 0), .ref (b2 0), .ref (b3 0), .int 0, .ref qt, .ref k, .ref f])) :: (((((bWF y b1 ++ bWF y b2) ++ bWF y b3) ++ [(qt, .inr (3, [.ref at_, .int 0, .int 0, .int 0, .int 0, .int 0])), (at_, .inl ((yC y).1, (120, .inl (fun _ => 0))))]) ++ (k, .inl ((yC y).2.2.1, (4, .inr (.inr (.inr (.inr (fun j => ([z0, z1, z2, z3].map Prod.fst)[j]?))))))) :: shF y [z0, z1, z2, z3]) ++ [(f, .inl ((yC y).1, (7, .inl (fun _ => 0))))])
theorem n_X4_init (l : Launch) (y : YT) (h sz : Nat) : MN l y yX4_init (Cond.code yX4_init cX4_init 2 none :: TT) rm_X4i h [] 4 [.null, .null, .null, .int 0, .null, .null, .null] sz (fun w => ∃ b1 b2 b3 qt at_ k z0 z1 z2 z3 f, w = fW y h b1 b2 b3 qt at_ k z0 z1 z2 z3 f) :=
  mkN (b := true) (by decide) rfl (fun _ => rfl) (Nat.le_of_ble_eq_true rfl) (fun x Z C hr => by
    refine k_aload_n (pc := 0) C dX4_init_0 rfl 0 rfl ?_
    refine k_obj (pc := 1) C wm_X4_1 dX4_init_1 (Nat.le_of_ble_eq_true rfl) (Nat.le_of_ble_eq_true rfl) ?_
    refine k_aload_n (pc := 4) C dX4_init_4 rfl 0 rfl ?_
    refine k_new (pc := 5) (ci := 0) (cn := RX0) (T := TX0) (N := 10) (fs := [.int 0, .int 0, .int 0, .int 0, .int 0, .int 0, .int 0, .null, .null, .null]) (kc' := 1) (ks' := 10) C tyX0 tyX0_ok wl_X4_7 wa_X0 wn_X0 dX4_init_5 rfl inT0 (fun j hj => by rcases (show j = 0 ∨ j = 1 ∨ j = 2 ∨ j = 3 ∨ j = 4 ∨ j = 5 ∨ j = 6 ∨ j = 7 ∨ j = 8 ∨ j = 9 by omega) with rfl | rfl | rfl | rfl | rfl | rfl | rfl | rfl | rfl | rfl <;> rfl) (Nat.le_of_ble_eq_true rfl) (Nat.le_of_ble_eq_true rfl) ⟨Nat.le_of_ble_eq_true rfl, Nat.le_of_ble_eq_true rfl⟩ (fun q1 => ?_)
    refine k_dup (pc := 8) C dX4_init_8 rfl ?_
    refine k_callN (pc := 9) (kc' := 12) (ks' := 90) C dX4_init_9 (fun l sz => n_X0_init l y q1 sz) wm_X4_9 wi_X0_init wn_X0 wc_X0_init rfl (hd_i _ (by decide) (by decide)) ⟨Nat.le_of_ble_eq_true rfl, Nat.le_of_ble_eq_true rfl⟩ rfl (Nat.le_of_ble_eq_true rfl) (Nat.le_of_ble_eq_true rfl) (Nat.le_of_ble_eq_true rfl) ⟨Nat.le_of_ble_eq_true rfl, Nat.le_of_ble_eq_true rfl⟩ (fun w hw => ?_)
    obtain ⟨b1, rfl, rfl⟩ := bW_b hw
    refine k_putF (q0 := 0) (pc := 12) (ci := 4) (j := 0) (cn := RX4) (T := TX4) (N := 7) (v := .ref (b1 0)) (ty := .object "BoothFlash$Booth") (ws' := (h, .inr (4, [.ref (b1 0), .null, .null, .int 0, .null, .null, .null])) :: bWF y b1) C tyX4 tyX4_ok nmX4 wf_X4_10 dX4_init_12 rfl rfl inT4 (by decide) rfl rfl (by decide +kernel) rfl rfl (Nat.le_of_ble_eq_true rfl) rfl ?_
    refine k_aload_n (pc := 15) C dX4_init_15 rfl 0 rfl ?_
    refine k_new (pc := 16) (ci := 0) (cn := RX0) (T := TX0) (N := 10) (fs := [.int 0, .int 0, .int 0, .int 0, .int 0, .int 0, .int 0, .null, .null, .null]) (kc' := 13) (ks' := 100) C tyX0 tyX0_ok wl_X4_7 wa_X0 wn_X0 dX4_init_16 rfl inT0 (fun j hj => by rcases (show j = 0 ∨ j = 1 ∨ j = 2 ∨ j = 3 ∨ j = 4 ∨ j = 5 ∨ j = 6 ∨ j = 7 ∨ j = 8 ∨ j = 9 by omega) with rfl | rfl | rfl | rfl | rfl | rfl | rfl | rfl | rfl | rfl <;> rfl) (Nat.le_of_ble_eq_true rfl) (Nat.le_of_ble_eq_true rfl) ⟨Nat.le_of_ble_eq_true rfl, Nat.le_of_ble_eq_true rfl⟩ (fun q2 => ?_)
    refine k_dup (pc := 19) C dX4_init_19 rfl ?_
    refine k_callN (pc := 20) (kc' := 24) (ks' := 180) C dX4_init_20 (fun l sz => n_X0_init l y q2 sz) wm_X4_9 wi_X0_init wn_X0 wc_X0_init rfl (hd_i _ (by decide) (by decide)) ⟨Nat.le_of_ble_eq_true rfl, Nat.le_of_ble_eq_true rfl⟩ rfl (Nat.le_of_ble_eq_true rfl) (Nat.le_of_ble_eq_true rfl) (Nat.le_of_ble_eq_true rfl) ⟨Nat.le_of_ble_eq_true rfl, Nat.le_of_ble_eq_true rfl⟩ (fun w hw => ?_)
    obtain ⟨b2, rfl, rfl⟩ := bW_b hw
    refine k_putF (q0 := 0) (pc := 23) (ci := 4) (j := 1) (cn := RX4) (T := TX4) (N := 7) (v := .ref (b2 0)) (ty := .object "BoothFlash$Booth") (ws' := (h, .inr (4, [.ref (b1 0), .ref (b2 0), .null, .int 0, .null, .null, .null])) :: (bWF y b1 ++ bWF y b2)) C tyX4 tyX4_ok nmX4 wf_X4_16 dX4_init_23 rfl rfl inT4 (by decide) rfl rfl (by decide +kernel) rfl rfl (Nat.le_of_ble_eq_true rfl) rfl ?_
    refine k_aload_n (pc := 26) C dX4_init_26 rfl 0 rfl ?_
    refine k_new (pc := 27) (ci := 0) (cn := RX0) (T := TX0) (N := 10) (fs := [.int 0, .int 0, .int 0, .int 0, .int 0, .int 0, .int 0, .null, .null, .null]) (kc' := 25) (ks' := 190) C tyX0 tyX0_ok wl_X4_7 wa_X0 wn_X0 dX4_init_27 rfl inT0 (fun j hj => by rcases (show j = 0 ∨ j = 1 ∨ j = 2 ∨ j = 3 ∨ j = 4 ∨ j = 5 ∨ j = 6 ∨ j = 7 ∨ j = 8 ∨ j = 9 by omega) with rfl | rfl | rfl | rfl | rfl | rfl | rfl | rfl | rfl | rfl <;> rfl) (Nat.le_of_ble_eq_true rfl) (Nat.le_of_ble_eq_true rfl) ⟨Nat.le_of_ble_eq_true rfl, Nat.le_of_ble_eq_true rfl⟩ (fun q3 => ?_)
    refine k_dup (pc := 30) C dX4_init_30 rfl ?_
    refine k_callN (pc := 31) (kc' := 36) (ks' := 270) C dX4_init_31 (fun l sz => n_X0_init l y q3 sz) wm_X4_9 wi_X0_init wn_X0 wc_X0_init rfl (hd_i _ (by decide) (by decide)) ⟨Nat.le_of_ble_eq_true rfl, Nat.le_of_ble_eq_true rfl⟩ rfl (Nat.le_of_ble_eq_true rfl) (Nat.le_of_ble_eq_true rfl) (Nat.le_of_ble_eq_true rfl) ⟨Nat.le_of_ble_eq_true rfl, Nat.le_of_ble_eq_true rfl⟩ (fun w hw => ?_)
    obtain ⟨b3, rfl, rfl⟩ := bW_b hw
    refine k_putF (q0 := 0) (pc := 34) (ci := 4) (j := 2) (cn := RX4) (T := TX4) (N := 7) (v := .ref (b3 0)) (ty := .object "BoothFlash$Booth") (ws' := (h, .inr (4, [.ref (b1 0), .ref (b2 0), .ref (b3 0), .int 0, .null, .null, .null])) :: ((bWF y b1 ++ bWF y b2) ++ bWF y b3)) C tyX4 tyX4_ok nmX4 wf_X4_19 dX4_init_34 rfl rfl inT4 (by decide) rfl rfl (by decide +kernel) rfl rfl (Nat.le_of_ble_eq_true rfl) rfl ?_
    refine k_aload_n (pc := 37) C dX4_init_37 rfl 0 rfl ?_
    refine k_iconst (v := 0) (pc := 38) C dX4_init_38 (by decide) ?_
    refine k_put (q0 := 0) (pc := 39) (ci := 4) (j := 3) (cn := RX4) (T := TX4) (N := 7) (v := .int 0) (ty := .boolean) (ws' := (h, .inr (4, [.ref (b1 0), .ref (b2 0), .ref (b3 0), .int 0, .null, .null, .null])) :: ((bWF y b1 ++ bWF y b2) ++ bWF y b3)) C tyX4 tyX4_ok nmX4 wf_X4_22 dX4_init_39 rfl rfl inT4 (by decide) rfl (by decide +kernel) rfl rfl (Nat.le_of_ble_eq_true rfl) rfl ?_
    refine k_aload_n (pc := 42) C dX4_init_42 rfl 0 rfl ?_
    refine k_new (pc := 43) (ci := 3) (cn := RX3) (T := TX3) (N := 6) (fs := [.null, .int 0, .int 0, .int 0, .int 0, .int 0]) (kc' := 37) (ks' := 276) C tyX3 tyX3_ok wl_X4_26 wa_X3 wn_X3 dX4_init_43 rfl inT3 (fun j hj => by rcases (show j = 0 ∨ j = 1 ∨ j = 2 ∨ j = 3 ∨ j = 4 ∨ j = 5 by omega) with rfl | rfl | rfl | rfl | rfl | rfl <;> rfl) (Nat.le_of_ble_eq_true rfl) (Nat.le_of_ble_eq_true rfl) ⟨Nat.le_of_ble_eq_true rfl, Nat.le_of_ble_eq_true rfl⟩ (fun qt => ?_)
    refine k_dup (pc := 46) C dX4_init_46 rfl ?_
    refine k_callN (pc := 47) (kc' := 38) (ks' := 396) C dX4_init_47 (fun l sz => n_X3_init l y qt sz) wm_X4_28 wi_X3_init wn_X3 wc_X3_init rfl (hd_i _ (by decide) (by decide)) ⟨Nat.le_of_ble_eq_true rfl, Nat.le_of_ble_eq_true rfl⟩ rfl (Nat.le_of_ble_eq_true rfl) (Nat.le_of_ble_eq_true rfl) (Nat.le_of_ble_eq_true rfl) ⟨Nat.le_of_ble_eq_true rfl, Nat.le_of_ble_eq_true rfl⟩ (fun w hw => ?_)
    obtain ⟨at_, rfl⟩ := hw
    refine k_putF (q0 := 0) (pc := 50) (ci := 4) (j := 4) (cn := RX4) (T := TX4) (N := 7) (v := .ref qt) (ty := .object "BoothFlash$Tape") (ws' := (h, .inr (4, [.ref (b1 0), .ref (b2 0), .ref (b3 0), .int 0, .ref qt, .null, .null])) :: (((bWF y b1 ++ bWF y b2) ++ bWF y b3) ++ [(qt, .inr (3, [.ref at_, .int 0, .int 0, .int 0, .int 0, .int 0])), (at_, .inl ((yC y).1, (120, .inl (fun _ => 0))))])) C tyX4 tyX4_ok nmX4 wf_X4_29 dX4_init_50 rfl rfl inT4 (by decide) rfl rfl (by decide +kernel) rfl rfl (Nat.le_of_ble_eq_true rfl) rfl ?_
    refine k_aload_n (pc := 53) C dX4_init_53 rfl 0 rfl ?_
    refine k_iconst (v := 4) (pc := 54) C dX4_init_54 (by decide) ?_
    refine k_newq (pc := 55) (N := 4) (kc' := 39) (ks' := 400) C (fun U h => h.2.1) 2 rfl wl_X4_33 dX4_init_55 (by decide) (by decide) (Nat.le_of_ble_eq_true rfl) (Nat.le_of_ble_eq_true rfl) (Nat.le_of_ble_eq_true rfl) ⟨Nat.le_of_ble_eq_true rfl, Nat.le_of_ble_eq_true rfl⟩ (fun k => ?_)
    refine k_putF (q0 := 0) (pc := 58) (ci := 4) (j := 5) (cn := RX4) (T := TX4) (N := 7) (v := .ref k) (ty := .array (.object "BoothFlash$Sheet")) (ws' := (h, .inr (4, [.ref (b1 0), .ref (b2 0), .ref (b3 0), .int 0, .ref qt, .ref k, .null])) :: ((((bWF y b1 ++ bWF y b2) ++ bWF y b3) ++ [(qt, .inr (3, [.ref at_, .int 0, .int 0, .int 0, .int 0, .int 0])), (at_, .inl ((yC y).1, (120, .inl (fun _ => 0))))]) ++ [(k, .inl ((yC y).2.2.1, (4, .inr (.inr (.inr (.inr (fun _ => none)))))))])) C tyX4 tyX4_ok nmX4 wf_X4_35 dX4_init_58 rfl rfl inT4 (by decide) rfl rfl (by decide +kernel) rfl rfl (Nat.le_of_ble_eq_true rfl) rfl ?_
    refine k_iconst (v := 0) (pc := 61) C dX4_init_61 (by decide) ?_
    refine k_istore_n (pc := 62) (lv' := [(1, .int 0), (0, .ref h)]) C dX4_init_62 rfl (by decide) rfl ?_
    refine bl_s (P := ((h, .inr (4, [.ref (b1 0), .ref (b2 0), .ref (b3 0), .int 0, .ref qt, .ref k, .null])) :: (((bWF y b1 ++ bWF y b2) ++ bWF y b3) ++ [(qt, .inr (3, [.ref at_, .int 0, .int 0, .int 0, .int 0, .int 0])), (at_, .inl ((yC y).1, (120, .inl (fun _ => 0))))]))) (k := k) (fs := [.ref (b1 0), .ref (b2 0), .ref (b3 0), .int 0, .ref qt, .ref k, .null]) C (fun _ => rfl) rfl (fun z0 z1 z2 z3 => ?_) 4 [] rfl
    refine k_aload_n (pc := 87) C dX4_init_87 rfl 1 rfl ?_
    refine k_bipush (v := 7) (pc := 88) C dX4_init_88 (by decide) ?_
    refine k_newa (pc := 90) (N := 7) (kc' := 48) (ks' := 579) C dX4_init_90 (by decide) (by decide) (Nat.le_of_ble_eq_true rfl) (Nat.le_of_ble_eq_true rfl) (Nat.le_of_ble_eq_true rfl) ⟨Nat.le_of_ble_eq_true rfl, Nat.le_of_ble_eq_true rfl⟩ (fun f => ?_)
    refine k_putF (q0 := 0) (pc := 92) (ci := 4) (j := 6) (cn := RX4) (T := TX4) (N := 7) (v := .ref f) (ty := .array .int) (ws' := (h, .inr (4, [.ref (b1 0), .ref (b2 0), .ref (b3 0), .int 0, .ref qt, .ref k, .ref f])) :: (((((bWF y b1 ++ bWF y b2) ++ bWF y b3) ++ [(qt, .inr (3, [.ref at_, .int 0, .int 0, .int 0, .int 0, .int 0])), (at_, .inl ((yC y).1, (120, .inl (fun _ => 0))))]) ++ (k, .inl ((yC y).2.2.1, (4, .inr (.inr (.inr (.inr (fun j => ([z0, z1, z2, z3].map Prod.fst)[j]?))))))) :: shF y [z0, z1, z2, z3]) ++ [(f, .inl ((yC y).1, (7, .inl (fun _ => 0))))])) C tyX4 tyX4_ok nmX4 wf_X4_40 dX4_init_92 rfl rfl inT4 (by decide) rfl rfl (by decide +kernel) rfl rfl (Nat.le_of_ble_eq_true rfl) rfl ?_
    exact hr 95 _ _ dX4_init_95 ⟨b1, b2, b3, qt, at_, k, z0, z1, z2, z3, f, rfl⟩)

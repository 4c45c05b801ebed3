/-! CONSTRUCTORS: Booth -/
theorem nd_of : ∀ l : List Nat, l.Nodup → va_nd l = true := by
  intro l
  induction l with
  | nil => intro _; rfl
  | cons a l ih =>
    intro h
    rw [List.nodup_cons] at h
    rw [va_nd, decide_eq_true h.1, ih h.2]
    rfl
theorem rng_map (L : va_W) (z : Nat × va_E) : (List.range L.length).map (fun i => (L ++ [z])[i]?) = L.map some := by
  apply List.ext_getElem?
  intro i
  rw [List.getElem?_map, List.getElem?_map]
  rcases Nat.lt_or_ge i L.length with h | h
  · rw [List.getElem?_range h, Option.map_some, List.getElem?_append_left h, List.getElem?_eq_getElem h, Option.map_some]
  · rw [List.getElem?_eq_none (by rw [List.length_range]; exact h), List.getElem?_eq_none h]
    rfl
theorem last_at {α : Type} (L : List α) (z : α) (w : List α) : (L ++ z :: w)[L.length]? = some z := by
  rw [List.getElem?_append_right (Nat.le_refl _), Nat.sub_self]
  rfl
section KCALLN
variable {x : XT} {y : YT} {A : Nat → Prop} {own : String} {cc : ByteArray} {nL : Nat} {R : Room} {Z : State → Prop} {pc : Nat} {lv lv' : List (Nat × Value)} {st rest : List Value} {L : va_W} {kc ks kc' ks' : Nat} {bz : Bool} {nm : MethodName} {bytes : ByteArray} {maxL : Nat} {rm : Room} {i q ci : Nat} {fs : List Value} {post : va_W → Prop}
/-- a constructor's call, of the cell that was made last -/
theorem k_callN (C : CK x y A own cc nL R bz) (hd : decode cc pc = .ok (.invokespecial i, 3)) (hM : ∀ l sz, MN l y nm (Cond.code nm bytes maxL none :: TT) rm q [] ci fs sz post) (hw1 : Cond.methodLink own i nm ∈ TT) (hw2 : Cond.instanceMethod nm ∈ TT) (hw3 : Cond.initialized nm.cls ∈ TT) (hw4 : Cond.code nm bytes maxL none ∈ TT) (hnm : nm.name = "<init>") (hdd : nm.cls ≠ "java/lang/invoke/MethodHandle" ∧ nm.cls ≠ "java/lang/invoke/VarHandle" ∧ (parseMethodDescriptor nm.desc).map (fun d => d.parameters.length) = some 0) (hr : rm.frames + 1 ≤ R.frames ∧ 8 + (maxL + 11) + rm.locals ≤ R.locals) (hst : st = .ref q :: rest) (hrest : (rest.map fun v => v.category).sum ≤ 8) (h1 : kc + rm.cells ≤ kc') (h2 : ks + rm.slots ≤ ks') (hrr : kc' ≤ R.cells ∧ ks' ≤ R.slots) (kk : ∀ w', post w' → GK x y A nL Z (pc + 3) lv rest (L ++ w') kc' ks') : GK x y A nL Z pc lv st (L ++ [(q, .inr (ci, fs))]) kc ks :=
  k_callI (As := []) C hd hM hw1 hw2 hw3 hw4 hnm hdd hr L.length (List.range L.length) (last_at L _ []) (rng_map L _) (nd_of _ List.nodup_range) (fun i hi h => by
    rw [List.mem_range] at hi
    rw [List.mem_singleton] at h
    omega) hst hrest h1 h2 hrr kk
end KCALLN
theorem len_s {α : Type} {l : List α} {n : Nat} (h : l.length = n + 1) : ∃ a t, l = a :: t ∧ t.length = n := by
  cases l with
  | nil => cases h
  | cons a t => exact ⟨a, t, rfl, Nat.succ.inj h⟩
theorem len_8 {l : List Nat} (h : l.length = 8) : ∃ a b c d e f g i, l = [a, b, c, d, e, f, g, i] := by
  obtain ⟨a, l1, rfl, h1⟩ := len_s h
  obtain ⟨b, l2, rfl, h2⟩ := len_s h1
  obtain ⟨c, l3, rfl, h3⟩ := len_s h2
  obtain ⟨d, l4, rfl, h4⟩ := len_s h3
  obtain ⟨e, l5, rfl, h5⟩ := len_s h4
  obtain ⟨f, l6, rfl, h6⟩ := len_s h5
  obtain ⟨g, l7, rfl, h7⟩ := len_s h6
  obtain ⟨i, l8, rfl, h8⟩ := len_s h7
  obtain rfl := List.eq_nil_of_length_eq_zero h8
  exact ⟨a, b, c, d, e, f, g, i, rfl⟩
def rm_X0i : Room := { frames := 2, cells := 11, slots := 80, locals := 41 }
abbrev bW (y : YT) (q a : Nat) (fs : List Value) (qs : List Nat) : va_W := (q, .inr (0, fs)) :: (a, .inl ((yC y).2.1, (8, .inr (.inr (.inr (.inr (fun j => qs[j]?))))))) :: qs.map (fun z => (z, .inr (2, sit0)))
abbrev bWX (y : YT) (q a s0 s1 s2 s3 s4 s5 s6 s7 p t : Nat) : va_W := [(q, .inr (0, [.int 20, .int 5, .int 5, .int 0, .int 0, .int 1, .int 0, .ref a, .ref p, .ref t])), (a, .inl ((yC y).2.1, (8, .inr (.inr (.inr (.inr (fun j => [s0, s1, s2, s3, s4, s5, s6, s7][j]?))))))), (s0, .inr (2, sit0)), (s1, .inr (2, sit0)), (s2, .inr (2, sit0)), (s3, .inr (2, sit0)), (s4, .inr (2, sit0)), (s5, .inr (2, sit0)), (s6, .inr (2, sit0)), (s7, .inr (2, sit0)), (p, .inl ((yC y).1, (6, .inl (fun _ => -1)))), (t, .inl ((yC y).1, (10, .inl (fun _ => -1))))]
theorem hd_i (c : String) (h1 : c ≠ "java/lang/invoke/MethodHandle") (h2 : c ≠ "java/lang/invoke/VarHandle") : c ≠ "java/lang/invoke/MethodHandle" ∧ c ≠ "java/lang/invoke/VarHandle" ∧ (parseMethodDescriptor "()V").map (fun d => d.parameters.length) = some 0 := ⟨h1, h2, by decide +kernel⟩
theorem vin_n {i n : Nat} (h : i < n) (hn : n < 2 ^ 31) : vp_in (nI i) n := by
  unfold vp_in
  rw [nI_clamp (by omega)]
  rintro (h' | h')
  · exact nI_pos (by omega) h'
  · omega
theorem va_up_len {qs : List Nat} {z : Nat} : va_up (fun j => qs[j]?) qs.length (some z) = fun j => (qs ++ [z])[j]? := by
  funext j
  unfold va_up
  by_cases h : j = qs.length
  · rw [if_pos h, h]
    exact (last_at qs z []).symm
  · rw [if_neg h]
    show qs[j]? = _
    rcases Nat.lt_or_ge j qs.length with q | q
    · rw [List.getElem?_append_left q]
    · rw [List.getElem?_eq_none q, List.getElem?_eq_none (by rw [List.length_append, List.length_singleton]; omega)]
theorem bl_1 {x : XT} {y : YT} {A : Nat → Prop} {Z : State → Prop} {q a : Nat} {fs : List Value} (C : CK x y A RX0 cX0_init 2 rm_X0i true) (hf : fs[7]? = some (.ref a)) (kk : ∀ s0 s1 s2 s3 s4 s5 s6 s7 : Nat, GK x y A 2 Z 76 [(1, .int 8), (0, .ref q)] [] (bW y q a fs [s0, s1, s2, s3, s4, s5, s6, s7]) 9 64) : ∀ (d : Nat) (qs : List Nat), qs.length + d = 8 → GK x y A 2 Z 51 [(1, .int (nI qs.length)), (0, .ref q)] [] (bW y q a fs qs) (1 + qs.length) (8 + 7 * qs.length) := by
  intro d
  induction d with
  | zero =>
    intro qs hl
    refine k_iload_n (pc := 51) C dX0_init_51 rfl 0 rfl ?_
    refine k_bipush (v := 8) (pc := 52) C dX0_init_52 (by decide) ?_
    refine k_icmp_ge (pc := 54) (tgt := 76) C dX0_init_54 rfl (fun _ => ?_) (fun h => absurd (show (8 : Int32) ≤ nI qs.length by rw [show qs.length = 8 by omega]; decide) h)
    obtain ⟨s0, s1, s2, s3, s4, s5, s6, s7, rfl⟩ := len_8 (show qs.length = 8 by omega)
    exact kk s0 s1 s2 s3 s4 s5 s6 s7
  | succ d ih =>
    intro qs hl
    have h8 : qs.length < 8 := by omega
    refine k_iload_n (pc := 51) C dX0_init_51 rfl 0 rfl ?_
    refine k_bipush (v := 8) (pc := 52) C dX0_init_52 (by decide) ?_
    refine k_icmp_ge (pc := 54) (tgt := 76) C dX0_init_54 rfl (fun h => absurd h (show ¬ (8 : Int32) ≤ nI qs.length from nI_lei (m := 8) h8 (by decide))) (fun _ => ?_)
    refine k_aload_n (pc := 57) C dX0_init_57 rfl 1 rfl ?_
    refine k_get (pc := 58) (q0 := 0) (ci := 0) (j := 7) (cn := RX0) (T := TX0) (N := 10) C wf_X0_35 dX0_init_58 rfl rfl inT0 (by decide) hf ?_
    refine k_iload_n (pc := 61) C dX0_init_61 rfl 0 rfl ?_
    refine k_new (pc := 62) (ci := 2) (cn := RX2) (T := TX2) (N := 7) (fs := [.int 0, .int 0, .int 0, .int 0, .int 0, .int 0, .int 0]) (kc' := 1 + (qs.length + 1)) (ks' := 8 + 7 * (qs.length + 1)) C tyX2 tyX2_ok wl_X0_33 wa_X2 wn_X2 dX0_init_62 rfl inT2 (fun j hj => by rcases (show j = 0 ∨ j = 1 ∨ j = 2 ∨ j = 3 ∨ j = 4 ∨ j = 5 ∨ j = 6 by omega) with rfl | rfl | rfl | rfl | rfl | rfl | rfl <;> rfl) (by omega) (by omega) ⟨show _ ≤ 11 by omega, show _ ≤ 80 by omega⟩ (fun z => ?_)
    refine k_dup (pc := 65) C dX0_init_65 rfl ?_
    refine k_callN (pc := 66) (kc' := 1 + (qs.length + 1)) (ks' := 8 + 7 * (qs.length + 1)) C dX0_init_66 (fun l sz => n_X2_init l y z sz) wm_X0_39 wi_X2_init wn_X2 wc_X2_init rfl (hd_i _ (by decide) (by decide)) ⟨Nat.le_of_ble_eq_true rfl, Nat.le_of_ble_eq_true rfl⟩ rfl (Nat.le_of_ble_eq_true rfl) (Nat.le_refl _) (Nat.le_refl _) ⟨show _ ≤ 11 by omega, show _ ≤ 80 by omega⟩ (fun w hw => ?_)
    subst hw
    have hL : (bW y q a fs qs).length = 2 + qs.length := by show (qs.map _).length + 1 + 1 = _; rw [List.length_map]; omega
    refine k_astq (pc := 69) (q0 := 1) (qk := (bW y q a fs qs).length) (ci := 2) (r := (RX2, TX2, 7)) (ws' := bW y q a fs (qs ++ [z])) C 1 rfl dX0_init_69 rfl (last_at _ _ []) rfl (vin_n h8 (by decide)) ?_ ?_
    · rw [nI_clamp (by omega), va_up_len]
      show (q, _) :: (a, _) :: (qs.map _ ++ [(z, _)]) = (q, _) :: (a, _) :: (qs ++ [z]).map _
      rw [List.map_append]
      rfl
    · refine k_iinc (pc := 70) (w := nI (qs.length + 1)) (lv' := [(1, .int (nI (qs.length + 1))), (0, .ref q)]) C dX0_init_70 (k := 0) rfl (nI_1 _) (by decide) rfl ?_
      refine k_goto (pc := 73) (tgt := 51) C dX0_init_73 rfl ?_
      have h := ih (qs ++ [z]) (by rw [List.length_append, List.length_singleton]; omega)
      rw [List.length_append, List.length_singleton] at h
      exact h
theorem bl_2 {x : XT} {y : YT} {A : Nat → Prop} {Z : State → Prop} {Wf : (Nat → Int32) → va_W} {q qp kc ks : Nat} {fs : List Value} (C : CK x y A RX0 cX0_init 2 rm_X0i true) (h0 : ∀ f, (Wf f)[0]? = some (q, .inr (0, fs))) (hf : fs[8]? = some (.ref qp)) (h10 : ∀ f, (Wf f)[10]? = some (qp, .inl ((yC y).1, (6, .inl f)))) (hset : ∀ f g, (Wf f).set 10 (qp, .inl ((yC y).1, (6, .inl g))) = Wf g) (kk : ∀ f, (∀ j, j < 6 → f j = -1) → GK x y A 2 Z 105 [(1, .int 6), (0, .ref q)] [] (Wf f) kc ks) : ∀ (d p : Nat) (f : Nat → Int32), p + d = 6 → (∀ j, j < p → f j = -1) → GK x y A 2 Z 86 [(1, .int (nI p)), (0, .ref q)] [] (Wf f) kc ks := by
  intro d
  induction d with
  | zero =>
    intro p f hp hf1
    have e : p = 6 := by omega
    subst e
    refine k_iload_n (pc := 86) C dX0_init_86 rfl 0 rfl ?_
    refine k_bipush (v := 6) (pc := 87) C dX0_init_87 (by decide) ?_
    refine k_icmp_ge (pc := 89) (tgt := 105) C dX0_init_89 rfl (fun _ => ?_) (fun h => absurd (show (6 : Int32) ≤ nI 6 by decide) h)
    exact kk f hf1
  | succ d ih =>
    intro p f hp hf1
    have h6 : p < 6 := by omega
    refine k_iload_n (pc := 86) C dX0_init_86 rfl 0 rfl ?_
    refine k_bipush (v := 6) (pc := 87) C dX0_init_87 (by decide) ?_
    refine k_icmp_ge (pc := 89) (tgt := 105) C dX0_init_89 rfl (fun h => absurd h (show ¬ (6 : Int32) ≤ nI p from nI_lei (m := 6) h6 (by decide))) (fun _ => ?_)
    refine k_aload_n (pc := 92) C dX0_init_92 rfl 1 rfl ?_
    refine k_get (pc := 93) (q0 := 0) (ci := 0) (j := 8) (cn := RX0) (T := TX0) (N := 10) C wf_X0_40 dX0_init_93 (h0 f) rfl inT0 (by decide) hf ?_
    refine k_iload_n (pc := 96) C dX0_init_96 rfl 0 rfl ?_
    refine k_iconst (v := -1) (pc := 97) C dX0_init_97 (by decide) ?_
    refine k_iast (pc := 98) (q0 := 10) C dX0_init_98 (h10 f) (vin_n h6 (by decide)) (hset f _) ?_
    refine k_iinc (pc := 99) (w := nI (p + 1)) (lv' := [(1, .int (nI (p + 1))), (0, .ref q)]) C dX0_init_99 (k := 0) rfl (nI_1 _) (by decide) rfl ?_
    refine k_goto (pc := 102) (tgt := 86) C dX0_init_102 rfl ?_
    refine ih (p + 1) _ (by omega) (fun j hj => ?_)
    rw [nI_clamp (by omega), upd_i]
    by_cases e : j = p
    · rw [if_pos e]
    · rw [if_neg e]; exact hf1 j (by omega)
theorem bl_3 {x : XT} {y : YT} {A : Nat → Prop} {Z : State → Prop} {Wf : (Nat → Int32) → va_W} {q qp kc ks : Nat} {fs : List Value} (C : CK x y A RX0 cX0_init 2 rm_X0i true) (h0 : ∀ f, (Wf f)[0]? = some (q, .inr (0, fs))) (hf : fs[9]? = some (.ref qp)) (h10 : ∀ f, (Wf f)[11]? = some (qp, .inl ((yC y).1, (10, .inl f)))) (hset : ∀ f g, (Wf f).set 11 (qp, .inl ((yC y).1, (10, .inl g))) = Wf g) (kk : ∀ f, (∀ j, j < 10 → f j = -1) → GK x y A 2 Z 134 [(1, .int 10), (0, .ref q)] [] (Wf f) kc ks) : ∀ (d p : Nat) (f : Nat → Int32), p + d = 10 → (∀ j, j < p → f j = -1) → GK x y A 2 Z 115 [(1, .int (nI p)), (0, .ref q)] [] (Wf f) kc ks := by
  intro d
  induction d with
  | zero =>
    intro p f hp hf1
    have e : p = 10 := by omega
    subst e
    refine k_iload_n (pc := 115) C dX0_init_115 rfl 0 rfl ?_
    refine k_bipush (v := 10) (pc := 116) C dX0_init_116 (by decide) ?_
    refine k_icmp_ge (pc := 118) (tgt := 134) C dX0_init_118 rfl (fun _ => ?_) (fun h => absurd (show (10 : Int32) ≤ nI 10 by decide) h)
    exact kk f hf1
  | succ d ih =>
    intro p f hp hf1
    have h6 : p < 10 := by omega
    refine k_iload_n (pc := 115) C dX0_init_115 rfl 0 rfl ?_
    refine k_bipush (v := 10) (pc := 116) C dX0_init_116 (by decide) ?_
    refine k_icmp_ge (pc := 118) (tgt := 134) C dX0_init_118 rfl (fun h => absurd h (show ¬ (10 : Int32) ≤ nI p from nI_lei (m := 10) h6 (by decide))) (fun _ => ?_)
    refine k_aload_n (pc := 121) C dX0_init_121 rfl 1 rfl ?_
    refine k_get (pc := 122) (q0 := 0) (ci := 0) (j := 9) (cn := RX0) (T := TX0) (N := 10) C wf_X0_44 dX0_init_122 (h0 f) rfl inT0 (by decide) hf ?_
    refine k_iload_n (pc := 125) C dX0_init_125 rfl 0 rfl ?_
    refine k_iconst (v := -1) (pc := 126) C dX0_init_126 (by decide) ?_
    refine k_iast (pc := 127) (q0 := 11) C dX0_init_127 (h10 f) (vin_n h6 (by decide)) (hset f _) ?_
    refine k_iinc (pc := 128) (w := nI (p + 1)) (lv' := [(1, .int (nI (p + 1))), (0, .ref q)]) C dX0_init_128 (k := 0) rfl (nI_1 _) (by decide) rfl ?_
    refine k_goto (pc := 131) (tgt := 115) C dX0_init_131 rfl ?_
    refine ih (p + 1) _ (by omega) (fun j hj => ?_)
    rw [nI_clamp (by omega), upd_i]
    by_cases e : j = p
    · rw [if_pos e]
    · rw [if_neg e]; exact hf1 j (by omega)
theorem n_X0_init (l : Launch) (y : YT) (q sz : Nat) : MN l y yX0_init (Cond.code yX0_init cX0_init 2 none :: TT) rm_X0i q [] 0 [.int 0, .int 0, .int 0, .int 0, .int 0, .int 0, .int 0, .null, .null, .null] sz (fun w => ∃ a s0 s1 s2 s3 s4 s5 s6 s7 p t, w = bWX y q a s0 s1 s2 s3 s4 s5 s6 s7 p t) :=
  mkN (b := true) (by decide) rfl (fun _ => rfl) (Nat.le_of_ble_eq_true rfl) (fun x Z C hr => by
    refine k_aload_n (pc := 0) C dX0_init_0 rfl 0 rfl ?_
    refine k_obj (pc := 1) C wm_X0_3 dX0_init_1 (Nat.le_of_ble_eq_true rfl) (Nat.le_of_ble_eq_true rfl) ?_
    refine k_aload_n (pc := 4) C dX0_init_4 rfl 0 rfl ?_
    refine k_bipush (v := 20) (pc := 5) C dX0_init_5 (by decide) ?_
    refine k_put (q0 := 0) (pc := 7) (ci := 0) (j := 0) (cn := RX0) (T := TX0) (N := 10) (v := .int 20) (ty := .int) (ws' := (q, .inr (0, [.int 20, .int 0, .int 0, .int 0, .int 0, .int 0, .int 0, .null, .null, .null])) :: []) C tyX0 tyX0_ok nmX0 wf_X0_9 dX0_init_7 rfl rfl inT0 (by decide) rfl (by decide +kernel) rfl rfl (Nat.le_of_ble_eq_true rfl) rfl ?_
    refine k_aload_n (pc := 10) C dX0_init_10 rfl 0 rfl ?_
    refine k_iconst (v := 5) (pc := 11) C dX0_init_11 (by decide) ?_
    refine k_put (q0 := 0) (pc := 12) (ci := 0) (j := 1) (cn := RX0) (T := TX0) (N := 10) (v := .int 5) (ty := .int) (ws' := (q, .inr (0, [.int 20, .int 5, .int 0, .int 0, .int 0, .int 0, .int 0, .null, .null, .null])) :: []) C tyX0 tyX0_ok nmX0 wf_X0_15 dX0_init_12 rfl rfl inT0 (by decide) rfl (by decide +kernel) rfl rfl (Nat.le_of_ble_eq_true rfl) rfl ?_
    refine k_aload_n (pc := 15) C dX0_init_15 rfl 0 rfl ?_
    refine k_iconst (v := 5) (pc := 16) C dX0_init_16 (by decide) ?_
    refine k_put (q0 := 0) (pc := 17) (ci := 0) (j := 2) (cn := RX0) (T := TX0) (N := 10) (v := .int 5) (ty := .int) (ws' := (q, .inr (0, [.int 20, .int 5, .int 5, .int 0, .int 0, .int 0, .int 0, .null, .null, .null])) :: []) C tyX0 tyX0_ok nmX0 wf_X0_18 dX0_init_17 rfl rfl inT0 (by decide) rfl (by decide +kernel) rfl rfl (Nat.le_of_ble_eq_true rfl) rfl ?_
    refine k_aload_n (pc := 20) C dX0_init_20 rfl 0 rfl ?_
    refine k_iconst (v := 0) (pc := 21) C dX0_init_21 (by decide) ?_
    refine k_put (q0 := 0) (pc := 22) (ci := 0) (j := 3) (cn := RX0) (T := TX0) (N := 10) (v := .int 0) (ty := .int) (ws' := (q, .inr (0, [.int 20, .int 5, .int 5, .int 0, .int 0, .int 0, .int 0, .null, .null, .null])) :: []) C tyX0 tyX0_ok nmX0 wf_X0_21 dX0_init_22 rfl rfl inT0 (by decide) rfl (by decide +kernel) rfl rfl (Nat.le_of_ble_eq_true rfl) rfl ?_
    refine k_aload_n (pc := 25) C dX0_init_25 rfl 0 rfl ?_
    refine k_iconst (v := 0) (pc := 26) C dX0_init_26 (by decide) ?_
    refine k_put (q0 := 0) (pc := 27) (ci := 0) (j := 4) (cn := RX0) (T := TX0) (N := 10) (v := .int 0) (ty := .int) (ws' := (q, .inr (0, [.int 20, .int 5, .int 5, .int 0, .int 0, .int 0, .int 0, .null, .null, .null])) :: []) C tyX0 tyX0_ok nmX0 wf_X0_24 dX0_init_27 rfl rfl inT0 (by decide) rfl (by decide +kernel) rfl rfl (Nat.le_of_ble_eq_true rfl) rfl ?_
    refine k_aload_n (pc := 30) C dX0_init_30 rfl 0 rfl ?_
    refine k_iconst (v := 1) (pc := 31) C dX0_init_31 (by decide) ?_
    refine k_put (q0 := 0) (pc := 32) (ci := 0) (j := 5) (cn := RX0) (T := TX0) (N := 10) (v := .int 1) (ty := .int) (ws' := (q, .inr (0, [.int 20, .int 5, .int 5, .int 0, .int 0, .int 1, .int 0, .null, .null, .null])) :: []) C tyX0 tyX0_ok nmX0 wf_X0_27 dX0_init_32 rfl rfl inT0 (by decide) rfl (by decide +kernel) rfl rfl (Nat.le_of_ble_eq_true rfl) rfl ?_
    refine k_aload_n (pc := 35) C dX0_init_35 rfl 0 rfl ?_
    refine k_iconst (v := 0) (pc := 36) C dX0_init_36 (by decide) ?_
    refine k_put (q0 := 0) (pc := 37) (ci := 0) (j := 6) (cn := RX0) (T := TX0) (N := 10) (v := .int 0) (ty := .int) (ws' := (q, .inr (0, [.int 20, .int 5, .int 5, .int 0, .int 0, .int 1, .int 0, .null, .null, .null])) :: []) C tyX0 tyX0_ok nmX0 wf_X0_30 dX0_init_37 rfl rfl inT0 (by decide) rfl (by decide +kernel) rfl rfl (Nat.le_of_ble_eq_true rfl) rfl ?_
    refine k_aload_n (pc := 40) C dX0_init_40 rfl 0 rfl ?_
    refine k_bipush (v := 8) (pc := 41) C dX0_init_41 (by decide) ?_
    refine k_newq (pc := 43) (N := 8) (kc' := 1) (ks' := 8) C (fun U h => h.1) 1 rfl wl_X0_33 dX0_init_43 (by decide) (by decide) (Nat.le_of_ble_eq_true rfl) (Nat.le_of_ble_eq_true rfl) (Nat.le_of_ble_eq_true rfl) ⟨Nat.le_of_ble_eq_true rfl, Nat.le_of_ble_eq_true rfl⟩ (fun a => ?_)
    refine k_putF (q0 := 0) (pc := 46) (ci := 0) (j := 7) (cn := RX0) (T := TX0) (N := 10) (v := .ref a) (ty := .array (.object "BoothFlash$Sitter")) (ws' := (q, .inr (0, [.int 20, .int 5, .int 5, .int 0, .int 0, .int 1, .int 0, .ref a, .null, .null])) :: [(a, .inl ((yC y).2.1, (8, .inr (.inr (.inr (.inr (fun _ => none)))))))]) C tyX0 tyX0_ok nmX0 wf_X0_35 dX0_init_46 rfl rfl inT0 (by decide) rfl rfl (by decide +kernel) rfl rfl (Nat.le_of_ble_eq_true rfl) rfl ?_
    refine k_iconst (v := 0) (pc := 49) C dX0_init_49 (by decide) ?_
    refine k_istore_n (pc := 50) (lv' := [(1, .int 0), (0, .ref q)]) C dX0_init_50 rfl (by decide) rfl ?_
    refine bl_1 (fs := [.int 20, .int 5, .int 5, .int 0, .int 0, .int 1, .int 0, .ref a, .null, .null]) C rfl (fun s0 s1 s2 s3 s4 s5 s6 s7 => ?_) 8 [] rfl
    refine k_aload_n (pc := 76) C dX0_init_76 rfl 1 rfl ?_
    refine k_bipush (v := 6) (pc := 77) C dX0_init_77 (by decide) ?_
    refine k_newa (pc := 79) (N := 6) (kc' := 10) (ks' := 70) C dX0_init_79 (by decide) (by decide) (Nat.le_of_ble_eq_true rfl) (Nat.le_of_ble_eq_true rfl) (Nat.le_of_ble_eq_true rfl) ⟨Nat.le_of_ble_eq_true rfl, Nat.le_of_ble_eq_true rfl⟩ (fun p => ?_)
    refine k_putF (q0 := 0) (pc := 81) (ci := 0) (j := 8) (cn := RX0) (T := TX0) (N := 10) (v := .ref p) (ty := .array .int) (ws' := [(q, .inr (0, [.int 20, .int 5, .int 5, .int 0, .int 0, .int 1, .int 0, .ref a, .ref p, .null])), (a, .inl ((yC y).2.1, (8, .inr (.inr (.inr (.inr (fun j => [s0, s1, s2, s3, s4, s5, s6, s7][j]?))))))), (s0, .inr (2, sit0)), (s1, .inr (2, sit0)), (s2, .inr (2, sit0)), (s3, .inr (2, sit0)), (s4, .inr (2, sit0)), (s5, .inr (2, sit0)), (s6, .inr (2, sit0)), (s7, .inr (2, sit0)), (p, .inl ((yC y).1, (6, .inl (fun _ => 0))))]) C tyX0 tyX0_ok nmX0 wf_X0_40 dX0_init_81 rfl rfl inT0 (by decide) rfl rfl (by decide +kernel) rfl rfl (Nat.le_of_ble_eq_true rfl) rfl ?_
    refine k_iconst (v := 0) (pc := 84) C dX0_init_84 (by decide) ?_
    refine k_istore_n (pc := 85) (lv' := [(1, .int 0), (0, .ref q)]) C dX0_init_85 rfl (by decide) rfl ?_
    refine bl_2 (fs := [.int 20, .int 5, .int 5, .int 0, .int 0, .int 1, .int 0, .ref a, .ref p, .null]) (qp := p) (Wf := fun f => [(q, .inr (0, [.int 20, .int 5, .int 5, .int 0, .int 0, .int 1, .int 0, .ref a, .ref p, .null])), (a, .inl ((yC y).2.1, (8, .inr (.inr (.inr (.inr (fun j => [s0, s1, s2, s3, s4, s5, s6, s7][j]?))))))), (s0, .inr (2, sit0)), (s1, .inr (2, sit0)), (s2, .inr (2, sit0)), (s3, .inr (2, sit0)), (s4, .inr (2, sit0)), (s5, .inr (2, sit0)), (s6, .inr (2, sit0)), (s7, .inr (2, sit0)), (p, .inl ((yC y).1, (6, .inl f)))]) C (fun _ => rfl) rfl (fun _ => rfl) (fun _ _ => rfl) (fun f hf => ?_) 6 0 (fun _ => 0) (by decide) (fun j hj => absurd hj (Nat.not_lt_zero j))
    refine k_cell (q0 := 10) (e2 := (6, .inl (fun _ => -1))) (ws' := [(q, .inr (0, [.int 20, .int 5, .int 5, .int 0, .int 0, .int 1, .int 0, .ref a, .ref p, .null])), (a, .inl ((yC y).2.1, (8, .inr (.inr (.inr (.inr (fun j => [s0, s1, s2, s3, s4, s5, s6, s7][j]?))))))), (s0, .inr (2, sit0)), (s1, .inr (2, sit0)), (s2, .inr (2, sit0)), (s3, .inr (2, sit0)), (s4, .inr (2, sit0)), (s5, .inr (2, sit0)), (s6, .inr (2, sit0)), (s7, .inr (2, sit0)), (p, .inl ((yC y).1, (6, .inl (fun _ => -1))))]) rfl (cell_i hf) rfl ?_
    refine k_aload_n (pc := 105) C dX0_init_105 rfl 1 rfl ?_
    refine k_bipush (v := 10) (pc := 106) C dX0_init_106 (by decide) ?_
    refine k_newa (pc := 108) (N := 10) (kc' := 11) (ks' := 80) C dX0_init_108 (by decide) (by decide) (Nat.le_of_ble_eq_true rfl) (Nat.le_of_ble_eq_true rfl) (Nat.le_of_ble_eq_true rfl) ⟨Nat.le_of_ble_eq_true rfl, Nat.le_of_ble_eq_true rfl⟩ (fun t => ?_)
    refine k_putF (q0 := 0) (pc := 110) (ci := 0) (j := 9) (cn := RX0) (T := TX0) (N := 10) (v := .ref t) (ty := .array .int) (ws' := [(q, .inr (0, [.int 20, .int 5, .int 5, .int 0, .int 0, .int 1, .int 0, .ref a, .ref p, .ref t])), (a, .inl ((yC y).2.1, (8, .inr (.inr (.inr (.inr (fun j => [s0, s1, s2, s3, s4, s5, s6, s7][j]?))))))), (s0, .inr (2, sit0)), (s1, .inr (2, sit0)), (s2, .inr (2, sit0)), (s3, .inr (2, sit0)), (s4, .inr (2, sit0)), (s5, .inr (2, sit0)), (s6, .inr (2, sit0)), (s7, .inr (2, sit0)), (p, .inl ((yC y).1, (6, .inl (fun _ => -1)))), (t, .inl ((yC y).1, (10, .inl (fun _ => 0))))]) C tyX0 tyX0_ok nmX0 wf_X0_44 dX0_init_110 rfl rfl inT0 (by decide) rfl rfl (by decide +kernel) rfl rfl (Nat.le_of_ble_eq_true rfl) rfl ?_
    refine k_iconst (v := 0) (pc := 113) C dX0_init_113 (by decide) ?_
    refine k_istore_n (pc := 114) (lv' := [(1, .int 0), (0, .ref q)]) C dX0_init_114 rfl (by decide) rfl ?_
    refine bl_3 (fs := [.int 20, .int 5, .int 5, .int 0, .int 0, .int 1, .int 0, .ref a, .ref p, .ref t]) (qp := t) (Wf := fun f => [(q, .inr (0, [.int 20, .int 5, .int 5, .int 0, .int 0, .int 1, .int 0, .ref a, .ref p, .ref t])), (a, .inl ((yC y).2.1, (8, .inr (.inr (.inr (.inr (fun j => [s0, s1, s2, s3, s4, s5, s6, s7][j]?))))))), (s0, .inr (2, sit0)), (s1, .inr (2, sit0)), (s2, .inr (2, sit0)), (s3, .inr (2, sit0)), (s4, .inr (2, sit0)), (s5, .inr (2, sit0)), (s6, .inr (2, sit0)), (s7, .inr (2, sit0)), (p, .inl ((yC y).1, (6, .inl (fun _ => -1)))), (t, .inl ((yC y).1, (10, .inl f)))]) C (fun _ => rfl) rfl (fun _ => rfl) (fun _ _ => rfl) (fun f hf => ?_) 10 0 (fun _ => 0) (by decide) (fun j hj => absurd hj (Nat.not_lt_zero j))
    refine k_cell (q0 := 11) (e2 := (10, .inl (fun _ => -1))) (ws' := bWX y q a s0 s1 s2 s3 s4 s5 s6 s7 p t) rfl (cell_i hf) rfl ?_
    exact hr 134 _ _ dX0_init_134 ⟨a, s0, s1, s2, s3, s4, s5, s6, s7, p, t, rfl⟩)

/-! CONSTRUCTORS: BoothFlashModel -/
def rm_X5i : Room := { frames := 1, cells := 11, slots := 1420, locals := 12 }
def sFx (y : YT) (k : Nat) : Nat → Option Nat := fun j => if j < k then some (yad y (100 + j)) else none
theorem sFx_0 (y : YT) : va_up (fun _ => none) 0 (some (yad y (100 + 0))) = sFx y 1 := by
  funext j
  unfold va_up sFx
  by_cases h : j = 0
  · rw [if_pos h, if_pos (by omega), h]
  · rw [if_neg h, if_neg (by omega)]
theorem sFx_s (y : YT) (k : Nat) : va_up (sFx y k) k (some (yad y (100 + k))) = sFx y (k + 1) := by
  funext j
  unfold va_up sFx
  by_cases h : j = k
  · rw [if_pos h, if_pos (by omega), h]
  · rw [if_neg h]
    by_cases h2 : j < k
    · rw [if_pos h2, if_pos (by omega)]
    · rw [if_neg h2, if_neg (by omega)]
def mF (a p : Nat) (g : Nat → Int32) : Nat → Int32 := fun j => if a ≤ j ∧ j < a + p then -1 else g j
theorem mF_0 (a : Nat) (g : Nat → Int32) : g = mF a 0 g := by
  funext j
  unfold mF
  rw [if_neg (by omega)]
theorem mF_s (a p : Nat) (g : Nat → Int32) : upd (mF a p g) (a + p) (-1) = mF a (p + 1) g := by
  funext j
  rw [upd_i]
  unfold mF
  by_cases h : j = a + p
  · rw [if_pos h, if_pos (by omega)]
  · rw [if_neg h]
    by_cases h2 : a ≤ j ∧ j < a + p
    · rw [if_pos h2, if_pos (by omega)]
    · rw [if_neg h2, if_neg (by omega)]
theorem bl_4 {x : XT} {y : YT} {A : Nat → Prop} {Z : State → Prop} {Wf : (Nat → Int32) → va_W} {q qp kc ks : Nat} {fs : List Value} {g : Nat → Int32} (C : CK x y A RX5 cX5_init 2 rm_X5i true) (h0 : ∀ f, (Wf f)[0]? = some (q, .inr (5, fs))) (hf : fs[0]? = some (.ref qp)) (h1 : ∀ f, (Wf f)[1]? = some (qp, .inl ((yC y).1, (79, .inl f)))) (hset : ∀ f g, (Wf f).set 1 (qp, .inl ((yC y).1, (79, .inl g))) = Wf g) (kk : GK x y A 2 Z 182 [(1, .int 10), (0, .ref q)] [] (Wf (mF 7 10 g)) kc ks) : ∀ (d p : Nat) (f : Nat → Int32), p + d = 10 → f = mF 7 p g → GK x y A 2 Z 160 [(1, .int (nI p)), (0, .ref q)] [] (Wf f) kc ks := by
  intro d
  induction d with
  | zero =>
    intro p f hp hf1
    have e : p = 10 := by omega
    subst e
    subst hf1
    refine k_iload_n (pc := 160) C dX5_init_160 rfl 0 rfl ?_
    refine k_bipush (v := 10) (pc := 161) C dX5_init_161 (by decide) ?_
    refine k_icmp_ge (pc := 163) (tgt := 182) C dX5_init_163 rfl (fun _ => ?_) (fun h => absurd (show (10 : Int32) ≤ nI 10 by decide) h)
    exact kk
  | succ d ih =>
    intro p f hp hf1
    have h6 : p < 10 := by omega
    refine k_iload_n (pc := 160) C dX5_init_160 rfl 0 rfl ?_
    refine k_bipush (v := 10) (pc := 161) C dX5_init_161 (by decide) ?_
    refine k_icmp_ge (pc := 163) (tgt := 182) C dX5_init_163 rfl (fun h => absurd h (show ¬ (10 : Int32) ≤ nI p from nI_lei (m := 10) h6 (by decide))) (fun _ => ?_)
    refine k_aload_n (pc := 166) C dX5_init_166 rfl 1 rfl ?_
    refine k_get (pc := 167) (q0 := 0) (ci := 5) (j := 0) (cn := RX5) (T := TX5) (N := 22) C wf_X5_9 dX5_init_167 (h0 f) rfl inT5 (by decide) hf ?_
    refine k_bipush (v := 7) (pc := 170) C dX5_init_170 (by decide) ?_
    refine k_iload_n (pc := 172) C dX5_init_172 rfl 0 rfl ?_
    refine k_iadd (pc := 173) C dX5_init_173 ?_
    refine k_iconst (v := -1) (pc := 174) C dX5_init_174 (by decide) ?_
    have ea : (7 : Int32) + nI p = nI (7 + p) := nI_add 7 p
    rw [ea]
    refine k_iast (pc := 175) (q0 := 1) C dX5_init_175 (h1 f) (vin_n (show 7 + p < 79 by omega) (by decide)) (hset f _) ?_
    refine k_iinc (pc := 176) (w := nI (p + 1)) (lv' := [(1, .int (nI (p + 1))), (0, .ref q)]) C dX5_init_176 (k := 0) rfl (nI_1 _) (by decide) rfl ?_
    refine k_goto (pc := 179) (tgt := 160) C dX5_init_179 rfl ?_
    refine ih (p + 1) _ (by omega) ?_
    rw [nI_clamp (by omega), hf1, mF_s]
theorem bl_5 {x : XT} {y : YT} {A : Nat → Prop} {Z : State → Prop} {Wf : (Nat → Int32) → va_W} {q qp kc ks : Nat} {fs : List Value} {g : Nat → Int32} (C : CK x y A RX5 cX5_init 2 rm_X5i true) (h0 : ∀ f, (Wf f)[0]? = some (q, .inr (5, fs))) (hf : fs[0]? = some (.ref qp)) (h1 : ∀ f, (Wf f)[1]? = some (qp, .inl ((yC y).1, (79, .inl f)))) (hset : ∀ f g, (Wf f).set 1 (qp, .inl ((yC y).1, (79, .inl g))) = Wf g) (kk : GK x y A 2 Z 206 [(1, .int 6), (0, .ref q)] [] (Wf (mF 17 6 g)) kc ks) : ∀ (d p : Nat) (f : Nat → Int32), p + d = 6 → f = mF 17 p g → GK x y A 2 Z 184 [(1, .int (nI p)), (0, .ref q)] [] (Wf f) kc ks := by
  intro d
  induction d with
  | zero =>
    intro p f hp hf1
    have e : p = 6 := by omega
    subst e
    subst hf1
    refine k_iload_n (pc := 184) C dX5_init_184 rfl 0 rfl ?_
    refine k_bipush (v := 6) (pc := 185) C dX5_init_185 (by decide) ?_
    refine k_icmp_ge (pc := 187) (tgt := 206) C dX5_init_187 rfl (fun _ => ?_) (fun h => absurd (show (6 : Int32) ≤ nI 6 by decide) h)
    exact kk
  | succ d ih =>
    intro p f hp hf1
    have h6 : p < 6 := by omega
    refine k_iload_n (pc := 184) C dX5_init_184 rfl 0 rfl ?_
    refine k_bipush (v := 6) (pc := 185) C dX5_init_185 (by decide) ?_
    refine k_icmp_ge (pc := 187) (tgt := 206) C dX5_init_187 rfl (fun h => absurd h (show ¬ (6 : Int32) ≤ nI p from nI_lei (m := 6) h6 (by decide))) (fun _ => ?_)
    refine k_aload_n (pc := 190) C dX5_init_190 rfl 1 rfl ?_
    refine k_get (pc := 191) (q0 := 0) (ci := 5) (j := 0) (cn := RX5) (T := TX5) (N := 22) C wf_X5_9 dX5_init_191 (h0 f) rfl inT5 (by decide) hf ?_
    refine k_bipush (v := 17) (pc := 194) C dX5_init_194 (by decide) ?_
    refine k_iload_n (pc := 196) C dX5_init_196 rfl 0 rfl ?_
    refine k_iadd (pc := 197) C dX5_init_197 ?_
    refine k_iconst (v := -1) (pc := 198) C dX5_init_198 (by decide) ?_
    have ea : (17 : Int32) + nI p = nI (17 + p) := nI_add 17 p
    rw [ea]
    refine k_iast (pc := 199) (q0 := 1) C dX5_init_199 (h1 f) (vin_n (show 17 + p < 79 by omega) (by decide)) (hset f _) ?_
    refine k_iinc (pc := 200) (w := nI (p + 1)) (lv' := [(1, .int (nI (p + 1))), (0, .ref q)]) C dX5_init_200 (k := 0) rfl (nI_1 _) (by decide) rfl ?_
    refine k_goto (pc := 203) (tgt := 184) C dX5_init_203 rfl ?_
    refine ih (p + 1) _ (by omega) ?_
    rw [nI_clamp (by omega), hf1, mF_s]
def nowR : Nat → Int32 := (mF 17 6 (mF 7 10 (upd (upd (upd (upd (fun _ => 0) 2 1) 3 20) 4 5) 5 5)))
abbrev mW (y : YT) (h a1 a2 a3 a4 a5 K a7 a8 a9 a10 a11 : Nat) : va_W := [(h, .inr (5, [.ref a1, .ref a2, .ref a3, .int 0, .ref a4, .int 0, .int 0, .ref a5, .int 0, .int 0, .int 0, .int 0, .int 0, .int 0, .ref K, .ref a7, .int 0, .int 0, .ref a8, .ref a9, .ref a10, .ref a11])), (a1, .inl ((yC y).1, (79, .inl nowR))), (a2, .inl ((yC y).1, (79, .inl (fun _ => 0)))), (a3, .inl ((yC y).1, (79, .inl (fun _ => 0)))), (a4, .inl ((yC y).1, (8, .inl (fun _ => 0)))), (a5, .inl ((yC y).1, (120, .inl (fun _ => 0)))), (K, .inl ((yC y).2.2.2, (7, .inr (.inr (.inr (.inr (fun j => some (yad y (100 + j))))))))), (a7, .inl ((yC y).1, (840, .inl (fun _ => 0)))), (a8, .inl ((yC y).1, (4, .inl (fun _ => 0)))), (a9, .inl ((yC y).1, (4, .inl (fun _ => 0)))), (a10, .inl ((yC y).1, (160, .inl (fun _ => 0)))), (a11, .inl ((yC y).1, (40, .inl (fun _ => 0))))]
theorem n_X5_init (l : Launch) (y : YT) (h sz : Nat) : MN l y yX5_init (Cond.code yX5_init cX5_init 2 none :: TT) rm_X5i h [] 5 [.null, .null, .null, .int 0, .null, .int 0, .int 0, .null, .int 0, .int 0, .int 0, .int 0, .int 0, .int 0, .null, .null, .int 0, .int 0, .null, .null, .null, .null] sz (fun w => ∃ a1 a2 a3 a4 a5 K a7 a8 a9 a10 a11, w = mW y h a1 a2 a3 a4 a5 K a7 a8 a9 a10 a11) :=
  mkN (b := true) (by decide) rfl (fun _ => rfl) (Nat.le_of_ble_eq_true rfl) (fun x Z C hr => by
    refine k_aload_n (pc := 0) C dX5_init_0 rfl 0 rfl ?_
    refine k_obj (pc := 1) C wm_X5_1 dX5_init_1 (Nat.le_of_ble_eq_true rfl) (Nat.le_of_ble_eq_true rfl) ?_
    refine k_aload_n (pc := 4) C dX5_init_4 rfl 0 rfl ?_
    refine k_bipush (v := 79) (pc := 5) C dX5_init_5 (by decide) ?_
    refine k_newa (pc := 7) (N := 79) (kc' := 1) (ks' := 79) C dX5_init_7 (by decide) (by decide) (Nat.le_of_ble_eq_true rfl) (Nat.le_of_ble_eq_true rfl) (Nat.le_of_ble_eq_true rfl) ⟨Nat.le_of_ble_eq_true rfl, Nat.le_of_ble_eq_true rfl⟩ (fun a1 => ?_)
    refine k_putF (q0 := 0) (pc := 9) (ci := 5) (j := 0) (cn := RX5) (T := TX5) (N := 22) (v := .ref a1) (ty := .array .int) (ws' := [(h, .inr (5, [.ref a1, .null, .null, .int 0, .null, .int 0, .int 0, .null, .int 0, .int 0, .int 0, .int 0, .int 0, .int 0, .null, .null, .int 0, .int 0, .null, .null, .null, .null])), (a1, .inl ((yC y).1, (79, .inl (fun _ => 0))))]) C tyX5 tyX5_ok nmX5 wf_X5_9 dX5_init_9 rfl rfl inT5 (by decide) rfl rfl (by decide +kernel) rfl rfl (Nat.le_of_ble_eq_true rfl) rfl ?_
    refine k_aload_n (pc := 12) C dX5_init_12 rfl 0 rfl ?_
    refine k_bipush (v := 79) (pc := 13) C dX5_init_13 (by decide) ?_
    refine k_newa (pc := 15) (N := 79) (kc' := 2) (ks' := 158) C dX5_init_15 (by decide) (by decide) (Nat.le_of_ble_eq_true rfl) (Nat.le_of_ble_eq_true rfl) (Nat.le_of_ble_eq_true rfl) ⟨Nat.le_of_ble_eq_true rfl, Nat.le_of_ble_eq_true rfl⟩ (fun a2 => ?_)
    refine k_putF (q0 := 0) (pc := 17) (ci := 5) (j := 1) (cn := RX5) (T := TX5) (N := 22) (v := .ref a2) (ty := .array .int) (ws' := [(h, .inr (5, [.ref a1, .ref a2, .null, .int 0, .null, .int 0, .int 0, .null, .int 0, .int 0, .int 0, .int 0, .int 0, .int 0, .null, .null, .int 0, .int 0, .null, .null, .null, .null])), (a1, .inl ((yC y).1, (79, .inl (fun _ => 0)))), (a2, .inl ((yC y).1, (79, .inl (fun _ => 0))))]) C tyX5 tyX5_ok nmX5 wf_X5_13 dX5_init_17 rfl rfl inT5 (by decide) rfl rfl (by decide +kernel) rfl rfl (Nat.le_of_ble_eq_true rfl) rfl ?_
    refine k_aload_n (pc := 20) C dX5_init_20 rfl 0 rfl ?_
    refine k_bipush (v := 79) (pc := 21) C dX5_init_21 (by decide) ?_
    refine k_newa (pc := 23) (N := 79) (kc' := 3) (ks' := 237) C dX5_init_23 (by decide) (by decide) (Nat.le_of_ble_eq_true rfl) (Nat.le_of_ble_eq_true rfl) (Nat.le_of_ble_eq_true rfl) ⟨Nat.le_of_ble_eq_true rfl, Nat.le_of_ble_eq_true rfl⟩ (fun a3 => ?_)
    refine k_putF (q0 := 0) (pc := 25) (ci := 5) (j := 2) (cn := RX5) (T := TX5) (N := 22) (v := .ref a3) (ty := .array .int) (ws' := [(h, .inr (5, [.ref a1, .ref a2, .ref a3, .int 0, .null, .int 0, .int 0, .null, .int 0, .int 0, .int 0, .int 0, .int 0, .int 0, .null, .null, .int 0, .int 0, .null, .null, .null, .null])), (a1, .inl ((yC y).1, (79, .inl (fun _ => 0)))), (a2, .inl ((yC y).1, (79, .inl (fun _ => 0)))), (a3, .inl ((yC y).1, (79, .inl (fun _ => 0))))]) C tyX5 tyX5_ok nmX5 wf_X5_16 dX5_init_25 rfl rfl inT5 (by decide) rfl rfl (by decide +kernel) rfl rfl (Nat.le_of_ble_eq_true rfl) rfl ?_
    refine k_aload_n (pc := 28) C dX5_init_28 rfl 0 rfl ?_
    refine k_bipush (v := 8) (pc := 29) C dX5_init_29 (by decide) ?_
    refine k_newa (pc := 31) (N := 8) (kc' := 4) (ks' := 245) C dX5_init_31 (by decide) (by decide) (Nat.le_of_ble_eq_true rfl) (Nat.le_of_ble_eq_true rfl) (Nat.le_of_ble_eq_true rfl) ⟨Nat.le_of_ble_eq_true rfl, Nat.le_of_ble_eq_true rfl⟩ (fun a4 => ?_)
    refine k_putF (q0 := 0) (pc := 33) (ci := 5) (j := 4) (cn := RX5) (T := TX5) (N := 22) (v := .ref a4) (ty := .array .int) (ws' := [(h, .inr (5, [.ref a1, .ref a2, .ref a3, .int 0, .ref a4, .int 0, .int 0, .null, .int 0, .int 0, .int 0, .int 0, .int 0, .int 0, .null, .null, .int 0, .int 0, .null, .null, .null, .null])), (a1, .inl ((yC y).1, (79, .inl (fun _ => 0)))), (a2, .inl ((yC y).1, (79, .inl (fun _ => 0)))), (a3, .inl ((yC y).1, (79, .inl (fun _ => 0)))), (a4, .inl ((yC y).1, (8, .inl (fun _ => 0))))]) C tyX5 tyX5_ok nmX5 wf_X5_19 dX5_init_33 rfl rfl inT5 (by decide) rfl rfl (by decide +kernel) rfl rfl (Nat.le_of_ble_eq_true rfl) rfl ?_
    refine k_aload_n (pc := 36) C dX5_init_36 rfl 0 rfl ?_
    refine k_bipush (v := 120) (pc := 37) C dX5_init_37 (by decide) ?_
    refine k_newa (pc := 39) (N := 120) (kc' := 5) (ks' := 365) C dX5_init_39 (by decide) (by decide) (Nat.le_of_ble_eq_true rfl) (Nat.le_of_ble_eq_true rfl) (Nat.le_of_ble_eq_true rfl) ⟨Nat.le_of_ble_eq_true rfl, Nat.le_of_ble_eq_true rfl⟩ (fun a5 => ?_)
    refine k_putF (q0 := 0) (pc := 41) (ci := 5) (j := 7) (cn := RX5) (T := TX5) (N := 22) (v := .ref a5) (ty := .array .int) (ws' := [(h, .inr (5, [.ref a1, .ref a2, .ref a3, .int 0, .ref a4, .int 0, .int 0, .ref a5, .int 0, .int 0, .int 0, .int 0, .int 0, .int 0, .null, .null, .int 0, .int 0, .null, .null, .null, .null])), (a1, .inl ((yC y).1, (79, .inl (fun _ => 0)))), (a2, .inl ((yC y).1, (79, .inl (fun _ => 0)))), (a3, .inl ((yC y).1, (79, .inl (fun _ => 0)))), (a4, .inl ((yC y).1, (8, .inl (fun _ => 0)))), (a5, .inl ((yC y).1, (120, .inl (fun _ => 0))))]) C tyX5 tyX5_ok nmX5 wf_X5_22 dX5_init_41 rfl rfl inT5 (by decide) rfl rfl (by decide +kernel) rfl rfl (Nat.le_of_ble_eq_true rfl) rfl ?_
    refine k_aload_n (pc := 44) C dX5_init_44 rfl 0 rfl ?_
    refine k_bipush (v := 7) (pc := 45) C dX5_init_45 (by decide) ?_
    refine k_newq (pc := 47) (N := 7) (kc' := 6) (ks' := 372) C (fun U h => h.2.2) 3 rfl wl_X5_25 dX5_init_47 (by decide) (by decide) (Nat.le_of_ble_eq_true rfl) (Nat.le_of_ble_eq_true rfl) (Nat.le_of_ble_eq_true rfl) ⟨Nat.le_of_ble_eq_true rfl, Nat.le_of_ble_eq_true rfl⟩ (fun K => ?_)
    refine k_dup (pc := 50) C dX5_init_50 rfl ?_
    refine k_iconst (v := 0) (pc := 51) C dX5_init_51 (by decide) ?_
    refine k_ldcs (pc := 52) (k := 0) (tx := "sitter") C dX5_init_52 (List.mem_of_getElem? (i := 15) rfl) ?_
    refine k_asts (pc := 54) (q0 := 6) (k := 0) (ws' := [(h, .inr (5, [.ref a1, .ref a2, .ref a3, .int 0, .ref a4, .int 0, .int 0, .ref a5, .int 0, .int 0, .int 0, .int 0, .int 0, .int 0, .null, .null, .int 0, .int 0, .null, .null, .null, .null])), (a1, .inl ((yC y).1, (79, .inl (fun _ => 0)))), (a2, .inl ((yC y).1, (79, .inl (fun _ => 0)))), (a3, .inl ((yC y).1, (79, .inl (fun _ => 0)))), (a4, .inl ((yC y).1, (8, .inl (fun _ => 0)))), (a5, .inl ((yC y).1, (120, .inl (fun _ => 0)))), (K, .inl ((yC y).2.2.2, (7, .inr (.inr (.inr (.inr (sFx y 1)))))))]) C (by decide) dX5_init_54 rfl (by unfold vp_in; decide) (by rw [show ((0 : Int32)).toNatClampNeg = 0 from rfl, sFx_0]; rfl) ?_
    refine k_dup (pc := 55) C dX5_init_55 rfl ?_
    refine k_iconst (v := 1) (pc := 56) C dX5_init_56 (by decide) ?_
    refine k_ldcs (pc := 57) (k := 1) (tx := "child") C dX5_init_57 (List.mem_of_getElem? (i := 16) rfl) ?_
    refine k_asts (pc := 59) (q0 := 6) (k := 1) (ws' := [(h, .inr (5, [.ref a1, .ref a2, .ref a3, .int 0, .ref a4, .int 0, .int 0, .ref a5, .int 0, .int 0, .int 0, .int 0, .int 0, .int 0, .null, .null, .int 0, .int 0, .null, .null, .null, .null])), (a1, .inl ((yC y).1, (79, .inl (fun _ => 0)))), (a2, .inl ((yC y).1, (79, .inl (fun _ => 0)))), (a3, .inl ((yC y).1, (79, .inl (fun _ => 0)))), (a4, .inl ((yC y).1, (8, .inl (fun _ => 0)))), (a5, .inl ((yC y).1, (120, .inl (fun _ => 0)))), (K, .inl ((yC y).2.2.2, (7, .inr (.inr (.inr (.inr (sFx y 2)))))))]) C (by decide) dX5_init_59 rfl (by unfold vp_in; decide) (by rw [show ((1 : Int32)).toNatClampNeg = 1 from rfl, sFx_s]; rfl) ?_
    refine k_dup (pc := 60) C dX5_init_60 rfl ?_
    refine k_iconst (v := 2) (pc := 61) C dX5_init_61 (by decide) ?_
    refine k_ldcs (pc := 62) (k := 2) (tx := "glasses") C dX5_init_62 (List.mem_of_getElem? (i := 17) rfl) ?_
    refine k_asts (pc := 64) (q0 := 6) (k := 2) (ws' := [(h, .inr (5, [.ref a1, .ref a2, .ref a3, .int 0, .ref a4, .int 0, .int 0, .ref a5, .int 0, .int 0, .int 0, .int 0, .int 0, .int 0, .null, .null, .int 0, .int 0, .null, .null, .null, .null])), (a1, .inl ((yC y).1, (79, .inl (fun _ => 0)))), (a2, .inl ((yC y).1, (79, .inl (fun _ => 0)))), (a3, .inl ((yC y).1, (79, .inl (fun _ => 0)))), (a4, .inl ((yC y).1, (8, .inl (fun _ => 0)))), (a5, .inl ((yC y).1, (120, .inl (fun _ => 0)))), (K, .inl ((yC y).2.2.2, (7, .inr (.inr (.inr (.inr (sFx y 3)))))))]) C (by decide) dX5_init_64 rfl (by unfold vp_in; decide) (by rw [show ((2 : Int32)).toNatClampNeg = 2 from rfl, sFx_s]; rfl) ?_
    refine k_dup (pc := 65) C dX5_init_65 rfl ?_
    refine k_iconst (v := 3) (pc := 66) C dX5_init_66 (by decide) ?_
    refine k_ldcs (pc := 67) (k := 3) (tx := "shy") C dX5_init_67 (List.mem_of_getElem? (i := 18) rfl) ?_
    refine k_asts (pc := 69) (q0 := 6) (k := 3) (ws' := [(h, .inr (5, [.ref a1, .ref a2, .ref a3, .int 0, .ref a4, .int 0, .int 0, .ref a5, .int 0, .int 0, .int 0, .int 0, .int 0, .int 0, .null, .null, .int 0, .int 0, .null, .null, .null, .null])), (a1, .inl ((yC y).1, (79, .inl (fun _ => 0)))), (a2, .inl ((yC y).1, (79, .inl (fun _ => 0)))), (a3, .inl ((yC y).1, (79, .inl (fun _ => 0)))), (a4, .inl ((yC y).1, (8, .inl (fun _ => 0)))), (a5, .inl ((yC y).1, (120, .inl (fun _ => 0)))), (K, .inl ((yC y).2.2.2, (7, .inr (.inr (.inr (.inr (sFx y 4)))))))]) C (by decide) dX5_init_69 rfl (by unfold vp_in; decide) (by rw [show ((3 : Int32)).toNatClampNeg = 3 from rfl, sFx_s]; rfl) ?_
    refine k_dup (pc := 70) C dX5_init_70 rfl ?_
    refine k_iconst (v := 4) (pc := 71) C dX5_init_71 (by decide) ?_
    refine k_ldcs (pc := 72) (k := 4) (tx := "old") C dX5_init_72 (List.mem_of_getElem? (i := 19) rfl) ?_
    refine k_asts (pc := 74) (q0 := 6) (k := 4) (ws' := [(h, .inr (5, [.ref a1, .ref a2, .ref a3, .int 0, .ref a4, .int 0, .int 0, .ref a5, .int 0, .int 0, .int 0, .int 0, .int 0, .int 0, .null, .null, .int 0, .int 0, .null, .null, .null, .null])), (a1, .inl ((yC y).1, (79, .inl (fun _ => 0)))), (a2, .inl ((yC y).1, (79, .inl (fun _ => 0)))), (a3, .inl ((yC y).1, (79, .inl (fun _ => 0)))), (a4, .inl ((yC y).1, (8, .inl (fun _ => 0)))), (a5, .inl ((yC y).1, (120, .inl (fun _ => 0)))), (K, .inl ((yC y).2.2.2, (7, .inr (.inr (.inr (.inr (sFx y 5)))))))]) C (by decide) dX5_init_74 rfl (by unfold vp_in; decide) (by rw [show ((4 : Int32)).toNatClampNeg = 4 from rfl, sFx_s]; rfl) ?_
    refine k_dup (pc := 75) C dX5_init_75 rfl ?_
    refine k_iconst (v := 5) (pc := 76) C dX5_init_76 (by decide) ?_
    refine k_ldcs (pc := 77) (k := 5) (tx := "twin") C dX5_init_77 (List.mem_of_getElem? (i := 20) rfl) ?_
    refine k_asts (pc := 79) (q0 := 6) (k := 5) (ws' := [(h, .inr (5, [.ref a1, .ref a2, .ref a3, .int 0, .ref a4, .int 0, .int 0, .ref a5, .int 0, .int 0, .int 0, .int 0, .int 0, .int 0, .null, .null, .int 0, .int 0, .null, .null, .null, .null])), (a1, .inl ((yC y).1, (79, .inl (fun _ => 0)))), (a2, .inl ((yC y).1, (79, .inl (fun _ => 0)))), (a3, .inl ((yC y).1, (79, .inl (fun _ => 0)))), (a4, .inl ((yC y).1, (8, .inl (fun _ => 0)))), (a5, .inl ((yC y).1, (120, .inl (fun _ => 0)))), (K, .inl ((yC y).2.2.2, (7, .inr (.inr (.inr (.inr (sFx y 6)))))))]) C (by decide) dX5_init_79 rfl (by unfold vp_in; decide) (by rw [show ((5 : Int32)).toNatClampNeg = 5 from rfl, sFx_s]; rfl) ?_
    refine k_dup (pc := 80) C dX5_init_80 rfl ?_
    refine k_bipush (v := 6) (pc := 81) C dX5_init_81 (by decide) ?_
    refine k_ldcs (pc := 83) (k := 6) (tx := "baby") C dX5_init_83 (List.mem_of_getElem? (i := 21) rfl) ?_
    refine k_asts (pc := 85) (q0 := 6) (k := 6) (ws' := [(h, .inr (5, [.ref a1, .ref a2, .ref a3, .int 0, .ref a4, .int 0, .int 0, .ref a5, .int 0, .int 0, .int 0, .int 0, .int 0, .int 0, .null, .null, .int 0, .int 0, .null, .null, .null, .null])), (a1, .inl ((yC y).1, (79, .inl (fun _ => 0)))), (a2, .inl ((yC y).1, (79, .inl (fun _ => 0)))), (a3, .inl ((yC y).1, (79, .inl (fun _ => 0)))), (a4, .inl ((yC y).1, (8, .inl (fun _ => 0)))), (a5, .inl ((yC y).1, (120, .inl (fun _ => 0)))), (K, .inl ((yC y).2.2.2, (7, .inr (.inr (.inr (.inr (sFx y 7)))))))]) C (by decide) dX5_init_85 rfl (by unfold vp_in; decide) (by rw [show ((6 : Int32)).toNatClampNeg = 6 from rfl, sFx_s]; rfl) ?_
    refine k_putF (q0 := 0) (pc := 86) (ci := 5) (j := 14) (cn := RX5) (T := TX5) (N := 22) (v := .ref K) (ty := .array (.object "java/lang/String")) (ws' := [(h, .inr (5, [.ref a1, .ref a2, .ref a3, .int 0, .ref a4, .int 0, .int 0, .ref a5, .int 0, .int 0, .int 0, .int 0, .int 0, .int 0, .ref K, .null, .int 0, .int 0, .null, .null, .null, .null])), (a1, .inl ((yC y).1, (79, .inl (fun _ => 0)))), (a2, .inl ((yC y).1, (79, .inl (fun _ => 0)))), (a3, .inl ((yC y).1, (79, .inl (fun _ => 0)))), (a4, .inl ((yC y).1, (8, .inl (fun _ => 0)))), (a5, .inl ((yC y).1, (120, .inl (fun _ => 0)))), (K, .inl ((yC y).2.2.2, (7, .inr (.inr (.inr (.inr (sFx y 7)))))))]) C tyX5 tyX5_ok nmX5 wf_X5_41 dX5_init_86 rfl rfl inT5 (by decide) rfl rfl (by decide +kernel) rfl rfl (Nat.le_of_ble_eq_true rfl) rfl ?_
    refine k_aload_n (pc := 89) C dX5_init_89 rfl 0 rfl ?_
    refine k_sipush (v := 840) (pc := 90) C dX5_init_90 (by decide) ?_
    refine k_newa (pc := 93) (N := 840) (kc' := 7) (ks' := 1212) C dX5_init_93 (by decide) (by decide) (Nat.le_of_ble_eq_true rfl) (Nat.le_of_ble_eq_true rfl) (Nat.le_of_ble_eq_true rfl) ⟨Nat.le_of_ble_eq_true rfl, Nat.le_of_ble_eq_true rfl⟩ (fun a7 => ?_)
    refine k_putF (q0 := 0) (pc := 95) (ci := 5) (j := 15) (cn := RX5) (T := TX5) (N := 22) (v := .ref a7) (ty := .array .int) (ws' := [(h, .inr (5, [.ref a1, .ref a2, .ref a3, .int 0, .ref a4, .int 0, .int 0, .ref a5, .int 0, .int 0, .int 0, .int 0, .int 0, .int 0, .ref K, .ref a7, .int 0, .int 0, .null, .null, .null, .null])), (a1, .inl ((yC y).1, (79, .inl (fun _ => 0)))), (a2, .inl ((yC y).1, (79, .inl (fun _ => 0)))), (a3, .inl ((yC y).1, (79, .inl (fun _ => 0)))), (a4, .inl ((yC y).1, (8, .inl (fun _ => 0)))), (a5, .inl ((yC y).1, (120, .inl (fun _ => 0)))), (K, .inl ((yC y).2.2.2, (7, .inr (.inr (.inr (.inr (sFx y 7))))))), (a7, .inl ((yC y).1, (840, .inl (fun _ => 0))))]) C tyX5 tyX5_ok nmX5 wf_X5_45 dX5_init_95 rfl rfl inT5 (by decide) rfl rfl (by decide +kernel) rfl rfl (Nat.le_of_ble_eq_true rfl) rfl ?_
    refine k_aload_n (pc := 98) C dX5_init_98 rfl 0 rfl ?_
    refine k_iconst (v := 4) (pc := 99) C dX5_init_99 (by decide) ?_
    refine k_newa (pc := 100) (N := 4) (kc' := 8) (ks' := 1216) C dX5_init_100 (by decide) (by decide) (Nat.le_of_ble_eq_true rfl) (Nat.le_of_ble_eq_true rfl) (Nat.le_of_ble_eq_true rfl) ⟨Nat.le_of_ble_eq_true rfl, Nat.le_of_ble_eq_true rfl⟩ (fun a8 => ?_)
    refine k_putF (q0 := 0) (pc := 102) (ci := 5) (j := 18) (cn := RX5) (T := TX5) (N := 22) (v := .ref a8) (ty := .array .int) (ws' := [(h, .inr (5, [.ref a1, .ref a2, .ref a3, .int 0, .ref a4, .int 0, .int 0, .ref a5, .int 0, .int 0, .int 0, .int 0, .int 0, .int 0, .ref K, .ref a7, .int 0, .int 0, .ref a8, .null, .null, .null])), (a1, .inl ((yC y).1, (79, .inl (fun _ => 0)))), (a2, .inl ((yC y).1, (79, .inl (fun _ => 0)))), (a3, .inl ((yC y).1, (79, .inl (fun _ => 0)))), (a4, .inl ((yC y).1, (8, .inl (fun _ => 0)))), (a5, .inl ((yC y).1, (120, .inl (fun _ => 0)))), (K, .inl ((yC y).2.2.2, (7, .inr (.inr (.inr (.inr (sFx y 7))))))), (a7, .inl ((yC y).1, (840, .inl (fun _ => 0)))), (a8, .inl ((yC y).1, (4, .inl (fun _ => 0))))]) C tyX5 tyX5_ok nmX5 wf_X5_48 dX5_init_102 rfl rfl inT5 (by decide) rfl rfl (by decide +kernel) rfl rfl (Nat.le_of_ble_eq_true rfl) rfl ?_
    refine k_aload_n (pc := 105) C dX5_init_105 rfl 0 rfl ?_
    refine k_iconst (v := 4) (pc := 106) C dX5_init_106 (by decide) ?_
    refine k_newa (pc := 107) (N := 4) (kc' := 9) (ks' := 1220) C dX5_init_107 (by decide) (by decide) (Nat.le_of_ble_eq_true rfl) (Nat.le_of_ble_eq_true rfl) (Nat.le_of_ble_eq_true rfl) ⟨Nat.le_of_ble_eq_true rfl, Nat.le_of_ble_eq_true rfl⟩ (fun a9 => ?_)
    refine k_putF (q0 := 0) (pc := 109) (ci := 5) (j := 19) (cn := RX5) (T := TX5) (N := 22) (v := .ref a9) (ty := .array .int) (ws' := [(h, .inr (5, [.ref a1, .ref a2, .ref a3, .int 0, .ref a4, .int 0, .int 0, .ref a5, .int 0, .int 0, .int 0, .int 0, .int 0, .int 0, .ref K, .ref a7, .int 0, .int 0, .ref a8, .ref a9, .null, .null])), (a1, .inl ((yC y).1, (79, .inl (fun _ => 0)))), (a2, .inl ((yC y).1, (79, .inl (fun _ => 0)))), (a3, .inl ((yC y).1, (79, .inl (fun _ => 0)))), (a4, .inl ((yC y).1, (8, .inl (fun _ => 0)))), (a5, .inl ((yC y).1, (120, .inl (fun _ => 0)))), (K, .inl ((yC y).2.2.2, (7, .inr (.inr (.inr (.inr (sFx y 7))))))), (a7, .inl ((yC y).1, (840, .inl (fun _ => 0)))), (a8, .inl ((yC y).1, (4, .inl (fun _ => 0)))), (a9, .inl ((yC y).1, (4, .inl (fun _ => 0))))]) C tyX5 tyX5_ok nmX5 wf_X5_51 dX5_init_109 rfl rfl inT5 (by decide) rfl rfl (by decide +kernel) rfl rfl (Nat.le_of_ble_eq_true rfl) rfl ?_
    refine k_aload_n (pc := 112) C dX5_init_112 rfl 0 rfl ?_
    refine k_sipush (v := 160) (pc := 113) C dX5_init_113 (by decide) ?_
    refine k_newa (pc := 116) (N := 160) (kc' := 10) (ks' := 1380) C dX5_init_116 (by decide) (by decide) (Nat.le_of_ble_eq_true rfl) (Nat.le_of_ble_eq_true rfl) (Nat.le_of_ble_eq_true rfl) ⟨Nat.le_of_ble_eq_true rfl, Nat.le_of_ble_eq_true rfl⟩ (fun a10 => ?_)
    refine k_putF (q0 := 0) (pc := 118) (ci := 5) (j := 20) (cn := RX5) (T := TX5) (N := 22) (v := .ref a10) (ty := .array .int) (ws' := [(h, .inr (5, [.ref a1, .ref a2, .ref a3, .int 0, .ref a4, .int 0, .int 0, .ref a5, .int 0, .int 0, .int 0, .int 0, .int 0, .int 0, .ref K, .ref a7, .int 0, .int 0, .ref a8, .ref a9, .ref a10, .null])), (a1, .inl ((yC y).1, (79, .inl (fun _ => 0)))), (a2, .inl ((yC y).1, (79, .inl (fun _ => 0)))), (a3, .inl ((yC y).1, (79, .inl (fun _ => 0)))), (a4, .inl ((yC y).1, (8, .inl (fun _ => 0)))), (a5, .inl ((yC y).1, (120, .inl (fun _ => 0)))), (K, .inl ((yC y).2.2.2, (7, .inr (.inr (.inr (.inr (sFx y 7))))))), (a7, .inl ((yC y).1, (840, .inl (fun _ => 0)))), (a8, .inl ((yC y).1, (4, .inl (fun _ => 0)))), (a9, .inl ((yC y).1, (4, .inl (fun _ => 0)))), (a10, .inl ((yC y).1, (160, .inl (fun _ => 0))))]) C tyX5 tyX5_ok nmX5 wf_X5_54 dX5_init_118 rfl rfl inT5 (by decide) rfl rfl (by decide +kernel) rfl rfl (Nat.le_of_ble_eq_true rfl) rfl ?_
    refine k_aload_n (pc := 121) C dX5_init_121 rfl 0 rfl ?_
    refine k_bipush (v := 40) (pc := 122) C dX5_init_122 (by decide) ?_
    refine k_newa (pc := 124) (N := 40) (kc' := 11) (ks' := 1420) C dX5_init_124 (by decide) (by decide) (Nat.le_of_ble_eq_true rfl) (Nat.le_of_ble_eq_true rfl) (Nat.le_of_ble_eq_true rfl) ⟨Nat.le_of_ble_eq_true rfl, Nat.le_of_ble_eq_true rfl⟩ (fun a11 => ?_)
    refine k_putF (q0 := 0) (pc := 126) (ci := 5) (j := 21) (cn := RX5) (T := TX5) (N := 22) (v := .ref a11) (ty := .array .int) (ws' := [(h, .inr (5, [.ref a1, .ref a2, .ref a3, .int 0, .ref a4, .int 0, .int 0, .ref a5, .int 0, .int 0, .int 0, .int 0, .int 0, .int 0, .ref K, .ref a7, .int 0, .int 0, .ref a8, .ref a9, .ref a10, .ref a11])), (a1, .inl ((yC y).1, (79, .inl (fun _ => 0)))), (a2, .inl ((yC y).1, (79, .inl (fun _ => 0)))), (a3, .inl ((yC y).1, (79, .inl (fun _ => 0)))), (a4, .inl ((yC y).1, (8, .inl (fun _ => 0)))), (a5, .inl ((yC y).1, (120, .inl (fun _ => 0)))), (K, .inl ((yC y).2.2.2, (7, .inr (.inr (.inr (.inr (sFx y 7))))))), (a7, .inl ((yC y).1, (840, .inl (fun _ => 0)))), (a8, .inl ((yC y).1, (4, .inl (fun _ => 0)))), (a9, .inl ((yC y).1, (4, .inl (fun _ => 0)))), (a10, .inl ((yC y).1, (160, .inl (fun _ => 0)))), (a11, .inl ((yC y).1, (40, .inl (fun _ => 0))))]) C tyX5 tyX5_ok nmX5 wf_X5_57 dX5_init_126 rfl rfl inT5 (by decide) rfl rfl (by decide +kernel) rfl rfl (Nat.le_of_ble_eq_true rfl) rfl ?_
    refine k_aload_n (pc := 129) C dX5_init_129 rfl 0 rfl ?_
    refine k_get (pc := 130) (q0 := 0) (ci := 5) (j := 0) (cn := RX5) (T := TX5) (N := 22) C wf_X5_9 dX5_init_130 rfl rfl inT5 (by decide) rfl ?_
    refine k_iconst (v := 2) (pc := 133) C dX5_init_133 (by decide) ?_
    refine k_iconst (v := 1) (pc := 134) C dX5_init_134 (by decide) ?_
    refine k_iast (pc := 135) (q0 := 1) (ws' := [(h, .inr (5, [.ref a1, .ref a2, .ref a3, .int 0, .ref a4, .int 0, .int 0, .ref a5, .int 0, .int 0, .int 0, .int 0, .int 0, .int 0, .ref K, .ref a7, .int 0, .int 0, .ref a8, .ref a9, .ref a10, .ref a11])), (a1, .inl ((yC y).1, (79, .inl (upd (fun _ => 0) 2 1)))), (a2, .inl ((yC y).1, (79, .inl (fun _ => 0)))), (a3, .inl ((yC y).1, (79, .inl (fun _ => 0)))), (a4, .inl ((yC y).1, (8, .inl (fun _ => 0)))), (a5, .inl ((yC y).1, (120, .inl (fun _ => 0)))), (K, .inl ((yC y).2.2.2, (7, .inr (.inr (.inr (.inr (sFx y 7))))))), (a7, .inl ((yC y).1, (840, .inl (fun _ => 0)))), (a8, .inl ((yC y).1, (4, .inl (fun _ => 0)))), (a9, .inl ((yC y).1, (4, .inl (fun _ => 0)))), (a10, .inl ((yC y).1, (160, .inl (fun _ => 0)))), (a11, .inl ((yC y).1, (40, .inl (fun _ => 0))))]) C dX5_init_135 rfl (by unfold vp_in; decide) rfl ?_
    refine k_aload_n (pc := 136) C dX5_init_136 rfl 0 rfl ?_
    refine k_get (pc := 137) (q0 := 0) (ci := 5) (j := 0) (cn := RX5) (T := TX5) (N := 22) C wf_X5_9 dX5_init_137 rfl rfl inT5 (by decide) rfl ?_
    refine k_iconst (v := 3) (pc := 140) C dX5_init_140 (by decide) ?_
    refine k_bipush (v := 20) (pc := 141) C dX5_init_141 (by decide) ?_
    refine k_iast (pc := 143) (q0 := 1) (ws' := [(h, .inr (5, [.ref a1, .ref a2, .ref a3, .int 0, .ref a4, .int 0, .int 0, .ref a5, .int 0, .int 0, .int 0, .int 0, .int 0, .int 0, .ref K, .ref a7, .int 0, .int 0, .ref a8, .ref a9, .ref a10, .ref a11])), (a1, .inl ((yC y).1, (79, .inl (upd (upd (fun _ => 0) 2 1) 3 20)))), (a2, .inl ((yC y).1, (79, .inl (fun _ => 0)))), (a3, .inl ((yC y).1, (79, .inl (fun _ => 0)))), (a4, .inl ((yC y).1, (8, .inl (fun _ => 0)))), (a5, .inl ((yC y).1, (120, .inl (fun _ => 0)))), (K, .inl ((yC y).2.2.2, (7, .inr (.inr (.inr (.inr (sFx y 7))))))), (a7, .inl ((yC y).1, (840, .inl (fun _ => 0)))), (a8, .inl ((yC y).1, (4, .inl (fun _ => 0)))), (a9, .inl ((yC y).1, (4, .inl (fun _ => 0)))), (a10, .inl ((yC y).1, (160, .inl (fun _ => 0)))), (a11, .inl ((yC y).1, (40, .inl (fun _ => 0))))]) C dX5_init_143 rfl (by unfold vp_in; decide) rfl ?_
    refine k_aload_n (pc := 144) C dX5_init_144 rfl 0 rfl ?_
    refine k_get (pc := 145) (q0 := 0) (ci := 5) (j := 0) (cn := RX5) (T := TX5) (N := 22) C wf_X5_9 dX5_init_145 rfl rfl inT5 (by decide) rfl ?_
    refine k_iconst (v := 4) (pc := 148) C dX5_init_148 (by decide) ?_
    refine k_iconst (v := 5) (pc := 149) C dX5_init_149 (by decide) ?_
    refine k_iast (pc := 150) (q0 := 1) (ws' := [(h, .inr (5, [.ref a1, .ref a2, .ref a3, .int 0, .ref a4, .int 0, .int 0, .ref a5, .int 0, .int 0, .int 0, .int 0, .int 0, .int 0, .ref K, .ref a7, .int 0, .int 0, .ref a8, .ref a9, .ref a10, .ref a11])), (a1, .inl ((yC y).1, (79, .inl (upd (upd (upd (fun _ => 0) 2 1) 3 20) 4 5)))), (a2, .inl ((yC y).1, (79, .inl (fun _ => 0)))), (a3, .inl ((yC y).1, (79, .inl (fun _ => 0)))), (a4, .inl ((yC y).1, (8, .inl (fun _ => 0)))), (a5, .inl ((yC y).1, (120, .inl (fun _ => 0)))), (K, .inl ((yC y).2.2.2, (7, .inr (.inr (.inr (.inr (sFx y 7))))))), (a7, .inl ((yC y).1, (840, .inl (fun _ => 0)))), (a8, .inl ((yC y).1, (4, .inl (fun _ => 0)))), (a9, .inl ((yC y).1, (4, .inl (fun _ => 0)))), (a10, .inl ((yC y).1, (160, .inl (fun _ => 0)))), (a11, .inl ((yC y).1, (40, .inl (fun _ => 0))))]) C dX5_init_150 rfl (by unfold vp_in; decide) rfl ?_
    refine k_aload_n (pc := 151) C dX5_init_151 rfl 0 rfl ?_
    refine k_get (pc := 152) (q0 := 0) (ci := 5) (j := 0) (cn := RX5) (T := TX5) (N := 22) C wf_X5_9 dX5_init_152 rfl rfl inT5 (by decide) rfl ?_
    refine k_iconst (v := 5) (pc := 155) C dX5_init_155 (by decide) ?_
    refine k_iconst (v := 5) (pc := 156) C dX5_init_156 (by decide) ?_
    refine k_iast (pc := 157) (q0 := 1) (ws' := [(h, .inr (5, [.ref a1, .ref a2, .ref a3, .int 0, .ref a4, .int 0, .int 0, .ref a5, .int 0, .int 0, .int 0, .int 0, .int 0, .int 0, .ref K, .ref a7, .int 0, .int 0, .ref a8, .ref a9, .ref a10, .ref a11])), (a1, .inl ((yC y).1, (79, .inl (upd (upd (upd (upd (fun _ => 0) 2 1) 3 20) 4 5) 5 5)))), (a2, .inl ((yC y).1, (79, .inl (fun _ => 0)))), (a3, .inl ((yC y).1, (79, .inl (fun _ => 0)))), (a4, .inl ((yC y).1, (8, .inl (fun _ => 0)))), (a5, .inl ((yC y).1, (120, .inl (fun _ => 0)))), (K, .inl ((yC y).2.2.2, (7, .inr (.inr (.inr (.inr (sFx y 7))))))), (a7, .inl ((yC y).1, (840, .inl (fun _ => 0)))), (a8, .inl ((yC y).1, (4, .inl (fun _ => 0)))), (a9, .inl ((yC y).1, (4, .inl (fun _ => 0)))), (a10, .inl ((yC y).1, (160, .inl (fun _ => 0)))), (a11, .inl ((yC y).1, (40, .inl (fun _ => 0))))]) C dX5_init_157 rfl (by unfold vp_in; decide) rfl ?_
    refine k_iconst (v := 0) (pc := 158) C dX5_init_158 (by decide) ?_
    refine k_istore_n (pc := 159) (lv' := [(1, .int 0), (0, .ref h)]) C dX5_init_159 rfl (by decide) rfl ?_
    refine bl_4 (fs := [.ref a1, .ref a2, .ref a3, .int 0, .ref a4, .int 0, .int 0, .ref a5, .int 0, .int 0, .int 0, .int 0, .int 0, .int 0, .ref K, .ref a7, .int 0, .int 0, .ref a8, .ref a9, .ref a10, .ref a11]) (qp := a1) (g := (upd (upd (upd (upd (fun _ => 0) 2 1) 3 20) 4 5) 5 5)) (Wf := fun f => [(h, .inr (5, [.ref a1, .ref a2, .ref a3, .int 0, .ref a4, .int 0, .int 0, .ref a5, .int 0, .int 0, .int 0, .int 0, .int 0, .int 0, .ref K, .ref a7, .int 0, .int 0, .ref a8, .ref a9, .ref a10, .ref a11])), (a1, .inl ((yC y).1, (79, .inl f))), (a2, .inl ((yC y).1, (79, .inl (fun _ => 0)))), (a3, .inl ((yC y).1, (79, .inl (fun _ => 0)))), (a4, .inl ((yC y).1, (8, .inl (fun _ => 0)))), (a5, .inl ((yC y).1, (120, .inl (fun _ => 0)))), (K, .inl ((yC y).2.2.2, (7, .inr (.inr (.inr (.inr (sFx y 7))))))), (a7, .inl ((yC y).1, (840, .inl (fun _ => 0)))), (a8, .inl ((yC y).1, (4, .inl (fun _ => 0)))), (a9, .inl ((yC y).1, (4, .inl (fun _ => 0)))), (a10, .inl ((yC y).1, (160, .inl (fun _ => 0)))), (a11, .inl ((yC y).1, (40, .inl (fun _ => 0))))]) C (fun _ => rfl) rfl (fun _ => rfl) (fun _ _ => rfl) ?_ 10 0 _ (by decide) (mF_0 _ _)
    refine k_iconst (v := 0) (pc := 182) C dX5_init_182 (by decide) ?_
    refine k_istore_n (pc := 183) (lv' := [(1, .int 0), (0, .ref h)]) C dX5_init_183 rfl (by decide) rfl ?_
    refine bl_5 (fs := [.ref a1, .ref a2, .ref a3, .int 0, .ref a4, .int 0, .int 0, .ref a5, .int 0, .int 0, .int 0, .int 0, .int 0, .int 0, .ref K, .ref a7, .int 0, .int 0, .ref a8, .ref a9, .ref a10, .ref a11]) (qp := a1) (g := (mF 7 10 (upd (upd (upd (upd (fun _ => 0) 2 1) 3 20) 4 5) 5 5))) (Wf := fun f => [(h, .inr (5, [.ref a1, .ref a2, .ref a3, .int 0, .ref a4, .int 0, .int 0, .ref a5, .int 0, .int 0, .int 0, .int 0, .int 0, .int 0, .ref K, .ref a7, .int 0, .int 0, .ref a8, .ref a9, .ref a10, .ref a11])), (a1, .inl ((yC y).1, (79, .inl f))), (a2, .inl ((yC y).1, (79, .inl (fun _ => 0)))), (a3, .inl ((yC y).1, (79, .inl (fun _ => 0)))), (a4, .inl ((yC y).1, (8, .inl (fun _ => 0)))), (a5, .inl ((yC y).1, (120, .inl (fun _ => 0)))), (K, .inl ((yC y).2.2.2, (7, .inr (.inr (.inr (.inr (sFx y 7))))))), (a7, .inl ((yC y).1, (840, .inl (fun _ => 0)))), (a8, .inl ((yC y).1, (4, .inl (fun _ => 0)))), (a9, .inl ((yC y).1, (4, .inl (fun _ => 0)))), (a10, .inl ((yC y).1, (160, .inl (fun _ => 0)))), (a11, .inl ((yC y).1, (40, .inl (fun _ => 0))))]) C (fun _ => rfl) rfl (fun _ => rfl) (fun _ _ => rfl) ?_ 6 0 _ (by decide) (mF_0 _ _)
    refine k_cell (q0 := 6) (e2 := (7, .inr (.inr (.inr (.inr (fun j => some (yad y (100 + j)))))))) (ws' := mW y h a1 a2 a3 a4 a5 K a7 a8 a9 a10 a11) rfl (cell_q (fun j hj => if_pos hj)) rfl ?_
    exact hr 206 _ _ dX5_init_206 ⟨a1, a2, a3, a4, a5, K, a7, a8, a9, a10, a11, rfl⟩)

/-! CONSTRUCTORS: worlds that grow. GK: the machine goes on from here, with a world of its own -/
def Ovr (U : State) : Prop := va_AO RX2 U ∧ va_AO RX1 U ∧ va_AO RJ0 U
theorem Ovr.moved {u U : State} (hvm : u.vm.Alike U.vm) (h : Ovr u) : Ovr U := ⟨va_AO.moved hvm h.1, va_AO.moved hvm h.2.1, va_AO.moved hvm h.2.2⟩
def CK : XT → YT → (Nat → Prop) → String → ByteArray → Nat → Room → Bool → Prop
  | (p, _, _, R, s, m, args, _, meth, c, _, _), y, A, own, cc, nL, R0, b => p.tables.exec = Jvm.exec ∧ c.code = cc ∧ c.maxLocals = nL ∧ s.vm.findClass own = some m.cls ∧ (∀ w ∈ TT, w.before args s = true) ∧ R = R0 ∧ meth.locks = false ∧ (b = true → meth.name = "<init>") ∧ va_K (yD y) vwCl (tysL y) s ∧ Ovr s ∧ StrOK y A s s.heap ∧ SitOK y s ∧ (∀ q : Nat, s.heap.size ≤ q → A q)
def GK : XT → YT → (Nat → Prop) → Nat → (State → Prop) → Nat → List (Nat × Value) → List Value → va_W → Nat → Nat → Prop
  | (p, l, e, R, s, m, args, below, meth, c, _, _), y, A, nL, Z, pc, lv, st, ws, kc, ks => ∀ (H : Heap) (locs : List Loc) (ls : Array Slot), va_P (yD y) vwCl ws H → va_D A ws → va_S A s.heap H locs → lv_has ls nL lv → W p l e R s m args below meth c H locs kc ks Z (F0 m pc ls st)
section KROWS
variable {x : XT} {y : YT} {A : Nat → Prop} {own : String} {cc : ByteArray} {nL : Nat} {R : Room} {Z : State → Prop} {pc : Nat} {lv lv' : List (Nat × Value)} {st : List Value} {ws ws' : va_W} {kc ks kc' ks' : Nat} {bz : Bool}
theorem k_aload_n (C : CK x y A own cc nL R bz) {k : Fin 4} {i : Nat} {v : Nat} (hd : decode cc pc = .ok (.aload_n k, 1)) (hi : (k : Nat) = i) (j : Nat) (hj : lv[j]? = some (i, .ref v)) (kk : GK x y A nL Z (pc + 1) lv (.ref v :: st) ws kc ks) : GK x y A nL Z pc lv st ws kc ks := by
  obtain ⟨p, l, e, R', s, m, args, below, meth, c, kc0, ks0⟩ := x
  obtain ⟨hx, hb, hml, hown, hts, hR, hlk, hin2, hK, hO, hStr, hSit, hA⟩ := C
  intro H locs ls hP hD hS hl
  exact lv_aload_n hx hb hd hi (lv_at hl j hj) (kk H locs ls hP hD hS hl)
theorem k_iconst (C : CK x y A own cc nL R bz) {n : Int} {v : Int32} (hd : decode cc pc = .ok (.iconst n, 1)) (hv : Int32.ofInt n = v) (kk : GK x y A nL Z (pc + 1) lv (.int v :: st) ws kc ks) : GK x y A nL Z pc lv st ws kc ks := by
  obtain ⟨p, l, e, R', s, m, args, below, meth, c, kc0, ks0⟩ := x
  obtain ⟨hx, hb, hml, hown, hts, hR, hlk, hin2, hK, hO, hStr, hSit, hA⟩ := C
  intro H locs ls hP hD hS hl
  exact lv_iconst hx hb hd hv (kk H locs ls hP hD hS hl)
theorem k_bipush (C : CK x y A own cc nL R bz) {n : Int} {v : Int32} (hd : decode cc pc = .ok (.bipush n, 2)) (hv : (Int8.ofInt n).toInt32 = v) (kk : GK x y A nL Z (pc + 2) lv (.int v :: st) ws kc ks) : GK x y A nL Z pc lv st ws kc ks := by
  obtain ⟨p, l, e, R', s, m, args, below, meth, c, kc0, ks0⟩ := x
  obtain ⟨hx, hb, hml, hown, hts, hR, hlk, hin2, hK, hO, hStr, hSit, hA⟩ := C
  intro H locs ls hP hD hS hl
  exact lv_bipush hx hb hd hv (kk H locs ls hP hD hS hl)
theorem k_sipush (C : CK x y A own cc nL R bz) {n : Int} {v : Int32} (hd : decode cc pc = .ok (.sipush n, 3)) (hv : (Int16.ofInt n).toInt32 = v) (kk : GK x y A nL Z (pc + 3) lv (.int v :: st) ws kc ks) : GK x y A nL Z pc lv st ws kc ks := by
  obtain ⟨p, l, e, R', s, m, args, below, meth, c, kc0, ks0⟩ := x
  obtain ⟨hx, hb, hml, hown, hts, hR, hlk, hin2, hK, hO, hStr, hSit, hA⟩ := C
  intro H locs ls hP hD hS hl
  exact lv_sipush hx hb hd hv (kk H locs ls hP hD hS hl)
theorem k_dup (C : CK x y A own cc nL R bz) {va : Value} (hd : decode cc pc = .ok (.dup, 1)) (hva : va.category = 1) (kk : GK x y A nL Z (pc + 1) lv (va :: va :: st) ws kc ks) : GK x y A nL Z pc lv (va :: st) ws kc ks := by
  obtain ⟨p, l, e, R', s, m, args, below, meth, c, kc0, ks0⟩ := x
  obtain ⟨hx, hb, hml, hown, hts, hR, hlk, hin2, hK, hO, hStr, hSit, hA⟩ := C
  intro H locs ls hP hD hS hl
  exact lv_dup hx hb hd hva (kk H locs ls hP hD hS hl)
theorem k_iload_n (C : CK x y A own cc nL R bz) {k : Fin 4} {i : Nat} {v : Int32} (hd : decode cc pc = .ok (.iload_n k, 1)) (hi : (k : Nat) = i) (j : Nat) (hj : lv[j]? = some (i, .int v)) (kk : GK x y A nL Z (pc + 1) lv (.int v :: st) ws kc ks) : GK x y A nL Z pc lv st ws kc ks := by
  obtain ⟨p, l, e, R', s, m, args, below, meth, c, kc0, ks0⟩ := x
  obtain ⟨hx, hb, hml, hown, hts, hR, hlk, hin2, hK, hO, hStr, hSit, hA⟩ := C
  intro H locs ls hP hD hS hl
  exact lv_iload_n hx hb hd hi (lv_at hl j hj) (kk H locs ls hP hD hS hl)
theorem k_istore_n (C : CK x y A own cc nL R bz) {k : Fin 4} {i : Nat} {v : Int32} (hd : decode cc pc = .ok (.istore_n k, 1)) (hi : (k : Nat) = i) (hn : i < nL) (hl0 : (i, Value.int v) :: lv.filter (fun q => !(q.1 == i) && !(q.1 + 1 == i && q.2.category == 2)) = lv') (kk : GK x y A nL Z (pc + 1) lv' st ws kc ks) : GK x y A nL Z pc lv (.int v :: st) ws kc ks := by
  obtain ⟨p, l, e, R', s, m, args, below, meth, c, kc0, ks0⟩ := x
  obtain ⟨hx, hb, hml, hown, hts, hR, hlk, hin2, hK, hO, hStr, hSit, hA⟩ := C
  intro H locs ls hP hD hS hl
  exact lv_istore_n hx hb hd hi hl hn hl0 (fun ls' hl' => kk H locs ls' hP hD hS hl')
theorem k_astore_n (C : CK x y A own cc nL R bz) {k : Fin 4} {i : Nat} {v : Nat} (hd : decode cc pc = .ok (.astore_n k, 1)) (hi : (k : Nat) = i) (hn : i < nL) (hl0 : (i, Value.ref v) :: lv.filter (fun q => !(q.1 == i) && !(q.1 + 1 == i && q.2.category == 2)) = lv') (kk : GK x y A nL Z (pc + 1) lv' st ws kc ks) : GK x y A nL Z pc lv (.ref v :: st) ws kc ks := by
  obtain ⟨p, l, e, R', s, m, args, below, meth, c, kc0, ks0⟩ := x
  obtain ⟨hx, hb, hml, hown, hts, hR, hlk, hin2, hK, hO, hStr, hSit, hA⟩ := C
  intro H locs ls hP hD hS hl
  exact lv_astore_n hx hb hd hi hl hn hl0 (fun ls' hl' => kk H locs ls' hP hD hS hl')
theorem k_iinc (C : CK x y A own cc nL R bz) {i k : Nat} {n : Int} {v w : Int32} (hd : decode cc pc = .ok (.iinc i n, 3)) (hk : lv[k]? = some (i, .int v)) (hv : v + Int32.ofInt n = w) (hn : i < nL) (hl0 : (i, Value.int w) :: lv.filter (fun q => !(q.1 == i) && !(q.1 + 1 == i && q.2.category == 2)) = lv') (kk : GK x y A nL Z (pc + 3) lv' st ws kc ks) : GK x y A nL Z pc lv st ws kc ks := by
  obtain ⟨p, l, e, R', s, m, args, below, meth, c, kc0, ks0⟩ := x
  obtain ⟨hx, hb, hml, hown, hts, hR, hlk, hin2, hK, hO, hStr, hSit, hA⟩ := C
  intro H locs ls hP hD hS hl
  exact lv_iinc hx hb hd hl hk hv hn hl0 (fun ls' hl' => kk H locs ls' hP hD hS hl')
theorem k_goto (C : CK x y A own cc nL R bz) {off : Int} {tgt : Nat} (hd : decode cc pc = .ok (.goto off, 3)) (ht : (pc : Int) + off = (tgt : Int)) (kk : GK x y A nL Z tgt lv st ws kc ks) : GK x y A nL Z pc lv st ws kc ks := by
  obtain ⟨p, l, e, R', s, m, args, below, meth, c, kc0, ks0⟩ := x
  obtain ⟨hx, hb, hml, hown, hts, hR, hlk, hin2, hK, hO, hStr, hSit, hA⟩ := C
  intro H locs ls hP hD hS hl
  exact lv_goto hx hb hd ht (kk H locs ls hP hD hS hl)
theorem k_icmp_ge (C : CK x y A own cc nL R bz) {u v : Int32} {off : Int} {tgt : Nat} (hd : decode cc pc = .ok (.if_icmp .ge off, 3)) (ht : (pc : Int) + off = (tgt : Int)) (kt : v ≤ u → GK x y A nL Z tgt lv st ws kc ks) (kf : ¬ v ≤ u → GK x y A nL Z (pc + 3) lv st ws kc ks) : GK x y A nL Z pc lv (.int v :: .int u :: st) ws kc ks := by
  obtain ⟨p, l, e, R', s, m, args, below, meth, c, kc0, ks0⟩ := x
  obtain ⟨hx, hb, hml, hown, hts, hR, hlk, hin2, hK, hO, hStr, hSit, hA⟩ := C
  intro H locs ls hP hD hS hl
  exact lv_icmp_ge hx hb hd ht (fun q => kt q H locs ls hP hD hS hl) (fun q => kf q H locs ls hP hD hS hl)
theorem k_iadd (C : CK x y A own cc nL R bz) {u v : Int32} (hd : decode cc pc = .ok (.iadd, 1)) (kk : GK x y A nL Z (pc + 1) lv (.int (u + v) :: st) ws kc ks) : GK x y A nL Z pc lv (.int v :: .int u :: st) ws kc ks := by
  obtain ⟨p, l, e, R', s, m, args, below, meth, c, kc0, ks0⟩ := x
  obtain ⟨hx, hb, hml, hown, hts, hR, hlk, hin2, hK, hO, hStr, hSit, hA⟩ := C
  intro H locs ls hP hD hS hl
  exact lv_iadd hx hb hd (kk H locs ls hP hD hS hl)
theorem k_ldcs (C : CK x y A own cc nL R bz) {i k : Nat} {tx : String} (hd : decode cc pc = .ok (.ldc i, 2)) (hw : (own, i, tx, k) ∈ sitesJ) (kk : GK x y A nL Z (pc + 2) lv (.ref (yad y (100 + k)) :: st) ws kc ks) : GK x y A nL Z pc lv st ws kc ks := by
  obtain ⟨p, l, e, R', s, m, args, below, meth, c, kc0, ks0⟩ := x
  obtain ⟨hx, hb, hml, hown, hts, hR, hlk, hin2, hK, hO, hStr, hSit, hA⟩ := C
  intro H locs ls hP hD hS hl
  exact va_ldcS hx hb hown (hSit _ hw) hd (kk H locs ls hP hD hS hl)
theorem k_sub (C : CK x y A own cc nL R bz) (js : List Nat) (hq : lv_pick lv js = lv') (kk : GK x y A nL Z pc lv' st ws kc ks) : GK x y A nL Z pc lv st ws kc ks := by
  obtain ⟨p, l, e, R', s, m, args, below, meth, c, kc0, ks0⟩ := x
  obtain ⟨hx, hb, hml, hown, hts, hR, hlk, hin2, hK, hO, hStr, hSit, hA⟩ := C
  intro H locs ls hP hD hS hl
  exact kk H locs ls hP hD hS (lv_sub hl js hq)
theorem k_obj (C : CK x y A own cc nL R bz) {a i : Nat} (hw : Cond.methodLink own i objectInit ∈ TT) (hd : decode cc pc = .ok (.invokespecial i, 3)) (hf : 1 ≤ R.frames) (hl : 12 ≤ R.locals) (kk : GK x y A nL Z (pc + 3) lv [] ws kc ks) : GK x y A nL Z pc lv [.ref a] ws kc ks := by
  obtain ⟨p, l, e, R', s, m, args, below, meth, c, kc0, ks0⟩ := x
  obtain ⟨hx, hb, hml, hown, hts, hR, hlk, hin2, hK, hO, hStr, hSit, hA⟩ := C
  intro H locs ls hP hD hS hl2
  subst hR
  refine W.objInit hx hb hown (hts _ hw) (hts _ wi_objectInit) (hts _ wc_objectInit) rfl (by rw [hml]; exact hl2.1) rfl hd hf hl ?_
  exact kk H locs ls hP hD hS hl2
theorem k_get (C : CK x y A own cc nL R bz) {q0 a ci j idx : Nat} {cn : String} {T : u_T} {N : Nat} {fs : List Value} {v : Value} (hw : Cond.fieldLink own idx (T j).1 (T j).2.1 (T j).2.2.1 ∈ TT) (hd : decode cc pc = .ok (.getfield idx, 3)) (he : ws[q0]? = some (a, .inr (ci, fs))) (hc : vwCl[ci]? = some (cn, T, N)) (hin : ∀ w ∈ u_ws cn T N, w ∈ TT) (hj : j < N) (hv : fs[j]? = some v) (kk : GK x y A nL Z (pc + 3) lv (v :: st) ws kc ks) : GK x y A nL Z pc lv (.ref a :: st) ws kc ks := by
  obtain ⟨p, l, e, R', s, m, args, below, meth, c, kc0, ks0⟩ := x
  obtain ⟨hx, hb, hml, hown, hts, hR, hlk, hin2, hK, hO, hStr, hSit, hA⟩ := C
  intro H locs ls hP hD hS hl
  exact va_get (C := cn) (T := T) (N := N) hx hb hts hin hown hK hP q0 he hc j hj (hts _ hw) (fun _ h => h) hv hd (kk H locs ls hP hD hS hl)
theorem k_put (C : CK x y A own cc nL R bz) {q0 a ci j idx : Nat} {cn : String} {T : u_T} {N : Nat} {fs : List Value} {v : Value} {ty : FieldType} (ty0 : Nat → FieldType) (hty : ∀ k, k < N → parseFieldDescriptor (T k).2.2.1 = some (ty0 k)) (hnm : ∀ a, a < N → ∀ b, b < N → a ≠ b → (T a).2.1 ≠ (T b).2.1) (hw : Cond.fieldLink own idx (T j).1 (T j).2.1 (T j).2.2.1 ∈ TT) (hd : decode cc pc = .ok (.putfield idx, 3)) (he : ws[q0]? = some (a, .inr (ci, fs))) (hc : vwCl[ci]? = some (cn, T, N)) (hin : ∀ w ∈ u_ws cn T N, w ∈ TT) (hj : j < N) (hfin : (T j).2.2.2 = false) (htj : parseFieldDescriptor (T j).2.2.1 = some ty) (hn : narrow ty v = v) (hfit : fits ty v = true) (hlen : j < fs.length) (hs : ws.set q0 (a, .inr (ci, fs.set j v)) = ws') (kk : GK x y A nL Z (pc + 3) lv st ws' kc ks) : GK x y A nL Z pc lv (v :: .ref a :: st) ws kc ks := by
  obtain ⟨p, l, e, R', s, m, args, below, meth, c, kc0, ks0⟩ := x
  obtain ⟨hx, hb, hml, hown, hts, hR, hlk, hin2, hK, hO, hStr, hSit, hA⟩ := C
  intro H locs ls hP hD hS hl
  subst hs
  exact va_put (C := cn) (T := T) (N := N) hx hb hts hin ty0 hty hnm hown hK hP hD hS q0 he hc j hj (hts _ hw) (fun _ h => h) hfin htj hn hfit hlen hd (fun H1 locs1 hP1 hD1 hS1 => kk H1 locs1 ls hP1 hD1 hS1 hl)
theorem k_putF (C : CK x y A own cc nL R true) {q0 a ci j idx : Nat} {cn : String} {T : u_T} {N : Nat} {fs : List Value} {v : Value} {ty : FieldType} (ty0 : Nat → FieldType) (hty : ∀ k, k < N → parseFieldDescriptor (T k).2.2.1 = some (ty0 k)) (hnm : ∀ a, a < N → ∀ b, b < N → a ≠ b → (T a).2.1 ≠ (T b).2.1) (hw : Cond.fieldLink own idx (T j).1 (T j).2.1 (T j).2.2.1 ∈ TT) (hd : decode cc pc = .ok (.putfield idx, 3)) (he : ws[q0]? = some (a, .inr (ci, fs))) (hc : vwCl[ci]? = some (cn, T, N)) (hin : ∀ w ∈ u_ws cn T N, w ∈ TT) (hj : j < N) (hfin : (T j).2.2.2 = true) (hdecl : (T j).1 = own) (htj : parseFieldDescriptor (T j).2.2.1 = some ty) (hn : narrow ty v = v) (hfit : fits ty v = true) (hlen : j < fs.length) (hs : ws.set q0 (a, .inr (ci, fs.set j v)) = ws') (kk : GK x y A nL Z (pc + 3) lv st ws' kc ks) : GK x y A nL Z pc lv (v :: .ref a :: st) ws kc ks := by
  obtain ⟨p, l, e, R', s, m, args, below, meth, c, kc0, ks0⟩ := x
  obtain ⟨hx, hb, hml, hown, hts, hR, hlk, hin2, hK, hO, hStr, hSit, hA⟩ := C
  intro H locs ls hP hD hS hl
  subst hs
  exact va_putF (C := cn) (T := T) (N := N) hx hb hts hin ty0 hty hnm hown hK hP hD hS q0 he hc j hj (hts _ hw) (fun _ h => h) hfin (hin2 rfl) hdecl htj hn hfit hlen hd (fun H1 locs1 hP1 hD1 hS1 => kk H1 locs1 ls hP1 hD1 hS1 hl)
theorem k_new (C : CK x y A own cc nL R bz) {ci idx : Nat} {cn : String} {T : u_T} {N : Nat} {fs : List Value} (ty0 : Nat → FieldType) (hty : ∀ k, k < N → parseFieldDescriptor (T k).2.2.1 = some (ty0 k)) (hcl : Cond.classLink own idx cn ∈ TT) (hinst : Cond.instantiable cn N ∈ TT) (hini : Cond.initialized cn ∈ TT) (hd : decode cc pc = .ok (.new idx, 3)) (hc : vwCl[ci]? = some (cn, T, N)) (hin : ∀ w ∈ u_ws cn T N, w ∈ TT) (hfs : ∀ j, j < N → defaultValue (ty0 j) = vp_V fs j) (h1 : kc + 1 ≤ kc') (h2 : ks + N ≤ ks') (hr : kc' ≤ R.cells ∧ ks' ≤ R.slots) (kk : ∀ q : Nat, GK x y A nL Z (pc + 3) lv (.ref q :: st) (ws ++ [(q, .inr (ci, fs))]) kc' ks') : GK x y A nL Z pc lv st ws kc ks := by
  obtain ⟨p, l, e, R', s, m, args, below, meth, c, kc0, ks0⟩ := x
  obtain ⟨hx, hb, hml, hown, hts, hR, hlk, hin2, hK, hO, hStr, hSit, hA⟩ := C
  intro H locs ls hP hD hS hl
  subst hR
  exact va_new (C := cn) (T := T) (N := N) hx hb hts hin ty0 hty hown (hts _ hcl) (hts _ hinst) (hts _ hini) hK hP hD hS hA hc hfs (Nat.le_trans h1 hr.1) (Nat.le_trans h2 hr.2) hd (fun q H1 hP1 hD1 hS1 => W.widen h1 h2 (kk q H1 locs ls hP1 hD1 hS1 hl))
theorem k_newa (C : CK x y A own cc nL R bz) {n : Int32} {N : Nat} (hd : decode cc pc = .ok (.newarray .int, 2)) (hn : ¬ n < 0) (hN : n.toNatClampNeg = N) (hb4 : N * 4 ≤ 536870912) (h1 : kc + 1 ≤ kc') (h2 : ks + N ≤ ks') (hr : kc' ≤ R.cells ∧ ks' ≤ R.slots) (kk : ∀ q : Nat, GK x y A nL Z (pc + 2) lv (.ref q :: st) (ws ++ [(q, .inl ((yC y).1, (N, .inl (fun _ => 0))))]) kc' ks') : GK x y A nL Z pc lv (.int n :: st) ws kc ks := by
  obtain ⟨p, l, e, R', s, m, args, below, meth, c, kc0, ks0⟩ := x
  obtain ⟨hx, hb, hml, hown, hts, hR, hlk, hin2, hK, hO, hStr, hSit, hA⟩ := C
  intro H locs ls hP hD hS hl
  subst hR
  refine va_newa (atype := .int) (ty := .int) (a0 := (N, .inl (fun _ => 0))) hx hb (hts _ wac_int) rfl hK hP hD hS hA (fun _ => rfl) hn hN hb4 (Nat.le_trans h1 hr.1) (Nat.le_trans h2 hr.2) hd (fun q cA H1 hK1 hP1 hD1 hS1 => ?_)
  have e1 : cA = (yC y).1 := by
    have a1 := (hK1.2 4 (cA, .int) rfl).2
    have a2 := (hK1.2 0 ((yC y).1, .int) rfl).2
    exact Option.some.inj (a1.symm.trans a2)
  subst e1
  exact W.widen h1 h2 (kk q H1 locs ls hP1 hD1 hS1 hl)
theorem k_newq (C : CK x y A own cc nL R bz) {n : Int32} {N idx : Nat} {cn : String} {cA0 : ClassId} (sel : ∀ U, Ovr U → va_AO cn U) (t0 : Nat) (ht : (tysL y)[t0]? = some (cA0, .object cn)) (hw : Cond.classLink own idx cn ∈ TT) (hd : decode cc pc = .ok (.anewarray idx, 3)) (hn : ¬ n < 0) (hN : n.toNatClampNeg = N) (hb4 : N * 4 ≤ 536870912) (h1 : kc + 1 ≤ kc') (h2 : ks + N ≤ ks') (hr : kc' ≤ R.cells ∧ ks' ≤ R.slots) (kk : ∀ q : Nat, GK x y A nL Z (pc + 3) lv (.ref q :: st) (ws ++ [(q, .inl (cA0, (N, .inr (.inr (.inr (.inr (fun _ => none))))))) ]) kc' ks') : GK x y A nL Z pc lv (.int n :: st) ws kc ks := by
  obtain ⟨p, l, e, R', s, m, args, below, meth, c, kc0, ks0⟩ := x
  obtain ⟨hx, hb, hml, hown, hts, hR, hlk, hin2, hK, hO, hStr, hSit, hA⟩ := C
  intro H locs ls hP hD hS hl
  subst hR
  refine va_newq (C := cn) hx hb hown (hts _ hw) (sel s hO) hK hP hD hS hA hn hN hb4 (Nat.le_trans h1 hr.1) (Nat.le_trans h2 hr.2) hd (fun q cA H1 hK1 hP1 hD1 hS1 => ?_)
  have e1 : cA = cA0 := by
    obtain ⟨_, _, -, -, -, a1⟩ := (hK1.2 4 (cA, .object cn) rfl).2
    obtain ⟨_, _, -, -, -, a2⟩ := (hK.2 t0 (cA0, .object cn) ht).2
    exact Option.some.inj (a1.symm.trans a2)
  subst e1
  exact W.widen h1 h2 (kk q H1 locs ls hP1 hD1 hS1 hl)
theorem k_iast (C : CK x y A own cc nL R bz) {q0 a n : Nat} {f : Nat → Int32} {i v : Int32} (hd : decode cc pc = .ok (.iastore, 1)) (he : ws[q0]? = some (a, .inl ((yC y).1, (n, .inl f)))) (hin : vp_in i n) (hs : ws.set q0 (a, .inl ((yC y).1, (n, .inl (upd f i.toNatClampNeg v)))) = ws') (kk : GK x y A nL Z (pc + 1) lv st ws' kc ks) : GK x y A nL Z pc lv (.int v :: .int i :: .ref a :: st) ws kc ks := by
  obtain ⟨p, l, e, R', s, m, args, below, meth, c, kc0, ks0⟩ := x
  obtain ⟨hx, hb, hml, hown, hts, hR, hlk, hin2, hK, hO, hStr, hSit, hA⟩ := C
  intro H locs ls hP hD hS hl
  subst hs
  exact va_iast hx hb hK hP hD hS q0 0 he rfl hin hd (fun H1 locs1 hP1 hD1 hS1 => kk H1 locs1 ls hP1 hD1 hS1 hl)
theorem k_astq (C : CK x y A own cc nL R bz) {q0 qk a n v ci : Nat} {cA : ClassId} {r : vw_C} {vs : List Value} {f : Nat → Option Nat} {i : Int32} (t0 : Nat) (ht : (tysL y)[t0]? = some (cA, .object r.1)) (hd : decode cc pc = .ok (.aastore, 1)) (he : ws[q0]? = some (a, .inl (cA, (n, .inr (.inr (.inr (.inr f))))))) (hv : ws[qk]? = some (v, .inr (ci, vs))) (hc : vwCl[ci]? = some r) (hin : vp_in i n) (hs : ws.set q0 (a, .inl (cA, (n, .inr (.inr (.inr (.inr (va_up f i.toNatClampNeg (some v)))))))) = ws') (kk : GK x y A nL Z (pc + 1) lv st ws' kc ks) : GK x y A nL Z pc lv (.ref v :: .int i :: .ref a :: st) ws kc ks := by
  obtain ⟨p, l, e, R', s, m, args, below, meth, c, kc0, ks0⟩ := x
  obtain ⟨hx, hb, hml, hown, hts, hR, hlk, hin2, hK, hO, hStr, hSit, hA⟩ := C
  intro H locs ls hP hD hS hl
  subst hs
  exact va_astq hx hb hK hP hD hS q0 t0 qk ci he ht hv hc hin hd (fun H1 locs1 hP1 hD1 hS1 => kk H1 locs1 ls hP1 hD1 hS1 hl)
theorem k_asts (C : CK x y A own cc nL R bz) {q0 a n k : Nat} {f : Nat → Option Nat} {i : Int32} (hk : k < 15) (hd : decode cc pc = .ok (.aastore, 1)) (he : ws[q0]? = some (a, .inl ((yC y).2.2.2, (n, .inr (.inr (.inr (.inr f))))))) (hin : vp_in i n) (hs : ws.set q0 (a, .inl ((yC y).2.2.2, (n, .inr (.inr (.inr (.inr (va_up f i.toNatClampNeg (some (yad y (100 + k))))))))) ) = ws') (kk : GK x y A nL Z (pc + 1) lv st ws' kc ks) : GK x y A nL Z pc lv (.ref (yad y (100 + k)) :: .int i :: .ref a :: st) ws kc ks := by
  obtain ⟨p, l, e, R', s, m, args, below, meth, c, kc0, ks0⟩ := x
  obtain ⟨hx, hb, hml, hown, hts, hR, hlk, hin2, hK, hO, hStr, hSit, hA⟩ := C
  intro H locs ls hP hD hS hl
  subst hs
  obtain ⟨cell, g1, g2, g3, -⟩ := (hStr.1 k hk).1.kept hS.2.1
  exact vb_astq (E := RJ0) (C := "java/lang/String") hx hb hK hP hD hS q0 3 he rfl ⟨cell, g1, g2, g3⟩ (fun comp c0 z1 z2 => vb_asgS comp c0 z1 z2) hin hd (fun H1 locs1 hP1 hD1 hS1 => kk H1 locs1 ls hP1 hD1 hS1 hl)
theorem k_widen {C : CK x y A own cc nL R bz} (h1 : kc ≤ kc') (h2 : ks ≤ ks') (kk : GK x y A nL Z pc lv st ws kc' ks') : GK x y A nL Z pc lv st ws kc ks := by
  obtain ⟨p, l, e, R', s, m, args, below, meth, c, kc0, ks0⟩ := x
  intro H locs ls hP hD hS hl
  exact W.widen h1 h2 (kk H locs ls hP hD hS hl)
/-- the cell of a row may be told otherwise -/
theorem k_cell {q0 a : Nat} {cA : ClassId} {e1 e2 : vp_A} (he : ws[q0]? = some (a, .inl (cA, e1))) (hc : vp_cell cA e1 = vp_cell cA e2) (hs : ws.set q0 (a, .inl (cA, e2)) = ws') (kk : GK x y A nL Z pc lv st ws' kc ks) : GK x y A nL Z pc lv st ws kc ks := by
  obtain ⟨p, l, e, R', s, m, args, below, meth, c, kc0, ks0⟩ := x
  intro H locs ls hP hD hS hl
  subst hs
  exact kk H locs ls (hP.set hD he (by have h := hP q0 _ he; show H[a]? = some (vp_cell cA e2); rw [← hc]; exact h) (fun _ _ => rfl)) (hD.set he) hS hl
end KROWS
theorem cell_i {cA : ClassId} {n : Nat} {f g : Nat → Int32} (h : ∀ j, j < n → f j = g j) : vp_cell cA (n, .inl f) = vp_cell cA (n, .inl g) := by
  rw [vp_cell_i, vp_cell_i]
  unfold arrV
  congr 1
  apply Array.ext
  · simp
  · intro i h1 h2
    simp only [Array.getElem_ofFn]
    rw [h i (by simpa using h1)]
theorem cell_q {cA : ClassId} {n : Nat} {f g : Nat → Option Nat} (h : ∀ j, j < n → f j = g j) : vp_cell cA (n, .inr (.inr (.inr (.inr f)))) = vp_cell cA (n, .inr (.inr (.inr (.inr g)))) := by
  rw [vp_cell_q, vp_cell_q]
  unfold arrV
  congr 1
  apply Array.ext
  · simp
  · intro i h1 h2
    simp only [Array.getElem_ofFn]
    rw [h i (by simpa using h1)]
/-! their contracts -/
def KS (y : YT) (A : Nat → Prop) (U : State) : Prop := va_K (yD y) vwCl (tysL y) U ∧ Ovr U ∧ StrOK y A U U.heap ∧ SitOK y U
def MN (l : Launch) (y : YT) (nm : MethodName) (ws : List Cond) (rm : Room) (q : Nat) (As : List Value) (ci : Nat) (fs : List Value) (sz : Nat) (post : va_W → Prop) : Prop := Met l nm ws rm (va_Pc (.ref q :: As) (fun U => U.heap.size = sz ∧ va_P (yD y) vwCl [(q, .inr (ci, fs))] U.heap ∧ KS y (va_A [(q, .inr (ci, fs))] sz) U)) (va_Qv (fun w : va_W => post w) (fun w t => va_P (yD y) vwCl w t.heap ∧ va_D (va_A [(q, .inr (ci, fs))] sz) w) (va_A [(q, .inr (ci, fs))] sz)) rm.cells rm.slots (va_A [(q, .inr (ci, fs))] sz)
def RetN (x : XT) (y : YT) (A : Nat → Prop) (nL : Nat) (cc : ByteArray) (Z : State → Prop) (post : va_W → Prop) (rm : Room) : Prop := ∀ (pc : Nat) (lv : List (Nat × Value)) (w : va_W), decode cc pc = .ok (.return_, 1) → post w → GK x y A nL Z pc lv [] w rm.cells rm.slots
theorem mkN {l : Launch} {y : YT} {nm : MethodName} {cc : ByteArray} {nL : Nat} {ws : List Cond} {rm : Room} {q : Nat} {As : List Value} {ci : Nat} {fs : List Value} {sz : Nat} {post : va_W → Prop} {b : Bool} (hy : plainName nm.cls = true) (hws : ws = Cond.code nm cc nL none :: TT) (hnm : b = true → nm.name = "<init>") (hnl : (lg_sl (.ref q :: As)).length ≤ nL)
    (body : ∀ (x : XT) (Z : State → Prop), CK x y (va_A [(q, .inr (ci, fs))] sz) nm.cls cc nL rm b → RetN x y (va_A [(q, .inr (ci, fs))] sz) nL cc Z post rm → GK x y (va_A [(q, .inr (ci, fs))] sz) nL Z 0 (lv_args 0 (.ref q :: As)) [] [(q, .inr (ci, fs))] 0 0) : MN l y nm ws rm q As ci fs sz post := by
  refine Met.ofW (cc := cc) (maxL := nL) (ret := none) hy hws ?_
  intro p e s m args' below meth c s₁ B hml hv
  obtain ⟨rfl, hsz, hP, hK, hO, hStr, hSit⟩ := hv
  subst hsz
  have CX : CK (p, l, e, (headSpec ws rm).room, s, m, (Value.ref q :: As).toArray, below, meth, c, 0, 0) y (va_A [(q, .inr (ci, fs))] s.heap.size) nm.cls cc nL rm b := ⟨B.exec, B.bytes, hml, findClass_of_methodNamed B.named, fun w hw => atoms_spec (ws := ws) B.pre w (by rw [hws]; exact List.mem_cons_of_mem _ hw), rfl, B.notSynchronized, fun h => (name_of_methodNamed B.named B.method).1.trans (hnm h), hK, hO, hStr, hSit, fun q h => Or.inr h⟩
  rw [lg_entry_eq]
  refine body (p, l, e, (headSpec ws rm).room, s, m, (Value.ref q :: As).toArray, below, meth, c, 0, 0) _ CX ?_ s.heap [] _ hP ⟨fun i j a b hi hj _ => ?_, fun k z hk => va_A.in hk⟩ va_S.rf (lv_entry (.ref q :: As) hnl)
  · intro pc lv w hd hw H locs ls hP1 hD1 hS1 hl1
    exact W.vret B.exec B.bytes B.returns (fun t ht hW => ⟨⟨w, rfl, hw, by rw [ht]; exact hP1, hD1⟩, hS1.F ht⟩) hS1.2.2 hd B.notSynchronized
  · have h1 := (List.getElem?_eq_some_iff.mp hi).1
    have h2 := (List.getElem?_eq_some_iff.mp hj).1
    simp only [List.length_cons, List.length_nil] at h1 h2
    omega
section KCALL
variable {x : XT} {y : YT} {A : Nat → Prop} {own : String} {cc : ByteArray} {nL : Nat} {R : Room} {Z : State → Prop} {pc : Nat} {lv lv' : List (Nat × Value)} {st rest : List Value} {ws wr : va_W} {kc ks kc' ks' : Nat} {bz : Bool} {nm : MethodName} {bytes : ByteArray} {maxL : Nat} {rm : Room} {i q ci : Nat} {As fs : List Value} {post : va_W → Prop}
theorem KS.blind {sz : Nat} : FrameBlind (va_Pc (.ref q :: As) (fun U => U.heap.size = sz ∧ va_P (yD y) vwCl [(q, .inr (ci, fs))] U.heap ∧ KS y A U)) := fun a U g mk h => ⟨h.1, h.2.1, h.2.2.1, va_K.moved (u := U) (U := U.calling g mk a) (Vm.Alike.refl U.vm) h.2.2.2.1, Ovr.moved (u := U) (U := U.calling g mk a) (Vm.Alike.refl U.vm) h.2.2.2.2.1, StrOK.moved (u := U) (U := U.calling g mk a) (Vm.Alike.refl U.vm) h.2.2.2.2.2.1, SitOK.same (u := U) (U := U.calling g mk a) rfl h.2.2.2.2.2.2⟩
theorem k_callI (C : CK x y A own cc nL R bz) (hd : decode cc pc = .ok (.invokespecial i, 3)) (hM : ∀ l sz, MN l y nm (Cond.code nm bytes maxL none :: TT) rm q As ci fs sz post) (hw1 : Cond.methodLink own i nm ∈ TT) (hw2 : Cond.instanceMethod nm ∈ TT) (hw3 : Cond.initialized nm.cls ∈ TT) (hw4 : Cond.code nm bytes maxL none ∈ TT) (hnm : nm.name = "<init>") (hdd : nm.cls ≠ "java/lang/invoke/MethodHandle" ∧ nm.cls ≠ "java/lang/invoke/VarHandle" ∧ (parseMethodDescriptor nm.desc).map (fun d => d.parameters.length) = some As.length) (hr : rm.frames + 1 ≤ R.frames ∧ 8 + (maxL + 11) + rm.locals ≤ R.locals) (j : Nat) (isR : List Nat) (hj : ws[j]? = some (q, .inr (ci, fs))) (hR : isR.map (fun i => ws[i]?) = wr.map some) (hn : va_nd isR = true) (hdis : ∀ i ∈ isR, i ∉ [j]) (hst : st = As.reverse ++ .ref q :: rest) (hrest : (rest.map fun v => v.category).sum ≤ 8) (h1 : kc + rm.cells ≤ kc') (h2 : ks + rm.slots ≤ ks') (hrr : kc' ≤ R.cells ∧ ks' ≤ R.slots) (kk : ∀ w', post w' → GK x y A nL Z (pc + 3) lv rest (wr ++ w') kc' ks') : GK x y A nL Z pc lv st ws kc ks := by
  obtain ⟨p, l, e, R', s, m, args, below, meth, c, kc0, ks0⟩ := x
  obtain ⟨hx, hb, hml, hown, hts, hR0, hlk, hin2, hK, hO, hStr, hSit, hA⟩ := C
  intro H locs ls hP hD hS hl
  subst hR0
  have hC1 : [j].map (fun i => ws[i]?) = ([(q, .inr (ci, fs))] : va_W).map some := by rw [List.map_cons, hj]; rfl
  have hF := va_free (wc := [(q, .inr (ci, fs))]) hD hS hA [j] hC1
  have hP1 : va_P (yD y) vwCl [(q, .inr (ci, fs))] H := by
    intro k z hk
    have hz : k < 1 := (List.getElem?_eq_some_iff.mp hk).1
    rw [show k = 0 by omega] at hk
    cases hk
    exact hP j _ hj
  refine va_callv (va_runI (As := As) (rest := rest) ⟨hx, hb, hml, hown, hts⟩ (hM l H.size) (cwI As.length hts (gi_in (fun w hw => ?_)) rfl rfl rfl (hts _ hw3) (hts _ hw1) (hts _ hw2) hnm hdd hr) ⟨KS.blind, fun U hU hW => ⟨rfl, by rw [hU], by rw [hU]; exact hP1, va_K.moved hW.alike hK, Ovr.moved hW.alike hO, by rw [hU]; exact ((hStr.kept hS.2.1).moved hW.alike).narrow hF, hSit.warm hW⟩⟩ rfl rfl hl.1 hst (lv_room hrest) hd ⟨Nat.le_trans h1 hrr.1, Nat.le_trans h2 hrr.2⟩) hS (fun q _ h => hF q h) hF (fun w t H1 locs1 ht hvm hpost hB hz1 hk1 hS1 => ?_)
  · rcases List.mem_cons.mp hw with rfl | hw
    · exact hw4
    · exact hw
  · obtain ⟨hP2, hD2⟩ := hB
    rw [ht] at hP2
    obtain ⟨hP3, hD3⟩ := va_join (wr := wr) (w1 := w) hP hD [j] isR hC1 hR hn hdis hk1 hF hP2 hD2
    exact W.widen h1 h2 (kk w hpost H1 locs1 ls hP3 hD3 hS1 hl)
theorem k_callV (C : CK x y A own cc nL R bz) {T : u_T} {N : Nat} (hd : decode cc pc = .ok (.invokevirtual i, 3)) (hM : ∀ l sz, MN l y nm (Cond.code nm bytes maxL none :: TT) rm q As ci fs sz post) (hw1 : Cond.methodLink own i nm ∈ TT) (hw2 : Cond.instanceMethod nm ∈ TT) (hw5 : Cond.selects nm.cls nm nm ∈ TT) (hw3 : Cond.initialized nm.cls ∈ TT) (hw4 : Cond.code nm bytes maxL none ∈ TT) (hdd : nm.cls ≠ "java/lang/invoke/MethodHandle" ∧ nm.cls ≠ "java/lang/invoke/VarHandle" ∧ (parseMethodDescriptor nm.desc).map (fun d => d.parameters.length) = some As.length) (hr : rm.frames + 1 ≤ R.frames ∧ 8 + (maxL + 11) + rm.locals ≤ R.locals) (hc : vwCl[ci]? = some (nm.cls, T, N)) (j : Nat) (isR : List Nat) (hj : ws[j]? = some (q, .inr (ci, fs))) (hR : isR.map (fun i => ws[i]?) = wr.map some) (hn : va_nd isR = true) (hdis : ∀ i ∈ isR, i ∉ [j]) (hst : st = As.reverse ++ .ref q :: rest) (hrest : (rest.map fun v => v.category).sum ≤ 8) (h1 : kc + rm.cells ≤ kc') (h2 : ks + rm.slots ≤ ks') (hrr : kc' ≤ R.cells ∧ ks' ≤ R.slots) (kk : ∀ w', post w' → GK x y A nL Z (pc + 3) lv rest (wr ++ w') kc' ks') : GK x y A nL Z pc lv st ws kc ks := by
  obtain ⟨p, l, e, R', s, m, args, below, meth, c, kc0, ks0⟩ := x
  obtain ⟨hx, hb, hml, hown, hts, hR0, hlk, hin2, hK, hO, hStr, hSit, hA⟩ := C
  intro H locs ls hP hD hS hl
  subst hR0
  have hC1 : [j].map (fun i => ws[i]?) = ([(q, .inr (ci, fs))] : va_W).map some := by rw [List.map_cons, hj]; rfl
  have hF := va_free (wc := [(q, .inr (ci, fs))]) hD hS hA [j] hC1
  have hP1 : va_P (yD y) vwCl [(q, .inr (ci, fs))] H := by
    intro k z hk
    have hz : k < 1 := (List.getElem?_eq_some_iff.mp hk).1
    rw [show k = 0 by omega] at hk
    cases hk
    exact hP j _ hj
  refine va_callv (va_runV (As := As) (rest := rest) ⟨hx, hb, hml, hown, hts⟩ (hM l H.size) (cwV As.length hts (gi_in (fun w hw => ?_)) rfl rfl rfl ⟨rfl, hdd⟩ hr) ⟨KS.blind, va_recv (q := (nm.cls, T, N)) hK hP hc hj, fun U hU hW => ⟨rfl, by rw [hU], by rw [hU]; exact hP1, va_K.moved hW.alike hK, Ovr.moved hW.alike hO, by rw [hU]; exact ((hStr.kept hS.2.1).moved hW.alike).narrow hF, hSit.warm hW⟩⟩ rfl rfl hl.1 hst (lv_room hrest) hd ⟨Nat.le_trans h1 hrr.1, Nat.le_trans h2 hrr.2⟩) hS (fun q _ h => hF q h) hF (fun w t H1 locs1 ht hvm hpost hB hz1 hk1 hS1 => ?_)
  · simp only [wsV, List.mem_append, List.mem_cons, List.not_mem_nil, or_false] at hw
    rcases hw with (rfl | rfl | rfl | rfl) | rfl | hw
    · exact hw1
    · exact hw2
    · exact hw5
    · exact hw3
    · exact hw4
    · exact hw
  · obtain ⟨hP2, hD2⟩ := hB
    rw [ht] at hP2
    obtain ⟨hP3, hD3⟩ := va_join (wr := wr) (w1 := w) hP hD [j] isR hC1 hR hn hdis hk1 hF hP2 hD2
    exact W.widen h1 h2 (kk w hpost H1 locs1 ls hP3 hD3 hS1 hl)
end KCALL

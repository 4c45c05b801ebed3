/-! THE ROWS in the frame: an instruction, a row -/
def irm (x y : Int32) : Int32 := x - x / y * y
def ius (x y : Int32) : Int32 := (x.toUInt32 >>> (y.toUInt32 &&& Int32.toUInt32 31)).toInt32
def isl (x y : Int32) : Int32 := x <<< (y &&& 31)
def isr (x y : Int32) : Int32 := x >>> (y &&& 31)
def imin (x y : Int32) : Int32 := if y < x then y else x
def imax (x y : Int32) : Int32 := if x < y then y else x
def iabs (x : Int32) : Int32 := if 0 ≤ x then x else 0 - x
def ibyte (x : Int32) : Int32 := x.toInt8.toInt32
def ishort (x : Int32) : Int32 := x.toInt16.toInt32
abbrev nv (y : YT) (o : Option Nat) : Value := va_rf (o.map (yad y))
section ROWS
variable {x : XT} {y : YT} {A : Nat → Prop} {own : String} {cc : ByteArray} {nL : Nat} {R : Room} {Z : State → Prop} {pc : Nat} {lv lv' : List (Nat × Value)} {st : List Value} {σ : Sto}
theorem g_iload_n (C : Cx x y A own cc nL R) {k : Fin 4} {i : Nat} {v : Int32} (hd : decode cc pc = .ok (.iload_n k, 1)) (hi : (k : Nat) = i) (j : Nat) (hj : lv[j]? = some (i, .int v)) (kk : GW x y A nL Z (pc + 1) lv (.int v :: st) σ) : GW x y A nL Z pc lv st σ := by
  obtain ⟨p, l, e, R', s, m, args, below, meth, c, kc, ks⟩ := x
  obtain ⟨hx, hb, hml, hown, hts, hR, hkc, hks, hlk, hK, hY, hAd, hStr, hSit⟩ := C
  intro H locs ls hP hS hl
  exact lv_iload_n hx hb hd hi (lv_at hl j hj) (kk H locs ls hP hS hl)
theorem g_iload (C : Cx x y A own cc nL R) {i : Nat} {v : Int32} (hd : decode cc pc = .ok (.iload i, 2)) (j : Nat) (hj : lv[j]? = some (i, .int v)) (kk : GW x y A nL Z (pc + 2) lv (.int v :: st) σ) : GW x y A nL Z pc lv st σ := by
  obtain ⟨p, l, e, R', s, m, args, below, meth, c, kc, ks⟩ := x
  obtain ⟨hx, hb, hml, hown, hts, hR, hkc, hks, hlk, hK, hY, hAd, hStr, hSit⟩ := C
  intro H locs ls hP hS hl
  exact lv_iload hx hb hd (lv_at hl j hj) (kk H locs ls hP hS hl)
theorem g_lload_n (C : Cx x y A own cc nL R) {k : Fin 4} {i : Nat} {v : Int64} (hd : decode cc pc = .ok (.lload_n k, 1)) (hi : (k : Nat) = i) (j : Nat) (hj : lv[j]? = some (i, .long v)) (kk : GW x y A nL Z (pc + 1) lv (.long v :: st) σ) : GW x y A nL Z pc lv st σ := by
  obtain ⟨p, l, e, R', s, m, args, below, meth, c, kc, ks⟩ := x
  obtain ⟨hx, hb, hml, hown, hts, hR, hkc, hks, hlk, hK, hY, hAd, hStr, hSit⟩ := C
  intro H locs ls hP hS hl
  exact lv_lload_n hx hb hd hi (lv_at hl j hj) (kk H locs ls hP hS hl)
theorem g_lload (C : Cx x y A own cc nL R) {i : Nat} {v : Int64} (hd : decode cc pc = .ok (.lload i, 2)) (j : Nat) (hj : lv[j]? = some (i, .long v)) (kk : GW x y A nL Z (pc + 2) lv (.long v :: st) σ) : GW x y A nL Z pc lv st σ := by
  obtain ⟨p, l, e, R', s, m, args, below, meth, c, kc, ks⟩ := x
  obtain ⟨hx, hb, hml, hown, hts, hR, hkc, hks, hlk, hK, hY, hAd, hStr, hSit⟩ := C
  intro H locs ls hP hS hl
  exact lv_lload hx hb hd (lv_at hl j hj) (kk H locs ls hP hS hl)
theorem g_aload_n (C : Cx x y A own cc nL R) {k : Fin 4} {i : Nat} {v : Nat} (hd : decode cc pc = .ok (.aload_n k, 1)) (hi : (k : Nat) = i) (j : Nat) (hj : lv[j]? = some (i, .ref v)) (kk : GW x y A nL Z (pc + 1) lv (.ref v :: st) σ) : GW x y A nL Z pc lv st σ := by
  obtain ⟨p, l, e, R', s, m, args, below, meth, c, kc, ks⟩ := x
  obtain ⟨hx, hb, hml, hown, hts, hR, hkc, hks, hlk, hK, hY, hAd, hStr, hSit⟩ := C
  intro H locs ls hP hS hl
  exact lv_aload_n hx hb hd hi (lv_at hl j hj) (kk H locs ls hP hS hl)
theorem g_aload (C : Cx x y A own cc nL R) {i : Nat} {v : Nat} (hd : decode cc pc = .ok (.aload i, 2)) (j : Nat) (hj : lv[j]? = some (i, .ref v)) (kk : GW x y A nL Z (pc + 2) lv (.ref v :: st) σ) : GW x y A nL Z pc lv st σ := by
  obtain ⟨p, l, e, R', s, m, args, below, meth, c, kc, ks⟩ := x
  obtain ⟨hx, hb, hml, hown, hts, hR, hkc, hks, hlk, hK, hY, hAd, hStr, hSit⟩ := C
  intro H locs ls hP hS hl
  exact lv_aload hx hb hd (lv_at hl j hj) (kk H locs ls hP hS hl)
theorem g_naload_n (C : Cx x y A own cc nL R) {k : Fin 4} {i : Nat} {v : Option Nat} (hd : decode cc pc = .ok (.aload_n k, 1)) (hi : (k : Nat) = i) (j : Nat) (hj : lv[j]? = some (i, nv y v)) (kk : GW x y A nL Z (pc + 1) lv (nv y v :: st) σ) : GW x y A nL Z pc lv st σ := by
  obtain ⟨p, l, e, R', s, m, args, below, meth, c, kc, ks⟩ := x
  obtain ⟨hx, hb, hml, hown, hts, hR, hkc, hks, hlk, hK, hY, hAd, hStr, hSit⟩ := C
  intro H locs ls hP hS hl
  cases v with
  | none => exact lv_aload_nN hx hb hd hi (lv_at hl j hj) (kk H locs ls hP hS hl)
  | some v => exact lv_aload_n hx hb hd hi (lv_at hl j hj) (kk H locs ls hP hS hl)
theorem g_naload (C : Cx x y A own cc nL R) {i : Nat} {v : Option Nat} (hd : decode cc pc = .ok (.aload i, 2)) (j : Nat) (hj : lv[j]? = some (i, nv y v)) (kk : GW x y A nL Z (pc + 2) lv (nv y v :: st) σ) : GW x y A nL Z pc lv st σ := by
  obtain ⟨p, l, e, R', s, m, args, below, meth, c, kc, ks⟩ := x
  obtain ⟨hx, hb, hml, hown, hts, hR, hkc, hks, hlk, hK, hY, hAd, hStr, hSit⟩ := C
  intro H locs ls hP hS hl
  cases v with
  | none => exact lv_aloadN hx hb hd (lv_at hl j hj) (kk H locs ls hP hS hl)
  | some v => exact lv_aload hx hb hd (lv_at hl j hj) (kk H locs ls hP hS hl)
theorem g_istore_n (C : Cx x y A own cc nL R) {k : Fin 4} {i : Nat} {v : Int32} (hd : decode cc pc = .ok (.istore_n k, 1)) (hi : (k : Nat) = i) (hn : i < nL) (hl0 : (i, Value.int v) :: lv.filter (fun q => !(q.1 == i) && !(q.1 + 1 == i && q.2.category == 2)) = lv') (kk : GW x y A nL Z (pc + 1) lv' st σ) : GW x y A nL Z pc lv (.int v :: st) σ := by
  obtain ⟨p, l, e, R', s, m, args, below, meth, c, kc, ks⟩ := x
  obtain ⟨hx, hb, hml, hown, hts, hR, hkc, hks, hlk, hK, hY, hAd, hStr, hSit⟩ := C
  intro H locs ls hP hS hl
  exact lv_istore_n hx hb hd hi hl hn hl0 (fun ls' hl' => kk H locs ls' hP hS hl')
theorem g_lstore_n (C : Cx x y A own cc nL R) {k : Fin 4} {i : Nat} {v : Int64} (hd : decode cc pc = .ok (.lstore_n k, 1)) (hi : (k : Nat) = i) (hn : i + 1 < nL) (hl0 : (i, Value.long v) :: lv.filter (fun q => !(q.1 == i) && (!(q.1 == i + 1) && !(q.1 + 1 == i && q.2.category == 2))) = lv') (kk : GW x y A nL Z (pc + 1) lv' st σ) : GW x y A nL Z pc lv (.long v :: st) σ := by
  obtain ⟨p, l, e, R', s, m, args, below, meth, c, kc, ks⟩ := x
  obtain ⟨hx, hb, hml, hown, hts, hR, hkc, hks, hlk, hK, hY, hAd, hStr, hSit⟩ := C
  intro H locs ls hP hS hl
  exact lv_lstore_n hx hb hd hi hl hn hl0 (fun ls' hl' => kk H locs ls' hP hS hl')
theorem g_astore_n (C : Cx x y A own cc nL R) {k : Fin 4} {i : Nat} {v : Nat} (hd : decode cc pc = .ok (.astore_n k, 1)) (hi : (k : Nat) = i) (hn : i < nL) (hl0 : (i, Value.ref v) :: lv.filter (fun q => !(q.1 == i) && !(q.1 + 1 == i && q.2.category == 2)) = lv') (kk : GW x y A nL Z (pc + 1) lv' st σ) : GW x y A nL Z pc lv (.ref v :: st) σ := by
  obtain ⟨p, l, e, R', s, m, args, below, meth, c, kc, ks⟩ := x
  obtain ⟨hx, hb, hml, hown, hts, hR, hkc, hks, hlk, hK, hY, hAd, hStr, hSit⟩ := C
  intro H locs ls hP hS hl
  exact lv_astore_n hx hb hd hi hl hn hl0 (fun ls' hl' => kk H locs ls' hP hS hl')
theorem g_nastore_n (C : Cx x y A own cc nL R) {k : Fin 4} {i : Nat} {v : Option Nat} (hd : decode cc pc = .ok (.astore_n k, 1)) (hi : (k : Nat) = i) (hn : i < nL) (hl0 : (i, nv y v) :: lv.filter (fun q => !(q.1 == i) && !(q.1 + 1 == i && q.2.category == 2)) = lv') (kk : GW x y A nL Z (pc + 1) lv' st σ) : GW x y A nL Z pc lv (nv y v :: st) σ := by
  obtain ⟨p, l, e, R', s, m, args, below, meth, c, kc, ks⟩ := x
  obtain ⟨hx, hb, hml, hown, hts, hR, hkc, hks, hlk, hK, hY, hAd, hStr, hSit⟩ := C
  intro H locs ls hP hS hl
  cases v with
  | none => exact lv_astore_nN hx hb hd hi hl hn hl0 (fun ls' hl' => kk H locs ls' hP hS hl')
  | some v => exact lv_astore_n hx hb hd hi hl hn hl0 (fun ls' hl' => kk H locs ls' hP hS hl')
theorem g_istore (C : Cx x y A own cc nL R) {i : Nat} {v : Int32} (hd : decode cc pc = .ok (.istore i, 2)) (hn : i < nL) (hl0 : (i, Value.int v) :: lv.filter (fun q => !(q.1 == i) && !(q.1 + 1 == i && q.2.category == 2)) = lv') (kk : GW x y A nL Z (pc + 2) lv' st σ) : GW x y A nL Z pc lv (.int v :: st) σ := by
  obtain ⟨p, l, e, R', s, m, args, below, meth, c, kc, ks⟩ := x
  obtain ⟨hx, hb, hml, hown, hts, hR, hkc, hks, hlk, hK, hY, hAd, hStr, hSit⟩ := C
  intro H locs ls hP hS hl
  exact lv_istore hx hb hd hl hn hl0 (fun ls' hl' => kk H locs ls' hP hS hl')
theorem g_lstore (C : Cx x y A own cc nL R) {i : Nat} {v : Int64} (hd : decode cc pc = .ok (.lstore i, 2)) (hn : i + 1 < nL) (hl0 : (i, Value.long v) :: lv.filter (fun q => !(q.1 == i) && (!(q.1 == i + 1) && !(q.1 + 1 == i && q.2.category == 2))) = lv') (kk : GW x y A nL Z (pc + 2) lv' st σ) : GW x y A nL Z pc lv (.long v :: st) σ := by
  obtain ⟨p, l, e, R', s, m, args, below, meth, c, kc, ks⟩ := x
  obtain ⟨hx, hb, hml, hown, hts, hR, hkc, hks, hlk, hK, hY, hAd, hStr, hSit⟩ := C
  intro H locs ls hP hS hl
  exact lv_lstore hx hb hd hl hn hl0 (fun ls' hl' => kk H locs ls' hP hS hl')
theorem g_astore (C : Cx x y A own cc nL R) {i : Nat} {v : Nat} (hd : decode cc pc = .ok (.astore i, 2)) (hn : i < nL) (hl0 : (i, Value.ref v) :: lv.filter (fun q => !(q.1 == i) && !(q.1 + 1 == i && q.2.category == 2)) = lv') (kk : GW x y A nL Z (pc + 2) lv' st σ) : GW x y A nL Z pc lv (.ref v :: st) σ := by
  obtain ⟨p, l, e, R', s, m, args, below, meth, c, kc, ks⟩ := x
  obtain ⟨hx, hb, hml, hown, hts, hR, hkc, hks, hlk, hK, hY, hAd, hStr, hSit⟩ := C
  intro H locs ls hP hS hl
  exact lv_astore hx hb hd hl hn hl0 (fun ls' hl' => kk H locs ls' hP hS hl')
theorem g_nastore (C : Cx x y A own cc nL R) {i : Nat} {v : Option Nat} (hd : decode cc pc = .ok (.astore i, 2)) (hn : i < nL) (hl0 : (i, nv y v) :: lv.filter (fun q => !(q.1 == i) && !(q.1 + 1 == i && q.2.category == 2)) = lv') (kk : GW x y A nL Z (pc + 2) lv' st σ) : GW x y A nL Z pc lv (nv y v :: st) σ := by
  obtain ⟨p, l, e, R', s, m, args, below, meth, c, kc, ks⟩ := x
  obtain ⟨hx, hb, hml, hown, hts, hR, hkc, hks, hlk, hK, hY, hAd, hStr, hSit⟩ := C
  intro H locs ls hP hS hl
  cases v with
  | none => exact lv_astoreN hx hb hd hl hn hl0 (fun ls' hl' => kk H locs ls' hP hS hl')
  | some v => exact lv_astore hx hb hd hl hn hl0 (fun ls' hl' => kk H locs ls' hP hS hl')
theorem g_iinc (C : Cx x y A own cc nL R) {i k : Nat} {n : Int} {v w : Int32} (hd : decode cc pc = .ok (.iinc i n, 3)) (hk : lv[k]? = some (i, .int v)) (hv : v + Int32.ofInt n = w) (hn : i < nL) (hl0 : (i, Value.int w) :: lv.filter (fun q => !(q.1 == i) && !(q.1 + 1 == i && q.2.category == 2)) = lv') (kk : GW x y A nL Z (pc + 3) lv' st σ) : GW x y A nL Z pc lv st σ := by
  obtain ⟨p, l, e, R', s, m, args, below, meth, c, kc, ks⟩ := x
  obtain ⟨hx, hb, hml, hown, hts, hR, hkc, hks, hlk, hK, hY, hAd, hStr, hSit⟩ := C
  intro H locs ls hP hS hl
  exact lv_iinc hx hb hd hl hk hv hn hl0 (fun ls' hl' => kk H locs ls' hP hS hl')
theorem g_iconst (C : Cx x y A own cc nL R) {n : Int} {v : Int32} (hd : decode cc pc = .ok (.iconst n, 1)) (hv : Int32.ofInt n = v) (kk : GW x y A nL Z (pc + 1) lv (.int v :: st) σ) : GW x y A nL Z pc lv st σ := by
  obtain ⟨p, l, e, R', s, m, args, below, meth, c, kc, ks⟩ := x
  obtain ⟨hx, hb, hml, hown, hts, hR, hkc, hks, hlk, hK, hY, hAd, hStr, hSit⟩ := C
  intro H locs ls hP hS hl
  exact lv_iconst hx hb hd hv (kk H locs ls hP hS hl)
theorem g_bipush (C : Cx x y A own cc nL R) {n : Int} {v : Int32} (hd : decode cc pc = .ok (.bipush n, 2)) (hv : (Int8.ofInt n).toInt32 = v) (kk : GW x y A nL Z (pc + 2) lv (.int v :: st) σ) : GW x y A nL Z pc lv st σ := by
  obtain ⟨p, l, e, R', s, m, args, below, meth, c, kc, ks⟩ := x
  obtain ⟨hx, hb, hml, hown, hts, hR, hkc, hks, hlk, hK, hY, hAd, hStr, hSit⟩ := C
  intro H locs ls hP hS hl
  exact lv_bipush hx hb hd hv (kk H locs ls hP hS hl)
theorem g_sipush (C : Cx x y A own cc nL R) {n : Int} {v : Int32} (hd : decode cc pc = .ok (.sipush n, 3)) (hv : (Int16.ofInt n).toInt32 = v) (kk : GW x y A nL Z (pc + 3) lv (.int v :: st) σ) : GW x y A nL Z pc lv st σ := by
  obtain ⟨p, l, e, R', s, m, args, below, meth, c, kc, ks⟩ := x
  obtain ⟨hx, hb, hml, hown, hts, hR, hkc, hks, hlk, hK, hY, hAd, hStr, hSit⟩ := C
  intro H locs ls hP hS hl
  exact lv_sipush hx hb hd hv (kk H locs ls hP hS hl)
theorem g_lconst (C : Cx x y A own cc nL R) {n : Fin 2} {v : Int64} (hd : decode cc pc = .ok (.lconst n, 1)) (hv : Int64.ofNat (n : Nat) = v) (kk : GW x y A nL Z (pc + 1) lv (.long v :: st) σ) : GW x y A nL Z pc lv st σ := by
  obtain ⟨p, l, e, R', s, m, args, below, meth, c, kc, ks⟩ := x
  obtain ⟨hx, hb, hml, hown, hts, hR, hkc, hks, hlk, hK, hY, hAd, hStr, hSit⟩ := C
  intro H locs ls hP hS hl
  exact lv_lconst hx hb hd hv (kk H locs ls hP hS hl)
theorem g_ldc (C : Cx x y A own cc nL R) {i : Nat} {v : Int32} (hd : decode cc pc = .ok (.ldc i, 2)) (hw : Cond.constant own i v ∈ TT) (kk : GW x y A nL Z (pc + 2) lv (.int v :: st) σ) : GW x y A nL Z pc lv st σ := by
  obtain ⟨p, l, e, R', s, m, args, below, meth, c, kc, ks⟩ := x
  obtain ⟨hx, hb, hml, hown, hts, hR, hkc, hks, hlk, hK, hY, hAd, hStr, hSit⟩ := C
  intro H locs ls hP hS hl
  exact lv_ldc hx hb hown (hts _ hw) hd (kk H locs ls hP hS hl)
theorem g_ldcw (C : Cx x y A own cc nL R) {i : Nat} {v : Int32} (hd : decode cc pc = .ok (.ldc_w i, 3)) (hw : Cond.constant own i v ∈ TT) (kk : GW x y A nL Z (pc + 3) lv (.int v :: st) σ) : GW x y A nL Z pc lv st σ := by
  obtain ⟨p, l, e, R', s, m, args, below, meth, c, kc, ks⟩ := x
  obtain ⟨hx, hb, hml, hown, hts, hR, hkc, hks, hlk, hK, hY, hAd, hStr, hSit⟩ := C
  intro H locs ls hP hS hl
  exact lv_ldcw hx hb hown (hts _ hw) hd (kk H locs ls hP hS hl)
theorem g_null (C : Cx x y A own cc nL R) (hd : decode cc pc = .ok (.aconst_null, 1)) (kk : GW x y A nL Z (pc + 1) lv (nv y none :: st) σ) : GW x y A nL Z pc lv st σ := by
  obtain ⟨p, l, e, R', s, m, args, below, meth, c, kc, ks⟩ := x
  obtain ⟨hx, hb, hml, hown, hts, hR, hkc, hks, hlk, hK, hY, hAd, hStr, hSit⟩ := C
  intro H locs ls hP hS hl
  exact lv_null hx hb hd (kk H locs ls hP hS hl)
theorem g_ldcs (C : Cx x y A own cc nL R) {i k : Nat} {tx : String} (hd : decode cc pc = .ok (.ldc i, 2)) (hw : (own, i, tx, k) ∈ sitesJ) (kk : GW x y A nL Z (pc + 2) lv (.ref (yad y (100 + k)) :: st) σ) : GW x y A nL Z pc lv st σ := by
  obtain ⟨p, l, e, R', s, m, args, below, meth, c, kc, ks⟩ := x
  obtain ⟨hx, hb, hml, hown, hts, hR, hkc, hks, hlk, hK, hY, hAd, hStr, hSit⟩ := C
  intro H locs ls hP hS hl
  exact va_ldcS hx hb hown (hSit _ hw) hd (kk H locs ls hP hS hl)
theorem g_iadd (C : Cx x y A own cc nL R) {u v : Int32} (hd : decode cc pc = .ok (.iadd, 1)) (kk : GW x y A nL Z (pc + 1) lv (.int (u + v) :: st) σ) : GW x y A nL Z pc lv (.int v :: .int u :: st) σ := by
  obtain ⟨p, l, e, R', s, m, args, below, meth, c, kc, ks⟩ := x
  obtain ⟨hx, hb, hml, hown, hts, hR, hkc, hks, hlk, hK, hY, hAd, hStr, hSit⟩ := C
  intro H locs ls hP hS hl
  exact lv_iadd hx hb hd (kk H locs ls hP hS hl)
theorem g_isub (C : Cx x y A own cc nL R) {u v : Int32} (hd : decode cc pc = .ok (.isub, 1)) (kk : GW x y A nL Z (pc + 1) lv (.int (u - v) :: st) σ) : GW x y A nL Z pc lv (.int v :: .int u :: st) σ := by
  obtain ⟨p, l, e, R', s, m, args, below, meth, c, kc, ks⟩ := x
  obtain ⟨hx, hb, hml, hown, hts, hR, hkc, hks, hlk, hK, hY, hAd, hStr, hSit⟩ := C
  intro H locs ls hP hS hl
  exact lv_isub hx hb hd (kk H locs ls hP hS hl)
theorem g_imul (C : Cx x y A own cc nL R) {u v : Int32} (hd : decode cc pc = .ok (.imul, 1)) (kk : GW x y A nL Z (pc + 1) lv (.int (u * v) :: st) σ) : GW x y A nL Z pc lv (.int v :: .int u :: st) σ := by
  obtain ⟨p, l, e, R', s, m, args, below, meth, c, kc, ks⟩ := x
  obtain ⟨hx, hb, hml, hown, hts, hR, hkc, hks, hlk, hK, hY, hAd, hStr, hSit⟩ := C
  intro H locs ls hP hS hl
  exact lv_imul hx hb hd (kk H locs ls hP hS hl)
theorem g_iand (C : Cx x y A own cc nL R) {u v : Int32} (hd : decode cc pc = .ok (.iand, 1)) (kk : GW x y A nL Z (pc + 1) lv (.int (u &&& v) :: st) σ) : GW x y A nL Z pc lv (.int v :: .int u :: st) σ := by
  obtain ⟨p, l, e, R', s, m, args, below, meth, c, kc, ks⟩ := x
  obtain ⟨hx, hb, hml, hown, hts, hR, hkc, hks, hlk, hK, hY, hAd, hStr, hSit⟩ := C
  intro H locs ls hP hS hl
  exact lv_iand hx hb hd (kk H locs ls hP hS hl)
theorem g_ior (C : Cx x y A own cc nL R) {u v : Int32} (hd : decode cc pc = .ok (.ior, 1)) (kk : GW x y A nL Z (pc + 1) lv (.int (u ||| v) :: st) σ) : GW x y A nL Z pc lv (.int v :: .int u :: st) σ := by
  obtain ⟨p, l, e, R', s, m, args, below, meth, c, kc, ks⟩ := x
  obtain ⟨hx, hb, hml, hown, hts, hR, hkc, hks, hlk, hK, hY, hAd, hStr, hSit⟩ := C
  intro H locs ls hP hS hl
  exact lv_ior hx hb hd (kk H locs ls hP hS hl)
theorem g_ixor (C : Cx x y A own cc nL R) {u v : Int32} (hd : decode cc pc = .ok (.ixor, 1)) (kk : GW x y A nL Z (pc + 1) lv (.int (u ^^^ v) :: st) σ) : GW x y A nL Z pc lv (.int v :: .int u :: st) σ := by
  obtain ⟨p, l, e, R', s, m, args, below, meth, c, kc, ks⟩ := x
  obtain ⟨hx, hb, hml, hown, hts, hR, hkc, hks, hlk, hK, hY, hAd, hStr, hSit⟩ := C
  intro H locs ls hP hS hl
  exact lv_ixor hx hb hd (kk H locs ls hP hS hl)
theorem g_ishl (C : Cx x y A own cc nL R) {u v : Int32} (hd : decode cc pc = .ok (.ishl, 1)) (kk : GW x y A nL Z (pc + 1) lv (.int (isl u v) :: st) σ) : GW x y A nL Z pc lv (.int v :: .int u :: st) σ := by
  obtain ⟨p, l, e, R', s, m, args, below, meth, c, kc, ks⟩ := x
  obtain ⟨hx, hb, hml, hown, hts, hR, hkc, hks, hlk, hK, hY, hAd, hStr, hSit⟩ := C
  intro H locs ls hP hS hl
  exact lv_ishl hx hb hd (kk H locs ls hP hS hl)
theorem g_ishr (C : Cx x y A own cc nL R) {u v : Int32} (hd : decode cc pc = .ok (.ishr, 1)) (kk : GW x y A nL Z (pc + 1) lv (.int (isr u v) :: st) σ) : GW x y A nL Z pc lv (.int v :: .int u :: st) σ := by
  obtain ⟨p, l, e, R', s, m, args, below, meth, c, kc, ks⟩ := x
  obtain ⟨hx, hb, hml, hown, hts, hR, hkc, hks, hlk, hK, hY, hAd, hStr, hSit⟩ := C
  intro H locs ls hP hS hl
  exact lv_ishr hx hb hd (kk H locs ls hP hS hl)
theorem g_iushr (C : Cx x y A own cc nL R) {u v : Int32} (hd : decode cc pc = .ok (.iushr, 1)) (kk : GW x y A nL Z (pc + 1) lv (.int (ius u v) :: st) σ) : GW x y A nL Z pc lv (.int v :: .int u :: st) σ := by
  obtain ⟨p, l, e, R', s, m, args, below, meth, c, kc, ks⟩ := x
  obtain ⟨hx, hb, hml, hown, hts, hR, hkc, hks, hlk, hK, hY, hAd, hStr, hSit⟩ := C
  intro H locs ls hP hS hl
  exact lv_iushr hx hb hd rfl (kk H locs ls hP hS hl)
theorem g_idiv (C : Cx x y A own cc nL R) {u v : Int32} (hd : decode cc pc = .ok (.idiv, 1)) (hne : ¬ v = 0) (kk : GW x y A nL Z (pc + 1) lv (.int (u / v) :: st) σ) : GW x y A nL Z pc lv (.int v :: .int u :: st) σ := by
  obtain ⟨p, l, e, R', s, m, args, below, meth, c, kc, ks⟩ := x
  obtain ⟨hx, hb, hml, hown, hts, hR, hkc, hks, hlk, hK, hY, hAd, hStr, hSit⟩ := C
  intro H locs ls hP hS hl
  exact lv_idiv hx hb hd hne (kk H locs ls hP hS hl)
theorem g_irem (C : Cx x y A own cc nL R) {u v : Int32} (hd : decode cc pc = .ok (.irem, 1)) (hne : ¬ v = 0) (kk : GW x y A nL Z (pc + 1) lv (.int (irm u v) :: st) σ) : GW x y A nL Z pc lv (.int v :: .int u :: st) σ := by
  obtain ⟨p, l, e, R', s, m, args, below, meth, c, kc, ks⟩ := x
  obtain ⟨hx, hb, hml, hown, hts, hR, hkc, hks, hlk, hK, hY, hAd, hStr, hSit⟩ := C
  intro H locs ls hP hS hl
  exact lv_irem hx hb hd hne (kk H locs ls hP hS hl)
theorem g_ineg (C : Cx x y A own cc nL R) {u : Int32} (hd : decode cc pc = .ok (.ineg, 1)) (kk : GW x y A nL Z (pc + 1) lv (.int (-u) :: st) σ) : GW x y A nL Z pc lv (.int u :: st) σ := by
  obtain ⟨p, l, e, R', s, m, args, below, meth, c, kc, ks⟩ := x
  obtain ⟨hx, hb, hml, hown, hts, hR, hkc, hks, hlk, hK, hY, hAd, hStr, hSit⟩ := C
  intro H locs ls hP hS hl
  exact lv_ineg hx hb hd (kk H locs ls hP hS hl)
theorem g_i2b (C : Cx x y A own cc nL R) {u : Int32} (hd : decode cc pc = .ok (.i2b, 1)) (kk : GW x y A nL Z (pc + 1) lv (.int (ibyte u) :: st) σ) : GW x y A nL Z pc lv (.int u :: st) σ := by
  obtain ⟨p, l, e, R', s, m, args, below, meth, c, kc, ks⟩ := x
  obtain ⟨hx, hb, hml, hown, hts, hR, hkc, hks, hlk, hK, hY, hAd, hStr, hSit⟩ := C
  intro H locs ls hP hS hl
  exact lv_i2b hx hb hd rfl (kk H locs ls hP hS hl)
theorem g_i2s (C : Cx x y A own cc nL R) {u : Int32} (hd : decode cc pc = .ok (.i2s, 1)) (kk : GW x y A nL Z (pc + 1) lv (.int (ishort u) :: st) σ) : GW x y A nL Z pc lv (.int u :: st) σ := by
  obtain ⟨p, l, e, R', s, m, args, below, meth, c, kc, ks⟩ := x
  obtain ⟨hx, hb, hml, hown, hts, hR, hkc, hks, hlk, hK, hY, hAd, hStr, hSit⟩ := C
  intro H locs ls hP hS hl
  exact lv_i2s hx hb hd rfl (kk H locs ls hP hS hl)
theorem g_i2l (C : Cx x y A own cc nL R) {u : Int32} (hd : decode cc pc = .ok (.i2l, 1)) (kk : GW x y A nL Z (pc + 1) lv (.long u.toInt64 :: st) σ) : GW x y A nL Z pc lv (.int u :: st) σ := by
  obtain ⟨p, l, e, R', s, m, args, below, meth, c, kc, ks⟩ := x
  obtain ⟨hx, hb, hml, hown, hts, hR, hkc, hks, hlk, hK, hY, hAd, hStr, hSit⟩ := C
  intro H locs ls hP hS hl
  exact lv_i2l hx hb hd rfl (kk H locs ls hP hS hl)
theorem g_ladd (C : Cx x y A own cc nL R) {u v : Int64} (hd : decode cc pc = .ok (.ladd, 1)) (kk : GW x y A nL Z (pc + 1) lv (.long (u + v) :: st) σ) : GW x y A nL Z pc lv (.long v :: .long u :: st) σ := by
  obtain ⟨p, l, e, R', s, m, args, below, meth, c, kc, ks⟩ := x
  obtain ⟨hx, hb, hml, hown, hts, hR, hkc, hks, hlk, hK, hY, hAd, hStr, hSit⟩ := C
  intro H locs ls hP hS hl
  exact lv_ladd hx hb hd (kk H locs ls hP hS hl)
theorem g_lmul (C : Cx x y A own cc nL R) {u v : Int64} (hd : decode cc pc = .ok (.lmul, 1)) (kk : GW x y A nL Z (pc + 1) lv (.long (u * v) :: st) σ) : GW x y A nL Z pc lv (.long v :: .long u :: st) σ := by
  obtain ⟨p, l, e, R', s, m, args, below, meth, c, kc, ks⟩ := x
  obtain ⟨hx, hb, hml, hown, hts, hR, hkc, hks, hlk, hK, hY, hAd, hStr, hSit⟩ := C
  intro H locs ls hP hS hl
  exact lv_lmul hx hb hd (kk H locs ls hP hS hl)
theorem g_lcmp (C : Cx x y A own cc nL R) {u v : Int64} (hd : decode cc pc = .ok (.lcmp, 1)) (kk : GW x y A nL Z (pc + 1) lv (.int (lg_cmp u v) :: st) σ) : GW x y A nL Z pc lv (.long v :: .long u :: st) σ := by
  obtain ⟨p, l, e, R', s, m, args, below, meth, c, kc, ks⟩ := x
  obtain ⟨hx, hb, hml, hown, hts, hR, hkc, hks, hlk, hK, hY, hAd, hStr, hSit⟩ := C
  intro H locs ls hP hS hl
  exact W.lcmp hx hb hd (kk H locs ls hP hS hl)
theorem g_dup (C : Cx x y A own cc nL R) {va : Value} (hd : decode cc pc = .ok (.dup, 1)) (hva : va.category = 1) (kk : GW x y A nL Z (pc + 1) lv (va :: va :: st) σ) : GW x y A nL Z pc lv (va :: st) σ := by
  obtain ⟨p, l, e, R', s, m, args, below, meth, c, kc, ks⟩ := x
  obtain ⟨hx, hb, hml, hown, hts, hR, hkc, hks, hlk, hK, hY, hAd, hStr, hSit⟩ := C
  intro H locs ls hP hS hl
  exact lv_dup hx hb hd hva (kk H locs ls hP hS hl)
theorem g_dup2 (C : Cx x y A own cc nL R) {va vb : Value} (hd : decode cc pc = .ok (.dup2, 1)) (hva : va.category = 1) (hvb : vb.category = 1) (kk : GW x y A nL Z (pc + 1) lv (va :: vb :: va :: vb :: st) σ) : GW x y A nL Z pc lv (va :: vb :: st) σ := by
  obtain ⟨p, l, e, R', s, m, args, below, meth, c, kc, ks⟩ := x
  obtain ⟨hx, hb, hml, hown, hts, hR, hkc, hks, hlk, hK, hY, hAd, hStr, hSit⟩ := C
  intro H locs ls hP hS hl
  exact lv_dup2_11 hx hb hd hva hvb (kk H locs ls hP hS hl)
theorem g_pop (C : Cx x y A own cc nL R) {va : Value} (hd : decode cc pc = .ok (.pop, 1)) (hva : va.category = 1) (kk : GW x y A nL Z (pc + 1) lv st σ) : GW x y A nL Z pc lv (va :: st) σ := by
  obtain ⟨p, l, e, R', s, m, args, below, meth, c, kc, ks⟩ := x
  obtain ⟨hx, hb, hml, hown, hts, hR, hkc, hks, hlk, hK, hY, hAd, hStr, hSit⟩ := C
  intro H locs ls hP hS hl
  exact lv_pop hx hb hd hva (kk H locs ls hP hS hl)
theorem g_if_eq (C : Cx x y A own cc nL R) {u : Int32} {off : Int} {tgt : Nat} (hd : decode cc pc = .ok (.ifCond .eq off, 3)) (ht : (pc : Int) + off = (tgt : Int)) (kt : u = 0 → GW x y A nL Z tgt lv st σ) (kf : ¬ u = 0 → GW x y A nL Z (pc + 3) lv st σ) : GW x y A nL Z pc lv (.int u :: st) σ := by
  obtain ⟨p, l, e, R', s, m, args, below, meth, c, kc, ks⟩ := x
  obtain ⟨hx, hb, hml, hown, hts, hR, hkc, hks, hlk, hK, hY, hAd, hStr, hSit⟩ := C
  intro H locs ls hP hS hl
  exact lv_if_eq hx hb hd ht (fun q => kt q H locs ls hP hS hl) (fun q => kf q H locs ls hP hS hl)
theorem g_icmp_eq (C : Cx x y A own cc nL R) {u v : Int32} {off : Int} {tgt : Nat} (hd : decode cc pc = .ok (.if_icmp .eq off, 3)) (ht : (pc : Int) + off = (tgt : Int)) (kt : u = v → GW x y A nL Z tgt lv st σ) (kf : ¬ u = v → GW x y A nL Z (pc + 3) lv st σ) : GW x y A nL Z pc lv (.int v :: .int u :: st) σ := by
  obtain ⟨p, l, e, R', s, m, args, below, meth, c, kc, ks⟩ := x
  obtain ⟨hx, hb, hml, hown, hts, hR, hkc, hks, hlk, hK, hY, hAd, hStr, hSit⟩ := C
  intro H locs ls hP hS hl
  exact lv_icmp_eq hx hb hd ht (fun q => kt q H locs ls hP hS hl) (fun q => kf q H locs ls hP hS hl)
theorem g_if_ne (C : Cx x y A own cc nL R) {u : Int32} {off : Int} {tgt : Nat} (hd : decode cc pc = .ok (.ifCond .ne off, 3)) (ht : (pc : Int) + off = (tgt : Int)) (kt : ¬ u = 0 → GW x y A nL Z tgt lv st σ) (kf : u = 0 → GW x y A nL Z (pc + 3) lv st σ) : GW x y A nL Z pc lv (.int u :: st) σ := by
  obtain ⟨p, l, e, R', s, m, args, below, meth, c, kc, ks⟩ := x
  obtain ⟨hx, hb, hml, hown, hts, hR, hkc, hks, hlk, hK, hY, hAd, hStr, hSit⟩ := C
  intro H locs ls hP hS hl
  exact lv_if_ne hx hb hd ht (fun q => kt q H locs ls hP hS hl) (fun q => kf q H locs ls hP hS hl)
theorem g_icmp_ne (C : Cx x y A own cc nL R) {u v : Int32} {off : Int} {tgt : Nat} (hd : decode cc pc = .ok (.if_icmp .ne off, 3)) (ht : (pc : Int) + off = (tgt : Int)) (kt : ¬ u = v → GW x y A nL Z tgt lv st σ) (kf : u = v → GW x y A nL Z (pc + 3) lv st σ) : GW x y A nL Z pc lv (.int v :: .int u :: st) σ := by
  obtain ⟨p, l, e, R', s, m, args, below, meth, c, kc, ks⟩ := x
  obtain ⟨hx, hb, hml, hown, hts, hR, hkc, hks, hlk, hK, hY, hAd, hStr, hSit⟩ := C
  intro H locs ls hP hS hl
  exact lv_icmp_ne hx hb hd ht (fun q => kt q H locs ls hP hS hl) (fun q => kf q H locs ls hP hS hl)
theorem g_if_lt (C : Cx x y A own cc nL R) {u : Int32} {off : Int} {tgt : Nat} (hd : decode cc pc = .ok (.ifCond .lt off, 3)) (ht : (pc : Int) + off = (tgt : Int)) (kt : u < 0 → GW x y A nL Z tgt lv st σ) (kf : ¬ u < 0 → GW x y A nL Z (pc + 3) lv st σ) : GW x y A nL Z pc lv (.int u :: st) σ := by
  obtain ⟨p, l, e, R', s, m, args, below, meth, c, kc, ks⟩ := x
  obtain ⟨hx, hb, hml, hown, hts, hR, hkc, hks, hlk, hK, hY, hAd, hStr, hSit⟩ := C
  intro H locs ls hP hS hl
  exact lv_if_lt hx hb hd ht (fun q => kt q H locs ls hP hS hl) (fun q => kf q H locs ls hP hS hl)
theorem g_icmp_lt (C : Cx x y A own cc nL R) {u v : Int32} {off : Int} {tgt : Nat} (hd : decode cc pc = .ok (.if_icmp .lt off, 3)) (ht : (pc : Int) + off = (tgt : Int)) (kt : u < v → GW x y A nL Z tgt lv st σ) (kf : ¬ u < v → GW x y A nL Z (pc + 3) lv st σ) : GW x y A nL Z pc lv (.int v :: .int u :: st) σ := by
  obtain ⟨p, l, e, R', s, m, args, below, meth, c, kc, ks⟩ := x
  obtain ⟨hx, hb, hml, hown, hts, hR, hkc, hks, hlk, hK, hY, hAd, hStr, hSit⟩ := C
  intro H locs ls hP hS hl
  exact lv_icmp_lt hx hb hd ht (fun q => kt q H locs ls hP hS hl) (fun q => kf q H locs ls hP hS hl)
theorem g_if_ge (C : Cx x y A own cc nL R) {u : Int32} {off : Int} {tgt : Nat} (hd : decode cc pc = .ok (.ifCond .ge off, 3)) (ht : (pc : Int) + off = (tgt : Int)) (kt : 0 ≤ u → GW x y A nL Z tgt lv st σ) (kf : ¬ 0 ≤ u → GW x y A nL Z (pc + 3) lv st σ) : GW x y A nL Z pc lv (.int u :: st) σ := by
  obtain ⟨p, l, e, R', s, m, args, below, meth, c, kc, ks⟩ := x
  obtain ⟨hx, hb, hml, hown, hts, hR, hkc, hks, hlk, hK, hY, hAd, hStr, hSit⟩ := C
  intro H locs ls hP hS hl
  exact lv_if_ge hx hb hd ht (fun q => kt q H locs ls hP hS hl) (fun q => kf q H locs ls hP hS hl)
theorem g_icmp_ge (C : Cx x y A own cc nL R) {u v : Int32} {off : Int} {tgt : Nat} (hd : decode cc pc = .ok (.if_icmp .ge off, 3)) (ht : (pc : Int) + off = (tgt : Int)) (kt : v ≤ u → GW x y A nL Z tgt lv st σ) (kf : ¬ v ≤ u → GW x y A nL Z (pc + 3) lv st σ) : GW x y A nL Z pc lv (.int v :: .int u :: st) σ := by
  obtain ⟨p, l, e, R', s, m, args, below, meth, c, kc, ks⟩ := x
  obtain ⟨hx, hb, hml, hown, hts, hR, hkc, hks, hlk, hK, hY, hAd, hStr, hSit⟩ := C
  intro H locs ls hP hS hl
  exact lv_icmp_ge hx hb hd ht (fun q => kt q H locs ls hP hS hl) (fun q => kf q H locs ls hP hS hl)
theorem g_if_gt (C : Cx x y A own cc nL R) {u : Int32} {off : Int} {tgt : Nat} (hd : decode cc pc = .ok (.ifCond .gt off, 3)) (ht : (pc : Int) + off = (tgt : Int)) (kt : 0 < u → GW x y A nL Z tgt lv st σ) (kf : ¬ 0 < u → GW x y A nL Z (pc + 3) lv st σ) : GW x y A nL Z pc lv (.int u :: st) σ := by
  obtain ⟨p, l, e, R', s, m, args, below, meth, c, kc, ks⟩ := x
  obtain ⟨hx, hb, hml, hown, hts, hR, hkc, hks, hlk, hK, hY, hAd, hStr, hSit⟩ := C
  intro H locs ls hP hS hl
  exact lv_if_gt hx hb hd ht (fun q => kt q H locs ls hP hS hl) (fun q => kf q H locs ls hP hS hl)
theorem g_icmp_gt (C : Cx x y A own cc nL R) {u v : Int32} {off : Int} {tgt : Nat} (hd : decode cc pc = .ok (.if_icmp .gt off, 3)) (ht : (pc : Int) + off = (tgt : Int)) (kt : v < u → GW x y A nL Z tgt lv st σ) (kf : ¬ v < u → GW x y A nL Z (pc + 3) lv st σ) : GW x y A nL Z pc lv (.int v :: .int u :: st) σ := by
  obtain ⟨p, l, e, R', s, m, args, below, meth, c, kc, ks⟩ := x
  obtain ⟨hx, hb, hml, hown, hts, hR, hkc, hks, hlk, hK, hY, hAd, hStr, hSit⟩ := C
  intro H locs ls hP hS hl
  exact lv_icmp_gt hx hb hd ht (fun q => kt q H locs ls hP hS hl) (fun q => kf q H locs ls hP hS hl)
theorem g_if_le (C : Cx x y A own cc nL R) {u : Int32} {off : Int} {tgt : Nat} (hd : decode cc pc = .ok (.ifCond .le off, 3)) (ht : (pc : Int) + off = (tgt : Int)) (kt : u ≤ 0 → GW x y A nL Z tgt lv st σ) (kf : ¬ u ≤ 0 → GW x y A nL Z (pc + 3) lv st σ) : GW x y A nL Z pc lv (.int u :: st) σ := by
  obtain ⟨p, l, e, R', s, m, args, below, meth, c, kc, ks⟩ := x
  obtain ⟨hx, hb, hml, hown, hts, hR, hkc, hks, hlk, hK, hY, hAd, hStr, hSit⟩ := C
  intro H locs ls hP hS hl
  exact lv_if_le hx hb hd ht (fun q => kt q H locs ls hP hS hl) (fun q => kf q H locs ls hP hS hl)
theorem g_icmp_le (C : Cx x y A own cc nL R) {u v : Int32} {off : Int} {tgt : Nat} (hd : decode cc pc = .ok (.if_icmp .le off, 3)) (ht : (pc : Int) + off = (tgt : Int)) (kt : u ≤ v → GW x y A nL Z tgt lv st σ) (kf : ¬ u ≤ v → GW x y A nL Z (pc + 3) lv st σ) : GW x y A nL Z pc lv (.int v :: .int u :: st) σ := by
  obtain ⟨p, l, e, R', s, m, args, below, meth, c, kc, ks⟩ := x
  obtain ⟨hx, hb, hml, hown, hts, hR, hkc, hks, hlk, hK, hY, hAd, hStr, hSit⟩ := C
  intro H locs ls hP hS hl
  exact lv_icmp_le hx hb hd ht (fun q => kt q H locs ls hP hS hl) (fun q => kf q H locs ls hP hS hl)
theorem g_goto (C : Cx x y A own cc nL R) {off : Int} {tgt : Nat} (hd : decode cc pc = .ok (.goto off, 3)) (ht : (pc : Int) + off = (tgt : Int)) (kk : GW x y A nL Z tgt lv st σ) : GW x y A nL Z pc lv st σ := by
  obtain ⟨p, l, e, R', s, m, args, below, meth, c, kc, ks⟩ := x
  obtain ⟨hx, hb, hml, hown, hts, hR, hkc, hks, hlk, hK, hY, hAd, hStr, hSit⟩ := C
  intro H locs ls hP hS hl
  exact lv_goto hx hb hd ht (kk H locs ls hP hS hl)
theorem g_ifnull (C : Cx x y A own cc nL R) {v : Option Nat} {off : Int} {tgt : Nat} (hd : decode cc pc = .ok (.ifnull off, 3)) (ht : (pc : Int) + off = (tgt : Int)) (kt : v = none → GW x y A nL Z tgt lv st σ) (kf : ∀ k, v = some k → GW x y A nL Z (pc + 3) lv st σ) : GW x y A nL Z pc lv (nv y v :: st) σ := by
  obtain ⟨p, l, e, R', s, m, args, below, meth, c, kc, ks⟩ := x
  obtain ⟨hx, hb, hml, hown, hts, hR, hkc, hks, hlk, hK, hY, hAd, hStr, hSit⟩ := C
  intro H locs ls hP hS hl
  cases v with
  | none => exact lv_ifnullN hx hb hd ht (kt rfl H locs ls hP hS hl)
  | some v => exact lv_ifnull hx hb hd (kf v rfl H locs ls hP hS hl)
theorem g_ifnonnull (C : Cx x y A own cc nL R) {v : Option Nat} {off : Int} {tgt : Nat} (hd : decode cc pc = .ok (.ifnonnull off, 3)) (ht : (pc : Int) + off = (tgt : Int)) (kt : ∀ k, v = some k → GW x y A nL Z tgt lv st σ) (kf : v = none → GW x y A nL Z (pc + 3) lv st σ) : GW x y A nL Z pc lv (nv y v :: st) σ := by
  obtain ⟨p, l, e, R', s, m, args, below, meth, c, kc, ks⟩ := x
  obtain ⟨hx, hb, hml, hown, hts, hR, hkc, hks, hlk, hK, hY, hAd, hStr, hSit⟩ := C
  intro H locs ls hP hS hl
  cases v with
  | none => exact lv_ifnonnullN hx hb hd (kf rfl H locs ls hP hS hl)
  | some v => exact lv_ifnonnull hx hb hd ht (kt v rfl H locs ls hP hS hl)
theorem g_tabIn (C : Cx x y A own cc nL R) {dflt lo hi : Int} {offs : Array Int} {len : Nat} {u v : Int32} {off : Int} {tgt : Nat} (hd : decode cc pc = .ok (.tableswitch dflt lo hi offs, len)) (h1 : ¬ v.toInt < lo) (h2 : ¬ hi < v.toInt) (ho : offs[(v.toInt - lo).toNat]? = some off) (ht : (pc : Int) + off = (tgt : Int)) (hu : u = v) (kk : GW x y A nL Z tgt lv st σ) : GW x y A nL Z pc lv (.int u :: st) σ := by
  obtain ⟨p, l, e, R', s, m, args, below, meth, c, kc, ks⟩ := x
  obtain ⟨hx, hb, hml, hown, hts, hR, hkc, hks, hlk, hK, hY, hAd, hStr, hSit⟩ := C
  intro H locs ls hP hS hl
  subst hu
  exact lv_tableIn hx hb hd h1 h2 ho ht (kk H locs ls hP hS hl)
theorem g_tabOut (C : Cx x y A own cc nL R) {dflt lo hi : Int} {offs : Array Int} {len : Nat} {u : Int32} {tgt : Nat} (hd : decode cc pc = .ok (.tableswitch dflt lo hi offs, len)) (h : u.toInt < lo ∨ hi < u.toInt) (ht : (pc : Int) + dflt = (tgt : Int)) (kk : GW x y A nL Z tgt lv st σ) : GW x y A nL Z pc lv (.int u :: st) σ := by
  obtain ⟨p, l, e, R', s, m, args, below, meth, c, kc, ks⟩ := x
  obtain ⟨hx, hb, hml, hown, hts, hR, hkc, hks, hlk, hK, hY, hAd, hStr, hSit⟩ := C
  intro H locs ls hP hS hl
  exact lv_tableOut hx hb hd h ht (kk H locs ls hP hS hl)
theorem g_lookup (C : Cx x y A own cc nL R) {dflt : Int} {ps : Array (Int × Int)} {len : Nat} {u : Int32} {off : Int} {tgt : Nat} (hd : decode cc pc = .ok (.lookupswitch dflt ps, len)) (hp : (ps.toList.zip (ps.toList.drop 1)).all (fun (a, next) => a.1 < next.1) = true) (ho : Op.lookupswitch.offset ps.toList dflt u.toInt = off) (ht : (pc : Int) + off = (tgt : Int)) (kk : GW x y A nL Z tgt lv st σ) : GW x y A nL Z pc lv (.int u :: st) σ := by
  obtain ⟨p, l, e, R', s, m, args, below, meth, c, kc, ks⟩ := x
  obtain ⟨hx, hb, hml, hown, hts, hR, hkc, hks, hlk, hK, hY, hAd, hStr, hSit⟩ := C
  intro H locs ls hP hS hl
  exact lv_lookup hx hb hd hp ho ht (kk H locs ls hP hS hl)
theorem g_sub (C : Cx x y A own cc nL R) (js : List Nat) (hq : lv_pick lv js = lv') (kk : GW x y A nL Z pc lv' st σ) : GW x y A nL Z pc lv st σ := by
  obtain ⟨p, l, e, R', s, m, args, below, meth, c, kc, ks⟩ := x
  obtain ⟨hx, hb, hml, hown, hts, hR, hkc, hks, hlk, hK, hY, hAd, hStr, hSit⟩ := C
  intro H locs ls hP hS hl
  exact kk H locs ls hP hS (lv_sub hl js hq)
theorem g_get (C : Cx x y A own cc nL R) {k ci j idx : Nat} {cn : String} {T : u_T} {N : Nat} {v : Value} (hw : Cond.fieldLink own idx (T j).1 (T j).2.1 (T j).2.2.1 ∈ TT) (hd : decode cc pc = .ok (.getfield idx, 3)) (hk : kd k = ci) (hc : vwCl[ci]? = some (cn, T, N)) (hci : ci < 6) (hin : ∀ w ∈ u_ws cn T N, w ∈ TT) (hj : j < N) (hv : (flds (yad y) σ k ci)[j]? = some v) (kk : GW x y A nL Z (pc + 3) lv (v :: st) σ) : GW x y A nL Z pc lv (.ref (yad y k) :: st) σ := by
  obtain ⟨p, l, e, R', s, m, args, below, meth, c, kc, ks⟩ := x
  obtain ⟨hx, hb, hml, hown, hts, hR, hkc, hks, hlk, hK, hY, hAd, hStr, hSit⟩ := C
  intro H locs ls hP hS hl
  have hk61 := kd_lt hk (by omega)
  have he : ent y σ k = .inr (ci, flds (yad y) σ k ci) := by unfold ent; rw [hk, if_pos hci]
  exact va_get (C := cn) (T := T) (N := N) hx hb hts hin hown hK hP k (by rw [Wl_at y σ hk61, he]) hc j hj (hts _ hw) (fun _ h => h) hv hd (kk H locs ls hP hS hl)
theorem g_put (C : Cx x y A own cc nL R) {k ci j idx : Nat} {cn : String} {T : u_T} {N : Nat} {v : Int32} {ty : FieldType} (ty0 : Nat → FieldType) (hty : ∀ k, k < N → parseFieldDescriptor (T k).2.2.1 = some (ty0 k)) (hnm : ∀ a, a < N → ∀ b, b < N → a ≠ b → (T a).2.1 ≠ (T b).2.1) (hw : Cond.fieldLink own idx (T j).1 (T j).2.1 (T j).2.2.1 ∈ TT) (hd : decode cc pc = .ok (.putfield idx, 3)) (hk : kd k = ci) (hc : vwCl[ci]? = some (cn, T, N)) (hci : ci < 6) (hin : ∀ w ∈ u_ws cn T N, w ∈ TT) (hj : j < N) (hfin : (T j).2.2.2 = false) (htj : parseFieldDescriptor (T j).2.2.1 = some ty) (hn : narrow ty (.int v) = .int v) (hfit : fits ty (.int v) = true) (hlen : (flds (yad y) σ k ci).length = N) (hv : (flds (yad y) σ k ci).set j (.int v) = flds (yad y) (up2 σ k j v) k ci) (kk : GW x y A nL Z (pc + 3) lv st (up2 σ k j v)) : GW x y A nL Z pc lv (.int v :: .ref (yad y k) :: st) σ := by
  obtain ⟨p, l, e, R', s, m, args, below, meth, c, kc, ks⟩ := x
  obtain ⟨hx, hb, hml, hown, hts, hR, hkc, hks, hlk, hK, hY, hAd, hStr, hSit⟩ := C
  intro H locs ls hP hS hl
  have hk61 := kd_lt hk (by omega)
  have he : ∀ σ, ent y σ k = .inr (ci, flds (yad y) σ k ci) := by intro σ; unfold ent; rw [hk, if_pos hci]
  refine va_put (C := cn) (T := T) (N := N) hx hb hts hin ty0 hty hnm hown hK hP (hY.D hAd σ) hS k (by rw [Wl_at y σ hk61, he]) hc j hj (hts _ hw) (fun _ h => h) hfin htj hn hfit (by rw [hlen]; exact hj) hd (fun H1 locs1 hP1 _ hS1 => ?_)
  rw [hv, show up2 σ k j v = up1 σ k (upd (σ k) j v) from rfl, Wl_put y σ (upd (σ k) j v) hk61 (he _)] at hP1
  exact kk H1 locs1 ls hP1 hS1 hl
theorem g_iald (C : Cx x y A own cc nL R) {k : Nat} {i : Int32} (hd : decode cc pc = .ok (.iaload, 1)) (hk : kd k = 6) (hin : vp_in i (ln k)) {j : Nat} (hj : i.toNatClampNeg = j) (kk : GW x y A nL Z (pc + 1) lv (.int (σ k j) :: st) σ) : GW x y A nL Z pc lv (.int i :: .ref (yad y k) :: st) σ := by
  obtain ⟨p, l, e, R', s, m, args, below, meth, c, kc, ks⟩ := x
  obtain ⟨hx, hb, hml, hown, hts, hR, hkc, hks, hlk, hK, hY, hAd, hStr, hSit⟩ := C
  intro H locs ls hP hS hl
  have hk61 := kd_lt hk (by omega)
  have he : ∀ σ, ent y σ k = .inl ((yC y).1, (ln k, .inl (σ k))) := by intro σ; unfold ent; rw [hk]; rfl
  subst hj
  exact va_iald hx hb hK hP k 0 (by rw [Wl_at y σ hk61, he]) rfl hin hd (kk H locs ls hP hS hl)
theorem g_iast (C : Cx x y A own cc nL R) {k : Nat} {i v : Int32} (hd : decode cc pc = .ok (.iastore, 1)) (hk : kd k = 6) (hin : vp_in i (ln k)) {j : Nat} (hj : i.toNatClampNeg = j) (kk : GW x y A nL Z (pc + 1) lv st (up2 σ k j v)) : GW x y A nL Z pc lv (.int v :: .int i :: .ref (yad y k) :: st) σ := by
  obtain ⟨p, l, e, R', s, m, args, below, meth, c, kc, ks⟩ := x
  obtain ⟨hx, hb, hml, hown, hts, hR, hkc, hks, hlk, hK, hY, hAd, hStr, hSit⟩ := C
  intro H locs ls hP hS hl
  have hk61 := kd_lt hk (by omega)
  have he : ∀ σ, ent y σ k = .inl ((yC y).1, (ln k, .inl (σ k))) := by intro σ; unfold ent; rw [hk]; rfl
  subst hj
  refine va_iast hx hb hK hP (hY.D hAd σ) hS k 0 (by rw [Wl_at y σ hk61, he]) rfl hin hd (fun H1 locs1 hP1 _ hS1 => ?_)
  rw [Wl_put y σ (upd (σ k) i.toNatClampNeg v) hk61 (by rw [he]; unfold up1; rw [if_pos rfl])] at hP1
  exact kk H1 locs1 ls hP1 hS1 hl
theorem g_alen6 (C : Cx x y A own cc nL R) {k : Nat} (hd : decode cc pc = .ok (.arraylength, 1)) (hk : kd k = 6) (kk : GW x y A nL Z (pc + 1) lv (.int (Int32.ofNat (ln k)) :: st) σ) : GW x y A nL Z pc lv (.ref (yad y k) :: st) σ := by
  obtain ⟨p, l, e, R', s, m, args, below, meth, c, kc, ks⟩ := x
  obtain ⟨hx, hb, hml, hown, hts, hR, hkc, hks, hlk, hK, hY, hAd, hStr, hSit⟩ := C
  intro H locs ls hP hS hl
  have hk61 := kd_lt hk (by omega)
  have he : ∀ σ, ent y σ k = .inl ((yC y).1, (ln k, .inl (σ k))) := by intro σ; unfold ent; rw [hk]; rfl
  exact va_alen hx hb hK hP k 0 (by rw [Wl_at y σ hk61, he]) rfl rfl hd (kk H locs ls hP hS hl)
theorem g_aald7 (C : Cx x y A own cc nL R) {k : Nat} {i : Int32} (hd : decode cc pc = .ok (.aaload, 1)) (hk : kd k = 7) (hin : vp_in i (ln k)) (kk : GW x y A nL Z (pc + 1) lv (.ref (yad y (elp k 7 i.toNatClampNeg)) :: st) σ) : GW x y A nL Z pc lv (.int i :: .ref (yad y k) :: st) σ := by
  obtain ⟨p, l, e, R', s, m, args, below, meth, c, kc, ks⟩ := x
  obtain ⟨hx, hb, hml, hown, hts, hR, hkc, hks, hlk, hK, hY, hAd, hStr, hSit⟩ := C
  intro H locs ls hP hS hl
  have hk61 := kd_lt hk (by omega)
  have he : ent y σ k = .inl ((yC y).2.1, (ln k, .inr (.inr (.inr (.inr (fun j => some (yad y (elp k 7 j)))))))) := by unfold ent; rw [hk]; rfl
  exact va_aldq (f := fun j => some (yad y (elp k 7 j))) hx hb hK hP k 1 (by rw [Wl_at y σ hk61, he]) rfl hin hd (kk H locs ls hP hS hl)
theorem g_aald8 (C : Cx x y A own cc nL R) {k : Nat} {i : Int32} (hd : decode cc pc = .ok (.aaload, 1)) (hk : kd k = 8) (hin : vp_in i (ln k)) (kk : GW x y A nL Z (pc + 1) lv (.ref (yad y (elp k 8 i.toNatClampNeg)) :: st) σ) : GW x y A nL Z pc lv (.int i :: .ref (yad y k) :: st) σ := by
  obtain ⟨p, l, e, R', s, m, args, below, meth, c, kc, ks⟩ := x
  obtain ⟨hx, hb, hml, hown, hts, hR, hkc, hks, hlk, hK, hY, hAd, hStr, hSit⟩ := C
  intro H locs ls hP hS hl
  have hk61 := kd_lt hk (by omega)
  have he : ent y σ k = .inl ((yC y).2.2.1, (ln k, .inr (.inr (.inr (.inr (fun j => some (yad y (elp k 8 j)))))))) := by unfold ent; rw [hk]; rfl
  exact va_aldq (f := fun j => some (yad y (elp k 8 j))) hx hb hK hP k 2 (by rw [Wl_at y σ hk61, he]) rfl hin hd (kk H locs ls hP hS hl)
theorem g_aald9 (C : Cx x y A own cc nL R) {k : Nat} {i : Int32} (hd : decode cc pc = .ok (.aaload, 1)) (hk : kd k = 9) (hin : vp_in i (ln k)) (kk : GW x y A nL Z (pc + 1) lv (.ref (yad y (elp k 9 i.toNatClampNeg)) :: st) σ) : GW x y A nL Z pc lv (.int i :: .ref (yad y k) :: st) σ := by
  obtain ⟨p, l, e, R', s, m, args, below, meth, c, kc, ks⟩ := x
  obtain ⟨hx, hb, hml, hown, hts, hR, hkc, hks, hlk, hK, hY, hAd, hStr, hSit⟩ := C
  intro H locs ls hP hS hl
  have hk61 := kd_lt hk (by omega)
  have he : ent y σ k = .inl ((yC y).2.2.2, (ln k, .inr (.inr (.inr (.inr (fun j => some (yad y (elp k 9 j)))))))) := by unfold ent; rw [hk]; rfl
  exact va_aldq (f := fun j => some (yad y (elp k 9 j))) hx hb hK hP k 3 (by rw [Wl_at y σ hk61, he]) rfl hin hd (kk H locs ls hP hS hl)
theorem g_alen9 (C : Cx x y A own cc nL R) {k : Nat} (hd : decode cc pc = .ok (.arraylength, 1)) (hk : kd k = 9) {v : Int32} (hv : Int32.ofNat (ln k) = v) (kk : GW x y A nL Z (pc + 1) lv (.int v :: st) σ) : GW x y A nL Z pc lv (.ref (yad y k) :: st) σ := by
  obtain ⟨p, l, e, R', s, m, args, below, meth, c, kc, ks⟩ := x
  obtain ⟨hx, hb, hml, hown, hts, hR, hkc, hks, hlk, hK, hY, hAd, hStr, hSit⟩ := C
  intro H locs ls hP hS hl
  have hk61 := kd_lt hk (by omega)
  have he : ent y σ k = .inl ((yC y).2.2.2, (ln k, .inr (.inr (.inr (.inr (fun j => some (yad y (elp k 9 j)))))))) := by unfold ent; rw [hk]; rfl
  exact va_alen hx hb hK hP k 3 (by rw [Wl_at y σ hk61, he]) rfl hv hd (kk H locs ls hP hS hl)
theorem g_mmin (C : Cx x y A own cc nL R) {u v : Int32} {i : Nat} (hd : decode cc pc = .ok (.invokestatic i, 3)) (hw : Cond.methodLink own i Lib.Math.min.name ∈ TT) (hw2 : Cond.static Lib.Math.min.name ∈ TT) (hw3 : Cond.initialized "java/lang/Math" ∈ TT) (hw4 : Cond.code Lib.Math.min.name Lib.Math.min.code 2 (some .int) ∈ TT) (h1 : 1 ≤ R.frames) (h2 : (st.map fun v => v.category).sum + 13 ≤ R.locals) (kk : GW x y A nL Z (pc + 3) lv (.int (imin u v) :: st) σ) : GW x y A nL Z pc lv (.int v :: .int u :: st) σ := by
  obtain ⟨p, l, e, R', s, m, args, below, meth, c, kc, ks⟩ := x
  obtain ⟨hx, hb, hml, hown, hts, hR, hkc, hks, hlk, hK, hY, hAd, hStr, hSit⟩ := C
  intro H locs ls hP hS hl
  subst hR
  exact va_mmin hx hb (hml.trans hl.1.symm) hown (hts _ hw) (hts _ hw2) (hts _ hw3) (hts _ hw4) h1 h2 hkc hks hd (kk H locs ls hP hS hl)
theorem g_mmax (C : Cx x y A own cc nL R) {u v : Int32} {i : Nat} (hd : decode cc pc = .ok (.invokestatic i, 3)) (hw : Cond.methodLink own i Lib.Math.max.name ∈ TT) (hw2 : Cond.static Lib.Math.max.name ∈ TT) (hw3 : Cond.initialized "java/lang/Math" ∈ TT) (hw4 : Cond.code Lib.Math.max.name Lib.Math.max.code 2 (some .int) ∈ TT) (h1 : 1 ≤ R.frames) (h2 : (st.map fun v => v.category).sum + 13 ≤ R.locals) (kk : GW x y A nL Z (pc + 3) lv (.int (imax u v) :: st) σ) : GW x y A nL Z pc lv (.int v :: .int u :: st) σ := by
  obtain ⟨p, l, e, R', s, m, args, below, meth, c, kc, ks⟩ := x
  obtain ⟨hx, hb, hml, hown, hts, hR, hkc, hks, hlk, hK, hY, hAd, hStr, hSit⟩ := C
  intro H locs ls hP hS hl
  subst hR
  exact va_mmax hx hb (hml.trans hl.1.symm) hown (hts _ hw) (hts _ hw2) (hts _ hw3) (hts _ hw4) h1 h2 hkc hks hd (kk H locs ls hP hS hl)
theorem g_mabs (C : Cx x y A own cc nL R) {u : Int32} {i : Nat} (hd : decode cc pc = .ok (.invokestatic i, 3)) (hw : Cond.methodLink own i Lib.Math.abs.name ∈ TT) (hw2 : Cond.static Lib.Math.abs.name ∈ TT) (hw3 : Cond.initialized "java/lang/Math" ∈ TT) (hw4 : Cond.code Lib.Math.abs.name Lib.Math.abs.code 1 (some .int) ∈ TT) (h1 : 1 ≤ R.frames) (h2 : (st.map fun v => v.category).sum + 13 ≤ R.locals) (kk : GW x y A nL Z (pc + 3) lv (.int (iabs u) :: st) σ) : GW x y A nL Z pc lv (.int u :: st) σ := by
  obtain ⟨p, l, e, R', s, m, args, below, meth, c, kc, ks⟩ := x
  obtain ⟨hx, hb, hml, hown, hts, hR, hkc, hks, hlk, hK, hY, hAd, hStr, hSit⟩ := C
  intro H locs ls hP hS hl
  subst hR
  exact va_mabs hx hb (hml.trans hl.1.symm) hown (hts _ hw) (hts _ hw2) (hts _ hw3) (hts _ hw4) h1 h2 hkc hks hd (kk H locs ls hP hS hl)
theorem g_copyi (C : Cx x y A own cc nL R) {k0 k1 i : Nat} {sp dp n : Int32} (hd : decode cc pc = .ok (.invokestatic i, 3)) (hw : Cond.methodLink own i arraycopyName ∈ TT) (hw1 : Cond.native arraycopyName ∈ TT) (hw2 : Cond.static arraycopyName ∈ TT) (hw3 : Cond.initialized "java/lang/System" ∈ TT) (hk : kd k0 = 6) (hk1 : kd k1 = 6) (h1 : ¬ sp < 0) (h2 : ¬ dp < 0) (h3 : ¬ n < 0) (h4 : sp.toNatClampNeg + n.toNatClampNeg ≤ ln k0) (h5 : dp.toNatClampNeg + n.toNatClampNeg ≤ ln k1) (hf : 1 ≤ R.frames) (hlo : (st.map fun v => v.category).sum + (nativeFrameWords "java/lang/System" "arraycopy" 5 + 11) ≤ R.locals) (kk : GW x y A nL Z (pc + 3) lv st (up1 σ k1 (va_cpy (σ k0) (σ k1) sp.toNatClampNeg dp.toNatClampNeg n.toNatClampNeg))) : GW x y A nL Z pc lv (.int n :: .int dp :: .ref (yad y k1) :: .int sp :: .ref (yad y k0) :: st) σ := by
  obtain ⟨p, l, e, R', s, m, args, below, meth, c, kc, ks⟩ := x
  obtain ⟨hx, hb, hml, hown, hts, hR, hkc, hks, hlk, hK, hY, hAd, hStr, hSit⟩ := C
  intro H locs ls hP hS hl
  subst hR
  have hk61 := kd_lt hk (by omega)
  have hk61' := kd_lt hk1 (by omega)
  have he : ∀ σ, ent y σ k0 = .inl ((yC y).1, (ln k0, .inl (σ k0))) := by intro σ; unfold ent; rw [hk]; rfl
  have he1 : ∀ σ, ent y σ k1 = .inl ((yC y).1, (ln k1, .inl (σ k1))) := by intro σ; unfold ent; rw [hk1]; rfl
  refine va_copyi hx hb (hml.trans hl.1.symm) hown (hts _ hw) (hts _ hw1) (hts _ hw2) (hts _ hw3) hK hP (hY.D hAd σ) hS k0 k1 0 0 (by rw [Wl_at y σ hk61, he]) (by rw [Wl_at y σ hk61', he1]) rfl rfl rfl h1 h2 h3 h4 h5 (fun i hi => rfl) hf hlo hd (fun H1 locs1 hP1 _ hS1 => ?_)
  rw [Wl_put y σ _ hk61' (by rw [he1]; unfold up1; rw [if_pos rfl])] at hP1
  exact kk H1 locs1 ls hP1 hS1 hl
theorem g_ifnullR (C : Cx x y A own cc nL R) {k : Nat} {off : Int} {tgt : Nat} (hd : decode cc pc = .ok (.ifnull off, 3)) (ht : (pc : Int) + off = (tgt : Int)) (kk : GW x y A nL Z (pc + 3) lv st σ) : GW x y A nL Z pc lv (.ref (yad y k) :: st) σ := by
  obtain ⟨p, l, e, R', s, m, args, below, meth, c, kc, ks⟩ := x
  obtain ⟨hx, hb, hml, hown, hts, hR, hkc, hks, hlk, hK, hY, hAd, hStr, hSit⟩ := C
  intro H locs ls hP hS hl
  exact lv_ifnull hx hb hd (kk H locs ls hP hS hl)
theorem g_ifnonnullR (C : Cx x y A own cc nL R) {k : Nat} {off : Int} {tgt : Nat} (hd : decode cc pc = .ok (.ifnonnull off, 3)) (ht : (pc : Int) + off = (tgt : Int)) (kk : GW x y A nL Z (tgt) lv st σ) : GW x y A nL Z pc lv (.ref (yad y k) :: st) σ := by
  obtain ⟨p, l, e, R', s, m, args, below, meth, c, kc, ks⟩ := x
  obtain ⟨hx, hb, hml, hown, hts, hR, hkc, hks, hlk, hK, hY, hAd, hStr, hSit⟩ := C
  intro H locs ls hP hS hl
  exact lv_ifnonnull hx hb hd ht (kk H locs ls hP hS hl)
theorem g_ifnullZ (C : Cx x y A own cc nL R) {off : Int} {tgt : Nat} (hd : decode cc pc = .ok (.ifnull off, 3)) (ht : (pc : Int) + off = (tgt : Int)) (kk : GW x y A nL Z (tgt) lv st σ) : GW x y A nL Z pc lv (nv y none :: st) σ := by
  obtain ⟨p, l, e, R', s, m, args, below, meth, c, kc, ks⟩ := x
  obtain ⟨hx, hb, hml, hown, hts, hR, hkc, hks, hlk, hK, hY, hAd, hStr, hSit⟩ := C
  intro H locs ls hP hS hl
  exact lv_ifnullN hx hb hd ht (kk H locs ls hP hS hl)
theorem g_ifnonnullZ (C : Cx x y A own cc nL R) {off : Int} {tgt : Nat} (hd : decode cc pc = .ok (.ifnonnull off, 3)) (ht : (pc : Int) + off = (tgt : Int)) (kk : GW x y A nL Z (pc + 3) lv st σ) : GW x y A nL Z pc lv (nv y none :: st) σ := by
  obtain ⟨p, l, e, R', s, m, args, below, meth, c, kc, ks⟩ := x
  obtain ⟨hx, hb, hml, hown, hts, hR, hkc, hks, hlk, hK, hY, hAd, hStr, hSit⟩ := C
  intro H locs ls hP hS hl
  exact lv_ifnonnullN hx hb hd (kk H locs ls hP hS hl)
end ROWS

/-! CONTRACTS AND CALLS in the frame -/
def MI (l : Launch) (y : YT) (nm : MethodName) (ws : List Cond) (rm : Room) (args : List Value) (σ : Sto) (r : Int32) (σ' : Sto) : Prop := Met l nm ws rm (va_Pc args (Inv y σ)) (va_Qi (fun (v : Int32) (_ : Unit) => v = r) (fun _ t => Inv y σ' t) (AY y)) 0 0 (AY y)
def ML (l : Launch) (y : YT) (nm : MethodName) (ws : List Cond) (rm : Room) (args : List Value) (σ : Sto) (r : Int64) (σ' : Sto) : Prop := Met l nm ws rm (va_Pc args (Inv y σ)) (va_Ql (fun (v : Int64) (_ : Unit) => v = r) (fun _ t => Inv y σ' t) (AY y)) 0 0 (AY y)
def MV (l : Launch) (y : YT) (nm : MethodName) (ws : List Cond) (rm : Room) (args : List Value) (σ : Sto) (_r : Unit) (σ' : Sto) : Prop := Met l nm ws rm (va_Pc args (Inv y σ)) (va_Qv (fun (_ : Unit) => True) (fun _ t => Inv y σ' t) (AY y)) 0 0 (AY y)
def MQ' (l : Launch) (y : YT) (nm : MethodName) (ws : List Cond) (rm : Room) (args : List Value) (σ : Sto) (r : Option Nat) (σ' : Sto) : Prop := Met l nm ws rm (va_Pc args (Inv y σ)) (va_Qq (fun (v : Option Nat) (_ : Unit) => v = r.map (yad y)) (fun _ t => Inv y σ' t) (AY y)) 0 0 (AY y)
def MR (l : Launch) (y : YT) (nm : MethodName) (ws : List Cond) (rm : Room) (args : List Value) (σ : Sto) (r : Nat) (σ' : Sto) : Prop := Met l nm ws rm (va_Pc args (Inv y σ)) (va_Qq (fun (v : Option Nat) (_ : Unit) => v = some (yad y r)) (fun _ t => Inv y σ' t) (AY y)) 0 0 (AY y)
def RetI (x : XT) (y : YT) (A : Nat → Prop) (nL : Nat) (cc : ByteArray) (Z : State → Prop) (r : Int32) (σ : Sto) : Prop := ∀ (pc : Nat) (lv : List (Nat × Value)), decode cc pc = .ok (.ireturn, 1) → GW x y A nL Z pc lv [.int r] σ
def RetZ (x : XT) (y : YT) (A : Nat → Prop) (nL : Nat) (cc : ByteArray) (Z : State → Prop) (r : Int32) (σ : Sto) : Prop := ∀ (pc : Nat) (lv : List (Nat × Value)), decode cc pc = .ok (.ireturn, 1) → (r = 0 ∨ r = 1) → GW x y A nL Z pc lv [.int r] σ
def RetL (x : XT) (y : YT) (A : Nat → Prop) (nL : Nat) (cc : ByteArray) (Z : State → Prop) (r : Int64) (σ : Sto) : Prop := ∀ (pc : Nat) (lv : List (Nat × Value)), decode cc pc = .ok (.lreturn, 1) → GW x y A nL Z pc lv [.long r] σ
def RetV (x : XT) (y : YT) (A : Nat → Prop) (nL : Nat) (cc : ByteArray) (Z : State → Prop) (_r : Unit) (σ : Sto) : Prop := ∀ (pc : Nat) (lv : List (Nat × Value)), decode cc pc = .ok (.return_, 1) → GW x y A nL Z pc lv [] σ
def RetQ (x : XT) (y : YT) (A : Nat → Prop) (nL : Nat) (cc : ByteArray) (Z : State → Prop) (r : Option Nat) (σ : Sto) : Prop := ∀ (pc : Nat) (lv : List (Nat × Value)), decode cc pc = .ok (.areturn, 1) → GW x y A nL Z pc lv [nv y r] σ
def RetR (x : XT) (y : YT) (A : Nat → Prop) (nL : Nat) (cc : ByteArray) (Z : State → Prop) (r : Nat) (σ : Sto) : Prop := ∀ (pc : Nat) (lv : List (Nat × Value)), decode cc pc = .ok (.areturn, 1) → GW x y A nL Z pc lv [.ref (yad y r)] σ
theorem Inv.at {y : YT} {s t : State} {H : Heap} {locs : List Loc} {σ : Sto} (hK : va_K (yD y) vwCl (tysL y) s) (hY : Yok y) (hStr : StrOK y (AY y) s s.heap) (hSit : SitOK y s) (hP : va_P (yD y) vwCl (Wl y σ) H) (hS : va_S (AY y) s.heap H locs) (ht : t.heap = H) (hW : s.WarmedH t.vm) : Inv y σ t :=
  ⟨by rw [ht]; exact hP, va_K.moved hW.alike hK, hY, by rw [ht]; exact (hStr.kept hS.2.1).moved hW.alike, hSit.warm hW⟩
theorem Inv.at' {y : YT} {A : Nat → Prop} {s t : State} {H : Heap} {locs : List Loc} {σ : Sto} (hA : ∀ q, AY y q → A q) (hK : va_K (yD y) vwCl (tysL y) s) (hY : Yok y) (hStr : StrOK y A s s.heap) (hSit : SitOK y s) (hP : va_P (yD y) vwCl (Wl y σ) H) (hS : va_S A s.heap H locs) (ht : t.heap = H) (hW : s.WarmedH t.vm) : Inv y σ t :=
  ⟨by rw [ht]; exact hP, va_K.moved hW.alike hK, hY, by rw [ht]; exact ((hStr.kept hS.2.1).moved hW.alike).narrow hA, hSit.warm hW⟩
theorem Inv.blind {y : YT} {σ : Sto} {args : List Value} : FrameBlind (va_Pc args (Inv y σ)) := fun a U g mk h => ⟨h.1, h.2.1, va_K.moved (u := U) (U := U.calling g mk a) (Vm.Alike.refl U.vm) h.2.2.1, h.2.2.2.1, StrOK.moved (u := U) (U := U.calling g mk a) (Vm.Alike.refl U.vm) h.2.2.2.2.1, SitOK.same (u := U) (U := U.calling g mk a) rfl h.2.2.2.2.2⟩
section BODY
variable {l : Launch} {y : YT} {nm : MethodName} {cc : ByteArray} {nL : Nat} {ws : List Cond} {rm : Room} {args : List Value} {σ σ' : Sto}
/-- a method's contract out of a walk of its body, in the frame -/
theorem mk_cx {p : Program} {e : Env} {s : State} {m : MethodId} {below : List Frame} {meth : Method} {c : Code} {s₁ : State} {ret : Option FieldType} (hws : ws = Cond.code nm cc nL ret :: TT) (hrc : rm.cells = 0) (hrs : rm.slots = 0) (B : BodyLoose p l nm (headSpec ws rm) cc nL ret e s m args.toArray below meth c s₁) (hml : c.maxLocals = nL) (h : Inv y σ s) : Cx (p, l, e, (headSpec ws rm).room, s, m, args.toArray, below, meth, c, 0, 0) y (AY y) nm.cls cc nL rm :=
  ⟨B.exec, B.bytes, hml, findClass_of_methodNamed B.named, fun w hw => atoms_spec (ws := ws) B.pre w (by rw [hws]; exact List.mem_cons_of_mem _ hw), rfl, Nat.zero_le _, Nat.zero_le _, B.notSynchronized, h.2.1, h.2.2.1, fun k hk => ⟨k, hk, rfl⟩, h.2.2.2.1, h.2.2.2.2⟩
theorem mkI {r : Int32} (hy : plainName nm.cls = true) (hws : ws = Cond.code nm cc nL (some .int) :: TT) (hrc : rm.cells = 0) (hrs : rm.slots = 0) (hnl : (lg_sl args).length ≤ nL)
    (body : ∀ (x : XT) (Z : State → Prop), Cx x y (AY y) nm.cls cc nL rm → RetI x y (AY y) nL cc Z r σ' → GW x y (AY y) nL Z 0 (lv_args 0 args) [] σ) : MI l y nm ws rm args σ r σ' := by
  refine Met.ofW (cc := cc) (maxL := nL) (ret := some .int) hy hws ?_
  intro p e s m args' below meth c s₁ B hml hv
  obtain ⟨rfl, hI⟩ := hv
  have CX := mk_cx hws hrc hrs B hml hI
  rw [lg_entry_eq]
  refine body (p, l, e, (headSpec ws rm).room, s, m, args.toArray, below, meth, c, 0, 0) _ CX ?_ s.heap [] _ hI.1 va_S.rf (lv_entry args hnl)
  intro pc lv hd H locs ls hP hS hl
  exact W.iret B.exec B.bytes B.returns (fun t ht hW => ⟨⟨r, (), rfl, rfl, Inv.at hI.2.1 hI.2.2.1 hI.2.2.2.1 hI.2.2.2.2 hP hS ht hW⟩, hS.F ht⟩) hS.2.2 hd B.notSynchronized
theorem mkZ {r : Int32} (hy : plainName nm.cls = true) (hws : ws = Cond.code nm cc nL (some .boolean) :: TT) (hrc : rm.cells = 0) (hrs : rm.slots = 0) (hnl : (lg_sl args).length ≤ nL)
    (body : ∀ (x : XT) (Z : State → Prop), Cx x y (AY y) nm.cls cc nL rm → RetZ x y (AY y) nL cc Z r σ' → GW x y (AY y) nL Z 0 (lv_args 0 args) [] σ) : MI l y nm ws rm args σ r σ' := by
  refine Met.ofW (cc := cc) (maxL := nL) (ret := some .boolean) hy hws ?_
  intro p e s m args' below meth c s₁ B hml hv
  obtain ⟨rfl, hI⟩ := hv
  have CX := mk_cx hws hrc hrs B hml hI
  rw [lg_entry_eq]
  refine body (p, l, e, (headSpec ws rm).room, s, m, args.toArray, below, meth, c, 0, 0) _ CX ?_ s.heap [] _ hI.1 va_S.rf (lv_entry args hnl)
  intro pc lv hd h01 H locs ls hP hS hl
  exact W.zret B.exec B.bytes B.returns (by rcases h01 with rfl | rfl <;> rfl) (fun t ht hW => ⟨⟨r, (), rfl, rfl, Inv.at hI.2.1 hI.2.2.1 hI.2.2.2.1 hI.2.2.2.2 hP hS ht hW⟩, hS.F ht⟩) hS.2.2 hd B.notSynchronized
theorem mkL {r : Int64} (hy : plainName nm.cls = true) (hws : ws = Cond.code nm cc nL (some .long) :: TT) (hrc : rm.cells = 0) (hrs : rm.slots = 0) (hnl : (lg_sl args).length ≤ nL)
    (body : ∀ (x : XT) (Z : State → Prop), Cx x y (AY y) nm.cls cc nL rm → RetL x y (AY y) nL cc Z r σ' → GW x y (AY y) nL Z 0 (lv_args 0 args) [] σ) : ML l y nm ws rm args σ r σ' := by
  refine Met.ofW (cc := cc) (maxL := nL) (ret := some .long) hy hws ?_
  intro p e s m args' below meth c s₁ B hml hv
  obtain ⟨rfl, hI⟩ := hv
  have CX := mk_cx hws hrc hrs B hml hI
  rw [lg_entry_eq]
  refine body (p, l, e, (headSpec ws rm).room, s, m, args.toArray, below, meth, c, 0, 0) _ CX ?_ s.heap [] _ hI.1 va_S.rf (lv_entry args hnl)
  intro pc lv hd H locs ls hP hS hl
  exact W.lret B.exec B.bytes B.returns (fun t ht hW => ⟨⟨r, (), rfl, rfl, Inv.at hI.2.1 hI.2.2.1 hI.2.2.2.1 hI.2.2.2.2 hP hS ht hW⟩, hS.F ht⟩) hS.2.2 hd B.notSynchronized
theorem mkV {r : Unit} (hy : plainName nm.cls = true) (hws : ws = Cond.code nm cc nL none :: TT) (hrc : rm.cells = 0) (hrs : rm.slots = 0) (hnl : (lg_sl args).length ≤ nL)
    (body : ∀ (x : XT) (Z : State → Prop), Cx x y (AY y) nm.cls cc nL rm → RetV x y (AY y) nL cc Z r σ' → GW x y (AY y) nL Z 0 (lv_args 0 args) [] σ) : MV l y nm ws rm args σ r σ' := by
  refine Met.ofW (cc := cc) (maxL := nL) (ret := none) hy hws ?_
  intro p e s m args' below meth c s₁ B hml hv
  obtain ⟨rfl, hI⟩ := hv
  have CX := mk_cx hws hrc hrs B hml hI
  rw [lg_entry_eq]
  refine body (p, l, e, (headSpec ws rm).room, s, m, args.toArray, below, meth, c, 0, 0) _ CX ?_ s.heap [] _ hI.1 va_S.rf (lv_entry args hnl)
  intro pc lv hd H locs ls hP hS hl
  exact W.vret B.exec B.bytes B.returns (fun t ht hW => ⟨⟨(), rfl, trivial, Inv.at hI.2.1 hI.2.2.1 hI.2.2.2.1 hI.2.2.2.2 hP hS ht hW⟩, hS.F ht⟩) hS.2.2 hd B.notSynchronized
theorem mkQ {r : Option Nat} {cn : String} (hy : plainName nm.cls = true) (hws : ws = Cond.code nm cc nL (some (.object cn)) :: TT) (hrc : rm.cells = 0) (hrs : rm.slots = 0) (hnl : (lg_sl args).length ≤ nL)
    (body : ∀ (x : XT) (Z : State → Prop), Cx x y (AY y) nm.cls cc nL rm → RetQ x y (AY y) nL cc Z r σ' → GW x y (AY y) nL Z 0 (lv_args 0 args) [] σ) : MQ' l y nm ws rm args σ r σ' := by
  refine Met.ofW (cc := cc) (maxL := nL) (ret := some (.object cn)) hy hws ?_
  intro p e s m args' below meth c s₁ B hml hv
  obtain ⟨rfl, hI⟩ := hv
  have CX := mk_cx hws hrc hrs B hml hI
  rw [lg_entry_eq]
  refine body (p, l, e, (headSpec ws rm).room, s, m, args.toArray, below, meth, c, 0, 0) _ CX ?_ s.heap [] _ hI.1 va_S.rf (lv_entry args hnl)
  intro pc lv hd H locs ls hP hS hl
  exact W.aret B.exec B.bytes B.returns (Or.inl ⟨_, rfl⟩) (va_rf_or _) (fun t ht hW => ⟨⟨r.map (yad y), (), rfl, rfl, Inv.at hI.2.1 hI.2.2.1 hI.2.2.2.1 hI.2.2.2.2 hP hS ht hW⟩, hS.F ht⟩) hS.2.2 hd B.notSynchronized
theorem mkR {r : Nat} {cn : String} (hy : plainName nm.cls = true) (hws : ws = Cond.code nm cc nL (some (.object cn)) :: TT) (hrc : rm.cells = 0) (hrs : rm.slots = 0) (hnl : (lg_sl args).length ≤ nL)
    (body : ∀ (x : XT) (Z : State → Prop), Cx x y (AY y) nm.cls cc nL rm → RetR x y (AY y) nL cc Z r σ' → GW x y (AY y) nL Z 0 (lv_args 0 args) [] σ) : MR l y nm ws rm args σ r σ' := by
  refine Met.ofW (cc := cc) (maxL := nL) (ret := some (.object cn)) hy hws ?_
  intro p e s m args' below meth c s₁ B hml hv
  obtain ⟨rfl, hI⟩ := hv
  have CX := mk_cx hws hrc hrs B hml hI
  rw [lg_entry_eq]
  refine body (p, l, e, (headSpec ws rm).room, s, m, args.toArray, below, meth, c, 0, 0) _ CX ?_ s.heap [] _ hI.1 va_S.rf (lv_entry args hnl)
  intro pc lv hd H locs ls hP hS hl
  exact W.aret B.exec B.bytes B.returns (Or.inl ⟨_, rfl⟩) (Or.inr ⟨_, rfl⟩) (fun t ht hW => ⟨⟨some (yad y r), (), rfl, rfl, Inv.at hI.2.1 hI.2.2.1 hI.2.2.2.1 hI.2.2.2.2 hP hS ht hW⟩, hS.F ht⟩) hS.2.2 hd B.notSynchronized
end BODY
theorem gi_in {ws : List Cond} (h : ∀ w ∈ ws, w ∈ TT) : GoodIn TT ws := fun w hw => ⟨h w hw, good_of_word (tt_good w (h w hw))⟩
/-- what a call wants of the tables, and of the room -/
def CV (own : String) (i : Nat) (nm : MethodName) (bytes : ByteArray) (maxL : Nat) (ret : Option FieldType) (n : Nat) : Prop := Cond.methodLink own i nm ∈ TT ∧ Cond.instanceMethod nm ∈ TT ∧ Cond.selects nm.cls nm nm ∈ TT ∧ Cond.initialized nm.cls ∈ TT ∧ Cond.code nm bytes maxL ret ∈ TT ∧ nm.cls ≠ "java/lang/invoke/MethodHandle" ∧ nm.cls ≠ "java/lang/invoke/VarHandle" ∧ (parseMethodDescriptor nm.desc).map (fun d => d.parameters.length) = some n
def CS (own : String) (i : Nat) (nm : MethodName) (bytes : ByteArray) (maxL : Nat) (ret : Option FieldType) (n : Nat) : Prop := Cond.methodLink own i nm ∈ TT ∧ Cond.static nm ∈ TT ∧ Cond.initialized nm.cls ∈ TT ∧ Cond.code nm bytes maxL ret ∈ TT ∧ nm.cls ≠ "java/lang/invoke/MethodHandle" ∧ nm.cls ≠ "java/lang/invoke/VarHandle" ∧ (parseMethodDescriptor nm.desc).map (fun d => d.parameters.length) = some n
def RmOk (rm R : Room) (maxL : Nat) : Prop := rm.cells = 0 ∧ rm.slots = 0 ∧ rm.frames + 1 ≤ R.frames ∧ 8 + (maxL + 11) + rm.locals ≤ R.locals
section CALLS
variable {x : XT} {y : YT} {A : Nat → Prop} {own : String} {cc : ByteArray} {nL : Nat} {R : Room} {Z : State → Prop} {pc : Nat} {lv : List (Nat × Value)} {st rest : List Value} {σ σ1 : Sto} {nm : MethodName} {bytes : ByteArray} {maxL : Nat} {ret : Option FieldType} {rm : Room} {i : Nat} {As : List Value}
theorem cv_cw {own' : String} {s : State} {args : Array Value} (hts : ∀ w ∈ TT, w.before args s = true) (h : CV own' i nm bytes maxL ret As.length) (hr : RmOk rm R maxL) : CallW R s args own' nm.cls i nm bytes maxL ret (Cond.code nm bytes maxL ret :: TT) rm 0 0 As.length := by
  obtain ⟨h1, h2, h3, h4, h5, h6, h7, h8⟩ := h
  refine cwV As.length hts (gi_in fun w hw => ?_) rfl hr.1 hr.2.1 ⟨rfl, h6, h7, h8⟩ ⟨hr.2.2.1, hr.2.2.2⟩
  simp only [wsV, List.mem_append, List.mem_cons, List.not_mem_nil, or_false] at hw
  rcases hw with (rfl | rfl | rfl | rfl) | rfl | hw
  · exact h1
  · exact h2
  · exact h3
  · exact h4
  · exact h5
  · exact hw
theorem cs_cw {own' : String} {s : State} {args : Array Value} (hts : ∀ w ∈ TT, w.before args s = true) (h : CS own' i nm bytes maxL ret As.length) (hr : RmOk rm R maxL) : CallB R s args own' i nm bytes maxL ret (Cond.code nm bytes maxL ret :: TT) rm 0 0 As.length ∧ (Cond.static nm).before args s = true := by
  obtain ⟨h1, h2, h4, h5, h6, h7, h8⟩ := h
  refine va_cwS As.length hts (gi_in fun w hw => ?_) rfl hr.1 hr.2.1 ⟨h6, h7, h8⟩ ⟨hr.2.2.1, hr.2.2.2⟩
  simp only [va_wsS, List.mem_append, List.mem_cons, List.not_mem_nil, or_false] at hw
  rcases hw with (rfl | rfl | rfl) | rfl | hw
  · exact h1
  · exact h2
  · exact h4
  · exact h5
  · exact hw
theorem Cx.sub {x : XT} (C : Cx x y A own cc nL R) : ∀ q, AY y q → A q := by
  obtain ⟨p, l, e, R', s, m, args, below, meth, c, kc, ks⟩ := x
  obtain ⟨hx, hb, hml, hown, hts, hR, hkc, hks, hlk, hK, hY, hAd, hStr, hSit⟩ := C
  rintro q ⟨k, hk, rfl⟩
  exact hAd k hk
/-- a receiver: one of the world's objects, or a literal -/
def Recv (y : YT) (k : Nat) (cls : String) : Prop := (∃ (T : u_T) (N : Nat), kd k < 6 ∧ vwCl[kd k]? = some (cls, T, N)) ∨ (∃ j, j < 15 ∧ k = 100 + j ∧ cls = "java/lang/String")
theorem recv_at {k : Nat} {cls : String} {s : State} {H : Heap} {locs : List Loc} (hr : Recv y k cls) (hK : va_K (yD y) vwCl (tysL y) s) (hP : va_P (yD y) vwCl (Wl y σ) H) (hStr : StrOK y A s s.heap) (hS : va_S A s.heap H locs) : ∃ cellB : Cell, H[yad y k]? = some cellB ∧ cellB.vm.isStatics = false ∧ s.vm.findClass cls = some cellB.cls := by
  rcases hr with ⟨T, N, h6, hc⟩ | ⟨j, hj, rfl, rfl⟩
  · have hk61 := kd_lt (k := k) rfl (by omega)
    have he : ent y σ k = .inr (kd k, flds (yad y) σ k (kd k)) := by unfold ent; rw [if_pos h6]
    exact va_recv (q := (cls, T, N)) hK hP hc (q0 := k) (by rw [Wl_at y σ hk61, he])
  · obtain ⟨cell, h1, h2, h3, -⟩ := (hStr.1 j hj).1.kept hS.2.1
    exact ⟨cell, h1, h2, h3⟩
theorem g_callVi {r : Int32} {k : Nat} (C : Cx x y A own cc nL R) (hd : decode cc pc = .ok (.invokevirtual i, 3)) (hM : ∀ l, MI l y nm (Cond.code nm bytes maxL ret :: TT) rm (.ref (yad y k) :: As) σ r σ1) (h : CV own i nm bytes maxL ret As.length) (hr : RmOk rm R maxL) (hk : Recv y k nm.cls) (hst : st = As.reverse ++ .ref (yad y k) :: rest) (hrest : (rest.map fun v => v.category).sum ≤ 8) (kk : GW x y A nL Z (pc + 3) lv (.int r :: rest) σ1) : GW x y A nL Z pc lv st σ := by
  have hsub := C.sub
  obtain ⟨p, l, e, R', s, m, args, below, meth, c, kc, ks⟩ := x
  obtain ⟨hx, hb, hml, hown, hts, hR, hkc, hks, hlk, hK, hY, hAd, hStr, hSit⟩ := C
  intro H locs ls hP hS hl
  subst hR
  refine va_calli (va_runV (As := As) (rest := rest) ⟨hx, hb, hml, hown, hts⟩ (hM l) (cv_cw hts h hr) ⟨Inv.blind, recv_at hk hK hP hStr hS, fun U hU hW => ⟨rfl, Inv.at' hsub hK hY hStr hSit hP hS hU hW⟩⟩ rfl rfl hl.1 hst (lv_room hrest) hd ⟨hkc, hks⟩) hS (fun q _ => hsub q) hsub (fun r1 u t H1 locs1 ht hvm hw hB hz1 hk1 hS1 => ?_)
  subst hw
  exact kk H1 locs1 ls (by rw [← ht]; exact hB.1) hS1 hl
theorem g_callVl {r : Int64} {k : Nat} (C : Cx x y A own cc nL R) (hd : decode cc pc = .ok (.invokevirtual i, 3)) (hM : ∀ l, ML l y nm (Cond.code nm bytes maxL ret :: TT) rm (.ref (yad y k) :: As) σ r σ1) (h : CV own i nm bytes maxL ret As.length) (hr : RmOk rm R maxL) (hk : Recv y k nm.cls) (hst : st = As.reverse ++ .ref (yad y k) :: rest) (hrest : (rest.map fun v => v.category).sum ≤ 8) (kk : GW x y A nL Z (pc + 3) lv (.long r :: rest) σ1) : GW x y A nL Z pc lv st σ := by
  have hsub := C.sub
  obtain ⟨p, l, e, R', s, m, args, below, meth, c, kc, ks⟩ := x
  obtain ⟨hx, hb, hml, hown, hts, hR, hkc, hks, hlk, hK, hY, hAd, hStr, hSit⟩ := C
  intro H locs ls hP hS hl
  subst hR
  refine va_calll (va_runV (As := As) (rest := rest) ⟨hx, hb, hml, hown, hts⟩ (hM l) (cv_cw hts h hr) ⟨Inv.blind, recv_at hk hK hP hStr hS, fun U hU hW => ⟨rfl, Inv.at' hsub hK hY hStr hSit hP hS hU hW⟩⟩ rfl rfl hl.1 hst (lv_room hrest) hd ⟨hkc, hks⟩) hS (fun q _ => hsub q) hsub (fun r1 u t H1 locs1 ht hvm hw hB hz1 hk1 hS1 => ?_)
  subst hw
  exact kk H1 locs1 ls (by rw [← ht]; exact hB.1) hS1 hl
theorem g_callVv {r : Unit} {k : Nat} (C : Cx x y A own cc nL R) (hd : decode cc pc = .ok (.invokevirtual i, 3)) (hM : ∀ l, MV l y nm (Cond.code nm bytes maxL ret :: TT) rm (.ref (yad y k) :: As) σ r σ1) (h : CV own i nm bytes maxL ret As.length) (hr : RmOk rm R maxL) (hk : Recv y k nm.cls) (hst : st = As.reverse ++ .ref (yad y k) :: rest) (hrest : (rest.map fun v => v.category).sum ≤ 8) (kk : GW x y A nL Z (pc + 3) lv rest σ1) : GW x y A nL Z pc lv st σ := by
  have hsub := C.sub
  obtain ⟨p, l, e, R', s, m, args, below, meth, c, kc, ks⟩ := x
  obtain ⟨hx, hb, hml, hown, hts, hR, hkc, hks, hlk, hK, hY, hAd, hStr, hSit⟩ := C
  intro H locs ls hP hS hl
  subst hR
  refine va_callv (va_runV (As := As) (rest := rest) ⟨hx, hb, hml, hown, hts⟩ (hM l) (cv_cw hts h hr) ⟨Inv.blind, recv_at hk hK hP hStr hS, fun U hU hW => ⟨rfl, Inv.at' hsub hK hY hStr hSit hP hS hU hW⟩⟩ rfl rfl hl.1 hst (lv_room hrest) hd ⟨hkc, hks⟩) hS (fun q _ => hsub q) hsub (fun u t H1 locs1 ht hvm hw hB hz1 hk1 hS1 => ?_)
  exact kk H1 locs1 ls (by rw [← ht]; exact hB.1) hS1 hl
theorem g_callVq {r : Option Nat} {k : Nat} (C : Cx x y A own cc nL R) (hd : decode cc pc = .ok (.invokevirtual i, 3)) (hM : ∀ l, MQ' l y nm (Cond.code nm bytes maxL ret :: TT) rm (.ref (yad y k) :: As) σ r σ1) (h : CV own i nm bytes maxL ret As.length) (hr : RmOk rm R maxL) (hk : Recv y k nm.cls) (hst : st = As.reverse ++ .ref (yad y k) :: rest) (hrest : (rest.map fun v => v.category).sum ≤ 8) (kk : GW x y A nL Z (pc + 3) lv (nv y r :: rest) σ1) : GW x y A nL Z pc lv st σ := by
  have hsub := C.sub
  obtain ⟨p, l, e, R', s, m, args, below, meth, c, kc, ks⟩ := x
  obtain ⟨hx, hb, hml, hown, hts, hR, hkc, hks, hlk, hK, hY, hAd, hStr, hSit⟩ := C
  intro H locs ls hP hS hl
  subst hR
  refine va_callq (va_runV (As := As) (rest := rest) ⟨hx, hb, hml, hown, hts⟩ (hM l) (cv_cw hts h hr) ⟨Inv.blind, recv_at hk hK hP hStr hS, fun U hU hW => ⟨rfl, Inv.at' hsub hK hY hStr hSit hP hS hU hW⟩⟩ rfl rfl hl.1 hst (lv_room hrest) hd ⟨hkc, hks⟩) hS (fun q _ => hsub q) hsub (fun r1 u t H1 locs1 ht hvm hw hB hz1 hk1 hS1 => ?_)
  subst hw
  exact kk H1 locs1 ls (by rw [← ht]; exact hB.1) hS1 hl
theorem g_callSi {r : Int32} (C : Cx x y A own cc nL R) (hd : decode cc pc = .ok (.invokestatic i, 3)) (hM : ∀ l, MI l y nm (Cond.code nm bytes maxL ret :: TT) rm As σ r σ1) (h : CS own i nm bytes maxL ret As.length) (hr : RmOk rm R maxL) (hst : st = As.reverse ++ rest) (hrest : (rest.map fun v => v.category).sum ≤ 8) (kk : GW x y A nL Z (pc + 3) lv (.int r :: rest) σ1) : GW x y A nL Z pc lv st σ := by
  have hsub := C.sub
  obtain ⟨p, l, e, R', s, m, args, below, meth, c, kc, ks⟩ := x
  obtain ⟨hx, hb, hml, hown, hts, hR, hkc, hks, hlk, hK, hY, hAd, hStr, hSit⟩ := C
  intro H locs ls hP hS hl
  subst hR
  refine va_calli (va_runS (As := As) (rest := rest) ⟨hx, hb, hml, hown, hts⟩ (hM l) (cs_cw hts h hr) ⟨Inv.blind, fun U hU hW => ⟨rfl, Inv.at' hsub hK hY hStr hSit hP hS hU hW⟩⟩ rfl rfl hl.1 hst (lv_room hrest) hd ⟨hkc, hks⟩) hS (fun q _ => hsub q) hsub (fun r1 u t H1 locs1 ht hvm hw hB hz1 hk1 hS1 => ?_)
  subst hw
  exact kk H1 locs1 ls (by rw [← ht]; exact hB.1) hS1 hl
theorem g_callSl {r : Int64} (C : Cx x y A own cc nL R) (hd : decode cc pc = .ok (.invokestatic i, 3)) (hM : ∀ l, ML l y nm (Cond.code nm bytes maxL ret :: TT) rm As σ r σ1) (h : CS own i nm bytes maxL ret As.length) (hr : RmOk rm R maxL) (hst : st = As.reverse ++ rest) (hrest : (rest.map fun v => v.category).sum ≤ 8) (kk : GW x y A nL Z (pc + 3) lv (.long r :: rest) σ1) : GW x y A nL Z pc lv st σ := by
  have hsub := C.sub
  obtain ⟨p, l, e, R', s, m, args, below, meth, c, kc, ks⟩ := x
  obtain ⟨hx, hb, hml, hown, hts, hR, hkc, hks, hlk, hK, hY, hAd, hStr, hSit⟩ := C
  intro H locs ls hP hS hl
  subst hR
  refine va_calll (va_runS (As := As) (rest := rest) ⟨hx, hb, hml, hown, hts⟩ (hM l) (cs_cw hts h hr) ⟨Inv.blind, fun U hU hW => ⟨rfl, Inv.at' hsub hK hY hStr hSit hP hS hU hW⟩⟩ rfl rfl hl.1 hst (lv_room hrest) hd ⟨hkc, hks⟩) hS (fun q _ => hsub q) hsub (fun r1 u t H1 locs1 ht hvm hw hB hz1 hk1 hS1 => ?_)
  subst hw
  exact kk H1 locs1 ls (by rw [← ht]; exact hB.1) hS1 hl
theorem g_callSv {r : Unit} (C : Cx x y A own cc nL R) (hd : decode cc pc = .ok (.invokestatic i, 3)) (hM : ∀ l, MV l y nm (Cond.code nm bytes maxL ret :: TT) rm As σ r σ1) (h : CS own i nm bytes maxL ret As.length) (hr : RmOk rm R maxL) (hst : st = As.reverse ++ rest) (hrest : (rest.map fun v => v.category).sum ≤ 8) (kk : GW x y A nL Z (pc + 3) lv rest σ1) : GW x y A nL Z pc lv st σ := by
  have hsub := C.sub
  obtain ⟨p, l, e, R', s, m, args, below, meth, c, kc, ks⟩ := x
  obtain ⟨hx, hb, hml, hown, hts, hR, hkc, hks, hlk, hK, hY, hAd, hStr, hSit⟩ := C
  intro H locs ls hP hS hl
  subst hR
  refine va_callv (va_runS (As := As) (rest := rest) ⟨hx, hb, hml, hown, hts⟩ (hM l) (cs_cw hts h hr) ⟨Inv.blind, fun U hU hW => ⟨rfl, Inv.at' hsub hK hY hStr hSit hP hS hU hW⟩⟩ rfl rfl hl.1 hst (lv_room hrest) hd ⟨hkc, hks⟩) hS (fun q _ => hsub q) hsub (fun u t H1 locs1 ht hvm hw hB hz1 hk1 hS1 => ?_)
  exact kk H1 locs1 ls (by rw [← ht]; exact hB.1) hS1 hl
theorem g_callSr {r : Nat} (C : Cx x y A own cc nL R) (hd : decode cc pc = .ok (.invokestatic i, 3)) (hM : ∀ l, MR l y nm (Cond.code nm bytes maxL ret :: TT) rm As σ r σ1) (h : CS own i nm bytes maxL ret As.length) (hr : RmOk rm R maxL) (hst : st = As.reverse ++ rest) (hrest : (rest.map fun v => v.category).sum ≤ 8) (kk : GW x y A nL Z (pc + 3) lv (.ref (yad y r) :: rest) σ1) : GW x y A nL Z pc lv st σ := by
  have hsub := C.sub
  obtain ⟨p, l, e, R', s, m, args, below, meth, c, kc, ks⟩ := x
  obtain ⟨hx, hb, hml, hown, hts, hR, hkc, hks, hlk, hK, hY, hAd, hStr, hSit⟩ := C
  intro H locs ls hP hS hl
  subst hR
  refine va_callq (va_runS (As := As) (rest := rest) ⟨hx, hb, hml, hown, hts⟩ (hM l) (cs_cw hts h hr) ⟨Inv.blind, fun U hU hW => ⟨rfl, Inv.at' hsub hK hY hStr hSit hP hS hU hW⟩⟩ rfl rfl hl.1 hst (lv_room hrest) hd ⟨hkc, hks⟩) hS (fun q _ => hsub q) hsub (fun r1 u t H1 locs1 ht hvm hw hB hz1 hk1 hS1 => ?_)
  subst hw
  exact kk H1 locs1 ls (by rw [← ht]; exact hB.1) hS1 hl
end CALLS

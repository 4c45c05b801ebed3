/-! THE FRAME: the state of class and reference is one store of ints, by places; the layout of the places stands still -/
abbrev Sto : Type := Nat → Nat → Int32
def up1 (σ : Sto) (k : Nat) (f : Nat → Int32) : Sto := fun a => if a = k then f else σ a
def up2 (σ : Sto) (k j : Nat) (v : Int32) : Sto := up1 σ k (upd (σ k) j v)
/-- the kinds of the places: 0 Booth, 1 Sheet, 2 Sitter, 3 Tape, 4 BoothFlash, 5 BoothFlashModel, 6 a row of ints, 7 of Sitters, 8 of Sheets, 9 of Strings -/
def kdL : List Nat := [4, 0,7,2,2,2,2,2,2,2,2,6,6, 0,7,2,2,2,2,2,2,2,2,6,6, 0,7,2,2,2,2,2,2,2,2,6,6, 3,6, 8,1,6,1,6,1,6,1,6, 6, 5,6,6,6,6,6,9,6,6,6,6,6]
def kd (k : Nat) : Nat := kdL.getD k 99
def lnL : List Nat := [0, 0,8,0,0,0,0,0,0,0,0,6,10, 0,8,0,0,0,0,0,0,0,0,6,10, 0,8,0,0,0,0,0,0,0,0,6,10, 0,120, 4,0,40,0,40,0,40,0,40, 7, 0,79,79,79,8,120,7,840,4,4,160,40]
def ln (k : Nat) : Nat := lnL.getD k 0
abbrev YT : Type := va_G × (ClassId × ClassId × ClassId × ClassId) × (Nat → Nat) × (Nat → Nat)
abbrev yD (y : YT) : va_G := y.1
abbrev yC (y : YT) : ClassId × ClassId × ClassId × ClassId := y.2.1
abbrev yad (y : YT) : Nat → Nat := y.2.2.1
abbrev yaV (y : YT) : Nat → Nat := y.2.2.2
abbrev vwCl : List vw_C := [(RX0, TX0, 10), (RX1, TX1, 3), (RX2, TX2, 7), (RX3, TX3, 6), (RX4, TX4, 7), (RX5, TX5, 22)]
abbrev tysL (y : YT) : List (ClassId × FieldType) := [((yC y).1, .int), ((yC y).2.1, .object RX2), ((yC y).2.2.1, .object RX1), ((yC y).2.2.2, .object RJ0)]
def flds (ad : Nat → Nat) (σ : Sto) (k : Nat) : Nat → List Value
  | 0 => [.int (σ k 0), .int (σ k 1), .int (σ k 2), .int (σ k 3), .int (σ k 4), .int (σ k 5), .int (σ k 6), .ref (ad (k + 1)), .ref (ad (k + 10)), .ref (ad (k + 11))]
  | 1 => [.int (σ k 0), .int (σ k 1), .ref (ad (k + 1))]
  | 2 => [.int (σ k 0), .int (σ k 1), .int (σ k 2), .int (σ k 3), .int (σ k 4), .int (σ k 5), .int (σ k 6)]
  | 3 => [.ref (ad (k + 1)), .int (σ k 1), .int (σ k 2), .int (σ k 3), .int (σ k 4), .int (σ k 5)]
  | 4 => [.ref (ad 1), .ref (ad 13), .ref (ad 25), .int (σ k 3), .ref (ad 37), .ref (ad 39), .ref (ad 48)]
  | _ => [.ref (ad 50), .ref (ad 51), .ref (ad 52), .int (σ k 3), .ref (ad 53), .int (σ k 5), .int (σ k 6), .ref (ad 54), .int (σ k 8), .int (σ k 9), .int (σ k 10), .int (σ k 11), .int (σ k 12), .int (σ k 13), .ref (ad 55), .ref (ad 56), .int (σ k 16), .int (σ k 17), .ref (ad 57), .ref (ad 58), .ref (ad 59), .ref (ad 60)]
def elp (k : Nat) : Nat → Nat → Nat
  | 7, j => k + 1 + j
  | 8, j => k + 1 + 2 * j
  | _, j => 100 + j
def ent (y : YT) (σ : Sto) (k : Nat) : va_E :=
  if kd k < 6 then .inr (kd k, flds (yad y) σ k (kd k))
  else if kd k = 6 then .inl ((yC y).1, (ln k, .inl (σ k)))
  else if kd k = 7 then .inl ((yC y).2.1, (ln k, .inr (.inr (.inr (.inr (fun j => some (yad y (elp k 7 j))))))))
  else if kd k = 8 then .inl ((yC y).2.2.1, (ln k, .inr (.inr (.inr (.inr (fun j => some (yad y (elp k 8 j))))))))
  else .inl ((yC y).2.2.2, (ln k, .inr (.inr (.inr (.inr (fun j => some (yad y (elp k 9 j))))))))
def Wl (y : YT) (σ : Sto) : va_W := (List.range 61).map (fun k => (yad y k, ent y σ k))
theorem kd_lt {k c : Nat} (h : kd k = c) (hc : c < 10) : k < 61 := by
  rcases Nat.lt_or_ge k 61 with q | q
  · exact q
  · exfalso
    have : kd k = 99 := by
      unfold kd
      rw [List.getD_eq_getElem?_getD, List.getElem?_eq_none (by show 61 ≤ k; exact q)]
      rfl
    omega
theorem Wl_at (y : YT) (σ : Sto) {k : Nat} (h : k < 61) : (Wl y σ)[k]? = some (yad y k, ent y σ k) := by
  unfold Wl
  rw [List.getElem?_map, List.getElem?_range h]
  rfl
theorem Wl_len (y : YT) (σ : Sto) : (Wl y σ).length = 61 := by
  unfold Wl
  rw [List.length_map, List.length_range]
theorem ent_off (y : YT) (σ : Sto) {k a : Nat} (f : Nat → Int32) (h : a ≠ k) : ent y (up1 σ k f) a = ent y σ a := by
  have e : up1 σ k f a = σ a := by unfold up1; rw [if_neg h]
  have e2 : ∀ ad c, flds ad (up1 σ k f) a c = flds ad σ a c := by
    intro ad c
    unfold flds
    rw [e]
  unfold ent
  rw [e2, e]
theorem Wl_put (y : YT) (σ : Sto) {k : Nat} (f : Nat → Int32) {e : va_E} (h : k < 61) (he : ent y (up1 σ k f) k = e) : (Wl y σ).set k (yad y k, e) = Wl y (up1 σ k f) := by
  apply List.ext_getElem?
  intro i
  rw [List.getElem?_set]
  by_cases hi : k = i
  · subst hi
    rw [if_pos rfl, Wl_at y _ h, he, if_pos (by rw [Wl_len]; exact h)]
  · rw [if_neg hi]
    rcases Nat.lt_or_ge i 61 with q | q
    · rw [Wl_at y _ q, Wl_at y _ q, ent_off y σ f (Ne.symm hi)]
    · rw [List.getElem?_eq_none (by rw [Wl_len]; exact q), List.getElem?_eq_none (by rw [Wl_len]; exact q)]
/-- the literals: length and bytes; places 100 + i -/
def bytJ : List (List Int32) := [[115, 105, 116, 116, 101, 114], [99, 104, 105, 108, 100], [103, 108, 97, 115, 115, 101, 115], [115, 104, 121], [111, 108, 100], [116, 119, 105, 110], [98, 97, 98, 121], [116, 97, 108, 108], [115, 116, 105, 108, 108], [109, 101, 114, 114, 121], [99, 111, 105, 110, 115], [113, 117, 101, 117, 101], [115, 116, 111, 111, 108], [108, 105, 103, 104, 116], [112, 114, 105, 99, 101]]
def sitesJ : List (String × Nat × String × Nat) := [(RX3, 134, "sitter", 0), (RX3, 122, "child", 1), (RX3, 124, "glasses", 2), (RX3, 126, "shy", 3), (RX3, 128, "old", 4), (RX3, 130, "twin", 5), (RX3, 132, "baby", 6), (RX3, 148, "tall", 7), (RX3, 142, "still", 8), (RX3, 144, "merry", 9), (RX3, 146, "coins", 10), (RX3, 50, "queue", 11), (RX3, 140, "stool", 12), (RX3, 136, "light", 13), (RX3, 138, "price", 14), (RX5, 27, "sitter", 0), (RX5, 29, "child", 1), (RX5, 31, "glasses", 2), (RX5, 33, "shy", 3), (RX5, 35, "old", 4), (RX5, 37, "twin", 5), (RX5, 39, "baby", 6), (RX5, 287, "tall", 7), (RX5, 296, "still", 8), (RX5, 298, "merry", 9), (RX5, 300, "coins", 10), (RX5, 308, "queue", 11), (RX5, 313, "stool", 12), (RX5, 318, "light", 13), (RX5, 320, "price", 14)]
/-- what stands still beside the world: the literals, a flag of the JDK's, a static that is some reference -/
def StrOK (y : YT) (A : Nat → Prop) (U : State) (H : Heap) : Prop :=
  (∀ i : Nat, i < 15 → va_O "java/lang/String" (yad y (100 + i)) A U H ∧ va_OF "java/lang/String" "coder" "B" (.int 0) (yad y (100 + i)) A U H ∧ va_OF "java/lang/String" "value" "[B" (.ref (yaV y i)) (yad y (100 + i)) A U H ∧ va_T .byte (yaV y i) ((bytJ.getD i []).length) (fun j => .int ((bytJ.getD i []).getD j 0)) A U H)
  ∧ va_Z "java/lang/String" "COMPACT_STRINGS" "Z" (.int 1) A U H ∧ va_Zq "jdk/internal/util/Preconditions" "SIOOBE_FORMATTER" "Ljava/util/function/BiFunction;" A U H
def SitOK (y : YT) (U : State) : Prop := ∀ q ∈ sitesJ, vk_R q.1 q.2.1 q.2.2.1 (yad y (100 + q.2.2.2)) U
def Yok (y : YT) : Prop := ∀ i j : Nat, i < 61 → j < 61 → yad y i = yad y j → i = j
def AY (y : YT) : Nat → Prop := fun q => ∃ k : Nat, k < 61 ∧ q = yad y k
def Inv (y : YT) (σ : Sto) (U : State) : Prop := va_P (yD y) vwCl (Wl y σ) U.heap ∧ va_K (yD y) vwCl (tysL y) U ∧ Yok y ∧ StrOK y (AY y) U U.heap ∧ SitOK y U
theorem StrOK.moved {y : YT} {A : Nat → Prop} {u U : State} {H : Heap} (hvm : u.vm.Alike U.vm) (h : StrOK y A u H) : StrOK y A U H :=
  ⟨fun i hi => ⟨va_O.moved hvm (h.1 i hi).1, va_OF.moved hvm (h.1 i hi).2.1, va_OF.moved hvm (h.1 i hi).2.2.1, va_T.moved hvm (h.1 i hi).2.2.2⟩, va_Z.moved hvm h.2.1, va_Zq.moved hvm h.2.2⟩
theorem StrOK.kept {y : YT} {A : Nat → Prop} {U : State} {H H1 : Heap} (h : StrOK y A U H) (hq : ∀ a : Nat, a < H.size → ¬ A a → H1[a]? = H[a]?) : StrOK y A U H1 :=
  ⟨fun i hi => ⟨(h.1 i hi).1.kept hq, (h.1 i hi).2.1.kept hq, (h.1 i hi).2.2.1.kept hq, (h.1 i hi).2.2.2.kept hq⟩, h.2.1.kept hq, h.2.2.kept hq⟩
theorem StrOK.narrow {y : YT} {A B : Nat → Prop} {U : State} {H : Heap} (h : StrOK y A U H) (hAB : ∀ q, B q → A q) : StrOK y B U H :=
  ⟨fun i hi => ⟨(h.1 i hi).1.narrow hAB, (h.1 i hi).2.1.narrow hAB, (h.1 i hi).2.2.1.narrow hAB, (h.1 i hi).2.2.2.narrow hAB⟩, h.2.1.narrow hAB, h.2.2.narrow hAB⟩
theorem SitOK.same {y : YT} {u U : State} (hv : U.vm = u.vm) (h : SitOK y u) : SitOK y U := fun q hq => vk_R.same hv (h q hq)
theorem SitOK.warm {y : YT} {s U : State} (hW : s.WarmedH U.vm) (h : SitOK y s) : SitOK y U := fun q hq => vk_R.warm hW (h q hq)
theorem Yok.D {y : YT} {A : Nat → Prop} (h : Yok y) (hA : ∀ k : Nat, k < 61 → A (yad y k)) (σ : Sto) : va_D A (Wl y σ) := by
  have key : ∀ (k : Nat) (q : Nat × va_E), (Wl y σ)[k]? = some q → k < 61 ∧ q.1 = yad y k := by
    intro k q hk
    have hl := (List.getElem?_eq_some_iff.mp hk).1
    rw [Wl_len] at hl
    rw [Wl_at y σ hl] at hk
    cases hk
    exact ⟨hl, rfl⟩
  refine ⟨fun i j p q hi hj hpq => ?_, fun k q hk => ?_⟩
  · obtain ⟨h1, h2⟩ := key i p hi
    obtain ⟨h3, h4⟩ := key j q hj
    exact h i j h1 h3 (by rw [← h2, ← h4]; exact hpq)
  · obtain ⟨h1, h2⟩ := key k q hk
    rw [h2]
    exact hA k h1
abbrev XT : Type := Program × Launch × Env × Room × State × MethodId × Array Value × List Frame × Method × Code × Nat × Nat
/-- what a frame stands on -/
def Cx : XT → YT → (Nat → Prop) → String → ByteArray → Nat → Room → Prop
  | (p, _, _, R, s, m, args, _, meth, c, kc, ks), y, A, own, cc, nL, R0 => p.tables.exec = Jvm.exec ∧ c.code = cc ∧ c.maxLocals = nL ∧ s.vm.findClass own = some m.cls ∧ (∀ w ∈ TT, w.before args s = true) ∧ R = R0 ∧ kc ≤ R0.cells ∧ ks ≤ R0.slots ∧ meth.locks = false ∧ va_K (yD y) vwCl (tysL y) s ∧ Yok y ∧ (∀ k : Nat, k < 61 → A (yad y k)) ∧ StrOK y A s s.heap ∧ SitOK y s
/-- the machine goes on from here to its end -/
def GW : XT → YT → (Nat → Prop) → Nat → (State → Prop) → Nat → List (Nat × Value) → List Value → Sto → Prop
  | (p, l, e, R, s, m, args, below, meth, c, kc, ks), y, A, nL, Z, pc, lv, st, σ => ∀ (H : Heap) (locs : List Loc) (ls : Array Slot), va_P (yD y) vwCl (Wl y σ) H → va_S A s.heap H locs → lv_has ls nL lv → W p l e R s m args below meth c H locs kc ks Z (F0 m pc ls st)

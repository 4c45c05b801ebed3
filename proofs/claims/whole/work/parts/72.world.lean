/-! THE WORLD AT THE START, in the frame; both sides stand to each other -/
def rowB : Nat → Int32 := fun j => ([20, 5, 5, 0, 0, 1, 0] : List Int32).getD j 0
def rowS : Nat → Int32 := fun j => ([0, 60, 5, 3, 20, 0, 0] : List Int32).getD j 0
def row0 : Nat → Int32 := fun _ => 0
def row1 : Nat → Int32 := fun _ => -1
def sgL : List (Nat → Int32) := [row0, rowB, row0, rowS, rowS, rowS, rowS, rowS, rowS, rowS, rowS, row1, row1, rowB, row0, rowS, rowS, rowS, rowS, rowS, rowS, rowS, rowS, row1, row1, rowB, row0, rowS, rowS, rowS, rowS, rowS, rowS, rowS, rowS, row1, row1, row0, row0, row0, row0, row0, row0, row0, row0, row0, row0, row0, row0, row0, nowR, row0, row0, row0, row0, row0, row0, row0, row0, row0, row0]
def sg0 : Sto := fun k => sgL.getD k row0
def adF (l : List Nat) (sA : Nat → Nat) : Nat → Nat := fun k => if k < 100 then l.getD k 0 else sA k
theorem adF_s (l : List Nat) (sA : Nat → Nat) (i : Nat) : adF l sA (100 + i) = sA (100 + i) := by unfold adF; rw [if_neg (by omega)]
theorem ent_o {y : YT} {σ : Sto} {k c : Nat} (h : kd k = c) (hc : c < 6) : ent y σ k = .inr (c, flds (yad y) σ k c) := by unfold ent; rw [h, if_pos hc]
theorem ent_i {y : YT} {σ : Sto} {k : Nat} (h : kd k = 6) : ent y σ k = .inl ((yC y).1, (ln k, .inl (σ k))) := by unfold ent; rw [h]; rfl
theorem ent_7 {y : YT} {σ : Sto} {k : Nat} (h : kd k = 7) : ent y σ k = .inl ((yC y).2.1, (ln k, .inr (.inr (.inr (.inr (fun j => some (yad y (elp k 7 j)))))))) := by unfold ent; rw [h]; rfl
theorem ent_8 {y : YT} {σ : Sto} {k : Nat} (h : kd k = 8) : ent y σ k = .inl ((yC y).2.2.1, (ln k, .inr (.inr (.inr (.inr (fun j => some (yad y (elp k 8 j)))))))) := by unfold ent; rw [h]; rfl
theorem ent_9 {y : YT} {σ : Sto} {k : Nat} (h : kd k = 9) : ent y σ k = .inl ((yC y).2.2.2, (ln k, .inr (.inr (.inr (.inr (fun j => some (yad y (elp k 9 j)))))))) := by unfold ent; rw [h]; rfl
def eqE (e e' : va_E) : Prop := e = e' ∨ ∃ (cA : ClassId) (x x' : vp_A), e = .inl (cA, x) ∧ e' = .inl (cA, x') ∧ vp_cell cA x = vp_cell cA x'
def eqW (ws ws' : va_W) : Prop := ws'.length = ws.length ∧ ∀ k, k < ws.length → ∃ (a : Nat) (e e' : va_E), ws[k]? = some (a, e) ∧ ws'[k]? = some (a, e') ∧ eqE e e'
theorem conv_P {D : va_G} {cl : List vw_C} {ws ws' : va_W} {H : Heap} (h : eqW ws ws') (hP : va_P D cl ws H) : va_P D cl ws' H := by
  intro k q hk
  have hl := (List.getElem?_eq_some_iff.mp hk).1
  obtain ⟨a, e, e', h1, h2, h3⟩ := h.2 k (by rw [← h.1]; exact hl)
  rw [h2] at hk
  cases hk
  have hp := hP k _ h1
  rcases h3 with rfl | ⟨cA, x, x', rfl, rfl, hc⟩
  · exact hp
  · show H[a]? = some (vp_cell cA x')
    rw [← hc]
    exact hp
theorem conv_D {A : Nat → Prop} {ws ws' : va_W} (h : eqW ws ws') (hD : va_D A ws) : va_D A ws' := by
  have key : ∀ (k : Nat) (q : Nat × va_E), ws'[k]? = some q → ∃ e, ws[k]? = some (q.1, e) := by
    intro k q hk
    have hl := (List.getElem?_eq_some_iff.mp hk).1
    obtain ⟨a, e, e', h1, h2, h3⟩ := h.2 k (by rw [← h.1]; exact hl)
    rw [h2] at hk
    cases hk
    exact ⟨e, h1⟩
  refine ⟨fun i j p q hi hj hpq => ?_, fun k q hk => ?_⟩
  · obtain ⟨e1, h1⟩ := key i p hi
    obtain ⟨e2, h2⟩ := key j q hj
    exact hD.1 i j _ _ h1 h2 hpq
  · obtain ⟨e, h1⟩ := key k q hk
    exact hD.2 k (q.1, e) h1
theorem eq_o {y : YT} {σ : Sto} {k c : Nat} {e : va_E} (h : kd k = c) (hc : c < 6) (e1 : e = .inr (c, flds (yad y) σ k c)) : eqE e (ent y σ k) := Or.inl (e1.trans (ent_o h hc).symm)
theorem eq_i {y : YT} {σ : Sto} {k : Nat} {e : va_E} (h : kd k = 6) (e1 : e = .inl ((yC y).1, (ln k, .inl (σ k)))) : eqE e (ent y σ k) := Or.inl (e1.trans (ent_i h).symm)
theorem eq_7 {y : YT} {σ : Sto} {k n : Nat} {f : Nat → Option Nat} (h : kd k = 7) (hn : ln k = n) (hf : ∀ j, j < n → f j = some (yad y (elp k 7 j))) : eqE (.inl ((yC y).2.1, (n, .inr (.inr (.inr (.inr f)))))) (ent y σ k) := by
  subst hn
  exact Or.inr ⟨_, _, _, rfl, ent_7 h, cell_q hf⟩
theorem eq_8 {y : YT} {σ : Sto} {k n : Nat} {f : Nat → Option Nat} (h : kd k = 8) (hn : ln k = n) (hf : ∀ j, j < n → f j = some (yad y (elp k 8 j))) : eqE (.inl ((yC y).2.2.1, (n, .inr (.inr (.inr (.inr f)))))) (ent y σ k) := by
  subst hn
  exact Or.inr ⟨_, _, _, rfl, ent_8 h, cell_q hf⟩
theorem eq_9 {y : YT} {σ : Sto} {k n : Nat} {f : Nat → Option Nat} (h : kd k = 9) (hn : ln k = n) (hf : ∀ j, j < n → f j = some (yad y (elp k 9 j))) : eqE (.inl ((yC y).2.2.2, (n, .inr (.inr (.inr (.inr f)))))) (ent y σ k) := by
  subst hn
  exact Or.inr ⟨_, _, _, rfl, ent_9 h, cell_q hf⟩
abbrev y1F (y : YT) (h : Nat) (b1 b2 b3 : Nat → Nat) (qt at_ k : Nat) (z0 z1 z2 z3 : Nat × Nat) (f g a1 a2 a3 a4 a5 K a7 a8 a9 a10 a11 : Nat) : YT := (yD y, yC y, adF [h, b1 0, b1 1, b1 2, b1 3, b1 4, b1 5, b1 6, b1 7, b1 8, b1 9, b1 10, b1 11, b2 0, b2 1, b2 2, b2 3, b2 4, b2 5, b2 6, b2 7, b2 8, b2 9, b2 10, b2 11, b3 0, b3 1, b3 2, b3 3, b3 4, b3 5, b3 6, b3 7, b3 8, b3 9, b3 10, b3 11, qt, at_, k, z0.1, z0.2, z1.1, z1.2, z2.1, z2.2, z3.1, z3.2, f, g, a1, a2, a3, a4, a5, K, a7, a8, a9, a10, a11] (yad y), yaV y)
theorem w_0 (y : YT) (h : Nat) (b1 b2 b3 : Nat → Nat) (qt at_ k : Nat) (z0 z1 z2 z3 : Nat × Nat) (f g a1 a2 a3 a4 a5 K a7 a8 a9 a10 a11 : Nat) : ∃ (a : Nat) (e e' : va_E), (fW y h b1 b2 b3 qt at_ k z0 z1 z2 z3 f ++ mW y g a1 a2 a3 a4 a5 K a7 a8 a9 a10 a11)[0]? = some (a, e) ∧ (Wl (y1F y h b1 b2 b3 qt at_ k z0 z1 z2 z3 f g a1 a2 a3 a4 a5 K a7 a8 a9 a10 a11) sg0)[0]? = some (a, e') ∧ eqE e e' := by
  refine ⟨_, _, _, rfl, Wl_at (y1F y h b1 b2 b3 qt at_ k z0 z1 z2 z3 f g a1 a2 a3 a4 a5 K a7 a8 a9 a10 a11) sg0 (k := 0) (by decide), ?_⟩
  exact eq_o (c := 4) rfl (by decide) rfl
theorem w_1 (y : YT) (h : Nat) (b1 b2 b3 : Nat → Nat) (qt at_ k : Nat) (z0 z1 z2 z3 : Nat × Nat) (f g a1 a2 a3 a4 a5 K a7 a8 a9 a10 a11 : Nat) : ∃ (a : Nat) (e e' : va_E), (fW y h b1 b2 b3 qt at_ k z0 z1 z2 z3 f ++ mW y g a1 a2 a3 a4 a5 K a7 a8 a9 a10 a11)[1]? = some (a, e) ∧ (Wl (y1F y h b1 b2 b3 qt at_ k z0 z1 z2 z3 f g a1 a2 a3 a4 a5 K a7 a8 a9 a10 a11) sg0)[1]? = some (a, e') ∧ eqE e e' := by
  refine ⟨_, _, _, rfl, Wl_at (y1F y h b1 b2 b3 qt at_ k z0 z1 z2 z3 f g a1 a2 a3 a4 a5 K a7 a8 a9 a10 a11) sg0 (k := 1) (by decide), ?_⟩
  exact eq_o (c := 0) rfl (by decide) rfl
theorem w_2 (y : YT) (h : Nat) (b1 b2 b3 : Nat → Nat) (qt at_ k : Nat) (z0 z1 z2 z3 : Nat × Nat) (f g a1 a2 a3 a4 a5 K a7 a8 a9 a10 a11 : Nat) : ∃ (a : Nat) (e e' : va_E), (fW y h b1 b2 b3 qt at_ k z0 z1 z2 z3 f ++ mW y g a1 a2 a3 a4 a5 K a7 a8 a9 a10 a11)[2]? = some (a, e) ∧ (Wl (y1F y h b1 b2 b3 qt at_ k z0 z1 z2 z3 f g a1 a2 a3 a4 a5 K a7 a8 a9 a10 a11) sg0)[2]? = some (a, e') ∧ eqE e e' := by
  refine ⟨_, _, _, rfl, Wl_at (y1F y h b1 b2 b3 qt at_ k z0 z1 z2 z3 f g a1 a2 a3 a4 a5 K a7 a8 a9 a10 a11) sg0 (k := 2) (by decide), ?_⟩
  exact eq_7 (y := (y1F y h b1 b2 b3 qt at_ k z0 z1 z2 z3 f g a1 a2 a3 a4 a5 K a7 a8 a9 a10 a11)) (σ := sg0) (k := 2) (n := 8) rfl rfl (fun j hj => by rcases (show j = 0 ∨ j = 1 ∨ j = 2 ∨ j = 3 ∨ j = 4 ∨ j = 5 ∨ j = 6 ∨ j = 7 by omega) with rfl | rfl | rfl | rfl | rfl | rfl | rfl | rfl <;> rfl)
theorem w_3 (y : YT) (h : Nat) (b1 b2 b3 : Nat → Nat) (qt at_ k : Nat) (z0 z1 z2 z3 : Nat × Nat) (f g a1 a2 a3 a4 a5 K a7 a8 a9 a10 a11 : Nat) : ∃ (a : Nat) (e e' : va_E), (fW y h b1 b2 b3 qt at_ k z0 z1 z2 z3 f ++ mW y g a1 a2 a3 a4 a5 K a7 a8 a9 a10 a11)[3]? = some (a, e) ∧ (Wl (y1F y h b1 b2 b3 qt at_ k z0 z1 z2 z3 f g a1 a2 a3 a4 a5 K a7 a8 a9 a10 a11) sg0)[3]? = some (a, e') ∧ eqE e e' := by
  refine ⟨_, _, _, rfl, Wl_at (y1F y h b1 b2 b3 qt at_ k z0 z1 z2 z3 f g a1 a2 a3 a4 a5 K a7 a8 a9 a10 a11) sg0 (k := 3) (by decide), ?_⟩
  exact eq_o (c := 2) rfl (by decide) rfl
theorem w_4 (y : YT) (h : Nat) (b1 b2 b3 : Nat → Nat) (qt at_ k : Nat) (z0 z1 z2 z3 : Nat × Nat) (f g a1 a2 a3 a4 a5 K a7 a8 a9 a10 a11 : Nat) : ∃ (a : Nat) (e e' : va_E), (fW y h b1 b2 b3 qt at_ k z0 z1 z2 z3 f ++ mW y g a1 a2 a3 a4 a5 K a7 a8 a9 a10 a11)[4]? = some (a, e) ∧ (Wl (y1F y h b1 b2 b3 qt at_ k z0 z1 z2 z3 f g a1 a2 a3 a4 a5 K a7 a8 a9 a10 a11) sg0)[4]? = some (a, e') ∧ eqE e e' := by
  refine ⟨_, _, _, rfl, Wl_at (y1F y h b1 b2 b3 qt at_ k z0 z1 z2 z3 f g a1 a2 a3 a4 a5 K a7 a8 a9 a10 a11) sg0 (k := 4) (by decide), ?_⟩
  exact eq_o (c := 2) rfl (by decide) rfl
theorem w_5 (y : YT) (h : Nat) (b1 b2 b3 : Nat → Nat) (qt at_ k : Nat) (z0 z1 z2 z3 : Nat × Nat) (f g a1 a2 a3 a4 a5 K a7 a8 a9 a10 a11 : Nat) : ∃ (a : Nat) (e e' : va_E), (fW y h b1 b2 b3 qt at_ k z0 z1 z2 z3 f ++ mW y g a1 a2 a3 a4 a5 K a7 a8 a9 a10 a11)[5]? = some (a, e) ∧ (Wl (y1F y h b1 b2 b3 qt at_ k z0 z1 z2 z3 f g a1 a2 a3 a4 a5 K a7 a8 a9 a10 a11) sg0)[5]? = some (a, e') ∧ eqE e e' := by
  refine ⟨_, _, _, rfl, Wl_at (y1F y h b1 b2 b3 qt at_ k z0 z1 z2 z3 f g a1 a2 a3 a4 a5 K a7 a8 a9 a10 a11) sg0 (k := 5) (by decide), ?_⟩
  exact eq_o (c := 2) rfl (by decide) rfl
theorem w_6 (y : YT) (h : Nat) (b1 b2 b3 : Nat → Nat) (qt at_ k : Nat) (z0 z1 z2 z3 : Nat × Nat) (f g a1 a2 a3 a4 a5 K a7 a8 a9 a10 a11 : Nat) : ∃ (a : Nat) (e e' : va_E), (fW y h b1 b2 b3 qt at_ k z0 z1 z2 z3 f ++ mW y g a1 a2 a3 a4 a5 K a7 a8 a9 a10 a11)[6]? = some (a, e) ∧ (Wl (y1F y h b1 b2 b3 qt at_ k z0 z1 z2 z3 f g a1 a2 a3 a4 a5 K a7 a8 a9 a10 a11) sg0)[6]? = some (a, e') ∧ eqE e e' := by
  refine ⟨_, _, _, rfl, Wl_at (y1F y h b1 b2 b3 qt at_ k z0 z1 z2 z3 f g a1 a2 a3 a4 a5 K a7 a8 a9 a10 a11) sg0 (k := 6) (by decide), ?_⟩
  exact eq_o (c := 2) rfl (by decide) rfl
theorem w_7 (y : YT) (h : Nat) (b1 b2 b3 : Nat → Nat) (qt at_ k : Nat) (z0 z1 z2 z3 : Nat × Nat) (f g a1 a2 a3 a4 a5 K a7 a8 a9 a10 a11 : Nat) : ∃ (a : Nat) (e e' : va_E), (fW y h b1 b2 b3 qt at_ k z0 z1 z2 z3 f ++ mW y g a1 a2 a3 a4 a5 K a7 a8 a9 a10 a11)[7]? = some (a, e) ∧ (Wl (y1F y h b1 b2 b3 qt at_ k z0 z1 z2 z3 f g a1 a2 a3 a4 a5 K a7 a8 a9 a10 a11) sg0)[7]? = some (a, e') ∧ eqE e e' := by
  refine ⟨_, _, _, rfl, Wl_at (y1F y h b1 b2 b3 qt at_ k z0 z1 z2 z3 f g a1 a2 a3 a4 a5 K a7 a8 a9 a10 a11) sg0 (k := 7) (by decide), ?_⟩
  exact eq_o (c := 2) rfl (by decide) rfl
theorem w_8 (y : YT) (h : Nat) (b1 b2 b3 : Nat → Nat) (qt at_ k : Nat) (z0 z1 z2 z3 : Nat × Nat) (f g a1 a2 a3 a4 a5 K a7 a8 a9 a10 a11 : Nat) : ∃ (a : Nat) (e e' : va_E), (fW y h b1 b2 b3 qt at_ k z0 z1 z2 z3 f ++ mW y g a1 a2 a3 a4 a5 K a7 a8 a9 a10 a11)[8]? = some (a, e) ∧ (Wl (y1F y h b1 b2 b3 qt at_ k z0 z1 z2 z3 f g a1 a2 a3 a4 a5 K a7 a8 a9 a10 a11) sg0)[8]? = some (a, e') ∧ eqE e e' := by
  refine ⟨_, _, _, rfl, Wl_at (y1F y h b1 b2 b3 qt at_ k z0 z1 z2 z3 f g a1 a2 a3 a4 a5 K a7 a8 a9 a10 a11) sg0 (k := 8) (by decide), ?_⟩
  exact eq_o (c := 2) rfl (by decide) rfl
theorem w_9 (y : YT) (h : Nat) (b1 b2 b3 : Nat → Nat) (qt at_ k : Nat) (z0 z1 z2 z3 : Nat × Nat) (f g a1 a2 a3 a4 a5 K a7 a8 a9 a10 a11 : Nat) : ∃ (a : Nat) (e e' : va_E), (fW y h b1 b2 b3 qt at_ k z0 z1 z2 z3 f ++ mW y g a1 a2 a3 a4 a5 K a7 a8 a9 a10 a11)[9]? = some (a, e) ∧ (Wl (y1F y h b1 b2 b3 qt at_ k z0 z1 z2 z3 f g a1 a2 a3 a4 a5 K a7 a8 a9 a10 a11) sg0)[9]? = some (a, e') ∧ eqE e e' := by
  refine ⟨_, _, _, rfl, Wl_at (y1F y h b1 b2 b3 qt at_ k z0 z1 z2 z3 f g a1 a2 a3 a4 a5 K a7 a8 a9 a10 a11) sg0 (k := 9) (by decide), ?_⟩
  exact eq_o (c := 2) rfl (by decide) rfl
theorem w_10 (y : YT) (h : Nat) (b1 b2 b3 : Nat → Nat) (qt at_ k : Nat) (z0 z1 z2 z3 : Nat × Nat) (f g a1 a2 a3 a4 a5 K a7 a8 a9 a10 a11 : Nat) : ∃ (a : Nat) (e e' : va_E), (fW y h b1 b2 b3 qt at_ k z0 z1 z2 z3 f ++ mW y g a1 a2 a3 a4 a5 K a7 a8 a9 a10 a11)[10]? = some (a, e) ∧ (Wl (y1F y h b1 b2 b3 qt at_ k z0 z1 z2 z3 f g a1 a2 a3 a4 a5 K a7 a8 a9 a10 a11) sg0)[10]? = some (a, e') ∧ eqE e e' := by
  refine ⟨_, _, _, rfl, Wl_at (y1F y h b1 b2 b3 qt at_ k z0 z1 z2 z3 f g a1 a2 a3 a4 a5 K a7 a8 a9 a10 a11) sg0 (k := 10) (by decide), ?_⟩
  exact eq_o (c := 2) rfl (by decide) rfl
theorem w_11 (y : YT) (h : Nat) (b1 b2 b3 : Nat → Nat) (qt at_ k : Nat) (z0 z1 z2 z3 : Nat × Nat) (f g a1 a2 a3 a4 a5 K a7 a8 a9 a10 a11 : Nat) : ∃ (a : Nat) (e e' : va_E), (fW y h b1 b2 b3 qt at_ k z0 z1 z2 z3 f ++ mW y g a1 a2 a3 a4 a5 K a7 a8 a9 a10 a11)[11]? = some (a, e) ∧ (Wl (y1F y h b1 b2 b3 qt at_ k z0 z1 z2 z3 f g a1 a2 a3 a4 a5 K a7 a8 a9 a10 a11) sg0)[11]? = some (a, e') ∧ eqE e e' := by
  refine ⟨_, _, _, rfl, Wl_at (y1F y h b1 b2 b3 qt at_ k z0 z1 z2 z3 f g a1 a2 a3 a4 a5 K a7 a8 a9 a10 a11) sg0 (k := 11) (by decide), ?_⟩
  exact eq_i rfl rfl
theorem w_12 (y : YT) (h : Nat) (b1 b2 b3 : Nat → Nat) (qt at_ k : Nat) (z0 z1 z2 z3 : Nat × Nat) (f g a1 a2 a3 a4 a5 K a7 a8 a9 a10 a11 : Nat) : ∃ (a : Nat) (e e' : va_E), (fW y h b1 b2 b3 qt at_ k z0 z1 z2 z3 f ++ mW y g a1 a2 a3 a4 a5 K a7 a8 a9 a10 a11)[12]? = some (a, e) ∧ (Wl (y1F y h b1 b2 b3 qt at_ k z0 z1 z2 z3 f g a1 a2 a3 a4 a5 K a7 a8 a9 a10 a11) sg0)[12]? = some (a, e') ∧ eqE e e' := by
  refine ⟨_, _, _, rfl, Wl_at (y1F y h b1 b2 b3 qt at_ k z0 z1 z2 z3 f g a1 a2 a3 a4 a5 K a7 a8 a9 a10 a11) sg0 (k := 12) (by decide), ?_⟩
  exact eq_i rfl rfl
theorem w_13 (y : YT) (h : Nat) (b1 b2 b3 : Nat → Nat) (qt at_ k : Nat) (z0 z1 z2 z3 : Nat × Nat) (f g a1 a2 a3 a4 a5 K a7 a8 a9 a10 a11 : Nat) : ∃ (a : Nat) (e e' : va_E), (fW y h b1 b2 b3 qt at_ k z0 z1 z2 z3 f ++ mW y g a1 a2 a3 a4 a5 K a7 a8 a9 a10 a11)[13]? = some (a, e) ∧ (Wl (y1F y h b1 b2 b3 qt at_ k z0 z1 z2 z3 f g a1 a2 a3 a4 a5 K a7 a8 a9 a10 a11) sg0)[13]? = some (a, e') ∧ eqE e e' := by
  refine ⟨_, _, _, rfl, Wl_at (y1F y h b1 b2 b3 qt at_ k z0 z1 z2 z3 f g a1 a2 a3 a4 a5 K a7 a8 a9 a10 a11) sg0 (k := 13) (by decide), ?_⟩
  exact eq_o (c := 0) rfl (by decide) rfl
theorem w_14 (y : YT) (h : Nat) (b1 b2 b3 : Nat → Nat) (qt at_ k : Nat) (z0 z1 z2 z3 : Nat × Nat) (f g a1 a2 a3 a4 a5 K a7 a8 a9 a10 a11 : Nat) : ∃ (a : Nat) (e e' : va_E), (fW y h b1 b2 b3 qt at_ k z0 z1 z2 z3 f ++ mW y g a1 a2 a3 a4 a5 K a7 a8 a9 a10 a11)[14]? = some (a, e) ∧ (Wl (y1F y h b1 b2 b3 qt at_ k z0 z1 z2 z3 f g a1 a2 a3 a4 a5 K a7 a8 a9 a10 a11) sg0)[14]? = some (a, e') ∧ eqE e e' := by
  refine ⟨_, _, _, rfl, Wl_at (y1F y h b1 b2 b3 qt at_ k z0 z1 z2 z3 f g a1 a2 a3 a4 a5 K a7 a8 a9 a10 a11) sg0 (k := 14) (by decide), ?_⟩
  exact eq_7 (y := (y1F y h b1 b2 b3 qt at_ k z0 z1 z2 z3 f g a1 a2 a3 a4 a5 K a7 a8 a9 a10 a11)) (σ := sg0) (k := 14) (n := 8) rfl rfl (fun j hj => by rcases (show j = 0 ∨ j = 1 ∨ j = 2 ∨ j = 3 ∨ j = 4 ∨ j = 5 ∨ j = 6 ∨ j = 7 by omega) with rfl | rfl | rfl | rfl | rfl | rfl | rfl | rfl <;> rfl)
theorem w_15 (y : YT) (h : Nat) (b1 b2 b3 : Nat → Nat) (qt at_ k : Nat) (z0 z1 z2 z3 : Nat × Nat) (f g a1 a2 a3 a4 a5 K a7 a8 a9 a10 a11 : Nat) : ∃ (a : Nat) (e e' : va_E), (fW y h b1 b2 b3 qt at_ k z0 z1 z2 z3 f ++ mW y g a1 a2 a3 a4 a5 K a7 a8 a9 a10 a11)[15]? = some (a, e) ∧ (Wl (y1F y h b1 b2 b3 qt at_ k z0 z1 z2 z3 f g a1 a2 a3 a4 a5 K a7 a8 a9 a10 a11) sg0)[15]? = some (a, e') ∧ eqE e e' := by
  refine ⟨_, _, _, rfl, Wl_at (y1F y h b1 b2 b3 qt at_ k z0 z1 z2 z3 f g a1 a2 a3 a4 a5 K a7 a8 a9 a10 a11) sg0 (k := 15) (by decide), ?_⟩
  exact eq_o (c := 2) rfl (by decide) rfl
theorem w_16 (y : YT) (h : Nat) (b1 b2 b3 : Nat → Nat) (qt at_ k : Nat) (z0 z1 z2 z3 : Nat × Nat) (f g a1 a2 a3 a4 a5 K a7 a8 a9 a10 a11 : Nat) : ∃ (a : Nat) (e e' : va_E), (fW y h b1 b2 b3 qt at_ k z0 z1 z2 z3 f ++ mW y g a1 a2 a3 a4 a5 K a7 a8 a9 a10 a11)[16]? = some (a, e) ∧ (Wl (y1F y h b1 b2 b3 qt at_ k z0 z1 z2 z3 f g a1 a2 a3 a4 a5 K a7 a8 a9 a10 a11) sg0)[16]? = some (a, e') ∧ eqE e e' := by
  refine ⟨_, _, _, rfl, Wl_at (y1F y h b1 b2 b3 qt at_ k z0 z1 z2 z3 f g a1 a2 a3 a4 a5 K a7 a8 a9 a10 a11) sg0 (k := 16) (by decide), ?_⟩
  exact eq_o (c := 2) rfl (by decide) rfl
theorem w_17 (y : YT) (h : Nat) (b1 b2 b3 : Nat → Nat) (qt at_ k : Nat) (z0 z1 z2 z3 : Nat × Nat) (f g a1 a2 a3 a4 a5 K a7 a8 a9 a10 a11 : Nat) : ∃ (a : Nat) (e e' : va_E), (fW y h b1 b2 b3 qt at_ k z0 z1 z2 z3 f ++ mW y g a1 a2 a3 a4 a5 K a7 a8 a9 a10 a11)[17]? = some (a, e) ∧ (Wl (y1F y h b1 b2 b3 qt at_ k z0 z1 z2 z3 f g a1 a2 a3 a4 a5 K a7 a8 a9 a10 a11) sg0)[17]? = some (a, e') ∧ eqE e e' := by
  refine ⟨_, _, _, rfl, Wl_at (y1F y h b1 b2 b3 qt at_ k z0 z1 z2 z3 f g a1 a2 a3 a4 a5 K a7 a8 a9 a10 a11) sg0 (k := 17) (by decide), ?_⟩
  exact eq_o (c := 2) rfl (by decide) rfl
theorem w_18 (y : YT) (h : Nat) (b1 b2 b3 : Nat → Nat) (qt at_ k : Nat) (z0 z1 z2 z3 : Nat × Nat) (f g a1 a2 a3 a4 a5 K a7 a8 a9 a10 a11 : Nat) : ∃ (a : Nat) (e e' : va_E), (fW y h b1 b2 b3 qt at_ k z0 z1 z2 z3 f ++ mW y g a1 a2 a3 a4 a5 K a7 a8 a9 a10 a11)[18]? = some (a, e) ∧ (Wl (y1F y h b1 b2 b3 qt at_ k z0 z1 z2 z3 f g a1 a2 a3 a4 a5 K a7 a8 a9 a10 a11) sg0)[18]? = some (a, e') ∧ eqE e e' := by
  refine ⟨_, _, _, rfl, Wl_at (y1F y h b1 b2 b3 qt at_ k z0 z1 z2 z3 f g a1 a2 a3 a4 a5 K a7 a8 a9 a10 a11) sg0 (k := 18) (by decide), ?_⟩
  exact eq_o (c := 2) rfl (by decide) rfl
theorem w_19 (y : YT) (h : Nat) (b1 b2 b3 : Nat → Nat) (qt at_ k : Nat) (z0 z1 z2 z3 : Nat × Nat) (f g a1 a2 a3 a4 a5 K a7 a8 a9 a10 a11 : Nat) : ∃ (a : Nat) (e e' : va_E), (fW y h b1 b2 b3 qt at_ k z0 z1 z2 z3 f ++ mW y g a1 a2 a3 a4 a5 K a7 a8 a9 a10 a11)[19]? = some (a, e) ∧ (Wl (y1F y h b1 b2 b3 qt at_ k z0 z1 z2 z3 f g a1 a2 a3 a4 a5 K a7 a8 a9 a10 a11) sg0)[19]? = some (a, e') ∧ eqE e e' := by
  refine ⟨_, _, _, rfl, Wl_at (y1F y h b1 b2 b3 qt at_ k z0 z1 z2 z3 f g a1 a2 a3 a4 a5 K a7 a8 a9 a10 a11) sg0 (k := 19) (by decide), ?_⟩
  exact eq_o (c := 2) rfl (by decide) rfl
theorem w_20 (y : YT) (h : Nat) (b1 b2 b3 : Nat → Nat) (qt at_ k : Nat) (z0 z1 z2 z3 : Nat × Nat) (f g a1 a2 a3 a4 a5 K a7 a8 a9 a10 a11 : Nat) : ∃ (a : Nat) (e e' : va_E), (fW y h b1 b2 b3 qt at_ k z0 z1 z2 z3 f ++ mW y g a1 a2 a3 a4 a5 K a7 a8 a9 a10 a11)[20]? = some (a, e) ∧ (Wl (y1F y h b1 b2 b3 qt at_ k z0 z1 z2 z3 f g a1 a2 a3 a4 a5 K a7 a8 a9 a10 a11) sg0)[20]? = some (a, e') ∧ eqE e e' := by
  refine ⟨_, _, _, rfl, Wl_at (y1F y h b1 b2 b3 qt at_ k z0 z1 z2 z3 f g a1 a2 a3 a4 a5 K a7 a8 a9 a10 a11) sg0 (k := 20) (by decide), ?_⟩
  exact eq_o (c := 2) rfl (by decide) rfl
theorem w_21 (y : YT) (h : Nat) (b1 b2 b3 : Nat → Nat) (qt at_ k : Nat) (z0 z1 z2 z3 : Nat × Nat) (f g a1 a2 a3 a4 a5 K a7 a8 a9 a10 a11 : Nat) : ∃ (a : Nat) (e e' : va_E), (fW y h b1 b2 b3 qt at_ k z0 z1 z2 z3 f ++ mW y g a1 a2 a3 a4 a5 K a7 a8 a9 a10 a11)[21]? = some (a, e) ∧ (Wl (y1F y h b1 b2 b3 qt at_ k z0 z1 z2 z3 f g a1 a2 a3 a4 a5 K a7 a8 a9 a10 a11) sg0)[21]? = some (a, e') ∧ eqE e e' := by
  refine ⟨_, _, _, rfl, Wl_at (y1F y h b1 b2 b3 qt at_ k z0 z1 z2 z3 f g a1 a2 a3 a4 a5 K a7 a8 a9 a10 a11) sg0 (k := 21) (by decide), ?_⟩
  exact eq_o (c := 2) rfl (by decide) rfl
theorem w_22 (y : YT) (h : Nat) (b1 b2 b3 : Nat → Nat) (qt at_ k : Nat) (z0 z1 z2 z3 : Nat × Nat) (f g a1 a2 a3 a4 a5 K a7 a8 a9 a10 a11 : Nat) : ∃ (a : Nat) (e e' : va_E), (fW y h b1 b2 b3 qt at_ k z0 z1 z2 z3 f ++ mW y g a1 a2 a3 a4 a5 K a7 a8 a9 a10 a11)[22]? = some (a, e) ∧ (Wl (y1F y h b1 b2 b3 qt at_ k z0 z1 z2 z3 f g a1 a2 a3 a4 a5 K a7 a8 a9 a10 a11) sg0)[22]? = some (a, e') ∧ eqE e e' := by
  refine ⟨_, _, _, rfl, Wl_at (y1F y h b1 b2 b3 qt at_ k z0 z1 z2 z3 f g a1 a2 a3 a4 a5 K a7 a8 a9 a10 a11) sg0 (k := 22) (by decide), ?_⟩
  exact eq_o (c := 2) rfl (by decide) rfl
theorem w_23 (y : YT) (h : Nat) (b1 b2 b3 : Nat → Nat) (qt at_ k : Nat) (z0 z1 z2 z3 : Nat × Nat) (f g a1 a2 a3 a4 a5 K a7 a8 a9 a10 a11 : Nat) : ∃ (a : Nat) (e e' : va_E), (fW y h b1 b2 b3 qt at_ k z0 z1 z2 z3 f ++ mW y g a1 a2 a3 a4 a5 K a7 a8 a9 a10 a11)[23]? = some (a, e) ∧ (Wl (y1F y h b1 b2 b3 qt at_ k z0 z1 z2 z3 f g a1 a2 a3 a4 a5 K a7 a8 a9 a10 a11) sg0)[23]? = some (a, e') ∧ eqE e e' := by
  refine ⟨_, _, _, rfl, Wl_at (y1F y h b1 b2 b3 qt at_ k z0 z1 z2 z3 f g a1 a2 a3 a4 a5 K a7 a8 a9 a10 a11) sg0 (k := 23) (by decide), ?_⟩
  exact eq_i rfl rfl
theorem w_24 (y : YT) (h : Nat) (b1 b2 b3 : Nat → Nat) (qt at_ k : Nat) (z0 z1 z2 z3 : Nat × Nat) (f g a1 a2 a3 a4 a5 K a7 a8 a9 a10 a11 : Nat) : ∃ (a : Nat) (e e' : va_E), (fW y h b1 b2 b3 qt at_ k z0 z1 z2 z3 f ++ mW y g a1 a2 a3 a4 a5 K a7 a8 a9 a10 a11)[24]? = some (a, e) ∧ (Wl (y1F y h b1 b2 b3 qt at_ k z0 z1 z2 z3 f g a1 a2 a3 a4 a5 K a7 a8 a9 a10 a11) sg0)[24]? = some (a, e') ∧ eqE e e' := by
  refine ⟨_, _, _, rfl, Wl_at (y1F y h b1 b2 b3 qt at_ k z0 z1 z2 z3 f g a1 a2 a3 a4 a5 K a7 a8 a9 a10 a11) sg0 (k := 24) (by decide), ?_⟩
  exact eq_i rfl rfl
theorem w_25 (y : YT) (h : Nat) (b1 b2 b3 : Nat → Nat) (qt at_ k : Nat) (z0 z1 z2 z3 : Nat × Nat) (f g a1 a2 a3 a4 a5 K a7 a8 a9 a10 a11 : Nat) : ∃ (a : Nat) (e e' : va_E), (fW y h b1 b2 b3 qt at_ k z0 z1 z2 z3 f ++ mW y g a1 a2 a3 a4 a5 K a7 a8 a9 a10 a11)[25]? = some (a, e) ∧ (Wl (y1F y h b1 b2 b3 qt at_ k z0 z1 z2 z3 f g a1 a2 a3 a4 a5 K a7 a8 a9 a10 a11) sg0)[25]? = some (a, e') ∧ eqE e e' := by
  refine ⟨_, _, _, rfl, Wl_at (y1F y h b1 b2 b3 qt at_ k z0 z1 z2 z3 f g a1 a2 a3 a4 a5 K a7 a8 a9 a10 a11) sg0 (k := 25) (by decide), ?_⟩
  exact eq_o (c := 0) rfl (by decide) rfl
theorem w_26 (y : YT) (h : Nat) (b1 b2 b3 : Nat → Nat) (qt at_ k : Nat) (z0 z1 z2 z3 : Nat × Nat) (f g a1 a2 a3 a4 a5 K a7 a8 a9 a10 a11 : Nat) : ∃ (a : Nat) (e e' : va_E), (fW y h b1 b2 b3 qt at_ k z0 z1 z2 z3 f ++ mW y g a1 a2 a3 a4 a5 K a7 a8 a9 a10 a11)[26]? = some (a, e) ∧ (Wl (y1F y h b1 b2 b3 qt at_ k z0 z1 z2 z3 f g a1 a2 a3 a4 a5 K a7 a8 a9 a10 a11) sg0)[26]? = some (a, e') ∧ eqE e e' := by
  refine ⟨_, _, _, rfl, Wl_at (y1F y h b1 b2 b3 qt at_ k z0 z1 z2 z3 f g a1 a2 a3 a4 a5 K a7 a8 a9 a10 a11) sg0 (k := 26) (by decide), ?_⟩
  exact eq_7 (y := (y1F y h b1 b2 b3 qt at_ k z0 z1 z2 z3 f g a1 a2 a3 a4 a5 K a7 a8 a9 a10 a11)) (σ := sg0) (k := 26) (n := 8) rfl rfl (fun j hj => by rcases (show j = 0 ∨ j = 1 ∨ j = 2 ∨ j = 3 ∨ j = 4 ∨ j = 5 ∨ j = 6 ∨ j = 7 by omega) with rfl | rfl | rfl | rfl | rfl | rfl | rfl | rfl <;> rfl)
theorem w_27 (y : YT) (h : Nat) (b1 b2 b3 : Nat → Nat) (qt at_ k : Nat) (z0 z1 z2 z3 : Nat × Nat) (f g a1 a2 a3 a4 a5 K a7 a8 a9 a10 a11 : Nat) : ∃ (a : Nat) (e e' : va_E), (fW y h b1 b2 b3 qt at_ k z0 z1 z2 z3 f ++ mW y g a1 a2 a3 a4 a5 K a7 a8 a9 a10 a11)[27]? = some (a, e) ∧ (Wl (y1F y h b1 b2 b3 qt at_ k z0 z1 z2 z3 f g a1 a2 a3 a4 a5 K a7 a8 a9 a10 a11) sg0)[27]? = some (a, e') ∧ eqE e e' := by
  refine ⟨_, _, _, rfl, Wl_at (y1F y h b1 b2 b3 qt at_ k z0 z1 z2 z3 f g a1 a2 a3 a4 a5 K a7 a8 a9 a10 a11) sg0 (k := 27) (by decide), ?_⟩
  exact eq_o (c := 2) rfl (by decide) rfl
theorem w_28 (y : YT) (h : Nat) (b1 b2 b3 : Nat → Nat) (qt at_ k : Nat) (z0 z1 z2 z3 : Nat × Nat) (f g a1 a2 a3 a4 a5 K a7 a8 a9 a10 a11 : Nat) : ∃ (a : Nat) (e e' : va_E), (fW y h b1 b2 b3 qt at_ k z0 z1 z2 z3 f ++ mW y g a1 a2 a3 a4 a5 K a7 a8 a9 a10 a11)[28]? = some (a, e) ∧ (Wl (y1F y h b1 b2 b3 qt at_ k z0 z1 z2 z3 f g a1 a2 a3 a4 a5 K a7 a8 a9 a10 a11) sg0)[28]? = some (a, e') ∧ eqE e e' := by
  refine ⟨_, _, _, rfl, Wl_at (y1F y h b1 b2 b3 qt at_ k z0 z1 z2 z3 f g a1 a2 a3 a4 a5 K a7 a8 a9 a10 a11) sg0 (k := 28) (by decide), ?_⟩
  exact eq_o (c := 2) rfl (by decide) rfl
theorem w_29 (y : YT) (h : Nat) (b1 b2 b3 : Nat → Nat) (qt at_ k : Nat) (z0 z1 z2 z3 : Nat × Nat) (f g a1 a2 a3 a4 a5 K a7 a8 a9 a10 a11 : Nat) : ∃ (a : Nat) (e e' : va_E), (fW y h b1 b2 b3 qt at_ k z0 z1 z2 z3 f ++ mW y g a1 a2 a3 a4 a5 K a7 a8 a9 a10 a11)[29]? = some (a, e) ∧ (Wl (y1F y h b1 b2 b3 qt at_ k z0 z1 z2 z3 f g a1 a2 a3 a4 a5 K a7 a8 a9 a10 a11) sg0)[29]? = some (a, e') ∧ eqE e e' := by
  refine ⟨_, _, _, rfl, Wl_at (y1F y h b1 b2 b3 qt at_ k z0 z1 z2 z3 f g a1 a2 a3 a4 a5 K a7 a8 a9 a10 a11) sg0 (k := 29) (by decide), ?_⟩
  exact eq_o (c := 2) rfl (by decide) rfl
theorem w_30 (y : YT) (h : Nat) (b1 b2 b3 : Nat → Nat) (qt at_ k : Nat) (z0 z1 z2 z3 : Nat × Nat) (f g a1 a2 a3 a4 a5 K a7 a8 a9 a10 a11 : Nat) : ∃ (a : Nat) (e e' : va_E), (fW y h b1 b2 b3 qt at_ k z0 z1 z2 z3 f ++ mW y g a1 a2 a3 a4 a5 K a7 a8 a9 a10 a11)[30]? = some (a, e) ∧ (Wl (y1F y h b1 b2 b3 qt at_ k z0 z1 z2 z3 f g a1 a2 a3 a4 a5 K a7 a8 a9 a10 a11) sg0)[30]? = some (a, e') ∧ eqE e e' := by
  refine ⟨_, _, _, rfl, Wl_at (y1F y h b1 b2 b3 qt at_ k z0 z1 z2 z3 f g a1 a2 a3 a4 a5 K a7 a8 a9 a10 a11) sg0 (k := 30) (by decide), ?_⟩
  exact eq_o (c := 2) rfl (by decide) rfl
theorem w_31 (y : YT) (h : Nat) (b1 b2 b3 : Nat → Nat) (qt at_ k : Nat) (z0 z1 z2 z3 : Nat × Nat) (f g a1 a2 a3 a4 a5 K a7 a8 a9 a10 a11 : Nat) : ∃ (a : Nat) (e e' : va_E), (fW y h b1 b2 b3 qt at_ k z0 z1 z2 z3 f ++ mW y g a1 a2 a3 a4 a5 K a7 a8 a9 a10 a11)[31]? = some (a, e) ∧ (Wl (y1F y h b1 b2 b3 qt at_ k z0 z1 z2 z3 f g a1 a2 a3 a4 a5 K a7 a8 a9 a10 a11) sg0)[31]? = some (a, e') ∧ eqE e e' := by
  refine ⟨_, _, _, rfl, Wl_at (y1F y h b1 b2 b3 qt at_ k z0 z1 z2 z3 f g a1 a2 a3 a4 a5 K a7 a8 a9 a10 a11) sg0 (k := 31) (by decide), ?_⟩
  exact eq_o (c := 2) rfl (by decide) rfl
theorem w_32 (y : YT) (h : Nat) (b1 b2 b3 : Nat → Nat) (qt at_ k : Nat) (z0 z1 z2 z3 : Nat × Nat) (f g a1 a2 a3 a4 a5 K a7 a8 a9 a10 a11 : Nat) : ∃ (a : Nat) (e e' : va_E), (fW y h b1 b2 b3 qt at_ k z0 z1 z2 z3 f ++ mW y g a1 a2 a3 a4 a5 K a7 a8 a9 a10 a11)[32]? = some (a, e) ∧ (Wl (y1F y h b1 b2 b3 qt at_ k z0 z1 z2 z3 f g a1 a2 a3 a4 a5 K a7 a8 a9 a10 a11) sg0)[32]? = some (a, e') ∧ eqE e e' := by
  refine ⟨_, _, _, rfl, Wl_at (y1F y h b1 b2 b3 qt at_ k z0 z1 z2 z3 f g a1 a2 a3 a4 a5 K a7 a8 a9 a10 a11) sg0 (k := 32) (by decide), ?_⟩
  exact eq_o (c := 2) rfl (by decide) rfl
theorem w_33 (y : YT) (h : Nat) (b1 b2 b3 : Nat → Nat) (qt at_ k : Nat) (z0 z1 z2 z3 : Nat × Nat) (f g a1 a2 a3 a4 a5 K a7 a8 a9 a10 a11 : Nat) : ∃ (a : Nat) (e e' : va_E), (fW y h b1 b2 b3 qt at_ k z0 z1 z2 z3 f ++ mW y g a1 a2 a3 a4 a5 K a7 a8 a9 a10 a11)[33]? = some (a, e) ∧ (Wl (y1F y h b1 b2 b3 qt at_ k z0 z1 z2 z3 f g a1 a2 a3 a4 a5 K a7 a8 a9 a10 a11) sg0)[33]? = some (a, e') ∧ eqE e e' := by
  refine ⟨_, _, _, rfl, Wl_at (y1F y h b1 b2 b3 qt at_ k z0 z1 z2 z3 f g a1 a2 a3 a4 a5 K a7 a8 a9 a10 a11) sg0 (k := 33) (by decide), ?_⟩
  exact eq_o (c := 2) rfl (by decide) rfl
theorem w_34 (y : YT) (h : Nat) (b1 b2 b3 : Nat → Nat) (qt at_ k : Nat) (z0 z1 z2 z3 : Nat × Nat) (f g a1 a2 a3 a4 a5 K a7 a8 a9 a10 a11 : Nat) : ∃ (a : Nat) (e e' : va_E), (fW y h b1 b2 b3 qt at_ k z0 z1 z2 z3 f ++ mW y g a1 a2 a3 a4 a5 K a7 a8 a9 a10 a11)[34]? = some (a, e) ∧ (Wl (y1F y h b1 b2 b3 qt at_ k z0 z1 z2 z3 f g a1 a2 a3 a4 a5 K a7 a8 a9 a10 a11) sg0)[34]? = some (a, e') ∧ eqE e e' := by
  refine ⟨_, _, _, rfl, Wl_at (y1F y h b1 b2 b3 qt at_ k z0 z1 z2 z3 f g a1 a2 a3 a4 a5 K a7 a8 a9 a10 a11) sg0 (k := 34) (by decide), ?_⟩
  exact eq_o (c := 2) rfl (by decide) rfl
theorem w_35 (y : YT) (h : Nat) (b1 b2 b3 : Nat → Nat) (qt at_ k : Nat) (z0 z1 z2 z3 : Nat × Nat) (f g a1 a2 a3 a4 a5 K a7 a8 a9 a10 a11 : Nat) : ∃ (a : Nat) (e e' : va_E), (fW y h b1 b2 b3 qt at_ k z0 z1 z2 z3 f ++ mW y g a1 a2 a3 a4 a5 K a7 a8 a9 a10 a11)[35]? = some (a, e) ∧ (Wl (y1F y h b1 b2 b3 qt at_ k z0 z1 z2 z3 f g a1 a2 a3 a4 a5 K a7 a8 a9 a10 a11) sg0)[35]? = some (a, e') ∧ eqE e e' := by
  refine ⟨_, _, _, rfl, Wl_at (y1F y h b1 b2 b3 qt at_ k z0 z1 z2 z3 f g a1 a2 a3 a4 a5 K a7 a8 a9 a10 a11) sg0 (k := 35) (by decide), ?_⟩
  exact eq_i rfl rfl
theorem w_36 (y : YT) (h : Nat) (b1 b2 b3 : Nat → Nat) (qt at_ k : Nat) (z0 z1 z2 z3 : Nat × Nat) (f g a1 a2 a3 a4 a5 K a7 a8 a9 a10 a11 : Nat) : ∃ (a : Nat) (e e' : va_E), (fW y h b1 b2 b3 qt at_ k z0 z1 z2 z3 f ++ mW y g a1 a2 a3 a4 a5 K a7 a8 a9 a10 a11)[36]? = some (a, e) ∧ (Wl (y1F y h b1 b2 b3 qt at_ k z0 z1 z2 z3 f g a1 a2 a3 a4 a5 K a7 a8 a9 a10 a11) sg0)[36]? = some (a, e') ∧ eqE e e' := by
  refine ⟨_, _, _, rfl, Wl_at (y1F y h b1 b2 b3 qt at_ k z0 z1 z2 z3 f g a1 a2 a3 a4 a5 K a7 a8 a9 a10 a11) sg0 (k := 36) (by decide), ?_⟩
  exact eq_i rfl rfl
theorem w_37 (y : YT) (h : Nat) (b1 b2 b3 : Nat → Nat) (qt at_ k : Nat) (z0 z1 z2 z3 : Nat × Nat) (f g a1 a2 a3 a4 a5 K a7 a8 a9 a10 a11 : Nat) : ∃ (a : Nat) (e e' : va_E), (fW y h b1 b2 b3 qt at_ k z0 z1 z2 z3 f ++ mW y g a1 a2 a3 a4 a5 K a7 a8 a9 a10 a11)[37]? = some (a, e) ∧ (Wl (y1F y h b1 b2 b3 qt at_ k z0 z1 z2 z3 f g a1 a2 a3 a4 a5 K a7 a8 a9 a10 a11) sg0)[37]? = some (a, e') ∧ eqE e e' := by
  refine ⟨_, _, _, rfl, Wl_at (y1F y h b1 b2 b3 qt at_ k z0 z1 z2 z3 f g a1 a2 a3 a4 a5 K a7 a8 a9 a10 a11) sg0 (k := 37) (by decide), ?_⟩
  exact eq_o (c := 3) rfl (by decide) rfl
theorem w_38 (y : YT) (h : Nat) (b1 b2 b3 : Nat → Nat) (qt at_ k : Nat) (z0 z1 z2 z3 : Nat × Nat) (f g a1 a2 a3 a4 a5 K a7 a8 a9 a10 a11 : Nat) : ∃ (a : Nat) (e e' : va_E), (fW y h b1 b2 b3 qt at_ k z0 z1 z2 z3 f ++ mW y g a1 a2 a3 a4 a5 K a7 a8 a9 a10 a11)[38]? = some (a, e) ∧ (Wl (y1F y h b1 b2 b3 qt at_ k z0 z1 z2 z3 f g a1 a2 a3 a4 a5 K a7 a8 a9 a10 a11) sg0)[38]? = some (a, e') ∧ eqE e e' := by
  refine ⟨_, _, _, rfl, Wl_at (y1F y h b1 b2 b3 qt at_ k z0 z1 z2 z3 f g a1 a2 a3 a4 a5 K a7 a8 a9 a10 a11) sg0 (k := 38) (by decide), ?_⟩
  exact eq_i rfl rfl
theorem w_39 (y : YT) (h : Nat) (b1 b2 b3 : Nat → Nat) (qt at_ k : Nat) (z0 z1 z2 z3 : Nat × Nat) (f g a1 a2 a3 a4 a5 K a7 a8 a9 a10 a11 : Nat) : ∃ (a : Nat) (e e' : va_E), (fW y h b1 b2 b3 qt at_ k z0 z1 z2 z3 f ++ mW y g a1 a2 a3 a4 a5 K a7 a8 a9 a10 a11)[39]? = some (a, e) ∧ (Wl (y1F y h b1 b2 b3 qt at_ k z0 z1 z2 z3 f g a1 a2 a3 a4 a5 K a7 a8 a9 a10 a11) sg0)[39]? = some (a, e') ∧ eqE e e' := by
  refine ⟨_, _, _, rfl, Wl_at (y1F y h b1 b2 b3 qt at_ k z0 z1 z2 z3 f g a1 a2 a3 a4 a5 K a7 a8 a9 a10 a11) sg0 (k := 39) (by decide), ?_⟩
  exact eq_8 (y := (y1F y h b1 b2 b3 qt at_ k z0 z1 z2 z3 f g a1 a2 a3 a4 a5 K a7 a8 a9 a10 a11)) (σ := sg0) (k := 39) (n := 4) rfl rfl (fun j hj => by rcases (show j = 0 ∨ j = 1 ∨ j = 2 ∨ j = 3 by omega) with rfl | rfl | rfl | rfl <;> rfl)
theorem w_40 (y : YT) (h : Nat) (b1 b2 b3 : Nat → Nat) (qt at_ k : Nat) (z0 z1 z2 z3 : Nat × Nat) (f g a1 a2 a3 a4 a5 K a7 a8 a9 a10 a11 : Nat) : ∃ (a : Nat) (e e' : va_E), (fW y h b1 b2 b3 qt at_ k z0 z1 z2 z3 f ++ mW y g a1 a2 a3 a4 a5 K a7 a8 a9 a10 a11)[40]? = some (a, e) ∧ (Wl (y1F y h b1 b2 b3 qt at_ k z0 z1 z2 z3 f g a1 a2 a3 a4 a5 K a7 a8 a9 a10 a11) sg0)[40]? = some (a, e') ∧ eqE e e' := by
  refine ⟨_, _, _, rfl, Wl_at (y1F y h b1 b2 b3 qt at_ k z0 z1 z2 z3 f g a1 a2 a3 a4 a5 K a7 a8 a9 a10 a11) sg0 (k := 40) (by decide), ?_⟩
  exact eq_o (c := 1) rfl (by decide) rfl
theorem w_41 (y : YT) (h : Nat) (b1 b2 b3 : Nat → Nat) (qt at_ k : Nat) (z0 z1 z2 z3 : Nat × Nat) (f g a1 a2 a3 a4 a5 K a7 a8 a9 a10 a11 : Nat) : ∃ (a : Nat) (e e' : va_E), (fW y h b1 b2 b3 qt at_ k z0 z1 z2 z3 f ++ mW y g a1 a2 a3 a4 a5 K a7 a8 a9 a10 a11)[41]? = some (a, e) ∧ (Wl (y1F y h b1 b2 b3 qt at_ k z0 z1 z2 z3 f g a1 a2 a3 a4 a5 K a7 a8 a9 a10 a11) sg0)[41]? = some (a, e') ∧ eqE e e' := by
  refine ⟨_, _, _, rfl, Wl_at (y1F y h b1 b2 b3 qt at_ k z0 z1 z2 z3 f g a1 a2 a3 a4 a5 K a7 a8 a9 a10 a11) sg0 (k := 41) (by decide), ?_⟩
  exact eq_i rfl rfl
theorem w_42 (y : YT) (h : Nat) (b1 b2 b3 : Nat → Nat) (qt at_ k : Nat) (z0 z1 z2 z3 : Nat × Nat) (f g a1 a2 a3 a4 a5 K a7 a8 a9 a10 a11 : Nat) : ∃ (a : Nat) (e e' : va_E), (fW y h b1 b2 b3 qt at_ k z0 z1 z2 z3 f ++ mW y g a1 a2 a3 a4 a5 K a7 a8 a9 a10 a11)[42]? = some (a, e) ∧ (Wl (y1F y h b1 b2 b3 qt at_ k z0 z1 z2 z3 f g a1 a2 a3 a4 a5 K a7 a8 a9 a10 a11) sg0)[42]? = some (a, e') ∧ eqE e e' := by
  refine ⟨_, _, _, rfl, Wl_at (y1F y h b1 b2 b3 qt at_ k z0 z1 z2 z3 f g a1 a2 a3 a4 a5 K a7 a8 a9 a10 a11) sg0 (k := 42) (by decide), ?_⟩
  exact eq_o (c := 1) rfl (by decide) rfl
theorem w_43 (y : YT) (h : Nat) (b1 b2 b3 : Nat → Nat) (qt at_ k : Nat) (z0 z1 z2 z3 : Nat × Nat) (f g a1 a2 a3 a4 a5 K a7 a8 a9 a10 a11 : Nat) : ∃ (a : Nat) (e e' : va_E), (fW y h b1 b2 b3 qt at_ k z0 z1 z2 z3 f ++ mW y g a1 a2 a3 a4 a5 K a7 a8 a9 a10 a11)[43]? = some (a, e) ∧ (Wl (y1F y h b1 b2 b3 qt at_ k z0 z1 z2 z3 f g a1 a2 a3 a4 a5 K a7 a8 a9 a10 a11) sg0)[43]? = some (a, e') ∧ eqE e e' := by
  refine ⟨_, _, _, rfl, Wl_at (y1F y h b1 b2 b3 qt at_ k z0 z1 z2 z3 f g a1 a2 a3 a4 a5 K a7 a8 a9 a10 a11) sg0 (k := 43) (by decide), ?_⟩
  exact eq_i rfl rfl
theorem w_44 (y : YT) (h : Nat) (b1 b2 b3 : Nat → Nat) (qt at_ k : Nat) (z0 z1 z2 z3 : Nat × Nat) (f g a1 a2 a3 a4 a5 K a7 a8 a9 a10 a11 : Nat) : ∃ (a : Nat) (e e' : va_E), (fW y h b1 b2 b3 qt at_ k z0 z1 z2 z3 f ++ mW y g a1 a2 a3 a4 a5 K a7 a8 a9 a10 a11)[44]? = some (a, e) ∧ (Wl (y1F y h b1 b2 b3 qt at_ k z0 z1 z2 z3 f g a1 a2 a3 a4 a5 K a7 a8 a9 a10 a11) sg0)[44]? = some (a, e') ∧ eqE e e' := by
  refine ⟨_, _, _, rfl, Wl_at (y1F y h b1 b2 b3 qt at_ k z0 z1 z2 z3 f g a1 a2 a3 a4 a5 K a7 a8 a9 a10 a11) sg0 (k := 44) (by decide), ?_⟩
  exact eq_o (c := 1) rfl (by decide) rfl
theorem w_45 (y : YT) (h : Nat) (b1 b2 b3 : Nat → Nat) (qt at_ k : Nat) (z0 z1 z2 z3 : Nat × Nat) (f g a1 a2 a3 a4 a5 K a7 a8 a9 a10 a11 : Nat) : ∃ (a : Nat) (e e' : va_E), (fW y h b1 b2 b3 qt at_ k z0 z1 z2 z3 f ++ mW y g a1 a2 a3 a4 a5 K a7 a8 a9 a10 a11)[45]? = some (a, e) ∧ (Wl (y1F y h b1 b2 b3 qt at_ k z0 z1 z2 z3 f g a1 a2 a3 a4 a5 K a7 a8 a9 a10 a11) sg0)[45]? = some (a, e') ∧ eqE e e' := by
  refine ⟨_, _, _, rfl, Wl_at (y1F y h b1 b2 b3 qt at_ k z0 z1 z2 z3 f g a1 a2 a3 a4 a5 K a7 a8 a9 a10 a11) sg0 (k := 45) (by decide), ?_⟩
  exact eq_i rfl rfl
theorem w_46 (y : YT) (h : Nat) (b1 b2 b3 : Nat → Nat) (qt at_ k : Nat) (z0 z1 z2 z3 : Nat × Nat) (f g a1 a2 a3 a4 a5 K a7 a8 a9 a10 a11 : Nat) : ∃ (a : Nat) (e e' : va_E), (fW y h b1 b2 b3 qt at_ k z0 z1 z2 z3 f ++ mW y g a1 a2 a3 a4 a5 K a7 a8 a9 a10 a11)[46]? = some (a, e) ∧ (Wl (y1F y h b1 b2 b3 qt at_ k z0 z1 z2 z3 f g a1 a2 a3 a4 a5 K a7 a8 a9 a10 a11) sg0)[46]? = some (a, e') ∧ eqE e e' := by
  refine ⟨_, _, _, rfl, Wl_at (y1F y h b1 b2 b3 qt at_ k z0 z1 z2 z3 f g a1 a2 a3 a4 a5 K a7 a8 a9 a10 a11) sg0 (k := 46) (by decide), ?_⟩
  exact eq_o (c := 1) rfl (by decide) rfl
theorem w_47 (y : YT) (h : Nat) (b1 b2 b3 : Nat → Nat) (qt at_ k : Nat) (z0 z1 z2 z3 : Nat × Nat) (f g a1 a2 a3 a4 a5 K a7 a8 a9 a10 a11 : Nat) : ∃ (a : Nat) (e e' : va_E), (fW y h b1 b2 b3 qt at_ k z0 z1 z2 z3 f ++ mW y g a1 a2 a3 a4 a5 K a7 a8 a9 a10 a11)[47]? = some (a, e) ∧ (Wl (y1F y h b1 b2 b3 qt at_ k z0 z1 z2 z3 f g a1 a2 a3 a4 a5 K a7 a8 a9 a10 a11) sg0)[47]? = some (a, e') ∧ eqE e e' := by
  refine ⟨_, _, _, rfl, Wl_at (y1F y h b1 b2 b3 qt at_ k z0 z1 z2 z3 f g a1 a2 a3 a4 a5 K a7 a8 a9 a10 a11) sg0 (k := 47) (by decide), ?_⟩
  exact eq_i rfl rfl
theorem w_48 (y : YT) (h : Nat) (b1 b2 b3 : Nat → Nat) (qt at_ k : Nat) (z0 z1 z2 z3 : Nat × Nat) (f g a1 a2 a3 a4 a5 K a7 a8 a9 a10 a11 : Nat) : ∃ (a : Nat) (e e' : va_E), (fW y h b1 b2 b3 qt at_ k z0 z1 z2 z3 f ++ mW y g a1 a2 a3 a4 a5 K a7 a8 a9 a10 a11)[48]? = some (a, e) ∧ (Wl (y1F y h b1 b2 b3 qt at_ k z0 z1 z2 z3 f g a1 a2 a3 a4 a5 K a7 a8 a9 a10 a11) sg0)[48]? = some (a, e') ∧ eqE e e' := by
  refine ⟨_, _, _, rfl, Wl_at (y1F y h b1 b2 b3 qt at_ k z0 z1 z2 z3 f g a1 a2 a3 a4 a5 K a7 a8 a9 a10 a11) sg0 (k := 48) (by decide), ?_⟩
  exact eq_i rfl rfl
theorem w_49 (y : YT) (h : Nat) (b1 b2 b3 : Nat → Nat) (qt at_ k : Nat) (z0 z1 z2 z3 : Nat × Nat) (f g a1 a2 a3 a4 a5 K a7 a8 a9 a10 a11 : Nat) : ∃ (a : Nat) (e e' : va_E), (fW y h b1 b2 b3 qt at_ k z0 z1 z2 z3 f ++ mW y g a1 a2 a3 a4 a5 K a7 a8 a9 a10 a11)[49]? = some (a, e) ∧ (Wl (y1F y h b1 b2 b3 qt at_ k z0 z1 z2 z3 f g a1 a2 a3 a4 a5 K a7 a8 a9 a10 a11) sg0)[49]? = some (a, e') ∧ eqE e e' := by
  refine ⟨_, _, _, rfl, Wl_at (y1F y h b1 b2 b3 qt at_ k z0 z1 z2 z3 f g a1 a2 a3 a4 a5 K a7 a8 a9 a10 a11) sg0 (k := 49) (by decide), ?_⟩
  exact eq_o (c := 5) rfl (by decide) rfl
theorem w_50 (y : YT) (h : Nat) (b1 b2 b3 : Nat → Nat) (qt at_ k : Nat) (z0 z1 z2 z3 : Nat × Nat) (f g a1 a2 a3 a4 a5 K a7 a8 a9 a10 a11 : Nat) : ∃ (a : Nat) (e e' : va_E), (fW y h b1 b2 b3 qt at_ k z0 z1 z2 z3 f ++ mW y g a1 a2 a3 a4 a5 K a7 a8 a9 a10 a11)[50]? = some (a, e) ∧ (Wl (y1F y h b1 b2 b3 qt at_ k z0 z1 z2 z3 f g a1 a2 a3 a4 a5 K a7 a8 a9 a10 a11) sg0)[50]? = some (a, e') ∧ eqE e e' := by
  refine ⟨_, _, _, rfl, Wl_at (y1F y h b1 b2 b3 qt at_ k z0 z1 z2 z3 f g a1 a2 a3 a4 a5 K a7 a8 a9 a10 a11) sg0 (k := 50) (by decide), ?_⟩
  exact eq_i rfl rfl
theorem w_51 (y : YT) (h : Nat) (b1 b2 b3 : Nat → Nat) (qt at_ k : Nat) (z0 z1 z2 z3 : Nat × Nat) (f g a1 a2 a3 a4 a5 K a7 a8 a9 a10 a11 : Nat) : ∃ (a : Nat) (e e' : va_E), (fW y h b1 b2 b3 qt at_ k z0 z1 z2 z3 f ++ mW y g a1 a2 a3 a4 a5 K a7 a8 a9 a10 a11)[51]? = some (a, e) ∧ (Wl (y1F y h b1 b2 b3 qt at_ k z0 z1 z2 z3 f g a1 a2 a3 a4 a5 K a7 a8 a9 a10 a11) sg0)[51]? = some (a, e') ∧ eqE e e' := by
  refine ⟨_, _, _, rfl, Wl_at (y1F y h b1 b2 b3 qt at_ k z0 z1 z2 z3 f g a1 a2 a3 a4 a5 K a7 a8 a9 a10 a11) sg0 (k := 51) (by decide), ?_⟩
  exact eq_i rfl rfl
theorem w_52 (y : YT) (h : Nat) (b1 b2 b3 : Nat → Nat) (qt at_ k : Nat) (z0 z1 z2 z3 : Nat × Nat) (f g a1 a2 a3 a4 a5 K a7 a8 a9 a10 a11 : Nat) : ∃ (a : Nat) (e e' : va_E), (fW y h b1 b2 b3 qt at_ k z0 z1 z2 z3 f ++ mW y g a1 a2 a3 a4 a5 K a7 a8 a9 a10 a11)[52]? = some (a, e) ∧ (Wl (y1F y h b1 b2 b3 qt at_ k z0 z1 z2 z3 f g a1 a2 a3 a4 a5 K a7 a8 a9 a10 a11) sg0)[52]? = some (a, e') ∧ eqE e e' := by
  refine ⟨_, _, _, rfl, Wl_at (y1F y h b1 b2 b3 qt at_ k z0 z1 z2 z3 f g a1 a2 a3 a4 a5 K a7 a8 a9 a10 a11) sg0 (k := 52) (by decide), ?_⟩
  exact eq_i rfl rfl
theorem w_53 (y : YT) (h : Nat) (b1 b2 b3 : Nat → Nat) (qt at_ k : Nat) (z0 z1 z2 z3 : Nat × Nat) (f g a1 a2 a3 a4 a5 K a7 a8 a9 a10 a11 : Nat) : ∃ (a : Nat) (e e' : va_E), (fW y h b1 b2 b3 qt at_ k z0 z1 z2 z3 f ++ mW y g a1 a2 a3 a4 a5 K a7 a8 a9 a10 a11)[53]? = some (a, e) ∧ (Wl (y1F y h b1 b2 b3 qt at_ k z0 z1 z2 z3 f g a1 a2 a3 a4 a5 K a7 a8 a9 a10 a11) sg0)[53]? = some (a, e') ∧ eqE e e' := by
  refine ⟨_, _, _, rfl, Wl_at (y1F y h b1 b2 b3 qt at_ k z0 z1 z2 z3 f g a1 a2 a3 a4 a5 K a7 a8 a9 a10 a11) sg0 (k := 53) (by decide), ?_⟩
  exact eq_i rfl rfl
theorem w_54 (y : YT) (h : Nat) (b1 b2 b3 : Nat → Nat) (qt at_ k : Nat) (z0 z1 z2 z3 : Nat × Nat) (f g a1 a2 a3 a4 a5 K a7 a8 a9 a10 a11 : Nat) : ∃ (a : Nat) (e e' : va_E), (fW y h b1 b2 b3 qt at_ k z0 z1 z2 z3 f ++ mW y g a1 a2 a3 a4 a5 K a7 a8 a9 a10 a11)[54]? = some (a, e) ∧ (Wl (y1F y h b1 b2 b3 qt at_ k z0 z1 z2 z3 f g a1 a2 a3 a4 a5 K a7 a8 a9 a10 a11) sg0)[54]? = some (a, e') ∧ eqE e e' := by
  refine ⟨_, _, _, rfl, Wl_at (y1F y h b1 b2 b3 qt at_ k z0 z1 z2 z3 f g a1 a2 a3 a4 a5 K a7 a8 a9 a10 a11) sg0 (k := 54) (by decide), ?_⟩
  exact eq_i rfl rfl
theorem w_55 (y : YT) (h : Nat) (b1 b2 b3 : Nat → Nat) (qt at_ k : Nat) (z0 z1 z2 z3 : Nat × Nat) (f g a1 a2 a3 a4 a5 K a7 a8 a9 a10 a11 : Nat) : ∃ (a : Nat) (e e' : va_E), (fW y h b1 b2 b3 qt at_ k z0 z1 z2 z3 f ++ mW y g a1 a2 a3 a4 a5 K a7 a8 a9 a10 a11)[55]? = some (a, e) ∧ (Wl (y1F y h b1 b2 b3 qt at_ k z0 z1 z2 z3 f g a1 a2 a3 a4 a5 K a7 a8 a9 a10 a11) sg0)[55]? = some (a, e') ∧ eqE e e' := by
  refine ⟨_, _, _, rfl, Wl_at (y1F y h b1 b2 b3 qt at_ k z0 z1 z2 z3 f g a1 a2 a3 a4 a5 K a7 a8 a9 a10 a11) sg0 (k := 55) (by decide), ?_⟩
  exact eq_9 (y := (y1F y h b1 b2 b3 qt at_ k z0 z1 z2 z3 f g a1 a2 a3 a4 a5 K a7 a8 a9 a10 a11)) (σ := sg0) (k := 55) (n := 7) rfl rfl (fun j hj => congrArg some (adF_s _ _ j).symm)
theorem w_56 (y : YT) (h : Nat) (b1 b2 b3 : Nat → Nat) (qt at_ k : Nat) (z0 z1 z2 z3 : Nat × Nat) (f g a1 a2 a3 a4 a5 K a7 a8 a9 a10 a11 : Nat) : ∃ (a : Nat) (e e' : va_E), (fW y h b1 b2 b3 qt at_ k z0 z1 z2 z3 f ++ mW y g a1 a2 a3 a4 a5 K a7 a8 a9 a10 a11)[56]? = some (a, e) ∧ (Wl (y1F y h b1 b2 b3 qt at_ k z0 z1 z2 z3 f g a1 a2 a3 a4 a5 K a7 a8 a9 a10 a11) sg0)[56]? = some (a, e') ∧ eqE e e' := by
  refine ⟨_, _, _, rfl, Wl_at (y1F y h b1 b2 b3 qt at_ k z0 z1 z2 z3 f g a1 a2 a3 a4 a5 K a7 a8 a9 a10 a11) sg0 (k := 56) (by decide), ?_⟩
  exact eq_i rfl rfl
theorem w_57 (y : YT) (h : Nat) (b1 b2 b3 : Nat → Nat) (qt at_ k : Nat) (z0 z1 z2 z3 : Nat × Nat) (f g a1 a2 a3 a4 a5 K a7 a8 a9 a10 a11 : Nat) : ∃ (a : Nat) (e e' : va_E), (fW y h b1 b2 b3 qt at_ k z0 z1 z2 z3 f ++ mW y g a1 a2 a3 a4 a5 K a7 a8 a9 a10 a11)[57]? = some (a, e) ∧ (Wl (y1F y h b1 b2 b3 qt at_ k z0 z1 z2 z3 f g a1 a2 a3 a4 a5 K a7 a8 a9 a10 a11) sg0)[57]? = some (a, e') ∧ eqE e e' := by
  refine ⟨_, _, _, rfl, Wl_at (y1F y h b1 b2 b3 qt at_ k z0 z1 z2 z3 f g a1 a2 a3 a4 a5 K a7 a8 a9 a10 a11) sg0 (k := 57) (by decide), ?_⟩
  exact eq_i rfl rfl
theorem w_58 (y : YT) (h : Nat) (b1 b2 b3 : Nat → Nat) (qt at_ k : Nat) (z0 z1 z2 z3 : Nat × Nat) (f g a1 a2 a3 a4 a5 K a7 a8 a9 a10 a11 : Nat) : ∃ (a : Nat) (e e' : va_E), (fW y h b1 b2 b3 qt at_ k z0 z1 z2 z3 f ++ mW y g a1 a2 a3 a4 a5 K a7 a8 a9 a10 a11)[58]? = some (a, e) ∧ (Wl (y1F y h b1 b2 b3 qt at_ k z0 z1 z2 z3 f g a1 a2 a3 a4 a5 K a7 a8 a9 a10 a11) sg0)[58]? = some (a, e') ∧ eqE e e' := by
  refine ⟨_, _, _, rfl, Wl_at (y1F y h b1 b2 b3 qt at_ k z0 z1 z2 z3 f g a1 a2 a3 a4 a5 K a7 a8 a9 a10 a11) sg0 (k := 58) (by decide), ?_⟩
  exact eq_i rfl rfl
theorem w_59 (y : YT) (h : Nat) (b1 b2 b3 : Nat → Nat) (qt at_ k : Nat) (z0 z1 z2 z3 : Nat × Nat) (f g a1 a2 a3 a4 a5 K a7 a8 a9 a10 a11 : Nat) : ∃ (a : Nat) (e e' : va_E), (fW y h b1 b2 b3 qt at_ k z0 z1 z2 z3 f ++ mW y g a1 a2 a3 a4 a5 K a7 a8 a9 a10 a11)[59]? = some (a, e) ∧ (Wl (y1F y h b1 b2 b3 qt at_ k z0 z1 z2 z3 f g a1 a2 a3 a4 a5 K a7 a8 a9 a10 a11) sg0)[59]? = some (a, e') ∧ eqE e e' := by
  refine ⟨_, _, _, rfl, Wl_at (y1F y h b1 b2 b3 qt at_ k z0 z1 z2 z3 f g a1 a2 a3 a4 a5 K a7 a8 a9 a10 a11) sg0 (k := 59) (by decide), ?_⟩
  exact eq_i rfl rfl
theorem w_60 (y : YT) (h : Nat) (b1 b2 b3 : Nat → Nat) (qt at_ k : Nat) (z0 z1 z2 z3 : Nat × Nat) (f g a1 a2 a3 a4 a5 K a7 a8 a9 a10 a11 : Nat) : ∃ (a : Nat) (e e' : va_E), (fW y h b1 b2 b3 qt at_ k z0 z1 z2 z3 f ++ mW y g a1 a2 a3 a4 a5 K a7 a8 a9 a10 a11)[60]? = some (a, e) ∧ (Wl (y1F y h b1 b2 b3 qt at_ k z0 z1 z2 z3 f g a1 a2 a3 a4 a5 K a7 a8 a9 a10 a11) sg0)[60]? = some (a, e') ∧ eqE e e' := by
  refine ⟨_, _, _, rfl, Wl_at (y1F y h b1 b2 b3 qt at_ k z0 z1 z2 z3 f g a1 a2 a3 a4 a5 K a7 a8 a9 a10 a11) sg0 (k := 60) (by decide), ?_⟩
  exact eq_i rfl rfl
theorem w_all (y : YT) (h : Nat) (b1 b2 b3 : Nat → Nat) (qt at_ k : Nat) (z0 z1 z2 z3 : Nat × Nat) (f g a1 a2 a3 a4 a5 K a7 a8 a9 a10 a11 : Nat) : eqW (fW y h b1 b2 b3 qt at_ k z0 z1 z2 z3 f ++ mW y g a1 a2 a3 a4 a5 K a7 a8 a9 a10 a11) (Wl (y1F y h b1 b2 b3 qt at_ k z0 z1 z2 z3 f g a1 a2 a3 a4 a5 K a7 a8 a9 a10 a11) sg0) := by
  refine ⟨by rw [Wl_len]; rfl, fun n hn => ?_⟩
  have hn : n < 61 := hn
  rcases (show n = 0 ∨ n = 1 ∨ n = 2 ∨ n = 3 ∨ n = 4 ∨ n = 5 ∨ n = 6 ∨ n = 7 ∨ n = 8 ∨ n = 9 ∨ n = 10 ∨ n = 11 ∨ n = 12 ∨ n = 13 ∨ n = 14 ∨ n = 15 ∨ n = 16 ∨ n = 17 ∨ n = 18 ∨ n = 19 ∨ n = 20 ∨ n = 21 ∨ n = 22 ∨ n = 23 ∨ n = 24 ∨ n = 25 ∨ n = 26 ∨ n = 27 ∨ n = 28 ∨ n = 29 ∨ n = 30 ∨ n = 31 ∨ n = 32 ∨ n = 33 ∨ n = 34 ∨ n = 35 ∨ n = 36 ∨ n = 37 ∨ n = 38 ∨ n = 39 ∨ n = 40 ∨ n = 41 ∨ n = 42 ∨ n = 43 ∨ n = 44 ∨ n = 45 ∨ n = 46 ∨ n = 47 ∨ n = 48 ∨ n = 49 ∨ n = 50 ∨ n = 51 ∨ n = 52 ∨ n = 53 ∨ n = 54 ∨ n = 55 ∨ n = 56 ∨ n = 57 ∨ n = 58 ∨ n = 59 ∨ n = 60 by omega) with rfl | rfl | rfl | rfl | rfl | rfl | rfl | rfl | rfl | rfl | rfl | rfl | rfl | rfl | rfl | rfl | rfl | rfl | rfl | rfl | rfl | rfl | rfl | rfl | rfl | rfl | rfl | rfl | rfl | rfl | rfl | rfl | rfl | rfl | rfl | rfl | rfl | rfl | rfl | rfl | rfl | rfl | rfl | rfl | rfl | rfl | rfl | rfl | rfl | rfl | rfl | rfl | rfl | rfl | rfl | rfl | rfl | rfl | rfl | rfl | rfl
  · exact w_0 y h b1 b2 b3 qt at_ k z0 z1 z2 z3 f g a1 a2 a3 a4 a5 K a7 a8 a9 a10 a11
  · exact w_1 y h b1 b2 b3 qt at_ k z0 z1 z2 z3 f g a1 a2 a3 a4 a5 K a7 a8 a9 a10 a11
  · exact w_2 y h b1 b2 b3 qt at_ k z0 z1 z2 z3 f g a1 a2 a3 a4 a5 K a7 a8 a9 a10 a11
  · exact w_3 y h b1 b2 b3 qt at_ k z0 z1 z2 z3 f g a1 a2 a3 a4 a5 K a7 a8 a9 a10 a11
  · exact w_4 y h b1 b2 b3 qt at_ k z0 z1 z2 z3 f g a1 a2 a3 a4 a5 K a7 a8 a9 a10 a11
  · exact w_5 y h b1 b2 b3 qt at_ k z0 z1 z2 z3 f g a1 a2 a3 a4 a5 K a7 a8 a9 a10 a11
  · exact w_6 y h b1 b2 b3 qt at_ k z0 z1 z2 z3 f g a1 a2 a3 a4 a5 K a7 a8 a9 a10 a11
  · exact w_7 y h b1 b2 b3 qt at_ k z0 z1 z2 z3 f g a1 a2 a3 a4 a5 K a7 a8 a9 a10 a11
  · exact w_8 y h b1 b2 b3 qt at_ k z0 z1 z2 z3 f g a1 a2 a3 a4 a5 K a7 a8 a9 a10 a11
  · exact w_9 y h b1 b2 b3 qt at_ k z0 z1 z2 z3 f g a1 a2 a3 a4 a5 K a7 a8 a9 a10 a11
  · exact w_10 y h b1 b2 b3 qt at_ k z0 z1 z2 z3 f g a1 a2 a3 a4 a5 K a7 a8 a9 a10 a11
  · exact w_11 y h b1 b2 b3 qt at_ k z0 z1 z2 z3 f g a1 a2 a3 a4 a5 K a7 a8 a9 a10 a11
  · exact w_12 y h b1 b2 b3 qt at_ k z0 z1 z2 z3 f g a1 a2 a3 a4 a5 K a7 a8 a9 a10 a11
  · exact w_13 y h b1 b2 b3 qt at_ k z0 z1 z2 z3 f g a1 a2 a3 a4 a5 K a7 a8 a9 a10 a11
  · exact w_14 y h b1 b2 b3 qt at_ k z0 z1 z2 z3 f g a1 a2 a3 a4 a5 K a7 a8 a9 a10 a11
  · exact w_15 y h b1 b2 b3 qt at_ k z0 z1 z2 z3 f g a1 a2 a3 a4 a5 K a7 a8 a9 a10 a11
  · exact w_16 y h b1 b2 b3 qt at_ k z0 z1 z2 z3 f g a1 a2 a3 a4 a5 K a7 a8 a9 a10 a11
  · exact w_17 y h b1 b2 b3 qt at_ k z0 z1 z2 z3 f g a1 a2 a3 a4 a5 K a7 a8 a9 a10 a11
  · exact w_18 y h b1 b2 b3 qt at_ k z0 z1 z2 z3 f g a1 a2 a3 a4 a5 K a7 a8 a9 a10 a11
  · exact w_19 y h b1 b2 b3 qt at_ k z0 z1 z2 z3 f g a1 a2 a3 a4 a5 K a7 a8 a9 a10 a11
  · exact w_20 y h b1 b2 b3 qt at_ k z0 z1 z2 z3 f g a1 a2 a3 a4 a5 K a7 a8 a9 a10 a11
  · exact w_21 y h b1 b2 b3 qt at_ k z0 z1 z2 z3 f g a1 a2 a3 a4 a5 K a7 a8 a9 a10 a11
  · exact w_22 y h b1 b2 b3 qt at_ k z0 z1 z2 z3 f g a1 a2 a3 a4 a5 K a7 a8 a9 a10 a11
  · exact w_23 y h b1 b2 b3 qt at_ k z0 z1 z2 z3 f g a1 a2 a3 a4 a5 K a7 a8 a9 a10 a11
  · exact w_24 y h b1 b2 b3 qt at_ k z0 z1 z2 z3 f g a1 a2 a3 a4 a5 K a7 a8 a9 a10 a11
  · exact w_25 y h b1 b2 b3 qt at_ k z0 z1 z2 z3 f g a1 a2 a3 a4 a5 K a7 a8 a9 a10 a11
  · exact w_26 y h b1 b2 b3 qt at_ k z0 z1 z2 z3 f g a1 a2 a3 a4 a5 K a7 a8 a9 a10 a11
  · exact w_27 y h b1 b2 b3 qt at_ k z0 z1 z2 z3 f g a1 a2 a3 a4 a5 K a7 a8 a9 a10 a11
  · exact w_28 y h b1 b2 b3 qt at_ k z0 z1 z2 z3 f g a1 a2 a3 a4 a5 K a7 a8 a9 a10 a11
  · exact w_29 y h b1 b2 b3 qt at_ k z0 z1 z2 z3 f g a1 a2 a3 a4 a5 K a7 a8 a9 a10 a11
  · exact w_30 y h b1 b2 b3 qt at_ k z0 z1 z2 z3 f g a1 a2 a3 a4 a5 K a7 a8 a9 a10 a11
  · exact w_31 y h b1 b2 b3 qt at_ k z0 z1 z2 z3 f g a1 a2 a3 a4 a5 K a7 a8 a9 a10 a11
  · exact w_32 y h b1 b2 b3 qt at_ k z0 z1 z2 z3 f g a1 a2 a3 a4 a5 K a7 a8 a9 a10 a11
  · exact w_33 y h b1 b2 b3 qt at_ k z0 z1 z2 z3 f g a1 a2 a3 a4 a5 K a7 a8 a9 a10 a11
  · exact w_34 y h b1 b2 b3 qt at_ k z0 z1 z2 z3 f g a1 a2 a3 a4 a5 K a7 a8 a9 a10 a11
  · exact w_35 y h b1 b2 b3 qt at_ k z0 z1 z2 z3 f g a1 a2 a3 a4 a5 K a7 a8 a9 a10 a11
  · exact w_36 y h b1 b2 b3 qt at_ k z0 z1 z2 z3 f g a1 a2 a3 a4 a5 K a7 a8 a9 a10 a11
  · exact w_37 y h b1 b2 b3 qt at_ k z0 z1 z2 z3 f g a1 a2 a3 a4 a5 K a7 a8 a9 a10 a11
  · exact w_38 y h b1 b2 b3 qt at_ k z0 z1 z2 z3 f g a1 a2 a3 a4 a5 K a7 a8 a9 a10 a11
  · exact w_39 y h b1 b2 b3 qt at_ k z0 z1 z2 z3 f g a1 a2 a3 a4 a5 K a7 a8 a9 a10 a11
  · exact w_40 y h b1 b2 b3 qt at_ k z0 z1 z2 z3 f g a1 a2 a3 a4 a5 K a7 a8 a9 a10 a11
  · exact w_41 y h b1 b2 b3 qt at_ k z0 z1 z2 z3 f g a1 a2 a3 a4 a5 K a7 a8 a9 a10 a11
  · exact w_42 y h b1 b2 b3 qt at_ k z0 z1 z2 z3 f g a1 a2 a3 a4 a5 K a7 a8 a9 a10 a11
  · exact w_43 y h b1 b2 b3 qt at_ k z0 z1 z2 z3 f g a1 a2 a3 a4 a5 K a7 a8 a9 a10 a11
  · exact w_44 y h b1 b2 b3 qt at_ k z0 z1 z2 z3 f g a1 a2 a3 a4 a5 K a7 a8 a9 a10 a11
  · exact w_45 y h b1 b2 b3 qt at_ k z0 z1 z2 z3 f g a1 a2 a3 a4 a5 K a7 a8 a9 a10 a11
  · exact w_46 y h b1 b2 b3 qt at_ k z0 z1 z2 z3 f g a1 a2 a3 a4 a5 K a7 a8 a9 a10 a11
  · exact w_47 y h b1 b2 b3 qt at_ k z0 z1 z2 z3 f g a1 a2 a3 a4 a5 K a7 a8 a9 a10 a11
  · exact w_48 y h b1 b2 b3 qt at_ k z0 z1 z2 z3 f g a1 a2 a3 a4 a5 K a7 a8 a9 a10 a11
  · exact w_49 y h b1 b2 b3 qt at_ k z0 z1 z2 z3 f g a1 a2 a3 a4 a5 K a7 a8 a9 a10 a11
  · exact w_50 y h b1 b2 b3 qt at_ k z0 z1 z2 z3 f g a1 a2 a3 a4 a5 K a7 a8 a9 a10 a11
  · exact w_51 y h b1 b2 b3 qt at_ k z0 z1 z2 z3 f g a1 a2 a3 a4 a5 K a7 a8 a9 a10 a11
  · exact w_52 y h b1 b2 b3 qt at_ k z0 z1 z2 z3 f g a1 a2 a3 a4 a5 K a7 a8 a9 a10 a11
  · exact w_53 y h b1 b2 b3 qt at_ k z0 z1 z2 z3 f g a1 a2 a3 a4 a5 K a7 a8 a9 a10 a11
  · exact w_54 y h b1 b2 b3 qt at_ k z0 z1 z2 z3 f g a1 a2 a3 a4 a5 K a7 a8 a9 a10 a11
  · exact w_55 y h b1 b2 b3 qt at_ k z0 z1 z2 z3 f g a1 a2 a3 a4 a5 K a7 a8 a9 a10 a11
  · exact w_56 y h b1 b2 b3 qt at_ k z0 z1 z2 z3 f g a1 a2 a3 a4 a5 K a7 a8 a9 a10 a11
  · exact w_57 y h b1 b2 b3 qt at_ k z0 z1 z2 z3 f g a1 a2 a3 a4 a5 K a7 a8 a9 a10 a11
  · exact w_58 y h b1 b2 b3 qt at_ k z0 z1 z2 z3 f g a1 a2 a3 a4 a5 K a7 a8 a9 a10 a11
  · exact w_59 y h b1 b2 b3 qt at_ k z0 z1 z2 z3 f g a1 a2 a3 a4 a5 K a7 a8 a9 a10 a11
  · exact w_60 y h b1 b2 b3 qt at_ k z0 z1 z2 z3 f g a1 a2 a3 a4 a5 K a7 a8 a9 a10 a11
theorem sg0_rel : Rel 0 sg0 := by
  have hV : ∀ j, j < 23 → V 1 sg0 j = nowR j := by decide +kernel
  have hq : ∀ p, p < 6 → V 1 sg0 (17 + p) = -1 := by decide +kernel
  have hs : ∀ p, p < 10 → V 1 sg0 (7 + p) = -1 := by decide +kernel
  refine ⟨⟨⟨0, ⟨by omega, by decide +kernel, ⟨0, by omega, by decide +kernel⟩, fun p hp => Or.inl (hq p hp), fun p hp => Or.inl (hs p hp)⟩, fun j hj => hV j (by omega), fun i hi => absurd hi (by omega)⟩, Or.inl ⟨by decide +kernel, by decide +kernel⟩⟩, ⟨0, by omega, by decide +kernel, by decide +kernel, fun j hj => absurd hj (by omega)⟩, fun s hs => ?_, ?_, by decide +kernel⟩
  · rcases (show s = 0 ∨ s = 1 ∨ s = 2 ∨ s = 3 by omega) with rfl | rfl | rfl | rfl <;> exact ⟨rfl, 0, by omega, rfl, rfl, fun j _ => rfl⟩
  · have h7 : ∀ i, i < 7 → sg0 48 i = sg0 53 (i + 1) := by decide +kernel
    exact h7

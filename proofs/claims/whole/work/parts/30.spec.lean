/-! PURE: what minutes, faults and so on are, on a ROW of numbers (0 minute, 1 sitters, 2 draw, 3 stool, 4 light, 5 price, 6 till, 7.. spots, 17.. queue, 23 + 7 i + k the sitters) -/
abbrev Row : Type := Nat → Int32
theorem ck_t {β : Type} (o : Option β) : ck true o = o := rfl
theorem bnd_s {α β : Type} (v : α) (s : Sto) (f : α → Sto → Option β) : bnd (some (v, s)) f = f v s := rfl
theorem lti_e {β : Type} (e : Int32) (f : Int32 → β) : lti e f = f e := rfl
theorem ltl_e {β : Type} (e : Int64) (f : Int64 → β) : ltl e f = f e := rfl
theorem lts_e {β : Type} (e : Sto) (f : Sto → β) : lts e f = f e := rfl
theorem oc_n {β : Type} (z : β) (f : Nat → β) : ocase none z f = z := rfl
theorem oc_s {β : Type} (k : Nat) (z : β) (f : Nat → β) : ocase (some k) z f = f k := rfl
def b2i (c : Bool) : Int32 := if c = true then 1 else 0
theorem b2i_t : b2i true = 1 := rfl
theorem b2i_f : b2i false = 0 := rfl
theorem i10 : ¬ (1 : Int32) = 0 := by decide
theorem z01_0 : z01 0 = true := by decide
theorem z01_1 : z01 1 = true := by decide
def sMay (kind still : Int32) : Int32 := if kind = 1 then 5 else if kind = 2 then 2 else if kind = 3 then 1 else if kind = 4 then 1 + still / 3 else if kind = 5 then 2 else if kind = 6 then 10 else 2
def sShut (kind still minute light f : Int32) : Bool := if kind = 1 then decide (irm (minute + f + still) 4 = 0) || !decide (light < 8) else if kind = 2 then decide (irm (minute + f + still) 4 = 0) else if kind = 3 then decide (irm (minute + f) 3 = 0) else if kind = 4 then decide (irm (minute + f) 3 = 0) && !decide (light < 4) else if kind = 5 then decide (irm (minute + f + still) 4 = 0) else if kind = 6 then decide (irm f 2 = 0) else decide (irm (minute + f + still) 4 = 0)
def sPl (merry f : Int32) : Bool := decide (5 < merry) || (decide (f = 3) && !decide (merry ≤ 2))
def sSmile (kind merry f : Int32) : Bool := if kind = 1 then !decide (merry + f ≤ 4) else if kind = 2 then sPl merry f else if kind = 3 then false else if kind = 4 then false else if kind = 5 then sPl merry f && !decide (f = 0) else if kind = 6 then false else sPl merry f
def sShine (kind light : Int32) : Bool := if kind = 2 then !decide (light ≤ 6) else if kind = 3 then !decide (light ≤ 6) else if kind = 4 then !decide (light ≤ 5) else false
def fset (o s m h d : Bool) : Int32 := (if d then (16 : Int32) else 0) ||| ((if o then (1 : Int32) else 0) ||| ((if s then (2 : Int32) else 0) ||| ((if m then (4 : Int32) else 0) ||| (if h then (8 : Int32) else 0))))
def sF (kind tall still merry stool light minute f : Int32) : Int32 := fset (!decide (iabs (tall + stool - 80) ≤ sMay kind still)) (sShut kind still minute light f) (sSmile kind merry f) (sShine kind light) (!decide (2 ≤ light))
def fa (a : Row) (i : Nat) (f : Int32) : Int32 := sF (a (23 + 7 * i)) (a (23 + 7 * i + 1)) (a (23 + 7 * i + 2)) (a (23 + 7 * i + 3)) (a 3) (a 4) (a 0) f
def good (a : Row) (i : Nat) : Bool := decide (fa a i 0 = 0) || (decide (fa a i 1 = 0) || (decide (fa a i 2 = 0) || decide (fa a i 3 = 0)))
def turnA (a : Row) (i : Nat) : Row := upd a 3 (a 3 + imax (-4) (imin (imax 0 (imin (80 - a (23 + 7 * i + 1)) 60) - a 3) 4))
def sitA (a : Row) (i : Nat) : Row := upd a (23 + 7 * i + 4) (a (23 + 7 * i + 4) - a 5)
def sitB (a : Row) : Row := upd a 6 (imin (a 6 + a 5) 99999)
def sitC (a : Row) (i : Nat) : Row := upd a (23 + 7 * i + 6) (imin (a (23 + 7 * i + 6) + 1) 9999)
def sitD (a : Row) (i : Nat) : Row := upd a (23 + 7 * i + 5) (imin (a (23 + 7 * i + 5) + 1) 999)
def sitE (a : Row) (i : Nat) : Row := upd a (23 + 7 * i + 2) (imin (a (23 + 7 * i + 2) + 1) 9)
def sitF (a : Row) (i : Nat) : Row := upd a (23 + 7 * i + 3) (imax (a (23 + 7 * i + 3) - 1) 0)
def sitT (a : Row) (i : Nat) : Row := turnA (sitC (sitB (sitA a i)) i) i
def sits (a : Row) (i : Nat) : Row := if good (sitT a i) i = true then sitE (sitD (sitT a i) i) i else sitF (sitT a i) i
def payN : Nat → Row → Row
  | 0, a => a
  | k + 1, a => upd (payN k a) (23 + 7 * k + 4) (imin (payN k a (23 + 7 * k + 4) + 3) 999)
def nOf (a : Row) : Nat := (a 1).toNatClampNeg
def tickA (a : Row) : Row := upd a 0 (a 0 + 1)
def tick (a : Row) : Row := if irm (tickA a 0) 6 = 0 then payN (nOf (tickA a)) (tickA a) else tickA a
def nxt (a : Row) : Int32 := a (17 + (irm (a 0) 6).toNatClampNeg)
def seated (a : Row) (w : Int32) : Row := if w < 0 then a else if a (23 + 7 * w.toNatClampNeg + 4) < a 5 then a else sits a w.toNatClampNeg
def minR (a : Row) : Row := tick (seated a (nxt a))
def minsR : Nat → Row → Row
  | 0, a => a
  | n + 1, a => minsR n (minR a)
/-- a row is well: so many sitters, so many minutes, the queue and the spots hold sitters or nobody -/
def okR (T m : Nat) (a : Row) : Prop := m ≤ 8 ∧ a 1 = nI m ∧ (∃ t, t ≤ T ∧ a 0 = nI t) ∧ (∀ p, p < 6 → a (17 + p) = -1 ∨ ∃ i, i < m ∧ a (17 + p) = nI i) ∧ (∀ p, p < 10 → a (7 + p) = -1 ∨ ∃ i, i < m ∧ a (7 + p) = nI i)
/-- two rows say the same of the m sitters there are, and of all else -/
def agr (m : Nat) (a b : Row) : Prop := ∀ j, j < 23 + 7 * m → a j = b j
theorem upd_s (f : Row) (k : Nat) (x : Int32) : upd f k x k = x := by unfold upd; rw [if_pos rfl]
theorem upd_n {f : Row} {k j : Nat} {x : Int32} (h : ¬ j = k) : upd f k x j = f j := by unfold upd; rw [if_neg h]
theorem upd_i (f : Row) (k j : Nat) (x : Int32) : upd f k x j = if j = k then x else f j := rfl
theorem i3 (a b : Int32) : a < b ∨ a = b ∨ b < a := by
  rcases Int.lt_trichotomy a.toInt b.toInt with h | h | h
  · exact Or.inl (Int32.lt_iff_toInt_lt.mpr h)
  · exact Or.inr (Or.inl (Int32.toInt_inj.mp h))
  · exact Or.inr (Or.inr (Int32.lt_iff_toInt_lt.mpr h))
theorem imin_c (x y : Int32) : imin x y = imin y x := by
  unfold imin
  rcases i3 x y with h | h | h
  · rw [if_neg (Int32.not_lt.mpr (Int32.le_of_lt h)), if_pos h]
  · rw [h]
  · rw [if_pos h, if_neg (Int32.not_lt.mpr (Int32.le_of_lt h))]
theorem imax_c (x y : Int32) : imax x y = imax y x := by
  unfold imax
  rcases i3 x y with h | h | h
  · rw [if_pos h, if_neg (Int32.not_lt.mpr (Int32.le_of_lt h))]
  · rw [h]
  · rw [if_neg (Int32.not_lt.mpr (Int32.le_of_lt h)), if_pos h]
/-! the class's Booth as a row -/
def V (b : Nat) (σ : Sto) : Row := fun j => if j = 0 then σ b 4 else if j = 1 then σ b 6 else if j = 2 then σ b 5 else if j = 3 then σ b 0 else if j = 4 then σ b 1 else if j = 5 then σ b 2 else if j = 6 then σ b 3 else if j < 17 then σ (b + 11) (j - 7) else if j < 23 then σ (b + 10) (j - 17) else if j < 79 then σ (b + 1 + 1 + (j - 23) / 7) ((j - 23) % 7) else 0
theorem up1_s (σ : Sto) (k : Nat) (f : Row) : up1 σ k f k = f := by unfold up1; rw [if_pos rfl]
theorem up1_n {σ : Sto} {k a : Nat} {f : Row} (h : ¬ a = k) : up1 σ k f a = σ a := by unfold up1; rw [if_neg h]
theorem up1_t (σ : Sto) (k : Nat) (f g : Row) : up1 (up1 σ k f) k g = up1 σ k g := by
  funext a
  unfold up1
  by_cases h : a = k
  · rw [if_pos h, if_pos h]
  · rw [if_neg h, if_neg h, if_neg h]
theorem up1_same {σ : Sto} {k : Nat} {f : Row} (h : σ k = f) : up1 σ k f = σ := by
  funext a
  unfold up1
  by_cases q : a = k
  · rw [if_pos q, q, h]
  · rw [if_neg q]
theorem up2_e (σ : Sto) (k j : Nat) (v : Int32) : up2 σ k j v = up1 σ k (upd (σ k) j v) := rfl
theorem up2_i (σ : Sto) (k j : Nat) (v : Int32) (a c : Nat) : up2 σ k j v a c = if a = k then (if c = j then v else σ k c) else σ a c := by
  unfold up2 up1 upd
  by_cases h : a = k
  · rw [if_pos h, if_pos h]
  · rw [if_neg h, if_neg h]
theorem V0 (b : Nat) (σ : Sto) : σ b 4 = V b σ 0 := rfl
theorem V1 (b : Nat) (σ : Sto) : σ b 6 = V b σ 1 := rfl
theorem V2 (b : Nat) (σ : Sto) : σ b 5 = V b σ 2 := rfl
theorem V3 (b : Nat) (σ : Sto) : σ b 0 = V b σ 3 := rfl
theorem V4 (b : Nat) (σ : Sto) : σ b 1 = V b σ 4 := rfl
theorem V5 (b : Nat) (σ : Sto) : σ b 2 = V b σ 5 := rfl
theorem V6 (b : Nat) (σ : Sto) : σ b 3 = V b σ 6 := rfl
theorem Vsp (b : Nat) (σ : Sto) {p : Nat} (h : p < 10) : σ (b + 11) p = V b σ (7 + p) := by
  unfold V
  rw [if_neg (by omega), if_neg (by omega), if_neg (by omega), if_neg (by omega), if_neg (by omega), if_neg (by omega), if_neg (by omega), if_pos (by omega), show 7 + p - 7 = p by omega]
theorem Vq (b : Nat) (σ : Sto) {p : Nat} (h : p < 6) : σ (b + 10) p = V b σ (17 + p) := by
  unfold V
  rw [if_neg (by omega), if_neg (by omega), if_neg (by omega), if_neg (by omega), if_neg (by omega), if_neg (by omega), if_neg (by omega), if_neg (by omega), if_pos (by omega), show 17 + p - 17 = p by omega]
theorem Vs (b : Nat) (σ : Sto) {i k : Nat} (hi : i < 8) (hk : k < 7) : σ (b + 1 + 1 + i) k = V b σ (23 + 7 * i + k) := by
  unfold V
  rw [if_neg (by omega), if_neg (by omega), if_neg (by omega), if_neg (by omega), if_neg (by omega), if_neg (by omega), if_neg (by omega), if_neg (by omega), if_neg (by omega), if_pos (by omega), show (23 + 7 * i + k - 23) / 7 = i by omega, show (23 + 7 * i + k - 23) % 7 = k by omega]
theorem Vhi (b : Nat) (σ : Sto) {j : Nat} (h : 79 ≤ j) : V b σ j = 0 := by
  unfold V
  rw [if_neg (by omega), if_neg (by omega), if_neg (by omega), if_neg (by omega), if_neg (by omega), if_neg (by omega), if_neg (by omega), if_neg (by omega), if_neg (by omega), if_neg (by omega)]
/-- two stores with the same Booth at b, as far as it reaches -/
theorem V_ext {b : Nat} {σ : Sto} {a : Row} (h0 : σ b 4 = a 0) (h1 : σ b 6 = a 1) (h2 : σ b 5 = a 2) (h3 : σ b 0 = a 3) (h4 : σ b 1 = a 4) (h5 : σ b 2 = a 5) (h6 : σ b 3 = a 6) (hs : ∀ p, p < 10 → σ (b + 11) p = a (7 + p)) (hq : ∀ p, p < 6 → σ (b + 10) p = a (17 + p)) (hi : ∀ i k, i < 8 → k < 7 → σ (b + 1 + 1 + i) k = a (23 + 7 * i + k)) (hh : ∀ j, 79 ≤ j → a j = 0) : V b σ = a := by
  funext j
  rcases Nat.lt_or_ge j 79 with q | q
  · rcases (show j = 0 ∨ j = 1 ∨ j = 2 ∨ j = 3 ∨ j = 4 ∨ j = 5 ∨ j = 6 ∨ (7 ≤ j ∧ j < 17) ∨ (17 ≤ j ∧ j < 23) ∨ 23 ≤ j by omega) with rfl | rfl | rfl | rfl | rfl | rfl | rfl | ⟨q1, q2⟩ | ⟨q1, q2⟩ | q1
    · exact h0
    · exact h1
    · exact h2
    · exact h3
    · exact h4
    · exact h5
    · exact h6
    · obtain ⟨p, rfl⟩ : ∃ p, j = 7 + p := ⟨j - 7, by omega⟩
      rw [← Vsp b σ (by omega)]; exact hs p (by omega)
    · obtain ⟨p, rfl⟩ : ∃ p, j = 17 + p := ⟨j - 17, by omega⟩
      rw [← Vq b σ (by omega)]; exact hq p (by omega)
    · obtain ⟨i, k, hi8, hk7, rfl⟩ : ∃ i k, i < 8 ∧ k < 7 ∧ j = 23 + 7 * i + k := ⟨(j - 23) / 7, (j - 23) % 7, by omega, by omega, by omega⟩
      rw [← Vs b σ hi8 hk7]; exact hi i k hi8 hk7
  · rw [Vhi b σ q, hh j q]
theorem V_hi_upd {b : Nat} {σ : Sto} {k : Nat} {v : Int32} (hk : k < 79) : ∀ j, 79 ≤ j → upd (V b σ) k v j = 0 := by
  intro j hj
  rw [upd_n (by omega)]
  exact Vhi b σ hj
theorem V_uh {b : Nat} {σ : Sto} {j c : Nat} {v : Int32} (hc : c < 7) (hj : (j = 0 ∧ c = 3) ∨ (j = 1 ∧ c = 4) ∨ (j = 2 ∧ c = 5) ∨ (j = 3 ∧ c = 6) ∨ (j = 4 ∧ c = 0) ∨ (j = 5 ∧ c = 2) ∨ (j = 6 ∧ c = 1)) : V b (up2 σ b j v) = upd (V b σ) c v := by
  have n1 : ∀ q, q < 12 → 0 < q → ¬ b + q = b := fun q _ h => by omega
  refine V_ext ?_ ?_ ?_ ?_ ?_ ?_ ?_ (fun p hp => ?_) (fun p hp => ?_) (fun i k hi hk => ?_) (V_hi_upd (by omega))
  any_goals (rw [up2_i, if_pos rfl, upd_i]; rcases hj with ⟨rfl, rfl⟩ | ⟨rfl, rfl⟩ | ⟨rfl, rfl⟩ | ⟨rfl, rfl⟩ | ⟨rfl, rfl⟩ | ⟨rfl, rfl⟩ | ⟨rfl, rfl⟩ <;> rfl)
  · rw [up2_i, if_neg (by omega), upd_n (by omega)]; exact Vsp b σ hp
  · rw [up2_i, if_neg (by omega), upd_n (by omega)]; exact Vq b σ hp
  · rw [up2_i, if_neg (by omega), upd_n (by omega)]; exact Vs b σ hi hk
theorem V_us {b : Nat} {σ : Sto} {i k : Nat} {v : Int32} (hi : i < 8) (hk : k < 7) : V b (up2 σ (b + 1 + 1 + i) k v) = upd (V b σ) (23 + 7 * i + k) v := by
  refine V_ext ?_ ?_ ?_ ?_ ?_ ?_ ?_ (fun p hp => ?_) (fun p hp => ?_) (fun i' k' hi' hk' => ?_) (V_hi_upd (by omega))
  any_goals (rw [up2_i, if_neg (by omega), upd_n (by omega)]; rfl)
  · rw [up2_i, if_neg (by omega), upd_n (by omega)]; exact Vsp b σ hp
  · rw [up2_i, if_neg (by omega), upd_n (by omega)]; exact Vq b σ hp
  · rw [up2_i, upd_i]
    by_cases h : b + 1 + 1 + i' = b + 1 + 1 + i
    · have h2 : i' = i := by omega
      subst h2
      rw [if_pos rfl]
      by_cases h3 : k' = k
      · subst h3; rw [if_pos rfl, if_pos rfl]
      · rw [if_neg h3, if_neg (by omega)]; exact Vs b σ hi hk'
    · rw [if_neg h, if_neg (by omega)]; exact Vs b σ hi' hk'
theorem V_uq {b : Nat} {σ : Sto} {p : Nat} {v : Int32} (hp : p < 6) : V b (up2 σ (b + 10) p v) = upd (V b σ) (17 + p) v := by
  refine V_ext ?_ ?_ ?_ ?_ ?_ ?_ ?_ (fun p' hp' => ?_) (fun p' hp' => ?_) (fun i' k' hi' hk' => ?_) (V_hi_upd (by omega))
  any_goals (rw [up2_i, if_neg (by omega), upd_n (by omega)]; rfl)
  · rw [up2_i, if_neg (by omega), upd_n (by omega)]; exact Vsp b σ hp'
  · rw [up2_i, upd_i, if_pos rfl]
    by_cases h3 : p' = p
    · subst h3; rw [if_pos rfl, if_pos rfl]
    · rw [if_neg h3, if_neg (by omega)]; exact Vq b σ hp'
  · rw [up2_i, if_neg (by omega), upd_n (by omega)]; exact Vs b σ hi' hk'
theorem V_usp {b : Nat} {σ : Sto} {p : Nat} {v : Int32} (hp : p < 10) : V b (up2 σ (b + 11) p v) = upd (V b σ) (7 + p) v := by
  refine V_ext ?_ ?_ ?_ ?_ ?_ ?_ ?_ (fun p' hp' => ?_) (fun p' hp' => ?_) (fun i' k' hi' hk' => ?_) (V_hi_upd (by omega))
  any_goals (rw [up2_i, if_neg (by omega), upd_n (by omega)]; rfl)
  · rw [up2_i, upd_i, if_pos rfl]
    by_cases h3 : p' = p
    · subst h3; rw [if_pos rfl, if_pos rfl]
    · rw [if_neg h3, if_neg (by omega)]; exact Vsp b σ hp'
  · rw [up2_i, if_neg (by omega), upd_n (by omega)]; exact Vq b σ hp'
  · rw [up2_i, if_neg (by omega), upd_n (by omega)]; exact Vs b σ hi' hk'
/-- what lies outside a Booth stays -/
def fr (b : Nat) (σ σ' : Sto) : Prop := ∀ k, ¬ (b ≤ k ∧ k < b + 12) → σ' k = σ k
theorem fr_r (b : Nat) (σ : Sto) : fr b σ σ := fun _ _ => rfl
theorem fr_t {b : Nat} {σ σ1 σ2 : Sto} (h : fr b σ σ1) (h2 : fr b σ1 σ2) : fr b σ σ2 := fun k q => (h2 k q).trans (h k q)
theorem fr_u {b : Nat} {σ : Sto} {k j : Nat} {v : Int32} (h : b ≤ k ∧ k < b + 12) : fr b σ (up2 σ k j v) := by
  intro a q
  unfold up2
  exact up1_n (fun e => q (e ▸ h))
theorem V_fr {b c : Nat} {σ σ' : Sto} (h : fr c σ σ') (hd : b + 12 ≤ c ∨ c + 12 ≤ b) : V b σ' = V b σ := by
  have e : ∀ k, b ≤ k → k < b + 12 → σ' k = σ k := fun k h1 h2 => h k (by omega)
  have n : ∀ j, 79 ≤ j → V b σ j = 0 := fun j hj => Vhi b σ hj
  refine V_ext ?_ ?_ ?_ ?_ ?_ ?_ ?_ (fun p hp => ?_) (fun p hp => ?_) (fun i k hi hk => ?_) n
  any_goals (rw [e b (by omega) (by omega)]; rfl)
  · rw [e _ (by omega) (by omega)]; exact Vsp b σ hp
  · rw [e _ (by omega) (by omega)]; exact Vq b σ hp
  · rw [e _ (by omega) (by omega)]; exact Vs b σ hi hk

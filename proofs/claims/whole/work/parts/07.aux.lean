/-! WORDS of the F-functions (what a method does to the store, as far as it goes well), and rows that read them -/
def lti {β : Type} (e : Int32) (f : Int32 → β) : β := f e
def ltl {β : Type} (e : Int64) (f : Int64 → β) : β := f e
def lts {β : Type} (e : Sto) (f : Sto → β) : β := f e
def ck {β : Type} (c : Bool) (o : Option β) : Option β := if c = true then o else none
def bnd {α β : Type} (o : Option (α × Sto)) (f : α → Sto → Option β) : Option β := match o with | none => none | some (v, s) => f v s
def ocase {β : Type} (o : Option Nat) (z : β) (f : Nat → β) : β := match o with | none => z | some k => f k
def inr (i : Int32) (n : Nat) : Bool := decide (0 ≤ i) && decide (i.toNatClampNeg < n)
def z01 (v : Int32) : Bool := decide (v = 0) || decide (v = 1)
def nz (v : Int32) : Bool := !decide (v = 0)
def isStr (k : Nat) : Bool := decide (100 ≤ k) && decide (k < 115)
def cpok (sp dp n : Int32) (l0 l1 : Nat) : Bool := decide (0 ≤ sp) && decide (0 ≤ dp) && decide (0 ≤ n) && decide (sp.toNatClampNeg + n.toNatClampNeg ≤ l0) && decide (dp.toNatClampNeg + n.toNatClampNeg ≤ l1)
theorem iC {β : Type} {c : Bool} {o : Option β} {v : β} (h : ck c o = some v) : c = true ∧ o = some v := by
  unfold ck at h
  by_cases q : c = true
  · rw [if_pos q] at h; exact ⟨q, h⟩
  · rw [if_neg q] at h; cases h
theorem iB {α β : Type} {o : Option (α × Sto)} {f : α → Sto → Option β} {v : β} (h : bnd o f = some v) : ∃ r s, o = some (r, s) ∧ f r s = some v := by
  cases o with
  | none => cases h
  | some q => exact ⟨q.1, q.2, rfl, h⟩
theorem iP {β : Type} {c : Prop} [Decidable c] {p q x : β} (hc : c) (h : (if c then p else q) = x) : p = x := (if_pos hc).symm.trans h
theorem iN {β : Type} {c : Prop} [Decidable c] {p q x : β} (hc : ¬ c) (h : (if c then p else q) = x) : q = x := (if_neg hc).symm.trans h
theorem iO0 {β : Type} {z x : β} {f : Nat → β} (h : ocase none z f = x) : z = x := h
theorem iO1 {β : Type} {z x : β} {f : Nat → β} {k : Nat} (h : ocase (some k) z f = x) : f k = x := h
theorem iOs {β : Type} {o : Option Nat} {f : Nat → Option β} {v : β} (h : ocase o none f = some v) : ∃ k, o = some k ∧ f k = some v := by
  cases o with
  | none => cases h
  | some k => exact ⟨k, rfl, h⟩
theorem cat_int (v : Int32) : (Value.int v).category = 1 := rfl
theorem cat_ref (v : Nat) : (Value.ref v).category = 1 := rfl
theorem nv_cat (y : YT) (o : Option Nat) : (nv y o).category = 1 := by cases o <;> rfl
theorem keq {a b : Nat} (h : (a == b) = true) : a = b := by simpa using h
theorem ivp {i : Int32} {n m : Nat} (h : inr i n = true) (e : m = n) : vp_in i m := by
  subst e
  unfold inr at h
  rw [Bool.and_eq_true, decide_eq_true_eq, decide_eq_true_eq] at h
  rintro (q | q)
  · exact absurd q (Int32.not_lt.mpr h.1)
  · omega
theorem z01_or {v : Int32} (h : z01 v = true) : v = 0 ∨ v = 1 := by
  unfold z01 at h
  rw [Bool.or_eq_true, decide_eq_true_eq, decide_eq_true_eq] at h
  exact h
theorem nz_ne {v : Int32} (h : nz v = true) : ¬ v = 0 := by
  unfold nz at h
  simpa using h
theorem tne {u v : Int32} (h : ¬ u = v) : ¬ u.toInt = v.toInt := fun e => h (Int32.toInt_inj.mp e)
/-! the layout's facts -/
theorem kd_of {P : Nat → Prop} [DecidablePred P] {c : Nat} (hc : c < 10) (h : ∀ k : Nat, k < 61 → kd k = c → P k) {k : Nat} (q : kd k = c) : P k := h k (kd_lt q hc) q
theorem kr_0_7 {k : Nat} (h : kd k = 0) : kd (k + 1) = 7 := kd_of (P := fun k => kd (k + 1) = 7) (by decide) (by decide +kernel) h
theorem kr_0_8 {k : Nat} (h : kd k = 0) : kd (k + 10) = 6 := kd_of (P := fun k => kd (k + 10) = 6) (by decide) (by decide +kernel) h
theorem kr_0_9 {k : Nat} (h : kd k = 0) : kd (k + 11) = 6 := kd_of (P := fun k => kd (k + 11) = 6) (by decide) (by decide +kernel) h
theorem lr_0_7 {k : Nat} (h : kd k = 0) : ln (k + 1) = 8 := kd_of (P := fun k => ln (k + 1) = 8) (by decide) (by decide +kernel) h
theorem lr_0_8 {k : Nat} (h : kd k = 0) : ln (k + 10) = 6 := kd_of (P := fun k => ln (k + 10) = 6) (by decide) (by decide +kernel) h
theorem lr_0_9 {k : Nat} (h : kd k = 0) : ln (k + 11) = 10 := kd_of (P := fun k => ln (k + 11) = 10) (by decide) (by decide +kernel) h
theorem kr_1_2 {k : Nat} (h : kd k = 1) : kd (k + 1) = 6 := kd_of (P := fun k => kd (k + 1) = 6) (by decide) (by decide +kernel) h
theorem lr_1_2 {k : Nat} (h : kd k = 1) : ln (k + 1) = 40 := kd_of (P := fun k => ln (k + 1) = 40) (by decide) (by decide +kernel) h
theorem kr_3_0 {k : Nat} (h : kd k = 3) : kd (k + 1) = 6 := kd_of (P := fun k => kd (k + 1) = 6) (by decide) (by decide +kernel) h
theorem lr_3_0 {k : Nat} (h : kd k = 3) : ln (k + 1) = 120 := kd_of (P := fun k => ln (k + 1) = 120) (by decide) (by decide +kernel) h
theorem el7n {k : Nat} (h : kd k = 0) : (kd (k + 1 + 1 + 0) = 2 ∧ kd (k + 1 + 1 + 1) = 2 ∧ kd (k + 1 + 1 + 2) = 2 ∧ kd (k + 1 + 1 + 3) = 2 ∧ kd (k + 1 + 1 + 4) = 2 ∧ kd (k + 1 + 1 + 5) = 2 ∧ kd (k + 1 + 1 + 6) = 2 ∧ kd (k + 1 + 1 + 7) = 2) := kd_of (P := fun k => (kd (k + 1 + 1 + 0) = 2 ∧ kd (k + 1 + 1 + 1) = 2 ∧ kd (k + 1 + 1 + 2) = 2 ∧ kd (k + 1 + 1 + 3) = 2 ∧ kd (k + 1 + 1 + 4) = 2 ∧ kd (k + 1 + 1 + 5) = 2 ∧ kd (k + 1 + 1 + 6) = 2 ∧ kd (k + 1 + 1 + 7) = 2)) (by decide) (by decide +kernel) h
theorem inr_lt {i : Int32} {n : Nat} (h : inr i n = true) : i.toNatClampNeg < n := by
  unfold inr at h
  rw [Bool.and_eq_true, decide_eq_true_eq, decide_eq_true_eq] at h
  exact h.2
theorem el7 {k : Nat} {i : Int32} (h : kd k = 0) (hi : inr i 8 = true) : kd (k + 1 + 1 + i.toNatClampNeg) = 2 := by
  have h1 := inr_lt hi
  have h2 := el7n h
  generalize i.toNatClampNeg = j at h1 ⊢
  rcases (show j = 0 ∨ j = 1 ∨ j = 2 ∨ j = 3 ∨ j = 4 ∨ j = 5 ∨ j = 6 ∨ j = 7 by omega) with rfl | rfl | rfl | rfl | rfl | rfl | rfl | rfl
  · exact h2.1
  · exact h2.2.1
  · exact h2.2.2.1
  · exact h2.2.2.2.1
  · exact h2.2.2.2.2.1
  · exact h2.2.2.2.2.2.1
  · exact h2.2.2.2.2.2.2.1
  · exact h2.2.2.2.2.2.2.2
theorem el8 {i : Int32} (hi : inr i 4 = true) : kd (40 + 2 * i.toNatClampNeg) = 1 := by
  have h1 := inr_lt hi
  generalize i.toNatClampNeg = j at h1 ⊢
  rcases (show j = 0 ∨ j = 1 ∨ j = 2 ∨ j = 3 by omega) with rfl | rfl | rfl | rfl <;> rfl
theorem el9 {i : Int32} (hi : inr i 7 = true) : isStr (100 + i.toNatClampNeg) = true := by
  have h1 := inr_lt hi
  unfold isStr
  rw [Bool.and_eq_true, decide_eq_true_eq, decide_eq_true_eq]
  omega
theorem rv0 {y : YT} {k : Nat} (h : kd k = 0) : Recv y k RX0 := Or.inl ⟨TX0, _, by rw [h]; decide, by rw [h]; rfl⟩
theorem rv1 {y : YT} {k : Nat} (h : kd k = 1) : Recv y k RX1 := Or.inl ⟨TX1, _, by rw [h]; decide, by rw [h]; rfl⟩
theorem rv2 {y : YT} {k : Nat} (h : kd k = 2) : Recv y k RX2 := Or.inl ⟨TX2, _, by rw [h]; decide, by rw [h]; rfl⟩
theorem rv3 {y : YT} {k : Nat} (h : kd k = 3) : Recv y k RX3 := Or.inl ⟨TX3, _, by rw [h]; decide, by rw [h]; rfl⟩
theorem rv4 {y : YT} {k : Nat} (h : kd k = 4) : Recv y k RX4 := Or.inl ⟨TX4, _, by rw [h]; decide, by rw [h]; rfl⟩
theorem rv5 {y : YT} {k : Nat} (h : kd k = 5) : Recv y k RX5 := Or.inl ⟨TX5, _, by rw [h]; decide, by rw [h]; rfl⟩
theorem rvS {y : YT} {k : Nat} (h : isStr k = true) : Recv y k "java/lang/String" := by
  unfold isStr at h
  rw [Bool.and_eq_true, decide_eq_true_eq, decide_eq_true_eq] at h
  exact Or.inr ⟨k - 100, by omega, by omega, rfl⟩
def lo1 {A1 β : Type} (B : (A1 → Sto → Option β) → A1 → Sto → Option β) : Nat → A1 → Sto → Option β
  | 0 => fun _ _ => none
  | n + 1 => B (lo1 B n)
theorem lo1_gw {A1 β : Type} {B : (A1 → Sto → Option β) → A1 → Sto → Option β} {X : β} {G : A1 → Sto → Prop} (hB : ∀ k : A1 → Sto → Option β, (∀ (a1 : A1) (σ : Sto), k a1 σ = some X → G a1 σ) → ∀ (a1 : A1) (σ : Sto), B k a1 σ = some X → G a1 σ) : ∀ (n : Nat) (a1 : A1) (σ : Sto), lo1 B n a1 σ = some X → G a1 σ := by
  intro n
  induction n with
  | zero => intro a1 σ h; cases h
  | succ n ih => intro a1 σ h; exact hB _ ih a1 σ h
def lo2 {A1 A2 β : Type} (B : (A1 → A2 → Sto → Option β) → A1 → A2 → Sto → Option β) : Nat → A1 → A2 → Sto → Option β
  | 0 => fun _ _ _ => none
  | n + 1 => B (lo2 B n)
theorem lo2_gw {A1 A2 β : Type} {B : (A1 → A2 → Sto → Option β) → A1 → A2 → Sto → Option β} {X : β} {G : A1 → A2 → Sto → Prop} (hB : ∀ k : A1 → A2 → Sto → Option β, (∀ (a1 : A1) (a2 : A2) (σ : Sto), k a1 a2 σ = some X → G a1 a2 σ) → ∀ (a1 : A1) (a2 : A2) (σ : Sto), B k a1 a2 σ = some X → G a1 a2 σ) : ∀ (n : Nat) (a1 : A1) (a2 : A2) (σ : Sto), lo2 B n a1 a2 σ = some X → G a1 a2 σ := by
  intro n
  induction n with
  | zero => intro a1 a2 σ h; cases h
  | succ n ih => intro a1 a2 σ h; exact hB _ ih a1 a2 σ h
def lo3 {A1 A2 A3 β : Type} (B : (A1 → A2 → A3 → Sto → Option β) → A1 → A2 → A3 → Sto → Option β) : Nat → A1 → A2 → A3 → Sto → Option β
  | 0 => fun _ _ _ _ => none
  | n + 1 => B (lo3 B n)
theorem lo3_gw {A1 A2 A3 β : Type} {B : (A1 → A2 → A3 → Sto → Option β) → A1 → A2 → A3 → Sto → Option β} {X : β} {G : A1 → A2 → A3 → Sto → Prop} (hB : ∀ k : A1 → A2 → A3 → Sto → Option β, (∀ (a1 : A1) (a2 : A2) (a3 : A3) (σ : Sto), k a1 a2 a3 σ = some X → G a1 a2 a3 σ) → ∀ (a1 : A1) (a2 : A2) (a3 : A3) (σ : Sto), B k a1 a2 a3 σ = some X → G a1 a2 a3 σ) : ∀ (n : Nat) (a1 : A1) (a2 : A2) (a3 : A3) (σ : Sto), lo3 B n a1 a2 a3 σ = some X → G a1 a2 a3 σ := by
  intro n
  induction n with
  | zero => intro a1 a2 a3 σ h; cases h
  | succ n ih => intro a1 a2 a3 σ h; exact hB _ ih a1 a2 a3 σ h
def lo4 {A1 A2 A3 A4 β : Type} (B : (A1 → A2 → A3 → A4 → Sto → Option β) → A1 → A2 → A3 → A4 → Sto → Option β) : Nat → A1 → A2 → A3 → A4 → Sto → Option β
  | 0 => fun _ _ _ _ _ => none
  | n + 1 => B (lo4 B n)
theorem lo4_gw {A1 A2 A3 A4 β : Type} {B : (A1 → A2 → A3 → A4 → Sto → Option β) → A1 → A2 → A3 → A4 → Sto → Option β} {X : β} {G : A1 → A2 → A3 → A4 → Sto → Prop} (hB : ∀ k : A1 → A2 → A3 → A4 → Sto → Option β, (∀ (a1 : A1) (a2 : A2) (a3 : A3) (a4 : A4) (σ : Sto), k a1 a2 a3 a4 σ = some X → G a1 a2 a3 a4 σ) → ∀ (a1 : A1) (a2 : A2) (a3 : A3) (a4 : A4) (σ : Sto), B k a1 a2 a3 a4 σ = some X → G a1 a2 a3 a4 σ) : ∀ (n : Nat) (a1 : A1) (a2 : A2) (a3 : A3) (a4 : A4) (σ : Sto), lo4 B n a1 a2 a3 a4 σ = some X → G a1 a2 a3 a4 σ := by
  intro n
  induction n with
  | zero => intro a1 a2 a3 a4 σ h; cases h
  | succ n ih => intro a1 a2 a3 a4 σ h; exact hB _ ih a1 a2 a3 a4 σ h
def lo5 {A1 A2 A3 A4 A5 β : Type} (B : (A1 → A2 → A3 → A4 → A5 → Sto → Option β) → A1 → A2 → A3 → A4 → A5 → Sto → Option β) : Nat → A1 → A2 → A3 → A4 → A5 → Sto → Option β
  | 0 => fun _ _ _ _ _ _ => none
  | n + 1 => B (lo5 B n)
theorem lo5_gw {A1 A2 A3 A4 A5 β : Type} {B : (A1 → A2 → A3 → A4 → A5 → Sto → Option β) → A1 → A2 → A3 → A4 → A5 → Sto → Option β} {X : β} {G : A1 → A2 → A3 → A4 → A5 → Sto → Prop} (hB : ∀ k : A1 → A2 → A3 → A4 → A5 → Sto → Option β, (∀ (a1 : A1) (a2 : A2) (a3 : A3) (a4 : A4) (a5 : A5) (σ : Sto), k a1 a2 a3 a4 a5 σ = some X → G a1 a2 a3 a4 a5 σ) → ∀ (a1 : A1) (a2 : A2) (a3 : A3) (a4 : A4) (a5 : A5) (σ : Sto), B k a1 a2 a3 a4 a5 σ = some X → G a1 a2 a3 a4 a5 σ) : ∀ (n : Nat) (a1 : A1) (a2 : A2) (a3 : A3) (a4 : A4) (a5 : A5) (σ : Sto), lo5 B n a1 a2 a3 a4 a5 σ = some X → G a1 a2 a3 a4 a5 σ := by
  intro n
  induction n with
  | zero => intro a1 a2 a3 a4 a5 σ h; cases h
  | succ n ih => intro a1 a2 a3 a4 a5 σ h; exact hB _ ih a1 a2 a3 a4 a5 σ h
def lo6 {A1 A2 A3 A4 A5 A6 β : Type} (B : (A1 → A2 → A3 → A4 → A5 → A6 → Sto → Option β) → A1 → A2 → A3 → A4 → A5 → A6 → Sto → Option β) : Nat → A1 → A2 → A3 → A4 → A5 → A6 → Sto → Option β
  | 0 => fun _ _ _ _ _ _ _ => none
  | n + 1 => B (lo6 B n)
theorem lo6_gw {A1 A2 A3 A4 A5 A6 β : Type} {B : (A1 → A2 → A3 → A4 → A5 → A6 → Sto → Option β) → A1 → A2 → A3 → A4 → A5 → A6 → Sto → Option β} {X : β} {G : A1 → A2 → A3 → A4 → A5 → A6 → Sto → Prop} (hB : ∀ k : A1 → A2 → A3 → A4 → A5 → A6 → Sto → Option β, (∀ (a1 : A1) (a2 : A2) (a3 : A3) (a4 : A4) (a5 : A5) (a6 : A6) (σ : Sto), k a1 a2 a3 a4 a5 a6 σ = some X → G a1 a2 a3 a4 a5 a6 σ) → ∀ (a1 : A1) (a2 : A2) (a3 : A3) (a4 : A4) (a5 : A5) (a6 : A6) (σ : Sto), B k a1 a2 a3 a4 a5 a6 σ = some X → G a1 a2 a3 a4 a5 a6 σ) : ∀ (n : Nat) (a1 : A1) (a2 : A2) (a3 : A3) (a4 : A4) (a5 : A5) (a6 : A6) (σ : Sto), lo6 B n a1 a2 a3 a4 a5 a6 σ = some X → G a1 a2 a3 a4 a5 a6 σ := by
  intro n
  induction n with
  | zero => intro a1 a2 a3 a4 a5 a6 σ h; cases h
  | succ n ih => intro a1 a2 a3 a4 a5 a6 σ h; exact hB _ ih a1 a2 a3 a4 a5 a6 σ h
def lo7 {A1 A2 A3 A4 A5 A6 A7 β : Type} (B : (A1 → A2 → A3 → A4 → A5 → A6 → A7 → Sto → Option β) → A1 → A2 → A3 → A4 → A5 → A6 → A7 → Sto → Option β) : Nat → A1 → A2 → A3 → A4 → A5 → A6 → A7 → Sto → Option β
  | 0 => fun _ _ _ _ _ _ _ _ => none
  | n + 1 => B (lo7 B n)
theorem lo7_gw {A1 A2 A3 A4 A5 A6 A7 β : Type} {B : (A1 → A2 → A3 → A4 → A5 → A6 → A7 → Sto → Option β) → A1 → A2 → A3 → A4 → A5 → A6 → A7 → Sto → Option β} {X : β} {G : A1 → A2 → A3 → A4 → A5 → A6 → A7 → Sto → Prop} (hB : ∀ k : A1 → A2 → A3 → A4 → A5 → A6 → A7 → Sto → Option β, (∀ (a1 : A1) (a2 : A2) (a3 : A3) (a4 : A4) (a5 : A5) (a6 : A6) (a7 : A7) (σ : Sto), k a1 a2 a3 a4 a5 a6 a7 σ = some X → G a1 a2 a3 a4 a5 a6 a7 σ) → ∀ (a1 : A1) (a2 : A2) (a3 : A3) (a4 : A4) (a5 : A5) (a6 : A6) (a7 : A7) (σ : Sto), B k a1 a2 a3 a4 a5 a6 a7 σ = some X → G a1 a2 a3 a4 a5 a6 a7 σ) : ∀ (n : Nat) (a1 : A1) (a2 : A2) (a3 : A3) (a4 : A4) (a5 : A5) (a6 : A6) (a7 : A7) (σ : Sto), lo7 B n a1 a2 a3 a4 a5 a6 a7 σ = some X → G a1 a2 a3 a4 a5 a6 a7 σ := by
  intro n
  induction n with
  | zero => intro a1 a2 a3 a4 a5 a6 a7 σ h; cases h
  | succ n ih => intro a1 a2 a3 a4 a5 a6 a7 σ h; exact hB _ ih a1 a2 a3 a4 a5 a6 a7 σ h
def lo8 {A1 A2 A3 A4 A5 A6 A7 A8 β : Type} (B : (A1 → A2 → A3 → A4 → A5 → A6 → A7 → A8 → Sto → Option β) → A1 → A2 → A3 → A4 → A5 → A6 → A7 → A8 → Sto → Option β) : Nat → A1 → A2 → A3 → A4 → A5 → A6 → A7 → A8 → Sto → Option β
  | 0 => fun _ _ _ _ _ _ _ _ _ => none
  | n + 1 => B (lo8 B n)
theorem lo8_gw {A1 A2 A3 A4 A5 A6 A7 A8 β : Type} {B : (A1 → A2 → A3 → A4 → A5 → A6 → A7 → A8 → Sto → Option β) → A1 → A2 → A3 → A4 → A5 → A6 → A7 → A8 → Sto → Option β} {X : β} {G : A1 → A2 → A3 → A4 → A5 → A6 → A7 → A8 → Sto → Prop} (hB : ∀ k : A1 → A2 → A3 → A4 → A5 → A6 → A7 → A8 → Sto → Option β, (∀ (a1 : A1) (a2 : A2) (a3 : A3) (a4 : A4) (a5 : A5) (a6 : A6) (a7 : A7) (a8 : A8) (σ : Sto), k a1 a2 a3 a4 a5 a6 a7 a8 σ = some X → G a1 a2 a3 a4 a5 a6 a7 a8 σ) → ∀ (a1 : A1) (a2 : A2) (a3 : A3) (a4 : A4) (a5 : A5) (a6 : A6) (a7 : A7) (a8 : A8) (σ : Sto), B k a1 a2 a3 a4 a5 a6 a7 a8 σ = some X → G a1 a2 a3 a4 a5 a6 a7 a8 σ) : ∀ (n : Nat) (a1 : A1) (a2 : A2) (a3 : A3) (a4 : A4) (a5 : A5) (a6 : A6) (a7 : A7) (a8 : A8) (σ : Sto), lo8 B n a1 a2 a3 a4 a5 a6 a7 a8 σ = some X → G a1 a2 a3 a4 a5 a6 a7 a8 σ := by
  intro n
  induction n with
  | zero => intro a1 a2 a3 a4 a5 a6 a7 a8 σ h; cases h
  | succ n ih => intro a1 a2 a3 a4 a5 a6 a7 a8 σ h; exact hB _ ih a1 a2 a3 a4 a5 a6 a7 a8 σ h
theorem cb_m4 : (Int8.ofInt (-4)).toInt32 = (-4) := by decide
theorem cb_6 : (Int8.ofInt 6).toInt32 = 6 := by decide
theorem cb_7 : (Int8.ofInt 7).toInt32 = 7 := by decide
theorem cb_8 : (Int8.ofInt 8).toInt32 = 8 := by decide
theorem cb_9 : (Int8.ofInt 9).toInt32 = 9 := by decide
theorem cb_10 : (Int8.ofInt 10).toInt32 = 10 := by decide
theorem cb_11 : (Int8.ofInt 11).toInt32 = 11 := by decide
theorem cb_12 : (Int8.ofInt 12).toInt32 = 12 := by decide
theorem cb_13 : (Int8.ofInt 13).toInt32 = 13 := by decide
theorem cb_16 : (Int8.ofInt 16).toInt32 = 16 := by decide
theorem cb_17 : (Int8.ofInt 17).toInt32 = 17 := by decide
theorem cb_18 : (Int8.ofInt 18).toInt32 = 18 := by decide
theorem cb_20 : (Int8.ofInt 20).toInt32 = 20 := by decide
theorem cb_23 : (Int8.ofInt 23).toInt32 = 23 := by decide
theorem cb_31 : (Int8.ofInt 31).toInt32 = 31 := by decide
theorem cb_32 : (Int8.ofInt 32).toInt32 = 32 := by decide
theorem cb_40 : (Int8.ofInt 40).toInt32 = 40 := by decide
theorem cb_48 : (Int8.ofInt 48).toInt32 = 48 := by decide
theorem cb_57 : (Int8.ofInt 57).toInt32 = 57 := by decide
theorem cb_59 : (Int8.ofInt 59).toInt32 = 59 := by decide
theorem cb_60 : (Int8.ofInt 60).toInt32 = 60 := by decide
theorem cb_63 : (Int8.ofInt 63).toInt32 = 63 := by decide
theorem cb_79 : (Int8.ofInt 79).toInt32 = 79 := by decide
theorem cb_80 : (Int8.ofInt 80).toInt32 = 80 := by decide
theorem cb_90 : (Int8.ofInt 90).toInt32 = 90 := by decide
theorem cb_97 : (Int8.ofInt 97).toInt32 = 97 := by decide
theorem cb_99 : (Int8.ofInt 99).toInt32 = 99 := by decide
theorem cb_100 : (Int8.ofInt 100).toInt32 = 100 := by decide
theorem cb_120 : (Int8.ofInt 120).toInt32 = 120 := by decide
theorem cb_122 : (Int8.ofInt 122).toInt32 = 122 := by decide
theorem ci_m1 : Int32.ofInt (-1) = (-1) := by decide
theorem ci_0 : Int32.ofInt 0 = 0 := by decide
theorem ci_1 : Int32.ofInt 1 = 1 := by decide
theorem ci_2 : Int32.ofInt 2 = 2 := by decide
theorem ci_3 : Int32.ofInt 3 = 3 := by decide
theorem ci_4 : Int32.ofInt 4 = 4 := by decide
theorem ci_5 : Int32.ofInt 5 = 5 := by decide
theorem cl_1 : Int64.ofNat ((1 : Fin 2) : Nat) = 1 := by decide
theorem cs_200 : (Int16.ofInt 200).toInt32 = 200 := by decide
theorem cs_255 : (Int16.ofInt 255).toInt32 = 255 := by decide
theorem cs_999 : (Int16.ofInt 999).toInt32 = 999 := by decide
theorem cs_1000 : (Int16.ofInt 1000).toInt32 = 1000 := by decide
theorem cs_9999 : (Int16.ofInt 9999).toInt32 = 9999 := by decide
theorem cs_12345 : (Int16.ofInt 12345).toInt32 = 12345 := by decide
theorem ct_0 : (0 : Int32).toNatClampNeg = 0 := by decide
theorem ct_1 : (1 : Int32).toNatClampNeg = 1 := by decide
theorem ct_2 : (2 : Int32).toNatClampNeg = 2 := by decide
theorem ct_3 : (3 : Int32).toNatClampNeg = 3 := by decide
theorem ct_4 : (4 : Int32).toNatClampNeg = 4 := by decide
theorem ct_5 : (5 : Int32).toNatClampNeg = 5 := by decide
theorem ct_6 : (6 : Int32).toNatClampNeg = 6 := by decide
theorem sit_X3_134 : (RX3, 134, "sitter", 0) ∈ sitesJ := List.mem_of_getElem? (i := 0) rfl
theorem sit_X3_122 : (RX3, 122, "child", 1) ∈ sitesJ := List.mem_of_getElem? (i := 1) rfl
theorem sit_X3_124 : (RX3, 124, "glasses", 2) ∈ sitesJ := List.mem_of_getElem? (i := 2) rfl
theorem sit_X3_126 : (RX3, 126, "shy", 3) ∈ sitesJ := List.mem_of_getElem? (i := 3) rfl
theorem sit_X3_128 : (RX3, 128, "old", 4) ∈ sitesJ := List.mem_of_getElem? (i := 4) rfl
theorem sit_X3_130 : (RX3, 130, "twin", 5) ∈ sitesJ := List.mem_of_getElem? (i := 5) rfl
theorem sit_X3_132 : (RX3, 132, "baby", 6) ∈ sitesJ := List.mem_of_getElem? (i := 6) rfl
theorem sit_X3_148 : (RX3, 148, "tall", 7) ∈ sitesJ := List.mem_of_getElem? (i := 7) rfl
theorem sit_X3_142 : (RX3, 142, "still", 8) ∈ sitesJ := List.mem_of_getElem? (i := 8) rfl
theorem sit_X3_144 : (RX3, 144, "merry", 9) ∈ sitesJ := List.mem_of_getElem? (i := 9) rfl
theorem sit_X3_146 : (RX3, 146, "coins", 10) ∈ sitesJ := List.mem_of_getElem? (i := 10) rfl
theorem sit_X3_50 : (RX3, 50, "queue", 11) ∈ sitesJ := List.mem_of_getElem? (i := 11) rfl
theorem sit_X3_140 : (RX3, 140, "stool", 12) ∈ sitesJ := List.mem_of_getElem? (i := 12) rfl
theorem sit_X3_136 : (RX3, 136, "light", 13) ∈ sitesJ := List.mem_of_getElem? (i := 13) rfl
theorem sit_X3_138 : (RX3, 138, "price", 14) ∈ sitesJ := List.mem_of_getElem? (i := 14) rfl
theorem sit_X5_27 : (RX5, 27, "sitter", 0) ∈ sitesJ := List.mem_of_getElem? (i := 15) rfl
theorem sit_X5_29 : (RX5, 29, "child", 1) ∈ sitesJ := List.mem_of_getElem? (i := 16) rfl
theorem sit_X5_31 : (RX5, 31, "glasses", 2) ∈ sitesJ := List.mem_of_getElem? (i := 17) rfl
theorem sit_X5_33 : (RX5, 33, "shy", 3) ∈ sitesJ := List.mem_of_getElem? (i := 18) rfl
theorem sit_X5_35 : (RX5, 35, "old", 4) ∈ sitesJ := List.mem_of_getElem? (i := 19) rfl
theorem sit_X5_37 : (RX5, 37, "twin", 5) ∈ sitesJ := List.mem_of_getElem? (i := 20) rfl
theorem sit_X5_39 : (RX5, 39, "baby", 6) ∈ sitesJ := List.mem_of_getElem? (i := 21) rfl
theorem sit_X5_287 : (RX5, 287, "tall", 7) ∈ sitesJ := List.mem_of_getElem? (i := 22) rfl
theorem sit_X5_296 : (RX5, 296, "still", 8) ∈ sitesJ := List.mem_of_getElem? (i := 23) rfl
theorem sit_X5_298 : (RX5, 298, "merry", 9) ∈ sitesJ := List.mem_of_getElem? (i := 24) rfl
theorem sit_X5_300 : (RX5, 300, "coins", 10) ∈ sitesJ := List.mem_of_getElem? (i := 25) rfl
theorem sit_X5_308 : (RX5, 308, "queue", 11) ∈ sitesJ := List.mem_of_getElem? (i := 26) rfl
theorem sit_X5_313 : (RX5, 313, "stool", 12) ∈ sitesJ := List.mem_of_getElem? (i := 27) rfl
theorem sit_X5_318 : (RX5, 318, "light", 13) ∈ sitesJ := List.mem_of_getElem? (i := 28) rfl
theorem sit_X5_320 : (RX5, 320, "price", 14) ∈ sitesJ := List.mem_of_getElem? (i := 29) rfl
theorem wn_Math : Cond.initialized "java/lang/Math" ∈ TT := wn_J9
theorem wt_min : Cond.static Lib.Math.min.name ∈ TT := wt_J9_min_7cf53
theorem wc_min : Cond.code Lib.Math.min.name Lib.Math.min.code 2 (some .int) ∈ TT := wc_J9_min_7cf53
theorem wt_max : Cond.static Lib.Math.max.name ∈ TT := wt_J9_max_7cf53
theorem wc_max : Cond.code Lib.Math.max.name Lib.Math.max.code 2 (some .int) ∈ TT := wc_J9_max_7cf53
theorem wt_abs : Cond.static Lib.Math.abs.name ∈ TT := wt_J9_abs_0f7a4
theorem wc_abs : Cond.code Lib.Math.abs.name Lib.Math.abs.code 1 (some .int) ∈ TT := wc_J9_abs_0f7a4
theorem hd_J0_charAt_5068e : yJ0_charAt_5068e.cls ≠ "java/lang/invoke/MethodHandle" ∧ yJ0_charAt_5068e.cls ≠ "java/lang/invoke/VarHandle" ∧ (parseMethodDescriptor yJ0_charAt_5068e.desc).map (fun d => d.parameters.length) = some 1 := ⟨by decide, by decide, by decide +kernel⟩
theorem hd_J0_length_8abf5 : yJ0_length_8abf5.cls ≠ "java/lang/invoke/MethodHandle" ∧ yJ0_length_8abf5.cls ≠ "java/lang/invoke/VarHandle" ∧ (parseMethodDescriptor yJ0_length_8abf5.desc).map (fun d => d.parameters.length) = some 0 := ⟨by decide, by decide, by decide +kernel⟩
theorem hd_J6_bitCount_0f7a4 : yJ6_bitCount_0f7a4.cls ≠ "java/lang/invoke/MethodHandle" ∧ yJ6_bitCount_0f7a4.cls ≠ "java/lang/invoke/VarHandle" ∧ (parseMethodDescriptor yJ6_bitCount_0f7a4.desc).map (fun d => d.parameters.length) = some 1 := ⟨by decide, by decide, by decide +kernel⟩
theorem hd_X0_addSitter : yX0_addSitter.cls ≠ "java/lang/invoke/MethodHandle" ∧ yX0_addSitter.cls ≠ "java/lang/invoke/VarHandle" ∧ (parseMethodDescriptor yX0_addSitter.desc).map (fun d => d.parameters.length) = some 1 := ⟨by decide, by decide, by decide +kernel⟩
theorem hd_X0_become : yX0_become.cls ≠ "java/lang/invoke/MethodHandle" ∧ yX0_become.cls ≠ "java/lang/invoke/VarHandle" ∧ (parseMethodDescriptor yX0_become.desc).map (fun d => d.parameters.length) = some 1 := ⟨by decide, by decide, by decide +kernel⟩
theorem hd_X0_commonFaults : yX0_commonFaults.cls ≠ "java/lang/invoke/MethodHandle" ∧ yX0_commonFaults.cls ≠ "java/lang/invoke/VarHandle" ∧ (parseMethodDescriptor yX0_commonFaults.desc).map (fun d => d.parameters.length) = some 0 := ⟨by decide, by decide, by decide +kernel⟩
theorem hd_X0_draw : yX0_draw.cls ≠ "java/lang/invoke/MethodHandle" ∧ yX0_draw.cls ≠ "java/lang/invoke/VarHandle" ∧ (parseMethodDescriptor yX0_draw.desc).map (fun d => d.parameters.length) = some 0 := ⟨by decide, by decide, by decide +kernel⟩
theorem hd_X0_emptyPlacesOf : yX0_emptyPlacesOf.cls ≠ "java/lang/invoke/MethodHandle" ∧ yX0_emptyPlacesOf.cls ≠ "java/lang/invoke/VarHandle" ∧ (parseMethodDescriptor yX0_emptyPlacesOf.desc).map (fun d => d.parameters.length) = some 1 := ⟨by decide, by decide, by decide +kernel⟩
theorem hd_X0_faultsOf : yX0_faultsOf.cls ≠ "java/lang/invoke/MethodHandle" ∧ yX0_faultsOf.cls ≠ "java/lang/invoke/VarHandle" ∧ (parseMethodDescriptor yX0_faultsOf.desc).map (fun d => d.parameters.length) = some 2 := ⟨by decide, by decide, by decide +kernel⟩
theorem hd_X0_faultsTogether : yX0_faultsTogether.cls ≠ "java/lang/invoke/MethodHandle" ∧ yX0_faultsTogether.cls ≠ "java/lang/invoke/VarHandle" ∧ (parseMethodDescriptor yX0_faultsTogether.desc).map (fun d => d.parameters.length) = some 1 := ⟨by decide, by decide, by decide +kernel⟩
theorem hd_X0_give : yX0_give.cls ≠ "java/lang/invoke/MethodHandle" ∧ yX0_give.cls ≠ "java/lang/invoke/VarHandle" ∧ (parseMethodDescriptor yX0_give.desc).map (fun d => d.parameters.length) = some 3 := ⟨by decide, by decide, by decide +kernel⟩
theorem hd_X0_hasClearFlash : yX0_hasClearFlash.cls ≠ "java/lang/invoke/MethodHandle" ∧ yX0_hasClearFlash.cls ≠ "java/lang/invoke/VarHandle" ∧ (parseMethodDescriptor yX0_hasClearFlash.desc).map (fun d => d.parameters.length) = some 1 := ⟨by decide, by decide, by decide +kernel⟩
theorem hd_X0_isEachTaken : yX0_isEachTaken.cls ≠ "java/lang/invoke/MethodHandle" ∧ yX0_isEachTaken.cls ≠ "java/lang/invoke/VarHandle" ∧ (parseMethodDescriptor yX0_isEachTaken.desc).map (fun d => d.parameters.length) = some 0 := ⟨by decide, by decide, by decide +kernel⟩
theorem hd_X0_isPart : yX0_isPart.cls ≠ "java/lang/invoke/MethodHandle" ∧ yX0_isPart.cls ≠ "java/lang/invoke/VarHandle" ∧ (parseMethodDescriptor yX0_isPart.desc).map (fun d => d.parameters.length) = some 1 := ⟨by decide, by decide, by decide +kernel⟩
theorem hd_X0_isPlace : yX0_isPlace.cls ≠ "java/lang/invoke/MethodHandle" ∧ yX0_isPlace.cls ≠ "java/lang/invoke/VarHandle" ∧ (parseMethodDescriptor yX0_isPlace.desc).map (fun d => d.parameters.length) = some 1 := ⟨by decide, by decide, by decide +kernel⟩
theorem hd_X0_isSitter : yX0_isSitter.cls ≠ "java/lang/invoke/MethodHandle" ∧ yX0_isSitter.cls ≠ "java/lang/invoke/VarHandle" ∧ (parseMethodDescriptor yX0_isSitter.desc).map (fun d => d.parameters.length) = some 1 := ⟨by decide, by decide, by decide +kernel⟩
theorem hd_X0_isSomebodyOrNobody : yX0_isSomebodyOrNobody.cls ≠ "java/lang/invoke/MethodHandle" ∧ yX0_isSomebodyOrNobody.cls ≠ "java/lang/invoke/VarHandle" ∧ (parseMethodDescriptor yX0_isSomebodyOrNobody.desc).map (fun d => d.parameters.length) = some 1 := ⟨by decide, by decide, by decide +kernel⟩
theorem hd_X0_mostOf : yX0_mostOf.cls ≠ "java/lang/invoke/MethodHandle" ∧ yX0_mostOf.cls ≠ "java/lang/invoke/VarHandle" ∧ (parseMethodDescriptor yX0_mostOf.desc).map (fun d => d.parameters.length) = some 1 := ⟨by decide, by decide, by decide +kernel⟩
theorem hd_X0_nextPlace : yX0_nextPlace.cls ≠ "java/lang/invoke/MethodHandle" ∧ yX0_nextPlace.cls ≠ "java/lang/invoke/VarHandle" ∧ (parseMethodDescriptor yX0_nextPlace.desc).map (fun d => d.parameters.length) = some 0 := ⟨by decide, by decide, by decide +kernel⟩
theorem hd_X0_part : yX0_part.cls ≠ "java/lang/invoke/MethodHandle" ∧ yX0_part.cls ≠ "java/lang/invoke/VarHandle" ∧ (parseMethodDescriptor yX0_part.desc).map (fun d => d.parameters.length) = some 1 := ⟨by decide, by decide, by decide +kernel⟩
theorem hd_X0_partOf : yX0_partOf.cls ≠ "java/lang/invoke/MethodHandle" ∧ yX0_partOf.cls ≠ "java/lang/invoke/VarHandle" ∧ (parseMethodDescriptor yX0_partOf.desc).map (fun d => d.parameters.length) = some 2 := ⟨by decide, by decide, by decide +kernel⟩
theorem hd_X0_passMinute : yX0_passMinute.cls ≠ "java/lang/invoke/MethodHandle" ∧ yX0_passMinute.cls ≠ "java/lang/invoke/VarHandle" ∧ (parseMethodDescriptor yX0_passMinute.desc).map (fun d => d.parameters.length) = some 0 := ⟨by decide, by decide, by decide +kernel⟩
theorem hd_X0_passMinutes : yX0_passMinutes.cls ≠ "java/lang/invoke/MethodHandle" ∧ yX0_passMinutes.cls ≠ "java/lang/invoke/VarHandle" ∧ (parseMethodDescriptor yX0_passMinutes.desc).map (fun d => d.parameters.length) = some 1 := ⟨by decide, by decide, by decide +kernel⟩
theorem hd_X0_payOut : yX0_payOut.cls ≠ "java/lang/invoke/MethodHandle" ∧ yX0_payOut.cls ≠ "java/lang/invoke/VarHandle" ∧ (parseMethodDescriptor yX0_payOut.desc).map (fun d => d.parameters.length) = some 0 := ⟨by decide, by decide, by decide +kernel⟩
theorem hd_X0_putPart : yX0_putPart.cls ≠ "java/lang/invoke/MethodHandle" ∧ yX0_putPart.cls ≠ "java/lang/invoke/VarHandle" ∧ (parseMethodDescriptor yX0_putPart.desc).map (fun d => d.parameters.length) = some 2 := ⟨by decide, by decide, by decide +kernel⟩
theorem hd_X0_seat : yX0_seat.cls ≠ "java/lang/invoke/MethodHandle" ∧ yX0_seat.cls ≠ "java/lang/invoke/VarHandle" ∧ (parseMethodDescriptor yX0_seat.desc).map (fun d => d.parameters.length) = some 2 := ⟨by decide, by decide, by decide +kernel⟩
theorem hd_X0_sitterSet : yX0_sitterSet.cls ≠ "java/lang/invoke/MethodHandle" ∧ yX0_sitterSet.cls ≠ "java/lang/invoke/VarHandle" ∧ (parseMethodDescriptor yX0_sitterSet.desc).map (fun d => d.parameters.length) = some 0 := ⟨by decide, by decide, by decide +kernel⟩
theorem hd_X0_sittersWithClearFlash : yX0_sittersWithClearFlash.cls ≠ "java/lang/invoke/MethodHandle" ∧ yX0_sittersWithClearFlash.cls ≠ "java/lang/invoke/VarHandle" ∧ (parseMethodDescriptor yX0_sittersWithClearFlash.desc).map (fun d => d.parameters.length) = some 0 := ⟨by decide, by decide, by decide +kernel⟩
theorem hd_X0_spotsInUse : yX0_spotsInUse.cls ≠ "java/lang/invoke/MethodHandle" ∧ yX0_spotsInUse.cls ≠ "java/lang/invoke/VarHandle" ∧ (parseMethodDescriptor yX0_spotsInUse.desc).map (fun d => d.parameters.length) = some 0 := ⟨by decide, by decide, by decide +kernel⟩
theorem hd_X0_sumOf : yX0_sumOf.cls ≠ "java/lang/invoke/MethodHandle" ∧ yX0_sumOf.cls ≠ "java/lang/invoke/VarHandle" ∧ (parseMethodDescriptor yX0_sumOf.desc).map (fun d => d.parameters.length) = some 1 := ⟨by decide, by decide, by decide +kernel⟩
theorem hd_X0_takePictures : yX0_takePictures.cls ≠ "java/lang/invoke/MethodHandle" ∧ yX0_takePictures.cls ≠ "java/lang/invoke/VarHandle" ∧ (parseMethodDescriptor yX0_takePictures.desc).map (fun d => d.parameters.length) = some 1 := ⟨by decide, by decide, by decide +kernel⟩
theorem hd_X0_turnStool : yX0_turnStool.cls ≠ "java/lang/invoke/MethodHandle" ∧ yX0_turnStool.cls ≠ "java/lang/invoke/VarHandle" ∧ (parseMethodDescriptor yX0_turnStool.desc).map (fun d => d.parameters.length) = some 1 := ⟨by decide, by decide, by decide +kernel⟩
theorem hd_X0_who : yX0_who.cls ≠ "java/lang/invoke/MethodHandle" ∧ yX0_who.cls ≠ "java/lang/invoke/VarHandle" ∧ (parseMethodDescriptor yX0_who.desc).map (fun d => d.parameters.length) = some 1 := ⟨by decide, by decide, by decide +kernel⟩
theorem hd_X0_whoIsIn : yX0_whoIsIn.cls ≠ "java/lang/invoke/MethodHandle" ∧ yX0_whoIsIn.cls ≠ "java/lang/invoke/VarHandle" ∧ (parseMethodDescriptor yX0_whoIsIn.desc).map (fun d => d.parameters.length) = some 1 := ⟨by decide, by decide, by decide +kernel⟩
theorem hd_X1_allows : yX1_allows.cls ≠ "java/lang/invoke/MethodHandle" ∧ yX1_allows.cls ≠ "java/lang/invoke/VarHandle" ∧ (parseMethodDescriptor yX1_allows.desc).map (fun d => d.parameters.length) = some 2 := ⟨by decide, by decide, by decide +kernel⟩
theorem hd_X1_begin : yX1_begin.cls ≠ "java/lang/invoke/MethodHandle" ∧ yX1_begin.cls ≠ "java/lang/invoke/VarHandle" ∧ (parseMethodDescriptor yX1_begin.desc).map (fun d => d.parameters.length) = some 2 := ⟨by decide, by decide, by decide +kernel⟩
theorem hd_X1_hasNumber : yX1_hasNumber.cls ≠ "java/lang/invoke/MethodHandle" ∧ yX1_hasNumber.cls ≠ "java/lang/invoke/VarHandle" ∧ (parseMethodDescriptor yX1_hasNumber.desc).map (fun d => d.parameters.length) = some 1 := ⟨by decide, by decide, by decide +kernel⟩
theorem hd_X1_hasRange : yX1_hasRange.cls ≠ "java/lang/invoke/MethodHandle" ∧ yX1_hasRange.cls ≠ "java/lang/invoke/VarHandle" ∧ (parseMethodDescriptor yX1_hasRange.desc).map (fun d => d.parameters.length) = some 2 := ⟨by decide, by decide, by decide +kernel⟩
theorem hd_X1_isMissing : yX1_isMissing.cls ≠ "java/lang/invoke/MethodHandle" ∧ yX1_isMissing.cls ≠ "java/lang/invoke/VarHandle" ∧ (parseMethodDescriptor yX1_isMissing.desc).map (fun d => d.parameters.length) = some 0 := ⟨by decide, by decide, by decide +kernel⟩
theorem hd_X1_isWidth : yX1_isWidth.cls ≠ "java/lang/invoke/MethodHandle" ∧ yX1_isWidth.cls ≠ "java/lang/invoke/VarHandle" ∧ (parseMethodDescriptor yX1_isWidth.desc).map (fun d => d.parameters.length) = some 1 := ⟨by decide, by decide, by decide +kernel⟩
theorem hd_X1_number : yX1_number.cls ≠ "java/lang/invoke/MethodHandle" ∧ yX1_number.cls ≠ "java/lang/invoke/VarHandle" ∧ (parseMethodDescriptor yX1_number.desc).map (fun d => d.parameters.length) = some 1 := ⟨by decide, by decide, by decide +kernel⟩
theorem hd_X1_putNumber : yX1_putNumber.cls ≠ "java/lang/invoke/MethodHandle" ∧ yX1_putNumber.cls ≠ "java/lang/invoke/VarHandle" ∧ (parseMethodDescriptor yX1_putNumber.desc).map (fun d => d.parameters.length) = some 2 := ⟨by decide, by decide, by decide +kernel⟩
theorem hd_X2_become : yX2_become.cls ≠ "java/lang/invoke/MethodHandle" ∧ yX2_become.cls ≠ "java/lang/invoke/VarHandle" ∧ (parseMethodDescriptor yX2_become.desc).map (fun d => d.parameters.length) = some 1 := ⟨by decide, by decide, by decide +kernel⟩
theorem hd_X2_begin : yX2_begin.cls ≠ "java/lang/invoke/MethodHandle" ∧ yX2_begin.cls ≠ "java/lang/invoke/VarHandle" ∧ (parseMethodDescriptor yX2_begin.desc).map (fun d => d.parameters.length) = some 1 := ⟨by decide, by decide, by decide +kernel⟩
theorem hd_X2_isOfOrUnder : yX2_isOfOrUnder.cls ≠ "java/lang/invoke/MethodHandle" ∧ yX2_isOfOrUnder.cls ≠ "java/lang/invoke/VarHandle" ∧ (parseMethodDescriptor yX2_isOfOrUnder.desc).map (fun d => d.parameters.length) = some 2 := ⟨by decide, by decide, by decide +kernel⟩
theorem hd_X2_isShining : yX2_isShining.cls ≠ "java/lang/invoke/MethodHandle" ∧ yX2_isShining.cls ≠ "java/lang/invoke/VarHandle" ∧ (parseMethodDescriptor yX2_isShining.desc).map (fun d => d.parameters.length) = some 1 := ⟨by decide, by decide, by decide +kernel⟩
theorem hd_X2_isShut : yX2_isShut.cls ≠ "java/lang/invoke/MethodHandle" ∧ yX2_isShut.cls ≠ "java/lang/invoke/VarHandle" ∧ (parseMethodDescriptor yX2_isShut.desc).map (fun d => d.parameters.length) = some 3 := ⟨by decide, by decide, by decide +kernel⟩
theorem hd_X2_isSmiling : yX2_isSmiling.cls ≠ "java/lang/invoke/MethodHandle" ∧ yX2_isSmiling.cls ≠ "java/lang/invoke/VarHandle" ∧ (parseMethodDescriptor yX2_isSmiling.desc).map (fun d => d.parameters.length) = some 1 := ⟨by decide, by decide, by decide +kernel⟩
theorem hd_X2_kindAbove : yX2_kindAbove.cls ≠ "java/lang/invoke/MethodHandle" ∧ yX2_kindAbove.cls ≠ "java/lang/invoke/VarHandle" ∧ (parseMethodDescriptor yX2_kindAbove.desc).map (fun d => d.parameters.length) = some 1 := ⟨by decide, by decide, by decide +kernel⟩
theorem hd_X2_mayBeOff : yX2_mayBeOff.cls ≠ "java/lang/invoke/MethodHandle" ∧ yX2_mayBeOff.cls ≠ "java/lang/invoke/VarHandle" ∧ (parseMethodDescriptor yX2_mayBeOff.desc).map (fun d => d.parameters.length) = some 0 := ⟨by decide, by decide, by decide +kernel⟩
theorem hd_X2_mostOf : yX2_mostOf.cls ≠ "java/lang/invoke/MethodHandle" ∧ yX2_mostOf.cls ≠ "java/lang/invoke/VarHandle" ∧ (parseMethodDescriptor yX2_mostOf.desc).map (fun d => d.parameters.length) = some 1 := ⟨by decide, by decide, by decide +kernel⟩
theorem hd_X2_off : yX2_off.cls ≠ "java/lang/invoke/MethodHandle" ∧ yX2_off.cls ≠ "java/lang/invoke/VarHandle" ∧ (parseMethodDescriptor yX2_off.desc).map (fun d => d.parameters.length) = some 1 := ⟨by decide, by decide, by decide +kernel⟩
theorem hd_X2_part : yX2_part.cls ≠ "java/lang/invoke/MethodHandle" ∧ yX2_part.cls ≠ "java/lang/invoke/VarHandle" ∧ (parseMethodDescriptor yX2_part.desc).map (fun d => d.parameters.length) = some 1 := ⟨by decide, by decide, by decide +kernel⟩
theorem hd_X2_putPart : yX2_putPart.cls ≠ "java/lang/invoke/MethodHandle" ∧ yX2_putPart.cls ≠ "java/lang/invoke/VarHandle" ∧ (parseMethodDescriptor yX2_putPart.desc).map (fun d => d.parameters.length) = some 2 := ⟨by decide, by decide, by decide +kernel⟩
theorem hd_X3_append : yX3_append.cls ≠ "java/lang/invoke/MethodHandle" ∧ yX3_append.cls ≠ "java/lang/invoke/VarHandle" ∧ (parseMethodDescriptor yX3_append.desc).map (fun d => d.parameters.length) = some 1 := ⟨by decide, by decide, by decide +kernel⟩
theorem hd_X3_byteAt : yX3_byteAt.cls ≠ "java/lang/invoke/MethodHandle" ∧ yX3_byteAt.cls ≠ "java/lang/invoke/VarHandle" ∧ (parseMethodDescriptor yX3_byteAt.desc).map (fun d => d.parameters.length) = some 1 := ⟨by decide, by decide, by decide +kernel⟩
theorem hd_X3_hasRoomFor : yX3_hasRoomFor.cls ≠ "java/lang/invoke/MethodHandle" ∧ yX3_hasRoomFor.cls ≠ "java/lang/invoke/VarHandle" ∧ (parseMethodDescriptor yX3_hasRoomFor.desc).map (fun d => d.parameters.length) = some 1 := ⟨by decide, by decide, by decide +kernel⟩
theorem hd_X3_isDigit : yX3_isDigit.cls ≠ "java/lang/invoke/MethodHandle" ∧ yX3_isDigit.cls ≠ "java/lang/invoke/VarHandle" ∧ (parseMethodDescriptor yX3_isDigit.desc).map (fun d => d.parameters.length) = some 1 := ⟨by decide, by decide, by decide +kernel⟩
theorem hd_X3_isLetter : yX3_isLetter.cls ≠ "java/lang/invoke/MethodHandle" ∧ yX3_isLetter.cls ≠ "java/lang/invoke/VarHandle" ∧ (parseMethodDescriptor yX3_isLetter.desc).map (fun d => d.parameters.length) = some 1 := ⟨by decide, by decide, by decide +kernel⟩
theorem hd_X3_isNumber : yX3_isNumber.cls ≠ "java/lang/invoke/MethodHandle" ∧ yX3_isNumber.cls ≠ "java/lang/invoke/VarHandle" ∧ (parseMethodDescriptor yX3_isNumber.desc).map (fun d => d.parameters.length) = some 1 := ⟨by decide, by decide, by decide +kernel⟩
theorem hd_X3_isWord : yX3_isWord.cls ≠ "java/lang/invoke/MethodHandle" ∧ yX3_isWord.cls ≠ "java/lang/invoke/VarHandle" ∧ (parseMethodDescriptor yX3_isWord.desc).map (fun d => d.parameters.length) = some 1 := ⟨by decide, by decide, by decide +kernel⟩
theorem hd_X3_nextToken : yX3_nextToken.cls ≠ "java/lang/invoke/MethodHandle" ∧ yX3_nextToken.cls ≠ "java/lang/invoke/VarHandle" ∧ (parseMethodDescriptor yX3_nextToken.desc).map (fun d => d.parameters.length) = some 0 := ⟨by decide, by decide, by decide +kernel⟩
theorem hd_X3_readDigits : yX3_readDigits.cls ≠ "java/lang/invoke/MethodHandle" ∧ yX3_readDigits.cls ≠ "java/lang/invoke/VarHandle" ∧ (parseMethodDescriptor yX3_readDigits.desc).map (fun d => d.parameters.length) = some 0 := ⟨by decide, by decide, by decide +kernel⟩
theorem hd_X3_readInto : yX3_readInto.cls ≠ "java/lang/invoke/MethodHandle" ∧ yX3_readInto.cls ≠ "java/lang/invoke/VarHandle" ∧ (parseMethodDescriptor yX3_readInto.desc).map (fun d => d.parameters.length) = some 1 := ⟨by decide, by decide, by decide +kernel⟩
theorem hd_X3_readItem : yX3_readItem.cls ≠ "java/lang/invoke/MethodHandle" ∧ yX3_readItem.cls ≠ "java/lang/invoke/VarHandle" ∧ (parseMethodDescriptor yX3_readItem.desc).map (fun d => d.parameters.length) = some 1 := ⟨by decide, by decide, by decide +kernel⟩
theorem hd_X3_readPart : yX3_readPart.cls ≠ "java/lang/invoke/MethodHandle" ∧ yX3_readPart.cls ≠ "java/lang/invoke/VarHandle" ∧ (parseMethodDescriptor yX3_readPart.desc).map (fun d => d.parameters.length) = some 2 := ⟨by decide, by decide, by decide +kernel⟩
theorem hd_X3_readQueue : yX3_readQueue.cls ≠ "java/lang/invoke/MethodHandle" ∧ yX3_readQueue.cls ≠ "java/lang/invoke/VarHandle" ∧ (parseMethodDescriptor yX3_readQueue.desc).map (fun d => d.parameters.length) = some 1 := ⟨by decide, by decide, by decide +kernel⟩
theorem hd_X3_readSitter : yX3_readSitter.cls ≠ "java/lang/invoke/MethodHandle" ∧ yX3_readSitter.cls ≠ "java/lang/invoke/VarHandle" ∧ (parseMethodDescriptor yX3_readSitter.desc).map (fun d => d.parameters.length) = some 2 := ⟨by decide, by decide, by decide +kernel⟩
theorem hd_X3_wordOfKind : yX3_wordOfKind.cls ≠ "java/lang/invoke/MethodHandle" ∧ yX3_wordOfKind.cls ≠ "java/lang/invoke/VarHandle" ∧ (parseMethodDescriptor yX3_wordOfKind.desc).map (fun d => d.parameters.length) = some 1 := ⟨by decide, by decide, by decide +kernel⟩
theorem hd_X3_wordOfPart : yX3_wordOfPart.cls ≠ "java/lang/invoke/MethodHandle" ∧ yX3_wordOfPart.cls ≠ "java/lang/invoke/VarHandle" ∧ (parseMethodDescriptor yX3_wordOfPart.desc).map (fun d => d.parameters.length) = some 1 := ⟨by decide, by decide, by decide +kernel⟩
theorem hd_X3_wordOfTrait : yX3_wordOfTrait.cls ≠ "java/lang/invoke/MethodHandle" ∧ yX3_wordOfTrait.cls ≠ "java/lang/invoke/VarHandle" ∧ (parseMethodDescriptor yX3_wordOfTrait.desc).map (fun d => d.parameters.length) = some 1 := ⟨by decide, by decide, by decide +kernel⟩
theorem hd_X4_finding : yX4_finding.cls ≠ "java/lang/invoke/MethodHandle" ∧ yX4_finding.cls ≠ "java/lang/invoke/VarHandle" ∧ (parseMethodDescriptor yX4_finding.desc).map (fun d => d.parameters.length) = some 1 := ⟨by decide, by decide, by decide +kernel⟩
theorem hd_X4_isKindAsTold : yX4_isKindAsTold.cls ≠ "java/lang/invoke/MethodHandle" ∧ yX4_isKindAsTold.cls ≠ "java/lang/invoke/VarHandle" ∧ (parseMethodDescriptor yX4_isKindAsTold.desc).map (fun d => d.parameters.length) = some 3 := ⟨by decide, by decide, by decide +kernel⟩
theorem hd_X4_isTallAsTold : yX4_isTallAsTold.cls ≠ "java/lang/invoke/MethodHandle" ∧ yX4_isTallAsTold.cls ≠ "java/lang/invoke/VarHandle" ∧ (parseMethodDescriptor yX4_isTallAsTold.desc).map (fun d => d.parameters.length) = some 3 := ⟨by decide, by decide, by decide +kernel⟩
theorem hd_X4_isWithin : yX4_isWithin.cls ≠ "java/lang/invoke/MethodHandle" ∧ yX4_isWithin.cls ≠ "java/lang/invoke/VarHandle" ∧ (parseMethodDescriptor yX4_isWithin.desc).map (fun d => d.parameters.length) = some 2 := ⟨by decide, by decide, by decide +kernel⟩
theorem hd_X4_lightsWithoutFaults : yX4_lightsWithoutFaults.cls ≠ "java/lang/invoke/MethodHandle" ∧ yX4_lightsWithoutFaults.cls ≠ "java/lang/invoke/VarHandle" ∧ (parseMethodDescriptor yX4_lightsWithoutFaults.desc).map (fun d => d.parameters.length) = some 2 := ⟨by decide, by decide, by decide +kernel⟩
theorem hd_X4_power : yX4_power.cls ≠ "java/lang/invoke/MethodHandle" ∧ yX4_power.cls ≠ "java/lang/invoke/VarHandle" ∧ (parseMethodDescriptor yX4_power.desc).map (fun d => d.parameters.length) = some 2 := ⟨by decide, by decide, by decide +kernel⟩
theorem hd_X4_refusalFor : yX4_refusalFor.cls ≠ "java/lang/invoke/MethodHandle" ∧ yX4_refusalFor.cls ≠ "java/lang/invoke/VarHandle" ∧ (parseMethodDescriptor yX4_refusalFor.desc).map (fun d => d.parameters.length) = some 1 := ⟨by decide, by decide, by decide +kernel⟩
theorem hd_X4_sheetAt : yX4_sheetAt.cls ≠ "java/lang/invoke/MethodHandle" ∧ yX4_sheetAt.cls ≠ "java/lang/invoke/VarHandle" ∧ (parseMethodDescriptor yX4_sheetAt.desc).map (fun d => d.parameters.length) = some 1 := ⟨by decide, by decide, by decide +kernel⟩
theorem hd_X5_above : yX5_above.cls ≠ "java/lang/invoke/MethodHandle" ∧ yX5_above.cls ≠ "java/lang/invoke/VarHandle" ∧ (parseMethodDescriptor yX5_above.desc).map (fun d => d.parameters.length) = some 1 := ⟨by decide, by decide, by decide +kernel⟩
theorem hd_X5_addItem : yX5_addItem.cls ≠ "java/lang/invoke/MethodHandle" ∧ yX5_addItem.cls ≠ "java/lang/invoke/VarHandle" ∧ (parseMethodDescriptor yX5_addItem.desc).map (fun d => d.parameters.length) = some 2 := ⟨by decide, by decide, by decide +kernel⟩
theorem hd_X5_areAllTaken : yX5_areAllTaken.cls ≠ "java/lang/invoke/MethodHandle" ∧ yX5_areAllTaken.cls ≠ "java/lang/invoke/VarHandle" ∧ (parseMethodDescriptor yX5_areAllTaken.desc).map (fun d => d.parameters.length) = some 0 := ⟨by decide, by decide, by decide +kernel⟩
theorem hd_X5_areFaultsSo : yX5_areFaultsSo.cls ≠ "java/lang/invoke/MethodHandle" ∧ yX5_areFaultsSo.cls ≠ "java/lang/invoke/VarHandle" ∧ (parseMethodDescriptor yX5_areFaultsSo.desc).map (fun d => d.parameters.length) = some 2 := ⟨by decide, by decide, by decide +kernel⟩
theorem hd_X5_become : yX5_become.cls ≠ "java/lang/invoke/MethodHandle" ∧ yX5_become.cls ≠ "java/lang/invoke/VarHandle" ∧ (parseMethodDescriptor yX5_become.desc).map (fun d => d.parameters.length) = some 2 := ⟨by decide, by decide, by decide +kernel⟩
theorem hd_X5_behind : yX5_behind.cls ≠ "java/lang/invoke/MethodHandle" ∧ yX5_behind.cls ≠ "java/lang/invoke/VarHandle" ∧ (parseMethodDescriptor yX5_behind.desc).map (fun d => d.parameters.length) = some 2 := ⟨by decide, by decide, by decide +kernel⟩
theorem hd_X5_bits : yX5_bits.cls ≠ "java/lang/invoke/MethodHandle" ∧ yX5_bits.cls ≠ "java/lang/invoke/VarHandle" ∧ (parseMethodDescriptor yX5_bits.desc).map (fun d => d.parameters.length) = some 1 := ⟨by decide, by decide, by decide +kernel⟩
theorem hd_X5_byteAt : yX5_byteAt.cls ≠ "java/lang/invoke/MethodHandle" ∧ yX5_byteAt.cls ≠ "java/lang/invoke/VarHandle" ∧ (parseMethodDescriptor yX5_byteAt.desc).map (fun d => d.parameters.length) = some 1 := ⟨by decide, by decide, by decide +kernel⟩
theorem hd_X5_comes : yX5_comes.cls ≠ "java/lang/invoke/MethodHandle" ∧ yX5_comes.cls ≠ "java/lang/invoke/VarHandle" ∧ (parseMethodDescriptor yX5_comes.desc).map (fun d => d.parameters.length) = some 5 := ⟨by decide, by decide, by decide +kernel⟩
theorem hd_X5_commonFaults : yX5_commonFaults.cls ≠ "java/lang/invoke/MethodHandle" ∧ yX5_commonFaults.cls ≠ "java/lang/invoke/VarHandle" ∧ (parseMethodDescriptor yX5_commonFaults.desc).map (fun d => d.parameters.length) = some 0 := ⟨by decide, by decide, by decide +kernel⟩
theorem hd_X5_copyRow : yX5_copyRow.cls ≠ "java/lang/invoke/MethodHandle" ∧ yX5_copyRow.cls ≠ "java/lang/invoke/VarHandle" ∧ (parseMethodDescriptor yX5_copyRow.desc).map (fun d => d.parameters.length) = some 2 := ⟨by decide, by decide, by decide +kernel⟩
theorem hd_X5_cutTo : yX5_cutTo.cls ≠ "java/lang/invoke/MethodHandle" ∧ yX5_cutTo.cls ≠ "java/lang/invoke/VarHandle" ∧ (parseMethodDescriptor yX5_cutTo.desc).map (fun d => d.parameters.length) = some 2 := ⟨by decide, by decide, by decide +kernel⟩
theorem hd_X5_drawn : yX5_drawn.cls ≠ "java/lang/invoke/MethodHandle" ∧ yX5_drawn.cls ≠ "java/lang/invoke/VarHandle" ∧ (parseMethodDescriptor yX5_drawn.desc).map (fun d => d.parameters.length) = some 0 := ⟨by decide, by decide, by decide +kernel⟩
theorem hd_X5_faultsNow : yX5_faultsNow.cls ≠ "java/lang/invoke/MethodHandle" ∧ yX5_faultsNow.cls ≠ "java/lang/invoke/VarHandle" ∧ (parseMethodDescriptor yX5_faultsNow.desc).map (fun d => d.parameters.length) = some 2 := ⟨by decide, by decide, by decide +kernel⟩
theorem hd_X5_faultsTogether : yX5_faultsTogether.cls ≠ "java/lang/invoke/MethodHandle" ∧ yX5_faultsTogether.cls ≠ "java/lang/invoke/VarHandle" ∧ (parseMethodDescriptor yX5_faultsTogether.desc).map (fun d => d.parameters.length) = some 1 := ⟨by decide, by decide, by decide +kernel⟩
theorem hd_X5_finding : yX5_finding.cls ≠ "java/lang/invoke/MethodHandle" ∧ yX5_finding.cls ≠ "java/lang/invoke/VarHandle" ∧ (parseMethodDescriptor yX5_finding.desc).map (fun d => d.parameters.length) = some 1 := ⟨by decide, by decide, by decide +kernel⟩
theorem hd_X5_fitTall : yX5_fitTall.cls ≠ "java/lang/invoke/MethodHandle" ∧ yX5_fitTall.cls ≠ "java/lang/invoke/VarHandle" ∧ (parseMethodDescriptor yX5_fitTall.desc).map (fun d => d.parameters.length) = some 2 := ⟨by decide, by decide, by decide +kernel⟩
theorem hd_X5_goodOnes : yX5_goodOnes.cls ≠ "java/lang/invoke/MethodHandle" ∧ yX5_goodOnes.cls ≠ "java/lang/invoke/VarHandle" ∧ (parseMethodDescriptor yX5_goodOnes.desc).map (fun d => d.parameters.length) = some 0 := ⟨by decide, by decide, by decide +kernel⟩
theorem hd_X5_hasBit : yX5_hasBit.cls ≠ "java/lang/invoke/MethodHandle" ∧ yX5_hasBit.cls ≠ "java/lang/invoke/VarHandle" ∧ (parseMethodDescriptor yX5_hasBit.desc).map (fun d => d.parameters.length) = some 2 := ⟨by decide, by decide, by decide +kernel⟩
theorem hd_X5_isField : yX5_isField.cls ≠ "java/lang/invoke/MethodHandle" ∧ yX5_isField.cls ≠ "java/lang/invoke/VarHandle" ∧ (parseMethodDescriptor yX5_isField.desc).map (fun d => d.parameters.length) = some 2 := ⟨by decide, by decide, by decide +kernel⟩
theorem hd_X5_isFlash : yX5_isFlash.cls ≠ "java/lang/invoke/MethodHandle" ∧ yX5_isFlash.cls ≠ "java/lang/invoke/VarHandle" ∧ (parseMethodDescriptor yX5_isFlash.desc).map (fun d => d.parameters.length) = some 1 := ⟨by decide, by decide, by decide +kernel⟩
theorem hd_X5_isGood : yX5_isGood.cls ≠ "java/lang/invoke/MethodHandle" ∧ yX5_isGood.cls ≠ "java/lang/invoke/VarHandle" ∧ (parseMethodDescriptor yX5_isGood.desc).map (fun d => d.parameters.length) = some 1 := ⟨by decide, by decide, by decide +kernel⟩
theorem hd_X5_isInQueue : yX5_isInQueue.cls ≠ "java/lang/invoke/MethodHandle" ∧ yX5_isInQueue.cls ≠ "java/lang/invoke/VarHandle" ∧ (parseMethodDescriptor yX5_isInQueue.desc).map (fun d => d.parameters.length) = some 1 := ⟨by decide, by decide, by decide +kernel⟩
theorem hd_X5_isKind : yX5_isKind.cls ≠ "java/lang/invoke/MethodHandle" ∧ yX5_isKind.cls ≠ "java/lang/invoke/VarHandle" ∧ (parseMethodDescriptor yX5_isKind.desc).map (fun d => d.parameters.length) = some 1 := ⟨by decide, by decide, by decide +kernel⟩
theorem hd_X5_isPlace : yX5_isPlace.cls ≠ "java/lang/invoke/MethodHandle" ∧ yX5_isPlace.cls ≠ "java/lang/invoke/VarHandle" ∧ (parseMethodDescriptor yX5_isPlace.desc).map (fun d => d.parameters.length) = some 1 := ⟨by decide, by decide, by decide +kernel⟩
theorem hd_X5_isSet : yX5_isSet.cls ≠ "java/lang/invoke/MethodHandle" ∧ yX5_isSet.cls ≠ "java/lang/invoke/VarHandle" ∧ (parseMethodDescriptor yX5_isSet.desc).map (fun d => d.parameters.length) = some 2 := ⟨by decide, by decide, by decide +kernel⟩
theorem hd_X5_isSheet : yX5_isSheet.cls ≠ "java/lang/invoke/MethodHandle" ∧ yX5_isSheet.cls ≠ "java/lang/invoke/VarHandle" ∧ (parseMethodDescriptor yX5_isSheet.desc).map (fun d => d.parameters.length) = some 1 := ⟨by decide, by decide, by decide +kernel⟩
theorem hd_X5_isShining : yX5_isShining.cls ≠ "java/lang/invoke/MethodHandle" ∧ yX5_isShining.cls ≠ "java/lang/invoke/VarHandle" ∧ (parseMethodDescriptor yX5_isShining.desc).map (fun d => d.parameters.length) = some 1 := ⟨by decide, by decide, by decide +kernel⟩
theorem hd_X5_isShut : yX5_isShut.cls ≠ "java/lang/invoke/MethodHandle" ∧ yX5_isShut.cls ≠ "java/lang/invoke/VarHandle" ∧ (parseMethodDescriptor yX5_isShut.desc).map (fun d => d.parameters.length) = some 2 := ⟨by decide, by decide, by decide +kernel⟩
theorem hd_X5_isSitter : yX5_isSitter.cls ≠ "java/lang/invoke/MethodHandle" ∧ yX5_isSitter.cls ≠ "java/lang/invoke/VarHandle" ∧ (parseMethodDescriptor yX5_isSitter.desc).map (fun d => d.parameters.length) = some 1 := ⟨by decide, by decide, by decide +kernel⟩
theorem hd_X5_isSmiling : yX5_isSmiling.cls ≠ "java/lang/invoke/MethodHandle" ∧ yX5_isSmiling.cls ≠ "java/lang/invoke/VarHandle" ∧ (parseMethodDescriptor yX5_isSmiling.desc).map (fun d => d.parameters.length) = some 2 := ⟨by decide, by decide, by decide +kernel⟩
theorem hd_X5_isSpot : yX5_isSpot.cls ≠ "java/lang/invoke/MethodHandle" ∧ yX5_isSpot.cls ≠ "java/lang/invoke/VarHandle" ∧ (parseMethodDescriptor yX5_isSpot.desc).map (fun d => d.parameters.length) = some 1 := ⟨by decide, by decide, by decide +kernel⟩
theorem hd_X5_isTakenWith : yX5_isTakenWith.cls ≠ "java/lang/invoke/MethodHandle" ∧ yX5_isTakenWith.cls ≠ "java/lang/invoke/VarHandle" ∧ (parseMethodDescriptor yX5_isTakenWith.desc).map (fun d => d.parameters.length) = some 4 := ⟨by decide, by decide, by decide +kernel⟩
theorem hd_X5_isThought : yX5_isThought.cls ≠ "java/lang/invoke/MethodHandle" ∧ yX5_isThought.cls ≠ "java/lang/invoke/VarHandle" ∧ (parseMethodDescriptor yX5_isThought.desc).map (fun d => d.parameters.length) = some 1 := ⟨by decide, by decide, by decide +kernel⟩
theorem hd_X5_isToldSo : yX5_isToldSo.cls ≠ "java/lang/invoke/MethodHandle" ∧ yX5_isToldSo.cls ≠ "java/lang/invoke/VarHandle" ∧ (parseMethodDescriptor yX5_isToldSo.desc).map (fun d => d.parameters.length) = some 1 := ⟨by decide, by decide, by decide +kernel⟩
theorem hd_X5_isUnder : yX5_isUnder.cls ≠ "java/lang/invoke/MethodHandle" ∧ yX5_isUnder.cls ≠ "java/lang/invoke/VarHandle" ∧ (parseMethodDescriptor yX5_isUnder.desc).map (fun d => d.parameters.length) = some 2 := ⟨by decide, by decide, by decide +kernel⟩
theorem hd_X5_isWord : yX5_isWord.cls ≠ "java/lang/invoke/MethodHandle" ∧ yX5_isWord.cls ≠ "java/lang/invoke/VarHandle" ∧ (parseMethodDescriptor yX5_isWord.desc).map (fun d => d.parameters.length) = some 1 := ⟨by decide, by decide, by decide +kernel⟩
theorem hd_X5_kindTold : yX5_kindTold.cls ≠ "java/lang/invoke/MethodHandle" ∧ yX5_kindTold.cls ≠ "java/lang/invoke/VarHandle" ∧ (parseMethodDescriptor yX5_kindTold.desc).map (fun d => d.parameters.length) = some 0 := ⟨by decide, by decide, by decide +kernel⟩
theorem hd_X5_lacks : yX5_lacks.cls ≠ "java/lang/invoke/MethodHandle" ∧ yX5_lacks.cls ≠ "java/lang/invoke/VarHandle" ∧ (parseMethodDescriptor yX5_lacks.desc).map (fun d => d.parameters.length) = some 2 := ⟨by decide, by decide, by decide +kernel⟩
theorem hd_X5_may : yX5_may.cls ≠ "java/lang/invoke/MethodHandle" ∧ yX5_may.cls ≠ "java/lang/invoke/VarHandle" ∧ (parseMethodDescriptor yX5_may.desc).map (fun d => d.parameters.length) = some 1 := ⟨by decide, by decide, by decide +kernel⟩
theorem hd_X5_minute : yX5_minute.cls ≠ "java/lang/invoke/MethodHandle" ∧ yX5_minute.cls ≠ "java/lang/invoke/VarHandle" ∧ (parseMethodDescriptor yX5_minute.desc).map (fun d => d.parameters.length) = some 0 := ⟨by decide, by decide, by decide +kernel⟩
theorem hd_X5_minutes : yX5_minutes.cls ≠ "java/lang/invoke/MethodHandle" ∧ yX5_minutes.cls ≠ "java/lang/invoke/VarHandle" ∧ (parseMethodDescriptor yX5_minutes.desc).map (fun d => d.parameters.length) = some 1 := ⟨by decide, by decide, by decide +kernel⟩
theorem hd_X5_must : yX5_must.cls ≠ "java/lang/invoke/MethodHandle" ∧ yX5_must.cls ≠ "java/lang/invoke/VarHandle" ∧ (parseMethodDescriptor yX5_must.desc).map (fun d => d.parameters.length) = some 1 := ⟨by decide, by decide, by decide +kernel⟩
theorem hd_X5_next : yX5_next.cls ≠ "java/lang/invoke/MethodHandle" ∧ yX5_next.cls ≠ "java/lang/invoke/VarHandle" ∧ (parseMethodDescriptor yX5_next.desc).map (fun d => d.parameters.length) = some 0 := ⟨by decide, by decide, by decide +kernel⟩
theorem hd_X5_number : yX5_number.cls ≠ "java/lang/invoke/MethodHandle" ∧ yX5_number.cls ≠ "java/lang/invoke/VarHandle" ∧ (parseMethodDescriptor yX5_number.desc).map (fun d => d.parameters.length) = some 2 := ⟨by decide, by decide, by decide +kernel⟩
theorem hd_X5_off : yX5_off.cls ≠ "java/lang/invoke/MethodHandle" ∧ yX5_off.cls ≠ "java/lang/invoke/VarHandle" ∧ (parseMethodDescriptor yX5_off.desc).map (fun d => d.parameters.length) = some 1 := ⟨by decide, by decide, by decide +kernel⟩
theorem hd_X5_orNone : yX5_orNone.cls ≠ "java/lang/invoke/MethodHandle" ∧ yX5_orNone.cls ≠ "java/lang/invoke/VarHandle" ∧ (parseMethodDescriptor yX5_orNone.desc).map (fun d => d.parameters.length) = some 1 := ⟨by decide, by decide, by decide +kernel⟩
theorem hd_X5_perhaps : yX5_perhaps.cls ≠ "java/lang/invoke/MethodHandle" ∧ yX5_perhaps.cls ≠ "java/lang/invoke/VarHandle" ∧ (parseMethodDescriptor yX5_perhaps.desc).map (fun d => d.parameters.length) = some 3 := ⟨by decide, by decide, by decide +kernel⟩
theorem hd_X5_putBack : yX5_putBack.cls ≠ "java/lang/invoke/MethodHandle" ∧ yX5_putBack.cls ≠ "java/lang/invoke/VarHandle" ∧ (parseMethodDescriptor yX5_putBack.desc).map (fun d => d.parameters.length) = some 1 := ⟨by decide, by decide, by decide +kernel⟩
theorem hd_X5_readItem : yX5_readItem.cls ≠ "java/lang/invoke/MethodHandle" ∧ yX5_readItem.cls ≠ "java/lang/invoke/VarHandle" ∧ (parseMethodDescriptor yX5_readItem.desc).map (fun d => d.parameters.length) = some 0 := ⟨by decide, by decide, by decide +kernel⟩
theorem hd_X5_readNumber : yX5_readNumber.cls ≠ "java/lang/invoke/MethodHandle" ∧ yX5_readNumber.cls ≠ "java/lang/invoke/VarHandle" ∧ (parseMethodDescriptor yX5_readNumber.desc).map (fun d => d.parameters.length) = some 2 := ⟨by decide, by decide, by decide +kernel⟩
theorem hd_X5_readQueue : yX5_readQueue.cls ≠ "java/lang/invoke/MethodHandle" ∧ yX5_readQueue.cls ≠ "java/lang/invoke/VarHandle" ∧ (parseMethodDescriptor yX5_readQueue.desc).map (fun d => d.parameters.length) = some 0 := ⟨by decide, by decide, by decide +kernel⟩
theorem hd_X5_readSitter : yX5_readSitter.cls ≠ "java/lang/invoke/MethodHandle" ∧ yX5_readSitter.cls ≠ "java/lang/invoke/VarHandle" ∧ (parseMethodDescriptor yX5_readSitter.desc).map (fun d => d.parameters.length) = some 1 := ⟨by decide, by decide, by decide +kernel⟩
theorem hd_X5_sits : yX5_sits.cls ≠ "java/lang/invoke/MethodHandle" ∧ yX5_sits.cls ≠ "java/lang/invoke/VarHandle" ∧ (parseMethodDescriptor yX5_sits.desc).map (fun d => d.parameters.length) = some 1 := ⟨by decide, by decide, by decide +kernel⟩
theorem hd_X5_sitterAt : yX5_sitterAt.cls ≠ "java/lang/invoke/MethodHandle" ∧ yX5_sitterAt.cls ≠ "java/lang/invoke/VarHandle" ∧ (parseMethodDescriptor yX5_sitterAt.desc).map (fun d => d.parameters.length) = some 2 := ⟨by decide, by decide, by decide +kernel⟩
theorem hd_X5_sitterIs : yX5_sitterIs.cls ≠ "java/lang/invoke/MethodHandle" ∧ yX5_sitterIs.cls ≠ "java/lang/invoke/VarHandle" ∧ (parseMethodDescriptor yX5_sitterIs.desc).map (fun d => d.parameters.length) = some 2 := ⟨by decide, by decide, by decide +kernel⟩
theorem hd_X5_sumOf : yX5_sumOf.cls ≠ "java/lang/invoke/MethodHandle" ∧ yX5_sumOf.cls ≠ "java/lang/invoke/VarHandle" ∧ (parseMethodDescriptor yX5_sumOf.desc).map (fun d => d.parameters.length) = some 1 := ⟨by decide, by decide, by decide +kernel⟩
theorem hd_X5_takenWith : yX5_takenWith.cls ≠ "java/lang/invoke/MethodHandle" ∧ yX5_takenWith.cls ≠ "java/lang/invoke/VarHandle" ∧ (parseMethodDescriptor yX5_takenWith.desc).map (fun d => d.parameters.length) = some 4 := ⟨by decide, by decide, by decide +kernel⟩
theorem hd_X5_takenWithout : yX5_takenWithout.cls ≠ "java/lang/invoke/MethodHandle" ∧ yX5_takenWithout.cls ≠ "java/lang/invoke/VarHandle" ∧ (parseMethodDescriptor yX5_takenWithout.desc).map (fun d => d.parameters.length) = some 3 := ⟨by decide, by decide, by decide +kernel⟩
theorem hd_X5_token : yX5_token.cls ≠ "java/lang/invoke/MethodHandle" ∧ yX5_token.cls ≠ "java/lang/invoke/VarHandle" ∧ (parseMethodDescriptor yX5_token.desc).map (fun d => d.parameters.length) = some 0 := ⟨by decide, by decide, by decide +kernel⟩
theorem hd_X5_turnsStool : yX5_turnsStool.cls ≠ "java/lang/invoke/MethodHandle" ∧ yX5_turnsStool.cls ≠ "java/lang/invoke/VarHandle" ∧ (parseMethodDescriptor yX5_turnsStool.desc).map (fun d => d.parameters.length) = some 1 := ⟨by decide, by decide, by decide +kernel⟩
theorem hd_X5_wasTakenSo : yX5_wasTakenSo.cls ≠ "java/lang/invoke/MethodHandle" ∧ yX5_wasTakenSo.cls ≠ "java/lang/invoke/VarHandle" ∧ (parseMethodDescriptor yX5_wasTakenSo.desc).map (fun d => d.parameters.length) = some 2 := ⟨by decide, by decide, by decide +kernel⟩
theorem hd_X5_within : yX5_within.cls ≠ "java/lang/invoke/MethodHandle" ∧ yX5_within.cls ≠ "java/lang/invoke/VarHandle" ∧ (parseMethodDescriptor yX5_within.desc).map (fun d => d.parameters.length) = some 3 := ⟨by decide, by decide, by decide +kernel⟩
theorem cv_X0_47 : CV RX0 47 yX2_become cX2_become 2 none 1 := ⟨wm_X0_47, wi_X2_become, wv_X2_become, wn_X2, wc_X2_become, hd_X2_become⟩
theorem cv_X0_58 : CS RX0 58 yX0_isPlace cX0_isPlace 1 (some .boolean) 1 := ⟨wm_X0_58, wt_X0_isPlace, wn_X0, wc_X0_isPlace, hd_X0_isPlace⟩
theorem cv_X0_62 : CV RX0 62 yX0_isSitter cX0_isSitter 2 (some .boolean) 1 := ⟨wm_X0_62, wi_X0_isSitter, wv_X0_isSitter, wn_X0, wc_X0_isSitter, hd_X0_isSitter⟩
theorem cv_X0_65 : CV RX0 65 yX2_begin cX2_begin 2 none 1 := ⟨wm_X0_65, wi_X2_begin, wv_X2_begin, wn_X2, wc_X2_begin, hd_X2_begin⟩
theorem cv_X0_69 : CV RX0 69 yX0_who cX0_who 2 (some (.object "BoothFlash$Sitter")) 1 := ⟨wm_X0_69, wi_X0_who, wv_X0_who, wn_X0, wc_X0_who, hd_X0_who⟩
theorem cv_X0_73 : CV RX0 73 yX2_part cX2_part 2 (some .int) 1 := ⟨wm_X0_73, wi_X2_part, wv_X2_part, wn_X2, wc_X2_part, hd_X2_part⟩
theorem cv_X0_77 : CV RX0 77 yX2_putPart cX2_putPart 3 none 2 := ⟨wm_X0_77, wi_X2_putPart, wv_X2_putPart, wn_X2, wc_X2_putPart, hd_X2_putPart⟩
theorem cv_X0_81 : CV RX0 81 yX0_partOf cX0_partOf 4 (some .int) 2 := ⟨wm_X0_81, wi_X0_partOf, wv_X0_partOf, wn_X0, wc_X0_partOf, hd_X0_partOf⟩
theorem cv_X0_85 : CV RX0 85 yX2_off cX2_off 2 (some .int) 1 := ⟨wm_X0_85, wi_X2_off, wv_X2_off, wn_X2, wc_X2_off, hd_X2_off⟩
theorem cv_X0_88 : CV RX0 88 yX2_mayBeOff cX2_mayBeOff 1 (some .int) 0 := ⟨wm_X0_88, wi_X2_mayBeOff, wv_X2_mayBeOff, wn_X2, wc_X2_mayBeOff, hd_X2_mayBeOff⟩
theorem cv_X0_92 : CV RX0 92 yX2_isShut cX2_isShut 6 (some .boolean) 3 := ⟨wm_X0_92, wi_X2_isShut, wv_X2_isShut, wn_X2, wc_X2_isShut, hd_X2_isShut⟩
theorem cv_X0_96 : CV RX0 96 yX2_isSmiling cX2_isSmiling 3 (some .boolean) 1 := ⟨wm_X0_96, wi_X2_isSmiling, wv_X2_isSmiling, wn_X2, wc_X2_isSmiling, hd_X2_isSmiling⟩
theorem cv_X0_99 : CV RX0 99 yX2_isShining cX2_isShining 2 (some .boolean) 1 := ⟨wm_X0_99, wi_X2_isShining, wv_X2_isShining, wn_X2, wc_X2_isShining, hd_X2_isShining⟩
theorem cv_X0_102 : CV RX0 102 yX0_faultsOf cX0_faultsOf 4 (some .int) 2 := ⟨wm_X0_102, wi_X0_faultsOf, wv_X0_faultsOf, wn_X0, wc_X0_faultsOf, hd_X0_faultsOf⟩
theorem cv_X0_106 : CV RX0 106 yX0_hasClearFlash cX0_hasClearFlash 3 (some .boolean) 1 := ⟨wm_X0_106, wi_X0_hasClearFlash, wv_X0_hasClearFlash, wn_X0, wc_X0_hasClearFlash, hd_X0_hasClearFlash⟩
theorem cv_X0_110 : CS RX0 110 yJ6_bitCount_0f7a4 cJ6_bitCount_0f7a4 1 (some .int) 1 := ⟨wm_X0_110, wt_J6_bitCount_0f7a4, wn_J6, wc_J6_bitCount_0f7a4, hd_J6_bitCount_0f7a4⟩
theorem cv_X0_115 : CV RX0 115 yX0_passMinute cX0_passMinute 2 none 0 := ⟨wm_X0_115, wi_X0_passMinute, wv_X0_passMinute, wn_X0, wc_X0_passMinute, hd_X0_passMinute⟩
theorem cv_X0_118 : CV RX0 118 yX0_nextPlace cX0_nextPlace 1 (some .int) 0 := ⟨wm_X0_118, wi_X0_nextPlace, wv_X0_nextPlace, wn_X0, wc_X0_nextPlace, hd_X0_nextPlace⟩
theorem cv_X0_121 : CV RX0 121 yX0_whoIsIn cX0_whoIsIn 2 (some .int) 1 := ⟨wm_X0_121, wi_X0_whoIsIn, wv_X0_whoIsIn, wn_X0, wc_X0_whoIsIn, hd_X0_whoIsIn⟩
theorem cv_X0_127 : CV RX0 127 yX0_takePictures cX0_takePictures 2 none 1 := ⟨wm_X0_127, wi_X0_takePictures, wv_X0_takePictures, wn_X0, wc_X0_takePictures, hd_X0_takePictures⟩
theorem cv_X0_135 : CV RX0 135 yX0_payOut cX0_payOut 3 none 0 := ⟨wm_X0_135, wi_X0_payOut, wv_X0_payOut, wn_X0, wc_X0_payOut, hd_X0_payOut⟩
theorem cv_X0_138 : CS RX0 138 yX0_mostOf cX0_mostOf 1 (some .int) 1 := ⟨wm_X0_138, wt_X0_mostOf, wn_X0, wc_X0_mostOf, hd_X0_mostOf⟩
theorem cv_X0_144 : CS RX0 144 yX2_mostOf cX2_mostOf 1 (some .int) 1 := ⟨wm_X0_144, wt_X2_mostOf, wn_X2, wc_X2_mostOf, hd_X2_mostOf⟩
theorem cv_X0_145 : CV RX0 145 yX0_turnStool cX0_turnStool 3 none 1 := ⟨wm_X0_145, wi_X0_turnStool, wv_X0_turnStool, wn_X0, wc_X0_turnStool, hd_X0_turnStool⟩
theorem cv_X1_20 : CV RX1 20 yX1_hasNumber cX1_hasNumber 2 (some .boolean) 1 := ⟨wm_X1_20, wi_X1_hasNumber, wv_X1_hasNumber, wn_X1, wc_X1_hasNumber, hd_X1_hasNumber⟩
theorem cv_X1_24 : CV RX1 24 yX1_number cX1_number 2 (some .int) 1 := ⟨wm_X1_24, wi_X1_number, wv_X1_number, wn_X1, wc_X1_number, hd_X1_number⟩
theorem cv_X2_37 : CS RX2 37 yX2_kindAbove cX2_kindAbove 1 (some .int) 1 := ⟨wm_X2_37, wt_X2_kindAbove, wn_X2, wc_X2_kindAbove, hd_X2_kindAbove⟩
theorem cv_X3_31 : CV RX3 31 yX3_nextToken cX3_nextToken 2 none 0 := ⟨wm_X3_31, wi_X3_nextToken, wv_X3_nextToken, wn_X3, wc_X3_nextToken, hd_X3_nextToken⟩
theorem cv_X3_34 : CV RX3 34 yX3_readItem cX3_readItem 3 (some .boolean) 1 := ⟨wm_X3_34, wi_X3_readItem, wv_X3_readItem, wn_X3, wc_X3_readItem, hd_X3_readItem⟩
theorem cv_X3_38 : CS RX3 38 yX3_wordOfKind cX3_wordOfKind 1 (some (.object "java/lang/String")) 1 := ⟨wm_X3_38, wt_X3_wordOfKind, wn_X3, wc_X3_wordOfKind, hd_X3_wordOfKind⟩
theorem cv_X3_42 : CV RX3 42 yX3_isWord cX3_isWord 3 (some .boolean) 1 := ⟨wm_X3_42, wi_X3_isWord, wv_X3_isWord, wn_X3, wc_X3_isWord, hd_X3_isWord⟩
theorem cv_X3_46 : CV RX3 46 yX3_readSitter cX3_readSitter 5 (some .boolean) 2 := ⟨wm_X3_46, wi_X3_readSitter, wv_X3_readSitter, wn_X3, wc_X3_readSitter, hd_X3_readSitter⟩
theorem cv_X3_52 : CV RX3 52 yX3_readQueue cX3_readQueue 3 (some .boolean) 1 := ⟨wm_X3_52, wi_X3_readQueue, wv_X3_readQueue, wn_X3, wc_X3_readQueue, hd_X3_readQueue⟩
theorem cv_X3_55 : CS RX3 55 yX3_wordOfPart cX3_wordOfPart 1 (some (.object "java/lang/String")) 1 := ⟨wm_X3_55, wt_X3_wordOfPart, wn_X3, wc_X3_wordOfPart, hd_X3_wordOfPart⟩
theorem cv_X3_58 : CV RX3 58 yX3_readPart cX3_readPart 3 (some .boolean) 2 := ⟨wm_X3_58, wi_X3_readPart, wv_X3_readPart, wn_X3, wc_X3_readPart, hd_X3_readPart⟩
theorem cv_X3_61 : CV RX3 61 yX0_addSitter cX0_addSitter 2 (some .int) 1 := ⟨wm_X3_61, wi_X0_addSitter, wv_X0_addSitter, wn_X0, wc_X0_addSitter, hd_X0_addSitter⟩
theorem cv_X3_67 : CS RX3 67 yX3_wordOfTrait cX3_wordOfTrait 1 (some (.object "java/lang/String")) 1 := ⟨wm_X3_67, wt_X3_wordOfTrait, wn_X3, wc_X3_wordOfTrait, hd_X3_wordOfTrait⟩
theorem cv_X3_70 : CS RX3 70 yX2_mostOf cX2_mostOf 1 (some .int) 1 := ⟨wm_X3_70, wt_X2_mostOf, wn_X2, wc_X2_mostOf, hd_X2_mostOf⟩
theorem cv_X3_75 : CV RX3 75 yX3_isNumber cX3_isNumber 2 (some .boolean) 1 := ⟨wm_X3_75, wi_X3_isNumber, wv_X3_isNumber, wn_X3, wc_X3_isNumber, hd_X3_isNumber⟩
theorem cv_X3_79 : CV RX3 79 yX0_give cX0_give 5 none 3 := ⟨wm_X3_79, wi_X0_give, wv_X0_give, wn_X0, wc_X0_give, hd_X0_give⟩
theorem cv_X3_86 : CV RX3 86 yX0_seat cX0_seat 3 none 2 := ⟨wm_X3_86, wi_X0_seat, wv_X0_seat, wn_X0, wc_X0_seat, hd_X0_seat⟩
theorem cv_X3_90 : CS RX3 90 yX0_mostOf cX0_mostOf 1 (some .int) 1 := ⟨wm_X3_90, wt_X0_mostOf, wn_X0, wc_X0_mostOf, hd_X0_mostOf⟩
theorem cv_X3_91 : CV RX3 91 yX0_putPart cX0_putPart 3 none 2 := ⟨wm_X3_91, wi_X0_putPart, wv_X0_putPart, wn_X0, wc_X0_putPart, hd_X0_putPart⟩
theorem cv_X3_94 : CV RX3 94 yX3_byteAt cX3_byteAt 2 (some .int) 1 := ⟨wm_X3_94, wi_X3_byteAt, wv_X3_byteAt, wn_X3, wc_X3_byteAt, hd_X3_byteAt⟩
theorem cv_X3_97 : CS RX3 97 yX3_isLetter cX3_isLetter 1 (some .boolean) 1 := ⟨wm_X3_97, wt_X3_isLetter, wn_X3, wc_X3_isLetter, hd_X3_isLetter⟩
theorem cv_X3_100 : CS RX3 100 yX3_isDigit cX3_isDigit 1 (some .boolean) 1 := ⟨wm_X3_100, wt_X3_isDigit, wn_X3, wc_X3_isDigit, hd_X3_isDigit⟩
theorem cv_X3_103 : CV RX3 103 yX3_readDigits cX3_readDigits 1 none 0 := ⟨wm_X3_103, wi_X3_readDigits, wv_X3_readDigits, wn_X3, wc_X3_readDigits, hd_X3_readDigits⟩
theorem cv_X3_112 : CV RX3 112 yJ0_length_8abf5 cJ0_length_8abf5 1 (some .int) 0 := ⟨wm_X3_112, wi_J0_length_8abf5, wv_J0_length_8abf5, wn_J0, wc_J0_length_8abf5, hd_J0_length_8abf5⟩
theorem cv_X3_118 : CV RX3 118 yJ0_charAt_5068e cJ0_charAt_5068e 2 (some .char) 1 := ⟨wm_X3_118, wi_J0_charAt_5068e, wv_J0_charAt_5068e, wn_J0, wc_J0_charAt_5068e, hd_J0_charAt_5068e⟩
theorem cv_X4_44 : CS RX4 44 yX0_isPart cX0_isPart 1 (some .boolean) 1 := ⟨wm_X4_44, wt_X0_isPart, wn_X0, wc_X0_isPart, hd_X0_isPart⟩
theorem cv_X4_48 : CS RX4 48 yX0_mostOf cX0_mostOf 1 (some .int) 1 := ⟨wm_X4_48, wt_X0_mostOf, wn_X0, wc_X0_mostOf, hd_X0_mostOf⟩
theorem cv_X4_52 : CS RX4 52 yX4_isWithin cX4_isWithin 2 (some .boolean) 2 := ⟨wm_X4_52, wt_X4_isWithin, wn_X4, wc_X4_isWithin, hd_X4_isWithin⟩
theorem cv_X4_57 : CV RX4 57 yX4_finding cX4_finding 3 (some .int) 1 := ⟨wm_X4_57, wi_X4_finding, wv_X4_finding, wn_X4, wc_X4_finding, hd_X4_finding⟩
theorem cv_X4_60 : CV RX4 60 yX0_part cX0_part 2 (some .int) 1 := ⟨wm_X4_60, wi_X0_part, wv_X0_part, wn_X0, wc_X0_part, hd_X0_part⟩
theorem cv_X4_63 : CV RX4 63 yX0_putPart cX0_putPart 3 none 2 := ⟨wm_X4_63, wi_X0_putPart, wv_X0_putPart, wn_X0, wc_X0_putPart, hd_X0_putPart⟩
theorem cv_X4_67 : CS RX4 67 yX0_isPlace cX0_isPlace 1 (some .boolean) 1 := ⟨wm_X4_67, wt_X0_isPlace, wn_X0, wc_X0_isPlace, hd_X0_isPlace⟩
theorem cv_X4_70 : CV RX4 70 yX0_isSomebodyOrNobody cX0_isSomebodyOrNobody 2 (some .boolean) 1 := ⟨wm_X4_70, wi_X0_isSomebodyOrNobody, wv_X0_isSomebodyOrNobody, wn_X0, wc_X0_isSomebodyOrNobody, hd_X0_isSomebodyOrNobody⟩
theorem cv_X4_73 : CV RX4 73 yX0_whoIsIn cX0_whoIsIn 2 (some .int) 1 := ⟨wm_X4_73, wi_X0_whoIsIn, wv_X0_whoIsIn, wn_X0, wc_X0_whoIsIn, hd_X0_whoIsIn⟩
theorem cv_X4_76 : CV RX4 76 yX0_seat cX0_seat 3 none 2 := ⟨wm_X4_76, wi_X0_seat, wv_X0_seat, wn_X0, wc_X0_seat, hd_X0_seat⟩
theorem cv_X4_79 : CS RX4 79 yX2_mostOf cX2_mostOf 1 (some .int) 1 := ⟨wm_X4_79, wt_X2_mostOf, wn_X2, wc_X2_mostOf, hd_X2_mostOf⟩
theorem cv_X4_82 : CV RX4 82 yX0_addSitter cX0_addSitter 2 (some .int) 1 := ⟨wm_X4_82, wi_X0_addSitter, wv_X0_addSitter, wn_X0, wc_X0_addSitter, hd_X0_addSitter⟩
theorem cv_X4_86 : CV RX4 86 yX0_give cX0_give 5 none 3 := ⟨wm_X4_86, wi_X0_give, wv_X0_give, wn_X0, wc_X0_give, hd_X0_give⟩
theorem cv_X4_90 : CV RX4 90 yX0_who cX0_who 2 (some (.object "BoothFlash$Sitter")) 1 := ⟨wm_X4_90, wi_X0_who, wv_X0_who, wn_X0, wc_X0_who, hd_X0_who⟩
theorem cv_X4_98 : CV RX4 98 yX2_off cX2_off 2 (some .int) 1 := ⟨wm_X4_98, wi_X2_off, wv_X2_off, wn_X2, wc_X2_off, hd_X2_off⟩
theorem cv_X4_101 : CV RX4 101 yX2_mayBeOff cX2_mayBeOff 1 (some .int) 0 := ⟨wm_X4_101, wi_X2_mayBeOff, wv_X2_mayBeOff, wn_X2, wc_X2_mayBeOff, hd_X2_mayBeOff⟩
theorem cv_X4_105 : CV RX4 105 yX2_part cX2_part 2 (some .int) 1 := ⟨wm_X4_105, wi_X2_part, wv_X2_part, wn_X2, wc_X2_part, hd_X2_part⟩
theorem cv_X4_106 : CV RX4 106 yX2_putPart cX2_putPart 3 none 2 := ⟨wm_X4_106, wi_X2_putPart, wv_X2_putPart, wn_X2, wc_X2_putPart, hd_X2_putPart⟩
theorem cv_X4_107 : CV RX4 107 yX0_faultsOf cX0_faultsOf 4 (some .int) 2 := ⟨wm_X4_107, wi_X0_faultsOf, wv_X0_faultsOf, wn_X0, wc_X0_faultsOf, hd_X0_faultsOf⟩
theorem cv_X4_111 : CS RX4 111 yJ6_bitCount_0f7a4 cJ6_bitCount_0f7a4 1 (some .int) 1 := ⟨wm_X4_111, wt_J6_bitCount_0f7a4, wn_J6, wc_J6_bitCount_0f7a4, hd_J6_bitCount_0f7a4⟩
theorem cv_X4_121 : CV RX4 121 yX0_passMinutes cX0_passMinutes 3 none 1 := ⟨wm_X4_121, wi_X0_passMinutes, wv_X0_passMinutes, wn_X0, wc_X0_passMinutes, hd_X0_passMinutes⟩
theorem cv_X4_125 : CV RX4 125 yX0_sumOf cX0_sumOf 4 (some .int) 1 := ⟨wm_X4_125, wi_X0_sumOf, wv_X0_sumOf, wn_X0, wc_X0_sumOf, hd_X0_sumOf⟩
theorem cv_X4_128 : CV RX4 128 yX0_nextPlace cX0_nextPlace 1 (some .int) 0 := ⟨wm_X4_128, wi_X0_nextPlace, wv_X0_nextPlace, wn_X0, wc_X0_nextPlace, hd_X0_nextPlace⟩
theorem cv_X4_131 : CV RX4 131 yX0_sittersWithClearFlash cX0_sittersWithClearFlash 4 (some .int) 0 := ⟨wm_X4_131, wi_X0_sittersWithClearFlash, wv_X0_sittersWithClearFlash, wn_X0, wc_X0_sittersWithClearFlash, hd_X0_sittersWithClearFlash⟩
theorem cv_X4_134 : CV RX4 134 yX0_commonFaults cX0_commonFaults 5 (some .int) 0 := ⟨wm_X4_134, wi_X0_commonFaults, wv_X0_commonFaults, wn_X0, wc_X0_commonFaults, hd_X0_commonFaults⟩
theorem cv_X4_137 : CV RX4 137 yX0_isSitter cX0_isSitter 2 (some .boolean) 1 := ⟨wm_X4_137, wi_X0_isSitter, wv_X0_isSitter, wn_X0, wc_X0_isSitter, hd_X0_isSitter⟩
theorem cv_X4_140 : CV RX4 140 yX0_become cX0_become 3 none 1 := ⟨wm_X4_140, wi_X0_become, wv_X0_become, wn_X0, wc_X0_become, hd_X0_become⟩
theorem cv_X4_144 : CV RX4 144 yX0_partOf cX0_partOf 4 (some .int) 2 := ⟨wm_X4_144, wi_X0_partOf, wv_X0_partOf, wn_X0, wc_X0_partOf, hd_X0_partOf⟩
theorem cv_X4_148 : CV RX4 148 yX0_passMinute cX0_passMinute 2 none 0 := ⟨wm_X4_148, wi_X0_passMinute, wv_X0_passMinute, wn_X0, wc_X0_passMinute, hd_X0_passMinute⟩
theorem cv_X4_158 : CV RX4 158 yX0_isEachTaken cX0_isEachTaken 2 (some .boolean) 0 := ⟨wm_X4_158, wi_X0_isEachTaken, wv_X0_isEachTaken, wn_X0, wc_X0_isEachTaken, hd_X0_isEachTaken⟩
theorem cv_X4_162 : CV RX4 162 yX0_faultsTogether cX0_faultsTogether 5 (some .int) 1 := ⟨wm_X4_162, wi_X0_faultsTogether, wv_X0_faultsTogether, wn_X0, wc_X0_faultsTogether, hd_X0_faultsTogether⟩
theorem cv_X4_171 : CV RX4 171 yX0_sitterSet cX0_sitterSet 1 (some .int) 0 := ⟨wm_X4_171, wi_X0_sitterSet, wv_X0_sitterSet, wn_X0, wc_X0_sitterSet, hd_X0_sitterSet⟩
theorem cv_X4_174 : CV RX4 174 yX0_emptyPlacesOf cX0_emptyPlacesOf 3 none 1 := ⟨wm_X4_174, wi_X0_emptyPlacesOf, wv_X0_emptyPlacesOf, wn_X0, wc_X0_emptyPlacesOf, hd_X0_emptyPlacesOf⟩
theorem cv_X4_177 : CV RX4 177 yX4_sheetAt cX4_sheetAt 2 (some (.object "BoothFlash$Sheet")) 1 := ⟨wm_X4_177, wi_X4_sheetAt, wv_X4_sheetAt, wn_X4, wc_X4_sheetAt, hd_X4_sheetAt⟩
theorem cv_X4_181 : CV RX4 181 yX1_isMissing cX1_isMissing 1 (some .boolean) 0 := ⟨wm_X4_181, wi_X1_isMissing, wv_X1_isMissing, wn_X1, wc_X1_isMissing, hd_X1_isMissing⟩
theorem cv_X4_184 : CS RX4 184 yX4_refusalFor cX4_refusalFor 1 (some .int) 1 := ⟨wm_X4_184, wt_X4_refusalFor, wn_X4, wc_X4_refusalFor, hd_X4_refusalFor⟩
theorem cv_X4_188 : CV RX4 188 yX4_isTallAsTold cX4_isTallAsTold 6 (some .boolean) 3 := ⟨wm_X4_188, wi_X4_isTallAsTold, wv_X4_isTallAsTold, wn_X4, wc_X4_isTallAsTold, hd_X4_isTallAsTold⟩
theorem cv_X4_192 : CV RX4 192 yX4_isKindAsTold cX4_isKindAsTold 5 (some .boolean) 3 := ⟨wm_X4_192, wi_X4_isKindAsTold, wv_X4_isKindAsTold, wn_X4, wc_X4_isKindAsTold, hd_X4_isKindAsTold⟩
theorem cv_X4_195 : CV RX4 195 yX0_draw cX0_draw 1 (some .int) 0 := ⟨wm_X4_195, wi_X0_draw, wv_X0_draw, wn_X0, wc_X0_draw, hd_X0_draw⟩
theorem cv_X4_198 : CV RX4 198 yX4_lightsWithoutFaults cX4_lightsWithoutFaults 6 (some .int) 2 := ⟨wm_X4_198, wi_X4_lightsWithoutFaults, wv_X4_lightsWithoutFaults, wn_X4, wc_X4_lightsWithoutFaults, hd_X4_lightsWithoutFaults⟩
theorem cv_X4_201 : CS RX4 201 yX4_power cX4_power 5 (some .long) 2 := ⟨wm_X4_201, wt_X4_power, wn_X4, wc_X4_power, hd_X4_power⟩
theorem cv_X4_208 : CV RX4 208 yX3_hasRoomFor cX3_hasRoomFor 2 (some .boolean) 1 := ⟨wm_X4_208, wi_X3_hasRoomFor, wv_X3_hasRoomFor, wn_X3, wc_X3_hasRoomFor, hd_X3_hasRoomFor⟩
theorem cv_X4_211 : CV RX4 211 yX3_append cX3_append 2 none 1 := ⟨wm_X4_211, wi_X3_append, wv_X3_append, wn_X3, wc_X3_append, hd_X3_append⟩
theorem cv_X4_217 : CV RX4 217 yX3_readInto cX3_readInto 3 (some .int) 1 := ⟨wm_X4_217, wi_X3_readInto, wv_X3_readInto, wn_X3, wc_X3_readInto, hd_X3_readInto⟩
theorem cv_X4_228 : CS RX4 228 yX2_isOfOrUnder cX2_isOfOrUnder 4 (some .boolean) 2 := ⟨wm_X4_228, wt_X2_isOfOrUnder, wn_X2, wc_X2_isOfOrUnder, hd_X2_isOfOrUnder⟩
theorem cv_X4_232 : CS RX4 232 yX1_isWidth cX1_isWidth 1 (some .boolean) 1 := ⟨wm_X4_232, wt_X1_isWidth, wn_X1, wc_X1_isWidth, hd_X1_isWidth⟩
theorem cv_X4_236 : CV RX4 236 yX1_begin cX1_begin 4 none 2 := ⟨wm_X4_236, wi_X1_begin, wv_X1_begin, wn_X1, wc_X1_begin, hd_X1_begin⟩
theorem cv_X4_240 : CV RX4 240 yX1_putNumber cX1_putNumber 3 (some .boolean) 2 := ⟨wm_X4_240, wi_X1_putNumber, wv_X1_putNumber, wn_X1, wc_X1_putNumber, hd_X1_putNumber⟩
theorem cv_X4_246 : CV RX4 246 yX1_hasRange cX1_hasRange 3 (some .boolean) 2 := ⟨wm_X4_246, wi_X1_hasRange, wv_X1_hasRange, wn_X1, wc_X1_hasRange, hd_X1_hasRange⟩
theorem cv_X4_258 : CV RX4 258 yX1_number cX1_number 2 (some .int) 1 := ⟨wm_X4_258, wi_X1_number, wv_X1_number, wn_X1, wc_X1_number, hd_X1_number⟩
theorem cv_X4_264 : CV RX4 264 yX0_spotsInUse cX0_spotsInUse 3 (some .int) 0 := ⟨wm_X4_264, wi_X0_spotsInUse, wv_X0_spotsInUse, wn_X0, wc_X0_spotsInUse, hd_X0_spotsInUse⟩
theorem cv_X4_270 : CV RX4 270 yX1_allows cX1_allows 4 (some .boolean) 2 := ⟨wm_X4_270, wi_X1_allows, wv_X1_allows, wn_X1, wc_X1_allows, hd_X1_allows⟩
theorem cv_X5_61 : CS RX5 61 yX5_copyRow cX5_copyRow 3 none 2 := ⟨wm_X5_61, wt_X5_copyRow, wn_X5, wc_X5_copyRow, hd_X5_copyRow⟩
theorem cv_X5_66 : CV RX5 66 yX5_finding cX5_finding 2 (some .int) 1 := ⟨wm_X5_66, wi_X5_finding, wv_X5_finding, wn_X5, wc_X5_finding, hd_X5_finding⟩
theorem cv_X5_70 : CS RX5 70 yX5_within cX5_within 3 (some .boolean) 3 := ⟨wm_X5_70, wt_X5_within, wn_X5, wc_X5_within, hd_X5_within⟩
theorem cv_X5_75 : CS RX5 75 yX5_isSet cX5_isSet 2 (some .boolean) 2 := ⟨wm_X5_75, wt_X5_isSet, wn_X5, wc_X5_isSet, hd_X5_isSet⟩
theorem cv_X5_79 : CV RX5 79 yX5_become cX5_become 4 (some .int) 2 := ⟨wm_X5_79, wi_X5_become, wv_X5_become, wn_X5, wc_X5_become, hd_X5_become⟩
theorem cv_X5_83 : CV RX5 83 yX5_isSitter cX5_isSitter 2 (some .boolean) 1 := ⟨wm_X5_83, wi_X5_isSitter, wv_X5_isSitter, wn_X5, wc_X5_isSitter, hd_X5_isSitter⟩
theorem cv_X5_87 : CS RX5 87 yX5_isPlace cX5_isPlace 1 (some .boolean) 1 := ⟨wm_X5_87, wt_X5_isPlace, wn_X5, wc_X5_isPlace, hd_X5_isPlace⟩
theorem cv_X5_90 : CV RX5 90 yX5_isInQueue cX5_isInQueue 2 (some .boolean) 1 := ⟨wm_X5_90, wi_X5_isInQueue, wv_X5_isInQueue, wn_X5, wc_X5_isInQueue, hd_X5_isInQueue⟩
theorem cv_X5_93 : CS RX5 93 yX5_sitterAt cX5_sitterAt 2 (some .int) 2 := ⟨wm_X5_93, wt_X5_sitterAt, wn_X5, wc_X5_sitterAt, hd_X5_sitterAt⟩
theorem cv_X5_96 : CS RX5 96 yX5_isKind cX5_isKind 1 (some .boolean) 1 := ⟨wm_X5_96, wt_X5_isKind, wn_X5, wc_X5_isKind, hd_X5_isKind⟩
theorem cv_X5_100 : CV RX5 100 yX5_comes cX5_comes 7 (some .int) 5 := ⟨wm_X5_100, wi_X5_comes, wv_X5_comes, wn_X5, wc_X5_comes, hd_X5_comes⟩
theorem cv_X5_104 : CV RX5 104 yX5_sitterIs cX5_sitterIs 3 (some .int) 2 := ⟨wm_X5_104, wi_X5_sitterIs, wv_X5_sitterIs, wn_X5, wc_X5_sitterIs, hd_X5_sitterIs⟩
theorem cv_X5_112 : CV RX5 112 yX5_off cX5_off 2 (some .int) 1 := ⟨wm_X5_112, wi_X5_off, wv_X5_off, wn_X5, wc_X5_off, hd_X5_off⟩
theorem cv_X5_115 : CV RX5 115 yX5_may cX5_may 2 (some .int) 1 := ⟨wm_X5_115, wi_X5_may, wv_X5_may, wn_X5, wc_X5_may, hd_X5_may⟩
theorem cv_X5_118 : CV RX5 118 yX5_isShut cX5_isShut 5 (some .boolean) 2 := ⟨wm_X5_118, wi_X5_isShut, wv_X5_isShut, wn_X5, wc_X5_isShut, hd_X5_isShut⟩
theorem cv_X5_121 : CV RX5 121 yX5_isSmiling cX5_isSmiling 5 (some .boolean) 2 := ⟨wm_X5_121, wi_X5_isSmiling, wv_X5_isSmiling, wn_X5, wc_X5_isSmiling, hd_X5_isSmiling⟩
theorem cv_X5_124 : CV RX5 124 yX5_isShining cX5_isShining 3 (some .boolean) 1 := ⟨wm_X5_124, wi_X5_isShining, wv_X5_isShining, wn_X5, wc_X5_isShining, hd_X5_isShining⟩
theorem cv_X5_127 : CS RX5 127 yX5_isField cX5_isField 2 (some .boolean) 2 := ⟨wm_X5_127, wt_X5_isField, wn_X5, wc_X5_isField, hd_X5_isField⟩
theorem cv_X5_130 : CS RX5 130 yX5_isFlash cX5_isFlash 1 (some .boolean) 1 := ⟨wm_X5_130, wt_X5_isFlash, wn_X5, wc_X5_isFlash, hd_X5_isFlash⟩
theorem cv_X5_133 : CV RX5 133 yX5_faultsNow cX5_faultsNow 4 (some .int) 2 := ⟨wm_X5_133, wi_X5_faultsNow, wv_X5_faultsNow, wn_X5, wc_X5_faultsNow, hd_X5_faultsNow⟩
theorem cv_X5_136 : CS RX5 136 yX5_bits cX5_bits 3 (some .int) 1 := ⟨wm_X5_136, wt_X5_bits, wn_X5, wc_X5_bits, hd_X5_bits⟩
theorem cv_X5_145 : CV RX5 145 yX5_turnsStool cX5_turnsStool 4 none 1 := ⟨wm_X5_145, wi_X5_turnsStool, wv_X5_turnsStool, wn_X5, wc_X5_turnsStool, hd_X5_turnsStool⟩
theorem cv_X5_149 : CV RX5 149 yX5_isGood cX5_isGood 4 (some .boolean) 1 := ⟨wm_X5_149, wi_X5_isGood, wv_X5_isGood, wn_X5, wc_X5_isGood, hd_X5_isGood⟩
theorem cv_X5_152 : CV RX5 152 yX5_next cX5_next 1 (some .int) 0 := ⟨wm_X5_152, wi_X5_next, wv_X5_next, wn_X5, wc_X5_next, hd_X5_next⟩
theorem cv_X5_156 : CV RX5 156 yX5_sits cX5_sits 2 none 1 := ⟨wm_X5_156, wi_X5_sits, wv_X5_sits, wn_X5, wc_X5_sits, hd_X5_sits⟩
theorem cv_X5_159 : CV RX5 159 yX5_minute cX5_minute 3 none 0 := ⟨wm_X5_159, wi_X5_minute, wv_X5_minute, wn_X5, wc_X5_minute, hd_X5_minute⟩
theorem cv_X5_163 : CV RX5 163 yX5_minutes cX5_minutes 3 none 1 := ⟨wm_X5_163, wi_X5_minutes, wv_X5_minutes, wn_X5, wc_X5_minutes, hd_X5_minutes⟩
theorem cv_X5_166 : CV RX5 166 yX5_sumOf cX5_sumOf 4 (some .int) 1 := ⟨wm_X5_166, wi_X5_sumOf, wv_X5_sumOf, wn_X5, wc_X5_sumOf, hd_X5_sumOf⟩
theorem cv_X5_169 : CV RX5 169 yX5_goodOnes cX5_goodOnes 3 (some .int) 0 := ⟨wm_X5_169, wi_X5_goodOnes, wv_X5_goodOnes, wn_X5, wc_X5_goodOnes, hd_X5_goodOnes⟩
theorem cv_X5_172 : CV RX5 172 yX5_commonFaults cX5_commonFaults 4 (some .int) 0 := ⟨wm_X5_172, wi_X5_commonFaults, wv_X5_commonFaults, wn_X5, wc_X5_commonFaults, hd_X5_commonFaults⟩
theorem cv_X5_175 : CV RX5 175 yX5_putBack cX5_putBack 2 (some .int) 1 := ⟨wm_X5_175, wi_X5_putBack, wv_X5_putBack, wn_X5, wc_X5_putBack, hd_X5_putBack⟩
theorem cv_X5_178 : CV RX5 178 yX5_behind cX5_behind 3 (some .int) 2 := ⟨wm_X5_178, wi_X5_behind, wv_X5_behind, wn_X5, wc_X5_behind, hd_X5_behind⟩
theorem cv_X5_181 : CV RX5 181 yX5_orNone cX5_orNone 2 (some .int) 1 := ⟨wm_X5_181, wi_X5_orNone, wv_X5_orNone, wn_X5, wc_X5_orNone, hd_X5_orNone⟩
theorem cv_X5_184 : CV RX5 184 yX5_areAllTaken cX5_areAllTaken 3 (some .boolean) 0 := ⟨wm_X5_184, wi_X5_areAllTaken, wv_X5_areAllTaken, wn_X5, wc_X5_areAllTaken, hd_X5_areAllTaken⟩
theorem cv_X5_188 : CV RX5 188 yX5_faultsTogether cX5_faultsTogether 4 (some .int) 1 := ⟨wm_X5_188, wi_X5_faultsTogether, wv_X5_faultsTogether, wn_X5, wc_X5_faultsTogether, hd_X5_faultsTogether⟩
theorem cv_X5_191 : CS RX5 191 yX5_isThought cX5_isThought 1 (some .boolean) 1 := ⟨wm_X5_191, wt_X5_isThought, wn_X5, wc_X5_isThought, hd_X5_isThought⟩
theorem cv_X5_194 : CV RX5 194 yX5_isTakenWith cX5_isTakenWith 7 (some .boolean) 4 := ⟨wm_X5_194, wi_X5_isTakenWith, wv_X5_isTakenWith, wn_X5, wc_X5_isTakenWith, hd_X5_isTakenWith⟩
theorem cv_X5_198 : CV RX5 198 yX5_takenWith cX5_takenWith 7 (some .int) 4 := ⟨wm_X5_198, wi_X5_takenWith, wv_X5_takenWith, wn_X5, wc_X5_takenWith, hd_X5_takenWith⟩
theorem cv_X5_202 : CS RX5 202 yX5_hasBit cX5_hasBit 2 (some .boolean) 2 := ⟨wm_X5_202, wt_X5_hasBit, wn_X5, wc_X5_hasBit, hd_X5_hasBit⟩
theorem cv_X5_205 : CV RX5 205 yX5_takenWithout cX5_takenWithout 6 (some .int) 3 := ⟨wm_X5_205, wi_X5_takenWithout, wv_X5_takenWithout, wn_X5, wc_X5_takenWithout, hd_X5_takenWithout⟩
theorem cv_X5_209 : CS RX5 209 yX5_isSheet cX5_isSheet 1 (some .boolean) 1 := ⟨wm_X5_209, wt_X5_isSheet, wn_X5, wc_X5_isSheet, hd_X5_isSheet⟩
theorem cv_X5_220 : CV RX5 220 yX5_areFaultsSo cX5_areFaultsSo 6 (some .boolean) 2 := ⟨wm_X5_220, wi_X5_areFaultsSo, wv_X5_areFaultsSo, wn_X5, wc_X5_areFaultsSo, hd_X5_areFaultsSo⟩
theorem cv_X5_223 : CV RX5 223 yX5_lacks cX5_lacks 3 (some .int) 2 := ⟨wm_X5_223, wi_X5_lacks, wv_X5_lacks, wn_X5, wc_X5_lacks, hd_X5_lacks⟩
theorem cv_X5_227 : CV RX5 227 yX5_fitTall cX5_fitTall 7 none 2 := ⟨wm_X5_227, wi_X5_fitTall, wv_X5_fitTall, wn_X5, wc_X5_fitTall, hd_X5_fitTall⟩
theorem cv_X5_231 : CV RX5 231 yX5_wasTakenSo cX5_wasTakenSo 6 (some .boolean) 2 := ⟨wm_X5_231, wi_X5_wasTakenSo, wv_X5_wasTakenSo, wn_X5, wc_X5_wasTakenSo, hd_X5_wasTakenSo⟩
theorem cv_X5_235 : CV RX5 235 yX5_drawn cX5_drawn 1 (some .int) 0 := ⟨wm_X5_235, wi_X5_drawn, wv_X5_drawn, wn_X5, wc_X5_drawn, hd_X5_drawn⟩
theorem cv_X5_247 : CV RX5 247 yX5_byteAt cX5_byteAt 2 (some .int) 1 := ⟨wm_X5_247, wi_X5_byteAt, wv_X5_byteAt, wn_X5, wc_X5_byteAt, hd_X5_byteAt⟩
theorem cv_X5_256 : CV RX5 256 yJ0_length_8abf5 cJ0_length_8abf5 1 (some .int) 0 := ⟨wm_X5_256, wi_J0_length_8abf5, wv_J0_length_8abf5, wn_J0, wc_J0_length_8abf5, hd_J0_length_8abf5⟩
theorem cv_X5_259 : CV RX5 259 yJ0_charAt_5068e cJ0_charAt_5068e 2 (some .char) 1 := ⟨wm_X5_259, wi_J0_charAt_5068e, wv_J0_charAt_5068e, wn_J0, wc_J0_charAt_5068e, hd_J0_charAt_5068e⟩
theorem cv_X5_267 : CV RX5 267 yX5_token cX5_token 2 none 0 := ⟨wm_X5_267, wi_X5_token, wv_X5_token, wn_X5, wc_X5_token, hd_X5_token⟩
theorem cv_X5_270 : CV RX5 270 yX5_must cX5_must 2 none 1 := ⟨wm_X5_270, wi_X5_must, wv_X5_must, wn_X5, wc_X5_must, hd_X5_must⟩
theorem cv_X5_277 : CV RX5 277 yX5_isWord cX5_isWord 4 (some .boolean) 1 := ⟨wm_X5_277, wi_X5_isWord, wv_X5_isWord, wn_X5, wc_X5_isWord, hd_X5_isWord⟩
theorem cv_X5_281 : CV RX5 281 yX5_number cX5_number 4 (some .int) 2 := ⟨wm_X5_281, wi_X5_number, wv_X5_number, wn_X5, wc_X5_number, hd_X5_number⟩
theorem cv_X5_289 : CV RX5 289 yX5_perhaps cX5_perhaps 4 (some .int) 3 := ⟨wm_X5_289, wi_X5_perhaps, wv_X5_perhaps, wn_X5, wc_X5_perhaps, hd_X5_perhaps⟩
theorem cv_X5_293 : CV RX5 293 yX5_addItem cX5_addItem 4 none 2 := ⟨wm_X5_293, wi_X5_addItem, wv_X5_addItem, wn_X5, wc_X5_addItem, hd_X5_addItem⟩
theorem cv_X5_302 : CV RX5 302 yX5_kindTold cX5_kindTold 3 (some .int) 0 := ⟨wm_X5_302, wi_X5_kindTold, wv_X5_kindTold, wn_X5, wc_X5_kindTold, hd_X5_kindTold⟩
theorem cv_X5_305 : CV RX5 305 yX5_readSitter cX5_readSitter 3 none 1 := ⟨wm_X5_305, wi_X5_readSitter, wv_X5_readSitter, wn_X5, wc_X5_readSitter, hd_X5_readSitter⟩
theorem cv_X5_310 : CV RX5 310 yX5_readQueue cX5_readQueue 4 none 0 := ⟨wm_X5_310, wi_X5_readQueue, wv_X5_readQueue, wn_X5, wc_X5_readQueue, hd_X5_readQueue⟩
theorem cv_X5_315 : CV RX5 315 yX5_readNumber cX5_readNumber 3 none 2 := ⟨wm_X5_315, wi_X5_readNumber, wv_X5_readNumber, wn_X5, wc_X5_readNumber, hd_X5_readNumber⟩
theorem cv_X5_322 : CV RX5 322 yX5_readItem cX5_readItem 2 none 0 := ⟨wm_X5_322, wi_X5_readItem, wv_X5_readItem, wn_X5, wc_X5_readItem, hd_X5_readItem⟩
theorem cv_X5_325 : CV RX5 325 yX5_isToldSo cX5_isToldSo 4 none 1 := ⟨wm_X5_325, wi_X5_isToldSo, wv_X5_isToldSo, wn_X5, wc_X5_isToldSo, hd_X5_isToldSo⟩
theorem cv_X5_328 : CS RX5 328 yX5_isSpot cX5_isSpot 1 (some .boolean) 1 := ⟨wm_X5_328, wt_X5_isSpot, wn_X5, wc_X5_isSpot, hd_X5_isSpot⟩
theorem cv_X5_331 : CS RX5 331 yX5_isUnder cX5_isUnder 3 (some .boolean) 2 := ⟨wm_X5_331, wt_X5_isUnder, wn_X5, wc_X5_isUnder, hd_X5_isUnder⟩
theorem cv_X5_336 : CS RX5 336 yX5_cutTo cX5_cutTo 2 (some .int) 2 := ⟨wm_X5_336, wt_X5_cutTo, wn_X5, wc_X5_cutTo, hd_X5_cutTo⟩
theorem cv_X5_339 : CS RX5 339 yX5_above cX5_above 1 (some .int) 1 := ⟨wm_X5_339, wt_X5_above, wn_X5, wc_X5_above, hd_X5_above⟩
section AUX
variable {x : XT} {y : YT} {A : Nat → Prop} {own : String} {cc : ByteArray} {nL : Nat} {R : Room} {Z : State → Prop} {pc : Nat} {lv lv' : List (Nat × Value)} {st : List Value} {σ : Sto}
theorem g_letI {β : Type} {e : Int32} {f : Int32 → β} {X : β} (h : lti e f = X) (k : ∀ v : Int32, f v = X → GW x y A nL Z pc lv (.int v :: st) σ) : GW x y A nL Z pc lv (.int e :: st) σ := k e h
theorem g_letL {β : Type} {e : Int64} {f : Int64 → β} {X : β} (h : ltl e f = X) (k : ∀ v : Int64, f v = X → GW x y A nL Z pc lv (.long v :: st) σ) : GW x y A nL Z pc lv (.long e :: st) σ := k e h
theorem g_letS {β : Type} {e : Sto} {f : Sto → β} {X : β} (h : lts e f = X) (k : ∀ s : Sto, f s = X → GW x y A nL Z pc lv st s) : GW x y A nL Z pc lv st e := k e h
theorem rtI {r v : Int32} {σ' : Sto} (hr : RetI x y A nL cc Z r σ') (hd : decode cc pc = .ok (.ireturn, 1)) (h : some (v, σ) = some (r, σ')) : GW x y A nL Z pc lv [.int v] σ := by cases h; exact hr pc lv hd
theorem rtZ {r v : Int32} {σ' : Sto} (hr : RetZ x y A nL cc Z r σ') (hd : decode cc pc = .ok (.ireturn, 1)) (h01 : v = 0 ∨ v = 1) (h : some (v, σ) = some (r, σ')) : GW x y A nL Z pc lv [.int v] σ := by cases h; exact hr pc lv hd h01
theorem rtL {r v : Int64} {σ' : Sto} (hr : RetL x y A nL cc Z r σ') (hd : decode cc pc = .ok (.lreturn, 1)) (h : some (v, σ) = some (r, σ')) : GW x y A nL Z pc lv [.long v] σ := by cases h; exact hr pc lv hd
theorem rtV {r : Unit} {σ' : Sto} (hr : RetV x y A nL cc Z r σ') (hd : decode cc pc = .ok (.return_, 1)) (h : some ((), σ) = some (r, σ')) : GW x y A nL Z pc lv [] σ := by cases h; exact hr pc lv hd
theorem rtQ {r v : Option Nat} {σ' : Sto} (hr : RetQ x y A nL cc Z r σ') (hd : decode cc pc = .ok (.areturn, 1)) (h : some (v, σ) = some (r, σ')) : GW x y A nL Z pc lv [nv y v] σ := by cases h; exact hr pc lv hd
theorem rtR {r v : Nat} {σ' : Sto} (hr : RetR x y A nL cc Z r σ') (hd : decode cc pc = .ok (.areturn, 1)) (h : some (v, σ) = some (r, σ')) : GW x y A nL Z pc lv [.ref (yad y v)] σ := by cases h; exact hr pc lv hd
theorem g_cpy {k0 k1 i l0 l1 : Nat} {sp dp n : Int32} (C : Cx x y A own cc nL R) (hd : decode cc pc = .ok (.invokestatic i, 3)) (hw : Cond.methodLink own i arraycopyName ∈ TT) (hw1 : Cond.native arraycopyName ∈ TT) (hw2 : Cond.static arraycopyName ∈ TT) (hw3 : Cond.initialized "java/lang/System" ∈ TT) (hk : kd k0 = 6) (hk1 : kd k1 = 6) (hc : cpok sp dp n l0 l1 = true) (e0 : ln k0 = l0) (e1 : ln k1 = l1) (hf : 1 ≤ R.frames) (hlo : (st.map fun v => v.category).sum + (nativeFrameWords "java/lang/System" "arraycopy" 5 + 11) ≤ R.locals)
    (kk : GW x y A nL Z (pc + 3) lv st (up1 σ k1 (va_cpy (σ k0) (σ k1) sp.toNatClampNeg dp.toNatClampNeg n.toNatClampNeg))) : GW x y A nL Z pc lv (.int n :: .int dp :: .ref (yad y k1) :: .int sp :: .ref (yad y k0) :: st) σ := by
  subst e0; subst e1
  unfold cpok at hc
  simp only [Bool.and_eq_true, decide_eq_true_eq] at hc
  obtain ⟨⟨⟨⟨h1, h2⟩, h3⟩, h4⟩, h5⟩ := hc
  exact g_copyi C hd hw hw1 hw2 hw3 hk hk1 (Int32.not_lt.mpr h1) (Int32.not_lt.mpr h2) (Int32.not_lt.mpr h3) h4 h5 hf hlo kk
theorem inT0 : ∀ w ∈ u_ws RX0 TX0 10, w ∈ TT := by
  have h : (u_ws RX0 TX0 10).all (fun w => decide (w ∈ tables_1) && goodWord w) = true := by decide +kernel
  intro w hw
  have h1 := List.all_eq_true.mp h w hw
  rw [Bool.and_eq_true, decide_eq_true_eq] at h1
  exact tt_in h1.1 h1.2
theorem inT1 : ∀ w ∈ u_ws RX1 TX1 3, w ∈ TT := by
  have h : (u_ws RX1 TX1 3).all (fun w => decide (w ∈ tables_1) && goodWord w) = true := by decide +kernel
  intro w hw
  have h1 := List.all_eq_true.mp h w hw
  rw [Bool.and_eq_true, decide_eq_true_eq] at h1
  exact tt_in h1.1 h1.2
theorem inT2 : ∀ w ∈ u_ws RX2 TX2 7, w ∈ TT := by
  have h : (u_ws RX2 TX2 7).all (fun w => decide (w ∈ tables_1) && goodWord w) = true := by decide +kernel
  intro w hw
  have h1 := List.all_eq_true.mp h w hw
  rw [Bool.and_eq_true, decide_eq_true_eq] at h1
  exact tt_in h1.1 h1.2
theorem inT3 : ∀ w ∈ u_ws RX3 TX3 6, w ∈ TT := by
  have h : (u_ws RX3 TX3 6).all (fun w => decide (w ∈ tables_1) && goodWord w) = true := by decide +kernel
  intro w hw
  have h1 := List.all_eq_true.mp h w hw
  rw [Bool.and_eq_true, decide_eq_true_eq] at h1
  exact tt_in h1.1 h1.2
theorem inT4 : ∀ w ∈ u_ws RX4 TX4 7, w ∈ TT := by
  have h : (u_ws RX4 TX4 7).all (fun w => decide (w ∈ tables_1) && goodWord w) = true := by decide +kernel
  intro w hw
  have h1 := List.all_eq_true.mp h w hw
  rw [Bool.and_eq_true, decide_eq_true_eq] at h1
  exact tt_in h1.1 h1.2
theorem inT5 : ∀ w ∈ u_ws RX5 TX5 22, w ∈ TT := by
  have h : (u_ws RX5 TX5 22).all (fun w => decide (w ∈ tables_1) && goodWord w) = true := by decide +kernel
  intro w hw
  have h1 := List.all_eq_true.mp h w hw
  rw [Bool.and_eq_true, decide_eq_true_eq] at h1
  exact tt_in h1.1 h1.2
theorem gf_0_0 {k idx : Nat} (C : Cx x y A own cc nL R) (hw : Cond.fieldLink own idx "BoothFlash$Booth" "stool" "I" ∈ TT) (hd : decode cc pc = .ok (.getfield idx, 3)) (hk : kd k = 0) (kk : GW x y A nL Z (pc + 3) lv (.int (σ k 0) :: st) σ) : GW x y A nL Z pc lv (.ref (yad y k) :: st) σ := g_get (ci := 0) (j := 0) (cn := RX0) (T := TX0) (N := 10) C hw hd hk rfl (by decide) inT0 (by decide) rfl kk
theorem gp_0_0 {k idx : Nat} {v : Int32} (C : Cx x y A own cc nL R) (hw : Cond.fieldLink own idx "BoothFlash$Booth" "stool" "I" ∈ TT) (hd : decode cc pc = .ok (.putfield idx, 3)) (hk : kd k = 0) (kk : GW x y A nL Z (pc + 3) lv st (up2 σ k 0 v)) : GW x y A nL Z pc lv (.int v :: .ref (yad y k) :: st) σ := g_put (ci := 0) (j := 0) (cn := RX0) (T := TX0) (N := 10) (ty := .int) C tyX0 tyX0_ok nmX0 hw hd hk rfl (by decide) inT0 (by decide) rfl (by decide +kernel) rfl rfl rfl (by simp [flds, up2, up1, upd]) kk
theorem gf_0_1 {k idx : Nat} (C : Cx x y A own cc nL R) (hw : Cond.fieldLink own idx "BoothFlash$Booth" "light" "I" ∈ TT) (hd : decode cc pc = .ok (.getfield idx, 3)) (hk : kd k = 0) (kk : GW x y A nL Z (pc + 3) lv (.int (σ k 1) :: st) σ) : GW x y A nL Z pc lv (.ref (yad y k) :: st) σ := g_get (ci := 0) (j := 1) (cn := RX0) (T := TX0) (N := 10) C hw hd hk rfl (by decide) inT0 (by decide) rfl kk
theorem gp_0_1 {k idx : Nat} {v : Int32} (C : Cx x y A own cc nL R) (hw : Cond.fieldLink own idx "BoothFlash$Booth" "light" "I" ∈ TT) (hd : decode cc pc = .ok (.putfield idx, 3)) (hk : kd k = 0) (kk : GW x y A nL Z (pc + 3) lv st (up2 σ k 1 v)) : GW x y A nL Z pc lv (.int v :: .ref (yad y k) :: st) σ := g_put (ci := 0) (j := 1) (cn := RX0) (T := TX0) (N := 10) (ty := .int) C tyX0 tyX0_ok nmX0 hw hd hk rfl (by decide) inT0 (by decide) rfl (by decide +kernel) rfl rfl rfl (by simp [flds, up2, up1, upd]) kk
theorem gf_0_2 {k idx : Nat} (C : Cx x y A own cc nL R) (hw : Cond.fieldLink own idx "BoothFlash$Booth" "price" "I" ∈ TT) (hd : decode cc pc = .ok (.getfield idx, 3)) (hk : kd k = 0) (kk : GW x y A nL Z (pc + 3) lv (.int (σ k 2) :: st) σ) : GW x y A nL Z pc lv (.ref (yad y k) :: st) σ := g_get (ci := 0) (j := 2) (cn := RX0) (T := TX0) (N := 10) C hw hd hk rfl (by decide) inT0 (by decide) rfl kk
theorem gp_0_2 {k idx : Nat} {v : Int32} (C : Cx x y A own cc nL R) (hw : Cond.fieldLink own idx "BoothFlash$Booth" "price" "I" ∈ TT) (hd : decode cc pc = .ok (.putfield idx, 3)) (hk : kd k = 0) (kk : GW x y A nL Z (pc + 3) lv st (up2 σ k 2 v)) : GW x y A nL Z pc lv (.int v :: .ref (yad y k) :: st) σ := g_put (ci := 0) (j := 2) (cn := RX0) (T := TX0) (N := 10) (ty := .int) C tyX0 tyX0_ok nmX0 hw hd hk rfl (by decide) inT0 (by decide) rfl (by decide +kernel) rfl rfl rfl (by simp [flds, up2, up1, upd]) kk
theorem gf_0_3 {k idx : Nat} (C : Cx x y A own cc nL R) (hw : Cond.fieldLink own idx "BoothFlash$Booth" "till" "I" ∈ TT) (hd : decode cc pc = .ok (.getfield idx, 3)) (hk : kd k = 0) (kk : GW x y A nL Z (pc + 3) lv (.int (σ k 3) :: st) σ) : GW x y A nL Z pc lv (.ref (yad y k) :: st) σ := g_get (ci := 0) (j := 3) (cn := RX0) (T := TX0) (N := 10) C hw hd hk rfl (by decide) inT0 (by decide) rfl kk
theorem gp_0_3 {k idx : Nat} {v : Int32} (C : Cx x y A own cc nL R) (hw : Cond.fieldLink own idx "BoothFlash$Booth" "till" "I" ∈ TT) (hd : decode cc pc = .ok (.putfield idx, 3)) (hk : kd k = 0) (kk : GW x y A nL Z (pc + 3) lv st (up2 σ k 3 v)) : GW x y A nL Z pc lv (.int v :: .ref (yad y k) :: st) σ := g_put (ci := 0) (j := 3) (cn := RX0) (T := TX0) (N := 10) (ty := .int) C tyX0 tyX0_ok nmX0 hw hd hk rfl (by decide) inT0 (by decide) rfl (by decide +kernel) rfl rfl rfl (by simp [flds, up2, up1, upd]) kk
theorem gf_0_4 {k idx : Nat} (C : Cx x y A own cc nL R) (hw : Cond.fieldLink own idx "BoothFlash$Booth" "minute" "I" ∈ TT) (hd : decode cc pc = .ok (.getfield idx, 3)) (hk : kd k = 0) (kk : GW x y A nL Z (pc + 3) lv (.int (σ k 4) :: st) σ) : GW x y A nL Z pc lv (.ref (yad y k) :: st) σ := g_get (ci := 0) (j := 4) (cn := RX0) (T := TX0) (N := 10) C hw hd hk rfl (by decide) inT0 (by decide) rfl kk
theorem gp_0_4 {k idx : Nat} {v : Int32} (C : Cx x y A own cc nL R) (hw : Cond.fieldLink own idx "BoothFlash$Booth" "minute" "I" ∈ TT) (hd : decode cc pc = .ok (.putfield idx, 3)) (hk : kd k = 0) (kk : GW x y A nL Z (pc + 3) lv st (up2 σ k 4 v)) : GW x y A nL Z pc lv (.int v :: .ref (yad y k) :: st) σ := g_put (ci := 0) (j := 4) (cn := RX0) (T := TX0) (N := 10) (ty := .int) C tyX0 tyX0_ok nmX0 hw hd hk rfl (by decide) inT0 (by decide) rfl (by decide +kernel) rfl rfl rfl (by simp [flds, up2, up1, upd]) kk
theorem gf_0_5 {k idx : Nat} (C : Cx x y A own cc nL R) (hw : Cond.fieldLink own idx "BoothFlash$Booth" "z" "I" ∈ TT) (hd : decode cc pc = .ok (.getfield idx, 3)) (hk : kd k = 0) (kk : GW x y A nL Z (pc + 3) lv (.int (σ k 5) :: st) σ) : GW x y A nL Z pc lv (.ref (yad y k) :: st) σ := g_get (ci := 0) (j := 5) (cn := RX0) (T := TX0) (N := 10) C hw hd hk rfl (by decide) inT0 (by decide) rfl kk
theorem gp_0_5 {k idx : Nat} {v : Int32} (C : Cx x y A own cc nL R) (hw : Cond.fieldLink own idx "BoothFlash$Booth" "z" "I" ∈ TT) (hd : decode cc pc = .ok (.putfield idx, 3)) (hk : kd k = 0) (kk : GW x y A nL Z (pc + 3) lv st (up2 σ k 5 v)) : GW x y A nL Z pc lv (.int v :: .ref (yad y k) :: st) σ := g_put (ci := 0) (j := 5) (cn := RX0) (T := TX0) (N := 10) (ty := .int) C tyX0 tyX0_ok nmX0 hw hd hk rfl (by decide) inT0 (by decide) rfl (by decide +kernel) rfl rfl rfl (by simp [flds, up2, up1, upd]) kk
theorem gf_0_6 {k idx : Nat} (C : Cx x y A own cc nL R) (hw : Cond.fieldLink own idx "BoothFlash$Booth" "sitterCount" "I" ∈ TT) (hd : decode cc pc = .ok (.getfield idx, 3)) (hk : kd k = 0) (kk : GW x y A nL Z (pc + 3) lv (.int (σ k 6) :: st) σ) : GW x y A nL Z pc lv (.ref (yad y k) :: st) σ := g_get (ci := 0) (j := 6) (cn := RX0) (T := TX0) (N := 10) C hw hd hk rfl (by decide) inT0 (by decide) rfl kk
theorem gp_0_6 {k idx : Nat} {v : Int32} (C : Cx x y A own cc nL R) (hw : Cond.fieldLink own idx "BoothFlash$Booth" "sitterCount" "I" ∈ TT) (hd : decode cc pc = .ok (.putfield idx, 3)) (hk : kd k = 0) (kk : GW x y A nL Z (pc + 3) lv st (up2 σ k 6 v)) : GW x y A nL Z pc lv (.int v :: .ref (yad y k) :: st) σ := g_put (ci := 0) (j := 6) (cn := RX0) (T := TX0) (N := 10) (ty := .int) C tyX0 tyX0_ok nmX0 hw hd hk rfl (by decide) inT0 (by decide) rfl (by decide +kernel) rfl rfl rfl (by simp [flds, up2, up1, upd]) kk
theorem gf_0_7 {k idx : Nat} (C : Cx x y A own cc nL R) (hw : Cond.fieldLink own idx "BoothFlash$Booth" "sitters" "[LBoothFlash$Sitter;" ∈ TT) (hd : decode cc pc = .ok (.getfield idx, 3)) (hk : kd k = 0) (kk : GW x y A nL Z (pc + 3) lv (.ref (yad y (k + 1)) :: st) σ) : GW x y A nL Z pc lv (.ref (yad y k) :: st) σ := g_get (ci := 0) (j := 7) (cn := RX0) (T := TX0) (N := 10) C hw hd hk rfl (by decide) inT0 (by decide) rfl kk
theorem gf_0_8 {k idx : Nat} (C : Cx x y A own cc nL R) (hw : Cond.fieldLink own idx "BoothFlash$Booth" "places" "[I" ∈ TT) (hd : decode cc pc = .ok (.getfield idx, 3)) (hk : kd k = 0) (kk : GW x y A nL Z (pc + 3) lv (.ref (yad y (k + 10)) :: st) σ) : GW x y A nL Z pc lv (.ref (yad y k) :: st) σ := g_get (ci := 0) (j := 8) (cn := RX0) (T := TX0) (N := 10) C hw hd hk rfl (by decide) inT0 (by decide) rfl kk
theorem gf_0_9 {k idx : Nat} (C : Cx x y A own cc nL R) (hw : Cond.fieldLink own idx "BoothFlash$Booth" "spots" "[I" ∈ TT) (hd : decode cc pc = .ok (.getfield idx, 3)) (hk : kd k = 0) (kk : GW x y A nL Z (pc + 3) lv (.ref (yad y (k + 11)) :: st) σ) : GW x y A nL Z pc lv (.ref (yad y k) :: st) σ := g_get (ci := 0) (j := 9) (cn := RX0) (T := TX0) (N := 10) C hw hd hk rfl (by decide) inT0 (by decide) rfl kk
theorem gf_1_0 {k idx : Nat} (C : Cx x y A own cc nL R) (hw : Cond.fieldLink own idx "BoothFlash$Sheet" "bits" "I" ∈ TT) (hd : decode cc pc = .ok (.getfield idx, 3)) (hk : kd k = 1) (kk : GW x y A nL Z (pc + 3) lv (.int (σ k 0) :: st) σ) : GW x y A nL Z pc lv (.ref (yad y k) :: st) σ := g_get (ci := 1) (j := 0) (cn := RX1) (T := TX1) (N := 3) C hw hd hk rfl (by decide) inT1 (by decide) rfl kk
theorem gp_1_0 {k idx : Nat} {v : Int32} (C : Cx x y A own cc nL R) (hw : Cond.fieldLink own idx "BoothFlash$Sheet" "bits" "I" ∈ TT) (hd : decode cc pc = .ok (.putfield idx, 3)) (hk : kd k = 1) (kk : GW x y A nL Z (pc + 3) lv st (up2 σ k 0 v)) : GW x y A nL Z pc lv (.int v :: .ref (yad y k) :: st) σ := g_put (ci := 1) (j := 0) (cn := RX1) (T := TX1) (N := 3) (ty := .int) C tyX1 tyX1_ok nmX1 hw hd hk rfl (by decide) inT1 (by decide) rfl (by decide +kernel) rfl rfl rfl (by simp [flds, up2, up1, upd]) kk
theorem gf_1_1 {k idx : Nat} (C : Cx x y A own cc nL R) (hw : Cond.fieldLink own idx "BoothFlash$Sheet" "size" "I" ∈ TT) (hd : decode cc pc = .ok (.getfield idx, 3)) (hk : kd k = 1) (kk : GW x y A nL Z (pc + 3) lv (.int (σ k 1) :: st) σ) : GW x y A nL Z pc lv (.ref (yad y k) :: st) σ := g_get (ci := 1) (j := 1) (cn := RX1) (T := TX1) (N := 3) C hw hd hk rfl (by decide) inT1 (by decide) rfl kk
theorem gp_1_1 {k idx : Nat} {v : Int32} (C : Cx x y A own cc nL R) (hw : Cond.fieldLink own idx "BoothFlash$Sheet" "size" "I" ∈ TT) (hd : decode cc pc = .ok (.putfield idx, 3)) (hk : kd k = 1) (kk : GW x y A nL Z (pc + 3) lv st (up2 σ k 1 v)) : GW x y A nL Z pc lv (.int v :: .ref (yad y k) :: st) σ := g_put (ci := 1) (j := 1) (cn := RX1) (T := TX1) (N := 3) (ty := .int) C tyX1 tyX1_ok nmX1 hw hd hk rfl (by decide) inT1 (by decide) rfl (by decide +kernel) rfl rfl rfl (by simp [flds, up2, up1, upd]) kk
theorem gf_1_2 {k idx : Nat} (C : Cx x y A own cc nL R) (hw : Cond.fieldLink own idx "BoothFlash$Sheet" "numbers" "[I" ∈ TT) (hd : decode cc pc = .ok (.getfield idx, 3)) (hk : kd k = 1) (kk : GW x y A nL Z (pc + 3) lv (.ref (yad y (k + 1)) :: st) σ) : GW x y A nL Z pc lv (.ref (yad y k) :: st) σ := g_get (ci := 1) (j := 2) (cn := RX1) (T := TX1) (N := 3) C hw hd hk rfl (by decide) inT1 (by decide) rfl kk
theorem gf_2_0 {k idx : Nat} (C : Cx x y A own cc nL R) (hw : Cond.fieldLink own idx "BoothFlash$Sitter" "kind" "I" ∈ TT) (hd : decode cc pc = .ok (.getfield idx, 3)) (hk : kd k = 2) (kk : GW x y A nL Z (pc + 3) lv (.int (σ k 0) :: st) σ) : GW x y A nL Z pc lv (.ref (yad y k) :: st) σ := g_get (ci := 2) (j := 0) (cn := RX2) (T := TX2) (N := 7) C hw hd hk rfl (by decide) inT2 (by decide) rfl kk
theorem gp_2_0 {k idx : Nat} {v : Int32} (C : Cx x y A own cc nL R) (hw : Cond.fieldLink own idx "BoothFlash$Sitter" "kind" "I" ∈ TT) (hd : decode cc pc = .ok (.putfield idx, 3)) (hk : kd k = 2) (kk : GW x y A nL Z (pc + 3) lv st (up2 σ k 0 v)) : GW x y A nL Z pc lv (.int v :: .ref (yad y k) :: st) σ := g_put (ci := 2) (j := 0) (cn := RX2) (T := TX2) (N := 7) (ty := .int) C tyX2 tyX2_ok nmX2 hw hd hk rfl (by decide) inT2 (by decide) rfl (by decide +kernel) rfl rfl rfl (by simp [flds, up2, up1, upd]) kk
theorem gf_2_1 {k idx : Nat} (C : Cx x y A own cc nL R) (hw : Cond.fieldLink own idx "BoothFlash$Sitter" "tall" "I" ∈ TT) (hd : decode cc pc = .ok (.getfield idx, 3)) (hk : kd k = 2) (kk : GW x y A nL Z (pc + 3) lv (.int (σ k 1) :: st) σ) : GW x y A nL Z pc lv (.ref (yad y k) :: st) σ := g_get (ci := 2) (j := 1) (cn := RX2) (T := TX2) (N := 7) C hw hd hk rfl (by decide) inT2 (by decide) rfl kk
theorem gp_2_1 {k idx : Nat} {v : Int32} (C : Cx x y A own cc nL R) (hw : Cond.fieldLink own idx "BoothFlash$Sitter" "tall" "I" ∈ TT) (hd : decode cc pc = .ok (.putfield idx, 3)) (hk : kd k = 2) (kk : GW x y A nL Z (pc + 3) lv st (up2 σ k 1 v)) : GW x y A nL Z pc lv (.int v :: .ref (yad y k) :: st) σ := g_put (ci := 2) (j := 1) (cn := RX2) (T := TX2) (N := 7) (ty := .int) C tyX2 tyX2_ok nmX2 hw hd hk rfl (by decide) inT2 (by decide) rfl (by decide +kernel) rfl rfl rfl (by simp [flds, up2, up1, upd]) kk
theorem gf_2_2 {k idx : Nat} (C : Cx x y A own cc nL R) (hw : Cond.fieldLink own idx "BoothFlash$Sitter" "still" "I" ∈ TT) (hd : decode cc pc = .ok (.getfield idx, 3)) (hk : kd k = 2) (kk : GW x y A nL Z (pc + 3) lv (.int (σ k 2) :: st) σ) : GW x y A nL Z pc lv (.ref (yad y k) :: st) σ := g_get (ci := 2) (j := 2) (cn := RX2) (T := TX2) (N := 7) C hw hd hk rfl (by decide) inT2 (by decide) rfl kk
theorem gp_2_2 {k idx : Nat} {v : Int32} (C : Cx x y A own cc nL R) (hw : Cond.fieldLink own idx "BoothFlash$Sitter" "still" "I" ∈ TT) (hd : decode cc pc = .ok (.putfield idx, 3)) (hk : kd k = 2) (kk : GW x y A nL Z (pc + 3) lv st (up2 σ k 2 v)) : GW x y A nL Z pc lv (.int v :: .ref (yad y k) :: st) σ := g_put (ci := 2) (j := 2) (cn := RX2) (T := TX2) (N := 7) (ty := .int) C tyX2 tyX2_ok nmX2 hw hd hk rfl (by decide) inT2 (by decide) rfl (by decide +kernel) rfl rfl rfl (by simp [flds, up2, up1, upd]) kk
theorem gf_2_3 {k idx : Nat} (C : Cx x y A own cc nL R) (hw : Cond.fieldLink own idx "BoothFlash$Sitter" "merry" "I" ∈ TT) (hd : decode cc pc = .ok (.getfield idx, 3)) (hk : kd k = 2) (kk : GW x y A nL Z (pc + 3) lv (.int (σ k 3) :: st) σ) : GW x y A nL Z pc lv (.ref (yad y k) :: st) σ := g_get (ci := 2) (j := 3) (cn := RX2) (T := TX2) (N := 7) C hw hd hk rfl (by decide) inT2 (by decide) rfl kk
theorem gp_2_3 {k idx : Nat} {v : Int32} (C : Cx x y A own cc nL R) (hw : Cond.fieldLink own idx "BoothFlash$Sitter" "merry" "I" ∈ TT) (hd : decode cc pc = .ok (.putfield idx, 3)) (hk : kd k = 2) (kk : GW x y A nL Z (pc + 3) lv st (up2 σ k 3 v)) : GW x y A nL Z pc lv (.int v :: .ref (yad y k) :: st) σ := g_put (ci := 2) (j := 3) (cn := RX2) (T := TX2) (N := 7) (ty := .int) C tyX2 tyX2_ok nmX2 hw hd hk rfl (by decide) inT2 (by decide) rfl (by decide +kernel) rfl rfl rfl (by simp [flds, up2, up1, upd]) kk
theorem gf_2_4 {k idx : Nat} (C : Cx x y A own cc nL R) (hw : Cond.fieldLink own idx "BoothFlash$Sitter" "coins" "I" ∈ TT) (hd : decode cc pc = .ok (.getfield idx, 3)) (hk : kd k = 2) (kk : GW x y A nL Z (pc + 3) lv (.int (σ k 4) :: st) σ) : GW x y A nL Z pc lv (.ref (yad y k) :: st) σ := g_get (ci := 2) (j := 4) (cn := RX2) (T := TX2) (N := 7) C hw hd hk rfl (by decide) inT2 (by decide) rfl kk
theorem gp_2_4 {k idx : Nat} {v : Int32} (C : Cx x y A own cc nL R) (hw : Cond.fieldLink own idx "BoothFlash$Sitter" "coins" "I" ∈ TT) (hd : decode cc pc = .ok (.putfield idx, 3)) (hk : kd k = 2) (kk : GW x y A nL Z (pc + 3) lv st (up2 σ k 4 v)) : GW x y A nL Z pc lv (.int v :: .ref (yad y k) :: st) σ := g_put (ci := 2) (j := 4) (cn := RX2) (T := TX2) (N := 7) (ty := .int) C tyX2 tyX2_ok nmX2 hw hd hk rfl (by decide) inT2 (by decide) rfl (by decide +kernel) rfl rfl rfl (by simp [flds, up2, up1, upd]) kk
theorem gf_2_5 {k idx : Nat} (C : Cx x y A own cc nL R) (hw : Cond.fieldLink own idx "BoothFlash$Sitter" "taken" "I" ∈ TT) (hd : decode cc pc = .ok (.getfield idx, 3)) (hk : kd k = 2) (kk : GW x y A nL Z (pc + 3) lv (.int (σ k 5) :: st) σ) : GW x y A nL Z pc lv (.ref (yad y k) :: st) σ := g_get (ci := 2) (j := 5) (cn := RX2) (T := TX2) (N := 7) C hw hd hk rfl (by decide) inT2 (by decide) rfl kk
theorem gp_2_5 {k idx : Nat} {v : Int32} (C : Cx x y A own cc nL R) (hw : Cond.fieldLink own idx "BoothFlash$Sitter" "taken" "I" ∈ TT) (hd : decode cc pc = .ok (.putfield idx, 3)) (hk : kd k = 2) (kk : GW x y A nL Z (pc + 3) lv st (up2 σ k 5 v)) : GW x y A nL Z pc lv (.int v :: .ref (yad y k) :: st) σ := g_put (ci := 2) (j := 5) (cn := RX2) (T := TX2) (N := 7) (ty := .int) C tyX2 tyX2_ok nmX2 hw hd hk rfl (by decide) inT2 (by decide) rfl (by decide +kernel) rfl rfl rfl (by simp [flds, up2, up1, upd]) kk
theorem gf_2_6 {k idx : Nat} (C : Cx x y A own cc nL R) (hw : Cond.fieldLink own idx "BoothFlash$Sitter" "tried" "I" ∈ TT) (hd : decode cc pc = .ok (.getfield idx, 3)) (hk : kd k = 2) (kk : GW x y A nL Z (pc + 3) lv (.int (σ k 6) :: st) σ) : GW x y A nL Z pc lv (.ref (yad y k) :: st) σ := g_get (ci := 2) (j := 6) (cn := RX2) (T := TX2) (N := 7) C hw hd hk rfl (by decide) inT2 (by decide) rfl kk
theorem gp_2_6 {k idx : Nat} {v : Int32} (C : Cx x y A own cc nL R) (hw : Cond.fieldLink own idx "BoothFlash$Sitter" "tried" "I" ∈ TT) (hd : decode cc pc = .ok (.putfield idx, 3)) (hk : kd k = 2) (kk : GW x y A nL Z (pc + 3) lv st (up2 σ k 6 v)) : GW x y A nL Z pc lv (.int v :: .ref (yad y k) :: st) σ := g_put (ci := 2) (j := 6) (cn := RX2) (T := TX2) (N := 7) (ty := .int) C tyX2 tyX2_ok nmX2 hw hd hk rfl (by decide) inT2 (by decide) rfl (by decide +kernel) rfl rfl rfl (by simp [flds, up2, up1, upd]) kk
theorem gf_3_0 {k idx : Nat} (C : Cx x y A own cc nL R) (hw : Cond.fieldLink own idx "BoothFlash$Tape" "bytes" "[I" ∈ TT) (hd : decode cc pc = .ok (.getfield idx, 3)) (hk : kd k = 3) (kk : GW x y A nL Z (pc + 3) lv (.ref (yad y (k + 1)) :: st) σ) : GW x y A nL Z pc lv (.ref (yad y k) :: st) σ := g_get (ci := 3) (j := 0) (cn := RX3) (T := TX3) (N := 6) C hw hd hk rfl (by decide) inT3 (by decide) rfl kk
theorem gf_3_1 {k idx : Nat} (C : Cx x y A own cc nL R) (hw : Cond.fieldLink own idx "BoothFlash$Tape" "size" "I" ∈ TT) (hd : decode cc pc = .ok (.getfield idx, 3)) (hk : kd k = 3) (kk : GW x y A nL Z (pc + 3) lv (.int (σ k 1) :: st) σ) : GW x y A nL Z pc lv (.ref (yad y k) :: st) σ := g_get (ci := 3) (j := 1) (cn := RX3) (T := TX3) (N := 6) C hw hd hk rfl (by decide) inT3 (by decide) rfl kk
theorem gp_3_1 {k idx : Nat} {v : Int32} (C : Cx x y A own cc nL R) (hw : Cond.fieldLink own idx "BoothFlash$Tape" "size" "I" ∈ TT) (hd : decode cc pc = .ok (.putfield idx, 3)) (hk : kd k = 3) (kk : GW x y A nL Z (pc + 3) lv st (up2 σ k 1 v)) : GW x y A nL Z pc lv (.int v :: .ref (yad y k) :: st) σ := g_put (ci := 3) (j := 1) (cn := RX3) (T := TX3) (N := 6) (ty := .int) C tyX3 tyX3_ok nmX3 hw hd hk rfl (by decide) inT3 (by decide) rfl (by decide +kernel) rfl rfl rfl (by simp [flds, up2, up1, upd]) kk
theorem gf_3_2 {k idx : Nat} (C : Cx x y A own cc nL R) (hw : Cond.fieldLink own idx "BoothFlash$Tape" "begin" "I" ∈ TT) (hd : decode cc pc = .ok (.getfield idx, 3)) (hk : kd k = 3) (kk : GW x y A nL Z (pc + 3) lv (.int (σ k 2) :: st) σ) : GW x y A nL Z pc lv (.ref (yad y k) :: st) σ := g_get (ci := 3) (j := 2) (cn := RX3) (T := TX3) (N := 6) C hw hd hk rfl (by decide) inT3 (by decide) rfl kk
theorem gp_3_2 {k idx : Nat} {v : Int32} (C : Cx x y A own cc nL R) (hw : Cond.fieldLink own idx "BoothFlash$Tape" "begin" "I" ∈ TT) (hd : decode cc pc = .ok (.putfield idx, 3)) (hk : kd k = 3) (kk : GW x y A nL Z (pc + 3) lv st (up2 σ k 2 v)) : GW x y A nL Z pc lv (.int v :: .ref (yad y k) :: st) σ := g_put (ci := 3) (j := 2) (cn := RX3) (T := TX3) (N := 6) (ty := .int) C tyX3 tyX3_ok nmX3 hw hd hk rfl (by decide) inT3 (by decide) rfl (by decide +kernel) rfl rfl rfl (by simp [flds, up2, up1, upd]) kk
theorem gf_3_3 {k idx : Nat} (C : Cx x y A own cc nL R) (hw : Cond.fieldLink own idx "BoothFlash$Tape" "behind" "I" ∈ TT) (hd : decode cc pc = .ok (.getfield idx, 3)) (hk : kd k = 3) (kk : GW x y A nL Z (pc + 3) lv (.int (σ k 3) :: st) σ) : GW x y A nL Z pc lv (.ref (yad y k) :: st) σ := g_get (ci := 3) (j := 3) (cn := RX3) (T := TX3) (N := 6) C hw hd hk rfl (by decide) inT3 (by decide) rfl kk
theorem gp_3_3 {k idx : Nat} {v : Int32} (C : Cx x y A own cc nL R) (hw : Cond.fieldLink own idx "BoothFlash$Tape" "behind" "I" ∈ TT) (hd : decode cc pc = .ok (.putfield idx, 3)) (hk : kd k = 3) (kk : GW x y A nL Z (pc + 3) lv st (up2 σ k 3 v)) : GW x y A nL Z pc lv (.int v :: .ref (yad y k) :: st) σ := g_put (ci := 3) (j := 3) (cn := RX3) (T := TX3) (N := 6) (ty := .int) C tyX3 tyX3_ok nmX3 hw hd hk rfl (by decide) inT3 (by decide) rfl (by decide +kernel) rfl rfl rfl (by simp [flds, up2, up1, upd]) kk
theorem gf_3_4 {k idx : Nat} (C : Cx x y A own cc nL R) (hw : Cond.fieldLink own idx "BoothFlash$Tape" "type" "I" ∈ TT) (hd : decode cc pc = .ok (.getfield idx, 3)) (hk : kd k = 3) (kk : GW x y A nL Z (pc + 3) lv (.int (σ k 4) :: st) σ) : GW x y A nL Z pc lv (.ref (yad y k) :: st) σ := g_get (ci := 3) (j := 4) (cn := RX3) (T := TX3) (N := 6) C hw hd hk rfl (by decide) inT3 (by decide) rfl kk
theorem gp_3_4 {k idx : Nat} {v : Int32} (C : Cx x y A own cc nL R) (hw : Cond.fieldLink own idx "BoothFlash$Tape" "type" "I" ∈ TT) (hd : decode cc pc = .ok (.putfield idx, 3)) (hk : kd k = 3) (kk : GW x y A nL Z (pc + 3) lv st (up2 σ k 4 v)) : GW x y A nL Z pc lv (.int v :: .ref (yad y k) :: st) σ := g_put (ci := 3) (j := 4) (cn := RX3) (T := TX3) (N := 6) (ty := .int) C tyX3 tyX3_ok nmX3 hw hd hk rfl (by decide) inT3 (by decide) rfl (by decide +kernel) rfl rfl rfl (by simp [flds, up2, up1, upd]) kk
theorem gf_3_5 {k idx : Nat} (C : Cx x y A own cc nL R) (hw : Cond.fieldLink own idx "BoothFlash$Tape" "value" "I" ∈ TT) (hd : decode cc pc = .ok (.getfield idx, 3)) (hk : kd k = 3) (kk : GW x y A nL Z (pc + 3) lv (.int (σ k 5) :: st) σ) : GW x y A nL Z pc lv (.ref (yad y k) :: st) σ := g_get (ci := 3) (j := 5) (cn := RX3) (T := TX3) (N := 6) C hw hd hk rfl (by decide) inT3 (by decide) rfl kk
theorem gp_3_5 {k idx : Nat} {v : Int32} (C : Cx x y A own cc nL R) (hw : Cond.fieldLink own idx "BoothFlash$Tape" "value" "I" ∈ TT) (hd : decode cc pc = .ok (.putfield idx, 3)) (hk : kd k = 3) (kk : GW x y A nL Z (pc + 3) lv st (up2 σ k 5 v)) : GW x y A nL Z pc lv (.int v :: .ref (yad y k) :: st) σ := g_put (ci := 3) (j := 5) (cn := RX3) (T := TX3) (N := 6) (ty := .int) C tyX3 tyX3_ok nmX3 hw hd hk rfl (by decide) inT3 (by decide) rfl (by decide +kernel) rfl rfl rfl (by simp [flds, up2, up1, upd]) kk
theorem gf_4_0 {k idx : Nat} (C : Cx x y A own cc nL R) (hw : Cond.fieldLink own idx "BoothFlash" "real" "LBoothFlash$Booth;" ∈ TT) (hd : decode cc pc = .ok (.getfield idx, 3)) (hk : kd k = 4) (kk : GW x y A nL Z (pc + 3) lv (.ref (yad y 1) :: st) σ) : GW x y A nL Z pc lv (.ref (yad y k) :: st) σ := g_get (ci := 4) (j := 0) (cn := RX4) (T := TX4) (N := 7) C hw hd hk rfl (by decide) inT4 (by decide) rfl kk
theorem gf_4_1 {k idx : Nat} (C : Cx x y A own cc nL R) (hw : Cond.fieldLink own idx "BoothFlash" "trial" "LBoothFlash$Booth;" ∈ TT) (hd : decode cc pc = .ok (.getfield idx, 3)) (hk : kd k = 4) (kk : GW x y A nL Z (pc + 3) lv (.ref (yad y 13) :: st) σ) : GW x y A nL Z pc lv (.ref (yad y k) :: st) σ := g_get (ci := 4) (j := 1) (cn := RX4) (T := TX4) (N := 7) C hw hd hk rfl (by decide) inT4 (by decide) rfl kk
theorem gf_4_2 {k idx : Nat} (C : Cx x y A own cc nL R) (hw : Cond.fieldLink own idx "BoothFlash" "kept" "LBoothFlash$Booth;" ∈ TT) (hd : decode cc pc = .ok (.getfield idx, 3)) (hk : kd k = 4) (kk : GW x y A nL Z (pc + 3) lv (.ref (yad y 25) :: st) σ) : GW x y A nL Z pc lv (.ref (yad y k) :: st) σ := g_get (ci := 4) (j := 2) (cn := RX4) (T := TX4) (N := 7) C hw hd hk rfl (by decide) inT4 (by decide) rfl kk
theorem gf_4_3 {k idx : Nat} (C : Cx x y A own cc nL R) (hw : Cond.fieldLink own idx "BoothFlash" "isKept" "Z" ∈ TT) (hd : decode cc pc = .ok (.getfield idx, 3)) (hk : kd k = 4) (kk : GW x y A nL Z (pc + 3) lv (.int (σ k 3) :: st) σ) : GW x y A nL Z pc lv (.ref (yad y k) :: st) σ := g_get (ci := 4) (j := 3) (cn := RX4) (T := TX4) (N := 7) C hw hd hk rfl (by decide) inT4 (by decide) rfl kk
theorem gp_4_3 {k idx : Nat} {v : Int32} (C : Cx x y A own cc nL R) (hw : Cond.fieldLink own idx "BoothFlash" "isKept" "Z" ∈ TT) (hd : decode cc pc = .ok (.putfield idx, 3)) (hk : kd k = 4) (h01 : v = 0 ∨ v = 1) (kk : GW x y A nL Z (pc + 3) lv st (up2 σ k 3 v)) : GW x y A nL Z pc lv (.int v :: .ref (yad y k) :: st) σ := g_put (ci := 4) (j := 3) (cn := RX4) (T := TX4) (N := 7) (ty := .boolean) C tyX4 tyX4_ok nmX4 hw hd hk rfl (by decide) inT4 (by decide) rfl (by decide +kernel) (by rcases h01 with rfl | rfl <;> rfl) (by rcases h01 with rfl | rfl <;> rfl) rfl (by simp [flds, up2, up1, upd]) kk
theorem gf_4_4 {k idx : Nat} (C : Cx x y A own cc nL R) (hw : Cond.fieldLink own idx "BoothFlash" "tape" "LBoothFlash$Tape;" ∈ TT) (hd : decode cc pc = .ok (.getfield idx, 3)) (hk : kd k = 4) (kk : GW x y A nL Z (pc + 3) lv (.ref (yad y 37) :: st) σ) : GW x y A nL Z pc lv (.ref (yad y k) :: st) σ := g_get (ci := 4) (j := 4) (cn := RX4) (T := TX4) (N := 7) C hw hd hk rfl (by decide) inT4 (by decide) rfl kk
theorem gf_4_5 {k idx : Nat} (C : Cx x y A own cc nL R) (hw : Cond.fieldLink own idx "BoothFlash" "sheets" "[LBoothFlash$Sheet;" ∈ TT) (hd : decode cc pc = .ok (.getfield idx, 3)) (hk : kd k = 4) (kk : GW x y A nL Z (pc + 3) lv (.ref (yad y 39) :: st) σ) : GW x y A nL Z pc lv (.ref (yad y k) :: st) σ := g_get (ci := 4) (j := 5) (cn := RX4) (T := TX4) (N := 7) C hw hd hk rfl (by decide) inT4 (by decide) rfl kk
theorem gf_4_6 {k idx : Nat} (C : Cx x y A own cc nL R) (hw : Cond.fieldLink own idx "BoothFlash" "found" "[I" ∈ TT) (hd : decode cc pc = .ok (.getfield idx, 3)) (hk : kd k = 4) (kk : GW x y A nL Z (pc + 3) lv (.ref (yad y 48) :: st) σ) : GW x y A nL Z pc lv (.ref (yad y k) :: st) σ := g_get (ci := 4) (j := 6) (cn := RX4) (T := TX4) (N := 7) C hw hd hk rfl (by decide) inT4 (by decide) rfl kk
theorem gf_5_0 {k idx : Nat} (C : Cx x y A own cc nL R) (hw : Cond.fieldLink own idx "BoothFlashModel" "now" "[I" ∈ TT) (hd : decode cc pc = .ok (.getfield idx, 3)) (hk : kd k = 5) (kk : GW x y A nL Z (pc + 3) lv (.ref (yad y 50) :: st) σ) : GW x y A nL Z pc lv (.ref (yad y k) :: st) σ := g_get (ci := 5) (j := 0) (cn := RX5) (T := TX5) (N := 22) C hw hd hk rfl (by decide) inT5 (by decide) rfl kk
theorem gf_5_1 {k idx : Nat} (C : Cx x y A own cc nL R) (hw : Cond.fieldLink own idx "BoothFlashModel" "kept" "[I" ∈ TT) (hd : decode cc pc = .ok (.getfield idx, 3)) (hk : kd k = 5) (kk : GW x y A nL Z (pc + 3) lv (.ref (yad y 51) :: st) σ) : GW x y A nL Z pc lv (.ref (yad y k) :: st) σ := g_get (ci := 5) (j := 1) (cn := RX5) (T := TX5) (N := 22) C hw hd hk rfl (by decide) inT5 (by decide) rfl kk
theorem gf_5_2 {k idx : Nat} (C : Cx x y A own cc nL R) (hw : Cond.fieldLink own idx "BoothFlashModel" "aside" "[I" ∈ TT) (hd : decode cc pc = .ok (.getfield idx, 3)) (hk : kd k = 5) (kk : GW x y A nL Z (pc + 3) lv (.ref (yad y 52) :: st) σ) : GW x y A nL Z pc lv (.ref (yad y k) :: st) σ := g_get (ci := 5) (j := 2) (cn := RX5) (T := TX5) (N := 22) C hw hd hk rfl (by decide) inT5 (by decide) rfl kk
theorem gf_5_3 {k idx : Nat} (C : Cx x y A own cc nL R) (hw : Cond.fieldLink own idx "BoothFlashModel" "isKept" "Z" ∈ TT) (hd : decode cc pc = .ok (.getfield idx, 3)) (hk : kd k = 5) (kk : GW x y A nL Z (pc + 3) lv (.int (σ k 3) :: st) σ) : GW x y A nL Z pc lv (.ref (yad y k) :: st) σ := g_get (ci := 5) (j := 3) (cn := RX5) (T := TX5) (N := 22) C hw hd hk rfl (by decide) inT5 (by decide) rfl kk
theorem gp_5_3 {k idx : Nat} {v : Int32} (C : Cx x y A own cc nL R) (hw : Cond.fieldLink own idx "BoothFlashModel" "isKept" "Z" ∈ TT) (hd : decode cc pc = .ok (.putfield idx, 3)) (hk : kd k = 5) (h01 : v = 0 ∨ v = 1) (kk : GW x y A nL Z (pc + 3) lv st (up2 σ k 3 v)) : GW x y A nL Z pc lv (.int v :: .ref (yad y k) :: st) σ := g_put (ci := 5) (j := 3) (cn := RX5) (T := TX5) (N := 22) (ty := .boolean) C tyX5 tyX5_ok nmX5 hw hd hk rfl (by decide) inT5 (by decide) rfl (by decide +kernel) (by rcases h01 with rfl | rfl <;> rfl) (by rcases h01 with rfl | rfl <;> rfl) rfl (by simp [flds, up2, up1, upd]) kk
theorem gf_5_4 {k idx : Nat} (C : Cx x y A own cc nL R) (hw : Cond.fieldLink own idx "BoothFlashModel" "found" "[I" ∈ TT) (hd : decode cc pc = .ok (.getfield idx, 3)) (hk : kd k = 5) (kk : GW x y A nL Z (pc + 3) lv (.ref (yad y 53) :: st) σ) : GW x y A nL Z pc lv (.ref (yad y k) :: st) σ := g_get (ci := 5) (j := 4) (cn := RX5) (T := TX5) (N := 22) C hw hd hk rfl (by decide) inT5 (by decide) rfl kk
theorem gf_5_5 {k idx : Nat} (C : Cx x y A own cc nL R) (hw : Cond.fieldLink own idx "BoothFlashModel" "tallMany" "I" ∈ TT) (hd : decode cc pc = .ok (.getfield idx, 3)) (hk : kd k = 5) (kk : GW x y A nL Z (pc + 3) lv (.int (σ k 5) :: st) σ) : GW x y A nL Z pc lv (.ref (yad y k) :: st) σ := g_get (ci := 5) (j := 5) (cn := RX5) (T := TX5) (N := 22) C hw hd hk rfl (by decide) inT5 (by decide) rfl kk
theorem gp_5_5 {k idx : Nat} {v : Int32} (C : Cx x y A own cc nL R) (hw : Cond.fieldLink own idx "BoothFlashModel" "tallMany" "I" ∈ TT) (hd : decode cc pc = .ok (.putfield idx, 3)) (hk : kd k = 5) (kk : GW x y A nL Z (pc + 3) lv st (up2 σ k 5 v)) : GW x y A nL Z pc lv (.int v :: .ref (yad y k) :: st) σ := g_put (ci := 5) (j := 5) (cn := RX5) (T := TX5) (N := 22) (ty := .int) C tyX5 tyX5_ok nmX5 hw hd hk rfl (by decide) inT5 (by decide) rfl (by decide +kernel) rfl rfl rfl (by simp [flds, up2, up1, upd]) kk
theorem gf_5_6 {k idx : Nat} (C : Cx x y A own cc nL R) (hw : Cond.fieldLink own idx "BoothFlashModel" "tallLeast" "I" ∈ TT) (hd : decode cc pc = .ok (.getfield idx, 3)) (hk : kd k = 5) (kk : GW x y A nL Z (pc + 3) lv (.int (σ k 6) :: st) σ) : GW x y A nL Z pc lv (.ref (yad y k) :: st) σ := g_get (ci := 5) (j := 6) (cn := RX5) (T := TX5) (N := 22) C hw hd hk rfl (by decide) inT5 (by decide) rfl kk
theorem gp_5_6 {k idx : Nat} {v : Int32} (C : Cx x y A own cc nL R) (hw : Cond.fieldLink own idx "BoothFlashModel" "tallLeast" "I" ∈ TT) (hd : decode cc pc = .ok (.putfield idx, 3)) (hk : kd k = 5) (kk : GW x y A nL Z (pc + 3) lv st (up2 σ k 6 v)) : GW x y A nL Z pc lv (.int v :: .ref (yad y k) :: st) σ := g_put (ci := 5) (j := 6) (cn := RX5) (T := TX5) (N := 22) (ty := .int) C tyX5 tyX5_ok nmX5 hw hd hk rfl (by decide) inT5 (by decide) rfl (by decide +kernel) rfl rfl rfl (by simp [flds, up2, up1, upd]) kk
theorem gf_5_7 {k idx : Nat} (C : Cx x y A own cc nL R) (hw : Cond.fieldLink own idx "BoothFlashModel" "tape" "[I" ∈ TT) (hd : decode cc pc = .ok (.getfield idx, 3)) (hk : kd k = 5) (kk : GW x y A nL Z (pc + 3) lv (.ref (yad y 54) :: st) σ) : GW x y A nL Z pc lv (.ref (yad y k) :: st) σ := g_get (ci := 5) (j := 7) (cn := RX5) (T := TX5) (N := 22) C hw hd hk rfl (by decide) inT5 (by decide) rfl kk
theorem gf_5_8 {k idx : Nat} (C : Cx x y A own cc nL R) (hw : Cond.fieldLink own idx "BoothFlashModel" "taped" "I" ∈ TT) (hd : decode cc pc = .ok (.getfield idx, 3)) (hk : kd k = 5) (kk : GW x y A nL Z (pc + 3) lv (.int (σ k 8) :: st) σ) : GW x y A nL Z pc lv (.ref (yad y k) :: st) σ := g_get (ci := 5) (j := 8) (cn := RX5) (T := TX5) (N := 22) C hw hd hk rfl (by decide) inT5 (by decide) rfl kk
theorem gp_5_8 {k idx : Nat} {v : Int32} (C : Cx x y A own cc nL R) (hw : Cond.fieldLink own idx "BoothFlashModel" "taped" "I" ∈ TT) (hd : decode cc pc = .ok (.putfield idx, 3)) (hk : kd k = 5) (kk : GW x y A nL Z (pc + 3) lv st (up2 σ k 8 v)) : GW x y A nL Z pc lv (.int v :: .ref (yad y k) :: st) σ := g_put (ci := 5) (j := 8) (cn := RX5) (T := TX5) (N := 22) (ty := .int) C tyX5 tyX5_ok nmX5 hw hd hk rfl (by decide) inT5 (by decide) rfl (by decide +kernel) rfl rfl rfl (by simp [flds, up2, up1, upd]) kk
theorem gf_5_9 {k idx : Nat} (C : Cx x y A own cc nL R) (hw : Cond.fieldLink own idx "BoothFlashModel" "begins" "I" ∈ TT) (hd : decode cc pc = .ok (.getfield idx, 3)) (hk : kd k = 5) (kk : GW x y A nL Z (pc + 3) lv (.int (σ k 9) :: st) σ) : GW x y A nL Z pc lv (.ref (yad y k) :: st) σ := g_get (ci := 5) (j := 9) (cn := RX5) (T := TX5) (N := 22) C hw hd hk rfl (by decide) inT5 (by decide) rfl kk
theorem gp_5_9 {k idx : Nat} {v : Int32} (C : Cx x y A own cc nL R) (hw : Cond.fieldLink own idx "BoothFlashModel" "begins" "I" ∈ TT) (hd : decode cc pc = .ok (.putfield idx, 3)) (hk : kd k = 5) (kk : GW x y A nL Z (pc + 3) lv st (up2 σ k 9 v)) : GW x y A nL Z pc lv (.int v :: .ref (yad y k) :: st) σ := g_put (ci := 5) (j := 9) (cn := RX5) (T := TX5) (N := 22) (ty := .int) C tyX5 tyX5_ok nmX5 hw hd hk rfl (by decide) inT5 (by decide) rfl (by decide +kernel) rfl rfl rfl (by simp [flds, up2, up1, upd]) kk
theorem gf_5_10 {k idx : Nat} (C : Cx x y A own cc nL R) (hw : Cond.fieldLink own idx "BoothFlashModel" "ends" "I" ∈ TT) (hd : decode cc pc = .ok (.getfield idx, 3)) (hk : kd k = 5) (kk : GW x y A nL Z (pc + 3) lv (.int (σ k 10) :: st) σ) : GW x y A nL Z pc lv (.ref (yad y k) :: st) σ := g_get (ci := 5) (j := 10) (cn := RX5) (T := TX5) (N := 22) C hw hd hk rfl (by decide) inT5 (by decide) rfl kk
theorem gp_5_10 {k idx : Nat} {v : Int32} (C : Cx x y A own cc nL R) (hw : Cond.fieldLink own idx "BoothFlashModel" "ends" "I" ∈ TT) (hd : decode cc pc = .ok (.putfield idx, 3)) (hk : kd k = 5) (kk : GW x y A nL Z (pc + 3) lv st (up2 σ k 10 v)) : GW x y A nL Z pc lv (.int v :: .ref (yad y k) :: st) σ := g_put (ci := 5) (j := 10) (cn := RX5) (T := TX5) (N := 22) (ty := .int) C tyX5 tyX5_ok nmX5 hw hd hk rfl (by decide) inT5 (by decide) rfl (by decide +kernel) rfl rfl rfl (by simp [flds, up2, up1, upd]) kk
theorem gf_5_11 {k idx : Nat} (C : Cx x y A own cc nL R) (hw : Cond.fieldLink own idx "BoothFlashModel" "sort" "I" ∈ TT) (hd : decode cc pc = .ok (.getfield idx, 3)) (hk : kd k = 5) (kk : GW x y A nL Z (pc + 3) lv (.int (σ k 11) :: st) σ) : GW x y A nL Z pc lv (.ref (yad y k) :: st) σ := g_get (ci := 5) (j := 11) (cn := RX5) (T := TX5) (N := 22) C hw hd hk rfl (by decide) inT5 (by decide) rfl kk
theorem gp_5_11 {k idx : Nat} {v : Int32} (C : Cx x y A own cc nL R) (hw : Cond.fieldLink own idx "BoothFlashModel" "sort" "I" ∈ TT) (hd : decode cc pc = .ok (.putfield idx, 3)) (hk : kd k = 5) (kk : GW x y A nL Z (pc + 3) lv st (up2 σ k 11 v)) : GW x y A nL Z pc lv (.int v :: .ref (yad y k) :: st) σ := g_put (ci := 5) (j := 11) (cn := RX5) (T := TX5) (N := 22) (ty := .int) C tyX5 tyX5_ok nmX5 hw hd hk rfl (by decide) inT5 (by decide) rfl (by decide +kernel) rfl rfl rfl (by simp [flds, up2, up1, upd]) kk
theorem gf_5_12 {k idx : Nat} (C : Cx x y A own cc nL R) (hw : Cond.fieldLink own idx "BoothFlashModel" "value" "I" ∈ TT) (hd : decode cc pc = .ok (.getfield idx, 3)) (hk : kd k = 5) (kk : GW x y A nL Z (pc + 3) lv (.int (σ k 12) :: st) σ) : GW x y A nL Z pc lv (.ref (yad y k) :: st) σ := g_get (ci := 5) (j := 12) (cn := RX5) (T := TX5) (N := 22) C hw hd hk rfl (by decide) inT5 (by decide) rfl kk
theorem gp_5_12 {k idx : Nat} {v : Int32} (C : Cx x y A own cc nL R) (hw : Cond.fieldLink own idx "BoothFlashModel" "value" "I" ∈ TT) (hd : decode cc pc = .ok (.putfield idx, 3)) (hk : kd k = 5) (kk : GW x y A nL Z (pc + 3) lv st (up2 σ k 12 v)) : GW x y A nL Z pc lv (.int v :: .ref (yad y k) :: st) σ := g_put (ci := 5) (j := 12) (cn := RX5) (T := TX5) (N := 22) (ty := .int) C tyX5 tyX5_ok nmX5 hw hd hk rfl (by decide) inT5 (by decide) rfl (by decide +kernel) rfl rfl rfl (by simp [flds, up2, up1, upd]) kk
theorem gf_5_13 {k idx : Nat} (C : Cx x y A own cc nL R) (hw : Cond.fieldLink own idx "BoothFlashModel" "isWrong" "Z" ∈ TT) (hd : decode cc pc = .ok (.getfield idx, 3)) (hk : kd k = 5) (kk : GW x y A nL Z (pc + 3) lv (.int (σ k 13) :: st) σ) : GW x y A nL Z pc lv (.ref (yad y k) :: st) σ := g_get (ci := 5) (j := 13) (cn := RX5) (T := TX5) (N := 22) C hw hd hk rfl (by decide) inT5 (by decide) rfl kk
theorem gp_5_13 {k idx : Nat} {v : Int32} (C : Cx x y A own cc nL R) (hw : Cond.fieldLink own idx "BoothFlashModel" "isWrong" "Z" ∈ TT) (hd : decode cc pc = .ok (.putfield idx, 3)) (hk : kd k = 5) (h01 : v = 0 ∨ v = 1) (kk : GW x y A nL Z (pc + 3) lv st (up2 σ k 13 v)) : GW x y A nL Z pc lv (.int v :: .ref (yad y k) :: st) σ := g_put (ci := 5) (j := 13) (cn := RX5) (T := TX5) (N := 22) (ty := .boolean) C tyX5 tyX5_ok nmX5 hw hd hk rfl (by decide) inT5 (by decide) rfl (by decide +kernel) (by rcases h01 with rfl | rfl <;> rfl) (by rcases h01 with rfl | rfl <;> rfl) rfl (by simp [flds, up2, up1, upd]) kk
theorem gf_5_14 {k idx : Nat} (C : Cx x y A own cc nL R) (hw : Cond.fieldLink own idx "BoothFlashModel" "kindNames" "[Ljava/lang/String;" ∈ TT) (hd : decode cc pc = .ok (.getfield idx, 3)) (hk : kd k = 5) (kk : GW x y A nL Z (pc + 3) lv (.ref (yad y 55) :: st) σ) : GW x y A nL Z pc lv (.ref (yad y k) :: st) σ := g_get (ci := 5) (j := 14) (cn := RX5) (T := TX5) (N := 22) C hw hd hk rfl (by decide) inT5 (by decide) rfl kk
theorem gf_5_15 {k idx : Nat} (C : Cx x y A own cc nL R) (hw : Cond.fieldLink own idx "BoothFlashModel" "items" "[I" ∈ TT) (hd : decode cc pc = .ok (.getfield idx, 3)) (hk : kd k = 5) (kk : GW x y A nL Z (pc + 3) lv (.ref (yad y 56) :: st) σ) : GW x y A nL Z pc lv (.ref (yad y k) :: st) σ := g_get (ci := 5) (j := 15) (cn := RX5) (T := TX5) (N := 22) C hw hd hk rfl (by decide) inT5 (by decide) rfl kk
theorem gf_5_16 {k idx : Nat} (C : Cx x y A own cc nL R) (hw : Cond.fieldLink own idx "BoothFlashModel" "itemMany" "I" ∈ TT) (hd : decode cc pc = .ok (.getfield idx, 3)) (hk : kd k = 5) (kk : GW x y A nL Z (pc + 3) lv (.int (σ k 16) :: st) σ) : GW x y A nL Z pc lv (.ref (yad y k) :: st) σ := g_get (ci := 5) (j := 16) (cn := RX5) (T := TX5) (N := 22) C hw hd hk rfl (by decide) inT5 (by decide) rfl kk
theorem gp_5_16 {k idx : Nat} {v : Int32} (C : Cx x y A own cc nL R) (hw : Cond.fieldLink own idx "BoothFlashModel" "itemMany" "I" ∈ TT) (hd : decode cc pc = .ok (.putfield idx, 3)) (hk : kd k = 5) (kk : GW x y A nL Z (pc + 3) lv st (up2 σ k 16 v)) : GW x y A nL Z pc lv (.int v :: .ref (yad y k) :: st) σ := g_put (ci := 5) (j := 16) (cn := RX5) (T := TX5) (N := 22) (ty := .int) C tyX5 tyX5_ok nmX5 hw hd hk rfl (by decide) inT5 (by decide) rfl (by decide +kernel) rfl rfl rfl (by simp [flds, up2, up1, upd]) kk
theorem gf_5_17 {k idx : Nat} (C : Cx x y A own cc nL R) (hw : Cond.fieldLink own idx "BoothFlashModel" "sittersThen" "I" ∈ TT) (hd : decode cc pc = .ok (.getfield idx, 3)) (hk : kd k = 5) (kk : GW x y A nL Z (pc + 3) lv (.int (σ k 17) :: st) σ) : GW x y A nL Z pc lv (.ref (yad y k) :: st) σ := g_get (ci := 5) (j := 17) (cn := RX5) (T := TX5) (N := 22) C hw hd hk rfl (by decide) inT5 (by decide) rfl kk
theorem gp_5_17 {k idx : Nat} {v : Int32} (C : Cx x y A own cc nL R) (hw : Cond.fieldLink own idx "BoothFlashModel" "sittersThen" "I" ∈ TT) (hd : decode cc pc = .ok (.putfield idx, 3)) (hk : kd k = 5) (kk : GW x y A nL Z (pc + 3) lv st (up2 σ k 17 v)) : GW x y A nL Z pc lv (.int v :: .ref (yad y k) :: st) σ := g_put (ci := 5) (j := 17) (cn := RX5) (T := TX5) (N := 22) (ty := .int) C tyX5 tyX5_ok nmX5 hw hd hk rfl (by decide) inT5 (by decide) rfl (by decide +kernel) rfl rfl rfl (by simp [flds, up2, up1, upd]) kk
theorem gf_5_18 {k idx : Nat} (C : Cx x y A own cc nL R) (hw : Cond.fieldLink own idx "BoothFlashModel" "widths" "[I" ∈ TT) (hd : decode cc pc = .ok (.getfield idx, 3)) (hk : kd k = 5) (kk : GW x y A nL Z (pc + 3) lv (.ref (yad y 57) :: st) σ) : GW x y A nL Z pc lv (.ref (yad y k) :: st) σ := g_get (ci := 5) (j := 18) (cn := RX5) (T := TX5) (N := 22) C hw hd hk rfl (by decide) inT5 (by decide) rfl kk
theorem gf_5_19 {k idx : Nat} (C : Cx x y A own cc nL R) (hw : Cond.fieldLink own idx "BoothFlashModel" "sizes" "[I" ∈ TT) (hd : decode cc pc = .ok (.getfield idx, 3)) (hk : kd k = 5) (kk : GW x y A nL Z (pc + 3) lv (.ref (yad y 58) :: st) σ) : GW x y A nL Z pc lv (.ref (yad y k) :: st) σ := g_get (ci := 5) (j := 19) (cn := RX5) (T := TX5) (N := 22) C hw hd hk rfl (by decide) inT5 (by decide) rfl kk
theorem gf_5_20 {k idx : Nat} (C : Cx x y A own cc nL R) (hw : Cond.fieldLink own idx "BoothFlashModel" "numbers" "[I" ∈ TT) (hd : decode cc pc = .ok (.getfield idx, 3)) (hk : kd k = 5) (kk : GW x y A nL Z (pc + 3) lv (.ref (yad y 59) :: st) σ) : GW x y A nL Z pc lv (.ref (yad y k) :: st) σ := g_get (ci := 5) (j := 20) (cn := RX5) (T := TX5) (N := 22) C hw hd hk rfl (by decide) inT5 (by decide) rfl kk
theorem gf_5_21 {k idx : Nat} (C : Cx x y A own cc nL R) (hw : Cond.fieldLink own idx "BoothFlashModel" "moved" "[I" ∈ TT) (hd : decode cc pc = .ok (.getfield idx, 3)) (hk : kd k = 5) (kk : GW x y A nL Z (pc + 3) lv (.ref (yad y 60) :: st) σ) : GW x y A nL Z pc lv (.ref (yad y k) :: st) σ := g_get (ci := 5) (j := 21) (cn := RX5) (T := TX5) (N := 22) C hw hd hk rfl (by decide) inT5 (by decide) rfl kk
end AUX

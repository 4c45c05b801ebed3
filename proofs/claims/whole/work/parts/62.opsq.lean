/-! PURE: text: items -/
def moT (c : Nat) : Nat := if c = 1 then 91 else if c = 4 then 1000 else 10
def dvT (c : Nat) : Int32 := if c = 1 then 60 else if c = 2 then 5 else if c = 3 then 3 else 20
def trS (B : Row) (L s : Nat) (t : Nat × Nat × Nat × Nat) : Nat → Bool × Nat × Nat × Nat × Nat
  | 0 => mst B L (decide (s < 8)) (false, t)
  | c + 1 => prh B L (7 + c) (moT (c + 1)) (trS B L s t c)
def trV (B : Row) (L s : Nat) (t : Nat × Nat × Nat × Nat) (c : Nat) : Int32 := prV B L (7 + c) (dvT (c + 1)) (trS B L s t c)
def itS (i : Nat) (v1 v2 v3 v4 : Int32) : Row := upd (upd (upd (upd (upd (fun _ => -1) 0 (nI i)) 1 v1) 2 v2) 3 v3) 4 v4
def it1 (k : Nat) (v : Int32) : Row := upd (upd (fun _ => -1) 0 (nI k)) 1 v
def rqT (B : Row) (L s : Nat) : Nat → Nat → (Nat × Nat × Nat × Nat) → Row → (Bool × Nat × Nat × Nat × Nat) × Row
  | 0, _, t, it => if t.2.2.1 = 2 then ((true, t), it) else ((false, t), it)
  | d + 1, p, t, it => if t.2.2.1 = 2 then (if t.2.2.2 < s then rqT B L s d (p + 1) (tkn B L t.2.1) (upd it (1 + p) (nI t.2.2.2)) else ((true, t), it)) else ((false, t), it)
def pQu (B : Row) (L s : Nat) (t : Nat × Nat × Nat × Nat) : (Bool × Nat × Nat × Nat × Nat) × Row := if (nbr B L s (mst B L true (false, t))).1 = true then (nbr B L s (mst B L true (false, t)), it1 10 0) else rqT B L s 5 1 (nbr B L s (mst B L true (false, t))).2 (it1 10 (nI (tkn B L t.2.1).2.2.2))
def pNu (B : Row) (L k s : Nat) (t : Nat × Nat × Nat × Nat) : (Bool × Nat × Nat × Nat × Nat) × Row := (nbr B L s (mst B L true (false, t)), it1 k (nI (tkn B L t.2.1).2.2.2))
def pIt (B : Row) (L s : Nat) (t : Nat × Nat × Nat × Nat) : ((Bool × Nat × Nat × Nat × Nat) × Row) × Nat :=
  ocase (lstU (fun q => isWd B t q) 0 7) (if isWd B t 11 = true then (pQu B L s t, s) else if isWd B t 12 = true then (pNu B L 11 61 t, s) else if isWd B t 13 = true then (pNu B L 12 10 t, s) else if isWd B t 14 = true then (pNu B L 13 21 t, s) else (((true, t), it1 0 0), s)) (fun i => ((trS B L s t 4, itS i (trV B L s t 0) (trV B L s t 1) (trV B L s t 2) (trV B L s t 3)), s + 1))
/-- what an item does to a row -/
def qz (it a : Row) : Row := fun j => if 17 ≤ j ∧ j < 23 ∧ 0 ≤ it (j - 16) then it (j - 16) else a j
def apI (it a : Row) : Row := if it 0 < 7 then comesR a (a 1).toNatClampNeg (it 0) (it 1) (it 2) (it 3) (it 4) else if it 0 = 10 then qz it a else upd a (3 + ((it 0).toNatClampNeg - 11)) (it 1)
theorem prh_f {B : Row} {L q s : Nat} {S : Bool × Nat × Nat × Nat × Nat} (h : (prh B L q s S).1 = false) : S.1 = false := by
  by_cases c : S.1 = true
  · unfold prh at h
    rw [if_pos c] at h
    exact h
  · exact wi_f c
theorem prh_t {B : Row} {L q s : Nat} {S : Bool × Nat × Nat × Nat × Nat} (h : S.1 = true) : prh B L q s S = S := by unfold prh; rw [if_pos h]
theorem prh_0 {B : Row} {L q s : Nat} {S : Bool × Nat × Nat × Nat × Nat} (h : S.1 = false) : prh B L q s S = if isWd B S.2 q = true then (if isN (tkn B L S.2.2.1) s = true then (false, tkn B L (tkn B L S.2.2.1).2.1) else (true, tkn B L S.2.2.1)) else S := by
  unfold prh
  have e : S = (false, S.2) := by rw [← h]
  rw [if_neg (by rw [h]; decide), ← nbr_0, ← mst_0, ← e]
theorem trS_ok {B : Row} {L s : Nat} {t : Nat × Nat × Nat × Nat} (h : tOk B L t) : ∀ c, tOk B L (trS B L s t c).2 ∧ t.1 ≤ (trS B L s t c).2.1 := by
  intro c
  induction c with
  | zero => exact mst_ok (S := (false, t)) h
  | succ c ih =>
    have := prh_ok (q := 7 + c) (s := moT (c + 1)) ih.1
    exact ⟨this.1, Nat.le_trans ih.2 this.2⟩
/-! the class -/
theorem cq37 {σ : Sto} {g : Row} (h : g 1 = σ 37 1) : cq σ (up1 σ 37 g) := ⟨fun k _ q => up1_n q, by rw [up1_s]; exact h⟩
theorem V13_37 (σ : Sto) (g : Row) : V 13 (up1 σ 37 g) = V 13 σ := V_eq fun k _ _ => up1_n (by omega)
theorem cq38 {σ σ' : Sto} {B : Row} (q : cq σ σ') (h : σ 38 = B) : σ' 38 = B := (q.1 38 (by decide) (by decide)).trans h
theorem C_tk {σ : Sto} {B : Row} {L : Nat} {t : Nat × Nat × Nat × Nat} (hL : L ≤ 120) (hB : σ 38 = B) (hT : tkC L t (σ 37)) (hO : tOk B L t) : ∃ σ', F_X3_nextToken 37 σ = some ((), σ') ∧ cq σ σ' ∧ tkC L (tkn B L t.2.1) (σ' 37) ∧ V 13 σ' = V 13 σ := by
  obtain ⟨g, e, h⟩ := C_tok hL hT.1 hO.2.1 hT.2.2.1
  rw [hB] at h
  exact ⟨_, e, cq37 (h.1.trans hT.1.symm), by rw [up1_s]; exact h, V13_37 _ _⟩
theorem wT {c : Nat} (hc : c < 4) (σ : Sto) : F_X3_wordOfTrait (nI (c + 1)) σ = some (100 + (7 + c), σ) ∧ F_X2_mostOf (nI (c + 1)) σ = some (nI (moT (c + 1)) - 1, σ) := by
  rcases (show c = 0 ∨ c = 1 ∨ c = 2 ∨ c = 3 by omega) with rfl | rfl | rfl | rfl <;> exact ⟨rfl, rfl⟩
theorem moT_le (c : Nat) : moT c ≤ 1000 := by unfold moT; split; decide; split <;> decide
theorem C_tr {σ : Sto} {B : Row} {L s c m : Nat} {S : Bool × Nat × Nat × Nat × Nat} (hc : c < 4) (hL : L ≤ 120) (hB : σ 38 = B) (hT : tkC L S.2 (σ 37)) (hO : tOk B L S.2) (hS : S.1 = false) (hs : s < m) (h8 : m ≤ 8) (hm : V 13 σ 1 = nI m) (hd : V 13 σ (23 + 7 * s + (c + 1)) = dvT (c + 1)) :
    ((prh B L (7 + c) (moT (c + 1)) S).1 = false → ∃ σ', (∀ n, lo4 F_X3_readSitter_b19 (n + 1) 37 13 (nI s) (nI (c + 1)) σ = lo4 F_X3_readSitter_b19 n 37 13 (nI s) (nI (c + 1 + 1)) σ') ∧ cq σ σ' ∧ tkC L (prh B L (7 + c) (moT (c + 1)) S).2 (σ' 37) ∧ V 13 σ' = upd (V 13 σ) (23 + 7 * s + (c + 1)) (prV B L (7 + c) (dvT (c + 1)) S))
    ∧ ((prh B L (7 + c) (moT (c + 1)) S).1 = true → ∃ σ', (∀ n, lo4 F_X3_readSitter_b19 (n + 1) 37 13 (nI s) (nI (c + 1)) σ = some (0, σ')) ∧ cq σ σ' ∧ σ' 37 2 = nI (prh B L (7 + c) (moT (c + 1)) S).2.1) := by
  have hw := C_isWd (σ := σ) (q := 7 + c) (by omega) hL hT (by rw [hB]; exact hO)
  rw [hB] at hw
  have s0 : ∀ n, lo4 F_X3_readSitter_b19 (n + 1) 37 13 (nI s) (nI (c + 1)) σ = if b2i (isWd B S.2 (7 + c)) = 0 then lo4 F_X3_readSitter_b19 n 37 13 (nI s) (nI (c + 1 + 1)) σ else bnd (F_X3_nextToken 37 σ) (fun _ σ1 => bnd (F_X3_isNumber 37 (nI (moT (c + 1)) - 1) σ1) (fun r σ2 => if r = 0 then some (0, σ2) else bnd (F_X0_give 13 (nI s) (nI (c + 1)) (σ2 37 5) σ2) (fun _ σ3 => bnd (F_X3_nextToken 37 σ3) (fun _ σ4 => lo4 F_X3_readSitter_b19 n 37 13 (nI s) (nI (c + 1 + 1)) σ4)))) := by
    intro n
    rw [lo4_s, F_X3_readSitter_b19, if_neg (fun z => by have := (nI_ltI (a := 4) (by decide) (by omega)).mp z; omega), (wT hc σ).1, bnd_s, k373, ck_t, hw, bnd_s, nI_1]
    have e2 : ∀ τ, F_X2_mostOf (nI (c + 1)) τ = some (nI (moT (c + 1)) - 1, τ) := fun τ => (wT hc τ).2
    simp only [e2, bnd_s, kdb 13 k13, ck_t]
  by_cases cw : isWd B S.2 (7 + c) = true
  · obtain ⟨σ1, e1, q1, t1, v1⟩ := C_tk hL hB hT hO
    have o1 := (tkn_t (B := B) hO.2.1).1
    have hn := C_isN (moT_le (c + 1)) t1 o1.2.2.1 o1.2.2.2.1
    rw [prh_0 hS, if_pos cw]
    by_cases cn : isN (tkn B L S.2.2.1) (moT (c + 1)) = true
    · rw [if_pos cn]
      refine ⟨fun _ => ?_, fun h => absurd (show false = true from h) (by decide)⟩
      have hk : (tkn B L S.2.2.1).2.2.1 = 2 := by unfold isN at cn; rw [Bool.and_eq_true, decide_eq_true_eq] at cn; exact cn.1
      have eg := C_give (b := 13) (i := s) (k := c + 1) k13 h8 σ1 (by rw [v1]; exact hm) hs (by omega) (nI (tkn B L S.2.2.1).2.2.2)
      obtain ⟨σ2, hσ2⟩ : ∃ x, x = up2 σ1 (13 + 1 + 1 + s) (c + 1) (nI (tkn B L S.2.2.1).2.2.2) := ⟨_, rfl⟩
      rw [← hσ2] at eg
      have f2 : fr 13 σ1 σ2 := by rw [hσ2]; exact fr_u (by omega)
      have v2 : V 13 σ2 = upd (V 13 σ1) (23 + 7 * s + (c + 1)) (nI (tkn B L S.2.2.1).2.2.2) := by rw [hσ2]; exact V_us (b := 13) (by omega) (by omega)
      obtain ⟨σ3, e3, q3, t3, v3⟩ := C_tk (σ := σ2) (B := B) (t := tkn B L S.2.2.1) hL (cq38 (cq_fr f2) (cq38 q1 hB)) (by rw [f2 37 (by omega)]; exact t1) o1
      refine ⟨σ3, fun n => ?_, cq_t q1 (cq_t (cq_fr f2) q3), t3, ?_⟩
      · rw [s0, if_t cw, e1, bnd_s, hn, bnd_s, if_t cn, t1.2.2.2.2 hk, eg, bnd_s, e3, bnd_s]
      · rw [v3, v2, v1]
        unfold prV
        rw [if_pos cw]
    · rw [if_neg cn]
      refine ⟨fun h => absurd (show true = false from h) (by decide), fun _ => ⟨σ1, fun n => ?_, q1, t1.2.1⟩⟩
      rw [s0, if_t cw, e1, bnd_s, hn, bnd_s, if_f (wi_f cn)]
  · rw [prh_0 hS, if_neg cw]
    refine ⟨fun _ => ⟨σ, fun n => ?_, cq_r σ, hT, ?_⟩, fun h => absurd (h.symm.trans hS) (by decide)⟩
    · rw [s0, if_f (wi_f cw)]
    · unfold prV
      rw [if_neg cw, upd_same hd]
theorem comes_2 (a : Row) (m : Nat) (k t s me c : Int32) : comesR a m k t s me c (23 + 7 * m + 1) = t ∧ comesR a m k t s me c (23 + 7 * m + 2) = s ∧ comesR a m k t s me c (23 + 7 * m + 3) = me ∧ comesR a m k t s me c (23 + 7 * m + 4) = c := by
  unfold comesR new7
  refine ⟨?_, ?_, ?_, ?_⟩
  · rw [upd_n (by omega), upd_n (by omega), upd_n (by omega), upd_n (by omega), upd_n (by omega), upd_n (by omega), upd_s]
  · rw [upd_n (by omega), upd_n (by omega), upd_n (by omega), upd_n (by omega), upd_n (by omega), upd_s]
  · rw [upd_n (by omega), upd_n (by omega), upd_n (by omega), upd_n (by omega), upd_s]
  · rw [upd_n (by omega), upd_n (by omega), upd_n (by omega), upd_s]
theorem itS_v (i : Nat) (v1 v2 v3 v4 : Int32) : itS i v1 v2 v3 v4 0 = nI i ∧ itS i v1 v2 v3 v4 1 = v1 ∧ itS i v1 v2 v3 v4 2 = v2 ∧ itS i v1 v2 v3 v4 3 = v3 ∧ itS i v1 v2 v3 v4 4 = v4 := ⟨rfl, rfl, rfl, rfl, rfl⟩
theorem apI_S {i s : Nat} (hi : i < 7) (h8 : s < 8) {a : Row} (ha : a 1 = nI s) (v1 v2 v3 v4 : Int32) : apI (itS i v1 v2 v3 v4) a = comesR a s (nI i) v1 v2 v3 v4 := by
  obtain ⟨h0, h1, h2, h3, h4⟩ := itS_v i v1 v2 v3 v4
  unfold apI
  rw [h0, h1, h2, h3, h4, if_pos (show nI i < 7 from (nI_ltI (b := 7) (by omega) (by decide)).mpr hi), ha, nI_clamp (by omega)]
theorem C_rdS {σ : Sto} {B : Row} {L s i : Nat} {t : Nat × Nat × Nat × Nat} (hi : i < 7) (hL : L ≤ 120) (hB : σ 38 = B) (hT : tkC L t (σ 37)) (hO : tOk B L t) (h8 : s ≤ 8) (hm : V 13 σ 1 = nI s) :
    ((trS B L s t 4).1 = false → ∃ σ', F_X3_readSitter 37 13 (nI i) σ = some (1, σ') ∧ cq σ σ' ∧ tkC L (trS B L s t 4).2 (σ' 37) ∧ V 13 σ' = apI (itS i (trV B L s t 0) (trV B L s t 1) (trV B L s t 2) (trV B L s t 3)) (V 13 σ))
    ∧ ((trS B L s t 4).1 = true → ∃ σ', F_X3_readSitter 37 13 (nI i) σ = some (0, σ') ∧ cq σ σ' ∧ σ' 37 2 = nI (trS B L s t 4).2.1) := by
  rcases Nat.lt_or_ge s 8 with h | h
  · have e0 : trS B L s t 0 = (false, tkn B L t.2.1) := by rw [trS, decide_eq_true h, mst_0]
    obtain ⟨σ1, e1, v1, f1⟩ := C_add k13 σ hm h (nI i)
    obtain ⟨σ2, e2, q2, t2, v2⟩ := C_tk (σ := σ1) (B := B) (t := t) hL (cq38 (cq_fr f1) hB) (by rw [f1 37 (by omega)]; exact hT) hO
    have er : F_X3_readSitter 37 13 (nI i) σ = lo4 F_X3_readSitter_b19 1000 37 13 (nI s) (nI (0 + 1)) σ2 := by
      rw [F_X3_readSitter, kdb 13 k13, ck_t, e1, bnd_s, if_pos (nI_pos' (by omega)), k373, ck_t, e2, bnd_s]
      rfl
    have oS := trS_ok (s := s) hO
    have q02 : cq σ σ2 := cq_t (cq_fr f1) q2
    have w2 : V 13 σ2 = comesR (V 13 σ) s (nI i) 60 5 3 20 := by rw [v2, v1]
    have mm : ∀ {τ : Sto} {k x1 x2 x3 x4 : Int32}, V 13 τ = comesR (V 13 σ) s k x1 x2 x3 x4 → V 13 τ 1 = nI (s + 1) := fun h => by rw [h]; exact comes_1 _ _ _ _ _ _ _
    have g0 : (trS B L s t 0).1 = false := by rw [e0]
    have A0 := C_tr (σ := σ2) (S := trS B L s t 0) (c := 0) (s := s) (m := s + 1) (by decide) hL (cq38 q02 hB) (by rw [e0]; exact t2) (oS 0).1 g0 (by omega) (by omega) (mm w2) (by rw [w2]; exact (comes_2 _ _ _ _ _ _ _).1)
    by_cases c1 : (trS B L s t 1).1 = true
    · have st : trS B L s t 4 = trS B L s t 1 := by rw [trS, trS, trS, prh_t c1, prh_t c1, prh_t c1]
      obtain ⟨σ3, e3, q3, b3⟩ := A0.2 c1
      rw [st, er, e3 999]
      exact ⟨fun h => absurd (c1.symm.trans h) (by decide), fun _ => ⟨σ3, rfl, cq_t q02 q3, b3⟩⟩
    · obtain ⟨σ3, e3, q3, t3, v3⟩ := A0.1 (wi_f c1)
      have q03 := cq_t q02 q3
      have w3 : V 13 σ3 = comesR (V 13 σ) s (nI i) (trV B L s t 0) 5 3 20 := by rw [v3, w2]; exact comes_t _ _ _ _ _ _ _ _
      have A1 := C_tr (σ := σ3) (S := trS B L s t 1) (c := 1) (s := s) (m := s + 1) (by decide) hL (cq38 q03 hB) t3 (oS 1).1 (wi_f c1) (by omega) (by omega) (mm w3) (by rw [w3]; exact (comes_2 _ _ _ _ _ _ _).2.1)
      by_cases c2 : (trS B L s t 2).1 = true
      · have st : trS B L s t 4 = trS B L s t 2 := by rw [trS, trS, prh_t c2, prh_t c2]
        obtain ⟨σ4, e4, q4, b4⟩ := A1.2 c2
        rw [st, er, e3 999, e4 998]
        exact ⟨fun h => absurd (c2.symm.trans h) (by decide), fun _ => ⟨σ4, rfl, cq_t q03 q4, b4⟩⟩
      · obtain ⟨σ4, e4, q4, t4, v4⟩ := A1.1 (wi_f c2)
        have q04 := cq_t q03 q4
        have w4 : V 13 σ4 = comesR (V 13 σ) s (nI i) (trV B L s t 0) (trV B L s t 1) 3 20 := by rw [v4, w3]; exact comes_s _ _ _ _ _ _ _ _
        have A2 := C_tr (σ := σ4) (S := trS B L s t 2) (c := 2) (s := s) (m := s + 1) (by decide) hL (cq38 q04 hB) t4 (oS 2).1 (wi_f c2) (by omega) (by omega) (mm w4) (by rw [w4]; exact (comes_2 _ _ _ _ _ _ _).2.2.1)
        by_cases c3 : (trS B L s t 3).1 = true
        · have st : trS B L s t 4 = trS B L s t 3 := by rw [trS, prh_t c3]
          obtain ⟨σ5, e5, q5, b5⟩ := A2.2 c3
          rw [st, er, e3 999, e4 998, e5 997]
          exact ⟨fun h => absurd (c3.symm.trans h) (by decide), fun _ => ⟨σ5, rfl, cq_t q04 q5, b5⟩⟩
        · obtain ⟨σ5, e5, q5, t5, v5⟩ := A2.1 (wi_f c3)
          have q05 := cq_t q04 q5
          have w5 : V 13 σ5 = comesR (V 13 σ) s (nI i) (trV B L s t 0) (trV B L s t 1) (trV B L s t 2) 20 := by rw [v5, w4]; exact comes_m _ _ _ _ _ _ _ _
          have A3 := C_tr (σ := σ5) (S := trS B L s t 3) (c := 3) (s := s) (m := s + 1) (by decide) hL (cq38 q05 hB) t5 (oS 3).1 (wi_f c3) (by omega) (by omega) (mm w5) (by rw [w5]; exact (comes_2 _ _ _ _ _ _ _).2.2.2)
          by_cases c4 : (trS B L s t 4).1 = true
          · obtain ⟨σ6, e6, q6, b6⟩ := A3.2 c4
            rw [er, e3 999, e4 998, e5 997, e6 996]
            exact ⟨fun h => absurd (c4.symm.trans h) (by decide), fun _ => ⟨σ6, rfl, cq_t q05 q6, b6⟩⟩
          · obtain ⟨σ6, e6, q6, t6, v6⟩ := A3.1 (wi_f c4)
            refine ⟨fun _ => ⟨σ6, ?_, cq_t q05 q6, t6, ?_⟩, fun h => absurd h c4⟩
            · rw [er, e3 999, e4 998, e5 997, e6 996, lo4_s, F_X3_readSitter_b19, if_pos (by decide)]
            · rw [v6, w5, apI_S hi h hm]; exact comes_c _ _ _ _ _ _ _ _
  · have e8 : s = 8 := by omega
    subst e8
    have tt : trS B L 8 t 0 = (true, t) := rfl
    have t4 : trS B L 8 t 4 = (true, t) := by rw [trS, trS, trS, trS, tt, prh_t rfl, prh_t rfl, prh_t rfl, prh_t rfl]
    rw [t4]
    refine ⟨fun h => absurd (show true = false from h) (by decide), fun _ => ⟨σ, ?_, cq_r σ, hT.2.1⟩⟩
    rw [F_X3_readSitter, kdb 13 k13, ck_t, C_add8 k13 σ hm, bnd_s, if_neg (by decide)]

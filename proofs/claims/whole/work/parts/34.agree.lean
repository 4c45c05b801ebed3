/-! PURE: rows that agree stay so; a Booth becomes another -/
theorem agr_r (m : Nat) (a : Row) : agr m a a := fun _ _ => rfl
theorem agr_s {m : Nat} {a b : Row} (h : agr m a b) : agr m b a := fun j hj => (h j hj).symm
theorem agr_t {m : Nat} {a b c : Row} (h : agr m a b) (h2 : agr m b c) : agr m a c := fun j hj => (h j hj).trans (h2 j hj)
theorem agr_u {m k : Nat} {a b : Row} {v w : Int32} (h : agr m a b) (e : v = w) : agr m (upd a k v) (upd b k w) := by
  subst e
  intro j hj
  rw [upd_i, upd_i]
  by_cases q : j = k
  · rw [if_pos q, if_pos q]
  · rw [if_neg q, if_neg q]; exact h j hj
theorem agr_fa {m i : Nat} {a b : Row} (h : agr m a b) (hi : i < m) (f : Int32) : fa a i f = fa b i f := by
  unfold fa
  rw [h (23 + 7 * i) (by omega), h (23 + 7 * i + 1) (by omega), h (23 + 7 * i + 2) (by omega), h (23 + 7 * i + 3) (by omega), h 3 (by omega), h 4 (by omega), h 0 (by omega)]
theorem agr_good {m i : Nat} {a b : Row} (h : agr m a b) (hi : i < m) : good a i = good b i := by
  unfold good
  rw [agr_fa h hi, agr_fa h hi, agr_fa h hi, agr_fa h hi]
theorem agr_sits {m i : Nat} {a b : Row} (h : agr m a b) (hi : i < m) : agr m (sits a i) (sits b i) := by
  have h1 : agr m (sitA a i) (sitA b i) := agr_u h (by rw [h (23 + 7 * i + 4) (by omega), h 5 (by omega)])
  have h2 : agr m (sitB (sitA a i)) (sitB (sitA b i)) := agr_u h1 (by rw [h1 6 (by omega), h1 5 (by omega)])
  have h3 : agr m (sitC (sitB (sitA a i)) i) (sitC (sitB (sitA b i)) i) := agr_u h2 (by rw [h2 (23 + 7 * i + 6) (by omega)])
  have h4 : agr m (sitT a i) (sitT b i) := agr_u h3 (by rw [h3 3 (by omega), h3 (23 + 7 * i + 1) (by omega)])
  have h5 : agr m (sitD (sitT a i) i) (sitD (sitT b i) i) := agr_u h4 (by rw [h4 (23 + 7 * i + 5) (by omega)])
  have h6 : agr m (sitE (sitD (sitT a i) i) i) (sitE (sitD (sitT b i) i) i) := agr_u h5 (by rw [h5 (23 + 7 * i + 2) (by omega)])
  have h7 : agr m (sitF (sitT a i) i) (sitF (sitT b i) i) := agr_u h4 (by rw [h4 (23 + 7 * i + 3) (by omega)])
  unfold sits
  rw [agr_good h4 hi]
  split
  · exact h6
  · exact h7
theorem agr_pay {m : Nat} {a b : Row} (h : agr m a b) : ∀ k, k ≤ m → agr m (payN k a) (payN k b) := by
  intro k
  induction k with
  | zero => exact fun _ => h
  | succ k ih =>
    intro hk
    have h1 := ih (by omega)
    exact agr_u h1 (by rw [h1 (23 + 7 * k + 4) (by omega)])
theorem agr_tick {m : Nat} {a b : Row} (h : agr m a b) (h8 : m ≤ 8) (hm : a 1 = nI m) : agr m (tick a) (tick b) := by
  have h1 : agr m (tickA a) (tickA b) := agr_u h (by rw [h 0 (by omega)])
  have ha : nOf (tickA a) = m := by unfold nOf tickA; rw [upd_n (by decide), hm]; exact nI_clamp (by omega)
  have hb : nOf (tickA b) = m := by unfold nOf; rw [← h1 1 (by omega)]; exact ha
  unfold tick
  rw [ha, hb, ← h1 0 (by omega)]
  split
  · exact agr_pay h1 m (Nat.le_refl m)
  · exact h1
theorem agr_min {T m : Nat} {a b : Row} (h : agr m a b) (hok : okR T m a) (hT : T < 2 ^ 31) : agr m (minR a) (minR b) := by
  obtain ⟨h8, hm, ⟨t, ht, et⟩, hq, -⟩ := hok
  have e1 : nxt a = a (17 + t % 6) := by unfold nxt; rw [et, irm6 (by omega), nI_clamp (by omega)]
  have e2 : nxt b = a (17 + t % 6) := by unfold nxt; rw [← h 0 (by omega), et, irm6 (by omega), nI_clamp (by omega)]; exact (h _ (by omega)).symm
  have key : agr m (seated a (nxt a)) (seated b (nxt b)) ∧ seated a (nxt a) 1 = nI m := by
    rw [e1, e2]
    refine ⟨?_, by rw [seated_n (by omega) (by omega) (by omega)]; exact hm⟩
    rcases hq (t % 6) (by omega) with hw | ⟨i, hi, hw⟩
    · rw [hw]; unfold seated; rw [if_pos (by decide), if_pos (by decide)]; exact h
    · rw [hw]
      unfold seated
      rw [if_neg (nI_pos (by omega)), if_neg (nI_pos (by omega)), nI_clamp (by omega), ← h (23 + 7 * i + 4) (by omega), ← h 5 (by omega)]
      split
      · exact h
      · exact agr_sits h hi
  unfold minR
  exact agr_tick key.1 h8 key.2
theorem agr_mins {m : Nat} : ∀ (n T : Nat) {a b : Row}, agr m a b → okR T m a → T + n < 2 ^ 31 → agr m (minsR n a) (minsR n b) := by
  intro n
  induction n with
  | zero => intro T a b h _ _; exact h
  | succ n ih =>
    intro T a b h hok hT
    exact ih (T + 1) (agr_min h hok (by omega)) (okR_min hok) (by omega)
theorem okR_agr {T m : Nat} {a b : Row} (h : agr m a b) (hok : okR T m a) : okR T m b := by
  obtain ⟨h8, hm, ⟨t, ht, et⟩, hq, hs⟩ := hok
  refine ⟨h8, by rw [← h 1 (by omega)]; exact hm, ⟨t, ht, by rw [← h 0 (by omega)]; exact et⟩, fun p hp => ?_, fun p hp => ?_⟩
  · rw [← h (17 + p) (by omega)]; exact hq p hp
  · rw [← h (7 + p) (by omega)]; exact hs p hp
theorem okR_mins {m : Nat} : ∀ (n T : Nat) {a : Row}, okR T m a → okR (T + n) m (minsR n a) := by
  intro n
  induction n with
  | zero => intro T a h; exact h
  | succ n ih =>
    intro T a h
    have h1 := ih (T + 1) (okR_min h)
    rw [show T + (n + 1) = T + 1 + n by omega]
    exact h1
theorem minsR_n {j : Nat} (h0 : ¬ j = 0) (h3 : ¬ j = 3) (h6 : ¬ j = 6) (h : j < 23) : ∀ (n : Nat) (a : Row), minsR n a j = a j := by
  intro n
  induction n with
  | zero => intro a; rfl
  | succ n ih => intro a; exact (ih (minR a)).trans (minR_n h0 h3 h6 h)
theorem minsR_s (n : Nat) (a : Row) : minsR (n + 1) a = minR (minsR n a) := by
  induction n generalizing a with
  | zero => rfl
  | succ n ih => exact ih (minR a)
/-! a Booth becomes another -/
theorem kd0c {b : Nat} (h : kd b = 0) : b = 1 ∨ b = 13 ∨ b = 25 := kd_of (P := fun b => b = 1 ∨ b = 13 ∨ b = 25) (by decide) (by decide +kernel) h
theorem S2_become {u v : Nat} (hu : kd u = 2) (hv : kd v = 2) (hne : ¬ v = u) (σ : Sto) : ∃ σ', F_X2_become u v σ = some ((), σ') ∧ (∀ k, k < 7 → σ' u k = σ v k) ∧ ∀ a, ¬ a = u → σ' a = σ a := by
  refine ⟨up1 σ u (upd (upd (upd (upd (upd (upd (upd (σ u) 0 (σ v 0)) 1 (σ v 1)) 2 (σ v 2)) 3 (σ v 3)) 4 (σ v 4)) 5 (σ v 5)) 6 (σ v 6)), ?_, fun k hk => ?_, fun a ha => up1_n ha⟩
  · unfold F_X2_become
    rw [kdb u hu, kdb v hv, ck_t, ck_t]
    simp only [lts_e, up2_e, up1_t, up1_s, up1_n hne]
  · rw [up1_s]
    rcases (show k = 0 ∨ k = 1 ∨ k = 2 ∨ k = 3 ∨ k = 4 ∨ k = 5 ∨ k = 6 by omega) with rfl | rfl | rfl | rfl | rfl | rfl | rfl <;> rfl
theorem agr_of {m d s : Nat} (h8 : m ≤ 8) {σ σ' : Sto} (h0 : ∀ c, c < 7 → σ' d c = σ s c) (h1 : ∀ p, p < 10 → σ' (d + 11) p = σ (s + 11) p) (h2 : ∀ p, p < 6 → σ' (d + 10) p = σ (s + 10) p) (h3 : ∀ i k, i < m → k < 7 → σ' (d + 1 + 1 + i) k = σ (s + 1 + 1 + i) k) : agr m (V d σ') (V s σ) := by
  intro j hj
  rcases (show j = 0 ∨ j = 1 ∨ j = 2 ∨ j = 3 ∨ j = 4 ∨ j = 5 ∨ j = 6 ∨ (7 ≤ j ∧ j < 17) ∨ (17 ≤ j ∧ j < 23) ∨ 23 ≤ j by omega) with rfl | rfl | rfl | rfl | rfl | rfl | rfl | ⟨q1, q2⟩ | ⟨q1, q2⟩ | q1
  · exact h0 4 (by decide)
  · exact h0 6 (by decide)
  · exact h0 5 (by decide)
  · exact h0 0 (by decide)
  · exact h0 1 (by decide)
  · exact h0 2 (by decide)
  · exact h0 3 (by decide)
  · obtain ⟨p, rfl⟩ : ∃ p, j = 7 + p := ⟨j - 7, by omega⟩
    rw [← Vsp d σ' (by omega), ← Vsp s σ (by omega)]; exact h1 p (by omega)
  · obtain ⟨p, rfl⟩ : ∃ p, j = 17 + p := ⟨j - 17, by omega⟩
    rw [← Vq d σ' (by omega), ← Vq s σ (by omega)]; exact h2 p (by omega)
  · obtain ⟨i, k, hi8, hk7, rfl⟩ : ∃ i k, i < m ∧ k < 7 ∧ j = 23 + 7 * i + k := ⟨(j - 23) / 7, (j - 23) % 7, by omega, by omega, by omega⟩
    rw [← Vs d σ' (by omega) hk7, ← Vs s σ (by omega) hk7]; exact h3 i k hi8 hk7
theorem cpy_at {f g : Row} {n j : Nat} (h : j < n) : va_cpy f g 0 0 n j = f j := by
  unfold va_cpy
  rw [if_pos ⟨Nat.zero_le _, by omega⟩]
  show f (0 + (j - 0)) = f j
  rw [Nat.zero_add, Nat.sub_zero]
theorem C_become_end {d s : Nat} (hd : kd d = 0) (hs : kd s = 0) (hne : d + 12 ≤ s ∨ s + 12 ≤ d) (σ : Sto) : ∃ σ', F_X0_become_b93 d s σ = some ((), σ') ∧ (∀ p, p < 6 → σ' (d + 10) p = σ (s + 10) p) ∧ (∀ p, p < 10 → σ' (d + 11) p = σ (s + 11) p) ∧ ∀ a, ¬ a = d + 10 → ¬ a = d + 11 → σ' a = σ a := by
  have t0 : (0 : Int32).toNatClampNeg = 0 := by decide
  have t6 : (6 : Int32).toNatClampNeg = 6 := by decide
  have t10 : (10 : Int32).toNatClampNeg = 10 := by decide
  refine ⟨up1 (up1 σ (d + 10) (va_cpy (σ (s + 10)) (σ (d + 10)) 0 0 6)) (d + 11) (va_cpy (σ (s + 11)) (σ (d + 11)) 0 0 10), ?_, fun p hp => ?_, fun p hp => ?_, fun a h1 h2 => ?_⟩
  · unfold F_X0_become_b93
    rw [kdb d hd, kdb s hs, ck_t, ck_t, show cpok 0 0 6 6 6 = true by decide, ck_t, lts_e, show cpok 0 0 10 10 10 = true by decide, ck_t, lts_e, t0, t6, t10, up1_n (show ¬ s + 11 = d + 10 by omega), up1_n (show ¬ d + 11 = d + 10 by omega)]
  · rw [up1_n (by omega), up1_s]; exact cpy_at hp
  · rw [up1_s]; exact cpy_at hp
  · rw [up1_n h2, up1_n h1]
theorem C_become_loop {d s m : Nat} (hd : kd d = 0) (hs : kd s = 0) (hne : d + 12 ≤ s ∨ s + 12 ≤ d) (h8 : m ≤ 8) (σ0 : Sto) (hm : σ0 s 6 = nI m) : ∀ (q j n : Nat) (σ : Sto), j + q = m → q < n → (∀ c, c < 7 → σ d c = σ0 s c) → (∀ i k, i < j → k < 7 → σ (d + 1 + 1 + i) k = σ0 (s + 1 + 1 + i) k) → fr d σ0 σ →
    ∃ σ', lo3 F_X0_become_b58 n d s (nI j) σ = some ((), σ') ∧ agr m (V d σ') (V s σ0) ∧ fr d σ0 σ' := by
  have e0 : ∀ (j : Nat) (σ : Sto), j = m → (∀ c, c < 7 → σ d c = σ0 s c) → (∀ i k, i < j → k < 7 → σ (d + 1 + 1 + i) k = σ0 (s + 1 + 1 + i) k) → fr d σ0 σ → ∃ σ', F_X0_become_b93 d s σ = some ((), σ') ∧ agr m (V d σ') (V s σ0) ∧ fr d σ0 σ' := by
    intro j σ hj h0 h3 hf
    subst hj
    obtain ⟨σ', e, h1, h2, h4⟩ := C_become_end hd hs hne σ
    refine ⟨σ', e, agr_of h8 (fun c hc => ?_) (fun p hp => ?_) (fun p hp => ?_) (fun i k hi hk => ?_), fun a ha => ?_⟩
    · rw [h4 d (by omega) (by omega)]; exact h0 c hc
    · rw [h2 p hp, hf (s + 11) (by omega)]
    · rw [h1 p hp, hf (s + 10) (by omega)]
    · rw [h4 _ (by omega) (by omega)]; exact h3 i k hi hk
    · rw [h4 a (by omega) (by omega)]; exact hf a ha
  intro q
  induction q with
  | zero =>
    intro j n σ hj hn h0 h3 hf
    obtain ⟨n, rfl⟩ : ∃ k, n = k + 1 := ⟨n - 1, by omega⟩
    obtain ⟨σ', e, r⟩ := e0 j σ (by omega) h0 h3 hf
    refine ⟨σ', ?_, r⟩
    show F_X0_become_b58 (lo3 F_X0_become_b58 n) d s (nI j) σ = _
    rw [F_X0_become_b58, kdb d hd, ck_t, h0 6 (by decide), hm, e, if_pos (show nI m ≤ nI j by rw [show j = m by omega]; exact Int32.le_refl _), ite_self]
  | succ q ih =>
    intro j n σ hj hn h0 h3 hf
    obtain ⟨n, rfl⟩ : ∃ k, n = k + 1 := ⟨n - 1, by omega⟩
    have hj8 : j < 8 := by omega
    obtain ⟨σ1, e1, g1, g2⟩ := S2_become (kel hd hj8) (kel hs hj8) (by omega) σ
    obtain ⟨σ', e, r⟩ := ih (j + 1) n σ1 (by omega) (by omega) (fun c hc => by rw [g2 d (by omega)]; exact h0 c hc) (fun i k hi hk => by
      by_cases hij : i = j
      · subst hij; rw [g1 k hk, hf _ (by omega)]
      · rw [g2 _ (by omega)]; exact h3 i k (by omega) hk) (fun a ha => by rw [g2 a (by omega)]; exact hf a ha)
    refine ⟨σ', ?_, r⟩
    show F_X0_become_b58 (lo3 F_X0_become_b58 n) d s (nI j) σ = _
    rw [F_X0_become_b58, if_neg (show ¬ (8 : Int32) ≤ nI j from fun z => by have := (nI_leI (a := 8) (by decide) (by omega)).mp z; omega), kdb d hd, ck_t, h0 6 (by decide), hm, if_neg (fun z => by have := (nI_leI (by omega) (by omega)).mp z; omega), inr_nI hj8 (by decide), ck_t, kdb s hs, ck_t, ck_t, nI_clamp (by omega), e1, bnd_s, nI_1]
    exact e
theorem C_become {d s m : Nat} (hd : kd d = 0) (hs : kd s = 0) (hne : d + 12 ≤ s ∨ s + 12 ≤ d) (h8 : m ≤ 8) (σ : Sto) (hm : V s σ 1 = nI m) : ∃ σ', F_X0_become d s σ = some ((), σ') ∧ agr m (V d σ') (V s σ) ∧ fr d σ σ' := by
  have hds : ¬ s = d := by omega
  have e0 : F_X0_become d s σ = lo3 F_X0_become_b58 1000 d s 0 (up1 σ d (upd (upd (upd (upd (upd (upd (upd (σ d) 0 (σ s 0)) 1 (σ s 1)) 2 (σ s 2)) 3 (σ s 3)) 4 (σ s 4)) 5 (σ s 5)) 6 (σ s 6))) := by
    rw [F_X0_become, kdb d hd, kdb s hs, ck_t, ck_t]
    simp only [lts_e, up2_e, up1_t, up1_s, up1_n hds]
  rw [e0]
  refine C_become_loop hd hs hne h8 σ hm m 0 1000 _ (by omega) (by omega) (fun c hc => ?_) (fun i k hi hk => absurd hi (by omega)) (fun a ha => up1_n (by omega))
  rw [up1_s]
  rcases (show c = 0 ∨ c = 1 ∨ c = 2 ∨ c = 3 ∨ c = 4 ∨ c = 5 ∨ c = 6 by omega) with rfl | rfl | rfl | rfl | rfl | rfl | rfl <;> rfl

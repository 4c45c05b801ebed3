/-! PURE: the calls: away (rows without some) -/
def emV (j m : Nat) (v : Int32) : Int32 := if isS m v = true then (if hbU j v.toNatClampNeg = true then -1 else v) else v
def emG (j m : Nat) : Nat → Nat → Row → Row
  | 0, _, a => a
  | d + 1, p, a => emG j m d (p + 1) (upd a (17 + p) (emV j m (a (17 + p))))
theorem emV_Q {j m : Nat} {v : Int32} (h : isQ m v = true) : isQ m (emV j m v) = true := by
  unfold emV
  by_cases c : isS m v = true
  · rw [if_pos c]
    by_cases d : hbU j v.toNatClampNeg = true
    · rw [if_pos d]; unfold isQ; rw [decide_eq_true rfl, Bool.true_or]
    · rw [if_neg d]; exact h
  · rw [if_neg c]; exact h
theorem isQ_q {T m p : Nat} {a : Row} (h : okR T m a) (hp : p < 6) : isQ m (a (17 + p)) = true := by
  rcases h.2.2.2.1 p hp with e | ⟨i, hi, e⟩
  · rw [e]; unfold isQ; rw [decide_eq_true rfl, Bool.true_or]
  · rw [e]; exact isQ_nI hi h.1
theorem emG_ok {T j m : Nat} : ∀ d p a, p + d ≤ 6 → okR T m a → okR T m (emG j m d p a) := by
  intro d
  induction d with
  | zero => intro p a _ h; exact h
  | succ d ih => intro p a hp h; rw [emG]; exact ih (p + 1) _ (by omega) (okR_q h (by omega) (emV_Q (isQ_q h (by omega))))
theorem emG_agr {j m : Nat} : ∀ d p (a b : Row), p + d ≤ 6 → agr m a b → agr m (emG j m d p a) (emG j m d p b) := by
  intro d
  induction d with
  | zero => intro p a b _ h; exact h
  | succ d ih => intro p a b hp h; rw [emG, emG]; exact ih (p + 1) _ _ (by omega) (agr_u h (by rw [h (17 + p) (by omega)]))
theorem C_em {b j m T : Nat} (hb : kd b = 0) : ∀ d p n (σ : Sto), p + d = 6 → d < n → okR T m (V b σ) → ∃ σ', fr b σ σ' ∧ V b σ' = emG j m d p (V b σ) ∧ lo3 F_X0_emptyPlacesOf_b2 n b (nI j) (nI p) σ = some ((), σ') := by
  intro d
  induction d with
  | zero =>
    intro p n σ hp hn hok
    obtain ⟨n, rfl⟩ : ∃ q, n = q + 1 := ⟨n - 1, by omega⟩
    refine ⟨σ, fr_r b σ, rfl, ?_⟩
    have e : p = 6 := by omega
    subst e
    rw [lo3_s, F_X0_emptyPlacesOf_b2, if_pos (by decide)]
  | succ d ih =>
    intro p n σ hp hn hok
    obtain ⟨n, rfl⟩ : ∃ q, n = q + 1 := ⟨n - 1, by omega⟩
    have hp6 : p < 6 := by omega
    have hd : lo3 F_X0_emptyPlacesOf_b2 (n + 1) b (nI j) (nI p) σ = if b2i (isS m (V b σ (17 + p))) = 0 then lo3 F_X0_emptyPlacesOf_b2 n b (nI j) (nI (p + 1)) σ else if (isr (nI j) (V b σ (17 + p))) &&& 1 = 1 then lo3 F_X0_emptyPlacesOf_b2 n b (nI j) (nI (p + 1)) (up2 σ (b + 10) p (-1)) else lo3 F_X0_emptyPlacesOf_b2 n b (nI j) (nI (p + 1)) σ := by
      rw [lo3_s, F_X0_emptyPlacesOf_b2, if_neg (show ¬ (6 : Int32) ≤ nI p from nI_lei (m := 6) hp6 (by decide)), kdb b hb, ck_t, inr_nI hp6 (by decide), ck_t, nI_clamp (by omega), Vq b σ hp6, C_isSitter hb hok.2.1 hok.1, bnd_s, ck_t, ck_t, lts_e, nI_1, Vq b σ hp6]
    rw [hd, emG]
    by_cases c : isS m (V b σ (17 + p)) = true
    · rw [if_t c]
      obtain ⟨s, hs, es⟩ := isS_of c
      have hh : hbU j (V b σ (17 + p)).toNatClampNeg = decide (isr (nI j) (V b σ (17 + p)) &&& 1 = 1) := by rw [es, nI_clamp (by have := hok.1; omega)]; rfl
      by_cases e : isr (nI j) (V b σ (17 + p)) &&& 1 = 1
      · have ev : emV j m (V b σ (17 + p)) = -1 := by unfold emV; rw [if_pos c, hh, if_pos (decide_eq_true e)]
        have vv : V b (up2 σ (b + 10) p (-1)) = upd (V b σ) (17 + p) (-1) := V_uq hp6
        obtain ⟨σ', f', v', e'⟩ := ih (p + 1) n (up2 σ (b + 10) p (-1)) (by omega) (by omega) (by rw [vv]; exact okR_q hok hp6 (by unfold isQ; rw [decide_eq_true rfl, Bool.true_or]))
        refine ⟨σ', fr_t (fr_u (by omega)) f', by rw [v', vv, ev], ?_⟩
        rw [if_pos e, e']
      · have ev : emV j m (V b σ (17 + p)) = V b σ (17 + p) := by unfold emV; rw [if_pos c, hh, if_neg (by rw [decide_eq_true_eq]; exact e)]
        obtain ⟨σ', f', v', e'⟩ := ih (p + 1) n σ (by omega) (by omega) hok
        refine ⟨σ', f', by rw [v', ev, upd_same rfl], ?_⟩
        rw [if_neg e, e']
    · have ev : emV j m (V b σ (17 + p)) = V b σ (17 + p) := by unfold emV; rw [if_neg c]
      obtain ⟨σ', f', v', e'⟩ := ih (p + 1) n σ (by omega) (by omega) hok
      refine ⟨σ', f', by rw [v', ev, upd_same rfl], ?_⟩
      rw [if_f (wi_f c), e']

-- PURE STAGE: the log; a month
section MONTH
variable {σ σ' : Mem} {g : Nat → Int32} {t P M C : Nat}
theorem t_log {v1 v2 v3 : Int32} (hC : σ t 19 = nI C) (hC2 : C < 1000000) : F_Town_addToLog σ t v1 v2 v3 = up (up (up (up (up σ (t + 16) (C % 60 * 4) (σ t 15)) (t + 16) (C % 60 * 4 + 1) v1) (t + 16) (C % 60 * 4 + 2) v2) (t + 16) (C % 60 * 4 + 3) v3) t 19 (nI (C + 1)) := by
  unfold F_Town_addToLog
  have e0 : (nI C - nI C / 60 * 60) * 4 = nI (C % 60 * 4) := by
    rw [show nI C - nI C / 60 * 60 = nI (C % 60) from pk_rem (d := 60) (by omega) (by decide) (by decide)]
    exact pk_mul _ 4
  rw [hC, e0]
  simp only [bind_T]
  rw [t_putG (by omega), nI_1, t_putG (by omega), show nI (C % 60 * 4) + 2 = nI (C % 60 * 4 + 2) from nI_add _ 2, t_putG (by omega), show nI (C % 60 * 4) + 3 = nI (C % 60 * 4 + 3) from nI_add _ 3, t_putG (by omega)]
  rw [up_d (by omega), up_d (by omega), up_d (by omega), up_d (by omega), hC, nI_1]
theorem m_shift {v1 v2 v3 : Int32} : ∃ σ1 x, whl (fun s => F_M_logs_5_b v1 v2 v3 s.1 s.2) FUEL (239, σ) = some (x, σ1) ∧ (∀ q j, q ≠ 334 ∨ j < 214 ∨ 450 ≤ j → σ1 q j = σ q j) ∧ ∀ i, i < 236 → σ1 334 (214 + i) = σ 334 (210 + i) := by
  obtain ⟨x, h1, h2⟩ := whl_inv (F := fun s => F_M_logs_5_b v1 v2 v3 s.1 s.2) (fun k s => k ≤ 236 ∧ ∃ σk, s = (nI (239 - k), σk) ∧ (∀ q j, (q ≠ 334 ∨ j < 450 - k ∨ 450 ≤ j) → σk q j = σ q j) ∧ ∀ j, 450 - k ≤ j → j < 450 → σk 334 j = σ 334 (j - 4))
    (fun x => (∀ q j, q ≠ 334 ∨ j < 214 ∨ 450 ≤ j → x.2 q j = σ q j) ∧ ∀ i, i < 236 → x.2 334 (214 + i) = σ 334 (210 + i))
    (fun k s hI => by
      obtain ⟨hk, σk, rfl, h3, h4⟩ := hI
      dsimp only
      unfold F_M_logs_5_b
      by_cases hk2 : k < 236
      · refine Or.inr ?_
        rw [if_neg (show ¬ nI (239 - k) < 4 from nI_nlt (b := 4) (by omega) (by omega))]
        have i2 : (210 : Int32) + nI (239 - k) - 4 = nI (445 - k) := by
          rw [show (210 : Int32) + nI (239 - k) = nI (210 + (239 - k)) from nI_add 210 _, show nI (210 + (239 - k)) - 4 = nI (210 + (239 - k) - 4) from pk_sub (b := 4) (by omega), show 210 + (239 - k) - 4 = 445 - k by omega]
        have i4 : (210 : Int32) + nI (239 - k) = nI (449 - k) := by
          rw [show (210 : Int32) + nI (239 - k) = nI (210 + (239 - k)) from nI_add 210 _, show 210 + (239 - k) = 449 - k by omega]
        have i5 : nI (239 - k) + (-1) = nI (239 - (k + 1)) := by
          rw [show 239 - k = (239 - (k + 1)) + 1 by omega]
          exact pk_m1 _
        simp only [bind_T]
        rw [i2, i4, i5, p_inb (by omega) (by decide), p_inb (by omega) (by decide), chk_t, chk_t, p_cl (by omega), p_cl (by omega)]
        refine ⟨_, rfl, by omega, _, rfl, ?_, ?_⟩
        · intro q j hq
          rw [up_d (by omega)]
          exact h3 q j (by omega)
        · intro j hj1 hj2
          by_cases e : j = 449 - k
          · subst e
            rw [up_s, h3 334 _ (by omega)]
            rw [show 449 - k - 4 = 445 - k by omega]
          · rw [up_d (by omega)]
            exact h4 j (by omega) hj2
      · obtain rfl : k = 236 := by omega
        refine Or.inl ?_
        rw [if_pos (show nI (239 - 236) < 4 by decide)]
        exact ⟨_, rfl, fun q j hq => h3 q j (by omega), fun i hi => (h4 (214 + i) (by omega) (by omega)).trans (by rw [show 214 + i - 4 = 210 + i by omega])⟩) 236 (fun s h => by have := h.1; omega) 0 236 FUEL (239, σ) rfl (by unfold FUEL; omega) ⟨by omega, σ, rfl, fun q j _ => rfl, fun j h1 h2 => by omega⟩
  exact ⟨x.2, x.1, h1, h2⟩
theorem TR.logs (h : TR (tv σ t) (σ' 334) g P M C) (hC : C + 1 < 1000000) {k s : Nat} {X : Int32} : ∃ σ1', F_M_logs σ' (nI k) (nI s) X = some σ1' ∧ TR (tv (F_Town_addToLog σ t (nI k) (nI s) X) t) (σ1' 334) g P M (C + 1) := by
  have hT : σ t 19 = nI C := h.c2.2.2
  obtain ⟨σ1, x, e1, e2, e3⟩ := m_shift (σ := σ') (v1 := nI k) (v2 := nI s) (v3 := X)
  rw [t_log hT (by omega)]
  unfold F_M_logs
  rw [e1, ob_s]
  simp only [bind_T]
  refine ⟨_, rfl, ?_⟩
  have f8 : σ1 334 8 = σ t 15 := (e2 334 8 (by omega)).trans h.c4.2.2.2.2.1
  have f10 : σ1 334 10 = nI C := (e2 334 10 (by omega)).trans h.c3.2.2.1
  have f11 : σ1 334 11 = nI (min 60 C) := (e2 334 11 (by omega)).trans h.c3.2.2.2
  have eL : F_M_lesser z0 60 (nI (min 60 C) + 1) = nI (min 60 (C + 1)) := by
    unfold F_M_lesser
    rw [nI_1]
    have := nI_min (a := 60) (n := min 60 C + 1) (by omega) (by omega)
    rw [show min 60 (C + 1) = min 60 (min 60 C + 1) by omega, ← this]
    rfl
  have eL2 : ∀ (m : Mem) (a b : Int32), F_M_lesser m a b = F_M_lesser z0 a b := fun _ _ _ => rfl
  simp (disch := omega) only [up_d]
  rw [f8, f10, f11, eL2, eL, nI_1]
  refine h.log (g2 := g) (x := fun c => if c = 0 then σ t 15 else if c = 1 then nI k else if c = 2 then nI s else X) hC ?_ ?_ ?_ ?_ ?_ ?_ ?_ ?_ ?_
  · intro r j hr
    show up _ t 19 _ (t + r) j = σ (t + r) j
    rw [up_d (by omega), up_d (by omega), up_d (by omega), up_d (by omega), up_d (by omega)]
  · show up _ t 19 _ (t + 0) 19 = _
    rw [show t + 0 = t from rfl, up_s]
  · intro c hc
    constructor
    · show up _ t 19 _ (t + 16) (4 * (C % 60) + c) = _
      rw [up_d (by omega), show 4 * (C % 60) = C % 60 * 4 by omega]
      by_cases c3 : c = 3
      · subst c3; rw [up_s]; rfl
      · rw [up_d (by omega)]
        by_cases c2 : c = 2
        · subst c2; rw [up_s]; rfl
        · rw [up_d (by omega)]
          by_cases c1 : c = 1
          · subst c1; rw [up_s]; rfl
          · obtain rfl : c = 0 := by omega
            rw [up_d (by omega), show C % 60 * 4 + 0 = C % 60 * 4 from rfl, up_s]; rfl
    · rw [up_d (by omega), up_d (by omega)]
      by_cases c3 : c = 3
      · subst c3; rw [up_s]; rfl
      · rw [up_d (by omega)]
        by_cases c2 : c = 2
        · subst c2; rw [up_s]; rfl
        · rw [up_d (by omega)]
          by_cases c1 : c = 1
          · subst c1; rw [up_s]; rfl
          · obtain rfl : c = 0 := by omega
            rw [up_d (by omega), show 210 + 0 = 210 from rfl, up_s]; rfl
  · intro i c hi hc hne
    show up _ t 19 _ (t + 16) (4 * i + c) = σ (t + 16) (4 * i + c)
    rw [up_d (by omega), up_d (by omega), up_d (by omega), up_d (by omega), up_d (by omega)]
  · intro j h1 h2 h3
    rw [up_d (by omega), up_d (by omega), up_d (by omega), up_d (by omega), up_d (by omega), up_d (by omega)]
    exact e2 334 j (by omega)
  · rw [up_s]
  · rw [up_d (by omega), up_s]
  · intro i hi
    rw [up_d (by omega), up_d (by omega), up_d (by omega), up_d (by omega), up_d (by omega), up_d (by omega)]
    exact e3 i hi
  · intro j hj
    rw [up_d (by omega), up_d (by omega), up_d (by omega), up_d (by omega), up_d (by omega), up_d (by omega), e2 334 j (by omega)]
    exact h.c16 j hj
theorem TR.endIf (h : TR (tv σ t) (σ' 334) g P M C) {k : Nat} (hk : k < M) : ∃ σ1 σ1', (if F_Row_at σ (t + 11) 20 (nI k) = 0 then bindT (F_Town_endMatch σ t (nI k)) fun z => some z else some σ) = some σ1 ∧
    (obind (F_M_ofMatch σ' (nI k) 2) fun z15 => (if z15 = 0 then obind (F_M_told σ' (nI k) 4 1) fun z18 => bindT (nI k + 1) fun x19 => some (.inl (x19, z18)) else bindT (nI k + 1) fun x17 => some (.inl (x17, σ')))) = (some (.inl (nI (k + 1), σ1')) : Option ((Int32 × Mem) ⊕ (Int32 × Mem))) ∧ TR (tv σ1 t) (σ1' 334) g P M C ∧ ∀ q, q ≠ 334 → σ1' q = σ' q := by
  have hM := h.c1.2.1
  have g3 := (h.c12 k hk).2.2.1
  rw [t_happy (by omega), m_mat2 (by omega), ob_s, g3]
  simp only [bind_T]
  rw [nI_1]
  by_cases c : σ (t + 12) k = 0
  · rw [if_pos c, if_pos (show tv σ t 12 k = 0 from c), m_told4 (by omega), ob_s]
    refine ⟨_, _, rfl, rfl, ?_, fun q hq => up_r hq⟩
    unfold F_Town_endMatch
    rw [bind_T, tv_up0, mv_up]
    exact h.over hk
  · rw [if_neg c, if_neg (show ¬ tv σ t 12 k = 0 from c)]
    exact ⟨_, _, rfl, rfl, h, fun _ _ => rfl⟩
def Dj (t w K : Nat) : Prop := (w + 7 < t ∨ t + 16 < w) ∧ (K < t ∨ t + 16 < K) ∧ (K < w ∨ w + 7 < K)
theorem TR.bar_ (h : TR (tv σ t) (σ' 334) g P M C) : σ' 334 5 = σ t 12 := h.c4.2.1
/-- one match in a month -/
theorem TR.goMatch (h : TR (tv σ t) (σ' 334) g P M C) {Λ : FN} {w k K : Nat} {v1 v2 v3 : Int32} (hL : CLs σ w Λ) (hm : MLs g Λ) (hk : k < M) (hD : Dj t w K) (hC : C + 1 < 1000000) :
    ∃ σ1 σ1' C2, (C ≤ C2 ∧ C2 ≤ C + 1) ∧ F_Town_passMonth_35_b t w K (nI k) σ = some (.inl (nI (k + 1), σ1)) ∧ F_M_goes_31_b v1 v2 v3 (nI k) σ' = some (.inl (nI (k + 1), σ1')) ∧ TR (tv σ1 t) (σ1' 334) g P M C2 ∧ σ1' 333 12 = σ' 333 12 := by
  have hM := h.c1.2.1
  have t10 : σ t 10 = nI M := h.c2.2.1
  have m4 : σ' 334 4 = nI M := h.c3.2.1
  have g5 := (h.c12 k hk).2.2.2.2
  unfold F_Town_passMonth_35_b F_M_goes_31_b
  rw [t10, m4, if_pos (nI_lt hk (by omega)), if_pos (nI_lt hk (by omega)), p_over (by omega), m_mat4 (by omega), ob_s, g5]
  rw [if10, if11]
  by_cases hov : bt (tv σ t 0 11) k = true
  · rw [if_pos (show bt (σ t 11) k = true from hov), if_pos hov, bind_T, bind_T, nI_1]
    exact ⟨_, _, C, by omega, rfl, rfl, h, rfl⟩
  · rw [if_neg (show ¬ bt (σ t 11) k = true from hov), if_neg hov]
    obtain ⟨σ1, σ1', p1, p2, h1⟩ := h.premiums hk
    have L1 : CLs σ1 w Λ := hL.to fun r hr j => fr_F_Town_payPremiums σ t (nI k) (by have := hD.1; omega) rfl _ p1
    have k1 : σ1' 333 12 = σ' 333 12 := fr_F_M_premiums σ' (nI k) (by omega) rfl _ p2
    have q9 : σ1' 334 9 = σ1 t 16 := h1.c4.2.2.2.2.2.1
    obtain ⟨σ2, σ2', n, hn, f1, f2, h2, k2⟩ := h1.turned L1 hm hk (σ1 t 16) hD.2.1 hD.2.2 hD.1
    have e14 : σ2' 334 (113 + 5 * k) = σ2 (t + 14) k := (h2.c12 k hk).2.2.2.1
    have h3 : TR (tv (up σ2 (t + 12) k (nI n)) t) ((up σ2' 334 (112 + 5 * k) (nI n)) 334) g P M C := by rw [tv_up, mv_up]; exact h2.happy hk hn
    have h4 : TR (tv (up (up σ2 (t + 12) k (nI n)) (t + 14) k (σ2 (t + 14) k + 1)) t) ((up (up σ2' 334 (112 + 5 * k) (nI n)) 334 (113 + 5 * k) (σ2 (t + 14) k + 1)) 334) g P M C := by rw [tv_up, mv_up]; exact h3.mon hk
    unfold F_Town_passMatch
    rw [p1, ob_s, bind_T, f1, ob_s, p2, ob_s, q9, f2, ob_s]
    dsimp only
    rw [t_putH (by omega), bind_T, t_mon (by omega), up_d (by omega), t_putM (by omega), bind_T]
    rw [m_told2 (by omega), ob_s, m_mat3 (by omega), ob_s, show up σ2' 334 (112 + 5 * k) (nI n) 334 (113 + 5 * k) = σ2 (t + 14) k from (up_d (by omega)).trans e14, m_told3 (by omega), ob_s]
    have kk : ∀ a b c d, up (up σ2' 334 a b) 334 c d 333 12 = σ' 333 12 := fun a b c d => by rw [up_d (by omega), up_d (by omega), k2, k1]
    generalize up (up σ2 (t + 12) k (nI n)) (t + 14) k (σ2 (t + 14) k + 1) = σ4 at h4 ⊢
    have kk4 := kk (112 + 5 * k) (nI n) (113 + 5 * k) (σ2 (t + 14) k + 1)
    generalize up (up σ2' 334 (112 + 5 * k) (nI n)) 334 (113 + 5 * k) (σ2 (t + 14) k + 1) = σ4' at h4 kk4 ⊢
    have g3 : σ4' 334 (112 + 5 * k) = σ4 (t + 12) k := (h4.c12 k hk).2.2.1
    have eb := h4.bar_
    have ei := h4.endIf hk
    rw [t_happy (by omega)] at ei ⊢
    rw [m_mat2 (by omega), ob_s, g3] at ei ⊢
    rw [eb]
    by_cases c : σ4 (t + 12) k < σ4 t 12
    · rw [if_pos c, if_pos c]
      obtain ⟨j1, j2⟩ := q_insK h4 hk
      obtain ⟨σ5, σ5', s, hs, a1, a2, h5⟩ := h4.claim hk
      obtain ⟨σ6', b1, h6⟩ := h5.logs (by omega) (k := k) (s := s) (X := insK (tv σ4 t) P k)
      obtain ⟨σ7, σ7', d1, d2, h7, d4⟩ := h6.endIf hk
      rw [j1, j2, bind_T, a1, ob_s, ob_s, a2, ob_s]
      dsimp only
      rw [b1, ob_s, bind_T]
      refine ⟨σ7, σ7', C + 1, by omega, ?_, d2, h7, ?_⟩
      · rw [d1, ob_s, bind_T, nI_1]
      · rw [d4 333 (by omega)]
        have u1 : kM 333 12 (σ' 333 12) σ4' := kk4
        have u2 := fr_F_M_claims σ4' (nI k) (by omega) u1 _ a2
        exact fr_F_M_logs _ _ _ _ (by omega) u2.1 _ b1
    · rw [if_neg c, if_neg c]
      obtain ⟨σ7, σ7', d1, d2, h7, d4⟩ := ei
      refine ⟨σ7, σ7', C, by omega, ?_, ?_, h7, ?_⟩
      · rw [d1, ob_s, bind_T, nI_1]
      · exact d2
      · rw [d4 333 (by omega)]
        exact kk4
end MONTH

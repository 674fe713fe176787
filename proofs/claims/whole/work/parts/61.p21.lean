-- PURE STAGE: match, odds
section MAT
variable {σ σ' : Mem} {g : Nat → Int32} {P M C i : Nat}
def wm (T : Nat → Nat → Int32) (k j : Nat) : Int32 := if j = 0 then T 10 (2 * k) else if j = 1 then T 10 (2 * k + 1) else if j = 2 then T 12 k else if j = 3 then T 14 k else if bt (T 0 11) k = true then 1 else 0
theorem m_wm {t : Nat} (h : TR (tv σ t) (σ' 334) g P M C) {k j : Nat} (hk : k < M) (hj : j < 5) : F_M_ofMatch σ' (nI k) (nI j) = some (wm (tv σ t) k j) := by
  have hM := h.c1.2.1
  obtain ⟨g1, g2, g3, g4, g5⟩ := h.c12 k hk
  rw [m_mat (by omega)]
  unfold wm
  exact match j, hj with
  | 0, _ => congrArg some g1
  | 1, _ => congrArg some ((congrArg (σ' 334) (show 110 + 5 * k + 1 = 111 + 5 * k by omega)).trans g2)
  | 2, _ => congrArg some ((congrArg (σ' 334) (show 110 + 5 * k + 2 = 112 + 5 * k by omega)).trans g3)
  | 3, _ => congrArg some ((congrArg (σ' 334) (show 110 + 5 * k + 3 = 113 + 5 * k by omega)).trans g4)
  | 4, _ => congrArg some ((congrArg (σ' 334) (show 110 + 5 * k + 4 = 114 + 5 * k by omega)).trans g5)
  | j + 5, h9 => absurd h9 (by omega)
theorem c_wm (h : TR (tv σ 3) (σ' 334) g P M C) {k j : Nat} (hk : k < M) (hj : j < 5) : F_W_match σ (nI k) (nI j) = some (.inr (σ, wm (tv σ 3) k j)) := by
  have hM := h.c1.2.1
  unfold F_W_match wm
  rw [cm_ok h hk]
  exact match j, hj with
  | 0, _ => by
    show some (Sum.inr (σ, F_Town_firstOf σ 3 (nI k))) = _
    rw [t_first (by omega)]; rfl
  | 1, _ => by
    show some (Sum.inr (σ, F_Town_secondOf σ 3 (nI k))) = _
    rw [t_second (by omega)]; rfl
  | 2, _ => by
    show some (Sum.inr (σ, F_Row_at σ (3 + 11) 20 (nI k))) = _
    rw [t_happy (by omega)]; rfl
  | 3, _ => by
    show some (Sum.inr (σ, F_Row_at σ (3 + 13) 20 (nI k))) = _
    rw [t_mon (by omega)]; rfl
  | 4, _ => by
    show (if F_Town_isOver σ 3 (nI k) = 0 then some (Sum.inr (σ, (0 : Int32))) else some (Sum.inr (σ, 1))) = _
    rw [p_over (by omega), if10]
    show _ = some (Sum.inr (σ, if bt (σ 3 11) k = true then 1 else 0))
    cases bt (σ 3 11) k <;> rfl
  | j + 5, h9 => absurd h9 (by omega)
theorem c_m5 (h : TR (tv σ 3) (σ' 334) g P M C) {k : Nat} (hk : k < M) : F_W_match σ (nI k) (nI 5) = some (.inr (σ, F_Town_insurersOf σ 3 (nI k))) := by
  unfold F_W_match
  rw [cm_ok h hk]
  rw [sumE_r, if_neg (show ¬ nI 5 = (0 : Int32) by decide), if_neg (show ¬ nI 5 = (1 : Int32) by decide), if_neg (show ¬ nI 5 = (2 : Int32) by decide), if_neg (show ¬ nI 5 = (3 : Int32) by decide), if_neg (show ¬ nI 5 = (4 : Int32) by decide), if_pos (show nI 5 = (5 : Int32) by decide)]
theorem c_m6 (h : TR (tv σ 3) (σ' 334) g P M C) {k : Nat} (hk : k < M) : F_W_match σ (nI k) (nI 6) = obind (F_For_turnsNow σ 3 20 (nI k)) fun z12 => some (.inr (z12.1, z12.2)) := by
  unfold F_W_match
  rw [cm_ok h hk]
  rw [sumE_r, if_neg (show ¬ nI 6 = (0 : Int32) by decide), if_neg (show ¬ nI 6 = (1 : Int32) by decide), if_neg (show ¬ nI 6 = (2 : Int32) by decide), if_neg (show ¬ nI 6 = (3 : Int32) by decide), if_neg (show ¬ nI 6 = (4 : Int32) by decide), if_neg (show ¬ nI 6 = (5 : Int32) by decide), if_pos (show nI 6 = (6 : Int32) by decide)]
theorem h_m {A : Mem × Int32} {s : Mem} {a1 a2 : Int32} (e : F_W_match s a1 a2 = some (.inr A)) : H_match s a1 a2 = some (up A.1 346 0 A.2, 0) := by
  unfold H_match
  rw [e]
  rfl
theorem rs7 (h : INVg i g P M C σ σ) (a1 a2 : Int32) : RS i σ g P M C (H_match σ a1 a2) (fun σ' => F_M_match σ' a1 a2) := by
  have hM := h.1.c1.2.1
  obtain ⟨Λ, l1, l2, -⟩ := h.2.2.1
  rcases pcase M a1 with ⟨k, hk, rfl⟩ | h1
  · rcases pcase 7 a2 with ⟨j, hj, rfl⟩ | h2
    · have mid : ∀ σ' v, INVg i g P M C σ σ' → (F_M_ofMatch (up σ' 333 0 0) (nI k) (nI j) = some v ∧ j < 5 ∨ F_M_insurers (up σ' 333 0 0) (nI k) = some v ∧ j = 5) → F_M_match σ' (nI k) (nI j) = some (up σ' 333 0 0, v) := by
        intro σ' v h' hv
        unfold F_M_match
        rw [q_match h'.1 hk, ob_s, if_neg (show ¬ (1 : Int32) = 0 by decide), isIn7 hj, if_neg (show ¬ (1 : Int32) = 0 by decide), bind_T, up_s, if_neg nlt00]
        rcases hv with ⟨hv, h5⟩ | ⟨hv, rfl⟩
        · rw [if_pos (show nI j < 5 from nI_lt (b := 5) h5 (by omega)), hv, ob_s]
        · rw [if_neg (show ¬ nI 5 < 5 by decide), if_pos (show nI 5 = 5 by decide), hv, ob_s]
      by_cases c5 : j < 5
      · refine Or.inr ⟨σ, wm (tv σ 3) k j, ?_, fun _ _ _ => rfl, fun σ' h' => ⟨up σ' 333 0 0, mid σ' _ h' (Or.inl ⟨m_wm (h'.th (c := 0)).1 hk c5, c5⟩), fun q j hq => up_d (by unfold RelM at hq; omega), up_s⟩⟩
        exact h_m (c_wm h.1 hk c5)
      · by_cases c6 : j = 5
        · subst c6
          refine Or.inr ⟨σ, F_Town_insurersOf σ 3 (nI k), ?_, fun _ _ _ => rfl, fun σ' h' => ⟨up σ' 333 0 0, mid σ' _ h' (Or.inr ⟨?_, rfl⟩), fun q j hq => up_d (by unfold RelM at hq; omega), up_s⟩⟩
          · exact h_m (c_m5 h.1 hk)
          · have h2 := (h'.th (c := 0)).1
            rw [(q_insK h2 hk).1]
            exact (q_insK h2 hk).2
        · obtain rfl : j = 6 := by omega
          have L0 : CLs (F_Town_lookAt σ 3 (nI k) (σ 3 16) 112) 20 Λ := l1.to fun r hr j => fr_F_Town_lookAt σ 3 (nI k) (σ 3 16) 112 (by omega) rfl
          obtain ⟨m1, e1, e2⟩ := lk_turns L0 (look_LKF h.1 hk (σ 3 16) (by omega))
          refine Or.inr ⟨m1, LAM Λ (tv σ 3) P k (σ 3 16), ?_, fun q j hq => ?_, fun σ' h' => ?_⟩
          · refine h_m (A := (m1, LAM Λ (tv σ 3) P k (σ 3 16))) ?_
            rw [c_m6 h.1 hk]
            unfold F_For_turnsNow
            rw [bind_T, e1, ob_s, ob_s]
          · rw [e2 q j (by unfold RelC at hq; omega)]
            exact fr_F_Town_lookAt σ 3 (nI k) (σ 3 16) 112 (by unfold RelC at hq; omega) rfl
          · have h2 := (h'.th (c := 0)).1
            obtain ⟨σ1', f1, f2, f3⟩ := m_turns h2 l2 hk (σ 3 16)
            have q9 : (up σ' 333 0 0) 334 9 = σ 3 16 := h2.c4.2.2.2.2.2.1
            refine ⟨σ1', ?_, fun q j hq => ?_, ?_⟩
            · dsimp only
              unfold F_M_match
              rw [q_match h'.1 hk, ob_s, if_neg (show ¬ (1 : Int32) = 0 by decide), isIn7 hj, if_neg (show ¬ (1 : Int32) = 0 by decide), bind_T, up_s, if_neg nlt00, if_neg (show ¬ nI 6 < 5 by decide), if_neg (show ¬ nI 6 = 5 by decide), q9, f1, ob_s]
            · by_cases c : q = 334
              · rw [c, f2, up_d (by omega)]
              · by_cases c2 : q = 333 ∧ j = 12
                · obtain ⟨rfl, rfl⟩ := c2
                  rw [f3, up_d (by omega)]
                · have := (fr_F_M_turnsBy (up σ' 333 0 0) (nI k) (σ 3 16) (q := q) (j := j) (by omega) (by unfold RelM at hq; omega) (by unfold RelM at hq; omega) (by unfold RelM at hq; omega) (by unfold RelM at hq; omega) (by unfold RelM at hq; omega) (by unfold RelM at hq; omega) (by unfold RelM at hq; omega) (by unfold RelM at hq; omega) rfl _ f1).1
                  exact Eq.trans this (up_d (by unfold RelM at hq; omega))
            · exact Eq.trans (fr_F_M_turnsBy (up σ' 333 0 0) (nI k) (σ 3 16) (q := 333) (j := 0) (by omega) (by omega) (by omega) (by omega) (by omega) (by omega) (by omega) (by omega) (by omega) rfl _ f1).1 up_s
    · refine Or.inl ⟨2, by decide, ?_, fun σ' h' => ?_⟩
      · unfold H_match F_W_match
        rw [cm_ok h.1 hk]
        show obind (if a2 = 0 then _ else _) _ = _
        rw [if_neg (show ¬ a2 = 0 from h2 0 (by decide)), if_neg (show ¬ a2 = 1 from h2 1 (by decide)), if_neg (show ¬ a2 = 2 from h2 2 (by decide)), if_neg (show ¬ a2 = 3 from h2 3 (by decide)), if_neg (show ¬ a2 = 4 from h2 4 (by decide)), if_neg (show ¬ a2 = 5 from h2 5 (by decide)), if_neg (show ¬ a2 = 6 from h2 6 (by decide))]
        rfl
      · dsimp only
        unfold F_M_match
        rw [q_match h' hk, ob_s, if_neg (show ¬ (1 : Int32) = 0 by decide), isIn7n h2, if_pos (rfl : (0 : Int32) = 0), bind_T, up_s, if_pos lt02]
        exact ⟨_, rfl⟩
  · refine Or.inl ⟨1, by decide, ?_, fun σ' h' => ?_⟩
    · unfold H_match F_W_match
      rw [cm_no h.1 h1]; rfl
    · dsimp only
      unfold F_M_match
      rw [q_nomatch h' h1, ob_s, if_pos rfl, bind_T, up_s, if_pos lt01]
      exact ⟨_, rfl⟩
theorem op7 (h : INV i σ) (a1 a2 a3 a4 a5 : Int32) : ∃ σ', S_7 σ a1 a2 a3 a4 a5 = some σ' ∧ INV (i + 1) σ' := by
  obtain ⟨g, P, M, C, h⟩ := h
  exact rs_ok (B := fun σ' => F_M_match σ' a1 a2) h (rs7 h a1 a2)
end MAT

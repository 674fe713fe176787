-- PURE STAGE: loses
section LO
variable {σ σ' : Mem} {g : Nat → Int32} {P M C i : Nat}
theorem gr_eq (m : Mem) (d : Int32) : F_M_greater m 0 d = if 0 < d then d else 0 := by
  unfold F_M_greater
  by_cases c : 0 < d
  · rw [if_pos c, if_neg (fun h => Int32.lt_irrefl (Int32.lt_trans h c))]
  · rw [if_neg c]
    by_cases c2 : d < 0
    · rw [if_pos c2]
    · rw [if_neg c2]
      rw [Int32.lt_iff_toInt_lt] at c c2
      apply Int32.toInt_inj.mp
      rw [Int32.toInt_zero] at *
      omega
theorem rs22 (h : INVg i g P M C σ σ) (a1 : Int32) : RS i σ g P M C (H_loses σ a1) (fun σ' => F_M_loses σ' a1) := by
  have hP := h.1.c1.1
  rcases pcase P a1 with ⟨p, hp, rfl⟩ | h1
  · have hT := h.1
    have cc : TR (tv (F_Town_copyAll σ 95 3) 95) (σ 334) g P M C := hT.copy (by omega)
    obtain ⟨c3, -, -, -, e1, -, -, -, t3, -⟩ := m_falls hT cc
    have fc : ∀ q j, (q < 95 ∨ 111 < q) → c3 q j = σ q j := fun q j hq => (fr_F_For_claimAll (F_Town_copyAll σ 95 3) (by omega) rfl _ e1).trans (copy_fr (by omega))
    refine Or.inr ⟨c3, (if 0 < σ (3 + 2) p - c3 (95 + 2) p then σ (3 + 2) p - c3 (95 + 2) p else 0), ?_, fun q j hq => fc q j (by unfold RelC at hq; omega), fun σ' h' => ?_⟩
    · unfold H_loses F_W_loses
      rw [cp_ok hT hp, sumE_r]
      unfold F_For_lossOf
      rw [bind_T, e1, ob_s, ob_s, ob_s, sumE_r]
      dsimp only
      rw [t_wealth (by omega), t_wealth (by omega), fc (3 + 2) p (by omega), bind_T]
    · have h2 := (h'.th (c := 0)).1
      have cc2 : TR (tv (F_Town_copyAll σ 95 3) 95) ((up σ' 333 0 0) 334) g P M C := h2.copy (by omega)
      obtain ⟨c4, s1, s2, s3, f1, f2, f3, f4, f5, f6, f7, f8⟩ := m_falls h2 cc2
      rw [e1] at f1
      cases f1
      have w1 : s2 334 (14 + 4 * p) = c3 (95 + 2) p := (f5.c6 p hp).1
      have w2 : s2 336 (14 + 4 * p) = σ (3 + 2) p := (f6 _ (by omega)).trans (h2.c6 p hp).1
      refine ⟨s3, ?_, fun q j hq => ?_, ?_⟩
      · dsimp only
        unfold F_M_loses
        rw [(q_pers h'.1 hp).2, ob_s, if_neg (show ¬ (1 : Int32) = 0 by decide), bind_T, up_s, if_neg nlt00, f2, ob_s, f3, ob_s]
        dsimp only
        rw [show (14 : Int32) + 4 * nI p + 0 = nI (14 + 4 * p + 0) from ix_p (w := 0), bind_T, p_inb (by omega) (by decide), chk_t, p_cl (by omega), m_of0 (by omega), ob_s, w1, show 14 + 4 * p + 0 = 14 + 4 * p from rfl, w2, bind_T, gr_eq, f4, ob_s]
      · by_cases c : q = 334
        · subst c
          unfold RelM at hq
          rw [f8 j (by omega), up_d (by omega)]
        · unfold RelM at hq
          rw [f7 q j c (by omega), up_d (by omega)]
      · rw [f7 333 0 (by omega) (by omega), up_s]
  · refine Or.inl ⟨1, by decide, ?_, fun σ' h' => ?_⟩
    · unfold H_loses F_W_loses
      rw [cp_no h.1 h1]; rfl
    · dsimp only
      unfold F_M_loses
      rw [(q_nopers h' h1).2, ob_s, if_pos rfl, bind_T, up_s, if_pos lt01]
      exact ⟨_, rfl⟩
theorem op22 (h : INV i σ) (a1 a2 a3 a4 a5 : Int32) : ∃ σ', S_22 σ a1 a2 a3 a4 a5 = some σ' ∧ INV (i + 1) σ' := by
  obtain ⟨g, P, M, C, h⟩ := h
  exact rs_ok (B := fun σ' => F_M_loses σ' a1) h (rs22 h a1)
end LO

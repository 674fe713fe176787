-- PURE STAGE: trial (2)
section TR2
variable {σ σ' : Mem} {g : Nat → Int32} {P M C i : Nat}
theorem cn_ok {n : Nat} (hn : n ≤ 40) : F_W_checkNumber σ (nI n) 0 40 = .inr () := by
  unfold F_W_checkNumber
  rw [if_neg (nI_pos (by omega)), if_neg (show ¬ 40 < nI n from nI_nlt (a := 40) (by omega) (by omega))]
theorem cn_no {v : Int32} (hv : ∀ k, k < 41 → v ≠ nI k) : F_W_checkNumber σ v 0 40 = .inl "java/lang/IllegalArgumentException" := by
  unfold F_W_checkNumber
  by_cases h0 : v < 0
  · rw [if_pos h0]
  · rw [if_neg h0, if_pos (show 40 < v from bad_num (n := 40) (by decide) hv h0)]
theorem rs35 (h : INVg i g P M C σ σ) (hi : i < 600) (a1 a2 : Int32) : RS i σ g P M C (H_trial σ a1 a2) (fun σ' => F_M_trial σ' a1 a2) := by
  have hC := h.2.1
  obtain ⟨Λ, l1, l2, -⟩ := h.2.2.1
  rcases pcase 41 a1 with ⟨n, hn, rfl⟩ | h1
  · have sdE : ∀ σ' s1 : Mem, TR (tv σ 3) (σ' 334) g P M C → (∀ j, s1 334 j = σ' 334 j) → s1 334 = upF (σ' 334) 12 (σ 3 17) := fun σ' s1 h' he => by
      funext j
      unfold upF
      by_cases e : j = 12
      · rw [if_pos e, he, e]
        exact h'.c4.2.2.2.2.2.2
      · rw [if_neg e, he]
    obtain ⟨s0, a1', a2', a3'⟩ := m_aside (σ := σ)
    obtain ⟨c3, -, -, C2, -, -, e1, -, -, t5, fc, -⟩ := m_trial h.1 l1 l2 (n := n) (by omega) (by omega) (σ 3 17) s0 (sdE σ s0 h.1 (fun j => a3' 334 j (by omega))) a2' (fun q j h1 h2 => a3' q j (by omega))
    refine Or.inr ⟨c3, (if a2 = 0 then nI C2 - nI C else c3 95 9), ?_, fun q j hq => fc q j (by unfold RelC at hq; omega) (by unfold RelC at hq; omega), fun σ' h' => ?_⟩
    · unfold H_trial F_W_trial
      rw [cn_ok (by omega), sumE_r, e1, ob_s]
      by_cases c : a2 = 0
      · rw [if_pos c, if_pos c]; rfl
      · rw [if_neg c, if_neg c]; rfl
    · have h2 := (h'.th (c := 0)).1
      obtain ⟨s1, b1, b2, b3⟩ := m_aside (σ := up σ' 333 0 0)
      obtain ⟨c4, s2, s3, C3, -, -, f1, f2, f3, f4, -, -, f6, f7⟩ := m_trial h2 l1 l2 (n := n) (by omega) (by omega) (σ 3 17) s1 (sdE _ s1 h2 (fun j => b3 334 j (by omega))) b2 (fun q j h1 h2 => b3 q j (by omega))
      have ee := Option.some.inj (e1.symm.trans f1)
      have e4 : c3 = c4 := congrArg Prod.fst ee
      have e5 : nI C2 - nI C = nI C3 - nI C := congrArg Prod.snd ee
      subst e4
      have ru : F_M_ruinedOnes s2 = some (c3 95 9) := q_ruined f4
      refine ⟨s3, ?_, fun q j hq => ?_, ?_⟩
      · dsimp only
        unfold F_M_trial
        rw [isIn3 (n := 41) 40 (by decide) (by decide) hn, if_neg (show ¬ (1 : Int32) = 0 by decide), bind_T, up_s, if_neg nlt00, b1, ob_s, f2, ob_s]
        dsimp only
        by_cases c : a2 = 0
        · rw [if_pos c, if_pos c, f3, ob_s, e5]
        · rw [if_neg c, if_neg c, ru, ob_s, f3, ob_s]
      · by_cases c : q = 334
        · subst c
          unfold RelM at hq
          rw [f7 j (by omega), up_d (by omega)]
        · unfold RelM at hq
          rw [f6 q j c (by omega) (by omega) (by omega), up_d (by omega)]
      · rw [f6 333 0 (by omega) (by omega) (by omega) (by omega), up_s]
  · refine Or.inl ⟨1, by decide, ?_, fun σ' h' => ?_⟩
    · unfold H_trial F_W_trial
      rw [cn_no h1]; rfl
    · dsimp only
      unfold F_M_trial
      rw [isIn3n (n := 41) 40 (by decide) (by decide) h1, if_pos (rfl : (0 : Int32) = 0), bind_T, up_s, if_pos lt01]
      exact ⟨_, rfl⟩
theorem op35 (h : INV i σ) (hi : i < 600) (a1 a2 a3 a4 a5 : Int32) : ∃ σ', S_35 σ a1 a2 a3 a4 a5 = some σ' ∧ INV (i + 1) σ' := by
  obtain ⟨g, P, M, C, h⟩ := h
  unfold S_35
  by_cases e : a2 = 0
  · simp only [if_pos e]
    exact rs_ok (B := fun σ' => F_M_trial σ' a1 0) h (rs35 h hi a1 0)
  · simp only [if_neg e]
    exact rs_ok (B := fun σ' => F_M_trial σ' a1 1) h (rs35 h hi a1 1)
end TR2

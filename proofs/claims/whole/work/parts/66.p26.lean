-- PURE STAGE: falls, loses
section FA
variable {σ σ' : Mem} {g : Nat → Int32} {P M C i : Nat}
/-- what the reference does aside, and takes back -/
theorem m_falls {c2 : Mem} (h : TR (tv σ 3) (σ' 334) g P M C) (hc : TR (tv c2 95) (σ' 334) g P M C) : ∃ c3 s1 s2 s3, F_For_claimAll c2 = some c3 ∧ F_M_putsAside σ' = some s1 ∧ F_M_fallsNow s1 = some (s2, (c3 95 9) &&& ((σ 3 9) ^^^ (-1))) ∧ F_M_comesBack s2 = some s3 ∧ TR (tv c3 95) (s2 334) g P M C ∧ (∀ j, j < 450 → s2 336 j = σ' 334 j) ∧ (∀ q j, q ≠ 334 → q ≠ 336 → s3 q j = σ' q j) ∧ ∀ j, j < 850 → s3 334 j = σ' 334 j := by
  obtain ⟨s1, a1, a2, a3⟩ := m_aside (σ := σ')
  have h1 : TR (tv c2 95) (s1 334) g P M C := hc.keepM (funext fun j => a3 334 j (by omega))
  obtain ⟨c3, x1, s2, e1, e2, e3⟩ := h1.claimAll
  have fr : ∀ q j, q ≠ 334 → s2 q j = s1 q j := fun q j hq => by
    have := k_whl (K := kP kT (kM q j (s1 q j))) (L := kP kT (kM q j (s1 q j))) (F := fun s => F_M_fallsNow_2_b s.1 s.2) (fun s hs => fr_F_M_fallsNow_2_b s.1 s.2 (by omega) hs.2) (n := FUEL) (s := ((0 : Int32), s1)) ⟨trivial, rfl⟩ _ e2
    exact this.2
  have e4 := q_fall e3 h (fun j hj => (fr 336 j (by omega)).trans (a2 j hj))
  obtain ⟨s3, b1, b2, b3⟩ := m_back (σ := s2)
  have hq : ∀ q j, q ≠ 334 → q ≠ 336 → s3 q j = σ' q j := fun q j h1 h2 => by rw [b3 q j (by omega), fr q j h1, a3 q j (by omega)]
  refine ⟨c3, s1, s2, s3, e1, a1, ?_, b1, e3, fun j hj => (fr 336 j (by omega)).trans (a2 j hj), hq, fun j hj => ?_⟩
  · unfold F_M_fallsNow
    rw [e2, ob_s, e4]
    rfl
  · by_cases c : j < 450
    · rw [b2 j c, fr 336 j (by omega), a2 j c]
    · rw [b3 334 j (by omega), e3.c16 j (by omega), h.c16 j (by omega)]
theorem op21 (h : INV i σ) (a1 a2 a3 a4 a5 : Int32) : ∃ σ', S_21 σ a1 a2 a3 a4 a5 = some σ' ∧ INV (i + 1) σ' := by
  have h0 := h
  obtain ⟨g, P, M, C, h⟩ := h
  have hT := h.1
  have cc : TR (tv (F_Town_copyAll σ 95 3) 95) (σ 334) g P M C := hT.copy (by omega)
  obtain ⟨c3, -, -, -, e1, -⟩ := m_falls hT cc
  have fc : ∀ q j, (q < 95 ∨ 111 < q) → c3 q j = σ q j := fun q j hq => (fr_F_For_claimAll (F_Town_copyAll σ 95 3) (by omega) rfl _ e1).trans (copy_fr (by omega))
  have hT2 : TR (tv σ 3) ((up c3 333 0 0) 334) g P M C := hT.keepM (funext fun j => by rw [up_d (by omega)]; exact fc 334 j (by omega))
  have cc2 : TR (tv (F_Town_copyAll σ 95 3) 95) ((up c3 333 0 0) 334) g P M C := cc.keepM (funext fun j => by rw [up_d (by omega)]; exact fc 334 j (by omega))
  obtain ⟨c4, s1, s2, s3, f1, f2, f3, f4, f5, f6, f7, f8⟩ := m_falls hT2 cc2
  rw [e1] at f1
  cases f1
  refine ⟨s3, ?_, h0.to fun q j hq => ?_⟩
  · unfold S_21 F_W_falls F_For_fallen F_M_falls
    rw [bind_T, e1, ob_s, ob_s, ob_s]
    dsimp only
    rw [bind_T, f2, ob_s, f3, ob_s]
    dsimp only
    rw [f4, ob_s, ob_s]
    exact if_pos (by rw [fc 3 9 (by omega)])
  · unfold RelC RelM at hq
    by_cases c : q = 334
    · subst c
      rw [f8 j (by omega), up_d (by omega), fc 334 j (by omega)]
    · rw [f7 q j c (by omega), up_d (by omega), fc q j (by omega)]
end FA

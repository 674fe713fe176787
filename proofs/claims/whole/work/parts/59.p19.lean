-- PURE STAGE: undo, image, back
section UN
variable {σ σ' : Mem} {g : Nat → Int32} {P M C i : Nat}
theorem op40 (h : INV i σ) (a1 a2 a3 a4 a5 : Int32) : ∃ σ', S_40 σ a1 a2 a3 a4 a5 = some σ' ∧ INV (i + 1) σ' := by
  obtain ⟨g, P, M, C, hT, hC, hL, hTp, hF, hI, o, A, ho, hA, b1, b2, b3, b4⟩ := h
  unfold S_40 F_W_undo F_M_undo
  rw [b2]
  by_cases c : A = 0
  · subst c
    rw [if_pos (show nI 0 = (0 : Int32) from nI_0), ob_s]
    dsimp only
    rw [bind_T, up_d (by omega), b3, if_pos (show nI 0 = (0 : Int32) from nI_0), ob_s]
    exact ⟨_, if_pos rfl, INV.to ⟨g, P, M, C, hT, hC, hL, hTp, hF, hI, o, 0, ho, hA, b1, b2, b3, b4⟩ fun q j hq => up_d (by unfold RelC RelM at hq; omega)⟩
  · rw [if_neg (nI_ne0 (by omega) (by omega)), show nI A - 1 = nI (A - 1) from pk_sub (b := 1) (by omega), bind_T]
    rw [up_s, up_d (by omega), b1, nI_add, c_top (by omega), if_neg (nI_pos (by omega)), p_inb (by omega) (by decide), chk_t, p_cl (by omega), bind_T, ob_s]
    have hcp : ∀ q j, (q < 3 ∨ 19 < q) → (q ≠ 0 ∨ j ≠ 16) → F_Town_copyAll (up σ 0 16 (nI (A - 1))) 3 (129 + 17 * ((o + (A - 1)) % 12)) q j = σ q j := fun q j hq hj => (copy_fr (by omega)).trans (up_d (by omega))
    obtain ⟨P2, M2, C2, t1, t2⟩ := b4 (A - 1) (by omega)
    have t3 : TR (tv (F_Town_copyAll (up σ 0 16 (nI (A - 1))) 3 (129 + 17 * ((o + (A - 1)) % 12))) 3) (fun j => if j < 450 then σ 337 (450 * (A - 1) + j) else g j) g P2 M2 C2 := by
      have : TR (tv (up σ 0 16 (nI (A - 1))) (129 + 17 * ((o + (A - 1)) % 12))) (fun j => if j < 450 then σ 337 (450 * (A - 1) + j) else g j) g P2 M2 C2 := t1.keep3 (fun r hr j => up_d (by omega)) (fun _ => rfl)
      exact this.copy (by omega)
    have e16 : F_Town_copyAll (up σ 0 16 (nI (A - 1))) 3 (129 + 17 * ((o + (A - 1)) % 12)) 0 16 = nI (A - 1) := (copy_fr (by omega)).trans up_s
    generalize F_Town_copyAll (up σ 0 16 (nI (A - 1))) 3 (129 + 17 * ((o + (A - 1)) % 12)) = τ at hcp t3 e16 ⊢
    dsimp only
    rw [bind_T, up_d (by omega), hcp 333 6 (by omega) (by omega), b3, if_neg (nI_ne0 (by omega) (by omega)), show nI A - 1 = nI (A - 1) from pk_sub (b := 1) (by omega), bind_T, show cnt 0 450 = 450 by decide]
    obtain ⟨s2, f1, f2, f3⟩ := m_cpy (σ := up (up τ 333 0 0) 333 6 (nI (A - 1))) (d := 334) (s := 337) (a := 0) (b := 450 * (A - 1)) (n := 450) (F := fun i s => F_M_undo_26_b i s) (by decide) (fun k ρ hk _ hq => by
      unfold F_M_undo_26_b
      rw [show ρ 333 6 = nI (A - 1) from (hq 333 6 (by decide)).trans up_s, bind_T, ix450, p_inb (by omega) (by decide), chk_t, bind_T, p_cl (by omega), p_cl (by omega), Nat.zero_add])
    rw [f1, ob_s, ob_s, if_pos rfl]
    have hs : ∀ q j, (q < 3 ∨ 19 < q) → (q ≠ 0 ∨ j ≠ 16) → (q ≠ 333 ∨ (j ≠ 0 ∧ j ≠ 6)) → q ≠ 334 → s2 q j = σ q j := fun q j h1 h2 h3 h4 => by
      rw [f3 q j (by omega), up_d (by omega), up_d (by omega), hcp q j h1 h2]
    have hg : ∀ j, 450 ≤ j → j < 850 → s2 334 j = g j := fun j hj hj2 => by
      rw [f3 334 j (by omega), up_d (by omega), up_d (by omega), hcp 334 j (by omega) (by omega)]
      exact hT.c16 j (by omega)
    have hl : ∀ j, j < 450 → s2 334 j = σ 337 (450 * (A - 1) + j) := fun j hj => by
      have h1 := f2 j hj
      rw [Nat.zero_add] at h1
      rw [h1, up_d (by omega), up_d (by omega), hcp 337 _ (by omega) (by omega)]
    refine ⟨s2, rfl, g, P2, M2, C2, ?_, by omega, hL.to (fun r hr j => hs _ _ (by omega) (by omega) (by omega) (by omega)), hTp.to2 (hs 0 12 (by omega) (by omega) (by omega) (by omega)) (fun j => hs _ _ (by omega) (by omega) (by omega) (by omega)) (hs 333 8 (by omega) (by omega) (by omega) (by omega)) (fun j => hs _ _ (by omega) (by omega) (by omega) (by omega)), ?_, hI.to (by omega) (hs 0 14 (by omega) (by omega) (by omega) (by omega)) (fun q h8 h9 j => hs _ _ (by omega) (by omega) (by omega) (by omega)) (hs 333 3 (by omega) (by omega) (by omega) (by omega)) (fun j => hs _ _ (by omega) (by omega) (by omega) (by omega)), o, A - 1, ho, by omega, (hs 0 15 (by omega) (by omega) (by omega) (by omega)).trans b1, ?_, ?_, fun a ha => ?_⟩
    · refine t3.keep4 (fun r hr j => ?_) (fun j hj => ?_)
      · rw [f3 _ _ (by omega), up_d (by omega), up_d (by omega)]
      · by_cases e : j < 450
        · rw [if_pos e]; exact hl j e
        · rw [if_neg e]; exact hg j (by omega) hj
    · rw [hs 0 13 (by omega) (by omega) (by omega) (by omega), hs 333 12 (by omega) (by omega) (by omega) (by omega)]
      exact hF
    · rw [f3 0 16 (by omega), up_d (by omega), up_d (by omega)]
      exact e16
    · rw [f3 333 6 (by omega), up_s]
    · obtain ⟨P3, M3, C3, u1, u2⟩ := b4 a (by omega)
      refine ⟨P3, M3, C3, u1.keep3 (fun r hr j => hs _ _ (by omega) (by omega) (by omega) (by omega)) (fun j => ?_), by omega⟩
      by_cases e : j < 450
      · rw [if_pos e, if_pos e]
        exact hs _ _ (by omega) (by omega) (by omega) (by omega)
      · rw [if_neg e, if_neg e]
theorem op41 (h : INV i σ) (a1 a2 a3 a4 a5 : Int32) : ∃ σ', S_41 σ a1 a2 a3 a4 a5 = some σ' ∧ INV (i + 1) σ' := by
  obtain ⟨g, P, M, C, hT, hC, hL, hTp, hF, hI, hA⟩ := h
  unfold S_41 F_W_image F_M_image
  simp only [bind_T]
  have hcp : ∀ q j, (q < 28 ∨ 52 < q) → (q ≠ 0 ∨ j ≠ 14) → up (F_Law_copyAll (F_Town_copyAll σ 28 3) 45 20) 0 14 1 q j = σ q j := fun q j hq hj => by
    rw [up_d (by omega), lcopy_fr (by omega), copy_fr (by omega)]
  have t1 : TR (tv (up (F_Law_copyAll (F_Town_copyAll σ 28 3) 45 20) 0 14 1) 28) (σ 334) g P M C := by
    have h1 : TR (tv (F_Town_copyAll σ 28 3) 28) (σ 334) g P M C := hT.copy (by omega)
    refine h1.keep3 (fun r hr j => ?_) (fun _ => rfl)
    rw [up_d (by omega), lcopy_fr (by omega)]
  have l1 : LRd (up (F_Law_copyAll (F_Town_copyAll σ 28 3) 45 20) 0 14 1) 45 g := by
    refine hL.toD fun r j hr => ?_
    have := hr.le
    rw [up_d (by omega), lcopy_at (by omega) r j hr, copy_fr (by omega)]
  have e14 : up (F_Law_copyAll (F_Town_copyAll σ 28 3) 45 20) 0 14 1 0 14 = 1 := up_s
  generalize up (F_Law_copyAll (F_Town_copyAll σ 28 3) 45 20) 0 14 1 = τ at hcp t1 l1 e14 ⊢
  rw [show cnt 0 850 = 850 by decide]
  obtain ⟨s2, f1, f2, f3⟩ := m_cpy (σ := up τ 333 0 0) (d := 335) (s := 334) (a := 0) (b := 0) (n := 850) (F := fun i s => F_M_image_7_b i s) (by decide) (fun k ρ hk _ hq => by
    unfold F_M_image_7_b
    rw [bind_T, p_cl (by omega), Nat.zero_add])
  rw [f1, ob_s, ob_s]
  have hs : ∀ q j, (q < 28 ∨ 52 < q) → (q ≠ 0 ∨ j ≠ 14) → (q ≠ 333 ∨ (j ≠ 0 ∧ j ≠ 3)) → q ≠ 335 → up s2 333 3 1 q j = σ q j := fun q j h1 h2 h3 h4 => by
    rw [up_d (by omega), f3 q j (by omega), up_d (by omega), hcp q j h1 h2]
  have hs2 : ∀ q j, q < 333 → up s2 333 3 1 q j = τ q j := fun q j h1 => by
    rw [up_d (by omega), f3 q j (by omega), up_d (by omega)]
  refine ⟨_, rfl, g, P, M, C, hT.keep2 (fun r hr j => hs _ _ (by omega) (by omega) (by omega) (by omega)) (fun j => hs _ _ (by omega) (by omega) (by omega) (by omega)), by omega, hL.to (fun r hr j => hs _ _ (by omega) (by omega) (by omega) (by omega)), hTp.to2 (hs 0 12 (by omega) (by omega) (by omega) (by omega)) (fun j => hs _ _ (by omega) (by omega) (by omega) (by omega)) (hs 333 8 (by omega) (by omega) (by omega) (by omega)) (fun j => hs _ _ (by omega) (by omega) (by omega) (by omega)), ?_, ⟨?_, Or.inr ⟨?_, g, P, M, C, ?_, by omega, ?_⟩⟩, hA.to (by omega) ⟨hs 0 15 (by omega) (by omega) (by omega) (by omega), hs 0 16 (by omega) (by omega) (by omega) (by omega)⟩ (fun q h8 h9 j => hs _ _ (by omega) (by omega) (by omega) (by omega)) (hs 333 6 (by omega) (by omega) (by omega) (by omega)) (fun j => hs _ _ (by omega) (by omega) (by omega) (by omega))⟩
  · rw [hs 0 13 (by omega) (by omega) (by omega) (by omega), hs 333 12 (by omega) (by omega) (by omega) (by omega)]
    exact hF
  · rw [hs2 0 14 (by omega), up_s]
    exact e14
  · rw [hs2 0 14 (by omega)]
    exact e14
  · refine t1.congr (fun r k hr => hs2 _ _ (by omega)) (fun j hj => ?_) (fun j hj => ?_)
    · have h1 := f2 j (by omega)
      rw [Nat.zero_add] at h1
      rw [up_d (by omega), h1, up_d (by omega), hcp 334 j (by omega) (by omega)]
    · have h1 := f2 j (by omega)
      rw [Nat.zero_add] at h1
      rw [up_d (by omega), h1, up_d (by omega), hcp 334 j (by omega) (by omega)]
      exact hT.c16 j hj
  · exact l1.to fun r hr j => hs2 _ _ (by omega)
theorem op42 (h : INV i σ) (a1 a2 a3 a4 a5 : Int32) : ∃ σ', S_42 σ a1 a2 a3 a4 a5 = some σ' ∧ INV (i + 1) σ' := by
  have h0 := h
  obtain ⟨g, P, M, C, hT, hC, hL, hTp, hF, ⟨i1, i2⟩, o, A, ho, hA, b1, b2, b3, b4⟩ := h
  unfold S_42 F_W_back F_M_back F_W_forgetActs
  rw [bind_T]
  rcases i2 with i2 | ⟨i2, g2, P2, M2, C2, t1, t2, t3⟩
  · rw [i2, if_pos rfl]
    dsimp only
    rw [bind_T, up_d (by omega), ← i1, i2, if_pos rfl, ob_s, if_pos rfl]
    exact ⟨_, rfl, h0.to fun q j hq => up_d (by unfold RelC RelM at hq; omega)⟩
  · rw [i2, if_neg (by decide)]
    simp only [bind_T]
    have hcp : ∀ q j, (q < 3 ∨ 27 < q) → (q ≠ 0 ∨ j ≠ 16) → up (F_Law_copyAll (F_Town_copyAll σ 3 28) 20 45) 0 16 0 q j = σ q j := fun q j hq hj => by
      rw [up_d (by omega), lcopy_fr (by omega), copy_fr (by omega)]
    have u1 : TR (tv (up (F_Law_copyAll (F_Town_copyAll σ 3 28) 20 45) 0 16 0) 3) (σ 335) g2 P2 M2 C2 := by
      have h1 : TR (tv (F_Town_copyAll σ 3 28) 3) (σ 335) g2 P2 M2 C2 := t1.copy (by omega)
      refine h1.keep3 (fun r hr j => ?_) (fun _ => rfl)
      rw [up_d (by omega), lcopy_fr (by omega)]
    have l1 : LRd (up (F_Law_copyAll (F_Town_copyAll σ 3 28) 20 45) 0 16 0) 20 g2 := by
      refine t3.toD fun r j hr => ?_
      have := hr.le
      rw [up_d (by omega), lcopy_at (by omega) r j hr, copy_fr (by omega)]
    have e16 : up (F_Law_copyAll (F_Town_copyAll σ 3 28) 20 45) 0 16 0 0 16 = 0 := up_s
    generalize up (F_Law_copyAll (F_Town_copyAll σ 3 28) 20 45) 0 16 0 = τ at hcp u1 l1 e16 ⊢
    rw [up_d (by omega), hcp 333 3 (by omega) (by omega), ← i1, i2, if_neg (by decide), show cnt 0 850 = 850 by decide]
    obtain ⟨s2, f1, f2, f3⟩ := m_cpy (σ := up τ 333 0 0) (d := 334) (s := 335) (a := 0) (b := 0) (n := 850) (F := fun i s => F_M_back_16_b i s) (by decide) (fun k ρ hk _ hq => by
      unfold F_M_back_16_b
      rw [bind_T, p_cl (by omega), Nat.zero_add])
    rw [f1, ob_s, ob_s]
    have hs : ∀ q j, (q < 3 ∨ 27 < q) → (q ≠ 0 ∨ j ≠ 16) → (q ≠ 333 ∨ (j ≠ 0 ∧ j ≠ 6)) → q ≠ 334 → up s2 333 6 0 q j = σ q j := fun q j h1 h2 h3 h4 => by
      rw [up_d (by omega), f3 q j (by omega), up_d (by omega), hcp q j h1 h2]
    have hs2 : ∀ q j, q < 333 → up s2 333 6 0 q j = τ q j := fun q j h1 => by
      rw [up_d (by omega), f3 q j (by omega), up_d (by omega)]
    refine ⟨up s2 333 6 0, if_pos rfl, g2, P2, M2, C2, ?_, by omega, l1.to (fun r hr j => hs2 _ _ (by omega)), hTp.to2 (hs 0 12 (by omega) (by omega) (by omega) (by omega)) (fun j => hs _ _ (by omega) (by omega) (by omega) (by omega)) (hs 333 8 (by omega) (by omega) (by omega) (by omega)) (fun j => hs _ _ (by omega) (by omega) (by omega) (by omega)), ?_, ⟨?_, Or.inr ⟨?_, g2, P2, M2, C2, t1.keep3 (fun r hr j => hs _ _ (by omega) (by omega) (by omega) (by omega)) (fun j => hs _ _ (by omega) (by omega) (by omega) (by omega)), by omega, t3.to (fun r hr j => hs _ _ (by omega) (by omega) (by omega) (by omega))⟩⟩, o, 0, ho, by omega, (hs 0 15 (by omega) (by omega) (by omega) (by omega)).trans b1, ?_, ?_, fun a ha => absurd ha (by omega)⟩
    · refine u1.keep4 (fun r hr j => hs2 _ _ (by omega)) (fun j hj => ?_)
      have h1 := f2 j hj
      rw [Nat.zero_add] at h1
      rw [up_d (by omega), h1, up_d (by omega), hcp 335 j (by omega) (by omega)]
    · rw [hs 0 13 (by omega) (by omega) (by omega) (by omega), hs 333 12 (by omega) (by omega) (by omega) (by omega)]
      exact hF
    · rw [hs 0 14 (by omega) (by omega) (by omega) (by omega), hs 333 3 (by omega) (by omega) (by omega) (by omega)]
      exact i1
    · rw [hs 0 14 (by omega) (by omega) (by omega) (by omega)]
      exact i2
    · rw [hs2 0 16 (by omega)]
      exact e16.trans nI_0.symm
    · rw [up_s, nI_0]
end UN

-- PURE STAGE: remembering, and the calls that change the town
section REM
variable {σ σ' : Mem} {g : Nat → Int32} {P M C i : Nat}
/-- both sides remember -/
theorem INVg.remember (h : INVg i g P M C σ σ') : ∃ τ τ', F_W_remember σ = some τ ∧ F_M_remembers σ' = some τ' ∧ INVg i g P M C τ τ' := by
  obtain ⟨hT, hC, hL, hTp, hF, hI, o, A, ho, hA, a1, a2, a3, a4⟩ := h
  obtain ⟨τ, c1, c2, c3, c4⟩ := c_rem ho hA a1 a2
  obtain ⟨τ', m1, m2, m3, m4, m5⟩ := m_rem hA a3
  have hc : ∀ q j, q < 129 → (q ≠ 0 ∨ (j ≠ 15 ∧ j ≠ 16)) → τ q j = σ q j := fun q j hq hj => (c4 q j hj).trans (copy_fr (by omega))
  have hm : ∀ q j, q ≠ 337 → (q ≠ 333 ∨ j ≠ 6) → τ' q j = σ' q j := m3
  refine ⟨τ, τ', c1, m1, ?_⟩
  refine ⟨hT.keep2 (fun r hr j => hc _ _ (by omega) (by omega)) (fun j => hm _ _ (by omega) (by omega)), hC, hL.to (fun r hr j => hc _ _ (by omega) (by omega)), ?_, ?_, hI.to (Nat.le_refl i) (hc _ _ (by omega) (by omega)) (fun q h8 h9 j => hc _ _ (by omega) (by omega)) (hm _ _ (by omega) (by omega)) (fun j => hm _ _ (by omega) (by omega)), ?_⟩
  · obtain ⟨n, h1, h2, h3, h4⟩ := hTp
    refine ⟨n, h1, (hc 0 12 (by omega) (by omega)).trans h2, (hm 333 8 (by omega) (by omega)).trans h3, fun j hj => ?_⟩
    obtain ⟨x1, x2, x3, x4⟩ := h4 j hj
    refine ⟨?_, x2, x3, (hc 2 j (by omega) (by omega)).trans x4⟩
    rw [hc 2 j (by omega) (by omega), hm 338 j (by omega) (by omega)]
    exact x1
  · rw [hc 0 13 (by omega) (by omega), hm 333 12 (by omega) (by omega)]
    exact hF
  · have new : TR (tv τ (129 + 17 * ((o + A) % 12))) (fun j => if j < 450 then τ' 337 (450 * min A 11 + j) else g j) g P M C := by
      have h1 : TR (tv (F_Town_copyAll σ (129 + 17 * ((o + A) % 12)) 3) (129 + 17 * ((o + A) % 12))) (σ' 334) g P M C := hT.copy (by omega)
      refine h1.keep4 (fun r hr j => c4 _ _ (by omega)) (fun j hj => ?_)
      by_cases e : j < 450
      · rw [if_pos e]; exact m4 j e
      · rw [if_neg e]; exact (hT.c16 j (by omega)).symm
    by_cases c : A = 12
    · subst c
      rw [if_pos rfl] at c2
      refine ⟨(o + 1) % 12, 12, by omega, by omega, c2, c3, m2, fun a ha => ?_⟩
      by_cases e : a = 11
      · subst e
        rw [show ((o + 1) % 12 + 11) % 12 = (o + 12) % 12 by omega]
        exact ⟨P, M, C, new, hC⟩
      · obtain ⟨P2, M2, C2, h1, h2⟩ := a4 (a + 1) (by omega)
        refine ⟨P2, M2, C2, ?_, h2⟩
        rw [show ((o + 1) % 12 + a) % 12 = (o + (a + 1)) % 12 by omega]
        refine h1.keep3 (fun r hr j => (c4 _ _ (by omega)).trans (copy_fr (by omega))) (fun j => ?_)
        by_cases e2 : j < 450
        · rw [if_pos e2, if_pos e2]
          have := m5 a j (by omega) e2
          rw [this, show a + (12 - min 12 11) = a + 1 by omega]
        · rw [if_neg e2, if_neg e2]
    · rw [if_neg c] at c2
      refine ⟨o, A + 1, ho, by omega, c2, by rw [c3, show min (A + 1) 12 = A + 1 by omega], by rw [m2, show min (A + 1) 12 = A + 1 by omega], fun a ha => ?_⟩
      by_cases e : a = A
      · subst e
        rw [show min a 11 = a by omega] at new
        exact ⟨P, M, C, new, hC⟩
      · obtain ⟨P2, M2, C2, h1, h2⟩ := a4 a (by omega)
        refine ⟨P2, M2, C2, ?_, h2⟩
        refine h1.keep3 (fun r hr j => (c4 _ _ (by omega)).trans (copy_fr (by omega))) (fun j => ?_)
        by_cases e2 : j < 450
        · rw [if_pos e2, if_pos e2]
          have := m5 a j (by omega) e2
          rw [this, show a + (A - min A 11) = a by omega]
        · rw [if_neg e2, if_neg e2]
/-- the town changed on both sides -/
theorem INVg.town (h : INVg i g P M C σ σ') {P2 M2 C2 i2 : Nat} {σ1 σ1' : Mem} (hi : i ≤ i2) (hT : TR (tv σ1 3) (σ1' 334) g P2 M2 C2) (hC : C2 ≤ 1200 * i2) (hc : ∀ q j, RelC q → (q < 3 ∨ 19 < q) → σ1 q j = σ q j) (hm : ∀ q j, RelM q j → q ≠ 334 → σ1' q j = σ' q j) : INVg i2 g P2 M2 C2 σ1 σ1' := by
  obtain ⟨h1, h2, h3, h4, h5, h6, h7⟩ := h
  refine ⟨hT, hC, h3.to (fun r hr j => hc _ _ (by unfold RelC; omega) (by omega)), h4.to (fun j => hc _ _ (by unfold RelC; omega) (by omega)) (fun j => hc _ _ (by unfold RelC; omega) (by omega)) (hm _ _ (by unfold RelM; omega) (by omega)) (fun j => hm _ _ (by unfold RelM; omega) (by omega)), ?_, h6.to hi (hc _ _ (by unfold RelC; omega) (by omega)) (fun q h8 h9 j => hc _ _ (by unfold RelC; omega) (by omega)) (hm _ _ (by unfold RelM; omega) (by omega)) (fun j => hm _ _ (by unfold RelM; omega) (by omega)), h7.to hi ⟨hc _ _ (by unfold RelC; omega) (by omega), hc _ _ (by unfold RelC; omega) (by omega)⟩ (fun q h8 h9 j => hc _ _ (by unfold RelC; omega) (by omega)) (hm _ _ (by unfold RelM; omega) (by omega)) (fun j => hm _ _ (by unfold RelM; omega) (by omega))⟩
  rw [hc 0 13 (by unfold RelC; omega) (by omega), hm 333 12 (by unfold RelM; omega) (by omega)]
  exact h5
/-- a call that may change the town -/
def RW (i : Nat) (σ : Mem) (g : Nat → Int32) (P M C : Nat) (A : Option (Mem × Int32)) (B : Mem → Option (Mem × Int32)) : Prop :=
  (∃ c, c ≠ 0 ∧ A = some (σ, c) ∧ ∀ σ' : Mem, TR (tv σ 3) (σ' 334) g P M C → ∃ r, B σ' = some (up σ' 333 0 c, r)) ∨
  ∃ σ1 v, A = some (up σ1 346 0 v, 0) ∧ (∀ q j, 333 ≤ q → σ1 q j = σ q j) ∧ ∀ σ' : Mem, INVg i g P M C σ σ' → ∃ σ1', B σ' = some (σ1', v) ∧ (∀ q j, (q < 333 ∨ q = 346) → σ1' q j = σ' q j) ∧ σ1' 333 0 = 0 ∧ ∃ P2 M2 C2, INVg (i + 1) g P2 M2 C2 σ1 σ1'
theorem rw_ok {A : Option (Mem × Int32)} {B : Mem → Option (Mem × Int32)} (h : INVg i g P M C σ σ) (hr : RW i σ g P M C A B) :
    ∃ σ', (obind A fun z1 => obind (B z1.1) fun z2 => (if (F_M_thrown z2.1) = z1.2 then (if z1.2 = 0 then (if (z2.1 346 0) = z2.2 then some z2.1 else none) else some z2.1) else none)) = some σ' ∧ INV (i + 1) σ' := by
  rcases hr with ⟨c, hc, h1, h2⟩ | ⟨σ1, v, h1, hf, h2⟩
  · obtain ⟨r, h3⟩ := h2 σ h.1
    refine ⟨up σ 333 0 c, ?_, INV.to ⟨g, P, M, C, h⟩ fun q j hq => up_d (by unfold RelC RelM at hq; omega)⟩
    rw [h1, ob_s, h3, ob_s]
    dsimp only
    rw [if_pos (show F_M_thrown (up σ 333 0 c) = c from up_s), if_neg hc]
  · obtain ⟨σ2, b1, b2, b3, P2, M2, C2, b4⟩ := h2 (up σ1 346 0 v) (h.to (Nat.le_refl i) (fun _ _ _ => rfl) (fun q j hq => by unfold RelM at hq; rw [up_d (by omega), hf q j (by omega)]))
    refine ⟨σ2, ?_, g, P2, M2, C2, b4.to (Nat.le_refl _) (fun q j hq => ?_) (fun _ _ _ => rfl)⟩
    · rw [h1, ob_s, b1, ob_s]
      dsimp only
      rw [if_pos (show F_M_thrown σ2 = 0 from b3), if_pos rfl, if_pos]
      rw [b2 346 0 (by omega), up_s]
    · unfold RelC at hq
      rw [b2 q j (by omega), up_d (by omega)]
end REM

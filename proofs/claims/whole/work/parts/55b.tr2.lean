-- PURE STAGE: a match more, a person more
section TRX
variable {T : Nat → Nat → Int32} {f g : Nat → Int32} {P M C : Nat}
theorem TR.addMatch {T2 : Nat → Nat → Int32} {f2 g2 : Nat → Int32} (h : TR T f g P M C) {a b n0 : Nat} (hM2 : M < 20) (ha : a < P) (hb : b < P) (hab : a ≠ b) (hn0 : n0 ≤ 99) (hT : ∀ r k, (r = 0 ∧ 8 ≤ k ∧ k < 20 ∧ k ≠ 10) ∨ ((r = 2 ∨ r = 4 ∨ r = 6) ∧ k < 8) ∨ (r = 8 ∧ k < 64) ∨ (r = 10 ∧ k < 40 ∧ k ≠ 2 * M ∧ k ≠ 2 * M + 1) ∨ ((r = 12 ∨ r = 14) ∧ k < 20 ∧ k ≠ M) ∨ (r = 16 ∧ k < 240) → T2 r k = T r k) (hf : ∀ j, j < 450 → j ≠ 4 → (j < 110 + 5 * M ∨ 115 + 5 * M ≤ j) → f2 j = f j) (hg : ∀ j, j = 1 ∨ j = 2 ∨ (450 ≤ j ∧ j < 850) → f2 j = g2 j) (t1 : T2 0 10 = nI (M + 1)) (t2 : T2 10 (2 * M) = nI a) (t3 : T2 10 (2 * M + 1) = nI b) (t4 : T2 12 M = nI n0) (t5 : T2 14 M = 0) (f4 : f2 4 = nI (M + 1)) (f5 : f2 (110 + 5 * M) = nI a) (f6 : f2 (111 + 5 * M) = nI b) (f7 : f2 (112 + 5 * M) = nI n0) (f8 : f2 (113 + 5 * M) = 0) (f9 : f2 (114 + 5 * M) = 0) : TR T2 f2 g2 P (M + 1) C := by
  have hP := h.c1.1
  have hM := h.c1.2.1
  exact ⟨⟨h.c1.1, by omega, h.c1.2.2⟩,
    ⟨by rw [hT _ _ (by omega)]; exact h.c2.1, t1, by rw [hT _ _ (by omega)]; exact h.c2.2.2⟩,
    ⟨by rw [hf _ (by omega) (by omega) (by omega)]; exact h.c3.1, f4, by rw [hf _ (by omega) (by omega) (by omega)]; exact h.c3.2.2.1, by rw [hf _ (by omega) (by omega) (by omega)]; exact h.c3.2.2.2⟩,
    ⟨by rw [hf _ (by omega) (by omega) (by omega), hT _ _ (by omega)]; exact h.c4.1, by rw [hf _ (by omega) (by omega) (by omega), hT _ _ (by omega)]; exact h.c4.2.1, by rw [hf _ (by omega) (by omega) (by omega), hT _ _ (by omega)]; exact h.c4.2.2.1, by rw [hf _ (by omega) (by omega) (by omega), hT _ _ (by omega)]; exact h.c4.2.2.2.1, by rw [hf _ (by omega) (by omega) (by omega), hT _ _ (by omega)]; exact h.c4.2.2.2.2.1, by rw [hf _ (by omega) (by omega) (by omega), hT _ _ (by omega)]; exact h.c4.2.2.2.2.2.1, by rw [hf _ (by omega) (by omega) (by omega), hT _ _ (by omega)]; exact h.c4.2.2.2.2.2.2⟩,
    ⟨by obtain ⟨n9, h8, h9⟩ := h.c5.1; exact ⟨n9, h8, by rw [hT _ _ (by omega)]; exact h9⟩, by obtain ⟨n9, h8, h9⟩ := h.c5.2.1; exact ⟨n9, h8, by rw [hT _ _ (by omega)]; exact h9⟩, by obtain ⟨n9, h8, h9⟩ := h.c5.2.2.1; exact ⟨n9, h8, by rw [hT _ _ (by omega)]; exact h9⟩, by obtain ⟨n9, h8, h9⟩ := h.c5.2.2.2.1; exact ⟨n9, h8, by rw [hT _ _ (by omega)]; exact h9⟩, by obtain ⟨n9, h8, h9⟩ := h.c5.2.2.2.2; exact ⟨n9, h8, by rw [hT _ _ (by omega)]; exact h9⟩⟩,
    fun p hp => ⟨by rw [hf _ (by omega) (by omega) (by omega), hT _ _ (by omega)]; exact (h.c6 p hp).1, by rw [hf _ (by omega) (by omega) (by omega), hT _ _ (by omega)]; exact (h.c6 p hp).2.1, by rw [hf _ (by omega) (by omega) (by omega), hT _ _ (by omega)]; exact (h.c6 p hp).2.2.1, by rw [hf _ (by omega) (by omega) (by omega), hT _ _ (by omega)]; exact (h.c6 p hp).2.2.2⟩,
    fun p hp => ⟨by obtain ⟨n9, h8, h9⟩ := (h.c7 p hp).1; exact ⟨n9, h8, by rw [hT _ _ (by omega)]; exact h9⟩, by rw [hT _ _ (by omega)]; exact (h.c7 p hp).2⟩,
    fun p hp h8 => by rw [hT _ _ (by omega)]; exact h.c8 p hp h8,
    fun i hi h8 => by rw [hT _ _ (by omega)]; exact h.c9 i hi h8,
    fun p o hp ho => by rw [hf _ (by omega) (by omega) (by omega), hT _ _ (by omega)]; exact h.c10 p o hp ho,
    fun p o hp ho => by rw [hT _ _ (by omega)]; exact h.c11 p o hp ho,
    fun k hk => by
      by_cases e : k = M
      · subst e
        exact ⟨f5.trans t2.symm, f6.trans t3.symm, f7.trans t4.symm, f8.trans t5.symm, by rw [f9, hT _ _ (by omega), h.c14 k (Nat.le_refl k) (by omega)]; rfl⟩
      · exact ⟨by rw [hf _ (by omega) (by omega) (by omega), hT _ _ (by omega)]; exact (h.c12 k (by omega)).1, by rw [hf _ (by omega) (by omega) (by omega), hT _ _ (by omega)]; exact (h.c12 k (by omega)).2.1, by rw [hf _ (by omega) (by omega) (by omega), hT _ _ (by omega)]; exact (h.c12 k (by omega)).2.2.1, by rw [hf _ (by omega) (by omega) (by omega), hT _ _ (by omega)]; exact (h.c12 k (by omega)).2.2.2.1, by rw [hf _ (by omega) (by omega) (by omega), hT _ _ (by omega)]; exact (h.c12 k (by omega)).2.2.2.2⟩,
    fun k hk => by
      by_cases e : k = M
      · subst e
        exact ⟨⟨a, b, ha, hb, hab, t2, t3⟩, n0, hn0, t4⟩
      · exact ⟨by obtain ⟨a, b, h1, h2, h3, h4, h5⟩ := (h.c13 k (by omega)).1; exact ⟨a, b, h1, h2, h3, by rw [hT _ _ (by omega)]; exact h4, by rw [hT _ _ (by omega)]; exact h5⟩, by obtain ⟨n9, h8, h9⟩ := (h.c13 k (by omega)).2; exact ⟨n9, h8, by rw [hT _ _ (by omega)]; exact h9⟩⟩,
    fun i hi h8 => by rw [hT _ _ (by omega)]; exact h.c14 i (by omega) h8,
    fun a c ha hc => by rw [hf _ (by omega) (by omega) (by omega), hT _ _ (by omega)]; exact h.c15 a c ha hc,
    hg⟩
theorem TR.addPerson {T2 : Nat → Nat → Int32} {f2 g2 : Nat → Int32} (h : TR T f g P M C) {n0 : Nat} (hP2 : P < 8) (hn0 : n0 ≤ 999) (hT : ∀ r k, (r = 0 ∧ 9 ≤ k ∧ k < 20) ∨ ((r = 2 ∨ r = 6) ∧ k < 8 ∧ k ≠ P) ∨ (r = 4 ∧ k < 8) ∨ (r = 8 ∧ k < 64) ∨ (r = 10 ∧ k < 40) ∨ ((r = 12 ∨ r = 14) ∧ k < 20) ∨ (r = 16 ∧ k < 240) → T2 r k = T r k) (hf : ∀ j, j < 450 → j ≠ 3 → (j < 14 + 4 * P ∨ 18 + 4 * P ≤ j) → (j < 46 ∨ 110 ≤ j) → f2 j = f j) (hg : ∀ j, j = 1 ∨ j = 2 ∨ (450 ≤ j ∧ j < 850) → f2 j = g2 j) (t1 : T2 0 8 = nI (P + 1)) (t2 : T2 2 P = nI n0) (t3 : T2 6 P = -1) (f3 : f2 3 = nI (P + 1)) (f4 : f2 (14 + 4 * P) = nI n0) (f5 : f2 (15 + 4 * P) = 0) (f6 : f2 (16 + 4 * P) = -1) (f7 : f2 (17 + 4 * P) = 0) (hl : ∀ p o, p < P → o < P → f2 (46 + 8 * p + o) = f (46 + 8 * p + o)) (hz : ∀ o, o < 8 → f2 (46 + 8 * P + o) = 0 ∧ f2 (46 + 8 * o + P) = 0) : TR T2 f2 g2 (P + 1) M C := by
  have hP := h.c1.1
  have hM := h.c1.2.1
  exact ⟨⟨by omega, h.c1.2⟩,
    ⟨t1, by rw [hT _ _ (by omega)]; exact h.c2.2.1, by rw [hT _ _ (by omega)]; exact h.c2.2.2⟩,
    ⟨f3, by rw [hf _ (by omega) (by omega) (by omega) (by omega)]; exact h.c3.2.1, by rw [hf _ (by omega) (by omega) (by omega) (by omega)]; exact h.c3.2.2.1, by rw [hf _ (by omega) (by omega) (by omega) (by omega)]; exact h.c3.2.2.2⟩,
    ⟨by rw [hf _ (by omega) (by omega) (by omega) (by omega), hT _ _ (by omega)]; exact h.c4.1, by rw [hf _ (by omega) (by omega) (by omega) (by omega), hT _ _ (by omega)]; exact h.c4.2.1, by rw [hf _ (by omega) (by omega) (by omega) (by omega), hT _ _ (by omega)]; exact h.c4.2.2.1, by rw [hf _ (by omega) (by omega) (by omega) (by omega), hT _ _ (by omega)]; exact h.c4.2.2.2.1, by rw [hf _ (by omega) (by omega) (by omega) (by omega), hT _ _ (by omega)]; exact h.c4.2.2.2.2.1, by rw [hf _ (by omega) (by omega) (by omega) (by omega), hT _ _ (by omega)]; exact h.c4.2.2.2.2.2.1, by rw [hf _ (by omega) (by omega) (by omega) (by omega), hT _ _ (by omega)]; exact h.c4.2.2.2.2.2.2⟩,
    ⟨by obtain ⟨n9, h8, h9⟩ := h.c5.1; exact ⟨n9, h8, by rw [hT _ _ (by omega)]; exact h9⟩, by obtain ⟨n9, h8, h9⟩ := h.c5.2.1; exact ⟨n9, h8, by rw [hT _ _ (by omega)]; exact h9⟩, by obtain ⟨n9, h8, h9⟩ := h.c5.2.2.1; exact ⟨n9, h8, by rw [hT _ _ (by omega)]; exact h9⟩, by obtain ⟨n9, h8, h9⟩ := h.c5.2.2.2.1; exact ⟨n9, h8, by rw [hT _ _ (by omega)]; exact h9⟩, by obtain ⟨n9, h8, h9⟩ := h.c5.2.2.2.2; exact ⟨n9, h8, by rw [hT _ _ (by omega)]; exact h9⟩⟩,
    fun p hp => by
      by_cases e : p = P
      · subst e
        exact ⟨f4.trans t2.symm, by rw [f5, hT _ _ (by omega), h.c8 p (Nat.le_refl p) hP2], f6.trans t3.symm, by rw [f7, hT _ _ (by omega), h.c9 p (Nat.le_refl p) (by omega)]; rfl⟩
      · exact ⟨by rw [hf _ (by omega) (by omega) (by omega) (by omega), hT _ _ (by omega)]; exact (h.c6 p (by omega)).1, by rw [hf _ (by omega) (by omega) (by omega) (by omega), hT _ _ (by omega)]; exact (h.c6 p (by omega)).2.1, by rw [hf _ (by omega) (by omega) (by omega) (by omega), hT _ _ (by omega)]; exact (h.c6 p (by omega)).2.2.1, by rw [hf _ (by omega) (by omega) (by omega) (by omega), hT _ _ (by omega)]; exact (h.c6 p (by omega)).2.2.2⟩,
    fun p hp => by
      by_cases e : p = P
      · subst e
        exact ⟨⟨n0, hn0, t2⟩, Or.inl t3⟩
      · refine ⟨by obtain ⟨n9, h8, h9⟩ := (h.c7 p (by omega)).1; exact ⟨n9, h8, by rw [hT _ _ (by omega)]; exact h9⟩, ?_⟩
        rw [hT _ _ (by omega)]
        rcases (h.c7 p (by omega)).2 with h1 | ⟨r, h1, h2, h3⟩
        · exact Or.inl h1
        · exact Or.inr ⟨r, by omega, h2, h3⟩,
    fun p hp h8 => by rw [hT _ _ (by omega)]; exact h.c8 p (by omega) h8,
    fun i hi h8 => by rw [hT _ _ (by omega)]; exact h.c9 i (by omega) h8,
    fun p o hp ho => by
      rw [hT _ _ (by omega)]
      by_cases e : p = P
      · subst e
        rw [(hz o (by omega)).1]
        exact ((h.c11 p o hP2 (by omega)).2 (Or.inl (Nat.le_refl p))).symm
      · by_cases e2 : o = P
        · subst e2
          rw [(hz p (by omega)).2]
          exact ((h.c11 p o (by omega) hP2).2 (Or.inr (Nat.le_refl o))).symm
        · rw [hl p o (by omega) (by omega)]
          exact h.c10 p o (by omega) (by omega),
    fun p o hp ho => by
      rw [hT _ _ (by omega)]
      exact ⟨(h.c11 p o hp ho).1, fun h9 => (h.c11 p o hp ho).2 (by omega)⟩,
    fun k hk => ⟨by rw [hf _ (by omega) (by omega) (by omega) (by omega), hT _ _ (by omega)]; exact (h.c12 k hk).1, by rw [hf _ (by omega) (by omega) (by omega) (by omega), hT _ _ (by omega)]; exact (h.c12 k hk).2.1, by rw [hf _ (by omega) (by omega) (by omega) (by omega), hT _ _ (by omega)]; exact (h.c12 k hk).2.2.1, by rw [hf _ (by omega) (by omega) (by omega) (by omega), hT _ _ (by omega)]; exact (h.c12 k hk).2.2.2.1, by rw [hf _ (by omega) (by omega) (by omega) (by omega), hT _ _ (by omega)]; exact (h.c12 k hk).2.2.2.2⟩,
    fun k hk => ⟨by obtain ⟨a, b, h1, h2, h3, h4, h5⟩ := (h.c13 k hk).1; exact ⟨a, b, by omega, by omega, h3, by rw [hT _ _ (by omega)]; exact h4, by rw [hT _ _ (by omega)]; exact h5⟩, by obtain ⟨n9, h8, h9⟩ := (h.c13 k hk).2; exact ⟨n9, h8, by rw [hT _ _ (by omega)]; exact h9⟩⟩,
    fun i hi h8 => by rw [hT _ _ (by omega)]; exact h.c14 i hi h8,
    fun a c ha hc => by rw [hf _ (by omega) (by omega) (by omega) (by omega), hT _ _ (by omega)]; exact h.c15 a c ha hc,
    hg⟩
end TRX

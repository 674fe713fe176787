-- PURE STAGE: span
section SPN
variable {σ σ' : Mem} {g : Nat → Int32} {P M C i : Nat}
/-- the state between two seeds -/
def SPI (σ σ' : Mem) (c s : Mem) : Prop := (∀ q j, (q < 95 ∨ 112 < q) → q ≠ 27 → c q j = σ q j) ∧ (∀ j, j < 450 → s 336 j = σ' 334 j) ∧ (∀ q j, q ≠ 334 → q ≠ 336 → q ≠ 339 → (q ≠ 333 ∨ (j ≠ 9 ∧ j ≠ 10 ∧ j ≠ 11 ∧ j ≠ 13 ∧ j ≠ 15 ∧ j ≠ 16)) → s q j = σ' q j) ∧ ∀ j, j < 850 → s 334 j = σ' 334 j
theorem sp_step (h : TR (tv σ 3) (σ' 334) g P M C) {Λ : FN} (l1 : CLs σ 20 Λ) (l2 : MLs g Λ) {n : Nat} (hn : n ≤ 40) (hC : C + 800 < 1000000) (sd : Int32) {c s : Mem} (hI : SPI σ σ' c s) :
    ∃ c3 s2 s3 d, d ≤ 800 ∧ F_For_tryMonths c 3 20 (nI n) sd = some (c3, nI d) ∧ F_M_goes (up s 334 12 sd) (nI n) = some (s2, nI d) ∧ F_M_comesBack s2 = some s3 ∧ SPI σ σ' c3 s3 := by
  obtain ⟨i1, i2, i3, i4⟩ := hI
  have hT : TR (tv c 3) (s 334) g P M C := h.keep4 (fun r hr j => i1 _ _ (by omega) (by omega)) i4
  obtain ⟨c3, s2, s3, C2, k1, k2, e1, e2, e3, -, e5, e6, e7, e8⟩ := m_trial hT (l1.to fun r hr j => i1 _ _ (by omega) (by omega)) l2 hn hC sd (up s 334 12 sd) mv_up (fun j hj => by rw [up_d (by omega), i2 j hj, i4 j (by omega)]) (fun q j h1 h2 => up_d (by omega))
  have ed : nI C2 - nI C = nI (C2 - C) := pk_sub k1
  rw [ed] at e1 e2
  refine ⟨c3, s2, s3, C2 - C, by omega, e1, e2, e3, fun q j h1 h2 => (e5 q j h1 h2).trans (i1 q j h1 h2), fun j hj => (e6 j hj).trans (i4 j (by omega)), fun q j h1 h2 h3 h4 => (e7 q j h1 h2 h3 h4).trans (i3 q j h1 h2 h3 h4), fun j hj => (e8 j hj).trans (i4 j hj)⟩
theorem sp_all (h : TR (tv σ 3) (σ' 334) g P M C) {Λ : FN} (l1 : CLs σ 20 Λ) (l2 : MLs g Λ) {n : Nat} (hn : n ≤ 40) (hC : C + 800 < 1000000) (a2 : Int32) {s0 : Mem} (hI : SPI σ σ' σ s0) :
    ∃ c3 s3 m, (obind (F_For_tryMonths σ 3 20 (nI n) 1) fun z4 => forSO (fun i s => F_W_span_29_b (nI n) a2 i s.1 s.2) 5 2 (z4.2, z4.1)) = some (nI m, c3) ∧ forSO (fun i s => F_M_span_37_b (nI n) a2 i s.1 s.2) 6 1 ((-1), s0) = some (nI m, s3) ∧ SPI σ σ' c3 s3 := by
  obtain ⟨c1, t2, t3, d, hd, e1, e2, e3, hI1⟩ := sp_step h l1 l2 hn hC 1 hI
  obtain ⟨x, x', f1, f2, m, c3, s3, -, rfl, rfl, f3⟩ := forSO_pair (F := fun i s => F_W_span_29_b (nI n) a2 i s.1 s.2) (F' := fun i s => F_M_span_37_b (nI n) a2 i s.1 s.2) 5 2
    (fun k x x' => ∃ m c s, m ≤ 800 ∧ x = (nI m, c) ∧ x' = (nI m, s) ∧ SPI σ σ' c s) (nI d, c1) (nI d, t3) (fun k x x' hk hx => by
      obtain ⟨m, c, s, hm, rfl, rfl, hI2⟩ := hx
      obtain ⟨c3, s2, s3, d2, hd2, g1, g2, g3, g4⟩ := sp_step h l1 l2 hn hC (nI (2 + k)) hI2
      dsimp only
      unfold F_W_span_29_b F_M_span_37_b F_M_lesser F_M_greater
      rw [g1, ob_s]
      simp only [bind_T]
      rw [g2, ob_s, g3, ob_s, if_neg (m1_ne m (by omega))]
      dsimp only
      by_cases c : a2 = 0
      · rw [if_pos c, if_pos c, nI_min (by omega) (by omega), nI_min (by omega) (by omega), Nat.min_comm m d2]
        exact ⟨_, _, rfl, rfl, _, _, _, by omega, rfl, rfl, g4⟩
      · rw [if_neg c, if_neg c, nI_max (by omega) (by omega), nI_max (by omega) (by omega), Nat.max_comm m d2]
        exact ⟨_, _, rfl, rfl, _, _, _, by omega, rfl, rfl, g4⟩) ⟨d, c1, t3, hd, rfl, rfl, hI1⟩
  refine ⟨c3, s3, m, ?_, ?_, f3⟩
  · rw [e1, ob_s]
    exact f1
  · have b1 : F_M_span_37_b (nI n) a2 1 (-1) s0 = some (nI d, t3) := by
      unfold F_M_span_37_b
      rw [bind_T, e2, ob_s, e3, ob_s, if_pos rfl]
    show obind (F_M_span_37_b (nI n) a2 1 (-1) s0) (fun s' => forSO _ 5 (1 + 1) s') = _
    rw [b1, ob_s]
    exact f2
theorem rs36 (h : INVg i g P M C σ σ) (hi : i < 600) (a1 a2 : Int32) : RS i σ g P M C (H_span σ a1 a2) (fun σ' => F_M_span σ' a1 a2) := by
  have hC := h.2.1
  obtain ⟨Λ, l1, l2, -⟩ := h.2.2.1
  rcases pcase 41 a1 with ⟨n, hn, rfl⟩ | h1
  · have spi : ∀ σ' s1 : Mem, (∀ j, j < 450 → s1 336 j = σ' 334 j) → (∀ q j, q ≠ 336 ∨ 450 ≤ j → s1 q j = σ' q j) → SPI σ σ' σ s1 := fun σ' s1 x1 x2 => ⟨fun _ _ _ _ => rfl, x1, fun q j h1 h2 _ _ => x2 q j (by omega), fun j _ => x2 334 j (by omega)⟩
    obtain ⟨s0, a1', a2', a3'⟩ := m_aside (σ := σ)
    obtain ⟨c3, -, m, e1, -, fc, -⟩ := sp_all h.1 l1 l2 (n := n) (by omega) (by omega) a2 (spi σ s0 a2' a3')
    refine Or.inr ⟨c3, nI m, ?_, fun q j hq => fc q j (by unfold RelC at hq; omega) (by unfold RelC at hq; omega), fun σ' h' => ?_⟩
    · unfold H_span F_W_span
      rw [cn_ok (by omega), sumE_r, show cle 2 6 = 5 by decide, ← ob_assoc, e1]
      rfl
    · have h2 := (h'.th (c := 0)).1
      obtain ⟨s1, b1, b2, b3⟩ := m_aside (σ := up σ' 333 0 0)
      obtain ⟨c4, s3, m2, f1, f2, -, -, f6, f7⟩ := sp_all h2 l1 l2 (n := n) (by omega) (by omega) a2 (spi _ s1 b2 b3)
      have e5 : nI m = nI m2 := congrArg Prod.fst (Option.some.inj (e1.symm.trans f1))
      refine ⟨s3, ?_, fun q j hq => ?_, ?_⟩
      · dsimp only
        unfold F_M_span
        rw [isIn3 (n := 41) 40 (by decide) (by decide) hn, if_neg (show ¬ (1 : Int32) = 0 by decide), bind_T, up_s, if_neg nlt00, b1, ob_s, show cle 1 6 = 6 by decide, f2, ob_s, e5]
      · by_cases c : q = 334
        · subst c
          unfold RelM at hq
          rw [f7 j (by omega), up_d (by omega)]
        · unfold RelM at hq
          rw [f6 q j c (by omega) (by omega) (by omega), up_d (by omega)]
      · rw [f6 333 0 (by omega) (by omega) (by omega) (by omega), up_s]
  · refine Or.inl ⟨1, by decide, ?_, fun σ' h' => ?_⟩
    · unfold H_span F_W_span
      rw [cn_no h1]; rfl
    · dsimp only
      unfold F_M_span
      rw [isIn3n (n := 41) 40 (by decide) (by decide) h1, if_pos (rfl : (0 : Int32) = 0), bind_T, up_s, if_pos lt01]
      exact ⟨_, rfl⟩
theorem op36 (h : INV i σ) (hi : i < 600) (a1 a2 a3 a4 a5 : Int32) : ∃ σ', S_36 σ a1 a2 a3 a4 a5 = some σ' ∧ INV (i + 1) σ' := by
  obtain ⟨g, P, M, C, h⟩ := h
  unfold S_36
  by_cases e : a2 = 0
  · simp only [if_pos e]
    exact rs_ok (B := fun σ' => F_M_span σ' a1 0) h (rs36 h hi a1 0)
  · simp only [if_neg e]
    exact rs_ok (B := fun σ' => F_M_span σ' a1 1) h (rs36 h hi a1 1)
end SPN

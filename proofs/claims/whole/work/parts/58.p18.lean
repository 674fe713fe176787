-- PURE STAGE: months; undo, image, back
section MO
variable {σ σ' : Mem} {g : Nat → Int32} {P M C i : Nat}
theorem num_ok {v lo hi : Int32} {n : Nat} (hl : 0 ≤ lo) (hh : hi = nI n) (hn : n < 6000) (h1 : ¬ v < lo) (h2 : ¬ hi < v) : ∃ k, k ≤ n ∧ v = nI k := by
  have h0 : ¬ v < 0 := fun h => h1 (Int32.lt_of_lt_of_le h hl)
  obtain ⟨j, hj, rfl⟩ := nI_of h0
  refine ⟨j, ?_, rfl⟩
  rw [hh] at h2
  exact Nat.not_lt.mp fun h => h2 (nI_lt h hj)
theorem rw14 (h : INVg i g P M C σ σ) (hi : i < 600) (a1 : Int32) : RW i σ g P M C (H_months σ a1) (fun σ' => F_M_months σ' a1) := by
  have hC := h.2.1
  have hbad : (a1 < 1 ∨ 60 < a1) → RW i σ g P M C (H_months σ a1) (fun σ' => F_M_months σ' a1) := by
    intro hb
    refine ro_ci (c := 1) (by decide) ?_ fun σ' h' => ?_
    · unfold H_months F_W_months F_W_checkNumber
      rcases hb with hb | hb
      · rw [if_pos hb]; rfl
      · by_cases c : a1 < 1
        · rw [if_pos c]; rfl
        · rw [if_neg c, if_pos hb]; rfl
    · have e : F_M_isIn σ' a1 1 60 = 0 := by
        unfold F_M_isIn
        rcases hb with hb | hb
        · rw [if_pos hb]
        · by_cases c : a1 < 1
          · rw [if_pos c]
          · rw [if_neg c, if_pos hb]
      unfold F_M_months
      rw [e, if_pos rfl, bind_T, up_s, if_pos lt01]
      exact ⟨_, rfl⟩
  by_cases c1 : a1 < 1
  · exact hbad (Or.inl c1)
  · by_cases c2 : 60 < a1
    · exact hbad (Or.inr c2)
    · obtain ⟨n, hn, rfl⟩ := num_ok (n := 60) (by decide) rfl (by decide) c1 c2
      have cn : cnt 0 (nI n) = n := p_cnt0 (by omega)
      have go : ∀ τ τ', INVg i g P M C τ τ' → ∀ x5, ∃ τ1 τ1' C2, (C ≤ C2 ∧ C2 ≤ C + 20 * n) ∧ forSO (fun i s => F_W_months_22_b (nI n) x5 i s) n 0 τ = some τ1 ∧ F_M_goes τ' (nI n) = some (τ1', nI C2 - nI C) ∧ TR (tv τ1 3) (τ1' 334) g P M C2 ∧ τ1' 333 12 = τ' 333 12 := by
        intro τ τ' hI x5
        obtain ⟨hT, -, ⟨Λ, l1, l2, -⟩, -⟩ := hI
        obtain ⟨τ1, τ1', C2, h1, h2, h3, h4, h5⟩ := hT.goN (w := 20) (K := 93) (v1 := nI n) (v2 := nI C) (Fc := fun i s => F_W_months_22_b (nI n) x5 i s) (fun i s => by
          unfold F_W_months_22_b
          cases F_Town_passMonth s 3 20 93 <;> rfl) l1 l2 ⟨by omega, by omega, by omega⟩ n (by omega)
        refine ⟨τ1, τ1', C2, h1, h2, ?_, h4, h5⟩
        unfold F_M_goes
        rw [hT.c3.2.2.1, bind_T, cn, h3, ob_s, h4.c3.2.2.1]
      have chk : F_W_checkNumber σ (nI n) 1 60 = .inr () := by
        unfold F_W_checkNumber
        rw [if_neg c1, if_neg c2]
      refine rw_change h (Fc := fun τ => ((forSO (fun i s => F_W_months_22_b (nI n) (τ 3 19) i s) n 0 τ).getD τ, ((forSO (fun i s => F_W_months_22_b (nI n) (τ 3 19) i s) n 0 τ).getD τ) 3 19 - τ 3 19)) (Fm := fun τ' => obind (F_M_goes τ' (nI n)) fun z5 => some ((z5.1, z5.2))) ?_ ?_ ?_
      · intro τ e
        obtain ⟨τ0, τ0', e1, e2, e3⟩ := h.remember
        rw [e] at e1
        cases e1
        obtain ⟨τ1, τ1', C2, -, h2, -⟩ := go τ τ0' e3 (τ 3 19)
        unfold H_months F_W_months
        rw [chk]
        show obind (obind (F_W_remember σ) _) _ = _
        rw [e, ob_s, bind_T, cn, h2]
        rfl
      · intro σ' τ' h' e
        unfold F_M_months
        have e9 : F_M_isIn σ' (nI n) 1 60 = 1 := by
          unfold F_M_isIn
          rw [if_neg c1, if_neg c2]
        rw [e9, if_neg (show ¬ (1 : Int32) = 0 by decide), bind_T, up_s, if_neg nlt00, e, ob_s]
      · intro τ τ' _ hI
        obtain ⟨τ1, τ1', C2, h1, h2, h3, h4, h5⟩ := go τ τ' hI (τ 3 19)
        dsimp only
        rw [h2, h3, ob_s]
        show ∃ τ2' P2 M2 C2', some (τ1', nI C2 - nI C) = some (τ2', τ1 3 19 - τ 3 19) ∧ TR (tv τ1 3) (τ2' 334) g P2 M2 C2' ∧ C2' ≤ 1200 * (i + 1) ∧ (∀ q j, (q < 3 ∨ 19 < q) → RelC q ∨ 333 ≤ q → τ1 q j = τ q j) ∧ ∀ q j, q ≠ 334 → (RelM q j ∨ q < 333 ∨ q = 346 ∨ (q = 333 ∧ j = 0)) → τ2' q j = τ' q j
        rw [show τ1 3 19 = nI C2 from h4.c2.2.2, show τ 3 19 = nI C from hI.1.c2.2.2]
        refine ⟨τ1', P, M, C2, rfl, h4, by omega, fun q j hq hq2 => ?_, fun q j hq hq2 => ?_⟩
        · refine k_forSO (K := kM q j (τ q j)) (F := fun i s => F_W_months_22_b (nI n) (τ 3 19) i s) (fun i s hs => ?_) rfl _ h2
          exact fr_F_W_months_22_b _ _ _ _ hq (by unfold RelC at hq2; omega) (by unfold RelC at hq2; omega) hs
        · by_cases e12 : q = 333 ∧ j = 12
          · obtain ⟨rfl, rfl⟩ := e12
            exact h5
          · have := fr_F_M_goes τ' (nI n) (q := q) (j := j) (v := τ' q j) (by omega) (by unfold RelM at hq2; omega) (by unfold RelM at hq2; omega) (by unfold RelM at hq2; omega) (by unfold RelM at hq2; omega) (by unfold RelM at hq2; omega) (by unfold RelM at hq2; omega) (by unfold RelM at hq2; omega) (by unfold RelM at hq2; omega) rfl _ h3
            exact this.1
theorem op14 (h : INV i σ) (hi : i < 600) (a1 a2 a3 a4 a5 : Int32) : ∃ σ', S_14 σ a1 a2 a3 a4 a5 = some σ' ∧ INV (i + 1) σ' := by
  obtain ⟨g, P, M, C, h⟩ := h
  exact rw_ok (B := fun σ' => F_M_months σ' a1) h (rw14 h hi a1)
end MO

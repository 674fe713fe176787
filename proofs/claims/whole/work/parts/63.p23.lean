-- PURE STAGE: the tape
section TP
variable {σ σ' : Mem} {g : Nat → Int32} {P M C i : Nat}
theorem INVg.tape (h : INVg i g P M C σ σ) {σ2 : Mem} (hT : TAPE σ2 σ2) (hc : ∀ q j, RelC q → q ≠ 2 → (q ≠ 0 ∨ j ≠ 12) → σ2 q j = σ q j) (hm : ∀ q j, RelM q j → q ≠ 338 → (q ≠ 333 ∨ j ≠ 8) → σ2 q j = σ q j) : INV (i + 1) σ2 := by
  obtain ⟨h1, h2, h3, h4, h5, h6, h7⟩ := h
  refine ⟨g, P, M, C, h1.keep4 (fun r hr j => hc _ _ (by unfold RelC; omega) (by omega) (by omega)) (fun j hj => hm _ _ (by unfold RelM; omega) (by omega) (by omega)), by omega, h3.to (fun r hr j => hc _ _ (by unfold RelC; omega) (by omega) (by omega)), hT, ?_, h6.to (by omega) (hc _ _ (by unfold RelC; omega) (by omega) (by omega)) (fun q h8 h9 j => hc _ _ (by unfold RelC; omega) (by omega) (by omega)) (hm _ _ (by unfold RelM; omega) (by omega) (by omega)) (fun j => hm _ _ (by unfold RelM; omega) (by omega) (by omega)), h7.to (by omega) ⟨hc _ _ (by unfold RelC; omega) (by omega) (by omega), hc _ _ (by unfold RelC; omega) (by omega) (by omega)⟩ (fun q h8 h9 j => hc _ _ (by unfold RelC; omega) (by omega) (by omega)) (hm _ _ (by unfold RelM; omega) (by omega) (by omega)) (fun j => hm _ _ (by unfold RelM; omega) (by omega) (by omega))⟩
  rw [hc 0 13 (by unfold RelC; omega) (by omega) (by omega), hm 333 12 (by unfold RelM; omega) (by omega) (by omega)]
  exact h5
theorem op1 (h : INV i σ) (a1 a2 a3 a4 a5 : Int32) : ∃ σ', S_1 σ a1 a2 a3 a4 a5 = some σ' ∧ INV (i + 1) σ' := by
  have h0 := h
  obtain ⟨g, P, M, C, h⟩ := h
  obtain ⟨n, hn, e1, e2, e3⟩ := h.2.2.2.1
  have bad : (a1 < 0 ∨ nI n < a1) → ∃ σ', S_1 σ a1 a2 a3 a4 a5 = some σ' ∧ INV (i + 1) σ' := by
    intro hb
    refine ⟨up σ 333 0 0, ?_, h0.to fun q j hq => up_d (by unfold RelC RelM at hq; omega)⟩
    have wE : F_W_end σ a1 = (σ, 0) := by
      unfold F_W_end
      by_cases c : a1 < 0
      · rw [if_pos c]
      · rw [if_neg c, e1, if_pos (hb.resolve_left c)]
    have mE : F_M_end σ a1 = (up σ 333 0 0, 0) := by
      unfold F_M_end F_M_isIn
      rw [bind_T, up_d (by omega), e2]
      by_cases c : a1 < 0
      · rw [if_pos c, if_pos rfl]
      · rw [if_neg c, if_pos (hb.resolve_left c), if_pos rfl]
    unfold S_1
    rw [wE, bind_T]
    show bindT (F_M_end σ a1) _ = _
    rw [mE, bind_T]
    exact if_pos rfl
  by_cases c1 : a1 < 0
  · exact bad (Or.inl c1)
  · by_cases c2 : nI n < a1
    · exact bad (Or.inr c2)
    · obtain ⟨k, hk, rfl⟩ := num_ok (lo := 0) (n := n) (by decide) rfl (by omega) c1 c2
      have hs : ∀ q j, (q ≠ 0 ∨ j ≠ 12) → (q ≠ 333 ∨ (j ≠ 0 ∧ j ≠ 8)) → up (up (up σ 0 12 (nI k)) 333 0 0) 333 8 (nI k) q j = σ q j := fun q j h1 h2 => by
        rw [up_d (by omega), up_d (by omega), up_d (by omega)]
      refine ⟨up (up (up σ 0 12 (nI k)) 333 0 0) 333 8 (nI k), ?_, h.tape ⟨k, by omega, ?_, up_s, fun j hj => ?_⟩ (fun q j hq h2 h3 => hs q j h3 (by unfold RelC at hq; omega)) (fun q j hq h2 h3 => hs q j (by unfold RelM at hq; omega) (by unfold RelM at hq; omega))⟩
      · have wE : F_W_end σ (nI k) = (up σ 0 12 (nI k), 1) := by
          unfold F_W_end
          rw [if_neg c1, e1, if_neg c2, bind_T]
        have mE : F_M_end (up σ 0 12 (nI k)) (nI k) = (up (up (up σ 0 12 (nI k)) 333 0 0) 333 8 (nI k), 1) := by
          unfold F_M_end F_M_isIn
          rw [bind_T, if_neg c1, up_d (by omega), up_d (by omega), e2, if_neg c2, if_neg (show ¬ (1 : Int32) = 0 by decide), bind_T]
        unfold S_1
        rw [wE, bind_T]
        show bindT (F_M_end (up σ 0 12 (nI k)) (nI k)) _ = _
        rw [mE, bind_T]
        exact if_pos rfl
      · rw [up_d (by omega), up_d (by omega), up_s]
      · rw [hs 2 j (by omega) (by omega), hs 338 j (by omega) (by omega)]
        exact e3 j (by omega)
end TP

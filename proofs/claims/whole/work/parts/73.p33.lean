-- PURE STAGE: lovers
section LOX
variable {σ σ' : Mem} {g : Nat → Int32} {t P M C i : Nat}
theorem row_ne {a : Nat} (ha : a < 8) {r : Int32} : ∀ (d b : Nat), d + b ≤ 8 → forG (fun i (_ : Unit) => F_Prs_firstLovers_14_b σ t (nI a) i) d (nI b) () = .inr r → r ≠ -1 := by
  intro d
  induction d with
  | zero => intro b _ h; cases h
  | succ d ih =>
    intro b hd h
    change contG (F_Prs_firstLovers_14_b σ t (nI a) (nI b)) (fun s' => forG _ d (nI b + 1) s') = .inr r at h
    rw [nI_1] at h
    unfold F_Prs_firstLovers_14_b at h
    by_cases c : F_Prs_areLovers σ t (nI a) (nI b) = 0
    · rw [if_pos c] at h
      exact ih (b + 1) (by omega) h
    · rw [if_neg c] at h
      cases h
      rw [show (10 : Int32) * nI a = nI (10 * a) from pk_mul 10 a, nI_add]
      exact m1_ne _ (by omega)
theorem m_row (h : TR (tv σ t) (σ' 334) g P M C) {a : Nat} (ha : a < P) (v1 v2 v3 : Int32) : F_M_lovers_12_b σ' v1 (nI a) v2 v3 = some (F_Prs_loverPairs_4_b σ t (nI a) v2, if v3 = -1 then fst1 (F_Prs_firstLovers_2_b σ t (nI a)) else v3) ∧ ∀ r, F_Prs_firstLovers_2_b σ t (nI a) = .inr r → r ≠ -1 := by
  have hP := h.c1.1
  unfold F_M_lovers_12_b F_Prs_loverPairs_4_b F_Prs_firstLovers_2_b
  simp only [bind_T]
  rw [show σ' 334 3 = nI P from h.c3.1, show σ t 8 = nI P from h.c2.1, nI_1, p_cnt (by omega) (by omega), m_low h ha v1 _ _ _ _ (by omega), ob_s]
  have e := fun r => row_ne (σ := σ) (t := t) (a := a) (r := r) (by omega) (P - (a + 1)) (a + 1) (by omega)
  generalize forG (fun i (_ : Unit) => F_Prs_firstLovers_14_b σ t (nI a) i) (P - (a + 1)) (nI (a + 1)) () = z at e ⊢
  cases z with
  | inl u => exact ⟨rfl, fun r hr => by cases hr⟩
  | inr r => exact ⟨rfl, fun r2 hr => by cases hr; exact e _ rfl⟩
theorem m_all (h : TR (tv σ t) (σ' 334) g P M C) (v1 : Int32) : ∀ (d a : Nat) (v2 v3 : Int32), d + a = P → forSO (fun i s => F_M_lovers_12_b σ' v1 i s.1 s.2) d (nI a) (v2, v3) = some (forS (fun i s => F_Prs_loverPairs_4_b σ t i s) d (nI a) v2, if v3 = -1 then fst1 (forG (fun i _ => F_Prs_firstLovers_2_b σ t i) d (nI a) ()) else v3) := by
  intro d
  induction d with
  | zero =>
    intro a v2 v3 _
    show some (v2, v3) = some (v2, if v3 = -1 then -1 else v3)
    by_cases c : v3 = -1
    · rw [if_pos c, c]
    · rw [if_neg c]
  | succ d ih =>
    intro a v2 v3 hd
    obtain ⟨e1, e2⟩ := m_row h (a := a) (by omega) v1 v2 v3
    show obind (F_M_lovers_12_b σ' v1 (nI a) v2 v3) (fun s' => forSO _ d (nI a + 1) s') = some (forS _ d (nI a + 1) (F_Prs_loverPairs_4_b σ t (nI a) v2), if v3 = -1 then fst1 (contG (F_Prs_firstLovers_2_b σ t (nI a)) fun s' => forG _ d (nI a + 1) s') else v3)
    rw [e1, ob_s, nI_1, ih (a + 1) _ _ (by omega)]
    by_cases c : v3 = -1
    · rw [if_pos c, if_pos c]
      cases hz : F_Prs_firstLovers_2_b σ t (nI a) with
      | inl u => rfl
      | inr r => rw [if_neg (show ¬ fst1 (.inr r) = -1 from e2 r hz)]; rfl
    · rw [if_neg c, if_neg c, if_neg c]
theorem op29 (h : INV i σ) (a1 a2 a3 a4 a5 : Int32) : ∃ σ', S_29 σ a1 a2 a3 a4 a5 = some σ' ∧ INV (i + 1) σ' := by
  have h0 := h
  obtain ⟨g, P, M, C, h⟩ := h
  have hP := h.1.c1.1
  refine ⟨up σ 333 0 0, ?_, h0.to fun q j hq => up_d (by unfold RelC RelM at hq; omega)⟩
  have h2 : TR (tv σ 3) ((up σ 333 0 0) 334) g P M C := h.1.keepM (up_r (by omega))
  have key : ∀ v1, F_M_lovers σ v1 = some (up σ 333 0 0, F_W_lovers σ v1) := fun v1 => by
    have e := m_all h2 v1 P 0 0 (-1) rfl
    rw [nI_0, if_pos rfl] at e
    unfold F_M_lovers F_W_lovers F_Prs_loverPairs F_Prs_firstLovers
    rw [bind_T, show (up σ 333 0 0) 334 3 = nI P from h2.c3.1, show σ 3 8 = nI P from h2.c2.1, p_cnt0 (by omega), e, ob_s, bind_T, bind_T]
    by_cases c : v1 = 0
    · rw [if_pos c, if_pos c]
    · rw [if_neg c, if_neg c]
      cases forG (fun i (_ : Unit) => F_Prs_firstLovers_2_b σ 3 i) P 0 () <;> rfl
  unfold S_29
  by_cases c : a1 = 0
  · rw [if_pos c, if_pos c, key, ob_s, if_pos rfl]
  · rw [if_neg c, if_neg c, key, ob_s, if_pos rfl]
end LOX

-- PURE STAGE: gift, meddle, reinsure, part, months
section INS
variable {σ σ' : Mem} {g : Nat → Int32} {P M C i : Nat}
theorem cp_ok (h : TR (tv σ 3) (σ' 334) g P M C) {p : Nat} (hp : p < P) : F_W_checkPerson σ (nI p) = .inr () := by
  unfold F_W_checkPerson
  rw [(q_pers h hp).1]; rfl
theorem cp_no (h : TR (tv σ 3) (σ' 334) g P M C) {v : Int32} (hv : ∀ k, k < P → v ≠ nI k) : F_W_checkPerson σ v = .inl "java/lang/IndexOutOfBoundsException" := by
  unfold F_W_checkPerson
  rw [(q_nopers h hv).1]; rfl
theorem ci_no (h : TR (tv σ 3) (σ' 334) g P M C) {v1 v2 : Int32} (hv : (∀ k, k < P → v1 ≠ nI k) ∨ ∀ k, k < M → v2 ≠ nI k) : F_W_checkInsurer σ v1 v2 = .inl "java/lang/IndexOutOfBoundsException" := by
  unfold F_W_checkInsurer
  rcases pcase P v1 with ⟨p, hp, rfl⟩ | h1
  · rw [cp_ok h hp]
    rcases hv with hv | hv
    · exact absurd rfl (hv p hp)
    · rw [cm_no h hv]; rfl
  · rw [cp_no h h1]; rfl
theorem ci_is (h : TR (tv σ 3) (σ' 334) g P M C) {p k : Nat} (hp : p < P) (hk : k < M) : F_W_checkInsurer σ (nI p) (nI k) = if bt (insK (tv σ 3) P k) p = true then .inr () else .inl "java/lang/IllegalStateException" := by
  have hP := h.c1.1
  have hM := h.c1.2.1
  unfold F_W_checkInsurer F_W_checkGoesOn
  rw [cp_ok h hp, cm_ok h hk, (q_insK h hk).1, p_over (by omega), p_con (by omega), if10, if10]
  show sumE (if bt (σ 3 11) k = true then _ else _) _ _ = _
  by_cases c : bt (σ 3 11) k = true
  · rw [if_pos c]
    have e : insK (tv σ 3) P k = 0 := by unfold insK; exact if_pos c
    rw [e, b_0]; rfl
  · rw [if_neg c]; rfl
theorem ms_is (h : TR (tv σ 3) (σ' 334) g P M C) {p k : Nat} (hp : p < P) (hk : k < M) : F_M_insures σ' (nI p) (nI k) = some (if bt (insK (tv σ 3) P k) p = true then 1 else 0) := by
  have hP := h.c1.1
  unfold F_M_insures
  rw [(q_insK h hk).2, ob_s, p_isOf (by omega)]
  cases bt (insK (tv σ 3) P k) p <;> rfl
theorem TR.h_at (h : TR (tv σ 3) (σ' 334) g P M C) {k : Nat} (hk : k < M) : ∃ n, n ≤ 99 ∧ σ (3 + 12) k = nI n ∧ σ' 334 (112 + 5 * k) = nI n := by
  obtain ⟨n, h1, h2⟩ := (h.c13 k hk).2
  exact ⟨n, h1, h2, (h.c12 k hk).2.2.1.trans h2⟩
theorem hw_add {σ : Mem} {n : Nat} (hn : n ≤ 99) : F_W_happyWithin σ (nI n + 5) = nI (min 99 (n + 5)) := by
  unfold F_W_happyWithin
  rw [show nI n + 5 = nI (n + 5) from nI_add n 5]
  have e : (if nI (n + 5) < 99 then nI (n + 5) else 99) = nI (min (n + 5) 99) := nI_minB (a := n + 5) (n := 99) (by omega) (by omega)
  rw [e, if_pos (show 0 < nI (min (n + 5) 99) from nI_lt (a := 0) (by omega) (by omega)), Nat.min_comm]
theorem hw_sub {σ : Mem} {n : Nat} (hn : n ≤ 99) : F_W_happyWithin σ (nI n + (-5)) = nI (n - 5) ∧ F_M_greater σ 0 (nI n - 5) = nI (n - 5) := by
  have h : ∀ n, n < 100 → F_W_happyWithin z0 (nI n + (-5)) = nI (n - 5) ∧ F_M_greater z0 0 (nI n - 5) = nI (n - 5) := by decide +kernel
  exact h n (by omega)
theorem ro_ci {A : Option (Mem × Int32)} {B : Mem → Option (Mem × Int32)} {c : Int32} (hc : c ≠ 0) (h1 : A = some (σ, c)) (h2 : ∀ σ' : Mem, TR (tv σ 3) (σ' 334) g P M C → ∃ r, B σ' = some (up σ' 333 0 c, r)) : RW i σ g P M C A B := Or.inl ⟨c, hc, h1, h2⟩
theorem rw11 (h : INVg i g P M C σ σ) (a1 a2 : Int32) : RW i σ g P M C (H_meddle σ a1 a2) (fun σ' => F_M_meddle σ' a1 a2) := by
  have hP := h.1.c1.1
  have hM := h.1.c1.2.1
  have hC := h.2.1
  rcases pcase P a1 with ⟨p, hp, rfl⟩ | h1
  · rcases pcase M a2 with ⟨k, hk, rfl⟩ | h2
    · cases hb : bt (insK (tv σ 3) P k) p with
      | false =>
        refine ro_ci (c := 2) (by decide) ?_ fun σ' h' => ?_
        · unfold H_meddle F_W_meddle
          rw [ci_is h.1 hp hk, hb]; rfl
        · unfold F_M_meddle
          rw [(q_pers h' hp).2, ob_s, if_neg (show ¬ (1 : Int32) = 0 by decide), q_match h' hk, ob_s, if_neg (show ¬ (1 : Int32) = 0 by decide), ms_is h' hp hk, ob_s, hb, if_pos (show (if false = true then (1 : Int32) else 0) = 0 from rfl), bind_T, up_s, if_pos lt02]
          exact ⟨_, rfl⟩
      | true =>
        refine rw_change h (Fc := fun τ => F_Town_changeHappy τ 3 (nI k) (-5)) (Fm := fun τ' => obind (F_M_ofMatch τ' (nI k) 2) fun z16 => obind (F_M_told τ' (nI k) 2 ((F_M_greater τ' 0 ((z16 - 5))))) fun z17 => obind (F_M_ofMatch z17 (nI k) 2) fun z18 => some ((z17, z18))) ?_ ?_ ?_
        · intro τ e
          unfold H_meddle F_W_meddle
          rw [ci_is h.1 hp hk, hb]
          show obind (obind (F_W_remember σ) _) _ = _
          rw [e]
          rfl
        · intro σ' τ' h' e
          unfold F_M_meddle
          rw [(q_pers h'.1 hp).2, ob_s, if_neg (show ¬ (1 : Int32) = 0 by decide), q_match h'.1 hk, ob_s, if_neg (show ¬ (1 : Int32) = 0 by decide), ms_is h'.1 hp hk, ob_s, hb, if_neg (show ¬ (if true = true then (1 : Int32) else 0) = 0 by decide), bind_T, up_s, if_neg nlt00, e, ob_s]
        · intro τ τ' _ hI
          obtain ⟨n, hn, e1, e2⟩ := hI.1.h_at hk
          unfold F_Town_changeHappy
          rw [t_happy (by omega), e1, (hw_sub hn).1, t_putH (by omega), bind_T, t_happy (by omega)]
          dsimp only
          rw [up_s, m_mat2 (by omega), ob_s, e2, (hw_sub hn).2, m_told2 (by omega), ob_s, m_mat2 (by omega), ob_s, up_s]
          refine ⟨_, P, M, C, rfl, ?_, by omega, fun q j hq hq2 => up_d (by omega), fun q j hq hq2 => up_d (by omega)⟩
          rw [tv_up, mv_up]
          exact hI.1.happy hk (by omega)
    · refine ro_ci (c := 1) (by decide) ?_ fun σ' h' => ?_
      · unfold H_meddle F_W_meddle
        rw [ci_no h.1 (Or.inr h2)]; rfl
      · unfold F_M_meddle
        rw [(q_pers h' hp).2, ob_s, if_neg (show ¬ (1 : Int32) = 0 by decide), q_nomatch h' h2, ob_s, if_pos rfl, bind_T, up_s, if_pos lt01]
        exact ⟨_, rfl⟩
  · refine ro_ci (c := 1) (by decide) ?_ fun σ' h' => ?_
    · unfold H_meddle F_W_meddle
      rw [ci_no h.1 (Or.inl h1)]; rfl
    · unfold F_M_meddle
      rw [(q_nopers h' h1).2, ob_s, if_pos rfl, bind_T, up_s, if_pos lt01]
      exact ⟨_, rfl⟩
theorem op11 (h : INV i σ) (a1 a2 a3 a4 a5 : Int32) : ∃ σ', S_11 σ a1 a2 a3 a4 a5 = some σ' ∧ INV (i + 1) σ' := by
  obtain ⟨g, P, M, C, h⟩ := h
  exact rw_ok (B := fun σ' => F_M_meddle σ' a1 a2) h (rw11 h a1 a2)
theorem rw10 (h : INVg i g P M C σ σ) (a1 a2 : Int32) : RW i σ g P M C (H_gift σ a1 a2) (fun σ' => F_M_gift σ' a1 a2) := by
  have hP := h.1.c1.1
  have hM := h.1.c1.2.1
  have hC := h.2.1
  rcases pcase P a1 with ⟨p, hp, rfl⟩ | h1
  · rcases pcase M a2 with ⟨k, hk, rfl⟩ | h2
    · cases hb : bt (insK (tv σ 3) P k) p with
      | false =>
        refine ro_ci (c := 2) (by decide) ?_ fun σ' h' => ?_
        · unfold H_gift F_W_gift
          rw [ci_is h.1 hp hk, hb]; rfl
        · unfold F_M_gift
          rw [(q_pers h' hp).2, ob_s, if_neg (show ¬ (1 : Int32) = 0 by decide), q_match h' hk, ob_s, if_neg (show ¬ (1 : Int32) = 0 by decide), ms_is h' hp hk, ob_s, hb, if_pos (show (if false = true then (1 : Int32) else 0) = 0 from rfl), bind_T, up_s, if_pos lt02]
          exact ⟨_, rfl⟩
      | true =>
        obtain ⟨nw, hnw, w1, -⟩ := h.1.w_at hp
        by_cases c : nw < 10
        · refine ro_ci (c := 2) (by decide) ?_ fun σ' h' => ?_
          · unfold H_gift F_W_gift
            rw [ci_is h.1 hp hk, hb]
            show obind (if F_Row_at σ (3 + 1) 8 (nI p) < 10 then _ else _) _ = _
            rw [t_wealth (by omega), w1, if_pos (show nI nw < 10 from nI_lt (b := 10) c (by omega))]
            rfl
          · obtain ⟨nw2, hnw2, w2, w3⟩ := h'.w_at hp
            have e9 : nw2 = nw := nI_inj (by omega) (by omega) (w2.symm.trans w1)
            unfold F_M_gift
            rw [(q_pers h' hp).2, ob_s, if_neg (show ¬ (1 : Int32) = 0 by decide), q_match h' hk, ob_s, if_neg (show ¬ (1 : Int32) = 0 by decide), ms_is h' hp hk, ob_s, hb, if_neg (show ¬ (if true = true then (1 : Int32) else 0) = 0 by decide), m_of0 (by omega), ob_s, w3, if_pos (show nI nw2 < 10 from nI_lt (b := 10) (by omega) (by omega)), bind_T, up_s, if_pos lt02]
            exact ⟨_, rfl⟩
        · refine rw_change h (Fc := fun τ => F_Town_changeHappy (F_Row_put τ (3 + 1) 8 (nI p) (((F_Row_at τ (3 + 1) 8 (nI p)) - 10))) 3 (nI k) 5) (Fm := fun τ' => obind (F_M_of τ' (nI p) 0) fun z28 => obind (F_M_has τ' (nI p) 0 ((z28 - 10))) fun z29 => obind (F_M_ofMatch z29 (nI k) 2) fun z30 => obind (F_M_told z29 (nI k) 2 ((F_M_lesser z29 99 ((z30 + 5))))) fun z31 => obind (F_M_ofMatch z31 (nI k) 2) fun z32 => some ((z31, z32))) ?_ ?_ ?_
          · intro τ e
            unfold H_gift F_W_gift
            rw [ci_is h.1 hp hk, hb]
            show obind (if F_Row_at σ (3 + 1) 8 (nI p) < 10 then _ else _) _ = _
            rw [t_wealth (by omega), w1, if_neg (show ¬ nI nw < 10 from nI_nlt (b := 10) (by omega) (by omega)), e]
            rfl
          · intro σ' τ' h' e
            obtain ⟨nw2, hnw2, w2, w3⟩ := h'.1.w_at hp
            have e9 : nw2 = nw := nI_inj (by omega) (by omega) (w2.symm.trans w1)
            unfold F_M_gift
            rw [(q_pers h'.1 hp).2, ob_s, if_neg (show ¬ (1 : Int32) = 0 by decide), q_match h'.1 hk, ob_s, if_neg (show ¬ (1 : Int32) = 0 by decide), ms_is h'.1 hp hk, ob_s, hb, if_neg (show ¬ (if true = true then (1 : Int32) else 0) = 0 by decide), m_of0 (by omega), ob_s, w3, if_neg (show ¬ nI nw2 < 10 from nI_nlt (b := 10) (by omega) (by omega)), bind_T, up_s, if_neg nlt00, e, ob_s]
          · intro τ τ' er hI
            obtain ⟨n, hn, e1, e2⟩ := hI.1.h_at hk
            obtain ⟨m, hm, e3, e4⟩ := hI.1.w_at hp
            have ew : τ (3 + 2) p = σ (3 + 2) p := fr_F_W_remember σ (by omega) (by omega) (by omega) rfl _ er
            have e9 : m = nw := nI_inj (by omega) (by omega) (e3.symm.trans (ew.trans w1))
            subst e9
            unfold F_Town_changeHappy
            rw [t_wealth (by omega), e3, show nI m - 10 = nI (m - 10) from pk_sub (b := 10) (by omega), t_putW (by omega), t_happy (by omega), up_d (by omega), e1, hw_add hn, t_putH (by omega), bind_T, t_happy (by omega)]
            dsimp only
            rw [up_s, m_of0 (by omega), ob_s, e4, show nI m - 10 = nI (m - 10) from pk_sub (b := 10) (by omega), m_has0 (by omega), ob_s, m_mat2 (by omega), ob_s, up_d (by omega), e2, show F_M_lesser (up τ' 334 (14 + 4 * p) (nI (m - 10))) 99 (nI n + 5) = nI (min 99 (n + 5)) from by
              unfold F_M_lesser
              rw [show nI n + 5 = nI (n + 5) from nI_add n 5]
              exact nI_minB (a := 99) (n := n + 5) (by omega) (by omega), m_told2 (by omega), ob_s, m_mat2 (by omega), ob_s, up_s]
            refine ⟨_, P, M, C, rfl, ?_, by omega, fun q j hq hq2 => ?_, fun q j hq hq2 => ?_⟩
            · have h1 : TR (tv (up τ (3 + 2) p (nI (m - 10))) 3) ((up τ' 334 (14 + 4 * p) (nI (m - 10))) 334) g P M C := hI.1.upW hp (by omega)
              rw [tv_up, mv_up]
              exact h1.happy hk (by omega)
            · rw [up_d (by omega), up_d (by omega)]
            · rw [up_d (by omega), up_d (by omega)]
    · refine ro_ci (c := 1) (by decide) ?_ fun σ' h' => ?_
      · unfold H_gift F_W_gift
        rw [ci_no h.1 (Or.inr h2)]; rfl
      · unfold F_M_gift
        rw [(q_pers h' hp).2, ob_s, if_neg (show ¬ (1 : Int32) = 0 by decide), q_nomatch h' h2, ob_s, if_pos rfl, bind_T, up_s, if_pos lt01]
        exact ⟨_, rfl⟩
  · refine ro_ci (c := 1) (by decide) ?_ fun σ' h' => ?_
    · unfold H_gift F_W_gift
      rw [ci_no h.1 (Or.inl h1)]; rfl
    · unfold F_M_gift
      rw [(q_nopers h' h1).2, ob_s, if_pos rfl, bind_T, up_s, if_pos lt01]
      exact ⟨_, rfl⟩
theorem op10 (h : INV i σ) (a1 a2 a3 a4 a5 : Int32) : ∃ σ', S_10 σ a1 a2 a3 a4 a5 = some σ' ∧ INV (i + 1) σ' := by
  obtain ⟨g, P, M, C, h⟩ := h
  exact rw_ok (B := fun σ' => F_M_gift σ' a1 a2) h (rw10 h a1 a2)
theorem rw13 (h : INVg i g P M C σ σ) (a1 : Int32) : RW i σ g P M C (H_part σ a1) (fun σ' => F_M_part_ σ' a1) := by
  have hP := h.1.c1.1
  have hM := h.1.c1.2.1
  have hC := h.2.1
  rcases pcase M a1 with ⟨k, hk, rfl⟩ | h2
  · by_cases c : bt (σ 3 11) k = true
    · refine ro_ci (c := 2) (by decide) ?_ fun σ' h' => ?_
      · unfold H_part F_W_part F_W_checkGoesOn
        rw [cm_ok h.1 hk, p_over (by omega), if10, if_pos c]; rfl
      · unfold F_M_part_
        rw [q_match h' hk, ob_s, if_neg (show ¬ (1 : Int32) = 0 by decide), m_mat4 (by omega), ob_s, (h'.c12 k hk).2.2.2.2, if11, if_pos (show bt (tv σ 3 0 11) k = true from c), bind_T, up_s, if_pos lt02]
        exact ⟨_, rfl⟩
    · refine rw_change h (Fc := fun τ => (F_Town_endMatch τ 3 (nI k), F_Row_at (F_Town_endMatch τ 3 (nI k)) (3 + 11) 20 (nI k))) (Fm := fun τ' => obind (F_M_told τ' (nI k) 4 1) fun z8 => obind (F_M_ofMatch z8 (nI k) 2) fun z9 => some ((z8, z9))) ?_ ?_ ?_
      · intro τ e
        unfold H_part F_W_part F_W_checkGoesOn
        rw [cm_ok h.1 hk, p_over (by omega), if10, if_neg c]
        show obind (obind (F_W_remember σ) _) _ = _
        rw [e]
        rfl
      · intro σ' τ' h' e
        unfold F_M_part_
        rw [q_match h'.1 hk, ob_s, if_neg (show ¬ (1 : Int32) = 0 by decide), m_mat4 (by omega), ob_s, (h'.1.c12 k hk).2.2.2.2, if11, if_neg (show ¬ bt (tv σ 3 0 11) k = true from c), bind_T, up_s, if_neg nlt00, e, ob_s]
      · intro τ τ' _ hI
        unfold F_Town_endMatch
        rw [bind_T, t_happy (by omega), up_d (by omega), m_told4 (by omega), ob_s, m_mat2 (by omega), ob_s, up_d (by omega), (hI.1.c12 k hk).2.2.1]
        refine ⟨_, P, M, C, rfl, ?_, by omega, fun q j hq hq2 => up_d (by omega), fun q j hq hq2 => up_d (by omega)⟩
        dsimp only
        rw [tv_up0, mv_up]
        exact hI.1.over hk
  · refine ro_ci (c := 1) (by decide) ?_ fun σ' h' => ?_
    · unfold H_part F_W_part
      rw [cm_no h.1 h2]; rfl
    · unfold F_M_part_
      rw [q_nomatch h' h2, ob_s, if_pos rfl, bind_T, up_s, if_pos lt01]
      exact ⟨_, rfl⟩
theorem op13 (h : INV i σ) (a1 a2 a3 a4 a5 : Int32) : ∃ σ', S_13 σ a1 a2 a3 a4 a5 = some σ' ∧ INV (i + 1) σ' := by
  obtain ⟨g, P, M, C, h⟩ := h
  exact rw_ok (B := fun σ' => F_M_part_ σ' a1) h (rw13 h a1)
theorem rw12 (h : INVg i g P M C σ σ) (a1 a2 : Int32) : RW i σ g P M C (H_reinsure σ a1 a2) (fun σ' => F_M_reinsure σ' a1 a2) := by
  have hP := h.1.c1.1
  have hC := h.2.1
  have chg : ∀ p, p < P → (a2 = -1 ∨ ∃ r, r < P ∧ r ≠ p ∧ a2 = nI r) → ∀ τ τ', F_W_remember σ = some τ → INVg i g P M C τ τ' → ∃ τ2' P2 M2 C2, (obind (F_M_of τ' (nI p) 2) fun z13 => obind (F_M_has τ' (nI p) 2 a2) fun z14 => some ((z14, z13))) = some (τ2', F_Row_at τ (3 + 5) 8 (nI p)) ∧ TR (tv (F_Row_put τ (3 + 5) 8 (nI p) a2) 3) (τ2' 334) g P2 M2 C2 ∧ C2 ≤ 1200 * (i + 1) ∧ (∀ q j, (q < 3 ∨ 19 < q) → RelC q ∨ 333 ≤ q → F_Row_put τ (3 + 5) 8 (nI p) a2 q j = τ q j) ∧ ∀ q j, q ≠ 334 → (RelM q j ∨ q < 333 ∨ q = 346 ∨ (q = 333 ∧ j = 0)) → τ2' q j = τ' q j := by
    intro p hp hx τ τ' _ hI
    rw [t_reins (by omega), t_putR (by omega), m_of2 (by omega), ob_s, m_has2 (by omega), ob_s, (hI.1.c6 p hp).2.2.1]
    refine ⟨_, P, M, C, rfl, ?_, by omega, fun q j hq hq2 => up_d (by omega), fun q j hq hq2 => up_d (by omega)⟩
    rw [tv_up, mv_up]
    exact hI.1.reins hp hx
  rcases pcase P a1 with ⟨p, hp, rfl⟩ | h1
  · by_cases c : a2 = -1
    · refine rw_change h (Fc := fun τ => (F_Row_put τ (3 + 5) 8 (nI p) a2, F_Row_at τ (3 + 5) 8 (nI p))) (Fm := fun τ' => obind (F_M_of τ' (nI p) 2) fun z13 => obind (F_M_has τ' (nI p) 2 a2) fun z14 => some ((z14, z13))) ?_ ?_ (chg p hp (Or.inl c))
      · intro τ e
        unfold H_reinsure F_W_reinsure
        rw [cp_ok h.1 hp]
        show obind (if a2 = -1 then _ else _) _ = _
        rw [if_pos c, e]
        rfl
      · intro σ' τ' h' e
        unfold F_M_reinsure
        rw [(q_pers h'.1 hp).2, ob_s, if_neg (show ¬ (1 : Int32) = 0 by decide), if_pos c, if_neg (show ¬ nI p = a2 by rw [c]; exact m1_ne p (by omega)), bind_T, up_s, if_neg nlt00, e, ob_s]
    · rcases two_cases h.1 (nI p) a2 with h2 | ⟨p2, hp2, e1, e2⟩ | ⟨p2, o, hp2, ho, hpo, e1, e2⟩
      · have h3 : ∀ k, k < P → a2 ≠ nI k := by
          rcases h2 with h2 | h2
          · exact absurd rfl (h2 p hp)
          · exact h2
        refine ro_ci (c := 1) (by decide) ?_ fun σ' h' => ?_
        · unfold H_reinsure F_W_reinsure
          rw [cp_ok h.1 hp]
          show obind (if a2 = -1 then _ else _) _ = _
          rw [if_neg c, (two_no h.1 h2).1]; rfl
        · unfold F_M_reinsure
          rw [(q_pers h' hp).2, ob_s, if_neg (show ¬ (1 : Int32) = 0 by decide), if_neg c, (q_nopers h' h3).2, ob_s, if_pos rfl, bind_T, up_s, if_pos lt01]
          exact ⟨_, rfl⟩
      · obtain rfl : p = p2 := nI_inj (by omega) (by omega) e1
        subst e2
        refine ro_ci (c := 2) (by decide) ?_ fun σ' h' => ?_
        · unfold H_reinsure F_W_reinsure
          rw [cp_ok h.1 hp]
          show obind (if nI p = -1 then _ else _) _ = _
          rw [if_neg c, (two_eq h.1 hp).1]; rfl
        · unfold F_M_reinsure
          rw [(q_pers h' hp).2, ob_s, if_neg (show ¬ (1 : Int32) = 0 by decide), if_neg c, ob_s, if_neg (show ¬ (1 : Int32) = 0 by decide), if_pos rfl, bind_T, up_s, if_pos lt02]
          exact ⟨_, rfl⟩
      · obtain rfl : p = p2 := nI_inj (by omega) (by omega) e1
        refine rw_change h (Fc := fun τ => (F_Row_put τ (3 + 5) 8 (nI p) a2, F_Row_at τ (3 + 5) 8 (nI p))) (Fm := fun τ' => obind (F_M_of τ' (nI p) 2) fun z13 => obind (F_M_has τ' (nI p) 2 a2) fun z14 => some ((z14, z13))) ?_ ?_ (chg p hp (Or.inr ⟨o, ho, fun e => hpo e.symm, e2⟩))
        · intro τ e
          unfold H_reinsure F_W_reinsure
          rw [cp_ok h.1 hp]
          show obind (if a2 = -1 then _ else _) _ = _
          rw [if_neg c, e2, (two_ok h.1 hp ho hpo).1]
          show obind (obind (F_W_remember σ) _) _ = _
          rw [e]
          rfl
        · intro σ' τ' h' e
          unfold F_M_reinsure
          rw [(q_pers h'.1 hp).2, ob_s, if_neg (show ¬ (1 : Int32) = 0 by decide), if_neg c, e2, (q_pers h'.1 ho).2, ob_s, if_neg (show ¬ (1 : Int32) = 0 by decide), if_neg (show ¬ nI p = nI o from fun e => hpo (nI_inj (by omega) (by omega) e)), bind_T, up_s, if_neg nlt00, e, ob_s]
  · refine ro_ci (c := 1) (by decide) ?_ fun σ' h' => ?_
    · unfold H_reinsure F_W_reinsure
      rw [cp_no h.1 h1]; rfl
    · unfold F_M_reinsure
      rw [(q_nopers h' h1).2, ob_s, if_pos rfl, bind_T, up_s, if_pos lt01]
      exact ⟨_, rfl⟩
theorem op12 (h : INV i σ) (a1 a2 a3 a4 a5 : Int32) : ∃ σ', S_12 σ a1 a2 a3 a4 a5 = some σ' ∧ INV (i + 1) σ' := by
  obtain ⟨g, P, M, C, h⟩ := h
  exact rw_ok (B := fun σ' => F_M_reinsure σ' a1 a2) h (rw12 h a1 a2)
end INS

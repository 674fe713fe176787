-- PURE STAGE: calls that only ask (2)
theorem isIn7 {σ : Mem} {k : Nat} (hk : k < 7) : F_M_isIn σ (nI k) 0 6 = 1 := by
  have := isIn_yes (σ := σ) (n := 7) hk (by decide)
  rwa [show nI 7 - 1 = (6 : Int32) by decide] at this
theorem isIn7n {σ : Mem} {v : Int32} (hv : ∀ k, k < 7 → v ≠ nI k) : F_M_isIn σ v 0 6 = 0 := by
  have := isIn_no (σ := σ) (n := 7) (by decide) hv
  rwa [show nI 7 - 1 = (6 : Int32) by decide] at this
theorem nz_t {x : Int32} (h : x ≠ 0) : nz x = true := by
  unfold nz
  simp [h]
section SHARE
variable {σ σ' : Mem} {g : Nat → Int32} {t P M C : Nat}
theorem q_share (h : TR (tv σ t) (σ' 334) g P M C) {p : Nat} (hp : p < P) : (obind (F_M_wealths σ') fun z12 => (if z12 = 0 then some ((σ', 0)) else obind (F_M_of σ' (nI p) 0) fun z14 => obind (F_M_wealths σ') fun z15 => chk (nz z15) <| some ((σ', ((100 * z14) / z15))))) = some (σ', F_Town_shareOf σ t (nI p)) := by
  have hP := h.c1.1
  unfold F_Town_shareOf
  obtain ⟨n, hn, e⟩ := sumW_nat h
  rw [(q_sumW h).2, ob_s, (q_sumW h).1, bind_T, e]
  by_cases c : n = 0
  · subst c
    rw [if_pos (show nI 0 = 0 from nI_0), if_neg (show ¬ 0 < nI 0 by rw [nI_0]; decide)]
  · rw [if_neg (nI_ne0 (by omega) (by omega)), if_pos (show 0 < nI n from nI_lt (a := 0) (by omega) (by omega)), m_of0 (by omega), ob_s, ob_s, nz_t (nI_ne0 (by omega) (by omega)), chk_t, t_wealth (by omega), (h.c6 p hp).1, Int32.mul_comm]
    rfl
end SHARE
section OP5
variable {g : Nat → Int32} {P M C i : Nat}
theorem ro5 {σ : Mem} (h : TR (tv σ 3) (σ 334) g P M C) (a1 a2 : Int32) : RO σ g P M C (H_person σ a1 a2) (fun σ' => F_M_person σ' a1 a2) := by
  have hP := h.c1.1
  rcases pcase P a1 with ⟨p, hp, rfl⟩ | h1
  · have chk1 : F_W_checkPerson σ (nI p) = .inr () := by
      unfold F_W_checkPerson
      rw [(q_pers h hp).1]
      rfl
    rcases pcase 7 a2 with ⟨k, hk, rfl⟩ | h2
    · exact match k, hk with
      | 0, _ => by
        refine Or.inr ⟨σ (3 + 2) p, ?_, fun σ' h' => ?_⟩
        · unfold H_person F_W_person
          rw [chk1]
          show some (up σ 346 0 (F_Row_at σ (3 + 1) 8 (nI p)), (0 : Int32)) = _
          rw [t_wealth (by omega)]
        · dsimp only
          unfold F_M_person
          rw [(q_pers h' hp).2, ob_s, if_neg (show ¬ (1 : Int32) = 0 by decide), isIn7 (by decide), if_neg (show ¬ (1 : Int32) = 0 by decide)]
          simp only [bind_T]
          rw [up_s, if_neg nlt00]
          have h2 : TR (tv σ 3) ((up σ' 333 0 0) 334) g P M C := h'.keepM (up_r (by omega))
          rw [if_pos (show nI 0 = (0 : Int32) by decide), m_of0 (by omega), ob_s, (h2.c6 p hp).1]
          rfl
      | 1, _ => by
        refine Or.inr ⟨σ (3 + 4) p, ?_, fun σ' h' => ?_⟩
        · unfold H_person F_W_person
          rw [chk1]
          show some (up σ 346 0 (F_Row_at σ (3 + 3) 8 (nI p)), (0 : Int32)) = _
          rw [t_asked (by omega)]
        · dsimp only
          unfold F_M_person
          rw [(q_pers h' hp).2, ob_s, if_neg (show ¬ (1 : Int32) = 0 by decide), isIn7 (by decide), if_neg (show ¬ (1 : Int32) = 0 by decide)]
          simp only [bind_T]
          rw [up_s, if_neg nlt00]
          have h2 : TR (tv σ 3) ((up σ' 333 0 0) 334) g P M C := h'.keepM (up_r (by omega))
          rw [if_neg (show ¬ nI 1 = (0 : Int32) by decide), if_pos (show nI 1 = (1 : Int32) by decide), m_of1 (by omega), ob_s, (h2.c6 p hp).2.1]
          rfl
      | 2, _ => by
        refine Or.inr ⟨F_Town_askersOf σ 3 (nI p), ?_, fun σ' h' => ?_⟩
        · unfold H_person F_W_person
          rw [chk1]
          rfl
        · dsimp only
          unfold F_M_person
          rw [(q_pers h' hp).2, ob_s, if_neg (show ¬ (1 : Int32) = 0 by decide), isIn7 (by decide), if_neg (show ¬ (1 : Int32) = 0 by decide)]
          simp only [bind_T]
          rw [up_s, if_neg nlt00]
          have h2 : TR (tv σ 3) ((up σ' 333 0 0) 334) g P M C := h'.keepM (up_r (by omega))
          rw [if_neg (show ¬ nI 2 = (0 : Int32) by decide), if_neg (show ¬ nI 2 = (1 : Int32) by decide), if_pos (show nI 2 = (2 : Int32) by decide), (q_askers h2 hp).2, ob_s, (q_askers h2 hp).1]
      | 3, _ => by
        refine Or.inr ⟨σ (3 + 6) p, ?_, fun σ' h' => ?_⟩
        · unfold H_person F_W_person
          rw [chk1]
          show some (up σ 346 0 (F_Row_at σ (3 + 5) 8 (nI p)), (0 : Int32)) = _
          rw [t_reins (by omega)]
        · dsimp only
          unfold F_M_person
          rw [(q_pers h' hp).2, ob_s, if_neg (show ¬ (1 : Int32) = 0 by decide), isIn7 (by decide), if_neg (show ¬ (1 : Int32) = 0 by decide)]
          simp only [bind_T]
          rw [up_s, if_neg nlt00]
          have h2 : TR (tv σ 3) ((up σ' 333 0 0) 334) g P M C := h'.keepM (up_r (by omega))
          rw [if_neg (show ¬ nI 3 = (0 : Int32) by decide), if_neg (show ¬ nI 3 = (1 : Int32) by decide), if_neg (show ¬ nI 3 = (2 : Int32) by decide), if_pos (show nI 3 = (3 : Int32) by decide), m_of2 (by omega), ob_s, (h2.c6 p hp).2.2.1]
          rfl
      | 4, _ => by
        refine Or.inr ⟨(if bt (σ 3 9) p then 1 else 0), ?_, fun σ' h' => ?_⟩
        · unfold H_person F_W_person
          rw [chk1]
          show sumE (sumE (Sum.inr ()) _ (fun _ => (if (F_Town_isRuined σ 3 (nI p)) = 0 then (Sum.inr 0) else (Sum.inr 1)))) _ _ = _
          rw [p_ruined (by omega)]
          cases bt (σ 3 9) p <;> rfl
        · dsimp only
          unfold F_M_person
          rw [(q_pers h' hp).2, ob_s, if_neg (show ¬ (1 : Int32) = 0 by decide), isIn7 (by decide), if_neg (show ¬ (1 : Int32) = 0 by decide)]
          simp only [bind_T]
          rw [up_s, if_neg nlt00]
          have h2 : TR (tv σ 3) ((up σ' 333 0 0) 334) g P M C := h'.keepM (up_r (by omega))
          rw [if_neg (show ¬ nI 4 = (0 : Int32) by decide), if_neg (show ¬ nI 4 = (1 : Int32) by decide), if_neg (show ¬ nI 4 = (2 : Int32) by decide), if_neg (show ¬ nI 4 = (3 : Int32) by decide), if_pos (show nI 4 = (4 : Int32) by decide), m_of3 (by omega), ob_s, (h2.c6 p hp).2.2.2]
          rfl
      | 5, _ => by
        refine Or.inr ⟨F_Town_spouseOf σ 3 (nI p), ?_, fun σ' h' => ?_⟩
        · unfold H_person F_W_person
          rw [chk1]
          rfl
        · dsimp only
          unfold F_M_person
          rw [(q_pers h' hp).2, ob_s, if_neg (show ¬ (1 : Int32) = 0 by decide), isIn7 (by decide), if_neg (show ¬ (1 : Int32) = 0 by decide)]
          simp only [bind_T]
          rw [up_s, if_neg nlt00]
          have h2 : TR (tv σ 3) ((up σ' 333 0 0) 334) g P M C := h'.keepM (up_r (by omega))
          rw [if_neg (show ¬ nI 5 = (0 : Int32) by decide), if_neg (show ¬ nI 5 = (1 : Int32) by decide), if_neg (show ¬ nI 5 = (2 : Int32) by decide), if_neg (show ¬ nI 5 = (3 : Int32) by decide), if_neg (show ¬ nI 5 = (4 : Int32) by decide), if_pos (show nI 5 = (5 : Int32) by decide), (q_sp h2 _).2, ob_s, (q_sp h2 _).1]
      | 6, _ => by
        refine Or.inr ⟨F_Town_shareOf σ 3 (nI p), ?_, fun σ' h' => ?_⟩
        · unfold H_person F_W_person
          rw [chk1]
          rfl
        · dsimp only
          unfold F_M_person
          rw [(q_pers h' hp).2, ob_s, if_neg (show ¬ (1 : Int32) = 0 by decide), isIn7 (by decide), if_neg (show ¬ (1 : Int32) = 0 by decide)]
          simp only [bind_T]
          rw [up_s, if_neg nlt00]
          have h2 : TR (tv σ 3) ((up σ' 333 0 0) 334) g P M C := h'.keepM (up_r (by omega))
          rw [if_neg (show ¬ nI 6 = (0 : Int32) by decide), if_neg (show ¬ nI 6 = (1 : Int32) by decide), if_neg (show ¬ nI 6 = (2 : Int32) by decide), if_neg (show ¬ nI 6 = (3 : Int32) by decide), if_neg (show ¬ nI 6 = (4 : Int32) by decide), if_neg (show ¬ nI 6 = (5 : Int32) by decide)]
          exact q_share h2 hp
      | k + 7, h9 => absurd h9 (by omega)
    · refine Or.inl ⟨2, by decide, ?_, fun σ' h' => ?_⟩
      · unfold H_person F_W_person
        rw [chk1]
        show sumE (if a2 = 0 then _ else _) _ _ = _
        rw [if_neg (show ¬ a2 = 0 from h2 0 (by decide)), if_neg (show ¬ a2 = 1 from h2 1 (by decide)), if_neg (show ¬ a2 = 2 from h2 2 (by decide)), if_neg (show ¬ a2 = 3 from h2 3 (by decide)), if_neg (show ¬ a2 = 4 from h2 4 (by decide)), if_neg (show ¬ a2 = 5 from h2 5 (by decide)), if_neg (show ¬ a2 = 6 from h2 6 (by decide))]
        rfl
      · dsimp only
        unfold F_M_person
        rw [(q_pers h' hp).2, ob_s, if_neg (show ¬ (1 : Int32) = 0 by decide), isIn7n h2, if_pos rfl]
        simp only [bind_T]
        rw [up_s, if_pos lt02]
        exact ⟨0, rfl⟩
  · refine Or.inl ⟨1, by decide, ?_, fun σ' h' => ?_⟩
    · unfold H_person F_W_person F_W_checkPerson
      rw [(q_nopers h h1).1]; rfl
    · dsimp only
      unfold F_M_person
      rw [(q_nopers h' h1).2, ob_s, if_pos rfl]
      simp only [bind_T]
      rw [up_s, if_pos lt01]
      exact ⟨0, rfl⟩
theorem op5 {σ : Mem} (h : INV i σ) (a1 a2 a3 a4 a5 : Int32) : ∃ σ', S_5 σ a1 a2 a3 a4 a5 = some σ' ∧ INV (i + 1) σ' := by
  obtain ⟨g, P, M, C, h⟩ := h
  exact ro_ok (B := fun σ' => F_M_person σ' a1 a2) h (ro5 h.1 a1 a2)
end OP5

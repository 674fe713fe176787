-- PURE STAGE: all claims at once
section FALL
variable {σ σ' : Mem} {g : Nat → Int32} {t P M C i : Nat}
theorem up_id {σ : Mem} {q j : Nat} {v : Int32} (h : σ q j = v) : up σ q j v = σ := by
  funext a b
  unfold up
  by_cases e : a = q ∧ b = j
  · obtain ⟨rfl, rfl⟩ := e
    rw [if_pos ⟨rfl, rfl⟩, h]
  · rw [if_neg e]
theorem TR.claimOver (h : TR (tv σ t) (σ' 334) g P M C) {k : Nat} (hk : k < M) (hov : bt (tv σ t 0 11) k = true) : ∃ r, F_M_claims σ' (nI k) = some (σ', r) := by
  have hP := h.c1.1
  have hM := h.c1.2.1
  have e : insK (tv σ t) P k = 0 := by unfold insK; exact if_pos hov
  unfold F_M_claims
  rw [(q_insK h hk).2, ob_s, e]
  have e1 : whl (fun s => F_M_claims_11_b (nI k) 0 s.1 s.2.1 s.2.2) FUEL ((0 : Int32), (0 : Int32), σ') = some (0, nI P, σ') := by
    refine whl_n (fun j => ((0 : Int32), nI j, σ')) P (0, nI P, σ') (by unfold FUEL; omega) (fun j hj => ?_) ?_
    · dsimp only
      unfold F_M_claims_11_b
      rw [show σ' 334 3 = nI P from h.c3.1, if_pos (nI_lt hj (by omega)), p_isOf (by omega), b_0, if_pos (show (if false = true then (1 : Int32) else 0) = 0 from rfl), bind_T, nI_1]
    · dsimp only
      unfold F_M_claims_11_b
      rw [show σ' 334 3 = nI P from h.c3.1, if_neg (nI_nlt (by omega) (by omega))]
  rw [e1, ob_s]
  dsimp only
  obtain ⟨a, b, ha, hb, -, -, -, e3, e4⟩ := h.m_at hk
  obtain ⟨na, hna, -, va⟩ := h.w_at ha
  obtain ⟨nb, hnb, -, vb⟩ := h.w_at hb
  rw [m_mat0 (by omega), ob_s, e3, show (0 : Int32) / 2 = nI 0 by decide, m_gets (by omega) va hna (by omega), ob_s, Nat.add_zero na, Nat.min_eq_left hna, up_id va, m_mat1 (by omega), ob_s, e4, show (0 : Int32) - nI 0 = nI 0 by decide, m_gets (by omega) vb hnb (by omega), ob_s, Nat.add_zero nb, Nat.min_eq_left hnb, up_id vb]
  exact ⟨_, rfl⟩
theorem TR.claimAll {σ σ' : Mem} (h : TR (tv σ 95) (σ' 334) g P M C) : ∃ σ1 x1 σ1', F_For_claimAll σ = some σ1 ∧ whl (fun s => F_M_fallsNow_2_b s.1 s.2) FUEL (0, σ') = some (x1, σ1') ∧ TR (tv σ1 95) (σ1' 334) g P M C := by
  have hM := h.c1.2.1
  unfold F_For_claimAll
  obtain ⟨x, x', e1, e2, e3⟩ := whl_pair (F := fun s => F_For_claimAll_2_b s.1 s.2) (F' := fun s => F_M_fallsNow_2_b s.1 s.2)
    (fun i s s' => ∃ σ1 σ1', s = (nI i, σ1) ∧ s' = (nI i, σ1') ∧ TR (tv σ1 95) (σ1' 334) g P M C)
    (fun x x' => TR (tv x.2 95) (x'.2 334) g P M C) M
    (fun i s s' hi hI => by
      obtain ⟨σ1, σ1', rfl, rfl, hT⟩ := hI
      by_cases hiM : i < M
      · refine Or.inr ⟨hiM, ?_⟩
        dsimp only
        unfold F_For_claimAll_2_b F_M_fallsNow_2_b
        rw [show σ1 95 10 = nI M from hT.c2.2.1, show σ1' 334 4 = nI M from hT.c3.2.1, if_pos (nI_lt hiM (by omega)), if_pos (nI_lt hiM (by omega)), p_over (by omega), if10]
        by_cases c : bt (σ1 95 11) i = true
        · obtain ⟨r, er⟩ := hT.claimOver hiM c
          rw [if_pos c, er, ob_s, bind_T, bind_T, nI_1]
          exact ⟨_, _, rfl, rfl, σ1, σ1', rfl, rfl, hT⟩
        · obtain ⟨σ2, σ2', s, -, f1, f2, f3⟩ := hT.claim hiM
          rw [if_neg c, f1, f2, ob_s, ob_s, bind_T, bind_T, nI_1]
          exact ⟨_, _, rfl, rfl, σ2, σ2', rfl, rfl, f3⟩
      · obtain rfl : i = M := by omega
        refine Or.inl ?_
        dsimp only
        unfold F_For_claimAll_2_b F_M_fallsNow_2_b
        rw [show σ1 95 10 = nI i from hT.c2.2.1, show σ1' 334 4 = nI i from hT.c3.2.1, if_neg (nI_nlt (by omega) (by omega)), if_neg (nI_nlt (by omega) (by omega))]
        exact ⟨_, _, rfl, rfl, hT⟩) M 0 FUEL (0, σ) (0, σ') rfl (by unfold FUEL; omega) ⟨σ, σ', rfl, rfl, h⟩
  rw [e1, ob_s]
  exact ⟨_, _, _, rfl, e2, e3⟩
/-- who falls: the class's mask and the reference's -/
theorem q_fall {σ σ' : Mem} {T0 : Nat → Nat → Int32} {f0 : Nat → Int32} (h : TR (tv σ 95) (σ' 334) g P M C) (h0 : TR T0 f0 g P M C) (ha : ∀ j, j < 450 → σ' 336 j = f0 j) : forSO (fun i s => F_M_fallsNow_28_b σ' i s) (cnt 0 (σ' 334 3)) 0 0 = some ((σ 95 9) &&& ((T0 0 9) ^^^ (-1))) := by
  have hP := h.c1.1
  rw [show σ' 334 3 = nI P from h.c3.1, p_cnt0 (by omega)]
  rw [forSO_0 (fun k s => if (bt (σ 95 9) k && !(bt (T0 0 9) k)) = true then s ||| ((1 : Int32) <<< (nI k &&& 31)) else s) fun k hk => ?_]
  · congr 1
    show sOf (fun k => bt (σ 95 9) k && !(bt (T0 0 9) k)) P = _
    apply b_ext
    intro j hj
    rw [sOf_bt _ (by omega) hj, b_and, b_not hj]
    by_cases c : j < P
    · rw [decide_eq_true c, Bool.true_and]
    · rw [decide_eq_false c, Bool.false_and, show bt (σ 95 9) j = false from h.c9 j (by omega) hj, Bool.false_and]
  · generalize itr _ k (0 : Int32) = x
    unfold F_M_fallsNow_28_b
    rw [m_of3 (by omega), ob_s, (h.c6 k hk).2.2.2, if11, bind_T, show (14 : Int32) + 4 * nI k + 3 = nI (14 + 4 * k + 3) from ix_p (w := 3), p_inb (by omega) (by decide), chk_t, p_cl (by omega), ha _ (by omega), show 14 + 4 * k + 3 = 17 + 4 * k by omega, (h0.c6 k hk).2.2.2, if10]
    simp only [bind_T, or0]
    show (if bt (σ 95 9) k = true then _ else _) = _
    cases bt (σ 95 9) k <;> cases bt (T0 0 9) k <;> rfl
end FALL

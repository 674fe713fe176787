-- PURE STAGE: count, richest, seed
theorem INVg.newT {i : Nat} {g : Nat → Int32} {P M C P2 M2 C2 : Nat} {σ σ2 : Mem} (h : INVg i g P M C σ σ) (hT : TR (tv σ2 3) (σ2 334) g P2 M2 C2) (hC : C2 ≤ 1200 * (i + 1)) (hc : ∀ q j, RelC q → (q < 3 ∨ 19 < q) → σ2 q j = σ q j) (hm : ∀ q j, RelM q j → q ≠ 334 → σ2 q j = σ q j) : INVg (i + 1) g P2 M2 C2 σ2 σ2 := by
  obtain ⟨h1, h2, h3, h4, h5, h6, h7⟩ := h
  refine ⟨hT, hC, h3.to (fun r hr j => hc _ _ (by unfold RelC; omega) (by omega)), h4.to (fun j => hc _ _ (by unfold RelC; omega) (by omega)) (fun j => hc _ _ (by unfold RelC; omega) (by omega)) (hm _ _ (by unfold RelM; omega) (by omega)) (fun j => hm _ _ (by unfold RelM; omega) (by omega)), ?_, h6.to (by omega) (hc _ _ (by unfold RelC; omega) (by omega)) (fun q h8 h9 j => hc _ _ (by unfold RelC; omega) (by omega)) (hm _ _ (by unfold RelM; omega) (by omega)) (fun j => hm _ _ (by unfold RelM; omega) (by omega)), h7.to (by omega) ⟨hc _ _ (by unfold RelC; omega) (by omega), hc _ _ (by unfold RelC; omega) (by omega)⟩ (fun q h8 h9 j => hc _ _ (by unfold RelC; omega) (by omega)) (hm _ _ (by unfold RelM; omega) (by omega)) (fun j => hm _ _ (by unfold RelM; omega) (by omega))⟩
  rw [hc 0 13 (by unfold RelC; omega) (by omega), hm 333 12 (by unfold RelM; omega) (by omega)]
  exact h5
section CNT
variable {σ σ' : Mem} {g : Nat → Int32} {t P M C i : Nat}
theorem op39 (h : INV i σ) (a1 a2 a3 a4 a5 : Int32) : ∃ σ', S_39 σ a1 a2 a3 a4 a5 = some σ' ∧ INV (i + 1) σ' := by
  obtain ⟨g, P, M, C, h⟩ := h
  have hC := h.2.1
  unfold S_39 F_W_seed F_M_seed
  simp only [bind_T, ob_s]
  rw [up_d (by omega), up_d (by omega), if_pos (show σ 3 17 = σ 334 12 from h.1.c4.2.2.2.2.2.2.symm)]
  refine ⟨_, rfl, g, P, M, C, h.newT ?_ (by omega) (fun q j hq hq2 => ?_) (fun q j hq hq2 => ?_)⟩
  · have h1 : TR (tv (up σ 3 17 a1) 3) ((up σ 334 12 a1) 334) g P M C := by rw [tv_up0, mv_up]; exact h.1.seed
    refine h1.keep2 (fun r hr j => ?_) (fun j => ?_)
    · rw [up_d (by omega), up_d (by omega)]
    · unfold up
      by_cases e : j = 12
      · subst e; rfl
      · rw [if_neg (by omega), if_neg (by omega), if_neg (by omega), if_neg (by omega)]
  · unfold RelC at hq
    rw [up_d (by omega), up_d (by omega), up_d (by omega)]
  · unfold RelM at hq
    rw [up_d (by omega), up_d (by omega), up_d (by omega)]
theorem q_rich (h : TR (tv σ t) (σ' 334) g P M C) : forSO (fun i s => F_M_richest_9_b σ' i s) (cnt 0 (σ' 334 3)) 0 (-1) = some (F_Town_richestPerson σ t) := by
  have hP := h.c1.1
  unfold F_Town_richestPerson
  rw [show σ' 334 3 = nI P from h.c3.1, show σ t 8 = nI P from h.c2.1, p_cnt0 (by omega), bind_T]
  refine (for_eq (fun v => v = -1 ∨ ∃ o, o < P ∧ v = nI o) (Or.inl rfl) fun k s hk hs => ?_).1
  unfold F_M_richest_9_b F_Town_richestPerson_4_b
  rw [m_of3 (by omega), ob_s, (h.c6 k hk).2.2.2, p_ruined (by omega), if10, if10]
  show (if bt (σ t 9) k = true then _ else _) = some (if bt (σ t 9) k = true then _ else _) ∧ _
  by_cases c : bt (σ t 9) k = true
  · rw [if_pos c, if_pos c]
    exact ⟨rfl, hs⟩
  · rw [if_neg c, if_neg c]
    rcases hs with rfl | ⟨o, ho, rfl⟩
    · rw [if_pos rfl, if_pos rfl]
      exact ⟨rfl, Or.inr ⟨k, hk, rfl⟩⟩
    · rw [if_neg (m1_ne o (by omega)), if_neg (m1_ne o (by omega)), m_of0 (by omega), ob_s, m_of0 (by omega), ob_s, (h.c6 k hk).1, (h.c6 o ho).1, t_wealth (by omega), t_wealth (by omega)]
      show (if σ (t + 2) o < σ (t + 2) k then _ else _) = some (if σ (t + 2) o < σ (t + 2) k then _ else _) ∧ _
      by_cases c2 : σ (t + 2) o < σ (t + 2) k
      · rw [if_pos c2, if_pos c2]
        exact ⟨rfl, Or.inr ⟨k, hk, rfl⟩⟩
      · rw [if_neg c2, if_neg c2]
        exact ⟨rfl, Or.inr ⟨o, ho, rfl⟩⟩
theorem op34 (h : INV i σ) (a1 a2 a3 a4 a5 : Int32) : ∃ σ', S_34 σ a1 a2 a3 a4 a5 = some σ' ∧ INV (i + 1) σ' := by
  have h0 := h
  obtain ⟨g, P, M, C, h⟩ := h
  refine ⟨up σ 333 0 0, ?_, h0.to fun q j hq => up_d (by unfold RelC RelM at hq; omega)⟩
  unfold S_34 F_M_richest F_W_richest
  have h2 : TR (tv σ 3) ((up σ 333 0 0) 334) g P M C := h.1.keepM (up_r (by omega))
  rw [bind_T, q_rich h2, ob_s, ob_s, if_pos rfl]
theorem q_ruined (h : TR (tv σ t) (σ' 334) g P M C) : F_M_ruinedOnes σ' = some (σ t 9) := by
  have hP := h.c1.1
  unfold F_M_ruinedOnes
  rw [show σ' 334 3 = nI P from h.c3.1, p_cnt0 (by omega)]
  rw [forSO_0 (fun k s => if bt (σ t 9) k then s ||| ((1 : Int32) <<< (nI k &&& 31)) else s) fun k hk => ?_]
  · rw [ob_s]
    congr 1
    show sOf (fun k => bt (σ t 9) k) P = σ t 9
    apply b_ext
    intro j hj
    rw [sOf_bt _ (by omega) hj]
    by_cases c : j < P
    · rw [decide_eq_true c, Bool.true_and]
    · rw [decide_eq_false c, Bool.false_and]
      exact (h.c9 j (by omega) hj).symm
  · unfold F_M_ruinedOnes_4_b
    rw [m_of3 (by omega), ob_s, (h.c6 k hk).2.2.2, bind_T]
    show some (_ ||| ((if bt (σ t 9) k = true then (1 : Int32) else 0) <<< (nI k &&& 31))) = _
    generalize itr _ k (0 : Int32) = x
    cases bt (σ t 9) k with
    | true => rfl
    | false =>
      show some (x ||| ((0 : Int32) <<< (nI k &&& 31))) = some x
      rw [show (0 : Int32) <<< (nI k &&& 31) = 0 from b_ext fun j hj => by rw [b_shl k (by omega) 0 hj, b_0, b_0, Bool.and_false], or0]
theorem q_wedP (h : TR (tv σ t) (σ' 334) g P M C) : F_M_wedOnes σ' = some (F_Town_wedPeople σ t) := by
  have hP := h.c1.1
  unfold F_M_wedOnes F_Town_wedPeople
  rw [show σ' 334 3 = nI P from h.c3.1, show σ t 8 = nI P from h.c2.1, p_cnt0 (by omega), bind_T]
  rw [for_eqT (F := fun i s => F_Town_wedPeople_4_b σ t i s) fun k s hk => ?_, ob_s]
  unfold F_M_wedOnes_4_b F_Town_wedPeople_4_b
  rw [(q_sp h _).2, ob_s, q_wed h]
  by_cases c : sp (tv σ t) M (nI k) = -1
  · rw [if_pos c, if_pos c, bind_T, or0, if_pos rfl]
  · rw [if_neg c, if_neg c, if_neg (by decide)]
    rfl
theorem ncount {v : Int32} {k : Nat} (h : ∀ j, j < 15 → v ≠ nI j) (hk : k < 15) : ¬ v = nI k := h k hk
theorem op43 (h : INV i σ) (a1 a2 a3 a4 a5 : Int32) : ∃ σ', S_43 σ a1 a2 a3 a4 a5 = some σ' ∧ INV (i + 1) σ' := by
  have h0 := h
  obtain ⟨g, P, M, C, h⟩ := h
  refine ⟨up σ 333 0 0, ?_, h0.to fun q j hq => up_d (by unfold RelC RelM at hq; omega)⟩
  have h2 : TR (tv σ 3) ((up σ 333 0 0) 334) g P M C := h.1.keepM (up_r (by omega))
  have key : F_M_count σ a1 = some (up σ 333 0 0, F_W_count σ a1) := by
    obtain ⟨hT, -, ⟨Λ, -, -, hl⟩, -, -, -, o, A, -, -, -, hA, hA2, -⟩ := h
    have g1 := hT.c16 1 (by omega)
    unfold F_M_count F_W_count
    rw [bind_T]
    rcases pcase 15 a1 with ⟨k, hk, rfl⟩ | hn
    · have f : ∀ j, (up σ 333 0 0) 334 j = σ 334 j := fun j => up_d (by omega)
      exact match k, hk with
      | 0, _ => by
        show some (up σ 333 0 0, (up σ 333 0 0) 334 3) = some (up σ 333 0 0, σ 3 8)
        rw [f, hT.c3.1, show σ 3 8 = nI P from hT.c2.1]
      | 1, _ => by
        show some (up σ 333 0 0, (up σ 333 0 0) 334 4) = some (up σ 333 0 0, σ 3 10)
        rw [f, hT.c3.2.1, show σ 3 10 = nI M from hT.c2.2.1]
      | 2, _ => by
        show some (up σ 333 0 0, (up σ 333 0 0) 334 0) = some (up σ 333 0 0, σ 3 18)
        rw [f, hT.c4.1]; rfl
      | 3, _ => by
        show some (up σ 333 0 0, (up σ 333 0 0) 334 1) = some (up σ 333 0 0, σ 20 5)
        rw [f, g1, hl]
      | 4, _ => by
        show some (up σ 333 0 0, (up σ 333 0 0) 334 8) = some (up σ 333 0 0, σ 3 15)
        rw [f, hT.c4.2.2.2.2.1]; rfl
      | 5, _ => by
        show some (up σ 333 0 0, (up σ 333 0 0) 334 9) = some (up σ 333 0 0, σ 3 16)
        rw [f, hT.c4.2.2.2.2.2.1]; rfl
      | 6, _ => by
        show some (up σ 333 0 0, (up σ 333 0 0) 334 5) = some (up σ 333 0 0, σ 3 12)
        rw [f, hT.c4.2.1]; rfl
      | 7, _ => by
        show some (up σ 333 0 0, (up σ 333 0 0) 334 6) = some (up σ 333 0 0, σ 3 13)
        rw [f, hT.c4.2.2.1]; rfl
      | 8, _ => by
        show some (up σ 333 0 0, (up σ 333 0 0) 334 7) = some (up σ 333 0 0, σ 3 14)
        rw [f, hT.c4.2.2.2.1]; rfl
      | 9, _ => by
        show (obind (F_M_wealths (up σ 333 0 0)) fun z17 => some ((up σ 333 0 0), z17)) = some (up σ 333 0 0, F_Town_wealthOfAll σ 3)
        rw [(q_sumW h2).2, ob_s, (q_sumW h2).1]
      | 10, _ => by
        show (obind (F_M_ruinedOnes (up σ 333 0 0)) fun z17 => some ((up σ 333 0 0), z17)) = some (up σ 333 0 0, σ 3 9)
        rw [q_ruined h2, ob_s]
      | 11, _ => by
        show (obind (F_M_wedOnes (up σ 333 0 0)) fun z17 => some ((up σ 333 0 0), z17)) = some (up σ 333 0 0, F_Town_wedPeople σ 3)
        rw [q_wedP h2, ob_s]
      | 12, _ => by
        show some (up σ 333 0 0, (up σ 333 0 0) 334 10) = some (up σ 333 0 0, σ 3 19)
        rw [f, hT.c3.2.2.1, show σ 3 19 = nI C from hT.c2.2.2]
      | 13, _ => by
        show some (up σ 333 0 0, (up σ 333 0 0) 334 11) = some (up σ 333 0 0, F_Town_logRows σ 3)
        rw [f, (q_rows hT).1, (q_rows hT).2]
      | 14, _ => by
        show some (up σ 333 0 0, (up σ 333 0 0) 333 6) = some (up σ 333 0 0, σ 0 16)
        rw [up_d (by omega), hA, hA2]
      | k + 15, h9 => absurd h9 (by omega)
    · have e : ∀ k, k < 15 → ¬ a1 = nI k := hn
      have i6 : F_M_isIn (up σ 333 0 0) a1 6 8 = 0 := by
        unfold F_M_isIn
        by_cases c1 : a1 < 6
        · rw [if_pos c1]
        · rw [if_neg c1, if_pos]
          have c0 : ¬ a1 < 0 := fun h => c1 (Int32.lt_trans h (by decide))
          obtain ⟨j, hj, rfl⟩ := nI_of c0
          have hj2 : 15 ≤ j := Nat.not_lt.mp fun h => hn j h rfl
          exact nI_lt (a := 8) (by omega) hj
      rw [i6, if_pos (rfl : (0 : Int32) = 0)]
      rw [if_neg (show ¬ a1 = 0 from e 0 (by decide)), if_neg (show ¬ a1 = 1 from e 1 (by decide)), if_neg (show ¬ a1 = 2 from e 2 (by decide)), if_neg (show ¬ a1 = 3 from e 3 (by decide)), if_neg (show ¬ a1 = 4 from e 4 (by decide)), if_neg (show ¬ a1 = 5 from e 5 (by decide)), if_neg (show ¬ a1 = 9 from e 9 (by decide)), if_neg (show ¬ a1 = 10 from e 10 (by decide)), if_neg (show ¬ a1 = 11 from e 11 (by decide)), if_neg (show ¬ a1 = 12 from e 12 (by decide)), if_neg (show ¬ a1 = 13 from e 13 (by decide)), if_neg (show ¬ a1 = 14 from e 14 (by decide))]
      rw [if_neg (show ¬ a1 = 0 from e 0 (by decide)), if_neg (show ¬ a1 = 1 from e 1 (by decide)), if_neg (show ¬ a1 = 2 from e 2 (by decide)), if_neg (show ¬ a1 = 3 from e 3 (by decide)), if_neg (show ¬ a1 = 4 from e 4 (by decide)), if_neg (show ¬ a1 = 5 from e 5 (by decide)), if_neg (show ¬ a1 = 6 from e 6 (by decide)), if_neg (show ¬ a1 = 7 from e 7 (by decide)), if_neg (show ¬ a1 = 8 from e 8 (by decide)), if_neg (show ¬ a1 = 9 from e 9 (by decide)), if_neg (show ¬ a1 = 10 from e 10 (by decide)), if_neg (show ¬ a1 = 11 from e 11 (by decide)), if_neg (show ¬ a1 = 12 from e 12 (by decide)), if_neg (show ¬ a1 = 13 from e 13 (by decide)), if_neg (show ¬ a1 = 14 from e 14 (by decide))]
  unfold S_43
  rw [key, ob_s, if_pos rfl]
end CNT

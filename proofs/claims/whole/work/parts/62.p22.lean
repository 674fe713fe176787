-- PURE STAGE: odds, ahead, first
section AH
variable {σ σ' : Mem} {g : Nat → Int32} {P M C i : Nat}
theorem insK_eq {T T2 : Nat → Nat → Int32} {P k : Nat} (h1 : T2 0 11 = T 0 11) (h2 : ∀ j, T2 10 j = T 10 j) (h3 : T2 0 9 = T 0 9) (h4 : ∀ p, T2 4 p = T 4 p) : insK T2 P k = insK T P k := by
  have e : inC T2 = inC T := by
    funext a b p
    unfold inC
    rw [h3, h4]
  unfold insK ins insS
  rw [h1, h2, h2, e]
theorem like_eq {T T2 : Nat → Nat → Int32} {k : Nat} (h2 : ∀ j, T2 10 j = T 10 j) (h8 : ∀ j, T2 8 j = T 8 j) : likeS T2 k = likeS T k := by
  unfold likeS faN fbN
  rw [h2, h2, h8, h8]
theorem rich_eq {T T2 : Nat → Nat → Int32} {k : Nat} (h2 : ∀ j, T2 10 j = T 10 j) (h8 : ∀ j, T2 2 j = T 2 j) : richB T2 k = richB T k := by
  unfold richB faN fbN
  rw [h2, h2, h8, h8]
theorem rs20 (h : INVg i g P M C σ σ) (a1 : Int32) : RS i σ g P M C (H_odds σ a1) (fun σ' => F_M_odds σ' a1) := by
  have hM := h.1.c1.2.1
  obtain ⟨Λ, l1, l2, -⟩ := h.2.2.1
  rcases pcase M a1 with ⟨k, hk, rfl⟩ | h1
  · by_cases ov : bt (σ 3 11) k = true
    · refine Or.inr ⟨σ, 0, ?_, fun _ _ _ => rfl, fun σ' h' => ⟨up σ' 333 0 0, ?_, fun q j hq => up_d (by unfold RelM at hq; omega), up_s⟩⟩
      · unfold H_odds F_W_odds
        rw [cm_ok h.1 hk, co_is h.1 hk, if10]
        show obind (if bt (σ 3 11) k = true then _ else _) _ = _
        rw [if_pos ov]; rfl
      · dsimp only
        unfold F_M_odds
        have h2 := (h'.th (c := 0)).1
        rw [q_match h'.1 hk, ob_s, if_neg (show ¬ (1 : Int32) = 0 by decide), bind_T, show cnt 0 10 = 9 + 1 by decide]
        have e1 : F_M_odds_21_b (nI k) 0 0 (up σ' 333 0 0) = some (.inr (0, up σ' 333 0 0)) := by
          unfold F_M_odds_21_b
          rw [up_s, if_pos rfl, m_mat4 (by omega), ob_s, (h2.c12 k hk).2.2.2.2, if10, if_pos (show bt (tv σ 3 0 11) k = true from ov)]
        have e2 : forGO (fun i s => F_M_odds_21_b (nI k) i s.1 s.2) (9 + 1) 0 (0, up σ' 333 0 0) = some (.inr (0, up σ' 333 0 0)) := by
          show obind (F_M_odds_21_b (nI k) 0 0 (up σ' 333 0 0)) _ = _
          rw [e1]
          rfl
        rw [e2]
        rfl
    · -- the class's ten looks
      have key : ∀ (σ' : Mem), TR (tv σ 3) (σ' 334) g P M C → σ' 333 0 = 0 → ∃ m1 s1' n, forSO (fun i s => F_For_claimQuarrels_16_b 3 20 (nI k) i s.1 s.2) 10 0 (0, F_Town_lookAt σ 3 (nI k) 0 112) = some (nI n, m1) ∧ forGO (fun i s => F_M_odds_21_b (nI k) i s.1 s.2) 10 0 (0, σ') = some (.inl (nI n, s1')) ∧ (∀ q j, q ≠ 27 → q ≠ 112 → m1 q j = σ q j) ∧ (∀ q j, q ≠ 339 → (q ≠ 333 ∨ (j ≠ 9 ∧ j ≠ 10 ∧ j ≠ 11 ∧ j ≠ 13 ∧ j ≠ 15 ∧ j ≠ 16)) → s1' q j = σ' q j) := by
        intro σ' h2 h0
        have L0 : ∀ q j, q ≠ 112 → F_Town_lookAt σ 3 (nI k) 0 112 q j = σ q j := fun q j hq => fr_F_Town_lookAt σ 3 (nI k) 0 112 (by omega) rfl
        have F0 := look_LKF h2 hk 0 (by omega)
        -- both loops, turn by turn
        have loop : ∀ (d v : Nat) (n : Nat) (m s' : Mem) (q0 : Int32), d + v = 10 → LKF m (tv σ 3) P k q0 → (∀ q j, q ≠ 27 → q ≠ 112 → m q j = σ q j) → TR (tv σ 3) (s' 334) g P M C → s' 333 0 = 0 → ∃ m1 s1' n1, forSO (fun i s => F_For_claimQuarrels_16_b 3 20 (nI k) i s.1 s.2) d (nI v) (nI n, m) = some (nI n1, m1) ∧ forGO (fun i s => F_M_odds_21_b (nI k) i s.1 s.2) d (nI v) (nI n, s') = some (.inl (nI n1, s1')) ∧ (∀ q j, q ≠ 27 → q ≠ 112 → m1 q j = σ q j) ∧ (∀ q j, q ≠ 339 → (q ≠ 333 ∨ (j ≠ 9 ∧ j ≠ 10 ∧ j ≠ 11 ∧ j ≠ 13 ∧ j ≠ 15 ∧ j ≠ 16)) → s1' q j = s' q j) := by
          intro d
          induction d with
          | zero => intro v n m s' q0 _ _ hm _ _; exact ⟨m, s', n, rfl, rfl, hm, fun _ _ _ _ => rfl⟩
          | succ d ih =>
            intro v n m s' q0 hd hF hm hT hz
            have F1 : LKF (up m 112 2 (nI v)) (tv σ 3) P k (nI v) := by
              obtain ⟨a0, a1, a2, a3, a4, a5, a6⟩ := hF
              refine ⟨?_, ?_, up_s, ?_, ?_, ?_, ?_⟩
              all_goals rw [up_d (by omega)]
              all_goals assumption
            have L1 : CLs (up m 112 2 (nI v)) 20 Λ := l1.to fun r hr j => by rw [up_d (by omega)]; exact hm _ _ (by omega) (by omega)
            obtain ⟨m1, e1, e2⟩ := lk_turned L1 F1
            obtain ⟨s1', f1, f2, f3⟩ := m_next hT l2 hk (nI v)
            have hbar : m1 3 12 = σ 3 12 := by rw [e2 3 12 (by omega), up_d (by omega), hm 3 12 (by omega) (by omega)]
            have hbar2 : s1' 334 5 = σ 3 12 := by rw [f2]; exact hT.c4.2.1
            have hm1 : ∀ q j, q ≠ 27 → q ≠ 112 → m1 q j = σ q j := fun q j h1 h2 => by rw [e2 q j h1, up_d (by omega), hm q j h1 h2]
            have F2 : LKF m1 (tv σ 3) P k (nI v) := by
              obtain ⟨a0, a1, a2, a3, a4, a5, a6⟩ := F1
              refine ⟨?_, ?_, ?_, ?_, ?_, ?_, ?_⟩
              all_goals rw [e2 112 _ (by omega)]
              all_goals assumption
            have step : ∃ n2, F_For_claimQuarrels_16_b 3 20 (nI k) (nI v) (nI n) m = some (nI n2, m1) ∧ F_M_odds_21_b (nI k) (nI v) (nI n) s' = some (.inl (nI n2, s1')) := by
              unfold F_For_claimQuarrels_16_b F_M_odds_21_b
              rw [bind_T, e1, ob_s, hz, if_pos rfl, m_mat4 (by omega), ob_s, (hT.c12 k hk).2.2.2.2, if10, if_neg (show ¬ bt (tv σ 3 0 11) k = true from ov), f1, ob_s]
              dsimp only
              have e12 : m1 3 12 = s1' 334 5 := hbar.trans hbar2.symm
              by_cases c : hw (tv σ 3 12 k + LAM Λ (tv σ 3) P k (nI v)) < m1 3 12
              · have c' : hw (tv σ 3 12 k + LAM Λ (tv σ 3) P k (nI v)) < s1' 334 5 := e12 ▸ c
                rw [if_pos c, if_pos c', bind_T, bind_T, nI_1]
                exact ⟨n + 1, rfl, rfl⟩
              · have c' : ¬ hw (tv σ 3 12 k + LAM Λ (tv σ 3) P k (nI v)) < s1' 334 5 := e12 ▸ c
                rw [if_neg c, if_neg c', bind_T, Int32.add_zero]
                exact ⟨n, rfl, rfl⟩
            obtain ⟨n2, g1, g2⟩ := step
            obtain ⟨m2, s2', n3, i1, i2, i3, i4⟩ := ih (v + 1) n2 m1 s1' (nI v) (by omega) F2 hm1 (by rw [f2]; exact hT) (by rw [f3 333 0 (by omega) (by omega)]; exact hz)
            refine ⟨m2, s2', n3, ?_, ?_, i3, fun q j h1 h2 => (i4 q j h1 h2).trans (f3 q j h1 h2)⟩
            · show obind (F_For_claimQuarrels_16_b 3 20 (nI k) (nI v) (nI n) m) (fun s' => forSO _ d (nI v + 1) s') = _
              rw [g1, ob_s, nI_1]
              exact i1
            · show obind (F_M_odds_21_b (nI k) (nI v) (nI n) s') (fun y => contO y fun s' => forGO _ d (nI v + 1) s') = _
              rw [g2, ob_s, nI_1]
              exact i2
        obtain ⟨m1, s1', n1, j1, j2, j3, j4⟩ := loop 10 0 0 _ σ' 0 rfl F0 (fun q j _ h2 => L0 q j h2) h2 h0
        exact ⟨m1, s1', n1, j1, j2, j3, j4⟩
      obtain ⟨m1, -, n, e1, -, e3, -⟩ := key (up σ 333 0 0) (h.th (c := 0)).1 up_s
      refine Or.inr ⟨m1, nI n, ?_, fun q j hq => e3 q j (by unfold RelC at hq; omega) (by unfold RelC at hq; omega), fun σ' h' => ?_⟩
      · unfold H_odds F_W_odds
        rw [cm_ok h.1 hk, co_is h.1 hk, if10]
        show obind (if bt (σ 3 11) k = true then _ else _) _ = _
        rw [if_neg ov]
        unfold F_For_claimQuarrels
        rw [bind_T, show cnt 0 10 = 10 by decide, e1]
        rfl
      · obtain ⟨m2, s1', n2, f1, f2, f3, f4⟩ := key (up σ' 333 0 0) (h'.th (c := 0)).1 up_s
        have en : nI n2 = nI n := congrArg Prod.fst (Option.some.inj (f1.symm.trans e1))
        refine ⟨s1', ?_, fun q j hq => ?_, ?_⟩
        · dsimp only
          unfold F_M_odds
          rw [q_match h'.1 hk, ob_s, if_neg (show ¬ (1 : Int32) = 0 by decide), bind_T, show cnt 0 10 = 10 by decide, f2, ← en]
          rfl
        · rw [f4 q j (by unfold RelM at hq; omega) (by unfold RelM at hq; omega), up_d (by unfold RelM at hq; omega)]
        · rw [f4 333 0 (by omega) (by omega), up_s]
  · refine Or.inl ⟨1, by decide, ?_, fun σ' h' => ?_⟩
    · unfold H_odds F_W_odds
      rw [cm_no h.1 h1]; rfl
    · dsimp only
      unfold F_M_odds
      rw [q_nomatch h' h1, ob_s, if_pos rfl, bind_T]
      have e1 : ∀ s, F_M_odds_21_b a1 0 s (up σ' 333 0 1) = some (.inr (s, up σ' 333 0 1)) := fun s => by
        unfold F_M_odds_21_b
        rw [up_s, if_neg (by decide)]
      rw [show cnt 0 10 = 9 + 1 by decide]
      have e2 : forGO (fun i s => F_M_odds_21_b a1 i s.1 s.2) (9 + 1) 0 (0, up σ' 333 0 1) = some (.inr (0, up σ' 333 0 1)) := by
        show obind (F_M_odds_21_b a1 0 0 (up σ' 333 0 1)) _ = _
        rw [e1]
        rfl
      rw [e2]
      exact ⟨_, rfl⟩
theorem op20 (h : INV i σ) (a1 a2 a3 a4 a5 : Int32) : ∃ σ', S_20 σ a1 a2 a3 a4 a5 = some σ' ∧ INV (i + 1) σ' := by
  obtain ⟨g, P, M, C, h⟩ := h
  exact rs_ok (B := fun σ' => F_M_odds σ' a1) h (rs20 h a1)
end AH

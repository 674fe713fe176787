-- PURE STAGE: looks ahead
section RSS
variable {σ σ' : Mem} {g : Nat → Int32} {P M C i : Nat}
def RS (i : Nat) (σ : Mem) (g : Nat → Int32) (P M C : Nat) (A : Option (Mem × Int32)) (B : Mem → Option (Mem × Int32)) : Prop :=
  (∃ c, c ≠ 0 ∧ A = some (σ, c) ∧ ∀ σ' : Mem, TR (tv σ 3) (σ' 334) g P M C → ∃ r, B σ' = some (up σ' 333 0 c, r)) ∨
  ∃ σ1 v, A = some (up σ1 346 0 v, 0) ∧ (∀ q j, RelC q ∨ 333 ≤ q → σ1 q j = σ q j) ∧ ∀ σ' : Mem, INVg i g P M C σ σ' → ∃ σ1', B σ' = some (σ1', v) ∧ (∀ q j, (q < 333 ∨ q = 346 ∨ RelM q j) → σ1' q j = σ' q j) ∧ σ1' 333 0 = 0
theorem rs_ok {A : Option (Mem × Int32)} {B : Mem → Option (Mem × Int32)} (h : INVg i g P M C σ σ) (hr : RS i σ g P M C A B) :
    ∃ σ', (obind A fun z1 => obind (B z1.1) fun z2 => (if (F_M_thrown z2.1) = z1.2 then (if z1.2 = 0 then (if (z2.1 346 0) = z2.2 then some z2.1 else none) else some z2.1) else none)) = some σ' ∧ INV (i + 1) σ' := by
  refine rw_ok h ?_
  rcases hr with h1 | ⟨σ1, v, h1, h2, h3⟩
  · exact Or.inl h1
  · refine Or.inr ⟨σ1, v, h1, fun q j hq => h2 q j (Or.inr hq), fun σ' h' => ?_⟩
    obtain ⟨σ1', b1, b2, b3⟩ := h3 σ' h'
    exact ⟨σ1', b1, fun q j hq => b2 q j (by omega), b3, P, M, C, h'.to (Nat.le_succ i) (fun q j hq => h2 q j (Or.inl hq)) (fun q j hq => b2 q j (by unfold RelM at hq ⊢; omega))⟩
def LKF (m : Mem) (T : Nat → Nat → Int32) (P k : Nat) (q : Int32) : Prop := m 112 0 = T 12 k ∧ m 112 1 = T 14 k ∧ m 112 2 = q ∧ m 112 3 = bcn (insK T P k) ∧ m 112 4 = likeS T k ∧ m 112 5 = T 0 15 ∧ m 112 6 = richB T k
def hw (v : Int32) : Int32 := F_W_happyWithin z0 v
theorem hw_nat (v : Int32) : ∃ n, n ≤ 99 ∧ hw v = nI n := by
  obtain ⟨n, h1, h2, -⟩ := hw_eq z0 z0 v
  exact ⟨n, h1, h2⟩
theorem hw_m (σ' : Mem) (v : Int32) : F_M_greater σ' 0 (F_M_lesser σ' 99 v) = hw v := by
  obtain ⟨n, -, h2, h3⟩ := hw_eq z0 σ' v
  exact h3.trans h2.symm
theorem look_LKF {t : Nat} (h : TR (tv σ t) (σ' 334) g P M C) {k : Nat} (hk : k < M) (q : Int32) (hK : 112 < t ∨ t + 16 < 112) : LKF (F_Town_lookAt σ t (nI k) q 112) (tv σ t) P k q := by
  rw [t_look h hk q hK]
  unfold LKF
  simp (disch := omega) only [up_d, up_s]
  exact ⟨rfl, rfl, trivial, trivial, trivial, rfl, trivial⟩
theorem lk_turns {m : Mem} {Λ : FN} {T : Nat → Nat → Int32} {k : Nat} {q : Int32} (hL : CLs m 20 Λ) (hk : LKF m T P k q) : ∃ m1, F_Law_turnsBy m 20 112 = some (m1, LAM Λ T P k q) ∧ ∀ q j, q ≠ 27 → m1 q j = m q j := by
  obtain ⟨m1, h1⟩ := hL m 20 112 (fun _ _ _ => rfl) (by omega)
  obtain ⟨a0, a1, a2, a3, a4, a5, a6⟩ := hk
  rw [a0, a1, a2, a3, a4, a5, a6] at h1
  exact ⟨m1, h1, fun q j hq => (fr_F_Law_turnsBy m 20 112 (by omega) rfl _ h1).1⟩
theorem lk_turned {m : Mem} {Λ : FN} {T : Nat → Nat → Int32} {k : Nat} {q : Int32} (hL : CLs m 20 Λ) (hk : LKF m T P k q) : ∃ m1, F_Look_happyTurned m 112 20 = some (m1, hw (T 12 k + LAM Λ T P k q)) ∧ ∀ q j, q ≠ 27 → m1 q j = m q j := by
  obtain ⟨m1, h1, h2⟩ := lk_turns hL hk
  refine ⟨m1, ?_, h2⟩
  unfold F_Look_happyTurned
  rw [h1, ob_s, hk.1]
  rfl
theorem m_next {t : Nat} (h : TR (tv σ t) (σ' 334) g P M C) {Λ : FN} {k : Nat} (hm : MLs g Λ) (hk : k < M) (q : Int32) : ∃ σ1', F_M_nextOf σ' (nI k) q = some (σ1', hw (tv σ t 12 k + LAM Λ (tv σ t) P k q)) ∧ σ1' 334 = σ' 334 ∧ ∀ q j, q ≠ 339 → (q ≠ 333 ∨ (j ≠ 9 ∧ j ≠ 10 ∧ j ≠ 11 ∧ j ≠ 13 ∧ j ≠ 15 ∧ j ≠ 16)) → σ1' q j = σ' q j := by
  have hM := h.c1.2.1
  obtain ⟨σ1', e2, e3, e4⟩ := m_turns h hm hk q
  refine ⟨σ1', ?_, e3, fun q2 j h1 h2 => ?_⟩
  · unfold F_M_nextOf
    rw [m_mat2 (by omega), ob_s, e2, ob_s, (h.c12 k hk).2.2.1]
    dsimp only
    rw [hw_m]
  · by_cases c : q2 = 334
    · rw [c, e3]
    · by_cases c2 : q2 = 333 ∧ j = 12
      · obtain ⟨rfl, rfl⟩ := c2
        exact e4
      · exact (fr_F_M_turnsBy σ' (nI k) q (q := q2) (j := j) (by omega) (by omega) (by omega) (by omega) (by omega) (by omega) (by omega) (by omega) (by omega) rfl _ e2).1
theorem cq_ok {c : Nat} (hc : c < 10) : F_W_checkQuarrel σ (nI c) = .inr () := by
  unfold F_W_checkQuarrel F_W_checkNumber
  rw [if_neg (nI_pos (by omega)), if_neg (show ¬ 9 < nI c from nI_nlt (a := 9) (by omega) (by omega))]
  rfl
theorem bad_num {v : Int32} {n : Nat} (hn : n < 6000) (hv : ∀ k, k < n + 1 → v ≠ nI k) (h0 : ¬ v < 0) : nI n < v := by
  obtain ⟨j, hj, rfl⟩ := nI_of h0
  have : n < j := Nat.not_le.mp fun h => hv j (by omega) rfl
  exact nI_lt this hj
theorem cq_no {v : Int32} (hv : ∀ k, k < 10 → v ≠ nI k) : F_W_checkQuarrel σ v = .inl "java/lang/IllegalArgumentException" := by
  unfold F_W_checkQuarrel F_W_checkNumber
  by_cases h0 : v < 0
  · rw [if_pos h0]; rfl
  · rw [if_neg h0, if_pos (show 9 < v from bad_num (n := 9) (by decide) hv h0)]; rfl
theorem co_is (h : TR (tv σ 3) (σ' 334) g P M C) {k : Nat} (hk : k < M) : F_Town_isOver σ 3 (nI k) = (if bt (σ 3 11) k = true then 1 else 0) := p_over (by have := h.c1.2.1; omega)
theorem rs17 (h : INVg i g P M C σ σ) (a1 a2 : Int32) : RS i σ g P M C (H_next σ a1 a2) (fun σ' => F_M_next σ' a1 a2) := by
  have hM := h.1.c1.2.1
  obtain ⟨Λ, l1, l2, -⟩ := h.2.2.1
  rcases pcase M a1 with ⟨k, hk, rfl⟩ | h1
  · rcases pcase 10 a2 with ⟨c, hc, rfl⟩ | h2
    · have bm : ∀ σ', TR (tv σ 3) (σ' 334) g P M C → F_M_badMatch σ' (nI k) 0 0 (nI c) = some 0 := fun σ' h' => by
        unfold F_M_badMatch
        rw [q_match h' hk, ob_s, if_neg (show ¬ (1 : Int32) = 0 by decide), if_neg (show ¬ (0 : Int32) = 20 by decide), isIn3 (n := 10) 9 (by decide) (by decide) hc, if_neg (show ¬ (1 : Int32) = 0 by decide)]
        rfl
      by_cases ov : bt (σ 3 11) k = true
      · refine Or.inr ⟨σ, 0, ?_, fun _ _ _ => rfl, fun σ' h' => ⟨up σ' 333 0 0, ?_, fun q j hq => up_d (by unfold RelM at hq; omega), up_s⟩⟩
        · unfold H_next F_W_next
          rw [cm_ok h.1 hk, cq_ok hc, co_is h.1 hk, if10]
          show obind (if bt (σ 3 11) k = true then _ else _) _ = _
          rw [if_pos ov]; rfl
        · dsimp only
          unfold F_M_next
          have h2 := (h'.th (c := 0)).1
          rw [bm σ' h'.1, ob_s, bind_T, up_s, if_neg nlt00, m_mat4 (by omega), ob_s, (h2.c12 k hk).2.2.2.2, if11, if_pos (show bt (tv σ 3 0 11) k = true from ov)]
      · have L0 : CLs (F_Town_lookAt σ 3 (nI k) (nI c) 112) 20 Λ := l1.to fun r hr j => fr_F_Town_lookAt σ 3 (nI k) (nI c) 112 (by omega) rfl
        obtain ⟨m1, e1, e2⟩ := lk_turned L0 (look_LKF h.1 hk (nI c) (by omega))
        refine Or.inr ⟨m1, hw (tv σ 3 12 k + LAM Λ (tv σ 3) P k (nI c)), ?_, fun q j hq => ?_, fun σ' h' => ?_⟩
        · unfold H_next F_W_next
          rw [cm_ok h.1 hk, cq_ok hc, co_is h.1 hk, if10]
          show obind (if bt (σ 3 11) k = true then _ else _) _ = _
          rw [if_neg ov]
          unfold F_For_happyNext
          rw [bind_T, e1]
          rfl
        · rw [e2 q j (by unfold RelC at hq; omega)]
          exact fr_F_Town_lookAt σ 3 (nI k) (nI c) 112 (by unfold RelC at hq; omega) rfl
        · have h2 := (h'.th (c := 0)).1
          obtain ⟨σ1', f1, f2, f3⟩ := m_next h2 l2 hk (nI c)
          refine ⟨σ1', ?_, fun q j hq => ?_, ?_⟩
          · dsimp only
            unfold F_M_next
            rw [bm σ' h'.1, ob_s, bind_T, up_s, if_neg nlt00, m_mat4 (by omega), ob_s, (h2.c12 k hk).2.2.2.2, if11, if_neg (show ¬ bt (tv σ 3 0 11) k = true from ov), f1, ob_s]
          · rw [f3 q j (by unfold RelM at hq; omega) (by unfold RelM at hq; omega), up_d (by unfold RelM at hq; omega)]
          · rw [f3 333 0 (by omega) (by omega), up_s]
    · refine Or.inl ⟨2, by decide, ?_, fun σ' h' => ?_⟩
      · unfold H_next F_W_next
        rw [cm_ok h.1 hk, cq_no h2]; rfl
      · dsimp only
        unfold F_M_next F_M_badMatch
        rw [q_match h' hk, ob_s, if_neg (show ¬ (1 : Int32) = 0 by decide), if_neg (show ¬ (0 : Int32) = 20 by decide), isIn3n (n := 10) 9 (by decide) (by decide) h2, if_pos (rfl : (0 : Int32) = 0)]
        show ∃ r, obind (some 2) _ = _
        rw [ob_s, bind_T, up_s, if_pos lt02]
        exact ⟨_, rfl⟩
  · refine Or.inl ⟨1, by decide, ?_, fun σ' h' => ?_⟩
    · unfold H_next F_W_next
      rw [cm_no h.1 h1]; rfl
    · dsimp only
      unfold F_M_next F_M_badMatch
      rw [q_nomatch h' h1, ob_s, if_pos rfl, ob_s, bind_T, up_s, if_pos lt01]
      exact ⟨_, rfl⟩
theorem op17 (h : INV i σ) (a1 a2 a3 a4 a5 : Int32) : ∃ σ', S_17 σ a1 a2 a3 a4 a5 = some σ' ∧ INV (i + 1) σ' := by
  obtain ⟨g, P, M, C, h⟩ := h
  exact rs_ok (B := fun σ' => F_M_next σ' a1 a2) h (rs17 h a1 a2)
end RSS

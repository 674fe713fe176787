-- PURE STAGE: a look that goes ahead
section AHD
variable {σ σ' : Mem} {g : Nat → Int32} {P M C i : Nat}
/-- a look beside the reference's match, through a town that nobody keeps -/
def AHI (g : Nat → Int32) (P M C : Nat) (σ s0 : Mem) (k : Nat) (q : Int32) (τ m s : Mem) : Prop :=
  TR (tv τ 3) (s 334) g P M C ∧ LKF m (tv τ 3) P k q ∧ (∀ a b, a ≠ 27 → a ≠ 112 → m a b = σ a b) ∧ τ 3 12 = σ 3 12 ∧
  ∀ a b, a ≠ 334 → a ≠ 339 → (a ≠ 333 ∨ (b ≠ 9 ∧ b ≠ 10 ∧ b ≠ 11 ∧ b ≠ 13 ∧ b ≠ 15 ∧ b ≠ 16)) → s a b = s0 a b
theorem ah_set {s0 τ m s m1 s2 : Mem} {k mo n2 : Nat} {q : Int32} (h : AHI g P M C σ s0 k q τ m s) (hk : k < M) (hn2 : n2 ≤ 99) (hmo : mo ≤ 9999) (e3 : τ 3 15 = nI mo) (hz : ∀ a b, a ≠ 27 → m1 a b = m a b) (h2 : s2 334 = upF (s 334) (112 + 5 * k) (nI n2)) (hf : ∀ a b, a ≠ 334 → a ≠ 339 → (a ≠ 333 ∨ (b ≠ 9 ∧ b ≠ 10 ∧ b ≠ 11 ∧ b ≠ 13 ∧ b ≠ 15 ∧ b ≠ 16)) → s2 a b = s a b) :
    AHI g P M C σ s0 k q (up (up (up τ (3 + 12) k (nI n2)) (3 + 14) k (τ (3 + 14) k + 1)) 3 15 (nI (min (mo + 1) 9999))) (F_Look_passTime (up m1 112 0 (nI n2)) 112) (up (up s2 334 (113 + 5 * k) (τ (3 + 14) k + 1)) 334 8 (nI (min (mo + 1) 9999))) := by
  obtain ⟨hT, ⟨a0, a1, a2, a3, a4, a5, a6⟩, hm, hb, hs⟩ := h
  have hM := hT.c1.2.1
  have e9 : (if m 112 5 + 1 < 9999 then m 112 5 + 1 else 9999) = nI (min (mo + 1) 9999) := by
    rw [a5, show tv τ 3 0 15 = nI mo from e3, nI_1]
    exact nI_minB (a := mo + 1) (n := 9999) (by omega) (by omega)
  have em : F_Look_passTime (up m1 112 0 (nI n2)) 112 = up (up (up m1 112 0 (nI n2)) 112 1 (m 112 1 + 1)) 112 5 (nI (min (mo + 1) 9999)) := by
    unfold F_Look_passTime
    simp only [bind_T]
    rw [up_d (by omega), hz 112 1 (by omega), up_d (by omega), up_d (by omega), hz 112 5 (by omega), e9]
  rw [em]
  refine ⟨?_, ⟨?_, ?_, ?_, ?_, ?_, ?_, ?_⟩, fun a b h3 h4 => ?_, ?_, fun a b h3 h4 h5 => ?_⟩
  · have t1 := hT.happy hk hn2
    have t2 := t1.mon hk (x0 := τ (3 + 14) k + 1)
    have t3 := t2.month (n0 := min (mo + 1) 9999) (by omega)
    rw [tv_up0, tv_up, tv_up, mv_up, mv_up, h2]
    exact t3
  · simp (disch := omega) only [up_d, up_s]
    show _ = (up (up (up τ (3 + 12) k (nI n2)) (3 + 14) k (τ (3 + 14) k + 1)) 3 15 (nI (min (mo + 1) 9999))) (3 + 12) k
    simp (disch := omega) only [up_d, up_s]
  · simp (disch := omega) only [up_d, up_s]
    show _ = (up (up (up τ (3 + 12) k (nI n2)) (3 + 14) k (τ (3 + 14) k + 1)) 3 15 (nI (min (mo + 1) 9999))) (3 + 14) k
    simp (disch := omega) only [up_d, up_s]
    rw [a1]
    rfl
  · simp (disch := omega) only [up_d, up_s]
    rw [hz 112 2 (by omega)]
    exact a2
  · simp (disch := omega) only [up_d, up_s]
    rw [hz 112 3 (by omega), a3]
    refine congrArg bcn (insK_eq ?_ (fun j => ?_) ?_ (fun p => ?_)).symm
    all_goals (unfold tv; simp (disch := omega) only [up_d])
  · simp (disch := omega) only [up_d, up_s]
    rw [hz 112 4 (by omega), a4]
    refine (like_eq (fun j => ?_) (fun p => ?_)).symm
    all_goals (unfold tv; simp (disch := omega) only [up_d])
  · simp (disch := omega) only [up_d, up_s]
    show _ = (up (up (up τ (3 + 12) k (nI n2)) (3 + 14) k (τ (3 + 14) k + 1)) 3 15 (nI (min (mo + 1) 9999))) 3 15
    rw [up_s]
  · simp (disch := omega) only [up_d, up_s]
    rw [hz 112 6 (by omega), a6]
    refine (rich_eq (fun j => ?_) (fun p => ?_)).symm
    all_goals (unfold tv; simp (disch := omega) only [up_d])
  · simp (disch := omega) only [up_d]
    rw [hz a b h3]
    exact hm a b h3 h4
  · simp (disch := omega) only [up_d]
    exact hb
  · rw [up_d (by omega), up_d (by omega), hf a b h3 h4 h5]
    exact hs a b h3 h4 h5
theorem ah_step {s0 τ m s : Mem} {Λ : FN} {k : Nat} {q : Int32} (h : AHI g P M C σ s0 k q τ m s) (hk : k < M) (l1 : CLs σ 20 Λ) (l2 : MLs g Λ) :
    ∃ z s1 τ1, F_Look_happyBehindMonth m 112 20 = some z ∧ F_M_passes s (nI k) q = some s1 ∧ AHI g P M C σ s0 k q τ1 (F_Look_passTime (up z.1 112 0 z.2) 112) s1 := by
  have h0 := h
  obtain ⟨hT, hL, hm, hb, hs⟩ := h
  have hM := hT.c1.2.1
  obtain ⟨n, hn, e1, e2⟩ := hT.h_at hk
  obtain ⟨mo, hmo, e3, e4⟩ := hT.mon1
  have e5 : s 334 (113 + 5 * k) = τ (3 + 14) k := (hT.c12 k hk).2.2.2.1
  have lesM : ∀ s2 : Mem, F_M_lesser s2 9999 (nI mo + 1) = nI (min (mo + 1) 9999) := fun s2 => by
    unfold F_M_lesser
    rw [nI_1, Nat.min_comm]
    exact nI_minB (a := 9999) (n := mo + 1) (by omega) (by omega)
  have m0 : m 112 0 = nI n := hL.1.trans e1
  unfold F_Look_happyBehindMonth F_M_passes
  rw [m_mat2 (by omega), ob_s, e2, m0]
  by_cases c : n = 0
  · subst c
    rw [nI_0, if_pos rfl, if_neg nlt00]
    refine ⟨(m, 0), up (up s 334 (113 + 5 * k) (τ (3 + 14) k + 1)) 334 8 (nI (min (mo + 1) 9999)), _, rfl, ?_, ah_set (n2 := 0) h0 hk (by omega) hmo e3 (fun _ _ _ => rfl) ?_ (fun _ _ _ _ _ => rfl)⟩
    · rw [m_mat3 (by omega), ob_s, e5, m_told3 (by omega), ob_s, bind_T, up_d (by omega), e4, lesM]
    · funext j
      by_cases ej : j = 112 + 5 * k
      · subst ej; rw [upF_s]; exact e2
      · rw [upF_d ej]
  · obtain ⟨m1, f1, f2⟩ := lk_turned (l1.to fun r hr j => hm _ _ (by omega) (by omega)) hL
    obtain ⟨s2, g1, g2, g3⟩ := m_next hT l2 hk q
    obtain ⟨n2, hn2, en2⟩ := hw_nat (tv τ 3 12 k + LAM Λ (tv τ 3) P k q)
    rw [en2] at f1 g1
    rw [if_neg (nI_ne0 (by omega) (by omega)), if_pos (show (0 : Int32) < nI n from nI_lt (a := 0) (by omega) (by omega)), f1, ob_s, g1, ob_s]
    dsimp only
    refine ⟨(m1, nI n2), up (up (up s2 334 (112 + 5 * k) (nI n2)) 334 (113 + 5 * k) (τ (3 + 14) k + 1)) 334 8 (nI (min (mo + 1) 9999)), _, rfl, ?_, ah_set (s2 := up s2 334 (112 + 5 * k) (nI n2)) h0 hk hn2 hmo e3 f2 ?_ (fun a b c1 c2 c3 => ?_)⟩
    · rw [m_told2 (by omega), ob_s, m_mat3 (by omega), ob_s, up_d (by omega), g2, e5, m_told3 (by omega), ob_s, bind_T, up_d (by omega), up_d (by omega), g2, e4, lesM]
    · rw [mv_up, g2]
    · rw [up_d (by omega)]
      exact g3 a b c2 c3
end AHD

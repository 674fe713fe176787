-- PURE STAGE: trial
section TRI
variable {σ σ' : Mem} {g : Nat → Int32} {P M C i : Nat}
/-- a trial on the copy, and the reference's aside -/
theorem m_trial (h : TR (tv σ 3) (σ' 334) g P M C) {Λ : FN} (l1 : CLs σ 20 Λ) (l2 : MLs g Λ) {n : Nat} (hn : n ≤ 40) (hC : C + 800 < 1000000) (sd : Int32) (s0 : Mem) (hs0 : s0 334 = upF (σ' 334) 12 sd) (ha : ∀ j, j < 450 → s0 336 j = σ' 334 j) (hq0 : ∀ q j, q ≠ 334 → q ≠ 336 → s0 q j = σ' q j) :
    ∃ c3 s2 s3 C2, C ≤ C2 ∧ C2 ≤ C + 800 ∧ F_For_tryMonths σ 3 20 (nI n) sd = some (c3, nI C2 - nI C) ∧ F_M_goes s0 (nI n) = some (s2, nI C2 - nI C) ∧ F_M_comesBack s2 = some s3 ∧ TR (tv c3 95) (s2 334) g P M C2 ∧ (∀ q j, (q < 95 ∨ 112 < q) → q ≠ 27 → c3 q j = σ q j) ∧ (∀ j, j < 450 → s3 336 j = σ' 334 j) ∧ (∀ q j, q ≠ 334 → q ≠ 336 → q ≠ 339 → (q ≠ 333 ∨ (j ≠ 9 ∧ j ≠ 10 ∧ j ≠ 11 ∧ j ≠ 13 ∧ j ≠ 15 ∧ j ≠ 16)) → s3 q j = σ' q j) ∧ ∀ j, j < 850 → s3 334 j = σ' 334 j := by
  have cc : TR (tv (up (F_Town_copyAll σ 95 3) 95 17 sd) 95) (s0 334) g P M C := by
    have h1 : TR (tv (F_Town_copyAll σ 95 3) 95) (σ' 334) g P M C := h.copy (by omega)
    rw [tv_up0, hs0]
    exact h1.seed
  have fc0 : ∀ q j, (q < 95 ∨ 111 < q) → up (F_Town_copyAll σ 95 3) 95 17 sd q j = σ q j := fun q j hq => by rw [up_d (by omega)]; exact copy_fr (by omega)
  have L1 : CLs (up (F_Town_copyAll σ 95 3) 95 17 sd) 20 Λ := l1.to fun r hr j => fc0 _ _ (by omega)
  obtain ⟨c3, s2, C2, ⟨k1, k2⟩, k3, k4, k5, k6⟩ := cc.goN (w := 20) (K := 112) (v1 := nI n) (v2 := nI C) (Fc := fun i s => F_For_tryMonths_20_b 3 20 (nI n) sd i s) (fun i s => by
    unfold F_For_tryMonths_20_b
    cases F_Town_passMonth s 95 20 112 <;> rfl) L1 l2 ⟨by omega, by omega, by omega⟩ n (by omega)
  have fc : ∀ q j, (q < 95 ∨ 112 < q) → q ≠ 27 → c3 q j = σ q j := fun q j hq hq2 => by
    refine Eq.trans (k_forSO (K := kM q j (up (F_Town_copyAll σ 95 3) 95 17 sd q j)) (F := fun i s => F_For_tryMonths_20_b 3 20 (nI n) sd i s) (fun i s hs => ?_) rfl _ k3) (fc0 q j (by omega))
    show kO _ (F_For_tryMonths_20_b 3 20 (nI n) sd i s)
    unfold F_For_tryMonths_20_b
    exact k_ob (K := kM q j (up (F_Town_copyAll σ 95 3) 95 17 sd q j)) (fr_F_Town_passMonth s 95 20 112 (by omega) (by omega) (by omega) hs) (fun x hx => k_some hx)
  obtain ⟨s3, b1, b2, b3⟩ := m_back (σ := s2)
  have gs : F_M_goes s0 (nI n) = some (s2, nI C2 - nI C) := by
    unfold F_M_goes
    rw [cc.c3.2.2.1, bind_T, p_cnt0 (by omega), k4, ob_s, k5.c3.2.2.1]
  have fs : ∀ q j, q ≠ 334 → q ≠ 339 → (q ≠ 333 ∨ (j ≠ 9 ∧ j ≠ 10 ∧ j ≠ 11 ∧ j ≠ 13 ∧ j ≠ 15 ∧ j ≠ 16)) → s2 q j = s0 q j := fun q j h1 h2 h3 => by
    by_cases e : q = 333 ∧ j = 12
    · obtain ⟨rfl, rfl⟩ := e
      exact k6
    · exact (fr_F_M_goes s0 (nI n) (q := q) (j := j) (by omega) (by omega) (by omega) (by omega) (by omega) (by omega) (by omega) (by omega) (by omega) rfl _ gs).1
  refine ⟨c3, s2, s3, C2, k1, by omega, ?_, gs, b1, k5, fc, fun j hj => ?_, fun q j h1 h2 h3 h4 => ?_, fun j hj => ?_⟩
  · unfold F_For_tryMonths
    rw [bind_T, bind_T, p_cnt0 (by omega), k3, ob_s, show c3 95 19 = nI C2 from k5.c2.2.2, fc 3 19 (by omega) (by omega), show σ 3 19 = nI C from h.c2.2.2]
  · rw [b3 336 j (by omega), fs 336 j (by omega) (by omega) (by omega), ha j hj]
  · rw [b3 q j (by omega), fs q j h1 h3 h4, hq0 q j h1 h2]
  · by_cases c : j < 450
    · rw [b2 j c, fs 336 j (by omega) (by omega) (by omega), ha j c]
    · rw [b3 334 j (by omega), k5.c16 j (by omega), h.c16 j (by omega)]
end TRI

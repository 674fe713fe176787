-- PURE STAGE: the law's turns, by what they answer; the look
abbrev FN : Type := Int32 → Int32 → Int32 → Int32 → Int32 → Int32 → Int32 → Int32
def LD (r j : Nat) : Prop := (r = 0 ∧ (j = 4 ∨ j = 5)) ∨ ((r = 2 ∨ r = 4) ∧ j < 12) ∨ (r = 5 ∧ j < 400)
theorem LD.le {r j : Nat} (h : LD r j) : r ≤ 5 := by unfold LD at h; omega
def CLs (σ : Mem) (w : Nat) (Λ : FN) : Prop := ∀ (σ2 : Mem) (w2 k : Nat), (∀ r j, LD r j → σ2 (w2 + r) j = σ (w + r) j) → (k < w2 ∨ w2 + 7 < k) → ∃ σ1, F_Law_turnsBy σ2 w2 k = some (σ1, Λ (σ2 k 0) (σ2 k 1) (σ2 k 2) (σ2 k 3) (σ2 k 4) (σ2 k 5) (σ2 k 6))
theorem CLs.to {σ σ3 : Mem} {w w3 : Nat} {Λ : FN} (h : CLs σ w Λ) (e : ∀ r, r ≤ 5 → ∀ j, σ3 (w3 + r) j = σ (w + r) j) : CLs σ3 w3 Λ := fun σ2 w2 k h2 => h σ2 w2 k (fun r j hr => (h2 r j hr).trans (e r hr.le j))
theorem CLs.toD {σ σ3 : Mem} {w w3 : Nat} {Λ : FN} (h : CLs σ w Λ) (e : ∀ r j, LD r j → σ3 (w3 + r) j = σ (w + r) j) : CLs σ3 w3 Λ := fun σ2 w2 k h2 => h σ2 w2 k (fun r j hr => (h2 r j hr).trans (e r j hr))
def MTail (σ : Mem) (v2 : Int32) : Option (Mem × Int32) := (if (σ 334 1) = (-1) then some ((σ, ((σ 339 4) - v2))) else bindT (up σ 333 16 0) fun σ19 => bindT ((σ19 333 12)) fun x20 => bindT (up σ19 333 12 ((-1))) fun σ21 => bindT (up σ21 333 9 450) fun σ22 => bindT (up σ22 333 10 ((σ22 334 2))) fun σ23 => bindT (up σ23 333 11 0) fun σ24 => bindT (up σ24 333 13 0) fun σ25 => obind (F_M_read σ25 1) fun z26 => bindT (up z26.1 333 12 x20) fun σ27 => some ((σ27, (σ27 333 16))))
def MLs (g : Nat → Int32) (Λ : FN) : Prop := ∀ (σ : Mem) (a0 a1 a2 a3 a4 a5 a6 : Int32), (∀ j, j = 1 ∨ j = 2 ∨ (450 ≤ j ∧ j < 850) → σ 334 j = g j) → σ 339 0 = a0 → σ 339 1 = a1 → σ 339 2 = a2 → σ 339 3 = a3 → σ 339 4 = a4 → σ 339 5 = a5 - a5 / 12 * 12 → σ 333 15 = a6 → a6 = 0 ∨ a6 = 1 → ∃ σ1, MTail σ a2 = some (σ1, Λ a0 a1 a2 a3 a4 a5 a6) ∧ σ1 334 = σ 334
theorem MTail_12 {σ : Mem} {v : Int32} {z : Mem × Int32} (h : MTail σ v = some z) : z.1 333 12 = σ 333 12 := by
  unfold MTail at h
  by_cases c : σ 334 1 = -1
  · rw [if_pos c] at h
    cases h
    rfl
  · rw [if_neg c] at h
    simp only [bind_T] at h
    obtain ⟨z1, -, h2⟩ := obind_out h
    cases h2
    show up z1.1 333 12 (up σ 333 16 0 333 12) 333 12 = _
    rw [up_s, up_d (by omega)]
theorem up_r {σ : Mem} {q j r : Nat} {v : Int32} (h : r ≠ q) : up σ q j v r = σ r := funext fun i => up_d (Or.inl h)
def faN (T : Nat → Nat → Int32) (k : Nat) : Nat := (T 10 (2 * k)).toNatClampNeg
def fbN (T : Nat → Nat → Int32) (k : Nat) : Nat := (T 10 (2 * k + 1)).toNatClampNeg
def likeS (T : Nat → Nat → Int32) (k : Nat) : Int32 := T 8 (8 * faN T k + fbN T k) + T 8 (8 * fbN T k + faN T k)
def richB (T : Nat → Nat → Int32) (k : Nat) : Int32 := if 99 < T 2 (faN T k) + T 2 (fbN T k) then 1 else 0
def LAM (Λ : FN) (T : Nat → Nat → Int32) (P k : Nat) (q : Int32) : Int32 := Λ (T 12 k) (T 14 k) q (bcn (insK T P k)) (likeS T k) (T 0 15) (richB T k)
section LOOK
variable {σ σ' : Mem} {g : Nat → Int32} {t P M C : Nat}
theorem TR.keepT (h : TR (tv σ t) (σ' 334) g P M C) {σ1 : Mem} (e : ∀ r, r ≤ 16 → ∀ j, σ1 (t + r) j = σ (t + r) j) : TR (tv σ1 t) (σ' 334) g P M C := h.congr (fun r k hr => e r (by omega) k) (fun _ _ => rfl) h.c16
theorem TR.keepM (h : TR (tv σ t) (σ' 334) g P M C) {σ1 : Mem} (e : σ1 334 = σ' 334) : TR (tv σ t) (σ1 334) g P M C := by rw [e]; exact h
theorem t_insK (h : TR (tv σ t) (σ' 334) g P M C) {k : Nat} (hk : k < M) {σ1 : Mem} (e : ∀ r, r ≤ 16 → ∀ j, σ1 (t + r) j = σ (t + r) j) : F_Town_insurersOf σ1 t (nI k) = insK (tv σ t) P k := by
  have h1 := q_insK (h.keepT e) hk
  have h2 := q_insK h hk
  rw [h1.1]
  exact Option.some.inj (h1.2.symm.trans h2.2)
theorem TR.ab (h : TR (tv σ t) (σ' 334) g P M C) {k : Nat} (hk : k < M) : faN (tv σ t) k < P ∧ fbN (tv σ t) k < P ∧ faN (tv σ t) k ≠ fbN (tv σ t) k ∧ σ (t + 10) (2 * k) = nI (faN (tv σ t) k) ∧ σ (t + 10) (2 * k + 1) = nI (fbN (tv σ t) k) ∧ σ' 334 (110 + 5 * k) = nI (faN (tv σ t) k) ∧ σ' 334 (111 + 5 * k) = nI (fbN (tv σ t) k) := by
  have hP := h.c1.1
  obtain ⟨a, b, h1, h2, h3, h4, h5, h6, h7⟩ := h.m_at hk
  have ea : faN (tv σ t) k = a := by
    unfold faN
    rw [show tv σ t 10 (2 * k) = nI a from h4, p_cl (by omega)]
  have eb : fbN (tv σ t) k = b := by
    unfold fbN
    rw [show tv σ t 10 (2 * k + 1) = nI b from h5, p_cl (by omega)]
  rw [ea, eb]
  exact ⟨h1, h2, h3, h4, h5, h6, h7⟩
theorem t_look (h : TR (tv σ t) (σ' 334) g P M C) {k K : Nat} (hk : k < M) (q : Int32) (hK : K < t ∨ t + 16 < K) : F_Town_lookAt σ t (nI k) q K = up (up (up (up (up (up (up σ K 0 (σ (t + 12) k)) K 1 (σ (t + 14) k)) K 2 q) K 3 (bcn (insK (tv σ t) P k))) K 4 (likeS (tv σ t) k)) K 5 (σ t 15)) K 6 (richB (tv σ t) k) := by
  have hP := h.c1.1
  have hM := h.c1.2.1
  obtain ⟨ha, hb, -, e1, e2, -, -⟩ := h.ab hk
  unfold F_Town_lookAt likeS richB
  rw [t_first (by omega), t_second (by omega), e1, e2]
  generalize faN (tv σ t) k = a at *
  generalize fbN (tv σ t) k = b at *
  simp only [bind_T]
  rw [t_happy (by omega), t_mon (by omega), up_d (by omega)]
  rw [t_insK h hk (fun r hr j => by rw [up_d (by omega), up_d (by omega), up_d (by omega)])]
  rw [t_liking (by omega) (by omega), t_liking (by omega) (by omega)]
  simp only [t_wealth (show a < 8 by omega), t_wealth (show b < 8 by omega)]
  simp (disch := omega) only [up_d]
  show (if 99 < σ (t + 2) a + σ (t + 2) b then _ else _) = up _ K 6 (if 99 < σ (t + 2) a + σ (t + 2) b then 1 else 0)
  by_cases c : 99 < σ (t + 2) a + σ (t + 2) b
  · rw [if_pos c, if_pos c]
    rfl
  · rw [if_neg c, if_neg c]
    rfl
theorem c_turns (h : TR (tv σ t) (σ' 334) g P M C) {Λ : FN} {w k K : Nat} (hL : CLs σ w Λ) (hk : k < M) (q : Int32) (hK : K < t ∨ t + 16 < K) (hw : K < w ∨ w + 7 < K) : ∃ σ1, F_Law_turnsBy (F_Town_lookAt σ t (nI k) q K) w K = some (σ1, LAM Λ (tv σ t) P k q) := by
  rw [t_look h hk q hK]
  obtain ⟨σ1, h1⟩ := hL (up (up (up (up (up (up (up σ K 0 (σ (t + 12) k)) K 1 (σ (t + 14) k)) K 2 q) K 3 (bcn (insK (tv σ t) P k))) K 4 (likeS (tv σ t) k)) K 5 (σ t 15)) K 6 (richB (tv σ t) k)) w K (fun r j hr => by
    have := hr.le
    rw [up_d (by omega), up_d (by omega), up_d (by omega), up_d (by omega), up_d (by omega), up_d (by omega), up_d (by omega)]) hw
  refine ⟨σ1, h1.trans ?_⟩
  simp (disch := omega) only [up_d, up_s]
  rfl
theorem m_turns (h : TR (tv σ t) (σ' 334) g P M C) {Λ : FN} {k : Nat} (hm : MLs g Λ) (hk : k < M) (q : Int32) : ∃ σ1', F_M_turnsBy σ' (nI k) q = some (σ1', LAM Λ (tv σ t) P k q) ∧ σ1' 334 = σ' 334 ∧ σ1' 333 12 = σ' 333 12 := by
  have hP := h.c1.1
  have hM := h.c1.2.1
  obtain ⟨ha, hb, -, -, -, e1, e2⟩ := h.ab hk
  obtain ⟨-, -, g3, g4, -⟩ := h.c12 k hk
  have g15 := h.c4.2.2.2.2.1
  obtain ⟨m9, hm9, hx9⟩ := insK_small h k
  unfold LAM likeS richB
  have l1 := h.c10 _ _ ha hb
  have l2 := h.c10 _ _ hb ha
  have w1 := (h.c6 _ ha).1
  have w2 := (h.c6 _ hb).1
  generalize faN (tv σ t) k = a at *
  generalize fbN (tv σ t) k = b at *
  unfold F_M_turnsBy
  rw [m_mat0 (by omega), m_mat1 (by omega), m_mat2 (by omega), e1, e2, g3]
  simp only [ob_s, bind_T]
  rw [m_mat3 (by omega), ob_s]
  rw [up_d (by omega), g4]
  rw [(q_insK (h.keepM (σ1 := up (up (up σ' 339 0 (tv σ t 12 k)) 339 1 (tv σ t 14 k)) 339 2 q) (by rw [up_r (by omega), up_r (by omega), up_r (by omega)])) hk).2, ob_s]
  rw [m_likes (by omega), m_likes (by omega)]
  simp only [ob_s]
  rw [m_of0 (by omega), m_of0 (by omega)]
  simp only [ob_s]
  simp (disch := omega) only [up_d]
  rw [l1, l2, w1, w2, g15, bits_eq (σ := z0) ⟨m9, hm9, hx9⟩]
  have key : ∀ x : Int32, x = 0 ∨ x = 1 → ∃ σ1', MTail (up (up (up (up (up (up (up σ' 339 0 (tv σ t 12 k)) 339 1 (tv σ t 14 k)) 339 2 q) 339 3 (bcn (insK (tv σ t) P k))) 339 4 (tv σ t 8 (8 * a + b) + tv σ t 8 (8 * b + a))) 339 5 (tv σ t 0 15 - tv σ t 0 15 / 12 * 12)) 333 15 x) q = some (σ1', Λ (tv σ t 12 k) (tv σ t 14 k) q (bcn (insK (tv σ t) P k)) (tv σ t 8 (8 * a + b) + tv σ t 8 (8 * b + a)) (tv σ t 0 15) x) ∧ σ1' 334 = σ' 334 ∧ σ1' 333 12 = σ' 333 12 := by
    intro x hx
    obtain ⟨σ1', h1, h2⟩ := hm (up (up (up (up (up (up (up σ' 339 0 (tv σ t 12 k)) 339 1 (tv σ t 14 k)) 339 2 q) 339 3 (bcn (insK (tv σ t) P k))) 339 4 (tv σ t 8 (8 * a + b) + tv σ t 8 (8 * b + a))) 339 5 (tv σ t 0 15 - tv σ t 0 15 / 12 * 12)) 333 15 x) (tv σ t 12 k) (tv σ t 14 k) q (bcn (insK (tv σ t) P k)) (tv σ t 8 (8 * a + b) + tv σ t 8 (8 * b + a)) (tv σ t 0 15) x
      (fun j hj => by rw [up_d (by omega), up_d (by omega), up_d (by omega), up_d (by omega), up_d (by omega), up_d (by omega), up_d (by omega)]; exact h.c16 j hj)
      (by simp (disch := omega) only [up_d, up_s]) (by simp (disch := omega) only [up_d, up_s]) (by simp (disch := omega) only [up_d, up_s]) (by simp (disch := omega) only [up_d, up_s]) (by simp (disch := omega) only [up_d, up_s]) (by simp (disch := omega) only [up_d, up_s]) (by simp (disch := omega) only [up_d, up_s]) hx
    refine ⟨σ1', h1, h2.trans ?_, (MTail_12 h1).trans ?_⟩
    · simp (disch := omega) only [up_r]
    · simp (disch := omega) only [up_d]
  by_cases c : 99 < tv σ t 2 a + tv σ t 2 b
  · rw [if_pos c, if_pos c]
    exact key 1 (Or.inr rfl)
  · rw [if_neg c, if_neg c]
    exact key 0 (Or.inl rfl)
theorem hw_eq (σ σ' : Mem) (v : Int32) : ∃ n, n ≤ 99 ∧ F_W_happyWithin σ v = nI n ∧ F_M_greater σ' 0 (F_M_lesser σ' 99 v) = nI n := by
  unfold F_W_happyWithin F_M_greater F_M_lesser
  by_cases h0 : v < 0
  · have h1 : v < 99 := Int32.lt_trans h0 (by decide)
    have h2 : ¬ 99 < v := fun h => Int32.lt_irrefl (Int32.lt_trans h h1)
    have h3 : ¬ 0 < v := fun h => Int32.lt_irrefl (Int32.lt_trans h h0)
    rw [if_pos h1, if_neg h3, if_neg h2, if_pos h0]
    exact ⟨0, by omega, rfl, rfl⟩
  · obtain ⟨j, hj, rfl⟩ := nI_of h0
    by_cases h1 : j < 99
    · have h2 : nI j < 99 := nI_lt (b := 99) h1 (by omega)
      have h3 : ¬ 99 < nI j := nI_nlt (a := 99) (by omega) (by omega)
      rw [if_pos h2, if_neg h3, if_neg (nI_pos (by omega))]
      refine ⟨j, by omega, ?_, rfl⟩
      by_cases h4 : j = 0
      · subst h4; rfl
      · rw [if_pos (show (0 : Int32) < nI j from nI_lt (a := 0) (by omega) (by omega))]
    · have h2 : ¬ nI j < 99 := nI_nlt (b := 99) (by omega) (by omega)
      rw [if_neg h2]
      refine ⟨99, by omega, by decide, ?_⟩
      by_cases h3 : j = 99
      · subst h3
        decide
      · rw [if_pos (show (99 : Int32) < nI j from nI_lt (a := 99) (by omega) (by omega))]
        decide
/-- a match's happiness, a month on -/
theorem TR.turned (h : TR (tv σ t) (σ' 334) g P M C) {Λ : FN} {w k K : Nat} (hL : CLs σ w Λ) (hm : MLs g Λ) (hk : k < M) (q : Int32) (hK : K < t ∨ t + 16 < K) (hw : K < w ∨ w + 7 < K) (htw : w + 7 < t ∨ t + 16 < w) : ∃ σ1 σ1' n, n ≤ 99 ∧ F_Look_happyTurned (F_Town_lookAt σ t (nI k) q K) K w = some (σ1, nI n) ∧ F_M_nextOf σ' (nI k) q = some (σ1', nI n) ∧ TR (tv σ1 t) (σ1' 334) g P M C ∧ σ1' 333 12 = σ' 333 12 := by
  have hP := h.c1.1
  have hM := h.c1.2.1
  obtain ⟨σ1, e1⟩ := c_turns h hL hk q hK hw
  obtain ⟨σ1', e2, e3, e4⟩ := m_turns h hm hk q
  obtain ⟨-, -, g3, -, -⟩ := h.c12 k hk
  obtain ⟨n, hn, f1, f2⟩ := hw_eq σ1 σ1' (tv σ t 12 k + LAM Λ (tv σ t) P k q)
  have e0 : F_Town_lookAt σ t (nI k) q K K 0 = tv σ t 12 k := by
    rw [t_look h hk q hK]
    simp (disch := omega) only [up_d, up_s]
    rfl
  refine ⟨σ1, σ1', n, hn, ?_, ?_, ?_, e4⟩
  · unfold F_Look_happyTurned
    rw [e1, ob_s, e0]
    dsimp only
    rw [f1]
  · unfold F_M_nextOf
    rw [m_mat2 (by omega), ob_s, e2, ob_s, g3]
    dsimp only
    rw [f2]
  · refine (h.keepM e3).keepT (fun r hr j => ?_)
    have i1 : kM (t + r) j (σ (t + r) j) (F_Town_lookAt σ t (nI k) q K) := fr_F_Town_lookAt σ t (nI k) q K (by omega) rfl
    exact (fr_F_Law_turnsBy _ w K (by omega) i1 _ e1).1
end LOOK

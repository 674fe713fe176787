-- PURE STAGE: copies
theorem LRd.toD {σ σ1 : Mem} {w w1 : Nat} {g : Nat → Int32} (h : LRd σ w g) (e : ∀ r j, LD r j → σ1 (w1 + r) j = σ (w + r) j) : LRd σ1 w1 g := by
  obtain ⟨Λ, h1, h2, h3⟩ := h
  exact ⟨Λ, h1.toD e, h2, (e 0 5 (by unfold LD; omega)).trans h3⟩
theorem cp_s {σ : Mem} {s d n b : Nat} (h : b < n) : cpM σ s d n d b = σ s b := if_pos ⟨rfl, h⟩
theorem cp_d {σ : Mem} {s d n a b : Nat} (h : a ≠ d ∨ n ≤ b) : cpM σ s d n a b = σ a b := by
  unfold cpM
  rw [if_neg (by omega)]
theorem rc {σ : Mem} {r r1 n : Nat} (hn : n < 6000) : F_Row_copyAll σ r n r1 n = cpM σ (r1 + 1) (r + 1) n := by
  unfold F_Row_copyAll
  rw [if_neg Int32.lt_irrefl, bind_T, show (Int32.ofNat n).toNatClampNeg = n from p_cl hn]
theorem copy_at {σ : Mem} {t t1 : Nat} (ht : t + 16 < t1 ∨ t1 + 16 < t) : ∀ r k, ((r = 0 ∧ 8 ≤ k ∧ k < 20) ∨ ((r = 2 ∨ r = 4 ∨ r = 6) ∧ k < 8) ∨ (r = 8 ∧ k < 64) ∨ (r = 10 ∧ k < 40) ∨ ((r = 12 ∨ r = 14) ∧ k < 20) ∨ (r = 16 ∧ k < 240)) → F_Town_copyAll σ t t1 (t + r) k = σ (t1 + r) k := by
  intro r k hr
  unfold F_Town_copyAll F_Town_copyPurses
  simp only [bind_T, rc (show 8 < 6000 by decide), rc (show 64 < 6000 by decide), rc (show 40 < 6000 by decide), rc (show 20 < 6000 by decide), rc (show 240 < 6000 by decide), Nat.add_assoc]
  have e0 : ∀ x : Nat, x + 0 = x := fun _ => rfl
  rcases hr with ⟨rfl, h1, h2⟩ | ⟨rfl | rfl | rfl, h1⟩ | ⟨rfl, h1⟩ | ⟨rfl, h1⟩ | ⟨rfl | rfl, h1⟩ | ⟨rfl, h1⟩
  · rw [show t + 0 = t from rfl, show t1 + 0 = t1 from rfl]
    exact match k, h1, h2 with
    | 8, _, _ => by simp (disch := omega) only [up_d, up_s, cp_d, cp_s, Nat.reduceAdd]
    | 9, _, _ => by simp (disch := omega) only [up_d, up_s, cp_d, cp_s, Nat.reduceAdd]
    | 10, _, _ => by simp (disch := omega) only [up_d, up_s, cp_d, cp_s, Nat.reduceAdd]
    | 11, _, _ => by simp (disch := omega) only [up_d, up_s, cp_d, cp_s, Nat.reduceAdd]
    | 12, _, _ => by simp (disch := omega) only [up_d, up_s, cp_d, cp_s, Nat.reduceAdd]
    | 13, _, _ => by simp (disch := omega) only [up_d, up_s, cp_d, cp_s, Nat.reduceAdd]
    | 14, _, _ => by simp (disch := omega) only [up_d, up_s, cp_d, cp_s, Nat.reduceAdd]
    | 15, _, _ => by simp (disch := omega) only [up_d, up_s, cp_d, cp_s, Nat.reduceAdd]
    | 16, _, _ => by simp (disch := omega) only [up_d, up_s, cp_d, cp_s, Nat.reduceAdd]
    | 17, _, _ => by simp (disch := omega) only [up_d, up_s, cp_d, cp_s, Nat.reduceAdd]
    | 18, _, _ => by simp (disch := omega) only [up_d, up_s, cp_d, cp_s, Nat.reduceAdd]
    | 19, _, _ => by simp (disch := omega) only [up_d, up_s, cp_d, cp_s, Nat.reduceAdd]
    | 0, h, _ => absurd h (by omega)
    | 1, h, _ => absurd h (by omega)
    | 2, h, _ => absurd h (by omega)
    | 3, h, _ => absurd h (by omega)
    | 4, h, _ => absurd h (by omega)
    | 5, h, _ => absurd h (by omega)
    | 6, h, _ => absurd h (by omega)
    | 7, h, _ => absurd h (by omega)
    | k + 20, _, h => absurd h (by omega)
  all_goals simp (disch := omega) only [up_d, up_s, cp_d, cp_s, Nat.reduceAdd]
theorem TR.copy {σ : Mem} {f g : Nat → Int32} {t t1 P M C : Nat} (h : TR (tv σ t1) f g P M C) (ht : t + 16 < t1 ∨ t1 + 16 < t) : TR (tv (F_Town_copyAll σ t t1) t) f g P M C := h.congr (fun r k hr => copy_at ht r k hr) (fun _ _ => rfl) h.c16
theorem copy_fr {σ : Mem} {t t1 q j : Nat} (h : q < t ∨ t + 16 < q) : F_Town_copyAll σ t t1 q j = σ q j := fr_F_Town_copyAll σ t t1 (by omega) rfl
theorem lcopy_at {σ : Mem} {w w1 : Nat} (ht : w + 7 < w1 ∨ w1 + 7 < w) : ∀ r j, LD r j → F_Law_copyAll σ w w1 (w + r) j = σ (w1 + r) j := by
  intro r k hr
  unfold F_Law_copyAll
  have c4 : (if (400 : Int32) < 400 then (400 : Int32) else 400).toNatClampNeg = 400 := by decide
  simp only [bind_T, rc (show 12 < 6000 by decide), c4, Nat.add_assoc]
  have e0 : ∀ x : Nat, x + 0 = x := fun _ => rfl
  rcases hr with ⟨rfl, rfl | rfl⟩ | ⟨rfl | rfl, h1⟩ | ⟨rfl, h1⟩
  · rw [show w + 0 = w from rfl, show w1 + 0 = w1 from rfl]
    simp (disch := omega) only [up_d, up_s, cp_d, cp_s, Nat.reduceAdd]
  · rw [show w + 0 = w from rfl, show w1 + 0 = w1 from rfl]
    simp (disch := omega) only [up_d, up_s, cp_d, cp_s, Nat.reduceAdd]
  · simp (disch := omega) only [up_d, up_s, cp_d, cp_s, Nat.reduceAdd]
  · simp (disch := omega) only [up_d, up_s, cp_d, cp_s, Nat.reduceAdd]
  · refine Eq.trans (if_pos ⟨rfl, ?_⟩) ?_
    · simp (disch := omega) only [up_d, cp_d, Nat.reduceAdd]
    · exact h1
theorem lcopy_fr {σ : Mem} {w w1 q j : Nat} (h : q < w ∨ w + 7 < q) : F_Law_copyAll σ w w1 q j = σ q j := fr_F_Law_copyAll σ w w1 (by omega) rfl
/-- the reference's copies -/
theorem m_cpy {σ : Mem} {d s a b n : Nat} {F : Int32 → Mem → Option Mem} (hs : s ≠ d) (hF : ∀ k τ, k < n → (∀ j, τ s j = σ s j) → (∀ q j, q ≠ d → τ q j = σ q j) → F (nI k) τ = some (up τ d (a + k) (τ s (b + k)))) :
    ∃ σ1, forSO F n 0 σ = some σ1 ∧ (∀ j, j < n → σ1 d (a + j) = σ s (b + j)) ∧ ∀ q j, q ≠ d ∨ j < a ∨ a + n ≤ j → σ1 q j = σ q j := by
  obtain ⟨σ1, h1, h2, h3⟩ := forSO_inv (F := F) n 0 (fun k τ => (∀ j, j < k → τ d (a + j) = σ s (b + j)) ∧ ∀ q j, q ≠ d ∨ j < a ∨ a + k ≤ j → τ q j = σ q j) σ (fun k τ hk hI => by
    obtain ⟨h1, h2⟩ := hI
    rw [Nat.zero_add, hF k τ hk (fun j => h2 s j (by omega)) (fun q j hq => h2 q j (by omega))]
    refine ⟨_, rfl, fun j hj => ?_, fun q j hq => ?_⟩
    · by_cases e : j = k
      · subst e
        rw [up_s, h2 s _ (by omega)]
      · rw [up_d (by omega)]
        exact h1 j (by omega)
    · rw [up_d (by omega)]
      exact h2 q j (by omega)) ⟨fun j hj => by omega, fun _ _ _ => rfl⟩
  exact ⟨σ1, h1, h2, h3⟩
theorem m_aside {σ : Mem} : ∃ σ1, F_M_putsAside σ = some σ1 ∧ (∀ j, j < 450 → σ1 336 j = σ 334 j) ∧ ∀ q j, q ≠ 336 ∨ 450 ≤ j → σ1 q j = σ q j := by
  unfold F_M_putsAside
  rw [show cnt 0 450 = 450 by decide]
  obtain ⟨σ1, h1, h2, h3⟩ := m_cpy (σ := σ) (d := 336) (s := 334) (a := 0) (b := 0) (n := 450) (F := fun i s => F_M_putsAside_2_b i s) (by decide) (fun k τ hk _ _ => by
    unfold F_M_putsAside_2_b
    rw [bind_T, p_cl (by omega), Nat.zero_add])
  rw [h1]
  exact ⟨σ1, rfl, fun j hj => by have := h2 j hj; rwa [Nat.zero_add] at this, fun q j hq => h3 q j (by omega)⟩
theorem m_back {σ : Mem} : ∃ σ1, F_M_comesBack σ = some σ1 ∧ (∀ j, j < 450 → σ1 334 j = σ 336 j) ∧ ∀ q j, q ≠ 334 ∨ 450 ≤ j → σ1 q j = σ q j := by
  unfold F_M_comesBack
  rw [show cnt 0 450 = 450 by decide]
  obtain ⟨σ1, h1, h2, h3⟩ := m_cpy (σ := σ) (d := 334) (s := 336) (a := 0) (b := 0) (n := 450) (F := fun i s => F_M_comesBack_2_b i s) (by decide) (fun k τ hk _ _ => by
    unfold F_M_comesBack_2_b
    rw [bind_T, p_cl (by omega), Nat.zero_add])
  rw [h1]
  exact ⟨σ1, rfl, fun j hj => by have := h2 j hj; rwa [Nat.zero_add] at this, fun q j hq => h3 q j (by omega)⟩
theorem ix450 {A k : Nat} : (450 : Int32) * nI A + nI k = nI (450 * A + k) := by
  rw [show (450 : Int32) * nI A = nI (450 * A) from pk_mul 450 A, nI_add]
theorem m_rem {σ : Mem} {A : Nat} (hA : A ≤ 12) (h6 : σ 333 6 = nI A) : ∃ σ1, F_M_remembers σ = some σ1 ∧ σ1 333 6 = nI (min (A + 1) 12) ∧ (∀ q j, q ≠ 337 → (q ≠ 333 ∨ j ≠ 6) → σ1 q j = σ q j) ∧ (∀ j, j < 450 → σ1 337 (450 * min A 11 + j) = σ 334 j) ∧ ∀ a j, a < min A 11 → j < 450 → σ1 337 (450 * a + j) = σ 337 (450 * (a + (A - min A 11)) + j) := by
  unfold F_M_remembers
  rw [h6]
  by_cases c : A = 12
  · subst c
    rw [if_pos (by decide), show cnt 0 4950 = 4950 by decide, show cnt 0 450 = 450 by decide]
    obtain ⟨s1, e1, e2, e3⟩ := forSO_inv (F := fun i s => F_M_remembers_11_b i s) 4950 0 (fun k τ => (∀ j, j < k → τ 337 j = σ 337 (j + 450)) ∧ ∀ q j, q ≠ 337 ∨ k ≤ j → τ q j = σ q j) σ (fun k τ hk hI => by
      obtain ⟨i1, i2⟩ := hI
      unfold F_M_remembers_11_b
      rw [Nat.zero_add, bind_T, show nI k + 450 = nI (k + 450) from nI_add k 450, p_inb (by omega) (by decide), chk_t, bind_T, p_cl (by omega), p_cl (by omega)]
      refine ⟨_, rfl, fun j hj => ?_, fun q j hq => ?_⟩
      · by_cases e : j = k
        · subst e
          rw [up_s, i2 337 _ (by omega)]
        · rw [up_d (by omega)]
          exact i1 j (by omega)
      · rw [up_d (by omega)]
        exact i2 q j (by omega)) ⟨fun j hj => by omega, fun _ _ _ => rfl⟩
    rw [show forSO (fun i s => F_M_remembers_11_b i s) 4950 0 σ = some s1 from e1, ob_s, bind_T]
    have e6 : s1 333 6 = nI 12 := (e3 333 6 (by omega)).trans h6
    rw [e6, show nI 12 - 1 = nI 11 by decide]
    obtain ⟨s2, f1, f2, f3⟩ := m_cpy (σ := up s1 333 6 (nI 11)) (d := 337) (s := 334) (a := 4950) (b := 0) (n := 450) (F := fun i s => F_M_remembers_52_b i s) (by decide) (fun k τ hk _ hq => by
      unfold F_M_remembers_52_b
      rw [show τ 333 6 = nI 11 from (hq 333 6 (by decide)).trans up_s, bind_T, ix450, p_inb (by omega) (by decide), chk_t, bind_T, p_cl (by omega), p_cl (by omega), Nat.zero_add])
    rw [f1, ob_s, bind_T]
    have g6 : s2 333 6 = nI 11 := (f3 333 6 (by omega)).trans up_s
    rw [g6]
    refine ⟨_, rfl, ?_, fun q j h1 h2 => ?_, fun j hj => ?_, fun a j ha hj => ?_⟩
    · rw [up_s]; decide
    · rw [up_d (by omega), f3 q j (by omega), up_d (by omega), e3 q j (by omega)]
    · rw [up_d (by omega), show 450 * min 12 11 + j = 4950 + j by omega, f2 j hj, Nat.zero_add, up_d (by omega), e3 334 j (by omega)]
    · rw [up_d (by omega), f3 337 _ (by omega), up_d (by omega), e2 _ (by omega), show 450 * (a + (12 - min 12 11)) + j = 450 * a + j + 450 by omega]
  · rw [if_neg (show ¬ nI A = 12 from fun h => c (nI_inj (b := 12) (by omega) (by omega) h)), show cnt 0 450 = 450 by decide]
    obtain ⟨s2, f1, f2, f3⟩ := m_cpy (σ := σ) (d := 337) (s := 334) (a := 450 * A) (b := 0) (n := 450) (F := fun i s => F_M_remembers_52_b i s) (by decide) (fun k τ hk _ hq => by
      unfold F_M_remembers_52_b
      rw [show τ 333 6 = nI A from (hq 333 6 (by decide)).trans h6, bind_T, ix450, p_inb (by omega) (by decide), chk_t, bind_T, p_cl (by omega), p_cl (by omega), Nat.zero_add])
    rw [f1, ob_s, bind_T]
    have g6 : s2 333 6 = nI A := (f3 333 6 (by omega)).trans h6
    rw [g6, nI_1]
    refine ⟨_, rfl, ?_, fun q j h1 h2 => ?_, fun j hj => ?_, fun a j ha hj => ?_⟩
    · rw [up_s, show min (A + 1) 12 = A + 1 by omega]
    · rw [up_d (by omega), f3 q j (by omega)]
    · rw [up_d (by omega), show 450 * min A 11 + j = 450 * A + j by omega, f2 j hj, Nat.zero_add]
    · rw [up_d (by omega), f3 337 _ (by omega), show a + (A - min A 11) = a by omega]
theorem c_top {σ : Mem} {n : Nat} (hn : n < 6000) : F_W_rememberedTown σ (nI n) = nI (n % 12) := by
  unfold F_W_rememberedTown
  rw [show nI n - nI n / 12 * 12 = nI (n % 12) from pk_rem (d := 12) (by omega) (by decide) (by decide), bind_T, if_neg (nI_pos (by omega)), if_pos (show nI (n % 12) < 12 from nI_lt (b := 12) (by omega) (by omega))]
theorem c_rem {σ : Mem} {o A : Nat} (ho : o < 12) (hA : A ≤ 12) (h1 : σ 0 15 = nI o) (h2 : σ 0 16 = nI A) : ∃ σ1, F_W_remember σ = some σ1 ∧ σ1 0 15 = nI (if A = 12 then (o + 1) % 12 else o) ∧ σ1 0 16 = nI (min (A + 1) 12) ∧ ∀ q j, (q ≠ 0 ∨ (j ≠ 15 ∧ j ≠ 16)) → σ1 q j = F_Town_copyAll σ (129 + 17 * ((o + A) % 12)) 3 q j := by
  unfold F_W_remember
  rw [h1, h2, nI_add, c_top (by omega), if_neg (nI_pos (by omega)), p_inb (by omega) (by decide), chk_t, p_cl (by omega), bind_T]
  have e15 : F_Town_copyAll σ (129 + 17 * ((o + A) % 12)) 3 0 15 = nI o := (copy_fr (by omega)).trans h1
  have e16 : F_Town_copyAll σ (129 + 17 * ((o + A) % 12)) 3 0 16 = nI A := (copy_fr (by omega)).trans h2
  rw [e15, e16]
  by_cases c : A = 12
  · subst c
    rw [if_neg (show ¬ nI 12 < 12 by decide), if_pos rfl, bind_T, nI_1]
    refine ⟨_, rfl, ?_, ?_, fun q j hq => up_d (by omega)⟩
    · rw [up_s]
      exact pk_rem (d := 12) (by omega) (by decide) (by decide)
    · rw [up_d (by omega), e16]; rfl
  · rw [if_pos (show nI A < 12 from nI_lt (b := 12) (by omega) (by omega)), if_neg c, bind_T, nI_1]
    refine ⟨_, rfl, ?_, ?_, fun q j hq => up_d (by omega)⟩
    · rw [up_d (by omega), e15]
    · rw [up_s, show min (A + 1) 12 = A + 1 by omega]

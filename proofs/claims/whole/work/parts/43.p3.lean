-- PURE STAGE: what a town is asked
theorem m_rd {σ : Mem} {q N i : Nat} (hi : i < N) (hN : N < 6000) : (chk (inb (nI i) N) <| some (σ q (nI i).toNatClampNeg)) = some (σ q i) := by rw [p_inb hi hN, chk_t, p_cl (by omega)]
theorem ix_p {p w : Nat} : (14 : Int32) + 4 * nI p + nI w = nI (14 + 4 * p + w) := by
  show nI 14 + nI 4 * nI p + nI w = _
  rw [pk_mul, nI_add, nI_add]
theorem ix_k {k w : Nat} : (110 : Int32) + 5 * nI k + nI w = nI (110 + 5 * k + w) := by
  show nI 110 + nI 5 * nI k + nI w = _
  rw [pk_mul, nI_add, nI_add]
theorem ix_l {p o : Nat} : (46 : Int32) + 8 * nI p + nI o = nI (46 + 8 * p + o) := by
  show nI 46 + nI 8 * nI p + nI o = _
  rw [pk_mul, nI_add, nI_add]
theorem m_of {σ : Mem} {p w : Nat} (h : 14 + 4 * p + w < 850) : F_M_of σ (nI p) (nI w) = some (σ 334 (14 + 4 * p + w)) := by
  unfold F_M_of
  rw [bind_T, ix_p, m_rd h (by decide)]
theorem m_of0 {σ : Mem} {p : Nat} (h : p < 100) : F_M_of σ (nI p) 0 = some (σ 334 (14 + 4 * p)) := m_of (w := 0) (by omega)
theorem m_of1 {σ : Mem} {p : Nat} (h : p < 100) : F_M_of σ (nI p) 1 = some (σ 334 (15 + 4 * p)) := (m_of (w := 1) (by omega)).trans (by rw [show 14 + 4 * p + 1 = 15 + 4 * p by omega])
theorem m_of2 {σ : Mem} {p : Nat} (h : p < 100) : F_M_of σ (nI p) 2 = some (σ 334 (16 + 4 * p)) := (m_of (w := 2) (by omega)).trans (by rw [show 14 + 4 * p + 2 = 16 + 4 * p by omega])
theorem m_of3 {σ : Mem} {p : Nat} (h : p < 100) : F_M_of σ (nI p) 3 = some (σ 334 (17 + 4 * p)) := (m_of (w := 3) (by omega)).trans (by rw [show 14 + 4 * p + 3 = 17 + 4 * p by omega])
theorem m_has {σ : Mem} {p w : Nat} {v : Int32} (h : 14 + 4 * p + w < 850) : F_M_has σ (nI p) (nI w) v = some (up σ 334 (14 + 4 * p + w) v) := by
  unfold F_M_has
  rw [bind_T, ix_p, p_inb h (by decide), chk_t, bind_T, p_cl (by omega)]
theorem m_has0 {σ : Mem} {p : Nat} {v : Int32} (h : p < 100) : F_M_has σ (nI p) 0 v = some (up σ 334 (14 + 4 * p) v) := m_has (w := 0) (by omega)
theorem m_has1 {σ : Mem} {p : Nat} {v : Int32} (h : p < 100) : F_M_has σ (nI p) 1 v = some (up σ 334 (15 + 4 * p) v) := (m_has (w := 1) (by omega)).trans (by rw [show 14 + 4 * p + 1 = 15 + 4 * p by omega])
theorem m_has2 {σ : Mem} {p : Nat} {v : Int32} (h : p < 100) : F_M_has σ (nI p) 2 v = some (up σ 334 (16 + 4 * p) v) := (m_has (w := 2) (by omega)).trans (by rw [show 14 + 4 * p + 2 = 16 + 4 * p by omega])
theorem m_has3 {σ : Mem} {p : Nat} {v : Int32} (h : p < 100) : F_M_has σ (nI p) 3 v = some (up σ 334 (17 + 4 * p) v) := (m_has (w := 3) (by omega)).trans (by rw [show 14 + 4 * p + 3 = 17 + 4 * p by omega])
theorem m_mat {σ : Mem} {k w : Nat} (h : 110 + 5 * k + w < 850) : F_M_ofMatch σ (nI k) (nI w) = some (σ 334 (110 + 5 * k + w)) := by
  unfold F_M_ofMatch
  rw [bind_T, ix_k, m_rd h (by decide)]
theorem m_mat0 {σ : Mem} {k : Nat} (h : k < 100) : F_M_ofMatch σ (nI k) 0 = some (σ 334 (110 + 5 * k)) := m_mat (w := 0) (by omega)
theorem m_mat1 {σ : Mem} {k : Nat} (h : k < 100) : F_M_ofMatch σ (nI k) 1 = some (σ 334 (111 + 5 * k)) := (m_mat (w := 1) (by omega)).trans (by rw [show 110 + 5 * k + 1 = 111 + 5 * k by omega])
theorem m_mat2 {σ : Mem} {k : Nat} (h : k < 100) : F_M_ofMatch σ (nI k) 2 = some (σ 334 (112 + 5 * k)) := (m_mat (w := 2) (by omega)).trans (by rw [show 110 + 5 * k + 2 = 112 + 5 * k by omega])
theorem m_mat3 {σ : Mem} {k : Nat} (h : k < 100) : F_M_ofMatch σ (nI k) 3 = some (σ 334 (113 + 5 * k)) := (m_mat (w := 3) (by omega)).trans (by rw [show 110 + 5 * k + 3 = 113 + 5 * k by omega])
theorem m_mat4 {σ : Mem} {k : Nat} (h : k < 100) : F_M_ofMatch σ (nI k) 4 = some (σ 334 (114 + 5 * k)) := (m_mat (w := 4) (by omega)).trans (by rw [show 110 + 5 * k + 4 = 114 + 5 * k by omega])
theorem m_told {σ : Mem} {k w : Nat} {v : Int32} (h : 110 + 5 * k + w < 850) : F_M_told σ (nI k) (nI w) v = some (up σ 334 (110 + 5 * k + w) v) := by
  unfold F_M_told
  rw [bind_T, ix_k, p_inb h (by decide), chk_t, bind_T, p_cl (by omega)]
theorem m_told0 {σ : Mem} {k : Nat} {v : Int32} (h : k < 100) : F_M_told σ (nI k) 0 v = some (up σ 334 (110 + 5 * k) v) := m_told (w := 0) (by omega)
theorem m_told1 {σ : Mem} {k : Nat} {v : Int32} (h : k < 100) : F_M_told σ (nI k) 1 v = some (up σ 334 (111 + 5 * k) v) := (m_told (w := 1) (by omega)).trans (by rw [show 110 + 5 * k + 1 = 111 + 5 * k by omega])
theorem m_told2 {σ : Mem} {k : Nat} {v : Int32} (h : k < 100) : F_M_told σ (nI k) 2 v = some (up σ 334 (112 + 5 * k) v) := (m_told (w := 2) (by omega)).trans (by rw [show 110 + 5 * k + 2 = 112 + 5 * k by omega])
theorem m_told3 {σ : Mem} {k : Nat} {v : Int32} (h : k < 100) : F_M_told σ (nI k) 3 v = some (up σ 334 (113 + 5 * k) v) := (m_told (w := 3) (by omega)).trans (by rw [show 110 + 5 * k + 3 = 113 + 5 * k by omega])
theorem m_told4 {σ : Mem} {k : Nat} {v : Int32} (h : k < 100) : F_M_told σ (nI k) 4 v = some (up σ 334 (114 + 5 * k) v) := (m_told (w := 4) (by omega)).trans (by rw [show 110 + 5 * k + 4 = 114 + 5 * k by omega])
theorem m_likes {σ : Mem} {p o : Nat} (h : 46 + 8 * p + o < 850) : F_M_likes σ (nI p) (nI o) = some (σ 334 (46 + 8 * p + o)) := by
  unfold F_M_likes
  rw [bind_T, ix_l, m_rd h (by decide)]
theorem t_first {σ : Mem} {t k : Nat} (h : k < 20) : F_Town_firstOf σ t (nI k) = σ (t + 10) (2 * k) := by
  unfold F_Town_firstOf
  rw [show (2 : Int32) * nI k = nI (2 * k) from pk_mul 2 k]
  exact p_at (by omega) (by decide)
theorem t_second {σ : Mem} {t k : Nat} (h : k < 20) : F_Town_secondOf σ t (nI k) = σ (t + 10) (2 * k + 1) := by
  unfold F_Town_secondOf
  rw [show (2 : Int32) * nI k = nI (2 * k) from pk_mul 2 k, nI_1]
  exact p_at (by omega) (by decide)
theorem t_liking {σ : Mem} {t p o : Nat} (hp : p < 8) (ho : o < 8) : F_Town_likingOf σ t (nI p) (nI o) = σ (t + 8) (8 * p + o) := by
  unfold F_Town_likingOf
  rw [show nI p * (8 : Int32) = nI (p * 8) from pk_mul p 8, nI_add, show p * 8 + o = 8 * p + o by omega]
  exact p_at (by omega) (by decide)
theorem t_wealth {σ : Mem} {t p : Nat} (h : p < 8) : F_Row_at σ (t + 1) 8 (nI p) = σ (t + 2) p := p_at h (by decide)
theorem t_asked {σ : Mem} {t p : Nat} (h : p < 8) : F_Row_at σ (t + 3) 8 (nI p) = σ (t + 4) p := p_at h (by decide)
theorem t_reins {σ : Mem} {t p : Nat} (h : p < 8) : F_Row_at σ (t + 5) 8 (nI p) = σ (t + 6) p := p_at h (by decide)
theorem t_happy {σ : Mem} {t k : Nat} (h : k < 20) : F_Row_at σ (t + 11) 20 (nI k) = σ (t + 12) k := p_at h (by decide)
theorem t_mon {σ : Mem} {t k : Nat} (h : k < 20) : F_Row_at σ (t + 13) 20 (nI k) = σ (t + 14) k := p_at h (by decide)
theorem m1_ne (n : Nat) (h : n < 6000) : nI n ≠ -1 := by
  intro h1
  have h2 : (nI n).toInt = (n : Int) := nI_toInt (by omega)
  rw [h1] at h2
  have h3 : ((-1 : Int32)).toInt = -1 := by decide
  omega
theorem nI_inj {a b : Nat} (ha : a < 6000) (hb : b < 6000) (h : nI a = nI b) : a = b := (nI_eq (by omega) (by omega)).mp h
theorem nI_sub1 {n : Nat} (h : 0 < n) : nI n - 1 = nI (n - 1) := by
  obtain ⟨m, rfl⟩ : ∃ m, n = m + 1 := ⟨n - 1, by omega⟩
  rw [nI_pred]
  rfl
theorem isIn_yes {σ : Mem} {k n : Nat} (hk : k < n) (hn : n < 6000) : F_M_isIn σ (nI k) 0 (nI n - 1) = 1 := by
  unfold F_M_isIn
  rw [if_neg (nI_pos (by omega)), nI_sub1 (by omega), if_neg (nI_nlt (by omega) (by omega))]
theorem isIn_no {σ : Mem} {v : Int32} {n : Nat} (hn : n < 6000) (h : ∀ k, k < n → v ≠ nI k) : F_M_isIn σ v 0 (nI n - 1) = 0 := by
  unfold F_M_isIn
  by_cases h0 : v < 0
  · rw [if_pos h0]
  · rw [if_neg h0, if_pos]
    obtain ⟨j, hj, rfl⟩ := nI_of h0
    have hj2 : n ≤ j := Nat.not_lt.mp fun h9 => h j h9 rfl
    by_cases hn0 : n = 0
    · subst hn0
      rw [Int32.lt_iff_toInt_lt, nI_toInt hj]
      have h3 : (nI 0 - 1 : Int32).toInt = -1 := by decide
      omega
    · rw [nI_sub1 (by omega)]
      exact nI_lt (by omega) hj
section TRQ
variable {σ σ' : Mem} {g : Nat → Int32} {t P M C : Nat}
theorem q_pers (h : TR (tv σ t) (σ' 334) g P M C) {k : Nat} (hk : k < P) : F_Town_hasPerson σ t (nI k) = 1 ∧ F_M_isPerson σ' (nI k) = some 1 := by
  have hP := h.c1.1
  have h8 : σ t 8 = nI P := h.c2.1
  have h3 : σ' 334 3 = nI P := h.c3.1
  constructor
  · unfold F_Town_hasPerson
    rw [if_neg (nI_pos (by omega)), h8, if_pos (nI_lt hk (by omega))]
  · unfold F_M_isPerson
    rw [h3, isIn_yes hk (by omega)]
    rfl
theorem q_nopers (h : TR (tv σ t) (σ' 334) g P M C) {v : Int32} (hv : ∀ k, k < P → v ≠ nI k) : F_Town_hasPerson σ t v = 0 ∧ F_M_isPerson σ' v = some 0 := by
  have hP := h.c1.1
  have h8 : σ t 8 = nI P := h.c2.1
  have h3 : σ' 334 3 = nI P := h.c3.1
  constructor
  · unfold F_Town_hasPerson
    by_cases h0 : v < 0
    · rw [if_pos h0]
    · rw [if_neg h0, h8, if_neg]
      intro h1
      obtain ⟨j, hj, rfl⟩ := nI_of h0
      exact hv j ((p_lt hj (by omega)).mp h1) rfl
  · unfold F_M_isPerson
    rw [h3, isIn_no (by omega) hv]
    rfl
theorem q_match (h : TR (tv σ t) (σ' 334) g P M C) {k : Nat} (hk : k < M) : F_M_isMatch σ' (nI k) = some 1 := by
  have hM := h.c1.2.1
  have h3 : σ' 334 4 = nI M := h.c3.2.1
  unfold F_M_isMatch
  rw [h3, isIn_yes hk (by omega)]
  rfl
theorem q_nomatch (h : TR (tv σ t) (σ' 334) g P M C) {v : Int32} (hv : ∀ k, k < M → v ≠ nI k) : F_M_isMatch σ' v = some 0 := by
  have hM := h.c1.2.1
  have h3 : σ' 334 4 = nI M := h.c3.2.1
  unfold F_M_isMatch
  rw [h3, isIn_no (by omega) hv]
  rfl
end TRQ
-- whom one is wed to
def spB (T : Nat → Nat → Int32) (v : Int32) (k : Nat) : Unit → Unit ⊕ Int32 := fun _ =>
  if bt (T 0 11) k then .inl () else if T 10 (2 * k) = v then .inr (T 10 (2 * k + 1)) else if T 10 (2 * k + 1) = v then .inr (T 10 (2 * k)) else .inl ()
def sp (T : Nat → Nat → Int32) (M : Nat) (v : Int32) : Int32 := match itrX (spB T v) M () with
  | .inl _ => -1
  | .inr r => r
theorem itrX_inr {S X : Type} {f : Nat → S → S ⊕ X} {s : S} {x : X} : ∀ {n : Nat}, itrX f n s = .inr x → ∃ k s', k < n ∧ itrX f k s = .inl s' ∧ f k s' = .inr x := by
  intro n
  induction n with
  | zero => intro h; cases h
  | succ n ih =>
    intro h
    change contG (itrX f n s) (f n) = .inr x at h
    cases hg : itrX f n s with
    | inl s' => rw [hg] at h; exact ⟨n, s', by omega, hg, h⟩
    | inr y =>
      rw [hg] at h
      obtain ⟨k, s', h1, h2, h3⟩ := ih (hg.trans (by cases h; rfl))
      exact ⟨k, s', by omega, h2, h3⟩
theorem itrX_inl {S X : Type} {f : Nat → S → S ⊕ X} {s s2 : S} : ∀ {n : Nat}, itrX f n s = .inl s2 → ∀ k, k < n → ∃ s' s'', itrX f k s = .inl s' ∧ f k s' = .inl s'' := by
  intro n
  induction n generalizing s2 with
  | zero => intro _ k hk; omega
  | succ n ih =>
    intro h k hk
    change contG (itrX f n s) (f n) = .inl s2 at h
    cases hg : itrX f n s with
    | inr y => rw [hg] at h; cases h
    | inl s' =>
      rw [hg] at h
      by_cases hkn : k = n
      · subst hkn
        exact ⟨s', s2, hg, h⟩
      · exact ih hg k (by omega)
section TRS
variable {σ σ' : Mem} {g : Nat → Int32} {t P M C : Nat}
theorem q_spB (h : TR (tv σ t) (σ' 334) g P M C) {v : Int32} {k : Nat} (hk : k < M) : F_Town_spouseOf_2_b σ t v (nI k) = spB (tv σ t) v k () ∧ F_M_wedTo_2_b σ' v (nI k) = some (spB (tv σ t) v k ()) := by
  have hM := h.c1.2.1
  obtain ⟨h1, h2, h3, h4, h5⟩ := h.c12 k hk
  constructor
  · unfold F_Town_spouseOf_2_b spB
    rw [p_over (by omega), t_first (by omega), t_second (by omega)]
    show _ = if bt (σ t 11) k then _ else if σ (t + 10) (2 * k) = v then _ else if σ (t + 10) (2 * k + 1) = v then _ else _
    cases bt (σ t 11) k <;> rfl
  · unfold F_M_wedTo_2_b spB
    rw [m_mat4 (by omega), m_mat0 (by omega), m_mat1 (by omega), h1, h2, h5]
    simp only [ob_s]
    cases bt (tv σ t 0 11) k
    · rw [if_neg (show ¬ ((if false = true then (1 : Int32) else 0) = 1) by decide), if_neg (show ¬ (false = true) by decide)]
      by_cases e1 : tv σ t 10 (2 * k) = v
      · rw [if_pos e1, if_pos e1]
      · rw [if_neg e1, if_neg e1]
        by_cases e2 : tv σ t 10 (2 * k + 1) = v
        · rw [if_pos e2, if_pos e2]
        · rw [if_neg e2, if_neg e2]
    · rfl
theorem q_sp (h : TR (tv σ t) (σ' 334) g P M C) (v : Int32) : F_Town_spouseOf σ t v = sp (tv σ t) M v ∧ F_M_wedTo σ' v = some (sp (tv σ t) M v) := by
  have hM := h.c1.2.1
  have h8 : σ t 10 = nI M := h.c2.2.1
  have h3 : σ' 334 4 = nI M := h.c3.2.1
  constructor
  · unfold F_Town_spouseOf sp
    rw [bind_T, h8, p_cnt0 (by omega)]
    have e1 : forG (fun i _ => F_Town_spouseOf_2_b σ t v i) M 0 () = itrX (spB (tv σ t) v) M () := by
      have := forG_itr (F := fun i (_ : Unit) => F_Town_spouseOf_2_b σ t v i) M 0 ()
      rw [show nI 0 = 0 from nI_0] at this
      rw [this]
      exact itrX_congr fun k hk s' _ => by rw [Nat.zero_add]; exact (q_spB h hk).1
    rw [e1]
    cases itrX (spB (tv σ t) v) M () <;> rfl
  · unfold F_M_wedTo sp
    rw [h3, p_cnt0 (by omega)]
    have e1 : forGO (fun i _ => F_M_wedTo_2_b σ' v i) M 0 () = some (itrX (spB (tv σ t) v) M ()) := by
      have := forGO_itr (F := fun i (_ : Unit) => F_M_wedTo_2_b σ' v i) M 0 () (spB (tv σ t) v) (fun k hk s' _ => by rw [Nat.zero_add]; exact (q_spB h hk).2)
      rw [show nI 0 = 0 from nI_0] at this
      exact this
    rw [e1, ob_s]
    cases itrX (spB (tv σ t) v) M () <;> rfl
theorem q_spR (h : TR (tv σ t) (σ' 334) g P M C) (v : Int32) : sp (tv σ t) M v = -1 ∨ ∃ q, q < P ∧ sp (tv σ t) M v = nI q := by
  unfold sp
  cases hx : itrX (spB (tv σ t) v) M () with
  | inl s => exact Or.inl rfl
  | inr r =>
    obtain ⟨k, s', hk, -, hf⟩ := itrX_inr hx
    obtain ⟨a, b, ha, hb, -, e1, e2⟩ := (h.c13 k hk).1
    unfold spB at hf
    refine Or.inr ?_
    by_cases c1 : bt (tv σ t 0 11) k = true
    · rw [if_pos c1] at hf; cases hf
    · rw [if_neg c1] at hf
      by_cases c2 : tv σ t 10 (2 * k) = v
      · rw [if_pos c2] at hf; cases hf; exact ⟨b, hb, e2⟩
      · rw [if_neg c2] at hf
        by_cases c3 : tv σ t 10 (2 * k + 1) = v
        · rw [if_pos c3] at hf; cases hf; exact ⟨a, ha, e1⟩
        · rw [if_neg c3] at hf; cases hf
end TRS

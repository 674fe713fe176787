-- PURE STAGE: a town's cells T (row, place) beside the reference's array f
def upT (T : Nat → Nat → Int32) (r k : Nat) (v : Int32) : Nat → Nat → Int32 := fun a b => if a = r ∧ b = k then v else T a b
def upF (f : Nat → Int32) (j : Nat) (v : Int32) : Nat → Int32 := fun i => if i = j then v else f i
theorem upT_s {T : Nat → Nat → Int32} {r k : Nat} {v : Int32} : upT T r k v r k = v := by simp [upT]
theorem upT_d {T : Nat → Nat → Int32} {r k a b : Nat} {v : Int32} (h : a ≠ r ∨ b ≠ k) : upT T r k v a b = T a b := by
  unfold upT
  rw [if_neg (by omega)]
theorem upF_s {f : Nat → Int32} {j : Nat} {v : Int32} : upF f j v j = v := by simp [upF]
theorem upF_d {f : Nat → Int32} {j i : Nat} {v : Int32} (h : i ≠ j) : upF f j v i = f i := by
  unfold upF
  rw [if_neg h]
def tv (σ : Mem) (t : Nat) : Nat → Nat → Int32 := fun r k => σ (t + r) k
theorem tv_up {σ : Mem} {t r k : Nat} {v : Int32} : tv (up σ (t + r) k v) t = upT (tv σ t) r k v := by
  funext a b
  unfold tv up upT
  by_cases h : a = r ∧ b = k
  · rw [if_pos h, if_pos (by omega)]
  · rw [if_neg h, if_neg (by omega)]
theorem tv_up0 {σ : Mem} {t k : Nat} {v : Int32} : tv (up σ t k v) t = upT (tv σ t) 0 k v := tv_up (r := 0)
theorem mv_up {σ : Mem} {q j : Nat} {v : Int32} : (up σ q j v) q = upF (σ q) j v := up_row σ q j v
def TR (T : Nat → Nat → Int32) (f g : Nat → Int32) (P M C : Nat) : Prop :=
  (P ≤ 8 ∧ M ≤ 20 ∧ C < 1000000) ∧
  (T 0 8 = nI P ∧ T 0 10 = nI M ∧ T 0 19 = nI C) ∧
  (f 3 = nI P ∧ f 4 = nI M ∧ f 10 = nI C ∧ f 11 = nI (min 60 C)) ∧
  (f 0 = T 0 18 ∧ f 5 = T 0 12 ∧ f 6 = T 0 13 ∧ f 7 = T 0 14 ∧ f 8 = T 0 15 ∧ f 9 = T 0 16 ∧ f 12 = T 0 17) ∧
  ((∃ n, n ≤ 12 ∧ T 0 18 = nI n) ∧ (∃ n, n ≤ 99 ∧ T 0 12 = nI n) ∧ (∃ n, n ≤ 20 ∧ T 0 13 = nI n) ∧ (∃ n, n ≤ 99 ∧ T 0 14 = nI n) ∧ (∃ n, n ≤ 9999 ∧ T 0 15 = nI n)) ∧
  (∀ p, p < P → f (14 + 4 * p) = T 2 p ∧ f (15 + 4 * p) = T 4 p ∧ f (16 + 4 * p) = T 6 p ∧ f (17 + 4 * p) = (if bt (T 0 9) p then 1 else 0)) ∧
  (∀ p, p < P → (∃ n, n ≤ 999 ∧ T 2 p = nI n) ∧ (T 6 p = -1 ∨ ∃ r, r < P ∧ r ≠ p ∧ T 6 p = nI r)) ∧
  (∀ p, P ≤ p → p < 8 → T 4 p = 0) ∧
  (∀ i, P ≤ i → i < 32 → bt (T 0 9) i = false) ∧
  (∀ p o, p < P → o < P → f (46 + 8 * p + o) = T 8 (8 * p + o)) ∧
  (∀ p o, p < 8 → o < 8 → (∃ n, n ≤ 9 ∧ T 8 (8 * p + o) = nI n) ∧ (P ≤ p ∨ P ≤ o → T 8 (8 * p + o) = 0)) ∧
  (∀ k, k < M → f (110 + 5 * k) = T 10 (2 * k) ∧ f (111 + 5 * k) = T 10 (2 * k + 1) ∧ f (112 + 5 * k) = T 12 k ∧ f (113 + 5 * k) = T 14 k ∧ f (114 + 5 * k) = (if bt (T 0 11) k then 1 else 0)) ∧
  (∀ k, k < M → (∃ a b, a < P ∧ b < P ∧ a ≠ b ∧ T 10 (2 * k) = nI a ∧ T 10 (2 * k + 1) = nI b) ∧ ∃ h, h ≤ 99 ∧ T 12 k = nI h) ∧
  (∀ i, M ≤ i → i < 32 → bt (T 0 11) i = false) ∧
  (∀ a c, a < min 60 C → c < 4 → f (210 + 4 * a + c) = T 16 (4 * ((C - 1 - a) % 60) + c)) ∧
  (∀ j, j = 1 ∨ j = 2 ∨ (450 ≤ j ∧ j < 850) → f j = g j)
section TRX
variable {T : Nat → Nat → Int32} {f g : Nat → Int32} {P M C : Nat}
theorem TR.c1 (h : TR T f g P M C) : P ≤ 8 ∧ M ≤ 20 ∧ C < 1000000 := h.1
theorem TR.c2 (h : TR T f g P M C) : T 0 8 = nI P ∧ T 0 10 = nI M ∧ T 0 19 = nI C := h.2.1
theorem TR.c3 (h : TR T f g P M C) : f 3 = nI P ∧ f 4 = nI M ∧ f 10 = nI C ∧ f 11 = nI (min 60 C) := h.2.2.1
theorem TR.c4 (h : TR T f g P M C) : f 0 = T 0 18 ∧ f 5 = T 0 12 ∧ f 6 = T 0 13 ∧ f 7 = T 0 14 ∧ f 8 = T 0 15 ∧ f 9 = T 0 16 ∧ f 12 = T 0 17 := h.2.2.2.1
theorem TR.c5 (h : TR T f g P M C) : (∃ n, n ≤ 12 ∧ T 0 18 = nI n) ∧ (∃ n, n ≤ 99 ∧ T 0 12 = nI n) ∧ (∃ n, n ≤ 20 ∧ T 0 13 = nI n) ∧ (∃ n, n ≤ 99 ∧ T 0 14 = nI n) ∧ (∃ n, n ≤ 9999 ∧ T 0 15 = nI n) := h.2.2.2.2.1
theorem TR.c6 (h : TR T f g P M C) : ∀ p, p < P → f (14 + 4 * p) = T 2 p ∧ f (15 + 4 * p) = T 4 p ∧ f (16 + 4 * p) = T 6 p ∧ f (17 + 4 * p) = (if bt (T 0 9) p then 1 else 0) := h.2.2.2.2.2.1
theorem TR.c7 (h : TR T f g P M C) : ∀ p, p < P → (∃ n, n ≤ 999 ∧ T 2 p = nI n) ∧ (T 6 p = -1 ∨ ∃ r, r < P ∧ r ≠ p ∧ T 6 p = nI r) := h.2.2.2.2.2.2.1
theorem TR.c8 (h : TR T f g P M C) : ∀ p, P ≤ p → p < 8 → T 4 p = 0 := h.2.2.2.2.2.2.2.1
theorem TR.c9 (h : TR T f g P M C) : ∀ i, P ≤ i → i < 32 → bt (T 0 9) i = false := h.2.2.2.2.2.2.2.2.1
theorem TR.c10 (h : TR T f g P M C) : ∀ p o, p < P → o < P → f (46 + 8 * p + o) = T 8 (8 * p + o) := h.2.2.2.2.2.2.2.2.2.1
theorem TR.c11 (h : TR T f g P M C) : ∀ p o, p < 8 → o < 8 → (∃ n, n ≤ 9 ∧ T 8 (8 * p + o) = nI n) ∧ (P ≤ p ∨ P ≤ o → T 8 (8 * p + o) = 0) := h.2.2.2.2.2.2.2.2.2.2.1
theorem TR.c12 (h : TR T f g P M C) : ∀ k, k < M → f (110 + 5 * k) = T 10 (2 * k) ∧ f (111 + 5 * k) = T 10 (2 * k + 1) ∧ f (112 + 5 * k) = T 12 k ∧ f (113 + 5 * k) = T 14 k ∧ f (114 + 5 * k) = (if bt (T 0 11) k then 1 else 0) := h.2.2.2.2.2.2.2.2.2.2.2.1
theorem TR.c13 (h : TR T f g P M C) : ∀ k, k < M → (∃ a b, a < P ∧ b < P ∧ a ≠ b ∧ T 10 (2 * k) = nI a ∧ T 10 (2 * k + 1) = nI b) ∧ ∃ h, h ≤ 99 ∧ T 12 k = nI h := h.2.2.2.2.2.2.2.2.2.2.2.2.1
theorem TR.c14 (h : TR T f g P M C) : ∀ i, M ≤ i → i < 32 → bt (T 0 11) i = false := h.2.2.2.2.2.2.2.2.2.2.2.2.2.1
theorem TR.c15 (h : TR T f g P M C) : ∀ a c, a < min 60 C → c < 4 → f (210 + 4 * a + c) = T 16 (4 * ((C - 1 - a) % 60) + c) := h.2.2.2.2.2.2.2.2.2.2.2.2.2.2.1
theorem TR.c16 (h : TR T f g P M C) : ∀ j, j = 1 ∨ j = 2 ∨ (450 ≤ j ∧ j < 850) → f j = g j := h.2.2.2.2.2.2.2.2.2.2.2.2.2.2.2
theorem TR.wealth (h : TR T f g P M C) {p0 n0 : Nat} (hp0 : p0 < P) (hn0 : n0 ≤ 999) : TR (upT T 2 p0 (nI n0)) (upF f (14 + 4 * p0) (nI n0)) g P M C := by
  have hP := h.c1.1
  have hM := h.c1.2.1
  exact ⟨h.c1,
    ⟨by rw [upT_d (by omega)]; exact h.c2.1, by rw [upT_d (by omega)]; exact h.c2.2.1, by rw [upT_d (by omega)]; exact h.c2.2.2⟩,
    ⟨by rw [upF_d (by omega)]; exact h.c3.1, by rw [upF_d (by omega)]; exact h.c3.2.1, by rw [upF_d (by omega)]; exact h.c3.2.2.1, by rw [upF_d (by omega)]; exact h.c3.2.2.2⟩,
    ⟨by rw [upF_d (by omega), upT_d (by omega)]; exact h.c4.1, by rw [upF_d (by omega), upT_d (by omega)]; exact h.c4.2.1, by rw [upF_d (by omega), upT_d (by omega)]; exact h.c4.2.2.1, by rw [upF_d (by omega), upT_d (by omega)]; exact h.c4.2.2.2.1, by rw [upF_d (by omega), upT_d (by omega)]; exact h.c4.2.2.2.2.1, by rw [upF_d (by omega), upT_d (by omega)]; exact h.c4.2.2.2.2.2.1, by rw [upF_d (by omega), upT_d (by omega)]; exact h.c4.2.2.2.2.2.2⟩,
    ⟨by obtain ⟨n9, h8, h9⟩ := h.c5.1; exact ⟨n9, h8, by rw [upT_d (by omega)]; exact h9⟩, by obtain ⟨n9, h8, h9⟩ := h.c5.2.1; exact ⟨n9, h8, by rw [upT_d (by omega)]; exact h9⟩, by obtain ⟨n9, h8, h9⟩ := h.c5.2.2.1; exact ⟨n9, h8, by rw [upT_d (by omega)]; exact h9⟩, by obtain ⟨n9, h8, h9⟩ := h.c5.2.2.2.1; exact ⟨n9, h8, by rw [upT_d (by omega)]; exact h9⟩, by obtain ⟨n9, h8, h9⟩ := h.c5.2.2.2.2; exact ⟨n9, h8, by rw [upT_d (by omega)]; exact h9⟩⟩,
    fun p hp => by
      by_cases e : p = p0
      · subst e
        exact ⟨by rw [upF_s, upT_s], by rw [upF_d (by omega), upT_d (by omega)]; exact (h.c6 p hp).2.1, by rw [upF_d (by omega), upT_d (by omega)]; exact (h.c6 p hp).2.2.1, by rw [upF_d (by omega), upT_d (by omega)]; exact (h.c6 p hp).2.2.2⟩
      · exact ⟨by rw [upF_d (by omega), upT_d (by omega)]; exact (h.c6 p hp).1, by rw [upF_d (by omega), upT_d (by omega)]; exact (h.c6 p hp).2.1, by rw [upF_d (by omega), upT_d (by omega)]; exact (h.c6 p hp).2.2.1, by rw [upF_d (by omega), upT_d (by omega)]; exact (h.c6 p hp).2.2.2⟩,
    fun p hp => by
      by_cases e : p = p0
      · subst e
        exact ⟨⟨n0, hn0, upT_s⟩, by rw [upT_d (by omega)]; exact (h.c7 p hp).2⟩
      · exact ⟨by rw [upT_d (by omega)]; exact (h.c7 p hp).1, by rw [upT_d (by omega)]; exact (h.c7 p hp).2⟩,
    fun p hp h8 => by rw [upT_d (by omega)]; exact h.c8 p hp h8,
    fun i hi h8 => by rw [upT_d (by omega)]; exact h.c9 i hi h8,
    fun p o hp ho => by rw [upF_d (by omega), upT_d (by omega)]; exact h.c10 p o hp ho,
    fun p o hp ho => by rw [upT_d (by omega)]; exact h.c11 p o hp ho,
    fun k hk => ⟨by rw [upF_d (by omega), upT_d (by omega)]; exact (h.c12 k hk).1, by rw [upF_d (by omega), upT_d (by omega)]; exact (h.c12 k hk).2.1, by rw [upF_d (by omega), upT_d (by omega)]; exact (h.c12 k hk).2.2.1, by rw [upF_d (by omega), upT_d (by omega)]; exact (h.c12 k hk).2.2.2.1, by rw [upF_d (by omega), upT_d (by omega)]; exact (h.c12 k hk).2.2.2.2⟩,
    fun k hk => ⟨by obtain ⟨a, b, h1, h2, h3, h4, h5⟩ := (h.c13 k hk).1; exact ⟨a, b, h1, h2, h3, by rw [upT_d (by omega)]; exact h4, by rw [upT_d (by omega)]; exact h5⟩, by obtain ⟨n9, h8, h9⟩ := (h.c13 k hk).2; exact ⟨n9, h8, by rw [upT_d (by omega)]; exact h9⟩⟩,
    fun i hi h8 => by rw [upT_d (by omega)]; exact h.c14 i hi h8,
    fun a c ha hc => by rw [upF_d (by omega), upT_d (by omega)]; exact h.c15 a c ha hc,
    fun j hj => by rw [upF_d (by omega)]; exact h.c16 j hj⟩
theorem TR.asked (h : TR T f g P M C) {p0 : Nat} {x0 : Int32} (hp0 : p0 < P) : TR (upT T 4 p0 x0) (upF f (15 + 4 * p0) x0) g P M C := by
  have hP := h.c1.1
  have hM := h.c1.2.1
  exact ⟨h.c1,
    ⟨by rw [upT_d (by omega)]; exact h.c2.1, by rw [upT_d (by omega)]; exact h.c2.2.1, by rw [upT_d (by omega)]; exact h.c2.2.2⟩,
    ⟨by rw [upF_d (by omega)]; exact h.c3.1, by rw [upF_d (by omega)]; exact h.c3.2.1, by rw [upF_d (by omega)]; exact h.c3.2.2.1, by rw [upF_d (by omega)]; exact h.c3.2.2.2⟩,
    ⟨by rw [upF_d (by omega), upT_d (by omega)]; exact h.c4.1, by rw [upF_d (by omega), upT_d (by omega)]; exact h.c4.2.1, by rw [upF_d (by omega), upT_d (by omega)]; exact h.c4.2.2.1, by rw [upF_d (by omega), upT_d (by omega)]; exact h.c4.2.2.2.1, by rw [upF_d (by omega), upT_d (by omega)]; exact h.c4.2.2.2.2.1, by rw [upF_d (by omega), upT_d (by omega)]; exact h.c4.2.2.2.2.2.1, by rw [upF_d (by omega), upT_d (by omega)]; exact h.c4.2.2.2.2.2.2⟩,
    ⟨by obtain ⟨n9, h8, h9⟩ := h.c5.1; exact ⟨n9, h8, by rw [upT_d (by omega)]; exact h9⟩, by obtain ⟨n9, h8, h9⟩ := h.c5.2.1; exact ⟨n9, h8, by rw [upT_d (by omega)]; exact h9⟩, by obtain ⟨n9, h8, h9⟩ := h.c5.2.2.1; exact ⟨n9, h8, by rw [upT_d (by omega)]; exact h9⟩, by obtain ⟨n9, h8, h9⟩ := h.c5.2.2.2.1; exact ⟨n9, h8, by rw [upT_d (by omega)]; exact h9⟩, by obtain ⟨n9, h8, h9⟩ := h.c5.2.2.2.2; exact ⟨n9, h8, by rw [upT_d (by omega)]; exact h9⟩⟩,
    fun p hp => by
      by_cases e : p = p0
      · subst e
        exact ⟨by rw [upF_d (by omega), upT_d (by omega)]; exact (h.c6 p hp).1, by rw [upF_s, upT_s], by rw [upF_d (by omega), upT_d (by omega)]; exact (h.c6 p hp).2.2.1, by rw [upF_d (by omega), upT_d (by omega)]; exact (h.c6 p hp).2.2.2⟩
      · exact ⟨by rw [upF_d (by omega), upT_d (by omega)]; exact (h.c6 p hp).1, by rw [upF_d (by omega), upT_d (by omega)]; exact (h.c6 p hp).2.1, by rw [upF_d (by omega), upT_d (by omega)]; exact (h.c6 p hp).2.2.1, by rw [upF_d (by omega), upT_d (by omega)]; exact (h.c6 p hp).2.2.2⟩,
    fun p hp => ⟨by obtain ⟨n9, h8, h9⟩ := (h.c7 p hp).1; exact ⟨n9, h8, by rw [upT_d (by omega)]; exact h9⟩, by rw [upT_d (by omega)]; exact (h.c7 p hp).2⟩,
    fun p hp h8 => by rw [upT_d (by omega)]; exact h.c8 p hp h8,
    fun i hi h8 => by rw [upT_d (by omega)]; exact h.c9 i hi h8,
    fun p o hp ho => by rw [upF_d (by omega), upT_d (by omega)]; exact h.c10 p o hp ho,
    fun p o hp ho => by rw [upT_d (by omega)]; exact h.c11 p o hp ho,
    fun k hk => ⟨by rw [upF_d (by omega), upT_d (by omega)]; exact (h.c12 k hk).1, by rw [upF_d (by omega), upT_d (by omega)]; exact (h.c12 k hk).2.1, by rw [upF_d (by omega), upT_d (by omega)]; exact (h.c12 k hk).2.2.1, by rw [upF_d (by omega), upT_d (by omega)]; exact (h.c12 k hk).2.2.2.1, by rw [upF_d (by omega), upT_d (by omega)]; exact (h.c12 k hk).2.2.2.2⟩,
    fun k hk => ⟨by obtain ⟨a, b, h1, h2, h3, h4, h5⟩ := (h.c13 k hk).1; exact ⟨a, b, h1, h2, h3, by rw [upT_d (by omega)]; exact h4, by rw [upT_d (by omega)]; exact h5⟩, by obtain ⟨n9, h8, h9⟩ := (h.c13 k hk).2; exact ⟨n9, h8, by rw [upT_d (by omega)]; exact h9⟩⟩,
    fun i hi h8 => by rw [upT_d (by omega)]; exact h.c14 i hi h8,
    fun a c ha hc => by rw [upF_d (by omega), upT_d (by omega)]; exact h.c15 a c ha hc,
    fun j hj => by rw [upF_d (by omega)]; exact h.c16 j hj⟩
theorem TR.reins (h : TR T f g P M C) {p0 : Nat} {x0 : Int32} (hp0 : p0 < P) (hx0 : x0 = -1 ∨ ∃ r, r < P ∧ r ≠ p0 ∧ x0 = nI r) : TR (upT T 6 p0 x0) (upF f (16 + 4 * p0) x0) g P M C := by
  have hP := h.c1.1
  have hM := h.c1.2.1
  exact ⟨h.c1,
    ⟨by rw [upT_d (by omega)]; exact h.c2.1, by rw [upT_d (by omega)]; exact h.c2.2.1, by rw [upT_d (by omega)]; exact h.c2.2.2⟩,
    ⟨by rw [upF_d (by omega)]; exact h.c3.1, by rw [upF_d (by omega)]; exact h.c3.2.1, by rw [upF_d (by omega)]; exact h.c3.2.2.1, by rw [upF_d (by omega)]; exact h.c3.2.2.2⟩,
    ⟨by rw [upF_d (by omega), upT_d (by omega)]; exact h.c4.1, by rw [upF_d (by omega), upT_d (by omega)]; exact h.c4.2.1, by rw [upF_d (by omega), upT_d (by omega)]; exact h.c4.2.2.1, by rw [upF_d (by omega), upT_d (by omega)]; exact h.c4.2.2.2.1, by rw [upF_d (by omega), upT_d (by omega)]; exact h.c4.2.2.2.2.1, by rw [upF_d (by omega), upT_d (by omega)]; exact h.c4.2.2.2.2.2.1, by rw [upF_d (by omega), upT_d (by omega)]; exact h.c4.2.2.2.2.2.2⟩,
    ⟨by obtain ⟨n9, h8, h9⟩ := h.c5.1; exact ⟨n9, h8, by rw [upT_d (by omega)]; exact h9⟩, by obtain ⟨n9, h8, h9⟩ := h.c5.2.1; exact ⟨n9, h8, by rw [upT_d (by omega)]; exact h9⟩, by obtain ⟨n9, h8, h9⟩ := h.c5.2.2.1; exact ⟨n9, h8, by rw [upT_d (by omega)]; exact h9⟩, by obtain ⟨n9, h8, h9⟩ := h.c5.2.2.2.1; exact ⟨n9, h8, by rw [upT_d (by omega)]; exact h9⟩, by obtain ⟨n9, h8, h9⟩ := h.c5.2.2.2.2; exact ⟨n9, h8, by rw [upT_d (by omega)]; exact h9⟩⟩,
    fun p hp => by
      by_cases e : p = p0
      · subst e
        exact ⟨by rw [upF_d (by omega), upT_d (by omega)]; exact (h.c6 p hp).1, by rw [upF_d (by omega), upT_d (by omega)]; exact (h.c6 p hp).2.1, by rw [upF_s, upT_s], by rw [upF_d (by omega), upT_d (by omega)]; exact (h.c6 p hp).2.2.2⟩
      · exact ⟨by rw [upF_d (by omega), upT_d (by omega)]; exact (h.c6 p hp).1, by rw [upF_d (by omega), upT_d (by omega)]; exact (h.c6 p hp).2.1, by rw [upF_d (by omega), upT_d (by omega)]; exact (h.c6 p hp).2.2.1, by rw [upF_d (by omega), upT_d (by omega)]; exact (h.c6 p hp).2.2.2⟩,
    fun p hp => by
      by_cases e : p = p0
      · subst e
        exact ⟨by rw [upT_d (by omega)]; exact (h.c7 p hp).1, by rw [upT_s]; exact hx0⟩
      · exact ⟨by rw [upT_d (by omega)]; exact (h.c7 p hp).1, by rw [upT_d (by omega)]; exact (h.c7 p hp).2⟩,
    fun p hp h8 => by rw [upT_d (by omega)]; exact h.c8 p hp h8,
    fun i hi h8 => by rw [upT_d (by omega)]; exact h.c9 i hi h8,
    fun p o hp ho => by rw [upF_d (by omega), upT_d (by omega)]; exact h.c10 p o hp ho,
    fun p o hp ho => by rw [upT_d (by omega)]; exact h.c11 p o hp ho,
    fun k hk => ⟨by rw [upF_d (by omega), upT_d (by omega)]; exact (h.c12 k hk).1, by rw [upF_d (by omega), upT_d (by omega)]; exact (h.c12 k hk).2.1, by rw [upF_d (by omega), upT_d (by omega)]; exact (h.c12 k hk).2.2.1, by rw [upF_d (by omega), upT_d (by omega)]; exact (h.c12 k hk).2.2.2.1, by rw [upF_d (by omega), upT_d (by omega)]; exact (h.c12 k hk).2.2.2.2⟩,
    fun k hk => ⟨by obtain ⟨a, b, h1, h2, h3, h4, h5⟩ := (h.c13 k hk).1; exact ⟨a, b, h1, h2, h3, by rw [upT_d (by omega)]; exact h4, by rw [upT_d (by omega)]; exact h5⟩, by obtain ⟨n9, h8, h9⟩ := (h.c13 k hk).2; exact ⟨n9, h8, by rw [upT_d (by omega)]; exact h9⟩⟩,
    fun i hi h8 => by rw [upT_d (by omega)]; exact h.c14 i hi h8,
    fun a c ha hc => by rw [upF_d (by omega), upT_d (by omega)]; exact h.c15 a c ha hc,
    fun j hj => by rw [upF_d (by omega)]; exact h.c16 j hj⟩
theorem TR.ruin (h : TR T f g P M C) {p0 : Nat} (hp0 : p0 < P) : TR (upT T 0 9 (T 0 9 ||| ((1 : Int32) <<< (nI p0 &&& 31)))) (upF f (17 + 4 * p0) 1) g P M C := by
  have hP := h.c1.1
  have hM := h.c1.2.1
  exact ⟨h.c1,
    ⟨by rw [upT_d (by omega)]; exact h.c2.1, by rw [upT_d (by omega)]; exact h.c2.2.1, by rw [upT_d (by omega)]; exact h.c2.2.2⟩,
    ⟨by rw [upF_d (by omega)]; exact h.c3.1, by rw [upF_d (by omega)]; exact h.c3.2.1, by rw [upF_d (by omega)]; exact h.c3.2.2.1, by rw [upF_d (by omega)]; exact h.c3.2.2.2⟩,
    ⟨by rw [upF_d (by omega), upT_d (by omega)]; exact h.c4.1, by rw [upF_d (by omega), upT_d (by omega)]; exact h.c4.2.1, by rw [upF_d (by omega), upT_d (by omega)]; exact h.c4.2.2.1, by rw [upF_d (by omega), upT_d (by omega)]; exact h.c4.2.2.2.1, by rw [upF_d (by omega), upT_d (by omega)]; exact h.c4.2.2.2.2.1, by rw [upF_d (by omega), upT_d (by omega)]; exact h.c4.2.2.2.2.2.1, by rw [upF_d (by omega), upT_d (by omega)]; exact h.c4.2.2.2.2.2.2⟩,
    ⟨by obtain ⟨n9, h8, h9⟩ := h.c5.1; exact ⟨n9, h8, by rw [upT_d (by omega)]; exact h9⟩, by obtain ⟨n9, h8, h9⟩ := h.c5.2.1; exact ⟨n9, h8, by rw [upT_d (by omega)]; exact h9⟩, by obtain ⟨n9, h8, h9⟩ := h.c5.2.2.1; exact ⟨n9, h8, by rw [upT_d (by omega)]; exact h9⟩, by obtain ⟨n9, h8, h9⟩ := h.c5.2.2.2.1; exact ⟨n9, h8, by rw [upT_d (by omega)]; exact h9⟩, by obtain ⟨n9, h8, h9⟩ := h.c5.2.2.2.2; exact ⟨n9, h8, by rw [upT_d (by omega)]; exact h9⟩⟩,
    fun p hp => by
      by_cases e : p = p0
      · subst e
        exact ⟨by rw [upF_d (by omega), upT_d (by omega)]; exact (h.c6 p hp).1, by rw [upF_d (by omega), upT_d (by omega)]; exact (h.c6 p hp).2.1, by rw [upF_d (by omega), upT_d (by omega)]; exact (h.c6 p hp).2.2.1, by rw [upF_s, upT_s, b_put (by omega) (by omega), decide_eq_true rfl, Bool.or_true]; rfl⟩
      · exact ⟨by rw [upF_d (by omega), upT_d (by omega)]; exact (h.c6 p hp).1, by rw [upF_d (by omega), upT_d (by omega)]; exact (h.c6 p hp).2.1, by rw [upF_d (by omega), upT_d (by omega)]; exact (h.c6 p hp).2.2.1, by rw [upF_d (by omega), upT_s, b_put (by omega) (by omega), decide_eq_false e, Bool.or_false]; exact (h.c6 p hp).2.2.2⟩,
    fun p hp => ⟨by obtain ⟨n9, h8, h9⟩ := (h.c7 p hp).1; exact ⟨n9, h8, by rw [upT_d (by omega)]; exact h9⟩, by rw [upT_d (by omega)]; exact (h.c7 p hp).2⟩,
    fun p hp h8 => by rw [upT_d (by omega)]; exact h.c8 p hp h8,
    fun i hi h8 => by rw [upT_s, b_put (by omega) h8, decide_eq_false (by omega), Bool.or_false]; exact h.c9 i hi h8,
    fun p o hp ho => by rw [upF_d (by omega), upT_d (by omega)]; exact h.c10 p o hp ho,
    fun p o hp ho => by rw [upT_d (by omega)]; exact h.c11 p o hp ho,
    fun k hk => ⟨by rw [upF_d (by omega), upT_d (by omega)]; exact (h.c12 k hk).1, by rw [upF_d (by omega), upT_d (by omega)]; exact (h.c12 k hk).2.1, by rw [upF_d (by omega), upT_d (by omega)]; exact (h.c12 k hk).2.2.1, by rw [upF_d (by omega), upT_d (by omega)]; exact (h.c12 k hk).2.2.2.1, by rw [upF_d (by omega), upT_d (by omega)]; exact (h.c12 k hk).2.2.2.2⟩,
    fun k hk => ⟨by obtain ⟨a, b, h1, h2, h3, h4, h5⟩ := (h.c13 k hk).1; exact ⟨a, b, h1, h2, h3, by rw [upT_d (by omega)]; exact h4, by rw [upT_d (by omega)]; exact h5⟩, by obtain ⟨n9, h8, h9⟩ := (h.c13 k hk).2; exact ⟨n9, h8, by rw [upT_d (by omega)]; exact h9⟩⟩,
    fun i hi h8 => by rw [upT_d (by omega)]; exact h.c14 i hi h8,
    fun a c ha hc => by rw [upF_d (by omega), upT_d (by omega)]; exact h.c15 a c ha hc,
    fun j hj => by rw [upF_d (by omega)]; exact h.c16 j hj⟩
theorem TR.happy (h : TR T f g P M C) {k0 n0 : Nat} (hk0 : k0 < M) (hn0 : n0 ≤ 99) : TR (upT T 12 k0 (nI n0)) (upF f (112 + 5 * k0) (nI n0)) g P M C := by
  have hP := h.c1.1
  have hM := h.c1.2.1
  exact ⟨h.c1,
    ⟨by rw [upT_d (by omega)]; exact h.c2.1, by rw [upT_d (by omega)]; exact h.c2.2.1, by rw [upT_d (by omega)]; exact h.c2.2.2⟩,
    ⟨by rw [upF_d (by omega)]; exact h.c3.1, by rw [upF_d (by omega)]; exact h.c3.2.1, by rw [upF_d (by omega)]; exact h.c3.2.2.1, by rw [upF_d (by omega)]; exact h.c3.2.2.2⟩,
    ⟨by rw [upF_d (by omega), upT_d (by omega)]; exact h.c4.1, by rw [upF_d (by omega), upT_d (by omega)]; exact h.c4.2.1, by rw [upF_d (by omega), upT_d (by omega)]; exact h.c4.2.2.1, by rw [upF_d (by omega), upT_d (by omega)]; exact h.c4.2.2.2.1, by rw [upF_d (by omega), upT_d (by omega)]; exact h.c4.2.2.2.2.1, by rw [upF_d (by omega), upT_d (by omega)]; exact h.c4.2.2.2.2.2.1, by rw [upF_d (by omega), upT_d (by omega)]; exact h.c4.2.2.2.2.2.2⟩,
    ⟨by obtain ⟨n9, h8, h9⟩ := h.c5.1; exact ⟨n9, h8, by rw [upT_d (by omega)]; exact h9⟩, by obtain ⟨n9, h8, h9⟩ := h.c5.2.1; exact ⟨n9, h8, by rw [upT_d (by omega)]; exact h9⟩, by obtain ⟨n9, h8, h9⟩ := h.c5.2.2.1; exact ⟨n9, h8, by rw [upT_d (by omega)]; exact h9⟩, by obtain ⟨n9, h8, h9⟩ := h.c5.2.2.2.1; exact ⟨n9, h8, by rw [upT_d (by omega)]; exact h9⟩, by obtain ⟨n9, h8, h9⟩ := h.c5.2.2.2.2; exact ⟨n9, h8, by rw [upT_d (by omega)]; exact h9⟩⟩,
    fun p hp => ⟨by rw [upF_d (by omega), upT_d (by omega)]; exact (h.c6 p hp).1, by rw [upF_d (by omega), upT_d (by omega)]; exact (h.c6 p hp).2.1, by rw [upF_d (by omega), upT_d (by omega)]; exact (h.c6 p hp).2.2.1, by rw [upF_d (by omega), upT_d (by omega)]; exact (h.c6 p hp).2.2.2⟩,
    fun p hp => ⟨by obtain ⟨n9, h8, h9⟩ := (h.c7 p hp).1; exact ⟨n9, h8, by rw [upT_d (by omega)]; exact h9⟩, by rw [upT_d (by omega)]; exact (h.c7 p hp).2⟩,
    fun p hp h8 => by rw [upT_d (by omega)]; exact h.c8 p hp h8,
    fun i hi h8 => by rw [upT_d (by omega)]; exact h.c9 i hi h8,
    fun p o hp ho => by rw [upF_d (by omega), upT_d (by omega)]; exact h.c10 p o hp ho,
    fun p o hp ho => by rw [upT_d (by omega)]; exact h.c11 p o hp ho,
    fun k hk => by
      by_cases e : k = k0
      · subst e
        exact ⟨by rw [upF_d (by omega), upT_d (by omega)]; exact (h.c12 k hk).1, by rw [upF_d (by omega), upT_d (by omega)]; exact (h.c12 k hk).2.1, by rw [upF_s, upT_s], by rw [upF_d (by omega), upT_d (by omega)]; exact (h.c12 k hk).2.2.2.1, by rw [upF_d (by omega), upT_d (by omega)]; exact (h.c12 k hk).2.2.2.2⟩
      · exact ⟨by rw [upF_d (by omega), upT_d (by omega)]; exact (h.c12 k hk).1, by rw [upF_d (by omega), upT_d (by omega)]; exact (h.c12 k hk).2.1, by rw [upF_d (by omega), upT_d (by omega)]; exact (h.c12 k hk).2.2.1, by rw [upF_d (by omega), upT_d (by omega)]; exact (h.c12 k hk).2.2.2.1, by rw [upF_d (by omega), upT_d (by omega)]; exact (h.c12 k hk).2.2.2.2⟩,
    fun k hk => ⟨by obtain ⟨a, b, h1, h2, h3, h4, h5⟩ := (h.c13 k hk).1; exact ⟨a, b, h1, h2, h3, by rw [upT_d (by omega)]; exact h4, by rw [upT_d (by omega)]; exact h5⟩, by
      by_cases e : k = k0
      · subst e
        exact ⟨n0, hn0, upT_s⟩
      · rw [upT_d (by omega)]; exact (h.c13 k hk).2⟩,
    fun i hi h8 => by rw [upT_d (by omega)]; exact h.c14 i hi h8,
    fun a c ha hc => by rw [upF_d (by omega), upT_d (by omega)]; exact h.c15 a c ha hc,
    fun j hj => by rw [upF_d (by omega)]; exact h.c16 j hj⟩
theorem TR.mon (h : TR T f g P M C) {k0 : Nat} {x0 : Int32} (hk0 : k0 < M) : TR (upT T 14 k0 x0) (upF f (113 + 5 * k0) x0) g P M C := by
  have hP := h.c1.1
  have hM := h.c1.2.1
  exact ⟨h.c1,
    ⟨by rw [upT_d (by omega)]; exact h.c2.1, by rw [upT_d (by omega)]; exact h.c2.2.1, by rw [upT_d (by omega)]; exact h.c2.2.2⟩,
    ⟨by rw [upF_d (by omega)]; exact h.c3.1, by rw [upF_d (by omega)]; exact h.c3.2.1, by rw [upF_d (by omega)]; exact h.c3.2.2.1, by rw [upF_d (by omega)]; exact h.c3.2.2.2⟩,
    ⟨by rw [upF_d (by omega), upT_d (by omega)]; exact h.c4.1, by rw [upF_d (by omega), upT_d (by omega)]; exact h.c4.2.1, by rw [upF_d (by omega), upT_d (by omega)]; exact h.c4.2.2.1, by rw [upF_d (by omega), upT_d (by omega)]; exact h.c4.2.2.2.1, by rw [upF_d (by omega), upT_d (by omega)]; exact h.c4.2.2.2.2.1, by rw [upF_d (by omega), upT_d (by omega)]; exact h.c4.2.2.2.2.2.1, by rw [upF_d (by omega), upT_d (by omega)]; exact h.c4.2.2.2.2.2.2⟩,
    ⟨by obtain ⟨n9, h8, h9⟩ := h.c5.1; exact ⟨n9, h8, by rw [upT_d (by omega)]; exact h9⟩, by obtain ⟨n9, h8, h9⟩ := h.c5.2.1; exact ⟨n9, h8, by rw [upT_d (by omega)]; exact h9⟩, by obtain ⟨n9, h8, h9⟩ := h.c5.2.2.1; exact ⟨n9, h8, by rw [upT_d (by omega)]; exact h9⟩, by obtain ⟨n9, h8, h9⟩ := h.c5.2.2.2.1; exact ⟨n9, h8, by rw [upT_d (by omega)]; exact h9⟩, by obtain ⟨n9, h8, h9⟩ := h.c5.2.2.2.2; exact ⟨n9, h8, by rw [upT_d (by omega)]; exact h9⟩⟩,
    fun p hp => ⟨by rw [upF_d (by omega), upT_d (by omega)]; exact (h.c6 p hp).1, by rw [upF_d (by omega), upT_d (by omega)]; exact (h.c6 p hp).2.1, by rw [upF_d (by omega), upT_d (by omega)]; exact (h.c6 p hp).2.2.1, by rw [upF_d (by omega), upT_d (by omega)]; exact (h.c6 p hp).2.2.2⟩,
    fun p hp => ⟨by obtain ⟨n9, h8, h9⟩ := (h.c7 p hp).1; exact ⟨n9, h8, by rw [upT_d (by omega)]; exact h9⟩, by rw [upT_d (by omega)]; exact (h.c7 p hp).2⟩,
    fun p hp h8 => by rw [upT_d (by omega)]; exact h.c8 p hp h8,
    fun i hi h8 => by rw [upT_d (by omega)]; exact h.c9 i hi h8,
    fun p o hp ho => by rw [upF_d (by omega), upT_d (by omega)]; exact h.c10 p o hp ho,
    fun p o hp ho => by rw [upT_d (by omega)]; exact h.c11 p o hp ho,
    fun k hk => by
      by_cases e : k = k0
      · subst e
        exact ⟨by rw [upF_d (by omega), upT_d (by omega)]; exact (h.c12 k hk).1, by rw [upF_d (by omega), upT_d (by omega)]; exact (h.c12 k hk).2.1, by rw [upF_d (by omega), upT_d (by omega)]; exact (h.c12 k hk).2.2.1, by rw [upF_s, upT_s], by rw [upF_d (by omega), upT_d (by omega)]; exact (h.c12 k hk).2.2.2.2⟩
      · exact ⟨by rw [upF_d (by omega), upT_d (by omega)]; exact (h.c12 k hk).1, by rw [upF_d (by omega), upT_d (by omega)]; exact (h.c12 k hk).2.1, by rw [upF_d (by omega), upT_d (by omega)]; exact (h.c12 k hk).2.2.1, by rw [upF_d (by omega), upT_d (by omega)]; exact (h.c12 k hk).2.2.2.1, by rw [upF_d (by omega), upT_d (by omega)]; exact (h.c12 k hk).2.2.2.2⟩,
    fun k hk => ⟨by obtain ⟨a, b, h1, h2, h3, h4, h5⟩ := (h.c13 k hk).1; exact ⟨a, b, h1, h2, h3, by rw [upT_d (by omega)]; exact h4, by rw [upT_d (by omega)]; exact h5⟩, by obtain ⟨n9, h8, h9⟩ := (h.c13 k hk).2; exact ⟨n9, h8, by rw [upT_d (by omega)]; exact h9⟩⟩,
    fun i hi h8 => by rw [upT_d (by omega)]; exact h.c14 i hi h8,
    fun a c ha hc => by rw [upF_d (by omega), upT_d (by omega)]; exact h.c15 a c ha hc,
    fun j hj => by rw [upF_d (by omega)]; exact h.c16 j hj⟩
theorem TR.over (h : TR T f g P M C) {k0 : Nat} (hk0 : k0 < M) : TR (upT T 0 11 (T 0 11 ||| ((1 : Int32) <<< (nI k0 &&& 31)))) (upF f (114 + 5 * k0) 1) g P M C := by
  have hP := h.c1.1
  have hM := h.c1.2.1
  exact ⟨h.c1,
    ⟨by rw [upT_d (by omega)]; exact h.c2.1, by rw [upT_d (by omega)]; exact h.c2.2.1, by rw [upT_d (by omega)]; exact h.c2.2.2⟩,
    ⟨by rw [upF_d (by omega)]; exact h.c3.1, by rw [upF_d (by omega)]; exact h.c3.2.1, by rw [upF_d (by omega)]; exact h.c3.2.2.1, by rw [upF_d (by omega)]; exact h.c3.2.2.2⟩,
    ⟨by rw [upF_d (by omega), upT_d (by omega)]; exact h.c4.1, by rw [upF_d (by omega), upT_d (by omega)]; exact h.c4.2.1, by rw [upF_d (by omega), upT_d (by omega)]; exact h.c4.2.2.1, by rw [upF_d (by omega), upT_d (by omega)]; exact h.c4.2.2.2.1, by rw [upF_d (by omega), upT_d (by omega)]; exact h.c4.2.2.2.2.1, by rw [upF_d (by omega), upT_d (by omega)]; exact h.c4.2.2.2.2.2.1, by rw [upF_d (by omega), upT_d (by omega)]; exact h.c4.2.2.2.2.2.2⟩,
    ⟨by obtain ⟨n9, h8, h9⟩ := h.c5.1; exact ⟨n9, h8, by rw [upT_d (by omega)]; exact h9⟩, by obtain ⟨n9, h8, h9⟩ := h.c5.2.1; exact ⟨n9, h8, by rw [upT_d (by omega)]; exact h9⟩, by obtain ⟨n9, h8, h9⟩ := h.c5.2.2.1; exact ⟨n9, h8, by rw [upT_d (by omega)]; exact h9⟩, by obtain ⟨n9, h8, h9⟩ := h.c5.2.2.2.1; exact ⟨n9, h8, by rw [upT_d (by omega)]; exact h9⟩, by obtain ⟨n9, h8, h9⟩ := h.c5.2.2.2.2; exact ⟨n9, h8, by rw [upT_d (by omega)]; exact h9⟩⟩,
    fun p hp => ⟨by rw [upF_d (by omega), upT_d (by omega)]; exact (h.c6 p hp).1, by rw [upF_d (by omega), upT_d (by omega)]; exact (h.c6 p hp).2.1, by rw [upF_d (by omega), upT_d (by omega)]; exact (h.c6 p hp).2.2.1, by rw [upF_d (by omega), upT_d (by omega)]; exact (h.c6 p hp).2.2.2⟩,
    fun p hp => ⟨by obtain ⟨n9, h8, h9⟩ := (h.c7 p hp).1; exact ⟨n9, h8, by rw [upT_d (by omega)]; exact h9⟩, by rw [upT_d (by omega)]; exact (h.c7 p hp).2⟩,
    fun p hp h8 => by rw [upT_d (by omega)]; exact h.c8 p hp h8,
    fun i hi h8 => by rw [upT_d (by omega)]; exact h.c9 i hi h8,
    fun p o hp ho => by rw [upF_d (by omega), upT_d (by omega)]; exact h.c10 p o hp ho,
    fun p o hp ho => by rw [upT_d (by omega)]; exact h.c11 p o hp ho,
    fun k hk => by
      by_cases e : k = k0
      · subst e
        exact ⟨by rw [upF_d (by omega), upT_d (by omega)]; exact (h.c12 k hk).1, by rw [upF_d (by omega), upT_d (by omega)]; exact (h.c12 k hk).2.1, by rw [upF_d (by omega), upT_d (by omega)]; exact (h.c12 k hk).2.2.1, by rw [upF_d (by omega), upT_d (by omega)]; exact (h.c12 k hk).2.2.2.1, by rw [upF_s, upT_s, b_put (by omega) (by omega), decide_eq_true rfl, Bool.or_true]; rfl⟩
      · exact ⟨by rw [upF_d (by omega), upT_d (by omega)]; exact (h.c12 k hk).1, by rw [upF_d (by omega), upT_d (by omega)]; exact (h.c12 k hk).2.1, by rw [upF_d (by omega), upT_d (by omega)]; exact (h.c12 k hk).2.2.1, by rw [upF_d (by omega), upT_d (by omega)]; exact (h.c12 k hk).2.2.2.1, by rw [upF_d (by omega), upT_s, b_put (by omega) (by omega), decide_eq_false e, Bool.or_false]; exact (h.c12 k hk).2.2.2.2⟩,
    fun k hk => ⟨by obtain ⟨a, b, h1, h2, h3, h4, h5⟩ := (h.c13 k hk).1; exact ⟨a, b, h1, h2, h3, by rw [upT_d (by omega)]; exact h4, by rw [upT_d (by omega)]; exact h5⟩, by obtain ⟨n9, h8, h9⟩ := (h.c13 k hk).2; exact ⟨n9, h8, by rw [upT_d (by omega)]; exact h9⟩⟩,
    fun i hi h8 => by rw [upT_s, b_put (by omega) h8, decide_eq_false (by omega), Bool.or_false]; exact h.c14 i hi h8,
    fun a c ha hc => by rw [upF_d (by omega), upT_d (by omega)]; exact h.c15 a c ha hc,
    fun j hj => by rw [upF_d (by omega)]; exact h.c16 j hj⟩
theorem TR.bar (h : TR T f g P M C) {n0 : Nat} (hn0 : n0 ≤ 99) : TR (upT T 0 12 (nI n0)) (upF f 5 (nI n0)) g P M C := by
  have hP := h.c1.1
  have hM := h.c1.2.1
  exact ⟨h.c1,
    ⟨by rw [upT_d (by omega)]; exact h.c2.1, by rw [upT_d (by omega)]; exact h.c2.2.1, by rw [upT_d (by omega)]; exact h.c2.2.2⟩,
    ⟨by rw [upF_d (by omega)]; exact h.c3.1, by rw [upF_d (by omega)]; exact h.c3.2.1, by rw [upF_d (by omega)]; exact h.c3.2.2.1, by rw [upF_d (by omega)]; exact h.c3.2.2.2⟩,
    ⟨by rw [upF_d (by omega), upT_d (by omega)]; exact h.c4.1, by rw [upF_s, upT_s], by rw [upF_d (by omega), upT_d (by omega)]; exact h.c4.2.2.1, by rw [upF_d (by omega), upT_d (by omega)]; exact h.c4.2.2.2.1, by rw [upF_d (by omega), upT_d (by omega)]; exact h.c4.2.2.2.2.1, by rw [upF_d (by omega), upT_d (by omega)]; exact h.c4.2.2.2.2.2.1, by rw [upF_d (by omega), upT_d (by omega)]; exact h.c4.2.2.2.2.2.2⟩,
    ⟨by obtain ⟨n9, h8, h9⟩ := h.c5.1; exact ⟨n9, h8, by rw [upT_d (by omega)]; exact h9⟩, ⟨n0, hn0, upT_s⟩, by obtain ⟨n9, h8, h9⟩ := h.c5.2.2.1; exact ⟨n9, h8, by rw [upT_d (by omega)]; exact h9⟩, by obtain ⟨n9, h8, h9⟩ := h.c5.2.2.2.1; exact ⟨n9, h8, by rw [upT_d (by omega)]; exact h9⟩, by obtain ⟨n9, h8, h9⟩ := h.c5.2.2.2.2; exact ⟨n9, h8, by rw [upT_d (by omega)]; exact h9⟩⟩,
    fun p hp => ⟨by rw [upF_d (by omega), upT_d (by omega)]; exact (h.c6 p hp).1, by rw [upF_d (by omega), upT_d (by omega)]; exact (h.c6 p hp).2.1, by rw [upF_d (by omega), upT_d (by omega)]; exact (h.c6 p hp).2.2.1, by rw [upF_d (by omega), upT_d (by omega)]; exact (h.c6 p hp).2.2.2⟩,
    fun p hp => ⟨by obtain ⟨n9, h8, h9⟩ := (h.c7 p hp).1; exact ⟨n9, h8, by rw [upT_d (by omega)]; exact h9⟩, by rw [upT_d (by omega)]; exact (h.c7 p hp).2⟩,
    fun p hp h8 => by rw [upT_d (by omega)]; exact h.c8 p hp h8,
    fun i hi h8 => by rw [upT_d (by omega)]; exact h.c9 i hi h8,
    fun p o hp ho => by rw [upF_d (by omega), upT_d (by omega)]; exact h.c10 p o hp ho,
    fun p o hp ho => by rw [upT_d (by omega)]; exact h.c11 p o hp ho,
    fun k hk => ⟨by rw [upF_d (by omega), upT_d (by omega)]; exact (h.c12 k hk).1, by rw [upF_d (by omega), upT_d (by omega)]; exact (h.c12 k hk).2.1, by rw [upF_d (by omega), upT_d (by omega)]; exact (h.c12 k hk).2.2.1, by rw [upF_d (by omega), upT_d (by omega)]; exact (h.c12 k hk).2.2.2.1, by rw [upF_d (by omega), upT_d (by omega)]; exact (h.c12 k hk).2.2.2.2⟩,
    fun k hk => ⟨by obtain ⟨a, b, h1, h2, h3, h4, h5⟩ := (h.c13 k hk).1; exact ⟨a, b, h1, h2, h3, by rw [upT_d (by omega)]; exact h4, by rw [upT_d (by omega)]; exact h5⟩, by obtain ⟨n9, h8, h9⟩ := (h.c13 k hk).2; exact ⟨n9, h8, by rw [upT_d (by omega)]; exact h9⟩⟩,
    fun i hi h8 => by rw [upT_d (by omega)]; exact h.c14 i hi h8,
    fun a c ha hc => by rw [upF_d (by omega), upT_d (by omega)]; exact h.c15 a c ha hc,
    fun j hj => by rw [upF_d (by omega)]; exact h.c16 j hj⟩
theorem TR.prem (h : TR T f g P M C) {n0 : Nat} (hn0 : n0 ≤ 20) : TR (upT T 0 13 (nI n0)) (upF f 6 (nI n0)) g P M C := by
  have hP := h.c1.1
  have hM := h.c1.2.1
  exact ⟨h.c1,
    ⟨by rw [upT_d (by omega)]; exact h.c2.1, by rw [upT_d (by omega)]; exact h.c2.2.1, by rw [upT_d (by omega)]; exact h.c2.2.2⟩,
    ⟨by rw [upF_d (by omega)]; exact h.c3.1, by rw [upF_d (by omega)]; exact h.c3.2.1, by rw [upF_d (by omega)]; exact h.c3.2.2.1, by rw [upF_d (by omega)]; exact h.c3.2.2.2⟩,
    ⟨by rw [upF_d (by omega), upT_d (by omega)]; exact h.c4.1, by rw [upF_d (by omega), upT_d (by omega)]; exact h.c4.2.1, by rw [upF_s, upT_s], by rw [upF_d (by omega), upT_d (by omega)]; exact h.c4.2.2.2.1, by rw [upF_d (by omega), upT_d (by omega)]; exact h.c4.2.2.2.2.1, by rw [upF_d (by omega), upT_d (by omega)]; exact h.c4.2.2.2.2.2.1, by rw [upF_d (by omega), upT_d (by omega)]; exact h.c4.2.2.2.2.2.2⟩,
    ⟨by obtain ⟨n9, h8, h9⟩ := h.c5.1; exact ⟨n9, h8, by rw [upT_d (by omega)]; exact h9⟩, by obtain ⟨n9, h8, h9⟩ := h.c5.2.1; exact ⟨n9, h8, by rw [upT_d (by omega)]; exact h9⟩, ⟨n0, hn0, upT_s⟩, by obtain ⟨n9, h8, h9⟩ := h.c5.2.2.2.1; exact ⟨n9, h8, by rw [upT_d (by omega)]; exact h9⟩, by obtain ⟨n9, h8, h9⟩ := h.c5.2.2.2.2; exact ⟨n9, h8, by rw [upT_d (by omega)]; exact h9⟩⟩,
    fun p hp => ⟨by rw [upF_d (by omega), upT_d (by omega)]; exact (h.c6 p hp).1, by rw [upF_d (by omega), upT_d (by omega)]; exact (h.c6 p hp).2.1, by rw [upF_d (by omega), upT_d (by omega)]; exact (h.c6 p hp).2.2.1, by rw [upF_d (by omega), upT_d (by omega)]; exact (h.c6 p hp).2.2.2⟩,
    fun p hp => ⟨by obtain ⟨n9, h8, h9⟩ := (h.c7 p hp).1; exact ⟨n9, h8, by rw [upT_d (by omega)]; exact h9⟩, by rw [upT_d (by omega)]; exact (h.c7 p hp).2⟩,
    fun p hp h8 => by rw [upT_d (by omega)]; exact h.c8 p hp h8,
    fun i hi h8 => by rw [upT_d (by omega)]; exact h.c9 i hi h8,
    fun p o hp ho => by rw [upF_d (by omega), upT_d (by omega)]; exact h.c10 p o hp ho,
    fun p o hp ho => by rw [upT_d (by omega)]; exact h.c11 p o hp ho,
    fun k hk => ⟨by rw [upF_d (by omega), upT_d (by omega)]; exact (h.c12 k hk).1, by rw [upF_d (by omega), upT_d (by omega)]; exact (h.c12 k hk).2.1, by rw [upF_d (by omega), upT_d (by omega)]; exact (h.c12 k hk).2.2.1, by rw [upF_d (by omega), upT_d (by omega)]; exact (h.c12 k hk).2.2.2.1, by rw [upF_d (by omega), upT_d (by omega)]; exact (h.c12 k hk).2.2.2.2⟩,
    fun k hk => ⟨by obtain ⟨a, b, h1, h2, h3, h4, h5⟩ := (h.c13 k hk).1; exact ⟨a, b, h1, h2, h3, by rw [upT_d (by omega)]; exact h4, by rw [upT_d (by omega)]; exact h5⟩, by obtain ⟨n9, h8, h9⟩ := (h.c13 k hk).2; exact ⟨n9, h8, by rw [upT_d (by omega)]; exact h9⟩⟩,
    fun i hi h8 => by rw [upT_d (by omega)]; exact h.c14 i hi h8,
    fun a c ha hc => by rw [upF_d (by omega), upT_d (by omega)]; exact h.c15 a c ha hc,
    fun j hj => by rw [upF_d (by omega)]; exact h.c16 j hj⟩
theorem TR.pays (h : TR T f g P M C) {n0 : Nat} (hn0 : n0 ≤ 99) : TR (upT T 0 14 (nI n0)) (upF f 7 (nI n0)) g P M C := by
  have hP := h.c1.1
  have hM := h.c1.2.1
  exact ⟨h.c1,
    ⟨by rw [upT_d (by omega)]; exact h.c2.1, by rw [upT_d (by omega)]; exact h.c2.2.1, by rw [upT_d (by omega)]; exact h.c2.2.2⟩,
    ⟨by rw [upF_d (by omega)]; exact h.c3.1, by rw [upF_d (by omega)]; exact h.c3.2.1, by rw [upF_d (by omega)]; exact h.c3.2.2.1, by rw [upF_d (by omega)]; exact h.c3.2.2.2⟩,
    ⟨by rw [upF_d (by omega), upT_d (by omega)]; exact h.c4.1, by rw [upF_d (by omega), upT_d (by omega)]; exact h.c4.2.1, by rw [upF_d (by omega), upT_d (by omega)]; exact h.c4.2.2.1, by rw [upF_s, upT_s], by rw [upF_d (by omega), upT_d (by omega)]; exact h.c4.2.2.2.2.1, by rw [upF_d (by omega), upT_d (by omega)]; exact h.c4.2.2.2.2.2.1, by rw [upF_d (by omega), upT_d (by omega)]; exact h.c4.2.2.2.2.2.2⟩,
    ⟨by obtain ⟨n9, h8, h9⟩ := h.c5.1; exact ⟨n9, h8, by rw [upT_d (by omega)]; exact h9⟩, by obtain ⟨n9, h8, h9⟩ := h.c5.2.1; exact ⟨n9, h8, by rw [upT_d (by omega)]; exact h9⟩, by obtain ⟨n9, h8, h9⟩ := h.c5.2.2.1; exact ⟨n9, h8, by rw [upT_d (by omega)]; exact h9⟩, ⟨n0, hn0, upT_s⟩, by obtain ⟨n9, h8, h9⟩ := h.c5.2.2.2.2; exact ⟨n9, h8, by rw [upT_d (by omega)]; exact h9⟩⟩,
    fun p hp => ⟨by rw [upF_d (by omega), upT_d (by omega)]; exact (h.c6 p hp).1, by rw [upF_d (by omega), upT_d (by omega)]; exact (h.c6 p hp).2.1, by rw [upF_d (by omega), upT_d (by omega)]; exact (h.c6 p hp).2.2.1, by rw [upF_d (by omega), upT_d (by omega)]; exact (h.c6 p hp).2.2.2⟩,
    fun p hp => ⟨by obtain ⟨n9, h8, h9⟩ := (h.c7 p hp).1; exact ⟨n9, h8, by rw [upT_d (by omega)]; exact h9⟩, by rw [upT_d (by omega)]; exact (h.c7 p hp).2⟩,
    fun p hp h8 => by rw [upT_d (by omega)]; exact h.c8 p hp h8,
    fun i hi h8 => by rw [upT_d (by omega)]; exact h.c9 i hi h8,
    fun p o hp ho => by rw [upF_d (by omega), upT_d (by omega)]; exact h.c10 p o hp ho,
    fun p o hp ho => by rw [upT_d (by omega)]; exact h.c11 p o hp ho,
    fun k hk => ⟨by rw [upF_d (by omega), upT_d (by omega)]; exact (h.c12 k hk).1, by rw [upF_d (by omega), upT_d (by omega)]; exact (h.c12 k hk).2.1, by rw [upF_d (by omega), upT_d (by omega)]; exact (h.c12 k hk).2.2.1, by rw [upF_d (by omega), upT_d (by omega)]; exact (h.c12 k hk).2.2.2.1, by rw [upF_d (by omega), upT_d (by omega)]; exact (h.c12 k hk).2.2.2.2⟩,
    fun k hk => ⟨by obtain ⟨a, b, h1, h2, h3, h4, h5⟩ := (h.c13 k hk).1; exact ⟨a, b, h1, h2, h3, by rw [upT_d (by omega)]; exact h4, by rw [upT_d (by omega)]; exact h5⟩, by obtain ⟨n9, h8, h9⟩ := (h.c13 k hk).2; exact ⟨n9, h8, by rw [upT_d (by omega)]; exact h9⟩⟩,
    fun i hi h8 => by rw [upT_d (by omega)]; exact h.c14 i hi h8,
    fun a c ha hc => by rw [upF_d (by omega), upT_d (by omega)]; exact h.c15 a c ha hc,
    fun j hj => by rw [upF_d (by omega)]; exact h.c16 j hj⟩
theorem TR.month (h : TR T f g P M C) {n0 : Nat} (hn0 : n0 ≤ 9999) : TR (upT T 0 15 (nI n0)) (upF f 8 (nI n0)) g P M C := by
  have hP := h.c1.1
  have hM := h.c1.2.1
  exact ⟨h.c1,
    ⟨by rw [upT_d (by omega)]; exact h.c2.1, by rw [upT_d (by omega)]; exact h.c2.2.1, by rw [upT_d (by omega)]; exact h.c2.2.2⟩,
    ⟨by rw [upF_d (by omega)]; exact h.c3.1, by rw [upF_d (by omega)]; exact h.c3.2.1, by rw [upF_d (by omega)]; exact h.c3.2.2.1, by rw [upF_d (by omega)]; exact h.c3.2.2.2⟩,
    ⟨by rw [upF_d (by omega), upT_d (by omega)]; exact h.c4.1, by rw [upF_d (by omega), upT_d (by omega)]; exact h.c4.2.1, by rw [upF_d (by omega), upT_d (by omega)]; exact h.c4.2.2.1, by rw [upF_d (by omega), upT_d (by omega)]; exact h.c4.2.2.2.1, by rw [upF_s, upT_s], by rw [upF_d (by omega), upT_d (by omega)]; exact h.c4.2.2.2.2.2.1, by rw [upF_d (by omega), upT_d (by omega)]; exact h.c4.2.2.2.2.2.2⟩,
    ⟨by obtain ⟨n9, h8, h9⟩ := h.c5.1; exact ⟨n9, h8, by rw [upT_d (by omega)]; exact h9⟩, by obtain ⟨n9, h8, h9⟩ := h.c5.2.1; exact ⟨n9, h8, by rw [upT_d (by omega)]; exact h9⟩, by obtain ⟨n9, h8, h9⟩ := h.c5.2.2.1; exact ⟨n9, h8, by rw [upT_d (by omega)]; exact h9⟩, by obtain ⟨n9, h8, h9⟩ := h.c5.2.2.2.1; exact ⟨n9, h8, by rw [upT_d (by omega)]; exact h9⟩, ⟨n0, hn0, upT_s⟩⟩,
    fun p hp => ⟨by rw [upF_d (by omega), upT_d (by omega)]; exact (h.c6 p hp).1, by rw [upF_d (by omega), upT_d (by omega)]; exact (h.c6 p hp).2.1, by rw [upF_d (by omega), upT_d (by omega)]; exact (h.c6 p hp).2.2.1, by rw [upF_d (by omega), upT_d (by omega)]; exact (h.c6 p hp).2.2.2⟩,
    fun p hp => ⟨by obtain ⟨n9, h8, h9⟩ := (h.c7 p hp).1; exact ⟨n9, h8, by rw [upT_d (by omega)]; exact h9⟩, by rw [upT_d (by omega)]; exact (h.c7 p hp).2⟩,
    fun p hp h8 => by rw [upT_d (by omega)]; exact h.c8 p hp h8,
    fun i hi h8 => by rw [upT_d (by omega)]; exact h.c9 i hi h8,
    fun p o hp ho => by rw [upF_d (by omega), upT_d (by omega)]; exact h.c10 p o hp ho,
    fun p o hp ho => by rw [upT_d (by omega)]; exact h.c11 p o hp ho,
    fun k hk => ⟨by rw [upF_d (by omega), upT_d (by omega)]; exact (h.c12 k hk).1, by rw [upF_d (by omega), upT_d (by omega)]; exact (h.c12 k hk).2.1, by rw [upF_d (by omega), upT_d (by omega)]; exact (h.c12 k hk).2.2.1, by rw [upF_d (by omega), upT_d (by omega)]; exact (h.c12 k hk).2.2.2.1, by rw [upF_d (by omega), upT_d (by omega)]; exact (h.c12 k hk).2.2.2.2⟩,
    fun k hk => ⟨by obtain ⟨a, b, h1, h2, h3, h4, h5⟩ := (h.c13 k hk).1; exact ⟨a, b, h1, h2, h3, by rw [upT_d (by omega)]; exact h4, by rw [upT_d (by omega)]; exact h5⟩, by obtain ⟨n9, h8, h9⟩ := (h.c13 k hk).2; exact ⟨n9, h8, by rw [upT_d (by omega)]; exact h9⟩⟩,
    fun i hi h8 => by rw [upT_d (by omega)]; exact h.c14 i hi h8,
    fun a c ha hc => by rw [upF_d (by omega), upT_d (by omega)]; exact h.c15 a c ha hc,
    fun j hj => by rw [upF_d (by omega)]; exact h.c16 j hj⟩
theorem TR.quar (h : TR T f g P M C) {x0 : Int32}  : TR (upT T 0 16 x0) (upF f 9 x0) g P M C := by
  have hP := h.c1.1
  have hM := h.c1.2.1
  exact ⟨h.c1,
    ⟨by rw [upT_d (by omega)]; exact h.c2.1, by rw [upT_d (by omega)]; exact h.c2.2.1, by rw [upT_d (by omega)]; exact h.c2.2.2⟩,
    ⟨by rw [upF_d (by omega)]; exact h.c3.1, by rw [upF_d (by omega)]; exact h.c3.2.1, by rw [upF_d (by omega)]; exact h.c3.2.2.1, by rw [upF_d (by omega)]; exact h.c3.2.2.2⟩,
    ⟨by rw [upF_d (by omega), upT_d (by omega)]; exact h.c4.1, by rw [upF_d (by omega), upT_d (by omega)]; exact h.c4.2.1, by rw [upF_d (by omega), upT_d (by omega)]; exact h.c4.2.2.1, by rw [upF_d (by omega), upT_d (by omega)]; exact h.c4.2.2.2.1, by rw [upF_d (by omega), upT_d (by omega)]; exact h.c4.2.2.2.2.1, by rw [upF_s, upT_s], by rw [upF_d (by omega), upT_d (by omega)]; exact h.c4.2.2.2.2.2.2⟩,
    ⟨by obtain ⟨n9, h8, h9⟩ := h.c5.1; exact ⟨n9, h8, by rw [upT_d (by omega)]; exact h9⟩, by obtain ⟨n9, h8, h9⟩ := h.c5.2.1; exact ⟨n9, h8, by rw [upT_d (by omega)]; exact h9⟩, by obtain ⟨n9, h8, h9⟩ := h.c5.2.2.1; exact ⟨n9, h8, by rw [upT_d (by omega)]; exact h9⟩, by obtain ⟨n9, h8, h9⟩ := h.c5.2.2.2.1; exact ⟨n9, h8, by rw [upT_d (by omega)]; exact h9⟩, by obtain ⟨n9, h8, h9⟩ := h.c5.2.2.2.2; exact ⟨n9, h8, by rw [upT_d (by omega)]; exact h9⟩⟩,
    fun p hp => ⟨by rw [upF_d (by omega), upT_d (by omega)]; exact (h.c6 p hp).1, by rw [upF_d (by omega), upT_d (by omega)]; exact (h.c6 p hp).2.1, by rw [upF_d (by omega), upT_d (by omega)]; exact (h.c6 p hp).2.2.1, by rw [upF_d (by omega), upT_d (by omega)]; exact (h.c6 p hp).2.2.2⟩,
    fun p hp => ⟨by obtain ⟨n9, h8, h9⟩ := (h.c7 p hp).1; exact ⟨n9, h8, by rw [upT_d (by omega)]; exact h9⟩, by rw [upT_d (by omega)]; exact (h.c7 p hp).2⟩,
    fun p hp h8 => by rw [upT_d (by omega)]; exact h.c8 p hp h8,
    fun i hi h8 => by rw [upT_d (by omega)]; exact h.c9 i hi h8,
    fun p o hp ho => by rw [upF_d (by omega), upT_d (by omega)]; exact h.c10 p o hp ho,
    fun p o hp ho => by rw [upT_d (by omega)]; exact h.c11 p o hp ho,
    fun k hk => ⟨by rw [upF_d (by omega), upT_d (by omega)]; exact (h.c12 k hk).1, by rw [upF_d (by omega), upT_d (by omega)]; exact (h.c12 k hk).2.1, by rw [upF_d (by omega), upT_d (by omega)]; exact (h.c12 k hk).2.2.1, by rw [upF_d (by omega), upT_d (by omega)]; exact (h.c12 k hk).2.2.2.1, by rw [upF_d (by omega), upT_d (by omega)]; exact (h.c12 k hk).2.2.2.2⟩,
    fun k hk => ⟨by obtain ⟨a, b, h1, h2, h3, h4, h5⟩ := (h.c13 k hk).1; exact ⟨a, b, h1, h2, h3, by rw [upT_d (by omega)]; exact h4, by rw [upT_d (by omega)]; exact h5⟩, by obtain ⟨n9, h8, h9⟩ := (h.c13 k hk).2; exact ⟨n9, h8, by rw [upT_d (by omega)]; exact h9⟩⟩,
    fun i hi h8 => by rw [upT_d (by omega)]; exact h.c14 i hi h8,
    fun a c ha hc => by rw [upF_d (by omega), upT_d (by omega)]; exact h.c15 a c ha hc,
    fun j hj => by rw [upF_d (by omega)]; exact h.c16 j hj⟩
theorem TR.seed (h : TR T f g P M C) {x0 : Int32}  : TR (upT T 0 17 x0) (upF f 12 x0) g P M C := by
  have hP := h.c1.1
  have hM := h.c1.2.1
  exact ⟨h.c1,
    ⟨by rw [upT_d (by omega)]; exact h.c2.1, by rw [upT_d (by omega)]; exact h.c2.2.1, by rw [upT_d (by omega)]; exact h.c2.2.2⟩,
    ⟨by rw [upF_d (by omega)]; exact h.c3.1, by rw [upF_d (by omega)]; exact h.c3.2.1, by rw [upF_d (by omega)]; exact h.c3.2.2.1, by rw [upF_d (by omega)]; exact h.c3.2.2.2⟩,
    ⟨by rw [upF_d (by omega), upT_d (by omega)]; exact h.c4.1, by rw [upF_d (by omega), upT_d (by omega)]; exact h.c4.2.1, by rw [upF_d (by omega), upT_d (by omega)]; exact h.c4.2.2.1, by rw [upF_d (by omega), upT_d (by omega)]; exact h.c4.2.2.2.1, by rw [upF_d (by omega), upT_d (by omega)]; exact h.c4.2.2.2.2.1, by rw [upF_d (by omega), upT_d (by omega)]; exact h.c4.2.2.2.2.2.1, by rw [upF_s, upT_s]⟩,
    ⟨by obtain ⟨n9, h8, h9⟩ := h.c5.1; exact ⟨n9, h8, by rw [upT_d (by omega)]; exact h9⟩, by obtain ⟨n9, h8, h9⟩ := h.c5.2.1; exact ⟨n9, h8, by rw [upT_d (by omega)]; exact h9⟩, by obtain ⟨n9, h8, h9⟩ := h.c5.2.2.1; exact ⟨n9, h8, by rw [upT_d (by omega)]; exact h9⟩, by obtain ⟨n9, h8, h9⟩ := h.c5.2.2.2.1; exact ⟨n9, h8, by rw [upT_d (by omega)]; exact h9⟩, by obtain ⟨n9, h8, h9⟩ := h.c5.2.2.2.2; exact ⟨n9, h8, by rw [upT_d (by omega)]; exact h9⟩⟩,
    fun p hp => ⟨by rw [upF_d (by omega), upT_d (by omega)]; exact (h.c6 p hp).1, by rw [upF_d (by omega), upT_d (by omega)]; exact (h.c6 p hp).2.1, by rw [upF_d (by omega), upT_d (by omega)]; exact (h.c6 p hp).2.2.1, by rw [upF_d (by omega), upT_d (by omega)]; exact (h.c6 p hp).2.2.2⟩,
    fun p hp => ⟨by obtain ⟨n9, h8, h9⟩ := (h.c7 p hp).1; exact ⟨n9, h8, by rw [upT_d (by omega)]; exact h9⟩, by rw [upT_d (by omega)]; exact (h.c7 p hp).2⟩,
    fun p hp h8 => by rw [upT_d (by omega)]; exact h.c8 p hp h8,
    fun i hi h8 => by rw [upT_d (by omega)]; exact h.c9 i hi h8,
    fun p o hp ho => by rw [upF_d (by omega), upT_d (by omega)]; exact h.c10 p o hp ho,
    fun p o hp ho => by rw [upT_d (by omega)]; exact h.c11 p o hp ho,
    fun k hk => ⟨by rw [upF_d (by omega), upT_d (by omega)]; exact (h.c12 k hk).1, by rw [upF_d (by omega), upT_d (by omega)]; exact (h.c12 k hk).2.1, by rw [upF_d (by omega), upT_d (by omega)]; exact (h.c12 k hk).2.2.1, by rw [upF_d (by omega), upT_d (by omega)]; exact (h.c12 k hk).2.2.2.1, by rw [upF_d (by omega), upT_d (by omega)]; exact (h.c12 k hk).2.2.2.2⟩,
    fun k hk => ⟨by obtain ⟨a, b, h1, h2, h3, h4, h5⟩ := (h.c13 k hk).1; exact ⟨a, b, h1, h2, h3, by rw [upT_d (by omega)]; exact h4, by rw [upT_d (by omega)]; exact h5⟩, by obtain ⟨n9, h8, h9⟩ := (h.c13 k hk).2; exact ⟨n9, h8, by rw [upT_d (by omega)]; exact h9⟩⟩,
    fun i hi h8 => by rw [upT_d (by omega)]; exact h.c14 i hi h8,
    fun a c ha hc => by rw [upF_d (by omega), upT_d (by omega)]; exact h.c15 a c ha hc,
    fun j hj => by rw [upF_d (by omega)]; exact h.c16 j hj⟩
theorem TR.texts (h : TR T f g P M C) {n0 : Nat} (hn0 : n0 ≤ 12) : TR (upT T 0 18 (nI n0)) (upF f 0 (nI n0)) g P M C := by
  have hP := h.c1.1
  have hM := h.c1.2.1
  exact ⟨h.c1,
    ⟨by rw [upT_d (by omega)]; exact h.c2.1, by rw [upT_d (by omega)]; exact h.c2.2.1, by rw [upT_d (by omega)]; exact h.c2.2.2⟩,
    ⟨by rw [upF_d (by omega)]; exact h.c3.1, by rw [upF_d (by omega)]; exact h.c3.2.1, by rw [upF_d (by omega)]; exact h.c3.2.2.1, by rw [upF_d (by omega)]; exact h.c3.2.2.2⟩,
    ⟨by rw [upF_s, upT_s], by rw [upF_d (by omega), upT_d (by omega)]; exact h.c4.2.1, by rw [upF_d (by omega), upT_d (by omega)]; exact h.c4.2.2.1, by rw [upF_d (by omega), upT_d (by omega)]; exact h.c4.2.2.2.1, by rw [upF_d (by omega), upT_d (by omega)]; exact h.c4.2.2.2.2.1, by rw [upF_d (by omega), upT_d (by omega)]; exact h.c4.2.2.2.2.2.1, by rw [upF_d (by omega), upT_d (by omega)]; exact h.c4.2.2.2.2.2.2⟩,
    ⟨⟨n0, hn0, upT_s⟩, by obtain ⟨n9, h8, h9⟩ := h.c5.2.1; exact ⟨n9, h8, by rw [upT_d (by omega)]; exact h9⟩, by obtain ⟨n9, h8, h9⟩ := h.c5.2.2.1; exact ⟨n9, h8, by rw [upT_d (by omega)]; exact h9⟩, by obtain ⟨n9, h8, h9⟩ := h.c5.2.2.2.1; exact ⟨n9, h8, by rw [upT_d (by omega)]; exact h9⟩, by obtain ⟨n9, h8, h9⟩ := h.c5.2.2.2.2; exact ⟨n9, h8, by rw [upT_d (by omega)]; exact h9⟩⟩,
    fun p hp => ⟨by rw [upF_d (by omega), upT_d (by omega)]; exact (h.c6 p hp).1, by rw [upF_d (by omega), upT_d (by omega)]; exact (h.c6 p hp).2.1, by rw [upF_d (by omega), upT_d (by omega)]; exact (h.c6 p hp).2.2.1, by rw [upF_d (by omega), upT_d (by omega)]; exact (h.c6 p hp).2.2.2⟩,
    fun p hp => ⟨by obtain ⟨n9, h8, h9⟩ := (h.c7 p hp).1; exact ⟨n9, h8, by rw [upT_d (by omega)]; exact h9⟩, by rw [upT_d (by omega)]; exact (h.c7 p hp).2⟩,
    fun p hp h8 => by rw [upT_d (by omega)]; exact h.c8 p hp h8,
    fun i hi h8 => by rw [upT_d (by omega)]; exact h.c9 i hi h8,
    fun p o hp ho => by rw [upF_d (by omega), upT_d (by omega)]; exact h.c10 p o hp ho,
    fun p o hp ho => by rw [upT_d (by omega)]; exact h.c11 p o hp ho,
    fun k hk => ⟨by rw [upF_d (by omega), upT_d (by omega)]; exact (h.c12 k hk).1, by rw [upF_d (by omega), upT_d (by omega)]; exact (h.c12 k hk).2.1, by rw [upF_d (by omega), upT_d (by omega)]; exact (h.c12 k hk).2.2.1, by rw [upF_d (by omega), upT_d (by omega)]; exact (h.c12 k hk).2.2.2.1, by rw [upF_d (by omega), upT_d (by omega)]; exact (h.c12 k hk).2.2.2.2⟩,
    fun k hk => ⟨by obtain ⟨a, b, h1, h2, h3, h4, h5⟩ := (h.c13 k hk).1; exact ⟨a, b, h1, h2, h3, by rw [upT_d (by omega)]; exact h4, by rw [upT_d (by omega)]; exact h5⟩, by obtain ⟨n9, h8, h9⟩ := (h.c13 k hk).2; exact ⟨n9, h8, by rw [upT_d (by omega)]; exact h9⟩⟩,
    fun i hi h8 => by rw [upT_d (by omega)]; exact h.c14 i hi h8,
    fun a c ha hc => by rw [upF_d (by omega), upT_d (by omega)]; exact h.c15 a c ha hc,
    fun j hj => by rw [upF_d (by omega)]; exact h.c16 j hj⟩
theorem TR.like (h : TR T f g P M C) {p0 o0 n0 : Nat} (hp0 : p0 < P) (ho0 : o0 < P) (hn0 : n0 ≤ 9) : TR (upT T 8 (8 * p0 + o0) (nI n0)) (upF f (46 + 8 * p0 + o0) (nI n0)) g P M C := by
  have hP := h.c1.1
  have hM := h.c1.2.1
  exact ⟨h.c1,
    ⟨by rw [upT_d (by omega)]; exact h.c2.1, by rw [upT_d (by omega)]; exact h.c2.2.1, by rw [upT_d (by omega)]; exact h.c2.2.2⟩,
    ⟨by rw [upF_d (by omega)]; exact h.c3.1, by rw [upF_d (by omega)]; exact h.c3.2.1, by rw [upF_d (by omega)]; exact h.c3.2.2.1, by rw [upF_d (by omega)]; exact h.c3.2.2.2⟩,
    ⟨by rw [upF_d (by omega), upT_d (by omega)]; exact h.c4.1, by rw [upF_d (by omega), upT_d (by omega)]; exact h.c4.2.1, by rw [upF_d (by omega), upT_d (by omega)]; exact h.c4.2.2.1, by rw [upF_d (by omega), upT_d (by omega)]; exact h.c4.2.2.2.1, by rw [upF_d (by omega), upT_d (by omega)]; exact h.c4.2.2.2.2.1, by rw [upF_d (by omega), upT_d (by omega)]; exact h.c4.2.2.2.2.2.1, by rw [upF_d (by omega), upT_d (by omega)]; exact h.c4.2.2.2.2.2.2⟩,
    ⟨by obtain ⟨n9, h8, h9⟩ := h.c5.1; exact ⟨n9, h8, by rw [upT_d (by omega)]; exact h9⟩, by obtain ⟨n9, h8, h9⟩ := h.c5.2.1; exact ⟨n9, h8, by rw [upT_d (by omega)]; exact h9⟩, by obtain ⟨n9, h8, h9⟩ := h.c5.2.2.1; exact ⟨n9, h8, by rw [upT_d (by omega)]; exact h9⟩, by obtain ⟨n9, h8, h9⟩ := h.c5.2.2.2.1; exact ⟨n9, h8, by rw [upT_d (by omega)]; exact h9⟩, by obtain ⟨n9, h8, h9⟩ := h.c5.2.2.2.2; exact ⟨n9, h8, by rw [upT_d (by omega)]; exact h9⟩⟩,
    fun p hp => ⟨by rw [upF_d (by omega), upT_d (by omega)]; exact (h.c6 p hp).1, by rw [upF_d (by omega), upT_d (by omega)]; exact (h.c6 p hp).2.1, by rw [upF_d (by omega), upT_d (by omega)]; exact (h.c6 p hp).2.2.1, by rw [upF_d (by omega), upT_d (by omega)]; exact (h.c6 p hp).2.2.2⟩,
    fun p hp => ⟨by obtain ⟨n9, h8, h9⟩ := (h.c7 p hp).1; exact ⟨n9, h8, by rw [upT_d (by omega)]; exact h9⟩, by rw [upT_d (by omega)]; exact (h.c7 p hp).2⟩,
    fun p hp h8 => by rw [upT_d (by omega)]; exact h.c8 p hp h8,
    fun i hi h8 => by rw [upT_d (by omega)]; exact h.c9 i hi h8,
    fun p o hp ho => by
      by_cases e : p = p0 ∧ o = o0
      · obtain ⟨rfl, rfl⟩ := e
        rw [upF_s, upT_s]
      · rw [upF_d (by omega), upT_d (by omega)]; exact h.c10 p o hp ho,
    fun p o hp ho => by
      by_cases e : p = p0 ∧ o = o0
      · obtain ⟨rfl, rfl⟩ := e
        exact ⟨⟨n0, hn0, upT_s⟩, fun h9 => by omega⟩
      · rw [upT_d (by omega)]; exact h.c11 p o hp ho,
    fun k hk => ⟨by rw [upF_d (by omega), upT_d (by omega)]; exact (h.c12 k hk).1, by rw [upF_d (by omega), upT_d (by omega)]; exact (h.c12 k hk).2.1, by rw [upF_d (by omega), upT_d (by omega)]; exact (h.c12 k hk).2.2.1, by rw [upF_d (by omega), upT_d (by omega)]; exact (h.c12 k hk).2.2.2.1, by rw [upF_d (by omega), upT_d (by omega)]; exact (h.c12 k hk).2.2.2.2⟩,
    fun k hk => ⟨by obtain ⟨a, b, h1, h2, h3, h4, h5⟩ := (h.c13 k hk).1; exact ⟨a, b, h1, h2, h3, by rw [upT_d (by omega)]; exact h4, by rw [upT_d (by omega)]; exact h5⟩, by obtain ⟨n9, h8, h9⟩ := (h.c13 k hk).2; exact ⟨n9, h8, by rw [upT_d (by omega)]; exact h9⟩⟩,
    fun i hi h8 => by rw [upT_d (by omega)]; exact h.c14 i hi h8,
    fun a c ha hc => by rw [upF_d (by omega), upT_d (by omega)]; exact h.c15 a c ha hc,
    fun j hj => by rw [upF_d (by omega)]; exact h.c16 j hj⟩
theorem TR.congr {T2 : Nat → Nat → Int32} {f2 g2 : Nat → Int32} (h : TR T f g P M C)  (hT : ∀ r k, (r = 0 ∧ 8 ≤ k ∧ k < 20) ∨ ((r = 2 ∨ r = 4 ∨ r = 6) ∧ k < 8) ∨ (r = 8 ∧ k < 64) ∨ (r = 10 ∧ k < 40) ∨ ((r = 12 ∨ r = 14) ∧ k < 20) ∨ (r = 16 ∧ k < 240) → T2 r k = T r k) (hf : ∀ j, j < 450 → f2 j = f j) (hg : ∀ j, j = 1 ∨ j = 2 ∨ (450 ≤ j ∧ j < 850) → f2 j = g2 j) : TR T2 f2 g2 P M C := by
  have hP := h.c1.1
  have hM := h.c1.2.1
  exact ⟨h.c1,
    ⟨by rw [hT _ _ (by omega)]; exact h.c2.1, by rw [hT _ _ (by omega)]; exact h.c2.2.1, by rw [hT _ _ (by omega)]; exact h.c2.2.2⟩,
    ⟨by rw [hf _ (by omega)]; exact h.c3.1, by rw [hf _ (by omega)]; exact h.c3.2.1, by rw [hf _ (by omega)]; exact h.c3.2.2.1, by rw [hf _ (by omega)]; exact h.c3.2.2.2⟩,
    ⟨by rw [hf _ (by omega), hT _ _ (by omega)]; exact h.c4.1, by rw [hf _ (by omega), hT _ _ (by omega)]; exact h.c4.2.1, by rw [hf _ (by omega), hT _ _ (by omega)]; exact h.c4.2.2.1, by rw [hf _ (by omega), hT _ _ (by omega)]; exact h.c4.2.2.2.1, by rw [hf _ (by omega), hT _ _ (by omega)]; exact h.c4.2.2.2.2.1, by rw [hf _ (by omega), hT _ _ (by omega)]; exact h.c4.2.2.2.2.2.1, by rw [hf _ (by omega), hT _ _ (by omega)]; exact h.c4.2.2.2.2.2.2⟩,
    ⟨by obtain ⟨n9, h8, h9⟩ := h.c5.1; exact ⟨n9, h8, by rw [hT _ _ (by omega)]; exact h9⟩, by obtain ⟨n9, h8, h9⟩ := h.c5.2.1; exact ⟨n9, h8, by rw [hT _ _ (by omega)]; exact h9⟩, by obtain ⟨n9, h8, h9⟩ := h.c5.2.2.1; exact ⟨n9, h8, by rw [hT _ _ (by omega)]; exact h9⟩, by obtain ⟨n9, h8, h9⟩ := h.c5.2.2.2.1; exact ⟨n9, h8, by rw [hT _ _ (by omega)]; exact h9⟩, by obtain ⟨n9, h8, h9⟩ := h.c5.2.2.2.2; exact ⟨n9, h8, by rw [hT _ _ (by omega)]; exact h9⟩⟩,
    fun p hp => ⟨by rw [hf _ (by omega), hT _ _ (by omega)]; exact (h.c6 p hp).1, by rw [hf _ (by omega), hT _ _ (by omega)]; exact (h.c6 p hp).2.1, by rw [hf _ (by omega), hT _ _ (by omega)]; exact (h.c6 p hp).2.2.1, by rw [hf _ (by omega), hT _ _ (by omega)]; exact (h.c6 p hp).2.2.2⟩,
    fun p hp => ⟨by obtain ⟨n9, h8, h9⟩ := (h.c7 p hp).1; exact ⟨n9, h8, by rw [hT _ _ (by omega)]; exact h9⟩, by rw [hT _ _ (by omega)]; exact (h.c7 p hp).2⟩,
    fun p hp h8 => by rw [hT _ _ (by omega)]; exact h.c8 p hp h8,
    fun i hi h8 => by rw [hT _ _ (by omega)]; exact h.c9 i hi h8,
    fun p o hp ho => by rw [hf _ (by omega), hT _ _ (by omega)]; exact h.c10 p o hp ho,
    fun p o hp ho => by rw [hT _ _ (by omega)]; exact h.c11 p o hp ho,
    fun k hk => ⟨by rw [hf _ (by omega), hT _ _ (by omega)]; exact (h.c12 k hk).1, by rw [hf _ (by omega), hT _ _ (by omega)]; exact (h.c12 k hk).2.1, by rw [hf _ (by omega), hT _ _ (by omega)]; exact (h.c12 k hk).2.2.1, by rw [hf _ (by omega), hT _ _ (by omega)]; exact (h.c12 k hk).2.2.2.1, by rw [hf _ (by omega), hT _ _ (by omega)]; exact (h.c12 k hk).2.2.2.2⟩,
    fun k hk => ⟨by obtain ⟨a, b, h1, h2, h3, h4, h5⟩ := (h.c13 k hk).1; exact ⟨a, b, h1, h2, h3, by rw [hT _ _ (by omega)]; exact h4, by rw [hT _ _ (by omega)]; exact h5⟩, by obtain ⟨n9, h8, h9⟩ := (h.c13 k hk).2; exact ⟨n9, h8, by rw [hT _ _ (by omega)]; exact h9⟩⟩,
    fun i hi h8 => by rw [hT _ _ (by omega)]; exact h.c14 i hi h8,
    fun a c ha hc => by rw [hf _ (by omega), hT _ _ (by omega)]; exact h.c15 a c ha hc,
    hg⟩
theorem TR.log {T2 : Nat → Nat → Int32} {f2 g2 : Nat → Int32} (h : TR T f g P M C) {x : Nat → Int32} (hC : C + 1 < 1000000) (hT : ∀ r k, (r = 0 ∧ 8 ≤ k ∧ k < 19) ∨ ((r = 2 ∨ r = 4 ∨ r = 6) ∧ k < 8) ∨ (r = 8 ∧ k < 64) ∨ (r = 10 ∧ k < 40) ∨ ((r = 12 ∨ r = 14) ∧ k < 20) → T2 r k = T r k) (hT9 : T2 0 19 = nI (C + 1)) (hx : ∀ c, c < 4 → T2 16 (4 * (C % 60) + c) = x c ∧ f2 (210 + c) = x c) (hy : ∀ i c, i < 60 → c < 4 → i ≠ C % 60 → T2 16 (4 * i + c) = T 16 (4 * i + c)) (hf : ∀ j, j < 210 → j ≠ 10 → j ≠ 11 → f2 j = f j) (h10 : f2 10 = nI (C + 1)) (h11 : f2 11 = nI (min 60 (C + 1))) (hs : ∀ i, i < 236 → f2 (214 + i) = f (210 + i)) (hg : ∀ j, j = 1 ∨ j = 2 ∨ (450 ≤ j ∧ j < 850) → f2 j = g j) : TR T2 f2 g P M (C + 1) := by
  have hP := h.c1.1
  have hM := h.c1.2.1
  exact ⟨⟨h.c1.1, h.c1.2.1, hC⟩,
    ⟨by rw [hT _ _ (by omega)]; exact h.c2.1, by rw [hT _ _ (by omega)]; exact h.c2.2.1, hT9⟩,
    ⟨by rw [hf _ (by omega) (by omega) (by omega)]; exact h.c3.1, by rw [hf _ (by omega) (by omega) (by omega)]; exact h.c3.2.1, h10, h11⟩,
    ⟨by rw [hf _ (by omega) (by omega) (by omega), hT _ _ (by omega)]; exact h.c4.1, by rw [hf _ (by omega) (by omega) (by omega), hT _ _ (by omega)]; exact h.c4.2.1, by rw [hf _ (by omega) (by omega) (by omega), hT _ _ (by omega)]; exact h.c4.2.2.1, by rw [hf _ (by omega) (by omega) (by omega), hT _ _ (by omega)]; exact h.c4.2.2.2.1, by rw [hf _ (by omega) (by omega) (by omega), hT _ _ (by omega)]; exact h.c4.2.2.2.2.1, by rw [hf _ (by omega) (by omega) (by omega), hT _ _ (by omega)]; exact h.c4.2.2.2.2.2.1, by rw [hf _ (by omega) (by omega) (by omega), hT _ _ (by omega)]; exact h.c4.2.2.2.2.2.2⟩,
    ⟨by obtain ⟨n9, h8, h9⟩ := h.c5.1; exact ⟨n9, h8, by rw [hT _ _ (by omega)]; exact h9⟩, by obtain ⟨n9, h8, h9⟩ := h.c5.2.1; exact ⟨n9, h8, by rw [hT _ _ (by omega)]; exact h9⟩, by obtain ⟨n9, h8, h9⟩ := h.c5.2.2.1; exact ⟨n9, h8, by rw [hT _ _ (by omega)]; exact h9⟩, by obtain ⟨n9, h8, h9⟩ := h.c5.2.2.2.1; exact ⟨n9, h8, by rw [hT _ _ (by omega)]; exact h9⟩, by obtain ⟨n9, h8, h9⟩ := h.c5.2.2.2.2; exact ⟨n9, h8, by rw [hT _ _ (by omega)]; exact h9⟩⟩,
    fun p hp => ⟨by rw [hf _ (by omega) (by omega) (by omega), hT _ _ (by omega)]; exact (h.c6 p hp).1, by rw [hf _ (by omega) (by omega) (by omega), hT _ _ (by omega)]; exact (h.c6 p hp).2.1, by rw [hf _ (by omega) (by omega) (by omega), hT _ _ (by omega)]; exact (h.c6 p hp).2.2.1, by rw [hf _ (by omega) (by omega) (by omega), hT _ _ (by omega)]; exact (h.c6 p hp).2.2.2⟩,
    fun p hp => ⟨by obtain ⟨n9, h8, h9⟩ := (h.c7 p hp).1; exact ⟨n9, h8, by rw [hT _ _ (by omega)]; exact h9⟩, by rw [hT _ _ (by omega)]; exact (h.c7 p hp).2⟩,
    fun p hp h8 => by rw [hT _ _ (by omega)]; exact h.c8 p hp h8,
    fun i hi h8 => by rw [hT _ _ (by omega)]; exact h.c9 i hi h8,
    fun p o hp ho => by rw [hf _ (by omega) (by omega) (by omega), hT _ _ (by omega)]; exact h.c10 p o hp ho,
    fun p o hp ho => by rw [hT _ _ (by omega)]; exact h.c11 p o hp ho,
    fun k hk => ⟨by rw [hf _ (by omega) (by omega) (by omega), hT _ _ (by omega)]; exact (h.c12 k hk).1, by rw [hf _ (by omega) (by omega) (by omega), hT _ _ (by omega)]; exact (h.c12 k hk).2.1, by rw [hf _ (by omega) (by omega) (by omega), hT _ _ (by omega)]; exact (h.c12 k hk).2.2.1, by rw [hf _ (by omega) (by omega) (by omega), hT _ _ (by omega)]; exact (h.c12 k hk).2.2.2.1, by rw [hf _ (by omega) (by omega) (by omega), hT _ _ (by omega)]; exact (h.c12 k hk).2.2.2.2⟩,
    fun k hk => ⟨by obtain ⟨a, b, h1, h2, h3, h4, h5⟩ := (h.c13 k hk).1; exact ⟨a, b, h1, h2, h3, by rw [hT _ _ (by omega)]; exact h4, by rw [hT _ _ (by omega)]; exact h5⟩, by obtain ⟨n9, h8, h9⟩ := (h.c13 k hk).2; exact ⟨n9, h8, by rw [hT _ _ (by omega)]; exact h9⟩⟩,
    fun i hi h8 => by rw [hT _ _ (by omega)]; exact h.c14 i hi h8,
    fun a c ha hc => by
      by_cases e : a = 0
      · subst e
        have h1 := hx c hc
        rw [show 4 * ((C + 1 - 1 - 0) % 60) + c = 4 * (C % 60) + c by omega, h1.1]
        exact h1.2
      · have h1 := h.c15 (a - 1) c (by omega) hc
        rw [show 210 + 4 * a + c = 214 + (4 * (a - 1) + c) by omega, hs _ (by omega), show 210 + (4 * (a - 1) + c) = 210 + 4 * (a - 1) + c by omega, h1, show (C - 1 - (a - 1)) % 60 = (C + 1 - 1 - a) % 60 by omega]
        exact (hy ((C + 1 - 1 - a) % 60) c (by omega) hc (by omega)).symm,
    hg⟩
end TRX

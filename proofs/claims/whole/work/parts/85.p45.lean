-- PURE STAGE: the fewest gifts, forward and backward
def lft (h g : Nat) : Nat := min 99 (h + 5 * g)
def agS (t : Nat) (f : Nat → Nat) : Nat → Nat := fun x => if x = min 99 (t + 5) then min (f x) (f t + 1) else f x
def ag (f : Nat → Nat) (t : Nat) : Nat → Nat := itr agS t f
theorem ag_s {f : Nat → Nat} {t : Nat} : ag f (t + 1) = agS t (ag f t) := rfl
theorem ag_le {f : Nat → Nat} {t x : Nat} : ag f (t + 1) x ≤ ag f t x := by
  rw [ag_s]
  unfold agS
  by_cases c : x = min 99 (t + 5)
  · rw [if_pos c]; exact Nat.min_le_left _ _
  · rw [if_neg c]; exact Nat.le_refl _
theorem ag_le2 {f : Nat → Nat} {t x : Nat} : ∀ e, ag f (t + e) x ≤ ag f t x := by
  intro e
  induction e with
  | zero => exact Nat.le_refl _
  | succ e ih => exact Nat.le_trans (ag_le (t := t + e)) ih
theorem ag_W {f : Nat → Nat} : ∀ (t : Nat), t ≤ 99 → ∀ x c, x ≤ 99 → ag f t x ≤ c → ∃ g h, g ≤ c ∧ h ≤ 99 ∧ lft h g = x ∧ f h ≤ c - g := by
  intro t
  induction t with
  | zero => intro _ x c hx h; exact ⟨0, x, by omega, hx, by unfold lft; omega, h⟩
  | succ t ih =>
    intro ht x c hx h
    rw [ag_s] at h
    unfold agS at h
    by_cases e : x = min 99 (t + 5)
    · rw [if_pos e] at h
      by_cases e2 : ag f t x ≤ c
      · exact ih (by omega) x c hx e2
      · obtain ⟨g, h1, h2, h3, h4, h5⟩ := ih (by omega) t (c - 1) (by omega) (by omega)
        refine ⟨g + 1, h1, by omega, h3, ?_, by omega⟩
        unfold lft at h4 ⊢
        omega
    · rw [if_neg e] at h
      exact ih (by omega) x c hx h
theorem ag_keep {f : Nat → Nat} {u : Nat} (hu : u < 99) : ∀ e, ag f (u + e) u = ag f u u := by
  intro e
  induction e with
  | zero => rfl
  | succ e ih =>
    show ag f (u + e + 1) u = _
    rw [ag_s, ← ih]
    unfold agS
    rw [if_neg (by omega)]
theorem ag_C {f : Nat → Nat} : ∀ (g h c : Nat), g ≤ c → h ≤ 99 → f h ≤ c - g → ag f 99 (lft h g) ≤ c := by
  intro g
  induction g with
  | zero =>
    intro h c _ hh hf
    rw [show lft h 0 = h by unfold lft; omega]
    have := ag_le2 (f := f) (t := 0) (x := h) 99
    rw [Nat.zero_add] at this
    exact Nat.le_trans this hf
  | succ g ih =>
    intro h c hg hh hf
    have h1 := ih h (c - 1) (by omega) hh (by omega)
    by_cases e : lft h g = 99
    · rw [show lft h (g + 1) = lft h g by unfold lft at *; omega]
      omega
    · have hu : lft h g < 99 := by unfold lft at *; omega
      have e2 : lft h (g + 1) = min 99 (lft h g + 5) := by unfold lft at *; omega
      have k1 := ag_keep (f := f) hu (99 - lft h g)
      rw [show lft h g + (99 - lft h g) = 99 by omega] at k1
      have k2 := ag_le2 (f := f) (t := lft h g + 1) (x := lft h (g + 1)) (99 - (lft h g + 1))
      rw [show lft h g + 1 + (99 - (lft h g + 1)) = 99 by omega] at k2
      have k3 : ag f (lft h g + 1) (lft h (g + 1)) ≤ ag f (lft h g) (lft h g) + 1 := by
        rw [ag_s, e2]
        unfold agS
        rw [if_pos rfl]
        exact Nat.min_le_right _ _
      omega
def pcS (cost nx : Nat → Nat) (bar h : Nat) (f : Nat → Nat) : Nat → Nat := fun x => if cost h < 41 ∧ bar ≤ nx h ∧ x = nx h then min (cost h) (f x) else f x
def pc (cost nx : Nat → Nat) (bar t : Nat) : Nat → Nat := itr (pcS cost nx bar) t (fun _ => 41)
theorem pc_s {cost nx : Nat → Nat} {bar t : Nat} : pc cost nx bar (t + 1) = pcS cost nx bar t (pc cost nx bar t) := rfl
theorem pc_is {cost nx : Nat → Nat} {bar c : Nat} (hc : c ≤ 40) : ∀ t x, pc cost nx bar t x ≤ c ↔ ∃ h, h < t ∧ cost h ≤ c ∧ nx h = x ∧ bar ≤ x := by
  intro t
  induction t with
  | zero => intro x; exact ⟨fun h => (by have h2 : 41 ≤ c := h; omega), fun ⟨h, h1, _⟩ => by omega⟩
  | succ t ih =>
    intro x
    rw [pc_s]
    unfold pcS
    by_cases e : cost t < 41 ∧ bar ≤ nx t ∧ x = nx t
    · rw [if_pos e]
      constructor
      · intro h
        by_cases e2 : pc cost nx bar t x ≤ c
        · obtain ⟨h1, h2, h3⟩ := (ih x).mp e2
          exact ⟨h1, by omega, h3⟩
        · exact ⟨t, by omega, by omega, e.2.2.symm, by omega⟩
      · intro h
        obtain ⟨h1, h2, h3, h4, h5⟩ := h
        by_cases e2 : h1 = t
        · subst e2; exact Nat.le_trans (Nat.min_le_left _ _) h3
        · exact Nat.le_trans (Nat.min_le_right _ _) ((ih x).mpr ⟨h1, by omega, h3, h4, h5⟩)
    · rw [if_neg e, ih x]
      constructor
      · intro h
        obtain ⟨h1, h2, h3⟩ := h
        exact ⟨h1, by omega, h3⟩
      · intro h
        obtain ⟨h1, h2, h3, h4, h5⟩ := h
        refine ⟨h1, ?_, h3, h4, h5⟩
        by_cases e2 : h1 = t
        · subst e2; exact absurd ⟨by omega, by omega, h4.symm⟩ e
        · omega
def mnR (f : Nat → Nat) (t : Nat) : Nat := itr (fun h m => min (f h) m) t 41
theorem mnR_is {f : Nat → Nat} {c : Nat} (hc : c ≤ 40) : ∀ t, mnR f t ≤ c ↔ ∃ h, h < t ∧ f h ≤ c := by
  intro t
  induction t with
  | zero => exact ⟨fun h => (by have h2 : 41 ≤ c := h; omega), fun ⟨h, h1, _⟩ => by omega⟩
  | succ t ih =>
    show min (f t) (mnR f t) ≤ c ↔ _
    constructor
    · intro h
      by_cases e : f t ≤ c
      · exact ⟨t, by omega, e⟩
      · obtain ⟨h1, h2, h3⟩ := ih.mp (by omega)
        exact ⟨h1, by omega, h3⟩
    · intro h
      obtain ⟨h1, h2, h3⟩ := h
      by_cases e : h1 = t
      · subst e; omega
      · have := ih.mpr ⟨h1, by omega, h3⟩
        omega
def INFN : Nat := 2000000000
def fwR (tu : Nat → Nat) (h t : Nat) : Nat := itr (fun g best => if tu (lft h g) < INFN then min best (g + tu (lft h g)) else best) t INFN
theorem fwR_s {tu : Nat → Nat} {h t : Nat} : fwR tu h (t + 1) = if tu (lft h t) < INFN then min (fwR tu h t) (t + tu (lft h t)) else fwR tu h t := rfl
theorem fwR_is {tu : Nat → Nat} {h c : Nat} (hc : c < INFN) : ∀ t, fwR tu h t ≤ c ↔ ∃ g, g < t ∧ tu (lft h g) < INFN ∧ g + tu (lft h g) ≤ c := by
  intro t
  induction t with
  | zero => exact ⟨fun h => (by have h2 : INFN ≤ c := h; omega), fun ⟨h, h1, _⟩ => by omega⟩
  | succ t ih =>
    rw [fwR_s]
    by_cases e : tu (lft h t) < INFN
    · rw [if_pos e]
      constructor
      · intro h5
        by_cases e2 : fwR tu h t ≤ c
        · obtain ⟨h1, h2, h3⟩ := ih.mp e2
          exact ⟨h1, by omega, h3⟩
        · exact ⟨t, by omega, e, by omega⟩
      · intro h5
        obtain ⟨h1, h2, h3, h4⟩ := h5
        by_cases e2 : h1 = t
        · subst e2; exact Nat.le_trans (Nat.min_le_right _ _) h4
        · exact Nat.le_trans (Nat.min_le_left _ _) (ih.mpr ⟨h1, by omega, h3, h4⟩)
    · rw [if_neg e, ih]
      constructor
      · intro h5
        obtain ⟨h1, h2, h3⟩ := h5
        exact ⟨h1, by omega, h3⟩
      · intro h5
        obtain ⟨h1, h2, h3, h4⟩ := h5
        refine ⟨h1, ?_, h3, h4⟩
        by_cases e2 : h1 = t
        · subst e2; exact absurd h3 e
        · omega
theorem fwR_bd {tu : Nat → Nat} {h B : Nat} (hb : ∀ u, tu u < INFN → tu u ≤ B) : ∀ t, t ≤ 21 → fwR tu h t = INFN ∨ fwR tu h t ≤ 20 + B := by
  intro t
  induction t with
  | zero => intro _; exact Or.inl rfl
  | succ t ih =>
    intro ht
    rw [fwR_s]
    by_cases e : tu (lft h t) < INFN
    · rw [if_pos e]
      have := hb _ e
      exact Or.inr (Nat.le_trans (Nat.min_le_right _ _) (by omega))
    · rw [if_neg e]; exact ih (by omega)
def tuR (nx : Nat → Nat) (bar : Nat) (G : Nat → Nat) (h : Nat) : Nat := if nx h < bar then INFN else G (nx h)
def gD (nx : Nat → Nat → Nat) (bar n : Nat) : Nat → Nat → Nat
  | 0 => fun _ => 0
  | d + 1 => fun h => fwR (tuR (nx (n - (d + 1))) bar (gD nx bar n d)) h 21
theorem gD_s {nx : Nat → Nat → Nat} {bar n d h : Nat} : gD nx bar n (d + 1) h = fwR (tuR (nx (n - (d + 1))) bar (gD nx bar n d)) h 21 := rfl
theorem gD_bd {nx : Nat → Nat → Nat} {bar n : Nat} : ∀ d h, gD nx bar n d h = INFN ∨ gD nx bar n d h ≤ 20 * d := by
  intro d
  induction d with
  | zero => intro h; exact Or.inr (Nat.le_refl 0)
  | succ d ih =>
    intro h
    rw [gD_s]
    rcases fwR_bd (tu := tuR (nx (n - (d + 1))) bar (gD nx bar n d)) (h := h) (B := 20 * d) (fun u hu => by
      unfold tuR at hu ⊢
      by_cases c : nx (n - (d + 1)) u < bar
      · rw [if_pos c] at hu; omega
      · rw [if_neg c] at hu ⊢
        rcases ih (nx (n - (d + 1)) u) with e | e
        · omega
        · exact e) 21 (Nat.le_refl _) with h1 | h1
    · exact Or.inl h1
    · exact Or.inr (by omega)
def cF (nx : Nat → Nat → Nat) (bar h0 : Nat) : Nat → Nat → Nat
  | 0 => fun h => if h = h0 then 0 else 41
  | i + 1 => pc (ag (cF nx bar h0 i) 99) (nx i) bar 100
theorem cF_s {nx : Nat → Nat → Nat} {bar h0 i : Nat} : cF nx bar h0 (i + 1) = pc (ag (cF nx bar h0 i) 99) (nx i) bar 100 := rfl
def gE (nx : Nat → Nat → Nat) (bar h0 n c i : Nat) : Prop := ∃ h a, h < 100 ∧ a ≤ c ∧ cF nx bar h0 i h ≤ a ∧ gD nx bar n (n - i) h ≤ c - a
theorem gE_step {nx : Nat → Nat → Nat} {bar h0 n c i : Nat} (hx : ∀ i h, nx i h ≤ 99) (hc : c ≤ 40) (hi : i < n) : gE nx bar h0 n c i ↔ gE nx bar h0 n c (i + 1) := by
  have hI : INFN = 2000000000 := rfl
  have en : n - i = (n - (i + 1)) + 1 := by omega
  have ei : n - (n - (i + 1) + 1) = i := by omega
  constructor
  · intro hE
    obtain ⟨h, a, h1, h2, h3, h4⟩ := hE
    rw [en, gD_s, ei] at h4
    obtain ⟨g, g1, g2, g3⟩ := (fwR_is (by omega) 21).mp h4
    unfold tuR at g2 g3
    by_cases c2 : nx i (lft h g) < bar
    · rw [if_pos c2] at g2; omega
    · rw [if_neg c2] at g2 g3
      refine ⟨nx i (lft h g), a + g, by have := hx i (lft h g); omega, by omega, ?_, by omega⟩
      rw [cF_s]
      exact (pc_is (by omega) 100 _).mpr ⟨lft h g, by unfold lft; omega, ag_C g h (a + g) (by omega) (by omega) (by omega), rfl, by omega⟩
  · intro hE
    obtain ⟨b, a, h1, h2, h3, h4⟩ := hE
    rw [cF_s] at h3
    obtain ⟨u, u1, u2, u3, u4⟩ := (pc_is (by omega) 100 _).mp h3
    obtain ⟨g, h, w1, w2, w3, w4⟩ := ag_W 99 (Nat.le_refl _) u a (by omega) u2
    have gb := gD_bd (nx := nx) (bar := bar) (n := n) (n - (i + 1)) b
    have key : ∀ g', g' ≤ 20 → g' ≤ g → lft h g' = u → gE nx bar h0 n c i := fun g' k1 k2 k3 => by
      refine ⟨h, a - g', by omega, by omega, by omega, ?_⟩
      rw [en, gD_s, ei]
      have e : tuR (nx i) bar (gD nx bar n (n - (i + 1))) (lft h g') = gD nx bar n (n - (i + 1)) b := by
        unfold tuR
        rw [k3, u3, if_neg (by omega)]
      refine (fwR_is (by omega) 21).mpr ⟨g', by omega, ?_, ?_⟩
      · rw [e]; omega
      · rw [e]; omega
    by_cases c2 : g ≤ 20
    · exact key g c2 (Nat.le_refl _) w3
    · exact key 20 (by omega) (by omega) (by unfold lft at *; omega)
theorem gifts_eq {nx : Nat → Nat → Nat} {bar h0 n c : Nat} (hx : ∀ i h, nx i h ≤ 99) (hc : c ≤ 40) (hh : h0 < 100) : mnR (cF nx bar h0 n) 100 ≤ c ↔ gD nx bar n n h0 ≤ c := by
  have all : ∀ i, i ≤ n → (gE nx bar h0 n c 0 ↔ gE nx bar h0 n c i) := by
    intro i
    induction i with
    | zero => intro _; exact Iff.rfl
    | succ i ih => intro hi; exact (ih (by omega)).trans (gE_step hx hc (by omega))
  have e0 : gE nx bar h0 n c 0 ↔ gD nx bar n n h0 ≤ c := by
    constructor
    · intro hE
      obtain ⟨h, a, h1, h2, h3, h4⟩ := hE
      have h5 : (if h = h0 then 0 else 41) ≤ a := h3
      by_cases e : h = h0
      · subst e
        rw [Nat.sub_zero] at h4
        omega
      · rw [if_neg e] at h5; omega
    · intro h
      exact ⟨h0, 0, hh, by omega, by show (if h0 = h0 then 0 else 41) ≤ 0; rw [if_pos rfl]; exact Nat.le_refl _, h⟩
  have en : gE nx bar h0 n c n ↔ ∃ h, h < 100 ∧ cF nx bar h0 n h ≤ c := by
    constructor
    · intro hE
      obtain ⟨h, a, h1, h2, h3, h4⟩ := hE
      exact ⟨h, h1, by omega⟩
    · intro hE
      obtain ⟨h, h1, h2⟩ := hE
      refine ⟨h, c, h1, Nat.le_refl _, h2, ?_⟩
      rw [Nat.sub_self]
      exact Nat.zero_le _
  rw [mnR_is hc, ← en, ← all n (Nat.le_refl _), e0]
theorem cF_bd {nx : Nat → Nat → Nat} {bar h0 : Nat} : ∀ i h, cF nx bar h0 i h ≤ 41 := by
  intro i
  cases i with
  | zero => intro h; show (if h = h0 then 0 else 41) ≤ 41; split <;> omega
  | succ i =>
    intro h
    rw [cF_s]
    have : ∀ t x, pc (ag (cF nx bar h0 i) 99) (nx i) bar t x ≤ 41 := by
      intro t
      induction t with
      | zero => intro x; exact Nat.le_refl 41
      | succ t ih =>
        intro x
        rw [pc_s]
        unfold pcS
        have := ih x
        split
        · exact Nat.le_trans (Nat.min_le_right _ _) this
        · exact this
    exact this 100 h

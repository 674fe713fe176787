-- PURE STAGE: what is told
def cs (x : Int32) (f : Nat) : Nat → Int32
  | 0 => 0
  | k + 1 => cs x f k + ((x >>> (nI (f + k) &&& 31)) &&& 1)
def tmask (f e : Nat) : Int32 := ((1 : Int32) <<< (nI (e + 1) &&& 31)) - ((1 : Int32) <<< (nI f &&& 31))
theorem mask_cnt : ∀ s, s < 256 → ∀ f, f < 8 → ∀ e, e < 8 → f ≤ e → F_Int_bitCount_0f7a4 z0 (nI s &&& tmask f e) = cs (nI s) f (e + 1 - f) := by decide +kernel
theorem shl_P : ∀ P, P < 9 → ((1 : Int32) <<< (nI P &&& 31)) = nI (2 ^ P) := by decide +kernel
def rfit (b : Nat → Nat) (x : Int32) (t : Nat) : Bool := decide (cs x (b (3 * t)) (b (3 * t + 1) + 1 - b (3 * t)) = nI (b (3 * t + 2)))
def fitA (b : Nat → Nat) (x : Int32) : Nat → Bool
  | 0 => true
  | t + 1 => fitA b x t && rfit b x t
def fitF (b : Nat → Nat) (x : Int32) : Nat → Nat → Bool
  | 0, _ => true
  | d + 1, lo => rfit b x lo && fitF b x d (lo + 1)
theorem fit_AF (b : Nat → Nat) (x : Int32) : ∀ d t, (fitA b x t && fitF b x d t) = fitA b x (t + d) := by
  intro d
  induction d with
  | zero => intro t; show (fitA b x t && true) = _; rw [Bool.and_true]; rfl
  | succ d ih =>
    intro t
    show (fitA b x t && (rfit b x t && fitF b x d (t + 1))) = _
    rw [← Bool.and_assoc, show t + (d + 1) = t + 1 + d by omega, ← ih (t + 1)]
    rfl
def okU (b : Nat → Nat) (P : Nat) : Nat → Bool
  | 0 => true
  | t + 1 => okU b P t && decide (b (3 * t) ≤ b (3 * t + 1) ∧ b (3 * t + 1) < P)
theorem okU_m {b : Nat → Nat} {P t : Nat} : ∀ {R : Nat}, t ≤ R → okU b P R = true → okU b P t = true := by
  intro R
  induction R with
  | zero => intro h h2; obtain rfl : t = 0 := by omega
            exact h2
  | succ R ih =>
    intro h h2
    by_cases c : t = R + 1
    · subst c; exact h2
    · change (okU b P R && _) = true at h2
      rw [Bool.and_eq_true] at h2
      exact ih (by omega) h2.1
theorem okU_at {b : Nat → Nat} {P t R : Nat} (h : t < R) (h2 : okU b P R = true) : b (3 * t) ≤ b (3 * t + 1) ∧ b (3 * t + 1) < P := by
  have h3 := okU_m (t := t + 1) (by omega) h2
  change (okU b P t && decide _) = true at h3
  rw [Bool.and_eq_true] at h3
  exact of_decide_eq_true h3.2
/-- the rows told, as the class keeps them -/
def TS (b : Nat → Nat) (P : Nat) (σ : Mem) (t : Nat) : Prop := σ 122 3 = nI t ∧ σ 122 4 = nI P ∧ ∀ u, u < t → σ 124 u = tmask (b (3 * u)) (b (3 * u + 1)) ∧ σ 126 u = nI (b (3 * u + 2))
section TOLD
variable {σ σ' : Mem} {g : Nat → Int32} {P M C i R : Nat} {b : Nat → Nat}
theorem c_reads (hP : P ≤ 8) (hR : R ≤ 12) (hb : ∀ j, j < 3 * R → σ 2 j = nI (b j) ∧ b j ≤ 255) (h0 : TS b P σ 0) (v2 : Int32) (hv : v2 = nI (3 * R)) (v3 : Int32) :
    ∃ x, whl (fun s => F_Told_reads_27_b 1 400 v2 v3 s.1 s.2) FUEL (0, σ) = some x ∧ ((okU b P R = true ∧ ∃ v σ1, x = .inl (v, σ1) ∧ TS b P σ1 R) ∨ (okU b P R = false ∧ ∃ σ1, x = .inr (σ1, 0))) := by
  refine whl_inv (F := fun s => F_Told_reads_27_b 1 400 v2 v3 s.1 s.2) (fun t s => t ≤ R ∧ okU b P t = true ∧ ∃ σt, s = (nI (3 * t), σt) ∧ TS b P σt t ∧ ∀ j, σt 2 j = σ 2 j) _ (fun t s hI => ?_) R (fun s h => by have := h.1; omega) 0 R FUEL (0, σ) (by omega) (by unfold FUEL; omega) ⟨by omega, rfl, σ, rfl, h0, fun _ => rfl⟩
  obtain ⟨ht, hok, σt, rfl, hT, h2⟩ := hI
  subst hv
  dsimp only
  unfold F_Told_reads_27_b
  by_cases c : t < R
  · obtain ⟨b0, c0⟩ := hb (3 * t) (by omega)
    obtain ⟨b1, c1⟩ := hb (3 * t + 1) (by omega)
    obtain ⟨b2, c2⟩ := hb (3 * t + 2) (by omega)
    have r0 : F_Row_at σt 1 400 (nI (3 * t)) = nI (b (3 * t)) := by rw [p_at (by omega) (by decide), h2, b0]
    have r1 : F_Row_at σt 1 400 (nI (3 * t) + 1) = nI (b (3 * t + 1)) := by rw [nI_1, p_at (by omega) (by decide), h2, b1]
    have okS : okU b P (t + 1) = decide (b (3 * t) ≤ b (3 * t + 1) ∧ b (3 * t + 1) < P) := by
      show (okU b P t && decide _) = _
      rw [hok, Bool.true_and]
    have bad : ¬ (b (3 * t) ≤ b (3 * t + 1) ∧ b (3 * t + 1) < P) → okU b P R = false := fun hn => by
      cases hx : okU b P R with
      | false => rfl
      | true => exact absurd (okU_at c hx) hn
    rw [if_pos (nI_lt (by omega) (by omega)), bind_T, bind_T, r0, r1]
    by_cases e1 : b (3 * t + 1) < b (3 * t)
    · rw [if_pos (nI_lt e1 (by omega))]
      exact Or.inl ⟨_, rfl, Or.inr ⟨bad (by omega), σt, rfl⟩⟩
    · rw [if_neg (nI_nlt (by omega) (by omega)), hT.2.1]
      by_cases e2 : b (3 * t + 1) < P
      · rw [if_pos (nI_lt e2 (by omega)), hT.1, p_put (by omega) (by decide), bind_T, up_d (by omega), hT.1, p_put (by omega) (by decide), bind_T, bind_T]
        rw [show nI (3 * t) + 3 = nI (3 * (t + 1)) from nI_add _ 3]
        refine Or.inr ⟨_, rfl, by omega, by rw [okS]; exact decide_eq_true ⟨by omega, e2⟩, _, rfl, ⟨?_, ?_, fun u hu => ?_⟩, fun j => ?_⟩
        · rw [up_s, up_d (by omega), up_d (by omega), hT.1, nI_1]
        · rw [up_d (by omega), up_d (by omega), up_d (by omega), hT.2.1]
        · by_cases eu : u = t
          · subst eu
            rw [up_d (by omega), up_d (by omega), up_s, up_d (by omega), up_s]
            refine ⟨?_, ?_⟩
            · unfold tmask
              rw [nI_1]
            · rw [show nI (3 * u) + 2 = nI (3 * u + 2) from nI_add _ 2, p_at (by omega) (by decide), up_d (by omega), h2, b2]
          · rw [up_d (by omega), up_d (by omega), up_d (by omega), up_d (by omega), up_d (by omega), up_d (by omega)]
            exact hT.2.2 u (by omega)
        · rw [up_d (by omega), up_d (by omega), up_d (by omega)]
          exact h2 j
      · rw [if_neg (nI_nlt (by omega) (by omega))]
        exact Or.inl ⟨_, rfl, Or.inr ⟨bad (by omega), σt, rfl⟩⟩
  · obtain rfl : t = R := by omega
    rw [if_neg (nI_nlt (by omega) (by omega))]
    exact Or.inl ⟨_, rfl, Or.inl ⟨hok, _, _, rfl, hT⟩⟩
theorem m_reads (hP : P ≤ 8) (hR : R ≤ 12) (hb : ∀ j, j < 3 * R → σ' 338 j = nI (b j) ∧ b j ≤ 255) (h3 : σ' 334 3 = nI P) : ∃ x, whl (fun s => F_M_told__30_b σ' (nI (3 * R)) s.1 s.2) FUEL (1, 0) = some x ∧ x.1 = (if okU b P R = true then 1 else 0) := by
  refine whl_inv (F := fun s => F_M_told__30_b σ' (nI (3 * R)) s.1 s.2) (fun t s => t ≤ R ∧ s = ((if okU b P t = true then 1 else 0), nI (3 * t))) _ (fun t s hI => ?_) R (fun s h => by have := h.1; omega) 0 R FUEL (1, 0) (by omega) (by unfold FUEL; omega) ⟨by omega, rfl⟩
  obtain ⟨ht, rfl⟩ := hI
  dsimp only
  unfold F_M_told__30_b
  by_cases c : t < R
  · rw [if_pos (nI_lt (by omega) (by omega))]
    cases hok : okU b P t with
    | false =>
      have : okU b P R = false := by
        cases hx : okU b P R with
        | false => rfl
        | true => rw [okU_m ht hx] at hok; cases hok
      rw [this]
      exact Or.inl ⟨_, rfl, rfl⟩
    | true =>
      obtain ⟨b0, c0⟩ := hb (3 * t) (by omega)
      obtain ⟨b1, c1⟩ := hb (3 * t + 1) (by omega)
      have okS : okU b P (t + 1) = decide (b (3 * t) ≤ b (3 * t + 1) ∧ b (3 * t + 1) < P) := by
        show (okU b P t && decide _) = _
        rw [hok, Bool.true_and]
      have e3 : nI (3 * t) + 3 = nI (3 * (t + 1)) := nI_add _ 3
      rw [if_pos rfl, if_neg (by decide), p_inb (by omega) (by decide), chk_t]
      simp only [bind_T]
      rw [nI_1, p_inb (by omega) (by decide), chk_t, p_cl (by omega), p_cl (by omega), b0, b1, e3, chk_t, h3]
      by_cases e1 : b (3 * t + 1) < b (3 * t)
      · rw [if_pos (nI_lt e1 (by omega))]
        exact Or.inr ⟨_, rfl, by omega, by rw [okS, decide_eq_false (by omega)]; rfl⟩
      · rw [if_neg (nI_nlt (by omega) (by omega))]
        by_cases e2 : b (3 * t + 1) < P
        · rw [if_pos (nI_lt e2 (by omega))]
          exact Or.inr ⟨_, rfl, by omega, by rw [okS, decide_eq_true ⟨by omega, e2⟩]; rfl⟩
        · rw [if_neg (nI_nlt (by omega) (by omega))]
          exact Or.inr ⟨_, rfl, by omega, by rw [okS, decide_eq_false (by omega)]; rfl⟩
  · obtain rfl : t = R := by omega
    rw [if_neg (nI_nlt (by omega) (by omega))]
    exact Or.inl ⟨_, rfl, rfl⟩
theorem m_reads0 (v1 : Int32) : whl (fun s => F_M_told__30_b σ' v1 s.1 s.2) FUEL (0, 0) = some (0, 0) := by
  refine whl_r (n := 19999) ?_
  unfold F_M_told__30_b
  dsimp only
  by_cases c : 0 < v1
  · rw [if_pos c, if_pos rfl]
  · rw [if_neg c]
/-- bits of a set in a row, counted -/
theorem m_cs {v1 v2 v3 v5 : Int32} {s t : Nat} (hP : P ≤ 8) (hs : s < 256) (hok : b (3 * t) ≤ b (3 * t + 1) ∧ b (3 * t + 1) < P) (hv : v5 = nI (3 * t)) (ht : 3 * t + 2 < 400) (hb : σ' 338 (3 * t + 1) = nI (b (3 * t + 1))) :
    whl (fun z => F_M_told__148_b σ' v1 v2 v3 (nI s) v5 z.1 z.2) FUEL (0, nI (b (3 * t))) = some (cs (nI s) (b (3 * t)) (b (3 * t + 1) + 1 - b (3 * t)), nI (b (3 * t) + (b (3 * t + 1) + 1 - b (3 * t)))) := by
  refine whl_n (F := fun z => F_M_told__148_b σ' v1 v2 v3 (nI s) v5 z.1 z.2) (fun k => (cs (nI s) (b (3 * t)) k, nI (b (3 * t) + k))) (b (3 * t + 1) + 1 - b (3 * t)) _ (by unfold FUEL; omega) (fun k hk => ?_) ?_
  · dsimp only
    unfold F_M_told__148_b
    rw [hv, bind_T, nI_1, p_inb (by omega) (by decide), chk_t, p_cl (by omega), hb, if_neg (nI_nlt (by omega) (by omega)), bind_T, bind_T, nI_1]
    rfl
  · dsimp only
    unfold F_M_told__148_b
    rw [hv, bind_T, nI_1, p_inb (by omega) (by decide), chk_t, p_cl (by omega), hb, if_pos (nI_lt (by omega) (by omega))]
/-- the rows held against a set -/
theorem m_rows {v2 v3 : Int32} {s : Nat} (hP : P ≤ 8) (hR : R ≤ 12) (hs : s < 256) (hok : okU b P R = true) (hb : ∀ j, j < 3 * R → σ' 338 j = nI (b j) ∧ b j ≤ 255) (h1 : σ' 344 s = 1) :
    ∃ x, whl (fun z => F_M_told__120_b (nI (3 * R)) v2 v3 (nI s) z.1 z.2) FUEL (0, σ') = some x ∧ x.2 344 s = (if fitA b (nI s) R = true then 1 else 0) ∧ ∀ q j, (q ≠ 344 ∨ j ≠ s) → x.2 q j = σ' q j := by
  refine whl_inv (F := fun z => F_M_told__120_b (nI (3 * R)) v2 v3 (nI s) z.1 z.2) (fun t z => t ≤ R ∧ ∃ σt, z = (nI (3 * t), σt) ∧ σt 344 s = (if fitA b (nI s) t = true then 1 else 0) ∧ ∀ q j, (q ≠ 344 ∨ j ≠ s) → σt q j = σ' q j) (fun x => x.2 344 s = (if fitA b (nI s) R = true then 1 else 0) ∧ ∀ q j, (q ≠ 344 ∨ j ≠ s) → x.2 q j = σ' q j) (fun t z hI => ?_) R (fun s h => by have := h.1; omega) 0 R FUEL (0, σ') (by omega) (by unfold FUEL; omega) ⟨by omega, σ', rfl, h1, fun _ _ _ => rfl⟩
  obtain ⟨ht, σt, rfl, hf, hq⟩ := hI
  dsimp only
  unfold F_M_told__120_b
  by_cases c : t < R
  · rw [if_pos (nI_lt (by omega) (by omega)), p_inb hs (by decide), chk_t, chk_t, p_cl (by omega), hf, if10]
    cases hft : fitA b (nI s) t with
    | false =>
      rw [if_neg (by decide)]
      refine Or.inl ⟨_, rfl, ?_, hq⟩
      show σt 344 s = _
      rw [hf, hft]
      have e := fit_AF b (nI s) (R - t) t
      rw [hft, Bool.false_and, show t + (R - t) = R by omega] at e
      rw [← e]
    | true =>
      obtain ⟨b0, c0⟩ := hb (3 * t) (by omega)
      obtain ⟨b1, c1⟩ := hb (3 * t + 1) (by omega)
      obtain ⟨b2, c2⟩ := hb (3 * t + 2) (by omega)
      have ok2 := okU_at c hok
      have hA : fitA b (nI s) (t + 1) = rfit b (nI s) t := by
        show (fitA b (nI s) t && rfit b (nI s) t) = _
        rw [hft, Bool.true_and]
      have e3 : nI (3 * t) + 3 = nI (3 * (t + 1)) := nI_add _ 3
      have e2 : nI (3 * t) + 2 = nI (3 * t + 2) := nI_add _ 2
      rw [if_pos rfl, p_inb (by omega) (by decide), chk_t, bind_T, p_cl (by omega), hq 338 _ (by omega), b0, m_cs (σ' := σt) hP hs ok2 rfl (by omega) (by rw [hq 338 _ (by omega)]; exact b1), ob_s]
      simp only [bind_T]
      rw [e2, e3, p_inb (by omega) (by decide), chk_t, p_cl (by omega), hq 338 _ (by omega), b2]
      by_cases e : cs (nI s) (b (3 * t)) (b (3 * t + 1) + 1 - b (3 * t)) = nI (b (3 * t + 2))
      · rw [if_pos e]
        refine Or.inr ⟨_, rfl, by omega, _, rfl, ?_, fun q j h => ?_⟩
        · rw [up_s, hA]
          unfold rfit
          rw [decide_eq_true e]
          rfl
        · rw [up_d (by omega)]; exact hq q j h
      · rw [if_neg e]
        refine Or.inr ⟨_, rfl, by omega, _, rfl, ?_, fun q j h => ?_⟩
        · rw [up_s, hA]
          unfold rfit
          rw [decide_eq_false e]
          rfl
        · rw [up_d (by omega)]; exact hq q j h
  · obtain rfl : t = R := by omega
    rw [if_neg (nI_nlt (by omega) (by omega))]
    exact Or.inl ⟨_, rfl, hf, hq⟩
def cntA (b : Nat → Nat) (R : Nat) : Nat → Nat
  | 0 => 0
  | s + 1 => cntA b R s + (if fitA b (nI s) R = true then 1 else 0)
def cntW (b : Nat → Nat) (R p : Nat) : Nat → Nat
  | 0 => 0
  | s + 1 => cntW b R p s + (if (fitA b (nI s) R && bt (nI s) p) = true then 1 else 0)
theorem cntA_le (s : Nat) : cntA b R s ≤ s := by
  induction s with
  | zero => exact Nat.le_refl _
  | succ s ih =>
    show cntA b R s + (if fitA b (nI s) R = true then 1 else 0) ≤ s + 1
    by_cases c : fitA b (nI s) R = true
    · rw [if_pos c]; omega
    · rw [if_neg c]; omega
theorem cntW_le (p s : Nat) : cntW b R p s ≤ cntA b R s := by
  induction s with
  | zero => exact Nat.le_refl _
  | succ s ih =>
    show cntW b R p s + (if (fitA b (nI s) R && bt (nI s) p) = true then 1 else 0) ≤ cntA b R s + (if fitA b (nI s) R = true then 1 else 0)
    cases fitA b (nI s) R
    · exact ih
    · cases bt (nI s) p
      · show cntW b R p s + 0 ≤ cntA b R s + 1
        omega
      · show cntW b R p s + 1 ≤ cntA b R s + 1
        omega
theorem pow_P (hP : P ≤ 8) : 2 ^ P ≤ 256 := Nat.pow_le_pow_right (n := 2) (by decide) hP
/-- all sets held against the rows -/
theorem m_sets (hP : P ≤ 8) (hR : R ≤ 12) (v2 : Int32) (hok : okU b P R = true) (hb : ∀ j, j < 3 * R → σ' 338 j = nI (b j) ∧ b j ≤ 255) (h3 : σ' 334 3 = nI P) :
    ∃ x, whl (fun z => F_M_told__96_b (nI (3 * R)) v2 z.1 z.2.1 z.2.2) FUEL (0, 0, σ') = some x ∧ x.1 = nI (cntA b R (2 ^ P)) ∧ (∀ u, u < 2 ^ P → x.2.2 344 u = (if fitA b (nI u) R = true then 1 else 0)) ∧ ∀ q j, q ≠ 344 → x.2.2 q j = σ' q j := by
  have hp2 := pow_P hP
  refine whl_inv (F := fun z => F_M_told__96_b (nI (3 * R)) v2 z.1 z.2.1 z.2.2) (fun s z => s ≤ 2 ^ P ∧ ∃ σs, z = (nI (cntA b R s), nI s, σs) ∧ (∀ u, u < s → σs 344 u = (if fitA b (nI u) R = true then 1 else 0)) ∧ ∀ q j, q ≠ 344 → σs q j = σ' q j) (fun x => x.1 = nI (cntA b R (2 ^ P)) ∧ (∀ u, u < 2 ^ P → x.2.2 344 u = (if fitA b (nI u) R = true then 1 else 0)) ∧ ∀ q j, q ≠ 344 → x.2.2 q j = σ' q j) (fun s z hI => ?_) (2 ^ P) (fun s h => by have := h.1; omega) 0 (2 ^ P) FUEL (0, 0, σ') (by omega) (by unfold FUEL; omega) ⟨Nat.zero_le _, σ', rfl, fun u hu => by omega, fun _ _ _ => rfl⟩
  obtain ⟨hs, σs, rfl, hf, hq⟩ := hI
  dsimp only
  unfold F_M_told__96_b
  rw [hq 334 3 (by omega), h3, shl_P P (by omega)]
  by_cases c : s < 2 ^ P
  · obtain ⟨x, e1, e2, e3⟩ := m_rows (σ' := up σs 344 s 1) (v2 := v2) (v3 := nI (cntA b R s)) hP hR (by omega) hok (fun j hj => by rw [up_d (by omega), hq 338 j (by omega)]; exact hb j hj) up_s
    have hA : cntA b R (s + 1) = cntA b R s + (if fitA b (nI s) R = true then 1 else 0) := rfl
    have fl : ∀ u, u < s + 1 → x.2 344 u = (if fitA b (nI u) R = true then 1 else 0) := fun u hu => by
      by_cases eu : u = s
      · subst eu; exact e2
      · rw [e3 344 u (by omega), up_d (by omega)]; exact hf u (by omega)
    have fr : ∀ q j, q ≠ 344 → x.2 q j = σ' q j := fun q j h => by rw [e3 q j (by omega), up_d (by omega)]; exact hq q j h
    rw [if_pos (nI_lt c (by omega)), p_inb (by omega) (by decide), chk_t, bind_T, p_cl (by omega), e1, ob_s, chk_t, e2, if10]
    simp only [bind_T]
    cases hft : fitA b (nI s) R with
    | false =>
      rw [if_neg (by decide), nI_1, Int32.add_zero]
      refine Or.inr ⟨_, rfl, by omega, _, ?_, fl, fr⟩
      rw [hA, hft]
      rfl
    | true =>
      rw [if_pos rfl, nI_1, nI_1]
      refine Or.inr ⟨_, rfl, by omega, _, ?_, fl, fr⟩
      rw [hA, hft]
      rfl
  · obtain rfl : s = 2 ^ P := by omega
    rw [if_neg (nI_nlt (by omega) (by omega))]
    exact Or.inl ⟨_, rfl, rfl, hf, hq⟩
theorem m_with (hP : P ≤ 8) {p : Nat} (hp : p < P) (h3 : σ' 334 3 = nI P) (hf : ∀ u, u < 2 ^ P → σ' 344 u = (if fitA b (nI u) R = true then 1 else 0)) : F_M_with σ' (nI p) = some (nI (cntW b R p (2 ^ P))) := by
  have hp2 := pow_P hP
  unfold F_M_with
  rw [h3, shl_P P (by omega), p_cnt0 (by omega)]
  obtain ⟨s1, e1, e2⟩ := forSO_inv (F := fun i s => F_M_with_4_b σ' (nI p) i s) (2 ^ P) 0 (fun k s => s = nI (cntW b R p k)) 0 (fun k s hk hs => by
    subst hs
    refine ⟨_, ?_, rfl⟩
    rw [Nat.zero_add]
    unfold F_M_with_4_b
    rw [p_inb (by omega) (by decide), chk_t, p_cl (by omega), hf k hk, if10, p_isOf (by omega), if10]
    simp only [bind_T]
    rw [Int32.add_zero, nI_1]
    show _ = some (nI (cntW b R p k + (if (fitA b (nI k) R && bt (nI k) p) = true then 1 else 0)))
    cases fitA b (nI k) R <;> cases bt (nI k) p <;> rfl) nI_0.symm
  rw [nI_0] at e1
  rw [e1, ob_s, e2]
/-- the class: a set held against its rows -/
theorem c_fits (hP : P ≤ 8) (hR : R ≤ 12) (hok : okU b P R = true) (hT : TS b P σ R) {s : Nat} (hs : s < 256) : F_Told_fits σ (nI s) = if fitA b (nI s) R = true then 1 else 0 := by
  have key : ∀ d lo, lo + d = R → sumE (forG (fun i (_ : Unit) => F_Told_fits_2_b σ (nI s) i) d (nI lo) ()) (fun _ => (1 : Int32)) (fun r => r) = if fitF b (nI s) d lo = true then 1 else 0 := by
    intro d
    induction d with
    | zero => intro lo _; rfl
    | succ d ih =>
      intro lo hlo
      obtain ⟨e1, e2⟩ := hT.2.2 lo (by omega)
      have ok2 := okU_at (t := lo) (by omega) hok
      have e4 : F_Told_fits_2_b σ (nI s) (nI lo) = if rfit b (nI s) lo = true then .inl () else .inr 0 := by
        unfold F_Told_fits_2_b rfit
        rw [p_at (by omega) (by decide), e1, p_at (by omega) (by decide), e2]
        have e5 : F_Int_bitCount_0f7a4 σ (nI s &&& tmask (b (3 * lo)) (b (3 * lo + 1))) = cs (nI s) (b (3 * lo)) (b (3 * lo + 1) + 1 - b (3 * lo)) := mask_cnt s hs _ (by omega) _ (by omega) ok2.1
        rw [e5]
        by_cases e : cs (nI s) (b (3 * lo)) (b (3 * lo + 1) + 1 - b (3 * lo)) = nI (b (3 * lo + 2))
        · rw [if_pos e, decide_eq_true e]; rfl
        · rw [if_neg e, decide_eq_false e]; rfl
      show sumE (contG (F_Told_fits_2_b σ (nI s) (nI lo)) fun s' => forG _ d (nI lo + 1) s') _ _ = if (rfit b (nI s) lo && fitF b (nI s) d (lo + 1)) = true then 1 else 0
      rw [e4, nI_1]
      cases rfit b (nI s) lo with
      | false => rfl
      | true =>
        rw [Bool.true_and]
        exact ih (lo + 1) (by omega)
  unfold F_Told_fits
  rw [hT.1, p_cnt0 (by omega), bind_T]
  have e := key R 0 (by omega)
  rw [nI_0] at e
  rw [e]
  have e2 := fit_AF b (nI s) R 0
  rw [Nat.zero_add] at e2
  rw [← e2]
  rfl
theorem c_members (hP : P ≤ 8) (h4 : σ 122 4 = nI P) {s : Nat} : ∃ σ1, F_Told_addMembers σ (nI s) = some σ1 ∧ (∀ p, p < P → σ1 128 p = (if bt (nI s) p = true then σ 128 p + 1 else σ 128 p)) ∧ ∀ q j, q ≠ 128 → σ1 q j = σ q j := by
  obtain ⟨x, e1, e2⟩ := whl_inv (F := fun z => F_Told_addMembers_2_b (nI s) z.1 z.2) (fun p z => p ≤ P ∧ ∃ σp, z = (nI p, σp) ∧ (∀ u, u < p → σp 128 u = (if bt (nI s) u = true then σ 128 u + 1 else σ 128 u)) ∧ (∀ u, p ≤ u → σp 128 u = σ 128 u) ∧ ∀ q j, q ≠ 128 → σp q j = σ q j) (fun x => (∀ u, u < P → x.2 128 u = (if bt (nI s) u = true then σ 128 u + 1 else σ 128 u)) ∧ ∀ q j, q ≠ 128 → x.2 q j = σ q j) (fun p z hI => by
    obtain ⟨hp, σp, rfl, h1, h2, h3⟩ := hI
    dsimp only
    unfold F_Told_addMembers_2_b
    rw [h3 122 4 (by omega), h4]
    by_cases c : p < P
    · rw [if_pos (nI_lt c (by omega)), p_con (by omega), if10]
      simp only [bind_T]
      rw [nI_1]
      cases hb : bt (nI s) p with
      | false =>
        rw [if_neg (by decide)]
        refine Or.inr ⟨_, rfl, by omega, σp, rfl, fun u hu => ?_, fun u hu => h2 u (by omega), h3⟩
        by_cases eu : u = p
        · subst eu
          rw [h2 u (by omega), hb]
          rfl
        · exact h1 u (by omega)
      | true =>
        rw [if_pos rfl, p_at (by omega) (by decide), p_put (by omega) (by decide)]
        refine Or.inr ⟨_, rfl, by omega, _, rfl, fun u hu => ?_, fun u hu => ?_, fun q j hq => ?_⟩
        · by_cases eu : u = p
          · subst eu
            rw [up_s, h2 u (by omega), hb]
            rfl
          · rw [up_d (by omega)]; exact h1 u (by omega)
        · rw [up_d (by omega)]; exact h2 u (by omega)
        · rw [up_d (by omega)]; exact h3 q j hq
    · obtain rfl : p = P := by omega
      rw [if_neg (nI_nlt (by omega) (by omega))]
      exact Or.inl ⟨_, rfl, h1, h3⟩) P (fun s h => by have := h.1; omega) 0 P FUEL (0, σ) (by omega) (by unfold FUEL; omega) ⟨by omega, σ, rfl, fun u hu => by omega, fun _ _ => rfl, fun _ _ _ => rfl⟩
  unfold F_Told_addMembers
  rw [e1]
  exact ⟨_, rfl, e2.1, e2.2⟩
theorem c_fitting (hP : P ≤ 8) (hR : R ≤ 12) (hok : okU b P R = true) (hT : TS b P σ R) : ∃ σ1, F_Told_fitting σ = some (σ1, nI (cntA b R (2 ^ P))) ∧ (∀ p, p < P → σ1 128 p = nI (cntW b R p (2 ^ P))) ∧ ∀ q j, q ≠ 128 → σ1 q j = σ q j := by
  have hp2 := pow_P hP
  have z1 : (∀ p, p < 8 → F_Row_putAll σ 127 8 0 128 p = 0) ∧ ∀ q j, q ≠ 128 → F_Row_putAll σ 127 8 0 q j = σ q j := by
    unfold F_Row_putAll
    rw [bind_T, show cnt 0 (Int32.ofNat 8) = 8 by decide]
    have e := forS_itr (F := fun i s => F_Row_putAll_2_b 127 8 0 i s) 8 0 σ
    rw [nI_0] at e
    rw [e]
    have e2 := itr_inv (f := fun k s => (fun i s => F_Row_putAll_2_b 127 8 0 i s) (nI (0 + k)) s) (fun k s => (∀ p, p < k → s 128 p = 0) ∧ ∀ q j, q ≠ 128 → s q j = σ q j) (s := σ) ⟨fun p hp => by omega, fun _ _ _ => rfl⟩ (n := 8) (fun k hk s hs => by
      rw [Nat.zero_add]
      show (∀ p, p < k + 1 → F_Row_putAll_2_b 127 8 0 (nI k) s 128 p = 0) ∧ ∀ q j, q ≠ 128 → F_Row_putAll_2_b 127 8 0 (nI k) s q j = σ q j
      unfold F_Row_putAll_2_b
      rw [bind_T, p_cl (by omega)]
      refine ⟨fun p hp => ?_, fun q j hq => ?_⟩
      · by_cases ep : p = k
        · subst ep; exact up_s
        · rw [up_d (by omega)]; exact hs.1 p (by omega)
      · rw [up_d (by omega)]; exact hs.2 q j hq)
    exact e2
  obtain ⟨x, e1, e2, e3, e4⟩ := whl_inv (F := fun z => F_Told_fitting_12_b z.1 z.2.1 z.2.2) (fun s z => s ≤ 2 ^ P ∧ ∃ σs, z = (nI (cntA b R s), nI s, σs) ∧ (∀ p, p < P → σs 128 p = nI (cntW b R p s)) ∧ ∀ q j, q ≠ 128 → σs q j = σ q j) (fun x => x.1 = nI (cntA b R (2 ^ P)) ∧ (∀ p, p < P → x.2.2 128 p = nI (cntW b R p (2 ^ P))) ∧ ∀ q j, q ≠ 128 → x.2.2 q j = σ q j) (fun s z hI => by
    obtain ⟨hs, σs, rfl, h1, h3⟩ := hI
    dsimp only
    unfold F_Told_fitting_12_b
    rw [h3 122 4 (by omega), hT.2.1, shl_P P (by omega)]
    by_cases c : s < 2 ^ P
    · have hTs : TS b P σs R := ⟨by rw [h3 122 3 (by omega)]; exact hT.1, by rw [h3 122 4 (by omega)]; exact hT.2.1, fun u hu => by rw [h3 124 u (by omega), h3 126 u (by omega)]; exact hT.2.2 u hu⟩
      rw [if_pos (nI_lt c (by omega)), c_fits hP hR hok hTs (by omega), if10]
      simp only [bind_T]
      rw [nI_1, nI_1]
      have hA : cntA b R (s + 1) = cntA b R s + (if fitA b (nI s) R = true then 1 else 0) := rfl
      have hW : ∀ p, cntW b R p (s + 1) = cntW b R p s + (if (fitA b (nI s) R && bt (nI s) p) = true then 1 else 0) := fun _ => rfl
      cases hft : fitA b (nI s) R with
      | false =>
        rw [if_neg (by decide)]
        refine Or.inr ⟨_, rfl, by omega, σs, ?_, fun p hp => ?_, h3⟩
        · rw [hA, hft]; rfl
        · rw [hW, hft]; exact h1 p hp
      | true =>
        obtain ⟨σ2, f1, f2, f3⟩ := c_members hP hTs.2.1 (s := s)
        rw [if_pos rfl, f1, ob_s]
        refine Or.inr ⟨_, rfl, by omega, σ2, ?_, fun p hp => ?_, fun q j hq => (f3 q j hq).trans (h3 q j hq)⟩
        · rw [hA, hft]; rfl
        · rw [hW, hft, f2 p hp, h1 p hp, Bool.true_and]
          cases bt (nI s) p
          · rfl
          · rw [if_pos rfl, if_pos rfl, nI_1]
    · obtain rfl : s = 2 ^ P := by omega
      rw [if_neg (nI_nlt (by omega) (by omega))]
      exact Or.inl ⟨_, rfl, rfl, h1, h3⟩) (2 ^ P) (fun s h => by have := h.1; omega) 0 (2 ^ P) FUEL (0, 0, F_Row_putAll σ 127 8 0) (by omega) (by unfold FUEL; omega) ⟨Nat.zero_le _, _, rfl, fun p hp => by rw [z1.1 p (by omega)]; exact nI_0.symm, z1.2⟩
  unfold F_Told_fitting
  rw [bind_T, e1, ob_s, e2]
  exact ⟨_, rfl, e3, e4⟩
end TOLD

-- PURE STAGE: two loops side by side
theorem ob_assoc {A B C : Type} (x : Option A) (f : A → Option B) (g : B → Option C) : obind (obind x f) g = obind x fun a => obind (f a) g := by cases x <;> rfl
theorem whl_pair {S S' X X' : Type} {F : S → Option (S ⊕ X)} {F' : S' → Option (S' ⊕ X')} (I : Nat → S → S' → Prop) (Q : X → X' → Prop) (M : Nat)
    (he : ∀ k s s', k ≤ M → I k s s' → (∃ x x', F s = some (.inr x) ∧ F' s' = some (.inr x') ∧ Q x x') ∨ (k < M ∧ ∃ s1 s1', F s = some (.inl s1) ∧ F' s' = some (.inl s1') ∧ I (k + 1) s1 s1')) :
    ∀ (d k fuel : Nat) (s : S) (s' : S'), d + k = M → d < fuel → I k s s' → ∃ x x', whl F fuel s = some x ∧ whl F' fuel s' = some x' ∧ Q x x' := by
  intro d
  induction d with
  | zero =>
    intro k fuel s s' hd hf h
    obtain ⟨f2, rfl⟩ : ∃ f2, fuel = f2 + 1 := ⟨fuel - 1, by omega⟩
    rcases he k s s' (by omega) h with ⟨x, x', h1, h2, h3⟩ | ⟨h0, -⟩
    · exact ⟨x, x', by show obind (F s) _ = _; rw [h1]; rfl, by show obind (F' s') _ = _; rw [h2]; rfl, h3⟩
    · omega
  | succ d ih =>
    intro k fuel s s' hd hf h
    obtain ⟨f2, rfl⟩ : ∃ f2, fuel = f2 + 1 := ⟨fuel - 1, by omega⟩
    rcases he k s s' (by omega) h with ⟨x, x', h1, h2, h3⟩ | ⟨-, s1, s1', h1, h2, h3⟩
    · exact ⟨x, x', by show obind (F s) _ = _; rw [h1]; rfl, by show obind (F' s') _ = _; rw [h2]; rfl, h3⟩
    · obtain ⟨x, x', h4, h5, h6⟩ := ih (k + 1) f2 s1 s1' (by omega) (by omega) h3
      exact ⟨x, x', by show obind (F s) _ = _; rw [h1]; exact h4, by show obind (F' s') _ = _; rw [h2]; exact h5, h6⟩
theorem forSO_pair {S S' : Type} {F : Int32 → S → Option S} {F' : Int32 → S' → Option S'} : ∀ (n lo : Nat) (I : Nat → S → S' → Prop) (s : S) (s' : S'),
    (∀ k s s', k < n → I k s s' → ∃ s1 s1', F (nI (lo + k)) s = some s1 ∧ F' (nI (lo + k)) s' = some s1' ∧ I (k + 1) s1 s1') → I 0 s s' → ∃ s1 s1', forSO F n (nI lo) s = some s1 ∧ forSO F' n (nI lo) s' = some s1' ∧ I n s1 s1' := by
  intro n
  induction n with
  | zero => intro lo I s s' _ h; exact ⟨s, s', rfl, rfl, h⟩
  | succ n ih =>
    intro lo I s s' he h
    obtain ⟨s1, s1', h1, h2, h3⟩ := he 0 s s' (by omega) h
    rw [Nat.add_zero] at h1 h2
    obtain ⟨s2, s2', h4, h5, h6⟩ := ih (lo + 1) (fun k => I (k + 1)) s1 s1' (fun k s s' hk hI => by
      obtain ⟨a, b, c1, c2, c3⟩ := he (k + 1) s s' (by omega) hI
      exact ⟨a, b, by rw [show lo + 1 + k = lo + (k + 1) by omega]; exact c1, by rw [show lo + 1 + k = lo + (k + 1) by omega]; exact c2, c3⟩) h3
    exact ⟨s2, s2', by show obind (F (nI lo) s) _ = _; rw [h1, ob_s, nI_1]; exact h4, by show obind (F' (nI lo) s') _ = _; rw [h2, ob_s, nI_1]; exact h5, h6⟩
theorem forSO_inv {S : Type} {F : Int32 → S → Option S} : ∀ (n lo : Nat) (I : Nat → S → Prop) (s : S),
    (∀ k s, k < n → I k s → ∃ s1, F (nI (lo + k)) s = some s1 ∧ I (k + 1) s1) → I 0 s → ∃ s1, forSO F n (nI lo) s = some s1 ∧ I n s1 := by
  intro n
  induction n with
  | zero => intro lo I s _ h; exact ⟨s, rfl, h⟩
  | succ n ih =>
    intro lo I s he h
    obtain ⟨s1, h1, h3⟩ := he 0 s (by omega) h
    rw [Nat.add_zero] at h1
    obtain ⟨s2, h4, h6⟩ := ih (lo + 1) (fun k => I (k + 1)) s1 (fun k s hk hI => by
      obtain ⟨a, c1, c3⟩ := he (k + 1) s (by omega) hI
      exact ⟨a, by rw [show lo + 1 + k = lo + (k + 1) by omega]; exact c1, c3⟩) h3
    exact ⟨s2, by show obind (F (nI lo) s) _ = _; rw [h1, ob_s, nI_1]; exact h4, h6⟩
-- a town's rows written
theorem t_putW {σ : Mem} {t p : Nat} {v : Int32} (h : p < 8) : F_Row_put σ (t + 1) 8 (nI p) v = up σ (t + 2) p v := p_put h (by decide)
theorem t_putA {σ : Mem} {t p : Nat} {v : Int32} (h : p < 8) : F_Row_put σ (t + 3) 8 (nI p) v = up σ (t + 4) p v := p_put h (by decide)
theorem t_putR {σ : Mem} {t p : Nat} {v : Int32} (h : p < 8) : F_Row_put σ (t + 5) 8 (nI p) v = up σ (t + 6) p v := p_put h (by decide)
theorem t_putL {σ : Mem} {t p : Nat} {v : Int32} (h : p < 64) : F_Row_put σ (t + 7) 64 (nI p) v = up σ (t + 8) p v := p_put h (by decide)
theorem t_putB {σ : Mem} {t p : Nat} {v : Int32} (h : p < 40) : F_Row_put σ (t + 9) 40 (nI p) v = up σ (t + 10) p v := p_put h (by decide)
theorem t_putH {σ : Mem} {t p : Nat} {v : Int32} (h : p < 20) : F_Row_put σ (t + 11) 20 (nI p) v = up σ (t + 12) p v := p_put h (by decide)
theorem t_putM {σ : Mem} {t p : Nat} {v : Int32} (h : p < 20) : F_Row_put σ (t + 13) 20 (nI p) v = up σ (t + 14) p v := p_put h (by decide)
theorem t_putG {σ : Mem} {t p : Nat} {v : Int32} (h : p < 240) : F_Row_put σ (t + 15) 240 (nI p) v = up σ (t + 16) p v := p_put h (by decide)
theorem nI_min {a n : Nat} (ha : a < 6000) (hn : n < 6000) : (if nI a < nI n then nI a else nI n) = nI (min a n) := by
  by_cases h : a < n
  · rw [if_pos (nI_lt h (by omega)), Nat.min_eq_left (by omega)]
  · rw [if_neg (nI_nlt (by omega) (by omega)), Nat.min_eq_right (by omega)]
theorem nI_max {a n : Nat} (ha : a < 6000) (hn : n < 6000) : (if nI a < nI n then nI n else nI a) = nI (max a n) := by
  by_cases h : a < n
  · rw [if_pos (nI_lt h (by omega)), Nat.max_eq_right (by omega)]
  · rw [if_neg (nI_nlt (by omega) (by omega)), Nat.max_eq_left (by omega)]
theorem t_take {σ : Mem} {t p n a : Nat} (hp : p < 8) (hw : σ (t + 2) p = nI n) (hn : n ≤ 999) (ha : a ≤ 999) : F_Town_take σ t (nI p) (nI a) = (up σ (t + 2) p (nI (n - min a n)), nI (min a n)) := by
  unfold F_Town_take
  rw [t_wealth hp, hw, nI_min (by omega) (by omega), bind_T, pk_sub (by omega), t_putW hp, bind_T]
theorem t_give {σ : Mem} {t p n a : Nat} (hp : p < 8) (hw : σ (t + 2) p = nI n) (hn : n ≤ 999) (ha : a ≤ 999) : F_Town_give σ t (nI p) (nI a) = up σ (t + 2) p (nI (min (n + a) 999)) := by
  unfold F_Town_give
  rw [t_wealth hp, hw, nI_add, t_putW hp, bind_T]
  congr 1
  exact nI_min (a := n + a) (n := 999) (by omega) (by omega)
theorem t_short {σ : Mem} {t p n a : Nat} (hp : p < 8) (hw : σ (t + 2) p = nI n) (hn : n ≤ 999) (ha : a ≤ 999) : F_Town_ruinIfShort σ t (nI p) (nI a) = if n < a then up σ t 9 (σ t 9 ||| ((1 : Int32) <<< (nI p &&& 31))) else σ := by
  unfold F_Town_ruinIfShort
  rw [t_wealth hp, hw]
  by_cases h : n < a
  · rw [if_pos (nI_lt h (by omega)), if_pos h, bind_T]
  · rw [if_neg (nI_nlt (by omega) (by omega)), if_neg h]
theorem m_gives {σ : Mem} {p n a : Nat} (hp : p < 100) (hw : σ 334 (14 + 4 * p) = nI n) (hn : n ≤ 999) (ha : a ≤ 999) : F_M_gives σ (nI p) (nI a) = some (up (if n < a then up σ 334 (17 + 4 * p) 1 else σ) 334 (14 + 4 * p) (nI (n - min a n)), nI (min a n)) := by
  unfold F_M_gives F_M_lesser
  rw [m_of0 hp, ob_s, hw, nI_min (by omega) (by omega), bind_T]
  by_cases h : n < a
  · rw [if_pos (nI_lt (by omega) (by omega)), m_has3 hp, ob_s, m_of0 hp, ob_s, up_d (by omega), hw, pk_sub (by omega), m_has0 hp, ob_s, if_pos h]
  · rw [if_neg (nI_nlt (by omega) (by omega)), ob_s, pk_sub (by omega), m_has0 hp, ob_s, if_neg h]
theorem m_gets {σ : Mem} {p n a : Nat} (hp : p < 100) (hw : σ 334 (14 + 4 * p) = nI n) (hn : n ≤ 999) (ha : a ≤ 999) : F_M_gets σ (nI p) (nI a) = some (up σ 334 (14 + 4 * p) (nI (min (n + a) 999))) := by
  unfold F_M_gets F_M_lesser
  rw [m_of0 hp, ob_s, hw, nI_add, m_has0 hp, ob_s]
  have e : (if (999 : Int32) < nI (n + a) then 999 else nI (n + a)) = nI (min 999 (n + a)) := nI_min (a := 999) (n := n + a) (by omega) (by omega)
  rw [e, Nat.min_comm]
section PAY
variable {σ σ' : Mem} {g : Nat → Int32} {t P M C : Nat}
theorem TR.w_at (h : TR (tv σ t) (σ' 334) g P M C) {p : Nat} (hp : p < P) : ∃ n, n ≤ 999 ∧ σ (t + 2) p = nI n ∧ σ' 334 (14 + 4 * p) = nI n := by
  obtain ⟨n, h1, h2⟩ := (h.c7 p hp).1
  exact ⟨n, h1, h2, (h.c6 p hp).1.trans h2⟩
theorem TR.m_at (h : TR (tv σ t) (σ' 334) g P M C) {k : Nat} (hk : k < M) : ∃ a b, a < P ∧ b < P ∧ a ≠ b ∧ σ (t + 10) (2 * k) = nI a ∧ σ (t + 10) (2 * k + 1) = nI b ∧ σ' 334 (110 + 5 * k) = nI a ∧ σ' 334 (111 + 5 * k) = nI b := by
  obtain ⟨a, b, h1, h2, h3, h4, h5⟩ := (h.c13 k hk).1
  obtain ⟨g1, g2, -⟩ := h.c12 k hk
  exact ⟨a, b, h1, h2, h3, h4, h5, g1.trans h4, g2.trans h5⟩
theorem TR.upW (h : TR (tv σ t) (σ' 334) g P M C) {p n : Nat} (hp : p < P) (hn : n ≤ 999) : TR (tv (up σ (t + 2) p (nI n)) t) ((up σ' 334 (14 + 4 * p) (nI n)) 334) g P M C := by
  rw [tv_up, mv_up]
  exact h.wealth hp hn
theorem TR.upR (h : TR (tv σ t) (σ' 334) g P M C) {p : Nat} (hp : p < P) : TR (tv (up σ t 9 (σ t 9 ||| ((1 : Int32) <<< (nI p &&& 31)))) t) ((up σ' 334 (17 + 4 * p) 1) 334) g P M C := by
  rw [tv_up0, mv_up]
  exact h.ruin hp
theorem TR.gives (h : TR (tv σ t) (σ' 334) g P M C) {p a : Nat} (hp : p < P) (ha : a ≤ 999) : ∃ σ1 σ1' k, k ≤ a ∧ F_Town_take (F_Town_ruinIfShort σ t (nI p) (nI a)) t (nI p) (nI a) = (σ1, nI k) ∧ F_M_gives σ' (nI p) (nI a) = some (σ1', nI k) ∧ TR (tv σ1 t) (σ1' 334) g P M C := by
  have hP := h.c1.1
  obtain ⟨n, h1, h2, h3⟩ := h.w_at hp
  rw [t_short (by omega) h2 h1 ha, m_gives (by omega) h3 h1 ha]
  by_cases hs : n < a
  · rw [if_pos hs, if_pos hs]
    have h4 := h.upR hp
    obtain ⟨n', g1, g2, g3⟩ := h4.w_at hp
    have e2 : up σ t 9 (σ t 9 ||| ((1 : Int32) <<< (nI p &&& 31))) (t + 2) p = nI n := by rw [up_d (by omega)]; exact h2
    rw [t_take (by omega) e2 h1 ha]
    exact ⟨_, _, _, Nat.min_le_left a n, rfl, rfl, h4.upW hp (by omega)⟩
  · rw [if_neg hs, if_neg hs, t_take (by omega) h2 h1 ha]
    exact ⟨_, _, _, Nat.min_le_left a n, rfl, rfl, h.upW hp (by omega)⟩
theorem TR.gets (h : TR (tv σ t) (σ' 334) g P M C) {p a : Nat} (hp : p < P) (ha : a ≤ 999) : ∃ σ1', F_M_gets σ' (nI p) (nI a) = some σ1' ∧ TR (tv (F_Town_give σ t (nI p) (nI a)) t) (σ1' 334) g P M C := by
  have hP := h.c1.1
  obtain ⟨n, h1, h2, h3⟩ := h.w_at hp
  rw [t_give (by omega) h2 h1 ha, m_gets (by omega) h3 h1 ha]
  exact ⟨_, rfl, h.upW hp (by omega)⟩
theorem short14 {a : Int32} {p : Int32} : F_Town_ruinIfShort σ t p a t 14 = σ t 14 := by
  unfold F_Town_ruinIfShort
  split
  · rw [bind_T, up_d (by omega)]
  · rfl
theorem TR.pays_ (h : TR (tv σ t) (σ' 334) g P M C) : ∃ n, n ≤ 99 ∧ σ t 14 = nI n ∧ σ' 334 7 = nI n := by
  obtain ⟨n, h1, h2⟩ := h.c5.2.2.2.1
  exact ⟨n, h1, h2, h.c4.2.2.2.1.trans h2⟩
theorem TR.payOut (h : TR (tv σ t) (σ' 334) g P M C) {p : Nat} (hp : p < P) : ∃ σ1 σ1' k, k ≤ 99 ∧ F_Town_payOut σ t (nI p) = (σ1, nI k) ∧ F_M_pays σ' (nI p) (σ' 334 7) = some (σ1', nI k) ∧ TR (tv σ1 t) (σ1' 334) g P M C := by
  have hP := h.c1.1
  obtain ⟨n, hn, e1, e2⟩ := h.pays_
  unfold F_Town_payOut F_M_pays
  rw [t_reins (by omega), m_of2 (by omega), (h.c6 p hp).2.2.1, ob_s, bind_T]
  show ∃ σ1 σ1' k, k ≤ 99 ∧ (if σ (t + 6) p = -1 then _ else _) = (σ1, nI k) ∧ (if σ (t + 6) p = -1 then _ else _) = some (σ1', nI k) ∧ _
  have plain : ∃ σ1 σ1' k, k ≤ 99 ∧ (bindT (F_Town_ruinIfShort σ t (nI p) (σ t 14)) fun z6 => bindT (F_Town_take z6 t (nI p) (z6 t 14)) fun z7 => (z7.1, z7.2)) = (σ1, nI k) ∧ (obind (F_M_gives σ' (nI p) (σ' 334 7)) fun z6 => some (z6.1, z6.2)) = some (σ1', nI k) ∧ TR (tv σ1 t) (σ1' 334) g P M C := by
    obtain ⟨σ1, σ1', k, h1, h2, h3, h4⟩ := h.gives hp (a := n) (by omega)
    refine ⟨σ1, σ1', k, by omega, ?_, ?_, h4⟩
    · rw [bind_T, short14, e1, h2, bind_T]
    · rw [e2, h3, ob_s]
  rcases (h.c7 p hp).2 with c1 | ⟨r, hr, hrp, c1⟩
  · have c2 : σ (t + 6) p = -1 := c1
    rw [if_pos c2, if_pos c2]
    exact plain
  · have c2 : σ (t + 6) p = nI r := c1
    rw [c2, if_neg (m1_ne r (by omega)), if_neg (m1_ne r (by omega)), c1, p_ruined (by omega), m_of3 (by omega), ob_s, (h.c6 r hr).2.2.2]
    show ∃ σ1 σ1' k, k ≤ 99 ∧ (if (if bt (σ t 9) r = true then (1 : Int32) else 0) = 0 then _ else _) = (σ1, nI k) ∧ (if (if bt (σ t 9) r = true then (1 : Int32) else 0) = 0 then _ else _) = some (σ1', nI k) ∧ _
    rw [if10, if10]
    cases bt (σ t 9) r with
    | true => exact plain
    | false =>
      rw [if_neg (show ¬ (false = true) by decide), if_neg (show ¬ (false = true) by decide)]
      have d2 : (nI n : Int32) / 2 = nI (n / 2) := pk_div (d := 2) (by omega) (by decide) (by decide)
      obtain ⟨σ1, σ1', k, h1, h2, h3, h4⟩ := h.gives hr (a := n / 2) (by omega)
      obtain ⟨σ2', h5, h6⟩ := h4.gets hp (a := k) (by omega)
      obtain ⟨n2, hn2, f1, f2⟩ := h6.pays_
      have f3 : F_Town_give σ1 t (nI p) (nI k) t 14 = σ t 14 := by
        have i1 : kM t 14 (σ t 14) (F_Town_ruinIfShort σ t (nI r) (nI (n / 2))) := short14
        have i2 := fr_F_Town_take _ t (nI r) (nI (n / 2)) (by omega) i1
        rw [h2] at i2
        exact fr_F_Town_give _ t (nI p) (nI k) (by omega) i2.1
      obtain ⟨σ3, σ3', k3, h7, h8, h9, h10⟩ := h6.gives hp (a := n) (by omega)
      refine ⟨σ3, σ3', k3, by omega, ?_, ?_, h10⟩
      · rw [bind_T, short14, e1, d2, h2, bind_T, bind_T, bind_T]
        dsimp only
        rw [short14, f3, e1, h8, bind_T]
      · rw [e2, d2, h3, ob_s]
        dsimp only
        rw [h5, ob_s, h9, ob_s]
theorem give_first {p a : Int32} {r k : Nat} (hr : r ≠ t + 2) : F_Town_give σ t p a r k = σ r k := fr_F_Town_give σ t p a (by omega) rfl
/-- a claim paid -/
theorem TR.claim (h : TR (tv σ t) (σ' 334) g P M C) {k : Nat} (hk : k < M) : ∃ σ1 σ1' s, s ≤ 792 ∧ F_Town_payClaim σ t (nI k) = some (σ1, nI s) ∧ F_M_claims σ' (nI k) = some (σ1', nI s) ∧ TR (tv σ1 t) (σ1' 334) g P M C := by
  have hP := h.c1.1
  have hM := h.c1.2.1
  unfold F_Town_payClaim F_M_claims
  obtain ⟨i1, i2⟩ := q_insK h hk
  rw [i1, i2, ob_s, bind_T]
  generalize insK (tv σ t) P k = X
  obtain ⟨x, x', h1, h2, s, σ1, σ1', hs, h3, h4, h5, h6, h7⟩ := whl_pair (F := fun s => F_Town_payClaim_11_b t (nI k) X s.1 s.2.1 s.2.2) (F' := fun s => F_M_claims_11_b (nI k) X s.1 s.2.1 s.2.2)
    (fun i s s' => ∃ S σ1 σ1', S ≤ 99 * i ∧ s = (nI S, nI i, σ1) ∧ s' = (nI S, nI i, σ1') ∧ TR (tv σ1 t) (σ1' 334) g P M C)
    (fun x x' => ∃ S σ1 σ1', S ≤ 792 ∧ x.1 = nI S ∧ x'.1 = nI S ∧ x.2.2 = σ1 ∧ x'.2.2 = σ1' ∧ TR (tv σ1 t) (σ1' 334) g P M C) P
    (fun i s s' hi hI => by
      obtain ⟨S, σ1, σ1', hS, rfl, rfl, hT⟩ := hI
      have t8 : σ1 t 8 = nI P := hT.c2.1
      have m3 : σ1' 334 3 = nI P := hT.c3.1
      by_cases hiP : i < P
      · refine Or.inr ⟨hiP, ?_⟩
        dsimp only
        unfold F_Town_payClaim_11_b F_M_claims_11_b
        rw [t8, m3, if_pos (nI_lt hiP (by omega)), if_pos (nI_lt hiP (by omega)), p_con (by omega), p_isOf (by omega), if10, if10]
        cases hb : bt X i with
        | false =>
          rw [if_neg (show ¬ (false = true) by decide), if_neg (show ¬ (false = true) by decide), bind_T, bind_T, nI_1]
          exact ⟨_, _, rfl, rfl, S, σ1, σ1', by omega, rfl, rfl, hT⟩
        | true =>
          rw [if_pos (show true = true from rfl), if_pos (show true = true from rfl)]
          obtain ⟨σ2, σ2', a, ha, f1, f2, f3⟩ := hT.payOut hiP
          rw [f1, f2, ob_s]
          simp only [bind_T]
          rw [nI_add, nI_1]
          exact ⟨_, _, rfl, rfl, S + a, σ2, σ2', by omega, rfl, rfl, f3⟩
      · obtain rfl : i = P := by omega
        refine Or.inl ?_
        dsimp only
        unfold F_Town_payClaim_11_b F_M_claims_11_b
        rw [t8, m3, if_neg (nI_nlt (by omega) (by omega)), if_neg (nI_nlt (by omega) (by omega))]
        exact ⟨_, _, rfl, rfl, S, σ1, σ1', by omega, rfl, rfl, rfl, rfl, hT⟩) P 0 FUEL (0, 0, σ) (0, 0, σ') rfl (by unfold FUEL; omega) ⟨0, σ, σ', by omega, rfl, rfl, h⟩
  rw [h1, h2, ob_s, ob_s, h3, h4, h5, h6]
  have d2 : (nI s : Int32) / 2 = nI (s / 2) := pk_div (d := 2) (by omega) (by decide) (by decide)
  obtain ⟨a, b, ha, hb, -, e1, -, e3, -⟩ := h7.m_at hk
  obtain ⟨σ2', g1, g2⟩ := h7.gets ha (a := s / 2) (by omega)
  obtain ⟨a2, b2, ha2, hb2, -, -, e2, -, e4⟩ := g2.m_at hk
  obtain ⟨σ3', g3, g4⟩ := g2.gets hb2 (a := s - s / 2) (by omega)
  refine ⟨_, σ3', s, hs, ?_, ?_, g4⟩
  · simp only [bind_T]
    rw [t_first (by omega), e1, d2, t_second (by omega), e2, pk_sub (by omega)]
  · rw [m_mat0 (by omega), ob_s, e3, d2, g1, ob_s, m_mat1 (by omega), ob_s, e4, pk_sub (by omega), g3, ob_s]
theorem TR.prem_ (h : TR (tv σ t) (σ' 334) g P M C) : ∃ n, n ≤ 20 ∧ σ t 13 = nI n ∧ σ' 334 6 = nI n := by
  obtain ⟨n, h1, h2⟩ := h.c5.2.2.1
  exact ⟨n, h1, h2, h.c4.2.2.1.trans h2⟩
/-- a premium -/
theorem TR.premOne (h : TR (tv σ t) (σ' 334) g P M C) {k i : Nat} (hk : k < M) (hi : i < P) : ∃ σ1 σ1',
    (bindT (F_Town_take σ t (F_Town_firstOf σ t (nI k)) (σ t 13)) fun z5 => bindT (F_Town_take z5.1 t (F_Town_secondOf z5.1 t (nI k)) ((z5.1 t 13) - z5.2)) fun z6 => F_Town_give z6.1 t (nI i) (z5.2 + z6.2)) = σ1 ∧
    (obind (F_M_ofMatch σ' (nI k) 0) fun z4 => obind (F_M_ofMatch σ' (nI k) 1) fun z5 => obind (F_M_of σ' z4 0) fun z6 => bindT (F_M_lesser σ' (σ' 334 6) z6) fun x7 => obind (F_M_of σ' z5 0) fun z8 => bindT (F_M_lesser σ' ((σ' 334 6) - x7) z8) fun x9 => obind (F_M_of σ' z4 0) fun z10 => obind (F_M_has σ' z4 0 (z10 - x7)) fun z11 => obind (F_M_of z11 z5 0) fun z12 => obind (F_M_has z11 z5 0 (z12 - x9)) fun z13 => F_M_gets z13 (nI i) (x7 + x9)) = some σ1' ∧ TR (tv σ1 t) (σ1' 334) g P M C := by
  have hP := h.c1.1
  have hM := h.c1.2.1
  obtain ⟨a, b, ha, hb, hab, e1, e2, e3, e4⟩ := h.m_at hk
  obtain ⟨n, hn, p1, p2⟩ := h.prem_
  obtain ⟨na, hna, wa, va⟩ := h.w_at ha
  obtain ⟨nb, hnb, wb, vb⟩ := h.w_at hb
  have h2 := h.upW ha (n := na - min n na) (by omega)
  have h3 := h2.upW hb (n := nb - min (n - min n na) nb) (by omega)
  obtain ⟨σ2', g1, g2⟩ := h3.gets hi (a := min n na + min (n - min n na) nb) (by omega)
  refine ⟨_, σ2', ?_, ?_, g2⟩
  · simp only [bind_T]
    rw [t_first (by omega), e1, p1, t_take (by omega) wa hna (by omega)]
    dsimp only
    rw [t_second (by omega), up_d (by omega), e2, up_d (by omega), p1, pk_sub (by omega), t_take (n := nb) (by omega) (by rw [up_d (by omega)]; exact wb) hnb (by omega)]
    dsimp only
    rw [nI_add]
  · unfold F_M_lesser
    rw [m_mat0 (by omega), ob_s, m_mat1 (by omega), ob_s, e3, e4, m_of0 (by omega), ob_s, va, p2, bind_T, nI_min (by omega) (by omega), m_of0 (by omega), ob_s, vb, pk_sub (by omega), bind_T, nI_min (by omega) (by omega), ob_s, pk_sub (by omega), m_has0 (by omega), ob_s, m_of0 (by omega), ob_s, up_d (by omega), vb, pk_sub (by omega), m_has0 (by omega), ob_s, nI_add]
    exact g1
theorem TR.premiums (h : TR (tv σ t) (σ' 334) g P M C) {k : Nat} (hk : k < M) : ∃ σ1 σ1', F_Town_payPremiums σ t (nI k) = some σ1 ∧ F_M_premiums σ' (nI k) = some σ1' ∧ TR (tv σ1 t) (σ1' 334) g P M C := by
  have hP := h.c1.1
  have hM := h.c1.2.1
  unfold F_Town_payPremiums F_M_premiums
  obtain ⟨i1, i2⟩ := q_insK h hk
  rw [i1, i2, ob_s, bind_T]
  generalize insK (tv σ t) P k = X
  obtain ⟨x, x', h1, h2, h3⟩ := whl_pair (F := fun s => F_Town_payPremiums_8_b t (nI k) X s.1 s.2) (F' := fun s => F_M_premiums_8_b (nI k) X s.1 s.2)
    (fun i s s' => ∃ σ1 σ1', s = (nI i, σ1) ∧ s' = (nI i, σ1') ∧ TR (tv σ1 t) (σ1' 334) g P M C)
    (fun x x' => TR (tv (x.2) t) ((x'.2) 334) g P M C) P
    (fun i s s' hi hI => by
      obtain ⟨σ1, σ1', rfl, rfl, hT⟩ := hI
      have t8 : σ1 t 8 = nI P := hT.c2.1
      have m3 : σ1' 334 3 = nI P := hT.c3.1
      by_cases hiP : i < P
      · refine Or.inr ⟨hiP, ?_⟩
        dsimp only
        unfold F_Town_payPremiums_8_b F_M_premiums_8_b
        rw [t8, m3, if_pos (nI_lt hiP (by omega)), if_pos (nI_lt hiP (by omega)), p_con (by omega), p_isOf (by omega), if10, if10]
        cases hb : bt X i with
        | false =>
          rw [if_neg (show ¬ (false = true) by decide), if_neg (show ¬ (false = true) by decide), bind_T, bind_T, nI_1]
          exact ⟨_, _, rfl, rfl, σ1, σ1', rfl, rfl, hT⟩
        | true =>
          rw [if_pos (show true = true from rfl), if_pos (show true = true from rfl)]
          obtain ⟨σ2, σ2', f1, f2, f3⟩ := hT.premOne hk hiP
          refine ⟨(nI (i + 1), σ2), (nI (i + 1), σ2'), ?_, ?_, σ2, σ2', rfl, rfl, f3⟩
          · rw [← f1, ← nI_1]
            rfl
          · have f9 := congrArg (fun o => obind o (fun z14 => (some (Sum.inl (nI i + 1, z14)) : Option ((Int32 × Mem) ⊕ (Int32 × Mem))))) f2
            simp only [ob_assoc, bind_T, ob_s] at f9 ⊢
            rw [← nI_1]
            exact f9
      · obtain rfl : i = P := by omega
        refine Or.inl ?_
        dsimp only
        unfold F_Town_payPremiums_8_b F_M_premiums_8_b
        rw [t8, m3, if_neg (nI_nlt (by omega) (by omega)), if_neg (nI_nlt (by omega) (by omega))]
        exact ⟨_, _, rfl, rfl, hT⟩) P 0 FUEL (0, σ) (0, σ') rfl (by unfold FUEL; omega) ⟨σ, σ', rfl, rfl, h⟩
  rw [h1, h2, ob_s, ob_s]
  exact ⟨_, _, rfl, rfl, h3⟩
end PAY

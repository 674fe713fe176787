-- PURE STAGE: who holds with some wealth holds with more
def DW (p : Nat) (σA σB : Mem) : Prop := (∀ q j, (q ≠ 97 ∨ j ≠ p) → σA q j = σB q j) ∧ ∃ a b, σA 97 p = nI a ∧ σB 97 p = nI b ∧ a ≤ b ∧ b ≤ 999
def RU (p : Nat) (σ : Mem) : Prop := bt (σ 95 9) p = true
theorem DW_up {p q j : Nat} {v : Int32} {σA σB : Mem} (h : DW p σA σB) (hq : q ≠ 97 ∨ j ≠ p) : DW p (up σA q j v) (up σB q j v) := by
  obtain ⟨h1, a, b, h2, h3, h4⟩ := h
  refine ⟨fun x y hx => ?_, a, b, by rw [up_d (by omega)]; exact h2, by rw [up_d (by omega)]; exact h3, h4⟩
  by_cases e : x = q ∧ y = j
  · rw [e.1, e.2, up_s, up_s]
  · rw [up_d (by omega), up_d (by omega)]; exact h1 x y hx
theorem DW_upp {p a b : Nat} {σA σB : Mem} (h : DW p σA σB) (hab : a ≤ b) (hb : b ≤ 999) : DW p (up σA 97 p (nI a)) (up σB 97 p (nI b)) :=
  ⟨fun x y hx => by rw [up_d (by omega), up_d (by omega)]; exact h.1 x y hx, a, b, up_s, up_s, hab, hb⟩
def gv (σ : Mem) (r : Nat) (x : Int32) : Mem × Int32 := F_Town_take (F_Town_ruinIfShort σ 95 (nI r) x) 95 (nI r) x
def WB (P : Nat) (σ : Mem) : Prop := ∀ r, r < P → ∃ w, w ≤ 999 ∧ σ 97 r = nI w
theorem gv_n {σ : Mem} {r n w : Nat} (hr : r < 8) (hn : n ≤ 999) (hw : w ≤ 999) (e : σ 97 r = nI w) : gv σ r (nI n) = (up (if n ≤ w then σ else up σ 95 9 (σ 95 9 ||| ((1 : Int32) <<< (nI r &&& 31)))) 97 r (nI (w - min n w)), nI (min n w)) := by
  unfold gv
  rw [t_short (t := 95) hr e hw hn]
  by_cases c : w < n
  · rw [if_pos c, if_neg (by omega), t_take (t := 95) (n := w) hr (by rw [up_d (by omega)]; exact e) hw hn]
  · rw [if_neg c, if_pos (by omega), t_take (t := 95) (n := w) hr e hw hn]
theorem bt_or1 {x : Int32} {p r : Nat} (hr : r < 32) (hp : p < 32) (h : bt x p = true) : bt (x ||| ((1 : Int32) <<< (nI r &&& 31))) p = true := by
  rw [b_put hr hp, h]; rfl
theorem gv_R {p r n w : Nat} {σ : Mem} (hr : r < 8) (hp : p < 8) (hn : n ≤ 999) (hw : w ≤ 999) (e : σ 97 r = nI w) (h : RU p σ) : RU p (gv σ r (nI n)).1 := by
  rw [gv_n hr hn hw e]
  unfold RU at *
  dsimp only
  rw [up_d (by omega)]
  by_cases c : n ≤ w
  · rw [if_pos c]; exact h
  · rw [if_neg c, up_s]; exact bt_or1 (by omega) (by omega) h
theorem gv_D {p r n w : Nat} {σA σB : Mem} (h : DW p σA σB) (hr : r < 8) (hp : p < 8) (hn : n ≤ 999) (hw : w ≤ 999) (e : σA 97 r = nI w) : RU p (gv σA r (nI n)).1 ∨ ((gv σA r (nI n)).2 = (gv σB r (nI n)).2 ∧ DW p (gv σA r (nI n)).1 (gv σB r (nI n)).1) := by
  by_cases c : r = p
  · subst c
    obtain ⟨h1, a, b, h2, h3, h4, h5⟩ := h
    rw [gv_n hr hn (by omega) h2, gv_n hr hn (by omega) h3]
    by_cases c2 : n ≤ a
    · rw [if_pos c2, if_pos (by omega), show min n a = n by omega, show min n b = n by omega]
      exact Or.inr ⟨rfl, DW_upp ⟨h1, a, b, h2, h3, h4, h5⟩ (by omega) (by omega)⟩
    · refine Or.inl ?_
      unfold RU
      rw [if_neg c2]
      dsimp only
      rw [up_d (by omega), up_s, b_put (by omega) (by omega)]
      simp
  · have e2 : σB 97 r = nI w := (h.1 97 r (Or.inr c)).symm.trans e
    rw [gv_n hr hn hw e, gv_n hr hn hw e2]
    refine Or.inr ⟨rfl, DW_up ?_ (Or.inr c)⟩
    by_cases c2 : n ≤ w
    · rw [if_pos c2, if_pos c2]; exact h
    · rw [if_neg c2, if_neg c2, h.1 95 9 (by omega)]
      exact DW_up h (by omega)
theorem give_D {p r k w : Nat} {σA σB : Mem} (h : DW p σA σB) (hr : r < 8) (hk : k ≤ 999) (hw : w ≤ 999) (e : σA 97 r = nI w) : DW p (F_Town_give σA 95 (nI r) (nI k)) (F_Town_give σB 95 (nI r) (nI k)) := by
  by_cases c : r = p
  · subst c
    obtain ⟨h1, a, b, h2, h3, h4, h5⟩ := h
    rw [t_give (t := 95) hr h2 (by omega) hk, t_give (t := 95) hr h3 (by omega) hk]
    exact DW_upp ⟨h1, a, b, h2, h3, h4, h5⟩ (by omega) (by omega)
  · have e2 : σB 97 r = nI w := (h.1 97 r (Or.inr c)).symm.trans e
    rw [t_give (t := 95) hr e hw hk, t_give (t := 95) hr e2 hw hk]
    exact DW_up h (Or.inr c)
theorem give_R {p : Nat} {σ : Mem} {v x : Int32} (h : RU p σ) : RU p (F_Town_give σ 95 v x) := by
  unfold RU at *
  rw [fr_F_Town_give σ 95 v x (q := 95) (j := 9) (by omega) rfl]
  exact h
theorem WB_gv {P r n w : Nat} {σ : Mem} (hP : P ≤ 8) (h : WB P σ) (hr : r < P) (hn : n ≤ 999) (hw : w ≤ 999) (e : σ 97 r = nI w) : WB P (gv σ r (nI n)).1 := by
  intro s hs
  rw [gv_n (by omega) hn hw e]
  dsimp only
  by_cases c : s = r
  · subst c; exact ⟨w - min n w, by omega, up_s⟩
  · rw [up_d (by omega)]
    obtain ⟨w2, h1, h2⟩ := h s hs
    refine ⟨w2, h1, ?_⟩
    by_cases c2 : n ≤ w
    · rw [if_pos c2]; exact h2
    · rw [if_neg c2, up_d (by omega)]; exact h2
theorem WB_give {P r k w : Nat} {σ : Mem} (hP : P ≤ 8) (h : WB P σ) (hr : r < P) (hk : k ≤ 999) (hw : w ≤ 999) (e : σ 97 r = nI w) : WB P (F_Town_give σ 95 (nI r) (nI k)) := by
  intro s hs
  rw [t_give (t := 95) (by omega) e hw hk]
  by_cases c : s = r
  · subst c; exact ⟨min (w + k) 999, by omega, up_s⟩
  · rw [up_d (by omega)]; exact h s hs
section SIM
variable {σ σ' : Mem} {g : Nat → Int32} {P M C i : Nat}
theorem TR.wb {s : Mem} (h : TR (tv σ 95) (s 334) g P M C) : WB P σ := fun r hr => by
  obtain ⟨n, h1, h2, -⟩ := h.w_at hr
  exact ⟨n, h1, h2⟩
/-- what one pays, by its parts -/
theorem pay_eq {s : Mem} (h : TR (tv σ 95) (s 334) g P M C) {i : Nat} (hi : i < P) : ∃ n, n ≤ 99 ∧ σ 95 14 = nI n ∧ ((F_Town_payOut σ 95 (nI i) = gv σ i (nI n) ∧ (σ 101 i = -1 ∨ ∃ r, r < P ∧ σ 101 i = nI r ∧ bt (σ 95 9) r = true)) ∨ ∃ r, r < P ∧ r ≠ i ∧ σ 101 i = nI r ∧ bt (σ 95 9) r = false ∧ F_Town_payOut σ 95 (nI i) = gv (F_Town_give (gv σ r (nI (n / 2))).1 95 (nI i) (gv σ r (nI (n / 2))).2) i (nI n)) := by
  have hP := h.c1.1
  obtain ⟨n, hn, e1, -⟩ := h.pays_
  refine ⟨n, hn, e1, ?_⟩
  have plain : (bindT (F_Town_ruinIfShort σ 95 (nI i) (σ 95 14)) fun z6 => bindT (F_Town_take z6 95 (nI i) (z6 95 14)) fun z7 => (z7.1, z7.2)) = gv σ i (nI n) := by
    rw [bind_T, short14, e1]
    rfl
  unfold F_Town_payOut
  rw [t_reins (by omega), bind_T]
  rcases (h.c7 i hi).2 with c1 | ⟨r, hr, hri, c1⟩
  · have c2 : σ (95 + 6) i = -1 := c1
    rw [if_pos c2]
    exact Or.inl ⟨plain, Or.inl c2⟩
  · have c2 : σ (95 + 6) i = nI r := c1
    rw [c2, if_neg (m1_ne r (by omega)), p_ruined (by omega), if10]
    cases hb : bt (σ 95 9) r with
    | true => rw [if_pos rfl]; exact Or.inl ⟨plain, Or.inr ⟨r, hr, rfl, hb⟩⟩
    | false =>
      rw [if_neg (show ¬ (false = true) by decide)]
      have d2 : (nI n : Int32) / 2 = nI (n / 2) := pk_div (d := 2) (by omega) (by decide) (by decide)
      refine Or.inr ⟨r, hr, hri, rfl, hb, ?_⟩
      have f3 : F_Town_give (gv σ r (nI (n / 2))).1 95 (nI i) (gv σ r (nI (n / 2))).2 95 14 = nI n := by
        have i1 : kM 95 14 (σ 95 14) (F_Town_ruinIfShort σ 95 (nI r) (nI (n / 2))) := short14
        have i2 := fr_F_Town_take _ 95 (nI r) (nI (n / 2)) (by omega) i1
        exact (fr_F_Town_give _ 95 (nI i) _ (by omega) i2.1).trans e1
      rw [bind_T, short14, e1, d2]
      show bindT (gv σ r (nI (n / 2))) _ = _
      rw [bind_T, bind_T, bind_T, short14, f3]
      rfl
theorem pay_R {s : Mem} {p : Nat} (h : TR (tv σ 95) (s 334) g P M C) (hp : p < P) {i : Nat} (hi : i < P) (hR : RU p σ) : RU p (F_Town_payOut σ 95 (nI i)).1 := by
  have hP := h.c1.1
  obtain ⟨n, hn, e1, e⟩ := pay_eq h hi
  obtain ⟨wi, w1, w2⟩ := h.wb i hi
  rcases e with ⟨e, -⟩ | ⟨r, hr, hri, -, -, e⟩
  · rw [e]; exact gv_R (by omega) (by omega) (by omega) w1 w2 hR
  · rw [e]
    obtain ⟨wr, w3, w4⟩ := h.wb r hr
    have hb := WB_gv hP h.wb hr (n := n / 2) (by omega) w3 w4
    obtain ⟨wi2, w5, w6⟩ := hb i hi
    have e2 : (gv σ r (nI (n / 2))).2 = nI (min (n / 2) wr) := by rw [gv_n (by omega) (by omega) w3 w4]
    rw [e2]
    have hb2 := WB_give hP hb hi (k := min (n / 2) wr) (by omega) w5 w6
    obtain ⟨wi3, w7, w8⟩ := hb2 i hi
    exact gv_R (by omega) (by omega) (by omega) w7 w8 (give_R (gv_R (by omega) (by omega) (by omega) w3 w4 hR))
theorem pay_D {σA σB sA sB : Mem} {p : Nat} (hA : TR (tv σA 95) (sA 334) g P M C) (hB : TR (tv σB 95) (sB 334) g P M C) (hp : p < P) {i : Nat} (hi : i < P) (hD : DW p σA σB) : RU p (F_Town_payOut σA 95 (nI i)).1 ∨ ((F_Town_payOut σA 95 (nI i)).2 = (F_Town_payOut σB 95 (nI i)).2 ∧ DW p (F_Town_payOut σA 95 (nI i)).1 (F_Town_payOut σB 95 (nI i)).1) := by
  have hP := hA.c1.1
  obtain ⟨n, hn, e1, e⟩ := pay_eq hA hi
  obtain ⟨n', hn', e1', e'⟩ := pay_eq hB hi
  have en : n' = n := nI_inj (by omega) (by omega) (e1'.symm.trans ((hD.1 95 14 (by omega)).symm.trans e1))
  subst en
  obtain ⟨wi, w1, w2⟩ := hA.wb i hi
  have d9 := hD.1 95 9 (by omega)
  have d101 := hD.1 101 i (by omega)
  rcases e with ⟨e, c⟩ | ⟨r, hr, hri, c, cb, e⟩
  · have eB : F_Town_payOut σB 95 (nI i) = gv σB i (nI n') := by
      rcases e' with ⟨e', -⟩ | ⟨r', hr', -, c', cb', -⟩
      · exact e'
      · exfalso
        rw [d101, d9] at c
        rcases c with c | ⟨r2, hr2, c, cb⟩
        · rw [c'] at c; exact m1_ne r' (by omega) c
        · rw [c'] at c
          obtain rfl : r' = r2 := nI_inj (by omega) (by omega) c
          rw [cb'] at cb; cases cb
    rw [e, eB]
    exact gv_D hD (by omega) (by omega) (by omega) w1 w2
  · have eB : F_Town_payOut σB 95 (nI i) = gv (F_Town_give (gv σB r (nI (n' / 2))).1 95 (nI i) (gv σB r (nI (n' / 2))).2) i (nI n') := by
      rw [d101] at c
      rw [d9] at cb
      rcases e' with ⟨-, c'⟩ | ⟨r', hr', -, c', cb', e'⟩
      · exfalso
        rcases c' with c' | ⟨r2, hr2, c', cb'⟩
        · rw [c] at c'; exact m1_ne r (by omega) c'
        · rw [c] at c'
          obtain rfl : r = r2 := nI_inj (by omega) (by omega) c'
          rw [cb] at cb'; cases cb'
      · rw [c] at c'
        obtain rfl : r = r' := nI_inj (by omega) (by omega) c'
        exact e'
    rw [e, eB]
    obtain ⟨wr, w3, w4⟩ := hA.wb r hr
    have hb := WB_gv hP hA.wb hr (n := n' / 2) (by omega) w3 w4
    obtain ⟨wi2, w5, w6⟩ := hb i hi
    have e2 : (gv σA r (nI (n' / 2))).2 = nI (min (n' / 2) wr) := by rw [gv_n (by omega) (by omega) w3 w4]
    have hb2 := WB_give hP hb hi (k := min (n' / 2) wr) (by omega) w5 w6
    obtain ⟨wi3, w7, w8⟩ := hb2 i hi
    rcases gv_D hD (show r < 8 by omega) (show p < 8 by omega) (show n' / 2 ≤ 999 by omega) w3 w4 with f | ⟨f1, f2⟩
    · rw [e2]
      exact Or.inl (gv_R (by omega) (by omega) (by omega) w7 w8 (give_R f))
    · rw [← f1, e2]
      have f3 := give_D f2 (show i < 8 by omega) (show min (n' / 2) wr ≤ 999 by omega) w5 w6
      exact gv_D f3 (by omega) (by omega) (by omega) w7 w8
/-- a claim, with less and with more -/
theorem claim_sim {σA σB sA sB : Mem} {p : Nat} (hA : TR (tv σA 95) (sA 334) g P M C) (hB : TR (tv σB 95) (sB 334) g P M C) (hp : p < P) {k : Nat} (hk : k < M) (hD : RU p σA ∨ DW p σA σB) :
    ∃ (A1 B1 : Mem × Int32) (sA1 sB1 : Mem), F_Town_payClaim σA 95 (nI k) = some A1 ∧ F_Town_payClaim σB 95 (nI k) = some B1 ∧ TR (tv A1.1 95) (sA1 334) g P M C ∧ TR (tv B1.1 95) (sB1 334) g P M C ∧ (RU p A1.1 ∨ DW p A1.1 B1.1) ∧ (RU p σA → RU p A1.1) := by
  have hP := hA.c1.1
  have hM := hA.c1.2.1
  have one : ∀ {τ s : Mem}, TR (tv τ 95) (s 334) g P M C → ∀ X : Int32, ∃ (S : Nat) (τ1 s1 : Mem), S ≤ 792 ∧ whl (fun s => F_Town_payClaim_11_b 95 (nI k) X s.1 s.2.1 s.2.2) FUEL (0, 0, τ) = some (nI S, nI P, τ1) ∧ TR (tv τ1 95) (s1 334) g P M C ∧ (RU p τ → RU p τ1) := fun {τ s} h X => by
    obtain ⟨x, e1, S, τ1, s1, hS, rfl, e3, e4⟩ := whl_inv (F := fun s => F_Town_payClaim_11_b 95 (nI k) X s.1 s.2.1 s.2.2) (fun i t => i ≤ P ∧ ∃ (S : Nat) (τ1 s1 : Mem), S ≤ 99 * i ∧ t = (nI S, nI i, τ1) ∧ TR (tv τ1 95) (s1 334) g P M C ∧ (RU p τ → RU p τ1)) (fun x => ∃ (S : Nat) (τ1 s1 : Mem), S ≤ 792 ∧ x = (nI S, nI P, τ1) ∧ TR (tv τ1 95) (s1 334) g P M C ∧ (RU p τ → RU p τ1)) (fun i t hI => by
      obtain ⟨hiP, S, τ1, s1, hS, rfl, hT, hR⟩ := hI
      dsimp only
      unfold F_Town_payClaim_11_b
      rw [show τ1 95 8 = nI P from hT.c2.1]
      by_cases c : i < P
      · refine Or.inr ?_
        rw [if_pos (nI_lt c (by omega)), p_con (by omega), if10]
        cases bt X i with
        | false =>
          rw [if_neg (show ¬ (false = true) by decide), bind_T, nI_1]
          exact ⟨_, rfl, by omega, S, τ1, s1, by omega, rfl, hT, hR⟩
        | true =>
          obtain ⟨τ2, s2, a, ha, f1, -, f3⟩ := hT.payOut c
          have f4 : RU p τ1 → RU p τ2 := fun h => by
            have := pay_R hT hp c h
            rw [f1] at this
            exact this
          rw [if_pos rfl, f1]
          simp only [bind_T]
          rw [nI_add, nI_1]
          exact ⟨_, rfl, by omega, S + a, τ2, s2, by omega, rfl, f3, fun h => f4 (hR h)⟩
      · obtain rfl : i = P := by omega
        rw [if_neg (nI_nlt (by omega) (by omega))]
        exact Or.inl ⟨_, rfl, S, τ1, s1, by omega, rfl, hT, hR⟩) P (fun s h => by have := h.1; omega) 0 P FUEL (0, 0, τ) (by omega) (by unfold FUEL; omega) ⟨by omega, 0, τ, s, by omega, rfl, h, fun h => h⟩
    exact ⟨S, τ1, s1, hS, e1, e3, e4⟩
  have fin : ∀ {τ τ1 s1 : Mem} {S : Nat}, S ≤ 792 → TR (tv τ1 95) (s1 334) g P M C → whl (fun s => F_Town_payClaim_11_b 95 (nI k) (F_Town_insurersOf τ 95 (nI k)) s.1 s.2.1 s.2.2) FUEL (0, 0, τ) = some (nI S, nI P, τ1) → ∃ (a b : Nat) (s3 : Mem), a < P ∧ b < P ∧ τ1 105 (2 * k) = nI a ∧ τ1 105 (2 * k + 1) = nI b ∧ F_Town_payClaim τ 95 (nI k) = some (F_Town_give (F_Town_give τ1 95 (nI a) (nI (S / 2))) 95 (nI b) (nI (S - S / 2)), nI S) ∧ TR (tv (F_Town_give (F_Town_give τ1 95 (nI a) (nI (S / 2))) 95 (nI b) (nI (S - S / 2))) 95) (s3 334) g P M C := fun {τ τ1 s1 S} hS h e => by
    have d2 : (nI S : Int32) / 2 = nI (S / 2) := pk_div (d := 2) (by omega) (by decide) (by decide)
    obtain ⟨a, b, ha, hb, -, e1, e2, -, -⟩ := h.m_at hk
    obtain ⟨s2, -, g2⟩ := h.gets ha (a := S / 2) (by omega)
    obtain ⟨s3, -, g4⟩ := g2.gets hb (a := S - S / 2) (by omega)
    refine ⟨a, b, s3, ha, hb, e1, e2, ?_, g4⟩
    have e3 : F_Town_give τ1 95 (nI a) (nI (S / 2)) (95 + 10) (2 * k + 1) = nI b := (give_first (by omega)).trans e2
    unfold F_Town_payClaim
    rw [bind_T, e, ob_s]
    simp only [bind_T]
    rw [t_first (by omega), e1, d2, t_second (by omega), e3, pk_sub (by omega)]
  rcases hD with hR | hD
  · obtain ⟨S, τ1, s1, hS, w1, w2, w3⟩ := one hA (F_Town_insurersOf σA 95 (nI k))
    obtain ⟨S', τ1', s1', hS', w1', w2', -⟩ := one hB (F_Town_insurersOf σB 95 (nI k))
    obtain ⟨a, b, s3, -, -, -, -, c1, c2⟩ := fin hS w2 w1
    obtain ⟨a', b', s3', -, -, -, -, c1', c2'⟩ := fin hS' w2' w1'
    exact ⟨_, _, s3, s3', c1, c1', c2, c2', Or.inl (give_R (give_R (w3 hR))), fun h => give_R (give_R (w3 h))⟩
  · have eX : F_Town_insurersOf σB 95 (nI k) = F_Town_insurersOf σA 95 (nI k) := by
      rw [(q_insK hA hk).1, (q_insK hB hk).1]
      exact insK_eq (hD.1 95 11 (by omega)).symm (fun j => (hD.1 105 j (by omega)).symm) (hD.1 95 9 (by omega)).symm (fun j => (hD.1 99 j (by omega)).symm)
    obtain ⟨x, x', e1, e2, S, S', σ1, σ2, s1, s2, hS, hS', rfl, rfl, f1, f2, f3⟩ := whl_pair (F := fun s => F_Town_payClaim_11_b 95 (nI k) (F_Town_insurersOf σA 95 (nI k)) s.1 s.2.1 s.2.2) (F' := fun s => F_Town_payClaim_11_b 95 (nI k) (F_Town_insurersOf σA 95 (nI k)) s.1 s.2.1 s.2.2)
      (fun i t t' => ∃ (S S' : Nat) (σ1 σ2 s1 s2 : Mem), S ≤ 99 * i ∧ S' ≤ 99 * i ∧ t = (nI S, nI i, σ1) ∧ t' = (nI S', nI i, σ2) ∧ TR (tv σ1 95) (s1 334) g P M C ∧ TR (tv σ2 95) (s2 334) g P M C ∧ (RU p σ1 ∨ (S = S' ∧ DW p σ1 σ2)))
      (fun x x' => ∃ (S S' : Nat) (σ1 σ2 s1 s2 : Mem), S ≤ 792 ∧ S' ≤ 792 ∧ x = (nI S, nI P, σ1) ∧ x' = (nI S', nI P, σ2) ∧ TR (tv σ1 95) (s1 334) g P M C ∧ TR (tv σ2 95) (s2 334) g P M C ∧ (RU p σ1 ∨ (S = S' ∧ DW p σ1 σ2))) P (fun i t t' hi hI => by
      obtain ⟨S, S', σ1, σ2, s1, s2, hS, hS', rfl, rfl, t1, t2, t3⟩ := hI
      dsimp only
      unfold F_Town_payClaim_11_b
      rw [show σ1 95 8 = nI P from t1.c2.1, show σ2 95 8 = nI P from t2.c2.1]
      by_cases c : i < P
      · refine Or.inr ⟨c, ?_⟩
        rw [if_pos (nI_lt c (by omega)), if_pos (nI_lt c (by omega)), p_con (by omega), p_con (by omega), if10, if10]
        cases bt (F_Town_insurersOf σA 95 (nI k)) i with
        | false =>
          rw [if_neg (show ¬ (false = true) by decide), if_neg (show ¬ (false = true) by decide), bind_T, bind_T, nI_1]
          exact ⟨_, _, rfl, rfl, S, S', σ1, σ2, s1, s2, by omega, by omega, rfl, rfl, t1, t2, t3⟩
        | true =>
          obtain ⟨τ2, s3, a, ha, f1, -, f3⟩ := t1.payOut c
          obtain ⟨τ2', s3', a', ha', f1', -, f3'⟩ := t2.payOut c
          have key : RU p τ2 ∨ (S + a = S' + a' ∧ DW p τ2 τ2') := by
            rcases t3 with t3 | ⟨t3, t4⟩
            · have := pay_R t1 hp c t3
              rw [f1] at this
              exact Or.inl this
            · have := pay_D t1 t2 hp c t4
              rw [f1, f1'] at this
              rcases this with r | ⟨r1, r2⟩
              · exact Or.inl r
              · have : a = a' := nI_inj (by omega) (by omega) r1
                exact Or.inr ⟨by omega, r2⟩
          rw [if_pos rfl, if_pos rfl, f1, f1']
          simp only [bind_T]
          rw [nI_add, nI_add, nI_1]
          exact ⟨_, _, rfl, rfl, S + a, S' + a', τ2, τ2', s3, s3', by omega, by omega, rfl, rfl, f3, f3', key⟩
      · obtain rfl : i = P := by omega
        refine Or.inl ?_
        rw [if_neg (nI_nlt (by omega) (by omega)), if_neg (nI_nlt (by omega) (by omega))]
        exact ⟨_, _, rfl, rfl, S, S', σ1, σ2, s1, s2, by omega, by omega, rfl, rfl, t1, t2, t3⟩) P 0 FUEL (0, 0, σA) (0, 0, σB) rfl (by unfold FUEL; omega) ⟨0, 0, σA, σB, sA, sB, by omega, by omega, rfl, rfl, hA, hB, Or.inr ⟨rfl, hD⟩⟩
    obtain ⟨a, b, s3, ha, hb, ea, eb, c1, c2⟩ := fin hS f1 e1
    rw [← eX] at e2
    obtain ⟨a', b', s3', ha', hb', ea', eb', c1', c2'⟩ := fin hS' f2 e2
    obtain ⟨S9, τ9, s9, -, w1, -, w3⟩ := one hA (F_Town_insurersOf σA 95 (nI k))
    have e9 : τ9 = σ1 := congrArg (fun z => z.2.2) (Option.some.inj (w1.symm.trans e1))
    subst e9
    refine ⟨_, _, s3, s3', c1, c1', c2, c2', ?_, fun h => give_R (give_R (w3 h))⟩
    rcases f3 with f3 | ⟨rfl, f3⟩
    · exact Or.inl (give_R (give_R f3))
    · obtain rfl : a = a' := nI_inj (by omega) (by omega) (ea.symm.trans ((f3.1 105 _ (by omega)).trans ea'))
      obtain rfl : b = b' := nI_inj (by omega) (by omega) (eb.symm.trans ((f3.1 105 _ (by omega)).trans eb'))
      obtain ⟨wa, w1, w2⟩ := f1.wb a ha
      have hb2 := WB_give hP f1.wb ha (k := S / 2) (by omega) w1 w2
      obtain ⟨wb, w3, w4⟩ := hb2 b hb
      exact Or.inr (give_D (give_D f3 (by omega) (by omega) w1 w2) (by omega) (by omega) w3 w4)
/-- all claims, with less and with more -/
theorem all_sim {σA σB sA sB : Mem} {p : Nat} (hA : TR (tv σA 95) (sA 334) g P M C) (hB : TR (tv σB 95) (sB 334) g P M C) (hp : p < P) (hD : DW p σA σB) :
    ∃ A1 B1, F_For_claimAll σA = some A1 ∧ F_For_claimAll σB = some B1 ∧ (RU p A1 ∨ DW p A1 B1) := by
  have hM := hA.c1.2.1
  have hov : ∀ {τ s : Mem}, TR (tv τ 95) (s 334) g P M C → ∀ k, k < M → F_Town_isOver τ 95 (nI k) = (if bt (τ 95 11) k = true then 1 else 0) := fun _ k hk => p_over (by omega)
  obtain ⟨x, x', e1, e2, e3⟩ := whl_pair (F := fun s => F_For_claimAll_2_b s.1 s.2) (F' := fun s => F_For_claimAll_2_b s.1 s.2)
    (fun i t t' => ∃ (σ1 σ2 s1 s2 : Mem), t = (nI i, σ1) ∧ t' = (nI i, σ2) ∧ TR (tv σ1 95) (s1 334) g P M C ∧ TR (tv σ2 95) (s2 334) g P M C ∧ (RU p σ1 ∨ DW p σ1 σ2))
    (fun x x' => RU p x.2 ∨ DW p x.2 x'.2) M (fun i t t' hi hI => by
    obtain ⟨σ1, σ2, s1, s2, rfl, rfl, t1, t2, t3⟩ := hI
    dsimp only
    unfold F_For_claimAll_2_b
    rw [show σ1 95 10 = nI M from t1.c2.2.1, show σ2 95 10 = nI M from t2.c2.2.1]
    by_cases c : i < M
    · refine Or.inr ⟨c, ?_⟩
      rw [if_pos (nI_lt c (by omega)), if_pos (nI_lt c (by omega)), hov t1 i c, hov t2 i c, if10, if10]
      obtain ⟨A1, B1, sA1, sB1, f1, f2, f3, f4, f5, f6⟩ := claim_sim t1 t2 hp c t3
      rw [f1, f2, ob_s, ob_s]
      simp only [bind_T]
      rw [nI_1]
      by_cases cA : bt (σ1 95 11) i = true
      · rw [if_pos cA]
        by_cases cB : bt (σ2 95 11) i = true
        · rw [if_pos cB]
          exact ⟨_, _, rfl, rfl, σ1, σ2, s1, s2, rfl, rfl, t1, t2, t3⟩
        · rw [if_neg cB]
          refine ⟨_, _, rfl, rfl, σ1, B1.1, s1, sB1, rfl, rfl, t1, f4, ?_⟩
          rcases t3 with t3 | t3
          · exact Or.inl t3
          · rw [t3.1 95 11 (by omega)] at cA; exact absurd cA cB
      · rw [if_neg cA]
        by_cases cB : bt (σ2 95 11) i = true
        · rw [if_pos cB]
          refine ⟨_, _, rfl, rfl, A1.1, σ2, sA1, s2, rfl, rfl, f3, t2, ?_⟩
          rcases t3 with t3 | t3
          · exact Or.inl (f6 t3)
          · rw [t3.1 95 11 (by omega)] at cA; exact absurd cB cA
        · rw [if_neg cB]
          exact ⟨_, _, rfl, rfl, A1.1, B1.1, sA1, sB1, rfl, rfl, f3, f4, f5⟩
    · obtain rfl : i = M := by omega
      refine Or.inl ?_
      rw [if_neg (nI_nlt (by omega) (by omega)), if_neg (nI_nlt (by omega) (by omega))]
      exact ⟨_, _, rfl, rfl, t3⟩) M 0 FUEL (0, σA) (0, σB) rfl (by unfold FUEL; omega) ⟨σA, σB, sA, sB, rfl, rfl, hA, hB, Or.inr hD⟩
  unfold F_For_claimAll
  rw [e1, e2, ob_s, ob_s]
  exact ⟨_, _, rfl, rfl, e3⟩
end SIM

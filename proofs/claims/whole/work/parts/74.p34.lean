-- PURE STAGE: feed
section FEED
variable {σ σ' : Mem} {g : Nat → Int32} {P M C i : Nat}
def byc (x : Int32) (i : Nat) : Int32 := (x >>> (nI (24 - 8 * i) &&& 31)) &&& 255
theorem byc_u (x : Int32) {i : Nat} (hi : i < 4) : ((x.toUInt32 >>> ((nI (24 - 8 * i)).toUInt32 &&& Int32.toUInt32 31)).toInt32) &&& 255 = byc x i := by
  unfold byc
  apply b_ext
  intro j hj
  rw [b_and, b_and, b_255, b_ushr _ (by omega), b_sshr _ (by omega) x hj]
  by_cases h : j < 8
  · rw [if_pos (by omega)]
  · rw [decide_eq_false h, Bool.and_false, Bool.and_false]
theorem byc_n (x : Int32) (i : Nat) : ∃ b, b ≤ 255 ∧ byc x i = nI b := by
  obtain ⟨j, h1, h2⟩ := pk_andE (x >>> (nI (24 - 8 * i) &&& 31)) (m := 255) 8 (by decide)
  exact ⟨j, by omega, h2⟩
/-- so many bytes behind the n that are there -/
def FWr (r q j0 : Nat) (σ σ1 : Mem) (n m : Nat) (B : Nat → Int32) : Prop :=
  (∀ a b, a ≠ r → (a ≠ q ∨ b ≠ j0) → σ1 a b = σ a b) ∧ (∀ j, j < n → σ1 r j = σ r j) ∧ (∀ k, k < m → σ1 r (n + k) = B k) ∧ σ1 q j0 = nI (n + m)
theorem FWr.step {r q j0 n m : Nat} {B : Nat → Int32} {σ1 : Mem} (h : FWr r q j0 σ σ1 n m B) (hrq : r ≠ q) : FWr r q j0 σ (up (up σ1 r (n + m) (B m)) q j0 (nI (n + m + 1))) n (m + 1) B := by
  obtain ⟨h1, h2, h3, h4⟩ := h
  refine ⟨fun a b ha hb => ?_, fun j hj => ?_, fun k hk => ?_, ?_⟩
  · rw [up_d (by omega), up_d (by omega)]; exact h1 a b ha hb
  · rw [up_d (by omega), up_d (by omega)]; exact h2 j hj
  · by_cases e : k = m
    · subst e; rw [up_d (by omega), up_s]
    · rw [up_d (by omega), up_d (by omega)]; exact h3 k (by omega)
  · rw [up_s]; rfl
theorem whl_l {S X : Type} {F : S → Option (S ⊕ X)} {n : Nat} {s s1 : S} (h : F s = some (.inl s1)) : whl F (n + 1) s = whl F n s1 := by
  show obind (F s) _ = _
  rw [h]; rfl
theorem whl_r {S X : Type} {F : S → Option (S ⊕ X)} {n : Nat} {s : S} {x : X} (h : F s = some (.inr x)) : whl F (n + 1) s = some x := by
  show obind (F s) _ = _
  rw [h]; rfl
theorem feed_l {v s s2 : Int32} {n : Nat} {τ τ2 : Mem} (h : F_W_feedNumber_3_b v s τ = some (.inl (s2, τ2))) : whl (fun s => F_W_feedNumber_3_b v s.1 s.2) (n + 1) (s, τ) = whl (fun s => F_W_feedNumber_3_b v s.1 s.2) n (s2, τ2) := whl_l (F := fun s => F_W_feedNumber_3_b v s.1 s.2) h
theorem c_feedB {v : Int32} {n m : Nat} {B : Nat → Int32} {σ1 : Mem} (h : FWr 2 0 12 σ σ1 n m B) (hn : n + m < 400) {k : Nat} (hs : B m = byc v k) : F_W_feedNumber_3_b v (nI (24 - 8 * k)) σ1 = some (.inl (nI (24 - 8 * k) + (-8), up (up σ1 2 (n + m) (B m)) 0 12 (nI (n + m + 1)))) := by
  unfold F_W_feedNumber_3_b
  rw [if_neg (nI_pos (by omega)), h.2.2.2, p_put (by omega) (by decide), hs]
  simp only [bind_T]
  rw [up_d (by omega), h.2.2.2, nI_1]
  rfl
theorem c_feed4 {v : Int32} {n m : Nat} {B : Nat → Int32} {σ1 : Mem} (h : FWr 2 0 12 σ σ1 n m B) (hn : n + m + 4 ≤ 400) (hs : ∀ k, k < 4 → B (m + k) = byc v k) : ∃ σ2, F_W_feedNumber σ1 v = some σ2 ∧ FWr 2 0 12 σ σ2 n (m + 4) B := by
  have h1 := h.step (by omega)
  have h2 := h1.step (by omega)
  have h3 := h2.step (by omega)
  have h4 := h3.step (by omega)
  refine ⟨_, ?_, h4⟩
  have e0 := c_feedB (v := v) (k := 0) h (by omega) (hs 0 (by omega))
  have e1 := c_feedB (v := v) (k := 1) h1 (by omega) (hs 1 (by omega))
  have e2 := c_feedB (v := v) (k := 2) h2 (by omega) (hs 2 (by omega))
  have e3 := c_feedB (v := v) (k := 3) h3 (by omega) (hs 3 (by omega))
  rw [show nI (24 - 8 * 0) = 24 by decide, show (24 : Int32) + (-8) = 16 by decide] at e0
  rw [show nI (24 - 8 * 1) = 16 by decide, show (16 : Int32) + (-8) = 8 by decide] at e1
  rw [show nI (24 - 8 * 2) = 8 by decide, show (8 : Int32) + (-8) = 0 by decide] at e2
  rw [show nI (24 - 8 * 3) = 0 by decide, show (0 : Int32) + (-8) = -8 by decide] at e3
  have e4 : ∀ τ, F_W_feedNumber_3_b v (-8) τ = some (.inr (-8, τ)) := fun τ => by
    unfold F_W_feedNumber_3_b
    rw [if_pos (by decide)]
  unfold F_W_feedNumber
  rw [show FUEL = 20000 from rfl, feed_l e0, feed_l e1, feed_l e2, feed_l e3, whl_r (F := fun s => F_W_feedNumber_3_b v s.1 s.2) (e4 _), ob_s]
def fdV (a1 a2 a3 a4 a5 : Int32) (k : Nat) : Int32 := if k < 4 then a1 else if k < 8 then a2 else if k < 12 then a3 else if k < 16 then a4 else a5
def fdB (a1 a2 a3 a4 a5 : Int32) (k : Nat) : Int32 := byc (fdV a1 a2 a3 a4 a5 k) (k % 4)
theorem m_feed1 {a1 a2 a3 a4 a5 : Int32} {n k : Nat} (hk : k < 20) {σ1 : Mem} (h : FWr 338 333 8 σ σ1 n k (fdB a1 a2 a3 a4 a5)) (hn : n + k < 400) : F_M_feed_23_b a1 a2 a3 a4 a5 (nI k) σ1 = some (up (up σ1 338 (n + k) (fdB a1 a2 a3 a4 a5 k)) 333 8 (nI (n + k + 1))) := by
  have hs : (24 : Int32) - 8 * (nI k - nI k / 4 * 4) = nI (24 - 8 * (k % 4)) := by
    have : ∀ k, k < 20 → (24 : Int32) - 8 * (nI k - nI k / 4 * 4) = nI (24 - 8 * (k % 4)) := by decide +kernel
    exact this k hk
  have hL : ∀ m : Nat, m < 100 → ((nI k < nI m) ↔ k < m) := fun m hm => nI_ltI (by omega) (by omega)
  have l4 : (nI k < 4) ↔ k < 4 := hL 4 (by omega)
  have l8 : (nI k < 8) ↔ k < 8 := hL 8 (by omega)
  have l12 : (nI k < 12) ↔ k < 12 := hL 12 (by omega)
  have l16 : (nI k < 16) ↔ k < 16 := hL 16 (by omega)
  unfold F_M_feed_23_b fdB fdV
  rw [hs, h.2.2.2]
  simp only [bind_T, l4, l8, l12, l16, byc_u _ (show k % 4 < 4 by omega), p_inb (show n + k < 400 by omega) (show 400 < 6000 by decide), chk_t, p_cl (show n + k < 6000 by omega)]
  simp only [up_d (show (333 : Nat) ≠ 338 ∨ 8 ≠ n + k by omega), h.2.2.2, nI_1]
  by_cases c1 : k < 4
  · simp only [if_pos c1]
  · by_cases c2 : k < 8
    · simp only [if_neg c1, if_pos c2]
    · by_cases c3 : k < 12
      · simp only [if_neg c1, if_neg c2, if_pos c3]
      · by_cases c4 : k < 16
        · simp only [if_neg c1, if_neg c2, if_neg c3, if_pos c4]
        · simp only [if_neg c1, if_neg c2, if_neg c3, if_neg c4]
theorem op0 (h : INV i σ) (a1 a2 a3 a4 a5 : Int32) : ∃ σ', S_0 σ a1 a2 a3 a4 a5 = some σ' ∧ INV (i + 1) σ' := by
  have h0 := h
  obtain ⟨g, P, M, C, h⟩ := h
  obtain ⟨n, hn, e1, e2, e3⟩ := h.2.2.2.1
  have e20 : nI n + 20 = nI (n + 20) := nI_add n 20
  by_cases c : 400 < n + 20
  · refine ⟨up σ 333 0 0, ?_, h0.to fun q j hq => up_d (by unfold RelC RelM at hq; omega)⟩
    have c2 : (400 : Int32) < nI (n + 20) := nI_lt (a := 400) c (by omega)
    unfold S_0 F_W_feed F_M_feed
    rw [e1, e20, if_pos c2, ob_s]
    dsimp only
    rw [bind_T, up_d (by omega), e2, e20, if_pos c2, ob_s, if_pos rfl]
  · have c2 : ¬ (400 : Int32) < nI (n + 20) := nI_nlt (a := 400) (by omega) (by omega)
    have w0 : FWr 2 0 12 σ σ n 0 (fdB a1 a2 a3 a4 a5) := ⟨fun _ _ _ _ => rfl, fun _ _ => rfl, fun k hk => absurd hk (by omega), e1⟩
    obtain ⟨s1, f1, w1⟩ := c_feed4 (v := a1) w0 (by omega) (fun k hk => by
      unfold fdB fdV
      rw [if_pos (by omega), show (0 + k) % 4 = k by omega])
    obtain ⟨s2, f2, w2⟩ := c_feed4 (v := a2) w1 (by omega) (fun k hk => by
      unfold fdB fdV
      rw [if_neg (by omega), if_pos (by omega), show (0 + 4 + k) % 4 = k by omega])
    obtain ⟨s3, f3, w3⟩ := c_feed4 (v := a3) w2 (by omega) (fun k hk => by
      unfold fdB fdV
      rw [if_neg (by omega), if_neg (by omega), if_pos (by omega), show (0 + 4 + 4 + k) % 4 = k by omega])
    obtain ⟨s4, f4, w4⟩ := c_feed4 (v := a4) w3 (by omega) (fun k hk => by
      unfold fdB fdV
      rw [if_neg (by omega), if_neg (by omega), if_neg (by omega), if_pos (by omega), show (0 + 4 + 4 + 4 + k) % 4 = k by omega])
    obtain ⟨s5, f5, w5⟩ := c_feed4 (v := a5) w4 (by omega) (fun k hk => by
      unfold fdB fdV
      rw [if_neg (by omega), if_neg (by omega), if_neg (by omega), if_neg (by omega), show (0 + 4 + 4 + 4 + 4 + k) % 4 = k by omega])
    have w0' : FWr 338 333 8 (up s5 333 0 0) (up s5 333 0 0) n 0 (fdB a1 a2 a3 a4 a5) := ⟨fun _ _ _ _ => rfl, fun _ _ => rfl, fun k hk => absurd hk (by omega), by rw [up_d (by omega), w5.1 333 8 (by omega) (by omega)]; exact e2⟩
    obtain ⟨s6, f6, w6⟩ := forSO_inv (F := fun i s => F_M_feed_23_b a1 a2 a3 a4 a5 i s) 20 0 (fun k s => FWr 338 333 8 (up s5 333 0 0) s n k (fdB a1 a2 a3 a4 a5)) (up s5 333 0 0) (fun k s hk hs => ⟨_, by rw [Nat.zero_add]; exact m_feed1 hk hs (by omega), hs.step (by omega)⟩) w0'
    have hs : ∀ q j, q ≠ 2 → q ≠ 338 → (q ≠ 0 ∨ j ≠ 12) → (q ≠ 333 ∨ (j ≠ 0 ∧ j ≠ 8)) → s6 q j = σ q j := fun q j h1 h2 h3 h4 => by
      rw [w6.1 q j h2 (by omega), up_d (by omega), w5.1 q j h1 h3]
    have hc : ∀ q j, q ≠ 338 → q ≠ 333 → s6 q j = s5 q j := fun q j h1 h2 => by
      rw [w6.1 q j h1 (by omega), up_d (by omega)]
    refine ⟨s6, ?_, h.tape ⟨n + 20, by omega, ?_, w6.2.2.2, fun j hj => ?_⟩ (fun q j hq h2 h3 => hs q j h2 (by unfold RelC at hq; omega) h3 (by unfold RelC at hq; omega)) (fun q j hq h2 h3 => hs q j (by unfold RelM at hq; omega) h2 (by unfold RelM at hq; omega) (by unfold RelM at hq; omega))⟩
    · unfold S_0 F_W_feed F_M_feed
      rw [e1, e20, if_neg c2, f1, ob_s, f2, ob_s, f3, ob_s, f4, ob_s, f5, ob_s, ob_s]
      dsimp only
      rw [bind_T, w0'.2.2.2, Nat.add_zero, e20, if_neg c2, show cnt 0 20 = 20 by decide]
      rw [nI_0] at f6
      rw [f6, ob_s, ob_s]
      dsimp only
      rw [w5.2.2.2, w6.2.2.2, if_pos rfl]
    · rw [hc 0 12 (by omega) (by omega)]
      exact w5.2.2.2
    · rw [hc 2 j (by omega) (by omega)]
      by_cases c : j < n
      · rw [w5.2.1 j c, w6.2.1 j c, up_d (by omega), w5.1 338 j (by omega) (by omega)]
        exact e3 j c
      · obtain ⟨k, rfl⟩ : ∃ k, j = n + k := ⟨j - n, by omega⟩
        rw [w5.2.2.1 k (by omega), w6.2.2.1 k (by omega)]
        exact ⟨rfl, byc_n _ _⟩
end FEED

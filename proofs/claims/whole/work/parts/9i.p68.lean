-- PURE STAGE: the law's text, as a whole
section RLW
variable {T : Nat → Nat → Int32} {f g : Nat → Int32} {P M C : Nat}
theorem TR.relaw {T2 : Nat → Nat → Int32} {f2 g2 : Nat → Int32} (h : TR T f g P M C)  (hT : ∀ r k, (r = 0 ∧ 8 ≤ k ∧ k < 20) ∨ ((r = 2 ∨ r = 4 ∨ r = 6) ∧ k < 8) ∨ (r = 8 ∧ k < 64) ∨ (r = 10 ∧ k < 40) ∨ ((r = 12 ∨ r = 14) ∧ k < 20) ∨ (r = 16 ∧ k < 240) → T2 r k = T r k) (hf : ∀ j, j < 450 ∧ j ≠ 1 ∧ j ≠ 2 → f2 j = f j) (hg : ∀ j, j = 1 ∨ j = 2 ∨ (450 ≤ j ∧ j < 850) → f2 j = g2 j) : TR T2 f2 g2 P M C := by
  have hP := h.c1.1
  have hM := h.c1.2.1
  exact ⟨h.c1,
    ⟨by rw [hT _ _ (by omega)]; exact h.c2.1, by rw [hT _ _ (by omega)]; exact h.c2.2.1, by rw [hT _ _ (by omega)]; exact h.c2.2.2⟩,
    ⟨by rw [hf _ (by omega)]; exact h.c3.1, by rw [hf _ (by omega)]; exact h.c3.2.1, by rw [hf _ (by omega)]; exact h.c3.2.2.1, by rw [hf _ (by omega)]; exact h.c3.2.2.2⟩,
    ⟨by rw [hf _ (by omega), hT _ _ (by omega)]; exact h.c4.1, by rw [hf _ (by omega), hT _ _ (by omega)]; exact h.c4.2.1, by rw [hf _ (by omega), hT _ _ (by omega)]; exact h.c4.2.2.1, by rw [hf _ (by omega), hT _ _ (by omega)]; exact h.c4.2.2.2.1, by rw [hf _ (by omega), hT _ _ (by omega)]; exact h.c4.2.2.2.2.1, by rw [hf _ (by omega), hT _ _ (by omega)]; exact h.c4.2.2.2.2.2.1, by rw [hf _ (by omega), hT _ _ (by omega)]; exact h.c4.2.2.2.2.2.2⟩,
    ⟨by obtain ⟨n9, h8, h9⟩ := h.c5.1; exact ⟨n9, h8, by rw [hT _ _ (by omega)]; exact h9⟩, by obtain ⟨n9, h8, h9⟩ := h.c5.2.1; exact ⟨n9, h8, by rw [hT _ _ (by omega)]; exact h9⟩, by obtain ⟨n9, h8, h9⟩ := h.c5.2.2.1; exact ⟨n9, h8, by rw [hT _ _ (by omega)]; exact h9⟩, by obtain ⟨n9, h8, h9⟩ := h.c5.2.2.2.1; exact ⟨n9, h8, by rw [hT _ _ (by omega)]; exact h9⟩, by obtain ⟨n9, h8, h9⟩ := h.c5.2.2.2.2; exact ⟨n9, h8, by rw [hT _ _ (by omega)]; exact h9⟩⟩,
    fun p hp => ⟨by rw [hf _ (by omega), hT _ _ (by omega)]; exact (h.c6 p hp).1, by rw [hf _ (by omega), hT _ _ (by omega)]; exact (h.c6 p hp).2.1, by rw [hf _ (by omega), hT _ _ (by omega)]; exact (h.c6 p hp).2.2.1, by rw [hf _ (by omega), hT _ _ (by omega)]; exact (h.c6 p hp).2.2.2⟩,
    fun p hp => ⟨by obtain ⟨n9, h8, h9⟩ := (h.c7 p hp).1; exact ⟨n9, h8, by rw [hT _ _ (by omega)]; exact h9⟩, by rw [hT _ _ (by omega)]; exact (h.c7 p hp).2⟩,
    fun p hp h8 => by rw [hT _ _ (by omega)]; exact h.c8 p hp h8,
    fun i hi h8 => by rw [hT _ _ (by omega)]; exact h.c9 i hi h8,
    fun p o hp ho => by rw [hf _ (by omega), hT _ _ (by omega)]; exact h.c10 p o hp ho,
    fun p o hp ho => by rw [hT _ _ (by omega)]; exact h.c11 p o hp ho,
    fun k hk => ⟨by rw [hf _ (by omega), hT _ _ (by omega)]; exact (h.c12 k hk).1, by rw [hf _ (by omega), hT _ _ (by omega)]; exact (h.c12 k hk).2.1, by rw [hf _ (by omega), hT _ _ (by omega)]; exact (h.c12 k hk).2.2.1, by rw [hf _ (by omega), hT _ _ (by omega)]; exact (h.c12 k hk).2.2.2.1, by rw [hf _ (by omega), hT _ _ (by omega)]; exact (h.c12 k hk).2.2.2.2⟩,
    fun k hk => ⟨by obtain ⟨a, b, h1, h2, h3, h4, h5⟩ := (h.c13 k hk).1; exact ⟨a, b, h1, h2, h3, by rw [hT _ _ (by omega)]; exact h4, by rw [hT _ _ (by omega)]; exact h5⟩, by obtain ⟨n9, h8, h9⟩ := (h.c13 k hk).2; exact ⟨n9, h8, by rw [hT _ _ (by omega)]; exact h9⟩⟩,
    fun i hi h8 => by rw [hT _ _ (by omega)]; exact h.c14 i hi h8,
    fun a c ha hc => by rw [hf _ (by omega), hT _ _ (by omega)]; exact h.c15 a c ha hc,
    hg⟩
end RLW
section LTX
variable {n : Nat} {b : Nat → Nat}
theorem c_begin78 {σ0 : Mem} (hn : n ≤ 400) (hb : ∀ j, j < n → σ0 2 j = nI (b j) ∧ b j ≤ 255) : ∃ T σ1, (obind (F_Text_cut (up (up (F_Row_copyAll σ0 (78 + 1) 400 1 400) 78 6 (nI n)) 78 12 (-1)) 78) fun z4 => F_Text_advance (up z4 78 7 (-1)) 78) = some σ1 ∧ CTk 78 b n T 0 σ1 ∧ ∀ q j, (q < 78 ∨ 84 < q) → σ1 q j = σ0 q j := by
  have e8 : F_Row_copyAll σ0 (78 + 1) 400 1 400 = cpM σ0 2 80 400 := by
    unfold F_Row_copyAll
    rw [bind_T, show ((if (Int32.ofNat 400) < (Int32.ofNat 400) then (Int32.ofNat 400) else (Int32.ofNat 400)) : Int32).toNatClampNeg = 400 by decide]
  have cp1 : ∀ q j, q ≠ 80 → cpM σ0 2 80 400 q j = σ0 q j := fun q j hq => by
    unfold cpM
    rw [if_neg (by omega)]
  have cp2 : ∀ j, j < 400 → cpM σ0 2 80 400 80 j = σ0 2 j := fun j hj => by
    unfold cpM
    rw [if_pos ⟨rfl, hj⟩]
  rw [e8]
  have hB : TBs 78 b n (up (up (cpM σ0 2 80 400) 78 6 (nI n)) 78 12 (-1)) := ⟨hn, by rw [up_d (by omega), up_s], fun j hj => by rw [up_d (by omega), up_d (by omega), cp2 j (by omega)]; exact (hb j hj).1, fun j hj => (hb j hj).2⟩
  obtain ⟨T, σ1, f1, f2, f3, f4, f5, f6⟩ := c_cut hB
  obtain ⟨σ2, g1, g2, g3⟩ := c_adv (t := 78) (b := b) (n := n) (T := T) (i := 0) (σ := up σ1 78 7 (-1)) ⟨hn, by rw [up_d (by omega)]; exact f2.2.1, fun j hj => by rw [up_d (by omega)]; exact f2.2.2.1 j hj, f2.2.2.2⟩ ⟨by rw [up_d (by omega)]; exact f3.1, fun u hu => by rw [up_d (by omega), up_d (by omega), up_d (by omega), up_d (by omega)]; exact f3.2 u hu⟩ f4 f5 (Nat.zero_le T) (by rw [up_s]; decide) (by rw [up_d (by omega), f6 78 12 (by omega), up_s])
  refine ⟨T, σ2, ?_, g2, fun q j hq => ?_⟩
  · rw [f1, ob_s, g1]
  · rw [g3 q j (by omega), up_d (by omega), f6 q j (by omega), up_d (by omega), up_d (by omega), cp1 q j (by omega)]
/-- both readings of a law's text -/
theorem ltext_both {σ0 : Mem} (hn : n ≤ 400) (hb : ∀ j, j < n → σ0 2 j = nI (b j) ∧ b j ≤ 255) (h4 : σ0 85 4 = 0) (h5 : σ0 85 5 = 0) :
    ∃ σ1 r, F_Text_linesOf_78 σ0 1 400 (nI n) 12 = some (σ1, r) ∧
      ((∃ (nl : List LN) (cs1 : List Int32), r = nI nl.length ∧ LWd cs1 σ1 ∧ LNs nl cs1 σ1 ∧ σ1 78 12 = -1 ∧ cs1.length ≤ 400 ∧ ∀ s, RP b n 0 s → s 333 12 = -1 → s 333 13 = 0 → ∃ s1, F_M_read s 1 = some (s1, r) ∧ s1 333 12 = -1 ∧ FRl s s1 ∧ s1 333 16 = LVc (vS s) (s 333 16) nl) ∨
       (∃ w, w ≤ n ∧ σ1 78 12 = nI w ∧ ∀ s, RP b n 0 s → s 333 12 = -1 → s 333 13 = 0 → ∃ s1 v, F_M_read s 1 = some (s1, v) ∧ s1 333 12 = nI w ∧ FRl s s1)) := by
  obtain ⟨T, σ1, f1, f2, f3⟩ := c_begin78 hn hb
  obtain ⟨p1, p2⟩ := f2.pos
  obtain ⟨k, hk, ek⟩ := f2.in31
  have hin : inb (σ1 78 8) 31 = true := by rw [ek]; exact p_inb hk (by decide)
  have hW : CLw b n T 0 [] σ1 := ⟨f2, by rw [f3 85 4 (by omega), h4]; exact nI_0.symm, fun k hk => absurd hk (Nat.not_lt_zero k)⟩
  have hL : LNs [] [] σ1 := ⟨by rw [f3 85 5 (by omega), h5]; exact nI_0.symm, by decide, rfl, fun k hk => absurd hk (Nat.not_lt_zero k)⟩
  have eC : F_Text_linesOf_78 σ0 1 400 (nI n) 12 = (if (σ1 78 8) = 29 then some ((σ1, 0)) else obind (whl (fun s => F_Text_linesOf_78_46_b 1 400 (nI n) 12 s.1 s.2) FUEL (1, σ1)) fun z17 => sumE z17 (fun s18 => bindT (F_Text_refuse s18.2 78) fun z20 => some ((z20.1, (-1)))) (fun r19 => some r19)) := by
    unfold F_Text_linesOf_78
    simp only [bind_T]
    have := congrArg (fun o => obind o fun z6 => chk (inb (z6 78 8) 31) <| (if (z6 78 8) = 29 then some ((z6, 0)) else obind (whl (fun s => F_Text_linesOf_78_46_b 1 400 (nI n) 12 s.1 s.2) FUEL (1, z6)) fun z17 => sumE z17 (fun s18 => some (((F_Text_refuse s18.2 78).1, (-1)))) (fun r19 => some r19))) f1
    rw [ob_assoc] at this
    rw [this, ob_s, hin, chk_t]
  have sn : ∀ s, RP b n 0 s → s 333 12 = -1 → s 333 13 = 0 → SN b n T 0 0 s := fun s h1 h2 h3 => ⟨0, h1, rfl, h2, h3.trans nI_0.symm⟩
  have eM : ∀ s, SN b n T 0 0 s → F_M_read s 1 = (if (nI (posI b n 0)) < (nI n) then obind (whl (fun s => F_M_read_23_b 1 s.1 s.2.1 s.2.2) FUEL (1, 0, up s 333 11 (nI (posI b n 0)))) fun z66 => some ((z66.2.2, z66.2.1)) else obind (whl (fun s => F_M_read_23_b 1 s.1 s.2.1 s.2.2) FUEL (0, 0, up s 333 11 (nI (posI b n 0)))) fun z65 => some ((z65.2.2, z65.2.1))) := fun s hs => by
    obtain ⟨a, hy⟩ := hs.sy f2
    have e10 : (up s 333 11 (nI (posI b n 0))) 333 10 = nI n := hy.here.2.1.2.2.1
    unfold F_M_read
    rw [sy_skip hy, ob_s, up_s, e10]
  rw [eC]
  by_cases c : 0 < T
  · have hp := p2.mpr c
    have c29 : ¬ σ1 78 8 = 29 := by
      rw [(f2.2.2.2.1 c).1]
      intro e
      have e29 := nI_inj (b := 29) (by have := kdF_le (b := b) (n := n) (p := posI b n 0); omega) (by omega) e
      unfold kdF at e29
      split at e29
      · omega
      · rcases kdR_of _ _ e29 with q | q
        · omega
        · have := (wAt_is.mp q).1
          have h9 := (stF_is (b := b) hp).1
          have h10 : lenS.getD (kindS.getD 29 0) 0 = 0 := by decide
          omega
    obtain ⟨y, σ2, r, g1, g2, g3⟩ := llines (b := b) (n := n) (T := T) (nI n) 12 1 σ1 0 [] [] (by omega) (by omega) rfl hW hL (Nat.le_refl 0) FUEL (by unfold FUEL; omega)
    rw [show nI 1 = 1 by decide] at g1
    rw [if_neg c29, g1, ob_s, g2]
    refine ⟨σ2, r, rfl, ?_⟩
    have st : ∀ s, SN b n T 0 0 s → ∀ x y s1, whl (fun t => F_M_read_23_b 1 t.1 t.2.1 t.2.2) FUEL (1, nI (1 - 1), up s 333 11 (nI (posI b n 0))) = some (x, y, s1) → F_M_read s 1 = some (s1, y) := fun s hs x y s1 e => by
      rw [show nI (1 - 1) = 0 by decide] at e
      rw [eM s hs, if_pos (nI_lt hp (by omega)), e, ob_s]
    rcases g3 with ⟨nl, cs1, q0, q1, q2, q3, q4, q5, q6⟩ | ⟨w9, q1, q2, q3, q4⟩
    · refine Or.inl ⟨nl, cs1, ?_, q2, q3, q4, q5, fun s h1 h2 h3 => ?_⟩
      · rw [q1]
        congr 1
        show 0 + nl.length = nl.length
        omega
      · have hs := sn s h1 h2 h3
        have fu : FR s (up s 333 11 (nI (posI b n 0))) := FR.up (by omega)
        obtain ⟨s1, x, t1, t2, t3, t4⟩ := q6 _ (hs.here f2) FUEL (by unfold FUEL; omega)
        rw [fu.vs, fu 333 16 (by omega)] at t4
        exact ⟨s1, st s hs _ _ _ t1, t2, fu.l.trans t3, t4⟩
    · refine Or.inr ⟨w9, q2, q3, fun s h1 h2 h3 => ?_⟩
      have hs := sn s h1 h2 h3
      have fu : FR s (up s 333 11 (nI (posI b n 0))) := FR.up (by omega)
      obtain ⟨⟨x1, x2, x3⟩, t1, t2, t3⟩ := q4 _ (hs.here f2) FUEL (by unfold FUEL; omega)
      exact ⟨x3, x2, st s hs _ _ _ t1, t2, fu.l.trans t3⟩
  · have c0 : 0 = T := by omega
    have c29 := (f2.2.2.2.2 c0).1
    have hp : ¬ posI b n 0 < n := fun h => c (p2.mp h)
    rw [if_pos c29]
    refine ⟨σ1, 0, rfl, Or.inl ⟨[], [], nI_0.symm, hW.2, hL, f2.2.1.2, by decide, fun s h1 h2 h3 => ?_⟩⟩
    have hs := sn s h1 h2 h3
    have e0 : whl (fun s => F_M_read_23_b 1 s.1 s.2.1 s.2.2) FUEL (0, 0, up s 333 11 (nI (posI b n 0))) = some (0, 0, up s 333 11 (nI (posI b n 0))) := by
      rw [show FUEL = 19999 + 1 from rfl]
      exact whl_r (F := fun s => F_M_read_23_b 1 s.1 s.2.1 s.2.2) (s := ((0 : Int32), (0 : Int32), up s 333 11 (nI (posI b n 0)))) (rd_stop 1 0 (up s 333 11 (nI (posI b n 0))))
    refine ⟨up s 333 11 (nI (posI b n 0)), ?_, by rw [up_d (by omega)]; exact h2, (FR.up (by omega)).l, by rw [up_d (by omega)]; rfl⟩
    rw [eM s hs, if_neg (nI_nlt (by omega) (by omega)), e0, ob_s]
end LTX

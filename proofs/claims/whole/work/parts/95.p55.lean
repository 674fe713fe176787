-- PURE STAGE: the town's lines, one sort each
section TLO
variable {b : Nat → Nat} {n T i a : Nat} {σ s : Mem} {g : Nat → Int32} {P M C : Nat}
theorem SY.of {s1 : Mem} (h : SY 54 b n T i a σ s) {σ1 : Mem} (e : ∀ q, 54 ≤ q → q ≤ 60 → ∀ j, σ1 q j = σ q j) (e1 : ∀ j, s1 333 j = s 333 j) (e2 : ∀ j, s1 338 j = s 338 j) (e3 : ∀ j, 450 ≤ j → j < 850 → s1 334 j = s 334 j) : SY 54 b n T i a σ1 s1 := by
  obtain ⟨⟨⟨⟨t1, t2, t3, t4⟩, ⟨u1, u2⟩, v1, v2, v3⟩, w1, w2, w3, w4⟩, ⟨r1, r2, r3, r4, r5, r6⟩, x1, x2⟩ := h
  refine ⟨⟨⟨⟨t1, by rw [e 54 (by omega) (by omega)]; exact t2, fun j hj => by rw [e (54 + 2) (by omega) (by omega)]; exact t3 j hj, t4⟩, ⟨by rw [e 54 (by omega) (by omega)]; exact u1, fun k hk => ?_⟩, v1, v2, v3⟩, ⟨by rw [e 54 (by omega) (by omega)]; exact w1.1, by rw [e 54 (by omega) (by omega)]; exact w1.2⟩, by rw [e 54 (by omega) (by omega)]; exact w2, fun h => ?_, fun h => ?_⟩, ⟨r1, r2, (e1 _).trans r3, (e1 _).trans r4, r5, r6.to (e1 9) e2 e3 r1⟩, x1, (e1 _).trans x2⟩
  · rw [e (54 + 3) (by omega) (by omega), e (54 + 4) (by omega) (by omega), e (54 + 5) (by omega) (by omega), e (54 + 6) (by omega) (by omega)]
    exact u2 k hk
  · rw [e 54 (by omega) (by omega), e 54 (by omega) (by omega), e 54 (by omega) (by omega)]
    exact w3 h
  · rw [e 54 (by omega) (by omega), e 54 (by omega) (by omega), e 54 (by omega) (by omega)]
    exact w4 h
theorem m_zero {P : Nat} (hP : P < 8) (v1 v2 : Int32) (s4 : Mem) : ∃ s5, forSO (fun i s => F_M_personLine_72_b v1 v2 (nI P) i s) (cnt 0 8) 0 s4 = some s5 ∧ (∀ o, o < 8 → s5 334 (46 + 8 * P + o) = 0 ∧ s5 334 (46 + 8 * o + P) = 0) ∧ (∀ j, (j < 46 ∨ 110 ≤ j) → s5 334 j = s4 334 j) ∧ (∀ p o, p < P → o < P → s5 334 (46 + 8 * p + o) = s4 334 (46 + 8 * p + o)) ∧ ∀ q j, q ≠ 334 → s5 q j = s4 q j := by
  rw [show cnt 0 8 = 8 by decide]
  obtain ⟨s5, e1, e2⟩ := forSO_inv (F := fun i s => F_M_personLine_72_b v1 v2 (nI P) i s) 8 0 (fun k s => (∀ o, o < k → s 334 (46 + 8 * P + o) = 0 ∧ s 334 (46 + 8 * o + P) = 0) ∧ (∀ j, (j < 46 ∨ 110 ≤ j) → s 334 j = s4 334 j) ∧ (∀ p o, p < P → o < P → s 334 (46 + 8 * p + o) = s4 334 (46 + 8 * p + o)) ∧ ∀ q j, q ≠ 334 → s q j = s4 q j) s4 (fun k s hk hs => by
    obtain ⟨i1, i2, i3, i4⟩ := hs
    refine ⟨up (up s 334 (46 + 8 * P + k) 0) 334 (46 + 8 * k + P) 0, ?_, fun o ho => ⟨?_, ?_⟩, fun j hj => ?_, fun p o hp ho => ?_, fun q j hq => ?_⟩
    · rw [Nat.zero_add]
      unfold F_M_personLine_72_b
      rw [ix_l, bind_T, p_inb (by omega) (by decide), chk_t, bind_T, ix_l, bind_T, p_inb (by omega) (by decide), chk_t, bind_T, p_cl (by omega), p_cl (by omega)]
    · by_cases c : 46 + 8 * P + o = 46 + 8 * k + P
      · rw [c, up_s]
      · rw [up_d (by omega)]
        by_cases c2 : o = k
        · subst c2; exact up_s
        · rw [up_d (by omega)]; exact (i1 o (by omega)).1
    · by_cases c : o = k
      · subst c; exact up_s
      · rw [up_d (by omega)]
        by_cases c2 : 46 + 8 * o + P = 46 + 8 * P + k
        · rw [c2, up_s]
        · rw [up_d (by omega)]; exact (i1 o (by omega)).2
    · rw [up_d (by omega), up_d (by omega)]; exact i2 j hj
    · rw [up_d (by omega), up_d (by omega)]; exact i3 p o hp ho
    · rw [up_d (by omega), up_d (by omega)]; exact i4 q j hq) ⟨fun o ho => by omega, fun _ _ => rfl, fun _ _ _ _ => rfl, fun _ _ _ => rfl⟩
  rw [nI_0] at e1
  exact ⟨s5, e1, e2⟩
theorem line_person (h : TW b n T g P M C i a σ s) (hi : i < T) : LRS b n T g C (F_TTx_readsPerson σ) (F_M_personLine (up s 333 11 (nI (stF b n (posI b n i)))) (nI (posI b n i))) := by
  have hP := h.2.c1.1
  obtain ⟨σ1, f1, f2, f3⟩ := h.next hi
  have t8 : σ 61 8 = nI P := h.2.c2.1
  have h3 : (up s 333 11 (nI (stF b n (posI b n i)))) 334 3 = nI P := f2.2.c3.1
  unfold F_TTx_readsPerson F_M_personLine
  rw [t8, h3]
  by_cases c : P = 8
  · subst c
    have ew : F_M_wrong (up s 333 11 (nI (stF b n (posI b n i)))) (nI (posI b n i)) = up (up s 333 11 (nI (stF b n (posI b n i)))) 333 12 (nI (posI b n i)) := by
      unfold F_M_wrong
      rw [f2.1.2.2.2, if_pos rfl, bind_T]
    obtain ⟨k1, k2, k3⟩ := h.flt (a' := stF b n (posI b n i)) (s1 := up (up s 333 11 (nI (stF b n (posI b n i)))) 333 12 (nI (posI b n i))) (stF_is (h.1.1.pos.2.mpr hi)).2 rfl
    rw [if_neg (by decide), if_pos (by decide), c_ref h.1.1, bind_T, bind_T, ew, f_fig k2, ob_s, if_neg k2.ne]
    dsimp only
    rw [show (0 : Int32) &&& 1 = 0 by decide]
    exact ⟨_, 0, _, rfl, rfl, Or.inr ⟨rfl, k1⟩⟩
  · rw [if_pos (show nI P < 8 from nI_lt (b := 8) (by omega) (by omega)), if_neg (show ¬ nI P = 8 from fun e => c (nI_inj (b := 8) (by omega) (by omega) e)), f1, ob_s]
    rcases tw_num f2 (high := 999) (by decide) with ⟨v, σ2, hv, e1, e2, e3⟩ | ⟨s1, v, a', e1, e2, e3, e4, -⟩
    · rw [show (999 : Int32) = nI 999 by decide, e1, e2, ob_s, ob_s]
      dsimp only
      rw [if_neg (m1_ne v (by omega)), if_pos e3.1.2.2.2, bind_T, e3.2.c3.1, bind_T, m_has0 (by omega), ob_s, m_has1 (by omega), ob_s, m_has2 (by omega), ob_s, m_has3 (by omega), ob_s]
      obtain ⟨s5, z1, z2, z3, z4, z5⟩ := m_zero (P := P) (by omega) (nI (posI b n i)) (nI v) (up (up (up (up (up (up s 333 11 (nI (stF b n (posI b n i)))) 333 11 (nI (stF b n (posI b n (i + 1))))) 334 (14 + 4 * P) (nI v)) 334 (15 + 4 * P) 0) 334 (16 + 4 * P) (-1)) 334 (17 + 4 * P) 0)
      rw [z1, ob_s, bind_T]
      have ea : F_Town_addPerson σ2 61 (nI v) = up (up (up σ2 (61 + 2) P (nI v)) (61 + 6) P (-1)) 61 8 (nI (P + 1)) := by
        unfold F_Town_addPerson
        rw [show σ2 61 8 = nI P from e3.2.c2.1, t_putW (by omega), bind_T, up_d (by omega), show σ2 61 8 = nI P from e3.2.c2.1, t_putR (by omega), bind_T, up_d (by omega), up_d (by omega), show σ2 61 8 = nI P from e3.2.c2.1, nI_1, bind_T]
      have e53 : s5 334 3 = nI P := by
        rw [z3 3 (by omega), up_d (by omega), up_d (by omega), up_d (by omega), up_d (by omega)]
        exact e3.2.c3.1
      rw [ea, e53, nI_1]
      have low : ∀ j, (j < 46 ∨ 110 ≤ j) → j ≠ 3 → (j < 14 + 4 * P ∨ 18 + 4 * P ≤ j) → up s5 334 3 (nI (P + 1)) 334 j = (up (up s 333 11 (nI (stF b n (posI b n i)))) 333 11 (nI (stF b n (posI b n (i + 1))))) 334 j := fun j h1 h2 h3 => by
        rw [up_d (by omega), z3 j h1, up_d (by omega), up_d (by omega), up_d (by omega), up_d (by omega)]
      refine ⟨_, 1, _, rfl, rfl, Or.inl ⟨rfl, i + 1 + 1, stF b n (posI b n (i + 1)), P + 1, M, ?_, ?_⟩⟩
      · refine e3.1.of (fun q h1 h2 j => ?_) (fun j => ?_) (fun j => ?_) (fun j h1 h2 => ?_)
        · rw [up_d (by omega), up_d (by omega), up_d (by omega)]
        · rw [up_d (by omega), z5 333 j (by omega), up_d (by omega), up_d (by omega), up_d (by omega), up_d (by omega)]
        · rw [up_d (by omega), z5 338 j (by omega), up_d (by omega), up_d (by omega), up_d (by omega), up_d (by omega)]
        · exact low j (by omega) (by omega) (by omega)
      · refine e3.2.addPerson (n0 := v) (by omega) (by omega) (fun r k hr => ?_) (fun j h1 h2 h3 h4 => low j h4 h2 h3) (fun j hj => ?_) ?_ ?_ ?_ ?_ ?_ ?_ ?_ ?_ (fun p o hp ho => ?_) (fun o ho => ?_)
        · show up (up (up σ2 (61 + 2) P (nI v)) (61 + 6) P (-1)) 61 8 (nI (P + 1)) (61 + r) k = σ2 (61 + r) k
          rw [up_d (by omega), up_d (by omega), up_d (by omega)]
        · rw [low j (by omega) (by omega) (by omega)]
          exact e3.2.c16 j hj
        · exact up_s
        · show up (up (up σ2 (61 + 2) P (nI v)) (61 + 6) P (-1)) 61 8 (nI (P + 1)) (61 + 2) P = _
          rw [up_d (by omega), up_d (by omega), up_s]
        · show up (up (up σ2 (61 + 2) P (nI v)) (61 + 6) P (-1)) 61 8 (nI (P + 1)) (61 + 6) P = _
          rw [up_d (by omega), up_s]
        · exact up_s
        · rw [up_d (by omega), z3 _ (by omega), up_d (by omega), up_d (by omega), up_d (by omega), up_s]
        · rw [up_d (by omega), z3 _ (by omega), up_d (by omega), up_d (by omega), up_s]
        · rw [up_d (by omega), z3 _ (by omega), up_d (by omega), up_s]
        · rw [up_d (by omega), z3 _ (by omega), up_s]
        · rw [up_d (by omega), z4 p o hp ho, up_d (by omega), up_d (by omega), up_d (by omega), up_d (by omega)]
        · rw [up_d (by omega), up_d (by omega)]
          exact z2 o ho
    · rw [show (999 : Int32) = nI 999 by decide, e1, e2, ob_s, ob_s]
      dsimp only
      rw [if_pos rfl, if_neg e4.ne]
      exact ⟨_, _, _, rfl, rfl, Or.inr ⟨rfl, e3⟩⟩
theorem line_set (h : TW b n T g P M C i a σ s) (hi : i < T) {v : Nat} (hv : v = 5 ∨ v = 6 ∨ v = 7) : LRS b n T g C (F_TTx_readsSetting σ (nI v)) (F_M_tells (up s 333 11 (nI (stF b n (posI b n i)))) (nI v) (if v = 6 then 20 else 99)) := by
  obtain ⟨σ1, f1, f2, f3⟩ := h.next hi
  have key : ∀ (c j : Nat) (high : Nat), high < 1000 → c < 20 → c ≠ 8 → c ≠ 10 → j < 20 → (∀ v, v ≤ high → TR (tv σ1 61) ((up s 333 11 (nI (stF b n (posI b n i)))) 334) g P M C → ∀ σ2 s2 : Mem, TR (tv σ2 61) (s2 334) g P M C → TR (tv (up σ2 61 c (nI v)) 61) ((up s2 334 j (nI v)) 334) g P M C) → LRS b n T g C (obind (F_Text_takeNumber σ1 54 (nI high)) fun z5 => (if z5.2 = (-1) then some ((z5.1, 0)) else some (up z5.1 61 c z5.2, 1))) (F_M_tells (up s 333 11 (nI (stF b n (posI b n i)))) (nI j) (nI high)) := fun c j high hh hc hc8 hc10 hj hTR => by
    unfold F_M_tells
    rcases tw_num f2 hh with ⟨v, σ2, hv, e1, e2, e3⟩ | ⟨s1, v, a', e1, e2, e3, e4, -⟩
    · rw [e1, e2, ob_s, ob_s]
      dsimp only
      rw [if_neg (m1_ne v (by omega)), if_pos e3.1.2.2.2, p_inb (by omega) (by decide), chk_t, bind_T, p_cl (by omega)]
      refine ⟨_, 1, _, rfl, rfl, Or.inl ⟨rfl, i + 1 + 1, _, P, M, e3.1.of (fun q h1 h2 j => up_d (by omega)) (fun j => up_d (by omega)) (fun j => up_d (by omega)) (fun j h1 h2 => up_d (by omega)), hTR v hv f2.2 _ _ e3.2⟩⟩
    · rw [e1, e2, ob_s, ob_s]
      dsimp only
      rw [if_pos rfl, if_neg e4.ne]
      exact ⟨_, _, _, rfl, rfl, Or.inr ⟨rfl, e3⟩⟩
  unfold F_TTx_readsSetting
  rcases hv with rfl | rfl | rfl
  · rw [p_inb (by decide) (by decide), chk_t, if_pos (show nI 5 = 5 by decide), f1, ob_s, if_neg (show ¬ nI 5 = 6 by decide), if_neg (by decide)]
    refine key 12 5 99 (by decide) (by decide) (by decide) (by decide) (by decide) (fun v hv _ σ2 s2 hT => ?_)
    rw [tv_up0, mv_up]
    exact hT.bar hv
  · rw [p_inb (by decide) (by decide), chk_t, if_neg (show ¬ nI 6 = 5 by decide), if_pos (show nI 6 = 6 by decide), f1, ob_s, if_pos (show nI 6 = 6 by decide), if_pos rfl]
    refine key 13 6 20 (by decide) (by decide) (by decide) (by decide) (by decide) (fun v hv _ σ2 s2 hT => ?_)
    rw [tv_up0, mv_up]
    exact hT.prem hv
  · rw [p_inb (by decide) (by decide), chk_t, if_neg (show ¬ nI 7 = 5 by decide), if_neg (show ¬ nI 7 = 6 by decide), if_pos (show nI 7 = 7 by decide), f1, ob_s, if_neg (show ¬ nI 7 = 6 by decide), if_neg (by decide)]
    refine key 14 7 99 (by decide) (by decide) (by decide) (by decide) (by decide) (fun v hv _ σ2 s2 hT => ?_)
    rw [tv_up0, mv_up]
    exact hT.pays hv
theorem line_asked (h : TW b n T g P M C i a σ s) (hi : i < T) : LRS b n T g C (F_TTx_readsTwo σ 1) (obind (F_M_who (up s 333 11 (nI (stF b n (posI b n i))))) fun z27 => obind (F_M_other z27.1 z27.2) fun z28 => (if (z28.1 333 12) = (-1) then obind (F_M_of z28.1 z27.2 1) fun z30 => obind (F_M_has z28.1 z27.2 1 ((z30 ||| ((1 : Int32) <<< ((z28.2 : Int32) &&& 31))))) fun z31 => some z31 else some z28.1)) := by
  have hP := h.2.c1.1
  obtain ⟨σ1, f1, f2, f3⟩ := h.next hi
  unfold F_TTx_readsTwo
  rw [f1, ob_s]
  rcases some_A f2 with ⟨p, σ2, hp, e1, e2, e3⟩ | ⟨s1, v, a', e1, e2, e3, e4, -⟩
  · rw [e1, e2, ob_s, ob_s]
    dsimp only
    rw [if_neg (m1_ne p (by omega))]
    rcases some_B e3 hp with ⟨o, σ3, s3, a3, ho, hop, g1, g2, g3⟩ | ⟨s3, v, a', g1, g2, g3, g4, -⟩
    · rw [g1, g2, ob_s, ob_s]
      dsimp only
      rw [if_neg (m1_ne o (by omega)), if_neg (show ¬ (1 : Int32) = 0 by decide), if_pos g3.1.2.2.2, m_of1 (by omega), ob_s, m_has1 (by omega), ob_s, bind_T]
      have ea : (F_Town_addAsked σ3 61 (nI p) (nI o)).1 = up σ3 (61 + 4) p (σ3 (61 + 4) p ||| ((1 : Int32) <<< (nI o &&& 31))) := by
        unfold F_Town_addAsked
        rw [t_asked (by omega), bind_T, t_putA (by omega), bind_T]
        split <;> rfl
      rw [ea]
      refine ⟨_, 1, _, rfl, rfl, Or.inl ⟨rfl, i + 1 + 1 + 1, _, P, M, g3.1.of (fun q h1 h2 j => up_d (by omega)) (fun j => up_d (by omega)) (fun j => up_d (by omega)) (fun j h1 h2 => up_d (by omega)), ?_⟩⟩
      rw [tv_up, mv_up, (g3.2.c6 p hp).2.1]
      exact g3.2.asked hp
    · rw [g1, g2, ob_s, ob_s]
      dsimp only
      rw [if_pos rfl, if_neg g4.ne]
      exact ⟨_, _, _, rfl, rfl, Or.inr ⟨rfl, g3⟩⟩
  · rw [e1, e2, ob_s, ob_s]
    dsimp only
    rw [if_pos rfl, f_other e4, ob_s]
    dsimp only
    rw [if_neg (f_here e4).ne]
    obtain ⟨w, a1, w1, w2, w3, w4⟩ := e3
    exact ⟨_, _, _, rfl, rfl, Or.inr ⟨rfl, posI b n (i + 1), _, e4.2.2, up_s, f_here e4, fun j h1 h2 => by rw [up_d (by omega)]; exact w4 j h1 h2⟩⟩
theorem line_reins (h : TW b n T g P M C i a σ s) (hi : i < T) : LRS b n T g C (F_TTx_readsTwo σ 0) (obind (F_M_who (up s 333 11 (nI (stF b n (posI b n i))))) fun z23 => obind (F_M_other z23.1 z23.2) fun z24 => (if (z24.1 333 12) = (-1) then obind (F_M_has z24.1 z23.2 2 z24.2) fun z26 => some z26 else some z24.1)) := by
  have hP := h.2.c1.1
  obtain ⟨σ1, f1, f2, f3⟩ := h.next hi
  unfold F_TTx_readsTwo
  rw [f1, ob_s]
  rcases some_A f2 with ⟨p, σ2, hp, e1, e2, e3⟩ | ⟨s1, v, a', e1, e2, e3, e4, -⟩
  · rw [e1, e2, ob_s, ob_s]
    dsimp only
    rw [if_neg (m1_ne p (by omega))]
    rcases some_B e3 hp with ⟨o, σ3, s3, a3, ho, hop, g1, g2, g3⟩ | ⟨s3, v, a', g1, g2, g3, g4, -⟩
    · rw [g1, g2, ob_s, ob_s]
      dsimp only
      rw [if_neg (m1_ne o (by omega)), if_pos (rfl : (0 : Int32) = 0), if_pos g3.1.2.2.2, m_has2 (by omega), ob_s, t_putR (by omega), bind_T]
      refine ⟨_, 1, _, rfl, rfl, Or.inl ⟨rfl, i + 1 + 1 + 1, _, P, M, g3.1.of (fun q h1 h2 j => up_d (by omega)) (fun j => up_d (by omega)) (fun j => up_d (by omega)) (fun j h1 h2 => up_d (by omega)), ?_⟩⟩
      rw [tv_up, mv_up]
      exact g3.2.reins hp (Or.inr ⟨o, ho, hop, rfl⟩)
    · rw [g1, g2, ob_s, ob_s]
      dsimp only
      rw [if_pos rfl, if_neg g4.ne]
      exact ⟨_, _, _, rfl, rfl, Or.inr ⟨rfl, g3⟩⟩
  · rw [e1, e2, ob_s, ob_s]
    dsimp only
    rw [if_pos rfl, f_other e4, ob_s]
    dsimp only
    rw [if_neg (f_here e4).ne]
    obtain ⟨w, a1, w1, w2, w3, w4⟩ := e3
    exact ⟨_, _, _, rfl, rfl, Or.inr ⟨rfl, posI b n (i + 1), _, e4.2.2, up_s, f_here e4, fun j h1 h2 => by rw [up_d (by omega)]; exact w4 j h1 h2⟩⟩
end TLO

-- PURE STAGE: the town's lines of likings and weddings
section TLW
variable {b : Nat → Nat} {n T i a : Nat} {σ s : Mem} {g : Nat → Int32} {P M C : Nat}
theorem CTk_of {σ1 : Mem} (h : CTk 54 b n T i σ) (e : ∀ q, 54 ≤ q → q ≤ 60 → ∀ j, σ1 q j = σ q j) : CTk 54 b n T i σ1 := by
  obtain ⟨⟨⟨t1, t2, t3, t4⟩, ⟨u1, u2⟩, v1, v2, v3⟩, w1, w2, w3, w4⟩ := h
  refine ⟨⟨⟨t1, by rw [e 54 (by omega) (by omega)]; exact t2, fun j hj => by rw [e (54 + 2) (by omega) (by omega)]; exact t3 j hj, t4⟩, ⟨by rw [e 54 (by omega) (by omega)]; exact u1, fun k hk => ?_⟩, v1, v2, v3⟩, ⟨by rw [e 54 (by omega) (by omega)]; exact w1.1, by rw [e 54 (by omega) (by omega)]; exact w1.2⟩, by rw [e 54 (by omega) (by omega)]; exact w2, fun h => ?_, fun h => ?_⟩
  · rw [e (54 + 3) (by omega) (by omega), e (54 + 4) (by omega) (by omega), e (54 + 5) (by omega) (by omega), e (54 + 6) (by omega) (by omega)]
    exact u2 k hk
  · rw [e 54 (by omega) (by omega), e 54 (by omega) (by omega), e 54 (by omega) (by omega)]
    exact w3 h
  · rw [e 54 (by omega) (by omega), e 54 (by omega) (by omega), e 54 (by omega) (by omega)]
    exact w4 h
theorem RP_of {s1 : Mem} (h : RP b n a s) (e1 : ∀ j, s1 333 j = s 333 j) (e2 : ∀ j, s1 338 j = s 338 j) (e3 : ∀ j, 450 ≤ j → j < 850 → s1 334 j = s 334 j) : RP b n a s1 := by
  obtain ⟨r1, r2, r3, r4, r5, r6⟩ := h
  exact ⟨r1, r2, (e1 _).trans r3, (e1 _).trans r4, r5, r6.to (e1 9) e2 e3 r1⟩
theorem st_dg {p : Nat} (hp : p < n) (hd : dgt (b p) = true) : stF b n p = dgE b n p := by
  have cl : ltr (b p) = false := by
    unfold dgt at hd
    have := of_decide_eq_true hd
    exact decide_eq_false (by omega)
  unfold stF dgE
  rw [cl, if_neg (by decide), if_pos hd, show n - p = (n - (p + 1)) + 1 by omega, rn_s, if_pos hd]
theorem kd28 {t : Nat} (h : CTk t b n T i σ) : σ t 8 = 28 ↔ (i < T ∧ dgt (b (posI b n i)) = true) := by
  obtain ⟨p1, p2⟩ := h.pos
  obtain ⟨-, -, h8, h9⟩ := h.2
  by_cases c : i < T
  · have hp := p2.mpr c
    have hk := kdF_le (b := b) (n := n) (p := posI b n i)
    rw [(h8 c).1]
    constructor
    · intro e
      refine ⟨c, ?_⟩
      have e2 : kdF b n (posI b n i) = 28 := nI_inj (b := 28) (by omega) (by omega) e
      cases hd : dgt (b (posI b n i)) with
      | true => rfl
      | false =>
        unfold kdF at e2
        rw [hd, if_neg (by decide)] at e2
        rcases kdR_of _ _ e2 with q | q
        · omega
        · have := (wAt_is.mp q).1
          have h9 := (stF_is (b := b) hp).1
          have h10 : lenS.getD (kindS.getD 28 0) 0 = 0 := by decide
          omega
    · intro e
      unfold kdF
      rw [if_pos e.2]
      rfl
  · rw [(h9 (by have := h.1.2.2.2.2; omega)).1]
    exact ⟨fun e => absurd e (by decide), fun e => absurd e.1 c⟩
/-- so many digits follow -/
theorem m_cntd {v1 v2 : Int32} {p : Nat} (h : RP b n p s) : whl (fun t => F_M_likings_21_b s v1 v2 t) FUEL 0 = some (nI (dgE b n p - p)) := by
  have hn := h.1
  obtain ⟨r1, r2, r3, r4⟩ := rn_is (c := dgt) (b := b) (n - p) p
  have hp := h.2.1
  have e := whl_n (F := fun t => F_M_likings_21_b s v1 v2 t) (fun k => nI k) (dgE b n p - p) (nI (dgE b n p - p)) (by unfold FUEL dgE; omega) (fun k hk => by
    unfold dgE at hk
    have hb := h.2.2.2.2.1 (p + k) (by omega)
    unfold F_M_likings_21_b
    rw [h.2.2.1, h.2.2.2.1, nI_add, if_pos (nI_lt (by omega) (by omega)), h.letter (by omega), ob_s, m_isD hb, r4 _ (by omega) (by omega), if_neg (by decide), bind_T, nI_1]) (by
    unfold F_M_likings_21_b dgE
    rw [h.2.2.1, h.2.2.2.1, nI_add, show p + (rn dgt b (n - p) p - p) = rn dgt b (n - p) p by omega]
    by_cases c : rn dgt b (n - p) p < n
    · have hb := h.2.2.2.2.1 _ c
      rw [if_pos (nI_lt c (by omega)), h.letter c, ob_s, m_isD hb, r3 (by omega), if_pos (by decide)]
    · rw [if_neg (nI_nlt (by omega) (by omega))])
  exact e
/-- the likings, one by one -/
theorem likes_loop {p q0 : Nat} (hp : p < P) (v2 v3 : Int32) (hd : ∀ k, k < P → q0 + k < n ∧ dgt (b (q0 + k)) = true) (hq : posI b n i = q0) : ∀ (d o : Nat) (σ s : Mem), d + o = P → CTk 54 b n T i σ → RP b n (q0 + o) s → s 333 12 = -1 → TR (tv σ 61) (s 334) g P M C → ∀ fuel, d < fuel →
    ∃ x s1, whl (fun t => F_TTx_readsLikes_54_b (nI p) t.1 t.2) fuel (nI o, σ) = some x ∧ forSO (fun i s => F_M_likings_79_b (nI p) v2 v3 i s) d (nI o) s = some s1 ∧ CTk 54 b n T i x.2 ∧ RP b n (q0 + P) s1 ∧ s1 333 12 = -1 ∧ TR (tv x.2 61) (s1 334) g P M C := by
  intro d
  induction d with
  | zero =>
    intro o σ s ho hC hR h12 hT fuel hf
    obtain ⟨f2, rfl⟩ : ∃ f2, fuel = f2 + 1 := ⟨fuel - 1, by omega⟩
    obtain rfl : o = P := by omega
    have hP := hT.c1.1
    refine ⟨(nI o, σ), s, whl_r ?_, rfl, hC, hR, h12, hT⟩
    show F_TTx_readsLikes_54_b (nI p) (nI o) σ = _
    unfold F_TTx_readsLikes_54_b
    rw [show σ 61 8 = nI o from hT.c2.1, if_neg (nI_nlt (by omega) (by omega))]
  | succ d ih =>
    intro o σ s ho hC hR h12 hT fuel hf
    obtain ⟨f2, rfl⟩ : ∃ f2, fuel = f2 + 1 := ⟨fuel - 1, by omega⟩
    have hP := hT.c1.1
    obtain ⟨d1, d2⟩ := hd o (by omega)
    have hn := hR.1
    have t8 : σ 61 8 = nI P := hT.c2.1
    have e11 : s 333 11 + 1 = nI (q0 + (o + 1)) := by rw [hR.2.2.2.1, nI_1]; rfl
    by_cases c : o = p
    · subst c
      have hR2 : RP b n (q0 + (o + 1)) (up s 333 11 (nI (q0 + (o + 1)))) := hR.at_ (by omega)
      obtain ⟨x, s1, g1, g2, g3⟩ := ih (o + 1) σ (up s 333 11 (nI (q0 + (o + 1)))) (by omega) hC hR2 (by rw [up_d (by omega)]; exact h12) (hT.keepM (up_r (by omega))) f2 (by omega)
      refine ⟨x, s1, Eq.trans (whl_l ?_) g1, ?_, g3⟩
      · show F_TTx_readsLikes_54_b (nI o) (nI o) σ = _
        unfold F_TTx_readsLikes_54_b
        rw [t8, if_pos (nI_lt (by omega) (by omega)), if_pos rfl, bind_T, nI_1]
      · show obind (F_M_likings_79_b (nI o) v2 v3 (nI o) s) (fun s' => forSO _ d (nI o + 1) s') = _
        unfold F_M_likings_79_b
        rw [if_pos rfl, bind_T, e11, ob_s, nI_1]
        exact g2
    · have hd3 := of_decide_eq_true d2
      have hb := hR.2.2.2.2.1 (q0 + o) d1
      have vb : nI (b (q0 + o)) - 48 = nI (b (q0 + o) - 48) := pk_sub (b := 48) (by omega)
      have eC : F_Row_at σ 55 400 (σ 54 9 + nI o) = nI (b (q0 + o)) := by
        rw [hC.2.2.1, hq, nI_add]
        exact hC.1.1.at_ d1
      have hR3 : RP b n (q0 + o) (up s 334 (46 + 8 * p + o) (nI (b (q0 + o) - 48))) := RP_of hR (fun j => up_d (by omega)) (fun j => up_d (by omega)) (fun j _ _ => up_d (by omega))
      have hR2 : RP b n (q0 + (o + 1)) (up (up s 334 (46 + 8 * p + o) (nI (b (q0 + o) - 48))) 333 11 (nI (q0 + (o + 1)))) := hR3.at_ (by omega)
      have hT2 : TR (tv (up σ (61 + 8) (8 * p + o) (nI (b (q0 + o) - 48))) 61) ((up (up s 334 (46 + 8 * p + o) (nI (b (q0 + o) - 48))) 333 11 (nI (q0 + (o + 1)))) 334) g P M C := by
        rw [up_r (by omega), tv_up, mv_up]
        exact hT.like hp (by omega) (by omega)
      obtain ⟨x, s1, g1, g2, g3⟩ := ih (o + 1) (up σ (61 + 8) (8 * p + o) (nI (b (q0 + o) - 48))) (up (up s 334 (46 + 8 * p + o) (nI (b (q0 + o) - 48))) 333 11 (nI (q0 + (o + 1)))) (by omega) (CTk_of hC fun q h1 h2 j => up_d (by omega)) hR2 (by rw [up_d (by omega), up_d (by omega)]; exact h12) hT2 f2 (by omega)
      refine ⟨x, s1, Eq.trans (whl_l ?_) g1, ?_, g3⟩
      · show F_TTx_readsLikes_54_b (nI p) (nI o) σ = _
        unfold F_TTx_readsLikes_54_b F_Town_setLiking
        rw [t8, if_pos (nI_lt (by omega) (by omega)), if_neg (fun e => c (nI_inj (by omega) (by omega) e)), eC, vb, show nI p * (8 : Int32) = nI (p * 8) from pk_mul p 8, nI_add, t_putL (by omega), bind_T, bind_T, bind_T, nI_1, Nat.mul_comm]
      · show obind (F_M_likings_79_b (nI p) v2 v3 (nI o) s) (fun s' => forSO _ d (nI o + 1) s') = _
        unfold F_M_likings_79_b
        rw [if_neg (fun e => c (nI_inj (by omega) (by omega) e)), hR.2.2.2.1, hR.letter d1, ob_s, ix_l, bind_T, p_inb (by omega) (by decide), chk_t, p_cl (by omega), vb, bind_T, up_d (by omega), e11, bind_T, ob_s, nI_1]
        exact g2
theorem line_likes (h : TW b n T g P M C i a σ s) (hi : i < T) : LRS b n T g C (F_TTx_readsLikes σ) (F_M_likings (up s 333 11 (nI (stF b n (posI b n i))))) := by
  have hP := h.2.c1.1
  obtain ⟨σ1, f1, f2, f3⟩ := h.next hi
  unfold F_TTx_readsLikes F_M_likings
  rw [f1, ob_s]
  rcases some_A f2 with ⟨p, σ2, hp, e1, e2, e3⟩ | ⟨s1, v, a', e1, e2, e3, e4, -⟩
  · rw [e1, e2, ob_s, ob_s]
    dsimp only
    have hh := e3.here
    obtain ⟨k, hk, ek⟩ := e3.1.1.in31
    have hin : inb (σ2 54 8) 31 = true := by rw [ek]; exact p_inb hk (by decide)
    rw [if_neg (m1_ne p (by omega)), if_pos e3.1.2.2.2, sy_place e3.1, ob_s, hin, chk_t]
    dsimp only
    rw [m_cntd hh.1.2.1, ob_s]
    have h3P : (up (up (up s 333 11 (nI (stF b n (posI b n i)))) 333 11 (nI (stF b n (posI b n (i + 1))))) 333 11 (nI (posI b n (i + 1 + 1)))) 334 3 = nI P := hh.2.c3.1
    have t8 : σ2 61 8 = nI P := e3.2.c2.1
    have kd := kd28 e3.1.1
    have hn := h.1.2.1.1
    obtain ⟨q1, q2⟩ := e3.1.1.pos
    have r2 := (rn_is (c := dgt) (b := b) (n - posI b n (i + 1 + 1)) (posI b n (i + 1 + 1)))
    have ew : F_M_wrong (up (up (up s 333 11 (nI (stF b n (posI b n i)))) 333 11 (nI (stF b n (posI b n (i + 1))))) 333 11 (nI (posI b n (i + 1 + 1)))) (nI (posI b n (i + 1 + 1))) = up (up (up (up s 333 11 (nI (stF b n (posI b n i)))) 333 11 (nI (stF b n (posI b n (i + 1))))) 333 11 (nI (posI b n (i + 1 + 1)))) 333 12 (nI (posI b n (i + 1 + 1))) := by
      unfold F_M_wrong
      rw [hh.1.2.2.2, if_pos rfl, bind_T]
    obtain ⟨k1, k2, k3⟩ := e3.flt (a' := posI b n (i + 1 + 1)) q1 rfl
    by_cases c : σ2 54 8 = 28
    · obtain ⟨c1, c2⟩ := kd.mp c
      have hp2 := q2.mpr c1
      obtain ⟨-, w10, -⟩ := e3.1.1.2.2.2.1 c1
      have es := st_dg hp2 c2
      have hlt := (stF_is (b := b) hp2).1
      have ed : σ2 54 10 - σ2 54 9 = nI (dgE b n (posI b n (i + 1 + 1)) - posI b n (i + 1 + 1)) := by
        rw [w10, e3.1.1.2.2.1, es]
        exact pk_sub (by omega)
      rw [if_pos c]
      by_cases c3 : dgE b n (posI b n (i + 1 + 1)) - posI b n (i + 1 + 1) = P
      · obtain ⟨x, s5, g1, g2, g3, g4, g5, g6⟩ := likes_loop (b := b) (n := n) (T := T) (i := i + 1 + 1) (g := g) (M := M) (C := C) hp (nI (posI b n (i + 1 + 1))) (nI P) (fun u hu => ⟨by unfold dgE at c3; omega, r2.2.2.2 _ (by omega) (by unfold dgE at c3; omega)⟩) rfl P 0 σ2 _ (by omega) e3.1.1 (by rw [Nat.add_zero]; exact hh.1.2.1) hh.1.2.2.2 hh.2 FUEL (by unfold FUEL; omega)
        rw [nI_0] at g1 g2
        rw [if_pos (by rw [ed, c3, t8]), if_pos (by rw [c3, h3P]), c3, p_cnt0 (by omega), g1, g2, ob_s, ob_s]
        obtain ⟨h1, h2, h3, h4, h5⟩ := g3.1
        obtain ⟨σ3, k1, k2, k3⟩ := c_adv (i := i + 1 + 1 + 1) h1 h2 h3 h4 (by omega) (by rw [g3.2.1.1, nI_1]) g3.2.1.2
        rw [k1, ob_s]
        have est : posI b n (i + 1 + 1) + P = stF b n (posI b n (i + 1 + 1)) := by omega
        rw [est] at g4
        exact ⟨_, 1, _, rfl, rfl, Or.inl ⟨rfl, i + 1 + 1 + 1, _, P, M, ⟨k2, g4, rfl, g5⟩, g6.keepT fun r hr j => k3 _ _ (by omega)⟩⟩
      · have hne : nI (dgE b n (posI b n (i + 1 + 1)) - posI b n (i + 1 + 1)) ≠ nI P := fun e => c3 (nI_inj (by unfold dgE; omega) (by omega) e)
        rw [if_neg (by rw [ed, t8]; exact hne), if_neg (by rw [h3P]; exact hne), c_ref e3.1.1, ew, bind_T, bind_T]
        dsimp only
        rw [show (0 : Int32) &&& 1 = 0 by decide]
        exact ⟨_, 0, _, rfl, rfl, Or.inr ⟨rfl, k1⟩⟩
    · have hN : dgE b n (posI b n (i + 1 + 1)) - posI b n (i + 1 + 1) = 0 := by
        by_cases c1 : i + 1 + 1 < T
        · have hp2 := q2.mpr c1
          unfold dgE
          rw [show n - posI b n (i + 1 + 1) = (n - (posI b n (i + 1 + 1) + 1)) + 1 by omega, rn_s, if_neg (fun hd => c (kd.mpr ⟨c1, hd⟩))]
          omega
        · have : posI b n (i + 1 + 1) = n := by
            have := mt q2.mp c1
            omega
          unfold dgE
          omega
      have hne : nI (dgE b n (posI b n (i + 1 + 1)) - posI b n (i + 1 + 1)) ≠ nI P := fun e => by
        rw [hN] at e
        have := nI_inj (by omega) (by omega) e
        omega
      rw [if_neg c, if_neg (by rw [h3P]; exact hne), c_ref e3.1.1, ew, bind_T, bind_T]
      dsimp only
      rw [show (0 : Int32) &&& 1 = 0 by decide]
      exact ⟨_, 0, _, rfl, rfl, Or.inr ⟨rfl, k1⟩⟩
  · rw [e1, e2, ob_s, ob_s]
    dsimp only
    rw [if_pos rfl, if_neg e4.ne]
    exact ⟨_, _, _, rfl, rfl, Or.inr ⟨rfl, e3⟩⟩
theorem comes_is {p o v : Nat} (h : TR (tv σ 61) (s 334) g P M C) (hp : p < P) (ho : o < P) (hpo : p ≠ o) (hv : v ≤ 99) (hM : M < 20) : ∃ σ1 s1, F_Town_addMatch σ 61 (nI p) (nI o) (nI v) = (σ1, nI M) ∧ F_M_comes s (nI p) (nI o) (nI v) = some s1 ∧ TR (tv σ1 61) (s1 334) g P (M + 1) C ∧ (∀ q j, (q < 61 ∨ 77 < q) → σ1 q j = σ q j) ∧ ∀ q j, q ≠ 334 ∨ 450 ≤ j → s1 q j = s q j := by
  have hP := h.c1.1
  have t10 : σ 61 10 = nI M := h.c2.2.1
  have m4 : s 334 4 = nI M := h.c3.2.1
  have ec : F_Town_addMatch σ 61 (nI p) (nI o) (nI v) = (up (up (up (up (up σ (61 + 10) (2 * M) (nI p)) (61 + 10) (2 * M + 1) (nI o)) (61 + 12) M (nI v)) (61 + 14) M 0) 61 10 (nI (M + 1)), nI M) := by
    unfold F_Town_addMatch
    simp only [bind_T]
    rw [t10, show (2 : Int32) * nI M = nI (2 * M) from pk_mul 2 M, t_putB (by omega), nI_1, t_putB (by omega), t_putH (by omega), t_putM (by omega), up_d (by omega), up_d (by omega), up_d (by omega), up_d (by omega), t10, nI_1]
  have em : F_M_comes s (nI p) (nI o) (nI v) = some (up (up (up (up (up (up s 334 (110 + 5 * M) (nI p)) 334 (111 + 5 * M) (nI o)) 334 (112 + 5 * M) (nI v)) 334 (113 + 5 * M) 0) 334 (114 + 5 * M) 0) 334 4 (nI (M + 1))) := by
    unfold F_M_comes
    rw [m4, bind_T, m_told0 (by omega), ob_s, m_told1 (by omega), ob_s, m_told2 (by omega), ob_s, m_told3 (by omega), ob_s, m_told4 (by omega), ob_s, bind_T, up_d (by omega), up_d (by omega), up_d (by omega), up_d (by omega), up_d (by omega), m4, nI_1]
  refine ⟨_, _, ec, em, ?_, fun q j hq => ?_, fun q j hq => ?_⟩
  · refine h.addMatch (g2 := g) (a := p) (b := o) (n0 := v) hM hp ho hpo hv (fun r k hr => ?_) (fun j h1 h2 h3 => ?_) (fun j hj => ?_) ?_ ?_ ?_ ?_ ?_ ?_ ?_ ?_ ?_ ?_ ?_
    · show up _ 61 10 _ (61 + r) k = σ (61 + r) k
      rw [up_d (by omega), up_d (by omega), up_d (by omega), up_d (by omega), up_d (by omega)]
    · rw [up_d (by omega), up_d (by omega), up_d (by omega), up_d (by omega), up_d (by omega), up_d (by omega)]
    · rw [up_d (by omega), up_d (by omega), up_d (by omega), up_d (by omega), up_d (by omega), up_d (by omega)]
      exact h.c16 j hj
    · show up _ 61 10 _ 61 10 = _
      rw [up_s]
    · show up _ 61 10 _ (61 + 10) (2 * M) = _
      rw [up_d (by omega), up_d (by omega), up_d (by omega), up_d (by omega), up_s]
    · show up _ 61 10 _ (61 + 10) (2 * M + 1) = _
      rw [up_d (by omega), up_d (by omega), up_d (by omega), up_s]
    · show up _ 61 10 _ (61 + 12) M = _
      rw [up_d (by omega), up_d (by omega), up_s]
    · show up _ 61 10 _ (61 + 14) M = _
      rw [up_d (by omega), up_s]
    · rw [up_s]
    · rw [up_d (by omega), up_d (by omega), up_d (by omega), up_d (by omega), up_d (by omega), up_s]
    · rw [up_d (by omega), up_d (by omega), up_d (by omega), up_d (by omega), up_s]
    · rw [up_d (by omega), up_d (by omega), up_d (by omega), up_s]
    · rw [up_d (by omega), up_d (by omega), up_s]
    · rw [up_d (by omega), up_s]
  · rw [up_d (by omega), up_d (by omega), up_d (by omega), up_d (by omega), up_d (by omega)]
  · rw [up_d (by omega), up_d (by omega), up_d (by omega), up_d (by omega), up_d (by omega), up_d (by omega)]
/-- what the reference does with the rest of a wedding's line behind a fault -/
theorem wed_rest {w : Nat} (h : FSt b n w a s) (v : Int32) : ∃ a' s', (obind (F_M_place s) fun z5 => obind (F_M_other z5.1 v) fun z6 => obind (F_M_free z6.1 z6.2 z5.2) fun z7 => obind (F_M_after z7 16 0 99) fun z8 => (if (z8.1 333 12) = (-1) then obind (F_M_comes z8.1 v z6.2 z8.2) fun z10 => some z10 else some z8.1)) = some s' ∧ FSt b n w a' s' ∧ s' 334 = s 334 := by
  have h1 := f_here h
  have h2 := f_here h1
  rw [f_place h, ob_s]
  dsimp only
  rw [f_other h1, ob_s]
  dsimp only
  rw [f_free h2, ob_s, f_after h2, ob_s]
  dsimp only
  rw [if_neg h2.ne]
  exact ⟨_, _, rfl, h2, by rw [up_r (by omega), up_r (by omega)]⟩
theorem line_wed (h : TW b n T g P M C i a σ s) (hi : i < T) : LRS b n T g C (F_TTx_readsWed σ) (F_M_wedLine (up s 333 11 (nI (stF b n (posI b n i)))) (nI (posI b n i))) := by
  have hP := h.2.c1.1
  have hM := h.2.c1.2.1
  obtain ⟨σ1, f1, f2, f3⟩ := h.next hi
  have t10 : σ 61 10 = nI M := h.2.c2.2.1
  have h4 : (up s 333 11 (nI (stF b n (posI b n i)))) 334 4 = nI M := f2.2.c3.2.1
  have g16 : ∀ {s1 s2 : Mem} {w a' : Nat}, FSt b n w a' s2 → s2 334 = s1 334 → (∀ j, 450 ≤ j → j < 850 → s1 334 j = g j) → LFL b n g (up σ 54 12 (nI w)) s2 := fun {s1 s2 w a'} k1 k2 k3 => ⟨w, a', k1.2.2, up_s, k1, fun j j1 j2 => by rw [k2]; exact k3 j j1 j2⟩
  unfold F_TTx_readsWed F_M_wedLine
  rw [t10, h4]
  by_cases c : M = 20
  · subst c
    have ew : F_M_wrong (up s 333 11 (nI (stF b n (posI b n i)))) (nI (posI b n i)) = up (up s 333 11 (nI (stF b n (posI b n i)))) 333 12 (nI (posI b n i)) := by
      unfold F_M_wrong
      rw [f2.1.2.2.2, if_pos rfl, bind_T]
    obtain ⟨k1, k2, k3⟩ := h.flt (a' := stF b n (posI b n i)) (s1 := up (up s 333 11 (nI (stF b n (posI b n i)))) 333 12 (nI (posI b n i))) (stF_is (h.1.1.pos.2.mpr hi)).2 rfl
    have k4 := f_here k2
    obtain ⟨a', s', r1, r2, r3⟩ := wed_rest k4 0
    rw [if_neg (by decide), if_pos (by decide), c_ref h.1.1, bind_T, bind_T, ew, f_place k2, ob_s]
    dsimp only
    rw [f_who k4, ob_s]
    dsimp only
    rw [f_free k4, ob_s, r1, show (0 : Int32) &&& 1 = 0 by decide]
    exact ⟨_, 0, _, rfl, rfl, Or.inr ⟨rfl, posI b n i, a', r2.2.2, up_s, r2, fun j j1 j2 => by rw [r3, up_d (by omega), k3]; exact h.2.c16 j (by omega)⟩⟩
  · rw [if_pos (show nI M < 20 from nI_lt (b := 20) (by omega) (by omega)), if_neg (show ¬ nI M = 20 from fun e => c (nI_inj (b := 20) (by omega) (by omega) e)), f1, ob_s]
    rcases some_C f2 with ⟨p, σ2, z2, z3, s2, a2, hp, hsp, e1, e2, e3, e4, e5, -⟩ | ⟨z2, z3, v, s2, a', e1, e2, e3, e4, -, e6, e7⟩
    · rw [e1, e2, ob_s, ob_s, e3, ob_s]
      dsimp only
      rw [e4, ob_s, if_neg (m1_ne p (by omega))]
      rcases some_D e5 hp with ⟨o, σ3, y2, y3, s3, a3, ho, hop, hsp2, d1, d2, d3, d4, d5⟩ | ⟨y2, y3, v, s3, a', d1, d2, d3, d4, d5, d6, d7⟩
      · rw [d1, d2, ob_s, ob_s, d3, ob_s]
        dsimp only
        rw [d4, ob_s, if_neg (m1_ne o (by omega))]
        obtain ⟨k, hk, ek⟩ := d5.1.1.in31
        have hin : inb (σ3 54 8) 31 = true := by rw [ek]; exact p_inb hk (by decide)
        obtain ⟨sy1, sy2⟩ := sy_says d5.1 (v := 16) (by decide)
        unfold F_Text_needs F_M_after
        rw [hin, chk_t, show inb 16 31 = true by decide, chk_t, if_pos d5.1.2.2.2]
        by_cases ck : σ3 54 8 = nI 16
        · have hi3 : i + 1 + 1 + 1 < T := d5.1.1.pos.2.mp ((d5.1.1.kind (v := 16) (by decide)).mp ck).1
          obtain ⟨σ4, w1, w2, w3⟩ := d5.next hi3
          rw [if_pos (show σ3 54 8 = 16 from ck), w1, ob_s, ob_s, sy1 ck, ob_s]
          dsimp only
          rw [if_neg (show ¬ (1 : Int32) = 0 by decide), if_neg (show ¬ (1 : Int32) = 0 by decide)]
          rcases tw_num w2 (high := 99) (by decide) with ⟨hp9, σ5, hv9, x1, x2, x3⟩ | ⟨s5, v, a', x1, x2, x3, x4, -⟩
          · rw [show (99 : Int32) = nI 99 by decide, x1, x2, ob_s, ob_s, ob_s]
            dsimp only
            obtain ⟨σ6, s6, y1, y2', y3', y4, y5⟩ := comes_is x3.2 hp ho (fun e => hop e.symm) hv9 (by omega)
            rw [if_neg (m1_ne hp9 (by omega)), if_pos x3.1.2.2.2, y1, y2', bind_T, ob_s]
            exact ⟨_, 1, _, rfl, rfl, Or.inl ⟨rfl, _, _, P, M + 1, x3.1.of (fun q h1 h2 j => y4 q j (by omega)) (fun j => y5 333 j (by omega)) (fun j => y5 338 j (by omega)) (fun j h1 h2 => y5 334 j (by omega)), y3'⟩⟩
          · rw [show (99 : Int32) = nI 99 by decide, x1, x2, ob_s, ob_s, ob_s]
            dsimp only
            rw [if_pos rfl, if_neg x4.ne]
            exact ⟨_, _, _, rfl, rfl, Or.inr ⟨rfl, x3⟩⟩
        · have hh := d5.here
          have ew : F_M_wrong (up s3 333 11 (nI (posI b n (i + 1 + 1 + 1)))) ((up s3 333 11 (nI (posI b n (i + 1 + 1 + 1)))) 333 11) = up (up s3 333 11 (nI (posI b n (i + 1 + 1 + 1)))) 333 12 (nI (posI b n (i + 1 + 1 + 1))) := by
            unfold F_M_wrong
            rw [hh.1.2.2.2, if_pos rfl, bind_T, up_s]
          obtain ⟨k1, k2, k3⟩ := d5.flt (a' := posI b n (i + 1 + 1 + 1)) d5.1.1.pos.1 rfl
          rw [if_neg (show ¬ σ3 54 8 = 16 from ck), c_ref d5.1.1, bind_T, ob_s, sy2 ck, ob_s]
          dsimp only
          rw [if_pos (show (0 : Int32) &&& 1 = 0 by decide), if_pos rfl, ew, bind_T, f_fig k2, ob_s, ob_s]
          dsimp only
          rw [if_neg k2.ne]
          exact ⟨_, 0, _, rfl, rfl, Or.inr ⟨rfl, k1⟩⟩
      · rw [d1, d2, ob_s, ob_s, d3, ob_s]
        dsimp only
        rw [d4, ob_s, if_pos rfl, f_after d6, ob_s]
        dsimp only
        rw [if_neg d6.ne]
        exact ⟨_, 0, _, rfl, rfl, Or.inr ⟨rfl, d5⟩⟩
    · obtain ⟨a9, s9, r1, r2, r3⟩ := wed_rest e6 v
      rw [e1, e2, ob_s, ob_s, e3, ob_s]
      dsimp only
      rw [e4, ob_s, if_pos rfl, r1]
      exact ⟨_, 0, _, rfl, rfl, Or.inr ⟨rfl, posI b n (i + 1), a9, r2.2.2, up_s, r2, fun j j1 j2 => by rw [r3, e7]; exact f2.2.c16 j (by omega)⟩⟩
end TLW

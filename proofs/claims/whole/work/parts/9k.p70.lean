-- PURE STAGE: law
section LAW3
theorem m_begin {n : Nat} {b : Nat → Nat} {z : Mem} (hn : n ≤ 400) (hb : ∀ j, j < n → b j ≤ 255) (h8 : z 333 8 = nI n) (h338 : ∀ j, j < n → z 338 j = nI (b j)) : RP b n 0 (F_M_begins z) ∧ F_M_begins z 333 12 = -1 ∧ F_M_begins z 333 13 = 0 ∧ F_M_begins z 333 8 = 0 ∧ ∀ q j, (q ≠ 333 ∨ (j ≠ 8 ∧ j ≠ 9 ∧ j ≠ 10 ∧ j ≠ 11 ∧ j ≠ 12 ∧ j ≠ 13)) → F_M_begins z q j = z q j := by
  have eb : F_M_begins z = up (up (up (up (up (up z 333 12 (-1)) 333 9 (-1)) 333 10 (nI n)) 333 8 0) 333 11 0) 333 13 0 := by
    unfold F_M_begins
    simp only [bind_T]
    rw [up_d (by omega), up_d (by omega), h8]
  rw [eb]
  refine ⟨⟨hn, Nat.zero_le n, ?_, ?_, hb, Or.inl ⟨?_, fun j hj => ?_⟩⟩, ?_, up_s, ?_, fun q j hq => ?_⟩
  · rw [up_d (by omega), up_d (by omega), up_d (by omega), up_s]
  · rw [up_d (by omega), up_s, nI_0]
  · rw [up_d (by omega), up_d (by omega), up_d (by omega), up_d (by omega), up_s]
  · rw [up_d (by omega), up_d (by omega), up_d (by omega), up_d (by omega), up_d (by omega), up_d (by omega)]; exact h338 j hj
  · rw [up_d (by omega), up_d (by omega), up_d (by omega), up_d (by omega), up_d (by omega), up_s]
  · rw [up_d (by omega), up_d (by omega), up_s]
  · rw [up_d (by omega), up_d (by omega), up_d (by omega), up_d (by omega), up_d (by omega), up_d (by omega)]
/-- the tape's copy, so far -/
def lcp (s : Mem) (k : Nat) : Mem := fun q j => if q = 334 ∧ 450 ≤ j ∧ j < 450 + k then s 338 (j - 450) else s q j
theorem m_copy {n : Nat} {s : Mem} (hn : n ≤ 400) (h10 : s 333 10 = nI n) (v1 : Int32) : whl (fun t => F_M_law_55_b v1 t.1 t.2) FUEL (0, s) = some (nI n, lcp s n) := by
  have e := whl_n (F := fun t => F_M_law_55_b v1 t.1 t.2) (fun k => (nI k, lcp s k)) n (nI n, lcp s n) (by unfold FUEL; omega) (fun k hk => by
    have e10 : lcp s k 333 10 = nI n := by unfold lcp; rw [if_neg (by omega)]; exact h10
    have e338 : lcp s k 338 k = s 338 k := by unfold lcp; rw [if_neg (by omega)]
    dsimp only
    unfold F_M_law_55_b
    rw [e10, if_pos (nI_lt hk (by omega)), p_inb (by omega) (by decide), chk_t, show (450 : Int32) + nI k = nI (450 + k) from nI_add 450 k, bind_T, p_inb (by omega) (by decide), chk_t, p_cl (by omega), p_cl (by omega), e338, bind_T, nI_1, bind_T]
    congr 3
    funext q j
    unfold up lcp
    by_cases c1 : q = 334 ∧ j = 450 + k
    · rw [if_pos c1, if_pos (by omega), c1.2, Nat.add_sub_cancel_left]
    · rw [if_neg c1]
      by_cases c2 : q = 334 ∧ 450 ≤ j ∧ j < 450 + k
      · rw [if_pos c2, if_pos (by omega)]
      · rw [if_neg c2, if_neg (by omega)]) (by
    have e10 : lcp s n 333 10 = nI n := by unfold lcp; rw [if_neg (by omega)]; exact h10
    dsimp only
    unfold F_M_law_55_b
    rw [e10, if_neg (nI_nlt (by omega) (by omega))])
  have e0 : lcp s 0 = s := by
    funext q j
    unfold lcp
    rw [if_neg (by omega)]
  rw [e0, nI_0] at e
  exact e
variable {σ : Mem} {i : Nat}
theorem op3 (h : INV i σ) (a1 a2 a3 a4 a5 : Int32) : ∃ σ', S_3 σ a1 a2 a3 a4 a5 = some σ' ∧ INV (i + 1) σ' := by
  obtain ⟨g, P, M, C, hT, hC, hL, hTp, hF, hI, hA⟩ := h
  obtain ⟨n, hn, t1, t2, t3⟩ := hTp
  have hb : ∀ j, j < n → σ 2 j = nI (tpB σ j) ∧ tpB σ j ≤ 255 := fun j hj => by
    obtain ⟨-, x, hx, ex⟩ := t3 j hj
    unfold tpB
    rw [ex, p_cl (by omega)]
    exact ⟨rfl, hx⟩
  have hb2 : ∀ j, j < n → tpB σ j ≤ 255 := fun j hj => (hb j hj).2
  have h338 : ∀ j, j < n → σ 338 j = nI (tpB σ j) := fun j hj => (t3 j hj).1.symm.trans (hb j hj).1
  obtain ⟨σ1, r, l1, lc⟩ := ltext_both (σ0 := up (up (up σ 85 5 0) 85 4 0) 0 12 0) hn (fun j hj => by rw [up_d (by omega), up_d (by omega), up_d (by omega)]; exact hb j hj) (by rw [up_d (by omega), up_s]) (by rw [up_d (by omega), up_d (by omega), up_s])
  have lf : ∀ q j, (q < 78 ∨ 90 < q) → (q ≠ 0 ∨ j ≠ 12) → σ1 q j = σ q j := fun q j h1 h2 => by
    have i1 : kM q j (σ q j) (up (up (up σ 85 5 0) 85 4 0) 0 12 0) := by
      unfold kM
      rw [up_d (by omega), up_d (by omega), up_d (by omega)]
    exact (fr_F_Text_linesOf_78 _ 1 400 (nI n) 12 (by omega) i1 _ l1).1
  have l12 : σ1 0 12 = 0 := (fr_F_Text_linesOf_78 (up (up (up σ 85 5 0) 85 4 0) 0 12 0) 1 400 (nI n) 12 (q := 0) (j := 12) (by omega) rfl _ l1).1.trans up_s
  have wC : F_W_law σ = (if ((up σ1 0 13 (σ1 78 12)) 0 13) = (-1) then some ((Sum.inr ((up (F_Law_copyAll (up σ1 0 13 (σ1 78 12)) 20 85) 0 16 0, r)))) else some (Sum.inl ("java/lang/IllegalArgumentException", up σ1 0 13 (σ1 78 12)))) := by
    unfold F_W_law F_W_useTapeUp F_W_forgetActs F_Law_clearLines
    simp only [bind_T]
    rw [show (up (up σ 85 5 0) 85 4 0) 0 12 = nI n by rw [up_d (by omega), up_d (by omega)]; exact t1, l1, ob_s]
  rw [up_s] at wC
  rcases lc with ⟨nl, cs1, er, w1, w2, w3, w4, rdM⟩ | ⟨w, w1, w2, rdM⟩
  · -- it stands
    rw [if_pos w3] at wC
    have zf : ∀ q j, (q < 78 ∨ 92 < q) → (q ≠ 0 ∨ (j ≠ 12 ∧ j ≠ 13 ∧ j ≠ 16)) → (q < 20 ∨ 27 < q) → q ≠ 346 → up (up (F_Law_copyAll (up σ1 0 13 (σ1 78 12)) 20 85) 0 16 0) 346 0 r q j = σ q j := fun q j h1 h2 h3 h4 => by
      rw [up_d (by omega), up_d (by omega), lcopy_fr (by omega), up_d (by omega)]
      exact lf q j (by omega) (by omega)
    have z12 : up (up (F_Law_copyAll (up σ1 0 13 (σ1 78 12)) 20 85) 0 16 0) 346 0 r 0 12 = 0 := by
      rw [up_d (by omega), up_d (by omega), lcopy_fr (by omega), up_d (by omega)]; exact l12
    have z13 : up (up (F_Law_copyAll (up σ1 0 13 (σ1 78 12)) 20 85) 0 16 0) 346 0 r 0 13 = -1 := by
      rw [up_d (by omega), up_d (by omega), lcopy_fr (by omega), up_s]; exact w3
    have z16 : up (up (F_Law_copyAll (up σ1 0 13 (σ1 78 12)) 20 85) 0 16 0) 346 0 r 0 16 = 0 := by
      rw [up_d (by omega), up_s]
    have z346 : up (up (F_Law_copyAll (up σ1 0 13 (σ1 78 12)) 20 85) 0 16 0) 346 0 r 346 0 = r := up_s
    have zL : ∀ r2 j, LD r2 j → up (up (F_Law_copyAll (up σ1 0 13 (σ1 78 12)) 20 85) 0 16 0) 346 0 r (20 + r2) j = σ1 (85 + r2) j := fun r2 j hr => by
      have := hr.le
      rw [up_d (by omega), up_d (by omega), lcopy_at (by omega) r2 j hr, up_d (by omega)]
    have eH : H_law σ = some (up (up (F_Law_copyAll (up σ1 0 13 (σ1 78 12)) 20 85) 0 16 0) 346 0 r, 0) := by
      unfold H_law
      rw [wC, ob_s, sumE_r, bind_T]
    generalize up (up (F_Law_copyAll (up σ1 0 13 (σ1 78 12)) 20 85) 0 16 0) 346 0 r = z at *
    obtain ⟨b1, b2, b3, b4, b5⟩ := m_begin (z := z) hn hb2 ((zf 333 8 (by omega) (by omega) (by omega) (by omega)).trans t2) (fun j hj => (zf 338 j (by omega) (by omega) (by omega) (by omega)).trans (h338 j hj))
    obtain ⟨s1, q1, q2, q3, -⟩ := rdM _ b1 b2 b3
    have e10 : up (up (up s1 333 0 0) 334 1 r) 334 2 (nI n) 333 10 = nI n := by
      rw [up_d (by omega), up_d (by omega), up_d (by omega), q3 333 10 (by omega)]
      exact b1.2.2.1
    have cpy := m_copy hn e10 r
    have fz : ∀ q j, q ≠ 334 → (q ≠ 333 ∨ (j ≠ 0 ∧ j ≠ 6 ∧ j ≠ 8 ∧ j ≠ 9 ∧ j ≠ 10 ∧ j ≠ 11 ∧ j ≠ 12 ∧ j ≠ 13 ∧ j ≠ 16)) → up (lcp (up (up (up s1 333 0 0) 334 1 r) 334 2 (nI n)) n) 333 6 0 q j = z q j := fun q j h1 h2 => by
      rw [up_d (by omega)]
      unfold lcp
      rw [if_neg (by omega), up_d (by omega), up_d (by omega), up_d (by omega), q3 q j (by omega), b5 q j (by omega)]
    have fa : ∀ q j, q ≠ 334 → (q ≠ 333 ∨ (j ≠ 0 ∧ j ≠ 6 ∧ j ≠ 8 ∧ j ≠ 9 ∧ j ≠ 10 ∧ j ≠ 11 ∧ j ≠ 12 ∧ j ≠ 13 ∧ j ≠ 16)) → (q < 78 ∨ 92 < q) → (q ≠ 0 ∨ (j ≠ 12 ∧ j ≠ 13 ∧ j ≠ 16)) → (q < 20 ∨ 27 < q) → q ≠ 346 → up (lcp (up (up (up s1 333 0 0) 334 1 r) 334 2 (nI n)) n) 333 6 0 q j = σ q j := fun q j h1 h2 h3 h4 h5 h6 => (fz q j h1 h2).trans (zf q j h3 h4 h5 h6)
    have s334 : ∀ j, s1 334 j = σ 334 j := fun j => by
      rw [q3 334 j (by omega), b5 334 j (by omega)]
      exact zf 334 j (by omega) (by omega) (by omega) (by omega)
    have s338 : ∀ j, s1 338 j = σ 338 j := fun j => by
      rw [q3 338 j (by omega), b5 338 j (by omega)]
      exact zf 338 j (by omega) (by omega) (by omega) (by omega)
    have f1 : up (lcp (up (up (up s1 333 0 0) 334 1 r) 334 2 (nI n)) n) 333 6 0 334 1 = r := by
      rw [up_d (by omega)]
      unfold lcp
      rw [if_neg (by omega), up_d (by omega), up_s]
    have f2 : up (lcp (up (up (up s1 333 0 0) 334 1 r) 334 2 (nI n)) n) 333 6 0 334 2 = nI n := by
      rw [up_d (by omega)]
      unfold lcp
      rw [if_neg (by omega), up_s]
    have fj : ∀ j, j < 450 ∧ j ≠ 1 ∧ j ≠ 2 → up (lcp (up (up (up s1 333 0 0) 334 1 r) 334 2 (nI n)) n) 333 6 0 334 j = σ 334 j := fun j hj => by
      rw [up_d (by omega)]
      unfold lcp
      rw [if_neg (by omega), up_d (by omega), up_d (by omega), up_d (by omega)]
      exact s334 j
    have fb : ∀ j, j < n → up (lcp (up (up (up s1 333 0 0) 334 1 r) 334 2 (nI n)) n) 333 6 0 334 (450 + j) = nI (tpB σ j) := fun j hj => by
      rw [up_d (by omega)]
      unfold lcp
      rw [if_pos (by omega), Nat.add_sub_cancel_left, up_d (by omega), up_d (by omega), up_d (by omega), s338]
      exact h338 j hj
    have f0 : up (lcp (up (up (up s1 333 0 0) 334 1 r) 334 2 (nI n)) n) 333 6 0 333 0 = 0 := by
      rw [up_d (by omega)]
      unfold lcp
      rw [if_neg (by omega), up_d (by omega), up_d (by omega), up_s]
    have f8 : up (lcp (up (up (up s1 333 0 0) 334 1 r) 334 2 (nI n)) n) 333 6 0 333 8 = 0 := by
      rw [up_d (by omega)]
      unfold lcp
      rw [if_neg (by omega), up_d (by omega), up_d (by omega), up_d (by omega), q3 333 8 (by omega)]
      exact b4
    have f12 : up (lcp (up (up (up s1 333 0 0) 334 1 r) 334 2 (nI n)) n) 333 6 0 333 12 = -1 := by
      rw [up_d (by omega)]
      unfold lcp
      rw [if_neg (by omega), up_d (by omega), up_d (by omega), up_d (by omega)]
      exact q2
    have f6 : up (lcp (up (up (up s1 333 0 0) 334 1 r) 334 2 (nI n)) n) 333 6 0 333 6 = 0 := up_s
    have eS : S_3 σ a1 a2 a3 a4 a5 = some (up (lcp (up (up (up s1 333 0 0) 334 1 r) 334 2 (nI n)) n) 333 6 0) := by
      unfold S_3 F_M_law
      rw [eH, ob_s, bind_T]
      dsimp only
      rw [q1, ob_s]
      dsimp only
      rw [if_pos q2, bind_T, up_s, if_neg nlt00, bind_T, bind_T]
      have e10' : (up (up s1 333 0 0) 334 1 r) 333 10 = nI n := by rw [up_d (by omega)] at e10; exact e10
      rw [e10', cpy, ob_s, bind_T, ob_s]
      dsimp only
      rw [if_pos (show F_M_thrown (up (lcp (up (up (up s1 333 0 0) 334 1 r) 334 2 (nI n)) n) 333 6 0) = 0 from f0), if_pos rfl, if_pos]
      rw [fz 346 0 (by omega) (by omega)]
      exact z346
    refine ⟨_, eS, _, P, M, C, hT.relaw (g2 := up (lcp (up (up (up s1 333 0 0) 334 1 r) 334 2 (nI n)) n) 333 6 0 334) (fun r2 k hr => fa _ _ (by omega) (by omega) (by omega) (by omega) (by omega) (by omega)) fj (fun _ _ => rfl), by omega, ⟨LAMl nl, cls_of w1 w2 w4 (fun r2 j hr => by have := hr.le; rw [fz _ _ (by omega) (by omega)]; exact zL r2 j hr), mls_of hn hb2 w2.2.1 (f1.trans er) f2 fb (fun s k1 k2 k3 => ?_), ?_⟩, ⟨0, by omega, ?_, ?_, fun j hj => by omega⟩, ?_, hI.to (by omega) (fa 0 14 (by omega) (by omega) (by omega) (by omega) (by omega) (by omega)) (fun q h8 h9 j => fa _ _ (by omega) (by omega) (by omega) (by omega) (by omega) (by omega)) (fa 333 3 (by omega) (by omega) (by omega) (by omega) (by omega) (by omega)) (fun j => fa _ _ (by omega) (by omega) (by omega) (by omega) (by omega) (by omega)), ?_⟩
    · obtain ⟨s2, k4, k5, k6, k7⟩ := rdM s k1 k2 k3
      exact ⟨s2, r, k4, k5, k6, k7⟩
    · rw [fz 20 5 (by omega) (by omega), f1, er]
      exact (zL 0 5 (by unfold LD; omega)).trans w2.1
    · rw [fz 0 12 (by omega) (by omega), z12, nI_0]
    · rw [f8, nI_0]
    · rw [fz 0 13 (by omega) (by omega), z13, f12]
    · obtain ⟨o, A, ho, hAA, b1', b2', b3', b4'⟩ := hA
      refine ⟨o, 0, ho, by omega, (fa 0 15 (by omega) (by omega) (by omega) (by omega) (by omega) (by omega)).trans b1', ?_, ?_, fun a ha => by omega⟩
      · rw [fz 0 16 (by omega) (by omega), z16, nI_0]
      · rw [f6, nI_0]
  · -- a fault
    have nw : nI w ≠ -1 := m1_ne w (by omega)
    rw [if_neg (by rw [w2]; exact nw)] at wC
    have zf : ∀ q j, (q < 78 ∨ 92 < q) → (q ≠ 0 ∨ (j ≠ 12 ∧ j ≠ 13)) → up σ1 0 13 (σ1 78 12) q j = σ q j := fun q j h1 h2 => by
      rw [up_d (by omega)]
      exact lf q j (by omega) (by omega)
    have z12 : up σ1 0 13 (σ1 78 12) 0 12 = 0 := by rw [up_d (by omega)]; exact l12
    have z13 : up σ1 0 13 (σ1 78 12) 0 13 = nI w := by rw [up_s]; exact w2
    have eH : H_law σ = some (up σ1 0 13 (σ1 78 12), 1) := by
      unfold H_law
      rw [wC, ob_s, sumE_l, if_pos rfl]
    generalize up σ1 0 13 (σ1 78 12) = z at *
    obtain ⟨b1, b2, b3, b4, b5⟩ := m_begin (z := z) hn hb2 ((zf 333 8 (by omega) (by omega)).trans t2) (fun j hj => (zf 338 j (by omega) (by omega)).trans (h338 j hj))
    obtain ⟨s1, v, q1, q2, q3⟩ := rdM _ b1 b2 b3
    have fz : ∀ q j, (q ≠ 333 ∨ (j ≠ 0 ∧ j ≠ 8 ∧ j ≠ 9 ∧ j ≠ 10 ∧ j ≠ 11 ∧ j ≠ 12 ∧ j ≠ 13 ∧ j ≠ 16)) → up s1 333 0 1 q j = z q j := fun q j h2 => by
      rw [up_d (by omega), q3 q j (by omega), b5 q j (by omega)]
    have fa : ∀ q j, (q ≠ 333 ∨ (j ≠ 0 ∧ j ≠ 8 ∧ j ≠ 9 ∧ j ≠ 10 ∧ j ≠ 11 ∧ j ≠ 12 ∧ j ≠ 13 ∧ j ≠ 16)) → (q < 78 ∨ 92 < q) → (q ≠ 0 ∨ (j ≠ 12 ∧ j ≠ 13)) → up s1 333 0 1 q j = σ q j := fun q j h2 h3 h4 => (fz q j h2).trans (zf q j h3 h4)
    have eS : S_3 σ a1 a2 a3 a4 a5 = some (up s1 333 0 1) := by
      unfold S_3 F_M_law
      rw [eH, ob_s, bind_T]
      dsimp only
      rw [q1, ob_s]
      dsimp only
      rw [if_neg (by rw [q2]; exact nw), bind_T, up_s, if_pos lt01, ob_s]
      dsimp only
      rw [if_pos (show F_M_thrown (up s1 333 0 1) = 1 by unfold F_M_thrown; rw [up_s]), if_neg (by decide)]
    refine ⟨_, eS, g, P, M, C, hT.keep2 (fun r hr j => fa _ _ (by omega) (by omega) (by omega)) (fun j => fa _ _ (by omega) (by omega) (by omega)), by omega, hL.to (fun r hr j => fa _ _ (by omega) (by omega) (by omega)), ⟨0, by omega, ?_, ?_, fun j hj => by omega⟩, ?_, hI.to (by omega) (fa 0 14 (by omega) (by omega) (by omega)) (fun q h8 h9 j => fa _ _ (by omega) (by omega) (by omega)) (fa 333 3 (by omega) (by omega) (by omega)) (fun j => fa _ _ (by omega) (by omega) (by omega)), hA.to (by omega) ⟨fa 0 15 (by omega) (by omega) (by omega), fa 0 16 (by omega) (by omega) (by omega)⟩ (fun q h8 h9 j => fa _ _ (by omega) (by omega) (by omega)) (fa 333 6 (by omega) (by omega) (by omega)) (fun j => fa _ _ (by omega) (by omega) (by omega))⟩
    · rw [fz 0 12 (by omega), z12, nI_0]
    · rw [up_d (by omega), q3 333 8 (by omega), b4, nI_0]
    · rw [fz 0 13 (by omega), z13, up_d (by omega), q2]
end LAW3

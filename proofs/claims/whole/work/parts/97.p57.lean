-- PURE STAGE: any line of the town's text, and all of them
section TLA
variable {b : Nat → Nat} {n T i a : Nat} {σ s : Mem} {g : Nat → Int32} {P M C : Nat}
theorem LRS.and {A : Option (Mem × Int32)} {B : Option Mem} (h : LRS b n T g C A B) : LRS b n T g C (obind A fun z => some (z.1, z.2 &&& 1)) B := by
  obtain ⟨σ1, r, s1, h1, h2, h3⟩ := h
  refine ⟨σ1, r, s1, ?_, h2, h3⟩
  rw [h1, ob_s]
  dsimp only
  have : r &&& 1 = r := by
    rcases h3 with h3 | h3
    · rw [h3.1]; decide
    · rw [h3.1]; decide
  rw [this]
theorem line_all (h : TW b n T g P M C i a σ s) : LRS b n T g C (F_TTx_readsLine σ) (F_M_townLine s) := by
  obtain ⟨k, hk, ek⟩ := h.1.1.in31
  have hin : inb (σ 54 8) 31 = true := by rw [ek]; exact p_inb hk (by decide)
  have hh := h.here
  have hi : ∀ v, v < 28 → k = v → i < T := fun v hv e => h.1.1.pos.2.mp ((h.1.1.kind (v := v) hv).mp (by rw [ek, e])).1
  have kq : ∀ v, v < 31 → (σ 54 8 = nI v ↔ k = v) := fun v hv => by rw [ek]; exact nI_eq (by omega) (by omega)
  have no : ∀ v, v < 22 → k ≠ v → F_M_says (up s 333 11 (nI (posI b n i))) v = some (up s 333 11 (nI (posI b n i)), 0) := fun v hv hne => by
    rw [(sy_says hh.1 hv).2 (fun e => hne ((kq v (by omega)).mp e)), up_up]
  have yes : ∀ v, v < 22 → k = v → F_M_says (up s 333 11 (nI (posI b n i))) v = some (up s 333 11 (nI (stF b n (posI b n i))), 1) := fun v hv e => by
    rw [(sy_says hh.1 hv).1 ((kq v (by omega)).mpr e), up_up]
  unfold F_TTx_readsLine F_M_townLine
  rw [hin, chk_t, sy_place h.1, ob_s]
  dsimp only
  have ne1 : ¬ (1 : Int32) = 0 := by decide
  by_cases k0 : k = 0
  · rw [if_pos (show σ 54 8 = 0 from (kq 0 (by decide)).mpr k0), yes 0 (by decide) k0, ob_s]
    dsimp only
    rw [if_neg ne1]
    have := (line_person h (hi 0 (by decide) k0)).and
    refine cast ?_ this
    congr 1
    cases F_M_personLine (up s 333 11 (nI (stF b n (posI b n i)))) (nI (posI b n i)) <;> rfl
  rw [if_neg (show ¬ σ 54 8 = 0 from fun e => k0 ((kq 0 (by decide)).mp e)), no 0 (by decide) k0, ob_s]
  dsimp only
  rw [if_pos rfl]
  by_cases k1 : k = 1
  · rw [if_pos (show σ 54 8 = 1 from (kq 1 (by decide)).mpr k1), yes 1 (by decide) k1, ob_s]
    dsimp only
    rw [if_neg ne1]
    have := (line_likes h (hi 1 (by decide) k1)).and
    refine cast ?_ this
    congr 1
    cases F_M_likings (up s 333 11 (nI (stF b n (posI b n i)))) <;> rfl
  rw [if_neg (show ¬ σ 54 8 = 1 from fun e => k1 ((kq 1 (by decide)).mp e)), no 1 (by decide) k1, ob_s]
  dsimp only
  rw [if_pos rfl]
  by_cases k2 : k = 2
  · rw [if_pos (show σ 54 8 = 2 from (kq 2 (by decide)).mpr k2), if_pos (show σ 54 8 = 2 from (kq 2 (by decide)).mpr k2), yes 2 (by decide) k2, ob_s]
    dsimp only
    rw [if_neg ne1]
    exact (line_asked h (hi 2 (by decide) k2)).and
  rw [if_neg (show ¬ σ 54 8 = 2 from fun e => k2 ((kq 2 (by decide)).mp e)), no 2 (by decide) k2, ob_s]
  dsimp only
  rw [if_pos rfl]
  by_cases k3 : k = 3
  · rw [if_pos (show σ 54 8 = 3 from (kq 3 (by decide)).mpr k3), if_neg (show ¬ σ 54 8 = 2 from fun e => k2 ((kq 2 (by decide)).mp e)), yes 3 (by decide) k3, ob_s]
    dsimp only
    rw [if_neg ne1]
    exact (line_reins h (hi 3 (by decide) k3)).and
  rw [if_neg (show ¬ σ 54 8 = 3 from fun e => k3 ((kq 3 (by decide)).mp e)), no 3 (by decide) k3, ob_s]
  dsimp only
  rw [if_pos rfl]
  by_cases k4 : k = 4
  · rw [if_pos (show σ 54 8 = 4 from (kq 4 (by decide)).mpr k4), yes 4 (by decide) k4, ob_s]
    dsimp only
    rw [if_neg ne1]
    have := (line_wed h (hi 4 (by decide) k4)).and
    refine cast ?_ this
    congr 1
    cases F_M_wedLine (up s 333 11 (nI (stF b n (posI b n i)))) (nI (posI b n i)) <;> rfl
  rw [if_neg (show ¬ σ 54 8 = 4 from fun e => k4 ((kq 4 (by decide)).mp e)), no 4 (by decide) k4, ob_s]
  dsimp only
  rw [if_pos rfl, ek]
  by_cases k5 : k = 5
  · subst k5
    rw [yes 5 (by decide) rfl, ob_s]
    dsimp only
    rw [if_neg ne1]
    have := (line_set h (hi 5 (by decide) rfl) (Or.inl rfl)).and
    rw [if_neg (by decide)] at this
    refine cast ?_ this
    congr 1
    show F_M_tells _ 5 99 = _
    cases F_M_tells (up s 333 11 (nI (stF b n (posI b n i)))) 5 99 <;> rfl
  rw [no 5 (by decide) k5, ob_s]
  dsimp only
  rw [if_pos rfl]
  by_cases k6 : k = 6
  · subst k6
    rw [yes 6 (by decide) rfl, ob_s]
    dsimp only
    rw [if_neg ne1]
    have := (line_set h (hi 6 (by decide) rfl) (Or.inr (Or.inl rfl))).and
    rw [if_pos rfl] at this
    refine cast ?_ this
    congr 1
    show F_M_tells _ 6 20 = _
    cases F_M_tells (up s 333 11 (nI (stF b n (posI b n i)))) 6 20 <;> rfl
  rw [no 6 (by decide) k6, ob_s]
  dsimp only
  rw [if_pos rfl]
  by_cases k7 : k = 7
  · subst k7
    rw [yes 7 (by decide) rfl, ob_s]
    dsimp only
    rw [if_neg ne1]
    have := (line_set h (hi 7 (by decide) rfl) (Or.inr (Or.inr rfl))).and
    rw [if_neg (by decide)] at this
    refine cast ?_ this
    congr 1
    show F_M_tells _ 7 99 = _
    cases F_M_tells (up s 333 11 (nI (stF b n (posI b n i)))) 7 99 <;> rfl
  rw [no 7 (by decide) k7, ob_s]
  dsimp only
  rw [if_pos rfl]
  have ew : F_M_wrong (up s 333 11 (nI (posI b n i))) ((up s 333 11 (nI (posI b n i))) 333 11) = up (up s 333 11 (nI (posI b n i))) 333 12 (nI (posI b n i)) := by
    unfold F_M_wrong
    rw [hh.1.2.2.2, if_pos rfl, bind_T, up_s]
  obtain ⟨q1, q2, q3⟩ := h.flt (a' := posI b n i) h.1.1.pos.1 rfl
  have nk : ∀ v, v < 31 → k ≠ v → ¬ nI k = nI v := fun v hv hne e => hne (nI_inj (by omega) (by omega) e)
  unfold F_TTx_readsSetting
  rw [ew, bind_T, p_inb hk (by decide), chk_t, if_neg (show ¬ nI k = 5 from nk 5 (by decide) k5), if_neg (show ¬ nI k = 6 from nk 6 (by decide) k6), if_neg (show ¬ nI k = 7 from nk 7 (by decide) k7), c_ref h.1.1, bind_T, ob_s]
  dsimp only
  rw [show (0 : Int32) &&& 1 &&& 1 = 0 by decide]
  exact ⟨_, 0, _, rfl, rfl, Or.inr ⟨rfl, q1⟩⟩
/-- how reading a town's text ends -/
def TEND (b : Nat → Nat) (n : Nat) (g : Nat → Int32) (C : Nat) (σ1 : Mem) (r : Int32) (s1 : Mem) : Prop := (∃ P1 M1, TR (tv σ1 61) (s1 334) g P1 M1 C ∧ σ1 54 12 = -1 ∧ s1 333 12 = -1) ∨ ∃ w, w ≤ n ∧ σ1 54 12 = nI w ∧ s1 333 12 = nI w ∧ ∀ j, 450 ≤ j → j < 850 → s1 334 j = g j
theorem rd_stop (v1 v3 : Int32) (s : Mem) : F_M_read_23_b v1 0 v3 s = some (.inr (0, v3, s)) := by
  unfold F_M_read_23_b
  rw [if_pos rfl]
theorem rd_flt (v1 v2 v3 : Int32) {s : Mem} (h2 : v2 ≠ 0) (h : s 333 12 ≠ -1) : F_M_read_23_b v1 v2 v3 s = some (.inr (v2, v3, s)) := by
  unfold F_M_read_23_b
  rw [if_neg h2, if_neg h]
/-- line by line -/
theorem lines_both (v2 : Int32) : ∀ (d L : Nat) (σ s : Mem) (i a P M : Nat), d + L = 15 → 1 ≤ L → TW b n T g P M C i a σ s → ∀ f1 f2, d + 2 < f1 → d + 2 < f2 →
    ∃ y x σ1 r, whl (fun t => F_Text_linesOf_54_46_b 1 400 v2 14 t.1 t.2) f1 (nI L, σ) = some y ∧ sumE y (fun s18 => bindT (F_Text_refuse s18.2 54) fun z20 => some ((z20.1, (-1)))) (fun r19 => some r19) = some (σ1, r) ∧ whl (fun t => F_M_read_23_b 0 t.1 t.2.1 t.2.2) f2 (1, nI (L - 1), s) = some x ∧ TEND b n g C σ1 r x.2.2 := by
  intro d
  induction d with
  | zero =>
    intro L σ s i a P M hL h1 h f1 f2 hf1 hf2
    obtain ⟨f1, rfl⟩ : ∃ k, f1 = k + 1 := ⟨f1 - 1, by omega⟩
    obtain ⟨f2, rfl⟩ : ∃ k, f2 = k + 2 := ⟨f2 - 2, by omega⟩
    obtain rfl : L = 15 := by omega
    have hh := h.here
    have ew : F_M_wrong (up s 333 11 (nI (posI b n i))) ((up s 333 11 (nI (posI b n i))) 333 11) = up (up s 333 11 (nI (posI b n i))) 333 12 (nI (posI b n i)) := by
      unfold F_M_wrong
      rw [hh.1.2.2.2, if_pos rfl, bind_T, up_s]
    obtain ⟨q1, q2, q3⟩ := h.flt (a' := posI b n i) h.1.1.pos.1 rfl
    have q4 := f_here q2
    refine ⟨.inl (nI 15, σ), (0, nI 15, up (up (up s 333 11 (nI (posI b n i))) 333 12 (nI (posI b n i))) 333 11 (nI (skF b n (posI b n i)))), up σ 54 12 (nI (posI b n i)), -1, whl_r ?_, ?_, ?_, Or.inr ⟨posI b n i, q2.2.2, up_s, q4.2.1, fun j j1 j2 => by dsimp only; rw [up_d (by omega), q3]; exact h.2.c16 j (by omega)⟩⟩
    · show F_Text_linesOf_54_46_b 1 400 v2 14 (nI 15) σ = _
      unfold F_Text_linesOf_54_46_b
      rw [if_pos (show (14 : Int32) < nI 15 by decide)]
    · rw [sumE_l, c_ref h.1.1]
      rfl
    · refine Eq.trans (whl_l (F := fun t => F_M_read_23_b 0 t.1 t.2.1 t.2.2) (s := ((1 : Int32), nI (15 - 1), s)) ?_) (whl_r (F := fun t => F_M_read_23_b 0 t.1 t.2.1 t.2.2) (s := ((0 : Int32), nI 15, (up (up (up s 333 11 (nI (posI b n i))) 333 12 (nI (posI b n i))) 333 11 (nI (skF b n (posI b n i)))))) (rd_stop 0 (nI 15) (up (up (up s 333 11 (nI (posI b n i))) 333 12 (nI (posI b n i))) 333 11 (nI (skF b n (posI b n i))))))
      show F_M_read_23_b 0 1 (nI (15 - 1)) s = _
      unfold F_M_read_23_b
      rw [if_neg (by decide), if_pos h.1.2.2.2, sy_skip h.1, ob_s, if_pos rfl, if_pos (show nI (15 - 1) = 14 by decide), ew, bind_T, bind_T, m_skip q2.1, ob_s, if_neg q4.ne, nI_1]
  | succ d ih =>
    intro L σ s i a P M hL h1 h f1 f2 hf1 hf2
    obtain ⟨f1, rfl⟩ : ∃ k, f1 = k + 1 := ⟨f1 - 1, by omega⟩
    obtain ⟨f2, rfl⟩ : ∃ k, f2 = k + 2 := ⟨f2 - 2, by omega⟩
    have hh := h.here
    obtain ⟨σ1, r, s1, e1, e2, e3⟩ := line_all hh
    have n14 : ¬ nI (L - 1) = 14 := fun e => by have := nI_inj (b := 14) (by omega) (by omega) e; omega
    have nL : nI (L - 1) + 1 = nI L := by rw [nI_1, show L - 1 + 1 = L by omega]
    have cL : ¬ (14 : Int32) < nI L := nI_nlt (a := 14) (by omega) (by omega)
    rcases e3 with ⟨rfl, i1, a1, P1, M1, w⟩ | ⟨rfl, w, a1, w1, w2, w3, w4⟩
    · have ww := w.here
      obtain ⟨p1, p2⟩ := w.1.1.pos
      obtain ⟨k, hk, ek⟩ := w.1.1.in31
      have hin : inb (σ1 54 8) 31 = true := by rw [ek]; exact p_inb hk (by decide)
      have e10 : (up s1 333 11 (nI (posI b n i1))) 333 10 = nI n := ww.1.2.1.2.2.1
      have hn := w.1.2.1.1
      -- the reference's turn, up to the sign
      have rd : F_M_read_23_b 0 1 (nI (L - 1)) s = (if ((up s1 333 11 (nI (posI b n i1))) 333 11) = ((up s1 333 11 (nI (posI b n i1))) 333 10) then some (.inl ((0, nI L, (up s1 333 11 (nI (posI b n i1)))))) else obind (F_M_isSign (up s1 333 11 (nI (posI b n i1))) 59) fun z14 => (if z14.2 = 0 then bindT (F_M_wrong z14.1 ((z14.1 333 11))) fun z16 => some (.inl ((1, nI L, z16))) else bindT (up z14.1 333 11 (((z14.1 333 11) + 1))) fun σ17 => some (.inl ((1, nI L, σ17))))) := by
        unfold F_M_read_23_b
        rw [if_neg (by decide), if_pos h.1.2.2.2, sy_skip h.1, ob_s, if_pos rfl, if_neg n14, if_pos rfl, e2, ob_s, bind_T, sy_skip w.1, ob_s, if_pos ww.1.2.2.2, nL]
      have kq : ∀ v, v < 31 → (σ1 54 8 = nI v ↔ k = v) := fun v hv => by rw [ek]; exact nI_eq (by omega) (by omega)
      by_cases c : i1 = T
      · have c29 : σ1 54 8 = 29 := (w.1.1.2.2.2.2 c).1
        have pn : posI b n i1 = n := by have := w.1.1.1.2.2.1; rw [c]; exact this
        refine ⟨.inr (σ1, nI L), (0, nI L, up s1 333 11 (nI (posI b n i1))), σ1, nI L, whl_r ?_, rfl, ?_, Or.inl ⟨P1, M1, ww.2, w.1.1.2.1.2, ww.1.2.2.2⟩⟩
        · show F_Text_linesOf_54_46_b 1 400 v2 14 (nI L) σ = _
          unfold F_Text_linesOf_54_46_b
          rw [if_neg cL, e1, ob_s, if_neg (show ¬ (1 : Int32) = 0 by decide), hin, chk_t, if_pos c29]
        · refine Eq.trans (whl_l (F := fun t => F_M_read_23_b 0 t.1 t.2.1 t.2.2) (s := ((1 : Int32), nI (L - 1), s)) ?_) (whl_r (F := fun t => F_M_read_23_b 0 t.1 t.2.1 t.2.2) (s := ((0 : Int32), nI L, (up s1 333 11 (nI (posI b n i1))))) (rd_stop 0 (nI L) (up s1 333 11 (nI (posI b n i1)))))
          show F_M_read_23_b 0 1 (nI (L - 1)) s = _
          rw [rd, if_pos (by rw [up_s, e10, pn])]
      · have hi1 : i1 < T := by have := w.1.1.1.2.2.2.2; omega
        have hp := p2.mpr hi1
        have c29 : ¬ σ1 54 8 = 29 := by
          rw [(w.1.1.2.2.2.1 hi1).1]
          intro e
          have e29 := nI_inj (b := 29) (by have := kdF_le (b := b) (n := n) (p := posI b n i1); omega) (by omega) e
          unfold kdF at e29
          split at e29
          · omega
          · rcases kdR_of _ _ e29 with q | q
            · omega
            · have := (wAt_is.mp q).1
              have h9 := (stF_is (b := b) hp).1
              have h10 : lenS.getD (kindS.getD 29 0) 0 = 0 := by decide
              omega
        obtain ⟨sg1, sg2⟩ := sy_sign ww.1 (k := 0) (by decide)
        rw [up_up] at sg1
        have sg1' : F_M_isSign (up s1 333 11 (nI (posI b n i1))) 59 = some (up s1 333 11 (nI (posI b n i1)), if σ1 54 8 = nI 22 then 1 else 0) := sg1
        have nend : ¬ ((up s1 333 11 (nI (posI b n i1))) 333 11) = ((up s1 333 11 (nI (posI b n i1))) 333 10) := by
          rw [up_s, e10]
          intro e
          have := nI_inj (by omega) (by omega) e
          omega
        rw [if_neg nend, sg1', ob_s] at rd
        by_cases c22 : σ1 54 8 = nI 22
        · obtain ⟨σ2, k1, k2, k3⟩ := w.next hi1
          have est := (sg2 c22).2
          rw [if_pos c22] at rd
          dsimp only at rd
          rw [if_neg (show ¬ (1 : Int32) = 0 by decide), bind_T, up_up, up_s, nI_1, ← est] at rd
          obtain ⟨y, x, σ3, r3, g1, g2, g3, g4⟩ := ih (L + 1) σ2 _ (i1 + 1) _ P1 M1 (by omega) (by omega) k2 f1 (f2 + 1) (by omega) (by omega)
          refine ⟨y, x, σ3, r3, Eq.trans (whl_l ?_) g1, g2, Eq.trans (whl_l (F := fun t => F_M_read_23_b 0 t.1 t.2.1 t.2.2) (s := ((1 : Int32), nI (L - 1), s)) rd) g3, g4⟩
          show F_Text_linesOf_54_46_b 1 400 v2 14 (nI L) σ = _
          unfold F_Text_linesOf_54_46_b F_Text_needs
          rw [if_neg cL, e1, ob_s, if_neg (show ¬ (1 : Int32) = 0 by decide), hin, chk_t, if_neg c29, chk_t, show inb 22 31 = true by decide, chk_t, if_pos (show σ1 54 8 = 22 from c22), k1, ob_s, ob_s, if_neg (show ¬ (1 : Int32) = 0 by decide), bind_T, nI_1]
        · have ew : F_M_wrong (up s1 333 11 (nI (posI b n i1))) ((up s1 333 11 (nI (posI b n i1))) 333 11) = up (up s1 333 11 (nI (posI b n i1))) 333 12 (nI (posI b n i1)) := by
            unfold F_M_wrong
            rw [ww.1.2.2.2, if_pos rfl, bind_T, up_s]
          obtain ⟨q1, q2, q3⟩ := w.flt (a' := posI b n i1) p1 rfl
          rw [if_neg c22] at rd
          dsimp only at rd
          rw [if_pos rfl, ew, bind_T] at rd
          refine ⟨.inr (up σ1 54 12 (nI (posI b n i1)), -1), (1, nI L, up (up s1 333 11 (nI (posI b n i1))) 333 12 (nI (posI b n i1))), _, -1, whl_r ?_, rfl, Eq.trans (whl_l (F := fun t => F_M_read_23_b 0 t.1 t.2.1 t.2.2) (s := ((1 : Int32), nI (L - 1), s)) rd) (whl_r (F := fun t => F_M_read_23_b 0 t.1 t.2.1 t.2.2) (s := ((1 : Int32), nI L, _)) (rd_flt 0 1 (nI L) (by decide) q2.ne)), Or.inr ⟨posI b n i1, p1, up_s, q2.2.1, fun j j1 j2 => by dsimp only; rw [q3]; exact w.2.c16 j (by omega)⟩⟩
          show F_Text_linesOf_54_46_b 1 400 v2 14 (nI L) σ = _
          unfold F_Text_linesOf_54_46_b F_Text_needs
          rw [if_neg cL, e1, ob_s, if_neg (show ¬ (1 : Int32) = 0 by decide), hin, chk_t, if_neg c29, chk_t, show inb 22 31 = true by decide, chk_t, if_neg (show ¬ σ1 54 8 = 22 from c22), c_ref w.1.1, bind_T, ob_s]
          dsimp only
          rw [if_pos (show (0 : Int32) &&& 1 = 0 by decide)]
    · have w5 := f_here w3
      refine ⟨.inr (σ1, -1), (0, nI L, up s1 333 11 (nI (skF b n a1))), σ1, -1, whl_r ?_, rfl, ?_, Or.inr ⟨w, w1, w2, w5.2.1, fun j j1 j2 => by dsimp only; rw [up_d (by omega)]; exact w4 j j1 j2⟩⟩
      · show F_Text_linesOf_54_46_b 1 400 v2 14 (nI L) σ = _
        unfold F_Text_linesOf_54_46_b
        rw [if_neg cL, e1, ob_s, if_pos rfl]
      · refine Eq.trans (whl_l (F := fun t => F_M_read_23_b 0 t.1 t.2.1 t.2.2) (s := ((1 : Int32), nI (L - 1), s)) ?_) (whl_r (F := fun t => F_M_read_23_b 0 t.1 t.2.1 t.2.2) (s := ((0 : Int32), nI L, (up s1 333 11 (nI (skF b n a1))))) (rd_stop 0 (nI L) (up s1 333 11 (nI (skF b n a1)))))
        show F_M_read_23_b 0 1 (nI (L - 1)) s = _
        unfold F_M_read_23_b
        rw [if_neg (by decide), if_pos h.1.2.2.2, sy_skip h.1, ob_s, if_pos rfl, if_neg n14, if_pos rfl, e2, ob_s, bind_T, m_skip w3.1, ob_s, if_neg w5.ne, nL]
end TLA

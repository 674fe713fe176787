-- PURE STAGE: the law's text: all lines
def LVc (v : Int32 → Int32) : Int32 → List LN → Int32
  | acc, [] => acc
  | acc, l :: r => LVc v (if mtC v l.2 = true then acc + l.1 else acc) r
section LLS
variable {b : Nat → Nat} {n T : Nat}
theorem f_skipN {w K : Nat} {s : Mem} (h : FNt b n w K s) (hK : K ≤ 7) : ∃ s1, F_M_skip s = some s1 ∧ FR s s1 ∧ s1 333 12 = nI w := by
  obtain ⟨h1, h2, a, h3, h4, h5⟩ := h
  have hn := h5.1
  by_cases c : a ≤ n
  · have hR : RP b n a s := h5.any c (fun q j hq => (up_d (by omega)).symm) h4
    exact ⟨_, m_skip hR, FR.up (by omega), by rw [up_d (by omega)]; exact h1⟩
  · refine ⟨s, ?_, FR.rfl', h1⟩
    have e10 : s 333 10 = nI n := by
      have := h5.2.2.1
      rw [up_d (by omega)] at this
      exact this
    unfold F_M_skip
    rw [show FUEL = 19999 + 1 from rfl, whl_r (F := fun s => F_M_skip_0_b s) (s := s) (x := s) (by
      show F_M_skip_0_b s = _
      unfold F_M_skip_0_b
      rw [h4, e10, if_neg (nI_nlt (by omega) (by omega))]), ob_s]
/-- how reading the lines ends -/
def LALL (b : Nat → Nat) (n T : Nat) (ls : List LN) (i L : Nat) (σ σ1 : Mem) (r : Int32) (fl : Nat) : Prop :=
  (∃ (nl : List LN) (cs1 : List Int32) , nl ≠ [] ∧ r = nI (ls.length + nl.length) ∧ LWd cs1 σ1 ∧ LNs (ls ++ nl) cs1 σ1 ∧ σ1 78 12 = -1 ∧ cs1.length ≤ 400 ∧ ∀ s, SN b n T i 0 s → ∀ f2, fl < f2 → ∃ s1 x, whl (fun t => F_M_read_23_b 1 t.1 t.2.1 t.2.2) f2 (1, nI (L - 1), s) = some (x, r, s1) ∧ s1 333 12 = -1 ∧ FRl s s1 ∧ s1 333 16 = LVc (vS s) (s 333 16) nl) ∨
  (∃ w, r = -1 ∧ w ≤ n ∧ σ1 78 12 = nI w ∧ ∀ s, SN b n T i 0 s → ∀ f2, fl < f2 → ∃ x, whl (fun t => F_M_read_23_b 1 t.1 t.2.1 t.2.2) f2 (1, nI (L - 1), s) = some x ∧ x.2.2 333 12 = nI w ∧ FRl s x.2.2)
theorem rd1 (v3 : Int32) (s : Mem) (h : s 333 12 = -1) (h12 : v3 ≠ 12) : F_M_read_23_b 1 1 v3 s = obind (F_M_skip s) fun z5 => obind (F_M_lawLine z5) fun z47 => obind (F_M_skip z47) fun z49 => (if (z49 333 12) = (-1) then (if (z49 333 11) = (z49 333 10) then some (.inl ((0, v3 + 1, z49))) else obind (F_M_isSign z49 59) fun z52 => (if z52.2 = 0 then bindT (F_M_wrong z52.1 ((z52.1 333 11))) fun z54 => some (.inl ((1, v3 + 1, z54))) else bindT (up z52.1 333 11 (((z52.1 333 11) + 1))) fun σ55 => some (.inl ((1, v3 + 1, σ55))))) else some (.inl ((0, v3 + 1, z49)))) := by
  unfold F_M_read_23_b
  rw [if_neg (by decide), if_pos h]
  congr 1
  funext z5
  rw [if_neg (by decide), if_neg h12, if_neg (by decide)]
  rfl
theorem llines (v2 : Int32) : ∀ (d L : Nat) (σ : Mem) (i : Nat) (cs : List Int32) (ls : List LN), d + L = 13 → 1 ≤ L → ls.length = L - 1 → CLw b n T i cs σ → LNs ls cs σ → cs.length ≤ i → ∀ f1, d + 2 < f1 →
    ∃ y σ1 r, whl (fun t => F_Text_linesOf_78_46_b 1 400 v2 12 t.1 t.2) f1 (nI L, σ) = some y ∧ sumE y (fun s18 => bindT (F_Text_refuse s18.2 78) fun z20 => some ((z20.1, (-1)))) (fun r19 => some r19) = some (σ1, r) ∧ LALL b n T ls i L σ σ1 r (d + 2) := by
  intro d
  induction d with
  | zero =>
    intro L σ i cs ls hL h1 hls h hl hcs f1 hf1
    obtain ⟨f1, rfl⟩ : ∃ k, f1 = k + 1 := ⟨f1 - 1, by omega⟩
    obtain rfl : L = 13 := by omega
    have pp := h.1.pos.1
    refine ⟨.inl (nI 13, σ), up σ 78 12 (nI (posI b n i)), -1, whl_r ?_, ?_, Or.inr ⟨posI b n i, rfl, pp, up_s, fun s hs f2 hf2 => ?_⟩⟩
    · show F_Text_linesOf_78_46_b 1 400 v2 12 (nI 13) σ = _
      unfold F_Text_linesOf_78_46_b
      rw [if_pos (show (12 : Int32) < nI 13 by decide)]
    · rw [sumE_l, c_ref h.1]
      rfl
    · obtain ⟨f2, rfl⟩ : ∃ k, f2 = k + 2 := ⟨f2 - 2, by omega⟩
      obtain ⟨a, hy⟩ := hs.sy h.1
      have hh := hs.here h.1
      have f2' : FR s (up (up s 333 11 (nI (posI b n i))) 333 12 (nI (posI b n i))) := (FR.up (by omega)).trans (FR.up (by omega))
      have hF : FNt b n (posI b n i) 7 (up (up s 333 11 (nI (posI b n i))) 333 12 (nI (posI b n i))) := hs.flt pp (a := posI b n i) (by omega) f2' (by rw [up_d (by omega), up_s]) up_s
      obtain ⟨s3, k1, k2, k3⟩ := f_skipN hF (by omega)
      refine ⟨(0, nI 13, s3), Eq.trans (whl_l (F := fun t => F_M_read_23_b 1 t.1 t.2.1 t.2.2) (s := ((1 : Int32), nI (13 - 1), s)) (s1 := ((0 : Int32), nI 13, s3)) ?_) (whl_r (F := fun t => F_M_read_23_b 1 t.1 t.2.1 t.2.2) (s := ((0 : Int32), nI 13, s3)) (rd_stop 1 (nI 13) s3)), k3, (f2'.trans k2).l⟩
      show F_M_read_23_b 1 1 (nI (13 - 1)) s = _
      unfold F_M_read_23_b
      rw [if_neg (by decide), if_pos hs.m1, sy_skip hy, ob_s, if_neg (by decide), if_pos (show nI (13 - 1) = 12 by decide), up_s, m_wr hh, bind_T, bind_T, k1, ob_s, if_neg (fun e => hF.ne (hF.1.trans (k3.symm.trans e))), nI_1]
  | succ d ih =>
    intro L σ i cs ls hL h1 hls h hl hcs f1 hf1
    obtain ⟨f1, rfl⟩ : ∃ k, f1 = k + 1 := ⟨f1 - 1, by omega⟩
    have hT := h.1.1.2.2.2.1
    have n12 : nI (L - 1) ≠ 12 := fun e => by have := nI_inj (b := 12) (by omega) (by omega) e; omega
    have nL : nI (L - 1) + 1 = nI L := by rw [nI_1, show L - 1 + 1 = L by omega]
    have cL : ¬ (12 : Int32) < nI L := nI_nlt (a := 12) (by omega) (by omega)
    have ne1 : ¬ (1 : Int32) = 0 := by decide
    rcases lline_both h hl (by omega) hcs with ⟨σ1, i1, a, c, e1, w, wl, -, e4, e5, e6⟩ | ⟨σ1, w, e1, e2, e3, -, e5⟩
    · obtain ⟨p1, p2⟩ := w.1.pos
      have hn := w.1.1.1.1
      have lc : (cs ++ c).length = cs.length + c.length := List.length_append
      have hi1T := w.1.1.2.2.2.2
      -- the reference's turn, up to the sign
      have rd : ∀ s, SN b n T i 0 s → ∃ s1, SN b n T i1 0 s1 ∧ FRl s s1 ∧ (s1 333 16 = if mtC (vS s) c = true then s 333 16 + a else s 333 16) ∧ F_M_read_23_b 1 1 (nI (L - 1)) s = (if ((up s1 333 11 (nI (posI b n i1))) 333 11) = ((up s1 333 11 (nI (posI b n i1))) 333 10) then some (.inl ((0, nI L, up s1 333 11 (nI (posI b n i1))))) else obind (F_M_isSign (up s1 333 11 (nI (posI b n i1))) 59) fun z52 => (if z52.2 = 0 then bindT (F_M_wrong z52.1 ((z52.1 333 11))) fun z54 => some (.inl ((1, nI L, z54))) else bindT (up z52.1 333 11 (((z52.1 333 11) + 1))) fun σ55 => some (.inl ((1, nI L, σ55))))) := fun s hs => by
        obtain ⟨a0, hy⟩ := hs.sy h.1
        obtain ⟨s1, t1, t2, t3, t4⟩ := e6 _ (hs.here h.1)
        have fu : FR s (up s 333 11 (nI (posI b n i))) := FR.up (by omega)
        rw [fu.vs, fu 333 16 (by omega)] at t4
        obtain ⟨a1, hy1⟩ := t2.sy w.1
        refine ⟨s1, t2, fu.l.trans t3, t4, ?_⟩
        rw [rd1 _ s hs.m1 n12, sy_skip hy, ob_s, t1, ob_s, sy_skip hy1, ob_s, if_pos (t2.here w.1).m1, nL]
      by_cases cT : i1 = T
      · have c29 : σ1 78 8 = 29 := (w.1.2.2.2.2 cT).1
        have pn : posI b n i1 = n := by have := w.1.1.2.2.1; rw [cT]; exact this
        refine ⟨.inr (σ1, nI L), σ1, nI L, whl_r ?_, rfl, Or.inl ⟨[(a, c)], cs ++ c, by simp, by show nI L = nI (ls.length + 1); rw [hls, show L - 1 + 1 = L by omega], w.2, wl, w.1.2.1.2, by omega, fun s hs f2 hf2 => ?_⟩⟩
        · show F_Text_linesOf_78_46_b 1 400 v2 12 (nI L) σ = _
          unfold F_Text_linesOf_78_46_b
          rw [if_neg cL, e1, ob_s, if_neg (show ¬ (1 : Int32) = 0 by decide), w.in31, chk_t, if_pos c29]
        · obtain ⟨f2, rfl⟩ : ∃ k, f2 = k + 2 := ⟨f2 - 2, by omega⟩
          obtain ⟨s1, t1, t2, t3, t4⟩ := rd s hs
          have th := t1.here w.1
          obtain ⟨a1, hy1⟩ := th.sy w.1
          have e10 : (up s1 333 11 (nI (posI b n i1))) 333 10 = nI n := hy1.2.1.2.2.1
          rw [if_pos (by rw [up_s, e10, pn])] at t4
          refine ⟨up s1 333 11 (nI (posI b n i1)), 0, Eq.trans (whl_l (F := fun t => F_M_read_23_b 1 t.1 t.2.1 t.2.2) (s := ((1 : Int32), nI (L - 1), s)) t4) (whl_r (F := fun t => F_M_read_23_b 1 t.1 t.2.1 t.2.2) (s := ((0 : Int32), nI L, up s1 333 11 (nI (posI b n i1)))) (rd_stop 1 (nI L) (up s1 333 11 (nI (posI b n i1))))), th.m1, t2.trans (FR.up (by omega)).l, ?_⟩
          rw [up_d (by omega), t3]
          rfl
      · have hi1 : i1 < T := by omega
        have hp := p2.mpr hi1
        have c29 : ¬ σ1 78 8 = 29 := by
          rw [(w.1.2.2.2.1 hi1).1]
          intro e
          have e29 := nI_inj (b := 29) (by have := kdF_le (b := b) (n := n) (p := posI b n i1); omega) (by omega) e
          unfold kdF at e29
          split at e29
          · omega
          · rcases kdR_of _ _ e29 with q | q
            · omega
            · have := (wAt_is.mp q).1
              have h9 := (stF_is (b := b) hp).1
              have h10 : lenS.getD (kindS.getD 29 0) 0 = 0 := by decide
              omega
        have sgn : ∀ s1, SN b n T i1 0 s1 → F_M_isSign (up s1 333 11 (nI (posI b n i1))) 59 = some (up s1 333 11 (nI (posI b n i1)), if σ1 78 8 = nI 22 then 1 else 0) ∧ (σ1 78 8 = nI 22 → i1 < T ∧ stF b n (posI b n i1) = posI b n i1 + 1) ∧ ¬ ((up s1 333 11 (nI (posI b n i1))) 333 11) = ((up s1 333 11 (nI (posI b n i1))) 333 10) := fun s1 t1 => by
          have th := t1.here w.1
          obtain ⟨a1, hy1⟩ := th.sy w.1
          have e10 : (up s1 333 11 (nI (posI b n i1))) 333 10 = nI n := hy1.2.1.2.2.1
          have k1 := sn_sign th w.1 (k := 0) (by decide)
          rw [up_up] at k1
          refine ⟨k1.1, k1.2, ?_⟩
          rw [up_s, e10]
          intro e
          have := nI_inj (by omega) (by omega) e
          omega
        by_cases c22 : σ1 78 8 = nI 22
        · obtain ⟨σ2, k1, k2, k3⟩ := w.next hi1
          have ll : (ls ++ [(a, c)]).length = ls.length + 1 := by rw [List.length_append]; rfl
          obtain ⟨y, σ3, r3, g1, g2, g3⟩ := ih (L + 1) σ2 (i1 + 1) (cs ++ c) (ls ++ [(a, c)]) (by omega) (by omega) (by omega) k2 (k3.lns wl) (by omega) f1 (by omega)
          have rd2 : ∀ s, SN b n T i 0 s → ∃ s2, SN b n T (i1 + 1) 0 s2 ∧ FRl s s2 ∧ (s2 333 16 = if mtC (vS s) c = true then s 333 16 + a else s 333 16) ∧ F_M_read_23_b 1 1 (nI (L - 1)) s = some (.inl (1, nI L, s2)) := fun s hs => by
            obtain ⟨s1, t1, t2, t3, t4⟩ := rd s hs
            obtain ⟨m1, m2, m3⟩ := sgn s1 t1
            rw [if_neg m3, m1, ob_s, if_pos c22] at t4
            dsimp only at t4
            rw [if_neg ne1, bind_T, up_up, up_s, nI_1, ← (m2 c22).2] at t4
            exact ⟨_, t1.nxt w.1 hi1, t2.trans (FR.up (by omega)).l, by rw [up_d (by omega)]; exact t3, t4⟩
          refine ⟨y, σ3, r3, Eq.trans (whl_l ?_) g1, g2, ?_⟩
          · show F_Text_linesOf_78_46_b 1 400 v2 12 (nI L) σ = _
            unfold F_Text_linesOf_78_46_b F_Text_needs
            rw [if_neg cL, e1, ob_s, if_neg (show ¬ (1 : Int32) = 0 by decide), w.in31, chk_t, if_neg c29, chk_t, show inb 22 31 = true by decide, chk_t, if_pos (show σ1 78 8 = 22 from c22), k1, ob_s, ob_s, if_neg (show ¬ (1 : Int32) = 0 by decide), bind_T, nI_1]
          · rcases g3 with ⟨nl, cs1, q0, q1, q2, q3, q4, q5, q6⟩ | ⟨w9, q1, q2, q3, q4⟩
            · refine Or.inl ⟨(a, c) :: nl, cs1, by simp, ?_, q2, ?_, q4, q5, fun s hs f2 hf2 => ?_⟩
              · rw [q1, ll]
                show nI (ls.length + 1 + nl.length) = nI (ls.length + (nl.length + 1))
                congr 1
                omega
              · rw [List.append_assoc] at q3
                exact q3
              · obtain ⟨f2, rfl⟩ : ∃ k, f2 = k + 1 := ⟨f2 - 1, by omega⟩
                obtain ⟨s2, t1, t2, t3, t4⟩ := rd2 s hs
                obtain ⟨s3, x, t5, t6, t7, t8⟩ := q6 s2 t1 f2 (by omega)
                rw [t2.vs, t3] at t8
                exact ⟨s3, x, Eq.trans (whl_l (F := fun t => F_M_read_23_b 1 t.1 t.2.1 t.2.2) (s := ((1 : Int32), nI (L - 1), s)) t4) t5, t6, t2.trans t7, t8⟩
            · refine Or.inr ⟨w9, q1, q2, q3, fun s hs f2 hf2 => ?_⟩
              obtain ⟨f2, rfl⟩ : ∃ k, f2 = k + 1 := ⟨f2 - 1, by omega⟩
              obtain ⟨s2, t1, t2, t3, t4⟩ := rd2 s hs
              obtain ⟨x, t5, t6, t7⟩ := q4 s2 t1 f2 (by omega)
              exact ⟨x, Eq.trans (whl_l (F := fun t => F_M_read_23_b 1 t.1 t.2.1 t.2.2) (s := ((1 : Int32), nI (L - 1), s)) t4) t5, t6, t2.trans t7⟩
        · refine ⟨.inr (up σ1 78 12 (nI (posI b n i1)), -1), up σ1 78 12 (nI (posI b n i1)), -1, whl_r ?_, rfl, Or.inr ⟨posI b n i1, rfl, p1, up_s, fun s hs f2 hf2 => ?_⟩⟩
          · show F_Text_linesOf_78_46_b 1 400 v2 12 (nI L) σ = _
            unfold F_Text_linesOf_78_46_b F_Text_needs
            rw [if_neg cL, e1, ob_s, if_neg (show ¬ (1 : Int32) = 0 by decide), w.in31, chk_t, if_neg c29, chk_t, show inb 22 31 = true by decide, chk_t, if_neg (show ¬ σ1 78 8 = 22 from c22), c_ref w.1, bind_T, ob_s]
            dsimp only
            rw [if_pos (show (0 : Int32) &&& 1 = 0 by decide)]
          · obtain ⟨f2, rfl⟩ : ∃ k, f2 = k + 2 := ⟨f2 - 2, by omega⟩
            obtain ⟨s1, t1, t2, t3, t4⟩ := rd s hs
            obtain ⟨m1, m2, m3⟩ := sgn s1 t1
            have th := t1.here w.1
            rw [if_neg m3, m1, ob_s, if_neg c22] at t4
            dsimp only at t4
            rw [if_pos rfl, up_s, m_wr th, bind_T] at t4
            have nf : (up (up s1 333 11 (nI (posI b n i1))) 333 12 (nI (posI b n i1))) 333 12 ≠ -1 := by rw [up_s]; exact m1_ne _ (by omega)
            exact ⟨(1, nI L, up (up s1 333 11 (nI (posI b n i1))) 333 12 (nI (posI b n i1))), Eq.trans (whl_l (F := fun t => F_M_read_23_b 1 t.1 t.2.1 t.2.2) (s := ((1 : Int32), nI (L - 1), s)) t4) (whl_r (F := fun t => F_M_read_23_b 1 t.1 t.2.1 t.2.2) (s := ((1 : Int32), nI L, _)) (rd_flt 1 1 (nI L) (by decide) nf)), by dsimp only; exact up_s, t2.trans ((FR.up (by omega)).trans (FR.up (by omega))).l⟩
    · refine ⟨.inr (σ1, -1), σ1, -1, whl_r ?_, rfl, Or.inr ⟨w, rfl, e2, e3, fun s hs f2 hf2 => ?_⟩⟩
      · show F_Text_linesOf_78_46_b 1 400 v2 12 (nI L) σ = _
        unfold F_Text_linesOf_78_46_b
        rw [if_neg cL, e1, ob_s]
        dsimp only
        rw [if_pos rfl]
      · obtain ⟨f2, rfl⟩ : ∃ k, f2 = k + 2 := ⟨f2 - 2, by omega⟩
        obtain ⟨a0, hy⟩ := hs.sy h.1
        obtain ⟨s1, t1, t2, t3⟩ := e5 _ (hs.here h.1)
        obtain ⟨s3, k1, k2, k3⟩ := f_skipN t2 (by omega)
        refine ⟨(0, nI L, s3), Eq.trans (whl_l (F := fun t => F_M_read_23_b 1 t.1 t.2.1 t.2.2) (s := ((1 : Int32), nI (L - 1), s)) (s1 := ((0 : Int32), nI L, s3)) ?_) (whl_r (F := fun t => F_M_read_23_b 1 t.1 t.2.1 t.2.2) (s := ((0 : Int32), nI L, s3)) (rd_stop 1 (nI L) s3)), k3, ((FR.up (by omega)).l.trans t3).trans k2.l⟩
        show F_M_read_23_b 1 1 (nI (L - 1)) s = _
        rw [rd1 _ s hs.m1 n12, sy_skip hy, ob_s, t1, ob_s, k1, ob_s, if_neg (fun e => t2.ne (t2.1.trans (k3.symm.trans e))), nL]
end LLS

-- PURE STAGE: the law's text: plain conditions
def PLc (σ : Mem) : Option (Mem × Int32) := (if (σ 78 8) = 14 then bindT (F_Law_addCode σ 85 ((kCode ((σ 78 8))))) fun z9 => obind (F_Text_advance z9 78) fun z10 => some ((z10, 1)) else (if (σ 78 8) = 15 then bindT (F_Law_addCode σ 85 ((kCode ((σ 78 8))))) fun z24 => obind (F_Text_advance z24 78) fun z25 => some ((z25, 1)) else obind (F_LTx_readsSum σ) fun z12 => (if z12.2 = 0 then some ((z12.1, 0)) else chk (inb (z12.1 78 8) 31) <| (if (z12.1 78 8) = 25 then obind (F_Text_advance z12.1 78) fun z16 => obind (F_LTx_readsSum z16) fun z17 => bindT (F_Law_addCode z17.1 85 ((kCode ((z12.1 78 8))))) fun z18 => some ((z18, (z17.2 &&& 1))) else (if (z12.1 78 8) = 26 then obind (F_Text_advance z12.1 78) fun z20 => obind (F_LTx_readsSum z20) fun z21 => bindT (F_Law_addCode z21.1 85 ((kCode ((z12.1 78 8))))) fun z22 => some ((z22, (z21.2 &&& 1))) else bindT (F_Text_refuse z12.1 78) fun z23 => some ((z23.1, (z23.2 &&& 1))))))))
def CMP (z5 : Mem × Int32) : Option (Mem × Int32) := obind (F_M_isSign z5.1 60) fun z7 => (if z7.2 = 0 then obind (F_M_isSign z7.1 62) fun z14 => (if z14.2 = 0 then bindT (F_M_wrong z14.1 ((z14.1 333 11))) fun z21 => some ((z21, 0)) else bindT (up z14.1 333 11 (((z14.1 333 11) + 1))) fun σ16 => obind (F_M_sum σ16) fun z17 => (if z7.2 = 0 then (if z17.2 < z5.2 then some ((z17.1, 1)) else some ((z17.1, 0))) else (if z5.2 < z17.2 then some ((z17.1, 1)) else some ((z17.1, 0))))) else bindT (up z7.1 333 11 (((z7.1 333 11) + 1))) fun σ9 => obind (F_M_sum σ9) fun z10 => (if z7.2 = 0 then (if z10.2 < z5.2 then some ((z10.1, 1)) else some ((z10.1, 0))) else (if z5.2 < z10.2 then some ((z10.1, 1)) else some ((z10.1, 0)))))
section LPL
variable {b : Nat → Nat} {n T i d : Nat} {σ : Mem} {cs : List Int32}
theorem ite_isb {p : Prop} [Decidable p] : isb (if p then 1 else 0) := by
  split
  · exact Or.inr rfl
  · exact Or.inl rfl
theorem ite_sm {p : Prop} [Decidable p] (s : Mem) : (if p then some (s, (1 : Int32)) else some (s, 0)) = some (s, if p then 1 else 0) := by
  split <;> rfl
theorem one1 : (1 : Int32) &&& 1 = 1 := by decide
theorem zer1 : (0 : Int32) &&& 1 = 0 := by decide
theorem plain_both (h : CLw b n T i cs σ) (h1 : 1 ≤ i) (h2 : cs.length ≤ i) : RES b n T 3 true i d cs σ (PLc σ) F_M_plain := by
  have hT := h.1.1.2.2.2.1
  have ne1 : ¬ (1 : Int32) = 0 := by decide
  have eB0 : ∀ s, F_M_plain s = obind (F_M_says s 14) fun z1 => (if z1.2 = 0 then obind (F_M_says z1.1 15) fun z3 => (if z3.2 = 0 then obind (F_M_sum z3.1) fun z5 => (if (z5.1 333 12) = (-1) then CMP z5 else some ((z5.1, 0))) else some ((z3.1, ((z3.1 333 15) &&& 1)))) else (if 0 < (z1.1 339 3) then some ((z1.1, 1)) else some ((z1.1, 0)))) := fun s => rfl
  by_cases c14 : σ 78 8 = nI 14
  · have hi : i < T := h.1.lt (v := 14) (by decide) c14
    obtain ⟨a1, a2⟩ := h.add (by omega) 1006
    obtain ⟨σ3, f1, f2, f3⟩ := a1.next hi
    refine Or.inl ⟨σ3, i + 1, [1006], fun v => v 1006, ?_, f2, a2.trans f3, by omega, by show 1 + i ≤ i + 1; omega, fun _ v hv => hv.1, fun v S hv hS => rnC_push (by decide) (by omega), fun s hs => ⟨_, ?_, hs.nxt h.1 hi, FR.up (by omega)⟩⟩
    · unfold PLc
      rw [if_pos (show σ 78 8 = 14 from c14), c14, show kCode (nI 14) = 1006 by decide, bind_T, f1, ob_s]
    · rw [eB0, (sn_says hs h.1 (v := 14) (by decide)).1 c14, ob_s]
      dsimp only
      rw [if_neg ne1]
      have e : (up s 333 11 (nI (stF b n (posI b n i)))) 339 3 = s 339 3 := up_d (by omega)
      simp only [e, ite_sm]
      rfl
  by_cases c15 : σ 78 8 = nI 15
  · have hi : i < T := h.1.lt (v := 15) (by decide) c15
    obtain ⟨a1, a2⟩ := h.add (by omega) 1007
    obtain ⟨σ3, f1, f2, f3⟩ := a1.next hi
    refine Or.inl ⟨σ3, i + 1, [1007], fun v => v 1007, ?_, f2, a2.trans f3, by omega, by show 1 + i ≤ i + 1; omega, fun _ v hv => hv.2, fun v S hv hS => rnC_push (by decide) (by omega), fun s hs => ⟨_, ?_, hs.nxt h.1 hi, FR.up (by omega)⟩⟩
    · unfold PLc
      rw [if_neg (show ¬ σ 78 8 = 14 from c14)]
      rw [if_pos (show σ 78 8 = 15 from c15), c15, show kCode (nI 15) = 1007 by decide, bind_T, f1, ob_s]
    · rw [eB0, (sn_says hs h.1 (v := 14) (by decide)).2 c14, ob_s]
      dsimp only
      rw [if_pos rfl, (sn_says (hs.here h.1) h.1 (v := 15) (by decide)).1 c15, ob_s]
      dsimp only
      rw [if_neg ne1, up_up, up_d (by omega)]
      rfl
  have eA : PLc σ = obind (F_LTx_readsSum σ) fun z12 => (if z12.2 = 0 then some ((z12.1, 0)) else chk (inb (z12.1 78 8) 31) <| (if (z12.1 78 8) = 25 then obind (F_Text_advance z12.1 78) fun z16 => obind (F_LTx_readsSum z16) fun z17 => bindT (F_Law_addCode z17.1 85 ((kCode ((z12.1 78 8))))) fun z18 => some ((z18, (z17.2 &&& 1))) else (if (z12.1 78 8) = 26 then obind (F_Text_advance z12.1 78) fun z20 => obind (F_LTx_readsSum z20) fun z21 => bindT (F_Law_addCode z21.1 85 ((kCode ((z12.1 78 8))))) fun z22 => some ((z22, (z21.2 &&& 1))) else bindT (F_Text_refuse z12.1 78) fun z23 => some ((z23.1, (z23.2 &&& 1)))))) := by
    unfold PLc
    rw [if_neg (show ¬ σ 78 8 = 14 from c14), if_neg (show ¬ σ 78 8 = 15 from c15)]
  have eB : ∀ s, SN b n T i d s → F_M_plain s = obind (F_M_sum (up s 333 11 (nI (posI b n i)))) fun z5 => (if (z5.1 333 12) = (-1) then CMP z5 else some ((z5.1, 0))) := fun s hs => by
    rw [eB0, (sn_says hs h.1 (v := 14) (by decide)).2 c14, ob_s]
    dsimp only
    rw [if_pos rfl, (sn_says (hs.here h.1) h.1 (v := 15) (by decide)).2 c15, ob_s]
    dsimp only
    rw [if_pos rfl, up_up]
  rw [eA]
  rcases sum_both (d := d) h h1 h2 with ⟨σ1, i1, n1, x1, p1, p2, p3, p4, p5, -, p7, p8⟩ | ⟨σ1, w, p1, p2, p3, p4, p5⟩
  · rw [p1, ob_s]
    dsimp only
    rw [if_neg ne1, p2.in31, chk_t]
    have hB : ∀ s, SN b n T i d s → ∃ s1, F_M_plain s = CMP (s1, x1 (vS s)) ∧ SN b n T i1 d s1 ∧ FR s s1 := fun s hs => by
      obtain ⟨s1, t1, t2, t3⟩ := p8 _ (hs.here h.1)
      refine ⟨s1, ?_, t2, (FR.up (by omega)).trans t3⟩
      rw [eB s hs, t1, ob_s]
      dsimp only
      rw [if_pos t2.m1, (FR.up (s := s) (j := 11) (v := nI (posI b n i)) (by omega)).vs]
    have l1 : (cs ++ n1).length = cs.length + n1.length := List.length_append
    by_cases c25 : σ1 78 8 = nI 25
    · have hi1 : i1 < T := p2.1.lt (v := 25) (by decide) c25
      obtain ⟨σ2, e1, e2, e3⟩ := p2.next hi1
      rw [if_pos (show σ1 78 8 = 25 from c25), e1, ob_s, c25, show kCode (nI 25) = 1009 by decide]
      have hC : ∀ s1 x, SN b n T i1 d s1 → ∃ s2, SN b n T (i1 + 1) d s2 ∧ FR s1 s2 ∧ CMP (s1, x) = obind (F_M_sum s2) fun z10 => some (z10.1, if x < z10.2 then 1 else 0) := fun s1 x hs => by
        obtain ⟨k1, k2⟩ := sn_sign hs p2.1 (k := 3) (by decide)
        have k1' : F_M_isSign s1 60 = some (up s1 333 11 (nI (posI b n i1)), if σ1 78 8 = nI 25 then 1 else 0) := k1
        refine ⟨_, hs.nxt p2.1 hi1, FR.up (by omega), ?_⟩
        unfold CMP
        dsimp only
        rw [k1', ob_s, if_pos c25]
        dsimp only
        rw [if_neg ne1, bind_T, up_s, up_up, nI_1, ← (k2 c25).2]
        congr 1
        funext z10
        rw [if_neg ne1, ite_sm]
      rcases sum_both (d := d) e2 (by omega) (by omega) with ⟨σ4, i2, n2, x2, r1, r2, r3, r4, r5, -, r7, r8⟩ | ⟨σ4, w, r1, r2, r3, r4, r5⟩
      · have l2 : (cs ++ n1 ++ n2).length = cs.length + n1.length + n2.length := by rw [List.length_append, l1]
        have hT2 := r2.1.1.2.2.2.2
        obtain ⟨a1, a2⟩ := r2.add (by omega) 1009
        rw [r1, ob_s, bind_T]
        dsimp only
        rw [one1]
        refine Or.inl ⟨_, i2, n1 ++ (n2 ++ [1009]), fun v => if x1 v < x2 v then 1 else 0, rfl, ?_, ((p3.trans e3).trans r3).trans a2, by omega, ?_, fun _ v _ => ite_isb, fun v S hv hS => ?_, fun s hs => ?_⟩
        · rw [← List.append_assoc, ← List.append_assoc]
          exact a1
        · rw [List.length_append, List.length_append]
          show n1.length + (n2.length + 1) + i ≤ i2
          omega
        · exact rnC_to (p7 v S hv (by omega)) (rnC_to (r7 v (x1 v :: S) hv (by show S.length + 1 + 2 ≤ 64; omega)) (rnC_join (by decide) (by decide)))
        · obtain ⟨s1, t1, t2, t3⟩ := hB s hs
          obtain ⟨s2, t4, t5, t6⟩ := hC s1 (x1 (vS s)) t2
          obtain ⟨s3, t7, t8, t9⟩ := r8 s2 t4
          refine ⟨s3, ?_, t8, (t3.trans t5).trans t9⟩
          rw [t1, t6, t7, ob_s, t5.vs, t3.vs]
      · obtain ⟨a1, a2⟩ := addCode_fr σ4 1009
        rw [r1, ob_s, bind_T]
        dsimp only
        rw [zer1]
        refine Or.inr ⟨_, w, rfl, r2, a2.trans r3, ((p3.trans e3).trans r4).trans a1, fun s hs => ?_⟩
        obtain ⟨s1, t1, t2, t3⟩ := hB s hs
        obtain ⟨s2, t4, t5, t6⟩ := hC s1 (x1 (vS s)) t2
        obtain ⟨s3, y, t7, t8, t9⟩ := r5 s2 t4
        refine ⟨s3, if x1 (vS s) < y then 1 else 0, ?_, t8, (t3.trans t5).trans t9⟩
        rw [t1, t6, t7, ob_s]
    by_cases c26 : σ1 78 8 = nI 26
    · have hi1 : i1 < T := p2.1.lt (v := 26) (by decide) c26
      obtain ⟨σ2, e1, e2, e3⟩ := p2.next hi1
      rw [if_neg (show ¬ σ1 78 8 = 25 from c25)]
      rw [if_pos (show σ1 78 8 = 26 from c26), e1, ob_s, c26, show kCode (nI 26) = 1010 by decide]
      have hC : ∀ s1 x, SN b n T i1 d s1 → ∃ s2, SN b n T (i1 + 1) d s2 ∧ FR s1 s2 ∧ CMP (s1, x) = obind (F_M_sum s2) fun z10 => some (z10.1, if z10.2 < x then 1 else 0) := fun s1 x hs => by
        obtain ⟨k1, k2⟩ := sn_sign hs p2.1 (k := 3) (by decide)
        have k1' : F_M_isSign s1 60 = some (up s1 333 11 (nI (posI b n i1)), if σ1 78 8 = nI 25 then 1 else 0) := k1
        obtain ⟨k3, k4⟩ := sn_sign (hs.here p2.1) p2.1 (k := 4) (by decide)
        have k3' : F_M_isSign (up s1 333 11 (nI (posI b n i1))) 62 = some (up s1 333 11 (nI (posI b n i1)), if σ1 78 8 = nI 26 then 1 else 0) := by
          rw [up_up] at k3
          exact k3
        refine ⟨_, hs.nxt p2.1 hi1, FR.up (by omega), ?_⟩
        unfold CMP
        dsimp only
        rw [k1', ob_s, if_neg c25]
        dsimp only
        rw [if_pos rfl, k3', ob_s, if_pos c26]
        dsimp only
        rw [if_neg ne1, bind_T, up_s, up_up, nI_1, ← (k4 c26).2]
        congr 1
        funext z10
        rw [if_pos rfl, ite_sm]
      rcases sum_both (d := d) e2 (by omega) (by omega) with ⟨σ4, i2, n2, x2, r1, r2, r3, r4, r5, -, r7, r8⟩ | ⟨σ4, w, r1, r2, r3, r4, r5⟩
      · have l2 : (cs ++ n1 ++ n2).length = cs.length + n1.length + n2.length := by rw [List.length_append, l1]
        have hT2 := r2.1.1.2.2.2.2
        obtain ⟨a1, a2⟩ := r2.add (by omega) 1010
        rw [r1, ob_s, bind_T]
        dsimp only
        rw [one1]
        refine Or.inl ⟨_, i2, n1 ++ (n2 ++ [1010]), fun v => if x2 v < x1 v then 1 else 0, rfl, ?_, ((p3.trans e3).trans r3).trans a2, by omega, ?_, fun _ v _ => ite_isb, fun v S hv hS => ?_, fun s hs => ?_⟩
        · rw [← List.append_assoc, ← List.append_assoc]
          exact a1
        · rw [List.length_append, List.length_append]
          show n1.length + (n2.length + 1) + i ≤ i2
          omega
        · exact rnC_to (p7 v S hv (by omega)) (rnC_to (r7 v (x1 v :: S) hv (by show S.length + 1 + 2 ≤ 64; omega)) (rnC_join (by decide) (by decide)))
        · obtain ⟨s1, t1, t2, t3⟩ := hB s hs
          obtain ⟨s2, t4, t5, t6⟩ := hC s1 (x1 (vS s)) t2
          obtain ⟨s3, t7, t8, t9⟩ := r8 s2 t4
          refine ⟨s3, ?_, t8, (t3.trans t5).trans t9⟩
          rw [t1, t6, t7, ob_s, t5.vs, t3.vs]
      · obtain ⟨a1, a2⟩ := addCode_fr σ4 1010
        rw [r1, ob_s, bind_T]
        dsimp only
        rw [zer1]
        refine Or.inr ⟨_, w, rfl, r2, a2.trans r3, ((p3.trans e3).trans r4).trans a1, fun s hs => ?_⟩
        obtain ⟨s1, t1, t2, t3⟩ := hB s hs
        obtain ⟨s2, t4, t5, t6⟩ := hC s1 (x1 (vS s)) t2
        obtain ⟨s3, y, t7, t8, t9⟩ := r5 s2 t4
        refine ⟨s3, if y < x1 (vS s) then 1 else 0, ?_, t8, (t3.trans t5).trans t9⟩
        rw [t1, t6, t7, ob_s]
    rw [if_neg (show ¬ σ1 78 8 = 25 from c25), if_neg (show ¬ σ1 78 8 = 26 from c26), c_ref p2.1, bind_T]
    dsimp only
    rw [zer1]
    refine Or.inr ⟨_, posI b n i1, rfl, p2.1.pos.1, up_s, p3.trans FC.ref, fun s hs => ?_⟩
    obtain ⟨s1, t1, t2, t3⟩ := hB s hs
    obtain ⟨k1, -⟩ := sn_sign t2 p2.1 (k := 3) (by decide)
    have k1' : F_M_isSign s1 60 = some (up s1 333 11 (nI (posI b n i1)), if σ1 78 8 = nI 25 then 1 else 0) := k1
    obtain ⟨k3, k4⟩ := sn_sign (t2.here p2.1) p2.1 (k := 4) (by decide)
    have k3' : F_M_isSign (up s1 333 11 (nI (posI b n i1))) 62 = some (up s1 333 11 (nI (posI b n i1)), if σ1 78 8 = nI 26 then 1 else 0) := by
      rw [up_up] at k3
      exact k3
    have f2 : FR s1 (up (up s1 333 11 (nI (posI b n i1))) 333 12 (nI (posI b n i1))) := (FR.up (by omega)).trans (FR.up (by omega))
    refine ⟨up (up s1 333 11 (nI (posI b n i1))) 333 12 (nI (posI b n i1)), 0, ?_, t2.flt p2.1.pos.1 (a := posI b n i1) (by have := p2.1.pos.1; omega) f2 (by rw [up_d (by omega), up_s]) up_s, t3.trans f2⟩
    rw [t1]
    unfold CMP
    dsimp only
    rw [k1', ob_s, if_neg c25]
    dsimp only
    rw [if_pos rfl, k3', ob_s, if_neg c26]
    dsimp only
    rw [if_pos rfl, up_s, m_wr (t2.here p2.1), bind_T]
  · rw [p1, ob_s]
    dsimp only
    rw [if_pos rfl]
    refine Or.inr ⟨σ1, w, rfl, p2, p3, p4, fun s hs => ?_⟩
    obtain ⟨s1, y, t1, t2, t3⟩ := p5 _ (hs.here h.1)
    refine ⟨s1, 0, ?_, t2, (FR.up (by omega)).trans t3⟩
    rw [eB s hs, t1, ob_s]
    dsimp only
    rw [if_neg t2.ne]
end LPL

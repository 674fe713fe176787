-- PURE STAGE: the law's text: one condition, with its brackets
def ATc (rc : Mem → Int32 → Option (Mem × Int32)) (σ : Mem) (v1 : Int32) : Option (Mem × Int32) := obind (F_Text_takes σ 78 23) fun z4 => (if z4.2 = 0 then chk (inb (z4.1 78 8) 31) <| (if (z4.1 78 8) = 13 then obind (F_LTx_readsNot_g rc z4.1 ((v1 + 1))) fun z26 => some ((z26.1, (z26.2 &&& 1))) else PLc z4.1) else obind (F_LTx_readsEither_g rc z4.1 ((v1 + 1))) fun z27 => (if z27.2 = 0 then some ((z27.1, 0)) else obind (F_Text_needs z27.1 78 24) fun z29 => (if z29.2 = 0 then some ((z29.1, 0)) else some ((z29.1, 1)))))
theorem atom_c (rc : Mem → Int32 → Option (Mem × Int32)) (σ : Mem) (v1 : Int32) : F_LTx_readsAtom_g rc σ v1 = chk (inb (σ 78 8) 31) (if (σ 78 8) = 13 then (if v1 < 6 then ATc rc σ v1 else bindT (F_Text_refuse σ 78) fun z31 => some ((z31.1, (z31.2 &&& 1)))) else (if (σ 78 8) = 23 then (if v1 < 6 then ATc rc σ v1 else bindT (F_Text_refuse σ 78) fun z88 => some ((z88.1, (z88.2 &&& 1)))) else ATc rc σ v1)) := rfl
section LAT
variable {b : Nat → Nat} {n T : Nat}
theorem RES.mono {h h' : Nat} {bo : Bool} {i d : Nat} {cs : List Int32} {σ : Mem} {A : Option (Mem × Int32)} {B : Mem → Option (Mem × Int32)} (hh : h ≤ h') (r : RES b n T h bo i d cs σ A B) : RES b n T h' bo i d cs σ A B := by
  rcases r with ⟨σ2, i2, n2, x2, p1, p2, p3, p4, p5, p6, p7, p8⟩ | r
  · exact Or.inl ⟨σ2, i2, n2, x2, p1, p2, p3, p4, p5, p6, fun v S hv hS => p7 v S hv (by omega), p8⟩
  · exact Or.inr r
theorem SN.deep {i d d' : Nat} {s : Mem} (h : SN b n T i d s) : SN b n T i d' (up s 333 13 (nI d')) := by
  obtain ⟨a, h1, h2, h3, h4⟩ := h
  exact ⟨a, h1.any h1.2.1 (FR.up (by omega)) (by rw [up_d (by omega)]; exact h1.2.2.2.1), h2, by rw [up_d (by omega)]; exact h3, up_s⟩
theorem SN.d13 {i d : Nat} {s : Mem} (h : SN b n T i d s) : s 333 13 = nI d := by
  obtain ⟨a, -, -, -, h4⟩ := h
  exact h4
theorem FNt.step {w K K' : Nat} {s s1 : Mem} (h : FNt b n w K s) (e : FR s s1) (e12 : s1 333 12 = s 333 12) {a : Nat} (ha : a ≤ n + K') (e11 : s1 333 11 = nI a) : FNt b n w K' s1 := by
  obtain ⟨h1, h2, a0, h3, h4, h5⟩ := h
  have f : FR (up s 333 11 (nI 0)) (up s1 333 11 (nI 0)) := fun q j hq => by
    rw [up_d (by omega), up_d (by omega)]
    exact e q j hq
  exact ⟨e12.trans h1, h2, a, ha, e11, h5.any (Nat.zero_le n) f up_s⟩
theorem FNt.at' {w K : Nat} {s : Mem} (h : FNt b n w K s) : ∃ a, a ≤ n + K ∧ s 333 11 = nI a ∧ n ≤ 400 := by
  obtain ⟨h1, h2, a0, h3, h4, h5⟩ := h
  exact ⟨a0, h3, h4, h5.1⟩
theorem atom_both : ∀ (f f' d : Nat), d ≤ 6 → 7 ≤ f + d → 7 ≤ f' + d → ∀ (i : Nat) (cs : List Int32) (σ : Mem), CLw b n T i cs σ → 1 ≤ i → cs.length ≤ i → RES b n T (15 - 2 * d) true i d cs σ (F_LTx_readsAtom_d f σ (nI d)) (F_M_atom_d f') := by
  intro f
  induction f with
  | zero => intro f' d h1 h2; omega
  | succ f ih =>
    intro f' d hd hf hf' i cs σ h h1 h2
    obtain ⟨f', rfl⟩ : ∃ k, f' = k + 1 := ⟨f' - 1, by omega⟩
    show RES b n T (15 - 2 * d) true i d cs σ (F_LTx_readsAtom_g (F_LTx_readsAtom_d f) σ (nI d)) (F_M_atom_g (F_M_atom_d f'))
    have hT := h.1.1.2.2.2.1
    have hn := h.1.1.1.1
    obtain ⟨p1', p2'⟩ := h.1.pos
    have ne1 : ¬ (1 : Int32) = 0 := by decide
    have tk : F_Text_takes σ 78 23 = if σ 78 8 = nI 23 then obind (F_Text_advance σ 78) fun z4 => some (z4, 1) else some (σ, 0) := by
      unfold F_Text_takes
      rw [h.in31, chk_t, show inb 23 31 = true by decide, chk_t]
      rfl
    have lt6 : d < 6 → (nI d : Int32) < 6 := fun q => nI_lt (b := 6) q (by omega)
    have nlt6 : ¬ d < 6 → ¬ (nI d : Int32) < 6 := fun q => nI_nlt (b := 6) (by omega) (by omega)
    have ne6 : d < 6 → ¬ (nI d : Int32) = 6 := fun q e => by have := nI_inj (b := 6) (by omega) (by omega) e; omega
    have eq6 : ¬ d < 6 → (nI d : Int32) = 6 := fun q => by have e : d = 6 := (by omega); rw [e]; rfl
    have dm : (nI (d + 1) : Int32) - 1 = nI d := nI_pred d
    rw [atom_c, h.in31, chk_t]
    by_cases c13 : σ 78 8 = nI 13
    · -- not
      have hi : i < T := h.1.lt (v := 13) (by decide) c13
      have n23 : ¬ σ 78 8 = nI 23 := by rw [c13]; decide
      rw [if_pos (show σ 78 8 = 13 from c13)]
      have rB : ∀ s, SN b n T i d s → F_M_atom_g (F_M_atom_d f') s = (if d < 6 then obind (F_M_atom_d f' (up (up s 333 11 (nI (stF b n (posI b n i)))) 333 13 (nI (d + 1)))) fun z20 => (if z20.2 = 0 then some ((up z20.1 333 13 (((z20.1 333 13) - 1)), 1)) else some ((up z20.1 333 13 (((z20.1 333 13) - 1)), 0))) else some (up (up s 333 11 (nI (stF b n (posI b n i)))) 333 12 (nI (posI b n i)), 0)) := fun s hs => by
        obtain ⟨a, hy⟩ := hs.sy h.1
        have hz := hs.here h.1
        have hx := hs.nxt h.1 hi
        unfold F_M_atom_g
        rw [if_pos hs.m1, sy_place hy, ob_s]
        dsimp only
        rw [(sn_says hz h.1 (v := 13) (by decide)).1 c13, ob_s]
        dsimp only
        rw [if_neg ne1, up_up]
        by_cases c6 : d < 6
        · rw [if_neg (fun (e : (up s 333 11 (nI (stF b n (posI b n i)))) 333 13 = 6) => ne6 c6 (hx.d13.symm.trans e)), if_pos c6, bind_T, if_neg ne1, hx.d13, nI_1]
          rfl
        · rw [if_pos (hx.d13.trans (eq6 c6)), if_neg c6, m_wr hx, bind_T]
      by_cases c6 : d < 6
      · rw [if_pos (lt6 c6)]
        obtain ⟨σ1, e1, e2, e3⟩ := h.next hi
        have eA : ATc (F_LTx_readsAtom_d f) σ (nI d) = obind (F_LTx_readsAtom_d f σ1 (nI (d + 1))) fun z2 => some (F_Law_addCode z2.1 85 1013, z2.2 &&& 1 &&& 1) := by
          unfold ATc F_LTx_readsNot_g
          rw [tk, if_neg n23, ob_s]
          dsimp only
          rw [if_pos rfl, h.in31, chk_t, if_pos (show σ 78 8 = 13 from c13), e1, ob_s, nI_1]
          cases F_LTx_readsAtom_d f σ1 (nI (d + 1)) <;> rfl
        rw [eA]
        have stp1 : ∀ s, SN b n T i d s → SN b n T (i + 1) (d + 1) (up (up s 333 11 (nI (stF b n (posI b n i)))) 333 13 (nI (d + 1))) ∧ FR s (up (up s 333 11 (nI (stF b n (posI b n i)))) 333 13 (nI (d + 1))) := fun s hs => ⟨(hs.nxt h.1 hi).deep, (FR.up (by omega)).trans (FR.up (by omega))⟩
        rcases ih f' (d + 1) (by omega) (by omega) (by omega) (i + 1) cs σ1 e2 (by omega) (by omega) with ⟨σ2, i2, n2, x2, p1, p2, p3, p4, p5, p6, p7, p8⟩ | ⟨σ2, w, p1, p2, p3, p4, p5⟩
        · have l2 : (cs ++ n2).length = cs.length + n2.length := List.length_append
          have hT2 := p2.1.1.2.2.2.2
          obtain ⟨a1, a2⟩ := p2.add (by omega) 1013
          rw [p1, ob_s]
          dsimp only
          rw [one1, one1]
          refine Or.inl ⟨_, i2, n2 ++ [1013], fun v => 1 - x2 v, rfl, by rw [← List.append_assoc]; exact a1, (e3.trans p3).trans a2, by omega, ?_, fun _ v hv => ?_, fun v S hv hS => rnC_to (p7 v S hv (by omega)) rnC_not, fun s hs => ?_⟩
          · rw [List.length_append]
            show n2.length + 1 + i ≤ i2
            omega
          · show isb (1 - x2 v)
            rcases p6 rfl v hv with q | q
            · rw [q]; exact Or.inr (by decide)
            · rw [q]; exact Or.inl (by decide)
          · obtain ⟨t1, t2⟩ := stp1 s hs
            obtain ⟨s1, t3, t4, t5⟩ := p8 _ t1
            rw [t2.vs] at t3
            refine ⟨up s1 333 13 (nI d), ?_, t4.deep, (t2.trans t5).trans (FR.up (by omega))⟩
            rw [rB s hs, if_pos c6, t3, ob_s]
            dsimp only
            rw [t4.d13, dm]
            rcases p6 rfl _ (vS_g s) with q | q
            · rw [q, if_pos rfl, show (1 : Int32) - 0 = 1 by decide]
            · rw [q, if_neg ne1, show (1 : Int32) - 1 = 0 by decide]
        · obtain ⟨a1, a2⟩ := addCode_fr σ2 1013
          rw [p1, ob_s]
          dsimp only
          rw [zer1, zer1]
          refine Or.inr ⟨_, w, rfl, p2, a2.trans p3, (e3.trans p4).trans a1, fun s hs => ?_⟩
          obtain ⟨t1, t2⟩ := stp1 s hs
          obtain ⟨s1, y, t3, t4, t5⟩ := p5 _ t1
          obtain ⟨a, ha, ea, -⟩ := t4.at'
          refine ⟨up s1 333 13 (s1 333 13 - 1), if y = 0 then 1 else 0, ?_, t4.step (FR.up (by omega)) (up_d (by omega)) (a := a) (by omega) (by rw [up_d (by omega)]; exact ea), (t2.trans t5).trans (FR.up (by omega))⟩
          rw [rB s hs, if_pos c6, t3, ob_s]
          dsimp only
          rw [ite_sm]
      · rw [if_neg (nlt6 c6), c_ref h.1, bind_T]
        dsimp only
        rw [zer1]
        refine Or.inr ⟨_, posI b n i, rfl, p1', up_s, FC.ref, fun s hs => ?_⟩
        have f2 : FR s (up (up s 333 11 (nI (stF b n (posI b n i)))) 333 12 (nI (posI b n i))) := (FR.up (by omega)).trans (FR.up (by omega))
        refine ⟨_, 0, (rB s hs).trans (if_neg c6), hs.flt p1' (a := stF b n (posI b n i)) (by have := (stF_is (b := b) (p2'.mpr hi)).2; omega) f2 (by rw [up_d (by omega), up_s]) up_s, f2⟩
    rw [if_neg (show ¬ σ 78 8 = 13 from c13)]
    have sg : ∀ s, SN b n T i d s → F_M_isSign (up s 333 11 (nI (posI b n i))) 40 = some (up s 333 11 (nI (posI b n i)), if σ 78 8 = nI 23 then 1 else 0) ∧ (σ 78 8 = nI 23 → i < T ∧ stF b n (posI b n i) = posI b n i + 1) := fun s hs => by
      have := sn_sign (hs.here h.1) h.1 (k := 1) (by decide)
      rw [up_up] at this
      exact this
    by_cases c23 : σ 78 8 = nI 23
    · -- brackets
      have hi : i < T := h.1.lt (v := 23) (by decide) c23
      rw [if_pos (show σ 78 8 = 23 from c23)]
      have rB : ∀ s, SN b n T i d s → F_M_atom_g (F_M_atom_d f') s = (if d < 6 then obind (F_M_some_g (F_M_atom_d f') (up (up s 333 13 (nI (d + 1))) 333 11 (nI (stF b n (posI b n i))))) fun z9 => (if (z9.1 333 12) = (-1) then obind (F_M_isSign z9.1 41) fun z13 => (if z13.2 = 0 then bindT (F_M_wrong z13.1 ((z13.1 333 11))) fun z17 => bindT (up z17 333 11 (((z17 333 11) + 1))) fun σ18 => bindT (up σ18 333 13 (((σ18 333 13) - 1))) fun σ19 => some ((σ19, (z9.2 &&& 1))) else bindT (up z13.1 333 11 (((z13.1 333 11) + 1))) fun σ15 => bindT (up σ15 333 13 (((σ15 333 13) - 1))) fun σ16 => some ((σ16, (z9.2 &&& 1)))) else bindT (up z9.1 333 11 (((z9.1 333 11) + 1))) fun σ11 => bindT (up σ11 333 13 (((σ11 333 13) - 1))) fun σ12 => some ((σ12, (z9.2 &&& 1)))) else some (up (up s 333 11 (nI (posI b n i))) 333 12 (nI (posI b n i)), 0)) := fun s hs => by
        obtain ⟨a, hy⟩ := hs.sy h.1
        have hz := hs.here h.1
        obtain ⟨g1, g2⟩ := sg s hs
        unfold F_M_atom_g
        rw [if_pos hs.m1, sy_place hy, ob_s]
        dsimp only
        rw [(sn_says hz h.1 (v := 13) (by decide)).2 c13, ob_s]
        dsimp only
        rw [if_pos rfl, up_up, g1, ob_s, if_pos c23]
        dsimp only
        rw [if_neg ne1]
        by_cases c6 : d < 6
        · rw [if_neg (fun (e : (up s 333 11 (nI (posI b n i))) 333 13 = 6) => ne6 c6 (hz.d13.symm.trans e)), if_pos c6, bind_T, if_pos rfl, bind_T, hz.d13, nI_1, up_d (by omega), up_s, nI_1, ← (g2 c23).2]
          have e : up (up (up s 333 11 (nI (posI b n i))) 333 13 (nI (d + 1))) 333 11 (nI (stF b n (posI b n i))) = up (up s 333 13 (nI (d + 1))) 333 11 (nI (stF b n (posI b n i))) := by
            funext x y
            unfold up
            by_cases q : x = 333 ∧ y = 11
            · simp only [if_pos q]
            · simp only [if_neg q]
          rw [e]
        · rw [if_pos (hz.d13.trans (eq6 c6)), if_neg c6, m_wr hz, bind_T]
      by_cases c6 : d < 6
      · rw [if_pos (lt6 c6)]
        obtain ⟨σ1, e1, e2, e3⟩ := h.next hi
        have eA : ATc (F_LTx_readsAtom_d f) σ (nI d) = obind (F_LTx_readsEither_g (F_LTx_readsAtom_d f) σ1 (nI (d + 1))) fun z27 => (if z27.2 = 0 then some ((z27.1, 0)) else obind (F_Text_needs z27.1 78 24) fun z29 => (if z29.2 = 0 then some ((z29.1, 0)) else some ((z29.1, 1)))) := by
          unfold ATc
          rw [tk, if_pos c23, e1, ob_s, ob_s]
          dsimp only
          rw [if_neg ne1, nI_1]
        rw [eA]
        have stp1 : ∀ s, SN b n T i d s → SN b n T (i + 1) (d + 1) (up (up s 333 13 (nI (d + 1))) 333 11 (nI (stF b n (posI b n i)))) ∧ FR s (up (up s 333 13 (nI (d + 1))) 333 11 (nI (stF b n (posI b n i)))) := fun s hs => ⟨SN.nxt hs.deep h.1 hi, (FR.up (by omega)).trans (FR.up (by omega))⟩
        rcases some_both (fun i cs σ q1 q2 q3 => ih f' (d + 1) (by omega) (by omega) (by omega) i cs σ q1 q2 q3) e2 (show 1 ≤ i + 1 by omega) (by omega) with ⟨σ2, i2, n2, x2, p1, p2, p3, p4, p5, p6, p7, p8⟩ | ⟨σ2, w, p1, p2, p3, p4, p5⟩
        · rw [p1, ob_s]
          dsimp only
          rw [if_neg ne1]
          have nd : F_Text_needs σ2 78 24 = if σ2 78 8 = nI 24 then obind (F_Text_advance σ2 78) fun z4 => some (z4, 1) else some (up σ2 78 12 (nI (posI b n i2)), 0) := by
            unfold F_Text_needs
            rw [p2.in31, chk_t, show inb 24 31 = true by decide, chk_t, c_ref p2.1, bind_T]
            dsimp only
            rw [zer1]
            rfl
          have sB : ∀ s, SN b n T i d s → ∃ s1, F_M_atom_g (F_M_atom_d f') s = (if σ2 78 8 = nI 24 then some (up (up s1 333 11 (nI (stF b n (posI b n i2)))) 333 13 (nI d), x2 (vS s)) else some (up (up (up s1 333 12 (nI (posI b n i2))) 333 11 (nI (posI b n i2 + 1))) 333 13 (nI d), x2 (vS s))) ∧ SN b n T i2 (d + 1) s1 ∧ FR s s1 := fun s hs => by
            obtain ⟨t1, t2⟩ := stp1 s hs
            obtain ⟨s1, t3, t4, t5⟩ := p8 _ t1
            rw [t2.vs] at t3
            obtain ⟨g1, g2⟩ := sn_sign t4 p2.1 (k := 2) (by decide)
            have g1' : F_M_isSign s1 41 = some (up s1 333 11 (nI (posI b n i2)), if σ2 78 8 = nI 24 then 1 else 0) := g1
            refine ⟨s1, ?_, t4, t2.trans t5⟩
            rw [rB s hs, if_pos c6, t3, ob_s]
            dsimp only
            rw [if_pos t4.m1, g1', ob_s]
            by_cases c24 : σ2 78 8 = nI 24
            · rw [if_pos c24, if_pos c24]
              dsimp only
              rw [if_neg ne1, bind_T, bind_T, up_s, up_up, nI_1, up_d (by omega), t4.d13, dm, ← (g2 c24).2, isb_and (p6 rfl _ (vS_g s))]
            · rw [if_neg c24, if_neg c24]
              dsimp only
              rw [if_pos rfl, m_wr (t4.here p2.1), bind_T, bind_T, bind_T, isb_and (p6 rfl _ (vS_g s)), up_s]
              have q1 : (up (up s1 333 11 (nI (posI b n i2))) 333 12 (nI (posI b n i2))) 333 11 = nI (posI b n i2) := by rw [up_d (by omega), up_s]
              have q2 : (up (up (up s1 333 11 (nI (posI b n i2))) 333 12 (nI (posI b n i2))) 333 11 (nI (posI b n i2 + 1))) 333 13 = nI (d + 1) := by rw [up_d (by omega), up_d (by omega), up_d (by omega)]; exact t4.d13
              have q3 : up (up (up s1 333 11 (nI (posI b n i2))) 333 12 (nI (posI b n i2))) 333 11 (nI (posI b n i2 + 1)) = up (up s1 333 12 (nI (posI b n i2))) 333 11 (nI (posI b n i2 + 1)) := by
                funext x y
                unfold up
                by_cases q : x = 333 ∧ y = 11
                · simp only [if_pos q]
                · simp only [if_neg q]
              rw [q1, nI_1, q2, dm, q3]
          rw [nd]
          by_cases c24 : σ2 78 8 = nI 24
          · have hi2 : i2 < T := p2.1.lt (v := 24) (by decide) c24
            obtain ⟨σ3, k1, k2, k3⟩ := p2.next hi2
            rw [if_pos c24, k1, ob_s, ob_s]
            dsimp only
            rw [if_neg ne1]
            refine Or.inl ⟨σ3, i2 + 1, n2, x2, rfl, k2, (e3.trans p3).trans k3, by omega, by omega, p6, fun v S hv hS => p7 v S hv (by omega), fun s hs => ?_⟩
            obtain ⟨s1, t1, t2, t3⟩ := sB s hs
            refine ⟨_, t1.trans (if_pos c24), (t2.nxt p2.1 hi2).deep, t3.trans ((FR.up (by omega)).trans (FR.up (by omega)))⟩
          · rw [if_neg c24, ob_s]
            dsimp only
            rw [if_pos rfl]
            have pp := p2.1.pos.1
            refine Or.inr ⟨_, posI b n i2, rfl, pp, up_s, (e3.trans p3).trans FC.ref, fun s hs => ?_⟩
            obtain ⟨s1, t1, t2, t3⟩ := sB s hs
            have f2 : FR s1 (up (up (up s1 333 12 (nI (posI b n i2))) 333 11 (nI (posI b n i2 + 1))) 333 13 (nI d)) := ((FR.up (by omega)).trans (FR.up (by omega))).trans (FR.up (by omega))
            refine ⟨_, _, t1.trans (if_neg c24), t2.flt pp (a := posI b n i2 + 1) (by omega) f2 (by rw [up_d (by omega), up_s]) (by rw [up_d (by omega), up_d (by omega), up_s]), t3.trans f2⟩
        · rw [p1, ob_s]
          dsimp only
          rw [if_pos rfl]
          refine Or.inr ⟨σ2, w, rfl, p2, p3, e3.trans p4, fun s hs => ?_⟩
          obtain ⟨t1, t2⟩ := stp1 s hs
          obtain ⟨s1, y, t3, t4, t5⟩ := p5 _ t1
          obtain ⟨a, ha, ea, hn4⟩ := t4.at'
          have f2 : FR s1 (up (up s1 333 11 (nI (a + 1))) 333 13 ((up s1 333 11 (nI (a + 1))) 333 13 - 1)) := (FR.up (by omega)).trans (FR.up (by omega))
          refine ⟨up (up s1 333 11 (nI (a + 1))) 333 13 ((up s1 333 11 (nI (a + 1))) 333 13 - 1), y &&& 1, ?_, t4.step f2 (by rw [up_d (by omega), up_d (by omega)]) (a := a + 1) (by omega) (by rw [up_d (by omega), up_s]), (t2.trans t5).trans f2⟩
          rw [rB s hs, if_pos c6, t3, ob_s]
          dsimp only
          rw [if_neg t4.ne, bind_T, bind_T, ea, nI_1]
      · rw [if_neg (nlt6 c6), c_ref h.1, bind_T]
        dsimp only
        rw [zer1]
        refine Or.inr ⟨_, posI b n i, rfl, p1', up_s, FC.ref, fun s hs => ?_⟩
        have f2 : FR s (up (up s 333 11 (nI (posI b n i))) 333 12 (nI (posI b n i))) := (FR.up (by omega)).trans (FR.up (by omega))
        refine ⟨_, 0, (rB s hs).trans (if_neg c6), hs.flt p1' (a := posI b n i) (by omega) f2 (by rw [up_d (by omega), up_s]) up_s, f2⟩
    · -- plain
      rw [if_neg (show ¬ σ 78 8 = 23 from c23)]
      have eA : ATc (F_LTx_readsAtom_d f) σ (nI d) = PLc σ := by
        unfold ATc
        rw [tk, if_neg c23, ob_s]
        dsimp only
        rw [if_pos rfl, h.in31, chk_t, if_neg (show ¬ σ 78 8 = 13 from c13)]
      rw [eA]
      have rB : ∀ s, SN b n T i d s → F_M_atom_g (F_M_atom_d f') s = obind (F_M_plain (up s 333 11 (nI (posI b n i)))) fun z47 => some ((z47.1, (z47.2 &&& 1))) := fun s hs => by
        obtain ⟨a, hy⟩ := hs.sy h.1
        have hz := hs.here h.1
        obtain ⟨g1, g2⟩ := sg s hs
        unfold F_M_atom_g
        rw [if_pos hs.m1, sy_place hy, ob_s]
        dsimp only
        rw [(sn_says hz h.1 (v := 13) (by decide)).2 c13, ob_s]
        dsimp only
        rw [if_pos rfl, up_up, g1, ob_s, if_neg c23]
        dsimp only
        rw [if_pos rfl]
      rcases plain_both (d := d) h h1 h2 with ⟨σ2, i2, n2, x2, p1, p2, p3, p4, p5, p6, p7, p8⟩ | ⟨σ2, w, p1, p2, p3, p4, p5⟩
      · refine Or.inl ⟨σ2, i2, n2, x2, p1, p2, p3, p4, p5, p6, fun v S hv hS => p7 v S hv (by omega), fun s hs => ?_⟩
        obtain ⟨s1, t1, t2, t3⟩ := p8 _ (hs.here h.1)
        have fu : FR s (up s 333 11 (nI (posI b n i))) := FR.up (by omega)
        rw [fu.vs] at t1
        refine ⟨s1, ?_, t2, fu.trans t3⟩
        rw [rB s hs, t1, ob_s]
        dsimp only
        rw [isb_and (p6 rfl _ (vS_g s))]
      · refine Or.inr ⟨σ2, w, p1, p2, p3, p4, fun s hs => ?_⟩
        obtain ⟨s1, y, t1, t2, t3⟩ := p5 _ (hs.here h.1)
        have fu : FR s (up s 333 11 (nI (posI b n i))) := FR.up (by omega)
        refine ⟨s1, y &&& 1, ?_, t2, fu.trans t3⟩
        rw [rB s hs, t1, ob_s]
end LAT

-- PURE STAGE: the law's text: a line
abbrev LN : Type := Int32 × List Int32
def mtC (v : Int32 → Int32) (c : List Int32) : Bool := match rnC v c [] with
  | some (x :: _) => decide (x ≠ 0)
  | _ => true
def goodC (c : List Int32) : Prop := c = [] ∨ ∀ v, VG v → ∃ x, rnC v c [] = some [x]
def LNs (ls : List LN) (cs : List Int32) (σ : Mem) : Prop := σ 85 5 = nI ls.length ∧ ls.length ≤ 12 ∧ cs = (ls.map Prod.snd).flatten ∧ ∀ k, k < ls.length → σ 87 k = (ls.getD k (0, [])).1 ∧ σ 89 k = nI ((ls.take (k + 1)).map Prod.snd).flatten.length ∧ goodC (ls.getD k (0, [])).2
def FCl (σ σ1 : Mem) : Prop := ∀ q j, (q ≠ 78 ∨ j < 7 ∨ 12 < j) → (q ≠ 85 ∨ (j ≠ 4 ∧ j ≠ 5)) → q ≠ 87 → q ≠ 89 → q ≠ 90 → σ1 q j = σ q j
def FRl (s s1 : Mem) : Prop := ∀ q j, (q ≠ 333 ∨ (j ≠ 11 ∧ j ≠ 12 ∧ j ≠ 13 ∧ j ≠ 16)) → s1 q j = s q j
theorem FC.l {σ σ1 : Mem} (h : FC σ σ1) : FCl σ σ1 := fun q j h1 h2 h3 h4 h5 => h q j h1 (by omega) h5
theorem FR.l {s s1 : Mem} (h : FR s s1) : FRl s s1 := fun q j h1 => h q j (by omega)
theorem FCl.trans {σ σ1 σ2 : Mem} (h1 : FCl σ σ1) (h2 : FCl σ1 σ2) : FCl σ σ2 := fun q j a1 a2 a3 a4 a5 => (h2 q j a1 a2 a3 a4 a5).trans (h1 q j a1 a2 a3 a4 a5)
theorem FRl.trans {σ σ1 σ2 : Mem} (h1 : FRl σ σ1) (h2 : FRl σ1 σ2) : FRl σ σ2 := fun q j a1 => (h2 q j a1).trans (h1 q j a1)
theorem FRl.vs {s s1 : Mem} (h : FRl s s1) : vS s1 = vS s := by
  funext c
  unfold vS
  rw [h 339 0 (by omega), h 339 1 (by omega), h 339 2 (by omega), h 339 3 (by omega), h 339 4 (by omega), h 339 5 (by omega), h 333 15 (by omega)]
theorem FC.lns {ls : List LN} {cs : List Int32} {σ σ1 : Mem} (e : FC σ σ1) (h : LNs ls cs σ) : LNs ls cs σ1 := by
  obtain ⟨h1, h2, h3, h4⟩ := h
  refine ⟨(e 85 5 (by omega) (by omega) (by omega)).trans h1, h2, h3, fun k hk => ?_⟩
  obtain ⟨w1, w2, w3⟩ := h4 k hk
  exact ⟨(e 87 k (by omega) (by omega) (by omega)).trans w1, (e 89 k (by omega) (by omega) (by omega)).trans w2, w3⟩
theorem RP.anyl {b : Nat → Nat} {n a : Nat} {s s1 : Mem} (h : RP b n a s) {a' : Nat} (ha : a' ≤ n) (e : FRl s s1) (e11 : s1 333 11 = nI a') : RP b n a' s1 := by
  obtain ⟨h1, h2, h3, h4, h5, h6⟩ := h
  exact ⟨h1, ha, (e 333 10 (by omega)).trans h3, e11, h5, h6.to (e 333 9 (by omega)) (fun j => e 338 j (by omega)) (fun j _ _ => e 334 j (by omega)) h1⟩
section LLN
variable {b : Nat → Nat} {n T : Nat}
theorem SN.r16 {i d : Nat} {s : Mem} (h : SN b n T i d s) (v : Int32) : SN b n T i d (up s 333 16 v) := by
  obtain ⟨a, h1, h2, h3, h4⟩ := h
  exact ⟨a, h1.anyl h1.2.1 (fun q j hq => up_d (by omega)) (by rw [up_d (by omega)]; exact h1.2.2.2.1), h2, by rw [up_d (by omega)]; exact h3, by rw [up_d (by omega)]; exact h4⟩
/-- a line is put down -/
theorem addLine_ok {i : Nat} {cs c : List Int32} {ls : List LN} {σ0 σ : Mem} (h : CLw b n T i (cs ++ c) σ) (hl : LNs ls cs σ) (hL : ls.length < 12) (hg : goodC c) (a : Int32) : CLw b n T i (cs ++ c) (F_Law_addLine σ 85 a) ∧ LNs (ls ++ [(a, c)]) (cs ++ c) (F_Law_addLine σ 85 a) ∧ FCl σ (F_Law_addLine σ 85 a) := by
  obtain ⟨l1, l2, l3, l4⟩ := hl
  have e : F_Law_addLine σ 85 a = up (up (up σ 87 ls.length a) 89 ls.length (nI (cs ++ c).length)) 85 5 (nI (ls.length + 1)) := by
    unfold F_Law_addLine
    rw [l1, p_put (by omega) (by decide), bind_T, up_d (by omega), l1, up_d (by omega), h.2.1, p_put (by omega) (by decide), bind_T, up_d (by omega), up_d (by omega), l1, nI_1, bind_T]
  rw [e]
  have ll : (ls ++ [(a, c)]).length = ls.length + 1 := by rw [List.length_append]; rfl
  refine ⟨⟨h.1.to fun q j h1 h2 => by rw [up_d (by omega), up_d (by omega), up_d (by omega)], by rw [up_d (by omega), up_d (by omega), up_d (by omega)]; exact h.2.1, fun k hk => by rw [up_d (by omega), up_d (by omega), up_d (by omega)]; exact h.2.2 k hk⟩, ⟨?_, by omega, ?_, fun k hk => ?_⟩, fun q j h1 h2 h3 h4 h5 => by rw [up_d (by omega), up_d (by omega), up_d (by omega)]⟩
  · rw [ll, up_s]
  · rw [l3]
    simp
  · rw [ll] at hk
    by_cases ek : k = ls.length
    · subst ek
      refine ⟨?_, ?_, ?_⟩
      · rw [up_d (by omega), up_d (by omega), up_s]
        simp [List.getD]
      · rw [up_d (by omega), up_s, l3]
        have : (ls ++ [(a, c)]).take (ls.length + 1) = ls ++ [(a, c)] := List.take_of_length_le (by omega)
        rw [this]
        simp
      · have : (ls ++ [(a, c)]).getD ls.length (0, []) = (a, c) := by simp [List.getD]
        rw [this]
        exact hg
    · obtain ⟨w1, w2, w3⟩ := l4 k (by omega)
      have hk2 : k < ls.length := by omega
      have eg : (ls ++ [(a, c)]).getD k (0, []) = ls.getD k (0, []) := by simp [List.getD, List.getElem?_append_left hk2]
      have et : (ls ++ [(a, c)]).take (k + 1) = ls.take (k + 1) := by rw [List.take_append_of_le_length (by omega)]
      rw [eg, et]
      refine ⟨?_, ?_, w3⟩
      · rw [up_d (by omega), up_d (by omega), up_d (by omega)]; exact w1
      · rw [up_d (by omega), up_d (by omega)]; exact w2
/-- how reading a line ends -/
def LRL (b : Nat → Nat) (n T : Nat) (ls : List LN) (i : Nat) (cs : List Int32) (σ : Mem) (A : Option (Mem × Int32)) (B : Mem → Option Mem) (i0 : Nat) : Prop :=
  (∃ (σ1 : Mem) (i1 : Nat) (a : Int32) (c : List Int32), A = some (σ1, 1) ∧ CLw b n T i1 (cs ++ c) σ1 ∧ LNs (ls ++ [(a, c)]) (cs ++ c) σ1 ∧ FCl σ σ1 ∧ i < i1 ∧ c.length + i ≤ i1 ∧ ∀ s, SN b n T i0 0 s → ∃ s1, B s = some s1 ∧ SN b n T i1 0 s1 ∧ FRl s s1 ∧ s1 333 16 = if mtC (vS s) c = true then s 333 16 + a else s 333 16) ∨
  (∃ (σ1 : Mem) (w : Nat), A = some (σ1, 0) ∧ w ≤ n ∧ σ1 78 12 = nI w ∧ FCl σ σ1 ∧ ∀ s, SN b n T i0 0 s → ∃ s1, B s = some s1 ∧ FNt b n w 7 s1 ∧ FRl s s1)
def TLc (f : Int32 → Int32) (z18 : Mem) : Option (Mem × Int32) := obind (F_Text_takeNumber z18 78 30) fun z19 => (if z19.2 = (-1) then some ((z19.1, 0)) else obind (F_Text_takes z19.1 78 10) fun z21 => (if z21.2 = 0 then bindT (F_Law_addLine z21.1 85 (f z19.2)) fun z24 => some ((z24, 1)) else obind (F_LTx_readsEither z21.1 0) fun z25 => (if z25.2 = 0 then some ((z25.1, 0)) else bindT (F_Law_addLine z25.1 85 (f z19.2)) fun z28 => some ((z28, 1)))))
def TLm (f : Int32 → Int32) (z1 : Mem) : Option Mem := obind (F_M_figures z1 0 30) fun z3 => (if (z3.1 333 12) = (-1) then obind (F_M_says z3.1 10) fun z5 => (if z5.2 = 0 then (if (z5.1 333 12) = (-1) then some (up z5.1 333 16 (((z5.1 333 16) + f z3.2))) else some z5.1) else obind (F_M_some z5.1) fun z12 => (if z12.2 = 0 then (if (z12.1 333 12) = (-1) then some z12.1 else some z12.1) else (if (z12.1 333 12) = (-1) then some (up z12.1 333 16 (((z12.1 333 16) + f z3.2))) else some z12.1))) else some z3.1)
theorem tail_both (f : Int32 → Int32) {ls : List LN} {i : Nat} {cs : List Int32} {σ : Mem} (h : CLw b n T i cs σ) (hl : LNs ls cs σ) (hL : ls.length < 12) (h2 : cs.length ≤ i) : LRL b n T ls i cs σ (TLc f σ) (TLm f) i := by
  have ne1 : ¬ (1 : Int32) = 0 := by decide
  obtain ⟨p1', p2'⟩ := h.1.pos
  have H : ∀ v, v < 10000 → ((30 : Int32) < nI v ↔ 31 ≤ v) := fun v hv => ⟨fun q => Nat.not_lt.mp fun c => nI_nlt (a := 30) (show v ≤ 30 by omega) (by omega) q, fun q => nI_lt (a := 30) (by omega) (by omega)⟩
  by_cases good : ∃ v, v < 31 ∧ i < T ∧ σ 78 11 = nI v
  · obtain ⟨v, hv, hi, e11⟩ := good
    have fg : ∀ s, SN b n T i 0 s → F_M_figures s 0 30 = some (up s 333 11 (nI (stF b n (posI b n i))), nI v) := fun s hs => by
      obtain ⟨a, hy⟩ := hs.sy h.1
      rcases sy_num hy (v2 := 30) (H := 31) H (by omega) with ⟨v', hv', -, e', q⟩ | ⟨q1, -⟩
      · have : v' = v := nI_inj (by omega) (by omega) (e'.symm.trans e11)
        subst this
        exact q
      · exfalso
        rcases q1 with q1 | ⟨x, q2, q3, q4⟩
        · rw [e11] at q1
          exact m1_ne v (by omega) q1
        · rw [e11] at q4
          have := nI_inj (by omega) (by omega) q4
          omega
    obtain ⟨σ1, e1, e2, e3⟩ := h.next hi
    have l2 := e3.lns hl
    have tk : F_Text_takes σ1 78 10 = if σ1 78 8 = nI 10 then obind (F_Text_advance σ1 78) fun z4 => some (z4, 1) else some (σ1, 0) := by
      unfold F_Text_takes
      rw [e2.in31, chk_t, show inb 10 31 = true by decide, chk_t]
      rfl
    have tn : F_Text_takeNumber σ 78 30 = some (σ1, nI v) := by
      have := c_take h.1 (v := v) (by omega) e11 (high := 30) (by omega) (by omega)
      rw [e1, ob_s] at this
      exact this
    unfold TLc TLm
    rw [tn, ob_s]
    dsimp only
    rw [if_neg (m1_ne v (by omega)), tk]
    by_cases c10 : σ1 78 8 = nI 10
    · have hi1 : i + 1 < T := e2.1.lt (v := 10) (by decide) c10
      obtain ⟨σ2, k1, k2, k3⟩ := e2.next hi1
      rw [if_pos c10, k1, ob_s, ob_s]
      dsimp only
      rw [if_neg ne1]
      have eE : F_LTx_readsEither σ2 0 = F_LTx_readsEither_g (F_LTx_readsAtom_d 8) σ2 (nI 0) := by
        unfold F_LTx_readsEither
        rw [nI_0]
      rw [eE]
      have rB : ∀ s, SN b n T i 0 s → ∃ s0, (obind (F_M_figures s 0 30) fun z3 => (if (z3.1 333 12) = (-1) then obind (F_M_says z3.1 10) fun z5 => (if z5.2 = 0 then (if (z5.1 333 12) = (-1) then some (up z5.1 333 16 (((z5.1 333 16) + f z3.2))) else some z5.1) else obind (F_M_some z5.1) fun z12 => (if z12.2 = 0 then (if (z12.1 333 12) = (-1) then some z12.1 else some z12.1) else (if (z12.1 333 12) = (-1) then some (up z12.1 333 16 (((z12.1 333 16) + f z3.2))) else some z12.1))) else some z3.1)) = (obind (F_M_some_g (F_M_atom_d 9) s0) fun z12 => (if z12.2 = 0 then (if (z12.1 333 12) = (-1) then some z12.1 else some z12.1) else (if (z12.1 333 12) = (-1) then some (up z12.1 333 16 (((z12.1 333 16) + f (nI v)))) else some z12.1))) ∧ SN b n T (i + 1 + 1) 0 s0 ∧ FR s s0 := fun s hs => by
        have hx := hs.nxt h.1 hi
        refine ⟨_, ?_, hx.nxt e2.1 hi1, (FR.up (by omega)).trans (FR.up (by omega))⟩
        rw [fg s hs, ob_s]
        dsimp only
        rw [if_pos hx.m1, (sn_says hx e2.1 (v := 10) (by decide)).1 c10, ob_s]
        dsimp only
        rw [if_neg ne1]
        rfl
      rcases some_both (fun i cs σ q1 q2 q3 => atom_both (b := b) (n := n) (T := T) 8 9 0 (by omega) (by omega) (by omega) i cs σ q1 q2 q3) k2 (show 1 ≤ i + 1 + 1 by omega) (by omega) with ⟨σ3, i2, n2, x2, p1, p2, p3, p4, p5, p6, p7, p8⟩ | ⟨σ3, w, p1, p2, p3, p4, p5⟩
      · have g2 : goodC n2 := Or.inr fun v hv => ⟨x2 v, p7 v [] hv (by show 0 + (15 - 2 * 0 + 2) ≤ 64; omega)⟩
        obtain ⟨a1, a2, a3⟩ := addLine_ok (σ0 := σ) p2 (p3.lns (k3.lns l2)) hL g2 (f (nI v))
        rw [p1, ob_s]
        dsimp only
        rw [if_neg ne1, bind_T]
        refine Or.inl ⟨_, i2, f (nI v), n2, rfl, a1, a2, ((e3.trans k3).trans p3).l.trans a3, by omega, by omega, fun s hs => ?_⟩
        obtain ⟨s0, t1, t2, t3⟩ := rB s hs
        obtain ⟨s1, t4, t5, t6⟩ := p8 s0 t2
        have em : mtC (vS s) n2 = decide (x2 (vS s) ≠ 0) := by
          unfold mtC
          rw [p7 (vS s) [] (vS_g s) (by show 0 + (15 - 2 * 0 + 2) ≤ 64; omega)]
        rw [t3.vs] at t4
        have e16 : s1 333 16 = s 333 16 := (t3.trans t6) 333 16 (by omega)
        dsimp only
        rw [t1, t4, ob_s, em]
        dsimp only
        by_cases cx : x2 (vS s) = 0
        · rw [if_pos cx, if_pos t5.m1, decide_eq_false (fun q => q cx), if_neg (by decide)]
          exact ⟨s1, rfl, t5, (t3.trans t6).l, e16⟩
        · rw [if_neg cx, if_pos t5.m1, decide_eq_true cx, if_pos rfl, e16]
          exact ⟨_, rfl, t5.r16 _, (t3.trans t6).l.trans (fun q j hq => up_d (by omega)), up_s⟩
      · rw [p1, ob_s]
        dsimp only
        rw [if_pos rfl]
        refine Or.inr ⟨σ3, w, rfl, p2, p3, ((e3.trans k3).trans p4).l, fun s hs => ?_⟩
        obtain ⟨s0, t1, t2, t3⟩ := rB s hs
        obtain ⟨s1, y, t4, t5, t6⟩ := p5 s0 t2
        refine ⟨s1, ?_, t5.mono (by omega), (t3.trans t6).l⟩
        dsimp only
        rw [t1, t4, ob_s]
        dsimp only
        rw [if_neg t5.ne, if_neg t5.ne]
        split <;> rfl
    · rw [if_neg c10, ob_s]
      dsimp only
      rw [if_pos rfl, bind_T]
      have e2' : CLw b n T (i + 1) (cs ++ []) σ1 := by rw [List.append_nil]; exact e2
      obtain ⟨a1, a2, a3⟩ := addLine_ok (σ0 := σ) e2' l2 hL (Or.inl rfl) (f (nI v))
      refine Or.inl ⟨_, i + 1, f (nI v), [], rfl, a1, a2, e3.l.trans a3, by omega, by show 0 + i ≤ i + 1; omega, fun s hs => ?_⟩
      have hx := hs.nxt h.1 hi
      have hh := hx.here e2.1
      have em : mtC (vS s) [] = true := rfl
      have fr2 : FR s (up s 333 11 (nI (posI b n (i + 1)))) := FR.up (by omega)
      refine ⟨up (up s 333 11 (nI (posI b n (i + 1)))) 333 16 (s 333 16 + f (nI v)), ?_, ?_, fr2.l.trans (fun q j hq => up_d (by omega)), ?_⟩
      · dsimp only
        rw [fg s hs, ob_s]
        dsimp only
        rw [if_pos hx.m1, (sn_says hx e2.1 (v := 10) (by decide)).2 c10, ob_s]
        dsimp only
        rw [if_pos rfl, if_pos hh.m1, up_up, up_d (by omega)]
      · rw [up_up] at hh
        exact hh.r16 _
      · rw [em, if_pos rfl, up_s]
  · -- no number of the sort
    have bad : σ 78 11 = -1 ∨ ∃ x, 30 + 1 ≤ x ∧ x ≤ 1000 ∧ σ 78 11 = nI x := by
      by_cases hi : i < T
      · have e11 := (h.1.2.2.2.1 hi).2.2
        have hp := p2'.mpr hi
        unfold numI at e11
        by_cases cd : dgt (b (posI b n i)) = true
        · rw [if_pos cd] at e11
          by_cases c3 : 3 < stF b n (posI b n i) - posI b n i
          · rw [if_pos c3] at e11
            exact Or.inr ⟨1000, by omega, by omega, e11⟩
          · rw [if_neg c3] at e11
            have hs := (stF_is (b := b) hp).1
            have es : stF b n (posI b n i) = dgE b n (posI b n i) := by
              have cl : ltr (b (posI b n i)) = false := by
                unfold dgt at cd
                have := of_decide_eq_true cd
                exact decide_eq_false (by omega)
              unfold stF dgE
              rw [cl, if_neg (by decide), if_pos cd, show n - posI b n i = (n - (posI b n i + 1)) + 1 by omega, rn_s, if_pos cd]
            have hv := vF_lt (b := b) (p := posI b n i) (k := stF b n (posI b n i) - posI b n i) (fun u hu => (rn_is (c := dgt) (b := b) (n - posI b n i) (posI b n i)).2.2.2 _ (by omega) (by rw [es] at hu; unfold dgE at hu; omega))
            have h3 : 10 ^ (stF b n (posI b n i) - posI b n i) ≤ 10 ^ 3 := Nat.pow_le_pow_right (by decide) (by omega)
            exact Or.inr ⟨_, Nat.not_lt.mp fun q => good ⟨_, q, hi, e11⟩, by omega, e11⟩
        · rw [if_neg cd] at e11
          exact Or.inl e11
      · exact Or.inl (h.1.2.2.2.2 (by have := h.1.1.2.2.2.2; omega)).2.2
    have tn : F_Text_takeNumber σ 78 30 = some (up σ 78 12 (nI (posI b n i)), -1) := c_notake h.1 (high := 30) (by omega) bad
    unfold TLc TLm
    rw [tn, ob_s]
    dsimp only
    rw [if_pos rfl]
    refine Or.inr ⟨_, posI b n i, rfl, p1', up_s, FC.ref.l, fun s hs => ?_⟩
    obtain ⟨a, hy⟩ := hs.sy h.1
    rcases sy_num hy (v2 := 30) (H := 31) H (by omega) with ⟨v', hv', hi', e', q⟩ | ⟨-, a', v, ha, q⟩
    · exact absurd ⟨v', hv', hi', e'⟩ good
    · have f2 : FR s (up (up s 333 11 (nI a')) 333 12 (nI (posI b n i))) := (FR.up (by omega)).trans (FR.up (by omega))
      have hF : FNt b n (posI b n i) 7 (up (up s 333 11 (nI a')) 333 12 (nI (posI b n i))) := hs.flt p1' (a := a') (by omega) f2 (by rw [up_d (by omega), up_s]) up_s
      refine ⟨_, ?_, hF, f2.l⟩
      dsimp only
      rw [q, ob_s]
      dsimp only
      rw [if_neg hF.ne]
/-- a line of the law on both sides -/
theorem lline_both {ls : List LN} {i : Nat} {cs : List Int32} {σ : Mem} (h : CLw b n T i cs σ) (hl : LNs ls cs σ) (hL : ls.length < 12) (h2 : cs.length ≤ i) : LRL b n T ls i cs σ (F_LTx_readsLine σ) F_M_lawLine i := by
  have ne1 : ¬ (1 : Int32) = 0 := by decide
  obtain ⟨p1', p2'⟩ := h.1.pos
  have go : ∀ (A : Option (Mem × Int32)) (f : Int32 → Int32) (σ1 : Mem), CLw b n T (i + 1) cs σ1 → FC σ σ1 → A = TLc f σ1 → (∀ s, SN b n T i 0 s → ∃ s0, F_M_lawLine s = TLm f s0 ∧ SN b n T (i + 1) 0 s0 ∧ FR s s0) → LRL b n T ls i cs σ A F_M_lawLine i := fun A f σ1 q1 q2 q3 q4 => by
    rw [q3]
    rcases tail_both f q1 (q2.lns hl) hL (by omega) with ⟨σ2, i1, a, c, r1, r2, r3, r4, r5, r6, r7⟩ | ⟨σ2, w, r1, r2, r3, r4, r5⟩
    · refine Or.inl ⟨σ2, i1, a, c, r1, r2, r3, q2.l.trans r4, by omega, by omega, fun s hs => ?_⟩
      obtain ⟨s0, t1, t2, t3⟩ := q4 s hs
      obtain ⟨s1, t4, t5, t6, t7⟩ := r7 s0 t2
      rw [t3.vs, t3 333 16 (by omega)] at t7
      exact ⟨s1, t1.trans t4, t5, t3.l.trans t6, t7⟩
    · refine Or.inr ⟨σ2, w, r1, r2, r3, q2.l.trans r4, fun s hs => ?_⟩
      obtain ⟨s0, t1, t2, t3⟩ := q4 s hs
      obtain ⟨s1, t4, t5, t6⟩ := r5 s0 t2
      exact ⟨s1, t1.trans t4, t5, t3.l.trans t6⟩
  by_cases c8 : σ 78 8 = nI 8
  · have hi : i < T := h.1.lt (v := 8) (by decide) c8
    obtain ⟨σ1, e1, e2, e3⟩ := h.next hi
    refine go _ (fun x => x) σ1 e2 e3 ?_ (fun s hs => ⟨_, ?_, hs.nxt h.1 hi, FR.up (by omega)⟩)
    · unfold F_LTx_readsLine
      rw [h.in31, chk_t, if_pos (show σ 78 8 = 8 from c8), e1, ob_s]
      rfl
    · unfold F_M_lawLine
      rw [(sn_says hs h.1 (v := 8) (by decide)).1 c8, ob_s]
      dsimp only
      rw [if_neg ne1]
      rfl
  by_cases c9 : σ 78 8 = nI 9
  · have hi : i < T := h.1.lt (v := 9) (by decide) c9
    obtain ⟨σ1, e1, e2, e3⟩ := h.next hi
    refine go _ (fun x => -x) σ1 e2 e3 ?_ (fun s hs => ⟨_, ?_, hs.nxt h.1 hi, FR.up (by omega)⟩)
    · unfold F_LTx_readsLine
      rw [h.in31, chk_t, if_neg (show ¬ σ 78 8 = 8 from c8), if_pos (show σ 78 8 = 9 from c9), e1, ob_s]
      rfl
    · unfold F_M_lawLine
      rw [(sn_says hs h.1 (v := 8) (by decide)).2 c8, ob_s]
      dsimp only
      rw [if_pos rfl, (sn_says (hs.here h.1) h.1 (v := 9) (by decide)).1 c9, ob_s, up_up]
      dsimp only
      rw [if_neg ne1]
      rfl
  · have eA : F_LTx_readsLine σ = some (up σ 78 12 (nI (posI b n i)), 0) := by
      unfold F_LTx_readsLine
      rw [h.in31, chk_t, if_neg (show ¬ σ 78 8 = 8 from c8), if_neg (show ¬ σ 78 8 = 9 from c9), c_ref h.1, bind_T]
      dsimp only
      rw [zer1]
    rw [eA]
    refine Or.inr ⟨_, posI b n i, rfl, p1', up_s, FC.ref.l, fun s hs => ?_⟩
    have f2 : FR s (up (up s 333 11 (nI (posI b n i))) 333 12 (nI (posI b n i))) := (FR.up (by omega)).trans (FR.up (by omega))
    refine ⟨_, ?_, hs.flt p1' (a := posI b n i) (by omega) f2 (by rw [up_d (by omega), up_s]) up_s, f2.l⟩
    unfold F_M_lawLine
    rw [(sn_says hs h.1 (v := 8) (by decide)).2 c8, ob_s]
    dsimp only
    rw [if_pos rfl, (sn_says (hs.here h.1) h.1 (v := 9) (by decide)).2 c9, ob_s, up_up]
    dsimp only
    rw [if_pos rfl, up_s, m_wr (hs.here h.1), bind_T]
end LLN

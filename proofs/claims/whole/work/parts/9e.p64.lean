-- PURE STAGE: the law's text: all of, either of
def cBody (kd code : Int32) (IC : Mem → Option (Mem × Int32)) (σ : Mem) : Option ((Mem) ⊕ ((Mem) ⊕ (Mem × Int32))) := obind (F_Text_takes σ 78 kd) fun z4 => (if z4.2 = 0 then some (.inr (.inl z4.1)) else obind (IC z4.1) fun z6 => (if z6.2 = 0 then some (.inr (.inr ((z6.1, 0)))) else bindT (F_Law_addCode z6.1 85 code) fun z8 => some (.inl z8)))
def rBody (kd : Nat) (IR : Mem → Option (Mem × Int32)) (cmb : Int32 → Int32 → Int32) (a : Int32) (s : Mem) : Option ((Int32 × Mem) ⊕ (Int32 × Mem)) := if s 333 12 = -1 then obind (F_M_says s kd) fun z3 => (if z3.2 = 0 then some (.inr (a, z3.1)) else obind (IR z3.1) fun z5 => some (.inl (cmb a z5.2, z5.1))) else some (.inr (a, s))
section LBN
variable {b : Nat → Nat} {n T d h kd : Nat} {code : Int32} {IC IR : Mem → Option (Mem × Int32)} {cmb : Int32 → Int32 → Int32}
theorem bin_tl (hkd : kd < 22) (hc1 : ¬ code < 1008) (hc2 : code ≠ 1013) (hI : ∀ i cs σ, CLw b n T i cs σ → 1 ≤ i → cs.length ≤ i → RES b n T h true i d cs σ (IC σ) IR) (hcm : ∀ a w, isb a → isb w → F_Law_joined z0 code a w = cmb a w ∧ isb (cmb a w)) : ∀ (D : Nat) (lo : Int32) (i : Nat) (cs : List Int32) (σ : Mem), 401 ≤ D + i → 1 ≤ i → cs.length ≤ i → CLw b n T i cs σ →
    (∃ (σ1 : Mem) (i1 : Nat) (new : List Int32) (y : Int32 → (Int32 → Int32) → Int32), omap mrg2 (forGO (fun _ s => cBody (nI kd) code IC s) D lo σ) = some (.inl σ1) ∧ CLw b n T i1 (cs ++ new) σ1 ∧ FC σ σ1 ∧ i ≤ i1 ∧ new.length + i ≤ i1 ∧ (∀ v a, VG v → isb a → isb (y a v)) ∧ (∀ v a S, VG v → isb a → S.length + (h + 1) ≤ 64 → rnC v new (a :: S) = some (y a v :: S)) ∧ ∀ s, SN b n T i d s → ∀ a f, isb a → D + 2 < f → ∃ s1, whl (fun s => rBody kd IR cmb s.1 s.2) f (a, s) = some (y a (vS s), s1) ∧ SN b n T i1 d s1 ∧ FR s s1) ∨
    (∃ (σ1 : Mem) (w : Nat), omap mrg2 (forGO (fun _ s => cBody (nI kd) code IC s) D lo σ) = some (.inr (σ1, 0)) ∧ w ≤ n ∧ σ1 78 12 = nI w ∧ FC σ σ1 ∧ ∀ s, SN b n T i d s → ∀ a f, isb a → D + 2 < f → ∃ s1 y, whl (fun s => rBody kd IR cmb s.1 s.2) f (a, s) = some (y, s1) ∧ FNt b n w (7 - d) s1 ∧ FR s s1) := by
  intro D
  induction D with
  | zero =>
    intro lo i cs σ h1 h2 h3 h4
    have hT := h4.1.1.2.2.2.1
    have hi := h4.1.1.2.2.2.2
    omega
  | succ D ih =>
    intro lo i cs σ h1 h2 h3 h4
    have hT := h4.1.1.2.2.2.1
    have hiT := h4.1.1.2.2.2.2
    show (∃ (σ1 : Mem) (i1 : Nat) (new : List Int32) (y : Int32 → (Int32 → Int32) → Int32), omap mrg2 (obind (cBody (nI kd) code IC σ) fun z => contO z fun s' => forGO (fun _ s => cBody (nI kd) code IC s) D (lo + 1) s') = _ ∧ _) ∨ (∃ (σ1 : Mem) (w : Nat), omap mrg2 (obind (cBody (nI kd) code IC σ) fun z => contO z fun s' => forGO (fun _ s => cBody (nI kd) code IC s) D (lo + 1) s') = _ ∧ _)
    have ne1 : ¬ (1 : Int32) = 0 := by decide
    have tk : F_Text_takes σ 78 (nI kd) = if σ 78 8 = nI kd then obind (F_Text_advance σ 78) fun z4 => some (z4, 1) else some (σ, 0) := by
      unfold F_Text_takes
      rw [h4.in31, chk_t, p_inb (by omega) (by decide), chk_t]
    by_cases c : σ 78 8 = nI kd
    · have hi : i < T := h4.1.lt (v := kd) (by omega) c
      obtain ⟨σ1, e1, e2, e3⟩ := h4.next hi
      have eC : cBody (nI kd) code IC σ = obind (IC σ1) fun z6 => (if z6.2 = 0 then some (.inr (.inr ((z6.1, 0)))) else bindT (F_Law_addCode z6.1 85 code) fun z8 => some (.inl z8)) := by
        unfold cBody
        rw [tk, if_pos c, e1, ob_s, ob_s]
        dsimp only
        rw [if_neg ne1]
      rw [eC]
      have st1 : ∀ s, SN b n T i d s → ∀ a, ∃ s0, SN b n T (i + 1) d s0 ∧ FR s s0 ∧ rBody kd IR cmb a s = obind (IR s0) fun z5 => some (.inl (cmb a z5.2, z5.1)) := fun s hs a => by
        refine ⟨_, hs.nxt h4.1 hi, FR.up (by omega), ?_⟩
        unfold rBody
        rw [if_pos hs.m1, (sn_says hs h4.1 hkd).1 c, ob_s]
        dsimp only
        rw [if_neg ne1]
      rcases hI (i + 1) cs σ1 e2 (by omega) (by omega) with ⟨σ2, i2, n2, x2, p1, p2, p3, p4, p5, p6, p7, p8⟩ | ⟨σ2, w, p1, p2, p3, p4, p5⟩
      · have l2 : (cs ++ n2).length = cs.length + n2.length := List.length_append
        have hT2 := p2.1.1.2.2.2.2
        obtain ⟨a1, a2⟩ := p2.add (by omega) code
        rw [p1, ob_s]
        dsimp only
        rw [if_neg ne1, bind_T, ob_s]
        show (∃ (σ1 : Mem) (i1 : Nat) (new : List Int32) (y : Int32 → (Int32 → Int32) → Int32), omap mrg2 (forGO (fun _ s => cBody (nI kd) code IC s) D (lo + 1) (F_Law_addCode σ2 85 code)) = _ ∧ _) ∨ (∃ (σ1 : Mem) (w : Nat), omap mrg2 (forGO (fun _ s => cBody (nI kd) code IC s) D (lo + 1) (F_Law_addCode σ2 85 code)) = _ ∧ _)
        have l3 : (cs ++ n2 ++ [code]).length = cs.length + n2.length + 1 := by rw [List.length_append, l2]; rfl
        have fc := ((e3.trans p3).trans a2)
        rcases ih (lo + 1) i2 (cs ++ n2 ++ [code]) _ (by omega) (by omega) (by omega) a1 with ⟨σ4, i1, new, y, q1, q2, q3, q4, q5, q6, q7, q8⟩ | ⟨σ4, w, q1, q2, q3, q4, q5⟩
        · refine Or.inl ⟨σ4, i1, n2 ++ ([code] ++ new), fun a v => y (cmb a (x2 v)) v, q1, ?_, fc.trans q3, by omega, ?_, fun v a hv ha => q6 v _ hv (hcm a (x2 v) ha (p6 rfl v hv)).2, fun v a S hv ha hS => ?_, fun s hs a f ha hf => ?_⟩
          · rw [← List.append_assoc, ← List.append_assoc]
            exact q2
          · rw [List.length_append, List.length_append]
            show n2.length + (1 + new.length) + i ≤ i1
            omega
          · have hw := hcm a (x2 v) ha (p6 rfl v hv)
            refine rnC_to (p7 v (a :: S) hv (by show S.length + 1 + h ≤ 64; omega)) (rnC_to (rnC_join hc1 hc2) ?_)
            rw [hw.1]
            exact q7 v _ S hv hw.2 hS
          · obtain ⟨f, rfl⟩ : ∃ k, f = k + 1 := ⟨f - 1, by omega⟩
            obtain ⟨s0, t1, t2, t3⟩ := st1 s hs a
            obtain ⟨s1, t4, t5, t6⟩ := p8 s0 t1
            rw [t2.vs] at t4
            obtain ⟨s2, t7, t8, t9⟩ := q8 s1 t5 (cmb a (x2 (vS s))) f (hcm a _ ha (p6 rfl _ (vS_g s))).2 (by omega)
            rw [t6.vs, t2.vs] at t7
            refine ⟨s2, Eq.trans (whl_l (F := fun s => rBody kd IR cmb s.1 s.2) (s := (a, s)) (s1 := (cmb a (x2 (vS s)), s1)) ?_) t7, t8, (t2.trans t6).trans t9⟩
            show rBody kd IR cmb a s = _
            rw [t3, t4, ob_s]
        · refine Or.inr ⟨σ4, w, q1, q2, q3, fc.trans q4, fun s hs a f ha hf => ?_⟩
          obtain ⟨f, rfl⟩ : ∃ k, f = k + 1 := ⟨f - 1, by omega⟩
          obtain ⟨s0, t1, t2, t3⟩ := st1 s hs a
          obtain ⟨s1, t4, t5, t6⟩ := p8 s0 t1
          rw [t2.vs] at t4
          obtain ⟨s2, y, t7, t8, t9⟩ := q5 s1 t5 (cmb a (x2 (vS s))) f (hcm a _ ha (p6 rfl _ (vS_g s))).2 (by omega)
          refine ⟨s2, y, Eq.trans (whl_l (F := fun s => rBody kd IR cmb s.1 s.2) (s := (a, s)) (s1 := (cmb a (x2 (vS s)), s1)) ?_) t7, t8, (t2.trans t6).trans t9⟩
          show rBody kd IR cmb a s = _
          rw [t3, t4, ob_s]
      · rw [p1, ob_s]
        dsimp only
        rw [if_pos rfl, ob_s]
        refine Or.inr ⟨σ2, w, rfl, p2, p3, e3.trans p4, fun s hs a f ha hf => ?_⟩
        obtain ⟨f, rfl⟩ : ∃ k, f = k + 2 := ⟨f - 2, by omega⟩
        obtain ⟨s0, t1, t2, t3⟩ := st1 s hs a
        obtain ⟨s1, y, t4, t5, t6⟩ := p5 s0 t1
        refine ⟨s1, cmb a y, Eq.trans (whl_l (F := fun s => rBody kd IR cmb s.1 s.2) (s := (a, s)) (s1 := (cmb a y, s1)) ?_) (whl_r (F := fun s => rBody kd IR cmb s.1 s.2) (s := (cmb a y, s1)) ?_), t5, t2.trans t6⟩
        · show rBody kd IR cmb a s = _
          rw [t3, t4, ob_s]
        · show rBody kd IR cmb (cmb a y) s1 = _
          unfold rBody
          rw [if_neg t5.ne]
    · have eC : cBody (nI kd) code IC σ = some (.inr (.inl σ)) := by
        unfold cBody
        rw [tk, if_neg c, ob_s]
        dsimp only
        rw [if_pos rfl]
      rw [eC, ob_s]
      refine Or.inl ⟨σ, i, [], fun a _ => a, rfl, by rw [List.append_nil]; exact h4, FC.rfl', Nat.le_refl _, by show 0 + i ≤ i; omega, fun v a _ ha => ha, fun v a S _ _ hS => rfl, fun s hs a f ha hf => ?_⟩
      obtain ⟨f, rfl⟩ : ∃ k, f = k + 1 := ⟨f - 1, by omega⟩
      refine ⟨_, whl_r (F := fun s => rBody kd IR cmb s.1 s.2) (s := (a, s)) (x := (a, up s 333 11 (nI (posI b n i)))) ?_, hs.here h4.1, FR.up (by omega)⟩
      show rBody kd IR cmb a s = _
      unfold rBody
      rw [if_pos hs.m1, (sn_says hs h4.1 hkd).2 c, ob_s]
      dsimp only
      rw [if_pos rfl]
theorem isb_and {x : Int32} (h : isb x) : x &&& 1 = x := by
  rcases h with rfl | rfl
  · decide
  · decide
theorem bin_both {i : Nat} {cs : List Int32} {σ : Mem} (hkd : kd < 22) (hc1 : ¬ code < 1008) (hc2 : code ≠ 1013) (hI : ∀ i cs σ, CLw b n T i cs σ → 1 ≤ i → cs.length ≤ i → RES b n T h true i d cs σ (IC σ) IR) (hcm : ∀ a w, isb a → isb w → F_Law_joined z0 code a w = cmb a w ∧ isb (cmb a w)) (h4 : CLw b n T i cs σ) (h1 : 1 ≤ i) (h2 : cs.length ≤ i) :
    RES b n T (h + 1) true i d cs σ (obind (IC σ) fun z1 => (if z1.2 = 0 then some ((z1.1, 0)) else obind (omap mrg2 (forGO (fun _ s => cBody (nI kd) code IC s) 400 0 z1.1)) fun z10 => sumE z10 (fun s11 => some ((s11, 1))) (fun r12 => some r12))) (fun s => obind (IR s) fun z1 => obind (whl (fun s => rBody kd IR cmb s.1 s.2) FUEL (z1.2, z1.1)) fun z8 => some ((z8.2, (z8.1 &&& 1)))) := by
  have ne1 : ¬ (1 : Int32) = 0 := by decide
  rcases hI i cs σ h4 h1 h2 with ⟨σ2, i2, n2, x2, p1, p2, p3, p4, p5, p6, p7, p8⟩ | ⟨σ2, w, p1, p2, p3, p4, p5⟩
  · have l2 : (cs ++ n2).length = cs.length + n2.length := List.length_append
    rw [p1, ob_s]
    dsimp only
    rw [if_neg ne1]
    rcases bin_tl hkd hc1 hc2 hI hcm 400 0 i2 (cs ++ n2) σ2 (by omega) (by omega) (by omega) p2 with ⟨σ4, i1, new, y, q1, q2, q3, q4, q5, q6, q7, q8⟩ | ⟨σ4, w, q1, q2, q3, q4, q5⟩
    · refine Or.inl ⟨σ4, i1, n2 ++ new, fun v => y (x2 v) v, by rw [q1, ob_s, sumE_l], by rw [← List.append_assoc]; exact q2, p3.trans q3, by omega, ?_, fun _ v hv => q6 v _ hv (p6 rfl v hv), fun v S hv hS => ?_, fun s hs => ?_⟩
      · rw [List.length_append]
        omega
      · exact rnC_to (p7 v S hv (by omega)) (q7 v _ S hv (p6 rfl v hv) hS)
      · obtain ⟨s1, t4, t5, t6⟩ := p8 s hs
        obtain ⟨s2, t7, t8, t9⟩ := q8 s1 t5 (x2 (vS s)) FUEL (p6 rfl _ (vS_g s)) (by unfold FUEL; omega)
        rw [t6.vs] at t7
        refine ⟨s2, ?_, t8, t6.trans t9⟩
        dsimp only
        rw [t4, ob_s, t7, ob_s, isb_and (q6 _ _ (vS_g s) (p6 rfl _ (vS_g s)))]
    · refine Or.inr ⟨σ4, w, by rw [q1, ob_s, sumE_r], q2, q3, p3.trans q4, fun s hs => ?_⟩
      obtain ⟨s1, t4, t5, t6⟩ := p8 s hs
      obtain ⟨s2, y, t7, t8, t9⟩ := q5 s1 t5 (x2 (vS s)) FUEL (p6 rfl _ (vS_g s)) (by unfold FUEL; omega)
      refine ⟨s2, y &&& 1, ?_, t8, t6.trans t9⟩
      dsimp only
      rw [t4, ob_s, t7, ob_s]
  · rw [p1, ob_s]
    dsimp only
    rw [if_pos rfl]
    refine Or.inr ⟨σ2, w, rfl, p2, p3, p4, fun s hs => ?_⟩
    obtain ⟨s1, y, t4, t5, t6⟩ := p5 s hs
    refine ⟨s1, y &&& 1, ?_, t5, t6⟩
    dsimp only
    rw [t4, ob_s]
    dsimp only
    rw [show FUEL = 19999 + 1 from rfl, whl_r (F := fun s => rBody kd IR cmb s.1 s.2) (s := (y, s1)) (x := (y, s1)) (by
      show rBody kd IR cmb y s1 = _
      unfold rBody
      rw [if_neg t5.ne]), ob_s]
end LBN
def cmA (a w : Int32) : Int32 := if a = 0 then 0 else if w = 0 then 0 else 1
def cmO (a w : Int32) : Int32 := if a = 0 then (if w = 0 then 0 else 1) else 1
theorem every_b (rc : Mem → Option (Mem × Int32)) (v1 : Int32) (s : Mem) : F_M_every_5_b rc v1 s = rBody 12 rc cmA v1 s := by
  unfold F_M_every_5_b rBody cmA
  by_cases c : s 333 12 = -1
  · rw [if_pos c, if_pos c]
    congr 1
    funext z3
    split
    · rfl
    · congr 1
      funext z5
      split
      · rfl
      · split <;> rfl
  · rw [if_neg c, if_neg c]
theorem some_b (rc : Mem → Option (Mem × Int32)) (v1 : Int32) (s : Mem) : F_M_some_5_b rc v1 s = rBody 11 (F_M_every_g rc) cmO v1 s := by
  unfold F_M_some_5_b rBody cmO
  by_cases c : s 333 12 = -1
  · rw [if_pos c, if_pos c]
    congr 1
    funext z3
    split
    · rfl
    · congr 1
      funext z5
      split
      · split <;> rfl
      · rfl
  · rw [if_neg c, if_neg c]
section LES
variable {b : Nat → Nat} {n T d h : Nat} {rc : Mem → Int32 → Option (Mem × Int32)} {rc' : Mem → Option (Mem × Int32)}
theorem every_both (hI : ∀ i cs σ, CLw b n T i cs σ → 1 ≤ i → cs.length ≤ i → RES b n T h true i d cs σ (rc σ (nI d)) rc') {i : Nat} {cs : List Int32} {σ : Mem} (h4 : CLw b n T i cs σ) (h1 : 1 ≤ i) (h2 : cs.length ≤ i) : RES b n T (h + 1) true i d cs σ (F_LTx_readsAll_g rc σ (nI d)) (F_M_every_g rc') := by
  have e := bin_both (kd := 12) (code := 1011) (cmb := cmA) (IC := fun z => rc z (nI d)) (IR := rc') (by decide) (by decide) (by decide) hI (fun a w ha hw => by
    rcases ha with rfl | rfl <;> rcases hw with rfl | rfl
    · exact ⟨by decide, Or.inl (by decide)⟩
    · exact ⟨by decide, Or.inl (by decide)⟩
    · exact ⟨by decide, Or.inl (by decide)⟩
    · exact ⟨by decide, Or.inr (by decide)⟩) h4 h1 h2
  have eB : F_M_every_g rc' = fun s => obind (rc' s) fun z1 => obind (whl (fun s => rBody 12 rc' cmA s.1 s.2) FUEL (z1.2, z1.1)) fun z8 => some ((z8.2, (z8.1 &&& 1))) := by
    funext s
    unfold F_M_every_g
    have : (fun (s : Int32 × Mem) => F_M_every_5_b rc' s.1 s.2) = fun s => rBody 12 rc' cmA s.1 s.2 := funext fun s => every_b rc' s.1 s.2
    rw [this]
  rw [eB]
  have eA : F_LTx_readsAll_g rc σ (nI d) = obind (rc σ (nI d)) fun z1 => (if z1.2 = 0 then some ((z1.1, 0)) else obind (omap mrg2 (forGO (fun _ s => cBody (nI 12) 1011 (fun z => rc z (nI d)) s) 400 0 z1.1)) fun z10 => sumE z10 (fun s11 => some ((s11, 1))) (fun r12 => some r12)) := by
    unfold F_LTx_readsAll_g
    rw [show cnt 0 400 = 400 by decide]
    rfl
  rw [eA]
  exact e
theorem some_both (hI : ∀ i cs σ, CLw b n T i cs σ → 1 ≤ i → cs.length ≤ i → RES b n T h true i d cs σ (rc σ (nI d)) rc') {i : Nat} {cs : List Int32} {σ : Mem} (h4 : CLw b n T i cs σ) (h1 : 1 ≤ i) (h2 : cs.length ≤ i) : RES b n T (h + 2) true i d cs σ (F_LTx_readsEither_g rc σ (nI d)) (F_M_some_g rc') := by
  have e := bin_both (kd := 11) (code := 1012) (cmb := cmO) (IC := fun z => F_LTx_readsAll_g rc z (nI d)) (IR := F_M_every_g rc') (by decide) (by decide) (by decide) (fun i cs σ q1 q2 q3 => every_both hI q1 q2 q3) (fun a w ha hw => by
    rcases ha with rfl | rfl <;> rcases hw with rfl | rfl
    · exact ⟨by decide, Or.inl (by decide)⟩
    · exact ⟨by decide, Or.inr (by decide)⟩
    · exact ⟨by decide, Or.inr (by decide)⟩
    · exact ⟨by decide, Or.inr (by decide)⟩) h4 h1 h2
  have eB : F_M_some_g rc' = fun s => obind (F_M_every_g rc' s) fun z1 => obind (whl (fun s => rBody 11 (F_M_every_g rc') cmO s.1 s.2) FUEL (z1.2, z1.1)) fun z8 => some ((z8.2, (z8.1 &&& 1))) := by
    funext s
    unfold F_M_some_g
    have : (fun (s : Int32 × Mem) => F_M_some_5_b rc' s.1 s.2) = fun s => rBody 11 (F_M_every_g rc') cmO s.1 s.2 := funext fun s => some_b rc' s.1 s.2
    rw [this]
  rw [eB]
  have eA : F_LTx_readsEither_g rc σ (nI d) = obind (F_LTx_readsAll_g rc σ (nI d)) fun z1 => (if z1.2 = 0 then some ((z1.1, 0)) else obind (omap mrg2 (forGO (fun _ s => cBody (nI 11) 1012 (fun z => F_LTx_readsAll_g rc z (nI d)) s) 400 0 z1.1)) fun z10 => sumE z10 (fun s11 => some ((s11, 1))) (fun r12 => some r12)) := by
    unfold F_LTx_readsEither_g
    rw [show cnt 0 400 = 400 by decide]
    rfl
  rw [eA]
  exact e
end LES

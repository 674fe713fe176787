-- PURE STAGE: steady ways, the recursion
def fw (q : Nat → Int32) : Nat → Nat → Nat
  | 0, lo => lo
  | d + 1, lo => if q lo = -1 then lo else fw q d (lo + 1)
theorem fw_s {q : Nat → Int32} {d lo : Nat} : fw q (d + 1) lo = if q lo = -1 then lo else fw q d (lo + 1) := rfl
theorem fw_is {q : Nat → Int32} : ∀ (d lo : Nat), lo ≤ fw q d lo ∧ fw q d lo ≤ lo + d ∧ (fw q d lo < lo + d → q (fw q d lo) = -1) ∧ ∀ p, lo ≤ p → p < fw q d lo → q p ≠ -1 := by
  intro d
  induction d with
  | zero => intro lo; exact ⟨Nat.le_refl _, Nat.le_refl _, fun h => absurd h (Nat.lt_irrefl _), fun p h1 h2 => absurd h2 (by show ¬ p < lo; omega)⟩
  | succ d ih =>
    intro lo
    rw [fw_s]
    by_cases c : q lo = -1
    · rw [if_pos c]; exact ⟨Nat.le_refl _, by omega, fun _ => c, fun p h1 h2 => by omega⟩
    · rw [if_neg c]
      obtain ⟨h1, h2, h3, h4⟩ := ih (lo + 1)
      refine ⟨by omega, by omega, fun h => h3 (by omega), fun p h5 h6 => ?_⟩
      by_cases e : p = lo
      · subst e; exact c
      · exact h4 p (by omega) h6
section PRR
variable {σ σ' : Mem} {g : Nat → Int32} {P M C i : Nat}
theorem c_fw {v1 : Int32} : ∀ (d lo : Nat), lo + d ≤ 8 → sumE (forG (fun i (_ : Unit) => F_Prs_firstWithout_2_b σ v1 i) d (nI lo) ()) (fun _ => (-1 : Int32)) (fun r => r) = if fw (σ 119) d lo = lo + d then -1 else nI (fw (σ 119) d lo) := by
  intro d
  induction d with
  | zero => intro lo _; exact (if_pos rfl).symm
  | succ d ih =>
    intro lo hlo
    show sumE (contG (F_Prs_firstWithout_2_b σ v1 (nI lo)) fun _ => forG _ d (nI lo + 1) ()) _ _ = _
    rw [fw_s]
    have e : F_Prs_firstWithout_2_b σ v1 (nI lo) = if σ 119 lo = -1 then .inr (nI lo) else .inl () := by
      unfold F_Prs_firstWithout_2_b
      rw [p_at (by omega) (by decide)]
    rw [e]
    by_cases c : σ 119 lo = -1
    · rw [if_pos c, if_pos c, if_neg (by omega)]; rfl
    · rw [if_neg c, if_neg c, nI_1]
      show sumE (forG _ d (nI (lo + 1)) ()) _ _ = _
      rw [ih (lo + 1) (by omega), show lo + 1 + d = lo + (d + 1) by omega]
theorem c_first (hP : P ≤ 8) (t8 : σ 3 8 = nI P) : F_Prs_firstWithout σ (σ 3 8) = if fw (σ 119) P 0 = P then -1 else nI (fw (σ 119) P 0) := by
  unfold F_Prs_firstWithout
  rw [t8, p_cnt0 (by omega), bind_T]
  have e := c_fw (σ := σ) (v1 := nI P) P 0 (by omega)
  rw [nI_0, Nat.zero_add] at e
  exact e
theorem m_first (hP : P ≤ 8) (h3 : σ' 334 3 = nI P) {q : Nat → Int32} (hq : ∀ p, p < P → σ' 342 p = q p) (rc : Mem → Int32 → Option Mem) (v1 : Int32) : whl (fun s => F_M_pairsUp_2_b rc σ' v1 s) FUEL 0 = some (nI (fw q P 0)) := by
  obtain ⟨h1, h2, h4, h5⟩ := fw_is (q := q) P 0
  have e := whl_n (F := fun s => F_M_pairsUp_2_b rc σ' v1 s) (fun k => nI k) (fw q P 0) (nI (fw q P 0)) (by unfold FUEL; omega) (fun k hk => by
    unfold F_M_pairsUp_2_b
    rw [h3, if_pos (nI_lt (by omega) (by omega)), p_inb (by omega) (by decide), chk_t, p_cl (by omega), hq k (by omega), if_neg (h5 k (by omega) hk), bind_T, nI_1]) (by
    unfold F_M_pairsUp_2_b
    by_cases c : fw q P 0 < P
    · rw [h3, if_pos (nI_lt c (by omega)), p_inb (by omega) (by decide), chk_t, p_cl (by omega), hq _ c, if_pos (h4 (by omega))]
    · rw [h3, if_neg (nI_nlt (by omega) (by omega))])
  exact e
def WRL (P : Nat) (σ s : Mem) : Prop := σ 117 2 = s 333 21 ∧ (σ 117 2 ≠ 0 → ∀ p, p < P → s 343 p = σ 121 p)
def PVL (P : Nat) (σ : Mem) : Prop := ∀ p, p < P → σ 119 p = -1 ∨ ∃ r, r < P ∧ σ 119 p = nI r
def FRC (σ0 σ : Mem) : Prop := ∀ q j, q ≠ 119 → q ≠ 121 → (q ≠ 117 ∨ j ≠ 2) → σ q j = σ0 q j
def FRM (s0 s : Mem) : Prop := ∀ q j, q ≠ 342 → q ≠ 343 → (q ≠ 333 ∨ j ≠ 21) → s q j = s0 q j
/-- what a call of the two recursions does -/
def RCL (P z : Nat) (g : Nat → Int32) (M C : Nat) (n : Nat) : Prop := ∀ (κ : Nat) (lv : Int32) (σ s : Mem), κ ≤ z → TR (tv σ 3) (s 334) g P M C → (∀ p, p < P → s 342 p = σ 119 p) → WRL P σ s → PVL P σ → (∀ p, p < z → σ 119 p ≠ -1) →
  ∃ σ1 s1, F_Prs_pairUp_d n σ 3 lv (nI κ) = some σ1 ∧ F_M_pairsUp_d n s lv = some s1 ∧ (∀ p, p < P → s1 342 p = σ1 119 p) ∧ WRL P σ1 s1 ∧ (∀ p, p < P → σ1 119 p = σ 119 p) ∧ FRC σ σ1 ∧ FRM s s1
theorem TR.fr2 {σ σ1 s s1 : Mem} (h : TR (tv σ 3) (s 334) g P M C) (h1 : FRC σ σ1) (h2 : FRM s s1) : TR (tv σ1 3) (s1 334) g P M C := h.keep4 (fun r hr j => h1 _ _ (by omega) (by omega) (by omega)) (fun j _ => h2 _ _ (by omega) (by omega) (by omega))
/-- two people tried -/
theorem try_both {z j κ n : Nat} {lv : Int32} {σ s : Mem} (hR : RCL P (z + 1) g M C n) (hκ : κ ≤ z) (hz : z < P) (hj : j < P) (h : TR (tv σ 3) (s 334) g P M C) (hq : ∀ p, p < P → p ≠ z → s 342 p = σ 119 p) (hW : WRL P σ s) (hV : PVL P σ) (hs : ∀ p, p < z → σ 119 p ≠ -1) (hzj : z ≤ j) (e1 : σ 119 z = -1) (e2 : σ 119 j = -1) :
    ∃ σ1 s1, F_Prs_tryPair_g (F_Prs_pairUp_d n) σ 3 (nI z) (nI j) lv (nI κ) = some σ1 ∧ F_M_pairsUp_d n (up (up s 342 z (nI j)) 342 j (nI z)) lv = some s1 ∧ (∀ p, p < P → p ≠ z → (up s1 342 j (-1)) 342 p = σ1 119 p) ∧ WRL P σ1 s1 ∧ (∀ p, p < P → σ1 119 p = σ 119 p) ∧ FRC σ σ1 ∧ FRM s s1 := by
  have hP := h.c1.1
  have hfc : FRC σ (up (up σ 119 z (nI j)) 119 j (nI z)) := fun q b h1 h2 h3 => by rw [up_d (by omega), up_d (by omega)]
  have hfm : FRM s (up (up s 342 z (nI j)) 342 j (nI z)) := fun q b h1 h2 h3 => by rw [up_d (by omega), up_d (by omega)]
  obtain ⟨σ2, s2, f1, f2, f3, f4, f5, f6, f7⟩ := hR (κ + 1) lv (up (up σ 119 z (nI j)) 119 j (nI z)) (up (up s 342 z (nI j)) 342 j (nI z)) (by omega) (h.fr2 hfc hfm) (fun p hp => by
    by_cases c1 : p = j
    · subst c1; rw [up_s, up_s]
    · by_cases c2 : p = z
      · subst c2; rw [up_d (by omega), up_s, up_d (by omega), up_s]
      · rw [up_d (by omega), up_d (by omega), up_d (by omega), up_d (by omega)]; exact hq p hp c2) ⟨by rw [up_d (by omega), up_d (by omega), up_d (by omega), up_d (by omega)]; exact hW.1, fun hne p hp => by
      rw [up_d (by omega), up_d (by omega)] at hne
      rw [up_d (by omega), up_d (by omega), up_d (by omega), up_d (by omega)]; exact hW.2 hne p hp⟩ (fun p hp => by
    by_cases c1 : p = j
    · subst c1; exact Or.inr ⟨z, hz, up_s⟩
    · by_cases c2 : p = z
      · subst c2; exact Or.inr ⟨j, hj, by rw [up_d (by omega), up_s]⟩
      · rw [up_d (by omega), up_d (by omega)]; exact hV p hp) (fun p hp => by
    by_cases c1 : p = j
    · subst c1; rw [up_s]; exact m1_ne z (by omega)
    · by_cases c2 : p = z
      · subst c2; rw [up_d (by omega), up_s]; exact m1_ne j (by omega)
      · rw [up_d (by omega), up_d (by omega)]; exact hs p (by omega))
  refine ⟨up (up σ2 119 z (-1)) 119 j (-1), s2, ?_, f2, fun p hp hpz => ?_, ⟨?_, fun hne p hp => ?_⟩, fun p hp => ?_, fun q b h1 h2 h3 => ?_, fun q b h1 h2 h3 => ?_⟩
  · unfold F_Prs_tryPair_g
    rw [p_put (by omega) (by decide), bind_T, p_put (by omega) (by decide), bind_T, nI_1]
    show obind (F_Prs_pairUp_d n (up (up σ 119 z (nI j)) 119 j (nI z)) 3 lv (nI (κ + 1))) _ = _
    rw [f1, ob_s, p_put (by omega) (by decide), bind_T, p_put (by omega) (by decide), bind_T]
  · by_cases c1 : p = j
    · subst c1; rw [up_s, up_s]
    · rw [up_d (by omega), up_d (by omega), up_d (by omega)]; exact f3 p hp
  · rw [up_d (by omega), up_d (by omega)]; exact f4.1
  · rw [up_d (by omega), up_d (by omega)] at hne
    rw [up_d (by omega), up_d (by omega)]; exact f4.2 hne p hp
  · by_cases c1 : p = j
    · subst c1; rw [up_s]; exact e2.symm
    · by_cases c2 : p = z
      · subst c2; rw [up_d (by omega), up_s]; exact e1.symm
      · rw [up_d (by omega), up_d (by omega), f5 p hp, up_d (by omega), up_d (by omega)]
  · rw [up_d (by omega), up_d (by omega), f6 q b h1 h2 h3]; exact hfc q b h1 h2 h3
  · rw [f7 q b h1 h2 h3]; exact hfm q b h1 h2 h3
theorem FRC.tr {a b c : Mem} (h1 : FRC a b) (h2 : FRC b c) : FRC a c := fun q j x y z => (h2 q j x y z).trans (h1 q j x y z)
theorem FRM.tr {a b c : Mem} (h1 : FRM a b) (h2 : FRM b c) : FRM a c := fun q j x y z => (h2 q j x y z).trans (h1 q j x y z)
/-- all others tried, one by one -/
theorem loop_both {z κ n : Nat} {lv : Int32} {σ0 s0 : Mem} (hR : RCL P (z + 1) g M C n) (hκ : κ ≤ z) (hz : z < P) (h0 : TR (tv σ0 3) (s0 334) g P M C) (hV : PVL P σ0) (hs : ∀ p, p < z → σ0 119 p ≠ -1) (e1 : σ0 119 z = -1) (hq0 : ∀ p, p < P → p ≠ z → s0 342 p = σ0 119 p) (hW0 : WRL P σ0 s0) :
    ∃ x x', whl (fun t => F_Prs_pairUp_50_b (F_Prs_pairUp_d n) 3 lv (nI κ) (nI z) t.1 t.2) FUEL (nI (z + 1), σ0) = some x ∧ whl (fun t => F_M_pairsUp_109_b (F_M_pairsUp_d n) lv (nI z) t.1 t.2) FUEL (nI (z + 1), s0) = some x' ∧ (∀ p, p < P → p ≠ z → x'.2 342 p = x.2 119 p) ∧ WRL P x.2 x'.2 ∧ (∀ p, p < P → x.2 119 p = σ0 119 p) ∧ FRC σ0 x.2 ∧ FRM s0 x'.2 := by
  have hP := h0.c1.1
  refine whl_pair (F := fun t => F_Prs_pairUp_50_b (F_Prs_pairUp_d n) 3 lv (nI κ) (nI z) t.1 t.2) (F' := fun t => F_M_pairsUp_109_b (F_M_pairsUp_d n) lv (nI z) t.1 t.2)
    (fun j t t' => z < j ∧ ∃ σ s, t = (nI j, σ) ∧ t' = (nI j, s) ∧ (∀ p, p < P → p ≠ z → s 342 p = σ 119 p) ∧ WRL P σ s ∧ (∀ p, p < P → σ 119 p = σ0 119 p) ∧ FRC σ0 σ ∧ FRM s0 s)
    (fun x x' => (∀ p, p < P → p ≠ z → x'.2 342 p = x.2 119 p) ∧ WRL P x.2 x'.2 ∧ (∀ p, p < P → x.2 119 p = σ0 119 p) ∧ FRC σ0 x.2 ∧ FRM s0 x'.2) P (fun j t t' hj hI => ?_) (P - (z + 1)) (z + 1) FUEL _ _ (by omega) (by unfold FUEL; omega) ⟨by omega, σ0, s0, rfl, rfl, hq0, hW0, fun _ _ => rfl, fun _ _ _ _ _ => rfl, fun _ _ _ _ _ => rfl⟩
  obtain ⟨hzj, σ, s, rfl, rfl, i1, i2, i3, i4, i5⟩ := hI
  have hT := h0.fr2 i4 i5
  have t8 : σ 3 8 = nI P := hT.c2.1
  have h3 : s 334 3 = nI P := hT.c3.1
  dsimp only
  unfold F_Prs_pairUp_50_b F_M_pairsUp_109_b
  by_cases c : j < P
  · refine Or.inr ⟨c, ?_⟩
    rw [t8, h3, if_pos (nI_lt c (by omega)), if_pos (nI_lt c (by omega)), p_inb (by omega) (by decide), chk_t, p_at (by omega) (by decide), p_cl (by omega), i1 j c (by omega)]
    show ∃ s1 s1', (if σ 119 j = -1 then _ else _) = _ ∧ _
    by_cases c2 : σ 119 j = -1
    · obtain ⟨σ1, s1, f1, f2, f3, f4, f5, f6, f7⟩ := try_both (j := j) (lv := lv) hR hκ hz c hT i1 i2 (fun p hp => by rw [i3 p hp]; exact hV p hp) (fun p hp => by rw [i3 p (by omega)]; exact hs p hp) (by omega) (by rw [i3 z hz]; exact e1) c2
      rw [if_pos c2, if_pos c2, f1, ob_s, p_inb (by omega) (by decide), chk_t, p_cl (by omega)]
      simp only [bind_T, chk_t]
      rw [f2, ob_s, nI_1]
      refine ⟨_, _, rfl, rfl, by omega, _, _, rfl, rfl, f3, ⟨?_, fun hne p hp => ?_⟩, fun p hp => (f5 p hp).trans (i3 p hp), i4.tr f6, fun q b h1 h2 h3 => ?_⟩
      · rw [up_d (by omega)]; exact f4.1
      · rw [up_d (by omega)]; exact f4.2 hne p hp
      · rw [up_d (by omega), f7 q b h1 h2 h3]; exact i5 q b h1 h2 h3
    · rw [if_neg c2, if_neg c2, bind_T, bind_T, nI_1]
      exact ⟨_, _, rfl, rfl, by omega, σ, s, rfl, rfl, i1, i2, i3, i4, i5⟩
  · refine Or.inl ?_
    rw [t8, h3, if_neg (nI_nlt (by omega) (by omega)), if_neg (nI_nlt (by omega) (by omega))]
    exact ⟨_, _, rfl, rfl, i1, i2, i3, i4, i5⟩
/-- all have a partner: counted on both sides -/
theorem count_both {σ s : Mem} {rc : Mem → Int32 → Option Mem} {v1 : Int32} (h : TR (tv σ 3) (s 334) g P M C) (hq : ∀ p, p < P → s 342 p = σ 119 p) (hW : WRL P σ s) (hV : ∀ p, p < P → ∃ r, r < P ∧ σ 119 p = nI r) :
    ∃ s1, (obind (F_M_isSteady s) fun z31 => (if z31 = 0 then some s else obind (omap mrg (forGO (fun i s => F_M_pairsUp_48_b rc v1 (nI P) i s) (cnt 0 (nI P)) 0 s)) fun z39 => bindT (up z39 333 21 (((z39 333 21) + 1))) fun σ40 => some σ40)) = some s1 ∧ (∀ p, p < P → s1 342 p = F_Prs_countIfSteady σ 3 119 p) ∧ WRL P (F_Prs_countIfSteady σ 3) s1 ∧ (∀ p, p < P → F_Prs_countIfSteady σ 3 119 p = σ 119 p) ∧ FRC σ (F_Prs_countIfSteady σ 3) ∧ FRM s s1 := by
  have hP := h.c1.1
  rw [c_steady hP h.c2.1 hV, m_steady h hq hV, ob_s]
  cases unA (tv σ 3) (σ 119) P with
  | true =>
    rw [if_pos rfl, if_pos rfl, if_pos rfl]
    exact ⟨s, rfl, hq, hW, fun _ _ => rfl, fun _ _ _ _ _ => rfl, fun _ _ _ _ _ => rfl⟩
  | false =>
    rw [if_neg (show ¬ (false = true) by decide), if_neg (show ¬ (false = true) by decide), if_neg (show ¬ (1 : Int32) = 0 by decide), p_cnt0 (by omega)]
    by_cases c : σ 117 2 = 0
    · have c' : s 333 21 = 0 := hW.1.symm.trans c
      -- the reference's copy
      have cp : ∀ d lo s, s 333 21 = 0 → lo + d = P → ∃ s1, omap mrg (forGO (fun i s => F_M_pairsUp_48_b rc v1 (nI P) i s) d (nI lo) s) = some s1 ∧ (∀ p, lo ≤ p → p < P → s1 343 p = s 342 p) ∧ ∀ q j, (q ≠ 343 ∨ j < lo) → s1 q j = s q j := by
        intro d
        induction d with
        | zero => intro lo s _ hlo; exact ⟨s, rfl, fun p h1 h2 => by omega, fun _ _ _ => rfl⟩
        | succ d ih =>
          intro lo s hz hlo
          have e : F_M_pairsUp_48_b rc v1 (nI P) (nI lo) s = some (.inl (up s 343 lo (s 342 lo))) := by
            unfold F_M_pairsUp_48_b
            rw [if_pos hz, p_inb (by omega) (by decide), chk_t, chk_t, bind_T, p_cl (by omega)]
          obtain ⟨s1, g1, g2, g3⟩ := ih (lo + 1) (up s 343 lo (s 342 lo)) (by rw [up_d (by omega)]; exact hz) (by omega)
          refine ⟨s1, ?_, fun p h1 h2 => ?_, fun q j hq => ?_⟩
          · show omap mrg (obind (F_M_pairsUp_48_b rc v1 (nI P) (nI lo) s) fun y => contO y fun s' => forGO _ d (nI lo + 1) s') = _
            rw [e, nI_1]
            exact g1
          · by_cases ep : p = lo
            · subst ep; rw [g3 343 p (by omega), up_s]
            · rw [g2 p (by omega) h2, up_d (by omega)]
          · rw [g3 q j (by omega), up_d (by omega)]
      obtain ⟨s1, g1, g2, g3⟩ := cp P 0 s c' (by omega)
      rw [nI_0] at g1
      have e8 : F_Row_copyAll σ 120 8 118 8 = cpM σ 119 121 8 := by
        unfold F_Row_copyAll
        rw [bind_T, show ((if (Int32.ofNat 8) < (Int32.ofNat 8) then (Int32.ofNat 8) else (Int32.ofNat 8)) : Int32).toNatClampNeg = 8 by decide]
      have cp1 : ∀ q j, q ≠ 121 → cpM σ 119 121 8 q j = σ q j := fun q j hq => by
        unfold cpM
        rw [if_neg (by omega)]
      have cp2 : ∀ j, j < 8 → cpM σ 119 121 8 121 j = σ 119 j := fun j hj => by
        unfold cpM
        rw [if_pos ⟨rfl, hj⟩]
      rw [if_pos c, g1, ob_s, bind_T, e8, cp1 117 2 (by omega), c, g3 333 21 (by omega), c']
      refine ⟨_, rfl, fun p hp => ?_, ⟨?_, fun _ p hp => ?_⟩, fun p hp => ?_, fun q j h1 h2 h3 => ?_, fun q j h1 h2 h3 => ?_⟩
      · rw [up_d (by omega), g3 342 p (by omega), up_d (by omega), cp1 119 p (by omega)]; exact hq p hp
      · rw [up_s, up_s]
      · rw [up_d (by omega), up_d (by omega), g2 p (by omega) hp, cp2 p (by omega)]; exact hq p hp
      · rw [up_d (by omega), cp1 119 p (by omega)]
      · rw [up_d (by omega), cp1 q j h2]
      · rw [up_d (by omega), g3 q j (by omega)]
    · have c' : ¬ s 333 21 = 0 := fun e => c (hW.1.trans e)
      have e : omap mrg (forGO (fun i s => F_M_pairsUp_48_b rc v1 (nI P) i s) P 0 s) = some s := by
        cases P with
        | zero => rfl
        | succ d =>
          have e2 : F_M_pairsUp_48_b rc v1 (nI (d + 1)) 0 s = some (.inr s) := by
            unfold F_M_pairsUp_48_b
            rw [if_neg c']
          show omap mrg (obind (F_M_pairsUp_48_b rc v1 (nI (d + 1)) 0 s) fun y => contO y _) = _
          rw [e2]
          rfl
      rw [if_neg c, e, ob_s, bind_T]
      refine ⟨_, rfl, fun p hp => ?_, ⟨?_, fun _ p hp => ?_⟩, fun p hp => ?_, fun q j h1 h2 h3 => ?_, fun q j h1 h2 h3 => ?_⟩
      · rw [up_d (by omega), up_d (by omega)]; exact hq p hp
      · rw [up_s, up_s, hW.1]
      · rw [up_d (by omega), up_d (by omega)]; exact hW.2 c p hp
      · rw [up_d (by omega)]
      · rw [up_d (by omega)]
      · rw [up_d (by omega)]
theorem pair_rec : ∀ (n k : Nat), P - k < n → k ≤ P → RCL P k g M C n := by
  intro n
  induction n with
  | zero => intro k h; omega
  | succ n ih =>
    intro k hk hkP κ lv σ s hκ h hq hW hV hs
    have hP := h.c1.1
    have t8 : σ 3 8 = nI P := h.c2.1
    have h3 : s 334 3 = nI P := h.c3.1
    obtain ⟨w1, w2, w3, w4⟩ := fw_is (q := σ 119) P 0
    show ∃ σ1 s1, F_Prs_pairUp_g (F_Prs_pairUp_d n) σ 3 lv (nI κ) = some σ1 ∧ F_M_pairsUp_g (F_M_pairsUp_d n) s lv = some s1 ∧ _
    unfold F_Prs_pairUp_g F_M_pairsUp_g
    rw [c_first hP t8, m_first hP h3 hq, ob_s, bind_T, h3]
    generalize fw (σ 119) P 0 = z at w1 w2 w3 w4
    by_cases c : z = P
    · subst c
      rw [if_pos rfl, if_pos rfl, if_pos rfl, bind_T]
      obtain ⟨s1, f1, f2⟩ := count_both (rc := F_M_pairsUp_d n) (v1 := lv) h hq hW (fun p hp => (hV p hp).resolve_left (w4 p (by omega) hp))
      exact ⟨_, s1, rfl, f1, f2⟩
    · have hz : z < P := by omega
      have ez : σ 119 z = -1 := w3 (by omega)
      have hkz : k ≤ z := Nat.not_lt.mp fun hc => hs z hc ez
      have hR : RCL P (z + 1) g M C n := ih (z + 1) (by omega) (by omega)
      rw [if_neg c, if_neg (m1_ne z (by omega)), if_neg (fun e => c (nI_inj (by omega) (by omega) e)), if_pos (show nI κ < 8 from nI_lt (b := 8) (by omega) (by omega))]
      by_cases cl : lv = 0
      · rw [if_pos cl, if_pos cl, bind_T, bind_T, nI_1]
        obtain ⟨x, x', f1, f2, f3, f4, f5, f6, f7⟩ := loop_both (κ := κ) (lv := lv) hR (by omega) hz h hV (fun p hp => w4 p (by omega) hp) ez (fun p hp _ => hq p hp) hW
        rw [f1, f2, ob_s, ob_s, p_inb (by omega) (by decide), chk_t, bind_T, p_cl (by omega)]
        refine ⟨_, _, rfl, rfl, fun p hp => ?_, ⟨?_, fun hne p hp => ?_⟩, f5, f6, fun q j h1 h2 h3 => ?_⟩
        · by_cases ep : p = z
          · subst ep; rw [up_s, f5 p hp, ez]
          · rw [up_d (by omega)]; exact f3 p hp ep
        · rw [up_d (by omega)]; exact f4.1
        · rw [up_d (by omega)]; exact f4.2 hne p hp
        · rw [up_d (by omega)]; exact f7 q j h1 h2 h3
      · rw [if_neg cl, if_neg cl, p_inb (by omega) (by decide), chk_t, bind_T, p_cl (by omega)]
        obtain ⟨σ1, s1, g1, g2, g3, g4, g5, g6, g7⟩ := try_both (j := z) (lv := 0) (κ := κ) hR (by omega) hz hz h (fun p hp _ => hq p hp) hW hV (fun p hp => w4 p (by omega) hp) (Nat.le_refl z) ez ez
        have e2 : up (up s 342 z (nI z)) 342 z (nI z) = up s 342 z (nI z) := by
          funext a b
          unfold up
          by_cases e : a = 342 ∧ b = z
          · rw [if_pos e, if_pos e]
          · rw [if_neg e]
        rw [e2] at g2
        rw [g1, g2, ob_s, ob_s]
        simp only [bind_T]
        rw [nI_1]
        obtain ⟨x, x', f1, f2, f3, f4, f5, f6, f7⟩ := loop_both (κ := κ) (lv := lv) hR (by omega) hz (h.fr2 g6 g7) (fun p hp => by rw [g5 p hp]; exact hV p hp) (fun p hp => by rw [g5 p (by omega)]; exact w4 p (by omega) hp) (by rw [g5 z hz]; exact ez) (fun p hp hpz => by
          have := g3 p hp hpz
          rw [up_d (by omega)] at this
          exact this) g4
        rw [f1, f2, ob_s, ob_s, chk_t]
        refine ⟨_, _, rfl, rfl, fun p hp => ?_, ⟨?_, fun hne p hp => ?_⟩, fun p hp => (f5 p hp).trans (g5 p hp), g6.tr f6, fun q j h1 h2 h3 => ?_⟩
        · by_cases ep : p = z
          · subst ep; rw [up_s, f5 p hp, g5 p hp, ez]
          · rw [up_d (by omega)]; exact f3 p hp ep
        · rw [up_d (by omega)]; exact f4.1
        · rw [up_d (by omega)]; exact f4.2 hne p hp
        · rw [up_d (by omega), f7 q j h1 h2 h3]; exact g7 q j h1 h2 h3
end PRR

-- PURE STAGE: steady
section STE
variable {σ σ' : Mem} {g : Nat → Int32} {P M C i : Nat}
theorem putAll_is (σ : Mem) (v : Int32) : (∀ p, p < 8 → F_Row_putAll σ 118 8 v 119 p = v) ∧ ∀ q j, q ≠ 119 → F_Row_putAll σ 118 8 v q j = σ q j := by
  unfold F_Row_putAll
  rw [bind_T, show cnt 0 (Int32.ofNat 8) = 8 by decide]
  have e := forS_itr (F := fun i s => F_Row_putAll_2_b 118 8 v i s) 8 0 σ
  rw [nI_0] at e
  rw [e]
  exact itr_inv (f := fun k s => (fun i s => F_Row_putAll_2_b 118 8 v i s) (nI (0 + k)) s) (fun k s => (∀ p, p < k → s 119 p = v) ∧ ∀ q j, q ≠ 119 → s q j = σ q j) (s := σ) ⟨fun p hp => by omega, fun _ _ _ => rfl⟩ (n := 8) (fun k hk s hs => by
    rw [Nat.zero_add]
    show (∀ p, p < k + 1 → F_Row_putAll_2_b 118 8 v (nI k) s 119 p = v) ∧ ∀ q j, q ≠ 119 → F_Row_putAll_2_b 118 8 v (nI k) s q j = σ q j
    unfold F_Row_putAll_2_b
    rw [bind_T, p_cl (by omega)]
    refine ⟨fun p hp => ?_, fun q j hq => ?_⟩
    · by_cases ep : p = k
      · subst ep; exact up_s
      · rw [up_d (by omega)]; exact hs.1 p (by omega)
    · rw [up_d (by omega)]; exact hs.2 q j hq)
theorem set342 (s : Mem) (v1 : Int32) : ∃ s1, forSO (fun i s => F_M_steady_33_b v1 i s) (cnt 0 8) 0 s = some s1 ∧ (∀ p, p < 8 → s1 342 p = -1) ∧ ∀ q j, q ≠ 342 → s1 q j = s q j := by
  rw [show cnt 0 8 = 8 by decide]
  obtain ⟨s1, h1, h2⟩ := forSO_inv (F := fun i s => F_M_steady_33_b v1 i s) 8 0 (fun k t => (∀ p, p < k → t 342 p = -1) ∧ ∀ q j, q ≠ 342 → t q j = s q j) s (fun k t hk ht => by
    refine ⟨up t 342 k (-1), ?_, fun p hp => ?_, fun q j hq => ?_⟩
    · rw [Nat.zero_add]
      unfold F_M_steady_33_b
      rw [bind_T, p_cl (by omega)]
    · by_cases ep : p = k
      · subst ep; exact up_s
      · rw [up_d (by omega)]; exact ht.1 p (by omega)
    · rw [up_d (by omega)]; exact ht.2 q j hq) ⟨fun p hp => by omega, fun _ _ _ => rfl⟩
  rw [nI_0] at h1
  exact ⟨s1, h1, h2.1, h2.2⟩
/-- both walks through all ways -/
theorem ways_both (h : TR (tv σ 3) (σ' 334) g P M C) (v1 : Int32) : ∃ σ1 s1 s2, F_Prs_steadyWays σ 3 = some (σ1, σ1 117 2) ∧ forSO (fun i s => F_M_steady_33_b v1 i s) (cnt 0 8) 0 σ' = some s1 ∧ s1 334 = σ' 334 ∧
    (if (((up s1 333 21 0) 334 3) - ((up s1 333 21 0) 334 3) / 2 * 2) = 1 then F_M_pairsUp (up s1 333 21 0) 1 else F_M_pairsUp (up s1 333 21 0) 0) = some s2 ∧ WRL P σ1 s2 ∧ FRC σ σ1 ∧ FRM σ' s2 := by
  have hP := h.c1.1
  obtain ⟨a1, a2⟩ := putAll_is (up σ 117 2 0) (-1)
  obtain ⟨s1, b1, b2, b3⟩ := set342 σ' v1
  have hf1 : FRC σ (F_Row_putAll (up σ 117 2 0) 118 8 (-1)) := fun q j h1 h2 h3 => by rw [a2 q j h1, up_d (by omega)]
  have hf2 : FRM σ' (up s1 333 21 0) := fun q j h1 h2 h3 => by rw [up_d (by omega), b3 q j h1]
  have hT := h.fr2 hf1 hf2
  obtain ⟨σ2, s2, f⟩ : ∃ σ2 s2, ∀ lv, lv = 0 ∨ lv = 1 → (lv = if (nI P - nI P / 2 * 2) = 1 then 1 else 0) → F_Prs_pairUp_d 11 (F_Row_putAll (up σ 117 2 0) 118 8 (-1)) 3 lv (nI 0) = some σ2 ∧ F_M_pairsUp_d 11 (up s1 333 21 0) lv = some s2 ∧ WRL P σ2 s2 ∧ FRC (F_Row_putAll (up σ 117 2 0) 118 8 (-1)) σ2 ∧ FRM (up s1 333 21 0) s2 := by
    obtain ⟨σ2, s2, c1, c2, -, c4, -, c6, c7⟩ := pair_rec (P := P) (g := g) (M := M) (C := C) 11 0 (by omega) (Nat.zero_le P) 0 (if (nI P - nI P / 2 * 2) = 1 then 1 else 0) _ _ (Nat.le_refl 0) hT (fun p hp => by rw [up_d (by omega), b2 p (by omega), a1 p (by omega)]) ⟨by rw [a2 117 2 (by omega), up_s, up_s], fun hne => absurd (by rw [a2 117 2 (by omega), up_s]) hne⟩ (fun p hp => Or.inl (a1 p (by omega))) (fun p hp => by omega)
    exact ⟨σ2, s2, fun lv _ hl => by rw [hl]; exact ⟨c1, c2, c4, c6, c7⟩⟩
  have t8 : F_Row_putAll (up σ 117 2 0) 118 8 (-1) 3 8 = nI P := hT.c2.1
  have t3 : (up s1 333 21 0) 334 3 = nI P := hT.c3.1
  refine ⟨σ2, s1, s2, ?_, b1, funext fun j => b3 334 j (by omega), ?_, ?_⟩
  · unfold F_Prs_steadyWays
    simp only [bind_T]
    rw [t8]
    by_cases c : (nI P - nI P / 2 * 2) = 1
    · obtain ⟨d1, -⟩ := f 1 (Or.inr rfl) (by rw [if_pos c])
      rw [nI_0] at d1
      rw [if_pos c]
      show obind (F_Prs_pairUp_d 11 _ 3 1 0) _ = _
      rw [d1, ob_s]
    · obtain ⟨d1, -⟩ := f 0 (Or.inl rfl) (by rw [if_neg c])
      rw [nI_0] at d1
      rw [if_neg c]
      show obind (F_Prs_pairUp_d 11 _ 3 0 0) _ = _
      rw [d1, ob_s]
  · rw [t3]
    by_cases c : (nI P - nI P / 2 * 2) = 1
    · obtain ⟨-, d1, -⟩ := f 1 (Or.inr rfl) (by rw [if_pos c])
      rw [if_pos c]
      exact d1
    · obtain ⟨-, d1, -⟩ := f 0 (Or.inl rfl) (by rw [if_neg c])
      rw [if_neg c]
      exact d1
  · have d := f (if (nI P - nI P / 2 * 2) = 1 then 1 else 0) (by by_cases c : (nI P - nI P / 2 * 2) = 1
                                                                 · rw [if_pos c]; exact Or.inr rfl
                                                                 · rw [if_neg c]; exact Or.inl rfl) rfl
    exact ⟨d.2.2.1, hf1.tr d.2.2.2.1, hf2.tr d.2.2.2.2⟩
theorem ways_out {σ1 σ2 : Mem} {v w : Int32} (h1 : F_Prs_steadyWays σ 3 = some (σ1, v)) (h2 : F_Prs_steadyWays σ 3 = some (σ2, w)) : σ1 = σ2 := congrArg Prod.fst (Option.some.inj (h1.symm.trans h2))
theorem rs30 (h : INVg i g P M C σ σ) (a1 : Int32) : RS i σ g P M C (H_steady σ a1) (fun σ' => F_M_steady σ' a1) := by
  have hP := h.1.c1.1
  obtain ⟨σ1, -, -, e1, -, -, -, -, e6, -⟩ := ways_both h.1 a1
  have tail : ∀ {σ' s2 : Mem}, FRM (up σ' 333 0 0) s2 → (∀ q j, (q < 333 ∨ q = 346 ∨ RelM q j) → s2 q j = σ' q j) ∧ s2 333 0 = 0 := fun {σ' s2} hf => ⟨fun q j hq => by
    unfold RelM at hq
    rw [hf q j (by omega) (by omega) (by omega), up_d (by omega)], by rw [hf 333 0 (by omega) (by omega) (by omega), up_s]⟩
  by_cases c : a1 = -1
  · refine Or.inr ⟨σ1, σ1 117 2, ?_, fun q j hq => e6 q j (by unfold RelC at hq; omega) (by unfold RelC at hq; omega) (by unfold RelC at hq; omega), fun σ' h' => ?_⟩
    · unfold H_steady F_W_steady
      rw [if_pos c, e1]
      rfl
    · obtain ⟨σ2, s1, s2, f1, f2, f3, f4, f5, -, f7⟩ := ways_both (h'.th (c := 0)).1 a1
      obtain rfl := ways_out e1 f1
      refine ⟨s2, ?_, (tail f7).1, (tail f7).2⟩
      dsimp only
      unfold F_M_steady
      rw [if_pos c, bind_T, up_s, if_neg nlt00, f2, ob_s, bind_T]
      by_cases c2 : ((up s1 333 21 0) 334 3) - ((up s1 333 21 0) 334 3) / 2 * 2 = 1
      · rw [if_pos c2] at f4 ⊢
        rw [f4, ob_s, if_pos c, f5.1]
      · rw [if_neg c2] at f4 ⊢
        rw [f4, ob_s, if_pos c, f5.1]
  · rcases pcase P a1 with ⟨p, hp, rfl⟩ | h1
    · refine Or.inr ⟨σ1, if σ1 117 2 = 0 then -1 else σ1 121 p, ?_, fun q j hq => e6 q j (by unfold RelC at hq; omega) (by unfold RelC at hq; omega) (by unfold RelC at hq; omega), fun σ' h' => ?_⟩
      · unfold H_steady F_W_steady F_Prs_steadyPartner
        rw [if_neg c, cp_ok h.1 hp, sumE_r, e1, ob_s]
        dsimp only
        rw [p_at (by omega) (by decide)]
        by_cases c3 : σ1 117 2 = 0
        · rw [if_pos c3, if_pos c3]; rfl
        · rw [if_neg c3, if_neg c3]; rfl
      · obtain ⟨σ2, s1, s2, f1, f2, f3, f4, f5, -, f7⟩ := ways_both (h'.th (c := 0)).1 (nI p)
        obtain rfl := ways_out e1 f1
        have fin : (if s2 333 21 = 0 then some (s2, (-1 : Int32)) else chk (inb (nI p) 8) (some (s2, s2 343 (nI p).toNatClampNeg))) = some (s2, if σ1 117 2 = 0 then -1 else σ1 121 p) := by
          rw [← f5.1, p_inb (by omega) (by decide), chk_t, p_cl (by omega)]
          by_cases c3 : σ1 117 2 = 0
          · rw [if_pos c3, if_pos c3]
          · rw [if_neg c3, if_neg c3, f5.2 c3 p hp]
        refine ⟨s2, ?_, (tail f7).1, (tail f7).2⟩
        dsimp only
        unfold F_M_steady
        rw [if_neg c, (q_pers h'.1 hp).2, ob_s, if_neg (show ¬ (1 : Int32) = 0 by decide), bind_T, up_s, if_neg nlt00, f2, ob_s, bind_T]
        by_cases c2 : ((up s1 333 21 0) 334 3) - ((up s1 333 21 0) 334 3) / 2 * 2 = 1
        · rw [if_pos c2] at f4 ⊢
          rw [f4, ob_s, if_neg c]
          exact fin
        · rw [if_neg c2] at f4 ⊢
          rw [f4, ob_s, if_neg c]
          exact fin
    · refine Or.inl ⟨1, by decide, ?_, fun σ' h' => ?_⟩
      · unfold H_steady F_W_steady
        rw [if_neg c, cp_no h.1 h1]; rfl
      · dsimp only
        unfold F_M_steady
        rw [if_neg c, (q_nopers h' h1).2, ob_s, if_pos rfl, bind_T, up_s, if_pos lt01]
        exact ⟨_, rfl⟩
theorem op30 (h : INV i σ) (a1 a2 a3 a4 a5 : Int32) : ∃ σ', S_30 σ a1 a2 a3 a4 a5 = some σ' ∧ INV (i + 1) σ' := by
  obtain ⟨g, P, M, C, h⟩ := h
  exact rs_ok (B := fun σ' => F_M_steady σ' a1) h (rs30 h a1)
end STE

-- PURE STAGE: months
theorem nI_minB {a n : Nat} (ha : a < 2 ^ 31) (hn : n < 2 ^ 31) : (if nI a < nI n then nI a else nI n) = nI (min a n) := by
  by_cases h : a < n
  · rw [if_pos (nI_lt h (by omega)), Nat.min_eq_left (by omega)]
  · rw [if_neg (nI_nlt (by omega) (by omega)), Nat.min_eq_right (by omega)]
theorem b_32767 : ∀ i, i < 32 → bt 32767 i = decide (i < 15) := by decide +kernel
theorem sh_eq (x : Int32) : ((x >>> ((16 : Int32) &&& 31)) &&& 32767) = ((x.toUInt32 >>> ((16 : Int32).toUInt32 &&& Int32.toUInt32 31)).toInt32 &&& 32767) := by
  apply b_ext
  intro i hi
  rw [b_and, b_and, b_32767 i hi]
  by_cases h : i < 15
  · rw [show bt (x >>> ((16 : Int32) &&& 31)) i = _ from b_sshr 16 (by omega) x hi, show bt ((x.toUInt32 >>> ((16 : Int32).toUInt32 &&& Int32.toUInt32 31)).toInt32) i = _ from b_ushr 16 (by omega) x i, if_pos (by omega)]
  · rw [decide_eq_false h, Bool.and_false, Bool.and_false]
section MONTHS
variable {σ σ' : Mem} {g : Nat → Int32} {t P M C : Nat}
theorem TR.mon1 (h : TR (tv σ t) (σ' 334) g P M C) : ∃ n, n ≤ 9999 ∧ σ t 15 = nI n ∧ σ' 334 8 = nI n := by
  obtain ⟨n, h1, h2⟩ := h.c5.2.2.2.2
  exact ⟨n, h1, h2, h.c4.2.2.2.2.1.trans h2⟩
theorem TR.passMonth (h : TR (tv σ t) (σ' 334) g P M C) {Λ : FN} {w K : Nat} {v1 v2 v3 : Int32} (hL : CLs σ w Λ) (hm : MLs g Λ) (hD : Dj t w K) (hC : C + 20 < 1000000) :
    ∃ σ1 σ1' C2, (C ≤ C2 ∧ C2 ≤ C + 20) ∧ F_Town_passMonth σ t w K = some σ1 ∧ F_M_goes_10_b v1 v2 v3 σ' = some σ1' ∧ TR (tv σ1 t) (σ1' 334) g P M C2 ∧ σ1' 333 12 = σ' 333 12 := by
  have hM := h.c1.2.1
  unfold F_Town_passMonth F_M_goes_10_b F_M_draw
  have e12 : σ' 334 12 = σ t 17 := h.c4.2.2.2.2.2.2
  simp only [bind_T]
  rw [e12, up_s, up_s, sh_eq]
  generalize (1103515245 : Int32) * σ t 17 + 12345 = sd
  rw [show nz 10 = true from rfl, chk_t, ob_s]
  dsimp only
  generalize (((sd : Int32).toUInt32 >>> ((16 : Int32).toUInt32 &&& Int32.toUInt32 31)).toInt32 &&& 32767) - (((sd : Int32).toUInt32 >>> ((16 : Int32).toUInt32 &&& Int32.toUInt32 31)).toInt32 &&& 32767) / 10 * 10 = qu
  have h1 : TR (tv (up σ t 17 sd) t) ((up σ' 334 12 sd) 334) g P M C := by rw [tv_up0, mv_up]; exact h.seed
  have h2 : TR (tv (up (up σ t 17 sd) t 16 qu) t) ((up (up σ' 334 12 sd) 334 9 qu) 334) g P M C := by rw [tv_up0, mv_up]; exact h1.quar
  have L2 : CLs (up (up σ t 17 sd) t 16 qu) w Λ := hL.to fun r hr j => by have := hD.1; rw [up_d (by omega), up_d (by omega)]
  have k2 : up (up σ' 334 12 sd) 334 9 qu 333 12 = σ' 333 12 := by rw [up_d (by omega), up_d (by omega)]
  generalize up (up σ t 17 sd) t 16 qu = τ at h2 L2 ⊢
  generalize up (up σ' 334 12 sd) 334 9 qu = τ' at h2 k2 ⊢
  obtain ⟨x, x', e1, e2, C2, hC2, h3, k3⟩ := whl_pair (F := fun s => F_Town_passMonth_35_b t w K s.1 s.2) (F' := fun s => F_M_goes_31_b v1 v2 v3 s.1 s.2)
    (fun i s s' => ∃ σ1 σ1' C2, (C ≤ C2 ∧ C2 ≤ C + i) ∧ s = (nI i, σ1) ∧ s' = (nI i, σ1') ∧ TR (tv σ1 t) (σ1' 334) g P M C2 ∧ CLs σ1 w Λ ∧ σ1' 333 12 = σ' 333 12)
    (fun x x' => ∃ C2, (C ≤ C2 ∧ C2 ≤ C + 20) ∧ TR (tv x.2 t) (x'.2 334) g P M C2 ∧ x'.2 333 12 = σ' 333 12) M
    (fun i s s' hi hI => by
      obtain ⟨σ1, σ1', C2, hC2, rfl, rfl, hT, hL1, hk1⟩ := hI
      by_cases hiM : i < M
      · refine Or.inr ⟨hiM, ?_⟩
        obtain ⟨σ2, σ2', C3, a1, a2, a3, a4, a5⟩ := hT.goMatch (v1 := v1) (v2 := v2) (v3 := v3) hL1 hm hiM hD (by omega)
        refine ⟨_, _, a2, a3, σ2, σ2', C3, by omega, rfl, rfl, a4, ?_, a5.trans hk1⟩
        refine hL1.to fun r hr j => ?_
        have := hD.1
        have := hD.2.2
        exact (((fr_F_Town_passMonth_35_b t w K (nI i) σ1 (by omega) (by omega) (by omega) rfl) _ a2).1 _ rfl).2
      · obtain rfl : i = M := by omega
        refine Or.inl ?_
        dsimp only
        unfold F_Town_passMonth_35_b F_M_goes_31_b
        rw [show σ1 t 10 = nI i from hT.c2.2.1, show σ1' 334 4 = nI i from hT.c3.2.1, if_neg (nI_nlt (by omega) (by omega)), if_neg (nI_nlt (by omega) (by omega))]
        exact ⟨_, _, rfl, rfl, C2, by omega, hT, hk1⟩) M 0 FUEL (0, τ) (0, τ') rfl (by unfold FUEL; omega) ⟨τ, τ', C, by omega, rfl, rfl, h2, L2, k2⟩
  rw [e1, e2, ob_s, ob_s]
  obtain ⟨mo, hmo, w1, w2⟩ := h3.mon1
  unfold F_M_lesser
  rw [w1, w2, nI_1]
  have c1 : (if nI (mo + 1) < 9999 then nI (mo + 1) else 9999) = nI (min (mo + 1) 9999) := nI_minB (a := mo + 1) (n := 9999) (by omega) (by omega)
  have c2 : (if (9999 : Int32) < nI (mo + 1) then 9999 else nI (mo + 1)) = nI (min 9999 (mo + 1)) := nI_minB (a := 9999) (n := mo + 1) (by omega) (by omega)
  rw [c1, c2, Nat.min_comm]
  refine ⟨_, _, C2, hC2, rfl, rfl, ?_, ?_⟩
  · rw [tv_up0, mv_up]
    exact h3.month (by omega)
  · rw [up_d (by omega)]
    exact k3
/-- so many months -/
theorem TR.goN (h : TR (tv σ t) (σ' 334) g P M C) {Λ : FN} {w K : Nat} {v1 v2 : Int32} {Fc : Int32 → Mem → Option Mem} (hF : ∀ i s, Fc i s = F_Town_passMonth s t w K) (hL : CLs σ w Λ) (hm : MLs g Λ) (hD : Dj t w K) (n : Nat) (hC : C + 20 * n < 1000000) :
    ∃ σ1 σ1' C2, (C ≤ C2 ∧ C2 ≤ C + 20 * n) ∧ forSO Fc n 0 σ = some σ1 ∧ forSO (fun i s => F_M_goes_10_b v1 v2 i s) n 0 σ' = some σ1' ∧ TR (tv σ1 t) (σ1' 334) g P M C2 ∧ σ1' 333 12 = σ' 333 12 := by
  obtain ⟨s1, s1', h1, h2, C2, h3, h4, -, h5⟩ := forSO_pair (F := Fc) (F' := fun i s => F_M_goes_10_b v1 v2 i s) n 0
    (fun k s s' => ∃ C2, (C ≤ C2 ∧ C2 ≤ C + 20 * k) ∧ TR (tv s t) (s' 334) g P M C2 ∧ CLs s w Λ ∧ s' 333 12 = σ' 333 12) σ σ'
    (fun k s s' hk hI => by
      obtain ⟨C2, hC2, hT, hL1, hk1⟩ := hI
      obtain ⟨σ2, σ2', C3, a1, a2, a3, a4, a5⟩ := hT.passMonth (v1 := v1) (v2 := v2) (v3 := nI (0 + k)) hL1 hm hD (by omega)
      refine ⟨σ2, σ2', (hF _ _).trans a2, a3, C3, by omega, a4, ?_, a5.trans hk1⟩
      refine hL1.to fun r hr j => ?_
      have := hD.1
      have := hD.2.2
      exact fr_F_Town_passMonth s t w K (by omega) (by omega) (by omega) rfl _ a2) ⟨C, by omega, h, hL, rfl⟩
  exact ⟨s1, s1', C2, h3, h1, h2, h4, h5⟩
end MONTHS

-- PURE STAGE: the memory as made
section INI
theorem sI_q {q j : Nat} (hq : q ≠ 334) : sI q j = sK (entTbl.getD q (99, 0)).1 j := by
  unfold sI
  rw [if_neg hq]
theorem tv0 : ∀ r, r < 17 → ∀ j, tv sI 3 r j = (if r = 0 then (if j = 12 then 20 else if j = 13 then 1 else if j = 14 then 10 else if j = 17 then 1 else 0) else 0) := by
  intro r hr j
  show sI (3 + r) j = _
  rw [sI_q (by omega)]
  exact match r, hr with
  | 0, _ => rfl
  | 1, _ => rfl
  | 2, _ => rfl
  | 3, _ => rfl
  | 4, _ => rfl
  | 5, _ => rfl
  | 6, _ => rfl
  | 7, _ => rfl
  | 8, _ => rfl
  | 9, _ => rfl
  | 10, _ => rfl
  | 11, _ => rfl
  | 12, _ => rfl
  | 13, _ => rfl
  | 14, _ => rfl
  | 15, _ => rfl
  | 16, _ => rfl
  | r + 17, h => absurd h (by omega)
theorem sM_at (j : Nat) : sI 334 j = sM j := by
  unfold sI
  rw [if_pos rfl]
theorem TR_0 : TR (tv sI 3) (sI 334) (sI 334) 0 0 0 := by
  have t0 : ∀ j, tv sI 3 0 j = (if j = 12 then 20 else if j = 13 then 1 else if j = 14 then 10 else if j = 17 then 1 else 0) := fun j => (tv0 0 (by decide) j).trans (if_pos rfl)
  refine ⟨⟨by omega, by omega, by omega⟩, ⟨by rw [t0]; rfl, by rw [t0]; rfl, by rw [t0]; rfl⟩, ⟨by rw [sM_at]; rfl, by rw [sM_at]; rfl, by rw [sM_at]; rfl, by rw [sM_at]; rfl⟩, ⟨by rw [sM_at, t0]; rfl, by rw [sM_at, t0]; rfl, by rw [sM_at, t0]; rfl, by rw [sM_at, t0]; rfl, by rw [sM_at, t0]; rfl, by rw [sM_at, t0]; rfl, by rw [sM_at, t0]; rfl⟩, ⟨⟨0, by omega, by rw [t0]; rfl⟩, ⟨20, by omega, by rw [t0]; rfl⟩, ⟨1, by omega, by rw [t0]; rfl⟩, ⟨10, by omega, by rw [t0]; rfl⟩, ⟨0, by omega, by rw [t0]; rfl⟩⟩, fun p hp => absurd hp (by omega), fun p hp => absurd hp (by omega), fun p _ _ => (tv0 4 (by decide) p).trans (if_neg (by decide)), fun i _ _ => ?_, fun p o hp => absurd hp (by omega), fun p o _ _ => ?_, fun k hk => absurd hk (by omega), fun k hk => absurd hk (by omega), fun i _ _ => ?_, fun a c ha => absurd ha (by omega), fun j _ => rfl⟩
  · rw [t0]
    exact b_0 i
  · have e : tv sI 3 8 (8 * p + o) = 0 := (tv0 8 (by decide) _).trans (if_neg (by decide))
    exact ⟨⟨0, by omega, e.trans nI_0.symm⟩, fun _ => e⟩
  · rw [t0]
    exact b_0 i
theorem CLs_0 : CLs sI 20 (fun _ _ a2 _ a4 _ _ => a4 - a2) := by
  intro σ2 w2 k h2 hk
  refine ⟨σ2, ?_⟩
  unfold F_Law_turnsBy
  have e : σ2 w2 5 = -1 := (h2 0 5 (by unfold LD; omega)).trans ((sI_q (q := 20 + 0) (by omega)).trans rfl)
  rw [e, if_pos rfl]
theorem MLs_0 : MLs (sI 334) (fun _ _ a2 _ a4 _ _ => a4 - a2) := by
  intro σ a0 a1 a2 a3 a4 a5 a6 hg h0 h1 h2 h3 h4 h5 h6 h7
  refine ⟨σ, ?_, rfl⟩
  unfold MTail
  have e : σ 334 1 = -1 := (hg 1 (by omega)).trans ((sM_at 1).trans rfl)
  rw [if_pos e, h4]
theorem INV_0 : INV 0 sI := by
  refine ⟨sI 334, 0, 0, 0, TR_0, by omega, ⟨_, CLs_0, MLs_0, ?_⟩, ⟨0, by omega, ?_, ?_, fun j hj => absurd hj (by omega)⟩, ?_, ⟨?_, Or.inl ?_⟩, 0, 0, by omega, by omega, ?_, ?_, ?_, fun a ha => absurd ha (by omega)⟩
  · rw [sM_at]
    exact (sI_q (by omega)).trans rfl
  · exact (sI_q (by omega)).trans rfl
  · exact (sI_q (by omega)).trans rfl
  · exact ((sI_q (by omega)).trans rfl : sI 0 13 = -1).trans ((sI_q (by omega)).trans rfl : sI 333 12 = -1).symm
  · exact ((sI_q (by omega)).trans rfl : sI 0 14 = 0).trans ((sI_q (by omega)).trans rfl : sI 333 3 = 0).symm
  · exact (sI_q (by omega)).trans rfl
  · exact (sI_q (by omega)).trans rfl
  · exact (sI_q (by omega)).trans rfl
  · exact (sI_q (by omega)).trans rfl
end INI

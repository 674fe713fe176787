-- PURE STAGE: the law's text: sums
/-- the same construct on both sides: codes and value, or one fault -/
def RES (b : Nat → Nat) (n T h : Nat) (bo : Bool) (i d : Nat) (cs : List Int32) (σ : Mem) (A : Option (Mem × Int32)) (B : Mem → Option (Mem × Int32)) : Prop :=
  (∃ (σ1 : Mem) (i1 : Nat) (new : List Int32) (x : (Int32 → Int32) → Int32), A = some (σ1, 1) ∧ CLw b n T i1 (cs ++ new) σ1 ∧ FC σ σ1 ∧ i < i1 ∧ new.length + i ≤ i1 ∧ (bo = true → ∀ v, VG v → isb (x v)) ∧ (∀ v S, VG v → S.length + h ≤ 64 → rnC v new S = some (x v :: S)) ∧ ∀ s, SN b n T i d s → ∃ s1, B s = some (s1, x (vS s)) ∧ SN b n T i1 d s1 ∧ FR s s1) ∨
  (∃ σ1 w, A = some (σ1, 0) ∧ w ≤ n ∧ σ1 78 12 = nI w ∧ FC σ σ1 ∧ ∀ s, SN b n T i d s → ∃ s1 y, B s = some (s1, y) ∧ FNt b n w (7 - d) s1 ∧ FR s s1)
section LSU
variable {b : Nat → Nat} {n T : Nat}
theorem SN.m1 {i d : Nat} {s : Mem} (h : SN b n T i d s) : s 333 12 = -1 := by
  obtain ⟨a, -, -, h12, -⟩ := h
  exact h12
theorem sum_tl : ∀ (D u i : Nat) (cs : List Int32) (σ : Mem), u + D = 400 → 1 ≤ u → u + 1 ≤ i → cs.length ≤ i → CLw b n T i cs σ →
    (∃ (σ1 : Mem) (i1 : Nat) (new : List Int32) (y : Int32 → (Int32 → Int32) → Int32), (obind (KS σ) fun z => contO z fun s' => forGO (fun i s => F_LTx_readsSum_2_b i s) D (nI u) s') = some (.inr (σ1, 1)) ∧ CLw b n T i1 (cs ++ new) σ1 ∧ FC σ σ1 ∧ i ≤ i1 ∧ new.length + i ≤ i1 ∧ (∀ v a S, S.length + 2 ≤ 64 → rnC v new (a :: S) = some (y a v :: S)) ∧ ∀ d s, SN b n T i d s → ∀ a f, D + 2 < f → ∃ s1, whl (fun s => F_M_sum_5_b s.1 s.2) f (a, s) = some (y a (vS s), s1) ∧ SN b n T i1 d s1 ∧ FR s s1) ∨
    (∃ σ1 w, (obind (KS σ) fun z => contO z fun s' => forGO (fun i s => F_LTx_readsSum_2_b i s) D (nI u) s') = some (.inr (σ1, 0)) ∧ w ≤ n ∧ σ1 78 12 = nI w ∧ FC σ σ1 ∧ ∀ d s, SN b n T i d s → ∀ a f, D + 2 < f → ∃ s1 y, whl (fun s => F_M_sum_5_b s.1 s.2) f (a, s) = some (y, s1) ∧ FNt b n w 0 s1 ∧ FR s s1) := by
  intro D
  induction D with
  | zero =>
    intro u i cs σ h1 h2 h3 h4 h
    have hT := h.1.1.2.2.2.1
    have hi := h.1.1.2.2.2.2
    omega
  | succ D ih =>
    intro u i cs σ h1 h2 h3 h4 h
    have hT := h.1.1.2.2.2.1
    have hiT := h.1.1.2.2.2.2
    have key : ∀ d s, SN b n T i d s → F_M_isSign s 43 = some (up s 333 11 (nI (posI b n i)), if σ 78 8 = nI 27 then 1 else 0) ∧ (σ 78 8 = nI 27 → i < T ∧ stF b n (posI b n i) = posI b n i + 1) := fun d s hs => sn_sign hs h.1 (k := 5) (by decide)
    by_cases c27 : σ 78 8 = nI 27
    · have hi : i < T := h.1.lt (v := 27) (by decide) c27
      obtain ⟨σ1, e1, e2, e3⟩ := h.next hi
      have eK : KS σ = some (.inl σ1) := by
        unfold KS
        rw [h.in31, chk_t, if_pos (show σ 78 8 = 27 from c27), e1, ob_s]
      rw [eK]
      have st1 : ∀ d s, SN b n T i d s → ∀ a, ∃ s0, SN b n T (i + 1) d s0 ∧ FR s s0 ∧ F_M_sum_5_b a s = obind (F_M_part s0) fun z6 => some (.inl ((a + z6.2, z6.1))) := fun d s hs a => by
        obtain ⟨k1, k2⟩ := key d s hs
        refine ⟨_, hs.nxt h.1 hi, FR.up (by omega), ?_⟩
        unfold F_M_sum_5_b
        rw [hs.m1, if_pos rfl, k1, ob_s, if_pos c27]
        dsimp only
        rw [if_neg (show ¬ (1 : Int32) = 0 by decide), bind_T, up_s, up_up, nI_1, ← (k2 c27).2]
        rfl
      show (∃ (σ2 : Mem) (i1 : Nat) (new : List Int32) (y : Int32 → (Int32 → Int32) → Int32), (obind (F_LTx_readsSum_2_b (nI u) σ1) fun z => contO z fun s' => forGO (fun i s => F_LTx_readsSum_2_b i s) D (nI u + 1) s') = _ ∧ _) ∨ (∃ (σ2 : Mem) (w : Nat), (obind (F_LTx_readsSum_2_b (nI u) σ1) fun z => contO z fun s' => forGO (fun i s => F_LTx_readsSum_2_b i s) D (nI u + 1) s') = _ ∧ _)
      rcases part_both e2 with ⟨c, hi2, hc, g1, g2⟩ | ⟨g1, g2⟩
      · obtain ⟨a1, a2⟩ := e2.add (by omega) c
        obtain ⟨a3, a4⟩ := a1.add (by rw [List.length_append]; show cs.length + 1 < 400; omega) 1008
        obtain ⟨σ3, f1, f2, f3⟩ := a3.next hi2
        have eB : (obind (F_LTx_readsSum_2_b (nI u) σ1) fun z => contO z fun s' => forGO (fun i s => F_LTx_readsSum_2_b i s) D (nI u + 1) s') = obind (KS σ3) fun z => contO z fun s' => forGO (fun i s => F_LTx_readsSum_2_b i s) D (nI (u + 1)) s' := by
          rw [g1]
          unfold SBc
          rw [bind_T, if_pos (show (0 : Int32) < nI u from nI_lt (a := 0) (by omega) (by omega)), bind_T, f1, ob_s, nI_1]
        rw [eB]
        have fc : FC σ σ3 := ((e3.trans a2).trans a4).trans f3
        have ll : (cs ++ [c] ++ [1008]).length = cs.length + 2 := by rw [List.length_append, List.length_append]; rfl
        rcases ih (u + 1) (i + 1 + 1) (cs ++ [c] ++ [1008]) σ3 (by omega) (by omega) (by omega) (by omega) f2 with ⟨σ4, i1, new, y, q1, q2, q3, q4, q5, q6, q7⟩ | ⟨σ4, w, q1, q2, q3, q4, q5⟩
        · refine Or.inl ⟨σ4, i1, [c] ++ ([1008] ++ new), fun a v => y (a + v c) v, q1, ?_, fc.trans q3, by omega, ?_, fun v a S hS => ?_, fun d s hs a f hf => ?_⟩
          · rw [← List.append_assoc, ← List.append_assoc]
            exact q2
          · rw [List.length_append, List.length_append]
            show 1 + (1 + new.length) + i ≤ i1
            omega
          · refine rnC_to (rnC_push hc (by show S.length + 1 < 64; omega)) (rnC_to (rnC_join (by decide) (by decide)) ?_)
            exact q6 v (a + v c) S hS
          · obtain ⟨f, rfl⟩ : ∃ k, f = k + 1 := ⟨f - 1, by omega⟩
            obtain ⟨s0, t1, t2, t3⟩ := st1 d s hs a
            obtain ⟨s1, t4, t5, t6⟩ := g2 d s0 t1
            obtain ⟨s2, t7, t8, t9⟩ := q7 d s1 t5 (a + vS s0 c) f (by omega)
            rw [t6.vs, t2.vs] at t7
            refine ⟨s2, Eq.trans (whl_l (F := fun s => F_M_sum_5_b s.1 s.2) (s := (a, s)) (s1 := (a + vS s c, s1)) ?_) t7, t8, (t2.trans t6).trans t9⟩
            show F_M_sum_5_b a s = _
            rw [t3, t4, ob_s, t2.vs]
        · refine Or.inr ⟨σ4, w, q1, q2, q3, fc.trans q4, fun d s hs a f hf => ?_⟩
          obtain ⟨f, rfl⟩ : ∃ k, f = k + 1 := ⟨f - 1, by omega⟩
          obtain ⟨s0, t1, t2, t3⟩ := st1 d s hs a
          obtain ⟨s1, t4, t5, t6⟩ := g2 d s0 t1
          obtain ⟨s2, y, t7, t8, t9⟩ := q5 d s1 t5 (a + vS s0 c) f (by omega)
          refine ⟨s2, y, Eq.trans (whl_l (F := fun s => F_M_sum_5_b s.1 s.2) (s := (a, s)) (s1 := (a + vS s0 c, s1)) ?_) t7, t8, (t2.trans t6).trans t9⟩
          show F_M_sum_5_b a s = _
          rw [t3, t4, ob_s]
      · rw [g1, ob_s]
        refine Or.inr ⟨up σ1 78 12 (nI (posI b n (i + 1))), posI b n (i + 1), rfl, e2.1.pos.1, up_s, e3.trans FC.ref, fun d s hs a f hf => ?_⟩
        obtain ⟨f, rfl⟩ : ∃ k, f = k + 2 := ⟨f - 2, by omega⟩
        obtain ⟨s0, t1, t2, t3⟩ := st1 d s hs a
        obtain ⟨s1, y, t4, t5, t6⟩ := g2 d s0 t1
        refine ⟨s1, a + y, Eq.trans (whl_l (F := fun s => F_M_sum_5_b s.1 s.2) (s := (a, s)) (s1 := (a + y, s1)) ?_) (whl_r (F := fun s => F_M_sum_5_b s.1 s.2) (s := (a + y, s1)) ?_), t5, t2.trans t6⟩
        · show F_M_sum_5_b a s = _
          rw [t3, t4, ob_s]
        · show F_M_sum_5_b (a + y) s1 = _
          unfold F_M_sum_5_b
          rw [if_neg t5.ne]
    · have eK : KS σ = some (.inr (σ, 1)) := by
        unfold KS
        rw [h.in31, chk_t, if_neg (show ¬ σ 78 8 = 27 from c27)]
      rw [eK]
      refine Or.inl ⟨σ, i, [], fun a _ => a, rfl, by rw [List.append_nil]; exact h, FC.rfl', Nat.le_refl _, by show 0 + i ≤ i; omega, fun v a S hS => rfl, fun d s hs a f hf => ?_⟩
      obtain ⟨f, rfl⟩ : ∃ k, f = k + 1 := ⟨f - 1, by omega⟩
      obtain ⟨k1, -⟩ := key d s hs
      refine ⟨_, whl_r (F := fun s => F_M_sum_5_b s.1 s.2) (s := (a, s)) (x := (a, up s 333 11 (nI (posI b n i)))) ?_, hs.here h.1, FR.up (by omega)⟩
      show F_M_sum_5_b a s = _
      unfold F_M_sum_5_b
      rw [hs.m1, if_pos rfl, k1, ob_s, if_neg c27]
      dsimp only
      rw [if_pos rfl]
/-- a sum on both sides -/
theorem sum_both {i d : Nat} {cs : List Int32} {σ : Mem} (h : CLw b n T i cs σ) (h1 : 1 ≤ i) (h2 : cs.length ≤ i) : RES b n T 2 false i d cs σ (F_LTx_readsSum σ) F_M_sum := by
  have hT := h.1.1.2.2.2.1
  have eA : F_LTx_readsSum σ = obind (obind (F_LTx_readsSum_2_b 0 σ) fun z => contO z fun s' => forGO (fun i s => F_LTx_readsSum_2_b i s) 399 (nI 1) s') fun z50 => sumE z50 (fun s51 => bindT (F_Text_refuse s51 78) fun z53 => some ((z53.1, (z53.2 &&& 1)))) (fun r52 => some r52) := by
    unfold F_LTx_readsSum
    rw [show cnt 0 400 = 400 by decide]
    rfl
  have eB : ∀ s, F_M_sum s = obind (F_M_part s) fun z1 => obind (whl (fun s => F_M_sum_5_b s.1 s.2) FUEL (z1.2, z1.1)) fun z8 => some ((z8.2, z8.1)) := fun s => rfl
  rw [eA]
  rcases part_both h with ⟨c, hi, hc, g1, g2⟩ | ⟨g1, g2⟩
  · obtain ⟨a1, a2⟩ := h.add (by omega) c
    obtain ⟨σ3, f1, f2, f3⟩ := a1.next hi
    have eC : (obind (F_LTx_readsSum_2_b 0 σ) fun z => contO z fun s' => forGO (fun i s => F_LTx_readsSum_2_b i s) 399 (nI 1) s') = obind (KS σ3) fun z => contO z fun s' => forGO (fun i s => F_LTx_readsSum_2_b i s) 399 (nI 1) s' := by
      rw [g1]
      unfold SBc
      rw [bind_T, if_neg (show ¬ (0 : Int32) < 0 by decide), f1, ob_s]
    rw [eC]
    have ll : (cs ++ [c]).length = cs.length + 1 := by rw [List.length_append]; rfl
    rcases sum_tl 399 1 (i + 1) (cs ++ [c]) σ3 (by omega) (by omega) (by omega) (by omega) f2 with ⟨σ4, i1, new, y, q1, q2, q3, q4, q5, q6, q7⟩ | ⟨σ4, w, q1, q2, q3, q4, q5⟩
    · refine Or.inl ⟨σ4, i1, [c] ++ new, fun v => y (v c) v, by rw [q1, ob_s, sumE_r], by rw [← List.append_assoc]; exact q2, (a2.trans f3).trans q3, by omega, ?_, (fun e => absurd e (by decide)), fun v S hv hS => ?_, fun s hs => ?_⟩
      · rw [List.length_append]
        show 1 + new.length + i ≤ i1
        omega
      · exact rnC_to (rnC_push hc (by omega)) (q6 v (v c) S hS)
      · obtain ⟨s1, t1, t2, t3⟩ := g2 d s hs
        obtain ⟨s2, t4, t5, t6⟩ := q7 d s1 t2 (vS s c) FUEL (by unfold FUEL; omega)
        refine ⟨s2, ?_, t5, t3.trans t6⟩
        rw [eB, t1, ob_s, t4, ob_s, t3.vs]
    · refine Or.inr ⟨σ4, w, by rw [q1, ob_s, sumE_r], q2, q3, (a2.trans f3).trans q4, fun s hs => ?_⟩
      obtain ⟨s1, t1, t2, t3⟩ := g2 d s hs
      obtain ⟨s2, y, t4, t5, t6⟩ := q5 d s1 t2 (vS s c) FUEL (by unfold FUEL; omega)
      refine ⟨s2, y, ?_, t5.mono (by omega), t3.trans t6⟩
      rw [eB, t1, ob_s, t4, ob_s]
  · rw [g1, ob_s]
    refine Or.inr ⟨up σ 78 12 (nI (posI b n i)), posI b n i, rfl, h.1.pos.1, up_s, FC.ref, fun s hs => ?_⟩
    obtain ⟨s1, y, t1, t2, t3⟩ := g2 d s hs
    refine ⟨s1, y, ?_, t2.mono (by omega), t3⟩
    rw [eB, t1, ob_s]
    dsimp only
    rw [show FUEL = 19999 + 1 from rfl, whl_r (F := fun s => F_M_sum_5_b s.1 s.2) (s := (y, s1)) (x := (y, s1)) (by
      show F_M_sum_5_b y s1 = _
      unfold F_M_sum_5_b
      rw [if_neg t2.ne]), ob_s]
end LSU

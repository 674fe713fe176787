-- PURE STAGE: ahead, first
section AHE
variable {σ σ' : Mem} {g : Nat → Int32} {P M C i : Nat}
theorem ah_fin {s0 τ m s : Mem} {k : Nat} {q : Int32} (hT : TR (tv σ 3) (σ' 334) g P M C) (b2 : ∀ j, j < 450 → s0 336 j = (up σ' 333 0 0) 334 j) (b3 : ∀ q j, q ≠ 336 ∨ 450 ≤ j → s0 q j = (up σ' 333 0 0) q j) (h : AHI g P M C σ s0 k q τ m s) :
    ∃ s3, F_M_comesBack s = some s3 ∧ (∀ q j, (q < 333 ∨ q = 346 ∨ RelM q j) → s3 q j = σ' q j) ∧ s3 333 0 = 0 := by
  obtain ⟨s3, c1, c2, c3⟩ := m_back (σ := s)
  obtain ⟨h1, -, -, -, h5⟩ := h
  refine ⟨s3, c1, fun a b hab => ?_, ?_⟩
  · by_cases e : a = 334
    · subst e
      unfold RelM at hab
      by_cases e2 : b < 450
      · rw [c2 b e2, h5 336 b (by omega) (by omega) (by omega), b2 b e2, up_d (by omega)]
      · rw [c3 334 b (by omega), h1.c16 b (by omega), hT.c16 b (by omega)]
    · unfold RelM at hab
      rw [c3 a b (by omega), h5 a b e (by omega) (by omega), b3 a b (by omega), up_d (by omega)]
  · rw [c3 333 0 (by omega), h5 333 0 (by omega) (by omega) (by omega), b3 333 0 (by omega), up_s]
theorem ah_0 {s0 : Mem} {k : Nat} {q : Int32} (hT : TR (tv σ 3) (σ' 334) g P M C) (hk : k < M) (b3 : ∀ q j, q ≠ 336 ∨ 450 ≤ j → s0 q j = (up σ' 333 0 0) q j) : AHI g P M C σ s0 k q σ (F_Town_lookAt σ 3 (nI k) q 112) s0 := by
  have e : s0 334 = σ' 334 := by
    funext j
    rw [b3 334 j (by omega), up_d (by omega)]
  refine ⟨by rw [e]; exact hT, look_LKF hT hk q (by omega), fun a b _ h2 => fr_F_Town_lookAt σ 3 (nI k) q 112 (by omega) rfl, rfl, fun _ _ _ _ _ => rfl⟩
theorem ah_loop {s0 : Mem} {Λ : FN} {k : Nat} {q v2 : Int32} (hk : k < M) (l1 : CLs σ 20 Λ) (l2 : MLs g Λ) {τ m s : Mem} (h : AHI g P M C σ s0 k q τ m s) (n : Nat) :
    ∃ m1 s1 τ1, forSO (fun i s => F_For_happyAhead_14_b 3 20 (nI k) v2 q i s) n 0 m = some m1 ∧ forSO (fun i s => F_M_ahead_39_b (nI k) v2 q i s) n 0 s = some s1 ∧ AHI g P M C σ s0 k q τ1 m1 s1 := by
  obtain ⟨m1, s1, h1, h2, τ1, h3⟩ := forSO_pair (F := fun i s => F_For_happyAhead_14_b 3 20 (nI k) v2 q i s) (F' := fun i s => F_M_ahead_39_b (nI k) v2 q i s) n 0
    (fun _ m s => ∃ τ, AHI g P M C σ s0 k q τ m s) m s (fun j m s _ hI => by
      obtain ⟨τ, hI⟩ := hI
      obtain ⟨z, s1, τ1, e1, e2, e3⟩ := ah_step hI hk l1 l2
      refine ⟨_, s1, ?_, ?_, τ1, e3⟩
      · unfold F_For_happyAhead_14_b
        rw [e1, ob_s]
        rfl
      · unfold F_M_ahead_39_b
        rw [e2, ob_s]) ⟨τ, h⟩
  exact ⟨m1, s1, τ1, h1, h2, h3⟩
theorem AHI.hap {s0 τ m s : Mem} {k : Nat} {q : Int32} (h : AHI g P M C σ s0 k q τ m s) (hk : k < M) : m 112 0 = s 334 (112 + 5 * k) := by
  rw [h.2.1.1]
  exact (h.1.c12 k hk).2.2.1.symm
theorem rs18 (h : INVg i g P M C σ σ) (a1 a2 a3 : Int32) : RS i σ g P M C (H_ahead σ a1 a2 a3) (fun σ' => F_M_ahead σ' a1 a2 a3) := by
  have hM := h.1.c1.2.1
  obtain ⟨Λ, l1, l2, -⟩ := h.2.2.1
  rcases pcase M a1 with ⟨k, hk, rfl⟩ | h1
  · rcases pcase 41 a2 with ⟨n, hn, rfl⟩ | h1
    · rcases pcase 10 a3 with ⟨c, hc, rfl⟩ | h2
      · have bm : ∀ σ', TR (tv σ 3) (σ' 334) g P M C → F_M_badMatch σ' (nI k) (nI n) 40 (nI c) = some 0 := fun σ' h' => by
          unfold F_M_badMatch
          rw [q_match h' hk, ob_s, if_neg (show ¬ (1 : Int32) = 0 by decide), if_neg (show ¬ (40 : Int32) = 20 by decide), isIn3 (n := 41) 40 (by decide) (by decide) hn, if_neg (show ¬ (1 : Int32) = 0 by decide), isIn3 (n := 10) 9 (by decide) (by decide) hc, if_neg (show ¬ (1 : Int32) = 0 by decide)]
        by_cases ov : bt (σ 3 11) k = true
        · refine Or.inr ⟨σ, 0, ?_, fun _ _ _ => rfl, fun σ' h' => ⟨up σ' 333 0 0, ?_, fun q j hq => up_d (by unfold RelM at hq; omega), up_s⟩⟩
          · unfold H_ahead F_W_ahead
            rw [cm_ok h.1 hk, cn_ok (by omega), cq_ok hc, co_is h.1 hk, if10]
            show obind (if bt (σ 3 11) k = true then _ else _) _ = _
            rw [if_pos ov]; rfl
          · dsimp only
            unfold F_M_ahead
            have h2 := (h'.th (c := 0)).1
            rw [bm σ' h'.1, ob_s, bind_T, up_s, if_neg nlt00, m_mat4 (by omega), ob_s, (h2.c12 k hk).2.2.2.2, if11, if_pos (show bt (tv σ 3 0 11) k = true from ov)]
        · obtain ⟨s0, x1, x2, x3⟩ := m_aside (σ := up σ 333 0 0)
          obtain ⟨m1, s1, τ1, e1, e2, e3⟩ := ah_loop (v2 := nI n) (q := nI c) hk l1 l2 (ah_0 h.1 hk x3) n
          refine Or.inr ⟨m1, m1 112 0, ?_, fun q j hq => e3.2.2.1 q j (by unfold RelC at hq; omega) (by unfold RelC at hq; omega), fun σ' h' => ?_⟩
          · unfold H_ahead F_W_ahead
            rw [cm_ok h.1 hk, cn_ok (by omega), cq_ok hc, co_is h.1 hk, if10]
            show obind (if bt (σ 3 11) k = true then _ else _) _ = _
            rw [if_neg ov]
            unfold F_For_happyAhead
            rw [bind_T, p_cnt0 (by omega), e1]
            rfl
          · have h2 := (h'.th (c := 0)).1
            obtain ⟨s0', y1, y2, y3⟩ := m_aside (σ := up σ' 333 0 0)
            obtain ⟨m2, s2, τ2, f1, f2, f3⟩ := ah_loop (v2 := nI n) (q := nI c) hk l1 l2 (ah_0 h'.1 hk y3) n
            have em : m2 = m1 := Option.some.inj (f1.symm.trans e1)
            subst em
            obtain ⟨s3, z1, z2, z3⟩ := ah_fin h'.1 y2 y3 f3
            refine ⟨s3, ?_, z2, z3⟩
            dsimp only
            unfold F_M_ahead
            rw [bm σ' h'.1, ob_s, bind_T, up_s, if_neg nlt00, m_mat4 (by omega), ob_s, (h2.c12 k hk).2.2.2.2, if11, if_neg (show ¬ bt (tv σ 3 0 11) k = true from ov), y1, ob_s, p_cnt0 (by omega), f2, ob_s, m_mat2 (by omega), ob_s, z1, ob_s, f3.hap hk]
      · refine Or.inl ⟨2, by decide, ?_, fun σ' h' => ?_⟩
        · unfold H_ahead F_W_ahead
          rw [cm_ok h.1 hk, cn_ok (by omega), cq_no h2]; rfl
        · dsimp only
          unfold F_M_ahead F_M_badMatch
          rw [q_match h' hk, ob_s, if_neg (show ¬ (1 : Int32) = 0 by decide), if_neg (show ¬ (40 : Int32) = 20 by decide), isIn3 (n := 41) 40 (by decide) (by decide) hn, if_neg (show ¬ (1 : Int32) = 0 by decide), isIn3n (n := 10) 9 (by decide) (by decide) h2, if_pos (rfl : (0 : Int32) = 0), ob_s, bind_T, up_s, if_pos lt02]
          exact ⟨_, rfl⟩
    · refine Or.inl ⟨2, by decide, ?_, fun σ' h' => ?_⟩
      · unfold H_ahead F_W_ahead
        rw [cm_ok h.1 hk, cn_no h1]; rfl
      · dsimp only
        unfold F_M_ahead F_M_badMatch
        rw [q_match h' hk, ob_s, if_neg (show ¬ (1 : Int32) = 0 by decide), if_neg (show ¬ (40 : Int32) = 20 by decide), isIn3n (n := 41) 40 (by decide) (by decide) h1, if_pos (rfl : (0 : Int32) = 0), ob_s, bind_T, up_s, if_pos lt02]
        exact ⟨_, rfl⟩
  · refine Or.inl ⟨1, by decide, ?_, fun σ' h' => ?_⟩
    · unfold H_ahead F_W_ahead
      rw [cm_no h.1 h1]; rfl
    · dsimp only
      unfold F_M_ahead F_M_badMatch
      rw [q_nomatch h' h1, ob_s, if_pos rfl, ob_s, bind_T, up_s, if_pos lt01]
      exact ⟨_, rfl⟩
theorem op18 (h : INV i σ) (a1 a2 a3 a4 a5 : Int32) : ∃ σ', S_18 σ a1 a2 a3 a4 a5 = some σ' ∧ INV (i + 1) σ' := by
  obtain ⟨g, P, M, C, h⟩ := h
  exact rs_ok (B := fun σ' => F_M_ahead σ' a1 a2 a3) h (rs18 h a1 a2 a3)
theorem fi_done {v1 v2 : Int32} {v : Nat} (hv : v < 6000) (s : Mem) : ∀ (d : Nat) (lo : Int32), omap mrg (forGO (fun i s => F_M_first_42_b v1 v2 i s.1 s.2) d lo (nI v, s)) = some (nI v, s) := by
  intro d lo
  cases d with
  | zero => rfl
  | succ d =>
    show omap mrg (obind (F_M_first_42_b v1 v2 lo (nI v) s) fun y => contO y fun s' => forGO _ d (lo + 1) s') = _
    unfold F_M_first_42_b
    rw [if_neg (m1_ne v hv)]
    rfl
/-- both loops from the v-th month on -/
theorem fi_loop {s0 : Mem} {Λ : FN} {k : Nat} {q : Int32} (hk : k < M) (l1 : CLs σ 20 Λ) (l2 : MLs g Λ) : ∀ (d v : Nat) (τ m s : Mem), d + v < 6000 → AHI g P M C σ s0 k q τ m s →
    ∃ x r s1 τ1 m1, forGO (fun i s => F_For_firstClaim_14_b 3 20 (nI k) q i s) d (nI v) m = some x ∧ omap mrg (forGO (fun i s => F_M_first_42_b (nI k) q i s.1 s.2) d (nI v) (-1, s)) = some (r, s1) ∧ sumE x (fun s9 => some ((s9, (-1)))) (fun r10 => some r10) = some (m1, r) ∧ AHI g P M C σ s0 k q τ1 m1 s1 := by
  intro d
  induction d with
  | zero => intro v τ m s _ h; exact ⟨_, _, _, _, _, rfl, rfl, rfl, h⟩
  | succ d ih =>
    intro v τ m s hd h
    have hM := h.1.c1.2.1
    obtain ⟨z, s1, τ1, e1, e2, e3⟩ := ah_step h hk l1 l2
    have e4 := e3.hap hk
    have e5 : F_Look_passTime (up z.1 112 0 z.2) 112 3 12 = s1 334 5 := (e3.2.2.1 3 12 (by omega) (by omega)).trans (e3.2.2.2.1.symm.trans e3.1.c4.2.1.symm)
    have eF : F_For_firstClaim_14_b 3 20 (nI k) q (nI v) m = if s1 334 (112 + 5 * k) < s1 334 5 then some (.inr (F_Look_passTime (up z.1 112 0 z.2) 112, nI v)) else some (.inl (F_Look_passTime (up z.1 112 0 z.2) 112)) := by
      unfold F_For_firstClaim_14_b
      rw [e1, ob_s, ← e4, ← e5]
      rfl
    have eM : F_M_first_42_b (nI k) q (nI v) (-1) s = if s1 334 (112 + 5 * k) < s1 334 5 then some (.inl (nI v, s1)) else some (.inl (-1, s1)) := by
      unfold F_M_first_42_b
      rw [if_pos rfl, e2, ob_s, m_mat2 (by omega), ob_s]
    by_cases c : s1 334 (112 + 5 * k) < s1 334 5
    · rw [if_pos c] at eF eM
      refine ⟨.inr (F_Look_passTime (up z.1 112 0 z.2) 112, nI v), nI v, s1, τ1, _, ?_, ?_, rfl, e3⟩
      · show obind (F_For_firstClaim_14_b 3 20 (nI k) q (nI v) m) _ = _
        rw [eF]; rfl
      · show omap mrg (obind (F_M_first_42_b (nI k) q (nI v) (-1) s) fun y => contO y fun s' => forGO _ d (nI v + 1) s') = _
        rw [eM]
        exact fi_done (by omega) s1 d _
    · rw [if_neg c] at eF eM
      obtain ⟨x, r, s2, τ2, m2, f1, f2, f3, f4⟩ := ih (v + 1) τ1 _ s1 (by omega) e3
      refine ⟨x, r, s2, τ2, m2, ?_, ?_, f3, f4⟩
      · show obind (F_For_firstClaim_14_b 3 20 (nI k) q (nI v) m) (fun y => contO y fun s' => forGO _ d (nI v + 1) s') = _
        rw [eF, nI_1]
        exact f1
      · show omap mrg (obind (F_M_first_42_b (nI k) q (nI v) (-1) s) fun y => contO y fun s' => forGO _ d (nI v + 1) s') = _
        rw [eM, nI_1]
        exact f2
theorem rs19 (h : INVg i g P M C σ σ) (a1 a2 : Int32) : RS i σ g P M C (H_first σ a1 a2) (fun σ' => F_M_first σ' a1 a2) := by
  have hM := h.1.c1.2.1
  obtain ⟨Λ, l1, l2, -⟩ := h.2.2.1
  rcases pcase M a1 with ⟨k, hk, rfl⟩ | h1
  · rcases pcase 10 a2 with ⟨c, hc, rfl⟩ | h2
    · have bm : ∀ σ', TR (tv σ 3) (σ' 334) g P M C → F_M_badMatch σ' (nI k) 0 0 (nI c) = some 0 := fun σ' h' => by
        unfold F_M_badMatch
        rw [q_match h' hk, ob_s, if_neg (show ¬ (1 : Int32) = 0 by decide), if_neg (show ¬ (0 : Int32) = 20 by decide), isIn3 (n := 10) 9 (by decide) (by decide) hc, if_neg (show ¬ (1 : Int32) = 0 by decide)]
        rfl
      by_cases ov : bt (σ 3 11) k = true
      · refine Or.inr ⟨σ, -1, ?_, fun _ _ _ => rfl, fun σ' h' => ⟨up σ' 333 0 0, ?_, fun q j hq => up_d (by unfold RelM at hq; omega), up_s⟩⟩
        · unfold H_first F_W_first
          rw [cm_ok h.1 hk, cq_ok hc, co_is h.1 hk, if10]
          show obind (if bt (σ 3 11) k = true then _ else _) _ = _
          rw [if_pos ov]; rfl
        · dsimp only
          unfold F_M_first
          have h2 := (h'.th (c := 0)).1
          rw [bm σ' h'.1, ob_s, bind_T, up_s, if_neg nlt00, m_mat4 (by omega), ob_s, (h2.c12 k hk).2.2.2.2, if11, if_pos (show bt (tv σ 3 0 11) k = true from ov)]
      · obtain ⟨s0, x1, x2, x3⟩ := m_aside (σ := up σ 333 0 0)
        obtain ⟨x, r, s1, τ1, m1, e1, e2, e3, e4⟩ := fi_loop hk l1 l2 40 1 _ _ _ (by omega) (ah_0 (q := nI c) h.1 hk x3)
        rw [show nI 1 = 1 by decide] at e1
        refine Or.inr ⟨m1, r, ?_, fun q j hq => e4.2.2.1 q j (by unfold RelC at hq; omega) (by unfold RelC at hq; omega), fun σ' h' => ?_⟩
        · unfold H_first F_W_first
          rw [cm_ok h.1 hk, cq_ok hc, co_is h.1 hk, if10]
          show obind (if bt (σ 3 11) k = true then _ else _) _ = _
          rw [if_neg ov]
          unfold F_For_firstClaim
          rw [bind_T, show cle 1 40 = 40 by decide, e1, ob_s, e3]
          rfl
        · have h2 := (h'.th (c := 0)).1
          obtain ⟨s0', y1, y2, y3⟩ := m_aside (σ := up σ' 333 0 0)
          obtain ⟨x', r', s2, τ2, m2, f1, f2, f3, f4⟩ := fi_loop hk l1 l2 40 1 _ _ _ (by omega) (ah_0 (q := nI c) h'.1 hk y3)
          rw [show nI 1 = 1 by decide] at f1 f2
          have ex : x' = x := Option.some.inj (f1.symm.trans e1)
          subst ex
          have er : r' = r := congrArg Prod.snd (Option.some.inj (f3.symm.trans e3))
          subst er
          obtain ⟨s3, z1, z2, z3⟩ := ah_fin h'.1 y2 y3 f4
          refine ⟨s3, ?_, z2, z3⟩
          dsimp only
          unfold F_M_first
          rw [bm σ' h'.1, ob_s, bind_T, up_s, if_neg nlt00, m_mat4 (by omega), ob_s, (h2.c12 k hk).2.2.2.2, if11, if_neg (show ¬ bt (tv σ 3 0 11) k = true from ov), y1, ob_s, show cle 1 40 = 40 by decide, f2, ob_s, z1, ob_s]
    · refine Or.inl ⟨2, by decide, ?_, fun σ' h' => ?_⟩
      · unfold H_first F_W_first
        rw [cm_ok h.1 hk, cq_no h2]; rfl
      · dsimp only
        unfold F_M_first F_M_badMatch
        rw [q_match h' hk, ob_s, if_neg (show ¬ (1 : Int32) = 0 by decide), if_neg (show ¬ (0 : Int32) = 20 by decide), isIn3n (n := 10) 9 (by decide) (by decide) h2, if_pos (rfl : (0 : Int32) = 0)]
        show ∃ r, obind (some 2) _ = _
        rw [ob_s, bind_T, up_s, if_pos lt02]
        exact ⟨_, rfl⟩
  · refine Or.inl ⟨1, by decide, ?_, fun σ' h' => ?_⟩
    · unfold H_first F_W_first
      rw [cm_no h.1 h1]; rfl
    · dsimp only
      unfold F_M_first F_M_badMatch
      rw [q_nomatch h' h1, ob_s, if_pos rfl, ob_s, bind_T, up_s, if_pos lt01]
      exact ⟨_, rfl⟩
theorem op19 (h : INV i σ) (a1 a2 a3 a4 a5 : Int32) : ∃ σ', S_19 σ a1 a2 a3 a4 a5 = some σ' ∧ INV (i + 1) σ' := by
  obtain ⟨g, P, M, C, h⟩ := h
  exact rs_ok (B := fun σ' => F_M_first σ' a1 a2) h (rs19 h a1 a2)
end AHE

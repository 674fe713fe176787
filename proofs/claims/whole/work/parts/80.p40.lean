-- PURE STAGE: anniversary, dance
def GD (b : Nat → Nat) (n P : Nat) : Prop := n ≤ 36 ∧ n % 3 = 0 ∧ okU b P (n / 3) = true
section TOLE
variable {σ σ' : Mem} {g : Nat → Int32} {P M C i R n : Nat} {b : Nat → Nat}
theorem c_told (hP : P ≤ 8) (hn : n ≤ 400) (e0 : σ 0 12 = nI n) (e8 : σ 3 8 = nI P) (hb : ∀ j, j < n → σ 2 j = nI (b j) ∧ b j ≤ 255) :
    (GD b n P ∧ ∃ σ1, F_W_readTold σ = some (.inr σ1) ∧ TS b P σ1 (n / 3) ∧ σ1 0 12 = 0) ∨ (¬ GD b n P ∧ ∃ σ1, F_W_readTold σ = some (.inl ("java/lang/IllegalArgumentException", σ1)) ∧ σ1 0 12 = 0) := by
  have fr : ∀ z, F_W_readTold σ = some z → (∀ e s, z = .inl (e, s) → s 0 12 = 0) ∧ ∀ s, z = .inr s → s 0 12 = 0 := by
    intro z hz
    unfold F_W_readTold F_W_useTapeUp at hz
    simp only [bind_T] at hz
    obtain ⟨y, h1, h2⟩ := obind_out hz
    have h3 : y.1 0 12 = 0 := (fr_F_Told_reads (up σ 0 12 0) 1 400 (σ 0 12) (up σ 0 12 0 3 8) (q := 0) (j := 12) (v := 0) (by omega) up_s y h1).1
    by_cases c : y.2 = 0
    · rw [if_pos c] at h2
      cases h2
      exact ⟨fun e s hs => (by cases hs; exact h3), fun s hs => (by cases hs)⟩
    · rw [if_neg c] at h2
      cases h2
      exact ⟨fun e s hs => (by cases hs), fun s hs => (by cases hs; exact h3)⟩
  have rem : nI n - nI n / 3 * 3 = nI (n % 3) := pk_rem (d := 3) (by omega) (by decide) (by decide)
  have bad : ∀ σ1, F_Told_reads (up σ 0 12 0) 1 400 (nI n) (nI P) = some (σ1, 0) → ∃ σ1, F_W_readTold σ = some (.inl ("java/lang/IllegalArgumentException", σ1)) ∧ σ1 0 12 = 0 := fun σ1 h => by
    have e : F_W_readTold σ = some (.inl ("java/lang/IllegalArgumentException", σ1)) := by
      unfold F_W_readTold F_W_useTapeUp
      simp only [bind_T]
      rw [e0, up_d (by omega), e8, h, ob_s, if_pos rfl]
    exact ⟨σ1, e, (fr _ e).1 _ _ rfl⟩
  by_cases c1 : 36 < n
  · refine Or.inr ⟨fun h => by have := h.1; omega, bad (up (up (up σ 0 12 0) 122 3 0) 122 4 (nI P)) ?_⟩
    unfold F_Told_reads
    simp only [bind_T]
    rw [if_pos (show (36 : Int32) < nI n from nI_lt (a := 36) c1 (by omega))]
  · by_cases c2 : n % 3 = 0
    · have hR : 3 * (n / 3) = n := by omega
      obtain ⟨x, f1, f2⟩ := c_reads (σ := up (up (up σ 0 12 0) 122 3 0) 122 4 (nI P)) (R := n / 3) (b := b) hP (by omega) (fun j hj => by rw [up_d (by omega), up_d (by omega), up_d (by omega)]; exact hb j (by omega)) ⟨by rw [up_d (by omega), up_s]; exact nI_0.symm, up_s, fun u hu => by omega⟩ (nI n) (by rw [hR]) (nI P)
      have e : F_Told_reads (up σ 0 12 0) 1 400 (nI n) (nI P) = sumE x (fun s15 => some ((s15.2, 1))) (fun r16 => some r16) := by
        unfold F_Told_reads
        simp only [bind_T]
        rw [if_neg (show ¬ (36 : Int32) < nI n from nI_nlt (a := 36) (by omega) (by omega)), rem, c2, if_pos nI_0, f1, ob_s]
      rcases f2 with ⟨g1, v, σ1, rfl, g2⟩ | ⟨g1, σ1, rfl⟩
      · have e2 : F_W_readTold σ = some (.inr σ1) := by
          unfold F_W_readTold F_W_useTapeUp
          simp only [bind_T]
          rw [e0, up_d (by omega), e8, e, sumE_l, ob_s, if_neg (show ¬ (1 : Int32) = 0 by decide)]
        exact Or.inl ⟨⟨by omega, c2, g1⟩, σ1, e2, g2, (fr _ e2).2 _ rfl⟩
      · exact Or.inr ⟨fun h => (by rw [h.2.2] at g1; cases g1), bad σ1 e⟩
    · refine Or.inr ⟨fun h => c2 h.2.1, bad (up (up (up σ 0 12 0) 122 3 0) 122 4 (nI P)) ?_⟩
      unfold F_Told_reads
      simp only [bind_T]
      rw [if_neg (show ¬ (36 : Int32) < nI n from nI_nlt (a := 36) (by omega) (by omega)), rem, if_neg (nI_ne0 (by omega) (by omega))]
theorem m_told_y (hP : P ≤ 8) (hg : GD b n P) (e8 : σ' 333 8 = nI n) (e3 : σ' 334 3 = nI P) (hb : ∀ j, j < n → σ' 338 j = nI (b j) ∧ b j ≤ 255) :
    ∃ σ2, F_M_told_ σ' = some (σ2, nI (cntA b (n / 3) (2 ^ P))) ∧ (∀ u, u < 2 ^ P → σ2 344 u = (if fitA b (nI u) (n / 3) = true then 1 else 0)) ∧ (∀ q j, q ≠ 344 → σ2 q j = up σ' 333 8 0 q j) := by
  obtain ⟨c1, c2, c3⟩ := hg
  have hR : 3 * (n / 3) = n := by omega
  have rem : nI n - nI n / 3 * 3 = nI (n % 3) := pk_rem (d := 3) (by omega) (by decide) (by decide)
  have hb2 : ∀ j, j < 3 * (n / 3) → (up σ' 333 8 0) 338 j = nI (b j) ∧ b j ≤ 255 := fun j hj => by rw [up_d (by omega)]; exact hb j (by omega)
  have h3 : (up σ' 333 8 0) 334 3 = nI P := by rw [up_d (by omega)]; exact e3
  obtain ⟨x, f1, f2⟩ := m_reads hP (by omega) hb2 h3
  rw [c3, if_pos rfl] at f2
  obtain ⟨y, g1, g2, g3, g4⟩ := m_sets (b := b) (σ' := up σ' 333 8 0) hP (show n / 3 ≤ 12 by omega) x.1 c3 hb2 h3
  rw [hR] at f1 g1
  unfold F_M_told_
  simp only [bind_T]
  rw [e8, rem, c2, if_pos nI_0, if_neg (show ¬ (36 : Int32) < nI n from nI_nlt (a := 36) (by omega) (by omega)), f1, ob_s, if_neg (show ¬ x.1 = 0 by rw [f2]; decide), g1, ob_s, g2]
  exact ⟨_, rfl, g3, g4⟩
theorem m_told_n (hP : P ≤ 8) (hn : n ≤ 400) (hg : ¬ GD b n P) (e8 : σ' 333 8 = nI n) (e3 : σ' 334 3 = nI P) (hb : ∀ j, j < n → σ' 338 j = nI (b j) ∧ b j ≤ 255) : F_M_told_ σ' = some (up σ' 333 8 0, -1) := by
  have rem : nI n - nI n / 3 * 3 = nI (n % 3) := pk_rem (d := 3) (by omega) (by decide) (by decide)
  unfold F_M_told_
  simp only [bind_T]
  rw [e8, rem]
  by_cases c2 : n % 3 = 0
  · rw [c2, if_pos nI_0]
    by_cases c1 : 36 < n
    · rw [if_pos (show (36 : Int32) < nI n from nI_lt (a := 36) c1 (by omega)), m_reads0, ob_s, if_pos rfl]
    · have hR : 3 * (n / 3) = n := by omega
      obtain ⟨x, f1, f2⟩ := m_reads (σ' := up σ' 333 8 0) (b := b) (R := n / 3) hP (by omega) (fun j hj => by rw [up_d (by omega)]; exact hb j (by omega)) (by rw [up_d (by omega)]; exact e3)
      have f3 : okU b P (n / 3) = false := by
        cases hx : okU b P (n / 3) with
        | false => rfl
        | true => exact absurd ⟨by omega, c2, hx⟩ hg
      rw [f3, if_neg (by decide)] at f2
      rw [hR] at f1
      rw [if_neg (show ¬ (36 : Int32) < nI n from nI_nlt (a := 36) (by omega) (by omega)), f1, ob_s, if_pos f2]
  · rw [if_neg (nI_ne0 (by omega) (by omega)), m_reads0, ob_s, if_pos rfl]
def insA (b : Nat → Nat) (R P : Nat) : Int32 := if 0 < cntA b R (2 ^ P) then sOf (fun p => decide (cntW b R p (2 ^ P) = cntA b R (2 ^ P))) P else 0
theorem A_le (hP : P ≤ 8) : cntA b R (2 ^ P) ≤ 256 := Nat.le_trans (cntA_le _) (pow_P hP)
theorem c_inAll (hP : P ≤ 8) (hR : R ≤ 12) (hok : okU b P R = true) (hT : TS b P σ R) : ∃ σ1, F_Told_inAll σ = some (σ1, insA b R P) ∧ F_Told_fitting σ = some (σ1, nI (cntA b R (2 ^ P))) := by
  obtain ⟨σ1, f1, f2, f3⟩ := c_fitting hP hR hok hT
  have hA := A_le (b := b) (R := R) hP
  refine ⟨σ1, ?_, f1⟩
  unfold F_Told_inAll
  rw [f1, ob_s, bind_T]
  dsimp only
  rw [f3 122 4 (by omega), hT.2.1, p_cnt0 (by omega)]
  unfold insA
  by_cases c : 0 < cntA b R (2 ^ P)
  · rw [if_pos c]
    have e := forG_itr (F := fun i s => F_Told_inAll_9_b σ1 (nI (cntA b R (2 ^ P))) i s) P 0 0
    rw [nI_0] at e
    rw [e]
    have e2 : ∀ n, n ≤ P → itrX (fun k s => F_Told_inAll_9_b σ1 (nI (cntA b R (2 ^ P))) (nI (0 + k)) s) n 0 = .inl (sOf (fun p => decide (cntW b R p (2 ^ P) = cntA b R (2 ^ P))) n) := by
      intro n
      induction n with
      | zero => intro _; rfl
      | succ n ih =>
        intro hn
        show contG (itrX _ n 0) _ = _
        rw [ih (by omega)]
        show F_Told_inAll_9_b σ1 (nI (cntA b R (2 ^ P))) (nI (0 + n)) _ = _
        have hW := cntW_le (b := b) (R := R) n (2 ^ P)
        unfold F_Told_inAll_9_b
        rw [if_pos (show (0 : Int32) < nI (cntA b R (2 ^ P)) from nI_lt (a := 0) c (by omega)), Nat.zero_add, p_at (by omega) (by decide), f2 n (by omega), bind_T]
        show _ = Sum.inl (if decide (cntW b R n (2 ^ P) = cntA b R (2 ^ P)) = true then _ else _)
        by_cases e : cntW b R n (2 ^ P) = cntA b R (2 ^ P)
        · rw [if_pos (by rw [e]), decide_eq_true e, if_pos rfl]
          rfl
        · rw [if_neg (fun q => e (nI_inj (by omega) (by omega) q)), decide_eq_false e, if_neg (by decide)]
          rfl
    rw [e2 P (Nat.le_refl P)]
    rfl
  · rw [if_neg c, show cntA b R (2 ^ P) = 0 by omega, nI_0]
    cases P with
    | zero => rfl
    | succ d =>
      have e : F_Told_inAll_9_b σ1 0 0 0 = .inr 0 := by
        unfold F_Told_inAll_9_b
        rw [if_neg nlt00]
      show some (σ1, mrg (contG (F_Told_inAll_9_b σ1 0 0 0) _)) = _
      rw [e]
      rfl
theorem m_inAll (hP : P ≤ 8) (v1 : Int32) (h3 : σ' 334 3 = nI P) (hf : ∀ u, u < 2 ^ P → σ' 344 u = (if fitA b (nI u) R = true then 1 else 0)) : forSO (fun i s => F_M_anniversary_48_b σ' v1 (nI (cntA b R (2 ^ P))) i s) (cnt 0 (σ' 334 3)) 0 0 = some (insA b R P) := by
  have hA := A_le (b := b) (R := R) hP
  rw [h3, p_cnt0 (by omega)]
  have e := forSO_itr (F := fun i s => F_M_anniversary_48_b σ' v1 (nI (cntA b R (2 ^ P))) i s) P 0 0 (fun k s => if 0 < cntA b R (2 ^ P) ∧ cntW b R k (2 ^ P) = cntA b R (2 ^ P) then s ||| ((1 : Int32) <<< (nI k &&& 31)) else s) (fun p hp => by
    generalize itr _ p (0 : Int32) = x
    have hW := cntW_le (b := b) (R := R) p (2 ^ P)
    rw [Nat.zero_add]
    unfold F_M_anniversary_48_b
    simp only [bind_T]
    rw [or_0, m_with hP hp h3 hf, ob_s]
    by_cases c : 0 < cntA b R (2 ^ P)
    · rw [if_pos (show (0 : Int32) < nI (cntA b R (2 ^ P)) from nI_lt (a := 0) c (by omega))]
      by_cases e : cntW b R p (2 ^ P) = cntA b R (2 ^ P)
      · rw [if_pos (by rw [e]), if_pos ⟨c, e⟩]
      · rw [if_neg (fun q => e (nI_inj (by omega) (by omega) q)), if_neg (fun q => e q.2)]
    · rw [if_neg (show ¬ (0 : Int32) < nI (cntA b R (2 ^ P)) from nI_nlt (a := 0) (by omega) (by omega)), if_neg (fun q => c q.1)])
  rw [nI_0] at e
  rw [e]
  unfold insA sOf
  by_cases c : 0 < cntA b R (2 ^ P)
  · rw [if_pos c]
    congr 2
    funext k s
    dsimp only
    by_cases e : cntW b R k (2 ^ P) = cntA b R (2 ^ P)
    · rw [if_pos ⟨c, e⟩]
      exact (if_pos (decide_eq_true e)).symm
    · rw [if_neg (fun q => e q.2)]
      exact (if_neg (fun q => e (of_decide_eq_true q))).symm
  · rw [if_neg c]
    have e2 : ∀ n, itr (fun k s => if 0 < cntA b R (2 ^ P) ∧ cntW b R k (2 ^ P) = cntA b R (2 ^ P) then s ||| ((1 : Int32) <<< (nI k &&& 31)) else s) n (0 : Int32) = 0 := by
      intro n
      induction n with
      | zero => rfl
      | succ n ih =>
        show (if 0 < cntA b R (2 ^ P) ∧ _ then _ else _) = _
        rw [if_neg (fun q => c q.1)]
        exact ih
    rw [e2 P]
/-- both loops for who parts best -/
theorem best_both (hP : P ≤ 8) (h8 : ∀ p, p < P → σ 128 p = nI (cntW b R p (2 ^ P))) (h3 : σ' 334 3 = nI P) (hf : ∀ u, u < 2 ^ P → σ' 344 u = (if fitA b (nI u) R = true then 1 else 0)) (c : 1 < cntA b R (2 ^ P)) : ∀ (d p : Nat) (best x y : Int32), d + p = P → ((best = -1 ∧ y = 2000000000) ∨ (best ≠ -1 ∧ y = x))→
    ∃ r z z', mrg (forG (fun i s => F_Told_bestParter_12_b σ (nI (cntA b R (2 ^ P))) i s.1 s.2) d (nI p) (best, x)) = (r, z) ∧ omap mrg (forGO (fun i s => F_M_dance_37_b σ' (nI (cntA b R (2 ^ P))) i s.1 s.2) d (nI p) (best, y)) = some (r, z') := by
  have hA := A_le (b := b) (R := R) hP
  intro d
  induction d with
  | zero => intro p best x y _ _; exact ⟨best, x, y, rfl, rfl⟩
  | succ d ih =>
    intro p best x y hd hxy
    have hW := cntW_le (b := b) (R := R) p (2 ^ P)
    have c1 : (1 : Int32) < nI (cntA b R (2 ^ P)) := nI_lt (a := 1) c (by omega)
    have es : nI (cntA b R (2 ^ P)) - nI (cntW b R p (2 ^ P)) = nI (cntA b R (2 ^ P) - cntW b R p (2 ^ P)) := pk_sub hW
    have eC : F_Told_bestParter_12_b σ (nI (cntA b R (2 ^ P))) (nI p) best x = if best = -1 then .inl (nI p, nI (max (cntW b R p (2 ^ P)) (cntA b R (2 ^ P) - cntW b R p (2 ^ P)))) else if nI (max (cntW b R p (2 ^ P)) (cntA b R (2 ^ P) - cntW b R p (2 ^ P))) < x then .inl (nI p, nI (max (cntW b R p (2 ^ P)) (cntA b R (2 ^ P) - cntW b R p (2 ^ P)))) else .inl (best, x) := by
      unfold F_Told_bestParter_12_b
      rw [if_pos c1, p_at (by omega) (by decide), h8 p (by omega), bind_T, es, nI_max (by omega) (by omega), bind_T]
    have eM : F_M_dance_37_b σ' (nI (cntA b R (2 ^ P))) (nI p) best y = if nI (max (cntW b R p (2 ^ P)) (cntA b R (2 ^ P) - cntW b R p (2 ^ P))) < y then some (.inl (nI p, nI (max (cntW b R p (2 ^ P)) (cntA b R (2 ^ P) - cntW b R p (2 ^ P))))) else some (.inl (best, y)) := by
      unfold F_M_dance_37_b F_M_greater
      rw [if_pos c1, m_with hP (by omega) h3 hf, ob_s, es, nI_max (by omega) (by omega), bind_T, Nat.max_comm]
    have sC : ∀ s, F_Told_bestParter_12_b σ (nI (cntA b R (2 ^ P))) (nI p) best x = .inl s → mrg (forG (fun i s => F_Told_bestParter_12_b σ (nI (cntA b R (2 ^ P))) i s.1 s.2) (d + 1) (nI p) (best, x)) = mrg (forG (fun i s => F_Told_bestParter_12_b σ (nI (cntA b R (2 ^ P))) i s.1 s.2) d (nI (p + 1)) s) := fun s hs => by
      show mrg (contG (F_Told_bestParter_12_b σ (nI (cntA b R (2 ^ P))) (nI p) best x) fun s' => forG _ d (nI p + 1) s') = _
      rw [hs, nI_1]
      rfl
    have sM : ∀ s, F_M_dance_37_b σ' (nI (cntA b R (2 ^ P))) (nI p) best y = some (.inl s) → omap mrg (forGO (fun i s => F_M_dance_37_b σ' (nI (cntA b R (2 ^ P))) i s.1 s.2) (d + 1) (nI p) (best, y)) = omap mrg (forGO (fun i s => F_M_dance_37_b σ' (nI (cntA b R (2 ^ P))) i s.1 s.2) d (nI (p + 1)) s) := fun s hs => by
      show omap mrg (obind (F_M_dance_37_b σ' (nI (cntA b R (2 ^ P))) (nI p) best y) fun y => contO y fun s' => forGO _ d (nI p + 1) s') = _
      rw [hs, nI_1]
      rfl
    have hm : max (cntW b R p (2 ^ P)) (cntA b R (2 ^ P) - cntW b R p (2 ^ P)) ≤ 256 := by omega
    generalize max (cntW b R p (2 ^ P)) (cntA b R (2 ^ P) - cntW b R p (2 ^ P)) = m at eC eM hm
    rcases hxy with ⟨e1, e2⟩ | ⟨e1, e2⟩
    · rw [if_pos e1] at eC
      rw [if_pos (by rw [e2]; exact nI_lt (b := 2000000000) (by omega) (by decide))] at eM
      rw [sC _ eC, sM _ eM]
      exact ih (p + 1) _ _ _ (by omega) (Or.inr ⟨m1_ne p (by omega), rfl⟩)
    · rw [if_neg e1] at eC
      subst e2
      by_cases c2 : nI m < y
      · rw [if_pos c2] at eC eM
        rw [sC _ eC, sM _ eM]
        exact ih (p + 1) _ _ _ (by omega) (Or.inr ⟨m1_ne p (by omega), rfl⟩)
      · rw [if_neg c2] at eC eM
        rw [sC _ eC, sM _ eM]
        exact ih (p + 1) _ _ _ (by omega) (Or.inr ⟨e1, rfl⟩)
theorem told_fin (h : INVg i g P M C σ σ) {σ1 σ2 : Mem} (h0 : σ1 0 12 = 0) (f1 : ∀ q j, (q < 122 ∨ 128 < q) → (q ≠ 0 ∨ j ≠ 12) → q ≠ 346 → σ1 q j = σ q j) (f2 : ∀ q j, q ≠ 344 → (q ≠ 333 ∨ (j ≠ 0 ∧ j ≠ 8)) → σ2 q j = σ1 q j) (h8 : σ2 333 8 = 0) : INV (i + 1) σ2 := by
  refine h.tape ⟨0, by omega, ?_, by rw [h8]; exact nI_0.symm, fun j hj => by omega⟩ (fun q j hq h2 h3 => ?_) (fun q j hq h2 h3 => ?_)
  · rw [f2 0 12 (by omega) (by omega), h0]; exact nI_0.symm
  · unfold RelC at hq
    rw [f2 q j (by omega) (by omega), f1 q j (by omega) h3 (by omega)]
  · unfold RelM at hq
    rw [f2 q j (by omega) (by omega), f1 q j (by omega) (by omega) (by omega)]
/-- the two readings, and what follows them -/
theorem told_op (h : INVg i g P M C σ σ) {A : Option (Mem × Int32)} {B : Mem → Option (Mem × Int32)} {V : Mem → Option (Mem × Int32)}
    (hA : A = obind (obind (F_W_readTold σ) fun z1 => sumE z1 (fun e3 => some (Sum.inl e3)) (fun o2 => obind (V o2) fun z6 => some ((Sum.inr ((z6.1, z6.2)) : (String × Mem) ⊕ (Mem × Int32))))) fun z1 => sumE z1 (fun e3 => (if e3.1 = "java/lang/IllegalArgumentException" then some ((e3.2, 1)) else none)) (fun o2 => bindT (up o2.1 346 0 o2.2) fun σ5 => some ((σ5, 0))))
    (hV : ∀ (b : Nat → Nat) (n : Nat) (σ1 : Mem), GD b n P → TS b P σ1 (n / 3) → ∃ σ2 v, V σ1 = some (σ2, v) ∧ (∀ q j, q ≠ 128 → σ2 q j = σ1 q j) ∧
      ∀ s1 s2 : Mem, s1 334 3 = nI P → F_M_told_ s1 = some (s2, nI (cntA b (n / 3) (2 ^ P))) → (∀ u, u < 2 ^ P → s2 344 u = (if fitA b (nI u) (n / 3) = true then 1 else 0)) → s2 334 3 = nI P → B s1 = some (up s2 333 0 0, v))
    (hB : ∀ s1 s2 : Mem, F_M_told_ s1 = some (s2, -1) → ∃ r, B s1 = some (up s2 333 0 1, r)) :
    ∃ σ', (obind A fun z1 => obind (B z1.1) fun z2 => (if (F_M_thrown z2.1) = z1.2 then (if z1.2 = 0 then (if (z2.1 346 0) = z2.2 then some z2.1 else none) else some z2.1) else none)) = some σ' ∧ INV (i + 1) σ' := by
  have hP := h.1.c1.1
  obtain ⟨n, hn, e1, e2, e3⟩ := h.2.2.2.1
  have hb : ∀ j, j < n → σ 2 j = nI ((σ 2 j).toNatClampNeg) ∧ (σ 2 j).toNatClampNeg ≤ 255 := fun j hj => by
    obtain ⟨-, x, hx, ex⟩ := e3 j hj
    rw [ex, p_cl (by omega)]
    exact ⟨rfl, hx⟩
  rcases c_told hP hn e1 h.1.c2.1 hb with ⟨hg, σ1, r1, r2, r3⟩ | ⟨hg, σ1, r1, r2⟩
  · obtain ⟨σ2, v, v1, v2, v3⟩ := hV _ n σ1 hg r2
    have f1 : ∀ q j, (q < 122 ∨ 126 < q) → (q ≠ 0 ∨ j ≠ 12) → σ1 q j = σ q j := fun q j h1 h2 => (fr_F_W_readTold σ h1 h2 rfl _ r1).2 _ rfl
    have g1 : ∀ q j, (q < 122 ∨ 128 < q) → (q ≠ 0 ∨ j ≠ 12) → q ≠ 346 → up σ2 346 0 v q j = σ q j := fun q j h1 h2 h3 => by
      rw [up_d (by omega), v2 q j (by omega), f1 q j (by omega) h2]
    have eA : A = some (up σ2 346 0 v, 0) := by
      rw [hA, r1, ob_s, sumE_r, v1]
      rfl
    obtain ⟨s2, w1, w2, w3⟩ := m_told_y (σ' := up σ2 346 0 v) hP hg (by rw [g1 333 8 (by omega) (by omega) (by omega)]; exact e2) (by rw [g1 334 3 (by omega) (by omega) (by omega)]; exact h.1.c3.1) (fun j hj => by rw [g1 338 j (by omega) (by omega) (by omega), ← (e3 j hj).1]; exact hb j hj)
    have s3 : s2 334 3 = nI P := by rw [w3 334 3 (by omega), up_d (by omega), g1 334 3 (by omega) (by omega) (by omega)]; exact h.1.c3.1
    have eB := v3 (up σ2 346 0 v) s2 (by rw [g1 334 3 (by omega) (by omega) (by omega)]; exact h.1.c3.1) w1 w2 s3
    refine ⟨up s2 333 0 0, ?_, told_fin (σ1 := up σ2 346 0 v) h ?_ g1 (fun q j h1 h2 => ?_) ?_⟩
    · rw [eA, ob_s, eB, ob_s]
      dsimp only
      rw [if_pos (show F_M_thrown (up s2 333 0 0) = 0 from up_s), if_pos rfl, if_pos (by rw [up_d (by omega), w3 346 0 (by omega), up_d (by omega), up_s])]
    · rw [up_d (by omega), v2 0 12 (by omega)]; exact r3
    · rw [up_d (by omega), w3 q j h1, up_d (by omega)]
    · rw [up_d (by omega), w3 333 8 (by omega), up_s]
  · have f1 : ∀ q j, (q < 122 ∨ 126 < q) → (q ≠ 0 ∨ j ≠ 12) → σ1 q j = σ q j := fun q j h1 h2 => ((fr_F_W_readTold σ h1 h2 rfl _ r1).1 _ rfl).2
    have eA : A = some (σ1, 1) := by
      rw [hA, r1, ob_s, sumE_l]
      rfl
    have w1 := m_told_n (σ' := σ1) hP hn hg (by rw [f1 333 8 (by omega) (by omega)]; exact e2) (by rw [f1 334 3 (by omega) (by omega)]; exact h.1.c3.1) (fun j hj => by rw [f1 338 j (by omega) (by omega), ← (e3 j hj).1]; exact hb j hj)
    obtain ⟨r, eB⟩ := hB σ1 _ w1
    refine ⟨up (up σ1 333 8 0) 333 0 1, ?_, told_fin (σ1 := σ1) h r2 (fun q j h1 h2 _ => f1 q j (by omega) h2) (fun q j h1 h2 => ?_) ?_⟩
    · rw [eA, ob_s, eB, ob_s]
      dsimp only
      rw [if_pos (show F_M_thrown (up (up σ1 333 8 0) 333 0 1) = 1 from up_s), if_neg (by decide)]
    · rw [up_d (by omega), up_d (by omega)]
    · rw [up_d (by omega), up_s]
theorem op33 (h : INV i σ) (a1 a2 a3 a4 a5 : Int32) : ∃ σ', S_33 σ a1 a2 a3 a4 a5 = some σ' ∧ INV (i + 1) σ' := by
  obtain ⟨g, P, M, C, h⟩ := h
  have hP := h.1.c1.1
  refine told_op (A := H_dance σ) (B := F_M_dance) (V := F_Told_bestParter) h rfl (fun b n σ1 hg hT => ?_) (fun s1 s2 hs => ?_)
  · obtain ⟨σ2, f1, f2, f3⟩ := c_fitting hP (by have := hg.1; omega) hg.2.2 hT
    have hA := A_le (b := b) (R := n / 3) hP
    have e8 : σ2 122 4 = nI P := by rw [f3 122 4 (by omega)]; exact hT.2.1
    refine ⟨σ2, (mrg (forG (fun i s => F_Told_bestParter_12_b σ2 (nI (cntA b (n / 3) (2 ^ P))) i s.1 s.2) P 0 ((-1), nI (cntA b (n / 3) (2 ^ P))))).1, ?_, f3, fun s1 s2 _ hm hf h3 => ?_⟩
    · unfold F_Told_bestParter
      rw [f1, ob_s, bind_T]
      dsimp only
      rw [e8, p_cnt0 (by omega)]
    · unfold F_M_dance
      rw [hm, ob_s, if_neg (m1_ne _ (by omega)), bind_T, up_s, if_neg nlt00]
      dsimp only
      rw [up_d (by omega), h3, p_cnt0 (by omega)]
      by_cases c : 1 < cntA b (n / 3) (2 ^ P)
      · obtain ⟨r, z, z', g1, g2⟩ := best_both (σ := σ2) (σ' := up s2 333 0 0) hP f2 (by rw [up_d (by omega)]; exact h3) (fun u hu => by rw [up_d (by omega)]; exact hf u hu) c P 0 (-1) (nI (cntA b (n / 3) (2 ^ P))) 2000000000 (by omega) (Or.inl ⟨rfl, rfl⟩)
        rw [nI_0] at g1 g2
        rw [g1, g2, ob_s]
      · have c1 : ¬ (1 : Int32) < nI (cntA b (n / 3) (2 ^ P)) := nI_nlt (a := 1) (by omega) (by omega)
        cases P with
        | zero => rfl
        | succ d =>
          have e1 : F_Told_bestParter_12_b σ2 (nI (cntA b (n / 3) (2 ^ (d + 1)))) 0 (-1) (nI (cntA b (n / 3) (2 ^ (d + 1)))) = .inr (-1, nI (cntA b (n / 3) (2 ^ (d + 1)))) := by
            unfold F_Told_bestParter_12_b
            rw [if_neg c1]
          have e2 : F_M_dance_37_b (up s2 333 0 0) (nI (cntA b (n / 3) (2 ^ (d + 1)))) 0 (-1) 2000000000 = some (.inr (-1, 2000000000)) := by
            unfold F_M_dance_37_b
            rw [if_neg c1]
          show obind (omap mrg (obind (F_M_dance_37_b (up s2 333 0 0) (nI (cntA b (n / 3) (2 ^ (d + 1)))) 0 (-1) 2000000000) fun y => contO y _)) _ = some (_, (mrg (contG (F_Told_bestParter_12_b σ2 (nI (cntA b (n / 3) (2 ^ (d + 1)))) 0 (-1) (nI (cntA b (n / 3) (2 ^ (d + 1))))) _)).1)
          rw [e1, e2]
          rfl
  · unfold F_M_dance
    rw [hs, ob_s, if_pos rfl, bind_T, up_s, if_pos lt01]
    exact ⟨_, rfl⟩
theorem anni_op (h : INVg i g P M C σ σ) (v1 : Int32) : ∃ σ', (obind (H_anniversary σ v1) fun z1 => obind (F_M_anniversary z1.1 v1) fun z2 => (if (F_M_thrown z2.1) = z1.2 then (if z1.2 = 0 then (if (z2.1 346 0) = z2.2 then some z2.1 else none) else some z2.1) else none)) = some σ' ∧ INV (i + 1) σ' := by
  have hP := h.1.c1.1
  refine told_op (A := H_anniversary σ v1) (B := fun s => F_M_anniversary s v1) (V := fun o2 => if v1 = 0 then F_Told_fitting o2 else F_Told_inAll o2) h ?_ (fun b n σ1 hg hT => ?_) (fun s1 s2 hs => ?_)
  · unfold H_anniversary F_W_anniversary
    by_cases c : v1 = 0
    · simp only [if_pos c]
    · simp only [if_neg c]
  · have hA := A_le (b := b) (R := n / 3) hP
    obtain ⟨σ2, f1, f2⟩ := c_inAll hP (by have := hg.1; omega) hg.2.2 hT
    obtain ⟨σ3, g1, -, g3⟩ := c_fitting hP (by have := hg.1; omega) hg.2.2 hT
    have e : σ3 = σ2 := congrArg Prod.fst (Option.some.inj (g1.symm.trans f2))
    subst e
    by_cases c : v1 = 0
    · refine ⟨σ3, nI (cntA b (n / 3) (2 ^ P)), by rw [if_pos c]; exact f2, g3, fun s1 s2 _ hm hf h3 => ?_⟩
      unfold F_M_anniversary
      rw [hm, ob_s, if_neg (m1_ne _ (by omega)), bind_T, up_s, if_neg nlt00, if_pos c, if_neg nlt00]
    · refine ⟨σ3, insA b (n / 3) P, by rw [if_neg c]; exact f1, g3, fun s1 s2 _ hm hf h3 => ?_⟩
      unfold F_M_anniversary
      rw [hm, ob_s, if_neg (m1_ne _ (by omega)), bind_T, up_s, if_neg nlt00, if_neg c]
      dsimp only
      rw [m_inAll (σ' := up s2 333 0 0) hP v1 (by rw [up_d (by omega)]; exact h3) (fun u hu => by rw [up_d (by omega)]; exact hf u hu), ob_s]
  · unfold F_M_anniversary
    rw [hs, ob_s, if_pos rfl, bind_T, up_s, if_pos lt01, if_pos lt01]
    exact ⟨_, rfl⟩
theorem op32 (h : INV i σ) (a1 a2 a3 a4 a5 : Int32) : ∃ σ', S_32 σ a1 a2 a3 a4 a5 = some σ' ∧ INV (i + 1) σ' := by
  obtain ⟨g, P, M, C, h⟩ := h
  unfold S_32
  by_cases e : a1 = 0
  · simp only [if_pos e]
    exact anni_op h 0
  · simp only [if_neg e]
    exact anni_op h 1
end TOLE

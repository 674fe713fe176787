-- PURE STAGE: the calls that change the town
section CH
variable {g : Nat → Int32} {P M C i : Nat}
theorem INVg.th {σ σ' : Mem} {c : Int32} (h : INVg i g P M C σ σ') : INVg i g P M C σ (up σ' 333 0 c) := h.to (Nat.le_refl i) (fun _ _ _ => rfl) (fun q j hq => up_d (by unfold RelM at hq; omega))
theorem rem_fr {σ τ : Mem} (h : F_W_remember σ = some τ) : ∀ q j, 333 ≤ q → τ q j = σ q j := fun q j hq => fr_F_W_remember σ (by omega) (by omega) (by omega) rfl _ h
theorem mrem_fr {σ τ : Mem} (h : F_M_remembers σ = some τ) : ∀ q j, (q < 333 ∨ q = 346 ∨ (q = 333 ∧ j = 0)) → τ q j = σ q j := fun q j hq => fr_F_M_remembers σ (by omega) (by omega) rfl _ h
theorem ro_rw {σ : Mem} {A : Option (Mem × Int32)} {B : Mem → Option (Mem × Int32)} {c r : Int32} (hc : c ≠ 0) (h1 : A = some (σ, c)) (h2 : ∀ σ' : Mem, TR (tv σ 3) (σ' 334) g P M C → B σ' = some (up σ' 333 0 c, r)) : RW i σ g P M C A B := Or.inl ⟨c, hc, h1, fun σ' h => ⟨r, h2 σ' h⟩⟩
/-- both remember, then each changes its town -/
theorem rw_change {σ : Mem} (h : INVg i g P M C σ σ) {A : Option (Mem × Int32)} {B : Mem → Option (Mem × Int32)} {Fc : Mem → Mem × Int32} {Fm : Mem → Option (Mem × Int32)}
    (hA : ∀ τ, F_W_remember σ = some τ → A = some (up (Fc τ).1 346 0 (Fc τ).2, 0))
    (hB : ∀ σ' τ', INVg i g P M C σ σ' → F_M_remembers (up σ' 333 0 0) = some τ' → B σ' = Fm τ')
    (hF : ∀ τ τ', F_W_remember σ = some τ → INVg i g P M C τ τ' → ∃ τ2' P2 M2 C2, Fm τ' = some (τ2', (Fc τ).2) ∧ TR (tv (Fc τ).1 3) (τ2' 334) g P2 M2 C2 ∧ C2 ≤ 1200 * (i + 1) ∧ (∀ q j, (q < 3 ∨ 19 < q) → RelC q ∨ 333 ≤ q → (Fc τ).1 q j = τ q j) ∧ ∀ q j, q ≠ 334 → (RelM q j ∨ q < 333 ∨ q = 346 ∨ (q = 333 ∧ j = 0)) → τ2' q j = τ' q j) : RW i σ g P M C A B := by
  obtain ⟨τ, τ0', e1, -, -⟩ := h.remember
  refine Or.inr ⟨(Fc τ).1, (Fc τ).2, hA τ e1, ?_, fun σ' h' => ?_⟩
  · intro q j hq
    obtain ⟨τ0', hh, e2, hI⟩ : ∃ τ0', ∃ _ : True, F_M_remembers σ = some τ0' ∧ INVg i g P M C τ τ0' := by
      obtain ⟨τ1, τ1', f1, f2, f3⟩ := h.remember
      rw [e1] at f1
      cases f1
      exact ⟨τ1', trivial, f2, f3⟩
    obtain ⟨-, -, -, -, -, -, -, h4, -⟩ := hF τ τ0' e1 hI
    rw [h4 q j (by omega) (Or.inr hq)]
    exact rem_fr e1 q j hq
  · obtain ⟨τ1, τ', f1, f2, f3⟩ := (h'.th (c := 0)).remember
    rw [e1] at f1
    cases f1
    obtain ⟨τ2', P2, M2, C2, g1, g2, g3, g4, g5⟩ := hF τ τ' e1 f3
    refine ⟨τ2', (hB σ' τ' h' f2).trans g1, fun q j hq => ?_, ?_, P2, M2, C2, f3.town (Nat.le_succ i) g2 g3 (fun q j hq hq2 => g4 q j hq2 (Or.inl hq)) (fun q j hq hq2 => g5 q j hq2 (Or.inl hq))⟩
    · rw [g5 q j (by omega) (by omega), mrem_fr f2 q j (by omega), up_d (by omega)]
    · rw [g5 333 0 (by omega) (by omega), mrem_fr f2 333 0 (by omega), up_s]
end CH
section ASKW
theorem up_up {σ : Mem} {q j : Nat} {a b : Int32} : up (up σ q j a) q j b = up σ q j b := by
  funext x y
  unfold up
  by_cases e : x = q ∧ y = j
  · rw [if_pos e, if_pos e]
  · rw [if_neg e, if_neg e, if_neg e]
variable {g : Nat → Int32} {P M C i : Nat}
theorem rw8 {σ : Mem} (h : INVg i g P M C σ σ) (a1 a2 : Int32) : RW i σ g P M C (H_ask σ a1 a2) (fun σ' => obind (F_M_ask σ' a1 a2) fun z => some (z.1, if z.2 = 0 then 0 else 1)) := by
  have hP := h.1.c1.1
  have hC := h.2.1
  rcases two_cases h.1 a1 a2 with h1 | ⟨p, hp, rfl, rfl⟩ | ⟨p, o, hp, ho, hpo, rfl, rfl⟩
  · refine ro_rw (c := 1) (r := 0) (by decide) ?_ fun σ' h' => ?_
    · unfold H_ask F_W_ask
      rw [(two_no h.1 h1).1]; rfl
    · unfold F_M_ask
      rw [(two_no h' h1).2, ob_s, bind_T, up_s, if_pos lt01, ob_s]; rfl
  · refine ro_rw (c := 2) (r := 0) (by decide) ?_ fun σ' h' => ?_
    · unfold H_ask F_W_ask
      rw [(two_eq h.1 hp).1]; rfl
    · unfold F_M_ask
      rw [(two_eq h' hp).2, ob_s, bind_T, up_s, if_pos lt02, ob_s]; rfl
  · refine rw_change h (Fc := fun τ => ((F_Town_addAsked τ 3 (nI p) (nI o)).1, if (F_Town_addAsked τ 3 (nI p) (nI o)).2 &&& 1 = 0 then 0 else 1)) (Fm := fun τ' => obind (obind (F_M_of τ' (nI p) 1) fun z5 => bindT ((F_M_isOf τ' z5 (nI o))) fun x6 => obind (F_M_of τ' (nI p) 1) fun z7 => obind (F_M_has τ' (nI p) 1 ((z7 ||| ((1 : Int32) <<< ((nI o : Int32) &&& 31))))) fun z8 => (if x6 = 0 then some ((z8, (1 : Int32))) else some ((z8, 0)))) fun z => some (z.1, if z.2 = 0 then 0 else 1)) ?_ ?_ ?_
    · intro τ e
      unfold H_ask F_W_ask
      rw [(two_ok h.1 hp ho hpo).1]
      show obind (obind (F_W_remember σ) _) _ = _
      rw [e, ob_s, bind_T, ob_s]
      show (if (F_Town_addAsked τ 3 (nI p) (nI o)).2 &&& 1 = 0 then _ else _) = _
      by_cases c : (F_Town_addAsked τ 3 (nI p) (nI o)).2 &&& 1 = 0
      · rw [if_pos c, if_pos c]; rfl
      · rw [if_neg c, if_neg c]; rfl
    · intro σ' τ' h' e
      unfold F_M_ask
      rw [(two_ok h'.1 hp ho hpo).2, ob_s, bind_T, up_s, if_neg nlt00, e, ob_s]
    · intro τ τ' _ hI
      have hT := hI.1
      dsimp only
      rw [m_of1 (by omega), ob_s, bind_T, ob_s, m_has1 (by omega), ob_s, (hT.c6 p hp).2.1, p_isOf (by omega)]
      unfold F_Town_addAsked
      rw [t_asked (by omega), bind_T, t_putA (by omega), bind_T, p_con (by omega), if10, if10]
      show ∃ τ2' P2 M2 C2, (obind (if bt (τ (3 + 4) p) o = true then _ else _) _) = _ ∧ _
      have hN : TR (tv (up τ (3 + 4) p (τ (3 + 4) p ||| ((1 : Int32) <<< (nI o &&& 31)))) 3) ((up τ' 334 (15 + 4 * p) (τ (3 + 4) p ||| ((1 : Int32) <<< (nI o &&& 31)))) 334) g P M C := by
        rw [tv_up, mv_up]
        exact hT.asked hp
      cases bt (τ (3 + 4) p) o with
      | true =>
        refine ⟨up τ' 334 (15 + 4 * p) (τ (3 + 4) p ||| ((1 : Int32) <<< (nI o &&& 31))), P, M, C, ?_, hN, by omega, fun q j hq hq2 => up_d (by omega), fun q j hq hq2 => up_d (by omega)⟩
        show some (_, if (0 : Int32) = 0 then (0 : Int32) else 1) = some (_, if (0 : Int32) &&& 1 = 0 then (0 : Int32) else 1)
        rw [if_pos rfl, if_pos (show (0 : Int32) &&& 1 = 0 by decide)]
        rfl
      | false =>
        refine ⟨up τ' 334 (15 + 4 * p) (τ (3 + 4) p ||| ((1 : Int32) <<< (nI o &&& 31))), P, M, C, ?_, hN, by omega, fun q j hq hq2 => up_d (by omega), fun q j hq hq2 => up_d (by omega)⟩
        show some (_, if (1 : Int32) = 0 then (0 : Int32) else 1) = some (_, if (1 : Int32) &&& 1 = 0 then (0 : Int32) else 1)
        rw [if_neg (show ¬ (1 : Int32) = 0 by decide), if_neg (show ¬ (1 : Int32) &&& 1 = 0 by decide)]
        rfl
theorem op8 {σ : Mem} (h : INV i σ) (a1 a2 a3 a4 a5 : Int32) : ∃ σ', S_8 σ a1 a2 a3 a4 a5 = some σ' ∧ INV (i + 1) σ' := by
  obtain ⟨g, P, M, C, h⟩ := h
  obtain ⟨σ', h1, h2⟩ := rw_ok (B := fun σ' => obind (F_M_ask σ' a1 a2) fun z => some (z.1, if z.2 = 0 then 0 else 1)) h (rw8 h a1 a2)
  refine ⟨σ', ?_, h2⟩
  rw [← h1]
  unfold S_8
  congr 1
  funext z1
  cases F_M_ask z1.1 a1 a2 with
  | none => rfl
  | some z =>
    rw [ob_s, ob_s, ob_s]
    dsimp only
    by_cases c : z.2 = 0
    · rw [if_pos c, if_pos c]
    · rw [if_neg c, if_neg c]
theorem rw9 {σ : Mem} (h : INVg i g P M C σ σ) (a1 a2 : Int32) : RW i σ g P M C (H_wed σ a1 a2) (fun σ' => F_M_wed σ' a1 a2) := by
  have hP := h.1.c1.1
  have hM := h.1.c1.2.1
  have hC := h.2.1
  have t10 : σ 3 10 = nI M := h.1.c2.2.1
  rcases two_cases h.1 a1 a2 with h1 | ⟨p, hp, rfl, rfl⟩ | ⟨p, o, hp, ho, hpo, rfl, rfl⟩
  · refine ro_rw (c := 1) (r := 0) (by decide) ?_ fun σ' h' => ?_
    · unfold H_wed F_W_wed
      rw [(two_no h.1 h1).1]; rfl
    · unfold F_M_wed
      rw [(two_no h' h1).2, ob_s, bind_T, up_s, if_neg (by decide), if_pos lt01]
  · refine ro_rw (c := 2) (r := 0) (by decide) ?_ fun σ' h' => ?_
    · unfold H_wed F_W_wed
      rw [(two_eq h.1 hp).1]; rfl
    · unfold F_M_wed
      rw [(two_eq h' hp).2, ob_s, bind_T, up_s, if_neg (by decide), if_pos lt02]
  · have hw : H_wed σ (nI p) (nI o) = obind (if F_Town_isWed σ 3 (nI p) = 0 then (if F_Town_isWed σ 3 (nI o) = 0 then (if σ 3 10 < 20 then obind (F_W_remember σ) fun z7 => bindT (F_Town_addMatch z7 3 (nI p) (nI o) 50) fun z8 => some ((Sum.inr ((z8.1, z8.2)))) else some (Sum.inl ("java/lang/UnsupportedOperationException", σ))) else some (Sum.inl ("java/lang/IllegalStateException", σ))) else some (Sum.inl ("java/lang/IllegalStateException", σ))) (fun z1 => sumE z1 (fun e3 => (if e3.1 = "java/lang/IndexOutOfBoundsException" then some ((e3.2, 1)) else (if e3.1 = "java/lang/IllegalArgumentException" then some ((e3.2, 2)) else (if e3.1 = "java/lang/IllegalStateException" then some ((e3.2, 3)) else (if e3.1 = "java/lang/UnsupportedOperationException" then some ((e3.2, 4)) else none))))) (fun o2 => bindT (up o2.1 346 0 o2.2) fun σ5 => some ((σ5, 0)))) := by
      unfold H_wed F_W_wed
      rw [(two_ok h.1 hp ho hpo).1]
      rfl
    rw [hw, q_wed h.1, q_wed h.1, t10]
    by_cases c1 : sp (tv σ 3) M (nI p) = -1
    · by_cases c2 : sp (tv σ 3) M (nI o) = -1
      · by_cases c3 : M < 20
        · refine rw_change h (Fc := fun τ => F_Town_addMatch τ 3 (nI p) (nI o) 50) (Fm := fun τ' => obind (F_M_comes τ' (nI p) (nI o) 50) fun z19 => some ((z19, ((z19 334 4) - 1)))) ?_ ?_ ?_
          · intro τ e
            rw [if_pos c1, if_pos c2, if_pos rfl, if_pos rfl, if_pos (show nI M < 20 from nI_lt (b := 20) c3 (by omega)), e]
            rfl
          · intro σ' τ' h' e
            have h2 := h'.th (c := 0)
            unfold F_M_wed
            rw [(two_ok h'.1 hp ho hpo).2, ob_s, bind_T, up_s, if_pos rfl, (q_sp h2.1 _).2, ob_s, if_pos c1, (q_sp h2.1 _).2, ob_s, if_pos c2, up_d (by omega), show σ' 334 4 = nI M from h'.1.c3.2.1, if_neg (show ¬ nI M = 20 from fun e => by have := nI_inj (b := 20) (by omega) (by omega) e; omega), bind_T, up_s, if_neg nlt00]
            rw [up_up, e, ob_s]
          · intro τ τ' _ hI
            have hT := hI.1
            unfold F_Town_addMatch F_M_comes
            have t10' : τ 3 10 = nI M := hT.c2.2.1
            have m4 : τ' 334 4 = nI M := hT.c3.2.1
            simp only [bind_T]
            rw [t10', m4]
            rw [show (2 : Int32) * nI M = nI (2 * M) from pk_mul 2 M, t_putB (by omega), nI_1, t_putB (by omega), t_putH (by omega), t_putM (by omega), up_d (by omega), up_d (by omega), up_d (by omega), up_d (by omega), t10']
            rw [m_told0 (by omega), ob_s, m_told1 (by omega), ob_s, m_told2 (by omega), ob_s, m_told3 (by omega), ob_s, m_told4 (by omega), ob_s]
            simp only [ob_s]
            simp (disch := omega) only [up_d]
            rw [m4, up_s, nI_1, nI_pred]
            refine ⟨_, P, M + 1, C, rfl, ?_, by omega, fun q j hq hq2 => ?_, fun q j hq hq2 => ?_⟩
            · refine hT.addMatch (g2 := g) (a := p) (b := o) (n0 := 50) c3 hp ho hpo (by omega) (fun r k hr => ?_) (fun j h1 h2 h3 => ?_) (fun j hj => ?_) ?_ ?_ ?_ ?_ ?_ ?_ ?_ ?_ ?_ ?_ ?_
              · show up _ 3 10 _ (3 + r) k = τ (3 + r) k
                rw [up_d (by omega), up_d (by omega), up_d (by omega), up_d (by omega), up_d (by omega)]
              · rw [up_d (by omega), up_d (by omega), up_d (by omega), up_d (by omega), up_d (by omega), up_d (by omega)]
              · rw [up_d (by omega), up_d (by omega), up_d (by omega), up_d (by omega), up_d (by omega), up_d (by omega)]
                exact hT.c16 j hj
              · show up _ 3 10 _ 3 10 = _
                rw [up_s]
              · show up _ 3 10 _ (3 + 10) (2 * M) = _
                rw [up_d (by omega), up_d (by omega), up_d (by omega), up_d (by omega), up_s]
              · show up _ 3 10 _ (3 + 10) (2 * M + 1) = _
                rw [up_d (by omega), up_d (by omega), up_d (by omega), up_s]
              · show up _ 3 10 _ (3 + 12) M = _
                rw [up_d (by omega), up_d (by omega), up_s]
                rfl
              · show up _ 3 10 _ (3 + 14) M = _
                rw [up_d (by omega), up_s]
              · rw [up_s]
              · rw [up_d (by omega), up_d (by omega), up_d (by omega), up_d (by omega), up_d (by omega), up_s]
              · rw [up_d (by omega), up_d (by omega), up_d (by omega), up_d (by omega), up_s]
              · rw [up_d (by omega), up_d (by omega), up_d (by omega), up_s]
                rfl
              · rw [up_d (by omega), up_d (by omega), up_s]
              · rw [up_d (by omega), up_s]
            · rw [up_d (by omega), up_d (by omega), up_d (by omega), up_d (by omega), up_d (by omega)]
            · rw [up_d (by omega), up_d (by omega), up_d (by omega), up_d (by omega), up_d (by omega), up_d (by omega)]
        · obtain rfl : M = 20 := by omega
          refine ro_rw (c := 4) (r := 0) (by decide) ?_ fun σ' h' => ?_
          · rw [if_pos c1, if_pos c2, if_pos rfl, if_pos rfl, if_neg (show ¬ nI 20 < 20 by decide)]; rfl
          · unfold F_M_wed
            have h2 : TR (tv σ 3) ((up σ' 333 0 0) 334) g P 20 C := h'.keepM (up_r (by omega))
            rw [(two_ok h' hp ho hpo).2, ob_s, bind_T, up_s, if_pos rfl, (q_sp h2 _).2, ob_s, if_pos c1, (q_sp h2 _).2, ob_s, if_pos c2, up_d (by omega), show σ' 334 4 = nI 20 from h'.c3.2.1, if_pos (show nI 20 = 20 by decide), bind_T, up_s, if_pos lt04, up_up]
      · refine ro_rw (c := 3) (r := 0) (by decide) ?_ fun σ' h' => ?_
        · rw [if_pos c1, if_neg c2, if_pos rfl, if_neg (by decide)]; rfl
        · unfold F_M_wed
          have h2 : TR (tv σ 3) ((up σ' 333 0 0) 334) g P M C := h'.keepM (up_r (by omega))
          rw [(two_ok h' hp ho hpo).2, ob_s, bind_T, up_s, if_pos rfl, (q_sp h2 _).2, ob_s, if_pos c1, (q_sp h2 _).2, ob_s, if_neg c2, bind_T, up_s, if_pos lt03, up_up]
    · refine ro_rw (c := 3) (r := 0) (by decide) ?_ fun σ' h' => ?_
      · rw [if_neg c1, if_neg (show ¬ (1 : Int32) = 0 by decide)]; rfl
      · unfold F_M_wed
        have h2 : TR (tv σ 3) ((up σ' 333 0 0) 334) g P M C := h'.keepM (up_r (by omega))
        rw [(two_ok h' hp ho hpo).2, ob_s, bind_T, up_s, if_pos rfl, (q_sp h2 _).2, ob_s, if_neg c1, bind_T, up_s, if_pos lt03, up_up]
theorem op9 {σ : Mem} (h : INV i σ) (a1 a2 a3 a4 a5 : Int32) : ∃ σ', S_9 σ a1 a2 a3 a4 a5 = some σ' ∧ INV (i + 1) σ' := by
  obtain ⟨g, P, M, C, h⟩ := h
  exact rw_ok (B := fun σ' => F_M_wed σ' a1 a2) h (rw9 h a1 a2)
end ASKW

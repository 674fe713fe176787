-- PURE STAGE: the invariant
def LRd (σ : Mem) (w : Nat) (g : Nat → Int32) : Prop := ∃ Λ, CLs σ w Λ ∧ MLs g Λ ∧ σ w 5 = g 1
def TAPE (σ σ' : Mem) : Prop := ∃ n, n ≤ 400 ∧ σ 0 12 = nI n ∧ σ' 333 8 = nI n ∧ ∀ j, j < n → σ 2 j = σ' 338 j ∧ ∃ b, b ≤ 255 ∧ σ 2 j = nI b
def IMG (i : Nat) (σ σ' : Mem) : Prop := σ 0 14 = σ' 333 3 ∧ (σ 0 14 = 0 ∨ (σ 0 14 = 1 ∧ ∃ g P M C, TR (tv σ 28) (σ' 335) g P M C ∧ C ≤ 1200 * i ∧ LRd σ 45 g))
def ACTS (i : Nat) (g : Nat → Int32) (σ σ' : Mem) : Prop := ∃ o A, o < 12 ∧ A ≤ 12 ∧ σ 0 15 = nI o ∧ σ 0 16 = nI A ∧ σ' 333 6 = nI A ∧ ∀ a, a < A → ∃ P M C, TR (tv σ (129 + 17 * ((o + a) % 12))) (fun j => if j < 450 then σ' 337 (450 * a + j) else g j) g P M C ∧ C ≤ 1200 * i
def INVg (i : Nat) (g : Nat → Int32) (P M C : Nat) (σ σ' : Mem) : Prop := TR (tv σ 3) (σ' 334) g P M C ∧ C ≤ 1200 * i ∧ LRd σ 20 g ∧ TAPE σ σ' ∧ σ 0 13 = σ' 333 12 ∧ IMG i σ σ' ∧ ACTS i g σ σ'
def INV (i : Nat) (σ : Mem) : Prop := ∃ g P M C, INVg i g P M C σ σ
def RelC (q : Nat) : Prop := q ≤ 25 ∨ (28 ≤ q ∧ q ≤ 50) ∨ (129 ≤ q ∧ q < 333)
def RelM (q j : Nat) : Prop := (q = 333 ∧ (j = 3 ∨ j = 6 ∨ j = 8 ∨ j = 12)) ∨ (q = 334 ∧ j < 850) ∨ q = 335 ∨ q = 337 ∨ q = 338
theorem LRd.to {σ σ1 : Mem} {w : Nat} {g : Nat → Int32} (h : LRd σ w g) (e : ∀ r, r ≤ 5 → ∀ j, σ1 (w + r) j = σ (w + r) j) : LRd σ1 w g := by
  obtain ⟨Λ, h1, h2, h3⟩ := h
  exact ⟨Λ, h1.to e, h2, (e 0 (by omega) 5).trans h3⟩
theorem TAPE.to {σ σ' σ1 σ1' : Mem} (h : TAPE σ σ') (e1 : ∀ j, σ1 0 j = σ 0 j) (e2 : ∀ j, σ1 2 j = σ 2 j) (e3 : σ1' 333 8 = σ' 333 8) (e4 : ∀ j, σ1' 338 j = σ' 338 j) : TAPE σ1 σ1' := by
  obtain ⟨n, h1, h2, h3, h4⟩ := h
  refine ⟨n, h1, (e1 _).trans h2, e3.trans h3, fun j hj => ?_⟩
  obtain ⟨a, b, c, d⟩ := h4 j hj
  exact ⟨by rw [e2, e4]; exact a, b, c, (e2 j).trans d⟩
theorem TAPE.to2 {σ σ' σ1 σ1' : Mem} (h : TAPE σ σ') (e0 : σ1 0 12 = σ 0 12) (e2 : ∀ j, σ1 2 j = σ 2 j) (e3 : σ1' 333 8 = σ' 333 8) (e4 : ∀ j, σ1' 338 j = σ' 338 j) : TAPE σ1 σ1' := by
  obtain ⟨n, h1, h2, h3, h4⟩ := h
  refine ⟨n, h1, e0.trans h2, e3.trans h3, fun j hj => ?_⟩
  obtain ⟨a, b, c, d⟩ := h4 j hj
  exact ⟨by rw [e2, e4]; exact a, b, c, (e2 j).trans d⟩
theorem TR.keep2 {σ σ' σ1 : Mem} {g f2 : Nat → Int32} {t P M C : Nat} (h : TR (tv σ t) (σ' 334) g P M C) (e : ∀ r, r ≤ 16 → ∀ j, σ1 (t + r) j = σ (t + r) j) (e2 : ∀ j, f2 j = σ' 334 j) : TR (tv σ1 t) f2 g P M C := h.congr (fun r k hr => e r (by omega) k) (fun j _ => e2 j) (fun j hj => (e2 j).trans (h.c16 j hj))
theorem TR.keep3 {σ σ1 : Mem} {g f f2 : Nat → Int32} {t P M C : Nat} (h : TR (tv σ t) f g P M C) (e : ∀ r, r ≤ 16 → ∀ j, σ1 (t + r) j = σ (t + r) j) (e2 : ∀ j, f2 j = f j) : TR (tv σ1 t) f2 g P M C := h.congr (fun r k hr => e r (by omega) k) (fun j _ => e2 j) (fun j hj => (e2 j).trans (h.c16 j hj))
theorem TR.keep4 {σ σ1 : Mem} {g f f2 : Nat → Int32} {t P M C : Nat} (h : TR (tv σ t) f g P M C) (e : ∀ r, r ≤ 16 → ∀ j, σ1 (t + r) j = σ (t + r) j) (e2 : ∀ j, j < 850 → f2 j = f j) : TR (tv σ1 t) f2 g P M C := h.congr (fun r k hr => e r (by omega) k) (fun j hj => e2 j (by omega)) (fun j hj => (e2 j (by omega)).trans (h.c16 j hj))
theorem IMG.to {i i1 : Nat} {σ σ' σ1 σ1' : Mem} (h : IMG i σ σ') (hi : i ≤ i1) (e0 : σ1 0 14 = σ 0 14) (e1 : ∀ q, 28 ≤ q → q ≤ 50 → ∀ j, σ1 q j = σ q j) (e3 : σ1' 333 3 = σ' 333 3) (e4 : ∀ j, σ1' 335 j = σ' 335 j) : IMG i1 σ1 σ1' := by
  obtain ⟨h1, h2⟩ := h
  refine ⟨by rw [e0, e3]; exact h1, ?_⟩
  rw [e0]
  rcases h2 with h2 | ⟨h2, g, P, M, C, h3, h4, h5⟩
  · exact Or.inl h2
  · exact Or.inr ⟨h2, g, P, M, C, h3.keep3 (fun r hr j => e1 _ (by omega) (by omega) j) e4, by omega, h5.to fun r hr j => e1 _ (by omega) (by omega) j⟩
theorem ACTS.to {i i1 : Nat} {g : Nat → Int32} {σ σ' σ1 σ1' : Mem} (h : ACTS i g σ σ') (hi : i ≤ i1) (e0 : σ1 0 15 = σ 0 15 ∧ σ1 0 16 = σ 0 16) (e1 : ∀ q, 129 ≤ q → q < 333 → ∀ j, σ1 q j = σ q j) (e3 : σ1' 333 6 = σ' 333 6) (e4 : ∀ j, σ1' 337 j = σ' 337 j) : ACTS i1 g σ1 σ1' := by
  obtain ⟨o, A, h1, h2, h3, h4, h5, h6⟩ := h
  refine ⟨o, A, h1, h2, e0.1.trans h3, e0.2.trans h4, e3.trans h5, fun a ha => ?_⟩
  obtain ⟨P, M, C, h7, h8⟩ := h6 a ha
  refine ⟨P, M, C, h7.keep3 (fun r hr j => e1 _ (by omega) (by omega) j) (fun j => ?_), by omega⟩
  show (if j < 450 then σ1' 337 (450 * a + j) else g j) = if j < 450 then σ' 337 (450 * a + j) else g j
  rw [e4]
theorem INVg.to {i i1 : Nat} {g : Nat → Int32} {P M C : Nat} {σ σ' σ1 σ1' : Mem} (h : INVg i g P M C σ σ') (hi : i ≤ i1) (hc : ∀ q j, RelC q → σ1 q j = σ q j) (hm : ∀ q j, RelM q j → σ1' q j = σ' q j) : INVg i1 g P M C σ1 σ1' := by
  obtain ⟨h1, h2, h3, h4, h5, h6, h7⟩ := h
  refine ⟨h1.keep4 (fun r hr j => hc _ _ (Or.inl (by omega))) (fun j hj => hm _ _ (by unfold RelM; omega)), by omega, h3.to (fun r hr j => hc _ _ (by unfold RelC; omega)), h4.to (fun j => hc _ _ (by unfold RelC; omega)) (fun j => hc _ _ (by unfold RelC; omega)) (hm _ _ (by unfold RelM; omega)) (fun j => hm _ _ (by unfold RelM; omega)), ?_, h6.to hi (hc _ _ (by unfold RelC; omega)) (fun q h8 h9 j => hc _ _ (by unfold RelC; omega)) (hm _ _ (by unfold RelM; omega)) (fun j => hm _ _ (by unfold RelM; omega)), h7.to hi ⟨hc _ _ (by unfold RelC; omega), hc _ _ (by unfold RelC; omega)⟩ (fun q h8 h9 j => hc _ _ (by unfold RelC; omega)) (hm _ _ (by unfold RelM; omega)) (fun j => hm _ _ (by unfold RelM; omega))⟩
  rw [hc 0 13 (by unfold RelC; omega), hm 333 12 (by unfold RelM; omega)]
  exact h5
theorem INV.to {i : Nat} {σ σ1 : Mem} (h : INV i σ) (hc : ∀ q j, RelC q ∨ RelM q j → σ1 q j = σ q j) : INV (i + 1) σ1 := by
  obtain ⟨g, P, M, C, h1⟩ := h
  exact ⟨g, P, M, C, h1.to (by omega) (fun q j hq => hc q j (Or.inl hq)) (fun q j hq => hc q j (Or.inr hq))⟩
/-- a call that changes nothing that lasts: what the two answer -/
def RO (σ : Mem) (g : Nat → Int32) (P M C : Nat) (A : Option (Mem × Int32)) (B : Mem → Option (Mem × Int32)) : Prop :=
  (∃ c, c ≠ 0 ∧ A = some (σ, c) ∧ ∀ σ' : Mem, TR (tv σ 3) (σ' 334) g P M C → ∃ r, B σ' = some (up σ' 333 0 c, r)) ∨
  ∃ v, A = some (up σ 346 0 v, 0) ∧ ∀ σ' : Mem, TR (tv σ 3) (σ' 334) g P M C → B σ' = some (up σ' 333 0 0, v)
theorem ro_ok {i : Nat} {σ : Mem} {g : Nat → Int32} {P M C : Nat} {A : Option (Mem × Int32)} {B : Mem → Option (Mem × Int32)} (h : INVg i g P M C σ σ) (hr : RO σ g P M C A B) :
    ∃ σ', (obind A fun z1 => obind (B z1.1) fun z2 => (if (F_M_thrown z2.1) = z1.2 then (if z1.2 = 0 then (if (z2.1 346 0) = z2.2 then some z2.1 else none) else some z2.1) else none)) = some σ' ∧ INV (i + 1) σ' := by
  rcases hr with ⟨c, hc, h1, h2⟩ | ⟨v, h1, h2⟩
  · obtain ⟨r, h3⟩ := h2 σ h.1
    refine ⟨up σ 333 0 c, ?_, INV.to ⟨g, P, M, C, h⟩ fun q j hq => up_d (by unfold RelC RelM at hq; omega)⟩
    rw [h1, ob_s, h3, ob_s]
    dsimp only
    rw [if_pos (show F_M_thrown (up σ 333 0 c) = c from up_s), if_neg hc]
  · have h3 := h2 (up σ 346 0 v) (h.1.keepM (up_r (by omega)))
    refine ⟨up (up σ 346 0 v) 333 0 0, ?_, INV.to ⟨g, P, M, C, h⟩ fun q j hq => by unfold RelC RelM at hq; rw [up_d (by omega), up_d (by omega)]⟩
    rw [h1, ob_s, h3, ob_s]
    dsimp only
    rw [if_pos (show F_M_thrown (up (up σ 346 0 v) 333 0 0) = 0 from up_s), if_pos rfl, if_pos (by rw [up_d (by omega), up_s])]
theorem pcase (P : Nat) (v : Int32) : (∃ k, k < P ∧ v = nI k) ∨ ∀ k, k < P → v ≠ nI k := by
  by_cases h : ∃ k, k < P ∧ v = nI k
  · exact Or.inl h
  · exact Or.inr fun k hk e => h ⟨k, hk, e⟩
section OPS
variable {σ σ' : Mem} {g : Nat → Int32} {P M C : Nat}
theorem two_no (h : TR (tv σ 3) (σ' 334) g P M C) {v1 v2 : Int32} (hv : (∀ k, k < P → v1 ≠ nI k) ∨ ∀ k, k < P → v2 ≠ nI k) : F_W_checkTwo σ v1 v2 = .inl "java/lang/IndexOutOfBoundsException" ∧ F_M_two σ' v1 v2 = some 1 := by
  unfold F_W_checkTwo F_W_checkPerson F_M_two
  rcases pcase P v1 with ⟨k, hk, rfl⟩ | h1
  · obtain ⟨a, b⟩ := q_pers h hk
    rcases hv with hv | hv
    · exact absurd rfl (hv k hk)
    · obtain ⟨c, d⟩ := q_nopers h hv
      rw [a, b, c, d]
      exact ⟨rfl, rfl⟩
  · obtain ⟨a, b⟩ := q_nopers h h1
    rw [a, b]
    exact ⟨rfl, rfl⟩
theorem two_eq (h : TR (tv σ 3) (σ' 334) g P M C) {p : Nat} (hp : p < P) : F_W_checkTwo σ (nI p) (nI p) = .inl "java/lang/IllegalArgumentException" ∧ F_M_two σ' (nI p) (nI p) = some 2 := by
  unfold F_W_checkTwo F_W_checkPerson F_M_two
  obtain ⟨a, b⟩ := q_pers h hp
  rw [a, b]
  refine ⟨?_, ?_⟩
  · show (if nI p = nI p then _ else _) = _
    rw [if_pos rfl]
  · show (if nI p = nI p then _ else _) = _
    rw [if_pos rfl]
theorem two_ok (h : TR (tv σ 3) (σ' 334) g P M C) {p o : Nat} (hp : p < P) (ho : o < P) (hpo : p ≠ o) : F_W_checkTwo σ (nI p) (nI o) = .inr () ∧ F_M_two σ' (nI p) (nI o) = some 0 := by
  have hP := h.c1.1
  unfold F_W_checkTwo F_W_checkPerson F_M_two
  obtain ⟨a, b⟩ := q_pers h hp
  obtain ⟨c, d⟩ := q_pers h ho
  have hne : ¬ nI p = nI o := fun e => hpo (nI_inj (by omega) (by omega) e)
  rw [a, b, c, d]
  refine ⟨?_, ?_⟩
  · show (if nI p = nI o then _ else _) = _
    rw [if_neg hne]
  · show (if nI p = nI o then _ else _) = _
    rw [if_neg hne]
theorem two_cases (h : TR (tv σ 3) (σ' 334) g P M C) (v1 v2 : Int32) : ((∀ k, k < P → v1 ≠ nI k) ∨ ∀ k, k < P → v2 ≠ nI k) ∨ (∃ p, p < P ∧ v1 = nI p ∧ v2 = nI p) ∨ ∃ p o, p < P ∧ o < P ∧ p ≠ o ∧ v1 = nI p ∧ v2 = nI o := by
  rcases pcase P v1 with ⟨k, hk, rfl⟩ | h1
  · rcases pcase P v2 with ⟨o, ho, rfl⟩ | h2
    · by_cases e : k = o
      · subst e; exact Or.inr (Or.inl ⟨k, hk, rfl, rfl⟩)
      · exact Or.inr (Or.inr ⟨k, o, hk, ho, e, rfl, rfl⟩)
    · exact Or.inl (Or.inr h2)
  · exact Or.inl (Or.inl h1)
theorem lt01 : (0 : Int32) < 1 := by decide
theorem lt02 : (0 : Int32) < 2 := by decide
theorem lt03 : (0 : Int32) < 3 := by decide
theorem lt04 : (0 : Int32) < 4 := by decide
theorem nlt00 : ¬ (0 : Int32) < 0 := by decide
/-- two people, and something asked of them -/
theorem ro_two (h : TR (tv σ 3) (σ 334) g P M C) {v1 v2 : Int32} {W : Int32} {V : Mem → Int32 → Int32 → Option Int32} (hv : ∀ p o, p < P → o < P → p ≠ o → v1 = nI p → v2 = nI o → ∀ σ' : Mem, TR (tv σ 3) (σ' 334) g P M C → V σ' (nI p) (nI o) = some W) :
    RO σ g P M C (sumE (sumE (F_W_checkTwo σ v1 v2) (fun e2 => (Sum.inl e2 : String ⊕ Int32)) (fun _ => Sum.inr W)) (fun e2 => (if e2 = "java/lang/IndexOutOfBoundsException" then some ((σ, 1)) else (if e2 = "java/lang/IllegalArgumentException" then some ((σ, 2)) else none))) (fun o1 => bindT (up σ 346 0 o1) fun σ4 => some ((σ4, 0))))
      (fun σ' => obind (F_M_two σ' v1 v2) fun z1 => bindT (up σ' 333 0 z1) fun σ2 => (if 0 < (σ2 333 0) then some ((σ2, 0)) else obind (V σ2 v1 v2) fun z4 => some ((σ2, z4)))) := by
  rcases two_cases h v1 v2 with h1 | ⟨p, hp, rfl, rfl⟩ | ⟨p, o, hp, ho, hpo, rfl, rfl⟩
  · refine Or.inl ⟨1, by decide, ?_, fun σ' h' => ?_⟩
    · rw [(two_no h h1).1]; rfl
    · exact ⟨0, by dsimp only; rw [(two_no h' h1).2, ob_s, bind_T, up_s, if_pos lt01]⟩
  · refine Or.inl ⟨2, by decide, ?_, fun σ' h' => ?_⟩
    · rw [(two_eq h hp).1]; rfl
    · exact ⟨0, by dsimp only; rw [(two_eq h' hp).2, ob_s, bind_T, up_s, if_pos lt02]⟩
  · refine Or.inr ⟨W, ?_, fun σ' h' => ?_⟩
    · rw [(two_ok h hp ho hpo).1]; rfl
    · dsimp only
      rw [(two_ok h' hp ho hpo).2, ob_s, bind_T, up_s, if_neg nlt00, hv p o hp ho hpo rfl rfl _ (h'.keepM (up_r (by omega))), ob_s]
/-- a person, and something asked of them -/
theorem ro_one (h : TR (tv σ 3) (σ 334) g P M C) {v1 : Int32} {W : Int32} {V : Mem → Int32 → Option Int32} (hv : ∀ p, p < P → v1 = nI p → ∀ σ' : Mem, TR (tv σ 3) (σ' 334) g P M C → V σ' (nI p) = some W) :
    RO σ g P M C (sumE (sumE (F_W_checkPerson σ v1) (fun e2 => (Sum.inl e2 : String ⊕ Int32)) (fun _ => Sum.inr W)) (fun e2 => (if e2 = "java/lang/IndexOutOfBoundsException" then some ((σ, 1)) else none)) (fun o1 => bindT (up σ 346 0 o1) fun σ4 => some ((σ4, 0))))
      (fun σ' => obind (F_M_isPerson σ' v1) fun z1 => (if z1 = 0 then bindT (up σ' 333 0 1) fun σ6 => (if 0 < (σ6 333 0) then some ((σ6, 0)) else obind (V σ6 v1) fun z8 => some ((σ6, z8))) else bindT (up σ' 333 0 0) fun σ3 => (if 0 < (σ3 333 0) then some ((σ3, 0)) else obind (V σ3 v1) fun z5 => some ((σ3, z5))))) := by
  unfold F_W_checkPerson
  rcases pcase P v1 with ⟨k, hk, rfl⟩ | h1
  · refine Or.inr ⟨W, ?_, fun σ' h' => ?_⟩
    · rw [(q_pers h hk).1]; rfl
    · dsimp only
      rw [(q_pers h' hk).2, ob_s, if_neg (by decide), bind_T, up_s, if_neg nlt00, hv k hk rfl _ (h'.keepM (up_r (by omega))), ob_s]
  · refine Or.inl ⟨1, by decide, ?_, fun σ' h' => ?_⟩
    · rw [(q_nopers h h1).1]; rfl
    · exact ⟨0, by dsimp only; rw [(q_nopers h' h1).2, ob_s, if_pos rfl, bind_T, up_s, if_pos lt01]⟩
end OPS
section OPA
variable {σ σ' : Mem} {g : Nat → Int32} {P M C i : Nat}
theorem op6 (h : INV i σ) (a1 a2 a3 a4 a5 : Int32) : ∃ σ', S_6 σ a1 a2 a3 a4 a5 = some σ' ∧ INV (i + 1) σ' := by
  obtain ⟨g, P, M, C, h⟩ := h
  have hP := h.1.c1.1
  refine ro_ok (B := fun σ' => F_M_liking σ' a1 a2) h (ro_two h.1 (W := F_Town_likingOf σ 3 a1 a2) (V := F_M_likes) fun p o hp ho _ e1 e2 σ' h' => ?_)
  subst e1; subst e2
  rw [m_likes (by omega), t_liking (by omega) (by omega), h'.c10 p o hp ho]
  rfl
theorem op15 (h : INV i σ) (a1 a2 a3 a4 a5 : Int32) : ∃ σ', S_15 σ a1 a2 a3 a4 a5 = some σ' ∧ INV (i + 1) σ' := by
  obtain ⟨g, P, M, C, h⟩ := h
  refine ro_ok (B := fun σ' => F_M_would σ' a1 a2) h (ro_two h.1 (W := F_Town_insurersOfPair σ 3 a1 a2) (V := F_M_insurersOf) fun p o hp ho _ e1 e2 σ' h' => ?_)
  subst e1; subst e2
  rw [(q_ins h' hp ho).1]
  exact (q_ins h' hp ho).2
theorem op4 (h : INV i σ) (a1 a2 a3 a4 a5 : Int32) : ∃ σ', S_4 σ a1 a2 a3 a4 a5 = some σ' ∧ INV (i + 1) σ' := by
  have h0 := h
  obtain ⟨g, P, M, C, h⟩ := h
  refine ⟨up σ 333 0 0, ?_, h0.to fun q j hq => up_d (by unfold RelC RelM at hq; omega)⟩
  unfold S_4 F_M_fault F_W_fault
  simp only [bind_T]
  rw [if_pos]
  rw [up_d (by omega)]
  exact h.2.2.2.2.1
end OPA

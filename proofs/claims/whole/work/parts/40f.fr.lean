-- PURE STAGE: frames
def kM (q j : Nat) (v : Int32) : Mem → Prop := fun m => m q j = v
def kT {X : Type} : X → Prop := fun _ => True
def kP {A B : Type} (K : A → Prop) (L : B → Prop) : A × B → Prop := fun x => K x.1 ∧ L x.2
def kO {X : Type} (K : X → Prop) : Option X → Prop := fun o => ∀ x, o = some x → K x
def kS {A B : Type} (K : A → Prop) (L : B → Prop) : A ⊕ B → Prop := fun z => (∀ a, z = .inl a → K a) ∧ ∀ b, z = .inr b → L b
theorem kp1 {A B : Type} {K : A → Prop} {L : B → Prop} {x : A × B} (h : kP K L x) : K x.1 := h.1
theorem kp2 {A B : Type} {K : A → Prop} {L : B → Prop} {x : A × B} (h : kP K L x) : L x.2 := h.2
theorem k_none {X : Type} {K : X → Prop} : kO K none := fun _ h => by cases h
theorem k_some {X : Type} {K : X → Prop} {x : X} (h : K x) : kO K (some x) := fun y hy => by cases hy; exact h
theorem k_inl {A B : Type} {K : A → Prop} {L : B → Prop} {a : A} (h : K a) : kS K L (.inl a) := ⟨fun y hy => by cases hy; exact h, fun y hy => by cases hy⟩
theorem k_inr {A B : Type} {K : A → Prop} {L : B → Prop} {b : B} (h : L b) : kS K L (.inr b) := ⟨fun y hy => (by cases hy), fun y hy => by cases hy; exact h⟩
theorem k_chk {X : Type} {K : X → Prop} {b : Bool} {o : Option X} (h : kO K o) : kO K (chk b o) := by
  cases b with
  | true => exact h
  | false => exact k_none
theorem k_chkH {X : Type} {K : X → Prop} {b : Bool} {o : Option X} (h : b = true → kO K o) : kO K (chk b o) := by
  cases b with
  | true => exact h rfl
  | false => exact k_none
theorem inb_cl {x : Int32} {n : Nat} (h : inb x n = true) : x.toNatClampNeg < n := by
  have h1 := vp_in_iff.mp (inb_in h)
  have h2 : x.toNatClampNeg = x.toInt.toNat := rfl
  omega
theorem k_ite {X : Type} {K : X → Prop} {c : Prop} {dc : Decidable c} {a b : X} (h1 : c → K a) (h2 : ¬ c → K b) : K (if c then a else b) := by
  by_cases h : c
  · rw [if_pos h]; exact h1 h
  · rw [if_neg h]; exact h2 h
theorem k_pair {A B : Type} {K : A → Prop} {L : B → Prop} {a : A} {b : B} (h1 : K a) (h2 : L b) : kP K L (a, b) := ⟨h1, h2⟩
theorem k_bt {A B : Type} {K : A → Prop} {L : B → Prop} {x : A} {f : A → B} (h1 : K x) (h2 : ∀ x, K x → L (f x)) : L (bindT x f) := h2 x h1
theorem k_btI {A B : Type} {L : B → Prop} {x : A} {f : A → B} (h2 : ∀ x, L (f x)) : L (bindT x f) := h2 x
theorem k_ob {A B : Type} {K : A → Prop} {L : B → Prop} {x : Option A} {f : A → Option B} (h1 : kO K x) (h2 : ∀ x, K x → kO L (f x)) : kO L (obind x f) := by
  cases x with
  | none => exact k_none
  | some a => exact h2 a (h1 a rfl)
theorem k_obI {A B : Type} {L : B → Prop} {x : Option A} {f : A → Option B} (h2 : ∀ x, kO L (f x)) : kO L (obind x f) := by
  cases x with
  | none => exact k_none
  | some a => exact h2 a
theorem k_sum {S R B : Type} {K : S → Prop} {L : R → Prop} {G : B → Prop} {z : S ⊕ R} {a : S → B} {b : R → B} (h : kS K L z) (h1 : ∀ s, K s → G (a s)) (h2 : ∀ r, L r → G (b r)) : G (sumE z a b) := by
  cases z with
  | inl s => exact h1 s (h.1 s rfl)
  | inr r => exact h2 r (h.2 r rfl)
theorem k_sumT {S R B : Type} {G : B → Prop} {z : S ⊕ R} {a : S → B} {b : R → B} (h1 : ∀ s, G (a s)) (h2 : ∀ r, G (b r)) : G (sumE z a b) := by
  cases z with
  | inl s => exact h1 s
  | inr r => exact h2 r
theorem k_up {q j c i : Nat} {v x : Int32} {σ : Mem} (h : q ≠ c ∨ j ≠ i) (hs : kM q j v σ) : kM q j v (up σ c i x) := by
  show up σ c i x q j = v
  unfold up
  rw [if_neg (by omega)]
  exact hs
theorem k_cp {q j s d n : Nat} {v : Int32} {σ : Mem} (h : q ≠ d) (hs : kM q j v σ) : kM q j v (cpM σ s d n) := by
  show cpM σ s d n q j = v
  unfold cpM
  rw [if_neg (by omega)]
  exact hs
theorem k_forS {S : Type} {K : S → Prop} {F : Int32 → S → S} (h : ∀ i s, K s → K (F i s)) : ∀ {n : Nat} {lo : Int32} {s : S}, K s → K (forS F n lo s) := by
  intro n
  induction n with
  | zero => intro lo s hs; exact hs
  | succ n ih => intro lo s hs; exact ih (h _ _ hs)
theorem k_forSO {S : Type} {K : S → Prop} {F : Int32 → S → Option S} (h : ∀ i s, K s → kO K (F i s)) : ∀ {n : Nat} {lo : Int32} {s : S}, K s → kO K (forSO F n lo s) := by
  intro n
  induction n with
  | zero => intro lo s hs; exact k_some hs
  | succ n ih => intro lo s hs; exact k_ob (h _ _ hs) (fun x hx => ih hx)
theorem k_forG {S X : Type} {K : S → Prop} {L : X → Prop} {F : Int32 → S → S ⊕ X} (h : ∀ i s, K s → kS K L (F i s)) : ∀ {n : Nat} {lo : Int32} {s : S}, K s → kS K L (forG F n lo s) := by
  intro n
  induction n with
  | zero => intro lo s hs; exact k_inl hs
  | succ n ih =>
    intro lo s hs
    show kS K L (contG (F lo s) _)
    have h1 := h lo s hs
    cases hf : F lo s with
    | inl s' => exact ih (h1.1 s' hf)
    | inr x => exact k_inr (h1.2 x hf)
theorem k_forGO {S X : Type} {K : S → Prop} {L : X → Prop} {F : Int32 → S → Option (S ⊕ X)} (h : ∀ i s, K s → kO (kS K L) (F i s)) : ∀ {n : Nat} {lo : Int32} {s : S}, K s → kO (kS K L) (forGO F n lo s) := by
  intro n
  induction n with
  | zero => intro lo s hs; exact k_some (k_inl hs)
  | succ n ih =>
    intro lo s hs
    refine k_ob (h lo s hs) (fun y hy => ?_)
    cases y with
    | inl s' => exact ih (hy.1 s' rfl)
    | inr x => exact k_some (k_inr (hy.2 x rfl))
theorem k_whl {S X : Type} {K : S → Prop} {L : X → Prop} {F : S → Option (S ⊕ X)} (h : ∀ s, K s → kO (kS K L) (F s)) : ∀ {n : Nat} {s : S}, K s → kO L (whl F n s) := by
  intro n
  induction n with
  | zero => intro s hs; exact k_none
  | succ n ih =>
    intro s hs
    refine k_ob (h s hs) (fun y hy => ?_)
    cases y with
    | inl s' => exact ih (hy.1 s' rfl)
    | inr x => exact k_some (hy.2 x rfl)
theorem k_mrg {S : Type} {K : S → Prop} {z : S ⊕ S} (h : kS K K z) : K (mrg z) := by
  cases z with
  | inl s => exact h.1 s rfl
  | inr s => exact h.2 s rfl
theorem k_mrg2 {S R : Type} {K : S → Prop} {L : R → Prop} {z : S ⊕ (S ⊕ R)} (h : kS K (kS K L) z) : kS K L (mrg2 z) := by
  cases z with
  | inl s => exact k_inl (h.1 s rfl)
  | inr y => exact h.2 y rfl
theorem k_omap {A B : Type} {K : A → Prop} {L : B → Prop} {g : A → B} {o : Option A} (h : kO K o) (hg : ∀ x, K x → L (g x)) : kO L (omap g o) := by
  cases o with
  | none => exact k_none
  | some a => exact k_some (hg a (h a rfl))
set_option maxRecDepth 10000 in
set_option linter.unusedVariables false in
theorem fr_F_Row_put {q j : Nat} {v : Int32} (σ : Mem) (r : Nat) (rn : Nat) (v1 : Int32) (v2 : Int32) (_c0 : q ≠ r + 1) (h0 : kM q j v σ) : (kM q j v) (F_Row_put σ r rn v1 v2) := by
  unfold F_Row_put
  exact (k_ite (fun _ => h0) (fun _ => (k_ite (fun _ => (k_bt (K := (kM q j v)) (k_up (by omega) h0) (fun σ3 h1 => h1))) (fun _ => h0))))
set_option maxRecDepth 10000 in
set_option linter.unusedVariables false in
theorem fr_F_Row_putAll_2_b {q j : Nat} {v : Int32} (r : Nat) (rn : Nat) (v1 : Int32) (v2 : Int32) (σ : Mem) (_c0 : q ≠ r + 1) (h0 : kM q j v σ) : (kM q j v) (F_Row_putAll_2_b r rn v1 v2 σ) := by
  unfold F_Row_putAll_2_b
  exact (k_bt (K := (kM q j v)) (k_up (by omega) h0) (fun σ2 h1 => h1))
set_option maxRecDepth 10000 in
set_option linter.unusedVariables false in
theorem fr_F_Row_putAll {q j : Nat} {v : Int32} (σ : Mem) (r : Nat) (rn : Nat) (v1 : Int32) (_c0 : q ≠ r + 1) (h0 : kM q j v σ) : (kM q j v) (F_Row_putAll σ r rn v1) := by
  unfold F_Row_putAll
  exact (k_bt (K := (kM q j v)) (k_forS (K := (kM q j v)) (fun i s h2 => (fr_F_Row_putAll_2_b _ _ _ _ _ (by omega) h2)) h0) (fun z4 h1 => h1))
set_option maxRecDepth 10000 in
set_option linter.unusedVariables false in
theorem fr_F_Row_copyAll {q j : Nat} {v : Int32} (σ : Mem) (r : Nat) (rn : Nat) (r1 : Nat) (rn1 : Nat) (_c0 : q ≠ r + 1) (h0 : kM q j v σ) : (kM q j v) (F_Row_copyAll σ r rn r1 rn1) := by
  unfold F_Row_copyAll
  exact (k_bt (K := (kM q j v)) (k_cp (by omega) h0) (fun σ1 h1 => h1))
set_option maxRecDepth 10000 in
set_option linter.unusedVariables false in
theorem fr_F_Town_copyPurses {q j : Nat} {v : Int32} (σ : Mem) (t : Nat) (t1 : Nat) (_c0 : q < t + 0 ∨ t + 2 < q) (h0 : kM q j v σ) : (kM q j v) (F_Town_copyPurses σ t t1) := by
  unfold F_Town_copyPurses
  exact (k_bt (K := (kM q j v)) (fr_F_Row_copyAll _ _ _ _ _ (by omega) h0) (fun z1 h1 => (k_bt (K := (kM q j v)) (k_up (by omega) h1) (fun σ2 h2 => h2))))
set_option maxRecDepth 10000 in
set_option linter.unusedVariables false in
theorem fr_F_Town_copyAll {q j : Nat} {v : Int32} (σ : Mem) (t : Nat) (t1 : Nat) (_c0 : q < t + 0 ∨ t + 16 < q) (h0 : kM q j v σ) : (kM q j v) (F_Town_copyAll σ t t1) := by
  unfold F_Town_copyAll
  exact (k_bt (K := (kM q j v)) (fr_F_Town_copyPurses _ _ _ (by omega) h0) (fun z1 h1 => (k_bt (K := (kM q j v)) (fr_F_Row_copyAll _ _ _ _ _ (by omega) h1) (fun z2 h2 => (k_bt (K := (kM q j v)) (fr_F_Row_copyAll _ _ _ _ _ (by omega) h2) (fun z3 h3 => (k_bt (K := (kM q j v)) (fr_F_Row_copyAll _ _ _ _ _ (by omega) h3) (fun z4 h4 => (k_bt (K := (kM q j v)) (fr_F_Row_copyAll _ _ _ _ _ (by omega) h4) (fun z5 h5 => (k_bt (K := (kM q j v)) (fr_F_Row_copyAll _ _ _ _ _ (by omega) h5) (fun z6 h6 => (k_bt (K := (kM q j v)) (fr_F_Row_copyAll _ _ _ _ _ (by omega) h6) (fun z7 h7 => (k_bt (K := (kM q j v)) (fr_F_Row_copyAll _ _ _ _ _ (by omega) h7) (fun z8 h8 => (k_bt (K := (kM q j v)) (k_up (by omega) h8) (fun σ9 h9 => (k_bt (K := (kM q j v)) (k_up (by omega) h9) (fun σ10 h10 => (k_bt (K := (kM q j v)) (k_up (by omega) h10) (fun σ11 h11 => (k_bt (K := (kM q j v)) (k_up (by omega) h11) (fun σ12 h12 => (k_bt (K := (kM q j v)) (k_up (by omega) h12) (fun σ13 h13 => (k_bt (K := (kM q j v)) (k_up (by omega) h13) (fun σ14 h14 => (k_bt (K := (kM q j v)) (k_up (by omega) h14) (fun σ15 h15 => (k_bt (K := (kM q j v)) (k_up (by omega) h15) (fun σ16 h16 => (k_bt (K := (kM q j v)) (k_up (by omega) h16) (fun σ17 h17 => (k_bt (K := (kM q j v)) (k_up (by omega) h17) (fun σ18 h18 => (k_bt (K := (kM q j v)) (k_up (by omega) h18) (fun σ19 h19 => h19))))))))))))))))))))))))))))))))))))))
set_option maxRecDepth 10000 in
set_option linter.unusedVariables false in
theorem fr_F_Town_addPerson {q j : Nat} {v : Int32} (σ : Mem) (t : Nat) (v1 : Int32) (_c0 : q < t + 0 ∨ t + 6 < q) (h0 : kM q j v σ) : (kM q j v) (F_Town_addPerson σ t v1) := by
  unfold F_Town_addPerson
  exact (k_bt (K := (kM q j v)) (fr_F_Row_put _ _ _ _ _ (by omega) h0) (fun z1 h1 => (k_bt (K := (kM q j v)) (fr_F_Row_put _ _ _ _ _ (by omega) h1) (fun z2 h2 => (k_bt (K := (kM q j v)) (k_up (by omega) h2) (fun σ3 h3 => h3))))))
set_option maxRecDepth 10000 in
set_option linter.unusedVariables false in
theorem fr_F_Town_setLiking {q j : Nat} {v : Int32} (σ : Mem) (t : Nat) (v1 : Int32) (v2 : Int32) (v3 : Int32) (_c0 : q ≠ t + 8) (h0 : kM q j v σ) : (kM q j v) (F_Town_setLiking σ t v1 v2 v3) := by
  unfold F_Town_setLiking
  exact (k_bt (K := (kM q j v)) (fr_F_Row_put _ _ _ _ _ (by omega) h0) (fun z1 h1 => h1))
set_option maxRecDepth 10000 in
set_option linter.unusedVariables false in
theorem fr_F_Town_addAsked {q j : Nat} {v : Int32} (σ : Mem) (t : Nat) (v1 : Int32) (v2 : Int32) (_c0 : q ≠ t + 4) (h0 : kM q j v σ) : (kP (kM q j v) kT) (F_Town_addAsked σ t v1 v2) := by
  unfold F_Town_addAsked
  exact (k_btI (fun x1 => (k_bt (K := (kM q j v)) (fr_F_Row_put _ _ _ _ _ (by omega) h0) (fun z2 h1 => (k_ite (fun _ => (k_pair h1 trivial)) (fun _ => (k_pair h1 trivial)))))))
set_option maxRecDepth 10000 in
set_option linter.unusedVariables false in
theorem fr_F_Town_endMatch {q j : Nat} {v : Int32} (σ : Mem) (t : Nat) (v1 : Int32) (_c0 : q ≠ t + 0) (h0 : kM q j v σ) : (kM q j v) (F_Town_endMatch σ t v1) := by
  unfold F_Town_endMatch
  exact (k_bt (K := (kM q j v)) (k_up (by omega) h0) (fun σ1 h1 => h1))
set_option maxRecDepth 10000 in
set_option linter.unusedVariables false in
theorem fr_F_Town_addMatch {q j : Nat} {v : Int32} (σ : Mem) (t : Nat) (v1 : Int32) (v2 : Int32) (v3 : Int32) (_c0 : q < t + 0 ∨ t + 14 < q) (h0 : kM q j v σ) : (kP (kM q j v) kT) (F_Town_addMatch σ t v1 v2 v3) := by
  unfold F_Town_addMatch
  exact (k_btI (fun x1 => (k_bt (K := (kM q j v)) (fr_F_Row_put _ _ _ _ _ (by omega) h0) (fun z2 h1 => (k_bt (K := (kM q j v)) (fr_F_Row_put _ _ _ _ _ (by omega) h1) (fun z3 h2 => (k_bt (K := (kM q j v)) (fr_F_Row_put _ _ _ _ _ (by omega) h2) (fun z4 h3 => (k_bt (K := (kM q j v)) (fr_F_Row_put _ _ _ _ _ (by omega) h3) (fun z5 h4 => (k_bt (K := (kM q j v)) (k_up (by omega) h4) (fun σ6 h5 => (k_pair h5 trivial)))))))))))))
set_option maxRecDepth 10000 in
set_option linter.unusedVariables false in
theorem fr_F_Town_changeHappy {q j : Nat} {v : Int32} (σ : Mem) (t : Nat) (v1 : Int32) (v2 : Int32) (_c0 : q ≠ t + 12) (h0 : kM q j v σ) : (kP (kM q j v) kT) (F_Town_changeHappy σ t v1 v2) := by
  unfold F_Town_changeHappy
  exact (k_bt (K := (kM q j v)) (fr_F_Row_put _ _ _ _ _ (by omega) h0) (fun z1 h1 => (k_pair h1 trivial)))
set_option maxRecDepth 10000 in
set_option linter.unusedVariables false in
theorem fr_F_Town_lookAt {q j : Nat} {v : Int32} (σ : Mem) (t : Nat) (v1 : Int32) (v2 : Int32) (k3 : Nat) (_c0 : q ≠ k3 + 0) (h0 : kM q j v σ) : (kM q j v) (F_Town_lookAt σ t v1 v2 k3) := by
  unfold F_Town_lookAt
  exact (k_btI (fun x1 => (k_btI (fun x2 => (k_bt (K := (kM q j v)) (k_up (by omega) h0) (fun σ3 h1 => (k_bt (K := (kM q j v)) (k_up (by omega) h1) (fun σ4 h2 => (k_bt (K := (kM q j v)) (k_up (by omega) h2) (fun σ5 h3 => (k_bt (K := (kM q j v)) (k_up (by omega) h3) (fun σ6 h4 => (k_bt (K := (kM q j v)) (k_up (by omega) h4) (fun σ7 h5 => (k_bt (K := (kM q j v)) (k_up (by omega) h5) (fun σ8 h6 => (k_ite (fun _ => (k_bt (K := (kM q j v)) (k_up (by omega) h6) (fun σ11 h7 => h7))) (fun _ => (k_bt (K := (kM q j v)) (k_up (by omega) h6) (fun σ10 h8 => h8))))))))))))))))))))
set_option maxRecDepth 10000 in
set_option linter.unusedVariables false in
theorem fr_F_Town_take {q j : Nat} {v : Int32} (σ : Mem) (t : Nat) (v1 : Int32) (v2 : Int32) (_c0 : q ≠ t + 2) (h0 : kM q j v σ) : (kP (kM q j v) kT) (F_Town_take σ t v1 v2) := by
  unfold F_Town_take
  exact (k_btI (fun x1 => (k_bt (K := (kM q j v)) (fr_F_Row_put _ _ _ _ _ (by omega) h0) (fun z2 h1 => (k_pair h1 trivial)))))
set_option maxRecDepth 10000 in
set_option linter.unusedVariables false in
theorem fr_F_Town_give {q j : Nat} {v : Int32} (σ : Mem) (t : Nat) (v1 : Int32) (v2 : Int32) (_c0 : q ≠ t + 2) (h0 : kM q j v σ) : (kM q j v) (F_Town_give σ t v1 v2) := by
  unfold F_Town_give
  exact (k_bt (K := (kM q j v)) (fr_F_Row_put _ _ _ _ _ (by omega) h0) (fun z1 h1 => h1))
set_option maxRecDepth 10000 in
set_option linter.unusedVariables false in
theorem fr_F_Town_ruinIfShort {q j : Nat} {v : Int32} (σ : Mem) (t : Nat) (v1 : Int32) (v2 : Int32) (_c0 : q ≠ t + 0) (h0 : kM q j v σ) : (kM q j v) (F_Town_ruinIfShort σ t v1 v2) := by
  unfold F_Town_ruinIfShort
  exact (k_ite (fun _ => (k_bt (K := (kM q j v)) (k_up (by omega) h0) (fun σ2 h1 => h1))) (fun _ => h0))
set_option maxRecDepth 10000 in
set_option linter.unusedVariables false in
theorem fr_F_Town_payOut {q j : Nat} {v : Int32} (σ : Mem) (t : Nat) (v1 : Int32) (_c0 : q < t + 0 ∨ t + 2 < q) (h0 : kM q j v σ) : (kP (kM q j v) kT) (F_Town_payOut σ t v1) := by
  unfold F_Town_payOut
  exact (k_btI (fun x1 => (k_ite (fun _ => (k_bt (K := (kM q j v)) (fr_F_Town_ruinIfShort _ _ _ _ (by omega) h0) (fun z3 h1 => (k_bt (K := (kP (kM q j v) kT)) (fr_F_Town_take _ _ _ _ (by omega) h1) (fun z4 h2 => (k_pair (kp1 h2) trivial)))))) (fun _ => (k_ite (fun _ => (k_bt (K := (kM q j v)) (fr_F_Town_ruinIfShort _ _ _ _ (by omega) h0) (fun z8 h3 => (k_bt (K := (kP (kM q j v) kT)) (fr_F_Town_take _ _ _ _ (by omega) h3) (fun z9 h4 => (k_bt (K := (kM q j v)) (fr_F_Town_give _ _ _ _ (by omega) (kp1 h4)) (fun z10 h5 => (k_bt (K := (kM q j v)) (fr_F_Town_ruinIfShort _ _ _ _ (by omega) h5) (fun z11 h6 => (k_bt (K := (kP (kM q j v) kT)) (fr_F_Town_take _ _ _ _ (by omega) h6) (fun z12 h7 => (k_pair (kp1 h7) trivial)))))))))))) (fun _ => (k_bt (K := (kM q j v)) (fr_F_Town_ruinIfShort _ _ _ _ (by omega) h0) (fun z6 h8 => (k_bt (K := (kP (kM q j v) kT)) (fr_F_Town_take _ _ _ _ (by omega) h8) (fun z7 h9 => (k_pair (kp1 h9) trivial)))))))))))
set_option maxRecDepth 10000 in
set_option linter.unusedVariables false in
theorem fr_F_Town_payClaim_11_b {q j : Nat} {v : Int32} (t : Nat) (v1 : Int32) (v2 : Int32) (v3 : Int32) (v4 : Int32) (σ : Mem) (_c0 : q < t + 0 ∨ t + 2 < q) (h0 : kM q j v σ) : (kO (kS (kP kT (kP kT (kM q j v))) (kP kT (kP kT (kM q j v))))) (F_Town_payClaim_11_b t v1 v2 v3 v4 σ) := by
  unfold F_Town_payClaim_11_b
  exact (k_ite (fun _ => (k_ite (fun _ => (k_btI (fun x4 => (k_some (k_inl (k_pair trivial (k_pair trivial h0))))))) (fun _ => (k_bt (K := (kP (kM q j v) kT)) (fr_F_Town_payOut _ _ _ (by omega) h0) (fun z5 h1 => (k_btI (fun x6 => (k_btI (fun x7 => (k_some (k_inl (k_pair trivial (k_pair trivial (kp1 h1)))))))))))))) (fun _ => (k_some (k_inr (k_pair trivial (k_pair trivial h0))))))
set_option maxRecDepth 10000 in
set_option linter.unusedVariables false in
theorem fr_F_Town_payClaim {q j : Nat} {v : Int32} (σ : Mem) (t : Nat) (v1 : Int32) (_c0 : q < t + 0 ∨ t + 2 < q) (h0 : kM q j v σ) : (kO (kP (kM q j v) kT)) (F_Town_payClaim σ t v1) := by
  unfold F_Town_payClaim
  exact (k_btI (fun x1 => (k_ob (K := (kP kT (kP kT (kM q j v)))) (k_whl (K := (kP kT (kP kT (kM q j v)))) (fun s h2 => (fr_F_Town_payClaim_11_b _ _ _ _ _ _ (by omega) (kp2 (kp2 h2)))) (k_pair trivial (k_pair trivial h0))) (fun z8 h1 => (k_bt (K := (kM q j v)) (fr_F_Town_give _ _ _ _ (by omega) (kp2 (kp2 h1))) (fun z9 h3 => (k_bt (K := (kM q j v)) (fr_F_Town_give _ _ _ _ (by omega) h3) (fun z10 h4 => (k_some (k_pair h4 trivial))))))))))
set_option maxRecDepth 10000 in
set_option linter.unusedVariables false in
theorem fr_F_Town_payPremiums_8_b {q j : Nat} {v : Int32} (t : Nat) (v1 : Int32) (v2 : Int32) (v3 : Int32) (σ : Mem) (_c0 : q ≠ t + 2) (h0 : kM q j v σ) : (kO (kS (kP kT (kM q j v)) (kP kT (kM q j v)))) (F_Town_payPremiums_8_b t v1 v2 v3 σ) := by
  unfold F_Town_payPremiums_8_b
  exact (k_ite (fun _ => (k_ite (fun _ => (k_btI (fun x4 => (k_some (k_inl (k_pair trivial h0)))))) (fun _ => (k_bt (K := (kP (kM q j v) kT)) (fr_F_Town_take _ _ _ _ (by omega) h0) (fun z5 h1 => (k_bt (K := (kP (kM q j v) kT)) (fr_F_Town_take _ _ _ _ (by omega) (kp1 h1)) (fun z6 h2 => (k_bt (K := (kM q j v)) (fr_F_Town_give _ _ _ _ (by omega) (kp1 h2)) (fun z7 h3 => (k_btI (fun x8 => (k_some (k_inl (k_pair trivial h3)))))))))))))) (fun _ => (k_some (k_inr (k_pair trivial h0)))))
set_option maxRecDepth 10000 in
set_option linter.unusedVariables false in
theorem fr_F_Town_payPremiums {q j : Nat} {v : Int32} (σ : Mem) (t : Nat) (v1 : Int32) (_c0 : q ≠ t + 2) (h0 : kM q j v σ) : (kO (kM q j v)) (F_Town_payPremiums σ t v1) := by
  unfold F_Town_payPremiums
  exact (k_btI (fun x1 => (k_ob (K := (kP kT (kM q j v))) (k_whl (K := (kP kT (kM q j v))) (fun s h2 => (fr_F_Town_payPremiums_8_b _ _ _ _ _ (by omega) (kp2 h2))) (k_pair trivial h0)) (fun z9 h1 => (k_some (kp2 h1))))))
set_option maxRecDepth 10000 in
set_option linter.unusedVariables false in
theorem fr_F_Town_addToLog {q j : Nat} {v : Int32} (σ : Mem) (t : Nat) (v1 : Int32) (v2 : Int32) (v3 : Int32) (_c0 : q < t + 0 ∨ t + 16 < q) (h0 : kM q j v σ) : (kM q j v) (F_Town_addToLog σ t v1 v2 v3) := by
  unfold F_Town_addToLog
  exact (k_btI (fun x1 => (k_bt (K := (kM q j v)) (fr_F_Row_put _ _ _ _ _ (by omega) h0) (fun z2 h1 => (k_bt (K := (kM q j v)) (fr_F_Row_put _ _ _ _ _ (by omega) h1) (fun z3 h2 => (k_bt (K := (kM q j v)) (fr_F_Row_put _ _ _ _ _ (by omega) h2) (fun z4 h3 => (k_bt (K := (kM q j v)) (fr_F_Row_put _ _ _ _ _ (by omega) h3) (fun z5 h4 => (k_bt (K := (kM q j v)) (k_up (by omega) h4) (fun σ6 h5 => h5))))))))))))
set_option maxRecDepth 10000 in
set_option linter.unusedVariables false in
theorem fr_F_Law_clearLines {q j : Nat} {v : Int32} (σ : Mem) (w : Nat) (_c0 : q ≠ w + 0) (h0 : kM q j v σ) : (kM q j v) (F_Law_clearLines σ w) := by
  unfold F_Law_clearLines
  exact (k_bt (K := (kM q j v)) (k_up (by omega) h0) (fun σ1 h1 => (k_bt (K := (kM q j v)) (k_up (by omega) h1) (fun σ2 h2 => h2))))
set_option maxRecDepth 10000 in
set_option linter.unusedVariables false in
theorem fr_F_Law_addCode {q j : Nat} {v : Int32} (σ : Mem) (w : Nat) (v1 : Int32) (_c0 : q < w + 0 ∨ w + 5 < q) (h0 : kM q j v σ) : (kM q j v) (F_Law_addCode σ w v1) := by
  unfold F_Law_addCode
  exact (k_ite (fun _ => h0) (fun _ => (k_ite (fun _ => (k_bt (K := (kM q j v)) (k_up (by omega) h0) (fun σ3 h1 => (k_bt (K := (kM q j v)) (k_up (by omega) h1) (fun σ4 h2 => h2))))) (fun _ => h0))))
set_option maxRecDepth 10000 in
set_option linter.unusedVariables false in
theorem fr_F_Law_addLine {q j : Nat} {v : Int32} (σ : Mem) (w : Nat) (v1 : Int32) (_c0 : q < w + 0 ∨ w + 4 < q) (h0 : kM q j v σ) : (kM q j v) (F_Law_addLine σ w v1) := by
  unfold F_Law_addLine
  exact (k_bt (K := (kM q j v)) (fr_F_Row_put _ _ _ _ _ (by omega) h0) (fun z1 h1 => (k_bt (K := (kM q j v)) (fr_F_Row_put _ _ _ _ _ (by omega) h1) (fun z2 h2 => (k_bt (K := (kM q j v)) (k_up (by omega) h2) (fun σ3 h3 => h3))))))
set_option maxRecDepth 10000 in
set_option linter.unusedVariables false in
theorem fr_F_Law_copyAll {q j : Nat} {v : Int32} (σ : Mem) (w : Nat) (w1 : Nat) (_c0 : q < w + 0 ∨ w + 5 < q) (h0 : kM q j v σ) : (kM q j v) (F_Law_copyAll σ w w1) := by
  unfold F_Law_copyAll
  exact (k_bt (K := (kM q j v)) (k_up (by omega) h0) (fun σ1 h1 => (k_bt (K := (kM q j v)) (k_up (by omega) h1) (fun σ2 h2 => (k_bt (K := (kM q j v)) (fr_F_Row_copyAll _ _ _ _ _ (by omega) h2) (fun z3 h3 => (k_bt (K := (kM q j v)) (fr_F_Row_copyAll _ _ _ _ _ (by omega) h3) (fun z4 h4 => (k_bt (K := (kM q j v)) (k_cp (by omega) h4) (fun σ5 h5 => h5))))))))))
set_option maxRecDepth 10000 in
set_option linter.unusedVariables false in
theorem fr_F_Look_passTime {q j : Nat} {v : Int32} (σ : Mem) (k : Nat) (_c0 : q ≠ k + 0) (h0 : kM q j v σ) : (kM q j v) (F_Look_passTime σ k) := by
  unfold F_Look_passTime
  exact (k_bt (K := (kM q j v)) (k_up (by omega) h0) (fun σ1 h1 => (k_bt (K := (kM q j v)) (k_up (by omega) h1) (fun σ2 h2 => h2))))
set_option maxRecDepth 10000 in
set_option linter.unusedVariables false in
theorem fr_F_Law_isMet_13_b {q j : Nat} {v : Int32} (w : Nat) (v1 : Int32) (v2 : Int32) (k3 : Nat) (v5 : Int32) (v4 : Int32) (σ : Mem) (_c0 : q ≠ w + 7) (h0 : kM q j v σ) : (kS (kP kT (kM q j v)) (kP kT (kM q j v))) (F_Law_isMet_13_b w v1 v2 k3 v5 v4 σ) := by
  unfold F_Law_isMet_13_b
  exact (k_ite (fun _ => (k_ite (fun _ => (k_bt (K := (kM q j v)) (fr_F_Row_put _ _ _ _ _ (by omega) h0) (fun z6 h1 => (k_btI (fun x7 => (k_inl (k_pair trivial h1))))))) (fun _ => (k_btI (fun x8 => (k_ite (fun _ => (k_bt (K := (kM q j v)) (fr_F_Row_put _ _ _ _ _ (by omega) h0) (fun z14 h2 => (k_btI (fun x15 => (k_inl (k_pair trivial h2))))))) (fun _ => (k_ite (fun _ => (k_bt (K := (kM q j v)) (fr_F_Row_put _ _ _ _ _ (by omega) h0) (fun z13 h3 => (k_inl (k_pair trivial h3))))) (fun _ => (k_btI (fun x11 => (k_bt (K := (kM q j v)) (fr_F_Row_put _ _ _ _ _ (by omega) h0) (fun z12 h4 => (k_inl (k_pair trivial h4))))))))))))))) (fun _ => (k_inr (k_pair trivial h0))))
set_option maxRecDepth 10000 in
set_option linter.unusedVariables false in
theorem fr_F_Law_isMet {q j : Nat} {v : Int32} (σ : Mem) (w : Nat) (v1 : Int32) (v2 : Int32) (k3 : Nat) (_c0 : q ≠ w + 7) (h0 : kM q j v σ) : (kP (kM q j v) kT) (F_Law_isMet σ w v1 v2 k3) := by
  unfold F_Law_isMet
  exact (k_ite (fun _ => (k_bt (K := (kP kT (kM q j v))) (k_mrg (k_forG (K := (kP kT (kM q j v))) (fun i s h2 => (fr_F_Law_isMet_13_b _ _ _ _ _ _ _ (by omega) (kp2 h2))) (k_pair trivial h0))) (fun z17 h1 => (k_ite (fun _ => (k_pair (kp2 h1) trivial)) (fun _ => (k_pair (kp2 h1) trivial)))))) (fun _ => (k_pair h0 trivial)))
set_option maxRecDepth 10000 in
set_option linter.unusedVariables false in
theorem fr_F_Law_turnsBy_25_b {q j : Nat} {v : Int32} (w : Nat) (k1 : Nat) (v2 : Int32) (v3 : Int32) (v4 : Int32) (σ : Mem) (_c0 : q ≠ w + 7) (h0 : kM q j v σ) : (kO (kS (kP kT (kP kT (kP kT (kM q j v)))) (kP kT (kP kT (kP kT (kM q j v)))))) (F_Law_turnsBy_25_b w k1 v2 v3 v4 σ) := by
  unfold F_Law_turnsBy_25_b
  exact (k_ite (fun _ => (k_btI (fun x3 => (k_bt (K := (kP (kM q j v) kT)) (fr_F_Law_isMet _ _ _ _ _ (by omega) h0) (fun z4 h1 => (k_ite (fun _ => (k_btI (fun x6 => (k_some (k_inl (k_pair trivial (k_pair trivial (k_pair trivial (kp1 h1))))))))) (fun _ => (k_btI (fun x7 => (k_btI (fun x8 => (k_some (k_inl (k_pair trivial (k_pair trivial (k_pair trivial (kp1 h1))))))))))))))))) (fun _ => (k_some (k_inr (k_pair trivial (k_pair trivial (k_pair trivial h0)))))))
set_option maxRecDepth 10000 in
set_option linter.unusedVariables false in
theorem fr_F_Law_turnsBy {q j : Nat} {v : Int32} (σ : Mem) (w : Nat) (k1 : Nat) (_c0 : q ≠ w + 7) (h0 : kM q j v σ) : (kO (kP (kM q j v) kT)) (F_Law_turnsBy σ w k1) := by
  unfold F_Law_turnsBy
  exact (k_ite (fun _ => (k_some (k_pair h0 trivial))) (fun _ => (k_ob (K := (kP kT (kP kT (kP kT (kM q j v))))) (k_whl (K := (kP kT (kP kT (kP kT (kM q j v))))) (fun s h2 => (fr_F_Law_turnsBy_25_b _ _ _ _ _ _ (by omega) (kp2 (kp2 (kp2 h2))))) (k_pair trivial (k_pair trivial (k_pair trivial h0)))) (fun z9 h1 => (k_some (k_pair (kp2 (kp2 (kp2 h1))) trivial))))))
set_option maxRecDepth 10000 in
set_option linter.unusedVariables false in
theorem fr_F_Look_happyTurned {q j : Nat} {v : Int32} (σ : Mem) (k : Nat) (w1 : Nat) (_c0 : q ≠ w1 + 7) (h0 : kM q j v σ) : (kO (kP (kM q j v) kT)) (F_Look_happyTurned σ k w1) := by
  unfold F_Look_happyTurned
  exact (k_ob (K := (kP (kM q j v) kT)) (fr_F_Law_turnsBy _ _ _ (by omega) h0) (fun z1 h1 => (k_some (k_pair (kp1 h1) trivial))))
set_option maxRecDepth 10000 in
set_option linter.unusedVariables false in
theorem fr_F_Look_happyBehindMonth {q j : Nat} {v : Int32} (σ : Mem) (k : Nat) (w1 : Nat) (_c0 : q ≠ w1 + 7) (h0 : kM q j v σ) : (kO (kP (kM q j v) kT)) (F_Look_happyBehindMonth σ k w1) := by
  unfold F_Look_happyBehindMonth
  exact (k_ite (fun _ => (k_some (k_pair h0 trivial))) (fun _ => (k_ob (K := (kP (kM q j v) kT)) (fr_F_Look_happyTurned _ _ _ (by omega) h0) (fun z2 h1 => (k_some (k_pair (kp1 h1) trivial))))))
set_option maxRecDepth 10000 in
set_option linter.unusedVariables false in
theorem fr_F_Town_passMatch {q j : Nat} {v : Int32} (σ : Mem) (t : Nat) (v1 : Int32) (w2 : Nat) (k3 : Nat) (_c0 : q ≠ k3 + 0) (_c1 : q < t + 0 ∨ t + 16 < q) (_c2 : q ≠ w2 + 7) (h0 : kM q j v σ) : (kO (kM q j v)) (F_Town_passMatch σ t v1 w2 k3) := by
  unfold F_Town_passMatch
  exact (k_ob (K := (kM q j v)) (fr_F_Town_payPremiums _ _ _ (by omega) h0) (fun z1 h1 => (k_bt (K := (kM q j v)) (fr_F_Town_lookAt _ _ _ _ _ (by omega) h1) (fun z2 h2 => (k_ob (K := (kP (kM q j v) kT)) (fr_F_Look_happyTurned _ _ _ (by omega) h2) (fun z3 h3 => (k_bt (K := (kM q j v)) (fr_F_Row_put _ _ _ _ _ (by omega) (kp1 h3)) (fun z4 h4 => (k_bt (K := (kM q j v)) (fr_F_Row_put _ _ _ _ _ (by omega) h4) (fun z5 h5 => (k_ite (fun _ => (k_btI (fun x9 => (k_ob (K := (kP (kM q j v) kT)) (fr_F_Town_payClaim _ _ _ (by omega) h5) (fun z10 h6 => (k_bt (K := (kM q j v)) (fr_F_Town_addToLog _ _ _ _ _ (by omega) (kp1 h6)) (fun z11 h7 => (k_ite (fun _ => (k_bt (K := (kM q j v)) (fr_F_Town_endMatch _ _ _ (by omega) h7) (fun z13 h8 => (k_some h8)))) (fun _ => (k_some h7)))))))))) (fun _ => (k_ite (fun _ => (k_bt (K := (kM q j v)) (fr_F_Town_endMatch _ _ _ (by omega) h5) (fun z8 h9 => (k_some h9)))) (fun _ => (k_some h5)))))))))))))))
set_option maxRecDepth 10000 in
set_option linter.unusedVariables false in
theorem fr_F_Town_passMonth_35_b {q j : Nat} {v : Int32} (t : Nat) (w1 : Nat) (k2 : Nat) (v3 : Int32) (σ : Mem) (_c0 : q ≠ k2 + 0) (_c1 : q < t + 0 ∨ t + 16 < q) (_c2 : q ≠ w1 + 7) (h0 : kM q j v σ) : (kO (kS (kP kT (kM q j v)) (kP kT (kM q j v)))) (F_Town_passMonth_35_b t w1 k2 v3 σ) := by
  unfold F_Town_passMonth_35_b
  exact (k_ite (fun _ => (k_ite (fun _ => (k_ob (K := (kM q j v)) (fr_F_Town_passMatch _ _ _ _ _ (by omega) (by omega) (by omega) h0) (fun z6 h1 => (k_btI (fun x7 => (k_some (k_inl (k_pair trivial h1)))))))) (fun _ => (k_btI (fun x5 => (k_some (k_inl (k_pair trivial h0)))))))) (fun _ => (k_some (k_inr (k_pair trivial h0)))))
set_option maxRecDepth 10000 in
set_option linter.unusedVariables false in
theorem fr_F_Town_passMonth {q j : Nat} {v : Int32} (σ : Mem) (t : Nat) (w1 : Nat) (k2 : Nat) (_c0 : q ≠ k2 + 0) (_c1 : q < t + 0 ∨ t + 16 < q) (_c2 : q ≠ w1 + 7) (h0 : kM q j v σ) : (kO (kM q j v)) (F_Town_passMonth σ t w1 k2) := by
  unfold F_Town_passMonth
  exact (k_bt (K := (kM q j v)) (k_up (by omega) h0) (fun σ1 h1 => (k_bt (K := (kM q j v)) (k_up (by omega) h1) (fun σ2 h2 => (k_ob (K := (kP kT (kM q j v))) (k_whl (K := (kP kT (kM q j v))) (fun s h4 => (fr_F_Town_passMonth_35_b _ _ _ _ _ (by omega) (by omega) (by omega) (kp2 h4))) (k_pair trivial h2)) (fun z8 h3 => (k_bt (K := (kM q j v)) (k_up (by omega) (kp2 h3)) (fun σ9 h5 => (k_some h5)))))))))
set_option maxRecDepth 10000 in
set_option linter.unusedVariables false in
theorem fr_F_For_turnsNow {q j : Nat} {v : Int32} (σ : Mem) (t1 : Nat) (w2 : Nat) (v3 : Int32) (_c0 : q ≠ 112) (_c1 : q ≠ w2 + 7) (h0 : kM q j v σ) : (kO (kP (kM q j v) kT)) (F_For_turnsNow σ t1 w2 v3) := by
  unfold F_For_turnsNow
  exact (k_bt (K := (kM q j v)) (fr_F_Town_lookAt _ _ _ _ _ (by omega) h0) (fun z1 h1 => (k_ob (K := (kP (kM q j v) kT)) (fr_F_Law_turnsBy _ _ _ (by omega) h1) (fun z2 h2 => (k_some (k_pair (kp1 h2) trivial))))))
set_option maxRecDepth 10000 in
set_option linter.unusedVariables false in
theorem fr_F_For_happyNext {q j : Nat} {v : Int32} (σ : Mem) (t1 : Nat) (w2 : Nat) (v3 : Int32) (v4 : Int32) (_c0 : q ≠ 112) (_c1 : q ≠ w2 + 7) (h0 : kM q j v σ) : (kO (kP (kM q j v) kT)) (F_For_happyNext σ t1 w2 v3 v4) := by
  unfold F_For_happyNext
  exact (k_bt (K := (kM q j v)) (fr_F_Town_lookAt _ _ _ _ _ (by omega) h0) (fun z1 h1 => (k_ob (K := (kP (kM q j v) kT)) (fr_F_Look_happyTurned _ _ _ (by omega) h1) (fun z2 h2 => (k_some (k_pair (kp1 h2) trivial))))))
set_option maxRecDepth 10000 in
set_option linter.unusedVariables false in
theorem fr_F_For_happyAhead_14_b {q j : Nat} {v : Int32} (t1 : Nat) (w2 : Nat) (v3 : Int32) (v4 : Int32) (v5 : Int32) (v6 : Int32) (σ : Mem) (_c0 : q ≠ 112) (_c1 : q ≠ w2 + 7) (h0 : kM q j v σ) : (kO (kM q j v)) (F_For_happyAhead_14_b t1 w2 v3 v4 v5 v6 σ) := by
  unfold F_For_happyAhead_14_b
  exact (k_ob (K := (kP (kM q j v) kT)) (fr_F_Look_happyBehindMonth _ _ _ (by omega) h0) (fun z3 h1 => (k_bt (K := (kM q j v)) (k_up (by omega) (kp1 h1)) (fun σ4 h2 => (k_bt (K := (kM q j v)) (fr_F_Look_passTime _ _ (by omega) h2) (fun z5 h3 => (k_some h3)))))))
set_option maxRecDepth 10000 in
set_option linter.unusedVariables false in
theorem fr_F_For_happyAhead {q j : Nat} {v : Int32} (σ : Mem) (t1 : Nat) (w2 : Nat) (v3 : Int32) (v4 : Int32) (v5 : Int32) (_c0 : q ≠ 112) (_c1 : q ≠ w2 + 7) (h0 : kM q j v σ) : (kO (kP (kM q j v) kT)) (F_For_happyAhead σ t1 w2 v3 v4 v5) := by
  unfold F_For_happyAhead
  exact (k_bt (K := (kM q j v)) (fr_F_Town_lookAt _ _ _ _ _ (by omega) h0) (fun z1 h1 => (k_ob (K := (kM q j v)) (k_forSO (K := (kM q j v)) (fun i s h3 => (fr_F_For_happyAhead_14_b _ _ _ _ _ _ _ (by omega) (by omega) h3)) h1) (fun z7 h2 => (k_some (k_pair h2 trivial))))))
set_option maxRecDepth 10000 in
set_option linter.unusedVariables false in
theorem fr_F_For_firstClaim_14_b {q j : Nat} {v : Int32} (t1 : Nat) (w2 : Nat) (v3 : Int32) (v4 : Int32) (v5 : Int32) (σ : Mem) (_c0 : q ≠ 112) (_c1 : q ≠ w2 + 7) (h0 : kM q j v σ) : (kO (kS (kM q j v) (kP (kM q j v) kT))) (F_For_firstClaim_14_b t1 w2 v3 v4 v5 σ) := by
  unfold F_For_firstClaim_14_b
  exact (k_ob (K := (kP (kM q j v) kT)) (fr_F_Look_happyBehindMonth _ _ _ (by omega) h0) (fun z3 h1 => (k_bt (K := (kM q j v)) (k_up (by omega) (kp1 h1)) (fun σ4 h2 => (k_bt (K := (kM q j v)) (fr_F_Look_passTime _ _ (by omega) h2) (fun z5 h3 => (k_ite (fun _ => (k_some (k_inr (k_pair h3 trivial)))) (fun _ => (k_some (k_inl h3))))))))))
set_option maxRecDepth 10000 in
set_option linter.unusedVariables false in
theorem fr_F_For_firstClaim {q j : Nat} {v : Int32} (σ : Mem) (t1 : Nat) (w2 : Nat) (v3 : Int32) (v4 : Int32) (_c0 : q ≠ 112) (_c1 : q ≠ w2 + 7) (h0 : kM q j v σ) : (kO (kP (kM q j v) kT)) (F_For_firstClaim σ t1 w2 v3 v4) := by
  unfold F_For_firstClaim
  exact (k_bt (K := (kM q j v)) (fr_F_Town_lookAt _ _ _ _ _ (by omega) h0) (fun z1 h1 => (k_ob (K := (kS (kM q j v) (kP (kM q j v) kT))) (k_forGO (K := (kM q j v)) (fun i s h3 => (fr_F_For_firstClaim_14_b _ _ _ _ _ _ (by omega) (by omega) h3)) h1) (fun z8 h2 => (k_sum h2 (fun s9 h4 => (k_some (k_pair h4 trivial))) (fun r10 h5 => (k_some h5)))))))
set_option maxRecDepth 10000 in
set_option linter.unusedVariables false in
theorem fr_F_For_claimQuarrels_16_b {q j : Nat} {v : Int32} (t1 : Nat) (w2 : Nat) (v3 : Int32) (v5 : Int32) (v4 : Int32) (σ : Mem) (_c0 : q ≠ 112) (_c1 : q ≠ w2 + 7) (h0 : kM q j v σ) : (kO (kP kT (kM q j v))) (F_For_claimQuarrels_16_b t1 w2 v3 v5 v4 σ) := by
  unfold F_For_claimQuarrels_16_b
  exact (k_bt (K := (kM q j v)) (k_up (by omega) h0) (fun σ3 h1 => (k_ob (K := (kP (kM q j v) kT)) (fr_F_Look_happyTurned _ _ _ (by omega) h1) (fun z4 h2 => (k_ite (fun _ => (k_btI (fun x6 => (k_some (k_pair trivial (kp1 h2)))))) (fun _ => (k_some (k_pair trivial (kp1 h2)))))))))
set_option maxRecDepth 10000 in
set_option linter.unusedVariables false in
theorem fr_F_For_claimQuarrels {q j : Nat} {v : Int32} (σ : Mem) (t1 : Nat) (w2 : Nat) (v3 : Int32) (_c0 : q ≠ 112) (_c1 : q ≠ w2 + 7) (h0 : kM q j v σ) : (kO (kP (kM q j v) kT)) (F_For_claimQuarrels σ t1 w2 v3) := by
  unfold F_For_claimQuarrels
  exact (k_bt (K := (kM q j v)) (fr_F_Town_lookAt _ _ _ _ _ (by omega) h0) (fun z1 h1 => (k_ob (K := (kP kT (kM q j v))) (k_forSO (K := (kP kT (kM q j v))) (fun i s h3 => (fr_F_For_claimQuarrels_16_b _ _ _ _ _ _ (by omega) (by omega) (kp2 h3))) (k_pair trivial h1)) (fun z8 h2 => (k_some (k_pair (kp2 h2) trivial))))))
set_option maxRecDepth 10000 in
set_option linter.unusedVariables false in
theorem fr_F_For_addGifts_2_b {q j : Nat} {v : Int32} (v1 : Int32) (σ : Mem) (_c0 : q ≠ 114) (h0 : kM q j v σ) : (kM q j v) (F_For_addGifts_2_b v1 σ) := by
  unfold F_For_addGifts_2_b
  exact (k_btI (fun x2 => (k_bt (K := (kM q j v)) (fr_F_Row_put _ _ _ _ _ (by omega) h0) (fun z3 h1 => h1))))
set_option maxRecDepth 10000 in
set_option linter.unusedVariables false in
theorem fr_F_For_addGifts {q j : Nat} {v : Int32} (σ : Mem) (_c0 : q ≠ 114) (h0 : kM q j v σ) : (kM q j v) (F_For_addGifts σ) := by
  unfold F_For_addGifts
  exact (k_bt (K := (kM q j v)) (k_forS (K := (kM q j v)) (fun i s h2 => (fr_F_For_addGifts_2_b _ _ (by omega) h2)) h0) (fun z5 h1 => h1))
set_option maxRecDepth 10000 in
set_option linter.unusedVariables false in
theorem fr_F_For_passCosts_11_b {q j : Nat} {v : Int32} (w1 : Nat) (v2 : Int32) (v3 : Int32) (σ : Mem) (_c0 : q ≠ 112) (_c1 : q ≠ 116) (_c2 : q ≠ w1 + 7) (h0 : kM q j v σ) : (kO (kM q j v)) (F_For_passCosts_11_b w1 v2 v3 σ) := by
  unfold F_For_passCosts_11_b
  exact (k_ite (fun _ => (k_bt (K := (kM q j v)) (k_up (by omega) h0) (fun σ4 h1 => (k_ob (K := (kP (kM q j v) kT)) (fr_F_Look_happyBehindMonth _ _ _ (by omega) h1) (fun z5 h2 => (k_ite (fun _ => (k_some (kp1 h2))) (fun _ => (k_bt (K := (kM q j v)) (fr_F_Row_put _ _ _ _ _ (by omega) (kp1 h2)) (fun z7 h3 => (k_some h3)))))))))) (fun _ => (k_some h0)))
set_option maxRecDepth 10000 in
set_option linter.unusedVariables false in
theorem fr_F_For_passCosts {q j : Nat} {v : Int32} (σ : Mem) (w1 : Nat) (v2 : Int32) (_c0 : q < 112 ∨ 116 < q) (_c1 : q ≠ w1 + 7) (h0 : kM q j v σ) : (kO (kM q j v)) (F_For_passCosts σ w1 v2) := by
  unfold F_For_passCosts
  exact (k_bt (K := (kM q j v)) (fr_F_Row_putAll _ _ _ _ (by omega) h0) (fun z1 h1 => (k_ob (K := (kM q j v)) (k_forSO (K := (kM q j v)) (fun i s h3 => (fr_F_For_passCosts_11_b _ _ _ _ (by omega) (by omega) (by omega) h3)) h1) (fun z9 h2 => (k_bt (K := (kM q j v)) (fr_F_Row_copyAll _ _ _ _ _ (by omega) h2) (fun z10 h4 => (k_bt (K := (kM q j v)) (fr_F_Look_passTime _ _ (by omega) h4) (fun z11 h5 => (k_some h5)))))))))
set_option maxRecDepth 10000 in
set_option linter.unusedVariables false in
theorem fr_F_For_fewestGifts_38_b {q j : Nat} {v : Int32} (t1 : Nat) (w2 : Nat) (v3 : Int32) (v4 : Int32) (v5 : Int32) (v6 : Int32) (σ : Mem) (_c0 : q < 112 ∨ 116 < q) (_c1 : q ≠ w2 + 7) (h0 : kM q j v σ) : (kO (kM q j v)) (F_For_fewestGifts_38_b t1 w2 v3 v4 v5 v6 σ) := by
  unfold F_For_fewestGifts_38_b
  exact (k_bt (K := (kM q j v)) (fr_F_For_addGifts _ (by omega) h0) (fun z5 h1 => (k_ob (K := (kM q j v)) (fr_F_For_passCosts _ _ _ (by omega) (by omega) h1) (fun z6 h2 => (k_some h2)))))
set_option maxRecDepth 10000 in
set_option linter.unusedVariables false in
theorem fr_F_For_fewestGifts {q j : Nat} {v : Int32} (σ : Mem) (t1 : Nat) (w2 : Nat) (v3 : Int32) (v4 : Int32) (v5 : Int32) (_c0 : q < 112 ∨ 116 < q) (_c1 : q ≠ w2 + 7) (h0 : kM q j v σ) : (kO (kP (kM q j v) kT)) (F_For_fewestGifts σ t1 w2 v3 v4 v5) := by
  unfold F_For_fewestGifts
  exact (k_bt (K := (kM q j v)) (fr_F_Town_lookAt _ _ _ _ _ (by omega) h0) (fun z1 h1 => (k_bt (K := (kM q j v)) (fr_F_Row_putAll _ _ _ _ (by omega) h1) (fun z2 h2 => (k_bt (K := (kM q j v)) (fr_F_Row_put _ _ _ _ _ (by omega) h2) (fun z3 h3 => (k_ob (K := (kM q j v)) (k_forSO (K := (kM q j v)) (fun i s h5 => (fr_F_For_fewestGifts_38_b _ _ _ _ _ _ _ (by omega) (by omega) h5)) h3) (fun z8 h4 => (k_btI (fun z12 => (k_ite (fun _ => (k_some (k_pair h4 trivial))) (fun _ => (k_some (k_pair h4 trivial))))))))))))))
set_option maxRecDepth 10000 in
set_option linter.unusedVariables false in
theorem fr_F_For_claimAll_2_b {q j : Nat} {v : Int32} (v1 : Int32) (σ : Mem) (_c0 : q < 95 ∨ 97 < q) (h0 : kM q j v σ) : (kO (kS (kP kT (kM q j v)) (kP kT (kM q j v)))) (F_For_claimAll_2_b v1 σ) := by
  unfold F_For_claimAll_2_b
  exact (k_ite (fun _ => (k_ite (fun _ => (k_ob (K := (kP (kM q j v) kT)) (fr_F_Town_payClaim _ _ _ (by omega) h0) (fun z4 h1 => (k_btI (fun x5 => (k_some (k_inl (k_pair trivial (kp1 h1))))))))) (fun _ => (k_btI (fun x3 => (k_some (k_inl (k_pair trivial h0)))))))) (fun _ => (k_some (k_inr (k_pair trivial h0)))))
set_option maxRecDepth 10000 in
set_option linter.unusedVariables false in
theorem fr_F_For_claimAll {q j : Nat} {v : Int32} (σ : Mem) (_c0 : q < 95 ∨ 97 < q) (h0 : kM q j v σ) : (kO (kM q j v)) (F_For_claimAll σ) := by
  unfold F_For_claimAll
  exact (k_ob (K := (kP kT (kM q j v))) (k_whl (K := (kP kT (kM q j v))) (fun s h2 => (fr_F_For_claimAll_2_b _ _ (by omega) (kp2 h2))) (k_pair trivial h0)) (fun z6 h1 => (k_some (kp2 h1))))
set_option maxRecDepth 10000 in
set_option linter.unusedVariables false in
theorem fr_F_For_fallen {q j : Nat} {v : Int32} (σ : Mem) (t1 : Nat) (_c0 : q < 95 ∨ 111 < q) (h0 : kM q j v σ) : (kO (kP (kM q j v) kT)) (F_For_fallen σ t1) := by
  unfold F_For_fallen
  exact (k_bt (K := (kM q j v)) (fr_F_Town_copyAll _ _ _ (by omega) h0) (fun z1 h1 => (k_ob (K := (kM q j v)) (fr_F_For_claimAll _ (by omega) h1) (fun z2 h2 => (k_some (k_pair h2 trivial))))))
set_option maxRecDepth 10000 in
set_option linter.unusedVariables false in
theorem fr_F_For_lossOf {q j : Nat} {v : Int32} (σ : Mem) (t1 : Nat) (v2 : Int32) (_c0 : q < 95 ∨ 111 < q) (h0 : kM q j v σ) : (kO (kP (kM q j v) kT)) (F_For_lossOf σ t1 v2) := by
  unfold F_For_lossOf
  exact (k_bt (K := (kM q j v)) (fr_F_Town_copyAll _ _ _ (by omega) h0) (fun z1 h1 => (k_ob (K := (kM q j v)) (fr_F_For_claimAll _ (by omega) h1) (fun z2 h2 => (k_some (k_pair h2 trivial))))))
set_option maxRecDepth 10000 in
set_option linter.unusedVariables false in
theorem fr_F_For_leastWealth_18_b {q j : Nat} {v : Int32} (t1 : Nat) (v2 : Int32) (v5 : Int32) (v3 : Int32) (v4 : Int32) (σ : Mem) (_c0 : q < 95 ∨ 97 < q) (h0 : kM q j v σ) : (kO (kS (kP kT (kP kT (kM q j v))) (kP kT (kP kT (kM q j v))))) (F_For_leastWealth_18_b t1 v2 v5 v3 v4 σ) := by
  unfold F_For_leastWealth_18_b
  exact (k_ite (fun _ => (k_btI (fun x4 => (k_bt (K := (kM q j v)) (fr_F_Town_copyPurses _ _ _ (by omega) h0) (fun z5 h1 => (k_bt (K := (kM q j v)) (fr_F_Row_put _ _ _ _ _ (by omega) h1) (fun z6 h2 => (k_ob (K := (kM q j v)) (fr_F_For_claimAll _ (by omega) h2) (fun z7 h3 => (k_ite (fun _ => (k_some (k_inl (k_pair trivial (k_pair trivial h3))))) (fun _ => (k_btI (fun x9 => (k_some (k_inl (k_pair trivial (k_pair trivial h3))))))))))))))))) (fun _ => (k_some (k_inr (k_pair trivial (k_pair trivial h0))))))
set_option maxRecDepth 10000 in
set_option linter.unusedVariables false in
theorem fr_F_For_leastWealth {q j : Nat} {v : Int32} (σ : Mem) (t1 : Nat) (v2 : Int32) (_c0 : q < 95 ∨ 111 < q) (h0 : kM q j v σ) : (kO (kP (kM q j v) kT)) (F_For_leastWealth σ t1 v2) := by
  unfold F_For_leastWealth
  exact (k_bt (K := (kM q j v)) (fr_F_Town_copyAll _ _ _ (by omega) h0) (fun z1 h1 => (k_ob (K := (kP kT (kP kT (kM q j v)))) (k_omap (K := (kS (kP kT (kP kT (kM q j v))) (kP kT (kP kT (kM q j v))))) (k_forGO (K := (kP kT (kP kT (kM q j v)))) (fun i s h3 => (fr_F_For_leastWealth_18_b _ _ _ _ _ _ (by omega) (kp2 (kp2 h3)))) (k_pair trivial (k_pair trivial h1))) (fun _ h => k_mrg h)) (fun z11 h2 => (k_ite (fun _ => (k_some (k_pair (kp2 (kp2 h2)) trivial))) (fun _ => (k_some (k_pair (kp2 (kp2 h2)) trivial))))))))
set_option maxRecDepth 10000 in
set_option linter.unusedVariables false in
theorem fr_F_For_tryMonths_20_b {q j : Nat} {v : Int32} (t1 : Nat) (w2 : Nat) (v3 : Int32) (v4 : Int32) (v5 : Int32) (σ : Mem) (_c0 : q < 95 ∨ 112 < q) (_c1 : q ≠ w2 + 7) (h0 : kM q j v σ) : (kO (kM q j v)) (F_For_tryMonths_20_b t1 w2 v3 v4 v5 σ) := by
  unfold F_For_tryMonths_20_b
  exact (k_ob (K := (kM q j v)) (fr_F_Town_passMonth _ _ _ _ (by omega) (by omega) (by omega) h0) (fun z4 h1 => (k_some h1)))
set_option maxRecDepth 10000 in
set_option linter.unusedVariables false in
theorem fr_F_For_tryMonths {q j : Nat} {v : Int32} (σ : Mem) (t1 : Nat) (w2 : Nat) (v3 : Int32) (v4 : Int32) (_c0 : q < 95 ∨ 112 < q) (_c1 : q ≠ w2 + 7) (h0 : kM q j v σ) : (kO (kP (kM q j v) kT)) (F_For_tryMonths σ t1 w2 v3 v4) := by
  unfold F_For_tryMonths
  exact (k_bt (K := (kM q j v)) (fr_F_Town_copyAll _ _ _ (by omega) h0) (fun z1 h1 => (k_bt (K := (kM q j v)) (k_up (by omega) h1) (fun σ2 h2 => (k_ob (K := (kM q j v)) (k_forSO (K := (kM q j v)) (fun i s h4 => (fr_F_For_tryMonths_20_b _ _ _ _ _ _ (by omega) (by omega) h4)) h2) (fun z6 h3 => (k_some (k_pair h3 trivial))))))))
set_option maxRecDepth 10000 in
set_option linter.unusedVariables false in
theorem fr_F_Told_reads_27_b {q j : Nat} {v : Int32} (r1 : Nat) (rn1 : Nat) (v2 : Int32) (v3 : Int32) (v4 : Int32) (σ : Mem) (_c0 : q < 122 ∨ 126 < q) (h0 : kM q j v σ) : (kO (kS (kP kT (kM q j v)) (kS (kP kT (kM q j v)) (kP (kM q j v) kT)))) (F_Told_reads_27_b r1 rn1 v2 v3 v4 σ) := by
  unfold F_Told_reads_27_b
  exact (k_ite (fun _ => (k_btI (fun x6 => (k_btI (fun x7 => (k_ite (fun _ => (k_some (k_inr (k_inr (k_pair h0 trivial))))) (fun _ => (k_ite (fun _ => (k_bt (K := (kM q j v)) (fr_F_Row_put _ _ _ _ _ (by omega) h0) (fun z10 h1 => (k_bt (K := (kM q j v)) (fr_F_Row_put _ _ _ _ _ (by omega) h1) (fun z11 h2 => (k_bt (K := (kM q j v)) (k_up (by omega) h2) (fun σ12 h3 => (k_btI (fun x13 => (k_some (k_inl (k_pair trivial h3)))))))))))) (fun _ => (k_some (k_inr (k_inr (k_pair h0 trivial))))))))))))) (fun _ => (k_some (k_inr (k_inl (k_pair trivial h0))))))
set_option maxRecDepth 10000 in
set_option linter.unusedVariables false in
theorem fr_F_Told_reads {q j : Nat} {v : Int32} (σ : Mem) (r1 : Nat) (rn1 : Nat) (v2 : Int32) (v3 : Int32) (_c0 : q < 122 ∨ 126 < q) (h0 : kM q j v σ) : (kO (kP (kM q j v) kT)) (F_Told_reads σ r1 rn1 v2 v3) := by
  unfold F_Told_reads
  exact (k_bt (K := (kM q j v)) (k_up (by omega) h0) (fun σ1 h1 => (k_bt (K := (kM q j v)) (k_up (by omega) h1) (fun σ2 h2 => (k_ite (fun _ => (k_some (k_pair h2 trivial))) (fun _ => (k_ite (fun _ => (k_ob (K := (kS (kP kT (kM q j v)) (kP (kM q j v) kT))) (k_whl (K := (kP kT (kM q j v))) (fun s h4 => (fr_F_Told_reads_27_b _ _ _ _ _ _ (by omega) (kp2 h4))) (k_pair trivial h2)) (fun z14 h3 => (k_sum h3 (fun s15 h5 => (k_some (k_pair (kp2 h5) trivial))) (fun r16 h6 => (k_some h6)))))) (fun _ => (k_some (k_pair h2 trivial))))))))))
set_option maxRecDepth 10000 in
set_option linter.unusedVariables false in
theorem fr_F_Told_addMembers_2_b {q j : Nat} {v : Int32} (v1 : Int32) (v2 : Int32) (σ : Mem) (_c0 : q ≠ 128) (h0 : kM q j v σ) : (kO (kS (kP kT (kM q j v)) (kP kT (kM q j v)))) (F_Told_addMembers_2_b v1 v2 σ) := by
  unfold F_Told_addMembers_2_b
  exact (k_ite (fun _ => (k_ite (fun _ => (k_btI (fun x3 => (k_some (k_inl (k_pair trivial h0)))))) (fun _ => (k_bt (K := (kM q j v)) (fr_F_Row_put _ _ _ _ _ (by omega) h0) (fun z4 h1 => (k_btI (fun x5 => (k_some (k_inl (k_pair trivial h1)))))))))) (fun _ => (k_some (k_inr (k_pair trivial h0)))))
set_option maxRecDepth 10000 in
set_option linter.unusedVariables false in
theorem fr_F_Told_addMembers {q j : Nat} {v : Int32} (σ : Mem) (v1 : Int32) (_c0 : q ≠ 128) (h0 : kM q j v σ) : (kO (kM q j v)) (F_Told_addMembers σ v1) := by
  unfold F_Told_addMembers
  exact (k_ob (K := (kP kT (kM q j v))) (k_whl (K := (kP kT (kM q j v))) (fun s h2 => (fr_F_Told_addMembers_2_b _ _ _ (by omega) (kp2 h2))) (k_pair trivial h0)) (fun z6 h1 => (k_some (kp2 h1))))
set_option maxRecDepth 10000 in
set_option linter.unusedVariables false in
theorem fr_F_Told_fitting_12_b {q j : Nat} {v : Int32} (v1 : Int32) (v2 : Int32) (σ : Mem) (_c0 : q ≠ 128) (h0 : kM q j v σ) : (kO (kS (kP kT (kP kT (kM q j v))) (kP kT (kP kT (kM q j v))))) (F_Told_fitting_12_b v1 v2 σ) := by
  unfold F_Told_fitting_12_b
  exact (k_ite (fun _ => (k_ite (fun _ => (k_btI (fun x4 => (k_some (k_inl (k_pair trivial (k_pair trivial h0))))))) (fun _ => (k_btI (fun x5 => (k_ob (K := (kM q j v)) (fr_F_Told_addMembers _ _ (by omega) h0) (fun z6 h1 => (k_btI (fun x7 => (k_some (k_inl (k_pair trivial (k_pair trivial h1))))))))))))) (fun _ => (k_some (k_inr (k_pair trivial (k_pair trivial h0))))))
set_option maxRecDepth 10000 in
set_option linter.unusedVariables false in
theorem fr_F_Told_fitting {q j : Nat} {v : Int32} (σ : Mem) (_c0 : q ≠ 128) (h0 : kM q j v σ) : (kO (kP (kM q j v) kT)) (F_Told_fitting σ) := by
  unfold F_Told_fitting
  exact (k_bt (K := (kM q j v)) (fr_F_Row_putAll _ _ _ _ (by omega) h0) (fun z1 h1 => (k_ob (K := (kP kT (kP kT (kM q j v)))) (k_whl (K := (kP kT (kP kT (kM q j v)))) (fun s h3 => (fr_F_Told_fitting_12_b _ _ _ (by omega) (kp2 (kp2 h3)))) (k_pair trivial (k_pair trivial h1))) (fun z8 h2 => (k_some (k_pair (kp2 (kp2 h2)) trivial))))))
set_option maxRecDepth 10000 in
set_option linter.unusedVariables false in
theorem fr_F_Told_inAll {q j : Nat} {v : Int32} (σ : Mem) (_c0 : q ≠ 128) (h0 : kM q j v σ) : (kO (kP (kM q j v) kT)) (F_Told_inAll σ) := by
  unfold F_Told_inAll
  exact (k_ob (K := (kP (kM q j v) kT)) (fr_F_Told_fitting _ (by omega) h0) (fun z1 h1 => (k_btI (fun z7 => (k_some (k_pair (kp1 h1) trivial))))))
set_option maxRecDepth 10000 in
set_option linter.unusedVariables false in
theorem fr_F_Told_bestParter {q j : Nat} {v : Int32} (σ : Mem) (_c0 : q ≠ 128) (h0 : kM q j v σ) : (kO (kP (kM q j v) kT)) (F_Told_bestParter σ) := by
  unfold F_Told_bestParter
  exact (k_ob (K := (kP (kM q j v) kT)) (fr_F_Told_fitting _ (by omega) h0) (fun z1 h1 => (k_btI (fun z9 => (k_some (k_pair (kp1 h1) trivial))))))
set_option maxRecDepth 10000 in
set_option linter.unusedVariables false in
theorem fr_F_Prs_countIfSteady_14_b {q j : Nat} {v : Int32} (σ : Mem) (t1 : Nat) (v2 : Int32) (v3 : Int32) (h0 : kM q j v σ) : (kS kT (kM q j v)) (F_Prs_countIfSteady_14_b σ t1 v2 v3) := by
  unfold F_Prs_countIfSteady_14_b
  exact (k_ite (fun _ => (k_inl trivial)) (fun _ => (k_ite (fun _ => (k_inl trivial)) (fun _ => (k_inr h0)))))
set_option maxRecDepth 10000 in
set_option linter.unusedVariables false in
theorem fr_F_Prs_countIfSteady_2_b {q j : Nat} {v : Int32} (σ : Mem) (t1 : Nat) (v2 : Int32) (h0 : kM q j v σ) : (kS kT (kM q j v)) (F_Prs_countIfSteady_2_b σ t1 v2) := by
  unfold F_Prs_countIfSteady_2_b
  exact (k_btI (fun x2 => (k_bt (K := (kS kT (kM q j v))) (k_forG (K := kT) (fun i s h2 => (fr_F_Prs_countIfSteady_14_b _ _ _ _ h0)) trivial) (fun z7 h1 => (k_sum h1 (fun s8 h3 => (k_inl trivial)) (fun r9 h4 => (k_inr h4)))))))
set_option maxRecDepth 10000 in
set_option linter.unusedVariables false in
theorem fr_F_Prs_countIfSteady {q j : Nat} {v : Int32} (σ : Mem) (t1 : Nat) (_c0 : q ≠ 117) (_c1 : q ≠ 121) (h0 : kM q j v σ) : (kM q j v) (F_Prs_countIfSteady σ t1) := by
  unfold F_Prs_countIfSteady
  exact (k_bt (K := (kS kT (kM q j v))) (k_forG (K := kT) (fun i s h2 => (fr_F_Prs_countIfSteady_2_b _ _ _ h0)) trivial) (fun z11 h1 => (k_sum h1 (fun s12 h3 => (k_ite (fun _ => (k_bt (K := (kM q j v)) (fr_F_Row_copyAll _ _ _ _ _ (by omega) h0) (fun z16 h5 => (k_bt (K := (kM q j v)) (k_up (by omega) h5) (fun σ17 h6 => h6))))) (fun _ => (k_bt (K := (kM q j v)) (k_up (by omega) h0) (fun σ15 h7 => h7))))) (fun r13 h4 => h4))))
set_option maxRecDepth 10000 in
set_option linter.unusedVariables false in
theorem fr_F_Text_advance {q j : Nat} {v : Int32} (σ : Mem) (t : Nat) (_c0 : q ≠ t + 0) (h0 : kM q j v σ) : (kO (kM q j v)) (F_Text_advance σ t) := by
  unfold F_Text_advance
  exact (k_bt (K := (kM q j v)) (k_up (by omega) h0) (fun σ1 h1 => (k_bt (K := (kM q j v)) (k_up (by omega) h1) (fun σ2 h2 => (k_bt (K := (kM q j v)) (k_up (by omega) h2) (fun σ3 h3 => (k_bt (K := (kM q j v)) (k_up (by omega) h3) (fun σ4 h4 => (k_bt (K := (kM q j v)) (k_up (by omega) h4) (fun σ5 h5 => (k_ite (fun _ => (k_some h5)) (fun _ => (k_ite (fun _ => (k_ite (fun _ => (k_ite (fun _ => (k_ite (fun _ => (k_ite (fun _ => (k_ite (fun _ => (k_some h5)) (fun _ => (k_bt (K := (kM q j v)) (k_up (by omega) h5) (fun σ13 h6 => (k_btI (fun i14 => (k_chk (k_bt (K := (kM q j v)) (k_up (by omega) h6) (fun σ16 h7 => (k_btI (fun i17 => (k_chk (k_bt (K := (kM q j v)) (k_up (by omega) h7) (fun σ19 h8 => (k_btI (fun i20 => (k_chk (k_bt (K := (kM q j v)) (k_up (by omega) h8) (fun σ22 h9 => (k_some h9))))))))))))))))))))) (fun _ => (k_some h5)))) (fun _ => (k_some h5)))) (fun _ => (k_some h5)))) (fun _ => (k_some h5)))) (fun _ => (k_some h5)))))))))))))))
set_option maxRecDepth 10000 in
set_option linter.unusedVariables false in
theorem fr_F_Text_refuse {q j : Nat} {v : Int32} (σ : Mem) (t : Nat) (_c0 : q ≠ t + 0) (h0 : kM q j v σ) : (kP (kM q j v) kT) (F_Text_refuse σ t) := by
  unfold F_Text_refuse
  exact (k_bt (K := (kM q j v)) (k_up (by omega) h0) (fun σ1 h1 => (k_pair h1 trivial)))
set_option maxRecDepth 10000 in
set_option linter.unusedVariables false in
theorem fr_F_Text_takes {q j : Nat} {v : Int32} (σ : Mem) (t : Nat) (v1 : Int32) (_c0 : q ≠ t + 0) (h0 : kM q j v σ) : (kO (kP (kM q j v) kT)) (F_Text_takes σ t v1) := by
  unfold F_Text_takes
  exact (k_chk (k_chk (k_ite (fun _ => (k_ob (K := (kM q j v)) (fr_F_Text_advance _ _ (by omega) h0) (fun z4 h1 => (k_some (k_pair h1 trivial))))) (fun _ => (k_some (k_pair h0 trivial))))))
set_option maxRecDepth 10000 in
set_option linter.unusedVariables false in
theorem fr_F_Text_needs {q j : Nat} {v : Int32} (σ : Mem) (t : Nat) (v1 : Int32) (_c0 : q ≠ t + 0) (h0 : kM q j v σ) : (kO (kP (kM q j v) kT)) (F_Text_needs σ t v1) := by
  unfold F_Text_needs
  exact (k_chk (k_chk (k_ite (fun _ => (k_ob (K := (kM q j v)) (fr_F_Text_advance _ _ (by omega) h0) (fun z4 h1 => (k_some (k_pair h1 trivial))))) (fun _ => (k_bt (K := (kP (kM q j v) kT)) (fr_F_Text_refuse _ _ (by omega) h0) (fun z5 h2 => (k_some (k_pair (kp1 h2) trivial))))))))
set_option maxRecDepth 10000 in
set_option linter.unusedVariables false in
theorem fr_F_Text_takeNumber {q j : Nat} {v : Int32} (σ : Mem) (t : Nat) (v1 : Int32) (_c0 : q ≠ t + 0) (h0 : kM q j v σ) : (kO (kP (kM q j v) kT)) (F_Text_takeNumber σ t v1) := by
  unfold F_Text_takeNumber
  exact (k_btI (fun x1 => (k_ite (fun _ => (k_bt (K := (kP (kM q j v) kT)) (fr_F_Text_refuse _ _ (by omega) h0) (fun z3 h1 => (k_some (k_pair (kp1 h1) trivial))))) (fun _ => (k_ite (fun _ => (k_bt (K := (kP (kM q j v) kT)) (fr_F_Text_refuse _ _ (by omega) h0) (fun z6 h2 => (k_some (k_pair (kp1 h2) trivial))))) (fun _ => (k_ob (K := (kM q j v)) (fr_F_Text_advance _ _ (by omega) h0) (fun z5 h3 => (k_some (k_pair h3 trivial))))))))))
set_option maxRecDepth 10000 in
set_option linter.unusedVariables false in
theorem fr_F_Text_addThing {q j : Nat} {v : Int32} (σ : Mem) (t : Nat) (v1 : Int32) (v2 : Int32) (_c0 : q < t + 0 ∨ t + 6 < q) (h0 : kM q j v σ) : (kO (kM q j v)) (F_Text_addThing σ t v1 v2) := by
  unfold F_Text_addThing
  exact (k_ite (fun _ => (k_some h0)) (fun _ => (k_ite (fun _ => (k_ite (fun _ => (k_ite (fun _ => (k_ite (fun _ => (k_btI (fun x6 => (k_ite (fun _ => (k_obI (fun z8 => (k_chk (k_bt (K := (kM q j v)) (k_up (by omega) h0) (fun σ10 h1 => (k_btI (fun i11 => (k_chk (k_bt (K := (kM q j v)) (k_up (by omega) h1) (fun σ13 h2 => (k_btI (fun i14 => (k_chk (k_bt (K := (kM q j v)) (k_up (by omega) h2) (fun σ16 h3 => (k_ite (fun _ => (k_btI (fun i18 => (k_chk (k_bt (K := (kM q j v)) (k_up (by omega) h3) (fun σ20 h4 => (k_bt (K := (kM q j v)) (k_up (by omega) h4) (fun σ21 h5 => (k_some h5))))))))) (fun _ => (k_btI (fun i22 => (k_chk (k_bt (K := (kM q j v)) (k_up (by omega) h3) (fun σ24 h6 => (k_bt (K := (kM q j v)) (k_up (by omega) h6) (fun σ25 h7 => (k_some h7)))))))))))))))))))))))))) (fun _ => (k_bt (K := (kM q j v)) (k_up (by omega) h0) (fun σ26 h8 => (k_btI (fun i27 => (k_chk (k_bt (K := (kM q j v)) (k_up (by omega) h8) (fun σ29 h9 => (k_btI (fun i30 => (k_chk (k_bt (K := (kM q j v)) (k_up (by omega) h9) (fun σ32 h10 => (k_ite (fun _ => (k_btI (fun i34 => (k_chk (k_bt (K := (kM q j v)) (k_up (by omega) h10) (fun σ36 h11 => (k_bt (K := (kM q j v)) (k_up (by omega) h11) (fun σ37 h12 => (k_some h12))))))))) (fun _ => (k_btI (fun i38 => (k_chk (k_bt (K := (kM q j v)) (k_up (by omega) h10) (fun σ40 h13 => (k_bt (K := (kM q j v)) (k_up (by omega) h13) (fun σ41 h14 => (k_some h14))))))))))))))))))))))))))) (fun _ => (k_some h0)))) (fun _ => (k_some h0)))) (fun _ => (k_some h0)))) (fun _ => (k_some h0)))))
set_option maxRecDepth 10000 in
set_option linter.unusedVariables false in
theorem fr_F_Text_cut_9_b {q j : Nat} {v : Int32} (t : Nat) (v2 : Int32) (v1 : Int32) (σ : Mem) (_c0 : q < t + 0 ∨ t + 6 < q) (h0 : kM q j v σ) : (kO (kS (kP kT (kM q j v)) (kP kT (kM q j v)))) (F_Text_cut_9_b t v2 v1 σ) := by
  unfold F_Text_cut_9_b
  exact (k_ite (fun _ => (k_obI (fun z4 => (k_ite (fun _ => (k_some (k_inl (k_pair trivial h0)))) (fun _ => (k_ob (K := (kM q j v)) (fr_F_Text_addThing _ _ _ _ (by omega) h0) (fun z6 h1 => (k_some (k_inl (k_pair trivial h1)))))))))) (fun _ => (k_some (k_inr (k_pair trivial h0)))))
set_option maxRecDepth 10000 in
set_option linter.unusedVariables false in
theorem fr_F_Text_cut {q j : Nat} {v : Int32} (σ : Mem) (t : Nat) (_c0 : q < t + 0 ∨ t + 6 < q) (h0 : kM q j v σ) : (kO (kM q j v)) (F_Text_cut σ t) := by
  unfold F_Text_cut
  exact (k_bt (K := (kM q j v)) (k_up (by omega) h0) (fun σ1 h1 => (k_ob (K := (kP kT (kM q j v))) (k_omap (K := (kS (kP kT (kM q j v)) (kP kT (kM q j v)))) (k_forGO (K := (kP kT (kM q j v))) (fun i s h3 => (fr_F_Text_cut_9_b _ _ _ _ (by omega) (kp2 h3))) (k_pair trivial h1)) (fun _ h => k_mrg h)) (fun z8 h2 => (k_some (kp2 h2))))))
set_option maxRecDepth 10000 in
set_option linter.unusedVariables false in
theorem fr_F_LTx_readsSum_2_b {q j : Nat} {v : Int32} (v1 : Int32) (σ : Mem) (_c0 : q ≠ 78) (_c1 : q < 85 ∨ 90 < q) (h0 : kM q j v σ) : (kO (kS (kM q j v) (kP (kM q j v) kT))) (F_LTx_readsSum_2_b v1 σ) := by
  unfold F_LTx_readsSum_2_b
  exact (k_ite (fun _ => (k_chk (k_ite (fun _ => (k_bt (K := (kP (kM q j v) kT)) (fr_F_Text_refuse _ _ (by omega) h0) (fun z18 h1 => (k_some (k_inr (k_pair (kp1 h1) trivial)))))) (fun _ => (k_bt (K := (kM q j v)) (fr_F_Law_addCode _ _ _ (by omega) h0) (fun z7 h2 => (k_ite (fun _ => (k_bt (K := (kM q j v)) (fr_F_Law_addCode _ _ _ (by omega) h2) (fun z13 h3 => (k_ob (K := (kM q j v)) (fr_F_Text_advance _ _ (by omega) h3) (fun z14 h4 => (k_chk (k_ite (fun _ => (k_ob (K := (kM q j v)) (fr_F_Text_advance _ _ (by omega) h4) (fun z17 h5 => (k_some (k_inl h5))))) (fun _ => (k_some (k_inr (k_pair h4 trivial))))))))))) (fun _ => (k_ob (K := (kM q j v)) (fr_F_Text_advance _ _ (by omega) h2) (fun z9 h6 => (k_chk (k_ite (fun _ => (k_ob (K := (kM q j v)) (fr_F_Text_advance _ _ (by omega) h6) (fun z12 h7 => (k_some (k_inl h7))))) (fun _ => (k_some (k_inr (k_pair h6 trivial)))))))))))))))) (fun _ => (k_ite (fun _ => (k_chk (k_ite (fun _ => (k_bt (K := (kP (kM q j v) kT)) (fr_F_Text_refuse _ _ (by omega) h0) (fun z35 h8 => (k_some (k_inr (k_pair (kp1 h8) trivial)))))) (fun _ => (k_bt (K := (kM q j v)) (fr_F_Law_addCode _ _ _ (by omega) h0) (fun z24 h9 => (k_ite (fun _ => (k_bt (K := (kM q j v)) (fr_F_Law_addCode _ _ _ (by omega) h9) (fun z30 h10 => (k_ob (K := (kM q j v)) (fr_F_Text_advance _ _ (by omega) h10) (fun z31 h11 => (k_chk (k_ite (fun _ => (k_ob (K := (kM q j v)) (fr_F_Text_advance _ _ (by omega) h11) (fun z34 h12 => (k_some (k_inl h12))))) (fun _ => (k_some (k_inr (k_pair h11 trivial))))))))))) (fun _ => (k_ob (K := (kM q j v)) (fr_F_Text_advance _ _ (by omega) h9) (fun z26 h13 => (k_chk (k_ite (fun _ => (k_ob (K := (kM q j v)) (fr_F_Text_advance _ _ (by omega) h13) (fun z29 h14 => (k_some (k_inl h14))))) (fun _ => (k_some (k_inr (k_pair h13 trivial)))))))))))))))) (fun _ => (k_bt (K := (kM q j v)) (fr_F_Law_addCode _ _ _ (by omega) h0) (fun z38 h15 => (k_ite (fun _ => (k_bt (K := (kM q j v)) (fr_F_Law_addCode _ _ _ (by omega) h15) (fun z44 h16 => (k_ob (K := (kM q j v)) (fr_F_Text_advance _ _ (by omega) h16) (fun z45 h17 => (k_chk (k_ite (fun _ => (k_ob (K := (kM q j v)) (fr_F_Text_advance _ _ (by omega) h17) (fun z48 h18 => (k_some (k_inl h18))))) (fun _ => (k_some (k_inr (k_pair h17 trivial))))))))))) (fun _ => (k_ob (K := (kM q j v)) (fr_F_Text_advance _ _ (by omega) h15) (fun z40 h19 => (k_chk (k_ite (fun _ => (k_ob (K := (kM q j v)) (fr_F_Text_advance _ _ (by omega) h19) (fun z43 h20 => (k_some (k_inl h20))))) (fun _ => (k_some (k_inr (k_pair h19 trivial))))))))))))))))
set_option maxRecDepth 10000 in
set_option linter.unusedVariables false in
theorem fr_F_LTx_readsSum {q j : Nat} {v : Int32} (σ : Mem) (_c0 : q ≠ 78) (_c1 : q < 85 ∨ 90 < q) (h0 : kM q j v σ) : (kO (kP (kM q j v) kT)) (F_LTx_readsSum σ) := by
  unfold F_LTx_readsSum
  exact (k_ob (K := (kS (kM q j v) (kP (kM q j v) kT))) (k_forGO (K := (kM q j v)) (fun i s h2 => (fr_F_LTx_readsSum_2_b _ _ (by omega) (by omega) h2)) h0) (fun z50 h1 => (k_sum h1 (fun s51 h3 => (k_bt (K := (kP (kM q j v) kT)) (fr_F_Text_refuse _ _ (by omega) h3) (fun z53 h5 => (k_some (k_pair (kp1 h5) trivial))))) (fun r52 h4 => (k_some h4)))))
set_option maxRecDepth 10000 in
set_option linter.unusedVariables false in
theorem fr_F_LTx_readsNot_g {q j : Nat} {v : Int32} (rc : Mem → Int32 → Option (Mem × Int32)) (hrc : ∀ (m : Mem) (a1 : Int32), kM q j v m → (kO (kP (kM q j v) kT)) (rc m a1)) (σ : Mem) (v1 : Int32) (_c0 : q ≠ 78) (_c1 : q < 85 ∨ 90 < q) (h0 : kM q j v σ) : (kO (kP (kM q j v) kT)) (F_LTx_readsNot_g rc σ v1) := by
  unfold F_LTx_readsNot_g
  exact (k_ob (K := (kM q j v)) (fr_F_Text_advance _ _ (by omega) h0) (fun z1 h1 => (k_ob (K := (kP (kM q j v) kT)) (hrc _ _ h1) (fun z2 h2 => (k_bt (K := (kM q j v)) (fr_F_Law_addCode _ _ _ (by omega) (kp1 h2)) (fun z3 h3 => (k_some (k_pair h3 trivial))))))))
set_option maxRecDepth 10000 in
set_option linter.unusedVariables false in
theorem fr_F_LTx_readsAll_12_b {q j : Nat} {v : Int32} (rc : Mem → Int32 → Option (Mem × Int32)) (hrc : ∀ (m : Mem) (a1 : Int32), kM q j v m → (kO (kP (kM q j v) kT)) (rc m a1)) (v1 : Int32) (v2 : Int32) (σ : Mem) (_c0 : q ≠ 78) (_c1 : q < 85 ∨ 90 < q) (h0 : kM q j v σ) : (kO (kS (kM q j v) (kS (kM q j v) (kP (kM q j v) kT)))) (F_LTx_readsAll_12_b rc v1 v2 σ) := by
  unfold F_LTx_readsAll_12_b
  exact (k_ob (K := (kP (kM q j v) kT)) (fr_F_Text_takes _ _ _ (by omega) h0) (fun z4 h1 => (k_ite (fun _ => (k_some (k_inr (k_inl (kp1 h1))))) (fun _ => (k_ob (K := (kP (kM q j v) kT)) (hrc _ _ (kp1 h1)) (fun z6 h2 => (k_ite (fun _ => (k_some (k_inr (k_inr (k_pair (kp1 h2) trivial))))) (fun _ => (k_bt (K := (kM q j v)) (fr_F_Law_addCode _ _ _ (by omega) (kp1 h2)) (fun z8 h3 => (k_some (k_inl h3))))))))))))
set_option maxRecDepth 10000 in
set_option linter.unusedVariables false in
theorem fr_F_LTx_readsAll_g {q j : Nat} {v : Int32} (rc : Mem → Int32 → Option (Mem × Int32)) (hrc : ∀ (m : Mem) (a1 : Int32), kM q j v m → (kO (kP (kM q j v) kT)) (rc m a1)) (σ : Mem) (v1 : Int32) (_c0 : q ≠ 78) (_c1 : q < 85 ∨ 90 < q) (h0 : kM q j v σ) : (kO (kP (kM q j v) kT)) (F_LTx_readsAll_g rc σ v1) := by
  unfold F_LTx_readsAll_g
  exact (k_ob (K := (kP (kM q j v) kT)) (hrc _ _ h0) (fun z1 h1 => (k_ite (fun _ => (k_some (k_pair (kp1 h1) trivial))) (fun _ => (k_ob (K := (kS (kM q j v) (kP (kM q j v) kT))) (k_omap (K := (kS (kM q j v) (kS (kM q j v) (kP (kM q j v) kT)))) (k_forGO (K := (kM q j v)) (fun i s h3 => (fr_F_LTx_readsAll_12_b _ hrc _ _ _ (by omega) (by omega) h3)) (kp1 h1)) (fun _ h => k_mrg2 h)) (fun z10 h2 => (k_sum h2 (fun s11 h4 => (k_some (k_pair h4 trivial))) (fun r12 h5 => (k_some h5)))))))))
set_option maxRecDepth 10000 in
set_option linter.unusedVariables false in
theorem fr_F_LTx_readsEither_12_b {q j : Nat} {v : Int32} (rc : Mem → Int32 → Option (Mem × Int32)) (hrc : ∀ (m : Mem) (a1 : Int32), kM q j v m → (kO (kP (kM q j v) kT)) (rc m a1)) (v1 : Int32) (v2 : Int32) (σ : Mem) (_c0 : q ≠ 78) (_c1 : q < 85 ∨ 90 < q) (h0 : kM q j v σ) : (kO (kS (kM q j v) (kS (kM q j v) (kP (kM q j v) kT)))) (F_LTx_readsEither_12_b rc v1 v2 σ) := by
  unfold F_LTx_readsEither_12_b
  exact (k_ob (K := (kP (kM q j v) kT)) (fr_F_Text_takes _ _ _ (by omega) h0) (fun z4 h1 => (k_ite (fun _ => (k_some (k_inr (k_inl (kp1 h1))))) (fun _ => (k_ob (K := (kP (kM q j v) kT)) (fr_F_LTx_readsAll_g _ hrc _ _ (by omega) (by omega) (kp1 h1)) (fun z6 h2 => (k_ite (fun _ => (k_some (k_inr (k_inr (k_pair (kp1 h2) trivial))))) (fun _ => (k_bt (K := (kM q j v)) (fr_F_Law_addCode _ _ _ (by omega) (kp1 h2)) (fun z8 h3 => (k_some (k_inl h3))))))))))))
set_option maxRecDepth 10000 in
set_option linter.unusedVariables false in
theorem fr_F_LTx_readsEither_g {q j : Nat} {v : Int32} (rc : Mem → Int32 → Option (Mem × Int32)) (hrc : ∀ (m : Mem) (a1 : Int32), kM q j v m → (kO (kP (kM q j v) kT)) (rc m a1)) (σ : Mem) (v1 : Int32) (_c0 : q ≠ 78) (_c1 : q < 85 ∨ 90 < q) (h0 : kM q j v σ) : (kO (kP (kM q j v) kT)) (F_LTx_readsEither_g rc σ v1) := by
  unfold F_LTx_readsEither_g
  exact (k_ob (K := (kP (kM q j v) kT)) (fr_F_LTx_readsAll_g _ hrc _ _ (by omega) (by omega) h0) (fun z1 h1 => (k_ite (fun _ => (k_some (k_pair (kp1 h1) trivial))) (fun _ => (k_ob (K := (kS (kM q j v) (kP (kM q j v) kT))) (k_omap (K := (kS (kM q j v) (kS (kM q j v) (kP (kM q j v) kT)))) (k_forGO (K := (kM q j v)) (fun i s h3 => (fr_F_LTx_readsEither_12_b _ hrc _ _ _ (by omega) (by omega) h3)) (kp1 h1)) (fun _ h => k_mrg2 h)) (fun z10 h2 => (k_sum h2 (fun s11 h4 => (k_some (k_pair h4 trivial))) (fun r12 h5 => (k_some h5)))))))))
set_option maxRecDepth 10000 in
set_option linter.unusedVariables false in
theorem fr_F_LTx_readsAtom_g {q j : Nat} {v : Int32} (rc : Mem → Int32 → Option (Mem × Int32)) (hrc : ∀ (m : Mem) (a1 : Int32), kM q j v m → (kO (kP (kM q j v) kT)) (rc m a1)) (σ : Mem) (v1 : Int32) (_c0 : q ≠ 78) (_c1 : q < 85 ∨ 90 < q) (h0 : kM q j v σ) : (kO (kP (kM q j v) kT)) (F_LTx_readsAtom_g rc σ v1) := by
  unfold F_LTx_readsAtom_g
  exact (k_chk (k_ite (fun _ => (k_ite (fun _ => (k_ob (K := (kP (kM q j v) kT)) (fr_F_Text_takes _ _ _ (by omega) h0) (fun z4 h1 => (k_ite (fun _ => (k_chk (k_ite (fun _ => (k_ob (K := (kP (kM q j v) kT)) (fr_F_LTx_readsNot_g _ hrc _ _ (by omega) (by omega) (kp1 h1)) (fun z26 h2 => (k_some (k_pair (kp1 h2) trivial))))) (fun _ => (k_ite (fun _ => (k_bt (K := (kM q j v)) (fr_F_Law_addCode _ _ _ (by omega) (kp1 h1)) (fun z9 h3 => (k_ob (K := (kM q j v)) (fr_F_Text_advance _ _ (by omega) h3) (fun z10 h4 => (k_some (k_pair h4 trivial))))))) (fun _ => (k_ite (fun _ => (k_bt (K := (kM q j v)) (fr_F_Law_addCode _ _ _ (by omega) (kp1 h1)) (fun z24 h5 => (k_ob (K := (kM q j v)) (fr_F_Text_advance _ _ (by omega) h5) (fun z25 h6 => (k_some (k_pair h6 trivial))))))) (fun _ => (k_ob (K := (kP (kM q j v) kT)) (fr_F_LTx_readsSum _ (by omega) (by omega) (kp1 h1)) (fun z12 h7 => (k_ite (fun _ => (k_some (k_pair (kp1 h7) trivial))) (fun _ => (k_chk (k_ite (fun _ => (k_ob (K := (kM q j v)) (fr_F_Text_advance _ _ (by omega) (kp1 h7)) (fun z16 h8 => (k_ob (K := (kP (kM q j v) kT)) (fr_F_LTx_readsSum _ (by omega) (by omega) h8) (fun z17 h9 => (k_bt (K := (kM q j v)) (fr_F_Law_addCode _ _ _ (by omega) (kp1 h9)) (fun z18 h10 => (k_some (k_pair h10 trivial))))))))) (fun _ => (k_ite (fun _ => (k_ob (K := (kM q j v)) (fr_F_Text_advance _ _ (by omega) (kp1 h7)) (fun z20 h11 => (k_ob (K := (kP (kM q j v) kT)) (fr_F_LTx_readsSum _ (by omega) (by omega) h11) (fun z21 h12 => (k_bt (K := (kM q j v)) (fr_F_Law_addCode _ _ _ (by omega) (kp1 h12)) (fun z22 h13 => (k_some (k_pair h13 trivial))))))))) (fun _ => (k_bt (K := (kP (kM q j v) kT)) (fr_F_Text_refuse _ _ (by omega) (kp1 h7)) (fun z23 h14 => (k_some (k_pair (kp1 h14) trivial))))))))))))))))))))) (fun _ => (k_ob (K := (kP (kM q j v) kT)) (fr_F_LTx_readsEither_g _ hrc _ _ (by omega) (by omega) (kp1 h1)) (fun z27 h15 => (k_ite (fun _ => (k_some (k_pair (kp1 h15) trivial))) (fun _ => (k_ob (K := (kP (kM q j v) kT)) (fr_F_Text_needs _ _ _ (by omega) (kp1 h15)) (fun z29 h16 => (k_ite (fun _ => (k_some (k_pair (kp1 h16) trivial))) (fun _ => (k_some (k_pair (kp1 h16) trivial))))))))))))))) (fun _ => (k_bt (K := (kP (kM q j v) kT)) (fr_F_Text_refuse _ _ (by omega) h0) (fun z31 h17 => (k_some (k_pair (kp1 h17) trivial))))))) (fun _ => (k_ite (fun _ => (k_ite (fun _ => (k_ob (K := (kP (kM q j v) kT)) (fr_F_Text_takes _ _ _ (by omega) h0) (fun z61 h18 => (k_ite (fun _ => (k_chk (k_ite (fun _ => (k_ob (K := (kP (kM q j v) kT)) (fr_F_LTx_readsNot_g _ hrc _ _ (by omega) (by omega) (kp1 h18)) (fun z83 h19 => (k_some (k_pair (kp1 h19) trivial))))) (fun _ => (k_ite (fun _ => (k_bt (K := (kM q j v)) (fr_F_Law_addCode _ _ _ (by omega) (kp1 h18)) (fun z66 h20 => (k_ob (K := (kM q j v)) (fr_F_Text_advance _ _ (by omega) h20) (fun z67 h21 => (k_some (k_pair h21 trivial))))))) (fun _ => (k_ite (fun _ => (k_bt (K := (kM q j v)) (fr_F_Law_addCode _ _ _ (by omega) (kp1 h18)) (fun z81 h22 => (k_ob (K := (kM q j v)) (fr_F_Text_advance _ _ (by omega) h22) (fun z82 h23 => (k_some (k_pair h23 trivial))))))) (fun _ => (k_ob (K := (kP (kM q j v) kT)) (fr_F_LTx_readsSum _ (by omega) (by omega) (kp1 h18)) (fun z69 h24 => (k_ite (fun _ => (k_some (k_pair (kp1 h24) trivial))) (fun _ => (k_chk (k_ite (fun _ => (k_ob (K := (kM q j v)) (fr_F_Text_advance _ _ (by omega) (kp1 h24)) (fun z73 h25 => (k_ob (K := (kP (kM q j v) kT)) (fr_F_LTx_readsSum _ (by omega) (by omega) h25) (fun z74 h26 => (k_bt (K := (kM q j v)) (fr_F_Law_addCode _ _ _ (by omega) (kp1 h26)) (fun z75 h27 => (k_some (k_pair h27 trivial))))))))) (fun _ => (k_ite (fun _ => (k_ob (K := (kM q j v)) (fr_F_Text_advance _ _ (by omega) (kp1 h24)) (fun z77 h28 => (k_ob (K := (kP (kM q j v) kT)) (fr_F_LTx_readsSum _ (by omega) (by omega) h28) (fun z78 h29 => (k_bt (K := (kM q j v)) (fr_F_Law_addCode _ _ _ (by omega) (kp1 h29)) (fun z79 h30 => (k_some (k_pair h30 trivial))))))))) (fun _ => (k_bt (K := (kP (kM q j v) kT)) (fr_F_Text_refuse _ _ (by omega) (kp1 h24)) (fun z80 h31 => (k_some (k_pair (kp1 h31) trivial))))))))))))))))))))) (fun _ => (k_ob (K := (kP (kM q j v) kT)) (fr_F_LTx_readsEither_g _ hrc _ _ (by omega) (by omega) (kp1 h18)) (fun z84 h32 => (k_ite (fun _ => (k_some (k_pair (kp1 h32) trivial))) (fun _ => (k_ob (K := (kP (kM q j v) kT)) (fr_F_Text_needs _ _ _ (by omega) (kp1 h32)) (fun z86 h33 => (k_ite (fun _ => (k_some (k_pair (kp1 h33) trivial))) (fun _ => (k_some (k_pair (kp1 h33) trivial))))))))))))))) (fun _ => (k_bt (K := (kP (kM q j v) kT)) (fr_F_Text_refuse _ _ (by omega) h0) (fun z88 h34 => (k_some (k_pair (kp1 h34) trivial))))))) (fun _ => (k_ob (K := (kP (kM q j v) kT)) (fr_F_Text_takes _ _ _ (by omega) h0) (fun z33 h35 => (k_ite (fun _ => (k_chk (k_ite (fun _ => (k_ob (K := (kP (kM q j v) kT)) (fr_F_LTx_readsNot_g _ hrc _ _ (by omega) (by omega) (kp1 h35)) (fun z55 h36 => (k_some (k_pair (kp1 h36) trivial))))) (fun _ => (k_ite (fun _ => (k_bt (K := (kM q j v)) (fr_F_Law_addCode _ _ _ (by omega) (kp1 h35)) (fun z38 h37 => (k_ob (K := (kM q j v)) (fr_F_Text_advance _ _ (by omega) h37) (fun z39 h38 => (k_some (k_pair h38 trivial))))))) (fun _ => (k_ite (fun _ => (k_bt (K := (kM q j v)) (fr_F_Law_addCode _ _ _ (by omega) (kp1 h35)) (fun z53 h39 => (k_ob (K := (kM q j v)) (fr_F_Text_advance _ _ (by omega) h39) (fun z54 h40 => (k_some (k_pair h40 trivial))))))) (fun _ => (k_ob (K := (kP (kM q j v) kT)) (fr_F_LTx_readsSum _ (by omega) (by omega) (kp1 h35)) (fun z41 h41 => (k_ite (fun _ => (k_some (k_pair (kp1 h41) trivial))) (fun _ => (k_chk (k_ite (fun _ => (k_ob (K := (kM q j v)) (fr_F_Text_advance _ _ (by omega) (kp1 h41)) (fun z45 h42 => (k_ob (K := (kP (kM q j v) kT)) (fr_F_LTx_readsSum _ (by omega) (by omega) h42) (fun z46 h43 => (k_bt (K := (kM q j v)) (fr_F_Law_addCode _ _ _ (by omega) (kp1 h43)) (fun z47 h44 => (k_some (k_pair h44 trivial))))))))) (fun _ => (k_ite (fun _ => (k_ob (K := (kM q j v)) (fr_F_Text_advance _ _ (by omega) (kp1 h41)) (fun z49 h45 => (k_ob (K := (kP (kM q j v) kT)) (fr_F_LTx_readsSum _ (by omega) (by omega) h45) (fun z50 h46 => (k_bt (K := (kM q j v)) (fr_F_Law_addCode _ _ _ (by omega) (kp1 h46)) (fun z51 h47 => (k_some (k_pair h47 trivial))))))))) (fun _ => (k_bt (K := (kP (kM q j v) kT)) (fr_F_Text_refuse _ _ (by omega) (kp1 h41)) (fun z52 h48 => (k_some (k_pair (kp1 h48) trivial))))))))))))))))))))) (fun _ => (k_ob (K := (kP (kM q j v) kT)) (fr_F_LTx_readsEither_g _ hrc _ _ (by omega) (by omega) (kp1 h35)) (fun z56 h49 => (k_ite (fun _ => (k_some (k_pair (kp1 h49) trivial))) (fun _ => (k_ob (K := (kP (kM q j v) kT)) (fr_F_Text_needs _ _ _ (by omega) (kp1 h49)) (fun z58 h50 => (k_ite (fun _ => (k_some (k_pair (kp1 h50) trivial))) (fun _ => (k_some (k_pair (kp1 h50) trivial)))))))))))))))))))
theorem fr_F_LTx_readsAtom_d {q j : Nat} {v : Int32} (_c0 : q ≠ 78) (_c1 : q < 85 ∨ 90 < q) : ∀ (d : Nat) (m : Mem) (a1 : Int32) (h0 : kM q j v m), (kO (kP (kM q j v) kT)) (F_LTx_readsAtom_d d m a1) := by
  intro d
  induction d with
  | zero => intro m a1 h0; exact k_none
  | succ d ih => intro m a1 h0; exact fr_F_LTx_readsAtom_g _ ih _ _ (by omega) (by omega) h0
set_option maxRecDepth 10000 in
set_option linter.unusedVariables false in
theorem fr_F_LTx_readsNot {q j : Nat} {v : Int32} (σ : Mem) (v1 : Int32) (_c0 : q ≠ 78) (_c1 : q < 85 ∨ 90 < q) (h0 : kM q j v σ) : (kO (kP (kM q j v) kT)) (F_LTx_readsNot σ v1) := by
  unfold F_LTx_readsNot
  exact (fr_F_LTx_readsNot_g _ (fr_F_LTx_readsAtom_d (by omega) (by omega) 8) _ _ (by omega) (by omega) h0)
set_option maxRecDepth 10000 in
set_option linter.unusedVariables false in
theorem fr_F_LTx_readsAll {q j : Nat} {v : Int32} (σ : Mem) (v1 : Int32) (_c0 : q ≠ 78) (_c1 : q < 85 ∨ 90 < q) (h0 : kM q j v σ) : (kO (kP (kM q j v) kT)) (F_LTx_readsAll σ v1) := by
  unfold F_LTx_readsAll
  exact (fr_F_LTx_readsAll_g _ (fr_F_LTx_readsAtom_d (by omega) (by omega) 8) _ _ (by omega) (by omega) h0)
set_option maxRecDepth 10000 in
set_option linter.unusedVariables false in
theorem fr_F_LTx_readsEither {q j : Nat} {v : Int32} (σ : Mem) (v1 : Int32) (_c0 : q ≠ 78) (_c1 : q < 85 ∨ 90 < q) (h0 : kM q j v σ) : (kO (kP (kM q j v) kT)) (F_LTx_readsEither σ v1) := by
  unfold F_LTx_readsEither
  exact (fr_F_LTx_readsEither_g _ (fr_F_LTx_readsAtom_d (by omega) (by omega) 8) _ _ (by omega) (by omega) h0)
set_option maxRecDepth 10000 in
set_option linter.unusedVariables false in
theorem fr_F_LTx_readsAtom {q j : Nat} {v : Int32} (σ : Mem) (v1 : Int32) (_c0 : q ≠ 78) (_c1 : q < 85 ∨ 90 < q) (h0 : kM q j v σ) : (kO (kP (kM q j v) kT)) (F_LTx_readsAtom σ v1) := by
  unfold F_LTx_readsAtom
  exact (fr_F_LTx_readsAtom_g _ (fr_F_LTx_readsAtom_d (by omega) (by omega) 8) _ _ (by omega) (by omega) h0)
set_option maxRecDepth 10000 in
set_option linter.unusedVariables false in
theorem fr_F_LTx_readsLine {q j : Nat} {v : Int32} (σ : Mem) (_c0 : q ≠ 78) (_c1 : q < 85 ∨ 90 < q) (h0 : kM q j v σ) : (kO (kP (kM q j v) kT)) (F_LTx_readsLine σ) := by
  unfold F_LTx_readsLine
  exact (k_chk (k_ite (fun _ => (k_ob (K := (kM q j v)) (fr_F_Text_advance _ _ (by omega) h0) (fun z18 h1 => (k_ob (K := (kP (kM q j v) kT)) (fr_F_Text_takeNumber _ _ _ (by omega) h1) (fun z19 h2 => (k_ite (fun _ => (k_some (k_pair (kp1 h2) trivial))) (fun _ => (k_ob (K := (kP (kM q j v) kT)) (fr_F_Text_takes _ _ _ (by omega) (kp1 h2)) (fun z21 h3 => (k_ite (fun _ => (k_bt (K := (kM q j v)) (fr_F_Law_addLine _ _ _ (by omega) (kp1 h3)) (fun z24 h4 => (k_some (k_pair h4 trivial))))) (fun _ => (k_ob (K := (kP (kM q j v) kT)) (fr_F_LTx_readsEither _ _ (by omega) (by omega) (kp1 h3)) (fun z25 h5 => (k_ite (fun _ => (k_some (k_pair (kp1 h5) trivial))) (fun _ => (k_bt (K := (kM q j v)) (fr_F_Law_addLine _ _ _ (by omega) (kp1 h5)) (fun z28 h6 => (k_some (k_pair h6 trivial))))))))))))))))))) (fun _ => (k_ite (fun _ => (k_ob (K := (kM q j v)) (fr_F_Text_advance _ _ (by omega) h0) (fun z5 h7 => (k_ob (K := (kP (kM q j v) kT)) (fr_F_Text_takeNumber _ _ _ (by omega) h7) (fun z6 h8 => (k_ite (fun _ => (k_some (k_pair (kp1 h8) trivial))) (fun _ => (k_ob (K := (kP (kM q j v) kT)) (fr_F_Text_takes _ _ _ (by omega) (kp1 h8)) (fun z8 h9 => (k_ite (fun _ => (k_bt (K := (kM q j v)) (fr_F_Law_addLine _ _ _ (by omega) (kp1 h9)) (fun z11 h10 => (k_some (k_pair h10 trivial))))) (fun _ => (k_ob (K := (kP (kM q j v) kT)) (fr_F_LTx_readsEither _ _ (by omega) (by omega) (kp1 h9)) (fun z12 h11 => (k_ite (fun _ => (k_some (k_pair (kp1 h11) trivial))) (fun _ => (k_bt (K := (kM q j v)) (fr_F_Law_addLine _ _ _ (by omega) (kp1 h11)) (fun z15 h12 => (k_some (k_pair h12 trivial))))))))))))))))))) (fun _ => (k_bt (K := (kP (kM q j v) kT)) (fr_F_Text_refuse _ _ (by omega) h0) (fun z16 h13 => (k_some (k_pair (kp1 h13) trivial)))))))))
set_option maxRecDepth 10000 in
set_option linter.unusedVariables false in
theorem fr_F_Text_linesOf_78_46_b {q j : Nat} {v : Int32} (r1 : Nat) (rn1 : Nat) (v2 : Int32) (v3 : Int32) (v4 : Int32) (σ : Mem) (_c0 : q ≠ 78) (_c1 : q < 85 ∨ 90 < q) (h0 : kM q j v σ) : (kO (kS (kP kT (kM q j v)) (kS (kP kT (kM q j v)) (kP (kM q j v) kT)))) (F_Text_linesOf_78_46_b r1 rn1 v2 v3 v4 σ) := by
  unfold F_Text_linesOf_78_46_b
  exact (k_ite (fun _ => (k_some (k_inr (k_inl (k_pair trivial h0))))) (fun _ => (k_ob (K := (kP (kM q j v) kT)) (fr_F_LTx_readsLine _ (by omega) (by omega) h0) (fun z10 h1 => (k_ite (fun _ => (k_some (k_inr (k_inr (k_pair (kp1 h1) trivial))))) (fun _ => (k_chk (k_ite (fun _ => (k_some (k_inr (k_inr (k_pair (kp1 h1) trivial))))) (fun _ => (k_ob (K := (kP (kM q j v) kT)) (fr_F_Text_needs _ _ _ (by omega) (kp1 h1)) (fun z14 h2 => (k_ite (fun _ => (k_some (k_inr (k_inr (k_pair (kp1 h2) trivial))))) (fun _ => (k_btI (fun x16 => (k_some (k_inl (k_pair trivial (kp1 h2)))))))))))))))))))
set_option maxRecDepth 10000 in
set_option linter.unusedVariables false in
theorem fr_F_Text_linesOf_78 {q j : Nat} {v : Int32} (σ : Mem) (r1 : Nat) (rn1 : Nat) (v2 : Int32) (v3 : Int32) (_c0 : q < 78 ∨ 90 < q) (h0 : kM q j v σ) : (kO (kP (kM q j v) kT)) (F_Text_linesOf_78 σ r1 rn1 v2 v3) := by
  unfold F_Text_linesOf_78
  exact (k_bt (K := (kM q j v)) (fr_F_Row_copyAll _ _ _ _ _ (by omega) h0) (fun z1 h1 => (k_bt (K := (kM q j v)) (k_up (by omega) h1) (fun σ2 h2 => (k_bt (K := (kM q j v)) (k_up (by omega) h2) (fun σ3 h3 => (k_ob (K := (kM q j v)) (fr_F_Text_cut _ _ (by omega) h3) (fun z4 h4 => (k_bt (K := (kM q j v)) (k_up (by omega) h4) (fun σ5 h5 => (k_ob (K := (kM q j v)) (fr_F_Text_advance _ _ (by omega) h5) (fun z6 h6 => (k_chk (k_ite (fun _ => (k_some (k_pair h6 trivial))) (fun _ => (k_ob (K := (kS (kP kT (kM q j v)) (kP (kM q j v) kT))) (k_whl (K := (kP kT (kM q j v))) (fun s h8 => (fr_F_Text_linesOf_78_46_b _ _ _ _ _ _ (by omega) (by omega) (kp2 h8))) (k_pair trivial h6)) (fun z17 h7 => (k_sum h7 (fun s18 h9 => (k_bt (K := (kP (kM q j v) kT)) (fr_F_Text_refuse _ _ (by omega) (kp2 h9)) (fun z20 h11 => (k_some (k_pair (kp1 h11) trivial))))) (fun r19 h10 => (k_some h10))))))))))))))))))))
set_option maxRecDepth 10000 in
set_option linter.unusedVariables false in
theorem fr_F_TTx_takeSomebody {q j : Nat} {v : Int32} (σ : Mem) (v1 : Int32) (v2 : Int32) (_c0 : q ≠ 54) (h0 : kM q j v σ) : (kO (kP (kM q j v) kT)) (F_TTx_takeSomebody σ v1 v2) := by
  unfold F_TTx_takeSomebody
  exact (k_btI (fun x1 => (k_ite (fun _ => (k_bt (K := (kP (kM q j v) kT)) (fr_F_Text_refuse _ _ (by omega) h0) (fun z4 h1 => (k_some (k_pair (kp1 h1) trivial))))) (fun _ => (k_ite (fun _ => (k_bt (K := (kP (kM q j v) kT)) (fr_F_Text_refuse _ _ (by omega) h0) (fun z7 h2 => (k_some (k_pair (kp1 h2) trivial))))) (fun _ => (k_ite (fun _ => (k_ob (K := (kM q j v)) (fr_F_Text_advance _ _ (by omega) h0) (fun z10 h3 => (k_some (k_pair h3 trivial))))) (fun _ => (k_ite (fun _ => (k_ob (K := (kM q j v)) (fr_F_Text_advance _ _ (by omega) h0) (fun z15 h4 => (k_some (k_pair h4 trivial))))) (fun _ => (k_bt (K := (kP (kM q j v) kT)) (fr_F_Text_refuse _ _ (by omega) h0) (fun z13 h5 => (k_some (k_pair (kp1 h5) trivial))))))))))))))
set_option maxRecDepth 10000 in
set_option linter.unusedVariables false in
theorem fr_F_TTx_readsPerson {q j : Nat} {v : Int32} (σ : Mem) (_c0 : q ≠ 54) (_c1 : q < 61 ∨ 67 < q) (h0 : kM q j v σ) : (kO (kP (kM q j v) kT)) (F_TTx_readsPerson σ) := by
  unfold F_TTx_readsPerson
  exact (k_ite (fun _ => (k_ob (K := (kM q j v)) (fr_F_Text_advance _ _ (by omega) h0) (fun z2 h1 => (k_ob (K := (kP (kM q j v) kT)) (fr_F_Text_takeNumber _ _ _ (by omega) h1) (fun z3 h2 => (k_ite (fun _ => (k_some (k_pair (kp1 h2) trivial))) (fun _ => (k_bt (K := (kM q j v)) (fr_F_Town_addPerson _ _ _ (by omega) (kp1 h2)) (fun z5 h3 => (k_some (k_pair h3 trivial))))))))))) (fun _ => (k_bt (K := (kP (kM q j v) kT)) (fr_F_Text_refuse _ _ (by omega) h0) (fun z6 h4 => (k_some (k_pair (kp1 h4) trivial))))))
set_option maxRecDepth 10000 in
set_option linter.unusedVariables false in
theorem fr_F_TTx_readsLikes_54_b {q j : Nat} {v : Int32} (v1 : Int32) (v2 : Int32) (σ : Mem) (_c0 : q ≠ 69) (h0 : kM q j v σ) : (kO (kS (kP kT (kM q j v)) (kP kT (kM q j v)))) (F_TTx_readsLikes_54_b v1 v2 σ) := by
  unfold F_TTx_readsLikes_54_b
  exact (k_ite (fun _ => (k_ite (fun _ => (k_btI (fun x10 => (k_some (k_inl (k_pair trivial h0)))))) (fun _ => (k_bt (K := (kM q j v)) (fr_F_Town_setLiking _ _ _ _ _ (by omega) h0) (fun z11 h1 => (k_btI (fun x12 => (k_some (k_inl (k_pair trivial h1)))))))))) (fun _ => (k_some (k_inr (k_pair trivial h0)))))
set_option maxRecDepth 10000 in
set_option linter.unusedVariables false in
theorem fr_F_TTx_readsLikes {q j : Nat} {v : Int32} (σ : Mem) (_c0 : q ≠ 54) (_c1 : q ≠ 69) (h0 : kM q j v σ) : (kO (kP (kM q j v) kT)) (F_TTx_readsLikes σ) := by
  unfold F_TTx_readsLikes
  exact (k_ob (K := (kM q j v)) (fr_F_Text_advance _ _ (by omega) h0) (fun z1 h1 => (k_ob (K := (kP (kM q j v) kT)) (fr_F_TTx_takeSomebody _ _ _ (by omega) h1) (fun z2 h2 => (k_ite (fun _ => (k_some (k_pair (kp1 h2) trivial))) (fun _ => (k_chk (k_ite (fun _ => (k_ite (fun _ => (k_ob (K := (kP kT (kM q j v))) (k_whl (K := (kP kT (kM q j v))) (fun s h4 => (fr_F_TTx_readsLikes_54_b _ _ _ (by omega) (kp2 h4))) (k_pair trivial (kp1 h2))) (fun z13 h3 => (k_ob (K := (kM q j v)) (fr_F_Text_advance _ _ (by omega) (kp2 h3)) (fun z14 h5 => (k_some (k_pair h5 trivial))))))) (fun _ => (k_bt (K := (kP (kM q j v) kT)) (fr_F_Text_refuse _ _ (by omega) (kp1 h2)) (fun z15 h6 => (k_some (k_pair (kp1 h6) trivial))))))) (fun _ => (k_bt (K := (kP (kM q j v) kT)) (fr_F_Text_refuse _ _ (by omega) (kp1 h2)) (fun z6 h7 => (k_some (k_pair (kp1 h7) trivial)))))))))))))
set_option maxRecDepth 10000 in
set_option linter.unusedVariables false in
theorem fr_F_TTx_readsTwo {q j : Nat} {v : Int32} (σ : Mem) (v1 : Int32) (_c0 : q ≠ 54) (_c1 : q < 65 ∨ 67 < q) (h0 : kM q j v σ) : (kO (kP (kM q j v) kT)) (F_TTx_readsTwo σ v1) := by
  unfold F_TTx_readsTwo
  exact (k_ob (K := (kM q j v)) (fr_F_Text_advance _ _ (by omega) h0) (fun z1 h1 => (k_ob (K := (kP (kM q j v) kT)) (fr_F_TTx_takeSomebody _ _ _ (by omega) h1) (fun z2 h2 => (k_ite (fun _ => (k_some (k_pair (kp1 h2) trivial))) (fun _ => (k_ob (K := (kP (kM q j v) kT)) (fr_F_TTx_takeSomebody _ _ _ (by omega) (kp1 h2)) (fun z4 h3 => (k_ite (fun _ => (k_some (k_pair (kp1 h3) trivial))) (fun _ => (k_ite (fun _ => (k_bt (K := (kM q j v)) (fr_F_Row_put _ _ _ _ _ (by omega) (kp1 h3)) (fun z7 h4 => (k_some (k_pair h4 trivial))))) (fun _ => (k_bt (K := (kP (kM q j v) kT)) (fr_F_Town_addAsked _ _ _ _ (by omega) (kp1 h3)) (fun z8 h5 => (k_some (k_pair (kp1 h5) trivial))))))))))))))))
set_option maxRecDepth 10000 in
set_option linter.unusedVariables false in
theorem fr_F_TTx_readsWed {q j : Nat} {v : Int32} (σ : Mem) (_c0 : q ≠ 54) (_c1 : q < 61 ∨ 75 < q) (h0 : kM q j v σ) : (kO (kP (kM q j v) kT)) (F_TTx_readsWed σ) := by
  unfold F_TTx_readsWed
  exact (k_ite (fun _ => (k_ob (K := (kM q j v)) (fr_F_Text_advance _ _ (by omega) h0) (fun z2 h1 => (k_ob (K := (kP (kM q j v) kT)) (fr_F_TTx_takeSomebody _ _ _ (by omega) h1) (fun z3 h2 => (k_ite (fun _ => (k_some (k_pair (kp1 h2) trivial))) (fun _ => (k_ob (K := (kP (kM q j v) kT)) (fr_F_TTx_takeSomebody _ _ _ (by omega) (kp1 h2)) (fun z5 h3 => (k_ite (fun _ => (k_some (k_pair (kp1 h3) trivial))) (fun _ => (k_ob (K := (kP (kM q j v) kT)) (fr_F_Text_needs _ _ _ (by omega) (kp1 h3)) (fun z7 h4 => (k_ite (fun _ => (k_some (k_pair (kp1 h4) trivial))) (fun _ => (k_ob (K := (kP (kM q j v) kT)) (fr_F_Text_takeNumber _ _ _ (by omega) (kp1 h4)) (fun z9 h5 => (k_ite (fun _ => (k_some (k_pair (kp1 h5) trivial))) (fun _ => (k_bt (K := (kP (kM q j v) kT)) (fr_F_Town_addMatch _ _ _ _ _ (by omega) (kp1 h5)) (fun z11 h6 => (k_some (k_pair (kp1 h6) trivial))))))))))))))))))))))) (fun _ => (k_bt (K := (kP (kM q j v) kT)) (fr_F_Text_refuse _ _ (by omega) h0) (fun z13 h7 => (k_some (k_pair (kp1 h7) trivial))))))
set_option maxRecDepth 10000 in
set_option linter.unusedVariables false in
theorem fr_F_TTx_readsSetting {q j : Nat} {v : Int32} (σ : Mem) (v1 : Int32) (_c0 : q ≠ 54) (_c1 : q ≠ 61) (h0 : kM q j v σ) : (kO (kP (kM q j v) kT)) (F_TTx_readsSetting σ v1) := by
  unfold F_TTx_readsSetting
  exact (k_chk (k_ite (fun _ => (k_ob (K := (kM q j v)) (fr_F_Text_advance _ _ (by omega) h0) (fun z3 h1 => (k_ite (fun _ => (k_ob (K := (kP (kM q j v) kT)) (fr_F_Text_takeNumber _ _ _ (by omega) h1) (fun z12 h2 => (k_ite (fun _ => (k_some (k_pair (kp1 h2) trivial))) (fun _ => (k_ite (fun _ => (k_bt (K := (kM q j v)) (k_up (by omega) (kp1 h2)) (fun σ18 h3 => (k_some (k_pair h3 trivial))))) (fun _ => (k_ite (fun _ => (k_bt (K := (kM q j v)) (k_up (by omega) (kp1 h2)) (fun σ17 h4 => (k_some (k_pair h4 trivial))))) (fun _ => (k_bt (K := (kM q j v)) (k_up (by omega) (kp1 h2)) (fun σ16 h5 => (k_some (k_pair h5 trivial))))))))))))) (fun _ => (k_ob (K := (kP (kM q j v) kT)) (fr_F_Text_takeNumber _ _ _ (by omega) h1) (fun z5 h6 => (k_ite (fun _ => (k_some (k_pair (kp1 h6) trivial))) (fun _ => (k_ite (fun _ => (k_bt (K := (kM q j v)) (k_up (by omega) (kp1 h6)) (fun σ11 h7 => (k_some (k_pair h7 trivial))))) (fun _ => (k_ite (fun _ => (k_bt (K := (kM q j v)) (k_up (by omega) (kp1 h6)) (fun σ10 h8 => (k_some (k_pair h8 trivial))))) (fun _ => (k_bt (K := (kM q j v)) (k_up (by omega) (kp1 h6)) (fun σ9 h9 => (k_some (k_pair h9 trivial))))))))))))))))) (fun _ => (k_ite (fun _ => (k_ob (K := (kM q j v)) (fr_F_Text_advance _ _ (by omega) h0) (fun z20 h10 => (k_ite (fun _ => (k_ob (K := (kP (kM q j v) kT)) (fr_F_Text_takeNumber _ _ _ (by omega) h10) (fun z29 h11 => (k_ite (fun _ => (k_some (k_pair (kp1 h11) trivial))) (fun _ => (k_ite (fun _ => (k_bt (K := (kM q j v)) (k_up (by omega) (kp1 h11)) (fun σ35 h12 => (k_some (k_pair h12 trivial))))) (fun _ => (k_ite (fun _ => (k_bt (K := (kM q j v)) (k_up (by omega) (kp1 h11)) (fun σ34 h13 => (k_some (k_pair h13 trivial))))) (fun _ => (k_bt (K := (kM q j v)) (k_up (by omega) (kp1 h11)) (fun σ33 h14 => (k_some (k_pair h14 trivial))))))))))))) (fun _ => (k_ob (K := (kP (kM q j v) kT)) (fr_F_Text_takeNumber _ _ _ (by omega) h10) (fun z22 h15 => (k_ite (fun _ => (k_some (k_pair (kp1 h15) trivial))) (fun _ => (k_ite (fun _ => (k_bt (K := (kM q j v)) (k_up (by omega) (kp1 h15)) (fun σ28 h16 => (k_some (k_pair h16 trivial))))) (fun _ => (k_ite (fun _ => (k_bt (K := (kM q j v)) (k_up (by omega) (kp1 h15)) (fun σ27 h17 => (k_some (k_pair h17 trivial))))) (fun _ => (k_bt (K := (kM q j v)) (k_up (by omega) (kp1 h15)) (fun σ26 h18 => (k_some (k_pair h18 trivial))))))))))))))))) (fun _ => (k_ite (fun _ => (k_ob (K := (kM q j v)) (fr_F_Text_advance _ _ (by omega) h0) (fun z37 h19 => (k_ite (fun _ => (k_ob (K := (kP (kM q j v) kT)) (fr_F_Text_takeNumber _ _ _ (by omega) h19) (fun z46 h20 => (k_ite (fun _ => (k_some (k_pair (kp1 h20) trivial))) (fun _ => (k_ite (fun _ => (k_bt (K := (kM q j v)) (k_up (by omega) (kp1 h20)) (fun σ52 h21 => (k_some (k_pair h21 trivial))))) (fun _ => (k_ite (fun _ => (k_bt (K := (kM q j v)) (k_up (by omega) (kp1 h20)) (fun σ51 h22 => (k_some (k_pair h22 trivial))))) (fun _ => (k_bt (K := (kM q j v)) (k_up (by omega) (kp1 h20)) (fun σ50 h23 => (k_some (k_pair h23 trivial))))))))))))) (fun _ => (k_ob (K := (kP (kM q j v) kT)) (fr_F_Text_takeNumber _ _ _ (by omega) h19) (fun z39 h24 => (k_ite (fun _ => (k_some (k_pair (kp1 h24) trivial))) (fun _ => (k_ite (fun _ => (k_bt (K := (kM q j v)) (k_up (by omega) (kp1 h24)) (fun σ45 h25 => (k_some (k_pair h25 trivial))))) (fun _ => (k_ite (fun _ => (k_bt (K := (kM q j v)) (k_up (by omega) (kp1 h24)) (fun σ44 h26 => (k_some (k_pair h26 trivial))))) (fun _ => (k_bt (K := (kM q j v)) (k_up (by omega) (kp1 h24)) (fun σ43 h27 => (k_some (k_pair h27 trivial))))))))))))))))) (fun _ => (k_bt (K := (kP (kM q j v) kT)) (fr_F_Text_refuse _ _ (by omega) h0) (fun z53 h28 => (k_some (k_pair (kp1 h28) trivial)))))))))))
set_option maxRecDepth 10000 in
set_option linter.unusedVariables false in
theorem fr_F_TTx_readsLine {q j : Nat} {v : Int32} (σ : Mem) (_c0 : q ≠ 54) (_c1 : q < 61 ∨ 75 < q) (h0 : kM q j v σ) : (kO (kP (kM q j v) kT)) (F_TTx_readsLine σ) := by
  unfold F_TTx_readsLine
  exact (k_chk (k_ite (fun _ => (k_ob (K := (kP (kM q j v) kT)) (fr_F_TTx_readsPerson _ (by omega) (by omega) h0) (fun z16 h1 => (k_some (k_pair (kp1 h1) trivial))))) (fun _ => (k_ite (fun _ => (k_ob (K := (kP (kM q j v) kT)) (fr_F_TTx_readsLikes _ (by omega) (by omega) h0) (fun z15 h2 => (k_some (k_pair (kp1 h2) trivial))))) (fun _ => (k_ite (fun _ => (k_ite (fun _ => (k_ob (K := (kP (kM q j v) kT)) (fr_F_TTx_readsTwo _ _ (by omega) (by omega) h0) (fun z7 h3 => (k_some (k_pair (kp1 h3) trivial))))) (fun _ => (k_ob (K := (kP (kM q j v) kT)) (fr_F_TTx_readsTwo _ _ (by omega) (by omega) h0) (fun z6 h4 => (k_some (k_pair (kp1 h4) trivial))))))) (fun _ => (k_ite (fun _ => (k_ite (fun _ => (k_ob (K := (kP (kM q j v) kT)) (fr_F_TTx_readsTwo _ _ (by omega) (by omega) h0) (fun z14 h5 => (k_some (k_pair (kp1 h5) trivial))))) (fun _ => (k_ob (K := (kP (kM q j v) kT)) (fr_F_TTx_readsTwo _ _ (by omega) (by omega) h0) (fun z13 h6 => (k_some (k_pair (kp1 h6) trivial))))))) (fun _ => (k_ite (fun _ => (k_ob (K := (kP (kM q j v) kT)) (fr_F_TTx_readsWed _ (by omega) (by omega) h0) (fun z11 h7 => (k_some (k_pair (kp1 h7) trivial))))) (fun _ => (k_ob (K := (kP (kM q j v) kT)) (fr_F_TTx_readsSetting _ _ (by omega) (by omega) h0) (fun z10 h8 => (k_some (k_pair (kp1 h8) trivial)))))))))))))))
set_option maxRecDepth 10000 in
set_option linter.unusedVariables false in
theorem fr_F_Text_linesOf_54_46_b {q j : Nat} {v : Int32} (r1 : Nat) (rn1 : Nat) (v2 : Int32) (v3 : Int32) (v4 : Int32) (σ : Mem) (_c0 : q ≠ 54) (_c1 : q < 61 ∨ 75 < q) (h0 : kM q j v σ) : (kO (kS (kP kT (kM q j v)) (kS (kP kT (kM q j v)) (kP (kM q j v) kT)))) (F_Text_linesOf_54_46_b r1 rn1 v2 v3 v4 σ) := by
  unfold F_Text_linesOf_54_46_b
  exact (k_ite (fun _ => (k_some (k_inr (k_inl (k_pair trivial h0))))) (fun _ => (k_ob (K := (kP (kM q j v) kT)) (fr_F_TTx_readsLine _ (by omega) (by omega) h0) (fun z10 h1 => (k_ite (fun _ => (k_some (k_inr (k_inr (k_pair (kp1 h1) trivial))))) (fun _ => (k_chk (k_ite (fun _ => (k_some (k_inr (k_inr (k_pair (kp1 h1) trivial))))) (fun _ => (k_ob (K := (kP (kM q j v) kT)) (fr_F_Text_needs _ _ _ (by omega) (kp1 h1)) (fun z14 h2 => (k_ite (fun _ => (k_some (k_inr (k_inr (k_pair (kp1 h2) trivial))))) (fun _ => (k_btI (fun x16 => (k_some (k_inl (k_pair trivial (kp1 h2)))))))))))))))))))
set_option maxRecDepth 10000 in
set_option linter.unusedVariables false in
theorem fr_F_Text_linesOf_54 {q j : Nat} {v : Int32} (σ : Mem) (r1 : Nat) (rn1 : Nat) (v2 : Int32) (v3 : Int32) (_c0 : q < 54 ∨ 75 < q) (h0 : kM q j v σ) : (kO (kP (kM q j v) kT)) (F_Text_linesOf_54 σ r1 rn1 v2 v3) := by
  unfold F_Text_linesOf_54
  exact (k_bt (K := (kM q j v)) (fr_F_Row_copyAll _ _ _ _ _ (by omega) h0) (fun z1 h1 => (k_bt (K := (kM q j v)) (k_up (by omega) h1) (fun σ2 h2 => (k_bt (K := (kM q j v)) (k_up (by omega) h2) (fun σ3 h3 => (k_ob (K := (kM q j v)) (fr_F_Text_cut _ _ (by omega) h3) (fun z4 h4 => (k_bt (K := (kM q j v)) (k_up (by omega) h4) (fun σ5 h5 => (k_ob (K := (kM q j v)) (fr_F_Text_advance _ _ (by omega) h5) (fun z6 h6 => (k_chk (k_ite (fun _ => (k_some (k_pair h6 trivial))) (fun _ => (k_ob (K := (kS (kP kT (kM q j v)) (kP (kM q j v) kT))) (k_whl (K := (kP kT (kM q j v))) (fun s h8 => (fr_F_Text_linesOf_54_46_b _ _ _ _ _ _ (by omega) (by omega) (kp2 h8))) (k_pair trivial h6)) (fun z17 h7 => (k_sum h7 (fun s18 h9 => (k_bt (K := (kP (kM q j v) kT)) (fr_F_Text_refuse _ _ (by omega) (kp2 h9)) (fun z20 h11 => (k_some (k_pair (kp1 h11) trivial))))) (fun r19 h10 => (k_some h10))))))))))))))))))))
set_option maxRecDepth 10000 in
set_option linter.unusedVariables false in
theorem fr_F_M_has {q j : Nat} {v : Int32} (σ : Mem) (v1 : Int32) (v2 : Int32) (v3 : Int32) (_c0 : q ≠ 334) (h0 : kM q j v σ) : (kO (kM q j v)) (F_M_has σ v1 v2 v3) := by
  unfold F_M_has
  exact (k_btI (fun i1 => (k_chk (k_bt (K := (kM q j v)) (k_up (by omega) h0) (fun σ3 h1 => (k_some h1))))))
set_option maxRecDepth 10000 in
set_option linter.unusedVariables false in
theorem fr_F_M_told {q j : Nat} {v : Int32} (σ : Mem) (v1 : Int32) (v2 : Int32) (v3 : Int32) (_c0 : q ≠ 334) (h0 : kM q j v σ) : (kO (kM q j v)) (F_M_told σ v1 v2 v3) := by
  unfold F_M_told
  exact (k_btI (fun i1 => (k_chk (k_bt (K := (kM q j v)) (k_up (by omega) h0) (fun σ3 h1 => (k_some h1))))))
set_option maxRecDepth 10000 in
set_option linter.unusedVariables false in
theorem fr_F_M_feed_23_b {q j : Nat} {v : Int32} (v1 : Int32) (v2 : Int32) (v3 : Int32) (v4 : Int32) (v5 : Int32) (v6 : Int32) (σ : Mem) (_c0 : q ≠ 338) (_c1 : q ≠ 333 ∨ j ≠ 8) (h0 : kM q j v σ) : (kO (kM q j v)) (F_M_feed_23_b v1 v2 v3 v4 v5 v6 σ) := by
  unfold F_M_feed_23_b
  exact (k_ite (fun _ => (k_btI (fun i24 => (k_chk (k_bt (K := (kM q j v)) (k_up (by omega) h0) (fun σ26 h1 => (k_bt (K := (kM q j v)) (k_up (by omega) h1) (fun σ27 h2 => (k_some h2))))))))) (fun _ => (k_ite (fun _ => (k_btI (fun i20 => (k_chk (k_bt (K := (kM q j v)) (k_up (by omega) h0) (fun σ22 h3 => (k_bt (K := (kM q j v)) (k_up (by omega) h3) (fun σ23 h4 => (k_some h4))))))))) (fun _ => (k_ite (fun _ => (k_btI (fun i16 => (k_chk (k_bt (K := (kM q j v)) (k_up (by omega) h0) (fun σ18 h5 => (k_bt (K := (kM q j v)) (k_up (by omega) h5) (fun σ19 h6 => (k_some h6))))))))) (fun _ => (k_ite (fun _ => (k_btI (fun i12 => (k_chk (k_bt (K := (kM q j v)) (k_up (by omega) h0) (fun σ14 h7 => (k_bt (K := (kM q j v)) (k_up (by omega) h7) (fun σ15 h8 => (k_some h8))))))))) (fun _ => (k_btI (fun i8 => (k_chk (k_bt (K := (kM q j v)) (k_up (by omega) h0) (fun σ10 h9 => (k_bt (K := (kM q j v)) (k_up (by omega) h9) (fun σ11 h10 => (k_some h10))))))))))))))))
set_option maxRecDepth 10000 in
set_option linter.unusedVariables false in
theorem fr_F_M_feed {q j : Nat} {v : Int32} (σ : Mem) (v1 : Int32) (v2 : Int32) (v3 : Int32) (v4 : Int32) (v5 : Int32) (_c0 : q ≠ 338) (_c1 : q ≠ 333 ∨ j ≠ 0) (_c2 : q ≠ 333 ∨ j ≠ 8) (h0 : kM q j v σ) : (kO (kP (kM q j v) kT)) (F_M_feed σ v1 v2 v3 v4 v5) := by
  unfold F_M_feed
  exact (k_bt (K := (kM q j v)) (k_up (by omega) h0) (fun σ1 h1 => (k_ite (fun _ => (k_some (k_pair h1 trivial))) (fun _ => (k_ob (K := (kM q j v)) (k_forSO (K := (kM q j v)) (fun i s h3 => (fr_F_M_feed_23_b _ _ _ _ _ _ _ (by omega) (by omega) h3)) h1) (fun z29 h2 => (k_some (k_pair h2 trivial))))))))
set_option maxRecDepth 10000 in
set_option linter.unusedVariables false in
theorem fr_F_M_end {q j : Nat} {v : Int32} (σ : Mem) (v1 : Int32) (_c0 : q ≠ 333 ∨ j ≠ 0) (_c1 : q ≠ 333 ∨ j ≠ 8) (h0 : kM q j v σ) : (kP (kM q j v) kT) (F_M_end σ v1) := by
  unfold F_M_end
  exact (k_bt (K := (kM q j v)) (k_up (by omega) h0) (fun σ1 h1 => (k_ite (fun _ => (k_pair h1 trivial)) (fun _ => (k_bt (K := (kM q j v)) (k_up (by omega) h1) (fun σ3 h2 => (k_pair h2 trivial)))))))
set_option maxRecDepth 10000 in
set_option linter.unusedVariables false in
theorem fr_F_M_skip_0_b {q j : Nat} {v : Int32} (σ : Mem) (_c0 : q ≠ 333 ∨ j ≠ 11) (h0 : kM q j v σ) : (kO (kS (kM q j v) (kM q j v))) (F_M_skip_0_b σ) := by
  unfold F_M_skip_0_b
  exact (k_ite (fun _ => (k_obI (fun z2 => (k_ite (fun _ => (k_bt (K := (kM q j v)) (k_up (by omega) h0) (fun σ4 h1 => (k_some (k_inl h1))))) (fun _ => (k_some (k_inr h0))))))) (fun _ => (k_some (k_inr h0))))
set_option maxRecDepth 10000 in
set_option linter.unusedVariables false in
theorem fr_F_M_skip {q j : Nat} {v : Int32} (σ : Mem) (_c0 : q ≠ 333 ∨ j ≠ 11) (h0 : kM q j v σ) : (kO (kM q j v)) (F_M_skip σ) := by
  unfold F_M_skip
  exact (k_ob (K := (kM q j v)) (k_whl (K := (kM q j v)) (fun s h2 => (fr_F_M_skip_0_b _ (by omega) h2)) h0) (fun z5 h1 => (k_some h1)))
set_option maxRecDepth 10000 in
set_option linter.unusedVariables false in
theorem fr_F_M_isSign {q j : Nat} {v : Int32} (σ : Mem) (v1 : Int32) (_c0 : q ≠ 333 ∨ j ≠ 11) (h0 : kM q j v σ) : (kO (kP (kM q j v) kT)) (F_M_isSign σ v1) := by
  unfold F_M_isSign
  exact (k_ob (K := (kM q j v)) (fr_F_M_skip _ (by omega) h0) (fun z1 h1 => (k_ite (fun _ => (k_obI (fun z3 => (k_ite (fun _ => (k_some (k_pair h1 trivial))) (fun _ => (k_some (k_pair h1 trivial))))))) (fun _ => (k_some (k_pair h1 trivial))))))
set_option maxRecDepth 10000 in
set_option linter.unusedVariables false in
theorem fr_F_M_wrong {q j : Nat} {v : Int32} (σ : Mem) (v1 : Int32) (_c0 : q ≠ 333 ∨ j ≠ 12) (h0 : kM q j v σ) : (kM q j v) (F_M_wrong σ v1) := by
  unfold F_M_wrong
  exact (k_ite (fun _ => (k_bt (K := (kM q j v)) (k_up (by omega) h0) (fun σ2 h1 => h1))) (fun _ => h0))
set_option maxRecDepth 10000 in
set_option linter.unusedVariables false in
theorem fr_F_M_place {q j : Nat} {v : Int32} (σ : Mem) (_c0 : q ≠ 333 ∨ j ≠ 11) (h0 : kM q j v σ) : (kO (kP (kM q j v) kT)) (F_M_place σ) := by
  unfold F_M_place
  exact (k_ob (K := (kM q j v)) (fr_F_M_skip _ (by omega) h0) (fun z1 h1 => (k_some (k_pair h1 trivial))))
set_option maxRecDepth 10000 in
set_option linter.unusedVariables false in
theorem fr_F_M_figures_18_b {q j : Nat} {v : Int32} (v1 : Int32) (v2 : Int32) (v3 : Int32) (v4 : Int32) (σ : Mem) (_c0 : q ≠ 333 ∨ j ≠ 11) (h0 : kM q j v σ) : (kO (kS (kP kT (kM q j v)) (kP kT (kM q j v)))) (F_M_figures_18_b v1 v2 v3 v4 σ) := by
  unfold F_M_figures_18_b
  exact (k_ite (fun _ => (k_obI (fun z4 => (k_ite (fun _ => (k_some (k_inr (k_pair trivial h0)))) (fun _ => (k_ite (fun _ => (k_some (k_inr (k_pair trivial h0)))) (fun _ => (k_obI (fun z7 => (k_btI (fun x8 => (k_bt (K := (kM q j v)) (k_up (by omega) h0) (fun σ9 h1 => (k_some (k_inl (k_pair trivial h1)))))))))))))))) (fun _ => (k_some (k_inr (k_pair trivial h0)))))
set_option maxRecDepth 10000 in
set_option linter.unusedVariables false in
theorem fr_F_M_figures {q j : Nat} {v : Int32} (σ : Mem) (v1 : Int32) (v2 : Int32) (_c0 : q ≠ 333 ∨ j ≠ 11) (_c1 : q ≠ 333 ∨ j ≠ 12) (h0 : kM q j v σ) : (kO (kP (kM q j v) kT)) (F_M_figures σ v1 v2) := by
  unfold F_M_figures
  exact (k_ite (fun _ => (k_ob (K := (kP (kM q j v) kT)) (fr_F_M_place _ (by omega) h0) (fun z2 h1 => (k_ob (K := (kP kT (kM q j v))) (k_whl (K := (kP kT (kM q j v))) (fun s h3 => (fr_F_M_figures_18_b _ _ _ _ _ (by omega) (kp2 h3))) (k_pair trivial (kp1 h1))) (fun z10 h2 => (k_ite (fun _ => (k_bt (K := (kM q j v)) (fr_F_M_wrong _ _ (by omega) (kp2 h2)) (fun z12 h4 => (k_some (k_pair h4 trivial))))) (fun _ => (k_ite (fun _ => (k_bt (K := (kM q j v)) (fr_F_M_wrong _ _ (by omega) (kp2 h2)) (fun z14 h5 => (k_some (k_pair h5 trivial))))) (fun _ => (k_ite (fun _ => (k_bt (K := (kM q j v)) (fr_F_M_wrong _ _ (by omega) (kp2 h2)) (fun z16 h6 => (k_some (k_pair h6 trivial))))) (fun _ => (k_ite (fun _ => (k_bt (K := (kM q j v)) (fr_F_M_wrong _ _ (by omega) (kp2 h2)) (fun z18 h7 => (k_some (k_pair h7 trivial))))) (fun _ => (k_some (k_pair (kp2 h2) trivial))))))))))))))) (fun _ => (k_some (k_pair h0 trivial))))
set_option maxRecDepth 10000 in
set_option linter.unusedVariables false in
theorem fr_F_M_who {q j : Nat} {v : Int32} (σ : Mem) (_c0 : q ≠ 333 ∨ j ≠ 11) (_c1 : q ≠ 333 ∨ j ≠ 12) (h0 : kM q j v σ) : (kO (kP (kM q j v) kT)) (F_M_who σ) := by
  unfold F_M_who
  exact (k_ob (K := (kP (kM q j v) kT)) (fr_F_M_figures _ _ _ (by omega) (by omega) h0) (fun z1 h1 => (k_some (k_pair (kp1 h1) trivial))))
set_option maxRecDepth 10000 in
set_option linter.unusedVariables false in
theorem fr_F_M_other {q j : Nat} {v : Int32} (σ : Mem) (v1 : Int32) (_c0 : q ≠ 333 ∨ j ≠ 11) (_c1 : q ≠ 333 ∨ j ≠ 12) (h0 : kM q j v σ) : (kO (kP (kM q j v) kT)) (F_M_other σ v1) := by
  unfold F_M_other
  exact (k_ob (K := (kP (kM q j v) kT)) (fr_F_M_place _ (by omega) h0) (fun z1 h1 => (k_ob (K := (kP (kM q j v) kT)) (fr_F_M_who _ (by omega) (by omega) (kp1 h1)) (fun z2 h2 => (k_ite (fun _ => (k_ite (fun _ => (k_bt (K := (kM q j v)) (fr_F_M_wrong _ _ (by omega) (kp1 h2)) (fun z5 h3 => (k_some (k_pair h3 trivial))))) (fun _ => (k_some (k_pair (kp1 h2) trivial))))) (fun _ => (k_some (k_pair (kp1 h2) trivial))))))))
set_option maxRecDepth 10000 in
set_option linter.unusedVariables false in
theorem fr_F_M_likings_79_b {q j : Nat} {v : Int32} (v1 : Int32) (v2 : Int32) (v3 : Int32) (v4 : Int32) (σ : Mem) (_c0 : q ≠ 334) (_c1 : q ≠ 333 ∨ j ≠ 11) (h0 : kM q j v σ) : (kO (kM q j v)) (F_M_likings_79_b v1 v2 v3 v4 σ) := by
  unfold F_M_likings_79_b
  exact (k_ite (fun _ => (k_bt (K := (kM q j v)) (k_up (by omega) h0) (fun σ12 h1 => (k_some h1)))) (fun _ => (k_obI (fun z13 => (k_btI (fun i14 => (k_chk (k_bt (K := (kM q j v)) (k_up (by omega) h0) (fun σ16 h2 => (k_bt (K := (kM q j v)) (k_up (by omega) h2) (fun σ17 h3 => (k_some h3))))))))))))
set_option maxRecDepth 10000 in
set_option linter.unusedVariables false in
theorem fr_F_M_likings {q j : Nat} {v : Int32} (σ : Mem) (_c0 : q ≠ 334) (_c1 : q ≠ 333 ∨ j ≠ 11) (_c2 : q ≠ 333 ∨ j ≠ 12) (h0 : kM q j v σ) : (kO (kM q j v)) (F_M_likings σ) := by
  unfold F_M_likings
  exact (k_ob (K := (kP (kM q j v) kT)) (fr_F_M_who _ (by omega) (by omega) h0) (fun z1 h1 => (k_ite (fun _ => (k_ob (K := (kP (kM q j v) kT)) (fr_F_M_place _ (by omega) (kp1 h1)) (fun z3 h2 => (k_obI (fun z8 => (k_ite (fun _ => (k_ob (K := (kM q j v)) (k_forSO (K := (kM q j v)) (fun i s h4 => (fr_F_M_likings_79_b _ _ _ _ _ (by omega) (by omega) h4)) (kp1 h2)) (fun z19 h3 => (k_some h3)))) (fun _ => (k_bt (K := (kM q j v)) (fr_F_M_wrong _ _ (by omega) (kp1 h2)) (fun z20 h5 => (k_some h5)))))))))) (fun _ => (k_some (kp1 h1))))))
set_option maxRecDepth 10000 in
set_option linter.unusedVariables false in
theorem fr_F_M_free {q j : Nat} {v : Int32} (σ : Mem) (v1 : Int32) (v2 : Int32) (_c0 : q ≠ 333 ∨ j ≠ 12) (h0 : kM q j v σ) : (kO (kM q j v)) (F_M_free σ v1 v2) := by
  unfold F_M_free
  exact (k_ite (fun _ => (k_obI (fun z2 => (k_ite (fun _ => (k_some h0)) (fun _ => (k_bt (K := (kM q j v)) (fr_F_M_wrong _ _ (by omega) h0) (fun z4 h1 => (k_some h1)))))))) (fun _ => (k_some h0)))
set_option maxRecDepth 10000 in
set_option linter.unusedVariables false in
theorem fr_F_M_comes {q j : Nat} {v : Int32} (σ : Mem) (v1 : Int32) (v2 : Int32) (v3 : Int32) (_c0 : q ≠ 334) (h0 : kM q j v σ) : (kO (kM q j v)) (F_M_comes σ v1 v2 v3) := by
  unfold F_M_comes
  exact (k_btI (fun x1 => (k_ob (K := (kM q j v)) (fr_F_M_told _ _ _ _ (by omega) h0) (fun z2 h1 => (k_ob (K := (kM q j v)) (fr_F_M_told _ _ _ _ (by omega) h1) (fun z3 h2 => (k_ob (K := (kM q j v)) (fr_F_M_told _ _ _ _ (by omega) h2) (fun z4 h3 => (k_ob (K := (kM q j v)) (fr_F_M_told _ _ _ _ (by omega) h3) (fun z5 h4 => (k_ob (K := (kM q j v)) (fr_F_M_told _ _ _ _ (by omega) h4) (fun z6 h5 => (k_bt (K := (kM q j v)) (k_up (by omega) h5) (fun σ7 h6 => (k_some h6)))))))))))))))
set_option maxRecDepth 10000 in
set_option linter.unusedVariables false in
theorem fr_F_M_personLine_72_b {q j : Nat} {v : Int32} (v1 : Int32) (v2 : Int32) (v3 : Int32) (v4 : Int32) (σ : Mem) (_c0 : q ≠ 334) (h0 : kM q j v σ) : (kO (kM q j v)) (F_M_personLine_72_b v1 v2 v3 v4 σ) := by
  unfold F_M_personLine_72_b
  exact (k_btI (fun i10 => (k_chk (k_bt (K := (kM q j v)) (k_up (by omega) h0) (fun σ12 h1 => (k_btI (fun i13 => (k_chk (k_bt (K := (kM q j v)) (k_up (by omega) h1) (fun σ15 h2 => (k_some h2)))))))))))
set_option maxRecDepth 10000 in
set_option linter.unusedVariables false in
theorem fr_F_M_personLine {q j : Nat} {v : Int32} (σ : Mem) (v1 : Int32) (_c0 : q ≠ 334) (_c1 : q ≠ 333 ∨ j ≠ 11) (_c2 : q ≠ 333 ∨ j ≠ 12) (h0 : kM q j v σ) : (kO (kM q j v)) (F_M_personLine σ v1) := by
  unfold F_M_personLine
  exact (k_ite (fun _ => (k_bt (K := (kM q j v)) (fr_F_M_wrong _ _ (by omega) h0) (fun z19 h1 => (k_ob (K := (kP (kM q j v) kT)) (fr_F_M_figures _ _ _ (by omega) (by omega) h1) (fun z20 h2 => (k_ite (fun _ => (k_btI (fun x22 => (k_ob (K := (kM q j v)) (fr_F_M_has _ _ _ _ (by omega) (kp1 h2)) (fun z23 h3 => (k_ob (K := (kM q j v)) (fr_F_M_has _ _ _ _ (by omega) h3) (fun z24 h4 => (k_ob (K := (kM q j v)) (fr_F_M_has _ _ _ _ (by omega) h4) (fun z25 h5 => (k_ob (K := (kM q j v)) (fr_F_M_has _ _ _ _ (by omega) h5) (fun z26 h6 => (k_ob (K := (kM q j v)) (k_forSO (K := (kM q j v)) (fun i s h8 => (fr_F_M_personLine_72_b _ _ _ _ _ (by omega) h8)) h6) (fun z27 h7 => (k_bt (K := (kM q j v)) (k_up (by omega) h7) (fun σ28 h9 => (k_some h9)))))))))))))))) (fun _ => (k_some (kp1 h2))))))))) (fun _ => (k_ob (K := (kP (kM q j v) kT)) (fr_F_M_figures _ _ _ (by omega) (by omega) h0) (fun z2 h10 => (k_ite (fun _ => (k_btI (fun x4 => (k_ob (K := (kM q j v)) (fr_F_M_has _ _ _ _ (by omega) (kp1 h10)) (fun z5 h11 => (k_ob (K := (kM q j v)) (fr_F_M_has _ _ _ _ (by omega) h11) (fun z6 h12 => (k_ob (K := (kM q j v)) (fr_F_M_has _ _ _ _ (by omega) h12) (fun z7 h13 => (k_ob (K := (kM q j v)) (fr_F_M_has _ _ _ _ (by omega) h13) (fun z8 h14 => (k_ob (K := (kM q j v)) (k_forSO (K := (kM q j v)) (fun i s h16 => (fr_F_M_personLine_72_b _ _ _ _ _ (by omega) h16)) h14) (fun z17 h15 => (k_bt (K := (kM q j v)) (k_up (by omega) h15) (fun σ18 h17 => (k_some h17)))))))))))))))) (fun _ => (k_some (kp1 h10))))))))
set_option maxRecDepth 10000 in
set_option linter.unusedVariables false in
theorem fr_F_M_tells {q j : Nat} {v : Int32} (σ : Mem) (v1 : Int32) (v2 : Int32) (_c0 : q ≠ 334) (_c1 : q ≠ 333 ∨ j ≠ 11) (_c2 : q ≠ 333 ∨ j ≠ 12) (h0 : kM q j v σ) : (kO (kM q j v)) (F_M_tells σ v1 v2) := by
  unfold F_M_tells
  exact (k_ob (K := (kP (kM q j v) kT)) (fr_F_M_figures _ _ _ (by omega) (by omega) h0) (fun z1 h1 => (k_ite (fun _ => (k_chk (k_bt (K := (kM q j v)) (k_up (by omega) (kp1 h1)) (fun σ4 h2 => (k_some h2))))) (fun _ => (k_some (kp1 h1))))))
set_option maxRecDepth 10000 in
set_option linter.unusedVariables false in
theorem fr_F_M_begins {q j : Nat} {v : Int32} (σ : Mem) (_c0 : q ≠ 333 ∨ j ≠ 8) (_c1 : q ≠ 333 ∨ j ≠ 9) (_c2 : q ≠ 333 ∨ j ≠ 10) (_c3 : q ≠ 333 ∨ j ≠ 11) (_c4 : q ≠ 333 ∨ j ≠ 12) (_c5 : q ≠ 333 ∨ j ≠ 13) (h0 : kM q j v σ) : (kM q j v) (F_M_begins σ) := by
  unfold F_M_begins
  exact (k_bt (K := (kM q j v)) (k_up (by omega) h0) (fun σ1 h1 => (k_bt (K := (kM q j v)) (k_up (by omega) h1) (fun σ2 h2 => (k_bt (K := (kM q j v)) (k_up (by omega) h2) (fun σ3 h3 => (k_bt (K := (kM q j v)) (k_up (by omega) h3) (fun σ4 h4 => (k_bt (K := (kM q j v)) (k_up (by omega) h4) (fun σ5 h5 => (k_bt (K := (kM q j v)) (k_up (by omega) h5) (fun σ6 h6 => h6))))))))))))
set_option maxRecDepth 10000 in
set_option linter.unusedVariables false in
theorem fr_F_M_putsAside_2_b {q j : Nat} {v : Int32} (v1 : Int32) (σ : Mem) (_c0 : q ≠ 336) (h0 : kM q j v σ) : (kO (kM q j v)) (F_M_putsAside_2_b v1 σ) := by
  unfold F_M_putsAside_2_b
  exact (k_bt (K := (kM q j v)) (k_up (by omega) h0) (fun σ2 h1 => (k_some h1)))
set_option maxRecDepth 10000 in
set_option linter.unusedVariables false in
theorem fr_F_M_putsAside {q j : Nat} {v : Int32} (σ : Mem) (_c0 : q ≠ 336) (h0 : kM q j v σ) : (kO (kM q j v)) (F_M_putsAside σ) := by
  unfold F_M_putsAside
  exact (k_ob (K := (kM q j v)) (k_forSO (K := (kM q j v)) (fun i s h2 => (fr_F_M_putsAside_2_b _ _ (by omega) h2)) h0) (fun z4 h1 => (k_some h1)))
set_option maxRecDepth 10000 in
set_option linter.unusedVariables false in
theorem fr_F_M_comesBack_2_b {q j : Nat} {v : Int32} (v1 : Int32) (σ : Mem) (_c0 : q ≠ 334) (h0 : kM q j v σ) : (kO (kM q j v)) (F_M_comesBack_2_b v1 σ) := by
  unfold F_M_comesBack_2_b
  exact (k_bt (K := (kM q j v)) (k_up (by omega) h0) (fun σ2 h1 => (k_some h1)))
set_option maxRecDepth 10000 in
set_option linter.unusedVariables false in
theorem fr_F_M_comesBack {q j : Nat} {v : Int32} (σ : Mem) (_c0 : q ≠ 334) (h0 : kM q j v σ) : (kO (kM q j v)) (F_M_comesBack σ) := by
  unfold F_M_comesBack
  exact (k_ob (K := (kM q j v)) (k_forSO (K := (kM q j v)) (fun i s h2 => (fr_F_M_comesBack_2_b _ _ (by omega) h2)) h0) (fun z4 h1 => (k_some h1)))
set_option maxRecDepth 10000 in
set_option linter.unusedVariables false in
theorem fr_F_M_fault {q j : Nat} {v : Int32} (σ : Mem) (_c0 : q ≠ 333 ∨ j ≠ 0) (h0 : kM q j v σ) : (kP (kM q j v) kT) (F_M_fault σ) := by
  unfold F_M_fault
  exact (k_bt (K := (kM q j v)) (k_up (by omega) h0) (fun σ1 h1 => (k_pair h1 trivial)))
set_option maxRecDepth 10000 in
set_option linter.unusedVariables false in
theorem fr_F_M_gets {q j : Nat} {v : Int32} (σ : Mem) (v1 : Int32) (v2 : Int32) (_c0 : q ≠ 334) (h0 : kM q j v σ) : (kO (kM q j v)) (F_M_gets σ v1 v2) := by
  unfold F_M_gets
  exact (k_obI (fun z1 => (k_ob (K := (kM q j v)) (fr_F_M_has _ _ _ _ (by omega) h0) (fun z2 h1 => (k_some h1)))))
set_option maxRecDepth 10000 in
set_option linter.unusedVariables false in
theorem fr_F_M_gives {q j : Nat} {v : Int32} (σ : Mem) (v1 : Int32) (v2 : Int32) (_c0 : q ≠ 334) (h0 : kM q j v σ) : (kO (kP (kM q j v) kT)) (F_M_gives σ v1 v2) := by
  unfold F_M_gives
  exact (k_obI (fun z1 => (k_btI (fun x2 => (k_ite (fun _ => (k_ob (K := (kM q j v)) (fr_F_M_has _ _ _ _ (by omega) h0) (fun z6 h1 => (k_obI (fun z7 => (k_ob (K := (kM q j v)) (fr_F_M_has _ _ _ _ (by omega) h1) (fun z8 h2 => (k_some (k_pair h2 trivial))))))))) (fun _ => (k_obI (fun z4 => (k_ob (K := (kM q j v)) (fr_F_M_has _ _ _ _ (by omega) h0) (fun z5 h3 => (k_some (k_pair h3 trivial))))))))))))
set_option maxRecDepth 10000 in
set_option linter.unusedVariables false in
theorem fr_F_M_pays {q j : Nat} {v : Int32} (σ : Mem) (v1 : Int32) (v2 : Int32) (_c0 : q ≠ 334) (h0 : kM q j v σ) : (kO (kP (kM q j v) kT)) (F_M_pays σ v1 v2) := by
  unfold F_M_pays
  exact (k_obI (fun z1 => (k_ite (fun _ => (k_ob (K := (kP (kM q j v) kT)) (fr_F_M_gives _ _ _ (by omega) h0) (fun z3 h1 => (k_some (k_pair (kp1 h1) trivial))))) (fun _ => (k_obI (fun z4 => (k_ite (fun _ => (k_ob (K := (kP (kM q j v) kT)) (fr_F_M_gives _ _ _ (by omega) h0) (fun z7 h2 => (k_ob (K := (kM q j v)) (fr_F_M_gets _ _ _ (by omega) (kp1 h2)) (fun z8 h3 => (k_ob (K := (kP (kM q j v) kT)) (fr_F_M_gives _ _ _ (by omega) h3) (fun z9 h4 => (k_some (k_pair (kp1 h4) trivial))))))))) (fun _ => (k_ob (K := (kP (kM q j v) kT)) (fr_F_M_gives _ _ _ (by omega) h0) (fun z6 h5 => (k_some (k_pair (kp1 h5) trivial))))))))))))
set_option maxRecDepth 10000 in
set_option linter.unusedVariables false in
theorem fr_F_M_claims_11_b {q j : Nat} {v : Int32} (v1 : Int32) (v2 : Int32) (v3 : Int32) (v4 : Int32) (σ : Mem) (_c0 : q ≠ 334) (h0 : kM q j v σ) : (kO (kS (kP kT (kP kT (kM q j v))) (kP kT (kP kT (kM q j v))))) (F_M_claims_11_b v1 v2 v3 v4 σ) := by
  unfold F_M_claims_11_b
  exact (k_ite (fun _ => (k_ite (fun _ => (k_btI (fun x4 => (k_some (k_inl (k_pair trivial (k_pair trivial h0))))))) (fun _ => (k_ob (K := (kP (kM q j v) kT)) (fr_F_M_pays _ _ _ (by omega) h0) (fun z5 h1 => (k_btI (fun x6 => (k_btI (fun x7 => (k_some (k_inl (k_pair trivial (k_pair trivial (kp1 h1)))))))))))))) (fun _ => (k_some (k_inr (k_pair trivial (k_pair trivial h0))))))
set_option maxRecDepth 10000 in
set_option linter.unusedVariables false in
theorem fr_F_M_claims {q j : Nat} {v : Int32} (σ : Mem) (v1 : Int32) (_c0 : q ≠ 334) (h0 : kM q j v σ) : (kO (kP (kM q j v) kT)) (F_M_claims σ v1) := by
  unfold F_M_claims
  exact (k_obI (fun z1 => (k_ob (K := (kP kT (kP kT (kM q j v)))) (k_whl (K := (kP kT (kP kT (kM q j v)))) (fun s h2 => (fr_F_M_claims_11_b _ _ _ _ _ (by omega) (kp2 (kp2 h2)))) (k_pair trivial (k_pair trivial h0))) (fun z8 h1 => (k_obI (fun z9 => (k_ob (K := (kM q j v)) (fr_F_M_gets _ _ _ (by omega) (kp2 (kp2 h1))) (fun z10 h3 => (k_obI (fun z11 => (k_ob (K := (kM q j v)) (fr_F_M_gets _ _ _ (by omega) h3) (fun z12 h4 => (k_some (k_pair h4 trivial))))))))))))))
set_option maxRecDepth 10000 in
set_option linter.unusedVariables false in
theorem fr_F_M_premiums_8_b {q j : Nat} {v : Int32} (v1 : Int32) (v2 : Int32) (v3 : Int32) (σ : Mem) (_c0 : q ≠ 334) (h0 : kM q j v σ) : (kO (kS (kP kT (kM q j v)) (kP kT (kM q j v)))) (F_M_premiums_8_b v1 v2 v3 σ) := by
  unfold F_M_premiums_8_b
  exact (k_ite (fun _ => (k_ite (fun _ => (k_btI (fun x16 => (k_some (k_inl (k_pair trivial h0)))))) (fun _ => (k_obI (fun z4 => (k_obI (fun z5 => (k_obI (fun z6 => (k_btI (fun x7 => (k_obI (fun z8 => (k_btI (fun x9 => (k_obI (fun z10 => (k_ob (K := (kM q j v)) (fr_F_M_has _ _ _ _ (by omega) h0) (fun z11 h1 => (k_obI (fun z12 => (k_ob (K := (kM q j v)) (fr_F_M_has _ _ _ _ (by omega) h1) (fun z13 h2 => (k_ob (K := (kM q j v)) (fr_F_M_gets _ _ _ (by omega) h2) (fun z14 h3 => (k_btI (fun x15 => (k_some (k_inl (k_pair trivial h3)))))))))))))))))))))))))))))) (fun _ => (k_some (k_inr (k_pair trivial h0)))))
set_option maxRecDepth 10000 in
set_option linter.unusedVariables false in
theorem fr_F_M_premiums {q j : Nat} {v : Int32} (σ : Mem) (v1 : Int32) (_c0 : q ≠ 334) (h0 : kM q j v σ) : (kO (kM q j v)) (F_M_premiums σ v1) := by
  unfold F_M_premiums
  exact (k_obI (fun z1 => (k_ob (K := (kP kT (kM q j v))) (k_whl (K := (kP kT (kM q j v))) (fun s h2 => (fr_F_M_premiums_8_b _ _ _ _ (by omega) (kp2 h2))) (k_pair trivial h0)) (fun z17 h1 => (k_some (kp2 h1))))))
set_option maxRecDepth 10000 in
set_option linter.unusedVariables false in
theorem fr_F_M_draw {q j : Nat} {v : Int32} (σ : Mem) (v1 : Int32) (_c0 : q ≠ 334) (h0 : kM q j v σ) : (kO (kP (kM q j v) kT)) (F_M_draw σ v1) := by
  unfold F_M_draw
  exact (k_bt (K := (kM q j v)) (k_up (by omega) h0) (fun σ1 h1 => (k_chk (k_some (k_pair h1 trivial)))))
set_option maxRecDepth 10000 in
set_option linter.unusedVariables false in
theorem fr_F_M_logs_5_b {q j : Nat} {v : Int32} (v1 : Int32) (v2 : Int32) (v3 : Int32) (v4 : Int32) (σ : Mem) (_c0 : q ≠ 334) (h0 : kM q j v σ) : (kO (kS (kP kT (kM q j v)) (kP kT (kM q j v)))) (F_M_logs_5_b v1 v2 v3 v4 σ) := by
  unfold F_M_logs_5_b
  exact (k_ite (fun _ => (k_some (k_inr (k_pair trivial h0)))) (fun _ => (k_btI (fun i2 => (k_chk (k_btI (fun i4 => (k_chk (k_bt (K := (kM q j v)) (k_up (by omega) h0) (fun σ6 h1 => (k_btI (fun x7 => (k_some (k_inl (k_pair trivial h1)))))))))))))))
set_option maxRecDepth 10000 in
set_option linter.unusedVariables false in
theorem fr_F_M_logs {q j : Nat} {v : Int32} (σ : Mem) (v1 : Int32) (v2 : Int32) (v3 : Int32) (_c0 : q ≠ 334) (h0 : kM q j v σ) : (kO (kM q j v)) (F_M_logs σ v1 v2 v3) := by
  unfold F_M_logs
  exact (k_ob (K := (kP kT (kM q j v))) (k_whl (K := (kP kT (kM q j v))) (fun s h2 => (fr_F_M_logs_5_b _ _ _ _ _ (by omega) (kp2 h2))) (k_pair trivial h0)) (fun z8 h1 => (k_bt (K := (kM q j v)) (k_up (by omega) (kp2 h1)) (fun σ9 h3 => (k_bt (K := (kM q j v)) (k_up (by omega) h3) (fun σ10 h4 => (k_bt (K := (kM q j v)) (k_up (by omega) h4) (fun σ11 h5 => (k_bt (K := (kM q j v)) (k_up (by omega) h5) (fun σ12 h6 => (k_bt (K := (kM q j v)) (k_up (by omega) h6) (fun σ13 h7 => (k_bt (K := (kM q j v)) (k_up (by omega) h7) (fun σ14 h8 => (k_some h8)))))))))))))))
set_option maxRecDepth 10000 in
set_option linter.unusedVariables false in
theorem fr_F_M_liking {q j : Nat} {v : Int32} (σ : Mem) (v1 : Int32) (v2 : Int32) (_c0 : q ≠ 333 ∨ j ≠ 0) (h0 : kM q j v σ) : (kO (kP (kM q j v) kT)) (F_M_liking σ v1 v2) := by
  unfold F_M_liking
  exact (k_obI (fun z1 => (k_bt (K := (kM q j v)) (k_up (by omega) h0) (fun σ2 h1 => (k_ite (fun _ => (k_some (k_pair h1 trivial))) (fun _ => (k_obI (fun z4 => (k_some (k_pair h1 trivial))))))))))
set_option maxRecDepth 10000 in
set_option linter.unusedVariables false in
theorem fr_F_M_remembers_52_b {q j : Nat} {v : Int32} (v1 : Int32) (σ : Mem) (_c0 : q ≠ 337) (h0 : kM q j v σ) : (kO (kM q j v)) (F_M_remembers_52_b v1 σ) := by
  unfold F_M_remembers_52_b
  exact (k_btI (fun i3 => (k_chk (k_bt (K := (kM q j v)) (k_up (by omega) h0) (fun σ5 h1 => (k_some h1))))))
set_option maxRecDepth 10000 in
set_option linter.unusedVariables false in
theorem fr_F_M_remembers_11_b {q j : Nat} {v : Int32} (v1 : Int32) (σ : Mem) (_c0 : q ≠ 337) (h0 : kM q j v σ) : (kO (kM q j v)) (F_M_remembers_11_b v1 σ) := by
  unfold F_M_remembers_11_b
  exact (k_btI (fun i10 => (k_chk (k_bt (K := (kM q j v)) (k_up (by omega) h0) (fun σ12 h1 => (k_some h1))))))
set_option maxRecDepth 10000 in
set_option linter.unusedVariables false in
theorem fr_F_M_remembers {q j : Nat} {v : Int32} (σ : Mem) (_c0 : q ≠ 337) (_c1 : q ≠ 333 ∨ j ≠ 6) (h0 : kM q j v σ) : (kO (kM q j v)) (F_M_remembers σ) := by
  unfold F_M_remembers
  exact (k_ite (fun _ => (k_ob (K := (kM q j v)) (k_forSO (K := (kM q j v)) (fun i s h2 => (fr_F_M_remembers_11_b _ _ (by omega) h2)) h0) (fun z14 h1 => (k_bt (K := (kM q j v)) (k_up (by omega) h1) (fun σ15 h3 => (k_ob (K := (kM q j v)) (k_forSO (K := (kM q j v)) (fun i s h5 => (fr_F_M_remembers_52_b _ _ (by omega) h5)) h3) (fun z16 h4 => (k_bt (K := (kM q j v)) (k_up (by omega) h4) (fun σ17 h6 => (k_some h6)))))))))) (fun _ => (k_ob (K := (kM q j v)) (k_forSO (K := (kM q j v)) (fun i s h8 => (fr_F_M_remembers_52_b _ _ (by omega) h8)) h0) (fun z7 h7 => (k_bt (K := (kM q j v)) (k_up (by omega) h7) (fun σ8 h9 => (k_some h9)))))))
set_option maxRecDepth 10000 in
set_option linter.unusedVariables false in
theorem fr_F_M_ask {q j : Nat} {v : Int32} (σ : Mem) (v1 : Int32) (v2 : Int32) (_c0 : q ≠ 334) (_c1 : q ≠ 337) (_c2 : q ≠ 333 ∨ j ≠ 0) (_c3 : q ≠ 333 ∨ j ≠ 6) (h0 : kM q j v σ) : (kO (kP (kM q j v) kT)) (F_M_ask σ v1 v2) := by
  unfold F_M_ask
  exact (k_obI (fun z1 => (k_bt (K := (kM q j v)) (k_up (by omega) h0) (fun σ2 h1 => (k_ite (fun _ => (k_some (k_pair h1 trivial))) (fun _ => (k_ob (K := (kM q j v)) (fr_F_M_remembers _ (by omega) (by omega) h1) (fun z4 h2 => (k_obI (fun z5 => (k_btI (fun x6 => (k_obI (fun z7 => (k_ob (K := (kM q j v)) (fr_F_M_has _ _ _ _ (by omega) h2) (fun z8 h3 => (k_ite (fun _ => (k_some (k_pair h3 trivial))) (fun _ => (k_some (k_pair h3 trivial))))))))))))))))))))
set_option maxRecDepth 10000 in
set_option linter.unusedVariables false in
theorem fr_F_M_wed {q j : Nat} {v : Int32} (σ : Mem) (v1 : Int32) (v2 : Int32) (_c0 : q ≠ 334) (_c1 : q ≠ 337) (_c2 : q ≠ 333 ∨ j ≠ 0) (_c3 : q ≠ 333 ∨ j ≠ 6) (h0 : kM q j v σ) : (kO (kP (kM q j v) kT)) (F_M_wed σ v1 v2) := by
  unfold F_M_wed
  exact (k_obI (fun z1 => (k_bt (K := (kM q j v)) (k_up (by omega) h0) (fun σ2 h1 => (k_ite (fun _ => (k_obI (fun z7 => (k_ite (fun _ => (k_obI (fun z13 => (k_ite (fun _ => (k_ite (fun _ => (k_bt (K := (kM q j v)) (k_up (by omega) h1) (fun σ20 h2 => (k_ite (fun _ => (k_some (k_pair h2 trivial))) (fun _ => (k_ob (K := (kM q j v)) (fr_F_M_remembers _ (by omega) (by omega) h2) (fun z22 h3 => (k_ob (K := (kM q j v)) (fr_F_M_comes _ _ _ _ (by omega) h3) (fun z23 h4 => (k_some (k_pair h4 trivial))))))))))) (fun _ => (k_bt (K := (kM q j v)) (k_up (by omega) h1) (fun σ16 h5 => (k_ite (fun _ => (k_some (k_pair h5 trivial))) (fun _ => (k_ob (K := (kM q j v)) (fr_F_M_remembers _ (by omega) (by omega) h5) (fun z18 h6 => (k_ob (K := (kM q j v)) (fr_F_M_comes _ _ _ _ (by omega) h6) (fun z19 h7 => (k_some (k_pair h7 trivial))))))))))))) (fun _ => (k_bt (K := (kM q j v)) (k_up (by omega) h1) (fun σ24 h8 => (k_ite (fun _ => (k_some (k_pair h8 trivial))) (fun _ => (k_ob (K := (kM q j v)) (fr_F_M_remembers _ (by omega) (by omega) h8) (fun z26 h9 => (k_ob (K := (kM q j v)) (fr_F_M_comes _ _ _ _ (by omega) h9) (fun z27 h10 => (k_some (k_pair h10 trivial))))))))))))))) (fun _ => (k_bt (K := (kM q j v)) (k_up (by omega) h1) (fun σ9 h11 => (k_ite (fun _ => (k_some (k_pair h11 trivial))) (fun _ => (k_ob (K := (kM q j v)) (fr_F_M_remembers _ (by omega) (by omega) h11) (fun z11 h12 => (k_ob (K := (kM q j v)) (fr_F_M_comes _ _ _ _ (by omega) h12) (fun z12 h13 => (k_some (k_pair h13 trivial))))))))))))))) (fun _ => (k_ite (fun _ => (k_some (k_pair h1 trivial))) (fun _ => (k_ob (K := (kM q j v)) (fr_F_M_remembers _ (by omega) (by omega) h1) (fun z5 h14 => (k_ob (K := (kM q j v)) (fr_F_M_comes _ _ _ _ (by omega) h14) (fun z6 h15 => (k_some (k_pair h15 trivial))))))))))))))
set_option maxRecDepth 10000 in
set_option linter.unusedVariables false in
theorem fr_F_M_gift {q j : Nat} {v : Int32} (σ : Mem) (v1 : Int32) (v2 : Int32) (_c0 : q ≠ 334) (_c1 : q ≠ 337) (_c2 : q ≠ 333 ∨ j ≠ 0) (_c3 : q ≠ 333 ∨ j ≠ 6) (h0 : kM q j v σ) : (kO (kP (kM q j v) kT)) (F_M_gift σ v1 v2) := by
  unfold F_M_gift
  exact (k_obI (fun z1 => (k_ite (fun _ => (k_bt (K := (kM q j v)) (k_up (by omega) h0) (fun σ3 h1 => (k_ite (fun _ => (k_some (k_pair h1 trivial))) (fun _ => (k_ob (K := (kM q j v)) (fr_F_M_remembers _ (by omega) (by omega) h1) (fun z5 h2 => (k_obI (fun z6 => (k_ob (K := (kM q j v)) (fr_F_M_has _ _ _ _ (by omega) h2) (fun z7 h3 => (k_obI (fun z8 => (k_ob (K := (kM q j v)) (fr_F_M_told _ _ _ _ (by omega) h3) (fun z9 h4 => (k_obI (fun z10 => (k_some (k_pair h4 trivial))))))))))))))))))) (fun _ => (k_obI (fun z11 => (k_ite (fun _ => (k_bt (K := (kM q j v)) (k_up (by omega) h0) (fun σ41 h5 => (k_ite (fun _ => (k_some (k_pair h5 trivial))) (fun _ => (k_ob (K := (kM q j v)) (fr_F_M_remembers _ (by omega) (by omega) h5) (fun z43 h6 => (k_obI (fun z44 => (k_ob (K := (kM q j v)) (fr_F_M_has _ _ _ _ (by omega) h6) (fun z45 h7 => (k_obI (fun z46 => (k_ob (K := (kM q j v)) (fr_F_M_told _ _ _ _ (by omega) h7) (fun z47 h8 => (k_obI (fun z48 => (k_some (k_pair h8 trivial))))))))))))))))))) (fun _ => (k_obI (fun z13 => (k_ite (fun _ => (k_bt (K := (kM q j v)) (k_up (by omega) h0) (fun σ15 h9 => (k_ite (fun _ => (k_some (k_pair h9 trivial))) (fun _ => (k_ob (K := (kM q j v)) (fr_F_M_remembers _ (by omega) (by omega) h9) (fun z17 h10 => (k_obI (fun z18 => (k_ob (K := (kM q j v)) (fr_F_M_has _ _ _ _ (by omega) h10) (fun z19 h11 => (k_obI (fun z20 => (k_ob (K := (kM q j v)) (fr_F_M_told _ _ _ _ (by omega) h11) (fun z21 h12 => (k_obI (fun z22 => (k_some (k_pair h12 trivial))))))))))))))))))) (fun _ => (k_obI (fun z23 => (k_ite (fun _ => (k_bt (K := (kM q j v)) (k_up (by omega) h0) (fun σ33 h13 => (k_ite (fun _ => (k_some (k_pair h13 trivial))) (fun _ => (k_ob (K := (kM q j v)) (fr_F_M_remembers _ (by omega) (by omega) h13) (fun z35 h14 => (k_obI (fun z36 => (k_ob (K := (kM q j v)) (fr_F_M_has _ _ _ _ (by omega) h14) (fun z37 h15 => (k_obI (fun z38 => (k_ob (K := (kM q j v)) (fr_F_M_told _ _ _ _ (by omega) h15) (fun z39 h16 => (k_obI (fun z40 => (k_some (k_pair h16 trivial))))))))))))))))))) (fun _ => (k_bt (K := (kM q j v)) (k_up (by omega) h0) (fun σ25 h17 => (k_ite (fun _ => (k_some (k_pair h17 trivial))) (fun _ => (k_ob (K := (kM q j v)) (fr_F_M_remembers _ (by omega) (by omega) h17) (fun z27 h18 => (k_obI (fun z28 => (k_ob (K := (kM q j v)) (fr_F_M_has _ _ _ _ (by omega) h18) (fun z29 h19 => (k_obI (fun z30 => (k_ob (K := (kM q j v)) (fr_F_M_told _ _ _ _ (by omega) h19) (fun z31 h20 => (k_obI (fun z32 => (k_some (k_pair h20 trivial))))))))))))))))))))))))))))))))))
set_option maxRecDepth 10000 in
set_option linter.unusedVariables false in
theorem fr_F_M_meddle {q j : Nat} {v : Int32} (σ : Mem) (v1 : Int32) (v2 : Int32) (_c0 : q ≠ 334) (_c1 : q ≠ 337) (_c2 : q ≠ 333 ∨ j ≠ 0) (_c3 : q ≠ 333 ∨ j ≠ 6) (h0 : kM q j v σ) : (kO (kP (kM q j v) kT)) (F_M_meddle σ v1 v2) := by
  unfold F_M_meddle
  exact (k_obI (fun z1 => (k_ite (fun _ => (k_bt (K := (kM q j v)) (k_up (by omega) h0) (fun σ3 h1 => (k_ite (fun _ => (k_some (k_pair h1 trivial))) (fun _ => (k_ob (K := (kM q j v)) (fr_F_M_remembers _ (by omega) (by omega) h1) (fun z5 h2 => (k_obI (fun z6 => (k_ob (K := (kM q j v)) (fr_F_M_told _ _ _ _ (by omega) h2) (fun z7 h3 => (k_obI (fun z8 => (k_some (k_pair h3 trivial))))))))))))))) (fun _ => (k_obI (fun z9 => (k_ite (fun _ => (k_bt (K := (kM q j v)) (k_up (by omega) h0) (fun σ25 h4 => (k_ite (fun _ => (k_some (k_pair h4 trivial))) (fun _ => (k_ob (K := (kM q j v)) (fr_F_M_remembers _ (by omega) (by omega) h4) (fun z27 h5 => (k_obI (fun z28 => (k_ob (K := (kM q j v)) (fr_F_M_told _ _ _ _ (by omega) h5) (fun z29 h6 => (k_obI (fun z30 => (k_some (k_pair h6 trivial))))))))))))))) (fun _ => (k_obI (fun z11 => (k_ite (fun _ => (k_bt (K := (kM q j v)) (k_up (by omega) h0) (fun σ19 h7 => (k_ite (fun _ => (k_some (k_pair h7 trivial))) (fun _ => (k_ob (K := (kM q j v)) (fr_F_M_remembers _ (by omega) (by omega) h7) (fun z21 h8 => (k_obI (fun z22 => (k_ob (K := (kM q j v)) (fr_F_M_told _ _ _ _ (by omega) h8) (fun z23 h9 => (k_obI (fun z24 => (k_some (k_pair h9 trivial))))))))))))))) (fun _ => (k_bt (K := (kM q j v)) (k_up (by omega) h0) (fun σ13 h10 => (k_ite (fun _ => (k_some (k_pair h10 trivial))) (fun _ => (k_ob (K := (kM q j v)) (fr_F_M_remembers _ (by omega) (by omega) h10) (fun z15 h11 => (k_obI (fun z16 => (k_ob (K := (kM q j v)) (fr_F_M_told _ _ _ _ (by omega) h11) (fun z17 h12 => (k_obI (fun z18 => (k_some (k_pair h12 trivial))))))))))))))))))))))))))
set_option maxRecDepth 10000 in
set_option linter.unusedVariables false in
theorem fr_F_M_reinsure {q j : Nat} {v : Int32} (σ : Mem) (v1 : Int32) (v2 : Int32) (_c0 : q ≠ 334) (_c1 : q ≠ 337) (_c2 : q ≠ 333 ∨ j ≠ 0) (_c3 : q ≠ 333 ∨ j ≠ 6) (h0 : kM q j v σ) : (kO (kP (kM q j v) kT)) (F_M_reinsure σ v1 v2) := by
  unfold F_M_reinsure
  exact (k_obI (fun z1 => (k_ite (fun _ => (k_bt (K := (kM q j v)) (k_up (by omega) h0) (fun σ3 h1 => (k_ite (fun _ => (k_some (k_pair h1 trivial))) (fun _ => (k_ob (K := (kM q j v)) (fr_F_M_remembers _ (by omega) (by omega) h1) (fun z5 h2 => (k_obI (fun z6 => (k_ob (K := (kM q j v)) (fr_F_M_has _ _ _ _ (by omega) h2) (fun z7 h3 => (k_some (k_pair h3 trivial))))))))))))) (fun _ => (k_ite (fun _ => (k_ite (fun _ => (k_bt (K := (kM q j v)) (k_up (by omega) h0) (fun σ15 h4 => (k_ite (fun _ => (k_some (k_pair h4 trivial))) (fun _ => (k_ob (K := (kM q j v)) (fr_F_M_remembers _ (by omega) (by omega) h4) (fun z17 h5 => (k_obI (fun z18 => (k_ob (K := (kM q j v)) (fr_F_M_has _ _ _ _ (by omega) h5) (fun z19 h6 => (k_some (k_pair h6 trivial))))))))))))) (fun _ => (k_bt (K := (kM q j v)) (k_up (by omega) h0) (fun σ10 h7 => (k_ite (fun _ => (k_some (k_pair h7 trivial))) (fun _ => (k_ob (K := (kM q j v)) (fr_F_M_remembers _ (by omega) (by omega) h7) (fun z12 h8 => (k_obI (fun z13 => (k_ob (K := (kM q j v)) (fr_F_M_has _ _ _ _ (by omega) h8) (fun z14 h9 => (k_some (k_pair h9 trivial))))))))))))))) (fun _ => (k_obI (fun z20 => (k_ite (fun _ => (k_bt (K := (kM q j v)) (k_up (by omega) h0) (fun σ33 h10 => (k_ite (fun _ => (k_some (k_pair h10 trivial))) (fun _ => (k_ob (K := (kM q j v)) (fr_F_M_remembers _ (by omega) (by omega) h10) (fun z35 h11 => (k_obI (fun z36 => (k_ob (K := (kM q j v)) (fr_F_M_has _ _ _ _ (by omega) h11) (fun z37 h12 => (k_some (k_pair h12 trivial))))))))))))) (fun _ => (k_ite (fun _ => (k_bt (K := (kM q j v)) (k_up (by omega) h0) (fun σ28 h13 => (k_ite (fun _ => (k_some (k_pair h13 trivial))) (fun _ => (k_ob (K := (kM q j v)) (fr_F_M_remembers _ (by omega) (by omega) h13) (fun z30 h14 => (k_obI (fun z31 => (k_ob (K := (kM q j v)) (fr_F_M_has _ _ _ _ (by omega) h14) (fun z32 h15 => (k_some (k_pair h15 trivial))))))))))))) (fun _ => (k_bt (K := (kM q j v)) (k_up (by omega) h0) (fun σ23 h16 => (k_ite (fun _ => (k_some (k_pair h16 trivial))) (fun _ => (k_ob (K := (kM q j v)) (fr_F_M_remembers _ (by omega) (by omega) h16) (fun z25 h17 => (k_obI (fun z26 => (k_ob (K := (kM q j v)) (fr_F_M_has _ _ _ _ (by omega) h17) (fun z27 h18 => (k_some (k_pair h18 trivial))))))))))))))))))))))))
set_option maxRecDepth 10000 in
set_option linter.unusedVariables false in
theorem fr_F_M_part_ {q j : Nat} {v : Int32} (σ : Mem) (v1 : Int32) (_c0 : q ≠ 334) (_c1 : q ≠ 337) (_c2 : q ≠ 333 ∨ j ≠ 0) (_c3 : q ≠ 333 ∨ j ≠ 6) (h0 : kM q j v σ) : (kO (kP (kM q j v) kT)) (F_M_part_ σ v1) := by
  unfold F_M_part_
  exact (k_obI (fun z1 => (k_ite (fun _ => (k_bt (K := (kM q j v)) (k_up (by omega) h0) (fun σ15 h1 => (k_ite (fun _ => (k_some (k_pair h1 trivial))) (fun _ => (k_ob (K := (kM q j v)) (fr_F_M_remembers _ (by omega) (by omega) h1) (fun z17 h2 => (k_ob (K := (kM q j v)) (fr_F_M_told _ _ _ _ (by omega) h2) (fun z18 h3 => (k_obI (fun z19 => (k_some (k_pair h3 trivial))))))))))))) (fun _ => (k_obI (fun z3 => (k_ite (fun _ => (k_bt (K := (kM q j v)) (k_up (by omega) h0) (fun σ10 h4 => (k_ite (fun _ => (k_some (k_pair h4 trivial))) (fun _ => (k_ob (K := (kM q j v)) (fr_F_M_remembers _ (by omega) (by omega) h4) (fun z12 h5 => (k_ob (K := (kM q j v)) (fr_F_M_told _ _ _ _ (by omega) h5) (fun z13 h6 => (k_obI (fun z14 => (k_some (k_pair h6 trivial))))))))))))) (fun _ => (k_bt (K := (kM q j v)) (k_up (by omega) h0) (fun σ5 h7 => (k_ite (fun _ => (k_some (k_pair h7 trivial))) (fun _ => (k_ob (K := (kM q j v)) (fr_F_M_remembers _ (by omega) (by omega) h7) (fun z7 h8 => (k_ob (K := (kM q j v)) (fr_F_M_told _ _ _ _ (by omega) h8) (fun z8 h9 => (k_obI (fun z9 => (k_some (k_pair h9 trivial))))))))))))))))))))
set_option maxRecDepth 10000 in
set_option linter.unusedVariables false in
theorem fr_F_M_would {q j : Nat} {v : Int32} (σ : Mem) (v1 : Int32) (v2 : Int32) (_c0 : q ≠ 333 ∨ j ≠ 0) (h0 : kM q j v σ) : (kO (kP (kM q j v) kT)) (F_M_would σ v1 v2) := by
  unfold F_M_would
  exact (k_obI (fun z1 => (k_bt (K := (kM q j v)) (k_up (by omega) h0) (fun σ2 h1 => (k_ite (fun _ => (k_some (k_pair h1 trivial))) (fun _ => (k_obI (fun z4 => (k_some (k_pair h1 trivial))))))))))
set_option maxRecDepth 10000 in
set_option linter.unusedVariables false in
theorem fr_F_M_best {q j : Nat} {v : Int32} (σ : Mem) (v1 : Int32) (_c0 : q ≠ 333 ∨ j ≠ 0) (h0 : kM q j v σ) : (kO (kP (kM q j v) kT)) (F_M_best σ v1) := by
  unfold F_M_best
  exact (k_obI (fun z1 => (k_ite (fun _ => (k_bt (K := (kM q j v)) (k_up (by omega) h0) (fun σ23 h1 => (k_ite (fun _ => (k_some (k_pair h1 trivial))) (fun _ => (k_obI (fun z25 => (k_some (k_pair h1 trivial))))))))) (fun _ => (k_bt (K := (kM q j v)) (k_up (by omega) h0) (fun σ3 h2 => (k_ite (fun _ => (k_some (k_pair h2 trivial))) (fun _ => (k_obI (fun z22 => (k_some (k_pair h2 trivial))))))))))))
set_option maxRecDepth 10000 in
set_option linter.unusedVariables false in
theorem fr_F_M_fallsNow_2_b {q j : Nat} {v : Int32} (v1 : Int32) (σ : Mem) (_c0 : q ≠ 334) (h0 : kM q j v σ) : (kO (kS (kP kT (kM q j v)) (kP kT (kM q j v)))) (F_M_fallsNow_2_b v1 σ) := by
  unfold F_M_fallsNow_2_b
  exact (k_ite (fun _ => (k_ob (K := (kP (kM q j v) kT)) (fr_F_M_claims _ _ (by omega) h0) (fun z2 h1 => (k_btI (fun x3 => (k_some (k_inl (k_pair trivial (kp1 h1))))))))) (fun _ => (k_some (k_inr (k_pair trivial h0)))))
set_option maxRecDepth 10000 in
set_option linter.unusedVariables false in
theorem fr_F_M_fallsNow {q j : Nat} {v : Int32} (σ : Mem) (_c0 : q ≠ 334) (h0 : kM q j v σ) : (kO (kP (kM q j v) kT)) (F_M_fallsNow σ) := by
  unfold F_M_fallsNow
  exact (k_ob (K := (kP kT (kM q j v))) (k_whl (K := (kP kT (kM q j v))) (fun s h2 => (fr_F_M_fallsNow_2_b _ _ (by omega) (kp2 h2))) (k_pair trivial h0)) (fun z4 h1 => (k_obI (fun z15 => (k_some (k_pair (kp2 h1) trivial))))))
set_option maxRecDepth 10000 in
set_option linter.unusedVariables false in
theorem fr_F_M_falls {q j : Nat} {v : Int32} (σ : Mem) (_c0 : q ≠ 334) (_c1 : q ≠ 336) (_c2 : q ≠ 333 ∨ j ≠ 0) (h0 : kM q j v σ) : (kO (kP (kM q j v) kT)) (F_M_falls σ) := by
  unfold F_M_falls
  exact (k_bt (K := (kM q j v)) (k_up (by omega) h0) (fun σ1 h1 => (k_ob (K := (kM q j v)) (fr_F_M_putsAside _ (by omega) h1) (fun z2 h2 => (k_ob (K := (kP (kM q j v) kT)) (fr_F_M_fallsNow _ (by omega) h2) (fun z3 h3 => (k_ob (K := (kM q j v)) (fr_F_M_comesBack _ (by omega) (kp1 h3)) (fun z4 h4 => (k_some (k_pair h4 trivial))))))))))
set_option maxRecDepth 10000 in
set_option linter.unusedVariables false in
theorem fr_F_M_loses {q j : Nat} {v : Int32} (σ : Mem) (v1 : Int32) (_c0 : q ≠ 334) (_c1 : q ≠ 336) (_c2 : q ≠ 333 ∨ j ≠ 0) (h0 : kM q j v σ) : (kO (kP (kM q j v) kT)) (F_M_loses σ v1) := by
  unfold F_M_loses
  exact (k_obI (fun z1 => (k_ite (fun _ => (k_bt (K := (kM q j v)) (k_up (by omega) h0) (fun σ12 h1 => (k_ite (fun _ => (k_some (k_pair h1 trivial))) (fun _ => (k_ob (K := (kM q j v)) (fr_F_M_putsAside _ (by omega) h1) (fun z14 h2 => (k_ob (K := (kP (kM q j v) kT)) (fr_F_M_fallsNow _ (by omega) h2) (fun z15 h3 => (k_btI (fun i16 => (k_chk (k_obI (fun z18 => (k_btI (fun x19 => (k_ob (K := (kM q j v)) (fr_F_M_comesBack _ (by omega) (kp1 h3)) (fun z20 h4 => (k_some (k_pair h4 trivial)))))))))))))))))))) (fun _ => (k_bt (K := (kM q j v)) (k_up (by omega) h0) (fun σ3 h5 => (k_ite (fun _ => (k_some (k_pair h5 trivial))) (fun _ => (k_ob (K := (kM q j v)) (fr_F_M_putsAside _ (by omega) h5) (fun z5 h6 => (k_ob (K := (kP (kM q j v) kT)) (fr_F_M_fallsNow _ (by omega) h6) (fun z6 h7 => (k_btI (fun i7 => (k_chk (k_obI (fun z9 => (k_btI (fun x10 => (k_ob (K := (kM q j v)) (fr_F_M_comesBack _ (by omega) (kp1 h7)) (fun z11 h8 => (k_some (k_pair h8 trivial)))))))))))))))))))))))
set_option maxRecDepth 10000 in
set_option linter.unusedVariables false in
theorem fr_F_M_holds_34_b {q j : Nat} {v : Int32} (v1 : Int32) (v3 : Int32) (v2 : Int32) (σ : Mem) (_c0 : q ≠ 334) (h0 : kM q j v σ) : (kO (kS (kP kT (kM q j v)) (kP kT (kM q j v)))) (F_M_holds_34_b v1 v3 v2 σ) := by
  unfold F_M_holds_34_b
  exact (k_ite (fun _ => (k_ob (K := (kM q j v)) (fr_F_M_has _ _ _ _ (by omega) h0) (fun z8 h1 => (k_ob (K := (kP (kM q j v) kT)) (fr_F_M_fallsNow _ (by omega) h1) (fun z9 h2 => (k_ite (fun _ => (k_ob (K := (kM q j v)) (fr_F_M_comesBack _ (by omega) (kp1 h2)) (fun z12 h3 => (k_some (k_inl (k_pair trivial h3)))))) (fun _ => (k_ob (K := (kM q j v)) (fr_F_M_comesBack _ (by omega) (kp1 h2)) (fun z11 h4 => (k_some (k_inl (k_pair trivial h4)))))))))))) (fun _ => (k_some (k_inr (k_pair trivial h0)))))
set_option maxRecDepth 10000 in
set_option linter.unusedVariables false in
theorem fr_F_M_holds {q j : Nat} {v : Int32} (σ : Mem) (v1 : Int32) (_c0 : q ≠ 334) (_c1 : q ≠ 336) (_c2 : q ≠ 333 ∨ j ≠ 0) (h0 : kM q j v σ) : (kO (kP (kM q j v) kT)) (F_M_holds σ v1) := by
  unfold F_M_holds
  exact (k_obI (fun z1 => (k_ite (fun _ => (k_bt (K := (kM q j v)) (k_up (by omega) h0) (fun σ15 h1 => (k_ite (fun _ => (k_some (k_pair h1 trivial))) (fun _ => (k_ob (K := (kM q j v)) (fr_F_M_putsAside _ (by omega) h1) (fun z17 h2 => (k_ob (K := (kP kT (kM q j v))) (k_omap (K := (kS (kP kT (kM q j v)) (kP kT (kM q j v)))) (k_forGO (K := (kP kT (kM q j v))) (fun i s h4 => (fr_F_M_holds_34_b _ _ _ _ (by omega) (kp2 h4))) (k_pair trivial h2)) (fun _ h => k_mrg h)) (fun z18 h3 => (k_some (k_pair (kp2 h3) trivial))))))))))) (fun _ => (k_bt (K := (kM q j v)) (k_up (by omega) h0) (fun σ3 h5 => (k_ite (fun _ => (k_some (k_pair h5 trivial))) (fun _ => (k_ob (K := (kM q j v)) (fr_F_M_putsAside _ (by omega) h5) (fun z5 h6 => (k_ob (K := (kP kT (kM q j v))) (k_omap (K := (kS (kP kT (kM q j v)) (kP kT (kM q j v)))) (k_forGO (K := (kP kT (kM q j v))) (fun i s h8 => (fr_F_M_holds_34_b _ _ _ _ (by omega) (kp2 h8))) (k_pair trivial h6)) (fun _ h => k_mrg h)) (fun z14 h7 => (k_some (k_pair (kp2 h7) trivial))))))))))))))
set_option maxRecDepth 10000 in
set_option linter.unusedVariables false in
theorem fr_F_M_ring {q j : Nat} {v : Int32} (σ : Mem) (v1 : Int32) (_c0 : q ≠ 333 ∨ j ≠ 0) (h0 : kM q j v σ) : (kO (kP (kM q j v) kT)) (F_M_ring σ v1) := by
  unfold F_M_ring
  exact (k_obI (fun z1 => (k_ite (fun _ => (k_bt (K := (kM q j v)) (k_up (by omega) h0) (fun σ6 h1 => (k_ite (fun _ => (k_some (k_pair h1 trivial))) (fun _ => (k_obI (fun z8 => (k_some (k_pair h1 trivial))))))))) (fun _ => (k_bt (K := (kM q j v)) (k_up (by omega) h0) (fun σ3 h2 => (k_ite (fun _ => (k_some (k_pair h2 trivial))) (fun _ => (k_obI (fun z5 => (k_some (k_pair h2 trivial))))))))))))
set_option maxRecDepth 10000 in
set_option linter.unusedVariables false in
theorem fr_F_M_rings {q j : Nat} {v : Int32} (σ : Mem) (_c0 : q ≠ 333 ∨ j ≠ 0) (h0 : kM q j v σ) : (kO (kP (kM q j v) kT)) (F_M_rings σ) := by
  unfold F_M_rings
  exact (k_bt (K := (kM q j v)) (k_up (by omega) h0) (fun σ1 h1 => (k_obI (fun z19 => (k_some (k_pair h1 trivial))))))
set_option maxRecDepth 10000 in
set_option linter.unusedVariables false in
theorem fr_F_M_leans {q j : Nat} {v : Int32} (σ : Mem) (v1 : Int32) (_c0 : q ≠ 333 ∨ j ≠ 0) (h0 : kM q j v σ) : (kO (kP (kM q j v) kT)) (F_M_leans σ v1) := by
  unfold F_M_leans
  exact (k_obI (fun z1 => (k_ite (fun _ => (k_bt (K := (kM q j v)) (k_up (by omega) h0) (fun σ12 h1 => (k_obI (fun z13 => (k_some (k_pair h1 trivial))))))) (fun _ => (k_bt (K := (kM q j v)) (k_up (by omega) h0) (fun σ3 h2 => (k_obI (fun z11 => (k_some (k_pair h2 trivial))))))))))
set_option maxRecDepth 10000 in
set_option linter.unusedVariables false in
theorem fr_F_M_by {q j : Nat} {v : Int32} (σ : Mem) (v1 : Int32) (v2 : Int32) (v3 : Int32) (_c0 : q ≠ 341) (h0 : kM q j v σ) : (kO (kM q j v)) (F_M_by σ v1 v2 v3) := by
  unfold F_M_by
  exact (k_ite (fun _ => (k_chk (k_bt (K := (kM q j v)) (k_up (by omega) h0) (fun σ7 h1 => (k_some h1))))) (fun _ => (k_btI (fun i2 => (k_chk (k_chk (k_bt (K := (kM q j v)) (k_up (by omega) h0) (fun σ5 h2 => (k_some h2)))))))))
set_option maxRecDepth 10000 in
set_option linter.unusedVariables false in
theorem fr_F_M_rather {q j : Nat} {v : Int32} (σ : Mem) (v1 : Int32) (_c0 : q ≠ 333 ∨ j ≠ 0) (h0 : kM q j v σ) : (kO (kP (kM q j v) kT)) (F_M_rather σ v1) := by
  unfold F_M_rather
  exact (k_obI (fun z1 => (k_ite (fun _ => (k_bt (K := (kM q j v)) (k_up (by omega) h0) (fun σ6 h1 => (k_ite (fun _ => (k_some (k_pair h1 trivial))) (fun _ => (k_obI (fun z8 => (k_some (k_pair h1 trivial))))))))) (fun _ => (k_bt (K := (kM q j v)) (k_up (by omega) h0) (fun σ3 h2 => (k_ite (fun _ => (k_some (k_pair h2 trivial))) (fun _ => (k_obI (fun z5 => (k_some (k_pair h2 trivial))))))))))))
set_option maxRecDepth 10000 in
set_option linter.unusedVariables false in
theorem fr_F_M_lovers {q j : Nat} {v : Int32} (σ : Mem) (v1 : Int32) (_c0 : q ≠ 333 ∨ j ≠ 0) (h0 : kM q j v σ) : (kO (kP (kM q j v) kT)) (F_M_lovers σ v1) := by
  unfold F_M_lovers
  exact (k_bt (K := (kM q j v)) (k_up (by omega) h0) (fun σ1 h1 => (k_obI (fun z18 => (k_ite (fun _ => (k_some (k_pair h1 trivial))) (fun _ => (k_some (k_pair h1 trivial))))))))
set_option maxRecDepth 10000 in
set_option linter.unusedVariables false in
theorem fr_F_M_weddings_25_b {q j : Nat} {v : Int32} (v1 : Int32) (v2 : Int32) (σ : Mem) (_c0 : q ≠ 345) (h0 : kM q j v σ) : (kO (kS (kP kT (kM q j v)) (kP kT (kM q j v)))) (F_M_weddings_25_b v1 v2 σ) := by
  unfold F_M_weddings_25_b
  exact (k_ite (fun _ => (k_some (k_inr (k_pair trivial h0)))) (fun _ => (k_obI (fun z7 => (k_btI (fun x8 => (k_chk (k_btI (fun x10 => (k_btI (fun x11 => (k_obI (fun z20 => (k_chk (k_bt (K := (kM q j v)) (k_up (by omega) h0) (fun σ22 h1 => (k_btI (fun x23 => (k_some (k_inl (k_pair trivial h1)))))))))))))))))))))
set_option maxRecDepth 10000 in
set_option linter.unusedVariables false in
theorem fr_F_M_weddings {q j : Nat} {v : Int32} (σ : Mem) (_c0 : q ≠ 345) (_c1 : q ≠ 333 ∨ j ≠ 0) (h0 : kM q j v σ) : (kO (kP (kM q j v) kT)) (F_M_weddings σ) := by
  unfold F_M_weddings
  exact (k_bt (K := (kM q j v)) (k_up (by omega) h0) (fun σ1 h1 => (k_btI (fun x2 => (k_bt (K := (kM q j v)) (k_up (by omega) h1) (fun σ3 h2 => (k_ob (K := (kP kT (kM q j v))) (k_whl (K := (kP kT (kM q j v))) (fun s h4 => (fr_F_M_weddings_25_b _ _ _ (by omega) (kp2 h4))) (k_pair trivial h2)) (fun z24 h3 => (k_chk (k_some (k_pair (kp2 h3) trivial)))))))))))
set_option maxRecDepth 10000 in
set_option linter.unusedVariables false in
theorem fr_F_M_told__120_b {q j : Nat} {v : Int32} (v1 : Int32) (v2 : Int32) (v3 : Int32) (v4 : Int32) (v5 : Int32) (σ : Mem) (_c0 : q ≠ 344) (h0 : kM q j v σ) : (kO (kS (kP kT (kM q j v)) (kP kT (kM q j v)))) (F_M_told__120_b v1 v2 v3 v4 v5 σ) := by
  unfold F_M_told__120_b
  exact (k_ite (fun _ => (k_chk (k_ite (fun _ => (k_some (k_inr (k_pair trivial h0)))) (fun _ => (k_chk (k_btI (fun x25 => (k_obI (fun z31 => (k_btI (fun i32 => (k_chk (k_ite (fun _ => (k_chk (k_bt (K := (kM q j v)) (k_up (by omega) h0) (fun σ39 h1 => (k_btI (fun x40 => (k_some (k_inl (k_pair trivial h1))))))))) (fun _ => (k_chk (k_bt (K := (kM q j v)) (k_up (by omega) h0) (fun σ36 h2 => (k_btI (fun x37 => (k_some (k_inl (k_pair trivial h2)))))))))))))))))))))) (fun _ => (k_some (k_inr (k_pair trivial h0)))))
set_option maxRecDepth 10000 in
set_option linter.unusedVariables false in
theorem fr_F_M_told__96_b {q j : Nat} {v : Int32} (v1 : Int32) (v2 : Int32) (v3 : Int32) (v4 : Int32) (σ : Mem) (_c0 : q ≠ 344) (h0 : kM q j v σ) : (kO (kS (kP kT (kP kT (kM q j v))) (kP kT (kP kT (kM q j v))))) (F_M_told__96_b v1 v2 v3 v4 σ) := by
  unfold F_M_told__96_b
  exact (k_ite (fun _ => (k_chk (k_bt (K := (kM q j v)) (k_up (by omega) h0) (fun σ20 h1 => (k_ob (K := (kP kT (kM q j v))) (k_whl (K := (kP kT (kM q j v))) (fun s h3 => (fr_F_M_told__120_b _ _ _ _ _ _ (by omega) (kp2 h3))) (k_pair trivial h1)) (fun z41 h2 => (k_chk (k_ite (fun _ => (k_btI (fun x44 => (k_btI (fun x45 => (k_some (k_inl (k_pair trivial (k_pair trivial (kp2 h2)))))))))) (fun _ => (k_btI (fun x46 => (k_btI (fun x47 => (k_some (k_inl (k_pair trivial (k_pair trivial (kp2 h2)))))))))))))))))) (fun _ => (k_some (k_inr (k_pair trivial (k_pair trivial h0))))))
set_option maxRecDepth 10000 in
set_option linter.unusedVariables false in
theorem fr_F_M_told_ {q j : Nat} {v : Int32} (σ : Mem) (_c0 : q ≠ 344) (_c1 : q ≠ 333 ∨ j ≠ 8) (h0 : kM q j v σ) : (kO (kP (kM q j v) kT)) (F_M_told_ σ) := by
  unfold F_M_told_
  exact (k_btI (fun x1 => (k_bt (K := (kM q j v)) (k_up (by omega) h0) (fun σ2 h1 => (k_ite (fun _ => (k_ite (fun _ => (k_obI (fun z50 => (k_ite (fun _ => (k_some (k_pair h1 trivial))) (fun _ => (k_ob (K := (kP kT (kP kT (kM q j v)))) (k_whl (K := (kP kT (kP kT (kM q j v)))) (fun s h3 => (fr_F_M_told__96_b _ _ _ _ _ (by omega) (kp2 (kp2 h3)))) (k_pair trivial (k_pair trivial h1))) (fun z52 h2 => (k_some (k_pair (kp2 (kp2 h2)) trivial))))))))) (fun _ => (k_obI (fun z53 => (k_ite (fun _ => (k_some (k_pair h1 trivial))) (fun _ => (k_ob (K := (kP kT (kP kT (kM q j v)))) (k_whl (K := (kP kT (kP kT (kM q j v)))) (fun s h5 => (fr_F_M_told__96_b _ _ _ _ _ (by omega) (kp2 (kp2 h5)))) (k_pair trivial (k_pair trivial h1))) (fun z55 h4 => (k_some (k_pair (kp2 (kp2 h4)) trivial))))))))))) (fun _ => (k_obI (fun z16 => (k_ite (fun _ => (k_some (k_pair h1 trivial))) (fun _ => (k_ob (K := (kP kT (kP kT (kM q j v)))) (k_whl (K := (kP kT (kP kT (kM q j v)))) (fun s h7 => (fr_F_M_told__96_b _ _ _ _ _ (by omega) (kp2 (kp2 h7)))) (k_pair trivial (k_pair trivial h1))) (fun z48 h6 => (k_some (k_pair (kp2 (kp2 h6)) trivial))))))))))))))
set_option maxRecDepth 10000 in
set_option linter.unusedVariables false in
theorem fr_F_M_anniversary {q j : Nat} {v : Int32} (σ : Mem) (v1 : Int32) (_c0 : q ≠ 344) (_c1 : q ≠ 333 ∨ j ≠ 0) (_c2 : q ≠ 333 ∨ j ≠ 8) (h0 : kM q j v σ) : (kO (kP (kM q j v) kT)) (F_M_anniversary σ v1) := by
  unfold F_M_anniversary
  exact (k_ob (K := (kP (kM q j v) kT)) (fr_F_M_told_ _ (by omega) (by omega) h0) (fun z1 h1 => (k_ite (fun _ => (k_bt (K := (kM q j v)) (k_up (by omega) (kp1 h1)) (fun σ17 h2 => (k_ite (fun _ => (k_ite (fun _ => (k_some (k_pair h2 trivial))) (fun _ => (k_some (k_pair h2 trivial))))) (fun _ => (k_ite (fun _ => (k_ite (fun _ => (k_some (k_pair h2 trivial))) (fun _ => (k_some (k_pair h2 trivial))))) (fun _ => (k_obI (fun z21 => (k_some (k_pair h2 trivial))))))))))) (fun _ => (k_bt (K := (kM q j v)) (k_up (by omega) (kp1 h1)) (fun σ3 h3 => (k_ite (fun _ => (k_ite (fun _ => (k_some (k_pair h3 trivial))) (fun _ => (k_some (k_pair h3 trivial))))) (fun _ => (k_ite (fun _ => (k_ite (fun _ => (k_some (k_pair h3 trivial))) (fun _ => (k_some (k_pair h3 trivial))))) (fun _ => (k_obI (fun z15 => (k_some (k_pair h3 trivial))))))))))))))
set_option maxRecDepth 10000 in
set_option linter.unusedVariables false in
theorem fr_F_M_dance {q j : Nat} {v : Int32} (σ : Mem) (_c0 : q ≠ 344) (_c1 : q ≠ 333 ∨ j ≠ 0) (_c2 : q ≠ 333 ∨ j ≠ 8) (h0 : kM q j v σ) : (kO (kP (kM q j v) kT)) (F_M_dance σ) := by
  unfold F_M_dance
  exact (k_ob (K := (kP (kM q j v) kT)) (fr_F_M_told_ _ (by omega) (by omega) h0) (fun z1 h1 => (k_ite (fun _ => (k_bt (K := (kM q j v)) (k_up (by omega) (kp1 h1)) (fun σ12 h2 => (k_ite (fun _ => (k_some (k_pair h2 trivial))) (fun _ => (k_obI (fun z14 => (k_some (k_pair h2 trivial))))))))) (fun _ => (k_bt (K := (kM q j v)) (k_up (by omega) (kp1 h1)) (fun σ3 h3 => (k_ite (fun _ => (k_some (k_pair h3 trivial))) (fun _ => (k_obI (fun z11 => (k_some (k_pair h3 trivial))))))))))))
set_option maxRecDepth 10000 in
set_option linter.unusedVariables false in
theorem fr_F_M_richest {q j : Nat} {v : Int32} (σ : Mem) (_c0 : q ≠ 333 ∨ j ≠ 0) (h0 : kM q j v σ) : (kO (kP (kM q j v) kT)) (F_M_richest σ) := by
  unfold F_M_richest
  exact (k_bt (K := (kM q j v)) (k_up (by omega) h0) (fun σ1 h1 => (k_obI (fun z10 => (k_some (k_pair h1 trivial))))))
set_option maxRecDepth 10000 in
set_option linter.unusedVariables false in
theorem fr_F_M_led {q j : Nat} {v : Int32} (σ : Mem) (v1 : Int32) (v2 : Int32) (_c0 : q ≠ 333 ∨ j ≠ 0) (h0 : kM q j v σ) : (kO (kP (kM q j v) kT)) (F_M_led σ v1 v2) := by
  unfold F_M_led
  exact (k_obI (fun z1 => (k_ite (fun _ => (k_bt (K := (kM q j v)) (k_up (by omega) h0) (fun σ15 h1 => (k_obI (fun z16 => (k_some (k_pair h1 trivial))))))) (fun _ => (k_bt (K := (kM q j v)) (k_up (by omega) h0) (fun σ3 h2 => (k_obI (fun z14 => (k_some (k_pair h2 trivial))))))))))
set_option maxRecDepth 10000 in
set_option linter.unusedVariables false in
theorem fr_F_M_log {q j : Nat} {v : Int32} (σ : Mem) (v1 : Int32) (v2 : Int32) (_c0 : q ≠ 333 ∨ j ≠ 0) (h0 : kM q j v σ) : (kO (kP (kM q j v) kT)) (F_M_log σ v1 v2) := by
  unfold F_M_log
  exact (k_ite (fun _ => (k_bt (K := (kM q j v)) (k_up (by omega) h0) (fun σ6 h1 => (k_ite (fun _ => (k_some (k_pair h1 trivial))) (fun _ => (k_ite (fun _ => (k_some (k_pair h1 trivial))) (fun _ => (k_obI (fun z9 => (k_some (k_pair h1 trivial))))))))))) (fun _ => (k_bt (K := (kM q j v)) (k_up (by omega) h0) (fun σ2 h2 => (k_ite (fun _ => (k_some (k_pair h2 trivial))) (fun _ => (k_ite (fun _ => (k_some (k_pair h2 trivial))) (fun _ => (k_obI (fun z5 => (k_some (k_pair h2 trivial))))))))))))
set_option maxRecDepth 10000 in
set_option linter.unusedVariables false in
theorem fr_F_M_seed {q j : Nat} {v : Int32} (σ : Mem) (v1 : Int32) (_c0 : q ≠ 334) (_c1 : q ≠ 333 ∨ j ≠ 0) (h0 : kM q j v σ) : (kO (kP (kM q j v) kT)) (F_M_seed σ v1) := by
  unfold F_M_seed
  exact (k_bt (K := (kM q j v)) (k_up (by omega) h0) (fun σ1 h1 => (k_btI (fun x2 => (k_bt (K := (kM q j v)) (k_up (by omega) h1) (fun σ3 h2 => (k_some (k_pair h2 trivial))))))))
set_option maxRecDepth 10000 in
set_option linter.unusedVariables false in
theorem fr_F_M_undo_26_b {q j : Nat} {v : Int32} (v1 : Int32) (σ : Mem) (_c0 : q ≠ 334) (h0 : kM q j v σ) : (kO (kM q j v)) (F_M_undo_26_b v1 σ) := by
  unfold F_M_undo_26_b
  exact (k_btI (fun i5 => (k_chk (k_bt (K := (kM q j v)) (k_up (by omega) h0) (fun σ7 h1 => (k_some h1))))))
set_option maxRecDepth 10000 in
set_option linter.unusedVariables false in
theorem fr_F_M_undo {q j : Nat} {v : Int32} (σ : Mem) (_c0 : q ≠ 334) (_c1 : q ≠ 333 ∨ j ≠ 0) (_c2 : q ≠ 333 ∨ j ≠ 6) (h0 : kM q j v σ) : (kO (kP (kM q j v) kT)) (F_M_undo σ) := by
  unfold F_M_undo
  exact (k_bt (K := (kM q j v)) (k_up (by omega) h0) (fun σ1 h1 => (k_ite (fun _ => (k_some (k_pair h1 trivial))) (fun _ => (k_bt (K := (kM q j v)) (k_up (by omega) h1) (fun σ3 h2 => (k_ob (K := (kM q j v)) (k_forSO (K := (kM q j v)) (fun i s h4 => (fr_F_M_undo_26_b _ _ (by omega) h4)) h2) (fun z9 h3 => (k_some (k_pair h3 trivial))))))))))
set_option maxRecDepth 10000 in
set_option linter.unusedVariables false in
theorem fr_F_M_image_7_b {q j : Nat} {v : Int32} (v1 : Int32) (σ : Mem) (_c0 : q ≠ 335) (h0 : kM q j v σ) : (kO (kM q j v)) (F_M_image_7_b v1 σ) := by
  unfold F_M_image_7_b
  exact (k_bt (K := (kM q j v)) (k_up (by omega) h0) (fun σ3 h1 => (k_some h1)))
set_option maxRecDepth 10000 in
set_option linter.unusedVariables false in
theorem fr_F_M_image {q j : Nat} {v : Int32} (σ : Mem) (_c0 : q ≠ 335) (_c1 : q ≠ 333 ∨ j ≠ 0) (_c2 : q ≠ 333 ∨ j ≠ 3) (h0 : kM q j v σ) : (kO (kM q j v)) (F_M_image σ) := by
  unfold F_M_image
  exact (k_bt (K := (kM q j v)) (k_up (by omega) h0) (fun σ1 h1 => (k_ob (K := (kM q j v)) (k_forSO (K := (kM q j v)) (fun i s h3 => (fr_F_M_image_7_b _ _ (by omega) h3)) h1) (fun z5 h2 => (k_bt (K := (kM q j v)) (k_up (by omega) h2) (fun σ6 h4 => (k_some h4)))))))
set_option maxRecDepth 10000 in
set_option linter.unusedVariables false in
theorem fr_F_M_back_16_b {q j : Nat} {v : Int32} (v1 : Int32) (σ : Mem) (_c0 : q ≠ 334) (h0 : kM q j v σ) : (kO (kM q j v)) (F_M_back_16_b v1 σ) := by
  unfold F_M_back_16_b
  exact (k_bt (K := (kM q j v)) (k_up (by omega) h0) (fun σ4 h1 => (k_some h1)))
set_option maxRecDepth 10000 in
set_option linter.unusedVariables false in
theorem fr_F_M_back {q j : Nat} {v : Int32} (σ : Mem) (_c0 : q ≠ 334) (_c1 : q ≠ 333 ∨ j ≠ 0) (_c2 : q ≠ 333 ∨ j ≠ 6) (h0 : kM q j v σ) : (kO (kP (kM q j v) kT)) (F_M_back σ) := by
  unfold F_M_back
  exact (k_bt (K := (kM q j v)) (k_up (by omega) h0) (fun σ1 h1 => (k_ite (fun _ => (k_some (k_pair h1 trivial))) (fun _ => (k_ob (K := (kM q j v)) (k_forSO (K := (kM q j v)) (fun i s h3 => (fr_F_M_back_16_b _ _ (by omega) h3)) h1) (fun z6 h2 => (k_bt (K := (kM q j v)) (k_up (by omega) h2) (fun σ7 h4 => (k_some (k_pair h4 trivial))))))))))
set_option maxRecDepth 10000 in
set_option linter.unusedVariables false in
theorem fr_F_M_count {q j : Nat} {v : Int32} (σ : Mem) (v1 : Int32) (_c0 : q ≠ 333 ∨ j ≠ 0) (h0 : kM q j v σ) : (kO (kP (kM q j v) kT)) (F_M_count σ v1) := by
  unfold F_M_count
  exact (k_bt (K := (kM q j v)) (k_up (by omega) h0) (fun σ1 h1 => (k_ite (fun _ => (k_some (k_pair h1 trivial))) (fun _ => (k_ite (fun _ => (k_some (k_pair h1 trivial))) (fun _ => (k_ite (fun _ => (k_some (k_pair h1 trivial))) (fun _ => (k_ite (fun _ => (k_some (k_pair h1 trivial))) (fun _ => (k_ite (fun _ => (k_some (k_pair h1 trivial))) (fun _ => (k_ite (fun _ => (k_some (k_pair h1 trivial))) (fun _ => (k_ite (fun _ => (k_ite (fun _ => (k_obI (fun z17 => (k_some (k_pair h1 trivial))))) (fun _ => (k_ite (fun _ => (k_obI (fun z16 => (k_some (k_pair h1 trivial))))) (fun _ => (k_ite (fun _ => (k_obI (fun z15 => (k_some (k_pair h1 trivial))))) (fun _ => (k_ite (fun _ => (k_some (k_pair h1 trivial))) (fun _ => (k_ite (fun _ => (k_some (k_pair h1 trivial))) (fun _ => (k_ite (fun _ => (k_some (k_pair h1 trivial))) (fun _ => (k_some (k_pair h1 trivial))))))))))))))) (fun _ => (k_btI (fun i18 => (k_chk (k_some (k_pair h1 trivial)))))))))))))))))))))
set_option maxRecDepth 10000 in
set_option linter.unusedVariables false in
theorem fr_F_M_person {q j : Nat} {v : Int32} (σ : Mem) (v1 : Int32) (v2 : Int32) (_c0 : q ≠ 333 ∨ j ≠ 0) (h0 : kM q j v σ) : (kO (kP (kM q j v) kT)) (F_M_person σ v1 v2) := by
  unfold F_M_person
  exact (k_obI (fun z1 => (k_ite (fun _ => (k_bt (K := (kM q j v)) (k_up (by omega) h0) (fun σ42 h1 => (k_ite (fun _ => (k_some (k_pair h1 trivial))) (fun _ => (k_ite (fun _ => (k_obI (fun z60 => (k_some (k_pair h1 trivial))))) (fun _ => (k_ite (fun _ => (k_obI (fun z59 => (k_some (k_pair h1 trivial))))) (fun _ => (k_ite (fun _ => (k_obI (fun z58 => (k_some (k_pair h1 trivial))))) (fun _ => (k_ite (fun _ => (k_obI (fun z57 => (k_some (k_pair h1 trivial))))) (fun _ => (k_ite (fun _ => (k_obI (fun z56 => (k_some (k_pair h1 trivial))))) (fun _ => (k_ite (fun _ => (k_obI (fun z55 => (k_some (k_pair h1 trivial))))) (fun _ => (k_obI (fun z50 => (k_ite (fun _ => (k_some (k_pair h1 trivial))) (fun _ => (k_obI (fun z52 => (k_obI (fun z53 => (k_chk (k_some (k_pair h1 trivial)))))))))))))))))))))))))))) (fun _ => (k_ite (fun _ => (k_bt (K := (kM q j v)) (k_up (by omega) h0) (fun σ23 h2 => (k_ite (fun _ => (k_some (k_pair h2 trivial))) (fun _ => (k_ite (fun _ => (k_obI (fun z41 => (k_some (k_pair h2 trivial))))) (fun _ => (k_ite (fun _ => (k_obI (fun z40 => (k_some (k_pair h2 trivial))))) (fun _ => (k_ite (fun _ => (k_obI (fun z39 => (k_some (k_pair h2 trivial))))) (fun _ => (k_ite (fun _ => (k_obI (fun z38 => (k_some (k_pair h2 trivial))))) (fun _ => (k_ite (fun _ => (k_obI (fun z37 => (k_some (k_pair h2 trivial))))) (fun _ => (k_ite (fun _ => (k_obI (fun z36 => (k_some (k_pair h2 trivial))))) (fun _ => (k_obI (fun z31 => (k_ite (fun _ => (k_some (k_pair h2 trivial))) (fun _ => (k_obI (fun z33 => (k_obI (fun z34 => (k_chk (k_some (k_pair h2 trivial)))))))))))))))))))))))))))) (fun _ => (k_bt (K := (kM q j v)) (k_up (by omega) h0) (fun σ4 h3 => (k_ite (fun _ => (k_some (k_pair h3 trivial))) (fun _ => (k_ite (fun _ => (k_obI (fun z22 => (k_some (k_pair h3 trivial))))) (fun _ => (k_ite (fun _ => (k_obI (fun z21 => (k_some (k_pair h3 trivial))))) (fun _ => (k_ite (fun _ => (k_obI (fun z20 => (k_some (k_pair h3 trivial))))) (fun _ => (k_ite (fun _ => (k_obI (fun z19 => (k_some (k_pair h3 trivial))))) (fun _ => (k_ite (fun _ => (k_obI (fun z18 => (k_some (k_pair h3 trivial))))) (fun _ => (k_ite (fun _ => (k_obI (fun z17 => (k_some (k_pair h3 trivial))))) (fun _ => (k_obI (fun z12 => (k_ite (fun _ => (k_some (k_pair h3 trivial))) (fun _ => (k_obI (fun z14 => (k_obI (fun z15 => (k_chk (k_some (k_pair h3 trivial)))))))))))))))))))))))))))))))))
set_option maxRecDepth 10000 in
set_option linter.unusedVariables false in
theorem fr_F_Prs_tryPair_g {q j : Nat} {v : Int32} (rc : Mem → Nat → Int32 → Int32 → Option (Mem)) (hrc : ∀ (m : Mem) (a1 : Nat) (a2 : Int32) (a3 : Int32), kM q j v m → (kO (kM q j v)) (rc m a1 a2 a3)) (σ : Mem) (t1 : Nat) (v2 : Int32) (v3 : Int32) (v4 : Int32) (v5 : Int32) (_c0 : q ≠ 119) (h0 : kM q j v σ) : (kO (kM q j v)) (F_Prs_tryPair_g rc σ t1 v2 v3 v4 v5) := by
  unfold F_Prs_tryPair_g
  exact (k_bt (K := (kM q j v)) (fr_F_Row_put _ _ _ _ _ (by omega) h0) (fun z1 h1 => (k_bt (K := (kM q j v)) (fr_F_Row_put _ _ _ _ _ (by omega) h1) (fun z2 h2 => (k_ob (K := (kM q j v)) (hrc _ _ _ _ h2) (fun z3 h3 => (k_bt (K := (kM q j v)) (fr_F_Row_put _ _ _ _ _ (by omega) h3) (fun z4 h4 => (k_bt (K := (kM q j v)) (fr_F_Row_put _ _ _ _ _ (by omega) h4) (fun z5 h5 => (k_some h5)))))))))))
set_option maxRecDepth 10000 in
set_option linter.unusedVariables false in
theorem fr_F_Prs_pairUp_50_b {q j : Nat} {v : Int32} (rc : Mem → Nat → Int32 → Int32 → Option (Mem)) (hrc : ∀ (m : Mem) (a1 : Nat) (a2 : Int32) (a3 : Int32), kM q j v m → (kO (kM q j v)) (rc m a1 a2 a3)) (t1 : Nat) (v2 : Int32) (v3 : Int32) (v4 : Int32) (v5 : Int32) (σ : Mem) (_c0 : q ≠ 119) (h0 : kM q j v σ) : (kO (kS (kP kT (kM q j v)) (kP kT (kM q j v)))) (F_Prs_pairUp_50_b rc t1 v2 v3 v4 v5 σ) := by
  unfold F_Prs_pairUp_50_b
  exact (k_ite (fun _ => (k_ite (fun _ => (k_ob (K := (kM q j v)) (fr_F_Prs_tryPair_g _ hrc _ _ _ _ _ _ (by omega) h0) (fun z9 h1 => (k_btI (fun x10 => (k_some (k_inl (k_pair trivial h1)))))))) (fun _ => (k_btI (fun x8 => (k_some (k_inl (k_pair trivial h0)))))))) (fun _ => (k_some (k_inr (k_pair trivial h0)))))
set_option maxRecDepth 10000 in
set_option linter.unusedVariables false in
theorem fr_F_Prs_pairUp_g {q j : Nat} {v : Int32} (rc : Mem → Nat → Int32 → Int32 → Option (Mem)) (hrc : ∀ (m : Mem) (a1 : Nat) (a2 : Int32) (a3 : Int32), kM q j v m → (kO (kM q j v)) (rc m a1 a2 a3)) (σ : Mem) (t1 : Nat) (v2 : Int32) (v3 : Int32) (_c0 : q < 117 ∨ 121 < q) (h0 : kM q j v σ) : (kO (kM q j v)) (F_Prs_pairUp_g rc σ t1 v2 v3) := by
  unfold F_Prs_pairUp_g
  exact (k_btI (fun x1 => (k_ite (fun _ => (k_bt (K := (kM q j v)) (fr_F_Prs_countIfSteady _ _ (by omega) (by omega) h0) (fun z15 h1 => (k_some h1)))) (fun _ => (k_ite (fun _ => (k_ite (fun _ => (k_btI (fun x5 => (k_ob (K := (kP kT (kM q j v))) (k_whl (K := (kP kT (kM q j v))) (fun s h3 => (fr_F_Prs_pairUp_50_b _ hrc _ _ _ _ _ _ (by omega) (kp2 h3))) (k_pair trivial h0)) (fun z11 h2 => (k_some (kp2 h2))))))) (fun _ => (k_ob (K := (kM q j v)) (fr_F_Prs_tryPair_g _ hrc _ _ _ _ _ _ (by omega) h0) (fun z12 h4 => (k_btI (fun x13 => (k_ob (K := (kP kT (kM q j v))) (k_whl (K := (kP kT (kM q j v))) (fun s h6 => (fr_F_Prs_pairUp_50_b _ hrc _ _ _ _ _ _ (by omega) (kp2 h6))) (k_pair trivial h4)) (fun z14 h5 => (k_some (kp2 h5))))))))))) (fun _ => (k_some h0)))))))
theorem fr_F_Prs_pairUp_d {q j : Nat} {v : Int32} (_c0 : q < 117 ∨ 121 < q) : ∀ (d : Nat) (m : Mem) (a1 : Nat) (a2 : Int32) (a3 : Int32) (h0 : kM q j v m), (kO (kM q j v)) (F_Prs_pairUp_d d m a1 a2 a3) := by
  intro d
  induction d with
  | zero => intro m a1 a2 a3 h0; exact k_none
  | succ d ih => intro m a1 a2 a3 h0; exact fr_F_Prs_pairUp_g _ ih _ _ _ _ (by omega) h0
set_option maxRecDepth 10000 in
set_option linter.unusedVariables false in
theorem fr_F_Prs_tryPair {q j : Nat} {v : Int32} (σ : Mem) (t1 : Nat) (v2 : Int32) (v3 : Int32) (v4 : Int32) (v5 : Int32) (_c0 : q < 117 ∨ 121 < q) (h0 : kM q j v σ) : (kO (kM q j v)) (F_Prs_tryPair σ t1 v2 v3 v4 v5) := by
  unfold F_Prs_tryPair
  exact (fr_F_Prs_tryPair_g _ (fr_F_Prs_pairUp_d (by omega) 10) _ _ _ _ _ _ (by omega) h0)
set_option maxRecDepth 10000 in
set_option linter.unusedVariables false in
theorem fr_F_Prs_pairUp {q j : Nat} {v : Int32} (σ : Mem) (t1 : Nat) (v2 : Int32) (v3 : Int32) (_c0 : q < 117 ∨ 121 < q) (h0 : kM q j v σ) : (kO (kM q j v)) (F_Prs_pairUp σ t1 v2 v3) := by
  unfold F_Prs_pairUp
  exact (fr_F_Prs_pairUp_g _ (fr_F_Prs_pairUp_d (by omega) 10) _ _ _ _ (by omega) h0)
set_option maxRecDepth 10000 in
set_option linter.unusedVariables false in
theorem fr_F_Prs_steadyWays {q j : Nat} {v : Int32} (σ : Mem) (t1 : Nat) (_c0 : q < 117 ∨ 121 < q) (h0 : kM q j v σ) : (kO (kP (kM q j v) kT)) (F_Prs_steadyWays σ t1) := by
  unfold F_Prs_steadyWays
  exact (k_bt (K := (kM q j v)) (k_up (by omega) h0) (fun σ1 h1 => (k_bt (K := (kM q j v)) (fr_F_Row_putAll _ _ _ _ (by omega) h1) (fun z2 h2 => (k_ite (fun _ => (k_ob (K := (kM q j v)) (fr_F_Prs_pairUp _ _ _ _ (by omega) h2) (fun z5 h3 => (k_some (k_pair h3 trivial))))) (fun _ => (k_ob (K := (kM q j v)) (fr_F_Prs_pairUp _ _ _ _ (by omega) h2) (fun z4 h4 => (k_some (k_pair h4 trivial))))))))))
set_option maxRecDepth 10000 in
set_option linter.unusedVariables false in
theorem fr_F_Prs_steadyPartner {q j : Nat} {v : Int32} (σ : Mem) (t1 : Nat) (v2 : Int32) (_c0 : q < 117 ∨ 121 < q) (h0 : kM q j v σ) : (kO (kP (kM q j v) kT)) (F_Prs_steadyPartner σ t1 v2) := by
  unfold F_Prs_steadyPartner
  exact (k_ob (K := (kP (kM q j v) kT)) (fr_F_Prs_steadyWays _ _ (by omega) h0) (fun z1 h1 => (k_ite (fun _ => (k_some (k_pair (kp1 h1) trivial))) (fun _ => (k_some (k_pair (kp1 h1) trivial))))))
set_option maxRecDepth 10000 in
set_option linter.unusedVariables false in
theorem fr_F_M_says_55_b {q j : Nat} {v : Int32} (σ : Mem) (i1 : Nat) (v2 : Int32) (v3 : Int32) (h0 : kM q j v σ) : (kO (kS kT (kS kT (kP (kM q j v) kT)))) (F_M_says_55_b σ i1 v2 v3) := by
  unfold F_M_says_55_b
  exact (k_ite (fun _ => (k_obI (fun z10 => (k_chk (k_ite (fun _ => (k_btI (fun x13 => (k_some (k_inl trivial))))) (fun _ => (k_some (k_inr (k_inr (k_pair h0 trivial)))))))))) (fun _ => (k_some (k_inr (k_inl trivial)))))
set_option maxRecDepth 10000 in
set_option linter.unusedVariables false in
theorem fr_F_M_says {q j : Nat} {v : Int32} (σ : Mem) (i1 : Nat) (_c0 : q ≠ 333 ∨ j ≠ 11) (h0 : kM q j v σ) : (kO (kP (kM q j v) kT)) (F_M_says σ i1) := by
  unfold F_M_says
  exact (k_ob (K := (kM q j v)) (fr_F_M_skip _ (by omega) h0) (fun z1 h1 => (k_btI (fun x2 => (k_obI (fun z7 => (k_ite (fun _ => (k_ob (K := (kS kT (kP (kM q j v) kT))) (k_whl (K := kT) (fun s h3 => (fr_F_M_says_55_b _ _ _ _ h1)) trivial) (fun z14 h2 => (k_sum h2 (fun s15 h4 => (k_bt (K := (kM q j v)) (k_up (by omega) h1) (fun σ17 h6 => (k_some (k_pair h6 trivial))))) (fun r16 h5 => (k_some h5)))))) (fun _ => (k_some (k_pair h1 trivial))))))))))
set_option maxRecDepth 10000 in
set_option linter.unusedVariables false in
theorem fr_F_M_after {q j : Nat} {v : Int32} (σ : Mem) (i1 : Nat) (v2 : Int32) (v3 : Int32) (_c0 : q ≠ 333 ∨ j ≠ 11) (_c1 : q ≠ 333 ∨ j ≠ 12) (h0 : kM q j v σ) : (kO (kP (kM q j v) kT)) (F_M_after σ i1 v2 v3) := by
  unfold F_M_after
  exact (k_ite (fun _ => (k_ob (K := (kP (kM q j v) kT)) (fr_F_M_says _ _ (by omega) h0) (fun z3 h1 => (k_ite (fun _ => (k_bt (K := (kM q j v)) (fr_F_M_wrong _ _ (by omega) (kp1 h1)) (fun z6 h2 => (k_ob (K := (kP (kM q j v) kT)) (fr_F_M_figures _ _ _ (by omega) (by omega) h2) (fun z7 h3 => (k_some (k_pair (kp1 h3) trivial))))))) (fun _ => (k_ob (K := (kP (kM q j v) kT)) (fr_F_M_figures _ _ _ (by omega) (by omega) (kp1 h1)) (fun z5 h4 => (k_some (k_pair (kp1 h4) trivial))))))))) (fun _ => (k_ob (K := (kP (kM q j v) kT)) (fr_F_M_figures _ _ _ (by omega) (by omega) h0) (fun z2 h5 => (k_some (k_pair (kp1 h5) trivial))))))
set_option maxRecDepth 10000 in
set_option linter.unusedVariables false in
theorem fr_F_M_wedLine {q j : Nat} {v : Int32} (σ : Mem) (v1 : Int32) (_c0 : q ≠ 334) (_c1 : q ≠ 333 ∨ j ≠ 11) (_c2 : q ≠ 333 ∨ j ≠ 12) (h0 : kM q j v σ) : (kO (kM q j v)) (F_M_wedLine σ v1) := by
  unfold F_M_wedLine
  exact (k_ite (fun _ => (k_bt (K := (kM q j v)) (fr_F_M_wrong _ _ (by omega) h0) (fun z11 h1 => (k_ob (K := (kP (kM q j v) kT)) (fr_F_M_place _ (by omega) h1) (fun z12 h2 => (k_ob (K := (kP (kM q j v) kT)) (fr_F_M_who _ (by omega) (by omega) (kp1 h2)) (fun z13 h3 => (k_ob (K := (kM q j v)) (fr_F_M_free _ _ _ (by omega) (kp1 h3)) (fun z14 h4 => (k_ob (K := (kP (kM q j v) kT)) (fr_F_M_place _ (by omega) h4) (fun z15 h5 => (k_ob (K := (kP (kM q j v) kT)) (fr_F_M_other _ _ (by omega) (by omega) (kp1 h5)) (fun z16 h6 => (k_ob (K := (kM q j v)) (fr_F_M_free _ _ _ (by omega) (kp1 h6)) (fun z17 h7 => (k_ob (K := (kP (kM q j v) kT)) (fr_F_M_after _ _ _ _ (by omega) (by omega) h7) (fun z18 h8 => (k_ite (fun _ => (k_ob (K := (kM q j v)) (fr_F_M_comes _ _ _ _ (by omega) (kp1 h8)) (fun z20 h9 => (k_some h9)))) (fun _ => (k_some (kp1 h8))))))))))))))))))))) (fun _ => (k_ob (K := (kP (kM q j v) kT)) (fr_F_M_place _ (by omega) h0) (fun z2 h10 => (k_ob (K := (kP (kM q j v) kT)) (fr_F_M_who _ (by omega) (by omega) (kp1 h10)) (fun z3 h11 => (k_ob (K := (kM q j v)) (fr_F_M_free _ _ _ (by omega) (kp1 h11)) (fun z4 h12 => (k_ob (K := (kP (kM q j v) kT)) (fr_F_M_place _ (by omega) h12) (fun z5 h13 => (k_ob (K := (kP (kM q j v) kT)) (fr_F_M_other _ _ (by omega) (by omega) (kp1 h13)) (fun z6 h14 => (k_ob (K := (kM q j v)) (fr_F_M_free _ _ _ (by omega) (kp1 h14)) (fun z7 h15 => (k_ob (K := (kP (kM q j v) kT)) (fr_F_M_after _ _ _ _ (by omega) (by omega) h15) (fun z8 h16 => (k_ite (fun _ => (k_ob (K := (kM q j v)) (fr_F_M_comes _ _ _ _ (by omega) (kp1 h16)) (fun z10 h17 => (k_some h17)))) (fun _ => (k_some (kp1 h16))))))))))))))))))))
set_option maxRecDepth 10000 in
set_option linter.unusedVariables false in
theorem fr_F_M_townLine {q j : Nat} {v : Int32} (σ : Mem) (_c0 : q ≠ 334) (_c1 : q ≠ 333 ∨ j ≠ 11) (_c2 : q ≠ 333 ∨ j ≠ 12) (h0 : kM q j v σ) : (kO (kM q j v)) (F_M_townLine σ) := by
  unfold F_M_townLine
  exact (k_ob (K := (kP (kM q j v) kT)) (fr_F_M_place _ (by omega) h0) (fun z1 h1 => (k_ob (K := (kP (kM q j v) kT)) (fr_F_M_says _ _ (by omega) (kp1 h1)) (fun z2 h2 => (k_ite (fun _ => (k_ob (K := (kP (kM q j v) kT)) (fr_F_M_says _ _ (by omega) (kp1 h2)) (fun z4 h3 => (k_ite (fun _ => (k_ob (K := (kP (kM q j v) kT)) (fr_F_M_says _ _ (by omega) (kp1 h3)) (fun z6 h4 => (k_ite (fun _ => (k_ob (K := (kP (kM q j v) kT)) (fr_F_M_says _ _ (by omega) (kp1 h4)) (fun z8 h5 => (k_ite (fun _ => (k_ob (K := (kP (kM q j v) kT)) (fr_F_M_says _ _ (by omega) (kp1 h5)) (fun z10 h6 => (k_ite (fun _ => (k_ob (K := (kP (kM q j v) kT)) (fr_F_M_says _ _ (by omega) (kp1 h6)) (fun z12 h7 => (k_ite (fun _ => (k_ob (K := (kP (kM q j v) kT)) (fr_F_M_says _ _ (by omega) (kp1 h7)) (fun z14 h8 => (k_ite (fun _ => (k_ob (K := (kP (kM q j v) kT)) (fr_F_M_says _ _ (by omega) (kp1 h8)) (fun z16 h9 => (k_ite (fun _ => (k_bt (K := (kM q j v)) (fr_F_M_wrong _ _ (by omega) (kp1 h9)) (fun z18 h10 => (k_some h10)))) (fun _ => (k_ob (K := (kM q j v)) (fr_F_M_tells _ _ _ (by omega) (by omega) (by omega) (kp1 h9)) (fun z19 h11 => (k_some h11)))))))) (fun _ => (k_ob (K := (kM q j v)) (fr_F_M_tells _ _ _ (by omega) (by omega) (by omega) (kp1 h8)) (fun z20 h12 => (k_some h12)))))))) (fun _ => (k_ob (K := (kM q j v)) (fr_F_M_tells _ _ _ (by omega) (by omega) (by omega) (kp1 h7)) (fun z21 h13 => (k_some h13)))))))) (fun _ => (k_ob (K := (kM q j v)) (fr_F_M_wedLine _ _ (by omega) (by omega) (by omega) (kp1 h6)) (fun z22 h14 => (k_some h14)))))))) (fun _ => (k_ob (K := (kP (kM q j v) kT)) (fr_F_M_who _ (by omega) (by omega) (kp1 h5)) (fun z23 h15 => (k_ob (K := (kP (kM q j v) kT)) (fr_F_M_other _ _ (by omega) (by omega) (kp1 h15)) (fun z24 h16 => (k_ite (fun _ => (k_ob (K := (kM q j v)) (fr_F_M_has _ _ _ _ (by omega) (kp1 h16)) (fun z26 h17 => (k_some h17)))) (fun _ => (k_some (kp1 h16))))))))))))) (fun _ => (k_ob (K := (kP (kM q j v) kT)) (fr_F_M_who _ (by omega) (by omega) (kp1 h4)) (fun z27 h18 => (k_ob (K := (kP (kM q j v) kT)) (fr_F_M_other _ _ (by omega) (by omega) (kp1 h18)) (fun z28 h19 => (k_ite (fun _ => (k_obI (fun z30 => (k_ob (K := (kM q j v)) (fr_F_M_has _ _ _ _ (by omega) (kp1 h19)) (fun z31 h20 => (k_some h20)))))) (fun _ => (k_some (kp1 h19))))))))))))) (fun _ => (k_ob (K := (kM q j v)) (fr_F_M_likings _ (by omega) (by omega) (by omega) (kp1 h3)) (fun z32 h21 => (k_some h21)))))))) (fun _ => (k_ob (K := (kM q j v)) (fr_F_M_personLine _ _ (by omega) (by omega) (by omega) (kp1 h2)) (fun z33 h22 => (k_some h22)))))))))
set_option maxRecDepth 10000 in
set_option linter.unusedVariables false in
theorem fr_F_M_part {q j : Nat} {v : Int32} (σ : Mem) (_c0 : q ≠ 333 ∨ j ≠ 11) (_c1 : q ≠ 333 ∨ j ≠ 12) (h0 : kM q j v σ) : (kO (kP (kM q j v) kT)) (F_M_part σ) := by
  unfold F_M_part
  exact (k_ite (fun _ => (k_ob (K := (kM q j v)) (fr_F_M_skip _ (by omega) h0) (fun z2 h1 => (k_ite (fun _ => (k_obI (fun z24 => (k_ite (fun _ => (k_ob (K := (kP (kM q j v) kT)) (fr_F_M_says _ _ (by omega) h1) (fun z26 h2 => (k_ite (fun _ => (k_ob (K := (kP (kM q j v) kT)) (fr_F_M_says _ _ (by omega) (kp1 h2)) (fun z28 h3 => (k_ite (fun _ => (k_ob (K := (kP (kM q j v) kT)) (fr_F_M_says _ _ (by omega) (kp1 h3)) (fun z30 h4 => (k_ite (fun _ => (k_ob (K := (kP (kM q j v) kT)) (fr_F_M_says _ _ (by omega) (kp1 h4)) (fun z32 h5 => (k_ite (fun _ => (k_ob (K := (kP (kM q j v) kT)) (fr_F_M_says _ _ (by omega) (kp1 h5)) (fun z34 h6 => (k_ite (fun _ => (k_ob (K := (kP (kM q j v) kT)) (fr_F_M_says _ _ (by omega) (kp1 h6)) (fun z36 h7 => (k_ite (fun _ => (k_bt (K := (kM q j v)) (fr_F_M_wrong _ _ (by omega) (kp1 h7)) (fun z39 h8 => (k_some (k_pair h8 trivial))))) (fun _ => (k_some (k_pair (kp1 h7) trivial))))))) (fun _ => (k_some (k_pair (kp1 h6) trivial))))))) (fun _ => (k_some (k_pair (kp1 h5) trivial))))))) (fun _ => (k_some (k_pair (kp1 h4) trivial))))))) (fun _ => (k_some (k_pair (kp1 h3) trivial))))))) (fun _ => (k_some (k_pair (kp1 h2) trivial))))))) (fun _ => (k_ob (K := (kP (kM q j v) kT)) (fr_F_M_figures _ _ _ (by omega) (by omega) h1) (fun z46 h9 => (k_some (k_pair (kp1 h9) trivial))))))))) (fun _ => (k_ob (K := (kP (kM q j v) kT)) (fr_F_M_says _ _ (by omega) h1) (fun z4 h10 => (k_ite (fun _ => (k_ob (K := (kP (kM q j v) kT)) (fr_F_M_says _ _ (by omega) (kp1 h10)) (fun z6 h11 => (k_ite (fun _ => (k_ob (K := (kP (kM q j v) kT)) (fr_F_M_says _ _ (by omega) (kp1 h11)) (fun z8 h12 => (k_ite (fun _ => (k_ob (K := (kP (kM q j v) kT)) (fr_F_M_says _ _ (by omega) (kp1 h12)) (fun z10 h13 => (k_ite (fun _ => (k_ob (K := (kP (kM q j v) kT)) (fr_F_M_says _ _ (by omega) (kp1 h13)) (fun z12 h14 => (k_ite (fun _ => (k_ob (K := (kP (kM q j v) kT)) (fr_F_M_says _ _ (by omega) (kp1 h14)) (fun z14 h15 => (k_ite (fun _ => (k_bt (K := (kM q j v)) (fr_F_M_wrong _ _ (by omega) (kp1 h15)) (fun z17 h16 => (k_some (k_pair h16 trivial))))) (fun _ => (k_some (k_pair (kp1 h15) trivial))))))) (fun _ => (k_some (k_pair (kp1 h14) trivial))))))) (fun _ => (k_some (k_pair (kp1 h13) trivial))))))) (fun _ => (k_some (k_pair (kp1 h12) trivial))))))) (fun _ => (k_some (k_pair (kp1 h11) trivial))))))) (fun _ => (k_some (k_pair (kp1 h10) trivial))))))))))) (fun _ => (k_some (k_pair h0 trivial))))
set_option maxRecDepth 10000 in
set_option linter.unusedVariables false in
theorem fr_F_M_sum_5_b {q j : Nat} {v : Int32} (v1 : Int32) (σ : Mem) (_c0 : q ≠ 333 ∨ j ≠ 11) (_c1 : q ≠ 333 ∨ j ≠ 12) (h0 : kM q j v σ) : (kO (kS (kP kT (kM q j v)) (kP kT (kM q j v)))) (F_M_sum_5_b v1 σ) := by
  unfold F_M_sum_5_b
  exact (k_ite (fun _ => (k_ob (K := (kP (kM q j v) kT)) (fr_F_M_isSign _ _ (by omega) h0) (fun z3 h1 => (k_ite (fun _ => (k_some (k_inr (k_pair trivial (kp1 h1))))) (fun _ => (k_bt (K := (kM q j v)) (k_up (by omega) (kp1 h1)) (fun σ5 h2 => (k_ob (K := (kP (kM q j v) kT)) (fr_F_M_part _ (by omega) (by omega) h2) (fun z6 h3 => (k_btI (fun x7 => (k_some (k_inl (k_pair trivial (kp1 h3))))))))))))))) (fun _ => (k_some (k_inr (k_pair trivial h0)))))
set_option maxRecDepth 10000 in
set_option linter.unusedVariables false in
theorem fr_F_M_sum {q j : Nat} {v : Int32} (σ : Mem) (_c0 : q ≠ 333 ∨ j ≠ 11) (_c1 : q ≠ 333 ∨ j ≠ 12) (h0 : kM q j v σ) : (kO (kP (kM q j v) kT)) (F_M_sum σ) := by
  unfold F_M_sum
  exact (k_ob (K := (kP (kM q j v) kT)) (fr_F_M_part _ (by omega) (by omega) h0) (fun z1 h1 => (k_ob (K := (kP kT (kM q j v))) (k_whl (K := (kP kT (kM q j v))) (fun s h3 => (fr_F_M_sum_5_b _ _ (by omega) (by omega) (kp2 h3))) (k_pair trivial (kp1 h1))) (fun z8 h2 => (k_some (k_pair (kp2 h2) trivial))))))
set_option maxRecDepth 10000 in
set_option linter.unusedVariables false in
theorem fr_F_M_plain {q j : Nat} {v : Int32} (σ : Mem) (_c0 : q ≠ 333 ∨ j ≠ 11) (_c1 : q ≠ 333 ∨ j ≠ 12) (h0 : kM q j v σ) : (kO (kP (kM q j v) kT)) (F_M_plain σ) := by
  unfold F_M_plain
  exact (k_ob (K := (kP (kM q j v) kT)) (fr_F_M_says _ _ (by omega) h0) (fun z1 h1 => (k_ite (fun _ => (k_ob (K := (kP (kM q j v) kT)) (fr_F_M_says _ _ (by omega) (kp1 h1)) (fun z3 h2 => (k_ite (fun _ => (k_ob (K := (kP (kM q j v) kT)) (fr_F_M_sum _ (by omega) (by omega) (kp1 h2)) (fun z5 h3 => (k_ite (fun _ => (k_ob (K := (kP (kM q j v) kT)) (fr_F_M_isSign _ _ (by omega) (kp1 h3)) (fun z7 h4 => (k_ite (fun _ => (k_ob (K := (kP (kM q j v) kT)) (fr_F_M_isSign _ _ (by omega) (kp1 h4)) (fun z14 h5 => (k_ite (fun _ => (k_bt (K := (kM q j v)) (fr_F_M_wrong _ _ (by omega) (kp1 h5)) (fun z21 h6 => (k_some (k_pair h6 trivial))))) (fun _ => (k_bt (K := (kM q j v)) (k_up (by omega) (kp1 h5)) (fun σ16 h7 => (k_ob (K := (kP (kM q j v) kT)) (fr_F_M_sum _ (by omega) (by omega) h7) (fun z17 h8 => (k_ite (fun _ => (k_ite (fun _ => (k_some (k_pair (kp1 h8) trivial))) (fun _ => (k_some (k_pair (kp1 h8) trivial))))) (fun _ => (k_ite (fun _ => (k_some (k_pair (kp1 h8) trivial))) (fun _ => (k_some (k_pair (kp1 h8) trivial))))))))))))))) (fun _ => (k_bt (K := (kM q j v)) (k_up (by omega) (kp1 h4)) (fun σ9 h9 => (k_ob (K := (kP (kM q j v) kT)) (fr_F_M_sum _ (by omega) (by omega) h9) (fun z10 h10 => (k_ite (fun _ => (k_ite (fun _ => (k_some (k_pair (kp1 h10) trivial))) (fun _ => (k_some (k_pair (kp1 h10) trivial))))) (fun _ => (k_ite (fun _ => (k_some (k_pair (kp1 h10) trivial))) (fun _ => (k_some (k_pair (kp1 h10) trivial))))))))))))))) (fun _ => (k_some (k_pair (kp1 h3) trivial))))))) (fun _ => (k_some (k_pair (kp1 h2) trivial))))))) (fun _ => (k_ite (fun _ => (k_some (k_pair (kp1 h1) trivial))) (fun _ => (k_some (k_pair (kp1 h1) trivial))))))))
set_option maxRecDepth 10000 in
set_option linter.unusedVariables false in
theorem fr_F_M_every_5_b {q j : Nat} {v : Int32} (rc : Mem → Option (Mem × Int32)) (hrc : ∀ (m : Mem), kM q j v m → (kO (kP (kM q j v) kT)) (rc m)) (v1 : Int32) (σ : Mem) (_c0 : q ≠ 333 ∨ j ≠ 11) (h0 : kM q j v σ) : (kO (kS (kP kT (kM q j v)) (kP kT (kM q j v)))) (F_M_every_5_b rc v1 σ) := by
  unfold F_M_every_5_b
  exact (k_ite (fun _ => (k_ob (K := (kP (kM q j v) kT)) (fr_F_M_says _ _ (by omega) h0) (fun z3 h1 => (k_ite (fun _ => (k_some (k_inr (k_pair trivial (kp1 h1))))) (fun _ => (k_ob (K := (kP (kM q j v) kT)) (hrc _ (kp1 h1)) (fun z5 h2 => (k_ite (fun _ => (k_some (k_inl (k_pair trivial (kp1 h2))))) (fun _ => (k_ite (fun _ => (k_some (k_inl (k_pair trivial (kp1 h2))))) (fun _ => (k_some (k_inl (k_pair trivial (kp1 h2))))))))))))))) (fun _ => (k_some (k_inr (k_pair trivial h0)))))
set_option maxRecDepth 10000 in
set_option linter.unusedVariables false in
theorem fr_F_M_every_g {q j : Nat} {v : Int32} (rc : Mem → Option (Mem × Int32)) (hrc : ∀ (m : Mem), kM q j v m → (kO (kP (kM q j v) kT)) (rc m)) (σ : Mem) (_c0 : q ≠ 333 ∨ j ≠ 11) (h0 : kM q j v σ) : (kO (kP (kM q j v) kT)) (F_M_every_g rc σ) := by
  unfold F_M_every_g
  exact (k_ob (K := (kP (kM q j v) kT)) (hrc _ h0) (fun z1 h1 => (k_ob (K := (kP kT (kM q j v))) (k_whl (K := (kP kT (kM q j v))) (fun s h3 => (fr_F_M_every_5_b _ hrc _ _ (by omega) (kp2 h3))) (k_pair trivial (kp1 h1))) (fun z8 h2 => (k_some (k_pair (kp2 h2) trivial))))))
set_option maxRecDepth 10000 in
set_option linter.unusedVariables false in
theorem fr_F_M_some_5_b {q j : Nat} {v : Int32} (rc : Mem → Option (Mem × Int32)) (hrc : ∀ (m : Mem), kM q j v m → (kO (kP (kM q j v) kT)) (rc m)) (v1 : Int32) (σ : Mem) (_c0 : q ≠ 333 ∨ j ≠ 11) (h0 : kM q j v σ) : (kO (kS (kP kT (kM q j v)) (kP kT (kM q j v)))) (F_M_some_5_b rc v1 σ) := by
  unfold F_M_some_5_b
  exact (k_ite (fun _ => (k_ob (K := (kP (kM q j v) kT)) (fr_F_M_says _ _ (by omega) h0) (fun z3 h1 => (k_ite (fun _ => (k_some (k_inr (k_pair trivial (kp1 h1))))) (fun _ => (k_ob (K := (kP (kM q j v) kT)) (fr_F_M_every_g _ hrc _ (by omega) (kp1 h1)) (fun z5 h2 => (k_ite (fun _ => (k_ite (fun _ => (k_some (k_inl (k_pair trivial (kp1 h2))))) (fun _ => (k_some (k_inl (k_pair trivial (kp1 h2))))))) (fun _ => (k_some (k_inl (k_pair trivial (kp1 h2))))))))))))) (fun _ => (k_some (k_inr (k_pair trivial h0)))))
set_option maxRecDepth 10000 in
set_option linter.unusedVariables false in
theorem fr_F_M_some_g {q j : Nat} {v : Int32} (rc : Mem → Option (Mem × Int32)) (hrc : ∀ (m : Mem), kM q j v m → (kO (kP (kM q j v) kT)) (rc m)) (σ : Mem) (_c0 : q ≠ 333 ∨ j ≠ 11) (h0 : kM q j v σ) : (kO (kP (kM q j v) kT)) (F_M_some_g rc σ) := by
  unfold F_M_some_g
  exact (k_ob (K := (kP (kM q j v) kT)) (fr_F_M_every_g _ hrc _ (by omega) h0) (fun z1 h1 => (k_ob (K := (kP kT (kM q j v))) (k_whl (K := (kP kT (kM q j v))) (fun s h3 => (fr_F_M_some_5_b _ hrc _ _ (by omega) (kp2 h3))) (k_pair trivial (kp1 h1))) (fun z8 h2 => (k_some (k_pair (kp2 h2) trivial))))))
set_option maxRecDepth 10000 in
set_option linter.unusedVariables false in
theorem fr_F_M_atom_g {q j : Nat} {v : Int32} (rc : Mem → Option (Mem × Int32)) (hrc : ∀ (m : Mem), kM q j v m → (kO (kP (kM q j v) kT)) (rc m)) (σ : Mem) (_c0 : q ≠ 333 ∨ j ≠ 11) (_c1 : q ≠ 333 ∨ j ≠ 12) (_c2 : q ≠ 333 ∨ j ≠ 13) (h0 : kM q j v σ) : (kO (kP (kM q j v) kT)) (F_M_atom_g rc σ) := by
  unfold F_M_atom_g
  exact (k_ite (fun _ => (k_ob (K := (kP (kM q j v) kT)) (fr_F_M_place _ (by omega) h0) (fun z2 h1 => (k_ob (K := (kP (kM q j v) kT)) (fr_F_M_says _ _ (by omega) (kp1 h1)) (fun z3 h2 => (k_ite (fun _ => (k_ob (K := (kP (kM q j v) kT)) (fr_F_M_isSign _ _ (by omega) (kp1 h2)) (fun z25 h3 => (k_ite (fun _ => (k_ob (K := (kP (kM q j v) kT)) (fr_F_M_plain _ (by omega) (by omega) (kp1 h3)) (fun z47 h4 => (k_some (k_pair (kp1 h4) trivial))))) (fun _ => (k_ite (fun _ => (k_bt (K := (kM q j v)) (fr_F_M_wrong _ _ (by omega) (kp1 h3)) (fun z46 h5 => (k_some (k_pair h5 trivial))))) (fun _ => (k_bt (K := (kM q j v)) (k_up (by omega) (kp1 h3)) (fun σ28 h6 => (k_ite (fun _ => (k_bt (K := (kM q j v)) (k_up (by omega) h6) (fun σ30 h7 => (k_ob (K := (kP (kM q j v) kT)) (fr_F_M_some_g _ hrc _ (by omega) h7) (fun z31 h8 => (k_ite (fun _ => (k_ob (K := (kP (kM q j v) kT)) (fr_F_M_isSign _ _ (by omega) (kp1 h8)) (fun z35 h9 => (k_ite (fun _ => (k_bt (K := (kM q j v)) (fr_F_M_wrong _ _ (by omega) (kp1 h9)) (fun z39 h10 => (k_bt (K := (kM q j v)) (k_up (by omega) h10) (fun σ40 h11 => (k_bt (K := (kM q j v)) (k_up (by omega) h11) (fun σ41 h12 => (k_some (k_pair h12 trivial))))))))) (fun _ => (k_bt (K := (kM q j v)) (k_up (by omega) (kp1 h9)) (fun σ37 h13 => (k_bt (K := (kM q j v)) (k_up (by omega) h13) (fun σ38 h14 => (k_some (k_pair h14 trivial))))))))))) (fun _ => (k_bt (K := (kM q j v)) (k_up (by omega) (kp1 h8)) (fun σ33 h15 => (k_bt (K := (kM q j v)) (k_up (by omega) h15) (fun σ34 h16 => (k_some (k_pair h16 trivial))))))))))))) (fun _ => (k_ob (K := (kP (kM q j v) kT)) (hrc _ h6) (fun z42 h17 => (k_ite (fun _ => (k_bt (K := (kM q j v)) (k_up (by omega) (kp1 h17)) (fun σ45 h18 => (k_some (k_pair h18 trivial))))) (fun _ => (k_bt (K := (kM q j v)) (k_up (by omega) (kp1 h17)) (fun σ44 h19 => (k_some (k_pair h19 trivial))))))))))))))))))) (fun _ => (k_ite (fun _ => (k_bt (K := (kM q j v)) (fr_F_M_wrong _ _ (by omega) (kp1 h2)) (fun z24 h20 => (k_some (k_pair h20 trivial))))) (fun _ => (k_bt (K := (kM q j v)) (k_up (by omega) (kp1 h2)) (fun σ6 h21 => (k_ite (fun _ => (k_bt (K := (kM q j v)) (k_up (by omega) h21) (fun σ8 h22 => (k_ob (K := (kP (kM q j v) kT)) (fr_F_M_some_g _ hrc _ (by omega) h22) (fun z9 h23 => (k_ite (fun _ => (k_ob (K := (kP (kM q j v) kT)) (fr_F_M_isSign _ _ (by omega) (kp1 h23)) (fun z13 h24 => (k_ite (fun _ => (k_bt (K := (kM q j v)) (fr_F_M_wrong _ _ (by omega) (kp1 h24)) (fun z17 h25 => (k_bt (K := (kM q j v)) (k_up (by omega) h25) (fun σ18 h26 => (k_bt (K := (kM q j v)) (k_up (by omega) h26) (fun σ19 h27 => (k_some (k_pair h27 trivial))))))))) (fun _ => (k_bt (K := (kM q j v)) (k_up (by omega) (kp1 h24)) (fun σ15 h28 => (k_bt (K := (kM q j v)) (k_up (by omega) h28) (fun σ16 h29 => (k_some (k_pair h29 trivial))))))))))) (fun _ => (k_bt (K := (kM q j v)) (k_up (by omega) (kp1 h23)) (fun σ11 h30 => (k_bt (K := (kM q j v)) (k_up (by omega) h30) (fun σ12 h31 => (k_some (k_pair h31 trivial))))))))))))) (fun _ => (k_ob (K := (kP (kM q j v) kT)) (hrc _ h21) (fun z20 h32 => (k_ite (fun _ => (k_bt (K := (kM q j v)) (k_up (by omega) (kp1 h32)) (fun σ23 h33 => (k_some (k_pair h33 trivial))))) (fun _ => (k_bt (K := (kM q j v)) (k_up (by omega) (kp1 h32)) (fun σ22 h34 => (k_some (k_pair h34 trivial))))))))))))))))))))) (fun _ => (k_some (k_pair h0 trivial))))
theorem fr_F_M_atom_d {q j : Nat} {v : Int32} (_c0 : q ≠ 333 ∨ j ≠ 11) (_c1 : q ≠ 333 ∨ j ≠ 12) (_c2 : q ≠ 333 ∨ j ≠ 13) : ∀ (d : Nat) (m : Mem) (h0 : kM q j v m), (kO (kP (kM q j v) kT)) (F_M_atom_d d m) := by
  intro d
  induction d with
  | zero => intro m h0; exact k_none
  | succ d ih => intro m h0; exact fr_F_M_atom_g _ ih _ (by omega) (by omega) (by omega) h0
set_option maxRecDepth 10000 in
set_option linter.unusedVariables false in
theorem fr_F_M_every {q j : Nat} {v : Int32} (σ : Mem) (_c0 : q ≠ 333 ∨ j ≠ 11) (_c1 : q ≠ 333 ∨ j ≠ 12) (_c2 : q ≠ 333 ∨ j ≠ 13) (h0 : kM q j v σ) : (kO (kP (kM q j v) kT)) (F_M_every σ) := by
  unfold F_M_every
  exact (fr_F_M_every_g _ (fr_F_M_atom_d (by omega) (by omega) (by omega) 9) _ (by omega) h0)
set_option maxRecDepth 10000 in
set_option linter.unusedVariables false in
theorem fr_F_M_some {q j : Nat} {v : Int32} (σ : Mem) (_c0 : q ≠ 333 ∨ j ≠ 11) (_c1 : q ≠ 333 ∨ j ≠ 12) (_c2 : q ≠ 333 ∨ j ≠ 13) (h0 : kM q j v σ) : (kO (kP (kM q j v) kT)) (F_M_some σ) := by
  unfold F_M_some
  exact (fr_F_M_some_g _ (fr_F_M_atom_d (by omega) (by omega) (by omega) 9) _ (by omega) h0)
set_option maxRecDepth 10000 in
set_option linter.unusedVariables false in
theorem fr_F_M_atom {q j : Nat} {v : Int32} (σ : Mem) (_c0 : q ≠ 333 ∨ j ≠ 11) (_c1 : q ≠ 333 ∨ j ≠ 12) (_c2 : q ≠ 333 ∨ j ≠ 13) (h0 : kM q j v σ) : (kO (kP (kM q j v) kT)) (F_M_atom σ) := by
  unfold F_M_atom
  exact (fr_F_M_atom_g _ (fr_F_M_atom_d (by omega) (by omega) (by omega) 9) _ (by omega) (by omega) (by omega) h0)
set_option maxRecDepth 10000 in
set_option linter.unusedVariables false in
theorem fr_F_M_lawLine {q j : Nat} {v : Int32} (σ : Mem) (_c0 : q ≠ 333 ∨ j ≠ 11) (_c1 : q ≠ 333 ∨ j ≠ 12) (_c2 : q ≠ 333 ∨ j ≠ 13) (_c3 : q ≠ 333 ∨ j ≠ 16) (h0 : kM q j v σ) : (kO (kM q j v)) (F_M_lawLine σ) := by
  unfold F_M_lawLine
  exact (k_ob (K := (kP (kM q j v) kT)) (fr_F_M_says _ _ (by omega) h0) (fun z1 h1 => (k_ite (fun _ => (k_ob (K := (kP (kM q j v) kT)) (fr_F_M_says _ _ (by omega) (kp1 h1)) (fun z21 h2 => (k_ite (fun _ => (k_bt (K := (kM q j v)) (fr_F_M_wrong _ _ (by omega) (kp1 h2)) (fun z41 h3 => (k_some h3)))) (fun _ => (k_ob (K := (kP (kM q j v) kT)) (fr_F_M_figures _ _ _ (by omega) (by omega) (kp1 h2)) (fun z23 h4 => (k_ite (fun _ => (k_ob (K := (kP (kM q j v) kT)) (fr_F_M_says _ _ (by omega) (kp1 h4)) (fun z25 h5 => (k_ite (fun _ => (k_ite (fun _ => (k_ite (fun _ => (k_bt (K := (kM q j v)) (k_up (by omega) (kp1 h5)) (fun σ30 h6 => (k_some h6)))) (fun _ => (k_bt (K := (kM q j v)) (k_up (by omega) (kp1 h5)) (fun σ31 h7 => (k_some h7)))))) (fun _ => (k_some (kp1 h5))))) (fun _ => (k_ob (K := (kP (kM q j v) kT)) (fr_F_M_some _ (by omega) (by omega) (by omega) (kp1 h5)) (fun z32 h8 => (k_ite (fun _ => (k_ite (fun _ => (k_some (kp1 h8))) (fun _ => (k_some (kp1 h8))))) (fun _ => (k_ite (fun _ => (k_ite (fun _ => (k_bt (K := (kM q j v)) (k_up (by omega) (kp1 h8)) (fun σ39 h9 => (k_some h9)))) (fun _ => (k_bt (K := (kM q j v)) (k_up (by omega) (kp1 h8)) (fun σ40 h10 => (k_some h10)))))) (fun _ => (k_some (kp1 h8))))))))))))) (fun _ => (k_some (kp1 h4))))))))))) (fun _ => (k_ob (K := (kP (kM q j v) kT)) (fr_F_M_figures _ _ _ (by omega) (by omega) (kp1 h1)) (fun z3 h11 => (k_ite (fun _ => (k_ob (K := (kP (kM q j v) kT)) (fr_F_M_says _ _ (by omega) (kp1 h11)) (fun z5 h12 => (k_ite (fun _ => (k_ite (fun _ => (k_ite (fun _ => (k_bt (K := (kM q j v)) (k_up (by omega) (kp1 h12)) (fun σ10 h13 => (k_some h13)))) (fun _ => (k_bt (K := (kM q j v)) (k_up (by omega) (kp1 h12)) (fun σ11 h14 => (k_some h14)))))) (fun _ => (k_some (kp1 h12))))) (fun _ => (k_ob (K := (kP (kM q j v) kT)) (fr_F_M_some _ (by omega) (by omega) (by omega) (kp1 h12)) (fun z12 h15 => (k_ite (fun _ => (k_ite (fun _ => (k_some (kp1 h15))) (fun _ => (k_some (kp1 h15))))) (fun _ => (k_ite (fun _ => (k_ite (fun _ => (k_bt (K := (kM q j v)) (k_up (by omega) (kp1 h15)) (fun σ19 h16 => (k_some h16)))) (fun _ => (k_bt (K := (kM q j v)) (k_up (by omega) (kp1 h15)) (fun σ20 h17 => (k_some h17)))))) (fun _ => (k_some (kp1 h15))))))))))))) (fun _ => (k_some (kp1 h11))))))))))
set_option maxRecDepth 10000 in
set_option linter.unusedVariables false in
theorem fr_F_M_read_23_b {q j : Nat} {v : Int32} (v1 : Int32) (v2 : Int32) (v3 : Int32) (σ : Mem) (_c0 : q ≠ 334) (_c1 : q ≠ 333 ∨ j ≠ 11) (_c2 : q ≠ 333 ∨ j ≠ 12) (_c3 : q ≠ 333 ∨ j ≠ 13) (_c4 : q ≠ 333 ∨ j ≠ 16) (h0 : kM q j v σ) : (kO (kS (kP kT (kP kT (kM q j v))) (kP kT (kP kT (kM q j v))))) (F_M_read_23_b v1 v2 v3 σ) := by
  unfold F_M_read_23_b
  exact (k_ite (fun _ => (k_some (k_inr (k_pair trivial (k_pair trivial h0))))) (fun _ => (k_ite (fun _ => (k_ob (K := (kM q j v)) (fr_F_M_skip _ (by omega) h0) (fun z5 h1 => (k_ite (fun _ => (k_ite (fun _ => (k_bt (K := (kM q j v)) (fr_F_M_wrong _ _ (by omega) h1) (fun z27 h2 => (k_btI (fun x28 => (k_ob (K := (kM q j v)) (fr_F_M_skip _ (by omega) h2) (fun z29 h3 => (k_ite (fun _ => (k_ite (fun _ => (k_some (k_inl (k_pair trivial (k_pair trivial h3))))) (fun _ => (k_ob (K := (kP (kM q j v) kT)) (fr_F_M_isSign _ _ (by omega) h3) (fun z32 h4 => (k_ite (fun _ => (k_bt (K := (kM q j v)) (fr_F_M_wrong _ _ (by omega) (kp1 h4)) (fun z34 h5 => (k_some (k_inl (k_pair trivial (k_pair trivial h5))))))) (fun _ => (k_bt (K := (kM q j v)) (k_up (by omega) (kp1 h4)) (fun σ35 h6 => (k_some (k_inl (k_pair trivial (k_pair trivial h6))))))))))))) (fun _ => (k_some (k_inl (k_pair trivial (k_pair trivial h3))))))))))))) (fun _ => (k_ite (fun _ => (k_ob (K := (kM q j v)) (fr_F_M_townLine _ (by omega) (by omega) (by omega) h1) (fun z9 h7 => (k_btI (fun x10 => (k_ob (K := (kM q j v)) (fr_F_M_skip _ (by omega) h7) (fun z11 h8 => (k_ite (fun _ => (k_ite (fun _ => (k_some (k_inl (k_pair trivial (k_pair trivial h8))))) (fun _ => (k_ob (K := (kP (kM q j v) kT)) (fr_F_M_isSign _ _ (by omega) h8) (fun z14 h9 => (k_ite (fun _ => (k_bt (K := (kM q j v)) (fr_F_M_wrong _ _ (by omega) (kp1 h9)) (fun z16 h10 => (k_some (k_inl (k_pair trivial (k_pair trivial h10))))))) (fun _ => (k_bt (K := (kM q j v)) (k_up (by omega) (kp1 h9)) (fun σ17 h11 => (k_some (k_inl (k_pair trivial (k_pair trivial h11))))))))))))) (fun _ => (k_some (k_inl (k_pair trivial (k_pair trivial h8))))))))))))) (fun _ => (k_ob (K := (kM q j v)) (fr_F_M_lawLine _ (by omega) (by omega) (by omega) (by omega) h1) (fun z18 h12 => (k_btI (fun x19 => (k_ob (K := (kM q j v)) (fr_F_M_skip _ (by omega) h12) (fun z20 h13 => (k_ite (fun _ => (k_ite (fun _ => (k_some (k_inl (k_pair trivial (k_pair trivial h13))))) (fun _ => (k_ob (K := (kP (kM q j v) kT)) (fr_F_M_isSign _ _ (by omega) h13) (fun z23 h14 => (k_ite (fun _ => (k_bt (K := (kM q j v)) (fr_F_M_wrong _ _ (by omega) (kp1 h14)) (fun z25 h15 => (k_some (k_inl (k_pair trivial (k_pair trivial h15))))))) (fun _ => (k_bt (K := (kM q j v)) (k_up (by omega) (kp1 h14)) (fun σ26 h16 => (k_some (k_inl (k_pair trivial (k_pair trivial h16))))))))))))) (fun _ => (k_some (k_inl (k_pair trivial (k_pair trivial h13))))))))))))))))) (fun _ => (k_ite (fun _ => (k_bt (K := (kM q j v)) (fr_F_M_wrong _ _ (by omega) h1) (fun z56 h17 => (k_btI (fun x57 => (k_ob (K := (kM q j v)) (fr_F_M_skip _ (by omega) h17) (fun z58 h18 => (k_ite (fun _ => (k_ite (fun _ => (k_some (k_inl (k_pair trivial (k_pair trivial h18))))) (fun _ => (k_ob (K := (kP (kM q j v) kT)) (fr_F_M_isSign _ _ (by omega) h18) (fun z61 h19 => (k_ite (fun _ => (k_bt (K := (kM q j v)) (fr_F_M_wrong _ _ (by omega) (kp1 h19)) (fun z63 h20 => (k_some (k_inl (k_pair trivial (k_pair trivial h20))))))) (fun _ => (k_bt (K := (kM q j v)) (k_up (by omega) (kp1 h19)) (fun σ64 h21 => (k_some (k_inl (k_pair trivial (k_pair trivial h21))))))))))))) (fun _ => (k_some (k_inl (k_pair trivial (k_pair trivial h18))))))))))))) (fun _ => (k_ite (fun _ => (k_ob (K := (kM q j v)) (fr_F_M_townLine _ (by omega) (by omega) (by omega) h1) (fun z38 h22 => (k_btI (fun x39 => (k_ob (K := (kM q j v)) (fr_F_M_skip _ (by omega) h22) (fun z40 h23 => (k_ite (fun _ => (k_ite (fun _ => (k_some (k_inl (k_pair trivial (k_pair trivial h23))))) (fun _ => (k_ob (K := (kP (kM q j v) kT)) (fr_F_M_isSign _ _ (by omega) h23) (fun z43 h24 => (k_ite (fun _ => (k_bt (K := (kM q j v)) (fr_F_M_wrong _ _ (by omega) (kp1 h24)) (fun z45 h25 => (k_some (k_inl (k_pair trivial (k_pair trivial h25))))))) (fun _ => (k_bt (K := (kM q j v)) (k_up (by omega) (kp1 h24)) (fun σ46 h26 => (k_some (k_inl (k_pair trivial (k_pair trivial h26))))))))))))) (fun _ => (k_some (k_inl (k_pair trivial (k_pair trivial h23))))))))))))) (fun _ => (k_ob (K := (kM q j v)) (fr_F_M_lawLine _ (by omega) (by omega) (by omega) (by omega) h1) (fun z47 h27 => (k_btI (fun x48 => (k_ob (K := (kM q j v)) (fr_F_M_skip _ (by omega) h27) (fun z49 h28 => (k_ite (fun _ => (k_ite (fun _ => (k_some (k_inl (k_pair trivial (k_pair trivial h28))))) (fun _ => (k_ob (K := (kP (kM q j v) kT)) (fr_F_M_isSign _ _ (by omega) h28) (fun z52 h29 => (k_ite (fun _ => (k_bt (K := (kM q j v)) (fr_F_M_wrong _ _ (by omega) (kp1 h29)) (fun z54 h30 => (k_some (k_inl (k_pair trivial (k_pair trivial h30))))))) (fun _ => (k_bt (K := (kM q j v)) (k_up (by omega) (kp1 h29)) (fun σ55 h31 => (k_some (k_inl (k_pair trivial (k_pair trivial h31))))))))))))) (fun _ => (k_some (k_inl (k_pair trivial (k_pair trivial h28))))))))))))))))))))) (fun _ => (k_some (k_inr (k_pair trivial (k_pair trivial h0))))))))
set_option maxRecDepth 10000 in
set_option linter.unusedVariables false in
theorem fr_F_M_read {q j : Nat} {v : Int32} (σ : Mem) (v1 : Int32) (_c0 : q ≠ 334) (_c1 : q ≠ 333 ∨ j ≠ 11) (_c2 : q ≠ 333 ∨ j ≠ 12) (_c3 : q ≠ 333 ∨ j ≠ 13) (_c4 : q ≠ 333 ∨ j ≠ 16) (h0 : kM q j v σ) : (kO (kP (kM q j v) kT)) (F_M_read σ v1) := by
  unfold F_M_read
  exact (k_ob (K := (kM q j v)) (fr_F_M_skip _ (by omega) h0) (fun z1 h1 => (k_ite (fun _ => (k_ob (K := (kP kT (kP kT (kM q j v)))) (k_whl (K := (kP kT (kP kT (kM q j v)))) (fun s h3 => (fr_F_M_read_23_b _ _ _ _ (by omega) (by omega) (by omega) (by omega) (by omega) (kp2 (kp2 h3)))) (k_pair trivial (k_pair trivial h1))) (fun z66 h2 => (k_some (k_pair (kp2 (kp2 h2)) trivial))))) (fun _ => (k_ob (K := (kP kT (kP kT (kM q j v)))) (k_whl (K := (kP kT (kP kT (kM q j v)))) (fun s h5 => (fr_F_M_read_23_b _ _ _ _ (by omega) (by omega) (by omega) (by omega) (by omega) (kp2 (kp2 h5)))) (k_pair trivial (k_pair trivial h1))) (fun z65 h4 => (k_some (k_pair (kp2 (kp2 h4)) trivial))))))))
set_option maxRecDepth 10000 in
set_option linter.unusedVariables false in
theorem fr_F_M_town {q j : Nat} {v : Int32} (σ : Mem) (_c0 : q ≠ 334) (_c1 : q ≠ 336) (_c2 : q ≠ 333 ∨ j ≠ 0) (_c3 : q ≠ 333 ∨ j ≠ 6) (_c4 : q ≠ 333 ∨ j ≠ 8) (_c5 : q ≠ 333 ∨ j ≠ 9) (_c6 : q ≠ 333 ∨ j ≠ 10) (_c7 : q ≠ 333 ∨ j ≠ 11) (_c8 : q ≠ 333 ∨ j ≠ 12) (_c9 : q ≠ 333 ∨ j ≠ 13) (_c10 : q ≠ 333 ∨ j ≠ 16) (h0 : kM q j v σ) : (kO (kP (kM q j v) kT)) (F_M_town σ) := by
  unfold F_M_town
  exact (k_ob (K := (kM q j v)) (fr_F_M_putsAside _ (by omega) h0) (fun z1 h1 => (k_bt (K := (kM q j v)) (fr_F_M_begins _ (by omega) (by omega) (by omega) (by omega) (by omega) (by omega) h1) (fun z2 h2 => (k_ob (K := (kP (kM q j v) kT)) (fr_F_M_read _ _ (by omega) (by omega) (by omega) (by omega) (by omega) h2) (fun z3 h3 => (k_ite (fun _ => (k_ite (fun _ => (k_bt (K := (kM q j v)) (k_up (by omega) (kp1 h3)) (fun σ11 h4 => (k_ite (fun _ => (k_ob (K := (kM q j v)) (fr_F_M_comesBack _ (by omega) h4) (fun z15 h5 => (k_some (k_pair h5 trivial))))) (fun _ => (k_bt (K := (kM q j v)) (k_up (by omega) h4) (fun σ13 h6 => (k_bt (K := (kM q j v)) (k_up (by omega) h6) (fun σ14 h7 => (k_some (k_pair h7 trivial))))))))))) (fun _ => (k_bt (K := (kM q j v)) (k_up (by omega) (kp1 h3)) (fun σ6 h8 => (k_ite (fun _ => (k_ob (K := (kM q j v)) (fr_F_M_comesBack _ (by omega) h8) (fun z10 h9 => (k_some (k_pair h9 trivial))))) (fun _ => (k_bt (K := (kM q j v)) (k_up (by omega) h8) (fun σ8 h10 => (k_bt (K := (kM q j v)) (k_up (by omega) h10) (fun σ9 h11 => (k_some (k_pair h11 trivial))))))))))))) (fun _ => (k_bt (K := (kM q j v)) (k_up (by omega) (kp1 h3)) (fun σ16 h12 => (k_ite (fun _ => (k_ob (K := (kM q j v)) (fr_F_M_comesBack _ (by omega) h12) (fun z20 h13 => (k_some (k_pair h13 trivial))))) (fun _ => (k_bt (K := (kM q j v)) (k_up (by omega) h12) (fun σ18 h14 => (k_bt (K := (kM q j v)) (k_up (by omega) h14) (fun σ19 h15 => (k_some (k_pair h15 trivial))))))))))))))))))
set_option maxRecDepth 10000 in
set_option linter.unusedVariables false in
theorem fr_F_M_law_55_b {q j : Nat} {v : Int32} (v1 : Int32) (v2 : Int32) (σ : Mem) (_c0 : q ≠ 334) (h0 : kM q j v σ) : (kO (kS (kP kT (kM q j v)) (kP kT (kM q j v)))) (F_M_law_55_b v1 v2 σ) := by
  unfold F_M_law_55_b
  exact (k_ite (fun _ => (k_chk (k_btI (fun i10 => (k_chk (k_bt (K := (kM q j v)) (k_up (by omega) h0) (fun σ12 h1 => (k_btI (fun x13 => (k_some (k_inl (k_pair trivial h1)))))))))))) (fun _ => (k_some (k_inr (k_pair trivial h0)))))
set_option maxRecDepth 10000 in
set_option linter.unusedVariables false in
theorem fr_F_M_law {q j : Nat} {v : Int32} (σ : Mem) (_c0 : q ≠ 334) (_c1 : q ≠ 333 ∨ j ≠ 0) (_c2 : q ≠ 333 ∨ j ≠ 6) (_c3 : q ≠ 333 ∨ j ≠ 8) (_c4 : q ≠ 333 ∨ j ≠ 9) (_c5 : q ≠ 333 ∨ j ≠ 10) (_c6 : q ≠ 333 ∨ j ≠ 11) (_c7 : q ≠ 333 ∨ j ≠ 12) (_c8 : q ≠ 333 ∨ j ≠ 13) (_c9 : q ≠ 333 ∨ j ≠ 16) (h0 : kM q j v σ) : (kO (kP (kM q j v) kT)) (F_M_law σ) := by
  unfold F_M_law
  exact (k_bt (K := (kM q j v)) (fr_F_M_begins _ (by omega) (by omega) (by omega) (by omega) (by omega) (by omega) h0) (fun z1 h1 => (k_ob (K := (kP (kM q j v) kT)) (fr_F_M_read _ _ (by omega) (by omega) (by omega) (by omega) (by omega) h1) (fun z2 h2 => (k_ite (fun _ => (k_bt (K := (kM q j v)) (k_up (by omega) (kp1 h2)) (fun σ4 h3 => (k_ite (fun _ => (k_some (k_pair h3 trivial))) (fun _ => (k_bt (K := (kM q j v)) (k_up (by omega) h3) (fun σ6 h4 => (k_bt (K := (kM q j v)) (k_up (by omega) h4) (fun σ7 h5 => (k_ob (K := (kP kT (kM q j v))) (k_whl (K := (kP kT (kM q j v))) (fun s h7 => (fr_F_M_law_55_b _ _ _ (by omega) (kp2 h7))) (k_pair trivial h5)) (fun z14 h6 => (k_bt (K := (kM q j v)) (k_up (by omega) (kp2 h6)) (fun σ15 h8 => (k_some (k_pair h8 trivial))))))))))))))) (fun _ => (k_bt (K := (kM q j v)) (k_up (by omega) (kp1 h2)) (fun σ16 h9 => (k_ite (fun _ => (k_some (k_pair h9 trivial))) (fun _ => (k_bt (K := (kM q j v)) (k_up (by omega) h9) (fun σ18 h10 => (k_bt (K := (kM q j v)) (k_up (by omega) h10) (fun σ19 h11 => (k_ob (K := (kP kT (kM q j v))) (k_whl (K := (kP kT (kM q j v))) (fun s h13 => (fr_F_M_law_55_b _ _ _ (by omega) (kp2 h13))) (k_pair trivial h11)) (fun z20 h12 => (k_bt (K := (kM q j v)) (k_up (by omega) (kp2 h12)) (fun σ21 h14 => (k_some (k_pair h14 trivial))))))))))))))))))))
set_option maxRecDepth 10000 in
set_option linter.unusedVariables false in
theorem fr_F_M_turnsBy {q j : Nat} {v : Int32} (σ : Mem) (v1 : Int32) (v2 : Int32) (_c0 : q ≠ 334) (_c1 : q ≠ 339) (_c2 : q ≠ 333 ∨ j ≠ 9) (_c3 : q ≠ 333 ∨ j ≠ 10) (_c4 : q ≠ 333 ∨ j ≠ 11) (_c5 : q ≠ 333 ∨ j ≠ 12) (_c6 : q ≠ 333 ∨ j ≠ 13) (_c7 : q ≠ 333 ∨ j ≠ 15) (_c8 : q ≠ 333 ∨ j ≠ 16) (h0 : kM q j v σ) : (kO (kP (kM q j v) kT)) (F_M_turnsBy σ v1 v2) := by
  unfold F_M_turnsBy
  exact (k_obI (fun z1 => (k_obI (fun z2 => (k_obI (fun z3 => (k_bt (K := (kM q j v)) (k_up (by omega) h0) (fun σ4 h1 => (k_obI (fun z5 => (k_bt (K := (kM q j v)) (k_up (by omega) h1) (fun σ6 h2 => (k_bt (K := (kM q j v)) (k_up (by omega) h2) (fun σ7 h3 => (k_obI (fun z8 => (k_bt (K := (kM q j v)) (k_up (by omega) h3) (fun σ9 h4 => (k_obI (fun z10 => (k_obI (fun z11 => (k_bt (K := (kM q j v)) (k_up (by omega) h4) (fun σ12 h5 => (k_bt (K := (kM q j v)) (k_up (by omega) h5) (fun σ13 h6 => (k_obI (fun z14 => (k_obI (fun z15 => (k_ite (fun _ => (k_bt (K := (kM q j v)) (k_up (by omega) h6) (fun σ28 h7 => (k_ite (fun _ => (k_some (k_pair h7 trivial))) (fun _ => (k_bt (K := (kM q j v)) (k_up (by omega) h7) (fun σ30 h8 => (k_btI (fun x31 => (k_bt (K := (kM q j v)) (k_up (by omega) h8) (fun σ32 h9 => (k_bt (K := (kM q j v)) (k_up (by omega) h9) (fun σ33 h10 => (k_bt (K := (kM q j v)) (k_up (by omega) h10) (fun σ34 h11 => (k_bt (K := (kM q j v)) (k_up (by omega) h11) (fun σ35 h12 => (k_bt (K := (kM q j v)) (k_up (by omega) h12) (fun σ36 h13 => (k_ob (K := (kP (kM q j v) kT)) (fr_F_M_read _ _ (by omega) (by omega) (by omega) (by omega) (by omega) h13) (fun z37 h14 => (k_bt (K := (kM q j v)) (k_up (by omega) (kp1 h14)) (fun σ38 h15 => (k_some (k_pair h15 trivial))))))))))))))))))))))))) (fun _ => (k_bt (K := (kM q j v)) (k_up (by omega) h6) (fun σ17 h16 => (k_ite (fun _ => (k_some (k_pair h16 trivial))) (fun _ => (k_bt (K := (kM q j v)) (k_up (by omega) h16) (fun σ19 h17 => (k_btI (fun x20 => (k_bt (K := (kM q j v)) (k_up (by omega) h17) (fun σ21 h18 => (k_bt (K := (kM q j v)) (k_up (by omega) h18) (fun σ22 h19 => (k_bt (K := (kM q j v)) (k_up (by omega) h19) (fun σ23 h20 => (k_bt (K := (kM q j v)) (k_up (by omega) h20) (fun σ24 h21 => (k_bt (K := (kM q j v)) (k_up (by omega) h21) (fun σ25 h22 => (k_ob (K := (kP (kM q j v) kT)) (fr_F_M_read _ _ (by omega) (by omega) (by omega) (by omega) (by omega) h22) (fun z26 h23 => (k_bt (K := (kM q j v)) (k_up (by omega) (kp1 h23)) (fun σ27 h24 => (k_some (k_pair h24 trivial))))))))))))))))))))))))))))))))))))))))))))))))))))))))
set_option maxRecDepth 10000 in
set_option linter.unusedVariables false in
theorem fr_F_M_nextOf {q j : Nat} {v : Int32} (σ : Mem) (v1 : Int32) (v2 : Int32) (_c0 : q ≠ 334) (_c1 : q ≠ 339) (_c2 : q ≠ 333 ∨ j ≠ 9) (_c3 : q ≠ 333 ∨ j ≠ 10) (_c4 : q ≠ 333 ∨ j ≠ 11) (_c5 : q ≠ 333 ∨ j ≠ 12) (_c6 : q ≠ 333 ∨ j ≠ 13) (_c7 : q ≠ 333 ∨ j ≠ 15) (_c8 : q ≠ 333 ∨ j ≠ 16) (h0 : kM q j v σ) : (kO (kP (kM q j v) kT)) (F_M_nextOf σ v1 v2) := by
  unfold F_M_nextOf
  exact (k_obI (fun z1 => (k_ob (K := (kP (kM q j v) kT)) (fr_F_M_turnsBy _ _ _ (by omega) (by omega) (by omega) (by omega) (by omega) (by omega) (by omega) (by omega) (by omega) h0) (fun z2 h1 => (k_some (k_pair (kp1 h1) trivial))))))
set_option maxRecDepth 10000 in
set_option linter.unusedVariables false in
theorem fr_F_M_goes_31_b {q j : Nat} {v : Int32} (v1 : Int32) (v2 : Int32) (v3 : Int32) (v4 : Int32) (σ : Mem) (_c0 : q ≠ 334) (_c1 : q ≠ 339) (_c2 : q ≠ 333 ∨ j ≠ 9) (_c3 : q ≠ 333 ∨ j ≠ 10) (_c4 : q ≠ 333 ∨ j ≠ 11) (_c5 : q ≠ 333 ∨ j ≠ 12) (_c6 : q ≠ 333 ∨ j ≠ 13) (_c7 : q ≠ 333 ∨ j ≠ 15) (_c8 : q ≠ 333 ∨ j ≠ 16) (h0 : kM q j v σ) : (kO (kS (kP kT (kM q j v)) (kP kT (kM q j v)))) (F_M_goes_31_b v1 v2 v3 v4 σ) := by
  unfold F_M_goes_31_b
  exact (k_ite (fun _ => (k_obI (fun z6 => (k_ite (fun _ => (k_btI (fun x28 => (k_some (k_inl (k_pair trivial h0)))))) (fun _ => (k_ob (K := (kM q j v)) (fr_F_M_premiums _ _ (by omega) h0) (fun z8 h1 => (k_ob (K := (kP (kM q j v) kT)) (fr_F_M_nextOf _ _ _ (by omega) (by omega) (by omega) (by omega) (by omega) (by omega) (by omega) (by omega) (by omega) h1) (fun z9 h2 => (k_ob (K := (kM q j v)) (fr_F_M_told _ _ _ _ (by omega) (kp1 h2)) (fun z10 h3 => (k_obI (fun z11 => (k_ob (K := (kM q j v)) (fr_F_M_told _ _ _ _ (by omega) h3) (fun z12 h4 => (k_obI (fun z13 => (k_ite (fun _ => (k_obI (fun z20 => (k_ob (K := (kP (kM q j v) kT)) (fr_F_M_claims _ _ (by omega) h4) (fun z21 h5 => (k_ob (K := (kM q j v)) (fr_F_M_logs _ _ _ _ (by omega) (kp1 h5)) (fun z22 h6 => (k_obI (fun z23 => (k_ite (fun _ => (k_ob (K := (kM q j v)) (fr_F_M_told _ _ _ _ (by omega) h6) (fun z26 h7 => (k_btI (fun x27 => (k_some (k_inl (k_pair trivial h7)))))))) (fun _ => (k_btI (fun x25 => (k_some (k_inl (k_pair trivial h6)))))))))))))))) (fun _ => (k_obI (fun z15 => (k_ite (fun _ => (k_ob (K := (kM q j v)) (fr_F_M_told _ _ _ _ (by omega) h4) (fun z18 h8 => (k_btI (fun x19 => (k_some (k_inl (k_pair trivial h8)))))))) (fun _ => (k_btI (fun x17 => (k_some (k_inl (k_pair trivial h4)))))))))))))))))))))))))))) (fun _ => (k_some (k_inr (k_pair trivial h0)))))
set_option maxRecDepth 10000 in
set_option linter.unusedVariables false in
theorem fr_F_M_goes_10_b {q j : Nat} {v : Int32} (v1 : Int32) (v2 : Int32) (v3 : Int32) (σ : Mem) (_c0 : q ≠ 334) (_c1 : q ≠ 339) (_c2 : q ≠ 333 ∨ j ≠ 9) (_c3 : q ≠ 333 ∨ j ≠ 10) (_c4 : q ≠ 333 ∨ j ≠ 11) (_c5 : q ≠ 333 ∨ j ≠ 12) (_c6 : q ≠ 333 ∨ j ≠ 13) (_c7 : q ≠ 333 ∨ j ≠ 15) (_c8 : q ≠ 333 ∨ j ≠ 16) (h0 : kM q j v σ) : (kO (kM q j v)) (F_M_goes_10_b v1 v2 v3 σ) := by
  unfold F_M_goes_10_b
  exact (k_ob (K := (kP (kM q j v) kT)) (fr_F_M_draw _ _ (by omega) h0) (fun z3 h1 => (k_bt (K := (kM q j v)) (k_up (by omega) (kp1 h1)) (fun σ4 h2 => (k_ob (K := (kP kT (kM q j v))) (k_whl (K := (kP kT (kM q j v))) (fun s h4 => (fr_F_M_goes_31_b _ _ _ _ _ (by omega) (by omega) (by omega) (by omega) (by omega) (by omega) (by omega) (by omega) (by omega) (kp2 h4))) (k_pair trivial h2)) (fun z29 h3 => (k_bt (K := (kM q j v)) (k_up (by omega) (kp2 h3)) (fun σ30 h5 => (k_some h5)))))))))
set_option maxRecDepth 10000 in
set_option linter.unusedVariables false in
theorem fr_F_M_goes {q j : Nat} {v : Int32} (σ : Mem) (v1 : Int32) (_c0 : q ≠ 334) (_c1 : q ≠ 339) (_c2 : q ≠ 333 ∨ j ≠ 9) (_c3 : q ≠ 333 ∨ j ≠ 10) (_c4 : q ≠ 333 ∨ j ≠ 11) (_c5 : q ≠ 333 ∨ j ≠ 12) (_c6 : q ≠ 333 ∨ j ≠ 13) (_c7 : q ≠ 333 ∨ j ≠ 15) (_c8 : q ≠ 333 ∨ j ≠ 16) (h0 : kM q j v σ) : (kO (kP (kM q j v) kT)) (F_M_goes σ v1) := by
  unfold F_M_goes
  exact (k_btI (fun x1 => (k_ob (K := (kM q j v)) (k_forSO (K := (kM q j v)) (fun i s h2 => (fr_F_M_goes_10_b _ _ _ _ (by omega) (by omega) (by omega) (by omega) (by omega) (by omega) (by omega) (by omega) (by omega) h2)) h0) (fun z32 h1 => (k_some (k_pair h1 trivial))))))
set_option maxRecDepth 10000 in
set_option linter.unusedVariables false in
theorem fr_F_M_match {q j : Nat} {v : Int32} (σ : Mem) (v1 : Int32) (v2 : Int32) (_c0 : q ≠ 334) (_c1 : q ≠ 339) (_c2 : q ≠ 333 ∨ j ≠ 0) (_c3 : q ≠ 333 ∨ j ≠ 9) (_c4 : q ≠ 333 ∨ j ≠ 10) (_c5 : q ≠ 333 ∨ j ≠ 11) (_c6 : q ≠ 333 ∨ j ≠ 12) (_c7 : q ≠ 333 ∨ j ≠ 13) (_c8 : q ≠ 333 ∨ j ≠ 15) (_c9 : q ≠ 333 ∨ j ≠ 16) (h0 : kM q j v σ) : (kO (kP (kM q j v) kT)) (F_M_match σ v1 v2) := by
  unfold F_M_match
  exact (k_obI (fun z1 => (k_ite (fun _ => (k_bt (K := (kM q j v)) (k_up (by omega) h0) (fun σ18 h1 => (k_ite (fun _ => (k_some (k_pair h1 trivial))) (fun _ => (k_ite (fun _ => (k_obI (fun z24 => (k_some (k_pair h1 trivial))))) (fun _ => (k_ite (fun _ => (k_obI (fun z23 => (k_some (k_pair h1 trivial))))) (fun _ => (k_ob (K := (kP (kM q j v) kT)) (fr_F_M_turnsBy _ _ _ (by omega) (by omega) (by omega) (by omega) (by omega) (by omega) (by omega) (by omega) (by omega) h1) (fun z22 h2 => (k_some (k_pair (kp1 h2) trivial))))))))))))) (fun _ => (k_ite (fun _ => (k_bt (K := (kM q j v)) (k_up (by omega) h0) (fun σ11 h3 => (k_ite (fun _ => (k_some (k_pair h3 trivial))) (fun _ => (k_ite (fun _ => (k_obI (fun z17 => (k_some (k_pair h3 trivial))))) (fun _ => (k_ite (fun _ => (k_obI (fun z16 => (k_some (k_pair h3 trivial))))) (fun _ => (k_ob (K := (kP (kM q j v) kT)) (fr_F_M_turnsBy _ _ _ (by omega) (by omega) (by omega) (by omega) (by omega) (by omega) (by omega) (by omega) (by omega) h3) (fun z15 h4 => (k_some (k_pair (kp1 h4) trivial))))))))))))) (fun _ => (k_bt (K := (kM q j v)) (k_up (by omega) h0) (fun σ4 h5 => (k_ite (fun _ => (k_some (k_pair h5 trivial))) (fun _ => (k_ite (fun _ => (k_obI (fun z10 => (k_some (k_pair h5 trivial))))) (fun _ => (k_ite (fun _ => (k_obI (fun z9 => (k_some (k_pair h5 trivial))))) (fun _ => (k_ob (K := (kP (kM q j v) kT)) (fr_F_M_turnsBy _ _ _ (by omega) (by omega) (by omega) (by omega) (by omega) (by omega) (by omega) (by omega) (by omega) h5) (fun z8 h6 => (k_some (k_pair (kp1 h6) trivial))))))))))))))))))
set_option maxRecDepth 10000 in
set_option linter.unusedVariables false in
theorem fr_F_M_months {q j : Nat} {v : Int32} (σ : Mem) (v1 : Int32) (_c0 : q ≠ 334) (_c1 : q ≠ 337) (_c2 : q ≠ 339) (_c3 : q ≠ 333 ∨ j ≠ 0) (_c4 : q ≠ 333 ∨ j ≠ 6) (_c5 : q ≠ 333 ∨ j ≠ 9) (_c6 : q ≠ 333 ∨ j ≠ 10) (_c7 : q ≠ 333 ∨ j ≠ 11) (_c8 : q ≠ 333 ∨ j ≠ 12) (_c9 : q ≠ 333 ∨ j ≠ 13) (_c10 : q ≠ 333 ∨ j ≠ 15) (_c11 : q ≠ 333 ∨ j ≠ 16) (h0 : kM q j v σ) : (kO (kP (kM q j v) kT)) (F_M_months σ v1) := by
  unfold F_M_months
  exact (k_ite (fun _ => (k_bt (K := (kM q j v)) (k_up (by omega) h0) (fun σ6 h1 => (k_ite (fun _ => (k_some (k_pair h1 trivial))) (fun _ => (k_ob (K := (kM q j v)) (fr_F_M_remembers _ (by omega) (by omega) h1) (fun z8 h2 => (k_ob (K := (kP (kM q j v) kT)) (fr_F_M_goes _ _ (by omega) (by omega) (by omega) (by omega) (by omega) (by omega) (by omega) (by omega) (by omega) h2) (fun z9 h3 => (k_some (k_pair (kp1 h3) trivial))))))))))) (fun _ => (k_bt (K := (kM q j v)) (k_up (by omega) h0) (fun σ2 h4 => (k_ite (fun _ => (k_some (k_pair h4 trivial))) (fun _ => (k_ob (K := (kM q j v)) (fr_F_M_remembers _ (by omega) (by omega) h4) (fun z4 h5 => (k_ob (K := (kP (kM q j v) kT)) (fr_F_M_goes _ _ (by omega) (by omega) (by omega) (by omega) (by omega) (by omega) (by omega) (by omega) (by omega) h5) (fun z5 h6 => (k_some (k_pair (kp1 h6) trivial))))))))))))
set_option maxRecDepth 10000 in
set_option linter.unusedVariables false in
theorem fr_F_M_next {q j : Nat} {v : Int32} (σ : Mem) (v1 : Int32) (v2 : Int32) (_c0 : q ≠ 334) (_c1 : q ≠ 339) (_c2 : q ≠ 333 ∨ j ≠ 0) (_c3 : q ≠ 333 ∨ j ≠ 9) (_c4 : q ≠ 333 ∨ j ≠ 10) (_c5 : q ≠ 333 ∨ j ≠ 11) (_c6 : q ≠ 333 ∨ j ≠ 12) (_c7 : q ≠ 333 ∨ j ≠ 13) (_c8 : q ≠ 333 ∨ j ≠ 15) (_c9 : q ≠ 333 ∨ j ≠ 16) (h0 : kM q j v σ) : (kO (kP (kM q j v) kT)) (F_M_next σ v1 v2) := by
  unfold F_M_next
  exact (k_obI (fun z1 => (k_bt (K := (kM q j v)) (k_up (by omega) h0) (fun σ2 h1 => (k_ite (fun _ => (k_some (k_pair h1 trivial))) (fun _ => (k_obI (fun z4 => (k_ite (fun _ => (k_some (k_pair h1 trivial))) (fun _ => (k_ob (K := (kP (kM q j v) kT)) (fr_F_M_nextOf _ _ _ (by omega) (by omega) (by omega) (by omega) (by omega) (by omega) (by omega) (by omega) (by omega) h1) (fun z6 h2 => (k_some (k_pair (kp1 h2) trivial))))))))))))))
set_option maxRecDepth 10000 in
set_option linter.unusedVariables false in
theorem fr_F_M_passes {q j : Nat} {v : Int32} (σ : Mem) (v1 : Int32) (v2 : Int32) (_c0 : q ≠ 334) (_c1 : q ≠ 339) (_c2 : q ≠ 333 ∨ j ≠ 9) (_c3 : q ≠ 333 ∨ j ≠ 10) (_c4 : q ≠ 333 ∨ j ≠ 11) (_c5 : q ≠ 333 ∨ j ≠ 12) (_c6 : q ≠ 333 ∨ j ≠ 13) (_c7 : q ≠ 333 ∨ j ≠ 15) (_c8 : q ≠ 333 ∨ j ≠ 16) (h0 : kM q j v σ) : (kO (kM q j v)) (F_M_passes σ v1 v2) := by
  unfold F_M_passes
  exact (k_obI (fun z1 => (k_ite (fun _ => (k_ob (K := (kP (kM q j v) kT)) (fr_F_M_nextOf _ _ _ (by omega) (by omega) (by omega) (by omega) (by omega) (by omega) (by omega) (by omega) (by omega) h0) (fun z6 h1 => (k_ob (K := (kM q j v)) (fr_F_M_told _ _ _ _ (by omega) (kp1 h1)) (fun z7 h2 => (k_obI (fun z8 => (k_ob (K := (kM q j v)) (fr_F_M_told _ _ _ _ (by omega) h2) (fun z9 h3 => (k_bt (K := (kM q j v)) (k_up (by omega) h3) (fun σ10 h4 => (k_some h4)))))))))))) (fun _ => (k_obI (fun z3 => (k_ob (K := (kM q j v)) (fr_F_M_told _ _ _ _ (by omega) h0) (fun z4 h5 => (k_bt (K := (kM q j v)) (k_up (by omega) h5) (fun σ5 h6 => (k_some h6)))))))))))
set_option maxRecDepth 10000 in
set_option linter.unusedVariables false in
theorem fr_F_M_ahead_39_b {q j : Nat} {v : Int32} (v1 : Int32) (v2 : Int32) (v3 : Int32) (v4 : Int32) (σ : Mem) (_c0 : q ≠ 334) (_c1 : q ≠ 339) (_c2 : q ≠ 333 ∨ j ≠ 9) (_c3 : q ≠ 333 ∨ j ≠ 10) (_c4 : q ≠ 333 ∨ j ≠ 11) (_c5 : q ≠ 333 ∨ j ≠ 12) (_c6 : q ≠ 333 ∨ j ≠ 13) (_c7 : q ≠ 333 ∨ j ≠ 15) (_c8 : q ≠ 333 ∨ j ≠ 16) (h0 : kM q j v σ) : (kO (kM q j v)) (F_M_ahead_39_b v1 v2 v3 v4 σ) := by
  unfold F_M_ahead_39_b
  exact (k_ob (K := (kM q j v)) (fr_F_M_passes _ _ _ (by omega) (by omega) (by omega) (by omega) (by omega) (by omega) (by omega) (by omega) (by omega) h0) (fun z8 h1 => (k_some h1)))
set_option maxRecDepth 10000 in
set_option linter.unusedVariables false in
theorem fr_F_M_ahead {q j : Nat} {v : Int32} (σ : Mem) (v1 : Int32) (v2 : Int32) (v3 : Int32) (_c0 : q ≠ 334) (_c1 : q ≠ 336) (_c2 : q ≠ 339) (_c3 : q ≠ 333 ∨ j ≠ 0) (_c4 : q ≠ 333 ∨ j ≠ 9) (_c5 : q ≠ 333 ∨ j ≠ 10) (_c6 : q ≠ 333 ∨ j ≠ 11) (_c7 : q ≠ 333 ∨ j ≠ 12) (_c8 : q ≠ 333 ∨ j ≠ 13) (_c9 : q ≠ 333 ∨ j ≠ 15) (_c10 : q ≠ 333 ∨ j ≠ 16) (h0 : kM q j v σ) : (kO (kP (kM q j v) kT)) (F_M_ahead σ v1 v2 v3) := by
  unfold F_M_ahead
  exact (k_obI (fun z1 => (k_bt (K := (kM q j v)) (k_up (by omega) h0) (fun σ2 h1 => (k_ite (fun _ => (k_some (k_pair h1 trivial))) (fun _ => (k_obI (fun z4 => (k_ite (fun _ => (k_some (k_pair h1 trivial))) (fun _ => (k_ob (K := (kM q j v)) (fr_F_M_putsAside _ (by omega) h1) (fun z6 h2 => (k_ob (K := (kM q j v)) (k_forSO (K := (kM q j v)) (fun i s h4 => (fr_F_M_ahead_39_b _ _ _ _ _ (by omega) (by omega) (by omega) (by omega) (by omega) (by omega) (by omega) (by omega) (by omega) h4)) h2) (fun z10 h3 => (k_obI (fun z11 => (k_ob (K := (kM q j v)) (fr_F_M_comesBack _ (by omega) h3) (fun z12 h5 => (k_some (k_pair h5 trivial))))))))))))))))))))
set_option maxRecDepth 10000 in
set_option linter.unusedVariables false in
theorem fr_F_M_first_42_b {q j : Nat} {v : Int32} (v1 : Int32) (v2 : Int32) (v4 : Int32) (v3 : Int32) (σ : Mem) (_c0 : q ≠ 334) (_c1 : q ≠ 339) (_c2 : q ≠ 333 ∨ j ≠ 9) (_c3 : q ≠ 333 ∨ j ≠ 10) (_c4 : q ≠ 333 ∨ j ≠ 11) (_c5 : q ≠ 333 ∨ j ≠ 12) (_c6 : q ≠ 333 ∨ j ≠ 13) (_c7 : q ≠ 333 ∨ j ≠ 15) (_c8 : q ≠ 333 ∨ j ≠ 16) (h0 : kM q j v σ) : (kO (kS (kP kT (kM q j v)) (kP kT (kM q j v)))) (F_M_first_42_b v1 v2 v4 v3 σ) := by
  unfold F_M_first_42_b
  exact (k_ite (fun _ => (k_ob (K := (kM q j v)) (fr_F_M_passes _ _ _ (by omega) (by omega) (by omega) (by omega) (by omega) (by omega) (by omega) (by omega) (by omega) h0) (fun z9 h1 => (k_obI (fun z10 => (k_ite (fun _ => (k_some (k_inl (k_pair trivial h1)))) (fun _ => (k_some (k_inl (k_pair trivial h1)))))))))) (fun _ => (k_some (k_inr (k_pair trivial h0)))))
set_option maxRecDepth 10000 in
set_option linter.unusedVariables false in
theorem fr_F_M_first {q j : Nat} {v : Int32} (σ : Mem) (v1 : Int32) (v2 : Int32) (_c0 : q ≠ 334) (_c1 : q ≠ 336) (_c2 : q ≠ 339) (_c3 : q ≠ 333 ∨ j ≠ 0) (_c4 : q ≠ 333 ∨ j ≠ 9) (_c5 : q ≠ 333 ∨ j ≠ 10) (_c6 : q ≠ 333 ∨ j ≠ 11) (_c7 : q ≠ 333 ∨ j ≠ 12) (_c8 : q ≠ 333 ∨ j ≠ 13) (_c9 : q ≠ 333 ∨ j ≠ 15) (_c10 : q ≠ 333 ∨ j ≠ 16) (h0 : kM q j v σ) : (kO (kP (kM q j v) kT)) (F_M_first σ v1 v2) := by
  unfold F_M_first
  exact (k_obI (fun z1 => (k_bt (K := (kM q j v)) (k_up (by omega) h0) (fun σ2 h1 => (k_ite (fun _ => (k_some (k_pair h1 trivial))) (fun _ => (k_obI (fun z4 => (k_ite (fun _ => (k_some (k_pair h1 trivial))) (fun _ => (k_ob (K := (kM q j v)) (fr_F_M_putsAside _ (by omega) h1) (fun z6 h2 => (k_ob (K := (kP kT (kM q j v))) (k_omap (K := (kS (kP kT (kM q j v)) (kP kT (kM q j v)))) (k_forGO (K := (kP kT (kM q j v))) (fun i s h4 => (fr_F_M_first_42_b _ _ _ _ _ (by omega) (by omega) (by omega) (by omega) (by omega) (by omega) (by omega) (by omega) (by omega) (kp2 h4))) (k_pair trivial h2)) (fun _ h => k_mrg h)) (fun z13 h3 => (k_ob (K := (kM q j v)) (fr_F_M_comesBack _ (by omega) (kp2 h3)) (fun z14 h5 => (k_some (k_pair h5 trivial))))))))))))))))))
set_option maxRecDepth 10000 in
set_option linter.unusedVariables false in
theorem fr_F_M_odds_21_b {q j : Nat} {v : Int32} (v1 : Int32) (v3 : Int32) (v2 : Int32) (σ : Mem) (_c0 : q ≠ 334) (_c1 : q ≠ 339) (_c2 : q ≠ 333 ∨ j ≠ 9) (_c3 : q ≠ 333 ∨ j ≠ 10) (_c4 : q ≠ 333 ∨ j ≠ 11) (_c5 : q ≠ 333 ∨ j ≠ 12) (_c6 : q ≠ 333 ∨ j ≠ 13) (_c7 : q ≠ 333 ∨ j ≠ 15) (_c8 : q ≠ 333 ∨ j ≠ 16) (h0 : kM q j v σ) : (kO (kS (kP kT (kM q j v)) (kP kT (kM q j v)))) (F_M_odds_21_b v1 v3 v2 σ) := by
  unfold F_M_odds_21_b
  exact (k_ite (fun _ => (k_obI (fun z6 => (k_ite (fun _ => (k_ob (K := (kP (kM q j v) kT)) (fr_F_M_nextOf _ _ _ (by omega) (by omega) (by omega) (by omega) (by omega) (by omega) (by omega) (by omega) (by omega) h0) (fun z8 h1 => (k_ite (fun _ => (k_btI (fun x11 => (k_some (k_inl (k_pair trivial (kp1 h1))))))) (fun _ => (k_btI (fun x10 => (k_some (k_inl (k_pair trivial (kp1 h1))))))))))) (fun _ => (k_some (k_inr (k_pair trivial h0)))))))) (fun _ => (k_some (k_inr (k_pair trivial h0)))))
set_option maxRecDepth 10000 in
set_option linter.unusedVariables false in
theorem fr_F_M_odds {q j : Nat} {v : Int32} (σ : Mem) (v1 : Int32) (_c0 : q ≠ 334) (_c1 : q ≠ 339) (_c2 : q ≠ 333 ∨ j ≠ 0) (_c3 : q ≠ 333 ∨ j ≠ 9) (_c4 : q ≠ 333 ∨ j ≠ 10) (_c5 : q ≠ 333 ∨ j ≠ 11) (_c6 : q ≠ 333 ∨ j ≠ 12) (_c7 : q ≠ 333 ∨ j ≠ 13) (_c8 : q ≠ 333 ∨ j ≠ 15) (_c9 : q ≠ 333 ∨ j ≠ 16) (h0 : kM q j v σ) : (kO (kP (kM q j v) kT)) (F_M_odds σ v1) := by
  unfold F_M_odds
  exact (k_obI (fun z1 => (k_ite (fun _ => (k_bt (K := (kM q j v)) (k_up (by omega) h0) (fun σ14 h1 => (k_ob (K := (kP kT (kM q j v))) (k_omap (K := (kS (kP kT (kM q j v)) (kP kT (kM q j v)))) (k_forGO (K := (kP kT (kM q j v))) (fun i s h3 => (fr_F_M_odds_21_b _ _ _ _ (by omega) (by omega) (by omega) (by omega) (by omega) (by omega) (by omega) (by omega) (by omega) (kp2 h3))) (k_pair trivial h1)) (fun _ h => k_mrg h)) (fun z15 h2 => (k_some (k_pair (kp2 h2) trivial))))))) (fun _ => (k_bt (K := (kM q j v)) (k_up (by omega) h0) (fun σ3 h4 => (k_ob (K := (kP kT (kM q j v))) (k_omap (K := (kS (kP kT (kM q j v)) (kP kT (kM q j v)))) (k_forGO (K := (kP kT (kM q j v))) (fun i s h6 => (fr_F_M_odds_21_b _ _ _ _ (by omega) (by omega) (by omega) (by omega) (by omega) (by omega) (by omega) (by omega) (by omega) (kp2 h6))) (k_pair trivial h4)) (fun _ h => k_mrg h)) (fun z13 h5 => (k_some (k_pair (kp2 h5) trivial))))))))))
set_option maxRecDepth 10000 in
set_option linter.unusedVariables false in
theorem fr_F_M_gifts_94_b {q j : Nat} {v : Int32} (v1 : Int32) (v2 : Int32) (v3 : Int32) (v4 : Int32) (v5 : Int32) (σ : Mem) (_c0 : q ≠ 334) (_c1 : q ≠ 339) (_c2 : q ≠ 341) (_c3 : q ≠ 333 ∨ j ≠ 9) (_c4 : q ≠ 333 ∨ j ≠ 10) (_c5 : q ≠ 333 ∨ j ≠ 11) (_c6 : q ≠ 333 ∨ j ≠ 12) (_c7 : q ≠ 333 ∨ j ≠ 13) (_c8 : q ≠ 333 ∨ j ≠ 15) (_c9 : q ≠ 333 ∨ j ≠ 16) (h0 : kM q j v σ) : (kO (kS (kM q j v) (kM q j v))) (F_M_gifts_94_b v1 v2 v3 v4 v5 σ) := by
  unfold F_M_gifts_94_b
  exact (k_ite (fun _ => (k_ob (K := (kM q j v)) (fr_F_M_told _ _ _ _ (by omega) h0) (fun z14 h1 => (k_ite (fun _ => (k_ob (K := (kM q j v)) (fr_F_M_by _ _ _ _ (by omega) h1) (fun z18 h2 => (k_some (k_inl h2))))) (fun _ => (k_ob (K := (kP (kM q j v) kT)) (fr_F_M_nextOf _ _ _ (by omega) (by omega) (by omega) (by omega) (by omega) (by omega) (by omega) (by omega) (by omega) h1) (fun z16 h3 => (k_ob (K := (kM q j v)) (fr_F_M_by _ _ _ _ (by omega) (kp1 h3)) (fun z17 h4 => (k_some (k_inl h4))))))))))) (fun _ => (k_some (k_inr h0))))
set_option maxRecDepth 10000 in
set_option linter.unusedVariables false in
theorem fr_F_M_gifts_147_b {q j : Nat} {v : Int32} (v1 : Int32) (v2 : Int32) (v3 : Int32) (v4 : Int32) (v5 : Int32) (σ : Mem) (_c0 : q ≠ 340) (h0 : kM q j v σ) : (kO (kM q j v)) (F_M_gifts_147_b v1 v2 v3 v4 v5 σ) := by
  unfold F_M_gifts_147_b
  exact (k_ite (fun _ => (k_btI (fun i27 => (k_chk (k_bt (K := (kM q j v)) (k_up (by omega) h0) (fun σ29 h1 => (k_some h1))))))) (fun _ => (k_obI (fun z23 => (k_btI (fun i24 => (k_chk (k_bt (K := (kM q j v)) (k_up (by omega) h0) (fun σ26 h2 => (k_some h2))))))))))
set_option maxRecDepth 10000 in
set_option linter.unusedVariables false in
theorem fr_F_M_gifts_41_b {q j : Nat} {v : Int32} (v1 : Int32) (v2 : Int32) (v3 : Int32) (v4 : Int32) (σ : Mem) (_c0 : q ≠ 334) (_c1 : q < 339 ∨ 341 < q) (_c2 : q ≠ 333 ∨ j ≠ 9) (_c3 : q ≠ 333 ∨ j ≠ 10) (_c4 : q ≠ 333 ∨ j ≠ 11) (_c5 : q ≠ 333 ∨ j ≠ 12) (_c6 : q ≠ 333 ∨ j ≠ 13) (_c7 : q ≠ 333 ∨ j ≠ 15) (_c8 : q ≠ 333 ∨ j ≠ 16) (h0 : kM q j v σ) : (kO (kS (kP kT (kM q j v)) (kP kT (kM q j v)))) (F_M_gifts_41_b v1 v2 v3 v4 σ) := by
  unfold F_M_gifts_41_b
  exact (k_ite (fun _ => (k_some (k_inr (k_pair trivial h0)))) (fun _ => (k_bt (K := (kM q j v)) (k_up (by omega) h0) (fun σ8 h1 => (k_btI (fun i9 => (k_chk (k_ob (K := (kM q j v)) (fr_F_M_told _ _ _ _ (by omega) h1) (fun z11 h2 => (k_ob (K := (kM q j v)) (k_omap (K := (kS (kM q j v) (kM q j v))) (k_forGO (K := (kM q j v)) (fun i s h4 => (fr_F_M_gifts_94_b _ _ _ _ _ _ (by omega) (by omega) (by omega) (by omega) (by omega) (by omega) (by omega) (by omega) (by omega) (by omega) h4)) h2) (fun _ h => k_mrg h)) (fun z20 h3 => (k_ob (K := (kM q j v)) (k_forSO (K := (kM q j v)) (fun i s h6 => (fr_F_M_gifts_147_b _ _ _ _ _ _ (by omega) h6)) h3) (fun z31 h5 => (k_btI (fun x32 => (k_some (k_inl (k_pair trivial h5))))))))))))))))))
set_option maxRecDepth 10000 in
set_option linter.unusedVariables false in
theorem fr_F_M_gifts {q j : Nat} {v : Int32} (σ : Mem) (v1 : Int32) (v2 : Int32) (v3 : Int32) (_c0 : q ≠ 334) (_c1 : q ≠ 336) (_c2 : q < 339 ∨ 341 < q) (_c3 : q ≠ 333 ∨ j ≠ 0) (_c4 : q ≠ 333 ∨ j ≠ 9) (_c5 : q ≠ 333 ∨ j ≠ 10) (_c6 : q ≠ 333 ∨ j ≠ 11) (_c7 : q ≠ 333 ∨ j ≠ 12) (_c8 : q ≠ 333 ∨ j ≠ 13) (_c9 : q ≠ 333 ∨ j ≠ 15) (_c10 : q ≠ 333 ∨ j ≠ 16) (h0 : kM q j v σ) : (kO (kP (kM q j v) kT)) (F_M_gifts σ v1 v2 v3) := by
  unfold F_M_gifts
  exact (k_obI (fun z1 => (k_bt (K := (kM q j v)) (k_up (by omega) h0) (fun σ2 h1 => (k_ite (fun _ => (k_some (k_pair h1 trivial))) (fun _ => (k_obI (fun z4 => (k_ite (fun _ => (k_some (k_pair h1 trivial))) (fun _ => (k_ob (K := (kM q j v)) (fr_F_M_putsAside _ (by omega) h1) (fun z6 h2 => (k_ob (K := (kP kT (kM q j v))) (k_whl (K := (kP kT (kM q j v))) (fun s h4 => (fr_F_M_gifts_41_b _ _ _ _ _ (by omega) (by omega) (by omega) (by omega) (by omega) (by omega) (by omega) (by omega) (by omega) (kp2 h4))) (k_pair trivial h2)) (fun z33 h3 => (k_obI (fun z34 => (k_chk (k_btI (fun x36 => (k_ob (K := (kM q j v)) (fr_F_M_comesBack _ (by omega) (kp2 h3)) (fun z37 h5 => (k_ite (fun _ => (k_some (k_pair h5 trivial))) (fun _ => (k_some (k_pair h5 trivial)))))))))))))))))))))))))
set_option maxRecDepth 10000 in
set_option linter.unusedVariables false in
theorem fr_F_M_trial {q j : Nat} {v : Int32} (σ : Mem) (v1 : Int32) (v2 : Int32) (_c0 : q ≠ 334) (_c1 : q ≠ 336) (_c2 : q ≠ 339) (_c3 : q ≠ 333 ∨ j ≠ 0) (_c4 : q ≠ 333 ∨ j ≠ 9) (_c5 : q ≠ 333 ∨ j ≠ 10) (_c6 : q ≠ 333 ∨ j ≠ 11) (_c7 : q ≠ 333 ∨ j ≠ 12) (_c8 : q ≠ 333 ∨ j ≠ 13) (_c9 : q ≠ 333 ∨ j ≠ 15) (_c10 : q ≠ 333 ∨ j ≠ 16) (h0 : kM q j v σ) : (kO (kP (kM q j v) kT)) (F_M_trial σ v1 v2) := by
  unfold F_M_trial
  exact (k_ite (fun _ => (k_bt (K := (kM q j v)) (k_up (by omega) h0) (fun σ10 h1 => (k_ite (fun _ => (k_some (k_pair h1 trivial))) (fun _ => (k_ob (K := (kM q j v)) (fr_F_M_putsAside _ (by omega) h1) (fun z12 h2 => (k_ob (K := (kP (kM q j v) kT)) (fr_F_M_goes _ _ (by omega) (by omega) (by omega) (by omega) (by omega) (by omega) (by omega) (by omega) (by omega) h2) (fun z13 h3 => (k_ite (fun _ => (k_ob (K := (kM q j v)) (fr_F_M_comesBack _ (by omega) (kp1 h3)) (fun z15 h4 => (k_some (k_pair h4 trivial))))) (fun _ => (k_obI (fun z16 => (k_ob (K := (kM q j v)) (fr_F_M_comesBack _ (by omega) (kp1 h3)) (fun z17 h5 => (k_some (k_pair h5 trivial))))))))))))))))) (fun _ => (k_bt (K := (kM q j v)) (k_up (by omega) h0) (fun σ2 h6 => (k_ite (fun _ => (k_some (k_pair h6 trivial))) (fun _ => (k_ob (K := (kM q j v)) (fr_F_M_putsAside _ (by omega) h6) (fun z4 h7 => (k_ob (K := (kP (kM q j v) kT)) (fr_F_M_goes _ _ (by omega) (by omega) (by omega) (by omega) (by omega) (by omega) (by omega) (by omega) (by omega) h7) (fun z5 h8 => (k_ite (fun _ => (k_ob (K := (kM q j v)) (fr_F_M_comesBack _ (by omega) (kp1 h8)) (fun z7 h9 => (k_some (k_pair h9 trivial))))) (fun _ => (k_obI (fun z8 => (k_ob (K := (kM q j v)) (fr_F_M_comesBack _ (by omega) (kp1 h8)) (fun z9 h10 => (k_some (k_pair h10 trivial))))))))))))))))))
set_option maxRecDepth 10000 in
set_option linter.unusedVariables false in
theorem fr_F_M_span_37_b {q j : Nat} {v : Int32} (v1 : Int32) (v2 : Int32) (v4 : Int32) (v3 : Int32) (σ : Mem) (_c0 : q ≠ 334) (_c1 : q ≠ 339) (_c2 : q ≠ 333 ∨ j ≠ 9) (_c3 : q ≠ 333 ∨ j ≠ 10) (_c4 : q ≠ 333 ∨ j ≠ 11) (_c5 : q ≠ 333 ∨ j ≠ 12) (_c6 : q ≠ 333 ∨ j ≠ 13) (_c7 : q ≠ 333 ∨ j ≠ 15) (_c8 : q ≠ 333 ∨ j ≠ 16) (h0 : kM q j v σ) : (kO (kP kT (kM q j v))) (F_M_span_37_b v1 v2 v4 v3 σ) := by
  unfold F_M_span_37_b
  exact (k_bt (K := (kM q j v)) (k_up (by omega) h0) (fun σ6 h1 => (k_ob (K := (kP (kM q j v) kT)) (fr_F_M_goes _ _ (by omega) (by omega) (by omega) (by omega) (by omega) (by omega) (by omega) (by omega) (by omega) h1) (fun z7 h2 => (k_ob (K := (kM q j v)) (fr_F_M_comesBack _ (by omega) (kp1 h2)) (fun z8 h3 => (k_ite (fun _ => (k_some (k_pair trivial h3))) (fun _ => (k_ite (fun _ => (k_btI (fun x11 => (k_some (k_pair trivial h3))))) (fun _ => (k_btI (fun x12 => (k_some (k_pair trivial h3))))))))))))))
set_option maxRecDepth 10000 in
set_option linter.unusedVariables false in
theorem fr_F_M_span {q j : Nat} {v : Int32} (σ : Mem) (v1 : Int32) (v2 : Int32) (_c0 : q ≠ 334) (_c1 : q ≠ 336) (_c2 : q ≠ 339) (_c3 : q ≠ 333 ∨ j ≠ 0) (_c4 : q ≠ 333 ∨ j ≠ 9) (_c5 : q ≠ 333 ∨ j ≠ 10) (_c6 : q ≠ 333 ∨ j ≠ 11) (_c7 : q ≠ 333 ∨ j ≠ 12) (_c8 : q ≠ 333 ∨ j ≠ 13) (_c9 : q ≠ 333 ∨ j ≠ 15) (_c10 : q ≠ 333 ∨ j ≠ 16) (h0 : kM q j v σ) : (kO (kP (kM q j v) kT)) (F_M_span σ v1 v2) := by
  unfold F_M_span
  exact (k_ite (fun _ => (k_bt (K := (kM q j v)) (k_up (by omega) h0) (fun σ15 h1 => (k_ite (fun _ => (k_some (k_pair h1 trivial))) (fun _ => (k_ob (K := (kM q j v)) (fr_F_M_putsAside _ (by omega) h1) (fun z17 h2 => (k_ob (K := (kP kT (kM q j v))) (k_forSO (K := (kP kT (kM q j v))) (fun i s h4 => (fr_F_M_span_37_b _ _ _ _ _ (by omega) (by omega) (by omega) (by omega) (by omega) (by omega) (by omega) (by omega) (by omega) (kp2 h4))) (k_pair trivial h2)) (fun z18 h3 => (k_some (k_pair (kp2 h3) trivial))))))))))) (fun _ => (k_bt (K := (kM q j v)) (k_up (by omega) h0) (fun σ2 h5 => (k_ite (fun _ => (k_some (k_pair h5 trivial))) (fun _ => (k_ob (K := (kM q j v)) (fr_F_M_putsAside _ (by omega) h5) (fun z4 h6 => (k_ob (K := (kP kT (kM q j v))) (k_forSO (K := (kP kT (kM q j v))) (fun i s h8 => (fr_F_M_span_37_b _ _ _ _ _ (by omega) (by omega) (by omega) (by omega) (by omega) (by omega) (by omega) (by omega) (by omega) (kp2 h8))) (k_pair trivial h6)) (fun z14 h7 => (k_some (k_pair (kp2 h7) trivial))))))))))))
set_option maxRecDepth 10000 in
set_option linter.unusedVariables false in
theorem fr_F_M_pairsUp_109_b {q j : Nat} {v : Int32} (rc : Mem → Int32 → Option (Mem)) (hrc : ∀ (m : Mem) (a1 : Int32), kM q j v m → (kO (kM q j v)) (rc m a1)) (v1 : Int32) (v2 : Int32) (v3 : Int32) (σ : Mem) (_c0 : q ≠ 342) (h0 : kM q j v σ) : (kO (kS (kP kT (kM q j v)) (kP kT (kM q j v)))) (F_M_pairsUp_109_b rc v1 v2 v3 σ) := by
  unfold F_M_pairsUp_109_b
  exact (k_ite (fun _ => (k_chk (k_ite (fun _ => (k_chk (k_bt (K := (kM q j v)) (k_up (by omega) h0) (fun σ13 h1 => (k_chk (k_bt (K := (kM q j v)) (k_up (by omega) h1) (fun σ15 h2 => (k_ob (K := (kM q j v)) (hrc _ _ h2) (fun z16 h3 => (k_chk (k_bt (K := (kM q j v)) (k_up (by omega) h3) (fun σ18 h4 => (k_btI (fun x19 => (k_some (k_inl (k_pair trivial h4))))))))))))))))) (fun _ => (k_btI (fun x20 => (k_some (k_inl (k_pair trivial h0))))))))) (fun _ => (k_some (k_inr (k_pair trivial h0)))))
set_option maxRecDepth 10000 in
set_option linter.unusedVariables false in
theorem fr_F_M_pairsUp_48_b {q j : Nat} {v : Int32} (rc : Mem → Int32 → Option (Mem)) (hrc : ∀ (m : Mem) (a1 : Int32), kM q j v m → (kO (kM q j v)) (rc m a1)) (v1 : Int32) (v2 : Int32) (v3 : Int32) (σ : Mem) (_c0 : q ≠ 343) (h0 : kM q j v σ) : (kO (kS (kM q j v) (kM q j v))) (F_M_pairsUp_48_b rc v1 v2 v3 σ) := by
  unfold F_M_pairsUp_48_b
  exact (k_ite (fun _ => (k_chk (k_chk (k_bt (K := (kM q j v)) (k_up (by omega) h0) (fun σ37 h1 => (k_some (k_inl h1))))))) (fun _ => (k_some (k_inr h0))))
set_option maxRecDepth 10000 in
set_option linter.unusedVariables false in
theorem fr_F_M_pairsUp_g {q j : Nat} {v : Int32} (rc : Mem → Int32 → Option (Mem)) (hrc : ∀ (m : Mem) (a1 : Int32), kM q j v m → (kO (kM q j v)) (rc m a1)) (σ : Mem) (v1 : Int32) (_c0 : q < 342 ∨ 343 < q) (_c1 : q ≠ 333 ∨ j ≠ 21) (h0 : kM q j v σ) : (kO (kM q j v)) (F_M_pairsUp_g rc σ v1) := by
  unfold F_M_pairsUp_g
  exact (k_obI (fun z5 => (k_ite (fun _ => (k_obI (fun z31 => (k_ite (fun _ => (k_some h0)) (fun _ => (k_ob (K := (kM q j v)) (k_omap (K := (kS (kM q j v) (kM q j v))) (k_forGO (K := (kM q j v)) (fun i s h2 => (fr_F_M_pairsUp_48_b _ hrc _ _ _ _ (by omega) h2)) h0) (fun _ h => k_mrg h)) (fun z39 h1 => (k_bt (K := (kM q j v)) (k_up (by omega) h1) (fun σ40 h3 => (k_some h3)))))))))) (fun _ => (k_ite (fun _ => (k_btI (fun x8 => (k_ob (K := (kP kT (kM q j v))) (k_whl (K := (kP kT (kM q j v))) (fun s h5 => (fr_F_M_pairsUp_109_b _ hrc _ _ _ _ (by omega) (kp2 h5))) (k_pair trivial h0)) (fun z21 h4 => (k_chk (k_bt (K := (kM q j v)) (k_up (by omega) (kp2 h4)) (fun σ23 h6 => (k_some h6))))))))) (fun _ => (k_chk (k_bt (K := (kM q j v)) (k_up (by omega) h0) (fun σ25 h7 => (k_ob (K := (kM q j v)) (hrc _ _ h7) (fun z26 h8 => (k_btI (fun x27 => (k_ob (K := (kP kT (kM q j v))) (k_whl (K := (kP kT (kM q j v))) (fun s h10 => (fr_F_M_pairsUp_109_b _ hrc _ _ _ _ (by omega) (kp2 h10))) (k_pair trivial h8)) (fun z28 h9 => (k_chk (k_bt (K := (kM q j v)) (k_up (by omega) (kp2 h9)) (fun σ30 h11 => (k_some h11)))))))))))))))))))
theorem fr_F_M_pairsUp_d {q j : Nat} {v : Int32} (_c0 : q < 342 ∨ 343 < q) (_c1 : q ≠ 333 ∨ j ≠ 21) : ∀ (d : Nat) (m : Mem) (a1 : Int32) (h0 : kM q j v m), (kO (kM q j v)) (F_M_pairsUp_d d m a1) := by
  intro d
  induction d with
  | zero => intro m a1 h0; exact k_none
  | succ d ih => intro m a1 h0; exact fr_F_M_pairsUp_g _ ih _ _ (by omega) (by omega) h0
set_option maxRecDepth 10000 in
set_option linter.unusedVariables false in
theorem fr_F_M_pairsUp {q j : Nat} {v : Int32} (σ : Mem) (v1 : Int32) (_c0 : q < 342 ∨ 343 < q) (_c1 : q ≠ 333 ∨ j ≠ 21) (h0 : kM q j v σ) : (kO (kM q j v)) (F_M_pairsUp σ v1) := by
  unfold F_M_pairsUp
  exact (fr_F_M_pairsUp_g _ (fr_F_M_pairsUp_d (by omega) (by omega) 10) _ _ (by omega) (by omega) h0)
set_option maxRecDepth 10000 in
set_option linter.unusedVariables false in
theorem fr_F_M_steady_33_b {q j : Nat} {v : Int32} (v1 : Int32) (v2 : Int32) (σ : Mem) (_c0 : q ≠ 342) (h0 : kM q j v σ) : (kO (kM q j v)) (F_M_steady_33_b v1 v2 σ) := by
  unfold F_M_steady_33_b
  exact (k_bt (K := (kM q j v)) (k_up (by omega) h0) (fun σ5 h1 => (k_some h1)))
set_option maxRecDepth 10000 in
set_option linter.unusedVariables false in
theorem fr_F_M_steady {q j : Nat} {v : Int32} (σ : Mem) (v1 : Int32) (_c0 : q < 342 ∨ 343 < q) (_c1 : q ≠ 333 ∨ j ≠ 0) (_c2 : q ≠ 333 ∨ j ≠ 21) (h0 : kM q j v σ) : (kO (kP (kM q j v) kT)) (F_M_steady σ v1) := by
  unfold F_M_steady
  exact (k_ite (fun _ => (k_bt (K := (kM q j v)) (k_up (by omega) h0) (fun σ2 h1 => (k_ite (fun _ => (k_some (k_pair h1 trivial))) (fun _ => (k_ob (K := (kM q j v)) (k_forSO (K := (kM q j v)) (fun i s h3 => (fr_F_M_steady_33_b _ _ _ (by omega) h3)) h1) (fun z7 h2 => (k_bt (K := (kM q j v)) (k_up (by omega) h2) (fun σ8 h4 => (k_ite (fun _ => (k_ob (K := (kM q j v)) (fr_F_M_pairsUp _ _ (by omega) (by omega) h4) (fun z14 h5 => (k_ite (fun _ => (k_some (k_pair h5 trivial))) (fun _ => (k_ite (fun _ => (k_some (k_pair h5 trivial))) (fun _ => (k_chk (k_some (k_pair h5 trivial)))))))))) (fun _ => (k_ob (K := (kM q j v)) (fr_F_M_pairsUp _ _ (by omega) (by omega) h4) (fun z10 h6 => (k_ite (fun _ => (k_some (k_pair h6 trivial))) (fun _ => (k_ite (fun _ => (k_some (k_pair h6 trivial))) (fun _ => (k_chk (k_some (k_pair h6 trivial)))))))))))))))))))) (fun _ => (k_obI (fun z18 => (k_ite (fun _ => (k_bt (K := (kM q j v)) (k_up (by omega) h0) (fun σ33 h7 => (k_ite (fun _ => (k_some (k_pair h7 trivial))) (fun _ => (k_ob (K := (kM q j v)) (k_forSO (K := (kM q j v)) (fun i s h9 => (fr_F_M_steady_33_b _ _ _ (by omega) h9)) h7) (fun z35 h8 => (k_bt (K := (kM q j v)) (k_up (by omega) h8) (fun σ36 h10 => (k_ite (fun _ => (k_ob (K := (kM q j v)) (fr_F_M_pairsUp _ _ (by omega) (by omega) h10) (fun z42 h11 => (k_ite (fun _ => (k_some (k_pair h11 trivial))) (fun _ => (k_ite (fun _ => (k_some (k_pair h11 trivial))) (fun _ => (k_chk (k_some (k_pair h11 trivial)))))))))) (fun _ => (k_ob (K := (kM q j v)) (fr_F_M_pairsUp _ _ (by omega) (by omega) h10) (fun z38 h12 => (k_ite (fun _ => (k_some (k_pair h12 trivial))) (fun _ => (k_ite (fun _ => (k_some (k_pair h12 trivial))) (fun _ => (k_chk (k_some (k_pair h12 trivial)))))))))))))))))))) (fun _ => (k_bt (K := (kM q j v)) (k_up (by omega) h0) (fun σ20 h13 => (k_ite (fun _ => (k_some (k_pair h13 trivial))) (fun _ => (k_ob (K := (kM q j v)) (k_forSO (K := (kM q j v)) (fun i s h15 => (fr_F_M_steady_33_b _ _ _ (by omega) h15)) h13) (fun z22 h14 => (k_bt (K := (kM q j v)) (k_up (by omega) h14) (fun σ23 h16 => (k_ite (fun _ => (k_ob (K := (kM q j v)) (fr_F_M_pairsUp _ _ (by omega) (by omega) h16) (fun z29 h17 => (k_ite (fun _ => (k_some (k_pair h17 trivial))) (fun _ => (k_ite (fun _ => (k_some (k_pair h17 trivial))) (fun _ => (k_chk (k_some (k_pair h17 trivial)))))))))) (fun _ => (k_ob (K := (kM q j v)) (fr_F_M_pairsUp _ _ (by omega) (by omega) h16) (fun z25 h18 => (k_ite (fun _ => (k_some (k_pair h18 trivial))) (fun _ => (k_ite (fun _ => (k_some (k_pair h18 trivial))) (fun _ => (k_chk (k_some (k_pair h18 trivial)))))))))))))))))))))))))
set_option maxRecDepth 10000 in
set_option linter.unusedVariables false in
theorem fr_F_W_feedNumber_3_b {q j : Nat} {v : Int32} (v1 : Int32) (v2 : Int32) (σ : Mem) (_c0 : q ≠ 2) (_c1 : q ≠ 0 ∨ j ≠ 12) (h0 : kM q j v σ) : (kO (kS (kP kT (kM q j v)) (kP kT (kM q j v)))) (F_W_feedNumber_3_b v1 v2 σ) := by
  unfold F_W_feedNumber_3_b
  exact (k_ite (fun _ => (k_some (k_inr (k_pair trivial h0)))) (fun _ => (k_bt (K := (kM q j v)) (fr_F_Row_put _ _ _ _ _ (by omega) h0) (fun z2 h1 => (k_bt (K := (kM q j v)) (k_up (by omega) h1) (fun σ3 h2 => (k_btI (fun x4 => (k_some (k_inl (k_pair trivial h2)))))))))))
set_option maxRecDepth 10000 in
set_option linter.unusedVariables false in
theorem fr_F_W_feedNumber {q j : Nat} {v : Int32} (σ : Mem) (v1 : Int32) (_c0 : q ≠ 2) (_c1 : q ≠ 0 ∨ j ≠ 12) (h0 : kM q j v σ) : (kO (kM q j v)) (F_W_feedNumber σ v1) := by
  unfold F_W_feedNumber
  exact (k_ob (K := (kP kT (kM q j v))) (k_whl (K := (kP kT (kM q j v))) (fun s h2 => (fr_F_W_feedNumber_3_b _ _ _ (by omega) (by omega) (kp2 h2))) (k_pair trivial h0)) (fun z5 h1 => (k_some (kp2 h1))))
set_option maxRecDepth 10000 in
set_option linter.unusedVariables false in
theorem fr_F_W_feed {q j : Nat} {v : Int32} (σ : Mem) (v1 : Int32) (v2 : Int32) (v3 : Int32) (v4 : Int32) (v5 : Int32) (_c0 : q ≠ 2) (_c1 : q ≠ 0 ∨ j ≠ 12) (h0 : kM q j v σ) : (kO (kP (kM q j v) kT)) (F_W_feed σ v1 v2 v3 v4 v5) := by
  unfold F_W_feed
  exact (k_ite (fun _ => (k_some (k_pair h0 trivial))) (fun _ => (k_ob (K := (kM q j v)) (fr_F_W_feedNumber _ _ (by omega) (by omega) h0) (fun z2 h1 => (k_ob (K := (kM q j v)) (fr_F_W_feedNumber _ _ (by omega) (by omega) h1) (fun z3 h2 => (k_ob (K := (kM q j v)) (fr_F_W_feedNumber _ _ (by omega) (by omega) h2) (fun z4 h3 => (k_ob (K := (kM q j v)) (fr_F_W_feedNumber _ _ (by omega) (by omega) h3) (fun z5 h4 => (k_ob (K := (kM q j v)) (fr_F_W_feedNumber _ _ (by omega) (by omega) h4) (fun z6 h5 => (k_some (k_pair h5 trivial))))))))))))))
set_option maxRecDepth 10000 in
set_option linter.unusedVariables false in
theorem fr_F_W_end {q j : Nat} {v : Int32} (σ : Mem) (v1 : Int32) (_c0 : q ≠ 0 ∨ j ≠ 12) (h0 : kM q j v σ) : (kP (kM q j v) kT) (F_W_end σ v1) := by
  unfold F_W_end
  exact (k_ite (fun _ => (k_pair h0 trivial)) (fun _ => (k_ite (fun _ => (k_pair h0 trivial)) (fun _ => (k_bt (K := (kM q j v)) (k_up (by omega) h0) (fun σ3 h1 => (k_pair h1 trivial)))))))
set_option maxRecDepth 10000 in
set_option linter.unusedVariables false in
theorem fr_F_W_useTapeUp {q j : Nat} {v : Int32} (σ : Mem) (_c0 : q ≠ 0 ∨ j ≠ 12) (h0 : kM q j v σ) : (kP (kM q j v) kT) (F_W_useTapeUp σ) := by
  unfold F_W_useTapeUp
  exact (k_btI (fun x1 => (k_bt (K := (kM q j v)) (k_up (by omega) h0) (fun σ2 h1 => (k_pair h1 trivial)))))
set_option maxRecDepth 10000 in
set_option linter.unusedVariables false in
theorem fr_F_W_remember {q j : Nat} {v : Int32} (σ : Mem) (_c0 : q < 129 ∨ 332 < q) (_c1 : q ≠ 0 ∨ j ≠ 15) (_c2 : q ≠ 0 ∨ j ≠ 16) (h0 : kM q j v σ) : (kO (kM q j v)) (F_W_remember σ) := by
  unfold F_W_remember
  exact (k_ite (fun _ => (k_ite (fun _ => (k_bt (K := (kM q j v)) (k_up (by omega) h0) (fun σ4 h1 => (k_some h1)))) (fun _ => (k_bt (K := (kM q j v)) (k_up (by omega) h0) (fun σ3 h2 => (k_some h2)))))) (fun _ => (k_chkH (fun hb => have hb9 := inb_cl hb; (k_bt (K := (kM q j v)) (fr_F_Town_copyAll _ _ _ (by omega) h0) (fun z6 h3 => (k_ite (fun _ => (k_bt (K := (kM q j v)) (k_up (by omega) h3) (fun σ9 h4 => (k_some h4)))) (fun _ => (k_bt (K := (kM q j v)) (k_up (by omega) h3) (fun σ8 h5 => (k_some h5)))))))))))
set_option maxRecDepth 10000 in
set_option linter.unusedVariables false in
theorem fr_F_W_undo {q j : Nat} {v : Int32} (σ : Mem) (_c0 : q < 3 ∨ 19 < q) (_c1 : q ≠ 0 ∨ j ≠ 16) (h0 : kM q j v σ) : (kO (kP (kM q j v) kT)) (F_W_undo σ) := by
  unfold F_W_undo
  exact (k_ite (fun _ => (k_some (k_pair h0 trivial))) (fun _ => (k_bt (K := (kM q j v)) (k_up (by omega) h0) (fun σ2 h1 => (k_ite (fun _ => (k_some (k_pair h1 trivial))) (fun _ => (k_chk (k_bt (K := (kM q j v)) (fr_F_Town_copyAll _ _ _ (by omega) h1) (fun z5 h2 => (k_some (k_pair h2 trivial)))))))))))
set_option maxRecDepth 10000 in
set_option linter.unusedVariables false in
theorem fr_F_W_forgetActs {q j : Nat} {v : Int32} (σ : Mem) (_c0 : q ≠ 0 ∨ j ≠ 16) (h0 : kM q j v σ) : (kM q j v) (F_W_forgetActs σ) := by
  unfold F_W_forgetActs
  exact (k_bt (K := (kM q j v)) (k_up (by omega) h0) (fun σ1 h1 => h1))
set_option maxRecDepth 10000 in
set_option linter.unusedVariables false in
theorem fr_F_W_image {q j : Nat} {v : Int32} (σ : Mem) (_c0 : q < 28 ∨ 50 < q) (_c1 : q ≠ 0 ∨ j ≠ 14) (h0 : kM q j v σ) : (kM q j v) (F_W_image σ) := by
  unfold F_W_image
  exact (k_bt (K := (kM q j v)) (fr_F_Town_copyAll _ _ _ (by omega) h0) (fun z1 h1 => (k_bt (K := (kM q j v)) (fr_F_Law_copyAll _ _ _ (by omega) h1) (fun z2 h2 => (k_bt (K := (kM q j v)) (k_up (by omega) h2) (fun σ3 h3 => h3))))))
set_option maxRecDepth 10000 in
set_option linter.unusedVariables false in
theorem fr_F_W_back {q j : Nat} {v : Int32} (σ : Mem) (_c0 : q < 3 ∨ 25 < q) (_c1 : q ≠ 0 ∨ j ≠ 16) (h0 : kM q j v σ) : (kP (kM q j v) kT) (F_W_back σ) := by
  unfold F_W_back
  exact (k_ite (fun _ => (k_pair h0 trivial)) (fun _ => (k_bt (K := (kM q j v)) (fr_F_Town_copyAll _ _ _ (by omega) h0) (fun z2 h1 => (k_bt (K := (kM q j v)) (fr_F_Law_copyAll _ _ _ (by omega) h1) (fun z3 h2 => (k_bt (K := (kM q j v)) (fr_F_W_forgetActs _ (by omega) h2) (fun z4 h3 => (k_pair h3 trivial)))))))))
set_option maxRecDepth 10000 in
set_option linter.unusedVariables false in
theorem fr_F_W_seed {q j : Nat} {v : Int32} (σ : Mem) (v1 : Int32) (_c0 : q ≠ 3) (h0 : kM q j v σ) : (kP (kM q j v) kT) (F_W_seed σ v1) := by
  unfold F_W_seed
  exact (k_btI (fun x1 => (k_bt (K := (kM q j v)) (k_up (by omega) h0) (fun σ2 h1 => (k_pair h1 trivial)))))
set_option maxRecDepth 10000 in
set_option linter.unusedVariables false in
theorem fr_F_W_falls {q j : Nat} {v : Int32} (σ : Mem) (_c0 : q < 95 ∨ 111 < q) (h0 : kM q j v σ) : (kO (kP (kM q j v) kT)) (F_W_falls σ) := by
  unfold F_W_falls
  exact (k_ob (K := (kP (kM q j v) kT)) (fr_F_For_fallen _ _ (by omega) h0) (fun z1 h1 => (k_some (k_pair (kp1 h1) trivial))))
set_option maxRecDepth 10000 in
set_option linter.unusedVariables false in
theorem fr_F_W_readTold {q j : Nat} {v : Int32} (σ : Mem) (_c0 : q < 122 ∨ 126 < q) (_c1 : q ≠ 0 ∨ j ≠ 12) (h0 : kM q j v σ) : (kO (kS (kP kT (kM q j v)) (kM q j v))) (F_W_readTold σ) := by
  unfold F_W_readTold
  exact (k_bt (K := (kP (kM q j v) kT)) (fr_F_W_useTapeUp _ (by omega) h0) (fun z1 h1 => (k_ob (K := (kP (kM q j v) kT)) (fr_F_Told_reads _ _ _ _ _ (by omega) (kp1 h1)) (fun z2 h2 => (k_ite (fun _ => (k_some (k_inl (k_pair trivial (kp1 h2))))) (fun _ => (k_some (k_inr (kp1 h2)))))))))
set_option maxRecDepth 10000 in
set_option linter.unusedVariables false in
theorem fr_F_W_town {q j : Nat} {v : Int32} (σ : Mem) (_c0 : q < 3 ∨ 19 < q) (_c1 : q < 54 ∨ 77 < q) (_c2 : q ≠ 0 ∨ j ≠ 12) (_c3 : q ≠ 0 ∨ j ≠ 13) (_c4 : q ≠ 0 ∨ j ≠ 16) (h0 : kM q j v σ) : (kO (kS (kP kT (kM q j v)) (kP (kM q j v) kT))) (F_W_town σ) := by
  unfold F_W_town
  exact (k_bt (K := (kM q j v)) (fr_F_Town_copyAll _ _ _ (by omega) h0) (fun z1 h1 => (k_bt (K := (kP (kM q j v) kT)) (fr_F_W_useTapeUp _ (by omega) h1) (fun z2 h2 => (k_ob (K := (kP (kM q j v) kT)) (fr_F_Text_linesOf_54 _ _ _ _ _ (by omega) (kp1 h2)) (fun z3 h3 => (k_bt (K := (kM q j v)) (k_up (by omega) (kp1 h3)) (fun σ4 h4 => (k_ite (fun _ => (k_ite (fun _ => (k_bt (K := (kM q j v)) (fr_F_Town_copyAll _ _ _ (by omega) h4) (fun z7 h5 => (k_bt (K := (kM q j v)) (k_up (by omega) h5) (fun σ8 h6 => (k_bt (K := (kM q j v)) (fr_F_W_forgetActs _ (by omega) h6) (fun z9 h7 => (k_some (k_inr (k_pair h7 trivial)))))))))) (fun _ => (k_some (k_inl (k_pair trivial h4)))))) (fun _ => (k_some (k_inl (k_pair trivial h4)))))))))))))
set_option maxRecDepth 10000 in
set_option linter.unusedVariables false in
theorem fr_F_W_law {q j : Nat} {v : Int32} (σ : Mem) (_c0 : q < 20 ∨ 25 < q) (_c1 : q < 78 ∨ 90 < q) (_c2 : q ≠ 0 ∨ j ≠ 12) (_c3 : q ≠ 0 ∨ j ≠ 13) (_c4 : q ≠ 0 ∨ j ≠ 16) (h0 : kM q j v σ) : (kO (kS (kP kT (kM q j v)) (kP (kM q j v) kT))) (F_W_law σ) := by
  unfold F_W_law
  exact (k_bt (K := (kM q j v)) (fr_F_Law_clearLines _ _ (by omega) h0) (fun z1 h1 => (k_bt (K := (kP (kM q j v) kT)) (fr_F_W_useTapeUp _ (by omega) h1) (fun z2 h2 => (k_ob (K := (kP (kM q j v) kT)) (fr_F_Text_linesOf_78 _ _ _ _ _ (by omega) (kp1 h2)) (fun z3 h3 => (k_bt (K := (kM q j v)) (k_up (by omega) (kp1 h3)) (fun σ4 h4 => (k_ite (fun _ => (k_bt (K := (kM q j v)) (fr_F_Law_copyAll _ _ _ (by omega) h4) (fun z6 h5 => (k_bt (K := (kM q j v)) (fr_F_W_forgetActs _ (by omega) h5) (fun z7 h6 => (k_some (k_inr (k_pair h6 trivial)))))))) (fun _ => (k_some (k_inl (k_pair trivial h4)))))))))))))
set_option maxRecDepth 10000 in
set_option linter.unusedVariables false in
theorem fr_F_W_match {q j : Nat} {v : Int32} (σ : Mem) (v1 : Int32) (v2 : Int32) (_c0 : q ≠ 27) (_c1 : q ≠ 112) (h0 : kM q j v σ) : (kO (kS (kP kT (kM q j v)) (kP (kM q j v) kT))) (F_W_match σ v1 v2) := by
  unfold F_W_match
  exact (k_sumT (fun e2 => (k_some (k_inl (k_pair trivial h0)))) (fun o1 => (k_ite (fun _ => (k_some (k_inr (k_pair h0 trivial)))) (fun _ => (k_ite (fun _ => (k_some (k_inr (k_pair h0 trivial)))) (fun _ => (k_ite (fun _ => (k_some (k_inr (k_pair h0 trivial)))) (fun _ => (k_ite (fun _ => (k_some (k_inr (k_pair h0 trivial)))) (fun _ => (k_ite (fun _ => (k_ite (fun _ => (k_some (k_inr (k_pair h0 trivial)))) (fun _ => (k_some (k_inr (k_pair h0 trivial)))))) (fun _ => (k_ite (fun _ => (k_some (k_inr (k_pair h0 trivial)))) (fun _ => (k_ite (fun _ => (k_ob (K := (kP (kM q j v) kT)) (fr_F_For_turnsNow _ _ _ _ (by omega) (by omega) h0) (fun z12 h1 => (k_some (k_inr (k_pair (kp1 h1) trivial)))))) (fun _ => (k_some (k_inl (k_pair trivial h0)))))))))))))))))))
set_option maxRecDepth 10000 in
set_option linter.unusedVariables false in
theorem fr_F_W_ask {q j : Nat} {v : Int32} (σ : Mem) (v1 : Int32) (v2 : Int32) (_c0 : q ≠ 7) (_c1 : q < 129 ∨ 332 < q) (_c2 : q ≠ 0 ∨ j ≠ 15) (_c3 : q ≠ 0 ∨ j ≠ 16) (h0 : kM q j v σ) : (kO (kS (kP kT (kM q j v)) (kP (kM q j v) kT))) (F_W_ask σ v1 v2) := by
  unfold F_W_ask
  exact (k_sumT (fun e2 => (k_some (k_inl (k_pair trivial h0)))) (fun o1 => (k_ob (K := (kM q j v)) (fr_F_W_remember _ (by omega) (by omega) (by omega) h0) (fun z4 h1 => (k_bt (K := (kP (kM q j v) kT)) (fr_F_Town_addAsked _ _ _ _ (by omega) h1) (fun z5 h2 => (k_some (k_inr (k_pair (kp1 h2) trivial)))))))))
set_option maxRecDepth 10000 in
set_option linter.unusedVariables false in
theorem fr_F_W_wed {q j : Nat} {v : Int32} (σ : Mem) (v1 : Int32) (v2 : Int32) (_c0 : q < 3 ∨ 17 < q) (_c1 : q < 129 ∨ 332 < q) (_c2 : q ≠ 0 ∨ j ≠ 15) (_c3 : q ≠ 0 ∨ j ≠ 16) (h0 : kM q j v σ) : (kO (kS (kP kT (kM q j v)) (kP (kM q j v) kT))) (F_W_wed σ v1 v2) := by
  unfold F_W_wed
  exact (k_sumT (fun e2 => (k_some (k_inl (k_pair trivial h0)))) (fun o1 => (k_ite (fun _ => (k_ite (fun _ => (k_ite (fun _ => (k_ob (K := (kM q j v)) (fr_F_W_remember _ (by omega) (by omega) (by omega) h0) (fun z7 h1 => (k_bt (K := (kP (kM q j v) kT)) (fr_F_Town_addMatch _ _ _ _ _ (by omega) h1) (fun z8 h2 => (k_some (k_inr (k_pair (kp1 h2) trivial)))))))) (fun _ => (k_some (k_inl (k_pair trivial h0)))))) (fun _ => (k_some (k_inl (k_pair trivial h0)))))) (fun _ => (k_some (k_inl (k_pair trivial h0)))))))
set_option maxRecDepth 10000 in
set_option linter.unusedVariables false in
theorem fr_F_W_gift {q j : Nat} {v : Int32} (σ : Mem) (v1 : Int32) (v2 : Int32) (_c0 : q ≠ 5) (_c1 : q ≠ 15) (_c2 : q < 129 ∨ 332 < q) (_c3 : q ≠ 0 ∨ j ≠ 15) (_c4 : q ≠ 0 ∨ j ≠ 16) (h0 : kM q j v σ) : (kO (kS (kP kT (kM q j v)) (kP (kM q j v) kT))) (F_W_gift σ v1 v2) := by
  unfold F_W_gift
  exact (k_sumT (fun e2 => (k_some (k_inl (k_pair trivial h0)))) (fun o1 => (k_ite (fun _ => (k_some (k_inl (k_pair trivial h0)))) (fun _ => (k_ob (K := (kM q j v)) (fr_F_W_remember _ (by omega) (by omega) (by omega) h0) (fun z5 h1 => (k_bt (K := (kM q j v)) (fr_F_Row_put _ _ _ _ _ (by omega) h1) (fun z6 h2 => (k_bt (K := (kP (kM q j v) kT)) (fr_F_Town_changeHappy _ _ _ _ (by omega) h2) (fun z7 h3 => (k_some (k_inr (k_pair (kp1 h3) trivial)))))))))))))
set_option maxRecDepth 10000 in
set_option linter.unusedVariables false in
theorem fr_F_W_meddle {q j : Nat} {v : Int32} (σ : Mem) (v1 : Int32) (v2 : Int32) (_c0 : q ≠ 15) (_c1 : q < 129 ∨ 332 < q) (_c2 : q ≠ 0 ∨ j ≠ 15) (_c3 : q ≠ 0 ∨ j ≠ 16) (h0 : kM q j v σ) : (kO (kS (kP kT (kM q j v)) (kP (kM q j v) kT))) (F_W_meddle σ v1 v2) := by
  unfold F_W_meddle
  exact (k_sumT (fun e2 => (k_some (k_inl (k_pair trivial h0)))) (fun o1 => (k_ob (K := (kM q j v)) (fr_F_W_remember _ (by omega) (by omega) (by omega) h0) (fun z4 h1 => (k_bt (K := (kP (kM q j v) kT)) (fr_F_Town_changeHappy _ _ _ _ (by omega) h1) (fun z5 h2 => (k_some (k_inr (k_pair (kp1 h2) trivial)))))))))
set_option maxRecDepth 10000 in
set_option linter.unusedVariables false in
theorem fr_F_W_reinsure {q j : Nat} {v : Int32} (σ : Mem) (v1 : Int32) (v2 : Int32) (_c0 : q ≠ 9) (_c1 : q < 129 ∨ 332 < q) (_c2 : q ≠ 0 ∨ j ≠ 15) (_c3 : q ≠ 0 ∨ j ≠ 16) (h0 : kM q j v σ) : (kO (kS (kP kT (kM q j v)) (kP (kM q j v) kT))) (F_W_reinsure σ v1 v2) := by
  unfold F_W_reinsure
  exact (k_sumT (fun e2 => (k_some (k_inl (k_pair trivial h0)))) (fun o1 => (k_ite (fun _ => (k_ob (K := (kM q j v)) (fr_F_W_remember _ (by omega) (by omega) (by omega) h0) (fun z5 h1 => (k_btI (fun x6 => (k_bt (K := (kM q j v)) (fr_F_Row_put _ _ _ _ _ (by omega) h1) (fun z7 h2 => (k_some (k_inr (k_pair h2 trivial)))))))))) (fun _ => (k_sumT (fun e9 => (k_some (k_inl (k_pair trivial h0)))) (fun o8 => (k_ob (K := (kM q j v)) (fr_F_W_remember _ (by omega) (by omega) (by omega) h0) (fun z11 h3 => (k_btI (fun x12 => (k_bt (K := (kM q j v)) (fr_F_Row_put _ _ _ _ _ (by omega) h3) (fun z13 h4 => (k_some (k_inr (k_pair h4 trivial)))))))))))))))
set_option maxRecDepth 10000 in
set_option linter.unusedVariables false in
theorem fr_F_W_part {q j : Nat} {v : Int32} (σ : Mem) (v1 : Int32) (_c0 : q ≠ 3) (_c1 : q < 129 ∨ 332 < q) (_c2 : q ≠ 0 ∨ j ≠ 15) (_c3 : q ≠ 0 ∨ j ≠ 16) (h0 : kM q j v σ) : (kO (kS (kP kT (kM q j v)) (kP (kM q j v) kT))) (F_W_part σ v1) := by
  unfold F_W_part
  exact (k_sumT (fun e2 => (k_some (k_inl (k_pair trivial h0)))) (fun o1 => (k_sumT (fun e5 => (k_some (k_inl (k_pair trivial h0)))) (fun o4 => (k_ob (K := (kM q j v)) (fr_F_W_remember _ (by omega) (by omega) (by omega) h0) (fun z7 h1 => (k_bt (K := (kM q j v)) (fr_F_Town_endMatch _ _ _ (by omega) h1) (fun z8 h2 => (k_some (k_inr (k_pair h2 trivial)))))))))))
set_option maxRecDepth 10000 in
set_option linter.unusedVariables false in
theorem fr_F_W_months_22_b {q j : Nat} {v : Int32} (v1 : Int32) (v2 : Int32) (v3 : Int32) (σ : Mem) (_c0 : q < 3 ∨ 19 < q) (_c1 : q ≠ 27) (_c2 : q ≠ 93) (h0 : kM q j v σ) : (kO (kM q j v)) (F_W_months_22_b v1 v2 v3 σ) := by
  unfold F_W_months_22_b
  exact (k_ob (K := (kM q j v)) (fr_F_Town_passMonth _ _ _ _ (by omega) (by omega) (by omega) h0) (fun z7 h1 => (k_some h1)))
set_option maxRecDepth 10000 in
set_option linter.unusedVariables false in
theorem fr_F_W_months {q j : Nat} {v : Int32} (σ : Mem) (v1 : Int32) (_c0 : q < 3 ∨ 19 < q) (_c1 : q ≠ 27) (_c2 : q ≠ 93) (_c3 : q < 129 ∨ 332 < q) (_c4 : q ≠ 0 ∨ j ≠ 15) (_c5 : q ≠ 0 ∨ j ≠ 16) (h0 : kM q j v σ) : (kO (kS (kP kT (kM q j v)) (kP (kM q j v) kT))) (F_W_months σ v1) := by
  unfold F_W_months
  exact (k_sumT (fun e2 => (k_some (k_inl (k_pair trivial h0)))) (fun o1 => (k_ob (K := (kM q j v)) (fr_F_W_remember _ (by omega) (by omega) (by omega) h0) (fun z4 h1 => (k_btI (fun x5 => (k_ob (K := (kM q j v)) (k_forSO (K := (kM q j v)) (fun i s h3 => (fr_F_W_months_22_b _ _ _ _ (by omega) (by omega) (by omega) h3)) h1) (fun z9 h2 => (k_some (k_inr (k_pair h2 trivial)))))))))))
set_option maxRecDepth 10000 in
set_option linter.unusedVariables false in
theorem fr_F_W_next {q j : Nat} {v : Int32} (σ : Mem) (v1 : Int32) (v2 : Int32) (_c0 : q ≠ 27) (_c1 : q ≠ 112) (h0 : kM q j v σ) : (kO (kS (kP kT (kM q j v)) (kP (kM q j v) kT))) (F_W_next σ v1 v2) := by
  unfold F_W_next
  exact (k_sumT (fun e2 => (k_some (k_inl (k_pair trivial h0)))) (fun o1 => (k_sumT (fun e5 => (k_some (k_inl (k_pair trivial h0)))) (fun o4 => (k_ite (fun _ => (k_ob (K := (kP (kM q j v) kT)) (fr_F_For_happyNext _ _ _ _ _ (by omega) (by omega) h0) (fun z8 h1 => (k_some (k_inr (k_pair (kp1 h1) trivial)))))) (fun _ => (k_some (k_inr (k_pair h0 trivial)))))))))
set_option maxRecDepth 10000 in
set_option linter.unusedVariables false in
theorem fr_F_W_ahead {q j : Nat} {v : Int32} (σ : Mem) (v1 : Int32) (v2 : Int32) (v3 : Int32) (_c0 : q ≠ 27) (_c1 : q ≠ 112) (h0 : kM q j v σ) : (kO (kS (kP kT (kM q j v)) (kP (kM q j v) kT))) (F_W_ahead σ v1 v2 v3) := by
  unfold F_W_ahead
  exact (k_sumT (fun e2 => (k_some (k_inl (k_pair trivial h0)))) (fun o1 => (k_sumT (fun e5 => (k_some (k_inl (k_pair trivial h0)))) (fun o4 => (k_sumT (fun e8 => (k_some (k_inl (k_pair trivial h0)))) (fun o7 => (k_ite (fun _ => (k_ob (K := (kP (kM q j v) kT)) (fr_F_For_happyAhead _ _ _ _ _ _ (by omega) (by omega) h0) (fun z11 h1 => (k_some (k_inr (k_pair (kp1 h1) trivial)))))) (fun _ => (k_some (k_inr (k_pair h0 trivial)))))))))))
set_option maxRecDepth 10000 in
set_option linter.unusedVariables false in
theorem fr_F_W_first {q j : Nat} {v : Int32} (σ : Mem) (v1 : Int32) (v2 : Int32) (_c0 : q ≠ 27) (_c1 : q ≠ 112) (h0 : kM q j v σ) : (kO (kS (kP kT (kM q j v)) (kP (kM q j v) kT))) (F_W_first σ v1 v2) := by
  unfold F_W_first
  exact (k_sumT (fun e2 => (k_some (k_inl (k_pair trivial h0)))) (fun o1 => (k_sumT (fun e5 => (k_some (k_inl (k_pair trivial h0)))) (fun o4 => (k_ite (fun _ => (k_ob (K := (kP (kM q j v) kT)) (fr_F_For_firstClaim _ _ _ _ _ (by omega) (by omega) h0) (fun z8 h1 => (k_some (k_inr (k_pair (kp1 h1) trivial)))))) (fun _ => (k_some (k_inr (k_pair h0 trivial)))))))))
set_option maxRecDepth 10000 in
set_option linter.unusedVariables false in
theorem fr_F_W_odds {q j : Nat} {v : Int32} (σ : Mem) (v1 : Int32) (_c0 : q ≠ 27) (_c1 : q ≠ 112) (h0 : kM q j v σ) : (kO (kS (kP kT (kM q j v)) (kP (kM q j v) kT))) (F_W_odds σ v1) := by
  unfold F_W_odds
  exact (k_sumT (fun e2 => (k_some (k_inl (k_pair trivial h0)))) (fun o1 => (k_ite (fun _ => (k_ob (K := (kP (kM q j v) kT)) (fr_F_For_claimQuarrels _ _ _ _ (by omega) (by omega) h0) (fun z5 h1 => (k_some (k_inr (k_pair (kp1 h1) trivial)))))) (fun _ => (k_some (k_inr (k_pair h0 trivial)))))))
set_option maxRecDepth 10000 in
set_option linter.unusedVariables false in
theorem fr_F_W_gifts {q j : Nat} {v : Int32} (σ : Mem) (v1 : Int32) (v2 : Int32) (v3 : Int32) (_c0 : q ≠ 27) (_c1 : q < 112 ∨ 116 < q) (h0 : kM q j v σ) : (kO (kS (kP kT (kM q j v)) (kP (kM q j v) kT))) (F_W_gifts σ v1 v2 v3) := by
  unfold F_W_gifts
  exact (k_sumT (fun e2 => (k_some (k_inl (k_pair trivial h0)))) (fun o1 => (k_sumT (fun e5 => (k_some (k_inl (k_pair trivial h0)))) (fun o4 => (k_sumT (fun e8 => (k_some (k_inl (k_pair trivial h0)))) (fun o7 => (k_ite (fun _ => (k_ob (K := (kP (kM q j v) kT)) (fr_F_For_fewestGifts _ _ _ _ _ _ (by omega) (by omega) h0) (fun z11 h1 => (k_some (k_inr (k_pair (kp1 h1) trivial)))))) (fun _ => (k_some (k_inr (k_pair h0 trivial)))))))))))
set_option maxRecDepth 10000 in
set_option linter.unusedVariables false in
theorem fr_F_W_loses {q j : Nat} {v : Int32} (σ : Mem) (v1 : Int32) (_c0 : q < 95 ∨ 111 < q) (h0 : kM q j v σ) : (kO (kS (kP kT (kM q j v)) (kP (kM q j v) kT))) (F_W_loses σ v1) := by
  unfold F_W_loses
  exact (k_sumT (fun e2 => (k_some (k_inl (k_pair trivial h0)))) (fun o1 => (k_ob (K := (kP (kM q j v) kT)) (fr_F_For_lossOf _ _ _ (by omega) h0) (fun z4 h1 => (k_some (k_inr (k_pair (kp1 h1) trivial)))))))
set_option maxRecDepth 10000 in
set_option linter.unusedVariables false in
theorem fr_F_W_holds {q j : Nat} {v : Int32} (σ : Mem) (v1 : Int32) (_c0 : q < 95 ∨ 111 < q) (h0 : kM q j v σ) : (kO (kS (kP kT (kM q j v)) (kP (kM q j v) kT))) (F_W_holds σ v1) := by
  unfold F_W_holds
  exact (k_sumT (fun e2 => (k_some (k_inl (k_pair trivial h0)))) (fun o1 => (k_ob (K := (kP (kM q j v) kT)) (fr_F_For_leastWealth _ _ _ (by omega) h0) (fun z4 h1 => (k_some (k_inr (k_pair (kp1 h1) trivial)))))))
set_option maxRecDepth 10000 in
set_option linter.unusedVariables false in
theorem fr_F_W_steady {q j : Nat} {v : Int32} (σ : Mem) (v1 : Int32) (_c0 : q < 117 ∨ 121 < q) (h0 : kM q j v σ) : (kO (kS (kP kT (kM q j v)) (kP (kM q j v) kT))) (F_W_steady σ v1) := by
  unfold F_W_steady
  exact (k_ite (fun _ => (k_ob (K := (kP (kM q j v) kT)) (fr_F_Prs_steadyWays _ _ (by omega) h0) (fun z6 h1 => (k_some (k_inr (k_pair (kp1 h1) trivial)))))) (fun _ => (k_sumT (fun e3 => (k_some (k_inl (k_pair trivial h0)))) (fun o2 => (k_ob (K := (kP (kM q j v) kT)) (fr_F_Prs_steadyPartner _ _ _ (by omega) h0) (fun z5 h2 => (k_some (k_inr (k_pair (kp1 h2) trivial)))))))))
set_option maxRecDepth 10000 in
set_option linter.unusedVariables false in
theorem fr_F_W_anniversary {q j : Nat} {v : Int32} (σ : Mem) (v1 : Int32) (_c0 : q < 122 ∨ 128 < q) (_c1 : q ≠ 0 ∨ j ≠ 12) (h0 : kM q j v σ) : (kO (kS (kP kT (kM q j v)) (kP (kM q j v) kT))) (F_W_anniversary σ v1) := by
  unfold F_W_anniversary
  exact (k_ob (K := (kS (kP kT (kM q j v)) (kM q j v))) (fr_F_W_readTold _ (by omega) (by omega) h0) (fun z1 h1 => (k_sum h1 (fun e3 h2 => (k_some (k_inl h2))) (fun o2 h3 => (k_ite (fun _ => (k_ob (K := (kP (kM q j v) kT)) (fr_F_Told_fitting _ (by omega) h3) (fun z6 h4 => (k_some (k_inr (k_pair (kp1 h4) trivial)))))) (fun _ => (k_ob (K := (kP (kM q j v) kT)) (fr_F_Told_inAll _ (by omega) h3) (fun z7 h5 => (k_some (k_inr (k_pair (kp1 h5) trivial)))))))))))
set_option maxRecDepth 10000 in
set_option linter.unusedVariables false in
theorem fr_F_W_dance {q j : Nat} {v : Int32} (σ : Mem) (_c0 : q < 122 ∨ 128 < q) (_c1 : q ≠ 0 ∨ j ≠ 12) (h0 : kM q j v σ) : (kO (kS (kP kT (kM q j v)) (kP (kM q j v) kT))) (F_W_dance σ) := by
  unfold F_W_dance
  exact (k_ob (K := (kS (kP kT (kM q j v)) (kM q j v))) (fr_F_W_readTold _ (by omega) (by omega) h0) (fun z1 h1 => (k_sum h1 (fun e3 h2 => (k_some (k_inl h2))) (fun o2 h3 => (k_ob (K := (kP (kM q j v) kT)) (fr_F_Told_bestParter _ (by omega) h3) (fun z5 h4 => (k_some (k_inr (k_pair (kp1 h4) trivial)))))))))
set_option maxRecDepth 10000 in
set_option linter.unusedVariables false in
theorem fr_F_W_trial {q j : Nat} {v : Int32} (σ : Mem) (v1 : Int32) (v2 : Int32) (_c0 : q ≠ 27) (_c1 : q < 95 ∨ 112 < q) (h0 : kM q j v σ) : (kO (kS (kP kT (kM q j v)) (kP (kM q j v) kT))) (F_W_trial σ v1 v2) := by
  unfold F_W_trial
  exact (k_sumT (fun e2 => (k_some (k_inl (k_pair trivial h0)))) (fun o1 => (k_ob (K := (kP (kM q j v) kT)) (fr_F_For_tryMonths _ _ _ _ _ (by omega) (by omega) h0) (fun z4 h1 => (k_ite (fun _ => (k_some (k_inr (k_pair (kp1 h1) trivial)))) (fun _ => (k_some (k_inr (k_pair (kp1 h1) trivial)))))))))
set_option maxRecDepth 10000 in
set_option linter.unusedVariables false in
theorem fr_F_W_span_29_b {q j : Nat} {v : Int32} (v1 : Int32) (v2 : Int32) (v4 : Int32) (v3 : Int32) (σ : Mem) (_c0 : q ≠ 27) (_c1 : q < 95 ∨ 112 < q) (h0 : kM q j v σ) : (kO (kP kT (kM q j v))) (F_W_span_29_b v1 v2 v4 v3 σ) := by
  unfold F_W_span_29_b
  exact (k_ob (K := (kP (kM q j v) kT)) (fr_F_For_tryMonths _ _ _ _ _ (by omega) (by omega) h0) (fun z6 h1 => (k_ite (fun _ => (k_btI (fun x8 => (k_some (k_pair trivial (kp1 h1)))))) (fun _ => (k_btI (fun x9 => (k_some (k_pair trivial (kp1 h1)))))))))
set_option maxRecDepth 10000 in
set_option linter.unusedVariables false in
theorem fr_F_W_span {q j : Nat} {v : Int32} (σ : Mem) (v1 : Int32) (v2 : Int32) (_c0 : q ≠ 27) (_c1 : q < 95 ∨ 112 < q) (h0 : kM q j v σ) : (kO (kS (kP kT (kM q j v)) (kP (kM q j v) kT))) (F_W_span σ v1 v2) := by
  unfold F_W_span
  exact (k_sumT (fun e2 => (k_some (k_inl (k_pair trivial h0)))) (fun o1 => (k_ob (K := (kP (kM q j v) kT)) (fr_F_For_tryMonths _ _ _ _ _ (by omega) (by omega) h0) (fun z4 h1 => (k_ob (K := (kP kT (kM q j v))) (k_forSO (K := (kP kT (kM q j v))) (fun i s h3 => (fr_F_W_span_29_b _ _ _ _ _ (by omega) (by omega) (kp2 h3))) (k_pair trivial (kp1 h1))) (fun z11 h2 => (k_some (k_inr (k_pair (kp2 h2) trivial)))))))))

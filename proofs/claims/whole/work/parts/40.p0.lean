-- PURE STAGE: numbers, loops, memory
theorem p_cl {n : Nat} (h : n < 6000) : (nI n).toNatClampNeg = n := nI_clamp (by omega)
theorem p_inb {n N : Nat} (h : n < N) (hN : N < 6000) : inb (nI n) N = true := by
  have h1 : (nI n).toInt = (n : Int) := nI_toInt (by omega)
  unfold inb
  rw [h1]
  simp
  exact h
theorem p_cnt {a b : Nat} (hb : b < 2 ^ 31) (ha : a < 2 ^ 31) : cnt (nI a) (nI b) = b - a := by
  unfold cnt
  rw [nI_toInt ha, nI_toInt hb]
  omega
theorem p_cnt0 {b : Nat} (hb : b < 2 ^ 31) : cnt 0 (nI b) = b := p_cnt (a := 0) hb (by decide)
theorem p_lt {a b : Nat} (ha : a < 2 ^ 31) (hb : b < 2 ^ 31) : nI a < nI b ↔ a < b := nI_ltI ha hb
theorem p_at {σ : Mem} {r N k : Nat} (h : k < N) (hN : N < 6000) : F_Row_at σ r N (nI k) = σ (r + 1) k := by
  unfold F_Row_at
  rw [if_neg (nI_pos (by omega)), if_pos (show nI k < Int32.ofNat N from (p_lt (by omega) (by omega)).mpr h), p_cl (by omega)]
theorem p_put {σ : Mem} {r N k : Nat} {v : Int32} (h : k < N) (hN : N < 6000) : F_Row_put σ r N (nI k) v = up σ (r + 1) k v := by
  unfold F_Row_put
  rw [if_neg (nI_pos (by omega)), if_pos (show nI k < Int32.ofNat N from (p_lt (by omega) (by omega)).mpr h), p_cl (by omega)]
  rfl
theorem up_s {σ : Mem} {q j : Nat} {v : Int32} : up σ q j v q j = v := by simp [up]
theorem up_d {σ : Mem} {q j a b : Nat} {v : Int32} (h : a ≠ q ∨ b ≠ j) : up σ q j v a b = σ a b := by
  unfold up
  rw [if_neg (by omega)]
theorem bind_T {α β : Type} (x : α) (k : α → β) : bindT x k = k x := rfl
theorem ob_s {α β : Type} (a : α) (k : α → Option β) : obind (some a) k = k a := rfl
theorem chk_t {β : Type} (k : Option β) : chk true k = k := rfl
theorem sumE_l {S R β : Type} (s : S) (a : S → β) (b : R → β) : sumE (.inl s) a b = a s := rfl
theorem sumE_r {S R β : Type} (s : R) (a : S → β) (b : R → β) : sumE (.inr s) a b = b s := rfl
/-- so many turns -/
def itr {S : Type} (f : Nat → S → S) : Nat → S → S
  | 0, s => s
  | n + 1, s => f n (itr f n s)
theorem itr_sh {S : Type} (f : Nat → S → S) : ∀ (n : Nat) (s : S), itr f (n + 1) s = itr (fun k => f (k + 1)) n (f 0 s) := by
  intro n
  induction n with
  | zero => intro s; rfl
  | succ n ih =>
    intro s
    show f (n + 1) (itr f (n + 1) s) = f (n + 1) (itr (fun k => f (k + 1)) n (f 0 s))
    rw [ih]
theorem itr_congr {S : Type} {f g : Nat → S → S} {s : S} : ∀ {n : Nat}, (∀ k, k < n → f k (itr g k s) = g k (itr g k s)) → itr f n s = itr g n s := by
  intro n
  induction n with
  | zero => intro _; rfl
  | succ n ih =>
    intro h
    show f n (itr f n s) = g n (itr g n s)
    rw [ih (fun k hk => h k (by omega)), h n (by omega)]
theorem itr_inv {S : Type} {f : Nat → S → S} (I : Nat → S → Prop) {s : S} (h0 : I 0 s) : ∀ {n : Nat}, (∀ k, k < n → ∀ s, I k s → I (k + 1) (f k s)) → I n (itr f n s) := by
  intro n
  induction n with
  | zero => intro _; exact h0
  | succ n ih => intro h; exact h n (by omega) _ (ih fun k hk => h k (by omega))
theorem forS_itr {S : Type} {F : Int32 → S → S} : ∀ (n lo : Nat) (s : S), forS F n (nI lo) s = itr (fun k s => F (nI (lo + k)) s) n s := by
  intro n
  induction n with
  | zero => intro lo s; rfl
  | succ n ih =>
    intro lo s
    rw [itr_sh]
    show forS F n (nI lo + 1) (F (nI lo) s) = _
    rw [nI_1, ih]
    congr 1
    funext k
    rw [show lo + 1 + k = lo + (k + 1) by omega]
theorem forSO_itr {S : Type} {F : Int32 → S → Option S} : ∀ (n lo : Nat) (s : S) (g : Nat → S → S), (∀ k, k < n → F (nI (lo + k)) (itr g k s) = some (g k (itr g k s))) → forSO F n (nI lo) s = some (itr g n s) := by
  intro n
  induction n with
  | zero => intro lo s g _; rfl
  | succ n ih =>
    intro lo s g h
    rw [itr_sh]
    show obind (F (nI lo) s) (fun s' => forSO F n (nI lo + 1) s') = _
    have h0 := h 0 (by omega)
    rw [Nat.add_zero] at h0
    rw [show itr g 0 s = s from rfl] at h0
    rw [h0, ob_s, nI_1]
    refine ih (lo + 1) (g 0 s) (fun k => g (k + 1)) (fun k hk => ?_)
    have h1 := h (k + 1) (by omega)
    rw [itr_sh] at h1
    rw [show lo + 1 + k = lo + (k + 1) by omega]
    exact h1
/-- .. that may stop -/
def itrX {S X : Type} (f : Nat → S → S ⊕ X) : Nat → S → S ⊕ X
  | 0, s => .inl s
  | n + 1, s => contG (itrX f n s) (f n)
theorem itrX_sh {S X : Type} (f : Nat → S → S ⊕ X) : ∀ (n : Nat) (s : S), itrX f (n + 1) s = contG (f 0 s) (itrX (fun k => f (k + 1)) n) := by
  intro n
  induction n with
  | zero => intro s; show f 0 s = contG (f 0 s) _; cases f 0 s <;> rfl
  | succ n ih =>
    intro s
    show contG (itrX f (n + 1) s) (f (n + 1)) = _
    rw [ih]
    cases f 0 s with
    | inl s' => rfl
    | inr x => rfl
theorem forG_itr {S X : Type} {F : Int32 → S → S ⊕ X} : ∀ (n lo : Nat) (s : S), forG F n (nI lo) s = itrX (fun k s => F (nI (lo + k)) s) n s := by
  intro n
  induction n with
  | zero => intro lo s; rfl
  | succ n ih =>
    intro lo s
    rw [itrX_sh]
    show contG (F (nI lo) s) (fun s' => forG F n (nI lo + 1) s') = _
    rw [nI_1, Nat.add_zero]
    cases F (nI lo) s with
    | inr x => rfl
    | inl s' =>
      show forG F n (nI (lo + 1)) s' = _
      rw [ih]
      show _ = itrX _ n s'
      congr 1
      funext k
      rw [show lo + 1 + k = lo + (k + 1) by omega]
theorem forGO_itr {S X : Type} {F : Int32 → S → Option (S ⊕ X)} : ∀ (n lo : Nat) (s : S) (g : Nat → S → S ⊕ X), (∀ k, k < n → ∀ s', itrX g k s = .inl s' → F (nI (lo + k)) s' = some (g k s')) → forGO F n (nI lo) s = some (itrX g n s) := by
  intro n
  induction n with
  | zero => intro lo s g _; rfl
  | succ n ih =>
    intro lo s g h
    rw [itrX_sh]
    show obind (F (nI lo) s) (fun y => contO y fun s' => forGO F n (nI lo + 1) s') = _
    have h0 := h 0 (by omega) s rfl
    rw [Nat.add_zero] at h0
    rw [h0, ob_s, nI_1]
    cases hg : g 0 s with
    | inr x => rfl
    | inl s' =>
      show forGO F n (nI (lo + 1)) s' = some (itrX (fun k => g (k + 1)) n s')
      refine ih (lo + 1) s' (fun k => g (k + 1)) (fun k hk s2 h2 => ?_)
      have h1 := h (k + 1) (by omega) s2 (by rw [itrX_sh, hg]; exact h2)
      rw [show lo + 1 + k = lo + (k + 1) by omega]
      exact h1
theorem itrX_congr {S X : Type} {f g : Nat → S → S ⊕ X} {s : S} : ∀ {n : Nat}, (∀ k, k < n → ∀ s', itrX g k s = .inl s' → f k s' = g k s') → itrX f n s = itrX g n s := by
  intro n
  induction n with
  | zero => intro _; rfl
  | succ n ih =>
    intro h
    show contG (itrX f n s) (f n) = contG (itrX g n s) (g n)
    rw [ih (fun k hk => h k (by omega))]
    cases hg : itrX g n s with
    | inr x => rfl
    | inl s' => exact h n (by omega) s' hg
/-- a loop with a count in its state -/
theorem whl_inv {S X : Type} {F : S → Option (S ⊕ X)} (I : Nat → S → Prop) (P : X → Prop) (he : ∀ (N : Nat) (s : S), I N s → (∃ x, F s = some (.inr x) ∧ P x) ∨ ∃ s', F s = some (.inl s') ∧ I (N + 1) s') (M : Nat) (hM : ∀ s, ¬ I (M + 1) s) : ∀ (k d fuel : Nat) (s : S), d + k = M → d < fuel → I k s → ∃ x, whl F fuel s = some x ∧ P x := by
  intro k d
  induction d generalizing k with
  | zero =>
    intro fuel s hd hf h
    obtain ⟨f2, rfl⟩ : ∃ f2, fuel = f2 + 1 := ⟨fuel - 1, by omega⟩
    rcases he k s h with ⟨x, h1, h2⟩ | ⟨s', h1, h2⟩
    · exact ⟨x, by show obind (F s) _ = _; rw [h1]; rfl, h2⟩
    · exact absurd h2 (by rw [show k = M by omega]; exact hM s')
  | succ d ih =>
    intro fuel s hd hf h
    obtain ⟨f2, rfl⟩ : ∃ f2, fuel = f2 + 1 := ⟨fuel - 1, by omega⟩
    rcases he k s h with ⟨x, h1, h2⟩ | ⟨s', h1, h2⟩
    · exact ⟨x, by show obind (F s) _ = _; rw [h1]; rfl, h2⟩
    · obtain ⟨x, h3, h4⟩ := ih (k + 1) f2 s' (by omega) (by omega) h2
      exact ⟨x, by show obind (F s) _ = _; rw [h1]; exact h3, h4⟩
/-- so many turns, then out -/
theorem whl_n {S X : Type} {F : S → Option (S ⊕ X)} (g : Nat → S) (N : Nat) (x : X) (hN : N < FUEL) (hs : ∀ k, k < N → F (g k) = some (.inl (g (k + 1)))) (he : F (g N) = some (.inr x)) : whl F FUEL (g 0) = some x := by
  obtain ⟨y, h1, h2⟩ := whl_inv (F := F) (fun k s => k ≤ N ∧ s = g k) (fun y => y = x) (fun k s h => by
    obtain ⟨h3, rfl⟩ := h
    by_cases hk : k < N
    · exact Or.inr ⟨_, hs k hk, by omega, rfl⟩
    · obtain rfl : k = N := by omega
      exact Or.inl ⟨x, he, rfl⟩) N (fun s h => by omega) 0 N FUEL (g 0) rfl hN ⟨Nat.zero_le N, rfl⟩
  rw [h1, h2]

-- PURE STAGE: steady ways
def anyI (B : Nat → Bool) : Nat → Nat → Bool
  | 0, _ => false
  | d + 1, lo => B lo || anyI B d (lo + 1)
theorem forG_any {X : Type} {F : Int32 → Unit ⊕ X} {B : Nat → Bool} {x : X} : ∀ (d lo : Nat), (∀ k, lo ≤ k → k < lo + d → F (nI k) = if B k = true then .inr x else .inl ()) → forG (fun i (_ : Unit) => F i) d (nI lo) () = if anyI B d lo = true then .inr x else .inl () := by
  intro d
  induction d with
  | zero => intro lo _; rfl
  | succ d ih =>
    intro lo h
    show contG (F (nI lo)) (fun _ => forG _ d (nI lo + 1) ()) = if (B lo || anyI B d (lo + 1)) = true then _ else _
    rw [h lo (by omega) (by omega), nI_1]
    cases B lo with
    | true => rfl
    | false =>
      rw [Bool.false_or]
      exact ih (lo + 1) (fun k h1 h2 => h k (by omega) (by omega))
theorem forGO_any {X : Type} {F : Int32 → Option (Unit ⊕ X)} {B : Nat → Bool} {x : X} : ∀ (d lo : Nat), (∀ k, lo ≤ k → k < lo + d → F (nI k) = some (if B k = true then .inr x else .inl ())) → forGO (fun i (_ : Unit) => F i) d (nI lo) () = some (if anyI B d lo = true then .inr x else .inl ()) := by
  intro d
  induction d with
  | zero => intro lo _; rfl
  | succ d ih =>
    intro lo h
    show obind (F (nI lo)) (fun y => contO y fun _ => forGO _ d (nI lo + 1) ()) = some (if (B lo || anyI B d (lo + 1)) = true then _ else _)
    rw [h lo (by omega) (by omega), nI_1, ob_s]
    cases B lo with
    | true => rfl
    | false =>
      rw [Bool.false_or]
      exact ih (lo + 1) (fun k h1 h2 => h k (by omega) (by omega))
theorem anyI_congr {B D : Nat → Bool} : ∀ (d lo : Nat), (∀ k, lo ≤ k → k < lo + d → B k = D k) → anyI B d lo = anyI D d lo := by
  intro d
  induction d with
  | zero => intro lo _; rfl
  | succ d ih =>
    intro lo h
    show (B lo || _) = (D lo || _)
    rw [h lo (by omega) (by omega), ih (lo + 1) (fun k h1 h2 => h k (by omega) (by omega))]
/-- who would leave whom -/
def wlB (T : Nat → Nat → Int32) (q : Nat → Int32) (a c : Nat) : Bool := decide (q a = nI a) || decide (T 8 (8 * a + (q a).toNatClampNeg) < T 8 (8 * a + c))
def unB (T : Nat → Nat → Int32) (q : Nat → Int32) (a c : Nat) : Bool := wlB T q a c && wlB T q c a
def unR (T : Nat → Nat → Int32) (q : Nat → Int32) (P a : Nat) : Bool := anyI (unB T q a) (P - (a + 1)) (a + 1)
def unA (T : Nat → Nat → Int32) (q : Nat → Int32) (P : Nat) : Bool := anyI (unR T q P) P 0
section STD
variable {σ σ' : Mem} {g : Nat → Int32} {P M C i : Nat}
theorem c_wl (hP : P ≤ 8) (hv : ∀ p, p < P → ∃ r, r < P ∧ σ 119 p = nI r) {a c : Nat} (ha : a < P) (hc : c < P) : F_Prs_wouldLeaveFor σ 3 (nI a) (nI c) = if wlB (tv σ 3) (σ 119) a c = true then 1 else 0 := by
  obtain ⟨r, hr, e⟩ := hv a ha
  unfold F_Prs_wouldLeaveFor wlB
  rw [p_at (by omega) (by decide), show σ (118 + 1) a = nI r from e, bind_T, p_cl (by omega), t_liking (by omega) (by omega), t_liking (by omega) (by omega)]
  show _ = if (decide (nI r = nI a) || decide (σ (3 + 8) (8 * a + r) < σ (3 + 8) (8 * a + c))) = true then _ else _
  by_cases c1 : nI r = nI a
  · rw [if_pos c1, decide_eq_true c1]; rfl
  · rw [if_neg c1, decide_eq_false c1, Bool.false_or]
    by_cases c2 : σ (3 + 8) (8 * a + r) < σ (3 + 8) (8 * a + c)
    · rw [if_pos c2, decide_eq_true c2]; rfl
    · rw [if_neg c2, decide_eq_false c2]; rfl
theorem c_steady (hP : P ≤ 8) (t8 : σ 3 8 = nI P) (hv : ∀ p, p < P → ∃ r, r < P ∧ σ 119 p = nI r) : F_Prs_countIfSteady σ 3 = if unA (tv σ 3) (σ 119) P = true then σ else (if σ 117 2 = 0 then up (F_Row_copyAll σ 120 8 118 8) 117 2 (F_Row_copyAll σ 120 8 118 8 117 2 + 1) else up σ 117 2 (σ 117 2 + 1)) := by
  have row : ∀ a, a < P → F_Prs_countIfSteady_2_b σ 3 (nI a) = if unR (tv σ 3) (σ 119) P a = true then .inr σ else .inl () := by
    intro a ha
    unfold F_Prs_countIfSteady_2_b
    rw [nI_1, bind_T, t8, p_cnt (by omega) (by omega)]
    have e := forG_any (F := fun i => F_Prs_countIfSteady_14_b σ 3 (nI a) i) (B := unB (tv σ 3) (σ 119) a) (x := σ) (P - (a + 1)) (a + 1) (fun c h1 h2 => by
      unfold F_Prs_countIfSteady_14_b unB
      rw [c_wl hP hv ha (by omega), c_wl hP hv (by omega) ha, if10, if10]
      cases wlB (tv σ 3) (σ 119) a c <;> cases wlB (tv σ 3) (σ 119) c a <;> rfl)
    rw [e, bind_T]
    show _ = if anyI _ _ _ = true then _ else _
    cases anyI (unB (tv σ 3) (σ 119) a) (P - (a + 1)) (a + 1) <;> rfl
  unfold F_Prs_countIfSteady
  rw [t8, p_cnt0 (by omega)]
  have e := forG_any (F := fun i => F_Prs_countIfSteady_2_b σ 3 i) (B := unR (tv σ 3) (σ 119) P) (x := σ) P 0 (fun a _ h2 => row a (by omega))
  rw [nI_0] at e
  rw [e, bind_T]
  show _ = if anyI _ _ _ = true then _ else _
  cases anyI (unR (tv σ 3) (σ 119) P) P 0 <;> rfl
theorem m_pref (h : TR (tv σ 3) (σ' 334) g P M C) (hq : ∀ p, p < P → σ' 342 p = σ 119 p) (hv : ∀ p, p < P → ∃ r, r < P ∧ σ 119 p = nI r) {a c : Nat} (ha : a < P) (hc : c < P) : F_M_prefers σ' (nI a) (nI c) = some (if wlB (tv σ 3) (σ 119) a c = true then 1 else 0) := by
  have hP := h.c1.1
  obtain ⟨r, hr, e⟩ := hv a ha
  obtain ⟨x, hx, ex⟩ := (h.c11 a c (by omega) (by omega)).1
  unfold F_M_prefers wlB
  rw [m_likes (by omega), ob_s, p_inb (by omega) (by decide), chk_t, chk_t, p_cl (by omega), hq a ha, e, m_likes (by omega), ob_s, h.c10 a c ha hc, h.c10 a r ha hr, p_cl (by omega)]
  by_cases c1 : nI r = nI a
  · have lt : (-1 : Int32) < tv σ 3 8 (8 * a + c) := by
      rw [ex, Int32.lt_iff_toInt_lt, nI_toInt (by omega)]
      have : ((-1 : Int32)).toInt = -1 := by decide
      omega
    rw [if_pos c1, if_pos lt, decide_eq_true c1]; rfl
  · rw [if_neg c1, decide_eq_false c1, Bool.false_or]
    by_cases c2 : tv σ 3 8 (8 * a + r) < tv σ 3 8 (8 * a + c)
    · rw [if_pos c2, decide_eq_true c2]; rfl
    · rw [if_neg c2, decide_eq_false c2]; rfl
theorem m_steady (h : TR (tv σ 3) (σ' 334) g P M C) (hq : ∀ p, p < P → σ' 342 p = σ 119 p) (hv : ∀ p, p < P → ∃ r, r < P ∧ σ 119 p = nI r) : F_M_isSteady σ' = some (if unA (tv σ 3) (σ 119) P = true then 0 else 1) := by
  have hP := h.c1.1
  have h3 : σ' 334 3 = nI P := h.c3.1
  have row : ∀ a, a < P → F_M_isSteady_2_b σ' (nI a) = some (if unR (tv σ 3) (σ 119) P a = true then .inr 0 else .inl ()) := by
    intro a ha
    obtain ⟨r, hr, er⟩ := hv a ha
    unfold F_M_isSteady_2_b
    rw [nI_1, bind_T, h3, p_cnt (by omega) (by omega)]
    have e := forGO_any (F := fun i => F_M_isSteady_16_b σ' (nI a) i) (B := unB (tv σ 3) (σ 119) a) (x := 0) (P - (a + 1)) (a + 1) (fun c h1 h2 => by
      unfold F_M_isSteady_16_b unB
      rw [p_inb (by omega) (by decide), chk_t, p_cl (by omega), hq a ha, er, m_pref h hq hv ha (by omega), m_pref h hq hv (by omega) ha, ob_s, ob_s, if10, if10]
      by_cases c1 : nI r = nI c
      · have e0 : wlB (tv σ 3) (σ 119) a c = false := by
          unfold wlB
          rw [er, c1, p_cl (by omega), decide_eq_false (show ¬ nI c = nI a from fun q => by have := nI_inj (by omega) (by omega) q; omega), decide_eq_false (fun q => Int32.lt_irrefl q)]
          rfl
        rw [if_pos c1, e0]
        rfl
      · rw [if_neg c1]
        cases wlB (tv σ 3) (σ 119) a c <;> cases wlB (tv σ 3) (σ 119) c a <;> rfl)
    rw [e, ob_s]
    show _ = some (if anyI _ _ _ = true then _ else _)
    cases anyI (unB (tv σ 3) (σ 119) a) (P - (a + 1)) (a + 1) <;> rfl
  unfold F_M_isSteady
  rw [h3, p_cnt0 (by omega)]
  have e := forGO_any (F := fun i => F_M_isSteady_2_b σ' i) (B := unR (tv σ 3) (σ 119) P) (x := 0) P 0 (fun a _ h2 => row a (by omega))
  rw [nI_0] at e
  rw [e, ob_s]
  show _ = some (if anyI _ _ _ = true then _ else _)
  cases anyI (unR (tv σ 3) (σ 119) P) P 0 <;> rfl
end STD

-- PURE STAGE: insurers, askers, sums
theorem b_meet {x : Int32} {a b : Nat} (ha : a < 32) (hb : b < 32) : (x &&& (((1 : Int32) <<< (nI a &&& 31)) ||| ((1 : Int32) <<< (nI b &&& 31)))) = 0 ↔ (bt x a || bt x b) = false := by
  constructor
  · intro h
    have h1 : ∀ i, i < 32 → (bt x i && (decide (i = a) || decide (i = b))) = false := fun i hi => by
      have h2 := congrArg (fun y => bt y i) h
      rw [b_and, b_or, b_sing ha hi, b_sing hb hi, b_0] at h2
      exact h2
    have ha2 := h1 a ha
    have hb2 := h1 b hb
    rw [decide_eq_true rfl, Bool.true_or, Bool.and_true] at ha2
    rw [decide_eq_true (rfl : b = b), Bool.or_true, Bool.and_true] at hb2
    rw [ha2, hb2]; rfl
  · intro h
    apply b_ext
    intro i hi
    rw [b_and, b_or, b_sing ha hi, b_sing hb hi, b_0]
    rw [Bool.or_eq_false_iff] at h
    by_cases h1 : i = a
    · subst h1; rw [h.1]; rfl
    · by_cases h2 : i = b
      · subst h2; rw [h.2]; rfl
      · rw [decide_eq_false h1, decide_eq_false h2]; simp
def inC (T : Nat → Nat → Int32) (a b : Nat) (p : Nat) : Bool := !(decide (p = a)) && !(decide (p = b)) && !(bt (T 0 9) p) && (bt (T 4 p) a || bt (T 4 p) b)
def insS (T : Nat → Nat → Int32) (P a b : Nat) : Int32 := sOf (inC T a b) P
def bcn (x : Int32) : Int32 := F_Int_bitCount_0f7a4 z0 x
def ins (T : Nat → Nat → Int32) (P a b : Nat) : Int32 := if bcn (insS T P a b) < 2 then 0 else insS T P a b
theorem ins_small {T : Nat → Nat → Int32} {P a b : Nat} (hP : P ≤ 8) : ∃ m, m < 256 ∧ ins T P a b = nI m := by
  unfold ins
  by_cases h : bcn (insS T P a b) < 2
  · rw [if_pos h]; exact ⟨0, by decide, nI_0.symm⟩
  · rw [if_neg h]; exact sOf_small _ hP
theorem ins_bt {T : Nat → Nat → Int32} {P a b i : Nat} (hP : P ≤ 8) (hi : i < 32) (h : bt (ins T P a b) i = true) : i < P ∧ i ≠ a ∧ i ≠ b ∧ bt (T 0 9) i = false := by
  unfold ins at h
  by_cases h1 : bcn (insS T P a b) < 2
  · rw [if_pos h1, b_0] at h; cases h
  · rw [if_neg h1] at h
    unfold insS at h
    rw [sOf_bt _ (by omega) hi] at h
    simp only [inC, Bool.and_eq_true, decide_eq_true_eq, Bool.not_eq_true', decide_eq_false_iff_not] at h
    exact ⟨h.1, h.2.1.1.1, h.2.1.1.2, h.2.1.2⟩
theorem itr_step {S : Type} {f : Nat → S → S} {s : S} {n : Nat} : itr f (n + 1) s = f n (itr f n s) := rfl
section TRI
variable {σ σ' : Mem} {g : Nat → Int32} {t P M C : Nat}
theorem q_ins (h : TR (tv σ t) (σ' 334) g P M C) {a b : Nat} (ha : a < P) (hb : b < P) : F_Town_insurersOfPair σ t (nI a) (nI b) = ins (tv σ t) P a b ∧ F_M_insurersOf σ' (nI a) (nI b) = some (ins (tv σ t) P a b) := by
  have hP := h.c1.1
  have h8 : σ t 8 = nI P := h.c2.1
  have h3 : σ' 334 3 = nI P := h.c3.1
  constructor
  · unfold F_Town_insurersOfPair
    rw [bind_T, bind_T, h8, p_cnt0 (by omega)]
    have e1 : forS (fun i s => F_Town_insurersOfPair_14_b σ t (nI a) (nI b) (((1 : Int32) <<< (nI a &&& 31)) ||| ((1 : Int32) <<< (nI b &&& 31))) i s) P 0 0 = insS (tv σ t) P a b := by
      have := forS_itr (F := fun i s => F_Town_insurersOfPair_14_b σ t (nI a) (nI b) (((1 : Int32) <<< (nI a &&& 31)) ||| ((1 : Int32) <<< (nI b &&& 31))) i s) P 0 0
      rw [nI_0] at this
      rw [this]
      unfold insS sOf
      refine itr_congr fun p hp => ?_
      generalize itr _ p (0 : Int32) = x
      show F_Town_insurersOfPair_14_b σ t (nI a) (nI b) _ (nI (0 + p)) x = _
      rw [Nat.zero_add]
      unfold F_Town_insurersOfPair_14_b inC
      rw [p_con (by omega), b_or, b_or, b_sing (by omega) (by omega), b_sing (by omega) (by omega), t_asked (by omega)]
      show _ = if (!(decide (p = a)) && !(decide (p = b)) && !(bt (σ t 9) p) && (bt (σ (t + 4) p) a || bt (σ (t + 4) p) b)) = true then _ else _
      cases hx : (decide (p = a) || decide (p = b) || bt (σ t 9) p)
      · rw [Bool.or_eq_false_iff, Bool.or_eq_false_iff] at hx
        rw [hx.1.1, hx.1.2, hx.2, if_pos (show (if false = true then (1 : Int32) else 0) = 0 from rfl)]
        cases hy : (bt (σ (t + 4) p) a || bt (σ (t + 4) p) b)
        · rw [if_pos ((b_meet (by omega) (by omega)).mpr hy)]; rfl
        · rw [if_neg (fun q => by rw [(b_meet (by omega) (by omega)).mp q] at hy; cases hy)]; rfl
      · rw [if_pos rfl, if_neg (by decide), if_neg]
        intro hz
        simp only [Bool.and_eq_true, Bool.not_eq_true'] at hz
        rw [hz.1.1.1, hz.1.1.2, hz.1.2] at hx
        cases hx
    rw [e1]
    rfl
  · unfold F_M_insurersOf
    rw [h3, p_cnt0 (by omega)]
    have e1 : forSO (fun i s => F_M_insurersOf_5_b σ' (nI a) (nI b) i s) P 0 0 = some (insS (tv σ t) P a b) := by
      have := forSO_itr (F := fun i s => F_M_insurersOf_5_b σ' (nI a) (nI b) i s) P 0 0 (fun k s => if inC (tv σ t) a b k then s ||| ((1 : Int32) <<< (nI k &&& 31)) else s) (fun p hp => by
        generalize itr _ p (0 : Int32) = x
        rw [Nat.zero_add]
        obtain ⟨-, g2, -, g4⟩ := h.c6 p hp
        unfold F_M_insurersOf_5_b inC
        rw [m_of3 (by omega), m_of1 (by omega), g4, g2]
        simp only [ob_s]
        rw [p_isOf (by omega), p_isOf (by omega)]
        by_cases e1 : p = a
        · subst e1
          rw [if_pos rfl, decide_eq_true rfl, Bool.not_true, Bool.false_and, Bool.false_and, Bool.false_and, if_neg (by decide)]
        · rw [if_neg (fun q => e1 (nI_inj (by omega) (by omega) q)), decide_eq_false e1]
          by_cases e2 : p = b
          · subst e2
            rw [if_pos rfl, decide_eq_true (rfl : p = p), Bool.not_true, Bool.and_false, Bool.false_and, Bool.false_and, if_neg (by decide)]
          · rw [if_neg (fun q => e2 (nI_inj (by omega) (by omega) q)), decide_eq_false e2]
            cases bt (tv σ t 0 9) p
            · rw [if_pos (show (if false = true then (1 : Int32) else 0) = 0 from rfl)]
              cases bt (tv σ t 4 p) a
              · rw [if_pos (show (if false = true then (1 : Int32) else 0) = 0 from rfl)]
                cases bt (tv σ t 4 p) b <;> rfl
              · rfl
            · rfl)
      rw [nI_0] at this
      exact this
    rw [e1, ob_s]
    rw [bits_eq (σ := z0) (x := insS (tv σ t) P a b) (sOf_small _ hP)]
    unfold ins bcn
    by_cases h1 : F_Int_bitCount_0f7a4 z0 (insS (tv σ t) P a b) < 2
    · rw [if_pos h1, if_pos h1]
    · rw [if_neg h1, if_neg h1]
/-- a match's insurers -/
def insK (T : Nat → Nat → Int32) (P k : Nat) : Int32 := if bt (T 0 11) k then 0 else ins T P (T 10 (2 * k)).toNatClampNeg (T 10 (2 * k + 1)).toNatClampNeg
theorem q_insK (h : TR (tv σ t) (σ' 334) g P M C) {k : Nat} (hk : k < M) : F_Town_insurersOf σ t (nI k) = insK (tv σ t) P k ∧ F_M_insurers σ' (nI k) = some (insK (tv σ t) P k) := by
  have hP := h.c1.1
  have hM := h.c1.2.1
  obtain ⟨g1, g2, g3, g4, g5⟩ := h.c12 k hk
  obtain ⟨a, b, ha, hb, hab, e1, e2⟩ := (h.c13 k hk).1
  unfold insK
  rw [e1, e2, p_cl (by omega), p_cl (by omega)]
  constructor
  · unfold F_Town_insurersOf
    rw [p_over (by omega), t_first (by omega), t_second (by omega)]
    rw [show σ (t + 10) (2 * k) = nI a from e1, show σ (t + 10) (2 * k + 1) = nI b from e2, (q_ins h ha hb).1]
    show _ = if bt (σ t 11) k = true then _ else _
    cases bt (σ t 11) k <;> rfl
  · unfold F_M_insurers
    rw [m_mat4 (by omega), m_mat0 (by omega), m_mat1 (by omega), g5, g1, g2, e1, e2]
    simp only [ob_s]
    rw [(q_ins h ha hb).2]
    cases bt (tv σ t 0 11) k <;> rfl
theorem insK_small (h : TR (tv σ t) (σ' 334) g P M C) (k : Nat) : ∃ m, m < 256 ∧ insK (tv σ t) P k = nI m := by
  unfold insK
  by_cases h1 : bt (tv σ t 0 11) k = true
  · rw [if_pos h1]; exact ⟨0, by decide, nI_0.symm⟩
  · rw [if_neg h1]; exact ins_small h.c1.1
theorem insK_bt (h : TR (tv σ t) (σ' 334) g P M C) {k i : Nat} (hi : i < 32) (hb : bt (insK (tv σ t) P k) i = true) : i < P := by
  unfold insK at hb
  by_cases h1 : bt (tv σ t 0 11) k = true
  · rw [if_pos h1, b_0] at hb; cases hb
  · rw [if_neg h1] at hb; exact (ins_bt h.c1.1 hi hb).1
theorem q_askers (h : TR (tv σ t) (σ' 334) g P M C) {p : Nat} (hp : p < P) : F_Town_askersOf σ t (nI p) = sOf (fun o => bt (tv σ t 4 o) p) P ∧ F_M_askersOf σ' (nI p) = some (sOf (fun o => bt (tv σ t 4 o) p) P) := by
  have hP := h.c1.1
  have h8 : σ t 8 = nI P := h.c2.1
  have h3 : σ' 334 3 = nI P := h.c3.1
  constructor
  · unfold F_Town_askersOf
    rw [bind_T, h8, p_cnt0 (by omega)]
    have := forS_itr (F := fun i s => F_Town_askersOf_4_b σ t (nI p) i s) P 0 0
    rw [nI_0] at this
    rw [this]
    unfold sOf
    refine itr_congr fun o ho => ?_
    generalize itr _ o (0 : Int32) = x
    show F_Town_askersOf_4_b σ t (nI p) (nI (0 + o)) x = _
    rw [Nat.zero_add]
    unfold F_Town_askersOf_4_b
    rw [t_asked (by omega), p_con (by omega)]
    show _ = if bt (σ (t + 4) o) p = true then _ else _
    cases bt (σ (t + 4) o) p <;> rfl
  · unfold F_M_askersOf
    rw [h3, p_cnt0 (by omega)]
    have := forSO_itr (F := fun i s => F_M_askersOf_4_b σ' (nI p) i s) P 0 0 (fun k s => if bt (tv σ t 4 k) p then s ||| ((1 : Int32) <<< (nI k &&& 31)) else s) (fun o ho => by
      generalize itr _ o (0 : Int32) = x
      rw [Nat.zero_add]
      unfold F_M_askersOf_4_b
      rw [m_of1 (by omega), ob_s, (h.c6 o ho).2.1, p_isOf (by omega)]
      cases bt (tv σ t 4 o) p
      · rw [if_pos (show (if false = true then (1 : Int32) else 0) = 0 from rfl), if_neg (by decide), bind_T]
        rw [show x ||| 0 = x from b_ext fun i hi => by rw [b_or, b_0, Bool.or_false]]
      · rfl)
    rw [nI_0] at this
    rw [this]
    rfl
def sumW (T : Nat → Nat → Int32) (P : Nat) : Int32 := itr (fun k s => s + T 2 k) P 0
theorem q_sumW (h : TR (tv σ t) (σ' 334) g P M C) : F_Town_wealthOfAll σ t = sumW (tv σ t) P ∧ F_M_wealths σ' = some (sumW (tv σ t) P) := by
  have hP := h.c1.1
  have h8 : σ t 8 = nI P := h.c2.1
  have h3 : σ' 334 3 = nI P := h.c3.1
  constructor
  · unfold F_Town_wealthOfAll
    rw [bind_T, h8, p_cnt0 (by omega)]
    have := forS_itr (F := fun i s => F_Town_wealthOfAll_4_b σ t i s) P 0 0
    rw [nI_0] at this
    rw [this]
    unfold sumW
    refine itr_congr fun o ho => ?_
    generalize itr _ o (0 : Int32) = x
    show F_Town_wealthOfAll_4_b σ t (nI (0 + o)) x = _
    rw [Nat.zero_add]
    unfold F_Town_wealthOfAll_4_b
    rw [t_wealth (by omega)]
    rfl
  · unfold F_M_wealths
    rw [h3, p_cnt0 (by omega)]
    have := forSO_itr (F := fun i s => F_M_wealths_4_b σ' i s) P 0 0 (fun k s => s + tv σ t 2 k) (fun o ho => by
      generalize itr _ o (0 : Int32) = x
      rw [Nat.zero_add]
      unfold F_M_wealths_4_b
      rw [m_of0 (by omega), ob_s, (h.c6 o ho).1]
      rfl)
    rw [nI_0] at this
    rw [this]
    rfl
theorem sumW_nat (h : TR (tv σ t) (σ' 334) g P M C) : ∃ n, n ≤ 999 * P ∧ sumW (tv σ t) P = nI n := by
  have : ∀ k, k ≤ P → ∃ n, n ≤ 999 * k ∧ sumW (tv σ t) k = nI n := by
    intro k
    induction k with
    | zero => intro _; exact ⟨0, by omega, nI_0.symm⟩
    | succ k ih =>
      intro hk
      obtain ⟨n, h1, h2⟩ := ih (by omega)
      obtain ⟨m, h3, h4⟩ := (h.c7 k (by omega)).1
      refine ⟨n + m, by omega, ?_⟩
      show sumW (tv σ t) k + tv σ t 2 k = _
      rw [h2, h4, nI_add]
  exact this P (Nat.le_refl P)
end TRI

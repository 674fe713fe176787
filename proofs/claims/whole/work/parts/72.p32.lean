-- PURE STAGE: lovers, row by row
section LOW
variable {σ σ' : Mem} {g : Nat → Int32} {t P M C i : Nat}
def fst1 (z : Unit ⊕ Int32) : Int32 := match z with
  | .inl _ => -1
  | .inr r => r
theorem m_low (h : TR (tv σ t) (σ' 334) g P M C) {a : Nat} (ha : a < P) (v1 : Int32) : ∀ (d b : Nat) (v2 v3 : Int32), d + b = P → forSO (fun i s => F_M_lovers_29_b σ' v1 (nI a) i s.1 s.2) d (nI b) (v2, v3) = some (forS (fun i s => F_Prs_loverPairs_17_b σ t (nI a) i s) d (nI b) v2, if v3 = -1 then fst1 (forG (fun i _ => F_Prs_firstLovers_14_b σ t (nI a) i) d (nI b) ()) else v3) := by
  have hP := h.c1.1
  intro d
  induction d with
  | zero =>
    intro b v2 v3 _
    show some (v2, v3) = some (v2, if v3 = -1 then -1 else v3)
    by_cases c : v3 = -1
    · rw [if_pos c, c]
    · rw [if_neg c]
  | succ d ih =>
    intro b v2 v3 hd
    show obind (F_M_lovers_29_b σ' v1 (nI a) (nI b) v2 v3) (fun s' => forSO _ d (nI b + 1) s') = some (forS _ d (nI b + 1) (F_Prs_loverPairs_17_b σ t (nI a) (nI b) v2), if v3 = -1 then fst1 (contG (F_Prs_firstLovers_14_b σ t (nI a) (nI b)) fun s' => forG _ d (nI b + 1) s') else v3)
    rw [m_lov h ha (by omega), ob_s, nI_1]
    unfold F_Prs_loverPairs_17_b F_Prs_firstLovers_14_b
    rw [c_lov (by omega) (by omega), if10, if10]
    cases lovB σ t a b with
    | true =>
      rw [if_pos (show true = true from rfl), if_pos (show true = true from rfl), if_pos (show true = true from rfl), bind_T, ih (b + 1) _ _ (by omega)]
      by_cases c : v3 = -1
      · rw [if_pos c, if_pos c, if_neg (m1_ne _ (by omega))]
        show some (_, nI (10 * a + b)) = some (_, (10 : Int32) * nI a + nI b)
        rw [show (10 : Int32) * nI a = nI (10 * a) from pk_mul 10 a, nI_add]
        rfl
      · rw [if_neg c, if_neg c]
        rw [if_neg c]
        rfl
    | false =>
      rw [if_neg (show ¬ false = true by decide), if_neg (show ¬ false = true by decide), if_neg (show ¬ false = true by decide), ih (b + 1) _ _ (by omega)]
      rfl
end LOW

-- PURE STAGE: lovers, pair by pair
section LOV
variable {σ σ' : Mem} {g : Nat → Int32} {t P M C i : Nat}
def lovB (σ : Mem) (t a b : Nat) : Bool := !(bt (σ t 9) a) && !(bt (σ t 9) b) && bt (F_Prs_preferred σ t (nI a)) b && bt (F_Prs_preferred σ t (nI b)) a
theorem c_lov {a b : Nat} (ha : a < 32) (hb : b < 32) : F_Prs_areLovers σ t (nI a) (nI b) = if lovB σ t a b = true then 1 else 0 := by
  unfold F_Prs_areLovers lovB
  rw [p_ruined ha, p_ruined hb, p_con hb, p_con ha, if10, if10, if10, if10]
  cases bt (σ t 9) a <;> cases bt (σ t 9) b <;> cases bt (F_Prs_preferred σ t (nI a)) b <;> cases bt (F_Prs_preferred σ t (nI b)) a <;> rfl
theorem m_lov (h : TR (tv σ t) (σ' 334) g P M C) {a b : Nat} (ha : a < P) (hb : b < P) (v1 v2 v3 : Int32) : F_M_lovers_29_b σ' v1 (nI a) (nI b) v2 v3 = some (if lovB σ t a b = true then (v2 + 1, if v3 = -1 then nI (10 * a + b) else v3) else (v2, v3)) := by
  have hP := h.c1.1
  unfold F_M_lovers_29_b lovB
  rw [q_pref h ha, ob_s, p_isOf (by omega), if10, q_pref h hb, m_of3 (by omega), m_of3 (by omega), (h.c6 a ha).2.2.2, (h.c6 b hb).2.2.2]
  simp only [ob_s]
  rw [p_isOf (by omega), if10]
  simp only [bind_T]
  rw [show (10 : Int32) * nI a = nI (10 * a) from pk_mul 10 a, nI_add]
  show (if bt (F_Prs_preferred σ t (nI a)) b = true then (if bt (F_Prs_preferred σ t (nI b)) a = true then (if 0 < (if bt (σ t 9) a = true then (1 : Int32) else 0) + (if bt (σ t 9) b = true then 1 else 0) then _ else _) else _) else _) = _
  by_cases c : v3 = -1
  · rw [if_pos c, if_pos c]
    cases bt (σ t 9) a <;> cases bt (σ t 9) b <;> cases bt (F_Prs_preferred σ t (nI a)) b <;> cases bt (F_Prs_preferred σ t (nI b)) a <;> rfl
  · rw [if_neg c, if_neg c]
    cases bt (σ t 9) a <;> cases bt (σ t 9) b <;> cases bt (F_Prs_preferred σ t (nI a)) b <;> cases bt (F_Prs_preferred σ t (nI b)) a <;> rfl
end LOV

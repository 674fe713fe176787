-- PURE STAGE: a line of the town's text
section TLN
variable {b : Nat → Nat} {n T i a : Nat} {σ s : Mem} {g : Nat → Int32} {P M C : Nat}
/-- class and reference, with the same draft -/
def TW (b : Nat → Nat) (n T : Nat) (g : Nat → Int32) (P M C i a : Nat) (σ s : Mem) : Prop := SY 54 b n T i a σ s ∧ TR (tv σ 61) (s 334) g P M C
def LFL (b : Nat → Nat) (n : Nat) (g : Nat → Int32) (σ s : Mem) : Prop := ∃ w a1, w ≤ n ∧ σ 54 12 = nI w ∧ FSt b n w a1 s ∧ ∀ j, 450 ≤ j → j < 850 → s 334 j = g j
def LRS (b : Nat → Nat) (n T : Nat) (g : Nat → Int32) (C : Nat) (A : Option (Mem × Int32)) (B : Option Mem) : Prop := ∃ σ1 r s1, A = some (σ1, r) ∧ B = some s1 ∧ ((r = 1 ∧ ∃ i1 a1 P1 M1, TW b n T g P1 M1 C i1 a1 σ1 s1) ∨ (r = 0 ∧ LFL b n g σ1 s1))
theorem TW.keep {σ1 s1 : Mem} (h : TR (tv σ 61) (s 334) g P M C) (e : ∀ q j, (q ≠ 54 ∨ j < 7 ∨ 11 < j) → σ1 q j = σ q j) (e2 : s1 334 = s 334) : TR (tv σ1 61) (s1 334) g P M C := (h.keepM e2).keepT fun r hr j => e _ _ (by omega)
theorem TW.next (h : TW b n T g P M C i a σ s) (hi : i < T) : ∃ σ1, F_Text_advance σ 54 = some σ1 ∧ TW b n T g P M C (i + 1) (stF b n (posI b n i)) σ1 (up s 333 11 (nI (stF b n (posI b n i)))) ∧ ∀ q j, (q ≠ 54 ∨ j < 7 ∨ 11 < j) → σ1 q j = σ q j := by
  obtain ⟨σ1, e1, e2, e3⟩ := sy_next h.1 hi
  exact ⟨σ1, e1, ⟨e2, TW.keep h.2 e3 (up_r (by omega))⟩, e3⟩
theorem TW.here (h : TW b n T g P M C i a σ s) : TW b n T g P M C i (posI b n i) σ (up s 333 11 (nI (posI b n i))) := ⟨h.1.here, h.2.keepM (up_r (by omega))⟩
theorem TW.flt (h : TW b n T g P M C i a σ s) {s1 : Mem} {a' : Nat} (ha : a' ≤ n) (e : s1 = up (up s 333 11 (nI a')) 333 12 (nI (posI b n i))) : LFL b n g (up σ 54 12 (nI (posI b n i))) s1 ∧ FSt b n (posI b n i) a' s1 ∧ s1 334 = s 334 := by
  have hp := h.1.1.pos.1
  subst e
  have hF := (h.1.2.1.at_ ha).flt hp
  exact ⟨⟨posI b n i, a', hp, up_s, hF, fun j h1 h2 => by rw [up_d (by omega), up_d (by omega)]; exact h.2.c16 j (by omega)⟩, hF, by rw [up_r (by omega), up_r (by omega)]⟩
theorem lt_pm1 {P v : Nat} (hP : P ≤ 8) (hv : v < 10000) : (nI P - 1 < nI v) ↔ P ≤ v := by
  cases P with
  | zero =>
    have : (nI 0 - 1 : Int32) < nI v := by
      rw [Int32.lt_iff_toInt_lt, nI_toInt (by omega)]
      have h3 : (nI 0 - 1 : Int32).toInt = -1 := by decide
      omega
    exact ⟨fun _ => Nat.zero_le v, fun _ => this⟩
  | succ P =>
    rw [nI_pred]
    exact ⟨fun h => Nat.not_lt.mp fun c => nI_nlt (show v ≤ P by omega) (by omega) h, fun h => nI_lt (by omega) (by omega)⟩
/-- a person on both sides -/
theorem tw_who (h : TW b n T g P M C i a σ s) :
    (∃ p, p < P ∧ i < T ∧ σ 54 11 = nI p ∧ F_M_who s = some (up s 333 11 (nI (stF b n (posI b n i))), nI p)) ∨
    (F_Town_hasPerson σ 61 (σ 54 11) = 0 ∧ ∃ a' v, a' ≤ n ∧ F_M_who s = some (up (up s 333 11 (nI a')) 333 12 (nI (posI b n i)), v)) := by
  have hP := h.2.c1.1
  have h3 : s 334 3 = nI P := h.2.c3.1
  have t8 : σ 61 8 = nI P := h.2.c2.1
  unfold F_M_who
  rw [h3]
  rcases sy_num h.1 (v2 := nI P - 1) (H := P) (fun v hv => lt_pm1 hP hv) (by omega) with ⟨p, hp, hi, e1, e2⟩ | ⟨e1, a', v, ha, e2⟩
  · exact Or.inl ⟨p, hp, hi, e1, by rw [e2, ob_s]⟩
  · refine Or.inr ⟨?_, a', v, ha, by rw [e2, ob_s]⟩
    unfold F_Town_hasPerson
    rcases e1 with e1 | ⟨x, x1, x2, e1⟩
    · rw [e1, if_pos (by decide)]
    · rw [e1, if_neg (nI_pos (by omega)), t8, if_neg (nI_nlt x1 (by omega))]
theorem c_has (h : TW b n T g P M C i a σ s) {p : Nat} (hp : p < P) : F_Town_hasPerson σ 61 (nI p) = 1 := (q_pers h.2 hp).1
/-- somebody, no matter whom -/
theorem some_A (h : TW b n T g P M C i a σ s) :
    (∃ p σ1, p < P ∧ F_TTx_takeSomebody σ (-1) 0 = some (σ1, nI p) ∧ F_M_who s = some (up s 333 11 (nI (stF b n (posI b n i))), nI p) ∧ TW b n T g P M C (i + 1) (stF b n (posI b n i)) σ1 (up s 333 11 (nI (stF b n (posI b n i))))) ∨
    (∃ s1 v a', F_TTx_takeSomebody σ (-1) 0 = some (up σ 54 12 (nI (posI b n i)), -1) ∧ F_M_who s = some (s1, v) ∧ LFL b n g (up σ 54 12 (nI (posI b n i))) s1 ∧ FSt b n (posI b n i) a' s1 ∧ s1 334 = s 334) := by
  have hP := h.2.c1.1
  unfold F_TTx_takeSomebody
  rw [bind_T]
  rcases tw_who h with ⟨p, hp, hi, e1, e2⟩ | ⟨e1, a', v, ha, e2⟩
  · obtain ⟨σ1, f1, f2, f3⟩ := h.next hi
    refine Or.inl ⟨p, σ1, hp, ?_, e2, f2⟩
    rw [e1, c_has h hp, if_neg (show ¬ (1 : Int32) = 0 by decide), if_neg (m1_ne p (by omega)), if_pos rfl, f1, ob_s]
  · obtain ⟨k1, k2, k3⟩ := h.flt ha rfl
    refine Or.inr ⟨_, v, a', ?_, e2, k1, k2, k3⟩
    rw [e1, if_pos rfl, c_ref h.1.1]
    rfl
/-- somebody else -/
theorem some_B (h : TW b n T g P M C i a σ s) {q : Nat} (hq : q < P) :
    (∃ p σ1 s1 a1, p < P ∧ p ≠ q ∧ F_TTx_takeSomebody σ (nI q) 0 = some (σ1, nI p) ∧ F_M_other s (nI q) = some (s1, nI p) ∧ TW b n T g P M C (i + 1) a1 σ1 s1) ∨
    (∃ s1 v a', F_TTx_takeSomebody σ (nI q) 0 = some (up σ 54 12 (nI (posI b n i)), -1) ∧ F_M_other s (nI q) = some (s1, v) ∧ LFL b n g (up σ 54 12 (nI (posI b n i))) s1 ∧ FSt b n (posI b n i) a' s1 ∧ s1 334 = s 334) := by
  have hP := h.2.c1.1
  have hh := h.here
  unfold F_TTx_takeSomebody F_M_other
  rw [bind_T, sy_place h.1, ob_s]
  rcases tw_who hh with ⟨p, hp, hi, e1, e2⟩ | ⟨e1, a', v, ha, e2⟩
  · obtain ⟨σ1, f1, f2, f3⟩ := hh.next hi
    rw [e2, ob_s, e1, c_has h hp, if_neg (show ¬ (1 : Int32) = 0 by decide)]
    dsimp only
    rw [if_pos f2.1.2.2.2]
    by_cases c : p = q
    · subst c
      rw [if_pos rfl, if_pos rfl, c_ref h.1.1]
      have ew : F_M_wrong (up (up s 333 11 (nI (posI b n i))) 333 11 (nI (stF b n (posI b n i)))) (nI (posI b n i)) = up (up (up s 333 11 (nI (posI b n i))) 333 11 (nI (stF b n (posI b n i)))) 333 12 (nI (posI b n i)) := by
        unfold F_M_wrong
        rw [f2.1.2.2.2, if_pos rfl, bind_T]
      obtain ⟨k1, k2, k3⟩ := hh.flt (s1 := up (up (up s 333 11 (nI (posI b n i))) 333 11 (nI (stF b n (posI b n i)))) 333 12 (nI (posI b n i))) (stF_is (h.1.1.pos.2.mpr hi)).2 rfl
      refine Or.inr ⟨_, nI p, _, rfl, ?_, k1, k2, k3.trans (up_r (by omega))⟩
      rw [bind_T, ew]
    · rw [if_neg (fun e => c (nI_inj (by omega) (by omega) e)), if_neg (fun e => c (nI_inj (by omega) (by omega) e)), if_pos (rfl : (0 : Int32) = 0), f1, ob_s]
      exact Or.inl ⟨p, σ1, _, _, hp, c, rfl, rfl, f2⟩
  · obtain ⟨k1, k2, k3⟩ := hh.flt ha rfl
    refine Or.inr ⟨_, v, a', ?_, ?_, k1, k2, k3.trans (up_r (by omega))⟩
    · rw [e1, if_pos rfl, c_ref h.1.1]; rfl
    · rw [e2, ob_s, if_neg k2.ne]
/-- somebody who is free -/
theorem some_C (h : TW b n T g P M C i a σ s) :
    (∃ p σ1 z2 z3 s1 a1, p < P ∧ sp (tv σ 61) M (nI p) = -1 ∧ F_TTx_takeSomebody σ (-1) 1 = some (σ1, nI p) ∧ F_M_place s = some z2 ∧ F_M_who z2.1 = some (z3, nI p) ∧ F_M_free z3 (nI p) z2.2 = some s1 ∧ TW b n T g P M C (i + 1) a1 σ1 s1 ∧ σ1 54 12 = σ 54 12) ∨
    (∃ z2 z3 v s1 a', F_TTx_takeSomebody σ (-1) 1 = some (up σ 54 12 (nI (posI b n i)), -1) ∧ F_M_place s = some z2 ∧ F_M_who z2.1 = some (z3, v) ∧ F_M_free z3 v z2.2 = some s1 ∧ LFL b n g (up σ 54 12 (nI (posI b n i))) s1 ∧ FSt b n (posI b n i) a' s1 ∧ s1 334 = s 334) := by
  have hP := h.2.c1.1
  have hh := h.here
  unfold F_TTx_takeSomebody
  rw [bind_T, sy_place h.1]
  rcases tw_who hh with ⟨p, hp, hi, e1, e2⟩ | ⟨e1, a', v, ha, e2⟩
  · obtain ⟨σ1, f1, f2, f3⟩ := hh.next hi
    rw [e1, c_has h hp, if_neg (show ¬ (1 : Int32) = 0 by decide), if_neg (m1_ne p (by omega)), if_neg (show ¬ (1 : Int32) = 0 by decide), (q_sp h.2 (nI p)).1]
    have hT2 : TR (tv σ 61) ((up (up s 333 11 (nI (posI b n i))) 333 11 (nI (stF b n (posI b n i)))) 334) g P M C := h.2.keepM (by rw [up_r (by omega), up_r (by omega)])
    have ef : F_M_free (up (up s 333 11 (nI (posI b n i))) 333 11 (nI (stF b n (posI b n i)))) (nI p) (nI (posI b n i)) = if sp (tv σ 61) M (nI p) = -1 then some (up (up s 333 11 (nI (posI b n i))) 333 11 (nI (stF b n (posI b n i)))) else some (up (up (up s 333 11 (nI (posI b n i))) 333 11 (nI (stF b n (posI b n i)))) 333 12 (nI (posI b n i))) := by
      unfold F_M_free F_M_wrong
      rw [f2.1.2.2.2, if_pos rfl, (q_sp hT2 (nI p)).2, ob_s, if_pos rfl, bind_T, bind_T]
    by_cases c : sp (tv σ 61) M (nI p) = -1
    · rw [if_pos c] at ef
      rw [if_pos c, f1, ob_s]
      exact Or.inl ⟨p, σ1, _, _, _, _, hp, c, rfl, rfl, e2, ef, f2, f3 54 12 (by omega)⟩
    · rw [if_neg c] at ef
      rw [if_neg c, c_ref h.1.1]
      obtain ⟨k1, k2, k3⟩ := hh.flt (s1 := up (up (up s 333 11 (nI (posI b n i))) 333 11 (nI (stF b n (posI b n i)))) 333 12 (nI (posI b n i))) (stF_is (h.1.1.pos.2.mpr hi)).2 rfl
      exact Or.inr ⟨_, _, _, _, _, rfl, rfl, e2, ef, k1, k2, k3.trans (up_r (by omega))⟩
  · obtain ⟨k1, k2, k3⟩ := hh.flt ha rfl
    refine Or.inr ⟨_, _, _, _, a', ?_, rfl, e2, f_free k2 _ _, k1, k2, k3.trans (up_r (by omega))⟩
    rw [e1, if_pos rfl, c_ref h.1.1]; rfl
/-- somebody else who is free -/
theorem some_D (h : TW b n T g P M C i a σ s) {q : Nat} (hq : q < P) :
    (∃ p σ1 z2 z3 s1 a1, p < P ∧ p ≠ q ∧ sp (tv σ 61) M (nI p) = -1 ∧ F_TTx_takeSomebody σ (nI q) 1 = some (σ1, nI p) ∧ F_M_place s = some z2 ∧ F_M_other z2.1 (nI q) = some (z3, nI p) ∧ F_M_free z3 (nI p) z2.2 = some s1 ∧ TW b n T g P M C (i + 1) a1 σ1 s1) ∨
    (∃ z2 z3 v s1 a', F_TTx_takeSomebody σ (nI q) 1 = some (up σ 54 12 (nI (posI b n i)), -1) ∧ F_M_place s = some z2 ∧ F_M_other z2.1 (nI q) = some (z3, v) ∧ F_M_free z3 v z2.2 = some s1 ∧ LFL b n g (up σ 54 12 (nI (posI b n i))) s1 ∧ FSt b n (posI b n i) a' s1 ∧ s1 334 = s 334) := by
  have hP := h.2.c1.1
  have hh := h.here
  have hh2 := hh.here
  have eu : up (up s 333 11 (nI (posI b n i))) 333 11 (nI (posI b n i)) = up s 333 11 (nI (posI b n i)) := up_up
  unfold F_TTx_takeSomebody
  rw [bind_T, sy_place h.1]
  have eo : ∀ z v, F_M_who (up s 333 11 (nI (posI b n i))) = some (z, v) → F_M_other (up s 333 11 (nI (posI b n i))) (nI q) = (if (z 333 12) = (-1) then (if v = nI q then bindT (F_M_wrong z (nI (posI b n i))) fun z5 => some ((z5, v)) else some ((z, v))) else some ((z, v))) := fun z v hz => by
    unfold F_M_other
    rw [sy_place hh.1, ob_s, eu]
    dsimp only
    rw [hz, ob_s]
  rcases tw_who hh with ⟨p, hp, hi, e1, e2⟩ | ⟨e1, a', v, ha, e2⟩
  · obtain ⟨σ1, f1, f2, f3⟩ := hh.next hi
    have eo2 := eo _ _ e2
    rw [f2.1.2.2.2, if_pos rfl] at eo2
    have fl := hh.flt (s1 := up (up (up s 333 11 (nI (posI b n i))) 333 11 (nI (stF b n (posI b n i)))) 333 12 (nI (posI b n i))) (stF_is (h.1.1.pos.2.mpr hi)).2 rfl
    rw [e1, c_has h hp, if_neg (show ¬ (1 : Int32) = 0 by decide)]
    by_cases c0 : p = q
    · subst c0
      have ew : F_M_wrong (up (up s 333 11 (nI (posI b n i))) 333 11 (nI (stF b n (posI b n i)))) (nI (posI b n i)) = up (up (up s 333 11 (nI (posI b n i))) 333 11 (nI (stF b n (posI b n i)))) 333 12 (nI (posI b n i)) := by
        unfold F_M_wrong
        rw [f2.1.2.2.2, if_pos rfl, bind_T]
      rw [if_pos rfl, bind_T, ew] at eo2
      rw [if_pos rfl, c_ref h.1.1]
      obtain ⟨k1, k2, k3⟩ := fl
      exact Or.inr ⟨_, _, _, _, _, rfl, rfl, eo2, f_free k2 _ _, k1, k2, k3.trans (up_r (by omega))⟩
    · have c0' : ¬ nI p = nI q := fun e => c0 (nI_inj (by omega) (by omega) e)
      rw [if_neg c0'] at eo2
      rw [if_neg c0', if_neg (show ¬ (1 : Int32) = 0 by decide), (q_sp h.2 (nI p)).1]
      have hT2 : TR (tv σ 61) ((up (up s 333 11 (nI (posI b n i))) 333 11 (nI (stF b n (posI b n i)))) 334) g P M C := h.2.keepM (by rw [up_r (by omega), up_r (by omega)])
      have ef : F_M_free (up (up s 333 11 (nI (posI b n i))) 333 11 (nI (stF b n (posI b n i)))) (nI p) (nI (posI b n i)) = if sp (tv σ 61) M (nI p) = -1 then some (up (up s 333 11 (nI (posI b n i))) 333 11 (nI (stF b n (posI b n i)))) else some (up (up (up s 333 11 (nI (posI b n i))) 333 11 (nI (stF b n (posI b n i)))) 333 12 (nI (posI b n i))) := by
        unfold F_M_free F_M_wrong
        rw [f2.1.2.2.2, if_pos rfl, (q_sp hT2 (nI p)).2, ob_s, if_pos rfl, bind_T, bind_T]
      by_cases c : sp (tv σ 61) M (nI p) = -1
      · rw [if_pos c] at ef
        rw [if_pos c, f1, ob_s]
        exact Or.inl ⟨p, σ1, _, _, _, _, hp, c0, c, rfl, rfl, eo2, ef, f2⟩
      · rw [if_neg c] at ef
        rw [if_neg c, c_ref h.1.1]
        obtain ⟨k1, k2, k3⟩ := fl
        exact Or.inr ⟨_, _, _, _, _, rfl, rfl, eo2, ef, k1, k2, k3.trans (up_r (by omega))⟩
  · obtain ⟨k1, k2, k3⟩ := hh.flt ha rfl
    have eo2 := eo _ _ e2
    rw [if_neg k2.ne] at eo2
    refine Or.inr ⟨_, _, _, _, a', ?_, rfl, eo2, f_free k2 _ _, k1, k2, k3.trans (up_r (by omega))⟩
    rw [e1, if_pos rfl, c_ref h.1.1]; rfl
theorem num_H {high : Nat} (hh : high < 6000) : ∀ v, v < 10000 → (nI high < nI v ↔ high + 1 ≤ v) := fun v hv => ⟨fun h => Nat.not_lt.mp fun c => nI_nlt (show v ≤ high by omega) (by omega) h, fun h => nI_lt (by omega) (by omega)⟩
/-- a number, taken -/
theorem tw_num (h : TW b n T g P M C i a σ s) {high : Nat} (hh : high < 1000) :
    (∃ v σ1, v ≤ high ∧ F_Text_takeNumber σ 54 (nI high) = some (σ1, nI v) ∧ F_M_figures s 0 (nI high) = some (up s 333 11 (nI (stF b n (posI b n i))), nI v) ∧ TW b n T g P M C (i + 1) (stF b n (posI b n i)) σ1 (up s 333 11 (nI (stF b n (posI b n i))))) ∨
    (∃ s1 v a', F_Text_takeNumber σ 54 (nI high) = some (up σ 54 12 (nI (posI b n i)), -1) ∧ F_M_figures s 0 (nI high) = some (s1, v) ∧ LFL b n g (up σ 54 12 (nI (posI b n i))) s1 ∧ FSt b n (posI b n i) a' s1 ∧ s1 334 = s 334) := by
  rcases sy_num h.1 (v2 := nI high) (H := high + 1) (num_H (by omega)) (by omega) with ⟨v, hv, hi, e1, e2⟩ | ⟨e1, a', v, ha, e2⟩
  · obtain ⟨σ1, f1, f2, f3⟩ := h.next hi
    refine Or.inl ⟨v, σ1, by omega, ?_, e2, f2⟩
    rw [c_take h.1.1 (by omega) e1 (by omega) (by omega), f1, ob_s]
  · obtain ⟨k1, k2, k3⟩ := h.flt ha rfl
    exact Or.inr ⟨_, v, a', c_notake h.1.1 hh e1, e2, k1, k2, k3⟩
end TLN

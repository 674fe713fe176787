-- PURE STAGE: calls that only ask (3)
theorem forGO_inl {S X : Type} {F : Int32 → S → S} {F' : Int32 → S → Option (S ⊕ X)} : ∀ (n lo : Nat) (s : S), (∀ k s, k < n → F' (nI (lo + k)) s = some (.inl (F (nI (lo + k)) s))) → forGO F' n (nI lo) s = some (.inl (forS F n (nI lo) s)) := by
  intro n
  induction n with
  | zero => intro lo s _; rfl
  | succ n ih =>
    intro lo s h
    have h0 := h 0 s (by omega)
    rw [Nat.add_zero] at h0
    show obind (F' (nI lo) s) (fun y => contO y fun s' => forGO F' n (nI lo + 1) s') = some (.inl (forS F n (nI lo + 1) (F (nI lo) s)))
    rw [h0, ob_s, nI_1]
    exact ih (lo + 1) _ fun k s hk => by rw [show lo + 1 + k = lo + (k + 1) by omega]; exact h (k + 1) s (by omega)
theorem forGO_inr {S X : Type} {F' : Int32 → S → Option (S ⊕ X)} (hx : ∀ i s, ∃ x, F' i s = some (.inr x)) (n : Nat) (lo : Int32) (s : S) : ∃ z, forGO F' n lo s = some z := by
  cases n with
  | zero => exact ⟨_, rfl⟩
  | succ n =>
    obtain ⟨x, h⟩ := hx lo s
    exact ⟨.inr x, by show obind (F' lo s) _ = _; rw [h]; rfl⟩
section LOGS
variable {σ σ' : Mem} {g : Nat → Int32} {t P M C : Nat}
theorem q_rows (h : TR (tv σ t) (σ' 334) g P M C) : F_Town_logRows σ t = nI (min 60 C) ∧ σ' 334 11 = nI (min 60 C) := by
  have hC := h.c1.2.2
  refine ⟨?_, h.c3.2.2.2⟩
  unfold F_Town_logRows
  rw [show σ t 19 = nI C from h.c2.2.2, Nat.min_comm]
  exact nI_minB (a := C) (n := 60) (by omega) (by omega)
theorem q_logged (h : TR (tv σ t) (σ' 334) g P M C) {a c : Nat} (ha : a < min 60 C) (hc : c < 4) : F_M_logged σ' (nI a) (nI c) = some (F_Town_logged σ t (nI a) (nI c)) := by
  have hC := h.c1.2.2
  unfold F_M_logged F_Town_logged
  rw [show σ t 19 = nI C from h.c2.2.2, bind_T]
  have e1 : (210 : Int32) + 4 * nI a + nI c = nI (210 + 4 * a + c) := by
    rw [show (4 : Int32) * nI a = nI (4 * a) from pk_mul 4 a, show (210 : Int32) + nI (4 * a) = nI (210 + 4 * a) from nI_add 210 _, nI_add]
  have e2 : (nI C - 1 - nI a - (nI C - 1 - nI a) / 60 * 60) * 4 + nI c = nI (4 * ((C - 1 - a) % 60) + c) := by
    rw [show nI C - 1 = nI (C - 1) from pk_sub (b := 1) (by omega), pk_sub (by omega), show nI (C - 1 - a) - nI (C - 1 - a) / 60 * 60 = nI ((C - 1 - a) % 60) from pk_rem (d := 60) (by omega) (by decide) (by decide), show nI ((C - 1 - a) % 60) * 4 = nI ((C - 1 - a) % 60 * 4) from pk_mul _ 4, nI_add, Nat.mul_comm]
  rw [e1, e2, p_inb (by omega) (by decide), chk_t, p_cl (by omega), h.c15 a c ha hc, p_at (by omega) (by decide)]
  rfl
end LOGS
theorem cm_no {σ σ' : Mem} {g : Nat → Int32} {P M C : Nat} (h : TR (tv σ 3) (σ' 334) g P M C) {v : Int32} (hv : ∀ k, k < M → v ≠ nI k) : F_W_checkMatch σ v = .inl "java/lang/IndexOutOfBoundsException" := by
  have hM := h.c1.2.1
  unfold F_W_checkMatch
  by_cases h0 : v < 0
  · rw [if_pos h0]
  · rw [if_neg h0, show σ 3 10 = nI M from h.c2.2.1, if_neg]
    intro h1
    obtain ⟨j, hj, rfl⟩ := nI_of h0
    exact hv j ((p_lt hj (by omega)).mp h1) rfl
theorem cm_ok {σ σ' : Mem} {g : Nat → Int32} {P M C : Nat} (h : TR (tv σ 3) (σ' 334) g P M C) {k : Nat} (hk : k < M) : F_W_checkMatch σ (nI k) = .inr () := by
  have hM := h.c1.2.1
  unfold F_W_checkMatch
  rw [if_neg (nI_pos (by omega)), show σ 3 10 = nI M from h.c2.2.1, if_pos (nI_lt hk (by omega))]
section OPC
variable {g : Nat → Int32} {P M C i : Nat}
theorem ro37 {σ : Mem} (h : TR (tv σ 3) (σ 334) g P M C) (a1 a2 : Int32) : RO σ g P M C (H_led σ a1 a2) (fun σ' => F_M_led σ' a1 a2) := by
  have hM := h.c1.2.1
  have hC := h.c1.2.2
  have t10 : σ 3 10 = nI M := h.c2.2.1
  rcases pcase M a1 with ⟨k, hk, rfl⟩ | h1
  · have chk1 : F_W_checkMatch σ (nI k) = .inr () := by
      unfold F_W_checkMatch
      rw [if_neg (nI_pos (by omega)), t10, if_pos (nI_lt hk (by omega))]
    by_cases e : a2 = 0
    · refine Or.inr ⟨F_Town_loggedClaims σ 3 (nI k), ?_, fun σ' h' => ?_⟩
      · unfold H_led F_W_led
        rw [chk1]
        show sumE (if a2 = 0 then _ else _) _ _ = _
        rw [if_pos e]
        rfl
      · dsimp only
        unfold F_M_led
        rw [q_match h' hk, ob_s, if_neg (show ¬ (1 : Int32) = 0 by decide), bind_T, up_d (by omega), (q_rows h').2, p_cnt0 (by omega)]
        have h2 : TR (tv σ 3) ((up σ' 333 0 0) 334) g P M C := h'.keepM (up_r (by omega))
        unfold F_Town_loggedClaims
        rw [(q_rows h').1, p_cnt0 (by omega), bind_T]
        have e9 := forGO_inl (F := fun i s => F_Town_loggedClaims_4_b σ 3 (nI k) i s) (F' := fun i s => F_M_led_22_b (up σ' 333 0 0) (nI k) a2 i s) (min 60 C) 0 0 (fun a s ha => by
          rw [Nat.zero_add]
          unfold F_M_led_22_b F_Town_loggedClaims_4_b
          rw [up_s, if_pos rfl, show F_M_logged (up σ' 333 0 0) (nI a) 1 = _ from q_logged h2 ha (c := 1) (by omega), ob_s]
          show (if F_Town_logged σ 3 (nI a) 1 = nI k then _ else _) = some (Sum.inl (if F_Town_logged σ 3 (nI a) 1 = nI k then _ else _))
          by_cases c : F_Town_logged σ 3 (nI a) 1 = nI k
          · rw [if_pos c, if_pos c, if_pos e]; rfl
          · rw [if_neg c, if_neg c, bind_T, Int32.add_zero])
        rw [nI_0] at e9
        rw [e9]
        rfl
    · refine Or.inr ⟨F_Town_loggedPaid σ 3 (nI k), ?_, fun σ' h' => ?_⟩
      · unfold H_led F_W_led
        rw [chk1]
        show sumE (if a2 = 0 then _ else _) _ _ = _
        rw [if_neg e]
        rfl
      · dsimp only
        unfold F_M_led
        rw [q_match h' hk, ob_s, if_neg (show ¬ (1 : Int32) = 0 by decide), bind_T, up_d (by omega), (q_rows h').2, p_cnt0 (by omega)]
        have h2 : TR (tv σ 3) ((up σ' 333 0 0) 334) g P M C := h'.keepM (up_r (by omega))
        unfold F_Town_loggedPaid
        rw [(q_rows h').1, p_cnt0 (by omega), bind_T]
        have e9 := forGO_inl (F := fun i s => F_Town_loggedPaid_4_b σ 3 (nI k) i s) (F' := fun i s => F_M_led_22_b (up σ' 333 0 0) (nI k) a2 i s) (min 60 C) 0 0 (fun a s ha => by
          rw [Nat.zero_add]
          unfold F_M_led_22_b F_Town_loggedPaid_4_b
          rw [up_s, if_pos rfl, show F_M_logged (up σ' 333 0 0) (nI a) 1 = _ from q_logged h2 ha (c := 1) (by omega), ob_s]
          show (if F_Town_logged σ 3 (nI a) 1 = nI k then _ else _) = some (Sum.inl (if F_Town_logged σ 3 (nI a) 1 = nI k then _ else _))
          by_cases c : F_Town_logged σ 3 (nI a) 1 = nI k
          · rw [if_pos c, if_pos c, if_neg e, show F_M_logged (up σ' 333 0 0) (nI a) 2 = _ from q_logged h2 ha (c := 2) (by omega), ob_s]; rfl
          · rw [if_neg c, if_neg c, bind_T, Int32.add_zero])
        rw [nI_0] at e9
        rw [e9]
        rfl
  · refine Or.inl ⟨1, by decide, ?_, fun σ' h' => ?_⟩
    · unfold H_led F_W_led
      rw [cm_no h h1]; rfl
    · dsimp only
      unfold F_M_led
      rw [q_nomatch h' h1, ob_s, if_pos rfl, bind_T]
      obtain ⟨z, hz⟩ := forGO_inr (F' := fun i s => F_M_led_22_b (up σ' 333 0 1) a1 a2 i s) (fun i s => by
        unfold F_M_led_22_b
        rw [up_s, if_neg (by decide)]
        exact ⟨_, rfl⟩) (cnt 0 (up σ' 333 0 1 334 11)) 0 0
      rw [hz]
      exact ⟨_, rfl⟩
theorem op37 {σ : Mem} (h : INV i σ) (a1 a2 a3 a4 a5 : Int32) : ∃ σ', S_37 σ a1 a2 a3 a4 a5 = some σ' ∧ INV (i + 1) σ' := by
  obtain ⟨g, P, M, C, h⟩ := h
  unfold S_37
  by_cases e : a2 = 0
  · simp only [if_pos e]
    exact ro_ok (B := fun σ' => F_M_led σ' a1 0) h (ro37 h.1 a1 0)
  · simp only [if_neg e]
    exact ro_ok (B := fun σ' => F_M_led σ' a1 1) h (ro37 h.1 a1 1)
theorem isIn3 {σ : Mem} {k n : Nat} (m : Int32) (hm : m = nI n - 1) (hn : n < 6000) (hk : k < n) : F_M_isIn σ (nI k) 0 m = 1 := by rw [hm]; exact isIn_yes hk hn
theorem isIn3n {σ : Mem} {v : Int32} {n : Nat} (m : Int32) (hm : m = nI n - 1) (hn : n < 6000) (hv : ∀ k, k < n → v ≠ nI k) : F_M_isIn σ v 0 m = 0 := by rw [hm]; exact isIn_no hn hv
theorem between {v : Int32} {n : Nat} (hn : n < 2 ^ 31) (hv : ∀ k, k < n → v ≠ nI k) (h0 : ¬ v < 0) : ¬ v < nI n := by
  obtain ⟨j, hj, rfl⟩ := nI_of h0
  intro h
  exact hv j ((p_lt hj hn).mp h) rfl
theorem ro38 {σ : Mem} (h : TR (tv σ 3) (σ 334) g P M C) (a1 a2 : Int32) : RO σ g P M C (H_log σ a1 a2) (fun σ' => F_M_log σ' a1 a2) := by
  have hC := h.c1.2.2
  rcases pcase 4 a2 with ⟨c, hc, rfl⟩ | h1
  · have c1 : ∀ W, (if nI c < 0 then (Sum.inl "java/util/NoSuchElementException" : String ⊕ Int32) else (if nI c < 4 then W else (Sum.inl "java/util/NoSuchElementException"))) = W := fun W => by
      rw [if_neg (nI_pos (by omega)), if_pos (show nI c < 4 from nI_lt (b := 4) hc (by omega))]
    rcases pcase (min 60 C) a1 with ⟨a, ha, rfl⟩ | h2
    · refine Or.inr ⟨F_Town_logged σ 3 (nI a) (nI c), ?_, fun σ' h' => ?_⟩
      · unfold H_log F_W_log
        rw [c1, if_neg (nI_pos (by omega)), (q_rows h).1, if_pos (nI_lt ha (by omega))]
        rfl
      · dsimp only
        unfold F_M_log
        have h2 : TR (tv σ 3) ((up σ' 333 0 0) 334) g P M C := h'.keepM (up_r (by omega))
        rw [isIn3 (n := 4) 3 (by decide) (by decide) hc, if_neg (show ¬ (1 : Int32) = 0 by decide), bind_T, up_s, if_neg nlt00, up_d (by omega), (q_rows h').2, isIn3 (n := min 60 C) _ rfl (by omega) ha, if_neg (show ¬ (1 : Int32) = 0 by decide), q_logged h2 ha hc]
        rfl
    · refine Or.inr ⟨-1, ?_, fun σ' h' => ?_⟩
      · unfold H_log F_W_log
        rw [c1]
        by_cases h0 : a1 < 0
        · rw [if_pos h0]; rfl
        · rw [if_neg h0, (q_rows h).1, if_neg (between (by omega) h2 h0)]; rfl
      · dsimp only
        unfold F_M_log
        rw [isIn3 (n := 4) 3 (by decide) (by decide) hc, if_neg (show ¬ (1 : Int32) = 0 by decide), bind_T, up_s, if_neg nlt00, up_d (by omega), (q_rows h').2, isIn3n (n := min 60 C) _ rfl (by omega) h2, if_pos rfl]
  · refine Or.inl ⟨1, by decide, ?_, fun σ' h' => ?_⟩
    · unfold H_log F_W_log
      by_cases h0 : a2 < 0
      · rw [if_pos h0]; rfl
      · rw [if_neg h0, if_neg (show ¬ a2 < 4 from between (n := 4) (by decide) h1 h0)]; rfl
    · dsimp only
      unfold F_M_log
      rw [isIn3n (n := 4) 3 (by decide) (by decide) h1, if_pos rfl, bind_T, up_s, if_pos lt01]
      exact ⟨_, rfl⟩
theorem op38 {σ : Mem} (h : INV i σ) (a1 a2 a3 a4 a5 : Int32) : ∃ σ', S_38 σ a1 a2 a3 a4 a5 = some σ' ∧ INV (i + 1) σ' := by
  obtain ⟨g, P, M, C, h⟩ := h
  exact ro_ok (B := fun σ' => F_M_log σ' a1 a2) h (ro38 h.1 a1 a2)
end OPC

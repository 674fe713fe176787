-- PURE STAGE: calls that only ask
theorem bd3 {a b : Nat} (ha : a < 2 ^ 31) (hb : b < 2 ^ 31) (h : a ≤ b) : cnt (nI a) (nI b) = b - a := p_cnt hb ha
theorem or0 (x : Int32) : x ||| 0 = x := b_ext fun i hi => by rw [b_or, b_0, Bool.or_false]
theorem forS_0 {S : Type} {F : Int32 → S → S} {n : Nat} {s : S} : forS F n 0 s = itr (fun k s => F (nI (0 + k)) s) n s := forS_itr n 0 s
theorem forSO_0 {S : Type} {F : Int32 → S → Option S} {n : Nat} {s : S} (g : Nat → S → S) (h : ∀ k, k < n → F (nI k) (itr g k s) = some (g k (itr g k s))) : forSO F n 0 s = some (itr g n s) := forSO_itr n 0 s g (fun k hk => by rw [Nat.zero_add]; exact h k hk)
/-- the same loop on both sides, the class's never failing -/
theorem for_eq {S : Type} {F : Int32 → S → S} {F' : Int32 → S → Option S} (I : S → Prop) {n : Nat} {s : S} (h0 : I s) (h : ∀ k s, k < n → I s → F' (nI k) s = some (F (nI k) s) ∧ I (F (nI k) s)) : forSO F' n 0 s = some (forS F n 0 s) ∧ I (forS F n 0 s) := by
  rw [forS_0]
  have hI : ∀ k, k ≤ n → I (itr (fun k s => F (nI (0 + k)) s) k s) := by
    intro k hk
    induction k with
    | zero => exact h0
    | succ k ih =>
      have h1 := (h k _ (by omega) (ih (by omega))).2
      rw [itr_step, Nat.zero_add]
      exact h1
  refine ⟨forSO_0 _ fun k hk => ?_, hI n (Nat.le_refl n)⟩
  have h1 := (h k _ hk (hI k (by omega))).1
  rw [h1, Nat.zero_add]
theorem for_eqT {S : Type} {F : Int32 → S → S} {F' : Int32 → S → Option S} {n : Nat} {s : S} (h : ∀ k s, k < n → F' (nI k) s = some (F (nI k) s)) : forSO F' n 0 s = some (forS F n 0 s) := (for_eq (fun _ => True) trivial fun k s hk _ => ⟨h k s hk, trivial⟩).1
section ASK
variable {σ σ' : Mem} {g : Nat → Int32} {t P M C : Nat}
theorem q_wed (h : TR (tv σ t) (σ' 334) g P M C) (v : Int32) : F_Town_isWed σ t v = (if sp (tv σ t) M v = -1 then 0 else 1) := by
  unfold F_Town_isWed
  rw [(q_sp h v).1]
theorem q_better (h : TR (tv σ t) (σ' 334) g P M C) {p a b : Nat} (hp : p < P) (ha : a < P) (hb : b < P) : F_Prs_isBetter σ t (nI p) (nI a) (nI b) = (if 0 < bcn (ins (tv σ t) P p a) - bcn (ins (tv σ t) P p b) then 1 else if bcn (ins (tv σ t) P p a) - bcn (ins (tv σ t) P p b) = 0 then (if tv σ t 8 (8 * p + b) < tv σ t 8 (8 * p + a) then 1 else 0) else 0) := by
  have hP := h.c1.1
  unfold F_Prs_isBetter
  rw [(q_ins h hp ha).1, (q_ins h hp hb).1, bind_T, t_liking (by omega) (by omega), t_liking (by omega) (by omega)]
  rfl
theorem q_best (h : TR (tv σ t) (σ' 334) g P M C) {p : Nat} (hp : p < P) : forSO (fun i s => F_M_best_30_b σ' (nI p) i s) (cnt 0 (σ' 334 3)) 0 (-1) = some (F_Prs_bestFor σ t (nI p)) := by
  have hP := h.c1.1
  unfold F_Prs_bestFor
  rw [show σ' 334 3 = nI P from h.c3.1, show σ t 8 = nI P from h.c2.1, p_cnt0 (by omega), q_wed h, bind_T]
  by_cases hw : sp (tv σ t) M (nI p) = -1
  · rw [if_pos hw, if_pos (show (0 : Int32) = 0 from rfl)]
    refine (for_eq (fun v => v = -1 ∨ ∃ o, o < P ∧ v = nI o) (Or.inl rfl) fun k s hk hs => ?_).1
    unfold F_M_best_30_b F_Prs_bestFor_15_b
    by_cases e : nI k = nI p
    · rw [if_pos e, if_pos e]
      exact ⟨rfl, hs⟩
    · rw [if_neg e, if_neg e, (q_sp h _).2, ob_s, if_pos hw, (q_sp h _).2, ob_s, q_wed h]
      by_cases hk1 : sp (tv σ t) M (nI k) = -1
      · rw [if_pos hk1, if_pos hk1, if_pos (show (0 : Int32) = 0 from rfl)]
        rcases hs with rfl | ⟨o, ho, rfl⟩
        · rw [if_pos rfl, if_pos rfl]
          exact ⟨rfl, Or.inr ⟨k, hk, rfl⟩⟩
        · rw [if_neg (m1_ne o (by omega)), if_neg (m1_ne o (by omega)), q_better h hp hk ho, (q_ins h hp hk).2, ob_s, (q_ins h hp ho).2, ob_s, bind_T, bits_eq (σ := z0) (ins_small hP), bits_eq (σ := z0) (ins_small hP), m_likes (by omega), ob_s, m_likes (by omega), ob_s, h.c10 p k hp hk, h.c10 p o hp ho]
          show (if 0 < bcn (ins (tv σ t) P p k) - bcn (ins (tv σ t) P p o) then _ else _) = _ ∧ _
          by_cases c1 : 0 < bcn (ins (tv σ t) P p k) - bcn (ins (tv σ t) P p o)
          · rw [if_pos c1, if_pos c1, if_neg (by decide)]
            exact ⟨rfl, Or.inr ⟨k, hk, rfl⟩⟩
          · rw [if_neg c1, if_neg c1]
            show (if bcn (ins (tv σ t) P p k) - bcn (ins (tv σ t) P p o) = 0 then _ else _) = _ ∧ _
            by_cases c2 : bcn (ins (tv σ t) P p k) - bcn (ins (tv σ t) P p o) = 0
            · rw [if_pos c2, if_pos c2]
              by_cases c3 : tv σ t 8 (8 * p + o) < tv σ t 8 (8 * p + k)
              · rw [if_pos c3, if_pos c3, if_neg (by decide)]
                exact ⟨rfl, Or.inr ⟨k, hk, rfl⟩⟩
              · rw [if_neg c3, if_neg c3, if_pos rfl]
                exact ⟨rfl, Or.inr ⟨o, ho, rfl⟩⟩
            · rw [if_neg c2, if_neg c2, if_pos rfl]
              exact ⟨rfl, Or.inr ⟨o, ho, rfl⟩⟩
      · rw [if_neg hk1, if_neg hk1, if_neg (by decide)]
        exact ⟨rfl, hs⟩
  · rw [if_neg hw, if_neg (by decide)]
    refine (forSO_0 (fun _ s => s) fun k hk => ?_).trans ?_
    · have hid : ∀ n, itr (fun (_ : Nat) (s : Int32) => s) n (-1) = -1 := by
        intro n
        induction n with
        | zero => rfl
        | succ n ih => exact ih
      rw [hid]
      unfold F_M_best_30_b
      by_cases e : nI k = nI p
      · rw [if_pos e]
      · rw [if_neg e, (q_sp h _).2, ob_s, if_neg hw]
    · have hid : ∀ n, itr (fun (_ : Nat) (s : Int32) => s) n (-1) = -1 := by
        intro n
        induction n with
        | zero => rfl
        | succ n ih => exact ih
      rw [hid]
theorem q_pref (h : TR (tv σ t) (σ' 334) g P M C) {p : Nat} (hp : p < P) : F_M_ratherOf σ' (nI p) = some (F_Prs_preferred σ t (nI p)) := by
  have hP := h.c1.1
  unfold F_M_ratherOf F_Prs_preferred
  have key : ∀ x : Int32, forSO (fun i s => F_M_ratherOf_29_b σ' (nI p) x i s) P 0 0 = some (forS (fun i s => F_Prs_preferred_29_b σ t (nI p) (sp (tv σ t) M (nI p)) x i s) P 0 0) := by
    intro x
    refine for_eqT fun k s hk => ?_
    unfold F_M_ratherOf_29_b F_Prs_preferred_29_b
    by_cases e : nI k = nI p
    · rw [if_pos e, if_pos e, bind_T, or0]
    · rw [if_neg e, if_neg e, m_likes (by omega), ob_s, h.c10 p k hp hk, t_liking (by omega) (by omega)]
      show (if x < tv σ t 8 (8 * p + k) then _ else _) = some (if x < tv σ t 8 (8 * p + k) then _ else _)
      by_cases c : x < tv σ t 8 (8 * p + k)
      · rw [if_pos c, if_pos c]; rfl
      · rw [if_neg c, if_neg c, bind_T, or0]
  rw [(q_sp h _).2, ob_s, (q_sp h _).1, bind_T, show σ' 334 3 = nI P from h.c3.1, show σ t 8 = nI P from h.c2.1, p_cnt0 (by omega)]
  by_cases c : sp (tv σ t) M (nI p) = -1
  · rw [if_pos c, if_pos c, key 0]; rfl
  · rw [if_neg c, if_neg c]
    rcases q_spR h (nI p) with h1 | ⟨o, ho, h1⟩
    · exact absurd h1 c
    · rw [ob_s]
      have k1 := key (tv σ t 8 (8 * p + o))
      rw [h1] at k1 ⊢
      rw [m_likes (by omega), ob_s, h.c10 p o hp ho, k1, t_liking (by omega) (by omega)]
      rfl
end ASK
section OPB
variable {σ σ' : Mem} {g : Nat → Int32} {P M C i : Nat}
theorem op16 (h : INV i σ) (a1 a2 a3 a4 a5 : Int32) : ∃ σ', S_16 σ a1 a2 a3 a4 a5 = some σ' ∧ INV (i + 1) σ' := by
  obtain ⟨g, P, M, C, h⟩ := h
  refine ro_ok (B := fun σ' => F_M_best σ' a1) h (ro_one h.1 (W := F_Prs_bestFor σ 3 a1) (V := fun σ3 a1 => forSO (fun i s => F_M_best_30_b σ3 a1 i s) (cnt 0 ((σ3 334 3))) 0 (-1)) fun p hp e1 σ' h' => ?_)
  subst e1
  exact q_best h' hp
theorem op28 (h : INV i σ) (a1 a2 a3 a4 a5 : Int32) : ∃ σ', S_28 σ a1 a2 a3 a4 a5 = some σ' ∧ INV (i + 1) σ' := by
  obtain ⟨g, P, M, C, h⟩ := h
  refine ro_ok (B := fun σ' => F_M_rather σ' a1) h (ro_one h.1 (W := F_Prs_preferred σ 3 a1) (V := F_M_ratherOf) fun p hp e1 σ' h' => ?_)
  subst e1
  exact q_pref h' hp
end OPB

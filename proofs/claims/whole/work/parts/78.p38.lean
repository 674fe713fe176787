-- PURE STAGE: who leans, rings counted
theorem fnd_first {nx : Nat → Nat} {p : Nat} : ∀ (d x s r : Nat), fnd nx p d x s = some r → p ≠ 1000 ∧ ∃ t, t < d ∧ wk nx x t = p ∧ ∀ u, u < t → wk nx x u ≠ p ∧ wk nx x u ≠ 1000 := by
  intro d
  induction d with
  | zero => intro x s r h; cases h
  | succ d ih =>
    intro x s r h
    rw [fnd_s] at h
    by_cases c : x = 1000
    · rw [if_pos c] at h; cases h
    · rw [if_neg c] at h
      by_cases c2 : x = p
      · exact ⟨c2 ▸ c, 0, by omega, c2, fun u hu => by omega⟩
      · rw [if_neg c2] at h
        obtain ⟨h0, t, h1, h2, h3⟩ := ih _ _ _ h
        refine ⟨h0, t + 1, by omega, by rw [← wk_sh]; exact h2, fun u hu => ?_⟩
        cases u with
        | zero => exact ⟨c2, c⟩
        | succ u => rw [← wk_sh]; exact h3 u (by omega)
theorem fnd_is {nx : Nat → Nat} {p : Nat} (hp : p ≠ 1000) : ∀ (d x s t : Nat), t < d → wk nx x t = p → (∀ u, u < t → wk nx x u ≠ 1000) → ∃ r, fnd nx p d x s = some r := by
  intro d
  induction d with
  | zero => intro x s t h; omega
  | succ d ih =>
    intro x s t ht h1 h2
    rw [fnd_s]
    cases t with
    | zero =>
      have h3 : x = p := h1
      rw [if_neg (by omega), if_pos h3]
      exact ⟨_, rfl⟩
    | succ t =>
      have h3 : x ≠ 1000 := h2 0 (by omega)
      rw [if_neg h3]
      by_cases c : x = p
      · rw [if_pos c]; exact ⟨_, rfl⟩
      · rw [if_neg c]
        exact ih _ _ t (by omega) (by rw [wk_sh]; exact h1) (fun u hu => by rw [wk_sh]; exact h2 (u + 1) (by omega))
def lst (nx : Nat → Nat) (p : Nat) : Nat → Nat → Bool
  | 0, _ => true
  | d + 1, x => if x = 1000 then true else if x = p then true else if x < p then false else lst nx p d (nx x)
theorem lst_s {nx : Nat → Nat} {p d x : Nat} : lst nx p (d + 1) x = if x = 1000 then true else if x = p then true else if x < p then false else lst nx p d (nx x) := rfl
theorem lst_is {nx : Nat → Nat} {p : Nat} (hp : p ≠ 1000) : ∀ (d x t : Nat), t < d → wk nx x t = p → (∀ u, u < t → wk nx x u ≠ p ∧ wk nx x u ≠ 1000) → (lst nx p d x = false ↔ ∃ u, u < t ∧ wk nx x u < p) := by
  intro d
  induction d with
  | zero => intro x t h; omega
  | succ d ih =>
    intro x t ht h1 h2
    rw [lst_s]
    cases t with
    | zero =>
      have h3 : x = p := h1
      rw [if_neg (by omega), if_pos h3]
      constructor
      · intro h
        cases h
      · intro h
        obtain ⟨u, hu, -⟩ := h
        omega
    | succ t =>
      obtain ⟨h3, h4⟩ := h2 0 (by omega)
      have h3 : ¬ x = p := h3
      have h4 : ¬ x = 1000 := h4
      rw [if_neg h4, if_neg h3]
      by_cases c : x < p
      · rw [if_pos c]
        exact ⟨fun _ => ⟨0, by omega, c⟩, fun _ => rfl⟩
      · rw [if_neg c, ih _ t (by omega) (by rw [wk_sh]; exact h1) (fun u hu => by rw [wk_sh]; exact h2 (u + 1) (by omega))]
        constructor
        · intro ⟨u, h5, h6⟩
          exact ⟨u + 1, by omega, by rw [← wk_sh]; exact h6⟩
        · intro ⟨u, h5, h6⟩
          cases u with
          | zero => exact absurd h6 c
          | succ u => exact ⟨u, by omega, by rw [wk_sh]; exact h6⟩
def anF (nx : Nat → Nat) (x : Nat) : Nat → Nat → Bool
  | 0, _ => false
  | d + 1, lo => (fnd nx lo 8 x 1).isSome || anF nx x d (lo + 1)
theorem anF_is {nx : Nat → Nat} {x : Nat} : ∀ (d lo : Nat), anF nx x d lo = true ↔ ∃ o, lo ≤ o ∧ o < lo + d ∧ (fnd nx o 8 x 1).isSome = true := by
  intro d
  induction d with
  | zero => intro lo; exact ⟨fun h => (by cases h), fun ⟨o, h1, h2, _⟩ => by omega⟩
  | succ d ih =>
    intro lo
    show ((fnd nx lo 8 x 1).isSome || anF nx x d (lo + 1)) = true ↔ _
    rw [Bool.or_eq_true, ih]
    constructor
    · intro h
      rcases h with h | ⟨o, h1, h2, h3⟩
      · exact ⟨lo, by omega, by omega, h⟩
      · exact ⟨o, by omega, by omega, h3⟩
    · intro ⟨o, h1, h2, h3⟩
      by_cases c : o = lo
      · subst c; exact Or.inl h3
      · exact Or.inr ⟨o, by omega, by omega, h3⟩
theorem lst_an {nx : Nat → Nat} {p P r : Nat} (hP : P ≤ 8) (hp : p < P) (h : fnd nx p P (nx p) 1 = some r) : lst nx p P (nx p) = !(anF nx (nx p) p 0) := by
  obtain ⟨h0, t, h1, h2, h3⟩ := fnd_first _ _ _ _ h
  have h4 := lst_is h0 P (nx p) t h1 h2 h3
  have hb := wk_back (nx := nx) (x := nx p) (i := 0) (j := t + 1) (by omega) (by show nx p = nx (wk nx (nx p) t); rw [h2])
  have key : anF nx (nx p) p 0 = true ↔ ∃ u, u < t ∧ wk nx (nx p) u < p := by
    rw [anF_is]
    constructor
    · intro hx
      obtain ⟨o, -, h5, h6⟩ := hx
      obtain ⟨r2, h7⟩ := Option.isSome_iff_exists.mp h6
      obtain ⟨-, t2, h8, h9, -⟩ := fnd_first _ _ _ _ h7
      obtain ⟨u, h10, h11⟩ := hb t2
      refine ⟨u, ?_, by omega⟩
      by_cases c : u = t
      · subst c; omega
      · omega
    · intro ⟨u, h5, h6⟩
      obtain ⟨r2, h7⟩ := fnd_is (nx := nx) (p := wk nx (nx p) u) (by omega) 8 (nx p) 1 u (by omega) rfl (fun v hv => (h3 v (by omega)).2)
      exact ⟨wk nx (nx p) u, by omega, by omega, by rw [h7]; rfl⟩
  cases ha : anF nx (nx p) p 0 with
  | true => rw [h4.mpr (key.mp ha)]; rfl
  | false =>
    cases hl : lst nx p P (nx p) with
    | true => rfl
    | false => rw [key.mpr (h4.mp hl)] at ha; cases ha
section LEA
variable {σ σ' : Mem} {g : Nat → Int32} {t P M C i : Nat}
theorem c_lea (h : TR (tv σ t) (σ' 334) g P M C) {p : Nat} (hp : p < P) : ∀ (d s x : Nat) (a : Int32), d + s = P + 1 → (x < P ∨ x = 1000) → ∀ fuel, d < fuel → ∃ y, whl (fun s => F_Town_comesTo_12_b σ t a (nI p) s.1 s.2) fuel (enc x, nI s) = some y ∧ sumE y (fun _ => some 0) (fun r => some r) = some (o1 (fnd (nxt (tv σ t) P) p d x s)) := by
  have hP := h.c1.1
  have t8 : σ t 8 = nI P := h.c2.1
  intro d
  induction d with
  | zero =>
    intro s x a hs _ fuel hf
    obtain ⟨f2, rfl⟩ : ∃ f2, fuel = f2 + 1 := ⟨fuel - 1, by omega⟩
    refine ⟨.inl (enc x, nI s), whl_r ?_, rfl⟩
    unfold F_Town_comesTo_12_b
    dsimp only
    rw [t8, if_pos (nI_lt (by omega) (by omega))]
  | succ d ih =>
    intro s x a hs hx fuel hf
    obtain ⟨f2, rfl⟩ : ∃ f2, fuel = f2 + 1 := ⟨fuel - 1, by omega⟩
    rw [fnd_s]
    by_cases c : x = 1000
    · rw [if_pos c]
      refine ⟨.inl (enc x, nI s), whl_r ?_, rfl⟩
      unfold F_Town_comesTo_12_b
      dsimp only
      rw [t8, if_neg (nI_nlt (by omega) (by omega)), if_pos ((enc_m1 (by omega)).mpr c)]
    · rw [if_neg c]
      by_cases c2 : x = p
      · rw [if_pos c2]
        refine ⟨.inr 1, whl_r ?_, rfl⟩
        unfold F_Town_comesTo_12_b
        dsimp only
        rw [t8, if_neg (nI_nlt (by omega) (by omega)), if_neg (fun e => c ((enc_m1 (by omega)).mp e)), if_pos ((enc_p (by omega) (by omega)).mpr c2)]
      · rw [if_neg c2]
        have hx2 : x < P := hx.resolve_right c
        obtain ⟨e1, e2⟩ := nxt_ok h hx2
        obtain ⟨y, h1, h2⟩ := ih (s + 1) (nxt (tv σ t) P x) a (by omega) e2 f2 (by omega)
        refine ⟨y, Eq.trans (whl_l ?_) h1, h2⟩
        unfold F_Town_comesTo_12_b
        dsimp only
        rw [t8, if_neg (nI_nlt (by omega) (by omega)), if_neg (fun e => c ((enc_m1 (by omega)).mp e)), if_neg (fun e => c2 ((enc_p (by omega) (by omega)).mp e)), enc_n (by omega), t_reins (by omega), e1, bind_T, bind_T, nI_1]
theorem c_comes (h : TR (tv σ t) (σ' 334) g P M C) {a p : Nat} (ha : a < P) (hp : p < P) : F_Town_comesTo σ t (nI a) (nI p) = some (o1 (fnd (nxt (tv σ t) P) p 8 (nxt (tv σ t) P a) 1)) := by
  have hP := h.c1.1
  obtain ⟨e1, e2⟩ := nxt_ok h ha
  obtain ⟨y, h1, h2⟩ := c_lea h hp P 1 (nxt (tv σ t) P a) (nI a) (by omega) e2 FUEL (by unfold FUEL; omega)
  unfold F_Town_comesTo
  rw [t_reins (by omega), e1, bind_T, show (1 : Int32) = nI 1 by decide, h1, ob_s, ← fnd_P 1 hP hp e2 (fun v hv => (nxt_ok h hv).2)]
  exact h2
theorem m_le (h : TR (tv σ t) (σ' 334) g P M C) {p : Nat} (hp : p < P) (a : Int32) : ∀ (d s x : Nat), (x < P ∨ x = 1000) → ∃ y, omap mrg2 (forGO (fun i s => F_M_leads_10_b σ' a (nI p) i s) d (nI s) (enc x)) = some y ∧ sumE y (fun _ => some 0) (fun r => some r) = some (o1 (fnd (nxt (tv σ t) P) p d x s)) := by
  have hP := h.c1.1
  intro d
  induction d with
  | zero => intro s x _; exact ⟨_, rfl, rfl⟩
  | succ d ih =>
    intro s x hx
    rw [fnd_s]
    show ∃ y, omap mrg2 (obind (F_M_leads_10_b σ' a (nI p) (nI s) (enc x)) fun y => contO y fun s' => forGO _ d (nI s + 1) s') = some y ∧ _
    unfold F_M_leads_10_b
    by_cases c : x = 1000
    · rw [if_pos c, if_pos ((enc_m1 (by omega)).mpr c), ob_s]
      exact ⟨_, rfl, rfl⟩
    · rw [if_neg c, if_neg (fun e => c ((enc_m1 (by omega)).mp e))]
      by_cases c2 : x = p
      · rw [if_pos c2, if_pos ((enc_p (by omega) (by omega)).mpr c2), ob_s]
        exact ⟨_, rfl, rfl⟩
      · have hx2 : x < P := hx.resolve_right c
        obtain ⟨e1, e2⟩ := nxt_ok h hx2
        rw [if_neg c2, if_neg (fun e => c2 ((enc_p (by omega) (by omega)).mp e)), enc_n (by omega), m_of2 (by omega), ob_s, ob_s, (h.c6 x hx2).2.2.1, nI_1]
        obtain ⟨y, h1, h2⟩ := ih (s + 1) (nxt (tv σ t) P x) e2
        refine ⟨y, ?_, h2⟩
        rw [show tv σ t 6 x = enc (nxt (tv σ t) P x) from e1]
        exact h1
theorem m_leads (h : TR (tv σ t) (σ' 334) g P M C) {a p : Nat} (ha : a < P) (hp : p < P) : F_M_leads σ' (nI a) (nI p) = some (o1 (fnd (nxt (tv σ t) P) p 8 (nxt (tv σ t) P a) 1)) := by
  have hP := h.c1.1
  obtain ⟨e1, e2⟩ := nxt_ok h ha
  obtain ⟨y, h1, h2⟩ := m_le h hp (nI a) 8 1 (nxt (tv σ t) P a) e2
  unfold F_M_leads
  rw [m_of2 (by omega), ob_s, (h.c6 a ha).2.2.1, show tv σ t 6 a = enc (nxt (tv σ t) P a) from e1, show (1 : Int32) = nI 1 by decide, show cle (nI 1) 8 = 8 by decide, h1, ob_s]
  exact h2
/-- a loop that never stops -/
theorem forGO_all {S X : Type} {F : Int32 → S → Option (S ⊕ X)} (f : Nat → S → S) : ∀ (n lo : Nat) (s : S), (∀ k s, lo ≤ k → k < lo + n → F (nI k) s = some (.inl (f k s))) → forGO F n (nI lo) s = some (.inl (itr (fun k => f (lo + k)) n s)) := by
  intro n
  induction n with
  | zero => intro lo s _; rfl
  | succ n ih =>
    intro lo s h
    rw [itr_sh]
    show obind (F (nI lo) s) (fun y => contO y fun s' => forGO F n (nI lo + 1) s') = _
    rw [h lo s (by omega) (by omega), ob_s, nI_1]
    show forGO F n (nI (lo + 1)) (f lo s) = _
    rw [ih (lo + 1) _ (fun k s h1 h2 => h k s (by omega) (by omega))]
    congr 3
    funext k
    rw [show lo + 1 + k = lo + (k + 1) by omega]
def leS (T : Nat → Nat → Int32) (P p : Nat) : Int32 := sOf (fun o => (fnd (nxt T P) p 8 (nxt T P o) 1).isSome) P
theorem or_0 (x : Int32) : x ||| 0 = x := b_ext fun i hi => by rw [b_or, b_0, Bool.or_false]
theorem c_leans (h : TR (tv σ t) (σ' 334) g P M C) {p : Nat} (hp : p < P) : F_Town_leaners σ t (nI p) = some (leS (tv σ t) P p) := by
  have hP := h.c1.1
  have t8 : σ t 8 = nI P := h.c2.1
  unfold F_Town_leaners
  rw [t8, p_cnt0 (by omega)]
  have e := forSO_itr (F := fun i s => F_Town_leaners_4_b σ t (nI p) i s) P 0 0 (fun k s => if (fnd (nxt (tv σ t) P) p 8 (nxt (tv σ t) P k) 1).isSome = true then s ||| ((1 : Int32) <<< (nI k &&& 31)) else s) (fun o ho => by
    generalize itr _ o (0 : Int32) = x
    rw [Nat.zero_add]
    unfold F_Town_leaners_4_b
    rw [c_comes h ho hp, ob_s]
    cases fnd (nxt (tv σ t) P) p 8 (nxt (tv σ t) P o) 1 <;> rfl)
  rw [nI_0] at e
  rw [e]
  rfl
theorem m_leans_ (h : TR (tv σ t) (σ' 334) g P M C) {p : Nat} (hp : p < P) (h0 : σ' 333 0 = 0) : omap mrg (forGO (fun i s => F_M_leans_21_b σ' (nI p) i s) (cnt 0 (σ' 334 3)) 0 0) = some (leS (tv σ t) P p) := by
  have hP := h.c1.1
  rw [show σ' 334 3 = nI P from h.c3.1, p_cnt0 (by omega)]
  have e := forGO_all (F := fun i s => F_M_leans_21_b σ' (nI p) i s) (fun k s => if (fnd (nxt (tv σ t) P) p 8 (nxt (tv σ t) P k) 1).isSome = true then s ||| ((1 : Int32) <<< (nI k &&& 31)) else s) P 0 0 (fun o x _ ho => by
    unfold F_M_leans_21_b
    rw [h0, if_pos rfl, m_leads h (by omega) hp, ob_s, or_0]
    cases fnd (nxt (tv σ t) P) p 8 (nxt (tv σ t) P o) 1 <;> rfl)
  rw [nI_0] at e
  rw [e]
  unfold leS sOf
  show some (itr _ P 0) = _
  congr 2
  funext k
  rw [Nat.zero_add]
theorem op26 (h : INV i σ) (a1 a2 a3 a4 a5 : Int32) : ∃ σ', S_26 σ a1 a2 a3 a4 a5 = some σ' ∧ INV (i + 1) σ' := by
  obtain ⟨g, P, M, C, h⟩ := h
  have hP := h.1.c1.1
  refine ro_ok (B := fun σ' => F_M_leans σ' a1) h ?_
  rcases pcase P a1 with ⟨p, hp, rfl⟩ | h1
  · refine Or.inr ⟨leS (tv σ 3) P p, ?_, fun σ' h' => ?_⟩
    · unfold H_leans F_W_leans
      rw [cp_ok h.1 hp, c_leans h.1 hp]
      rfl
    · have h2 : TR (tv σ 3) ((up σ' 333 0 0) 334) g P M C := h'.keepM (up_r (by omega))
      dsimp only
      unfold F_M_leans
      rw [(q_pers h' hp).2, ob_s, if_neg (show ¬ (1 : Int32) = 0 by decide), bind_T, m_leans_ h2 hp up_s, ob_s]
  · refine Or.inl ⟨1, by decide, ?_, fun σ' h' => ?_⟩
    · unfold H_leans F_W_leans
      rw [cp_no h.1 h1]; rfl
    · dsimp only
      unfold F_M_leans
      rw [(q_nopers h' h1).2, ob_s, if_pos rfl, bind_T]
      cases cnt 0 (up σ' 333 0 1 334 3) with
      | zero => exact ⟨_, rfl⟩
      | succ d =>
        have e : F_M_leans_21_b (up σ' 333 0 1) a1 0 0 = some (.inr 0) := by
          unfold F_M_leans_21_b
          rw [up_s, if_neg (by decide)]
        have e2 : forGO (fun i s => F_M_leans_21_b (up σ' 333 0 1) a1 i s) (d + 1) 0 0 = some (.inr 0) := by
          show obind (F_M_leans_21_b (up σ' 333 0 1) a1 0 0) _ = _
          rw [e]; rfl
        rw [e2]
        exact ⟨_, rfl⟩
theorem c_ls (h : TR (tv σ t) (σ' 334) g P M C) {p : Nat} (hp : p < P) : ∀ (d s x : Nat), d + s = P + 1 → (x < P ∨ x = 1000) → ∀ fuel, d < fuel → ∃ y, whl (fun s => F_Town_isLeastOfRing_11_b σ t (nI p) s.1 s.2) fuel (enc x, nI s) = some y ∧ sumE y (fun _ => some 1) (fun r => some r) = some (if lst (nxt (tv σ t) P) p d x = true then (1 : Int32) else 0) := by
  have hP := h.c1.1
  have t8 : σ t 8 = nI P := h.c2.1
  intro d
  induction d with
  | zero =>
    intro s x hs _ fuel hf
    obtain ⟨f2, rfl⟩ : ∃ f2, fuel = f2 + 1 := ⟨fuel - 1, by omega⟩
    refine ⟨.inl (enc x, nI s), whl_r ?_, rfl⟩
    unfold F_Town_isLeastOfRing_11_b
    dsimp only
    rw [t8, if_pos (nI_lt (by omega) (by omega))]
  | succ d ih =>
    intro s x hs hx fuel hf
    obtain ⟨f2, rfl⟩ : ∃ f2, fuel = f2 + 1 := ⟨fuel - 1, by omega⟩
    rw [lst_s]
    by_cases c : x = 1000
    · rw [if_pos c]
      refine ⟨.inl (enc x, nI s), whl_r ?_, rfl⟩
      unfold F_Town_isLeastOfRing_11_b
      dsimp only
      rw [t8, if_neg (nI_nlt (by omega) (by omega)), if_pos ((enc_m1 (by omega)).mpr c)]
    · rw [if_neg c]
      by_cases c2 : x = p
      · rw [if_pos c2]
        refine ⟨.inl (enc x, nI s), whl_r ?_, rfl⟩
        unfold F_Town_isLeastOfRing_11_b
        dsimp only
        rw [t8, if_neg (nI_nlt (by omega) (by omega)), if_neg (fun e => c ((enc_m1 (by omega)).mp e)), if_pos ((enc_p (by omega) (by omega)).mpr c2)]
      · rw [if_neg c2]
        have hx2 : x < P := hx.resolve_right c
        obtain ⟨e1, e2⟩ := nxt_ok h hx2
        by_cases c3 : x < p
        · rw [if_pos c3]
          refine ⟨.inr 0, whl_r ?_, rfl⟩
          unfold F_Town_isLeastOfRing_11_b
          dsimp only
          rw [t8, if_neg (nI_nlt (by omega) (by omega)), if_neg (fun e => c ((enc_m1 (by omega)).mp e)), if_neg (fun e => c2 ((enc_p (by omega) (by omega)).mp e)), enc_n (by omega), if_pos (nI_lt c3 (by omega))]
        · rw [if_neg c3]
          obtain ⟨y, h1, h2⟩ := ih (s + 1) (nxt (tv σ t) P x) (by omega) e2 f2 (by omega)
          refine ⟨y, Eq.trans (whl_l ?_) h1, h2⟩
          unfold F_Town_isLeastOfRing_11_b
          dsimp only
          rw [t8, if_neg (nI_nlt (by omega) (by omega)), if_neg (fun e => c ((enc_m1 (by omega)).mp e)), if_neg (fun e => c2 ((enc_p (by omega) (by omega)).mp e)), enc_n (by omega), if_neg (nI_nlt (by omega) (by omega)), t_reins (by omega), e1, bind_T, bind_T, nI_1]
theorem c_least (h : TR (tv σ t) (σ' 334) g P M C) {p : Nat} (hp : p < P) : F_Town_isLeastOfRing σ t (nI p) = some (if lst (nxt (tv σ t) P) p P (nxt (tv σ t) P p) = true then (1 : Int32) else 0) := by
  have hP := h.c1.1
  obtain ⟨e1, e2⟩ := nxt_ok h hp
  obtain ⟨y, h1, h2⟩ := c_ls h hp P 1 (nxt (tv σ t) P p) (by omega) e2 FUEL (by unfold FUEL; omega)
  unfold F_Town_isLeastOfRing
  rw [t_reins (by omega), e1, bind_T, show (1 : Int32) = nI 1 by decide, h1, ob_s]
  exact h2
def rgB (T : Nat → Nat → Int32) (P p : Nat) : Bool := (fnd (nxt T P) p P (nxt T P p) 1).isSome && lst (nxt T P) p P (nxt T P p)
theorem m_rg0 {v1 v2 : Int32} : ∀ (d : Nat) (lo : Int32), omap mrg (forGO (fun i s => F_M_rings_37_b σ' v1 v2 i s) d lo 0) = some 0 := by
  intro d lo
  cases d with
  | zero => rfl
  | succ d =>
    show omap mrg (obind (F_M_rings_37_b σ' v1 v2 lo 0) fun y => contO y fun s' => forGO _ d (lo + 1) s') = _
    unfold F_M_rings_37_b
    rw [if_pos rfl]
    rfl
theorem m_rg1 (h : TR (tv σ t) (σ' 334) g P M C) {v1 : Int32} {p : Nat} (hp : p < P) : ∀ (d lo : Nat), d + lo ≤ P → omap mrg (forGO (fun i s => F_M_rings_37_b σ' v1 (nI p) i s) d (nI lo) 1) = some (if anF (nxt (tv σ t) P) (nxt (tv σ t) P p) d lo = true then 0 else 1) := by
  intro d
  induction d with
  | zero => intro lo _; rfl
  | succ d ih =>
    intro lo hlo
    show omap mrg (obind (F_M_rings_37_b σ' v1 (nI p) (nI lo) 1) fun y => contO y fun s' => forGO _ d (nI lo + 1) s') = some (if ((fnd (nxt (tv σ t) P) lo 8 (nxt (tv σ t) P p) 1).isSome || anF _ _ d (lo + 1)) = true then 0 else 1)
    have e37 : F_M_rings_37_b σ' v1 (nI p) (nI lo) 1 = some (.inl (if (fnd (nxt (tv σ t) P) lo 8 (nxt (tv σ t) P p) 1).isSome = true then 0 else 1)) := by
      unfold F_M_rings_37_b
      rw [if_neg (show ¬ (1 : Int32) = 0 by decide), m_leads h hp (by omega), ob_s]
      cases fnd (nxt (tv σ t) P) lo 8 (nxt (tv σ t) P p) 1 <;> rfl
    rw [e37, ob_s, nI_1]
    cases fnd (nxt (tv σ t) P) lo 8 (nxt (tv σ t) P p) 1 with
    | none => exact ih (lo + 1) (by omega)
    | some r => exact m_rg0 d _
theorem op25 (h : INV i σ) (a1 a2 a3 a4 a5 : Int32) : ∃ σ', S_25 σ a1 a2 a3 a4 a5 = some σ' ∧ INV (i + 1) σ' := by
  have h0 := h
  obtain ⟨g, P, M, C, h⟩ := h
  have hP := h.1.c1.1
  have t8 : σ 3 8 = nI P := h.1.c2.1
  have h2 : TR (tv σ 3) ((up σ 333 0 0) 334) g P M C := h.1.keepM (up_r (by omega))
  have t3 : (up σ 333 0 0) 334 3 = nI P := h2.c3.1
  refine ⟨up σ 333 0 0, ?_, h0.to fun q j hq => up_d (by unfold RelC RelM at hq; omega)⟩
  have e1 := forSO_itr (F := fun i s => F_Town_ringCount_4_b σ 3 i s) P 0 0 (fun k s => if rgB (tv σ 3) P k = true then s + 1 else s) (fun p hp => by
    generalize itr _ p (0 : Int32) = x
    rw [Nat.zero_add]
    unfold F_Town_ringCount_4_b rgB
    rw [c_ring h.1 hp, ob_s]
    cases hf : fnd (nxt (tv σ 3) P) p P (nxt (tv σ 3) P p) 1 with
    | none => rfl
    | some r =>
      obtain ⟨-, tt, -, -, -⟩ := fnd_first _ _ _ _ hf
      have hr : oR (some r) ≠ -1 := by
        have hr2 : ∀ (d x s r : Nat), fnd (nxt (tv σ 3) P) p d x s = some r → r < s + d := by
          intro d
          induction d with
          | zero => intro x s r h; cases h
          | succ d ih =>
            intro x s r h
            rw [fnd_s] at h
            by_cases c : x = 1000
            · rw [if_pos c] at h; cases h
            · rw [if_neg c] at h
              by_cases c2 : x = p
              · rw [if_pos c2] at h; cases h; omega
              · rw [if_neg c2] at h
                have := ih _ _ _ h
                omega
        have := hr2 _ _ _ _ hf
        exact m1_ne r (by omega)
      rw [if_neg hr, c_least h.1 hp, ob_s]
      cases lst (nxt (tv σ 3) P) p P (nxt (tv σ 3) P p) <;> rfl)
  have e2 := forSO_itr (F := fun i s => F_M_rings_9_b (up σ 333 0 0) i s) P 0 0 (fun k s => if rgB (tv σ 3) P k = true then s + 1 else s) (fun p hp => by
    generalize itr _ p (0 : Int32) = x
    rw [Nat.zero_add]
    unfold F_M_rings_9_b rgB
    rw [m_ring h2 hp, ob_s]
    cases hf : fnd (nxt (tv σ 3) P) p P (nxt (tv σ 3) P p) 1 with
    | none =>
      rw [if_pos (show oR none = -1 from rfl), m_rg0, ob_s, if_pos rfl, bind_T]
      show some (x + 0) = some x
      rw [Int32.add_zero]
    | some r =>
      have hr : oR (some r) ≠ -1 := by
        have hr2 : ∀ (d x s r : Nat), fnd (nxt (tv σ 3) P) p d x s = some r → r < s + d := by
          intro d
          induction d with
          | zero => intro x s r h; cases h
          | succ d ih =>
            intro x s r h
            rw [fnd_s] at h
            by_cases c : x = 1000
            · rw [if_pos c] at h; cases h
            · rw [if_neg c] at h
              by_cases c2 : x = p
              · rw [if_pos c2] at h; cases h; omega
              · rw [if_neg c2] at h
                have := ih _ _ _ h
                omega
        have := hr2 _ _ _ _ hf
        exact m1_ne r (by omega)
      have e3 := m_rg1 h2 (v1 := x) hp p 0 (by omega)
      rw [nI_0] at e3
      rw [if_neg hr, p_cnt0 (by omega), e3, ob_s, lst_an hP hp hf]
      cases anF (nxt (tv σ 3) P) (nxt (tv σ 3) P p) p 0
      · rfl
      · show some (x + 0) = some x
        rw [Int32.add_zero])
  rw [nI_0] at e1 e2
  unfold S_25 F_W_rings F_Town_ringCount F_M_rings
  rw [t8, p_cnt0 (by omega), e1, ob_s, ob_s, ob_s, bind_T, t3, p_cnt0 (by omega), e2, ob_s, ob_s, if_pos rfl]
end LEA

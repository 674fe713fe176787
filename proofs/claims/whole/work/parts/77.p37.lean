-- PURE STAGE: rings
theorem php : ∀ (n : Nat) (f : Nat → Nat), (∀ i, i ≤ n → f i < n) → ∃ i j, i < j ∧ j ≤ n ∧ f i = f j := by
  intro n
  induction n with
  | zero => intro f h; exact absurd (h 0 (by omega)) (by omega)
  | succ n ih =>
    intro f h
    by_cases c : ∃ i, i ≤ n ∧ f i = f (n + 1)
    · obtain ⟨i, h1, h2⟩ := c
      exact ⟨i, n + 1, by omega, by omega, h2⟩
    · have c2 : ∀ i, i ≤ n → f i ≠ f (n + 1) := fun i hi e => c ⟨i, hi, e⟩
      obtain ⟨i, j, h1, h2, h3⟩ := ih (fun i => if f (n + 1) < f i then f i - 1 else f i) (fun i hi => by
        have h4 := h i (by omega)
        have h5 := h (n + 1) (by omega)
        have h6 := c2 i hi
        show (if f (n + 1) < f i then f i - 1 else f i) < n
        by_cases c3 : f (n + 1) < f i
        · rw [if_pos c3]; omega
        · rw [if_neg c3]; omega)
      refine ⟨i, j, h1, by omega, ?_⟩
      have h6 := c2 i (by omega)
      have h7 := c2 j h2
      by_cases c3 : f (n + 1) < f i
      · by_cases c4 : f (n + 1) < f j
        · rw [if_pos c3, if_pos c4] at h3; omega
        · rw [if_pos c3, if_neg c4] at h3; omega
      · by_cases c4 : f (n + 1) < f j
        · rw [if_neg c3, if_pos c4] at h3; omega
        · rw [if_neg c3, if_neg c4] at h3; omega
/-- a walk -/
def wk (nx : Nat → Nat) (x : Nat) : Nat → Nat
  | 0 => x
  | t + 1 => nx (wk nx x t)
theorem wk_sh (nx : Nat → Nat) (x : Nat) : ∀ t, wk nx (nx x) t = wk nx x (t + 1) := by
  intro t
  induction t with
  | zero => rfl
  | succ t ih => show nx (wk nx (nx x) t) = nx (wk nx x (t + 1)); rw [ih]
theorem wk_back {nx : Nat → Nat} {x i j : Nat} (hij : i < j) (h : wk nx x i = wk nx x j) : ∀ s, ∃ u, u < j ∧ wk nx x s = wk nx x u := by
  intro s
  induction s with
  | zero => exact ⟨0, by omega, rfl⟩
  | succ s ih =>
    obtain ⟨u, h1, h2⟩ := ih
    by_cases c : u + 1 < j
    · exact ⟨u + 1, c, by show nx _ = nx _; rw [h2]⟩
    · obtain rfl : j = u + 1 := by omega
      exact ⟨i, hij, by rw [h]; show nx _ = nx _; rw [h2]⟩
theorem wk_never {nx : Nat → Nat} {x P p : Nat} (hp : p < P) (h : ∀ s, s < P → wk nx x s < P ∧ wk nx x s ≠ p) : ∀ s, wk nx x s ≠ p := by
  obtain ⟨i, j, h1, h2, h3⟩ := php (P - 1) (fun s => if p < wk nx x s then wk nx x s - 1 else wk nx x s) (fun s hs => by
    obtain ⟨h4, h5⟩ := h s (by omega)
    show (if p < wk nx x s then wk nx x s - 1 else wk nx x s) < P - 1
    by_cases c : p < wk nx x s
    · rw [if_pos c]; omega
    · rw [if_neg c]; omega)
  have h4 := h i (by omega)
  have h5 := h j (by omega)
  have e : wk nx x i = wk nx x j := by
    by_cases c : p < wk nx x i
    · by_cases c2 : p < wk nx x j
      · rw [if_pos c, if_pos c2] at h3; omega
      · rw [if_pos c, if_neg c2] at h3; omega
    · by_cases c2 : p < wk nx x j
      · rw [if_neg c, if_pos c2] at h3; omega
      · rw [if_neg c, if_neg c2] at h3; omega
  intro s
  obtain ⟨u, h6, h7⟩ := wk_back h1 e s
  rw [h7]
  exact (h u (by omega)).2
/-- the step at which p is come to -/
def fnd (nx : Nat → Nat) (p : Nat) : Nat → Nat → Nat → Option Nat
  | 0, _, _ => none
  | d + 1, x, s => if x = 1000 then none else if x = p then some s else fnd nx p d (nx x) (s + 1)
theorem fnd_s {nx : Nat → Nat} {p d x s : Nat} : fnd nx p (d + 1) x s = if x = 1000 then none else if x = p then some s else fnd nx p d (nx x) (s + 1) := rfl
theorem fnd_more {nx : Nat → Nat} {p : Nat} : ∀ (d e x s r : Nat), fnd nx p d x s = some r → fnd nx p (d + e) x s = some r := by
  intro d
  induction d with
  | zero => intro e x s r h; cases h
  | succ d ih =>
    intro e x s r h
    rw [show d + 1 + e = (d + e) + 1 by omega, fnd_s]
    rw [fnd_s] at h
    by_cases c : x = 1000
    · rw [if_pos c] at h; cases h
    · rw [if_neg c] at h ⊢
      by_cases c2 : x = p
      · rw [if_pos c2] at h ⊢; exact h
      · rw [if_neg c2] at h ⊢; exact ih e _ _ _ h
theorem fnd_none {nx : Nat → Nat} {p : Nat} : ∀ (d x s : Nat), fnd nx p d x s = none → (∀ d', fnd nx p d' x s = none) ∨ ∀ t, t < d → wk nx x t ≠ p ∧ wk nx x t ≠ 1000 := by
  intro d
  induction d with
  | zero => intro x s _; exact Or.inr fun t ht => by omega
  | succ d ih =>
    intro x s h
    rw [fnd_s] at h
    by_cases c : x = 1000
    · refine Or.inl fun d' => ?_
      cases d' with
      | zero => rfl
      | succ d' => rw [fnd_s, if_pos c]
    · rw [if_neg c] at h
      by_cases c2 : x = p
      · rw [if_pos c2] at h; cases h
      · rw [if_neg c2] at h
        rcases ih _ _ h with h1 | h1
        · refine Or.inl fun d' => ?_
          cases d' with
          | zero => rfl
          | succ d' => rw [fnd_s, if_neg c, if_neg c2]; exact h1 d'
        · refine Or.inr fun t ht => ?_
          cases t with
          | zero => exact ⟨c2, c⟩
          | succ t => rw [← wk_sh]; exact h1 t (by omega)
theorem fnd_no {nx : Nat → Nat} {p : Nat} : ∀ (d x s : Nat), (∀ t, wk nx x t ≠ p) → fnd nx p d x s = none := by
  intro d
  induction d with
  | zero => intro _ _ _; rfl
  | succ d ih =>
    intro x s h
    rw [fnd_s]
    by_cases c : x = 1000
    · rw [if_pos c]
    · rw [if_neg c, if_neg (show ¬ x = p from h 0)]
      exact ih _ _ fun t => by rw [wk_sh]; exact h _
theorem fnd_P {nx : Nat → Nat} {p P x : Nat} (s : Nat) (hP : P ≤ 8) (hp : p < P) (hx : x < P ∨ x = 1000) (hn : ∀ v, v < P → nx v < P ∨ nx v = 1000) : fnd nx p P x s = fnd nx p 8 x s := by
  cases h : fnd nx p P x s with
  | some r =>
    have := fnd_more P (8 - P) x s r h
    rw [show P + (8 - P) = 8 by omega] at this
    exact this.symm
  | none =>
    rcases fnd_none P x s h with h1 | h1
    · exact (h1 8).symm
    · have h2 : ∀ t, t < P → wk nx x t < P := by
        intro t
        induction t with
        | zero => intro ht; exact hx.resolve_right (h1 0 ht).2
        | succ t ih => intro ht; exact (hn _ (ih (by omega))).resolve_right (h1 (t + 1) ht).2
      exact (fnd_no 8 x s (wk_never hp fun t ht => ⟨h2 t ht, (h1 t ht).1⟩)).symm
def enc (x : Nat) : Int32 := if x = 1000 then -1 else nI x
def nxt (T : Nat → Nat → Int32) (P v : Nat) : Nat := if v < P ∧ T 6 v ≠ -1 then (T 6 v).toNatClampNeg else 1000
def oR : Option Nat → Int32
  | none => -1
  | some r => nI r
def o1 : Option Nat → Int32
  | none => 0
  | some _ => 1
section RNG
variable {σ σ' : Mem} {g : Nat → Int32} {t P M C i : Nat}
theorem nxt_ok (h : TR (tv σ t) (σ' 334) g P M C) {v : Nat} (hv : v < P) : σ (t + 6) v = enc (nxt (tv σ t) P v) ∧ (nxt (tv σ t) P v < P ∨ nxt (tv σ t) P v = 1000) := by
  have hP := h.c1.1
  unfold nxt
  rcases (h.c7 v hv).2 with e | ⟨r, hr, -, e⟩
  · rw [if_neg (fun c => c.2 e)]
    exact ⟨e, Or.inr rfl⟩
  · rw [if_pos ⟨hv, by rw [e]; exact m1_ne r (by omega)⟩, e, p_cl (by omega)]
    refine ⟨?_, Or.inl hr⟩
    unfold enc
    rw [if_neg (by omega)]
    exact e
theorem enc_m1 {x : Nat} (hx : x < 8 ∨ x = 1000) : enc x = -1 ↔ x = 1000 := by
  unfold enc
  by_cases c : x = 1000
  · rw [if_pos c]; exact ⟨fun _ => c, fun _ => rfl⟩
  · rw [if_neg c]; exact ⟨fun e => absurd e (m1_ne x (by omega)), fun e => absurd e c⟩
theorem enc_p {x p : Nat} (hx : x < 8) (hp : p < 8) : enc x = nI p ↔ x = p := by
  unfold enc
  rw [if_neg (by omega)]
  exact nI_eq (by omega) (by omega)
theorem enc_n {x : Nat} (hx : x < 8) : enc x = nI x := by
  unfold enc
  rw [if_neg (by omega)]
theorem c_rg (h : TR (tv σ t) (σ' 334) g P M C) {p : Nat} (hp : p < P) : ∀ (d s x : Nat), d + s = P + 1 → (x < P ∨ x = 1000) → ∀ fuel, d < fuel → ∃ y, whl (fun s => F_Town_ringSteps_11_b σ t (nI p) s.1 s.2) fuel (enc x, nI s) = some y ∧ sumE y (fun _ => some (-1)) (fun r => some r) = some (oR (fnd (nxt (tv σ t) P) p d x s)) := by
  have hP := h.c1.1
  have t8 : σ t 8 = nI P := h.c2.1
  intro d
  induction d with
  | zero =>
    intro s x hs _ fuel hf
    obtain ⟨f2, rfl⟩ : ∃ f2, fuel = f2 + 1 := ⟨fuel - 1, by omega⟩
    refine ⟨.inl (enc x, nI s), whl_r ?_, rfl⟩
    unfold F_Town_ringSteps_11_b
    dsimp only
    rw [t8, if_pos (nI_lt (by omega) (by omega))]
  | succ d ih =>
    intro s x hs hx fuel hf
    obtain ⟨f2, rfl⟩ : ∃ f2, fuel = f2 + 1 := ⟨fuel - 1, by omega⟩
    rw [fnd_s]
    by_cases c : x = 1000
    · rw [if_pos c]
      refine ⟨.inl (enc x, nI s), whl_r ?_, rfl⟩
      unfold F_Town_ringSteps_11_b
      dsimp only
      rw [t8, if_neg (nI_nlt (by omega) (by omega)), if_pos ((enc_m1 (by omega)).mpr c)]
    · rw [if_neg c]
      by_cases c2 : x = p
      · rw [if_pos c2]
        refine ⟨.inr (nI s), whl_r ?_, rfl⟩
        unfold F_Town_ringSteps_11_b
        dsimp only
        rw [t8, if_neg (nI_nlt (by omega) (by omega)), if_neg (fun e => c ((enc_m1 (by omega)).mp e)), if_pos ((enc_p (by omega) (by omega)).mpr c2)]
      · rw [if_neg c2]
        have hx2 : x < P := hx.resolve_right c
        obtain ⟨e1, e2⟩ := nxt_ok h hx2
        obtain ⟨y, h1, h2⟩ := ih (s + 1) (nxt (tv σ t) P x) (by omega) e2 f2 (by omega)
        refine ⟨y, Eq.trans (whl_l ?_) h1, h2⟩
        unfold F_Town_ringSteps_11_b
        dsimp only
        rw [t8, if_neg (nI_nlt (by omega) (by omega)), if_neg (fun e => c ((enc_m1 (by omega)).mp e)), if_neg (fun e => c2 ((enc_p (by omega) (by omega)).mp e)), enc_n (by omega), t_reins (by omega), e1, bind_T, bind_T, nI_1]
theorem c_ring (h : TR (tv σ t) (σ' 334) g P M C) {p : Nat} (hp : p < P) : F_Town_ringSteps σ t (nI p) = some (oR (fnd (nxt (tv σ t) P) p P (nxt (tv σ t) P p) 1)) := by
  have hP := h.c1.1
  obtain ⟨e1, e2⟩ := nxt_ok h hp
  obtain ⟨y, h1, h2⟩ := c_rg h hp P 1 (nxt (tv σ t) P p) (by omega) e2 FUEL (by unfold FUEL; omega)
  unfold F_Town_ringSteps
  rw [t_reins (by omega), e1, bind_T, show (1 : Int32) = nI 1 by decide, h1, ob_s]
  exact h2
theorem m_rg (h : TR (tv σ t) (σ' 334) g P M C) {p : Nat} (hp : p < P) : ∀ (d s x : Nat), (x < P ∨ x = 1000) → ∃ y, omap mrg2 (forGO (fun i s => F_M_ringOf_9_b σ' (nI p) i s) d (nI s) (enc x)) = some y ∧ sumE y (fun _ => some (-1)) (fun r => some r) = some (oR (fnd (nxt (tv σ t) P) p d x s)) := by
  have hP := h.c1.1
  intro d
  induction d with
  | zero => intro s x _; exact ⟨_, rfl, rfl⟩
  | succ d ih =>
    intro s x hx
    rw [fnd_s]
    show ∃ y, omap mrg2 (obind (F_M_ringOf_9_b σ' (nI p) (nI s) (enc x)) fun y => contO y fun s' => forGO _ d (nI s + 1) s') = some y ∧ _
    unfold F_M_ringOf_9_b
    by_cases c : x = 1000
    · rw [if_pos c, if_pos ((enc_m1 (by omega)).mpr c), ob_s]
      exact ⟨_, rfl, rfl⟩
    · rw [if_neg c, if_neg (fun e => c ((enc_m1 (by omega)).mp e))]
      by_cases c2 : x = p
      · rw [if_pos c2, if_pos ((enc_p (by omega) (by omega)).mpr c2), ob_s]
        exact ⟨_, rfl, rfl⟩
      · have hx2 : x < P := hx.resolve_right c
        obtain ⟨e1, e2⟩ := nxt_ok h hx2
        rw [if_neg c2, if_neg (fun e => c2 ((enc_p (by omega) (by omega)).mp e)), enc_n (by omega), m_of2 (by omega), ob_s, ob_s, (h.c6 x hx2).2.2.1, nI_1]
        obtain ⟨y, h1, h2⟩ := ih (s + 1) (nxt (tv σ t) P x) e2
        refine ⟨y, ?_, h2⟩
        rw [show tv σ t 6 x = enc (nxt (tv σ t) P x) from e1]
        exact h1
theorem m_ring (h : TR (tv σ t) (σ' 334) g P M C) {p : Nat} (hp : p < P) : F_M_ringOf σ' (nI p) = some (oR (fnd (nxt (tv σ t) P) p P (nxt (tv σ t) P p) 1)) := by
  have hP := h.c1.1
  obtain ⟨e1, e2⟩ := nxt_ok h hp
  obtain ⟨y, h1, h2⟩ := m_rg h hp 8 1 (nxt (tv σ t) P p) e2
  unfold F_M_ringOf
  rw [m_of2 (by omega), ob_s, (h.c6 p hp).2.2.1, show tv σ t 6 p = enc (nxt (tv σ t) P p) from e1, show (1 : Int32) = nI 1 by decide, show cle (nI 1) 8 = 8 by decide, h1, ob_s, fnd_P 1 hP hp e2 (fun v hv => (nxt_ok h hv).2)]
  exact h2
theorem op24 (h : INV i σ) (a1 a2 a3 a4 a5 : Int32) : ∃ σ', S_24 σ a1 a2 a3 a4 a5 = some σ' ∧ INV (i + 1) σ' := by
  obtain ⟨g, P, M, C, h⟩ := h
  have hP := h.1.c1.1
  rcases pcase P a1 with ⟨p, hp, rfl⟩ | h1
  · have e := ro_one h.1 (v1 := nI p) (W := oR (fnd (nxt (tv σ 3) P) p P (nxt (tv σ 3) P p) 1)) (V := F_M_ringOf) fun p2 hp2 e2 σ' h' => by
      obtain rfl : p = p2 := nI_inj (by omega) (by omega) e2
      exact m_ring h' hp
    have e3 : H_ring σ (nI p) = sumE (sumE (F_W_checkPerson σ (nI p)) (fun e2 => (Sum.inl e2 : String ⊕ Int32)) (fun _ => Sum.inr (oR (fnd (nxt (tv σ 3) P) p P (nxt (tv σ 3) P p) 1)))) (fun e2 => (if e2 = "java/lang/IndexOutOfBoundsException" then some ((σ, 1)) else none)) (fun o1 => bindT (up σ 346 0 o1) fun σ4 => some ((σ4, 0))) := by
      unfold H_ring F_W_ring
      rw [cp_ok h.1 hp, c_ring h.1 hp]
      rfl
    rw [← e3] at e
    exact ro_ok (B := fun σ' => F_M_ring σ' (nI p)) h e
  · refine ro_ok (B := fun σ' => F_M_ring σ' a1) h (Or.inl ⟨1, by decide, ?_, fun σ' h' => ?_⟩)
    · unfold H_ring F_W_ring
      rw [cp_no h.1 h1]; rfl
    · dsimp only
      unfold F_M_ring
      rw [(q_nopers h' h1).2, ob_s, if_pos rfl, bind_T, up_s, if_pos lt01]
      exact ⟨_, rfl⟩
end RNG

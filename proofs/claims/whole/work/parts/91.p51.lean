-- PURE STAGE: texts, as the reference reads them
def ltr (c : Nat) : Bool := decide (97 ≤ c ∧ c ≤ 122)
def dgt (c : Nat) : Bool := decide (48 ≤ c ∧ c ≤ 57)
def spc (c : Nat) : Bool := decide (c = 32)
/-- a run of signs of one sort -/
def rn (c : Nat → Bool) (b : Nat → Nat) : Nat → Nat → Nat
  | 0, a => a
  | d + 1, a => if c (b a) = true then rn c b d (a + 1) else a
theorem rn_s {c : Nat → Bool} {b : Nat → Nat} {d a : Nat} : rn c b (d + 1) a = if c (b a) = true then rn c b d (a + 1) else a := rfl
theorem rn_is {c : Nat → Bool} {b : Nat → Nat} : ∀ (d a : Nat), a ≤ rn c b d a ∧ rn c b d a ≤ a + d ∧ (rn c b d a < a + d → c (b (rn c b d a)) = false) ∧ ∀ k, a ≤ k → k < rn c b d a → c (b k) = true := by
  intro d
  induction d with
  | zero => intro a; exact ⟨Nat.le_refl _, Nat.le_refl _, fun h => absurd h (Nat.lt_irrefl _), fun k h1 h2 => absurd h2 (by show ¬ k < a; omega)⟩
  | succ d ih =>
    intro a
    rw [rn_s]
    by_cases h : c (b a) = true
    · rw [if_pos h]
      obtain ⟨h1, h2, h3, h4⟩ := ih (a + 1)
      refine ⟨by omega, by omega, fun h5 => h3 (by omega), fun k h5 h6 => ?_⟩
      by_cases e : k = a
      · subst e; exact h
      · exact h4 k (by omega) h6
    · rw [if_neg h]
      exact ⟨Nat.le_refl _, by omega, fun _ => by cases h2 : c (b a) with
        | false => rfl
        | true => exact absurd h2 h, fun k h5 h6 => by omega⟩
def skF (b : Nat → Nat) (n a : Nat) : Nat := rn spc b (n - a) a
def stF (b : Nat → Nat) (n p : Nat) : Nat := if ltr (b p) = true then rn ltr b (n - (p + 1)) (p + 1) else if dgt (b p) = true then rn dgt b (n - (p + 1)) (p + 1) else p + 1
theorem skF_is {b : Nat → Nat} {n a : Nat} (ha : a ≤ n) : a ≤ skF b n a ∧ skF b n a ≤ n ∧ (skF b n a < n → b (skF b n a) ≠ 32) ∧ ∀ k, a ≤ k → k < skF b n a → b k = 32 := by
  obtain ⟨h1, h2, h3, h4⟩ := rn_is (c := spc) (b := b) (n - a) a
  unfold skF
  refine ⟨h1, by omega, fun h => ?_, fun k h5 h6 => of_decide_eq_true (h4 k h5 h6)⟩
  have := h3 (by omega)
  exact of_decide_eq_false this
theorem skF_fix {b : Nat → Nat} {n p : Nat} (h : p = n ∨ b p ≠ 32) : skF b n p = p := by
  unfold skF
  cases hd : n - p with
  | zero => rfl
  | succ d =>
    rw [rn_s]
    rcases h with h | h
    · omega
    · rw [if_neg]
      intro c
      exact h (of_decide_eq_true c)
theorem skF_sk {b : Nat → Nat} {n a : Nat} (ha : a ≤ n) : skF b n (skF b n a) = skF b n a := by
  obtain ⟨h1, h2, h3, -⟩ := skF_is (b := b) ha
  refine skF_fix ?_
  by_cases c : skF b n a = n
  · exact Or.inl c
  · exact Or.inr (h3 (by omega))
theorem stF_is {b : Nat → Nat} {n p : Nat} (hp : p < n) : p < stF b n p ∧ stF b n p ≤ n := by
  unfold stF
  obtain ⟨h1, h2, -, -⟩ := rn_is (c := ltr) (b := b) (n - (p + 1)) (p + 1)
  obtain ⟨h3, h4, -, -⟩ := rn_is (c := dgt) (b := b) (n - (p + 1)) (p + 1)
  split
  · omega
  · split <;> omega
def LTs (b : Nat → Nat) (n : Nat) (s : Mem) : Prop := (s 333 9 = -1 ∧ ∀ j, j < n → s 338 j = nI (b j)) ∨ (s 333 9 = 450 ∧ ∀ j, j < n → s 334 (450 + j) = nI (b j))
/-- the reference stands at a in the text -/
def RP (b : Nat → Nat) (n a : Nat) (s : Mem) : Prop := n ≤ 400 ∧ a ≤ n ∧ s 333 10 = nI n ∧ s 333 11 = nI a ∧ (∀ j, j < n → b j ≤ 255) ∧ LTs b n s
section RPS
variable {b : Nat → Nat} {n a : Nat} {s : Mem}
theorem RP.letter (h : RP b n a s) {j : Nat} (hj : j < n) : F_M_letter s (nI j) = some (nI (b j)) := by
  obtain ⟨h1, h2, h3, h4, h5, h6⟩ := h
  unfold F_M_letter
  rcases h6 with ⟨h6, h7⟩ | ⟨h6, h7⟩
  · rw [if_pos h6, p_inb (by omega) (by decide), chk_t, p_cl (by omega), h7 j hj]
  · rw [if_neg (by rw [h6]; decide), bind_T, h6, show (450 : Int32) + nI j = nI (450 + j) from nI_add 450 j, p_inb (by omega) (by decide), chk_t, p_cl (by omega), h7 j hj]
theorem LTs.to {s1 : Mem} (h : LTs b n s) (e : s1 333 9 = s 333 9) (e1 : ∀ j, s1 338 j = s 338 j) (e2 : ∀ j, 450 ≤ j → j < 850 → s1 334 j = s 334 j) (hn : n ≤ 400) : LTs b n s1 := by
  rcases h with ⟨h6, h7⟩ | ⟨h6, h7⟩
  · exact Or.inl ⟨e.trans h6, fun j hj => (e1 j).trans (h7 j hj)⟩
  · exact Or.inr ⟨e.trans h6, fun j hj => (e2 _ (by omega) (by omega)).trans (h7 j hj)⟩
theorem RP.at_ (h : RP b n a s) {a' : Nat} (ha : a' ≤ n) : RP b n a' (up s 333 11 (nI a')) := by
  obtain ⟨h1, h2, h3, h4, h5, h6⟩ := h
  exact ⟨h1, ha, by rw [up_d (by omega)]; exact h3, up_s, h5, h6.to (up_d (by omega)) (fun j => up_d (by omega)) (fun j _ _ => up_d (by omega)) h1⟩
theorem m_skip (h : RP b n a s) : F_M_skip s = some (up s 333 11 (nI (skF b n a))) := by
  obtain ⟨k1, k2, k3, k4⟩ := skF_is (b := b) h.2.1
  have hn := h.1
  have e := whl_n (F := fun t => F_M_skip_0_b t) (fun k => up s 333 11 (nI (a + k))) (skF b n a - a) (up s 333 11 (nI (skF b n a))) (by unfold FUEL; omega) (fun k hk => by
    have hR := h.at_ (a' := a + k) (by omega)
    unfold F_M_skip_0_b
    rw [hR.2.2.1, hR.2.2.2.1, if_pos (nI_lt (by omega) (by omega)), hR.letter (by omega), ob_s, k4 _ (by omega) (by omega), if_pos (show nI 32 = 32 by decide), bind_T, nI_1, up_up]
    rfl) (by
    have hR := h.at_ (a' := skF b n a) k2
    rw [show a + (skF b n a - a) = skF b n a by omega]
    unfold F_M_skip_0_b
    rw [hR.2.2.1, hR.2.2.2.1]
    by_cases c : skF b n a < n
    · have hb := h.2.2.2.2.1 _ c
      rw [if_pos (nI_lt c (by omega)), hR.letter c, ob_s, if_neg (show ¬ nI (b (skF b n a)) = 32 from fun e => k3 c (nI_inj (a := b (skF b n a)) (b := 32) (by omega) (by omega) e))]
    · rw [if_neg (nI_nlt (by omega) (by omega))])
  have e0 : up s 333 11 (nI (a + 0)) = s := up_id h.2.2.2.1
  rw [e0] at e
  unfold F_M_skip
  rw [e, ob_s]
theorem m_place (h : RP b n a s) : F_M_place s = some (up s 333 11 (nI (skF b n a)), nI (skF b n a)) := by
  unfold F_M_place
  rw [m_skip h, ob_s, up_s]
theorem m_sign (h : RP b n a s) {c : Nat} (hc : c ≤ 255) : F_M_isSign s (nI c) = some (up s 333 11 (nI (skF b n a)), if skF b n a < n ∧ b (skF b n a) = c then 1 else 0) := by
  obtain ⟨k1, k2, k3, k4⟩ := skF_is (b := b) h.2.1
  have hn := h.1
  have hR := h.at_ (a' := skF b n a) k2
  unfold F_M_isSign
  rw [m_skip h, ob_s, hR.2.2.1, hR.2.2.2.1]
  by_cases c1 : skF b n a < n
  · have hb := h.2.2.2.2.1 _ c1
    rw [if_pos (nI_lt c1 (by omega)), hR.letter c1, ob_s]
    by_cases c2 : b (skF b n a) = c
    · rw [if_pos (by rw [c2]), if_pos ⟨c1, c2⟩]
    · rw [if_neg (fun e => c2 (nI_inj (by omega) (by omega) e)), if_neg (fun e => c2 e.2)]
  · rw [if_neg (nI_nlt (by omega) (by omega)), if_neg (fun e => c1 e.1)]
theorem m_isL {c : Nat} (hc : c ≤ 255) : F_M_isIn s (nI c) 97 122 = if ltr c = true then 1 else 0 := by
  unfold F_M_isIn ltr
  by_cases c1 : c < 97
  · rw [if_pos (show nI c < 97 from nI_lt (b := 97) c1 (by omega)), decide_eq_false (by omega), if_neg (by decide)]
  · rw [if_neg (show ¬ nI c < 97 from nI_nlt (b := 97) (by omega) (by omega))]
    by_cases c2 : 122 < c
    · rw [if_pos (show (122 : Int32) < nI c from nI_lt (a := 122) c2 (by omega)), decide_eq_false (by omega), if_neg (by decide)]
    · rw [if_neg (show ¬ (122 : Int32) < nI c from nI_nlt (a := 122) (by omega) (by omega)), decide_eq_true (by omega), if_pos rfl]
theorem m_isD {c : Nat} (hc : c ≤ 255) : F_M_isIn s (nI c) 48 57 = if dgt c = true then 1 else 0 := by
  unfold F_M_isIn dgt
  by_cases c1 : c < 48
  · rw [if_pos (show nI c < 48 from nI_lt (b := 48) c1 (by omega)), decide_eq_false (by omega), if_neg (by decide)]
  · rw [if_neg (show ¬ nI c < 48 from nI_nlt (b := 48) (by omega) (by omega))]
    by_cases c2 : 57 < c
    · rw [if_pos (show (57 : Int32) < nI c from nI_lt (a := 57) c2 (by omega)), decide_eq_false (by omega), if_neg (by decide)]
    · rw [if_neg (show ¬ (57 : Int32) < nI c from nI_nlt (a := 57) (by omega) (by omega)), decide_eq_true (by omega), if_pos rfl]
def wAt (b : Nat → Nat) (p e i : Nat) : Bool := decide (lenS.getD i 0 = e - p) && (List.range (lenS.getD i 0)).all (fun k => decide (nI (b (p + k)) = (bytS.getD i []).getD k 0))
theorem wAt_is {b : Nat → Nat} {p e i : Nat} : wAt b p e i = true ↔ lenS.getD i 0 = e - p ∧ ∀ k, k < lenS.getD i 0 → nI (b (p + k)) = (bytS.getD i []).getD k 0 := by
  unfold wAt
  rw [Bool.and_eq_true, decide_eq_true_iff, List.all_eq_true]
  constructor
  · intro h
    exact ⟨h.1, fun k hk => of_decide_eq_true (h.2 k (List.mem_range.mpr hk))⟩
  · intro h
    exact ⟨h.1, fun k hk => decide_eq_true (h.2 k (List.mem_range.mp hk))⟩
theorem lenS_le : ∀ i, i < 29 → lenS.getD i 0 ≤ 9 := by decide
theorem m_chars {v2 : Int32} {i p : Nat} (h : RP b n p s) (hi : i < 28) (hl : p + lenS.getD i 0 ≤ n) : ∃ y, whl (fun t => F_M_says_55_b s i v2 t) FUEL 0 = some y ∧ ((y = .inl (nI (lenS.getD i 0)) ∧ ∀ k, k < lenS.getD i 0 → nI (b (p + k)) = (bytS.getD i []).getD k 0) ∨ (y = .inr (s, 0) ∧ ¬ ∀ k, k < lenS.getD i 0 → nI (b (p + k)) = (bytS.getD i []).getD k 0)) := by
  have hn := h.1
  have l9 := lenS_le i (by omega)
  refine whl_inv (F := fun t => F_M_says_55_b s i v2 t) (fun k t => k ≤ lenS.getD i 0 ∧ t = nI k ∧ ∀ u, u < k → nI (b (p + u)) = (bytS.getD i []).getD u 0) _ (fun k t hI => ?_) (lenS.getD i 0) (fun t h => by have := h.1; omega) 0 (lenS.getD i 0) FUEL 0 (by omega) (by unfold FUEL; omega) ⟨by omega, nI_0.symm, fun u hu => by omega⟩
  obtain ⟨hk, rfl, hu⟩ := hI
  unfold F_M_says_55_b sLen sCh
  by_cases c : k < lenS.getD i 0
  · rw [if_pos (show nI k < Int32.ofNat (lenS.getD i 0) from nI_lt c (by omega)), h.2.2.2.1, nI_add, h.letter (by omega), ob_s, p_inb c (by omega), chk_t, p_cl (by omega)]
    by_cases e : nI (b (p + k)) = (bytS.getD i []).getD k 0
    · rw [if_pos e, bind_T, nI_1]
      refine Or.inr ⟨_, rfl, by omega, rfl, fun u hu2 => ?_⟩
      by_cases eu : u = k
      · subst eu; exact e
      · exact hu u (by omega)
    · rw [if_neg e]
      exact Or.inl ⟨_, rfl, Or.inr ⟨rfl, fun h9 => e (h9 k c)⟩⟩
  · obtain rfl : k = lenS.getD i 0 := by omega
    rw [if_neg (show ¬ nI (lenS.getD i 0) < Int32.ofNat (lenS.getD i 0) from nI_nlt (by omega) (by omega))]
    exact Or.inl ⟨_, rfl, Or.inl ⟨rfl, hu⟩⟩
/-- a word of letters, where it stands -/
theorem m_says (h : RP b n a s) {i : Nat} (hi : i < 22) : F_M_says s i = some (up s 333 11 (nI (if skF b n a < n ∧ wAt b (skF b n a) (stF b n (skF b n a)) i = true then stF b n (skF b n a) else skF b n a)), if skF b n a < n ∧ wAt b (skF b n a) (stF b n (skF b n a)) i = true then 1 else 0) := by
  obtain ⟨k1, k2, k3, k4⟩ := skF_is (b := b) h.2.1
  have hn := h.1
  have hR := h.at_ (a' := skF b n a) k2
  have hl1 : 0 < lenS.getD i 0 := (by decide : ∀ i, i < 22 → 0 < lenS.getD i 0) i hi
  have hl9 := lenS_le i (by omega)
  unfold F_M_says
  rw [m_skip h, ob_s, bind_T, up_s]
  generalize skF b n a = p at *
  obtain ⟨r1, r2, r3, r4⟩ := rn_is (c := ltr) (b := b) (n - p) p
  have eR : whl (fun t => F_M_says_9_b (up s 333 11 (nI p)) i t) FUEL (nI p) = some (nI (rn ltr b (n - p) p)) := by
    have e := whl_n (F := fun t => F_M_says_9_b (up s 333 11 (nI p)) i t) (fun k => nI (p + k)) (rn ltr b (n - p) p - p) (nI (rn ltr b (n - p) p)) (by unfold FUEL; omega) (fun k hk => by
      have hb := h.2.2.2.2.1 (p + k) (by omega)
      unfold F_M_says_9_b
      rw [hR.2.2.1, if_pos (nI_lt (by omega) (by omega)), hR.letter (by omega), ob_s, m_isL hb, r4 _ (by omega) (by omega), if_neg (by decide), bind_T, nI_1]
      rfl) (by
      rw [show p + (rn ltr b (n - p) p - p) = rn ltr b (n - p) p by omega]
      unfold F_M_says_9_b
      rw [hR.2.2.1]
      by_cases c : rn ltr b (n - p) p < n
      · have hb := h.2.2.2.2.1 _ c
        rw [if_pos (nI_lt c (by omega)), hR.letter c, ob_s, m_isL hb, r3 (by omega), if_pos (by decide)]
      · rw [if_neg (nI_nlt (by omega) (by omega))])
    exact e
  rw [eR, ob_s, pk_sub (by omega)]
  -- what a word asks for
  have hw : p < n → wAt b p (stF b n p) i = true → ltr (b p) = true := fun hp hw => by
    rw [wAt_is] at hw
    have h0 := hw.2 0 hl1
    have hb := h.2.2.2.2.1 p hp
    have : ∀ i, i < 22 → ∃ c, 97 ≤ c ∧ c ≤ 122 ∧ (bytS.getD i []).getD 0 0 = nI c := by
      have h9 : ∀ i, i < 22 → (List.range 123).any (fun c => decide (97 ≤ c) && decide ((bytS.getD i []).getD 0 0 = nI c)) = true := by decide
      intro i hi
      obtain ⟨c, c1, c2⟩ := List.any_eq_true.mp (h9 i hi)
      rw [Bool.and_eq_true] at c2
      exact ⟨c, of_decide_eq_true c2.1, by have := List.mem_range.mp c1; omega, of_decide_eq_true c2.2⟩
    obtain ⟨c, c1, c2, c3⟩ := this i hi
    rw [c3, Nat.add_zero] at h0
    have := nI_inj (by omega) (by omega) h0
    unfold ltr
    rw [this]
    exact decide_eq_true ⟨c1, c2⟩
  have es : p < n → ltr (b p) = true → stF b n p = rn ltr b (n - p) p := fun hp hl => by
    unfold stF
    rw [if_pos hl, show n - p = (n - (p + 1)) + 1 by omega, rn_s, if_pos hl]
  by_cases c : nI (rn ltr b (n - p) p - p) = sLen i
  · have c' : rn ltr b (n - p) p - p = lenS.getD i 0 := nI_inj (by omega) (by omega) c
    have hp : p < n := by omega
    have hl : ltr (b p) = true := r4 p (Nat.le_refl _) (by omega)
    have e2 := es hp hl
    obtain ⟨y, y1, y2⟩ := m_chars (v2 := nI (rn ltr b (n - p) p)) hR (show i < 28 by omega) (by omega)
    rw [if_pos c, y1, ob_s]
    rcases y2 with ⟨rfl, y2⟩ | ⟨rfl, y2⟩
    · have w : p < n ∧ wAt b p (stF b n p) i = true := ⟨hp, wAt_is.mpr ⟨by rw [e2]; exact c'.symm, y2⟩⟩
      rw [if_pos w, if_pos w, sumE_l, bind_T, up_up, e2]
    · have w : ¬ (p < n ∧ wAt b p (stF b n p) i = true) := fun w => y2 (wAt_is.mp w.2).2
      rw [if_neg w, if_neg w, sumE_r]
  · have w : ¬ (p < n ∧ wAt b p (stF b n p) i = true) := fun w => by
      have hl := hw w.1 w.2
      have e2 := es w.1 hl
      have := (wAt_is.mp w.2).1
      rw [e2] at this
      exact c (by rw [← this]; rfl)
    rw [if_neg c, if_neg w, if_neg w]
/-- so many digits, as a number -/
def vF (b : Nat → Nat) (p : Nat) : Nat → Nat
  | 0 => 0
  | k + 1 => 10 * vF b p k + b (p + k) - 48
theorem vF_lt {b : Nat → Nat} {p : Nat} : ∀ {k : Nat}, (∀ u, u < k → dgt (b (p + u)) = true) → vF b p k < 10 ^ k := by
  intro k
  induction k with
  | zero => intro _; exact Nat.one_pos
  | succ k ih =>
    intro h
    have h1 := ih fun u hu => h u (by omega)
    have h2 := of_decide_eq_true (h k (by omega))
    show 10 * vF b p k + b (p + k) - 48 < 10 ^ (k + 1)
    rw [Nat.pow_succ]
    omega
def dgE (b : Nat → Nat) (n p : Nat) : Nat := rn dgt b (n - p) p
def numOk (b : Nat → Nat) (n p H : Nat) : Prop := p < dgE b n p ∧ dgE b n p - p ≤ 3 ∧ vF b p (dgE b n p - p) < H
/-- a number, or the fault at its begin -/
theorem m_fig (h : RP b n a s) (h12 : s 333 12 = -1) {v2 : Int32} {H : Nat} (hH : ∀ v, v < 10000 → (v2 < nI v ↔ H ≤ v)) :
    (numOk b n (skF b n a) H → F_M_figures s 0 v2 = some (up s 333 11 (nI (dgE b n (skF b n a))), nI (vF b (skF b n a) (dgE b n (skF b n a) - skF b n a)))) ∧
    (¬ numOk b n (skF b n a) H → ∃ a' v, a' ≤ n ∧ skF b n a ≤ a' ∧ F_M_figures s 0 v2 = some (up (up s 333 11 (nI a')) 333 12 (nI (skF b n a)), v)) := by
  obtain ⟨k1, k2, k3, k4⟩ := skF_is (b := b) h.2.1
  have hn := h.1
  unfold F_M_figures
  rw [if_pos h12, m_place h, ob_s]
  generalize skF b n a = p at *
  have hR := h.at_ (a' := p) k2
  obtain ⟨r1, r2, r3, r4⟩ := rn_is (c := dgt) (b := b) (n - p) p
  unfold numOk
  show (p < dgE b n p ∧ _ → _) ∧ _
  have d1 : p ≤ dgE b n p := r1
  have d2 : dgE b n p ≤ n := by unfold dgE; omega
  have d4 : ∀ k, p ≤ k → k < dgE b n p → dgt (b k) = true := r4
  have d3 : dgE b n p < n → dgt (b (dgE b n p)) = false := fun h => r3 (by unfold dgE at h; omega)
  generalize dgE b n p = e at *
  -- the loop
  have hv : ∀ k, p + k ≤ e → k ≤ 4 → vF b p k < 10000 := fun k h1 h2 => by
    have := vF_lt (b := b) (p := p) (k := k) (fun u hu => d4 _ (by omega) (by omega))
    have h3 : 10 ^ k ≤ 10 ^ 4 := Nat.pow_le_pow_right (by decide) h2
    omega
  have eL : whl (fun t => F_M_figures_18_b 0 v2 (nI p) t.1 t.2) FUEL (0, up s 333 11 (nI p)) = some (nI (vF b p (min (e - p) 4)), up s 333 11 (nI (p + min (e - p) 4))) := by
    have e9 := whl_n (F := fun t => F_M_figures_18_b 0 v2 (nI p) t.1 t.2) (fun k => (nI (vF b p k), up s 333 11 (nI (p + k)))) (min (e - p) 4) (nI (vF b p (min (e - p) 4)), up s 333 11 (nI (p + min (e - p) 4))) (by unfold FUEL; omega) (fun k hk => by
      have hR2 := h.at_ (a' := p + k) (by omega)
      have hb := h.2.2.2.2.1 (p + k) (by omega)
      have hd := of_decide_eq_true (d4 (p + k) (by omega) (by omega))
      dsimp only
      unfold F_M_figures_18_b
      rw [hR2.2.2.1, hR2.2.2.2.1, if_pos (nI_lt (by omega) (by omega)), hR2.letter (by omega), ob_s, m_isD hb, d4 _ (by omega) (by omega), if_neg (by decide), pk_sub (by omega), if_neg (show ¬ (3 : Int32) < nI (p + k - p) from nI_nlt (a := 3) (by omega) (by omega)), ob_s, bind_T, bind_T, nI_1, up_up, show (10 : Int32) * nI (vF b p k) = nI (10 * vF b p k) from pk_mul 10 _, nI_add, show nI (10 * vF b p k + b (p + k)) - 48 = nI (10 * vF b p k + b (p + k) - 48) from pk_sub (b := 48) (by omega)]
      rfl) (by
      have hR2 := h.at_ (a' := p + min (e - p) 4) (by omega)
      dsimp only
      unfold F_M_figures_18_b
      rw [hR2.2.2.1, hR2.2.2.2.1]
      by_cases c : p + min (e - p) 4 < n
      · have hb := h.2.2.2.2.1 _ c
        rw [if_pos (nI_lt c (by omega)), hR2.letter c, ob_s, m_isD hb]
        by_cases c2 : e - p ≤ 4
        · by_cases c3 : e - p = 4 ∧ dgt (b (p + min (e - p) 4)) = true
          · rw [c3.2, if_neg (by decide), pk_sub (by omega), if_pos (show (3 : Int32) < nI (p + min (e - p) 4 - p) from nI_lt (a := 3) (by omega) (by omega))]
          · have hf : dgt (b (p + min (e - p) 4)) = false := by
              rw [show p + min (e - p) 4 = e by omega]
              exact d3 (by omega)
            rw [hf, if_pos (by decide)]
        · rw [d4 _ (by omega) (by omega), if_neg (by decide), pk_sub (by omega), if_pos (show (3 : Int32) < nI (p + min (e - p) 4 - p) from nI_lt (a := 3) (by omega) (by omega))]
      · rw [if_neg (nI_nlt (by omega) (by omega))])
    rw [show vF b p 0 = 0 from rfl, nI_0, Nat.add_zero] at e9
    exact e9
  have hvm := hv (min (e - p) 4) (by omega) (by omega)
  dsimp only
  rw [eL, ob_s]
  simp only [up_s]
  have wr : F_M_wrong (up s 333 11 (nI (p + min (e - p) 4))) (nI p) = up (up s 333 11 (nI (p + min (e - p) 4))) 333 12 (nI p) := by
    unfold F_M_wrong
    rw [up_d (by omega), h12, if_pos rfl, bind_T]
  simp only [wr, bind_T]
  constructor
  · intro ⟨o1, o2, o3⟩
    rw [if_neg (fun q => by have := nI_inj (by omega) (by omega) q; omega), pk_sub (by omega), if_neg (show ¬ (3 : Int32) < nI (p + min (e - p) 4 - p) from nI_nlt (a := 3) (by omega) (by omega)), if_neg (nI_pos (by omega)), show min (e - p) 4 = e - p by omega, if_neg (fun q => by have := (hH _ (hv (e - p) (by omega) (by omega))).mp q; omega), show p + (e - p) = e by omega]
  · intro hno
    refine ⟨p + min (e - p) 4, nI (vF b p (min (e - p) 4)), by omega, by omega, ?_⟩
    by_cases q1 : e = p
    · subst q1
      rw [Nat.sub_self, Nat.zero_min, Nat.add_zero, if_pos rfl]
    · rw [if_neg (fun q => by have := nI_inj (by omega) (by omega) q; omega), pk_sub (by omega)]
      by_cases q2 : 3 < e - p
      · rw [if_pos (show (3 : Int32) < nI (p + min (e - p) 4 - p) from nI_lt (a := 3) (by omega) (by omega))]
      · rw [if_neg (show ¬ (3 : Int32) < nI (p + min (e - p) 4 - p) from nI_nlt (a := 3) (by omega) (by omega)), if_neg (nI_pos (by omega)), if_pos ((hH _ hvm).mpr (by
          have h8 : min (e - p) 4 = e - p := by omega
          rw [h8]
          exact Nat.not_lt.mp fun h9 => hno ⟨by omega, by omega, h9⟩))]
end RPS

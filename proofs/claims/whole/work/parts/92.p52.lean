-- PURE STAGE: texts, as the class cuts them
def kdR (b : Nat → Nat) (p e : Nat) : Nat → Nat → Nat
  | 0, _ => 30
  | d + 1, lo => if wAt b p e (kindS.getD lo 0) = true then lo else kdR b p e d (lo + 1)
theorem kdR_s {b : Nat → Nat} {p e d lo : Nat} : kdR b p e (d + 1) lo = if wAt b p e (kindS.getD lo 0) = true then lo else kdR b p e d (lo + 1) := rfl
def kdF (b : Nat → Nat) (n p : Nat) : Nat := if dgt (b p) = true then 28 else kdR b p (stF b n p) 31 0
def numI (b : Nat → Nat) (n p : Nat) : Int32 := if dgt (b p) = true then nI (if 3 < stF b n p - p then 1000 else vF b p (stF b n p - p)) else -1
def posI (b : Nat → Nat) (n : Nat) : Nat → Nat
  | 0 => skF b n 0
  | i + 1 => skF b n (stF b n (posI b n i))
/-- a text's bytes, and the things it is cut into -/
def TBs (t : Nat) (b : Nat → Nat) (n : Nat) (σ : Mem) : Prop := n ≤ 400 ∧ σ t 6 = nI n ∧ (∀ j, j < n → σ (t + 2) j = nI (b j)) ∧ ∀ j, j < n → b j ≤ 255
def TTk (t : Nat) (b : Nat → Nat) (n k : Nat) (σ : Mem) : Prop := σ t 5 = nI k ∧ ∀ i, i < k → posI b n i < n ∧ σ (t + 3) i = nI (kdF b n (posI b n i)) ∧ σ (t + 4) i = nI (posI b n i) ∧ σ (t + 5) i = nI (stF b n (posI b n i)) ∧ σ (t + 6) i = numI b n (posI b n i)
theorem kdR_le {b : Nat → Nat} {p e : Nat} : ∀ d lo, lo + d ≤ 31 → kdR b p e d lo ≤ 30 := by
  intro d
  induction d with
  | zero => intro lo _; exact Nat.le_refl 30
  | succ d ih =>
    intro lo h
    rw [kdR_s]
    split
    · omega
    · exact ih (lo + 1) (by omega)
theorem kdF_le {b : Nat → Nat} {n p : Nat} : kdF b n p ≤ 30 := by
  unfold kdF
  split
  · omega
  · exact kdR_le 31 0 (by omega)
section CUT
variable {t : Nat} {b : Nat → Nat} {n : Nat} {σ : Mem}
theorem c_isL {c : Nat} (hc : c ≤ 255) : F_Text_isLetter σ (nI c) = if ltr c = true then 1 else 0 := by
  unfold F_Text_isLetter ltr
  by_cases c1 : c < 97
  · rw [if_pos (show nI c < 97 from nI_lt (b := 97) c1 (by omega)), decide_eq_false (by omega), if_neg (by decide)]
  · rw [if_neg (show ¬ nI c < 97 from nI_nlt (b := 97) (by omega) (by omega))]
    by_cases c2 : 122 < c
    · rw [if_pos (show (122 : Int32) < nI c from nI_lt (a := 122) c2 (by omega)), decide_eq_false (by omega), if_neg (by decide)]
    · rw [if_neg (show ¬ (122 : Int32) < nI c from nI_nlt (a := 122) (by omega) (by omega)), decide_eq_true (by omega), if_pos rfl]
theorem c_isD {c : Nat} (hc : c ≤ 255) : F_Text_isDigit σ (nI c) = if dgt c = true then 1 else 0 := by
  unfold F_Text_isDigit dgt
  by_cases c1 : c < 48
  · rw [if_pos (show nI c < 48 from nI_lt (b := 48) c1 (by omega)), decide_eq_false (by omega), if_neg (by decide)]
  · rw [if_neg (show ¬ nI c < 48 from nI_nlt (b := 48) (by omega) (by omega))]
    by_cases c2 : 57 < c
    · rw [if_pos (show (57 : Int32) < nI c from nI_lt (a := 57) c2 (by omega)), decide_eq_false (by omega), if_neg (by decide)]
    · rw [if_neg (show ¬ (57 : Int32) < nI c from nI_nlt (a := 57) (by omega) (by omega)), decide_eq_true (by omega), if_pos rfl]
theorem TBs.at_ (h : TBs t b n σ) {j : Nat} (hj : j < n) : F_Row_at σ (t + 1) 400 (nI j) = nI (b j) := by
  have := h.1
  rw [p_at (by omega) (by decide)]
  exact h.2.2.1 j hj
theorem c_stop (h : TBs t b n σ) {p : Nat} (hp : p < n) : F_Text_stopOf σ t (nI p) = some (nI (stF b n p)) := by
  have hn := h.1
  have hb := h.2.2.2 p hp
  unfold F_Text_stopOf
  rw [h.at_ hp, c_isL hb, c_isD hb, bind_T, bind_T, bind_T, nI_1]
  have run : ∀ (c : Nat → Bool) (x3 x4 : Int32), (∀ v, v < n → F_Text_stopOf_29_b σ t (nI p) x3 x4 (nI v) = if c (b v) = true then some (.inl (nI (v + 1))) else some (.inr (nI v))) → whl (fun s => F_Text_stopOf_29_b σ t (nI p) x3 x4 s) FUEL (nI (p + 1)) = some (nI (rn c b (n - (p + 1)) (p + 1))) := fun c x3 x4 hF => by
    obtain ⟨r1, r2, r3, r4⟩ := rn_is (c := c) (b := b) (n - (p + 1)) (p + 1)
    have e := whl_n (F := fun s => F_Text_stopOf_29_b σ t (nI p) x3 x4 s) (fun k => nI (p + 1 + k)) (rn c b (n - (p + 1)) (p + 1) - (p + 1)) (nI (rn c b (n - (p + 1)) (p + 1))) (by unfold FUEL; omega) (fun k hk => by
      rw [hF _ (by omega), r4 _ (by omega) (by omega), if_pos rfl]
      rfl) (by
      rw [show p + 1 + (rn c b (n - (p + 1)) (p + 1) - (p + 1)) = rn c b (n - (p + 1)) (p + 1) by omega]
      by_cases c9 : rn c b (n - (p + 1)) (p + 1) < n
      · rw [hF _ c9, r3 (by omega), if_neg (by decide)]
      · unfold F_Text_stopOf_29_b
        rw [h.2.1, if_neg (nI_nlt (by omega) (by omega))])
    exact e
  unfold stF
  by_cases cl : ltr (b p) = true
  · have cd : dgt (b p) = false := by
      unfold ltr at cl
      have := of_decide_eq_true cl
      exact decide_eq_false (by omega)
    rw [if_pos cl, if_pos cl, cd, if_neg (by decide), run ltr 1 0 (fun v hv => by
      have hbv := h.2.2.2 v hv
      unfold F_Text_stopOf_29_b
      rw [h.2.1, if_pos (nI_lt hv (by omega)), if_neg (by decide), h.at_ hv, c_isL hbv, if10, if_pos rfl, bind_T, nI_1]), ob_s]
  · rw [if_neg cl, if_neg cl]
    by_cases cd : dgt (b p) = true
    · rw [if_pos cd, if_pos cd, run dgt 0 1 (fun v hv => by
        have hbv := h.2.2.2 v hv
        unfold F_Text_stopOf_29_b
        rw [h.2.1, if_pos (nI_lt hv (by omega)), if_pos rfl, if_neg (by decide), h.at_ hv, c_isD hbv, if10, bind_T, nI_1]), ob_s]
    · rw [if_neg cd, if_neg cd, run (fun _ => false) 0 0 (fun v hv => by
        unfold F_Text_stopOf_29_b
        rw [h.2.1, if_pos (nI_lt hv (by omega)), if_pos rfl, if_pos rfl, if_neg (by decide)]), ob_s]
      congr 2
      cases n - (p + 1) with
      | zero => rfl
      | succ d => rw [rn_s, if_neg (by decide)]
theorem c_spelt1 (h : TBs t b n σ) {p e v : Nat} (hpe : p < e) (he : e ≤ n) (hv : v < 31) : F_Kind_isSpelt σ (nI v) (t + 1) 400 (nI p) (nI e) = some (if wAt b p e (kindS.getD v 0) = true then 1 else 0) := by
  have hn := h.1
  have hk : kindS.getD v 0 < 29 := (by decide : ∀ v, v < 31 → kindS.getD v 0 < 29) v hv
  have l9 := lenS_le _ hk
  unfold F_Kind_isSpelt
  rw [p_cl (by omega), pk_sub (by omega)]
  obtain ⟨w, hw0⟩ : ∃ w, kindS.getD v 0 = w := ⟨_, rfl⟩
  rw [hw0] at hk l9 ⊢
  by_cases c : sLen w = nI (e - p)
  · have c' : lenS.getD w 0 = e - p := nI_inj (by omega) (by omega) c
    rw [if_pos c]
    obtain ⟨y, y1, y2⟩ := whl_inv (F := fun s => F_Kind_isSpelt_18_b σ (nI v) (t + 1) 400 (nI p) (nI e) s) (fun k s => k ≤ lenS.getD w 0 ∧ s = nI k ∧ ∀ u, u < k → nI (b (p + u)) = (bytS.getD w []).getD u 0) (fun y => sumE y (fun _ => some 1) (fun r8 => some r8) = some (if wAt b p e w = true then (1 : Int32) else 0)) (fun k s hI => by
      obtain ⟨hk2, rfl, hu⟩ := hI
      unfold F_Kind_isSpelt_18_b sLen sCh
      rw [p_cl (by omega), hw0]
      by_cases c2 : k < lenS.getD w 0
      · rw [if_pos (show nI k < Int32.ofNat (lenS.getD w 0) from nI_lt c2 (by omega)), p_inb c2 (by omega), chk_t, p_cl (by omega), nI_add, h.at_ (by omega)]
        by_cases e2 : (bytS.getD w []).getD k 0 = nI (b (p + k))
        · rw [if_pos e2, bind_T, nI_1]
          refine Or.inr ⟨_, rfl, by omega, rfl, fun u hu2 => ?_⟩
          by_cases eu : u = k
          · subst eu; exact e2.symm
          · exact hu u (by omega)
        · rw [if_neg e2]
          refine Or.inl ⟨_, rfl, ?_⟩
          rw [if_neg (fun hw2 => e2 ((wAt_is.mp hw2).2 k c2).symm)]
          rfl
      · obtain rfl : k = lenS.getD w 0 := by omega
        rw [if_neg (show ¬ nI (lenS.getD w 0) < Int32.ofNat (lenS.getD w 0) from nI_nlt (by omega) (by omega))]
        refine Or.inl ⟨_, rfl, ?_⟩
        rw [if_pos (wAt_is.mpr ⟨c', hu⟩)]
        rfl) (lenS.getD w 0) (fun s h => by have := h.1; omega) 0 (lenS.getD w 0) FUEL 0 (by omega) (by unfold FUEL; omega) ⟨by omega, nI_0.symm, fun u hu => by omega⟩
    rw [y1, ob_s, y2]
  · rw [if_neg c, if_neg (fun hw => c (by
      have := (wAt_is.mp hw).1
      unfold sLen
      rw [this]
      rfl))]
theorem c_spelt (h : TBs t b n σ) {p e : Nat} (hpe : p < e) (he : e ≤ n) : F_Kind_spelt σ (t + 1) 400 (nI p) (nI e) = some (nI (kdR b p e 31 0)) := by
  have key : ∀ d lo, lo + d = 31 → ∃ y, forGO (fun i (_ : Unit) => F_Kind_spelt_11_b σ (t + 1) 400 (nI p) (nI e) i) d (nI lo) () = some y ∧ sumE y (fun _ => some 30) (fun r => some r) = some (nI (kdR b p e d lo)) := by
    intro d
    induction d with
    | zero => intro lo _; exact ⟨_, rfl, rfl⟩
    | succ d ih =>
      intro lo hlo
      have eS : F_Kind_spelt_11_b σ (t + 1) 400 (nI p) (nI e) (nI lo) = some (if wAt b p e (kindS.getD lo 0) = true then .inr (nI lo) else .inl ()) := by
        unfold F_Kind_spelt_11_b
        rw [p_inb (by omega) (by decide), chk_t, c_spelt1 h hpe he (by omega), ob_s, if10]
        cases wAt b p e (kindS.getD lo 0) <;> rfl
      rw [kdR_s]
      show ∃ y, (obind (F_Kind_spelt_11_b σ (t + 1) 400 (nI p) (nI e) (nI lo)) fun y => contO y fun _ => forGO _ d (nI lo + 1) ()) = some y ∧ _
      rw [eS, ob_s, nI_1]
      cases wAt b p e (kindS.getD lo 0) with
      | true => exact ⟨_, rfl, rfl⟩
      | false => exact ih (lo + 1) (by omega)
  obtain ⟨y, y1, y2⟩ := key 31 0 (by omega)
  rw [nI_0] at y1
  unfold F_Kind_spelt
  rw [show cnt 0 31 = 31 by decide, y1, ob_s]
  exact y2
theorem c_num (h : TBs t b n σ) {p e : Nat} (hpe : p ≤ e) (he : e ≤ n) (hd : ∀ k, p ≤ k → k < e → dgt (b k) = true) : F_Text_numberAt σ t (nI p) (nI e) = nI (if 3 < e - p then 1000 else vF b p (e - p)) := by
  have hn := h.1
  unfold F_Text_numberAt
  rw [pk_sub hpe]
  by_cases c : 3 < e - p
  · rw [if_pos (show (3 : Int32) < nI (e - p) from nI_lt (a := 3) c (by omega)), if_pos c]
    rfl
  · rw [if_neg (show ¬ (3 : Int32) < nI (e - p) from nI_nlt (a := 3) (by omega) (by omega)), if_neg c, bind_T, p_cnt (by omega) (by omega)]
    rw [forS_itr]
    exact itr_inv (f := fun k s => F_Text_numberAt_16_b σ t (nI p) (nI e) (nI (p + k)) s) (fun k s => s = nI (vF b p k)) (s := (0 : Int32)) rfl (n := e - p) (fun k hk s hs => by
      subst hs
      have hb := of_decide_eq_true (hd (p + k) (by omega) (by omega))
      unfold F_Text_numberAt_16_b
      rw [h.at_ (by omega), bind_T, show nI (vF b p k) * 10 = nI (vF b p k * 10) from pk_mul _ 10, nI_add, show nI (vF b p k * 10 + b (p + k)) - 48 = nI (vF b p k * 10 + b (p + k) - 48) from pk_sub (b := 48) (by omega), Nat.mul_comm]
      rfl)
theorem c_add (h : TBs t b n σ) {p k : Nat} (hp : p < n) (hk : k < 400) (h5 : σ t 5 = nI k) : F_Text_addThing σ t (nI p) (nI (stF b n p)) = some (up (up (up (up (up σ (t + 3) k (nI (kdF b n p))) (t + 4) k (nI p)) (t + 5) k (nI (stF b n p))) (t + 6) k (numI b n p)) t 5 (nI (k + 1))) := by
  have hn := h.1
  have hb := h.2.2.2 p hp
  obtain ⟨e1, e2⟩ := stF_is (b := b) hp
  unfold F_Text_addThing
  rw [h5, if_neg (nI_pos (by omega)), if_pos (show nI k < 400 from nI_lt (b := 400) hk (by omega)), if_pos (show nI k < 400 from nI_lt (b := 400) hk (by omega)), if_pos (show nI k < 400 from nI_lt (b := 400) hk (by omega)), if_pos (show nI k < 400 from nI_lt (b := 400) hk (by omega)), h.at_ hp, c_isD hb, bind_T]
  unfold numI kdF
  by_cases cd : dgt (b p) = true
  · have hdr : ∀ j, p ≤ j → j < stF b n p → dgt (b j) = true := fun j j1 j2 => by
      have cl : ltr (b p) = false := by
        unfold dgt at cd
        have := of_decide_eq_true cd
        exact decide_eq_false (by omega)
      unfold stF at j2
      rw [cl, if_neg (by decide), if_pos cd] at j2
      by_cases ej : j = p
      · subst ej; exact cd
      · exact (rn_is (c := dgt) (b := b) (n - (p + 1)) (p + 1)).2.2.2 j (by omega) j2
    have hB : TBs t b n (up (up (up σ (t + 3) k 28) (t + 4) k (nI p)) (t + 5) k (nI (stF b n p))) := ⟨h.1, by rw [up_d (by omega), up_d (by omega), up_d (by omega)]; exact h.2.1, fun j hj => by rw [up_d (by omega), up_d (by omega), up_d (by omega)]; exact h.2.2.1 j hj, h.2.2.2⟩
    rw [if_pos cd, if_pos cd, if_pos cd, if_neg (by decide), p_cl (by omega), bind_T]
    simp only [bind_T]
    rw [up_d (by omega), h5, p_inb hk (by decide), chk_t, p_cl (by omega), up_d (by omega), up_d (by omega), h5, p_inb hk (by decide), chk_t, p_cl (by omega), if_neg (by decide), up_d (by omega), up_d (by omega), up_d (by omega), h5, p_inb hk (by decide), chk_t, p_cl (by omega), c_num hB (by omega) e2 hdr]
    rw [up_d (by omega), up_d (by omega), up_d (by omega), up_d (by omega), h5, nI_1]
    rfl
  · rw [if_neg cd, if_neg cd, if_neg cd, if_pos rfl, c_spelt h e1 e2, ob_s]
    have hkd := kdR_le (b := b) (p := p) (e := stF b n p) 31 0 (by omega)
    rw [p_inb (by omega) (by decide), chk_t, p_cl (by omega)]
    simp only [bind_T]
    rw [up_d (by omega), h5, p_inb hk (by decide), chk_t, p_cl (by omega), up_d (by omega), up_d (by omega), h5, p_inb hk (by decide), chk_t, p_cl (by omega), if_pos trivial, up_d (by omega), up_d (by omega), up_d (by omega), h5, p_inb hk (by decide), chk_t, p_cl (by omega)]
    rw [up_d (by omega), up_d (by omega), up_d (by omega), up_d (by omega), h5, nI_1]
theorem posI_le {i : Nat} (h : ∀ j, j < i → posI b n j < n) : posI b n i ≤ n := by
  cases i with
  | zero => exact (skF_is (Nat.zero_le n)).2.1
  | succ i => exact (skF_is (stF_is (h i (by omega))).2).2.1
/-- all things of a text -/
theorem c_cuts : ∀ (d f k : Nat) (lo : Int32) (σ : Mem), n - f ≤ d → f ≤ n → k ≤ f → skF b n f = posI b n k → TBs t b n σ → TTk t b n k σ →
    ∃ f' T σ1, omap mrg (forGO (fun i s => F_Text_cut_9_b t i s.1 s.2) d lo (nI f, σ)) = some (nI f', σ1) ∧ TBs t b n σ1 ∧ TTk t b n T σ1 ∧ posI b n T = n ∧ T ≤ 400 ∧ ∀ q j, (q < t ∨ t + 6 < q ∨ q = t + 1 ∨ q = t + 2 ∨ (q = t ∧ j ≠ 5)) → σ1 q j = σ q j := by
  intro d
  induction d with
  | zero =>
    intro f k lo σ h1 h2 h3 h4 h5 h6
    obtain rfl : f = n := by omega
    exact ⟨f, k, σ, rfl, h5, h6, by rw [← h4]; exact skF_fix (Or.inl rfl), by have := h5.1; omega, fun _ _ _ => rfl⟩
  | succ d ih =>
    intro f k lo σ h1 h2 h3 h4 h5 h6
    have hn := h5.1
    show ∃ f' T σ1, omap mrg (obind (F_Text_cut_9_b t lo (nI f) σ) fun y => contO y fun s' => forGO _ d (lo + 1) s') = some (nI f', σ1) ∧ _
    by_cases c : f < n
    · obtain ⟨s1, s2⟩ := stF_is (b := b) c
      have hb := h5.2.2.2 f c
      by_cases cs : b f = 32
      · have es : stF b n f = f + 1 := by
          unfold stF ltr dgt
          rw [cs, if_neg (by decide), if_neg (by decide)]
        have ek : skF b n (f + 1) = posI b n k := by
          rw [← h4]
          unfold skF
          rw [show n - f = (n - (f + 1)) + 1 by omega, rn_s, if_pos (by unfold spc; rw [cs]; decide)]
        have eS : F_Text_cut_9_b t lo (nI f) σ = some (.inl (nI (f + 1), σ)) := by
          unfold F_Text_cut_9_b
          rw [h5.2.1, if_pos (nI_lt c (by omega)), c_stop h5 c, ob_s, h5.at_ c, cs, if_pos (by decide), es]
        rw [eS]
        exact ih (f + 1) k (lo + 1) σ (by omega) (by omega) (by omega) ek h5 h6
      · have ef : posI b n k = f := by rw [← h4]; exact skF_fix (Or.inr cs)
        have eS : F_Text_cut_9_b t lo (nI f) σ = some (.inl (nI (stF b n f), up (up (up (up (up σ (t + 3) k (nI (kdF b n f))) (t + 4) k (nI f)) (t + 5) k (nI (stF b n f))) (t + 6) k (numI b n f)) t 5 (nI (k + 1)))) := by
          unfold F_Text_cut_9_b
          rw [h5.2.1, if_pos (nI_lt c (by omega)), c_stop h5 c, ob_s, h5.at_ c, if_neg (show ¬ nI (b f) = 32 from fun e => cs (nI_inj (b := 32) (by omega) (by omega) e)), c_add h5 c (by omega) h6.1, ob_s]
        rw [eS]
        obtain ⟨f', T, σ1, g1, g2, g3, g4, g5, g6⟩ := ih (stF b n f) (k + 1) (lo + 1) (up (up (up (up (up σ (t + 3) k (nI (kdF b n f))) (t + 4) k (nI f)) (t + 5) k (nI (stF b n f))) (t + 6) k (numI b n f)) t 5 (nI (k + 1))) (by omega) s2 (by omega) (by show _ = skF b n (stF b n (posI b n k)); rw [ef]) ⟨h5.1, by rw [up_d (by omega), up_d (by omega), up_d (by omega), up_d (by omega), up_d (by omega)]; exact h5.2.1, fun j hj => by rw [up_d (by omega), up_d (by omega), up_d (by omega), up_d (by omega), up_d (by omega)]; exact h5.2.2.1 j hj, h5.2.2.2⟩ ⟨up_s, fun i hi => by
          by_cases ei : i = k
          · subst ei
            rw [ef]
            refine ⟨c, ?_, ?_, ?_, ?_⟩
            · rw [up_d (by omega), up_d (by omega), up_d (by omega), up_d (by omega), up_s]
            · rw [up_d (by omega), up_d (by omega), up_d (by omega), up_s]
            · rw [up_d (by omega), up_d (by omega), up_s]
            · rw [up_d (by omega), up_s]
          · obtain ⟨w1, w2, w3, w4, w5⟩ := h6.2 i (by omega)
            refine ⟨w1, ?_, ?_, ?_, ?_⟩
            · rw [up_d (by omega), up_d (by omega), up_d (by omega), up_d (by omega), up_d (by omega)]; exact w2
            · rw [up_d (by omega), up_d (by omega), up_d (by omega), up_d (by omega), up_d (by omega)]; exact w3
            · rw [up_d (by omega), up_d (by omega), up_d (by omega), up_d (by omega), up_d (by omega)]; exact w4
            · rw [up_d (by omega), up_d (by omega), up_d (by omega), up_d (by omega), up_d (by omega)]; exact w5⟩
        exact ⟨f', T, σ1, g1, g2, g3, g4, g5, fun q j hq => by rw [g6 q j hq, up_d (by omega), up_d (by omega), up_d (by omega), up_d (by omega), up_d (by omega)]⟩
    · obtain rfl : f = n := by omega
      have eS : F_Text_cut_9_b t lo (nI f) σ = some (.inr (nI f, σ)) := by
        unfold F_Text_cut_9_b
        rw [h5.2.1, if_neg (nI_nlt (by omega) (by omega))]
      rw [eS]
      exact ⟨f, k, σ, rfl, h5, h6, by rw [← h4]; exact skF_fix (Or.inl rfl), by omega, fun _ _ _ => rfl⟩
theorem c_cut (h : TBs t b n σ) : ∃ T σ1, F_Text_cut σ t = some σ1 ∧ TBs t b n σ1 ∧ TTk t b n T σ1 ∧ posI b n T = n ∧ T ≤ 400 ∧ ∀ q j, (q < t ∨ t + 6 < q ∨ q = t + 1 ∨ q = t + 2 ∨ (q = t ∧ j ≠ 5)) → σ1 q j = σ q j := by
  obtain ⟨f', T, σ1, g1, g2, g3, g4, g5, g6⟩ := c_cuts (t := t) (b := b) (n := n) 400 0 0 0 (up σ t 5 0) (by have := h.1; omega) (Nat.zero_le n) (Nat.le_refl 0) rfl ⟨h.1, by rw [up_d (by omega)]; exact h.2.1, fun j hj => by rw [up_d (by omega)]; exact h.2.2.1 j hj, h.2.2.2⟩ ⟨by rw [up_s]; exact nI_0.symm, fun i hi => by omega⟩
  rw [nI_0] at g1
  unfold F_Text_cut
  rw [bind_T, show cnt 0 400 = 400 by decide, g1, ob_s]
  exact ⟨T, σ1, rfl, g2, g3, g4, g5, fun q j hq => by rw [g6 q j hq, up_d (by omega)]⟩
/-- the thing that the class has before it -/
def CTk (t : Nat) (b : Nat → Nat) (n T i : Nat) (σ : Mem) : Prop := (TBs t b n σ ∧ TTk t b n T σ ∧ posI b n T = n ∧ T ≤ 400 ∧ i ≤ T) ∧ (σ t 7 = nI i ∧ σ t 12 = -1) ∧ σ t 9 = nI (posI b n i) ∧ (i < T → σ t 8 = nI (kdF b n (posI b n i)) ∧ σ t 10 = nI (stF b n (posI b n i)) ∧ σ t 11 = numI b n (posI b n i)) ∧ (i = T → σ t 8 = 29 ∧ σ t 10 = nI n ∧ σ t 11 = -1)
theorem c_adv {T i : Nat} (h1 : TBs t b n σ) (h2 : TTk t b n T σ) (h3 : posI b n T = n) (h4 : T ≤ 400) (hi : i ≤ T) (h7 : σ t 7 + 1 = nI i) (h12 : σ t 12 = -1) : ∃ σ1, F_Text_advance σ t = some σ1 ∧ CTk t b n T i σ1 ∧ ∀ q j, (q ≠ t ∨ j < 7 ∨ 11 < j) → σ1 q j = σ q j := by
  have hn := h1.1
  have fr : ∀ (v8 v9 v10 v11 : Int32) (q j : Nat), (q ≠ t ∨ j < 7 ∨ 11 < j) → up (up (up (up (up σ t 7 (nI i)) t 8 v8) t 9 v9) t 10 v10) t 11 v11 q j = σ q j := fun v8 v9 v10 v11 q j hq => by
    rw [up_d (by omega), up_d (by omega), up_d (by omega), up_d (by omega), up_d (by omega)]
  have keep : ∀ (v8 v9 v10 v11 : Int32), TBs t b n (up (up (up (up (up σ t 7 (nI i)) t 8 v8) t 9 v9) t 10 v10) t 11 v11) ∧ TTk t b n T (up (up (up (up (up σ t 7 (nI i)) t 8 v8) t 9 v9) t 10 v10) t 11 v11) := fun v8 v9 v10 v11 => by
    refine ⟨⟨hn, by rw [fr _ _ _ _ t 6 (by omega)]; exact h1.2.1, fun j hj => by rw [fr _ _ _ _ _ j (by omega)]; exact h1.2.2.1 j hj, h1.2.2.2⟩, by rw [fr _ _ _ _ t 5 (by omega)]; exact h2.1, fun u hu => ?_⟩
    rw [fr _ _ _ _ _ u (by omega), fr _ _ _ _ _ u (by omega), fr _ _ _ _ _ u (by omega), fr _ _ _ _ _ u (by omega)]
    exact h2.2 u hu
  unfold F_Text_advance
  simp only [bind_T]
  rw [h7]
  simp (disch := omega) only [up_d, up_s]
  rw [h1.2.1, h2.1, if_neg (nI_pos (by omega))]
  by_cases c : i < T
  · obtain ⟨w1, w2, w3, w4, w5⟩ := h2.2 i c
    have hk := kdF_le (b := b) (n := n) (p := posI b n i)
    have l400 : nI i < (400 : Int32) := nI_lt (b := 400) (by omega) (by omega)
    rw [if_pos (nI_lt c (by omega)), if_pos l400, if_pos l400, if_pos l400, if_pos l400, p_cl (by omega), w2, if_neg (nI_pos (by omega)), p_inb (by omega) (by decide), chk_t, chk_t, chk_t, w3, w4, w5]
    have eq : up (up (up (up (up (up (up (up (up σ t 7 (nI i)) t 8 29) t 9 (nI n)) t 10 (nI n)) t 11 (-1)) t 8 (nI (kdF b n (posI b n i)))) t 9 (nI (posI b n i))) t 10 (nI (stF b n (posI b n i)))) t 11 (numI b n (posI b n i)) = up (up (up (up (up σ t 7 (nI i)) t 8 (nI (kdF b n (posI b n i)))) t 9 (nI (posI b n i))) t 10 (nI (stF b n (posI b n i)))) t 11 (numI b n (posI b n i)) := by
      funext x y
      unfold up
      by_cases c1 : x = t ∧ y = 11
      · simp only [if_pos c1]
      · simp only [if_neg c1]
        by_cases c2 : x = t ∧ y = 10
        · simp only [if_pos c2]
        · simp only [if_neg c2]
          by_cases c3 : x = t ∧ y = 9
          · simp only [if_pos c3]
          · simp only [if_neg c3]
            by_cases c4 : x = t ∧ y = 8
            · simp only [if_pos c4]
            · simp only [if_neg c4]
    rw [eq]
    obtain ⟨k1, k2⟩ := keep (nI (kdF b n (posI b n i))) (nI (posI b n i)) (nI (stF b n (posI b n i))) (numI b n (posI b n i))
    refine ⟨_, rfl, ⟨⟨k1, k2, h3, h4, hi⟩, ⟨?_, (fr _ _ _ _ t 12 (by omega)).trans h12⟩, ?_, fun _ => ⟨?_, ?_, up_s⟩, fun e => by omega⟩, fr _ _ _ _⟩
    · rw [up_d (by omega), up_d (by omega), up_d (by omega), up_d (by omega), up_s]
    · rw [up_d (by omega), up_d (by omega), up_s]
    · rw [up_d (by omega), up_d (by omega), up_d (by omega), up_s]
    · rw [up_d (by omega), up_s]
  · obtain rfl : i = T := by omega
    rw [if_neg (nI_nlt (by omega) (by omega))]
    obtain ⟨k1, k2⟩ := keep 29 (nI n) (nI n) (-1)
    refine ⟨_, rfl, ⟨⟨k1, k2, h3, h4, hi⟩, ⟨?_, (fr _ _ _ _ t 12 (by omega)).trans h12⟩, ?_, fun e => by omega, fun _ => ⟨?_, ?_, up_s⟩⟩, fr _ _ _ _⟩
    · rw [up_d (by omega), up_d (by omega), up_d (by omega), up_d (by omega), up_s]
    · rw [up_d (by omega), up_d (by omega), up_s, h3]
    · rw [up_d (by omega), up_d (by omega), up_d (by omega), up_s]
    · rw [up_d (by omega), up_s]
end CUT

-- PURE STAGE: class and reference at one place in a text
theorem w_first : ∀ v, v < 28 → ∃ c, c < 48 ∧ (bytS.getD v []).getD 0 0 = nI c ∨ 57 < c ∧ c < 256 ∧ (bytS.getD v []).getD 0 0 = nI c := by
  have h : ∀ v, v < 28 → (List.range 256).any (fun c => (decide (c < 48) || decide (57 < c)) && decide ((bytS.getD v []).getD 0 0 = nI c)) = true := by decide +kernel
  intro v hv
  obtain ⟨c, c1, c2⟩ := List.any_eq_true.mp (h v hv)
  rw [Bool.and_eq_true, Bool.or_eq_true] at c2
  have c3 := List.mem_range.mp c1
  have c4 := of_decide_eq_true c2.2
  rcases c2.1 with q | q
  · exact ⟨c, Or.inl ⟨of_decide_eq_true q, c4⟩⟩
  · exact ⟨c, Or.inr ⟨of_decide_eq_true q, c3, c4⟩⟩
theorem w_dist : ∀ v, v < 28 → ∀ w, w < 28 → lenS.getD v 0 = lenS.getD w 0 → (∀ k, k < lenS.getD v 0 → (bytS.getD v []).getD k 0 = (bytS.getD w []).getD k 0) → v = w := by decide +kernel
theorem w_pos : ∀ v, v < 28 → 0 < lenS.getD v 0 ∧ kindS.getD v 0 = v := by decide
theorem wAt_one {b : Nat → Nat} {p e v w : Nat} (hv : v < 28) (hw : w < 28) (h1 : wAt b p e v = true) (h2 : wAt b p e w = true) : v = w := by
  obtain ⟨a1, a2⟩ := wAt_is.mp h1
  obtain ⟨b1, b2⟩ := wAt_is.mp h2
  exact w_dist v hv w hw (a1.trans b1.symm) fun k hk => (a2 k hk).symm.trans (b2 k (by omega))
theorem kdR_of {b : Nat → Nat} {p e v : Nat} : ∀ d lo, kdR b p e d lo = v → v = 30 ∨ wAt b p e (kindS.getD v 0) = true := by
  intro d
  induction d with
  | zero => intro lo h; exact Or.inl h.symm
  | succ d ih =>
    intro lo h
    rw [kdR_s] at h
    by_cases c : wAt b p e (kindS.getD lo 0) = true
    · rw [if_pos c] at h
      subst h
      exact Or.inr c
    · rw [if_neg c] at h
      exact ih (lo + 1) h
theorem kdR_to {b : Nat → Nat} {p e v : Nat} (hv : v < 28) (hw : wAt b p e v = true) : ∀ d lo, lo ≤ v → v < lo + d → kdR b p e d lo = v := by
  intro d
  induction d with
  | zero => intro lo h1 h2; omega
  | succ d ih =>
    intro lo h1 h2
    rw [kdR_s]
    have hlo := (w_pos lo (by omega)).2
    by_cases c : wAt b p e (kindS.getD lo 0) = true
    · rw [if_pos c]
      rw [hlo] at c
      exact wAt_one (by omega) hv c hw
    · rw [if_neg c]
      refine ih (lo + 1) ?_ (by omega)
      by_cases e9 : lo = v
      · subst e9
        rw [hlo] at c
        exact absurd hw c
      · omega
theorem kdF_w {b : Nat → Nat} {n p v : Nat} (hb : b p ≤ 255) (hv : v < 28) : kdF b n p = v ↔ wAt b p (stF b n p) v = true := by
  unfold kdF
  by_cases cd : dgt (b p) = true
  · rw [if_pos cd]
    constructor
    · intro h; omega
    · intro h
      exfalso
      have h0 := (wAt_is.mp h).2 0 (w_pos v hv).1
      rw [Nat.add_zero] at h0
      unfold dgt at cd
      have cd := of_decide_eq_true cd
      obtain ⟨c, hc⟩ := w_first v hv
      rcases hc with ⟨c1, c2⟩ | ⟨c1, c2, c3⟩
      · rw [c2] at h0
        have := nI_inj (by omega) (by omega) h0
        omega
      · rw [c3] at h0
        have := nI_inj (by omega) (by omega) h0
        omega
  · rw [if_neg cd]
    constructor
    · intro h
      rcases kdR_of _ _ h with h1 | h1
      · omega
      · rw [(w_pos v hv).2] at h1
        exact h1
    · intro h
      exact kdR_to hv h 31 0 (Nat.zero_le v) (by omega)
def SY (t : Nat) (b : Nat → Nat) (n T i a : Nat) (σ s : Mem) : Prop := CTk t b n T i σ ∧ RP b n a s ∧ skF b n a = posI b n i ∧ s 333 12 = -1
section SYN
variable {t : Nat} {b : Nat → Nat} {n T i a : Nat} {σ s : Mem}
theorem CTk.pos (h : CTk t b n T i σ) : posI b n i ≤ n ∧ (posI b n i < n ↔ i < T) := by
  obtain ⟨⟨h1, h2, h3, h4, h5⟩, -⟩ := h
  by_cases c : i < T
  · have := (h2.2 i c).1
    exact ⟨by omega, fun _ => c, fun _ => this⟩
  · obtain rfl : i = T := by omega
    rw [h3]
    exact ⟨Nat.le_refl _, fun h => by omega, fun h => by omega⟩
theorem CTk.kind (h : CTk t b n T i σ) {v : Nat} (hv : v < 28) : σ t 8 = nI v ↔ (posI b n i < n ∧ wAt b (posI b n i) (stF b n (posI b n i)) v = true) := by
  obtain ⟨p1, p2⟩ := h.pos
  obtain ⟨⟨h1, h2, h3, h4, h5⟩, h6, h7, h8, h9⟩ := h
  by_cases c : i < T
  · have hp := p2.mpr c
    rw [(h8 c).1]
    have hk := kdF_le (b := b) (n := n) (p := posI b n i)
    constructor
    · intro e
      exact ⟨hp, (kdF_w (h1.2.2.2 _ hp) hv).mp (nI_inj (by omega) (by omega) e)⟩
    · intro e
      rw [(kdF_w (h1.2.2.2 _ hp) hv).mpr e.2]
  · have e := h9 (by omega)
    rw [e.1]
    constructor
    · intro e2
      have : 29 = v := nI_inj (a := 29) (by omega) (by omega) e2
      omega
    · intro e2
      exact absurd (p2.mp e2.1) c
theorem CTk.in31 (h : CTk t b n T i σ) : ∃ k, k < 31 ∧ σ t 8 = nI k := by
  obtain ⟨-, -, h8, h9⟩ := h.2
  by_cases c : i < T
  · have hk := kdF_le (b := b) (n := n) (p := posI b n i)
    exact ⟨_, by omega, (h8 c).1⟩
  · exact ⟨29, by omega, (h9 (by have := h.1.2.2.2.2; omega)).1⟩
theorem SY.at_ (h : SY t b n T i a σ s) {a' : Nat} (h1 : a' ≤ n) (h2 : skF b n a' = posI b n i) : SY t b n T i a' σ (up s 333 11 (nI a')) := ⟨h.1, h.2.1.at_ h1, h2, by rw [up_d (by omega)]; exact h.2.2.2⟩
theorem SY.here (h : SY t b n T i a σ s) : SY t b n T i (posI b n i) σ (up s 333 11 (nI (posI b n i))) := by
  have := skF_sk (b := b) h.2.1.2.1
  rw [h.2.2.1] at this
  exact h.at_ h.1.pos.1 this
theorem sy_place (h : SY t b n T i a σ s) : F_M_place s = some (up s 333 11 (nI (posI b n i)), nI (posI b n i)) := by rw [m_place h.2.1, h.2.2.1]
theorem sy_skip (h : SY t b n T i a σ s) : F_M_skip s = some (up s 333 11 (nI (posI b n i))) := by rw [m_skip h.2.1, h.2.2.1]
theorem sy_says (h : SY t b n T i a σ s) {v : Nat} (hv : v < 22) : (σ t 8 = nI v → F_M_says s v = some (up s 333 11 (nI (stF b n (posI b n i))), 1)) ∧ (σ t 8 ≠ nI v → F_M_says s v = some (up s 333 11 (nI (posI b n i)), 0)) := by
  have hk := h.1.kind (v := v) (by omega)
  rw [m_says h.2.1 hv, h.2.2.1]
  constructor
  · intro e
    rw [if_pos (hk.mp e), if_pos (hk.mp e)]
  · intro e
    rw [if_neg (fun q => e (hk.mpr q)), if_neg (fun q => e (hk.mpr q))]
def signs : List Nat := [59, 40, 41, 60, 62, 43]
theorem sign_1 : ∀ k, k < 6 → lenS.getD (22 + k) 0 = 1 ∧ (bytS.getD (22 + k) []).getD 0 0 = nI (signs.getD k 0) ∧ signs.getD k 0 < 97 ∧ (signs.getD k 0 < 48 ∨ 57 < signs.getD k 0) := by decide
theorem sign_w {p k : Nat} (hk : k < 6) (hb : b p ≤ 255) : wAt b p (stF b n p) (22 + k) = true ↔ b p = signs.getD k 0 := by
  obtain ⟨s1, s2, s3, s4⟩ := sign_1 k hk
  constructor
  · intro h
    have h0 := (wAt_is.mp h).2 0 (by omega)
    rw [Nat.add_zero, s2] at h0
    exact nI_inj (by omega) (by omega) h0
  · intro h
    have e : stF b n p = p + 1 := by
      unfold stF ltr dgt
      rw [h, decide_eq_false (by omega), if_neg (by decide), decide_eq_false (by omega), if_neg (by decide)]
    refine wAt_is.mpr ⟨by rw [s1, e]; omega, fun u hu => ?_⟩
    obtain rfl : u = 0 := by omega
    rw [Nat.add_zero, s2, h]
theorem sign_st {p k : Nat} (hk : k < 6) (h : b p = signs.getD k 0) : stF b n p = p + 1 := by
  obtain ⟨s1, s2, s3, s4⟩ := sign_1 k hk
  unfold stF ltr dgt
  rw [h, decide_eq_false (by omega), if_neg (by decide), decide_eq_false (by omega), if_neg (by decide)]
theorem sy_sign (h : SY t b n T i a σ s) {k : Nat} (hk : k < 6) : F_M_isSign s (nI (signs.getD k 0)) = some (up s 333 11 (nI (posI b n i)), if σ t 8 = nI (22 + k) then 1 else 0) ∧ (σ t 8 = nI (22 + k) → i < T ∧ stF b n (posI b n i) = posI b n i + 1) := by
  obtain ⟨s1, s2, s3, s4⟩ := sign_1 k hk
  have hkd := h.1.kind (v := 22 + k) (by omega)
  have hbp : posI b n i < n → b (posI b n i) ≤ 255 := fun hp => h.2.1.2.2.2.2.1 _ hp
  rw [m_sign h.2.1 (show signs.getD k 0 ≤ 255 by omega), h.2.2.1]
  constructor
  · by_cases c : σ t 8 = nI (22 + k)
    · have c2 := hkd.mp c
      rw [if_pos c, if_pos ⟨c2.1, (sign_w hk (hbp c2.1)).mp c2.2⟩]
    · rw [if_neg c, if_neg (fun q => c (hkd.mpr ⟨q.1, (sign_w hk (hbp q.1)).mpr q.2⟩))]
  · intro c
    have c2 := hkd.mp c
    exact ⟨h.1.pos.2.mp c2.1, sign_st hk ((sign_w hk (hbp c2.1)).mp c2.2)⟩
/-- on to the next thing -/
theorem sy_next (h : SY t b n T i a σ s) (hi : i < T) : ∃ σ1, F_Text_advance σ t = some σ1 ∧ SY t b n T (i + 1) (stF b n (posI b n i)) σ1 (up s 333 11 (nI (stF b n (posI b n i)))) ∧ ∀ q j, (q ≠ t ∨ j < 7 ∨ 11 < j) → σ1 q j = σ q j := by
  have hp := h.1.pos.2.mpr hi
  obtain ⟨⟨h1, h2, h3, h4, h5⟩, h7, -⟩ := h.1
  obtain ⟨σ1, e1, e2, e3⟩ := c_adv (i := i + 1) h1 h2 h3 h4 (by omega) (by rw [h7.1, nI_1]) h7.2
  exact ⟨σ1, e1, ⟨e2, h.2.1.at_ (stF_is hp).2, rfl, by rw [up_d (by omega)]; exact h.2.2.2⟩, e3⟩
/-- a number on both sides -/
theorem sy_num (h : SY t b n T i a σ s) {v2 : Int32} {H : Nat} (hH : ∀ v, v < 10000 → (v2 < nI v ↔ H ≤ v)) (hH2 : H ≤ 1000) :
    (∃ v, v < H ∧ i < T ∧ σ t 11 = nI v ∧ F_M_figures s 0 v2 = some (up s 333 11 (nI (stF b n (posI b n i))), nI v)) ∨
    ((σ t 11 = -1 ∨ ∃ x, H ≤ x ∧ x ≤ 1000 ∧ σ t 11 = nI x) ∧ ∃ a' v, a' ≤ n ∧ F_M_figures s 0 v2 = some (up (up s 333 11 (nI a')) 333 12 (nI (posI b n i)), v)) := by
  obtain ⟨m1, m2⟩ := m_fig h.2.1 h.2.2.2 hH
  rw [h.2.2.1] at m1 m2
  obtain ⟨p1, p2⟩ := h.1.pos
  have no : ¬ numOk b n (posI b n i) H → ∃ a' v, a' ≤ n ∧ F_M_figures s 0 v2 = some (up (up s 333 11 (nI a')) 333 12 (nI (posI b n i)), v) := fun hno => by
    obtain ⟨a', v, k1, -, k3⟩ := m2 hno
    exact ⟨a', v, k1, k3⟩
  obtain ⟨⟨h1, h2, h3, h4, h5⟩, h7, h8, h9, h10⟩ := h.1
  by_cases c : i < T
  · have hp := p2.mpr c
    have hb := h1.2.2.2 _ hp
    obtain ⟨-, -, e11⟩ := h9 c
    unfold numI at e11
    by_cases cd : dgt (b (posI b n i)) = true
    · have cl : ltr (b (posI b n i)) = false := by
        unfold dgt at cd
        have := of_decide_eq_true cd
        exact decide_eq_false (by omega)
      have es : stF b n (posI b n i) = dgE b n (posI b n i) := by
        unfold stF dgE
        rw [cl, if_neg (by decide), if_pos cd, show n - posI b n i = (n - (posI b n i + 1)) + 1 by omega, rn_s, if_pos cd]
      rw [if_pos cd, es] at e11
      have hlt := (stF_is (b := b) hp).1
      rw [es] at hlt
      by_cases c3 : 3 < dgE b n (posI b n i) - posI b n i
      · rw [if_pos c3] at e11
        exact Or.inr ⟨Or.inr ⟨1000, hH2, Nat.le_refl _, e11⟩, no fun q => by have := q.2.1; omega⟩
      · rw [if_neg c3] at e11
        by_cases c4 : vF b (posI b n i) (dgE b n (posI b n i) - posI b n i) < H
        · exact Or.inl ⟨_, c4, c, e11, by rw [es]; exact m1 ⟨hlt, by omega, c4⟩⟩
        · have hv := vF_lt (b := b) (p := posI b n i) (k := dgE b n (posI b n i) - posI b n i) (fun u hu => (rn_is (c := dgt) (b := b) (n - posI b n i) (posI b n i)).2.2.2 _ (by omega) (by unfold dgE at hu; omega))
          have h3 : 10 ^ (dgE b n (posI b n i) - posI b n i) ≤ 10 ^ 3 := Nat.pow_le_pow_right (by decide) (by omega)
          exact Or.inr ⟨Or.inr ⟨_, by omega, by omega, e11⟩, no fun q => c4 q.2.2⟩
    · rw [if_neg cd] at e11
      refine Or.inr ⟨Or.inl e11, no fun q => ?_⟩
      have q1 := q.1
      have : dgE b n (posI b n i) = posI b n i := by
        unfold dgE
        rw [show n - posI b n i = (n - (posI b n i + 1)) + 1 by omega, rn_s, if_neg cd]
      omega
  · have e := h10 (by omega)
    refine Or.inr ⟨Or.inl e.2.2, no fun q => ?_⟩
    have q1 := q.1
    have : posI b n i = n := by
      obtain rfl : i = T := by omega
      exact h3
    have h6 := (rn_is (c := dgt) (b := b) (n - posI b n i) (posI b n i)).2.1
    unfold dgE at q1
    omega
theorem c_take (h : CTk t b n T i σ) {v : Nat} (hv : v < 6000) (e : σ t 11 = nI v) {high : Nat} (hh : v ≤ high) (hh2 : high < 6000) : F_Text_takeNumber σ t (nI high) = obind (F_Text_advance σ t) fun z5 => some (z5, nI v) := by
  unfold F_Text_takeNumber
  rw [bind_T, e, if_neg (m1_ne v hv), if_neg (nI_nlt hh (by omega))]
theorem c_ref (h : CTk t b n T i σ) : F_Text_refuse σ t = (up σ t 12 (nI (posI b n i)), 0) := by
  unfold F_Text_refuse
  rw [h.2.2.1, bind_T]
theorem c_notake (h : CTk t b n T i σ) {high : Nat} (hh2 : high < 1000) (e : σ t 11 = -1 ∨ ∃ x, high + 1 ≤ x ∧ x ≤ 1000 ∧ σ t 11 = nI x) : F_Text_takeNumber σ t (nI high) = some (up σ t 12 (nI (posI b n i)), -1) := by
  unfold F_Text_takeNumber
  rw [c_ref h]
  rcases e with e | ⟨x, h1, h2, e⟩
  · rw [bind_T, if_pos e]; rfl
  · rw [bind_T, e, if_neg (m1_ne x (by omega)), if_pos (nI_lt (by omega) (by omega))]; rfl
/-- a fault was found; the rest is passed over -/
def FSt (b : Nat → Nat) (n w a : Nat) (s : Mem) : Prop := RP b n a s ∧ s 333 12 = nI w ∧ w ≤ n
theorem FSt.ne {w : Nat} (h : FSt b n w a s) : s 333 12 ≠ -1 := by
  have := h.1.1
  rw [h.2.1]
  exact m1_ne w (by have := h.2.2; omega)
theorem FSt.at_ {w a' : Nat} (h : FSt b n w a s) (ha : a' ≤ n) : FSt b n w a' (up s 333 11 (nI a')) := ⟨h.1.at_ ha, by rw [up_d (by omega)]; exact h.2.1, h.2.2⟩
theorem f_fig {w : Nat} (h : FSt b n w a s) (v1 v2 : Int32) : F_M_figures s v1 v2 = some (s, 0) := by
  unfold F_M_figures
  rw [if_neg h.ne]
theorem f_who {w : Nat} (h : FSt b n w a s) : F_M_who s = some (s, 0) := by
  unfold F_M_who
  rw [f_fig h, ob_s]
theorem f_place {w : Nat} (h : FSt b n w a s) : F_M_place s = some (up s 333 11 (nI (skF b n a)), nI (skF b n a)) := m_place h.1
theorem f_here {w : Nat} (h : FSt b n w a s) : FSt b n w (skF b n a) (up s 333 11 (nI (skF b n a))) := h.at_ (skF_is h.1.2.1).2.1
theorem f_other {w : Nat} (h : FSt b n w a s) (v : Int32) : F_M_other s v = some (up s 333 11 (nI (skF b n a)), 0) := by
  unfold F_M_other
  rw [f_place h, ob_s, f_who (f_here h), ob_s, if_neg (f_here h).ne]
theorem f_free {w : Nat} (h : FSt b n w a s) (v1 v2 : Int32) : F_M_free s v1 v2 = some s := by
  unfold F_M_free
  rw [if_neg h.ne]
theorem f_after {w : Nat} (h : FSt b n w a s) (i : Nat) (v1 v2 : Int32) : F_M_after s i v1 v2 = some (s, 0) := by
  unfold F_M_after
  rw [if_neg h.ne, f_fig h, ob_s]
theorem RP.flt (h : RP b n a s) {w : Nat} (hw : w ≤ n) : FSt b n w a (up s 333 12 (nI w)) := by
  obtain ⟨h1, h2, h3, h4, h5, h6⟩ := h
  exact ⟨⟨h1, h2, by rw [up_d (by omega)]; exact h3, by rw [up_d (by omega)]; exact h4, h5, h6.to (up_d (by omega)) (fun j => up_d (by omega)) (fun j _ _ => up_d (by omega)) h1⟩, up_s, hw⟩
end SYN

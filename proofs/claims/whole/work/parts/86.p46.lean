-- PURE STAGE: gifts, the class
def NX (Λ : FN) (T : Nat → Nat → Int32) (P k : Nat) (q : Int32) (mo i h : Nat) : Nat := if h = 0 then 0 else (hw (nI h + Λ (nI h) (T 14 k + nI i) q (bcn (insK T P k)) (likeS T k) (nI (min (mo + i) 9999)) (richB T k))).toNatClampNeg
theorem hw_cl (v : Int32) : hw v = nI (hw v).toNatClampNeg ∧ (hw v).toNatClampNeg ≤ 99 := by
  obtain ⟨n, h1, h2⟩ := hw_nat v
  rw [h2, p_cl (by omega)]
  exact ⟨rfl, h1⟩
theorem NX_le (Λ : FN) (T : Nat → Nat → Int32) (P k : Nat) (q : Int32) (mo i h : Nat) : NX Λ T P k q mo i h ≤ 99 := by
  unfold NX
  by_cases c : h = 0
  · rw [if_pos c]; omega
  · rw [if_neg c]; exact (hw_cl _).2
def LKR (m : Mem) (T : Nat → Nat → Int32) (P k : Nat) (q : Int32) (mo i : Nat) : Prop := m 112 1 = T 14 k + nI i ∧ m 112 2 = q ∧ m 112 3 = bcn (insK T P k) ∧ m 112 4 = likeS T k ∧ m 112 5 = nI (min (mo + i) 9999) ∧ m 112 6 = richB T k
theorem LKR.to {m m1 : Mem} {T : Nat → Nat → Int32} {P k mo i : Nat} {q : Int32} (h : LKR m T P k q mo i) (e : ∀ j, j ≠ 0 → m1 112 j = m 112 j) : LKR m1 T P k q mo i := by
  obtain ⟨a1, a2, a3, a4, a5, a6⟩ := h
  exact ⟨(e 1 (by omega)).trans a1, (e 2 (by omega)).trans a2, (e 3 (by omega)).trans a3, (e 4 (by omega)).trans a4, (e 5 (by omega)).trans a5, (e 6 (by omega)).trans a6⟩
theorem lk_bh {m : Mem} {Λ : FN} {T : Nat → Nat → Int32} {P k mo i h : Nat} {q : Int32} (hL : CLs m 20 Λ) (hk : LKR m T P k q mo i) (h0 : m 112 0 = nI h) (hh : h < 6000) : ∃ m1, F_Look_happyBehindMonth m 112 20 = some (m1, nI (NX Λ T P k q mo i h)) ∧ ∀ q j, q ≠ 27 → m1 q j = m q j := by
  unfold F_Look_happyBehindMonth NX
  rw [h0]
  by_cases c : h = 0
  · subst c
    rw [nI_0, if_pos rfl, if_pos rfl, nI_0]
    exact ⟨m, rfl, fun _ _ _ => rfl⟩
  · rw [if_neg (nI_ne0 (by omega) (by omega)), if_neg c]
    obtain ⟨m1, h1⟩ := hL m 20 112 (fun _ _ _ => rfl) (by omega)
    obtain ⟨a1, a2, a3, a4, a5, a6⟩ := hk
    rw [h0, a1, a2, a3, a4, a5, a6] at h1
    refine ⟨m1, ?_, fun q j hq => (fr_F_Law_turnsBy m 20 112 (by omega) rfl _ h1).1⟩
    unfold F_Look_happyTurned
    rw [h1, ob_s, h0, ob_s]
    dsimp only
    rw [← (hw_cl _).1]
    rfl
theorem putAll_g (σ : Mem) (v : Int32) (r n : Nat) (hn : n < 6000) : (∀ p, p < n → F_Row_putAll σ r n v (r + 1) p = v) ∧ ∀ q j, q ≠ r + 1 → F_Row_putAll σ r n v q j = σ q j := by
  unfold F_Row_putAll
  rw [bind_T, show cnt 0 (Int32.ofNat n) = n from p_cnt0 (by omega)]
  have e := forS_itr (F := fun i s => F_Row_putAll_2_b r n v i s) n 0 σ
  rw [nI_0] at e
  rw [e]
  exact itr_inv (f := fun k s => (fun i s => F_Row_putAll_2_b r n v i s) (nI (0 + k)) s) (fun k s => (∀ p, p < k → s (r + 1) p = v) ∧ ∀ q j, q ≠ r + 1 → s q j = σ q j) (s := σ) ⟨fun p hp => by omega, fun _ _ _ => rfl⟩ (n := n) (fun k hk s hs => by
    rw [Nat.zero_add]
    show (∀ p, p < k + 1 → F_Row_putAll_2_b r n v (nI k) s (r + 1) p = v) ∧ ∀ q j, q ≠ r + 1 → F_Row_putAll_2_b r n v (nI k) s q j = σ q j
    unfold F_Row_putAll_2_b
    rw [bind_T, p_cl (by omega)]
    refine ⟨fun p hp => ?_, fun q j hq => ?_⟩
    · by_cases ep : p = k
      · subst ep; exact up_s
      · rw [up_d (by omega)]; exact hs.1 p (by omega)
    · rw [up_d (by omega)]; exact hs.2 q j hq)
section GIC
variable {σ σ' : Mem} {g : Nat → Int32} {P M C i : Nat}
theorem c_addG {f : Nat → Nat} (hf : ∀ x, f x ≤ 41) (h : ∀ x, x < 100 → σ 114 x = nI (f x)) : (∀ x, x < 100 → F_For_addGifts σ 114 x = nI (ag f 99 x)) ∧ ∀ q j, q ≠ 114 → F_For_addGifts σ q j = σ q j := by
  have hle : ∀ t x, ag f t x ≤ 41 := fun t x => by
    have := ag_le2 (f := f) (t := 0) (x := x) t
    rw [Nat.zero_add] at this
    exact Nat.le_trans this (hf x)
  unfold F_For_addGifts
  rw [bind_T, show cnt 0 99 = 99 by decide]
  have e := forS_itr (F := fun i s => F_For_addGifts_2_b i s) 99 0 σ
  rw [nI_0] at e
  rw [e]
  exact itr_inv (f := fun k s => (fun i s => F_For_addGifts_2_b i s) (nI (0 + k)) s) (fun k s => (∀ x, x < 100 → s 114 x = nI (ag f k x)) ∧ ∀ q j, q ≠ 114 → s q j = σ q j) (s := σ) ⟨h, fun _ _ _ => rfl⟩ (n := 99) (fun k hk s hs => by
    rw [Nat.zero_add]
    show (∀ x, x < 100 → F_For_addGifts_2_b (nI k) s 114 x = nI (ag f (k + 1) x)) ∧ ∀ q j, q ≠ 114 → F_For_addGifts_2_b (nI k) s q j = σ q j
    unfold F_For_addGifts_2_b
    simp only [bind_T]
    rw [hw_add (by omega), p_at (by omega) (by decide), p_at (by omega) (by decide), hs.1 k (by omega), hs.1 (min 99 (k + 5)) (by omega), nI_1, p_put (by omega) (by decide)]
    have l1 := hle k k
    have l2 := hle k (min 99 (k + 5))
    rw [nI_min (by omega) (by omega)]
    refine ⟨fun x hx => ?_, fun q j hq => ?_⟩
    · rw [ag_s]
      unfold agS
      by_cases ex : x = min 99 (k + 5)
      · rw [if_pos ex, ex, up_s, Nat.min_comm]
      · rw [if_neg ex, up_d (by omega)]; exact hs.1 x hx
    · rw [up_d (by omega)]; exact hs.2 q j hq)
theorem c_passC {Λ : FN} {T : Nat → Nat → Int32} {k mo m bar : Nat} {q : Int32} {f : Nat → Nat} (hf : ∀ x, f x ≤ 41) (h : ∀ x, x < 100 → σ 114 x = nI (f x)) (hL : CLs σ 20 Λ) (hk : LKR σ T P k q mo m) (hb : bar ≤ 99) (hm : mo ≤ 9999) :
    ∃ σ1, F_For_passCosts σ 20 (nI bar) = some σ1 ∧ (∀ x, x < 100 → σ1 114 x = nI (pc f (NX Λ T P k q mo m) bar 100 x)) ∧ LKR σ1 T P k q mo (m + 1) ∧ ∀ a b, a ≠ 27 → a ≠ 112 → a ≠ 114 → a ≠ 116 → σ1 a b = σ a b := by
  obtain ⟨a1, a2⟩ := putAll_g σ 41 115 100 (by decide)
  have hx := NX_le Λ T P k q mo m
  have hpc : ∀ t x, pc f (NX Λ T P k q mo m) bar t x ≤ 41 := by
    intro t
    induction t with
    | zero => intro x; exact Nat.le_refl 41
    | succ t ih =>
      intro x
      rw [pc_s]
      unfold pcS
      have := ih x
      split
      · exact Nat.le_trans (Nat.min_le_right _ _) this
      · exact this
  obtain ⟨s1, e1, e2, e3, e4, e5⟩ := forSO_inv (F := fun i s => F_For_passCosts_11_b 20 (nI bar) i s) 100 0 (fun t s => (∀ x, x < 100 → s 114 x = nI (f x)) ∧ (∀ x, x < 100 → s 116 x = nI (pc f (NX Λ T P k q mo m) bar t x)) ∧ LKR s T P k q mo m ∧ ∀ a b, a ≠ 27 → a ≠ 112 → a ≠ 116 → s a b = σ a b) (F_Row_putAll σ 115 100 41) (fun t s ht hs => by
    obtain ⟨i1, i2, i3, i4⟩ := hs
    have lf := hf t
    rw [Nat.zero_add]
    unfold F_For_passCosts_11_b
    rw [p_at (by omega) (by decide), i1 t (by omega)]
    by_cases c : f t < 41
    · rw [if_pos (show nI (f t) < 41 from nI_lt (b := 41) c (by omega)), bind_T]
      obtain ⟨m1, f1, f2⟩ := lk_bh (m := up s 112 0 (nI t)) (Λ := Λ) (T := T) (P := P) (k := k) (mo := mo) (i := m) (h := t) (q := q) (hL.to fun r hr j => by rw [up_d (by omega), i4 _ _ (by omega) (by omega) (by omega)]) (i3.to fun j hj => by rw [up_d (by omega)]) up_s (by omega)
      have hxt := hx t
      have g1 : ∀ x, x < 100 → m1 114 x = nI (f x) := fun x h1 => by rw [f2 114 x (by omega), up_d (by omega)]; exact i1 x h1
      have g2 : ∀ x, x < 100 → m1 116 x = nI (pc f (NX Λ T P k q mo m) bar t x) := fun x h1 => by rw [f2 116 x (by omega), up_d (by omega)]; exact i2 x h1
      have g3 : LKR m1 T P k q mo m := i3.to fun j hj => by rw [f2 112 j (by omega), up_d (by omega)]
      have g4 : ∀ a b, a ≠ 27 → a ≠ 112 → a ≠ 116 → m1 a b = σ a b := fun a b h1 h2 h3 => by rw [f2 a b h1, up_d (by omega)]; exact i4 a b h1 h2 h3
      rw [f1, ob_s]
      dsimp only
      by_cases c2 : NX Λ T P k q mo m t < bar
      · rw [if_pos (nI_lt c2 (by omega))]
        refine ⟨m1, rfl, g1, fun x h1 => ?_, g3, g4⟩
        rw [pc_s]
        unfold pcS
        rw [if_neg (fun e => by omega)]
        exact g2 x h1
      · have l2 := hpc t (NX Λ T P k q mo m t)
        rw [if_neg (nI_nlt (by omega) (by omega)), p_at (by omega) (by decide), p_at (by omega) (by decide), g1 t (by omega), g2 _ (by omega), nI_min (by omega) (by omega), p_put (by omega) (by decide), bind_T]
        refine ⟨_, rfl, fun x h1 => ?_, fun x h1 => ?_, g3.to fun j _ => by rw [up_d (by omega)], fun a b h1 h2 h3 => ?_⟩
        · rw [up_d (by omega)]; exact g1 x h1
        · rw [pc_s]
          unfold pcS
          by_cases ex : x = NX Λ T P k q mo m t
          · rw [if_pos ⟨c, by omega, ex⟩, ex, up_s]
          · rw [if_neg (fun e => ex e.2.2), up_d (by omega)]; exact g2 x h1
        · rw [up_d (by omega)]; exact g4 a b h1 h2 h3
    · rw [if_neg (show ¬ nI (f t) < 41 from nI_nlt (b := 41) (by omega) (by omega))]
      refine ⟨s, rfl, i1, fun x h1 => ?_, i3, i4⟩
      rw [pc_s]
      unfold pcS
      rw [if_neg (fun e => c e.1)]
      exact i2 x h1) ⟨fun x hx => by rw [a2 114 x (by omega)]; exact h x hx, fun x hx => a1 x hx, hk.to fun j _ => a2 112 j (by omega), fun a b h1 h2 h3 => a2 a b h3⟩
  rw [nI_0] at e1
  unfold F_For_passCosts
  rw [bind_T, show cle 0 99 = 100 by decide, e1, ob_s]
  have e8 : F_Row_copyAll s1 113 100 115 100 = cpM s1 116 114 100 := by
    unfold F_Row_copyAll
    rw [bind_T, show ((if (Int32.ofNat 100) < (Int32.ofNat 100) then (Int32.ofNat 100) else (Int32.ofNat 100)) : Int32).toNatClampNeg = 100 by decide]
  have cp1 : ∀ q j, q ≠ 114 → cpM s1 116 114 100 q j = s1 q j := fun q j hq => by
    unfold cpM
    rw [if_neg (by omega)]
  have cp2 : ∀ j, j < 100 → cpM s1 116 114 100 114 j = s1 116 j := fun j hj => by
    unfold cpM
    rw [if_pos ⟨rfl, hj⟩]
  obtain ⟨b1, b2, b3, b4, b5, b6⟩ := e4
  have em : F_Look_passTime (cpM s1 116 114 100) 112 = up (up (cpM s1 116 114 100) 112 1 (T 14 k + nI (m + 1))) 112 5 (nI (min (mo + (m + 1)) 9999)) := by
    unfold F_Look_passTime
    simp only [bind_T]
    rw [cp1 112 1 (by omega), b1, up_d (by omega), cp1 112 5 (by omega), b5, nI_1, show (if nI (min (mo + m) 9999 + 1) < 9999 then nI (min (mo + m) 9999 + 1) else 9999) = nI (min (min (mo + m) 9999 + 1) 9999) from nI_minB (n := 9999) (by omega) (by omega), show min (min (mo + m) 9999 + 1) 9999 = min (mo + (m + 1)) 9999 by omega, Int32.add_assoc, nI_1]
  rw [bind_T, e8, bind_T, em]
  refine ⟨_, rfl, fun x hx => ?_, ⟨?_, ?_, ?_, ?_, ?_, ?_⟩, fun a b h1 h2 h3 h4 => ?_⟩
  · rw [up_d (by omega), up_d (by omega), cp2 x hx]; exact e3 x hx
  · rw [up_d (by omega), up_s]
  · rw [up_d (by omega), up_d (by omega), cp1 112 2 (by omega)]; exact b2
  · rw [up_d (by omega), up_d (by omega), cp1 112 3 (by omega)]; exact b3
  · rw [up_d (by omega), up_d (by omega), cp1 112 4 (by omega)]; exact b4
  · rw [up_s]
  · rw [up_d (by omega), up_d (by omega), cp1 112 6 (by omega)]; exact b6
  · rw [up_d (by omega), up_d (by omega), cp1 a b h3]; exact e5 a b h1 h2 h4
theorem c_gifts (h : TR (tv σ 3) (σ' 334) g P M C) {Λ : FN} (l1 : CLs σ 20 Λ) {k n h0 mo bar : Nat} {q : Int32} (hk : k < M) (hn : n < 6000) (e0 : σ 15 k = nI h0) (hh : h0 ≤ 99) (e5 : σ 3 15 = nI mo) (hmo : mo ≤ 9999) (e12 : σ 3 12 = nI bar) (hb : bar ≤ 99) :
    ∃ m1, F_For_fewestGifts σ 3 20 (nI k) (nI n) q = some (m1, if mnR (cF (NX Λ (tv σ 3) P k q mo) bar h0 n) 100 < 41 then nI (mnR (cF (NX Λ (tv σ 3) P k q mo) bar h0 n) 100) else -1) ∧ ∀ a b, a ≠ 27 → a ≠ 112 → a ≠ 114 → a ≠ 116 → m1 a b = σ a b := by
  have fl : ∀ a b, a ≠ 112 → F_Town_lookAt σ 3 (nI k) q 112 a b = σ a b := fun a b h1 => fr_F_Town_lookAt σ 3 (nI k) q 112 (by omega) rfl
  obtain ⟨c0, c1, c2, c3, c4, c5, c6⟩ := look_LKF h hk q (by omega)
  obtain ⟨a1, a2⟩ := putAll_g (F_Town_lookAt σ 3 (nI k) q 112) 41 113 100 (by decide)
  have c0' : F_Row_putAll (F_Town_lookAt σ 3 (nI k) q 112) 113 100 41 112 0 = nI h0 := by rw [a2 112 0 (by omega), c0]; exact e0
  have hk0 : LKR (up (F_Row_putAll (F_Town_lookAt σ 3 (nI k) q 112) 113 100 41) 114 h0 0) (tv σ 3) P k q mo 0 := by
    refine ⟨?_, ?_, ?_, ?_, ?_, ?_⟩
    · rw [up_d (by omega), a2 112 1 (by omega), c1, nI_0, Int32.add_zero]
    · rw [up_d (by omega), a2 112 2 (by omega), c2]
    · rw [up_d (by omega), a2 112 3 (by omega), c3]
    · rw [up_d (by omega), a2 112 4 (by omega), c4]
    · rw [up_d (by omega), a2 112 5 (by omega), c5, show min (mo + 0) 9999 = mo by omega]
      exact e5
    · rw [up_d (by omega), a2 112 6 (by omega), c6]
  obtain ⟨s1, f1, f2, f3, f4⟩ := forSO_inv (F := fun i s => F_For_fewestGifts_38_b 3 20 (nI k) (nI n) q i s) n 0 (fun i s => (∀ x, x < 100 → s 114 x = nI (cF (NX Λ (tv σ 3) P k q mo) bar h0 i x)) ∧ LKR s (tv σ 3) P k q mo i ∧ ∀ a b, a ≠ 27 → a ≠ 112 → a ≠ 114 → a ≠ 116 → s a b = σ a b) (up (F_Row_putAll (F_Town_lookAt σ 3 (nI k) q 112) 113 100 41) 114 h0 0) (fun i s hi hs => by
    obtain ⟨i1, i2, i3⟩ := hs
    obtain ⟨b1, b2⟩ := c_addG (σ := s) (f := cF (NX Λ (tv σ 3) P k q mo) bar h0 i) (cF_bd i) i1
    have hag : ∀ x, ag (cF (NX Λ (tv σ 3) P k q mo) bar h0 i) 99 x ≤ 41 := fun x => by
      have := ag_le2 (f := cF (NX Λ (tv σ 3) P k q mo) bar h0 i) (t := 0) (x := x) 99
      rw [Nat.zero_add] at this
      exact Nat.le_trans this (cF_bd i x)
    obtain ⟨σ1, d1, d2, d3, d4⟩ := c_passC (σ := F_For_addGifts s) (Λ := Λ) (T := tv σ 3) (P := P) (k := k) (mo := mo) (m := i) (bar := bar) (q := q) hag b1 (l1.to fun r hr j => by rw [b2 _ _ (by omega), i3 _ _ (by omega) (by omega) (by omega) (by omega)]) (i2.to fun j _ => b2 112 j (by omega)) hb hmo
    refine ⟨σ1, ?_, d2, d3, fun a b h1 h2 h3 h4 => by rw [d4 a b h1 h2 h3 h4, b2 a b h3]; exact i3 a b h1 h2 h3 h4⟩
    unfold F_For_fewestGifts_38_b
    rw [bind_T, b2 3 12 (by omega), i3 3 12 (by omega) (by omega) (by omega) (by omega), e12, d1, ob_s]) ⟨fun x hx => by
      show _ = nI (if x = h0 then 0 else 41)
      by_cases ex : x = h0
      · subst ex; rw [up_s, if_pos rfl, nI_0]
      · rw [if_neg ex, up_d (by omega)]; exact a1 x hx, hk0, fun a b h1 h2 h3 h4 => by rw [up_d (by omega), a2 a b (by omega), fl a b h2]⟩
  · rw [nI_0] at f1
    unfold F_For_fewestGifts
    rw [bind_T, bind_T, c0', p_put (by omega) (by decide), bind_T, p_cnt0 (by omega)]
    rw [f1, ob_s]
    have em : forS (fun i s => F_For_fewestGifts_71_b s1 3 20 (nI k) (nI n) q i s) (cle 0 99) 0 41 = nI (mnR (cF (NX Λ (tv σ 3) P k q mo) bar h0 n) 100) := by
      rw [show cle 0 99 = 100 by decide]
      have e := forS_itr (F := fun i s => F_For_fewestGifts_71_b s1 3 20 (nI k) (nI n) q i s) 100 0 41
      rw [nI_0] at e
      rw [e]
      have hle : ∀ t, mnR (cF (NX Λ (tv σ 3) P k q mo) bar h0 n) t ≤ 41 := by
        intro t
        induction t with
        | zero => exact Nat.le_refl 41
        | succ t ih => exact Nat.le_trans (Nat.min_le_right _ _) ih
      exact itr_inv (f := fun k2 s => (fun i s => F_For_fewestGifts_71_b s1 3 20 (nI k) (nI n) q i s) (nI (0 + k2)) s) (fun t s => s = nI (mnR (cF (NX Λ (tv σ 3) P k q mo) bar h0 n) t)) (s := (41 : Int32)) rfl (n := 100) (fun t ht s hs => by
        subst hs
        rw [Nat.zero_add]
        show F_For_fewestGifts_71_b s1 3 20 (nI k) (nI n) q (nI t) (nI (mnR (cF (NX Λ (tv σ 3) P k q mo) bar h0 n) t)) = nI (min (cF (NX Λ (tv σ 3) P k q mo) bar h0 n t) (mnR (cF (NX Λ (tv σ 3) P k q mo) bar h0 n) t))
        unfold F_For_fewestGifts_71_b
        have l1 := hle t
        have l2 := cF_bd (nx := NX Λ (tv σ 3) P k q mo) (bar := bar) (h0 := h0) n t
        rw [p_at ht (by decide), f2 t ht, nI_min (by omega) (by omega), bind_T])
    rw [em, bind_T]
    have hle2 : mnR (cF (NX Λ (tv σ 3) P k q mo) bar h0 n) 100 ≤ 41 := by
      have : ∀ t, mnR (cF (NX Λ (tv σ 3) P k q mo) bar h0 n) t ≤ 41 := by
        intro t
        induction t with
        | zero => exact Nat.le_refl 41
        | succ t ih => exact Nat.le_trans (Nat.min_le_right _ _) ih
      exact this 100
    refine ⟨s1, ?_, f4⟩
    by_cases c : mnR (cF (NX Λ (tv σ 3) P k q mo) bar h0 n) 100 < 41
    · rw [if_pos (show nI (mnR (cF (NX Λ (tv σ 3) P k q mo) bar h0 n) 100) < 41 from nI_lt (b := 41) c (by omega)), if_pos c]
    · rw [if_neg (show ¬ nI (mnR (cF (NX Λ (tv σ 3) P k q mo) bar h0 n) 100) < 41 from nI_nlt (b := 41) (by omega) (by omega)), if_neg c]
end GIC

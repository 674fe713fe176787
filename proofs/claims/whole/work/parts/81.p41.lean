-- PURE STAGE: the most weddings
/-- the most pairs of F among those from the last d on -/
def mpS (a : Nat → Nat → Bool) (F : Nat → Bool) (one : Nat) (r : (Nat → Bool) → Nat) (k acc : Nat) : Nat :=
  if (F one && F (one + 1 + k) && a one (one + 1 + k)) = true then max acc (1 + r (fun q => F q && !(decide (q = one + 1 + k)))) else acc
def mpN (a : Nat → Nat → Bool) (P : Nat) : Nat → (Nat → Bool) → Nat
  | 0, _ => 0
  | d + 1, F => itr (mpS a F (P - (d + 1)) (mpN a P d)) d (mpN a P d F)
theorem mpN_s {a : Nat → Nat → Bool} {P d : Nat} {F : Nat → Bool} : mpN a P (d + 1) F = itr (mpS a F (P - (d + 1)) (mpN a P d)) d (mpN a P d F) := rfl
theorem mpN_congr {a : Nat → Nat → Bool} {P : Nat} : ∀ {d : Nat} {F G : Nat → Bool}, d ≤ P → (∀ q, P - d ≤ q → q < P → F q = G q) → mpN a P d F = mpN a P d G := by
  intro d
  induction d with
  | zero => intro F G _ _; rfl
  | succ d ih =>
    intro F G hd h
    rw [mpN_s, mpN_s, ih (F := F) (G := G) (by omega) (fun q h1 h2 => h q (by omega) h2)]
    refine itr_congr fun k hk => ?_
    generalize itr _ k _ = acc
    unfold mpS
    rw [h _ (Nat.le_refl _) (by omega), h (P - (d + 1) + 1 + k) (by omega) (by omega), ih (F := fun q => F q && !(decide (q = P - (d + 1) + 1 + k))) (G := fun q => G q && !(decide (q = P - (d + 1) + 1 + k))) (by omega) (fun q h1 h2 => by
      show (F q && _) = (G q && _)
      rw [h q (by omega) h2])]
theorem mpN_skip {a : Nat → Nat → Bool} {P d : Nat} {F : Nat → Bool} (h : F (P - (d + 1)) = false) : mpN a P (d + 1) F = mpN a P d F := by
  rw [mpN_s]
  have : ∀ n x, itr (mpS a F (P - (d + 1)) (mpN a P d)) n x = x := by
    intro n x
    induction n with
    | zero => rfl
    | succ n ih =>
      show mpS _ _ _ _ n (itr _ n x) = x
      rw [ih]
      unfold mpS
      rw [h, Bool.false_and, Bool.false_and, if_neg (by decide)]
  exact this _ _
theorem mpN_low {a : Nat → Nat → Bool} {P : Nat} {F : Nat → Bool} : ∀ {e d : Nat}, e + d ≤ P → (∀ q, P - (e + d) ≤ q → q < P - d → F q = false) → mpN a P (e + d) F = mpN a P d F := by
  intro e
  induction e with
  | zero => intro d _ _; rw [Nat.zero_add]
  | succ e ih =>
    intro d hd h
    rw [show e + 1 + d = (e + d) + 1 by omega, mpN_skip (h _ (by omega) (by omega))]
    exact ih (by omega) (fun q h1 h2 => h q (by omega) h2)
theorem mpN_le {a : Nat → Nat → Bool} {P : Nat} : ∀ {d : Nat} {F : Nat → Bool}, mpN a P d F ≤ d := by
  intro d
  induction d with
  | zero => intro F; exact Nat.le_refl 0
  | succ d ih =>
    intro F
    rw [mpN_s]
    have : ∀ n, itr (mpS a F (P - (d + 1)) (mpN a P d)) n (mpN a P d F) ≤ d + 1 := by
      intro n
      induction n with
      | zero => exact Nat.le_trans ih (by omega)
      | succ n ih2 =>
        show mpS _ _ _ _ n (itr _ n _) ≤ _
        unfold mpS
        by_cases c : (F (P - (d + 1)) && F (P - (d + 1) + 1 + n) && a (P - (d + 1)) (P - (d + 1) + 1 + n)) = true
        · rw [if_pos c]
          have h9 := ih (F := fun q => F q && !(decide (q = P - (d + 1) + 1 + n)))
          exact Nat.max_le.mpr ⟨ih2, Nat.le_trans (Nat.add_le_add_left h9 1) (by omega)⟩
        · rw [if_neg c]; exact ih2
    exact this d
def wdA (T : Nat → Nat → Int32) (p q : Nat) : Bool := bt (T 4 p) q || bt (T 4 q) p
def wU (T : Nat → Nat → Int32) (M p : Nat) : Bool := decide (sp T M (nI p) = -1)
section WDN
variable {σ σ' : Mem} {g : Nat → Int32} {t P M C i : Nat}
theorem c_mp (h : TR (tv σ t) (σ' 334) g P M C) : ∀ (d n : Nat) (x : Int32), d ≤ P → d ≤ n → F_Prs_mostPairs_g (F_Prs_mostPairs_d n) σ t x (nI (P - d)) = some (nI (mpN (wdA (tv σ t)) P d (bt x))) := by
  have hP := h.c1.1
  have t8 : σ t 8 = nI P := h.c2.1
  intro d
  induction d with
  | zero =>
    intro n x _ _
    unfold F_Prs_mostPairs_g
    rw [t8, if_neg (nI_nlt (by omega) (by omega))]
    show some 0 = some (nI 0)
    rw [nI_0]
  | succ d ih =>
    intro n x hd hn
    obtain ⟨n, rfl⟩ : ∃ m, n = m + 1 := ⟨n - 1, by omega⟩
    have rcx : ∀ y : Int32, F_Prs_mostPairs_d (n + 1) σ t y (nI (P - d)) = some (nI (mpN (wdA (tv σ t)) P d (bt y))) := fun y => ih n y (by omega) (by omega)
    have e1 : nI (P - (d + 1)) + 1 = nI (P - d) := by rw [nI_1, show P - (d + 1) + 1 = P - d by omega]
    unfold F_Prs_mostPairs_g
    rw [t8, if_pos (nI_lt (by omega) (by omega)), if_pos (show nI (P - (d + 1)) < 8 from nI_lt (b := 8) (by omega) (by omega)), e1, rcx x, ob_s, p_con (by omega), if10]
    cases hF : bt x (P - (d + 1)) with
    | false => rw [if_neg (by decide), mpN_skip hF]
    | true =>
      rw [if_pos rfl, bind_T, bind_T, p_cnt (by omega) (by omega), t_asked (by omega), (q_askers h (p := P - (d + 1)) (by omega)).1]
      have e2 := forSO_inv (F := fun i s => F_Prs_mostPairs_54_b (F_Prs_mostPairs_d (n + 1)) σ t x (nI (P - (d + 1))) (σ (t + 4) (P - (d + 1)) ||| sOf (fun o => bt (tv σ t 4 o) (P - (d + 1))) P) i s) (P - (P - d)) (P - d) (fun k s => s = nI (itr (mpS (wdA (tv σ t)) (bt x) (P - (d + 1)) (mpN (wdA (tv σ t)) P d)) k (mpN (wdA (tv σ t)) P d (bt x))) ∧ itr (mpS (wdA (tv σ t)) (bt x) (P - (d + 1)) (mpN (wdA (tv σ t)) P d)) k (mpN (wdA (tv σ t)) P d (bt x)) ≤ d + 1) (nI (mpN (wdA (tv σ t)) P d (bt x))) (fun k s hk hs => by
        obtain ⟨rfl, hs2⟩ := hs
        generalize hacc : itr (mpS (wdA (tv σ t)) (bt x) (P - (d + 1)) (mpN (wdA (tv σ t)) P d)) k (mpN (wdA (tv σ t)) P d (bt x)) = acc at hs2 ⊢
        have hq : P - (d + 1) + 1 + k = P - d + k := by omega
        have hs3 : itr (mpS (wdA (tv σ t)) (bt x) (P - (d + 1)) (mpN (wdA (tv σ t)) P d)) (k + 1) (mpN (wdA (tv σ t)) P d (bt x)) = if (bt x (P - d + k) && wdA (tv σ t) (P - (d + 1)) (P - d + k)) = true then max acc (1 + mpN (wdA (tv σ t)) P d (fun q => bt x q && !(decide (q = P - d + k)))) else acc := by
          show mpS _ _ _ _ k (itr _ k _) = _
          rw [hacc]
          unfold mpS
          rw [hF, Bool.true_and, hq]
        have hle := mpN_le (a := wdA (tv σ t)) (P := P) (d := d) (F := fun q => bt x q && !(decide (q = P - d + k)))
        rw [hs3]
        unfold F_Prs_mostPairs_54_b
        rw [p_con (by omega), if10, b_and, b_or, sOf_bt _ (by omega) (by omega), decide_eq_true (show P - d + k < P by omega), Bool.true_and, e1, rcx]
        show ∃ s1, (if (bt x (P - d + k) && (bt (σ (t + 4) (P - (d + 1))) (P - d + k) || bt (σ (t + 4) (P - d + k)) (P - (d + 1)))) = true then _ else _) = some s1 ∧ s1 = nI (if (bt x (P - d + k) && (bt (σ (t + 4) (P - (d + 1))) (P - d + k) || bt (σ (t + 4) (P - d + k)) (P - (d + 1)))) = true then _ else _) ∧ _
        rw [show mpN (wdA (tv σ t)) P d (bt (x &&& (((1 : Int32) <<< (nI (P - d + k) &&& 31)) ^^^ -1))) = mpN (wdA (tv σ t)) P d (fun q => bt x q && !(decide (q = P - d + k))) from mpN_congr (by omega) (fun q h1 h2 => by rw [b_and, b_not (by omega), b_sing (by omega) (by omega)])]
        by_cases c : (bt x (P - d + k) && (bt (σ (t + 4) (P - (d + 1))) (P - d + k) || bt (σ (t + 4) (P - d + k)) (P - (d + 1)))) = true
        · simp only [if_pos c]
          rw [ob_s, bind_T, show (1 : Int32) + nI (mpN (wdA (tv σ t)) P d (fun q => bt x q && !(decide (q = P - d + k)))) = nI (1 + mpN (wdA (tv σ t)) P d (fun q => bt x q && !(decide (q = P - d + k)))) from nI_add 1 _, nI_max (by omega) (by omega)]
          refine ⟨_, rfl, rfl, ?_⟩
          rw [if_pos (show (bt x (P - d + k) && wdA (tv σ t) (P - (d + 1)) (P - d + k)) = true from c)]
          omega
        · simp only [if_neg c]
          refine ⟨_, rfl, rfl, ?_⟩
          rw [if_neg (show ¬ (bt x (P - d + k) && wdA (tv σ t) (P - (d + 1)) (P - d + k)) = true from c)]
          exact hs2) ⟨rfl, Nat.le_trans mpN_le (by omega)⟩
      obtain ⟨s1, f1, f2, -⟩ := e2
      rw [f1, ob_s, f2, show P - (P - d) = d by omega]
      rfl
theorem c_wedN (h : TR (tv σ t) (σ' 334) g P M C) : F_Prs_mostWeddings σ t = some (nI (mpN (wdA (tv σ t)) P P (wU (tv σ t) M))) := by
  have hP := h.c1.1
  have t8 : σ t 8 = nI P := h.c2.1
  unfold F_Prs_mostWeddings
  rw [t8, p_cnt0 (by omega), bind_T]
  have e := forS_itr (F := fun i s => F_Prs_mostWeddings_4_b σ t i s) P 0 0
  rw [nI_0] at e
  have e2 : itr (fun k s => F_Prs_mostWeddings_4_b σ t (nI (0 + k)) s) P 0 = sOf (wU (tv σ t) M) P := by
    unfold sOf
    refine itr_congr fun k hk => ?_
    generalize itr _ k (0 : Int32) = s
    rw [Nat.zero_add]
    unfold F_Prs_mostWeddings_4_b wU
    rw [q_wed h]
    by_cases c : sp (tv σ t) M (nI k) = -1
    · rw [if_pos c, if_pos rfl, decide_eq_true c, if_pos rfl, bind_T]
    · rw [if_neg c, if_neg (by decide), decide_eq_false c, if_neg (by decide)]
  have e3 : forS (fun i s => F_Prs_mostWeddings_4_b σ t i s) P 0 0 = sOf (wU (tv σ t) M) P := e.trans e2
  rw [e3]
  have e4 := c_mp h P 10 (sOf (wU (tv σ t) M) P) (by omega) (by omega)
  rw [Nat.sub_self, nI_0] at e4
  unfold F_Prs_mostPairs
  rw [e4, ob_s, mpN_congr (F := bt (sOf (wU (tv σ t) M) P)) (G := wU (tv σ t) M) (Nat.le_refl P) (fun q _ h2 => by rw [sOf_bt _ (by omega) (by omega), decide_eq_true h2, Bool.true_and])]
theorem m_may (h : TR (tv σ t) (σ' 334) g P M C) {p q : Nat} (hp : p < P) (hq : q < P) : F_M_mayWed σ' (nI p) (nI q) = some (if (wU (tv σ t) M p && wU (tv σ t) M q && wdA (tv σ t) p q) = true then 1 else 0) := by
  have hP := h.c1.1
  unfold F_M_mayWed wU wdA
  rw [(q_sp h (nI p)).2, ob_s, (q_sp h (nI q)).2, ob_s, m_of1 (by omega), m_of1 (by omega), ob_s, ob_s, (h.c6 p hp).2.1, (h.c6 q hq).2.1, p_isOf (by omega), p_isOf (by omega), if10, if10]
  by_cases c1 : sp (tv σ t) M (nI p) = -1
  · rw [if_pos c1, decide_eq_true c1]
    by_cases c2 : sp (tv σ t) M (nI q) = -1
    · rw [if_pos c2, decide_eq_true c2]
      cases bt (tv σ t 4 p) q <;> cases bt (tv σ t 4 q) p <;> rfl
    · rw [if_neg c2, decide_eq_false c2]
      rfl
  · rw [if_neg c1, decide_eq_false c1]
    rfl
/-- a set without one -/
theorem s_del {S z : Nat} (hS : S < 256) (hz : z < 8) : ∃ m, m < 256 ∧ nI S &&& (((1 : Int32) <<< (nI z &&& 31)) ^^^ -1) = nI m ∧ (∀ q, q < 32 → bt (nI m) q = (bt (nI S) q && !(decide (q = z)))) ∧ (bt (nI S) z = true → m < S) := by
  have key : ∀ S, S < 256 → ∀ z, z < 8 → (nI S &&& (((1 : Int32) <<< (nI z &&& 31)) ^^^ -1)) = nI (if S.testBit z then S - 2 ^ z else S) ∧ (S.testBit z = true → 2 ^ z ≤ S) := by decide +kernel
  obtain ⟨k1, k2⟩ := key S hS z hz
  refine ⟨_, ?_, k1, fun q hq => ?_, fun hb => ?_⟩
  · by_cases c : S.testBit z = true
    · rw [if_pos c]; exact Nat.lt_of_le_of_lt (Nat.sub_le _ _) hS
    · rw [if_neg c]; exact hS
  · rw [← k1, b_and, b_not hq, b_sing (by omega) hq]
  · rw [b_nI (by omega)] at hb
    have := k2 hb
    rw [if_pos hb]
    have h2 : 0 < 2 ^ z := Nat.two_pow_pos z
    omega
theorem low_bit : ∀ S, S < 256 → 0 < S → ∃ z, z < 8 ∧ bt (nI S) z = true ∧ ∀ q, q < z → bt (nI S) q = false := by
  have h : ∀ S, S < 256 → 0 < S → (List.range 8).any (fun z => bt (nI S) z && (List.range z).all (fun q => !(bt (nI S) q))) = true := by decide +kernel
  intro S h1 h2
  obtain ⟨z, h3, h4⟩ := List.any_eq_true.mp (h S h1 h2)
  rw [Bool.and_eq_true] at h4
  refine ⟨z, List.mem_range.mp h3, h4.1, fun q hq => ?_⟩
  have := List.all_eq_true.mp h4.2 q (List.mem_range.mpr hq)
  cases hb : bt (nI S) q with
  | false => rfl
  | true => rw [hb] at this; cases this
theorem m_low1 {v1 : Int32} {S z : Nat} (hz : z < 8) (h1 : bt (nI S) z = true) (h2 : ∀ q, q < z → bt (nI S) q = false) : whl (fun s => F_M_weddings_32_b σ' v1 (nI S) s) FUEL 0 = some (nI z) := by
  have e := whl_n (F := fun s => F_M_weddings_32_b σ' v1 (nI S) s) (fun k => nI k) z (nI z) (by unfold FUEL; omega) (fun k hk => by
    unfold F_M_weddings_32_b
    rw [p_isOf (by omega), h2 k hk, if_pos (show (if false = true then (1 : Int32) else 0) = 0 from rfl), bind_T, nI_1]) (by
    unfold F_M_weddings_32_b
    rw [p_isOf (by omega), h1, if_neg (by decide)])
  exact e
/-- the table's row for a set -/
def wT (T : Nat → Nat → Int32) (P M S : Nat) : Nat := mpN (wdA T) P P (fun q => bt (nI S) q && wU T M q)
theorem m_tab (h : TR (tv σ t) (σ' 334) g P M C) {v1 : Int32} (hv : v1 = nI (2 ^ P - 1)) : ∀ (d S : Nat), d + S = 2 ^ P → 0 < S → ∀ s : Mem, s 334 = σ' 334 → (∀ u, u < S → s 345 u = nI (wT (tv σ t) P M u)) → ∀ fuel, d < fuel → ∃ x, whl (fun s => F_M_weddings_25_b v1 s.1 s.2) fuel (nI S, s) = some x ∧ (∀ q j, q ≠ 345 → x.2 q j = s q j) ∧ ∀ u, u < 2 ^ P → x.2 345 u = nI (wT (tv σ t) P M u) := by
  have hP := h.c1.1
  have hp2 := pow_P hP
  intro d
  induction d with
  | zero =>
    intro S hd hS s h4 hu fuel hf
    obtain ⟨f2, rfl⟩ : ∃ f2, fuel = f2 + 1 := ⟨fuel - 1, by omega⟩
    refine ⟨(nI S, s), whl_r ?_, fun _ _ _ => rfl, fun u h1 => hu u (by omega)⟩
    unfold F_M_weddings_25_b
    dsimp only
    rw [hv, if_pos (nI_lt (by omega) (by omega))]
  | succ d ih =>
    intro S hd hS s h4 hu fuel hf
    obtain ⟨f2, rfl⟩ : ∃ f2, fuel = f2 + 1 := ⟨fuel - 1, by omega⟩
    have hT : TR (tv σ t) (s 334) g P M C := h.keepM h4
    have h3 : s 334 3 = nI P := hT.c3.1
    obtain ⟨z, hz, z1, z2⟩ := low_bit S (by omega) hS
    obtain ⟨m, hm, m1, m2, m3⟩ := s_del (show S < 256 by omega) hz
    have hmS := m3 z1
    have hzP : z < P := by
      apply Nat.not_le.mp
      intro c
      rw [b_nI (by omega)] at z1
      have := Nat.testBit_lt_two_pow (x := S) (i := z) (Nat.lt_of_lt_of_le (by omega) (Nat.pow_le_pow_right (n := 2) (by decide) c))
      rw [this] at z1
      cases z1
    -- the rows below
    have lowF : ∀ u, (∀ q, q < 32 → bt (nI u) q = true → z < q) → wT (tv σ t) P M u = mpN (wdA (tv σ t)) P (P - z - 1) (fun q => bt (nI u) q && wU (tv σ t) M q) := fun u hq => by
      unfold wT
      have := mpN_low (a := wdA (tv σ t)) (P := P) (F := fun q => bt (nI u) q && wU (tv σ t) M q) (e := z + 1) (d := P - z - 1) (by omega) (fun q h1 h2 => by
        show (bt (nI u) q && _) = false
        cases hb : bt (nI u) q with
        | false => rfl
        | true => have := hq q (by omega) hb; omega)
      rw [show z + 1 + (P - z - 1) = P by omega] at this
      exact this
    have mlow : ∀ q, q < 32 → bt (nI m) q = true → z < q := fun q hq hb => by
      rw [m2 q hq, Bool.and_eq_true] at hb
      have h5 : q ≠ z := fun e => by rw [e] at hb; simp at hb
      have h6 : ¬ q < z := fun c => by rw [z2 q c] at hb; cases hb.1
      omega
    have hS1 : wT (tv σ t) P M S = itr (mpS (wdA (tv σ t)) (fun q => bt (nI S) q && wU (tv σ t) M q) z (mpN (wdA (tv σ t)) P (P - z - 1))) (P - z - 1) (wT (tv σ t) P M m) := by
      have e1 := mpN_low (a := wdA (tv σ t)) (P := P) (F := fun q => bt (nI S) q && wU (tv σ t) M q) (e := z) (d := P - z - 1 + 1) (by omega) (fun q h1 h2 => by
        show (bt (nI S) q && _) = false
        rw [z2 q (by omega)]; rfl)
      rw [show z + (P - z - 1 + 1) = P by omega] at e1
      unfold wT at *
      rw [e1, mpN_s, show P - (P - z - 1 + 1) = z by omega, lowF m mlow]
      congr 1
      refine mpN_congr (by omega) (fun q h1 h2 => ?_)
      show (bt (nI S) q && _) = (bt (nI m) q && _)
      rw [m2 q (by omega), decide_eq_false (show ¬ q = z by omega), Bool.not_false, Bool.and_true]
    have hle : ∀ u, wT (tv σ t) P M u ≤ P := fun u => mpN_le
    obtain ⟨s1, k1, k2, -⟩ := forSO_inv (F := fun i s1 => F_M_weddings_69_b s v1 (nI S) (nI z) (nI m) i s1) (P - (z + 1)) (z + 1) (fun k x => x = nI (itr (mpS (wdA (tv σ t)) (fun q => bt (nI S) q && wU (tv σ t) M q) z (mpN (wdA (tv σ t)) P (P - z - 1))) k (wT (tv σ t) P M m)) ∧ itr (mpS (wdA (tv σ t)) (fun q => bt (nI S) q && wU (tv σ t) M q) z (mpN (wdA (tv σ t)) P (P - z - 1))) k (wT (tv σ t) P M m) ≤ 9) (nI (wT (tv σ t) P M m)) (fun k x hk hx => by
      obtain ⟨rfl, hx2⟩ := hx
      generalize hacc : itr (mpS (wdA (tv σ t)) (fun q => bt (nI S) q && wU (tv σ t) M q) z (mpN (wdA (tv σ t)) P (P - z - 1))) k (wT (tv σ t) P M m) = acc at hx2 ⊢
      have hs3 : itr (mpS (wdA (tv σ t)) (fun q => bt (nI S) q && wU (tv σ t) M q) z (mpN (wdA (tv σ t)) P (P - z - 1))) (k + 1) (wT (tv σ t) P M m) = if (wU (tv σ t) M z && (bt (nI S) (z + 1 + k) && wU (tv σ t) M (z + 1 + k)) && wdA (tv σ t) z (z + 1 + k)) = true then max acc (1 + mpN (wdA (tv σ t)) P (P - z - 1) (fun q => (bt (nI S) q && wU (tv σ t) M q) && !(decide (q = z + 1 + k)))) else acc := by
        show mpS _ _ _ _ k (itr _ k _) = _
        rw [hacc]
        unfold mpS
        simp only [z1, Bool.true_and]
      have hle2 := mpN_le (a := wdA (tv σ t)) (P := P) (d := P - z - 1) (F := fun q => (bt (nI S) q && wU (tv σ t) M q) && !(decide (q = z + 1 + k)))
      rw [hs3]
      unfold F_M_weddings_69_b
      rw [p_isOf (by omega), if10, m_may hT hzP (by omega), ob_s, if10]
      cases hb : bt (nI S) (z + 1 + k) with
      | false =>
        rw [if_neg (by decide), Bool.false_and, Bool.and_false, Bool.false_and, if_neg (by decide)]
        exact ⟨_, rfl, rfl, hx2⟩
      | true =>
        rw [if_pos rfl, Bool.true_and]
        by_cases c : (wU (tv σ t) M z && wU (tv σ t) M (z + 1 + k) && wdA (tv σ t) z (z + 1 + k)) = true
        · obtain ⟨n, hn, n1, n2, n3⟩ := s_del hm (show z + 1 + k < 8 by omega)
          have hb2 : bt (nI m) (z + 1 + k) = true := by rw [m2 _ (by omega), hb, decide_eq_false (by omega)]; rfl
          have hnm := n3 hb2
          have nlow : ∀ q, q < 32 → bt (nI n) q = true → z < q := fun q hq hb => by
            rw [n2 q hq, Bool.and_eq_true] at hb
            exact mlow q hq hb.1
          have e5 : wT (tv σ t) P M n = mpN (wdA (tv σ t)) P (P - z - 1) (fun q => (bt (nI S) q && wU (tv σ t) M q) && !(decide (q = z + 1 + k))) := by
            rw [lowF n nlow]
            refine mpN_congr (by omega) (fun q h1 h2 => ?_)
            show (bt (nI n) q && _) = ((bt (nI S) q && _) && _)
            rw [n2 q (by omega), m2 q (by omega), decide_eq_false (show ¬ q = z by omega)]
            cases bt (nI S) q <;> cases wU (tv σ t) M q <;> cases decide (q = z + 1 + k) <;> rfl
          rw [if_pos c, if_pos c, bind_T, n1, p_inb hn (by decide), chk_t, bind_T, p_cl (by omega), hu n (by omega), e5, show (1 : Int32) + nI (mpN (wdA (tv σ t)) P (P - z - 1) (fun q => (bt (nI S) q && wU (tv σ t) M q) && !(decide (q = z + 1 + k)))) = nI (1 + mpN (wdA (tv σ t)) P (P - z - 1) (fun q => (bt (nI S) q && wU (tv σ t) M q) && !(decide (q = z + 1 + k)))) from nI_add 1 _]
          unfold F_M_greater
          rw [nI_max (by omega) (by omega), Nat.max_comm]
          exact ⟨_, rfl, rfl, by omega⟩
        · rw [if_neg c, if_neg c]
          exact ⟨_, rfl, rfl, hx2⟩) ⟨rfl, by have := hle m; show wT (tv σ t) P M m ≤ 9; omega⟩
    obtain ⟨x, g1, g2, g3⟩ := ih (S + 1) (by omega) (by omega) (up s 345 S (nI (wT (tv σ t) P M S))) (by rw [up_r (by omega)]; exact h4) (fun u hu2 => by
      by_cases e : u = S
      · subst e; exact up_s
      · rw [up_d (by omega)]; exact hu u (by omega)) f2 (by omega)
    refine ⟨x, Eq.trans (whl_l ?_) g1, fun q j hq => by rw [g2 q j hq, up_d (by omega)], g3⟩
    unfold F_M_weddings_25_b
    dsimp only
    rw [hv, if_neg (nI_nlt (by omega) (by omega)), m_low1 hz z1 z2, ob_s, bind_T, m1, p_inb hm (by decide), chk_t, bind_T, bind_T, nI_1, h3, p_cnt (by omega) (by omega), p_cl (by omega), hu m hmS]
    rw [← hv, k1, ob_s, p_inb (by omega) (by decide), chk_t, bind_T, bind_T, p_cl (by omega), nI_1, k2, show P - (z + 1) = P - z - 1 by omega, ← hS1]
theorem op31 (h : INV i σ) (a1 a2 a3 a4 a5 : Int32) : ∃ σ', S_31 σ a1 a2 a3 a4 a5 = some σ' ∧ INV (i + 1) σ' := by
  have h0 := h
  obtain ⟨g, P, M, C, h⟩ := h
  have hP := h.1.c1.1
  have hp2 := pow_P hP
  have hp1 := Nat.two_pow_pos P
  have h2 : TR (tv σ 3) ((up (up σ 333 0 0) 345 0 0) 334) g P M C := h.1.keepM (by rw [up_r (by omega), up_r (by omega)])
  have hb0 : ∀ q, q < 32 → bt (nI 0) q = false := fun q _ => by rw [nI_0, b_0]
  obtain ⟨x, e1, e2, e3⟩ := m_tab h2 rfl (2 ^ P - 1) 1 (by omega) (by omega) (up (up σ 333 0 0) 345 0 0) rfl (fun u hu => by
    obtain rfl : u = 0 := by omega
    have e : wT (tv σ 3) P M 0 = 0 := by
      unfold wT
      have := mpN_low (a := wdA (tv σ 3)) (P := P) (F := fun q => bt (nI 0) q && wU (tv σ 3) M q) (e := P) (d := 0) (by omega) (fun q h1 h2 => by
        show (bt (nI 0) q && _) = false
        rw [hb0 q (by omega)]; rfl)
      exact this
    rw [e, up_s, nI_0]) FUEL (by unfold FUEL; omega)
  rw [show nI 1 = 1 by decide] at e1
  refine ⟨x.2, ?_, h0.to fun q j hq => ?_⟩
  · have eA : wT (tv σ 3) P M (2 ^ P - 1) = mpN (wdA (tv σ 3)) P P (wU (tv σ 3) M) := by
      refine mpN_congr (Nat.le_refl P) (fun q _ hq => ?_)
      show (bt (nI (2 ^ P - 1)) q && _) = _
      rw [b_nI (by omega), Nat.testBit_two_pow_sub_one, decide_eq_true hq, Bool.true_and]
    have s1 : nI (2 ^ P) - 1 = nI (2 ^ P - 1) := pk_sub (b := 1) (by omega)
    unfold S_31 F_W_weddings F_M_weddings
    rw [c_wedN h.1, ob_s, ob_s, bind_T, up_d (by omega), show σ 334 3 = nI P from h.1.c3.1, shl_P P (by omega), s1, bind_T, bind_T, e1, ob_s, p_inb (by omega) (by decide), chk_t, ob_s, p_cl (by omega), e3 _ (by omega), eA, if_pos rfl]
  · unfold RelC RelM at hq
    rw [e2 q j (by omega), up_d (by omega), up_d (by omega)]
end WDN

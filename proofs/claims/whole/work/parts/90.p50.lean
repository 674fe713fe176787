-- PURE STAGE: holds
section HOL
variable {σ σ' : Mem} {g : Nat → Int32} {P M C i : Nat}
theorem short_95 {j : Nat} (hj : j ≠ 9) {a b : Int32} : F_Town_ruinIfShort σ 95 a b 95 j = σ 95 j := by
  unfold F_Town_ruinIfShort
  split
  · rw [bind_T, up_d (by omega)]
  · rfl
theorem take_95 {j : Nat} {a b : Int32} : (F_Town_take σ 95 a b).1 95 j = σ 95 j := (fr_F_Town_take σ 95 a b (by omega) rfl).1
theorem give_95 {j : Nat} {a b : Int32} : F_Town_give σ 95 a b 95 j = σ 95 j := fr_F_Town_give σ 95 a b (by omega) rfl
theorem pay_95 {j : Nat} (hj : j ≠ 9) (x : Int32) : (F_Town_payOut σ 95 x).1 95 j = σ 95 j := by
  unfold F_Town_payOut
  simp only [bind_T]
  split
  · rw [take_95, short_95 hj]
  · split
    · rw [take_95, short_95 hj, give_95, take_95, short_95 hj]
    · rw [take_95, short_95 hj]
theorem claim_95 {j : Nat} (hj : j ≠ 9) {x : Int32} {z : Mem × Int32} (h : F_Town_payClaim σ 95 x = some z) : z.1 95 j = σ 95 j := by
  unfold F_Town_payClaim at h
  simp only [bind_T] at h
  obtain ⟨y, h1, h2⟩ := obind_out h
  have h3 : y.2.2 95 j = σ 95 j := (k_whl (K := kP kT (kP kT (kM 95 j (σ 95 j)))) (L := kP kT (kP kT (kM 95 j (σ 95 j)))) (F := fun s => F_Town_payClaim_11_b 95 x (F_Town_insurersOf σ 95 x) s.1 s.2.1 s.2.2) (fun s hs => by
    unfold F_Town_payClaim_11_b
    simp only [bind_T]
    split
    · split
      · exact k_some (k_inl ⟨trivial, trivial, hs.2.2⟩)
      · exact k_some (k_inl ⟨trivial, trivial, (pay_95 hj _).trans hs.2.2⟩)
    · exact k_some (k_inr ⟨trivial, trivial, hs.2.2⟩)) (n := FUEL) (s := (0, 0, σ)) ⟨trivial, trivial, rfl⟩ y h1).2.2
  cases h2
  show F_Town_give _ _ _ _ 95 j = _
  rw [give_95, give_95, h3]
theorem all_95 {j : Nat} (hj : j ≠ 9) {z : Mem} (h : F_For_claimAll σ = some z) : z 95 j = σ 95 j := by
  unfold F_For_claimAll at h
  obtain ⟨y, h1, h2⟩ := obind_out h
  have h3 : y.2 95 j = σ 95 j := (k_whl (K := kP kT (kM 95 j (σ 95 j))) (L := kP kT (kM 95 j (σ 95 j))) (F := fun s => F_For_claimAll_2_b s.1 s.2) (fun s hs => by
    unfold F_For_claimAll_2_b
    simp only [bind_T]
    split
    · split
      · intro y hy
        obtain ⟨w, h4, h5⟩ := obind_out hy
        cases h5
        exact k_inl ⟨trivial, (claim_95 hj h4).trans hs.2⟩
      · exact k_some (k_inl ⟨trivial, hs.2⟩)
    · exact k_some (k_inr ⟨trivial, hs.2⟩)) (n := FUEL) (s := (0, σ)) ⟨trivial, rfl⟩ y h1).2
  cases h2
  exact h3
theorem hold_step {T0 : Nat → Nat → Int32} {f0 : Nat → Int32} {z s : Mem} (hz : TR (tv z 95) (s 334) g P M C) (h0 : TR T0 f0 g P M C) (ha : ∀ j, j < 450 → s 336 j = f0 j) :
    ∃ z1 s2, F_For_claimAll z = some z1 ∧ F_M_fallsNow s = some (s2, (z1 95 9) &&& ((T0 0 9) ^^^ (-1))) ∧ ∀ q j, q ≠ 334 → s2 q j = s q j := by
  obtain ⟨z1, x1, s2, e1, e2, e3⟩ := hz.claimAll
  have fr : ∀ q j, q ≠ 334 → s2 q j = s q j := fun q j hq => by
    have := k_whl (K := kP kT (kM q j (s q j))) (L := kP kT (kM q j (s q j))) (F := fun s => F_M_fallsNow_2_b s.1 s.2) (fun s hs => fr_F_M_fallsNow_2_b s.1 s.2 (by omega) hs.2) (n := FUEL) (s := ((0 : Int32), s)) ⟨trivial, rfl⟩ _ e2
    exact this.2
  have e4 := q_fall e3 h0 (fun j hj => (fr 336 j (by omega)).trans (ha j hj))
  refine ⟨z1, s2, e1, ?_, fr⟩
  unfold F_M_fallsNow
  rw [e2, ob_s, e4]
  rfl
def hbs (σ : Mem) (p w : Nat) : Mem := up (F_Town_copyAll σ 95 3) 97 p (nI w)
def FB (σ : Mem) (p w : Nat) : Bool := match F_For_claimAll (hbs σ p w) with
  | some b => bt ((b 95 9) &&& ((σ 3 9) ^^^ (-1))) p
  | none => false
theorem hbs_TR {f0 : Nat → Int32} (h : TR (tv σ 3) f0 g P M C) {p w : Nat} (hp : p < P) (hw : w ≤ 999) : TR (tv (hbs σ p w) 95) (upF f0 (14 + 4 * p) (nI w)) g P M C := by
  have h1 : TR (tv (F_Town_copyAll σ 95 3) 95) f0 g P M C := h.copy (by omega)
  unfold hbs
  rw [show tv (up (F_Town_copyAll σ 95 3) 97 p (nI w)) 95 = upT (tv (F_Town_copyAll σ 95 3) 95) 2 p (nI w) from tv_up (t := 95) (r := 2)]
  exact h1.wealth hp hw
theorem FB_mono {s : Mem} (h : TR (tv σ 3) (s 334) g P M C) {p w w' : Nat} (hp : p < P) (hw : w ≤ w') (hw' : w' ≤ 999) (hF : FB σ p w = false) : FB σ p w' = false := by
  have hP := h.c1.1
  have tA : TR (tv (hbs σ p w) 95) ((up s 334 (14 + 4 * p) (nI w)) 334) g P M C := by rw [mv_up]; exact hbs_TR h hp (by omega)
  have tB : TR (tv (hbs σ p w') 95) ((up s 334 (14 + 4 * p) (nI w')) 334) g P M C := by rw [mv_up]; exact hbs_TR h hp hw'
  have hD : DW p (hbs σ p w) (hbs σ p w') := ⟨fun q j hq => by unfold hbs; rw [up_d (by omega), up_d (by omega)], w, w', up_s, up_s, hw, hw'⟩
  obtain ⟨A1, B1, e1, e2, e3⟩ := all_sim tA tB hp hD
  unfold FB at hF ⊢
  rw [e1] at hF
  rw [e2]
  dsimp only at hF ⊢
  rw [b_and, b_not (by omega)] at hF ⊢
  cases hb : bt (σ 3 9) p with
  | true => simp
  | false =>
    rw [hb] at hF
    simp only [Bool.not_false, Bool.and_true] at hF ⊢
    rcases e3 with e3 | e3
    · unfold RU at e3; rw [e3] at hF; cases hF
    · rw [← e3.1 95 9 (by omega)]; exact hF
theorem FB_is {f0 : Nat → Int32} (h : TR (tv σ 3) f0 g P M C) {p w : Nat} (hp : p < P) (hw : w ≤ 999) {z s : Mem} (hz : TR (tv z 95) (s 334) g P M C) (hs : s 334 = upF f0 (14 + 4 * p) (nI w)) (ha : ∀ j, j < 450 → s 336 j = f0 j) :
    ∃ z1 s2, F_For_claimAll z = some z1 ∧ F_M_fallsNow s = some (s2, (z1 95 9) &&& ((σ 3 9) ^^^ (-1))) ∧ (∀ q j, q ≠ 334 → s2 q j = s q j) ∧ bt ((z1 95 9) &&& ((σ 3 9) ^^^ (-1))) p = FB σ p w := by
  obtain ⟨z1, s2, e1, e2, e3⟩ := hold_step hz h ha
  have tb : TR (tv (hbs σ p w) 95) (s 334) g P M C := by rw [hs]; exact hbs_TR h hp hw
  obtain ⟨z1', s2', e1', e2', e3'⟩ := hold_step tb h ha
  refine ⟨z1, s2, e1, e2, e3, ?_⟩
  have em : (z1 95 9) &&& ((tv σ 3 0 9) ^^^ (-1)) = (z1' 95 9) &&& ((tv σ 3 0 9) ^^^ (-1)) := congrArg Prod.snd (Option.some.inj (e2.symm.trans e2'))
  unfold FB
  rw [e1']
  show bt ((z1 95 9) &&& ((tv σ 3 0 9) ^^^ (-1))) p = bt ((z1' 95 9) &&& ((tv σ 3 0 9) ^^^ (-1))) p
  rw [em]
/-- the least wealth that is enough -/
def LWA (σ : Mem) (p : Nat) (r : Int32) : Prop := (∃ w, w ≤ 999 ∧ r = nI w ∧ FB σ p w = false ∧ ∀ u, u < w → FB σ p u = true) ∨ (r = -1 ∧ ∀ u, u ≤ 999 → FB σ p u = true)
theorem LWA_eq {p : Nat} {r r' : Int32} (h : LWA σ p r) (h' : LWA σ p r') : r = r' := by
  rcases h with ⟨w, h1, h2, h3, h4⟩ | ⟨h1, h2⟩
  · rcases h' with ⟨w', h1', h2', h3', h4'⟩ | ⟨h1', h2'⟩
    · have : w = w' := by
        rcases Nat.lt_trichotomy w w' with c | c | c
        · rw [h4' w c] at h3; cases h3
        · exact c
        · rw [h4 w' c] at h3'; cases h3'
      rw [h2, h2', this]
    · rw [h2' w h1] at h3; cases h3
  · rcases h' with ⟨w', h1', h2', h3', h4'⟩ | ⟨h1', h2'⟩
    · rw [h2 w' h1'] at h3'; cases h3'
    · rw [h1, h1']
/-- the class's memory between two tries -/
def HIC (σ z : Mem) : Prop := (∀ q j, (q < 95 ∨ 111 < q) → z q j = σ q j) ∧ ∀ r j, r ≤ 16 → r ≠ 1 → r ≠ 2 → (r ≠ 0 ∨ j ≠ 9) → z (95 + r) j = F_Town_copyAll σ 95 3 (95 + r) j
theorem purses_is (z : Mem) : F_Town_copyPurses z 95 3 = up (cpM z 5 97 8) 95 9 (z 3 9) := by
  unfold F_Town_copyPurses F_Row_copyAll
  simp only [bind_T]
  rw [show ((if (Int32.ofNat 8) < (Int32.ofNat 8) then (Int32.ofNat 8) else (Int32.ofNat 8)) : Int32).toNatClampNeg = 8 by decide]
  have e : cpM z 5 97 8 3 9 = z 3 9 := by unfold cpM; rw [if_neg (by omega)]
  show up (cpM z 5 97 8) 95 9 (cpM z 5 97 8 3 9) = _
  rw [e]
theorem try_TR {f0 : Nat → Int32} (h : TR (tv σ 3) f0 g P M C) {z : Mem} (hz : HIC σ z) {p w : Nat} (hp : p < P) (hw : w ≤ 999) : TR (tv (up (F_Town_copyPurses z 95 3) 97 p (nI w)) 95) (upF f0 (14 + 4 * p) (nI w)) g P M C ∧ HIC σ (up (F_Town_copyPurses z 95 3) 97 p (nI w)) := by
  have hP := h.c1.1
  have c1 : ∀ q j, q ≠ 97 → cpM z 5 97 8 q j = z q j := fun q j hq => by unfold cpM; rw [if_neg (by omega)]
  have c2 : ∀ j, j < 8 → cpM z 5 97 8 97 j = z 5 j := fun j hj => by unfold cpM; rw [if_pos ⟨rfl, hj⟩]
  constructor
  · have h1 : TR (tv (F_Town_copyPurses z 95 3) 95) f0 g P M C := by
      refine h.congr (fun r k hr => ?_) (fun _ _ => rfl) h.c16
      show F_Town_copyPurses z 95 3 (95 + r) k = σ (3 + r) k
      rw [purses_is]
      by_cases e : r = 2
      · subst e
        rw [up_d (by omega), c2 k (by omega), hz.1 5 k (by omega)]
      · by_cases e2 : r = 0 ∧ k = 9
        · obtain ⟨rfl, rfl⟩ := e2
          rw [up_s, hz.1 3 9 (by omega)]
        · rw [up_d (by omega), c1 _ _ (by omega), hz.2 r k (by omega) (by omega) e (by omega), copy_at (by omega) r k hr]
    rw [show tv (up (F_Town_copyPurses z 95 3) 97 p (nI w)) 95 = upT (tv (F_Town_copyPurses z 95 3) 95) 2 p (nI w) from tv_up (t := 95) (r := 2)]
    exact h1.wealth hp hw
  · rw [purses_is]
    refine ⟨fun q j hq => ?_, fun r j h1 h2 h3 h4 => ?_⟩
    · rw [up_d (by omega), up_d (by omega), c1 q j (by omega)]; exact hz.1 q j hq
    · rw [up_d (by omega), up_d (by omega), c1 _ _ (by omega)]; exact hz.2 r j h1 h2 h3 h4
theorem HIC_all {z z1 : Mem} (h : HIC σ z) (e : F_For_claimAll z = some z1) : HIC σ z1 := by
  refine ⟨fun q j hq => (fr_F_For_claimAll z (by omega) rfl _ e).trans (h.1 q j hq), fun r j h1 h2 h3 h4 => ?_⟩
  refine Eq.trans ?_ (h.2 r j h1 h2 h3 h4)
  by_cases c : r = 0
  · subst c; exact all_95 (by omega) e
  · exact fr_F_For_claimAll z (by omega) rfl _ e
theorem c_holds {s0 : Mem} (h : TR (tv σ 3) (s0 334) g P M C) (ha : ∀ j, j < 450 → s0 336 j = s0 334 j) {p : Nat} (hp : p < P) : ∃ z v, F_For_leastWealth σ 3 (nI p) = some (z, v) ∧ LWA σ p v ∧ ∀ q j, (q < 95 ∨ 111 < q) → z q j = σ q j := by
  have hP := h.c1.1
  have loop : ∀ (d l e : Nat) (z : Mem) (lo : Int32), l ≤ e → e ≤ 1000 → (e - l ≤ d ∨ (d = 999 ∧ e - l = 1000)) → HIC σ z → (∀ u, u < l → FB σ p u = true) → (∀ u, e ≤ u → u ≤ 999 → FB σ p u = false) →
      ∃ l' e' z', omap mrg (forGO (fun i s => F_For_leastWealth_18_b 3 (nI p) i s.1 s.2.1 s.2.2) d lo (nI l, nI e, z)) = some (nI l', nI e', z') ∧ l' = e' ∧ e' ≤ 1000 ∧ HIC σ z' ∧ (∀ u, u < l' → FB σ p u = true) ∧ ∀ u, e' ≤ u → u ≤ 999 → FB σ p u = false := by
    intro d
    induction d with
    | zero => intro l e z lo h1 h2 h3 h4 h5 h6; exact ⟨l, e, z, rfl, by omega, h2, h4, h5, h6⟩
    | succ d ih =>
      intro l e z lo h1 h2 h3 h4 h5 h6
      by_cases c : l < e
      · have ew : (l + e) / 2 ≤ 999 := by omega
        obtain ⟨t1, t2⟩ := try_TR h h4 hp ew
        obtain ⟨z1, s2, e1, -, -, e4⟩ := FB_is (s := up s0 334 (14 + 4 * p) (nI ((l + e) / 2))) h hp ew (by rw [mv_up]; exact t1) mv_up (fun j hj => by rw [up_d (by omega)]; exact ha j hj)
        have t3 := HIC_all t2 e1
        have ed : (nI l + nI e) / 2 = nI ((l + e) / 2) := by
          rw [nI_add]
          exact pk_div (d := 2) (by omega) (by decide) (by decide)
        have eS : F_For_leastWealth_18_b 3 (nI p) lo (nI l) (nI e) z = if FB σ p ((l + e) / 2) = true then some (.inl (nI ((l + e) / 2 + 1), nI e, z1)) else some (.inl (nI l, nI ((l + e) / 2), z1)) := by
          unfold F_For_leastWealth_18_b
          rw [if_pos (nI_lt c (by omega)), bind_T, ed, bind_T, p_put (by omega) (by decide), bind_T, e1, ob_s, t3.1 3 9 (by omega), p_con (by omega), if10, e4, nI_1]
          rfl
        have nxt_ : ∀ s, F_For_leastWealth_18_b 3 (nI p) lo (nI l) (nI e) z = some (.inl s) → omap mrg (forGO (fun i s => F_For_leastWealth_18_b 3 (nI p) i s.1 s.2.1 s.2.2) (d + 1) lo (nI l, nI e, z)) = omap mrg (forGO (fun i s => F_For_leastWealth_18_b 3 (nI p) i s.1 s.2.1 s.2.2) d (lo + 1) s) := fun s hs => by
          show omap mrg (obind (F_For_leastWealth_18_b 3 (nI p) lo (nI l) (nI e) z) fun y => contO y fun s' => forGO _ d (lo + 1) s') = _
          rw [hs]
          rfl
        cases hF : FB σ p ((l + e) / 2) with
        | true =>
          rw [hF, if_pos rfl] at eS
          rw [nxt_ _ eS]
          refine ih _ _ _ _ (by omega) h2 (by omega) t3 (fun u hu => ?_) h6
          cases hu2 : FB σ p u with
          | true => rfl
          | false => rw [FB_mono h hp (show u ≤ (l + e) / 2 by omega) ew hu2] at hF; cases hF
        | false =>
          rw [hF, if_neg (by decide)] at eS
          rw [nxt_ _ eS]
          exact ih _ _ _ _ (by omega) (by omega) (by omega) t3 h5 (fun u hu1 hu2 => FB_mono h hp hu1 hu2 hF)
      · have eS : F_For_leastWealth_18_b 3 (nI p) lo (nI l) (nI e) z = some (.inr (nI l, nI e, z)) := by
          unfold F_For_leastWealth_18_b
          rw [if_neg (nI_nlt (by omega) (by omega))]
        refine ⟨l, e, z, ?_, by omega, h2, h4, h5, h6⟩
        show omap mrg (obind (F_For_leastWealth_18_b 3 (nI p) lo (nI l) (nI e) z) fun y => contO y fun s' => forGO _ d (lo + 1) s') = _
        rw [eS]
        rfl
  obtain ⟨l, e, z, e1, rfl, e3, e4, e5, e6⟩ := loop 999 0 1000 (F_Town_copyAll σ 95 3) 0 (by omega) (Nat.le_refl _) (by omega) ⟨fun q j hq => copy_fr (by omega), fun _ _ _ _ _ _ => rfl⟩ (fun u hu => by omega) (fun u h1 h2 => by omega)
  rw [nI_0] at e1
  unfold F_For_leastWealth
  rw [bind_T, show cnt 0 999 = 999 by decide, show (1000 : Int32) = nI 1000 by decide, e1, ob_s]
  dsimp only
  by_cases c : 999 < l
  · rw [if_pos (show (999 : Int32) < nI l from nI_lt (a := 999) c (by omega))]
    exact ⟨z, -1, rfl, Or.inr ⟨rfl, fun u hu => e5 u (by omega)⟩, e4.1⟩
  · rw [if_neg (show ¬ (999 : Int32) < nI l from nI_nlt (a := 999) (by omega) (by omega))]
    exact ⟨z, nI l, rfl, Or.inl ⟨l, by omega, rfl, e6 l (Nat.le_refl _) (by omega), e5⟩, e4.1⟩
theorem ho_done {v1 : Int32} {v : Nat} (hv : v < 6000) (s : Mem) : ∀ (d : Nat) (lo : Int32), omap mrg (forGO (fun i s => F_M_holds_34_b v1 i s.1 s.2) d lo (nI v, s)) = some (nI v, s) := by
  intro d lo
  cases d with
  | zero => rfl
  | succ d =>
    show omap mrg (obind (F_M_holds_34_b v1 lo (nI v) s) fun y => contO y fun s' => forGO _ d (lo + 1) s') = _
    unfold F_M_holds_34_b
    rw [if_neg (m1_ne v hv)]
    rfl
theorem m_holds {s0 : Mem} (h : TR (tv σ 3) (s0 334) g P M C) (ha : ∀ j, j < 450 → s0 336 j = s0 334 j) {p : Nat} (hp : p < P) : ∀ (d w : Nat) (s : Mem), d + w = 1000 → (∀ j, j < 850 → s 334 j = s0 334 j) → (∀ q j, q ≠ 334 → s q j = s0 q j) → (∀ u, u < w → FB σ p u = true) →
    ∃ r s3, omap mrg (forGO (fun i s => F_M_holds_34_b (nI p) i s.1 s.2) d (nI w) (-1, s)) = some (r, s3) ∧ LWA σ p r ∧ (∀ j, j < 850 → s3 334 j = s0 334 j) ∧ ∀ q j, q ≠ 334 → s3 q j = s0 q j := by
  have hP := h.c1.1
  intro d
  induction d with
  | zero => intro w s hd h1 h2 h3; exact ⟨-1, s, rfl, Or.inr ⟨rfl, fun u hu => h3 u (by omega)⟩, h1, h2⟩
  | succ d ih =>
    intro w s hd h1 h2 h3
    have hw : w ≤ 999 := by omega
    have hs : TR (tv σ 3) (s 334) g P M C := h.keep4 (fun _ _ _ => rfl) h1
    obtain ⟨z1, s2, -, e2, e3, e4⟩ := FB_is (s := up s 334 (14 + 4 * p) (nI w)) (z := hbs σ p w) hs hp hw (by rw [mv_up]; exact hbs_TR hs hp hw) mv_up (fun j hj => by rw [up_d (by omega), h2 336 j (by omega), ha j hj, h1 j (by omega)])
    obtain ⟨s3, b1, b2, b3⟩ := m_back (σ := s2)
    have c3 : ∀ q j, q ≠ 334 → s3 q j = s0 q j := fun q j hq => by rw [b3 q j (by omega), e3 q j hq, up_d (by omega), h2 q j hq]
    have t2 : ∀ j, 450 ≤ j → j < 850 → s2 334 j = s0 334 j := fun j h5 h6 => by
      obtain ⟨z9, x1, s9, q1, q2, q3⟩ := TR.claimAll (σ := hbs σ p w) (σ' := up s 334 (14 + 4 * p) (nI w)) (g := g) (P := P) (M := M) (C := C) (by rw [mv_up]; exact hbs_TR hs hp hw)
      have : s9 = s2 := by
        unfold F_M_fallsNow at e2
        rw [q2, ob_s] at e2
        obtain ⟨y, y1, y2⟩ := obind_out e2
        exact congrArg Prod.fst (Option.some.inj y2)
      rw [← this, q3.c16 j (by omega), h.c16 j (by omega)]
    have c2 : ∀ j, j < 850 → s3 334 j = s0 334 j := fun j hj => by
      by_cases c : j < 450
      · rw [b2 j c, e3 336 j (by omega), up_d (by omega), h2 336 j (by omega), ha j c]
      · rw [b3 334 j (by omega)]; exact t2 j (by omega) hj
    have eS : F_M_holds_34_b (nI p) (nI w) (-1) s = if FB σ p w = true then some (.inl (-1, s3)) else some (.inl (nI w, s3)) := by
      unfold F_M_holds_34_b
      rw [if_pos rfl, m_has0 (by omega), ob_s, e2, ob_s, p_isOf (by omega), if10, e4, b1, ob_s, ob_s]
    cases hF : FB σ p w with
    | true =>
      rw [hF, if_pos rfl] at eS
      obtain ⟨r, s4, g1, g2⟩ := ih (w + 1) s3 (by omega) c2 c3 (fun u hu => by
        by_cases e : u = w
        · subst e; exact hF
        · exact h3 u (by omega))
      refine ⟨r, s4, ?_, g2⟩
      show omap mrg (obind (F_M_holds_34_b (nI p) (nI w) (-1) s) fun y => contO y fun s' => forGO _ d (nI w + 1) s') = _
      rw [eS, nI_1]
      exact g1
    | false =>
      rw [hF, if_neg (by decide)] at eS
      refine ⟨nI w, s3, ?_, Or.inl ⟨w, hw, rfl, hF, h3⟩, c2, c3⟩
      show omap mrg (obind (F_M_holds_34_b (nI p) (nI w) (-1) s) fun y => contO y fun s' => forGO _ d (nI w + 1) s') = _
      rw [eS]
      exact ho_done (by omega) s3 d _
theorem rs23 (h : INVg i g P M C σ σ) (a1 : Int32) : RS i σ g P M C (H_holds σ a1) (fun σ' => F_M_holds σ' a1) := by
  have hP := h.1.c1.1
  rcases pcase P a1 with ⟨p, hp, rfl⟩ | h1
  · have asd : ∀ σ' : Mem, TR (tv σ 3) (σ' 334) g P M C → ∃ s0, F_M_putsAside σ' = some s0 ∧ TR (tv σ 3) (s0 334) g P M C ∧ (∀ j, j < 450 → s0 336 j = s0 334 j) ∧ ∀ q j, q ≠ 336 → s0 q j = σ' q j := fun σ' h' => by
      obtain ⟨s0, x1, x2, x3⟩ := m_aside (σ := σ')
      exact ⟨s0, x1, h'.keepM (funext fun j => x3 334 j (by omega)), fun j hj => (x2 j hj).trans (x3 334 j (by omega)).symm, fun q j hq => x3 q j (by omega)⟩
    obtain ⟨s0, -, y2, y3, -⟩ := asd σ h.1
    obtain ⟨z, v, e1, e2, e3⟩ := c_holds y2 y3 hp
    refine Or.inr ⟨z, v, ?_, fun q j hq => e3 q j (by unfold RelC at hq; omega), fun σ' h' => ?_⟩
    · unfold H_holds F_W_holds
      rw [cp_ok h.1 hp, sumE_r, e1]
      rfl
    · have h2 := (h'.th (c := 0)).1
      obtain ⟨s1, x1, x2, x3, x4⟩ := asd _ h2
      obtain ⟨r, s3, f1, f2, f3, f4⟩ := m_holds x2 x3 hp 1000 0 s1 rfl (fun _ _ => rfl) (fun _ _ _ => rfl) (fun u hu => by omega)
      rw [nI_0] at f1
      refine ⟨s3, ?_, fun q j hq => ?_, ?_⟩
      · dsimp only
        unfold F_M_holds
        rw [(q_pers h'.1 hp).2, ob_s, if_neg (show ¬ (1 : Int32) = 0 by decide), bind_T, up_s, if_neg nlt00, x1, ob_s, show cle 0 999 = 1000 by decide, f1, ob_s, LWA_eq e2 f2]
      · unfold RelM at hq
        by_cases c : q = 334
        · subst c
          rw [f3 j (by omega), x4 334 j (by omega), up_d (by omega)]
        · rw [f4 q j c, x4 q j (by omega), up_d (by omega)]
      · rw [f4 333 0 (by omega), x4 333 0 (by omega), up_s]
  · refine Or.inl ⟨1, by decide, ?_, fun σ' h' => ?_⟩
    · unfold H_holds F_W_holds
      rw [cp_no h.1 h1]; rfl
    · dsimp only
      unfold F_M_holds
      rw [(q_nopers h' h1).2, ob_s, if_pos rfl, bind_T, up_s, if_pos lt01]
      exact ⟨_, rfl⟩
theorem op23 (h : INV i σ) (a1 a2 a3 a4 a5 : Int32) : ∃ σ', S_23 σ a1 a2 a3 a4 a5 = some σ' ∧ INV (i + 1) σ' := by
  obtain ⟨g, P, M, C, h⟩ := h
  exact rs_ok (B := fun σ' => F_M_holds σ' a1) h (rs23 h a1)
end HOL

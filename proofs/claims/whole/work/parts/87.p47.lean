-- PURE STAGE: gifts, the reference
section GIM
variable {σ σ' : Mem} {g : Nat → Int32} {P M C i : Nat}
def GFR (s0 s : Mem) : Prop := ∀ a b, a ≠ 334 → a ≠ 339 → a ≠ 340 → a ≠ 341 → (a ≠ 333 ∨ (b ≠ 9 ∧ b ≠ 10 ∧ b ≠ 11 ∧ b ≠ 13 ∧ b ≠ 15 ∧ b ≠ 16)) → s a b = s0 a b
theorem GFR.tr {a b c : Mem} (h1 : GFR a b) (h2 : GFR b c) : GFR a c := fun q j u v w x y => (h2 q j u v w x y).trans (h1 q j u v w x y)
/-- the reference's town as it looks in so many months -/
def GTN (σ : Mem) (f0 : Nat → Int32) (k mo i : Nat) (s : Mem) : Prop := s 334 8 = nI (min (mo + i) 9999) ∧ s 334 (113 + 5 * k) = σ 17 k + nI i ∧ ∀ j, j ≠ 8 → j ≠ 112 + 5 * k → j ≠ 113 + 5 * k → s 334 j = f0 j
theorem GTN.to {f0 : Nat → Int32} {k mo i : Nat} {s s1 : Mem} (h : GTN σ f0 k mo i s) (e : ∀ j, j ≠ 112 + 5 * k → s1 334 j = s 334 j) : GTN σ f0 k mo i s1 := ⟨(e _ (by omega)).trans h.1, (e _ (by omega)).trans h.2.1, fun j h1 h2 h3 => (e j h2).trans (h.2.2 j h1 h2 h3)⟩
theorem gt_nx {Λ : FN} {f0 : Nat → Int32} (h : TR (tv σ 3) f0 g P M C) (l2 : MLs g Λ) {k mo i n : Nat} {q : Int32} (hk : k < M) {s : Mem} (hT : GTN σ f0 k mo i s) (e0 : s 334 (112 + 5 * k) = nI n) (hn : n ≤ 99) (hn0 : n ≠ 0) :
    ∃ s1, F_M_nextOf s (nI k) q = some (s1, nI (NX Λ (tv σ 3) P k q mo i n)) ∧ s1 334 = s 334 ∧ GFR s s1 ∧ ∀ j, s1 340 j = s 340 j ∧ s1 341 j = s 341 j := by
  have hM := h.c1.2.1
  obtain ⟨t1, t2, t3⟩ := hT
  have hh := h.happy hk hn
  have hh2 := hh.mon hk (x0 := σ 17 k + nI i)
  have hh3 := hh2.month (n0 := min (mo + i) 9999) (by omega)
  have ef : s 334 = upF (upF (upF f0 (112 + 5 * k) (nI n)) (113 + 5 * k) (σ 17 k + nI i)) 8 (nI (min (mo + i) 9999)) := by
    funext j
    by_cases c1 : j = 8
    · rw [c1, upF_s]; exact t1
    · rw [upF_d c1]
      by_cases c2 : j = 113 + 5 * k
      · rw [c2, upF_s]; exact t2
      · rw [upF_d c2]
        by_cases c3 : j = 112 + 5 * k
        · rw [c3, upF_s]; exact e0
        · rw [upF_d c3]; exact t3 j c1 c3 c2
  have eT : upT (upT (upT (tv σ 3) 12 k (nI n)) 14 k (σ 17 k + nI i)) 0 15 (nI (min (mo + i) 9999)) = tv (up (up (up σ (3 + 12) k (nI n)) (3 + 14) k (σ 17 k + nI i)) 3 15 (nI (min (mo + i) 9999))) 3 := by
    rw [tv_up0, tv_up, tv_up]
  rw [eT, ← ef] at hh3
  obtain ⟨s1, f1, f2, f3⟩ := m_next (σ := up (up (up σ (3 + 12) k (nI n)) (3 + 14) k (σ 17 k + nI i)) 3 15 (nI (min (mo + i) 9999))) (t := 3) hh3 l2 hk q
  refine ⟨s1, ?_, f2, fun a b h1 h2 h3 h4 h5 => f3 a b h2 h5, fun j => ⟨f3 340 j (by omega) (by omega), f3 341 j (by omega) (by omega)⟩⟩
  rw [f1]
  congr 2
  unfold NX
  rw [if_neg hn0, ← (hw_cl _).1]
  rw [← eT]
  unfold LAM
  have i1 : insK (upT (upT (upT (tv σ 3) 12 k (nI n)) 14 k (σ 17 k + nI i)) 0 15 (nI (min (mo + i) 9999))) P k = insK (tv σ 3) P k := insK_eq (by simp (disch := omega) only [upT_d]) (fun j => by simp (disch := omega) only [upT_d]) (by simp (disch := omega) only [upT_d]) (fun j => by simp (disch := omega) only [upT_d])
  have i2 : likeS (upT (upT (upT (tv σ 3) 12 k (nI n)) 14 k (σ 17 k + nI i)) 0 15 (nI (min (mo + i) 9999))) k = likeS (tv σ 3) k := like_eq (fun j => by simp (disch := omega) only [upT_d]) (fun j => by simp (disch := omega) only [upT_d])
  have i3 : richB (upT (upT (upT (tv σ 3) 12 k (nI n)) 14 k (σ 17 k + nI i)) 0 15 (nI (min (mo + i) 9999))) k = richB (tv σ 3) k := rich_eq (fun j => by simp (disch := omega) only [upT_d]) (fun j => by simp (disch := omega) only [upT_d])
  rw [i1, i2, i3]
  simp (disch := omega) only [upT_d, upT_s]
  rfl
/-- what may be bought later -/
def GTAB (nx : Nat → Nat → Nat) (bar n i : Nat) (s : Mem) : Prop := ∀ i', i < i' → i' ≤ n → ∀ h, h < 100 → s 340 (100 * i' + h) = nI (gD nx bar n (n - i') h)
theorem gD_big {nx : Nat → Nat → Nat} {bar n d h : Nat} (hd : d ≤ 20) : gD nx bar n d h ≤ INFN := by
  rcases gD_bd (nx := nx) (bar := bar) (n := n) d h with e | e
  · omega
  · have : INFN = 2000000000 := rfl
    omega
theorem m_by {nx : Nat → Nat → Nat} {bar n i b x : Nat} {s : Mem} (h5 : s 334 5 = nI bar) (hb : bar ≤ 99) (hi : i < n) (hn : n ≤ 20) (hx : x < 100) (hbx : b ≤ 99) (hG : GTAB nx bar n i s) : F_M_by s (nI i) (nI x) (nI b) = some (up s 341 x (nI (if b < bar then INFN else gD nx bar n (n - (i + 1)) b))) := by
  unfold F_M_by
  rw [h5]
  by_cases c : b < bar
  · rw [if_pos (nI_lt c (by omega)), p_inb hx (by decide), chk_t, bind_T, p_cl (by omega), if_pos c]
    rfl
  · rw [if_neg (nI_nlt (by omega) (by omega)), bind_T, nI_1, show (100 : Int32) * nI (i + 1) = nI (100 * (i + 1)) from pk_mul 100 _, nI_add, p_inb (by omega) (by decide), chk_t, p_inb hx (by decide), chk_t, bind_T, p_cl (by omega), p_cl (by omega), hG (i + 1) (by omega) (by omega) b (by omega), if_neg c]
/-- one month's happinesses -/
theorem m_turn {Λ : FN} {f0 : Nat → Int32} (h : TR (tv σ 3) f0 g P M C) (l2 : MLs g Λ) {k mo i n bar : Nat} {q : Int32} (hk : k < M) (e5 : f0 5 = nI bar) (hb : bar ≤ 99) (hi : i < n) (hn : n ≤ 20) {s : Mem} (hT : GTN σ f0 k mo i s) (hG : GTAB (NX Λ (tv σ 3) P k q mo) bar n i s) :
    ∃ s1, omap mrg (forGO (fun x s => F_M_gifts_94_b (nI k) (nI n) q (nI i) x s) (cnt 0 100) 0 s) = some s1 ∧ GTN σ f0 k mo i s1 ∧ (∀ x, x < 100 → s1 341 x = nI (tuR (NX Λ (tv σ 3) P k q mo i) bar (gD (NX Λ (tv σ 3) P k q mo) bar n (n - (i + 1))) x)) ∧ (∀ j, s1 340 j = s 340 j) ∧ GFR s s1 := by
  have hM := h.c1.2.1
  rw [show cnt 0 100 = 100 by decide]
  have key : ∀ d x t, d + x = 100 → GTN σ f0 k mo i t → (∀ y, y < x → t 341 y = nI (tuR (NX Λ (tv σ 3) P k q mo i) bar (gD (NX Λ (tv σ 3) P k q mo) bar n (n - (i + 1))) y)) → (∀ j, t 340 j = s 340 j) → GFR s t → ∃ s1, omap mrg (forGO (fun x s => F_M_gifts_94_b (nI k) (nI n) q (nI i) x s) d (nI x) t) = some s1 ∧ GTN σ f0 k mo i s1 ∧ (∀ x, x < 100 → s1 341 x = nI (tuR (NX Λ (tv σ 3) P k q mo i) bar (gD (NX Λ (tv σ 3) P k q mo) bar n (n - (i + 1))) x)) ∧ (∀ j, s1 340 j = s 340 j) ∧ GFR s s1 := by
    intro d
    induction d with
    | zero => intro x t hd h1 h2 h3 h4; exact ⟨t, rfl, h1, fun y hy => h2 y (by omega), h3, h4⟩
    | succ d ih =>
      intro x t hd h1 h2 h3 h4
      have tG : ∀ t1 : Mem, (∀ j, t1 340 j = t 340 j) → GTAB (NX Λ (tv σ 3) P k q mo) bar n i t1 := fun t1 ht i' j1 j2 y hy => by rw [ht, h3]; exact hG i' j1 j2 y hy
      have step : ∃ t1, F_M_gifts_94_b (nI k) (nI n) q (nI i) (nI x) t = some (.inl t1) ∧ GTN σ f0 k mo i t1 ∧ (∀ y, y < x + 1 → t1 341 y = nI (tuR (NX Λ (tv σ 3) P k q mo i) bar (gD (NX Λ (tv σ 3) P k q mo) bar n (n - (i + 1))) y)) ∧ (∀ j, t1 340 j = s 340 j) ∧ GFR s t1 := by
        have hx := NX_le Λ (tv σ 3) P k q mo i x
        have hT1 : GTN σ f0 k mo i (up t 334 (112 + 5 * k) (nI x)) := h1.to fun j hj => up_d (by omega)
        unfold F_M_gifts_94_b
        rw [if_pos (nI_lt hi (by omega)), m_told2 (by omega), ob_s]
        have fin : ∀ t2 : Mem, (∀ j, t2 334 j = up t 334 (112 + 5 * k) (nI x) 334 j) → (∀ j, t2 340 j = t 340 j ∧ t2 341 j = t 341 j) → GFR t t2 → ∃ t1, (obind (F_M_by t2 (nI i) (nI x) (nI (NX Λ (tv σ 3) P k q mo i x))) fun z17 => some (Sum.inl z17)) = some (Sum.inl t1 : Mem ⊕ Mem) ∧ GTN σ f0 k mo i t1 ∧ (∀ y, y < x + 1 → t1 341 y = nI (tuR (NX Λ (tv σ 3) P k q mo i) bar (gD (NX Λ (tv σ 3) P k q mo) bar n (n - (i + 1))) y)) ∧ (∀ j, t1 340 j = s 340 j) ∧ GFR s t1 := fun t2 u1 u2 u3 => by
          rw [m_by (nx := NX Λ (tv σ 3) P k q mo) (n := n) (bar := bar) (by rw [u1, hT1.2.2 5 (by omega) (by omega) (by omega)]; exact e5) hb hi hn (by omega) hx (tG t2 fun j => (u2 j).1), ob_s]
          refine ⟨_, rfl, hT1.to fun j _ => by rw [up_d (by omega), u1 j], fun y hy => ?_, fun j => ?_, fun a b v1 v2 v3 v4 v5 => ?_⟩
          · by_cases ey : y = x
            · subst ey
              rw [up_s]
              rfl
            · rw [up_d (by omega), (u2 y).2]; exact h2 y (by omega)
          · rw [up_d (by omega), (u2 j).1]; exact h3 j
          · rw [up_d (by omega), u3 a b v1 v2 v3 v4 v5]; exact h4 a b v1 v2 v3 v4 v5
        by_cases c : x = 0
        · subst c
          rw [if_pos nI_0]
          have e0 : NX Λ (tv σ 3) P k q mo i 0 = 0 := if_pos rfl
          have := fin (up t 334 (112 + 5 * k) (nI 0)) (fun _ => rfl) (fun j => ⟨up_d (by omega), up_d (by omega)⟩) (fun a b v1 _ _ _ _ => up_d (by omega))
          rw [e0, nI_0] at this
          rw [nI_0]
          exact this
        · rw [if_neg (nI_ne0 (by omega) (by omega))]
          obtain ⟨t2, g1, g2, g3, g4⟩ := gt_nx (q := q) h l2 hk hT1 up_s (by omega) c
          rw [g1, ob_s]
          exact fin t2 (fun j => by rw [g2]) (fun j => ⟨(g4 j).1.trans (up_d (by omega)), (g4 j).2.trans (up_d (by omega))⟩) (fun a b v1 v2 v3 v4 v5 => (g3 a b v1 v2 v3 v4 v5).trans (up_d (by omega)))
      obtain ⟨t1, s1, s2, s3, s4, s5⟩ := step
      obtain ⟨r, r1, r2⟩ := ih (x + 1) t1 (by omega) s2 s3 s4 s5
      refine ⟨r, ?_, r2⟩
      show omap mrg (obind (F_M_gifts_94_b (nI k) (nI n) q (nI i) (nI x) t) fun y => contO y fun s' => forGO _ d (nI x + 1) s') = _
      rw [s1, nI_1]
      exact r1
  have := key 100 0 s (by omega) hT (fun y hy => by omega) (fun _ => rfl) (fun _ _ _ _ _ _ _ => rfl)
  rw [nI_0] at this
  exact this
theorem m_few {tu : Nat → Nat} {x : Nat} {v1 : Int32} {s : Mem} (hx : x < 100) (hB : ∀ y, tu y = INFN ∨ tu y ≤ 400) (h : ∀ y, y < 100 → s 341 y = nI (tu y)) : F_M_fewest s v1 (nI x) = some (nI (fwR tu x 21)) := by
  have hI : INFN = 2000000000 := rfl
  unfold F_M_fewest
  rw [show cle 0 20 = 21 by decide]
  obtain ⟨s1, e1, e2⟩ := forSO_inv (F := fun i s1 => F_M_fewest_7_b s v1 (nI x) i s1) 21 0 (fun t r => r = nI (fwR tu x t)) 2000000000 (fun t r ht hr => by
    subst hr
    rw [Nat.zero_add]
    refine ⟨_, ?_, rfl⟩
    have l1 : lft x t < 100 := by unfold lft; omega
    have hb := fwR_bd (tu := tu) (h := x) (B := 400) (fun u hu => by rcases hB u with e | e <;> omega) t (by omega)
    unfold F_M_fewest_7_b F_M_lesser
    rw [bind_T, show (5 : Int32) * nI t = nI (5 * t) from pk_mul 5 t, nI_add, show (if (99 : Int32) < nI (x + 5 * t) then 99 else nI (x + 5 * t)) = nI (lft x t) from nI_min (a := 99) (n := x + 5 * t) (by omega) (by omega), p_inb l1 (by decide), chk_t, bind_T, p_cl (by omega), h _ l1, fwR_s]
    by_cases c : tu (lft x t) < INFN
    · have c2 : tu (lft x t) ≤ 400 := by rcases hB (lft x t) with e | e <;> omega
      rw [if_pos (show nI (tu (lft x t)) < 2000000000 from nI_lt (b := 2000000000) (by omega) (by decide)), if_pos c, nI_add, bind_T, nI_minB (by omega) (by omega)]
    · have c2 : tu (lft x t) = INFN := by rcases hB (lft x t) with e | e <;> omega
      rw [if_neg (show ¬ nI (tu (lft x t)) < 2000000000 from nI_nlt (b := 2000000000) (by omega) (by omega)), if_neg c]) rfl
  rw [nI_0] at e1
  rw [e1, ob_s, e2]
/-- a month's row of the table -/
theorem m_fill {nx : Nat → Nat → Nat} {bar n i : Nat} {v1 v3 : Int32} (hi : i ≤ n) (hn : n ≤ 20) {s : Mem} (hu : i < n → ∀ x, x < 100 → s 341 x = nI (tuR (nx i) bar (gD nx bar n (n - (i + 1))) x)) (hG : GTAB nx bar n i s) :
    ∃ s1, forSO (fun x s => F_M_gifts_147_b v1 (nI n) v3 (nI i) x s) (cnt 0 100) 0 s = some s1 ∧ (∀ i', i ≤ i' → i' ≤ n → ∀ h, h < 100 → s1 340 (100 * i' + h) = nI (gD nx bar n (n - i') h)) ∧ ∀ a b, a ≠ 340 → s1 a b = s a b := by
  have hI : INFN = 2000000000 := rfl
  rw [show cnt 0 100 = 100 by decide]
  obtain ⟨s1, e1, e2, e3, e4⟩ := forSO_inv (F := fun x s => F_M_gifts_147_b v1 (nI n) v3 (nI i) x s) 100 0 (fun t r => (∀ h, h < t → r 340 (100 * i + h) = nI (gD nx bar n (n - i) h)) ∧ (∀ j, 100 * i + 100 ≤ j → r 340 j = s 340 j) ∧ ∀ a b, a ≠ 340 → r a b = s a b) s (fun t r ht hr => by
    obtain ⟨r1, r2, r3⟩ := hr
    rw [Nat.zero_add]
    have fin : ∀ v : Nat, v = gD nx bar n (n - i) t → ((∀ h, h < t + 1 → up r 340 (100 * i + t) (nI v) 340 (100 * i + h) = nI (gD nx bar n (n - i) h)) ∧ (∀ j, 100 * i + 100 ≤ j → up r 340 (100 * i + t) (nI v) 340 j = s 340 j) ∧ ∀ a b, a ≠ 340 → up r 340 (100 * i + t) (nI v) a b = s a b) := fun v hv => by
      refine ⟨fun h hh => ?_, fun j hj => ?_, fun a b ha => ?_⟩
      · by_cases e : h = t
        · subst e; rw [up_s, hv]
        · rw [up_d (by omega)]; exact r1 h (by omega)
      · rw [up_d (by omega)]; exact r2 j hj
      · rw [up_d (by omega)]; exact r3 a b ha
    unfold F_M_gifts_147_b
    rw [show (100 : Int32) * nI i = nI (100 * i) from pk_mul 100 i, nI_add]
    by_cases c : i = n
    · rw [if_pos (by rw [c]), bind_T, p_inb (by omega) (by decide), chk_t, bind_T, p_cl (by omega)]
      refine ⟨_, rfl, ?_⟩
      have := fin 0 (by rw [c, Nat.sub_self]; rfl)
      rw [nI_0] at this
      exact this
    · have hu2 := hu (by omega)
      rw [if_neg (fun e => c (nI_inj (by omega) (by omega) e)), m_few (tu := tuR (nx i) bar (gD nx bar n (n - (i + 1)))) ht (fun y => by
        unfold tuR
        by_cases c2 : nx i y < bar
        · rw [if_pos c2]; exact Or.inl rfl
        · rw [if_neg c2]
          rcases gD_bd (nx := nx) (bar := bar) (n := n) (n - (i + 1)) (nx i y) with e | e
          · exact Or.inl e
          · exact Or.inr (by omega)) (fun y hy => by rw [r3 341 y (by omega)]; exact hu2 y hy), ob_s, bind_T, p_inb (by omega) (by decide), chk_t, bind_T, p_cl (by omega)]
      refine ⟨_, rfl, fin _ ?_⟩
      rw [show n - i = n - (i + 1) + 1 by omega, gD_s, show n - (n - (i + 1) + 1) = i by omega]) ⟨fun h hh => by omega, fun _ _ => rfl, fun _ _ _ => rfl⟩
  rw [nI_0] at e1
  refine ⟨s1, e1, fun i' h1 h2 h hh => ?_, e4⟩
  by_cases c : i' = i
  · subst c; exact e2 h hh
  · rw [e3 _ (by omega)]; exact hG i' (by omega) h2 h hh
/-- all months, from the last one back -/
theorem m_table {Λ : FN} {f0 : Nat → Int32} (h : TR (tv σ 3) f0 g P M C) (l2 : MLs g Λ) {k mo n bar : Nat} {q : Int32} (hk : k < M) (e5 : f0 5 = nI bar) (hb : bar ≤ 99) (hn : n ≤ 20) (hmo : mo ≤ 9999) (e8 : f0 8 = nI mo) {s0 : Mem} (h4 : ∀ j, s0 334 j = f0 j) (h6 : ∀ j, j < 450 → s0 336 j = f0 j) :
    ∃ x, whl (fun s => F_M_gifts_41_b (nI k) (nI n) q s.1 s.2) FUEL (nI n, s0) = some x ∧ (∀ h, h < 100 → x.2 340 h = nI (gD (NX Λ (tv σ 3) P k q mo) bar n n h)) ∧ GFR s0 x.2 ∧ ∀ j, 450 ≤ j → x.2 334 j = f0 j := by
  have hM := h.c1.2.1
  refine whl_inv (F := fun s => F_M_gifts_41_b (nI k) (nI n) q s.1 s.2) (fun t s => t ≤ n + 1 ∧ ∃ r, s = ((if t = n + 1 then -1 else nI (n - t)), r) ∧ (∀ i', n < i' + t → i' ≤ n → ∀ h, h < 100 → r 340 (100 * i' + h) = nI (gD (NX Λ (tv σ 3) P k q mo) bar n (n - i') h)) ∧ GFR s0 r ∧ ∀ j, j ≠ 8 → j ≠ 112 + 5 * k → j ≠ 113 + 5 * k → r 334 j = f0 j) _ (fun t s hI => ?_) (n + 1) (fun s h => by have := h.1; omega) 0 (n + 1) FUEL _ (by omega) (by unfold FUEL; omega) ⟨by omega, s0, by rw [if_neg (by omega)]; rfl, fun i' h1 h2 => by omega, fun _ _ _ _ _ _ _ => rfl, fun j _ _ _ => h4 j⟩
  obtain ⟨ht, r, rfl, r1, r2, r3⟩ := hI
  dsimp only
  unfold F_M_gifts_41_b
  by_cases c : t = n + 1
  · subst c
    rw [if_pos rfl, if_pos (by decide)]
    refine Or.inl ⟨_, rfl, fun x hx => ?_, r2, fun j hj => r3 j (by omega) (by omega) (by omega)⟩
    have := r1 0 (by omega) (by omega) x hx
    rw [Nat.mul_zero, Nat.zero_add, Nat.sub_zero] at this
    exact this
  · refine Or.inr ?_
    rw [if_neg c, if_neg (nI_pos (by omega))]
    simp only [bind_T]
    have ea : r 336 8 = nI mo := by rw [r2 336 8 (by omega) (by omega) (by omega) (by omega) (by omega), h6 8 (by omega), e8]
    have eb : r 336 (113 + 5 * k) = σ 17 k := by rw [r2 336 _ (by omega) (by omega) (by omega) (by omega) (by omega), h6 _ (by omega)]; exact (h.c12 k hk).2.2.2.1
    have el : F_M_lesser r 9999 (r 336 8 + nI (n - t)) = nI (min (mo + (n - t)) 9999) := by
      unfold F_M_lesser
      rw [ea, nI_add, Nat.min_comm]
      exact nI_minB (a := 9999) (n := mo + (n - t)) (by omega) (by omega)
    have ei : (110 : Int32) + 5 * nI k + 3 = nI (113 + 5 * k) := by
      rw [show (5 : Int32) * nI k = nI (5 * k) from pk_mul 5 k, show (110 : Int32) + nI (5 * k) = nI (110 + 5 * k) from nI_add 110 _, show nI (110 + 5 * k) + 3 = nI (110 + 5 * k + 3) from nI_add _ 3, show 110 + 5 * k + 3 = 113 + 5 * k by omega]
    rw [el, ei, p_inb (by omega) (by decide), chk_t, p_cl (by omega), up_d (by omega), eb, m_told3 (by omega), ob_s]
    have hT : GTN σ f0 k mo (n - t) (up (up r 334 8 (nI (min (mo + (n - t)) 9999))) 334 (113 + 5 * k) (σ 17 k + nI (n - t))) := ⟨by rw [up_d (by omega), up_s], up_s, fun j h1 h2 h3 => by rw [up_d (by omega), up_d (by omega)]; exact r3 j h1 h2 h3⟩
    have hG : GTAB (NX Λ (tv σ 3) P k q mo) bar n (n - t) (up (up r 334 8 (nI (min (mo + (n - t)) 9999))) 334 (113 + 5 * k) (σ 17 k + nI (n - t))) := fun i' j1 j2 y hy => by rw [up_d (by omega), up_d (by omega)]; exact r1 i' (by omega) j2 y hy
    have turn : ∃ s1, omap mrg (forGO (fun x s => F_M_gifts_94_b (nI k) (nI n) q (nI (n - t)) x s) (cnt 0 100) 0 (up (up r 334 8 (nI (min (mo + (n - t)) 9999))) 334 (113 + 5 * k) (σ 17 k + nI (n - t)))) = some s1 ∧ GTN σ f0 k mo (n - t) s1 ∧ (n - t < n → ∀ x, x < 100 → s1 341 x = nI (tuR (NX Λ (tv σ 3) P k q mo (n - t)) bar (gD (NX Λ (tv σ 3) P k q mo) bar n (n - (n - t + 1))) x)) ∧ GTAB (NX Λ (tv σ 3) P k q mo) bar n (n - t) s1 ∧ GFR r s1 := by
      have fr : GFR r (up (up r 334 8 (nI (min (mo + (n - t)) 9999))) 334 (113 + 5 * k) (σ 17 k + nI (n - t))) := fun a b v1 _ _ _ _ => by rw [up_d (by omega), up_d (by omega)]
      by_cases c2 : t = 0
      · subst c2
        have e : F_M_gifts_94_b (nI k) (nI n) q (nI (n - 0)) 0 (up (up r 334 8 (nI (min (mo + (n - 0)) 9999))) 334 (113 + 5 * k) (σ 17 k + nI (n - 0))) = some (.inr (up (up r 334 8 (nI (min (mo + (n - 0)) 9999))) 334 (113 + 5 * k) (σ 17 k + nI (n - 0)))) := by
          unfold F_M_gifts_94_b
          rw [if_neg (nI_nlt (by omega) (by omega))]
        refine ⟨_, ?_, hT, fun h => by omega, hG, fr⟩
        rw [show cnt 0 100 = 99 + 1 by decide]
        show omap mrg (obind (F_M_gifts_94_b (nI k) (nI n) q (nI (n - 0)) 0 _) fun y => contO y _) = _
        rw [e]
        rfl
      · obtain ⟨s1, d1, d2, d3, d4, d5⟩ := m_turn (q := q) h l2 hk e5 hb (show n - t < n by omega) hn hT hG
        exact ⟨s1, d1, d2, fun _ => d3, fun i' j1 j2 y hy => by rw [d4]; exact hG i' j1 j2 y hy, fr.tr d5⟩
    obtain ⟨s1, t1, t2, t3, t4, t5⟩ := turn
    obtain ⟨s2, f1, f2, f3⟩ := m_fill (v1 := nI k) (v3 := q) (Nat.sub_le n t) hn t3 t4
    rw [t1, ob_s, f1, ob_s]
    refine ⟨_, rfl, by omega, s2, ?_, fun i' j1 j2 y hy => f2 i' (by omega) j2 y hy, fun a b v1 v2 v3 v4 v5 => by rw [f3 a b v3, t5 a b v1 v2 v3 v4 v5]; exact r2 a b v1 v2 v3 v4 v5, fun j h1 h2 h3 => by rw [f3 334 j (by omega)]; exact t2.2.2 j h1 h2 h3⟩
    by_cases c3 : t = n
    · subst c3
      rw [if_pos rfl, Nat.sub_self]
      rfl
    · rw [if_neg (by omega), show n - t = (n - (t + 1)) + 1 by omega, pk_m1]
end GIM

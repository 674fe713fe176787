-- PURE STAGE: the law's answer, on both sides
def vA (a0 a1 a2 a3 a4 a5 a6 : Int32) (c : Int32) : Int32 := if c = 1000 then a0 else if c = 1001 then a1 else if c = 1002 then a2 else if c = 1003 then a3 else if c = 1004 then a4 else if c = 1005 then a5 - a5 / 12 * 12 else if c = 1006 then (if 0 < a3 then 1 else 0) else if c = 1007 then (if a6 = 0 then 0 else 1) else c
theorem vA_g (a0 a1 a2 a3 a4 a5 a6 : Int32) : VG (vA a0 a1 a2 a3 a4 a5 a6) := by
  constructor
  · show isb (if 0 < a3 then 1 else 0)
    exact ite_isb
  · show isb (if a6 = 0 then 0 else 1)
    split
    · exact Or.inl rfl
    · exact Or.inr rfl
def LAMl (nl : List LN) : FN := fun a0 a1 a2 a3 a4 a5 a6 => LVc (vA a0 a1 a2 a3 a4 a5 a6) 0 nl
/-- the stack, bottom at cell 0 -/
def STK (w : Nat) (σ : Mem) : List Int32 → Prop
  | [] => True
  | x :: S => σ (w + 7) S.length = x ∧ STK w σ S
theorem STK.up {w k : Nat} {σ : Mem} {x : Int32} : ∀ {S : List Int32}, STK w σ S → S.length ≤ k → STK w (up σ (w + 7) k x) S := by
  intro S
  induction S with
  | nil => intro _ _; exact trivial
  | cons y S ih =>
    intro h hk
    have hk : S.length + 1 ≤ k := hk
    exact ⟨by rw [up_d (by omega)]; exact h.1, ih h.2 (by omega)⟩
section LIS
variable {w k : Nat}
theorem isMet_lp (v : Int32 → Int32) (v1 v2 : Int32) (hk : k < w ∨ w + 7 < k) : ∀ (cd : List Int32) (p : Nat) (S S' : List Int32) (σ : Mem), p + cd.length ≤ 400 → (∀ u, u < cd.length → σ (w + 5) (p + u) = cd.getD u 0) → rnC v cd S = some S' → STK w σ S → S.length ≤ 64 → (∀ m : Mem, (∀ q, q ≠ w + 7 → m q = σ q) → ∀ c, F_Look_valueOf m k c = v c) → ∃ σ', mrg (forG (fun i s => F_Law_isMet_13_b w v1 v2 k i s.1 s.2) cd.length (nI p) (nI S.length, σ)) = (nI S'.length, σ') ∧ STK w σ' S' ∧ ∀ q, q ≠ w + 7 → σ' q = σ q := by
  intro cd
  induction cd with
  | nil =>
    intro p S S' σ h1 h2 h3 h4 h5 h6
    cases h3
    exact ⟨σ, rfl, h4, fun _ _ => rfl⟩
  | cons c cd ih =>
    intro p S S' σ h1 h2 h3 h4 h5 h6
    have h1 : p + (cd.length + 1) ≤ 400 := h1
    obtain ⟨S1, e1, e2⟩ := obind_out h3
    have cell : σ (w + 5) p = c := h2 0 (by show 0 < cd.length + 1; omega)
    -- one step
    have step : ∃ σ1, F_Law_isMet_13_b w v1 v2 k (nI p) (nI S.length) σ = .inl (nI S1.length, σ1) ∧ STK w σ1 S1 ∧ S1.length ≤ 64 ∧ ∀ q, q ≠ w + 7 → σ1 q = σ q := by
      unfold F_Law_isMet_13_b
      rw [if_pos (show nI p < 400 from nI_lt (b := 400) (by omega) (by omega)), if_neg (nI_pos (by omega)), p_cl (by omega), cell, bind_T]
      unfold stp at e1
      by_cases c1 : c < 1008
      · rw [if_pos c1] at e1
        rw [if_pos c1]
        by_cases c2 : S.length < 64
        · rw [if_pos c2] at e1
          cases e1
          rw [p_put c2 (by decide), bind_T, bind_T, nI_1, h6 σ (fun _ _ => rfl) c]
          exact ⟨_, rfl, ⟨up_s, h4.up (Nat.le_refl _)⟩, c2, fun q hq => up_r hq⟩
        · rw [if_neg c2] at e1
          cases e1
      · rw [if_neg c1] at e1
        rw [if_neg c1]
        match S, e1, h4, h5 with
        | [], e1, h4, h5 => cases e1
        | a :: R, e1, h4, h5 =>
          dsimp only at e1
          obtain ⟨ha, hR⟩ := h4
          have h5 : R.length + 1 ≤ 64 := h5
          by_cases c3 : c = 1013
          · rw [if_pos c3] at e1
            cases e1
            rw [if_pos c3]
            show ∃ σ1, bindT (F_Row_put σ (w + 6) 64 (nI (R.length + 1) - 1) (1 - F_Row_at σ (w + 6) 64 (nI (R.length + 1) - 1))) (fun z13 => (Sum.inl (nI (R.length + 1), z13) : (Int32 × Mem) ⊕ (Int32 × Mem))) = _ ∧ _
            rw [nI_pred, p_put (by omega) (by decide), p_at (by omega) (by decide), bind_T]
            have ha' : σ (w + 6 + 1) R.length = a := ha
            rw [ha']
            exact ⟨_, rfl, ⟨up_s, hR.up (Nat.le_refl _)⟩, h5, fun q hq => up_r hq⟩
          · rw [if_neg c3] at e1
            rw [if_neg c3]
            match R, e1, ha, hR, h5 with
            | [], e1, ha, hR, h5 => cases e1
            | e :: R2, e1, ha, hR, h5 =>
              cases e1
              obtain ⟨he, hR2⟩ := hR
              have h5 : R2.length + 1 + 1 ≤ 64 := h5
              show ∃ σ1, bindT (nI (R2.length + 1 + 1) + (-1)) (fun x11 => bindT (F_Row_put σ (w + 6) 64 ((x11 - 1)) ((F_Law_joined σ c ((F_Row_at σ (w + 6) 64 ((x11 - 1)))) ((F_Row_at σ (w + 6) 64 x11))))) fun z12 => (Sum.inl ((x11, z12)) : (Int32 × Mem) ⊕ (Int32 × Mem))) = _ ∧ _
              rw [pk_m1, bind_T, nI_pred, p_put (by omega) (by decide), p_at (by omega) (by decide), p_at (by omega) (by decide), bind_T]
              have ha' : σ (w + 6 + 1) (R2.length + 1) = a := ha
              have he' : σ (w + 6 + 1) R2.length = e := he
              rw [ha', he']
              exact ⟨_, rfl, ⟨up_s, hR2.up (Nat.le_refl _)⟩, by show R2.length + 1 ≤ 64; omega, fun q hq => up_r hq⟩
    obtain ⟨σ1, s1, s2, s3, s4⟩ := step
    obtain ⟨σ2, t1, t2, t3⟩ := ih (p + 1) S1 S' σ1 (by omega) (fun u hu => by
      rw [s4 _ (by omega), show p + 1 + u = p + (u + 1) by omega]
      exact h2 (u + 1) (by show u + 1 < cd.length + 1; omega)) e2 s2 s3 (fun m hm => h6 m fun q hq => (hm q hq).trans (s4 q hq))
    refine ⟨σ2, Eq.trans ?_ t1, t2, fun q hq => (t3 q hq).trans (s4 q hq)⟩
    show mrg (contG (F_Law_isMet_13_b w v1 v2 k (nI p) (nI S.length) σ) fun s' => forG (fun i s => F_Law_isMet_13_b w v1 v2 k i s.1 s.2) cd.length (nI p + 1) s') = _
    rw [s1, nI_1]
    rfl
theorem isMet_ok {v : Int32 → Int32} (hv : VG v) (hk : k < w ∨ w + 7 < k) {c : List Int32} (hc : goodC c) {p : Nat} {σ : Mem} (h1 : p + c.length ≤ 400) (h2 : ∀ u, u < c.length → σ (w + 5) (p + u) = c.getD u 0) (h6 : ∀ m : Mem, (∀ q, q ≠ w + 7 → m q = σ q) → ∀ c, F_Look_valueOf m k c = v c) : ∃ σ', F_Law_isMet σ w (nI p) (nI (p + c.length)) k = (σ', if mtC v c = true then 1 else 0) ∧ ∀ q, q ≠ w + 7 → σ' q = σ q := by
  unfold F_Law_isMet
  rcases hc with rfl | hc
  · rw [if_neg (show ¬ nI p < nI (p + ([] : List Int32).length) from nI_nlt (Nat.le_refl p) (by have : p + 0 ≤ 400 := h1; omega))]
    exact ⟨σ, rfl, fun _ _ => rfl⟩
  · obtain ⟨x, hx⟩ := hc v hv
    have hne : 0 < c.length := by
      cases c with
      | nil => cases hx
      | cons y r => exact Nat.succ_pos _
    obtain ⟨σ', e1, e2, e3⟩ := isMet_lp v (nI p) (nI (p + c.length)) hk c p [] [x] σ h1 h2 hx trivial (by decide) h6
    have em : mtC v c = decide (x ≠ 0) := by
      unfold mtC
      rw [hx]
    rw [if_pos (nI_lt (by omega) (by omega)), p_cnt (by omega) (by omega), Nat.add_sub_cancel_left, show ((0 : Int32), σ) = (nI ([] : List Int32).length, σ) from rfl, e1, bind_T, em]
    have e0 : F_Row_at σ' (w + 6) 64 0 = x := (p_at (k := 0) (by decide) (by decide)).trans e2.1
    dsimp only
    rw [e0]
    by_cases cx : x = 0
    · rw [if_pos cx, decide_eq_false (fun q => q cx), if_neg (by decide)]
      exact ⟨σ', rfl, e3⟩
    · rw [if_neg cx, decide_eq_true cx, if_pos rfl]
      exact ⟨σ', rfl, e3⟩
theorem tb_lp {v : Int32 → Int32} (hv : VG v) (hk : k < w ∨ w + 7 < k) {L : Nat} (hL : L ≤ 12) : ∀ (r : List LN) (x p : Nat) (acc : Int32) (σ : Mem) (f : Nat), x + r.length = L → r.length < f → σ w 5 = nI L → p + (r.map Prod.snd).flatten.length ≤ 400 → (∀ u, u < r.length → σ (w + 2) (x + u) = (r.getD u (0, [])).1 ∧ σ (w + 4) (x + u) = nI (p + ((r.take (u + 1)).map Prod.snd).flatten.length) ∧ goodC (r.getD u (0, [])).2) → (∀ u, u < (r.map Prod.snd).flatten.length → σ (w + 5) (p + u) = ((r.map Prod.snd).flatten).getD u 0) → (∀ m : Mem, (∀ q, q ≠ w + 7 → m q = σ q) → ∀ c, F_Look_valueOf m k c = v c) → ∃ a b' σ', whl (fun s => F_Law_turnsBy_25_b w k s.1 s.2.1 s.2.2.1 s.2.2.2) f (acc, nI p, nI x, σ) = some (LVc v acc r, a, b', σ') := by
  intro r
  induction r with
  | nil =>
    intro x p acc σ f h1 h2 h3 h4 h5 h6 h7
    obtain ⟨f, rfl⟩ : ∃ k, f = k + 1 := ⟨f - 1, by omega⟩
    have h1 : x + 0 = L := h1
    refine ⟨nI p, nI x, σ, whl_r (F := fun s => F_Law_turnsBy_25_b w k s.1 s.2.1 s.2.2.1 s.2.2.2) (s := (acc, nI p, nI x, σ)) ?_⟩
    show F_Law_turnsBy_25_b w k acc (nI p) (nI x) σ = _
    unfold F_Law_turnsBy_25_b
    rw [h3, if_neg (nI_nlt (by omega) (by omega))]
    rfl
  | cons l r ih =>
    intro x p acc σ f h1 h2 h3 h4 h5 h6 h7
    obtain ⟨f, rfl⟩ : ∃ k, f = k + 1 := ⟨f - 1, by omega⟩
    have h1 : x + (r.length + 1) = L := h1
    have h2 : r.length + 1 < f + 1 := h2
    have fl : ((l :: r).map Prod.snd).flatten = l.2 ++ (r.map Prod.snd).flatten := rfl
    rw [fl] at h4 h6
    rw [List.length_append] at h4 h6
    obtain ⟨c1, c2, c3⟩ := h5 0 (Nat.succ_pos _)
    have c1 : σ (w + 2) x = l.1 := c1
    have c2 : σ (w + 4) x = nI (p + l.2.length) := by
      have : (((l :: r).take (0 + 1)).map Prod.snd).flatten = l.2 := by simp
      rw [this] at c2
      exact c2
    have c3 : goodC l.2 := c3
    obtain ⟨σ1, e1, e2⟩ := isMet_ok hv hk c3 (p := p) (σ := σ) (by omega) (fun u hu => by
      rw [h6 u (by omega)]
      simp [List.getD, List.getElem?_append_left hu]) h7
    obtain ⟨a, b', σ2, t1⟩ := ih (x + 1) (p + l.2.length) (if mtC v l.2 = true then acc + l.1 else acc) σ1 f (by omega) (by omega) (by rw [e2 w (by omega)]; exact h3) (by omega) (fun u hu => by
      obtain ⟨d1, d2, d3⟩ := h5 (u + 1) (by show u + 1 < r.length + 1; omega)
      refine ⟨?_, ?_, d3⟩
      · rw [e2 _ (by omega), show x + 1 + u = x + (u + 1) by omega]
        exact d1
      · rw [e2 _ (by omega), show x + 1 + u = x + (u + 1) by omega, d2]
        congr 1
        have : (((l :: r).take (u + 1 + 1)).map Prod.snd).flatten = l.2 ++ ((r.take (u + 1)).map Prod.snd).flatten := rfl
        rw [this, List.length_append]
        omega) (fun u hu => by
      rw [e2 _ (by omega), show p + l.2.length + u = p + (l.2.length + u) by omega, h6 _ (by omega)]
      simp [List.getD, List.getElem?_append_right]) (fun m hm => h7 m fun q hq => (hm q hq).trans (e2 q hq))
    refine ⟨a, b', σ2, Eq.trans (whl_l (F := fun s => F_Law_turnsBy_25_b w k s.1 s.2.1 s.2.2.1 s.2.2.2) (s := (acc, nI p, nI x, σ)) (s1 := ((if mtC v l.2 = true then acc + l.1 else acc), nI (p + l.2.length), nI (x + 1), σ1)) ?_) t1⟩
    show F_Law_turnsBy_25_b w k acc (nI p) (nI x) σ = _
    unfold F_Law_turnsBy_25_b
    have c2' : σ (w + 3 + 1) x = nI (p + l.2.length) := c2
    have c1' : σ1 (w + 1 + 1) x = l.1 := by rw [e2 _ (by omega)]; exact c1
    rw [h3, if_pos (nI_lt (by omega) (by omega)), p_at (by omega) (by decide), c2', bind_T, e1, bind_T]
    cases hm : mtC v l.2 with
    | true =>
      dsimp only
      rw [if_pos rfl, if_neg (by decide), p_at (by omega) (by decide), c1', bind_T, bind_T, nI_1, if_pos rfl]
    | false =>
      dsimp only
      rw [if_pos (show (if false = true then (1 : Int32) else 0) = 0 by decide), bind_T, nI_1, if_neg (show ¬ false = true by decide)]
/-- the class's law answers by its lines -/
theorem cls_of {nl : List LN} {cs : List Int32} {σ : Mem} (h1 : LWd cs σ) (h2 : LNs nl cs σ) (h3 : cs.length ≤ 400) {σ3 : Mem} {w3 : Nat} (e : ∀ r j, LD r j → σ3 (w3 + r) j = σ (85 + r) j) : CLs σ3 w3 (LAMl nl) := by
  intro σ2 w2 k h4 hk
  obtain ⟨l1, l2, l3, l4⟩ := h2
  have cell : ∀ r j, LD r j → σ2 (w2 + r) j = σ (85 + r) j := fun r j hr => (h4 r j hr).trans (e r j hr)
  have e5 : σ2 w2 5 = nI nl.length := (cell 0 5 (by unfold LD; omega)).trans l1
  have hfl : (nl.map Prod.snd).flatten.length ≤ 400 := by rw [← l3]; exact h3
  obtain ⟨a, b', σ', t1⟩ := tb_lp (v := vA (σ2 k 0) (σ2 k 1) (σ2 k 2) (σ2 k 3) (σ2 k 4) (σ2 k 5) (σ2 k 6)) (w := w2) (k := k) (vA_g _ _ _ _ _ _ _) hk l2 nl 0 0 0 σ2 FUEL (by omega) (by unfold FUEL; omega) e5 (by omega) (fun u hu => by
    obtain ⟨q1, q2, q3⟩ := l4 u hu
    rw [Nat.zero_add, Nat.zero_add]
    exact ⟨(cell 2 u (by unfold LD; omega)).trans q1, (cell 4 u (by unfold LD; omega)).trans q2, q3⟩) (fun u hu => by
    rw [Nat.zero_add, ← l3, cell 5 u (by unfold LD; omega)]
    exact h1.2 u (by rw [l3]; exact hu)) (fun m hm c => by
    have := hm k (by omega)
    unfold F_Look_valueOf vA
    rw [this])
  refine ⟨σ', ?_⟩
  unfold F_Law_turnsBy
  rw [e5, if_neg (m1_ne _ (by omega)), show ((0 : Int32), (0 : Int32), (0 : Int32), σ2) = (0, nI 0, nI 0, σ2) from rfl, t1, ob_s]
  rfl
/-- the reference's law answers by the same lines -/
theorem mls_of {nl : List LN} {n : Nat} {b : Nat → Nat} {g : Nat → Int32} (hn : n ≤ 400) (hb : ∀ j, j < n → b j ≤ 255) (hnl : nl.length ≤ 12) (g1 : g 1 = nI nl.length) (g2 : g 2 = nI n) (g3 : ∀ j, j < n → g (450 + j) = nI (b j)) (hR : ∀ s, RP b n 0 s → s 333 12 = -1 → s 333 13 = 0 → ∃ s1 r, F_M_read s 1 = some (s1, r) ∧ s1 333 12 = -1 ∧ FRl s s1 ∧ s1 333 16 = LVc (vS s) (s 333 16) nl) : MLs g (LAMl nl) := by
  intro σ a0 a1 a2 a3 a4 a5 a6 hg h0 h1 h2 h3 h4 h5 h6 h7
  have e1 : σ 334 1 = nI nl.length := (hg 1 (by omega)).trans g1
  have e2 : σ 334 2 = nI n := (hg 2 (by omega)).trans g2
  unfold MTail
  rw [e1, if_neg (m1_ne _ (by omega))]
  simp only [bind_T]
  have e2' : (up (up (up σ 333 16 0) 333 12 (-1)) 333 9 450) 334 2 = nI n := by rw [up_d (by omega), up_d (by omega), up_d (by omega)]; exact e2
  rw [e2']
  have fr0 : ∀ q j, (q ≠ 333 ∨ (j ≠ 9 ∧ j ≠ 10 ∧ j ≠ 11 ∧ j ≠ 12 ∧ j ≠ 13 ∧ j ≠ 16)) → up (up (up (up (up (up σ 333 16 0) 333 12 (-1)) 333 9 450) 333 10 (nI n)) 333 11 0) 333 13 0 q j = σ q j := fun q j hq => by
    rw [up_d (by omega), up_d (by omega), up_d (by omega), up_d (by omega), up_d (by omega), up_d (by omega)]
  have r9 : up (up (up (up (up (up σ 333 16 0) 333 12 (-1)) 333 9 450) 333 10 (nI n)) 333 11 0) 333 13 0 333 9 = 450 := by rw [up_d (by omega), up_d (by omega), up_d (by omega), up_s]
  have r10 : up (up (up (up (up (up σ 333 16 0) 333 12 (-1)) 333 9 450) 333 10 (nI n)) 333 11 0) 333 13 0 333 10 = nI n := by rw [up_d (by omega), up_d (by omega), up_s]
  have r11 : up (up (up (up (up (up σ 333 16 0) 333 12 (-1)) 333 9 450) 333 10 (nI n)) 333 11 0) 333 13 0 333 11 = 0 := by rw [up_d (by omega), up_s]
  have r12 : up (up (up (up (up (up σ 333 16 0) 333 12 (-1)) 333 9 450) 333 10 (nI n)) 333 11 0) 333 13 0 333 12 = -1 := by rw [up_d (by omega), up_d (by omega), up_d (by omega), up_d (by omega), up_s]
  have r13 : up (up (up (up (up (up σ 333 16 0) 333 12 (-1)) 333 9 450) 333 10 (nI n)) 333 11 0) 333 13 0 333 13 = 0 := up_s
  have r16 : up (up (up (up (up (up σ 333 16 0) 333 12 (-1)) 333 9 450) 333 10 (nI n)) 333 11 0) 333 13 0 333 16 = 0 := by rw [up_d (by omega), up_d (by omega), up_d (by omega), up_d (by omega), up_d (by omega), up_s]
  generalize up (up (up (up (up (up σ 333 16 0) 333 12 (-1)) 333 9 450) 333 10 (nI n)) 333 11 0) 333 13 0 = s at *
  have hv : vS s = vA a0 a1 a2 a3 a4 a5 a6 := by
    funext c
    unfold vS vA
    rw [fr0 339 0 (by omega), fr0 339 1 (by omega), fr0 339 2 (by omega), fr0 339 3 (by omega), fr0 339 4 (by omega), fr0 339 5 (by omega), fr0 333 15 (by omega), h0, h1, h2, h3, h4, h5, h6]
    have : a6 &&& 1 = if a6 = 0 then 0 else 1 := by
      rcases h7 with rfl | rfl
      · decide
      · decide
    rw [this]
  obtain ⟨s1, r, t1, t2, t3, t4⟩ := hR s ⟨hn, Nat.zero_le n, r10, r11.trans nI_0.symm, hb, Or.inr ⟨r9, fun j hj => by rw [fr0 334 _ (by omega), hg _ (by omega)]; exact g3 j hj⟩⟩ r12 r13
  rw [hv, r16] at t4
  rw [t1, ob_s]
  refine ⟨up s1 333 12 (up σ 333 16 0 333 12), ?_, ?_⟩
  · dsimp only
    rw [up_d (by omega), up_d (by omega), t4]
    rfl
  · rw [up_r (by omega)]
    funext j
    rw [t3 334 j (by omega), fr0 334 j (by omega)]
end LIS

-- PURE STAGE: town
section TOP
variable {σ σ' : Mem} {g : Nat → Int32} {P M C i n : Nat} {b : Nat → Nat}
/-- the bytes on the tape -/
def tpB (σ : Mem) (j : Nat) : Nat := (σ 2 j).toNatClampNeg
theorem c_begin {σ0 : Mem} (hn : n ≤ 400) (hb : ∀ j, j < n → σ0 2 j = nI (b j) ∧ b j ≤ 255) : ∃ T σ1, (obind (F_Text_cut (up (up (F_Row_copyAll σ0 (54 + 1) 400 1 400) 54 6 (nI n)) 54 12 (-1)) 54) fun z4 => F_Text_advance (up z4 54 7 (-1)) 54) = some σ1 ∧ CTk 54 b n T 0 σ1 ∧ ∀ q j, (q < 54 ∨ 60 < q) → σ1 q j = σ0 q j := by
  have e8 : F_Row_copyAll σ0 (54 + 1) 400 1 400 = cpM σ0 2 56 400 := by
    unfold F_Row_copyAll
    rw [bind_T, show ((if (Int32.ofNat 400) < (Int32.ofNat 400) then (Int32.ofNat 400) else (Int32.ofNat 400)) : Int32).toNatClampNeg = 400 by decide]
  have cp1 : ∀ q j, q ≠ 56 → cpM σ0 2 56 400 q j = σ0 q j := fun q j hq => by
    unfold cpM
    rw [if_neg (by omega)]
  have cp2 : ∀ j, j < 400 → cpM σ0 2 56 400 56 j = σ0 2 j := fun j hj => by
    unfold cpM
    rw [if_pos ⟨rfl, hj⟩]
  rw [e8]
  have hB : TBs 54 b n (up (up (cpM σ0 2 56 400) 54 6 (nI n)) 54 12 (-1)) := ⟨hn, by rw [up_d (by omega), up_s], fun j hj => by rw [up_d (by omega), up_d (by omega), cp2 j (by omega)]; exact (hb j hj).1, fun j hj => (hb j hj).2⟩
  obtain ⟨T, σ1, f1, f2, f3, f4, f5, f6⟩ := c_cut hB
  obtain ⟨σ2, g1, g2, g3⟩ := c_adv (t := 54) (b := b) (n := n) (T := T) (i := 0) (σ := up σ1 54 7 (-1)) ⟨hn, by rw [up_d (by omega)]; exact f2.2.1, fun j hj => by rw [up_d (by omega)]; exact f2.2.2.1 j hj, f2.2.2.2⟩ ⟨by rw [up_d (by omega)]; exact f3.1, fun u hu => by rw [up_d (by omega), up_d (by omega), up_d (by omega), up_d (by omega)]; exact f3.2 u hu⟩ f4 f5 (Nat.zero_le T) (by rw [up_s]; decide) (by rw [up_d (by omega), f6 54 12 (by omega), up_s])
  refine ⟨T, σ2, ?_, g2, fun q j hq => ?_⟩
  · rw [f1, ob_s, g1]
  · rw [g3 q j (by omega), up_d (by omega), f6 q j (by omega), up_d (by omega), up_d (by omega), cp1 q j (by omega)]
/-- both readings of a town's text -/
theorem text_both {σ0 s0 : Mem} (hn : n ≤ 400) (hb : ∀ j, j < n → σ0 2 j = nI (b j) ∧ b j ≤ 255) (hT : TR (tv σ0 61) (s0 334) g P M C) (h8 : s0 333 8 = nI n) (h338 : ∀ j, j < n → s0 338 j = nI (b j)) :
    ∃ σ1 r s1 v, F_Text_linesOf_54 σ0 1 400 (nI n) 14 = some (σ1, r) ∧ F_M_read (F_M_begins s0) 0 = some (s1, v) ∧ TEND b n g C σ1 r s1 := by
  obtain ⟨T, σ1, f1, f2, f3⟩ := c_begin hn hb
  have eb : F_M_begins s0 = up (up (up (up (up (up s0 333 12 (-1)) 333 9 (-1)) 333 10 (nI n)) 333 8 0) 333 11 0) 333 13 0 := by
    unfold F_M_begins
    simp only [bind_T]
    rw [up_d (by omega), up_d (by omega), h8]
  have hR : RP b n 0 (F_M_begins s0) := by
    rw [eb]
    refine ⟨hn, Nat.zero_le n, ?_, ?_, fun j hj => (hb j hj).2, Or.inl ⟨?_, fun j hj => ?_⟩⟩
    · rw [up_d (by omega), up_d (by omega), up_d (by omega), up_s]
    · rw [up_d (by omega), up_s, nI_0]
    · rw [up_d (by omega), up_d (by omega), up_d (by omega), up_d (by omega), up_s]
    · rw [up_d (by omega), up_d (by omega), up_d (by omega), up_d (by omega), up_d (by omega), up_d (by omega)]; exact h338 j hj
  have e334 : F_M_begins s0 334 = s0 334 := by
    rw [eb, up_r (by omega), up_r (by omega), up_r (by omega), up_r (by omega), up_r (by omega), up_r (by omega)]
  have hW : TW b n T g P M C 0 0 σ1 (F_M_begins s0) := ⟨⟨f2, hR, rfl, by rw [eb, up_d (by omega), up_d (by omega), up_d (by omega), up_d (by omega), up_d (by omega), up_s]⟩, (hT.keepM e334).keepT fun r hr j => f3 _ _ (by omega)⟩
  have hh := hW.here
  obtain ⟨p1, p2⟩ := f2.pos
  obtain ⟨k, hk, ek⟩ := f2.in31
  have hin : inb (σ1 54 8) 31 = true := by rw [ek]; exact p_inb hk (by decide)
  have eC : F_Text_linesOf_54 σ0 1 400 (nI n) 14 = (if (σ1 54 8) = 29 then some ((σ1, 0)) else obind (whl (fun s => F_Text_linesOf_54_46_b 1 400 (nI n) 14 s.1 s.2) FUEL (1, σ1)) fun z17 => sumE z17 (fun s18 => bindT (F_Text_refuse s18.2 54) fun z20 => some ((z20.1, (-1)))) (fun r19 => some r19)) := by
    unfold F_Text_linesOf_54
    simp only [bind_T]
    have := congrArg (fun o => obind o fun z6 => chk (inb (z6 54 8) 31) <| (if (z6 54 8) = 29 then some ((z6, 0)) else obind (whl (fun s => F_Text_linesOf_54_46_b 1 400 (nI n) 14 s.1 s.2) FUEL (1, z6)) fun z17 => sumE z17 (fun s18 => some (((F_Text_refuse s18.2 54).1, (-1)))) (fun r19 => some r19))) f1
    rw [ob_assoc] at this
    rw [this, ob_s, hin, chk_t]
  have e10 : (up (F_M_begins s0) 333 11 (nI (posI b n 0))) 333 10 = nI n := hh.1.2.1.2.2.1
  have eM : F_M_read (F_M_begins s0) 0 = (if (nI (posI b n 0)) < (nI n) then obind (whl (fun s => F_M_read_23_b 0 s.1 s.2.1 s.2.2) FUEL (1, 0, up (F_M_begins s0) 333 11 (nI (posI b n 0)))) fun z66 => some ((z66.2.2, z66.2.1)) else obind (whl (fun s => F_M_read_23_b 0 s.1 s.2.1 s.2.2) FUEL (0, 0, up (F_M_begins s0) 333 11 (nI (posI b n 0)))) fun z65 => some ((z65.2.2, z65.2.1))) := by
    unfold F_M_read
    rw [sy_skip hW.1, ob_s, up_s, e10]
  rw [eC, eM]
  by_cases c : 0 < T
  · have hp := p2.mpr c
    have c29 : ¬ σ1 54 8 = 29 := by
      rw [(f2.2.2.2.1 c).1]
      intro e
      have e29 := nI_inj (b := 29) (by have := kdF_le (b := b) (n := n) (p := posI b n 0); omega) (by omega) e
      unfold kdF at e29
      split at e29
      · omega
      · rcases kdR_of _ _ e29 with q | q
        · omega
        · have := (wAt_is.mp q).1
          have h9 := (stF_is (b := b) hp).1
          have h10 : lenS.getD (kindS.getD 29 0) 0 = 0 := by decide
          omega
    obtain ⟨y, x, σ2, r, g1, g2, g3, g4⟩ := lines_both (nI n) 14 1 σ1 _ 0 _ P M (by omega) (by omega) hh FUEL FUEL (by unfold FUEL; omega) (by unfold FUEL; omega)
    rw [show nI 1 = 1 by decide] at g1
    rw [show nI (1 - 1) = 0 by decide] at g3
    rw [if_neg c29, if_pos (nI_lt hp (by omega)), g1, g3, ob_s, ob_s, g2]
    exact ⟨_, _, _, _, rfl, rfl, g4⟩
  · have c0 : 0 = T := by omega
    have c29 := (f2.2.2.2.2 c0).1
    have hp : ¬ posI b n 0 < n := fun h => c (p2.mp h)
    rw [if_pos c29, if_neg (nI_nlt (by omega) (by omega))]
    have e0 : whl (fun s => F_M_read_23_b 0 s.1 s.2.1 s.2.2) FUEL (0, 0, up (F_M_begins s0) 333 11 (nI (posI b n 0))) = some (0, 0, up (F_M_begins s0) 333 11 (nI (posI b n 0))) := by
      rw [show FUEL = 20000 from rfl]
      exact whl_r (F := fun s => F_M_read_23_b 0 s.1 s.2.1 s.2.2) (s := ((0 : Int32), (0 : Int32), up (F_M_begins s0) 333 11 (nI (posI b n 0)))) (rd_stop 0 0 (up (F_M_begins s0) 333 11 (nI (posI b n 0))))
    rw [e0, ob_s]
    exact ⟨_, _, _, _, rfl, rfl, Or.inl ⟨P, M, hh.2, f2.2.1.2, hh.1.2.2.2⟩⟩
theorem op2 (h : INV i σ) (a1 a2 a3 a4 a5 : Int32) : ∃ σ', S_2 σ a1 a2 a3 a4 a5 = some σ' ∧ INV (i + 1) σ' := by
  obtain ⟨g, P, M, C, hT, hC, hL, hTp, hF, hI, hA⟩ := h
  obtain ⟨n, hn, t1, t2, t3⟩ := hTp
  have hb : ∀ j, j < n → σ 2 j = nI (tpB σ j) ∧ tpB σ j ≤ 255 := fun j hj => by
    obtain ⟨-, x, hx, ex⟩ := t3 j hj
    unfold tpB
    rw [ex, p_cl (by omega)]
    exact ⟨rfl, hx⟩
  -- the class reads
  have cf : ∀ q j, (q < 61 ∨ 77 < q) → (q ≠ 0 ∨ j ≠ 12) → up (F_Town_copyAll σ 61 3) 0 12 0 q j = σ q j := fun q j h1 h2 => by rw [up_d (by omega)]; exact copy_fr (by omega)
  have hT0 : TR (tv (up (F_Town_copyAll σ 61 3) 0 12 0) 61) (σ 334) g P M C := by
    have h1 : TR (tv (F_Town_copyAll σ 61 3) 61) (σ 334) g P M C := hT.copy (by omega)
    exact h1.keep3 (fun r hr j => up_d (by omega)) (fun _ => rfl)
  have t18 : up (F_Town_copyAll σ 61 3) 0 12 0 61 18 = σ 3 18 := by
    rw [up_d (by omega)]
    exact copy_at (t := 61) (t1 := 3) (by omega) 0 18 (by omega)
  -- the reference reads, from what memory soever
  have rd : ∀ s0 : Mem, s0 334 = σ 334 → s0 333 8 = nI n → (∀ j, j < n → s0 338 j = nI (tpB σ j)) → ∃ σ1 r s1 v, F_Text_linesOf_54 (up (F_Town_copyAll σ 61 3) 0 12 0) 1 400 (nI n) 14 = some (σ1, r) ∧ F_M_read (F_M_begins s0) 0 = some (s1, v) ∧ TEND (tpB σ) n g C σ1 r s1 := fun s0 e1 e2 e3 => text_both hn (fun j hj => by rw [cf 2 j (by omega) (by omega)]; exact hb j hj) (by rw [e1]; exact hT0) e2 e3
  obtain ⟨σ1, r, -, -, l1, -, -⟩ := rd σ rfl t2 (fun j hj => (t3 j hj).1.symm.trans (hb j hj).1)
  have lf : ∀ q j, (q < 54 ∨ 77 < q) → (q ≠ 0 ∨ j ≠ 12) → σ1 q j = σ q j := fun q j h1 h2 => (fr_F_Text_linesOf_54 (up (F_Town_copyAll σ 61 3) 0 12 0) 1 400 (nI n) 14 (by omega) rfl _ l1).1.trans (cf q j (by omega) h2)
  have l12 : σ1 0 12 = 0 := (fr_F_Text_linesOf_54 (up (F_Town_copyAll σ 61 3) 0 12 0) 1 400 (nI n) 14 (q := 0) (j := 12) (by omega) rfl _ l1).1.trans up_s
  have l18 : σ1 61 18 = σ 3 18 := (t18_Text_linesOf_54 (up (F_Town_copyAll σ 61 3) 0 12 0) 1 400 (nI n) 14 (v := σ 3 18) t18 _ l1).1
  obtain ⟨nt, hnt, ent⟩ := hT.c5.1
  have ent : σ 3 18 = nI nt := ent
  have wC : F_W_town σ = (if ((up σ1 0 13 (σ1 54 12)) 0 13) = (-1) then (if ((up σ1 0 13 (σ1 54 12)) 3 18) < 12 then some ((Sum.inr ((up (up (F_Town_copyAll (up σ1 0 13 (σ1 54 12)) 3 61) 3 18 (((F_Town_copyAll (up σ1 0 13 (σ1 54 12)) 3 61) 3 18) + 1)) 0 16 0, ((up (up (F_Town_copyAll (up σ1 0 13 (σ1 54 12)) 3 61) 3 18 (((F_Town_copyAll (up σ1 0 13 (σ1 54 12)) 3 61) 3 18) + 1)) 0 16 0) 3 18))))) else some (Sum.inl ("java/lang/UnsupportedOperationException", up σ1 0 13 (σ1 54 12)))) else some (Sum.inl ("java/lang/IllegalArgumentException", up σ1 0 13 (σ1 54 12)))) := by
    unfold F_W_town F_W_useTapeUp F_W_forgetActs
    simp only [bind_T]
    rw [show F_Town_copyAll σ 61 3 0 12 = nI n from (copy_fr (by omega)).trans t1, l1, ob_s]
  rw [up_s, up_d (by omega), lf 3 18 (by omega) (by omega), ent] at wC
  -- what follows from the class's answer
  have fin : ∀ z : Mem, (∀ q j, (q < 54 ∨ 77 < q) → (q ≠ 0 ∨ (j ≠ 12 ∧ j ≠ 13 ∧ j ≠ 16)) → (q < 3 ∨ 19 < q) → q ≠ 346 → z q j = σ q j) → ∃ s0 s1 v, F_M_putsAside z = some s0 ∧ F_M_read (F_M_begins s0) 0 = some (s1, v) ∧ TEND (tpB σ) n g C σ1 r s1 ∧ (∀ j, j < 450 → s1 336 j = σ 334 j) ∧ (∀ q j, q ≠ 334 → q ≠ 336 → (q ≠ 333 ∨ (j ≠ 8 ∧ j ≠ 9 ∧ j ≠ 10 ∧ j ≠ 11 ∧ j ≠ 12 ∧ j ≠ 13 ∧ j ≠ 16)) → s1 q j = z q j) ∧ s1 333 8 = 0 := fun z hz => by
    obtain ⟨s0, x1, x2, x3⟩ := m_aside (σ := z)
    have z334 : ∀ j, z 334 j = σ 334 j := fun j => hz 334 j (by omega) (by omega) (by omega) (by omega)
    obtain ⟨σ1', r', s1, v, y1, y2, y3⟩ := rd s0 (funext fun j => (x3 334 j (by omega)).trans (z334 j)) (by rw [x3 333 8 (by omega), hz 333 8 (by omega) (by omega) (by omega) (by omega)]; exact t2) (fun j hj => by rw [x3 338 j (by omega), hz 338 j (by omega) (by omega) (by omega) (by omega)]; exact (t3 j hj).1.symm.trans (hb j hj).1)
    have ee := Option.some.inj (l1.symm.trans y1)
    have e1 : σ1 = σ1' := congrArg Prod.fst ee
    have e2 : r = r' := congrArg Prod.snd ee
    subst e1; subst e2
    have fr : ∀ q j, q ≠ 334 → (q ≠ 333 ∨ (j ≠ 8 ∧ j ≠ 9 ∧ j ≠ 10 ∧ j ≠ 11 ∧ j ≠ 12 ∧ j ≠ 13 ∧ j ≠ 16)) → s1 q j = s0 q j := fun q j h1 h2 => by
      have i1 : kM q j (s0 q j) (F_M_begins s0) := fr_F_M_begins s0 (by omega) (by omega) (by omega) (by omega) (by omega) (by omega) rfl
      exact (fr_F_M_read _ 0 (by omega) (by omega) (by omega) (by omega) (by omega) i1 _ y2).1
    have f8 : s1 333 8 = 0 := by
      have i1 : kM 333 8 0 (F_M_begins s0) := by
        unfold F_M_begins kM
        simp only [bind_T]
        rw [up_d (by omega), up_d (by omega), up_s]
      exact (fr_F_M_read _ 0 (q := 333) (j := 8) (v := 0) (by omega) (by omega) (by omega) (by omega) (by omega) i1 _ y2).1
    refine ⟨s0, s1, v, x1, y2, y3, fun j hj => ?_, fun q j h1 h2 h3 => ?_, f8⟩
    · rw [fr 336 j (by omega) (by omega), x2 j hj]; exact z334 j
    · rw [fr q j h1 h3, x3 q j (by omega)]
  -- nothing of the text stays
  have stay : ∀ (z s1 s3 : Mem) (c : Int32), c ≠ 0 → (∀ q j, (q < 54 ∨ 77 < q) → (q ≠ 0 ∨ (j ≠ 12 ∧ j ≠ 13)) → z q j = σ q j) → z 0 12 = 0 → s1 333 8 = 0 → (∀ q j, q ≠ 334 → q ≠ 336 → (q ≠ 333 ∨ (j ≠ 8 ∧ j ≠ 9 ∧ j ≠ 10 ∧ j ≠ 11 ∧ j ≠ 12 ∧ j ≠ 13 ∧ j ≠ 16)) → s1 q j = z q j) → z 0 13 = s1 333 12 → (∀ j, j < 850 → s3 334 j = σ 334 j) → (∀ q j, q ≠ 334 → s3 q j = up s1 333 0 c q j) → INV (i + 1) s3 := fun z s1 s3 c hc z1 z2 z3 z4 z5 z6 z7 => by
    have k1 : ∀ q j, q ≠ 334 → q ≠ 336 → (q ≠ 333 ∨ (j ≠ 0 ∧ j ≠ 8 ∧ j ≠ 9 ∧ j ≠ 10 ∧ j ≠ 11 ∧ j ≠ 12 ∧ j ≠ 13 ∧ j ≠ 16)) → s3 q j = z q j := fun q j h1 h2 h3 => by rw [z7 q j h1, up_d (by omega), z4 q j h1 h2 (by omega)]
    have k2 : ∀ q j, q ≠ 334 → q ≠ 336 → (q ≠ 333 ∨ (j ≠ 0 ∧ j ≠ 8 ∧ j ≠ 9 ∧ j ≠ 10 ∧ j ≠ 11 ∧ j ≠ 12 ∧ j ≠ 13 ∧ j ≠ 16)) → (q < 54 ∨ 77 < q) → (q ≠ 0 ∨ (j ≠ 12 ∧ j ≠ 13)) → s3 q j = σ q j := fun q j h1 h2 h3 h4 h5 => (k1 q j h1 h2 h3).trans (z1 q j h4 h5)
    refine ⟨g, P, M, C, hT.keep4 (fun r hr j => k2 _ _ (by omega) (by omega) (by omega) (by omega) (by omega)) z6, by omega, hL.to (fun r hr j => k2 _ _ (by omega) (by omega) (by omega) (by omega) (by omega)), ⟨0, by omega, ?_, ?_, fun j hj => by omega⟩, ?_, hI.to (by omega) (k2 0 14 (by omega) (by omega) (by omega) (by omega) (by omega)) (fun q h8 h9 j => k2 _ _ (by omega) (by omega) (by omega) (by omega) (by omega)) (k2 333 3 (by omega) (by omega) (by omega) (by omega) (by omega)) (fun j => k2 _ _ (by omega) (by omega) (by omega) (by omega) (by omega)), hA.to (by omega) ⟨k2 0 15 (by omega) (by omega) (by omega) (by omega) (by omega), k2 0 16 (by omega) (by omega) (by omega) (by omega) (by omega)⟩ (fun q h8 h9 j => k2 _ _ (by omega) (by omega) (by omega) (by omega) (by omega)) (k2 333 6 (by omega) (by omega) (by omega) (by omega) (by omega)) (fun j => k2 _ _ (by omega) (by omega) (by omega) (by omega) (by omega))⟩
    · rw [k1 0 12 (by omega) (by omega) (by omega), z2, nI_0]
    · rw [z7 333 8 (by omega), up_d (by omega), z3, nI_0]
    · rw [k1 0 13 (by omega) (by omega) (by omega), z5, z7 333 12 (by omega), up_d (by omega)]
  have zf : ∀ q j, (q < 54 ∨ 77 < q) → (q ≠ 0 ∨ (j ≠ 12 ∧ j ≠ 13)) → up σ1 0 13 (σ1 54 12) q j = σ q j := fun q j h1 h2 => by rw [up_d (by omega)]; exact lf q j h1 (by omega)
  by_cases cf12 : σ1 54 12 = -1
  · rw [if_pos cf12] at wC
    by_cases ct : nt < 12
    · -- it stands
      rw [if_pos (show nI nt < 12 from nI_lt (b := 12) ct (by omega))] at wC
      have cp18 : F_Town_copyAll (up σ1 0 13 (σ1 54 12)) 3 61 3 18 = nI nt := by
        rw [copy_at (t := 3) (t1 := 61) (by omega) 0 18 (by omega), up_d (by omega)]
        exact l18.trans ent
      rw [cp18, nI_1] at wC
      have e318 : (up (up (F_Town_copyAll (up σ1 0 13 (σ1 54 12)) 3 61) 3 18 (nI (nt + 1))) 0 16 0) 3 18 = nI (nt + 1) := by rw [up_d (by omega), up_s]
      have zf2 : ∀ q j, (q < 54 ∨ 77 < q) → (q ≠ 0 ∨ (j ≠ 12 ∧ j ≠ 13 ∧ j ≠ 16)) → (q < 3 ∨ 19 < q) → up (up (F_Town_copyAll (up σ1 0 13 (σ1 54 12)) 3 61) 3 18 (nI (nt + 1))) 0 16 0 q j = σ q j := fun q j h1 h2 h3 => by
        rw [up_d (by omega), up_d (by omega), copy_fr (by omega), up_d (by omega)]
        exact lf q j h1 (by omega)
      have z13 : (up (up (F_Town_copyAll (up σ1 0 13 (σ1 54 12)) 3 61) 3 18 (nI (nt + 1))) 0 16 0) 0 13 = -1 := by
        rw [up_d (by omega), up_d (by omega), copy_fr (by omega), up_s]; exact cf12
      have z12 : (up (up (F_Town_copyAll (up σ1 0 13 (σ1 54 12)) 3 61) 3 18 (nI (nt + 1))) 0 16 0) 0 12 = 0 := by
        rw [up_d (by omega), up_d (by omega), copy_fr (by omega), up_d (by omega)]; exact l12
      have z16 : (up (up (F_Town_copyAll (up σ1 0 13 (σ1 54 12)) 3 61) 3 18 (nI (nt + 1))) 0 16 0) 0 16 = 0 := up_s
      have zT : ∀ (f : Nat → Int32) (P1 M1 : Nat), TR (tv σ1 61) f g P1 M1 C → TR (tv (up (up (F_Town_copyAll (up σ1 0 13 (σ1 54 12)) 3 61) 3 18 (nI (nt + 1))) 0 16 0) 3) (upF f 0 (nI (nt + 1))) g P1 M1 C := fun f P1 M1 hf => by
        have h1 : TR (tv (up σ1 0 13 (σ1 54 12)) 61) f g P1 M1 C := hf.keep3 (fun r hr j => up_d (by omega)) (fun _ => rfl)
        have h2 : TR (tv (F_Town_copyAll (up σ1 0 13 (σ1 54 12)) 3 61) 3) f g P1 M1 C := h1.copy (by omega)
        have h3 := h2.texts (n0 := nt + 1) (by omega)
        rw [← tv_up0] at h3
        exact h3.keep3 (fun r hr j => up_d (by omega)) (fun _ => rfl)
      generalize up (up (F_Town_copyAll (up σ1 0 13 (σ1 54 12)) 3 61) 3 18 (nI (nt + 1))) 0 16 0 = z at wC e318 zf2 z13 z12 z16 zT
      rw [e318] at wC
      obtain ⟨s0, s1, v, x1, x2, x3, x4, x5, x6⟩ := fin (up z 346 0 (nI (nt + 1))) (fun q j h1 h2 h3 h4 => by rw [up_d (by omega)]; exact zf2 q j h1 h2 h3)
      obtain ⟨P1, M1, y1, y2, y3⟩ : ∃ P1 M1, TR (tv σ1 61) (s1 334) g P1 M1 C ∧ σ1 54 12 = -1 ∧ s1 333 12 = -1 := by
        rcases x3 with x3 | ⟨w, w1, w2, -⟩
        · exact x3
        · rw [w2] at cf12
          exact absurd cf12 (m1_ne w (by omega))
      have e0 : s1 334 0 = nI nt := y1.c4.1.trans (l18.trans ent)
      have k1 : ∀ q j, q ≠ 334 → q ≠ 336 → (q ≠ 333 ∨ (j ≠ 0 ∧ j ≠ 6 ∧ j ≠ 8 ∧ j ≠ 9 ∧ j ≠ 10 ∧ j ≠ 11 ∧ j ≠ 12 ∧ j ≠ 13 ∧ j ≠ 16)) → q ≠ 346 → up (up (up s1 333 0 0) 334 0 (nI (nt + 1))) 333 6 0 q j = z q j := fun q j h1 h2 h3 h4 => by
        rw [up_d (by omega), up_d (by omega), up_d (by omega), x5 q j h1 h2 (by omega), up_d (by omega)]
      have k2 : ∀ q j, q ≠ 334 → q ≠ 336 → (q ≠ 333 ∨ (j ≠ 0 ∧ j ≠ 6 ∧ j ≠ 8 ∧ j ≠ 9 ∧ j ≠ 10 ∧ j ≠ 11 ∧ j ≠ 12 ∧ j ≠ 13 ∧ j ≠ 16)) → q ≠ 346 → (q < 54 ∨ 77 < q) → (q ≠ 0 ∨ (j ≠ 12 ∧ j ≠ 13 ∧ j ≠ 16)) → (q < 3 ∨ 19 < q) → up (up (up s1 333 0 0) 334 0 (nI (nt + 1))) 333 6 0 q j = σ q j := fun q j h1 h2 h3 h4 h5 h6 h7 => (k1 q j h1 h2 h3 h4).trans (zf2 q j h5 h6 h7)
      have f334 : (up (up (up s1 333 0 0) 334 0 (nI (nt + 1))) 333 6 0) 334 = upF (s1 334) 0 (nI (nt + 1)) := by
        rw [up_r (by omega), mv_up, up_r (by omega)]
      refine ⟨up (up (up s1 333 0 0) 334 0 (nI (nt + 1))) 333 6 0, ?_, g, P1, M1, C, ?_, by omega, hL.to (fun r hr j => k2 _ _ (by omega) (by omega) (by omega) (by omega) (by omega) (by omega) (by omega)), ⟨0, by omega, ?_, ?_, fun j hj => by omega⟩, ?_, hI.to (by omega) (k2 0 14 (by omega) (by omega) (by omega) (by omega) (by omega) (by omega) (by omega)) (fun q h8 h9 j => k2 _ _ (by omega) (by omega) (by omega) (by omega) (by omega) (by omega) (by omega)) (k2 333 3 (by omega) (by omega) (by omega) (by omega) (by omega) (by omega) (by omega)) (fun j => k2 _ _ (by omega) (by omega) (by omega) (by omega) (by omega) (by omega) (by omega)), ?_⟩
      · unfold S_2 H_town F_M_town
        rw [wC, ob_s, sumE_r, bind_T, ob_s]
        dsimp only
        rw [x1, ob_s, bind_T, x2, ob_s]
        dsimp only
        rw [if_pos y3, if_neg (show ¬ s1 334 0 = 12 from fun e => by rw [e0] at e; have := nI_inj (b := 12) (by omega) (by omega) e; omega), bind_T, up_s, if_neg nlt00, bind_T, bind_T, up_d (by omega), e0, nI_1, ob_s]
        dsimp only
        rw [if_pos (show F_M_thrown (up (up (up s1 333 0 0) 334 0 (nI (nt + 1))) 333 6 0) = 0 by unfold F_M_thrown; rw [up_d (by omega), up_d (by omega), up_s]), if_pos rfl, if_pos]
        rw [up_d (by omega), up_d (by omega), up_d (by omega), x5 346 0 (by omega) (by omega) (by omega), up_s, up_d (by omega), up_s]
      · rw [f334]
        exact (zT _ _ _ y1).keep3 (fun r hr j => k1 _ _ (by omega) (by omega) (by omega) (by omega)) (fun _ => rfl)
      · rw [k1 0 12 (by omega) (by omega) (by omega) (by omega), z12, nI_0]
      · rw [up_d (by omega), up_d (by omega), up_d (by omega), x6, nI_0]
      · rw [k1 0 13 (by omega) (by omega) (by omega) (by omega), z13, up_d (by omega), up_d (by omega), up_d (by omega), y3]
      · obtain ⟨o, A, ho, hAA, b1, b2, b3, b4⟩ := hA
        refine ⟨o, 0, ho, by omega, (k2 0 15 (by omega) (by omega) (by omega) (by omega) (by omega) (by omega) (by omega)).trans b1, ?_, ?_, fun a ha => by omega⟩
        · rw [k1 0 16 (by omega) (by omega) (by omega) (by omega), z16, nI_0]
        · rw [up_s, nI_0]
    · -- twelve texts already
      obtain rfl : nt = 12 := by omega
      rw [if_neg (by decide)] at wC
      obtain ⟨s0, s1, v, x1, x2, x3, x4, x5, x6⟩ := fin (up σ1 0 13 (σ1 54 12)) (fun q j h1 h2 h3 h4 => zf q j h1 (by omega))
      obtain ⟨P1, M1, y1, y2, y3⟩ : ∃ P1 M1, TR (tv σ1 61) (s1 334) g P1 M1 C ∧ σ1 54 12 = -1 ∧ s1 333 12 = -1 := by
        rcases x3 with x3 | ⟨w, w1, w2, -⟩
        · exact x3
        · rw [w2] at cf12
          exact absurd cf12 (m1_ne w (by omega))
      have e0 : s1 334 0 = 12 := y1.c4.1.trans (l18.trans ent)
      obtain ⟨s3, q1, q2, q3⟩ := m_back (σ := up s1 333 0 2)
      refine ⟨s3, ?_, stay (up σ1 0 13 (σ1 54 12)) s1 s3 2 (by decide) zf (by rw [up_d (by omega)]; exact l12) x6 x5 (by rw [up_s, cf12, y3]) (fun j hj => ?_) (fun q j hq => q3 q j (by omega))⟩
      · unfold S_2 H_town F_M_town
        rw [wC, ob_s, sumE_l, if_neg (show ¬ ("java/lang/UnsupportedOperationException" : String) = "java/lang/IllegalArgumentException" by decide), if_pos rfl, ob_s]
        dsimp only
        rw [x1, ob_s, bind_T, x2, ob_s]
        dsimp only
        rw [if_pos y3, if_pos e0, bind_T, up_s, if_pos lt02, q1, ob_s, ob_s]
        dsimp only
        rw [if_pos (show F_M_thrown s3 = 2 by unfold F_M_thrown; rw [q3 333 0 (by omega), up_s]), if_neg (by decide)]
      · by_cases c : j < 450
        · rw [q2 j c, up_d (by omega)]; exact x4 j c
        · rw [q3 334 j (by omega), up_d (by omega), y1.c16 j (by omega)]; exact (hT.c16 j (by omega)).symm
  · -- a fault
    rw [if_neg cf12] at wC
    obtain ⟨s0, s1, v, x1, x2, x3, x4, x5, x6⟩ := fin (up σ1 0 13 (σ1 54 12)) (fun q j h1 h2 h3 h4 => zf q j h1 (by omega))
    obtain ⟨w, w1, w2, w3, w4⟩ : ∃ w, w ≤ n ∧ σ1 54 12 = nI w ∧ s1 333 12 = nI w ∧ ∀ j, 450 ≤ j → j < 850 → s1 334 j = g j := by
      rcases x3 with ⟨P1, M1, -, y2, -⟩ | x3
      · exact absurd y2 cf12
      · exact x3
    obtain ⟨s3, q1, q2, q3⟩ := m_back (σ := up s1 333 0 1)
    refine ⟨s3, ?_, stay (up σ1 0 13 (σ1 54 12)) s1 s3 1 (by decide) zf (by rw [up_d (by omega)]; exact l12) x6 x5 (by rw [up_s, w2, w3]) (fun j hj => ?_) (fun q j hq => q3 q j (by omega))⟩
    · unfold S_2 H_town F_M_town
      rw [wC, ob_s, sumE_l, if_pos rfl, ob_s]
      dsimp only
      rw [x1, ob_s, bind_T, x2, ob_s]
      dsimp only
      rw [if_neg (by rw [w3]; exact m1_ne w (by omega)), bind_T, up_s, if_pos lt01, q1, ob_s, ob_s]
      dsimp only
      rw [if_pos (show F_M_thrown s3 = 1 by unfold F_M_thrown; rw [q3 333 0 (by omega), up_s]), if_neg (by decide)]
    · by_cases c : j < 450
      · rw [q2 j c, up_d (by omega)]; exact x4 j c
      · rw [q3 334 j (by omega), up_d (by omega), w4 j (by omega) hj]; exact (hT.c16 j (by omega)).symm
end TOP

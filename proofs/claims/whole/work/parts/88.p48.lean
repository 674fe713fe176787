-- PURE STAGE: gifts
section GIF
variable {σ σ' : Mem} {g : Nat → Int32} {P M C i : Nat}
theorem gift_ans {nx : Nat → Nat → Nat} {bar h0 n : Nat} (hx : ∀ i h, nx i h ≤ 99) (hh : h0 < 100) (hn : n ≤ 20) : (if 40 < nI (gD nx bar n n h0) then (-1 : Int32) else nI (gD nx bar n n h0)) = if mnR (cF nx bar h0 n) 100 < 41 then nI (mnR (cF nx bar h0 n) 100) else -1 := by
  have hI : INFN = 2000000000 := rfl
  have hb := gD_bd (nx := nx) (bar := bar) (n := n) n h0
  by_cases c : gD nx bar n n h0 ≤ 40
  · have h1 := (gifts_eq (nx := nx) (bar := bar) (h0 := h0) (n := n) hx c hh).mpr (Nat.le_refl _)
    have h2 := (gifts_eq (nx := nx) (bar := bar) (h0 := h0) (n := n) hx (show mnR (cF nx bar h0 n) 100 ≤ 40 by omega) hh).mp (Nat.le_refl _)
    rw [if_neg (show ¬ (40 : Int32) < nI (gD nx bar n n h0) from nI_nlt (a := 40) (by omega) (by omega)), if_pos (by omega), show mnR (cF nx bar h0 n) 100 = gD nx bar n n h0 by omega]
  · have h3 : ¬ mnR (cF nx bar h0 n) 100 ≤ 40 := fun h => c ((gifts_eq hx (Nat.le_refl 40) hh).mp h)
    rw [if_pos (show (40 : Int32) < nI (gD nx bar n n h0) from nI_lt (a := 40) (by omega) (by omega)), if_neg (by omega)]
theorem rs27 (h : INVg i g P M C σ σ) (a1 a2 a3 : Int32) : RS i σ g P M C (H_gifts σ a1 a2 a3) (fun σ' => F_M_gifts σ' a1 a2 a3) := by
  have hM := h.1.c1.2.1
  obtain ⟨Λ, l1, l2, -⟩ := h.2.2.1
  have num : (∃ n, n ≤ 20 ∧ 1 ≤ n ∧ a2 = nI n) ∨ (F_W_checkNumber σ a2 1 20 = .inl "java/lang/IllegalArgumentException" ∧ ∀ σ' : Mem, F_M_isIn σ' a2 1 20 = 0) := by
    unfold F_W_checkNumber F_M_isIn
    by_cases c1 : a2 < 1
    · exact Or.inr ⟨by rw [if_pos c1], fun _ => by rw [if_pos c1]⟩
    · by_cases c2 : 20 < a2
      · exact Or.inr ⟨by rw [if_neg c1, if_pos c2], fun _ => by rw [if_neg c1, if_pos c2]⟩
      · obtain ⟨n, hn, rfl⟩ := num_ok (lo := 1) (hi := 20) (n := 20) (by decide) (by decide) (by decide) c1 c2
        refine Or.inl ⟨n, hn, ?_, rfl⟩
        apply Nat.not_lt.mp
        intro c
        obtain rfl : n = 0 := by omega
        exact c1 (by decide)
  rcases pcase M a1 with ⟨k, hk, rfl⟩ | h1
  · rcases num with ⟨n, hn, hn1, rfl⟩ | ⟨b1, b2⟩
    · have cnk : F_W_checkNumber σ (nI n) 1 20 = .inr () := by
        unfold F_W_checkNumber
        rw [if_neg (show ¬ nI n < 1 from nI_nlt (b := 1) (by omega) (by omega)), if_neg (show ¬ 20 < nI n from nI_nlt (a := 20) (by omega) (by omega))]
      have ink : ∀ σ' : Mem, F_M_isIn σ' (nI n) 1 20 = 1 := fun σ' => by
        unfold F_M_isIn
        rw [if_neg (show ¬ nI n < 1 from nI_nlt (b := 1) (by omega) (by omega)), if_neg (show ¬ 20 < nI n from nI_nlt (a := 20) (by omega) (by omega))]
      rcases pcase 10 a3 with ⟨c, hc, rfl⟩ | h2
      · have bm : ∀ σ', TR (tv σ 3) (σ' 334) g P M C → F_M_badMatch σ' (nI k) (nI n) 20 (nI c) = some 0 := fun σ' h' => by
          unfold F_M_badMatch
          rw [q_match h' hk, ob_s, if_neg (show ¬ (1 : Int32) = 0 by decide), if_pos (rfl : (20 : Int32) = 20), ink, if_neg (show ¬ (1 : Int32) = 0 by decide), isIn3 (n := 10) 9 (by decide) (by decide) hc, if_neg (show ¬ (1 : Int32) = 0 by decide)]
        by_cases ov : bt (σ 3 11) k = true
        · refine Or.inr ⟨σ, -1, ?_, fun _ _ _ => rfl, fun σ' h' => ⟨up σ' 333 0 0, ?_, fun q j hq => up_d (by unfold RelM at hq; omega), up_s⟩⟩
          · unfold H_gifts F_W_gifts
            rw [cm_ok h.1 hk, cnk, cq_ok hc, co_is h.1 hk, if10]
            show obind (if bt (σ 3 11) k = true then _ else _) _ = _
            rw [if_pos ov]; rfl
          · dsimp only
            unfold F_M_gifts
            have h2 := (h'.th (c := 0)).1
            rw [bm σ' h'.1, ob_s, bind_T, up_s, if_neg nlt00, m_mat4 (by omega), ob_s, (h2.c12 k hk).2.2.2.2, if11, if_pos (show bt (tv σ 3 0 11) k = true from ov)]
        · obtain ⟨h0, hh0, e0, -⟩ := h.1.h_at hk
          obtain ⟨mo, hmo, e5, -⟩ := h.1.mon1
          obtain ⟨bar, hb, e12⟩ := h.1.c5.2.1
          obtain ⟨m1, f1, f2⟩ := c_gifts (q := nI c) h.1 l1 hk (n := n) (by omega) e0 hh0 e5 hmo e12 hb
          refine Or.inr ⟨m1, (if mnR (cF (NX Λ (tv σ 3) P k (nI c) mo) bar h0 n) 100 < 41 then nI (mnR (cF (NX Λ (tv σ 3) P k (nI c) mo) bar h0 n) 100) else -1), ?_, fun q j hq => f2 q j (by unfold RelC at hq; omega) (by unfold RelC at hq; omega) (by unfold RelC at hq; omega) (by unfold RelC at hq; omega), fun σ' h' => ?_⟩
          · unfold H_gifts F_W_gifts
            rw [cm_ok h.1 hk, cnk, cq_ok hc, co_is h.1 hk, if10]
            show obind (if bt (σ 3 11) k = true then _ else _) _ = _
            rw [if_neg ov, f1]
            rfl
          · have h2 := (h'.th (c := 0)).1
            obtain ⟨s0, y1, y2, y3⟩ := m_aside (σ := up σ' 333 0 0)
            have e4 : ∀ j, s0 334 j = (up σ' 333 0 0) 334 j := fun j => y3 334 j (by omega)
            obtain ⟨x, x1, x2, x3, x4⟩ := m_table (q := nI c) h2 l2 hk (h2.c4.2.1.trans e12) hb hn hmo (h2.c4.2.2.2.2.1.trans e5) e4 y2
            obtain ⟨s3, z1, z2, z3⟩ := m_back (σ := x.2)
            have eA : x.2 336 (112 + 5 * k) = nI h0 := by
              rw [x3 336 _ (by omega) (by omega) (by omega) (by omega) (by omega), y2 _ (by omega)]
              exact (h2.c12 k hk).2.2.1.trans e0
            refine ⟨s3, ?_, fun q j hq => ?_, ?_⟩
            · dsimp only
              unfold F_M_gifts
              rw [bm σ' h'.1, ob_s, bind_T, up_s, if_neg nlt00, m_mat4 (by omega), ob_s, (h2.c12 k hk).2.2.2.2, if11, if_neg (show ¬ bt (tv σ 3 0 11) k = true from ov), y1, ob_s, x1, ob_s]
              have eo : F_M_ofAside x.2 (nI k) = some (nI h0) := by
                unfold F_M_ofAside
                rw [bind_T, show (5 : Int32) * nI k = nI (5 * k) from pk_mul 5 k, show (110 : Int32) + nI (5 * k) = nI (110 + 5 * k) from nI_add 110 _, show nI (110 + 5 * k) + 2 = nI (110 + 5 * k + 2) from nI_add _ 2, show 110 + 5 * k + 2 = 112 + 5 * k by omega, p_inb (by omega) (by decide), chk_t, p_cl (by omega), eA]
              rw [eo, ob_s, p_inb (by omega) (by decide), chk_t, bind_T, p_cl (by omega), x2 h0 (by omega), z1, ob_s, ← gift_ans (NX_le Λ (tv σ 3) P k (nI c) mo) (by omega) hn]
              by_cases c9 : (40 : Int32) < nI (gD (NX Λ (tv σ 3) P k (nI c) mo) bar n n h0)
              · rw [if_pos c9, if_pos c9]
              · rw [if_neg c9, if_neg c9]
            · unfold RelM at hq
              by_cases e : q = 334
              · subst e
                by_cases e2 : j < 450
                · rw [z2 j e2, x3 336 j (by omega) (by omega) (by omega) (by omega) (by omega), y2 j e2, up_d (by omega)]
                · rw [z3 334 j (by omega), x4 j (by omega), up_d (by omega)]
              · rw [z3 q j (by omega), x3 q j e (by omega) (by omega) (by omega) (by omega), y3 q j (by omega), up_d (by omega)]
            · rw [z3 333 0 (by omega), x3 333 0 (by omega) (by omega) (by omega) (by omega) (by omega), y3 333 0 (by omega), up_s]
      · refine Or.inl ⟨2, by decide, ?_, fun σ' h' => ?_⟩
        · unfold H_gifts F_W_gifts
          rw [cm_ok h.1 hk, cnk, cq_no h2]; rfl
        · dsimp only
          unfold F_M_gifts F_M_badMatch
          rw [q_match h' hk, ob_s, if_neg (show ¬ (1 : Int32) = 0 by decide), if_pos (rfl : (20 : Int32) = 20), ink, if_neg (show ¬ (1 : Int32) = 0 by decide), isIn3n (n := 10) 9 (by decide) (by decide) h2, if_pos (rfl : (0 : Int32) = 0), ob_s, bind_T, up_s, if_pos lt02]
          exact ⟨_, rfl⟩
    · refine Or.inl ⟨2, by decide, ?_, fun σ' h' => ?_⟩
      · unfold H_gifts F_W_gifts
        rw [cm_ok h.1 hk, b1]; rfl
      · dsimp only
        unfold F_M_gifts F_M_badMatch
        rw [q_match h' hk, ob_s, if_neg (show ¬ (1 : Int32) = 0 by decide), if_pos (rfl : (20 : Int32) = 20), b2, if_pos (rfl : (0 : Int32) = 0), ob_s, bind_T, up_s, if_pos lt02]
        exact ⟨_, rfl⟩
  · refine Or.inl ⟨1, by decide, ?_, fun σ' h' => ?_⟩
    · unfold H_gifts F_W_gifts
      rw [cm_no h.1 h1]; rfl
    · dsimp only
      unfold F_M_gifts F_M_badMatch
      rw [q_nomatch h' h1, ob_s, if_pos rfl, ob_s, bind_T, up_s, if_pos lt01]
      exact ⟨_, rfl⟩
theorem op27 (h : INV i σ) (a1 a2 a3 a4 a5 : Int32) : ∃ σ', S_27 σ a1 a2 a3 a4 a5 = some σ' ∧ INV (i + 1) σ' := by
  obtain ⟨g, P, M, C, h⟩ := h
  exact rs_ok (B := fun σ' => F_M_gifts σ' a1 a2 a3) h (rs27 h a1 a2 a3)
end GIF

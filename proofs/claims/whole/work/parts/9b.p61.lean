-- PURE STAGE: the law's text: parts and sums
def PCh (z : Mem) : Option (Mem × Int32) := obind (F_M_says z 16) fun z4 => (if z4.2 = 0 then obind (F_M_says z4.1 17) fun z6 => (if z6.2 = 0 then obind (F_M_says z6.1 18) fun z8 => (if z8.2 = 0 then obind (F_M_says z8.1 19) fun z10 => (if z10.2 = 0 then obind (F_M_says z10.1 20) fun z12 => (if z12.2 = 0 then obind (F_M_says z12.1 21) fun z14 => (if z14.2 = 0 then bindT (F_M_wrong z14.1 ((z14.1 333 11))) fun z17 => some ((z17, 0)) else some ((z14.1, (z14.1 339 5)))) else some ((z12.1, (z12.1 339 4)))) else some ((z10.1, (z10.1 339 3)))) else some ((z8.1, (z8.1 339 2)))) else some ((z6.1, (z6.1 339 1)))) else some ((z4.1, (z4.1 339 0))))
def KS (z : Mem) : Option (Mem ⊕ (Mem × Int32)) := chk (inb (z 78 8) 31) <| (if (z 78 8) = 27 then obind (F_Text_advance z 78) fun z17 => some (.inl z17) else some (.inr ((z, 1))))
def SBc (v1 : Int32) (σ : Mem) (c : Int32) : Option (Mem ⊕ (Mem × Int32)) := bindT (F_Law_addCode σ 85 c) fun z7 => (if 0 < v1 then bindT (F_Law_addCode z7 85 1008) fun z13 => obind (F_Text_advance z13 78) KS else obind (F_Text_advance z7 78) KS)
theorem vS_f (s : Mem) : ∀ j, j < 6 → vS s (nI (1000 + j)) = s 339 j := by
  intro j hj
  have : j = 0 ∨ j = 1 ∨ j = 2 ∨ j = 3 ∨ j = 4 ∨ j = 5 := by omega
  rcases this with rfl | rfl | rfl | rfl | rfl | rfl <;> rfl
theorem vS_n (s : Mem) {v : Nat} (h : v < 1000) : vS s (nI v) = nI v := by
  have ne : ∀ w, 1000 ≤ w → w < 2000 → ¬ nI v = nI w := fun w h1 h2 e => by have := nI_inj (by omega) (by omega) e; omega
  unfold vS
  rw [if_neg (show ¬ nI v = 1000 from ne 1000 (by decide) (by decide)), if_neg (show ¬ nI v = 1001 from ne 1001 (by decide) (by decide)), if_neg (show ¬ nI v = 1002 from ne 1002 (by decide) (by decide)), if_neg (show ¬ nI v = 1003 from ne 1003 (by decide) (by decide)), if_neg (show ¬ nI v = 1004 from ne 1004 (by decide) (by decide)), if_neg (show ¬ nI v = 1005 from ne 1005 (by decide) (by decide)), if_neg (show ¬ nI v = 1006 from ne 1006 (by decide) (by decide)), if_neg (show ¬ nI v = 1007 from ne 1007 (by decide) (by decide))]
theorem and1 (x : Int32) : isb (x &&& 1) := by
  have e : (x &&& 1).toBitVec = BitVec.setWidth 32 (BitVec.ofBool (x.toBitVec.getLsbD 0)) := BitVec.and_one_eq_setWidth_ofBool_getLsbD
  cases h : x.toBitVec.getLsbD 0 with
  | false =>
    rw [h] at e
    exact Or.inl (Int32.toBitVec_inj.mp (e.trans (by decide)))
  | true =>
    rw [h] at e
    exact Or.inr (Int32.toBitVec_inj.mp (e.trans (by decide)))
theorem vS_g (s : Mem) : VG (vS s) := by
  constructor
  · show isb (if 0 < s 339 3 then 1 else 0)
    split
    · exact Or.inr rfl
    · exact Or.inl rfl
  · show isb (s 333 15 &&& 1)
    exact and1 _
section LPT
variable {b : Nat → Nat} {n T i d : Nat} {σ s : Mem} {cs : List Int32}
theorem m_pch (h : SN b n T i d s) (hc : CTk 78 b n T i σ) {k : Nat} (hk : k < 31) (ek : σ 78 8 = nI k) : (∃ j, j < 6 ∧ k = 16 + j ∧ PCh (up s 333 11 (nI (posI b n i))) = some (up s 333 11 (nI (stF b n (posI b n i))), s 339 j)) ∨ ((k < 16 ∨ 21 < k) ∧ PCh (up s 333 11 (nI (posI b n i))) = some (up (up s 333 11 (nI (posI b n i))) 333 12 (nI (posI b n i)), 0)) := by
  have hh := h.here hc
  have kq : ∀ v, v < 31 → (σ 78 8 = nI v ↔ k = v) := fun v hv => by rw [ek]; exact nI_eq (by omega) (by omega)
  have no : ∀ v, v < 22 → k ≠ v → F_M_says (up s 333 11 (nI (posI b n i))) v = some (up s 333 11 (nI (posI b n i)), 0) := fun v hv hne => by
    rw [(sn_says hh hc hv).2 (fun e => hne ((kq v (by omega)).mp e)), up_up]
  have yes : ∀ v, v < 22 → k = v → F_M_says (up s 333 11 (nI (posI b n i))) v = some (up s 333 11 (nI (stF b n (posI b n i))), 1) := fun v hv e => by
    rw [(sn_says hh hc hv).1 ((kq v (by omega)).mpr e), up_up]
  have ne1 : ¬ (1 : Int32) = 0 := by decide
  have cell : ∀ j, (up s 333 11 (nI (stF b n (posI b n i)))) 339 j = s 339 j := fun j => up_d (by omega)
  unfold PCh
  by_cases k0 : k = 16
  · refine Or.inl ⟨0, by omega, k0, ?_⟩
    rw [yes 16 (by decide) k0, ob_s]
    dsimp only
    rw [if_neg ne1, cell]
  rw [no 16 (by decide) k0, ob_s]
  dsimp only
  rw [if_pos rfl]
  by_cases k1 : k = 17
  · refine Or.inl ⟨1, by omega, k1, ?_⟩
    rw [yes 17 (by decide) k1, ob_s]
    dsimp only
    rw [if_neg ne1, cell]
  rw [no 17 (by decide) k1, ob_s]
  dsimp only
  rw [if_pos rfl]
  by_cases k2 : k = 18
  · refine Or.inl ⟨2, by omega, k2, ?_⟩
    rw [yes 18 (by decide) k2, ob_s]
    dsimp only
    rw [if_neg ne1, cell]
  rw [no 18 (by decide) k2, ob_s]
  dsimp only
  rw [if_pos rfl]
  by_cases k3 : k = 19
  · refine Or.inl ⟨3, by omega, k3, ?_⟩
    rw [yes 19 (by decide) k3, ob_s]
    dsimp only
    rw [if_neg ne1, cell]
  rw [no 19 (by decide) k3, ob_s]
  dsimp only
  rw [if_pos rfl]
  by_cases k4 : k = 20
  · refine Or.inl ⟨4, by omega, k4, ?_⟩
    rw [yes 20 (by decide) k4, ob_s]
    dsimp only
    rw [if_neg ne1, cell]
  rw [no 20 (by decide) k4, ob_s]
  dsimp only
  rw [if_pos rfl]
  by_cases k5 : k = 21
  · refine Or.inl ⟨5, by omega, k5, ?_⟩
    rw [yes 21 (by decide) k5, ob_s]
    dsimp only
    rw [if_neg ne1, cell]
  rw [no 21 (by decide) k5, ob_s]
  dsimp only
  rw [if_pos rfl]
  refine Or.inr ⟨by omega, ?_⟩
  obtain ⟨a, -, -, h12, -⟩ := hh
  unfold F_M_wrong
  rw [h12, if_pos rfl, bind_T, bind_T, up_s]
theorem kPart (σ : Mem) : ∀ k, k < 31 → F_Law_isPart σ (kCode (nI k)) = if 16 ≤ k ∧ k ≤ 21 then 1 else 0 := by
  have h : ∀ k, k < 31 → F_Law_isPart z0 (kCode (nI k)) = if 16 ≤ k ∧ k ≤ 21 then 1 else 0 := by decide
  exact h
theorem kCode_f : ∀ j, j < 6 → kCode (nI (16 + j)) = nI (1000 + j) := by decide
theorem m_wr (h : SN b n T i d s) {w : Int32} : F_M_wrong s w = up s 333 12 w := by
  obtain ⟨a, -, -, h12, -⟩ := h
  unfold F_M_wrong
  rw [h12, if_pos rfl, bind_T]
/-- a part of a sum on both sides -/
theorem part_both (h : CLw b n T i cs σ) :
    (∃ c, i < T ∧ c < 1008 ∧ (∀ v1, F_LTx_readsSum_2_b v1 σ = SBc v1 σ c) ∧ ∀ d s, SN b n T i d s → ∃ s1, F_M_part s = some (s1, vS s c) ∧ SN b n T (i + 1) d s1 ∧ FR s s1) ∨
    ((∀ v1, F_LTx_readsSum_2_b v1 σ = some (.inr (up σ 78 12 (nI (posI b n i)), 0))) ∧ ∀ d s, SN b n T i d s → ∃ s1 y, F_M_part s = some (s1, y) ∧ FNt b n (posI b n i) 0 s1 ∧ FR s s1) := by
  obtain ⟨k, hk, ek⟩ := h.1.in31
  have hin : inb (σ 78 8) 31 = true := h.in31
  obtain ⟨p1, p2⟩ := h.1.pos
  have hn := h.1.1.1.1
  have ref0 : bindT (F_Text_refuse σ 78) (fun z18 => some ((Sum.inr ((z18.1, (z18.2 &&& 1))) : Mem ⊕ (Mem × Int32)))) = some (.inr (up σ 78 12 (nI (posI b n i)), 0)) := by
    rw [c_ref h.1, bind_T]
    dsimp only
    rw [show (0 : Int32) &&& 1 = 0 by decide]
  by_cases cd : i < T ∧ dgt (b (posI b n i)) = true
  · -- a number
    obtain ⟨hi, cd⟩ := cd
    have hp := p2.mpr hi
    have hb := h.1.1.1.2.2.2 _ hp
    have k28 : k = 28 := by
      have e8 := (h.1.2.2.2.1 hi).1
      rw [ek] at e8
      unfold kdF at e8
      rw [if_pos cd] at e8
      exact nI_inj (by omega) (by omega) e8
    have pt : ∀ d s, SN b n T i d s → F_M_part s = F_M_figures (up s 333 11 (nI (posI b n i))) 0 999 := fun d s hs => by
      obtain ⟨a, hy⟩ := hs.sy h.1
      have hz := hy.here
      unfold F_M_part
      rw [hy.2.2.2, if_pos rfl, sy_skip hy, ob_s, hz.2.1.2.2.1, hz.2.1.2.2.2.1, if_pos (nI_lt hp (by omega)), hz.2.1.letter hp, ob_s, m_isD hb, cd, if_neg (by decide)]
      cases F_M_figures (up s 333 11 (nI (posI b n i))) 0 999 <;> rfl
    have H : ∀ v, v < 10000 → ((999 : Int32) < nI v ↔ 1000 ≤ v) := fun v hv => ⟨fun q => Nat.not_lt.mp fun c => nI_nlt (a := 999) (show v ≤ 999 by omega) (by omega) q, fun q => nI_lt (a := 999) (by omega) (by omega)⟩
    by_cases good : ∃ v, v < 1000 ∧ σ 78 11 = nI v
    · obtain ⟨v, hv, e11⟩ := good
      refine Or.inl ⟨nI v, hi, nI_lt (b := 1008) (by omega) (by omega), fun v1 => ?_, fun d s hs => ?_⟩
      · unfold F_LTx_readsSum_2_b
        rw [e11, if_neg (m1_ne v (by omega)), if_neg (show ¬ (999 : Int32) < nI v from nI_nlt (a := 999) (by omega) (by omega))]
        rfl
      · obtain ⟨a, hy⟩ := hs.sy h.1
        rcases sy_num hy.here (v2 := 999) (H := 1000) H (by omega) with ⟨v', hv', -, e', q⟩ | ⟨q1, -⟩
        · have : v' = v := nI_inj (by omega) (by omega) (e'.symm.trans e11)
          subst this
          refine ⟨_, ?_, hs.nxt h.1 hi, FR.up (by omega)⟩
          rw [pt d s hs, q, up_up, vS_n s hv]
        · exfalso
          rcases q1 with q1 | ⟨x, q2, q3, q4⟩
          · rw [e11] at q1
            exact m1_ne v (by omega) q1
          · rw [e11] at q4
            have := nI_inj (by omega) (by omega) q4
            omega
    · refine Or.inr ⟨fun v1 => ?_, fun d s hs => ?_⟩
      · have e11 := (h.1.2.2.2.1 hi).2.2
        unfold numI at e11
        rw [if_pos cd] at e11
        have : ∃ x, 1000 ≤ x ∧ x < 5000 ∧ σ 78 11 = nI x := by
          by_cases c3 : 3 < stF b n (posI b n i) - posI b n i
          · rw [if_pos c3] at e11
            exact ⟨1000, by omega, by omega, e11⟩
          · rw [if_neg c3] at e11
            refine ⟨_, Nat.not_lt.mp fun q => good ⟨_, q, e11⟩, ?_, e11⟩
            have hs := (stF_is (b := b) hp).1
            have es : stF b n (posI b n i) = dgE b n (posI b n i) := by
              have cl : ltr (b (posI b n i)) = false := by
                unfold dgt at cd
                have := of_decide_eq_true cd
                exact decide_eq_false (by omega)
              unfold stF dgE
              rw [cl, if_neg (by decide), if_pos cd, show n - posI b n i = (n - (posI b n i + 1)) + 1 by omega, rn_s, if_pos cd]
            have hv := vF_lt (b := b) (p := posI b n i) (k := stF b n (posI b n i) - posI b n i) (fun u hu => (rn_is (c := dgt) (b := b) (n - posI b n i) (posI b n i)).2.2.2 _ (by omega) (by rw [es] at hu; unfold dgE at hu; omega))
            have h3 : 10 ^ (stF b n (posI b n i) - posI b n i) ≤ 10 ^ 3 := Nat.pow_le_pow_right (by decide) (by omega)
            omega
        obtain ⟨x, x1, x2, x3⟩ := this
        unfold F_LTx_readsSum_2_b
        rw [x3, if_neg (m1_ne x (by omega)), if_pos (show (999 : Int32) < nI x from nI_lt (a := 999) (by omega) (by omega)), hin, chk_t, ek, kPart σ k hk, k28, if_pos (by decide)]
        exact ref0
      · obtain ⟨a, hy⟩ := hs.sy h.1
        rcases sy_num hy.here (v2 := 999) (H := 1000) H (by omega) with ⟨v', hv', -, e', q⟩ | ⟨-, a', v, ha, q⟩
        · exact absurd ⟨v', hv', e'⟩ good
        · have f2 : FR s (up (up (up s 333 11 (nI (posI b n i))) 333 11 (nI a')) 333 12 (nI (posI b n i))) := ((FR.up (by omega)).trans (FR.up (by omega))).trans (FR.up (by omega))
          refine ⟨_, v, (pt d s hs).trans q, hs.flt p1 (a := a') (by omega) f2 (by rw [up_d (by omega), up_s]) up_s, f2⟩
  · -- no number
    have e11 : σ 78 11 = -1 := by
      by_cases hi : i < T
      · have e11 := (h.1.2.2.2.1 hi).2.2
        unfold numI at e11
        rw [if_neg (fun q => cd ⟨hi, q⟩)] at e11
        exact e11
      · exact (h.1.2.2.2.2 (by have := h.1.1.2.2.2.2; omega)).2.2
    have pt : ∀ d s, SN b n T i d s → F_M_part s = PCh (up s 333 11 (nI (posI b n i))) := fun d s hs => by
      obtain ⟨a, hy⟩ := hs.sy h.1
      have hz := hy.here
      unfold F_M_part
      rw [hy.2.2.2, if_pos rfl, sy_skip hy, ob_s, hz.2.1.2.2.1, hz.2.1.2.2.2.1]
      by_cases hi : i < T
      · have hp := p2.mpr hi
        have hb := h.1.1.1.2.2.2 _ hp
        have cd' : dgt (b (posI b n i)) = false := by
          cases q : dgt (b (posI b n i)) with
          | false => rfl
          | true => exact absurd ⟨hi, q⟩ cd
        rw [if_pos (nI_lt hp (by omega)), hz.2.1.letter hp, ob_s, m_isD hb, cd', if_pos (by decide)]
        rfl
      · rw [if_neg (nI_nlt (Nat.not_lt.mp fun q => hi (p2.mp q)) (by omega))]
        rfl
    by_cases ck : 16 ≤ k ∧ k ≤ 21
    · obtain ⟨j, rfl⟩ : ∃ j, k = 16 + j := ⟨k - 16, by omega⟩
      have hi : i < T := h.1.lt (v := 16 + j) (by omega) ek
      refine Or.inl ⟨nI (1000 + j), hi, nI_lt (b := 1008) (by omega) (by omega), fun v1 => ?_, fun d s hs => ?_⟩
      · unfold F_LTx_readsSum_2_b
        rw [if_pos e11, hin, chk_t, ek, kPart σ _ hk, if_pos ck, if_neg (show ¬ (1 : Int32) = 0 by decide), kCode_f j (by omega)]
        rfl
      · rcases m_pch hs h.1 hk ek with ⟨j', hj', e', q⟩ | ⟨q1, -⟩
        · obtain rfl : j' = j := by omega
          refine ⟨_, ?_, hs.nxt h.1 hi, FR.up (by omega)⟩
          rw [pt d s hs, q, vS_f s _ hj']
        · omega
    · refine Or.inr ⟨fun v1 => ?_, fun d s hs => ?_⟩
      · unfold F_LTx_readsSum_2_b
        rw [if_pos e11, hin, chk_t, ek, kPart σ k hk, if_neg ck, if_pos rfl]
        exact ref0
      · rcases m_pch hs h.1 hk ek with ⟨j', hj', e', q⟩ | ⟨-, q⟩
        · omega
        · have f2 : FR s (up (up s 333 11 (nI (posI b n i))) 333 12 (nI (posI b n i))) := (FR.up (by omega)).trans (FR.up (by omega))
          exact ⟨_, 0, (pt d s hs).trans q, hs.flt p1 (a := posI b n i) (by omega) f2 (by rw [up_d (by omega), up_s]) up_s, f2⟩
end LPT

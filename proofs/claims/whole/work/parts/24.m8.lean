section PART
variable {p : Program} {l : Launch} {e : Env} {R : Room} {s : State} {m : MethodId} {args : Array Value} {below : List Frame} {meth : Method} {c : Code} {Γ : Gm} {D : va_G} {s0 : State} {cells slots : Nat} {Q : State → Prop} {own : String} {cc : ByteArray} {nL : Nat} {σ : Mem} {pc : Nat} {lv : List (Option Value)} {st : List Value} {Pst : Option Value → Mem → Prop}
def F_M_pairsUp_2_b (rc : Mem → Int32 → Option (Mem)) (σ : Mem) (v1 : Int32) (v2 : Int32) : Option ((Int32) ⊕ (Int32)) := (if v2 < (σ 334 3) then chk (inb v2 8) <| (if (σ 342 v2.toNatClampNeg) = (-1) then some (.inr v2) else bindT (v2 + 1) fun x4 => some (.inl x4)) else some (.inr v2))
def F_M_pairsUp_109_b (rc : Mem → Int32 → Option (Mem)) (v1 : Int32) (v2 : Int32) (v3 : Int32) (σ : Mem) : Option ((Int32 × Mem) ⊕ (Int32 × Mem)) := (if v3 < (σ 334 3) then chk (inb v3 8) <| (if (σ 342 v3.toNatClampNeg) = (-1) then chk (inb v2 8) <| bindT (up σ 342 v2.toNatClampNeg v3) fun σ13 => chk (inb v3 8) <| bindT (up σ13 342 v3.toNatClampNeg v2) fun σ15 => obind (rc σ15 v1) fun z16 => chk (inb v3 8) <| bindT (up z16 342 v3.toNatClampNeg ((-1))) fun σ18 => bindT (v3 + 1) fun x19 => some (.inl ((x19, σ18))) else bindT (v3 + 1) fun x20 => some (.inl ((x20, σ)))) else some (.inr ((v3, σ))))
def F_M_pairsUp_48_b (rc : Mem → Int32 → Option (Mem)) (v1 : Int32) (v2 : Int32) (v3 : Int32) (σ : Mem) : Option ((Mem) ⊕ (Mem)) := (if (σ 333 21) = 0 then chk (inb v3 8) <| chk (inb v3 8) <| bindT (up σ 343 v3.toNatClampNeg ((σ 342 v3.toNatClampNeg))) fun σ37 => some (.inl σ37) else some (.inr σ))
def F_M_pairsUp_g (rc : Mem → Int32 → Option (Mem)) (σ : Mem) (v1 : Int32) : Option (Mem) := obind (whl (fun s => F_M_pairsUp_2_b rc σ v1 s) FUEL 0) fun z5 => (if z5 = (σ 334 3) then obind (F_M_isSteady σ) fun z31 => (if z31 = 0 then some σ else obind (omap mrg (forGO (fun i s => F_M_pairsUp_48_b rc v1 z5 i s) (cnt 0 z5) 0 σ)) fun z39 => bindT (up z39 333 21 (((z39 333 21) + 1))) fun σ40 => some σ40) else (if v1 = 0 then bindT ((z5 + 1)) fun x8 => obind (whl (fun s => F_M_pairsUp_109_b rc v1 z5 s.1 s.2) FUEL (x8, σ)) fun z21 => chk (inb z5 8) <| bindT (up z21.2 342 z5.toNatClampNeg ((-1))) fun σ23 => some σ23 else chk (inb z5 8) <| bindT (up σ 342 z5.toNatClampNeg z5) fun σ25 => obind (rc σ25 0) fun z26 => bindT ((z5 + 1)) fun x27 => obind (whl (fun s => F_M_pairsUp_109_b rc v1 z5 s.1 s.2) FUEL (x27, z26)) fun z28 => chk (inb z5 8) <| bindT (up z28.2 342 z5.toNatClampNeg ((-1))) fun σ30 => some σ30))
def F_M_pairsUp_d : Nat → Mem → Int32 → Option (Mem)
  | 0 => fun _ _ => none
  | d + 1 => F_M_pairsUp_g (F_M_pairsUp_d d)
def F_M_pairsUp (σ : Mem) (v1 : Int32) : Option (Mem) := F_M_pairsUp_g (F_M_pairsUp_d 10) σ v1
set_option maxRecDepth 20000 in
set_option maxHeartbeats 4000000 in
theorem L_M_pairsUp_2 {fr lo : Nat} (X : Cx p l s m args meth c Γ D s0 RX12 cX12_pairsUp 4) (hr : meth.sig.returnType = none) (rc : Mem → Int32 → Option (Mem)) (σ : Mem) (v1 : Int32) (hrc : ∀ (σ : Mem) (v1 : Int32)  {out : Mem}, rc σ v1 = some out → CT l Γ D s0 yX12_pairsUp cX12_pairsUp 4 none fr 0 0 lo σ [.ref (Γ.1 + 333), .int v1] (PI none out)) : ∀ (n : Nat) (v2 : Int32) {z : Int32}, whl (fun s => F_M_pairsUp_2_b rc σ v1 s) n v2 = some z → (E p l e ({ frames := fr + 3, cells := 0, slots := 0, locals := lo + 66 } : Room) s m args below meth c Γ D 0 0 (MQ below (QcA Γ D Pst) args s 0 0 (frB Γ)) σ 28 [some (.ref (Γ.1 + 333)), some (.int v1), some (.int z), none] []) → E p l e ({ frames := fr + 3, cells := 0, slots := 0, locals := lo + 66 } : Room) s m args below meth c Γ D 0 0 (MQ below (QcA Γ D Pst) args s 0 0 (frB Γ)) σ 2 [some (.ref (Γ.1 + 333)), some (.int v1), some (.int v2), none] [] := by
  intro n
  induction n with
  | zero =>
    intro v2 z hF hK
    cases hF
  | succ n ih =>
    intro v2 z hF hK
    obtain ⟨y9, hB, hF⟩ := whl_step hF
    change F_M_pairsUp_2_b rc σ v1 v2 = some y9 at hB
    unfold F_M_pairsUp_2_b at hB
    refine e_iload_n X dX12_pairsUp_2 rfl rfl ?_
    refine e_aload_n X dX12_pairsUp_3 rfl rfl ?_
    refine ge_M_m X wf_X12_7 dX12_pairsUp_4 ?_
    refine e_iconst X 3 dX12_pairsUp_7 rfl ?_
    refine e_iald X (j := 3) rfl rfl (vp_in_iff.mpr (by decide)) rfl dX12_pairsUp_8 ?_
    refine e_icmp_ge X 28 dX12_pairsUp_9 (by decide) (fun c1 => ?_) (fun c1 => ?_)
    · skip
      rw [if_neg c1] at hB
      have hy9 := Option.some.inj hB; change (.inr v2) = y9 at hy9; subst hy9
      have hz9 := Option.some.inj hF; change (v2) = z at hz9; subst hz9
      exact e_le hK (And.intro rfl (And.intro rfl (And.intro rfl (trivial))))
    · skip
      rw [if_pos c1] at hB
      refine e_aload_n X dX12_pairsUp_12 rfl rfl ?_
      refine ge_M_by X wf_X12_38 dX12_pairsUp_13 ?_
      refine e_iload_n X dX12_pairsUp_16 rfl rfl ?_
      obtain ⟨c2, hB⟩ := chk_out hB
      refine e_iald X (j := v2.toNatClampNeg) rfl rfl (inb_in c2) rfl dX12_pairsUp_17 ?_
      refine e_iconst X (-1) dX12_pairsUp_18 rfl ?_
      refine e_icmp_eq X 28 dX12_pairsUp_19 (by decide) (fun c3 => ?_) (fun c3 => ?_)
      · skip
        rw [if_pos c3] at hB
        have hy9 := Option.some.inj hB; change (.inr v2) = y9 at hy9; subst hy9
        have hz9 := Option.some.inj hF; change (v2) = z at hz9; subst hz9
        exact e_le hK (And.intro rfl (And.intro rfl (And.intro rfl (trivial))))
      · skip
        rw [if_neg c3] at hB
        refine e_iinc X 1 dX12_pairsUp_22 rfl rfl (by decide) ?_
        obtain ⟨x4, h_x4, hB⟩ := bindT_out hB
        rw [← h_x4]
        refine e_goto X 2 dX12_pairsUp_25 (by decide) ?_
        have hy9 := Option.some.inj hB; change (.inl x4) = y9 at hy9; subst hy9
        exact e_le (ih x4 hF hK) (And.intro rfl (And.intro rfl (And.intro rfl (trivial))))
set_option maxRecDepth 20000 in
set_option maxHeartbeats 4000000 in
theorem L_M_pairsUp_109 {fr lo : Nat} (X : Cx p l s m args meth c Γ D s0 RX12 cX12_pairsUp 4) (hr : meth.sig.returnType = none) (rc : Mem → Int32 → Option (Mem)) (v1 : Int32) (v2 : Int32) (hrc : ∀ (σ : Mem) (v1 : Int32)  {out : Mem}, rc σ v1 = some out → CT l Γ D s0 yX12_pairsUp cX12_pairsUp 4 none fr 0 0 lo σ [.ref (Γ.1 + 333), .int v1] (PI none out)) : ∀ (n : Nat) (v3 : Int32) (σ : Mem) {z : Int32 × Mem}, whl (fun s => F_M_pairsUp_109_b rc v1 v2 s.1 s.2) n (v3, σ) = some z → (E p l e ({ frames := fr + 3, cells := 0, slots := 0, locals := lo + 66 } : Room) s m args below meth c Γ D 0 0 (MQ below (QcA Γ D Pst) args s 0 0 (frB Γ)) z.2 164 [some (.ref (Γ.1 + 333)), some (.int v1), some (.int v2), some (.int z.1)] []) → E p l e ({ frames := fr + 3, cells := 0, slots := 0, locals := lo + 66 } : Room) s m args below meth c Γ D 0 0 (MQ below (QcA Γ D Pst) args s 0 0 (frB Γ)) σ 109 [some (.ref (Γ.1 + 333)), some (.int v1), some (.int v2), some (.int v3)] [] := by
  intro n
  induction n with
  | zero =>
    intro v3 σ z hF hK
    cases hF
  | succ n ih =>
    intro v3 σ z hF hK
    obtain ⟨y9, hB, hF⟩ := whl_step hF
    change F_M_pairsUp_109_b rc v1 v2 v3 σ = some y9 at hB
    unfold F_M_pairsUp_109_b at hB
    refine e_iload_n X dX12_pairsUp_109 rfl rfl ?_
    refine e_aload_n X dX12_pairsUp_110 rfl rfl ?_
    refine ge_M_m X wf_X12_7 dX12_pairsUp_111 ?_
    refine e_iconst X 3 dX12_pairsUp_114 rfl ?_
    refine e_iald X (j := 3) rfl rfl (vp_in_iff.mpr (by decide)) rfl dX12_pairsUp_115 ?_
    refine e_icmp_ge X 164 dX12_pairsUp_116 (by decide) (fun c9 => ?_) (fun c9 => ?_)
    · skip
      rw [if_neg c9] at hB
      have hy9 := Option.some.inj hB; change (.inr ((v3, σ))) = y9 at hy9; subst hy9
      have hz9 := Option.some.inj hF; change ((v3, σ)) = z at hz9; subst hz9
      exact e_le hK (And.intro rfl (And.intro rfl (And.intro rfl (And.intro rfl (trivial)))))
    · skip
      rw [if_pos c9] at hB
      refine e_aload_n X dX12_pairsUp_119 rfl rfl ?_
      refine ge_M_by X wf_X12_38 dX12_pairsUp_120 ?_
      refine e_iload_n X dX12_pairsUp_123 rfl rfl ?_
      obtain ⟨c10, hB⟩ := chk_out hB
      refine e_iald X (j := v3.toNatClampNeg) rfl rfl (inb_in c10) rfl dX12_pairsUp_124 ?_
      refine e_iconst X (-1) dX12_pairsUp_125 rfl ?_
      refine e_icmp_eq X 132 dX12_pairsUp_126 (by decide) (fun c11 => ?_) (fun c11 => ?_)
      · skip
        rw [if_pos c11] at hB
        refine e_aload_n X dX12_pairsUp_132 rfl rfl ?_
        refine ge_M_by X wf_X12_38 dX12_pairsUp_133 ?_
        refine e_iload_n X dX12_pairsUp_136 rfl rfl ?_
        refine e_iload_n X dX12_pairsUp_137 rfl rfl ?_
        obtain ⟨c12, hB⟩ := chk_out hB
        obtain ⟨σ13, h_σ13, hB⟩ := bindT_out hB
        refine e_iast X (j := v2.toNatClampNeg) rfl rfl (inb_in c12) rfl dX12_pairsUp_138 h_σ13 ?_
        refine e_aload_n X dX12_pairsUp_139 rfl rfl ?_
        refine ge_M_by X wf_X12_38 dX12_pairsUp_140 ?_
        refine e_iload_n X dX12_pairsUp_143 rfl rfl ?_
        refine e_iload_n X dX12_pairsUp_144 rfl rfl ?_
        obtain ⟨c14, hB⟩ := chk_out hB
        obtain ⟨σ15, h_σ15, hB⟩ := bindT_out hB
        refine e_iast X (j := v3.toNatClampNeg) rfl rfl (inb_in c14) rfl dX12_pairsUp_145 h_σ15 ?_
        refine e_aload_n X dX12_pairsUp_146 rfl rfl ?_
        refine e_iload_n X dX12_pairsUp_147 rfl rfl ?_
        obtain ⟨z16, h_z16, hB⟩ := obind_out hB
        refine e_callVv X (σ1 := z16) [.int v1] [] (hrc σ15 v1 h_z16) gv_X12_354 yk_X12_pairsUp rfl (ent_lt (rfl : entTbl[333]? = some (13, 0))) (ent_at (rfl : entTbl[333]? = some (13, 0)) _) (rfl : vCl[11]? = some (RX12, TX12, 24)) ⟨by dsimp only; omega, by dsimp only; omega⟩ ⟨Nat.le_of_ble_eq_true rfl, Nat.le_of_ble_eq_true rfl⟩ (Nat.le_of_ble_eq_true rfl) dX12_pairsUp_148 rfl ?_
        refine e_aload_n X dX12_pairsUp_151 rfl rfl ?_
        refine ge_M_by X wf_X12_38 dX12_pairsUp_152 ?_
        refine e_iload_n X dX12_pairsUp_155 rfl rfl ?_
        refine e_iconst X (-1) dX12_pairsUp_156 rfl ?_
        obtain ⟨c17, hB⟩ := chk_out hB
        obtain ⟨σ18, h_σ18, hB⟩ := bindT_out hB
        refine e_iast X (j := v3.toNatClampNeg) rfl rfl (inb_in c17) rfl dX12_pairsUp_157 h_σ18 ?_
        refine e_iinc X 1 dX12_pairsUp_158 rfl rfl (by decide) ?_
        obtain ⟨x19, h_x19, hB⟩ := bindT_out hB
        rw [← h_x19]
        refine e_goto X 109 dX12_pairsUp_161 (by decide) ?_
        have hy9 := Option.some.inj hB; change (.inl ((x19, σ18))) = y9 at hy9; subst hy9
        exact e_le (ih x19 σ18 hF hK) (And.intro rfl (And.intro rfl (And.intro rfl (And.intro rfl (trivial)))))
      · skip
        rw [if_neg c11] at hB
        refine e_goto X 158 dX12_pairsUp_129 (by decide) ?_
        refine e_iinc X 1 dX12_pairsUp_158 rfl rfl (by decide) ?_
        obtain ⟨x20, h_x20, hB⟩ := bindT_out hB
        rw [← h_x20]
        refine e_goto X 109 dX12_pairsUp_161 (by decide) ?_
        have hy9 := Option.some.inj hB; change (.inl ((x20, σ))) = y9 at hy9; subst hy9
        exact e_le (ih x20 σ hF hK) (And.intro rfl (And.intro rfl (And.intro rfl (And.intro rfl (trivial)))))
set_option maxRecDepth 20000 in
set_option maxHeartbeats 4000000 in
theorem L_M_pairsUp_48 {fr lo : Nat} (X : Cx p l s m args meth c Γ D s0 RX12 cX12_pairsUp 4) (hr : meth.sig.returnType = none) (rc : Mem → Int32 → Option (Mem)) (v1 : Int32) (v2 : Int32) (hrc : ∀ (σ : Mem) (v1 : Int32)  {out : Mem}, rc σ v1 = some out → CT l Γ D s0 yX12_pairsUp cX12_pairsUp 4 none fr 0 0 lo σ [.ref (Γ.1 + 333), .int v1] (PI none out)) : ∀ (n : Nat) (v3 : Int32) (σ : Mem) {z : Mem}, omap mrg (forGO (fun i s => F_M_pairsUp_48_b rc v1 v2 i s) n v3 σ) = some z → n = cnt v3 v2 → ¬ v3 < 0 → (E p l e ({ frames := fr + 3, cells := 0, slots := 0, locals := lo + 66 } : Room) s m args below meth c Γ D 0 0 (MQ below (QcA Γ D Pst) args s 0 0 (frB Γ)) z 78 [some (.ref (Γ.1 + 333)), some (.int v1), some (.int v2), none] []) → E p l e ({ frames := fr + 3, cells := 0, slots := 0, locals := lo + 66 } : Room) s m args below meth c Γ D 0 0 (MQ below (QcA Γ D Pst) args s 0 0 (frB Γ)) σ 48 [some (.ref (Γ.1 + 333)), some (.int v1), some (.int v2), some (.int v3)] [] := by
  intro n
  induction n with
  | zero =>
    intro v3 σ z hF hn h0 hK
    refine e_iload_n X dX12_pairsUp_48 rfl rfl ?_
    refine e_iload_n X dX12_pairsUp_49 rfl rfl ?_
    refine e_icmp_ge X 78 dX12_pairsUp_50 (by decide) (fun c38 => ?_) (fun c38 => ?_)
    · skip
      have hz9 := Option.some.inj hF; change (σ) = z at hz9; subst hz9
      exact e_le hK (And.intro rfl (And.intro rfl (And.intro rfl (trivial))))
    · skip
      exact absurd c38 (cnt0 hn)
  | succ n ih =>
    intro v3 σ z hF hn h0 hK
    obtain ⟨y9, hB, hF⟩ := forBO_step hF
    change F_M_pairsUp_48_b rc v1 v2 v3 σ = some y9 at hB
    unfold F_M_pairsUp_48_b at hB
    refine e_iload_n X dX12_pairsUp_48 rfl rfl ?_
    refine e_iload_n X dX12_pairsUp_49 rfl rfl ?_
    refine e_icmp_ge X 78 dX12_pairsUp_50 (by decide) (fun c33 => ?_) (fun c33 => ?_)
    · skip
      exact absurd (cntS hn) c33
    · skip
      refine e_aload_n X dX12_pairsUp_53 rfl rfl ?_
      refine ge_M_ways X wf_X12_351 dX12_pairsUp_54 ?_
      refine e_if_ne X 78 dX12_pairsUp_57 (by decide) (fun c34 => ?_) (fun c34 => ?_)
      · skip
        rw [if_neg c34] at hB
        have hy9 := Option.some.inj hB; change (.inr σ) = y9 at hy9; subst hy9
        have hz9 := Option.some.inj hF; change (σ) = z at hz9; subst hz9
        exact e_le hK (And.intro rfl (And.intro rfl (And.intro rfl (trivial))))
      · skip
        rw [if_pos c34] at hB
        refine e_aload_n X dX12_pairsUp_60 rfl rfl ?_
        refine ge_M_first X wf_X12_41 dX12_pairsUp_61 ?_
        refine e_iload_n X dX12_pairsUp_64 rfl rfl ?_
        refine e_aload_n X dX12_pairsUp_65 rfl rfl ?_
        refine ge_M_by X wf_X12_38 dX12_pairsUp_66 ?_
        refine e_iload_n X dX12_pairsUp_69 rfl rfl ?_
        obtain ⟨c35, hB⟩ := chk_out hB
        refine e_iald X (j := v3.toNatClampNeg) rfl rfl (inb_in c35) rfl dX12_pairsUp_70 ?_
        obtain ⟨c36, hB⟩ := chk_out hB
        obtain ⟨σ37, h_σ37, hB⟩ := bindT_out hB
        refine e_iast X (j := v3.toNatClampNeg) rfl rfl (inb_in c36) rfl dX12_pairsUp_71 h_σ37 ?_
        refine e_iinc X 1 dX12_pairsUp_72 rfl rfl (by decide) ?_
        refine e_goto X 48 dX12_pairsUp_75 (by decide) ?_
        have hy9 := Option.some.inj hB; change (.inl σ37) = y9 at hy9; subst hy9
        exact e_le (ih _ σ37 hF (cntN hn) (nnN h0 (cnt_hi hn)) hK) (And.intro rfl (And.intro rfl (And.intro rfl (And.intro rfl (trivial)))))
set_option maxRecDepth 20000 in
set_option maxHeartbeats 4000000 in
theorem C_M_pairsUp_g (hG : Gok l Γ D s0) {fr lo : Nat} (rc : Mem → Int32 → Option (Mem)) (hrc : ∀ (σ : Mem) (v1 : Int32)  {out : Mem}, rc σ v1 = some out → CT l Γ D s0 yX12_pairsUp cX12_pairsUp 4 none fr 0 0 lo σ [.ref (Γ.1 + 333), .int v1] (PI none out)) (σ : Mem) (v1 : Int32)  {out : Mem} (hF : F_M_pairsUp_g rc σ v1 = some out) : CT l Γ D s0 yX12_pairsUp cX12_pairsUp 4 none (fr + 3) 0 0 (lo + 66) σ [.ref (Γ.1 + 333), .int v1] (PI none out) := by
  unfold F_M_pairsUp_g at hF
  refine e_met (own := RX12) hG (by decide +kernel) rfl rfl (Nat.le_of_ble_eq_true rfl) ?_
  intro p e s m args below meth c X hr
  show E p l e _ s m args below meth c Γ D 0 0 _ σ 0 [some (.ref (Γ.1 + 333)), some (.int v1), none, none] []
  refine e_iconst X 0 dX12_pairsUp_0 rfl ?_
  refine e_istore_n X rfl dX12_pairsUp_1 rfl (by decide) ?_
  obtain ⟨z5, h_z5, hF⟩ := obind_out hF
  refine e_le (L_M_pairsUp_2 X hr rc σ v1 hrc _ 0 h_z5 ?_) (And.intro rfl (And.intro rfl (And.intro rfl (trivial))))
  refine e_iload_n X dX12_pairsUp_28 rfl rfl ?_
  refine e_aload_n X dX12_pairsUp_29 rfl rfl ?_
  refine ge_M_m X wf_X12_7 dX12_pairsUp_30 ?_
  refine e_iconst X 3 dX12_pairsUp_33 rfl ?_
  refine e_iald X (j := 3) rfl rfl (vp_in_iff.mpr (by decide)) rfl dX12_pairsUp_34 ?_
  refine e_icmp_ne X 89 dX12_pairsUp_35 (by decide) (fun c6 => ?_) (fun c6 => ?_)
  · skip
    rw [if_neg c6] at hF
    refine e_iload_n X dX12_pairsUp_89 rfl rfl ?_
    refine e_if_eq X 105 dX12_pairsUp_90 (by decide) (fun c7 => ?_) (fun c7 => ?_)
    · skip
      rw [if_pos c7] at hF
      refine e_iload_n X dX12_pairsUp_105 rfl rfl ?_
      refine e_iconst X 1 dX12_pairsUp_106 rfl ?_
      refine e_iadd X dX12_pairsUp_107 ?_
      obtain ⟨x8, h_x8, hF⟩ := bindT_out hF
      refine e_istore_n X h_x8 dX12_pairsUp_108 rfl (by decide) ?_
      obtain ⟨z21, h_z21, hF⟩ := obind_out hF
      refine e_le (L_M_pairsUp_109 X hr rc v1 z5 hrc _ x8 σ h_z21 ?_) (And.intro rfl (And.intro rfl (And.intro rfl (And.intro rfl (trivial)))))
      refine e_aload_n X dX12_pairsUp_164 rfl rfl ?_
      refine ge_M_by X wf_X12_38 dX12_pairsUp_165 ?_
      refine e_iload_n X dX12_pairsUp_168 rfl rfl ?_
      refine e_iconst X (-1) dX12_pairsUp_169 rfl ?_
      obtain ⟨c22, hF⟩ := chk_out hF
      obtain ⟨σ23, h_σ23, hF⟩ := bindT_out hF
      refine e_iast X (j := z5.toNatClampNeg) rfl rfl (inb_in c22) rfl dX12_pairsUp_170 h_σ23 ?_
      exact e_vret X hr dX12_pairsUp_171 (Nat.le_of_ble_eq_true rfl) (Nat.le_of_ble_eq_true rfl) (by cases hF; exact ⟨rfl, rfl⟩)
    · skip
      rw [if_neg c7] at hF
      refine e_aload_n X dX12_pairsUp_93 rfl rfl ?_
      refine ge_M_by X wf_X12_38 dX12_pairsUp_94 ?_
      refine e_iload_n X dX12_pairsUp_97 rfl rfl ?_
      refine e_iload_n X dX12_pairsUp_98 rfl rfl ?_
      obtain ⟨c24, hF⟩ := chk_out hF
      obtain ⟨σ25, h_σ25, hF⟩ := bindT_out hF
      refine e_iast X (j := z5.toNatClampNeg) rfl rfl (inb_in c24) rfl dX12_pairsUp_99 h_σ25 ?_
      refine e_aload_n X dX12_pairsUp_100 rfl rfl ?_
      refine e_iconst X 0 dX12_pairsUp_101 rfl ?_
      obtain ⟨z26, h_z26, hF⟩ := obind_out hF
      refine e_callVv X (σ1 := z26) [.int 0] [] (hrc σ25 0 h_z26) gv_X12_354 yk_X12_pairsUp rfl (ent_lt (rfl : entTbl[333]? = some (13, 0))) (ent_at (rfl : entTbl[333]? = some (13, 0)) _) (rfl : vCl[11]? = some (RX12, TX12, 24)) ⟨by dsimp only; omega, by dsimp only; omega⟩ ⟨Nat.le_of_ble_eq_true rfl, Nat.le_of_ble_eq_true rfl⟩ (Nat.le_of_ble_eq_true rfl) dX12_pairsUp_102 rfl ?_
      refine e_iload_n X dX12_pairsUp_105 rfl rfl ?_
      refine e_iconst X 1 dX12_pairsUp_106 rfl ?_
      refine e_iadd X dX12_pairsUp_107 ?_
      obtain ⟨x27, h_x27, hF⟩ := bindT_out hF
      refine e_istore_n X h_x27 dX12_pairsUp_108 rfl (by decide) ?_
      obtain ⟨z28, h_z28, hF⟩ := obind_out hF
      refine e_le (L_M_pairsUp_109 X hr rc v1 z5 hrc _ x27 z26 h_z28 ?_) (And.intro rfl (And.intro rfl (And.intro rfl (And.intro rfl (trivial)))))
      refine e_aload_n X dX12_pairsUp_164 rfl rfl ?_
      refine ge_M_by X wf_X12_38 dX12_pairsUp_165 ?_
      refine e_iload_n X dX12_pairsUp_168 rfl rfl ?_
      refine e_iconst X (-1) dX12_pairsUp_169 rfl ?_
      obtain ⟨c29, hF⟩ := chk_out hF
      obtain ⟨σ30, h_σ30, hF⟩ := bindT_out hF
      refine e_iast X (j := z5.toNatClampNeg) rfl rfl (inb_in c29) rfl dX12_pairsUp_170 h_σ30 ?_
      exact e_vret X hr dX12_pairsUp_171 (Nat.le_of_ble_eq_true rfl) (Nat.le_of_ble_eq_true rfl) (by cases hF; exact ⟨rfl, rfl⟩)
  · skip
    rw [if_pos c6] at hF
    refine e_aload_n X dX12_pairsUp_38 rfl rfl ?_
    obtain ⟨z31, h_z31, hF⟩ := obind_out hF
    refine e_callVi X (r := z31) (σ1 := σ) [] [] (C_M_isSteady (Cx_gok X) σ h_z31) gv_X12_348 yk_X12_isSteady rfl (ent_lt (rfl : entTbl[333]? = some (13, 0))) (ent_at (rfl : entTbl[333]? = some (13, 0)) _) (rfl : vCl[11]? = some (RX12, TX12, 24)) ⟨by dsimp only; omega, by dsimp only; omega⟩ ⟨Nat.le_of_ble_eq_true rfl, Nat.le_of_ble_eq_true rfl⟩ (Nat.le_of_ble_eq_true rfl) dX12_pairsUp_39 rfl ?_
    refine e_if_ne X 46 dX12_pairsUp_42 (by decide) (fun c32 => ?_) (fun c32 => ?_)
    · skip
      rw [if_neg c32] at hF
      refine e_iconst X 0 dX12_pairsUp_46 rfl ?_
      refine e_istore_n X rfl dX12_pairsUp_47 rfl (by decide) ?_
      obtain ⟨z39, h_z39, hF⟩ := obind_out hF
      refine e_le (L_M_pairsUp_48 X hr rc v1 z5 hrc _ 0 σ h_z39 rfl (by decide) ?_) (And.intro rfl (And.intro rfl (And.intro rfl (And.intro rfl (trivial)))))
      refine e_aload_n X dX12_pairsUp_78 rfl rfl ?_
      refine e_dup X dX12_pairsUp_79 rfl ?_
      refine ge_M_ways X wf_X12_351 dX12_pairsUp_80 ?_
      refine e_iconst X 1 dX12_pairsUp_83 rfl ?_
      refine e_iadd X dX12_pairsUp_84 ?_
      obtain ⟨σ40, h_σ40, hF⟩ := bindT_out hF
      refine pu_M_ways X wf_X12_351 dX12_pairsUp_85 h_σ40 ?_
      exact e_vret X hr dX12_pairsUp_88 (Nat.le_of_ble_eq_true rfl) (Nat.le_of_ble_eq_true rfl) (by cases hF; exact ⟨rfl, rfl⟩)
    · skip
      rw [if_pos c32] at hF
      exact e_vret X hr dX12_pairsUp_45 (Nat.le_of_ble_eq_true rfl) (Nat.le_of_ble_eq_true rfl) (by cases hF; exact ⟨rfl, rfl⟩)
theorem C_M_pairsUp_d (hG : Gok l Γ D s0) : ∀ (d : Nat), ∀ (σ : Mem) (v1 : Int32)  {out : Mem}, F_M_pairsUp_d d σ v1 = some out → CT l Γ D s0 yX12_pairsUp cX12_pairsUp 4 none (3 * d) 0 0 (66 * d) σ [.ref (Γ.1 + 333), .int v1] (PI none out)
  | 0 => fun _ _ _ h => by cases h
  | d + 1 => fun σ v1 _ h => C_M_pairsUp_g hG (F_M_pairsUp_d d) (C_M_pairsUp_d hG d) σ v1 h
theorem C_M_pairsUp (hG : Gok l Γ D s0) (σ : Mem) (v1 : Int32)  {out : Mem} (hF : F_M_pairsUp σ v1 = some out) : CT l Γ D s0 yX12_pairsUp cX12_pairsUp 4 none 33 0 0 726 σ [.ref (Γ.1 + 333), .int v1] (PI none out) := by
  have h9 := C_M_pairsUp_g hG (F_M_pairsUp_d 10) (C_M_pairsUp_d hG 10) σ v1 hF
  exact h9
end PART

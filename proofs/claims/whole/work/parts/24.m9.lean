section PART
variable {p : Program} {l : Launch} {e : Env} {R : Room} {s : State} {m : MethodId} {args : Array Value} {below : List Frame} {meth : Method} {c : Code} {Γ : Gm} {D : va_G} {s0 : State} {cells slots : Nat} {Q : State → Prop} {own : String} {cc : ByteArray} {nL : Nat} {σ : Mem} {pc : Nat} {lv : List (Option Value)} {st : List Value} {Pst : Option Value → Mem → Prop}
def F_M_steady_33_b (v1 : Int32) (v2 : Int32) (σ : Mem) : Option (Mem) := bindT (up σ 342 v2.toNatClampNeg ((-1))) fun σ5 => some (σ5)
def F_M_steady (σ : Mem) (v1 : Int32) : Option (Mem × Int32) := (if v1 = (-1) then bindT (up σ 333 0 0) fun σ2 => (if 0 < (σ2 333 0) then some ((σ2, 0)) else obind (forSO (fun i s => F_M_steady_33_b v1 i s) (cnt 0 8) 0 σ2) fun z7 => bindT (up z7 333 21 0) fun σ8 => (if ((σ8 334 3) - (σ8 334 3) / 2 * 2) = 1 then obind (F_M_pairsUp σ8 1) fun z14 => (if v1 = (-1) then some ((z14, (z14 333 21))) else (if (z14 333 21) = 0 then some ((z14, (-1))) else chk (inb v1 8) <| some ((z14, (z14 343 v1.toNatClampNeg))))) else obind (F_M_pairsUp σ8 0) fun z10 => (if v1 = (-1) then some ((z10, (z10 333 21))) else (if (z10 333 21) = 0 then some ((z10, (-1))) else chk (inb v1 8) <| some ((z10, (z10 343 v1.toNatClampNeg))))))) else obind (F_M_isPerson σ v1) fun z18 => (if z18 = 0 then bindT (up σ 333 0 1) fun σ33 => (if 0 < (σ33 333 0) then some ((σ33, 0)) else obind (forSO (fun i s => F_M_steady_33_b v1 i s) (cnt 0 8) 0 σ33) fun z35 => bindT (up z35 333 21 0) fun σ36 => (if ((σ36 334 3) - (σ36 334 3) / 2 * 2) = 1 then obind (F_M_pairsUp σ36 1) fun z42 => (if v1 = (-1) then some ((z42, (z42 333 21))) else (if (z42 333 21) = 0 then some ((z42, (-1))) else chk (inb v1 8) <| some ((z42, (z42 343 v1.toNatClampNeg))))) else obind (F_M_pairsUp σ36 0) fun z38 => (if v1 = (-1) then some ((z38, (z38 333 21))) else (if (z38 333 21) = 0 then some ((z38, (-1))) else chk (inb v1 8) <| some ((z38, (z38 343 v1.toNatClampNeg))))))) else bindT (up σ 333 0 0) fun σ20 => (if 0 < (σ20 333 0) then some ((σ20, 0)) else obind (forSO (fun i s => F_M_steady_33_b v1 i s) (cnt 0 8) 0 σ20) fun z22 => bindT (up z22 333 21 0) fun σ23 => (if ((σ23 334 3) - (σ23 334 3) / 2 * 2) = 1 then obind (F_M_pairsUp σ23 1) fun z29 => (if v1 = (-1) then some ((z29, (z29 333 21))) else (if (z29 333 21) = 0 then some ((z29, (-1))) else chk (inb v1 8) <| some ((z29, (z29 343 v1.toNatClampNeg))))) else obind (F_M_pairsUp σ23 0) fun z25 => (if v1 = (-1) then some ((z25, (z25 333 21))) else (if (z25 333 21) = 0 then some ((z25, (-1))) else chk (inb v1 8) <| some ((z25, (z25 343 v1.toNatClampNeg)))))))))
set_option maxRecDepth 20000 in
set_option maxHeartbeats 4000000 in
theorem L_M_steady_33 (X : Cx p l s m args meth c Γ D s0 RX12 cX12_steady 3) (hr : meth.sig.returnType = (some .int)) (v1 : Int32)  : ∀ (n : Nat) (v2 : Int32) (σ : Mem) {z : Mem}, forSO (fun i s => F_M_steady_33_b v1 i s) n v2 σ = some z → n = cnt v2 8 → ¬ v2 < 0 → (E p l e ({ frames := 34, cells := 0, slots := 0, locals := 749 } : Room) s m args below meth c Γ D 0 0 (MQ below (QcA Γ D Pst) args s 0 0 (frB Γ)) z 52 [some (.ref (Γ.1 + 333)), some (.int v1), none] []) → E p l e ({ frames := 34, cells := 0, slots := 0, locals := 749 } : Room) s m args below meth c Γ D 0 0 (MQ below (QcA Γ D Pst) args s 0 0 (frB Γ)) σ 33 [some (.ref (Γ.1 + 333)), some (.int v1), some (.int v2)] [] := by
  intro n
  induction n with
  | zero =>
    intro v2 σ z hF hn h0 hK
    refine e_iload_n X dX12_steady_33 rfl rfl ?_
    refine e_bipush X 8 dX12_steady_34 rfl ?_
    refine e_icmp_ge X 52 dX12_steady_36 (by decide) (fun c6 => ?_) (fun c6 => ?_)
    · skip
      have hz9 := Option.some.inj hF; change (σ) = z at hz9; subst hz9
      exact e_le hK (And.intro rfl (And.intro rfl (trivial)))
    · skip
      exact absurd c6 (cnt0 hn)
  | succ n ih =>
    intro v2 σ z hF hn h0 hK
    obtain ⟨y9, hB, hF⟩ := forSO_step hF
    change F_M_steady_33_b v1 v2 σ = some y9 at hB
    unfold F_M_steady_33_b at hB
    refine e_iload_n X dX12_steady_33 rfl rfl ?_
    refine e_bipush X 8 dX12_steady_34 rfl ?_
    refine e_icmp_ge X 52 dX12_steady_36 (by decide) (fun c4 => ?_) (fun c4 => ?_)
    · skip
      exact absurd (cntS hn) c4
    · skip
      refine e_aload_n X dX12_steady_39 rfl rfl ?_
      refine ge_M_by X wf_X12_38 dX12_steady_40 ?_
      refine e_iload_n X dX12_steady_43 rfl rfl ?_
      refine e_iconst X (-1) dX12_steady_44 rfl ?_
      obtain ⟨σ5, h_σ5, hB⟩ := bindT_out hB
      refine e_iast X (j := v2.toNatClampNeg) rfl rfl (vp_gc (by decide) h0 c4) rfl dX12_steady_45 h_σ5 ?_
      refine e_iinc X 1 dX12_steady_46 rfl rfl (by decide) ?_
      refine e_goto X 33 dX12_steady_49 (by decide) ?_
      have hy9 := Option.some.inj hB; change (σ5) = y9 at hy9; subst hy9
      exact e_le (ih _ σ5 hF (cntN hn) (nnN h0 (cnt_hi hn)) hK) (And.intro rfl (And.intro rfl (And.intro rfl (trivial))))
set_option maxRecDepth 20000 in
set_option maxHeartbeats 4000000 in
theorem C_M_steady (hG : Gok l Γ D s0) (σ : Mem) (v1 : Int32)  {out : Mem × Int32} (hF : F_M_steady σ v1 = some out) : CT l Γ D s0 yX12_steady cX12_steady 3 (some .int) (34) 0 0 (749) σ [.ref (Γ.1 + 333), .int v1] (PI (some (.int out.2)) out.1) := by
  unfold F_M_steady at hF
  refine e_met (own := RX12) hG (by decide +kernel) rfl rfl (Nat.le_of_ble_eq_true rfl) ?_
  intro p e s m args below meth c X hr
  show E p l e _ s m args below meth c Γ D 0 0 _ σ 0 [some (.ref (Γ.1 + 333)), some (.int v1), none] []
  refine e_aload_n X dX12_steady_0 rfl rfl ?_
  refine e_iload_n X dX12_steady_1 rfl rfl ?_
  refine e_iconst X (-1) dX12_steady_2 rfl ?_
  refine e_icmp_eq X 18 dX12_steady_3 (by decide) (fun c1 => ?_) (fun c1 => ?_)
  · skip
    rw [if_pos c1] at hF
    refine e_iconst X 0 dX12_steady_18 rfl ?_
    obtain ⟨σ2, h_σ2, hF⟩ := bindT_out hF
    refine pu_M_thrown X wf_X12_51 dX12_steady_19 h_σ2 ?_
    refine e_aload_n X dX12_steady_22 rfl rfl ?_
    refine ge_M_thrown X wf_X12_51 dX12_steady_23 ?_
    refine e_if_le X 31 dX12_steady_26 (by decide) (fun c3 => ?_) (fun c3 => ?_)
    · skip
      rw [if_neg c3] at hF
      refine e_iconst X 0 dX12_steady_31 rfl ?_
      refine e_istore_n X rfl dX12_steady_32 rfl (by decide) ?_
      obtain ⟨z7, h_z7, hF⟩ := obind_out hF
      refine e_le (L_M_steady_33 X hr v1 _ 0 σ2 h_z7 rfl (by decide) ?_) (And.intro rfl (And.intro rfl (And.intro rfl (trivial))))
      refine e_aload_n X dX12_steady_52 rfl rfl ?_
      refine e_iconst X 0 dX12_steady_53 rfl ?_
      obtain ⟨σ8, h_σ8, hF⟩ := bindT_out hF
      refine pu_M_ways X wf_X12_351 dX12_steady_54 h_σ8 ?_
      refine e_aload_n X dX12_steady_57 rfl rfl ?_
      refine e_aload_n X dX12_steady_58 rfl rfl ?_
      refine ge_M_m X wf_X12_7 dX12_steady_59 ?_
      refine e_iconst X 3 dX12_steady_62 rfl ?_
      refine e_iald X (j := 3) rfl rfl (vp_in_iff.mpr (by decide)) rfl dX12_steady_63 ?_
      refine e_iconst X 2 dX12_steady_64 rfl ?_
      refine e_irem X dX12_steady_65 (by decide) ?_
      refine e_iconst X 1 dX12_steady_66 rfl ?_
      refine e_icmp_ne X 74 dX12_steady_67 (by decide) (fun c9 => ?_) (fun c9 => ?_)
      · skip
        rw [if_neg c9] at hF
        refine e_iconst X 0 dX12_steady_74 rfl ?_
        obtain ⟨z10, h_z10, hF⟩ := obind_out hF
        refine e_callVv X (σ1 := z10) [.int 0] [] (C_M_pairsUp (Cx_gok X) σ8 0 h_z10) gv_X12_354 yk_X12_pairsUp rfl (ent_lt (rfl : entTbl[333]? = some (13, 0))) (ent_at (rfl : entTbl[333]? = some (13, 0)) _) (rfl : vCl[11]? = some (RX12, TX12, 24)) ⟨Nat.le_of_ble_eq_true rfl, Nat.le_of_ble_eq_true rfl⟩ ⟨Nat.le_of_ble_eq_true rfl, Nat.le_of_ble_eq_true rfl⟩ (Nat.le_of_ble_eq_true rfl) dX12_steady_75 rfl ?_
        refine e_iload_n X dX12_steady_78 rfl rfl ?_
        refine e_iconst X (-1) dX12_steady_79 rfl ?_
        refine e_icmp_ne X 90 dX12_steady_80 (by decide) (fun c11 => ?_) (fun c11 => ?_)
        · skip
          rw [if_neg c11] at hF
          refine e_aload_n X dX12_steady_90 rfl rfl ?_
          refine ge_M_ways X wf_X12_351 dX12_steady_91 ?_
          refine e_if_ne X 101 dX12_steady_94 (by decide) (fun c12 => ?_) (fun c12 => ?_)
          · skip
            rw [if_neg c12] at hF
            refine e_aload_n X dX12_steady_101 rfl rfl ?_
            refine ge_M_first X wf_X12_41 dX12_steady_102 ?_
            refine e_iload_n X dX12_steady_105 rfl rfl ?_
            obtain ⟨c13, hF⟩ := chk_out hF
            refine e_iald X (j := v1.toNatClampNeg) rfl rfl (inb_in c13) rfl dX12_steady_106 ?_
            exact e_iret X hr dX12_steady_107 (Nat.le_of_ble_eq_true rfl) (Nat.le_of_ble_eq_true rfl) (by cases hF; exact ⟨rfl, rfl⟩)
          · skip
            rw [if_pos c12] at hF
            refine e_iconst X (-1) dX12_steady_97 rfl ?_
            refine e_goto X 107 dX12_steady_98 (by decide) ?_
            exact e_iret X hr dX12_steady_107 (Nat.le_of_ble_eq_true rfl) (Nat.le_of_ble_eq_true rfl) (by cases hF; exact ⟨rfl, rfl⟩)
        · skip
          rw [if_pos c11] at hF
          refine e_aload_n X dX12_steady_83 rfl rfl ?_
          refine ge_M_ways X wf_X12_351 dX12_steady_84 ?_
          refine e_goto X 107 dX12_steady_87 (by decide) ?_
          exact e_iret X hr dX12_steady_107 (Nat.le_of_ble_eq_true rfl) (Nat.le_of_ble_eq_true rfl) (by cases hF; exact ⟨rfl, rfl⟩)
      · skip
        rw [if_pos c9] at hF
        refine e_iconst X 1 dX12_steady_70 rfl ?_
        refine e_goto X 75 dX12_steady_71 (by decide) ?_
        obtain ⟨z14, h_z14, hF⟩ := obind_out hF
        refine e_callVv X (σ1 := z14) [.int 1] [] (C_M_pairsUp (Cx_gok X) σ8 1 h_z14) gv_X12_354 yk_X12_pairsUp rfl (ent_lt (rfl : entTbl[333]? = some (13, 0))) (ent_at (rfl : entTbl[333]? = some (13, 0)) _) (rfl : vCl[11]? = some (RX12, TX12, 24)) ⟨Nat.le_of_ble_eq_true rfl, Nat.le_of_ble_eq_true rfl⟩ ⟨Nat.le_of_ble_eq_true rfl, Nat.le_of_ble_eq_true rfl⟩ (Nat.le_of_ble_eq_true rfl) dX12_steady_75 rfl ?_
        refine e_iload_n X dX12_steady_78 rfl rfl ?_
        refine e_iconst X (-1) dX12_steady_79 rfl ?_
        refine e_icmp_ne X 90 dX12_steady_80 (by decide) (fun c15 => ?_) (fun c15 => ?_)
        · skip
          rw [if_neg c15] at hF
          refine e_aload_n X dX12_steady_90 rfl rfl ?_
          refine ge_M_ways X wf_X12_351 dX12_steady_91 ?_
          refine e_if_ne X 101 dX12_steady_94 (by decide) (fun c16 => ?_) (fun c16 => ?_)
          · skip
            rw [if_neg c16] at hF
            refine e_aload_n X dX12_steady_101 rfl rfl ?_
            refine ge_M_first X wf_X12_41 dX12_steady_102 ?_
            refine e_iload_n X dX12_steady_105 rfl rfl ?_
            obtain ⟨c17, hF⟩ := chk_out hF
            refine e_iald X (j := v1.toNatClampNeg) rfl rfl (inb_in c17) rfl dX12_steady_106 ?_
            exact e_iret X hr dX12_steady_107 (Nat.le_of_ble_eq_true rfl) (Nat.le_of_ble_eq_true rfl) (by cases hF; exact ⟨rfl, rfl⟩)
          · skip
            rw [if_pos c16] at hF
            refine e_iconst X (-1) dX12_steady_97 rfl ?_
            refine e_goto X 107 dX12_steady_98 (by decide) ?_
            exact e_iret X hr dX12_steady_107 (Nat.le_of_ble_eq_true rfl) (Nat.le_of_ble_eq_true rfl) (by cases hF; exact ⟨rfl, rfl⟩)
        · skip
          rw [if_pos c15] at hF
          refine e_aload_n X dX12_steady_83 rfl rfl ?_
          refine ge_M_ways X wf_X12_351 dX12_steady_84 ?_
          refine e_goto X 107 dX12_steady_87 (by decide) ?_
          exact e_iret X hr dX12_steady_107 (Nat.le_of_ble_eq_true rfl) (Nat.le_of_ble_eq_true rfl) (by cases hF; exact ⟨rfl, rfl⟩)
    · skip
      rw [if_pos c3] at hF
      refine e_iconst X 0 dX12_steady_29 rfl ?_
      exact e_iret X hr dX12_steady_30 (Nat.le_of_ble_eq_true rfl) (Nat.le_of_ble_eq_true rfl) (by cases hF; exact ⟨rfl, rfl⟩)
  · skip
    rw [if_neg c1] at hF
    refine e_aload_n X dX12_steady_6 rfl rfl ?_
    refine e_iload_n X dX12_steady_7 rfl rfl ?_
    obtain ⟨z18, h_z18, hF⟩ := obind_out hF
    refine e_callVi X (r := z18) (σ1 := σ) [.int v1] [.ref (Γ.1 + 333)] (C_M_isPerson (Cx_gok X) σ v1 h_z18) gv_X12_293 yk_X12_isPerson rfl (ent_lt (rfl : entTbl[333]? = some (13, 0))) (ent_at (rfl : entTbl[333]? = some (13, 0)) _) (rfl : vCl[11]? = some (RX12, TX12, 24)) ⟨Nat.le_of_ble_eq_true rfl, Nat.le_of_ble_eq_true rfl⟩ ⟨Nat.le_of_ble_eq_true rfl, Nat.le_of_ble_eq_true rfl⟩ (Nat.le_of_ble_eq_true rfl) dX12_steady_8 rfl ?_
    refine e_if_ne X 18 dX12_steady_11 (by decide) (fun c19 => ?_) (fun c19 => ?_)
    · skip
      rw [if_neg c19] at hF
      refine e_iconst X 0 dX12_steady_18 rfl ?_
      obtain ⟨σ20, h_σ20, hF⟩ := bindT_out hF
      refine pu_M_thrown X wf_X12_51 dX12_steady_19 h_σ20 ?_
      refine e_aload_n X dX12_steady_22 rfl rfl ?_
      refine ge_M_thrown X wf_X12_51 dX12_steady_23 ?_
      refine e_if_le X 31 dX12_steady_26 (by decide) (fun c21 => ?_) (fun c21 => ?_)
      · skip
        rw [if_neg c21] at hF
        refine e_iconst X 0 dX12_steady_31 rfl ?_
        refine e_istore_n X rfl dX12_steady_32 rfl (by decide) ?_
        obtain ⟨z22, h_z22, hF⟩ := obind_out hF
        refine e_le (L_M_steady_33 X hr v1 _ 0 σ20 h_z22 rfl (by decide) ?_) (And.intro rfl (And.intro rfl (And.intro rfl (trivial))))
        refine e_aload_n X dX12_steady_52 rfl rfl ?_
        refine e_iconst X 0 dX12_steady_53 rfl ?_
        obtain ⟨σ23, h_σ23, hF⟩ := bindT_out hF
        refine pu_M_ways X wf_X12_351 dX12_steady_54 h_σ23 ?_
        refine e_aload_n X dX12_steady_57 rfl rfl ?_
        refine e_aload_n X dX12_steady_58 rfl rfl ?_
        refine ge_M_m X wf_X12_7 dX12_steady_59 ?_
        refine e_iconst X 3 dX12_steady_62 rfl ?_
        refine e_iald X (j := 3) rfl rfl (vp_in_iff.mpr (by decide)) rfl dX12_steady_63 ?_
        refine e_iconst X 2 dX12_steady_64 rfl ?_
        refine e_irem X dX12_steady_65 (by decide) ?_
        refine e_iconst X 1 dX12_steady_66 rfl ?_
        refine e_icmp_ne X 74 dX12_steady_67 (by decide) (fun c24 => ?_) (fun c24 => ?_)
        · skip
          rw [if_neg c24] at hF
          refine e_iconst X 0 dX12_steady_74 rfl ?_
          obtain ⟨z25, h_z25, hF⟩ := obind_out hF
          refine e_callVv X (σ1 := z25) [.int 0] [] (C_M_pairsUp (Cx_gok X) σ23 0 h_z25) gv_X12_354 yk_X12_pairsUp rfl (ent_lt (rfl : entTbl[333]? = some (13, 0))) (ent_at (rfl : entTbl[333]? = some (13, 0)) _) (rfl : vCl[11]? = some (RX12, TX12, 24)) ⟨Nat.le_of_ble_eq_true rfl, Nat.le_of_ble_eq_true rfl⟩ ⟨Nat.le_of_ble_eq_true rfl, Nat.le_of_ble_eq_true rfl⟩ (Nat.le_of_ble_eq_true rfl) dX12_steady_75 rfl ?_
          refine e_iload_n X dX12_steady_78 rfl rfl ?_
          refine e_iconst X (-1) dX12_steady_79 rfl ?_
          refine e_icmp_ne X 90 dX12_steady_80 (by decide) (fun c26 => ?_) (fun c26 => ?_)
          · skip
            rw [if_neg c26] at hF
            refine e_aload_n X dX12_steady_90 rfl rfl ?_
            refine ge_M_ways X wf_X12_351 dX12_steady_91 ?_
            refine e_if_ne X 101 dX12_steady_94 (by decide) (fun c27 => ?_) (fun c27 => ?_)
            · skip
              rw [if_neg c27] at hF
              refine e_aload_n X dX12_steady_101 rfl rfl ?_
              refine ge_M_first X wf_X12_41 dX12_steady_102 ?_
              refine e_iload_n X dX12_steady_105 rfl rfl ?_
              obtain ⟨c28, hF⟩ := chk_out hF
              refine e_iald X (j := v1.toNatClampNeg) rfl rfl (inb_in c28) rfl dX12_steady_106 ?_
              exact e_iret X hr dX12_steady_107 (Nat.le_of_ble_eq_true rfl) (Nat.le_of_ble_eq_true rfl) (by cases hF; exact ⟨rfl, rfl⟩)
            · skip
              rw [if_pos c27] at hF
              refine e_iconst X (-1) dX12_steady_97 rfl ?_
              refine e_goto X 107 dX12_steady_98 (by decide) ?_
              exact e_iret X hr dX12_steady_107 (Nat.le_of_ble_eq_true rfl) (Nat.le_of_ble_eq_true rfl) (by cases hF; exact ⟨rfl, rfl⟩)
          · skip
            rw [if_pos c26] at hF
            refine e_aload_n X dX12_steady_83 rfl rfl ?_
            refine ge_M_ways X wf_X12_351 dX12_steady_84 ?_
            refine e_goto X 107 dX12_steady_87 (by decide) ?_
            exact e_iret X hr dX12_steady_107 (Nat.le_of_ble_eq_true rfl) (Nat.le_of_ble_eq_true rfl) (by cases hF; exact ⟨rfl, rfl⟩)
        · skip
          rw [if_pos c24] at hF
          refine e_iconst X 1 dX12_steady_70 rfl ?_
          refine e_goto X 75 dX12_steady_71 (by decide) ?_
          obtain ⟨z29, h_z29, hF⟩ := obind_out hF
          refine e_callVv X (σ1 := z29) [.int 1] [] (C_M_pairsUp (Cx_gok X) σ23 1 h_z29) gv_X12_354 yk_X12_pairsUp rfl (ent_lt (rfl : entTbl[333]? = some (13, 0))) (ent_at (rfl : entTbl[333]? = some (13, 0)) _) (rfl : vCl[11]? = some (RX12, TX12, 24)) ⟨Nat.le_of_ble_eq_true rfl, Nat.le_of_ble_eq_true rfl⟩ ⟨Nat.le_of_ble_eq_true rfl, Nat.le_of_ble_eq_true rfl⟩ (Nat.le_of_ble_eq_true rfl) dX12_steady_75 rfl ?_
          refine e_iload_n X dX12_steady_78 rfl rfl ?_
          refine e_iconst X (-1) dX12_steady_79 rfl ?_
          refine e_icmp_ne X 90 dX12_steady_80 (by decide) (fun c30 => ?_) (fun c30 => ?_)
          · skip
            rw [if_neg c30] at hF
            refine e_aload_n X dX12_steady_90 rfl rfl ?_
            refine ge_M_ways X wf_X12_351 dX12_steady_91 ?_
            refine e_if_ne X 101 dX12_steady_94 (by decide) (fun c31 => ?_) (fun c31 => ?_)
            · skip
              rw [if_neg c31] at hF
              refine e_aload_n X dX12_steady_101 rfl rfl ?_
              refine ge_M_first X wf_X12_41 dX12_steady_102 ?_
              refine e_iload_n X dX12_steady_105 rfl rfl ?_
              obtain ⟨c32, hF⟩ := chk_out hF
              refine e_iald X (j := v1.toNatClampNeg) rfl rfl (inb_in c32) rfl dX12_steady_106 ?_
              exact e_iret X hr dX12_steady_107 (Nat.le_of_ble_eq_true rfl) (Nat.le_of_ble_eq_true rfl) (by cases hF; exact ⟨rfl, rfl⟩)
            · skip
              rw [if_pos c31] at hF
              refine e_iconst X (-1) dX12_steady_97 rfl ?_
              refine e_goto X 107 dX12_steady_98 (by decide) ?_
              exact e_iret X hr dX12_steady_107 (Nat.le_of_ble_eq_true rfl) (Nat.le_of_ble_eq_true rfl) (by cases hF; exact ⟨rfl, rfl⟩)
          · skip
            rw [if_pos c30] at hF
            refine e_aload_n X dX12_steady_83 rfl rfl ?_
            refine ge_M_ways X wf_X12_351 dX12_steady_84 ?_
            refine e_goto X 107 dX12_steady_87 (by decide) ?_
            exact e_iret X hr dX12_steady_107 (Nat.le_of_ble_eq_true rfl) (Nat.le_of_ble_eq_true rfl) (by cases hF; exact ⟨rfl, rfl⟩)
      · skip
        rw [if_pos c21] at hF
        refine e_iconst X 0 dX12_steady_29 rfl ?_
        exact e_iret X hr dX12_steady_30 (Nat.le_of_ble_eq_true rfl) (Nat.le_of_ble_eq_true rfl) (by cases hF; exact ⟨rfl, rfl⟩)
    · skip
      rw [if_pos c19] at hF
      refine e_iconst X 1 dX12_steady_14 rfl ?_
      refine e_goto X 19 dX12_steady_15 (by decide) ?_
      obtain ⟨σ33, h_σ33, hF⟩ := bindT_out hF
      refine pu_M_thrown X wf_X12_51 dX12_steady_19 h_σ33 ?_
      refine e_aload_n X dX12_steady_22 rfl rfl ?_
      refine ge_M_thrown X wf_X12_51 dX12_steady_23 ?_
      refine e_if_le X 31 dX12_steady_26 (by decide) (fun c34 => ?_) (fun c34 => ?_)
      · skip
        rw [if_neg c34] at hF
        refine e_iconst X 0 dX12_steady_31 rfl ?_
        refine e_istore_n X rfl dX12_steady_32 rfl (by decide) ?_
        obtain ⟨z35, h_z35, hF⟩ := obind_out hF
        refine e_le (L_M_steady_33 X hr v1 _ 0 σ33 h_z35 rfl (by decide) ?_) (And.intro rfl (And.intro rfl (And.intro rfl (trivial))))
        refine e_aload_n X dX12_steady_52 rfl rfl ?_
        refine e_iconst X 0 dX12_steady_53 rfl ?_
        obtain ⟨σ36, h_σ36, hF⟩ := bindT_out hF
        refine pu_M_ways X wf_X12_351 dX12_steady_54 h_σ36 ?_
        refine e_aload_n X dX12_steady_57 rfl rfl ?_
        refine e_aload_n X dX12_steady_58 rfl rfl ?_
        refine ge_M_m X wf_X12_7 dX12_steady_59 ?_
        refine e_iconst X 3 dX12_steady_62 rfl ?_
        refine e_iald X (j := 3) rfl rfl (vp_in_iff.mpr (by decide)) rfl dX12_steady_63 ?_
        refine e_iconst X 2 dX12_steady_64 rfl ?_
        refine e_irem X dX12_steady_65 (by decide) ?_
        refine e_iconst X 1 dX12_steady_66 rfl ?_
        refine e_icmp_ne X 74 dX12_steady_67 (by decide) (fun c37 => ?_) (fun c37 => ?_)
        · skip
          rw [if_neg c37] at hF
          refine e_iconst X 0 dX12_steady_74 rfl ?_
          obtain ⟨z38, h_z38, hF⟩ := obind_out hF
          refine e_callVv X (σ1 := z38) [.int 0] [] (C_M_pairsUp (Cx_gok X) σ36 0 h_z38) gv_X12_354 yk_X12_pairsUp rfl (ent_lt (rfl : entTbl[333]? = some (13, 0))) (ent_at (rfl : entTbl[333]? = some (13, 0)) _) (rfl : vCl[11]? = some (RX12, TX12, 24)) ⟨Nat.le_of_ble_eq_true rfl, Nat.le_of_ble_eq_true rfl⟩ ⟨Nat.le_of_ble_eq_true rfl, Nat.le_of_ble_eq_true rfl⟩ (Nat.le_of_ble_eq_true rfl) dX12_steady_75 rfl ?_
          refine e_iload_n X dX12_steady_78 rfl rfl ?_
          refine e_iconst X (-1) dX12_steady_79 rfl ?_
          refine e_icmp_ne X 90 dX12_steady_80 (by decide) (fun c39 => ?_) (fun c39 => ?_)
          · skip
            rw [if_neg c39] at hF
            refine e_aload_n X dX12_steady_90 rfl rfl ?_
            refine ge_M_ways X wf_X12_351 dX12_steady_91 ?_
            refine e_if_ne X 101 dX12_steady_94 (by decide) (fun c40 => ?_) (fun c40 => ?_)
            · skip
              rw [if_neg c40] at hF
              refine e_aload_n X dX12_steady_101 rfl rfl ?_
              refine ge_M_first X wf_X12_41 dX12_steady_102 ?_
              refine e_iload_n X dX12_steady_105 rfl rfl ?_
              obtain ⟨c41, hF⟩ := chk_out hF
              refine e_iald X (j := v1.toNatClampNeg) rfl rfl (inb_in c41) rfl dX12_steady_106 ?_
              exact e_iret X hr dX12_steady_107 (Nat.le_of_ble_eq_true rfl) (Nat.le_of_ble_eq_true rfl) (by cases hF; exact ⟨rfl, rfl⟩)
            · skip
              rw [if_pos c40] at hF
              refine e_iconst X (-1) dX12_steady_97 rfl ?_
              refine e_goto X 107 dX12_steady_98 (by decide) ?_
              exact e_iret X hr dX12_steady_107 (Nat.le_of_ble_eq_true rfl) (Nat.le_of_ble_eq_true rfl) (by cases hF; exact ⟨rfl, rfl⟩)
          · skip
            rw [if_pos c39] at hF
            refine e_aload_n X dX12_steady_83 rfl rfl ?_
            refine ge_M_ways X wf_X12_351 dX12_steady_84 ?_
            refine e_goto X 107 dX12_steady_87 (by decide) ?_
            exact e_iret X hr dX12_steady_107 (Nat.le_of_ble_eq_true rfl) (Nat.le_of_ble_eq_true rfl) (by cases hF; exact ⟨rfl, rfl⟩)
        · skip
          rw [if_pos c37] at hF
          refine e_iconst X 1 dX12_steady_70 rfl ?_
          refine e_goto X 75 dX12_steady_71 (by decide) ?_
          obtain ⟨z42, h_z42, hF⟩ := obind_out hF
          refine e_callVv X (σ1 := z42) [.int 1] [] (C_M_pairsUp (Cx_gok X) σ36 1 h_z42) gv_X12_354 yk_X12_pairsUp rfl (ent_lt (rfl : entTbl[333]? = some (13, 0))) (ent_at (rfl : entTbl[333]? = some (13, 0)) _) (rfl : vCl[11]? = some (RX12, TX12, 24)) ⟨Nat.le_of_ble_eq_true rfl, Nat.le_of_ble_eq_true rfl⟩ ⟨Nat.le_of_ble_eq_true rfl, Nat.le_of_ble_eq_true rfl⟩ (Nat.le_of_ble_eq_true rfl) dX12_steady_75 rfl ?_
          refine e_iload_n X dX12_steady_78 rfl rfl ?_
          refine e_iconst X (-1) dX12_steady_79 rfl ?_
          refine e_icmp_ne X 90 dX12_steady_80 (by decide) (fun c43 => ?_) (fun c43 => ?_)
          · skip
            rw [if_neg c43] at hF
            refine e_aload_n X dX12_steady_90 rfl rfl ?_
            refine ge_M_ways X wf_X12_351 dX12_steady_91 ?_
            refine e_if_ne X 101 dX12_steady_94 (by decide) (fun c44 => ?_) (fun c44 => ?_)
            · skip
              rw [if_neg c44] at hF
              refine e_aload_n X dX12_steady_101 rfl rfl ?_
              refine ge_M_first X wf_X12_41 dX12_steady_102 ?_
              refine e_iload_n X dX12_steady_105 rfl rfl ?_
              obtain ⟨c45, hF⟩ := chk_out hF
              refine e_iald X (j := v1.toNatClampNeg) rfl rfl (inb_in c45) rfl dX12_steady_106 ?_
              exact e_iret X hr dX12_steady_107 (Nat.le_of_ble_eq_true rfl) (Nat.le_of_ble_eq_true rfl) (by cases hF; exact ⟨rfl, rfl⟩)
            · skip
              rw [if_pos c44] at hF
              refine e_iconst X (-1) dX12_steady_97 rfl ?_
              refine e_goto X 107 dX12_steady_98 (by decide) ?_
              exact e_iret X hr dX12_steady_107 (Nat.le_of_ble_eq_true rfl) (Nat.le_of_ble_eq_true rfl) (by cases hF; exact ⟨rfl, rfl⟩)
          · skip
            rw [if_pos c43] at hF
            refine e_aload_n X dX12_steady_83 rfl rfl ?_
            refine ge_M_ways X wf_X12_351 dX12_steady_84 ?_
            refine e_goto X 107 dX12_steady_87 (by decide) ?_
            exact e_iret X hr dX12_steady_107 (Nat.le_of_ble_eq_true rfl) (Nat.le_of_ble_eq_true rfl) (by cases hF; exact ⟨rfl, rfl⟩)
      · skip
        rw [if_pos c34] at hF
        refine e_iconst X 0 dX12_steady_29 rfl ?_
        exact e_iret X hr dX12_steady_30 (Nat.le_of_ble_eq_true rfl) (Nat.le_of_ble_eq_true rfl) (by cases hF; exact ⟨rfl, rfl⟩)
end PART

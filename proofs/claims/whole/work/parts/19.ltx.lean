section PART
variable {p : Program} {l : Launch} {e : Env} {R : Room} {s : State} {m : MethodId} {args : Array Value} {below : List Frame} {meth : Method} {c : Code} {Γ : Gm} {D : va_G} {s0 : State} {cells slots : Nat} {Q : State → Prop} {own : String} {cc : ByteArray} {nL : Nat} {σ : Mem} {pc : Nat} {lv : List (Option Value)} {st : List Value} {Pst : Option Value → Mem → Prop}
def F_LTx_readsSum_2_b  (v1 : Int32) (σ : Mem) : Option ((Mem) ⊕ (Mem × Int32)) := (if (σ 78 11) = (-1) then chk (inb (σ 78 8) 31) <| (if (F_Law_isPart σ ((kCode ((σ 78 8))))) = 0 then bindT (F_Text_refuse σ 78) fun z18 => some (.inr ((z18.1, (z18.2 &&& 1)))) else bindT (F_Law_addCode σ 85 ((kCode ((σ 78 8))))) fun z7 => (if 0 < v1 then bindT (F_Law_addCode z7 85 1008) fun z13 => obind (F_Text_advance z13 78) fun z14 => chk (inb (z14 78 8) 31) <| (if (z14 78 8) = 27 then obind (F_Text_advance z14 78) fun z17 => some (.inl z17) else some (.inr ((z14, 1)))) else obind (F_Text_advance z7 78) fun z9 => chk (inb (z9 78 8) 31) <| (if (z9 78 8) = 27 then obind (F_Text_advance z9 78) fun z12 => some (.inl z12) else some (.inr ((z9, 1)))))) else (if 999 < (σ 78 11) then chk (inb (σ 78 8) 31) <| (if (F_Law_isPart σ ((kCode ((σ 78 8))))) = 0 then bindT (F_Text_refuse σ 78) fun z35 => some (.inr ((z35.1, (z35.2 &&& 1)))) else bindT (F_Law_addCode σ 85 ((kCode ((σ 78 8))))) fun z24 => (if 0 < v1 then bindT (F_Law_addCode z24 85 1008) fun z30 => obind (F_Text_advance z30 78) fun z31 => chk (inb (z31 78 8) 31) <| (if (z31 78 8) = 27 then obind (F_Text_advance z31 78) fun z34 => some (.inl z34) else some (.inr ((z31, 1)))) else obind (F_Text_advance z24 78) fun z26 => chk (inb (z26 78 8) 31) <| (if (z26 78 8) = 27 then obind (F_Text_advance z26 78) fun z29 => some (.inl z29) else some (.inr ((z26, 1)))))) else bindT (F_Law_addCode σ 85 ((σ 78 11))) fun z38 => (if 0 < v1 then bindT (F_Law_addCode z38 85 1008) fun z44 => obind (F_Text_advance z44 78) fun z45 => chk (inb (z45 78 8) 31) <| (if (z45 78 8) = 27 then obind (F_Text_advance z45 78) fun z48 => some (.inl z48) else some (.inr ((z45, 1)))) else obind (F_Text_advance z38 78) fun z40 => chk (inb (z40 78 8) 31) <| (if (z40 78 8) = 27 then obind (F_Text_advance z40 78) fun z43 => some (.inl z43) else some (.inr ((z40, 1)))))))
def F_LTx_readsSum (σ : Mem)  : Option (Mem × Int32) := obind (forGO (fun i s => F_LTx_readsSum_2_b  i s) (cnt 0 400) 0 σ) fun z50 => sumE z50 (fun s51 => bindT (F_Text_refuse s51 78) fun z53 => some ((z53.1, (z53.2 &&& 1)))) (fun r52 => some r52)
set_option maxRecDepth 20000 in
set_option maxHeartbeats 4000000 in
theorem L_LTx_readsSum_2 (X : Cx p l s m args meth c Γ D s0 RX3 cX3_readsSum 3) (hr : meth.sig.returnType = (some .boolean))   : ∀ (n : Nat) (v1 : Int32) (σ : Mem) {z : (Mem) ⊕ (Mem × Int32)}, forGO (fun i s => F_LTx_readsSum_2_b  i s) n v1 σ = some z → n = cnt v1 400 → ¬ v1 < 0 → (sumP z (fun s9 => E p l e ({ frames := 1, cells := 0, slots := 0, locals := 21 } : Room) s m args below meth c Γ D 0 0 (MQ below (QcA Γ D Pst) args s 0 0 (frB Γ)) s9 120 [some (.ref (Γ.1 + 78)), none, none] []) (fun r9 => Pst (some (.int r9.2)) r9.1)) → E p l e ({ frames := 1, cells := 0, slots := 0, locals := 21 } : Room) s m args below meth c Γ D 0 0 (MQ below (QcA Γ D Pst) args s 0 0 (frB Γ)) σ 2 [some (.ref (Γ.1 + 78)), some (.int v1), none] [] := by
  intro n
  induction n with
  | zero =>
    intro v1 σ z hF hn h0 hK
    refine e_iload_n X dX3_readsSum_2 rfl rfl ?_
    refine e_sipush X 400 dX3_readsSum_3 rfl ?_
    refine e_icmp_ge X 120 dX3_readsSum_6 (by decide) (fun c49 => ?_) (fun c49 => ?_)
    · skip
      have hz9 := Option.some.inj hF; change (.inl σ) = z at hz9; subst hz9
      exact e_le hK (And.intro rfl (trivial))
    · skip
      exact absurd c49 (cnt0 hn)
  | succ n ih =>
    intro v1 σ z hF hn h0 hK
    obtain ⟨y9, hB, hF⟩ := forRO_step hF
    change F_LTx_readsSum_2_b  v1 σ = some y9 at hB
    unfold F_LTx_readsSum_2_b at hB
    refine e_iload_n X dX3_readsSum_2 rfl rfl ?_
    refine e_sipush X 400 dX3_readsSum_3 rfl ?_
    refine e_icmp_ge X 120 dX3_readsSum_6 (by decide) (fun c1 => ?_) (fun c1 => ?_)
    · skip
      exact absurd (cntS hn) c1
    · skip
      refine e_aload_n X dX3_readsSum_9 rfl rfl ?_
      refine ge_LTx_number X wf_X3_105 dX3_readsSum_10 ?_
      refine e_iconst X (-1) dX3_readsSum_13 rfl ?_
      refine e_icmp_eq X 31 dX3_readsSum_14 (by decide) (fun c2 => ?_) (fun c2 => ?_)
      · skip
        rw [if_pos c2] at hB
        refine e_iconst X 0 dX3_readsSum_31 rfl ?_
        refine e_istore_n X rfl dX3_readsSum_32 rfl (by decide) ?_
        refine e_iload_n X dX3_readsSum_33 rfl rfl ?_
        refine e_if_ne X 55 dX3_readsSum_34 (by decide) (fun c3 => ?_) (fun c3 => ?_)
        · skip
          exact absurd c3 (by decide)
        · skip
          refine e_aload_n X dX3_readsSum_37 rfl rfl ?_
          refine ge_LTx_kind X wf_X3_18 dX3_readsSum_38 ?_
          obtain ⟨c4, hB⟩ := chk_out hB
          refine kst_code X c4 wf_X3_92 dX3_readsSum_41 ?_
          refine e_callSOi X (r := (F_Law_isPart σ ((kCode ((σ 78 8)))))) (σ1 := σ) [.int ((kCode ((σ 78 8))))] [] (C_Law_isPart (Cx_gok X) σ ((kCode ((σ 78 8))))) gb_X2_isPart wm_X3_108 ws_X2_isPart wz_X2 yk_X2_isPart.2 rfl ⟨Nat.le_of_ble_eq_true rfl, Nat.le_of_ble_eq_true rfl⟩ ⟨Nat.le_of_ble_eq_true rfl, Nat.le_of_ble_eq_true rfl⟩ (Nat.le_of_ble_eq_true rfl) dX3_readsSum_44 rfl ?_
          refine e_if_ne X 55 dX3_readsSum_47 (by decide) (fun c5 => ?_) (fun c5 => ?_)
          · skip
            rw [if_neg c5] at hB
            refine e_aload_n X dX3_readsSum_55 rfl rfl ?_
            refine ge_LTx_draft X wf_X3_12 dX3_readsSum_56 ?_
            refine e_iload_n X dX3_readsSum_59 rfl rfl ?_
            refine e_if_eq X 70 dX3_readsSum_60 (by decide) (fun c6 => ?_) (fun c6 => ?_)
            · skip
              refine e_aload_n X dX3_readsSum_70 rfl rfl ?_
              refine ge_LTx_kind X wf_X3_18 dX3_readsSum_71 ?_
              refine kst_code X c4 wf_X3_92 dX3_readsSum_74 ?_
              obtain ⟨z7, h_z7, hB⟩ := bindT_out hB
              refine e_callVv X (σ1 := z7) [.int ((kCode ((σ 78 8))))] [] (by rw [h_z7]; exact C_Law_addCode (Cx_gok X) σ 85 ((kCode ((σ 78 8)))) ok_Law_85) gv_X3_62 yk_X2_addCode rfl (ent_lt ok_Law_85.1) (ent_at ok_Law_85.1 _) (rfl : vCl[2]? = some (RX2, TX2, 6)) ⟨Nat.le_of_ble_eq_true rfl, Nat.le_of_ble_eq_true rfl⟩ ⟨Nat.le_of_ble_eq_true rfl, Nat.le_of_ble_eq_true rfl⟩ (Nat.le_of_ble_eq_true rfl) dX3_readsSum_77 rfl ?_
              refine e_iload_n X dX3_readsSum_80 rfl rfl ?_
              refine e_if_le X 94 dX3_readsSum_81 (by decide) (fun c8 => ?_) (fun c8 => ?_)
              · skip
                rw [if_neg c8] at hB
                refine e_aload_n X dX3_readsSum_94 rfl rfl ?_
                obtain ⟨z9, h_z9, hB⟩ := obind_out hB
                refine e_callUv X (σ1 := z9) [] [] (C_Text_advance (Cx_gok X) z7 78 ok_Text_78 h_z9) gu_X3_34_X3 rfl ykx_X7_advance rfl (ent_lt (rfl : entTbl[78]? = some (6, 0))) (ent_at (rfl : entTbl[78]? = some (6, 0)) _) (rfl : vCl[3]? = some (RX3, TX3, 14)) ⟨Nat.le_of_ble_eq_true rfl, Nat.le_of_ble_eq_true rfl⟩ ⟨Nat.le_of_ble_eq_true rfl, Nat.le_of_ble_eq_true rfl⟩ (Nat.le_of_ble_eq_true rfl) dX3_readsSum_95 rfl ?_
                refine e_aload_n X dX3_readsSum_98 rfl rfl ?_
                refine ge_LTx_kind X wf_X3_18 dX3_readsSum_99 ?_
                refine e_kstatic X 27 rfl rfl wf_X3_111 dX3_readsSum_102 ?_
                obtain ⟨c10, hB⟩ := chk_out hB
                refine e_kacmp_eq X 110 c10 rfl dX3_readsSum_105 (by decide) (fun c11 => ?_) (fun c11 => ?_)
                · skip
                  rw [if_pos c11] at hB
                  refine e_aload_n X dX3_readsSum_110 rfl rfl ?_
                  obtain ⟨z12, h_z12, hB⟩ := obind_out hB
                  refine e_callUv X (σ1 := z12) [] [] (C_Text_advance (Cx_gok X) z9 78 ok_Text_78 h_z12) gu_X3_34_X3 rfl ykx_X7_advance rfl (ent_lt (rfl : entTbl[78]? = some (6, 0))) (ent_at (rfl : entTbl[78]? = some (6, 0)) _) (rfl : vCl[3]? = some (RX3, TX3, 14)) ⟨Nat.le_of_ble_eq_true rfl, Nat.le_of_ble_eq_true rfl⟩ ⟨Nat.le_of_ble_eq_true rfl, Nat.le_of_ble_eq_true rfl⟩ (Nat.le_of_ble_eq_true rfl) dX3_readsSum_111 rfl ?_
                  refine e_iinc X 1 dX3_readsSum_114 rfl rfl (by decide) ?_
                  refine e_goto X 2 dX3_readsSum_117 (by decide) ?_
                  have hy9 := Option.some.inj hB; change (.inl z12) = y9 at hy9; subst hy9
                  exact e_le (ih _ z12 hF (cntN hn) (nnN h0 (cnt_hi hn)) hK) (And.intro rfl (And.intro rfl (trivial)))
                · skip
                  rw [if_neg c11] at hB
                  refine e_iconst X 1 dX3_readsSum_108 rfl ?_
                  have hy9 := Option.some.inj hB; change (.inr ((z9, 1))) = y9 at hy9; subst hy9
                  have hz9 := Option.some.inj hF; change (.inr ((z9, 1))) = z at hz9; subst hz9
                  exact e_zret X hr rfl dX3_readsSum_109 (Nat.le_of_ble_eq_true rfl) (Nat.le_of_ble_eq_true rfl) hK
              · skip
                rw [if_pos c8] at hB
                refine e_aload_n X dX3_readsSum_84 rfl rfl ?_
                refine ge_LTx_draft X wf_X3_12 dX3_readsSum_85 ?_
                refine e_sipush X 1008 dX3_readsSum_88 rfl ?_
                obtain ⟨z13, h_z13, hB⟩ := bindT_out hB
                refine e_callVv X (σ1 := z13) [.int 1008] [] (by rw [h_z13]; exact C_Law_addCode (Cx_gok X) z7 85 1008 ok_Law_85) gv_X3_62 yk_X2_addCode rfl (ent_lt ok_Law_85.1) (ent_at ok_Law_85.1 _) (rfl : vCl[2]? = some (RX2, TX2, 6)) ⟨Nat.le_of_ble_eq_true rfl, Nat.le_of_ble_eq_true rfl⟩ ⟨Nat.le_of_ble_eq_true rfl, Nat.le_of_ble_eq_true rfl⟩ (Nat.le_of_ble_eq_true rfl) dX3_readsSum_91 rfl ?_
                refine e_aload_n X dX3_readsSum_94 rfl rfl ?_
                obtain ⟨z14, h_z14, hB⟩ := obind_out hB
                refine e_callUv X (σ1 := z14) [] [] (C_Text_advance (Cx_gok X) z13 78 ok_Text_78 h_z14) gu_X3_34_X3 rfl ykx_X7_advance rfl (ent_lt (rfl : entTbl[78]? = some (6, 0))) (ent_at (rfl : entTbl[78]? = some (6, 0)) _) (rfl : vCl[3]? = some (RX3, TX3, 14)) ⟨Nat.le_of_ble_eq_true rfl, Nat.le_of_ble_eq_true rfl⟩ ⟨Nat.le_of_ble_eq_true rfl, Nat.le_of_ble_eq_true rfl⟩ (Nat.le_of_ble_eq_true rfl) dX3_readsSum_95 rfl ?_
                refine e_aload_n X dX3_readsSum_98 rfl rfl ?_
                refine ge_LTx_kind X wf_X3_18 dX3_readsSum_99 ?_
                refine e_kstatic X 27 rfl rfl wf_X3_111 dX3_readsSum_102 ?_
                obtain ⟨c15, hB⟩ := chk_out hB
                refine e_kacmp_eq X 110 c15 rfl dX3_readsSum_105 (by decide) (fun c16 => ?_) (fun c16 => ?_)
                · skip
                  rw [if_pos c16] at hB
                  refine e_aload_n X dX3_readsSum_110 rfl rfl ?_
                  obtain ⟨z17, h_z17, hB⟩ := obind_out hB
                  refine e_callUv X (σ1 := z17) [] [] (C_Text_advance (Cx_gok X) z14 78 ok_Text_78 h_z17) gu_X3_34_X3 rfl ykx_X7_advance rfl (ent_lt (rfl : entTbl[78]? = some (6, 0))) (ent_at (rfl : entTbl[78]? = some (6, 0)) _) (rfl : vCl[3]? = some (RX3, TX3, 14)) ⟨Nat.le_of_ble_eq_true rfl, Nat.le_of_ble_eq_true rfl⟩ ⟨Nat.le_of_ble_eq_true rfl, Nat.le_of_ble_eq_true rfl⟩ (Nat.le_of_ble_eq_true rfl) dX3_readsSum_111 rfl ?_
                  refine e_iinc X 1 dX3_readsSum_114 rfl rfl (by decide) ?_
                  refine e_goto X 2 dX3_readsSum_117 (by decide) ?_
                  have hy9 := Option.some.inj hB; change (.inl z17) = y9 at hy9; subst hy9
                  exact e_le (ih _ z17 hF (cntN hn) (nnN h0 (cnt_hi hn)) hK) (And.intro rfl (And.intro rfl (trivial)))
                · skip
                  rw [if_neg c16] at hB
                  refine e_iconst X 1 dX3_readsSum_108 rfl ?_
                  have hy9 := Option.some.inj hB; change (.inr ((z14, 1))) = y9 at hy9; subst hy9
                  have hz9 := Option.some.inj hF; change (.inr ((z14, 1))) = z at hz9; subst hz9
                  exact e_zret X hr rfl dX3_readsSum_109 (Nat.le_of_ble_eq_true rfl) (Nat.le_of_ble_eq_true rfl) hK
            · skip
              exact absurd c6 (by decide)
          · skip
            rw [if_pos c5] at hB
            refine e_aload_n X dX3_readsSum_50 rfl rfl ?_
            obtain ⟨z18, h_z18, hB⟩ := bindT_out hB
            refine e_callUi X (r := z18.2) (σ1 := z18.1) [] [] (by rw [h_z18]; exact C_Text_refuse (Cx_gok X) σ 78 ok_Text_78) gu_X3_30_X3 rfl ykx_X7_refuse rfl (ent_lt (rfl : entTbl[78]? = some (6, 0))) (ent_at (rfl : entTbl[78]? = some (6, 0)) _) (rfl : vCl[3]? = some (RX3, TX3, 14)) ⟨Nat.le_of_ble_eq_true rfl, Nat.le_of_ble_eq_true rfl⟩ ⟨Nat.le_of_ble_eq_true rfl, Nat.le_of_ble_eq_true rfl⟩ (Nat.le_of_ble_eq_true rfl) dX3_readsSum_51 rfl ?_
            have hy9 := Option.some.inj hB; change (.inr ((z18.1, (z18.2 &&& 1)))) = y9 at hy9; subst hy9
            have hz9 := Option.some.inj hF; change (.inr ((z18.1, (z18.2 &&& 1)))) = z at hz9; subst hz9
            exact e_zret X hr rfl dX3_readsSum_54 (Nat.le_of_ble_eq_true rfl) (Nat.le_of_ble_eq_true rfl) hK
      · skip
        rw [if_neg c2] at hB
        refine e_aload_n X dX3_readsSum_17 rfl rfl ?_
        refine ge_LTx_number X wf_X3_105 dX3_readsSum_18 ?_
        refine e_sipush X 999 dX3_readsSum_21 rfl ?_
        refine e_icmp_gt X 31 dX3_readsSum_24 (by decide) (fun c19 => ?_) (fun c19 => ?_)
        · skip
          rw [if_pos c19] at hB
          refine e_iconst X 0 dX3_readsSum_31 rfl ?_
          refine e_istore_n X rfl dX3_readsSum_32 rfl (by decide) ?_
          refine e_iload_n X dX3_readsSum_33 rfl rfl ?_
          refine e_if_ne X 55 dX3_readsSum_34 (by decide) (fun c20 => ?_) (fun c20 => ?_)
          · skip
            exact absurd c20 (by decide)
          · skip
            refine e_aload_n X dX3_readsSum_37 rfl rfl ?_
            refine ge_LTx_kind X wf_X3_18 dX3_readsSum_38 ?_
            obtain ⟨c21, hB⟩ := chk_out hB
            refine kst_code X c21 wf_X3_92 dX3_readsSum_41 ?_
            refine e_callSOi X (r := (F_Law_isPart σ ((kCode ((σ 78 8)))))) (σ1 := σ) [.int ((kCode ((σ 78 8))))] [] (C_Law_isPart (Cx_gok X) σ ((kCode ((σ 78 8))))) gb_X2_isPart wm_X3_108 ws_X2_isPart wz_X2 yk_X2_isPart.2 rfl ⟨Nat.le_of_ble_eq_true rfl, Nat.le_of_ble_eq_true rfl⟩ ⟨Nat.le_of_ble_eq_true rfl, Nat.le_of_ble_eq_true rfl⟩ (Nat.le_of_ble_eq_true rfl) dX3_readsSum_44 rfl ?_
            refine e_if_ne X 55 dX3_readsSum_47 (by decide) (fun c22 => ?_) (fun c22 => ?_)
            · skip
              rw [if_neg c22] at hB
              refine e_aload_n X dX3_readsSum_55 rfl rfl ?_
              refine ge_LTx_draft X wf_X3_12 dX3_readsSum_56 ?_
              refine e_iload_n X dX3_readsSum_59 rfl rfl ?_
              refine e_if_eq X 70 dX3_readsSum_60 (by decide) (fun c23 => ?_) (fun c23 => ?_)
              · skip
                refine e_aload_n X dX3_readsSum_70 rfl rfl ?_
                refine ge_LTx_kind X wf_X3_18 dX3_readsSum_71 ?_
                refine kst_code X c21 wf_X3_92 dX3_readsSum_74 ?_
                obtain ⟨z24, h_z24, hB⟩ := bindT_out hB
                refine e_callVv X (σ1 := z24) [.int ((kCode ((σ 78 8))))] [] (by rw [h_z24]; exact C_Law_addCode (Cx_gok X) σ 85 ((kCode ((σ 78 8)))) ok_Law_85) gv_X3_62 yk_X2_addCode rfl (ent_lt ok_Law_85.1) (ent_at ok_Law_85.1 _) (rfl : vCl[2]? = some (RX2, TX2, 6)) ⟨Nat.le_of_ble_eq_true rfl, Nat.le_of_ble_eq_true rfl⟩ ⟨Nat.le_of_ble_eq_true rfl, Nat.le_of_ble_eq_true rfl⟩ (Nat.le_of_ble_eq_true rfl) dX3_readsSum_77 rfl ?_
                refine e_iload_n X dX3_readsSum_80 rfl rfl ?_
                refine e_if_le X 94 dX3_readsSum_81 (by decide) (fun c25 => ?_) (fun c25 => ?_)
                · skip
                  rw [if_neg c25] at hB
                  refine e_aload_n X dX3_readsSum_94 rfl rfl ?_
                  obtain ⟨z26, h_z26, hB⟩ := obind_out hB
                  refine e_callUv X (σ1 := z26) [] [] (C_Text_advance (Cx_gok X) z24 78 ok_Text_78 h_z26) gu_X3_34_X3 rfl ykx_X7_advance rfl (ent_lt (rfl : entTbl[78]? = some (6, 0))) (ent_at (rfl : entTbl[78]? = some (6, 0)) _) (rfl : vCl[3]? = some (RX3, TX3, 14)) ⟨Nat.le_of_ble_eq_true rfl, Nat.le_of_ble_eq_true rfl⟩ ⟨Nat.le_of_ble_eq_true rfl, Nat.le_of_ble_eq_true rfl⟩ (Nat.le_of_ble_eq_true rfl) dX3_readsSum_95 rfl ?_
                  refine e_aload_n X dX3_readsSum_98 rfl rfl ?_
                  refine ge_LTx_kind X wf_X3_18 dX3_readsSum_99 ?_
                  refine e_kstatic X 27 rfl rfl wf_X3_111 dX3_readsSum_102 ?_
                  obtain ⟨c27, hB⟩ := chk_out hB
                  refine e_kacmp_eq X 110 c27 rfl dX3_readsSum_105 (by decide) (fun c28 => ?_) (fun c28 => ?_)
                  · skip
                    rw [if_pos c28] at hB
                    refine e_aload_n X dX3_readsSum_110 rfl rfl ?_
                    obtain ⟨z29, h_z29, hB⟩ := obind_out hB
                    refine e_callUv X (σ1 := z29) [] [] (C_Text_advance (Cx_gok X) z26 78 ok_Text_78 h_z29) gu_X3_34_X3 rfl ykx_X7_advance rfl (ent_lt (rfl : entTbl[78]? = some (6, 0))) (ent_at (rfl : entTbl[78]? = some (6, 0)) _) (rfl : vCl[3]? = some (RX3, TX3, 14)) ⟨Nat.le_of_ble_eq_true rfl, Nat.le_of_ble_eq_true rfl⟩ ⟨Nat.le_of_ble_eq_true rfl, Nat.le_of_ble_eq_true rfl⟩ (Nat.le_of_ble_eq_true rfl) dX3_readsSum_111 rfl ?_
                    refine e_iinc X 1 dX3_readsSum_114 rfl rfl (by decide) ?_
                    refine e_goto X 2 dX3_readsSum_117 (by decide) ?_
                    have hy9 := Option.some.inj hB; change (.inl z29) = y9 at hy9; subst hy9
                    exact e_le (ih _ z29 hF (cntN hn) (nnN h0 (cnt_hi hn)) hK) (And.intro rfl (And.intro rfl (trivial)))
                  · skip
                    rw [if_neg c28] at hB
                    refine e_iconst X 1 dX3_readsSum_108 rfl ?_
                    have hy9 := Option.some.inj hB; change (.inr ((z26, 1))) = y9 at hy9; subst hy9
                    have hz9 := Option.some.inj hF; change (.inr ((z26, 1))) = z at hz9; subst hz9
                    exact e_zret X hr rfl dX3_readsSum_109 (Nat.le_of_ble_eq_true rfl) (Nat.le_of_ble_eq_true rfl) hK
                · skip
                  rw [if_pos c25] at hB
                  refine e_aload_n X dX3_readsSum_84 rfl rfl ?_
                  refine ge_LTx_draft X wf_X3_12 dX3_readsSum_85 ?_
                  refine e_sipush X 1008 dX3_readsSum_88 rfl ?_
                  obtain ⟨z30, h_z30, hB⟩ := bindT_out hB
                  refine e_callVv X (σ1 := z30) [.int 1008] [] (by rw [h_z30]; exact C_Law_addCode (Cx_gok X) z24 85 1008 ok_Law_85) gv_X3_62 yk_X2_addCode rfl (ent_lt ok_Law_85.1) (ent_at ok_Law_85.1 _) (rfl : vCl[2]? = some (RX2, TX2, 6)) ⟨Nat.le_of_ble_eq_true rfl, Nat.le_of_ble_eq_true rfl⟩ ⟨Nat.le_of_ble_eq_true rfl, Nat.le_of_ble_eq_true rfl⟩ (Nat.le_of_ble_eq_true rfl) dX3_readsSum_91 rfl ?_
                  refine e_aload_n X dX3_readsSum_94 rfl rfl ?_
                  obtain ⟨z31, h_z31, hB⟩ := obind_out hB
                  refine e_callUv X (σ1 := z31) [] [] (C_Text_advance (Cx_gok X) z30 78 ok_Text_78 h_z31) gu_X3_34_X3 rfl ykx_X7_advance rfl (ent_lt (rfl : entTbl[78]? = some (6, 0))) (ent_at (rfl : entTbl[78]? = some (6, 0)) _) (rfl : vCl[3]? = some (RX3, TX3, 14)) ⟨Nat.le_of_ble_eq_true rfl, Nat.le_of_ble_eq_true rfl⟩ ⟨Nat.le_of_ble_eq_true rfl, Nat.le_of_ble_eq_true rfl⟩ (Nat.le_of_ble_eq_true rfl) dX3_readsSum_95 rfl ?_
                  refine e_aload_n X dX3_readsSum_98 rfl rfl ?_
                  refine ge_LTx_kind X wf_X3_18 dX3_readsSum_99 ?_
                  refine e_kstatic X 27 rfl rfl wf_X3_111 dX3_readsSum_102 ?_
                  obtain ⟨c32, hB⟩ := chk_out hB
                  refine e_kacmp_eq X 110 c32 rfl dX3_readsSum_105 (by decide) (fun c33 => ?_) (fun c33 => ?_)
                  · skip
                    rw [if_pos c33] at hB
                    refine e_aload_n X dX3_readsSum_110 rfl rfl ?_
                    obtain ⟨z34, h_z34, hB⟩ := obind_out hB
                    refine e_callUv X (σ1 := z34) [] [] (C_Text_advance (Cx_gok X) z31 78 ok_Text_78 h_z34) gu_X3_34_X3 rfl ykx_X7_advance rfl (ent_lt (rfl : entTbl[78]? = some (6, 0))) (ent_at (rfl : entTbl[78]? = some (6, 0)) _) (rfl : vCl[3]? = some (RX3, TX3, 14)) ⟨Nat.le_of_ble_eq_true rfl, Nat.le_of_ble_eq_true rfl⟩ ⟨Nat.le_of_ble_eq_true rfl, Nat.le_of_ble_eq_true rfl⟩ (Nat.le_of_ble_eq_true rfl) dX3_readsSum_111 rfl ?_
                    refine e_iinc X 1 dX3_readsSum_114 rfl rfl (by decide) ?_
                    refine e_goto X 2 dX3_readsSum_117 (by decide) ?_
                    have hy9 := Option.some.inj hB; change (.inl z34) = y9 at hy9; subst hy9
                    exact e_le (ih _ z34 hF (cntN hn) (nnN h0 (cnt_hi hn)) hK) (And.intro rfl (And.intro rfl (trivial)))
                  · skip
                    rw [if_neg c33] at hB
                    refine e_iconst X 1 dX3_readsSum_108 rfl ?_
                    have hy9 := Option.some.inj hB; change (.inr ((z31, 1))) = y9 at hy9; subst hy9
                    have hz9 := Option.some.inj hF; change (.inr ((z31, 1))) = z at hz9; subst hz9
                    exact e_zret X hr rfl dX3_readsSum_109 (Nat.le_of_ble_eq_true rfl) (Nat.le_of_ble_eq_true rfl) hK
              · skip
                exact absurd c23 (by decide)
            · skip
              rw [if_pos c22] at hB
              refine e_aload_n X dX3_readsSum_50 rfl rfl ?_
              obtain ⟨z35, h_z35, hB⟩ := bindT_out hB
              refine e_callUi X (r := z35.2) (σ1 := z35.1) [] [] (by rw [h_z35]; exact C_Text_refuse (Cx_gok X) σ 78 ok_Text_78) gu_X3_30_X3 rfl ykx_X7_refuse rfl (ent_lt (rfl : entTbl[78]? = some (6, 0))) (ent_at (rfl : entTbl[78]? = some (6, 0)) _) (rfl : vCl[3]? = some (RX3, TX3, 14)) ⟨Nat.le_of_ble_eq_true rfl, Nat.le_of_ble_eq_true rfl⟩ ⟨Nat.le_of_ble_eq_true rfl, Nat.le_of_ble_eq_true rfl⟩ (Nat.le_of_ble_eq_true rfl) dX3_readsSum_51 rfl ?_
              have hy9 := Option.some.inj hB; change (.inr ((z35.1, (z35.2 &&& 1)))) = y9 at hy9; subst hy9
              have hz9 := Option.some.inj hF; change (.inr ((z35.1, (z35.2 &&& 1)))) = z at hz9; subst hz9
              exact e_zret X hr rfl dX3_readsSum_54 (Nat.le_of_ble_eq_true rfl) (Nat.le_of_ble_eq_true rfl) hK
        · skip
          rw [if_neg c19] at hB
          refine e_iconst X 1 dX3_readsSum_27 rfl ?_
          refine e_goto X 32 dX3_readsSum_28 (by decide) ?_
          refine e_istore_n X rfl dX3_readsSum_32 rfl (by decide) ?_
          refine e_iload_n X dX3_readsSum_33 rfl rfl ?_
          refine e_if_ne X 55 dX3_readsSum_34 (by decide) (fun c36 => ?_) (fun c36 => ?_)
          · skip
            refine e_aload_n X dX3_readsSum_55 rfl rfl ?_
            refine ge_LTx_draft X wf_X3_12 dX3_readsSum_56 ?_
            refine e_iload_n X dX3_readsSum_59 rfl rfl ?_
            refine e_if_eq X 70 dX3_readsSum_60 (by decide) (fun c37 => ?_) (fun c37 => ?_)
            · skip
              exact absurd c37 (by decide)
            · skip
              refine e_aload_n X dX3_readsSum_63 rfl rfl ?_
              refine ge_LTx_number X wf_X3_105 dX3_readsSum_64 ?_
              refine e_goto X 77 dX3_readsSum_67 (by decide) ?_
              obtain ⟨z38, h_z38, hB⟩ := bindT_out hB
              refine e_callVv X (σ1 := z38) [.int ((σ 78 11))] [] (by rw [h_z38]; exact C_Law_addCode (Cx_gok X) σ 85 ((σ 78 11)) ok_Law_85) gv_X3_62 yk_X2_addCode rfl (ent_lt ok_Law_85.1) (ent_at ok_Law_85.1 _) (rfl : vCl[2]? = some (RX2, TX2, 6)) ⟨Nat.le_of_ble_eq_true rfl, Nat.le_of_ble_eq_true rfl⟩ ⟨Nat.le_of_ble_eq_true rfl, Nat.le_of_ble_eq_true rfl⟩ (Nat.le_of_ble_eq_true rfl) dX3_readsSum_77 rfl ?_
              refine e_iload_n X dX3_readsSum_80 rfl rfl ?_
              refine e_if_le X 94 dX3_readsSum_81 (by decide) (fun c39 => ?_) (fun c39 => ?_)
              · skip
                rw [if_neg c39] at hB
                refine e_aload_n X dX3_readsSum_94 rfl rfl ?_
                obtain ⟨z40, h_z40, hB⟩ := obind_out hB
                refine e_callUv X (σ1 := z40) [] [] (C_Text_advance (Cx_gok X) z38 78 ok_Text_78 h_z40) gu_X3_34_X3 rfl ykx_X7_advance rfl (ent_lt (rfl : entTbl[78]? = some (6, 0))) (ent_at (rfl : entTbl[78]? = some (6, 0)) _) (rfl : vCl[3]? = some (RX3, TX3, 14)) ⟨Nat.le_of_ble_eq_true rfl, Nat.le_of_ble_eq_true rfl⟩ ⟨Nat.le_of_ble_eq_true rfl, Nat.le_of_ble_eq_true rfl⟩ (Nat.le_of_ble_eq_true rfl) dX3_readsSum_95 rfl ?_
                refine e_aload_n X dX3_readsSum_98 rfl rfl ?_
                refine ge_LTx_kind X wf_X3_18 dX3_readsSum_99 ?_
                refine e_kstatic X 27 rfl rfl wf_X3_111 dX3_readsSum_102 ?_
                obtain ⟨c41, hB⟩ := chk_out hB
                refine e_kacmp_eq X 110 c41 rfl dX3_readsSum_105 (by decide) (fun c42 => ?_) (fun c42 => ?_)
                · skip
                  rw [if_pos c42] at hB
                  refine e_aload_n X dX3_readsSum_110 rfl rfl ?_
                  obtain ⟨z43, h_z43, hB⟩ := obind_out hB
                  refine e_callUv X (σ1 := z43) [] [] (C_Text_advance (Cx_gok X) z40 78 ok_Text_78 h_z43) gu_X3_34_X3 rfl ykx_X7_advance rfl (ent_lt (rfl : entTbl[78]? = some (6, 0))) (ent_at (rfl : entTbl[78]? = some (6, 0)) _) (rfl : vCl[3]? = some (RX3, TX3, 14)) ⟨Nat.le_of_ble_eq_true rfl, Nat.le_of_ble_eq_true rfl⟩ ⟨Nat.le_of_ble_eq_true rfl, Nat.le_of_ble_eq_true rfl⟩ (Nat.le_of_ble_eq_true rfl) dX3_readsSum_111 rfl ?_
                  refine e_iinc X 1 dX3_readsSum_114 rfl rfl (by decide) ?_
                  refine e_goto X 2 dX3_readsSum_117 (by decide) ?_
                  have hy9 := Option.some.inj hB; change (.inl z43) = y9 at hy9; subst hy9
                  exact e_le (ih _ z43 hF (cntN hn) (nnN h0 (cnt_hi hn)) hK) (And.intro rfl (And.intro rfl (trivial)))
                · skip
                  rw [if_neg c42] at hB
                  refine e_iconst X 1 dX3_readsSum_108 rfl ?_
                  have hy9 := Option.some.inj hB; change (.inr ((z40, 1))) = y9 at hy9; subst hy9
                  have hz9 := Option.some.inj hF; change (.inr ((z40, 1))) = z at hz9; subst hz9
                  exact e_zret X hr rfl dX3_readsSum_109 (Nat.le_of_ble_eq_true rfl) (Nat.le_of_ble_eq_true rfl) hK
              · skip
                rw [if_pos c39] at hB
                refine e_aload_n X dX3_readsSum_84 rfl rfl ?_
                refine ge_LTx_draft X wf_X3_12 dX3_readsSum_85 ?_
                refine e_sipush X 1008 dX3_readsSum_88 rfl ?_
                obtain ⟨z44, h_z44, hB⟩ := bindT_out hB
                refine e_callVv X (σ1 := z44) [.int 1008] [] (by rw [h_z44]; exact C_Law_addCode (Cx_gok X) z38 85 1008 ok_Law_85) gv_X3_62 yk_X2_addCode rfl (ent_lt ok_Law_85.1) (ent_at ok_Law_85.1 _) (rfl : vCl[2]? = some (RX2, TX2, 6)) ⟨Nat.le_of_ble_eq_true rfl, Nat.le_of_ble_eq_true rfl⟩ ⟨Nat.le_of_ble_eq_true rfl, Nat.le_of_ble_eq_true rfl⟩ (Nat.le_of_ble_eq_true rfl) dX3_readsSum_91 rfl ?_
                refine e_aload_n X dX3_readsSum_94 rfl rfl ?_
                obtain ⟨z45, h_z45, hB⟩ := obind_out hB
                refine e_callUv X (σ1 := z45) [] [] (C_Text_advance (Cx_gok X) z44 78 ok_Text_78 h_z45) gu_X3_34_X3 rfl ykx_X7_advance rfl (ent_lt (rfl : entTbl[78]? = some (6, 0))) (ent_at (rfl : entTbl[78]? = some (6, 0)) _) (rfl : vCl[3]? = some (RX3, TX3, 14)) ⟨Nat.le_of_ble_eq_true rfl, Nat.le_of_ble_eq_true rfl⟩ ⟨Nat.le_of_ble_eq_true rfl, Nat.le_of_ble_eq_true rfl⟩ (Nat.le_of_ble_eq_true rfl) dX3_readsSum_95 rfl ?_
                refine e_aload_n X dX3_readsSum_98 rfl rfl ?_
                refine ge_LTx_kind X wf_X3_18 dX3_readsSum_99 ?_
                refine e_kstatic X 27 rfl rfl wf_X3_111 dX3_readsSum_102 ?_
                obtain ⟨c46, hB⟩ := chk_out hB
                refine e_kacmp_eq X 110 c46 rfl dX3_readsSum_105 (by decide) (fun c47 => ?_) (fun c47 => ?_)
                · skip
                  rw [if_pos c47] at hB
                  refine e_aload_n X dX3_readsSum_110 rfl rfl ?_
                  obtain ⟨z48, h_z48, hB⟩ := obind_out hB
                  refine e_callUv X (σ1 := z48) [] [] (C_Text_advance (Cx_gok X) z45 78 ok_Text_78 h_z48) gu_X3_34_X3 rfl ykx_X7_advance rfl (ent_lt (rfl : entTbl[78]? = some (6, 0))) (ent_at (rfl : entTbl[78]? = some (6, 0)) _) (rfl : vCl[3]? = some (RX3, TX3, 14)) ⟨Nat.le_of_ble_eq_true rfl, Nat.le_of_ble_eq_true rfl⟩ ⟨Nat.le_of_ble_eq_true rfl, Nat.le_of_ble_eq_true rfl⟩ (Nat.le_of_ble_eq_true rfl) dX3_readsSum_111 rfl ?_
                  refine e_iinc X 1 dX3_readsSum_114 rfl rfl (by decide) ?_
                  refine e_goto X 2 dX3_readsSum_117 (by decide) ?_
                  have hy9 := Option.some.inj hB; change (.inl z48) = y9 at hy9; subst hy9
                  exact e_le (ih _ z48 hF (cntN hn) (nnN h0 (cnt_hi hn)) hK) (And.intro rfl (And.intro rfl (trivial)))
                · skip
                  rw [if_neg c47] at hB
                  refine e_iconst X 1 dX3_readsSum_108 rfl ?_
                  have hy9 := Option.some.inj hB; change (.inr ((z45, 1))) = y9 at hy9; subst hy9
                  have hz9 := Option.some.inj hF; change (.inr ((z45, 1))) = z at hz9; subst hz9
                  exact e_zret X hr rfl dX3_readsSum_109 (Nat.le_of_ble_eq_true rfl) (Nat.le_of_ble_eq_true rfl) hK
          · skip
            exact absurd c36 (by decide)
set_option maxRecDepth 20000 in
set_option maxHeartbeats 4000000 in
theorem C_LTx_readsSum (hG : Gok l Γ D s0) (σ : Mem)   {out : Mem × Int32} (hF : F_LTx_readsSum σ = some out) : CT l Γ D s0 yX3_readsSum cX3_readsSum 3 (some .boolean) (1) 0 0 (21) σ [.ref (Γ.1 + 78)] (PI (some (.int out.2)) out.1) := by
  unfold F_LTx_readsSum at hF
  refine e_met (own := RX3) hG (by decide +kernel) rfl rfl (Nat.le_of_ble_eq_true rfl) ?_
  intro p e s m args below meth c X hr
  show E p l e _ s m args below meth c Γ D 0 0 _ σ 0 [some (.ref (Γ.1 + 78)), none, none] []
  refine e_iconst X 0 dX3_readsSum_0 rfl ?_
  refine e_istore_n X rfl dX3_readsSum_1 rfl (by decide) ?_
  obtain ⟨z50, h_z50, hF⟩ := obind_out hF
  refine e_le (L_LTx_readsSum_2 X hr _ 0 σ h_z50 rfl (by decide) ?_) (And.intro rfl (And.intro rfl (trivial)))
  cases z50 with
  | inl s51 =>
    replace hF := hF
    rw [sumE] at hF
    show E p l e _ s m args below meth c Γ D _ _ _ _ _ _ _
    refine e_aload_n X dX3_readsSum_120 rfl rfl ?_
    obtain ⟨z53, h_z53, hF⟩ := bindT_out hF
    refine e_callUi X (r := z53.2) (σ1 := z53.1) [] [] (by rw [h_z53]; exact C_Text_refuse (Cx_gok X) s51 78 ok_Text_78) gu_X3_30_X3 rfl ykx_X7_refuse rfl (ent_lt (rfl : entTbl[78]? = some (6, 0))) (ent_at (rfl : entTbl[78]? = some (6, 0)) _) (rfl : vCl[3]? = some (RX3, TX3, 14)) ⟨Nat.le_of_ble_eq_true rfl, Nat.le_of_ble_eq_true rfl⟩ ⟨Nat.le_of_ble_eq_true rfl, Nat.le_of_ble_eq_true rfl⟩ (Nat.le_of_ble_eq_true rfl) dX3_readsSum_121 rfl ?_
    exact e_zret X hr rfl dX3_readsSum_124 (Nat.le_of_ble_eq_true rfl) (Nat.le_of_ble_eq_true rfl) (by cases hF; exact ⟨rfl, rfl⟩)
  | inr r52 =>
    rw [sumE] at hF
    cases hF
    exact ⟨rfl, rfl⟩
end PART

section PART
variable {p : Program} {l : Launch} {e : Env} {R : Room} {s : State} {m : MethodId} {args : Array Value} {below : List Frame} {meth : Method} {c : Code} {Γ : Gm} {D : va_G} {s0 : State} {cells slots : Nat} {Q : State → Prop} {own : String} {cc : ByteArray} {nL : Nat} {σ : Mem} {pc : Nat} {lv : List (Option Value)} {st : List Value} {Pst : Option Value → Mem → Prop}
def F_LTx_readsLine (σ : Mem)  : Option (Mem × Int32) := chk (inb (σ 78 8) 31) <| (if (σ 78 8) = 8 then obind (F_Text_advance σ 78) fun z18 => obind (F_Text_takeNumber z18 78 30) fun z19 => (if z19.2 = (-1) then some ((z19.1, 0)) else obind (F_Text_takes z19.1 78 10) fun z21 => (if z21.2 = 0 then bindT (F_Law_addLine z21.1 85 z19.2) fun z24 => some ((z24, 1)) else obind (F_LTx_readsEither z21.1 0) fun z25 => (if z25.2 = 0 then some ((z25.1, 0)) else bindT (F_Law_addLine z25.1 85 z19.2) fun z28 => some ((z28, 1))))) else (if (σ 78 8) = 9 then obind (F_Text_advance σ 78) fun z5 => obind (F_Text_takeNumber z5 78 30) fun z6 => (if z6.2 = (-1) then some ((z6.1, 0)) else obind (F_Text_takes z6.1 78 10) fun z8 => (if z8.2 = 0 then bindT (F_Law_addLine z8.1 85 ((-z6.2))) fun z11 => some ((z11, 1)) else obind (F_LTx_readsEither z8.1 0) fun z12 => (if z12.2 = 0 then some ((z12.1, 0)) else bindT (F_Law_addLine z12.1 85 ((-z6.2))) fun z15 => some ((z15, 1))))) else bindT (F_Text_refuse σ 78) fun z16 => some ((z16.1, (z16.2 &&& 1)))))
set_option maxRecDepth 20000 in
set_option maxHeartbeats 4000000 in
theorem C_LTx_readsLine (hG : Gok l Γ D s0) (σ : Mem)   {out : Mem × Int32} (hF : F_LTx_readsLine σ = some out) : CT l Γ D s0 yX3_readsLine cX3_readsLine 3 (some .boolean) (36) 0 0 (765) σ [.ref (Γ.1 + 78)] (PI (some (.int out.2)) out.1) := by
  unfold F_LTx_readsLine at hF
  refine e_met (own := RX3) hG (by decide +kernel) rfl rfl (Nat.le_of_ble_eq_true rfl) ?_
  intro p e s m args below meth c X hr
  show E p l e _ s m args below meth c Γ D 0 0 _ σ 0 [some (.ref (Γ.1 + 78)), none, none] []
  refine e_aload_n X dX3_readsLine_0 rfl rfl ?_
  refine ge_LTx_kind X wf_X3_18 dX3_readsLine_1 ?_
  refine e_kstatic X 8 rfl rfl wf_X3_22 dX3_readsLine_4 ?_
  obtain ⟨c1, hF⟩ := chk_out hF
  refine e_kacmp_ne X 14 c1 rfl dX3_readsLine_7 (by decide) (fun c2 => ?_) (fun c2 => ?_)
  · skip
    rw [if_neg c2] at hF
    refine e_iconst X 0 dX3_readsLine_14 rfl ?_
    refine e_istore_n X rfl dX3_readsLine_15 rfl (by decide) ?_
    refine e_iload_n X dX3_readsLine_16 rfl rfl ?_
    refine e_if_ne X 35 dX3_readsLine_17 (by decide) (fun c3 => ?_) (fun c3 => ?_)
    · skip
      exact absurd c3 (by decide)
    · skip
      refine e_aload_n X dX3_readsLine_20 rfl rfl ?_
      refine ge_LTx_kind X wf_X3_18 dX3_readsLine_21 ?_
      refine e_kstatic X 9 rfl rfl wf_X3_27 dX3_readsLine_24 ?_
      refine e_kacmp_eq X 35 c1 rfl dX3_readsLine_27 (by decide) (fun c4 => ?_) (fun c4 => ?_)
      · skip
        rw [if_pos c4] at hF
        refine e_aload_n X dX3_readsLine_35 rfl rfl ?_
        obtain ⟨z5, h_z5, hF⟩ := obind_out hF
        refine e_callUv X (σ1 := z5) [] [] (C_Text_advance (Cx_gok X) σ 78 ok_Text_78 h_z5) gu_X3_34_X3 rfl ykx_X7_advance rfl (ent_lt (rfl : entTbl[78]? = some (6, 0))) (ent_at (rfl : entTbl[78]? = some (6, 0)) _) (rfl : vCl[3]? = some (RX3, TX3, 14)) ⟨Nat.le_of_ble_eq_true rfl, Nat.le_of_ble_eq_true rfl⟩ ⟨Nat.le_of_ble_eq_true rfl, Nat.le_of_ble_eq_true rfl⟩ (Nat.le_of_ble_eq_true rfl) dX3_readsLine_36 rfl ?_
        refine e_aload_n X dX3_readsLine_39 rfl rfl ?_
        refine e_bipush X 30 dX3_readsLine_40 rfl ?_
        obtain ⟨z6, h_z6, hF⟩ := obind_out hF
        refine e_callUi X (r := z6.2) (σ1 := z6.1) [.int 30] [] (C_Text_takeNumber (Cx_gok X) z5 78 30 ok_Text_78 h_z6) gu_X3_37_X3 rfl ykx_X7_takeNumber rfl (ent_lt (rfl : entTbl[78]? = some (6, 0))) (ent_at (rfl : entTbl[78]? = some (6, 0)) _) (rfl : vCl[3]? = some (RX3, TX3, 14)) ⟨Nat.le_of_ble_eq_true rfl, Nat.le_of_ble_eq_true rfl⟩ ⟨Nat.le_of_ble_eq_true rfl, Nat.le_of_ble_eq_true rfl⟩ (Nat.le_of_ble_eq_true rfl) dX3_readsLine_42 rfl ?_
        refine e_istore_n X rfl dX3_readsLine_45 rfl (by decide) ?_
        refine e_iload_n X dX3_readsLine_46 rfl rfl ?_
        refine e_iconst X (-1) dX3_readsLine_47 rfl ?_
        refine e_icmp_eq X 69 dX3_readsLine_48 (by decide) (fun c7 => ?_) (fun c7 => ?_)
        · skip
          rw [if_pos c7] at hF
          refine e_iconst X 0 dX3_readsLine_69 rfl ?_
          exact e_zret X hr rfl dX3_readsLine_70 (Nat.le_of_ble_eq_true rfl) (Nat.le_of_ble_eq_true rfl) (by cases hF; exact ⟨rfl, rfl⟩)
        · skip
          rw [if_neg c7] at hF
          refine e_aload_n X dX3_readsLine_51 rfl rfl ?_
          refine e_kstatic X 10 rfl rfl wf_X3_41 dX3_readsLine_52 ?_
          obtain ⟨z8, h_z8, hF⟩ := obind_out hF
          refine e_callUi X (r := z8.2) (σ1 := z8.1) [va_rf (kop Γ 10)] [] (C_Text_takes (Cx_gok X) z6.1 78 10 ok_Text_78 h_z8) gu_X3_44_X3 rfl ykx_X7_takes rfl (ent_lt (rfl : entTbl[78]? = some (6, 0))) (ent_at (rfl : entTbl[78]? = some (6, 0)) _) (rfl : vCl[3]? = some (RX3, TX3, 14)) ⟨Nat.le_of_ble_eq_true rfl, Nat.le_of_ble_eq_true rfl⟩ ⟨Nat.le_of_ble_eq_true rfl, Nat.le_of_ble_eq_true rfl⟩ (Nat.le_of_ble_eq_true rfl) dX3_readsLine_55 rfl ?_
          refine e_if_eq X 71 dX3_readsLine_58 (by decide) (fun c9 => ?_) (fun c9 => ?_)
          · skip
            rw [if_pos c9] at hF
            refine e_aload_n X dX3_readsLine_71 rfl rfl ?_
            refine ge_LTx_draft X wf_X3_12 dX3_readsLine_72 ?_
            refine e_iload_n X dX3_readsLine_75 rfl rfl ?_
            refine e_if_eq X 83 dX3_readsLine_76 (by decide) (fun c10 => ?_) (fun c10 => ?_)
            · skip
              refine e_iload_n X dX3_readsLine_83 rfl rfl ?_
              refine e_ineg X dX3_readsLine_84 ?_
              obtain ⟨z11, h_z11, hF⟩ := bindT_out hF
              refine e_callVv X (σ1 := z11) [.int ((-z6.2))] [] (by rw [h_z11]; exact C_Law_addLine (Cx_gok X) z8.1 85 ((-z6.2)) ok_Law_85) gv_X3_52 yk_X2_addLine rfl (ent_lt ok_Law_85.1) (ent_at ok_Law_85.1 _) (rfl : vCl[2]? = some (RX2, TX2, 6)) ⟨Nat.le_of_ble_eq_true rfl, Nat.le_of_ble_eq_true rfl⟩ ⟨Nat.le_of_ble_eq_true rfl, Nat.le_of_ble_eq_true rfl⟩ (Nat.le_of_ble_eq_true rfl) dX3_readsLine_85 rfl ?_
              refine e_iconst X 1 dX3_readsLine_88 rfl ?_
              exact e_zret X hr rfl dX3_readsLine_89 (Nat.le_of_ble_eq_true rfl) (Nat.le_of_ble_eq_true rfl) (by cases hF; exact ⟨rfl, rfl⟩)
            · skip
              exact absurd c10 (by decide)
          · skip
            rw [if_neg c9] at hF
            refine e_aload_n X dX3_readsLine_61 rfl rfl ?_
            refine e_iconst X 0 dX3_readsLine_62 rfl ?_
            obtain ⟨z12, h_z12, hF⟩ := obind_out hF
            refine e_callVi X (r := z12.2) (σ1 := z12.1) [.int 0] [] (C_LTx_readsEither (Cx_gok X) z8.1 0 h_z12) gv_X3_48 yk_X3_readsEither rfl (ent_lt (rfl : entTbl[78]? = some (6, 0))) (ent_at (rfl : entTbl[78]? = some (6, 0)) _) (rfl : vCl[3]? = some (RX3, TX3, 14)) ⟨Nat.le_of_ble_eq_true rfl, Nat.le_of_ble_eq_true rfl⟩ ⟨Nat.le_of_ble_eq_true rfl, Nat.le_of_ble_eq_true rfl⟩ (Nat.le_of_ble_eq_true rfl) dX3_readsLine_63 rfl ?_
            refine e_if_ne X 71 dX3_readsLine_66 (by decide) (fun c13 => ?_) (fun c13 => ?_)
            · skip
              rw [if_neg c13] at hF
              refine e_aload_n X dX3_readsLine_71 rfl rfl ?_
              refine ge_LTx_draft X wf_X3_12 dX3_readsLine_72 ?_
              refine e_iload_n X dX3_readsLine_75 rfl rfl ?_
              refine e_if_eq X 83 dX3_readsLine_76 (by decide) (fun c14 => ?_) (fun c14 => ?_)
              · skip
                refine e_iload_n X dX3_readsLine_83 rfl rfl ?_
                refine e_ineg X dX3_readsLine_84 ?_
                obtain ⟨z15, h_z15, hF⟩ := bindT_out hF
                refine e_callVv X (σ1 := z15) [.int ((-z6.2))] [] (by rw [h_z15]; exact C_Law_addLine (Cx_gok X) z12.1 85 ((-z6.2)) ok_Law_85) gv_X3_52 yk_X2_addLine rfl (ent_lt ok_Law_85.1) (ent_at ok_Law_85.1 _) (rfl : vCl[2]? = some (RX2, TX2, 6)) ⟨Nat.le_of_ble_eq_true rfl, Nat.le_of_ble_eq_true rfl⟩ ⟨Nat.le_of_ble_eq_true rfl, Nat.le_of_ble_eq_true rfl⟩ (Nat.le_of_ble_eq_true rfl) dX3_readsLine_85 rfl ?_
                refine e_iconst X 1 dX3_readsLine_88 rfl ?_
                exact e_zret X hr rfl dX3_readsLine_89 (Nat.le_of_ble_eq_true rfl) (Nat.le_of_ble_eq_true rfl) (by cases hF; exact ⟨rfl, rfl⟩)
              · skip
                exact absurd c14 (by decide)
            · skip
              rw [if_pos c13] at hF
              refine e_iconst X 0 dX3_readsLine_69 rfl ?_
              exact e_zret X hr rfl dX3_readsLine_70 (Nat.le_of_ble_eq_true rfl) (Nat.le_of_ble_eq_true rfl) (by cases hF; exact ⟨rfl, rfl⟩)
      · skip
        rw [if_neg c4] at hF
        refine e_aload_n X dX3_readsLine_30 rfl rfl ?_
        obtain ⟨z16, h_z16, hF⟩ := bindT_out hF
        refine e_callUi X (r := z16.2) (σ1 := z16.1) [] [] (by rw [h_z16]; exact C_Text_refuse (Cx_gok X) σ 78 ok_Text_78) gu_X3_30_X3 rfl ykx_X7_refuse rfl (ent_lt (rfl : entTbl[78]? = some (6, 0))) (ent_at (rfl : entTbl[78]? = some (6, 0)) _) (rfl : vCl[3]? = some (RX3, TX3, 14)) ⟨Nat.le_of_ble_eq_true rfl, Nat.le_of_ble_eq_true rfl⟩ ⟨Nat.le_of_ble_eq_true rfl, Nat.le_of_ble_eq_true rfl⟩ (Nat.le_of_ble_eq_true rfl) dX3_readsLine_31 rfl ?_
        exact e_zret X hr rfl dX3_readsLine_34 (Nat.le_of_ble_eq_true rfl) (Nat.le_of_ble_eq_true rfl) (by cases hF; exact ⟨rfl, rfl⟩)
  · skip
    rw [if_pos c2] at hF
    refine e_iconst X 1 dX3_readsLine_10 rfl ?_
    refine e_goto X 15 dX3_readsLine_11 (by decide) ?_
    refine e_istore_n X rfl dX3_readsLine_15 rfl (by decide) ?_
    refine e_iload_n X dX3_readsLine_16 rfl rfl ?_
    refine e_if_ne X 35 dX3_readsLine_17 (by decide) (fun c17 => ?_) (fun c17 => ?_)
    · skip
      refine e_aload_n X dX3_readsLine_35 rfl rfl ?_
      obtain ⟨z18, h_z18, hF⟩ := obind_out hF
      refine e_callUv X (σ1 := z18) [] [] (C_Text_advance (Cx_gok X) σ 78 ok_Text_78 h_z18) gu_X3_34_X3 rfl ykx_X7_advance rfl (ent_lt (rfl : entTbl[78]? = some (6, 0))) (ent_at (rfl : entTbl[78]? = some (6, 0)) _) (rfl : vCl[3]? = some (RX3, TX3, 14)) ⟨Nat.le_of_ble_eq_true rfl, Nat.le_of_ble_eq_true rfl⟩ ⟨Nat.le_of_ble_eq_true rfl, Nat.le_of_ble_eq_true rfl⟩ (Nat.le_of_ble_eq_true rfl) dX3_readsLine_36 rfl ?_
      refine e_aload_n X dX3_readsLine_39 rfl rfl ?_
      refine e_bipush X 30 dX3_readsLine_40 rfl ?_
      obtain ⟨z19, h_z19, hF⟩ := obind_out hF
      refine e_callUi X (r := z19.2) (σ1 := z19.1) [.int 30] [] (C_Text_takeNumber (Cx_gok X) z18 78 30 ok_Text_78 h_z19) gu_X3_37_X3 rfl ykx_X7_takeNumber rfl (ent_lt (rfl : entTbl[78]? = some (6, 0))) (ent_at (rfl : entTbl[78]? = some (6, 0)) _) (rfl : vCl[3]? = some (RX3, TX3, 14)) ⟨Nat.le_of_ble_eq_true rfl, Nat.le_of_ble_eq_true rfl⟩ ⟨Nat.le_of_ble_eq_true rfl, Nat.le_of_ble_eq_true rfl⟩ (Nat.le_of_ble_eq_true rfl) dX3_readsLine_42 rfl ?_
      refine e_istore_n X rfl dX3_readsLine_45 rfl (by decide) ?_
      refine e_iload_n X dX3_readsLine_46 rfl rfl ?_
      refine e_iconst X (-1) dX3_readsLine_47 rfl ?_
      refine e_icmp_eq X 69 dX3_readsLine_48 (by decide) (fun c20 => ?_) (fun c20 => ?_)
      · skip
        rw [if_pos c20] at hF
        refine e_iconst X 0 dX3_readsLine_69 rfl ?_
        exact e_zret X hr rfl dX3_readsLine_70 (Nat.le_of_ble_eq_true rfl) (Nat.le_of_ble_eq_true rfl) (by cases hF; exact ⟨rfl, rfl⟩)
      · skip
        rw [if_neg c20] at hF
        refine e_aload_n X dX3_readsLine_51 rfl rfl ?_
        refine e_kstatic X 10 rfl rfl wf_X3_41 dX3_readsLine_52 ?_
        obtain ⟨z21, h_z21, hF⟩ := obind_out hF
        refine e_callUi X (r := z21.2) (σ1 := z21.1) [va_rf (kop Γ 10)] [] (C_Text_takes (Cx_gok X) z19.1 78 10 ok_Text_78 h_z21) gu_X3_44_X3 rfl ykx_X7_takes rfl (ent_lt (rfl : entTbl[78]? = some (6, 0))) (ent_at (rfl : entTbl[78]? = some (6, 0)) _) (rfl : vCl[3]? = some (RX3, TX3, 14)) ⟨Nat.le_of_ble_eq_true rfl, Nat.le_of_ble_eq_true rfl⟩ ⟨Nat.le_of_ble_eq_true rfl, Nat.le_of_ble_eq_true rfl⟩ (Nat.le_of_ble_eq_true rfl) dX3_readsLine_55 rfl ?_
        refine e_if_eq X 71 dX3_readsLine_58 (by decide) (fun c22 => ?_) (fun c22 => ?_)
        · skip
          rw [if_pos c22] at hF
          refine e_aload_n X dX3_readsLine_71 rfl rfl ?_
          refine ge_LTx_draft X wf_X3_12 dX3_readsLine_72 ?_
          refine e_iload_n X dX3_readsLine_75 rfl rfl ?_
          refine e_if_eq X 83 dX3_readsLine_76 (by decide) (fun c23 => ?_) (fun c23 => ?_)
          · skip
            exact absurd c23 (by decide)
          · skip
            refine e_iload_n X dX3_readsLine_79 rfl rfl ?_
            refine e_goto X 85 dX3_readsLine_80 (by decide) ?_
            obtain ⟨z24, h_z24, hF⟩ := bindT_out hF
            refine e_callVv X (σ1 := z24) [.int z19.2] [] (by rw [h_z24]; exact C_Law_addLine (Cx_gok X) z21.1 85 z19.2 ok_Law_85) gv_X3_52 yk_X2_addLine rfl (ent_lt ok_Law_85.1) (ent_at ok_Law_85.1 _) (rfl : vCl[2]? = some (RX2, TX2, 6)) ⟨Nat.le_of_ble_eq_true rfl, Nat.le_of_ble_eq_true rfl⟩ ⟨Nat.le_of_ble_eq_true rfl, Nat.le_of_ble_eq_true rfl⟩ (Nat.le_of_ble_eq_true rfl) dX3_readsLine_85 rfl ?_
            refine e_iconst X 1 dX3_readsLine_88 rfl ?_
            exact e_zret X hr rfl dX3_readsLine_89 (Nat.le_of_ble_eq_true rfl) (Nat.le_of_ble_eq_true rfl) (by cases hF; exact ⟨rfl, rfl⟩)
        · skip
          rw [if_neg c22] at hF
          refine e_aload_n X dX3_readsLine_61 rfl rfl ?_
          refine e_iconst X 0 dX3_readsLine_62 rfl ?_
          obtain ⟨z25, h_z25, hF⟩ := obind_out hF
          refine e_callVi X (r := z25.2) (σ1 := z25.1) [.int 0] [] (C_LTx_readsEither (Cx_gok X) z21.1 0 h_z25) gv_X3_48 yk_X3_readsEither rfl (ent_lt (rfl : entTbl[78]? = some (6, 0))) (ent_at (rfl : entTbl[78]? = some (6, 0)) _) (rfl : vCl[3]? = some (RX3, TX3, 14)) ⟨Nat.le_of_ble_eq_true rfl, Nat.le_of_ble_eq_true rfl⟩ ⟨Nat.le_of_ble_eq_true rfl, Nat.le_of_ble_eq_true rfl⟩ (Nat.le_of_ble_eq_true rfl) dX3_readsLine_63 rfl ?_
          refine e_if_ne X 71 dX3_readsLine_66 (by decide) (fun c26 => ?_) (fun c26 => ?_)
          · skip
            rw [if_neg c26] at hF
            refine e_aload_n X dX3_readsLine_71 rfl rfl ?_
            refine ge_LTx_draft X wf_X3_12 dX3_readsLine_72 ?_
            refine e_iload_n X dX3_readsLine_75 rfl rfl ?_
            refine e_if_eq X 83 dX3_readsLine_76 (by decide) (fun c27 => ?_) (fun c27 => ?_)
            · skip
              exact absurd c27 (by decide)
            · skip
              refine e_iload_n X dX3_readsLine_79 rfl rfl ?_
              refine e_goto X 85 dX3_readsLine_80 (by decide) ?_
              obtain ⟨z28, h_z28, hF⟩ := bindT_out hF
              refine e_callVv X (σ1 := z28) [.int z19.2] [] (by rw [h_z28]; exact C_Law_addLine (Cx_gok X) z25.1 85 z19.2 ok_Law_85) gv_X3_52 yk_X2_addLine rfl (ent_lt ok_Law_85.1) (ent_at ok_Law_85.1 _) (rfl : vCl[2]? = some (RX2, TX2, 6)) ⟨Nat.le_of_ble_eq_true rfl, Nat.le_of_ble_eq_true rfl⟩ ⟨Nat.le_of_ble_eq_true rfl, Nat.le_of_ble_eq_true rfl⟩ (Nat.le_of_ble_eq_true rfl) dX3_readsLine_85 rfl ?_
              refine e_iconst X 1 dX3_readsLine_88 rfl ?_
              exact e_zret X hr rfl dX3_readsLine_89 (Nat.le_of_ble_eq_true rfl) (Nat.le_of_ble_eq_true rfl) (by cases hF; exact ⟨rfl, rfl⟩)
          · skip
            rw [if_pos c26] at hF
            refine e_iconst X 0 dX3_readsLine_69 rfl ?_
            exact e_zret X hr rfl dX3_readsLine_70 (Nat.le_of_ble_eq_true rfl) (Nat.le_of_ble_eq_true rfl) (by cases hF; exact ⟨rfl, rfl⟩)
    · skip
      exact absurd c17 (by decide)
end PART

section PART
variable {p : Program} {l : Launch} {e : Env} {R : Room} {s : State} {m : MethodId} {args : Array Value} {below : List Frame} {meth : Method} {c : Code} {Γ : Gm} {D : va_G} {s0 : State} {cells slots : Nat} {Q : State → Prop} {own : String} {cc : ByteArray} {nL : Nat} {σ : Mem} {pc : Nat} {lv : List (Option Value)} {st : List Value} {Pst : Option Value → Mem → Prop}
def F_TTx_takeSomebody (σ : Mem) (v1 : Int32) (v2 : Int32) : Option (Mem × Int32) := bindT ((σ 54 11)) fun x1 => (if (F_Town_hasPerson σ 61 x1) = 0 then bindT (F_Text_refuse σ 54) fun z4 => some ((z4.1, (-1))) else (if x1 = v1 then bindT (F_Text_refuse σ 54) fun z7 => some ((z7.1, (-1))) else (if v2 = 0 then obind (F_Text_advance σ 54) fun z10 => some ((z10, x1)) else (if (F_Town_spouseOf σ 61 x1) = (-1) then obind (F_Text_advance σ 54) fun z15 => some ((z15, x1)) else bindT (F_Text_refuse σ 54) fun z13 => some ((z13.1, (-1)))))))
def F_TTx_readsPerson (σ : Mem)  : Option (Mem × Int32) := (if (σ 61 8) < 8 then obind (F_Text_advance σ 54) fun z2 => obind (F_Text_takeNumber z2 54 999) fun z3 => (if z3.2 = (-1) then some ((z3.1, 0)) else bindT (F_Town_addPerson z3.1 61 z3.2) fun z5 => some ((z5, 1))) else bindT (F_Text_refuse σ 54) fun z6 => some ((z6.1, (z6.2 &&& 1))))
def F_TTx_readsLikes_54_b (v1 : Int32) (v2 : Int32) (σ : Mem) : Option ((Int32 × Mem) ⊕ (Int32 × Mem)) := (if v2 < (σ 61 8) then (if v2 = v1 then bindT (v2 + 1) fun x10 => some (.inl ((x10, σ))) else bindT (F_Town_setLiking σ 61 v1 v2 (((F_Row_at σ 55 400 (((σ 54 9) + v2))) - 48))) fun z11 => bindT (v2 + 1) fun x12 => some (.inl ((x12, z11)))) else some (.inr ((v2, σ))))
def F_TTx_readsLikes (σ : Mem)  : Option (Mem × Int32) := obind (F_Text_advance σ 54) fun z1 => obind (F_TTx_takeSomebody z1 ((-1)) 0) fun z2 => (if z2.2 = (-1) then some ((z2.1, 0)) else chk (inb (z2.1 54 8) 31) <| (if (z2.1 54 8) = 28 then (if ((z2.1 54 10) - (z2.1 54 9)) = (z2.1 61 8) then obind (whl (fun s => F_TTx_readsLikes_54_b z2.2 s.1 s.2) FUEL (0, z2.1)) fun z13 => obind (F_Text_advance z13.2 54) fun z14 => some ((z14, 1)) else bindT (F_Text_refuse z2.1 54) fun z15 => some ((z15.1, (z15.2 &&& 1)))) else bindT (F_Text_refuse z2.1 54) fun z6 => some ((z6.1, (z6.2 &&& 1)))))
def F_TTx_readsTwo (σ : Mem) (v1 : Int32) : Option (Mem × Int32) := obind (F_Text_advance σ 54) fun z1 => obind (F_TTx_takeSomebody z1 ((-1)) 0) fun z2 => (if z2.2 = (-1) then some ((z2.1, 0)) else obind (F_TTx_takeSomebody z2.1 z2.2 0) fun z4 => (if z4.2 = (-1) then some ((z4.1, 0)) else (if v1 = 0 then bindT (F_Row_put z4.1 (61 + 5) 8 z2.2 z4.2) fun z7 => some ((z7, 1)) else bindT (F_Town_addAsked z4.1 61 z2.2 z4.2) fun z8 => some ((z8.1, 1)))))
def F_TTx_readsWed (σ : Mem)  : Option (Mem × Int32) := (if (σ 61 10) < 20 then obind (F_Text_advance σ 54) fun z2 => obind (F_TTx_takeSomebody z2 ((-1)) 1) fun z3 => (if z3.2 = (-1) then some ((z3.1, 0)) else obind (F_TTx_takeSomebody z3.1 z3.2 1) fun z5 => (if z5.2 = (-1) then some ((z5.1, 0)) else obind (F_Text_needs z5.1 54 16) fun z7 => (if z7.2 = 0 then some ((z7.1, 0)) else obind (F_Text_takeNumber z7.1 54 99) fun z9 => (if z9.2 = (-1) then some ((z9.1, 0)) else bindT (F_Town_addMatch z9.1 61 z3.2 z5.2 z9.2) fun z11 => some ((z11.1, 1)))))) else bindT (F_Text_refuse σ 54) fun z13 => some ((z13.1, (z13.2 &&& 1))))
def F_TTx_readsSetting (σ : Mem) (v1 : Int32) : Option (Mem × Int32) := chk (inb v1 31) <| (if v1 = 5 then obind (F_Text_advance σ 54) fun z3 => (if v1 = 6 then obind (F_Text_takeNumber z3 54 20) fun z12 => (if z12.2 = (-1) then some ((z12.1, 0)) else (if v1 = 5 then bindT (up z12.1 61 12 z12.2) fun σ18 => some ((σ18, 1)) else (if v1 = 6 then bindT (up z12.1 61 13 z12.2) fun σ17 => some ((σ17, 1)) else bindT (up z12.1 61 14 z12.2) fun σ16 => some ((σ16, 1))))) else obind (F_Text_takeNumber z3 54 99) fun z5 => (if z5.2 = (-1) then some ((z5.1, 0)) else (if v1 = 5 then bindT (up z5.1 61 12 z5.2) fun σ11 => some ((σ11, 1)) else (if v1 = 6 then bindT (up z5.1 61 13 z5.2) fun σ10 => some ((σ10, 1)) else bindT (up z5.1 61 14 z5.2) fun σ9 => some ((σ9, 1)))))) else (if v1 = 6 then obind (F_Text_advance σ 54) fun z20 => (if v1 = 6 then obind (F_Text_takeNumber z20 54 20) fun z29 => (if z29.2 = (-1) then some ((z29.1, 0)) else (if v1 = 5 then bindT (up z29.1 61 12 z29.2) fun σ35 => some ((σ35, 1)) else (if v1 = 6 then bindT (up z29.1 61 13 z29.2) fun σ34 => some ((σ34, 1)) else bindT (up z29.1 61 14 z29.2) fun σ33 => some ((σ33, 1))))) else obind (F_Text_takeNumber z20 54 99) fun z22 => (if z22.2 = (-1) then some ((z22.1, 0)) else (if v1 = 5 then bindT (up z22.1 61 12 z22.2) fun σ28 => some ((σ28, 1)) else (if v1 = 6 then bindT (up z22.1 61 13 z22.2) fun σ27 => some ((σ27, 1)) else bindT (up z22.1 61 14 z22.2) fun σ26 => some ((σ26, 1)))))) else (if v1 = 7 then obind (F_Text_advance σ 54) fun z37 => (if v1 = 6 then obind (F_Text_takeNumber z37 54 20) fun z46 => (if z46.2 = (-1) then some ((z46.1, 0)) else (if v1 = 5 then bindT (up z46.1 61 12 z46.2) fun σ52 => some ((σ52, 1)) else (if v1 = 6 then bindT (up z46.1 61 13 z46.2) fun σ51 => some ((σ51, 1)) else bindT (up z46.1 61 14 z46.2) fun σ50 => some ((σ50, 1))))) else obind (F_Text_takeNumber z37 54 99) fun z39 => (if z39.2 = (-1) then some ((z39.1, 0)) else (if v1 = 5 then bindT (up z39.1 61 12 z39.2) fun σ45 => some ((σ45, 1)) else (if v1 = 6 then bindT (up z39.1 61 13 z39.2) fun σ44 => some ((σ44, 1)) else bindT (up z39.1 61 14 z39.2) fun σ43 => some ((σ43, 1)))))) else bindT (F_Text_refuse σ 54) fun z53 => some ((z53.1, (z53.2 &&& 1))))))
def F_TTx_readsLine (σ : Mem)  : Option (Mem × Int32) := chk (inb (σ 54 8) 31) <| (if (σ 54 8) = 0 then obind (F_TTx_readsPerson σ) fun z16 => some ((z16.1, (z16.2 &&& 1))) else (if (σ 54 8) = 1 then obind (F_TTx_readsLikes σ) fun z15 => some ((z15.1, (z15.2 &&& 1))) else (if (σ 54 8) = 2 then (if (σ 54 8) = 2 then obind (F_TTx_readsTwo σ 1) fun z7 => some ((z7.1, (z7.2 &&& 1))) else obind (F_TTx_readsTwo σ 0) fun z6 => some ((z6.1, (z6.2 &&& 1)))) else (if (σ 54 8) = 3 then (if (σ 54 8) = 2 then obind (F_TTx_readsTwo σ 1) fun z14 => some ((z14.1, (z14.2 &&& 1))) else obind (F_TTx_readsTwo σ 0) fun z13 => some ((z13.1, (z13.2 &&& 1)))) else (if (σ 54 8) = 4 then obind (F_TTx_readsWed σ) fun z11 => some ((z11.1, (z11.2 &&& 1))) else obind (F_TTx_readsSetting σ ((σ 54 8))) fun z10 => some ((z10.1, (z10.2 &&& 1))))))))
set_option maxRecDepth 20000 in
set_option maxHeartbeats 4000000 in
theorem C_TTx_takeSomebody (hG : Gok l Γ D s0) (σ : Mem) (v1 : Int32) (v2 : Int32)  {out : Mem × Int32} (hF : F_TTx_takeSomebody σ v1 v2 = some out) : CT l Γ D s0 yX10_takeSomebody cX10_takeSomebody 5 (some .int) (3) 0 0 (64) σ [.ref (Γ.1 + 54), .int v1, .int v2] (PI (some (.int out.2)) out.1) := by
  unfold F_TTx_takeSomebody at hF
  refine e_met (own := RX10) hG (by decide +kernel) rfl rfl (Nat.le_of_ble_eq_true rfl) ?_
  intro p e s m args below meth c X hr
  show E p l e _ s m args below meth c Γ D 0 0 _ σ 0 [some (.ref (Γ.1 + 54)), some (.int v1), some (.int v2), none, none] []
  refine e_aload_n X dX10_takeSomebody_0 rfl rfl ?_
  refine ge_TTx_number X wf_X10_143 dX10_takeSomebody_1 ?_
  obtain ⟨x1, h_x1, hF⟩ := bindT_out hF
  refine e_istore_n X h_x1 dX10_takeSomebody_4 rfl (by decide) ?_
  refine e_aload_n X dX10_takeSomebody_5 rfl rfl ?_
  refine ge_TTx_draft X wf_X10_12 dX10_takeSomebody_6 ?_
  refine e_iload_n X dX10_takeSomebody_9 rfl rfl ?_
  refine e_callVi X (r := (F_Town_hasPerson σ 61 x1)) (σ1 := σ) [.int x1] [] (C_Town_hasPerson (Cx_gok X) σ 61 x1 ok_Town_61) gv_X10_146 yk_X9_hasPerson rfl (ent_lt ok_Town_61.1) (ent_at ok_Town_61.1 _) (rfl : vCl[8]? = some (RX9, TX9, 20)) ⟨Nat.le_of_ble_eq_true rfl, Nat.le_of_ble_eq_true rfl⟩ ⟨Nat.le_of_ble_eq_true rfl, Nat.le_of_ble_eq_true rfl⟩ (Nat.le_of_ble_eq_true rfl) dX10_takeSomebody_10 rfl ?_
  refine e_if_eq X 41 dX10_takeSomebody_13 (by decide) (fun c2 => ?_) (fun c2 => ?_)
  · skip
    rw [if_pos c2] at hF
    refine e_iconst X 0 dX10_takeSomebody_41 rfl ?_
    refine e_istore X rfl dX10_takeSomebody_42 (by decide) ?_
    refine e_iload X dX10_takeSomebody_44 rfl ?_
    refine e_if_ne X 56 dX10_takeSomebody_46 (by decide) (fun c3 => ?_) (fun c3 => ?_)
    · skip
      exact absurd c3 (by decide)
    · skip
      refine e_aload_n X dX10_takeSomebody_49 rfl rfl ?_
      obtain ⟨z4, h_z4, hF⟩ := bindT_out hF
      refine e_callUi X (r := z4.2) (σ1 := z4.1) [] [] (by rw [h_z4]; exact C_Text_refuse (Cx_gok X) σ 54 ok_Text_54) gu_X10_61_X10 rfl ykx_X7_refuse rfl (ent_lt (rfl : entTbl[54]? = some (5, 0))) (ent_at (rfl : entTbl[54]? = some (5, 0)) _) (rfl : vCl[9]? = some (RX10, TX10, 14)) ⟨Nat.le_of_ble_eq_true rfl, Nat.le_of_ble_eq_true rfl⟩ ⟨Nat.le_of_ble_eq_true rfl, Nat.le_of_ble_eq_true rfl⟩ (Nat.le_of_ble_eq_true rfl) dX10_takeSomebody_50 rfl ?_
      refine e_pop X dX10_takeSomebody_53 rfl ?_
      refine e_iconst X (-1) dX10_takeSomebody_54 rfl ?_
      exact e_iret X hr dX10_takeSomebody_55 (Nat.le_of_ble_eq_true rfl) (Nat.le_of_ble_eq_true rfl) (by cases hF; exact ⟨rfl, rfl⟩)
  · skip
    rw [if_neg c2] at hF
    refine e_iload_n X dX10_takeSomebody_16 rfl rfl ?_
    refine e_iload_n X dX10_takeSomebody_17 rfl rfl ?_
    refine e_icmp_eq X 41 dX10_takeSomebody_18 (by decide) (fun c5 => ?_) (fun c5 => ?_)
    · skip
      rw [if_pos c5] at hF
      refine e_iconst X 0 dX10_takeSomebody_41 rfl ?_
      refine e_istore X rfl dX10_takeSomebody_42 (by decide) ?_
      refine e_iload X dX10_takeSomebody_44 rfl ?_
      refine e_if_ne X 56 dX10_takeSomebody_46 (by decide) (fun c6 => ?_) (fun c6 => ?_)
      · skip
        exact absurd c6 (by decide)
      · skip
        refine e_aload_n X dX10_takeSomebody_49 rfl rfl ?_
        obtain ⟨z7, h_z7, hF⟩ := bindT_out hF
        refine e_callUi X (r := z7.2) (σ1 := z7.1) [] [] (by rw [h_z7]; exact C_Text_refuse (Cx_gok X) σ 54 ok_Text_54) gu_X10_61_X10 rfl ykx_X7_refuse rfl (ent_lt (rfl : entTbl[54]? = some (5, 0))) (ent_at (rfl : entTbl[54]? = some (5, 0)) _) (rfl : vCl[9]? = some (RX10, TX10, 14)) ⟨Nat.le_of_ble_eq_true rfl, Nat.le_of_ble_eq_true rfl⟩ ⟨Nat.le_of_ble_eq_true rfl, Nat.le_of_ble_eq_true rfl⟩ (Nat.le_of_ble_eq_true rfl) dX10_takeSomebody_50 rfl ?_
        refine e_pop X dX10_takeSomebody_53 rfl ?_
        refine e_iconst X (-1) dX10_takeSomebody_54 rfl ?_
        exact e_iret X hr dX10_takeSomebody_55 (Nat.le_of_ble_eq_true rfl) (Nat.le_of_ble_eq_true rfl) (by cases hF; exact ⟨rfl, rfl⟩)
    · skip
      rw [if_neg c5] at hF
      refine e_iload_n X dX10_takeSomebody_21 rfl rfl ?_
      refine e_if_eq X 37 dX10_takeSomebody_22 (by decide) (fun c8 => ?_) (fun c8 => ?_)
      · skip
        rw [if_pos c8] at hF
        refine e_iconst X 1 dX10_takeSomebody_37 rfl ?_
        refine e_goto X 42 dX10_takeSomebody_38 (by decide) ?_
        refine e_istore X rfl dX10_takeSomebody_42 (by decide) ?_
        refine e_iload X dX10_takeSomebody_44 rfl ?_
        refine e_if_ne X 56 dX10_takeSomebody_46 (by decide) (fun c9 => ?_) (fun c9 => ?_)
        · skip
          refine e_aload_n X dX10_takeSomebody_56 rfl rfl ?_
          obtain ⟨z10, h_z10, hF⟩ := obind_out hF
          refine e_callUv X (σ1 := z10) [] [] (C_Text_advance (Cx_gok X) σ 54 ok_Text_54 h_z10) gu_X10_64_X10 rfl ykx_X7_advance rfl (ent_lt (rfl : entTbl[54]? = some (5, 0))) (ent_at (rfl : entTbl[54]? = some (5, 0)) _) (rfl : vCl[9]? = some (RX10, TX10, 14)) ⟨Nat.le_of_ble_eq_true rfl, Nat.le_of_ble_eq_true rfl⟩ ⟨Nat.le_of_ble_eq_true rfl, Nat.le_of_ble_eq_true rfl⟩ (Nat.le_of_ble_eq_true rfl) dX10_takeSomebody_57 rfl ?_
          refine e_iload_n X dX10_takeSomebody_60 rfl rfl ?_
          exact e_iret X hr dX10_takeSomebody_61 (Nat.le_of_ble_eq_true rfl) (Nat.le_of_ble_eq_true rfl) (by cases hF; exact ⟨rfl, rfl⟩)
        · skip
          exact absurd c9 (by decide)
      · skip
        rw [if_neg c8] at hF
        refine e_aload_n X dX10_takeSomebody_25 rfl rfl ?_
        refine ge_TTx_draft X wf_X10_12 dX10_takeSomebody_26 ?_
        refine e_iload_n X dX10_takeSomebody_29 rfl rfl ?_
        refine e_callVi X (r := (F_Town_spouseOf σ 61 x1)) (σ1 := σ) [.int x1] [] (C_Town_spouseOf (Cx_gok X) σ 61 x1 ok_Town_61) gv_X10_150 yk_X9_spouseOf rfl (ent_lt ok_Town_61.1) (ent_at ok_Town_61.1 _) (rfl : vCl[8]? = some (RX9, TX9, 20)) ⟨Nat.le_of_ble_eq_true rfl, Nat.le_of_ble_eq_true rfl⟩ ⟨Nat.le_of_ble_eq_true rfl, Nat.le_of_ble_eq_true rfl⟩ (Nat.le_of_ble_eq_true rfl) dX10_takeSomebody_30 rfl ?_
        refine e_iconst X (-1) dX10_takeSomebody_33 rfl ?_
        refine e_icmp_ne X 41 dX10_takeSomebody_34 (by decide) (fun c11 => ?_) (fun c11 => ?_)
        · skip
          rw [if_neg c11] at hF
          refine e_iconst X 0 dX10_takeSomebody_41 rfl ?_
          refine e_istore X rfl dX10_takeSomebody_42 (by decide) ?_
          refine e_iload X dX10_takeSomebody_44 rfl ?_
          refine e_if_ne X 56 dX10_takeSomebody_46 (by decide) (fun c12 => ?_) (fun c12 => ?_)
          · skip
            exact absurd c12 (by decide)
          · skip
            refine e_aload_n X dX10_takeSomebody_49 rfl rfl ?_
            obtain ⟨z13, h_z13, hF⟩ := bindT_out hF
            refine e_callUi X (r := z13.2) (σ1 := z13.1) [] [] (by rw [h_z13]; exact C_Text_refuse (Cx_gok X) σ 54 ok_Text_54) gu_X10_61_X10 rfl ykx_X7_refuse rfl (ent_lt (rfl : entTbl[54]? = some (5, 0))) (ent_at (rfl : entTbl[54]? = some (5, 0)) _) (rfl : vCl[9]? = some (RX10, TX10, 14)) ⟨Nat.le_of_ble_eq_true rfl, Nat.le_of_ble_eq_true rfl⟩ ⟨Nat.le_of_ble_eq_true rfl, Nat.le_of_ble_eq_true rfl⟩ (Nat.le_of_ble_eq_true rfl) dX10_takeSomebody_50 rfl ?_
            refine e_pop X dX10_takeSomebody_53 rfl ?_
            refine e_iconst X (-1) dX10_takeSomebody_54 rfl ?_
            exact e_iret X hr dX10_takeSomebody_55 (Nat.le_of_ble_eq_true rfl) (Nat.le_of_ble_eq_true rfl) (by cases hF; exact ⟨rfl, rfl⟩)
        · skip
          rw [if_pos c11] at hF
          refine e_iconst X 1 dX10_takeSomebody_37 rfl ?_
          refine e_goto X 42 dX10_takeSomebody_38 (by decide) ?_
          refine e_istore X rfl dX10_takeSomebody_42 (by decide) ?_
          refine e_iload X dX10_takeSomebody_44 rfl ?_
          refine e_if_ne X 56 dX10_takeSomebody_46 (by decide) (fun c14 => ?_) (fun c14 => ?_)
          · skip
            refine e_aload_n X dX10_takeSomebody_56 rfl rfl ?_
            obtain ⟨z15, h_z15, hF⟩ := obind_out hF
            refine e_callUv X (σ1 := z15) [] [] (C_Text_advance (Cx_gok X) σ 54 ok_Text_54 h_z15) gu_X10_64_X10 rfl ykx_X7_advance rfl (ent_lt (rfl : entTbl[54]? = some (5, 0))) (ent_at (rfl : entTbl[54]? = some (5, 0)) _) (rfl : vCl[9]? = some (RX10, TX10, 14)) ⟨Nat.le_of_ble_eq_true rfl, Nat.le_of_ble_eq_true rfl⟩ ⟨Nat.le_of_ble_eq_true rfl, Nat.le_of_ble_eq_true rfl⟩ (Nat.le_of_ble_eq_true rfl) dX10_takeSomebody_57 rfl ?_
            refine e_iload_n X dX10_takeSomebody_60 rfl rfl ?_
            exact e_iret X hr dX10_takeSomebody_61 (Nat.le_of_ble_eq_true rfl) (Nat.le_of_ble_eq_true rfl) (by cases hF; exact ⟨rfl, rfl⟩)
          · skip
            exact absurd c14 (by decide)
set_option maxRecDepth 20000 in
set_option maxHeartbeats 4000000 in
theorem C_TTx_readsPerson (hG : Gok l Γ D s0) (σ : Mem)   {out : Mem × Int32} (hF : F_TTx_readsPerson σ = some out) : CT l Γ D s0 yX10_readsPerson cX10_readsPerson 2 (some .boolean) (2) 0 0 (43) σ [.ref (Γ.1 + 54)] (PI (some (.int out.2)) out.1) := by
  unfold F_TTx_readsPerson at hF
  refine e_met (own := RX10) hG (by decide +kernel) rfl rfl (Nat.le_of_ble_eq_true rfl) ?_
  intro p e s m args below meth c X hr
  show E p l e _ s m args below meth c Γ D 0 0 _ σ 0 [some (.ref (Γ.1 + 54)), none] []
  refine e_aload_n X dX10_readsPerson_0 rfl rfl ?_
  refine ge_TTx_draft X wf_X10_12 dX10_readsPerson_1 ?_
  refine ge_Town_people X ok_Town_61 wf_X10_57 dX10_readsPerson_4 ?_
  refine e_bipush X 8 dX10_readsPerson_7 rfl ?_
  refine e_icmp_lt X 17 dX10_readsPerson_9 (by decide) (fun c1 => ?_) (fun c1 => ?_)
  · skip
    rw [if_pos c1] at hF
    refine e_aload_n X dX10_readsPerson_17 rfl rfl ?_
    obtain ⟨z2, h_z2, hF⟩ := obind_out hF
    refine e_callUv X (σ1 := z2) [] [] (C_Text_advance (Cx_gok X) σ 54 ok_Text_54 h_z2) gu_X10_64_X10 rfl ykx_X7_advance rfl (ent_lt (rfl : entTbl[54]? = some (5, 0))) (ent_at (rfl : entTbl[54]? = some (5, 0)) _) (rfl : vCl[9]? = some (RX10, TX10, 14)) ⟨Nat.le_of_ble_eq_true rfl, Nat.le_of_ble_eq_true rfl⟩ ⟨Nat.le_of_ble_eq_true rfl, Nat.le_of_ble_eq_true rfl⟩ (Nat.le_of_ble_eq_true rfl) dX10_readsPerson_18 rfl ?_
    refine e_aload_n X dX10_readsPerson_21 rfl rfl ?_
    refine e_sipush X 999 dX10_readsPerson_22 rfl ?_
    obtain ⟨z3, h_z3, hF⟩ := obind_out hF
    refine e_callUi X (r := z3.2) (σ1 := z3.1) [.int 999] [] (C_Text_takeNumber (Cx_gok X) z2 54 999 ok_Text_54 h_z3) gu_X10_67_X10 rfl ykx_X7_takeNumber rfl (ent_lt (rfl : entTbl[54]? = some (5, 0))) (ent_at (rfl : entTbl[54]? = some (5, 0)) _) (rfl : vCl[9]? = some (RX10, TX10, 14)) ⟨Nat.le_of_ble_eq_true rfl, Nat.le_of_ble_eq_true rfl⟩ ⟨Nat.le_of_ble_eq_true rfl, Nat.le_of_ble_eq_true rfl⟩ (Nat.le_of_ble_eq_true rfl) dX10_readsPerson_25 rfl ?_
    refine e_istore_n X rfl dX10_readsPerson_28 rfl (by decide) ?_
    refine e_iload_n X dX10_readsPerson_29 rfl rfl ?_
    refine e_iconst X (-1) dX10_readsPerson_30 rfl ?_
    refine e_icmp_ne X 36 dX10_readsPerson_31 (by decide) (fun c4 => ?_) (fun c4 => ?_)
    · skip
      rw [if_neg c4] at hF
      refine e_aload_n X dX10_readsPerson_36 rfl rfl ?_
      refine ge_TTx_draft X wf_X10_12 dX10_readsPerson_37 ?_
      refine e_iload_n X dX10_readsPerson_40 rfl rfl ?_
      obtain ⟨z5, h_z5, hF⟩ := bindT_out hF
      refine e_callVv X (σ1 := z5) [.int z3.2] [] (by rw [h_z5]; exact C_Town_addPerson (Cx_gok X) z3.1 61 z3.2 ok_Town_61) gv_X10_71 yk_X9_addPerson rfl (ent_lt ok_Town_61.1) (ent_at ok_Town_61.1 _) (rfl : vCl[8]? = some (RX9, TX9, 20)) ⟨Nat.le_of_ble_eq_true rfl, Nat.le_of_ble_eq_true rfl⟩ ⟨Nat.le_of_ble_eq_true rfl, Nat.le_of_ble_eq_true rfl⟩ (Nat.le_of_ble_eq_true rfl) dX10_readsPerson_41 rfl ?_
      refine e_iconst X 1 dX10_readsPerson_44 rfl ?_
      exact e_zret X hr rfl dX10_readsPerson_45 (Nat.le_of_ble_eq_true rfl) (Nat.le_of_ble_eq_true rfl) (by cases hF; exact ⟨rfl, rfl⟩)
    · skip
      rw [if_pos c4] at hF
      refine e_iconst X 0 dX10_readsPerson_34 rfl ?_
      exact e_zret X hr rfl dX10_readsPerson_35 (Nat.le_of_ble_eq_true rfl) (Nat.le_of_ble_eq_true rfl) (by cases hF; exact ⟨rfl, rfl⟩)
  · skip
    rw [if_neg c1] at hF
    refine e_aload_n X dX10_readsPerson_12 rfl rfl ?_
    obtain ⟨z6, h_z6, hF⟩ := bindT_out hF
    refine e_callUi X (r := z6.2) (σ1 := z6.1) [] [] (by rw [h_z6]; exact C_Text_refuse (Cx_gok X) σ 54 ok_Text_54) gu_X10_61_X10 rfl ykx_X7_refuse rfl (ent_lt (rfl : entTbl[54]? = some (5, 0))) (ent_at (rfl : entTbl[54]? = some (5, 0)) _) (rfl : vCl[9]? = some (RX10, TX10, 14)) ⟨Nat.le_of_ble_eq_true rfl, Nat.le_of_ble_eq_true rfl⟩ ⟨Nat.le_of_ble_eq_true rfl, Nat.le_of_ble_eq_true rfl⟩ (Nat.le_of_ble_eq_true rfl) dX10_readsPerson_13 rfl ?_
    exact e_zret X hr rfl dX10_readsPerson_16 (Nat.le_of_ble_eq_true rfl) (Nat.le_of_ble_eq_true rfl) (by cases hF; exact ⟨rfl, rfl⟩)
set_option maxRecDepth 20000 in
set_option maxHeartbeats 4000000 in
theorem L_TTx_readsLikes_54 (X : Cx p l s m args meth c Γ D s0 RX10 cX10_readsLikes 3) (hr : meth.sig.returnType = (some .boolean)) (v1 : Int32)  : ∀ (n : Nat) (v2 : Int32) (σ : Mem) {z : Int32 × Mem}, whl (fun s => F_TTx_readsLikes_54_b v1 s.1 s.2) n (v2, σ) = some z → (E p l e ({ frames := 4, cells := 0, slots := 0, locals := 88 } : Room) s m args below meth c Γ D 0 0 (MQ below (QcA Γ D Pst) args s 0 0 (frB Γ)) z.2 101 [some (.ref (Γ.1 + 54)), some (.int v1), some (.int z.1)] []) → E p l e ({ frames := 4, cells := 0, slots := 0, locals := 88 } : Room) s m args below meth c Γ D 0 0 (MQ below (QcA Γ D Pst) args s 0 0 (frB Γ)) σ 54 [some (.ref (Γ.1 + 54)), some (.int v1), some (.int v2)] [] := by
  intro n
  induction n with
  | zero =>
    intro v2 σ z hF hK
    cases hF
  | succ n ih =>
    intro v2 σ z hF hK
    obtain ⟨y9, hB, hF⟩ := whl_step hF
    change F_TTx_readsLikes_54_b v1 v2 σ = some y9 at hB
    unfold F_TTx_readsLikes_54_b at hB
    refine e_iload_n X dX10_readsLikes_54 rfl rfl ?_
    refine e_aload_n X dX10_readsLikes_55 rfl rfl ?_
    refine ge_TTx_draft X wf_X10_12 dX10_readsLikes_56 ?_
    refine ge_Town_people X ok_Town_61 wf_X10_57 dX10_readsLikes_59 ?_
    refine e_icmp_ge X 101 dX10_readsLikes_62 (by decide) (fun c8 => ?_) (fun c8 => ?_)
    · skip
      rw [if_neg c8] at hB
      have hy9 := Option.some.inj hB; change (.inr ((v2, σ))) = y9 at hy9; subst hy9
      have hz9 := Option.some.inj hF; change ((v2, σ)) = z at hz9; subst hz9
      exact e_le hK (And.intro rfl (And.intro rfl (And.intro rfl (trivial))))
    · skip
      rw [if_pos c8] at hB
      refine e_iload_n X dX10_readsLikes_65 rfl rfl ?_
      refine e_iload_n X dX10_readsLikes_66 rfl rfl ?_
      refine e_icmp_eq X 95 dX10_readsLikes_67 (by decide) (fun c9 => ?_) (fun c9 => ?_)
      · skip
        rw [if_pos c9] at hB
        refine e_iinc X 1 dX10_readsLikes_95 rfl rfl (by decide) ?_
        obtain ⟨x10, h_x10, hB⟩ := bindT_out hB
        rw [← h_x10]
        refine e_goto X 54 dX10_readsLikes_98 (by decide) ?_
        have hy9 := Option.some.inj hB; change (.inl ((x10, σ))) = y9 at hy9; subst hy9
        exact e_le (ih x10 σ hF hK) (And.intro rfl (And.intro rfl (And.intro rfl (trivial))))
      · skip
        rw [if_neg c9] at hB
        refine e_aload_n X dX10_readsLikes_70 rfl rfl ?_
        refine ge_TTx_draft X wf_X10_12 dX10_readsLikes_71 ?_
        refine e_iload_n X dX10_readsLikes_74 rfl rfl ?_
        refine e_iload_n X dX10_readsLikes_75 rfl rfl ?_
        refine e_aload_n X dX10_readsLikes_76 rfl rfl ?_
        refine ge_TTx_bytes X wf_X10_88 dX10_readsLikes_77 ?_
        refine e_aload_n X dX10_readsLikes_80 rfl rfl ?_
        refine ge_TTx_begin X wf_X10_85 dX10_readsLikes_81 ?_
        refine e_iload_n X dX10_readsLikes_84 rfl rfl ?_
        refine e_iadd X dX10_readsLikes_85 ?_
        refine e_callVi X (r := (F_Row_at σ 55 400 (((σ 54 9) + v2)))) (σ1 := σ) [.int (((σ 54 9) + v2))] [.int v2, .int v1, .ref (Γ.1 + 61)] (C_Row_at (Cx_gok X) σ 55 400 (((σ 54 9) + v2)) ok_Row_55) gv_X10_92 yk_X6_at rfl (ent_lt ok_Row_55.1) (ent_at ok_Row_55.1 _) (rfl : vCl[6]? = some (RX6, TX6, 1)) ⟨Nat.le_of_ble_eq_true rfl, Nat.le_of_ble_eq_true rfl⟩ ⟨Nat.le_of_ble_eq_true rfl, Nat.le_of_ble_eq_true rfl⟩ (Nat.le_of_ble_eq_true rfl) dX10_readsLikes_86 rfl ?_
        refine e_bipush X 48 dX10_readsLikes_89 rfl ?_
        refine e_isub X dX10_readsLikes_91 ?_
        obtain ⟨z11, h_z11, hB⟩ := bindT_out hB
        refine e_callVv X (σ1 := z11) [.int v1, .int v2, .int (((F_Row_at σ 55 400 (((σ 54 9) + v2))) - 48))] [] (by rw [h_z11]; exact C_Town_setLiking (Cx_gok X) σ 61 v1 v2 (((F_Row_at σ 55 400 (((σ 54 9) + v2))) - 48)) ok_Town_61) gv_X10_97 yk_X9_setLiking rfl (ent_lt ok_Town_61.1) (ent_at ok_Town_61.1 _) (rfl : vCl[8]? = some (RX9, TX9, 20)) ⟨Nat.le_of_ble_eq_true rfl, Nat.le_of_ble_eq_true rfl⟩ ⟨Nat.le_of_ble_eq_true rfl, Nat.le_of_ble_eq_true rfl⟩ (Nat.le_of_ble_eq_true rfl) dX10_readsLikes_92 rfl ?_
        refine e_iinc X 1 dX10_readsLikes_95 rfl rfl (by decide) ?_
        obtain ⟨x12, h_x12, hB⟩ := bindT_out hB
        rw [← h_x12]
        refine e_goto X 54 dX10_readsLikes_98 (by decide) ?_
        have hy9 := Option.some.inj hB; change (.inl ((x12, z11))) = y9 at hy9; subst hy9
        exact e_le (ih x12 z11 hF hK) (And.intro rfl (And.intro rfl (And.intro rfl (trivial))))
set_option maxRecDepth 20000 in
set_option maxHeartbeats 4000000 in
theorem C_TTx_readsLikes (hG : Gok l Γ D s0) (σ : Mem)   {out : Mem × Int32} (hF : F_TTx_readsLikes σ = some out) : CT l Γ D s0 yX10_readsLikes cX10_readsLikes 3 (some .boolean) (4) 0 0 (88) σ [.ref (Γ.1 + 54)] (PI (some (.int out.2)) out.1) := by
  unfold F_TTx_readsLikes at hF
  refine e_met (own := RX10) hG (by decide +kernel) rfl rfl (Nat.le_of_ble_eq_true rfl) ?_
  intro p e s m args below meth c X hr
  show E p l e _ s m args below meth c Γ D 0 0 _ σ 0 [some (.ref (Γ.1 + 54)), none, none] []
  refine e_aload_n X dX10_readsLikes_0 rfl rfl ?_
  obtain ⟨z1, h_z1, hF⟩ := obind_out hF
  refine e_callUv X (σ1 := z1) [] [] (C_Text_advance (Cx_gok X) σ 54 ok_Text_54 h_z1) gu_X10_64_X10 rfl ykx_X7_advance rfl (ent_lt (rfl : entTbl[54]? = some (5, 0))) (ent_at (rfl : entTbl[54]? = some (5, 0)) _) (rfl : vCl[9]? = some (RX10, TX10, 14)) ⟨Nat.le_of_ble_eq_true rfl, Nat.le_of_ble_eq_true rfl⟩ ⟨Nat.le_of_ble_eq_true rfl, Nat.le_of_ble_eq_true rfl⟩ (Nat.le_of_ble_eq_true rfl) dX10_readsLikes_1 rfl ?_
  refine e_aload_n X dX10_readsLikes_4 rfl rfl ?_
  refine e_iconst X (-1) dX10_readsLikes_5 rfl ?_
  refine e_iconst X 0 dX10_readsLikes_6 rfl ?_
  obtain ⟨z2, h_z2, hF⟩ := obind_out hF
  refine e_callVi X (r := z2.2) (σ1 := z2.1) [.int ((-1)), .int 0] [] (C_TTx_takeSomebody (Cx_gok X) z1 ((-1)) 0 h_z2) gv_X10_75 yk_X10_takeSomebody rfl (ent_lt (rfl : entTbl[54]? = some (5, 0))) (ent_at (rfl : entTbl[54]? = some (5, 0)) _) (rfl : vCl[9]? = some (RX10, TX10, 14)) ⟨Nat.le_of_ble_eq_true rfl, Nat.le_of_ble_eq_true rfl⟩ ⟨Nat.le_of_ble_eq_true rfl, Nat.le_of_ble_eq_true rfl⟩ (Nat.le_of_ble_eq_true rfl) dX10_readsLikes_7 rfl ?_
  refine e_istore_n X rfl dX10_readsLikes_10 rfl (by decide) ?_
  refine e_iload_n X dX10_readsLikes_11 rfl rfl ?_
  refine e_iconst X (-1) dX10_readsLikes_12 rfl ?_
  refine e_icmp_ne X 18 dX10_readsLikes_13 (by decide) (fun c3 => ?_) (fun c3 => ?_)
  · skip
    rw [if_neg c3] at hF
    refine e_aload_n X dX10_readsLikes_18 rfl rfl ?_
    refine ge_TTx_kind X wf_X10_18 dX10_readsLikes_19 ?_
    refine e_kstatic X 28 rfl rfl wf_X10_79 dX10_readsLikes_22 ?_
    obtain ⟨c4, hF⟩ := chk_out hF
    refine e_kacmp_ne X 47 c4 rfl dX10_readsLikes_25 (by decide) (fun c5 => ?_) (fun c5 => ?_)
    · skip
      rw [if_neg c5] at hF
      refine e_aload_n X dX10_readsLikes_47 rfl rfl ?_
      obtain ⟨z6, h_z6, hF⟩ := bindT_out hF
      refine e_callUi X (r := z6.2) (σ1 := z6.1) [] [] (by rw [h_z6]; exact C_Text_refuse (Cx_gok X) z2.1 54 ok_Text_54) gu_X10_61_X10 rfl ykx_X7_refuse rfl (ent_lt (rfl : entTbl[54]? = some (5, 0))) (ent_at (rfl : entTbl[54]? = some (5, 0)) _) (rfl : vCl[9]? = some (RX10, TX10, 14)) ⟨Nat.le_of_ble_eq_true rfl, Nat.le_of_ble_eq_true rfl⟩ ⟨Nat.le_of_ble_eq_true rfl, Nat.le_of_ble_eq_true rfl⟩ (Nat.le_of_ble_eq_true rfl) dX10_readsLikes_48 rfl ?_
      exact e_zret X hr rfl dX10_readsLikes_51 (Nat.le_of_ble_eq_true rfl) (Nat.le_of_ble_eq_true rfl) (by cases hF; exact ⟨rfl, rfl⟩)
    · skip
      rw [if_pos c5] at hF
      refine e_aload_n X dX10_readsLikes_28 rfl rfl ?_
      refine ge_TTx_stop X wf_X10_82 dX10_readsLikes_29 ?_
      refine e_aload_n X dX10_readsLikes_32 rfl rfl ?_
      refine ge_TTx_begin X wf_X10_85 dX10_readsLikes_33 ?_
      refine e_isub X dX10_readsLikes_36 ?_
      refine e_aload_n X dX10_readsLikes_37 rfl rfl ?_
      refine ge_TTx_draft X wf_X10_12 dX10_readsLikes_38 ?_
      refine ge_Town_people X ok_Town_61 wf_X10_57 dX10_readsLikes_41 ?_
      refine e_icmp_eq X 52 dX10_readsLikes_44 (by decide) (fun c7 => ?_) (fun c7 => ?_)
      · skip
        rw [if_pos c7] at hF
        refine e_iconst X 0 dX10_readsLikes_52 rfl ?_
        refine e_istore_n X rfl dX10_readsLikes_53 rfl (by decide) ?_
        obtain ⟨z13, h_z13, hF⟩ := obind_out hF
        refine e_le (L_TTx_readsLikes_54 X hr z2.2 _ 0 z2.1 h_z13 ?_) (And.intro rfl (And.intro rfl (And.intro rfl (trivial))))
        refine e_aload_n X dX10_readsLikes_101 rfl rfl ?_
        obtain ⟨z14, h_z14, hF⟩ := obind_out hF
        refine e_callUv X (σ1 := z14) [] [] (C_Text_advance (Cx_gok X) z13.2 54 ok_Text_54 h_z14) gu_X10_64_X10 rfl ykx_X7_advance rfl (ent_lt (rfl : entTbl[54]? = some (5, 0))) (ent_at (rfl : entTbl[54]? = some (5, 0)) _) (rfl : vCl[9]? = some (RX10, TX10, 14)) ⟨Nat.le_of_ble_eq_true rfl, Nat.le_of_ble_eq_true rfl⟩ ⟨Nat.le_of_ble_eq_true rfl, Nat.le_of_ble_eq_true rfl⟩ (Nat.le_of_ble_eq_true rfl) dX10_readsLikes_102 rfl ?_
        refine e_iconst X 1 dX10_readsLikes_105 rfl ?_
        exact e_zret X hr rfl dX10_readsLikes_106 (Nat.le_of_ble_eq_true rfl) (Nat.le_of_ble_eq_true rfl) (by cases hF; exact ⟨rfl, rfl⟩)
      · skip
        rw [if_neg c7] at hF
        refine e_aload_n X dX10_readsLikes_47 rfl rfl ?_
        obtain ⟨z15, h_z15, hF⟩ := bindT_out hF
        refine e_callUi X (r := z15.2) (σ1 := z15.1) [] [] (by rw [h_z15]; exact C_Text_refuse (Cx_gok X) z2.1 54 ok_Text_54) gu_X10_61_X10 rfl ykx_X7_refuse rfl (ent_lt (rfl : entTbl[54]? = some (5, 0))) (ent_at (rfl : entTbl[54]? = some (5, 0)) _) (rfl : vCl[9]? = some (RX10, TX10, 14)) ⟨Nat.le_of_ble_eq_true rfl, Nat.le_of_ble_eq_true rfl⟩ ⟨Nat.le_of_ble_eq_true rfl, Nat.le_of_ble_eq_true rfl⟩ (Nat.le_of_ble_eq_true rfl) dX10_readsLikes_48 rfl ?_
        exact e_zret X hr rfl dX10_readsLikes_51 (Nat.le_of_ble_eq_true rfl) (Nat.le_of_ble_eq_true rfl) (by cases hF; exact ⟨rfl, rfl⟩)
  · skip
    rw [if_pos c3] at hF
    refine e_iconst X 0 dX10_readsLikes_16 rfl ?_
    exact e_zret X hr rfl dX10_readsLikes_17 (Nat.le_of_ble_eq_true rfl) (Nat.le_of_ble_eq_true rfl) (by cases hF; exact ⟨rfl, rfl⟩)
set_option maxRecDepth 20000 in
set_option maxHeartbeats 4000000 in
theorem C_TTx_readsTwo (hG : Gok l Γ D s0) (σ : Mem) (v1 : Int32)  {out : Mem × Int32} (hF : F_TTx_readsTwo σ v1 = some out) : CT l Γ D s0 yX10_readsTwo cX10_readsTwo 4 (some .boolean) (4) 0 0 (88) σ [.ref (Γ.1 + 54), .int v1] (PI (some (.int out.2)) out.1) := by
  unfold F_TTx_readsTwo at hF
  refine e_met (own := RX10) hG (by decide +kernel) rfl rfl (Nat.le_of_ble_eq_true rfl) ?_
  intro p e s m args below meth c X hr
  show E p l e _ s m args below meth c Γ D 0 0 _ σ 0 [some (.ref (Γ.1 + 54)), some (.int v1), none, none] []
  refine e_aload_n X dX10_readsTwo_0 rfl rfl ?_
  obtain ⟨z1, h_z1, hF⟩ := obind_out hF
  refine e_callUv X (σ1 := z1) [] [] (C_Text_advance (Cx_gok X) σ 54 ok_Text_54 h_z1) gu_X10_64_X10 rfl ykx_X7_advance rfl (ent_lt (rfl : entTbl[54]? = some (5, 0))) (ent_at (rfl : entTbl[54]? = some (5, 0)) _) (rfl : vCl[9]? = some (RX10, TX10, 14)) ⟨Nat.le_of_ble_eq_true rfl, Nat.le_of_ble_eq_true rfl⟩ ⟨Nat.le_of_ble_eq_true rfl, Nat.le_of_ble_eq_true rfl⟩ (Nat.le_of_ble_eq_true rfl) dX10_readsTwo_1 rfl ?_
  refine e_aload_n X dX10_readsTwo_4 rfl rfl ?_
  refine e_iconst X (-1) dX10_readsTwo_5 rfl ?_
  refine e_iconst X 0 dX10_readsTwo_6 rfl ?_
  obtain ⟨z2, h_z2, hF⟩ := obind_out hF
  refine e_callVi X (r := z2.2) (σ1 := z2.1) [.int ((-1)), .int 0] [] (C_TTx_takeSomebody (Cx_gok X) z1 ((-1)) 0 h_z2) gv_X10_75 yk_X10_takeSomebody rfl (ent_lt (rfl : entTbl[54]? = some (5, 0))) (ent_at (rfl : entTbl[54]? = some (5, 0)) _) (rfl : vCl[9]? = some (RX10, TX10, 14)) ⟨Nat.le_of_ble_eq_true rfl, Nat.le_of_ble_eq_true rfl⟩ ⟨Nat.le_of_ble_eq_true rfl, Nat.le_of_ble_eq_true rfl⟩ (Nat.le_of_ble_eq_true rfl) dX10_readsTwo_7 rfl ?_
  refine e_istore_n X rfl dX10_readsTwo_10 rfl (by decide) ?_
  refine e_iload_n X dX10_readsTwo_11 rfl rfl ?_
  refine e_iconst X (-1) dX10_readsTwo_12 rfl ?_
  refine e_icmp_ne X 20 dX10_readsTwo_13 (by decide) (fun c3 => ?_) (fun c3 => ?_)
  · skip
    rw [if_neg c3] at hF
    refine e_aload_n X dX10_readsTwo_20 rfl rfl ?_
    refine e_iload_n X dX10_readsTwo_21 rfl rfl ?_
    refine e_iconst X 0 dX10_readsTwo_22 rfl ?_
    obtain ⟨z4, h_z4, hF⟩ := obind_out hF
    refine e_callVi X (r := z4.2) (σ1 := z4.1) [.int z2.2, .int 0] [] (C_TTx_takeSomebody (Cx_gok X) z2.1 z2.2 0 h_z4) gv_X10_75 yk_X10_takeSomebody rfl (ent_lt (rfl : entTbl[54]? = some (5, 0))) (ent_at (rfl : entTbl[54]? = some (5, 0)) _) (rfl : vCl[9]? = some (RX10, TX10, 14)) ⟨Nat.le_of_ble_eq_true rfl, Nat.le_of_ble_eq_true rfl⟩ ⟨Nat.le_of_ble_eq_true rfl, Nat.le_of_ble_eq_true rfl⟩ (Nat.le_of_ble_eq_true rfl) dX10_readsTwo_23 rfl ?_
    refine e_istore_n X rfl dX10_readsTwo_26 rfl (by decide) ?_
    refine e_iload_n X dX10_readsTwo_27 rfl rfl ?_
    refine e_iconst X (-1) dX10_readsTwo_28 rfl ?_
    refine e_icmp_ne X 34 dX10_readsTwo_29 (by decide) (fun c5 => ?_) (fun c5 => ?_)
    · skip
      rw [if_neg c5] at hF
      refine e_iload_n X dX10_readsTwo_34 rfl rfl ?_
      refine e_if_eq X 51 dX10_readsTwo_35 (by decide) (fun c6 => ?_) (fun c6 => ?_)
      · skip
        rw [if_pos c6] at hF
        refine e_aload_n X dX10_readsTwo_51 rfl rfl ?_
        refine ge_TTx_draft X wf_X10_12 dX10_readsTwo_52 ?_
        refine ge_Town_reinsurer X ok_Town_61 wf_X10_105 dX10_readsTwo_55 ?_
        refine e_iload_n X dX10_readsTwo_58 rfl rfl ?_
        refine e_iload_n X dX10_readsTwo_59 rfl rfl ?_
        obtain ⟨z7, h_z7, hF⟩ := bindT_out hF
        refine e_callVv X (σ1 := z7) [.int z2.2, .int z4.2] [] (by rw [h_z7]; exact C_Row_put (Cx_gok X) z4.1 (61 + 5) 8 z2.2 z4.2 ok_Town_61.2.2.2.1) gv_X10_108 yk_X6_put rfl (ent_lt ok_Town_61.2.2.2.1.1) (ent_at ok_Town_61.2.2.2.1.1 _) (rfl : vCl[6]? = some (RX6, TX6, 1)) ⟨Nat.le_of_ble_eq_true rfl, Nat.le_of_ble_eq_true rfl⟩ ⟨Nat.le_of_ble_eq_true rfl, Nat.le_of_ble_eq_true rfl⟩ (Nat.le_of_ble_eq_true rfl) dX10_readsTwo_60 rfl ?_
        refine e_iconst X 1 dX10_readsTwo_63 rfl ?_
        exact e_zret X hr rfl dX10_readsTwo_64 (Nat.le_of_ble_eq_true rfl) (Nat.le_of_ble_eq_true rfl) (by cases hF; exact ⟨rfl, rfl⟩)
      · skip
        rw [if_neg c6] at hF
        refine e_aload_n X dX10_readsTwo_38 rfl rfl ?_
        refine ge_TTx_draft X wf_X10_12 dX10_readsTwo_39 ?_
        refine e_iload_n X dX10_readsTwo_42 rfl rfl ?_
        refine e_iload_n X dX10_readsTwo_43 rfl rfl ?_
        obtain ⟨z8, h_z8, hF⟩ := bindT_out hF
        refine e_callVi X (r := z8.2) (σ1 := z8.1) [.int z2.2, .int z4.2] [] (by rw [h_z8]; exact C_Town_addAsked (Cx_gok X) z4.1 61 z2.2 z4.2 ok_Town_61) gv_X10_101 yk_X9_addAsked rfl (ent_lt ok_Town_61.1) (ent_at ok_Town_61.1 _) (rfl : vCl[8]? = some (RX9, TX9, 20)) ⟨Nat.le_of_ble_eq_true rfl, Nat.le_of_ble_eq_true rfl⟩ ⟨Nat.le_of_ble_eq_true rfl, Nat.le_of_ble_eq_true rfl⟩ (Nat.le_of_ble_eq_true rfl) dX10_readsTwo_44 rfl ?_
        refine e_pop X dX10_readsTwo_47 rfl ?_
        refine e_goto X 63 dX10_readsTwo_48 (by decide) ?_
        refine e_iconst X 1 dX10_readsTwo_63 rfl ?_
        exact e_zret X hr rfl dX10_readsTwo_64 (Nat.le_of_ble_eq_true rfl) (Nat.le_of_ble_eq_true rfl) (by cases hF; exact ⟨rfl, rfl⟩)
    · skip
      rw [if_pos c5] at hF
      refine e_iconst X 0 dX10_readsTwo_32 rfl ?_
      exact e_zret X hr rfl dX10_readsTwo_33 (Nat.le_of_ble_eq_true rfl) (Nat.le_of_ble_eq_true rfl) (by cases hF; exact ⟨rfl, rfl⟩)
  · skip
    rw [if_pos c3] at hF
    refine e_iconst X (-1) dX10_readsTwo_16 rfl ?_
    refine e_goto X 26 dX10_readsTwo_17 (by decide) ?_
    refine e_istore_n X rfl dX10_readsTwo_26 rfl (by decide) ?_
    refine e_iload_n X dX10_readsTwo_27 rfl rfl ?_
    refine e_iconst X (-1) dX10_readsTwo_28 rfl ?_
    refine e_icmp_ne X 34 dX10_readsTwo_29 (by decide) (fun c9 => ?_) (fun c9 => ?_)
    · skip
      exact absurd c9 (by decide)
    · skip
      refine e_iconst X 0 dX10_readsTwo_32 rfl ?_
      exact e_zret X hr rfl dX10_readsTwo_33 (Nat.le_of_ble_eq_true rfl) (Nat.le_of_ble_eq_true rfl) (by cases hF; exact ⟨rfl, rfl⟩)
set_option maxRecDepth 20000 in
set_option maxHeartbeats 4000000 in
theorem C_TTx_readsWed (hG : Gok l Γ D s0) (σ : Mem)   {out : Mem × Int32} (hF : F_TTx_readsWed σ = some out) : CT l Γ D s0 yX10_readsWed cX10_readsWed 4 (some .boolean) (4) 0 0 (88) σ [.ref (Γ.1 + 54)] (PI (some (.int out.2)) out.1) := by
  unfold F_TTx_readsWed at hF
  refine e_met (own := RX10) hG (by decide +kernel) rfl rfl (Nat.le_of_ble_eq_true rfl) ?_
  intro p e s m args below meth c X hr
  show E p l e _ s m args below meth c Γ D 0 0 _ σ 0 [some (.ref (Γ.1 + 54)), none, none, none] []
  refine e_aload_n X dX10_readsWed_0 rfl rfl ?_
  refine ge_TTx_draft X wf_X10_12 dX10_readsWed_1 ?_
  refine ge_Town_matches X ok_Town_61 wf_X10_112 dX10_readsWed_4 ?_
  refine e_bipush X 20 dX10_readsWed_7 rfl ?_
  refine e_icmp_lt X 17 dX10_readsWed_9 (by decide) (fun c1 => ?_) (fun c1 => ?_)
  · skip
    rw [if_pos c1] at hF
    refine e_aload_n X dX10_readsWed_17 rfl rfl ?_
    obtain ⟨z2, h_z2, hF⟩ := obind_out hF
    refine e_callUv X (σ1 := z2) [] [] (C_Text_advance (Cx_gok X) σ 54 ok_Text_54 h_z2) gu_X10_64_X10 rfl ykx_X7_advance rfl (ent_lt (rfl : entTbl[54]? = some (5, 0))) (ent_at (rfl : entTbl[54]? = some (5, 0)) _) (rfl : vCl[9]? = some (RX10, TX10, 14)) ⟨Nat.le_of_ble_eq_true rfl, Nat.le_of_ble_eq_true rfl⟩ ⟨Nat.le_of_ble_eq_true rfl, Nat.le_of_ble_eq_true rfl⟩ (Nat.le_of_ble_eq_true rfl) dX10_readsWed_18 rfl ?_
    refine e_aload_n X dX10_readsWed_21 rfl rfl ?_
    refine e_iconst X (-1) dX10_readsWed_22 rfl ?_
    refine e_iconst X 1 dX10_readsWed_23 rfl ?_
    obtain ⟨z3, h_z3, hF⟩ := obind_out hF
    refine e_callVi X (r := z3.2) (σ1 := z3.1) [.int ((-1)), .int 1] [] (C_TTx_takeSomebody (Cx_gok X) z2 ((-1)) 1 h_z3) gv_X10_75 yk_X10_takeSomebody rfl (ent_lt (rfl : entTbl[54]? = some (5, 0))) (ent_at (rfl : entTbl[54]? = some (5, 0)) _) (rfl : vCl[9]? = some (RX10, TX10, 14)) ⟨Nat.le_of_ble_eq_true rfl, Nat.le_of_ble_eq_true rfl⟩ ⟨Nat.le_of_ble_eq_true rfl, Nat.le_of_ble_eq_true rfl⟩ (Nat.le_of_ble_eq_true rfl) dX10_readsWed_24 rfl ?_
    refine e_istore_n X rfl dX10_readsWed_27 rfl (by decide) ?_
    refine e_iload_n X dX10_readsWed_28 rfl rfl ?_
    refine e_iconst X (-1) dX10_readsWed_29 rfl ?_
    refine e_icmp_ne X 37 dX10_readsWed_30 (by decide) (fun c4 => ?_) (fun c4 => ?_)
    · skip
      rw [if_neg c4] at hF
      refine e_aload_n X dX10_readsWed_37 rfl rfl ?_
      refine e_iload_n X dX10_readsWed_38 rfl rfl ?_
      refine e_iconst X 1 dX10_readsWed_39 rfl ?_
      obtain ⟨z5, h_z5, hF⟩ := obind_out hF
      refine e_callVi X (r := z5.2) (σ1 := z5.1) [.int z3.2, .int 1] [] (C_TTx_takeSomebody (Cx_gok X) z3.1 z3.2 1 h_z5) gv_X10_75 yk_X10_takeSomebody rfl (ent_lt (rfl : entTbl[54]? = some (5, 0))) (ent_at (rfl : entTbl[54]? = some (5, 0)) _) (rfl : vCl[9]? = some (RX10, TX10, 14)) ⟨Nat.le_of_ble_eq_true rfl, Nat.le_of_ble_eq_true rfl⟩ ⟨Nat.le_of_ble_eq_true rfl, Nat.le_of_ble_eq_true rfl⟩ (Nat.le_of_ble_eq_true rfl) dX10_readsWed_40 rfl ?_
      refine e_istore_n X rfl dX10_readsWed_43 rfl (by decide) ?_
      refine e_iload_n X dX10_readsWed_44 rfl rfl ?_
      refine e_iconst X (-1) dX10_readsWed_45 rfl ?_
      refine e_icmp_eq X 59 dX10_readsWed_46 (by decide) (fun c6 => ?_) (fun c6 => ?_)
      · skip
        rw [if_pos c6] at hF
        refine e_iconst X 0 dX10_readsWed_59 rfl ?_
        exact e_zret X hr rfl dX10_readsWed_60 (Nat.le_of_ble_eq_true rfl) (Nat.le_of_ble_eq_true rfl) (by cases hF; exact ⟨rfl, rfl⟩)
      · skip
        rw [if_neg c6] at hF
        refine e_aload_n X dX10_readsWed_49 rfl rfl ?_
        refine e_kstatic X 16 rfl rfl wf_X10_115 dX10_readsWed_50 ?_
        obtain ⟨z7, h_z7, hF⟩ := obind_out hF
        refine e_callUi X (r := z7.2) (σ1 := z7.1) [va_rf (kop Γ 16)] [] (C_Text_needs (Cx_gok X) z5.1 54 16 ok_Text_54 h_z7) gu_X10_118_X10 rfl ykx_X7_needs rfl (ent_lt (rfl : entTbl[54]? = some (5, 0))) (ent_at (rfl : entTbl[54]? = some (5, 0)) _) (rfl : vCl[9]? = some (RX10, TX10, 14)) ⟨Nat.le_of_ble_eq_true rfl, Nat.le_of_ble_eq_true rfl⟩ ⟨Nat.le_of_ble_eq_true rfl, Nat.le_of_ble_eq_true rfl⟩ (Nat.le_of_ble_eq_true rfl) dX10_readsWed_53 rfl ?_
        refine e_if_ne X 61 dX10_readsWed_56 (by decide) (fun c8 => ?_) (fun c8 => ?_)
        · skip
          rw [if_neg c8] at hF
          refine e_aload_n X dX10_readsWed_61 rfl rfl ?_
          refine e_bipush X 99 dX10_readsWed_62 rfl ?_
          obtain ⟨z9, h_z9, hF⟩ := obind_out hF
          refine e_callUi X (r := z9.2) (σ1 := z9.1) [.int 99] [] (C_Text_takeNumber (Cx_gok X) z7.1 54 99 ok_Text_54 h_z9) gu_X10_67_X10 rfl ykx_X7_takeNumber rfl (ent_lt (rfl : entTbl[54]? = some (5, 0))) (ent_at (rfl : entTbl[54]? = some (5, 0)) _) (rfl : vCl[9]? = some (RX10, TX10, 14)) ⟨Nat.le_of_ble_eq_true rfl, Nat.le_of_ble_eq_true rfl⟩ ⟨Nat.le_of_ble_eq_true rfl, Nat.le_of_ble_eq_true rfl⟩ (Nat.le_of_ble_eq_true rfl) dX10_readsWed_64 rfl ?_
          refine e_istore_n X rfl dX10_readsWed_67 rfl (by decide) ?_
          refine e_iload_n X dX10_readsWed_68 rfl rfl ?_
          refine e_iconst X (-1) dX10_readsWed_69 rfl ?_
          refine e_icmp_ne X 75 dX10_readsWed_70 (by decide) (fun c10 => ?_) (fun c10 => ?_)
          · skip
            rw [if_neg c10] at hF
            refine e_aload_n X dX10_readsWed_75 rfl rfl ?_
            refine ge_TTx_draft X wf_X10_12 dX10_readsWed_76 ?_
            refine e_iload_n X dX10_readsWed_79 rfl rfl ?_
            refine e_iload_n X dX10_readsWed_80 rfl rfl ?_
            refine e_iload_n X dX10_readsWed_81 rfl rfl ?_
            obtain ⟨z11, h_z11, hF⟩ := bindT_out hF
            refine e_callVi X (r := z11.2) (σ1 := z11.1) [.int z3.2, .int z5.2, .int z9.2] [] (by rw [h_z11]; exact C_Town_addMatch (Cx_gok X) z9.1 61 z3.2 z5.2 z9.2 ok_Town_61) gv_X10_121 yk_X9_addMatch rfl (ent_lt ok_Town_61.1) (ent_at ok_Town_61.1 _) (rfl : vCl[8]? = some (RX9, TX9, 20)) ⟨Nat.le_of_ble_eq_true rfl, Nat.le_of_ble_eq_true rfl⟩ ⟨Nat.le_of_ble_eq_true rfl, Nat.le_of_ble_eq_true rfl⟩ (Nat.le_of_ble_eq_true rfl) dX10_readsWed_82 rfl ?_
            refine e_pop X dX10_readsWed_85 rfl ?_
            refine e_iconst X 1 dX10_readsWed_86 rfl ?_
            exact e_zret X hr rfl dX10_readsWed_87 (Nat.le_of_ble_eq_true rfl) (Nat.le_of_ble_eq_true rfl) (by cases hF; exact ⟨rfl, rfl⟩)
          · skip
            rw [if_pos c10] at hF
            refine e_iconst X 0 dX10_readsWed_73 rfl ?_
            exact e_zret X hr rfl dX10_readsWed_74 (Nat.le_of_ble_eq_true rfl) (Nat.le_of_ble_eq_true rfl) (by cases hF; exact ⟨rfl, rfl⟩)
        · skip
          rw [if_pos c8] at hF
          refine e_iconst X 0 dX10_readsWed_59 rfl ?_
          exact e_zret X hr rfl dX10_readsWed_60 (Nat.le_of_ble_eq_true rfl) (Nat.le_of_ble_eq_true rfl) (by cases hF; exact ⟨rfl, rfl⟩)
    · skip
      rw [if_pos c4] at hF
      refine e_iconst X (-1) dX10_readsWed_33 rfl ?_
      refine e_goto X 43 dX10_readsWed_34 (by decide) ?_
      refine e_istore_n X rfl dX10_readsWed_43 rfl (by decide) ?_
      refine e_iload_n X dX10_readsWed_44 rfl rfl ?_
      refine e_iconst X (-1) dX10_readsWed_45 rfl ?_
      refine e_icmp_eq X 59 dX10_readsWed_46 (by decide) (fun c12 => ?_) (fun c12 => ?_)
      · skip
        refine e_iconst X 0 dX10_readsWed_59 rfl ?_
        exact e_zret X hr rfl dX10_readsWed_60 (Nat.le_of_ble_eq_true rfl) (Nat.le_of_ble_eq_true rfl) (by cases hF; exact ⟨rfl, rfl⟩)
      · skip
        exact absurd c12 (by decide)
  · skip
    rw [if_neg c1] at hF
    refine e_aload_n X dX10_readsWed_12 rfl rfl ?_
    obtain ⟨z13, h_z13, hF⟩ := bindT_out hF
    refine e_callUi X (r := z13.2) (σ1 := z13.1) [] [] (by rw [h_z13]; exact C_Text_refuse (Cx_gok X) σ 54 ok_Text_54) gu_X10_61_X10 rfl ykx_X7_refuse rfl (ent_lt (rfl : entTbl[54]? = some (5, 0))) (ent_at (rfl : entTbl[54]? = some (5, 0)) _) (rfl : vCl[9]? = some (RX10, TX10, 14)) ⟨Nat.le_of_ble_eq_true rfl, Nat.le_of_ble_eq_true rfl⟩ ⟨Nat.le_of_ble_eq_true rfl, Nat.le_of_ble_eq_true rfl⟩ (Nat.le_of_ble_eq_true rfl) dX10_readsWed_13 rfl ?_
    exact e_zret X hr rfl dX10_readsWed_16 (Nat.le_of_ble_eq_true rfl) (Nat.le_of_ble_eq_true rfl) (by cases hF; exact ⟨rfl, rfl⟩)
set_option maxRecDepth 20000 in
set_option maxHeartbeats 4000000 in
theorem C_TTx_readsSetting (hG : Gok l Γ D s0) (σ : Mem) (v1 : Int32)  {out : Mem × Int32} (hF : F_TTx_readsSetting σ v1 = some out) : CT l Γ D s0 yX10_readsSetting cX10_readsSetting 3 (some .boolean) (2) 0 0 (42) σ [.ref (Γ.1 + 54), va_rf (kop Γ v1)] (PI (some (.int out.2)) out.1) := by
  unfold F_TTx_readsSetting at hF
  refine e_met (own := RX10) hG (by decide +kernel) rfl (by simp only [List.all_cons, List.all_nil, rf_cat]; rfl) (Nat.le_of_ble_eq_true rfl) ?_
  intro p e s m args below meth c X hr
  show E p l e _ s m args below meth c Γ D 0 0 _ σ 0 [some (.ref (Γ.1 + 54)), some (va_rf (kop Γ v1)), none] []
  refine e_raload_n X dX10_readsSetting_0 rfl rfl ?_
  refine e_kstatic X 5 rfl rfl wf_X10_125 dX10_readsSetting_1 ?_
  obtain ⟨c1, hF⟩ := chk_out hF
  refine e_kacmp_eq X 26 c1 rfl dX10_readsSetting_4 (by decide) (fun c2 => ?_) (fun c2 => ?_)
  · skip
    rw [if_pos c2] at hF
    refine e_aload_n X dX10_readsSetting_26 rfl rfl ?_
    obtain ⟨z3, h_z3, hF⟩ := obind_out hF
    refine e_callUv X (σ1 := z3) [] [] (C_Text_advance (Cx_gok X) σ 54 ok_Text_54 h_z3) gu_X10_64_X10 rfl ykx_X7_advance rfl (ent_lt (rfl : entTbl[54]? = some (5, 0))) (ent_at (rfl : entTbl[54]? = some (5, 0)) _) (rfl : vCl[9]? = some (RX10, TX10, 14)) ⟨Nat.le_of_ble_eq_true rfl, Nat.le_of_ble_eq_true rfl⟩ ⟨Nat.le_of_ble_eq_true rfl, Nat.le_of_ble_eq_true rfl⟩ (Nat.le_of_ble_eq_true rfl) dX10_readsSetting_27 rfl ?_
    refine e_aload_n X dX10_readsSetting_30 rfl rfl ?_
    refine e_raload_n X dX10_readsSetting_31 rfl rfl ?_
    refine e_kstatic X 6 rfl rfl wf_X10_128 dX10_readsSetting_32 ?_
    refine e_kacmp_ne X 43 c1 rfl dX10_readsSetting_35 (by decide) (fun c4 => ?_) (fun c4 => ?_)
    · skip
      rw [if_neg c4] at hF
      refine e_bipush X 99 dX10_readsSetting_43 rfl ?_
      obtain ⟨z5, h_z5, hF⟩ := obind_out hF
      refine e_callUi X (r := z5.2) (σ1 := z5.1) [.int 99] [] (C_Text_takeNumber (Cx_gok X) z3 54 99 ok_Text_54 h_z5) gu_X10_67_X10 rfl ykx_X7_takeNumber rfl (ent_lt (rfl : entTbl[54]? = some (5, 0))) (ent_at (rfl : entTbl[54]? = some (5, 0)) _) (rfl : vCl[9]? = some (RX10, TX10, 14)) ⟨Nat.le_of_ble_eq_true rfl, Nat.le_of_ble_eq_true rfl⟩ ⟨Nat.le_of_ble_eq_true rfl, Nat.le_of_ble_eq_true rfl⟩ (Nat.le_of_ble_eq_true rfl) dX10_readsSetting_45 rfl ?_
      refine e_istore_n X rfl dX10_readsSetting_48 rfl (by decide) ?_
      refine e_iload_n X dX10_readsSetting_49 rfl rfl ?_
      refine e_iconst X (-1) dX10_readsSetting_50 rfl ?_
      refine e_icmp_ne X 56 dX10_readsSetting_51 (by decide) (fun c6 => ?_) (fun c6 => ?_)
      · skip
        rw [if_neg c6] at hF
        refine e_raload_n X dX10_readsSetting_56 rfl rfl ?_
        refine e_kstatic X 5 rfl rfl wf_X10_125 dX10_readsSetting_57 ?_
        refine e_kacmp_ne X 74 c1 rfl dX10_readsSetting_60 (by decide) (fun c7 => ?_) (fun c7 => ?_)
        · skip
          rw [if_neg c7] at hF
          refine e_raload_n X dX10_readsSetting_74 rfl rfl ?_
          refine e_kstatic X 6 rfl rfl wf_X10_128 dX10_readsSetting_75 ?_
          refine e_kacmp_ne X 92 c1 rfl dX10_readsSetting_78 (by decide) (fun c8 => ?_) (fun c8 => ?_)
          · skip
            rw [if_neg c8] at hF
            refine e_aload_n X dX10_readsSetting_92 rfl rfl ?_
            refine ge_TTx_draft X wf_X10_12 dX10_readsSetting_93 ?_
            refine e_iload_n X dX10_readsSetting_96 rfl rfl ?_
            obtain ⟨σ9, h_σ9, hF⟩ := bindT_out hF
            refine pu_Town_pays X ok_Town_61 wf_X10_140 dX10_readsSetting_97 h_σ9 ?_
            refine e_iconst X 1 dX10_readsSetting_100 rfl ?_
            exact e_zret X hr rfl dX10_readsSetting_101 (Nat.le_of_ble_eq_true rfl) (Nat.le_of_ble_eq_true rfl) (by cases hF; exact ⟨rfl, rfl⟩)
          · skip
            rw [if_pos c8] at hF
            refine e_aload_n X dX10_readsSetting_81 rfl rfl ?_
            refine ge_TTx_draft X wf_X10_12 dX10_readsSetting_82 ?_
            refine e_iload_n X dX10_readsSetting_85 rfl rfl ?_
            obtain ⟨σ10, h_σ10, hF⟩ := bindT_out hF
            refine pu_Town_premium X ok_Town_61 wf_X10_137 dX10_readsSetting_86 h_σ10 ?_
            refine e_goto X 100 dX10_readsSetting_89 (by decide) ?_
            refine e_iconst X 1 dX10_readsSetting_100 rfl ?_
            exact e_zret X hr rfl dX10_readsSetting_101 (Nat.le_of_ble_eq_true rfl) (Nat.le_of_ble_eq_true rfl) (by cases hF; exact ⟨rfl, rfl⟩)
        · skip
          rw [if_pos c7] at hF
          refine e_aload_n X dX10_readsSetting_63 rfl rfl ?_
          refine ge_TTx_draft X wf_X10_12 dX10_readsSetting_64 ?_
          refine e_iload_n X dX10_readsSetting_67 rfl rfl ?_
          obtain ⟨σ11, h_σ11, hF⟩ := bindT_out hF
          refine pu_Town_bar X ok_Town_61 wf_X10_134 dX10_readsSetting_68 h_σ11 ?_
          refine e_goto X 100 dX10_readsSetting_71 (by decide) ?_
          refine e_iconst X 1 dX10_readsSetting_100 rfl ?_
          exact e_zret X hr rfl dX10_readsSetting_101 (Nat.le_of_ble_eq_true rfl) (Nat.le_of_ble_eq_true rfl) (by cases hF; exact ⟨rfl, rfl⟩)
      · skip
        rw [if_pos c6] at hF
        refine e_iconst X 0 dX10_readsSetting_54 rfl ?_
        exact e_zret X hr rfl dX10_readsSetting_55 (Nat.le_of_ble_eq_true rfl) (Nat.le_of_ble_eq_true rfl) (by cases hF; exact ⟨rfl, rfl⟩)
    · skip
      rw [if_pos c4] at hF
      refine e_bipush X 20 dX10_readsSetting_38 rfl ?_
      refine e_goto X 45 dX10_readsSetting_40 (by decide) ?_
      obtain ⟨z12, h_z12, hF⟩ := obind_out hF
      refine e_callUi X (r := z12.2) (σ1 := z12.1) [.int 20] [] (C_Text_takeNumber (Cx_gok X) z3 54 20 ok_Text_54 h_z12) gu_X10_67_X10 rfl ykx_X7_takeNumber rfl (ent_lt (rfl : entTbl[54]? = some (5, 0))) (ent_at (rfl : entTbl[54]? = some (5, 0)) _) (rfl : vCl[9]? = some (RX10, TX10, 14)) ⟨Nat.le_of_ble_eq_true rfl, Nat.le_of_ble_eq_true rfl⟩ ⟨Nat.le_of_ble_eq_true rfl, Nat.le_of_ble_eq_true rfl⟩ (Nat.le_of_ble_eq_true rfl) dX10_readsSetting_45 rfl ?_
      refine e_istore_n X rfl dX10_readsSetting_48 rfl (by decide) ?_
      refine e_iload_n X dX10_readsSetting_49 rfl rfl ?_
      refine e_iconst X (-1) dX10_readsSetting_50 rfl ?_
      refine e_icmp_ne X 56 dX10_readsSetting_51 (by decide) (fun c13 => ?_) (fun c13 => ?_)
      · skip
        rw [if_neg c13] at hF
        refine e_raload_n X dX10_readsSetting_56 rfl rfl ?_
        refine e_kstatic X 5 rfl rfl wf_X10_125 dX10_readsSetting_57 ?_
        refine e_kacmp_ne X 74 c1 rfl dX10_readsSetting_60 (by decide) (fun c14 => ?_) (fun c14 => ?_)
        · skip
          rw [if_neg c14] at hF
          refine e_raload_n X dX10_readsSetting_74 rfl rfl ?_
          refine e_kstatic X 6 rfl rfl wf_X10_128 dX10_readsSetting_75 ?_
          refine e_kacmp_ne X 92 c1 rfl dX10_readsSetting_78 (by decide) (fun c15 => ?_) (fun c15 => ?_)
          · skip
            rw [if_neg c15] at hF
            refine e_aload_n X dX10_readsSetting_92 rfl rfl ?_
            refine ge_TTx_draft X wf_X10_12 dX10_readsSetting_93 ?_
            refine e_iload_n X dX10_readsSetting_96 rfl rfl ?_
            obtain ⟨σ16, h_σ16, hF⟩ := bindT_out hF
            refine pu_Town_pays X ok_Town_61 wf_X10_140 dX10_readsSetting_97 h_σ16 ?_
            refine e_iconst X 1 dX10_readsSetting_100 rfl ?_
            exact e_zret X hr rfl dX10_readsSetting_101 (Nat.le_of_ble_eq_true rfl) (Nat.le_of_ble_eq_true rfl) (by cases hF; exact ⟨rfl, rfl⟩)
          · skip
            rw [if_pos c15] at hF
            refine e_aload_n X dX10_readsSetting_81 rfl rfl ?_
            refine ge_TTx_draft X wf_X10_12 dX10_readsSetting_82 ?_
            refine e_iload_n X dX10_readsSetting_85 rfl rfl ?_
            obtain ⟨σ17, h_σ17, hF⟩ := bindT_out hF
            refine pu_Town_premium X ok_Town_61 wf_X10_137 dX10_readsSetting_86 h_σ17 ?_
            refine e_goto X 100 dX10_readsSetting_89 (by decide) ?_
            refine e_iconst X 1 dX10_readsSetting_100 rfl ?_
            exact e_zret X hr rfl dX10_readsSetting_101 (Nat.le_of_ble_eq_true rfl) (Nat.le_of_ble_eq_true rfl) (by cases hF; exact ⟨rfl, rfl⟩)
        · skip
          rw [if_pos c14] at hF
          refine e_aload_n X dX10_readsSetting_63 rfl rfl ?_
          refine ge_TTx_draft X wf_X10_12 dX10_readsSetting_64 ?_
          refine e_iload_n X dX10_readsSetting_67 rfl rfl ?_
          obtain ⟨σ18, h_σ18, hF⟩ := bindT_out hF
          refine pu_Town_bar X ok_Town_61 wf_X10_134 dX10_readsSetting_68 h_σ18 ?_
          refine e_goto X 100 dX10_readsSetting_71 (by decide) ?_
          refine e_iconst X 1 dX10_readsSetting_100 rfl ?_
          exact e_zret X hr rfl dX10_readsSetting_101 (Nat.le_of_ble_eq_true rfl) (Nat.le_of_ble_eq_true rfl) (by cases hF; exact ⟨rfl, rfl⟩)
      · skip
        rw [if_pos c13] at hF
        refine e_iconst X 0 dX10_readsSetting_54 rfl ?_
        exact e_zret X hr rfl dX10_readsSetting_55 (Nat.le_of_ble_eq_true rfl) (Nat.le_of_ble_eq_true rfl) (by cases hF; exact ⟨rfl, rfl⟩)
  · skip
    rw [if_neg c2] at hF
    refine e_raload_n X dX10_readsSetting_7 rfl rfl ?_
    refine e_kstatic X 6 rfl rfl wf_X10_128 dX10_readsSetting_8 ?_
    refine e_kacmp_eq X 26 c1 rfl dX10_readsSetting_11 (by decide) (fun c19 => ?_) (fun c19 => ?_)
    · skip
      rw [if_pos c19] at hF
      refine e_aload_n X dX10_readsSetting_26 rfl rfl ?_
      obtain ⟨z20, h_z20, hF⟩ := obind_out hF
      refine e_callUv X (σ1 := z20) [] [] (C_Text_advance (Cx_gok X) σ 54 ok_Text_54 h_z20) gu_X10_64_X10 rfl ykx_X7_advance rfl (ent_lt (rfl : entTbl[54]? = some (5, 0))) (ent_at (rfl : entTbl[54]? = some (5, 0)) _) (rfl : vCl[9]? = some (RX10, TX10, 14)) ⟨Nat.le_of_ble_eq_true rfl, Nat.le_of_ble_eq_true rfl⟩ ⟨Nat.le_of_ble_eq_true rfl, Nat.le_of_ble_eq_true rfl⟩ (Nat.le_of_ble_eq_true rfl) dX10_readsSetting_27 rfl ?_
      refine e_aload_n X dX10_readsSetting_30 rfl rfl ?_
      refine e_raload_n X dX10_readsSetting_31 rfl rfl ?_
      refine e_kstatic X 6 rfl rfl wf_X10_128 dX10_readsSetting_32 ?_
      refine e_kacmp_ne X 43 c1 rfl dX10_readsSetting_35 (by decide) (fun c21 => ?_) (fun c21 => ?_)
      · skip
        rw [if_neg c21] at hF
        refine e_bipush X 99 dX10_readsSetting_43 rfl ?_
        obtain ⟨z22, h_z22, hF⟩ := obind_out hF
        refine e_callUi X (r := z22.2) (σ1 := z22.1) [.int 99] [] (C_Text_takeNumber (Cx_gok X) z20 54 99 ok_Text_54 h_z22) gu_X10_67_X10 rfl ykx_X7_takeNumber rfl (ent_lt (rfl : entTbl[54]? = some (5, 0))) (ent_at (rfl : entTbl[54]? = some (5, 0)) _) (rfl : vCl[9]? = some (RX10, TX10, 14)) ⟨Nat.le_of_ble_eq_true rfl, Nat.le_of_ble_eq_true rfl⟩ ⟨Nat.le_of_ble_eq_true rfl, Nat.le_of_ble_eq_true rfl⟩ (Nat.le_of_ble_eq_true rfl) dX10_readsSetting_45 rfl ?_
        refine e_istore_n X rfl dX10_readsSetting_48 rfl (by decide) ?_
        refine e_iload_n X dX10_readsSetting_49 rfl rfl ?_
        refine e_iconst X (-1) dX10_readsSetting_50 rfl ?_
        refine e_icmp_ne X 56 dX10_readsSetting_51 (by decide) (fun c23 => ?_) (fun c23 => ?_)
        · skip
          rw [if_neg c23] at hF
          refine e_raload_n X dX10_readsSetting_56 rfl rfl ?_
          refine e_kstatic X 5 rfl rfl wf_X10_125 dX10_readsSetting_57 ?_
          refine e_kacmp_ne X 74 c1 rfl dX10_readsSetting_60 (by decide) (fun c24 => ?_) (fun c24 => ?_)
          · skip
            rw [if_neg c24] at hF
            refine e_raload_n X dX10_readsSetting_74 rfl rfl ?_
            refine e_kstatic X 6 rfl rfl wf_X10_128 dX10_readsSetting_75 ?_
            refine e_kacmp_ne X 92 c1 rfl dX10_readsSetting_78 (by decide) (fun c25 => ?_) (fun c25 => ?_)
            · skip
              rw [if_neg c25] at hF
              refine e_aload_n X dX10_readsSetting_92 rfl rfl ?_
              refine ge_TTx_draft X wf_X10_12 dX10_readsSetting_93 ?_
              refine e_iload_n X dX10_readsSetting_96 rfl rfl ?_
              obtain ⟨σ26, h_σ26, hF⟩ := bindT_out hF
              refine pu_Town_pays X ok_Town_61 wf_X10_140 dX10_readsSetting_97 h_σ26 ?_
              refine e_iconst X 1 dX10_readsSetting_100 rfl ?_
              exact e_zret X hr rfl dX10_readsSetting_101 (Nat.le_of_ble_eq_true rfl) (Nat.le_of_ble_eq_true rfl) (by cases hF; exact ⟨rfl, rfl⟩)
            · skip
              rw [if_pos c25] at hF
              refine e_aload_n X dX10_readsSetting_81 rfl rfl ?_
              refine ge_TTx_draft X wf_X10_12 dX10_readsSetting_82 ?_
              refine e_iload_n X dX10_readsSetting_85 rfl rfl ?_
              obtain ⟨σ27, h_σ27, hF⟩ := bindT_out hF
              refine pu_Town_premium X ok_Town_61 wf_X10_137 dX10_readsSetting_86 h_σ27 ?_
              refine e_goto X 100 dX10_readsSetting_89 (by decide) ?_
              refine e_iconst X 1 dX10_readsSetting_100 rfl ?_
              exact e_zret X hr rfl dX10_readsSetting_101 (Nat.le_of_ble_eq_true rfl) (Nat.le_of_ble_eq_true rfl) (by cases hF; exact ⟨rfl, rfl⟩)
          · skip
            rw [if_pos c24] at hF
            refine e_aload_n X dX10_readsSetting_63 rfl rfl ?_
            refine ge_TTx_draft X wf_X10_12 dX10_readsSetting_64 ?_
            refine e_iload_n X dX10_readsSetting_67 rfl rfl ?_
            obtain ⟨σ28, h_σ28, hF⟩ := bindT_out hF
            refine pu_Town_bar X ok_Town_61 wf_X10_134 dX10_readsSetting_68 h_σ28 ?_
            refine e_goto X 100 dX10_readsSetting_71 (by decide) ?_
            refine e_iconst X 1 dX10_readsSetting_100 rfl ?_
            exact e_zret X hr rfl dX10_readsSetting_101 (Nat.le_of_ble_eq_true rfl) (Nat.le_of_ble_eq_true rfl) (by cases hF; exact ⟨rfl, rfl⟩)
        · skip
          rw [if_pos c23] at hF
          refine e_iconst X 0 dX10_readsSetting_54 rfl ?_
          exact e_zret X hr rfl dX10_readsSetting_55 (Nat.le_of_ble_eq_true rfl) (Nat.le_of_ble_eq_true rfl) (by cases hF; exact ⟨rfl, rfl⟩)
      · skip
        rw [if_pos c21] at hF
        refine e_bipush X 20 dX10_readsSetting_38 rfl ?_
        refine e_goto X 45 dX10_readsSetting_40 (by decide) ?_
        obtain ⟨z29, h_z29, hF⟩ := obind_out hF
        refine e_callUi X (r := z29.2) (σ1 := z29.1) [.int 20] [] (C_Text_takeNumber (Cx_gok X) z20 54 20 ok_Text_54 h_z29) gu_X10_67_X10 rfl ykx_X7_takeNumber rfl (ent_lt (rfl : entTbl[54]? = some (5, 0))) (ent_at (rfl : entTbl[54]? = some (5, 0)) _) (rfl : vCl[9]? = some (RX10, TX10, 14)) ⟨Nat.le_of_ble_eq_true rfl, Nat.le_of_ble_eq_true rfl⟩ ⟨Nat.le_of_ble_eq_true rfl, Nat.le_of_ble_eq_true rfl⟩ (Nat.le_of_ble_eq_true rfl) dX10_readsSetting_45 rfl ?_
        refine e_istore_n X rfl dX10_readsSetting_48 rfl (by decide) ?_
        refine e_iload_n X dX10_readsSetting_49 rfl rfl ?_
        refine e_iconst X (-1) dX10_readsSetting_50 rfl ?_
        refine e_icmp_ne X 56 dX10_readsSetting_51 (by decide) (fun c30 => ?_) (fun c30 => ?_)
        · skip
          rw [if_neg c30] at hF
          refine e_raload_n X dX10_readsSetting_56 rfl rfl ?_
          refine e_kstatic X 5 rfl rfl wf_X10_125 dX10_readsSetting_57 ?_
          refine e_kacmp_ne X 74 c1 rfl dX10_readsSetting_60 (by decide) (fun c31 => ?_) (fun c31 => ?_)
          · skip
            rw [if_neg c31] at hF
            refine e_raload_n X dX10_readsSetting_74 rfl rfl ?_
            refine e_kstatic X 6 rfl rfl wf_X10_128 dX10_readsSetting_75 ?_
            refine e_kacmp_ne X 92 c1 rfl dX10_readsSetting_78 (by decide) (fun c32 => ?_) (fun c32 => ?_)
            · skip
              rw [if_neg c32] at hF
              refine e_aload_n X dX10_readsSetting_92 rfl rfl ?_
              refine ge_TTx_draft X wf_X10_12 dX10_readsSetting_93 ?_
              refine e_iload_n X dX10_readsSetting_96 rfl rfl ?_
              obtain ⟨σ33, h_σ33, hF⟩ := bindT_out hF
              refine pu_Town_pays X ok_Town_61 wf_X10_140 dX10_readsSetting_97 h_σ33 ?_
              refine e_iconst X 1 dX10_readsSetting_100 rfl ?_
              exact e_zret X hr rfl dX10_readsSetting_101 (Nat.le_of_ble_eq_true rfl) (Nat.le_of_ble_eq_true rfl) (by cases hF; exact ⟨rfl, rfl⟩)
            · skip
              rw [if_pos c32] at hF
              refine e_aload_n X dX10_readsSetting_81 rfl rfl ?_
              refine ge_TTx_draft X wf_X10_12 dX10_readsSetting_82 ?_
              refine e_iload_n X dX10_readsSetting_85 rfl rfl ?_
              obtain ⟨σ34, h_σ34, hF⟩ := bindT_out hF
              refine pu_Town_premium X ok_Town_61 wf_X10_137 dX10_readsSetting_86 h_σ34 ?_
              refine e_goto X 100 dX10_readsSetting_89 (by decide) ?_
              refine e_iconst X 1 dX10_readsSetting_100 rfl ?_
              exact e_zret X hr rfl dX10_readsSetting_101 (Nat.le_of_ble_eq_true rfl) (Nat.le_of_ble_eq_true rfl) (by cases hF; exact ⟨rfl, rfl⟩)
          · skip
            rw [if_pos c31] at hF
            refine e_aload_n X dX10_readsSetting_63 rfl rfl ?_
            refine ge_TTx_draft X wf_X10_12 dX10_readsSetting_64 ?_
            refine e_iload_n X dX10_readsSetting_67 rfl rfl ?_
            obtain ⟨σ35, h_σ35, hF⟩ := bindT_out hF
            refine pu_Town_bar X ok_Town_61 wf_X10_134 dX10_readsSetting_68 h_σ35 ?_
            refine e_goto X 100 dX10_readsSetting_71 (by decide) ?_
            refine e_iconst X 1 dX10_readsSetting_100 rfl ?_
            exact e_zret X hr rfl dX10_readsSetting_101 (Nat.le_of_ble_eq_true rfl) (Nat.le_of_ble_eq_true rfl) (by cases hF; exact ⟨rfl, rfl⟩)
        · skip
          rw [if_pos c30] at hF
          refine e_iconst X 0 dX10_readsSetting_54 rfl ?_
          exact e_zret X hr rfl dX10_readsSetting_55 (Nat.le_of_ble_eq_true rfl) (Nat.le_of_ble_eq_true rfl) (by cases hF; exact ⟨rfl, rfl⟩)
    · skip
      rw [if_neg c19] at hF
      refine e_raload_n X dX10_readsSetting_14 rfl rfl ?_
      refine e_kstatic X 7 rfl rfl wf_X10_131 dX10_readsSetting_15 ?_
      refine e_kacmp_eq X 26 c1 rfl dX10_readsSetting_18 (by decide) (fun c36 => ?_) (fun c36 => ?_)
      · skip
        rw [if_pos c36] at hF
        refine e_aload_n X dX10_readsSetting_26 rfl rfl ?_
        obtain ⟨z37, h_z37, hF⟩ := obind_out hF
        refine e_callUv X (σ1 := z37) [] [] (C_Text_advance (Cx_gok X) σ 54 ok_Text_54 h_z37) gu_X10_64_X10 rfl ykx_X7_advance rfl (ent_lt (rfl : entTbl[54]? = some (5, 0))) (ent_at (rfl : entTbl[54]? = some (5, 0)) _) (rfl : vCl[9]? = some (RX10, TX10, 14)) ⟨Nat.le_of_ble_eq_true rfl, Nat.le_of_ble_eq_true rfl⟩ ⟨Nat.le_of_ble_eq_true rfl, Nat.le_of_ble_eq_true rfl⟩ (Nat.le_of_ble_eq_true rfl) dX10_readsSetting_27 rfl ?_
        refine e_aload_n X dX10_readsSetting_30 rfl rfl ?_
        refine e_raload_n X dX10_readsSetting_31 rfl rfl ?_
        refine e_kstatic X 6 rfl rfl wf_X10_128 dX10_readsSetting_32 ?_
        refine e_kacmp_ne X 43 c1 rfl dX10_readsSetting_35 (by decide) (fun c38 => ?_) (fun c38 => ?_)
        · skip
          rw [if_neg c38] at hF
          refine e_bipush X 99 dX10_readsSetting_43 rfl ?_
          obtain ⟨z39, h_z39, hF⟩ := obind_out hF
          refine e_callUi X (r := z39.2) (σ1 := z39.1) [.int 99] [] (C_Text_takeNumber (Cx_gok X) z37 54 99 ok_Text_54 h_z39) gu_X10_67_X10 rfl ykx_X7_takeNumber rfl (ent_lt (rfl : entTbl[54]? = some (5, 0))) (ent_at (rfl : entTbl[54]? = some (5, 0)) _) (rfl : vCl[9]? = some (RX10, TX10, 14)) ⟨Nat.le_of_ble_eq_true rfl, Nat.le_of_ble_eq_true rfl⟩ ⟨Nat.le_of_ble_eq_true rfl, Nat.le_of_ble_eq_true rfl⟩ (Nat.le_of_ble_eq_true rfl) dX10_readsSetting_45 rfl ?_
          refine e_istore_n X rfl dX10_readsSetting_48 rfl (by decide) ?_
          refine e_iload_n X dX10_readsSetting_49 rfl rfl ?_
          refine e_iconst X (-1) dX10_readsSetting_50 rfl ?_
          refine e_icmp_ne X 56 dX10_readsSetting_51 (by decide) (fun c40 => ?_) (fun c40 => ?_)
          · skip
            rw [if_neg c40] at hF
            refine e_raload_n X dX10_readsSetting_56 rfl rfl ?_
            refine e_kstatic X 5 rfl rfl wf_X10_125 dX10_readsSetting_57 ?_
            refine e_kacmp_ne X 74 c1 rfl dX10_readsSetting_60 (by decide) (fun c41 => ?_) (fun c41 => ?_)
            · skip
              rw [if_neg c41] at hF
              refine e_raload_n X dX10_readsSetting_74 rfl rfl ?_
              refine e_kstatic X 6 rfl rfl wf_X10_128 dX10_readsSetting_75 ?_
              refine e_kacmp_ne X 92 c1 rfl dX10_readsSetting_78 (by decide) (fun c42 => ?_) (fun c42 => ?_)
              · skip
                rw [if_neg c42] at hF
                refine e_aload_n X dX10_readsSetting_92 rfl rfl ?_
                refine ge_TTx_draft X wf_X10_12 dX10_readsSetting_93 ?_
                refine e_iload_n X dX10_readsSetting_96 rfl rfl ?_
                obtain ⟨σ43, h_σ43, hF⟩ := bindT_out hF
                refine pu_Town_pays X ok_Town_61 wf_X10_140 dX10_readsSetting_97 h_σ43 ?_
                refine e_iconst X 1 dX10_readsSetting_100 rfl ?_
                exact e_zret X hr rfl dX10_readsSetting_101 (Nat.le_of_ble_eq_true rfl) (Nat.le_of_ble_eq_true rfl) (by cases hF; exact ⟨rfl, rfl⟩)
              · skip
                rw [if_pos c42] at hF
                refine e_aload_n X dX10_readsSetting_81 rfl rfl ?_
                refine ge_TTx_draft X wf_X10_12 dX10_readsSetting_82 ?_
                refine e_iload_n X dX10_readsSetting_85 rfl rfl ?_
                obtain ⟨σ44, h_σ44, hF⟩ := bindT_out hF
                refine pu_Town_premium X ok_Town_61 wf_X10_137 dX10_readsSetting_86 h_σ44 ?_
                refine e_goto X 100 dX10_readsSetting_89 (by decide) ?_
                refine e_iconst X 1 dX10_readsSetting_100 rfl ?_
                exact e_zret X hr rfl dX10_readsSetting_101 (Nat.le_of_ble_eq_true rfl) (Nat.le_of_ble_eq_true rfl) (by cases hF; exact ⟨rfl, rfl⟩)
            · skip
              rw [if_pos c41] at hF
              refine e_aload_n X dX10_readsSetting_63 rfl rfl ?_
              refine ge_TTx_draft X wf_X10_12 dX10_readsSetting_64 ?_
              refine e_iload_n X dX10_readsSetting_67 rfl rfl ?_
              obtain ⟨σ45, h_σ45, hF⟩ := bindT_out hF
              refine pu_Town_bar X ok_Town_61 wf_X10_134 dX10_readsSetting_68 h_σ45 ?_
              refine e_goto X 100 dX10_readsSetting_71 (by decide) ?_
              refine e_iconst X 1 dX10_readsSetting_100 rfl ?_
              exact e_zret X hr rfl dX10_readsSetting_101 (Nat.le_of_ble_eq_true rfl) (Nat.le_of_ble_eq_true rfl) (by cases hF; exact ⟨rfl, rfl⟩)
          · skip
            rw [if_pos c40] at hF
            refine e_iconst X 0 dX10_readsSetting_54 rfl ?_
            exact e_zret X hr rfl dX10_readsSetting_55 (Nat.le_of_ble_eq_true rfl) (Nat.le_of_ble_eq_true rfl) (by cases hF; exact ⟨rfl, rfl⟩)
        · skip
          rw [if_pos c38] at hF
          refine e_bipush X 20 dX10_readsSetting_38 rfl ?_
          refine e_goto X 45 dX10_readsSetting_40 (by decide) ?_
          obtain ⟨z46, h_z46, hF⟩ := obind_out hF
          refine e_callUi X (r := z46.2) (σ1 := z46.1) [.int 20] [] (C_Text_takeNumber (Cx_gok X) z37 54 20 ok_Text_54 h_z46) gu_X10_67_X10 rfl ykx_X7_takeNumber rfl (ent_lt (rfl : entTbl[54]? = some (5, 0))) (ent_at (rfl : entTbl[54]? = some (5, 0)) _) (rfl : vCl[9]? = some (RX10, TX10, 14)) ⟨Nat.le_of_ble_eq_true rfl, Nat.le_of_ble_eq_true rfl⟩ ⟨Nat.le_of_ble_eq_true rfl, Nat.le_of_ble_eq_true rfl⟩ (Nat.le_of_ble_eq_true rfl) dX10_readsSetting_45 rfl ?_
          refine e_istore_n X rfl dX10_readsSetting_48 rfl (by decide) ?_
          refine e_iload_n X dX10_readsSetting_49 rfl rfl ?_
          refine e_iconst X (-1) dX10_readsSetting_50 rfl ?_
          refine e_icmp_ne X 56 dX10_readsSetting_51 (by decide) (fun c47 => ?_) (fun c47 => ?_)
          · skip
            rw [if_neg c47] at hF
            refine e_raload_n X dX10_readsSetting_56 rfl rfl ?_
            refine e_kstatic X 5 rfl rfl wf_X10_125 dX10_readsSetting_57 ?_
            refine e_kacmp_ne X 74 c1 rfl dX10_readsSetting_60 (by decide) (fun c48 => ?_) (fun c48 => ?_)
            · skip
              rw [if_neg c48] at hF
              refine e_raload_n X dX10_readsSetting_74 rfl rfl ?_
              refine e_kstatic X 6 rfl rfl wf_X10_128 dX10_readsSetting_75 ?_
              refine e_kacmp_ne X 92 c1 rfl dX10_readsSetting_78 (by decide) (fun c49 => ?_) (fun c49 => ?_)
              · skip
                rw [if_neg c49] at hF
                refine e_aload_n X dX10_readsSetting_92 rfl rfl ?_
                refine ge_TTx_draft X wf_X10_12 dX10_readsSetting_93 ?_
                refine e_iload_n X dX10_readsSetting_96 rfl rfl ?_
                obtain ⟨σ50, h_σ50, hF⟩ := bindT_out hF
                refine pu_Town_pays X ok_Town_61 wf_X10_140 dX10_readsSetting_97 h_σ50 ?_
                refine e_iconst X 1 dX10_readsSetting_100 rfl ?_
                exact e_zret X hr rfl dX10_readsSetting_101 (Nat.le_of_ble_eq_true rfl) (Nat.le_of_ble_eq_true rfl) (by cases hF; exact ⟨rfl, rfl⟩)
              · skip
                rw [if_pos c49] at hF
                refine e_aload_n X dX10_readsSetting_81 rfl rfl ?_
                refine ge_TTx_draft X wf_X10_12 dX10_readsSetting_82 ?_
                refine e_iload_n X dX10_readsSetting_85 rfl rfl ?_
                obtain ⟨σ51, h_σ51, hF⟩ := bindT_out hF
                refine pu_Town_premium X ok_Town_61 wf_X10_137 dX10_readsSetting_86 h_σ51 ?_
                refine e_goto X 100 dX10_readsSetting_89 (by decide) ?_
                refine e_iconst X 1 dX10_readsSetting_100 rfl ?_
                exact e_zret X hr rfl dX10_readsSetting_101 (Nat.le_of_ble_eq_true rfl) (Nat.le_of_ble_eq_true rfl) (by cases hF; exact ⟨rfl, rfl⟩)
            · skip
              rw [if_pos c48] at hF
              refine e_aload_n X dX10_readsSetting_63 rfl rfl ?_
              refine ge_TTx_draft X wf_X10_12 dX10_readsSetting_64 ?_
              refine e_iload_n X dX10_readsSetting_67 rfl rfl ?_
              obtain ⟨σ52, h_σ52, hF⟩ := bindT_out hF
              refine pu_Town_bar X ok_Town_61 wf_X10_134 dX10_readsSetting_68 h_σ52 ?_
              refine e_goto X 100 dX10_readsSetting_71 (by decide) ?_
              refine e_iconst X 1 dX10_readsSetting_100 rfl ?_
              exact e_zret X hr rfl dX10_readsSetting_101 (Nat.le_of_ble_eq_true rfl) (Nat.le_of_ble_eq_true rfl) (by cases hF; exact ⟨rfl, rfl⟩)
          · skip
            rw [if_pos c47] at hF
            refine e_iconst X 0 dX10_readsSetting_54 rfl ?_
            exact e_zret X hr rfl dX10_readsSetting_55 (Nat.le_of_ble_eq_true rfl) (Nat.le_of_ble_eq_true rfl) (by cases hF; exact ⟨rfl, rfl⟩)
      · skip
        rw [if_neg c36] at hF
        refine e_aload_n X dX10_readsSetting_21 rfl rfl ?_
        obtain ⟨z53, h_z53, hF⟩ := bindT_out hF
        refine e_callUi X (r := z53.2) (σ1 := z53.1) [] [] (by rw [h_z53]; exact C_Text_refuse (Cx_gok X) σ 54 ok_Text_54) gu_X10_61_X10 rfl ykx_X7_refuse rfl (ent_lt (rfl : entTbl[54]? = some (5, 0))) (ent_at (rfl : entTbl[54]? = some (5, 0)) _) (rfl : vCl[9]? = some (RX10, TX10, 14)) ⟨Nat.le_of_ble_eq_true rfl, Nat.le_of_ble_eq_true rfl⟩ ⟨Nat.le_of_ble_eq_true rfl, Nat.le_of_ble_eq_true rfl⟩ (Nat.le_of_ble_eq_true rfl) dX10_readsSetting_22 rfl ?_
        exact e_zret X hr rfl dX10_readsSetting_25 (Nat.le_of_ble_eq_true rfl) (Nat.le_of_ble_eq_true rfl) (by cases hF; exact ⟨rfl, rfl⟩)
set_option maxRecDepth 20000 in
set_option maxHeartbeats 4000000 in
theorem C_TTx_readsLine (hG : Gok l Γ D s0) (σ : Mem)   {out : Mem × Int32} (hF : F_TTx_readsLine σ = some out) : CT l Γ D s0 yX10_readsLine cX10_readsLine 1 (some .boolean) (5) 0 0 (111) σ [.ref (Γ.1 + 54)] (PI (some (.int out.2)) out.1) := by
  unfold F_TTx_readsLine at hF
  refine e_met (own := RX10) hG (by decide +kernel) rfl rfl (Nat.le_of_ble_eq_true rfl) ?_
  intro p e s m args below meth c X hr
  show E p l e _ s m args below meth c Γ D 0 0 _ σ 0 [some (.ref (Γ.1 + 54))] []
  refine e_aload_n X dX10_readsLine_0 rfl rfl ?_
  refine ge_TTx_kind X wf_X10_18 dX10_readsLine_1 ?_
  refine e_kstatic X 0 rfl rfl wf_X10_22 dX10_readsLine_4 ?_
  obtain ⟨c1, hF⟩ := chk_out hF
  refine e_kacmp_ne X 15 c1 rfl dX10_readsLine_7 (by decide) (fun c2 => ?_) (fun c2 => ?_)
  · skip
    rw [if_neg c2] at hF
    refine e_aload_n X dX10_readsLine_15 rfl rfl ?_
    refine ge_TTx_kind X wf_X10_18 dX10_readsLine_16 ?_
    refine e_kstatic X 1 rfl rfl wf_X10_31 dX10_readsLine_19 ?_
    refine e_kacmp_ne X 30 c1 rfl dX10_readsLine_22 (by decide) (fun c3 => ?_) (fun c3 => ?_)
    · skip
      rw [if_neg c3] at hF
      refine e_aload_n X dX10_readsLine_30 rfl rfl ?_
      refine ge_TTx_kind X wf_X10_18 dX10_readsLine_31 ?_
      refine e_kstatic X 2 rfl rfl wf_X10_37 dX10_readsLine_34 ?_
      refine e_kacmp_eq X 50 c1 rfl dX10_readsLine_37 (by decide) (fun c4 => ?_) (fun c4 => ?_)
      · skip
        rw [if_pos c4] at hF
        refine e_aload_n X dX10_readsLine_50 rfl rfl ?_
        refine e_aload_n X dX10_readsLine_51 rfl rfl ?_
        refine ge_TTx_kind X wf_X10_18 dX10_readsLine_52 ?_
        refine e_kstatic X 2 rfl rfl wf_X10_37 dX10_readsLine_55 ?_
        refine e_kacmp_ne X 65 c1 rfl dX10_readsLine_58 (by decide) (fun c5 => ?_) (fun c5 => ?_)
        · skip
          rw [if_neg c5] at hF
          refine e_iconst X 0 dX10_readsLine_65 rfl ?_
          obtain ⟨z6, h_z6, hF⟩ := obind_out hF
          refine e_callVi X (r := z6.2) (σ1 := z6.1) [.int 0] [] (C_TTx_readsTwo (Cx_gok X) σ 0 h_z6) gv_X10_43 yk_X10_readsTwo rfl (ent_lt (rfl : entTbl[54]? = some (5, 0))) (ent_at (rfl : entTbl[54]? = some (5, 0)) _) (rfl : vCl[9]? = some (RX10, TX10, 14)) ⟨Nat.le_of_ble_eq_true rfl, Nat.le_of_ble_eq_true rfl⟩ ⟨Nat.le_of_ble_eq_true rfl, Nat.le_of_ble_eq_true rfl⟩ (Nat.le_of_ble_eq_true rfl) dX10_readsLine_66 rfl ?_
          exact e_zret X hr rfl dX10_readsLine_69 (Nat.le_of_ble_eq_true rfl) (Nat.le_of_ble_eq_true rfl) (by cases hF; exact ⟨rfl, rfl⟩)
        · skip
          rw [if_pos c5] at hF
          refine e_iconst X 1 dX10_readsLine_61 rfl ?_
          refine e_goto X 66 dX10_readsLine_62 (by decide) ?_
          obtain ⟨z7, h_z7, hF⟩ := obind_out hF
          refine e_callVi X (r := z7.2) (σ1 := z7.1) [.int 1] [] (C_TTx_readsTwo (Cx_gok X) σ 1 h_z7) gv_X10_43 yk_X10_readsTwo rfl (ent_lt (rfl : entTbl[54]? = some (5, 0))) (ent_at (rfl : entTbl[54]? = some (5, 0)) _) (rfl : vCl[9]? = some (RX10, TX10, 14)) ⟨Nat.le_of_ble_eq_true rfl, Nat.le_of_ble_eq_true rfl⟩ ⟨Nat.le_of_ble_eq_true rfl, Nat.le_of_ble_eq_true rfl⟩ (Nat.le_of_ble_eq_true rfl) dX10_readsLine_66 rfl ?_
          exact e_zret X hr rfl dX10_readsLine_69 (Nat.le_of_ble_eq_true rfl) (Nat.le_of_ble_eq_true rfl) (by cases hF; exact ⟨rfl, rfl⟩)
      · skip
        rw [if_neg c4] at hF
        refine e_aload_n X dX10_readsLine_40 rfl rfl ?_
        refine ge_TTx_kind X wf_X10_18 dX10_readsLine_41 ?_
        refine e_kstatic X 3 rfl rfl wf_X10_40 dX10_readsLine_44 ?_
        refine e_kacmp_ne X 70 c1 rfl dX10_readsLine_47 (by decide) (fun c8 => ?_) (fun c8 => ?_)
        · skip
          rw [if_neg c8] at hF
          refine e_aload_n X dX10_readsLine_70 rfl rfl ?_
          refine ge_TTx_kind X wf_X10_18 dX10_readsLine_71 ?_
          refine e_kstatic X 4 rfl rfl wf_X10_47 dX10_readsLine_74 ?_
          refine e_kacmp_ne X 85 c1 rfl dX10_readsLine_77 (by decide) (fun c9 => ?_) (fun c9 => ?_)
          · skip
            rw [if_neg c9] at hF
            refine e_aload_n X dX10_readsLine_85 rfl rfl ?_
            refine e_aload_n X dX10_readsLine_86 rfl rfl ?_
            refine ge_TTx_kind X wf_X10_18 dX10_readsLine_87 ?_
            obtain ⟨z10, h_z10, hF⟩ := obind_out hF
            refine e_callVi X (r := z10.2) (σ1 := z10.1) [va_rf (kop Γ ((σ 54 8)))] [] (C_TTx_readsSetting (Cx_gok X) σ ((σ 54 8)) h_z10) gv_X10_53 yk_X10_readsSetting rfl (ent_lt (rfl : entTbl[54]? = some (5, 0))) (ent_at (rfl : entTbl[54]? = some (5, 0)) _) (rfl : vCl[9]? = some (RX10, TX10, 14)) ⟨Nat.le_of_ble_eq_true rfl, Nat.le_of_ble_eq_true rfl⟩ ⟨Nat.le_of_ble_eq_true rfl, Nat.le_of_ble_eq_true rfl⟩ (Nat.le_of_ble_eq_true rfl) dX10_readsLine_90 rfl ?_
            exact e_zret X hr rfl dX10_readsLine_93 (Nat.le_of_ble_eq_true rfl) (Nat.le_of_ble_eq_true rfl) (by cases hF; exact ⟨rfl, rfl⟩)
          · skip
            rw [if_pos c9] at hF
            refine e_aload_n X dX10_readsLine_80 rfl rfl ?_
            obtain ⟨z11, h_z11, hF⟩ := obind_out hF
            refine e_callVi X (r := z11.2) (σ1 := z11.1) [] [] (C_TTx_readsWed (Cx_gok X) σ h_z11) gv_X10_50 yk_X10_readsWed rfl (ent_lt (rfl : entTbl[54]? = some (5, 0))) (ent_at (rfl : entTbl[54]? = some (5, 0)) _) (rfl : vCl[9]? = some (RX10, TX10, 14)) ⟨Nat.le_of_ble_eq_true rfl, Nat.le_of_ble_eq_true rfl⟩ ⟨Nat.le_of_ble_eq_true rfl, Nat.le_of_ble_eq_true rfl⟩ (Nat.le_of_ble_eq_true rfl) dX10_readsLine_81 rfl ?_
            exact e_zret X hr rfl dX10_readsLine_84 (Nat.le_of_ble_eq_true rfl) (Nat.le_of_ble_eq_true rfl) (by cases hF; exact ⟨rfl, rfl⟩)
        · skip
          rw [if_pos c8] at hF
          refine e_aload_n X dX10_readsLine_50 rfl rfl ?_
          refine e_aload_n X dX10_readsLine_51 rfl rfl ?_
          refine ge_TTx_kind X wf_X10_18 dX10_readsLine_52 ?_
          refine e_kstatic X 2 rfl rfl wf_X10_37 dX10_readsLine_55 ?_
          refine e_kacmp_ne X 65 c1 rfl dX10_readsLine_58 (by decide) (fun c12 => ?_) (fun c12 => ?_)
          · skip
            rw [if_neg c12] at hF
            refine e_iconst X 0 dX10_readsLine_65 rfl ?_
            obtain ⟨z13, h_z13, hF⟩ := obind_out hF
            refine e_callVi X (r := z13.2) (σ1 := z13.1) [.int 0] [] (C_TTx_readsTwo (Cx_gok X) σ 0 h_z13) gv_X10_43 yk_X10_readsTwo rfl (ent_lt (rfl : entTbl[54]? = some (5, 0))) (ent_at (rfl : entTbl[54]? = some (5, 0)) _) (rfl : vCl[9]? = some (RX10, TX10, 14)) ⟨Nat.le_of_ble_eq_true rfl, Nat.le_of_ble_eq_true rfl⟩ ⟨Nat.le_of_ble_eq_true rfl, Nat.le_of_ble_eq_true rfl⟩ (Nat.le_of_ble_eq_true rfl) dX10_readsLine_66 rfl ?_
            exact e_zret X hr rfl dX10_readsLine_69 (Nat.le_of_ble_eq_true rfl) (Nat.le_of_ble_eq_true rfl) (by cases hF; exact ⟨rfl, rfl⟩)
          · skip
            rw [if_pos c12] at hF
            refine e_iconst X 1 dX10_readsLine_61 rfl ?_
            refine e_goto X 66 dX10_readsLine_62 (by decide) ?_
            obtain ⟨z14, h_z14, hF⟩ := obind_out hF
            refine e_callVi X (r := z14.2) (σ1 := z14.1) [.int 1] [] (C_TTx_readsTwo (Cx_gok X) σ 1 h_z14) gv_X10_43 yk_X10_readsTwo rfl (ent_lt (rfl : entTbl[54]? = some (5, 0))) (ent_at (rfl : entTbl[54]? = some (5, 0)) _) (rfl : vCl[9]? = some (RX10, TX10, 14)) ⟨Nat.le_of_ble_eq_true rfl, Nat.le_of_ble_eq_true rfl⟩ ⟨Nat.le_of_ble_eq_true rfl, Nat.le_of_ble_eq_true rfl⟩ (Nat.le_of_ble_eq_true rfl) dX10_readsLine_66 rfl ?_
            exact e_zret X hr rfl dX10_readsLine_69 (Nat.le_of_ble_eq_true rfl) (Nat.le_of_ble_eq_true rfl) (by cases hF; exact ⟨rfl, rfl⟩)
    · skip
      rw [if_pos c3] at hF
      refine e_aload_n X dX10_readsLine_25 rfl rfl ?_
      obtain ⟨z15, h_z15, hF⟩ := obind_out hF
      refine e_callVi X (r := z15.2) (σ1 := z15.1) [] [] (C_TTx_readsLikes (Cx_gok X) σ h_z15) gv_X10_34 yk_X10_readsLikes rfl (ent_lt (rfl : entTbl[54]? = some (5, 0))) (ent_at (rfl : entTbl[54]? = some (5, 0)) _) (rfl : vCl[9]? = some (RX10, TX10, 14)) ⟨Nat.le_of_ble_eq_true rfl, Nat.le_of_ble_eq_true rfl⟩ ⟨Nat.le_of_ble_eq_true rfl, Nat.le_of_ble_eq_true rfl⟩ (Nat.le_of_ble_eq_true rfl) dX10_readsLine_26 rfl ?_
      exact e_zret X hr rfl dX10_readsLine_29 (Nat.le_of_ble_eq_true rfl) (Nat.le_of_ble_eq_true rfl) (by cases hF; exact ⟨rfl, rfl⟩)
  · skip
    rw [if_pos c2] at hF
    refine e_aload_n X dX10_readsLine_10 rfl rfl ?_
    obtain ⟨z16, h_z16, hF⟩ := obind_out hF
    refine e_callVi X (r := z16.2) (σ1 := z16.1) [] [] (C_TTx_readsPerson (Cx_gok X) σ h_z16) gv_X10_27 yk_X10_readsPerson rfl (ent_lt (rfl : entTbl[54]? = some (5, 0))) (ent_at (rfl : entTbl[54]? = some (5, 0)) _) (rfl : vCl[9]? = some (RX10, TX10, 14)) ⟨Nat.le_of_ble_eq_true rfl, Nat.le_of_ble_eq_true rfl⟩ ⟨Nat.le_of_ble_eq_true rfl, Nat.le_of_ble_eq_true rfl⟩ (Nat.le_of_ble_eq_true rfl) dX10_readsLine_11 rfl ?_
    exact e_zret X hr rfl dX10_readsLine_14 (Nat.le_of_ble_eq_true rfl) (Nat.le_of_ble_eq_true rfl) (by cases hF; exact ⟨rfl, rfl⟩)
end PART

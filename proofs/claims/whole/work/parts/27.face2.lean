section PART
variable {p : Program} {l : Launch} {e : Env} {R : Room} {s : State} {m : MethodId} {args : Array Value} {below : List Frame} {meth : Method} {c : Code} {Γ : Gm} {D : va_G} {s0 : State} {cells slots : Nat} {Q : State → Prop} {own : String} {cc : ByteArray} {nL : Nat} {σ : Mem} {pc : Nat} {lv : List (Option Value)} {st : List Value} {Pst : Option Value → Mem → Prop}
def F_W_town (σ : Mem)  : Option ((String × Mem) ⊕ (Mem × Int32)) := bindT (F_Town_copyAll σ 61 3) fun z1 => bindT (F_W_useTapeUp z1) fun z2 => obind (F_Text_linesOf_54 z2.1 1 400 z2.2 14) fun z3 => bindT (up z3.1 0 13 ((z3.1 54 12))) fun σ4 => (if (σ4 0 13) = (-1) then (if (σ4 3 18) < 12 then bindT (F_Town_copyAll σ4 3 61) fun z7 => bindT (up z7 3 18 (((z7 3 18) + 1))) fun σ8 => bindT (F_W_forgetActs σ8) fun z9 => some ((Sum.inr ((z9, (z9 3 18))))) else some (Sum.inl ("java/lang/UnsupportedOperationException", σ4))) else some (Sum.inl ("java/lang/IllegalArgumentException", σ4)))
def F_W_law (σ : Mem)  : Option ((String × Mem) ⊕ (Mem × Int32)) := bindT (F_Law_clearLines σ 85) fun z1 => bindT (F_W_useTapeUp z1) fun z2 => obind (F_Text_linesOf_78 z2.1 1 400 z2.2 12) fun z3 => bindT (up z3.1 0 13 ((z3.1 78 12))) fun σ4 => (if (σ4 0 13) = (-1) then bindT (F_Law_copyAll σ4 20 85) fun z6 => bindT (F_W_forgetActs z6) fun z7 => some ((Sum.inr ((z7, z3.2)))) else some (Sum.inl ("java/lang/IllegalArgumentException", σ4)))
def F_W_person (σ : Mem) (v1 : Int32) (v2 : Int32) : String ⊕ (Int32) := sumE (F_W_checkPerson σ v1) (fun e2 => (Sum.inl e2)) (fun o1 => (if v2 = 0 then (Sum.inr ((F_Row_at σ (3 + 1) 8 v1))) else (if v2 = 1 then (Sum.inr ((F_Row_at σ (3 + 3) 8 v1))) else (if v2 = 2 then (Sum.inr ((F_Town_askersOf σ 3 v1))) else (if v2 = 3 then (Sum.inr ((F_Row_at σ (3 + 5) 8 v1))) else (if v2 = 4 then (if (F_Town_isRuined σ 3 v1) = 0 then (Sum.inr 0) else (Sum.inr 1)) else (if v2 = 5 then (Sum.inr ((F_Town_spouseOf σ 3 v1))) else (if v2 = 6 then (Sum.inr ((F_Town_shareOf σ 3 v1))) else (Sum.inl "java/util/NoSuchElementException")))))))))
def F_W_liking (σ : Mem) (v1 : Int32) (v2 : Int32) : String ⊕ (Int32) := sumE (F_W_checkTwo σ v1 v2) (fun e2 => (Sum.inl e2)) (fun o1 => (Sum.inr ((F_Town_likingOf σ 3 v1 v2))))
def F_W_match (σ : Mem) (v1 : Int32) (v2 : Int32) : Option ((String × Mem) ⊕ (Mem × Int32)) := sumE (F_W_checkMatch σ v1) (fun e2 => some (Sum.inl (e2, σ))) (fun o1 => (if v2 = 0 then some ((Sum.inr ((σ, (F_Town_firstOf σ 3 v1))))) else (if v2 = 1 then some ((Sum.inr ((σ, (F_Town_secondOf σ 3 v1))))) else (if v2 = 2 then some ((Sum.inr ((σ, (F_Row_at σ (3 + 11) 20 v1))))) else (if v2 = 3 then some ((Sum.inr ((σ, (F_Row_at σ (3 + 13) 20 v1))))) else (if v2 = 4 then (if (F_Town_isOver σ 3 v1) = 0 then some ((Sum.inr ((σ, 0)))) else some ((Sum.inr ((σ, 1))))) else (if v2 = 5 then some ((Sum.inr ((σ, (F_Town_insurersOf σ 3 v1))))) else (if v2 = 6 then obind (F_For_turnsNow σ 3 20 v1) fun z12 => some ((Sum.inr ((z12.1, z12.2)))) else some (Sum.inl ("java/util/NoSuchElementException", σ))))))))))
def F_W_ask (σ : Mem) (v1 : Int32) (v2 : Int32) : Option ((String × Mem) ⊕ (Mem × Int32)) := sumE (F_W_checkTwo σ v1 v2) (fun e2 => some (Sum.inl (e2, σ))) (fun o1 => obind (F_W_remember σ) fun z4 => bindT (F_Town_addAsked z4 3 v1 v2) fun z5 => some ((Sum.inr ((z5.1, (z5.2 &&& 1))))))
def F_W_wed (σ : Mem) (v1 : Int32) (v2 : Int32) : Option ((String × Mem) ⊕ (Mem × Int32)) := sumE (F_W_checkTwo σ v1 v2) (fun e2 => some (Sum.inl (e2, σ))) (fun o1 => (if (F_Town_isWed σ 3 v1) = 0 then (if (F_Town_isWed σ 3 v2) = 0 then (if (σ 3 10) < 20 then obind (F_W_remember σ) fun z7 => bindT (F_Town_addMatch z7 3 v1 v2 50) fun z8 => some ((Sum.inr ((z8.1, z8.2)))) else some (Sum.inl ("java/lang/UnsupportedOperationException", σ))) else some (Sum.inl ("java/lang/IllegalStateException", σ))) else some (Sum.inl ("java/lang/IllegalStateException", σ))))
def F_W_gift (σ : Mem) (v1 : Int32) (v2 : Int32) : Option ((String × Mem) ⊕ (Mem × Int32)) := sumE (F_W_checkInsurer σ v1 v2) (fun e2 => some (Sum.inl (e2, σ))) (fun o1 => (if (F_Row_at σ (3 + 1) 8 v1) < 10 then some (Sum.inl ("java/lang/IllegalStateException", σ)) else obind (F_W_remember σ) fun z5 => bindT (F_Row_put z5 (3 + 1) 8 v1 (((F_Row_at z5 (3 + 1) 8 v1) - 10))) fun z6 => bindT (F_Town_changeHappy z6 3 v2 5) fun z7 => some ((Sum.inr ((z7.1, z7.2))))))
def F_W_meddle (σ : Mem) (v1 : Int32) (v2 : Int32) : Option ((String × Mem) ⊕ (Mem × Int32)) := sumE (F_W_checkInsurer σ v1 v2) (fun e2 => some (Sum.inl (e2, σ))) (fun o1 => obind (F_W_remember σ) fun z4 => bindT (F_Town_changeHappy z4 3 v2 ((-5))) fun z5 => some ((Sum.inr ((z5.1, z5.2)))))
def F_W_reinsure (σ : Mem) (v1 : Int32) (v2 : Int32) : Option ((String × Mem) ⊕ (Mem × Int32)) := sumE (F_W_checkPerson σ v1) (fun e2 => some (Sum.inl (e2, σ))) (fun o1 => (if v2 = (-1) then obind (F_W_remember σ) fun z5 => bindT ((F_Row_at z5 (3 + 5) 8 v1)) fun x6 => bindT (F_Row_put z5 (3 + 5) 8 v1 v2) fun z7 => some ((Sum.inr ((z7, x6)))) else sumE (F_W_checkTwo σ v1 v2) (fun e9 => some (Sum.inl (e9, σ))) (fun o8 => obind (F_W_remember σ) fun z11 => bindT ((F_Row_at z11 (3 + 5) 8 v1)) fun x12 => bindT (F_Row_put z11 (3 + 5) 8 v1 v2) fun z13 => some ((Sum.inr ((z13, x12)))))))
def F_W_part (σ : Mem) (v1 : Int32) : Option ((String × Mem) ⊕ (Mem × Int32)) := sumE (F_W_checkMatch σ v1) (fun e2 => some (Sum.inl (e2, σ))) (fun o1 => sumE (F_W_checkGoesOn σ v1) (fun e5 => some (Sum.inl (e5, σ))) (fun o4 => obind (F_W_remember σ) fun z7 => bindT (F_Town_endMatch z7 3 v1) fun z8 => some ((Sum.inr ((z8, (F_Row_at z8 (3 + 11) 20 v1)))))))
def F_W_months_22_b (v1 : Int32) (v2 : Int32) (v3 : Int32) (σ : Mem) : Option (Mem) := obind (F_Town_passMonth σ 3 20 93) fun z7 => some (z7)
def F_W_months (σ : Mem) (v1 : Int32) : Option ((String × Mem) ⊕ (Mem × Int32)) := sumE (F_W_checkNumber σ v1 1 60) (fun e2 => some (Sum.inl (e2, σ))) (fun o1 => obind (F_W_remember σ) fun z4 => bindT ((z4 3 19)) fun x5 => obind (forSO (fun i s => F_W_months_22_b v1 x5 i s) (cnt 0 v1) 0 z4) fun z9 => some ((Sum.inr ((z9, ((z9 3 19) - x5))))))
set_option maxRecDepth 20000 in
set_option maxHeartbeats 4000000 in
theorem C_W_town (hG : Gok l Γ D s0) (σ : Mem)   {out : (String × Mem) ⊕ (Mem × Int32)} (hF : F_W_town σ = some out) : CX l Γ D s0 yX11_town cX11_town 1 (some .int) 9 1 6 363 σ [.ref (Γ.1 + 0)] (PXwv out) (XXw out) := by
  unfold F_W_town at hF
  refine e_xmet (own := RX11) hG (by decide +kernel) rfl rfl (Nat.le_of_ble_eq_true rfl) ?_
  intro p e s m args below meth c X hex hr
  show E p l e _ s m args below meth c Γ D 0 0 _ σ 0 [some (.ref (Γ.1 + 0))] []
  refine e_aload_n X dX11_town_0 rfl rfl ?_
  refine ge_W_townText X wf_X11_45 dX11_town_1 ?_
  refine ge_TTx_draft X wf_X11_98 dX11_town_4 ?_
  refine e_aload_n X dX11_town_7 rfl rfl ?_
  refine ge_W_town X wf_X11_21 dX11_town_8 ?_
  obtain ⟨z1, h_z1, hF⟩ := bindT_out hF
  refine e_callVv X (σ1 := z1) [.ref (Γ.1 + 3)] [] (by rw [h_z1]; exact C_Town_copyAll (Cx_gok X) σ 61 3 ok_Town_61 ok_Town_3) gv_X11_101 yk_X9_copyAll rfl (ent_lt ok_Town_61.1) (ent_at ok_Town_61.1 _) (rfl : vCl[8]? = some (RX9, TX9, 20)) ⟨Nat.le_of_ble_eq_true rfl, Nat.le_of_ble_eq_true rfl⟩ ⟨Nat.le_of_ble_eq_true rfl, Nat.le_of_ble_eq_true rfl⟩ (Nat.le_of_ble_eq_true rfl) dX11_town_11 rfl ?_
  refine e_aload_n X dX11_town_14 rfl rfl ?_
  refine ge_W_townText X wf_X11_45 dX11_town_15 ?_
  refine e_aload_n X dX11_town_18 rfl rfl ?_
  refine ge_W_tape X wf_X11_14 dX11_town_19 ?_
  refine e_aload_n X dX11_town_22 rfl rfl ?_
  obtain ⟨z2, h_z2, hF⟩ := bindT_out hF
  refine e_callVi X (r := z2.2) (σ1 := z2.1) [] [.ref (Γ.1 + 1), .ref (Γ.1 + 54)] (by rw [h_z2]; exact C_W_useTapeUp (Cx_gok X) z1) gv_X11_105 yk_X11_useTapeUp rfl (ent_lt (rfl : entTbl[0]? = some (0, 0))) (ent_at (rfl : entTbl[0]? = some (0, 0)) _) (rfl : vCl[10]? = some (RX11, TX11, 17)) ⟨Nat.le_of_ble_eq_true rfl, Nat.le_of_ble_eq_true rfl⟩ ⟨Nat.le_of_ble_eq_true rfl, Nat.le_of_ble_eq_true rfl⟩ (Nat.le_of_ble_eq_true rfl) dX11_town_23 rfl ?_
  refine e_bipush X 14 dX11_town_26 rfl ?_
  obtain ⟨z3, h_z3, hF⟩ := obind_out hF
  refine e_callUi X (r := z3.2) (σ1 := z3.1) [.ref (Γ.1 + 1), .int z2.2, .int 14] [] (C_Text_linesOf_54 (Cx_gok X) z2.1 1 400 z2.2 14 ok_Row_1 h_z3) gu_X11_109_X10 rfl ykx_X7_linesOf rfl (ent_lt (rfl : entTbl[54]? = some (5, 0))) (ent_at (rfl : entTbl[54]? = some (5, 0)) _) (rfl : vCl[9]? = some (RX10, TX10, 14)) ⟨Nat.le_of_ble_eq_true rfl, Nat.le_of_ble_eq_true rfl⟩ ⟨Nat.le_of_ble_eq_true rfl, Nat.le_of_ble_eq_true rfl⟩ (Nat.le_of_ble_eq_true rfl) dX11_town_28 rfl ?_
  refine e_pop X dX11_town_31 rfl ?_
  refine e_aload_n X dX11_town_32 rfl rfl ?_
  refine e_aload_n X dX11_town_33 rfl rfl ?_
  refine ge_W_townText X wf_X11_45 dX11_town_34 ?_
  refine ge_TTx_wrong X wf_X11_113 dX11_town_37 ?_
  obtain ⟨σ4, h_σ4, hF⟩ := bindT_out hF
  refine pu_W_wrongByte X wf_X11_84 dX11_town_40 h_σ4 ?_
  refine e_aload_n X dX11_town_43 rfl rfl ?_
  refine ge_W_wrongByte X wf_X11_84 dX11_town_44 ?_
  refine e_iconst X (-1) dX11_town_47 rfl ?_
  refine e_icmp_eq X 61 dX11_town_48 (by decide) (fun c5 => ?_) (fun c5 => ?_)
  · skip
    rw [if_pos c5] at hF
    refine e_aload_n X dX11_town_61 rfl rfl ?_
    refine ge_W_town X wf_X11_21 dX11_town_62 ?_
    refine ge_Town_texts X ok_Town_3 wf_X11_123 dX11_town_65 ?_
    refine e_bipush X 12 dX11_town_68 rfl ?_
    refine e_icmp_lt X 83 dX11_town_70 (by decide) (fun c6 => ?_) (fun c6 => ?_)
    · skip
      rw [if_pos c6] at hF
      refine e_aload_n X dX11_town_83 rfl rfl ?_
      refine ge_W_town X wf_X11_21 dX11_town_84 ?_
      refine e_aload_n X dX11_town_87 rfl rfl ?_
      refine ge_W_townText X wf_X11_45 dX11_town_88 ?_
      refine ge_TTx_draft X wf_X11_98 dX11_town_91 ?_
      obtain ⟨z7, h_z7, hF⟩ := bindT_out hF
      refine e_callVv X (σ1 := z7) [.ref (Γ.1 + 61)] [] (by rw [h_z7]; exact C_Town_copyAll (Cx_gok X) σ4 3 61 ok_Town_3 ok_Town_61) gv_X11_101 yk_X9_copyAll rfl (ent_lt ok_Town_3.1) (ent_at ok_Town_3.1 _) (rfl : vCl[8]? = some (RX9, TX9, 20)) ⟨Nat.le_of_ble_eq_true rfl, Nat.le_of_ble_eq_true rfl⟩ ⟨Nat.le_of_ble_eq_true rfl, Nat.le_of_ble_eq_true rfl⟩ (Nat.le_of_ble_eq_true rfl) dX11_town_94 rfl ?_
      refine e_aload_n X dX11_town_97 rfl rfl ?_
      refine ge_W_town X wf_X11_21 dX11_town_98 ?_
      refine e_dup X dX11_town_101 rfl ?_
      refine ge_Town_texts X ok_Town_3 wf_X11_123 dX11_town_102 ?_
      refine e_iconst X 1 dX11_town_105 rfl ?_
      refine e_iadd X dX11_town_106 ?_
      obtain ⟨σ8, h_σ8, hF⟩ := bindT_out hF
      refine pu_Town_texts X ok_Town_3 wf_X11_123 dX11_town_107 h_σ8 ?_
      refine e_aload_n X dX11_town_110 rfl rfl ?_
      obtain ⟨z9, h_z9, hF⟩ := bindT_out hF
      refine e_callVv X (σ1 := z9) [] [] (by rw [h_z9]; exact C_W_forgetActs (Cx_gok X) σ8) gv_X11_131 yk_X11_forgetActs rfl (ent_lt (rfl : entTbl[0]? = some (0, 0))) (ent_at (rfl : entTbl[0]? = some (0, 0)) _) (rfl : vCl[10]? = some (RX11, TX11, 17)) ⟨Nat.le_of_ble_eq_true rfl, Nat.le_of_ble_eq_true rfl⟩ ⟨Nat.le_of_ble_eq_true rfl, Nat.le_of_ble_eq_true rfl⟩ (Nat.le_of_ble_eq_true rfl) dX11_town_111 rfl ?_
      refine e_aload_n X dX11_town_114 rfl rfl ?_
      refine ge_W_town X wf_X11_21 dX11_town_115 ?_
      refine ge_Town_texts X ok_Town_3 wf_X11_123 dX11_town_118 ?_
      exact e_xr (e_iret X hr dX11_town_121 (Nat.le_of_ble_eq_true rfl) (Nat.le_of_ble_eq_true rfl) (by cases hF; exact ⟨_, rfl, rfl, rfl⟩))
    · skip
      rw [if_neg c6] at hF
      exact e_throwS X hex (cls := "java/lang/UnsupportedOperationException") (text := "there are 12 texts of the town") (names := ["java/lang/RuntimeException", "java/lang/Exception"]) (by decide +kernel) (by decide +kernel) wxk_126 wxi_3 ((x_gst X).2.1.2 ("RivalWeds", 128, "there are 12 texts of the town") (List.mem_of_getElem? (i := 1) (by decide +kernel))) vat_130 vau_130 ((x_gst X).2.2.2.2.1 _ (List.mem_of_getElem? (i := 3) (by decide +kernel))) vag_130 dX11_town_73 dX11_town_76 dX11_town_77 dX11_town_79 dX11_town_82 (Nat.le_of_ble_eq_true rfl) (Nat.le_of_ble_eq_true rfl) (Nat.le_of_ble_eq_true rfl) (Nat.le_of_ble_eq_true rfl) (Nat.le_of_ble_eq_true rfl) (Nat.le_of_ble_eq_true rfl) (by cases hF; exact ⟨_, rfl, rfl, rfl⟩)
  · skip
    rw [if_neg c5] at hF
    exact e_throwS X hex (cls := "java/lang/IllegalArgumentException") (text := "the text of the town is wrong") (names := ["java/lang/RuntimeException", "java/lang/Exception"]) (by decide +kernel) (by decide +kernel) wxk_116 wxi_0 ((x_gst X).2.1.2 ("RivalWeds", 118, "the text of the town is wrong") (List.mem_of_getElem? (i := 0) (by decide +kernel))) vat_120 vau_120 ((x_gst X).2.2.2.2.1 _ (List.mem_of_getElem? (i := 0) (by decide +kernel))) vag_120 dX11_town_51 dX11_town_54 dX11_town_55 dX11_town_57 dX11_town_60 (Nat.le_of_ble_eq_true rfl) (Nat.le_of_ble_eq_true rfl) (Nat.le_of_ble_eq_true rfl) (Nat.le_of_ble_eq_true rfl) (Nat.le_of_ble_eq_true rfl) (Nat.le_of_ble_eq_true rfl) (by cases hF; exact ⟨_, rfl, rfl, rfl⟩)
set_option maxRecDepth 20000 in
set_option maxHeartbeats 4000000 in
theorem C_W_law (hG : Gok l Γ D s0) (σ : Mem)   {out : (String × Mem) ⊕ (Mem × Int32)} (hF : F_W_law σ = some out) : CX l Γ D s0 yX11_law cX11_law 2 (some .int) 38 1 6 811 σ [.ref (Γ.1 + 0)] (PXwv out) (XXw out) := by
  unfold F_W_law at hF
  refine e_xmet (own := RX11) hG (by decide +kernel) rfl rfl (Nat.le_of_ble_eq_true rfl) ?_
  intro p e s m args below meth c X hex hr
  show E p l e _ s m args below meth c Γ D 0 0 _ σ 0 [some (.ref (Γ.1 + 0)), none] []
  refine e_aload_n X dX11_law_0 rfl rfl ?_
  refine ge_W_lawText X wf_X11_52 dX11_law_1 ?_
  refine ge_LTx_draft X wf_X11_134 dX11_law_4 ?_
  obtain ⟨z1, h_z1, hF⟩ := bindT_out hF
  refine e_callVv X (σ1 := z1) [] [] (by rw [h_z1]; exact C_Law_clearLines (Cx_gok X) σ 85 ok_Law_85) gv_X11_136 yk_X2_clearLines rfl (ent_lt ok_Law_85.1) (ent_at ok_Law_85.1 _) (rfl : vCl[2]? = some (RX2, TX2, 6)) ⟨Nat.le_of_ble_eq_true rfl, Nat.le_of_ble_eq_true rfl⟩ ⟨Nat.le_of_ble_eq_true rfl, Nat.le_of_ble_eq_true rfl⟩ (Nat.le_of_ble_eq_true rfl) dX11_law_7 rfl ?_
  refine e_aload_n X dX11_law_10 rfl rfl ?_
  refine ge_W_lawText X wf_X11_52 dX11_law_11 ?_
  refine e_aload_n X dX11_law_14 rfl rfl ?_
  refine ge_W_tape X wf_X11_14 dX11_law_15 ?_
  refine e_aload_n X dX11_law_18 rfl rfl ?_
  obtain ⟨z2, h_z2, hF⟩ := bindT_out hF
  refine e_callVi X (r := z2.2) (σ1 := z2.1) [] [.ref (Γ.1 + 1), .ref (Γ.1 + 78)] (by rw [h_z2]; exact C_W_useTapeUp (Cx_gok X) z1) gv_X11_105 yk_X11_useTapeUp rfl (ent_lt (rfl : entTbl[0]? = some (0, 0))) (ent_at (rfl : entTbl[0]? = some (0, 0)) _) (rfl : vCl[10]? = some (RX11, TX11, 17)) ⟨Nat.le_of_ble_eq_true rfl, Nat.le_of_ble_eq_true rfl⟩ ⟨Nat.le_of_ble_eq_true rfl, Nat.le_of_ble_eq_true rfl⟩ (Nat.le_of_ble_eq_true rfl) dX11_law_19 rfl ?_
  refine e_bipush X 12 dX11_law_22 rfl ?_
  obtain ⟨z3, h_z3, hF⟩ := obind_out hF
  refine e_callUi X (r := z3.2) (σ1 := z3.1) [.ref (Γ.1 + 1), .int z2.2, .int 12] [] (C_Text_linesOf_78 (Cx_gok X) z2.1 1 400 z2.2 12 ok_Row_1 h_z3) gu_X11_139_X3 rfl ykx_X7_linesOf rfl (ent_lt (rfl : entTbl[78]? = some (6, 0))) (ent_at (rfl : entTbl[78]? = some (6, 0)) _) (rfl : vCl[3]? = some (RX3, TX3, 14)) ⟨Nat.le_of_ble_eq_true rfl, Nat.le_of_ble_eq_true rfl⟩ ⟨Nat.le_of_ble_eq_true rfl, Nat.le_of_ble_eq_true rfl⟩ (Nat.le_of_ble_eq_true rfl) dX11_law_24 rfl ?_
  refine e_istore_n X rfl dX11_law_27 rfl (by decide) ?_
  refine e_aload_n X dX11_law_28 rfl rfl ?_
  refine e_aload_n X dX11_law_29 rfl rfl ?_
  refine ge_W_lawText X wf_X11_52 dX11_law_30 ?_
  refine ge_LTx_wrong X wf_X11_140 dX11_law_33 ?_
  obtain ⟨σ4, h_σ4, hF⟩ := bindT_out hF
  refine pu_W_wrongByte X wf_X11_84 dX11_law_36 h_σ4 ?_
  refine e_aload_n X dX11_law_39 rfl rfl ?_
  refine ge_W_wrongByte X wf_X11_84 dX11_law_40 ?_
  refine e_iconst X (-1) dX11_law_43 rfl ?_
  refine e_icmp_eq X 57 dX11_law_44 (by decide) (fun c5 => ?_) (fun c5 => ?_)
  · skip
    rw [if_pos c5] at hF
    refine e_aload_n X dX11_law_57 rfl rfl ?_
    refine ge_W_law X wf_X11_28 dX11_law_58 ?_
    refine e_aload_n X dX11_law_61 rfl rfl ?_
    refine ge_W_lawText X wf_X11_52 dX11_law_62 ?_
    refine ge_LTx_draft X wf_X11_134 dX11_law_65 ?_
    obtain ⟨z6, h_z6, hF⟩ := bindT_out hF
    refine e_callVv X (σ1 := z6) [.ref (Γ.1 + 85)] [] (by rw [h_z6]; exact C_Law_copyAll (Cx_gok X) σ4 20 85 ok_Law_20 ok_Law_85) gv_X11_143 yk_X2_copyAll rfl (ent_lt ok_Law_20.1) (ent_at ok_Law_20.1 _) (rfl : vCl[2]? = some (RX2, TX2, 6)) ⟨Nat.le_of_ble_eq_true rfl, Nat.le_of_ble_eq_true rfl⟩ ⟨Nat.le_of_ble_eq_true rfl, Nat.le_of_ble_eq_true rfl⟩ (Nat.le_of_ble_eq_true rfl) dX11_law_68 rfl ?_
    refine e_aload_n X dX11_law_71 rfl rfl ?_
    obtain ⟨z7, h_z7, hF⟩ := bindT_out hF
    refine e_callVv X (σ1 := z7) [] [] (by rw [h_z7]; exact C_W_forgetActs (Cx_gok X) z6) gv_X11_131 yk_X11_forgetActs rfl (ent_lt (rfl : entTbl[0]? = some (0, 0))) (ent_at (rfl : entTbl[0]? = some (0, 0)) _) (rfl : vCl[10]? = some (RX11, TX11, 17)) ⟨Nat.le_of_ble_eq_true rfl, Nat.le_of_ble_eq_true rfl⟩ ⟨Nat.le_of_ble_eq_true rfl, Nat.le_of_ble_eq_true rfl⟩ (Nat.le_of_ble_eq_true rfl) dX11_law_72 rfl ?_
    refine e_iload_n X dX11_law_75 rfl rfl ?_
    exact e_xr (e_iret X hr dX11_law_76 (Nat.le_of_ble_eq_true rfl) (Nat.le_of_ble_eq_true rfl) (by cases hF; exact ⟨_, rfl, rfl, rfl⟩))
  · skip
    rw [if_neg c5] at hF
    exact e_throwS X hex (cls := "java/lang/IllegalArgumentException") (text := "the text of the law is wrong") (names := ["java/lang/RuntimeException", "java/lang/Exception"]) (by decide +kernel) (by decide +kernel) wxk_116 wxi_0 ((x_gst X).2.1.2 ("RivalWeds", 141, "the text of the law is wrong") (List.mem_of_getElem? (i := 2) (by decide +kernel))) vat_120 vau_120 ((x_gst X).2.2.2.2.1 _ (List.mem_of_getElem? (i := 0) (by decide +kernel))) vag_120 dX11_law_47 dX11_law_50 dX11_law_51 dX11_law_53 dX11_law_56 (Nat.le_of_ble_eq_true rfl) (Nat.le_of_ble_eq_true rfl) (Nat.le_of_ble_eq_true rfl) (Nat.le_of_ble_eq_true rfl) (Nat.le_of_ble_eq_true rfl) (Nat.le_of_ble_eq_true rfl) (by cases hF; exact ⟨_, rfl, rfl, rfl⟩)
set_option maxRecDepth 20000 in
set_option maxHeartbeats 4000000 in
theorem C_W_person (hG : Gok l Γ D s0) (σ : Mem) (v1 : Int32) (v2 : Int32)  : CX l Γ D s0 yX11_person cX11_person 3 (some .int) 7 2 12 103 σ [.ref (Γ.1 + 0), .int v1, .int v2] (PXv σ (F_W_person σ v1 v2)) (XXn σ (F_W_person σ v1 v2)) := by
  generalize hF : F_W_person σ v1 v2 = out
  unfold F_W_person at hF
  refine e_xmet (own := RX11) hG (by decide +kernel) rfl rfl (Nat.le_of_ble_eq_true rfl) ?_
  intro p e s m args below meth c X hex hr
  show E p l e _ s m args below meth c Γ D 0 0 _ σ 0 [some (.ref (Γ.1 + 0)), some (.int v1), some (.int v2)] []
  refine e_aload_n X dX11_person_0 rfl rfl ?_
  refine e_iload_n X dX11_person_1 rfl rfl ?_
  refine e_xcallVn X hex (F_W_checkPerson σ v1) [.int v1] [] (C_W_checkPerson (Cx_gok X) σ v1) gv_X11_146 yk_X11_checkPerson rfl (ent_lt (rfl : entTbl[0]? = some (0, 0))) (ent_at (rfl : entTbl[0]? = some (0, 0)) _) (rfl : vCl[10]? = some (RX11, TX11, 17)) ⟨Nat.le_of_ble_eq_true rfl, Nat.le_of_ble_eq_true rfl⟩ ⟨Nat.le_of_ble_eq_true rfl, Nat.le_of_ble_eq_true rfl⟩ ⟨Nat.le_of_ble_eq_true rfl, Nat.le_of_ble_eq_true rfl⟩ (Nat.le_of_ble_eq_true rfl) dX11_person_2 rfl (fun o1 hz3 => ?_) (fun e2 hz3 => ?_)
  · skip
    rw [hz3, sumE_inr] at hF
    refine e_iload_n X dX11_person_5 rfl rfl ?_
    -- switch
    by_cases c4 : v2 = 0
    · rw [if_pos c4] at hF
      refine e_tabIn X 48 0 c4 dX11_person_6 (by decide) (by decide) rfl (by decide) ?_
      refine e_aload_n X dX11_person_48 rfl rfl ?_
      refine ge_W_town X wf_X11_21 dX11_person_49 ?_
      refine ge_Town_wealth X ok_Town_3 wf_X11_149 dX11_person_52 ?_
      refine e_iload_n X dX11_person_55 rfl rfl ?_
      refine e_callVi X (r := (F_Row_at σ (3 + 1) 8 v1)) (σ1 := σ) [.int v1] [] (C_Row_at (Cx_gok X) σ (3 + 1) 8 v1 ok_Town_3.2.1) gv_X11_152 yk_X6_at rfl (ent_lt ok_Town_3.2.1.1) (ent_at ok_Town_3.2.1.1 _) (rfl : vCl[6]? = some (RX6, TX6, 1)) ⟨Nat.le_of_ble_eq_true rfl, Nat.le_of_ble_eq_true rfl⟩ ⟨Nat.le_of_ble_eq_true rfl, Nat.le_of_ble_eq_true rfl⟩ (Nat.le_of_ble_eq_true rfl) dX11_person_56 rfl ?_
      exact e_xr (e_iret X hr dX11_person_59 (Nat.le_of_ble_eq_true rfl) (Nat.le_of_ble_eq_true rfl) (by cases hF; exact ⟨_, rfl, rfl, rfl⟩))
    · rw [if_neg c4] at hF
      by_cases c5 : v2 = 1
      · rw [if_pos c5] at hF
        refine e_tabIn X 60 1 c5 dX11_person_6 (by decide) (by decide) rfl (by decide) ?_
        refine e_aload_n X dX11_person_60 rfl rfl ?_
        refine ge_W_town X wf_X11_21 dX11_person_61 ?_
        refine ge_Town_asked X ok_Town_3 wf_X11_156 dX11_person_64 ?_
        refine e_iload_n X dX11_person_67 rfl rfl ?_
        refine e_callVi X (r := (F_Row_at σ (3 + 3) 8 v1)) (σ1 := σ) [.int v1] [] (C_Row_at (Cx_gok X) σ (3 + 3) 8 v1 ok_Town_3.2.2.1) gv_X11_152 yk_X6_at rfl (ent_lt ok_Town_3.2.2.1.1) (ent_at ok_Town_3.2.2.1.1 _) (rfl : vCl[6]? = some (RX6, TX6, 1)) ⟨Nat.le_of_ble_eq_true rfl, Nat.le_of_ble_eq_true rfl⟩ ⟨Nat.le_of_ble_eq_true rfl, Nat.le_of_ble_eq_true rfl⟩ (Nat.le_of_ble_eq_true rfl) dX11_person_68 rfl ?_
        exact e_xr (e_iret X hr dX11_person_71 (Nat.le_of_ble_eq_true rfl) (Nat.le_of_ble_eq_true rfl) (by cases hF; exact ⟨_, rfl, rfl, rfl⟩))
      · rw [if_neg c5] at hF
        by_cases c6 : v2 = 2
        · rw [if_pos c6] at hF
          refine e_tabIn X 72 2 c6 dX11_person_6 (by decide) (by decide) rfl (by decide) ?_
          refine e_aload_n X dX11_person_72 rfl rfl ?_
          refine ge_W_town X wf_X11_21 dX11_person_73 ?_
          refine e_iload_n X dX11_person_76 rfl rfl ?_
          refine e_callVi X (r := (F_Town_askersOf σ 3 v1)) (σ1 := σ) [.int v1] [] (C_Town_askersOf (Cx_gok X) σ 3 v1 ok_Town_3) gv_X11_159 yk_X9_askersOf rfl (ent_lt ok_Town_3.1) (ent_at ok_Town_3.1 _) (rfl : vCl[8]? = some (RX9, TX9, 20)) ⟨Nat.le_of_ble_eq_true rfl, Nat.le_of_ble_eq_true rfl⟩ ⟨Nat.le_of_ble_eq_true rfl, Nat.le_of_ble_eq_true rfl⟩ (Nat.le_of_ble_eq_true rfl) dX11_person_77 rfl ?_
          exact e_xr (e_iret X hr dX11_person_80 (Nat.le_of_ble_eq_true rfl) (Nat.le_of_ble_eq_true rfl) (by cases hF; exact ⟨_, rfl, rfl, rfl⟩))
        · rw [if_neg c6] at hF
          by_cases c7 : v2 = 3
          · rw [if_pos c7] at hF
            refine e_tabIn X 81 3 c7 dX11_person_6 (by decide) (by decide) rfl (by decide) ?_
            refine e_aload_n X dX11_person_81 rfl rfl ?_
            refine ge_W_town X wf_X11_21 dX11_person_82 ?_
            refine ge_Town_reinsurer X ok_Town_3 wf_X11_162 dX11_person_85 ?_
            refine e_iload_n X dX11_person_88 rfl rfl ?_
            refine e_callVi X (r := (F_Row_at σ (3 + 5) 8 v1)) (σ1 := σ) [.int v1] [] (C_Row_at (Cx_gok X) σ (3 + 5) 8 v1 ok_Town_3.2.2.2.1) gv_X11_152 yk_X6_at rfl (ent_lt ok_Town_3.2.2.2.1.1) (ent_at ok_Town_3.2.2.2.1.1 _) (rfl : vCl[6]? = some (RX6, TX6, 1)) ⟨Nat.le_of_ble_eq_true rfl, Nat.le_of_ble_eq_true rfl⟩ ⟨Nat.le_of_ble_eq_true rfl, Nat.le_of_ble_eq_true rfl⟩ (Nat.le_of_ble_eq_true rfl) dX11_person_89 rfl ?_
            exact e_xr (e_iret X hr dX11_person_92 (Nat.le_of_ble_eq_true rfl) (Nat.le_of_ble_eq_true rfl) (by cases hF; exact ⟨_, rfl, rfl, rfl⟩))
          · rw [if_neg c7] at hF
            by_cases c8 : v2 = 4
            · rw [if_pos c8] at hF
              refine e_tabIn X 93 4 c8 dX11_person_6 (by decide) (by decide) rfl (by decide) ?_
              refine e_aload_n X dX11_person_93 rfl rfl ?_
              refine ge_W_town X wf_X11_21 dX11_person_94 ?_
              refine e_iload_n X dX11_person_97 rfl rfl ?_
              refine e_callVi X (r := (F_Town_isRuined σ 3 v1)) (σ1 := σ) [.int v1] [] (C_Town_isRuined (Cx_gok X) σ 3 v1 ok_Town_3) gv_X11_165 yk_X9_isRuined rfl (ent_lt ok_Town_3.1) (ent_at ok_Town_3.1 _) (rfl : vCl[8]? = some (RX9, TX9, 20)) ⟨Nat.le_of_ble_eq_true rfl, Nat.le_of_ble_eq_true rfl⟩ ⟨Nat.le_of_ble_eq_true rfl, Nat.le_of_ble_eq_true rfl⟩ (Nat.le_of_ble_eq_true rfl) dX11_person_98 rfl ?_
              refine e_if_eq X 108 dX11_person_101 (by decide) (fun c9 => ?_) (fun c9 => ?_)
              · skip
                rw [if_pos c9] at hF
                refine e_iconst X 0 dX11_person_108 rfl ?_
                exact e_xr (e_iret X hr dX11_person_109 (Nat.le_of_ble_eq_true rfl) (Nat.le_of_ble_eq_true rfl) (by cases hF; exact ⟨_, rfl, rfl, rfl⟩))
              · skip
                rw [if_neg c9] at hF
                refine e_iconst X 1 dX11_person_104 rfl ?_
                refine e_goto X 109 dX11_person_105 (by decide) ?_
                exact e_xr (e_iret X hr dX11_person_109 (Nat.le_of_ble_eq_true rfl) (Nat.le_of_ble_eq_true rfl) (by cases hF; exact ⟨_, rfl, rfl, rfl⟩))
            · rw [if_neg c8] at hF
              by_cases c10 : v2 = 5
              · rw [if_pos c10] at hF
                refine e_tabIn X 110 5 c10 dX11_person_6 (by decide) (by decide) rfl (by decide) ?_
                refine e_aload_n X dX11_person_110 rfl rfl ?_
                refine ge_W_town X wf_X11_21 dX11_person_111 ?_
                refine e_iload_n X dX11_person_114 rfl rfl ?_
                refine e_callVi X (r := (F_Town_spouseOf σ 3 v1)) (σ1 := σ) [.int v1] [] (C_Town_spouseOf (Cx_gok X) σ 3 v1 ok_Town_3) gv_X11_169 yk_X9_spouseOf rfl (ent_lt ok_Town_3.1) (ent_at ok_Town_3.1 _) (rfl : vCl[8]? = some (RX9, TX9, 20)) ⟨Nat.le_of_ble_eq_true rfl, Nat.le_of_ble_eq_true rfl⟩ ⟨Nat.le_of_ble_eq_true rfl, Nat.le_of_ble_eq_true rfl⟩ (Nat.le_of_ble_eq_true rfl) dX11_person_115 rfl ?_
                exact e_xr (e_iret X hr dX11_person_118 (Nat.le_of_ble_eq_true rfl) (Nat.le_of_ble_eq_true rfl) (by cases hF; exact ⟨_, rfl, rfl, rfl⟩))
              · rw [if_neg c10] at hF
                by_cases c11 : v2 = 6
                · rw [if_pos c11] at hF
                  refine e_tabIn X 119 6 c11 dX11_person_6 (by decide) (by decide) rfl (by decide) ?_
                  refine e_aload_n X dX11_person_119 rfl rfl ?_
                  refine ge_W_town X wf_X11_21 dX11_person_120 ?_
                  refine e_iload_n X dX11_person_123 rfl rfl ?_
                  refine e_callVi X (r := (F_Town_shareOf σ 3 v1)) (σ1 := σ) [.int v1] [] (C_Town_shareOf (Cx_gok X) σ 3 v1 ok_Town_3) gv_X11_172 yk_X9_shareOf rfl (ent_lt ok_Town_3.1) (ent_at ok_Town_3.1 _) (rfl : vCl[8]? = some (RX9, TX9, 20)) ⟨Nat.le_of_ble_eq_true rfl, Nat.le_of_ble_eq_true rfl⟩ ⟨Nat.le_of_ble_eq_true rfl, Nat.le_of_ble_eq_true rfl⟩ (Nat.le_of_ble_eq_true rfl) dX11_person_124 rfl ?_
                  exact e_xr (e_iret X hr dX11_person_127 (Nat.le_of_ble_eq_true rfl) (Nat.le_of_ble_eq_true rfl) (by cases hF; exact ⟨_, rfl, rfl, rfl⟩))
                · rw [if_neg c11] at hF
                  refine e_tabOut X 128 (by have n_c4 : ¬ (v2 : Int32).toInt = 0 := lv_neT c4 rfl; have n_c5 : ¬ (v2 : Int32).toInt = 1 := lv_neT c5 rfl; have n_c6 : ¬ (v2 : Int32).toInt = 2 := lv_neT c6 rfl; have n_c7 : ¬ (v2 : Int32).toInt = 3 := lv_neT c7 rfl; have n_c8 : ¬ (v2 : Int32).toInt = 4 := lv_neT c8 rfl; have n_c10 : ¬ (v2 : Int32).toInt = 5 := lv_neT c10 rfl; have n_c11 : ¬ (v2 : Int32).toInt = 6 := lv_neT c11 rfl; omega) dX11_person_6 (by decide) ?_
                  exact e_throwNS X hex (cls := "java/util/NoSuchElementException") (text := "a person has no such what") (Y9 := "java/lang/RuntimeException") (r9 := ["java/lang/Exception"]) (by decide +kernel) (by decide +kernel) (by decide +kernel) wxk_175 wxi_4 ((x_gst X).2.1.2 ("RivalWeds", 177, "a person has no such what") (List.mem_of_getElem? (i := 4) (by decide +kernel))) vat_179 vau_179 ((x_gst X).2.2.2.2.1 _ (List.mem_of_getElem? (i := 4) (by decide +kernel))) vag_179 dX11_person_128 dX11_person_131 dX11_person_132 dX11_person_134 dX11_person_137 (Nat.le_of_ble_eq_true rfl) (Nat.le_of_ble_eq_true rfl) (Nat.le_of_ble_eq_true rfl) (Nat.le_of_ble_eq_true rfl) (Nat.le_of_ble_eq_true rfl) (Nat.le_of_ble_eq_true rfl) (by cases hF; exact ⟨rfl, rfl⟩)
  · skip
    rw [hz3, sumE_inl] at hF
    cases hF; exact ⟨rfl, rfl⟩
set_option maxRecDepth 20000 in
set_option maxHeartbeats 4000000 in
theorem C_W_liking (hG : Gok l Γ D s0) (σ : Mem) (v1 : Int32) (v2 : Int32)  : CX l Γ D s0 yX11_liking cX11_liking 3 (some .int) 8 3 18 125 σ [.ref (Γ.1 + 0), .int v1, .int v2] (PXv σ (F_W_liking σ v1 v2)) (XXn σ (F_W_liking σ v1 v2)) := by
  generalize hF : F_W_liking σ v1 v2 = out
  unfold F_W_liking at hF
  refine e_xmet (own := RX11) hG (by decide +kernel) rfl rfl (Nat.le_of_ble_eq_true rfl) ?_
  intro p e s m args below meth c X hex hr
  show E p l e _ s m args below meth c Γ D 0 0 _ σ 0 [some (.ref (Γ.1 + 0)), some (.int v1), some (.int v2)] []
  refine e_aload_n X dX11_liking_0 rfl rfl ?_
  refine e_iload_n X dX11_liking_1 rfl rfl ?_
  refine e_iload_n X dX11_liking_2 rfl rfl ?_
  refine e_xcallVn X hex (F_W_checkTwo σ v1 v2) [.int v1, .int v2] [] (C_W_checkTwo (Cx_gok X) σ v1 v2) gv_X11_180 yk_X11_checkTwo rfl (ent_lt (rfl : entTbl[0]? = some (0, 0))) (ent_at (rfl : entTbl[0]? = some (0, 0)) _) (rfl : vCl[10]? = some (RX11, TX11, 17)) ⟨Nat.le_of_ble_eq_true rfl, Nat.le_of_ble_eq_true rfl⟩ ⟨Nat.le_of_ble_eq_true rfl, Nat.le_of_ble_eq_true rfl⟩ ⟨Nat.le_of_ble_eq_true rfl, Nat.le_of_ble_eq_true rfl⟩ (Nat.le_of_ble_eq_true rfl) dX11_liking_3 rfl (fun o1 hz3 => ?_) (fun e2 hz3 => ?_)
  · skip
    rw [hz3, sumE_inr] at hF
    refine e_aload_n X dX11_liking_6 rfl rfl ?_
    refine ge_W_town X wf_X11_21 dX11_liking_7 ?_
    refine e_iload_n X dX11_liking_10 rfl rfl ?_
    refine e_iload_n X dX11_liking_11 rfl rfl ?_
    refine e_callVi X (r := (F_Town_likingOf σ 3 v1 v2)) (σ1 := σ) [.int v1, .int v2] [] (C_Town_likingOf (Cx_gok X) σ 3 v1 v2 ok_Town_3) gv_X11_183 yk_X9_likingOf rfl (ent_lt ok_Town_3.1) (ent_at ok_Town_3.1 _) (rfl : vCl[8]? = some (RX9, TX9, 20)) ⟨Nat.le_of_ble_eq_true rfl, Nat.le_of_ble_eq_true rfl⟩ ⟨Nat.le_of_ble_eq_true rfl, Nat.le_of_ble_eq_true rfl⟩ (Nat.le_of_ble_eq_true rfl) dX11_liking_12 rfl ?_
    exact e_xr (e_iret X hr dX11_liking_15 (Nat.le_of_ble_eq_true rfl) (Nat.le_of_ble_eq_true rfl) (by cases hF; exact ⟨_, rfl, rfl, rfl⟩))
  · skip
    rw [hz3, sumE_inl] at hF
    cases hF; exact ⟨rfl, rfl⟩
set_option maxRecDepth 20000 in
set_option maxHeartbeats 4000000 in
theorem C_W_match (hG : Gok l Γ D s0) (σ : Mem) (v1 : Int32) (v2 : Int32)  {out : (String × Mem) ⊕ (Mem × Int32)} (hF : F_W_match σ v1 v2 = some out) : CX l Γ D s0 yX11_match cX11_match 3 (some .int) 7 2 12 115 σ [.ref (Γ.1 + 0), .int v1, .int v2] (PXwv out) (XXw out) := by
  unfold F_W_match at hF
  refine e_xmet (own := RX11) hG (by decide +kernel) rfl rfl (Nat.le_of_ble_eq_true rfl) ?_
  intro p e s m args below meth c X hex hr
  show E p l e _ s m args below meth c Γ D 0 0 _ σ 0 [some (.ref (Γ.1 + 0)), some (.int v1), some (.int v2)] []
  refine e_aload_n X dX11_match_0 rfl rfl ?_
  refine e_iload_n X dX11_match_1 rfl rfl ?_
  refine e_xcallVn X hex (F_W_checkMatch σ v1) [.int v1] [] (C_W_checkMatch (Cx_gok X) σ v1) gv_X11_187 yk_X11_checkMatch rfl (ent_lt (rfl : entTbl[0]? = some (0, 0))) (ent_at (rfl : entTbl[0]? = some (0, 0)) _) (rfl : vCl[10]? = some (RX11, TX11, 17)) ⟨Nat.le_of_ble_eq_true rfl, Nat.le_of_ble_eq_true rfl⟩ ⟨Nat.le_of_ble_eq_true rfl, Nat.le_of_ble_eq_true rfl⟩ ⟨Nat.le_of_ble_eq_true rfl, Nat.le_of_ble_eq_true rfl⟩ (Nat.le_of_ble_eq_true rfl) dX11_match_2 rfl (fun o1 hz3 => ?_) (fun e2 hz3 => ?_)
  · skip
    rw [hz3, sumE_inr] at hF
    refine e_iload_n X dX11_match_5 rfl rfl ?_
    -- switch
    by_cases c4 : v2 = 0
    · rw [if_pos c4] at hF
      refine e_tabIn X 48 0 c4 dX11_match_6 (by decide) (by decide) rfl (by decide) ?_
      refine e_aload_n X dX11_match_48 rfl rfl ?_
      refine ge_W_town X wf_X11_21 dX11_match_49 ?_
      refine e_iload_n X dX11_match_52 rfl rfl ?_
      refine e_callVi X (r := (F_Town_firstOf σ 3 v1)) (σ1 := σ) [.int v1] [] (C_Town_firstOf (Cx_gok X) σ 3 v1 ok_Town_3) gv_X11_190 yk_X9_firstOf rfl (ent_lt ok_Town_3.1) (ent_at ok_Town_3.1 _) (rfl : vCl[8]? = some (RX9, TX9, 20)) ⟨Nat.le_of_ble_eq_true rfl, Nat.le_of_ble_eq_true rfl⟩ ⟨Nat.le_of_ble_eq_true rfl, Nat.le_of_ble_eq_true rfl⟩ (Nat.le_of_ble_eq_true rfl) dX11_match_53 rfl ?_
      exact e_xr (e_iret X hr dX11_match_56 (Nat.le_of_ble_eq_true rfl) (Nat.le_of_ble_eq_true rfl) (by cases hF; exact ⟨_, rfl, rfl, rfl⟩))
    · rw [if_neg c4] at hF
      by_cases c5 : v2 = 1
      · rw [if_pos c5] at hF
        refine e_tabIn X 57 1 c5 dX11_match_6 (by decide) (by decide) rfl (by decide) ?_
        refine e_aload_n X dX11_match_57 rfl rfl ?_
        refine ge_W_town X wf_X11_21 dX11_match_58 ?_
        refine e_iload_n X dX11_match_61 rfl rfl ?_
        refine e_callVi X (r := (F_Town_secondOf σ 3 v1)) (σ1 := σ) [.int v1] [] (C_Town_secondOf (Cx_gok X) σ 3 v1 ok_Town_3) gv_X11_193 yk_X9_secondOf rfl (ent_lt ok_Town_3.1) (ent_at ok_Town_3.1 _) (rfl : vCl[8]? = some (RX9, TX9, 20)) ⟨Nat.le_of_ble_eq_true rfl, Nat.le_of_ble_eq_true rfl⟩ ⟨Nat.le_of_ble_eq_true rfl, Nat.le_of_ble_eq_true rfl⟩ (Nat.le_of_ble_eq_true rfl) dX11_match_62 rfl ?_
        exact e_xr (e_iret X hr dX11_match_65 (Nat.le_of_ble_eq_true rfl) (Nat.le_of_ble_eq_true rfl) (by cases hF; exact ⟨_, rfl, rfl, rfl⟩))
      · rw [if_neg c5] at hF
        by_cases c6 : v2 = 2
        · rw [if_pos c6] at hF
          refine e_tabIn X 66 2 c6 dX11_match_6 (by decide) (by decide) rfl (by decide) ?_
          refine e_aload_n X dX11_match_66 rfl rfl ?_
          refine ge_W_town X wf_X11_21 dX11_match_67 ?_
          refine ge_Town_happy X ok_Town_3 wf_X11_196 dX11_match_70 ?_
          refine e_iload_n X dX11_match_73 rfl rfl ?_
          refine e_callVi X (r := (F_Row_at σ (3 + 11) 20 v1)) (σ1 := σ) [.int v1] [] (C_Row_at (Cx_gok X) σ (3 + 11) 20 v1 ok_Town_3.2.2.2.2.2.2.1) gv_X11_152 yk_X6_at rfl (ent_lt ok_Town_3.2.2.2.2.2.2.1.1) (ent_at ok_Town_3.2.2.2.2.2.2.1.1 _) (rfl : vCl[6]? = some (RX6, TX6, 1)) ⟨Nat.le_of_ble_eq_true rfl, Nat.le_of_ble_eq_true rfl⟩ ⟨Nat.le_of_ble_eq_true rfl, Nat.le_of_ble_eq_true rfl⟩ (Nat.le_of_ble_eq_true rfl) dX11_match_74 rfl ?_
          exact e_xr (e_iret X hr dX11_match_77 (Nat.le_of_ble_eq_true rfl) (Nat.le_of_ble_eq_true rfl) (by cases hF; exact ⟨_, rfl, rfl, rfl⟩))
        · rw [if_neg c6] at hF
          by_cases c7 : v2 = 3
          · rw [if_pos c7] at hF
            refine e_tabIn X 78 3 c7 dX11_match_6 (by decide) (by decide) rfl (by decide) ?_
            refine e_aload_n X dX11_match_78 rfl rfl ?_
            refine ge_W_town X wf_X11_21 dX11_match_79 ?_
            refine ge_Town_monthsWed X ok_Town_3 wf_X11_199 dX11_match_82 ?_
            refine e_iload_n X dX11_match_85 rfl rfl ?_
            refine e_callVi X (r := (F_Row_at σ (3 + 13) 20 v1)) (σ1 := σ) [.int v1] [] (C_Row_at (Cx_gok X) σ (3 + 13) 20 v1 ok_Town_3.2.2.2.2.2.2.2.1) gv_X11_152 yk_X6_at rfl (ent_lt ok_Town_3.2.2.2.2.2.2.2.1.1) (ent_at ok_Town_3.2.2.2.2.2.2.2.1.1 _) (rfl : vCl[6]? = some (RX6, TX6, 1)) ⟨Nat.le_of_ble_eq_true rfl, Nat.le_of_ble_eq_true rfl⟩ ⟨Nat.le_of_ble_eq_true rfl, Nat.le_of_ble_eq_true rfl⟩ (Nat.le_of_ble_eq_true rfl) dX11_match_86 rfl ?_
            exact e_xr (e_iret X hr dX11_match_89 (Nat.le_of_ble_eq_true rfl) (Nat.le_of_ble_eq_true rfl) (by cases hF; exact ⟨_, rfl, rfl, rfl⟩))
          · rw [if_neg c7] at hF
            by_cases c8 : v2 = 4
            · rw [if_pos c8] at hF
              refine e_tabIn X 90 4 c8 dX11_match_6 (by decide) (by decide) rfl (by decide) ?_
              refine e_aload_n X dX11_match_90 rfl rfl ?_
              refine ge_W_town X wf_X11_21 dX11_match_91 ?_
              refine e_iload_n X dX11_match_94 rfl rfl ?_
              refine e_callVi X (r := (F_Town_isOver σ 3 v1)) (σ1 := σ) [.int v1] [] (C_Town_isOver (Cx_gok X) σ 3 v1 ok_Town_3) gv_X11_202 yk_X9_isOver rfl (ent_lt ok_Town_3.1) (ent_at ok_Town_3.1 _) (rfl : vCl[8]? = some (RX9, TX9, 20)) ⟨Nat.le_of_ble_eq_true rfl, Nat.le_of_ble_eq_true rfl⟩ ⟨Nat.le_of_ble_eq_true rfl, Nat.le_of_ble_eq_true rfl⟩ (Nat.le_of_ble_eq_true rfl) dX11_match_95 rfl ?_
              refine e_if_eq X 105 dX11_match_98 (by decide) (fun c9 => ?_) (fun c9 => ?_)
              · skip
                rw [if_pos c9] at hF
                refine e_iconst X 0 dX11_match_105 rfl ?_
                exact e_xr (e_iret X hr dX11_match_106 (Nat.le_of_ble_eq_true rfl) (Nat.le_of_ble_eq_true rfl) (by cases hF; exact ⟨_, rfl, rfl, rfl⟩))
              · skip
                rw [if_neg c9] at hF
                refine e_iconst X 1 dX11_match_101 rfl ?_
                refine e_goto X 106 dX11_match_102 (by decide) ?_
                exact e_xr (e_iret X hr dX11_match_106 (Nat.le_of_ble_eq_true rfl) (Nat.le_of_ble_eq_true rfl) (by cases hF; exact ⟨_, rfl, rfl, rfl⟩))
            · rw [if_neg c8] at hF
              by_cases c10 : v2 = 5
              · rw [if_pos c10] at hF
                refine e_tabIn X 107 5 c10 dX11_match_6 (by decide) (by decide) rfl (by decide) ?_
                refine e_aload_n X dX11_match_107 rfl rfl ?_
                refine ge_W_town X wf_X11_21 dX11_match_108 ?_
                refine e_iload_n X dX11_match_111 rfl rfl ?_
                refine e_callVi X (r := (F_Town_insurersOf σ 3 v1)) (σ1 := σ) [.int v1] [] (C_Town_insurersOf (Cx_gok X) σ 3 v1 ok_Town_3) gv_X11_205 yk_X9_insurersOf rfl (ent_lt ok_Town_3.1) (ent_at ok_Town_3.1 _) (rfl : vCl[8]? = some (RX9, TX9, 20)) ⟨Nat.le_of_ble_eq_true rfl, Nat.le_of_ble_eq_true rfl⟩ ⟨Nat.le_of_ble_eq_true rfl, Nat.le_of_ble_eq_true rfl⟩ (Nat.le_of_ble_eq_true rfl) dX11_match_112 rfl ?_
                exact e_xr (e_iret X hr dX11_match_115 (Nat.le_of_ble_eq_true rfl) (Nat.le_of_ble_eq_true rfl) (by cases hF; exact ⟨_, rfl, rfl, rfl⟩))
              · rw [if_neg c10] at hF
                by_cases c11 : v2 = 6
                · rw [if_pos c11] at hF
                  refine e_tabIn X 116 6 c11 dX11_match_6 (by decide) (by decide) rfl (by decide) ?_
                  refine e_aload_n X dX11_match_116 rfl rfl ?_
                  refine ge_W_foresight X wf_X11_66 dX11_match_117 ?_
                  refine e_aload_n X dX11_match_120 rfl rfl ?_
                  refine ge_W_town X wf_X11_21 dX11_match_121 ?_
                  refine e_aload_n X dX11_match_124 rfl rfl ?_
                  refine ge_W_law X wf_X11_28 dX11_match_125 ?_
                  refine e_iload_n X dX11_match_128 rfl rfl ?_
                  obtain ⟨z12, h_z12, hF⟩ := obind_out hF
                  refine e_callVi X (r := z12.2) (σ1 := z12.1) [.ref (Γ.1 + 3), .ref (Γ.1 + 20), .int v1] [] (C_For_turnsNow (Cx_gok X) σ 3 20 v1 ok_Town_3 ok_Law_20 h_z12) gv_X11_208 yk_X0_turnsNow rfl (ent_lt (rfl : entTbl[94]? = some (8, 0))) (ent_at (rfl : entTbl[94]? = some (8, 0)) _) (rfl : vCl[0]? = some (RX0, TX0, 4)) ⟨Nat.le_of_ble_eq_true rfl, Nat.le_of_ble_eq_true rfl⟩ ⟨Nat.le_of_ble_eq_true rfl, Nat.le_of_ble_eq_true rfl⟩ (Nat.le_of_ble_eq_true rfl) dX11_match_129 rfl ?_
                  exact e_xr (e_iret X hr dX11_match_132 (Nat.le_of_ble_eq_true rfl) (Nat.le_of_ble_eq_true rfl) (by cases hF; exact ⟨_, rfl, rfl, rfl⟩))
                · rw [if_neg c11] at hF
                  refine e_tabOut X 133 (by have n_c4 : ¬ (v2 : Int32).toInt = 0 := lv_neT c4 rfl; have n_c5 : ¬ (v2 : Int32).toInt = 1 := lv_neT c5 rfl; have n_c6 : ¬ (v2 : Int32).toInt = 2 := lv_neT c6 rfl; have n_c7 : ¬ (v2 : Int32).toInt = 3 := lv_neT c7 rfl; have n_c8 : ¬ (v2 : Int32).toInt = 4 := lv_neT c8 rfl; have n_c10 : ¬ (v2 : Int32).toInt = 5 := lv_neT c10 rfl; have n_c11 : ¬ (v2 : Int32).toInt = 6 := lv_neT c11 rfl; omega) dX11_match_6 (by decide) ?_
                  exact e_throwNS X hex (cls := "java/util/NoSuchElementException") (text := "a match has no such what") (Y9 := "java/lang/RuntimeException") (r9 := ["java/lang/Exception"]) (by decide +kernel) (by decide +kernel) (by decide +kernel) wxk_175 wxi_4 ((x_gst X).2.1.2 ("RivalWeds", 212, "a match has no such what") (List.mem_of_getElem? (i := 7) (by decide +kernel))) vat_179 vau_179 ((x_gst X).2.2.2.2.1 _ (List.mem_of_getElem? (i := 4) (by decide +kernel))) vag_179 dX11_match_133 dX11_match_136 dX11_match_137 dX11_match_139 dX11_match_142 (Nat.le_of_ble_eq_true rfl) (Nat.le_of_ble_eq_true rfl) (Nat.le_of_ble_eq_true rfl) (Nat.le_of_ble_eq_true rfl) (Nat.le_of_ble_eq_true rfl) (Nat.le_of_ble_eq_true rfl) (by cases hF; exact ⟨_, rfl, rfl, rfl⟩)
  · skip
    rw [hz3, sumE_inl] at hF
    cases hF; exact ⟨_, rfl, rfl, rfl⟩
set_option maxRecDepth 20000 in
set_option maxHeartbeats 4000000 in
theorem C_W_ask (hG : Gok l Γ D s0) (σ : Mem) (v1 : Int32) (v2 : Int32)  {out : (String × Mem) ⊕ (Mem × Int32)} (hF : F_W_ask σ v1 v2 = some out) : CX l Γ D s0 yX11_ask cX11_ask 3 (some .boolean) 8 3 18 384 σ [.ref (Γ.1 + 0), .int v1, .int v2] (PXwv out) (XXw out) := by
  unfold F_W_ask at hF
  refine e_xmet (own := RX11) hG (by decide +kernel) rfl rfl (Nat.le_of_ble_eq_true rfl) ?_
  intro p e s m args below meth c X hex hr
  show E p l e _ s m args below meth c Γ D 0 0 _ σ 0 [some (.ref (Γ.1 + 0)), some (.int v1), some (.int v2)] []
  refine e_aload_n X dX11_ask_0 rfl rfl ?_
  refine e_iload_n X dX11_ask_1 rfl rfl ?_
  refine e_iload_n X dX11_ask_2 rfl rfl ?_
  refine e_xcallVn X hex (F_W_checkTwo σ v1 v2) [.int v1, .int v2] [] (C_W_checkTwo (Cx_gok X) σ v1 v2) gv_X11_180 yk_X11_checkTwo rfl (ent_lt (rfl : entTbl[0]? = some (0, 0))) (ent_at (rfl : entTbl[0]? = some (0, 0)) _) (rfl : vCl[10]? = some (RX11, TX11, 17)) ⟨Nat.le_of_ble_eq_true rfl, Nat.le_of_ble_eq_true rfl⟩ ⟨Nat.le_of_ble_eq_true rfl, Nat.le_of_ble_eq_true rfl⟩ ⟨Nat.le_of_ble_eq_true rfl, Nat.le_of_ble_eq_true rfl⟩ (Nat.le_of_ble_eq_true rfl) dX11_ask_3 rfl (fun o1 hz3 => ?_) (fun e2 hz3 => ?_)
  · skip
    rw [hz3, sumE_inr] at hF
    refine e_aload_n X dX11_ask_6 rfl rfl ?_
    obtain ⟨z4, h_z4, hF⟩ := obind_out hF
    refine e_callVv X (σ1 := z4) [] [] (C_W_remember (Cx_gok X) σ h_z4) gv_X11_214 yk_X11_remember rfl (ent_lt (rfl : entTbl[0]? = some (0, 0))) (ent_at (rfl : entTbl[0]? = some (0, 0)) _) (rfl : vCl[10]? = some (RX11, TX11, 17)) ⟨Nat.le_of_ble_eq_true rfl, Nat.le_of_ble_eq_true rfl⟩ ⟨Nat.le_of_ble_eq_true rfl, Nat.le_of_ble_eq_true rfl⟩ (Nat.le_of_ble_eq_true rfl) dX11_ask_7 rfl ?_
    refine e_aload_n X dX11_ask_10 rfl rfl ?_
    refine ge_W_town X wf_X11_21 dX11_ask_11 ?_
    refine e_iload_n X dX11_ask_14 rfl rfl ?_
    refine e_iload_n X dX11_ask_15 rfl rfl ?_
    obtain ⟨z5, h_z5, hF⟩ := bindT_out hF
    refine e_callVi X (r := z5.2) (σ1 := z5.1) [.int v1, .int v2] [] (by rw [h_z5]; exact C_Town_addAsked (Cx_gok X) z4 3 v1 v2 ok_Town_3) gv_X11_217 yk_X9_addAsked rfl (ent_lt ok_Town_3.1) (ent_at ok_Town_3.1 _) (rfl : vCl[8]? = some (RX9, TX9, 20)) ⟨Nat.le_of_ble_eq_true rfl, Nat.le_of_ble_eq_true rfl⟩ ⟨Nat.le_of_ble_eq_true rfl, Nat.le_of_ble_eq_true rfl⟩ (Nat.le_of_ble_eq_true rfl) dX11_ask_16 rfl ?_
    exact e_xr (e_zret X hr rfl dX11_ask_19 (Nat.le_of_ble_eq_true rfl) (Nat.le_of_ble_eq_true rfl) (by cases hF; exact ⟨_, rfl, rfl, rfl⟩))
  · skip
    rw [hz3, sumE_inl] at hF
    cases hF; exact ⟨_, rfl, rfl, rfl⟩
set_option maxRecDepth 20000 in
set_option maxHeartbeats 4000000 in
theorem C_W_wed (hG : Gok l Γ D s0) (σ : Mem) (v1 : Int32) (v2 : Int32)  {out : (String × Mem) ⊕ (Mem × Int32)} (hF : F_W_wed σ v1 v2 = some out) : CX l Γ D s0 yX11_wed cX11_wed 3 (some .int) 8 4 24 384 σ [.ref (Γ.1 + 0), .int v1, .int v2] (PXwv out) (XXw out) := by
  unfold F_W_wed at hF
  refine e_xmet (own := RX11) hG (by decide +kernel) rfl rfl (Nat.le_of_ble_eq_true rfl) ?_
  intro p e s m args below meth c X hex hr
  show E p l e _ s m args below meth c Γ D 0 0 _ σ 0 [some (.ref (Γ.1 + 0)), some (.int v1), some (.int v2)] []
  refine e_aload_n X dX11_wed_0 rfl rfl ?_
  refine e_iload_n X dX11_wed_1 rfl rfl ?_
  refine e_iload_n X dX11_wed_2 rfl rfl ?_
  refine e_xcallVn X hex (F_W_checkTwo σ v1 v2) [.int v1, .int v2] [] (C_W_checkTwo (Cx_gok X) σ v1 v2) gv_X11_180 yk_X11_checkTwo rfl (ent_lt (rfl : entTbl[0]? = some (0, 0))) (ent_at (rfl : entTbl[0]? = some (0, 0)) _) (rfl : vCl[10]? = some (RX11, TX11, 17)) ⟨Nat.le_of_ble_eq_true rfl, Nat.le_of_ble_eq_true rfl⟩ ⟨Nat.le_of_ble_eq_true rfl, Nat.le_of_ble_eq_true rfl⟩ ⟨Nat.le_of_ble_eq_true rfl, Nat.le_of_ble_eq_true rfl⟩ (Nat.le_of_ble_eq_true rfl) dX11_wed_3 rfl (fun o1 hz3 => ?_) (fun e2 hz3 => ?_)
  · skip
    rw [hz3, sumE_inr] at hF
    refine e_aload_n X dX11_wed_6 rfl rfl ?_
    refine ge_W_town X wf_X11_21 dX11_wed_7 ?_
    refine e_iload_n X dX11_wed_10 rfl rfl ?_
    refine e_callVi X (r := (F_Town_isWed σ 3 v1)) (σ1 := σ) [.int v1] [] (C_Town_isWed (Cx_gok X) σ 3 v1 ok_Town_3) gv_X11_221 yk_X9_isWed rfl (ent_lt ok_Town_3.1) (ent_at ok_Town_3.1 _) (rfl : vCl[8]? = some (RX9, TX9, 20)) ⟨Nat.le_of_ble_eq_true rfl, Nat.le_of_ble_eq_true rfl⟩ ⟨Nat.le_of_ble_eq_true rfl, Nat.le_of_ble_eq_true rfl⟩ (Nat.le_of_ble_eq_true rfl) dX11_wed_11 rfl ?_
    refine e_if_ne X 28 dX11_wed_14 (by decide) (fun c4 => ?_) (fun c4 => ?_)
    · skip
      rw [if_neg c4] at hF
      exact e_throwS X hex (cls := "java/lang/IllegalStateException") (text := "one of both is wed") (names := ["java/lang/RuntimeException", "java/lang/Exception"]) (by decide +kernel) (by decide +kernel) wxk_224 wxi_1 ((x_gst X).2.1.2 ("RivalWeds", 226, "one of both is wed") (List.mem_of_getElem? (i := 8) (by decide +kernel))) vat_228 vau_228 ((x_gst X).2.2.2.2.1 _ (List.mem_of_getElem? (i := 1) (by decide +kernel))) vag_228 dX11_wed_28 dX11_wed_31 dX11_wed_32 dX11_wed_34 dX11_wed_37 (Nat.le_of_ble_eq_true rfl) (Nat.le_of_ble_eq_true rfl) (Nat.le_of_ble_eq_true rfl) (Nat.le_of_ble_eq_true rfl) (Nat.le_of_ble_eq_true rfl) (Nat.le_of_ble_eq_true rfl) (by cases hF; exact ⟨_, rfl, rfl, rfl⟩)
    · skip
      rw [if_pos c4] at hF
      refine e_aload_n X dX11_wed_17 rfl rfl ?_
      refine ge_W_town X wf_X11_21 dX11_wed_18 ?_
      refine e_iload_n X dX11_wed_21 rfl rfl ?_
      refine e_callVi X (r := (F_Town_isWed σ 3 v2)) (σ1 := σ) [.int v2] [] (C_Town_isWed (Cx_gok X) σ 3 v2 ok_Town_3) gv_X11_221 yk_X9_isWed rfl (ent_lt ok_Town_3.1) (ent_at ok_Town_3.1 _) (rfl : vCl[8]? = some (RX9, TX9, 20)) ⟨Nat.le_of_ble_eq_true rfl, Nat.le_of_ble_eq_true rfl⟩ ⟨Nat.le_of_ble_eq_true rfl, Nat.le_of_ble_eq_true rfl⟩ (Nat.le_of_ble_eq_true rfl) dX11_wed_22 rfl ?_
      refine e_if_eq X 38 dX11_wed_25 (by decide) (fun c5 => ?_) (fun c5 => ?_)
      · skip
        rw [if_pos c5] at hF
        refine e_aload_n X dX11_wed_38 rfl rfl ?_
        refine ge_W_town X wf_X11_21 dX11_wed_39 ?_
        refine ge_Town_matches X ok_Town_3 wf_X11_229 dX11_wed_42 ?_
        refine e_bipush X 20 dX11_wed_45 rfl ?_
        refine e_icmp_lt X 60 dX11_wed_47 (by decide) (fun c6 => ?_) (fun c6 => ?_)
        · skip
          rw [if_pos c6] at hF
          refine e_aload_n X dX11_wed_60 rfl rfl ?_
          obtain ⟨z7, h_z7, hF⟩ := obind_out hF
          refine e_callVv X (σ1 := z7) [] [] (C_W_remember (Cx_gok X) σ h_z7) gv_X11_214 yk_X11_remember rfl (ent_lt (rfl : entTbl[0]? = some (0, 0))) (ent_at (rfl : entTbl[0]? = some (0, 0)) _) (rfl : vCl[10]? = some (RX11, TX11, 17)) ⟨Nat.le_of_ble_eq_true rfl, Nat.le_of_ble_eq_true rfl⟩ ⟨Nat.le_of_ble_eq_true rfl, Nat.le_of_ble_eq_true rfl⟩ (Nat.le_of_ble_eq_true rfl) dX11_wed_61 rfl ?_
          refine e_aload_n X dX11_wed_64 rfl rfl ?_
          refine ge_W_town X wf_X11_21 dX11_wed_65 ?_
          refine e_iload_n X dX11_wed_68 rfl rfl ?_
          refine e_iload_n X dX11_wed_69 rfl rfl ?_
          refine e_bipush X 50 dX11_wed_70 rfl ?_
          obtain ⟨z8, h_z8, hF⟩ := bindT_out hF
          refine e_callVi X (r := z8.2) (σ1 := z8.1) [.int v1, .int v2, .int 50] [] (by rw [h_z8]; exact C_Town_addMatch (Cx_gok X) z7 3 v1 v2 50 ok_Town_3) gv_X11_234 yk_X9_addMatch rfl (ent_lt ok_Town_3.1) (ent_at ok_Town_3.1 _) (rfl : vCl[8]? = some (RX9, TX9, 20)) ⟨Nat.le_of_ble_eq_true rfl, Nat.le_of_ble_eq_true rfl⟩ ⟨Nat.le_of_ble_eq_true rfl, Nat.le_of_ble_eq_true rfl⟩ (Nat.le_of_ble_eq_true rfl) dX11_wed_72 rfl ?_
          exact e_xr (e_iret X hr dX11_wed_75 (Nat.le_of_ble_eq_true rfl) (Nat.le_of_ble_eq_true rfl) (by cases hF; exact ⟨_, rfl, rfl, rfl⟩))
        · skip
          rw [if_neg c6] at hF
          exact e_throwS X hex (cls := "java/lang/UnsupportedOperationException") (text := "there are 20 matches") (names := ["java/lang/RuntimeException", "java/lang/Exception"]) (by decide +kernel) (by decide +kernel) wxk_126 wxi_3 ((x_gst X).2.1.2 ("RivalWeds", 232, "there are 20 matches") (List.mem_of_getElem? (i := 9) (by decide +kernel))) vat_130 vau_130 ((x_gst X).2.2.2.2.1 _ (List.mem_of_getElem? (i := 3) (by decide +kernel))) vag_130 dX11_wed_50 dX11_wed_53 dX11_wed_54 dX11_wed_56 dX11_wed_59 (Nat.le_of_ble_eq_true rfl) (Nat.le_of_ble_eq_true rfl) (Nat.le_of_ble_eq_true rfl) (Nat.le_of_ble_eq_true rfl) (Nat.le_of_ble_eq_true rfl) (Nat.le_of_ble_eq_true rfl) (by cases hF; exact ⟨_, rfl, rfl, rfl⟩)
      · skip
        rw [if_neg c5] at hF
        exact e_throwS X hex (cls := "java/lang/IllegalStateException") (text := "one of both is wed") (names := ["java/lang/RuntimeException", "java/lang/Exception"]) (by decide +kernel) (by decide +kernel) wxk_224 wxi_1 ((x_gst X).2.1.2 ("RivalWeds", 226, "one of both is wed") (List.mem_of_getElem? (i := 8) (by decide +kernel))) vat_228 vau_228 ((x_gst X).2.2.2.2.1 _ (List.mem_of_getElem? (i := 1) (by decide +kernel))) vag_228 dX11_wed_28 dX11_wed_31 dX11_wed_32 dX11_wed_34 dX11_wed_37 (Nat.le_of_ble_eq_true rfl) (Nat.le_of_ble_eq_true rfl) (Nat.le_of_ble_eq_true rfl) (Nat.le_of_ble_eq_true rfl) (Nat.le_of_ble_eq_true rfl) (Nat.le_of_ble_eq_true rfl) (by cases hF; exact ⟨_, rfl, rfl, rfl⟩)
  · skip
    rw [hz3, sumE_inl] at hF
    cases hF; exact ⟨_, rfl, rfl, rfl⟩
set_option maxRecDepth 20000 in
set_option maxHeartbeats 4000000 in
theorem C_W_gift (hG : Gok l Γ D s0) (σ : Mem) (v1 : Int32) (v2 : Int32)  {out : (String × Mem) ⊕ (Mem × Int32)} (hF : F_W_gift σ v1 v2 = some out) : CX l Γ D s0 yX11_gift cX11_gift 3 (some .int) 8 5 30 384 σ [.ref (Γ.1 + 0), .int v1, .int v2] (PXwv out) (XXw out) := by
  unfold F_W_gift at hF
  refine e_xmet (own := RX11) hG (by decide +kernel) rfl rfl (Nat.le_of_ble_eq_true rfl) ?_
  intro p e s m args below meth c X hex hr
  show E p l e _ s m args below meth c Γ D 0 0 _ σ 0 [some (.ref (Γ.1 + 0)), some (.int v1), some (.int v2)] []
  refine e_aload_n X dX11_gift_0 rfl rfl ?_
  refine e_iload_n X dX11_gift_1 rfl rfl ?_
  refine e_iload_n X dX11_gift_2 rfl rfl ?_
  refine e_xcallVn X hex (F_W_checkInsurer σ v1 v2) [.int v1, .int v2] [] (C_W_checkInsurer (Cx_gok X) σ v1 v2) gv_X11_238 yk_X11_checkInsurer rfl (ent_lt (rfl : entTbl[0]? = some (0, 0))) (ent_at (rfl : entTbl[0]? = some (0, 0)) _) (rfl : vCl[10]? = some (RX11, TX11, 17)) ⟨Nat.le_of_ble_eq_true rfl, Nat.le_of_ble_eq_true rfl⟩ ⟨Nat.le_of_ble_eq_true rfl, Nat.le_of_ble_eq_true rfl⟩ ⟨Nat.le_of_ble_eq_true rfl, Nat.le_of_ble_eq_true rfl⟩ (Nat.le_of_ble_eq_true rfl) dX11_gift_3 rfl (fun o1 hz3 => ?_) (fun e2 hz3 => ?_)
  · skip
    rw [hz3, sumE_inr] at hF
    refine e_aload_n X dX11_gift_6 rfl rfl ?_
    refine ge_W_town X wf_X11_21 dX11_gift_7 ?_
    refine ge_Town_wealth X ok_Town_3 wf_X11_149 dX11_gift_10 ?_
    refine e_iload_n X dX11_gift_13 rfl rfl ?_
    refine e_callVi X (r := (F_Row_at σ (3 + 1) 8 v1)) (σ1 := σ) [.int v1] [] (C_Row_at (Cx_gok X) σ (3 + 1) 8 v1 ok_Town_3.2.1) gv_X11_152 yk_X6_at rfl (ent_lt ok_Town_3.2.1.1) (ent_at ok_Town_3.2.1.1 _) (rfl : vCl[6]? = some (RX6, TX6, 1)) ⟨Nat.le_of_ble_eq_true rfl, Nat.le_of_ble_eq_true rfl⟩ ⟨Nat.le_of_ble_eq_true rfl, Nat.le_of_ble_eq_true rfl⟩ (Nat.le_of_ble_eq_true rfl) dX11_gift_14 rfl ?_
    refine e_bipush X 10 dX11_gift_17 rfl ?_
    refine e_icmp_ge X 32 dX11_gift_19 (by decide) (fun c4 => ?_) (fun c4 => ?_)
    · skip
      rw [if_neg c4] at hF
      refine e_aload_n X dX11_gift_32 rfl rfl ?_
      obtain ⟨z5, h_z5, hF⟩ := obind_out hF
      refine e_callVv X (σ1 := z5) [] [] (C_W_remember (Cx_gok X) σ h_z5) gv_X11_214 yk_X11_remember rfl (ent_lt (rfl : entTbl[0]? = some (0, 0))) (ent_at (rfl : entTbl[0]? = some (0, 0)) _) (rfl : vCl[10]? = some (RX11, TX11, 17)) ⟨Nat.le_of_ble_eq_true rfl, Nat.le_of_ble_eq_true rfl⟩ ⟨Nat.le_of_ble_eq_true rfl, Nat.le_of_ble_eq_true rfl⟩ (Nat.le_of_ble_eq_true rfl) dX11_gift_33 rfl ?_
      refine e_aload_n X dX11_gift_36 rfl rfl ?_
      refine ge_W_town X wf_X11_21 dX11_gift_37 ?_
      refine ge_Town_wealth X ok_Town_3 wf_X11_149 dX11_gift_40 ?_
      refine e_iload_n X dX11_gift_43 rfl rfl ?_
      refine e_aload_n X dX11_gift_44 rfl rfl ?_
      refine ge_W_town X wf_X11_21 dX11_gift_45 ?_
      refine ge_Town_wealth X ok_Town_3 wf_X11_149 dX11_gift_48 ?_
      refine e_iload_n X dX11_gift_51 rfl rfl ?_
      refine e_callVi X (r := (F_Row_at z5 (3 + 1) 8 v1)) (σ1 := z5) [.int v1] [.int v1, .ref (Γ.1 + (3 + 1))] (C_Row_at (Cx_gok X) z5 (3 + 1) 8 v1 ok_Town_3.2.1) gv_X11_152 yk_X6_at rfl (ent_lt ok_Town_3.2.1.1) (ent_at ok_Town_3.2.1.1 _) (rfl : vCl[6]? = some (RX6, TX6, 1)) ⟨Nat.le_of_ble_eq_true rfl, Nat.le_of_ble_eq_true rfl⟩ ⟨Nat.le_of_ble_eq_true rfl, Nat.le_of_ble_eq_true rfl⟩ (Nat.le_of_ble_eq_true rfl) dX11_gift_52 rfl ?_
      refine e_bipush X 10 dX11_gift_55 rfl ?_
      refine e_isub X dX11_gift_57 ?_
      obtain ⟨z6, h_z6, hF⟩ := bindT_out hF
      refine e_callVv X (σ1 := z6) [.int v1, .int (((F_Row_at z5 (3 + 1) 8 v1) - 10))] [] (by rw [h_z6]; exact C_Row_put (Cx_gok X) z5 (3 + 1) 8 v1 (((F_Row_at z5 (3 + 1) 8 v1) - 10)) ok_Town_3.2.1) gv_X11_94 yk_X6_put rfl (ent_lt ok_Town_3.2.1.1) (ent_at ok_Town_3.2.1.1 _) (rfl : vCl[6]? = some (RX6, TX6, 1)) ⟨Nat.le_of_ble_eq_true rfl, Nat.le_of_ble_eq_true rfl⟩ ⟨Nat.le_of_ble_eq_true rfl, Nat.le_of_ble_eq_true rfl⟩ (Nat.le_of_ble_eq_true rfl) dX11_gift_58 rfl ?_
      refine e_aload_n X dX11_gift_61 rfl rfl ?_
      refine ge_W_town X wf_X11_21 dX11_gift_62 ?_
      refine e_iload_n X dX11_gift_65 rfl rfl ?_
      refine e_iconst X 5 dX11_gift_66 rfl ?_
      obtain ⟨z7, h_z7, hF⟩ := bindT_out hF
      refine e_callVi X (r := z7.2) (σ1 := z7.1) [.int v2, .int 5] [] (by rw [h_z7]; exact C_Town_changeHappy (Cx_gok X) z6 3 v2 5 ok_Town_3) gv_X11_243 yk_X9_changeHappy rfl (ent_lt ok_Town_3.1) (ent_at ok_Town_3.1 _) (rfl : vCl[8]? = some (RX9, TX9, 20)) ⟨Nat.le_of_ble_eq_true rfl, Nat.le_of_ble_eq_true rfl⟩ ⟨Nat.le_of_ble_eq_true rfl, Nat.le_of_ble_eq_true rfl⟩ (Nat.le_of_ble_eq_true rfl) dX11_gift_67 rfl ?_
      exact e_xr (e_iret X hr dX11_gift_70 (Nat.le_of_ble_eq_true rfl) (Nat.le_of_ble_eq_true rfl) (by cases hF; exact ⟨_, rfl, rfl, rfl⟩))
    · skip
      rw [if_pos c4] at hF
      exact e_throwS X hex (cls := "java/lang/IllegalStateException") (text := "one has less than 10") (names := ["java/lang/RuntimeException", "java/lang/Exception"]) (by decide +kernel) (by decide +kernel) wxk_224 wxi_1 ((x_gst X).2.1.2 ("RivalWeds", 241, "one has less than 10") (List.mem_of_getElem? (i := 12) (by decide +kernel))) vat_228 vau_228 ((x_gst X).2.2.2.2.1 _ (List.mem_of_getElem? (i := 1) (by decide +kernel))) vag_228 dX11_gift_22 dX11_gift_25 dX11_gift_26 dX11_gift_28 dX11_gift_31 (Nat.le_of_ble_eq_true rfl) (Nat.le_of_ble_eq_true rfl) (Nat.le_of_ble_eq_true rfl) (Nat.le_of_ble_eq_true rfl) (Nat.le_of_ble_eq_true rfl) (Nat.le_of_ble_eq_true rfl) (by cases hF; exact ⟨_, rfl, rfl, rfl⟩)
  · skip
    rw [hz3, sumE_inl] at hF
    cases hF; exact ⟨_, rfl, rfl, rfl⟩
set_option maxRecDepth 20000 in
set_option maxHeartbeats 4000000 in
theorem C_W_meddle (hG : Gok l Γ D s0) (σ : Mem) (v1 : Int32) (v2 : Int32)  {out : (String × Mem) ⊕ (Mem × Int32)} (hF : F_W_meddle σ v1 v2 = some out) : CX l Γ D s0 yX11_meddle cX11_meddle 3 (some .int) 8 4 24 384 σ [.ref (Γ.1 + 0), .int v1, .int v2] (PXwv out) (XXw out) := by
  unfold F_W_meddle at hF
  refine e_xmet (own := RX11) hG (by decide +kernel) rfl rfl (Nat.le_of_ble_eq_true rfl) ?_
  intro p e s m args below meth c X hex hr
  show E p l e _ s m args below meth c Γ D 0 0 _ σ 0 [some (.ref (Γ.1 + 0)), some (.int v1), some (.int v2)] []
  refine e_aload_n X dX11_meddle_0 rfl rfl ?_
  refine e_iload_n X dX11_meddle_1 rfl rfl ?_
  refine e_iload_n X dX11_meddle_2 rfl rfl ?_
  refine e_xcallVn X hex (F_W_checkInsurer σ v1 v2) [.int v1, .int v2] [] (C_W_checkInsurer (Cx_gok X) σ v1 v2) gv_X11_238 yk_X11_checkInsurer rfl (ent_lt (rfl : entTbl[0]? = some (0, 0))) (ent_at (rfl : entTbl[0]? = some (0, 0)) _) (rfl : vCl[10]? = some (RX11, TX11, 17)) ⟨Nat.le_of_ble_eq_true rfl, Nat.le_of_ble_eq_true rfl⟩ ⟨Nat.le_of_ble_eq_true rfl, Nat.le_of_ble_eq_true rfl⟩ ⟨Nat.le_of_ble_eq_true rfl, Nat.le_of_ble_eq_true rfl⟩ (Nat.le_of_ble_eq_true rfl) dX11_meddle_3 rfl (fun o1 hz3 => ?_) (fun e2 hz3 => ?_)
  · skip
    rw [hz3, sumE_inr] at hF
    refine e_aload_n X dX11_meddle_6 rfl rfl ?_
    obtain ⟨z4, h_z4, hF⟩ := obind_out hF
    refine e_callVv X (σ1 := z4) [] [] (C_W_remember (Cx_gok X) σ h_z4) gv_X11_214 yk_X11_remember rfl (ent_lt (rfl : entTbl[0]? = some (0, 0))) (ent_at (rfl : entTbl[0]? = some (0, 0)) _) (rfl : vCl[10]? = some (RX11, TX11, 17)) ⟨Nat.le_of_ble_eq_true rfl, Nat.le_of_ble_eq_true rfl⟩ ⟨Nat.le_of_ble_eq_true rfl, Nat.le_of_ble_eq_true rfl⟩ (Nat.le_of_ble_eq_true rfl) dX11_meddle_7 rfl ?_
    refine e_aload_n X dX11_meddle_10 rfl rfl ?_
    refine ge_W_town X wf_X11_21 dX11_meddle_11 ?_
    refine e_iload_n X dX11_meddle_14 rfl rfl ?_
    refine e_bipush X (-5) dX11_meddle_15 rfl ?_
    obtain ⟨z5, h_z5, hF⟩ := bindT_out hF
    refine e_callVi X (r := z5.2) (σ1 := z5.1) [.int v2, .int ((-5))] [] (by rw [h_z5]; exact C_Town_changeHappy (Cx_gok X) z4 3 v2 ((-5)) ok_Town_3) gv_X11_243 yk_X9_changeHappy rfl (ent_lt ok_Town_3.1) (ent_at ok_Town_3.1 _) (rfl : vCl[8]? = some (RX9, TX9, 20)) ⟨Nat.le_of_ble_eq_true rfl, Nat.le_of_ble_eq_true rfl⟩ ⟨Nat.le_of_ble_eq_true rfl, Nat.le_of_ble_eq_true rfl⟩ (Nat.le_of_ble_eq_true rfl) dX11_meddle_17 rfl ?_
    exact e_xr (e_iret X hr dX11_meddle_20 (Nat.le_of_ble_eq_true rfl) (Nat.le_of_ble_eq_true rfl) (by cases hF; exact ⟨_, rfl, rfl, rfl⟩))
  · skip
    rw [hz3, sumE_inl] at hF
    cases hF; exact ⟨_, rfl, rfl, rfl⟩
set_option maxRecDepth 20000 in
set_option maxHeartbeats 4000000 in
theorem C_W_reinsure (hG : Gok l Γ D s0) (σ : Mem) (v1 : Int32) (v2 : Int32)  {out : (String × Mem) ⊕ (Mem × Int32)} (hF : F_W_reinsure σ v1 v2 = some out) : CX l Γ D s0 yX11_reinsure cX11_reinsure 4 (some .int) 8 4 24 384 σ [.ref (Γ.1 + 0), .int v1, .int v2] (PXwv out) (XXw out) := by
  unfold F_W_reinsure at hF
  refine e_xmet (own := RX11) hG (by decide +kernel) rfl rfl (Nat.le_of_ble_eq_true rfl) ?_
  intro p e s m args below meth c X hex hr
  show E p l e _ s m args below meth c Γ D 0 0 _ σ 0 [some (.ref (Γ.1 + 0)), some (.int v1), some (.int v2), none] []
  refine e_aload_n X dX11_reinsure_0 rfl rfl ?_
  refine e_iload_n X dX11_reinsure_1 rfl rfl ?_
  refine e_xcallVn X hex (F_W_checkPerson σ v1) [.int v1] [] (C_W_checkPerson (Cx_gok X) σ v1) gv_X11_146 yk_X11_checkPerson rfl (ent_lt (rfl : entTbl[0]? = some (0, 0))) (ent_at (rfl : entTbl[0]? = some (0, 0)) _) (rfl : vCl[10]? = some (RX11, TX11, 17)) ⟨Nat.le_of_ble_eq_true rfl, Nat.le_of_ble_eq_true rfl⟩ ⟨Nat.le_of_ble_eq_true rfl, Nat.le_of_ble_eq_true rfl⟩ ⟨Nat.le_of_ble_eq_true rfl, Nat.le_of_ble_eq_true rfl⟩ (Nat.le_of_ble_eq_true rfl) dX11_reinsure_2 rfl (fun o1 hz3 => ?_) (fun e2 hz3 => ?_)
  · skip
    rw [hz3, sumE_inr] at hF
    refine e_iload_n X dX11_reinsure_5 rfl rfl ?_
    refine e_iconst X (-1) dX11_reinsure_6 rfl ?_
    refine e_icmp_eq X 16 dX11_reinsure_7 (by decide) (fun c4 => ?_) (fun c4 => ?_)
    · skip
      rw [if_pos c4] at hF
      refine e_aload_n X dX11_reinsure_16 rfl rfl ?_
      obtain ⟨z5, h_z5, hF⟩ := obind_out hF
      refine e_callVv X (σ1 := z5) [] [] (C_W_remember (Cx_gok X) σ h_z5) gv_X11_214 yk_X11_remember rfl (ent_lt (rfl : entTbl[0]? = some (0, 0))) (ent_at (rfl : entTbl[0]? = some (0, 0)) _) (rfl : vCl[10]? = some (RX11, TX11, 17)) ⟨Nat.le_of_ble_eq_true rfl, Nat.le_of_ble_eq_true rfl⟩ ⟨Nat.le_of_ble_eq_true rfl, Nat.le_of_ble_eq_true rfl⟩ (Nat.le_of_ble_eq_true rfl) dX11_reinsure_17 rfl ?_
      refine e_aload_n X dX11_reinsure_20 rfl rfl ?_
      refine ge_W_town X wf_X11_21 dX11_reinsure_21 ?_
      refine ge_Town_reinsurer X ok_Town_3 wf_X11_162 dX11_reinsure_24 ?_
      refine e_iload_n X dX11_reinsure_27 rfl rfl ?_
      refine e_callVi X (r := (F_Row_at z5 (3 + 5) 8 v1)) (σ1 := z5) [.int v1] [] (C_Row_at (Cx_gok X) z5 (3 + 5) 8 v1 ok_Town_3.2.2.2.1) gv_X11_152 yk_X6_at rfl (ent_lt ok_Town_3.2.2.2.1.1) (ent_at ok_Town_3.2.2.2.1.1 _) (rfl : vCl[6]? = some (RX6, TX6, 1)) ⟨Nat.le_of_ble_eq_true rfl, Nat.le_of_ble_eq_true rfl⟩ ⟨Nat.le_of_ble_eq_true rfl, Nat.le_of_ble_eq_true rfl⟩ (Nat.le_of_ble_eq_true rfl) dX11_reinsure_28 rfl ?_
      obtain ⟨x6, h_x6, hF⟩ := bindT_out hF
      refine e_istore_n X h_x6 dX11_reinsure_31 rfl (by decide) ?_
      refine e_aload_n X dX11_reinsure_32 rfl rfl ?_
      refine ge_W_town X wf_X11_21 dX11_reinsure_33 ?_
      refine ge_Town_reinsurer X ok_Town_3 wf_X11_162 dX11_reinsure_36 ?_
      refine e_iload_n X dX11_reinsure_39 rfl rfl ?_
      refine e_iload_n X dX11_reinsure_40 rfl rfl ?_
      obtain ⟨z7, h_z7, hF⟩ := bindT_out hF
      refine e_callVv X (σ1 := z7) [.int v1, .int v2] [] (by rw [h_z7]; exact C_Row_put (Cx_gok X) z5 (3 + 5) 8 v1 v2 ok_Town_3.2.2.2.1) gv_X11_94 yk_X6_put rfl (ent_lt ok_Town_3.2.2.2.1.1) (ent_at ok_Town_3.2.2.2.1.1 _) (rfl : vCl[6]? = some (RX6, TX6, 1)) ⟨Nat.le_of_ble_eq_true rfl, Nat.le_of_ble_eq_true rfl⟩ ⟨Nat.le_of_ble_eq_true rfl, Nat.le_of_ble_eq_true rfl⟩ (Nat.le_of_ble_eq_true rfl) dX11_reinsure_41 rfl ?_
      refine e_iload_n X dX11_reinsure_44 rfl rfl ?_
      exact e_xr (e_iret X hr dX11_reinsure_45 (Nat.le_of_ble_eq_true rfl) (Nat.le_of_ble_eq_true rfl) (by cases hF; exact ⟨_, rfl, rfl, rfl⟩))
    · skip
      rw [if_neg c4] at hF
      refine e_aload_n X dX11_reinsure_10 rfl rfl ?_
      refine e_iload_n X dX11_reinsure_11 rfl rfl ?_
      refine e_iload_n X dX11_reinsure_12 rfl rfl ?_
      refine e_xcallVn X hex (F_W_checkTwo σ v1 v2) [.int v1, .int v2] [] (C_W_checkTwo (Cx_gok X) σ v1 v2) gv_X11_180 yk_X11_checkTwo rfl (ent_lt (rfl : entTbl[0]? = some (0, 0))) (ent_at (rfl : entTbl[0]? = some (0, 0)) _) (rfl : vCl[10]? = some (RX11, TX11, 17)) ⟨Nat.le_of_ble_eq_true rfl, Nat.le_of_ble_eq_true rfl⟩ ⟨Nat.le_of_ble_eq_true rfl, Nat.le_of_ble_eq_true rfl⟩ ⟨Nat.le_of_ble_eq_true rfl, Nat.le_of_ble_eq_true rfl⟩ (Nat.le_of_ble_eq_true rfl) dX11_reinsure_13 rfl (fun o8 hz10 => ?_) (fun e9 hz10 => ?_)
      · skip
        rw [hz10, sumE_inr] at hF
        refine e_aload_n X dX11_reinsure_16 rfl rfl ?_
        obtain ⟨z11, h_z11, hF⟩ := obind_out hF
        refine e_callVv X (σ1 := z11) [] [] (C_W_remember (Cx_gok X) σ h_z11) gv_X11_214 yk_X11_remember rfl (ent_lt (rfl : entTbl[0]? = some (0, 0))) (ent_at (rfl : entTbl[0]? = some (0, 0)) _) (rfl : vCl[10]? = some (RX11, TX11, 17)) ⟨Nat.le_of_ble_eq_true rfl, Nat.le_of_ble_eq_true rfl⟩ ⟨Nat.le_of_ble_eq_true rfl, Nat.le_of_ble_eq_true rfl⟩ (Nat.le_of_ble_eq_true rfl) dX11_reinsure_17 rfl ?_
        refine e_aload_n X dX11_reinsure_20 rfl rfl ?_
        refine ge_W_town X wf_X11_21 dX11_reinsure_21 ?_
        refine ge_Town_reinsurer X ok_Town_3 wf_X11_162 dX11_reinsure_24 ?_
        refine e_iload_n X dX11_reinsure_27 rfl rfl ?_
        refine e_callVi X (r := (F_Row_at z11 (3 + 5) 8 v1)) (σ1 := z11) [.int v1] [] (C_Row_at (Cx_gok X) z11 (3 + 5) 8 v1 ok_Town_3.2.2.2.1) gv_X11_152 yk_X6_at rfl (ent_lt ok_Town_3.2.2.2.1.1) (ent_at ok_Town_3.2.2.2.1.1 _) (rfl : vCl[6]? = some (RX6, TX6, 1)) ⟨Nat.le_of_ble_eq_true rfl, Nat.le_of_ble_eq_true rfl⟩ ⟨Nat.le_of_ble_eq_true rfl, Nat.le_of_ble_eq_true rfl⟩ (Nat.le_of_ble_eq_true rfl) dX11_reinsure_28 rfl ?_
        obtain ⟨x12, h_x12, hF⟩ := bindT_out hF
        refine e_istore_n X h_x12 dX11_reinsure_31 rfl (by decide) ?_
        refine e_aload_n X dX11_reinsure_32 rfl rfl ?_
        refine ge_W_town X wf_X11_21 dX11_reinsure_33 ?_
        refine ge_Town_reinsurer X ok_Town_3 wf_X11_162 dX11_reinsure_36 ?_
        refine e_iload_n X dX11_reinsure_39 rfl rfl ?_
        refine e_iload_n X dX11_reinsure_40 rfl rfl ?_
        obtain ⟨z13, h_z13, hF⟩ := bindT_out hF
        refine e_callVv X (σ1 := z13) [.int v1, .int v2] [] (by rw [h_z13]; exact C_Row_put (Cx_gok X) z11 (3 + 5) 8 v1 v2 ok_Town_3.2.2.2.1) gv_X11_94 yk_X6_put rfl (ent_lt ok_Town_3.2.2.2.1.1) (ent_at ok_Town_3.2.2.2.1.1 _) (rfl : vCl[6]? = some (RX6, TX6, 1)) ⟨Nat.le_of_ble_eq_true rfl, Nat.le_of_ble_eq_true rfl⟩ ⟨Nat.le_of_ble_eq_true rfl, Nat.le_of_ble_eq_true rfl⟩ (Nat.le_of_ble_eq_true rfl) dX11_reinsure_41 rfl ?_
        refine e_iload_n X dX11_reinsure_44 rfl rfl ?_
        exact e_xr (e_iret X hr dX11_reinsure_45 (Nat.le_of_ble_eq_true rfl) (Nat.le_of_ble_eq_true rfl) (by cases hF; exact ⟨_, rfl, rfl, rfl⟩))
      · skip
        rw [hz10, sumE_inl] at hF
        cases hF; exact ⟨_, rfl, rfl, rfl⟩
  · skip
    rw [hz3, sumE_inl] at hF
    cases hF; exact ⟨_, rfl, rfl, rfl⟩
set_option maxRecDepth 20000 in
set_option maxHeartbeats 4000000 in
theorem C_W_part (hG : Gok l Γ D s0) (σ : Mem) (v1 : Int32)  {out : (String × Mem) ⊕ (Mem × Int32)} (hF : F_W_part σ v1 = some out) : CX l Γ D s0 yX11_part cX11_part 2 (some .int) 7 2 12 384 σ [.ref (Γ.1 + 0), .int v1] (PXwv out) (XXw out) := by
  unfold F_W_part at hF
  refine e_xmet (own := RX11) hG (by decide +kernel) rfl rfl (Nat.le_of_ble_eq_true rfl) ?_
  intro p e s m args below meth c X hex hr
  show E p l e _ s m args below meth c Γ D 0 0 _ σ 0 [some (.ref (Γ.1 + 0)), some (.int v1)] []
  refine e_aload_n X dX11_part_0 rfl rfl ?_
  refine e_iload_n X dX11_part_1 rfl rfl ?_
  refine e_xcallVn X hex (F_W_checkMatch σ v1) [.int v1] [] (C_W_checkMatch (Cx_gok X) σ v1) gv_X11_187 yk_X11_checkMatch rfl (ent_lt (rfl : entTbl[0]? = some (0, 0))) (ent_at (rfl : entTbl[0]? = some (0, 0)) _) (rfl : vCl[10]? = some (RX11, TX11, 17)) ⟨Nat.le_of_ble_eq_true rfl, Nat.le_of_ble_eq_true rfl⟩ ⟨Nat.le_of_ble_eq_true rfl, Nat.le_of_ble_eq_true rfl⟩ ⟨Nat.le_of_ble_eq_true rfl, Nat.le_of_ble_eq_true rfl⟩ (Nat.le_of_ble_eq_true rfl) dX11_part_2 rfl (fun o1 hz3 => ?_) (fun e2 hz3 => ?_)
  · skip
    rw [hz3, sumE_inr] at hF
    refine e_aload_n X dX11_part_5 rfl rfl ?_
    refine e_iload_n X dX11_part_6 rfl rfl ?_
    refine e_xcallVn X hex (F_W_checkGoesOn σ v1) [.int v1] [] (C_W_checkGoesOn (Cx_gok X) σ v1) gv_X11_246 yk_X11_checkGoesOn rfl (ent_lt (rfl : entTbl[0]? = some (0, 0))) (ent_at (rfl : entTbl[0]? = some (0, 0)) _) (rfl : vCl[10]? = some (RX11, TX11, 17)) ⟨Nat.le_of_ble_eq_true rfl, Nat.le_of_ble_eq_true rfl⟩ ⟨Nat.le_of_ble_eq_true rfl, Nat.le_of_ble_eq_true rfl⟩ ⟨Nat.le_of_ble_eq_true rfl, Nat.le_of_ble_eq_true rfl⟩ (Nat.le_of_ble_eq_true rfl) dX11_part_7 rfl (fun o4 hz6 => ?_) (fun e5 hz6 => ?_)
    · skip
      rw [hz6, sumE_inr] at hF
      refine e_aload_n X dX11_part_10 rfl rfl ?_
      obtain ⟨z7, h_z7, hF⟩ := obind_out hF
      refine e_callVv X (σ1 := z7) [] [] (C_W_remember (Cx_gok X) σ h_z7) gv_X11_214 yk_X11_remember rfl (ent_lt (rfl : entTbl[0]? = some (0, 0))) (ent_at (rfl : entTbl[0]? = some (0, 0)) _) (rfl : vCl[10]? = some (RX11, TX11, 17)) ⟨Nat.le_of_ble_eq_true rfl, Nat.le_of_ble_eq_true rfl⟩ ⟨Nat.le_of_ble_eq_true rfl, Nat.le_of_ble_eq_true rfl⟩ (Nat.le_of_ble_eq_true rfl) dX11_part_11 rfl ?_
      refine e_aload_n X dX11_part_14 rfl rfl ?_
      refine ge_W_town X wf_X11_21 dX11_part_15 ?_
      refine e_iload_n X dX11_part_18 rfl rfl ?_
      obtain ⟨z8, h_z8, hF⟩ := bindT_out hF
      refine e_callVv X (σ1 := z8) [.int v1] [] (by rw [h_z8]; exact C_Town_endMatch (Cx_gok X) z7 3 v1 ok_Town_3) gv_X11_249 yk_X9_endMatch rfl (ent_lt ok_Town_3.1) (ent_at ok_Town_3.1 _) (rfl : vCl[8]? = some (RX9, TX9, 20)) ⟨Nat.le_of_ble_eq_true rfl, Nat.le_of_ble_eq_true rfl⟩ ⟨Nat.le_of_ble_eq_true rfl, Nat.le_of_ble_eq_true rfl⟩ (Nat.le_of_ble_eq_true rfl) dX11_part_19 rfl ?_
      refine e_aload_n X dX11_part_22 rfl rfl ?_
      refine ge_W_town X wf_X11_21 dX11_part_23 ?_
      refine ge_Town_happy X ok_Town_3 wf_X11_196 dX11_part_26 ?_
      refine e_iload_n X dX11_part_29 rfl rfl ?_
      refine e_callVi X (r := (F_Row_at z8 (3 + 11) 20 v1)) (σ1 := z8) [.int v1] [] (C_Row_at (Cx_gok X) z8 (3 + 11) 20 v1 ok_Town_3.2.2.2.2.2.2.1) gv_X11_152 yk_X6_at rfl (ent_lt ok_Town_3.2.2.2.2.2.2.1.1) (ent_at ok_Town_3.2.2.2.2.2.2.1.1 _) (rfl : vCl[6]? = some (RX6, TX6, 1)) ⟨Nat.le_of_ble_eq_true rfl, Nat.le_of_ble_eq_true rfl⟩ ⟨Nat.le_of_ble_eq_true rfl, Nat.le_of_ble_eq_true rfl⟩ (Nat.le_of_ble_eq_true rfl) dX11_part_30 rfl ?_
      exact e_xr (e_iret X hr dX11_part_33 (Nat.le_of_ble_eq_true rfl) (Nat.le_of_ble_eq_true rfl) (by cases hF; exact ⟨_, rfl, rfl, rfl⟩))
    · skip
      rw [hz6, sumE_inl] at hF
      cases hF; exact ⟨_, rfl, rfl, rfl⟩
  · skip
    rw [hz3, sumE_inl] at hF
    cases hF; exact ⟨_, rfl, rfl, rfl⟩
set_option maxRecDepth 20000 in
set_option maxHeartbeats 4000000 in
theorem L_W_months_22 {Xst : String → Mem → Prop} (X : Cx p l s m args meth c Γ D s0 RX11 cX11_months 4) (hr : meth.sig.returnType = (some .int)) (v1 : Int32) (v2 : Int32)  : ∀ (n : Nat) (v3 : Int32) (σ : Mem) {z : Mem}, forSO (fun i s => F_W_months_22_b v1 v2 i s) n v3 σ = some z → n = cnt v3 v1 → ¬ v3 < 0 → (E p l e ({ frames := 7, cells := 1, slots := 6, locals := 384 } : Room) s m args below meth c Γ D 1 6 (vx_MQ below (QcA Γ D Pst) (XcA Γ D Xst) args s 1 6 (frB Γ)) z 48 [some (.ref (Γ.1 + 0)), some (.int v1), some (.int v2), none] []) → E p l e ({ frames := 7, cells := 1, slots := 6, locals := 384 } : Room) s m args below meth c Γ D 1 6 (vx_MQ below (QcA Γ D Pst) (XcA Γ D Xst) args s 1 6 (frB Γ)) σ 22 [some (.ref (Γ.1 + 0)), some (.int v1), some (.int v2), some (.int v3)] [] := by
  intro n
  induction n with
  | zero =>
    intro v3 σ z hF hn h0 hK
    refine e_iload_n X dX11_months_22 rfl rfl ?_
    refine e_iload_n X dX11_months_23 rfl rfl ?_
    refine e_icmp_ge X 48 dX11_months_24 (by decide) (fun c8 => ?_) (fun c8 => ?_)
    · skip
      have hz9 := Option.some.inj hF; change (σ) = z at hz9; subst hz9
      exact e_le hK (And.intro rfl (And.intro rfl (And.intro rfl (trivial))))
    · skip
      exact absurd c8 (cnt0 hn)
  | succ n ih =>
    intro v3 σ z hF hn h0 hK
    obtain ⟨y9, hB, hF⟩ := forSO_step hF
    change F_W_months_22_b v1 v2 v3 σ = some y9 at hB
    unfold F_W_months_22_b at hB
    refine e_iload_n X dX11_months_22 rfl rfl ?_
    refine e_iload_n X dX11_months_23 rfl rfl ?_
    refine e_icmp_ge X 48 dX11_months_24 (by decide) (fun c6 => ?_) (fun c6 => ?_)
    · skip
      exact absurd (cntS hn) c6
    · skip
      refine e_aload_n X dX11_months_27 rfl rfl ?_
      refine ge_W_town X wf_X11_21 dX11_months_28 ?_
      refine e_aload_n X dX11_months_31 rfl rfl ?_
      refine ge_W_law X wf_X11_28 dX11_months_32 ?_
      refine e_aload_n X dX11_months_35 rfl rfl ?_
      refine ge_W_look X wf_X11_59 dX11_months_36 ?_
      obtain ⟨z7, h_z7, hB⟩ := obind_out hB
      refine e_callVv X (σ1 := z7) [.ref (Γ.1 + 20), .ref (Γ.1 + 93)] [] (C_Town_passMonth (Cx_gok X) σ 3 20 93 ok_Town_3 ok_Law_20 ok_Look_93 h_z7) gv_X11_259 yk_X9_passMonth rfl (ent_lt ok_Town_3.1) (ent_at ok_Town_3.1 _) (rfl : vCl[8]? = some (RX9, TX9, 20)) ⟨Nat.le_of_ble_eq_true rfl, Nat.le_of_ble_eq_true rfl⟩ ⟨Nat.le_of_ble_eq_true rfl, Nat.le_of_ble_eq_true rfl⟩ (Nat.le_of_ble_eq_true rfl) dX11_months_39 rfl ?_
      refine e_iinc X 1 dX11_months_42 rfl rfl (by decide) ?_
      refine e_goto X 22 dX11_months_45 (by decide) ?_
      have hy9 := Option.some.inj hB; change (z7) = y9 at hy9; subst hy9
      exact e_le (ih _ z7 hF (cntN hn) (nnN h0 (cnt_hi hn)) hK) (And.intro rfl (And.intro rfl (And.intro rfl (And.intro rfl (trivial)))))
set_option maxRecDepth 20000 in
set_option maxHeartbeats 4000000 in
theorem C_W_months (hG : Gok l Γ D s0) (σ : Mem) (v1 : Int32)  {out : (String × Mem) ⊕ (Mem × Int32)} (hF : F_W_months σ v1 = some out) : CX l Γ D s0 yX11_months cX11_months 4 (some .int) 7 1 6 384 σ [.ref (Γ.1 + 0), .int v1] (PXwv out) (XXw out) := by
  unfold F_W_months at hF
  refine e_xmet (own := RX11) hG (by decide +kernel) rfl rfl (Nat.le_of_ble_eq_true rfl) ?_
  intro p e s m args below meth c X hex hr
  show E p l e _ s m args below meth c Γ D 0 0 _ σ 0 [some (.ref (Γ.1 + 0)), some (.int v1), none, none] []
  refine e_aload_n X dX11_months_0 rfl rfl ?_
  refine e_iload_n X dX11_months_1 rfl rfl ?_
  refine e_iconst X 1 dX11_months_2 rfl ?_
  refine e_bipush X 60 dX11_months_3 rfl ?_
  refine e_xcallVn X hex (F_W_checkNumber σ v1 1 60) [.int v1, .int 1, .int 60] [] (C_W_checkNumber (Cx_gok X) σ v1 1 60) gv_X11_252 yk_X11_checkNumber rfl (ent_lt (rfl : entTbl[0]? = some (0, 0))) (ent_at (rfl : entTbl[0]? = some (0, 0)) _) (rfl : vCl[10]? = some (RX11, TX11, 17)) ⟨Nat.le_of_ble_eq_true rfl, Nat.le_of_ble_eq_true rfl⟩ ⟨Nat.le_of_ble_eq_true rfl, Nat.le_of_ble_eq_true rfl⟩ ⟨Nat.le_of_ble_eq_true rfl, Nat.le_of_ble_eq_true rfl⟩ (Nat.le_of_ble_eq_true rfl) dX11_months_5 rfl (fun o1 hz3 => ?_) (fun e2 hz3 => ?_)
  · skip
    rw [hz3, sumE_inr] at hF
    refine e_aload_n X dX11_months_8 rfl rfl ?_
    obtain ⟨z4, h_z4, hF⟩ := obind_out hF
    refine e_callVv X (σ1 := z4) [] [] (C_W_remember (Cx_gok X) σ h_z4) gv_X11_214 yk_X11_remember rfl (ent_lt (rfl : entTbl[0]? = some (0, 0))) (ent_at (rfl : entTbl[0]? = some (0, 0)) _) (rfl : vCl[10]? = some (RX11, TX11, 17)) ⟨Nat.le_of_ble_eq_true rfl, Nat.le_of_ble_eq_true rfl⟩ ⟨Nat.le_of_ble_eq_true rfl, Nat.le_of_ble_eq_true rfl⟩ (Nat.le_of_ble_eq_true rfl) dX11_months_9 rfl ?_
    refine e_aload_n X dX11_months_12 rfl rfl ?_
    refine ge_W_town X wf_X11_21 dX11_months_13 ?_
    refine ge_Town_claims X ok_Town_3 wf_X11_256 dX11_months_16 ?_
    obtain ⟨x5, h_x5, hF⟩ := bindT_out hF
    refine e_istore_n X h_x5 dX11_months_19 rfl (by decide) ?_
    refine e_iconst X 0 dX11_months_20 rfl ?_
    refine e_istore_n X rfl dX11_months_21 rfl (by decide) ?_
    obtain ⟨z9, h_z9, hF⟩ := obind_out hF
    refine e_le (L_W_months_22 X hr v1 x5 _ 0 z4 h_z9 rfl (by decide) ?_) (And.intro rfl (And.intro rfl (And.intro rfl (And.intro rfl (trivial)))))
    refine e_aload_n X dX11_months_48 rfl rfl ?_
    refine ge_W_town X wf_X11_21 dX11_months_49 ?_
    refine ge_Town_claims X ok_Town_3 wf_X11_256 dX11_months_52 ?_
    refine e_iload_n X dX11_months_55 rfl rfl ?_
    refine e_isub X dX11_months_56 ?_
    exact e_xr (e_iret X hr dX11_months_57 (Nat.le_of_ble_eq_true rfl) (Nat.le_of_ble_eq_true rfl) (by cases hF; exact ⟨_, rfl, rfl, rfl⟩))
  · skip
    rw [hz3, sumE_inl] at hF
    cases hF; exact ⟨_, rfl, rfl, rfl⟩
end PART

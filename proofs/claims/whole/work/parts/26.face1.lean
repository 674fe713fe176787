section PART
variable {p : Program} {l : Launch} {e : Env} {R : Room} {s : State} {m : MethodId} {args : Array Value} {below : List Frame} {meth : Method} {c : Code} {Γ : Gm} {D : va_G} {s0 : State} {cells slots : Nat} {Q : State → Prop} {own : String} {cc : ByteArray} {nL : Nat} {σ : Mem} {pc : Nat} {lv : List (Option Value)} {st : List Value} {Pst : Option Value → Mem → Prop}
def F_W_checkPerson (σ : Mem) (v1 : Int32) : String ⊕ (Unit) := (if (F_Town_hasPerson σ 3 v1) = 0 then (Sum.inl "java/lang/IndexOutOfBoundsException") else (Sum.inr (())))
def F_W_checkTwo (σ : Mem) (v1 : Int32) (v2 : Int32) : String ⊕ (Unit) := sumE (F_W_checkPerson σ v1) (fun e2 => (Sum.inl e2)) (fun o1 => sumE (F_W_checkPerson σ v2) (fun e5 => (Sum.inl e5)) (fun o4 => (if v1 = v2 then (Sum.inl "java/lang/IllegalArgumentException") else (Sum.inr (())))))
def F_W_checkMatch (σ : Mem) (v1 : Int32) : String ⊕ (Unit) := (if v1 < 0 then (Sum.inl "java/lang/IndexOutOfBoundsException") else (if v1 < (σ 3 10) then (Sum.inr (())) else (Sum.inl "java/lang/IndexOutOfBoundsException")))
def F_W_checkGoesOn (σ : Mem) (v1 : Int32) : String ⊕ (Unit) := (if (F_Town_isOver σ 3 v1) = 0 then (Sum.inr (())) else (Sum.inl "java/lang/IllegalStateException"))
def F_W_checkInsurer (σ : Mem) (v1 : Int32) (v2 : Int32) : String ⊕ (Unit) := sumE (F_W_checkPerson σ v1) (fun e2 => (Sum.inl e2)) (fun o1 => sumE (F_W_checkMatch σ v2) (fun e5 => (Sum.inl e5)) (fun o4 => sumE (F_W_checkGoesOn σ v2) (fun e8 => (Sum.inl e8)) (fun o7 => (if (F_W_contains σ ((F_Town_insurersOf σ 3 v2)) v1) = 0 then (Sum.inl "java/lang/IllegalStateException") else (Sum.inr (()))))))
def F_W_checkNumber (σ : Mem) (v1 : Int32) (v2 : Int32) (v3 : Int32) : String ⊕ (Unit) := (if v1 < v2 then (Sum.inl "java/lang/IllegalArgumentException") else (if v3 < v1 then (Sum.inl "java/lang/IllegalArgumentException") else (Sum.inr (()))))
def F_W_checkQuarrel (σ : Mem) (v1 : Int32) : String ⊕ (Unit) := sumE (F_W_checkNumber σ v1 0 9) (fun e2 => (Sum.inl e2)) (fun o1 => (Sum.inr (())))
def F_W_readTold (σ : Mem)  : Option ((String × Mem) ⊕ (Mem)) := bindT (F_W_useTapeUp σ) fun z1 => obind (F_Told_reads z1.1 1 400 z1.2 ((z1.1 3 8))) fun z2 => (if z2.2 = 0 then some (Sum.inl ("java/lang/IllegalArgumentException", z2.1)) else some ((Sum.inr z2.1)))
set_option maxRecDepth 20000 in
set_option maxHeartbeats 4000000 in
theorem C_W_checkPerson (hG : Gok l Γ D s0) (σ : Mem) (v1 : Int32)  : CX l Γ D s0 yX11_checkPerson cX11_checkPerson 2 none 6 1 6 82 σ [.ref (Γ.1 + 0), .int v1] (PXn σ (F_W_checkPerson σ v1)) (XXn σ (F_W_checkPerson σ v1)) := by
  generalize hF : F_W_checkPerson σ v1 = out
  unfold F_W_checkPerson at hF
  refine e_xmet (own := RX11) hG (by decide +kernel) rfl rfl (Nat.le_of_ble_eq_true rfl) ?_
  intro p e s m args below meth c X hex hr
  show E p l e _ s m args below meth c Γ D 0 0 _ σ 0 [some (.ref (Γ.1 + 0)), some (.int v1)] []
  refine e_aload_n X dX11_checkPerson_0 rfl rfl ?_
  refine ge_W_town X wf_X11_21 dX11_checkPerson_1 ?_
  refine e_iload_n X dX11_checkPerson_4 rfl rfl ?_
  refine e_callVi X (r := (F_Town_hasPerson σ 3 v1)) (σ1 := σ) [.int v1] [] (C_Town_hasPerson (Cx_gok X) σ 3 v1 ok_Town_3) gv_X11_423 yk_X9_hasPerson rfl (ent_lt ok_Town_3.1) (ent_at ok_Town_3.1 _) (rfl : vCl[8]? = some (RX9, TX9, 20)) ⟨Nat.le_of_ble_eq_true rfl, Nat.le_of_ble_eq_true rfl⟩ ⟨Nat.le_of_ble_eq_true rfl, Nat.le_of_ble_eq_true rfl⟩ (Nat.le_of_ble_eq_true rfl) dX11_checkPerson_5 rfl ?_
  refine e_if_ne X 22 dX11_checkPerson_8 (by decide) (fun c1 => ?_) (fun c1 => ?_)
  · skip
    rw [if_neg c1] at hF
    exact e_xr (e_vret X hr dX11_checkPerson_22 (Nat.le_of_ble_eq_true rfl) (Nat.le_of_ble_eq_true rfl) (by cases hF; exact ⟨_, rfl, rfl, rfl⟩))
  · skip
    rw [if_pos c1] at hF
    exact e_throwSW X hex (cls := "java/lang/IndexOutOfBoundsException") (text := "there is no such person") (names := ["java/lang/RuntimeException", "java/lang/Exception"]) (by decide +kernel) (by decide +kernel) wxk_426 wxi_2 ((x_gst X).2.1.2 ("RivalWeds", 428, "there is no such person") (List.mem_of_getElem? (i := 3) (by decide +kernel))) vat_430 vau_430 ((x_gst X).2.2.2.2.1 _ (List.mem_of_getElem? (i := 2) (by decide +kernel))) vag_430 dX11_checkPerson_11 dX11_checkPerson_14 dX11_checkPerson_15 dX11_checkPerson_18 dX11_checkPerson_21 (Nat.le_of_ble_eq_true rfl) (Nat.le_of_ble_eq_true rfl) (Nat.le_of_ble_eq_true rfl) (Nat.le_of_ble_eq_true rfl) (Nat.le_of_ble_eq_true rfl) (Nat.le_of_ble_eq_true rfl) (by cases hF; exact ⟨rfl, rfl⟩)
set_option maxRecDepth 20000 in
set_option maxHeartbeats 4000000 in
theorem C_W_checkTwo (hG : Gok l Γ D s0) (σ : Mem) (v1 : Int32) (v2 : Int32)  : CX l Γ D s0 yX11_checkTwo cX11_checkTwo 3 none 7 3 18 103 σ [.ref (Γ.1 + 0), .int v1, .int v2] (PXn σ (F_W_checkTwo σ v1 v2)) (XXn σ (F_W_checkTwo σ v1 v2)) := by
  generalize hF : F_W_checkTwo σ v1 v2 = out
  unfold F_W_checkTwo at hF
  refine e_xmet (own := RX11) hG (by decide +kernel) rfl rfl (Nat.le_of_ble_eq_true rfl) ?_
  intro p e s m args below meth c X hex hr
  show E p l e _ s m args below meth c Γ D 0 0 _ σ 0 [some (.ref (Γ.1 + 0)), some (.int v1), some (.int v2)] []
  refine e_aload_n X dX11_checkTwo_0 rfl rfl ?_
  refine e_iload_n X dX11_checkTwo_1 rfl rfl ?_
  refine e_xcallVn X hex (F_W_checkPerson σ v1) [.int v1] [] (C_W_checkPerson (Cx_gok X) σ v1) gv_X11_146 yk_X11_checkPerson rfl (ent_lt (rfl : entTbl[0]? = some (0, 0))) (ent_at (rfl : entTbl[0]? = some (0, 0)) _) (rfl : vCl[10]? = some (RX11, TX11, 17)) ⟨Nat.le_of_ble_eq_true rfl, Nat.le_of_ble_eq_true rfl⟩ ⟨Nat.le_of_ble_eq_true rfl, Nat.le_of_ble_eq_true rfl⟩ ⟨Nat.le_of_ble_eq_true rfl, Nat.le_of_ble_eq_true rfl⟩ (Nat.le_of_ble_eq_true rfl) dX11_checkTwo_2 rfl (fun o1 hz3 => ?_) (fun e2 hz3 => ?_)
  · skip
    rw [hz3, sumE_inr] at hF
    refine e_aload_n X dX11_checkTwo_5 rfl rfl ?_
    refine e_iload_n X dX11_checkTwo_6 rfl rfl ?_
    refine e_xcallVn X hex (F_W_checkPerson σ v2) [.int v2] [] (C_W_checkPerson (Cx_gok X) σ v2) gv_X11_146 yk_X11_checkPerson rfl (ent_lt (rfl : entTbl[0]? = some (0, 0))) (ent_at (rfl : entTbl[0]? = some (0, 0)) _) (rfl : vCl[10]? = some (RX11, TX11, 17)) ⟨Nat.le_of_ble_eq_true rfl, Nat.le_of_ble_eq_true rfl⟩ ⟨Nat.le_of_ble_eq_true rfl, Nat.le_of_ble_eq_true rfl⟩ ⟨Nat.le_of_ble_eq_true rfl, Nat.le_of_ble_eq_true rfl⟩ (Nat.le_of_ble_eq_true rfl) dX11_checkTwo_7 rfl (fun o4 hz6 => ?_) (fun e5 hz6 => ?_)
    · skip
      rw [hz6, sumE_inr] at hF
      refine e_iload_n X dX11_checkTwo_10 rfl rfl ?_
      refine e_iload_n X dX11_checkTwo_11 rfl rfl ?_
      refine e_icmp_ne X 26 dX11_checkTwo_12 (by decide) (fun c7 => ?_) (fun c7 => ?_)
      · skip
        rw [if_neg c7] at hF
        exact e_xr (e_vret X hr dX11_checkTwo_26 (Nat.le_of_ble_eq_true rfl) (Nat.le_of_ble_eq_true rfl) (by cases hF; exact ⟨_, rfl, rfl, rfl⟩))
      · skip
        rw [if_pos c7] at hF
        exact e_throwSW X hex (cls := "java/lang/IllegalArgumentException") (text := "both are one") (names := ["java/lang/RuntimeException", "java/lang/Exception"]) (by decide +kernel) (by decide +kernel) wxk_116 wxi_0 ((x_gst X).2.1.2 ("RivalWeds", 431, "both are one") (List.mem_of_getElem? (i := 5) (by decide +kernel))) vat_120 vau_120 ((x_gst X).2.2.2.2.1 _ (List.mem_of_getElem? (i := 0) (by decide +kernel))) vag_120 dX11_checkTwo_15 dX11_checkTwo_18 dX11_checkTwo_19 dX11_checkTwo_22 dX11_checkTwo_25 (Nat.le_of_ble_eq_true rfl) (Nat.le_of_ble_eq_true rfl) (Nat.le_of_ble_eq_true rfl) (Nat.le_of_ble_eq_true rfl) (Nat.le_of_ble_eq_true rfl) (Nat.le_of_ble_eq_true rfl) (by cases hF; exact ⟨rfl, rfl⟩)
    · skip
      rw [hz6, sumE_inl] at hF
      cases hF; exact ⟨rfl, rfl⟩
  · skip
    rw [hz3, sumE_inl] at hF
    cases hF; exact ⟨rfl, rfl⟩
set_option maxRecDepth 20000 in
set_option maxHeartbeats 4000000 in
theorem C_W_checkMatch (hG : Gok l Γ D s0) (σ : Mem) (v1 : Int32)  : CX l Γ D s0 yX11_checkMatch cX11_checkMatch 2 none 6 1 6 82 σ [.ref (Γ.1 + 0), .int v1] (PXn σ (F_W_checkMatch σ v1)) (XXn σ (F_W_checkMatch σ v1)) := by
  generalize hF : F_W_checkMatch σ v1 = out
  unfold F_W_checkMatch at hF
  refine e_xmet (own := RX11) hG (by decide +kernel) rfl rfl (Nat.le_of_ble_eq_true rfl) ?_
  intro p e s m args below meth c X hex hr
  show E p l e _ s m args below meth c Γ D 0 0 _ σ 0 [some (.ref (Γ.1 + 0)), some (.int v1)] []
  refine e_iload_n X dX11_checkMatch_0 rfl rfl ?_
  refine e_if_lt X 15 dX11_checkMatch_1 (by decide) (fun c1 => ?_) (fun c1 => ?_)
  · skip
    rw [if_pos c1] at hF
    exact e_throwSW X hex (cls := "java/lang/IndexOutOfBoundsException") (text := "there is no such match") (names := ["java/lang/RuntimeException", "java/lang/Exception"]) (by decide +kernel) (by decide +kernel) wxk_426 wxi_2 ((x_gst X).2.1.2 ("RivalWeds", 433, "there is no such match") (List.mem_of_getElem? (i := 6) (by decide +kernel))) vat_430 vau_430 ((x_gst X).2.2.2.2.1 _ (List.mem_of_getElem? (i := 2) (by decide +kernel))) vag_430 dX11_checkMatch_15 dX11_checkMatch_18 dX11_checkMatch_19 dX11_checkMatch_22 dX11_checkMatch_25 (Nat.le_of_ble_eq_true rfl) (Nat.le_of_ble_eq_true rfl) (Nat.le_of_ble_eq_true rfl) (Nat.le_of_ble_eq_true rfl) (Nat.le_of_ble_eq_true rfl) (Nat.le_of_ble_eq_true rfl) (by cases hF; exact ⟨rfl, rfl⟩)
  · skip
    rw [if_neg c1] at hF
    refine e_iload_n X dX11_checkMatch_4 rfl rfl ?_
    refine e_aload_n X dX11_checkMatch_5 rfl rfl ?_
    refine ge_W_town X wf_X11_21 dX11_checkMatch_6 ?_
    refine ge_Town_matches X ok_Town_3 wf_X11_229 dX11_checkMatch_9 ?_
    refine e_icmp_lt X 26 dX11_checkMatch_12 (by decide) (fun c2 => ?_) (fun c2 => ?_)
    · skip
      rw [if_pos c2] at hF
      exact e_xr (e_vret X hr dX11_checkMatch_26 (Nat.le_of_ble_eq_true rfl) (Nat.le_of_ble_eq_true rfl) (by cases hF; exact ⟨_, rfl, rfl, rfl⟩))
    · skip
      rw [if_neg c2] at hF
      exact e_throwSW X hex (cls := "java/lang/IndexOutOfBoundsException") (text := "there is no such match") (names := ["java/lang/RuntimeException", "java/lang/Exception"]) (by decide +kernel) (by decide +kernel) wxk_426 wxi_2 ((x_gst X).2.1.2 ("RivalWeds", 433, "there is no such match") (List.mem_of_getElem? (i := 6) (by decide +kernel))) vat_430 vau_430 ((x_gst X).2.2.2.2.1 _ (List.mem_of_getElem? (i := 2) (by decide +kernel))) vag_430 dX11_checkMatch_15 dX11_checkMatch_18 dX11_checkMatch_19 dX11_checkMatch_22 dX11_checkMatch_25 (Nat.le_of_ble_eq_true rfl) (Nat.le_of_ble_eq_true rfl) (Nat.le_of_ble_eq_true rfl) (Nat.le_of_ble_eq_true rfl) (Nat.le_of_ble_eq_true rfl) (Nat.le_of_ble_eq_true rfl) (by cases hF; exact ⟨rfl, rfl⟩)
set_option maxRecDepth 20000 in
set_option maxHeartbeats 4000000 in
theorem C_W_checkGoesOn (hG : Gok l Γ D s0) (σ : Mem) (v1 : Int32)  : CX l Γ D s0 yX11_checkGoesOn cX11_checkGoesOn 2 none 6 1 6 82 σ [.ref (Γ.1 + 0), .int v1] (PXn σ (F_W_checkGoesOn σ v1)) (XXn σ (F_W_checkGoesOn σ v1)) := by
  generalize hF : F_W_checkGoesOn σ v1 = out
  unfold F_W_checkGoesOn at hF
  refine e_xmet (own := RX11) hG (by decide +kernel) rfl rfl (Nat.le_of_ble_eq_true rfl) ?_
  intro p e s m args below meth c X hex hr
  show E p l e _ s m args below meth c Γ D 0 0 _ σ 0 [some (.ref (Γ.1 + 0)), some (.int v1)] []
  refine e_aload_n X dX11_checkGoesOn_0 rfl rfl ?_
  refine ge_W_town X wf_X11_21 dX11_checkGoesOn_1 ?_
  refine e_iload_n X dX11_checkGoesOn_4 rfl rfl ?_
  refine e_callVi X (r := (F_Town_isOver σ 3 v1)) (σ1 := σ) [.int v1] [] (C_Town_isOver (Cx_gok X) σ 3 v1 ok_Town_3) gv_X11_202 yk_X9_isOver rfl (ent_lt ok_Town_3.1) (ent_at ok_Town_3.1 _) (rfl : vCl[8]? = some (RX9, TX9, 20)) ⟨Nat.le_of_ble_eq_true rfl, Nat.le_of_ble_eq_true rfl⟩ ⟨Nat.le_of_ble_eq_true rfl, Nat.le_of_ble_eq_true rfl⟩ (Nat.le_of_ble_eq_true rfl) dX11_checkGoesOn_5 rfl ?_
  refine e_if_eq X 22 dX11_checkGoesOn_8 (by decide) (fun c1 => ?_) (fun c1 => ?_)
  · skip
    rw [if_pos c1] at hF
    exact e_xr (e_vret X hr dX11_checkGoesOn_22 (Nat.le_of_ble_eq_true rfl) (Nat.le_of_ble_eq_true rfl) (by cases hF; exact ⟨_, rfl, rfl, rfl⟩))
  · skip
    rw [if_neg c1] at hF
    exact e_throwSW X hex (cls := "java/lang/IllegalStateException") (text := "the match is over") (names := ["java/lang/RuntimeException", "java/lang/Exception"]) (by decide +kernel) (by decide +kernel) wxk_224 wxi_1 ((x_gst X).2.1.2 ("RivalWeds", 435, "the match is over") (List.mem_of_getElem? (i := 10) (by decide +kernel))) vat_228 vau_228 ((x_gst X).2.2.2.2.1 _ (List.mem_of_getElem? (i := 1) (by decide +kernel))) vag_228 dX11_checkGoesOn_11 dX11_checkGoesOn_14 dX11_checkGoesOn_15 dX11_checkGoesOn_18 dX11_checkGoesOn_21 (Nat.le_of_ble_eq_true rfl) (Nat.le_of_ble_eq_true rfl) (Nat.le_of_ble_eq_true rfl) (Nat.le_of_ble_eq_true rfl) (Nat.le_of_ble_eq_true rfl) (Nat.le_of_ble_eq_true rfl) (by cases hF; exact ⟨rfl, rfl⟩)
set_option maxRecDepth 20000 in
set_option maxHeartbeats 4000000 in
theorem C_W_checkInsurer (hG : Gok l Γ D s0) (σ : Mem) (v1 : Int32) (v2 : Int32)  : CX l Γ D s0 yX11_checkInsurer cX11_checkInsurer 3 none 7 4 24 103 σ [.ref (Γ.1 + 0), .int v1, .int v2] (PXn σ (F_W_checkInsurer σ v1 v2)) (XXn σ (F_W_checkInsurer σ v1 v2)) := by
  generalize hF : F_W_checkInsurer σ v1 v2 = out
  unfold F_W_checkInsurer at hF
  refine e_xmet (own := RX11) hG (by decide +kernel) rfl rfl (Nat.le_of_ble_eq_true rfl) ?_
  intro p e s m args below meth c X hex hr
  show E p l e _ s m args below meth c Γ D 0 0 _ σ 0 [some (.ref (Γ.1 + 0)), some (.int v1), some (.int v2)] []
  refine e_aload_n X dX11_checkInsurer_0 rfl rfl ?_
  refine e_iload_n X dX11_checkInsurer_1 rfl rfl ?_
  refine e_xcallVn X hex (F_W_checkPerson σ v1) [.int v1] [] (C_W_checkPerson (Cx_gok X) σ v1) gv_X11_146 yk_X11_checkPerson rfl (ent_lt (rfl : entTbl[0]? = some (0, 0))) (ent_at (rfl : entTbl[0]? = some (0, 0)) _) (rfl : vCl[10]? = some (RX11, TX11, 17)) ⟨Nat.le_of_ble_eq_true rfl, Nat.le_of_ble_eq_true rfl⟩ ⟨Nat.le_of_ble_eq_true rfl, Nat.le_of_ble_eq_true rfl⟩ ⟨Nat.le_of_ble_eq_true rfl, Nat.le_of_ble_eq_true rfl⟩ (Nat.le_of_ble_eq_true rfl) dX11_checkInsurer_2 rfl (fun o1 hz3 => ?_) (fun e2 hz3 => ?_)
  · skip
    rw [hz3, sumE_inr] at hF
    refine e_aload_n X dX11_checkInsurer_5 rfl rfl ?_
    refine e_iload_n X dX11_checkInsurer_6 rfl rfl ?_
    refine e_xcallVn X hex (F_W_checkMatch σ v2) [.int v2] [] (C_W_checkMatch (Cx_gok X) σ v2) gv_X11_187 yk_X11_checkMatch rfl (ent_lt (rfl : entTbl[0]? = some (0, 0))) (ent_at (rfl : entTbl[0]? = some (0, 0)) _) (rfl : vCl[10]? = some (RX11, TX11, 17)) ⟨Nat.le_of_ble_eq_true rfl, Nat.le_of_ble_eq_true rfl⟩ ⟨Nat.le_of_ble_eq_true rfl, Nat.le_of_ble_eq_true rfl⟩ ⟨Nat.le_of_ble_eq_true rfl, Nat.le_of_ble_eq_true rfl⟩ (Nat.le_of_ble_eq_true rfl) dX11_checkInsurer_7 rfl (fun o4 hz6 => ?_) (fun e5 hz6 => ?_)
    · skip
      rw [hz6, sumE_inr] at hF
      refine e_aload_n X dX11_checkInsurer_10 rfl rfl ?_
      refine e_iload_n X dX11_checkInsurer_11 rfl rfl ?_
      refine e_xcallVn X hex (F_W_checkGoesOn σ v2) [.int v2] [] (C_W_checkGoesOn (Cx_gok X) σ v2) gv_X11_246 yk_X11_checkGoesOn rfl (ent_lt (rfl : entTbl[0]? = some (0, 0))) (ent_at (rfl : entTbl[0]? = some (0, 0)) _) (rfl : vCl[10]? = some (RX11, TX11, 17)) ⟨Nat.le_of_ble_eq_true rfl, Nat.le_of_ble_eq_true rfl⟩ ⟨Nat.le_of_ble_eq_true rfl, Nat.le_of_ble_eq_true rfl⟩ ⟨Nat.le_of_ble_eq_true rfl, Nat.le_of_ble_eq_true rfl⟩ (Nat.le_of_ble_eq_true rfl) dX11_checkInsurer_12 rfl (fun o7 hz9 => ?_) (fun e8 hz9 => ?_)
      · skip
        rw [hz9, sumE_inr] at hF
        refine e_aload_n X dX11_checkInsurer_15 rfl rfl ?_
        refine ge_W_town X wf_X11_21 dX11_checkInsurer_16 ?_
        refine e_iload_n X dX11_checkInsurer_19 rfl rfl ?_
        refine e_callVi X (r := (F_Town_insurersOf σ 3 v2)) (σ1 := σ) [.int v2] [] (C_Town_insurersOf (Cx_gok X) σ 3 v2 ok_Town_3) gv_X11_205 yk_X9_insurersOf rfl (ent_lt ok_Town_3.1) (ent_at ok_Town_3.1 _) (rfl : vCl[8]? = some (RX9, TX9, 20)) ⟨Nat.le_of_ble_eq_true rfl, Nat.le_of_ble_eq_true rfl⟩ ⟨Nat.le_of_ble_eq_true rfl, Nat.le_of_ble_eq_true rfl⟩ (Nat.le_of_ble_eq_true rfl) dX11_checkInsurer_20 rfl ?_
        refine e_iload_n X dX11_checkInsurer_23 rfl rfl ?_
        refine e_callSi X (r := (F_W_contains σ ((F_Town_insurersOf σ 3 v2)) v1)) (σ1 := σ) [.int ((F_Town_insurersOf σ 3 v2)), .int v1] [] (C_W_contains (Cx_gok X) σ ((F_Town_insurersOf σ 3 v2)) v1) gs_X11_437 yk_X11_contains rfl ⟨Nat.le_of_ble_eq_true rfl, Nat.le_of_ble_eq_true rfl⟩ ⟨Nat.le_of_ble_eq_true rfl, Nat.le_of_ble_eq_true rfl⟩ (Nat.le_of_ble_eq_true rfl) dX11_checkInsurer_24 rfl ?_
        refine e_if_ne X 41 dX11_checkInsurer_27 (by decide) (fun c10 => ?_) (fun c10 => ?_)
        · skip
          rw [if_neg c10] at hF
          exact e_xr (e_vret X hr dX11_checkInsurer_41 (Nat.le_of_ble_eq_true rfl) (Nat.le_of_ble_eq_true rfl) (by cases hF; exact ⟨_, rfl, rfl, rfl⟩))
        · skip
          rw [if_pos c10] at hF
          exact e_throwSW X hex (cls := "java/lang/IllegalStateException") (text := "one is no insurer of the match") (names := ["java/lang/RuntimeException", "java/lang/Exception"]) (by decide +kernel) (by decide +kernel) wxk_224 wxi_1 ((x_gst X).2.1.2 ("RivalWeds", 440, "one is no insurer of the match") (List.mem_of_getElem? (i := 11) (by decide +kernel))) vat_228 vau_228 ((x_gst X).2.2.2.2.1 _ (List.mem_of_getElem? (i := 1) (by decide +kernel))) vag_228 dX11_checkInsurer_30 dX11_checkInsurer_33 dX11_checkInsurer_34 dX11_checkInsurer_37 dX11_checkInsurer_40 (Nat.le_of_ble_eq_true rfl) (Nat.le_of_ble_eq_true rfl) (Nat.le_of_ble_eq_true rfl) (Nat.le_of_ble_eq_true rfl) (Nat.le_of_ble_eq_true rfl) (Nat.le_of_ble_eq_true rfl) (by cases hF; exact ⟨rfl, rfl⟩)
      · skip
        rw [hz9, sumE_inl] at hF
        cases hF; exact ⟨rfl, rfl⟩
    · skip
      rw [hz6, sumE_inl] at hF
      cases hF; exact ⟨rfl, rfl⟩
  · skip
    rw [hz3, sumE_inl] at hF
    cases hF; exact ⟨rfl, rfl⟩
set_option maxRecDepth 20000 in
set_option maxHeartbeats 4000000 in
theorem C_W_checkNumber (hG : Gok l Γ D s0) (σ : Mem) (v1 : Int32) (v2 : Int32) (v3 : Int32)  : CX l Γ D s0 yX11_checkNumber cX11_checkNumber 4 none 6 1 6 82 σ [.ref (Γ.1 + 0), .int v1, .int v2, .int v3] (PXn σ (F_W_checkNumber σ v1 v2 v3)) (XXn σ (F_W_checkNumber σ v1 v2 v3)) := by
  generalize hF : F_W_checkNumber σ v1 v2 v3 = out
  unfold F_W_checkNumber at hF
  refine e_xmet (own := RX11) hG (by decide +kernel) rfl rfl (Nat.le_of_ble_eq_true rfl) ?_
  intro p e s m args below meth c X hex hr
  show E p l e _ s m args below meth c Γ D 0 0 _ σ 0 [some (.ref (Γ.1 + 0)), some (.int v1), some (.int v2), some (.int v3)] []
  refine e_iload_n X dX11_checkNumber_0 rfl rfl ?_
  refine e_iload_n X dX11_checkNumber_1 rfl rfl ?_
  refine e_icmp_lt X 10 dX11_checkNumber_2 (by decide) (fun c1 => ?_) (fun c1 => ?_)
  · skip
    rw [if_pos c1] at hF
    exact e_throwSW X hex (cls := "java/lang/IllegalArgumentException") (text := "the number is none") (names := ["java/lang/RuntimeException", "java/lang/Exception"]) (by decide +kernel) (by decide +kernel) wxk_116 wxi_0 ((x_gst X).2.1.2 ("RivalWeds", 442, "the number is none") (List.mem_of_getElem? (i := 13) (by decide +kernel))) vat_120 vau_120 ((x_gst X).2.2.2.2.1 _ (List.mem_of_getElem? (i := 0) (by decide +kernel))) vag_120 dX11_checkNumber_10 dX11_checkNumber_13 dX11_checkNumber_14 dX11_checkNumber_17 dX11_checkNumber_20 (Nat.le_of_ble_eq_true rfl) (Nat.le_of_ble_eq_true rfl) (Nat.le_of_ble_eq_true rfl) (Nat.le_of_ble_eq_true rfl) (Nat.le_of_ble_eq_true rfl) (Nat.le_of_ble_eq_true rfl) (by cases hF; exact ⟨rfl, rfl⟩)
  · skip
    rw [if_neg c1] at hF
    refine e_iload_n X dX11_checkNumber_5 rfl rfl ?_
    refine e_iload_n X dX11_checkNumber_6 rfl rfl ?_
    refine e_icmp_le X 21 dX11_checkNumber_7 (by decide) (fun c2 => ?_) (fun c2 => ?_)
    · skip
      rw [if_neg c2] at hF
      exact e_xr (e_vret X hr dX11_checkNumber_21 (Nat.le_of_ble_eq_true rfl) (Nat.le_of_ble_eq_true rfl) (by cases hF; exact ⟨_, rfl, rfl, rfl⟩))
    · skip
      rw [if_pos c2] at hF
      exact e_throwSW X hex (cls := "java/lang/IllegalArgumentException") (text := "the number is none") (names := ["java/lang/RuntimeException", "java/lang/Exception"]) (by decide +kernel) (by decide +kernel) wxk_116 wxi_0 ((x_gst X).2.1.2 ("RivalWeds", 442, "the number is none") (List.mem_of_getElem? (i := 13) (by decide +kernel))) vat_120 vau_120 ((x_gst X).2.2.2.2.1 _ (List.mem_of_getElem? (i := 0) (by decide +kernel))) vag_120 dX11_checkNumber_10 dX11_checkNumber_13 dX11_checkNumber_14 dX11_checkNumber_17 dX11_checkNumber_20 (Nat.le_of_ble_eq_true rfl) (Nat.le_of_ble_eq_true rfl) (Nat.le_of_ble_eq_true rfl) (Nat.le_of_ble_eq_true rfl) (Nat.le_of_ble_eq_true rfl) (Nat.le_of_ble_eq_true rfl) (by cases hF; exact ⟨rfl, rfl⟩)
set_option maxRecDepth 20000 in
set_option maxHeartbeats 4000000 in
theorem C_W_checkQuarrel (hG : Gok l Γ D s0) (σ : Mem) (v1 : Int32)  : CX l Γ D s0 yX11_checkQuarrel cX11_checkQuarrel 2 none 7 1 6 105 σ [.ref (Γ.1 + 0), .int v1] (PXn σ (F_W_checkQuarrel σ v1)) (XXn σ (F_W_checkQuarrel σ v1)) := by
  generalize hF : F_W_checkQuarrel σ v1 = out
  unfold F_W_checkQuarrel at hF
  refine e_xmet (own := RX11) hG (by decide +kernel) rfl rfl (Nat.le_of_ble_eq_true rfl) ?_
  intro p e s m args below meth c X hex hr
  show E p l e _ s m args below meth c Γ D 0 0 _ σ 0 [some (.ref (Γ.1 + 0)), some (.int v1)] []
  refine e_aload_n X dX11_checkQuarrel_0 rfl rfl ?_
  refine e_iload_n X dX11_checkQuarrel_1 rfl rfl ?_
  refine e_iconst X 0 dX11_checkQuarrel_2 rfl ?_
  refine e_bipush X 9 dX11_checkQuarrel_3 rfl ?_
  refine e_xcallVn X hex (F_W_checkNumber σ v1 0 9) [.int v1, .int 0, .int 9] [] (C_W_checkNumber (Cx_gok X) σ v1 0 9) gv_X11_252 yk_X11_checkNumber rfl (ent_lt (rfl : entTbl[0]? = some (0, 0))) (ent_at (rfl : entTbl[0]? = some (0, 0)) _) (rfl : vCl[10]? = some (RX11, TX11, 17)) ⟨Nat.le_of_ble_eq_true rfl, Nat.le_of_ble_eq_true rfl⟩ ⟨Nat.le_of_ble_eq_true rfl, Nat.le_of_ble_eq_true rfl⟩ ⟨Nat.le_of_ble_eq_true rfl, Nat.le_of_ble_eq_true rfl⟩ (Nat.le_of_ble_eq_true rfl) dX11_checkQuarrel_5 rfl (fun o1 hz3 => ?_) (fun e2 hz3 => ?_)
  · skip
    rw [hz3, sumE_inr] at hF
    exact e_xr (e_vret X hr dX11_checkQuarrel_8 (Nat.le_of_ble_eq_true rfl) (Nat.le_of_ble_eq_true rfl) (by cases hF; exact ⟨_, rfl, rfl, rfl⟩))
  · skip
    rw [hz3, sumE_inl] at hF
    cases hF; exact ⟨rfl, rfl⟩
set_option maxRecDepth 20000 in
set_option maxHeartbeats 4000000 in
theorem C_W_readTold (hG : Gok l Γ D s0) (σ : Mem)   {out : (String × Mem) ⊕ (Mem)} (hF : F_W_readTold σ = some out) : CX l Γ D s0 yX11_readTold cX11_readTold 1 none 6 1 6 82 σ [.ref (Γ.1 + 0)] (PXw out) (XXw out) := by
  unfold F_W_readTold at hF
  refine e_xmet (own := RX11) hG (by decide +kernel) rfl rfl (Nat.le_of_ble_eq_true rfl) ?_
  intro p e s m args below meth c X hex hr
  show E p l e _ s m args below meth c Γ D 0 0 _ σ 0 [some (.ref (Γ.1 + 0))] []
  refine e_aload_n X dX11_readTold_0 rfl rfl ?_
  refine ge_W_toldSets X wf_X11_80 dX11_readTold_1 ?_
  refine e_aload_n X dX11_readTold_4 rfl rfl ?_
  refine ge_W_tape X wf_X11_14 dX11_readTold_5 ?_
  refine e_aload_n X dX11_readTold_8 rfl rfl ?_
  obtain ⟨z1, h_z1, hF⟩ := bindT_out hF
  refine e_callVi X (r := z1.2) (σ1 := z1.1) [] [.ref (Γ.1 + 1), .ref (Γ.1 + 122)] (by rw [h_z1]; exact C_W_useTapeUp (Cx_gok X) σ) gv_X11_105 yk_X11_useTapeUp rfl (ent_lt (rfl : entTbl[0]? = some (0, 0))) (ent_at (rfl : entTbl[0]? = some (0, 0)) _) (rfl : vCl[10]? = some (RX11, TX11, 17)) ⟨Nat.le_of_ble_eq_true rfl, Nat.le_of_ble_eq_true rfl⟩ ⟨Nat.le_of_ble_eq_true rfl, Nat.le_of_ble_eq_true rfl⟩ (Nat.le_of_ble_eq_true rfl) dX11_readTold_9 rfl ?_
  refine e_aload_n X dX11_readTold_12 rfl rfl ?_
  refine ge_W_town X wf_X11_21 dX11_readTold_13 ?_
  refine ge_Town_people X ok_Town_3 wf_X11_339 dX11_readTold_16 ?_
  obtain ⟨z2, h_z2, hF⟩ := obind_out hF
  refine e_callVi X (r := z2.2) (σ1 := z2.1) [.ref (Γ.1 + 1), .int z1.2, .int ((z1.1 3 8))] [] (C_Told_reads (Cx_gok X) z1.1 1 400 z1.2 ((z1.1 3 8)) ok_Row_1 h_z2) gv_X11_342 yk_X8_reads rfl (ent_lt (rfl : entTbl[122]? = some (10, 0))) (ent_at (rfl : entTbl[122]? = some (10, 0)) _) (rfl : vCl[7]? = some (RX8, TX8, 5)) ⟨Nat.le_of_ble_eq_true rfl, Nat.le_of_ble_eq_true rfl⟩ ⟨Nat.le_of_ble_eq_true rfl, Nat.le_of_ble_eq_true rfl⟩ (Nat.le_of_ble_eq_true rfl) dX11_readTold_19 rfl ?_
  refine e_if_ne X 36 dX11_readTold_22 (by decide) (fun c3 => ?_) (fun c3 => ?_)
  · skip
    rw [if_neg c3] at hF
    exact e_xr (e_vret X hr dX11_readTold_36 (Nat.le_of_ble_eq_true rfl) (Nat.le_of_ble_eq_true rfl) (by cases hF; exact ⟨_, rfl, rfl, rfl⟩))
  · skip
    rw [if_pos c3] at hF
    exact e_throwSW X hex (cls := "java/lang/IllegalArgumentException") (text := "the tape does not tell rows of people") (names := ["java/lang/RuntimeException", "java/lang/Exception"]) (by decide +kernel) (by decide +kernel) wxk_116 wxi_0 ((x_gst X).2.1.2 ("RivalWeds", 346, "the tape does not tell rows of people") (List.mem_of_getElem? (i := 14) (by decide +kernel))) vat_120 vau_120 ((x_gst X).2.2.2.2.1 _ (List.mem_of_getElem? (i := 0) (by decide +kernel))) vag_120 dX11_readTold_25 dX11_readTold_28 dX11_readTold_29 dX11_readTold_32 dX11_readTold_35 (Nat.le_of_ble_eq_true rfl) (Nat.le_of_ble_eq_true rfl) (Nat.le_of_ble_eq_true rfl) (Nat.le_of_ble_eq_true rfl) (Nat.le_of_ble_eq_true rfl) (Nat.le_of_ble_eq_true rfl) (by cases hF; exact ⟨_, rfl, rfl, rfl⟩)
end PART

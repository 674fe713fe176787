section PART
variable {p : Program} {l : Launch} {e : Env} {R : Room} {s : State} {m : MethodId} {args : Array Value} {below : List Frame} {meth : Method} {c : Code} {Γ : Gm} {D : va_G} {s0 : State} {cells slots : Nat} {Q : State → Prop} {own : String} {cc : ByteArray} {nL : Nat} {σ : Mem} {pc : Nat} {lv : List (Option Value)} {st : List Value} {Pst : Option Value → Mem → Prop}
def F_W_feedNumber_3_b (v1 : Int32) (v2 : Int32) (σ : Mem) : Option ((Int32 × Mem) ⊕ (Int32 × Mem)) := (if v2 < 0 then some (.inr ((v2, σ))) else bindT (F_Row_put σ 1 400 ((σ 0 12)) ((((v1 : Int32) >>> ((v2 : Int32) &&& 31)) &&& 255))) fun z2 => bindT (up z2 0 12 (((z2 0 12) + 1))) fun σ3 => bindT (v2 + (-8)) fun x4 => some (.inl ((x4, σ3))))
def F_W_feedNumber (σ : Mem) (v1 : Int32) : Option (Mem) := obind (whl (fun s => F_W_feedNumber_3_b v1 s.1 s.2) FUEL (24, σ)) fun z5 => some z5.2
def F_W_feed (σ : Mem) (v1 : Int32) (v2 : Int32) (v3 : Int32) (v4 : Int32) (v5 : Int32) : Option (Mem × Int32) := (if 400 < ((σ 0 12) + 20) then some ((σ, (-1))) else obind (F_W_feedNumber σ v1) fun z2 => obind (F_W_feedNumber z2 v2) fun z3 => obind (F_W_feedNumber z3 v3) fun z4 => obind (F_W_feedNumber z4 v4) fun z5 => obind (F_W_feedNumber z5 v5) fun z6 => some ((z6, (z6 0 12))))
def F_W_end (σ : Mem) (v1 : Int32) : Mem × Int32 := (if v1 < 0 then (σ, 0) else (if (σ 0 12) < v1 then (σ, 0) else bindT (up σ 0 12 v1) fun σ3 => (σ3, 1)))
def F_W_useTapeUp (σ : Mem)  : Mem × Int32 := bindT ((σ 0 12)) fun x1 => bindT (up σ 0 12 0) fun σ2 => (σ2, x1)
def F_W_fault (σ : Mem)  : Int32 := (σ 0 13)
def F_W_rememberedTown (σ : Mem) (v1 : Int32) : Int32 := bindT ((v1 - v1 / 12 * 12)) fun x1 => (if x1 < 0 then (-1) else (if x1 < 12 then x1 else (-1)))
def F_W_remember (σ : Mem)  : Option (Mem) := (if (F_W_rememberedTown σ (((σ 0 15) + (σ 0 16)))) < 0 then (if (σ 0 16) < 12 then bindT (up σ 0 16 (((σ 0 16) + 1))) fun σ4 => some σ4 else bindT (up σ 0 15 ((((σ 0 15) + 1) - ((σ 0 15) + 1) / 12 * 12))) fun σ3 => some σ3) else chk (inb ((F_W_rememberedTown σ (((σ 0 15) + (σ 0 16))))) 12) <| bindT (F_Town_copyAll σ (129 + 17 * ((F_W_rememberedTown σ (((σ 0 15) + (σ 0 16))))).toNatClampNeg) 3) fun z6 => (if (z6 0 16) < 12 then bindT (up z6 0 16 (((z6 0 16) + 1))) fun σ9 => some σ9 else bindT (up z6 0 15 ((((z6 0 15) + 1) - ((z6 0 15) + 1) / 12 * 12))) fun σ8 => some σ8))
def F_W_undo (σ : Mem)  : Option (Mem × Int32) := (if (σ 0 16) = 0 then some ((σ, 0)) else bindT (up σ 0 16 (((σ 0 16) - 1))) fun σ2 => (if (F_W_rememberedTown σ2 (((σ2 0 15) + (σ2 0 16)))) < 0 then some ((σ2, 1)) else chk (inb ((F_W_rememberedTown σ2 (((σ2 0 15) + (σ2 0 16))))) 12) <| bindT (F_Town_copyAll σ2 3 (129 + 17 * ((F_W_rememberedTown σ2 (((σ2 0 15) + (σ2 0 16))))).toNatClampNeg)) fun z5 => some ((z5, 1))))
def F_W_forgetActs (σ : Mem)  : Mem := bindT (up σ 0 16 0) fun σ1 => σ1
def F_W_image (σ : Mem)  : Mem := bindT (F_Town_copyAll σ 28 3) fun z1 => bindT (F_Law_copyAll z1 45 20) fun z2 => bindT (up z2 0 14 1) fun σ3 => σ3
def F_W_back (σ : Mem)  : Mem × Int32 := (if (σ 0 14) = 0 then (σ, 0) else bindT (F_Town_copyAll σ 3 28) fun z2 => bindT (F_Law_copyAll z2 20 45) fun z3 => bindT (F_W_forgetActs z3) fun z4 => (z4, 1))
def F_W_seed (σ : Mem) (v1 : Int32) : Mem × Int32 := bindT ((σ 3 17)) fun x1 => bindT (up σ 3 17 v1) fun σ2 => (σ2, x1)
def F_W_count (σ : Mem) (v1 : Int32) : Int32 := (if v1 = 0 then (σ 3 8) else (if v1 = 1 then (σ 3 10) else (if v1 = 2 then (σ 3 18) else (if v1 = 3 then (σ 20 5) else (if v1 = 4 then (σ 3 15) else (if v1 = 5 then (σ 3 16) else (if v1 = 6 then (σ 3 12) else (if v1 = 7 then (σ 3 13) else (if v1 = 8 then (σ 3 14) else (if v1 = 9 then (F_Town_wealthOfAll σ 3) else (if v1 = 10 then (σ 3 9) else (if v1 = 11 then (F_Town_wedPeople σ 3) else (if v1 = 12 then (σ 3 19) else (if v1 = 13 then (F_Town_logRows σ 3) else (if v1 = 14 then (σ 0 16) else (-1))))))))))))))))
def F_W_falls (σ : Mem)  : Option (Mem × Int32) := obind (F_For_fallen σ 3) fun z1 => some ((z1.1, z1.2))
def F_W_rings (σ : Mem)  : Option (Int32) := obind (F_Town_ringCount σ 3) fun z1 => some z1
def F_W_lovers (σ : Mem) (v1 : Int32) : Int32 := (if v1 = 0 then (F_Prs_loverPairs σ 3) else (F_Prs_firstLovers σ 3))
def F_W_weddings (σ : Mem)  : Option (Int32) := obind (F_Prs_mostWeddings σ 3) fun z1 => some z1
def F_W_richest (σ : Mem)  : Int32 := (F_Town_richestPerson σ 3)
set_option maxRecDepth 20000 in
set_option maxHeartbeats 4000000 in
theorem L_W_feedNumber_3 (X : Cx p l s m args meth c Γ D s0 RX11 cX11_feedNumber 3) (hr : meth.sig.returnType = none) (v1 : Int32)  : ∀ (n : Nat) (v2 : Int32) (σ : Mem) {z : Int32 × Mem}, whl (fun s => F_W_feedNumber_3_b v1 s.1 s.2) n (v2, σ) = some z → (E p l e ({ frames := 1, cells := 0, slots := 0, locals := 22 } : Room) s m args below meth c Γ D 0 0 (MQ below (QcA Γ D Pst) args s 0 0 (frB Γ)) z.2 41 [some (.ref (Γ.1 + 0)), some (.int v1), some (.int z.1)] []) → E p l e ({ frames := 1, cells := 0, slots := 0, locals := 22 } : Room) s m args below meth c Γ D 0 0 (MQ below (QcA Γ D Pst) args s 0 0 (frB Γ)) σ 3 [some (.ref (Γ.1 + 0)), some (.int v1), some (.int v2)] [] := by
  intro n
  induction n with
  | zero =>
    intro v2 σ z hF hK
    cases hF
  | succ n ih =>
    intro v2 σ z hF hK
    obtain ⟨y9, hB, hF⟩ := whl_step hF
    change F_W_feedNumber_3_b v1 v2 σ = some y9 at hB
    unfold F_W_feedNumber_3_b at hB
    refine e_iload_n X dX11_feedNumber_3 rfl rfl ?_
    refine e_if_lt X 41 dX11_feedNumber_4 (by decide) (fun c1 => ?_) (fun c1 => ?_)
    · skip
      rw [if_pos c1] at hB
      have hy9 := Option.some.inj hB; change (.inr ((v2, σ))) = y9 at hy9; subst hy9
      have hz9 := Option.some.inj hF; change ((v2, σ)) = z at hz9; subst hz9
      exact e_le hK (And.intro rfl (And.intro rfl (And.intro rfl (trivial))))
    · skip
      rw [if_neg c1] at hB
      refine e_aload_n X dX11_feedNumber_7 rfl rfl ?_
      refine ge_W_tape X wf_X11_14 dX11_feedNumber_8 ?_
      refine e_aload_n X dX11_feedNumber_11 rfl rfl ?_
      refine ge_W_tapeLength X wf_X11_88 dX11_feedNumber_12 ?_
      refine e_iload_n X dX11_feedNumber_15 rfl rfl ?_
      refine e_iload_n X dX11_feedNumber_16 rfl rfl ?_
      refine e_ishr X dX11_feedNumber_17 ?_
      refine e_sipush X 255 dX11_feedNumber_18 rfl ?_
      refine e_iand X dX11_feedNumber_21 ?_
      obtain ⟨z2, h_z2, hB⟩ := bindT_out hB
      refine e_callVv X (σ1 := z2) [.int ((σ 0 12)), .int ((((v1 : Int32) >>> ((v2 : Int32) &&& 31)) &&& 255))] [] (by rw [h_z2]; exact C_Row_put (Cx_gok X) σ 1 400 ((σ 0 12)) ((((v1 : Int32) >>> ((v2 : Int32) &&& 31)) &&& 255)) ok_Row_1) gv_X11_94 yk_X6_put rfl (ent_lt ok_Row_1.1) (ent_at ok_Row_1.1 _) (rfl : vCl[6]? = some (RX6, TX6, 1)) ⟨Nat.le_of_ble_eq_true rfl, Nat.le_of_ble_eq_true rfl⟩ ⟨Nat.le_of_ble_eq_true rfl, Nat.le_of_ble_eq_true rfl⟩ (Nat.le_of_ble_eq_true rfl) dX11_feedNumber_22 rfl ?_
      refine e_aload_n X dX11_feedNumber_25 rfl rfl ?_
      refine e_dup X dX11_feedNumber_26 rfl ?_
      refine ge_W_tapeLength X wf_X11_88 dX11_feedNumber_27 ?_
      refine e_iconst X 1 dX11_feedNumber_30 rfl ?_
      refine e_iadd X dX11_feedNumber_31 ?_
      obtain ⟨σ3, h_σ3, hB⟩ := bindT_out hB
      refine pu_W_tapeLength X wf_X11_88 dX11_feedNumber_32 h_σ3 ?_
      refine e_iinc X (-8) dX11_feedNumber_35 rfl rfl (by decide) ?_
      obtain ⟨x4, h_x4, hB⟩ := bindT_out hB
      rw [← h_x4]
      refine e_goto X 3 dX11_feedNumber_38 (by decide) ?_
      have hy9 := Option.some.inj hB; change (.inl ((x4, σ3))) = y9 at hy9; subst hy9
      exact e_le (ih x4 σ3 hF hK) (And.intro rfl (And.intro rfl (And.intro rfl (trivial))))
set_option maxRecDepth 20000 in
set_option maxHeartbeats 4000000 in
theorem C_W_feedNumber (hG : Gok l Γ D s0) (σ : Mem) (v1 : Int32)  {out : Mem} (hF : F_W_feedNumber σ v1 = some out) : CT l Γ D s0 yX11_feedNumber cX11_feedNumber 3 none (1) 0 0 (22) σ [.ref (Γ.1 + 0), .int v1] (PI none out) := by
  unfold F_W_feedNumber at hF
  refine e_met (own := RX11) hG (by decide +kernel) rfl rfl (Nat.le_of_ble_eq_true rfl) ?_
  intro p e s m args below meth c X hr
  show E p l e _ s m args below meth c Γ D 0 0 _ σ 0 [some (.ref (Γ.1 + 0)), some (.int v1), none] []
  refine e_bipush X 24 dX11_feedNumber_0 rfl ?_
  refine e_istore_n X rfl dX11_feedNumber_2 rfl (by decide) ?_
  obtain ⟨z5, h_z5, hF⟩ := obind_out hF
  refine e_le (L_W_feedNumber_3 X hr v1 _ 24 σ h_z5 ?_) (And.intro rfl (And.intro rfl (And.intro rfl (trivial))))
  exact e_vret X hr dX11_feedNumber_41 (Nat.le_of_ble_eq_true rfl) (Nat.le_of_ble_eq_true rfl) (by cases hF; exact ⟨rfl, rfl⟩)
set_option maxRecDepth 20000 in
set_option maxHeartbeats 4000000 in
theorem C_W_feed (hG : Gok l Γ D s0) (σ : Mem) (v1 : Int32) (v2 : Int32) (v3 : Int32) (v4 : Int32) (v5 : Int32)  {out : Mem × Int32} (hF : F_W_feed σ v1 v2 v3 v4 v5 = some out) : CT l Γ D s0 yX11_feed cX11_feed 6 (some .int) (2) 0 0 (44) σ [.ref (Γ.1 + 0), .int v1, .int v2, .int v3, .int v4, .int v5] (PI (some (.int out.2)) out.1) := by
  unfold F_W_feed at hF
  refine e_met (own := RX11) hG (by decide +kernel) rfl rfl (Nat.le_of_ble_eq_true rfl) ?_
  intro p e s m args below meth c X hr
  show E p l e _ s m args below meth c Γ D 0 0 _ σ 0 [some (.ref (Γ.1 + 0)), some (.int v1), some (.int v2), some (.int v3), some (.int v4), some (.int v5)] []
  refine e_aload_n X dX11_feed_0 rfl rfl ?_
  refine ge_W_tapeLength X wf_X11_88 dX11_feed_1 ?_
  refine e_bipush X 20 dX11_feed_4 rfl ?_
  refine e_iadd X dX11_feed_6 ?_
  refine e_sipush X 400 dX11_feed_7 rfl ?_
  refine e_icmp_le X 15 dX11_feed_10 (by decide) (fun c1 => ?_) (fun c1 => ?_)
  · skip
    rw [if_neg c1] at hF
    refine e_aload_n X dX11_feed_15 rfl rfl ?_
    refine e_iload_n X dX11_feed_16 rfl rfl ?_
    obtain ⟨z2, h_z2, hF⟩ := obind_out hF
    refine e_callVv X (σ1 := z2) [.int v1] [] (C_W_feedNumber (Cx_gok X) σ v1 h_z2) gv_X11_91 yk_X11_feedNumber rfl (ent_lt (rfl : entTbl[0]? = some (0, 0))) (ent_at (rfl : entTbl[0]? = some (0, 0)) _) (rfl : vCl[10]? = some (RX11, TX11, 17)) ⟨Nat.le_of_ble_eq_true rfl, Nat.le_of_ble_eq_true rfl⟩ ⟨Nat.le_of_ble_eq_true rfl, Nat.le_of_ble_eq_true rfl⟩ (Nat.le_of_ble_eq_true rfl) dX11_feed_17 rfl ?_
    refine e_aload_n X dX11_feed_20 rfl rfl ?_
    refine e_iload_n X dX11_feed_21 rfl rfl ?_
    obtain ⟨z3, h_z3, hF⟩ := obind_out hF
    refine e_callVv X (σ1 := z3) [.int v2] [] (C_W_feedNumber (Cx_gok X) z2 v2 h_z3) gv_X11_91 yk_X11_feedNumber rfl (ent_lt (rfl : entTbl[0]? = some (0, 0))) (ent_at (rfl : entTbl[0]? = some (0, 0)) _) (rfl : vCl[10]? = some (RX11, TX11, 17)) ⟨Nat.le_of_ble_eq_true rfl, Nat.le_of_ble_eq_true rfl⟩ ⟨Nat.le_of_ble_eq_true rfl, Nat.le_of_ble_eq_true rfl⟩ (Nat.le_of_ble_eq_true rfl) dX11_feed_22 rfl ?_
    refine e_aload_n X dX11_feed_25 rfl rfl ?_
    refine e_iload_n X dX11_feed_26 rfl rfl ?_
    obtain ⟨z4, h_z4, hF⟩ := obind_out hF
    refine e_callVv X (σ1 := z4) [.int v3] [] (C_W_feedNumber (Cx_gok X) z3 v3 h_z4) gv_X11_91 yk_X11_feedNumber rfl (ent_lt (rfl : entTbl[0]? = some (0, 0))) (ent_at (rfl : entTbl[0]? = some (0, 0)) _) (rfl : vCl[10]? = some (RX11, TX11, 17)) ⟨Nat.le_of_ble_eq_true rfl, Nat.le_of_ble_eq_true rfl⟩ ⟨Nat.le_of_ble_eq_true rfl, Nat.le_of_ble_eq_true rfl⟩ (Nat.le_of_ble_eq_true rfl) dX11_feed_27 rfl ?_
    refine e_aload_n X dX11_feed_30 rfl rfl ?_
    refine e_iload X dX11_feed_31 rfl ?_
    obtain ⟨z5, h_z5, hF⟩ := obind_out hF
    refine e_callVv X (σ1 := z5) [.int v4] [] (C_W_feedNumber (Cx_gok X) z4 v4 h_z5) gv_X11_91 yk_X11_feedNumber rfl (ent_lt (rfl : entTbl[0]? = some (0, 0))) (ent_at (rfl : entTbl[0]? = some (0, 0)) _) (rfl : vCl[10]? = some (RX11, TX11, 17)) ⟨Nat.le_of_ble_eq_true rfl, Nat.le_of_ble_eq_true rfl⟩ ⟨Nat.le_of_ble_eq_true rfl, Nat.le_of_ble_eq_true rfl⟩ (Nat.le_of_ble_eq_true rfl) dX11_feed_33 rfl ?_
    refine e_aload_n X dX11_feed_36 rfl rfl ?_
    refine e_iload X dX11_feed_37 rfl ?_
    obtain ⟨z6, h_z6, hF⟩ := obind_out hF
    refine e_callVv X (σ1 := z6) [.int v5] [] (C_W_feedNumber (Cx_gok X) z5 v5 h_z6) gv_X11_91 yk_X11_feedNumber rfl (ent_lt (rfl : entTbl[0]? = some (0, 0))) (ent_at (rfl : entTbl[0]? = some (0, 0)) _) (rfl : vCl[10]? = some (RX11, TX11, 17)) ⟨Nat.le_of_ble_eq_true rfl, Nat.le_of_ble_eq_true rfl⟩ ⟨Nat.le_of_ble_eq_true rfl, Nat.le_of_ble_eq_true rfl⟩ (Nat.le_of_ble_eq_true rfl) dX11_feed_39 rfl ?_
    refine e_aload_n X dX11_feed_42 rfl rfl ?_
    refine ge_W_tapeLength X wf_X11_88 dX11_feed_43 ?_
    exact e_iret X hr dX11_feed_46 (Nat.le_of_ble_eq_true rfl) (Nat.le_of_ble_eq_true rfl) (by cases hF; exact ⟨rfl, rfl⟩)
  · skip
    rw [if_pos c1] at hF
    refine e_iconst X (-1) dX11_feed_13 rfl ?_
    exact e_iret X hr dX11_feed_14 (Nat.le_of_ble_eq_true rfl) (Nat.le_of_ble_eq_true rfl) (by cases hF; exact ⟨rfl, rfl⟩)
set_option maxRecDepth 20000 in
set_option maxHeartbeats 4000000 in
theorem C_W_end (hG : Gok l Γ D s0) (σ : Mem) (v1 : Int32)  : CT l Γ D s0 yX11_end cX11_end 2 (some .boolean) (0) 0 0 (0) σ [.ref (Γ.1 + 0), .int v1] (PI (some (.int (F_W_end σ v1).2)) (F_W_end σ v1).1) := by
  generalize hF : F_W_end σ v1 = out
  unfold F_W_end at hF
  refine e_met (own := RX11) hG (by decide +kernel) rfl rfl (Nat.le_of_ble_eq_true rfl) ?_
  intro p e s m args below meth c X hr
  show E p l e _ s m args below meth c Γ D 0 0 _ σ 0 [some (.ref (Γ.1 + 0)), some (.int v1)] []
  refine e_iload_n X dX11_end_0 rfl rfl ?_
  refine e_if_lt X 12 dX11_end_1 (by decide) (fun c1 => ?_) (fun c1 => ?_)
  · skip
    rw [if_pos c1] at hF
    refine e_iconst X 0 dX11_end_12 rfl ?_
    exact e_zret X hr rfl dX11_end_13 (Nat.le_of_ble_eq_true rfl) (Nat.le_of_ble_eq_true rfl) (by cases hF; exact ⟨rfl, rfl⟩)
  · skip
    rw [if_neg c1] at hF
    refine e_iload_n X dX11_end_4 rfl rfl ?_
    refine e_aload_n X dX11_end_5 rfl rfl ?_
    refine ge_W_tapeLength X wf_X11_88 dX11_end_6 ?_
    refine e_icmp_le X 14 dX11_end_9 (by decide) (fun c2 => ?_) (fun c2 => ?_)
    · skip
      rw [if_neg c2] at hF
      refine e_aload_n X dX11_end_14 rfl rfl ?_
      refine e_iload_n X dX11_end_15 rfl rfl ?_
      obtain ⟨σ3, h_σ3, hF⟩ := bindT_out hF
      refine pu_W_tapeLength X wf_X11_88 dX11_end_16 h_σ3 ?_
      refine e_iconst X 1 dX11_end_19 rfl ?_
      exact e_zret X hr rfl dX11_end_20 (Nat.le_of_ble_eq_true rfl) (Nat.le_of_ble_eq_true rfl) (by cases hF; exact ⟨rfl, rfl⟩)
    · skip
      rw [if_pos c2] at hF
      refine e_iconst X 0 dX11_end_12 rfl ?_
      exact e_zret X hr rfl dX11_end_13 (Nat.le_of_ble_eq_true rfl) (Nat.le_of_ble_eq_true rfl) (by cases hF; exact ⟨rfl, rfl⟩)
set_option maxRecDepth 20000 in
set_option maxHeartbeats 4000000 in
theorem C_W_useTapeUp (hG : Gok l Γ D s0) (σ : Mem)   : CT l Γ D s0 yX11_useTapeUp cX11_useTapeUp 2 (some .int) (0) 0 0 (0) σ [.ref (Γ.1 + 0)] (PI (some (.int (F_W_useTapeUp σ).2)) (F_W_useTapeUp σ).1) := by
  generalize hF : F_W_useTapeUp σ = out
  unfold F_W_useTapeUp at hF
  refine e_met (own := RX11) hG (by decide +kernel) rfl rfl (Nat.le_of_ble_eq_true rfl) ?_
  intro p e s m args below meth c X hr
  show E p l e _ s m args below meth c Γ D 0 0 _ σ 0 [some (.ref (Γ.1 + 0)), none] []
  refine e_aload_n X dX11_useTapeUp_0 rfl rfl ?_
  refine ge_W_tapeLength X wf_X11_88 dX11_useTapeUp_1 ?_
  obtain ⟨x1, h_x1, hF⟩ := bindT_out hF
  refine e_istore_n X h_x1 dX11_useTapeUp_4 rfl (by decide) ?_
  refine e_aload_n X dX11_useTapeUp_5 rfl rfl ?_
  refine e_iconst X 0 dX11_useTapeUp_6 rfl ?_
  obtain ⟨σ2, h_σ2, hF⟩ := bindT_out hF
  refine pu_W_tapeLength X wf_X11_88 dX11_useTapeUp_7 h_σ2 ?_
  refine e_iload_n X dX11_useTapeUp_10 rfl rfl ?_
  exact e_iret X hr dX11_useTapeUp_11 (Nat.le_of_ble_eq_true rfl) (Nat.le_of_ble_eq_true rfl) (by cases hF; exact ⟨rfl, rfl⟩)
set_option maxRecDepth 20000 in
set_option maxHeartbeats 4000000 in
theorem C_W_fault (hG : Gok l Γ D s0) (σ : Mem)   : CT l Γ D s0 yX11_fault cX11_fault 1 (some .int) (0) 0 0 (0) σ [.ref (Γ.1 + 0)] (PI (some (.int (F_W_fault σ))) σ) := by
  generalize hF : F_W_fault σ = out
  unfold F_W_fault at hF
  refine e_met (own := RX11) hG (by decide +kernel) rfl rfl (Nat.le_of_ble_eq_true rfl) ?_
  intro p e s m args below meth c X hr
  show E p l e _ s m args below meth c Γ D 0 0 _ σ 0 [some (.ref (Γ.1 + 0))] []
  refine e_aload_n X dX11_fault_0 rfl rfl ?_
  refine ge_W_wrongByte X wf_X11_84 dX11_fault_1 ?_
  exact e_iret X hr dX11_fault_4 (Nat.le_of_ble_eq_true rfl) (Nat.le_of_ble_eq_true rfl) (by cases hF; exact ⟨rfl, rfl⟩)
set_option maxRecDepth 20000 in
set_option maxHeartbeats 4000000 in
theorem C_W_rememberedTown (hG : Gok l Γ D s0) (σ : Mem) (v1 : Int32)  : CT l Γ D s0 yX11_rememberedTown cX11_rememberedTown 3 (some (.object "RivalWeds$Town")) (0) 0 0 (0) σ [.ref (Γ.1 + 0), .int v1] (PI (some (va_rf (top Γ (F_W_rememberedTown σ v1)))) σ) := by
  generalize hF : F_W_rememberedTown σ v1 = out
  unfold F_W_rememberedTown at hF
  refine e_met (own := RX11) hG (by decide +kernel) rfl rfl (Nat.le_of_ble_eq_true rfl) ?_
  intro p e s m args below meth c X hr
  show E p l e _ s m args below meth c Γ D 0 0 _ σ 0 [some (.ref (Γ.1 + 0)), some (.int v1), none] []
  refine e_iload_n X dX11_rememberedTown_0 rfl rfl ?_
  refine e_bipush X 12 dX11_rememberedTown_1 rfl ?_
  refine e_irem X dX11_rememberedTown_3 (by decide) ?_
  obtain ⟨x1, h_x1, hF⟩ := bindT_out hF
  refine e_istore_n X h_x1 dX11_rememberedTown_4 rfl (by decide) ?_
  refine e_iload_n X dX11_rememberedTown_5 rfl rfl ?_
  refine e_if_lt X 27 dX11_rememberedTown_6 (by decide) (fun c2 => ?_) (fun c2 => ?_)
  · skip
    rw [if_pos c2] at hF
    refine e_null X dX11_rememberedTown_27 ?_
    exact e_tnret X hr (Or.inl ⟨_, rfl⟩) dX11_rememberedTown_28 (Nat.le_of_ble_eq_true rfl) (Nat.le_of_ble_eq_true rfl) (by cases hF; exact ⟨congrArg some top_neg.symm, rfl⟩)
  · skip
    rw [if_neg c2] at hF
    refine e_iload_n X dX11_rememberedTown_9 rfl rfl ?_
    refine e_aload_n X dX11_rememberedTown_10 rfl rfl ?_
    refine ge_W_remembered X wf_X11_38 dX11_rememberedTown_11 ?_
    refine e_tlen53 X dX11_rememberedTown_14 ?_
    refine e_icmp_ge X 27 dX11_rememberedTown_15 (by decide) (fun c3 => ?_) (fun c3 => ?_)
    · skip
      rw [if_neg c3] at hF
      refine e_null X dX11_rememberedTown_27 ?_
      exact e_tnret X hr (Or.inl ⟨_, rfl⟩) dX11_rememberedTown_28 (Nat.le_of_ble_eq_true rfl) (Nat.le_of_ble_eq_true rfl) (by cases hF; exact ⟨congrArg some top_neg.symm, rfl⟩)
    · skip
      rw [if_pos c3] at hF
      refine e_aload_n X dX11_rememberedTown_18 rfl rfl ?_
      refine ge_W_remembered X wf_X11_38 dX11_rememberedTown_19 ?_
      refine e_iload_n X dX11_rememberedTown_22 rfl rfl ?_
      refine e_tald X c2 (vp_gc (by decide) c2 c3) dX11_rememberedTown_23 ?_
      refine e_goto X 28 dX11_rememberedTown_24 (by decide) ?_
      exact e_aret X hr (Or.inl ⟨_, rfl⟩) dX11_rememberedTown_28 (Nat.le_of_ble_eq_true rfl) (Nat.le_of_ble_eq_true rfl) (by cases hF; exact ⟨rfl, rfl⟩)
set_option maxRecDepth 20000 in
set_option maxHeartbeats 4000000 in
theorem C_W_remember (hG : Gok l Γ D s0) (σ : Mem)   {out : Mem} (hF : F_W_remember σ = some out) : CT l Γ D s0 yX11_remember cX11_remember 2 none (4) 0 0 (363) σ [.ref (Γ.1 + 0)] (PI none out) := by
  unfold F_W_remember at hF
  refine e_met (own := RX11) hG (by decide +kernel) rfl rfl (Nat.le_of_ble_eq_true rfl) ?_
  intro p e s m args below meth c X hr
  show E p l e _ s m args below meth c Γ D 0 0 _ σ 0 [some (.ref (Γ.1 + 0)), none] []
  refine e_aload_n X dX11_remember_0 rfl rfl ?_
  refine e_aload_n X dX11_remember_1 rfl rfl ?_
  refine ge_W_oldestAct X wf_X11_385 dX11_remember_2 ?_
  refine e_aload_n X dX11_remember_5 rfl rfl ?_
  refine ge_W_acts X wf_X11_382 dX11_remember_6 ?_
  refine e_iadd X dX11_remember_9 ?_
  refine e_callVr X (σ1 := σ) (va_rf (top Γ ((F_W_rememberedTown σ (((σ 0 15) + (σ 0 16))))))) [.int (((σ 0 15) + (σ 0 16)))] [] (C_W_rememberedTown (Cx_gok X) σ (((σ 0 15) + (σ 0 16)))) gv_X11_388 yk_X11_rememberedTown rfl (ent_lt (rfl : entTbl[0]? = some (0, 0))) (ent_at (rfl : entTbl[0]? = some (0, 0)) _) (rfl : vCl[10]? = some (RX11, TX11, 17)) ⟨Nat.le_of_ble_eq_true rfl, Nat.le_of_ble_eq_true rfl⟩ ⟨Nat.le_of_ble_eq_true rfl, Nat.le_of_ble_eq_true rfl⟩ (Nat.le_of_ble_eq_true rfl) dX11_remember_10 rfl ?_
  refine e_rastore_n X dX11_remember_13 rfl (by decide) ?_
  refine e_raload_n X dX11_remember_14 rfl rfl ?_
  refine e_tifnull X 26 dX11_remember_15 (by decide) (fun c1 => ?_) (fun c1 => ?_)
  · skip
    rw [if_pos c1] at hF
    refine e_aload_n X dX11_remember_26 rfl rfl ?_
    refine ge_W_acts X wf_X11_382 dX11_remember_27 ?_
    refine e_bipush X 12 dX11_remember_30 rfl ?_
    refine e_icmp_ge X 48 dX11_remember_32 (by decide) (fun c2 => ?_) (fun c2 => ?_)
    · skip
      rw [if_neg c2] at hF
      refine e_aload_n X dX11_remember_48 rfl rfl ?_
      refine e_aload_n X dX11_remember_49 rfl rfl ?_
      refine ge_W_oldestAct X wf_X11_385 dX11_remember_50 ?_
      refine e_iconst X 1 dX11_remember_53 rfl ?_
      refine e_iadd X dX11_remember_54 ?_
      refine e_bipush X 12 dX11_remember_55 rfl ?_
      refine e_irem X dX11_remember_57 (by decide) ?_
      obtain ⟨σ3, h_σ3, hF⟩ := bindT_out hF
      refine pu_W_oldestAct X wf_X11_385 dX11_remember_58 h_σ3 ?_
      exact e_vret X hr dX11_remember_61 (Nat.le_of_ble_eq_true rfl) (Nat.le_of_ble_eq_true rfl) (by cases hF; exact ⟨rfl, rfl⟩)
    · skip
      rw [if_pos c2] at hF
      refine e_aload_n X dX11_remember_35 rfl rfl ?_
      refine e_dup X dX11_remember_36 rfl ?_
      refine ge_W_acts X wf_X11_382 dX11_remember_37 ?_
      refine e_iconst X 1 dX11_remember_40 rfl ?_
      refine e_iadd X dX11_remember_41 ?_
      obtain ⟨σ4, h_σ4, hF⟩ := bindT_out hF
      refine pu_W_acts X wf_X11_382 dX11_remember_42 h_σ4 ?_
      refine e_goto X 61 dX11_remember_45 (by decide) ?_
      exact e_vret X hr dX11_remember_61 (Nat.le_of_ble_eq_true rfl) (Nat.le_of_ble_eq_true rfl) (by cases hF; exact ⟨rfl, rfl⟩)
  · skip
    rw [if_neg c1] at hF
    obtain ⟨c5, hF⟩ := chk_out hF
    refine e_taload_n X c1 dX11_remember_18 rfl rfl ?_
    refine e_aload_n X dX11_remember_19 rfl rfl ?_
    refine ge_W_town X wf_X11_21 dX11_remember_20 ?_
    obtain ⟨z6, h_z6, hF⟩ := bindT_out hF
    refine e_callVv X (σ1 := z6) [.ref (Γ.1 + 3)] [] (by rw [h_z6]; exact C_Town_copyAll (Cx_gok X) σ (129 + 17 * ((F_W_rememberedTown σ (((σ 0 15) + (σ 0 16))))).toNatClampNeg) 3 (tk_town c5) ok_Town_3) gv_X11_101 yk_X9_copyAll rfl (ent_lt (tk_town c5).1) (ent_at (tk_town c5).1 _) (rfl : vCl[8]? = some (RX9, TX9, 20)) ⟨Nat.le_of_ble_eq_true rfl, Nat.le_of_ble_eq_true rfl⟩ ⟨Nat.le_of_ble_eq_true rfl, Nat.le_of_ble_eq_true rfl⟩ (Nat.le_of_ble_eq_true rfl) dX11_remember_23 rfl ?_
    refine e_aload_n X dX11_remember_26 rfl rfl ?_
    refine ge_W_acts X wf_X11_382 dX11_remember_27 ?_
    refine e_bipush X 12 dX11_remember_30 rfl ?_
    refine e_icmp_ge X 48 dX11_remember_32 (by decide) (fun c7 => ?_) (fun c7 => ?_)
    · skip
      rw [if_neg c7] at hF
      refine e_aload_n X dX11_remember_48 rfl rfl ?_
      refine e_aload_n X dX11_remember_49 rfl rfl ?_
      refine ge_W_oldestAct X wf_X11_385 dX11_remember_50 ?_
      refine e_iconst X 1 dX11_remember_53 rfl ?_
      refine e_iadd X dX11_remember_54 ?_
      refine e_bipush X 12 dX11_remember_55 rfl ?_
      refine e_irem X dX11_remember_57 (by decide) ?_
      obtain ⟨σ8, h_σ8, hF⟩ := bindT_out hF
      refine pu_W_oldestAct X wf_X11_385 dX11_remember_58 h_σ8 ?_
      exact e_vret X hr dX11_remember_61 (Nat.le_of_ble_eq_true rfl) (Nat.le_of_ble_eq_true rfl) (by cases hF; exact ⟨rfl, rfl⟩)
    · skip
      rw [if_pos c7] at hF
      refine e_aload_n X dX11_remember_35 rfl rfl ?_
      refine e_dup X dX11_remember_36 rfl ?_
      refine ge_W_acts X wf_X11_382 dX11_remember_37 ?_
      refine e_iconst X 1 dX11_remember_40 rfl ?_
      refine e_iadd X dX11_remember_41 ?_
      obtain ⟨σ9, h_σ9, hF⟩ := bindT_out hF
      refine pu_W_acts X wf_X11_382 dX11_remember_42 h_σ9 ?_
      refine e_goto X 61 dX11_remember_45 (by decide) ?_
      exact e_vret X hr dX11_remember_61 (Nat.le_of_ble_eq_true rfl) (Nat.le_of_ble_eq_true rfl) (by cases hF; exact ⟨rfl, rfl⟩)
set_option maxRecDepth 20000 in
set_option maxHeartbeats 4000000 in
theorem C_W_undo (hG : Gok l Γ D s0) (σ : Mem)   {out : Mem × Int32} (hF : F_W_undo σ = some out) : CT l Γ D s0 yX11_undo cX11_undo 2 (some .boolean) (4) 0 0 (363) σ [.ref (Γ.1 + 0)] (PI (some (.int out.2)) out.1) := by
  unfold F_W_undo at hF
  refine e_met (own := RX11) hG (by decide +kernel) rfl rfl (Nat.le_of_ble_eq_true rfl) ?_
  intro p e s m args below meth c X hr
  show E p l e _ s m args below meth c Γ D 0 0 _ σ 0 [some (.ref (Γ.1 + 0)), none] []
  refine e_aload_n X dX11_undo_0 rfl rfl ?_
  refine ge_W_acts X wf_X11_382 dX11_undo_1 ?_
  refine e_if_ne X 9 dX11_undo_4 (by decide) (fun c1 => ?_) (fun c1 => ?_)
  · skip
    rw [if_neg c1] at hF
    refine e_aload_n X dX11_undo_9 rfl rfl ?_
    refine e_dup X dX11_undo_10 rfl ?_
    refine ge_W_acts X wf_X11_382 dX11_undo_11 ?_
    refine e_iconst X 1 dX11_undo_14 rfl ?_
    refine e_isub X dX11_undo_15 ?_
    obtain ⟨σ2, h_σ2, hF⟩ := bindT_out hF
    refine pu_W_acts X wf_X11_382 dX11_undo_16 h_σ2 ?_
    refine e_aload_n X dX11_undo_19 rfl rfl ?_
    refine e_aload_n X dX11_undo_20 rfl rfl ?_
    refine ge_W_oldestAct X wf_X11_385 dX11_undo_21 ?_
    refine e_aload_n X dX11_undo_24 rfl rfl ?_
    refine ge_W_acts X wf_X11_382 dX11_undo_25 ?_
    refine e_iadd X dX11_undo_28 ?_
    refine e_callVr X (σ1 := σ2) (va_rf (top Γ ((F_W_rememberedTown σ2 (((σ2 0 15) + (σ2 0 16))))))) [.int (((σ2 0 15) + (σ2 0 16)))] [] (C_W_rememberedTown (Cx_gok X) σ2 (((σ2 0 15) + (σ2 0 16)))) gv_X11_388 yk_X11_rememberedTown rfl (ent_lt (rfl : entTbl[0]? = some (0, 0))) (ent_at (rfl : entTbl[0]? = some (0, 0)) _) (rfl : vCl[10]? = some (RX11, TX11, 17)) ⟨Nat.le_of_ble_eq_true rfl, Nat.le_of_ble_eq_true rfl⟩ ⟨Nat.le_of_ble_eq_true rfl, Nat.le_of_ble_eq_true rfl⟩ (Nat.le_of_ble_eq_true rfl) dX11_undo_29 rfl ?_
    refine e_rastore_n X dX11_undo_32 rfl (by decide) ?_
    refine e_raload_n X dX11_undo_33 rfl rfl ?_
    refine e_tifnull X 45 dX11_undo_34 (by decide) (fun c3 => ?_) (fun c3 => ?_)
    · skip
      rw [if_pos c3] at hF
      refine e_iconst X 1 dX11_undo_45 rfl ?_
      exact e_zret X hr rfl dX11_undo_46 (Nat.le_of_ble_eq_true rfl) (Nat.le_of_ble_eq_true rfl) (by cases hF; exact ⟨rfl, rfl⟩)
    · skip
      rw [if_neg c3] at hF
      refine e_aload_n X dX11_undo_37 rfl rfl ?_
      refine ge_W_town X wf_X11_21 dX11_undo_38 ?_
      obtain ⟨c4, hF⟩ := chk_out hF
      refine e_taload_n X c3 dX11_undo_41 rfl rfl ?_
      obtain ⟨z5, h_z5, hF⟩ := bindT_out hF
      refine e_callVv X (σ1 := z5) [.ref (Γ.1 + (129 + 17 * ((F_W_rememberedTown σ2 (((σ2 0 15) + (σ2 0 16))))).toNatClampNeg))] [] (by rw [h_z5]; exact C_Town_copyAll (Cx_gok X) σ2 3 (129 + 17 * ((F_W_rememberedTown σ2 (((σ2 0 15) + (σ2 0 16))))).toNatClampNeg) ok_Town_3 (tk_town c4)) gv_X11_101 yk_X9_copyAll rfl (ent_lt ok_Town_3.1) (ent_at ok_Town_3.1 _) (rfl : vCl[8]? = some (RX9, TX9, 20)) ⟨Nat.le_of_ble_eq_true rfl, Nat.le_of_ble_eq_true rfl⟩ ⟨Nat.le_of_ble_eq_true rfl, Nat.le_of_ble_eq_true rfl⟩ (Nat.le_of_ble_eq_true rfl) dX11_undo_42 rfl ?_
      refine e_iconst X 1 dX11_undo_45 rfl ?_
      exact e_zret X hr rfl dX11_undo_46 (Nat.le_of_ble_eq_true rfl) (Nat.le_of_ble_eq_true rfl) (by cases hF; exact ⟨rfl, rfl⟩)
  · skip
    rw [if_pos c1] at hF
    refine e_iconst X 0 dX11_undo_7 rfl ?_
    exact e_zret X hr rfl dX11_undo_8 (Nat.le_of_ble_eq_true rfl) (Nat.le_of_ble_eq_true rfl) (by cases hF; exact ⟨rfl, rfl⟩)
set_option maxRecDepth 20000 in
set_option maxHeartbeats 4000000 in
theorem C_W_forgetActs (hG : Gok l Γ D s0) (σ : Mem)   : CT l Γ D s0 yX11_forgetActs cX11_forgetActs 1 none (0) 0 0 (0) σ [.ref (Γ.1 + 0)] (PI none (F_W_forgetActs σ)) := by
  generalize hF : F_W_forgetActs σ = out
  unfold F_W_forgetActs at hF
  refine e_met (own := RX11) hG (by decide +kernel) rfl rfl (Nat.le_of_ble_eq_true rfl) ?_
  intro p e s m args below meth c X hr
  show E p l e _ s m args below meth c Γ D 0 0 _ σ 0 [some (.ref (Γ.1 + 0))] []
  refine e_aload_n X dX11_forgetActs_0 rfl rfl ?_
  refine e_iconst X 0 dX11_forgetActs_1 rfl ?_
  obtain ⟨σ1, h_σ1, hF⟩ := bindT_out hF
  refine pu_W_acts X wf_X11_382 dX11_forgetActs_2 h_σ1 ?_
  exact e_vret X hr dX11_forgetActs_5 (Nat.le_of_ble_eq_true rfl) (Nat.le_of_ble_eq_true rfl) (by cases hF; exact ⟨rfl, rfl⟩)
set_option maxRecDepth 20000 in
set_option maxHeartbeats 4000000 in
theorem C_W_image (hG : Gok l Γ D s0) (σ : Mem)   : CT l Γ D s0 yX11_image cX11_image 1 none (4) 0 0 (363) σ [.ref (Γ.1 + 0)] (PI none (F_W_image σ)) := by
  generalize hF : F_W_image σ = out
  unfold F_W_image at hF
  refine e_met (own := RX11) hG (by decide +kernel) rfl rfl (Nat.le_of_ble_eq_true rfl) ?_
  intro p e s m args below meth c X hr
  show E p l e _ s m args below meth c Γ D 0 0 _ σ 0 [some (.ref (Γ.1 + 0))] []
  refine e_aload_n X dX11_image_0 rfl rfl ?_
  refine ge_W_imageTown X wf_X11_32 dX11_image_1 ?_
  refine e_aload_n X dX11_image_4 rfl rfl ?_
  refine ge_W_town X wf_X11_21 dX11_image_5 ?_
  obtain ⟨z1, h_z1, hF⟩ := bindT_out hF
  refine e_callVv X (σ1 := z1) [.ref (Γ.1 + 3)] [] (by rw [h_z1]; exact C_Town_copyAll (Cx_gok X) σ 28 3 ok_Town_28 ok_Town_3) gv_X11_101 yk_X9_copyAll rfl (ent_lt ok_Town_28.1) (ent_at ok_Town_28.1 _) (rfl : vCl[8]? = some (RX9, TX9, 20)) ⟨Nat.le_of_ble_eq_true rfl, Nat.le_of_ble_eq_true rfl⟩ ⟨Nat.le_of_ble_eq_true rfl, Nat.le_of_ble_eq_true rfl⟩ (Nat.le_of_ble_eq_true rfl) dX11_image_8 rfl ?_
  refine e_aload_n X dX11_image_11 rfl rfl ?_
  refine ge_W_imageLaw X wf_X11_35 dX11_image_12 ?_
  refine e_aload_n X dX11_image_15 rfl rfl ?_
  refine ge_W_law X wf_X11_28 dX11_image_16 ?_
  obtain ⟨z2, h_z2, hF⟩ := bindT_out hF
  refine e_callVv X (σ1 := z2) [.ref (Γ.1 + 20)] [] (by rw [h_z2]; exact C_Law_copyAll (Cx_gok X) z1 45 20 ok_Law_45 ok_Law_20) gv_X11_143 yk_X2_copyAll rfl (ent_lt ok_Law_45.1) (ent_at ok_Law_45.1 _) (rfl : vCl[2]? = some (RX2, TX2, 6)) ⟨Nat.le_of_ble_eq_true rfl, Nat.le_of_ble_eq_true rfl⟩ ⟨Nat.le_of_ble_eq_true rfl, Nat.le_of_ble_eq_true rfl⟩ (Nat.le_of_ble_eq_true rfl) dX11_image_19 rfl ?_
  refine e_aload_n X dX11_image_22 rfl rfl ?_
  refine e_iconst X 1 dX11_image_23 rfl ?_
  obtain ⟨σ3, h_σ3, hF⟩ := bindT_out hF
  refine pu_W_imageKept X (Or.inr rfl) wf_X11_392 dX11_image_24 h_σ3 ?_
  exact e_vret X hr dX11_image_27 (Nat.le_of_ble_eq_true rfl) (Nat.le_of_ble_eq_true rfl) (by cases hF; exact ⟨rfl, rfl⟩)
set_option maxRecDepth 20000 in
set_option maxHeartbeats 4000000 in
theorem C_W_back (hG : Gok l Γ D s0) (σ : Mem)   : CT l Γ D s0 yX11_back cX11_back 1 (some .boolean) (4) 0 0 (363) σ [.ref (Γ.1 + 0)] (PI (some (.int (F_W_back σ).2)) (F_W_back σ).1) := by
  generalize hF : F_W_back σ = out
  unfold F_W_back at hF
  refine e_met (own := RX11) hG (by decide +kernel) rfl rfl (Nat.le_of_ble_eq_true rfl) ?_
  intro p e s m args below meth c X hr
  show E p l e _ s m args below meth c Γ D 0 0 _ σ 0 [some (.ref (Γ.1 + 0))] []
  refine e_aload_n X dX11_back_0 rfl rfl ?_
  refine ge_W_imageKept X wf_X11_392 dX11_back_1 ?_
  refine e_if_ne X 9 dX11_back_4 (by decide) (fun c1 => ?_) (fun c1 => ?_)
  · skip
    rw [if_neg c1] at hF
    refine e_aload_n X dX11_back_9 rfl rfl ?_
    refine ge_W_town X wf_X11_21 dX11_back_10 ?_
    refine e_aload_n X dX11_back_13 rfl rfl ?_
    refine ge_W_imageTown X wf_X11_32 dX11_back_14 ?_
    obtain ⟨z2, h_z2, hF⟩ := bindT_out hF
    refine e_callVv X (σ1 := z2) [.ref (Γ.1 + 28)] [] (by rw [h_z2]; exact C_Town_copyAll (Cx_gok X) σ 3 28 ok_Town_3 ok_Town_28) gv_X11_101 yk_X9_copyAll rfl (ent_lt ok_Town_3.1) (ent_at ok_Town_3.1 _) (rfl : vCl[8]? = some (RX9, TX9, 20)) ⟨Nat.le_of_ble_eq_true rfl, Nat.le_of_ble_eq_true rfl⟩ ⟨Nat.le_of_ble_eq_true rfl, Nat.le_of_ble_eq_true rfl⟩ (Nat.le_of_ble_eq_true rfl) dX11_back_17 rfl ?_
    refine e_aload_n X dX11_back_20 rfl rfl ?_
    refine ge_W_law X wf_X11_28 dX11_back_21 ?_
    refine e_aload_n X dX11_back_24 rfl rfl ?_
    refine ge_W_imageLaw X wf_X11_35 dX11_back_25 ?_
    obtain ⟨z3, h_z3, hF⟩ := bindT_out hF
    refine e_callVv X (σ1 := z3) [.ref (Γ.1 + 45)] [] (by rw [h_z3]; exact C_Law_copyAll (Cx_gok X) z2 20 45 ok_Law_20 ok_Law_45) gv_X11_143 yk_X2_copyAll rfl (ent_lt ok_Law_20.1) (ent_at ok_Law_20.1 _) (rfl : vCl[2]? = some (RX2, TX2, 6)) ⟨Nat.le_of_ble_eq_true rfl, Nat.le_of_ble_eq_true rfl⟩ ⟨Nat.le_of_ble_eq_true rfl, Nat.le_of_ble_eq_true rfl⟩ (Nat.le_of_ble_eq_true rfl) dX11_back_28 rfl ?_
    refine e_aload_n X dX11_back_31 rfl rfl ?_
    obtain ⟨z4, h_z4, hF⟩ := bindT_out hF
    refine e_callVv X (σ1 := z4) [] [] (by rw [h_z4]; exact C_W_forgetActs (Cx_gok X) z3) gv_X11_131 yk_X11_forgetActs rfl (ent_lt (rfl : entTbl[0]? = some (0, 0))) (ent_at (rfl : entTbl[0]? = some (0, 0)) _) (rfl : vCl[10]? = some (RX11, TX11, 17)) ⟨Nat.le_of_ble_eq_true rfl, Nat.le_of_ble_eq_true rfl⟩ ⟨Nat.le_of_ble_eq_true rfl, Nat.le_of_ble_eq_true rfl⟩ (Nat.le_of_ble_eq_true rfl) dX11_back_32 rfl ?_
    refine e_iconst X 1 dX11_back_35 rfl ?_
    exact e_zret X hr rfl dX11_back_36 (Nat.le_of_ble_eq_true rfl) (Nat.le_of_ble_eq_true rfl) (by cases hF; exact ⟨rfl, rfl⟩)
  · skip
    rw [if_pos c1] at hF
    refine e_iconst X 0 dX11_back_7 rfl ?_
    exact e_zret X hr rfl dX11_back_8 (Nat.le_of_ble_eq_true rfl) (Nat.le_of_ble_eq_true rfl) (by cases hF; exact ⟨rfl, rfl⟩)
set_option maxRecDepth 20000 in
set_option maxHeartbeats 4000000 in
theorem C_W_seed (hG : Gok l Γ D s0) (σ : Mem) (v1 : Int32)  : CT l Γ D s0 yX11_seed cX11_seed 3 (some .int) (0) 0 0 (0) σ [.ref (Γ.1 + 0), .int v1] (PI (some (.int (F_W_seed σ v1).2)) (F_W_seed σ v1).1) := by
  generalize hF : F_W_seed σ v1 = out
  unfold F_W_seed at hF
  refine e_met (own := RX11) hG (by decide +kernel) rfl rfl (Nat.le_of_ble_eq_true rfl) ?_
  intro p e s m args below meth c X hr
  show E p l e _ s m args below meth c Γ D 0 0 _ σ 0 [some (.ref (Γ.1 + 0)), some (.int v1), none] []
  refine e_aload_n X dX11_seed_0 rfl rfl ?_
  refine ge_W_town X wf_X11_21 dX11_seed_1 ?_
  refine ge_Town_seed X ok_Town_3 wf_X11_351 dX11_seed_4 ?_
  obtain ⟨x1, h_x1, hF⟩ := bindT_out hF
  refine e_istore_n X h_x1 dX11_seed_7 rfl (by decide) ?_
  refine e_aload_n X dX11_seed_8 rfl rfl ?_
  refine ge_W_town X wf_X11_21 dX11_seed_9 ?_
  refine e_iload_n X dX11_seed_12 rfl rfl ?_
  obtain ⟨σ2, h_σ2, hF⟩ := bindT_out hF
  refine pu_Town_seed X ok_Town_3 wf_X11_351 dX11_seed_13 h_σ2 ?_
  refine e_iload_n X dX11_seed_16 rfl rfl ?_
  exact e_iret X hr dX11_seed_17 (Nat.le_of_ble_eq_true rfl) (Nat.le_of_ble_eq_true rfl) (by cases hF; exact ⟨rfl, rfl⟩)
set_option maxRecDepth 20000 in
set_option maxHeartbeats 4000000 in
theorem C_W_count (hG : Gok l Γ D s0) (σ : Mem) (v1 : Int32)  : CT l Γ D s0 yX11_count cX11_count 2 (some .int) (5) 0 0 (107) σ [.ref (Γ.1 + 0), .int v1] (PI (some (.int (F_W_count σ v1))) σ) := by
  generalize hF : F_W_count σ v1 = out
  unfold F_W_count at hF
  refine e_met (own := RX11) hG (by decide +kernel) rfl rfl (Nat.le_of_ble_eq_true rfl) ?_
  intro p e s m args below meth c X hr
  show E p l e _ s m args below meth c Γ D 0 0 _ σ 0 [some (.ref (Γ.1 + 0)), some (.int v1)] []
  refine e_iload_n X dX11_count_0 rfl rfl ?_
  -- switch
  by_cases c1 : v1 = 0
  · rw [if_pos c1] at hF
    refine e_tabIn X 76 0 c1 dX11_count_1 (by decide) (by decide) rfl (by decide) ?_
    refine e_aload_n X dX11_count_76 rfl rfl ?_
    refine ge_W_town X wf_X11_21 dX11_count_77 ?_
    refine ge_Town_people X ok_Town_3 wf_X11_339 dX11_count_80 ?_
    exact e_iret X hr dX11_count_83 (Nat.le_of_ble_eq_true rfl) (Nat.le_of_ble_eq_true rfl) (by cases hF; exact ⟨rfl, rfl⟩)
  · rw [if_neg c1] at hF
    by_cases c2 : v1 = 1
    · rw [if_pos c2] at hF
      refine e_tabIn X 84 1 c2 dX11_count_1 (by decide) (by decide) rfl (by decide) ?_
      refine e_aload_n X dX11_count_84 rfl rfl ?_
      refine ge_W_town X wf_X11_21 dX11_count_85 ?_
      refine ge_Town_matches X ok_Town_3 wf_X11_229 dX11_count_88 ?_
      exact e_iret X hr dX11_count_91 (Nat.le_of_ble_eq_true rfl) (Nat.le_of_ble_eq_true rfl) (by cases hF; exact ⟨rfl, rfl⟩)
    · rw [if_neg c2] at hF
      by_cases c3 : v1 = 2
      · rw [if_pos c3] at hF
        refine e_tabIn X 92 2 c3 dX11_count_1 (by decide) (by decide) rfl (by decide) ?_
        refine e_aload_n X dX11_count_92 rfl rfl ?_
        refine ge_W_town X wf_X11_21 dX11_count_93 ?_
        refine ge_Town_texts X ok_Town_3 wf_X11_123 dX11_count_96 ?_
        exact e_iret X hr dX11_count_99 (Nat.le_of_ble_eq_true rfl) (Nat.le_of_ble_eq_true rfl) (by cases hF; exact ⟨rfl, rfl⟩)
      · rw [if_neg c3] at hF
        by_cases c4 : v1 = 3
        · rw [if_pos c4] at hF
          refine e_tabIn X 100 3 c4 dX11_count_1 (by decide) (by decide) rfl (by decide) ?_
          refine e_aload_n X dX11_count_100 rfl rfl ?_
          refine ge_W_law X wf_X11_28 dX11_count_101 ?_
          refine ge_Law_lines X ok_Law_20 wf_X11_396 dX11_count_104 ?_
          exact e_iret X hr dX11_count_107 (Nat.le_of_ble_eq_true rfl) (Nat.le_of_ble_eq_true rfl) (by cases hF; exact ⟨rfl, rfl⟩)
        · rw [if_neg c4] at hF
          by_cases c5 : v1 = 4
          · rw [if_pos c5] at hF
            refine e_tabIn X 108 4 c5 dX11_count_1 (by decide) (by decide) rfl (by decide) ?_
            refine e_aload_n X dX11_count_108 rfl rfl ?_
            refine ge_W_town X wf_X11_21 dX11_count_109 ?_
            refine ge_Town_month X ok_Town_3 wf_X11_399 dX11_count_112 ?_
            exact e_iret X hr dX11_count_115 (Nat.le_of_ble_eq_true rfl) (Nat.le_of_ble_eq_true rfl) (by cases hF; exact ⟨rfl, rfl⟩)
          · rw [if_neg c5] at hF
            by_cases c6 : v1 = 5
            · rw [if_pos c6] at hF
              refine e_tabIn X 116 5 c6 dX11_count_1 (by decide) (by decide) rfl (by decide) ?_
              refine e_aload_n X dX11_count_116 rfl rfl ?_
              refine ge_W_town X wf_X11_21 dX11_count_117 ?_
              refine ge_Town_quarrel X ok_Town_3 wf_X11_402 dX11_count_120 ?_
              exact e_iret X hr dX11_count_123 (Nat.le_of_ble_eq_true rfl) (Nat.le_of_ble_eq_true rfl) (by cases hF; exact ⟨rfl, rfl⟩)
            · rw [if_neg c6] at hF
              by_cases c7 : v1 = 6
              · rw [if_pos c7] at hF
                refine e_tabIn X 124 6 c7 dX11_count_1 (by decide) (by decide) rfl (by decide) ?_
                refine e_aload_n X dX11_count_124 rfl rfl ?_
                refine ge_W_town X wf_X11_21 dX11_count_125 ?_
                refine ge_Town_bar X ok_Town_3 wf_X11_405 dX11_count_128 ?_
                exact e_iret X hr dX11_count_131 (Nat.le_of_ble_eq_true rfl) (Nat.le_of_ble_eq_true rfl) (by cases hF; exact ⟨rfl, rfl⟩)
              · rw [if_neg c7] at hF
                by_cases c8 : v1 = 7
                · rw [if_pos c8] at hF
                  refine e_tabIn X 132 7 c8 dX11_count_1 (by decide) (by decide) rfl (by decide) ?_
                  refine e_aload_n X dX11_count_132 rfl rfl ?_
                  refine ge_W_town X wf_X11_21 dX11_count_133 ?_
                  refine ge_Town_premium X ok_Town_3 wf_X11_408 dX11_count_136 ?_
                  exact e_iret X hr dX11_count_139 (Nat.le_of_ble_eq_true rfl) (Nat.le_of_ble_eq_true rfl) (by cases hF; exact ⟨rfl, rfl⟩)
                · rw [if_neg c8] at hF
                  by_cases c9 : v1 = 8
                  · rw [if_pos c9] at hF
                    refine e_tabIn X 140 8 c9 dX11_count_1 (by decide) (by decide) rfl (by decide) ?_
                    refine e_aload_n X dX11_count_140 rfl rfl ?_
                    refine ge_W_town X wf_X11_21 dX11_count_141 ?_
                    refine ge_Town_pays X ok_Town_3 wf_X11_411 dX11_count_144 ?_
                    exact e_iret X hr dX11_count_147 (Nat.le_of_ble_eq_true rfl) (Nat.le_of_ble_eq_true rfl) (by cases hF; exact ⟨rfl, rfl⟩)
                  · rw [if_neg c9] at hF
                    by_cases c10 : v1 = 9
                    · rw [if_pos c10] at hF
                      refine e_tabIn X 148 9 c10 dX11_count_1 (by decide) (by decide) rfl (by decide) ?_
                      refine e_aload_n X dX11_count_148 rfl rfl ?_
                      refine ge_W_town X wf_X11_21 dX11_count_149 ?_
                      refine e_callVi X (r := (F_Town_wealthOfAll σ 3)) (σ1 := σ) [] [] (C_Town_wealthOfAll (Cx_gok X) σ 3 ok_Town_3) gv_X11_414 yk_X9_wealthOfAll rfl (ent_lt ok_Town_3.1) (ent_at ok_Town_3.1 _) (rfl : vCl[8]? = some (RX9, TX9, 20)) ⟨Nat.le_of_ble_eq_true rfl, Nat.le_of_ble_eq_true rfl⟩ ⟨Nat.le_of_ble_eq_true rfl, Nat.le_of_ble_eq_true rfl⟩ (Nat.le_of_ble_eq_true rfl) dX11_count_152 rfl ?_
                      exact e_iret X hr dX11_count_155 (Nat.le_of_ble_eq_true rfl) (Nat.le_of_ble_eq_true rfl) (by cases hF; exact ⟨rfl, rfl⟩)
                    · rw [if_neg c10] at hF
                      by_cases c11 : v1 = 10
                      · rw [if_pos c11] at hF
                        refine e_tabIn X 156 10 c11 dX11_count_1 (by decide) (by decide) rfl (by decide) ?_
                        refine e_aload_n X dX11_count_156 rfl rfl ?_
                        refine ge_W_town X wf_X11_21 dX11_count_157 ?_
                        refine ge_Town_ruined X ok_Town_3 wf_X11_417 dX11_count_160 ?_
                        exact e_iret X hr dX11_count_163 (Nat.le_of_ble_eq_true rfl) (Nat.le_of_ble_eq_true rfl) (by cases hF; exact ⟨rfl, rfl⟩)
                      · rw [if_neg c11] at hF
                        by_cases c12 : v1 = 11
                        · rw [if_pos c12] at hF
                          refine e_tabIn X 164 11 c12 dX11_count_1 (by decide) (by decide) rfl (by decide) ?_
                          refine e_aload_n X dX11_count_164 rfl rfl ?_
                          refine ge_W_town X wf_X11_21 dX11_count_165 ?_
                          refine e_callVi X (r := (F_Town_wedPeople σ 3)) (σ1 := σ) [] [] (C_Town_wedPeople (Cx_gok X) σ 3 ok_Town_3) gv_X11_420 yk_X9_wedPeople rfl (ent_lt ok_Town_3.1) (ent_at ok_Town_3.1 _) (rfl : vCl[8]? = some (RX9, TX9, 20)) ⟨Nat.le_of_ble_eq_true rfl, Nat.le_of_ble_eq_true rfl⟩ ⟨Nat.le_of_ble_eq_true rfl, Nat.le_of_ble_eq_true rfl⟩ (Nat.le_of_ble_eq_true rfl) dX11_count_168 rfl ?_
                          exact e_iret X hr dX11_count_171 (Nat.le_of_ble_eq_true rfl) (Nat.le_of_ble_eq_true rfl) (by cases hF; exact ⟨rfl, rfl⟩)
                        · rw [if_neg c12] at hF
                          by_cases c13 : v1 = 12
                          · rw [if_pos c13] at hF
                            refine e_tabIn X 172 12 c13 dX11_count_1 (by decide) (by decide) rfl (by decide) ?_
                            refine e_aload_n X dX11_count_172 rfl rfl ?_
                            refine ge_W_town X wf_X11_21 dX11_count_173 ?_
                            refine ge_Town_claims X ok_Town_3 wf_X11_256 dX11_count_176 ?_
                            exact e_iret X hr dX11_count_179 (Nat.le_of_ble_eq_true rfl) (Nat.le_of_ble_eq_true rfl) (by cases hF; exact ⟨rfl, rfl⟩)
                          · rw [if_neg c13] at hF
                            by_cases c14 : v1 = 13
                            · rw [if_pos c14] at hF
                              refine e_tabIn X 180 13 c14 dX11_count_1 (by decide) (by decide) rfl (by decide) ?_
                              refine e_aload_n X dX11_count_180 rfl rfl ?_
                              refine ge_W_town X wf_X11_21 dX11_count_181 ?_
                              refine e_callVi X (r := (F_Town_logRows σ 3)) (σ1 := σ) [] [] (C_Town_logRows (Cx_gok X) σ 3 ok_Town_3) gv_X11_376 yk_X9_logRows rfl (ent_lt ok_Town_3.1) (ent_at ok_Town_3.1 _) (rfl : vCl[8]? = some (RX9, TX9, 20)) ⟨Nat.le_of_ble_eq_true rfl, Nat.le_of_ble_eq_true rfl⟩ ⟨Nat.le_of_ble_eq_true rfl, Nat.le_of_ble_eq_true rfl⟩ (Nat.le_of_ble_eq_true rfl) dX11_count_184 rfl ?_
                              exact e_iret X hr dX11_count_187 (Nat.le_of_ble_eq_true rfl) (Nat.le_of_ble_eq_true rfl) (by cases hF; exact ⟨rfl, rfl⟩)
                            · rw [if_neg c14] at hF
                              by_cases c15 : v1 = 14
                              · rw [if_pos c15] at hF
                                refine e_tabIn X 188 14 c15 dX11_count_1 (by decide) (by decide) rfl (by decide) ?_
                                refine e_aload_n X dX11_count_188 rfl rfl ?_
                                refine ge_W_acts X wf_X11_382 dX11_count_189 ?_
                                exact e_iret X hr dX11_count_192 (Nat.le_of_ble_eq_true rfl) (Nat.le_of_ble_eq_true rfl) (by cases hF; exact ⟨rfl, rfl⟩)
                              · rw [if_neg c15] at hF
                                refine e_tabOut X 193 (by have n_c1 : ¬ (v1 : Int32).toInt = 0 := lv_neT c1 rfl; have n_c2 : ¬ (v1 : Int32).toInt = 1 := lv_neT c2 rfl; have n_c3 : ¬ (v1 : Int32).toInt = 2 := lv_neT c3 rfl; have n_c4 : ¬ (v1 : Int32).toInt = 3 := lv_neT c4 rfl; have n_c5 : ¬ (v1 : Int32).toInt = 4 := lv_neT c5 rfl; have n_c6 : ¬ (v1 : Int32).toInt = 5 := lv_neT c6 rfl; have n_c7 : ¬ (v1 : Int32).toInt = 6 := lv_neT c7 rfl; have n_c8 : ¬ (v1 : Int32).toInt = 7 := lv_neT c8 rfl; have n_c9 : ¬ (v1 : Int32).toInt = 8 := lv_neT c9 rfl; have n_c10 : ¬ (v1 : Int32).toInt = 9 := lv_neT c10 rfl; have n_c11 : ¬ (v1 : Int32).toInt = 10 := lv_neT c11 rfl; have n_c12 : ¬ (v1 : Int32).toInt = 11 := lv_neT c12 rfl; have n_c13 : ¬ (v1 : Int32).toInt = 12 := lv_neT c13 rfl; have n_c14 : ¬ (v1 : Int32).toInt = 13 := lv_neT c14 rfl; have n_c15 : ¬ (v1 : Int32).toInt = 14 := lv_neT c15 rfl; omega) dX11_count_1 (by decide) ?_
                                refine e_iconst X (-1) dX11_count_193 rfl ?_
                                exact e_iret X hr dX11_count_194 (Nat.le_of_ble_eq_true rfl) (Nat.le_of_ble_eq_true rfl) (by cases hF; exact ⟨rfl, rfl⟩)
set_option maxRecDepth 20000 in
set_option maxHeartbeats 4000000 in
theorem C_W_falls (hG : Gok l Γ D s0) (σ : Mem)   {out : Mem × Int32} (hF : F_W_falls σ = some out) : CT l Γ D s0 yX11_falls cX11_falls 1 (some .int) (6) 0 0 (384) σ [.ref (Γ.1 + 0)] (PI (some (.int out.2)) out.1) := by
  unfold F_W_falls at hF
  refine e_met (own := RX11) hG (by decide +kernel) rfl rfl (Nat.le_of_ble_eq_true rfl) ?_
  intro p e s m args below meth c X hr
  show E p l e _ s m args below meth c Γ D 0 0 _ σ 0 [some (.ref (Γ.1 + 0))] []
  refine e_aload_n X dX11_falls_0 rfl rfl ?_
  refine ge_W_foresight X wf_X11_66 dX11_falls_1 ?_
  refine e_aload_n X dX11_falls_4 rfl rfl ?_
  refine ge_W_town X wf_X11_21 dX11_falls_5 ?_
  obtain ⟨z1, h_z1, hF⟩ := obind_out hF
  refine e_callVi X (r := z1.2) (σ1 := z1.1) [.ref (Γ.1 + 3)] [] (C_For_fallen (Cx_gok X) σ 3 ok_Town_3 h_z1) gv_X11_290 yk_X0_fallen rfl (ent_lt (rfl : entTbl[94]? = some (8, 0))) (ent_at (rfl : entTbl[94]? = some (8, 0)) _) (rfl : vCl[0]? = some (RX0, TX0, 4)) ⟨Nat.le_of_ble_eq_true rfl, Nat.le_of_ble_eq_true rfl⟩ ⟨Nat.le_of_ble_eq_true rfl, Nat.le_of_ble_eq_true rfl⟩ (Nat.le_of_ble_eq_true rfl) dX11_falls_8 rfl ?_
  exact e_iret X hr dX11_falls_11 (Nat.le_of_ble_eq_true rfl) (Nat.le_of_ble_eq_true rfl) (by cases hF; exact ⟨rfl, rfl⟩)
set_option maxRecDepth 20000 in
set_option maxHeartbeats 4000000 in
theorem C_W_rings (hG : Gok l Γ D s0) (σ : Mem)   {out : Int32} (hF : F_W_rings σ = some out) : CT l Γ D s0 yX11_rings cX11_rings 1 (some .int) (3) 0 0 (66) σ [.ref (Γ.1 + 0)] (PI (some (.int out)) σ) := by
  unfold F_W_rings at hF
  refine e_met (own := RX11) hG (by decide +kernel) rfl rfl (Nat.le_of_ble_eq_true rfl) ?_
  intro p e s m args below meth c X hr
  show E p l e _ s m args below meth c Γ D 0 0 _ σ 0 [some (.ref (Γ.1 + 0))] []
  refine e_aload_n X dX11_rings_0 rfl rfl ?_
  refine ge_W_town X wf_X11_21 dX11_rings_1 ?_
  obtain ⟨z1, h_z1, hF⟩ := obind_out hF
  refine e_callVi X (r := z1) (σ1 := σ) [] [] (C_Town_ringCount (Cx_gok X) σ 3 ok_Town_3 h_z1) gv_X11_303 yk_X9_ringCount rfl (ent_lt ok_Town_3.1) (ent_at ok_Town_3.1 _) (rfl : vCl[8]? = some (RX9, TX9, 20)) ⟨Nat.le_of_ble_eq_true rfl, Nat.le_of_ble_eq_true rfl⟩ ⟨Nat.le_of_ble_eq_true rfl, Nat.le_of_ble_eq_true rfl⟩ (Nat.le_of_ble_eq_true rfl) dX11_rings_4 rfl ?_
  exact e_iret X hr dX11_rings_7 (Nat.le_of_ble_eq_true rfl) (Nat.le_of_ble_eq_true rfl) (by cases hF; exact ⟨rfl, rfl⟩)
set_option maxRecDepth 20000 in
set_option maxHeartbeats 4000000 in
theorem C_W_lovers (hG : Gok l Γ D s0) (σ : Mem) (v1 : Int32)  : CT l Γ D s0 yX11_lovers cX11_lovers 2 (some .int) (6) 0 0 (137) σ [.ref (Γ.1 + 0), .int v1] (PI (some (.int (F_W_lovers σ v1))) σ) := by
  generalize hF : F_W_lovers σ v1 = out
  unfold F_W_lovers at hF
  refine e_met (own := RX11) hG (by decide +kernel) rfl rfl (Nat.le_of_ble_eq_true rfl) ?_
  intro p e s m args below meth c X hr
  show E p l e _ s m args below meth c Γ D 0 0 _ σ 0 [some (.ref (Γ.1 + 0)), some (.int v1)] []
  refine e_iload_n X dX11_lovers_0 rfl rfl ?_
  refine e_if_eq X 18 dX11_lovers_1 (by decide) (fun c1 => ?_) (fun c1 => ?_)
  · skip
    rw [if_pos c1] at hF
    refine e_aload_n X dX11_lovers_18 rfl rfl ?_
    refine ge_W_pairs X wf_X11_73 dX11_lovers_19 ?_
    refine e_aload_n X dX11_lovers_22 rfl rfl ?_
    refine ge_W_town X wf_X11_21 dX11_lovers_23 ?_
    refine e_callVi X (r := (F_Prs_loverPairs σ 3)) (σ1 := σ) [.ref (Γ.1 + 3)] [] (C_Prs_loverPairs (Cx_gok X) σ 3 ok_Town_3) gv_X11_315 yk_X5_loverPairs rfl (ent_lt (rfl : entTbl[117]? = some (9, 0))) (ent_at (rfl : entTbl[117]? = some (9, 0)) _) (rfl : vCl[5]? = some (RX5, TX5, 3)) ⟨Nat.le_of_ble_eq_true rfl, Nat.le_of_ble_eq_true rfl⟩ ⟨Nat.le_of_ble_eq_true rfl, Nat.le_of_ble_eq_true rfl⟩ (Nat.le_of_ble_eq_true rfl) dX11_lovers_26 rfl ?_
    exact e_iret X hr dX11_lovers_29 (Nat.le_of_ble_eq_true rfl) (Nat.le_of_ble_eq_true rfl) (by cases hF; exact ⟨rfl, rfl⟩)
  · skip
    rw [if_neg c1] at hF
    refine e_aload_n X dX11_lovers_4 rfl rfl ?_
    refine ge_W_pairs X wf_X11_73 dX11_lovers_5 ?_
    refine e_aload_n X dX11_lovers_8 rfl rfl ?_
    refine ge_W_town X wf_X11_21 dX11_lovers_9 ?_
    refine e_callVi X (r := (F_Prs_firstLovers σ 3)) (σ1 := σ) [.ref (Γ.1 + 3)] [] (C_Prs_firstLovers (Cx_gok X) σ 3 ok_Town_3) gv_X11_312 yk_X5_firstLovers rfl (ent_lt (rfl : entTbl[117]? = some (9, 0))) (ent_at (rfl : entTbl[117]? = some (9, 0)) _) (rfl : vCl[5]? = some (RX5, TX5, 3)) ⟨Nat.le_of_ble_eq_true rfl, Nat.le_of_ble_eq_true rfl⟩ ⟨Nat.le_of_ble_eq_true rfl, Nat.le_of_ble_eq_true rfl⟩ (Nat.le_of_ble_eq_true rfl) dX11_lovers_12 rfl ?_
    refine e_goto X 29 dX11_lovers_15 (by decide) ?_
    exact e_iret X hr dX11_lovers_29 (Nat.le_of_ble_eq_true rfl) (Nat.le_of_ble_eq_true rfl) (by cases hF; exact ⟨rfl, rfl⟩)
set_option maxRecDepth 20000 in
set_option maxHeartbeats 4000000 in
theorem C_W_weddings (hG : Gok l Γ D s0) (σ : Mem)   {out : Int32} (hF : F_W_weddings σ = some out) : CT l Γ D s0 yX11_weddings cX11_weddings 1 (some .int) (24) 0 0 (532) σ [.ref (Γ.1 + 0)] (PI (some (.int out)) σ) := by
  unfold F_W_weddings at hF
  refine e_met (own := RX11) hG (by decide +kernel) rfl rfl (Nat.le_of_ble_eq_true rfl) ?_
  intro p e s m args below meth c X hr
  show E p l e _ s m args below meth c Γ D 0 0 _ σ 0 [some (.ref (Γ.1 + 0))] []
  refine e_aload_n X dX11_weddings_0 rfl rfl ?_
  refine ge_W_pairs X wf_X11_73 dX11_weddings_1 ?_
  refine e_aload_n X dX11_weddings_4 rfl rfl ?_
  refine ge_W_town X wf_X11_21 dX11_weddings_5 ?_
  obtain ⟨z1, h_z1, hF⟩ := obind_out hF
  refine e_callVi X (r := z1) (σ1 := σ) [.ref (Γ.1 + 3)] [] (C_Prs_mostWeddings (Cx_gok X) σ 3 ok_Town_3 h_z1) gv_X11_324 yk_X5_mostWeddings rfl (ent_lt (rfl : entTbl[117]? = some (9, 0))) (ent_at (rfl : entTbl[117]? = some (9, 0)) _) (rfl : vCl[5]? = some (RX5, TX5, 3)) ⟨Nat.le_of_ble_eq_true rfl, Nat.le_of_ble_eq_true rfl⟩ ⟨Nat.le_of_ble_eq_true rfl, Nat.le_of_ble_eq_true rfl⟩ (Nat.le_of_ble_eq_true rfl) dX11_weddings_8 rfl ?_
  exact e_iret X hr dX11_weddings_11 (Nat.le_of_ble_eq_true rfl) (Nat.le_of_ble_eq_true rfl) (by cases hF; exact ⟨rfl, rfl⟩)
set_option maxRecDepth 20000 in
set_option maxHeartbeats 4000000 in
theorem C_W_richest (hG : Gok l Γ D s0) (σ : Mem)   : CT l Γ D s0 yX11_richest cX11_richest 1 (some .int) (2) 0 0 (43) σ [.ref (Γ.1 + 0)] (PI (some (.int (F_W_richest σ))) σ) := by
  generalize hF : F_W_richest σ = out
  unfold F_W_richest at hF
  refine e_met (own := RX11) hG (by decide +kernel) rfl rfl (Nat.le_of_ble_eq_true rfl) ?_
  intro p e s m args below meth c X hr
  show E p l e _ s m args below meth c Γ D 0 0 _ σ 0 [some (.ref (Γ.1 + 0))] []
  refine e_aload_n X dX11_richest_0 rfl rfl ?_
  refine ge_W_town X wf_X11_21 dX11_richest_1 ?_
  refine e_callVi X (r := (F_Town_richestPerson σ 3)) (σ1 := σ) [] [] (C_Town_richestPerson (Cx_gok X) σ 3 ok_Town_3) gv_X11_348 yk_X9_richestPerson rfl (ent_lt ok_Town_3.1) (ent_at ok_Town_3.1 _) (rfl : vCl[8]? = some (RX9, TX9, 20)) ⟨Nat.le_of_ble_eq_true rfl, Nat.le_of_ble_eq_true rfl⟩ ⟨Nat.le_of_ble_eq_true rfl, Nat.le_of_ble_eq_true rfl⟩ (Nat.le_of_ble_eq_true rfl) dX11_richest_4 rfl ?_
  exact e_iret X hr dX11_richest_7 (Nat.le_of_ble_eq_true rfl) (Nat.le_of_ble_eq_true rfl) (by cases hF; exact ⟨rfl, rfl⟩)
end PART

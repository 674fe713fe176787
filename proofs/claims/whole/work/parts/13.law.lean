section PART
variable {p : Program} {l : Launch} {e : Env} {R : Room} {s : State} {m : MethodId} {args : Array Value} {below : List Frame} {meth : Method} {c : Code} {Γ : Gm} {D : va_G} {s0 : State} {cells slots : Nat} {Q : State → Prop} {own : String} {cc : ByteArray} {nL : Nat} {σ : Mem} {pc : Nat} {lv : List (Option Value)} {st : List Value} {Pst : Option Value → Mem → Prop}
def F_Law_isPart (σ : Mem) (v0 : Int32) : Int32 := (if v0 < 1000 then 0 else (if 1005 < v0 then 0 else 1))
def F_Law_joined (σ : Mem) (v0 : Int32) (v1 : Int32) (v2 : Int32) : Int32 := (if v0 = 1008 then (v1 + v2) else (if v0 = 1009 then (if v1 < v2 then 1 else 0) else (if v0 = 1010 then (if v2 < v1 then 1 else 0) else (if v0 = 1011 then (v1 &&& v2) else (v1 ||| v2)))))
def F_Law_clearLines (σ : Mem) (w : Nat) : Mem := bindT (up σ w 5 0) fun σ1 => bindT (up σ1 w 4 0) fun σ2 => σ2
def F_Law_addCode (σ : Mem) (w : Nat) (v1 : Int32) : Mem := (if (σ w 4) < 0 then σ else (if (σ w 4) < 400 then bindT (up σ (w + 5) ((σ w 4)).toNatClampNeg v1) fun σ3 => bindT (up σ3 w 4 (((σ3 w 4) + 1))) fun σ4 => σ4 else σ))
def F_Law_addLine (σ : Mem) (w : Nat) (v1 : Int32) : Mem := bindT (F_Row_put σ (w + 1) 12 ((σ w 5)) v1) fun z1 => bindT (F_Row_put z1 (w + 3) 12 ((z1 w 5)) ((z1 w 4))) fun z2 => bindT (up z2 w 5 (((z2 w 5) + 1))) fun σ3 => σ3
def F_Law_copyAll (σ : Mem) (w : Nat) (w1 : Nat) : Mem := bindT (up σ w 5 ((σ w1 5))) fun σ1 => bindT (up σ1 w 4 ((σ1 w1 4))) fun σ2 => bindT (F_Row_copyAll σ2 (w + 1) 12 (w1 + 1) 12) fun z3 => bindT (F_Row_copyAll z3 (w + 3) 12 (w1 + 3) 12) fun z4 => bindT (cpM z4 (w1 + 5) (w + 5) ((if 400 < 400 then 400 else 400) : Int32).toNatClampNeg) fun σ5 => σ5
set_option maxRecDepth 20000 in
set_option maxHeartbeats 4000000 in
theorem C_Law_isPart (hG : Gok l Γ D s0) (σ : Mem) (v0 : Int32)  : CT l Γ D s0 yX2_isPart cX2_isPart 1 (some .boolean) (0) 0 0 (0) σ [.int v0] (PI (some (.int (F_Law_isPart σ v0))) σ) := by
  generalize hF : F_Law_isPart σ v0 = out
  unfold F_Law_isPart at hF
  refine e_met (own := RX2) hG (by decide +kernel) rfl rfl (Nat.le_of_ble_eq_true rfl) ?_
  intro p e s m args below meth c X hr
  show E p l e _ s m args below meth c Γ D 0 0 _ σ 0 [some (.int v0)] []
  refine e_iload_n X dX2_isPart_0 rfl rfl ?_
  refine e_sipush X 1000 dX2_isPart_1 rfl ?_
  refine e_icmp_lt X 18 dX2_isPart_4 (by decide) (fun c1 => ?_) (fun c1 => ?_)
  · skip
    rw [if_pos c1] at hF
    refine e_iconst X 0 dX2_isPart_18 rfl ?_
    exact e_zret X hr rfl dX2_isPart_19 (Nat.le_of_ble_eq_true rfl) (Nat.le_of_ble_eq_true rfl) (by cases hF; exact ⟨rfl, rfl⟩)
  · skip
    rw [if_neg c1] at hF
    refine e_iload_n X dX2_isPart_7 rfl rfl ?_
    refine e_sipush X 1005 dX2_isPart_8 rfl ?_
    refine e_icmp_gt X 18 dX2_isPart_11 (by decide) (fun c2 => ?_) (fun c2 => ?_)
    · skip
      rw [if_pos c2] at hF
      refine e_iconst X 0 dX2_isPart_18 rfl ?_
      exact e_zret X hr rfl dX2_isPart_19 (Nat.le_of_ble_eq_true rfl) (Nat.le_of_ble_eq_true rfl) (by cases hF; exact ⟨rfl, rfl⟩)
    · skip
      rw [if_neg c2] at hF
      refine e_iconst X 1 dX2_isPart_14 rfl ?_
      refine e_goto X 19 dX2_isPart_15 (by decide) ?_
      exact e_zret X hr rfl dX2_isPart_19 (Nat.le_of_ble_eq_true rfl) (Nat.le_of_ble_eq_true rfl) (by cases hF; exact ⟨rfl, rfl⟩)
set_option maxRecDepth 20000 in
set_option maxHeartbeats 4000000 in
theorem C_Law_joined (hG : Gok l Γ D s0) (σ : Mem) (v0 : Int32) (v1 : Int32) (v2 : Int32)  : CT l Γ D s0 yX2_joined cX2_joined 3 (some .int) (0) 0 0 (0) σ [.int v0, .int v1, .int v2] (PI (some (.int (F_Law_joined σ v0 v1 v2))) σ) := by
  generalize hF : F_Law_joined σ v0 v1 v2 = out
  unfold F_Law_joined at hF
  refine e_met (own := RX2) hG (by decide +kernel) rfl rfl (Nat.le_of_ble_eq_true rfl) ?_
  intro p e s m args below meth c X hr
  show E p l e _ s m args below meth c Γ D 0 0 _ σ 0 [some (.int v0), some (.int v1), some (.int v2)] []
  refine e_iload_n X dX2_joined_0 rfl rfl ?_
  -- switch
  by_cases c1 : v0 = 1008
  · rw [if_pos c1] at hF
    refine e_tabIn X 32 1008 c1 dX2_joined_1 (by decide) (by decide) rfl (by decide) ?_
    refine e_iload_n X dX2_joined_32 rfl rfl ?_
    refine e_iload_n X dX2_joined_33 rfl rfl ?_
    refine e_iadd X dX2_joined_34 ?_
    exact e_iret X hr dX2_joined_35 (Nat.le_of_ble_eq_true rfl) (Nat.le_of_ble_eq_true rfl) (by cases hF; exact ⟨rfl, rfl⟩)
  · rw [if_neg c1] at hF
    by_cases c2 : v0 = 1009
    · rw [if_pos c2] at hF
      refine e_tabIn X 36 1009 c2 dX2_joined_1 (by decide) (by decide) rfl (by decide) ?_
      refine e_iload_n X dX2_joined_36 rfl rfl ?_
      refine e_iload_n X dX2_joined_37 rfl rfl ?_
      refine e_icmp_ge X 45 dX2_joined_38 (by decide) (fun c3 => ?_) (fun c3 => ?_)
      · skip
        rw [if_neg c3] at hF
        refine e_iconst X 0 dX2_joined_45 rfl ?_
        exact e_iret X hr dX2_joined_46 (Nat.le_of_ble_eq_true rfl) (Nat.le_of_ble_eq_true rfl) (by cases hF; exact ⟨rfl, rfl⟩)
      · skip
        rw [if_pos c3] at hF
        refine e_iconst X 1 dX2_joined_41 rfl ?_
        refine e_goto X 46 dX2_joined_42 (by decide) ?_
        exact e_iret X hr dX2_joined_46 (Nat.le_of_ble_eq_true rfl) (Nat.le_of_ble_eq_true rfl) (by cases hF; exact ⟨rfl, rfl⟩)
    · rw [if_neg c2] at hF
      by_cases c4 : v0 = 1010
      · rw [if_pos c4] at hF
        refine e_tabIn X 47 1010 c4 dX2_joined_1 (by decide) (by decide) rfl (by decide) ?_
        refine e_iload_n X dX2_joined_47 rfl rfl ?_
        refine e_iload_n X dX2_joined_48 rfl rfl ?_
        refine e_icmp_le X 56 dX2_joined_49 (by decide) (fun c5 => ?_) (fun c5 => ?_)
        · skip
          rw [if_neg c5] at hF
          refine e_iconst X 0 dX2_joined_56 rfl ?_
          exact e_iret X hr dX2_joined_57 (Nat.le_of_ble_eq_true rfl) (Nat.le_of_ble_eq_true rfl) (by cases hF; exact ⟨rfl, rfl⟩)
        · skip
          rw [if_pos c5] at hF
          refine e_iconst X 1 dX2_joined_52 rfl ?_
          refine e_goto X 57 dX2_joined_53 (by decide) ?_
          exact e_iret X hr dX2_joined_57 (Nat.le_of_ble_eq_true rfl) (Nat.le_of_ble_eq_true rfl) (by cases hF; exact ⟨rfl, rfl⟩)
      · rw [if_neg c4] at hF
        by_cases c6 : v0 = 1011
        · rw [if_pos c6] at hF
          refine e_tabIn X 58 1011 c6 dX2_joined_1 (by decide) (by decide) rfl (by decide) ?_
          refine e_iload_n X dX2_joined_58 rfl rfl ?_
          refine e_iload_n X dX2_joined_59 rfl rfl ?_
          refine e_iand X dX2_joined_60 ?_
          exact e_iret X hr dX2_joined_61 (Nat.le_of_ble_eq_true rfl) (Nat.le_of_ble_eq_true rfl) (by cases hF; exact ⟨rfl, rfl⟩)
        · rw [if_neg c6] at hF
          refine e_tabOut X 62 (by have n_c1 : ¬ (v0 : Int32).toInt = 1008 := lv_neT c1 rfl; have n_c2 : ¬ (v0 : Int32).toInt = 1009 := lv_neT c2 rfl; have n_c4 : ¬ (v0 : Int32).toInt = 1010 := lv_neT c4 rfl; have n_c6 : ¬ (v0 : Int32).toInt = 1011 := lv_neT c6 rfl; omega) dX2_joined_1 (by decide) ?_
          refine e_iload_n X dX2_joined_62 rfl rfl ?_
          refine e_iload_n X dX2_joined_63 rfl rfl ?_
          refine e_ior X dX2_joined_64 ?_
          exact e_iret X hr dX2_joined_65 (Nat.le_of_ble_eq_true rfl) (Nat.le_of_ble_eq_true rfl) (by cases hF; exact ⟨rfl, rfl⟩)
set_option maxRecDepth 20000 in
set_option maxHeartbeats 4000000 in
theorem C_Law_clearLines (hG : Gok l Γ D s0) (σ : Mem) (w : Nat) (gw : isLaw w) : CT l Γ D s0 yX2_clearLines cX2_clearLines 1 none (0) 0 0 (0) σ [.ref (Γ.1 + w)] (PI none (F_Law_clearLines σ w)) := by
  generalize hF : F_Law_clearLines σ w = out
  unfold F_Law_clearLines at hF
  refine e_met (own := RX2) hG (by decide +kernel) rfl rfl (Nat.le_of_ble_eq_true rfl) ?_
  intro p e s m args below meth c X hr
  show E p l e _ s m args below meth c Γ D 0 0 _ σ 0 [some (.ref (Γ.1 + w))] []
  refine e_aload_n X dX2_clearLines_0 rfl rfl ?_
  refine e_iconst X 0 dX2_clearLines_1 rfl ?_
  obtain ⟨σ1, h_σ1, hF⟩ := bindT_out hF
  refine pu_Law_lines X gw wf_X2_30 dX2_clearLines_2 h_σ1 ?_
  refine e_aload_n X dX2_clearLines_5 rfl rfl ?_
  refine e_iconst X 0 dX2_clearLines_6 rfl ?_
  obtain ⟨σ2, h_σ2, hF⟩ := bindT_out hF
  refine pu_Law_codeCount X gw wf_X2_34 dX2_clearLines_7 h_σ2 ?_
  exact e_vret X hr dX2_clearLines_10 (Nat.le_of_ble_eq_true rfl) (Nat.le_of_ble_eq_true rfl) (by cases hF; exact ⟨rfl, rfl⟩)
set_option maxRecDepth 20000 in
set_option maxHeartbeats 4000000 in
theorem C_Law_addCode (hG : Gok l Γ D s0) (σ : Mem) (w : Nat) (v1 : Int32) (gw : isLaw w) : CT l Γ D s0 yX2_addCode cX2_addCode 2 none (0) 0 0 (0) σ [.ref (Γ.1 + w), .int v1] (PI none (F_Law_addCode σ w v1)) := by
  generalize hF : F_Law_addCode σ w v1 = out
  unfold F_Law_addCode at hF
  refine e_met (own := RX2) hG (by decide +kernel) rfl rfl (Nat.le_of_ble_eq_true rfl) ?_
  intro p e s m args below meth c X hr
  show E p l e _ s m args below meth c Γ D 0 0 _ σ 0 [some (.ref (Γ.1 + w)), some (.int v1)] []
  refine e_aload_n X dX2_addCode_0 rfl rfl ?_
  refine ge_Law_codeCount X gw wf_X2_34 dX2_addCode_1 ?_
  refine e_if_lt X 39 dX2_addCode_4 (by decide) (fun c1 => ?_) (fun c1 => ?_)
  · skip
    rw [if_pos c1] at hF
    exact e_vret X hr dX2_addCode_39 (Nat.le_of_ble_eq_true rfl) (Nat.le_of_ble_eq_true rfl) (by cases hF; exact ⟨rfl, rfl⟩)
  · skip
    rw [if_neg c1] at hF
    refine e_aload_n X dX2_addCode_7 rfl rfl ?_
    refine ge_Law_codeCount X gw wf_X2_34 dX2_addCode_8 ?_
    refine e_aload_n X dX2_addCode_11 rfl rfl ?_
    refine ge_Law_codes X gw wf_X2_23 dX2_addCode_12 ?_
    refine e_alen X 400 gw.2.2.2.1 rfl dX2_addCode_15 ?_
    refine e_icmp_ge X 39 dX2_addCode_16 (by decide) (fun c2 => ?_) (fun c2 => ?_)
    · skip
      rw [if_neg c2] at hF
      exact e_vret X hr dX2_addCode_39 (Nat.le_of_ble_eq_true rfl) (Nat.le_of_ble_eq_true rfl) (by cases hF; exact ⟨rfl, rfl⟩)
    · skip
      rw [if_pos c2] at hF
      refine e_aload_n X dX2_addCode_19 rfl rfl ?_
      refine ge_Law_codes X gw wf_X2_23 dX2_addCode_20 ?_
      refine e_aload_n X dX2_addCode_23 rfl rfl ?_
      refine ge_Law_codeCount X gw wf_X2_34 dX2_addCode_24 ?_
      refine e_iload_n X dX2_addCode_27 rfl rfl ?_
      obtain ⟨σ3, h_σ3, hF⟩ := bindT_out hF
      refine e_iast X (j := ((σ w 4)).toNatClampNeg) rfl gw.2.2.2.1 (vp_gc (by decide) c1 c2) rfl dX2_addCode_28 h_σ3 ?_
      refine e_aload_n X dX2_addCode_29 rfl rfl ?_
      refine e_dup X dX2_addCode_30 rfl ?_
      refine ge_Law_codeCount X gw wf_X2_34 dX2_addCode_31 ?_
      refine e_iconst X 1 dX2_addCode_34 rfl ?_
      refine e_iadd X dX2_addCode_35 ?_
      obtain ⟨σ4, h_σ4, hF⟩ := bindT_out hF
      refine pu_Law_codeCount X gw wf_X2_34 dX2_addCode_36 h_σ4 ?_
      exact e_vret X hr dX2_addCode_39 (Nat.le_of_ble_eq_true rfl) (Nat.le_of_ble_eq_true rfl) (by cases hF; exact ⟨rfl, rfl⟩)
set_option maxRecDepth 20000 in
set_option maxHeartbeats 4000000 in
theorem C_Law_addLine (hG : Gok l Γ D s0) (σ : Mem) (w : Nat) (v1 : Int32) (gw : isLaw w) : CT l Γ D s0 yX2_addLine cX2_addLine 2 none (1) 0 0 (22) σ [.ref (Γ.1 + w), .int v1] (PI none (F_Law_addLine σ w v1)) := by
  generalize hF : F_Law_addLine σ w v1 = out
  unfold F_Law_addLine at hF
  refine e_met (own := RX2) hG (by decide +kernel) rfl rfl (Nat.le_of_ble_eq_true rfl) ?_
  intro p e s m args below meth c X hr
  show E p l e _ s m args below meth c Γ D 0 0 _ σ 0 [some (.ref (Γ.1 + w)), some (.int v1)] []
  refine e_aload_n X dX2_addLine_0 rfl rfl ?_
  refine ge_Law_amounts X gw wf_X2_14 dX2_addLine_1 ?_
  refine e_aload_n X dX2_addLine_4 rfl rfl ?_
  refine ge_Law_lines X gw wf_X2_30 dX2_addLine_5 ?_
  refine e_iload_n X dX2_addLine_8 rfl rfl ?_
  obtain ⟨z1, h_z1, hF⟩ := bindT_out hF
  refine e_callVv X (σ1 := z1) [.int ((σ w 5)), .int v1] [] (by rw [h_z1]; exact C_Row_put (Cx_gok X) σ (w + 1) 12 ((σ w 5)) v1 gw.2.1) gv_X2_37 yk_X6_put rfl (ent_lt gw.2.1.1) (ent_at gw.2.1.1 _) (rfl : vCl[6]? = some (RX6, TX6, 1)) ⟨Nat.le_of_ble_eq_true rfl, Nat.le_of_ble_eq_true rfl⟩ ⟨Nat.le_of_ble_eq_true rfl, Nat.le_of_ble_eq_true rfl⟩ (Nat.le_of_ble_eq_true rfl) dX2_addLine_9 rfl ?_
  refine e_aload_n X dX2_addLine_12 rfl rfl ?_
  refine ge_Law_ends X gw wf_X2_20 dX2_addLine_13 ?_
  refine e_aload_n X dX2_addLine_16 rfl rfl ?_
  refine ge_Law_lines X gw wf_X2_30 dX2_addLine_17 ?_
  refine e_aload_n X dX2_addLine_20 rfl rfl ?_
  refine ge_Law_codeCount X gw wf_X2_34 dX2_addLine_21 ?_
  obtain ⟨z2, h_z2, hF⟩ := bindT_out hF
  refine e_callVv X (σ1 := z2) [.int ((z1 w 5)), .int ((z1 w 4))] [] (by rw [h_z2]; exact C_Row_put (Cx_gok X) z1 (w + 3) 12 ((z1 w 5)) ((z1 w 4)) gw.2.2.1) gv_X2_37 yk_X6_put rfl (ent_lt gw.2.2.1.1) (ent_at gw.2.2.1.1 _) (rfl : vCl[6]? = some (RX6, TX6, 1)) ⟨Nat.le_of_ble_eq_true rfl, Nat.le_of_ble_eq_true rfl⟩ ⟨Nat.le_of_ble_eq_true rfl, Nat.le_of_ble_eq_true rfl⟩ (Nat.le_of_ble_eq_true rfl) dX2_addLine_24 rfl ?_
  refine e_aload_n X dX2_addLine_27 rfl rfl ?_
  refine e_dup X dX2_addLine_28 rfl ?_
  refine ge_Law_lines X gw wf_X2_30 dX2_addLine_29 ?_
  refine e_iconst X 1 dX2_addLine_32 rfl ?_
  refine e_iadd X dX2_addLine_33 ?_
  obtain ⟨σ3, h_σ3, hF⟩ := bindT_out hF
  refine pu_Law_lines X gw wf_X2_30 dX2_addLine_34 h_σ3 ?_
  exact e_vret X hr dX2_addLine_37 (Nat.le_of_ble_eq_true rfl) (Nat.le_of_ble_eq_true rfl) (by cases hF; exact ⟨rfl, rfl⟩)
set_option maxRecDepth 20000 in
set_option maxHeartbeats 4000000 in
theorem C_Law_copyAll (hG : Gok l Γ D s0) (σ : Mem) (w : Nat) (w1 : Nat) (gw : isLaw w) (gw1 : isLaw w1) : CT l Γ D s0 yX2_copyAll cX2_copyAll 2 none (2) 0 0 (321) σ [.ref (Γ.1 + w), .ref (Γ.1 + w1)] (PI none (F_Law_copyAll σ w w1)) := by
  generalize hF : F_Law_copyAll σ w w1 = out
  unfold F_Law_copyAll at hF
  refine e_met (own := RX2) hG (by decide +kernel) rfl rfl (Nat.le_of_ble_eq_true rfl) ?_
  intro p e s m args below meth c X hr
  show E p l e _ s m args below meth c Γ D 0 0 _ σ 0 [some (.ref (Γ.1 + w)), some (.ref (Γ.1 + w1))] []
  refine e_aload_n X dX2_copyAll_0 rfl rfl ?_
  refine e_aload_n X dX2_copyAll_1 rfl rfl ?_
  refine ge_Law_lines X gw1 wf_X2_30 dX2_copyAll_2 ?_
  obtain ⟨σ1, h_σ1, hF⟩ := bindT_out hF
  refine pu_Law_lines X gw wf_X2_30 dX2_copyAll_5 h_σ1 ?_
  refine e_aload_n X dX2_copyAll_8 rfl rfl ?_
  refine e_aload_n X dX2_copyAll_9 rfl rfl ?_
  refine ge_Law_codeCount X gw1 wf_X2_34 dX2_copyAll_10 ?_
  obtain ⟨σ2, h_σ2, hF⟩ := bindT_out hF
  refine pu_Law_codeCount X gw wf_X2_34 dX2_copyAll_13 h_σ2 ?_
  refine e_aload_n X dX2_copyAll_16 rfl rfl ?_
  refine ge_Law_amounts X gw wf_X2_14 dX2_copyAll_17 ?_
  refine e_aload_n X dX2_copyAll_20 rfl rfl ?_
  refine ge_Law_amounts X gw1 wf_X2_14 dX2_copyAll_21 ?_
  obtain ⟨z3, h_z3, hF⟩ := bindT_out hF
  refine e_callVv X (σ1 := z3) [.ref (Γ.1 + (w1 + 1))] [] (by rw [h_z3]; exact C_Row_copyAll (Cx_gok X) σ2 (w + 1) 12 (w1 + 1) 12 gw.2.1 gw1.2.1) gv_X2_41 yk_X6_copyAll rfl (ent_lt gw.2.1.1) (ent_at gw.2.1.1 _) (rfl : vCl[6]? = some (RX6, TX6, 1)) ⟨Nat.le_of_ble_eq_true rfl, Nat.le_of_ble_eq_true rfl⟩ ⟨Nat.le_of_ble_eq_true rfl, Nat.le_of_ble_eq_true rfl⟩ (Nat.le_of_ble_eq_true rfl) dX2_copyAll_24 rfl ?_
  refine e_aload_n X dX2_copyAll_27 rfl rfl ?_
  refine ge_Law_ends X gw wf_X2_20 dX2_copyAll_28 ?_
  refine e_aload_n X dX2_copyAll_31 rfl rfl ?_
  refine ge_Law_ends X gw1 wf_X2_20 dX2_copyAll_32 ?_
  obtain ⟨z4, h_z4, hF⟩ := bindT_out hF
  refine e_callVv X (σ1 := z4) [.ref (Γ.1 + (w1 + 3))] [] (by rw [h_z4]; exact C_Row_copyAll (Cx_gok X) z3 (w + 3) 12 (w1 + 3) 12 gw.2.2.1 gw1.2.2.1) gv_X2_41 yk_X6_copyAll rfl (ent_lt gw.2.2.1.1) (ent_at gw.2.2.1.1 _) (rfl : vCl[6]? = some (RX6, TX6, 1)) ⟨Nat.le_of_ble_eq_true rfl, Nat.le_of_ble_eq_true rfl⟩ ⟨Nat.le_of_ble_eq_true rfl, Nat.le_of_ble_eq_true rfl⟩ (Nat.le_of_ble_eq_true rfl) dX2_copyAll_35 rfl ?_
  refine e_aload_n X dX2_copyAll_38 rfl rfl ?_
  refine ge_Law_codes X gw1 wf_X2_23 dX2_copyAll_39 ?_
  refine e_iconst X 0 dX2_copyAll_42 rfl ?_
  refine e_aload_n X dX2_copyAll_43 rfl rfl ?_
  refine ge_Law_codes X gw wf_X2_23 dX2_copyAll_44 ?_
  refine e_iconst X 0 dX2_copyAll_47 rfl ?_
  refine e_aload_n X dX2_copyAll_48 rfl rfl ?_
  refine ge_Law_codes X gw wf_X2_23 dX2_copyAll_49 ?_
  refine e_alen X 400 gw.2.2.2.1 rfl dX2_copyAll_52 ?_
  refine e_aload_n X dX2_copyAll_53 rfl rfl ?_
  refine ge_Law_codes X gw1 wf_X2_23 dX2_copyAll_54 ?_
  refine e_alen X 400 gw1.2.2.2.1 rfl dX2_copyAll_57 ?_
  refine e_mmin X wMl_X2_45 wMs_min wMi wMc_min (Nat.le_of_ble_eq_true rfl) (Nat.le_of_ble_eq_true rfl) (Nat.le_of_ble_eq_true rfl) (Nat.le_of_ble_eq_true rfl) dX2_copyAll_58 ?_
  obtain ⟨σ5, h_σ5, hF⟩ := bindT_out hF
  refine e_copy X gw1.2.2.2.1 gw.2.2.2.1 wAl_X2_51 wAn wAs wAi (by decide +kernel) (Nat.le_of_ble_eq_true rfl) (Nat.le_of_ble_eq_true rfl) dX2_copyAll_61 h_σ5 ?_
  exact e_vret X hr dX2_copyAll_64 (Nat.le_of_ble_eq_true rfl) (Nat.le_of_ble_eq_true rfl) (by cases hF; exact ⟨rfl, rfl⟩)
end PART

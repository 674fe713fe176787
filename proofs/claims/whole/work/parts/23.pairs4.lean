section PART
variable {p : Program} {l : Launch} {e : Env} {R : Room} {s : State} {m : MethodId} {args : Array Value} {below : List Frame} {meth : Method} {c : Code} {Γ : Gm} {D : va_G} {s0 : State} {cells slots : Nat} {Q : State → Prop} {own : String} {cc : ByteArray} {nL : Nat} {σ : Mem} {pc : Nat} {lv : List (Option Value)} {st : List Value} {Pst : Option Value → Mem → Prop}
def F_Prs_steadyWays (σ : Mem) (t1 : Nat) : Option (Mem × Int32) := bindT (up σ 117 2 0) fun σ1 => bindT (F_Row_putAll σ1 118 8 ((-1))) fun z2 => (if ((z2 t1 8) - (z2 t1 8) / 2 * 2) = 1 then obind (F_Prs_pairUp z2 t1 1 0) fun z5 => some ((z5, (z5 117 2))) else obind (F_Prs_pairUp z2 t1 0 0) fun z4 => some ((z4, (z4 117 2))))
def F_Prs_steadyPartner (σ : Mem) (t1 : Nat) (v2 : Int32) : Option (Mem × Int32) := obind (F_Prs_steadyWays σ t1) fun z1 => (if z1.2 = 0 then some ((z1.1, (-1))) else some ((z1.1, (F_Row_at z1.1 120 8 v2))))
def F_Prs_mostWeddings_4_b (σ : Mem) (t1 : Nat) (v3 : Int32) (v2 : Int32) : Int32 := (if (F_Town_isWed σ t1 v3) = 0 then bindT ((v2 ||| ((1 : Int32) <<< ((v3 : Int32) &&& 31)))) fun x3 => x3 else v2)
def F_Prs_mostWeddings (σ : Mem) (t1 : Nat) : Option (Int32) := bindT (forS (fun i s => F_Prs_mostWeddings_4_b σ t1 i s) (cnt 0 ((σ t1 8))) 0 0) fun z5 => obind (F_Prs_mostPairs σ t1 z5 0) fun z6 => some z6
set_option maxRecDepth 20000 in
set_option maxHeartbeats 4000000 in
theorem C_Prs_steadyWays (hG : Gok l Γ D s0) (σ : Mem) (t1 : Nat) (gt1 : isTown t1) {out : Mem × Int32} (hF : F_Prs_steadyWays σ t1 = some out) : CT l Γ D s0 yX5_steadyWays cX5_steadyWays 2 (some .int) (45) 0 0 (3809) σ [.ref (Γ.1 + 117), .ref (Γ.1 + t1)] (PI (some (.int out.2)) out.1) := by
  unfold F_Prs_steadyWays at hF
  refine e_met (own := RX5) hG (by decide +kernel) rfl rfl (Nat.le_of_ble_eq_true rfl) ?_
  intro p e s m args below meth c X hr
  show E p l e _ s m args below meth c Γ D 0 0 _ σ 0 [some (.ref (Γ.1 + 117)), some (.ref (Γ.1 + t1))] []
  refine e_aload_n X dX5_steadyWays_0 rfl rfl ?_
  refine e_iconst X 0 dX5_steadyWays_1 rfl ?_
  obtain ⟨σ1, h_σ1, hF⟩ := bindT_out hF
  refine pu_Prs_ways X wf_X5_68 dX5_steadyWays_2 h_σ1 ?_
  refine e_aload_n X dX5_steadyWays_5 rfl rfl ?_
  refine ge_Prs_partner X wf_X5_14 dX5_steadyWays_6 ?_
  refine e_iconst X (-1) dX5_steadyWays_9 rfl ?_
  obtain ⟨z2, h_z2, hF⟩ := bindT_out hF
  refine e_callVv X (σ1 := z2) [.int ((-1))] [] (by rw [h_z2]; exact C_Row_putAll (Cx_gok X) σ1 118 8 ((-1)) ok_Row_118) gv_X5_71 yk_X6_putAll rfl (ent_lt ok_Row_118.1) (ent_at ok_Row_118.1 _) (rfl : vCl[6]? = some (RX6, TX6, 1)) ⟨Nat.le_of_ble_eq_true rfl, Nat.le_of_ble_eq_true rfl⟩ ⟨Nat.le_of_ble_eq_true rfl, Nat.le_of_ble_eq_true rfl⟩ (Nat.le_of_ble_eq_true rfl) dX5_steadyWays_10 rfl ?_
  refine e_aload_n X dX5_steadyWays_13 rfl rfl ?_
  refine e_aload_n X dX5_steadyWays_14 rfl rfl ?_
  refine e_aload_n X dX5_steadyWays_15 rfl rfl ?_
  refine ge_Town_people X gt1 wf_X5_29 dX5_steadyWays_16 ?_
  refine e_iconst X 2 dX5_steadyWays_19 rfl ?_
  refine e_irem X dX5_steadyWays_20 (by decide) ?_
  refine e_iconst X 1 dX5_steadyWays_21 rfl ?_
  refine e_icmp_ne X 29 dX5_steadyWays_22 (by decide) (fun c3 => ?_) (fun c3 => ?_)
  · skip
    rw [if_neg c3] at hF
    refine e_iconst X 0 dX5_steadyWays_29 rfl ?_
    refine e_iconst X 0 dX5_steadyWays_30 rfl ?_
    obtain ⟨z4, h_z4, hF⟩ := obind_out hF
    refine e_callVv X (σ1 := z4) [.ref (Γ.1 + t1), .int 0, .int 0] [] (C_Prs_pairUp (Cx_gok X) z2 t1 0 0 gt1 h_z4) gv_X5_74 yk_X5_pairUp rfl (ent_lt (rfl : entTbl[117]? = some (9, 0))) (ent_at (rfl : entTbl[117]? = some (9, 0)) _) (rfl : vCl[5]? = some (RX5, TX5, 3)) ⟨Nat.le_of_ble_eq_true rfl, Nat.le_of_ble_eq_true rfl⟩ ⟨Nat.le_of_ble_eq_true rfl, Nat.le_of_ble_eq_true rfl⟩ (Nat.le_of_ble_eq_true rfl) dX5_steadyWays_31 rfl ?_
    refine e_aload_n X dX5_steadyWays_34 rfl rfl ?_
    refine ge_Prs_ways X wf_X5_68 dX5_steadyWays_35 ?_
    exact e_iret X hr dX5_steadyWays_38 (Nat.le_of_ble_eq_true rfl) (Nat.le_of_ble_eq_true rfl) (by cases hF; exact ⟨rfl, rfl⟩)
  · skip
    rw [if_pos c3] at hF
    refine e_iconst X 1 dX5_steadyWays_25 rfl ?_
    refine e_goto X 30 dX5_steadyWays_26 (by decide) ?_
    refine e_iconst X 0 dX5_steadyWays_30 rfl ?_
    obtain ⟨z5, h_z5, hF⟩ := obind_out hF
    refine e_callVv X (σ1 := z5) [.ref (Γ.1 + t1), .int 1, .int 0] [] (C_Prs_pairUp (Cx_gok X) z2 t1 1 0 gt1 h_z5) gv_X5_74 yk_X5_pairUp rfl (ent_lt (rfl : entTbl[117]? = some (9, 0))) (ent_at (rfl : entTbl[117]? = some (9, 0)) _) (rfl : vCl[5]? = some (RX5, TX5, 3)) ⟨Nat.le_of_ble_eq_true rfl, Nat.le_of_ble_eq_true rfl⟩ ⟨Nat.le_of_ble_eq_true rfl, Nat.le_of_ble_eq_true rfl⟩ (Nat.le_of_ble_eq_true rfl) dX5_steadyWays_31 rfl ?_
    refine e_aload_n X dX5_steadyWays_34 rfl rfl ?_
    refine ge_Prs_ways X wf_X5_68 dX5_steadyWays_35 ?_
    exact e_iret X hr dX5_steadyWays_38 (Nat.le_of_ble_eq_true rfl) (Nat.le_of_ble_eq_true rfl) (by cases hF; exact ⟨rfl, rfl⟩)
set_option maxRecDepth 20000 in
set_option maxHeartbeats 4000000 in
theorem C_Prs_steadyPartner (hG : Gok l Γ D s0) (σ : Mem) (t1 : Nat) (v2 : Int32) (gt1 : isTown t1) {out : Mem × Int32} (hF : F_Prs_steadyPartner σ t1 v2 = some out) : CT l Γ D s0 yX5_steadyPartner cX5_steadyPartner 3 (some .int) (46) 0 0 (3830) σ [.ref (Γ.1 + 117), .ref (Γ.1 + t1), .int v2] (PI (some (.int out.2)) out.1) := by
  unfold F_Prs_steadyPartner at hF
  refine e_met (own := RX5) hG (by decide +kernel) rfl rfl (Nat.le_of_ble_eq_true rfl) ?_
  intro p e s m args below meth c X hr
  show E p l e _ s m args below meth c Γ D 0 0 _ σ 0 [some (.ref (Γ.1 + 117)), some (.ref (Γ.1 + t1)), some (.int v2)] []
  refine e_aload_n X dX5_steadyPartner_0 rfl rfl ?_
  refine e_aload_n X dX5_steadyPartner_1 rfl rfl ?_
  obtain ⟨z1, h_z1, hF⟩ := obind_out hF
  refine e_callVi X (r := z1.2) (σ1 := z1.1) [.ref (Γ.1 + t1)] [] (C_Prs_steadyWays (Cx_gok X) σ t1 gt1 h_z1) gv_X5_78 yk_X5_steadyWays rfl (ent_lt (rfl : entTbl[117]? = some (9, 0))) (ent_at (rfl : entTbl[117]? = some (9, 0)) _) (rfl : vCl[5]? = some (RX5, TX5, 3)) ⟨Nat.le_of_ble_eq_true rfl, Nat.le_of_ble_eq_true rfl⟩ ⟨Nat.le_of_ble_eq_true rfl, Nat.le_of_ble_eq_true rfl⟩ (Nat.le_of_ble_eq_true rfl) dX5_steadyPartner_2 rfl ?_
  refine e_if_ne X 12 dX5_steadyPartner_5 (by decide) (fun c2 => ?_) (fun c2 => ?_)
  · skip
    rw [if_neg c2] at hF
    refine e_aload_n X dX5_steadyPartner_12 rfl rfl ?_
    refine ge_Prs_firstWay X wf_X5_20 dX5_steadyPartner_13 ?_
    refine e_iload_n X dX5_steadyPartner_16 rfl rfl ?_
    refine e_callVi X (r := (F_Row_at z1.1 120 8 v2)) (σ1 := z1.1) [.int v2] [] (C_Row_at (Cx_gok X) z1.1 120 8 v2 ok_Row_120) gv_X5_82 yk_X6_at rfl (ent_lt ok_Row_120.1) (ent_at ok_Row_120.1 _) (rfl : vCl[6]? = some (RX6, TX6, 1)) ⟨Nat.le_of_ble_eq_true rfl, Nat.le_of_ble_eq_true rfl⟩ ⟨Nat.le_of_ble_eq_true rfl, Nat.le_of_ble_eq_true rfl⟩ (Nat.le_of_ble_eq_true rfl) dX5_steadyPartner_17 rfl ?_
    exact e_iret X hr dX5_steadyPartner_20 (Nat.le_of_ble_eq_true rfl) (Nat.le_of_ble_eq_true rfl) (by cases hF; exact ⟨rfl, rfl⟩)
  · skip
    rw [if_pos c2] at hF
    refine e_iconst X (-1) dX5_steadyPartner_8 rfl ?_
    refine e_goto X 20 dX5_steadyPartner_9 (by decide) ?_
    exact e_iret X hr dX5_steadyPartner_20 (Nat.le_of_ble_eq_true rfl) (Nat.le_of_ble_eq_true rfl) (by cases hF; exact ⟨rfl, rfl⟩)
set_option maxRecDepth 20000 in
set_option maxHeartbeats 4000000 in
theorem L_Prs_mostWeddings_4 (X : Cx p l s m args meth c Γ D s0 RX5 cX5_mostWeddings 4) (hr : meth.sig.returnType = (some .int)) (σ : Mem) (t1 : Nat) (gt1 : isTown t1) : ∀ (n : Nat) (v3 : Int32) (v2 : Int32) {z : Int32}, forS (fun i s => F_Prs_mostWeddings_4_b σ t1 i s) n v3 v2 = z → n = cnt v3 ((σ t1 8)) → ¬ v3 < 0 → (E p l e ({ frames := 23, cells := 0, slots := 0, locals := 509 } : Room) s m args below meth c Γ D 0 0 (MQ below (QcA Γ D Pst) args s 0 0 (frB Γ)) σ 32 [some (.ref (Γ.1 + 117)), some (.ref (Γ.1 + t1)), some (.int z), none] []) → E p l e ({ frames := 23, cells := 0, slots := 0, locals := 509 } : Room) s m args below meth c Γ D 0 0 (MQ below (QcA Γ D Pst) args s 0 0 (frB Γ)) σ 4 [some (.ref (Γ.1 + 117)), some (.ref (Γ.1 + t1)), some (.int v2), some (.int v3)] [] := by
  intro n
  induction n with
  | zero =>
    intro v3 v2 z hF hn h0 hK
    refine e_iload_n X dX5_mostWeddings_4 rfl rfl ?_
    refine e_aload_n X dX5_mostWeddings_5 rfl rfl ?_
    refine ge_Town_people X gt1 wf_X5_29 dX5_mostWeddings_6 ?_
    refine e_icmp_ge X 32 dX5_mostWeddings_9 (by decide) (fun c4 => ?_) (fun c4 => ?_)
    · skip
      have hz9 := hF; change (v2) = z at hz9; subst hz9
      exact e_le hK (And.intro rfl (And.intro rfl (And.intro rfl (trivial))))
    · skip
      exact absurd c4 (cnt0 hn)
  | succ n ih =>
    intro v3 v2 z hF hn h0 hK
    obtain ⟨y9, hB, hF⟩ := forS_step hF
    change F_Prs_mostWeddings_4_b σ t1 v3 v2 = y9 at hB
    unfold F_Prs_mostWeddings_4_b at hB
    refine e_iload_n X dX5_mostWeddings_4 rfl rfl ?_
    refine e_aload_n X dX5_mostWeddings_5 rfl rfl ?_
    refine ge_Town_people X gt1 wf_X5_29 dX5_mostWeddings_6 ?_
    refine e_icmp_ge X 32 dX5_mostWeddings_9 (by decide) (fun c1 => ?_) (fun c1 => ?_)
    · skip
      exact absurd (cntS hn) c1
    · skip
      refine e_aload_n X dX5_mostWeddings_12 rfl rfl ?_
      refine e_iload_n X dX5_mostWeddings_13 rfl rfl ?_
      refine e_callVi X (r := (F_Town_isWed σ t1 v3)) (σ1 := σ) [.int v3] [] (C_Town_isWed (Cx_gok X) σ t1 v3 gt1) gv_X5_23 yk_X9_isWed rfl (ent_lt gt1.1) (ent_at gt1.1 _) (rfl : vCl[8]? = some (RX9, TX9, 20)) ⟨Nat.le_of_ble_eq_true rfl, Nat.le_of_ble_eq_true rfl⟩ ⟨Nat.le_of_ble_eq_true rfl, Nat.le_of_ble_eq_true rfl⟩ (Nat.le_of_ble_eq_true rfl) dX5_mostWeddings_14 rfl ?_
      refine e_if_ne X 26 dX5_mostWeddings_17 (by decide) (fun c2 => ?_) (fun c2 => ?_)
      · skip
        rw [if_neg c2] at hB
        refine e_iinc X 1 dX5_mostWeddings_26 rfl rfl (by decide) ?_
        refine e_goto X 4 dX5_mostWeddings_29 (by decide) ?_
        have hy9 := hB; change (v2) = y9 at hy9; subst hy9
        exact e_le (ih _ v2 hF (cntN hn) (nnN h0 (cnt_hi hn)) hK) (And.intro rfl (And.intro rfl (And.intro rfl (And.intro rfl (trivial)))))
      · skip
        rw [if_pos c2] at hB
        refine e_iload_n X dX5_mostWeddings_20 rfl rfl ?_
        refine e_iconst X 1 dX5_mostWeddings_21 rfl ?_
        refine e_iload_n X dX5_mostWeddings_22 rfl rfl ?_
        refine e_ishl X dX5_mostWeddings_23 ?_
        refine e_ior X dX5_mostWeddings_24 ?_
        obtain ⟨x3, h_x3, hB⟩ := bindT_out hB
        refine e_istore_n X h_x3 dX5_mostWeddings_25 rfl (by decide) ?_
        refine e_iinc X 1 dX5_mostWeddings_26 rfl rfl (by decide) ?_
        refine e_goto X 4 dX5_mostWeddings_29 (by decide) ?_
        have hy9 := hB; change (x3) = y9 at hy9; subst hy9
        exact e_le (ih _ x3 hF (cntN hn) (nnN h0 (cnt_hi hn)) hK) (And.intro rfl (And.intro rfl (And.intro rfl (And.intro rfl (trivial)))))
set_option maxRecDepth 20000 in
set_option maxHeartbeats 4000000 in
theorem C_Prs_mostWeddings (hG : Gok l Γ D s0) (σ : Mem) (t1 : Nat) (gt1 : isTown t1) {out : Int32} (hF : F_Prs_mostWeddings σ t1 = some out) : CT l Γ D s0 yX5_mostWeddings cX5_mostWeddings 4 (some .int) (23) 0 0 (509) σ [.ref (Γ.1 + 117), .ref (Γ.1 + t1)] (PI (some (.int out)) σ) := by
  unfold F_Prs_mostWeddings at hF
  refine e_met (own := RX5) hG (by decide +kernel) rfl rfl (Nat.le_of_ble_eq_true rfl) ?_
  intro p e s m args below meth c X hr
  show E p l e _ s m args below meth c Γ D 0 0 _ σ 0 [some (.ref (Γ.1 + 117)), some (.ref (Γ.1 + t1)), none, none] []
  refine e_iconst X 0 dX5_mostWeddings_0 rfl ?_
  refine e_istore_n X rfl dX5_mostWeddings_1 rfl (by decide) ?_
  refine e_iconst X 0 dX5_mostWeddings_2 rfl ?_
  refine e_istore_n X rfl dX5_mostWeddings_3 rfl (by decide) ?_
  obtain ⟨z5, h_z5, hF⟩ := bindT_out hF
  refine e_le (L_Prs_mostWeddings_4 X hr σ t1 gt1 _ 0 0 h_z5.symm rfl (by decide) ?_) (And.intro rfl (And.intro rfl (And.intro rfl (And.intro rfl (trivial)))))
  refine e_aload_n X dX5_mostWeddings_32 rfl rfl ?_
  refine e_iload_n X dX5_mostWeddings_33 rfl rfl ?_
  refine e_iconst X 0 dX5_mostWeddings_34 rfl ?_
  obtain ⟨z6, h_z6, hF⟩ := obind_out hF
  refine e_callSi X (r := z6) (σ1 := σ) [.ref (Γ.1 + t1), .int z5, .int 0] [] (C_Prs_mostPairs (Cx_gok X) σ t1 z5 0 gt1 h_z6) gs_X5_107 yk_X5_mostPairs rfl ⟨Nat.le_of_ble_eq_true rfl, Nat.le_of_ble_eq_true rfl⟩ ⟨Nat.le_of_ble_eq_true rfl, Nat.le_of_ble_eq_true rfl⟩ (Nat.le_of_ble_eq_true rfl) dX5_mostWeddings_35 rfl ?_
  exact e_iret X hr dX5_mostWeddings_38 (Nat.le_of_ble_eq_true rfl) (Nat.le_of_ble_eq_true rfl) (by cases hF; exact ⟨rfl, rfl⟩)
end PART

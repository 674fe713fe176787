section PART
variable {p : Program} {l : Launch} {e : Env} {R : Room} {s : State} {m : MethodId} {args : Array Value} {below : List Frame} {meth : Method} {c : Code} {Γ : Gm} {D : va_G} {s0 : State} {cells slots : Nat} {Q : State → Prop} {own : String} {cc : ByteArray} {nL : Nat} {σ : Mem} {pc : Nat} {lv : List (Option Value)} {st : List Value} {Pst : Option Value → Mem → Prop}
def F_Town_passMatch (σ : Mem) (t : Nat) (v1 : Int32) (w2 : Nat) (k3 : Nat) : Option (Mem) := obind (F_Town_payPremiums σ t v1) fun z1 => bindT (F_Town_lookAt z1 t v1 ((z1 t 16)) k3) fun z2 => obind (F_Look_happyTurned z2 k3 w2) fun z3 => bindT (F_Row_put z3.1 (t + 11) 20 v1 z3.2) fun z4 => bindT (F_Row_put z4 (t + 13) 20 v1 (((F_Row_at z4 (t + 13) 20 v1) + 1))) fun z5 => (if (F_Row_at z5 (t + 11) 20 v1) < (z5 t 12) then bindT ((F_Town_insurersOf z5 t v1)) fun x9 => obind (F_Town_payClaim z5 t v1) fun z10 => bindT (F_Town_addToLog z10.1 t v1 z10.2 x9) fun z11 => (if (F_Row_at z11 (t + 11) 20 v1) = 0 then bindT (F_Town_endMatch z11 t v1) fun z13 => some z13 else some z11) else (if (F_Row_at z5 (t + 11) 20 v1) = 0 then bindT (F_Town_endMatch z5 t v1) fun z8 => some z8 else some z5))
def F_Town_passMonth_35_b (t : Nat) (w1 : Nat) (k2 : Nat) (v3 : Int32) (σ : Mem) : Option ((Int32 × Mem) ⊕ (Int32 × Mem)) := (if v3 < (σ t 10) then (if (F_Town_isOver σ t v3) = 0 then obind (F_Town_passMatch σ t v3 w1 k2) fun z6 => bindT (v3 + 1) fun x7 => some (.inl ((x7, z6))) else bindT (v3 + 1) fun x5 => some (.inl ((x5, σ)))) else some (.inr ((v3, σ))))
def F_Town_passMonth (σ : Mem) (t : Nat) (w1 : Nat) (k2 : Nat) : Option (Mem) := bindT (up σ t 17 (((1103515245 * (σ t 17)) + 12345))) fun σ1 => bindT (up σ1 t 16 ((((((σ1 t 17) : Int32) >>> ((16 : Int32) &&& 31)) &&& 32767) - ((((σ1 t 17) : Int32) >>> ((16 : Int32) &&& 31)) &&& 32767) / 10 * 10))) fun σ2 => obind (whl (fun s => F_Town_passMonth_35_b t w1 k2 s.1 s.2) FUEL (0, σ2)) fun z8 => bindT (up z8.2 t 15 ((if ((z8.2 t 15) + 1) < 9999 then ((z8.2 t 15) + 1) else 9999))) fun σ9 => some σ9
set_option maxRecDepth 20000 in
set_option maxHeartbeats 4000000 in
theorem C_Town_passMatch (hG : Gok l Γ D s0) (σ : Mem) (t : Nat) (v1 : Int32) (w2 : Nat) (k3 : Nat) (gt : isTown t) (gw2 : isLaw w2) (gk3 : isLook k3) {out : Mem} (hF : F_Town_passMatch σ t v1 w2 k3 = some out) : CT l Γ D s0 yX9_passMatch cX9_passMatch 5 none (4) 0 0 (94) σ [.ref (Γ.1 + t), .int v1, .ref (Γ.1 + w2), .ref (Γ.1 + k3)] (PI none out) := by
  unfold F_Town_passMatch at hF
  refine e_met (own := RX9) hG (by decide +kernel) rfl rfl (Nat.le_of_ble_eq_true rfl) ?_
  intro p e s m args below meth c X hr
  show E p l e _ s m args below meth c Γ D 0 0 _ σ 0 [some (.ref (Γ.1 + t)), some (.int v1), some (.ref (Γ.1 + w2)), some (.ref (Γ.1 + k3)), none] []
  refine e_aload_n X dX9_passMatch_0 rfl rfl ?_
  refine e_iload_n X dX9_passMatch_1 rfl rfl ?_
  obtain ⟨z1, h_z1, hF⟩ := obind_out hF
  refine e_callVv X (σ1 := z1) [.int v1] [] (C_Town_payPremiums (Cx_gok X) σ t v1 gt h_z1) gv_X9_177 yk_X9_payPremiums rfl (ent_lt gt.1) (ent_at gt.1 _) (rfl : vCl[8]? = some (RX9, TX9, 20)) ⟨Nat.le_of_ble_eq_true rfl, Nat.le_of_ble_eq_true rfl⟩ ⟨Nat.le_of_ble_eq_true rfl, Nat.le_of_ble_eq_true rfl⟩ (Nat.le_of_ble_eq_true rfl) dX9_passMatch_2 rfl ?_
  refine e_aload_n X dX9_passMatch_5 rfl rfl ?_
  refine e_iload_n X dX9_passMatch_6 rfl rfl ?_
  refine e_aload_n X dX9_passMatch_7 rfl rfl ?_
  refine ge_Town_quarrel X gt wf_X9_74 dX9_passMatch_8 ?_
  refine e_aload_n X dX9_passMatch_11 rfl rfl ?_
  obtain ⟨z2, h_z2, hF⟩ := bindT_out hF
  refine e_callVv X (σ1 := z2) [.int v1, .int ((z1 t 16)), .ref (Γ.1 + k3)] [] (by rw [h_z2]; exact C_Town_lookAt (Cx_gok X) z1 t v1 ((z1 t 16)) k3 gt gk3) gv_X9_180 yk_X9_lookAt rfl (ent_lt gt.1) (ent_at gt.1 _) (rfl : vCl[8]? = some (RX9, TX9, 20)) ⟨Nat.le_of_ble_eq_true rfl, Nat.le_of_ble_eq_true rfl⟩ ⟨Nat.le_of_ble_eq_true rfl, Nat.le_of_ble_eq_true rfl⟩ (Nat.le_of_ble_eq_true rfl) dX9_passMatch_12 rfl ?_
  refine e_aload_n X dX9_passMatch_15 rfl rfl ?_
  refine ge_Town_happy X gt wf_X9_32 dX9_passMatch_16 ?_
  refine e_iload_n X dX9_passMatch_19 rfl rfl ?_
  refine e_aload_n X dX9_passMatch_20 rfl rfl ?_
  refine e_aload_n X dX9_passMatch_21 rfl rfl ?_
  obtain ⟨z3, h_z3, hF⟩ := obind_out hF
  refine e_callVi X (r := z3.2) (σ1 := z3.1) [.ref (Γ.1 + w2)] [.int v1, .ref (Γ.1 + (t + 11))] (C_Look_happyTurned (Cx_gok X) z2 k3 w2 gk3 gw2 h_z3) gv_X9_184 yk_X4_happyTurned rfl (ent_lt gk3) (ent_at gk3 _) (rfl : vCl[4]? = some (RX4, TX4, 7)) ⟨Nat.le_of_ble_eq_true rfl, Nat.le_of_ble_eq_true rfl⟩ ⟨Nat.le_of_ble_eq_true rfl, Nat.le_of_ble_eq_true rfl⟩ (Nat.le_of_ble_eq_true rfl) dX9_passMatch_22 rfl ?_
  obtain ⟨z4, h_z4, hF⟩ := bindT_out hF
  refine e_callVv X (σ1 := z4) [.int v1, .int z3.2] [] (by rw [h_z4]; exact C_Row_put (Cx_gok X) z3.1 (t + 11) 20 v1 z3.2 gt.2.2.2.2.2.2.1) gv_X9_86 yk_X6_put rfl (ent_lt gt.2.2.2.2.2.2.1.1) (ent_at gt.2.2.2.2.2.2.1.1 _) (rfl : vCl[6]? = some (RX6, TX6, 1)) ⟨Nat.le_of_ble_eq_true rfl, Nat.le_of_ble_eq_true rfl⟩ ⟨Nat.le_of_ble_eq_true rfl, Nat.le_of_ble_eq_true rfl⟩ (Nat.le_of_ble_eq_true rfl) dX9_passMatch_25 rfl ?_
  refine e_aload_n X dX9_passMatch_28 rfl rfl ?_
  refine ge_Town_monthsWed X gt wf_X9_35 dX9_passMatch_29 ?_
  refine e_iload_n X dX9_passMatch_32 rfl rfl ?_
  refine e_aload_n X dX9_passMatch_33 rfl rfl ?_
  refine ge_Town_monthsWed X gt wf_X9_35 dX9_passMatch_34 ?_
  refine e_iload_n X dX9_passMatch_37 rfl rfl ?_
  refine e_callVi X (r := (F_Row_at z4 (t + 13) 20 v1)) (σ1 := z4) [.int v1] [.int v1, .ref (Γ.1 + (t + 13))] (C_Row_at (Cx_gok X) z4 (t + 13) 20 v1 gt.2.2.2.2.2.2.2.1) gv_X9_90 yk_X6_at rfl (ent_lt gt.2.2.2.2.2.2.2.1.1) (ent_at gt.2.2.2.2.2.2.2.1.1 _) (rfl : vCl[6]? = some (RX6, TX6, 1)) ⟨Nat.le_of_ble_eq_true rfl, Nat.le_of_ble_eq_true rfl⟩ ⟨Nat.le_of_ble_eq_true rfl, Nat.le_of_ble_eq_true rfl⟩ (Nat.le_of_ble_eq_true rfl) dX9_passMatch_38 rfl ?_
  refine e_iconst X 1 dX9_passMatch_41 rfl ?_
  refine e_iadd X dX9_passMatch_42 ?_
  obtain ⟨z5, h_z5, hF⟩ := bindT_out hF
  refine e_callVv X (σ1 := z5) [.int v1, .int (((F_Row_at z4 (t + 13) 20 v1) + 1))] [] (by rw [h_z5]; exact C_Row_put (Cx_gok X) z4 (t + 13) 20 v1 (((F_Row_at z4 (t + 13) 20 v1) + 1)) gt.2.2.2.2.2.2.2.1) gv_X9_86 yk_X6_put rfl (ent_lt gt.2.2.2.2.2.2.2.1.1) (ent_at gt.2.2.2.2.2.2.2.1.1 _) (rfl : vCl[6]? = some (RX6, TX6, 1)) ⟨Nat.le_of_ble_eq_true rfl, Nat.le_of_ble_eq_true rfl⟩ ⟨Nat.le_of_ble_eq_true rfl, Nat.le_of_ble_eq_true rfl⟩ (Nat.le_of_ble_eq_true rfl) dX9_passMatch_43 rfl ?_
  refine e_aload_n X dX9_passMatch_46 rfl rfl ?_
  refine ge_Town_happy X gt wf_X9_32 dX9_passMatch_47 ?_
  refine e_iload_n X dX9_passMatch_50 rfl rfl ?_
  refine e_callVi X (r := (F_Row_at z5 (t + 11) 20 v1)) (σ1 := z5) [.int v1] [] (C_Row_at (Cx_gok X) z5 (t + 11) 20 v1 gt.2.2.2.2.2.2.1) gv_X9_90 yk_X6_at rfl (ent_lt gt.2.2.2.2.2.2.1.1) (ent_at gt.2.2.2.2.2.2.1.1 _) (rfl : vCl[6]? = some (RX6, TX6, 1)) ⟨Nat.le_of_ble_eq_true rfl, Nat.le_of_ble_eq_true rfl⟩ ⟨Nat.le_of_ble_eq_true rfl, Nat.le_of_ble_eq_true rfl⟩ (Nat.le_of_ble_eq_true rfl) dX9_passMatch_51 rfl ?_
  refine e_aload_n X dX9_passMatch_54 rfl rfl ?_
  refine ge_Town_bar X gt wf_X9_41 dX9_passMatch_55 ?_
  refine e_icmp_ge X 80 dX9_passMatch_58 (by decide) (fun c6 => ?_) (fun c6 => ?_)
  · skip
    rw [if_neg c6] at hF
    refine e_aload_n X dX9_passMatch_80 rfl rfl ?_
    refine ge_Town_happy X gt wf_X9_32 dX9_passMatch_81 ?_
    refine e_iload_n X dX9_passMatch_84 rfl rfl ?_
    refine e_callVi X (r := (F_Row_at z5 (t + 11) 20 v1)) (σ1 := z5) [.int v1] [] (C_Row_at (Cx_gok X) z5 (t + 11) 20 v1 gt.2.2.2.2.2.2.1) gv_X9_90 yk_X6_at rfl (ent_lt gt.2.2.2.2.2.2.1.1) (ent_at gt.2.2.2.2.2.2.1.1 _) (rfl : vCl[6]? = some (RX6, TX6, 1)) ⟨Nat.le_of_ble_eq_true rfl, Nat.le_of_ble_eq_true rfl⟩ ⟨Nat.le_of_ble_eq_true rfl, Nat.le_of_ble_eq_true rfl⟩ (Nat.le_of_ble_eq_true rfl) dX9_passMatch_85 rfl ?_
    refine e_if_ne X 96 dX9_passMatch_88 (by decide) (fun c7 => ?_) (fun c7 => ?_)
    · skip
      rw [if_neg c7] at hF
      exact e_vret X hr dX9_passMatch_96 (Nat.le_of_ble_eq_true rfl) (Nat.le_of_ble_eq_true rfl) (by cases hF; exact ⟨rfl, rfl⟩)
    · skip
      rw [if_pos c7] at hF
      refine e_aload_n X dX9_passMatch_91 rfl rfl ?_
      refine e_iload_n X dX9_passMatch_92 rfl rfl ?_
      obtain ⟨z8, h_z8, hF⟩ := bindT_out hF
      refine e_callVv X (σ1 := z8) [.int v1] [] (by rw [h_z8]; exact C_Town_endMatch (Cx_gok X) z5 t v1 gt) gv_X9_195 yk_X9_endMatch rfl (ent_lt gt.1) (ent_at gt.1 _) (rfl : vCl[8]? = some (RX9, TX9, 20)) ⟨Nat.le_of_ble_eq_true rfl, Nat.le_of_ble_eq_true rfl⟩ ⟨Nat.le_of_ble_eq_true rfl, Nat.le_of_ble_eq_true rfl⟩ (Nat.le_of_ble_eq_true rfl) dX9_passMatch_93 rfl ?_
      exact e_vret X hr dX9_passMatch_96 (Nat.le_of_ble_eq_true rfl) (Nat.le_of_ble_eq_true rfl) (by cases hF; exact ⟨rfl, rfl⟩)
  · skip
    rw [if_pos c6] at hF
    refine e_aload_n X dX9_passMatch_61 rfl rfl ?_
    refine e_iload_n X dX9_passMatch_62 rfl rfl ?_
    refine e_callVi X (r := (F_Town_insurersOf z5 t v1)) (σ1 := z5) [.int v1] [] (C_Town_insurersOf (Cx_gok X) z5 t v1 gt) gv_X9_150 yk_X9_insurersOf rfl (ent_lt gt.1) (ent_at gt.1 _) (rfl : vCl[8]? = some (RX9, TX9, 20)) ⟨Nat.le_of_ble_eq_true rfl, Nat.le_of_ble_eq_true rfl⟩ ⟨Nat.le_of_ble_eq_true rfl, Nat.le_of_ble_eq_true rfl⟩ (Nat.le_of_ble_eq_true rfl) dX9_passMatch_63 rfl ?_
    obtain ⟨x9, h_x9, hF⟩ := bindT_out hF
    refine e_istore X h_x9 dX9_passMatch_66 (by decide) ?_
    refine e_aload_n X dX9_passMatch_68 rfl rfl ?_
    refine e_iload_n X dX9_passMatch_69 rfl rfl ?_
    refine e_aload_n X dX9_passMatch_70 rfl rfl ?_
    refine e_iload_n X dX9_passMatch_71 rfl rfl ?_
    obtain ⟨z10, h_z10, hF⟩ := obind_out hF
    refine e_callVi X (r := z10.2) (σ1 := z10.1) [.int v1] [.int v1, .ref (Γ.1 + t)] (C_Town_payClaim (Cx_gok X) z5 t v1 gt h_z10) gv_X9_188 yk_X9_payClaim rfl (ent_lt gt.1) (ent_at gt.1 _) (rfl : vCl[8]? = some (RX9, TX9, 20)) ⟨Nat.le_of_ble_eq_true rfl, Nat.le_of_ble_eq_true rfl⟩ ⟨Nat.le_of_ble_eq_true rfl, Nat.le_of_ble_eq_true rfl⟩ (Nat.le_of_ble_eq_true rfl) dX9_passMatch_72 rfl ?_
    refine e_iload X dX9_passMatch_75 rfl ?_
    obtain ⟨z11, h_z11, hF⟩ := bindT_out hF
    refine e_callVv X (σ1 := z11) [.int v1, .int z10.2, .int x9] [] (by rw [h_z11]; exact C_Town_addToLog (Cx_gok X) z10.1 t v1 z10.2 x9 gt) gv_X9_191 yk_X9_addToLog rfl (ent_lt gt.1) (ent_at gt.1 _) (rfl : vCl[8]? = some (RX9, TX9, 20)) ⟨Nat.le_of_ble_eq_true rfl, Nat.le_of_ble_eq_true rfl⟩ ⟨Nat.le_of_ble_eq_true rfl, Nat.le_of_ble_eq_true rfl⟩ (Nat.le_of_ble_eq_true rfl) dX9_passMatch_77 rfl ?_
    refine e_aload_n X dX9_passMatch_80 rfl rfl ?_
    refine ge_Town_happy X gt wf_X9_32 dX9_passMatch_81 ?_
    refine e_iload_n X dX9_passMatch_84 rfl rfl ?_
    refine e_callVi X (r := (F_Row_at z11 (t + 11) 20 v1)) (σ1 := z11) [.int v1] [] (C_Row_at (Cx_gok X) z11 (t + 11) 20 v1 gt.2.2.2.2.2.2.1) gv_X9_90 yk_X6_at rfl (ent_lt gt.2.2.2.2.2.2.1.1) (ent_at gt.2.2.2.2.2.2.1.1 _) (rfl : vCl[6]? = some (RX6, TX6, 1)) ⟨Nat.le_of_ble_eq_true rfl, Nat.le_of_ble_eq_true rfl⟩ ⟨Nat.le_of_ble_eq_true rfl, Nat.le_of_ble_eq_true rfl⟩ (Nat.le_of_ble_eq_true rfl) dX9_passMatch_85 rfl ?_
    refine e_if_ne X 96 dX9_passMatch_88 (by decide) (fun c12 => ?_) (fun c12 => ?_)
    · skip
      rw [if_neg c12] at hF
      exact e_vret X hr dX9_passMatch_96 (Nat.le_of_ble_eq_true rfl) (Nat.le_of_ble_eq_true rfl) (by cases hF; exact ⟨rfl, rfl⟩)
    · skip
      rw [if_pos c12] at hF
      refine e_aload_n X dX9_passMatch_91 rfl rfl ?_
      refine e_iload_n X dX9_passMatch_92 rfl rfl ?_
      obtain ⟨z13, h_z13, hF⟩ := bindT_out hF
      refine e_callVv X (σ1 := z13) [.int v1] [] (by rw [h_z13]; exact C_Town_endMatch (Cx_gok X) z11 t v1 gt) gv_X9_195 yk_X9_endMatch rfl (ent_lt gt.1) (ent_at gt.1 _) (rfl : vCl[8]? = some (RX9, TX9, 20)) ⟨Nat.le_of_ble_eq_true rfl, Nat.le_of_ble_eq_true rfl⟩ ⟨Nat.le_of_ble_eq_true rfl, Nat.le_of_ble_eq_true rfl⟩ (Nat.le_of_ble_eq_true rfl) dX9_passMatch_93 rfl ?_
      exact e_vret X hr dX9_passMatch_96 (Nat.le_of_ble_eq_true rfl) (Nat.le_of_ble_eq_true rfl) (by cases hF; exact ⟨rfl, rfl⟩)
set_option maxRecDepth 20000 in
set_option maxHeartbeats 4000000 in
theorem L_Town_passMonth_35 (X : Cx p l s m args meth c Γ D s0 RX9 cX9_passMonth 4) (hr : meth.sig.returnType = none) (t : Nat) (w1 : Nat) (k2 : Nat) (gt : isTown t) (gw1 : isLaw w1) (gk2 : isLook k2) : ∀ (n : Nat) (v3 : Int32) (σ : Mem) {z : Int32 × Mem}, whl (fun s => F_Town_passMonth_35_b t w1 k2 s.1 s.2) n (v3, σ) = some z → (E p l e ({ frames := 5, cells := 0, slots := 0, locals := 118 } : Room) s m args below meth c Γ D 0 0 (MQ below (QcA Γ D Pst) args s 0 0 (frB Γ)) z.2 64 [some (.ref (Γ.1 + t)), some (.ref (Γ.1 + w1)), some (.ref (Γ.1 + k2)), some (.int z.1)] []) → E p l e ({ frames := 5, cells := 0, slots := 0, locals := 118 } : Room) s m args below meth c Γ D 0 0 (MQ below (QcA Γ D Pst) args s 0 0 (frB Γ)) σ 35 [some (.ref (Γ.1 + t)), some (.ref (Γ.1 + w1)), some (.ref (Γ.1 + k2)), some (.int v3)] [] := by
  intro n
  induction n with
  | zero =>
    intro v3 σ z hF hK
    cases hF
  | succ n ih =>
    intro v3 σ z hF hK
    obtain ⟨y9, hB, hF⟩ := whl_step hF
    change F_Town_passMonth_35_b t w1 k2 v3 σ = some y9 at hB
    unfold F_Town_passMonth_35_b at hB
    refine e_iload_n X dX9_passMonth_35 rfl rfl ?_
    refine e_aload_n X dX9_passMonth_36 rfl rfl ?_
    refine ge_Town_matches X gt wf_X9_65 dX9_passMonth_37 ?_
    refine e_icmp_ge X 64 dX9_passMonth_40 (by decide) (fun c3 => ?_) (fun c3 => ?_)
    · skip
      rw [if_neg c3] at hB
      have hy9 := Option.some.inj hB; change (.inr ((v3, σ))) = y9 at hy9; subst hy9
      have hz9 := Option.some.inj hF; change ((v3, σ)) = z at hz9; subst hz9
      exact e_le hK (And.intro rfl (And.intro rfl (And.intro rfl (And.intro rfl (trivial)))))
    · skip
      rw [if_pos c3] at hB
      refine e_aload_n X dX9_passMonth_43 rfl rfl ?_
      refine e_iload_n X dX9_passMonth_44 rfl rfl ?_
      refine e_callVi X (r := (F_Town_isOver σ t v3)) (σ1 := σ) [.int v3] [] (C_Town_isOver (Cx_gok X) σ t v3 gt) gv_X9_118 yk_X9_isOver rfl (ent_lt gt.1) (ent_at gt.1 _) (rfl : vCl[8]? = some (RX9, TX9, 20)) ⟨Nat.le_of_ble_eq_true rfl, Nat.le_of_ble_eq_true rfl⟩ ⟨Nat.le_of_ble_eq_true rfl, Nat.le_of_ble_eq_true rfl⟩ (Nat.le_of_ble_eq_true rfl) dX9_passMonth_45 rfl ?_
      refine e_if_ne X 58 dX9_passMonth_48 (by decide) (fun c4 => ?_) (fun c4 => ?_)
      · skip
        rw [if_neg c4] at hB
        refine e_iinc X 1 dX9_passMonth_58 rfl rfl (by decide) ?_
        obtain ⟨x5, h_x5, hB⟩ := bindT_out hB
        rw [← h_x5]
        refine e_goto X 35 dX9_passMonth_61 (by decide) ?_
        have hy9 := Option.some.inj hB; change (.inl ((x5, σ))) = y9 at hy9; subst hy9
        exact e_le (ih x5 σ hF hK) (And.intro rfl (And.intro rfl (And.intro rfl (And.intro rfl (trivial)))))
      · skip
        rw [if_pos c4] at hB
        refine e_aload_n X dX9_passMonth_51 rfl rfl ?_
        refine e_iload_n X dX9_passMonth_52 rfl rfl ?_
        refine e_aload_n X dX9_passMonth_53 rfl rfl ?_
        refine e_aload_n X dX9_passMonth_54 rfl rfl ?_
        obtain ⟨z6, h_z6, hB⟩ := obind_out hB
        refine e_callVv X (σ1 := z6) [.int v3, .ref (Γ.1 + w1), .ref (Γ.1 + k2)] [] (C_Town_passMatch (Cx_gok X) σ t v3 w1 k2 gt gw1 gk2 h_z6) gv_X9_168 yk_X9_passMatch rfl (ent_lt gt.1) (ent_at gt.1 _) (rfl : vCl[8]? = some (RX9, TX9, 20)) ⟨Nat.le_of_ble_eq_true rfl, Nat.le_of_ble_eq_true rfl⟩ ⟨Nat.le_of_ble_eq_true rfl, Nat.le_of_ble_eq_true rfl⟩ (Nat.le_of_ble_eq_true rfl) dX9_passMonth_55 rfl ?_
        refine e_iinc X 1 dX9_passMonth_58 rfl rfl (by decide) ?_
        obtain ⟨x7, h_x7, hB⟩ := bindT_out hB
        rw [← h_x7]
        refine e_goto X 35 dX9_passMonth_61 (by decide) ?_
        have hy9 := Option.some.inj hB; change (.inl ((x7, z6))) = y9 at hy9; subst hy9
        exact e_le (ih x7 z6 hF hK) (And.intro rfl (And.intro rfl (And.intro rfl (And.intro rfl (trivial)))))
set_option maxRecDepth 20000 in
set_option maxHeartbeats 4000000 in
theorem C_Town_passMonth (hG : Gok l Γ D s0) (σ : Mem) (t : Nat) (w1 : Nat) (k2 : Nat) (gt : isTown t) (gw1 : isLaw w1) (gk2 : isLook k2) {out : Mem} (hF : F_Town_passMonth σ t w1 k2 = some out) : CT l Γ D s0 yX9_passMonth cX9_passMonth 4 none (5) 0 0 (118) σ [.ref (Γ.1 + t), .ref (Γ.1 + w1), .ref (Γ.1 + k2)] (PI none out) := by
  unfold F_Town_passMonth at hF
  refine e_met (own := RX9) hG (by decide +kernel) rfl rfl (Nat.le_of_ble_eq_true rfl) ?_
  intro p e s m args below meth c X hr
  show E p l e _ s m args below meth c Γ D 0 0 _ σ 0 [some (.ref (Γ.1 + t)), some (.ref (Γ.1 + w1)), some (.ref (Γ.1 + k2)), none] []
  refine e_aload_n X dX9_passMonth_0 rfl rfl ?_
  refine e_ldc X 1103515245 wk_X9_167 dX9_passMonth_1 ?_
  refine e_aload_n X dX9_passMonth_3 rfl rfl ?_
  refine ge_Town_seed X gt wf_X9_51 dX9_passMonth_4 ?_
  refine e_imul X dX9_passMonth_7 ?_
  refine e_sipush X 12345 dX9_passMonth_8 rfl ?_
  refine e_iadd X dX9_passMonth_11 ?_
  obtain ⟨σ1, h_σ1, hF⟩ := bindT_out hF
  refine pu_Town_seed X gt wf_X9_51 dX9_passMonth_12 h_σ1 ?_
  refine e_aload_n X dX9_passMonth_15 rfl rfl ?_
  refine e_aload_n X dX9_passMonth_16 rfl rfl ?_
  refine ge_Town_seed X gt wf_X9_51 dX9_passMonth_17 ?_
  refine e_bipush X 16 dX9_passMonth_20 rfl ?_
  refine e_ishr X dX9_passMonth_22 ?_
  refine e_sipush X 32767 dX9_passMonth_23 rfl ?_
  refine e_iand X dX9_passMonth_26 ?_
  refine e_bipush X 10 dX9_passMonth_27 rfl ?_
  refine e_irem X dX9_passMonth_29 (by decide) ?_
  obtain ⟨σ2, h_σ2, hF⟩ := bindT_out hF
  refine pu_Town_quarrel X gt wf_X9_74 dX9_passMonth_30 h_σ2 ?_
  refine e_iconst X 0 dX9_passMonth_33 rfl ?_
  refine e_istore_n X rfl dX9_passMonth_34 rfl (by decide) ?_
  obtain ⟨z8, h_z8, hF⟩ := obind_out hF
  refine e_le (L_Town_passMonth_35 X hr t w1 k2 gt gw1 gk2 _ 0 σ2 h_z8 ?_) (And.intro rfl (And.intro rfl (And.intro rfl (And.intro rfl (trivial)))))
  refine e_aload_n X dX9_passMonth_64 rfl rfl ?_
  refine e_sipush X 9999 dX9_passMonth_65 rfl ?_
  refine e_aload_n X dX9_passMonth_68 rfl rfl ?_
  refine ge_Town_month X gt wf_X9_71 dX9_passMonth_69 ?_
  refine e_iconst X 1 dX9_passMonth_72 rfl ?_
  refine e_iadd X dX9_passMonth_73 ?_
  refine e_mmin X wMl_X9_172 wMs_min wMi wMc_min (Nat.le_of_ble_eq_true rfl) (Nat.le_of_ble_eq_true rfl) (Nat.le_of_ble_eq_true rfl) (Nat.le_of_ble_eq_true rfl) dX9_passMonth_74 ?_
  obtain ⟨σ9, h_σ9, hF⟩ := bindT_out hF
  refine pu_Town_month X gt wf_X9_71 dX9_passMonth_77 h_σ9 ?_
  exact e_vret X hr dX9_passMonth_80 (Nat.le_of_ble_eq_true rfl) (Nat.le_of_ble_eq_true rfl) (by cases hF; exact ⟨rfl, rfl⟩)
end PART

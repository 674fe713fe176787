section PART
variable {p : Program} {l : Launch} {e : Env} {R : Room} {s : State} {m : MethodId} {args : Array Value} {below : List Frame} {meth : Method} {c : Code} {Γ : Gm} {D : va_G} {s0 : State} {cells slots : Nat} {Q : State → Prop} {own : String} {cc : ByteArray} {nL : Nat} {σ : Mem} {pc : Nat} {lv : List (Option Value)} {st : List Value} {Pst : Option Value → Mem → Prop}
def F_For_turnsNow (σ : Mem) (t1 : Nat) (w2 : Nat) (v3 : Int32) : Option (Mem × Int32) := bindT (F_Town_lookAt σ t1 v3 ((σ t1 16)) 112) fun z1 => obind (F_Law_turnsBy z1 w2 112) fun z2 => some ((z2.1, z2.2))
def F_For_happyNext (σ : Mem) (t1 : Nat) (w2 : Nat) (v3 : Int32) (v4 : Int32) : Option (Mem × Int32) := bindT (F_Town_lookAt σ t1 v3 v4 112) fun z1 => obind (F_Look_happyTurned z1 112 w2) fun z2 => some ((z2.1, z2.2))
def F_For_happyAhead_14_b (t1 : Nat) (w2 : Nat) (v3 : Int32) (v4 : Int32) (v5 : Int32) (v6 : Int32) (σ : Mem) : Option (Mem) := obind (F_Look_happyBehindMonth σ 112 w2) fun z3 => bindT (up z3.1 112 0 z3.2) fun σ4 => bindT (F_Look_passTime σ4 112) fun z5 => some (z5)
def F_For_happyAhead (σ : Mem) (t1 : Nat) (w2 : Nat) (v3 : Int32) (v4 : Int32) (v5 : Int32) : Option (Mem × Int32) := bindT (F_Town_lookAt σ t1 v3 v5 112) fun z1 => obind (forSO (fun i s => F_For_happyAhead_14_b t1 w2 v3 v4 v5 i s) (cnt 0 v4) 0 z1) fun z7 => some ((z7, (z7 112 0)))
def F_For_firstClaim_14_b (t1 : Nat) (w2 : Nat) (v3 : Int32) (v4 : Int32) (v5 : Int32) (σ : Mem) : Option ((Mem) ⊕ (Mem × Int32)) := obind (F_Look_happyBehindMonth σ 112 w2) fun z3 => bindT (up z3.1 112 0 z3.2) fun σ4 => bindT (F_Look_passTime σ4 112) fun z5 => (if (z5 112 0) < (z5 t1 12) then some (.inr ((z5, v5))) else some (.inl z5))
def F_For_firstClaim (σ : Mem) (t1 : Nat) (w2 : Nat) (v3 : Int32) (v4 : Int32) : Option (Mem × Int32) := bindT (F_Town_lookAt σ t1 v3 v4 112) fun z1 => obind (forGO (fun i s => F_For_firstClaim_14_b t1 w2 v3 v4 i s) (cle 1 40) 1 z1) fun z8 => sumE z8 (fun s9 => some ((s9, (-1)))) (fun r10 => some r10)
def F_For_claimQuarrels_16_b (t1 : Nat) (w2 : Nat) (v3 : Int32) (v5 : Int32) (v4 : Int32) (σ : Mem) : Option (Int32 × Mem) := bindT (up σ 112 2 v5) fun σ3 => obind (F_Look_happyTurned σ3 112 w2) fun z4 => (if z4.2 < (z4.1 t1 12) then bindT (v4 + 1) fun x6 => some ((x6, z4.1)) else some ((v4, z4.1)))
def F_For_claimQuarrels (σ : Mem) (t1 : Nat) (w2 : Nat) (v3 : Int32) : Option (Mem × Int32) := bindT (F_Town_lookAt σ t1 v3 0 112) fun z1 => obind (forSO (fun i s => F_For_claimQuarrels_16_b t1 w2 v3 i s.1 s.2) (cnt 0 10) 0 (0, z1)) fun z8 => some ((z8.2, z8.1))
def F_For_addGifts_2_b  (v1 : Int32) (σ : Mem) : Mem := bindT ((F_W_happyWithin σ ((v1 + 5)))) fun x2 => bindT (F_Row_put σ 113 100 x2 ((if ((F_Row_at σ 113 100 v1) + 1) < (F_Row_at σ 113 100 x2) then ((F_Row_at σ 113 100 v1) + 1) else (F_Row_at σ 113 100 x2)))) fun z3 => z3
def F_For_addGifts (σ : Mem)  : Mem := bindT (forS (fun i s => F_For_addGifts_2_b  i s) (cnt 0 99) 0 σ) fun z5 => z5
def F_For_passCosts_11_b (w1 : Nat) (v2 : Int32) (v3 : Int32) (σ : Mem) : Option (Mem) := (if (F_Row_at σ 113 100 v3) < 41 then bindT (up σ 112 0 v3) fun σ4 => obind (F_Look_happyBehindMonth σ4 112 w1) fun z5 => (if z5.2 < v2 then some (z5.1) else bindT (F_Row_put z5.1 115 100 z5.2 ((if (F_Row_at z5.1 113 100 v3) < (F_Row_at z5.1 115 100 z5.2) then (F_Row_at z5.1 113 100 v3) else (F_Row_at z5.1 115 100 z5.2)))) fun z7 => some (z7)) else some (σ))
def F_For_passCosts (σ : Mem) (w1 : Nat) (v2 : Int32) : Option (Mem) := bindT (F_Row_putAll σ 115 100 41) fun z1 => obind (forSO (fun i s => F_For_passCosts_11_b w1 v2 i s) (cle 0 99) 0 z1) fun z9 => bindT (F_Row_copyAll z9 113 100 115 100) fun z10 => bindT (F_Look_passTime z10 112) fun z11 => some z11
def F_For_fewestGifts_38_b (t1 : Nat) (w2 : Nat) (v3 : Int32) (v4 : Int32) (v5 : Int32) (v6 : Int32) (σ : Mem) : Option (Mem) := bindT (F_For_addGifts σ) fun z5 => obind (F_For_passCosts z5 w2 ((z5 t1 12))) fun z6 => some (z6)
def F_For_fewestGifts_71_b (σ : Mem) (t1 : Nat) (w2 : Nat) (v3 : Int32) (v4 : Int32) (v5 : Int32) (v7 : Int32) (v6 : Int32) : Int32 := bindT ((if (F_Row_at σ 113 100 v7) < v6 then (F_Row_at σ 113 100 v7) else v6)) fun x10 => x10
def F_For_fewestGifts (σ : Mem) (t1 : Nat) (w2 : Nat) (v3 : Int32) (v4 : Int32) (v5 : Int32) : Option (Mem × Int32) := bindT (F_Town_lookAt σ t1 v3 v5 112) fun z1 => bindT (F_Row_putAll z1 113 100 41) fun z2 => bindT (F_Row_put z2 113 100 ((z2 112 0)) 0) fun z3 => obind (forSO (fun i s => F_For_fewestGifts_38_b t1 w2 v3 v4 v5 i s) (cnt 0 v4) 0 z3) fun z8 => bindT (forS (fun i s => F_For_fewestGifts_71_b z8 t1 w2 v3 v4 v5 i s) (cle 0 99) 0 41) fun z12 => (if z12 < 41 then some ((z8, z12)) else some ((z8, (-1))))
def F_For_claimAll_2_b  (v1 : Int32) (σ : Mem) : Option ((Int32 × Mem) ⊕ (Int32 × Mem)) := (if v1 < (σ 95 10) then (if (F_Town_isOver σ 95 v1) = 0 then obind (F_Town_payClaim σ 95 v1) fun z4 => bindT (v1 + 1) fun x5 => some (.inl ((x5, z4.1))) else bindT (v1 + 1) fun x3 => some (.inl ((x3, σ)))) else some (.inr ((v1, σ))))
def F_For_claimAll (σ : Mem)  : Option (Mem) := obind (whl (fun s => F_For_claimAll_2_b  s.1 s.2) FUEL (0, σ)) fun z6 => some z6.2
def F_For_fallen (σ : Mem) (t1 : Nat) : Option (Mem × Int32) := bindT (F_Town_copyAll σ 95 t1) fun z1 => obind (F_For_claimAll z1) fun z2 => some ((z2, ((z2 95 9) &&& ((z2 t1 9) ^^^ (-1)))))
def F_For_lossOf (σ : Mem) (t1 : Nat) (v2 : Int32) : Option (Mem × Int32) := bindT (F_Town_copyAll σ 95 t1) fun z1 => obind (F_For_claimAll z1) fun z2 => some ((z2, (if 0 < ((F_Row_at z2 (t1 + 1) 8 v2) - (F_Row_at z2 (95 + 1) 8 v2)) then ((F_Row_at z2 (t1 + 1) 8 v2) - (F_Row_at z2 (95 + 1) 8 v2)) else 0)))
def F_For_leastWealth_18_b (t1 : Nat) (v2 : Int32) (v5 : Int32) (v3 : Int32) (v4 : Int32) (σ : Mem) : Option ((Int32 × Int32 × Mem) ⊕ (Int32 × Int32 × Mem)) := (if v3 < v4 then bindT (((v3 + v4) / 2)) fun x4 => bindT (F_Town_copyPurses σ 95 t1) fun z5 => bindT (F_Row_put z5 (95 + 1) 8 v2 x4) fun z6 => obind (F_For_claimAll z6) fun z7 => (if (F_W_contains z7 (((z7 95 9) &&& ((z7 t1 9) ^^^ (-1)))) v2) = 0 then some (.inl ((v3, x4, z7))) else bindT ((x4 + 1)) fun x9 => some (.inl ((x9, v4, z7)))) else some (.inr ((v3, v4, σ))))
def F_For_leastWealth (σ : Mem) (t1 : Nat) (v2 : Int32) : Option (Mem × Int32) := bindT (F_Town_copyAll σ 95 t1) fun z1 => obind (omap mrg (forGO (fun i s => F_For_leastWealth_18_b t1 v2 i s.1 s.2.1 s.2.2) (cnt 0 999) 0 (0, 1000, z1))) fun z11 => (if 999 < z11.2.1 then some ((z11.2.2, (-1))) else some ((z11.2.2, z11.2.1)))
def F_For_tryMonths_20_b (t1 : Nat) (w2 : Nat) (v3 : Int32) (v4 : Int32) (v5 : Int32) (σ : Mem) : Option (Mem) := obind (F_Town_passMonth σ 95 w2 112) fun z4 => some (z4)
def F_For_tryMonths (σ : Mem) (t1 : Nat) (w2 : Nat) (v3 : Int32) (v4 : Int32) : Option (Mem × Int32) := bindT (F_Town_copyAll σ 95 t1) fun z1 => bindT (up z1 95 17 v4) fun σ2 => obind (forSO (fun i s => F_For_tryMonths_20_b t1 w2 v3 v4 i s) (cnt 0 v3) 0 σ2) fun z6 => some ((z6, ((z6 95 19) - (z6 t1 19))))
def F_For_ruinedInTrial (σ : Mem)  : Int32 := (σ 95 9)
set_option maxRecDepth 20000 in
set_option maxHeartbeats 4000000 in
theorem C_For_turnsNow (hG : Gok l Γ D s0) (σ : Mem) (t1 : Nat) (w2 : Nat) (v3 : Int32) (gt1 : isTown t1) (gw2 : isLaw w2) {out : Mem × Int32} (hF : F_For_turnsNow σ t1 w2 v3 = some out) : CT l Γ D s0 yX0_turnsNow cX0_turnsNow 4 (some .int) (4) 0 0 (92) σ [.ref (Γ.1 + 94), .ref (Γ.1 + t1), .ref (Γ.1 + w2), .int v3] (PI (some (.int out.2)) out.1) := by
  unfold F_For_turnsNow at hF
  refine e_met (own := RX0) hG (by decide +kernel) rfl rfl (Nat.le_of_ble_eq_true rfl) ?_
  intro p e s m args below meth c X hr
  show E p l e _ s m args below meth c Γ D 0 0 _ σ 0 [some (.ref (Γ.1 + 94)), some (.ref (Γ.1 + t1)), some (.ref (Γ.1 + w2)), some (.int v3)] []
  refine e_aload_n X dX0_turnsNow_0 rfl rfl ?_
  refine e_iload_n X dX0_turnsNow_1 rfl rfl ?_
  refine e_aload_n X dX0_turnsNow_2 rfl rfl ?_
  refine ge_Town_quarrel X gt1 wf_X0_37 dX0_turnsNow_3 ?_
  refine e_aload_n X dX0_turnsNow_6 rfl rfl ?_
  refine ge_For_look X wf_X0_21 dX0_turnsNow_7 ?_
  obtain ⟨z1, h_z1, hF⟩ := bindT_out hF
  refine e_callVv X (σ1 := z1) [.int v3, .int ((σ t1 16)), .ref (Γ.1 + 112)] [] (by rw [h_z1]; exact C_Town_lookAt (Cx_gok X) σ t1 v3 ((σ t1 16)) 112 gt1 ok_Look_112) gv_X0_41 yk_X9_lookAt rfl (ent_lt gt1.1) (ent_at gt1.1 _) (rfl : vCl[8]? = some (RX9, TX9, 20)) ⟨Nat.le_of_ble_eq_true rfl, Nat.le_of_ble_eq_true rfl⟩ ⟨Nat.le_of_ble_eq_true rfl, Nat.le_of_ble_eq_true rfl⟩ (Nat.le_of_ble_eq_true rfl) dX0_turnsNow_10 rfl ?_
  refine e_aload_n X dX0_turnsNow_13 rfl rfl ?_
  refine e_aload_n X dX0_turnsNow_14 rfl rfl ?_
  refine ge_For_look X wf_X0_21 dX0_turnsNow_15 ?_
  obtain ⟨z2, h_z2, hF⟩ := obind_out hF
  refine e_callVi X (r := z2.2) (σ1 := z2.1) [.ref (Γ.1 + 112)] [] (C_Law_turnsBy (Cx_gok X) z1 w2 112 gw2 ok_Look_112 h_z2) gv_X0_45 yk_X2_turnsBy rfl (ent_lt gw2.1) (ent_at gw2.1 _) (rfl : vCl[2]? = some (RX2, TX2, 6)) ⟨Nat.le_of_ble_eq_true rfl, Nat.le_of_ble_eq_true rfl⟩ ⟨Nat.le_of_ble_eq_true rfl, Nat.le_of_ble_eq_true rfl⟩ (Nat.le_of_ble_eq_true rfl) dX0_turnsNow_18 rfl ?_
  exact e_iret X hr dX0_turnsNow_21 (Nat.le_of_ble_eq_true rfl) (Nat.le_of_ble_eq_true rfl) (by cases hF; exact ⟨rfl, rfl⟩)
set_option maxRecDepth 20000 in
set_option maxHeartbeats 4000000 in
theorem C_For_happyNext (hG : Gok l Γ D s0) (σ : Mem) (t1 : Nat) (w2 : Nat) (v3 : Int32) (v4 : Int32) (gt1 : isTown t1) (gw2 : isLaw w2) {out : Mem × Int32} (hF : F_For_happyNext σ t1 w2 v3 v4 = some out) : CT l Γ D s0 yX0_happyNext cX0_happyNext 5 (some .int) (4) 0 0 (94) σ [.ref (Γ.1 + 94), .ref (Γ.1 + t1), .ref (Γ.1 + w2), .int v3, .int v4] (PI (some (.int out.2)) out.1) := by
  unfold F_For_happyNext at hF
  refine e_met (own := RX0) hG (by decide +kernel) rfl rfl (Nat.le_of_ble_eq_true rfl) ?_
  intro p e s m args below meth c X hr
  show E p l e _ s m args below meth c Γ D 0 0 _ σ 0 [some (.ref (Γ.1 + 94)), some (.ref (Γ.1 + t1)), some (.ref (Γ.1 + w2)), some (.int v3), some (.int v4)] []
  refine e_aload_n X dX0_happyNext_0 rfl rfl ?_
  refine e_iload_n X dX0_happyNext_1 rfl rfl ?_
  refine e_iload X dX0_happyNext_2 rfl ?_
  refine e_aload_n X dX0_happyNext_4 rfl rfl ?_
  refine ge_For_look X wf_X0_21 dX0_happyNext_5 ?_
  obtain ⟨z1, h_z1, hF⟩ := bindT_out hF
  refine e_callVv X (σ1 := z1) [.int v3, .int v4, .ref (Γ.1 + 112)] [] (by rw [h_z1]; exact C_Town_lookAt (Cx_gok X) σ t1 v3 v4 112 gt1 ok_Look_112) gv_X0_41 yk_X9_lookAt rfl (ent_lt gt1.1) (ent_at gt1.1 _) (rfl : vCl[8]? = some (RX9, TX9, 20)) ⟨Nat.le_of_ble_eq_true rfl, Nat.le_of_ble_eq_true rfl⟩ ⟨Nat.le_of_ble_eq_true rfl, Nat.le_of_ble_eq_true rfl⟩ (Nat.le_of_ble_eq_true rfl) dX0_happyNext_8 rfl ?_
  refine e_aload_n X dX0_happyNext_11 rfl rfl ?_
  refine ge_For_look X wf_X0_21 dX0_happyNext_12 ?_
  refine e_aload_n X dX0_happyNext_15 rfl rfl ?_
  obtain ⟨z2, h_z2, hF⟩ := obind_out hF
  refine e_callVi X (r := z2.2) (σ1 := z2.1) [.ref (Γ.1 + w2)] [] (C_Look_happyTurned (Cx_gok X) z1 112 w2 ok_Look_112 gw2 h_z2) gv_X0_51 yk_X4_happyTurned rfl (ent_lt ok_Look_112) (ent_at ok_Look_112 _) (rfl : vCl[4]? = some (RX4, TX4, 7)) ⟨Nat.le_of_ble_eq_true rfl, Nat.le_of_ble_eq_true rfl⟩ ⟨Nat.le_of_ble_eq_true rfl, Nat.le_of_ble_eq_true rfl⟩ (Nat.le_of_ble_eq_true rfl) dX0_happyNext_16 rfl ?_
  exact e_iret X hr dX0_happyNext_19 (Nat.le_of_ble_eq_true rfl) (Nat.le_of_ble_eq_true rfl) (by cases hF; exact ⟨rfl, rfl⟩)
set_option maxRecDepth 20000 in
set_option maxHeartbeats 4000000 in
theorem L_For_happyAhead_14 (X : Cx p l s m args meth c Γ D s0 RX0 cX0_happyAhead 7) (hr : meth.sig.returnType = (some .int)) (t1 : Nat) (w2 : Nat) (v3 : Int32) (v4 : Int32) (v5 : Int32) (gt1 : isTown t1) (gw2 : isLaw w2) : ∀ (n : Nat) (v6 : Int32) (σ : Mem) {z : Mem}, forSO (fun i s => F_For_happyAhead_14_b t1 w2 v3 v4 v5 i s) n v6 σ = some z → n = cnt v6 v4 → ¬ v6 < 0 → (E p l e ({ frames := 5, cells := 0, slots := 0, locals := 115 } : Room) s m args below meth c Γ D 0 0 (MQ below (QcA Γ D Pst) args s 0 0 (frB Γ)) z 49 [some (.ref (Γ.1 + 94)), some (.ref (Γ.1 + t1)), some (.ref (Γ.1 + w2)), some (.int v3), some (.int v4), some (.int v5), none] []) → E p l e ({ frames := 5, cells := 0, slots := 0, locals := 115 } : Room) s m args below meth c Γ D 0 0 (MQ below (QcA Γ D Pst) args s 0 0 (frB Γ)) σ 14 [some (.ref (Γ.1 + 94)), some (.ref (Γ.1 + t1)), some (.ref (Γ.1 + w2)), some (.int v3), some (.int v4), some (.int v5), some (.int v6)] [] := by
  intro n
  induction n with
  | zero =>
    intro v6 σ z hF hn h0 hK
    refine e_iload X dX0_happyAhead_14 rfl ?_
    refine e_iload X dX0_happyAhead_16 rfl ?_
    refine e_icmp_ge X 49 dX0_happyAhead_18 (by decide) (fun c6 => ?_) (fun c6 => ?_)
    · skip
      have hz9 := Option.some.inj hF; change (σ) = z at hz9; subst hz9
      exact e_le hK (And.intro rfl (And.intro rfl (And.intro rfl (And.intro rfl (And.intro rfl (And.intro rfl (trivial)))))))
    · skip
      exact absurd c6 (cnt0 hn)
  | succ n ih =>
    intro v6 σ z hF hn h0 hK
    obtain ⟨y9, hB, hF⟩ := forSO_step hF
    change F_For_happyAhead_14_b t1 w2 v3 v4 v5 v6 σ = some y9 at hB
    unfold F_For_happyAhead_14_b at hB
    refine e_iload X dX0_happyAhead_14 rfl ?_
    refine e_iload X dX0_happyAhead_16 rfl ?_
    refine e_icmp_ge X 49 dX0_happyAhead_18 (by decide) (fun c2 => ?_) (fun c2 => ?_)
    · skip
      exact absurd (cntS hn) c2
    · skip
      refine e_aload_n X dX0_happyAhead_21 rfl rfl ?_
      refine ge_For_look X wf_X0_21 dX0_happyAhead_22 ?_
      refine e_aload_n X dX0_happyAhead_25 rfl rfl ?_
      refine ge_For_look X wf_X0_21 dX0_happyAhead_26 ?_
      refine e_aload_n X dX0_happyAhead_29 rfl rfl ?_
      obtain ⟨z3, h_z3, hB⟩ := obind_out hB
      refine e_callVi X (r := z3.2) (σ1 := z3.1) [.ref (Γ.1 + w2)] [.ref (Γ.1 + 112)] (C_Look_happyBehindMonth (Cx_gok X) σ 112 w2 ok_Look_112 gw2 h_z3) gv_X0_55 yk_X4_happyBehindMonth rfl (ent_lt ok_Look_112) (ent_at ok_Look_112 _) (rfl : vCl[4]? = some (RX4, TX4, 7)) ⟨Nat.le_of_ble_eq_true rfl, Nat.le_of_ble_eq_true rfl⟩ ⟨Nat.le_of_ble_eq_true rfl, Nat.le_of_ble_eq_true rfl⟩ (Nat.le_of_ble_eq_true rfl) dX0_happyAhead_30 rfl ?_
      obtain ⟨σ4, h_σ4, hB⟩ := bindT_out hB
      refine pu_Look_happy X ok_Look_112 wf_X0_58 dX0_happyAhead_33 h_σ4 ?_
      refine e_aload_n X dX0_happyAhead_36 rfl rfl ?_
      refine ge_For_look X wf_X0_21 dX0_happyAhead_37 ?_
      obtain ⟨z5, h_z5, hB⟩ := bindT_out hB
      refine e_callVv X (σ1 := z5) [] [] (by rw [h_z5]; exact C_Look_passTime (Cx_gok X) σ4 112 ok_Look_112) gv_X0_61 yk_X4_passTime rfl (ent_lt ok_Look_112) (ent_at ok_Look_112 _) (rfl : vCl[4]? = some (RX4, TX4, 7)) ⟨Nat.le_of_ble_eq_true rfl, Nat.le_of_ble_eq_true rfl⟩ ⟨Nat.le_of_ble_eq_true rfl, Nat.le_of_ble_eq_true rfl⟩ (Nat.le_of_ble_eq_true rfl) dX0_happyAhead_40 rfl ?_
      refine e_iinc X 1 dX0_happyAhead_43 rfl rfl (by decide) ?_
      refine e_goto X 14 dX0_happyAhead_46 (by decide) ?_
      have hy9 := Option.some.inj hB; change (z5) = y9 at hy9; subst hy9
      exact e_le (ih _ z5 hF (cntN hn) (nnN h0 (cnt_hi hn)) hK) (And.intro rfl (And.intro rfl (And.intro rfl (And.intro rfl (And.intro rfl (And.intro rfl (And.intro rfl (trivial))))))))
set_option maxRecDepth 20000 in
set_option maxHeartbeats 4000000 in
theorem C_For_happyAhead (hG : Gok l Γ D s0) (σ : Mem) (t1 : Nat) (w2 : Nat) (v3 : Int32) (v4 : Int32) (v5 : Int32) (gt1 : isTown t1) (gw2 : isLaw w2) {out : Mem × Int32} (hF : F_For_happyAhead σ t1 w2 v3 v4 v5 = some out) : CT l Γ D s0 yX0_happyAhead cX0_happyAhead 7 (some .int) (5) 0 0 (115) σ [.ref (Γ.1 + 94), .ref (Γ.1 + t1), .ref (Γ.1 + w2), .int v3, .int v4, .int v5] (PI (some (.int out.2)) out.1) := by
  unfold F_For_happyAhead at hF
  refine e_met (own := RX0) hG (by decide +kernel) rfl rfl (Nat.le_of_ble_eq_true rfl) ?_
  intro p e s m args below meth c X hr
  show E p l e _ s m args below meth c Γ D 0 0 _ σ 0 [some (.ref (Γ.1 + 94)), some (.ref (Γ.1 + t1)), some (.ref (Γ.1 + w2)), some (.int v3), some (.int v4), some (.int v5), none] []
  refine e_aload_n X dX0_happyAhead_0 rfl rfl ?_
  refine e_iload_n X dX0_happyAhead_1 rfl rfl ?_
  refine e_iload X dX0_happyAhead_2 rfl ?_
  refine e_aload_n X dX0_happyAhead_4 rfl rfl ?_
  refine ge_For_look X wf_X0_21 dX0_happyAhead_5 ?_
  obtain ⟨z1, h_z1, hF⟩ := bindT_out hF
  refine e_callVv X (σ1 := z1) [.int v3, .int v5, .ref (Γ.1 + 112)] [] (by rw [h_z1]; exact C_Town_lookAt (Cx_gok X) σ t1 v3 v5 112 gt1 ok_Look_112) gv_X0_41 yk_X9_lookAt rfl (ent_lt gt1.1) (ent_at gt1.1 _) (rfl : vCl[8]? = some (RX9, TX9, 20)) ⟨Nat.le_of_ble_eq_true rfl, Nat.le_of_ble_eq_true rfl⟩ ⟨Nat.le_of_ble_eq_true rfl, Nat.le_of_ble_eq_true rfl⟩ (Nat.le_of_ble_eq_true rfl) dX0_happyAhead_8 rfl ?_
  refine e_iconst X 0 dX0_happyAhead_11 rfl ?_
  refine e_istore X rfl dX0_happyAhead_12 (by decide) ?_
  obtain ⟨z7, h_z7, hF⟩ := obind_out hF
  refine e_le (L_For_happyAhead_14 X hr t1 w2 v3 v4 v5 gt1 gw2 _ 0 z1 h_z7 rfl (by decide) ?_) (And.intro rfl (And.intro rfl (And.intro rfl (And.intro rfl (And.intro rfl (And.intro rfl (And.intro rfl (trivial))))))))
  refine e_aload_n X dX0_happyAhead_49 rfl rfl ?_
  refine ge_For_look X wf_X0_21 dX0_happyAhead_50 ?_
  refine ge_Look_happy X ok_Look_112 wf_X0_58 dX0_happyAhead_53 ?_
  exact e_iret X hr dX0_happyAhead_56 (Nat.le_of_ble_eq_true rfl) (Nat.le_of_ble_eq_true rfl) (by cases hF; exact ⟨rfl, rfl⟩)
set_option maxRecDepth 20000 in
set_option maxHeartbeats 4000000 in
theorem L_For_firstClaim_14 (X : Cx p l s m args meth c Γ D s0 RX0 cX0_firstClaim 6) (hr : meth.sig.returnType = (some .int)) (t1 : Nat) (w2 : Nat) (v3 : Int32) (v4 : Int32) (gt1 : isTown t1) (gw2 : isLaw w2) : ∀ (n : Nat) (v5 : Int32) (σ : Mem) {z : (Mem) ⊕ (Mem × Int32)}, forGO (fun i s => F_For_firstClaim_14_b t1 w2 v3 v4 i s) n v5 σ = some z → n = cle v5 40 → ¬ v5 < 0 → (sumP z (fun s9 => E p l e ({ frames := 5, cells := 0, slots := 0, locals := 115 } : Room) s m args below meth c Γ D 0 0 (MQ below (QcA Γ D Pst) args s 0 0 (frB Γ)) s9 66 [some (.ref (Γ.1 + 94)), some (.ref (Γ.1 + t1)), some (.ref (Γ.1 + w2)), some (.int v3), some (.int v4), none] []) (fun r9 => Pst (some (.int r9.2)) r9.1)) → E p l e ({ frames := 5, cells := 0, slots := 0, locals := 115 } : Room) s m args below meth c Γ D 0 0 (MQ below (QcA Γ D Pst) args s 0 0 (frB Γ)) σ 14 [some (.ref (Γ.1 + 94)), some (.ref (Γ.1 + t1)), some (.ref (Γ.1 + w2)), some (.int v3), some (.int v4), some (.int v5)] [] := by
  intro n
  induction n with
  | zero =>
    intro v5 σ z hF hn h0 hK
    refine e_iload X dX0_firstClaim_14 rfl ?_
    refine e_bipush X 40 dX0_firstClaim_16 rfl ?_
    refine e_icmp_gt X 66 dX0_firstClaim_18 (by decide) (fun c7 => ?_) (fun c7 => ?_)
    · skip
      have hz9 := Option.some.inj hF; change (.inl σ) = z at hz9; subst hz9
      exact e_le hK (And.intro rfl (And.intro rfl (And.intro rfl (And.intro rfl (And.intro rfl (trivial))))))
    · skip
      exact absurd (cle0 hn) c7
  | succ n ih =>
    intro v5 σ z hF hn h0 hK
    obtain ⟨y9, hB, hF⟩ := forRO_step hF
    change F_For_firstClaim_14_b t1 w2 v3 v4 v5 σ = some y9 at hB
    unfold F_For_firstClaim_14_b at hB
    refine e_iload X dX0_firstClaim_14 rfl ?_
    refine e_bipush X 40 dX0_firstClaim_16 rfl ?_
    refine e_icmp_gt X 66 dX0_firstClaim_18 (by decide) (fun c2 => ?_) (fun c2 => ?_)
    · skip
      exact absurd c2 (cleS hn)
    · skip
      refine e_aload_n X dX0_firstClaim_21 rfl rfl ?_
      refine ge_For_look X wf_X0_21 dX0_firstClaim_22 ?_
      refine e_aload_n X dX0_firstClaim_25 rfl rfl ?_
      refine ge_For_look X wf_X0_21 dX0_firstClaim_26 ?_
      refine e_aload_n X dX0_firstClaim_29 rfl rfl ?_
      obtain ⟨z3, h_z3, hB⟩ := obind_out hB
      refine e_callVi X (r := z3.2) (σ1 := z3.1) [.ref (Γ.1 + w2)] [.ref (Γ.1 + 112)] (C_Look_happyBehindMonth (Cx_gok X) σ 112 w2 ok_Look_112 gw2 h_z3) gv_X0_55 yk_X4_happyBehindMonth rfl (ent_lt ok_Look_112) (ent_at ok_Look_112 _) (rfl : vCl[4]? = some (RX4, TX4, 7)) ⟨Nat.le_of_ble_eq_true rfl, Nat.le_of_ble_eq_true rfl⟩ ⟨Nat.le_of_ble_eq_true rfl, Nat.le_of_ble_eq_true rfl⟩ (Nat.le_of_ble_eq_true rfl) dX0_firstClaim_30 rfl ?_
      obtain ⟨σ4, h_σ4, hB⟩ := bindT_out hB
      refine pu_Look_happy X ok_Look_112 wf_X0_58 dX0_firstClaim_33 h_σ4 ?_
      refine e_aload_n X dX0_firstClaim_36 rfl rfl ?_
      refine ge_For_look X wf_X0_21 dX0_firstClaim_37 ?_
      obtain ⟨z5, h_z5, hB⟩ := bindT_out hB
      refine e_callVv X (σ1 := z5) [] [] (by rw [h_z5]; exact C_Look_passTime (Cx_gok X) σ4 112 ok_Look_112) gv_X0_61 yk_X4_passTime rfl (ent_lt ok_Look_112) (ent_at ok_Look_112 _) (rfl : vCl[4]? = some (RX4, TX4, 7)) ⟨Nat.le_of_ble_eq_true rfl, Nat.le_of_ble_eq_true rfl⟩ ⟨Nat.le_of_ble_eq_true rfl, Nat.le_of_ble_eq_true rfl⟩ (Nat.le_of_ble_eq_true rfl) dX0_firstClaim_40 rfl ?_
      refine e_aload_n X dX0_firstClaim_43 rfl rfl ?_
      refine ge_For_look X wf_X0_21 dX0_firstClaim_44 ?_
      refine ge_Look_happy X ok_Look_112 wf_X0_58 dX0_firstClaim_47 ?_
      refine e_aload_n X dX0_firstClaim_50 rfl rfl ?_
      refine ge_Town_bar X gt1 wf_X0_64 dX0_firstClaim_51 ?_
      refine e_icmp_ge X 60 dX0_firstClaim_54 (by decide) (fun c6 => ?_) (fun c6 => ?_)
      · skip
        rw [if_neg c6] at hB
        refine e_iinc X 1 dX0_firstClaim_60 rfl rfl (by decide) ?_
        refine e_goto X 14 dX0_firstClaim_63 (by decide) ?_
        have hy9 := Option.some.inj hB; change (.inl z5) = y9 at hy9; subst hy9
        exact e_le (ih _ z5 hF (cleN (by decide) hn) (nnN h0 (cle_hi (by decide) hn)) hK) (And.intro rfl (And.intro rfl (And.intro rfl (And.intro rfl (And.intro rfl (And.intro rfl (trivial)))))))
      · skip
        rw [if_pos c6] at hB
        refine e_iload X dX0_firstClaim_57 rfl ?_
        have hy9 := Option.some.inj hB; change (.inr ((z5, v5))) = y9 at hy9; subst hy9
        have hz9 := Option.some.inj hF; change (.inr ((z5, v5))) = z at hz9; subst hz9
        exact e_iret X hr dX0_firstClaim_59 (Nat.le_of_ble_eq_true rfl) (Nat.le_of_ble_eq_true rfl) hK
set_option maxRecDepth 20000 in
set_option maxHeartbeats 4000000 in
theorem C_For_firstClaim (hG : Gok l Γ D s0) (σ : Mem) (t1 : Nat) (w2 : Nat) (v3 : Int32) (v4 : Int32) (gt1 : isTown t1) (gw2 : isLaw w2) {out : Mem × Int32} (hF : F_For_firstClaim σ t1 w2 v3 v4 = some out) : CT l Γ D s0 yX0_firstClaim cX0_firstClaim 6 (some .int) (5) 0 0 (115) σ [.ref (Γ.1 + 94), .ref (Γ.1 + t1), .ref (Γ.1 + w2), .int v3, .int v4] (PI (some (.int out.2)) out.1) := by
  unfold F_For_firstClaim at hF
  refine e_met (own := RX0) hG (by decide +kernel) rfl rfl (Nat.le_of_ble_eq_true rfl) ?_
  intro p e s m args below meth c X hr
  show E p l e _ s m args below meth c Γ D 0 0 _ σ 0 [some (.ref (Γ.1 + 94)), some (.ref (Γ.1 + t1)), some (.ref (Γ.1 + w2)), some (.int v3), some (.int v4), none] []
  refine e_aload_n X dX0_firstClaim_0 rfl rfl ?_
  refine e_iload_n X dX0_firstClaim_1 rfl rfl ?_
  refine e_iload X dX0_firstClaim_2 rfl ?_
  refine e_aload_n X dX0_firstClaim_4 rfl rfl ?_
  refine ge_For_look X wf_X0_21 dX0_firstClaim_5 ?_
  obtain ⟨z1, h_z1, hF⟩ := bindT_out hF
  refine e_callVv X (σ1 := z1) [.int v3, .int v4, .ref (Γ.1 + 112)] [] (by rw [h_z1]; exact C_Town_lookAt (Cx_gok X) σ t1 v3 v4 112 gt1 ok_Look_112) gv_X0_41 yk_X9_lookAt rfl (ent_lt gt1.1) (ent_at gt1.1 _) (rfl : vCl[8]? = some (RX9, TX9, 20)) ⟨Nat.le_of_ble_eq_true rfl, Nat.le_of_ble_eq_true rfl⟩ ⟨Nat.le_of_ble_eq_true rfl, Nat.le_of_ble_eq_true rfl⟩ (Nat.le_of_ble_eq_true rfl) dX0_firstClaim_8 rfl ?_
  refine e_iconst X 1 dX0_firstClaim_11 rfl ?_
  refine e_istore X rfl dX0_firstClaim_12 (by decide) ?_
  obtain ⟨z8, h_z8, hF⟩ := obind_out hF
  refine e_le (L_For_firstClaim_14 X hr t1 w2 v3 v4 gt1 gw2 _ 1 z1 h_z8 rfl (by decide) ?_) (And.intro rfl (And.intro rfl (And.intro rfl (And.intro rfl (And.intro rfl (And.intro rfl (trivial)))))))
  cases z8 with
  | inl s9 =>
    replace hF := hF
    rw [sumE] at hF
    show E p l e _ s m args below meth c Γ D _ _ _ _ _ _ _
    refine e_iconst X (-1) dX0_firstClaim_66 rfl ?_
    exact e_iret X hr dX0_firstClaim_67 (Nat.le_of_ble_eq_true rfl) (Nat.le_of_ble_eq_true rfl) (by cases hF; exact ⟨rfl, rfl⟩)
  | inr r10 =>
    rw [sumE] at hF
    cases hF
    exact ⟨rfl, rfl⟩
set_option maxRecDepth 20000 in
set_option maxHeartbeats 4000000 in
theorem L_For_claimQuarrels_16 (X : Cx p l s m args meth c Γ D s0 RX0 cX0_claimQuarrels 6) (hr : meth.sig.returnType = (some .int)) (t1 : Nat) (w2 : Nat) (v3 : Int32) (gt1 : isTown t1) (gw2 : isLaw w2) : ∀ (n : Nat) (v5 : Int32) (v4 : Int32) (σ : Mem) {z : Int32 × Mem}, forSO (fun i s => F_For_claimQuarrels_16_b t1 w2 v3 i s.1 s.2) n v5 (v4, σ) = some z → n = cnt v5 10 → ¬ v5 < 0 → (E p l e ({ frames := 4, cells := 0, slots := 0, locals := 94 } : Room) s m args below meth c Γ D 0 0 (MQ below (QcA Γ D Pst) args s 0 0 (frB Γ)) z.2 56 [some (.ref (Γ.1 + 94)), some (.ref (Γ.1 + t1)), some (.ref (Γ.1 + w2)), some (.int v3), some (.int z.1), none] []) → E p l e ({ frames := 4, cells := 0, slots := 0, locals := 94 } : Room) s m args below meth c Γ D 0 0 (MQ below (QcA Γ D Pst) args s 0 0 (frB Γ)) σ 16 [some (.ref (Γ.1 + 94)), some (.ref (Γ.1 + t1)), some (.ref (Γ.1 + w2)), some (.int v3), some (.int v4), some (.int v5)] [] := by
  intro n
  induction n with
  | zero =>
    intro v5 v4 σ z hF hn h0 hK
    refine e_iload X dX0_claimQuarrels_16 rfl ?_
    refine e_bipush X 10 dX0_claimQuarrels_18 rfl ?_
    refine e_icmp_ge X 56 dX0_claimQuarrels_20 (by decide) (fun c7 => ?_) (fun c7 => ?_)
    · skip
      have hz9 := Option.some.inj hF; change ((v4, σ)) = z at hz9; subst hz9
      exact e_le hK (And.intro rfl (And.intro rfl (And.intro rfl (And.intro rfl (And.intro rfl (trivial))))))
    · skip
      exact absurd c7 (cnt0 hn)
  | succ n ih =>
    intro v5 v4 σ z hF hn h0 hK
    obtain ⟨y9, hB, hF⟩ := forSO_step hF
    change F_For_claimQuarrels_16_b t1 w2 v3 v5 v4 σ = some y9 at hB
    unfold F_For_claimQuarrels_16_b at hB
    refine e_iload X dX0_claimQuarrels_16 rfl ?_
    refine e_bipush X 10 dX0_claimQuarrels_18 rfl ?_
    refine e_icmp_ge X 56 dX0_claimQuarrels_20 (by decide) (fun c2 => ?_) (fun c2 => ?_)
    · skip
      exact absurd (cntS hn) c2
    · skip
      refine e_aload_n X dX0_claimQuarrels_23 rfl rfl ?_
      refine ge_For_look X wf_X0_21 dX0_claimQuarrels_24 ?_
      refine e_iload X dX0_claimQuarrels_27 rfl ?_
      obtain ⟨σ3, h_σ3, hB⟩ := bindT_out hB
      refine pu_Look_quarrel X ok_Look_112 wf_X0_67 dX0_claimQuarrels_29 h_σ3 ?_
      refine e_aload_n X dX0_claimQuarrels_32 rfl rfl ?_
      refine ge_For_look X wf_X0_21 dX0_claimQuarrels_33 ?_
      refine e_aload_n X dX0_claimQuarrels_36 rfl rfl ?_
      obtain ⟨z4, h_z4, hB⟩ := obind_out hB
      refine e_callVi X (r := z4.2) (σ1 := z4.1) [.ref (Γ.1 + w2)] [] (C_Look_happyTurned (Cx_gok X) σ3 112 w2 ok_Look_112 gw2 h_z4) gv_X0_51 yk_X4_happyTurned rfl (ent_lt ok_Look_112) (ent_at ok_Look_112 _) (rfl : vCl[4]? = some (RX4, TX4, 7)) ⟨Nat.le_of_ble_eq_true rfl, Nat.le_of_ble_eq_true rfl⟩ ⟨Nat.le_of_ble_eq_true rfl, Nat.le_of_ble_eq_true rfl⟩ (Nat.le_of_ble_eq_true rfl) dX0_claimQuarrels_37 rfl ?_
      refine e_aload_n X dX0_claimQuarrels_40 rfl rfl ?_
      refine ge_Town_bar X gt1 wf_X0_64 dX0_claimQuarrels_41 ?_
      refine e_icmp_ge X 50 dX0_claimQuarrels_44 (by decide) (fun c5 => ?_) (fun c5 => ?_)
      · skip
        rw [if_neg c5] at hB
        refine e_iinc X 1 dX0_claimQuarrels_50 rfl rfl (by decide) ?_
        refine e_goto X 16 dX0_claimQuarrels_53 (by decide) ?_
        have hy9 := Option.some.inj hB; change ((v4, z4.1)) = y9 at hy9; subst hy9
        exact e_le (ih _ v4 z4.1 hF (cntN hn) (nnN h0 (cnt_hi hn)) hK) (And.intro rfl (And.intro rfl (And.intro rfl (And.intro rfl (And.intro rfl (And.intro rfl (trivial)))))))
      · skip
        rw [if_pos c5] at hB
        refine e_iinc X 1 dX0_claimQuarrels_47 rfl rfl (by decide) ?_
        obtain ⟨x6, h_x6, hB⟩ := bindT_out hB
        rw [← h_x6]
        refine e_iinc X 1 dX0_claimQuarrels_50 rfl rfl (by decide) ?_
        refine e_goto X 16 dX0_claimQuarrels_53 (by decide) ?_
        have hy9 := Option.some.inj hB; change ((x6, z4.1)) = y9 at hy9; subst hy9
        exact e_le (ih _ x6 z4.1 hF (cntN hn) (nnN h0 (cnt_hi hn)) hK) (And.intro rfl (And.intro rfl (And.intro rfl (And.intro rfl (And.intro rfl (And.intro rfl (trivial)))))))
set_option maxRecDepth 20000 in
set_option maxHeartbeats 4000000 in
theorem C_For_claimQuarrels (hG : Gok l Γ D s0) (σ : Mem) (t1 : Nat) (w2 : Nat) (v3 : Int32) (gt1 : isTown t1) (gw2 : isLaw w2) {out : Mem × Int32} (hF : F_For_claimQuarrels σ t1 w2 v3 = some out) : CT l Γ D s0 yX0_claimQuarrels cX0_claimQuarrels 6 (some .int) (4) 0 0 (94) σ [.ref (Γ.1 + 94), .ref (Γ.1 + t1), .ref (Γ.1 + w2), .int v3] (PI (some (.int out.2)) out.1) := by
  unfold F_For_claimQuarrels at hF
  refine e_met (own := RX0) hG (by decide +kernel) rfl rfl (Nat.le_of_ble_eq_true rfl) ?_
  intro p e s m args below meth c X hr
  show E p l e _ s m args below meth c Γ D 0 0 _ σ 0 [some (.ref (Γ.1 + 94)), some (.ref (Γ.1 + t1)), some (.ref (Γ.1 + w2)), some (.int v3), none, none] []
  refine e_aload_n X dX0_claimQuarrels_0 rfl rfl ?_
  refine e_iload_n X dX0_claimQuarrels_1 rfl rfl ?_
  refine e_iconst X 0 dX0_claimQuarrels_2 rfl ?_
  refine e_aload_n X dX0_claimQuarrels_3 rfl rfl ?_
  refine ge_For_look X wf_X0_21 dX0_claimQuarrels_4 ?_
  obtain ⟨z1, h_z1, hF⟩ := bindT_out hF
  refine e_callVv X (σ1 := z1) [.int v3, .int 0, .ref (Γ.1 + 112)] [] (by rw [h_z1]; exact C_Town_lookAt (Cx_gok X) σ t1 v3 0 112 gt1 ok_Look_112) gv_X0_41 yk_X9_lookAt rfl (ent_lt gt1.1) (ent_at gt1.1 _) (rfl : vCl[8]? = some (RX9, TX9, 20)) ⟨Nat.le_of_ble_eq_true rfl, Nat.le_of_ble_eq_true rfl⟩ ⟨Nat.le_of_ble_eq_true rfl, Nat.le_of_ble_eq_true rfl⟩ (Nat.le_of_ble_eq_true rfl) dX0_claimQuarrels_7 rfl ?_
  refine e_iconst X 0 dX0_claimQuarrels_10 rfl ?_
  refine e_istore X rfl dX0_claimQuarrels_11 (by decide) ?_
  refine e_iconst X 0 dX0_claimQuarrels_13 rfl ?_
  refine e_istore X rfl dX0_claimQuarrels_14 (by decide) ?_
  obtain ⟨z8, h_z8, hF⟩ := obind_out hF
  refine e_le (L_For_claimQuarrels_16 X hr t1 w2 v3 gt1 gw2 _ 0 0 z1 h_z8 rfl (by decide) ?_) (And.intro rfl (And.intro rfl (And.intro rfl (And.intro rfl (And.intro rfl (And.intro rfl (trivial)))))))
  refine e_iload X dX0_claimQuarrels_56 rfl ?_
  exact e_iret X hr dX0_claimQuarrels_58 (Nat.le_of_ble_eq_true rfl) (Nat.le_of_ble_eq_true rfl) (by cases hF; exact ⟨rfl, rfl⟩)
set_option maxRecDepth 20000 in
set_option maxHeartbeats 4000000 in
theorem L_For_addGifts_2 (X : Cx p l s m args meth c Γ D s0 RX0 cX0_addGifts 3) (hr : meth.sig.returnType = none)   : ∀ (n : Nat) (v1 : Int32) (σ : Mem) {z : Mem}, forS (fun i s => F_For_addGifts_2_b  i s) n v1 σ = z → n = cnt v1 99 → ¬ v1 < 0 → (E p l e ({ frames := 2, cells := 0, slots := 0, locals := 34 } : Room) s m args below meth c Γ D 0 0 (MQ below (QcA Γ D Pst) args s 0 0 (frB Γ)) z 50 [some (.ref (Γ.1 + 94)), none, none] []) → E p l e ({ frames := 2, cells := 0, slots := 0, locals := 34 } : Room) s m args below meth c Γ D 0 0 (MQ below (QcA Γ D Pst) args s 0 0 (frB Γ)) σ 2 [some (.ref (Γ.1 + 94)), some (.int v1), none] [] := by
  intro n
  induction n with
  | zero =>
    intro v1 σ z hF hn h0 hK
    refine e_iload_n X dX0_addGifts_2 rfl rfl ?_
    refine e_bipush X 99 dX0_addGifts_3 rfl ?_
    refine e_icmp_ge X 50 dX0_addGifts_5 (by decide) (fun c4 => ?_) (fun c4 => ?_)
    · skip
      have hz9 := hF; change (σ) = z at hz9; subst hz9
      exact e_le hK (And.intro rfl (trivial))
    · skip
      exact absurd c4 (cnt0 hn)
  | succ n ih =>
    intro v1 σ z hF hn h0 hK
    obtain ⟨y9, hB, hF⟩ := forS_step hF
    change F_For_addGifts_2_b  v1 σ = y9 at hB
    unfold F_For_addGifts_2_b at hB
    refine e_iload_n X dX0_addGifts_2 rfl rfl ?_
    refine e_bipush X 99 dX0_addGifts_3 rfl ?_
    refine e_icmp_ge X 50 dX0_addGifts_5 (by decide) (fun c1 => ?_) (fun c1 => ?_)
    · skip
      exact absurd (cntS hn) c1
    · skip
      refine e_iload_n X dX0_addGifts_8 rfl rfl ?_
      refine e_iconst X 5 dX0_addGifts_9 rfl ?_
      refine e_iadd X dX0_addGifts_10 ?_
      refine e_callSNi X (r := (F_W_happyWithin σ ((v1 + 5)))) (σ1 := σ) (host := RX11) [.int ((v1 + 5))] [] (C_W_happyWithin (Cx_gok X) σ ((v1 + 5))) gb_X11_happyWithin (by decide +kernel) wz_X11 ws_X11_happyWithin yk_X11_happyWithin.2 rfl ⟨Nat.le_of_ble_eq_true rfl, Nat.le_of_ble_eq_true rfl⟩ ⟨Nat.le_of_ble_eq_true rfl, Nat.le_of_ble_eq_true rfl⟩ (Nat.le_of_ble_eq_true rfl) dX0_addGifts_11 rfl ?_
      obtain ⟨x2, h_x2, hB⟩ := bindT_out hB
      refine e_istore_n X h_x2 dX0_addGifts_14 rfl (by decide) ?_
      refine e_aload_n X dX0_addGifts_15 rfl rfl ?_
      refine ge_For_cost X wf_X0_30 dX0_addGifts_16 ?_
      refine e_iload_n X dX0_addGifts_19 rfl rfl ?_
      refine e_aload_n X dX0_addGifts_20 rfl rfl ?_
      refine ge_For_cost X wf_X0_30 dX0_addGifts_21 ?_
      refine e_iload_n X dX0_addGifts_24 rfl rfl ?_
      refine e_callVi X (r := (F_Row_at σ 113 100 x2)) (σ1 := σ) [.int x2] [.int x2, .ref (Γ.1 + 113)] (C_Row_at (Cx_gok X) σ 113 100 x2 ok_Row_113) gv_X0_82 yk_X6_at rfl (ent_lt ok_Row_113.1) (ent_at ok_Row_113.1 _) (rfl : vCl[6]? = some (RX6, TX6, 1)) ⟨Nat.le_of_ble_eq_true rfl, Nat.le_of_ble_eq_true rfl⟩ ⟨Nat.le_of_ble_eq_true rfl, Nat.le_of_ble_eq_true rfl⟩ (Nat.le_of_ble_eq_true rfl) dX0_addGifts_25 rfl ?_
      refine e_aload_n X dX0_addGifts_28 rfl rfl ?_
      refine ge_For_cost X wf_X0_30 dX0_addGifts_29 ?_
      refine e_iload_n X dX0_addGifts_32 rfl rfl ?_
      refine e_callVi X (r := (F_Row_at σ 113 100 v1)) (σ1 := σ) [.int v1] [.int ((F_Row_at σ 113 100 x2)), .int x2, .ref (Γ.1 + 113)] (C_Row_at (Cx_gok X) σ 113 100 v1 ok_Row_113) gv_X0_82 yk_X6_at rfl (ent_lt ok_Row_113.1) (ent_at ok_Row_113.1 _) (rfl : vCl[6]? = some (RX6, TX6, 1)) ⟨Nat.le_of_ble_eq_true rfl, Nat.le_of_ble_eq_true rfl⟩ ⟨Nat.le_of_ble_eq_true rfl, Nat.le_of_ble_eq_true rfl⟩ (Nat.le_of_ble_eq_true rfl) dX0_addGifts_33 rfl ?_
      refine e_iconst X 1 dX0_addGifts_36 rfl ?_
      refine e_iadd X dX0_addGifts_37 ?_
      refine e_mmin X wMl_X0_86 wMs_min wMi wMc_min (Nat.le_of_ble_eq_true rfl) (Nat.le_of_ble_eq_true rfl) (Nat.le_of_ble_eq_true rfl) (Nat.le_of_ble_eq_true rfl) dX0_addGifts_38 ?_
      obtain ⟨z3, h_z3, hB⟩ := bindT_out hB
      refine e_callVv X (σ1 := z3) [.int x2, .int ((if ((F_Row_at σ 113 100 v1) + 1) < (F_Row_at σ 113 100 x2) then ((F_Row_at σ 113 100 v1) + 1) else (F_Row_at σ 113 100 x2)))] [] (by rw [h_z3]; exact C_Row_put (Cx_gok X) σ 113 100 x2 ((if ((F_Row_at σ 113 100 v1) + 1) < (F_Row_at σ 113 100 x2) then ((F_Row_at σ 113 100 v1) + 1) else (F_Row_at σ 113 100 x2))) ok_Row_113) gv_X0_71 yk_X6_put rfl (ent_lt ok_Row_113.1) (ent_at ok_Row_113.1 _) (rfl : vCl[6]? = some (RX6, TX6, 1)) ⟨Nat.le_of_ble_eq_true rfl, Nat.le_of_ble_eq_true rfl⟩ ⟨Nat.le_of_ble_eq_true rfl, Nat.le_of_ble_eq_true rfl⟩ (Nat.le_of_ble_eq_true rfl) dX0_addGifts_41 rfl ?_
      refine e_iinc X 1 dX0_addGifts_44 rfl rfl (by decide) ?_
      refine e_goto X 2 dX0_addGifts_47 (by decide) ?_
      have hy9 := hB; change (z3) = y9 at hy9; subst hy9
      exact e_le (ih _ z3 hF (cntN hn) (nnN h0 (cnt_hi hn)) hK) (And.intro rfl (And.intro rfl (trivial)))
set_option maxRecDepth 20000 in
set_option maxHeartbeats 4000000 in
theorem C_For_addGifts (hG : Gok l Γ D s0) (σ : Mem)   : CT l Γ D s0 yX0_addGifts cX0_addGifts 3 none (2) 0 0 (34) σ [.ref (Γ.1 + 94)] (PI none (F_For_addGifts σ)) := by
  generalize hF : F_For_addGifts σ = out
  unfold F_For_addGifts at hF
  refine e_met (own := RX0) hG (by decide +kernel) rfl rfl (Nat.le_of_ble_eq_true rfl) ?_
  intro p e s m args below meth c X hr
  show E p l e _ s m args below meth c Γ D 0 0 _ σ 0 [some (.ref (Γ.1 + 94)), none, none] []
  refine e_iconst X 0 dX0_addGifts_0 rfl ?_
  refine e_istore_n X rfl dX0_addGifts_1 rfl (by decide) ?_
  obtain ⟨z5, h_z5, hF⟩ := bindT_out hF
  refine e_le (L_For_addGifts_2 X hr _ 0 σ h_z5.symm rfl (by decide) ?_) (And.intro rfl (And.intro rfl (trivial)))
  exact e_vret X hr dX0_addGifts_50 (Nat.le_of_ble_eq_true rfl) (Nat.le_of_ble_eq_true rfl) (by cases hF; exact ⟨rfl, rfl⟩)
set_option maxRecDepth 20000 in
set_option maxHeartbeats 4000000 in
theorem L_For_passCosts_11 (X : Cx p l s m args meth c Γ D s0 RX0 cX0_passCosts 5) (hr : meth.sig.returnType = none) (w1 : Nat) (v2 : Int32) (gw1 : isLaw w1) : ∀ (n : Nat) (v3 : Int32) (σ : Mem) {z : Mem}, forSO (fun i s => F_For_passCosts_11_b w1 v2 i s) n v3 σ = some z → n = cle v3 99 → ¬ v3 < 0 → (E p l e ({ frames := 5, cells := 0, slots := 0, locals := 321 } : Room) s m args below meth c Γ D 0 0 (MQ below (QcA Γ D Pst) args s 0 0 (frB Γ)) z 89 [some (.ref (Γ.1 + 94)), some (.ref (Γ.1 + w1)), some (.int v2), none, none] []) → E p l e ({ frames := 5, cells := 0, slots := 0, locals := 321 } : Room) s m args below meth c Γ D 0 0 (MQ below (QcA Γ D Pst) args s 0 0 (frB Γ)) σ 11 [some (.ref (Γ.1 + 94)), some (.ref (Γ.1 + w1)), some (.int v2), some (.int v3), none] [] := by
  intro n
  induction n with
  | zero =>
    intro v3 σ z hF hn h0 hK
    refine e_iload_n X dX0_passCosts_11 rfl rfl ?_
    refine e_bipush X 99 dX0_passCosts_12 rfl ?_
    refine e_icmp_gt X 89 dX0_passCosts_14 (by decide) (fun c8 => ?_) (fun c8 => ?_)
    · skip
      have hz9 := Option.some.inj hF; change (σ) = z at hz9; subst hz9
      exact e_le hK (And.intro rfl (And.intro rfl (And.intro rfl (trivial))))
    · skip
      exact absurd (cle0 hn) c8
  | succ n ih =>
    intro v3 σ z hF hn h0 hK
    obtain ⟨y9, hB, hF⟩ := forSO_step hF
    change F_For_passCosts_11_b w1 v2 v3 σ = some y9 at hB
    unfold F_For_passCosts_11_b at hB
    refine e_iload_n X dX0_passCosts_11 rfl rfl ?_
    refine e_bipush X 99 dX0_passCosts_12 rfl ?_
    refine e_icmp_gt X 89 dX0_passCosts_14 (by decide) (fun c2 => ?_) (fun c2 => ?_)
    · skip
      exact absurd c2 (cleS hn)
    · skip
      refine e_aload_n X dX0_passCosts_17 rfl rfl ?_
      refine ge_For_cost X wf_X0_30 dX0_passCosts_18 ?_
      refine e_iload_n X dX0_passCosts_21 rfl rfl ?_
      refine e_callVi X (r := (F_Row_at σ 113 100 v3)) (σ1 := σ) [.int v3] [] (C_Row_at (Cx_gok X) σ 113 100 v3 ok_Row_113) gv_X0_82 yk_X6_at rfl (ent_lt ok_Row_113.1) (ent_at ok_Row_113.1 _) (rfl : vCl[6]? = some (RX6, TX6, 1)) ⟨Nat.le_of_ble_eq_true rfl, Nat.le_of_ble_eq_true rfl⟩ ⟨Nat.le_of_ble_eq_true rfl, Nat.le_of_ble_eq_true rfl⟩ (Nat.le_of_ble_eq_true rfl) dX0_passCosts_22 rfl ?_
      refine e_bipush X 41 dX0_passCosts_25 rfl ?_
      refine e_icmp_ge X 83 dX0_passCosts_27 (by decide) (fun c3 => ?_) (fun c3 => ?_)
      · skip
        rw [if_neg c3] at hB
        refine e_iinc X 1 dX0_passCosts_83 rfl rfl (by decide) ?_
        refine e_goto X 11 dX0_passCosts_86 (by decide) ?_
        have hy9 := Option.some.inj hB; change (σ) = y9 at hy9; subst hy9
        exact e_le (ih _ σ hF (cleN (by decide) hn) (nnN h0 (cle_hi (by decide) hn)) hK) (And.intro rfl (And.intro rfl (And.intro rfl (And.intro rfl (trivial)))))
      · skip
        rw [if_pos c3] at hB
        refine e_aload_n X dX0_passCosts_30 rfl rfl ?_
        refine ge_For_look X wf_X0_21 dX0_passCosts_31 ?_
        refine e_iload_n X dX0_passCosts_34 rfl rfl ?_
        obtain ⟨σ4, h_σ4, hB⟩ := bindT_out hB
        refine pu_Look_happy X ok_Look_112 wf_X0_58 dX0_passCosts_35 h_σ4 ?_
        refine e_aload_n X dX0_passCosts_38 rfl rfl ?_
        refine ge_For_look X wf_X0_21 dX0_passCosts_39 ?_
        refine e_aload_n X dX0_passCosts_42 rfl rfl ?_
        obtain ⟨z5, h_z5, hB⟩ := obind_out hB
        refine e_callVi X (r := z5.2) (σ1 := z5.1) [.ref (Γ.1 + w1)] [] (C_Look_happyBehindMonth (Cx_gok X) σ4 112 w1 ok_Look_112 gw1 h_z5) gv_X0_55 yk_X4_happyBehindMonth rfl (ent_lt ok_Look_112) (ent_at ok_Look_112 _) (rfl : vCl[4]? = some (RX4, TX4, 7)) ⟨Nat.le_of_ble_eq_true rfl, Nat.le_of_ble_eq_true rfl⟩ ⟨Nat.le_of_ble_eq_true rfl, Nat.le_of_ble_eq_true rfl⟩ (Nat.le_of_ble_eq_true rfl) dX0_passCosts_43 rfl ?_
        refine e_istore X rfl dX0_passCosts_46 (by decide) ?_
        refine e_iload X dX0_passCosts_48 rfl ?_
        refine e_iload_n X dX0_passCosts_50 rfl rfl ?_
        refine e_icmp_lt X 83 dX0_passCosts_51 (by decide) (fun c6 => ?_) (fun c6 => ?_)
        · skip
          rw [if_pos c6] at hB
          refine e_iinc X 1 dX0_passCosts_83 rfl rfl (by decide) ?_
          refine e_goto X 11 dX0_passCosts_86 (by decide) ?_
          have hy9 := Option.some.inj hB; change (z5.1) = y9 at hy9; subst hy9
          exact e_le (ih _ z5.1 hF (cleN (by decide) hn) (nnN h0 (cle_hi (by decide) hn)) hK) (And.intro rfl (And.intro rfl (And.intro rfl (And.intro rfl (trivial)))))
        · skip
          rw [if_neg c6] at hB
          refine e_aload_n X dX0_passCosts_54 rfl rfl ?_
          refine ge_For_costBehind X wf_X0_34 dX0_passCosts_55 ?_
          refine e_iload X dX0_passCosts_58 rfl ?_
          refine e_aload_n X dX0_passCosts_60 rfl rfl ?_
          refine ge_For_costBehind X wf_X0_34 dX0_passCosts_61 ?_
          refine e_iload X dX0_passCosts_64 rfl ?_
          refine e_callVi X (r := (F_Row_at z5.1 115 100 z5.2)) (σ1 := z5.1) [.int z5.2] [.int z5.2, .ref (Γ.1 + 115)] (C_Row_at (Cx_gok X) z5.1 115 100 z5.2 ok_Row_115) gv_X0_82 yk_X6_at rfl (ent_lt ok_Row_115.1) (ent_at ok_Row_115.1 _) (rfl : vCl[6]? = some (RX6, TX6, 1)) ⟨Nat.le_of_ble_eq_true rfl, Nat.le_of_ble_eq_true rfl⟩ ⟨Nat.le_of_ble_eq_true rfl, Nat.le_of_ble_eq_true rfl⟩ (Nat.le_of_ble_eq_true rfl) dX0_passCosts_66 rfl ?_
          refine e_aload_n X dX0_passCosts_69 rfl rfl ?_
          refine ge_For_cost X wf_X0_30 dX0_passCosts_70 ?_
          refine e_iload_n X dX0_passCosts_73 rfl rfl ?_
          refine e_callVi X (r := (F_Row_at z5.1 113 100 v3)) (σ1 := z5.1) [.int v3] [.int ((F_Row_at z5.1 115 100 z5.2)), .int z5.2, .ref (Γ.1 + 115)] (C_Row_at (Cx_gok X) z5.1 113 100 v3 ok_Row_113) gv_X0_82 yk_X6_at rfl (ent_lt ok_Row_113.1) (ent_at ok_Row_113.1 _) (rfl : vCl[6]? = some (RX6, TX6, 1)) ⟨Nat.le_of_ble_eq_true rfl, Nat.le_of_ble_eq_true rfl⟩ ⟨Nat.le_of_ble_eq_true rfl, Nat.le_of_ble_eq_true rfl⟩ (Nat.le_of_ble_eq_true rfl) dX0_passCosts_74 rfl ?_
          refine e_mmin X wMl_X0_86 wMs_min wMi wMc_min (Nat.le_of_ble_eq_true rfl) (Nat.le_of_ble_eq_true rfl) (Nat.le_of_ble_eq_true rfl) (Nat.le_of_ble_eq_true rfl) dX0_passCosts_77 ?_
          obtain ⟨z7, h_z7, hB⟩ := bindT_out hB
          refine e_callVv X (σ1 := z7) [.int z5.2, .int ((if (F_Row_at z5.1 113 100 v3) < (F_Row_at z5.1 115 100 z5.2) then (F_Row_at z5.1 113 100 v3) else (F_Row_at z5.1 115 100 z5.2)))] [] (by rw [h_z7]; exact C_Row_put (Cx_gok X) z5.1 115 100 z5.2 ((if (F_Row_at z5.1 113 100 v3) < (F_Row_at z5.1 115 100 z5.2) then (F_Row_at z5.1 113 100 v3) else (F_Row_at z5.1 115 100 z5.2))) ok_Row_115) gv_X0_71 yk_X6_put rfl (ent_lt ok_Row_115.1) (ent_at ok_Row_115.1 _) (rfl : vCl[6]? = some (RX6, TX6, 1)) ⟨Nat.le_of_ble_eq_true rfl, Nat.le_of_ble_eq_true rfl⟩ ⟨Nat.le_of_ble_eq_true rfl, Nat.le_of_ble_eq_true rfl⟩ (Nat.le_of_ble_eq_true rfl) dX0_passCosts_80 rfl ?_
          refine e_iinc X 1 dX0_passCosts_83 rfl rfl (by decide) ?_
          refine e_goto X 11 dX0_passCosts_86 (by decide) ?_
          have hy9 := Option.some.inj hB; change (z7) = y9 at hy9; subst hy9
          exact e_le (ih _ z7 hF (cleN (by decide) hn) (nnN h0 (cle_hi (by decide) hn)) hK) (And.intro rfl (And.intro rfl (And.intro rfl (And.intro rfl (trivial)))))
set_option maxRecDepth 20000 in
set_option maxHeartbeats 4000000 in
theorem C_For_passCosts (hG : Gok l Γ D s0) (σ : Mem) (w1 : Nat) (v2 : Int32) (gw1 : isLaw w1) {out : Mem} (hF : F_For_passCosts σ w1 v2 = some out) : CT l Γ D s0 yX0_passCosts cX0_passCosts 5 none (5) 0 0 (321) σ [.ref (Γ.1 + 94), .ref (Γ.1 + w1), .int v2] (PI none out) := by
  unfold F_For_passCosts at hF
  refine e_met (own := RX0) hG (by decide +kernel) rfl rfl (Nat.le_of_ble_eq_true rfl) ?_
  intro p e s m args below meth c X hr
  show E p l e _ s m args below meth c Γ D 0 0 _ σ 0 [some (.ref (Γ.1 + 94)), some (.ref (Γ.1 + w1)), some (.int v2), none, none] []
  refine e_aload_n X dX0_passCosts_0 rfl rfl ?_
  refine ge_For_costBehind X wf_X0_34 dX0_passCosts_1 ?_
  refine e_bipush X 41 dX0_passCosts_4 rfl ?_
  obtain ⟨z1, h_z1, hF⟩ := bindT_out hF
  refine e_callVv X (σ1 := z1) [.int 41] [] (by rw [h_z1]; exact C_Row_putAll (Cx_gok X) σ 115 100 41 ok_Row_115) gv_X0_68 yk_X6_putAll rfl (ent_lt ok_Row_115.1) (ent_at ok_Row_115.1 _) (rfl : vCl[6]? = some (RX6, TX6, 1)) ⟨Nat.le_of_ble_eq_true rfl, Nat.le_of_ble_eq_true rfl⟩ ⟨Nat.le_of_ble_eq_true rfl, Nat.le_of_ble_eq_true rfl⟩ (Nat.le_of_ble_eq_true rfl) dX0_passCosts_6 rfl ?_
  refine e_iconst X 0 dX0_passCosts_9 rfl ?_
  refine e_istore_n X rfl dX0_passCosts_10 rfl (by decide) ?_
  obtain ⟨z9, h_z9, hF⟩ := obind_out hF
  refine e_le (L_For_passCosts_11 X hr w1 v2 gw1 _ 0 z1 h_z9 rfl (by decide) ?_) (And.intro rfl (And.intro rfl (And.intro rfl (And.intro rfl (trivial)))))
  refine e_aload_n X dX0_passCosts_89 rfl rfl ?_
  refine ge_For_cost X wf_X0_30 dX0_passCosts_90 ?_
  refine e_aload_n X dX0_passCosts_93 rfl rfl ?_
  refine ge_For_costBehind X wf_X0_34 dX0_passCosts_94 ?_
  obtain ⟨z10, h_z10, hF⟩ := bindT_out hF
  refine e_callVv X (σ1 := z10) [.ref (Γ.1 + 115)] [] (by rw [h_z10]; exact C_Row_copyAll (Cx_gok X) z9 113 100 115 100 ok_Row_113 ok_Row_115) gv_X0_95 yk_X6_copyAll rfl (ent_lt ok_Row_113.1) (ent_at ok_Row_113.1 _) (rfl : vCl[6]? = some (RX6, TX6, 1)) ⟨Nat.le_of_ble_eq_true rfl, Nat.le_of_ble_eq_true rfl⟩ ⟨Nat.le_of_ble_eq_true rfl, Nat.le_of_ble_eq_true rfl⟩ (Nat.le_of_ble_eq_true rfl) dX0_passCosts_97 rfl ?_
  refine e_aload_n X dX0_passCosts_100 rfl rfl ?_
  refine ge_For_look X wf_X0_21 dX0_passCosts_101 ?_
  obtain ⟨z11, h_z11, hF⟩ := bindT_out hF
  refine e_callVv X (σ1 := z11) [] [] (by rw [h_z11]; exact C_Look_passTime (Cx_gok X) z10 112 ok_Look_112) gv_X0_61 yk_X4_passTime rfl (ent_lt ok_Look_112) (ent_at ok_Look_112 _) (rfl : vCl[4]? = some (RX4, TX4, 7)) ⟨Nat.le_of_ble_eq_true rfl, Nat.le_of_ble_eq_true rfl⟩ ⟨Nat.le_of_ble_eq_true rfl, Nat.le_of_ble_eq_true rfl⟩ (Nat.le_of_ble_eq_true rfl) dX0_passCosts_104 rfl ?_
  exact e_vret X hr dX0_passCosts_107 (Nat.le_of_ble_eq_true rfl) (Nat.le_of_ble_eq_true rfl) (by cases hF; exact ⟨rfl, rfl⟩)
set_option maxRecDepth 20000 in
set_option maxHeartbeats 4000000 in
theorem L_For_fewestGifts_38 (X : Cx p l s m args meth c Γ D s0 RX0 cX0_fewestGifts 8) (hr : meth.sig.returnType = (some .int)) (t1 : Nat) (w2 : Nat) (v3 : Int32) (v4 : Int32) (v5 : Int32) (gt1 : isTown t1) (gw2 : isLaw w2) : ∀ (n : Nat) (v6 : Int32) (σ : Mem) {z : Mem}, forSO (fun i s => F_For_fewestGifts_38_b t1 w2 v3 v4 v5 i s) n v6 σ = some z → n = cnt v6 v4 → ¬ v6 < 0 → (E p l e ({ frames := 6, cells := 0, slots := 0, locals := 345 } : Room) s m args below meth c Γ D 0 0 (MQ below (QcA Γ D Pst) args s 0 0 (frB Γ)) z 64 [some (.ref (Γ.1 + 94)), some (.ref (Γ.1 + t1)), some (.ref (Γ.1 + w2)), some (.int v3), some (.int v4), some (.int v5), none, none] []) → E p l e ({ frames := 6, cells := 0, slots := 0, locals := 345 } : Room) s m args below meth c Γ D 0 0 (MQ below (QcA Γ D Pst) args s 0 0 (frB Γ)) σ 38 [some (.ref (Γ.1 + 94)), some (.ref (Γ.1 + t1)), some (.ref (Γ.1 + w2)), some (.int v3), some (.int v4), some (.int v5), some (.int v6), none] [] := by
  intro n
  induction n with
  | zero =>
    intro v6 σ z hF hn h0 hK
    refine e_iload X dX0_fewestGifts_38 rfl ?_
    refine e_iload X dX0_fewestGifts_40 rfl ?_
    refine e_icmp_ge X 64 dX0_fewestGifts_42 (by decide) (fun c7 => ?_) (fun c7 => ?_)
    · skip
      have hz9 := Option.some.inj hF; change (σ) = z at hz9; subst hz9
      exact e_le hK (And.intro rfl (And.intro rfl (And.intro rfl (And.intro rfl (And.intro rfl (And.intro rfl (trivial)))))))
    · skip
      exact absurd c7 (cnt0 hn)
  | succ n ih =>
    intro v6 σ z hF hn h0 hK
    obtain ⟨y9, hB, hF⟩ := forSO_step hF
    change F_For_fewestGifts_38_b t1 w2 v3 v4 v5 v6 σ = some y9 at hB
    unfold F_For_fewestGifts_38_b at hB
    refine e_iload X dX0_fewestGifts_38 rfl ?_
    refine e_iload X dX0_fewestGifts_40 rfl ?_
    refine e_icmp_ge X 64 dX0_fewestGifts_42 (by decide) (fun c4 => ?_) (fun c4 => ?_)
    · skip
      exact absurd (cntS hn) c4
    · skip
      refine e_aload_n X dX0_fewestGifts_45 rfl rfl ?_
      obtain ⟨z5, h_z5, hB⟩ := bindT_out hB
      refine e_callVv X (σ1 := z5) [] [] (by rw [h_z5]; exact C_For_addGifts (Cx_gok X) σ) gv_X0_75 yk_X0_addGifts rfl (ent_lt (rfl : entTbl[94]? = some (8, 0))) (ent_at (rfl : entTbl[94]? = some (8, 0)) _) (rfl : vCl[0]? = some (RX0, TX0, 4)) ⟨Nat.le_of_ble_eq_true rfl, Nat.le_of_ble_eq_true rfl⟩ ⟨Nat.le_of_ble_eq_true rfl, Nat.le_of_ble_eq_true rfl⟩ (Nat.le_of_ble_eq_true rfl) dX0_fewestGifts_46 rfl ?_
      refine e_aload_n X dX0_fewestGifts_49 rfl rfl ?_
      refine e_aload_n X dX0_fewestGifts_50 rfl rfl ?_
      refine e_aload_n X dX0_fewestGifts_51 rfl rfl ?_
      refine ge_Town_bar X gt1 wf_X0_64 dX0_fewestGifts_52 ?_
      obtain ⟨z6, h_z6, hB⟩ := obind_out hB
      refine e_callVv X (σ1 := z6) [.ref (Γ.1 + w2), .int ((z5 t1 12))] [] (C_For_passCosts (Cx_gok X) z5 w2 ((z5 t1 12)) gw2 h_z6) gv_X0_78 yk_X0_passCosts rfl (ent_lt (rfl : entTbl[94]? = some (8, 0))) (ent_at (rfl : entTbl[94]? = some (8, 0)) _) (rfl : vCl[0]? = some (RX0, TX0, 4)) ⟨Nat.le_of_ble_eq_true rfl, Nat.le_of_ble_eq_true rfl⟩ ⟨Nat.le_of_ble_eq_true rfl, Nat.le_of_ble_eq_true rfl⟩ (Nat.le_of_ble_eq_true rfl) dX0_fewestGifts_55 rfl ?_
      refine e_iinc X 1 dX0_fewestGifts_58 rfl rfl (by decide) ?_
      refine e_goto X 38 dX0_fewestGifts_61 (by decide) ?_
      have hy9 := Option.some.inj hB; change (z6) = y9 at hy9; subst hy9
      exact e_le (ih _ z6 hF (cntN hn) (nnN h0 (cnt_hi hn)) hK) (And.intro rfl (And.intro rfl (And.intro rfl (And.intro rfl (And.intro rfl (And.intro rfl (And.intro rfl (trivial))))))))
set_option maxRecDepth 20000 in
set_option maxHeartbeats 4000000 in
theorem L_For_fewestGifts_71 (X : Cx p l s m args meth c Γ D s0 RX0 cX0_fewestGifts 8) (hr : meth.sig.returnType = (some .int)) (σ : Mem) (t1 : Nat) (w2 : Nat) (v3 : Int32) (v4 : Int32) (v5 : Int32) (gt1 : isTown t1) (gw2 : isLaw w2) : ∀ (n : Nat) (v7 : Int32) (v6 : Int32) {z : Int32}, forS (fun i s => F_For_fewestGifts_71_b σ t1 w2 v3 v4 v5 i s) n v7 v6 = z → n = cle v7 99 → ¬ v7 < 0 → (E p l e ({ frames := 6, cells := 0, slots := 0, locals := 345 } : Room) s m args below meth c Γ D 0 0 (MQ below (QcA Γ D Pst) args s 0 0 (frB Γ)) σ 100 [some (.ref (Γ.1 + 94)), some (.ref (Γ.1 + t1)), some (.ref (Γ.1 + w2)), some (.int v3), some (.int v4), some (.int v5), some (.int z), none] []) → E p l e ({ frames := 6, cells := 0, slots := 0, locals := 345 } : Room) s m args below meth c Γ D 0 0 (MQ below (QcA Γ D Pst) args s 0 0 (frB Γ)) σ 71 [some (.ref (Γ.1 + 94)), some (.ref (Γ.1 + t1)), some (.ref (Γ.1 + w2)), some (.int v3), some (.int v4), some (.int v5), some (.int v6), some (.int v7)] [] := by
  intro n
  induction n with
  | zero =>
    intro v7 v6 z hF hn h0 hK
    refine e_iload X dX0_fewestGifts_71 rfl ?_
    refine e_bipush X 99 dX0_fewestGifts_73 rfl ?_
    refine e_icmp_gt X 100 dX0_fewestGifts_75 (by decide) (fun c11 => ?_) (fun c11 => ?_)
    · skip
      have hz9 := hF; change (v6) = z at hz9; subst hz9
      exact e_le hK (And.intro rfl (And.intro rfl (And.intro rfl (And.intro rfl (And.intro rfl (And.intro rfl (And.intro rfl (trivial))))))))
    · skip
      exact absurd (cle0 hn) c11
  | succ n ih =>
    intro v7 v6 z hF hn h0 hK
    obtain ⟨y9, hB, hF⟩ := forS_step hF
    change F_For_fewestGifts_71_b σ t1 w2 v3 v4 v5 v7 v6 = y9 at hB
    unfold F_For_fewestGifts_71_b at hB
    refine e_iload X dX0_fewestGifts_71 rfl ?_
    refine e_bipush X 99 dX0_fewestGifts_73 rfl ?_
    refine e_icmp_gt X 100 dX0_fewestGifts_75 (by decide) (fun c9 => ?_) (fun c9 => ?_)
    · skip
      exact absurd c9 (cleS hn)
    · skip
      refine e_iload X dX0_fewestGifts_78 rfl ?_
      refine e_aload_n X dX0_fewestGifts_80 rfl rfl ?_
      refine ge_For_cost X wf_X0_30 dX0_fewestGifts_81 ?_
      refine e_iload X dX0_fewestGifts_84 rfl ?_
      refine e_callVi X (r := (F_Row_at σ 113 100 v7)) (σ1 := σ) [.int v7] [.int v6] (C_Row_at (Cx_gok X) σ 113 100 v7 ok_Row_113) gv_X0_82 yk_X6_at rfl (ent_lt ok_Row_113.1) (ent_at ok_Row_113.1 _) (rfl : vCl[6]? = some (RX6, TX6, 1)) ⟨Nat.le_of_ble_eq_true rfl, Nat.le_of_ble_eq_true rfl⟩ ⟨Nat.le_of_ble_eq_true rfl, Nat.le_of_ble_eq_true rfl⟩ (Nat.le_of_ble_eq_true rfl) dX0_fewestGifts_86 rfl ?_
      refine e_mmin X wMl_X0_86 wMs_min wMi wMc_min (Nat.le_of_ble_eq_true rfl) (Nat.le_of_ble_eq_true rfl) (Nat.le_of_ble_eq_true rfl) (Nat.le_of_ble_eq_true rfl) dX0_fewestGifts_89 ?_
      obtain ⟨x10, h_x10, hB⟩ := bindT_out hB
      refine e_istore X h_x10 dX0_fewestGifts_92 (by decide) ?_
      refine e_iinc X 1 dX0_fewestGifts_94 rfl rfl (by decide) ?_
      refine e_goto X 71 dX0_fewestGifts_97 (by decide) ?_
      have hy9 := hB; change (x10) = y9 at hy9; subst hy9
      exact e_le (ih _ x10 hF (cleN (by decide) hn) (nnN h0 (cle_hi (by decide) hn)) hK) (And.intro rfl (And.intro rfl (And.intro rfl (And.intro rfl (And.intro rfl (And.intro rfl (And.intro rfl (And.intro rfl (trivial)))))))))
set_option maxRecDepth 20000 in
set_option maxHeartbeats 4000000 in
theorem C_For_fewestGifts (hG : Gok l Γ D s0) (σ : Mem) (t1 : Nat) (w2 : Nat) (v3 : Int32) (v4 : Int32) (v5 : Int32) (gt1 : isTown t1) (gw2 : isLaw w2) {out : Mem × Int32} (hF : F_For_fewestGifts σ t1 w2 v3 v4 v5 = some out) : CT l Γ D s0 yX0_fewestGifts cX0_fewestGifts 8 (some .int) (6) 0 0 (345) σ [.ref (Γ.1 + 94), .ref (Γ.1 + t1), .ref (Γ.1 + w2), .int v3, .int v4, .int v5] (PI (some (.int out.2)) out.1) := by
  unfold F_For_fewestGifts at hF
  refine e_met (own := RX0) hG (by decide +kernel) rfl rfl (Nat.le_of_ble_eq_true rfl) ?_
  intro p e s m args below meth c X hr
  show E p l e _ s m args below meth c Γ D 0 0 _ σ 0 [some (.ref (Γ.1 + 94)), some (.ref (Γ.1 + t1)), some (.ref (Γ.1 + w2)), some (.int v3), some (.int v4), some (.int v5), none, none] []
  refine e_aload_n X dX0_fewestGifts_0 rfl rfl ?_
  refine e_iload_n X dX0_fewestGifts_1 rfl rfl ?_
  refine e_iload X dX0_fewestGifts_2 rfl ?_
  refine e_aload_n X dX0_fewestGifts_4 rfl rfl ?_
  refine ge_For_look X wf_X0_21 dX0_fewestGifts_5 ?_
  obtain ⟨z1, h_z1, hF⟩ := bindT_out hF
  refine e_callVv X (σ1 := z1) [.int v3, .int v5, .ref (Γ.1 + 112)] [] (by rw [h_z1]; exact C_Town_lookAt (Cx_gok X) σ t1 v3 v5 112 gt1 ok_Look_112) gv_X0_41 yk_X9_lookAt rfl (ent_lt gt1.1) (ent_at gt1.1 _) (rfl : vCl[8]? = some (RX9, TX9, 20)) ⟨Nat.le_of_ble_eq_true rfl, Nat.le_of_ble_eq_true rfl⟩ ⟨Nat.le_of_ble_eq_true rfl, Nat.le_of_ble_eq_true rfl⟩ (Nat.le_of_ble_eq_true rfl) dX0_fewestGifts_8 rfl ?_
  refine e_aload_n X dX0_fewestGifts_11 rfl rfl ?_
  refine ge_For_cost X wf_X0_30 dX0_fewestGifts_12 ?_
  refine e_bipush X 41 dX0_fewestGifts_15 rfl ?_
  obtain ⟨z2, h_z2, hF⟩ := bindT_out hF
  refine e_callVv X (σ1 := z2) [.int 41] [] (by rw [h_z2]; exact C_Row_putAll (Cx_gok X) z1 113 100 41 ok_Row_113) gv_X0_68 yk_X6_putAll rfl (ent_lt ok_Row_113.1) (ent_at ok_Row_113.1 _) (rfl : vCl[6]? = some (RX6, TX6, 1)) ⟨Nat.le_of_ble_eq_true rfl, Nat.le_of_ble_eq_true rfl⟩ ⟨Nat.le_of_ble_eq_true rfl, Nat.le_of_ble_eq_true rfl⟩ (Nat.le_of_ble_eq_true rfl) dX0_fewestGifts_17 rfl ?_
  refine e_aload_n X dX0_fewestGifts_20 rfl rfl ?_
  refine ge_For_cost X wf_X0_30 dX0_fewestGifts_21 ?_
  refine e_aload_n X dX0_fewestGifts_24 rfl rfl ?_
  refine ge_For_look X wf_X0_21 dX0_fewestGifts_25 ?_
  refine ge_Look_happy X ok_Look_112 wf_X0_58 dX0_fewestGifts_28 ?_
  refine e_iconst X 0 dX0_fewestGifts_31 rfl ?_
  obtain ⟨z3, h_z3, hF⟩ := bindT_out hF
  refine e_callVv X (σ1 := z3) [.int ((z2 112 0)), .int 0] [] (by rw [h_z3]; exact C_Row_put (Cx_gok X) z2 113 100 ((z2 112 0)) 0 ok_Row_113) gv_X0_71 yk_X6_put rfl (ent_lt ok_Row_113.1) (ent_at ok_Row_113.1 _) (rfl : vCl[6]? = some (RX6, TX6, 1)) ⟨Nat.le_of_ble_eq_true rfl, Nat.le_of_ble_eq_true rfl⟩ ⟨Nat.le_of_ble_eq_true rfl, Nat.le_of_ble_eq_true rfl⟩ (Nat.le_of_ble_eq_true rfl) dX0_fewestGifts_32 rfl ?_
  refine e_iconst X 0 dX0_fewestGifts_35 rfl ?_
  refine e_istore X rfl dX0_fewestGifts_36 (by decide) ?_
  obtain ⟨z8, h_z8, hF⟩ := obind_out hF
  refine e_le (L_For_fewestGifts_38 X hr t1 w2 v3 v4 v5 gt1 gw2 _ 0 z3 h_z8 rfl (by decide) ?_) (And.intro rfl (And.intro rfl (And.intro rfl (And.intro rfl (And.intro rfl (And.intro rfl (And.intro rfl (trivial))))))))
  refine e_bipush X 41 dX0_fewestGifts_64 rfl ?_
  refine e_istore X rfl dX0_fewestGifts_66 (by decide) ?_
  refine e_iconst X 0 dX0_fewestGifts_68 rfl ?_
  refine e_istore X rfl dX0_fewestGifts_69 (by decide) ?_
  obtain ⟨z12, h_z12, hF⟩ := bindT_out hF
  refine e_le (L_For_fewestGifts_71 X hr z8 t1 w2 v3 v4 v5 gt1 gw2 _ 0 41 h_z12.symm rfl (by decide) ?_) (And.intro rfl (And.intro rfl (And.intro rfl (And.intro rfl (And.intro rfl (And.intro rfl (And.intro rfl (And.intro rfl (trivial)))))))))
  refine e_iload X dX0_fewestGifts_100 rfl ?_
  refine e_bipush X 41 dX0_fewestGifts_102 rfl ?_
  refine e_icmp_ge X 112 dX0_fewestGifts_104 (by decide) (fun c13 => ?_) (fun c13 => ?_)
  · skip
    rw [if_neg c13] at hF
    refine e_iconst X (-1) dX0_fewestGifts_112 rfl ?_
    exact e_iret X hr dX0_fewestGifts_113 (Nat.le_of_ble_eq_true rfl) (Nat.le_of_ble_eq_true rfl) (by cases hF; exact ⟨rfl, rfl⟩)
  · skip
    rw [if_pos c13] at hF
    refine e_iload X dX0_fewestGifts_107 rfl ?_
    refine e_goto X 113 dX0_fewestGifts_109 (by decide) ?_
    exact e_iret X hr dX0_fewestGifts_113 (Nat.le_of_ble_eq_true rfl) (Nat.le_of_ble_eq_true rfl) (by cases hF; exact ⟨rfl, rfl⟩)
set_option maxRecDepth 20000 in
set_option maxHeartbeats 4000000 in
theorem L_For_claimAll_2 (X : Cx p l s m args meth c Γ D s0 RX0 cX0_claimAll 2) (hr : meth.sig.returnType = none)   : ∀ (n : Nat) (v1 : Int32) (σ : Mem) {z : Int32 × Mem}, whl (fun s => F_For_claimAll_2_b  s.1 s.2) n (v1, σ) = some z → (E p l e ({ frames := 4, cells := 0, slots := 0, locals := 91 } : Room) s m args below meth c Γ D 0 0 (MQ below (QcA Γ D Pst) args s 0 0 (frB Γ)) z.2 39 [some (.ref (Γ.1 + 94)), some (.int z.1)] []) → E p l e ({ frames := 4, cells := 0, slots := 0, locals := 91 } : Room) s m args below meth c Γ D 0 0 (MQ below (QcA Γ D Pst) args s 0 0 (frB Γ)) σ 2 [some (.ref (Γ.1 + 94)), some (.int v1)] [] := by
  intro n
  induction n with
  | zero =>
    intro v1 σ z hF hK
    cases hF
  | succ n ih =>
    intro v1 σ z hF hK
    obtain ⟨y9, hB, hF⟩ := whl_step hF
    change F_For_claimAll_2_b  v1 σ = some y9 at hB
    unfold F_For_claimAll_2_b at hB
    refine e_iload_n X dX0_claimAll_2 rfl rfl ?_
    refine e_aload_n X dX0_claimAll_3 rfl rfl ?_
    refine ge_For_scratch X wf_X0_12 dX0_claimAll_4 ?_
    refine ge_Town_matches X ok_Town_95 wf_X0_99 dX0_claimAll_7 ?_
    refine e_icmp_ge X 39 dX0_claimAll_10 (by decide) (fun c1 => ?_) (fun c1 => ?_)
    · skip
      rw [if_neg c1] at hB
      have hy9 := Option.some.inj hB; change (.inr ((v1, σ))) = y9 at hy9; subst hy9
      have hz9 := Option.some.inj hF; change ((v1, σ)) = z at hz9; subst hz9
      exact e_le hK (And.intro rfl (And.intro rfl (trivial)))
    · skip
      rw [if_pos c1] at hB
      refine e_aload_n X dX0_claimAll_13 rfl rfl ?_
      refine ge_For_scratch X wf_X0_12 dX0_claimAll_14 ?_
      refine e_iload_n X dX0_claimAll_17 rfl rfl ?_
      refine e_callVi X (r := (F_Town_isOver σ 95 v1)) (σ1 := σ) [.int v1] [] (C_Town_isOver (Cx_gok X) σ 95 v1 ok_Town_95) gv_X0_102 yk_X9_isOver rfl (ent_lt ok_Town_95.1) (ent_at ok_Town_95.1 _) (rfl : vCl[8]? = some (RX9, TX9, 20)) ⟨Nat.le_of_ble_eq_true rfl, Nat.le_of_ble_eq_true rfl⟩ ⟨Nat.le_of_ble_eq_true rfl, Nat.le_of_ble_eq_true rfl⟩ (Nat.le_of_ble_eq_true rfl) dX0_claimAll_18 rfl ?_
      refine e_if_ne X 33 dX0_claimAll_21 (by decide) (fun c2 => ?_) (fun c2 => ?_)
      · skip
        rw [if_neg c2] at hB
        refine e_iinc X 1 dX0_claimAll_33 rfl rfl (by decide) ?_
        obtain ⟨x3, h_x3, hB⟩ := bindT_out hB
        rw [← h_x3]
        refine e_goto X 2 dX0_claimAll_36 (by decide) ?_
        have hy9 := Option.some.inj hB; change (.inl ((x3, σ))) = y9 at hy9; subst hy9
        exact e_le (ih x3 σ hF hK) (And.intro rfl (And.intro rfl (trivial)))
      · skip
        rw [if_pos c2] at hB
        refine e_aload_n X dX0_claimAll_24 rfl rfl ?_
        refine ge_For_scratch X wf_X0_12 dX0_claimAll_25 ?_
        refine e_iload_n X dX0_claimAll_28 rfl rfl ?_
        obtain ⟨z4, h_z4, hB⟩ := obind_out hB
        refine e_callVi X (r := z4.2) (σ1 := z4.1) [.int v1] [] (C_Town_payClaim (Cx_gok X) σ 95 v1 ok_Town_95 h_z4) gv_X0_106 yk_X9_payClaim rfl (ent_lt ok_Town_95.1) (ent_at ok_Town_95.1 _) (rfl : vCl[8]? = some (RX9, TX9, 20)) ⟨Nat.le_of_ble_eq_true rfl, Nat.le_of_ble_eq_true rfl⟩ ⟨Nat.le_of_ble_eq_true rfl, Nat.le_of_ble_eq_true rfl⟩ (Nat.le_of_ble_eq_true rfl) dX0_claimAll_29 rfl ?_
        refine e_pop X dX0_claimAll_32 rfl ?_
        refine e_iinc X 1 dX0_claimAll_33 rfl rfl (by decide) ?_
        obtain ⟨x5, h_x5, hB⟩ := bindT_out hB
        rw [← h_x5]
        refine e_goto X 2 dX0_claimAll_36 (by decide) ?_
        have hy9 := Option.some.inj hB; change (.inl ((x5, z4.1))) = y9 at hy9; subst hy9
        exact e_le (ih x5 z4.1 hF hK) (And.intro rfl (And.intro rfl (trivial)))
set_option maxRecDepth 20000 in
set_option maxHeartbeats 4000000 in
theorem C_For_claimAll (hG : Gok l Γ D s0) (σ : Mem)   {out : Mem} (hF : F_For_claimAll σ = some out) : CT l Γ D s0 yX0_claimAll cX0_claimAll 2 none (4) 0 0 (91) σ [.ref (Γ.1 + 94)] (PI none out) := by
  unfold F_For_claimAll at hF
  refine e_met (own := RX0) hG (by decide +kernel) rfl rfl (Nat.le_of_ble_eq_true rfl) ?_
  intro p e s m args below meth c X hr
  show E p l e _ s m args below meth c Γ D 0 0 _ σ 0 [some (.ref (Γ.1 + 94)), none] []
  refine e_iconst X 0 dX0_claimAll_0 rfl ?_
  refine e_istore_n X rfl dX0_claimAll_1 rfl (by decide) ?_
  obtain ⟨z6, h_z6, hF⟩ := obind_out hF
  refine e_le (L_For_claimAll_2 X hr _ 0 σ h_z6 ?_) (And.intro rfl (And.intro rfl (trivial)))
  exact e_vret X hr dX0_claimAll_39 (Nat.le_of_ble_eq_true rfl) (Nat.le_of_ble_eq_true rfl) (by cases hF; exact ⟨rfl, rfl⟩)
set_option maxRecDepth 20000 in
set_option maxHeartbeats 4000000 in
theorem C_For_fallen (hG : Gok l Γ D s0) (σ : Mem) (t1 : Nat) (gt1 : isTown t1) {out : Mem × Int32} (hF : F_For_fallen σ t1 = some out) : CT l Γ D s0 yX0_fallen cX0_fallen 2 (some .int) (5) 0 0 (363) σ [.ref (Γ.1 + 94), .ref (Γ.1 + t1)] (PI (some (.int out.2)) out.1) := by
  unfold F_For_fallen at hF
  refine e_met (own := RX0) hG (by decide +kernel) rfl rfl (Nat.le_of_ble_eq_true rfl) ?_
  intro p e s m args below meth c X hr
  show E p l e _ s m args below meth c Γ D 0 0 _ σ 0 [some (.ref (Γ.1 + 94)), some (.ref (Γ.1 + t1))] []
  refine e_aload_n X dX0_fallen_0 rfl rfl ?_
  refine ge_For_scratch X wf_X0_12 dX0_fallen_1 ?_
  refine e_aload_n X dX0_fallen_4 rfl rfl ?_
  obtain ⟨z1, h_z1, hF⟩ := bindT_out hF
  refine e_callVv X (σ1 := z1) [.ref (Γ.1 + t1)] [] (by rw [h_z1]; exact C_Town_copyAll (Cx_gok X) σ 95 t1 ok_Town_95 gt1) gv_X0_109 yk_X9_copyAll rfl (ent_lt ok_Town_95.1) (ent_at ok_Town_95.1 _) (rfl : vCl[8]? = some (RX9, TX9, 20)) ⟨Nat.le_of_ble_eq_true rfl, Nat.le_of_ble_eq_true rfl⟩ ⟨Nat.le_of_ble_eq_true rfl, Nat.le_of_ble_eq_true rfl⟩ (Nat.le_of_ble_eq_true rfl) dX0_fallen_5 rfl ?_
  refine e_aload_n X dX0_fallen_8 rfl rfl ?_
  obtain ⟨z2, h_z2, hF⟩ := obind_out hF
  refine e_callVv X (σ1 := z2) [] [] (C_For_claimAll (Cx_gok X) z1 h_z2) gv_X0_112 yk_X0_claimAll rfl (ent_lt (rfl : entTbl[94]? = some (8, 0))) (ent_at (rfl : entTbl[94]? = some (8, 0)) _) (rfl : vCl[0]? = some (RX0, TX0, 4)) ⟨Nat.le_of_ble_eq_true rfl, Nat.le_of_ble_eq_true rfl⟩ ⟨Nat.le_of_ble_eq_true rfl, Nat.le_of_ble_eq_true rfl⟩ (Nat.le_of_ble_eq_true rfl) dX0_fallen_9 rfl ?_
  refine e_aload_n X dX0_fallen_12 rfl rfl ?_
  refine ge_For_scratch X wf_X0_12 dX0_fallen_13 ?_
  refine ge_Town_ruined X ok_Town_95 wf_X0_115 dX0_fallen_16 ?_
  refine e_aload_n X dX0_fallen_19 rfl rfl ?_
  refine ge_Town_ruined X gt1 wf_X0_115 dX0_fallen_20 ?_
  refine e_iconst X (-1) dX0_fallen_23 rfl ?_
  refine e_ixor X dX0_fallen_24 ?_
  refine e_iand X dX0_fallen_25 ?_
  exact e_iret X hr dX0_fallen_26 (Nat.le_of_ble_eq_true rfl) (Nat.le_of_ble_eq_true rfl) (by cases hF; exact ⟨rfl, rfl⟩)
set_option maxRecDepth 20000 in
set_option maxHeartbeats 4000000 in
theorem C_For_lossOf (hG : Gok l Γ D s0) (σ : Mem) (t1 : Nat) (v2 : Int32) (gt1 : isTown t1) {out : Mem × Int32} (hF : F_For_lossOf σ t1 v2 = some out) : CT l Γ D s0 yX0_lossOf cX0_lossOf 3 (some .int) (5) 0 0 (363) σ [.ref (Γ.1 + 94), .ref (Γ.1 + t1), .int v2] (PI (some (.int out.2)) out.1) := by
  unfold F_For_lossOf at hF
  refine e_met (own := RX0) hG (by decide +kernel) rfl rfl (Nat.le_of_ble_eq_true rfl) ?_
  intro p e s m args below meth c X hr
  show E p l e _ s m args below meth c Γ D 0 0 _ σ 0 [some (.ref (Γ.1 + 94)), some (.ref (Γ.1 + t1)), some (.int v2)] []
  refine e_aload_n X dX0_lossOf_0 rfl rfl ?_
  refine ge_For_scratch X wf_X0_12 dX0_lossOf_1 ?_
  refine e_aload_n X dX0_lossOf_4 rfl rfl ?_
  obtain ⟨z1, h_z1, hF⟩ := bindT_out hF
  refine e_callVv X (σ1 := z1) [.ref (Γ.1 + t1)] [] (by rw [h_z1]; exact C_Town_copyAll (Cx_gok X) σ 95 t1 ok_Town_95 gt1) gv_X0_109 yk_X9_copyAll rfl (ent_lt ok_Town_95.1) (ent_at ok_Town_95.1 _) (rfl : vCl[8]? = some (RX9, TX9, 20)) ⟨Nat.le_of_ble_eq_true rfl, Nat.le_of_ble_eq_true rfl⟩ ⟨Nat.le_of_ble_eq_true rfl, Nat.le_of_ble_eq_true rfl⟩ (Nat.le_of_ble_eq_true rfl) dX0_lossOf_5 rfl ?_
  refine e_aload_n X dX0_lossOf_8 rfl rfl ?_
  obtain ⟨z2, h_z2, hF⟩ := obind_out hF
  refine e_callVv X (σ1 := z2) [] [] (C_For_claimAll (Cx_gok X) z1 h_z2) gv_X0_112 yk_X0_claimAll rfl (ent_lt (rfl : entTbl[94]? = some (8, 0))) (ent_at (rfl : entTbl[94]? = some (8, 0)) _) (rfl : vCl[0]? = some (RX0, TX0, 4)) ⟨Nat.le_of_ble_eq_true rfl, Nat.le_of_ble_eq_true rfl⟩ ⟨Nat.le_of_ble_eq_true rfl, Nat.le_of_ble_eq_true rfl⟩ (Nat.le_of_ble_eq_true rfl) dX0_lossOf_9 rfl ?_
  refine e_iconst X 0 dX0_lossOf_12 rfl ?_
  refine e_aload_n X dX0_lossOf_13 rfl rfl ?_
  refine ge_Town_wealth X gt1 wf_X0_118 dX0_lossOf_14 ?_
  refine e_iload_n X dX0_lossOf_17 rfl rfl ?_
  refine e_callVi X (r := (F_Row_at z2 (t1 + 1) 8 v2)) (σ1 := z2) [.int v2] [.int 0] (C_Row_at (Cx_gok X) z2 (t1 + 1) 8 v2 gt1.2.1) gv_X0_82 yk_X6_at rfl (ent_lt gt1.2.1.1) (ent_at gt1.2.1.1 _) (rfl : vCl[6]? = some (RX6, TX6, 1)) ⟨Nat.le_of_ble_eq_true rfl, Nat.le_of_ble_eq_true rfl⟩ ⟨Nat.le_of_ble_eq_true rfl, Nat.le_of_ble_eq_true rfl⟩ (Nat.le_of_ble_eq_true rfl) dX0_lossOf_18 rfl ?_
  refine e_aload_n X dX0_lossOf_21 rfl rfl ?_
  refine ge_For_scratch X wf_X0_12 dX0_lossOf_22 ?_
  refine ge_Town_wealth X ok_Town_95 wf_X0_118 dX0_lossOf_25 ?_
  refine e_iload_n X dX0_lossOf_28 rfl rfl ?_
  refine e_callVi X (r := (F_Row_at z2 (95 + 1) 8 v2)) (σ1 := z2) [.int v2] [.int ((F_Row_at z2 (t1 + 1) 8 v2)), .int 0] (C_Row_at (Cx_gok X) z2 (95 + 1) 8 v2 ok_Town_95.2.1) gv_X0_82 yk_X6_at rfl (ent_lt ok_Town_95.2.1.1) (ent_at ok_Town_95.2.1.1 _) (rfl : vCl[6]? = some (RX6, TX6, 1)) ⟨Nat.le_of_ble_eq_true rfl, Nat.le_of_ble_eq_true rfl⟩ ⟨Nat.le_of_ble_eq_true rfl, Nat.le_of_ble_eq_true rfl⟩ (Nat.le_of_ble_eq_true rfl) dX0_lossOf_29 rfl ?_
  refine e_isub X dX0_lossOf_32 ?_
  refine e_mmax X wMl_X0_121 wMs_max wMi wMc_max (Nat.le_of_ble_eq_true rfl) (Nat.le_of_ble_eq_true rfl) (Nat.le_of_ble_eq_true rfl) (Nat.le_of_ble_eq_true rfl) dX0_lossOf_33 ?_
  exact e_iret X hr dX0_lossOf_36 (Nat.le_of_ble_eq_true rfl) (Nat.le_of_ble_eq_true rfl) (by cases hF; exact ⟨rfl, rfl⟩)
set_option maxRecDepth 20000 in
set_option maxHeartbeats 4000000 in
theorem L_For_leastWealth_18 (X : Cx p l s m args meth c Γ D s0 RX0 cX0_leastWealth 7) (hr : meth.sig.returnType = (some .int)) (t1 : Nat) (v2 : Int32) (gt1 : isTown t1) : ∀ (n : Nat) (v5 : Int32) (v3 : Int32) (v4 : Int32) (σ : Mem) {z : Int32 × Int32 × Mem}, omap mrg (forGO (fun i s => F_For_leastWealth_18_b t1 v2 i s.1 s.2.1 s.2.2) n v5 (v3, v4, σ)) = some z → n = cnt v5 999 → ¬ v5 < 0 → (E p l e ({ frames := 5, cells := 0, slots := 0, locals := 363 } : Room) s m args below meth c Γ D 0 0 (MQ below (QcA Γ D Pst) args s 0 0 (frB Γ)) z.2.2 104 [some (.ref (Γ.1 + 94)), some (.ref (Γ.1 + t1)), some (.int v2), some (.int z.1), some (.int z.2.1), none, none] []) → E p l e ({ frames := 5, cells := 0, slots := 0, locals := 363 } : Room) s m args below meth c Γ D 0 0 (MQ below (QcA Γ D Pst) args s 0 0 (frB Γ)) σ 18 [some (.ref (Γ.1 + 94)), some (.ref (Γ.1 + t1)), some (.int v2), some (.int v3), some (.int v4), some (.int v5), none] [] := by
  intro n
  induction n with
  | zero =>
    intro v5 v3 v4 σ z hF hn h0 hK
    refine e_iload X dX0_leastWealth_18 rfl ?_
    refine e_sipush X 999 dX0_leastWealth_20 rfl ?_
    refine e_icmp_ge X 104 dX0_leastWealth_23 (by decide) (fun c10 => ?_) (fun c10 => ?_)
    · skip
      have hz9 := Option.some.inj hF; change ((v3, v4, σ)) = z at hz9; subst hz9
      exact e_le hK (And.intro rfl (And.intro rfl (And.intro rfl (And.intro rfl (And.intro rfl (trivial))))))
    · skip
      exact absurd c10 (cnt0 hn)
  | succ n ih =>
    intro v5 v3 v4 σ z hF hn h0 hK
    obtain ⟨y9, hB, hF⟩ := forBO_step hF
    change F_For_leastWealth_18_b t1 v2 v5 v3 v4 σ = some y9 at hB
    unfold F_For_leastWealth_18_b at hB
    refine e_iload X dX0_leastWealth_18 rfl ?_
    refine e_sipush X 999 dX0_leastWealth_20 rfl ?_
    refine e_icmp_ge X 104 dX0_leastWealth_23 (by decide) (fun c2 => ?_) (fun c2 => ?_)
    · skip
      exact absurd (cntS hn) c2
    · skip
      refine e_iload_n X dX0_leastWealth_26 rfl rfl ?_
      refine e_iload X dX0_leastWealth_27 rfl ?_
      refine e_icmp_ge X 104 dX0_leastWealth_29 (by decide) (fun c3 => ?_) (fun c3 => ?_)
      · skip
        rw [if_neg c3] at hB
        have hy9 := Option.some.inj hB; change (.inr ((v3, v4, σ))) = y9 at hy9; subst hy9
        have hz9 := Option.some.inj hF; change ((v3, v4, σ)) = z at hz9; subst hz9
        exact e_le hK (And.intro rfl (And.intro rfl (And.intro rfl (And.intro rfl (And.intro rfl (trivial))))))
      · skip
        rw [if_pos c3] at hB
        refine e_iload_n X dX0_leastWealth_32 rfl rfl ?_
        refine e_iload X dX0_leastWealth_33 rfl ?_
        refine e_iadd X dX0_leastWealth_35 ?_
        refine e_iconst X 2 dX0_leastWealth_36 rfl ?_
        refine e_idiv X dX0_leastWealth_37 (by decide) ?_
        obtain ⟨x4, h_x4, hB⟩ := bindT_out hB
        refine e_istore X h_x4 dX0_leastWealth_38 (by decide) ?_
        refine e_aload_n X dX0_leastWealth_40 rfl rfl ?_
        refine ge_For_scratch X wf_X0_12 dX0_leastWealth_41 ?_
        refine e_aload_n X dX0_leastWealth_44 rfl rfl ?_
        obtain ⟨z5, h_z5, hB⟩ := bindT_out hB
        refine e_callVv X (σ1 := z5) [.ref (Γ.1 + t1)] [] (by rw [h_z5]; exact C_Town_copyPurses (Cx_gok X) σ 95 t1 ok_Town_95 gt1) gv_X0_124 yk_X9_copyPurses rfl (ent_lt ok_Town_95.1) (ent_at ok_Town_95.1 _) (rfl : vCl[8]? = some (RX9, TX9, 20)) ⟨Nat.le_of_ble_eq_true rfl, Nat.le_of_ble_eq_true rfl⟩ ⟨Nat.le_of_ble_eq_true rfl, Nat.le_of_ble_eq_true rfl⟩ (Nat.le_of_ble_eq_true rfl) dX0_leastWealth_45 rfl ?_
        refine e_aload_n X dX0_leastWealth_48 rfl rfl ?_
        refine ge_For_scratch X wf_X0_12 dX0_leastWealth_49 ?_
        refine ge_Town_wealth X ok_Town_95 wf_X0_118 dX0_leastWealth_52 ?_
        refine e_iload_n X dX0_leastWealth_55 rfl rfl ?_
        refine e_iload X dX0_leastWealth_56 rfl ?_
        obtain ⟨z6, h_z6, hB⟩ := bindT_out hB
        refine e_callVv X (σ1 := z6) [.int v2, .int x4] [] (by rw [h_z6]; exact C_Row_put (Cx_gok X) z5 (95 + 1) 8 v2 x4 ok_Town_95.2.1) gv_X0_71 yk_X6_put rfl (ent_lt ok_Town_95.2.1.1) (ent_at ok_Town_95.2.1.1 _) (rfl : vCl[6]? = some (RX6, TX6, 1)) ⟨Nat.le_of_ble_eq_true rfl, Nat.le_of_ble_eq_true rfl⟩ ⟨Nat.le_of_ble_eq_true rfl, Nat.le_of_ble_eq_true rfl⟩ (Nat.le_of_ble_eq_true rfl) dX0_leastWealth_58 rfl ?_
        refine e_aload_n X dX0_leastWealth_61 rfl rfl ?_
        obtain ⟨z7, h_z7, hB⟩ := obind_out hB
        refine e_callVv X (σ1 := z7) [] [] (C_For_claimAll (Cx_gok X) z6 h_z7) gv_X0_112 yk_X0_claimAll rfl (ent_lt (rfl : entTbl[94]? = some (8, 0))) (ent_at (rfl : entTbl[94]? = some (8, 0)) _) (rfl : vCl[0]? = some (RX0, TX0, 4)) ⟨Nat.le_of_ble_eq_true rfl, Nat.le_of_ble_eq_true rfl⟩ ⟨Nat.le_of_ble_eq_true rfl, Nat.le_of_ble_eq_true rfl⟩ (Nat.le_of_ble_eq_true rfl) dX0_leastWealth_62 rfl ?_
        refine e_aload_n X dX0_leastWealth_65 rfl rfl ?_
        refine ge_For_scratch X wf_X0_12 dX0_leastWealth_66 ?_
        refine ge_Town_ruined X ok_Town_95 wf_X0_115 dX0_leastWealth_69 ?_
        refine e_aload_n X dX0_leastWealth_72 rfl rfl ?_
        refine ge_Town_ruined X gt1 wf_X0_115 dX0_leastWealth_73 ?_
        refine e_iconst X (-1) dX0_leastWealth_76 rfl ?_
        refine e_ixor X dX0_leastWealth_77 ?_
        refine e_iand X dX0_leastWealth_78 ?_
        refine e_iload_n X dX0_leastWealth_79 rfl rfl ?_
        refine e_callSNi X (r := (F_W_contains z7 (((z7 95 9) &&& ((z7 t1 9) ^^^ (-1)))) v2)) (σ1 := z7) (host := RX11) [.int (((z7 95 9) &&& ((z7 t1 9) ^^^ (-1)))), .int v2] [] (C_W_contains (Cx_gok X) z7 (((z7 95 9) &&& ((z7 t1 9) ^^^ (-1)))) v2) gb_X11_contains (by decide +kernel) wz_X11 ws_X11_contains yk_X11_contains.2 rfl ⟨Nat.le_of_ble_eq_true rfl, Nat.le_of_ble_eq_true rfl⟩ ⟨Nat.le_of_ble_eq_true rfl, Nat.le_of_ble_eq_true rfl⟩ (Nat.le_of_ble_eq_true rfl) dX0_leastWealth_80 rfl ?_
        refine e_if_eq X 94 dX0_leastWealth_83 (by decide) (fun c8 => ?_) (fun c8 => ?_)
        · skip
          rw [if_pos c8] at hB
          refine e_iload X dX0_leastWealth_94 rfl ?_
          refine e_istore X rfl dX0_leastWealth_96 (by decide) ?_
          refine e_iinc X 1 dX0_leastWealth_98 rfl rfl (by decide) ?_
          refine e_goto X 18 dX0_leastWealth_101 (by decide) ?_
          have hy9 := Option.some.inj hB; change (.inl ((v3, x4, z7))) = y9 at hy9; subst hy9
          exact e_le (ih _ v3 x4 z7 hF (cntN hn) (nnN h0 (cnt_hi hn)) hK) (And.intro rfl (And.intro rfl (And.intro rfl (And.intro rfl (And.intro rfl (And.intro rfl (trivial)))))))
        · skip
          rw [if_neg c8] at hB
          refine e_iload X dX0_leastWealth_86 rfl ?_
          refine e_iconst X 1 dX0_leastWealth_88 rfl ?_
          refine e_iadd X dX0_leastWealth_89 ?_
          obtain ⟨x9, h_x9, hB⟩ := bindT_out hB
          refine e_istore_n X h_x9 dX0_leastWealth_90 rfl (by decide) ?_
          refine e_goto X 98 dX0_leastWealth_91 (by decide) ?_
          refine e_iinc X 1 dX0_leastWealth_98 rfl rfl (by decide) ?_
          refine e_goto X 18 dX0_leastWealth_101 (by decide) ?_
          have hy9 := Option.some.inj hB; change (.inl ((x9, v4, z7))) = y9 at hy9; subst hy9
          exact e_le (ih _ x9 v4 z7 hF (cntN hn) (nnN h0 (cnt_hi hn)) hK) (And.intro rfl (And.intro rfl (And.intro rfl (And.intro rfl (And.intro rfl (And.intro rfl (trivial)))))))
set_option maxRecDepth 20000 in
set_option maxHeartbeats 4000000 in
theorem C_For_leastWealth (hG : Gok l Γ D s0) (σ : Mem) (t1 : Nat) (v2 : Int32) (gt1 : isTown t1) {out : Mem × Int32} (hF : F_For_leastWealth σ t1 v2 = some out) : CT l Γ D s0 yX0_leastWealth cX0_leastWealth 7 (some .int) (5) 0 0 (363) σ [.ref (Γ.1 + 94), .ref (Γ.1 + t1), .int v2] (PI (some (.int out.2)) out.1) := by
  unfold F_For_leastWealth at hF
  refine e_met (own := RX0) hG (by decide +kernel) rfl rfl (Nat.le_of_ble_eq_true rfl) ?_
  intro p e s m args below meth c X hr
  show E p l e _ s m args below meth c Γ D 0 0 _ σ 0 [some (.ref (Γ.1 + 94)), some (.ref (Γ.1 + t1)), some (.int v2), none, none, none, none] []
  refine e_aload_n X dX0_leastWealth_0 rfl rfl ?_
  refine ge_For_scratch X wf_X0_12 dX0_leastWealth_1 ?_
  refine e_aload_n X dX0_leastWealth_4 rfl rfl ?_
  obtain ⟨z1, h_z1, hF⟩ := bindT_out hF
  refine e_callVv X (σ1 := z1) [.ref (Γ.1 + t1)] [] (by rw [h_z1]; exact C_Town_copyAll (Cx_gok X) σ 95 t1 ok_Town_95 gt1) gv_X0_109 yk_X9_copyAll rfl (ent_lt ok_Town_95.1) (ent_at ok_Town_95.1 _) (rfl : vCl[8]? = some (RX9, TX9, 20)) ⟨Nat.le_of_ble_eq_true rfl, Nat.le_of_ble_eq_true rfl⟩ ⟨Nat.le_of_ble_eq_true rfl, Nat.le_of_ble_eq_true rfl⟩ (Nat.le_of_ble_eq_true rfl) dX0_leastWealth_5 rfl ?_
  refine e_iconst X 0 dX0_leastWealth_8 rfl ?_
  refine e_istore_n X rfl dX0_leastWealth_9 rfl (by decide) ?_
  refine e_sipush X 1000 dX0_leastWealth_10 rfl ?_
  refine e_istore X rfl dX0_leastWealth_13 (by decide) ?_
  refine e_iconst X 0 dX0_leastWealth_15 rfl ?_
  refine e_istore X rfl dX0_leastWealth_16 (by decide) ?_
  obtain ⟨z11, h_z11, hF⟩ := obind_out hF
  refine e_le (L_For_leastWealth_18 X hr t1 v2 gt1 _ 0 0 1000 z1 h_z11 rfl (by decide) ?_) (And.intro rfl (And.intro rfl (And.intro rfl (And.intro rfl (And.intro rfl (And.intro rfl (trivial)))))))
  refine e_iload X dX0_leastWealth_104 rfl ?_
  refine e_sipush X 999 dX0_leastWealth_106 rfl ?_
  refine e_icmp_le X 116 dX0_leastWealth_109 (by decide) (fun c12 => ?_) (fun c12 => ?_)
  · skip
    rw [if_neg c12] at hF
    refine e_iload X dX0_leastWealth_116 rfl ?_
    exact e_iret X hr dX0_leastWealth_118 (Nat.le_of_ble_eq_true rfl) (Nat.le_of_ble_eq_true rfl) (by cases hF; exact ⟨rfl, rfl⟩)
  · skip
    rw [if_pos c12] at hF
    refine e_iconst X (-1) dX0_leastWealth_112 rfl ?_
    refine e_goto X 118 dX0_leastWealth_113 (by decide) ?_
    exact e_iret X hr dX0_leastWealth_118 (Nat.le_of_ble_eq_true rfl) (Nat.le_of_ble_eq_true rfl) (by cases hF; exact ⟨rfl, rfl⟩)
set_option maxRecDepth 20000 in
set_option maxHeartbeats 4000000 in
theorem L_For_tryMonths_20 (X : Cx p l s m args meth c Γ D s0 RX0 cX0_tryMonths 6) (hr : meth.sig.returnType = (some .int)) (t1 : Nat) (w2 : Nat) (v3 : Int32) (v4 : Int32) (gt1 : isTown t1) (gw2 : isLaw w2) : ∀ (n : Nat) (v5 : Int32) (σ : Mem) {z : Mem}, forSO (fun i s => F_For_tryMonths_20_b t1 w2 v3 v4 i s) n v5 σ = some z → n = cnt v5 v3 → ¬ v5 < 0 → (E p l e ({ frames := 6, cells := 0, slots := 0, locals := 363 } : Room) s m args below meth c Γ D 0 0 (MQ below (QcA Γ D Pst) args s 0 0 (frB Γ)) z 44 [some (.ref (Γ.1 + 94)), some (.ref (Γ.1 + t1)), some (.ref (Γ.1 + w2)), some (.int v3), some (.int v4), none] []) → E p l e ({ frames := 6, cells := 0, slots := 0, locals := 363 } : Room) s m args below meth c Γ D 0 0 (MQ below (QcA Γ D Pst) args s 0 0 (frB Γ)) σ 20 [some (.ref (Γ.1 + 94)), some (.ref (Γ.1 + t1)), some (.ref (Γ.1 + w2)), some (.int v3), some (.int v4), some (.int v5)] [] := by
  intro n
  induction n with
  | zero =>
    intro v5 σ z hF hn h0 hK
    refine e_iload X dX0_tryMonths_20 rfl ?_
    refine e_iload_n X dX0_tryMonths_22 rfl rfl ?_
    refine e_icmp_ge X 44 dX0_tryMonths_23 (by decide) (fun c5 => ?_) (fun c5 => ?_)
    · skip
      have hz9 := Option.some.inj hF; change (σ) = z at hz9; subst hz9
      exact e_le hK (And.intro rfl (And.intro rfl (And.intro rfl (And.intro rfl (And.intro rfl (trivial))))))
    · skip
      exact absurd c5 (cnt0 hn)
  | succ n ih =>
    intro v5 σ z hF hn h0 hK
    obtain ⟨y9, hB, hF⟩ := forSO_step hF
    change F_For_tryMonths_20_b t1 w2 v3 v4 v5 σ = some y9 at hB
    unfold F_For_tryMonths_20_b at hB
    refine e_iload X dX0_tryMonths_20 rfl ?_
    refine e_iload_n X dX0_tryMonths_22 rfl rfl ?_
    refine e_icmp_ge X 44 dX0_tryMonths_23 (by decide) (fun c3 => ?_) (fun c3 => ?_)
    · skip
      exact absurd (cntS hn) c3
    · skip
      refine e_aload_n X dX0_tryMonths_26 rfl rfl ?_
      refine ge_For_scratch X wf_X0_12 dX0_tryMonths_27 ?_
      refine e_aload_n X dX0_tryMonths_30 rfl rfl ?_
      refine e_aload_n X dX0_tryMonths_31 rfl rfl ?_
      refine ge_For_look X wf_X0_21 dX0_tryMonths_32 ?_
      obtain ⟨z4, h_z4, hB⟩ := obind_out hB
      refine e_callVv X (σ1 := z4) [.ref (Γ.1 + w2), .ref (Γ.1 + 112)] [] (C_Town_passMonth (Cx_gok X) σ 95 w2 112 ok_Town_95 gw2 ok_Look_112 h_z4) gv_X0_134 yk_X9_passMonth rfl (ent_lt ok_Town_95.1) (ent_at ok_Town_95.1 _) (rfl : vCl[8]? = some (RX9, TX9, 20)) ⟨Nat.le_of_ble_eq_true rfl, Nat.le_of_ble_eq_true rfl⟩ ⟨Nat.le_of_ble_eq_true rfl, Nat.le_of_ble_eq_true rfl⟩ (Nat.le_of_ble_eq_true rfl) dX0_tryMonths_35 rfl ?_
      refine e_iinc X 1 dX0_tryMonths_38 rfl rfl (by decide) ?_
      refine e_goto X 20 dX0_tryMonths_41 (by decide) ?_
      have hy9 := Option.some.inj hB; change (z4) = y9 at hy9; subst hy9
      exact e_le (ih _ z4 hF (cntN hn) (nnN h0 (cnt_hi hn)) hK) (And.intro rfl (And.intro rfl (And.intro rfl (And.intro rfl (And.intro rfl (And.intro rfl (trivial)))))))
set_option maxRecDepth 20000 in
set_option maxHeartbeats 4000000 in
theorem C_For_tryMonths (hG : Gok l Γ D s0) (σ : Mem) (t1 : Nat) (w2 : Nat) (v3 : Int32) (v4 : Int32) (gt1 : isTown t1) (gw2 : isLaw w2) {out : Mem × Int32} (hF : F_For_tryMonths σ t1 w2 v3 v4 = some out) : CT l Γ D s0 yX0_tryMonths cX0_tryMonths 6 (some .int) (6) 0 0 (363) σ [.ref (Γ.1 + 94), .ref (Γ.1 + t1), .ref (Γ.1 + w2), .int v3, .int v4] (PI (some (.int out.2)) out.1) := by
  unfold F_For_tryMonths at hF
  refine e_met (own := RX0) hG (by decide +kernel) rfl rfl (Nat.le_of_ble_eq_true rfl) ?_
  intro p e s m args below meth c X hr
  show E p l e _ s m args below meth c Γ D 0 0 _ σ 0 [some (.ref (Γ.1 + 94)), some (.ref (Γ.1 + t1)), some (.ref (Γ.1 + w2)), some (.int v3), some (.int v4), none] []
  refine e_aload_n X dX0_tryMonths_0 rfl rfl ?_
  refine ge_For_scratch X wf_X0_12 dX0_tryMonths_1 ?_
  refine e_aload_n X dX0_tryMonths_4 rfl rfl ?_
  obtain ⟨z1, h_z1, hF⟩ := bindT_out hF
  refine e_callVv X (σ1 := z1) [.ref (Γ.1 + t1)] [] (by rw [h_z1]; exact C_Town_copyAll (Cx_gok X) σ 95 t1 ok_Town_95 gt1) gv_X0_109 yk_X9_copyAll rfl (ent_lt ok_Town_95.1) (ent_at ok_Town_95.1 _) (rfl : vCl[8]? = some (RX9, TX9, 20)) ⟨Nat.le_of_ble_eq_true rfl, Nat.le_of_ble_eq_true rfl⟩ ⟨Nat.le_of_ble_eq_true rfl, Nat.le_of_ble_eq_true rfl⟩ (Nat.le_of_ble_eq_true rfl) dX0_tryMonths_5 rfl ?_
  refine e_aload_n X dX0_tryMonths_8 rfl rfl ?_
  refine ge_For_scratch X wf_X0_12 dX0_tryMonths_9 ?_
  refine e_iload X dX0_tryMonths_12 rfl ?_
  obtain ⟨σ2, h_σ2, hF⟩ := bindT_out hF
  refine pu_Town_seed X ok_Town_95 wf_X0_131 dX0_tryMonths_14 h_σ2 ?_
  refine e_iconst X 0 dX0_tryMonths_17 rfl ?_
  refine e_istore X rfl dX0_tryMonths_18 (by decide) ?_
  obtain ⟨z6, h_z6, hF⟩ := obind_out hF
  refine e_le (L_For_tryMonths_20 X hr t1 w2 v3 v4 gt1 gw2 _ 0 σ2 h_z6 rfl (by decide) ?_) (And.intro rfl (And.intro rfl (And.intro rfl (And.intro rfl (And.intro rfl (And.intro rfl (trivial)))))))
  refine e_aload_n X dX0_tryMonths_44 rfl rfl ?_
  refine ge_For_scratch X wf_X0_12 dX0_tryMonths_45 ?_
  refine ge_Town_claims X ok_Town_95 wf_X0_138 dX0_tryMonths_48 ?_
  refine e_aload_n X dX0_tryMonths_51 rfl rfl ?_
  refine ge_Town_claims X gt1 wf_X0_138 dX0_tryMonths_52 ?_
  refine e_isub X dX0_tryMonths_55 ?_
  exact e_iret X hr dX0_tryMonths_56 (Nat.le_of_ble_eq_true rfl) (Nat.le_of_ble_eq_true rfl) (by cases hF; exact ⟨rfl, rfl⟩)
set_option maxRecDepth 20000 in
set_option maxHeartbeats 4000000 in
theorem C_For_ruinedInTrial (hG : Gok l Γ D s0) (σ : Mem)   : CT l Γ D s0 yX0_ruinedInTrial cX0_ruinedInTrial 1 (some .int) (0) 0 0 (0) σ [.ref (Γ.1 + 94)] (PI (some (.int (F_For_ruinedInTrial σ))) σ) := by
  generalize hF : F_For_ruinedInTrial σ = out
  unfold F_For_ruinedInTrial at hF
  refine e_met (own := RX0) hG (by decide +kernel) rfl rfl (Nat.le_of_ble_eq_true rfl) ?_
  intro p e s m args below meth c X hr
  show E p l e _ s m args below meth c Γ D 0 0 _ σ 0 [some (.ref (Γ.1 + 94))] []
  refine e_aload_n X dX0_ruinedInTrial_0 rfl rfl ?_
  refine ge_For_scratch X wf_X0_12 dX0_ruinedInTrial_1 ?_
  refine ge_Town_ruined X ok_Town_95 wf_X0_115 dX0_ruinedInTrial_4 ?_
  exact e_iret X hr dX0_ruinedInTrial_7 (Nat.le_of_ble_eq_true rfl) (Nat.le_of_ble_eq_true rfl) (by cases hF; exact ⟨rfl, rfl⟩)
end PART

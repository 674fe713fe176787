section PART
variable {p : Program} {l : Launch} {e : Env} {R : Room} {s : State} {m : MethodId} {args : Array Value} {below : List Frame} {meth : Method} {c : Code} {Γ : Gm} {D : va_G} {s0 : State} {cells slots : Nat} {Q : State → Prop} {own : String} {cc : ByteArray} {nL : Nat} {σ : Mem} {pc : Nat} {lv : List (Option Value)} {st : List Value} {Pst : Option Value → Mem → Prop}
def F_M_fault (σ : Mem)  : Mem × Int32 := bindT (up σ 333 0 0) fun σ1 => (σ1, (σ1 333 12))
def F_M_gets (σ : Mem) (v1 : Int32) (v2 : Int32) : Option (Mem) := obind (F_M_of σ v1 0) fun z1 => obind (F_M_has σ v1 0 ((F_M_lesser σ 999 ((z1 + v2))))) fun z2 => some z2
def F_M_gives (σ : Mem) (v1 : Int32) (v2 : Int32) : Option (Mem × Int32) := obind (F_M_of σ v1 0) fun z1 => bindT ((F_M_lesser σ v2 z1)) fun x2 => (if x2 < v2 then obind (F_M_has σ v1 3 1) fun z6 => obind (F_M_of z6 v1 0) fun z7 => obind (F_M_has z6 v1 0 ((z7 - x2))) fun z8 => some ((z8, x2)) else obind (F_M_of σ v1 0) fun z4 => obind (F_M_has σ v1 0 ((z4 - x2))) fun z5 => some ((z5, x2)))
def F_M_pays (σ : Mem) (v1 : Int32) (v2 : Int32) : Option (Mem × Int32) := obind (F_M_of σ v1 2) fun z1 => (if z1 = (-1) then obind (F_M_gives σ v1 v2) fun z3 => some ((z3.1, z3.2)) else obind (F_M_of σ z1 3) fun z4 => (if z4 = 0 then obind (F_M_gives σ z1 ((v2 / 2))) fun z7 => obind (F_M_gets z7.1 v1 z7.2) fun z8 => obind (F_M_gives z8 v1 v2) fun z9 => some ((z9.1, z9.2)) else obind (F_M_gives σ v1 v2) fun z6 => some ((z6.1, z6.2))))
def F_M_claims_11_b (v1 : Int32) (v2 : Int32) (v3 : Int32) (v4 : Int32) (σ : Mem) : Option ((Int32 × Int32 × Mem) ⊕ (Int32 × Int32 × Mem)) := (if v4 < (σ 334 3) then (if (F_M_isOf σ v2 v4) = 0 then bindT (v4 + 1) fun x4 => some (.inl ((v3, x4, σ))) else obind (F_M_pays σ v4 ((σ 334 7))) fun z5 => bindT ((v3 + z5.2)) fun x6 => bindT (v4 + 1) fun x7 => some (.inl ((x6, x7, z5.1)))) else some (.inr ((v3, v4, σ))))
def F_M_claims (σ : Mem) (v1 : Int32) : Option (Mem × Int32) := obind (F_M_insurers σ v1) fun z1 => obind (whl (fun s => F_M_claims_11_b v1 z1 s.1 s.2.1 s.2.2) FUEL (0, 0, σ)) fun z8 => obind (F_M_ofMatch z8.2.2 v1 0) fun z9 => obind (F_M_gets z8.2.2 z9 ((z8.1 / 2))) fun z10 => obind (F_M_ofMatch z10 v1 1) fun z11 => obind (F_M_gets z10 z11 ((z8.1 - (z8.1 / 2)))) fun z12 => some ((z12, z8.1))
def F_M_premiums_8_b (v1 : Int32) (v2 : Int32) (v3 : Int32) (σ : Mem) : Option ((Int32 × Mem) ⊕ (Int32 × Mem)) := (if v3 < (σ 334 3) then (if (F_M_isOf σ v2 v3) = 0 then bindT (v3 + 1) fun x16 => some (.inl ((x16, σ))) else obind (F_M_ofMatch σ v1 0) fun z4 => obind (F_M_ofMatch σ v1 1) fun z5 => obind (F_M_of σ z4 0) fun z6 => bindT ((F_M_lesser σ ((σ 334 6)) z6)) fun x7 => obind (F_M_of σ z5 0) fun z8 => bindT ((F_M_lesser σ (((σ 334 6) - x7)) z8)) fun x9 => obind (F_M_of σ z4 0) fun z10 => obind (F_M_has σ z4 0 ((z10 - x7))) fun z11 => obind (F_M_of z11 z5 0) fun z12 => obind (F_M_has z11 z5 0 ((z12 - x9))) fun z13 => obind (F_M_gets z13 v3 ((x7 + x9))) fun z14 => bindT (v3 + 1) fun x15 => some (.inl ((x15, z14)))) else some (.inr ((v3, σ))))
def F_M_premiums (σ : Mem) (v1 : Int32) : Option (Mem) := obind (F_M_insurers σ v1) fun z1 => obind (whl (fun s => F_M_premiums_8_b v1 z1 s.1 s.2) FUEL (0, σ)) fun z17 => some z17.2
def F_M_draw (σ : Mem) (v1 : Int32) : Option (Mem × Int32) := bindT (up σ 334 12 (((1103515245 * (σ 334 12)) + 12345))) fun σ1 => chk (nz v1) <| some ((σ1, (((((σ1 334 12) : Int32).toUInt32 >>> ((16 : Int32).toUInt32 &&& Int32.toUInt32 31)).toInt32 &&& 32767) - ((((σ1 334 12) : Int32).toUInt32 >>> ((16 : Int32).toUInt32 &&& Int32.toUInt32 31)).toInt32 &&& 32767) / v1 * v1)))
def F_M_logs_5_b (v1 : Int32) (v2 : Int32) (v3 : Int32) (v4 : Int32) (σ : Mem) : Option ((Int32 × Mem) ⊕ (Int32 × Mem)) := (if v4 < 4 then some (.inr ((v4, σ))) else bindT (((210 + v4) - 4)) fun i2 => chk (inb i2 850) <| bindT ((210 + v4)) fun i4 => chk (inb i4 850) <| bindT (up σ 334 i4.toNatClampNeg ((σ 334 i2.toNatClampNeg))) fun σ6 => bindT (v4 + (-1)) fun x7 => some (.inl ((x7, σ6))))
def F_M_logs (σ : Mem) (v1 : Int32) (v2 : Int32) (v3 : Int32) : Option (Mem) := obind (whl (fun s => F_M_logs_5_b v1 v2 v3 s.1 s.2) FUEL (239, σ)) fun z8 => bindT (up z8.2 334 210 ((z8.2 334 8))) fun σ9 => bindT (up σ9 334 211 v1) fun σ10 => bindT (up σ10 334 212 v2) fun σ11 => bindT (up σ11 334 213 v3) fun σ12 => bindT (up σ12 334 11 ((F_M_lesser σ12 60 (((σ12 334 11) + 1))))) fun σ13 => bindT (up σ13 334 10 (((σ13 334 10) + 1))) fun σ14 => some σ14
def F_M_askersOf_4_b (σ : Mem) (v1 : Int32) (v3 : Int32) (v2 : Int32) : Option (Int32) := obind (F_M_of σ v3 1) fun z2 => (if (F_M_isOf σ z2 v1) = 0 then bindT ((v2 ||| 0)) fun x4 => some (x4) else bindT ((v2 ||| ((1 : Int32) <<< ((v3 : Int32) &&& 31)))) fun x5 => some (x5))
def F_M_askersOf (σ : Mem) (v1 : Int32) : Option (Int32) := obind (forSO (fun i s => F_M_askersOf_4_b σ v1 i s) (cnt 0 ((σ 334 3))) 0 0) fun z7 => some z7
def F_M_wealths_4_b (σ : Mem) (v2 : Int32) (v1 : Int32) : Option (Int32) := obind (F_M_of σ v2 0) fun z2 => bindT ((v1 + z2)) fun x3 => some (x3)
def F_M_wealths (σ : Mem)  : Option (Int32) := obind (forSO (fun i s => F_M_wealths_4_b σ i s) (cnt 0 ((σ 334 3))) 0 0) fun z5 => some z5
def F_M_two (σ : Mem) (v1 : Int32) (v2 : Int32) : Option (Int32) := obind (F_M_isPerson σ v1) fun z1 => (if z1 = 0 then some 1 else obind (F_M_isPerson σ v2) fun z3 => (if z3 = 0 then some 1 else (if v1 = v2 then some 2 else some 0)))
def F_M_liking (σ : Mem) (v1 : Int32) (v2 : Int32) : Option (Mem × Int32) := obind (F_M_two σ v1 v2) fun z1 => bindT (up σ 333 0 z1) fun σ2 => (if 0 < (σ2 333 0) then some ((σ2, 0)) else obind (F_M_likes σ2 v1 v2) fun z4 => some ((σ2, z4)))
def F_M_remembers_52_b  (v1 : Int32) (σ : Mem) : Option (Mem) := bindT (((450 * (σ 333 6)) + v1)) fun i3 => chk (inb i3 5400) <| bindT (up σ 337 i3.toNatClampNeg ((σ 334 v1.toNatClampNeg))) fun σ5 => some (σ5)
def F_M_remembers_11_b  (v1 : Int32) (σ : Mem) : Option (Mem) := bindT ((v1 + 450)) fun i10 => chk (inb i10 5400) <| bindT (up σ 337 v1.toNatClampNeg ((σ 337 i10.toNatClampNeg))) fun σ12 => some (σ12)
def F_M_remembers (σ : Mem)  : Option (Mem) := (if (σ 333 6) = 12 then obind (forSO (fun i s => F_M_remembers_11_b  i s) (cnt 0 4950) 0 σ) fun z14 => bindT (up z14 333 6 (((z14 333 6) - 1))) fun σ15 => obind (forSO (fun i s => F_M_remembers_52_b  i s) (cnt 0 450) 0 σ15) fun z16 => bindT (up z16 333 6 (((z16 333 6) + 1))) fun σ17 => some σ17 else obind (forSO (fun i s => F_M_remembers_52_b  i s) (cnt 0 450) 0 σ) fun z7 => bindT (up z7 333 6 (((z7 333 6) + 1))) fun σ8 => some σ8)
def F_M_ask (σ : Mem) (v1 : Int32) (v2 : Int32) : Option (Mem × Int32) := obind (F_M_two σ v1 v2) fun z1 => bindT (up σ 333 0 z1) fun σ2 => (if 0 < (σ2 333 0) then some ((σ2, 0)) else obind (F_M_remembers σ2) fun z4 => obind (F_M_of z4 v1 1) fun z5 => bindT ((F_M_isOf z4 z5 v2)) fun x6 => obind (F_M_of z4 v1 1) fun z7 => obind (F_M_has z4 v1 1 ((z7 ||| ((1 : Int32) <<< ((v2 : Int32) &&& 31))))) fun z8 => (if x6 = 0 then some ((z8, 1)) else some ((z8, 0))))
def F_M_wed (σ : Mem) (v1 : Int32) (v2 : Int32) : Option (Mem × Int32) := obind (F_M_two σ v1 v2) fun z1 => bindT (up σ 333 0 z1) fun σ2 => (if (σ2 333 0) = 0 then obind (F_M_wedTo σ2 v1) fun z7 => (if z7 = (-1) then obind (F_M_wedTo σ2 v2) fun z13 => (if z13 = (-1) then (if (σ2 334 4) = 20 then bindT (up σ2 333 0 4) fun σ20 => (if 0 < (σ20 333 0) then some ((σ20, 0)) else obind (F_M_remembers σ20) fun z22 => obind (F_M_comes z22 v1 v2 50) fun z23 => some ((z23, ((z23 334 4) - 1)))) else bindT (up σ2 333 0 0) fun σ16 => (if 0 < (σ16 333 0) then some ((σ16, 0)) else obind (F_M_remembers σ16) fun z18 => obind (F_M_comes z18 v1 v2 50) fun z19 => some ((z19, ((z19 334 4) - 1))))) else bindT (up σ2 333 0 3) fun σ24 => (if 0 < (σ24 333 0) then some ((σ24, 0)) else obind (F_M_remembers σ24) fun z26 => obind (F_M_comes z26 v1 v2 50) fun z27 => some ((z27, ((z27 334 4) - 1))))) else bindT (up σ2 333 0 3) fun σ9 => (if 0 < (σ9 333 0) then some ((σ9, 0)) else obind (F_M_remembers σ9) fun z11 => obind (F_M_comes z11 v1 v2 50) fun z12 => some ((z12, ((z12 334 4) - 1))))) else (if 0 < (σ2 333 0) then some ((σ2, 0)) else obind (F_M_remembers σ2) fun z5 => obind (F_M_comes z5 v1 v2 50) fun z6 => some ((z6, ((z6 334 4) - 1)))))
set_option maxRecDepth 20000 in
set_option maxHeartbeats 4000000 in
theorem C_M_fault (hG : Gok l Γ D s0) (σ : Mem)   : CT l Γ D s0 yX12_fault cX12_fault 1 (some .int) (0) 0 0 (0) σ [.ref (Γ.1 + 333)] (PI (some (.int (F_M_fault σ).2)) (F_M_fault σ).1) := by
  generalize hF : F_M_fault σ = out
  unfold F_M_fault at hF
  refine e_met (own := RX12) hG (by decide +kernel) rfl rfl (Nat.le_of_ble_eq_true rfl) ?_
  intro p e s m args below meth c X hr
  show E p l e _ s m args below meth c Γ D 0 0 _ σ 0 [some (.ref (Γ.1 + 333))] []
  refine e_aload_n X dX12_fault_0 rfl rfl ?_
  refine e_iconst X 0 dX12_fault_1 rfl ?_
  obtain ⟨σ1, h_σ1, hF⟩ := bindT_out hF
  refine pu_M_thrown X wf_X12_51 dX12_fault_2 h_σ1 ?_
  refine e_aload_n X dX12_fault_5 rfl rfl ?_
  refine ge_M_fault X wf_X12_25 dX12_fault_6 ?_
  exact e_iret X hr dX12_fault_9 (Nat.le_of_ble_eq_true rfl) (Nat.le_of_ble_eq_true rfl) (by cases hF; exact ⟨rfl, rfl⟩)
set_option maxRecDepth 20000 in
set_option maxHeartbeats 4000000 in
theorem C_M_gets (hG : Gok l Γ D s0) (σ : Mem) (v1 : Int32) (v2 : Int32)  {out : Mem} (hF : F_M_gets σ v1 v2 = some out) : CT l Γ D s0 yX12_gets cX12_gets 3 none (1) 0 0 (23) σ [.ref (Γ.1 + 333), .int v1, .int v2] (PI none out) := by
  unfold F_M_gets at hF
  refine e_met (own := RX12) hG (by decide +kernel) rfl rfl (Nat.le_of_ble_eq_true rfl) ?_
  intro p e s m args below meth c X hr
  show E p l e _ s m args below meth c Γ D 0 0 _ σ 0 [some (.ref (Γ.1 + 333)), some (.int v1), some (.int v2)] []
  refine e_aload_n X dX12_gets_0 rfl rfl ?_
  refine e_iload_n X dX12_gets_1 rfl rfl ?_
  refine e_iconst X 0 dX12_gets_2 rfl ?_
  refine e_sipush X 999 dX12_gets_3 rfl ?_
  refine e_aload_n X dX12_gets_6 rfl rfl ?_
  refine e_iload_n X dX12_gets_7 rfl rfl ?_
  refine e_iconst X 0 dX12_gets_8 rfl ?_
  obtain ⟨z1, h_z1, hF⟩ := obind_out hF
  refine e_callVi X (r := z1) (σ1 := σ) [.int v1, .int 0] [.int 999, .int 0, .int v1, .ref (Γ.1 + 333)] (C_M_of (Cx_gok X) σ v1 0 h_z1) gv_X12_62 yk_X12_of rfl (ent_lt (rfl : entTbl[333]? = some (13, 0))) (ent_at (rfl : entTbl[333]? = some (13, 0)) _) (rfl : vCl[11]? = some (RX12, TX12, 24)) ⟨Nat.le_of_ble_eq_true rfl, Nat.le_of_ble_eq_true rfl⟩ ⟨Nat.le_of_ble_eq_true rfl, Nat.le_of_ble_eq_true rfl⟩ (Nat.le_of_ble_eq_true rfl) dX12_gets_9 rfl ?_
  refine e_iload_n X dX12_gets_12 rfl rfl ?_
  refine e_iadd X dX12_gets_13 ?_
  refine e_callSi X (r := (F_M_lesser σ 999 ((z1 + v2)))) (σ1 := σ) [.int 999, .int ((z1 + v2))] [.int 0, .int v1, .ref (Γ.1 + 333)] (C_M_lesser (Cx_gok X) σ 999 ((z1 + v2))) gs_X12_263 yk_X12_lesser rfl ⟨Nat.le_of_ble_eq_true rfl, Nat.le_of_ble_eq_true rfl⟩ ⟨Nat.le_of_ble_eq_true rfl, Nat.le_of_ble_eq_true rfl⟩ (Nat.le_of_ble_eq_true rfl) dX12_gets_14 rfl ?_
  obtain ⟨z2, h_z2, hF⟩ := obind_out hF
  refine e_callVv X (σ1 := z2) [.int v1, .int 0, .int ((F_M_lesser σ 999 ((z1 + v2))))] [] (C_M_has (Cx_gok X) σ v1 0 ((F_M_lesser σ 999 ((z1 + v2)))) h_z2) gv_X12_144 yk_X12_has rfl (ent_lt (rfl : entTbl[333]? = some (13, 0))) (ent_at (rfl : entTbl[333]? = some (13, 0)) _) (rfl : vCl[11]? = some (RX12, TX12, 24)) ⟨Nat.le_of_ble_eq_true rfl, Nat.le_of_ble_eq_true rfl⟩ ⟨Nat.le_of_ble_eq_true rfl, Nat.le_of_ble_eq_true rfl⟩ (Nat.le_of_ble_eq_true rfl) dX12_gets_17 rfl ?_
  exact e_vret X hr dX12_gets_20 (Nat.le_of_ble_eq_true rfl) (Nat.le_of_ble_eq_true rfl) (by cases hF; exact ⟨rfl, rfl⟩)
set_option maxRecDepth 20000 in
set_option maxHeartbeats 4000000 in
theorem C_M_gives (hG : Gok l Γ D s0) (σ : Mem) (v1 : Int32) (v2 : Int32)  {out : Mem × Int32} (hF : F_M_gives σ v1 v2 = some out) : CT l Γ D s0 yX12_gives cX12_gives 4 (some .int) (1) 0 0 (23) σ [.ref (Γ.1 + 333), .int v1, .int v2] (PI (some (.int out.2)) out.1) := by
  unfold F_M_gives at hF
  refine e_met (own := RX12) hG (by decide +kernel) rfl rfl (Nat.le_of_ble_eq_true rfl) ?_
  intro p e s m args below meth c X hr
  show E p l e _ s m args below meth c Γ D 0 0 _ σ 0 [some (.ref (Γ.1 + 333)), some (.int v1), some (.int v2), none] []
  refine e_iload_n X dX12_gives_0 rfl rfl ?_
  refine e_aload_n X dX12_gives_1 rfl rfl ?_
  refine e_iload_n X dX12_gives_2 rfl rfl ?_
  refine e_iconst X 0 dX12_gives_3 rfl ?_
  obtain ⟨z1, h_z1, hF⟩ := obind_out hF
  refine e_callVi X (r := z1) (σ1 := σ) [.int v1, .int 0] [.int v2] (C_M_of (Cx_gok X) σ v1 0 h_z1) gv_X12_62 yk_X12_of rfl (ent_lt (rfl : entTbl[333]? = some (13, 0))) (ent_at (rfl : entTbl[333]? = some (13, 0)) _) (rfl : vCl[11]? = some (RX12, TX12, 24)) ⟨Nat.le_of_ble_eq_true rfl, Nat.le_of_ble_eq_true rfl⟩ ⟨Nat.le_of_ble_eq_true rfl, Nat.le_of_ble_eq_true rfl⟩ (Nat.le_of_ble_eq_true rfl) dX12_gives_4 rfl ?_
  refine e_callSi X (r := (F_M_lesser σ v2 z1)) (σ1 := σ) [.int v2, .int z1] [] (C_M_lesser (Cx_gok X) σ v2 z1) gs_X12_263 yk_X12_lesser rfl ⟨Nat.le_of_ble_eq_true rfl, Nat.le_of_ble_eq_true rfl⟩ ⟨Nat.le_of_ble_eq_true rfl, Nat.le_of_ble_eq_true rfl⟩ (Nat.le_of_ble_eq_true rfl) dX12_gives_7 rfl ?_
  obtain ⟨x2, h_x2, hF⟩ := bindT_out hF
  refine e_istore_n X h_x2 dX12_gives_10 rfl (by decide) ?_
  refine e_iload_n X dX12_gives_11 rfl rfl ?_
  refine e_iload_n X dX12_gives_12 rfl rfl ?_
  refine e_icmp_ge X 23 dX12_gives_13 (by decide) (fun c3 => ?_) (fun c3 => ?_)
  · skip
    rw [if_neg c3] at hF
    refine e_aload_n X dX12_gives_23 rfl rfl ?_
    refine e_iload_n X dX12_gives_24 rfl rfl ?_
    refine e_iconst X 0 dX12_gives_25 rfl ?_
    refine e_aload_n X dX12_gives_26 rfl rfl ?_
    refine e_iload_n X dX12_gives_27 rfl rfl ?_
    refine e_iconst X 0 dX12_gives_28 rfl ?_
    obtain ⟨z4, h_z4, hF⟩ := obind_out hF
    refine e_callVi X (r := z4) (σ1 := σ) [.int v1, .int 0] [.int 0, .int v1, .ref (Γ.1 + 333)] (C_M_of (Cx_gok X) σ v1 0 h_z4) gv_X12_62 yk_X12_of rfl (ent_lt (rfl : entTbl[333]? = some (13, 0))) (ent_at (rfl : entTbl[333]? = some (13, 0)) _) (rfl : vCl[11]? = some (RX12, TX12, 24)) ⟨Nat.le_of_ble_eq_true rfl, Nat.le_of_ble_eq_true rfl⟩ ⟨Nat.le_of_ble_eq_true rfl, Nat.le_of_ble_eq_true rfl⟩ (Nat.le_of_ble_eq_true rfl) dX12_gives_29 rfl ?_
    refine e_iload_n X dX12_gives_32 rfl rfl ?_
    refine e_isub X dX12_gives_33 ?_
    obtain ⟨z5, h_z5, hF⟩ := obind_out hF
    refine e_callVv X (σ1 := z5) [.int v1, .int 0, .int ((z4 - x2))] [] (C_M_has (Cx_gok X) σ v1 0 ((z4 - x2)) h_z5) gv_X12_144 yk_X12_has rfl (ent_lt (rfl : entTbl[333]? = some (13, 0))) (ent_at (rfl : entTbl[333]? = some (13, 0)) _) (rfl : vCl[11]? = some (RX12, TX12, 24)) ⟨Nat.le_of_ble_eq_true rfl, Nat.le_of_ble_eq_true rfl⟩ ⟨Nat.le_of_ble_eq_true rfl, Nat.le_of_ble_eq_true rfl⟩ (Nat.le_of_ble_eq_true rfl) dX12_gives_34 rfl ?_
    refine e_iload_n X dX12_gives_37 rfl rfl ?_
    exact e_iret X hr dX12_gives_38 (Nat.le_of_ble_eq_true rfl) (Nat.le_of_ble_eq_true rfl) (by cases hF; exact ⟨rfl, rfl⟩)
  · skip
    rw [if_pos c3] at hF
    refine e_aload_n X dX12_gives_16 rfl rfl ?_
    refine e_iload_n X dX12_gives_17 rfl rfl ?_
    refine e_iconst X 3 dX12_gives_18 rfl ?_
    refine e_iconst X 1 dX12_gives_19 rfl ?_
    obtain ⟨z6, h_z6, hF⟩ := obind_out hF
    refine e_callVv X (σ1 := z6) [.int v1, .int 3, .int 1] [] (C_M_has (Cx_gok X) σ v1 3 1 h_z6) gv_X12_144 yk_X12_has rfl (ent_lt (rfl : entTbl[333]? = some (13, 0))) (ent_at (rfl : entTbl[333]? = some (13, 0)) _) (rfl : vCl[11]? = some (RX12, TX12, 24)) ⟨Nat.le_of_ble_eq_true rfl, Nat.le_of_ble_eq_true rfl⟩ ⟨Nat.le_of_ble_eq_true rfl, Nat.le_of_ble_eq_true rfl⟩ (Nat.le_of_ble_eq_true rfl) dX12_gives_20 rfl ?_
    refine e_aload_n X dX12_gives_23 rfl rfl ?_
    refine e_iload_n X dX12_gives_24 rfl rfl ?_
    refine e_iconst X 0 dX12_gives_25 rfl ?_
    refine e_aload_n X dX12_gives_26 rfl rfl ?_
    refine e_iload_n X dX12_gives_27 rfl rfl ?_
    refine e_iconst X 0 dX12_gives_28 rfl ?_
    obtain ⟨z7, h_z7, hF⟩ := obind_out hF
    refine e_callVi X (r := z7) (σ1 := z6) [.int v1, .int 0] [.int 0, .int v1, .ref (Γ.1 + 333)] (C_M_of (Cx_gok X) z6 v1 0 h_z7) gv_X12_62 yk_X12_of rfl (ent_lt (rfl : entTbl[333]? = some (13, 0))) (ent_at (rfl : entTbl[333]? = some (13, 0)) _) (rfl : vCl[11]? = some (RX12, TX12, 24)) ⟨Nat.le_of_ble_eq_true rfl, Nat.le_of_ble_eq_true rfl⟩ ⟨Nat.le_of_ble_eq_true rfl, Nat.le_of_ble_eq_true rfl⟩ (Nat.le_of_ble_eq_true rfl) dX12_gives_29 rfl ?_
    refine e_iload_n X dX12_gives_32 rfl rfl ?_
    refine e_isub X dX12_gives_33 ?_
    obtain ⟨z8, h_z8, hF⟩ := obind_out hF
    refine e_callVv X (σ1 := z8) [.int v1, .int 0, .int ((z7 - x2))] [] (C_M_has (Cx_gok X) z6 v1 0 ((z7 - x2)) h_z8) gv_X12_144 yk_X12_has rfl (ent_lt (rfl : entTbl[333]? = some (13, 0))) (ent_at (rfl : entTbl[333]? = some (13, 0)) _) (rfl : vCl[11]? = some (RX12, TX12, 24)) ⟨Nat.le_of_ble_eq_true rfl, Nat.le_of_ble_eq_true rfl⟩ ⟨Nat.le_of_ble_eq_true rfl, Nat.le_of_ble_eq_true rfl⟩ (Nat.le_of_ble_eq_true rfl) dX12_gives_34 rfl ?_
    refine e_iload_n X dX12_gives_37 rfl rfl ?_
    exact e_iret X hr dX12_gives_38 (Nat.le_of_ble_eq_true rfl) (Nat.le_of_ble_eq_true rfl) (by cases hF; exact ⟨rfl, rfl⟩)
set_option maxRecDepth 20000 in
set_option maxHeartbeats 4000000 in
theorem C_M_pays (hG : Gok l Γ D s0) (σ : Mem) (v1 : Int32) (v2 : Int32)  {out : Mem × Int32} (hF : F_M_pays σ v1 v2 = some out) : CT l Γ D s0 yX12_pays cX12_pays 4 (some .int) (2) 0 0 (46) σ [.ref (Γ.1 + 333), .int v1, .int v2] (PI (some (.int out.2)) out.1) := by
  unfold F_M_pays at hF
  refine e_met (own := RX12) hG (by decide +kernel) rfl rfl (Nat.le_of_ble_eq_true rfl) ?_
  intro p e s m args below meth c X hr
  show E p l e _ s m args below meth c Γ D 0 0 _ σ 0 [some (.ref (Γ.1 + 333)), some (.int v1), some (.int v2), none] []
  refine e_aload_n X dX12_pays_0 rfl rfl ?_
  refine e_iload_n X dX12_pays_1 rfl rfl ?_
  refine e_iconst X 2 dX12_pays_2 rfl ?_
  obtain ⟨z1, h_z1, hF⟩ := obind_out hF
  refine e_callVi X (r := z1) (σ1 := σ) [.int v1, .int 2] [] (C_M_of (Cx_gok X) σ v1 2 h_z1) gv_X12_62 yk_X12_of rfl (ent_lt (rfl : entTbl[333]? = some (13, 0))) (ent_at (rfl : entTbl[333]? = some (13, 0)) _) (rfl : vCl[11]? = some (RX12, TX12, 24)) ⟨Nat.le_of_ble_eq_true rfl, Nat.le_of_ble_eq_true rfl⟩ ⟨Nat.le_of_ble_eq_true rfl, Nat.le_of_ble_eq_true rfl⟩ (Nat.le_of_ble_eq_true rfl) dX12_pays_3 rfl ?_
  refine e_istore_n X rfl dX12_pays_6 rfl (by decide) ?_
  refine e_iload_n X dX12_pays_7 rfl rfl ?_
  refine e_iconst X (-1) dX12_pays_8 rfl ?_
  refine e_icmp_eq X 34 dX12_pays_9 (by decide) (fun c2 => ?_) (fun c2 => ?_)
  · skip
    rw [if_pos c2] at hF
    refine e_aload_n X dX12_pays_34 rfl rfl ?_
    refine e_iload_n X dX12_pays_35 rfl rfl ?_
    refine e_iload_n X dX12_pays_36 rfl rfl ?_
    obtain ⟨z3, h_z3, hF⟩ := obind_out hF
    refine e_callVi X (r := z3.2) (σ1 := z3.1) [.int v1, .int v2] [] (C_M_gives (Cx_gok X) σ v1 v2 h_z3) gv_X12_269 yk_X12_gives rfl (ent_lt (rfl : entTbl[333]? = some (13, 0))) (ent_at (rfl : entTbl[333]? = some (13, 0)) _) (rfl : vCl[11]? = some (RX12, TX12, 24)) ⟨Nat.le_of_ble_eq_true rfl, Nat.le_of_ble_eq_true rfl⟩ ⟨Nat.le_of_ble_eq_true rfl, Nat.le_of_ble_eq_true rfl⟩ (Nat.le_of_ble_eq_true rfl) dX12_pays_37 rfl ?_
    exact e_iret X hr dX12_pays_40 (Nat.le_of_ble_eq_true rfl) (Nat.le_of_ble_eq_true rfl) (by cases hF; exact ⟨rfl, rfl⟩)
  · skip
    rw [if_neg c2] at hF
    refine e_aload_n X dX12_pays_12 rfl rfl ?_
    refine e_iload_n X dX12_pays_13 rfl rfl ?_
    refine e_iconst X 3 dX12_pays_14 rfl ?_
    obtain ⟨z4, h_z4, hF⟩ := obind_out hF
    refine e_callVi X (r := z4) (σ1 := σ) [.int z1, .int 3] [] (C_M_of (Cx_gok X) σ z1 3 h_z4) gv_X12_62 yk_X12_of rfl (ent_lt (rfl : entTbl[333]? = some (13, 0))) (ent_at (rfl : entTbl[333]? = some (13, 0)) _) (rfl : vCl[11]? = some (RX12, TX12, 24)) ⟨Nat.le_of_ble_eq_true rfl, Nat.le_of_ble_eq_true rfl⟩ ⟨Nat.le_of_ble_eq_true rfl, Nat.le_of_ble_eq_true rfl⟩ (Nat.le_of_ble_eq_true rfl) dX12_pays_15 rfl ?_
    refine e_if_ne X 34 dX12_pays_18 (by decide) (fun c5 => ?_) (fun c5 => ?_)
    · skip
      rw [if_neg c5] at hF
      refine e_aload_n X dX12_pays_34 rfl rfl ?_
      refine e_iload_n X dX12_pays_35 rfl rfl ?_
      refine e_iload_n X dX12_pays_36 rfl rfl ?_
      obtain ⟨z6, h_z6, hF⟩ := obind_out hF
      refine e_callVi X (r := z6.2) (σ1 := z6.1) [.int v1, .int v2] [] (C_M_gives (Cx_gok X) σ v1 v2 h_z6) gv_X12_269 yk_X12_gives rfl (ent_lt (rfl : entTbl[333]? = some (13, 0))) (ent_at (rfl : entTbl[333]? = some (13, 0)) _) (rfl : vCl[11]? = some (RX12, TX12, 24)) ⟨Nat.le_of_ble_eq_true rfl, Nat.le_of_ble_eq_true rfl⟩ ⟨Nat.le_of_ble_eq_true rfl, Nat.le_of_ble_eq_true rfl⟩ (Nat.le_of_ble_eq_true rfl) dX12_pays_37 rfl ?_
      exact e_iret X hr dX12_pays_40 (Nat.le_of_ble_eq_true rfl) (Nat.le_of_ble_eq_true rfl) (by cases hF; exact ⟨rfl, rfl⟩)
    · skip
      rw [if_pos c5] at hF
      refine e_aload_n X dX12_pays_21 rfl rfl ?_
      refine e_iload_n X dX12_pays_22 rfl rfl ?_
      refine e_aload_n X dX12_pays_23 rfl rfl ?_
      refine e_iload_n X dX12_pays_24 rfl rfl ?_
      refine e_iload_n X dX12_pays_25 rfl rfl ?_
      refine e_iconst X 2 dX12_pays_26 rfl ?_
      refine e_idiv X dX12_pays_27 (by decide) ?_
      obtain ⟨z7, h_z7, hF⟩ := obind_out hF
      refine e_callVi X (r := z7.2) (σ1 := z7.1) [.int z1, .int ((v2 / 2))] [.int v1, .ref (Γ.1 + 333)] (C_M_gives (Cx_gok X) σ z1 ((v2 / 2)) h_z7) gv_X12_269 yk_X12_gives rfl (ent_lt (rfl : entTbl[333]? = some (13, 0))) (ent_at (rfl : entTbl[333]? = some (13, 0)) _) (rfl : vCl[11]? = some (RX12, TX12, 24)) ⟨Nat.le_of_ble_eq_true rfl, Nat.le_of_ble_eq_true rfl⟩ ⟨Nat.le_of_ble_eq_true rfl, Nat.le_of_ble_eq_true rfl⟩ (Nat.le_of_ble_eq_true rfl) dX12_pays_28 rfl ?_
      obtain ⟨z8, h_z8, hF⟩ := obind_out hF
      refine e_callVv X (σ1 := z8) [.int v1, .int z7.2] [] (C_M_gets (Cx_gok X) z7.1 v1 z7.2 h_z8) gv_X12_272 yk_X12_gets rfl (ent_lt (rfl : entTbl[333]? = some (13, 0))) (ent_at (rfl : entTbl[333]? = some (13, 0)) _) (rfl : vCl[11]? = some (RX12, TX12, 24)) ⟨Nat.le_of_ble_eq_true rfl, Nat.le_of_ble_eq_true rfl⟩ ⟨Nat.le_of_ble_eq_true rfl, Nat.le_of_ble_eq_true rfl⟩ (Nat.le_of_ble_eq_true rfl) dX12_pays_31 rfl ?_
      refine e_aload_n X dX12_pays_34 rfl rfl ?_
      refine e_iload_n X dX12_pays_35 rfl rfl ?_
      refine e_iload_n X dX12_pays_36 rfl rfl ?_
      obtain ⟨z9, h_z9, hF⟩ := obind_out hF
      refine e_callVi X (r := z9.2) (σ1 := z9.1) [.int v1, .int v2] [] (C_M_gives (Cx_gok X) z8 v1 v2 h_z9) gv_X12_269 yk_X12_gives rfl (ent_lt (rfl : entTbl[333]? = some (13, 0))) (ent_at (rfl : entTbl[333]? = some (13, 0)) _) (rfl : vCl[11]? = some (RX12, TX12, 24)) ⟨Nat.le_of_ble_eq_true rfl, Nat.le_of_ble_eq_true rfl⟩ ⟨Nat.le_of_ble_eq_true rfl, Nat.le_of_ble_eq_true rfl⟩ (Nat.le_of_ble_eq_true rfl) dX12_pays_37 rfl ?_
      exact e_iret X hr dX12_pays_40 (Nat.le_of_ble_eq_true rfl) (Nat.le_of_ble_eq_true rfl) (by cases hF; exact ⟨rfl, rfl⟩)
set_option maxRecDepth 20000 in
set_option maxHeartbeats 4000000 in
theorem L_M_claims_11 (X : Cx p l s m args meth c Γ D s0 RX12 cX12_claims 5) (hr : meth.sig.returnType = (some .int)) (v1 : Int32) (v2 : Int32)  : ∀ (n : Nat) (v3 : Int32) (v4 : Int32) (σ : Mem) {z : Int32 × Int32 × Mem}, whl (fun s => F_M_claims_11_b v1 v2 s.1 s.2.1 s.2.2) n (v3, v4, σ) = some z → (E p l e ({ frames := 3, cells := 0, slots := 0, locals := 69 } : Room) s m args below meth c Γ D 0 0 (MQ below (QcA Γ D Pst) args s 0 0 (frB Γ)) z.2.2 53 [some (.ref (Γ.1 + 333)), some (.int v1), some (.int v2), some (.int z.1), some (.int z.2.1)] []) → E p l e ({ frames := 3, cells := 0, slots := 0, locals := 69 } : Room) s m args below meth c Γ D 0 0 (MQ below (QcA Γ D Pst) args s 0 0 (frB Γ)) σ 11 [some (.ref (Γ.1 + 333)), some (.int v1), some (.int v2), some (.int v3), some (.int v4)] [] := by
  intro n
  induction n with
  | zero =>
    intro v3 v4 σ z hF hK
    cases hF
  | succ n ih =>
    intro v3 v4 σ z hF hK
    obtain ⟨y9, hB, hF⟩ := whl_step hF
    change F_M_claims_11_b v1 v2 v3 v4 σ = some y9 at hB
    unfold F_M_claims_11_b at hB
    refine e_iload X dX12_claims_11 rfl ?_
    refine e_aload_n X dX12_claims_13 rfl rfl ?_
    refine ge_M_m X wf_X12_7 dX12_claims_14 ?_
    refine e_iconst X 3 dX12_claims_17 rfl ?_
    refine e_iald X (j := 3) rfl rfl (vp_in_iff.mpr (by decide)) rfl dX12_claims_18 ?_
    refine e_icmp_ge X 53 dX12_claims_19 (by decide) (fun c2 => ?_) (fun c2 => ?_)
    · skip
      rw [if_neg c2] at hB
      have hy9 := Option.some.inj hB; change (.inr ((v3, v4, σ))) = y9 at hy9; subst hy9
      have hz9 := Option.some.inj hF; change ((v3, v4, σ)) = z at hz9; subst hz9
      exact e_le hK (And.intro rfl (And.intro rfl (And.intro rfl (And.intro rfl (And.intro rfl (trivial))))))
    · skip
      rw [if_pos c2] at hB
      refine e_iload_n X dX12_claims_22 rfl rfl ?_
      refine e_iload X dX12_claims_23 rfl ?_
      refine e_callSi X (r := (F_M_isOf σ v2 v4)) (σ1 := σ) [.int v2, .int v4] [] (C_M_isOf (Cx_gok X) σ v2 v4) gs_X12_65 yk_X12_isOf rfl ⟨Nat.le_of_ble_eq_true rfl, Nat.le_of_ble_eq_true rfl⟩ ⟨Nat.le_of_ble_eq_true rfl, Nat.le_of_ble_eq_true rfl⟩ (Nat.le_of_ble_eq_true rfl) dX12_claims_25 rfl ?_
      refine e_if_eq X 47 dX12_claims_28 (by decide) (fun c3 => ?_) (fun c3 => ?_)
      · skip
        rw [if_pos c3] at hB
        refine e_iinc X 1 dX12_claims_47 rfl rfl (by decide) ?_
        obtain ⟨x4, h_x4, hB⟩ := bindT_out hB
        rw [← h_x4]
        refine e_goto X 11 dX12_claims_50 (by decide) ?_
        have hy9 := Option.some.inj hB; change (.inl ((v3, x4, σ))) = y9 at hy9; subst hy9
        exact e_le (ih v3 x4 σ hF hK) (And.intro rfl (And.intro rfl (And.intro rfl (And.intro rfl (And.intro rfl (trivial))))))
      · skip
        rw [if_neg c3] at hB
        refine e_iload_n X dX12_claims_31 rfl rfl ?_
        refine e_aload_n X dX12_claims_32 rfl rfl ?_
        refine e_iload X dX12_claims_33 rfl ?_
        refine e_aload_n X dX12_claims_35 rfl rfl ?_
        refine ge_M_m X wf_X12_7 dX12_claims_36 ?_
        refine e_bipush X 7 dX12_claims_39 rfl ?_
        refine e_iald X (j := 7) rfl rfl (vp_in_iff.mpr (by decide)) rfl dX12_claims_41 ?_
        obtain ⟨z5, h_z5, hB⟩ := obind_out hB
        refine e_callVi X (r := z5.2) (σ1 := z5.1) [.int v4, .int ((σ 334 7))] [.int v3] (C_M_pays (Cx_gok X) σ v4 ((σ 334 7)) h_z5) gv_X12_275 yk_X12_pays rfl (ent_lt (rfl : entTbl[333]? = some (13, 0))) (ent_at (rfl : entTbl[333]? = some (13, 0)) _) (rfl : vCl[11]? = some (RX12, TX12, 24)) ⟨Nat.le_of_ble_eq_true rfl, Nat.le_of_ble_eq_true rfl⟩ ⟨Nat.le_of_ble_eq_true rfl, Nat.le_of_ble_eq_true rfl⟩ (Nat.le_of_ble_eq_true rfl) dX12_claims_42 rfl ?_
        refine e_iadd X dX12_claims_45 ?_
        obtain ⟨x6, h_x6, hB⟩ := bindT_out hB
        refine e_istore_n X h_x6 dX12_claims_46 rfl (by decide) ?_
        refine e_iinc X 1 dX12_claims_47 rfl rfl (by decide) ?_
        obtain ⟨x7, h_x7, hB⟩ := bindT_out hB
        rw [← h_x7]
        refine e_goto X 11 dX12_claims_50 (by decide) ?_
        have hy9 := Option.some.inj hB; change (.inl ((x6, x7, z5.1))) = y9 at hy9; subst hy9
        exact e_le (ih x6 x7 z5.1 hF hK) (And.intro rfl (And.intro rfl (And.intro rfl (And.intro rfl (And.intro rfl (trivial))))))
set_option maxRecDepth 20000 in
set_option maxHeartbeats 4000000 in
theorem C_M_claims (hG : Gok l Γ D s0) (σ : Mem) (v1 : Int32)  {out : Mem × Int32} (hF : F_M_claims σ v1 = some out) : CT l Γ D s0 yX12_claims cX12_claims 5 (some .int) (3) 0 0 (69) σ [.ref (Γ.1 + 333), .int v1] (PI (some (.int out.2)) out.1) := by
  unfold F_M_claims at hF
  refine e_met (own := RX12) hG (by decide +kernel) rfl rfl (Nat.le_of_ble_eq_true rfl) ?_
  intro p e s m args below meth c X hr
  show E p l e _ s m args below meth c Γ D 0 0 _ σ 0 [some (.ref (Γ.1 + 333)), some (.int v1), none, none, none] []
  refine e_aload_n X dX12_claims_0 rfl rfl ?_
  refine e_iload_n X dX12_claims_1 rfl rfl ?_
  obtain ⟨z1, h_z1, hF⟩ := obind_out hF
  refine e_callVi X (r := z1) (σ1 := σ) [.int v1] [] (C_M_insurers (Cx_gok X) σ v1 h_z1) gv_X12_256 yk_X12_insurers rfl (ent_lt (rfl : entTbl[333]? = some (13, 0))) (ent_at (rfl : entTbl[333]? = some (13, 0)) _) (rfl : vCl[11]? = some (RX12, TX12, 24)) ⟨Nat.le_of_ble_eq_true rfl, Nat.le_of_ble_eq_true rfl⟩ ⟨Nat.le_of_ble_eq_true rfl, Nat.le_of_ble_eq_true rfl⟩ (Nat.le_of_ble_eq_true rfl) dX12_claims_2 rfl ?_
  refine e_istore_n X rfl dX12_claims_5 rfl (by decide) ?_
  refine e_iconst X 0 dX12_claims_6 rfl ?_
  refine e_istore_n X rfl dX12_claims_7 rfl (by decide) ?_
  refine e_iconst X 0 dX12_claims_8 rfl ?_
  refine e_istore X rfl dX12_claims_9 (by decide) ?_
  obtain ⟨z8, h_z8, hF⟩ := obind_out hF
  refine e_le (L_M_claims_11 X hr v1 z1 _ 0 0 σ h_z8 ?_) (And.intro rfl (And.intro rfl (And.intro rfl (And.intro rfl (And.intro rfl (trivial))))))
  refine e_aload_n X dX12_claims_53 rfl rfl ?_
  refine e_aload_n X dX12_claims_54 rfl rfl ?_
  refine e_iload_n X dX12_claims_55 rfl rfl ?_
  refine e_iconst X 0 dX12_claims_56 rfl ?_
  obtain ⟨z9, h_z9, hF⟩ := obind_out hF
  refine e_callVi X (r := z9) (σ1 := z8.2.2) [.int v1, .int 0] [.ref (Γ.1 + 333)] (C_M_ofMatch (Cx_gok X) z8.2.2 v1 0 h_z9) gv_X12_58 yk_X12_ofMatch rfl (ent_lt (rfl : entTbl[333]? = some (13, 0))) (ent_at (rfl : entTbl[333]? = some (13, 0)) _) (rfl : vCl[11]? = some (RX12, TX12, 24)) ⟨Nat.le_of_ble_eq_true rfl, Nat.le_of_ble_eq_true rfl⟩ ⟨Nat.le_of_ble_eq_true rfl, Nat.le_of_ble_eq_true rfl⟩ (Nat.le_of_ble_eq_true rfl) dX12_claims_57 rfl ?_
  refine e_iload_n X dX12_claims_60 rfl rfl ?_
  refine e_iconst X 2 dX12_claims_61 rfl ?_
  refine e_idiv X dX12_claims_62 (by decide) ?_
  obtain ⟨z10, h_z10, hF⟩ := obind_out hF
  refine e_callVv X (σ1 := z10) [.int z9, .int ((z8.1 / 2))] [] (C_M_gets (Cx_gok X) z8.2.2 z9 ((z8.1 / 2)) h_z10) gv_X12_272 yk_X12_gets rfl (ent_lt (rfl : entTbl[333]? = some (13, 0))) (ent_at (rfl : entTbl[333]? = some (13, 0)) _) (rfl : vCl[11]? = some (RX12, TX12, 24)) ⟨Nat.le_of_ble_eq_true rfl, Nat.le_of_ble_eq_true rfl⟩ ⟨Nat.le_of_ble_eq_true rfl, Nat.le_of_ble_eq_true rfl⟩ (Nat.le_of_ble_eq_true rfl) dX12_claims_63 rfl ?_
  refine e_aload_n X dX12_claims_66 rfl rfl ?_
  refine e_aload_n X dX12_claims_67 rfl rfl ?_
  refine e_iload_n X dX12_claims_68 rfl rfl ?_
  refine e_iconst X 1 dX12_claims_69 rfl ?_
  obtain ⟨z11, h_z11, hF⟩ := obind_out hF
  refine e_callVi X (r := z11) (σ1 := z10) [.int v1, .int 1] [.ref (Γ.1 + 333)] (C_M_ofMatch (Cx_gok X) z10 v1 1 h_z11) gv_X12_58 yk_X12_ofMatch rfl (ent_lt (rfl : entTbl[333]? = some (13, 0))) (ent_at (rfl : entTbl[333]? = some (13, 0)) _) (rfl : vCl[11]? = some (RX12, TX12, 24)) ⟨Nat.le_of_ble_eq_true rfl, Nat.le_of_ble_eq_true rfl⟩ ⟨Nat.le_of_ble_eq_true rfl, Nat.le_of_ble_eq_true rfl⟩ (Nat.le_of_ble_eq_true rfl) dX12_claims_70 rfl ?_
  refine e_iload_n X dX12_claims_73 rfl rfl ?_
  refine e_iload_n X dX12_claims_74 rfl rfl ?_
  refine e_iconst X 2 dX12_claims_75 rfl ?_
  refine e_idiv X dX12_claims_76 (by decide) ?_
  refine e_isub X dX12_claims_77 ?_
  obtain ⟨z12, h_z12, hF⟩ := obind_out hF
  refine e_callVv X (σ1 := z12) [.int z11, .int ((z8.1 - (z8.1 / 2)))] [] (C_M_gets (Cx_gok X) z10 z11 ((z8.1 - (z8.1 / 2))) h_z12) gv_X12_272 yk_X12_gets rfl (ent_lt (rfl : entTbl[333]? = some (13, 0))) (ent_at (rfl : entTbl[333]? = some (13, 0)) _) (rfl : vCl[11]? = some (RX12, TX12, 24)) ⟨Nat.le_of_ble_eq_true rfl, Nat.le_of_ble_eq_true rfl⟩ ⟨Nat.le_of_ble_eq_true rfl, Nat.le_of_ble_eq_true rfl⟩ (Nat.le_of_ble_eq_true rfl) dX12_claims_78 rfl ?_
  refine e_iload_n X dX12_claims_81 rfl rfl ?_
  exact e_iret X hr dX12_claims_82 (Nat.le_of_ble_eq_true rfl) (Nat.le_of_ble_eq_true rfl) (by cases hF; exact ⟨rfl, rfl⟩)
set_option maxRecDepth 20000 in
set_option maxHeartbeats 4000000 in
theorem L_M_premiums_8 (X : Cx p l s m args meth c Γ D s0 RX12 cX12_premiums 8) (hr : meth.sig.returnType = none) (v1 : Int32) (v2 : Int32)  : ∀ (n : Nat) (v3 : Int32) (σ : Mem) {z : Int32 × Mem}, whl (fun s => F_M_premiums_8_b v1 v2 s.1 s.2) n (v3, σ) = some z → (E p l e ({ frames := 3, cells := 0, slots := 0, locals := 67 } : Room) s m args below meth c Γ D 0 0 (MQ below (QcA Γ D Pst) args s 0 0 (frB Γ)) z.2 136 [some (.ref (Γ.1 + 333)), some (.int v1), some (.int v2), some (.int z.1), none, none, none, none] []) → E p l e ({ frames := 3, cells := 0, slots := 0, locals := 67 } : Room) s m args below meth c Γ D 0 0 (MQ below (QcA Γ D Pst) args s 0 0 (frB Γ)) σ 8 [some (.ref (Γ.1 + 333)), some (.int v1), some (.int v2), some (.int v3), none, none, none, none] [] := by
  intro n
  induction n with
  | zero =>
    intro v3 σ z hF hK
    cases hF
  | succ n ih =>
    intro v3 σ z hF hK
    obtain ⟨y9, hB, hF⟩ := whl_step hF
    change F_M_premiums_8_b v1 v2 v3 σ = some y9 at hB
    unfold F_M_premiums_8_b at hB
    refine e_iload_n X dX12_premiums_8 rfl rfl ?_
    refine e_aload_n X dX12_premiums_9 rfl rfl ?_
    refine ge_M_m X wf_X12_7 dX12_premiums_10 ?_
    refine e_iconst X 3 dX12_premiums_13 rfl ?_
    refine e_iald X (j := 3) rfl rfl (vp_in_iff.mpr (by decide)) rfl dX12_premiums_14 ?_
    refine e_icmp_ge X 136 dX12_premiums_15 (by decide) (fun c2 => ?_) (fun c2 => ?_)
    · skip
      rw [if_neg c2] at hB
      have hy9 := Option.some.inj hB; change (.inr ((v3, σ))) = y9 at hy9; subst hy9
      have hz9 := Option.some.inj hF; change ((v3, σ)) = z at hz9; subst hz9
      exact e_le hK (And.intro rfl (And.intro rfl (And.intro rfl (And.intro rfl (trivial)))))
    · skip
      rw [if_pos c2] at hB
      refine e_iload_n X dX12_premiums_18 rfl rfl ?_
      refine e_iload_n X dX12_premiums_19 rfl rfl ?_
      refine e_callSi X (r := (F_M_isOf σ v2 v3)) (σ1 := σ) [.int v2, .int v3] [] (C_M_isOf (Cx_gok X) σ v2 v3) gs_X12_65 yk_X12_isOf rfl ⟨Nat.le_of_ble_eq_true rfl, Nat.le_of_ble_eq_true rfl⟩ ⟨Nat.le_of_ble_eq_true rfl, Nat.le_of_ble_eq_true rfl⟩ (Nat.le_of_ble_eq_true rfl) dX12_premiums_20 rfl ?_
      refine e_if_ne X 29 dX12_premiums_23 (by decide) (fun c3 => ?_) (fun c3 => ?_)
      · skip
        rw [if_neg c3] at hB
        refine e_aload_n X dX12_premiums_29 rfl rfl ?_
        refine e_iload_n X dX12_premiums_30 rfl rfl ?_
        refine e_iconst X 0 dX12_premiums_31 rfl ?_
        obtain ⟨z4, h_z4, hB⟩ := obind_out hB
        refine e_callVi X (r := z4) (σ1 := σ) [.int v1, .int 0] [] (C_M_ofMatch (Cx_gok X) σ v1 0 h_z4) gv_X12_58 yk_X12_ofMatch rfl (ent_lt (rfl : entTbl[333]? = some (13, 0))) (ent_at (rfl : entTbl[333]? = some (13, 0)) _) (rfl : vCl[11]? = some (RX12, TX12, 24)) ⟨Nat.le_of_ble_eq_true rfl, Nat.le_of_ble_eq_true rfl⟩ ⟨Nat.le_of_ble_eq_true rfl, Nat.le_of_ble_eq_true rfl⟩ (Nat.le_of_ble_eq_true rfl) dX12_premiums_32 rfl ?_
        refine e_istore X rfl dX12_premiums_35 (by decide) ?_
        refine e_aload_n X dX12_premiums_37 rfl rfl ?_
        refine e_iload_n X dX12_premiums_38 rfl rfl ?_
        refine e_iconst X 1 dX12_premiums_39 rfl ?_
        obtain ⟨z5, h_z5, hB⟩ := obind_out hB
        refine e_callVi X (r := z5) (σ1 := σ) [.int v1, .int 1] [] (C_M_ofMatch (Cx_gok X) σ v1 1 h_z5) gv_X12_58 yk_X12_ofMatch rfl (ent_lt (rfl : entTbl[333]? = some (13, 0))) (ent_at (rfl : entTbl[333]? = some (13, 0)) _) (rfl : vCl[11]? = some (RX12, TX12, 24)) ⟨Nat.le_of_ble_eq_true rfl, Nat.le_of_ble_eq_true rfl⟩ ⟨Nat.le_of_ble_eq_true rfl, Nat.le_of_ble_eq_true rfl⟩ (Nat.le_of_ble_eq_true rfl) dX12_premiums_40 rfl ?_
        refine e_istore X rfl dX12_premiums_43 (by decide) ?_
        refine e_aload_n X dX12_premiums_45 rfl rfl ?_
        refine ge_M_m X wf_X12_7 dX12_premiums_46 ?_
        refine e_bipush X 6 dX12_premiums_49 rfl ?_
        refine e_iald X (j := 6) rfl rfl (vp_in_iff.mpr (by decide)) rfl dX12_premiums_51 ?_
        refine e_aload_n X dX12_premiums_52 rfl rfl ?_
        refine e_iload X dX12_premiums_53 rfl ?_
        refine e_iconst X 0 dX12_premiums_55 rfl ?_
        obtain ⟨z6, h_z6, hB⟩ := obind_out hB
        refine e_callVi X (r := z6) (σ1 := σ) [.int z4, .int 0] [.int ((σ 334 6))] (C_M_of (Cx_gok X) σ z4 0 h_z6) gv_X12_62 yk_X12_of rfl (ent_lt (rfl : entTbl[333]? = some (13, 0))) (ent_at (rfl : entTbl[333]? = some (13, 0)) _) (rfl : vCl[11]? = some (RX12, TX12, 24)) ⟨Nat.le_of_ble_eq_true rfl, Nat.le_of_ble_eq_true rfl⟩ ⟨Nat.le_of_ble_eq_true rfl, Nat.le_of_ble_eq_true rfl⟩ (Nat.le_of_ble_eq_true rfl) dX12_premiums_56 rfl ?_
        refine e_callSi X (r := (F_M_lesser σ ((σ 334 6)) z6)) (σ1 := σ) [.int ((σ 334 6)), .int z6] [] (C_M_lesser (Cx_gok X) σ ((σ 334 6)) z6) gs_X12_263 yk_X12_lesser rfl ⟨Nat.le_of_ble_eq_true rfl, Nat.le_of_ble_eq_true rfl⟩ ⟨Nat.le_of_ble_eq_true rfl, Nat.le_of_ble_eq_true rfl⟩ (Nat.le_of_ble_eq_true rfl) dX12_premiums_59 rfl ?_
        obtain ⟨x7, h_x7, hB⟩ := bindT_out hB
        refine e_istore X h_x7 dX12_premiums_62 (by decide) ?_
        refine e_aload_n X dX12_premiums_64 rfl rfl ?_
        refine ge_M_m X wf_X12_7 dX12_premiums_65 ?_
        refine e_bipush X 6 dX12_premiums_68 rfl ?_
        refine e_iald X (j := 6) rfl rfl (vp_in_iff.mpr (by decide)) rfl dX12_premiums_70 ?_
        refine e_iload X dX12_premiums_71 rfl ?_
        refine e_isub X dX12_premiums_73 ?_
        refine e_aload_n X dX12_premiums_74 rfl rfl ?_
        refine e_iload X dX12_premiums_75 rfl ?_
        refine e_iconst X 0 dX12_premiums_77 rfl ?_
        obtain ⟨z8, h_z8, hB⟩ := obind_out hB
        refine e_callVi X (r := z8) (σ1 := σ) [.int z5, .int 0] [.int (((σ 334 6) - x7))] (C_M_of (Cx_gok X) σ z5 0 h_z8) gv_X12_62 yk_X12_of rfl (ent_lt (rfl : entTbl[333]? = some (13, 0))) (ent_at (rfl : entTbl[333]? = some (13, 0)) _) (rfl : vCl[11]? = some (RX12, TX12, 24)) ⟨Nat.le_of_ble_eq_true rfl, Nat.le_of_ble_eq_true rfl⟩ ⟨Nat.le_of_ble_eq_true rfl, Nat.le_of_ble_eq_true rfl⟩ (Nat.le_of_ble_eq_true rfl) dX12_premiums_78 rfl ?_
        refine e_callSi X (r := (F_M_lesser σ (((σ 334 6) - x7)) z8)) (σ1 := σ) [.int (((σ 334 6) - x7)), .int z8] [] (C_M_lesser (Cx_gok X) σ (((σ 334 6) - x7)) z8) gs_X12_263 yk_X12_lesser rfl ⟨Nat.le_of_ble_eq_true rfl, Nat.le_of_ble_eq_true rfl⟩ ⟨Nat.le_of_ble_eq_true rfl, Nat.le_of_ble_eq_true rfl⟩ (Nat.le_of_ble_eq_true rfl) dX12_premiums_81 rfl ?_
        obtain ⟨x9, h_x9, hB⟩ := bindT_out hB
        refine e_istore X h_x9 dX12_premiums_84 (by decide) ?_
        refine e_aload_n X dX12_premiums_86 rfl rfl ?_
        refine e_iload X dX12_premiums_87 rfl ?_
        refine e_iconst X 0 dX12_premiums_89 rfl ?_
        refine e_aload_n X dX12_premiums_90 rfl rfl ?_
        refine e_iload X dX12_premiums_91 rfl ?_
        refine e_iconst X 0 dX12_premiums_93 rfl ?_
        obtain ⟨z10, h_z10, hB⟩ := obind_out hB
        refine e_callVi X (r := z10) (σ1 := σ) [.int z4, .int 0] [.int 0, .int z4, .ref (Γ.1 + 333)] (C_M_of (Cx_gok X) σ z4 0 h_z10) gv_X12_62 yk_X12_of rfl (ent_lt (rfl : entTbl[333]? = some (13, 0))) (ent_at (rfl : entTbl[333]? = some (13, 0)) _) (rfl : vCl[11]? = some (RX12, TX12, 24)) ⟨Nat.le_of_ble_eq_true rfl, Nat.le_of_ble_eq_true rfl⟩ ⟨Nat.le_of_ble_eq_true rfl, Nat.le_of_ble_eq_true rfl⟩ (Nat.le_of_ble_eq_true rfl) dX12_premiums_94 rfl ?_
        refine e_iload X dX12_premiums_97 rfl ?_
        refine e_isub X dX12_premiums_99 ?_
        obtain ⟨z11, h_z11, hB⟩ := obind_out hB
        refine e_callVv X (σ1 := z11) [.int z4, .int 0, .int ((z10 - x7))] [] (C_M_has (Cx_gok X) σ z4 0 ((z10 - x7)) h_z11) gv_X12_144 yk_X12_has rfl (ent_lt (rfl : entTbl[333]? = some (13, 0))) (ent_at (rfl : entTbl[333]? = some (13, 0)) _) (rfl : vCl[11]? = some (RX12, TX12, 24)) ⟨Nat.le_of_ble_eq_true rfl, Nat.le_of_ble_eq_true rfl⟩ ⟨Nat.le_of_ble_eq_true rfl, Nat.le_of_ble_eq_true rfl⟩ (Nat.le_of_ble_eq_true rfl) dX12_premiums_100 rfl ?_
        refine e_aload_n X dX12_premiums_103 rfl rfl ?_
        refine e_iload X dX12_premiums_104 rfl ?_
        refine e_iconst X 0 dX12_premiums_106 rfl ?_
        refine e_aload_n X dX12_premiums_107 rfl rfl ?_
        refine e_iload X dX12_premiums_108 rfl ?_
        refine e_iconst X 0 dX12_premiums_110 rfl ?_
        obtain ⟨z12, h_z12, hB⟩ := obind_out hB
        refine e_callVi X (r := z12) (σ1 := z11) [.int z5, .int 0] [.int 0, .int z5, .ref (Γ.1 + 333)] (C_M_of (Cx_gok X) z11 z5 0 h_z12) gv_X12_62 yk_X12_of rfl (ent_lt (rfl : entTbl[333]? = some (13, 0))) (ent_at (rfl : entTbl[333]? = some (13, 0)) _) (rfl : vCl[11]? = some (RX12, TX12, 24)) ⟨Nat.le_of_ble_eq_true rfl, Nat.le_of_ble_eq_true rfl⟩ ⟨Nat.le_of_ble_eq_true rfl, Nat.le_of_ble_eq_true rfl⟩ (Nat.le_of_ble_eq_true rfl) dX12_premiums_111 rfl ?_
        refine e_iload X dX12_premiums_114 rfl ?_
        refine e_isub X dX12_premiums_116 ?_
        obtain ⟨z13, h_z13, hB⟩ := obind_out hB
        refine e_callVv X (σ1 := z13) [.int z5, .int 0, .int ((z12 - x9))] [] (C_M_has (Cx_gok X) z11 z5 0 ((z12 - x9)) h_z13) gv_X12_144 yk_X12_has rfl (ent_lt (rfl : entTbl[333]? = some (13, 0))) (ent_at (rfl : entTbl[333]? = some (13, 0)) _) (rfl : vCl[11]? = some (RX12, TX12, 24)) ⟨Nat.le_of_ble_eq_true rfl, Nat.le_of_ble_eq_true rfl⟩ ⟨Nat.le_of_ble_eq_true rfl, Nat.le_of_ble_eq_true rfl⟩ (Nat.le_of_ble_eq_true rfl) dX12_premiums_117 rfl ?_
        refine e_aload_n X dX12_premiums_120 rfl rfl ?_
        refine e_iload_n X dX12_premiums_121 rfl rfl ?_
        refine e_iload X dX12_premiums_122 rfl ?_
        refine e_iload X dX12_premiums_124 rfl ?_
        refine e_iadd X dX12_premiums_126 ?_
        obtain ⟨z14, h_z14, hB⟩ := obind_out hB
        refine e_callVv X (σ1 := z14) [.int v3, .int ((x7 + x9))] [] (C_M_gets (Cx_gok X) z13 v3 ((x7 + x9)) h_z14) gv_X12_272 yk_X12_gets rfl (ent_lt (rfl : entTbl[333]? = some (13, 0))) (ent_at (rfl : entTbl[333]? = some (13, 0)) _) (rfl : vCl[11]? = some (RX12, TX12, 24)) ⟨Nat.le_of_ble_eq_true rfl, Nat.le_of_ble_eq_true rfl⟩ ⟨Nat.le_of_ble_eq_true rfl, Nat.le_of_ble_eq_true rfl⟩ (Nat.le_of_ble_eq_true rfl) dX12_premiums_127 rfl ?_
        refine e_iinc X 1 dX12_premiums_130 rfl rfl (by decide) ?_
        obtain ⟨x15, h_x15, hB⟩ := bindT_out hB
        rw [← h_x15]
        refine e_goto X 8 dX12_premiums_133 (by decide) ?_
        have hy9 := Option.some.inj hB; change (.inl ((x15, z14))) = y9 at hy9; subst hy9
        exact e_le (ih x15 z14 hF hK) (And.intro rfl (And.intro rfl (And.intro rfl (And.intro rfl (trivial)))))
      · skip
        rw [if_pos c3] at hB
        refine e_goto X 130 dX12_premiums_26 (by decide) ?_
        refine e_iinc X 1 dX12_premiums_130 rfl rfl (by decide) ?_
        obtain ⟨x16, h_x16, hB⟩ := bindT_out hB
        rw [← h_x16]
        refine e_goto X 8 dX12_premiums_133 (by decide) ?_
        have hy9 := Option.some.inj hB; change (.inl ((x16, σ))) = y9 at hy9; subst hy9
        exact e_le (ih x16 σ hF hK) (And.intro rfl (And.intro rfl (And.intro rfl (And.intro rfl (trivial)))))
set_option maxRecDepth 20000 in
set_option maxHeartbeats 4000000 in
theorem C_M_premiums (hG : Gok l Γ D s0) (σ : Mem) (v1 : Int32)  {out : Mem} (hF : F_M_premiums σ v1 = some out) : CT l Γ D s0 yX12_premiums cX12_premiums 8 none (3) 0 0 (67) σ [.ref (Γ.1 + 333), .int v1] (PI none out) := by
  unfold F_M_premiums at hF
  refine e_met (own := RX12) hG (by decide +kernel) rfl rfl (Nat.le_of_ble_eq_true rfl) ?_
  intro p e s m args below meth c X hr
  show E p l e _ s m args below meth c Γ D 0 0 _ σ 0 [some (.ref (Γ.1 + 333)), some (.int v1), none, none, none, none, none, none] []
  refine e_aload_n X dX12_premiums_0 rfl rfl ?_
  refine e_iload_n X dX12_premiums_1 rfl rfl ?_
  obtain ⟨z1, h_z1, hF⟩ := obind_out hF
  refine e_callVi X (r := z1) (σ1 := σ) [.int v1] [] (C_M_insurers (Cx_gok X) σ v1 h_z1) gv_X12_256 yk_X12_insurers rfl (ent_lt (rfl : entTbl[333]? = some (13, 0))) (ent_at (rfl : entTbl[333]? = some (13, 0)) _) (rfl : vCl[11]? = some (RX12, TX12, 24)) ⟨Nat.le_of_ble_eq_true rfl, Nat.le_of_ble_eq_true rfl⟩ ⟨Nat.le_of_ble_eq_true rfl, Nat.le_of_ble_eq_true rfl⟩ (Nat.le_of_ble_eq_true rfl) dX12_premiums_2 rfl ?_
  refine e_istore_n X rfl dX12_premiums_5 rfl (by decide) ?_
  refine e_iconst X 0 dX12_premiums_6 rfl ?_
  refine e_istore_n X rfl dX12_premiums_7 rfl (by decide) ?_
  obtain ⟨z17, h_z17, hF⟩ := obind_out hF
  refine e_le (L_M_premiums_8 X hr v1 z1 _ 0 σ h_z17 ?_) (And.intro rfl (And.intro rfl (And.intro rfl (And.intro rfl (trivial)))))
  exact e_vret X hr dX12_premiums_136 (Nat.le_of_ble_eq_true rfl) (Nat.le_of_ble_eq_true rfl) (by cases hF; exact ⟨rfl, rfl⟩)
set_option maxRecDepth 20000 in
set_option maxHeartbeats 4000000 in
theorem C_M_draw (hG : Gok l Γ D s0) (σ : Mem) (v1 : Int32)  {out : Mem × Int32} (hF : F_M_draw σ v1 = some out) : CT l Γ D s0 yX12_draw cX12_draw 2 (some .int) (0) 0 0 (0) σ [.ref (Γ.1 + 333), .int v1] (PI (some (.int out.2)) out.1) := by
  unfold F_M_draw at hF
  refine e_met (own := RX12) hG (by decide +kernel) rfl rfl (Nat.le_of_ble_eq_true rfl) ?_
  intro p e s m args below meth c X hr
  show E p l e _ s m args below meth c Γ D 0 0 _ σ 0 [some (.ref (Γ.1 + 333)), some (.int v1)] []
  refine e_aload_n X dX12_draw_0 rfl rfl ?_
  refine ge_M_m X wf_X12_7 dX12_draw_1 ?_
  refine e_bipush X 12 dX12_draw_4 rfl ?_
  refine e_ldcw X 1103515245 wk_X12_277 dX12_draw_6 ?_
  refine e_aload_n X dX12_draw_9 rfl rfl ?_
  refine ge_M_m X wf_X12_7 dX12_draw_10 ?_
  refine e_bipush X 12 dX12_draw_13 rfl ?_
  refine e_iald X (j := 12) rfl rfl (vp_in_iff.mpr (by decide)) rfl dX12_draw_15 ?_
  refine e_imul X dX12_draw_16 ?_
  refine e_sipush X 12345 dX12_draw_17 rfl ?_
  refine e_iadd X dX12_draw_20 ?_
  obtain ⟨σ1, h_σ1, hF⟩ := bindT_out hF
  refine e_iast X (j := 12) rfl rfl (vp_in_iff.mpr (by decide)) rfl dX12_draw_21 h_σ1 ?_
  refine e_aload_n X dX12_draw_22 rfl rfl ?_
  refine ge_M_m X wf_X12_7 dX12_draw_23 ?_
  refine e_bipush X 12 dX12_draw_26 rfl ?_
  refine e_iald X (j := 12) rfl rfl (vp_in_iff.mpr (by decide)) rfl dX12_draw_28 ?_
  refine e_bipush X 16 dX12_draw_29 rfl ?_
  refine e_iushr X dX12_draw_31 ?_
  refine e_sipush X 32767 dX12_draw_32 rfl ?_
  refine e_iand X dX12_draw_35 ?_
  refine e_iload_n X dX12_draw_36 rfl rfl ?_
  obtain ⟨c2, hF⟩ := chk_out hF
  refine e_irem X dX12_draw_37 (nz_out c2) ?_
  exact e_iret X hr dX12_draw_38 (Nat.le_of_ble_eq_true rfl) (Nat.le_of_ble_eq_true rfl) (by cases hF; exact ⟨rfl, rfl⟩)
set_option maxRecDepth 20000 in
set_option maxHeartbeats 4000000 in
theorem L_M_logs_5 (X : Cx p l s m args meth c Γ D s0 RX12 cX12_logs 5) (hr : meth.sig.returnType = none) (v1 : Int32) (v2 : Int32) (v3 : Int32)  : ∀ (n : Nat) (v4 : Int32) (σ : Mem) {z : Int32 × Mem}, whl (fun s => F_M_logs_5_b v1 v2 v3 s.1 s.2) n (v4, σ) = some z → (E p l e ({ frames := 1, cells := 0, slots := 0, locals := 21 } : Room) s m args below meth c Γ D 0 0 (MQ below (QcA Γ D Pst) args s 0 0 (frB Γ)) z.2 41 [some (.ref (Γ.1 + 333)), some (.int v1), some (.int v2), some (.int v3), some (.int z.1)] []) → E p l e ({ frames := 1, cells := 0, slots := 0, locals := 21 } : Room) s m args below meth c Γ D 0 0 (MQ below (QcA Γ D Pst) args s 0 0 (frB Γ)) σ 5 [some (.ref (Γ.1 + 333)), some (.int v1), some (.int v2), some (.int v3), some (.int v4)] [] := by
  intro n
  induction n with
  | zero =>
    intro v4 σ z hF hK
    cases hF
  | succ n ih =>
    intro v4 σ z hF hK
    obtain ⟨y9, hB, hF⟩ := whl_step hF
    change F_M_logs_5_b v1 v2 v3 v4 σ = some y9 at hB
    unfold F_M_logs_5_b at hB
    refine e_iload X dX12_logs_5 rfl ?_
    refine e_iconst X 4 dX12_logs_7 rfl ?_
    refine e_icmp_lt X 41 dX12_logs_8 (by decide) (fun c1 => ?_) (fun c1 => ?_)
    · skip
      rw [if_pos c1] at hB
      have hy9 := Option.some.inj hB; change (.inr ((v4, σ))) = y9 at hy9; subst hy9
      have hz9 := Option.some.inj hF; change ((v4, σ)) = z at hz9; subst hz9
      exact e_le hK (And.intro rfl (And.intro rfl (And.intro rfl (And.intro rfl (And.intro rfl (trivial))))))
    · skip
      rw [if_neg c1] at hB
      refine e_aload_n X dX12_logs_11 rfl rfl ?_
      refine ge_M_m X wf_X12_7 dX12_logs_12 ?_
      refine e_sipush X 210 dX12_logs_15 rfl ?_
      refine e_iload X dX12_logs_18 rfl ?_
      refine e_iadd X dX12_logs_20 ?_
      refine e_aload_n X dX12_logs_21 rfl rfl ?_
      refine ge_M_m X wf_X12_7 dX12_logs_22 ?_
      refine e_sipush X 210 dX12_logs_25 rfl ?_
      refine e_iload X dX12_logs_28 rfl ?_
      refine e_iadd X dX12_logs_30 ?_
      refine e_iconst X 4 dX12_logs_31 rfl ?_
      refine e_isub X dX12_logs_32 ?_
      obtain ⟨i2, h_i2, hB⟩ := bindT_out hB
      obtain ⟨c3, hB⟩ := chk_out hB
      refine e_iald X (j := i2.toNatClampNeg) h_i2 rfl (inb_in c3) rfl dX12_logs_33 ?_
      obtain ⟨i4, h_i4, hB⟩ := bindT_out hB
      obtain ⟨c5, hB⟩ := chk_out hB
      obtain ⟨σ6, h_σ6, hB⟩ := bindT_out hB
      refine e_iast X (j := i4.toNatClampNeg) h_i4 rfl (inb_in c5) rfl dX12_logs_34 h_σ6 ?_
      refine e_iinc X (-1) dX12_logs_35 rfl rfl (by decide) ?_
      obtain ⟨x7, h_x7, hB⟩ := bindT_out hB
      rw [← h_x7]
      refine e_goto X 5 dX12_logs_38 (by decide) ?_
      have hy9 := Option.some.inj hB; change (.inl ((x7, σ6))) = y9 at hy9; subst hy9
      exact e_le (ih x7 σ6 hF hK) (And.intro rfl (And.intro rfl (And.intro rfl (And.intro rfl (And.intro rfl (trivial))))))
set_option maxRecDepth 20000 in
set_option maxHeartbeats 4000000 in
theorem C_M_logs (hG : Gok l Γ D s0) (σ : Mem) (v1 : Int32) (v2 : Int32) (v3 : Int32)  {out : Mem} (hF : F_M_logs σ v1 v2 v3 = some out) : CT l Γ D s0 yX12_logs cX12_logs 5 none (1) 0 0 (21) σ [.ref (Γ.1 + 333), .int v1, .int v2, .int v3] (PI none out) := by
  unfold F_M_logs at hF
  refine e_met (own := RX12) hG (by decide +kernel) rfl rfl (Nat.le_of_ble_eq_true rfl) ?_
  intro p e s m args below meth c X hr
  show E p l e _ s m args below meth c Γ D 0 0 _ σ 0 [some (.ref (Γ.1 + 333)), some (.int v1), some (.int v2), some (.int v3), none] []
  refine e_sipush X 239 dX12_logs_0 rfl ?_
  refine e_istore X rfl dX12_logs_3 (by decide) ?_
  obtain ⟨z8, h_z8, hF⟩ := obind_out hF
  refine e_le (L_M_logs_5 X hr v1 v2 v3 _ 239 σ h_z8 ?_) (And.intro rfl (And.intro rfl (And.intro rfl (And.intro rfl (And.intro rfl (trivial))))))
  refine e_aload_n X dX12_logs_41 rfl rfl ?_
  refine ge_M_m X wf_X12_7 dX12_logs_42 ?_
  refine e_sipush X 210 dX12_logs_45 rfl ?_
  refine e_aload_n X dX12_logs_48 rfl rfl ?_
  refine ge_M_m X wf_X12_7 dX12_logs_49 ?_
  refine e_bipush X 8 dX12_logs_52 rfl ?_
  refine e_iald X (j := 8) rfl rfl (vp_in_iff.mpr (by decide)) rfl dX12_logs_54 ?_
  obtain ⟨σ9, h_σ9, hF⟩ := bindT_out hF
  refine e_iast X (j := 210) rfl rfl (vp_in_iff.mpr (by decide)) rfl dX12_logs_55 h_σ9 ?_
  refine e_aload_n X dX12_logs_56 rfl rfl ?_
  refine ge_M_m X wf_X12_7 dX12_logs_57 ?_
  refine e_sipush X 211 dX12_logs_60 rfl ?_
  refine e_iload_n X dX12_logs_63 rfl rfl ?_
  obtain ⟨σ10, h_σ10, hF⟩ := bindT_out hF
  refine e_iast X (j := 211) rfl rfl (vp_in_iff.mpr (by decide)) rfl dX12_logs_64 h_σ10 ?_
  refine e_aload_n X dX12_logs_65 rfl rfl ?_
  refine ge_M_m X wf_X12_7 dX12_logs_66 ?_
  refine e_sipush X 212 dX12_logs_69 rfl ?_
  refine e_iload_n X dX12_logs_72 rfl rfl ?_
  obtain ⟨σ11, h_σ11, hF⟩ := bindT_out hF
  refine e_iast X (j := 212) rfl rfl (vp_in_iff.mpr (by decide)) rfl dX12_logs_73 h_σ11 ?_
  refine e_aload_n X dX12_logs_74 rfl rfl ?_
  refine ge_M_m X wf_X12_7 dX12_logs_75 ?_
  refine e_sipush X 213 dX12_logs_78 rfl ?_
  refine e_iload_n X dX12_logs_81 rfl rfl ?_
  obtain ⟨σ12, h_σ12, hF⟩ := bindT_out hF
  refine e_iast X (j := 213) rfl rfl (vp_in_iff.mpr (by decide)) rfl dX12_logs_82 h_σ12 ?_
  refine e_aload_n X dX12_logs_83 rfl rfl ?_
  refine ge_M_m X wf_X12_7 dX12_logs_84 ?_
  refine e_bipush X 11 dX12_logs_87 rfl ?_
  refine e_bipush X 60 dX12_logs_89 rfl ?_
  refine e_aload_n X dX12_logs_91 rfl rfl ?_
  refine ge_M_m X wf_X12_7 dX12_logs_92 ?_
  refine e_bipush X 11 dX12_logs_95 rfl ?_
  refine e_iald X (j := 11) rfl rfl (vp_in_iff.mpr (by decide)) rfl dX12_logs_97 ?_
  refine e_iconst X 1 dX12_logs_98 rfl ?_
  refine e_iadd X dX12_logs_99 ?_
  refine e_callSi X (r := (F_M_lesser σ12 60 (((σ12 334 11) + 1)))) (σ1 := σ12) [.int 60, .int (((σ12 334 11) + 1))] [.int 11, .ref (Γ.1 + 334)] (C_M_lesser (Cx_gok X) σ12 60 (((σ12 334 11) + 1))) gs_X12_263 yk_X12_lesser rfl ⟨Nat.le_of_ble_eq_true rfl, Nat.le_of_ble_eq_true rfl⟩ ⟨Nat.le_of_ble_eq_true rfl, Nat.le_of_ble_eq_true rfl⟩ (Nat.le_of_ble_eq_true rfl) dX12_logs_100 rfl ?_
  obtain ⟨σ13, h_σ13, hF⟩ := bindT_out hF
  refine e_iast X (j := 11) rfl rfl (vp_in_iff.mpr (by decide)) rfl dX12_logs_103 h_σ13 ?_
  refine e_aload_n X dX12_logs_104 rfl rfl ?_
  refine ge_M_m X wf_X12_7 dX12_logs_105 ?_
  refine e_bipush X 10 dX12_logs_108 rfl ?_
  refine e_dup2 X dX12_logs_110 rfl rfl ?_
  refine e_iald X (j := 10) rfl rfl (vp_in_iff.mpr (by decide)) rfl dX12_logs_111 ?_
  refine e_iconst X 1 dX12_logs_112 rfl ?_
  refine e_iadd X dX12_logs_113 ?_
  obtain ⟨σ14, h_σ14, hF⟩ := bindT_out hF
  refine e_iast X (j := 10) rfl rfl (vp_in_iff.mpr (by decide)) rfl dX12_logs_114 h_σ14 ?_
  exact e_vret X hr dX12_logs_115 (Nat.le_of_ble_eq_true rfl) (Nat.le_of_ble_eq_true rfl) (by cases hF; exact ⟨rfl, rfl⟩)
set_option maxRecDepth 20000 in
set_option maxHeartbeats 4000000 in
theorem L_M_askersOf_4 (X : Cx p l s m args meth c Γ D s0 RX12 cX12_askersOf 4) (hr : meth.sig.returnType = (some .int)) (σ : Mem) (v1 : Int32)  : ∀ (n : Nat) (v3 : Int32) (v2 : Int32) {z : Int32}, forSO (fun i s => F_M_askersOf_4_b σ v1 i s) n v3 v2 = some z → n = cnt v3 ((σ 334 3)) → ¬ v3 < 0 → (E p l e ({ frames := 1, cells := 0, slots := 0, locals := 22 } : Room) s m args below meth c Γ D 0 0 (MQ below (QcA Γ D Pst) args s 0 0 (frB Γ)) σ 43 [some (.ref (Γ.1 + 333)), some (.int v1), some (.int z), none] []) → E p l e ({ frames := 1, cells := 0, slots := 0, locals := 22 } : Room) s m args below meth c Γ D 0 0 (MQ below (QcA Γ D Pst) args s 0 0 (frB Γ)) σ 4 [some (.ref (Γ.1 + 333)), some (.int v1), some (.int v2), some (.int v3)] [] := by
  intro n
  induction n with
  | zero =>
    intro v3 v2 z hF hn h0 hK
    refine e_iload_n X dX12_askersOf_4 rfl rfl ?_
    refine e_aload_n X dX12_askersOf_5 rfl rfl ?_
    refine ge_M_m X wf_X12_7 dX12_askersOf_6 ?_
    refine e_iconst X 3 dX12_askersOf_9 rfl ?_
    refine e_iald X (j := 3) rfl rfl (vp_in_iff.mpr (by decide)) rfl dX12_askersOf_10 ?_
    refine e_icmp_ge X 43 dX12_askersOf_11 (by decide) (fun c6 => ?_) (fun c6 => ?_)
    · skip
      have hz9 := Option.some.inj hF; change (v2) = z at hz9; subst hz9
      exact e_le hK (And.intro rfl (And.intro rfl (And.intro rfl (trivial))))
    · skip
      exact absurd c6 (cnt0 hn)
  | succ n ih =>
    intro v3 v2 z hF hn h0 hK
    obtain ⟨y9, hB, hF⟩ := forSO_step hF
    change F_M_askersOf_4_b σ v1 v3 v2 = some y9 at hB
    unfold F_M_askersOf_4_b at hB
    refine e_iload_n X dX12_askersOf_4 rfl rfl ?_
    refine e_aload_n X dX12_askersOf_5 rfl rfl ?_
    refine ge_M_m X wf_X12_7 dX12_askersOf_6 ?_
    refine e_iconst X 3 dX12_askersOf_9 rfl ?_
    refine e_iald X (j := 3) rfl rfl (vp_in_iff.mpr (by decide)) rfl dX12_askersOf_10 ?_
    refine e_icmp_ge X 43 dX12_askersOf_11 (by decide) (fun c1 => ?_) (fun c1 => ?_)
    · skip
      exact absurd (cntS hn) c1
    · skip
      refine e_iload_n X dX12_askersOf_14 rfl rfl ?_
      refine e_aload_n X dX12_askersOf_15 rfl rfl ?_
      refine e_iload_n X dX12_askersOf_16 rfl rfl ?_
      refine e_iconst X 1 dX12_askersOf_17 rfl ?_
      obtain ⟨z2, h_z2, hB⟩ := obind_out hB
      refine e_callVi X (r := z2) (σ1 := σ) [.int v3, .int 1] [.int v2] (C_M_of (Cx_gok X) σ v3 1 h_z2) gv_X12_62 yk_X12_of rfl (ent_lt (rfl : entTbl[333]? = some (13, 0))) (ent_at (rfl : entTbl[333]? = some (13, 0)) _) (rfl : vCl[11]? = some (RX12, TX12, 24)) ⟨Nat.le_of_ble_eq_true rfl, Nat.le_of_ble_eq_true rfl⟩ ⟨Nat.le_of_ble_eq_true rfl, Nat.le_of_ble_eq_true rfl⟩ (Nat.le_of_ble_eq_true rfl) dX12_askersOf_18 rfl ?_
      refine e_iload_n X dX12_askersOf_21 rfl rfl ?_
      refine e_callSi X (r := (F_M_isOf σ z2 v1)) (σ1 := σ) [.int z2, .int v1] [.int v2] (C_M_isOf (Cx_gok X) σ z2 v1) gs_X12_65 yk_X12_isOf rfl ⟨Nat.le_of_ble_eq_true rfl, Nat.le_of_ble_eq_true rfl⟩ ⟨Nat.le_of_ble_eq_true rfl, Nat.le_of_ble_eq_true rfl⟩ (Nat.le_of_ble_eq_true rfl) dX12_askersOf_22 rfl ?_
      refine e_if_eq X 34 dX12_askersOf_25 (by decide) (fun c3 => ?_) (fun c3 => ?_)
      · skip
        rw [if_pos c3] at hB
        refine e_iconst X 0 dX12_askersOf_34 rfl ?_
        refine e_ior X dX12_askersOf_35 ?_
        obtain ⟨x4, h_x4, hB⟩ := bindT_out hB
        refine e_istore_n X h_x4 dX12_askersOf_36 rfl (by decide) ?_
        refine e_iinc X 1 dX12_askersOf_37 rfl rfl (by decide) ?_
        refine e_goto X 4 dX12_askersOf_40 (by decide) ?_
        have hy9 := Option.some.inj hB; change (x4) = y9 at hy9; subst hy9
        exact e_le (ih _ x4 hF (cntN hn) (nnN h0 (cnt_hi hn)) hK) (And.intro rfl (And.intro rfl (And.intro rfl (And.intro rfl (trivial)))))
      · skip
        rw [if_neg c3] at hB
        refine e_iconst X 1 dX12_askersOf_28 rfl ?_
        refine e_iload_n X dX12_askersOf_29 rfl rfl ?_
        refine e_ishl X dX12_askersOf_30 ?_
        refine e_goto X 35 dX12_askersOf_31 (by decide) ?_
        refine e_ior X dX12_askersOf_35 ?_
        obtain ⟨x5, h_x5, hB⟩ := bindT_out hB
        refine e_istore_n X h_x5 dX12_askersOf_36 rfl (by decide) ?_
        refine e_iinc X 1 dX12_askersOf_37 rfl rfl (by decide) ?_
        refine e_goto X 4 dX12_askersOf_40 (by decide) ?_
        have hy9 := Option.some.inj hB; change (x5) = y9 at hy9; subst hy9
        exact e_le (ih _ x5 hF (cntN hn) (nnN h0 (cnt_hi hn)) hK) (And.intro rfl (And.intro rfl (And.intro rfl (And.intro rfl (trivial)))))
set_option maxRecDepth 20000 in
set_option maxHeartbeats 4000000 in
theorem C_M_askersOf (hG : Gok l Γ D s0) (σ : Mem) (v1 : Int32)  {out : Int32} (hF : F_M_askersOf σ v1 = some out) : CT l Γ D s0 yX12_askersOf cX12_askersOf 4 (some .int) (1) 0 0 (22) σ [.ref (Γ.1 + 333), .int v1] (PI (some (.int out)) σ) := by
  unfold F_M_askersOf at hF
  refine e_met (own := RX12) hG (by decide +kernel) rfl rfl (Nat.le_of_ble_eq_true rfl) ?_
  intro p e s m args below meth c X hr
  show E p l e _ s m args below meth c Γ D 0 0 _ σ 0 [some (.ref (Γ.1 + 333)), some (.int v1), none, none] []
  refine e_iconst X 0 dX12_askersOf_0 rfl ?_
  refine e_istore_n X rfl dX12_askersOf_1 rfl (by decide) ?_
  refine e_iconst X 0 dX12_askersOf_2 rfl ?_
  refine e_istore_n X rfl dX12_askersOf_3 rfl (by decide) ?_
  obtain ⟨z7, h_z7, hF⟩ := obind_out hF
  refine e_le (L_M_askersOf_4 X hr σ v1 _ 0 0 h_z7 rfl (by decide) ?_) (And.intro rfl (And.intro rfl (And.intro rfl (And.intro rfl (trivial)))))
  refine e_iload_n X dX12_askersOf_43 rfl rfl ?_
  exact e_iret X hr dX12_askersOf_44 (Nat.le_of_ble_eq_true rfl) (Nat.le_of_ble_eq_true rfl) (by cases hF; exact ⟨rfl, rfl⟩)
set_option maxRecDepth 20000 in
set_option maxHeartbeats 4000000 in
theorem L_M_wealths_4 (X : Cx p l s m args meth c Γ D s0 RX12 cX12_wealths 3) (hr : meth.sig.returnType = (some .int)) (σ : Mem)  : ∀ (n : Nat) (v2 : Int32) (v1 : Int32) {z : Int32}, forSO (fun i s => F_M_wealths_4_b σ i s) n v2 v1 = some z → n = cnt v2 ((σ 334 3)) → ¬ v2 < 0 → (E p l e ({ frames := 1, cells := 0, slots := 0, locals := 22 } : Room) s m args below meth c Γ D 0 0 (MQ below (QcA Γ D Pst) args s 0 0 (frB Γ)) σ 29 [some (.ref (Γ.1 + 333)), some (.int z), none] []) → E p l e ({ frames := 1, cells := 0, slots := 0, locals := 22 } : Room) s m args below meth c Γ D 0 0 (MQ below (QcA Γ D Pst) args s 0 0 (frB Γ)) σ 4 [some (.ref (Γ.1 + 333)), some (.int v1), some (.int v2)] [] := by
  intro n
  induction n with
  | zero =>
    intro v2 v1 z hF hn h0 hK
    refine e_iload_n X dX12_wealths_4 rfl rfl ?_
    refine e_aload_n X dX12_wealths_5 rfl rfl ?_
    refine ge_M_m X wf_X12_7 dX12_wealths_6 ?_
    refine e_iconst X 3 dX12_wealths_9 rfl ?_
    refine e_iald X (j := 3) rfl rfl (vp_in_iff.mpr (by decide)) rfl dX12_wealths_10 ?_
    refine e_icmp_ge X 29 dX12_wealths_11 (by decide) (fun c4 => ?_) (fun c4 => ?_)
    · skip
      have hz9 := Option.some.inj hF; change (v1) = z at hz9; subst hz9
      exact e_le hK (And.intro rfl (And.intro rfl (trivial)))
    · skip
      exact absurd c4 (cnt0 hn)
  | succ n ih =>
    intro v2 v1 z hF hn h0 hK
    obtain ⟨y9, hB, hF⟩ := forSO_step hF
    change F_M_wealths_4_b σ v2 v1 = some y9 at hB
    unfold F_M_wealths_4_b at hB
    refine e_iload_n X dX12_wealths_4 rfl rfl ?_
    refine e_aload_n X dX12_wealths_5 rfl rfl ?_
    refine ge_M_m X wf_X12_7 dX12_wealths_6 ?_
    refine e_iconst X 3 dX12_wealths_9 rfl ?_
    refine e_iald X (j := 3) rfl rfl (vp_in_iff.mpr (by decide)) rfl dX12_wealths_10 ?_
    refine e_icmp_ge X 29 dX12_wealths_11 (by decide) (fun c1 => ?_) (fun c1 => ?_)
    · skip
      exact absurd (cntS hn) c1
    · skip
      refine e_iload_n X dX12_wealths_14 rfl rfl ?_
      refine e_aload_n X dX12_wealths_15 rfl rfl ?_
      refine e_iload_n X dX12_wealths_16 rfl rfl ?_
      refine e_iconst X 0 dX12_wealths_17 rfl ?_
      obtain ⟨z2, h_z2, hB⟩ := obind_out hB
      refine e_callVi X (r := z2) (σ1 := σ) [.int v2, .int 0] [.int v1] (C_M_of (Cx_gok X) σ v2 0 h_z2) gv_X12_62 yk_X12_of rfl (ent_lt (rfl : entTbl[333]? = some (13, 0))) (ent_at (rfl : entTbl[333]? = some (13, 0)) _) (rfl : vCl[11]? = some (RX12, TX12, 24)) ⟨Nat.le_of_ble_eq_true rfl, Nat.le_of_ble_eq_true rfl⟩ ⟨Nat.le_of_ble_eq_true rfl, Nat.le_of_ble_eq_true rfl⟩ (Nat.le_of_ble_eq_true rfl) dX12_wealths_18 rfl ?_
      refine e_iadd X dX12_wealths_21 ?_
      obtain ⟨x3, h_x3, hB⟩ := bindT_out hB
      refine e_istore_n X h_x3 dX12_wealths_22 rfl (by decide) ?_
      refine e_iinc X 1 dX12_wealths_23 rfl rfl (by decide) ?_
      refine e_goto X 4 dX12_wealths_26 (by decide) ?_
      have hy9 := Option.some.inj hB; change (x3) = y9 at hy9; subst hy9
      exact e_le (ih _ x3 hF (cntN hn) (nnN h0 (cnt_hi hn)) hK) (And.intro rfl (And.intro rfl (And.intro rfl (trivial))))
set_option maxRecDepth 20000 in
set_option maxHeartbeats 4000000 in
theorem C_M_wealths (hG : Gok l Γ D s0) (σ : Mem)   {out : Int32} (hF : F_M_wealths σ = some out) : CT l Γ D s0 yX12_wealths cX12_wealths 3 (some .int) (1) 0 0 (22) σ [.ref (Γ.1 + 333)] (PI (some (.int out)) σ) := by
  unfold F_M_wealths at hF
  refine e_met (own := RX12) hG (by decide +kernel) rfl rfl (Nat.le_of_ble_eq_true rfl) ?_
  intro p e s m args below meth c X hr
  show E p l e _ s m args below meth c Γ D 0 0 _ σ 0 [some (.ref (Γ.1 + 333)), none, none] []
  refine e_iconst X 0 dX12_wealths_0 rfl ?_
  refine e_istore_n X rfl dX12_wealths_1 rfl (by decide) ?_
  refine e_iconst X 0 dX12_wealths_2 rfl ?_
  refine e_istore_n X rfl dX12_wealths_3 rfl (by decide) ?_
  obtain ⟨z5, h_z5, hF⟩ := obind_out hF
  refine e_le (L_M_wealths_4 X hr σ _ 0 0 h_z5 rfl (by decide) ?_) (And.intro rfl (And.intro rfl (And.intro rfl (trivial))))
  refine e_iload_n X dX12_wealths_29 rfl rfl ?_
  exact e_iret X hr dX12_wealths_30 (Nat.le_of_ble_eq_true rfl) (Nat.le_of_ble_eq_true rfl) (by cases hF; exact ⟨rfl, rfl⟩)
set_option maxRecDepth 20000 in
set_option maxHeartbeats 4000000 in
theorem C_M_two (hG : Gok l Γ D s0) (σ : Mem) (v1 : Int32) (v2 : Int32)  {out : Int32} (hF : F_M_two σ v1 v2 = some out) : CT l Γ D s0 yX12_two cX12_two 3 (some .int) (2) 0 0 (43) σ [.ref (Γ.1 + 333), .int v1, .int v2] (PI (some (.int out)) σ) := by
  unfold F_M_two at hF
  refine e_met (own := RX12) hG (by decide +kernel) rfl rfl (Nat.le_of_ble_eq_true rfl) ?_
  intro p e s m args below meth c X hr
  show E p l e _ s m args below meth c Γ D 0 0 _ σ 0 [some (.ref (Γ.1 + 333)), some (.int v1), some (.int v2)] []
  refine e_aload_n X dX12_two_0 rfl rfl ?_
  refine e_iload_n X dX12_two_1 rfl rfl ?_
  obtain ⟨z1, h_z1, hF⟩ := obind_out hF
  refine e_callVi X (r := z1) (σ1 := σ) [.int v1] [] (C_M_isPerson (Cx_gok X) σ v1 h_z1) gv_X12_293 yk_X12_isPerson rfl (ent_lt (rfl : entTbl[333]? = some (13, 0))) (ent_at (rfl : entTbl[333]? = some (13, 0)) _) (rfl : vCl[11]? = some (RX12, TX12, 24)) ⟨Nat.le_of_ble_eq_true rfl, Nat.le_of_ble_eq_true rfl⟩ ⟨Nat.le_of_ble_eq_true rfl, Nat.le_of_ble_eq_true rfl⟩ (Nat.le_of_ble_eq_true rfl) dX12_two_2 rfl ?_
  refine e_if_eq X 16 dX12_two_5 (by decide) (fun c2 => ?_) (fun c2 => ?_)
  · skip
    rw [if_pos c2] at hF
    refine e_iconst X 1 dX12_two_16 rfl ?_
    refine e_goto X 30 dX12_two_17 (by decide) ?_
    exact e_iret X hr dX12_two_30 (Nat.le_of_ble_eq_true rfl) (Nat.le_of_ble_eq_true rfl) (by cases hF; exact ⟨rfl, rfl⟩)
  · skip
    rw [if_neg c2] at hF
    refine e_aload_n X dX12_two_8 rfl rfl ?_
    refine e_iload_n X dX12_two_9 rfl rfl ?_
    obtain ⟨z3, h_z3, hF⟩ := obind_out hF
    refine e_callVi X (r := z3) (σ1 := σ) [.int v2] [] (C_M_isPerson (Cx_gok X) σ v2 h_z3) gv_X12_293 yk_X12_isPerson rfl (ent_lt (rfl : entTbl[333]? = some (13, 0))) (ent_at (rfl : entTbl[333]? = some (13, 0)) _) (rfl : vCl[11]? = some (RX12, TX12, 24)) ⟨Nat.le_of_ble_eq_true rfl, Nat.le_of_ble_eq_true rfl⟩ ⟨Nat.le_of_ble_eq_true rfl, Nat.le_of_ble_eq_true rfl⟩ (Nat.le_of_ble_eq_true rfl) dX12_two_10 rfl ?_
    refine e_if_ne X 20 dX12_two_13 (by decide) (fun c4 => ?_) (fun c4 => ?_)
    · skip
      rw [if_neg c4] at hF
      refine e_iload_n X dX12_two_20 rfl rfl ?_
      refine e_iload_n X dX12_two_21 rfl rfl ?_
      refine e_icmp_ne X 29 dX12_two_22 (by decide) (fun c5 => ?_) (fun c5 => ?_)
      · skip
        rw [if_neg c5] at hF
        refine e_iconst X 0 dX12_two_29 rfl ?_
        exact e_iret X hr dX12_two_30 (Nat.le_of_ble_eq_true rfl) (Nat.le_of_ble_eq_true rfl) (by cases hF; exact ⟨rfl, rfl⟩)
      · skip
        rw [if_pos c5] at hF
        refine e_iconst X 2 dX12_two_25 rfl ?_
        refine e_goto X 30 dX12_two_26 (by decide) ?_
        exact e_iret X hr dX12_two_30 (Nat.le_of_ble_eq_true rfl) (Nat.le_of_ble_eq_true rfl) (by cases hF; exact ⟨rfl, rfl⟩)
    · skip
      rw [if_pos c4] at hF
      refine e_iconst X 1 dX12_two_16 rfl ?_
      refine e_goto X 30 dX12_two_17 (by decide) ?_
      exact e_iret X hr dX12_two_30 (Nat.le_of_ble_eq_true rfl) (Nat.le_of_ble_eq_true rfl) (by cases hF; exact ⟨rfl, rfl⟩)
set_option maxRecDepth 20000 in
set_option maxHeartbeats 4000000 in
theorem C_M_liking (hG : Gok l Γ D s0) (σ : Mem) (v1 : Int32) (v2 : Int32)  {out : Mem × Int32} (hF : F_M_liking σ v1 v2 = some out) : CT l Γ D s0 yX12_liking cX12_liking 3 (some .int) (3) 0 0 (65) σ [.ref (Γ.1 + 333), .int v1, .int v2] (PI (some (.int out.2)) out.1) := by
  unfold F_M_liking at hF
  refine e_met (own := RX12) hG (by decide +kernel) rfl rfl (Nat.le_of_ble_eq_true rfl) ?_
  intro p e s m args below meth c X hr
  show E p l e _ s m args below meth c Γ D 0 0 _ σ 0 [some (.ref (Γ.1 + 333)), some (.int v1), some (.int v2)] []
  refine e_aload_n X dX12_liking_0 rfl rfl ?_
  refine e_aload_n X dX12_liking_1 rfl rfl ?_
  refine e_iload_n X dX12_liking_2 rfl rfl ?_
  refine e_iload_n X dX12_liking_3 rfl rfl ?_
  obtain ⟨z1, h_z1, hF⟩ := obind_out hF
  refine e_callVi X (r := z1) (σ1 := σ) [.int v1, .int v2] [.ref (Γ.1 + 333)] (C_M_two (Cx_gok X) σ v1 v2 h_z1) gv_X12_302 yk_X12_two rfl (ent_lt (rfl : entTbl[333]? = some (13, 0))) (ent_at (rfl : entTbl[333]? = some (13, 0)) _) (rfl : vCl[11]? = some (RX12, TX12, 24)) ⟨Nat.le_of_ble_eq_true rfl, Nat.le_of_ble_eq_true rfl⟩ ⟨Nat.le_of_ble_eq_true rfl, Nat.le_of_ble_eq_true rfl⟩ (Nat.le_of_ble_eq_true rfl) dX12_liking_4 rfl ?_
  obtain ⟨σ2, h_σ2, hF⟩ := bindT_out hF
  refine pu_M_thrown X wf_X12_51 dX12_liking_7 h_σ2 ?_
  refine e_aload_n X dX12_liking_10 rfl rfl ?_
  refine ge_M_thrown X wf_X12_51 dX12_liking_11 ?_
  refine e_if_le X 21 dX12_liking_14 (by decide) (fun c3 => ?_) (fun c3 => ?_)
  · skip
    rw [if_neg c3] at hF
    refine e_aload_n X dX12_liking_21 rfl rfl ?_
    refine e_iload_n X dX12_liking_22 rfl rfl ?_
    refine e_iload_n X dX12_liking_23 rfl rfl ?_
    obtain ⟨z4, h_z4, hF⟩ := obind_out hF
    refine e_callVi X (r := z4) (σ1 := σ2) [.int v1, .int v2] [] (C_M_likes (Cx_gok X) σ2 v1 v2 h_z4) gv_X12_258 yk_X12_likes rfl (ent_lt (rfl : entTbl[333]? = some (13, 0))) (ent_at (rfl : entTbl[333]? = some (13, 0)) _) (rfl : vCl[11]? = some (RX12, TX12, 24)) ⟨Nat.le_of_ble_eq_true rfl, Nat.le_of_ble_eq_true rfl⟩ ⟨Nat.le_of_ble_eq_true rfl, Nat.le_of_ble_eq_true rfl⟩ (Nat.le_of_ble_eq_true rfl) dX12_liking_24 rfl ?_
    exact e_iret X hr dX12_liking_27 (Nat.le_of_ble_eq_true rfl) (Nat.le_of_ble_eq_true rfl) (by cases hF; exact ⟨rfl, rfl⟩)
  · skip
    rw [if_pos c3] at hF
    refine e_iconst X 0 dX12_liking_17 rfl ?_
    refine e_goto X 27 dX12_liking_18 (by decide) ?_
    exact e_iret X hr dX12_liking_27 (Nat.le_of_ble_eq_true rfl) (Nat.le_of_ble_eq_true rfl) (by cases hF; exact ⟨rfl, rfl⟩)
set_option maxRecDepth 20000 in
set_option maxHeartbeats 4000000 in
theorem L_M_remembers_52 (X : Cx p l s m args meth c Γ D s0 RX12 cX12_remembers 2) (hr : meth.sig.returnType = none)   : ∀ (n : Nat) (v1 : Int32) (σ : Mem) {z : Mem}, forSO (fun i s => F_M_remembers_52_b  i s) n v1 σ = some z → n = cnt v1 450 → ¬ v1 < 0 → (E p l e ({ frames := 0, cells := 0, slots := 0, locals := 0 } : Room) s m args below meth c Γ D 0 0 (MQ below (QcA Γ D Pst) args s 0 0 (frB Γ)) z 86 [some (.ref (Γ.1 + 333)), none] []) → E p l e ({ frames := 0, cells := 0, slots := 0, locals := 0 } : Room) s m args below meth c Γ D 0 0 (MQ below (QcA Γ D Pst) args s 0 0 (frB Γ)) σ 52 [some (.ref (Γ.1 + 333)), some (.int v1)] [] := by
  intro n
  induction n with
  | zero =>
    intro v1 σ z hF hn h0 hK
    refine e_iload_n X dX12_remembers_52 rfl rfl ?_
    refine e_sipush X 450 dX12_remembers_53 rfl ?_
    refine e_icmp_ge X 86 dX12_remembers_56 (by decide) (fun c6 => ?_) (fun c6 => ?_)
    · skip
      have hz9 := Option.some.inj hF; change (σ) = z at hz9; subst hz9
      exact e_le hK (And.intro rfl (trivial))
    · skip
      exact absurd c6 (cnt0 hn)
  | succ n ih =>
    intro v1 σ z hF hn h0 hK
    obtain ⟨y9, hB, hF⟩ := forSO_step hF
    change F_M_remembers_52_b  v1 σ = some y9 at hB
    unfold F_M_remembers_52_b at hB
    refine e_iload_n X dX12_remembers_52 rfl rfl ?_
    refine e_sipush X 450 dX12_remembers_53 rfl ?_
    refine e_icmp_ge X 86 dX12_remembers_56 (by decide) (fun c2 => ?_) (fun c2 => ?_)
    · skip
      exact absurd (cntS hn) c2
    · skip
      refine e_aload_n X dX12_remembers_59 rfl rfl ?_
      refine ge_M_acts X wf_X12_19 dX12_remembers_60 ?_
      refine e_sipush X 450 dX12_remembers_63 rfl ?_
      refine e_aload_n X dX12_remembers_66 rfl rfl ?_
      refine ge_M_acted X wf_X12_201 dX12_remembers_67 ?_
      refine e_imul X dX12_remembers_70 ?_
      refine e_iload_n X dX12_remembers_71 rfl rfl ?_
      refine e_iadd X dX12_remembers_72 ?_
      refine e_aload_n X dX12_remembers_73 rfl rfl ?_
      refine ge_M_m X wf_X12_7 dX12_remembers_74 ?_
      refine e_iload_n X dX12_remembers_77 rfl rfl ?_
      refine e_iald X (j := v1.toNatClampNeg) rfl rfl (vp_gc (by decide) h0 c2) rfl dX12_remembers_78 ?_
      obtain ⟨i3, h_i3, hB⟩ := bindT_out hB
      obtain ⟨c4, hB⟩ := chk_out hB
      obtain ⟨σ5, h_σ5, hB⟩ := bindT_out hB
      refine e_iast X (j := i3.toNatClampNeg) h_i3 rfl (inb_in c4) rfl dX12_remembers_79 h_σ5 ?_
      refine e_iinc X 1 dX12_remembers_80 rfl rfl (by decide) ?_
      refine e_goto X 52 dX12_remembers_83 (by decide) ?_
      have hy9 := Option.some.inj hB; change (σ5) = y9 at hy9; subst hy9
      exact e_le (ih _ σ5 hF (cntN hn) (nnN h0 (cnt_hi hn)) hK) (And.intro rfl (And.intro rfl (trivial)))
set_option maxRecDepth 20000 in
set_option maxHeartbeats 4000000 in
theorem L_M_remembers_11 (X : Cx p l s m args meth c Γ D s0 RX12 cX12_remembers 2) (hr : meth.sig.returnType = none)   : ∀ (n : Nat) (v1 : Int32) (σ : Mem) {z : Mem}, forSO (fun i s => F_M_remembers_11_b  i s) n v1 σ = some z → n = cnt v1 4950 → ¬ v1 < 0 → (E p l e ({ frames := 0, cells := 0, slots := 0, locals := 0 } : Room) s m args below meth c Γ D 0 0 (MQ below (QcA Γ D Pst) args s 0 0 (frB Γ)) z 40 [some (.ref (Γ.1 + 333)), none] []) → E p l e ({ frames := 0, cells := 0, slots := 0, locals := 0 } : Room) s m args below meth c Γ D 0 0 (MQ below (QcA Γ D Pst) args s 0 0 (frB Γ)) σ 11 [some (.ref (Γ.1 + 333)), some (.int v1)] [] := by
  intro n
  induction n with
  | zero =>
    intro v1 σ z hF hn h0 hK
    refine e_iload_n X dX12_remembers_11 rfl rfl ?_
    refine e_sipush X 4950 dX12_remembers_12 rfl ?_
    refine e_icmp_ge X 40 dX12_remembers_15 (by decide) (fun c13 => ?_) (fun c13 => ?_)
    · skip
      have hz9 := Option.some.inj hF; change (σ) = z at hz9; subst hz9
      exact e_le hK (And.intro rfl (trivial))
    · skip
      exact absurd c13 (cnt0 hn)
  | succ n ih =>
    intro v1 σ z hF hn h0 hK
    obtain ⟨y9, hB, hF⟩ := forSO_step hF
    change F_M_remembers_11_b  v1 σ = some y9 at hB
    unfold F_M_remembers_11_b at hB
    refine e_iload_n X dX12_remembers_11 rfl rfl ?_
    refine e_sipush X 4950 dX12_remembers_12 rfl ?_
    refine e_icmp_ge X 40 dX12_remembers_15 (by decide) (fun c9 => ?_) (fun c9 => ?_)
    · skip
      exact absurd (cntS hn) c9
    · skip
      refine e_aload_n X dX12_remembers_18 rfl rfl ?_
      refine ge_M_acts X wf_X12_19 dX12_remembers_19 ?_
      refine e_iload_n X dX12_remembers_22 rfl rfl ?_
      refine e_aload_n X dX12_remembers_23 rfl rfl ?_
      refine ge_M_acts X wf_X12_19 dX12_remembers_24 ?_
      refine e_iload_n X dX12_remembers_27 rfl rfl ?_
      refine e_sipush X 450 dX12_remembers_28 rfl ?_
      refine e_iadd X dX12_remembers_31 ?_
      obtain ⟨i10, h_i10, hB⟩ := bindT_out hB
      obtain ⟨c11, hB⟩ := chk_out hB
      refine e_iald X (j := i10.toNatClampNeg) h_i10 rfl (inb_in c11) rfl dX12_remembers_32 ?_
      obtain ⟨σ12, h_σ12, hB⟩ := bindT_out hB
      refine e_iast X (j := v1.toNatClampNeg) rfl rfl (vp_gc (by decide) h0 c9) rfl dX12_remembers_33 h_σ12 ?_
      refine e_iinc X 1 dX12_remembers_34 rfl rfl (by decide) ?_
      refine e_goto X 11 dX12_remembers_37 (by decide) ?_
      have hy9 := Option.some.inj hB; change (σ12) = y9 at hy9; subst hy9
      exact e_le (ih _ σ12 hF (cntN hn) (nnN h0 (cnt_hi hn)) hK) (And.intro rfl (And.intro rfl (trivial)))
set_option maxRecDepth 20000 in
set_option maxHeartbeats 4000000 in
theorem C_M_remembers (hG : Gok l Γ D s0) (σ : Mem)   {out : Mem} (hF : F_M_remembers σ = some out) : CT l Γ D s0 yX12_remembers cX12_remembers 2 none (0) 0 0 (0) σ [.ref (Γ.1 + 333)] (PI none out) := by
  unfold F_M_remembers at hF
  refine e_met (own := RX12) hG (by decide +kernel) rfl rfl (Nat.le_of_ble_eq_true rfl) ?_
  intro p e s m args below meth c X hr
  show E p l e _ s m args below meth c Γ D 0 0 _ σ 0 [some (.ref (Γ.1 + 333)), none] []
  refine e_aload_n X dX12_remembers_0 rfl rfl ?_
  refine ge_M_acted X wf_X12_201 dX12_remembers_1 ?_
  refine e_bipush X 12 dX12_remembers_4 rfl ?_
  refine e_icmp_ne X 50 dX12_remembers_6 (by decide) (fun c1 => ?_) (fun c1 => ?_)
  · skip
    rw [if_neg c1] at hF
    refine e_iconst X 0 dX12_remembers_50 rfl ?_
    refine e_istore_n X rfl dX12_remembers_51 rfl (by decide) ?_
    obtain ⟨z7, h_z7, hF⟩ := obind_out hF
    refine e_le (L_M_remembers_52 X hr _ 0 σ h_z7 rfl (by decide) ?_) (And.intro rfl (And.intro rfl (trivial)))
    refine e_aload_n X dX12_remembers_86 rfl rfl ?_
    refine e_dup X dX12_remembers_87 rfl ?_
    refine ge_M_acted X wf_X12_201 dX12_remembers_88 ?_
    refine e_iconst X 1 dX12_remembers_91 rfl ?_
    refine e_iadd X dX12_remembers_92 ?_
    obtain ⟨σ8, h_σ8, hF⟩ := bindT_out hF
    refine pu_M_acted X wf_X12_201 dX12_remembers_93 h_σ8 ?_
    exact e_vret X hr dX12_remembers_96 (Nat.le_of_ble_eq_true rfl) (Nat.le_of_ble_eq_true rfl) (by cases hF; exact ⟨rfl, rfl⟩)
  · skip
    rw [if_pos c1] at hF
    refine e_iconst X 0 dX12_remembers_9 rfl ?_
    refine e_istore_n X rfl dX12_remembers_10 rfl (by decide) ?_
    obtain ⟨z14, h_z14, hF⟩ := obind_out hF
    refine e_le (L_M_remembers_11 X hr _ 0 σ h_z14 rfl (by decide) ?_) (And.intro rfl (And.intro rfl (trivial)))
    refine e_aload_n X dX12_remembers_40 rfl rfl ?_
    refine e_dup X dX12_remembers_41 rfl ?_
    refine ge_M_acted X wf_X12_201 dX12_remembers_42 ?_
    refine e_iconst X 1 dX12_remembers_45 rfl ?_
    refine e_isub X dX12_remembers_46 ?_
    obtain ⟨σ15, h_σ15, hF⟩ := bindT_out hF
    refine pu_M_acted X wf_X12_201 dX12_remembers_47 h_σ15 ?_
    refine e_iconst X 0 dX12_remembers_50 rfl ?_
    refine e_istore_n X rfl dX12_remembers_51 rfl (by decide) ?_
    obtain ⟨z16, h_z16, hF⟩ := obind_out hF
    refine e_le (L_M_remembers_52 X hr _ 0 σ15 h_z16 rfl (by decide) ?_) (And.intro rfl (And.intro rfl (trivial)))
    refine e_aload_n X dX12_remembers_86 rfl rfl ?_
    refine e_dup X dX12_remembers_87 rfl ?_
    refine ge_M_acted X wf_X12_201 dX12_remembers_88 ?_
    refine e_iconst X 1 dX12_remembers_91 rfl ?_
    refine e_iadd X dX12_remembers_92 ?_
    obtain ⟨σ17, h_σ17, hF⟩ := bindT_out hF
    refine pu_M_acted X wf_X12_201 dX12_remembers_93 h_σ17 ?_
    exact e_vret X hr dX12_remembers_96 (Nat.le_of_ble_eq_true rfl) (Nat.le_of_ble_eq_true rfl) (by cases hF; exact ⟨rfl, rfl⟩)
set_option maxRecDepth 20000 in
set_option maxHeartbeats 4000000 in
theorem C_M_ask (hG : Gok l Γ D s0) (σ : Mem) (v1 : Int32) (v2 : Int32)  {out : Mem × Int32} (hF : F_M_ask σ v1 v2 = some out) : CT l Γ D s0 yX12_ask cX12_ask 4 (some .boolean) (3) 0 0 (65) σ [.ref (Γ.1 + 333), .int v1, .int v2] (PI (some (.int out.2)) out.1) := by
  unfold F_M_ask at hF
  refine e_met (own := RX12) hG (by decide +kernel) rfl rfl (Nat.le_of_ble_eq_true rfl) ?_
  intro p e s m args below meth c X hr
  show E p l e _ s m args below meth c Γ D 0 0 _ σ 0 [some (.ref (Γ.1 + 333)), some (.int v1), some (.int v2), none] []
  refine e_aload_n X dX12_ask_0 rfl rfl ?_
  refine e_aload_n X dX12_ask_1 rfl rfl ?_
  refine e_iload_n X dX12_ask_2 rfl rfl ?_
  refine e_iload_n X dX12_ask_3 rfl rfl ?_
  obtain ⟨z1, h_z1, hF⟩ := obind_out hF
  refine e_callVi X (r := z1) (σ1 := σ) [.int v1, .int v2] [.ref (Γ.1 + 333)] (C_M_two (Cx_gok X) σ v1 v2 h_z1) gv_X12_302 yk_X12_two rfl (ent_lt (rfl : entTbl[333]? = some (13, 0))) (ent_at (rfl : entTbl[333]? = some (13, 0)) _) (rfl : vCl[11]? = some (RX12, TX12, 24)) ⟨Nat.le_of_ble_eq_true rfl, Nat.le_of_ble_eq_true rfl⟩ ⟨Nat.le_of_ble_eq_true rfl, Nat.le_of_ble_eq_true rfl⟩ (Nat.le_of_ble_eq_true rfl) dX12_ask_4 rfl ?_
  obtain ⟨σ2, h_σ2, hF⟩ := bindT_out hF
  refine pu_M_thrown X wf_X12_51 dX12_ask_7 h_σ2 ?_
  refine e_aload_n X dX12_ask_10 rfl rfl ?_
  refine ge_M_thrown X wf_X12_51 dX12_ask_11 ?_
  refine e_if_le X 19 dX12_ask_14 (by decide) (fun c3 => ?_) (fun c3 => ?_)
  · skip
    rw [if_neg c3] at hF
    refine e_aload_n X dX12_ask_19 rfl rfl ?_
    obtain ⟨z4, h_z4, hF⟩ := obind_out hF
    refine e_callVv X (σ1 := z4) [] [] (C_M_remembers (Cx_gok X) σ2 h_z4) gv_X12_308 yk_X12_remembers rfl (ent_lt (rfl : entTbl[333]? = some (13, 0))) (ent_at (rfl : entTbl[333]? = some (13, 0)) _) (rfl : vCl[11]? = some (RX12, TX12, 24)) ⟨Nat.le_of_ble_eq_true rfl, Nat.le_of_ble_eq_true rfl⟩ ⟨Nat.le_of_ble_eq_true rfl, Nat.le_of_ble_eq_true rfl⟩ (Nat.le_of_ble_eq_true rfl) dX12_ask_20 rfl ?_
    refine e_aload_n X dX12_ask_23 rfl rfl ?_
    refine e_iload_n X dX12_ask_24 rfl rfl ?_
    refine e_iconst X 1 dX12_ask_25 rfl ?_
    obtain ⟨z5, h_z5, hF⟩ := obind_out hF
    refine e_callVi X (r := z5) (σ1 := z4) [.int v1, .int 1] [] (C_M_of (Cx_gok X) z4 v1 1 h_z5) gv_X12_62 yk_X12_of rfl (ent_lt (rfl : entTbl[333]? = some (13, 0))) (ent_at (rfl : entTbl[333]? = some (13, 0)) _) (rfl : vCl[11]? = some (RX12, TX12, 24)) ⟨Nat.le_of_ble_eq_true rfl, Nat.le_of_ble_eq_true rfl⟩ ⟨Nat.le_of_ble_eq_true rfl, Nat.le_of_ble_eq_true rfl⟩ (Nat.le_of_ble_eq_true rfl) dX12_ask_26 rfl ?_
    refine e_iload_n X dX12_ask_29 rfl rfl ?_
    refine e_callSi X (r := (F_M_isOf z4 z5 v2)) (σ1 := z4) [.int z5, .int v2] [] (C_M_isOf (Cx_gok X) z4 z5 v2) gs_X12_65 yk_X12_isOf rfl ⟨Nat.le_of_ble_eq_true rfl, Nat.le_of_ble_eq_true rfl⟩ ⟨Nat.le_of_ble_eq_true rfl, Nat.le_of_ble_eq_true rfl⟩ (Nat.le_of_ble_eq_true rfl) dX12_ask_30 rfl ?_
    obtain ⟨x6, h_x6, hF⟩ := bindT_out hF
    refine e_istore_n X h_x6 dX12_ask_33 rfl (by decide) ?_
    refine e_aload_n X dX12_ask_34 rfl rfl ?_
    refine e_iload_n X dX12_ask_35 rfl rfl ?_
    refine e_iconst X 1 dX12_ask_36 rfl ?_
    refine e_aload_n X dX12_ask_37 rfl rfl ?_
    refine e_iload_n X dX12_ask_38 rfl rfl ?_
    refine e_iconst X 1 dX12_ask_39 rfl ?_
    obtain ⟨z7, h_z7, hF⟩ := obind_out hF
    refine e_callVi X (r := z7) (σ1 := z4) [.int v1, .int 1] [.int 1, .int v1, .ref (Γ.1 + 333)] (C_M_of (Cx_gok X) z4 v1 1 h_z7) gv_X12_62 yk_X12_of rfl (ent_lt (rfl : entTbl[333]? = some (13, 0))) (ent_at (rfl : entTbl[333]? = some (13, 0)) _) (rfl : vCl[11]? = some (RX12, TX12, 24)) ⟨Nat.le_of_ble_eq_true rfl, Nat.le_of_ble_eq_true rfl⟩ ⟨Nat.le_of_ble_eq_true rfl, Nat.le_of_ble_eq_true rfl⟩ (Nat.le_of_ble_eq_true rfl) dX12_ask_40 rfl ?_
    refine e_iconst X 1 dX12_ask_43 rfl ?_
    refine e_iload_n X dX12_ask_44 rfl rfl ?_
    refine e_ishl X dX12_ask_45 ?_
    refine e_ior X dX12_ask_46 ?_
    obtain ⟨z8, h_z8, hF⟩ := obind_out hF
    refine e_callVv X (σ1 := z8) [.int v1, .int 1, .int ((z7 ||| ((1 : Int32) <<< ((v2 : Int32) &&& 31))))] [] (C_M_has (Cx_gok X) z4 v1 1 ((z7 ||| ((1 : Int32) <<< ((v2 : Int32) &&& 31)))) h_z8) gv_X12_144 yk_X12_has rfl (ent_lt (rfl : entTbl[333]? = some (13, 0))) (ent_at (rfl : entTbl[333]? = some (13, 0)) _) (rfl : vCl[11]? = some (RX12, TX12, 24)) ⟨Nat.le_of_ble_eq_true rfl, Nat.le_of_ble_eq_true rfl⟩ ⟨Nat.le_of_ble_eq_true rfl, Nat.le_of_ble_eq_true rfl⟩ (Nat.le_of_ble_eq_true rfl) dX12_ask_47 rfl ?_
    refine e_iload_n X dX12_ask_50 rfl rfl ?_
    refine e_if_ne X 58 dX12_ask_51 (by decide) (fun c9 => ?_) (fun c9 => ?_)
    · skip
      rw [if_neg c9] at hF
      refine e_iconst X 0 dX12_ask_58 rfl ?_
      exact e_zret X hr rfl dX12_ask_59 (Nat.le_of_ble_eq_true rfl) (Nat.le_of_ble_eq_true rfl) (by cases hF; exact ⟨rfl, rfl⟩)
    · skip
      rw [if_pos c9] at hF
      refine e_iconst X 1 dX12_ask_54 rfl ?_
      refine e_goto X 59 dX12_ask_55 (by decide) ?_
      exact e_zret X hr rfl dX12_ask_59 (Nat.le_of_ble_eq_true rfl) (Nat.le_of_ble_eq_true rfl) (by cases hF; exact ⟨rfl, rfl⟩)
  · skip
    rw [if_pos c3] at hF
    refine e_iconst X 0 dX12_ask_17 rfl ?_
    exact e_zret X hr rfl dX12_ask_18 (Nat.le_of_ble_eq_true rfl) (Nat.le_of_ble_eq_true rfl) (by cases hF; exact ⟨rfl, rfl⟩)
set_option maxRecDepth 20000 in
set_option maxHeartbeats 4000000 in
theorem C_M_wed (hG : Gok l Γ D s0) (σ : Mem) (v1 : Int32) (v2 : Int32)  {out : Mem × Int32} (hF : F_M_wed σ v1 v2 = some out) : CT l Γ D s0 yX12_wed cX12_wed 3 (some .int) (3) 0 0 (65) σ [.ref (Γ.1 + 333), .int v1, .int v2] (PI (some (.int out.2)) out.1) := by
  unfold F_M_wed at hF
  refine e_met (own := RX12) hG (by decide +kernel) rfl rfl (Nat.le_of_ble_eq_true rfl) ?_
  intro p e s m args below meth c X hr
  show E p l e _ s m args below meth c Γ D 0 0 _ σ 0 [some (.ref (Γ.1 + 333)), some (.int v1), some (.int v2)] []
  refine e_aload_n X dX12_wed_0 rfl rfl ?_
  refine e_aload_n X dX12_wed_1 rfl rfl ?_
  refine e_iload_n X dX12_wed_2 rfl rfl ?_
  refine e_iload_n X dX12_wed_3 rfl rfl ?_
  obtain ⟨z1, h_z1, hF⟩ := obind_out hF
  refine e_callVi X (r := z1) (σ1 := σ) [.int v1, .int v2] [.ref (Γ.1 + 333)] (C_M_two (Cx_gok X) σ v1 v2 h_z1) gv_X12_302 yk_X12_two rfl (ent_lt (rfl : entTbl[333]? = some (13, 0))) (ent_at (rfl : entTbl[333]? = some (13, 0)) _) (rfl : vCl[11]? = some (RX12, TX12, 24)) ⟨Nat.le_of_ble_eq_true rfl, Nat.le_of_ble_eq_true rfl⟩ ⟨Nat.le_of_ble_eq_true rfl, Nat.le_of_ble_eq_true rfl⟩ (Nat.le_of_ble_eq_true rfl) dX12_wed_4 rfl ?_
  obtain ⟨σ2, h_σ2, hF⟩ := bindT_out hF
  refine pu_M_thrown X wf_X12_51 dX12_wed_7 h_σ2 ?_
  refine e_aload_n X dX12_wed_10 rfl rfl ?_
  refine ge_M_thrown X wf_X12_51 dX12_wed_11 ?_
  refine e_if_ne X 59 dX12_wed_14 (by decide) (fun c3 => ?_) (fun c3 => ?_)
  · skip
    rw [if_neg c3] at hF
    refine e_aload_n X dX12_wed_59 rfl rfl ?_
    refine ge_M_thrown X wf_X12_51 dX12_wed_60 ?_
    refine e_if_le X 68 dX12_wed_63 (by decide) (fun c4 => ?_) (fun c4 => ?_)
    · skip
      rw [if_neg c4] at hF
      refine e_aload_n X dX12_wed_68 rfl rfl ?_
      obtain ⟨z5, h_z5, hF⟩ := obind_out hF
      refine e_callVv X (σ1 := z5) [] [] (C_M_remembers (Cx_gok X) σ2 h_z5) gv_X12_308 yk_X12_remembers rfl (ent_lt (rfl : entTbl[333]? = some (13, 0))) (ent_at (rfl : entTbl[333]? = some (13, 0)) _) (rfl : vCl[11]? = some (RX12, TX12, 24)) ⟨Nat.le_of_ble_eq_true rfl, Nat.le_of_ble_eq_true rfl⟩ ⟨Nat.le_of_ble_eq_true rfl, Nat.le_of_ble_eq_true rfl⟩ (Nat.le_of_ble_eq_true rfl) dX12_wed_69 rfl ?_
      refine e_aload_n X dX12_wed_72 rfl rfl ?_
      refine e_iload_n X dX12_wed_73 rfl rfl ?_
      refine e_iload_n X dX12_wed_74 rfl rfl ?_
      refine e_bipush X 50 dX12_wed_75 rfl ?_
      obtain ⟨z6, h_z6, hF⟩ := obind_out hF
      refine e_callVv X (σ1 := z6) [.int v1, .int v2, .int 50] [] (C_M_comes (Cx_gok X) z5 v1 v2 50 h_z6) gv_X12_137 yk_X12_comes rfl (ent_lt (rfl : entTbl[333]? = some (13, 0))) (ent_at (rfl : entTbl[333]? = some (13, 0)) _) (rfl : vCl[11]? = some (RX12, TX12, 24)) ⟨Nat.le_of_ble_eq_true rfl, Nat.le_of_ble_eq_true rfl⟩ ⟨Nat.le_of_ble_eq_true rfl, Nat.le_of_ble_eq_true rfl⟩ (Nat.le_of_ble_eq_true rfl) dX12_wed_77 rfl ?_
      refine e_aload_n X dX12_wed_80 rfl rfl ?_
      refine ge_M_m X wf_X12_7 dX12_wed_81 ?_
      refine e_iconst X 4 dX12_wed_84 rfl ?_
      refine e_iald X (j := 4) rfl rfl (vp_in_iff.mpr (by decide)) rfl dX12_wed_85 ?_
      refine e_iconst X 1 dX12_wed_86 rfl ?_
      refine e_isub X dX12_wed_87 ?_
      exact e_iret X hr dX12_wed_88 (Nat.le_of_ble_eq_true rfl) (Nat.le_of_ble_eq_true rfl) (by cases hF; exact ⟨rfl, rfl⟩)
    · skip
      rw [if_pos c4] at hF
      refine e_iconst X 0 dX12_wed_66 rfl ?_
      exact e_iret X hr dX12_wed_67 (Nat.le_of_ble_eq_true rfl) (Nat.le_of_ble_eq_true rfl) (by cases hF; exact ⟨rfl, rfl⟩)
  · skip
    rw [if_pos c3] at hF
    refine e_aload_n X dX12_wed_17 rfl rfl ?_
    refine e_aload_n X dX12_wed_18 rfl rfl ?_
    refine e_iload_n X dX12_wed_19 rfl rfl ?_
    obtain ⟨z7, h_z7, hF⟩ := obind_out hF
    refine e_callVi X (r := z7) (σ1 := σ2) [.int v1] [.ref (Γ.1 + 333)] (C_M_wedTo (Cx_gok X) σ2 v1 h_z7) gv_X12_121 yk_X12_wedTo rfl (ent_lt (rfl : entTbl[333]? = some (13, 0))) (ent_at (rfl : entTbl[333]? = some (13, 0)) _) (rfl : vCl[11]? = some (RX12, TX12, 24)) ⟨Nat.le_of_ble_eq_true rfl, Nat.le_of_ble_eq_true rfl⟩ ⟨Nat.le_of_ble_eq_true rfl, Nat.le_of_ble_eq_true rfl⟩ (Nat.le_of_ble_eq_true rfl) dX12_wed_20 rfl ?_
    refine e_iconst X (-1) dX12_wed_23 rfl ?_
    refine e_icmp_ne X 36 dX12_wed_24 (by decide) (fun c8 => ?_) (fun c8 => ?_)
    · skip
      rw [if_neg c8] at hF
      refine e_iconst X 3 dX12_wed_36 rfl ?_
      refine e_goto X 56 dX12_wed_37 (by decide) ?_
      obtain ⟨σ9, h_σ9, hF⟩ := bindT_out hF
      refine pu_M_thrown X wf_X12_51 dX12_wed_56 h_σ9 ?_
      refine e_aload_n X dX12_wed_59 rfl rfl ?_
      refine ge_M_thrown X wf_X12_51 dX12_wed_60 ?_
      refine e_if_le X 68 dX12_wed_63 (by decide) (fun c10 => ?_) (fun c10 => ?_)
      · skip
        rw [if_neg c10] at hF
        refine e_aload_n X dX12_wed_68 rfl rfl ?_
        obtain ⟨z11, h_z11, hF⟩ := obind_out hF
        refine e_callVv X (σ1 := z11) [] [] (C_M_remembers (Cx_gok X) σ9 h_z11) gv_X12_308 yk_X12_remembers rfl (ent_lt (rfl : entTbl[333]? = some (13, 0))) (ent_at (rfl : entTbl[333]? = some (13, 0)) _) (rfl : vCl[11]? = some (RX12, TX12, 24)) ⟨Nat.le_of_ble_eq_true rfl, Nat.le_of_ble_eq_true rfl⟩ ⟨Nat.le_of_ble_eq_true rfl, Nat.le_of_ble_eq_true rfl⟩ (Nat.le_of_ble_eq_true rfl) dX12_wed_69 rfl ?_
        refine e_aload_n X dX12_wed_72 rfl rfl ?_
        refine e_iload_n X dX12_wed_73 rfl rfl ?_
        refine e_iload_n X dX12_wed_74 rfl rfl ?_
        refine e_bipush X 50 dX12_wed_75 rfl ?_
        obtain ⟨z12, h_z12, hF⟩ := obind_out hF
        refine e_callVv X (σ1 := z12) [.int v1, .int v2, .int 50] [] (C_M_comes (Cx_gok X) z11 v1 v2 50 h_z12) gv_X12_137 yk_X12_comes rfl (ent_lt (rfl : entTbl[333]? = some (13, 0))) (ent_at (rfl : entTbl[333]? = some (13, 0)) _) (rfl : vCl[11]? = some (RX12, TX12, 24)) ⟨Nat.le_of_ble_eq_true rfl, Nat.le_of_ble_eq_true rfl⟩ ⟨Nat.le_of_ble_eq_true rfl, Nat.le_of_ble_eq_true rfl⟩ (Nat.le_of_ble_eq_true rfl) dX12_wed_77 rfl ?_
        refine e_aload_n X dX12_wed_80 rfl rfl ?_
        refine ge_M_m X wf_X12_7 dX12_wed_81 ?_
        refine e_iconst X 4 dX12_wed_84 rfl ?_
        refine e_iald X (j := 4) rfl rfl (vp_in_iff.mpr (by decide)) rfl dX12_wed_85 ?_
        refine e_iconst X 1 dX12_wed_86 rfl ?_
        refine e_isub X dX12_wed_87 ?_
        exact e_iret X hr dX12_wed_88 (Nat.le_of_ble_eq_true rfl) (Nat.le_of_ble_eq_true rfl) (by cases hF; exact ⟨rfl, rfl⟩)
      · skip
        rw [if_pos c10] at hF
        refine e_iconst X 0 dX12_wed_66 rfl ?_
        exact e_iret X hr dX12_wed_67 (Nat.le_of_ble_eq_true rfl) (Nat.le_of_ble_eq_true rfl) (by cases hF; exact ⟨rfl, rfl⟩)
    · skip
      rw [if_pos c8] at hF
      refine e_aload_n X dX12_wed_27 rfl rfl ?_
      refine e_iload_n X dX12_wed_28 rfl rfl ?_
      obtain ⟨z13, h_z13, hF⟩ := obind_out hF
      refine e_callVi X (r := z13) (σ1 := σ2) [.int v2] [.ref (Γ.1 + 333)] (C_M_wedTo (Cx_gok X) σ2 v2 h_z13) gv_X12_121 yk_X12_wedTo rfl (ent_lt (rfl : entTbl[333]? = some (13, 0))) (ent_at (rfl : entTbl[333]? = some (13, 0)) _) (rfl : vCl[11]? = some (RX12, TX12, 24)) ⟨Nat.le_of_ble_eq_true rfl, Nat.le_of_ble_eq_true rfl⟩ ⟨Nat.le_of_ble_eq_true rfl, Nat.le_of_ble_eq_true rfl⟩ (Nat.le_of_ble_eq_true rfl) dX12_wed_29 rfl ?_
      refine e_iconst X (-1) dX12_wed_32 rfl ?_
      refine e_icmp_eq X 40 dX12_wed_33 (by decide) (fun c14 => ?_) (fun c14 => ?_)
      · skip
        rw [if_pos c14] at hF
        refine e_aload_n X dX12_wed_40 rfl rfl ?_
        refine ge_M_m X wf_X12_7 dX12_wed_41 ?_
        refine e_iconst X 4 dX12_wed_44 rfl ?_
        refine e_iald X (j := 4) rfl rfl (vp_in_iff.mpr (by decide)) rfl dX12_wed_45 ?_
        refine e_bipush X 20 dX12_wed_46 rfl ?_
        refine e_icmp_ne X 55 dX12_wed_48 (by decide) (fun c15 => ?_) (fun c15 => ?_)
        · skip
          rw [if_neg c15] at hF
          refine e_iconst X 0 dX12_wed_55 rfl ?_
          obtain ⟨σ16, h_σ16, hF⟩ := bindT_out hF
          refine pu_M_thrown X wf_X12_51 dX12_wed_56 h_σ16 ?_
          refine e_aload_n X dX12_wed_59 rfl rfl ?_
          refine ge_M_thrown X wf_X12_51 dX12_wed_60 ?_
          refine e_if_le X 68 dX12_wed_63 (by decide) (fun c17 => ?_) (fun c17 => ?_)
          · skip
            rw [if_neg c17] at hF
            refine e_aload_n X dX12_wed_68 rfl rfl ?_
            obtain ⟨z18, h_z18, hF⟩ := obind_out hF
            refine e_callVv X (σ1 := z18) [] [] (C_M_remembers (Cx_gok X) σ16 h_z18) gv_X12_308 yk_X12_remembers rfl (ent_lt (rfl : entTbl[333]? = some (13, 0))) (ent_at (rfl : entTbl[333]? = some (13, 0)) _) (rfl : vCl[11]? = some (RX12, TX12, 24)) ⟨Nat.le_of_ble_eq_true rfl, Nat.le_of_ble_eq_true rfl⟩ ⟨Nat.le_of_ble_eq_true rfl, Nat.le_of_ble_eq_true rfl⟩ (Nat.le_of_ble_eq_true rfl) dX12_wed_69 rfl ?_
            refine e_aload_n X dX12_wed_72 rfl rfl ?_
            refine e_iload_n X dX12_wed_73 rfl rfl ?_
            refine e_iload_n X dX12_wed_74 rfl rfl ?_
            refine e_bipush X 50 dX12_wed_75 rfl ?_
            obtain ⟨z19, h_z19, hF⟩ := obind_out hF
            refine e_callVv X (σ1 := z19) [.int v1, .int v2, .int 50] [] (C_M_comes (Cx_gok X) z18 v1 v2 50 h_z19) gv_X12_137 yk_X12_comes rfl (ent_lt (rfl : entTbl[333]? = some (13, 0))) (ent_at (rfl : entTbl[333]? = some (13, 0)) _) (rfl : vCl[11]? = some (RX12, TX12, 24)) ⟨Nat.le_of_ble_eq_true rfl, Nat.le_of_ble_eq_true rfl⟩ ⟨Nat.le_of_ble_eq_true rfl, Nat.le_of_ble_eq_true rfl⟩ (Nat.le_of_ble_eq_true rfl) dX12_wed_77 rfl ?_
            refine e_aload_n X dX12_wed_80 rfl rfl ?_
            refine ge_M_m X wf_X12_7 dX12_wed_81 ?_
            refine e_iconst X 4 dX12_wed_84 rfl ?_
            refine e_iald X (j := 4) rfl rfl (vp_in_iff.mpr (by decide)) rfl dX12_wed_85 ?_
            refine e_iconst X 1 dX12_wed_86 rfl ?_
            refine e_isub X dX12_wed_87 ?_
            exact e_iret X hr dX12_wed_88 (Nat.le_of_ble_eq_true rfl) (Nat.le_of_ble_eq_true rfl) (by cases hF; exact ⟨rfl, rfl⟩)
          · skip
            rw [if_pos c17] at hF
            refine e_iconst X 0 dX12_wed_66 rfl ?_
            exact e_iret X hr dX12_wed_67 (Nat.le_of_ble_eq_true rfl) (Nat.le_of_ble_eq_true rfl) (by cases hF; exact ⟨rfl, rfl⟩)
        · skip
          rw [if_pos c15] at hF
          refine e_iconst X 4 dX12_wed_51 rfl ?_
          refine e_goto X 56 dX12_wed_52 (by decide) ?_
          obtain ⟨σ20, h_σ20, hF⟩ := bindT_out hF
          refine pu_M_thrown X wf_X12_51 dX12_wed_56 h_σ20 ?_
          refine e_aload_n X dX12_wed_59 rfl rfl ?_
          refine ge_M_thrown X wf_X12_51 dX12_wed_60 ?_
          refine e_if_le X 68 dX12_wed_63 (by decide) (fun c21 => ?_) (fun c21 => ?_)
          · skip
            rw [if_neg c21] at hF
            refine e_aload_n X dX12_wed_68 rfl rfl ?_
            obtain ⟨z22, h_z22, hF⟩ := obind_out hF
            refine e_callVv X (σ1 := z22) [] [] (C_M_remembers (Cx_gok X) σ20 h_z22) gv_X12_308 yk_X12_remembers rfl (ent_lt (rfl : entTbl[333]? = some (13, 0))) (ent_at (rfl : entTbl[333]? = some (13, 0)) _) (rfl : vCl[11]? = some (RX12, TX12, 24)) ⟨Nat.le_of_ble_eq_true rfl, Nat.le_of_ble_eq_true rfl⟩ ⟨Nat.le_of_ble_eq_true rfl, Nat.le_of_ble_eq_true rfl⟩ (Nat.le_of_ble_eq_true rfl) dX12_wed_69 rfl ?_
            refine e_aload_n X dX12_wed_72 rfl rfl ?_
            refine e_iload_n X dX12_wed_73 rfl rfl ?_
            refine e_iload_n X dX12_wed_74 rfl rfl ?_
            refine e_bipush X 50 dX12_wed_75 rfl ?_
            obtain ⟨z23, h_z23, hF⟩ := obind_out hF
            refine e_callVv X (σ1 := z23) [.int v1, .int v2, .int 50] [] (C_M_comes (Cx_gok X) z22 v1 v2 50 h_z23) gv_X12_137 yk_X12_comes rfl (ent_lt (rfl : entTbl[333]? = some (13, 0))) (ent_at (rfl : entTbl[333]? = some (13, 0)) _) (rfl : vCl[11]? = some (RX12, TX12, 24)) ⟨Nat.le_of_ble_eq_true rfl, Nat.le_of_ble_eq_true rfl⟩ ⟨Nat.le_of_ble_eq_true rfl, Nat.le_of_ble_eq_true rfl⟩ (Nat.le_of_ble_eq_true rfl) dX12_wed_77 rfl ?_
            refine e_aload_n X dX12_wed_80 rfl rfl ?_
            refine ge_M_m X wf_X12_7 dX12_wed_81 ?_
            refine e_iconst X 4 dX12_wed_84 rfl ?_
            refine e_iald X (j := 4) rfl rfl (vp_in_iff.mpr (by decide)) rfl dX12_wed_85 ?_
            refine e_iconst X 1 dX12_wed_86 rfl ?_
            refine e_isub X dX12_wed_87 ?_
            exact e_iret X hr dX12_wed_88 (Nat.le_of_ble_eq_true rfl) (Nat.le_of_ble_eq_true rfl) (by cases hF; exact ⟨rfl, rfl⟩)
          · skip
            rw [if_pos c21] at hF
            refine e_iconst X 0 dX12_wed_66 rfl ?_
            exact e_iret X hr dX12_wed_67 (Nat.le_of_ble_eq_true rfl) (Nat.le_of_ble_eq_true rfl) (by cases hF; exact ⟨rfl, rfl⟩)
      · skip
        rw [if_neg c14] at hF
        refine e_iconst X 3 dX12_wed_36 rfl ?_
        refine e_goto X 56 dX12_wed_37 (by decide) ?_
        obtain ⟨σ24, h_σ24, hF⟩ := bindT_out hF
        refine pu_M_thrown X wf_X12_51 dX12_wed_56 h_σ24 ?_
        refine e_aload_n X dX12_wed_59 rfl rfl ?_
        refine ge_M_thrown X wf_X12_51 dX12_wed_60 ?_
        refine e_if_le X 68 dX12_wed_63 (by decide) (fun c25 => ?_) (fun c25 => ?_)
        · skip
          rw [if_neg c25] at hF
          refine e_aload_n X dX12_wed_68 rfl rfl ?_
          obtain ⟨z26, h_z26, hF⟩ := obind_out hF
          refine e_callVv X (σ1 := z26) [] [] (C_M_remembers (Cx_gok X) σ24 h_z26) gv_X12_308 yk_X12_remembers rfl (ent_lt (rfl : entTbl[333]? = some (13, 0))) (ent_at (rfl : entTbl[333]? = some (13, 0)) _) (rfl : vCl[11]? = some (RX12, TX12, 24)) ⟨Nat.le_of_ble_eq_true rfl, Nat.le_of_ble_eq_true rfl⟩ ⟨Nat.le_of_ble_eq_true rfl, Nat.le_of_ble_eq_true rfl⟩ (Nat.le_of_ble_eq_true rfl) dX12_wed_69 rfl ?_
          refine e_aload_n X dX12_wed_72 rfl rfl ?_
          refine e_iload_n X dX12_wed_73 rfl rfl ?_
          refine e_iload_n X dX12_wed_74 rfl rfl ?_
          refine e_bipush X 50 dX12_wed_75 rfl ?_
          obtain ⟨z27, h_z27, hF⟩ := obind_out hF
          refine e_callVv X (σ1 := z27) [.int v1, .int v2, .int 50] [] (C_M_comes (Cx_gok X) z26 v1 v2 50 h_z27) gv_X12_137 yk_X12_comes rfl (ent_lt (rfl : entTbl[333]? = some (13, 0))) (ent_at (rfl : entTbl[333]? = some (13, 0)) _) (rfl : vCl[11]? = some (RX12, TX12, 24)) ⟨Nat.le_of_ble_eq_true rfl, Nat.le_of_ble_eq_true rfl⟩ ⟨Nat.le_of_ble_eq_true rfl, Nat.le_of_ble_eq_true rfl⟩ (Nat.le_of_ble_eq_true rfl) dX12_wed_77 rfl ?_
          refine e_aload_n X dX12_wed_80 rfl rfl ?_
          refine ge_M_m X wf_X12_7 dX12_wed_81 ?_
          refine e_iconst X 4 dX12_wed_84 rfl ?_
          refine e_iald X (j := 4) rfl rfl (vp_in_iff.mpr (by decide)) rfl dX12_wed_85 ?_
          refine e_iconst X 1 dX12_wed_86 rfl ?_
          refine e_isub X dX12_wed_87 ?_
          exact e_iret X hr dX12_wed_88 (Nat.le_of_ble_eq_true rfl) (Nat.le_of_ble_eq_true rfl) (by cases hF; exact ⟨rfl, rfl⟩)
        · skip
          rw [if_pos c25] at hF
          refine e_iconst X 0 dX12_wed_66 rfl ?_
          exact e_iret X hr dX12_wed_67 (Nat.le_of_ble_eq_true rfl) (Nat.le_of_ble_eq_true rfl) (by cases hF; exact ⟨rfl, rfl⟩)
end PART

section PART
variable {p : Program} {l : Launch} {e : Env} {R : Room} {s : State} {m : MethodId} {args : Array Value} {below : List Frame} {meth : Method} {c : Code} {Γ : Gm} {D : va_G} {s0 : State} {cells slots : Nat} {Q : State → Prop} {own : String} {cc : ByteArray} {nL : Nat} {σ : Mem} {pc : Nat} {lv : List (Option Value)} {st : List Value} {Pst : Option Value → Mem → Prop}
def F_M_thrown (σ : Mem)  : Int32 := (σ 333 0)
def F_M_isIn (σ : Mem) (v0 : Int32) (v1 : Int32) (v2 : Int32) : Int32 := (if v0 < v1 then 0 else (if v2 < v0 then 0 else 1))
def F_M_lesser (σ : Mem) (v0 : Int32) (v1 : Int32) : Int32 := (if v0 < v1 then v0 else v1)
def F_M_greater (σ : Mem) (v0 : Int32) (v1 : Int32) : Int32 := (if v1 < v0 then v0 else v1)
def F_M_isOf (σ : Mem) (v0 : Int32) (v1 : Int32) : Int32 := (if (((v0 : Int32) >>> ((v1 : Int32) &&& 31)) &&& 1) = 1 then 1 else 0)
def F_M_bits_4_b (σ : Mem) (v0 : Int32) (v2 : Int32) (v1 : Int32) : Int32 := bindT ((v1 + (((v0 : Int32) >>> ((v2 : Int32) &&& 31)) &&& 1))) fun x2 => x2
def F_M_bits (σ : Mem) (v0 : Int32) : Int32 := bindT (forS (fun i s => F_M_bits_4_b σ v0 i s) (cnt 0 31) 0 0) fun z4 => z4
def F_M_of (σ : Mem) (v1 : Int32) (v2 : Int32) : Option (Int32) := bindT (((14 + (4 * v1)) + v2)) fun i1 => chk (inb i1 850) <| some ((σ 334 i1.toNatClampNeg))
def F_M_has (σ : Mem) (v1 : Int32) (v2 : Int32) (v3 : Int32) : Option (Mem) := bindT (((14 + (4 * v1)) + v2)) fun i1 => chk (inb i1 850) <| bindT (up σ 334 i1.toNatClampNeg v3) fun σ3 => some σ3
def F_M_ofMatch (σ : Mem) (v1 : Int32) (v2 : Int32) : Option (Int32) := bindT (((110 + (5 * v1)) + v2)) fun i1 => chk (inb i1 850) <| some ((σ 334 i1.toNatClampNeg))
def F_M_told (σ : Mem) (v1 : Int32) (v2 : Int32) (v3 : Int32) : Option (Mem) := bindT (((110 + (5 * v1)) + v2)) fun i1 => chk (inb i1 850) <| bindT (up σ 334 i1.toNatClampNeg v3) fun σ3 => some σ3
def F_M_likes (σ : Mem) (v1 : Int32) (v2 : Int32) : Option (Int32) := bindT (((46 + (8 * v1)) + v2)) fun i1 => chk (inb i1 850) <| some ((σ 334 i1.toNatClampNeg))
def F_M_isPerson (σ : Mem) (v1 : Int32) : Option (Int32) := some (((F_M_isIn σ v1 0 (((σ 334 3) - 1))) &&& 1))
def F_M_isMatch (σ : Mem) (v1 : Int32) : Option (Int32) := some (((F_M_isIn σ v1 0 (((σ 334 4) - 1))) &&& 1))
def F_M_wedTo_2_b (σ : Mem) (v1 : Int32) (v2 : Int32) : Option ((Unit) ⊕ (Int32)) := obind (F_M_ofMatch σ v2 4) fun z2 => (if z2 = 1 then some (.inl (())) else obind (F_M_ofMatch σ v2 0) fun z4 => (if z4 = v1 then obind (F_M_ofMatch σ v2 1) fun z9 => some (.inr z9) else obind (F_M_ofMatch σ v2 1) fun z6 => (if z6 = v1 then obind (F_M_ofMatch σ v2 0) fun z8 => some (.inr z8) else some (.inl (())))))
def F_M_wedTo (σ : Mem) (v1 : Int32) : Option (Int32) := obind (forGO (fun i s => F_M_wedTo_2_b σ v1 i ) (cnt 0 ((σ 334 4))) 0 ()) fun z11 => sumE z11 (fun s12 => some ((-1))) (fun r13 => some r13)
def F_M_insurersOf_5_b (σ : Mem) (v1 : Int32) (v2 : Int32) (v4 : Int32) (v3 : Int32) : Option (Int32) := (if v4 = v1 then some (v3) else (if v4 = v2 then some (v3) else obind (F_M_of σ v4 3) fun z4 => (if z4 = 0 then obind (F_M_of σ v4 1) fun z6 => (if (F_M_isOf σ z6 v1) = 0 then obind (F_M_of σ v4 1) fun z9 => (if (F_M_isOf σ z9 v2) = 0 then some (v3) else bindT ((v3 ||| ((1 : Int32) <<< ((v4 : Int32) &&& 31)))) fun x11 => some (x11)) else bindT ((v3 ||| ((1 : Int32) <<< ((v4 : Int32) &&& 31)))) fun x8 => some (x8)) else some (v3))))
def F_M_insurersOf (σ : Mem) (v1 : Int32) (v2 : Int32) : Option (Int32) := obind (forSO (fun i s => F_M_insurersOf_5_b σ v1 v2 i s) (cnt 0 ((σ 334 3))) 0 0) fun z13 => (if (F_M_bits σ z13) < 2 then some 0 else some z13)
def F_M_insurers (σ : Mem) (v1 : Int32) : Option (Int32) := obind (F_M_ofMatch σ v1 4) fun z1 => (if z1 = 1 then some 0 else obind (F_M_ofMatch σ v1 0) fun z3 => obind (F_M_ofMatch σ v1 1) fun z4 => obind (F_M_insurersOf σ z3 z4) fun z5 => some z5)
def F_M_feed_23_b (v1 : Int32) (v2 : Int32) (v3 : Int32) (v4 : Int32) (v5 : Int32) (v6 : Int32) (σ : Mem) : Option (Mem) := (if v6 < 4 then bindT ((σ 333 8)) fun i24 => chk (inb i24 400) <| bindT (up σ 338 i24.toNatClampNeg ((((v1 : Int32).toUInt32 >>> (((24 - (8 * (v6 - v6 / 4 * 4))) : Int32).toUInt32 &&& Int32.toUInt32 31)).toInt32 &&& 255))) fun σ26 => bindT (up σ26 333 8 (((σ26 333 8) + 1))) fun σ27 => some (σ27) else (if v6 < 8 then bindT ((σ 333 8)) fun i20 => chk (inb i20 400) <| bindT (up σ 338 i20.toNatClampNeg ((((v2 : Int32).toUInt32 >>> (((24 - (8 * (v6 - v6 / 4 * 4))) : Int32).toUInt32 &&& Int32.toUInt32 31)).toInt32 &&& 255))) fun σ22 => bindT (up σ22 333 8 (((σ22 333 8) + 1))) fun σ23 => some (σ23) else (if v6 < 12 then bindT ((σ 333 8)) fun i16 => chk (inb i16 400) <| bindT (up σ 338 i16.toNatClampNeg ((((v3 : Int32).toUInt32 >>> (((24 - (8 * (v6 - v6 / 4 * 4))) : Int32).toUInt32 &&& Int32.toUInt32 31)).toInt32 &&& 255))) fun σ18 => bindT (up σ18 333 8 (((σ18 333 8) + 1))) fun σ19 => some (σ19) else (if v6 < 16 then bindT ((σ 333 8)) fun i12 => chk (inb i12 400) <| bindT (up σ 338 i12.toNatClampNeg ((((v4 : Int32).toUInt32 >>> (((24 - (8 * (v6 - v6 / 4 * 4))) : Int32).toUInt32 &&& Int32.toUInt32 31)).toInt32 &&& 255))) fun σ14 => bindT (up σ14 333 8 (((σ14 333 8) + 1))) fun σ15 => some (σ15) else bindT ((σ 333 8)) fun i8 => chk (inb i8 400) <| bindT (up σ 338 i8.toNatClampNeg ((((v5 : Int32).toUInt32 >>> (((24 - (8 * (v6 - v6 / 4 * 4))) : Int32).toUInt32 &&& Int32.toUInt32 31)).toInt32 &&& 255))) fun σ10 => bindT (up σ10 333 8 (((σ10 333 8) + 1))) fun σ11 => some (σ11)))))
def F_M_feed (σ : Mem) (v1 : Int32) (v2 : Int32) (v3 : Int32) (v4 : Int32) (v5 : Int32) : Option (Mem × Int32) := bindT (up σ 333 0 0) fun σ1 => (if 400 < ((σ1 333 8) + 20) then some ((σ1, (-1))) else obind (forSO (fun i s => F_M_feed_23_b v1 v2 v3 v4 v5 i s) (cnt 0 20) 0 σ1) fun z29 => some ((z29, (z29 333 8))))
def F_M_end (σ : Mem) (v1 : Int32) : Mem × Int32 := bindT (up σ 333 0 0) fun σ1 => (if (F_M_isIn σ1 v1 0 ((σ1 333 8))) = 0 then (σ1, 0) else bindT (up σ1 333 8 v1) fun σ3 => (σ3, 1))
def F_M_letter (σ : Mem) (v1 : Int32) : Option (Int32) := (if (σ 333 9) = (-1) then chk (inb v1 400) <| some ((σ 338 v1.toNatClampNeg)) else bindT (((σ 333 9) + v1)) fun i2 => chk (inb i2 850) <| some ((σ 334 i2.toNatClampNeg)))
def F_M_skip_0_b  (σ : Mem) : Option ((Mem) ⊕ (Mem)) := (if (σ 333 11) < (σ 333 10) then obind (F_M_letter σ ((σ 333 11))) fun z2 => (if z2 = 32 then bindT (up σ 333 11 (((σ 333 11) + 1))) fun σ4 => some (.inl σ4) else some (.inr σ)) else some (.inr σ))
def F_M_skip (σ : Mem)  : Option (Mem) := obind (whl (fun s => F_M_skip_0_b  s) FUEL σ) fun z5 => some z5
def F_M_isSign (σ : Mem) (v1 : Int32) : Option (Mem × Int32) := obind (F_M_skip σ) fun z1 => (if (z1 333 11) < (z1 333 10) then obind (F_M_letter z1 ((z1 333 11))) fun z3 => (if z3 = v1 then some ((z1, 1)) else some ((z1, 0))) else some ((z1, 0)))
def F_M_wrong (σ : Mem) (v1 : Int32) : Mem := (if (σ 333 12) = (-1) then bindT (up σ 333 12 v1) fun σ2 => σ2 else σ)
def F_M_place (σ : Mem)  : Option (Mem × Int32) := obind (F_M_skip σ) fun z1 => some ((z1, (z1 333 11)))
def F_M_figures_18_b (v1 : Int32) (v2 : Int32) (v3 : Int32) (v4 : Int32) (σ : Mem) : Option ((Int32 × Mem) ⊕ (Int32 × Mem)) := (if (σ 333 11) < (σ 333 10) then obind (F_M_letter σ ((σ 333 11))) fun z4 => (if (F_M_isIn σ z4 48 57) = 0 then some (.inr ((v4, σ))) else (if 3 < ((σ 333 11) - v3) then some (.inr ((v4, σ))) else obind (F_M_letter σ ((σ 333 11))) fun z7 => bindT ((((10 * v4) + z7) - 48)) fun x8 => bindT (up σ 333 11 (((σ 333 11) + 1))) fun σ9 => some (.inl ((x8, σ9))))) else some (.inr ((v4, σ))))
def F_M_figures (σ : Mem) (v1 : Int32) (v2 : Int32) : Option (Mem × Int32) := (if (σ 333 12) = (-1) then obind (F_M_place σ) fun z2 => obind (whl (fun s => F_M_figures_18_b v1 v2 z2.2 s.1 s.2) FUEL (0, z2.1)) fun z10 => (if (z10.2 333 11) = z2.2 then bindT (F_M_wrong z10.2 z2.2) fun z12 => some ((z12, z10.1)) else (if 3 < ((z10.2 333 11) - z2.2) then bindT (F_M_wrong z10.2 z2.2) fun z14 => some ((z14, z10.1)) else (if z10.1 < v1 then bindT (F_M_wrong z10.2 z2.2) fun z16 => some ((z16, z10.1)) else (if v2 < z10.1 then bindT (F_M_wrong z10.2 z2.2) fun z18 => some ((z18, z10.1)) else some ((z10.2, z10.1)))))) else some ((σ, 0)))
def F_M_who (σ : Mem)  : Option (Mem × Int32) := obind (F_M_figures σ 0 (((σ 334 3) - 1))) fun z1 => some ((z1.1, z1.2))
def F_M_other (σ : Mem) (v1 : Int32) : Option (Mem × Int32) := obind (F_M_place σ) fun z1 => obind (F_M_who z1.1) fun z2 => (if (z2.1 333 12) = (-1) then (if z2.2 = v1 then bindT (F_M_wrong z2.1 z1.2) fun z5 => some ((z5, z2.2)) else some ((z2.1, z2.2))) else some ((z2.1, z2.2)))
def F_M_likings_21_b (σ : Mem) (v1 : Int32) (v2 : Int32) (v3 : Int32) : Option ((Int32) ⊕ (Int32)) := (if ((σ 333 11) + v3) < (σ 333 10) then obind (F_M_letter σ (((σ 333 11) + v3))) fun z5 => (if (F_M_isIn σ z5 48 57) = 0 then some (.inr v3) else bindT (v3 + 1) fun x7 => some (.inl x7)) else some (.inr v3))
def F_M_likings_79_b (v1 : Int32) (v2 : Int32) (v3 : Int32) (v4 : Int32) (σ : Mem) : Option (Mem) := (if v4 = v1 then bindT (up σ 333 11 (((σ 333 11) + 1))) fun σ12 => some (σ12) else obind (F_M_letter σ ((σ 333 11))) fun z13 => bindT (((46 + (8 * v1)) + v4)) fun i14 => chk (inb i14 850) <| bindT (up σ 334 i14.toNatClampNeg ((z13 - 48))) fun σ16 => bindT (up σ16 333 11 (((σ16 333 11) + 1))) fun σ17 => some (σ17))
def F_M_likings (σ : Mem)  : Option (Mem) := obind (F_M_who σ) fun z1 => (if (z1.1 333 12) = (-1) then obind (F_M_place z1.1) fun z3 => obind (whl (fun s => F_M_likings_21_b z3.1 z1.2 z3.2 s) FUEL 0) fun z8 => (if z8 = (z3.1 334 3) then obind (forSO (fun i s => F_M_likings_79_b z1.2 z3.2 z8 i s) (cnt 0 z8) 0 z3.1) fun z19 => some z19 else bindT (F_M_wrong z3.1 z3.2) fun z20 => some z20) else some z1.1)
def F_M_free (σ : Mem) (v1 : Int32) (v2 : Int32) : Option (Mem) := (if (σ 333 12) = (-1) then obind (F_M_wedTo σ v1) fun z2 => (if z2 = (-1) then some σ else bindT (F_M_wrong σ v2) fun z4 => some z4) else some σ)
def F_M_comes (σ : Mem) (v1 : Int32) (v2 : Int32) (v3 : Int32) : Option (Mem) := bindT ((σ 334 4)) fun x1 => obind (F_M_told σ x1 0 v1) fun z2 => obind (F_M_told z2 x1 1 v2) fun z3 => obind (F_M_told z3 x1 2 v3) fun z4 => obind (F_M_told z4 x1 3 0) fun z5 => obind (F_M_told z5 x1 4 0) fun z6 => bindT (up z6 334 4 (((z6 334 4) + 1))) fun σ7 => some σ7
def F_M_personLine_72_b (v1 : Int32) (v2 : Int32) (v3 : Int32) (v4 : Int32) (σ : Mem) : Option (Mem) := bindT (((46 + (8 * v3)) + v4)) fun i10 => chk (inb i10 850) <| bindT (up σ 334 i10.toNatClampNeg 0) fun σ12 => bindT (((46 + (8 * v4)) + v3)) fun i13 => chk (inb i13 850) <| bindT (up σ12 334 i13.toNatClampNeg 0) fun σ15 => some (σ15)
def F_M_personLine (σ : Mem) (v1 : Int32) : Option (Mem) := (if (σ 334 3) = 8 then bindT (F_M_wrong σ v1) fun z19 => obind (F_M_figures z19 0 999) fun z20 => (if (z20.1 333 12) = (-1) then bindT ((z20.1 334 3)) fun x22 => obind (F_M_has z20.1 x22 0 z20.2) fun z23 => obind (F_M_has z23 x22 1 0) fun z24 => obind (F_M_has z24 x22 2 ((-1))) fun z25 => obind (F_M_has z25 x22 3 0) fun z26 => obind (forSO (fun i s => F_M_personLine_72_b v1 z20.2 x22 i s) (cnt 0 8) 0 z26) fun z27 => bindT (up z27 334 3 (((z27 334 3) + 1))) fun σ28 => some σ28 else some z20.1) else obind (F_M_figures σ 0 999) fun z2 => (if (z2.1 333 12) = (-1) then bindT ((z2.1 334 3)) fun x4 => obind (F_M_has z2.1 x4 0 z2.2) fun z5 => obind (F_M_has z5 x4 1 0) fun z6 => obind (F_M_has z6 x4 2 ((-1))) fun z7 => obind (F_M_has z7 x4 3 0) fun z8 => obind (forSO (fun i s => F_M_personLine_72_b v1 z2.2 x4 i s) (cnt 0 8) 0 z8) fun z17 => bindT (up z17 334 3 (((z17 334 3) + 1))) fun σ18 => some σ18 else some z2.1))
def F_M_tells (σ : Mem) (v1 : Int32) (v2 : Int32) : Option (Mem) := obind (F_M_figures σ 0 v2) fun z1 => (if (z1.1 333 12) = (-1) then chk (inb v1 850) <| bindT (up z1.1 334 v1.toNatClampNeg z1.2) fun σ4 => some σ4 else some z1.1)
def F_M_begins (σ : Mem)  : Mem := bindT (up σ 333 12 ((-1))) fun σ1 => bindT (up σ1 333 9 ((-1))) fun σ2 => bindT (up σ2 333 10 ((σ2 333 8))) fun σ3 => bindT (up σ3 333 8 0) fun σ4 => bindT (up σ4 333 11 0) fun σ5 => bindT (up σ5 333 13 0) fun σ6 => σ6
def F_M_putsAside_2_b  (v1 : Int32) (σ : Mem) : Option (Mem) := bindT (up σ 336 v1.toNatClampNeg ((σ 334 v1.toNatClampNeg))) fun σ2 => some (σ2)
def F_M_putsAside (σ : Mem)  : Option (Mem) := obind (forSO (fun i s => F_M_putsAside_2_b  i s) (cnt 0 450) 0 σ) fun z4 => some z4
def F_M_comesBack_2_b  (v1 : Int32) (σ : Mem) : Option (Mem) := bindT (up σ 334 v1.toNatClampNeg ((σ 336 v1.toNatClampNeg))) fun σ2 => some (σ2)
def F_M_comesBack (σ : Mem)  : Option (Mem) := obind (forSO (fun i s => F_M_comesBack_2_b  i s) (cnt 0 450) 0 σ) fun z4 => some z4
set_option maxRecDepth 20000 in
set_option maxHeartbeats 4000000 in
theorem C_M_thrown (hG : Gok l Γ D s0) (σ : Mem)   : CT l Γ D s0 yX12_thrown cX12_thrown 1 (some .int) (0) 0 0 (0) σ [.ref (Γ.1 + 333)] (PI (some (.int (F_M_thrown σ))) σ) := by
  generalize hF : F_M_thrown σ = out
  unfold F_M_thrown at hF
  refine e_met (own := RX12) hG (by decide +kernel) rfl rfl (Nat.le_of_ble_eq_true rfl) ?_
  intro p e s m args below meth c X hr
  show E p l e _ s m args below meth c Γ D 0 0 _ σ 0 [some (.ref (Γ.1 + 333))] []
  refine e_aload_n X dX12_thrown_0 rfl rfl ?_
  refine ge_M_thrown X wf_X12_51 dX12_thrown_1 ?_
  exact e_iret X hr dX12_thrown_4 (Nat.le_of_ble_eq_true rfl) (Nat.le_of_ble_eq_true rfl) (by cases hF; exact ⟨rfl, rfl⟩)
set_option maxRecDepth 20000 in
set_option maxHeartbeats 4000000 in
theorem C_M_isIn (hG : Gok l Γ D s0) (σ : Mem) (v0 : Int32) (v1 : Int32) (v2 : Int32)  : CT l Γ D s0 yX12_isIn cX12_isIn 3 (some .boolean) (0) 0 0 (0) σ [.int v0, .int v1, .int v2] (PI (some (.int (F_M_isIn σ v0 v1 v2))) σ) := by
  generalize hF : F_M_isIn σ v0 v1 v2 = out
  unfold F_M_isIn at hF
  refine e_met (own := RX12) hG (by decide +kernel) rfl rfl (Nat.le_of_ble_eq_true rfl) ?_
  intro p e s m args below meth c X hr
  show E p l e _ s m args below meth c Γ D 0 0 _ σ 0 [some (.int v0), some (.int v1), some (.int v2)] []
  refine e_iload_n X dX12_isIn_0 rfl rfl ?_
  refine e_iload_n X dX12_isIn_1 rfl rfl ?_
  refine e_icmp_lt X 14 dX12_isIn_2 (by decide) (fun c1 => ?_) (fun c1 => ?_)
  · skip
    rw [if_pos c1] at hF
    refine e_iconst X 0 dX12_isIn_14 rfl ?_
    exact e_zret X hr rfl dX12_isIn_15 (Nat.le_of_ble_eq_true rfl) (Nat.le_of_ble_eq_true rfl) (by cases hF; exact ⟨rfl, rfl⟩)
  · skip
    rw [if_neg c1] at hF
    refine e_iload_n X dX12_isIn_5 rfl rfl ?_
    refine e_iload_n X dX12_isIn_6 rfl rfl ?_
    refine e_icmp_gt X 14 dX12_isIn_7 (by decide) (fun c2 => ?_) (fun c2 => ?_)
    · skip
      rw [if_pos c2] at hF
      refine e_iconst X 0 dX12_isIn_14 rfl ?_
      exact e_zret X hr rfl dX12_isIn_15 (Nat.le_of_ble_eq_true rfl) (Nat.le_of_ble_eq_true rfl) (by cases hF; exact ⟨rfl, rfl⟩)
    · skip
      rw [if_neg c2] at hF
      refine e_iconst X 1 dX12_isIn_10 rfl ?_
      refine e_goto X 15 dX12_isIn_11 (by decide) ?_
      exact e_zret X hr rfl dX12_isIn_15 (Nat.le_of_ble_eq_true rfl) (Nat.le_of_ble_eq_true rfl) (by cases hF; exact ⟨rfl, rfl⟩)
set_option maxRecDepth 20000 in
set_option maxHeartbeats 4000000 in
theorem C_M_lesser (hG : Gok l Γ D s0) (σ : Mem) (v0 : Int32) (v1 : Int32)  : CT l Γ D s0 yX12_lesser cX12_lesser 2 (some .int) (0) 0 0 (0) σ [.int v0, .int v1] (PI (some (.int (F_M_lesser σ v0 v1))) σ) := by
  generalize hF : F_M_lesser σ v0 v1 = out
  unfold F_M_lesser at hF
  refine e_met (own := RX12) hG (by decide +kernel) rfl rfl (Nat.le_of_ble_eq_true rfl) ?_
  intro p e s m args below meth c X hr
  show E p l e _ s m args below meth c Γ D 0 0 _ σ 0 [some (.int v0), some (.int v1)] []
  refine e_iload_n X dX12_lesser_0 rfl rfl ?_
  refine e_iload_n X dX12_lesser_1 rfl rfl ?_
  refine e_icmp_ge X 9 dX12_lesser_2 (by decide) (fun c1 => ?_) (fun c1 => ?_)
  · skip
    rw [if_neg c1] at hF
    refine e_iload_n X dX12_lesser_9 rfl rfl ?_
    exact e_iret X hr dX12_lesser_10 (Nat.le_of_ble_eq_true rfl) (Nat.le_of_ble_eq_true rfl) (by cases hF; exact ⟨rfl, rfl⟩)
  · skip
    rw [if_pos c1] at hF
    refine e_iload_n X dX12_lesser_5 rfl rfl ?_
    refine e_goto X 10 dX12_lesser_6 (by decide) ?_
    exact e_iret X hr dX12_lesser_10 (Nat.le_of_ble_eq_true rfl) (Nat.le_of_ble_eq_true rfl) (by cases hF; exact ⟨rfl, rfl⟩)
set_option maxRecDepth 20000 in
set_option maxHeartbeats 4000000 in
theorem C_M_greater (hG : Gok l Γ D s0) (σ : Mem) (v0 : Int32) (v1 : Int32)  : CT l Γ D s0 yX12_greater cX12_greater 2 (some .int) (0) 0 0 (0) σ [.int v0, .int v1] (PI (some (.int (F_M_greater σ v0 v1))) σ) := by
  generalize hF : F_M_greater σ v0 v1 = out
  unfold F_M_greater at hF
  refine e_met (own := RX12) hG (by decide +kernel) rfl rfl (Nat.le_of_ble_eq_true rfl) ?_
  intro p e s m args below meth c X hr
  show E p l e _ s m args below meth c Γ D 0 0 _ σ 0 [some (.int v0), some (.int v1)] []
  refine e_iload_n X dX12_greater_0 rfl rfl ?_
  refine e_iload_n X dX12_greater_1 rfl rfl ?_
  refine e_icmp_le X 9 dX12_greater_2 (by decide) (fun c1 => ?_) (fun c1 => ?_)
  · skip
    rw [if_neg c1] at hF
    refine e_iload_n X dX12_greater_9 rfl rfl ?_
    exact e_iret X hr dX12_greater_10 (Nat.le_of_ble_eq_true rfl) (Nat.le_of_ble_eq_true rfl) (by cases hF; exact ⟨rfl, rfl⟩)
  · skip
    rw [if_pos c1] at hF
    refine e_iload_n X dX12_greater_5 rfl rfl ?_
    refine e_goto X 10 dX12_greater_6 (by decide) ?_
    exact e_iret X hr dX12_greater_10 (Nat.le_of_ble_eq_true rfl) (Nat.le_of_ble_eq_true rfl) (by cases hF; exact ⟨rfl, rfl⟩)
set_option maxRecDepth 20000 in
set_option maxHeartbeats 4000000 in
theorem C_M_isOf (hG : Gok l Γ D s0) (σ : Mem) (v0 : Int32) (v1 : Int32)  : CT l Γ D s0 yX12_isOf cX12_isOf 2 (some .boolean) (0) 0 0 (0) σ [.int v0, .int v1] (PI (some (.int (F_M_isOf σ v0 v1))) σ) := by
  generalize hF : F_M_isOf σ v0 v1 = out
  unfold F_M_isOf at hF
  refine e_met (own := RX12) hG (by decide +kernel) rfl rfl (Nat.le_of_ble_eq_true rfl) ?_
  intro p e s m args below meth c X hr
  show E p l e _ s m args below meth c Γ D 0 0 _ σ 0 [some (.int v0), some (.int v1)] []
  refine e_iload_n X dX12_isOf_0 rfl rfl ?_
  refine e_iload_n X dX12_isOf_1 rfl rfl ?_
  refine e_ishr X dX12_isOf_2 ?_
  refine e_iconst X 1 dX12_isOf_3 rfl ?_
  refine e_iand X dX12_isOf_4 ?_
  refine e_iconst X 1 dX12_isOf_5 rfl ?_
  refine e_icmp_ne X 13 dX12_isOf_6 (by decide) (fun c1 => ?_) (fun c1 => ?_)
  · skip
    rw [if_neg c1] at hF
    refine e_iconst X 0 dX12_isOf_13 rfl ?_
    exact e_zret X hr rfl dX12_isOf_14 (Nat.le_of_ble_eq_true rfl) (Nat.le_of_ble_eq_true rfl) (by cases hF; exact ⟨rfl, rfl⟩)
  · skip
    rw [if_pos c1] at hF
    refine e_iconst X 1 dX12_isOf_9 rfl ?_
    refine e_goto X 14 dX12_isOf_10 (by decide) ?_
    exact e_zret X hr rfl dX12_isOf_14 (Nat.le_of_ble_eq_true rfl) (Nat.le_of_ble_eq_true rfl) (by cases hF; exact ⟨rfl, rfl⟩)
set_option maxRecDepth 20000 in
set_option maxHeartbeats 4000000 in
theorem L_M_bits_4 (X : Cx p l s m args meth c Γ D s0 RX12 cX12_bits 3) (hr : meth.sig.returnType = (some .int)) (σ : Mem) (v0 : Int32)  : ∀ (n : Nat) (v2 : Int32) (v1 : Int32) {z : Int32}, forS (fun i s => F_M_bits_4_b σ v0 i s) n v2 v1 = z → n = cnt v2 31 → ¬ v2 < 0 → (E p l e ({ frames := 0, cells := 0, slots := 0, locals := 0 } : Room) s m args below meth c Γ D 0 0 (MQ below (QcA Γ D Pst) args s 0 0 (frB Γ)) σ 24 [some (.int v0), some (.int z), none] []) → E p l e ({ frames := 0, cells := 0, slots := 0, locals := 0 } : Room) s m args below meth c Γ D 0 0 (MQ below (QcA Γ D Pst) args s 0 0 (frB Γ)) σ 4 [some (.int v0), some (.int v1), some (.int v2)] [] := by
  intro n
  induction n with
  | zero =>
    intro v2 v1 z hF hn h0 hK
    refine e_iload_n X dX12_bits_4 rfl rfl ?_
    refine e_bipush X 31 dX12_bits_5 rfl ?_
    refine e_icmp_ge X 24 dX12_bits_7 (by decide) (fun c3 => ?_) (fun c3 => ?_)
    · skip
      have hz9 := hF; change (v1) = z at hz9; subst hz9
      exact e_le hK (And.intro rfl (And.intro rfl (trivial)))
    · skip
      exact absurd c3 (cnt0 hn)
  | succ n ih =>
    intro v2 v1 z hF hn h0 hK
    obtain ⟨y9, hB, hF⟩ := forS_step hF
    change F_M_bits_4_b σ v0 v2 v1 = y9 at hB
    unfold F_M_bits_4_b at hB
    refine e_iload_n X dX12_bits_4 rfl rfl ?_
    refine e_bipush X 31 dX12_bits_5 rfl ?_
    refine e_icmp_ge X 24 dX12_bits_7 (by decide) (fun c1 => ?_) (fun c1 => ?_)
    · skip
      exact absurd (cntS hn) c1
    · skip
      refine e_iload_n X dX12_bits_10 rfl rfl ?_
      refine e_iload_n X dX12_bits_11 rfl rfl ?_
      refine e_iload_n X dX12_bits_12 rfl rfl ?_
      refine e_ishr X dX12_bits_13 ?_
      refine e_iconst X 1 dX12_bits_14 rfl ?_
      refine e_iand X dX12_bits_15 ?_
      refine e_iadd X dX12_bits_16 ?_
      obtain ⟨x2, h_x2, hB⟩ := bindT_out hB
      refine e_istore_n X h_x2 dX12_bits_17 rfl (by decide) ?_
      refine e_iinc X 1 dX12_bits_18 rfl rfl (by decide) ?_
      refine e_goto X 4 dX12_bits_21 (by decide) ?_
      have hy9 := hB; change (x2) = y9 at hy9; subst hy9
      exact e_le (ih _ x2 hF (cntN hn) (nnN h0 (cnt_hi hn)) hK) (And.intro rfl (And.intro rfl (And.intro rfl (trivial))))
set_option maxRecDepth 20000 in
set_option maxHeartbeats 4000000 in
theorem C_M_bits (hG : Gok l Γ D s0) (σ : Mem) (v0 : Int32)  : CT l Γ D s0 yX12_bits cX12_bits 3 (some .int) (0) 0 0 (0) σ [.int v0] (PI (some (.int (F_M_bits σ v0))) σ) := by
  generalize hF : F_M_bits σ v0 = out
  unfold F_M_bits at hF
  refine e_met (own := RX12) hG (by decide +kernel) rfl rfl (Nat.le_of_ble_eq_true rfl) ?_
  intro p e s m args below meth c X hr
  show E p l e _ s m args below meth c Γ D 0 0 _ σ 0 [some (.int v0), none, none] []
  refine e_iconst X 0 dX12_bits_0 rfl ?_
  refine e_istore_n X rfl dX12_bits_1 rfl (by decide) ?_
  refine e_iconst X 0 dX12_bits_2 rfl ?_
  refine e_istore_n X rfl dX12_bits_3 rfl (by decide) ?_
  obtain ⟨z4, h_z4, hF⟩ := bindT_out hF
  refine e_le (L_M_bits_4 X hr σ v0 _ 0 0 h_z4.symm rfl (by decide) ?_) (And.intro rfl (And.intro rfl (And.intro rfl (trivial))))
  refine e_iload_n X dX12_bits_24 rfl rfl ?_
  exact e_iret X hr dX12_bits_25 (Nat.le_of_ble_eq_true rfl) (Nat.le_of_ble_eq_true rfl) (by cases hF; exact ⟨rfl, rfl⟩)
set_option maxRecDepth 20000 in
set_option maxHeartbeats 4000000 in
theorem C_M_of (hG : Gok l Γ D s0) (σ : Mem) (v1 : Int32) (v2 : Int32)  {out : Int32} (hF : F_M_of σ v1 v2 = some out) : CT l Γ D s0 yX12_of cX12_of 3 (some .int) (0) 0 0 (0) σ [.ref (Γ.1 + 333), .int v1, .int v2] (PI (some (.int out)) σ) := by
  unfold F_M_of at hF
  refine e_met (own := RX12) hG (by decide +kernel) rfl rfl (Nat.le_of_ble_eq_true rfl) ?_
  intro p e s m args below meth c X hr
  show E p l e _ s m args below meth c Γ D 0 0 _ σ 0 [some (.ref (Γ.1 + 333)), some (.int v1), some (.int v2)] []
  refine e_aload_n X dX12_of_0 rfl rfl ?_
  refine ge_M_m X wf_X12_7 dX12_of_1 ?_
  refine e_bipush X 14 dX12_of_4 rfl ?_
  refine e_iconst X 4 dX12_of_6 rfl ?_
  refine e_iload_n X dX12_of_7 rfl rfl ?_
  refine e_imul X dX12_of_8 ?_
  refine e_iadd X dX12_of_9 ?_
  refine e_iload_n X dX12_of_10 rfl rfl ?_
  refine e_iadd X dX12_of_11 ?_
  obtain ⟨i1, h_i1, hF⟩ := bindT_out hF
  obtain ⟨c2, hF⟩ := chk_out hF
  refine e_iald X (j := i1.toNatClampNeg) h_i1 rfl (inb_in c2) rfl dX12_of_12 ?_
  exact e_iret X hr dX12_of_13 (Nat.le_of_ble_eq_true rfl) (Nat.le_of_ble_eq_true rfl) (by cases hF; exact ⟨rfl, rfl⟩)
set_option maxRecDepth 20000 in
set_option maxHeartbeats 4000000 in
theorem C_M_has (hG : Gok l Γ D s0) (σ : Mem) (v1 : Int32) (v2 : Int32) (v3 : Int32)  {out : Mem} (hF : F_M_has σ v1 v2 v3 = some out) : CT l Γ D s0 yX12_has cX12_has 4 none (0) 0 0 (0) σ [.ref (Γ.1 + 333), .int v1, .int v2, .int v3] (PI none out) := by
  unfold F_M_has at hF
  refine e_met (own := RX12) hG (by decide +kernel) rfl rfl (Nat.le_of_ble_eq_true rfl) ?_
  intro p e s m args below meth c X hr
  show E p l e _ s m args below meth c Γ D 0 0 _ σ 0 [some (.ref (Γ.1 + 333)), some (.int v1), some (.int v2), some (.int v3)] []
  refine e_aload_n X dX12_has_0 rfl rfl ?_
  refine ge_M_m X wf_X12_7 dX12_has_1 ?_
  refine e_bipush X 14 dX12_has_4 rfl ?_
  refine e_iconst X 4 dX12_has_6 rfl ?_
  refine e_iload_n X dX12_has_7 rfl rfl ?_
  refine e_imul X dX12_has_8 ?_
  refine e_iadd X dX12_has_9 ?_
  refine e_iload_n X dX12_has_10 rfl rfl ?_
  refine e_iadd X dX12_has_11 ?_
  refine e_iload_n X dX12_has_12 rfl rfl ?_
  obtain ⟨i1, h_i1, hF⟩ := bindT_out hF
  obtain ⟨c2, hF⟩ := chk_out hF
  obtain ⟨σ3, h_σ3, hF⟩ := bindT_out hF
  refine e_iast X (j := i1.toNatClampNeg) h_i1 rfl (inb_in c2) rfl dX12_has_13 h_σ3 ?_
  exact e_vret X hr dX12_has_14 (Nat.le_of_ble_eq_true rfl) (Nat.le_of_ble_eq_true rfl) (by cases hF; exact ⟨rfl, rfl⟩)
set_option maxRecDepth 20000 in
set_option maxHeartbeats 4000000 in
theorem C_M_ofMatch (hG : Gok l Γ D s0) (σ : Mem) (v1 : Int32) (v2 : Int32)  {out : Int32} (hF : F_M_ofMatch σ v1 v2 = some out) : CT l Γ D s0 yX12_ofMatch cX12_ofMatch 3 (some .int) (0) 0 0 (0) σ [.ref (Γ.1 + 333), .int v1, .int v2] (PI (some (.int out)) σ) := by
  unfold F_M_ofMatch at hF
  refine e_met (own := RX12) hG (by decide +kernel) rfl rfl (Nat.le_of_ble_eq_true rfl) ?_
  intro p e s m args below meth c X hr
  show E p l e _ s m args below meth c Γ D 0 0 _ σ 0 [some (.ref (Γ.1 + 333)), some (.int v1), some (.int v2)] []
  refine e_aload_n X dX12_ofMatch_0 rfl rfl ?_
  refine ge_M_m X wf_X12_7 dX12_ofMatch_1 ?_
  refine e_bipush X 110 dX12_ofMatch_4 rfl ?_
  refine e_iconst X 5 dX12_ofMatch_6 rfl ?_
  refine e_iload_n X dX12_ofMatch_7 rfl rfl ?_
  refine e_imul X dX12_ofMatch_8 ?_
  refine e_iadd X dX12_ofMatch_9 ?_
  refine e_iload_n X dX12_ofMatch_10 rfl rfl ?_
  refine e_iadd X dX12_ofMatch_11 ?_
  obtain ⟨i1, h_i1, hF⟩ := bindT_out hF
  obtain ⟨c2, hF⟩ := chk_out hF
  refine e_iald X (j := i1.toNatClampNeg) h_i1 rfl (inb_in c2) rfl dX12_ofMatch_12 ?_
  exact e_iret X hr dX12_ofMatch_13 (Nat.le_of_ble_eq_true rfl) (Nat.le_of_ble_eq_true rfl) (by cases hF; exact ⟨rfl, rfl⟩)
set_option maxRecDepth 20000 in
set_option maxHeartbeats 4000000 in
theorem C_M_told (hG : Gok l Γ D s0) (σ : Mem) (v1 : Int32) (v2 : Int32) (v3 : Int32)  {out : Mem} (hF : F_M_told σ v1 v2 v3 = some out) : CT l Γ D s0 yX12_told cX12_told 4 none (0) 0 0 (0) σ [.ref (Γ.1 + 333), .int v1, .int v2, .int v3] (PI none out) := by
  unfold F_M_told at hF
  refine e_met (own := RX12) hG (by decide +kernel) rfl rfl (Nat.le_of_ble_eq_true rfl) ?_
  intro p e s m args below meth c X hr
  show E p l e _ s m args below meth c Γ D 0 0 _ σ 0 [some (.ref (Γ.1 + 333)), some (.int v1), some (.int v2), some (.int v3)] []
  refine e_aload_n X dX12_told_0 rfl rfl ?_
  refine ge_M_m X wf_X12_7 dX12_told_1 ?_
  refine e_bipush X 110 dX12_told_4 rfl ?_
  refine e_iconst X 5 dX12_told_6 rfl ?_
  refine e_iload_n X dX12_told_7 rfl rfl ?_
  refine e_imul X dX12_told_8 ?_
  refine e_iadd X dX12_told_9 ?_
  refine e_iload_n X dX12_told_10 rfl rfl ?_
  refine e_iadd X dX12_told_11 ?_
  refine e_iload_n X dX12_told_12 rfl rfl ?_
  obtain ⟨i1, h_i1, hF⟩ := bindT_out hF
  obtain ⟨c2, hF⟩ := chk_out hF
  obtain ⟨σ3, h_σ3, hF⟩ := bindT_out hF
  refine e_iast X (j := i1.toNatClampNeg) h_i1 rfl (inb_in c2) rfl dX12_told_13 h_σ3 ?_
  exact e_vret X hr dX12_told_14 (Nat.le_of_ble_eq_true rfl) (Nat.le_of_ble_eq_true rfl) (by cases hF; exact ⟨rfl, rfl⟩)
set_option maxRecDepth 20000 in
set_option maxHeartbeats 4000000 in
theorem C_M_likes (hG : Gok l Γ D s0) (σ : Mem) (v1 : Int32) (v2 : Int32)  {out : Int32} (hF : F_M_likes σ v1 v2 = some out) : CT l Γ D s0 yX12_likes cX12_likes 3 (some .int) (0) 0 0 (0) σ [.ref (Γ.1 + 333), .int v1, .int v2] (PI (some (.int out)) σ) := by
  unfold F_M_likes at hF
  refine e_met (own := RX12) hG (by decide +kernel) rfl rfl (Nat.le_of_ble_eq_true rfl) ?_
  intro p e s m args below meth c X hr
  show E p l e _ s m args below meth c Γ D 0 0 _ σ 0 [some (.ref (Γ.1 + 333)), some (.int v1), some (.int v2)] []
  refine e_aload_n X dX12_likes_0 rfl rfl ?_
  refine ge_M_m X wf_X12_7 dX12_likes_1 ?_
  refine e_bipush X 46 dX12_likes_4 rfl ?_
  refine e_bipush X 8 dX12_likes_6 rfl ?_
  refine e_iload_n X dX12_likes_8 rfl rfl ?_
  refine e_imul X dX12_likes_9 ?_
  refine e_iadd X dX12_likes_10 ?_
  refine e_iload_n X dX12_likes_11 rfl rfl ?_
  refine e_iadd X dX12_likes_12 ?_
  obtain ⟨i1, h_i1, hF⟩ := bindT_out hF
  obtain ⟨c2, hF⟩ := chk_out hF
  refine e_iald X (j := i1.toNatClampNeg) h_i1 rfl (inb_in c2) rfl dX12_likes_13 ?_
  exact e_iret X hr dX12_likes_14 (Nat.le_of_ble_eq_true rfl) (Nat.le_of_ble_eq_true rfl) (by cases hF; exact ⟨rfl, rfl⟩)
set_option maxRecDepth 20000 in
set_option maxHeartbeats 4000000 in
theorem C_M_isPerson (hG : Gok l Γ D s0) (σ : Mem) (v1 : Int32)  {out : Int32} (hF : F_M_isPerson σ v1 = some out) : CT l Γ D s0 yX12_isPerson cX12_isPerson 2 (some .boolean) (1) 0 0 (22) σ [.ref (Γ.1 + 333), .int v1] (PI (some (.int out)) σ) := by
  unfold F_M_isPerson at hF
  refine e_met (own := RX12) hG (by decide +kernel) rfl rfl (Nat.le_of_ble_eq_true rfl) ?_
  intro p e s m args below meth c X hr
  show E p l e _ s m args below meth c Γ D 0 0 _ σ 0 [some (.ref (Γ.1 + 333)), some (.int v1)] []
  refine e_iload_n X dX12_isPerson_0 rfl rfl ?_
  refine e_iconst X 0 dX12_isPerson_1 rfl ?_
  refine e_aload_n X dX12_isPerson_2 rfl rfl ?_
  refine ge_M_m X wf_X12_7 dX12_isPerson_3 ?_
  refine e_iconst X 3 dX12_isPerson_6 rfl ?_
  refine e_iald X (j := 3) rfl rfl (vp_in_iff.mpr (by decide)) rfl dX12_isPerson_7 ?_
  refine e_iconst X 1 dX12_isPerson_8 rfl ?_
  refine e_isub X dX12_isPerson_9 ?_
  refine e_callSi X (r := (F_M_isIn σ v1 0 (((σ 334 3) - 1)))) (σ1 := σ) [.int v1, .int 0, .int (((σ 334 3) - 1))] [] (C_M_isIn (Cx_gok X) σ v1 0 (((σ 334 3) - 1))) gs_X12_54 yk_X12_isIn rfl ⟨Nat.le_of_ble_eq_true rfl, Nat.le_of_ble_eq_true rfl⟩ ⟨Nat.le_of_ble_eq_true rfl, Nat.le_of_ble_eq_true rfl⟩ (Nat.le_of_ble_eq_true rfl) dX12_isPerson_10 rfl ?_
  exact e_zret X hr rfl dX12_isPerson_13 (Nat.le_of_ble_eq_true rfl) (Nat.le_of_ble_eq_true rfl) (by cases hF; exact ⟨rfl, rfl⟩)
set_option maxRecDepth 20000 in
set_option maxHeartbeats 4000000 in
theorem C_M_isMatch (hG : Gok l Γ D s0) (σ : Mem) (v1 : Int32)  {out : Int32} (hF : F_M_isMatch σ v1 = some out) : CT l Γ D s0 yX12_isMatch cX12_isMatch 2 (some .boolean) (1) 0 0 (22) σ [.ref (Γ.1 + 333), .int v1] (PI (some (.int out)) σ) := by
  unfold F_M_isMatch at hF
  refine e_met (own := RX12) hG (by decide +kernel) rfl rfl (Nat.le_of_ble_eq_true rfl) ?_
  intro p e s m args below meth c X hr
  show E p l e _ s m args below meth c Γ D 0 0 _ σ 0 [some (.ref (Γ.1 + 333)), some (.int v1)] []
  refine e_iload_n X dX12_isMatch_0 rfl rfl ?_
  refine e_iconst X 0 dX12_isMatch_1 rfl ?_
  refine e_aload_n X dX12_isMatch_2 rfl rfl ?_
  refine ge_M_m X wf_X12_7 dX12_isMatch_3 ?_
  refine e_iconst X 4 dX12_isMatch_6 rfl ?_
  refine e_iald X (j := 4) rfl rfl (vp_in_iff.mpr (by decide)) rfl dX12_isMatch_7 ?_
  refine e_iconst X 1 dX12_isMatch_8 rfl ?_
  refine e_isub X dX12_isMatch_9 ?_
  refine e_callSi X (r := (F_M_isIn σ v1 0 (((σ 334 4) - 1)))) (σ1 := σ) [.int v1, .int 0, .int (((σ 334 4) - 1))] [] (C_M_isIn (Cx_gok X) σ v1 0 (((σ 334 4) - 1))) gs_X12_54 yk_X12_isIn rfl ⟨Nat.le_of_ble_eq_true rfl, Nat.le_of_ble_eq_true rfl⟩ ⟨Nat.le_of_ble_eq_true rfl, Nat.le_of_ble_eq_true rfl⟩ (Nat.le_of_ble_eq_true rfl) dX12_isMatch_10 rfl ?_
  exact e_zret X hr rfl dX12_isMatch_13 (Nat.le_of_ble_eq_true rfl) (Nat.le_of_ble_eq_true rfl) (by cases hF; exact ⟨rfl, rfl⟩)
set_option maxRecDepth 20000 in
set_option maxHeartbeats 4000000 in
theorem L_M_wedTo_2 (X : Cx p l s m args meth c Γ D s0 RX12 cX12_wedTo 3) (hr : meth.sig.returnType = (some .int)) (σ : Mem) (v1 : Int32)  : ∀ (n : Nat) (v2 : Int32) {z : (Unit) ⊕ (Int32)}, forGO (fun i s => F_M_wedTo_2_b σ v1 i ) n v2 () = some z → n = cnt v2 ((σ 334 4)) → ¬ v2 < 0 → (sumP z (fun s9 => E p l e ({ frames := 1, cells := 0, slots := 0, locals := 22 } : Room) s m args below meth c Γ D 0 0 (MQ below (QcA Γ D Pst) args s 0 0 (frB Γ)) σ 65 [some (.ref (Γ.1 + 333)), some (.int v1), none] []) (fun r9 => Pst (some (.int r9)) σ)) → E p l e ({ frames := 1, cells := 0, slots := 0, locals := 22 } : Room) s m args below meth c Γ D 0 0 (MQ below (QcA Γ D Pst) args s 0 0 (frB Γ)) σ 2 [some (.ref (Γ.1 + 333)), some (.int v1), some (.int v2)] [] := by
  intro n
  induction n with
  | zero =>
    intro v2  z hF hn h0 hK
    refine e_iload_n X dX12_wedTo_2 rfl rfl ?_
    refine e_aload_n X dX12_wedTo_3 rfl rfl ?_
    refine ge_M_m X wf_X12_7 dX12_wedTo_4 ?_
    refine e_iconst X 4 dX12_wedTo_7 rfl ?_
    refine e_iald X (j := 4) rfl rfl (vp_in_iff.mpr (by decide)) rfl dX12_wedTo_8 ?_
    refine e_icmp_ge X 65 dX12_wedTo_9 (by decide) (fun c10 => ?_) (fun c10 => ?_)
    · skip
      have hz9 := Option.some.inj hF; change (.inl (())) = z at hz9; subst hz9
      exact e_le hK (And.intro rfl (And.intro rfl (trivial)))
    · skip
      exact absurd c10 (cnt0 hn)
  | succ n ih =>
    intro v2  z hF hn h0 hK
    obtain ⟨y9, hB, hF⟩ := forRO_step hF
    change F_M_wedTo_2_b σ v1 v2  = some y9 at hB
    unfold F_M_wedTo_2_b at hB
    refine e_iload_n X dX12_wedTo_2 rfl rfl ?_
    refine e_aload_n X dX12_wedTo_3 rfl rfl ?_
    refine ge_M_m X wf_X12_7 dX12_wedTo_4 ?_
    refine e_iconst X 4 dX12_wedTo_7 rfl ?_
    refine e_iald X (j := 4) rfl rfl (vp_in_iff.mpr (by decide)) rfl dX12_wedTo_8 ?_
    refine e_icmp_ge X 65 dX12_wedTo_9 (by decide) (fun c1 => ?_) (fun c1 => ?_)
    · skip
      exact absurd (cntS hn) c1
    · skip
      refine e_aload_n X dX12_wedTo_12 rfl rfl ?_
      refine e_iload_n X dX12_wedTo_13 rfl rfl ?_
      refine e_iconst X 4 dX12_wedTo_14 rfl ?_
      obtain ⟨z2, h_z2, hB⟩ := obind_out hB
      refine e_callVi X (r := z2) (σ1 := σ) [.int v2, .int 4] [] (C_M_ofMatch (Cx_gok X) σ v2 4 h_z2) gv_X12_58 yk_X12_ofMatch rfl (ent_lt (rfl : entTbl[333]? = some (13, 0))) (ent_at (rfl : entTbl[333]? = some (13, 0)) _) (rfl : vCl[11]? = some (RX12, TX12, 24)) ⟨Nat.le_of_ble_eq_true rfl, Nat.le_of_ble_eq_true rfl⟩ ⟨Nat.le_of_ble_eq_true rfl, Nat.le_of_ble_eq_true rfl⟩ (Nat.le_of_ble_eq_true rfl) dX12_wedTo_15 rfl ?_
      refine e_iconst X 1 dX12_wedTo_18 rfl ?_
      refine e_icmp_ne X 25 dX12_wedTo_19 (by decide) (fun c3 => ?_) (fun c3 => ?_)
      · skip
        rw [if_neg c3] at hB
        refine e_aload_n X dX12_wedTo_25 rfl rfl ?_
        refine e_iload_n X dX12_wedTo_26 rfl rfl ?_
        refine e_iconst X 0 dX12_wedTo_27 rfl ?_
        obtain ⟨z4, h_z4, hB⟩ := obind_out hB
        refine e_callVi X (r := z4) (σ1 := σ) [.int v2, .int 0] [] (C_M_ofMatch (Cx_gok X) σ v2 0 h_z4) gv_X12_58 yk_X12_ofMatch rfl (ent_lt (rfl : entTbl[333]? = some (13, 0))) (ent_at (rfl : entTbl[333]? = some (13, 0)) _) (rfl : vCl[11]? = some (RX12, TX12, 24)) ⟨Nat.le_of_ble_eq_true rfl, Nat.le_of_ble_eq_true rfl⟩ ⟨Nat.le_of_ble_eq_true rfl, Nat.le_of_ble_eq_true rfl⟩ (Nat.le_of_ble_eq_true rfl) dX12_wedTo_28 rfl ?_
        refine e_iload_n X dX12_wedTo_31 rfl rfl ?_
        refine e_icmp_ne X 42 dX12_wedTo_32 (by decide) (fun c5 => ?_) (fun c5 => ?_)
        · skip
          rw [if_neg c5] at hB
          refine e_aload_n X dX12_wedTo_42 rfl rfl ?_
          refine e_iload_n X dX12_wedTo_43 rfl rfl ?_
          refine e_iconst X 1 dX12_wedTo_44 rfl ?_
          obtain ⟨z6, h_z6, hB⟩ := obind_out hB
          refine e_callVi X (r := z6) (σ1 := σ) [.int v2, .int 1] [] (C_M_ofMatch (Cx_gok X) σ v2 1 h_z6) gv_X12_58 yk_X12_ofMatch rfl (ent_lt (rfl : entTbl[333]? = some (13, 0))) (ent_at (rfl : entTbl[333]? = some (13, 0)) _) (rfl : vCl[11]? = some (RX12, TX12, 24)) ⟨Nat.le_of_ble_eq_true rfl, Nat.le_of_ble_eq_true rfl⟩ ⟨Nat.le_of_ble_eq_true rfl, Nat.le_of_ble_eq_true rfl⟩ (Nat.le_of_ble_eq_true rfl) dX12_wedTo_45 rfl ?_
          refine e_iload_n X dX12_wedTo_48 rfl rfl ?_
          refine e_icmp_ne X 59 dX12_wedTo_49 (by decide) (fun c7 => ?_) (fun c7 => ?_)
          · skip
            rw [if_neg c7] at hB
            refine e_iinc X 1 dX12_wedTo_59 rfl rfl (by decide) ?_
            refine e_goto X 2 dX12_wedTo_62 (by decide) ?_
            have hy9 := Option.some.inj hB; change (.inl (())) = y9 at hy9; subst hy9
            exact e_le (ih _  hF (cntN hn) (nnN h0 (cnt_hi hn)) hK) (And.intro rfl (And.intro rfl (And.intro rfl (trivial))))
          · skip
            rw [if_pos c7] at hB
            refine e_aload_n X dX12_wedTo_52 rfl rfl ?_
            refine e_iload_n X dX12_wedTo_53 rfl rfl ?_
            refine e_iconst X 0 dX12_wedTo_54 rfl ?_
            obtain ⟨z8, h_z8, hB⟩ := obind_out hB
            refine e_callVi X (r := z8) (σ1 := σ) [.int v2, .int 0] [] (C_M_ofMatch (Cx_gok X) σ v2 0 h_z8) gv_X12_58 yk_X12_ofMatch rfl (ent_lt (rfl : entTbl[333]? = some (13, 0))) (ent_at (rfl : entTbl[333]? = some (13, 0)) _) (rfl : vCl[11]? = some (RX12, TX12, 24)) ⟨Nat.le_of_ble_eq_true rfl, Nat.le_of_ble_eq_true rfl⟩ ⟨Nat.le_of_ble_eq_true rfl, Nat.le_of_ble_eq_true rfl⟩ (Nat.le_of_ble_eq_true rfl) dX12_wedTo_55 rfl ?_
            have hy9 := Option.some.inj hB; change (.inr z8) = y9 at hy9; subst hy9
            have hz9 := Option.some.inj hF; change (.inr z8) = z at hz9; subst hz9
            exact e_iret X hr dX12_wedTo_58 (Nat.le_of_ble_eq_true rfl) (Nat.le_of_ble_eq_true rfl) hK
        · skip
          rw [if_pos c5] at hB
          refine e_aload_n X dX12_wedTo_35 rfl rfl ?_
          refine e_iload_n X dX12_wedTo_36 rfl rfl ?_
          refine e_iconst X 1 dX12_wedTo_37 rfl ?_
          obtain ⟨z9, h_z9, hB⟩ := obind_out hB
          refine e_callVi X (r := z9) (σ1 := σ) [.int v2, .int 1] [] (C_M_ofMatch (Cx_gok X) σ v2 1 h_z9) gv_X12_58 yk_X12_ofMatch rfl (ent_lt (rfl : entTbl[333]? = some (13, 0))) (ent_at (rfl : entTbl[333]? = some (13, 0)) _) (rfl : vCl[11]? = some (RX12, TX12, 24)) ⟨Nat.le_of_ble_eq_true rfl, Nat.le_of_ble_eq_true rfl⟩ ⟨Nat.le_of_ble_eq_true rfl, Nat.le_of_ble_eq_true rfl⟩ (Nat.le_of_ble_eq_true rfl) dX12_wedTo_38 rfl ?_
          have hy9 := Option.some.inj hB; change (.inr z9) = y9 at hy9; subst hy9
          have hz9 := Option.some.inj hF; change (.inr z9) = z at hz9; subst hz9
          exact e_iret X hr dX12_wedTo_41 (Nat.le_of_ble_eq_true rfl) (Nat.le_of_ble_eq_true rfl) hK
      · skip
        rw [if_pos c3] at hB
        refine e_goto X 59 dX12_wedTo_22 (by decide) ?_
        refine e_iinc X 1 dX12_wedTo_59 rfl rfl (by decide) ?_
        refine e_goto X 2 dX12_wedTo_62 (by decide) ?_
        have hy9 := Option.some.inj hB; change (.inl (())) = y9 at hy9; subst hy9
        exact e_le (ih _  hF (cntN hn) (nnN h0 (cnt_hi hn)) hK) (And.intro rfl (And.intro rfl (And.intro rfl (trivial))))
set_option maxRecDepth 20000 in
set_option maxHeartbeats 4000000 in
theorem C_M_wedTo (hG : Gok l Γ D s0) (σ : Mem) (v1 : Int32)  {out : Int32} (hF : F_M_wedTo σ v1 = some out) : CT l Γ D s0 yX12_wedTo cX12_wedTo 3 (some .int) (1) 0 0 (22) σ [.ref (Γ.1 + 333), .int v1] (PI (some (.int out)) σ) := by
  unfold F_M_wedTo at hF
  refine e_met (own := RX12) hG (by decide +kernel) rfl rfl (Nat.le_of_ble_eq_true rfl) ?_
  intro p e s m args below meth c X hr
  show E p l e _ s m args below meth c Γ D 0 0 _ σ 0 [some (.ref (Γ.1 + 333)), some (.int v1), none] []
  refine e_iconst X 0 dX12_wedTo_0 rfl ?_
  refine e_istore_n X rfl dX12_wedTo_1 rfl (by decide) ?_
  obtain ⟨z11, h_z11, hF⟩ := obind_out hF
  refine e_le (L_M_wedTo_2 X hr σ v1 _ 0  h_z11 rfl (by decide) ?_) (And.intro rfl (And.intro rfl (And.intro rfl (trivial))))
  cases z11 with
  | inl s12 =>
    replace hF := hF
    rw [sumE] at hF
    show E p l e _ s m args below meth c Γ D _ _ _ _ _ _ _
    refine e_iconst X (-1) dX12_wedTo_65 rfl ?_
    exact e_iret X hr dX12_wedTo_66 (Nat.le_of_ble_eq_true rfl) (Nat.le_of_ble_eq_true rfl) (by cases hF; exact ⟨rfl, rfl⟩)
  | inr r13 =>
    rw [sumE] at hF
    cases hF
    exact ⟨rfl, rfl⟩
set_option maxRecDepth 20000 in
set_option maxHeartbeats 4000000 in
theorem L_M_insurersOf_5 (X : Cx p l s m args meth c Γ D s0 RX12 cX12_insurersOf 5) (hr : meth.sig.returnType = (some .int)) (σ : Mem) (v1 : Int32) (v2 : Int32)  : ∀ (n : Nat) (v4 : Int32) (v3 : Int32) {z : Int32}, forSO (fun i s => F_M_insurersOf_5_b σ v1 v2 i s) n v4 v3 = some z → n = cnt v4 ((σ 334 3)) → ¬ v4 < 0 → (E p l e ({ frames := 1, cells := 0, slots := 0, locals := 22 } : Room) s m args below meth c Γ D 0 0 (MQ below (QcA Γ D Pst) args s 0 0 (frB Γ)) σ 79 [some (.ref (Γ.1 + 333)), some (.int v1), some (.int v2), some (.int z), none] []) → E p l e ({ frames := 1, cells := 0, slots := 0, locals := 22 } : Room) s m args below meth c Γ D 0 0 (MQ below (QcA Γ D Pst) args s 0 0 (frB Γ)) σ 5 [some (.ref (Γ.1 + 333)), some (.int v1), some (.int v2), some (.int v3), some (.int v4)] [] := by
  intro n
  induction n with
  | zero =>
    intro v4 v3 z hF hn h0 hK
    refine e_iload X dX12_insurersOf_5 rfl ?_
    refine e_aload_n X dX12_insurersOf_7 rfl rfl ?_
    refine ge_M_m X wf_X12_7 dX12_insurersOf_8 ?_
    refine e_iconst X 3 dX12_insurersOf_11 rfl ?_
    refine e_iald X (j := 3) rfl rfl (vp_in_iff.mpr (by decide)) rfl dX12_insurersOf_12 ?_
    refine e_icmp_ge X 79 dX12_insurersOf_13 (by decide) (fun c12 => ?_) (fun c12 => ?_)
    · skip
      have hz9 := Option.some.inj hF; change (v3) = z at hz9; subst hz9
      exact e_le hK (And.intro rfl (And.intro rfl (And.intro rfl (And.intro rfl (trivial)))))
    · skip
      exact absurd c12 (cnt0 hn)
  | succ n ih =>
    intro v4 v3 z hF hn h0 hK
    obtain ⟨y9, hB, hF⟩ := forSO_step hF
    change F_M_insurersOf_5_b σ v1 v2 v4 v3 = some y9 at hB
    unfold F_M_insurersOf_5_b at hB
    refine e_iload X dX12_insurersOf_5 rfl ?_
    refine e_aload_n X dX12_insurersOf_7 rfl rfl ?_
    refine ge_M_m X wf_X12_7 dX12_insurersOf_8 ?_
    refine e_iconst X 3 dX12_insurersOf_11 rfl ?_
    refine e_iald X (j := 3) rfl rfl (vp_in_iff.mpr (by decide)) rfl dX12_insurersOf_12 ?_
    refine e_icmp_ge X 79 dX12_insurersOf_13 (by decide) (fun c1 => ?_) (fun c1 => ?_)
    · skip
      exact absurd (cntS hn) c1
    · skip
      refine e_iload X dX12_insurersOf_16 rfl ?_
      refine e_iload_n X dX12_insurersOf_18 rfl rfl ?_
      refine e_icmp_eq X 73 dX12_insurersOf_19 (by decide) (fun c2 => ?_) (fun c2 => ?_)
      · skip
        rw [if_pos c2] at hB
        refine e_iinc X 1 dX12_insurersOf_73 rfl rfl (by decide) ?_
        refine e_goto X 5 dX12_insurersOf_76 (by decide) ?_
        have hy9 := Option.some.inj hB; change (v3) = y9 at hy9; subst hy9
        exact e_le (ih _ v3 hF (cntN hn) (nnN h0 (cnt_hi hn)) hK) (And.intro rfl (And.intro rfl (And.intro rfl (And.intro rfl (And.intro rfl (trivial))))))
      · skip
        rw [if_neg c2] at hB
        refine e_iload X dX12_insurersOf_22 rfl ?_
        refine e_iload_n X dX12_insurersOf_24 rfl rfl ?_
        refine e_icmp_eq X 73 dX12_insurersOf_25 (by decide) (fun c3 => ?_) (fun c3 => ?_)
        · skip
          rw [if_pos c3] at hB
          refine e_iinc X 1 dX12_insurersOf_73 rfl rfl (by decide) ?_
          refine e_goto X 5 dX12_insurersOf_76 (by decide) ?_
          have hy9 := Option.some.inj hB; change (v3) = y9 at hy9; subst hy9
          exact e_le (ih _ v3 hF (cntN hn) (nnN h0 (cnt_hi hn)) hK) (And.intro rfl (And.intro rfl (And.intro rfl (And.intro rfl (And.intro rfl (trivial))))))
        · skip
          rw [if_neg c3] at hB
          refine e_aload_n X dX12_insurersOf_28 rfl rfl ?_
          refine e_iload X dX12_insurersOf_29 rfl ?_
          refine e_iconst X 3 dX12_insurersOf_31 rfl ?_
          obtain ⟨z4, h_z4, hB⟩ := obind_out hB
          refine e_callVi X (r := z4) (σ1 := σ) [.int v4, .int 3] [] (C_M_of (Cx_gok X) σ v4 3 h_z4) gv_X12_62 yk_X12_of rfl (ent_lt (rfl : entTbl[333]? = some (13, 0))) (ent_at (rfl : entTbl[333]? = some (13, 0)) _) (rfl : vCl[11]? = some (RX12, TX12, 24)) ⟨Nat.le_of_ble_eq_true rfl, Nat.le_of_ble_eq_true rfl⟩ ⟨Nat.le_of_ble_eq_true rfl, Nat.le_of_ble_eq_true rfl⟩ (Nat.le_of_ble_eq_true rfl) dX12_insurersOf_32 rfl ?_
          refine e_if_ne X 73 dX12_insurersOf_35 (by decide) (fun c5 => ?_) (fun c5 => ?_)
          · skip
            rw [if_neg c5] at hB
            refine e_iinc X 1 dX12_insurersOf_73 rfl rfl (by decide) ?_
            refine e_goto X 5 dX12_insurersOf_76 (by decide) ?_
            have hy9 := Option.some.inj hB; change (v3) = y9 at hy9; subst hy9
            exact e_le (ih _ v3 hF (cntN hn) (nnN h0 (cnt_hi hn)) hK) (And.intro rfl (And.intro rfl (And.intro rfl (And.intro rfl (And.intro rfl (trivial))))))
          · skip
            rw [if_pos c5] at hB
            refine e_aload_n X dX12_insurersOf_38 rfl rfl ?_
            refine e_iload X dX12_insurersOf_39 rfl ?_
            refine e_iconst X 1 dX12_insurersOf_41 rfl ?_
            obtain ⟨z6, h_z6, hB⟩ := obind_out hB
            refine e_callVi X (r := z6) (σ1 := σ) [.int v4, .int 1] [] (C_M_of (Cx_gok X) σ v4 1 h_z6) gv_X12_62 yk_X12_of rfl (ent_lt (rfl : entTbl[333]? = some (13, 0))) (ent_at (rfl : entTbl[333]? = some (13, 0)) _) (rfl : vCl[11]? = some (RX12, TX12, 24)) ⟨Nat.le_of_ble_eq_true rfl, Nat.le_of_ble_eq_true rfl⟩ ⟨Nat.le_of_ble_eq_true rfl, Nat.le_of_ble_eq_true rfl⟩ (Nat.le_of_ble_eq_true rfl) dX12_insurersOf_42 rfl ?_
            refine e_iload_n X dX12_insurersOf_45 rfl rfl ?_
            refine e_callSi X (r := (F_M_isOf σ z6 v1)) (σ1 := σ) [.int z6, .int v1] [] (C_M_isOf (Cx_gok X) σ z6 v1) gs_X12_65 yk_X12_isOf rfl ⟨Nat.le_of_ble_eq_true rfl, Nat.le_of_ble_eq_true rfl⟩ ⟨Nat.le_of_ble_eq_true rfl, Nat.le_of_ble_eq_true rfl⟩ (Nat.le_of_ble_eq_true rfl) dX12_insurersOf_46 rfl ?_
            refine e_if_ne X 66 dX12_insurersOf_49 (by decide) (fun c7 => ?_) (fun c7 => ?_)
            · skip
              rw [if_neg c7] at hB
              refine e_iload_n X dX12_insurersOf_66 rfl rfl ?_
              refine e_iconst X 1 dX12_insurersOf_67 rfl ?_
              refine e_iload X dX12_insurersOf_68 rfl ?_
              refine e_ishl X dX12_insurersOf_70 ?_
              refine e_ior X dX12_insurersOf_71 ?_
              obtain ⟨x8, h_x8, hB⟩ := bindT_out hB
              refine e_istore_n X h_x8 dX12_insurersOf_72 rfl (by decide) ?_
              refine e_iinc X 1 dX12_insurersOf_73 rfl rfl (by decide) ?_
              refine e_goto X 5 dX12_insurersOf_76 (by decide) ?_
              have hy9 := Option.some.inj hB; change (x8) = y9 at hy9; subst hy9
              exact e_le (ih _ x8 hF (cntN hn) (nnN h0 (cnt_hi hn)) hK) (And.intro rfl (And.intro rfl (And.intro rfl (And.intro rfl (And.intro rfl (trivial))))))
            · skip
              rw [if_pos c7] at hB
              refine e_aload_n X dX12_insurersOf_52 rfl rfl ?_
              refine e_iload X dX12_insurersOf_53 rfl ?_
              refine e_iconst X 1 dX12_insurersOf_55 rfl ?_
              obtain ⟨z9, h_z9, hB⟩ := obind_out hB
              refine e_callVi X (r := z9) (σ1 := σ) [.int v4, .int 1] [] (C_M_of (Cx_gok X) σ v4 1 h_z9) gv_X12_62 yk_X12_of rfl (ent_lt (rfl : entTbl[333]? = some (13, 0))) (ent_at (rfl : entTbl[333]? = some (13, 0)) _) (rfl : vCl[11]? = some (RX12, TX12, 24)) ⟨Nat.le_of_ble_eq_true rfl, Nat.le_of_ble_eq_true rfl⟩ ⟨Nat.le_of_ble_eq_true rfl, Nat.le_of_ble_eq_true rfl⟩ (Nat.le_of_ble_eq_true rfl) dX12_insurersOf_56 rfl ?_
              refine e_iload_n X dX12_insurersOf_59 rfl rfl ?_
              refine e_callSi X (r := (F_M_isOf σ z9 v2)) (σ1 := σ) [.int z9, .int v2] [] (C_M_isOf (Cx_gok X) σ z9 v2) gs_X12_65 yk_X12_isOf rfl ⟨Nat.le_of_ble_eq_true rfl, Nat.le_of_ble_eq_true rfl⟩ ⟨Nat.le_of_ble_eq_true rfl, Nat.le_of_ble_eq_true rfl⟩ (Nat.le_of_ble_eq_true rfl) dX12_insurersOf_60 rfl ?_
              refine e_if_eq X 73 dX12_insurersOf_63 (by decide) (fun c10 => ?_) (fun c10 => ?_)
              · skip
                rw [if_pos c10] at hB
                refine e_iinc X 1 dX12_insurersOf_73 rfl rfl (by decide) ?_
                refine e_goto X 5 dX12_insurersOf_76 (by decide) ?_
                have hy9 := Option.some.inj hB; change (v3) = y9 at hy9; subst hy9
                exact e_le (ih _ v3 hF (cntN hn) (nnN h0 (cnt_hi hn)) hK) (And.intro rfl (And.intro rfl (And.intro rfl (And.intro rfl (And.intro rfl (trivial))))))
              · skip
                rw [if_neg c10] at hB
                refine e_iload_n X dX12_insurersOf_66 rfl rfl ?_
                refine e_iconst X 1 dX12_insurersOf_67 rfl ?_
                refine e_iload X dX12_insurersOf_68 rfl ?_
                refine e_ishl X dX12_insurersOf_70 ?_
                refine e_ior X dX12_insurersOf_71 ?_
                obtain ⟨x11, h_x11, hB⟩ := bindT_out hB
                refine e_istore_n X h_x11 dX12_insurersOf_72 rfl (by decide) ?_
                refine e_iinc X 1 dX12_insurersOf_73 rfl rfl (by decide) ?_
                refine e_goto X 5 dX12_insurersOf_76 (by decide) ?_
                have hy9 := Option.some.inj hB; change (x11) = y9 at hy9; subst hy9
                exact e_le (ih _ x11 hF (cntN hn) (nnN h0 (cnt_hi hn)) hK) (And.intro rfl (And.intro rfl (And.intro rfl (And.intro rfl (And.intro rfl (trivial))))))
set_option maxRecDepth 20000 in
set_option maxHeartbeats 4000000 in
theorem C_M_insurersOf (hG : Gok l Γ D s0) (σ : Mem) (v1 : Int32) (v2 : Int32)  {out : Int32} (hF : F_M_insurersOf σ v1 v2 = some out) : CT l Γ D s0 yX12_insurersOf cX12_insurersOf 5 (some .int) (1) 0 0 (22) σ [.ref (Γ.1 + 333), .int v1, .int v2] (PI (some (.int out)) σ) := by
  unfold F_M_insurersOf at hF
  refine e_met (own := RX12) hG (by decide +kernel) rfl rfl (Nat.le_of_ble_eq_true rfl) ?_
  intro p e s m args below meth c X hr
  show E p l e _ s m args below meth c Γ D 0 0 _ σ 0 [some (.ref (Γ.1 + 333)), some (.int v1), some (.int v2), none, none] []
  refine e_iconst X 0 dX12_insurersOf_0 rfl ?_
  refine e_istore_n X rfl dX12_insurersOf_1 rfl (by decide) ?_
  refine e_iconst X 0 dX12_insurersOf_2 rfl ?_
  refine e_istore X rfl dX12_insurersOf_3 (by decide) ?_
  obtain ⟨z13, h_z13, hF⟩ := obind_out hF
  refine e_le (L_M_insurersOf_5 X hr σ v1 v2 _ 0 0 h_z13 rfl (by decide) ?_) (And.intro rfl (And.intro rfl (And.intro rfl (And.intro rfl (And.intro rfl (trivial))))))
  refine e_iload_n X dX12_insurersOf_79 rfl rfl ?_
  refine e_callSi X (r := (F_M_bits σ z13)) (σ1 := σ) [.int z13] [] (C_M_bits (Cx_gok X) σ z13) gs_X12_69 yk_X12_bits rfl ⟨Nat.le_of_ble_eq_true rfl, Nat.le_of_ble_eq_true rfl⟩ ⟨Nat.le_of_ble_eq_true rfl, Nat.le_of_ble_eq_true rfl⟩ (Nat.le_of_ble_eq_true rfl) dX12_insurersOf_80 rfl ?_
  refine e_iconst X 2 dX12_insurersOf_83 rfl ?_
  refine e_icmp_ge X 91 dX12_insurersOf_84 (by decide) (fun c14 => ?_) (fun c14 => ?_)
  · skip
    rw [if_neg c14] at hF
    refine e_iload_n X dX12_insurersOf_91 rfl rfl ?_
    exact e_iret X hr dX12_insurersOf_92 (Nat.le_of_ble_eq_true rfl) (Nat.le_of_ble_eq_true rfl) (by cases hF; exact ⟨rfl, rfl⟩)
  · skip
    rw [if_pos c14] at hF
    refine e_iconst X 0 dX12_insurersOf_87 rfl ?_
    refine e_goto X 92 dX12_insurersOf_88 (by decide) ?_
    exact e_iret X hr dX12_insurersOf_92 (Nat.le_of_ble_eq_true rfl) (Nat.le_of_ble_eq_true rfl) (by cases hF; exact ⟨rfl, rfl⟩)
set_option maxRecDepth 20000 in
set_option maxHeartbeats 4000000 in
theorem C_M_insurers (hG : Gok l Γ D s0) (σ : Mem) (v1 : Int32)  {out : Int32} (hF : F_M_insurers σ v1 = some out) : CT l Γ D s0 yX12_insurers cX12_insurers 2 (some .int) (2) 0 0 (46) σ [.ref (Γ.1 + 333), .int v1] (PI (some (.int out)) σ) := by
  unfold F_M_insurers at hF
  refine e_met (own := RX12) hG (by decide +kernel) rfl rfl (Nat.le_of_ble_eq_true rfl) ?_
  intro p e s m args below meth c X hr
  show E p l e _ s m args below meth c Γ D 0 0 _ σ 0 [some (.ref (Γ.1 + 333)), some (.int v1)] []
  refine e_aload_n X dX12_insurers_0 rfl rfl ?_
  refine e_iload_n X dX12_insurers_1 rfl rfl ?_
  refine e_iconst X 4 dX12_insurers_2 rfl ?_
  obtain ⟨z1, h_z1, hF⟩ := obind_out hF
  refine e_callVi X (r := z1) (σ1 := σ) [.int v1, .int 4] [] (C_M_ofMatch (Cx_gok X) σ v1 4 h_z1) gv_X12_58 yk_X12_ofMatch rfl (ent_lt (rfl : entTbl[333]? = some (13, 0))) (ent_at (rfl : entTbl[333]? = some (13, 0)) _) (rfl : vCl[11]? = some (RX12, TX12, 24)) ⟨Nat.le_of_ble_eq_true rfl, Nat.le_of_ble_eq_true rfl⟩ ⟨Nat.le_of_ble_eq_true rfl, Nat.le_of_ble_eq_true rfl⟩ (Nat.le_of_ble_eq_true rfl) dX12_insurers_3 rfl ?_
  refine e_iconst X 1 dX12_insurers_6 rfl ?_
  refine e_icmp_ne X 14 dX12_insurers_7 (by decide) (fun c2 => ?_) (fun c2 => ?_)
  · skip
    rw [if_neg c2] at hF
    refine e_aload_n X dX12_insurers_14 rfl rfl ?_
    refine e_aload_n X dX12_insurers_15 rfl rfl ?_
    refine e_iload_n X dX12_insurers_16 rfl rfl ?_
    refine e_iconst X 0 dX12_insurers_17 rfl ?_
    obtain ⟨z3, h_z3, hF⟩ := obind_out hF
    refine e_callVi X (r := z3) (σ1 := σ) [.int v1, .int 0] [.ref (Γ.1 + 333)] (C_M_ofMatch (Cx_gok X) σ v1 0 h_z3) gv_X12_58 yk_X12_ofMatch rfl (ent_lt (rfl : entTbl[333]? = some (13, 0))) (ent_at (rfl : entTbl[333]? = some (13, 0)) _) (rfl : vCl[11]? = some (RX12, TX12, 24)) ⟨Nat.le_of_ble_eq_true rfl, Nat.le_of_ble_eq_true rfl⟩ ⟨Nat.le_of_ble_eq_true rfl, Nat.le_of_ble_eq_true rfl⟩ (Nat.le_of_ble_eq_true rfl) dX12_insurers_18 rfl ?_
    refine e_aload_n X dX12_insurers_21 rfl rfl ?_
    refine e_iload_n X dX12_insurers_22 rfl rfl ?_
    refine e_iconst X 1 dX12_insurers_23 rfl ?_
    obtain ⟨z4, h_z4, hF⟩ := obind_out hF
    refine e_callVi X (r := z4) (σ1 := σ) [.int v1, .int 1] [.int z3, .ref (Γ.1 + 333)] (C_M_ofMatch (Cx_gok X) σ v1 1 h_z4) gv_X12_58 yk_X12_ofMatch rfl (ent_lt (rfl : entTbl[333]? = some (13, 0))) (ent_at (rfl : entTbl[333]? = some (13, 0)) _) (rfl : vCl[11]? = some (RX12, TX12, 24)) ⟨Nat.le_of_ble_eq_true rfl, Nat.le_of_ble_eq_true rfl⟩ ⟨Nat.le_of_ble_eq_true rfl, Nat.le_of_ble_eq_true rfl⟩ (Nat.le_of_ble_eq_true rfl) dX12_insurers_24 rfl ?_
    obtain ⟨z5, h_z5, hF⟩ := obind_out hF
    refine e_callVi X (r := z5) (σ1 := σ) [.int z3, .int z4] [] (C_M_insurersOf (Cx_gok X) σ z3 z4 h_z5) gv_X12_73 yk_X12_insurersOf rfl (ent_lt (rfl : entTbl[333]? = some (13, 0))) (ent_at (rfl : entTbl[333]? = some (13, 0)) _) (rfl : vCl[11]? = some (RX12, TX12, 24)) ⟨Nat.le_of_ble_eq_true rfl, Nat.le_of_ble_eq_true rfl⟩ ⟨Nat.le_of_ble_eq_true rfl, Nat.le_of_ble_eq_true rfl⟩ (Nat.le_of_ble_eq_true rfl) dX12_insurers_27 rfl ?_
    exact e_iret X hr dX12_insurers_30 (Nat.le_of_ble_eq_true rfl) (Nat.le_of_ble_eq_true rfl) (by cases hF; exact ⟨rfl, rfl⟩)
  · skip
    rw [if_pos c2] at hF
    refine e_iconst X 0 dX12_insurers_10 rfl ?_
    refine e_goto X 30 dX12_insurers_11 (by decide) ?_
    exact e_iret X hr dX12_insurers_30 (Nat.le_of_ble_eq_true rfl) (Nat.le_of_ble_eq_true rfl) (by cases hF; exact ⟨rfl, rfl⟩)
set_option maxRecDepth 20000 in
set_option maxHeartbeats 4000000 in
theorem L_M_feed_23 (X : Cx p l s m args meth c Γ D s0 RX12 cX12_feed 8) (hr : meth.sig.returnType = (some .int)) (v1 : Int32) (v2 : Int32) (v3 : Int32) (v4 : Int32) (v5 : Int32)  : ∀ (n : Nat) (v6 : Int32) (σ : Mem) {z : Mem}, forSO (fun i s => F_M_feed_23_b v1 v2 v3 v4 v5 i s) n v6 σ = some z → n = cnt v6 20 → ¬ v6 < 0 → (E p l e ({ frames := 0, cells := 0, slots := 0, locals := 0 } : Room) s m args below meth c Γ D 0 0 (MQ below (QcA Γ D Pst) args s 0 0 (frB Γ)) z 120 [some (.ref (Γ.1 + 333)), some (.int v1), some (.int v2), some (.int v3), some (.int v4), some (.int v5), none, none] []) → E p l e ({ frames := 0, cells := 0, slots := 0, locals := 0 } : Room) s m args below meth c Γ D 0 0 (MQ below (QcA Γ D Pst) args s 0 0 (frB Γ)) σ 23 [some (.ref (Γ.1 + 333)), some (.int v1), some (.int v2), some (.int v3), some (.int v4), some (.int v5), some (.int v6), none] [] := by
  intro n
  induction n with
  | zero =>
    intro v6 σ z hF hn h0 hK
    refine e_iload X dX12_feed_23 rfl ?_
    refine e_bipush X 20 dX12_feed_25 rfl ?_
    refine e_icmp_ge X 120 dX12_feed_27 (by decide) (fun c28 => ?_) (fun c28 => ?_)
    · skip
      have hz9 := Option.some.inj hF; change (σ) = z at hz9; subst hz9
      exact e_le hK (And.intro rfl (And.intro rfl (And.intro rfl (And.intro rfl (And.intro rfl (And.intro rfl (trivial)))))))
    · skip
      exact absurd c28 (cnt0 hn)
  | succ n ih =>
    intro v6 σ z hF hn h0 hK
    obtain ⟨y9, hB, hF⟩ := forSO_step hF
    change F_M_feed_23_b v1 v2 v3 v4 v5 v6 σ = some y9 at hB
    unfold F_M_feed_23_b at hB
    refine e_iload X dX12_feed_23 rfl ?_
    refine e_bipush X 20 dX12_feed_25 rfl ?_
    refine e_icmp_ge X 120 dX12_feed_27 (by decide) (fun c3 => ?_) (fun c3 => ?_)
    · skip
      exact absurd (cntS hn) c3
    · skip
      refine e_iload X dX12_feed_30 rfl ?_
      refine e_iconst X 4 dX12_feed_32 rfl ?_
      refine e_icmp_ge X 40 dX12_feed_33 (by decide) (fun c4 => ?_) (fun c4 => ?_)
      · skip
        rw [if_neg c4] at hB
        refine e_iload X dX12_feed_40 rfl ?_
        refine e_bipush X 8 dX12_feed_42 rfl ?_
        refine e_icmp_ge X 51 dX12_feed_44 (by decide) (fun c5 => ?_) (fun c5 => ?_)
        · skip
          rw [if_neg c5] at hB
          refine e_iload X dX12_feed_51 rfl ?_
          refine e_bipush X 12 dX12_feed_53 rfl ?_
          refine e_icmp_ge X 62 dX12_feed_55 (by decide) (fun c6 => ?_) (fun c6 => ?_)
          · skip
            rw [if_neg c6] at hB
            refine e_iload X dX12_feed_62 rfl ?_
            refine e_bipush X 16 dX12_feed_64 rfl ?_
            refine e_icmp_ge X 74 dX12_feed_66 (by decide) (fun c7 => ?_) (fun c7 => ?_)
            · skip
              rw [if_neg c7] at hB
              refine e_iload X dX12_feed_74 rfl ?_
              refine e_istore X rfl dX12_feed_76 (by decide) ?_
              refine e_aload_n X dX12_feed_78 rfl rfl ?_
              refine ge_M_tape X wf_X12_22 dX12_feed_79 ?_
              refine e_aload_n X dX12_feed_82 rfl rfl ?_
              refine ge_M_taped X wf_X12_76 dX12_feed_83 ?_
              refine e_iload X dX12_feed_86 rfl ?_
              refine e_bipush X 24 dX12_feed_88 rfl ?_
              refine e_bipush X 8 dX12_feed_90 rfl ?_
              refine e_iload X dX12_feed_92 rfl ?_
              refine e_iconst X 4 dX12_feed_94 rfl ?_
              refine e_irem X dX12_feed_95 (by decide) ?_
              refine e_imul X dX12_feed_96 ?_
              refine e_isub X dX12_feed_97 ?_
              refine e_iushr X dX12_feed_98 ?_
              refine e_sipush X 255 dX12_feed_99 rfl ?_
              refine e_iand X dX12_feed_102 ?_
              obtain ⟨i8, h_i8, hB⟩ := bindT_out hB
              obtain ⟨c9, hB⟩ := chk_out hB
              obtain ⟨σ10, h_σ10, hB⟩ := bindT_out hB
              refine e_iast X (j := i8.toNatClampNeg) h_i8 rfl (inb_in c9) rfl dX12_feed_103 h_σ10 ?_
              refine e_aload_n X dX12_feed_104 rfl rfl ?_
              refine e_dup X dX12_feed_105 rfl ?_
              refine ge_M_taped X wf_X12_76 dX12_feed_106 ?_
              refine e_iconst X 1 dX12_feed_109 rfl ?_
              refine e_iadd X dX12_feed_110 ?_
              obtain ⟨σ11, h_σ11, hB⟩ := bindT_out hB
              refine pu_M_taped X wf_X12_76 dX12_feed_111 h_σ11 ?_
              refine e_iinc X 1 dX12_feed_114 rfl rfl (by decide) ?_
              refine e_goto X 23 dX12_feed_117 (by decide) ?_
              have hy9 := Option.some.inj hB; change (σ11) = y9 at hy9; subst hy9
              exact e_le (ih _ σ11 hF (cntN hn) (nnN h0 (cnt_hi hn)) hK) (And.intro rfl (And.intro rfl (And.intro rfl (And.intro rfl (And.intro rfl (And.intro rfl (And.intro rfl (trivial))))))))
            · skip
              rw [if_pos c7] at hB
              refine e_iload X dX12_feed_69 rfl ?_
              refine e_goto X 76 dX12_feed_71 (by decide) ?_
              refine e_istore X rfl dX12_feed_76 (by decide) ?_
              refine e_aload_n X dX12_feed_78 rfl rfl ?_
              refine ge_M_tape X wf_X12_22 dX12_feed_79 ?_
              refine e_aload_n X dX12_feed_82 rfl rfl ?_
              refine ge_M_taped X wf_X12_76 dX12_feed_83 ?_
              refine e_iload X dX12_feed_86 rfl ?_
              refine e_bipush X 24 dX12_feed_88 rfl ?_
              refine e_bipush X 8 dX12_feed_90 rfl ?_
              refine e_iload X dX12_feed_92 rfl ?_
              refine e_iconst X 4 dX12_feed_94 rfl ?_
              refine e_irem X dX12_feed_95 (by decide) ?_
              refine e_imul X dX12_feed_96 ?_
              refine e_isub X dX12_feed_97 ?_
              refine e_iushr X dX12_feed_98 ?_
              refine e_sipush X 255 dX12_feed_99 rfl ?_
              refine e_iand X dX12_feed_102 ?_
              obtain ⟨i12, h_i12, hB⟩ := bindT_out hB
              obtain ⟨c13, hB⟩ := chk_out hB
              obtain ⟨σ14, h_σ14, hB⟩ := bindT_out hB
              refine e_iast X (j := i12.toNatClampNeg) h_i12 rfl (inb_in c13) rfl dX12_feed_103 h_σ14 ?_
              refine e_aload_n X dX12_feed_104 rfl rfl ?_
              refine e_dup X dX12_feed_105 rfl ?_
              refine ge_M_taped X wf_X12_76 dX12_feed_106 ?_
              refine e_iconst X 1 dX12_feed_109 rfl ?_
              refine e_iadd X dX12_feed_110 ?_
              obtain ⟨σ15, h_σ15, hB⟩ := bindT_out hB
              refine pu_M_taped X wf_X12_76 dX12_feed_111 h_σ15 ?_
              refine e_iinc X 1 dX12_feed_114 rfl rfl (by decide) ?_
              refine e_goto X 23 dX12_feed_117 (by decide) ?_
              have hy9 := Option.some.inj hB; change (σ15) = y9 at hy9; subst hy9
              exact e_le (ih _ σ15 hF (cntN hn) (nnN h0 (cnt_hi hn)) hK) (And.intro rfl (And.intro rfl (And.intro rfl (And.intro rfl (And.intro rfl (And.intro rfl (And.intro rfl (trivial))))))))
          · skip
            rw [if_pos c6] at hB
            refine e_iload_n X dX12_feed_58 rfl rfl ?_
            refine e_goto X 76 dX12_feed_59 (by decide) ?_
            refine e_istore X rfl dX12_feed_76 (by decide) ?_
            refine e_aload_n X dX12_feed_78 rfl rfl ?_
            refine ge_M_tape X wf_X12_22 dX12_feed_79 ?_
            refine e_aload_n X dX12_feed_82 rfl rfl ?_
            refine ge_M_taped X wf_X12_76 dX12_feed_83 ?_
            refine e_iload X dX12_feed_86 rfl ?_
            refine e_bipush X 24 dX12_feed_88 rfl ?_
            refine e_bipush X 8 dX12_feed_90 rfl ?_
            refine e_iload X dX12_feed_92 rfl ?_
            refine e_iconst X 4 dX12_feed_94 rfl ?_
            refine e_irem X dX12_feed_95 (by decide) ?_
            refine e_imul X dX12_feed_96 ?_
            refine e_isub X dX12_feed_97 ?_
            refine e_iushr X dX12_feed_98 ?_
            refine e_sipush X 255 dX12_feed_99 rfl ?_
            refine e_iand X dX12_feed_102 ?_
            obtain ⟨i16, h_i16, hB⟩ := bindT_out hB
            obtain ⟨c17, hB⟩ := chk_out hB
            obtain ⟨σ18, h_σ18, hB⟩ := bindT_out hB
            refine e_iast X (j := i16.toNatClampNeg) h_i16 rfl (inb_in c17) rfl dX12_feed_103 h_σ18 ?_
            refine e_aload_n X dX12_feed_104 rfl rfl ?_
            refine e_dup X dX12_feed_105 rfl ?_
            refine ge_M_taped X wf_X12_76 dX12_feed_106 ?_
            refine e_iconst X 1 dX12_feed_109 rfl ?_
            refine e_iadd X dX12_feed_110 ?_
            obtain ⟨σ19, h_σ19, hB⟩ := bindT_out hB
            refine pu_M_taped X wf_X12_76 dX12_feed_111 h_σ19 ?_
            refine e_iinc X 1 dX12_feed_114 rfl rfl (by decide) ?_
            refine e_goto X 23 dX12_feed_117 (by decide) ?_
            have hy9 := Option.some.inj hB; change (σ19) = y9 at hy9; subst hy9
            exact e_le (ih _ σ19 hF (cntN hn) (nnN h0 (cnt_hi hn)) hK) (And.intro rfl (And.intro rfl (And.intro rfl (And.intro rfl (And.intro rfl (And.intro rfl (And.intro rfl (trivial))))))))
        · skip
          rw [if_pos c5] at hB
          refine e_iload_n X dX12_feed_47 rfl rfl ?_
          refine e_goto X 76 dX12_feed_48 (by decide) ?_
          refine e_istore X rfl dX12_feed_76 (by decide) ?_
          refine e_aload_n X dX12_feed_78 rfl rfl ?_
          refine ge_M_tape X wf_X12_22 dX12_feed_79 ?_
          refine e_aload_n X dX12_feed_82 rfl rfl ?_
          refine ge_M_taped X wf_X12_76 dX12_feed_83 ?_
          refine e_iload X dX12_feed_86 rfl ?_
          refine e_bipush X 24 dX12_feed_88 rfl ?_
          refine e_bipush X 8 dX12_feed_90 rfl ?_
          refine e_iload X dX12_feed_92 rfl ?_
          refine e_iconst X 4 dX12_feed_94 rfl ?_
          refine e_irem X dX12_feed_95 (by decide) ?_
          refine e_imul X dX12_feed_96 ?_
          refine e_isub X dX12_feed_97 ?_
          refine e_iushr X dX12_feed_98 ?_
          refine e_sipush X 255 dX12_feed_99 rfl ?_
          refine e_iand X dX12_feed_102 ?_
          obtain ⟨i20, h_i20, hB⟩ := bindT_out hB
          obtain ⟨c21, hB⟩ := chk_out hB
          obtain ⟨σ22, h_σ22, hB⟩ := bindT_out hB
          refine e_iast X (j := i20.toNatClampNeg) h_i20 rfl (inb_in c21) rfl dX12_feed_103 h_σ22 ?_
          refine e_aload_n X dX12_feed_104 rfl rfl ?_
          refine e_dup X dX12_feed_105 rfl ?_
          refine ge_M_taped X wf_X12_76 dX12_feed_106 ?_
          refine e_iconst X 1 dX12_feed_109 rfl ?_
          refine e_iadd X dX12_feed_110 ?_
          obtain ⟨σ23, h_σ23, hB⟩ := bindT_out hB
          refine pu_M_taped X wf_X12_76 dX12_feed_111 h_σ23 ?_
          refine e_iinc X 1 dX12_feed_114 rfl rfl (by decide) ?_
          refine e_goto X 23 dX12_feed_117 (by decide) ?_
          have hy9 := Option.some.inj hB; change (σ23) = y9 at hy9; subst hy9
          exact e_le (ih _ σ23 hF (cntN hn) (nnN h0 (cnt_hi hn)) hK) (And.intro rfl (And.intro rfl (And.intro rfl (And.intro rfl (And.intro rfl (And.intro rfl (And.intro rfl (trivial))))))))
      · skip
        rw [if_pos c4] at hB
        refine e_iload_n X dX12_feed_36 rfl rfl ?_
        refine e_goto X 76 dX12_feed_37 (by decide) ?_
        refine e_istore X rfl dX12_feed_76 (by decide) ?_
        refine e_aload_n X dX12_feed_78 rfl rfl ?_
        refine ge_M_tape X wf_X12_22 dX12_feed_79 ?_
        refine e_aload_n X dX12_feed_82 rfl rfl ?_
        refine ge_M_taped X wf_X12_76 dX12_feed_83 ?_
        refine e_iload X dX12_feed_86 rfl ?_
        refine e_bipush X 24 dX12_feed_88 rfl ?_
        refine e_bipush X 8 dX12_feed_90 rfl ?_
        refine e_iload X dX12_feed_92 rfl ?_
        refine e_iconst X 4 dX12_feed_94 rfl ?_
        refine e_irem X dX12_feed_95 (by decide) ?_
        refine e_imul X dX12_feed_96 ?_
        refine e_isub X dX12_feed_97 ?_
        refine e_iushr X dX12_feed_98 ?_
        refine e_sipush X 255 dX12_feed_99 rfl ?_
        refine e_iand X dX12_feed_102 ?_
        obtain ⟨i24, h_i24, hB⟩ := bindT_out hB
        obtain ⟨c25, hB⟩ := chk_out hB
        obtain ⟨σ26, h_σ26, hB⟩ := bindT_out hB
        refine e_iast X (j := i24.toNatClampNeg) h_i24 rfl (inb_in c25) rfl dX12_feed_103 h_σ26 ?_
        refine e_aload_n X dX12_feed_104 rfl rfl ?_
        refine e_dup X dX12_feed_105 rfl ?_
        refine ge_M_taped X wf_X12_76 dX12_feed_106 ?_
        refine e_iconst X 1 dX12_feed_109 rfl ?_
        refine e_iadd X dX12_feed_110 ?_
        obtain ⟨σ27, h_σ27, hB⟩ := bindT_out hB
        refine pu_M_taped X wf_X12_76 dX12_feed_111 h_σ27 ?_
        refine e_iinc X 1 dX12_feed_114 rfl rfl (by decide) ?_
        refine e_goto X 23 dX12_feed_117 (by decide) ?_
        have hy9 := Option.some.inj hB; change (σ27) = y9 at hy9; subst hy9
        exact e_le (ih _ σ27 hF (cntN hn) (nnN h0 (cnt_hi hn)) hK) (And.intro rfl (And.intro rfl (And.intro rfl (And.intro rfl (And.intro rfl (And.intro rfl (And.intro rfl (trivial))))))))
set_option maxRecDepth 20000 in
set_option maxHeartbeats 4000000 in
theorem C_M_feed (hG : Gok l Γ D s0) (σ : Mem) (v1 : Int32) (v2 : Int32) (v3 : Int32) (v4 : Int32) (v5 : Int32)  {out : Mem × Int32} (hF : F_M_feed σ v1 v2 v3 v4 v5 = some out) : CT l Γ D s0 yX12_feed cX12_feed 8 (some .int) (0) 0 0 (0) σ [.ref (Γ.1 + 333), .int v1, .int v2, .int v3, .int v4, .int v5] (PI (some (.int out.2)) out.1) := by
  unfold F_M_feed at hF
  refine e_met (own := RX12) hG (by decide +kernel) rfl rfl (Nat.le_of_ble_eq_true rfl) ?_
  intro p e s m args below meth c X hr
  show E p l e _ s m args below meth c Γ D 0 0 _ σ 0 [some (.ref (Γ.1 + 333)), some (.int v1), some (.int v2), some (.int v3), some (.int v4), some (.int v5), none, none] []
  refine e_aload_n X dX12_feed_0 rfl rfl ?_
  refine e_iconst X 0 dX12_feed_1 rfl ?_
  obtain ⟨σ1, h_σ1, hF⟩ := bindT_out hF
  refine pu_M_thrown X wf_X12_51 dX12_feed_2 h_σ1 ?_
  refine e_aload_n X dX12_feed_5 rfl rfl ?_
  refine ge_M_taped X wf_X12_76 dX12_feed_6 ?_
  refine e_bipush X 20 dX12_feed_9 rfl ?_
  refine e_iadd X dX12_feed_11 ?_
  refine e_sipush X 400 dX12_feed_12 rfl ?_
  refine e_icmp_le X 20 dX12_feed_15 (by decide) (fun c2 => ?_) (fun c2 => ?_)
  · skip
    rw [if_neg c2] at hF
    refine e_iconst X 0 dX12_feed_20 rfl ?_
    refine e_istore X rfl dX12_feed_21 (by decide) ?_
    obtain ⟨z29, h_z29, hF⟩ := obind_out hF
    refine e_le (L_M_feed_23 X hr v1 v2 v3 v4 v5 _ 0 σ1 h_z29 rfl (by decide) ?_) (And.intro rfl (And.intro rfl (And.intro rfl (And.intro rfl (And.intro rfl (And.intro rfl (And.intro rfl (trivial))))))))
    refine e_aload_n X dX12_feed_120 rfl rfl ?_
    refine ge_M_taped X wf_X12_76 dX12_feed_121 ?_
    exact e_iret X hr dX12_feed_124 (Nat.le_of_ble_eq_true rfl) (Nat.le_of_ble_eq_true rfl) (by cases hF; exact ⟨rfl, rfl⟩)
  · skip
    rw [if_pos c2] at hF
    refine e_iconst X (-1) dX12_feed_18 rfl ?_
    exact e_iret X hr dX12_feed_19 (Nat.le_of_ble_eq_true rfl) (Nat.le_of_ble_eq_true rfl) (by cases hF; exact ⟨rfl, rfl⟩)
set_option maxRecDepth 20000 in
set_option maxHeartbeats 4000000 in
theorem C_M_end (hG : Gok l Γ D s0) (σ : Mem) (v1 : Int32)  : CT l Γ D s0 yX12_end cX12_end 2 (some .boolean) (1) 0 0 (22) σ [.ref (Γ.1 + 333), .int v1] (PI (some (.int (F_M_end σ v1).2)) (F_M_end σ v1).1) := by
  generalize hF : F_M_end σ v1 = out
  unfold F_M_end at hF
  refine e_met (own := RX12) hG (by decide +kernel) rfl rfl (Nat.le_of_ble_eq_true rfl) ?_
  intro p e s m args below meth c X hr
  show E p l e _ s m args below meth c Γ D 0 0 _ σ 0 [some (.ref (Γ.1 + 333)), some (.int v1)] []
  refine e_aload_n X dX12_end_0 rfl rfl ?_
  refine e_iconst X 0 dX12_end_1 rfl ?_
  obtain ⟨σ1, h_σ1, hF⟩ := bindT_out hF
  refine pu_M_thrown X wf_X12_51 dX12_end_2 h_σ1 ?_
  refine e_iload_n X dX12_end_5 rfl rfl ?_
  refine e_iconst X 0 dX12_end_6 rfl ?_
  refine e_aload_n X dX12_end_7 rfl rfl ?_
  refine ge_M_taped X wf_X12_76 dX12_end_8 ?_
  refine e_callSi X (r := (F_M_isIn σ1 v1 0 ((σ1 333 8)))) (σ1 := σ1) [.int v1, .int 0, .int ((σ1 333 8))] [] (C_M_isIn (Cx_gok X) σ1 v1 0 ((σ1 333 8))) gs_X12_54 yk_X12_isIn rfl ⟨Nat.le_of_ble_eq_true rfl, Nat.le_of_ble_eq_true rfl⟩ ⟨Nat.le_of_ble_eq_true rfl, Nat.le_of_ble_eq_true rfl⟩ (Nat.le_of_ble_eq_true rfl) dX12_end_11 rfl ?_
  refine e_if_ne X 19 dX12_end_14 (by decide) (fun c2 => ?_) (fun c2 => ?_)
  · skip
    rw [if_neg c2] at hF
    refine e_aload_n X dX12_end_19 rfl rfl ?_
    refine e_iload_n X dX12_end_20 rfl rfl ?_
    obtain ⟨σ3, h_σ3, hF⟩ := bindT_out hF
    refine pu_M_taped X wf_X12_76 dX12_end_21 h_σ3 ?_
    refine e_iconst X 1 dX12_end_24 rfl ?_
    exact e_zret X hr rfl dX12_end_25 (Nat.le_of_ble_eq_true rfl) (Nat.le_of_ble_eq_true rfl) (by cases hF; exact ⟨rfl, rfl⟩)
  · skip
    rw [if_pos c2] at hF
    refine e_iconst X 0 dX12_end_17 rfl ?_
    exact e_zret X hr rfl dX12_end_18 (Nat.le_of_ble_eq_true rfl) (Nat.le_of_ble_eq_true rfl) (by cases hF; exact ⟨rfl, rfl⟩)
set_option maxRecDepth 20000 in
set_option maxHeartbeats 4000000 in
theorem C_M_letter (hG : Gok l Γ D s0) (σ : Mem) (v1 : Int32)  {out : Int32} (hF : F_M_letter σ v1 = some out) : CT l Γ D s0 yX12_letter cX12_letter 2 (some .int) (0) 0 0 (0) σ [.ref (Γ.1 + 333), .int v1] (PI (some (.int out)) σ) := by
  unfold F_M_letter at hF
  refine e_met (own := RX12) hG (by decide +kernel) rfl rfl (Nat.le_of_ble_eq_true rfl) ?_
  intro p e s m args below meth c X hr
  show E p l e _ s m args below meth c Γ D 0 0 _ σ 0 [some (.ref (Γ.1 + 333)), some (.int v1)] []
  refine e_aload_n X dX12_letter_0 rfl rfl ?_
  refine ge_M_base X wf_X12_79 dX12_letter_1 ?_
  refine e_iconst X (-1) dX12_letter_4 rfl ?_
  refine e_icmp_ne X 17 dX12_letter_5 (by decide) (fun c1 => ?_) (fun c1 => ?_)
  · skip
    rw [if_neg c1] at hF
    refine e_aload_n X dX12_letter_17 rfl rfl ?_
    refine ge_M_m X wf_X12_7 dX12_letter_18 ?_
    refine e_aload_n X dX12_letter_21 rfl rfl ?_
    refine ge_M_base X wf_X12_79 dX12_letter_22 ?_
    refine e_iload_n X dX12_letter_25 rfl rfl ?_
    refine e_iadd X dX12_letter_26 ?_
    obtain ⟨i2, h_i2, hF⟩ := bindT_out hF
    obtain ⟨c3, hF⟩ := chk_out hF
    refine e_iald X (j := i2.toNatClampNeg) h_i2 rfl (inb_in c3) rfl dX12_letter_27 ?_
    exact e_iret X hr dX12_letter_28 (Nat.le_of_ble_eq_true rfl) (Nat.le_of_ble_eq_true rfl) (by cases hF; exact ⟨rfl, rfl⟩)
  · skip
    rw [if_pos c1] at hF
    refine e_aload_n X dX12_letter_8 rfl rfl ?_
    refine ge_M_tape X wf_X12_22 dX12_letter_9 ?_
    refine e_iload_n X dX12_letter_12 rfl rfl ?_
    obtain ⟨c4, hF⟩ := chk_out hF
    refine e_iald X (j := v1.toNatClampNeg) rfl rfl (inb_in c4) rfl dX12_letter_13 ?_
    refine e_goto X 28 dX12_letter_14 (by decide) ?_
    exact e_iret X hr dX12_letter_28 (Nat.le_of_ble_eq_true rfl) (Nat.le_of_ble_eq_true rfl) (by cases hF; exact ⟨rfl, rfl⟩)
set_option maxRecDepth 20000 in
set_option maxHeartbeats 4000000 in
theorem L_M_skip_0 (X : Cx p l s m args meth c Γ D s0 RX12 cX12_skip 1) (hr : meth.sig.returnType = none)   : ∀ (n : Nat) (σ : Mem) {z : Mem}, whl (fun s => F_M_skip_0_b  s) n σ = some z → (E p l e ({ frames := 1, cells := 0, slots := 0, locals := 21 } : Room) s m args below meth c Γ D 0 0 (MQ below (QcA Γ D Pst) args s 0 0 (frB Γ)) z 37 [some (.ref (Γ.1 + 333))] []) → E p l e ({ frames := 1, cells := 0, slots := 0, locals := 21 } : Room) s m args below meth c Γ D 0 0 (MQ below (QcA Γ D Pst) args s 0 0 (frB Γ)) σ 0 [some (.ref (Γ.1 + 333))] [] := by
  intro n
  induction n with
  | zero =>
    intro σ z hF hK
    cases hF
  | succ n ih =>
    intro σ z hF hK
    obtain ⟨y9, hB, hF⟩ := whl_step hF
    change F_M_skip_0_b  σ = some y9 at hB
    unfold F_M_skip_0_b at hB
    refine e_aload_n X dX12_skip_0 rfl rfl ?_
    refine ge_M_at X wf_X12_82 dX12_skip_1 ?_
    refine e_aload_n X dX12_skip_4 rfl rfl ?_
    refine ge_M_end X wf_X12_85 dX12_skip_5 ?_
    refine e_icmp_ge X 37 dX12_skip_8 (by decide) (fun c1 => ?_) (fun c1 => ?_)
    · skip
      rw [if_neg c1] at hB
      have hy9 := Option.some.inj hB; change (.inr σ) = y9 at hy9; subst hy9
      have hz9 := Option.some.inj hF; change (σ) = z at hz9; subst hz9
      exact e_le hK (And.intro rfl (trivial))
    · skip
      rw [if_pos c1] at hB
      refine e_aload_n X dX12_skip_11 rfl rfl ?_
      refine e_aload_n X dX12_skip_12 rfl rfl ?_
      refine ge_M_at X wf_X12_82 dX12_skip_13 ?_
      obtain ⟨z2, h_z2, hB⟩ := obind_out hB
      refine e_callVi X (r := z2) (σ1 := σ) [.int ((σ 333 11))] [] (C_M_letter (Cx_gok X) σ ((σ 333 11)) h_z2) gv_X12_88 yk_X12_letter rfl (ent_lt (rfl : entTbl[333]? = some (13, 0))) (ent_at (rfl : entTbl[333]? = some (13, 0)) _) (rfl : vCl[11]? = some (RX12, TX12, 24)) ⟨Nat.le_of_ble_eq_true rfl, Nat.le_of_ble_eq_true rfl⟩ ⟨Nat.le_of_ble_eq_true rfl, Nat.le_of_ble_eq_true rfl⟩ (Nat.le_of_ble_eq_true rfl) dX12_skip_16 rfl ?_
      refine e_bipush X 32 dX12_skip_19 rfl ?_
      refine e_icmp_ne X 37 dX12_skip_21 (by decide) (fun c3 => ?_) (fun c3 => ?_)
      · skip
        rw [if_neg c3] at hB
        have hy9 := Option.some.inj hB; change (.inr σ) = y9 at hy9; subst hy9
        have hz9 := Option.some.inj hF; change (σ) = z at hz9; subst hz9
        exact e_le hK (And.intro rfl (trivial))
      · skip
        rw [if_pos c3] at hB
        refine e_aload_n X dX12_skip_24 rfl rfl ?_
        refine e_dup X dX12_skip_25 rfl ?_
        refine ge_M_at X wf_X12_82 dX12_skip_26 ?_
        refine e_iconst X 1 dX12_skip_29 rfl ?_
        refine e_iadd X dX12_skip_30 ?_
        obtain ⟨σ4, h_σ4, hB⟩ := bindT_out hB
        refine pu_M_at X wf_X12_82 dX12_skip_31 h_σ4 ?_
        refine e_goto X 0 dX12_skip_34 (by decide) ?_
        have hy9 := Option.some.inj hB; change (.inl σ4) = y9 at hy9; subst hy9
        exact e_le (ih σ4 hF hK) (And.intro rfl (trivial))
set_option maxRecDepth 20000 in
set_option maxHeartbeats 4000000 in
theorem C_M_skip (hG : Gok l Γ D s0) (σ : Mem)   {out : Mem} (hF : F_M_skip σ = some out) : CT l Γ D s0 yX12_skip cX12_skip 1 none (1) 0 0 (21) σ [.ref (Γ.1 + 333)] (PI none out) := by
  unfold F_M_skip at hF
  refine e_met (own := RX12) hG (by decide +kernel) rfl rfl (Nat.le_of_ble_eq_true rfl) ?_
  intro p e s m args below meth c X hr
  show E p l e _ s m args below meth c Γ D 0 0 _ σ 0 [some (.ref (Γ.1 + 333))] []
  obtain ⟨z5, h_z5, hF⟩ := obind_out hF
  refine e_le (L_M_skip_0 X hr _ σ h_z5 ?_) (And.intro rfl (trivial))
  exact e_vret X hr dX12_skip_37 (Nat.le_of_ble_eq_true rfl) (Nat.le_of_ble_eq_true rfl) (by cases hF; exact ⟨rfl, rfl⟩)
set_option maxRecDepth 20000 in
set_option maxHeartbeats 4000000 in
theorem C_M_isSign (hG : Gok l Γ D s0) (σ : Mem) (v1 : Int32)  {out : Mem × Int32} (hF : F_M_isSign σ v1 = some out) : CT l Γ D s0 yX12_isSign cX12_isSign 2 (some .boolean) (2) 0 0 (41) σ [.ref (Γ.1 + 333), .int v1] (PI (some (.int out.2)) out.1) := by
  unfold F_M_isSign at hF
  refine e_met (own := RX12) hG (by decide +kernel) rfl rfl (Nat.le_of_ble_eq_true rfl) ?_
  intro p e s m args below meth c X hr
  show E p l e _ s m args below meth c Γ D 0 0 _ σ 0 [some (.ref (Γ.1 + 333)), some (.int v1)] []
  refine e_aload_n X dX12_isSign_0 rfl rfl ?_
  obtain ⟨z1, h_z1, hF⟩ := obind_out hF
  refine e_callVv X (σ1 := z1) [] [] (C_M_skip (Cx_gok X) σ h_z1) gv_X12_91 yk_X12_skip rfl (ent_lt (rfl : entTbl[333]? = some (13, 0))) (ent_at (rfl : entTbl[333]? = some (13, 0)) _) (rfl : vCl[11]? = some (RX12, TX12, 24)) ⟨Nat.le_of_ble_eq_true rfl, Nat.le_of_ble_eq_true rfl⟩ ⟨Nat.le_of_ble_eq_true rfl, Nat.le_of_ble_eq_true rfl⟩ (Nat.le_of_ble_eq_true rfl) dX12_isSign_1 rfl ?_
  refine e_aload_n X dX12_isSign_4 rfl rfl ?_
  refine ge_M_at X wf_X12_82 dX12_isSign_5 ?_
  refine e_aload_n X dX12_isSign_8 rfl rfl ?_
  refine ge_M_end X wf_X12_85 dX12_isSign_9 ?_
  refine e_icmp_ge X 31 dX12_isSign_12 (by decide) (fun c2 => ?_) (fun c2 => ?_)
  · skip
    rw [if_neg c2] at hF
    refine e_iconst X 0 dX12_isSign_31 rfl ?_
    exact e_zret X hr rfl dX12_isSign_32 (Nat.le_of_ble_eq_true rfl) (Nat.le_of_ble_eq_true rfl) (by cases hF; exact ⟨rfl, rfl⟩)
  · skip
    rw [if_pos c2] at hF
    refine e_aload_n X dX12_isSign_15 rfl rfl ?_
    refine e_aload_n X dX12_isSign_16 rfl rfl ?_
    refine ge_M_at X wf_X12_82 dX12_isSign_17 ?_
    obtain ⟨z3, h_z3, hF⟩ := obind_out hF
    refine e_callVi X (r := z3) (σ1 := z1) [.int ((z1 333 11))] [] (C_M_letter (Cx_gok X) z1 ((z1 333 11)) h_z3) gv_X12_88 yk_X12_letter rfl (ent_lt (rfl : entTbl[333]? = some (13, 0))) (ent_at (rfl : entTbl[333]? = some (13, 0)) _) (rfl : vCl[11]? = some (RX12, TX12, 24)) ⟨Nat.le_of_ble_eq_true rfl, Nat.le_of_ble_eq_true rfl⟩ ⟨Nat.le_of_ble_eq_true rfl, Nat.le_of_ble_eq_true rfl⟩ (Nat.le_of_ble_eq_true rfl) dX12_isSign_20 rfl ?_
    refine e_iload_n X dX12_isSign_23 rfl rfl ?_
    refine e_icmp_ne X 31 dX12_isSign_24 (by decide) (fun c4 => ?_) (fun c4 => ?_)
    · skip
      rw [if_neg c4] at hF
      refine e_iconst X 0 dX12_isSign_31 rfl ?_
      exact e_zret X hr rfl dX12_isSign_32 (Nat.le_of_ble_eq_true rfl) (Nat.le_of_ble_eq_true rfl) (by cases hF; exact ⟨rfl, rfl⟩)
    · skip
      rw [if_pos c4] at hF
      refine e_iconst X 1 dX12_isSign_27 rfl ?_
      refine e_goto X 32 dX12_isSign_28 (by decide) ?_
      exact e_zret X hr rfl dX12_isSign_32 (Nat.le_of_ble_eq_true rfl) (Nat.le_of_ble_eq_true rfl) (by cases hF; exact ⟨rfl, rfl⟩)
set_option maxRecDepth 20000 in
set_option maxHeartbeats 4000000 in
theorem C_M_wrong (hG : Gok l Γ D s0) (σ : Mem) (v1 : Int32)  : CT l Γ D s0 yX12_wrong cX12_wrong 2 none (0) 0 0 (0) σ [.ref (Γ.1 + 333), .int v1] (PI none (F_M_wrong σ v1)) := by
  generalize hF : F_M_wrong σ v1 = out
  unfold F_M_wrong at hF
  refine e_met (own := RX12) hG (by decide +kernel) rfl rfl (Nat.le_of_ble_eq_true rfl) ?_
  intro p e s m args below meth c X hr
  show E p l e _ s m args below meth c Γ D 0 0 _ σ 0 [some (.ref (Γ.1 + 333)), some (.int v1)] []
  refine e_aload_n X dX12_wrong_0 rfl rfl ?_
  refine ge_M_fault X wf_X12_25 dX12_wrong_1 ?_
  refine e_iconst X (-1) dX12_wrong_4 rfl ?_
  refine e_icmp_ne X 13 dX12_wrong_5 (by decide) (fun c1 => ?_) (fun c1 => ?_)
  · skip
    rw [if_neg c1] at hF
    exact e_vret X hr dX12_wrong_13 (Nat.le_of_ble_eq_true rfl) (Nat.le_of_ble_eq_true rfl) (by cases hF; exact ⟨rfl, rfl⟩)
  · skip
    rw [if_pos c1] at hF
    refine e_aload_n X dX12_wrong_8 rfl rfl ?_
    refine e_iload_n X dX12_wrong_9 rfl rfl ?_
    obtain ⟨σ2, h_σ2, hF⟩ := bindT_out hF
    refine pu_M_fault X wf_X12_25 dX12_wrong_10 h_σ2 ?_
    exact e_vret X hr dX12_wrong_13 (Nat.le_of_ble_eq_true rfl) (Nat.le_of_ble_eq_true rfl) (by cases hF; exact ⟨rfl, rfl⟩)
set_option maxRecDepth 20000 in
set_option maxHeartbeats 4000000 in
theorem C_M_place (hG : Gok l Γ D s0) (σ : Mem)   {out : Mem × Int32} (hF : F_M_place σ = some out) : CT l Γ D s0 yX12_place cX12_place 1 (some .int) (2) 0 0 (41) σ [.ref (Γ.1 + 333)] (PI (some (.int out.2)) out.1) := by
  unfold F_M_place at hF
  refine e_met (own := RX12) hG (by decide +kernel) rfl rfl (Nat.le_of_ble_eq_true rfl) ?_
  intro p e s m args below meth c X hr
  show E p l e _ s m args below meth c Γ D 0 0 _ σ 0 [some (.ref (Γ.1 + 333))] []
  refine e_aload_n X dX12_place_0 rfl rfl ?_
  obtain ⟨z1, h_z1, hF⟩ := obind_out hF
  refine e_callVv X (σ1 := z1) [] [] (C_M_skip (Cx_gok X) σ h_z1) gv_X12_91 yk_X12_skip rfl (ent_lt (rfl : entTbl[333]? = some (13, 0))) (ent_at (rfl : entTbl[333]? = some (13, 0)) _) (rfl : vCl[11]? = some (RX12, TX12, 24)) ⟨Nat.le_of_ble_eq_true rfl, Nat.le_of_ble_eq_true rfl⟩ ⟨Nat.le_of_ble_eq_true rfl, Nat.le_of_ble_eq_true rfl⟩ (Nat.le_of_ble_eq_true rfl) dX12_place_1 rfl ?_
  refine e_aload_n X dX12_place_4 rfl rfl ?_
  refine ge_M_at X wf_X12_82 dX12_place_5 ?_
  exact e_iret X hr dX12_place_8 (Nat.le_of_ble_eq_true rfl) (Nat.le_of_ble_eq_true rfl) (by cases hF; exact ⟨rfl, rfl⟩)
set_option maxRecDepth 20000 in
set_option maxHeartbeats 4000000 in
theorem L_M_figures_18 (X : Cx p l s m args meth c Γ D s0 RX12 cX12_figures 5) (hr : meth.sig.returnType = (some .int)) (v1 : Int32) (v2 : Int32) (v3 : Int32)  : ∀ (n : Nat) (v4 : Int32) (σ : Mem) {z : Int32 × Mem}, whl (fun s => F_M_figures_18_b v1 v2 v3 s.1 s.2) n (v4, σ) = some z → (E p l e ({ frames := 3, cells := 0, slots := 0, locals := 61 } : Room) s m args below meth c Γ D 0 0 (MQ below (QcA Γ D Pst) args s 0 0 (frB Γ)) z.2 89 [some (.ref (Γ.1 + 333)), some (.int v1), some (.int v2), some (.int v3), some (.int z.1)] []) → E p l e ({ frames := 3, cells := 0, slots := 0, locals := 61 } : Room) s m args below meth c Γ D 0 0 (MQ below (QcA Γ D Pst) args s 0 0 (frB Γ)) σ 18 [some (.ref (Γ.1 + 333)), some (.int v1), some (.int v2), some (.int v3), some (.int v4)] [] := by
  intro n
  induction n with
  | zero =>
    intro v4 σ z hF hK
    cases hF
  | succ n ih =>
    intro v4 σ z hF hK
    obtain ⟨y9, hB, hF⟩ := whl_step hF
    change F_M_figures_18_b v1 v2 v3 v4 σ = some y9 at hB
    unfold F_M_figures_18_b at hB
    refine e_aload_n X dX12_figures_18 rfl rfl ?_
    refine ge_M_at X wf_X12_82 dX12_figures_19 ?_
    refine e_aload_n X dX12_figures_22 rfl rfl ?_
    refine ge_M_end X wf_X12_85 dX12_figures_23 ?_
    refine e_icmp_ge X 89 dX12_figures_26 (by decide) (fun c3 => ?_) (fun c3 => ?_)
    · skip
      rw [if_neg c3] at hB
      have hy9 := Option.some.inj hB; change (.inr ((v4, σ))) = y9 at hy9; subst hy9
      have hz9 := Option.some.inj hF; change ((v4, σ)) = z at hz9; subst hz9
      exact e_le hK (And.intro rfl (And.intro rfl (And.intro rfl (And.intro rfl (And.intro rfl (trivial))))))
    · skip
      rw [if_pos c3] at hB
      refine e_aload_n X dX12_figures_29 rfl rfl ?_
      refine e_aload_n X dX12_figures_30 rfl rfl ?_
      refine ge_M_at X wf_X12_82 dX12_figures_31 ?_
      obtain ⟨z4, h_z4, hB⟩ := obind_out hB
      refine e_callVi X (r := z4) (σ1 := σ) [.int ((σ 333 11))] [] (C_M_letter (Cx_gok X) σ ((σ 333 11)) h_z4) gv_X12_88 yk_X12_letter rfl (ent_lt (rfl : entTbl[333]? = some (13, 0))) (ent_at (rfl : entTbl[333]? = some (13, 0)) _) (rfl : vCl[11]? = some (RX12, TX12, 24)) ⟨Nat.le_of_ble_eq_true rfl, Nat.le_of_ble_eq_true rfl⟩ ⟨Nat.le_of_ble_eq_true rfl, Nat.le_of_ble_eq_true rfl⟩ (Nat.le_of_ble_eq_true rfl) dX12_figures_34 rfl ?_
      refine e_bipush X 48 dX12_figures_37 rfl ?_
      refine e_bipush X 57 dX12_figures_39 rfl ?_
      refine e_callSi X (r := (F_M_isIn σ z4 48 57)) (σ1 := σ) [.int z4, .int 48, .int 57] [] (C_M_isIn (Cx_gok X) σ z4 48 57) gs_X12_54 yk_X12_isIn rfl ⟨Nat.le_of_ble_eq_true rfl, Nat.le_of_ble_eq_true rfl⟩ ⟨Nat.le_of_ble_eq_true rfl, Nat.le_of_ble_eq_true rfl⟩ (Nat.le_of_ble_eq_true rfl) dX12_figures_41 rfl ?_
      refine e_if_eq X 89 dX12_figures_44 (by decide) (fun c5 => ?_) (fun c5 => ?_)
      · skip
        rw [if_pos c5] at hB
        have hy9 := Option.some.inj hB; change (.inr ((v4, σ))) = y9 at hy9; subst hy9
        have hz9 := Option.some.inj hF; change ((v4, σ)) = z at hz9; subst hz9
        exact e_le hK (And.intro rfl (And.intro rfl (And.intro rfl (And.intro rfl (And.intro rfl (trivial))))))
      · skip
        rw [if_neg c5] at hB
        refine e_aload_n X dX12_figures_47 rfl rfl ?_
        refine ge_M_at X wf_X12_82 dX12_figures_48 ?_
        refine e_iload_n X dX12_figures_51 rfl rfl ?_
        refine e_isub X dX12_figures_52 ?_
        refine e_iconst X 3 dX12_figures_53 rfl ?_
        refine e_icmp_gt X 89 dX12_figures_54 (by decide) (fun c6 => ?_) (fun c6 => ?_)
        · skip
          rw [if_pos c6] at hB
          have hy9 := Option.some.inj hB; change (.inr ((v4, σ))) = y9 at hy9; subst hy9
          have hz9 := Option.some.inj hF; change ((v4, σ)) = z at hz9; subst hz9
          exact e_le hK (And.intro rfl (And.intro rfl (And.intro rfl (And.intro rfl (And.intro rfl (trivial))))))
        · skip
          rw [if_neg c6] at hB
          refine e_bipush X 10 dX12_figures_57 rfl ?_
          refine e_iload X dX12_figures_59 rfl ?_
          refine e_imul X dX12_figures_61 ?_
          refine e_aload_n X dX12_figures_62 rfl rfl ?_
          refine e_aload_n X dX12_figures_63 rfl rfl ?_
          refine ge_M_at X wf_X12_82 dX12_figures_64 ?_
          obtain ⟨z7, h_z7, hB⟩ := obind_out hB
          refine e_callVi X (r := z7) (σ1 := σ) [.int ((σ 333 11))] [.int ((10 * v4))] (C_M_letter (Cx_gok X) σ ((σ 333 11)) h_z7) gv_X12_88 yk_X12_letter rfl (ent_lt (rfl : entTbl[333]? = some (13, 0))) (ent_at (rfl : entTbl[333]? = some (13, 0)) _) (rfl : vCl[11]? = some (RX12, TX12, 24)) ⟨Nat.le_of_ble_eq_true rfl, Nat.le_of_ble_eq_true rfl⟩ ⟨Nat.le_of_ble_eq_true rfl, Nat.le_of_ble_eq_true rfl⟩ (Nat.le_of_ble_eq_true rfl) dX12_figures_67 rfl ?_
          refine e_iadd X dX12_figures_70 ?_
          refine e_bipush X 48 dX12_figures_71 rfl ?_
          refine e_isub X dX12_figures_73 ?_
          obtain ⟨x8, h_x8, hB⟩ := bindT_out hB
          refine e_istore X h_x8 dX12_figures_74 (by decide) ?_
          refine e_aload_n X dX12_figures_76 rfl rfl ?_
          refine e_dup X dX12_figures_77 rfl ?_
          refine ge_M_at X wf_X12_82 dX12_figures_78 ?_
          refine e_iconst X 1 dX12_figures_81 rfl ?_
          refine e_iadd X dX12_figures_82 ?_
          obtain ⟨σ9, h_σ9, hB⟩ := bindT_out hB
          refine pu_M_at X wf_X12_82 dX12_figures_83 h_σ9 ?_
          refine e_goto X 18 dX12_figures_86 (by decide) ?_
          have hy9 := Option.some.inj hB; change (.inl ((x8, σ9))) = y9 at hy9; subst hy9
          exact e_le (ih x8 σ9 hF hK) (And.intro rfl (And.intro rfl (And.intro rfl (And.intro rfl (And.intro rfl (trivial))))))
set_option maxRecDepth 20000 in
set_option maxHeartbeats 4000000 in
theorem C_M_figures (hG : Gok l Γ D s0) (σ : Mem) (v1 : Int32) (v2 : Int32)  {out : Mem × Int32} (hF : F_M_figures σ v1 v2 = some out) : CT l Γ D s0 yX12_figures cX12_figures 5 (some .int) (3) 0 0 (61) σ [.ref (Γ.1 + 333), .int v1, .int v2] (PI (some (.int out.2)) out.1) := by
  unfold F_M_figures at hF
  refine e_met (own := RX12) hG (by decide +kernel) rfl rfl (Nat.le_of_ble_eq_true rfl) ?_
  intro p e s m args below meth c X hr
  show E p l e _ s m args below meth c Γ D 0 0 _ σ 0 [some (.ref (Γ.1 + 333)), some (.int v1), some (.int v2), none, none] []
  refine e_aload_n X dX12_figures_0 rfl rfl ?_
  refine ge_M_fault X wf_X12_25 dX12_figures_1 ?_
  refine e_iconst X (-1) dX12_figures_4 rfl ?_
  refine e_icmp_eq X 10 dX12_figures_5 (by decide) (fun c1 => ?_) (fun c1 => ?_)
  · skip
    rw [if_pos c1] at hF
    refine e_aload_n X dX12_figures_10 rfl rfl ?_
    obtain ⟨z2, h_z2, hF⟩ := obind_out hF
    refine e_callVi X (r := z2.2) (σ1 := z2.1) [] [] (C_M_place (Cx_gok X) σ h_z2) gv_X12_104 yk_X12_place rfl (ent_lt (rfl : entTbl[333]? = some (13, 0))) (ent_at (rfl : entTbl[333]? = some (13, 0)) _) (rfl : vCl[11]? = some (RX12, TX12, 24)) ⟨Nat.le_of_ble_eq_true rfl, Nat.le_of_ble_eq_true rfl⟩ ⟨Nat.le_of_ble_eq_true rfl, Nat.le_of_ble_eq_true rfl⟩ (Nat.le_of_ble_eq_true rfl) dX12_figures_11 rfl ?_
    refine e_istore_n X rfl dX12_figures_14 rfl (by decide) ?_
    refine e_iconst X 0 dX12_figures_15 rfl ?_
    refine e_istore X rfl dX12_figures_16 (by decide) ?_
    obtain ⟨z10, h_z10, hF⟩ := obind_out hF
    refine e_le (L_M_figures_18 X hr v1 v2 z2.2 _ 0 z2.1 h_z10 ?_) (And.intro rfl (And.intro rfl (And.intro rfl (And.intro rfl (And.intro rfl (trivial))))))
    refine e_aload_n X dX12_figures_89 rfl rfl ?_
    refine ge_M_at X wf_X12_82 dX12_figures_90 ?_
    refine e_iload_n X dX12_figures_93 rfl rfl ?_
    refine e_icmp_eq X 119 dX12_figures_94 (by decide) (fun c11 => ?_) (fun c11 => ?_)
    · skip
      rw [if_pos c11] at hF
      refine e_aload_n X dX12_figures_119 rfl rfl ?_
      refine e_iload_n X dX12_figures_120 rfl rfl ?_
      obtain ⟨z12, h_z12, hF⟩ := bindT_out hF
      refine e_callVv X (σ1 := z12) [.int z2.2] [] (by rw [h_z12]; exact C_M_wrong (Cx_gok X) z10.2 z2.2) gv_X12_107 yk_X12_wrong rfl (ent_lt (rfl : entTbl[333]? = some (13, 0))) (ent_at (rfl : entTbl[333]? = some (13, 0)) _) (rfl : vCl[11]? = some (RX12, TX12, 24)) ⟨Nat.le_of_ble_eq_true rfl, Nat.le_of_ble_eq_true rfl⟩ ⟨Nat.le_of_ble_eq_true rfl, Nat.le_of_ble_eq_true rfl⟩ (Nat.le_of_ble_eq_true rfl) dX12_figures_121 rfl ?_
      refine e_iload X dX12_figures_124 rfl ?_
      exact e_iret X hr dX12_figures_126 (Nat.le_of_ble_eq_true rfl) (Nat.le_of_ble_eq_true rfl) (by cases hF; exact ⟨rfl, rfl⟩)
    · skip
      rw [if_neg c11] at hF
      refine e_aload_n X dX12_figures_97 rfl rfl ?_
      refine ge_M_at X wf_X12_82 dX12_figures_98 ?_
      refine e_iload_n X dX12_figures_101 rfl rfl ?_
      refine e_isub X dX12_figures_102 ?_
      refine e_iconst X 3 dX12_figures_103 rfl ?_
      refine e_icmp_gt X 119 dX12_figures_104 (by decide) (fun c13 => ?_) (fun c13 => ?_)
      · skip
        rw [if_pos c13] at hF
        refine e_aload_n X dX12_figures_119 rfl rfl ?_
        refine e_iload_n X dX12_figures_120 rfl rfl ?_
        obtain ⟨z14, h_z14, hF⟩ := bindT_out hF
        refine e_callVv X (σ1 := z14) [.int z2.2] [] (by rw [h_z14]; exact C_M_wrong (Cx_gok X) z10.2 z2.2) gv_X12_107 yk_X12_wrong rfl (ent_lt (rfl : entTbl[333]? = some (13, 0))) (ent_at (rfl : entTbl[333]? = some (13, 0)) _) (rfl : vCl[11]? = some (RX12, TX12, 24)) ⟨Nat.le_of_ble_eq_true rfl, Nat.le_of_ble_eq_true rfl⟩ ⟨Nat.le_of_ble_eq_true rfl, Nat.le_of_ble_eq_true rfl⟩ (Nat.le_of_ble_eq_true rfl) dX12_figures_121 rfl ?_
        refine e_iload X dX12_figures_124 rfl ?_
        exact e_iret X hr dX12_figures_126 (Nat.le_of_ble_eq_true rfl) (Nat.le_of_ble_eq_true rfl) (by cases hF; exact ⟨rfl, rfl⟩)
      · skip
        rw [if_neg c13] at hF
        refine e_iload X dX12_figures_107 rfl ?_
        refine e_iload_n X dX12_figures_109 rfl rfl ?_
        refine e_icmp_lt X 119 dX12_figures_110 (by decide) (fun c15 => ?_) (fun c15 => ?_)
        · skip
          rw [if_pos c15] at hF
          refine e_aload_n X dX12_figures_119 rfl rfl ?_
          refine e_iload_n X dX12_figures_120 rfl rfl ?_
          obtain ⟨z16, h_z16, hF⟩ := bindT_out hF
          refine e_callVv X (σ1 := z16) [.int z2.2] [] (by rw [h_z16]; exact C_M_wrong (Cx_gok X) z10.2 z2.2) gv_X12_107 yk_X12_wrong rfl (ent_lt (rfl : entTbl[333]? = some (13, 0))) (ent_at (rfl : entTbl[333]? = some (13, 0)) _) (rfl : vCl[11]? = some (RX12, TX12, 24)) ⟨Nat.le_of_ble_eq_true rfl, Nat.le_of_ble_eq_true rfl⟩ ⟨Nat.le_of_ble_eq_true rfl, Nat.le_of_ble_eq_true rfl⟩ (Nat.le_of_ble_eq_true rfl) dX12_figures_121 rfl ?_
          refine e_iload X dX12_figures_124 rfl ?_
          exact e_iret X hr dX12_figures_126 (Nat.le_of_ble_eq_true rfl) (Nat.le_of_ble_eq_true rfl) (by cases hF; exact ⟨rfl, rfl⟩)
        · skip
          rw [if_neg c15] at hF
          refine e_iload X dX12_figures_113 rfl ?_
          refine e_iload_n X dX12_figures_115 rfl rfl ?_
          refine e_icmp_le X 124 dX12_figures_116 (by decide) (fun c17 => ?_) (fun c17 => ?_)
          · skip
            rw [if_neg c17] at hF
            refine e_iload X dX12_figures_124 rfl ?_
            exact e_iret X hr dX12_figures_126 (Nat.le_of_ble_eq_true rfl) (Nat.le_of_ble_eq_true rfl) (by cases hF; exact ⟨rfl, rfl⟩)
          · skip
            rw [if_pos c17] at hF
            refine e_aload_n X dX12_figures_119 rfl rfl ?_
            refine e_iload_n X dX12_figures_120 rfl rfl ?_
            obtain ⟨z18, h_z18, hF⟩ := bindT_out hF
            refine e_callVv X (σ1 := z18) [.int z2.2] [] (by rw [h_z18]; exact C_M_wrong (Cx_gok X) z10.2 z2.2) gv_X12_107 yk_X12_wrong rfl (ent_lt (rfl : entTbl[333]? = some (13, 0))) (ent_at (rfl : entTbl[333]? = some (13, 0)) _) (rfl : vCl[11]? = some (RX12, TX12, 24)) ⟨Nat.le_of_ble_eq_true rfl, Nat.le_of_ble_eq_true rfl⟩ ⟨Nat.le_of_ble_eq_true rfl, Nat.le_of_ble_eq_true rfl⟩ (Nat.le_of_ble_eq_true rfl) dX12_figures_121 rfl ?_
            refine e_iload X dX12_figures_124 rfl ?_
            exact e_iret X hr dX12_figures_126 (Nat.le_of_ble_eq_true rfl) (Nat.le_of_ble_eq_true rfl) (by cases hF; exact ⟨rfl, rfl⟩)
  · skip
    rw [if_neg c1] at hF
    refine e_iconst X 0 dX12_figures_8 rfl ?_
    exact e_iret X hr dX12_figures_9 (Nat.le_of_ble_eq_true rfl) (Nat.le_of_ble_eq_true rfl) (by cases hF; exact ⟨rfl, rfl⟩)
set_option maxRecDepth 20000 in
set_option maxHeartbeats 4000000 in
theorem C_M_who (hG : Gok l Γ D s0) (σ : Mem)   {out : Mem × Int32} (hF : F_M_who σ = some out) : CT l Γ D s0 yX12_who cX12_who 1 (some .int) (4) 0 0 (85) σ [.ref (Γ.1 + 333)] (PI (some (.int out.2)) out.1) := by
  unfold F_M_who at hF
  refine e_met (own := RX12) hG (by decide +kernel) rfl rfl (Nat.le_of_ble_eq_true rfl) ?_
  intro p e s m args below meth c X hr
  show E p l e _ s m args below meth c Γ D 0 0 _ σ 0 [some (.ref (Γ.1 + 333))] []
  refine e_aload_n X dX12_who_0 rfl rfl ?_
  refine e_iconst X 0 dX12_who_1 rfl ?_
  refine e_aload_n X dX12_who_2 rfl rfl ?_
  refine ge_M_m X wf_X12_7 dX12_who_3 ?_
  refine e_iconst X 3 dX12_who_6 rfl ?_
  refine e_iald X (j := 3) rfl rfl (vp_in_iff.mpr (by decide)) rfl dX12_who_7 ?_
  refine e_iconst X 1 dX12_who_8 rfl ?_
  refine e_isub X dX12_who_9 ?_
  obtain ⟨z1, h_z1, hF⟩ := obind_out hF
  refine e_callVi X (r := z1.2) (σ1 := z1.1) [.int 0, .int (((σ 334 3) - 1))] [] (C_M_figures (Cx_gok X) σ 0 (((σ 334 3) - 1)) h_z1) gv_X12_115 yk_X12_figures rfl (ent_lt (rfl : entTbl[333]? = some (13, 0))) (ent_at (rfl : entTbl[333]? = some (13, 0)) _) (rfl : vCl[11]? = some (RX12, TX12, 24)) ⟨Nat.le_of_ble_eq_true rfl, Nat.le_of_ble_eq_true rfl⟩ ⟨Nat.le_of_ble_eq_true rfl, Nat.le_of_ble_eq_true rfl⟩ (Nat.le_of_ble_eq_true rfl) dX12_who_10 rfl ?_
  exact e_iret X hr dX12_who_13 (Nat.le_of_ble_eq_true rfl) (Nat.le_of_ble_eq_true rfl) (by cases hF; exact ⟨rfl, rfl⟩)
set_option maxRecDepth 20000 in
set_option maxHeartbeats 4000000 in
theorem C_M_other (hG : Gok l Γ D s0) (σ : Mem) (v1 : Int32)  {out : Mem × Int32} (hF : F_M_other σ v1 = some out) : CT l Γ D s0 yX12_other cX12_other 4 (some .int) (5) 0 0 (105) σ [.ref (Γ.1 + 333), .int v1] (PI (some (.int out.2)) out.1) := by
  unfold F_M_other at hF
  refine e_met (own := RX12) hG (by decide +kernel) rfl rfl (Nat.le_of_ble_eq_true rfl) ?_
  intro p e s m args below meth c X hr
  show E p l e _ s m args below meth c Γ D 0 0 _ σ 0 [some (.ref (Γ.1 + 333)), some (.int v1), none, none] []
  refine e_aload_n X dX12_other_0 rfl rfl ?_
  obtain ⟨z1, h_z1, hF⟩ := obind_out hF
  refine e_callVi X (r := z1.2) (σ1 := z1.1) [] [] (C_M_place (Cx_gok X) σ h_z1) gv_X12_104 yk_X12_place rfl (ent_lt (rfl : entTbl[333]? = some (13, 0))) (ent_at (rfl : entTbl[333]? = some (13, 0)) _) (rfl : vCl[11]? = some (RX12, TX12, 24)) ⟨Nat.le_of_ble_eq_true rfl, Nat.le_of_ble_eq_true rfl⟩ ⟨Nat.le_of_ble_eq_true rfl, Nat.le_of_ble_eq_true rfl⟩ (Nat.le_of_ble_eq_true rfl) dX12_other_1 rfl ?_
  refine e_istore_n X rfl dX12_other_4 rfl (by decide) ?_
  refine e_aload_n X dX12_other_5 rfl rfl ?_
  obtain ⟨z2, h_z2, hF⟩ := obind_out hF
  refine e_callVi X (r := z2.2) (σ1 := z2.1) [] [] (C_M_who (Cx_gok X) z1.1 h_z2) gv_X12_118 yk_X12_who rfl (ent_lt (rfl : entTbl[333]? = some (13, 0))) (ent_at (rfl : entTbl[333]? = some (13, 0)) _) (rfl : vCl[11]? = some (RX12, TX12, 24)) ⟨Nat.le_of_ble_eq_true rfl, Nat.le_of_ble_eq_true rfl⟩ ⟨Nat.le_of_ble_eq_true rfl, Nat.le_of_ble_eq_true rfl⟩ (Nat.le_of_ble_eq_true rfl) dX12_other_6 rfl ?_
  refine e_istore_n X rfl dX12_other_9 rfl (by decide) ?_
  refine e_aload_n X dX12_other_10 rfl rfl ?_
  refine ge_M_fault X wf_X12_25 dX12_other_11 ?_
  refine e_iconst X (-1) dX12_other_14 rfl ?_
  refine e_icmp_ne X 28 dX12_other_15 (by decide) (fun c3 => ?_) (fun c3 => ?_)
  · skip
    rw [if_neg c3] at hF
    refine e_iload_n X dX12_other_28 rfl rfl ?_
    exact e_iret X hr dX12_other_29 (Nat.le_of_ble_eq_true rfl) (Nat.le_of_ble_eq_true rfl) (by cases hF; exact ⟨rfl, rfl⟩)
  · skip
    rw [if_pos c3] at hF
    refine e_iload_n X dX12_other_18 rfl rfl ?_
    refine e_iload_n X dX12_other_19 rfl rfl ?_
    refine e_icmp_ne X 28 dX12_other_20 (by decide) (fun c4 => ?_) (fun c4 => ?_)
    · skip
      rw [if_neg c4] at hF
      refine e_iload_n X dX12_other_28 rfl rfl ?_
      exact e_iret X hr dX12_other_29 (Nat.le_of_ble_eq_true rfl) (Nat.le_of_ble_eq_true rfl) (by cases hF; exact ⟨rfl, rfl⟩)
    · skip
      rw [if_pos c4] at hF
      refine e_aload_n X dX12_other_23 rfl rfl ?_
      refine e_iload_n X dX12_other_24 rfl rfl ?_
      obtain ⟨z5, h_z5, hF⟩ := bindT_out hF
      refine e_callVv X (σ1 := z5) [.int z1.2] [] (by rw [h_z5]; exact C_M_wrong (Cx_gok X) z2.1 z1.2) gv_X12_107 yk_X12_wrong rfl (ent_lt (rfl : entTbl[333]? = some (13, 0))) (ent_at (rfl : entTbl[333]? = some (13, 0)) _) (rfl : vCl[11]? = some (RX12, TX12, 24)) ⟨Nat.le_of_ble_eq_true rfl, Nat.le_of_ble_eq_true rfl⟩ ⟨Nat.le_of_ble_eq_true rfl, Nat.le_of_ble_eq_true rfl⟩ (Nat.le_of_ble_eq_true rfl) dX12_other_25 rfl ?_
      refine e_iload_n X dX12_other_28 rfl rfl ?_
      exact e_iret X hr dX12_other_29 (Nat.le_of_ble_eq_true rfl) (Nat.le_of_ble_eq_true rfl) (by cases hF; exact ⟨rfl, rfl⟩)
set_option maxRecDepth 20000 in
set_option maxHeartbeats 4000000 in
theorem L_M_likings_21 (X : Cx p l s m args meth c Γ D s0 RX12 cX12_likings 5) (hr : meth.sig.returnType = none) (σ : Mem) (v1 : Int32) (v2 : Int32)  : ∀ (n : Nat) (v3 : Int32) {z : Int32}, whl (fun s => F_M_likings_21_b σ v1 v2 s) n v3 = some z → (E p l e ({ frames := 5, cells := 0, slots := 0, locals := 105 } : Room) s m args below meth c Γ D 0 0 (MQ below (QcA Γ D Pst) args s 0 0 (frB Γ)) σ 60 [some (.ref (Γ.1 + 333)), some (.int v1), some (.int v2), some (.int z), none] []) → E p l e ({ frames := 5, cells := 0, slots := 0, locals := 105 } : Room) s m args below meth c Γ D 0 0 (MQ below (QcA Γ D Pst) args s 0 0 (frB Γ)) σ 21 [some (.ref (Γ.1 + 333)), some (.int v1), some (.int v2), some (.int v3), none] [] := by
  intro n
  induction n with
  | zero =>
    intro v3 z hF hK
    cases hF
  | succ n ih =>
    intro v3 z hF hK
    obtain ⟨y9, hB, hF⟩ := whl_step hF
    change F_M_likings_21_b σ v1 v2 v3 = some y9 at hB
    unfold F_M_likings_21_b at hB
    refine e_aload_n X dX12_likings_21 rfl rfl ?_
    refine ge_M_at X wf_X12_82 dX12_likings_22 ?_
    refine e_iload_n X dX12_likings_25 rfl rfl ?_
    refine e_iadd X dX12_likings_26 ?_
    refine e_aload_n X dX12_likings_27 rfl rfl ?_
    refine ge_M_end X wf_X12_85 dX12_likings_28 ?_
    refine e_icmp_ge X 60 dX12_likings_31 (by decide) (fun c4 => ?_) (fun c4 => ?_)
    · skip
      rw [if_neg c4] at hB
      have hy9 := Option.some.inj hB; change (.inr v3) = y9 at hy9; subst hy9
      have hz9 := Option.some.inj hF; change (v3) = z at hz9; subst hz9
      exact e_le hK (And.intro rfl (And.intro rfl (And.intro rfl (And.intro rfl (trivial)))))
    · skip
      rw [if_pos c4] at hB
      refine e_aload_n X dX12_likings_34 rfl rfl ?_
      refine e_aload_n X dX12_likings_35 rfl rfl ?_
      refine ge_M_at X wf_X12_82 dX12_likings_36 ?_
      refine e_iload_n X dX12_likings_39 rfl rfl ?_
      refine e_iadd X dX12_likings_40 ?_
      obtain ⟨z5, h_z5, hB⟩ := obind_out hB
      refine e_callVi X (r := z5) (σ1 := σ) [.int (((σ 333 11) + v3))] [] (C_M_letter (Cx_gok X) σ (((σ 333 11) + v3)) h_z5) gv_X12_88 yk_X12_letter rfl (ent_lt (rfl : entTbl[333]? = some (13, 0))) (ent_at (rfl : entTbl[333]? = some (13, 0)) _) (rfl : vCl[11]? = some (RX12, TX12, 24)) ⟨Nat.le_of_ble_eq_true rfl, Nat.le_of_ble_eq_true rfl⟩ ⟨Nat.le_of_ble_eq_true rfl, Nat.le_of_ble_eq_true rfl⟩ (Nat.le_of_ble_eq_true rfl) dX12_likings_41 rfl ?_
      refine e_bipush X 48 dX12_likings_44 rfl ?_
      refine e_bipush X 57 dX12_likings_46 rfl ?_
      refine e_callSi X (r := (F_M_isIn σ z5 48 57)) (σ1 := σ) [.int z5, .int 48, .int 57] [] (C_M_isIn (Cx_gok X) σ z5 48 57) gs_X12_54 yk_X12_isIn rfl ⟨Nat.le_of_ble_eq_true rfl, Nat.le_of_ble_eq_true rfl⟩ ⟨Nat.le_of_ble_eq_true rfl, Nat.le_of_ble_eq_true rfl⟩ (Nat.le_of_ble_eq_true rfl) dX12_likings_48 rfl ?_
      refine e_if_eq X 60 dX12_likings_51 (by decide) (fun c6 => ?_) (fun c6 => ?_)
      · skip
        rw [if_pos c6] at hB
        have hy9 := Option.some.inj hB; change (.inr v3) = y9 at hy9; subst hy9
        have hz9 := Option.some.inj hF; change (v3) = z at hz9; subst hz9
        exact e_le hK (And.intro rfl (And.intro rfl (And.intro rfl (And.intro rfl (trivial)))))
      · skip
        rw [if_neg c6] at hB
        refine e_iinc X 1 dX12_likings_54 rfl rfl (by decide) ?_
        obtain ⟨x7, h_x7, hB⟩ := bindT_out hB
        rw [← h_x7]
        refine e_goto X 21 dX12_likings_57 (by decide) ?_
        have hy9 := Option.some.inj hB; change (.inl x7) = y9 at hy9; subst hy9
        exact e_le (ih x7 hF hK) (And.intro rfl (And.intro rfl (And.intro rfl (And.intro rfl (trivial)))))
set_option maxRecDepth 20000 in
set_option maxHeartbeats 4000000 in
theorem L_M_likings_79 (X : Cx p l s m args meth c Γ D s0 RX12 cX12_likings 5) (hr : meth.sig.returnType = none) (v1 : Int32) (v2 : Int32) (v3 : Int32)  : ∀ (n : Nat) (v4 : Int32) (σ : Mem) {z : Mem}, forSO (fun i s => F_M_likings_79_b v1 v2 v3 i s) n v4 σ = some z → n = cnt v4 v3 → ¬ v4 < 0 → (E p l e ({ frames := 5, cells := 0, slots := 0, locals := 105 } : Room) s m args below meth c Γ D 0 0 (MQ below (QcA Γ D Pst) args s 0 0 (frB Γ)) z 133 [some (.ref (Γ.1 + 333)), some (.int v1), some (.int v2), some (.int v3), none] []) → E p l e ({ frames := 5, cells := 0, slots := 0, locals := 105 } : Room) s m args below meth c Γ D 0 0 (MQ below (QcA Γ D Pst) args s 0 0 (frB Γ)) σ 79 [some (.ref (Γ.1 + 333)), some (.int v1), some (.int v2), some (.int v3), some (.int v4)] [] := by
  intro n
  induction n with
  | zero =>
    intro v4 σ z hF hn h0 hK
    refine e_iload X dX12_likings_79 rfl ?_
    refine e_iload_n X dX12_likings_81 rfl rfl ?_
    refine e_icmp_ge X 133 dX12_likings_82 (by decide) (fun c18 => ?_) (fun c18 => ?_)
    · skip
      have hz9 := Option.some.inj hF; change (σ) = z at hz9; subst hz9
      exact e_le hK (And.intro rfl (And.intro rfl (And.intro rfl (And.intro rfl (trivial)))))
    · skip
      exact absurd c18 (cnt0 hn)
  | succ n ih =>
    intro v4 σ z hF hn h0 hK
    obtain ⟨y9, hB, hF⟩ := forSO_step hF
    change F_M_likings_79_b v1 v2 v3 v4 σ = some y9 at hB
    unfold F_M_likings_79_b at hB
    refine e_iload X dX12_likings_79 rfl ?_
    refine e_iload_n X dX12_likings_81 rfl rfl ?_
    refine e_icmp_ge X 133 dX12_likings_82 (by decide) (fun c10 => ?_) (fun c10 => ?_)
    · skip
      exact absurd (cntS hn) c10
    · skip
      refine e_iload X dX12_likings_85 rfl ?_
      refine e_iload_n X dX12_likings_87 rfl rfl ?_
      refine e_icmp_eq X 117 dX12_likings_88 (by decide) (fun c11 => ?_) (fun c11 => ?_)
      · skip
        rw [if_pos c11] at hB
        refine e_aload_n X dX12_likings_117 rfl rfl ?_
        refine e_dup X dX12_likings_118 rfl ?_
        refine ge_M_at X wf_X12_82 dX12_likings_119 ?_
        refine e_iconst X 1 dX12_likings_122 rfl ?_
        refine e_iadd X dX12_likings_123 ?_
        obtain ⟨σ12, h_σ12, hB⟩ := bindT_out hB
        refine pu_M_at X wf_X12_82 dX12_likings_124 h_σ12 ?_
        refine e_iinc X 1 dX12_likings_127 rfl rfl (by decide) ?_
        refine e_goto X 79 dX12_likings_130 (by decide) ?_
        have hy9 := Option.some.inj hB; change (σ12) = y9 at hy9; subst hy9
        exact e_le (ih _ σ12 hF (cntN hn) (nnN h0 (cnt_hi hn)) hK) (And.intro rfl (And.intro rfl (And.intro rfl (And.intro rfl (And.intro rfl (trivial))))))
      · skip
        rw [if_neg c11] at hB
        refine e_aload_n X dX12_likings_91 rfl rfl ?_
        refine ge_M_m X wf_X12_7 dX12_likings_92 ?_
        refine e_bipush X 46 dX12_likings_95 rfl ?_
        refine e_bipush X 8 dX12_likings_97 rfl ?_
        refine e_iload_n X dX12_likings_99 rfl rfl ?_
        refine e_imul X dX12_likings_100 ?_
        refine e_iadd X dX12_likings_101 ?_
        refine e_iload X dX12_likings_102 rfl ?_
        refine e_iadd X dX12_likings_104 ?_
        refine e_aload_n X dX12_likings_105 rfl rfl ?_
        refine e_aload_n X dX12_likings_106 rfl rfl ?_
        refine ge_M_at X wf_X12_82 dX12_likings_107 ?_
        obtain ⟨z13, h_z13, hB⟩ := obind_out hB
        refine e_callVi X (r := z13) (σ1 := σ) [.int ((σ 333 11))] [.int (((46 + (8 * v1)) + v4)), .ref (Γ.1 + 334)] (C_M_letter (Cx_gok X) σ ((σ 333 11)) h_z13) gv_X12_88 yk_X12_letter rfl (ent_lt (rfl : entTbl[333]? = some (13, 0))) (ent_at (rfl : entTbl[333]? = some (13, 0)) _) (rfl : vCl[11]? = some (RX12, TX12, 24)) ⟨Nat.le_of_ble_eq_true rfl, Nat.le_of_ble_eq_true rfl⟩ ⟨Nat.le_of_ble_eq_true rfl, Nat.le_of_ble_eq_true rfl⟩ (Nat.le_of_ble_eq_true rfl) dX12_likings_110 rfl ?_
        refine e_bipush X 48 dX12_likings_113 rfl ?_
        refine e_isub X dX12_likings_115 ?_
        obtain ⟨i14, h_i14, hB⟩ := bindT_out hB
        obtain ⟨c15, hB⟩ := chk_out hB
        obtain ⟨σ16, h_σ16, hB⟩ := bindT_out hB
        refine e_iast X (j := i14.toNatClampNeg) h_i14 rfl (inb_in c15) rfl dX12_likings_116 h_σ16 ?_
        refine e_aload_n X dX12_likings_117 rfl rfl ?_
        refine e_dup X dX12_likings_118 rfl ?_
        refine ge_M_at X wf_X12_82 dX12_likings_119 ?_
        refine e_iconst X 1 dX12_likings_122 rfl ?_
        refine e_iadd X dX12_likings_123 ?_
        obtain ⟨σ17, h_σ17, hB⟩ := bindT_out hB
        refine pu_M_at X wf_X12_82 dX12_likings_124 h_σ17 ?_
        refine e_iinc X 1 dX12_likings_127 rfl rfl (by decide) ?_
        refine e_goto X 79 dX12_likings_130 (by decide) ?_
        have hy9 := Option.some.inj hB; change (σ17) = y9 at hy9; subst hy9
        exact e_le (ih _ σ17 hF (cntN hn) (nnN h0 (cnt_hi hn)) hK) (And.intro rfl (And.intro rfl (And.intro rfl (And.intro rfl (And.intro rfl (trivial))))))
set_option maxRecDepth 20000 in
set_option maxHeartbeats 4000000 in
theorem C_M_likings (hG : Gok l Γ D s0) (σ : Mem)   {out : Mem} (hF : F_M_likings σ = some out) : CT l Γ D s0 yX12_likings cX12_likings 5 none (5) 0 0 (105) σ [.ref (Γ.1 + 333)] (PI none out) := by
  unfold F_M_likings at hF
  refine e_met (own := RX12) hG (by decide +kernel) rfl rfl (Nat.le_of_ble_eq_true rfl) ?_
  intro p e s m args below meth c X hr
  show E p l e _ s m args below meth c Γ D 0 0 _ σ 0 [some (.ref (Γ.1 + 333)), none, none, none, none] []
  refine e_aload_n X dX12_likings_0 rfl rfl ?_
  obtain ⟨z1, h_z1, hF⟩ := obind_out hF
  refine e_callVi X (r := z1.2) (σ1 := z1.1) [] [] (C_M_who (Cx_gok X) σ h_z1) gv_X12_118 yk_X12_who rfl (ent_lt (rfl : entTbl[333]? = some (13, 0))) (ent_at (rfl : entTbl[333]? = some (13, 0)) _) (rfl : vCl[11]? = some (RX12, TX12, 24)) ⟨Nat.le_of_ble_eq_true rfl, Nat.le_of_ble_eq_true rfl⟩ ⟨Nat.le_of_ble_eq_true rfl, Nat.le_of_ble_eq_true rfl⟩ (Nat.le_of_ble_eq_true rfl) dX12_likings_1 rfl ?_
  refine e_istore_n X rfl dX12_likings_4 rfl (by decide) ?_
  refine e_aload_n X dX12_likings_5 rfl rfl ?_
  refine ge_M_fault X wf_X12_25 dX12_likings_6 ?_
  refine e_iconst X (-1) dX12_likings_9 rfl ?_
  refine e_icmp_eq X 14 dX12_likings_10 (by decide) (fun c2 => ?_) (fun c2 => ?_)
  · skip
    rw [if_pos c2] at hF
    refine e_aload_n X dX12_likings_14 rfl rfl ?_
    obtain ⟨z3, h_z3, hF⟩ := obind_out hF
    refine e_callVi X (r := z3.2) (σ1 := z3.1) [] [] (C_M_place (Cx_gok X) z1.1 h_z3) gv_X12_104 yk_X12_place rfl (ent_lt (rfl : entTbl[333]? = some (13, 0))) (ent_at (rfl : entTbl[333]? = some (13, 0)) _) (rfl : vCl[11]? = some (RX12, TX12, 24)) ⟨Nat.le_of_ble_eq_true rfl, Nat.le_of_ble_eq_true rfl⟩ ⟨Nat.le_of_ble_eq_true rfl, Nat.le_of_ble_eq_true rfl⟩ (Nat.le_of_ble_eq_true rfl) dX12_likings_15 rfl ?_
    refine e_istore_n X rfl dX12_likings_18 rfl (by decide) ?_
    refine e_iconst X 0 dX12_likings_19 rfl ?_
    refine e_istore_n X rfl dX12_likings_20 rfl (by decide) ?_
    obtain ⟨z8, h_z8, hF⟩ := obind_out hF
    refine e_le (L_M_likings_21 X hr z3.1 z1.2 z3.2 _ 0 h_z8 ?_) (And.intro rfl (And.intro rfl (And.intro rfl (And.intro rfl (trivial)))))
    refine e_iload_n X dX12_likings_60 rfl rfl ?_
    refine e_aload_n X dX12_likings_61 rfl rfl ?_
    refine ge_M_m X wf_X12_7 dX12_likings_62 ?_
    refine e_iconst X 3 dX12_likings_65 rfl ?_
    refine e_iald X (j := 3) rfl rfl (vp_in_iff.mpr (by decide)) rfl dX12_likings_66 ?_
    refine e_icmp_eq X 76 dX12_likings_67 (by decide) (fun c9 => ?_) (fun c9 => ?_)
    · skip
      rw [if_pos c9] at hF
      refine e_iconst X 0 dX12_likings_76 rfl ?_
      refine e_istore X rfl dX12_likings_77 (by decide) ?_
      obtain ⟨z19, h_z19, hF⟩ := obind_out hF
      refine e_le (L_M_likings_79 X hr z1.2 z3.2 z8 _ 0 z3.1 h_z19 rfl (by decide) ?_) (And.intro rfl (And.intro rfl (And.intro rfl (And.intro rfl (And.intro rfl (trivial))))))
      exact e_vret X hr dX12_likings_133 (Nat.le_of_ble_eq_true rfl) (Nat.le_of_ble_eq_true rfl) (by cases hF; exact ⟨rfl, rfl⟩)
    · skip
      rw [if_neg c9] at hF
      refine e_aload_n X dX12_likings_70 rfl rfl ?_
      refine e_iload_n X dX12_likings_71 rfl rfl ?_
      obtain ⟨z20, h_z20, hF⟩ := bindT_out hF
      refine e_callVv X (σ1 := z20) [.int z3.2] [] (by rw [h_z20]; exact C_M_wrong (Cx_gok X) z3.1 z3.2) gv_X12_107 yk_X12_wrong rfl (ent_lt (rfl : entTbl[333]? = some (13, 0))) (ent_at (rfl : entTbl[333]? = some (13, 0)) _) (rfl : vCl[11]? = some (RX12, TX12, 24)) ⟨Nat.le_of_ble_eq_true rfl, Nat.le_of_ble_eq_true rfl⟩ ⟨Nat.le_of_ble_eq_true rfl, Nat.le_of_ble_eq_true rfl⟩ (Nat.le_of_ble_eq_true rfl) dX12_likings_72 rfl ?_
      exact e_vret X hr dX12_likings_75 (Nat.le_of_ble_eq_true rfl) (Nat.le_of_ble_eq_true rfl) (by cases hF; exact ⟨rfl, rfl⟩)
  · skip
    rw [if_neg c2] at hF
    exact e_vret X hr dX12_likings_13 (Nat.le_of_ble_eq_true rfl) (Nat.le_of_ble_eq_true rfl) (by cases hF; exact ⟨rfl, rfl⟩)
set_option maxRecDepth 20000 in
set_option maxHeartbeats 4000000 in
theorem C_M_free (hG : Gok l Γ D s0) (σ : Mem) (v1 : Int32) (v2 : Int32)  {out : Mem} (hF : F_M_free σ v1 v2 = some out) : CT l Γ D s0 yX12_free cX12_free 3 none (2) 0 0 (44) σ [.ref (Γ.1 + 333), .int v1, .int v2] (PI none out) := by
  unfold F_M_free at hF
  refine e_met (own := RX12) hG (by decide +kernel) rfl rfl (Nat.le_of_ble_eq_true rfl) ?_
  intro p e s m args below meth c X hr
  show E p l e _ s m args below meth c Γ D 0 0 _ σ 0 [some (.ref (Γ.1 + 333)), some (.int v1), some (.int v2)] []
  refine e_aload_n X dX12_free_0 rfl rfl ?_
  refine ge_M_fault X wf_X12_25 dX12_free_1 ?_
  refine e_iconst X (-1) dX12_free_4 rfl ?_
  refine e_icmp_ne X 22 dX12_free_5 (by decide) (fun c1 => ?_) (fun c1 => ?_)
  · skip
    rw [if_neg c1] at hF
    exact e_vret X hr dX12_free_22 (Nat.le_of_ble_eq_true rfl) (Nat.le_of_ble_eq_true rfl) (by cases hF; exact ⟨rfl, rfl⟩)
  · skip
    rw [if_pos c1] at hF
    refine e_aload_n X dX12_free_8 rfl rfl ?_
    refine e_iload_n X dX12_free_9 rfl rfl ?_
    obtain ⟨z2, h_z2, hF⟩ := obind_out hF
    refine e_callVi X (r := z2) (σ1 := σ) [.int v1] [] (C_M_wedTo (Cx_gok X) σ v1 h_z2) gv_X12_121 yk_X12_wedTo rfl (ent_lt (rfl : entTbl[333]? = some (13, 0))) (ent_at (rfl : entTbl[333]? = some (13, 0)) _) (rfl : vCl[11]? = some (RX12, TX12, 24)) ⟨Nat.le_of_ble_eq_true rfl, Nat.le_of_ble_eq_true rfl⟩ ⟨Nat.le_of_ble_eq_true rfl, Nat.le_of_ble_eq_true rfl⟩ (Nat.le_of_ble_eq_true rfl) dX12_free_10 rfl ?_
    refine e_iconst X (-1) dX12_free_13 rfl ?_
    refine e_icmp_eq X 22 dX12_free_14 (by decide) (fun c3 => ?_) (fun c3 => ?_)
    · skip
      rw [if_pos c3] at hF
      exact e_vret X hr dX12_free_22 (Nat.le_of_ble_eq_true rfl) (Nat.le_of_ble_eq_true rfl) (by cases hF; exact ⟨rfl, rfl⟩)
    · skip
      rw [if_neg c3] at hF
      refine e_aload_n X dX12_free_17 rfl rfl ?_
      refine e_iload_n X dX12_free_18 rfl rfl ?_
      obtain ⟨z4, h_z4, hF⟩ := bindT_out hF
      refine e_callVv X (σ1 := z4) [.int v2] [] (by rw [h_z4]; exact C_M_wrong (Cx_gok X) σ v2) gv_X12_107 yk_X12_wrong rfl (ent_lt (rfl : entTbl[333]? = some (13, 0))) (ent_at (rfl : entTbl[333]? = some (13, 0)) _) (rfl : vCl[11]? = some (RX12, TX12, 24)) ⟨Nat.le_of_ble_eq_true rfl, Nat.le_of_ble_eq_true rfl⟩ ⟨Nat.le_of_ble_eq_true rfl, Nat.le_of_ble_eq_true rfl⟩ (Nat.le_of_ble_eq_true rfl) dX12_free_19 rfl ?_
      exact e_vret X hr dX12_free_22 (Nat.le_of_ble_eq_true rfl) (Nat.le_of_ble_eq_true rfl) (by cases hF; exact ⟨rfl, rfl⟩)
set_option maxRecDepth 20000 in
set_option maxHeartbeats 4000000 in
theorem C_M_comes (hG : Gok l Γ D s0) (σ : Mem) (v1 : Int32) (v2 : Int32) (v3 : Int32)  {out : Mem} (hF : F_M_comes σ v1 v2 v3 = some out) : CT l Γ D s0 yX12_comes cX12_comes 5 none (1) 0 0 (23) σ [.ref (Γ.1 + 333), .int v1, .int v2, .int v3] (PI none out) := by
  unfold F_M_comes at hF
  refine e_met (own := RX12) hG (by decide +kernel) rfl rfl (Nat.le_of_ble_eq_true rfl) ?_
  intro p e s m args below meth c X hr
  show E p l e _ s m args below meth c Γ D 0 0 _ σ 0 [some (.ref (Γ.1 + 333)), some (.int v1), some (.int v2), some (.int v3), none] []
  refine e_aload_n X dX12_comes_0 rfl rfl ?_
  refine ge_M_m X wf_X12_7 dX12_comes_1 ?_
  refine e_iconst X 4 dX12_comes_4 rfl ?_
  refine e_iald X (j := 4) rfl rfl (vp_in_iff.mpr (by decide)) rfl dX12_comes_5 ?_
  obtain ⟨x1, h_x1, hF⟩ := bindT_out hF
  refine e_istore X h_x1 dX12_comes_6 (by decide) ?_
  refine e_aload_n X dX12_comes_8 rfl rfl ?_
  refine e_iload X dX12_comes_9 rfl ?_
  refine e_iconst X 0 dX12_comes_11 rfl ?_
  refine e_iload_n X dX12_comes_12 rfl rfl ?_
  obtain ⟨z2, h_z2, hF⟩ := obind_out hF
  refine e_callVv X (σ1 := z2) [.int x1, .int 0, .int v1] [] (C_M_told (Cx_gok X) σ x1 0 v1 h_z2) gv_X12_141 yk_X12_told rfl (ent_lt (rfl : entTbl[333]? = some (13, 0))) (ent_at (rfl : entTbl[333]? = some (13, 0)) _) (rfl : vCl[11]? = some (RX12, TX12, 24)) ⟨Nat.le_of_ble_eq_true rfl, Nat.le_of_ble_eq_true rfl⟩ ⟨Nat.le_of_ble_eq_true rfl, Nat.le_of_ble_eq_true rfl⟩ (Nat.le_of_ble_eq_true rfl) dX12_comes_13 rfl ?_
  refine e_aload_n X dX12_comes_16 rfl rfl ?_
  refine e_iload X dX12_comes_17 rfl ?_
  refine e_iconst X 1 dX12_comes_19 rfl ?_
  refine e_iload_n X dX12_comes_20 rfl rfl ?_
  obtain ⟨z3, h_z3, hF⟩ := obind_out hF
  refine e_callVv X (σ1 := z3) [.int x1, .int 1, .int v2] [] (C_M_told (Cx_gok X) z2 x1 1 v2 h_z3) gv_X12_141 yk_X12_told rfl (ent_lt (rfl : entTbl[333]? = some (13, 0))) (ent_at (rfl : entTbl[333]? = some (13, 0)) _) (rfl : vCl[11]? = some (RX12, TX12, 24)) ⟨Nat.le_of_ble_eq_true rfl, Nat.le_of_ble_eq_true rfl⟩ ⟨Nat.le_of_ble_eq_true rfl, Nat.le_of_ble_eq_true rfl⟩ (Nat.le_of_ble_eq_true rfl) dX12_comes_21 rfl ?_
  refine e_aload_n X dX12_comes_24 rfl rfl ?_
  refine e_iload X dX12_comes_25 rfl ?_
  refine e_iconst X 2 dX12_comes_27 rfl ?_
  refine e_iload_n X dX12_comes_28 rfl rfl ?_
  obtain ⟨z4, h_z4, hF⟩ := obind_out hF
  refine e_callVv X (σ1 := z4) [.int x1, .int 2, .int v3] [] (C_M_told (Cx_gok X) z3 x1 2 v3 h_z4) gv_X12_141 yk_X12_told rfl (ent_lt (rfl : entTbl[333]? = some (13, 0))) (ent_at (rfl : entTbl[333]? = some (13, 0)) _) (rfl : vCl[11]? = some (RX12, TX12, 24)) ⟨Nat.le_of_ble_eq_true rfl, Nat.le_of_ble_eq_true rfl⟩ ⟨Nat.le_of_ble_eq_true rfl, Nat.le_of_ble_eq_true rfl⟩ (Nat.le_of_ble_eq_true rfl) dX12_comes_29 rfl ?_
  refine e_aload_n X dX12_comes_32 rfl rfl ?_
  refine e_iload X dX12_comes_33 rfl ?_
  refine e_iconst X 3 dX12_comes_35 rfl ?_
  refine e_iconst X 0 dX12_comes_36 rfl ?_
  obtain ⟨z5, h_z5, hF⟩ := obind_out hF
  refine e_callVv X (σ1 := z5) [.int x1, .int 3, .int 0] [] (C_M_told (Cx_gok X) z4 x1 3 0 h_z5) gv_X12_141 yk_X12_told rfl (ent_lt (rfl : entTbl[333]? = some (13, 0))) (ent_at (rfl : entTbl[333]? = some (13, 0)) _) (rfl : vCl[11]? = some (RX12, TX12, 24)) ⟨Nat.le_of_ble_eq_true rfl, Nat.le_of_ble_eq_true rfl⟩ ⟨Nat.le_of_ble_eq_true rfl, Nat.le_of_ble_eq_true rfl⟩ (Nat.le_of_ble_eq_true rfl) dX12_comes_37 rfl ?_
  refine e_aload_n X dX12_comes_40 rfl rfl ?_
  refine e_iload X dX12_comes_41 rfl ?_
  refine e_iconst X 4 dX12_comes_43 rfl ?_
  refine e_iconst X 0 dX12_comes_44 rfl ?_
  obtain ⟨z6, h_z6, hF⟩ := obind_out hF
  refine e_callVv X (σ1 := z6) [.int x1, .int 4, .int 0] [] (C_M_told (Cx_gok X) z5 x1 4 0 h_z6) gv_X12_141 yk_X12_told rfl (ent_lt (rfl : entTbl[333]? = some (13, 0))) (ent_at (rfl : entTbl[333]? = some (13, 0)) _) (rfl : vCl[11]? = some (RX12, TX12, 24)) ⟨Nat.le_of_ble_eq_true rfl, Nat.le_of_ble_eq_true rfl⟩ ⟨Nat.le_of_ble_eq_true rfl, Nat.le_of_ble_eq_true rfl⟩ (Nat.le_of_ble_eq_true rfl) dX12_comes_45 rfl ?_
  refine e_aload_n X dX12_comes_48 rfl rfl ?_
  refine ge_M_m X wf_X12_7 dX12_comes_49 ?_
  refine e_iconst X 4 dX12_comes_52 rfl ?_
  refine e_dup2 X dX12_comes_53 rfl rfl ?_
  refine e_iald X (j := 4) rfl rfl (vp_in_iff.mpr (by decide)) rfl dX12_comes_54 ?_
  refine e_iconst X 1 dX12_comes_55 rfl ?_
  refine e_iadd X dX12_comes_56 ?_
  obtain ⟨σ7, h_σ7, hF⟩ := bindT_out hF
  refine e_iast X (j := 4) rfl rfl (vp_in_iff.mpr (by decide)) rfl dX12_comes_57 h_σ7 ?_
  exact e_vret X hr dX12_comes_58 (Nat.le_of_ble_eq_true rfl) (Nat.le_of_ble_eq_true rfl) (by cases hF; exact ⟨rfl, rfl⟩)
set_option maxRecDepth 20000 in
set_option maxHeartbeats 4000000 in
theorem L_M_personLine_72 (X : Cx p l s m args meth c Γ D s0 RX12 cX12_personLine 5) (hr : meth.sig.returnType = none) (v1 : Int32) (v2 : Int32) (v3 : Int32)  : ∀ (n : Nat) (v4 : Int32) (σ : Mem) {z : Mem}, forSO (fun i s => F_M_personLine_72_b v1 v2 v3 i s) n v4 σ = some z → n = cnt v4 8 → ¬ v4 < 0 → (E p l e ({ frames := 4, cells := 0, slots := 0, locals := 85 } : Room) s m args below meth c Γ D 0 0 (MQ below (QcA Γ D Pst) args s 0 0 (frB Γ)) z 117 [some (.ref (Γ.1 + 333)), some (.int v1), some (.int v2), some (.int v3), none] []) → E p l e ({ frames := 4, cells := 0, slots := 0, locals := 85 } : Room) s m args below meth c Γ D 0 0 (MQ below (QcA Γ D Pst) args s 0 0 (frB Γ)) σ 72 [some (.ref (Γ.1 + 333)), some (.int v1), some (.int v2), some (.int v3), some (.int v4)] [] := by
  intro n
  induction n with
  | zero =>
    intro v4 σ z hF hn h0 hK
    refine e_iload X dX12_personLine_72 rfl ?_
    refine e_bipush X 8 dX12_personLine_74 rfl ?_
    refine e_icmp_ge X 117 dX12_personLine_76 (by decide) (fun c16 => ?_) (fun c16 => ?_)
    · skip
      have hz9 := Option.some.inj hF; change (σ) = z at hz9; subst hz9
      exact e_le hK (And.intro rfl (And.intro rfl (And.intro rfl (And.intro rfl (trivial)))))
    · skip
      exact absurd c16 (cnt0 hn)
  | succ n ih =>
    intro v4 σ z hF hn h0 hK
    obtain ⟨y9, hB, hF⟩ := forSO_step hF
    change F_M_personLine_72_b v1 v2 v3 v4 σ = some y9 at hB
    unfold F_M_personLine_72_b at hB
    refine e_iload X dX12_personLine_72 rfl ?_
    refine e_bipush X 8 dX12_personLine_74 rfl ?_
    refine e_icmp_ge X 117 dX12_personLine_76 (by decide) (fun c9 => ?_) (fun c9 => ?_)
    · skip
      exact absurd (cntS hn) c9
    · skip
      refine e_aload_n X dX12_personLine_79 rfl rfl ?_
      refine ge_M_m X wf_X12_7 dX12_personLine_80 ?_
      refine e_bipush X 46 dX12_personLine_83 rfl ?_
      refine e_bipush X 8 dX12_personLine_85 rfl ?_
      refine e_iload_n X dX12_personLine_87 rfl rfl ?_
      refine e_imul X dX12_personLine_88 ?_
      refine e_iadd X dX12_personLine_89 ?_
      refine e_iload X dX12_personLine_90 rfl ?_
      refine e_iadd X dX12_personLine_92 ?_
      refine e_iconst X 0 dX12_personLine_93 rfl ?_
      obtain ⟨i10, h_i10, hB⟩ := bindT_out hB
      obtain ⟨c11, hB⟩ := chk_out hB
      obtain ⟨σ12, h_σ12, hB⟩ := bindT_out hB
      refine e_iast X (j := i10.toNatClampNeg) h_i10 rfl (inb_in c11) rfl dX12_personLine_94 h_σ12 ?_
      refine e_aload_n X dX12_personLine_95 rfl rfl ?_
      refine ge_M_m X wf_X12_7 dX12_personLine_96 ?_
      refine e_bipush X 46 dX12_personLine_99 rfl ?_
      refine e_bipush X 8 dX12_personLine_101 rfl ?_
      refine e_iload X dX12_personLine_103 rfl ?_
      refine e_imul X dX12_personLine_105 ?_
      refine e_iadd X dX12_personLine_106 ?_
      refine e_iload_n X dX12_personLine_107 rfl rfl ?_
      refine e_iadd X dX12_personLine_108 ?_
      refine e_iconst X 0 dX12_personLine_109 rfl ?_
      obtain ⟨i13, h_i13, hB⟩ := bindT_out hB
      obtain ⟨c14, hB⟩ := chk_out hB
      obtain ⟨σ15, h_σ15, hB⟩ := bindT_out hB
      refine e_iast X (j := i13.toNatClampNeg) h_i13 rfl (inb_in c14) rfl dX12_personLine_110 h_σ15 ?_
      refine e_iinc X 1 dX12_personLine_111 rfl rfl (by decide) ?_
      refine e_goto X 72 dX12_personLine_114 (by decide) ?_
      have hy9 := Option.some.inj hB; change (σ15) = y9 at hy9; subst hy9
      exact e_le (ih _ σ15 hF (cntN hn) (nnN h0 (cnt_hi hn)) hK) (And.intro rfl (And.intro rfl (And.intro rfl (And.intro rfl (And.intro rfl (trivial))))))
set_option maxRecDepth 20000 in
set_option maxHeartbeats 4000000 in
theorem C_M_personLine (hG : Gok l Γ D s0) (σ : Mem) (v1 : Int32)  {out : Mem} (hF : F_M_personLine σ v1 = some out) : CT l Γ D s0 yX12_personLine cX12_personLine 5 none (4) 0 0 (85) σ [.ref (Γ.1 + 333), .int v1] (PI none out) := by
  unfold F_M_personLine at hF
  refine e_met (own := RX12) hG (by decide +kernel) rfl rfl (Nat.le_of_ble_eq_true rfl) ?_
  intro p e s m args below meth c X hr
  show E p l e _ s m args below meth c Γ D 0 0 _ σ 0 [some (.ref (Γ.1 + 333)), some (.int v1), none, none, none] []
  refine e_aload_n X dX12_personLine_0 rfl rfl ?_
  refine ge_M_m X wf_X12_7 dX12_personLine_1 ?_
  refine e_iconst X 3 dX12_personLine_4 rfl ?_
  refine e_iald X (j := 3) rfl rfl (vp_in_iff.mpr (by decide)) rfl dX12_personLine_5 ?_
  refine e_bipush X 8 dX12_personLine_6 rfl ?_
  refine e_icmp_ne X 16 dX12_personLine_8 (by decide) (fun c1 => ?_) (fun c1 => ?_)
  · skip
    rw [if_neg c1] at hF
    refine e_aload_n X dX12_personLine_16 rfl rfl ?_
    refine e_iconst X 0 dX12_personLine_17 rfl ?_
    refine e_sipush X 999 dX12_personLine_18 rfl ?_
    obtain ⟨z2, h_z2, hF⟩ := obind_out hF
    refine e_callVi X (r := z2.2) (σ1 := z2.1) [.int 0, .int 999] [] (C_M_figures (Cx_gok X) σ 0 999 h_z2) gv_X12_115 yk_X12_figures rfl (ent_lt (rfl : entTbl[333]? = some (13, 0))) (ent_at (rfl : entTbl[333]? = some (13, 0)) _) (rfl : vCl[11]? = some (RX12, TX12, 24)) ⟨Nat.le_of_ble_eq_true rfl, Nat.le_of_ble_eq_true rfl⟩ ⟨Nat.le_of_ble_eq_true rfl, Nat.le_of_ble_eq_true rfl⟩ (Nat.le_of_ble_eq_true rfl) dX12_personLine_21 rfl ?_
    refine e_istore_n X rfl dX12_personLine_24 rfl (by decide) ?_
    refine e_aload_n X dX12_personLine_25 rfl rfl ?_
    refine ge_M_fault X wf_X12_25 dX12_personLine_26 ?_
    refine e_iconst X (-1) dX12_personLine_29 rfl ?_
    refine e_icmp_eq X 34 dX12_personLine_30 (by decide) (fun c3 => ?_) (fun c3 => ?_)
    · skip
      rw [if_pos c3] at hF
      refine e_aload_n X dX12_personLine_34 rfl rfl ?_
      refine ge_M_m X wf_X12_7 dX12_personLine_35 ?_
      refine e_iconst X 3 dX12_personLine_38 rfl ?_
      refine e_iald X (j := 3) rfl rfl (vp_in_iff.mpr (by decide)) rfl dX12_personLine_39 ?_
      obtain ⟨x4, h_x4, hF⟩ := bindT_out hF
      refine e_istore_n X h_x4 dX12_personLine_40 rfl (by decide) ?_
      refine e_aload_n X dX12_personLine_41 rfl rfl ?_
      refine e_iload_n X dX12_personLine_42 rfl rfl ?_
      refine e_iconst X 0 dX12_personLine_43 rfl ?_
      refine e_iload_n X dX12_personLine_44 rfl rfl ?_
      obtain ⟨z5, h_z5, hF⟩ := obind_out hF
      refine e_callVv X (σ1 := z5) [.int x4, .int 0, .int z2.2] [] (C_M_has (Cx_gok X) z2.1 x4 0 z2.2 h_z5) gv_X12_144 yk_X12_has rfl (ent_lt (rfl : entTbl[333]? = some (13, 0))) (ent_at (rfl : entTbl[333]? = some (13, 0)) _) (rfl : vCl[11]? = some (RX12, TX12, 24)) ⟨Nat.le_of_ble_eq_true rfl, Nat.le_of_ble_eq_true rfl⟩ ⟨Nat.le_of_ble_eq_true rfl, Nat.le_of_ble_eq_true rfl⟩ (Nat.le_of_ble_eq_true rfl) dX12_personLine_45 rfl ?_
      refine e_aload_n X dX12_personLine_48 rfl rfl ?_
      refine e_iload_n X dX12_personLine_49 rfl rfl ?_
      refine e_iconst X 1 dX12_personLine_50 rfl ?_
      refine e_iconst X 0 dX12_personLine_51 rfl ?_
      obtain ⟨z6, h_z6, hF⟩ := obind_out hF
      refine e_callVv X (σ1 := z6) [.int x4, .int 1, .int 0] [] (C_M_has (Cx_gok X) z5 x4 1 0 h_z6) gv_X12_144 yk_X12_has rfl (ent_lt (rfl : entTbl[333]? = some (13, 0))) (ent_at (rfl : entTbl[333]? = some (13, 0)) _) (rfl : vCl[11]? = some (RX12, TX12, 24)) ⟨Nat.le_of_ble_eq_true rfl, Nat.le_of_ble_eq_true rfl⟩ ⟨Nat.le_of_ble_eq_true rfl, Nat.le_of_ble_eq_true rfl⟩ (Nat.le_of_ble_eq_true rfl) dX12_personLine_52 rfl ?_
      refine e_aload_n X dX12_personLine_55 rfl rfl ?_
      refine e_iload_n X dX12_personLine_56 rfl rfl ?_
      refine e_iconst X 2 dX12_personLine_57 rfl ?_
      refine e_iconst X (-1) dX12_personLine_58 rfl ?_
      obtain ⟨z7, h_z7, hF⟩ := obind_out hF
      refine e_callVv X (σ1 := z7) [.int x4, .int 2, .int ((-1))] [] (C_M_has (Cx_gok X) z6 x4 2 ((-1)) h_z7) gv_X12_144 yk_X12_has rfl (ent_lt (rfl : entTbl[333]? = some (13, 0))) (ent_at (rfl : entTbl[333]? = some (13, 0)) _) (rfl : vCl[11]? = some (RX12, TX12, 24)) ⟨Nat.le_of_ble_eq_true rfl, Nat.le_of_ble_eq_true rfl⟩ ⟨Nat.le_of_ble_eq_true rfl, Nat.le_of_ble_eq_true rfl⟩ (Nat.le_of_ble_eq_true rfl) dX12_personLine_59 rfl ?_
      refine e_aload_n X dX12_personLine_62 rfl rfl ?_
      refine e_iload_n X dX12_personLine_63 rfl rfl ?_
      refine e_iconst X 3 dX12_personLine_64 rfl ?_
      refine e_iconst X 0 dX12_personLine_65 rfl ?_
      obtain ⟨z8, h_z8, hF⟩ := obind_out hF
      refine e_callVv X (σ1 := z8) [.int x4, .int 3, .int 0] [] (C_M_has (Cx_gok X) z7 x4 3 0 h_z8) gv_X12_144 yk_X12_has rfl (ent_lt (rfl : entTbl[333]? = some (13, 0))) (ent_at (rfl : entTbl[333]? = some (13, 0)) _) (rfl : vCl[11]? = some (RX12, TX12, 24)) ⟨Nat.le_of_ble_eq_true rfl, Nat.le_of_ble_eq_true rfl⟩ ⟨Nat.le_of_ble_eq_true rfl, Nat.le_of_ble_eq_true rfl⟩ (Nat.le_of_ble_eq_true rfl) dX12_personLine_66 rfl ?_
      refine e_iconst X 0 dX12_personLine_69 rfl ?_
      refine e_istore X rfl dX12_personLine_70 (by decide) ?_
      obtain ⟨z17, h_z17, hF⟩ := obind_out hF
      refine e_le (L_M_personLine_72 X hr v1 z2.2 x4 _ 0 z8 h_z17 rfl (by decide) ?_) (And.intro rfl (And.intro rfl (And.intro rfl (And.intro rfl (And.intro rfl (trivial))))))
      refine e_aload_n X dX12_personLine_117 rfl rfl ?_
      refine ge_M_m X wf_X12_7 dX12_personLine_118 ?_
      refine e_iconst X 3 dX12_personLine_121 rfl ?_
      refine e_dup2 X dX12_personLine_122 rfl rfl ?_
      refine e_iald X (j := 3) rfl rfl (vp_in_iff.mpr (by decide)) rfl dX12_personLine_123 ?_
      refine e_iconst X 1 dX12_personLine_124 rfl ?_
      refine e_iadd X dX12_personLine_125 ?_
      obtain ⟨σ18, h_σ18, hF⟩ := bindT_out hF
      refine e_iast X (j := 3) rfl rfl (vp_in_iff.mpr (by decide)) rfl dX12_personLine_126 h_σ18 ?_
      exact e_vret X hr dX12_personLine_127 (Nat.le_of_ble_eq_true rfl) (Nat.le_of_ble_eq_true rfl) (by cases hF; exact ⟨rfl, rfl⟩)
    · skip
      rw [if_neg c3] at hF
      exact e_vret X hr dX12_personLine_33 (Nat.le_of_ble_eq_true rfl) (Nat.le_of_ble_eq_true rfl) (by cases hF; exact ⟨rfl, rfl⟩)
  · skip
    rw [if_pos c1] at hF
    refine e_aload_n X dX12_personLine_11 rfl rfl ?_
    refine e_iload_n X dX12_personLine_12 rfl rfl ?_
    obtain ⟨z19, h_z19, hF⟩ := bindT_out hF
    refine e_callVv X (σ1 := z19) [.int v1] [] (by rw [h_z19]; exact C_M_wrong (Cx_gok X) σ v1) gv_X12_107 yk_X12_wrong rfl (ent_lt (rfl : entTbl[333]? = some (13, 0))) (ent_at (rfl : entTbl[333]? = some (13, 0)) _) (rfl : vCl[11]? = some (RX12, TX12, 24)) ⟨Nat.le_of_ble_eq_true rfl, Nat.le_of_ble_eq_true rfl⟩ ⟨Nat.le_of_ble_eq_true rfl, Nat.le_of_ble_eq_true rfl⟩ (Nat.le_of_ble_eq_true rfl) dX12_personLine_13 rfl ?_
    refine e_aload_n X dX12_personLine_16 rfl rfl ?_
    refine e_iconst X 0 dX12_personLine_17 rfl ?_
    refine e_sipush X 999 dX12_personLine_18 rfl ?_
    obtain ⟨z20, h_z20, hF⟩ := obind_out hF
    refine e_callVi X (r := z20.2) (σ1 := z20.1) [.int 0, .int 999] [] (C_M_figures (Cx_gok X) z19 0 999 h_z20) gv_X12_115 yk_X12_figures rfl (ent_lt (rfl : entTbl[333]? = some (13, 0))) (ent_at (rfl : entTbl[333]? = some (13, 0)) _) (rfl : vCl[11]? = some (RX12, TX12, 24)) ⟨Nat.le_of_ble_eq_true rfl, Nat.le_of_ble_eq_true rfl⟩ ⟨Nat.le_of_ble_eq_true rfl, Nat.le_of_ble_eq_true rfl⟩ (Nat.le_of_ble_eq_true rfl) dX12_personLine_21 rfl ?_
    refine e_istore_n X rfl dX12_personLine_24 rfl (by decide) ?_
    refine e_aload_n X dX12_personLine_25 rfl rfl ?_
    refine ge_M_fault X wf_X12_25 dX12_personLine_26 ?_
    refine e_iconst X (-1) dX12_personLine_29 rfl ?_
    refine e_icmp_eq X 34 dX12_personLine_30 (by decide) (fun c21 => ?_) (fun c21 => ?_)
    · skip
      rw [if_pos c21] at hF
      refine e_aload_n X dX12_personLine_34 rfl rfl ?_
      refine ge_M_m X wf_X12_7 dX12_personLine_35 ?_
      refine e_iconst X 3 dX12_personLine_38 rfl ?_
      refine e_iald X (j := 3) rfl rfl (vp_in_iff.mpr (by decide)) rfl dX12_personLine_39 ?_
      obtain ⟨x22, h_x22, hF⟩ := bindT_out hF
      refine e_istore_n X h_x22 dX12_personLine_40 rfl (by decide) ?_
      refine e_aload_n X dX12_personLine_41 rfl rfl ?_
      refine e_iload_n X dX12_personLine_42 rfl rfl ?_
      refine e_iconst X 0 dX12_personLine_43 rfl ?_
      refine e_iload_n X dX12_personLine_44 rfl rfl ?_
      obtain ⟨z23, h_z23, hF⟩ := obind_out hF
      refine e_callVv X (σ1 := z23) [.int x22, .int 0, .int z20.2] [] (C_M_has (Cx_gok X) z20.1 x22 0 z20.2 h_z23) gv_X12_144 yk_X12_has rfl (ent_lt (rfl : entTbl[333]? = some (13, 0))) (ent_at (rfl : entTbl[333]? = some (13, 0)) _) (rfl : vCl[11]? = some (RX12, TX12, 24)) ⟨Nat.le_of_ble_eq_true rfl, Nat.le_of_ble_eq_true rfl⟩ ⟨Nat.le_of_ble_eq_true rfl, Nat.le_of_ble_eq_true rfl⟩ (Nat.le_of_ble_eq_true rfl) dX12_personLine_45 rfl ?_
      refine e_aload_n X dX12_personLine_48 rfl rfl ?_
      refine e_iload_n X dX12_personLine_49 rfl rfl ?_
      refine e_iconst X 1 dX12_personLine_50 rfl ?_
      refine e_iconst X 0 dX12_personLine_51 rfl ?_
      obtain ⟨z24, h_z24, hF⟩ := obind_out hF
      refine e_callVv X (σ1 := z24) [.int x22, .int 1, .int 0] [] (C_M_has (Cx_gok X) z23 x22 1 0 h_z24) gv_X12_144 yk_X12_has rfl (ent_lt (rfl : entTbl[333]? = some (13, 0))) (ent_at (rfl : entTbl[333]? = some (13, 0)) _) (rfl : vCl[11]? = some (RX12, TX12, 24)) ⟨Nat.le_of_ble_eq_true rfl, Nat.le_of_ble_eq_true rfl⟩ ⟨Nat.le_of_ble_eq_true rfl, Nat.le_of_ble_eq_true rfl⟩ (Nat.le_of_ble_eq_true rfl) dX12_personLine_52 rfl ?_
      refine e_aload_n X dX12_personLine_55 rfl rfl ?_
      refine e_iload_n X dX12_personLine_56 rfl rfl ?_
      refine e_iconst X 2 dX12_personLine_57 rfl ?_
      refine e_iconst X (-1) dX12_personLine_58 rfl ?_
      obtain ⟨z25, h_z25, hF⟩ := obind_out hF
      refine e_callVv X (σ1 := z25) [.int x22, .int 2, .int ((-1))] [] (C_M_has (Cx_gok X) z24 x22 2 ((-1)) h_z25) gv_X12_144 yk_X12_has rfl (ent_lt (rfl : entTbl[333]? = some (13, 0))) (ent_at (rfl : entTbl[333]? = some (13, 0)) _) (rfl : vCl[11]? = some (RX12, TX12, 24)) ⟨Nat.le_of_ble_eq_true rfl, Nat.le_of_ble_eq_true rfl⟩ ⟨Nat.le_of_ble_eq_true rfl, Nat.le_of_ble_eq_true rfl⟩ (Nat.le_of_ble_eq_true rfl) dX12_personLine_59 rfl ?_
      refine e_aload_n X dX12_personLine_62 rfl rfl ?_
      refine e_iload_n X dX12_personLine_63 rfl rfl ?_
      refine e_iconst X 3 dX12_personLine_64 rfl ?_
      refine e_iconst X 0 dX12_personLine_65 rfl ?_
      obtain ⟨z26, h_z26, hF⟩ := obind_out hF
      refine e_callVv X (σ1 := z26) [.int x22, .int 3, .int 0] [] (C_M_has (Cx_gok X) z25 x22 3 0 h_z26) gv_X12_144 yk_X12_has rfl (ent_lt (rfl : entTbl[333]? = some (13, 0))) (ent_at (rfl : entTbl[333]? = some (13, 0)) _) (rfl : vCl[11]? = some (RX12, TX12, 24)) ⟨Nat.le_of_ble_eq_true rfl, Nat.le_of_ble_eq_true rfl⟩ ⟨Nat.le_of_ble_eq_true rfl, Nat.le_of_ble_eq_true rfl⟩ (Nat.le_of_ble_eq_true rfl) dX12_personLine_66 rfl ?_
      refine e_iconst X 0 dX12_personLine_69 rfl ?_
      refine e_istore X rfl dX12_personLine_70 (by decide) ?_
      obtain ⟨z27, h_z27, hF⟩ := obind_out hF
      refine e_le (L_M_personLine_72 X hr v1 z20.2 x22 _ 0 z26 h_z27 rfl (by decide) ?_) (And.intro rfl (And.intro rfl (And.intro rfl (And.intro rfl (And.intro rfl (trivial))))))
      refine e_aload_n X dX12_personLine_117 rfl rfl ?_
      refine ge_M_m X wf_X12_7 dX12_personLine_118 ?_
      refine e_iconst X 3 dX12_personLine_121 rfl ?_
      refine e_dup2 X dX12_personLine_122 rfl rfl ?_
      refine e_iald X (j := 3) rfl rfl (vp_in_iff.mpr (by decide)) rfl dX12_personLine_123 ?_
      refine e_iconst X 1 dX12_personLine_124 rfl ?_
      refine e_iadd X dX12_personLine_125 ?_
      obtain ⟨σ28, h_σ28, hF⟩ := bindT_out hF
      refine e_iast X (j := 3) rfl rfl (vp_in_iff.mpr (by decide)) rfl dX12_personLine_126 h_σ28 ?_
      exact e_vret X hr dX12_personLine_127 (Nat.le_of_ble_eq_true rfl) (Nat.le_of_ble_eq_true rfl) (by cases hF; exact ⟨rfl, rfl⟩)
    · skip
      rw [if_neg c21] at hF
      exact e_vret X hr dX12_personLine_33 (Nat.le_of_ble_eq_true rfl) (Nat.le_of_ble_eq_true rfl) (by cases hF; exact ⟨rfl, rfl⟩)
set_option maxRecDepth 20000 in
set_option maxHeartbeats 4000000 in
theorem C_M_tells (hG : Gok l Γ D s0) (σ : Mem) (v1 : Int32) (v2 : Int32)  {out : Mem} (hF : F_M_tells σ v1 v2 = some out) : CT l Γ D s0 yX12_tells cX12_tells 4 none (4) 0 0 (85) σ [.ref (Γ.1 + 333), .int v1, .int v2] (PI none out) := by
  unfold F_M_tells at hF
  refine e_met (own := RX12) hG (by decide +kernel) rfl rfl (Nat.le_of_ble_eq_true rfl) ?_
  intro p e s m args below meth c X hr
  show E p l e _ s m args below meth c Γ D 0 0 _ σ 0 [some (.ref (Γ.1 + 333)), some (.int v1), some (.int v2), none] []
  refine e_aload_n X dX12_tells_0 rfl rfl ?_
  refine e_iconst X 0 dX12_tells_1 rfl ?_
  refine e_iload_n X dX12_tells_2 rfl rfl ?_
  obtain ⟨z1, h_z1, hF⟩ := obind_out hF
  refine e_callVi X (r := z1.2) (σ1 := z1.1) [.int 0, .int v2] [] (C_M_figures (Cx_gok X) σ 0 v2 h_z1) gv_X12_115 yk_X12_figures rfl (ent_lt (rfl : entTbl[333]? = some (13, 0))) (ent_at (rfl : entTbl[333]? = some (13, 0)) _) (rfl : vCl[11]? = some (RX12, TX12, 24)) ⟨Nat.le_of_ble_eq_true rfl, Nat.le_of_ble_eq_true rfl⟩ ⟨Nat.le_of_ble_eq_true rfl, Nat.le_of_ble_eq_true rfl⟩ (Nat.le_of_ble_eq_true rfl) dX12_tells_3 rfl ?_
  refine e_istore_n X rfl dX12_tells_6 rfl (by decide) ?_
  refine e_aload_n X dX12_tells_7 rfl rfl ?_
  refine ge_M_fault X wf_X12_25 dX12_tells_8 ?_
  refine e_iconst X (-1) dX12_tells_11 rfl ?_
  refine e_icmp_ne X 22 dX12_tells_12 (by decide) (fun c2 => ?_) (fun c2 => ?_)
  · skip
    rw [if_neg c2] at hF
    exact e_vret X hr dX12_tells_22 (Nat.le_of_ble_eq_true rfl) (Nat.le_of_ble_eq_true rfl) (by cases hF; exact ⟨rfl, rfl⟩)
  · skip
    rw [if_pos c2] at hF
    refine e_aload_n X dX12_tells_15 rfl rfl ?_
    refine ge_M_m X wf_X12_7 dX12_tells_16 ?_
    refine e_iload_n X dX12_tells_19 rfl rfl ?_
    refine e_iload_n X dX12_tells_20 rfl rfl ?_
    obtain ⟨c3, hF⟩ := chk_out hF
    obtain ⟨σ4, h_σ4, hF⟩ := bindT_out hF
    refine e_iast X (j := v1.toNatClampNeg) rfl rfl (inb_in c3) rfl dX12_tells_21 h_σ4 ?_
    exact e_vret X hr dX12_tells_22 (Nat.le_of_ble_eq_true rfl) (Nat.le_of_ble_eq_true rfl) (by cases hF; exact ⟨rfl, rfl⟩)
set_option maxRecDepth 20000 in
set_option maxHeartbeats 4000000 in
theorem C_M_begins (hG : Gok l Γ D s0) (σ : Mem)   : CT l Γ D s0 yX12_begins cX12_begins 1 none (0) 0 0 (0) σ [.ref (Γ.1 + 333)] (PI none (F_M_begins σ)) := by
  generalize hF : F_M_begins σ = out
  unfold F_M_begins at hF
  refine e_met (own := RX12) hG (by decide +kernel) rfl rfl (Nat.le_of_ble_eq_true rfl) ?_
  intro p e s m args below meth c X hr
  show E p l e _ s m args below meth c Γ D 0 0 _ σ 0 [some (.ref (Γ.1 + 333))] []
  refine e_aload_n X dX12_begins_0 rfl rfl ?_
  refine e_iconst X (-1) dX12_begins_1 rfl ?_
  obtain ⟨σ1, h_σ1, hF⟩ := bindT_out hF
  refine pu_M_fault X wf_X12_25 dX12_begins_2 h_σ1 ?_
  refine e_aload_n X dX12_begins_5 rfl rfl ?_
  refine e_iconst X (-1) dX12_begins_6 rfl ?_
  obtain ⟨σ2, h_σ2, hF⟩ := bindT_out hF
  refine pu_M_base X wf_X12_79 dX12_begins_7 h_σ2 ?_
  refine e_aload_n X dX12_begins_10 rfl rfl ?_
  refine e_aload_n X dX12_begins_11 rfl rfl ?_
  refine ge_M_taped X wf_X12_76 dX12_begins_12 ?_
  obtain ⟨σ3, h_σ3, hF⟩ := bindT_out hF
  refine pu_M_end X wf_X12_85 dX12_begins_15 h_σ3 ?_
  refine e_aload_n X dX12_begins_18 rfl rfl ?_
  refine e_iconst X 0 dX12_begins_19 rfl ?_
  obtain ⟨σ4, h_σ4, hF⟩ := bindT_out hF
  refine pu_M_taped X wf_X12_76 dX12_begins_20 h_σ4 ?_
  refine e_aload_n X dX12_begins_23 rfl rfl ?_
  refine e_iconst X 0 dX12_begins_24 rfl ?_
  obtain ⟨σ5, h_σ5, hF⟩ := bindT_out hF
  refine pu_M_at X wf_X12_82 dX12_begins_25 h_σ5 ?_
  refine e_aload_n X dX12_begins_28 rfl rfl ?_
  refine e_iconst X 0 dX12_begins_29 rfl ?_
  obtain ⟨σ6, h_σ6, hF⟩ := bindT_out hF
  refine pu_M_deep X wf_X12_175 dX12_begins_30 h_σ6 ?_
  exact e_vret X hr dX12_begins_33 (Nat.le_of_ble_eq_true rfl) (Nat.le_of_ble_eq_true rfl) (by cases hF; exact ⟨rfl, rfl⟩)
set_option maxRecDepth 20000 in
set_option maxHeartbeats 4000000 in
theorem L_M_putsAside_2 (X : Cx p l s m args meth c Γ D s0 RX12 cX12_putsAside 2) (hr : meth.sig.returnType = none)   : ∀ (n : Nat) (v1 : Int32) (σ : Mem) {z : Mem}, forSO (fun i s => F_M_putsAside_2_b  i s) n v1 σ = some z → n = cnt v1 450 → ¬ v1 < 0 → (E p l e ({ frames := 0, cells := 0, slots := 0, locals := 0 } : Room) s m args below meth c Γ D 0 0 (MQ below (QcA Γ D Pst) args s 0 0 (frB Γ)) z 27 [some (.ref (Γ.1 + 333)), none] []) → E p l e ({ frames := 0, cells := 0, slots := 0, locals := 0 } : Room) s m args below meth c Γ D 0 0 (MQ below (QcA Γ D Pst) args s 0 0 (frB Γ)) σ 2 [some (.ref (Γ.1 + 333)), some (.int v1)] [] := by
  intro n
  induction n with
  | zero =>
    intro v1 σ z hF hn h0 hK
    refine e_iload_n X dX12_putsAside_2 rfl rfl ?_
    refine e_sipush X 450 dX12_putsAside_3 rfl ?_
    refine e_icmp_ge X 27 dX12_putsAside_6 (by decide) (fun c3 => ?_) (fun c3 => ?_)
    · skip
      have hz9 := Option.some.inj hF; change (σ) = z at hz9; subst hz9
      exact e_le hK (And.intro rfl (trivial))
    · skip
      exact absurd c3 (cnt0 hn)
  | succ n ih =>
    intro v1 σ z hF hn h0 hK
    obtain ⟨y9, hB, hF⟩ := forSO_step hF
    change F_M_putsAside_2_b  v1 σ = some y9 at hB
    unfold F_M_putsAside_2_b at hB
    refine e_iload_n X dX12_putsAside_2 rfl rfl ?_
    refine e_sipush X 450 dX12_putsAside_3 rfl ?_
    refine e_icmp_ge X 27 dX12_putsAside_6 (by decide) (fun c1 => ?_) (fun c1 => ?_)
    · skip
      exact absurd (cntS hn) c1
    · skip
      refine e_aload_n X dX12_putsAside_9 rfl rfl ?_
      refine ge_M_aside X wf_X12_16 dX12_putsAside_10 ?_
      refine e_iload_n X dX12_putsAside_13 rfl rfl ?_
      refine e_aload_n X dX12_putsAside_14 rfl rfl ?_
      refine ge_M_m X wf_X12_7 dX12_putsAside_15 ?_
      refine e_iload_n X dX12_putsAside_18 rfl rfl ?_
      refine e_iald X (j := v1.toNatClampNeg) rfl rfl (vp_gc (by decide) h0 c1) rfl dX12_putsAside_19 ?_
      obtain ⟨σ2, h_σ2, hB⟩ := bindT_out hB
      refine e_iast X (j := v1.toNatClampNeg) rfl rfl (vp_gc (by decide) h0 c1) rfl dX12_putsAside_20 h_σ2 ?_
      refine e_iinc X 1 dX12_putsAside_21 rfl rfl (by decide) ?_
      refine e_goto X 2 dX12_putsAside_24 (by decide) ?_
      have hy9 := Option.some.inj hB; change (σ2) = y9 at hy9; subst hy9
      exact e_le (ih _ σ2 hF (cntN hn) (nnN h0 (cnt_hi hn)) hK) (And.intro rfl (And.intro rfl (trivial)))
set_option maxRecDepth 20000 in
set_option maxHeartbeats 4000000 in
theorem C_M_putsAside (hG : Gok l Γ D s0) (σ : Mem)   {out : Mem} (hF : F_M_putsAside σ = some out) : CT l Γ D s0 yX12_putsAside cX12_putsAside 2 none (0) 0 0 (0) σ [.ref (Γ.1 + 333)] (PI none out) := by
  unfold F_M_putsAside at hF
  refine e_met (own := RX12) hG (by decide +kernel) rfl rfl (Nat.le_of_ble_eq_true rfl) ?_
  intro p e s m args below meth c X hr
  show E p l e _ s m args below meth c Γ D 0 0 _ σ 0 [some (.ref (Γ.1 + 333)), none] []
  refine e_iconst X 0 dX12_putsAside_0 rfl ?_
  refine e_istore_n X rfl dX12_putsAside_1 rfl (by decide) ?_
  obtain ⟨z4, h_z4, hF⟩ := obind_out hF
  refine e_le (L_M_putsAside_2 X hr _ 0 σ h_z4 rfl (by decide) ?_) (And.intro rfl (And.intro rfl (trivial)))
  exact e_vret X hr dX12_putsAside_27 (Nat.le_of_ble_eq_true rfl) (Nat.le_of_ble_eq_true rfl) (by cases hF; exact ⟨rfl, rfl⟩)
set_option maxRecDepth 20000 in
set_option maxHeartbeats 4000000 in
theorem L_M_comesBack_2 (X : Cx p l s m args meth c Γ D s0 RX12 cX12_comesBack 2) (hr : meth.sig.returnType = none)   : ∀ (n : Nat) (v1 : Int32) (σ : Mem) {z : Mem}, forSO (fun i s => F_M_comesBack_2_b  i s) n v1 σ = some z → n = cnt v1 450 → ¬ v1 < 0 → (E p l e ({ frames := 0, cells := 0, slots := 0, locals := 0 } : Room) s m args below meth c Γ D 0 0 (MQ below (QcA Γ D Pst) args s 0 0 (frB Γ)) z 27 [some (.ref (Γ.1 + 333)), none] []) → E p l e ({ frames := 0, cells := 0, slots := 0, locals := 0 } : Room) s m args below meth c Γ D 0 0 (MQ below (QcA Γ D Pst) args s 0 0 (frB Γ)) σ 2 [some (.ref (Γ.1 + 333)), some (.int v1)] [] := by
  intro n
  induction n with
  | zero =>
    intro v1 σ z hF hn h0 hK
    refine e_iload_n X dX12_comesBack_2 rfl rfl ?_
    refine e_sipush X 450 dX12_comesBack_3 rfl ?_
    refine e_icmp_ge X 27 dX12_comesBack_6 (by decide) (fun c3 => ?_) (fun c3 => ?_)
    · skip
      have hz9 := Option.some.inj hF; change (σ) = z at hz9; subst hz9
      exact e_le hK (And.intro rfl (trivial))
    · skip
      exact absurd c3 (cnt0 hn)
  | succ n ih =>
    intro v1 σ z hF hn h0 hK
    obtain ⟨y9, hB, hF⟩ := forSO_step hF
    change F_M_comesBack_2_b  v1 σ = some y9 at hB
    unfold F_M_comesBack_2_b at hB
    refine e_iload_n X dX12_comesBack_2 rfl rfl ?_
    refine e_sipush X 450 dX12_comesBack_3 rfl ?_
    refine e_icmp_ge X 27 dX12_comesBack_6 (by decide) (fun c1 => ?_) (fun c1 => ?_)
    · skip
      exact absurd (cntS hn) c1
    · skip
      refine e_aload_n X dX12_comesBack_9 rfl rfl ?_
      refine ge_M_m X wf_X12_7 dX12_comesBack_10 ?_
      refine e_iload_n X dX12_comesBack_13 rfl rfl ?_
      refine e_aload_n X dX12_comesBack_14 rfl rfl ?_
      refine ge_M_aside X wf_X12_16 dX12_comesBack_15 ?_
      refine e_iload_n X dX12_comesBack_18 rfl rfl ?_
      refine e_iald X (j := v1.toNatClampNeg) rfl rfl (vp_gc (by decide) h0 c1) rfl dX12_comesBack_19 ?_
      obtain ⟨σ2, h_σ2, hB⟩ := bindT_out hB
      refine e_iast X (j := v1.toNatClampNeg) rfl rfl (vp_gc (by decide) h0 c1) rfl dX12_comesBack_20 h_σ2 ?_
      refine e_iinc X 1 dX12_comesBack_21 rfl rfl (by decide) ?_
      refine e_goto X 2 dX12_comesBack_24 (by decide) ?_
      have hy9 := Option.some.inj hB; change (σ2) = y9 at hy9; subst hy9
      exact e_le (ih _ σ2 hF (cntN hn) (nnN h0 (cnt_hi hn)) hK) (And.intro rfl (And.intro rfl (trivial)))
set_option maxRecDepth 20000 in
set_option maxHeartbeats 4000000 in
theorem C_M_comesBack (hG : Gok l Γ D s0) (σ : Mem)   {out : Mem} (hF : F_M_comesBack σ = some out) : CT l Γ D s0 yX12_comesBack cX12_comesBack 2 none (0) 0 0 (0) σ [.ref (Γ.1 + 333)] (PI none out) := by
  unfold F_M_comesBack at hF
  refine e_met (own := RX12) hG (by decide +kernel) rfl rfl (Nat.le_of_ble_eq_true rfl) ?_
  intro p e s m args below meth c X hr
  show E p l e _ s m args below meth c Γ D 0 0 _ σ 0 [some (.ref (Γ.1 + 333)), none] []
  refine e_iconst X 0 dX12_comesBack_0 rfl ?_
  refine e_istore_n X rfl dX12_comesBack_1 rfl (by decide) ?_
  obtain ⟨z4, h_z4, hF⟩ := obind_out hF
  refine e_le (L_M_comesBack_2 X hr _ 0 σ h_z4 rfl (by decide) ?_) (And.intro rfl (And.intro rfl (trivial)))
  exact e_vret X hr dX12_comesBack_27 (Nat.le_of_ble_eq_true rfl) (Nat.le_of_ble_eq_true rfl) (by cases hF; exact ⟨rfl, rfl⟩)
end PART

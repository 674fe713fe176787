section PART
variable {p : Program} {l : Launch} {e : Env} {R : Room} {s : State} {m : MethodId} {args : Array Value} {below : List Frame} {meth : Method} {c : Code} {Γ : Gm} {D : va_G} {s0 : State} {cells slots : Nat} {Q : State → Prop} {own : String} {cc : ByteArray} {nL : Nat} {σ : Mem} {pc : Nat} {lv : List (Option Value)} {st : List Value} {Pst : Option Value → Mem → Prop}
def F_M_insures (σ : Mem) (v1 : Int32) (v2 : Int32) : Option (Int32) := obind (F_M_insurers σ v2) fun z1 => some (((F_M_isOf σ z1 v1) &&& 1))
def F_M_gift (σ : Mem) (v1 : Int32) (v2 : Int32) : Option (Mem × Int32) := obind (F_M_isPerson σ v1) fun z1 => (if z1 = 0 then bindT (up σ 333 0 1) fun σ3 => (if 0 < (σ3 333 0) then some ((σ3, 0)) else obind (F_M_remembers σ3) fun z5 => obind (F_M_of z5 v1 0) fun z6 => obind (F_M_has z5 v1 0 ((z6 - 10))) fun z7 => obind (F_M_ofMatch z7 v2 2) fun z8 => obind (F_M_told z7 v2 2 ((F_M_lesser z7 99 ((z8 + 5))))) fun z9 => obind (F_M_ofMatch z9 v2 2) fun z10 => some ((z9, z10))) else obind (F_M_isMatch σ v2) fun z11 => (if z11 = 0 then bindT (up σ 333 0 1) fun σ41 => (if 0 < (σ41 333 0) then some ((σ41, 0)) else obind (F_M_remembers σ41) fun z43 => obind (F_M_of z43 v1 0) fun z44 => obind (F_M_has z43 v1 0 ((z44 - 10))) fun z45 => obind (F_M_ofMatch z45 v2 2) fun z46 => obind (F_M_told z45 v2 2 ((F_M_lesser z45 99 ((z46 + 5))))) fun z47 => obind (F_M_ofMatch z47 v2 2) fun z48 => some ((z47, z48))) else obind (F_M_insures σ v1 v2) fun z13 => (if z13 = 0 then bindT (up σ 333 0 2) fun σ15 => (if 0 < (σ15 333 0) then some ((σ15, 0)) else obind (F_M_remembers σ15) fun z17 => obind (F_M_of z17 v1 0) fun z18 => obind (F_M_has z17 v1 0 ((z18 - 10))) fun z19 => obind (F_M_ofMatch z19 v2 2) fun z20 => obind (F_M_told z19 v2 2 ((F_M_lesser z19 99 ((z20 + 5))))) fun z21 => obind (F_M_ofMatch z21 v2 2) fun z22 => some ((z21, z22))) else obind (F_M_of σ v1 0) fun z23 => (if z23 < 10 then bindT (up σ 333 0 2) fun σ33 => (if 0 < (σ33 333 0) then some ((σ33, 0)) else obind (F_M_remembers σ33) fun z35 => obind (F_M_of z35 v1 0) fun z36 => obind (F_M_has z35 v1 0 ((z36 - 10))) fun z37 => obind (F_M_ofMatch z37 v2 2) fun z38 => obind (F_M_told z37 v2 2 ((F_M_lesser z37 99 ((z38 + 5))))) fun z39 => obind (F_M_ofMatch z39 v2 2) fun z40 => some ((z39, z40))) else bindT (up σ 333 0 0) fun σ25 => (if 0 < (σ25 333 0) then some ((σ25, 0)) else obind (F_M_remembers σ25) fun z27 => obind (F_M_of z27 v1 0) fun z28 => obind (F_M_has z27 v1 0 ((z28 - 10))) fun z29 => obind (F_M_ofMatch z29 v2 2) fun z30 => obind (F_M_told z29 v2 2 ((F_M_lesser z29 99 ((z30 + 5))))) fun z31 => obind (F_M_ofMatch z31 v2 2) fun z32 => some ((z31, z32)))))))
def F_M_meddle (σ : Mem) (v1 : Int32) (v2 : Int32) : Option (Mem × Int32) := obind (F_M_isPerson σ v1) fun z1 => (if z1 = 0 then bindT (up σ 333 0 1) fun σ3 => (if 0 < (σ3 333 0) then some ((σ3, 0)) else obind (F_M_remembers σ3) fun z5 => obind (F_M_ofMatch z5 v2 2) fun z6 => obind (F_M_told z5 v2 2 ((F_M_greater z5 0 ((z6 - 5))))) fun z7 => obind (F_M_ofMatch z7 v2 2) fun z8 => some ((z7, z8))) else obind (F_M_isMatch σ v2) fun z9 => (if z9 = 0 then bindT (up σ 333 0 1) fun σ25 => (if 0 < (σ25 333 0) then some ((σ25, 0)) else obind (F_M_remembers σ25) fun z27 => obind (F_M_ofMatch z27 v2 2) fun z28 => obind (F_M_told z27 v2 2 ((F_M_greater z27 0 ((z28 - 5))))) fun z29 => obind (F_M_ofMatch z29 v2 2) fun z30 => some ((z29, z30))) else obind (F_M_insures σ v1 v2) fun z11 => (if z11 = 0 then bindT (up σ 333 0 2) fun σ19 => (if 0 < (σ19 333 0) then some ((σ19, 0)) else obind (F_M_remembers σ19) fun z21 => obind (F_M_ofMatch z21 v2 2) fun z22 => obind (F_M_told z21 v2 2 ((F_M_greater z21 0 ((z22 - 5))))) fun z23 => obind (F_M_ofMatch z23 v2 2) fun z24 => some ((z23, z24))) else bindT (up σ 333 0 0) fun σ13 => (if 0 < (σ13 333 0) then some ((σ13, 0)) else obind (F_M_remembers σ13) fun z15 => obind (F_M_ofMatch z15 v2 2) fun z16 => obind (F_M_told z15 v2 2 ((F_M_greater z15 0 ((z16 - 5))))) fun z17 => obind (F_M_ofMatch z17 v2 2) fun z18 => some ((z17, z18))))))
def F_M_reinsure (σ : Mem) (v1 : Int32) (v2 : Int32) : Option (Mem × Int32) := obind (F_M_isPerson σ v1) fun z1 => (if z1 = 0 then bindT (up σ 333 0 1) fun σ3 => (if 0 < (σ3 333 0) then some ((σ3, 0)) else obind (F_M_remembers σ3) fun z5 => obind (F_M_of z5 v1 2) fun z6 => obind (F_M_has z5 v1 2 v2) fun z7 => some ((z7, z6))) else (if v2 = (-1) then (if v1 = v2 then bindT (up σ 333 0 2) fun σ15 => (if 0 < (σ15 333 0) then some ((σ15, 0)) else obind (F_M_remembers σ15) fun z17 => obind (F_M_of z17 v1 2) fun z18 => obind (F_M_has z17 v1 2 v2) fun z19 => some ((z19, z18))) else bindT (up σ 333 0 0) fun σ10 => (if 0 < (σ10 333 0) then some ((σ10, 0)) else obind (F_M_remembers σ10) fun z12 => obind (F_M_of z12 v1 2) fun z13 => obind (F_M_has z12 v1 2 v2) fun z14 => some ((z14, z13)))) else obind (F_M_isPerson σ v2) fun z20 => (if z20 = 0 then bindT (up σ 333 0 1) fun σ33 => (if 0 < (σ33 333 0) then some ((σ33, 0)) else obind (F_M_remembers σ33) fun z35 => obind (F_M_of z35 v1 2) fun z36 => obind (F_M_has z35 v1 2 v2) fun z37 => some ((z37, z36))) else (if v1 = v2 then bindT (up σ 333 0 2) fun σ28 => (if 0 < (σ28 333 0) then some ((σ28, 0)) else obind (F_M_remembers σ28) fun z30 => obind (F_M_of z30 v1 2) fun z31 => obind (F_M_has z30 v1 2 v2) fun z32 => some ((z32, z31))) else bindT (up σ 333 0 0) fun σ23 => (if 0 < (σ23 333 0) then some ((σ23, 0)) else obind (F_M_remembers σ23) fun z25 => obind (F_M_of z25 v1 2) fun z26 => obind (F_M_has z25 v1 2 v2) fun z27 => some ((z27, z26)))))))
def F_M_part_ (σ : Mem) (v1 : Int32) : Option (Mem × Int32) := obind (F_M_isMatch σ v1) fun z1 => (if z1 = 0 then bindT (up σ 333 0 1) fun σ15 => (if 0 < (σ15 333 0) then some ((σ15, 0)) else obind (F_M_remembers σ15) fun z17 => obind (F_M_told z17 v1 4 1) fun z18 => obind (F_M_ofMatch z18 v1 2) fun z19 => some ((z18, z19))) else obind (F_M_ofMatch σ v1 4) fun z3 => (if z3 = 1 then bindT (up σ 333 0 2) fun σ10 => (if 0 < (σ10 333 0) then some ((σ10, 0)) else obind (F_M_remembers σ10) fun z12 => obind (F_M_told z12 v1 4 1) fun z13 => obind (F_M_ofMatch z13 v1 2) fun z14 => some ((z13, z14))) else bindT (up σ 333 0 0) fun σ5 => (if 0 < (σ5 333 0) then some ((σ5, 0)) else obind (F_M_remembers σ5) fun z7 => obind (F_M_told z7 v1 4 1) fun z8 => obind (F_M_ofMatch z8 v1 2) fun z9 => some ((z8, z9)))))
def F_M_would (σ : Mem) (v1 : Int32) (v2 : Int32) : Option (Mem × Int32) := obind (F_M_two σ v1 v2) fun z1 => bindT (up σ 333 0 z1) fun σ2 => (if 0 < (σ2 333 0) then some ((σ2, 0)) else obind (F_M_insurersOf σ2 v1 v2) fun z4 => some ((σ2, z4)))
def F_M_best_30_b (σ : Mem) (v1 : Int32) (v3 : Int32) (v2 : Int32) : Option (Int32) := (if v3 = v1 then some (v2) else obind (F_M_wedTo σ v1) fun z7 => (if z7 = (-1) then obind (F_M_wedTo σ v3) fun z9 => (if z9 = (-1) then (if v2 = (-1) then some (v3) else obind (F_M_insurersOf σ v1 v3) fun z12 => obind (F_M_insurersOf σ v1 v2) fun z13 => bindT (((F_M_bits σ z12) - (F_M_bits σ z13))) fun x14 => (if 0 < x14 then some (v3) else (if x14 = 0 then obind (F_M_likes σ v1 v3) fun z17 => obind (F_M_likes σ v1 v2) fun z18 => (if z18 < z17 then some (v3) else some (v2)) else some (v2)))) else some (v2)) else some (v2)))
def F_M_best (σ : Mem) (v1 : Int32) : Option (Mem × Int32) := obind (F_M_isPerson σ v1) fun z1 => (if z1 = 0 then bindT (up σ 333 0 1) fun σ23 => (if 0 < (σ23 333 0) then some ((σ23, 0)) else obind (forSO (fun i s => F_M_best_30_b σ23 v1 i s) (cnt 0 ((σ23 334 3))) 0 (-1)) fun z25 => some ((σ23, z25))) else bindT (up σ 333 0 0) fun σ3 => (if 0 < (σ3 333 0) then some ((σ3, 0)) else obind (forSO (fun i s => F_M_best_30_b σ3 v1 i s) (cnt 0 ((σ3 334 3))) 0 (-1)) fun z22 => some ((σ3, z22))))
def F_M_badMatch (σ : Mem) (v1 : Int32) (v2 : Int32) (v3 : Int32) (v4 : Int32) : Option (Int32) := obind (F_M_isMatch σ v1) fun z1 => (if z1 = 0 then some 1 else (if v3 = 20 then (if (F_M_isIn σ v2 1 v3) = 0 then some 2 else (if (F_M_isIn σ v4 0 9) = 0 then some 2 else some 0)) else (if (F_M_isIn σ v2 0 v3) = 0 then some 2 else (if (F_M_isIn σ v4 0 9) = 0 then some 2 else some 0))))
def F_M_fallsNow_2_b  (v1 : Int32) (σ : Mem) : Option ((Int32 × Mem) ⊕ (Int32 × Mem)) := (if v1 < (σ 334 4) then obind (F_M_claims σ v1) fun z2 => bindT (v1 + 1) fun x3 => some (.inl ((x3, z2.1))) else some (.inr ((v1, σ))))
def F_M_fallsNow_28_b (σ : Mem) (v2 : Int32) (v1 : Int32) : Option (Int32) := obind (F_M_of σ v2 3) fun z6 => (if z6 = 1 then bindT (((14 + (4 * v2)) + 3)) fun i9 => chk (inb i9 450) <| (if (σ 336 i9.toNatClampNeg) = 0 then bindT ((v1 ||| ((1 : Int32) <<< ((v2 : Int32) &&& 31)))) fun x13 => some (x13) else bindT ((v1 ||| 0)) fun x12 => some (x12)) else bindT ((v1 ||| 0)) fun x8 => some (x8))
def F_M_fallsNow (σ : Mem)  : Option (Mem × Int32) := obind (whl (fun s => F_M_fallsNow_2_b  s.1 s.2) FUEL (0, σ)) fun z4 => obind (forSO (fun i s => F_M_fallsNow_28_b z4.2 i s) (cnt 0 ((z4.2 334 3))) 0 0) fun z15 => some ((z4.2, z15))
def F_M_falls (σ : Mem)  : Option (Mem × Int32) := bindT (up σ 333 0 0) fun σ1 => obind (F_M_putsAside σ1) fun z2 => obind (F_M_fallsNow z2) fun z3 => obind (F_M_comesBack z3.1) fun z4 => some ((z4, z3.2))
def F_M_loses (σ : Mem) (v1 : Int32) : Option (Mem × Int32) := obind (F_M_isPerson σ v1) fun z1 => (if z1 = 0 then bindT (up σ 333 0 1) fun σ12 => (if 0 < (σ12 333 0) then some ((σ12, 0)) else obind (F_M_putsAside σ12) fun z14 => obind (F_M_fallsNow z14) fun z15 => bindT (((14 + (4 * v1)) + 0)) fun i16 => chk (inb i16 450) <| obind (F_M_of z15.1 v1 0) fun z18 => bindT ((F_M_greater z15.1 0 (((z15.1 336 i16.toNatClampNeg) - z18)))) fun x19 => obind (F_M_comesBack z15.1) fun z20 => some ((z20, x19))) else bindT (up σ 333 0 0) fun σ3 => (if 0 < (σ3 333 0) then some ((σ3, 0)) else obind (F_M_putsAside σ3) fun z5 => obind (F_M_fallsNow z5) fun z6 => bindT (((14 + (4 * v1)) + 0)) fun i7 => chk (inb i7 450) <| obind (F_M_of z6.1 v1 0) fun z9 => bindT ((F_M_greater z6.1 0 (((z6.1 336 i7.toNatClampNeg) - z9)))) fun x10 => obind (F_M_comesBack z6.1) fun z11 => some ((z11, x10))))
def F_M_holds_34_b (v1 : Int32) (v3 : Int32) (v2 : Int32) (σ : Mem) : Option ((Int32 × Mem) ⊕ (Int32 × Mem)) := (if v2 = (-1) then obind (F_M_has σ v1 0 v3) fun z8 => obind (F_M_fallsNow z8) fun z9 => (if (F_M_isOf z9.1 z9.2 v1) = 0 then obind (F_M_comesBack z9.1) fun z12 => some (.inl ((v3, z12))) else obind (F_M_comesBack z9.1) fun z11 => some (.inl ((v2, z11)))) else some (.inr ((v2, σ))))
def F_M_holds (σ : Mem) (v1 : Int32) : Option (Mem × Int32) := obind (F_M_isPerson σ v1) fun z1 => (if z1 = 0 then bindT (up σ 333 0 1) fun σ15 => (if 0 < (σ15 333 0) then some ((σ15, 0)) else obind (F_M_putsAside σ15) fun z17 => obind (omap mrg (forGO (fun i s => F_M_holds_34_b v1 i s.1 s.2) (cle 0 999) 0 ((-1), z17))) fun z18 => some ((z18.2, z18.1))) else bindT (up σ 333 0 0) fun σ3 => (if 0 < (σ3 333 0) then some ((σ3, 0)) else obind (F_M_putsAside σ3) fun z5 => obind (omap mrg (forGO (fun i s => F_M_holds_34_b v1 i s.1 s.2) (cle 0 999) 0 ((-1), z5))) fun z14 => some ((z14.2, z14.1))))
def F_M_ringOf_9_b (σ : Mem) (v1 : Int32) (v3 : Int32) (v2 : Int32) : Option ((Int32) ⊕ ((Int32) ⊕ (Int32))) := (if v2 = (-1) then some (.inr (.inl v2)) else (if v2 = v1 then some (.inr (.inr v3)) else obind (F_M_of σ v2 2) fun z5 => some (.inl z5)))
def F_M_ringOf (σ : Mem) (v1 : Int32) : Option (Int32) := obind (F_M_of σ v1 2) fun z1 => obind (omap mrg2 (forGO (fun i s => F_M_ringOf_9_b σ v1 i s) (cle 1 8) 1 z1)) fun z7 => sumE z7 (fun s8 => some ((-1))) (fun r9 => some r9)
def F_M_ring (σ : Mem) (v1 : Int32) : Option (Mem × Int32) := obind (F_M_isPerson σ v1) fun z1 => (if z1 = 0 then bindT (up σ 333 0 1) fun σ6 => (if 0 < (σ6 333 0) then some ((σ6, 0)) else obind (F_M_ringOf σ6 v1) fun z8 => some ((σ6, z8))) else bindT (up σ 333 0 0) fun σ3 => (if 0 < (σ3 333 0) then some ((σ3, 0)) else obind (F_M_ringOf σ3 v1) fun z5 => some ((σ3, z5))))
def F_M_leads_10_b (σ : Mem) (v1 : Int32) (v2 : Int32) (v4 : Int32) (v3 : Int32) : Option ((Int32) ⊕ ((Int32) ⊕ (Int32))) := (if v3 = (-1) then some (.inr (.inl v3)) else (if v3 = v2 then some (.inr (.inr 1)) else obind (F_M_of σ v3 2) fun z5 => some (.inl z5)))
def F_M_leads (σ : Mem) (v1 : Int32) (v2 : Int32) : Option (Int32) := obind (F_M_of σ v1 2) fun z1 => obind (omap mrg2 (forGO (fun i s => F_M_leads_10_b σ v1 v2 i s) (cle 1 8) 1 z1)) fun z7 => sumE z7 (fun s8 => some 0) (fun r9 => some r9)
def F_M_rings_37_b (σ : Mem) (v1 : Int32) (v2 : Int32) (v4 : Int32) (v3 : Int32) : Option ((Int32) ⊕ (Int32)) := (if v3 = 0 then some (.inr v3) else obind (F_M_leads σ v2 v4) fun z7 => (if z7 = 0 then some (.inl 1) else some (.inl 0)))
def F_M_rings_9_b (σ : Mem) (v2 : Int32) (v1 : Int32) : Option (Int32) := obind (F_M_ringOf σ v2) fun z3 => (if z3 = (-1) then obind (omap mrg (forGO (fun i s => F_M_rings_37_b σ v1 v2 i s) (cnt 0 v2) 0 0)) fun z10 => (if z10 = 0 then bindT ((v1 + 0)) fun x12 => some (x12) else bindT ((v1 + 1)) fun x13 => some (x13)) else obind (omap mrg (forGO (fun i s => F_M_rings_37_b σ v1 v2 i s) (cnt 0 v2) 0 1)) fun z14 => (if z14 = 0 then bindT ((v1 + 0)) fun x16 => some (x16) else bindT ((v1 + 1)) fun x17 => some (x17)))
def F_M_rings (σ : Mem)  : Option (Mem × Int32) := bindT (up σ 333 0 0) fun σ1 => obind (forSO (fun i s => F_M_rings_9_b σ1 i s) (cnt 0 ((σ1 334 3))) 0 0) fun z19 => some ((σ1, z19))
def F_M_leans_21_b (σ : Mem) (v1 : Int32) (v3 : Int32) (v2 : Int32) : Option ((Int32) ⊕ (Int32)) := (if (σ 333 0) = 0 then obind (F_M_leads σ v3 v1) fun z6 => (if z6 = 0 then bindT ((v2 ||| 0)) fun x8 => some (.inl x8) else bindT ((v2 ||| ((1 : Int32) <<< ((v3 : Int32) &&& 31)))) fun x9 => some (.inl x9)) else some (.inr v2))
def F_M_leans (σ : Mem) (v1 : Int32) : Option (Mem × Int32) := obind (F_M_isPerson σ v1) fun z1 => (if z1 = 0 then bindT (up σ 333 0 1) fun σ12 => obind (omap mrg (forGO (fun i s => F_M_leans_21_b σ12 v1 i s) (cnt 0 ((σ12 334 3))) 0 0)) fun z13 => some ((σ12, z13)) else bindT (up σ 333 0 0) fun σ3 => obind (omap mrg (forGO (fun i s => F_M_leans_21_b σ3 v1 i s) (cnt 0 ((σ3 334 3))) 0 0)) fun z11 => some ((σ3, z11)))
def F_M_ofAside (σ : Mem) (v1 : Int32) : Option (Int32) := bindT (((110 + (5 * v1)) + 2)) fun i1 => chk (inb i1 450) <| some ((σ 336 i1.toNatClampNeg))
def F_M_by (σ : Mem) (v1 : Int32) (v2 : Int32) (v3 : Int32) : Option (Mem) := (if v3 < (σ 334 5) then chk (inb v2 100) <| bindT (up σ 341 v2.toNatClampNeg 2000000000) fun σ7 => some σ7 else bindT (((100 * (v1 + 1)) + v3)) fun i2 => chk (inb i2 2100) <| chk (inb v2 100) <| bindT (up σ 341 v2.toNatClampNeg ((σ 340 i2.toNatClampNeg))) fun σ5 => some σ5)
def F_M_fewest_7_b (σ : Mem) (v1 : Int32) (v2 : Int32) (v4 : Int32) (v3 : Int32) : Option (Int32) := bindT ((F_M_lesser σ 99 ((v2 + (5 * v4))))) fun i2 => chk (inb i2 100) <| bindT ((σ 341 i2.toNatClampNeg)) fun x4 => (if x4 < 2000000000 then bindT ((F_M_lesser σ v3 ((v4 + x4)))) fun x6 => some (x6) else some (v3))
def F_M_fewest (σ : Mem) (v1 : Int32) (v2 : Int32) : Option (Int32) := obind (forSO (fun i s => F_M_fewest_7_b σ v1 v2 i s) (cle 0 20) 0 2000000000) fun z8 => some z8
def F_M_ratherOf_29_b (σ : Mem) (v1 : Int32) (v2 : Int32) (v4 : Int32) (v3 : Int32) : Option (Int32) := (if v4 = v1 then bindT ((v3 ||| 0)) fun x7 => some (x7) else obind (F_M_likes σ v1 v4) fun z8 => (if v2 < z8 then bindT ((v3 ||| ((1 : Int32) <<< ((v4 : Int32) &&& 31)))) fun x11 => some (x11) else bindT ((v3 ||| 0)) fun x10 => some (x10)))
def F_M_ratherOf (σ : Mem) (v1 : Int32) : Option (Int32) := obind (F_M_wedTo σ v1) fun z1 => (if z1 = (-1) then obind (forSO (fun i s => F_M_ratherOf_29_b σ v1 0 i s) (cnt 0 ((σ 334 3))) 0 0) fun z14 => some z14 else obind (F_M_wedTo σ v1) fun z3 => obind (F_M_likes σ v1 z3) fun z4 => obind (forSO (fun i s => F_M_ratherOf_29_b σ v1 z4 i s) (cnt 0 ((σ 334 3))) 0 0) fun z13 => some z13)
def F_M_rather (σ : Mem) (v1 : Int32) : Option (Mem × Int32) := obind (F_M_isPerson σ v1) fun z1 => (if z1 = 0 then bindT (up σ 333 0 1) fun σ6 => (if 0 < (σ6 333 0) then some ((σ6, 0)) else obind (F_M_ratherOf σ6 v1) fun z8 => some ((σ6, z8))) else bindT (up σ 333 0 0) fun σ3 => (if 0 < (σ3 333 0) then some ((σ3, 0)) else obind (F_M_ratherOf σ3 v1) fun z5 => some ((σ3, z5))))
def F_M_lovers_29_b (σ : Mem) (v1 : Int32) (v4 : Int32) (v5 : Int32) (v2 : Int32) (v3 : Int32) : Option (Int32 × Int32) := obind (F_M_ratherOf σ v4) fun z5 => (if (F_M_isOf σ z5 v5) = 0 then some ((v2, v3)) else obind (F_M_ratherOf σ v5) fun z7 => (if (F_M_isOf σ z7 v4) = 0 then some ((v2, v3)) else obind (F_M_of σ v4 3) fun z9 => obind (F_M_of σ v5 3) fun z10 => (if 0 < (z9 + z10) then some ((v2, v3)) else bindT (v2 + 1) fun x12 => (if v3 = (-1) then bindT (((10 * v4) + v5)) fun x14 => some ((x12, x14)) else some ((x12, v3))))))
def F_M_lovers_12_b (σ : Mem) (v1 : Int32) (v4 : Int32) (v2 : Int32) (v3 : Int32) : Option (Int32 × Int32) := bindT ((v4 + 1)) fun x3 => obind (forSO (fun i s => F_M_lovers_29_b σ v1 v4 i s.1 s.2) (cnt x3 ((σ 334 3))) x3 (v2, v3)) fun z16 => some ((z16.1, z16.2))
def F_M_lovers (σ : Mem) (v1 : Int32) : Option (Mem × Int32) := bindT (up σ 333 0 0) fun σ1 => obind (forSO (fun i s => F_M_lovers_12_b σ1 v1 i s.1 s.2) (cnt 0 ((σ1 334 3))) 0 (0, (-1))) fun z18 => (if v1 = 0 then some ((σ1, z18.1)) else some ((σ1, z18.2)))
def F_M_prefers (σ : Mem) (v1 : Int32) (v2 : Int32) : Option (Int32) := obind (F_M_likes σ v1 v2) fun z1 => chk (inb v1 8) <| (if (σ 342 v1.toNatClampNeg) = v1 then (if (-1) < z1 then some 1 else some 0) else chk (inb v1 8) <| obind (F_M_likes σ v1 ((σ 342 v1.toNatClampNeg))) fun z5 => (if z5 < z1 then some 1 else some 0))
def F_M_isSteady_16_b (σ : Mem) (v1 : Int32) (v2 : Int32) : Option ((Unit) ⊕ (Int32)) := chk (inb v1 8) <| (if (σ 342 v1.toNatClampNeg) = v2 then some (.inl (())) else obind (F_M_prefers σ v1 v2) fun z6 => (if z6 = 0 then some (.inl (())) else obind (F_M_prefers σ v2 v1) fun z8 => (if z8 = 0 then some (.inl (())) else some (.inr 0))))
def F_M_isSteady_2_b (σ : Mem) (v1 : Int32) : Option ((Unit) ⊕ (Int32)) := bindT ((v1 + 1)) fun x2 => obind (forGO (fun i s => F_M_isSteady_16_b σ v1 i ) (cnt x2 ((σ 334 3))) x2 ()) fun z11 => sumE z11 (fun s12 => some (.inl (()))) (fun r13 => some (.inr r13))
def F_M_isSteady (σ : Mem)  : Option (Int32) := obind (forGO (fun i s => F_M_isSteady_2_b σ i ) (cnt 0 ((σ 334 3))) 0 ()) fun z15 => sumE z15 (fun s16 => some 1) (fun r17 => some r17)
def F_M_mayWed (σ : Mem) (v1 : Int32) (v2 : Int32) : Option (Int32) := obind (F_M_wedTo σ v1) fun z1 => (if z1 = (-1) then obind (F_M_wedTo σ v2) fun z3 => (if z3 = (-1) then obind (F_M_of σ v1 1) fun z5 => (if (F_M_isOf σ z5 v2) = 0 then obind (F_M_of σ v2 1) fun z7 => (if (F_M_isOf σ z7 v1) = 0 then some 0 else some 1) else some 1) else some 0) else some 0)
def F_M_weddings_32_b (σ : Mem) (v1 : Int32) (v2 : Int32) (v3 : Int32) : Option ((Int32) ⊕ (Int32)) := (if (F_M_isOf σ v2 v3) = 0 then bindT (v3 + 1) fun x6 => some (.inl x6) else some (.inr v3))
def F_M_weddings_69_b (σ : Mem) (v1 : Int32) (v2 : Int32) (v3 : Int32) (v4 : Int32) (v6 : Int32) (v5 : Int32) : Option (Int32) := (if (F_M_isOf σ v2 v6) = 0 then some (v5) else obind (F_M_mayWed σ v3 v6) fun z14 => (if z14 = 0 then some (v5) else bindT ((v4 &&& (((1 : Int32) <<< ((v6 : Int32) &&& 31)) ^^^ (-1)))) fun i16 => chk (inb i16 256) <| bindT ((F_M_greater σ v5 ((1 + (σ 345 i16.toNatClampNeg))))) fun x18 => some (x18)))
def F_M_weddings_25_b (v1 : Int32) (v2 : Int32) (σ : Mem) : Option ((Int32 × Mem) ⊕ (Int32 × Mem)) := (if v1 < v2 then some (.inr ((v2, σ))) else obind (whl (fun s => F_M_weddings_32_b σ v1 v2 s) FUEL 0) fun z7 => bindT ((v2 &&& (((1 : Int32) <<< ((z7 : Int32) &&& 31)) ^^^ (-1)))) fun x8 => chk (inb x8 256) <| bindT ((σ 345 x8.toNatClampNeg)) fun x10 => bindT ((z7 + 1)) fun x11 => obind (forSO (fun i s => F_M_weddings_69_b σ v1 v2 z7 x8 i s) (cnt x11 ((σ 334 3))) x11 x10) fun z20 => chk (inb v2 256) <| bindT (up σ 345 v2.toNatClampNeg z20) fun σ22 => bindT (v2 + 1) fun x23 => some (.inl ((x23, σ22))))
def F_M_weddings (σ : Mem)  : Option (Mem × Int32) := bindT (up σ 333 0 0) fun σ1 => bindT ((((1 : Int32) <<< (((σ1 334 3) : Int32) &&& 31)) - 1)) fun x2 => bindT (up σ1 345 0 0) fun σ3 => obind (whl (fun s => F_M_weddings_25_b x2 s.1 s.2) FUEL (1, σ3)) fun z24 => chk (inb x2 256) <| some ((z24.2, (z24.2 345 x2.toNatClampNeg)))
def F_M_told__30_b (σ : Mem) (v1 : Int32) (v2 : Int32) (v3 : Int32) : Option ((Int32 × Int32) ⊕ (Int32 × Int32)) := (if v3 < v1 then (if v2 = 0 then some (.inr ((v2, v3))) else chk (inb v3 400) <| bindT ((v3 + 1)) fun i7 => chk (inb i7 400) <| (if (σ 338 i7.toNatClampNeg) < (σ 338 v3.toNatClampNeg) then bindT (v3 + 3) fun x10 => some (.inl ((0, x10))) else bindT ((v3 + 1)) fun i11 => chk (inb i11 400) <| (if (σ 338 i11.toNatClampNeg) < (σ 334 3) then bindT (v3 + 3) fun x15 => some (.inl ((1, x15))) else bindT (v3 + 3) fun x14 => some (.inl ((0, x14)))))) else some (.inr ((v2, v3))))
def F_M_told__148_b (σ : Mem) (v1 : Int32) (v2 : Int32) (v3 : Int32) (v4 : Int32) (v5 : Int32) (v6 : Int32) (v7 : Int32) : Option ((Int32 × Int32) ⊕ (Int32 × Int32)) := bindT ((v5 + 1)) fun i26 => chk (inb i26 400) <| (if (σ 338 i26.toNatClampNeg) < v7 then some (.inr ((v6, v7))) else bindT ((v6 + (((v4 : Int32) >>> ((v7 : Int32) &&& 31)) &&& 1))) fun x29 => bindT (v7 + 1) fun x30 => some (.inl ((x29, x30))))
def F_M_told__120_b (v1 : Int32) (v2 : Int32) (v3 : Int32) (v4 : Int32) (v5 : Int32) (σ : Mem) : Option ((Int32 × Mem) ⊕ (Int32 × Mem)) := (if v5 < v1 then chk (inb v4 256) <| (if (σ 344 v4.toNatClampNeg) = 0 then some (.inr ((v5, σ))) else chk (inb v5 400) <| bindT ((σ 338 v5.toNatClampNeg)) fun x25 => obind (whl (fun s => F_M_told__148_b σ v1 v2 v3 v4 v5 s.1 s.2) FUEL (0, x25)) fun z31 => bindT ((v5 + 2)) fun i32 => chk (inb i32 400) <| (if z31.1 = (σ 338 i32.toNatClampNeg) then chk (inb v4 256) <| bindT (up σ 344 v4.toNatClampNeg 1) fun σ39 => bindT (v5 + 3) fun x40 => some (.inl ((x40, σ39))) else chk (inb v4 256) <| bindT (up σ 344 v4.toNatClampNeg 0) fun σ36 => bindT (v5 + 3) fun x37 => some (.inl ((x37, σ36))))) else some (.inr ((v5, σ))))
def F_M_told__96_b (v1 : Int32) (v2 : Int32) (v3 : Int32) (v4 : Int32) (σ : Mem) : Option ((Int32 × Int32 × Mem) ⊕ (Int32 × Int32 × Mem)) := (if v4 < ((1 : Int32) <<< (((σ 334 3) : Int32) &&& 31)) then chk (inb v4 256) <| bindT (up σ 344 v4.toNatClampNeg 1) fun σ20 => obind (whl (fun s => F_M_told__120_b v1 v2 v3 v4 s.1 s.2) FUEL (0, σ20)) fun z41 => chk (inb v4 256) <| (if (z41.2 344 v4.toNatClampNeg) = 0 then bindT ((v3 + 0)) fun x44 => bindT (v4 + 1) fun x45 => some (.inl ((x44, x45, z41.2))) else bindT ((v3 + 1)) fun x46 => bindT (v4 + 1) fun x47 => some (.inl ((x46, x47, z41.2)))) else some (.inr ((v3, v4, σ))))
def F_M_told_ (σ : Mem)  : Option (Mem × Int32) := bindT ((σ 333 8)) fun x1 => bindT (up σ 333 8 0) fun σ2 => (if (x1 - x1 / 3 * 3) = 0 then (if 36 < x1 then obind (whl (fun s => F_M_told__30_b σ2 x1 s.1 s.2) FUEL (0, 0)) fun z50 => (if z50.1 = 0 then some ((σ2, (-1))) else obind (whl (fun s => F_M_told__96_b x1 z50.1 s.1 s.2.1 s.2.2) FUEL (0, 0, σ2)) fun z52 => some ((z52.2.2, z52.1))) else obind (whl (fun s => F_M_told__30_b σ2 x1 s.1 s.2) FUEL (1, 0)) fun z53 => (if z53.1 = 0 then some ((σ2, (-1))) else obind (whl (fun s => F_M_told__96_b x1 z53.1 s.1 s.2.1 s.2.2) FUEL (0, 0, σ2)) fun z55 => some ((z55.2.2, z55.1)))) else obind (whl (fun s => F_M_told__30_b σ2 x1 s.1 s.2) FUEL (0, 0)) fun z16 => (if z16.1 = 0 then some ((σ2, (-1))) else obind (whl (fun s => F_M_told__96_b x1 z16.1 s.1 s.2.1 s.2.2) FUEL (0, 0, σ2)) fun z48 => some ((z48.2.2, z48.1))))
def F_M_with_4_b (σ : Mem) (v1 : Int32) (v3 : Int32) (v2 : Int32) : Option (Int32) := chk (inb v3 256) <| (if (σ 344 v3.toNatClampNeg) = 0 then bindT ((v2 + 0)) fun x4 => some (x4) else (if (F_M_isOf σ v3 v1) = 0 then bindT ((v2 + 0)) fun x6 => some (x6) else bindT ((v2 + 1)) fun x7 => some (x7)))
def F_M_with (σ : Mem) (v1 : Int32) : Option (Int32) := obind (forSO (fun i s => F_M_with_4_b σ v1 i s) (cnt 0 (((1 : Int32) <<< (((σ 334 3) : Int32) &&& 31)))) 0 0) fun z9 => some z9
def F_M_anniversary_48_b (σ : Mem) (v1 : Int32) (v2 : Int32) (v4 : Int32) (v3 : Int32) : Option (Int32) := (if 0 < v2 then obind (F_M_with σ v4) fun z10 => (if z10 = v2 then bindT ((v3 ||| ((1 : Int32) <<< ((v4 : Int32) &&& 31)))) fun x13 => some (x13) else bindT ((v3 ||| 0)) fun x12 => some (x12)) else bindT ((v3 ||| 0)) fun x9 => some (x9))
def F_M_anniversary (σ : Mem) (v1 : Int32) : Option (Mem × Int32) := obind (F_M_told_ σ) fun z1 => (if z1.2 = (-1) then bindT (up z1.1 333 0 1) fun σ17 => (if 0 < (σ17 333 0) then (if 0 < (σ17 333 0) then some ((σ17, 0)) else some ((σ17, z1.2))) else (if v1 = 0 then (if 0 < (σ17 333 0) then some ((σ17, 0)) else some ((σ17, z1.2))) else obind (forSO (fun i s => F_M_anniversary_48_b σ17 v1 z1.2 i s) (cnt 0 ((σ17 334 3))) 0 0) fun z21 => some ((σ17, z21)))) else bindT (up z1.1 333 0 0) fun σ3 => (if 0 < (σ3 333 0) then (if 0 < (σ3 333 0) then some ((σ3, 0)) else some ((σ3, z1.2))) else (if v1 = 0 then (if 0 < (σ3 333 0) then some ((σ3, 0)) else some ((σ3, z1.2))) else obind (forSO (fun i s => F_M_anniversary_48_b σ3 v1 z1.2 i s) (cnt 0 ((σ3 334 3))) 0 0) fun z15 => some ((σ3, z15)))))
def F_M_dance_37_b (σ : Mem) (v1 : Int32) (v4 : Int32) (v2 : Int32) (v3 : Int32) : Option ((Int32 × Int32) ⊕ (Int32 × Int32)) := (if 1 < v1 then obind (F_M_with σ v4) fun z7 => (if (F_M_greater σ z7 ((v1 - z7))) < v3 then bindT ((F_M_greater σ z7 ((v1 - z7)))) fun x9 => some (.inl ((v4, x9))) else some (.inl ((v2, v3)))) else some (.inr ((v2, v3))))
def F_M_dance (σ : Mem)  : Option (Mem × Int32) := obind (F_M_told_ σ) fun z1 => (if z1.2 = (-1) then bindT (up z1.1 333 0 1) fun σ12 => (if 0 < (σ12 333 0) then some ((σ12, 0)) else obind (omap mrg (forGO (fun i s => F_M_dance_37_b σ12 z1.2 i s.1 s.2) (cnt 0 ((σ12 334 3))) 0 ((-1), 2000000000))) fun z14 => some ((σ12, z14.1))) else bindT (up z1.1 333 0 0) fun σ3 => (if 0 < (σ3 333 0) then some ((σ3, 0)) else obind (omap mrg (forGO (fun i s => F_M_dance_37_b σ3 z1.2 i s.1 s.2) (cnt 0 ((σ3 334 3))) 0 ((-1), 2000000000))) fun z11 => some ((σ3, z11.1))))
def F_M_richest_9_b (σ : Mem) (v2 : Int32) (v1 : Int32) : Option (Int32) := obind (F_M_of σ v2 3) fun z3 => (if z3 = 0 then (if v1 = (-1) then some (v2) else obind (F_M_of σ v2 0) fun z6 => obind (F_M_of σ v1 0) fun z7 => (if z7 < z6 then some (v2) else some (v1))) else some (v1))
def F_M_richest (σ : Mem)  : Option (Mem × Int32) := bindT (up σ 333 0 0) fun σ1 => obind (forSO (fun i s => F_M_richest_9_b σ1 i s) (cnt 0 ((σ1 334 3))) 0 (-1)) fun z10 => some ((σ1, z10))
def F_M_ruinedOnes_4_b (σ : Mem) (v2 : Int32) (v1 : Int32) : Option (Int32) := obind (F_M_of σ v2 3) fun z2 => bindT ((v1 ||| ((z2 : Int32) <<< ((v2 : Int32) &&& 31)))) fun x3 => some (x3)
def F_M_ruinedOnes (σ : Mem)  : Option (Int32) := obind (forSO (fun i s => F_M_ruinedOnes_4_b σ i s) (cnt 0 ((σ 334 3))) 0 0) fun z5 => some z5
def F_M_logged (σ : Mem) (v1 : Int32) (v2 : Int32) : Option (Int32) := bindT (((210 + (4 * v1)) + v2)) fun i1 => chk (inb i1 850) <| some ((σ 334 i1.toNatClampNeg))
def F_M_led_22_b (σ : Mem) (v1 : Int32) (v2 : Int32) (v4 : Int32) (v3 : Int32) : Option ((Int32) ⊕ (Int32)) := (if (σ 333 0) = 0 then obind (F_M_logged σ v4 1) fun z6 => (if z6 = v1 then (if v2 = 0 then bindT ((v3 + 1)) fun x9 => some (.inl x9) else obind (F_M_logged σ v4 2) fun z10 => bindT ((v3 + z10)) fun x11 => some (.inl x11)) else bindT ((v3 + 0)) fun x12 => some (.inl x12)) else some (.inr v3))
def F_M_led (σ : Mem) (v1 : Int32) (v2 : Int32) : Option (Mem × Int32) := obind (F_M_isMatch σ v1) fun z1 => (if z1 = 0 then bindT (up σ 333 0 1) fun σ15 => obind (omap mrg (forGO (fun i s => F_M_led_22_b σ15 v1 v2 i s) (cnt 0 ((σ15 334 11))) 0 0)) fun z16 => some ((σ15, z16)) else bindT (up σ 333 0 0) fun σ3 => obind (omap mrg (forGO (fun i s => F_M_led_22_b σ3 v1 v2 i s) (cnt 0 ((σ3 334 11))) 0 0)) fun z14 => some ((σ3, z14)))
def F_M_log (σ : Mem) (v1 : Int32) (v2 : Int32) : Option (Mem × Int32) := (if (F_M_isIn σ v2 0 3) = 0 then bindT (up σ 333 0 1) fun σ6 => (if 0 < (σ6 333 0) then some ((σ6, 0)) else (if (F_M_isIn σ6 v1 0 (((σ6 334 11) - 1))) = 0 then some ((σ6, (-1))) else obind (F_M_logged σ6 v1 v2) fun z9 => some ((σ6, z9)))) else bindT (up σ 333 0 0) fun σ2 => (if 0 < (σ2 333 0) then some ((σ2, 0)) else (if (F_M_isIn σ2 v1 0 (((σ2 334 11) - 1))) = 0 then some ((σ2, (-1))) else obind (F_M_logged σ2 v1 v2) fun z5 => some ((σ2, z5)))))
def F_M_seed (σ : Mem) (v1 : Int32) : Option (Mem × Int32) := bindT (up σ 333 0 0) fun σ1 => bindT ((σ1 334 12)) fun x2 => bindT (up σ1 334 12 v1) fun σ3 => some ((σ3, x2))
def F_M_undo_26_b  (v1 : Int32) (σ : Mem) : Option (Mem) := bindT (((450 * (σ 333 6)) + v1)) fun i5 => chk (inb i5 5400) <| bindT (up σ 334 v1.toNatClampNeg ((σ 337 i5.toNatClampNeg))) fun σ7 => some (σ7)
def F_M_undo (σ : Mem)  : Option (Mem × Int32) := bindT (up σ 333 0 0) fun σ1 => (if (σ1 333 6) = 0 then some ((σ1, 0)) else bindT (up σ1 333 6 (((σ1 333 6) - 1))) fun σ3 => obind (forSO (fun i s => F_M_undo_26_b  i s) (cnt 0 450) 0 σ3) fun z9 => some ((z9, 1)))
def F_M_image_7_b  (v1 : Int32) (σ : Mem) : Option (Mem) := bindT (up σ 335 v1.toNatClampNeg ((σ 334 v1.toNatClampNeg))) fun σ3 => some (σ3)
def F_M_image (σ : Mem)  : Option (Mem) := bindT (up σ 333 0 0) fun σ1 => obind (forSO (fun i s => F_M_image_7_b  i s) (cnt 0 850) 0 σ1) fun z5 => bindT (up z5 333 3 1) fun σ6 => some σ6
def F_M_back_16_b  (v1 : Int32) (σ : Mem) : Option (Mem) := bindT (up σ 334 v1.toNatClampNeg ((σ 335 v1.toNatClampNeg))) fun σ4 => some (σ4)
def F_M_back (σ : Mem)  : Option (Mem × Int32) := bindT (up σ 333 0 0) fun σ1 => (if (σ1 333 3) = 0 then some ((σ1, 0)) else obind (forSO (fun i s => F_M_back_16_b  i s) (cnt 0 850) 0 σ1) fun z6 => bindT (up z6 333 6 0) fun σ7 => some ((σ7, 1)))
def F_M_wedOnes_4_b (σ : Mem) (v2 : Int32) (v1 : Int32) : Option (Int32) := obind (F_M_wedTo σ v2) fun z2 => (if z2 = (-1) then bindT ((v1 ||| 0)) fun x4 => some (x4) else bindT ((v1 ||| ((1 : Int32) <<< ((v2 : Int32) &&& 31)))) fun x5 => some (x5))
def F_M_wedOnes (σ : Mem)  : Option (Int32) := obind (forSO (fun i s => F_M_wedOnes_4_b σ i s) (cnt 0 ((σ 334 3))) 0 0) fun z7 => some z7
def F_M_count (σ : Mem) (v1 : Int32) : Option (Mem × Int32) := bindT (up σ 333 0 0) fun σ1 => (if v1 = 0 then some ((σ1, (σ1 334 3))) else (if v1 = 1 then some ((σ1, (σ1 334 4))) else (if v1 = 2 then some ((σ1, (σ1 334 0))) else (if v1 = 3 then some ((σ1, (σ1 334 1))) else (if v1 = 4 then some ((σ1, (σ1 334 8))) else (if v1 = 5 then some ((σ1, (σ1 334 9))) else (if (F_M_isIn σ1 v1 6 8) = 0 then (if v1 = 9 then obind (F_M_wealths σ1) fun z17 => some ((σ1, z17)) else (if v1 = 10 then obind (F_M_ruinedOnes σ1) fun z16 => some ((σ1, z16)) else (if v1 = 11 then obind (F_M_wedOnes σ1) fun z15 => some ((σ1, z15)) else (if v1 = 12 then some ((σ1, (σ1 334 10))) else (if v1 = 13 then some ((σ1, (σ1 334 11))) else (if v1 = 14 then some ((σ1, (σ1 333 6))) else some ((σ1, (-1))))))))) else bindT (((5 + v1) - 6)) fun i18 => chk (inb i18 850) <| some ((σ1, (σ1 334 i18.toNatClampNeg))))))))))
def F_M_person (σ : Mem) (v1 : Int32) (v2 : Int32) : Option (Mem × Int32) := obind (F_M_isPerson σ v1) fun z1 => (if z1 = 0 then bindT (up σ 333 0 1) fun σ42 => (if 0 < (σ42 333 0) then some ((σ42, 0)) else (if v2 = 0 then obind (F_M_of σ42 v1 0) fun z60 => some ((σ42, z60)) else (if v2 = 1 then obind (F_M_of σ42 v1 1) fun z59 => some ((σ42, z59)) else (if v2 = 2 then obind (F_M_askersOf σ42 v1) fun z58 => some ((σ42, z58)) else (if v2 = 3 then obind (F_M_of σ42 v1 2) fun z57 => some ((σ42, z57)) else (if v2 = 4 then obind (F_M_of σ42 v1 3) fun z56 => some ((σ42, z56)) else (if v2 = 5 then obind (F_M_wedTo σ42 v1) fun z55 => some ((σ42, z55)) else obind (F_M_wealths σ42) fun z50 => (if z50 = 0 then some ((σ42, 0)) else obind (F_M_of σ42 v1 0) fun z52 => obind (F_M_wealths σ42) fun z53 => chk (nz z53) <| some ((σ42, ((100 * z52) / z53))))))))))) else (if (F_M_isIn σ v2 0 6) = 0 then bindT (up σ 333 0 2) fun σ23 => (if 0 < (σ23 333 0) then some ((σ23, 0)) else (if v2 = 0 then obind (F_M_of σ23 v1 0) fun z41 => some ((σ23, z41)) else (if v2 = 1 then obind (F_M_of σ23 v1 1) fun z40 => some ((σ23, z40)) else (if v2 = 2 then obind (F_M_askersOf σ23 v1) fun z39 => some ((σ23, z39)) else (if v2 = 3 then obind (F_M_of σ23 v1 2) fun z38 => some ((σ23, z38)) else (if v2 = 4 then obind (F_M_of σ23 v1 3) fun z37 => some ((σ23, z37)) else (if v2 = 5 then obind (F_M_wedTo σ23 v1) fun z36 => some ((σ23, z36)) else obind (F_M_wealths σ23) fun z31 => (if z31 = 0 then some ((σ23, 0)) else obind (F_M_of σ23 v1 0) fun z33 => obind (F_M_wealths σ23) fun z34 => chk (nz z34) <| some ((σ23, ((100 * z33) / z34))))))))))) else bindT (up σ 333 0 0) fun σ4 => (if 0 < (σ4 333 0) then some ((σ4, 0)) else (if v2 = 0 then obind (F_M_of σ4 v1 0) fun z22 => some ((σ4, z22)) else (if v2 = 1 then obind (F_M_of σ4 v1 1) fun z21 => some ((σ4, z21)) else (if v2 = 2 then obind (F_M_askersOf σ4 v1) fun z20 => some ((σ4, z20)) else (if v2 = 3 then obind (F_M_of σ4 v1 2) fun z19 => some ((σ4, z19)) else (if v2 = 4 then obind (F_M_of σ4 v1 3) fun z18 => some ((σ4, z18)) else (if v2 = 5 then obind (F_M_wedTo σ4 v1) fun z17 => some ((σ4, z17)) else obind (F_M_wealths σ4) fun z12 => (if z12 = 0 then some ((σ4, 0)) else obind (F_M_of σ4 v1 0) fun z14 => obind (F_M_wealths σ4) fun z15 => chk (nz z15) <| some ((σ4, ((100 * z14) / z15)))))))))))))
set_option maxRecDepth 20000 in
set_option maxHeartbeats 4000000 in
theorem C_M_insures (hG : Gok l Γ D s0) (σ : Mem) (v1 : Int32) (v2 : Int32)  {out : Int32} (hF : F_M_insures σ v1 v2 = some out) : CT l Γ D s0 yX12_insures cX12_insures 3 (some .boolean) (3) 0 0 (67) σ [.ref (Γ.1 + 333), .int v1, .int v2] (PI (some (.int out)) σ) := by
  unfold F_M_insures at hF
  refine e_met (own := RX12) hG (by decide +kernel) rfl rfl (Nat.le_of_ble_eq_true rfl) ?_
  intro p e s m args below meth c X hr
  show E p l e _ s m args below meth c Γ D 0 0 _ σ 0 [some (.ref (Γ.1 + 333)), some (.int v1), some (.int v2)] []
  refine e_aload_n X dX12_insures_0 rfl rfl ?_
  refine e_iload_n X dX12_insures_1 rfl rfl ?_
  obtain ⟨z1, h_z1, hF⟩ := obind_out hF
  refine e_callVi X (r := z1) (σ1 := σ) [.int v2] [] (C_M_insurers (Cx_gok X) σ v2 h_z1) gv_X12_256 yk_X12_insurers rfl (ent_lt (rfl : entTbl[333]? = some (13, 0))) (ent_at (rfl : entTbl[333]? = some (13, 0)) _) (rfl : vCl[11]? = some (RX12, TX12, 24)) ⟨Nat.le_of_ble_eq_true rfl, Nat.le_of_ble_eq_true rfl⟩ ⟨Nat.le_of_ble_eq_true rfl, Nat.le_of_ble_eq_true rfl⟩ (Nat.le_of_ble_eq_true rfl) dX12_insures_2 rfl ?_
  refine e_iload_n X dX12_insures_5 rfl rfl ?_
  refine e_callSi X (r := (F_M_isOf σ z1 v1)) (σ1 := σ) [.int z1, .int v1] [] (C_M_isOf (Cx_gok X) σ z1 v1) gs_X12_65 yk_X12_isOf rfl ⟨Nat.le_of_ble_eq_true rfl, Nat.le_of_ble_eq_true rfl⟩ ⟨Nat.le_of_ble_eq_true rfl, Nat.le_of_ble_eq_true rfl⟩ (Nat.le_of_ble_eq_true rfl) dX12_insures_6 rfl ?_
  exact e_zret X hr rfl dX12_insures_9 (Nat.le_of_ble_eq_true rfl) (Nat.le_of_ble_eq_true rfl) (by cases hF; exact ⟨rfl, rfl⟩)
set_option maxRecDepth 20000 in
set_option maxHeartbeats 4000000 in
theorem C_M_gift (hG : Gok l Γ D s0) (σ : Mem) (v1 : Int32) (v2 : Int32)  {out : Mem × Int32} (hF : F_M_gift σ v1 v2 = some out) : CT l Γ D s0 yX12_gift cX12_gift 3 (some .int) (4) 0 0 (89) σ [.ref (Γ.1 + 333), .int v1, .int v2] (PI (some (.int out.2)) out.1) := by
  unfold F_M_gift at hF
  refine e_met (own := RX12) hG (by decide +kernel) rfl rfl (Nat.le_of_ble_eq_true rfl) ?_
  intro p e s m args below meth c X hr
  show E p l e _ s m args below meth c Γ D 0 0 _ σ 0 [some (.ref (Γ.1 + 333)), some (.int v1), some (.int v2)] []
  refine e_aload_n X dX12_gift_0 rfl rfl ?_
  refine e_aload_n X dX12_gift_1 rfl rfl ?_
  refine e_iload_n X dX12_gift_2 rfl rfl ?_
  obtain ⟨z1, h_z1, hF⟩ := obind_out hF
  refine e_callVi X (r := z1) (σ1 := σ) [.int v1] [.ref (Γ.1 + 333)] (C_M_isPerson (Cx_gok X) σ v1 h_z1) gv_X12_293 yk_X12_isPerson rfl (ent_lt (rfl : entTbl[333]? = some (13, 0))) (ent_at (rfl : entTbl[333]? = some (13, 0)) _) (rfl : vCl[11]? = some (RX12, TX12, 24)) ⟨Nat.le_of_ble_eq_true rfl, Nat.le_of_ble_eq_true rfl⟩ ⟨Nat.le_of_ble_eq_true rfl, Nat.le_of_ble_eq_true rfl⟩ (Nat.le_of_ble_eq_true rfl) dX12_gift_3 rfl ?_
  refine e_if_eq X 17 dX12_gift_6 (by decide) (fun c2 => ?_) (fun c2 => ?_)
  · skip
    rw [if_pos c2] at hF
    refine e_iconst X 1 dX12_gift_17 rfl ?_
    refine e_goto X 46 dX12_gift_18 (by decide) ?_
    obtain ⟨σ3, h_σ3, hF⟩ := bindT_out hF
    refine pu_M_thrown X wf_X12_51 dX12_gift_46 h_σ3 ?_
    refine e_aload_n X dX12_gift_49 rfl rfl ?_
    refine ge_M_thrown X wf_X12_51 dX12_gift_50 ?_
    refine e_if_le X 58 dX12_gift_53 (by decide) (fun c4 => ?_) (fun c4 => ?_)
    · skip
      rw [if_neg c4] at hF
      refine e_aload_n X dX12_gift_58 rfl rfl ?_
      obtain ⟨z5, h_z5, hF⟩ := obind_out hF
      refine e_callVv X (σ1 := z5) [] [] (C_M_remembers (Cx_gok X) σ3 h_z5) gv_X12_308 yk_X12_remembers rfl (ent_lt (rfl : entTbl[333]? = some (13, 0))) (ent_at (rfl : entTbl[333]? = some (13, 0)) _) (rfl : vCl[11]? = some (RX12, TX12, 24)) ⟨Nat.le_of_ble_eq_true rfl, Nat.le_of_ble_eq_true rfl⟩ ⟨Nat.le_of_ble_eq_true rfl, Nat.le_of_ble_eq_true rfl⟩ (Nat.le_of_ble_eq_true rfl) dX12_gift_59 rfl ?_
      refine e_aload_n X dX12_gift_62 rfl rfl ?_
      refine e_iload_n X dX12_gift_63 rfl rfl ?_
      refine e_iconst X 0 dX12_gift_64 rfl ?_
      refine e_aload_n X dX12_gift_65 rfl rfl ?_
      refine e_iload_n X dX12_gift_66 rfl rfl ?_
      refine e_iconst X 0 dX12_gift_67 rfl ?_
      obtain ⟨z6, h_z6, hF⟩ := obind_out hF
      refine e_callVi X (r := z6) (σ1 := z5) [.int v1, .int 0] [.int 0, .int v1, .ref (Γ.1 + 333)] (C_M_of (Cx_gok X) z5 v1 0 h_z6) gv_X12_62 yk_X12_of rfl (ent_lt (rfl : entTbl[333]? = some (13, 0))) (ent_at (rfl : entTbl[333]? = some (13, 0)) _) (rfl : vCl[11]? = some (RX12, TX12, 24)) ⟨Nat.le_of_ble_eq_true rfl, Nat.le_of_ble_eq_true rfl⟩ ⟨Nat.le_of_ble_eq_true rfl, Nat.le_of_ble_eq_true rfl⟩ (Nat.le_of_ble_eq_true rfl) dX12_gift_68 rfl ?_
      refine e_bipush X 10 dX12_gift_71 rfl ?_
      refine e_isub X dX12_gift_73 ?_
      obtain ⟨z7, h_z7, hF⟩ := obind_out hF
      refine e_callVv X (σ1 := z7) [.int v1, .int 0, .int ((z6 - 10))] [] (C_M_has (Cx_gok X) z5 v1 0 ((z6 - 10)) h_z7) gv_X12_144 yk_X12_has rfl (ent_lt (rfl : entTbl[333]? = some (13, 0))) (ent_at (rfl : entTbl[333]? = some (13, 0)) _) (rfl : vCl[11]? = some (RX12, TX12, 24)) ⟨Nat.le_of_ble_eq_true rfl, Nat.le_of_ble_eq_true rfl⟩ ⟨Nat.le_of_ble_eq_true rfl, Nat.le_of_ble_eq_true rfl⟩ (Nat.le_of_ble_eq_true rfl) dX12_gift_74 rfl ?_
      refine e_aload_n X dX12_gift_77 rfl rfl ?_
      refine e_iload_n X dX12_gift_78 rfl rfl ?_
      refine e_iconst X 2 dX12_gift_79 rfl ?_
      refine e_bipush X 99 dX12_gift_80 rfl ?_
      refine e_aload_n X dX12_gift_82 rfl rfl ?_
      refine e_iload_n X dX12_gift_83 rfl rfl ?_
      refine e_iconst X 2 dX12_gift_84 rfl ?_
      obtain ⟨z8, h_z8, hF⟩ := obind_out hF
      refine e_callVi X (r := z8) (σ1 := z7) [.int v2, .int 2] [.int 99, .int 2, .int v2, .ref (Γ.1 + 333)] (C_M_ofMatch (Cx_gok X) z7 v2 2 h_z8) gv_X12_58 yk_X12_ofMatch rfl (ent_lt (rfl : entTbl[333]? = some (13, 0))) (ent_at (rfl : entTbl[333]? = some (13, 0)) _) (rfl : vCl[11]? = some (RX12, TX12, 24)) ⟨Nat.le_of_ble_eq_true rfl, Nat.le_of_ble_eq_true rfl⟩ ⟨Nat.le_of_ble_eq_true rfl, Nat.le_of_ble_eq_true rfl⟩ (Nat.le_of_ble_eq_true rfl) dX12_gift_85 rfl ?_
      refine e_iconst X 5 dX12_gift_88 rfl ?_
      refine e_iadd X dX12_gift_89 ?_
      refine e_callSi X (r := (F_M_lesser z7 99 ((z8 + 5)))) (σ1 := z7) [.int 99, .int ((z8 + 5))] [.int 2, .int v2, .ref (Γ.1 + 333)] (C_M_lesser (Cx_gok X) z7 99 ((z8 + 5))) gs_X12_263 yk_X12_lesser rfl ⟨Nat.le_of_ble_eq_true rfl, Nat.le_of_ble_eq_true rfl⟩ ⟨Nat.le_of_ble_eq_true rfl, Nat.le_of_ble_eq_true rfl⟩ (Nat.le_of_ble_eq_true rfl) dX12_gift_90 rfl ?_
      obtain ⟨z9, h_z9, hF⟩ := obind_out hF
      refine e_callVv X (σ1 := z9) [.int v2, .int 2, .int ((F_M_lesser z7 99 ((z8 + 5))))] [] (C_M_told (Cx_gok X) z7 v2 2 ((F_M_lesser z7 99 ((z8 + 5)))) h_z9) gv_X12_141 yk_X12_told rfl (ent_lt (rfl : entTbl[333]? = some (13, 0))) (ent_at (rfl : entTbl[333]? = some (13, 0)) _) (rfl : vCl[11]? = some (RX12, TX12, 24)) ⟨Nat.le_of_ble_eq_true rfl, Nat.le_of_ble_eq_true rfl⟩ ⟨Nat.le_of_ble_eq_true rfl, Nat.le_of_ble_eq_true rfl⟩ (Nat.le_of_ble_eq_true rfl) dX12_gift_93 rfl ?_
      refine e_aload_n X dX12_gift_96 rfl rfl ?_
      refine e_iload_n X dX12_gift_97 rfl rfl ?_
      refine e_iconst X 2 dX12_gift_98 rfl ?_
      obtain ⟨z10, h_z10, hF⟩ := obind_out hF
      refine e_callVi X (r := z10) (σ1 := z9) [.int v2, .int 2] [] (C_M_ofMatch (Cx_gok X) z9 v2 2 h_z10) gv_X12_58 yk_X12_ofMatch rfl (ent_lt (rfl : entTbl[333]? = some (13, 0))) (ent_at (rfl : entTbl[333]? = some (13, 0)) _) (rfl : vCl[11]? = some (RX12, TX12, 24)) ⟨Nat.le_of_ble_eq_true rfl, Nat.le_of_ble_eq_true rfl⟩ ⟨Nat.le_of_ble_eq_true rfl, Nat.le_of_ble_eq_true rfl⟩ (Nat.le_of_ble_eq_true rfl) dX12_gift_99 rfl ?_
      exact e_iret X hr dX12_gift_102 (Nat.le_of_ble_eq_true rfl) (Nat.le_of_ble_eq_true rfl) (by cases hF; exact ⟨rfl, rfl⟩)
    · skip
      rw [if_pos c4] at hF
      refine e_iconst X 0 dX12_gift_56 rfl ?_
      exact e_iret X hr dX12_gift_57 (Nat.le_of_ble_eq_true rfl) (Nat.le_of_ble_eq_true rfl) (by cases hF; exact ⟨rfl, rfl⟩)
  · skip
    rw [if_neg c2] at hF
    refine e_aload_n X dX12_gift_9 rfl rfl ?_
    refine e_iload_n X dX12_gift_10 rfl rfl ?_
    obtain ⟨z11, h_z11, hF⟩ := obind_out hF
    refine e_callVi X (r := z11) (σ1 := σ) [.int v2] [.ref (Γ.1 + 333)] (C_M_isMatch (Cx_gok X) σ v2 h_z11) gv_X12_305 yk_X12_isMatch rfl (ent_lt (rfl : entTbl[333]? = some (13, 0))) (ent_at (rfl : entTbl[333]? = some (13, 0)) _) (rfl : vCl[11]? = some (RX12, TX12, 24)) ⟨Nat.le_of_ble_eq_true rfl, Nat.le_of_ble_eq_true rfl⟩ ⟨Nat.le_of_ble_eq_true rfl, Nat.le_of_ble_eq_true rfl⟩ (Nat.le_of_ble_eq_true rfl) dX12_gift_11 rfl ?_
    refine e_if_ne X 21 dX12_gift_14 (by decide) (fun c12 => ?_) (fun c12 => ?_)
    · skip
      rw [if_neg c12] at hF
      refine e_aload_n X dX12_gift_21 rfl rfl ?_
      refine e_iload_n X dX12_gift_22 rfl rfl ?_
      refine e_iload_n X dX12_gift_23 rfl rfl ?_
      obtain ⟨z13, h_z13, hF⟩ := obind_out hF
      refine e_callVi X (r := z13) (σ1 := σ) [.int v1, .int v2] [.ref (Γ.1 + 333)] (C_M_insures (Cx_gok X) σ v1 v2 h_z13) gv_X12_311 yk_X12_insures rfl (ent_lt (rfl : entTbl[333]? = some (13, 0))) (ent_at (rfl : entTbl[333]? = some (13, 0)) _) (rfl : vCl[11]? = some (RX12, TX12, 24)) ⟨Nat.le_of_ble_eq_true rfl, Nat.le_of_ble_eq_true rfl⟩ ⟨Nat.le_of_ble_eq_true rfl, Nat.le_of_ble_eq_true rfl⟩ (Nat.le_of_ble_eq_true rfl) dX12_gift_24 rfl ?_
      refine e_if_eq X 41 dX12_gift_27 (by decide) (fun c14 => ?_) (fun c14 => ?_)
      · skip
        rw [if_pos c14] at hF
        refine e_iconst X 2 dX12_gift_41 rfl ?_
        refine e_goto X 46 dX12_gift_42 (by decide) ?_
        obtain ⟨σ15, h_σ15, hF⟩ := bindT_out hF
        refine pu_M_thrown X wf_X12_51 dX12_gift_46 h_σ15 ?_
        refine e_aload_n X dX12_gift_49 rfl rfl ?_
        refine ge_M_thrown X wf_X12_51 dX12_gift_50 ?_
        refine e_if_le X 58 dX12_gift_53 (by decide) (fun c16 => ?_) (fun c16 => ?_)
        · skip
          rw [if_neg c16] at hF
          refine e_aload_n X dX12_gift_58 rfl rfl ?_
          obtain ⟨z17, h_z17, hF⟩ := obind_out hF
          refine e_callVv X (σ1 := z17) [] [] (C_M_remembers (Cx_gok X) σ15 h_z17) gv_X12_308 yk_X12_remembers rfl (ent_lt (rfl : entTbl[333]? = some (13, 0))) (ent_at (rfl : entTbl[333]? = some (13, 0)) _) (rfl : vCl[11]? = some (RX12, TX12, 24)) ⟨Nat.le_of_ble_eq_true rfl, Nat.le_of_ble_eq_true rfl⟩ ⟨Nat.le_of_ble_eq_true rfl, Nat.le_of_ble_eq_true rfl⟩ (Nat.le_of_ble_eq_true rfl) dX12_gift_59 rfl ?_
          refine e_aload_n X dX12_gift_62 rfl rfl ?_
          refine e_iload_n X dX12_gift_63 rfl rfl ?_
          refine e_iconst X 0 dX12_gift_64 rfl ?_
          refine e_aload_n X dX12_gift_65 rfl rfl ?_
          refine e_iload_n X dX12_gift_66 rfl rfl ?_
          refine e_iconst X 0 dX12_gift_67 rfl ?_
          obtain ⟨z18, h_z18, hF⟩ := obind_out hF
          refine e_callVi X (r := z18) (σ1 := z17) [.int v1, .int 0] [.int 0, .int v1, .ref (Γ.1 + 333)] (C_M_of (Cx_gok X) z17 v1 0 h_z18) gv_X12_62 yk_X12_of rfl (ent_lt (rfl : entTbl[333]? = some (13, 0))) (ent_at (rfl : entTbl[333]? = some (13, 0)) _) (rfl : vCl[11]? = some (RX12, TX12, 24)) ⟨Nat.le_of_ble_eq_true rfl, Nat.le_of_ble_eq_true rfl⟩ ⟨Nat.le_of_ble_eq_true rfl, Nat.le_of_ble_eq_true rfl⟩ (Nat.le_of_ble_eq_true rfl) dX12_gift_68 rfl ?_
          refine e_bipush X 10 dX12_gift_71 rfl ?_
          refine e_isub X dX12_gift_73 ?_
          obtain ⟨z19, h_z19, hF⟩ := obind_out hF
          refine e_callVv X (σ1 := z19) [.int v1, .int 0, .int ((z18 - 10))] [] (C_M_has (Cx_gok X) z17 v1 0 ((z18 - 10)) h_z19) gv_X12_144 yk_X12_has rfl (ent_lt (rfl : entTbl[333]? = some (13, 0))) (ent_at (rfl : entTbl[333]? = some (13, 0)) _) (rfl : vCl[11]? = some (RX12, TX12, 24)) ⟨Nat.le_of_ble_eq_true rfl, Nat.le_of_ble_eq_true rfl⟩ ⟨Nat.le_of_ble_eq_true rfl, Nat.le_of_ble_eq_true rfl⟩ (Nat.le_of_ble_eq_true rfl) dX12_gift_74 rfl ?_
          refine e_aload_n X dX12_gift_77 rfl rfl ?_
          refine e_iload_n X dX12_gift_78 rfl rfl ?_
          refine e_iconst X 2 dX12_gift_79 rfl ?_
          refine e_bipush X 99 dX12_gift_80 rfl ?_
          refine e_aload_n X dX12_gift_82 rfl rfl ?_
          refine e_iload_n X dX12_gift_83 rfl rfl ?_
          refine e_iconst X 2 dX12_gift_84 rfl ?_
          obtain ⟨z20, h_z20, hF⟩ := obind_out hF
          refine e_callVi X (r := z20) (σ1 := z19) [.int v2, .int 2] [.int 99, .int 2, .int v2, .ref (Γ.1 + 333)] (C_M_ofMatch (Cx_gok X) z19 v2 2 h_z20) gv_X12_58 yk_X12_ofMatch rfl (ent_lt (rfl : entTbl[333]? = some (13, 0))) (ent_at (rfl : entTbl[333]? = some (13, 0)) _) (rfl : vCl[11]? = some (RX12, TX12, 24)) ⟨Nat.le_of_ble_eq_true rfl, Nat.le_of_ble_eq_true rfl⟩ ⟨Nat.le_of_ble_eq_true rfl, Nat.le_of_ble_eq_true rfl⟩ (Nat.le_of_ble_eq_true rfl) dX12_gift_85 rfl ?_
          refine e_iconst X 5 dX12_gift_88 rfl ?_
          refine e_iadd X dX12_gift_89 ?_
          refine e_callSi X (r := (F_M_lesser z19 99 ((z20 + 5)))) (σ1 := z19) [.int 99, .int ((z20 + 5))] [.int 2, .int v2, .ref (Γ.1 + 333)] (C_M_lesser (Cx_gok X) z19 99 ((z20 + 5))) gs_X12_263 yk_X12_lesser rfl ⟨Nat.le_of_ble_eq_true rfl, Nat.le_of_ble_eq_true rfl⟩ ⟨Nat.le_of_ble_eq_true rfl, Nat.le_of_ble_eq_true rfl⟩ (Nat.le_of_ble_eq_true rfl) dX12_gift_90 rfl ?_
          obtain ⟨z21, h_z21, hF⟩ := obind_out hF
          refine e_callVv X (σ1 := z21) [.int v2, .int 2, .int ((F_M_lesser z19 99 ((z20 + 5))))] [] (C_M_told (Cx_gok X) z19 v2 2 ((F_M_lesser z19 99 ((z20 + 5)))) h_z21) gv_X12_141 yk_X12_told rfl (ent_lt (rfl : entTbl[333]? = some (13, 0))) (ent_at (rfl : entTbl[333]? = some (13, 0)) _) (rfl : vCl[11]? = some (RX12, TX12, 24)) ⟨Nat.le_of_ble_eq_true rfl, Nat.le_of_ble_eq_true rfl⟩ ⟨Nat.le_of_ble_eq_true rfl, Nat.le_of_ble_eq_true rfl⟩ (Nat.le_of_ble_eq_true rfl) dX12_gift_93 rfl ?_
          refine e_aload_n X dX12_gift_96 rfl rfl ?_
          refine e_iload_n X dX12_gift_97 rfl rfl ?_
          refine e_iconst X 2 dX12_gift_98 rfl ?_
          obtain ⟨z22, h_z22, hF⟩ := obind_out hF
          refine e_callVi X (r := z22) (σ1 := z21) [.int v2, .int 2] [] (C_M_ofMatch (Cx_gok X) z21 v2 2 h_z22) gv_X12_58 yk_X12_ofMatch rfl (ent_lt (rfl : entTbl[333]? = some (13, 0))) (ent_at (rfl : entTbl[333]? = some (13, 0)) _) (rfl : vCl[11]? = some (RX12, TX12, 24)) ⟨Nat.le_of_ble_eq_true rfl, Nat.le_of_ble_eq_true rfl⟩ ⟨Nat.le_of_ble_eq_true rfl, Nat.le_of_ble_eq_true rfl⟩ (Nat.le_of_ble_eq_true rfl) dX12_gift_99 rfl ?_
          exact e_iret X hr dX12_gift_102 (Nat.le_of_ble_eq_true rfl) (Nat.le_of_ble_eq_true rfl) (by cases hF; exact ⟨rfl, rfl⟩)
        · skip
          rw [if_pos c16] at hF
          refine e_iconst X 0 dX12_gift_56 rfl ?_
          exact e_iret X hr dX12_gift_57 (Nat.le_of_ble_eq_true rfl) (Nat.le_of_ble_eq_true rfl) (by cases hF; exact ⟨rfl, rfl⟩)
      · skip
        rw [if_neg c14] at hF
        refine e_aload_n X dX12_gift_30 rfl rfl ?_
        refine e_iload_n X dX12_gift_31 rfl rfl ?_
        refine e_iconst X 0 dX12_gift_32 rfl ?_
        obtain ⟨z23, h_z23, hF⟩ := obind_out hF
        refine e_callVi X (r := z23) (σ1 := σ) [.int v1, .int 0] [.ref (Γ.1 + 333)] (C_M_of (Cx_gok X) σ v1 0 h_z23) gv_X12_62 yk_X12_of rfl (ent_lt (rfl : entTbl[333]? = some (13, 0))) (ent_at (rfl : entTbl[333]? = some (13, 0)) _) (rfl : vCl[11]? = some (RX12, TX12, 24)) ⟨Nat.le_of_ble_eq_true rfl, Nat.le_of_ble_eq_true rfl⟩ ⟨Nat.le_of_ble_eq_true rfl, Nat.le_of_ble_eq_true rfl⟩ (Nat.le_of_ble_eq_true rfl) dX12_gift_33 rfl ?_
        refine e_bipush X 10 dX12_gift_36 rfl ?_
        refine e_icmp_ge X 45 dX12_gift_38 (by decide) (fun c24 => ?_) (fun c24 => ?_)
        · skip
          rw [if_neg c24] at hF
          refine e_iconst X 0 dX12_gift_45 rfl ?_
          obtain ⟨σ25, h_σ25, hF⟩ := bindT_out hF
          refine pu_M_thrown X wf_X12_51 dX12_gift_46 h_σ25 ?_
          refine e_aload_n X dX12_gift_49 rfl rfl ?_
          refine ge_M_thrown X wf_X12_51 dX12_gift_50 ?_
          refine e_if_le X 58 dX12_gift_53 (by decide) (fun c26 => ?_) (fun c26 => ?_)
          · skip
            rw [if_neg c26] at hF
            refine e_aload_n X dX12_gift_58 rfl rfl ?_
            obtain ⟨z27, h_z27, hF⟩ := obind_out hF
            refine e_callVv X (σ1 := z27) [] [] (C_M_remembers (Cx_gok X) σ25 h_z27) gv_X12_308 yk_X12_remembers rfl (ent_lt (rfl : entTbl[333]? = some (13, 0))) (ent_at (rfl : entTbl[333]? = some (13, 0)) _) (rfl : vCl[11]? = some (RX12, TX12, 24)) ⟨Nat.le_of_ble_eq_true rfl, Nat.le_of_ble_eq_true rfl⟩ ⟨Nat.le_of_ble_eq_true rfl, Nat.le_of_ble_eq_true rfl⟩ (Nat.le_of_ble_eq_true rfl) dX12_gift_59 rfl ?_
            refine e_aload_n X dX12_gift_62 rfl rfl ?_
            refine e_iload_n X dX12_gift_63 rfl rfl ?_
            refine e_iconst X 0 dX12_gift_64 rfl ?_
            refine e_aload_n X dX12_gift_65 rfl rfl ?_
            refine e_iload_n X dX12_gift_66 rfl rfl ?_
            refine e_iconst X 0 dX12_gift_67 rfl ?_
            obtain ⟨z28, h_z28, hF⟩ := obind_out hF
            refine e_callVi X (r := z28) (σ1 := z27) [.int v1, .int 0] [.int 0, .int v1, .ref (Γ.1 + 333)] (C_M_of (Cx_gok X) z27 v1 0 h_z28) gv_X12_62 yk_X12_of rfl (ent_lt (rfl : entTbl[333]? = some (13, 0))) (ent_at (rfl : entTbl[333]? = some (13, 0)) _) (rfl : vCl[11]? = some (RX12, TX12, 24)) ⟨Nat.le_of_ble_eq_true rfl, Nat.le_of_ble_eq_true rfl⟩ ⟨Nat.le_of_ble_eq_true rfl, Nat.le_of_ble_eq_true rfl⟩ (Nat.le_of_ble_eq_true rfl) dX12_gift_68 rfl ?_
            refine e_bipush X 10 dX12_gift_71 rfl ?_
            refine e_isub X dX12_gift_73 ?_
            obtain ⟨z29, h_z29, hF⟩ := obind_out hF
            refine e_callVv X (σ1 := z29) [.int v1, .int 0, .int ((z28 - 10))] [] (C_M_has (Cx_gok X) z27 v1 0 ((z28 - 10)) h_z29) gv_X12_144 yk_X12_has rfl (ent_lt (rfl : entTbl[333]? = some (13, 0))) (ent_at (rfl : entTbl[333]? = some (13, 0)) _) (rfl : vCl[11]? = some (RX12, TX12, 24)) ⟨Nat.le_of_ble_eq_true rfl, Nat.le_of_ble_eq_true rfl⟩ ⟨Nat.le_of_ble_eq_true rfl, Nat.le_of_ble_eq_true rfl⟩ (Nat.le_of_ble_eq_true rfl) dX12_gift_74 rfl ?_
            refine e_aload_n X dX12_gift_77 rfl rfl ?_
            refine e_iload_n X dX12_gift_78 rfl rfl ?_
            refine e_iconst X 2 dX12_gift_79 rfl ?_
            refine e_bipush X 99 dX12_gift_80 rfl ?_
            refine e_aload_n X dX12_gift_82 rfl rfl ?_
            refine e_iload_n X dX12_gift_83 rfl rfl ?_
            refine e_iconst X 2 dX12_gift_84 rfl ?_
            obtain ⟨z30, h_z30, hF⟩ := obind_out hF
            refine e_callVi X (r := z30) (σ1 := z29) [.int v2, .int 2] [.int 99, .int 2, .int v2, .ref (Γ.1 + 333)] (C_M_ofMatch (Cx_gok X) z29 v2 2 h_z30) gv_X12_58 yk_X12_ofMatch rfl (ent_lt (rfl : entTbl[333]? = some (13, 0))) (ent_at (rfl : entTbl[333]? = some (13, 0)) _) (rfl : vCl[11]? = some (RX12, TX12, 24)) ⟨Nat.le_of_ble_eq_true rfl, Nat.le_of_ble_eq_true rfl⟩ ⟨Nat.le_of_ble_eq_true rfl, Nat.le_of_ble_eq_true rfl⟩ (Nat.le_of_ble_eq_true rfl) dX12_gift_85 rfl ?_
            refine e_iconst X 5 dX12_gift_88 rfl ?_
            refine e_iadd X dX12_gift_89 ?_
            refine e_callSi X (r := (F_M_lesser z29 99 ((z30 + 5)))) (σ1 := z29) [.int 99, .int ((z30 + 5))] [.int 2, .int v2, .ref (Γ.1 + 333)] (C_M_lesser (Cx_gok X) z29 99 ((z30 + 5))) gs_X12_263 yk_X12_lesser rfl ⟨Nat.le_of_ble_eq_true rfl, Nat.le_of_ble_eq_true rfl⟩ ⟨Nat.le_of_ble_eq_true rfl, Nat.le_of_ble_eq_true rfl⟩ (Nat.le_of_ble_eq_true rfl) dX12_gift_90 rfl ?_
            obtain ⟨z31, h_z31, hF⟩ := obind_out hF
            refine e_callVv X (σ1 := z31) [.int v2, .int 2, .int ((F_M_lesser z29 99 ((z30 + 5))))] [] (C_M_told (Cx_gok X) z29 v2 2 ((F_M_lesser z29 99 ((z30 + 5)))) h_z31) gv_X12_141 yk_X12_told rfl (ent_lt (rfl : entTbl[333]? = some (13, 0))) (ent_at (rfl : entTbl[333]? = some (13, 0)) _) (rfl : vCl[11]? = some (RX12, TX12, 24)) ⟨Nat.le_of_ble_eq_true rfl, Nat.le_of_ble_eq_true rfl⟩ ⟨Nat.le_of_ble_eq_true rfl, Nat.le_of_ble_eq_true rfl⟩ (Nat.le_of_ble_eq_true rfl) dX12_gift_93 rfl ?_
            refine e_aload_n X dX12_gift_96 rfl rfl ?_
            refine e_iload_n X dX12_gift_97 rfl rfl ?_
            refine e_iconst X 2 dX12_gift_98 rfl ?_
            obtain ⟨z32, h_z32, hF⟩ := obind_out hF
            refine e_callVi X (r := z32) (σ1 := z31) [.int v2, .int 2] [] (C_M_ofMatch (Cx_gok X) z31 v2 2 h_z32) gv_X12_58 yk_X12_ofMatch rfl (ent_lt (rfl : entTbl[333]? = some (13, 0))) (ent_at (rfl : entTbl[333]? = some (13, 0)) _) (rfl : vCl[11]? = some (RX12, TX12, 24)) ⟨Nat.le_of_ble_eq_true rfl, Nat.le_of_ble_eq_true rfl⟩ ⟨Nat.le_of_ble_eq_true rfl, Nat.le_of_ble_eq_true rfl⟩ (Nat.le_of_ble_eq_true rfl) dX12_gift_99 rfl ?_
            exact e_iret X hr dX12_gift_102 (Nat.le_of_ble_eq_true rfl) (Nat.le_of_ble_eq_true rfl) (by cases hF; exact ⟨rfl, rfl⟩)
          · skip
            rw [if_pos c26] at hF
            refine e_iconst X 0 dX12_gift_56 rfl ?_
            exact e_iret X hr dX12_gift_57 (Nat.le_of_ble_eq_true rfl) (Nat.le_of_ble_eq_true rfl) (by cases hF; exact ⟨rfl, rfl⟩)
        · skip
          rw [if_pos c24] at hF
          refine e_iconst X 2 dX12_gift_41 rfl ?_
          refine e_goto X 46 dX12_gift_42 (by decide) ?_
          obtain ⟨σ33, h_σ33, hF⟩ := bindT_out hF
          refine pu_M_thrown X wf_X12_51 dX12_gift_46 h_σ33 ?_
          refine e_aload_n X dX12_gift_49 rfl rfl ?_
          refine ge_M_thrown X wf_X12_51 dX12_gift_50 ?_
          refine e_if_le X 58 dX12_gift_53 (by decide) (fun c34 => ?_) (fun c34 => ?_)
          · skip
            rw [if_neg c34] at hF
            refine e_aload_n X dX12_gift_58 rfl rfl ?_
            obtain ⟨z35, h_z35, hF⟩ := obind_out hF
            refine e_callVv X (σ1 := z35) [] [] (C_M_remembers (Cx_gok X) σ33 h_z35) gv_X12_308 yk_X12_remembers rfl (ent_lt (rfl : entTbl[333]? = some (13, 0))) (ent_at (rfl : entTbl[333]? = some (13, 0)) _) (rfl : vCl[11]? = some (RX12, TX12, 24)) ⟨Nat.le_of_ble_eq_true rfl, Nat.le_of_ble_eq_true rfl⟩ ⟨Nat.le_of_ble_eq_true rfl, Nat.le_of_ble_eq_true rfl⟩ (Nat.le_of_ble_eq_true rfl) dX12_gift_59 rfl ?_
            refine e_aload_n X dX12_gift_62 rfl rfl ?_
            refine e_iload_n X dX12_gift_63 rfl rfl ?_
            refine e_iconst X 0 dX12_gift_64 rfl ?_
            refine e_aload_n X dX12_gift_65 rfl rfl ?_
            refine e_iload_n X dX12_gift_66 rfl rfl ?_
            refine e_iconst X 0 dX12_gift_67 rfl ?_
            obtain ⟨z36, h_z36, hF⟩ := obind_out hF
            refine e_callVi X (r := z36) (σ1 := z35) [.int v1, .int 0] [.int 0, .int v1, .ref (Γ.1 + 333)] (C_M_of (Cx_gok X) z35 v1 0 h_z36) gv_X12_62 yk_X12_of rfl (ent_lt (rfl : entTbl[333]? = some (13, 0))) (ent_at (rfl : entTbl[333]? = some (13, 0)) _) (rfl : vCl[11]? = some (RX12, TX12, 24)) ⟨Nat.le_of_ble_eq_true rfl, Nat.le_of_ble_eq_true rfl⟩ ⟨Nat.le_of_ble_eq_true rfl, Nat.le_of_ble_eq_true rfl⟩ (Nat.le_of_ble_eq_true rfl) dX12_gift_68 rfl ?_
            refine e_bipush X 10 dX12_gift_71 rfl ?_
            refine e_isub X dX12_gift_73 ?_
            obtain ⟨z37, h_z37, hF⟩ := obind_out hF
            refine e_callVv X (σ1 := z37) [.int v1, .int 0, .int ((z36 - 10))] [] (C_M_has (Cx_gok X) z35 v1 0 ((z36 - 10)) h_z37) gv_X12_144 yk_X12_has rfl (ent_lt (rfl : entTbl[333]? = some (13, 0))) (ent_at (rfl : entTbl[333]? = some (13, 0)) _) (rfl : vCl[11]? = some (RX12, TX12, 24)) ⟨Nat.le_of_ble_eq_true rfl, Nat.le_of_ble_eq_true rfl⟩ ⟨Nat.le_of_ble_eq_true rfl, Nat.le_of_ble_eq_true rfl⟩ (Nat.le_of_ble_eq_true rfl) dX12_gift_74 rfl ?_
            refine e_aload_n X dX12_gift_77 rfl rfl ?_
            refine e_iload_n X dX12_gift_78 rfl rfl ?_
            refine e_iconst X 2 dX12_gift_79 rfl ?_
            refine e_bipush X 99 dX12_gift_80 rfl ?_
            refine e_aload_n X dX12_gift_82 rfl rfl ?_
            refine e_iload_n X dX12_gift_83 rfl rfl ?_
            refine e_iconst X 2 dX12_gift_84 rfl ?_
            obtain ⟨z38, h_z38, hF⟩ := obind_out hF
            refine e_callVi X (r := z38) (σ1 := z37) [.int v2, .int 2] [.int 99, .int 2, .int v2, .ref (Γ.1 + 333)] (C_M_ofMatch (Cx_gok X) z37 v2 2 h_z38) gv_X12_58 yk_X12_ofMatch rfl (ent_lt (rfl : entTbl[333]? = some (13, 0))) (ent_at (rfl : entTbl[333]? = some (13, 0)) _) (rfl : vCl[11]? = some (RX12, TX12, 24)) ⟨Nat.le_of_ble_eq_true rfl, Nat.le_of_ble_eq_true rfl⟩ ⟨Nat.le_of_ble_eq_true rfl, Nat.le_of_ble_eq_true rfl⟩ (Nat.le_of_ble_eq_true rfl) dX12_gift_85 rfl ?_
            refine e_iconst X 5 dX12_gift_88 rfl ?_
            refine e_iadd X dX12_gift_89 ?_
            refine e_callSi X (r := (F_M_lesser z37 99 ((z38 + 5)))) (σ1 := z37) [.int 99, .int ((z38 + 5))] [.int 2, .int v2, .ref (Γ.1 + 333)] (C_M_lesser (Cx_gok X) z37 99 ((z38 + 5))) gs_X12_263 yk_X12_lesser rfl ⟨Nat.le_of_ble_eq_true rfl, Nat.le_of_ble_eq_true rfl⟩ ⟨Nat.le_of_ble_eq_true rfl, Nat.le_of_ble_eq_true rfl⟩ (Nat.le_of_ble_eq_true rfl) dX12_gift_90 rfl ?_
            obtain ⟨z39, h_z39, hF⟩ := obind_out hF
            refine e_callVv X (σ1 := z39) [.int v2, .int 2, .int ((F_M_lesser z37 99 ((z38 + 5))))] [] (C_M_told (Cx_gok X) z37 v2 2 ((F_M_lesser z37 99 ((z38 + 5)))) h_z39) gv_X12_141 yk_X12_told rfl (ent_lt (rfl : entTbl[333]? = some (13, 0))) (ent_at (rfl : entTbl[333]? = some (13, 0)) _) (rfl : vCl[11]? = some (RX12, TX12, 24)) ⟨Nat.le_of_ble_eq_true rfl, Nat.le_of_ble_eq_true rfl⟩ ⟨Nat.le_of_ble_eq_true rfl, Nat.le_of_ble_eq_true rfl⟩ (Nat.le_of_ble_eq_true rfl) dX12_gift_93 rfl ?_
            refine e_aload_n X dX12_gift_96 rfl rfl ?_
            refine e_iload_n X dX12_gift_97 rfl rfl ?_
            refine e_iconst X 2 dX12_gift_98 rfl ?_
            obtain ⟨z40, h_z40, hF⟩ := obind_out hF
            refine e_callVi X (r := z40) (σ1 := z39) [.int v2, .int 2] [] (C_M_ofMatch (Cx_gok X) z39 v2 2 h_z40) gv_X12_58 yk_X12_ofMatch rfl (ent_lt (rfl : entTbl[333]? = some (13, 0))) (ent_at (rfl : entTbl[333]? = some (13, 0)) _) (rfl : vCl[11]? = some (RX12, TX12, 24)) ⟨Nat.le_of_ble_eq_true rfl, Nat.le_of_ble_eq_true rfl⟩ ⟨Nat.le_of_ble_eq_true rfl, Nat.le_of_ble_eq_true rfl⟩ (Nat.le_of_ble_eq_true rfl) dX12_gift_99 rfl ?_
            exact e_iret X hr dX12_gift_102 (Nat.le_of_ble_eq_true rfl) (Nat.le_of_ble_eq_true rfl) (by cases hF; exact ⟨rfl, rfl⟩)
          · skip
            rw [if_pos c34] at hF
            refine e_iconst X 0 dX12_gift_56 rfl ?_
            exact e_iret X hr dX12_gift_57 (Nat.le_of_ble_eq_true rfl) (Nat.le_of_ble_eq_true rfl) (by cases hF; exact ⟨rfl, rfl⟩)
    · skip
      rw [if_pos c12] at hF
      refine e_iconst X 1 dX12_gift_17 rfl ?_
      refine e_goto X 46 dX12_gift_18 (by decide) ?_
      obtain ⟨σ41, h_σ41, hF⟩ := bindT_out hF
      refine pu_M_thrown X wf_X12_51 dX12_gift_46 h_σ41 ?_
      refine e_aload_n X dX12_gift_49 rfl rfl ?_
      refine ge_M_thrown X wf_X12_51 dX12_gift_50 ?_
      refine e_if_le X 58 dX12_gift_53 (by decide) (fun c42 => ?_) (fun c42 => ?_)
      · skip
        rw [if_neg c42] at hF
        refine e_aload_n X dX12_gift_58 rfl rfl ?_
        obtain ⟨z43, h_z43, hF⟩ := obind_out hF
        refine e_callVv X (σ1 := z43) [] [] (C_M_remembers (Cx_gok X) σ41 h_z43) gv_X12_308 yk_X12_remembers rfl (ent_lt (rfl : entTbl[333]? = some (13, 0))) (ent_at (rfl : entTbl[333]? = some (13, 0)) _) (rfl : vCl[11]? = some (RX12, TX12, 24)) ⟨Nat.le_of_ble_eq_true rfl, Nat.le_of_ble_eq_true rfl⟩ ⟨Nat.le_of_ble_eq_true rfl, Nat.le_of_ble_eq_true rfl⟩ (Nat.le_of_ble_eq_true rfl) dX12_gift_59 rfl ?_
        refine e_aload_n X dX12_gift_62 rfl rfl ?_
        refine e_iload_n X dX12_gift_63 rfl rfl ?_
        refine e_iconst X 0 dX12_gift_64 rfl ?_
        refine e_aload_n X dX12_gift_65 rfl rfl ?_
        refine e_iload_n X dX12_gift_66 rfl rfl ?_
        refine e_iconst X 0 dX12_gift_67 rfl ?_
        obtain ⟨z44, h_z44, hF⟩ := obind_out hF
        refine e_callVi X (r := z44) (σ1 := z43) [.int v1, .int 0] [.int 0, .int v1, .ref (Γ.1 + 333)] (C_M_of (Cx_gok X) z43 v1 0 h_z44) gv_X12_62 yk_X12_of rfl (ent_lt (rfl : entTbl[333]? = some (13, 0))) (ent_at (rfl : entTbl[333]? = some (13, 0)) _) (rfl : vCl[11]? = some (RX12, TX12, 24)) ⟨Nat.le_of_ble_eq_true rfl, Nat.le_of_ble_eq_true rfl⟩ ⟨Nat.le_of_ble_eq_true rfl, Nat.le_of_ble_eq_true rfl⟩ (Nat.le_of_ble_eq_true rfl) dX12_gift_68 rfl ?_
        refine e_bipush X 10 dX12_gift_71 rfl ?_
        refine e_isub X dX12_gift_73 ?_
        obtain ⟨z45, h_z45, hF⟩ := obind_out hF
        refine e_callVv X (σ1 := z45) [.int v1, .int 0, .int ((z44 - 10))] [] (C_M_has (Cx_gok X) z43 v1 0 ((z44 - 10)) h_z45) gv_X12_144 yk_X12_has rfl (ent_lt (rfl : entTbl[333]? = some (13, 0))) (ent_at (rfl : entTbl[333]? = some (13, 0)) _) (rfl : vCl[11]? = some (RX12, TX12, 24)) ⟨Nat.le_of_ble_eq_true rfl, Nat.le_of_ble_eq_true rfl⟩ ⟨Nat.le_of_ble_eq_true rfl, Nat.le_of_ble_eq_true rfl⟩ (Nat.le_of_ble_eq_true rfl) dX12_gift_74 rfl ?_
        refine e_aload_n X dX12_gift_77 rfl rfl ?_
        refine e_iload_n X dX12_gift_78 rfl rfl ?_
        refine e_iconst X 2 dX12_gift_79 rfl ?_
        refine e_bipush X 99 dX12_gift_80 rfl ?_
        refine e_aload_n X dX12_gift_82 rfl rfl ?_
        refine e_iload_n X dX12_gift_83 rfl rfl ?_
        refine e_iconst X 2 dX12_gift_84 rfl ?_
        obtain ⟨z46, h_z46, hF⟩ := obind_out hF
        refine e_callVi X (r := z46) (σ1 := z45) [.int v2, .int 2] [.int 99, .int 2, .int v2, .ref (Γ.1 + 333)] (C_M_ofMatch (Cx_gok X) z45 v2 2 h_z46) gv_X12_58 yk_X12_ofMatch rfl (ent_lt (rfl : entTbl[333]? = some (13, 0))) (ent_at (rfl : entTbl[333]? = some (13, 0)) _) (rfl : vCl[11]? = some (RX12, TX12, 24)) ⟨Nat.le_of_ble_eq_true rfl, Nat.le_of_ble_eq_true rfl⟩ ⟨Nat.le_of_ble_eq_true rfl, Nat.le_of_ble_eq_true rfl⟩ (Nat.le_of_ble_eq_true rfl) dX12_gift_85 rfl ?_
        refine e_iconst X 5 dX12_gift_88 rfl ?_
        refine e_iadd X dX12_gift_89 ?_
        refine e_callSi X (r := (F_M_lesser z45 99 ((z46 + 5)))) (σ1 := z45) [.int 99, .int ((z46 + 5))] [.int 2, .int v2, .ref (Γ.1 + 333)] (C_M_lesser (Cx_gok X) z45 99 ((z46 + 5))) gs_X12_263 yk_X12_lesser rfl ⟨Nat.le_of_ble_eq_true rfl, Nat.le_of_ble_eq_true rfl⟩ ⟨Nat.le_of_ble_eq_true rfl, Nat.le_of_ble_eq_true rfl⟩ (Nat.le_of_ble_eq_true rfl) dX12_gift_90 rfl ?_
        obtain ⟨z47, h_z47, hF⟩ := obind_out hF
        refine e_callVv X (σ1 := z47) [.int v2, .int 2, .int ((F_M_lesser z45 99 ((z46 + 5))))] [] (C_M_told (Cx_gok X) z45 v2 2 ((F_M_lesser z45 99 ((z46 + 5)))) h_z47) gv_X12_141 yk_X12_told rfl (ent_lt (rfl : entTbl[333]? = some (13, 0))) (ent_at (rfl : entTbl[333]? = some (13, 0)) _) (rfl : vCl[11]? = some (RX12, TX12, 24)) ⟨Nat.le_of_ble_eq_true rfl, Nat.le_of_ble_eq_true rfl⟩ ⟨Nat.le_of_ble_eq_true rfl, Nat.le_of_ble_eq_true rfl⟩ (Nat.le_of_ble_eq_true rfl) dX12_gift_93 rfl ?_
        refine e_aload_n X dX12_gift_96 rfl rfl ?_
        refine e_iload_n X dX12_gift_97 rfl rfl ?_
        refine e_iconst X 2 dX12_gift_98 rfl ?_
        obtain ⟨z48, h_z48, hF⟩ := obind_out hF
        refine e_callVi X (r := z48) (σ1 := z47) [.int v2, .int 2] [] (C_M_ofMatch (Cx_gok X) z47 v2 2 h_z48) gv_X12_58 yk_X12_ofMatch rfl (ent_lt (rfl : entTbl[333]? = some (13, 0))) (ent_at (rfl : entTbl[333]? = some (13, 0)) _) (rfl : vCl[11]? = some (RX12, TX12, 24)) ⟨Nat.le_of_ble_eq_true rfl, Nat.le_of_ble_eq_true rfl⟩ ⟨Nat.le_of_ble_eq_true rfl, Nat.le_of_ble_eq_true rfl⟩ (Nat.le_of_ble_eq_true rfl) dX12_gift_99 rfl ?_
        exact e_iret X hr dX12_gift_102 (Nat.le_of_ble_eq_true rfl) (Nat.le_of_ble_eq_true rfl) (by cases hF; exact ⟨rfl, rfl⟩)
      · skip
        rw [if_pos c42] at hF
        refine e_iconst X 0 dX12_gift_56 rfl ?_
        exact e_iret X hr dX12_gift_57 (Nat.le_of_ble_eq_true rfl) (Nat.le_of_ble_eq_true rfl) (by cases hF; exact ⟨rfl, rfl⟩)
set_option maxRecDepth 20000 in
set_option maxHeartbeats 4000000 in
theorem C_M_meddle (hG : Gok l Γ D s0) (σ : Mem) (v1 : Int32) (v2 : Int32)  {out : Mem × Int32} (hF : F_M_meddle σ v1 v2 = some out) : CT l Γ D s0 yX12_meddle cX12_meddle 3 (some .int) (4) 0 0 (89) σ [.ref (Γ.1 + 333), .int v1, .int v2] (PI (some (.int out.2)) out.1) := by
  unfold F_M_meddle at hF
  refine e_met (own := RX12) hG (by decide +kernel) rfl rfl (Nat.le_of_ble_eq_true rfl) ?_
  intro p e s m args below meth c X hr
  show E p l e _ s m args below meth c Γ D 0 0 _ σ 0 [some (.ref (Γ.1 + 333)), some (.int v1), some (.int v2)] []
  refine e_aload_n X dX12_meddle_0 rfl rfl ?_
  refine e_aload_n X dX12_meddle_1 rfl rfl ?_
  refine e_iload_n X dX12_meddle_2 rfl rfl ?_
  obtain ⟨z1, h_z1, hF⟩ := obind_out hF
  refine e_callVi X (r := z1) (σ1 := σ) [.int v1] [.ref (Γ.1 + 333)] (C_M_isPerson (Cx_gok X) σ v1 h_z1) gv_X12_293 yk_X12_isPerson rfl (ent_lt (rfl : entTbl[333]? = some (13, 0))) (ent_at (rfl : entTbl[333]? = some (13, 0)) _) (rfl : vCl[11]? = some (RX12, TX12, 24)) ⟨Nat.le_of_ble_eq_true rfl, Nat.le_of_ble_eq_true rfl⟩ ⟨Nat.le_of_ble_eq_true rfl, Nat.le_of_ble_eq_true rfl⟩ (Nat.le_of_ble_eq_true rfl) dX12_meddle_3 rfl ?_
  refine e_if_eq X 17 dX12_meddle_6 (by decide) (fun c2 => ?_) (fun c2 => ?_)
  · skip
    rw [if_pos c2] at hF
    refine e_iconst X 1 dX12_meddle_17 rfl ?_
    refine e_goto X 35 dX12_meddle_18 (by decide) ?_
    obtain ⟨σ3, h_σ3, hF⟩ := bindT_out hF
    refine pu_M_thrown X wf_X12_51 dX12_meddle_35 h_σ3 ?_
    refine e_aload_n X dX12_meddle_38 rfl rfl ?_
    refine ge_M_thrown X wf_X12_51 dX12_meddle_39 ?_
    refine e_if_le X 47 dX12_meddle_42 (by decide) (fun c4 => ?_) (fun c4 => ?_)
    · skip
      rw [if_neg c4] at hF
      refine e_aload_n X dX12_meddle_47 rfl rfl ?_
      obtain ⟨z5, h_z5, hF⟩ := obind_out hF
      refine e_callVv X (σ1 := z5) [] [] (C_M_remembers (Cx_gok X) σ3 h_z5) gv_X12_308 yk_X12_remembers rfl (ent_lt (rfl : entTbl[333]? = some (13, 0))) (ent_at (rfl : entTbl[333]? = some (13, 0)) _) (rfl : vCl[11]? = some (RX12, TX12, 24)) ⟨Nat.le_of_ble_eq_true rfl, Nat.le_of_ble_eq_true rfl⟩ ⟨Nat.le_of_ble_eq_true rfl, Nat.le_of_ble_eq_true rfl⟩ (Nat.le_of_ble_eq_true rfl) dX12_meddle_48 rfl ?_
      refine e_aload_n X dX12_meddle_51 rfl rfl ?_
      refine e_iload_n X dX12_meddle_52 rfl rfl ?_
      refine e_iconst X 2 dX12_meddle_53 rfl ?_
      refine e_iconst X 0 dX12_meddle_54 rfl ?_
      refine e_aload_n X dX12_meddle_55 rfl rfl ?_
      refine e_iload_n X dX12_meddle_56 rfl rfl ?_
      refine e_iconst X 2 dX12_meddle_57 rfl ?_
      obtain ⟨z6, h_z6, hF⟩ := obind_out hF
      refine e_callVi X (r := z6) (σ1 := z5) [.int v2, .int 2] [.int 0, .int 2, .int v2, .ref (Γ.1 + 333)] (C_M_ofMatch (Cx_gok X) z5 v2 2 h_z6) gv_X12_58 yk_X12_ofMatch rfl (ent_lt (rfl : entTbl[333]? = some (13, 0))) (ent_at (rfl : entTbl[333]? = some (13, 0)) _) (rfl : vCl[11]? = some (RX12, TX12, 24)) ⟨Nat.le_of_ble_eq_true rfl, Nat.le_of_ble_eq_true rfl⟩ ⟨Nat.le_of_ble_eq_true rfl, Nat.le_of_ble_eq_true rfl⟩ (Nat.le_of_ble_eq_true rfl) dX12_meddle_58 rfl ?_
      refine e_iconst X 5 dX12_meddle_61 rfl ?_
      refine e_isub X dX12_meddle_62 ?_
      refine e_callSi X (r := (F_M_greater z5 0 ((z6 - 5)))) (σ1 := z5) [.int 0, .int ((z6 - 5))] [.int 2, .int v2, .ref (Γ.1 + 333)] (C_M_greater (Cx_gok X) z5 0 ((z6 - 5))) gs_X12_266 yk_X12_greater rfl ⟨Nat.le_of_ble_eq_true rfl, Nat.le_of_ble_eq_true rfl⟩ ⟨Nat.le_of_ble_eq_true rfl, Nat.le_of_ble_eq_true rfl⟩ (Nat.le_of_ble_eq_true rfl) dX12_meddle_63 rfl ?_
      obtain ⟨z7, h_z7, hF⟩ := obind_out hF
      refine e_callVv X (σ1 := z7) [.int v2, .int 2, .int ((F_M_greater z5 0 ((z6 - 5))))] [] (C_M_told (Cx_gok X) z5 v2 2 ((F_M_greater z5 0 ((z6 - 5)))) h_z7) gv_X12_141 yk_X12_told rfl (ent_lt (rfl : entTbl[333]? = some (13, 0))) (ent_at (rfl : entTbl[333]? = some (13, 0)) _) (rfl : vCl[11]? = some (RX12, TX12, 24)) ⟨Nat.le_of_ble_eq_true rfl, Nat.le_of_ble_eq_true rfl⟩ ⟨Nat.le_of_ble_eq_true rfl, Nat.le_of_ble_eq_true rfl⟩ (Nat.le_of_ble_eq_true rfl) dX12_meddle_66 rfl ?_
      refine e_aload_n X dX12_meddle_69 rfl rfl ?_
      refine e_iload_n X dX12_meddle_70 rfl rfl ?_
      refine e_iconst X 2 dX12_meddle_71 rfl ?_
      obtain ⟨z8, h_z8, hF⟩ := obind_out hF
      refine e_callVi X (r := z8) (σ1 := z7) [.int v2, .int 2] [] (C_M_ofMatch (Cx_gok X) z7 v2 2 h_z8) gv_X12_58 yk_X12_ofMatch rfl (ent_lt (rfl : entTbl[333]? = some (13, 0))) (ent_at (rfl : entTbl[333]? = some (13, 0)) _) (rfl : vCl[11]? = some (RX12, TX12, 24)) ⟨Nat.le_of_ble_eq_true rfl, Nat.le_of_ble_eq_true rfl⟩ ⟨Nat.le_of_ble_eq_true rfl, Nat.le_of_ble_eq_true rfl⟩ (Nat.le_of_ble_eq_true rfl) dX12_meddle_72 rfl ?_
      exact e_iret X hr dX12_meddle_75 (Nat.le_of_ble_eq_true rfl) (Nat.le_of_ble_eq_true rfl) (by cases hF; exact ⟨rfl, rfl⟩)
    · skip
      rw [if_pos c4] at hF
      refine e_iconst X 0 dX12_meddle_45 rfl ?_
      exact e_iret X hr dX12_meddle_46 (Nat.le_of_ble_eq_true rfl) (Nat.le_of_ble_eq_true rfl) (by cases hF; exact ⟨rfl, rfl⟩)
  · skip
    rw [if_neg c2] at hF
    refine e_aload_n X dX12_meddle_9 rfl rfl ?_
    refine e_iload_n X dX12_meddle_10 rfl rfl ?_
    obtain ⟨z9, h_z9, hF⟩ := obind_out hF
    refine e_callVi X (r := z9) (σ1 := σ) [.int v2] [.ref (Γ.1 + 333)] (C_M_isMatch (Cx_gok X) σ v2 h_z9) gv_X12_305 yk_X12_isMatch rfl (ent_lt (rfl : entTbl[333]? = some (13, 0))) (ent_at (rfl : entTbl[333]? = some (13, 0)) _) (rfl : vCl[11]? = some (RX12, TX12, 24)) ⟨Nat.le_of_ble_eq_true rfl, Nat.le_of_ble_eq_true rfl⟩ ⟨Nat.le_of_ble_eq_true rfl, Nat.le_of_ble_eq_true rfl⟩ (Nat.le_of_ble_eq_true rfl) dX12_meddle_11 rfl ?_
    refine e_if_ne X 21 dX12_meddle_14 (by decide) (fun c10 => ?_) (fun c10 => ?_)
    · skip
      rw [if_neg c10] at hF
      refine e_aload_n X dX12_meddle_21 rfl rfl ?_
      refine e_iload_n X dX12_meddle_22 rfl rfl ?_
      refine e_iload_n X dX12_meddle_23 rfl rfl ?_
      obtain ⟨z11, h_z11, hF⟩ := obind_out hF
      refine e_callVi X (r := z11) (σ1 := σ) [.int v1, .int v2] [.ref (Γ.1 + 333)] (C_M_insures (Cx_gok X) σ v1 v2 h_z11) gv_X12_311 yk_X12_insures rfl (ent_lt (rfl : entTbl[333]? = some (13, 0))) (ent_at (rfl : entTbl[333]? = some (13, 0)) _) (rfl : vCl[11]? = some (RX12, TX12, 24)) ⟨Nat.le_of_ble_eq_true rfl, Nat.le_of_ble_eq_true rfl⟩ ⟨Nat.le_of_ble_eq_true rfl, Nat.le_of_ble_eq_true rfl⟩ (Nat.le_of_ble_eq_true rfl) dX12_meddle_24 rfl ?_
      refine e_if_ne X 34 dX12_meddle_27 (by decide) (fun c12 => ?_) (fun c12 => ?_)
      · skip
        rw [if_neg c12] at hF
        refine e_iconst X 0 dX12_meddle_34 rfl ?_
        obtain ⟨σ13, h_σ13, hF⟩ := bindT_out hF
        refine pu_M_thrown X wf_X12_51 dX12_meddle_35 h_σ13 ?_
        refine e_aload_n X dX12_meddle_38 rfl rfl ?_
        refine ge_M_thrown X wf_X12_51 dX12_meddle_39 ?_
        refine e_if_le X 47 dX12_meddle_42 (by decide) (fun c14 => ?_) (fun c14 => ?_)
        · skip
          rw [if_neg c14] at hF
          refine e_aload_n X dX12_meddle_47 rfl rfl ?_
          obtain ⟨z15, h_z15, hF⟩ := obind_out hF
          refine e_callVv X (σ1 := z15) [] [] (C_M_remembers (Cx_gok X) σ13 h_z15) gv_X12_308 yk_X12_remembers rfl (ent_lt (rfl : entTbl[333]? = some (13, 0))) (ent_at (rfl : entTbl[333]? = some (13, 0)) _) (rfl : vCl[11]? = some (RX12, TX12, 24)) ⟨Nat.le_of_ble_eq_true rfl, Nat.le_of_ble_eq_true rfl⟩ ⟨Nat.le_of_ble_eq_true rfl, Nat.le_of_ble_eq_true rfl⟩ (Nat.le_of_ble_eq_true rfl) dX12_meddle_48 rfl ?_
          refine e_aload_n X dX12_meddle_51 rfl rfl ?_
          refine e_iload_n X dX12_meddle_52 rfl rfl ?_
          refine e_iconst X 2 dX12_meddle_53 rfl ?_
          refine e_iconst X 0 dX12_meddle_54 rfl ?_
          refine e_aload_n X dX12_meddle_55 rfl rfl ?_
          refine e_iload_n X dX12_meddle_56 rfl rfl ?_
          refine e_iconst X 2 dX12_meddle_57 rfl ?_
          obtain ⟨z16, h_z16, hF⟩ := obind_out hF
          refine e_callVi X (r := z16) (σ1 := z15) [.int v2, .int 2] [.int 0, .int 2, .int v2, .ref (Γ.1 + 333)] (C_M_ofMatch (Cx_gok X) z15 v2 2 h_z16) gv_X12_58 yk_X12_ofMatch rfl (ent_lt (rfl : entTbl[333]? = some (13, 0))) (ent_at (rfl : entTbl[333]? = some (13, 0)) _) (rfl : vCl[11]? = some (RX12, TX12, 24)) ⟨Nat.le_of_ble_eq_true rfl, Nat.le_of_ble_eq_true rfl⟩ ⟨Nat.le_of_ble_eq_true rfl, Nat.le_of_ble_eq_true rfl⟩ (Nat.le_of_ble_eq_true rfl) dX12_meddle_58 rfl ?_
          refine e_iconst X 5 dX12_meddle_61 rfl ?_
          refine e_isub X dX12_meddle_62 ?_
          refine e_callSi X (r := (F_M_greater z15 0 ((z16 - 5)))) (σ1 := z15) [.int 0, .int ((z16 - 5))] [.int 2, .int v2, .ref (Γ.1 + 333)] (C_M_greater (Cx_gok X) z15 0 ((z16 - 5))) gs_X12_266 yk_X12_greater rfl ⟨Nat.le_of_ble_eq_true rfl, Nat.le_of_ble_eq_true rfl⟩ ⟨Nat.le_of_ble_eq_true rfl, Nat.le_of_ble_eq_true rfl⟩ (Nat.le_of_ble_eq_true rfl) dX12_meddle_63 rfl ?_
          obtain ⟨z17, h_z17, hF⟩ := obind_out hF
          refine e_callVv X (σ1 := z17) [.int v2, .int 2, .int ((F_M_greater z15 0 ((z16 - 5))))] [] (C_M_told (Cx_gok X) z15 v2 2 ((F_M_greater z15 0 ((z16 - 5)))) h_z17) gv_X12_141 yk_X12_told rfl (ent_lt (rfl : entTbl[333]? = some (13, 0))) (ent_at (rfl : entTbl[333]? = some (13, 0)) _) (rfl : vCl[11]? = some (RX12, TX12, 24)) ⟨Nat.le_of_ble_eq_true rfl, Nat.le_of_ble_eq_true rfl⟩ ⟨Nat.le_of_ble_eq_true rfl, Nat.le_of_ble_eq_true rfl⟩ (Nat.le_of_ble_eq_true rfl) dX12_meddle_66 rfl ?_
          refine e_aload_n X dX12_meddle_69 rfl rfl ?_
          refine e_iload_n X dX12_meddle_70 rfl rfl ?_
          refine e_iconst X 2 dX12_meddle_71 rfl ?_
          obtain ⟨z18, h_z18, hF⟩ := obind_out hF
          refine e_callVi X (r := z18) (σ1 := z17) [.int v2, .int 2] [] (C_M_ofMatch (Cx_gok X) z17 v2 2 h_z18) gv_X12_58 yk_X12_ofMatch rfl (ent_lt (rfl : entTbl[333]? = some (13, 0))) (ent_at (rfl : entTbl[333]? = some (13, 0)) _) (rfl : vCl[11]? = some (RX12, TX12, 24)) ⟨Nat.le_of_ble_eq_true rfl, Nat.le_of_ble_eq_true rfl⟩ ⟨Nat.le_of_ble_eq_true rfl, Nat.le_of_ble_eq_true rfl⟩ (Nat.le_of_ble_eq_true rfl) dX12_meddle_72 rfl ?_
          exact e_iret X hr dX12_meddle_75 (Nat.le_of_ble_eq_true rfl) (Nat.le_of_ble_eq_true rfl) (by cases hF; exact ⟨rfl, rfl⟩)
        · skip
          rw [if_pos c14] at hF
          refine e_iconst X 0 dX12_meddle_45 rfl ?_
          exact e_iret X hr dX12_meddle_46 (Nat.le_of_ble_eq_true rfl) (Nat.le_of_ble_eq_true rfl) (by cases hF; exact ⟨rfl, rfl⟩)
      · skip
        rw [if_pos c12] at hF
        refine e_iconst X 2 dX12_meddle_30 rfl ?_
        refine e_goto X 35 dX12_meddle_31 (by decide) ?_
        obtain ⟨σ19, h_σ19, hF⟩ := bindT_out hF
        refine pu_M_thrown X wf_X12_51 dX12_meddle_35 h_σ19 ?_
        refine e_aload_n X dX12_meddle_38 rfl rfl ?_
        refine ge_M_thrown X wf_X12_51 dX12_meddle_39 ?_
        refine e_if_le X 47 dX12_meddle_42 (by decide) (fun c20 => ?_) (fun c20 => ?_)
        · skip
          rw [if_neg c20] at hF
          refine e_aload_n X dX12_meddle_47 rfl rfl ?_
          obtain ⟨z21, h_z21, hF⟩ := obind_out hF
          refine e_callVv X (σ1 := z21) [] [] (C_M_remembers (Cx_gok X) σ19 h_z21) gv_X12_308 yk_X12_remembers rfl (ent_lt (rfl : entTbl[333]? = some (13, 0))) (ent_at (rfl : entTbl[333]? = some (13, 0)) _) (rfl : vCl[11]? = some (RX12, TX12, 24)) ⟨Nat.le_of_ble_eq_true rfl, Nat.le_of_ble_eq_true rfl⟩ ⟨Nat.le_of_ble_eq_true rfl, Nat.le_of_ble_eq_true rfl⟩ (Nat.le_of_ble_eq_true rfl) dX12_meddle_48 rfl ?_
          refine e_aload_n X dX12_meddle_51 rfl rfl ?_
          refine e_iload_n X dX12_meddle_52 rfl rfl ?_
          refine e_iconst X 2 dX12_meddle_53 rfl ?_
          refine e_iconst X 0 dX12_meddle_54 rfl ?_
          refine e_aload_n X dX12_meddle_55 rfl rfl ?_
          refine e_iload_n X dX12_meddle_56 rfl rfl ?_
          refine e_iconst X 2 dX12_meddle_57 rfl ?_
          obtain ⟨z22, h_z22, hF⟩ := obind_out hF
          refine e_callVi X (r := z22) (σ1 := z21) [.int v2, .int 2] [.int 0, .int 2, .int v2, .ref (Γ.1 + 333)] (C_M_ofMatch (Cx_gok X) z21 v2 2 h_z22) gv_X12_58 yk_X12_ofMatch rfl (ent_lt (rfl : entTbl[333]? = some (13, 0))) (ent_at (rfl : entTbl[333]? = some (13, 0)) _) (rfl : vCl[11]? = some (RX12, TX12, 24)) ⟨Nat.le_of_ble_eq_true rfl, Nat.le_of_ble_eq_true rfl⟩ ⟨Nat.le_of_ble_eq_true rfl, Nat.le_of_ble_eq_true rfl⟩ (Nat.le_of_ble_eq_true rfl) dX12_meddle_58 rfl ?_
          refine e_iconst X 5 dX12_meddle_61 rfl ?_
          refine e_isub X dX12_meddle_62 ?_
          refine e_callSi X (r := (F_M_greater z21 0 ((z22 - 5)))) (σ1 := z21) [.int 0, .int ((z22 - 5))] [.int 2, .int v2, .ref (Γ.1 + 333)] (C_M_greater (Cx_gok X) z21 0 ((z22 - 5))) gs_X12_266 yk_X12_greater rfl ⟨Nat.le_of_ble_eq_true rfl, Nat.le_of_ble_eq_true rfl⟩ ⟨Nat.le_of_ble_eq_true rfl, Nat.le_of_ble_eq_true rfl⟩ (Nat.le_of_ble_eq_true rfl) dX12_meddle_63 rfl ?_
          obtain ⟨z23, h_z23, hF⟩ := obind_out hF
          refine e_callVv X (σ1 := z23) [.int v2, .int 2, .int ((F_M_greater z21 0 ((z22 - 5))))] [] (C_M_told (Cx_gok X) z21 v2 2 ((F_M_greater z21 0 ((z22 - 5)))) h_z23) gv_X12_141 yk_X12_told rfl (ent_lt (rfl : entTbl[333]? = some (13, 0))) (ent_at (rfl : entTbl[333]? = some (13, 0)) _) (rfl : vCl[11]? = some (RX12, TX12, 24)) ⟨Nat.le_of_ble_eq_true rfl, Nat.le_of_ble_eq_true rfl⟩ ⟨Nat.le_of_ble_eq_true rfl, Nat.le_of_ble_eq_true rfl⟩ (Nat.le_of_ble_eq_true rfl) dX12_meddle_66 rfl ?_
          refine e_aload_n X dX12_meddle_69 rfl rfl ?_
          refine e_iload_n X dX12_meddle_70 rfl rfl ?_
          refine e_iconst X 2 dX12_meddle_71 rfl ?_
          obtain ⟨z24, h_z24, hF⟩ := obind_out hF
          refine e_callVi X (r := z24) (σ1 := z23) [.int v2, .int 2] [] (C_M_ofMatch (Cx_gok X) z23 v2 2 h_z24) gv_X12_58 yk_X12_ofMatch rfl (ent_lt (rfl : entTbl[333]? = some (13, 0))) (ent_at (rfl : entTbl[333]? = some (13, 0)) _) (rfl : vCl[11]? = some (RX12, TX12, 24)) ⟨Nat.le_of_ble_eq_true rfl, Nat.le_of_ble_eq_true rfl⟩ ⟨Nat.le_of_ble_eq_true rfl, Nat.le_of_ble_eq_true rfl⟩ (Nat.le_of_ble_eq_true rfl) dX12_meddle_72 rfl ?_
          exact e_iret X hr dX12_meddle_75 (Nat.le_of_ble_eq_true rfl) (Nat.le_of_ble_eq_true rfl) (by cases hF; exact ⟨rfl, rfl⟩)
        · skip
          rw [if_pos c20] at hF
          refine e_iconst X 0 dX12_meddle_45 rfl ?_
          exact e_iret X hr dX12_meddle_46 (Nat.le_of_ble_eq_true rfl) (Nat.le_of_ble_eq_true rfl) (by cases hF; exact ⟨rfl, rfl⟩)
    · skip
      rw [if_pos c10] at hF
      refine e_iconst X 1 dX12_meddle_17 rfl ?_
      refine e_goto X 35 dX12_meddle_18 (by decide) ?_
      obtain ⟨σ25, h_σ25, hF⟩ := bindT_out hF
      refine pu_M_thrown X wf_X12_51 dX12_meddle_35 h_σ25 ?_
      refine e_aload_n X dX12_meddle_38 rfl rfl ?_
      refine ge_M_thrown X wf_X12_51 dX12_meddle_39 ?_
      refine e_if_le X 47 dX12_meddle_42 (by decide) (fun c26 => ?_) (fun c26 => ?_)
      · skip
        rw [if_neg c26] at hF
        refine e_aload_n X dX12_meddle_47 rfl rfl ?_
        obtain ⟨z27, h_z27, hF⟩ := obind_out hF
        refine e_callVv X (σ1 := z27) [] [] (C_M_remembers (Cx_gok X) σ25 h_z27) gv_X12_308 yk_X12_remembers rfl (ent_lt (rfl : entTbl[333]? = some (13, 0))) (ent_at (rfl : entTbl[333]? = some (13, 0)) _) (rfl : vCl[11]? = some (RX12, TX12, 24)) ⟨Nat.le_of_ble_eq_true rfl, Nat.le_of_ble_eq_true rfl⟩ ⟨Nat.le_of_ble_eq_true rfl, Nat.le_of_ble_eq_true rfl⟩ (Nat.le_of_ble_eq_true rfl) dX12_meddle_48 rfl ?_
        refine e_aload_n X dX12_meddle_51 rfl rfl ?_
        refine e_iload_n X dX12_meddle_52 rfl rfl ?_
        refine e_iconst X 2 dX12_meddle_53 rfl ?_
        refine e_iconst X 0 dX12_meddle_54 rfl ?_
        refine e_aload_n X dX12_meddle_55 rfl rfl ?_
        refine e_iload_n X dX12_meddle_56 rfl rfl ?_
        refine e_iconst X 2 dX12_meddle_57 rfl ?_
        obtain ⟨z28, h_z28, hF⟩ := obind_out hF
        refine e_callVi X (r := z28) (σ1 := z27) [.int v2, .int 2] [.int 0, .int 2, .int v2, .ref (Γ.1 + 333)] (C_M_ofMatch (Cx_gok X) z27 v2 2 h_z28) gv_X12_58 yk_X12_ofMatch rfl (ent_lt (rfl : entTbl[333]? = some (13, 0))) (ent_at (rfl : entTbl[333]? = some (13, 0)) _) (rfl : vCl[11]? = some (RX12, TX12, 24)) ⟨Nat.le_of_ble_eq_true rfl, Nat.le_of_ble_eq_true rfl⟩ ⟨Nat.le_of_ble_eq_true rfl, Nat.le_of_ble_eq_true rfl⟩ (Nat.le_of_ble_eq_true rfl) dX12_meddle_58 rfl ?_
        refine e_iconst X 5 dX12_meddle_61 rfl ?_
        refine e_isub X dX12_meddle_62 ?_
        refine e_callSi X (r := (F_M_greater z27 0 ((z28 - 5)))) (σ1 := z27) [.int 0, .int ((z28 - 5))] [.int 2, .int v2, .ref (Γ.1 + 333)] (C_M_greater (Cx_gok X) z27 0 ((z28 - 5))) gs_X12_266 yk_X12_greater rfl ⟨Nat.le_of_ble_eq_true rfl, Nat.le_of_ble_eq_true rfl⟩ ⟨Nat.le_of_ble_eq_true rfl, Nat.le_of_ble_eq_true rfl⟩ (Nat.le_of_ble_eq_true rfl) dX12_meddle_63 rfl ?_
        obtain ⟨z29, h_z29, hF⟩ := obind_out hF
        refine e_callVv X (σ1 := z29) [.int v2, .int 2, .int ((F_M_greater z27 0 ((z28 - 5))))] [] (C_M_told (Cx_gok X) z27 v2 2 ((F_M_greater z27 0 ((z28 - 5)))) h_z29) gv_X12_141 yk_X12_told rfl (ent_lt (rfl : entTbl[333]? = some (13, 0))) (ent_at (rfl : entTbl[333]? = some (13, 0)) _) (rfl : vCl[11]? = some (RX12, TX12, 24)) ⟨Nat.le_of_ble_eq_true rfl, Nat.le_of_ble_eq_true rfl⟩ ⟨Nat.le_of_ble_eq_true rfl, Nat.le_of_ble_eq_true rfl⟩ (Nat.le_of_ble_eq_true rfl) dX12_meddle_66 rfl ?_
        refine e_aload_n X dX12_meddle_69 rfl rfl ?_
        refine e_iload_n X dX12_meddle_70 rfl rfl ?_
        refine e_iconst X 2 dX12_meddle_71 rfl ?_
        obtain ⟨z30, h_z30, hF⟩ := obind_out hF
        refine e_callVi X (r := z30) (σ1 := z29) [.int v2, .int 2] [] (C_M_ofMatch (Cx_gok X) z29 v2 2 h_z30) gv_X12_58 yk_X12_ofMatch rfl (ent_lt (rfl : entTbl[333]? = some (13, 0))) (ent_at (rfl : entTbl[333]? = some (13, 0)) _) (rfl : vCl[11]? = some (RX12, TX12, 24)) ⟨Nat.le_of_ble_eq_true rfl, Nat.le_of_ble_eq_true rfl⟩ ⟨Nat.le_of_ble_eq_true rfl, Nat.le_of_ble_eq_true rfl⟩ (Nat.le_of_ble_eq_true rfl) dX12_meddle_72 rfl ?_
        exact e_iret X hr dX12_meddle_75 (Nat.le_of_ble_eq_true rfl) (Nat.le_of_ble_eq_true rfl) (by cases hF; exact ⟨rfl, rfl⟩)
      · skip
        rw [if_pos c26] at hF
        refine e_iconst X 0 dX12_meddle_45 rfl ?_
        exact e_iret X hr dX12_meddle_46 (Nat.le_of_ble_eq_true rfl) (Nat.le_of_ble_eq_true rfl) (by cases hF; exact ⟨rfl, rfl⟩)
set_option maxRecDepth 20000 in
set_option maxHeartbeats 4000000 in
theorem C_M_reinsure (hG : Gok l Γ D s0) (σ : Mem) (v1 : Int32) (v2 : Int32)  {out : Mem × Int32} (hF : F_M_reinsure σ v1 v2 = some out) : CT l Γ D s0 yX12_reinsure cX12_reinsure 4 (some .int) (2) 0 0 (43) σ [.ref (Γ.1 + 333), .int v1, .int v2] (PI (some (.int out.2)) out.1) := by
  unfold F_M_reinsure at hF
  refine e_met (own := RX12) hG (by decide +kernel) rfl rfl (Nat.le_of_ble_eq_true rfl) ?_
  intro p e s m args below meth c X hr
  show E p l e _ s m args below meth c Γ D 0 0 _ σ 0 [some (.ref (Γ.1 + 333)), some (.int v1), some (.int v2), none] []
  refine e_aload_n X dX12_reinsure_0 rfl rfl ?_
  refine e_aload_n X dX12_reinsure_1 rfl rfl ?_
  refine e_iload_n X dX12_reinsure_2 rfl rfl ?_
  obtain ⟨z1, h_z1, hF⟩ := obind_out hF
  refine e_callVi X (r := z1) (σ1 := σ) [.int v1] [.ref (Γ.1 + 333)] (C_M_isPerson (Cx_gok X) σ v1 h_z1) gv_X12_293 yk_X12_isPerson rfl (ent_lt (rfl : entTbl[333]? = some (13, 0))) (ent_at (rfl : entTbl[333]? = some (13, 0)) _) (rfl : vCl[11]? = some (RX12, TX12, 24)) ⟨Nat.le_of_ble_eq_true rfl, Nat.le_of_ble_eq_true rfl⟩ ⟨Nat.le_of_ble_eq_true rfl, Nat.le_of_ble_eq_true rfl⟩ (Nat.le_of_ble_eq_true rfl) dX12_reinsure_3 rfl ?_
  refine e_if_eq X 22 dX12_reinsure_6 (by decide) (fun c2 => ?_) (fun c2 => ?_)
  · skip
    rw [if_pos c2] at hF
    refine e_iconst X 1 dX12_reinsure_22 rfl ?_
    refine e_goto X 36 dX12_reinsure_23 (by decide) ?_
    obtain ⟨σ3, h_σ3, hF⟩ := bindT_out hF
    refine pu_M_thrown X wf_X12_51 dX12_reinsure_36 h_σ3 ?_
    refine e_aload_n X dX12_reinsure_39 rfl rfl ?_
    refine ge_M_thrown X wf_X12_51 dX12_reinsure_40 ?_
    refine e_if_le X 48 dX12_reinsure_43 (by decide) (fun c4 => ?_) (fun c4 => ?_)
    · skip
      rw [if_neg c4] at hF
      refine e_aload_n X dX12_reinsure_48 rfl rfl ?_
      obtain ⟨z5, h_z5, hF⟩ := obind_out hF
      refine e_callVv X (σ1 := z5) [] [] (C_M_remembers (Cx_gok X) σ3 h_z5) gv_X12_308 yk_X12_remembers rfl (ent_lt (rfl : entTbl[333]? = some (13, 0))) (ent_at (rfl : entTbl[333]? = some (13, 0)) _) (rfl : vCl[11]? = some (RX12, TX12, 24)) ⟨Nat.le_of_ble_eq_true rfl, Nat.le_of_ble_eq_true rfl⟩ ⟨Nat.le_of_ble_eq_true rfl, Nat.le_of_ble_eq_true rfl⟩ (Nat.le_of_ble_eq_true rfl) dX12_reinsure_49 rfl ?_
      refine e_aload_n X dX12_reinsure_52 rfl rfl ?_
      refine e_iload_n X dX12_reinsure_53 rfl rfl ?_
      refine e_iconst X 2 dX12_reinsure_54 rfl ?_
      obtain ⟨z6, h_z6, hF⟩ := obind_out hF
      refine e_callVi X (r := z6) (σ1 := z5) [.int v1, .int 2] [] (C_M_of (Cx_gok X) z5 v1 2 h_z6) gv_X12_62 yk_X12_of rfl (ent_lt (rfl : entTbl[333]? = some (13, 0))) (ent_at (rfl : entTbl[333]? = some (13, 0)) _) (rfl : vCl[11]? = some (RX12, TX12, 24)) ⟨Nat.le_of_ble_eq_true rfl, Nat.le_of_ble_eq_true rfl⟩ ⟨Nat.le_of_ble_eq_true rfl, Nat.le_of_ble_eq_true rfl⟩ (Nat.le_of_ble_eq_true rfl) dX12_reinsure_55 rfl ?_
      refine e_istore_n X rfl dX12_reinsure_58 rfl (by decide) ?_
      refine e_aload_n X dX12_reinsure_59 rfl rfl ?_
      refine e_iload_n X dX12_reinsure_60 rfl rfl ?_
      refine e_iconst X 2 dX12_reinsure_61 rfl ?_
      refine e_iload_n X dX12_reinsure_62 rfl rfl ?_
      obtain ⟨z7, h_z7, hF⟩ := obind_out hF
      refine e_callVv X (σ1 := z7) [.int v1, .int 2, .int v2] [] (C_M_has (Cx_gok X) z5 v1 2 v2 h_z7) gv_X12_144 yk_X12_has rfl (ent_lt (rfl : entTbl[333]? = some (13, 0))) (ent_at (rfl : entTbl[333]? = some (13, 0)) _) (rfl : vCl[11]? = some (RX12, TX12, 24)) ⟨Nat.le_of_ble_eq_true rfl, Nat.le_of_ble_eq_true rfl⟩ ⟨Nat.le_of_ble_eq_true rfl, Nat.le_of_ble_eq_true rfl⟩ (Nat.le_of_ble_eq_true rfl) dX12_reinsure_63 rfl ?_
      refine e_iload_n X dX12_reinsure_66 rfl rfl ?_
      exact e_iret X hr dX12_reinsure_67 (Nat.le_of_ble_eq_true rfl) (Nat.le_of_ble_eq_true rfl) (by cases hF; exact ⟨rfl, rfl⟩)
    · skip
      rw [if_pos c4] at hF
      refine e_iconst X 0 dX12_reinsure_46 rfl ?_
      exact e_iret X hr dX12_reinsure_47 (Nat.le_of_ble_eq_true rfl) (Nat.le_of_ble_eq_true rfl) (by cases hF; exact ⟨rfl, rfl⟩)
  · skip
    rw [if_neg c2] at hF
    refine e_iload_n X dX12_reinsure_9 rfl rfl ?_
    refine e_iconst X (-1) dX12_reinsure_10 rfl ?_
    refine e_icmp_eq X 26 dX12_reinsure_11 (by decide) (fun c8 => ?_) (fun c8 => ?_)
    · skip
      rw [if_pos c8] at hF
      refine e_iload_n X dX12_reinsure_26 rfl rfl ?_
      refine e_iload_n X dX12_reinsure_27 rfl rfl ?_
      refine e_icmp_ne X 35 dX12_reinsure_28 (by decide) (fun c9 => ?_) (fun c9 => ?_)
      · skip
        rw [if_neg c9] at hF
        refine e_iconst X 0 dX12_reinsure_35 rfl ?_
        obtain ⟨σ10, h_σ10, hF⟩ := bindT_out hF
        refine pu_M_thrown X wf_X12_51 dX12_reinsure_36 h_σ10 ?_
        refine e_aload_n X dX12_reinsure_39 rfl rfl ?_
        refine ge_M_thrown X wf_X12_51 dX12_reinsure_40 ?_
        refine e_if_le X 48 dX12_reinsure_43 (by decide) (fun c11 => ?_) (fun c11 => ?_)
        · skip
          rw [if_neg c11] at hF
          refine e_aload_n X dX12_reinsure_48 rfl rfl ?_
          obtain ⟨z12, h_z12, hF⟩ := obind_out hF
          refine e_callVv X (σ1 := z12) [] [] (C_M_remembers (Cx_gok X) σ10 h_z12) gv_X12_308 yk_X12_remembers rfl (ent_lt (rfl : entTbl[333]? = some (13, 0))) (ent_at (rfl : entTbl[333]? = some (13, 0)) _) (rfl : vCl[11]? = some (RX12, TX12, 24)) ⟨Nat.le_of_ble_eq_true rfl, Nat.le_of_ble_eq_true rfl⟩ ⟨Nat.le_of_ble_eq_true rfl, Nat.le_of_ble_eq_true rfl⟩ (Nat.le_of_ble_eq_true rfl) dX12_reinsure_49 rfl ?_
          refine e_aload_n X dX12_reinsure_52 rfl rfl ?_
          refine e_iload_n X dX12_reinsure_53 rfl rfl ?_
          refine e_iconst X 2 dX12_reinsure_54 rfl ?_
          obtain ⟨z13, h_z13, hF⟩ := obind_out hF
          refine e_callVi X (r := z13) (σ1 := z12) [.int v1, .int 2] [] (C_M_of (Cx_gok X) z12 v1 2 h_z13) gv_X12_62 yk_X12_of rfl (ent_lt (rfl : entTbl[333]? = some (13, 0))) (ent_at (rfl : entTbl[333]? = some (13, 0)) _) (rfl : vCl[11]? = some (RX12, TX12, 24)) ⟨Nat.le_of_ble_eq_true rfl, Nat.le_of_ble_eq_true rfl⟩ ⟨Nat.le_of_ble_eq_true rfl, Nat.le_of_ble_eq_true rfl⟩ (Nat.le_of_ble_eq_true rfl) dX12_reinsure_55 rfl ?_
          refine e_istore_n X rfl dX12_reinsure_58 rfl (by decide) ?_
          refine e_aload_n X dX12_reinsure_59 rfl rfl ?_
          refine e_iload_n X dX12_reinsure_60 rfl rfl ?_
          refine e_iconst X 2 dX12_reinsure_61 rfl ?_
          refine e_iload_n X dX12_reinsure_62 rfl rfl ?_
          obtain ⟨z14, h_z14, hF⟩ := obind_out hF
          refine e_callVv X (σ1 := z14) [.int v1, .int 2, .int v2] [] (C_M_has (Cx_gok X) z12 v1 2 v2 h_z14) gv_X12_144 yk_X12_has rfl (ent_lt (rfl : entTbl[333]? = some (13, 0))) (ent_at (rfl : entTbl[333]? = some (13, 0)) _) (rfl : vCl[11]? = some (RX12, TX12, 24)) ⟨Nat.le_of_ble_eq_true rfl, Nat.le_of_ble_eq_true rfl⟩ ⟨Nat.le_of_ble_eq_true rfl, Nat.le_of_ble_eq_true rfl⟩ (Nat.le_of_ble_eq_true rfl) dX12_reinsure_63 rfl ?_
          refine e_iload_n X dX12_reinsure_66 rfl rfl ?_
          exact e_iret X hr dX12_reinsure_67 (Nat.le_of_ble_eq_true rfl) (Nat.le_of_ble_eq_true rfl) (by cases hF; exact ⟨rfl, rfl⟩)
        · skip
          rw [if_pos c11] at hF
          refine e_iconst X 0 dX12_reinsure_46 rfl ?_
          exact e_iret X hr dX12_reinsure_47 (Nat.le_of_ble_eq_true rfl) (Nat.le_of_ble_eq_true rfl) (by cases hF; exact ⟨rfl, rfl⟩)
      · skip
        rw [if_pos c9] at hF
        refine e_iconst X 2 dX12_reinsure_31 rfl ?_
        refine e_goto X 36 dX12_reinsure_32 (by decide) ?_
        obtain ⟨σ15, h_σ15, hF⟩ := bindT_out hF
        refine pu_M_thrown X wf_X12_51 dX12_reinsure_36 h_σ15 ?_
        refine e_aload_n X dX12_reinsure_39 rfl rfl ?_
        refine ge_M_thrown X wf_X12_51 dX12_reinsure_40 ?_
        refine e_if_le X 48 dX12_reinsure_43 (by decide) (fun c16 => ?_) (fun c16 => ?_)
        · skip
          rw [if_neg c16] at hF
          refine e_aload_n X dX12_reinsure_48 rfl rfl ?_
          obtain ⟨z17, h_z17, hF⟩ := obind_out hF
          refine e_callVv X (σ1 := z17) [] [] (C_M_remembers (Cx_gok X) σ15 h_z17) gv_X12_308 yk_X12_remembers rfl (ent_lt (rfl : entTbl[333]? = some (13, 0))) (ent_at (rfl : entTbl[333]? = some (13, 0)) _) (rfl : vCl[11]? = some (RX12, TX12, 24)) ⟨Nat.le_of_ble_eq_true rfl, Nat.le_of_ble_eq_true rfl⟩ ⟨Nat.le_of_ble_eq_true rfl, Nat.le_of_ble_eq_true rfl⟩ (Nat.le_of_ble_eq_true rfl) dX12_reinsure_49 rfl ?_
          refine e_aload_n X dX12_reinsure_52 rfl rfl ?_
          refine e_iload_n X dX12_reinsure_53 rfl rfl ?_
          refine e_iconst X 2 dX12_reinsure_54 rfl ?_
          obtain ⟨z18, h_z18, hF⟩ := obind_out hF
          refine e_callVi X (r := z18) (σ1 := z17) [.int v1, .int 2] [] (C_M_of (Cx_gok X) z17 v1 2 h_z18) gv_X12_62 yk_X12_of rfl (ent_lt (rfl : entTbl[333]? = some (13, 0))) (ent_at (rfl : entTbl[333]? = some (13, 0)) _) (rfl : vCl[11]? = some (RX12, TX12, 24)) ⟨Nat.le_of_ble_eq_true rfl, Nat.le_of_ble_eq_true rfl⟩ ⟨Nat.le_of_ble_eq_true rfl, Nat.le_of_ble_eq_true rfl⟩ (Nat.le_of_ble_eq_true rfl) dX12_reinsure_55 rfl ?_
          refine e_istore_n X rfl dX12_reinsure_58 rfl (by decide) ?_
          refine e_aload_n X dX12_reinsure_59 rfl rfl ?_
          refine e_iload_n X dX12_reinsure_60 rfl rfl ?_
          refine e_iconst X 2 dX12_reinsure_61 rfl ?_
          refine e_iload_n X dX12_reinsure_62 rfl rfl ?_
          obtain ⟨z19, h_z19, hF⟩ := obind_out hF
          refine e_callVv X (σ1 := z19) [.int v1, .int 2, .int v2] [] (C_M_has (Cx_gok X) z17 v1 2 v2 h_z19) gv_X12_144 yk_X12_has rfl (ent_lt (rfl : entTbl[333]? = some (13, 0))) (ent_at (rfl : entTbl[333]? = some (13, 0)) _) (rfl : vCl[11]? = some (RX12, TX12, 24)) ⟨Nat.le_of_ble_eq_true rfl, Nat.le_of_ble_eq_true rfl⟩ ⟨Nat.le_of_ble_eq_true rfl, Nat.le_of_ble_eq_true rfl⟩ (Nat.le_of_ble_eq_true rfl) dX12_reinsure_63 rfl ?_
          refine e_iload_n X dX12_reinsure_66 rfl rfl ?_
          exact e_iret X hr dX12_reinsure_67 (Nat.le_of_ble_eq_true rfl) (Nat.le_of_ble_eq_true rfl) (by cases hF; exact ⟨rfl, rfl⟩)
        · skip
          rw [if_pos c16] at hF
          refine e_iconst X 0 dX12_reinsure_46 rfl ?_
          exact e_iret X hr dX12_reinsure_47 (Nat.le_of_ble_eq_true rfl) (Nat.le_of_ble_eq_true rfl) (by cases hF; exact ⟨rfl, rfl⟩)
    · skip
      rw [if_neg c8] at hF
      refine e_aload_n X dX12_reinsure_14 rfl rfl ?_
      refine e_iload_n X dX12_reinsure_15 rfl rfl ?_
      obtain ⟨z20, h_z20, hF⟩ := obind_out hF
      refine e_callVi X (r := z20) (σ1 := σ) [.int v2] [.ref (Γ.1 + 333)] (C_M_isPerson (Cx_gok X) σ v2 h_z20) gv_X12_293 yk_X12_isPerson rfl (ent_lt (rfl : entTbl[333]? = some (13, 0))) (ent_at (rfl : entTbl[333]? = some (13, 0)) _) (rfl : vCl[11]? = some (RX12, TX12, 24)) ⟨Nat.le_of_ble_eq_true rfl, Nat.le_of_ble_eq_true rfl⟩ ⟨Nat.le_of_ble_eq_true rfl, Nat.le_of_ble_eq_true rfl⟩ (Nat.le_of_ble_eq_true rfl) dX12_reinsure_16 rfl ?_
      refine e_if_ne X 26 dX12_reinsure_19 (by decide) (fun c21 => ?_) (fun c21 => ?_)
      · skip
        rw [if_neg c21] at hF
        refine e_iload_n X dX12_reinsure_26 rfl rfl ?_
        refine e_iload_n X dX12_reinsure_27 rfl rfl ?_
        refine e_icmp_ne X 35 dX12_reinsure_28 (by decide) (fun c22 => ?_) (fun c22 => ?_)
        · skip
          rw [if_neg c22] at hF
          refine e_iconst X 0 dX12_reinsure_35 rfl ?_
          obtain ⟨σ23, h_σ23, hF⟩ := bindT_out hF
          refine pu_M_thrown X wf_X12_51 dX12_reinsure_36 h_σ23 ?_
          refine e_aload_n X dX12_reinsure_39 rfl rfl ?_
          refine ge_M_thrown X wf_X12_51 dX12_reinsure_40 ?_
          refine e_if_le X 48 dX12_reinsure_43 (by decide) (fun c24 => ?_) (fun c24 => ?_)
          · skip
            rw [if_neg c24] at hF
            refine e_aload_n X dX12_reinsure_48 rfl rfl ?_
            obtain ⟨z25, h_z25, hF⟩ := obind_out hF
            refine e_callVv X (σ1 := z25) [] [] (C_M_remembers (Cx_gok X) σ23 h_z25) gv_X12_308 yk_X12_remembers rfl (ent_lt (rfl : entTbl[333]? = some (13, 0))) (ent_at (rfl : entTbl[333]? = some (13, 0)) _) (rfl : vCl[11]? = some (RX12, TX12, 24)) ⟨Nat.le_of_ble_eq_true rfl, Nat.le_of_ble_eq_true rfl⟩ ⟨Nat.le_of_ble_eq_true rfl, Nat.le_of_ble_eq_true rfl⟩ (Nat.le_of_ble_eq_true rfl) dX12_reinsure_49 rfl ?_
            refine e_aload_n X dX12_reinsure_52 rfl rfl ?_
            refine e_iload_n X dX12_reinsure_53 rfl rfl ?_
            refine e_iconst X 2 dX12_reinsure_54 rfl ?_
            obtain ⟨z26, h_z26, hF⟩ := obind_out hF
            refine e_callVi X (r := z26) (σ1 := z25) [.int v1, .int 2] [] (C_M_of (Cx_gok X) z25 v1 2 h_z26) gv_X12_62 yk_X12_of rfl (ent_lt (rfl : entTbl[333]? = some (13, 0))) (ent_at (rfl : entTbl[333]? = some (13, 0)) _) (rfl : vCl[11]? = some (RX12, TX12, 24)) ⟨Nat.le_of_ble_eq_true rfl, Nat.le_of_ble_eq_true rfl⟩ ⟨Nat.le_of_ble_eq_true rfl, Nat.le_of_ble_eq_true rfl⟩ (Nat.le_of_ble_eq_true rfl) dX12_reinsure_55 rfl ?_
            refine e_istore_n X rfl dX12_reinsure_58 rfl (by decide) ?_
            refine e_aload_n X dX12_reinsure_59 rfl rfl ?_
            refine e_iload_n X dX12_reinsure_60 rfl rfl ?_
            refine e_iconst X 2 dX12_reinsure_61 rfl ?_
            refine e_iload_n X dX12_reinsure_62 rfl rfl ?_
            obtain ⟨z27, h_z27, hF⟩ := obind_out hF
            refine e_callVv X (σ1 := z27) [.int v1, .int 2, .int v2] [] (C_M_has (Cx_gok X) z25 v1 2 v2 h_z27) gv_X12_144 yk_X12_has rfl (ent_lt (rfl : entTbl[333]? = some (13, 0))) (ent_at (rfl : entTbl[333]? = some (13, 0)) _) (rfl : vCl[11]? = some (RX12, TX12, 24)) ⟨Nat.le_of_ble_eq_true rfl, Nat.le_of_ble_eq_true rfl⟩ ⟨Nat.le_of_ble_eq_true rfl, Nat.le_of_ble_eq_true rfl⟩ (Nat.le_of_ble_eq_true rfl) dX12_reinsure_63 rfl ?_
            refine e_iload_n X dX12_reinsure_66 rfl rfl ?_
            exact e_iret X hr dX12_reinsure_67 (Nat.le_of_ble_eq_true rfl) (Nat.le_of_ble_eq_true rfl) (by cases hF; exact ⟨rfl, rfl⟩)
          · skip
            rw [if_pos c24] at hF
            refine e_iconst X 0 dX12_reinsure_46 rfl ?_
            exact e_iret X hr dX12_reinsure_47 (Nat.le_of_ble_eq_true rfl) (Nat.le_of_ble_eq_true rfl) (by cases hF; exact ⟨rfl, rfl⟩)
        · skip
          rw [if_pos c22] at hF
          refine e_iconst X 2 dX12_reinsure_31 rfl ?_
          refine e_goto X 36 dX12_reinsure_32 (by decide) ?_
          obtain ⟨σ28, h_σ28, hF⟩ := bindT_out hF
          refine pu_M_thrown X wf_X12_51 dX12_reinsure_36 h_σ28 ?_
          refine e_aload_n X dX12_reinsure_39 rfl rfl ?_
          refine ge_M_thrown X wf_X12_51 dX12_reinsure_40 ?_
          refine e_if_le X 48 dX12_reinsure_43 (by decide) (fun c29 => ?_) (fun c29 => ?_)
          · skip
            rw [if_neg c29] at hF
            refine e_aload_n X dX12_reinsure_48 rfl rfl ?_
            obtain ⟨z30, h_z30, hF⟩ := obind_out hF
            refine e_callVv X (σ1 := z30) [] [] (C_M_remembers (Cx_gok X) σ28 h_z30) gv_X12_308 yk_X12_remembers rfl (ent_lt (rfl : entTbl[333]? = some (13, 0))) (ent_at (rfl : entTbl[333]? = some (13, 0)) _) (rfl : vCl[11]? = some (RX12, TX12, 24)) ⟨Nat.le_of_ble_eq_true rfl, Nat.le_of_ble_eq_true rfl⟩ ⟨Nat.le_of_ble_eq_true rfl, Nat.le_of_ble_eq_true rfl⟩ (Nat.le_of_ble_eq_true rfl) dX12_reinsure_49 rfl ?_
            refine e_aload_n X dX12_reinsure_52 rfl rfl ?_
            refine e_iload_n X dX12_reinsure_53 rfl rfl ?_
            refine e_iconst X 2 dX12_reinsure_54 rfl ?_
            obtain ⟨z31, h_z31, hF⟩ := obind_out hF
            refine e_callVi X (r := z31) (σ1 := z30) [.int v1, .int 2] [] (C_M_of (Cx_gok X) z30 v1 2 h_z31) gv_X12_62 yk_X12_of rfl (ent_lt (rfl : entTbl[333]? = some (13, 0))) (ent_at (rfl : entTbl[333]? = some (13, 0)) _) (rfl : vCl[11]? = some (RX12, TX12, 24)) ⟨Nat.le_of_ble_eq_true rfl, Nat.le_of_ble_eq_true rfl⟩ ⟨Nat.le_of_ble_eq_true rfl, Nat.le_of_ble_eq_true rfl⟩ (Nat.le_of_ble_eq_true rfl) dX12_reinsure_55 rfl ?_
            refine e_istore_n X rfl dX12_reinsure_58 rfl (by decide) ?_
            refine e_aload_n X dX12_reinsure_59 rfl rfl ?_
            refine e_iload_n X dX12_reinsure_60 rfl rfl ?_
            refine e_iconst X 2 dX12_reinsure_61 rfl ?_
            refine e_iload_n X dX12_reinsure_62 rfl rfl ?_
            obtain ⟨z32, h_z32, hF⟩ := obind_out hF
            refine e_callVv X (σ1 := z32) [.int v1, .int 2, .int v2] [] (C_M_has (Cx_gok X) z30 v1 2 v2 h_z32) gv_X12_144 yk_X12_has rfl (ent_lt (rfl : entTbl[333]? = some (13, 0))) (ent_at (rfl : entTbl[333]? = some (13, 0)) _) (rfl : vCl[11]? = some (RX12, TX12, 24)) ⟨Nat.le_of_ble_eq_true rfl, Nat.le_of_ble_eq_true rfl⟩ ⟨Nat.le_of_ble_eq_true rfl, Nat.le_of_ble_eq_true rfl⟩ (Nat.le_of_ble_eq_true rfl) dX12_reinsure_63 rfl ?_
            refine e_iload_n X dX12_reinsure_66 rfl rfl ?_
            exact e_iret X hr dX12_reinsure_67 (Nat.le_of_ble_eq_true rfl) (Nat.le_of_ble_eq_true rfl) (by cases hF; exact ⟨rfl, rfl⟩)
          · skip
            rw [if_pos c29] at hF
            refine e_iconst X 0 dX12_reinsure_46 rfl ?_
            exact e_iret X hr dX12_reinsure_47 (Nat.le_of_ble_eq_true rfl) (Nat.le_of_ble_eq_true rfl) (by cases hF; exact ⟨rfl, rfl⟩)
      · skip
        rw [if_pos c21] at hF
        refine e_iconst X 1 dX12_reinsure_22 rfl ?_
        refine e_goto X 36 dX12_reinsure_23 (by decide) ?_
        obtain ⟨σ33, h_σ33, hF⟩ := bindT_out hF
        refine pu_M_thrown X wf_X12_51 dX12_reinsure_36 h_σ33 ?_
        refine e_aload_n X dX12_reinsure_39 rfl rfl ?_
        refine ge_M_thrown X wf_X12_51 dX12_reinsure_40 ?_
        refine e_if_le X 48 dX12_reinsure_43 (by decide) (fun c34 => ?_) (fun c34 => ?_)
        · skip
          rw [if_neg c34] at hF
          refine e_aload_n X dX12_reinsure_48 rfl rfl ?_
          obtain ⟨z35, h_z35, hF⟩ := obind_out hF
          refine e_callVv X (σ1 := z35) [] [] (C_M_remembers (Cx_gok X) σ33 h_z35) gv_X12_308 yk_X12_remembers rfl (ent_lt (rfl : entTbl[333]? = some (13, 0))) (ent_at (rfl : entTbl[333]? = some (13, 0)) _) (rfl : vCl[11]? = some (RX12, TX12, 24)) ⟨Nat.le_of_ble_eq_true rfl, Nat.le_of_ble_eq_true rfl⟩ ⟨Nat.le_of_ble_eq_true rfl, Nat.le_of_ble_eq_true rfl⟩ (Nat.le_of_ble_eq_true rfl) dX12_reinsure_49 rfl ?_
          refine e_aload_n X dX12_reinsure_52 rfl rfl ?_
          refine e_iload_n X dX12_reinsure_53 rfl rfl ?_
          refine e_iconst X 2 dX12_reinsure_54 rfl ?_
          obtain ⟨z36, h_z36, hF⟩ := obind_out hF
          refine e_callVi X (r := z36) (σ1 := z35) [.int v1, .int 2] [] (C_M_of (Cx_gok X) z35 v1 2 h_z36) gv_X12_62 yk_X12_of rfl (ent_lt (rfl : entTbl[333]? = some (13, 0))) (ent_at (rfl : entTbl[333]? = some (13, 0)) _) (rfl : vCl[11]? = some (RX12, TX12, 24)) ⟨Nat.le_of_ble_eq_true rfl, Nat.le_of_ble_eq_true rfl⟩ ⟨Nat.le_of_ble_eq_true rfl, Nat.le_of_ble_eq_true rfl⟩ (Nat.le_of_ble_eq_true rfl) dX12_reinsure_55 rfl ?_
          refine e_istore_n X rfl dX12_reinsure_58 rfl (by decide) ?_
          refine e_aload_n X dX12_reinsure_59 rfl rfl ?_
          refine e_iload_n X dX12_reinsure_60 rfl rfl ?_
          refine e_iconst X 2 dX12_reinsure_61 rfl ?_
          refine e_iload_n X dX12_reinsure_62 rfl rfl ?_
          obtain ⟨z37, h_z37, hF⟩ := obind_out hF
          refine e_callVv X (σ1 := z37) [.int v1, .int 2, .int v2] [] (C_M_has (Cx_gok X) z35 v1 2 v2 h_z37) gv_X12_144 yk_X12_has rfl (ent_lt (rfl : entTbl[333]? = some (13, 0))) (ent_at (rfl : entTbl[333]? = some (13, 0)) _) (rfl : vCl[11]? = some (RX12, TX12, 24)) ⟨Nat.le_of_ble_eq_true rfl, Nat.le_of_ble_eq_true rfl⟩ ⟨Nat.le_of_ble_eq_true rfl, Nat.le_of_ble_eq_true rfl⟩ (Nat.le_of_ble_eq_true rfl) dX12_reinsure_63 rfl ?_
          refine e_iload_n X dX12_reinsure_66 rfl rfl ?_
          exact e_iret X hr dX12_reinsure_67 (Nat.le_of_ble_eq_true rfl) (Nat.le_of_ble_eq_true rfl) (by cases hF; exact ⟨rfl, rfl⟩)
        · skip
          rw [if_pos c34] at hF
          refine e_iconst X 0 dX12_reinsure_46 rfl ?_
          exact e_iret X hr dX12_reinsure_47 (Nat.le_of_ble_eq_true rfl) (Nat.le_of_ble_eq_true rfl) (by cases hF; exact ⟨rfl, rfl⟩)
set_option maxRecDepth 20000 in
set_option maxHeartbeats 4000000 in
theorem C_M_part_ (hG : Gok l Γ D s0) (σ : Mem) (v1 : Int32)  {out : Mem × Int32} (hF : F_M_part_ σ v1 = some out) : CT l Γ D s0 yX12_part_ cX12_part_ 2 (some .int) (2) 0 0 (43) σ [.ref (Γ.1 + 333), .int v1] (PI (some (.int out.2)) out.1) := by
  unfold F_M_part_ at hF
  refine e_met (own := RX12) hG (by decide +kernel) rfl rfl (Nat.le_of_ble_eq_true rfl) ?_
  intro p e s m args below meth c X hr
  show E p l e _ s m args below meth c Γ D 0 0 _ σ 0 [some (.ref (Γ.1 + 333)), some (.int v1)] []
  refine e_aload_n X dX12_part__0 rfl rfl ?_
  refine e_aload_n X dX12_part__1 rfl rfl ?_
  refine e_iload_n X dX12_part__2 rfl rfl ?_
  obtain ⟨z1, h_z1, hF⟩ := obind_out hF
  refine e_callVi X (r := z1) (σ1 := σ) [.int v1] [.ref (Γ.1 + 333)] (C_M_isMatch (Cx_gok X) σ v1 h_z1) gv_X12_305 yk_X12_isMatch rfl (ent_lt (rfl : entTbl[333]? = some (13, 0))) (ent_at (rfl : entTbl[333]? = some (13, 0)) _) (rfl : vCl[11]? = some (RX12, TX12, 24)) ⟨Nat.le_of_ble_eq_true rfl, Nat.le_of_ble_eq_true rfl⟩ ⟨Nat.le_of_ble_eq_true rfl, Nat.le_of_ble_eq_true rfl⟩ (Nat.le_of_ble_eq_true rfl) dX12_part__3 rfl ?_
  refine e_if_ne X 13 dX12_part__6 (by decide) (fun c2 => ?_) (fun c2 => ?_)
  · skip
    rw [if_neg c2] at hF
    refine e_aload_n X dX12_part__13 rfl rfl ?_
    refine e_iload_n X dX12_part__14 rfl rfl ?_
    refine e_iconst X 4 dX12_part__15 rfl ?_
    obtain ⟨z3, h_z3, hF⟩ := obind_out hF
    refine e_callVi X (r := z3) (σ1 := σ) [.int v1, .int 4] [.ref (Γ.1 + 333)] (C_M_ofMatch (Cx_gok X) σ v1 4 h_z3) gv_X12_58 yk_X12_ofMatch rfl (ent_lt (rfl : entTbl[333]? = some (13, 0))) (ent_at (rfl : entTbl[333]? = some (13, 0)) _) (rfl : vCl[11]? = some (RX12, TX12, 24)) ⟨Nat.le_of_ble_eq_true rfl, Nat.le_of_ble_eq_true rfl⟩ ⟨Nat.le_of_ble_eq_true rfl, Nat.le_of_ble_eq_true rfl⟩ (Nat.le_of_ble_eq_true rfl) dX12_part__16 rfl ?_
    refine e_iconst X 1 dX12_part__19 rfl ?_
    refine e_icmp_ne X 27 dX12_part__20 (by decide) (fun c4 => ?_) (fun c4 => ?_)
    · skip
      rw [if_neg c4] at hF
      refine e_iconst X 0 dX12_part__27 rfl ?_
      obtain ⟨σ5, h_σ5, hF⟩ := bindT_out hF
      refine pu_M_thrown X wf_X12_51 dX12_part__28 h_σ5 ?_
      refine e_aload_n X dX12_part__31 rfl rfl ?_
      refine ge_M_thrown X wf_X12_51 dX12_part__32 ?_
      refine e_if_le X 40 dX12_part__35 (by decide) (fun c6 => ?_) (fun c6 => ?_)
      · skip
        rw [if_neg c6] at hF
        refine e_aload_n X dX12_part__40 rfl rfl ?_
        obtain ⟨z7, h_z7, hF⟩ := obind_out hF
        refine e_callVv X (σ1 := z7) [] [] (C_M_remembers (Cx_gok X) σ5 h_z7) gv_X12_308 yk_X12_remembers rfl (ent_lt (rfl : entTbl[333]? = some (13, 0))) (ent_at (rfl : entTbl[333]? = some (13, 0)) _) (rfl : vCl[11]? = some (RX12, TX12, 24)) ⟨Nat.le_of_ble_eq_true rfl, Nat.le_of_ble_eq_true rfl⟩ ⟨Nat.le_of_ble_eq_true rfl, Nat.le_of_ble_eq_true rfl⟩ (Nat.le_of_ble_eq_true rfl) dX12_part__41 rfl ?_
        refine e_aload_n X dX12_part__44 rfl rfl ?_
        refine e_iload_n X dX12_part__45 rfl rfl ?_
        refine e_iconst X 4 dX12_part__46 rfl ?_
        refine e_iconst X 1 dX12_part__47 rfl ?_
        obtain ⟨z8, h_z8, hF⟩ := obind_out hF
        refine e_callVv X (σ1 := z8) [.int v1, .int 4, .int 1] [] (C_M_told (Cx_gok X) z7 v1 4 1 h_z8) gv_X12_141 yk_X12_told rfl (ent_lt (rfl : entTbl[333]? = some (13, 0))) (ent_at (rfl : entTbl[333]? = some (13, 0)) _) (rfl : vCl[11]? = some (RX12, TX12, 24)) ⟨Nat.le_of_ble_eq_true rfl, Nat.le_of_ble_eq_true rfl⟩ ⟨Nat.le_of_ble_eq_true rfl, Nat.le_of_ble_eq_true rfl⟩ (Nat.le_of_ble_eq_true rfl) dX12_part__48 rfl ?_
        refine e_aload_n X dX12_part__51 rfl rfl ?_
        refine e_iload_n X dX12_part__52 rfl rfl ?_
        refine e_iconst X 2 dX12_part__53 rfl ?_
        obtain ⟨z9, h_z9, hF⟩ := obind_out hF
        refine e_callVi X (r := z9) (σ1 := z8) [.int v1, .int 2] [] (C_M_ofMatch (Cx_gok X) z8 v1 2 h_z9) gv_X12_58 yk_X12_ofMatch rfl (ent_lt (rfl : entTbl[333]? = some (13, 0))) (ent_at (rfl : entTbl[333]? = some (13, 0)) _) (rfl : vCl[11]? = some (RX12, TX12, 24)) ⟨Nat.le_of_ble_eq_true rfl, Nat.le_of_ble_eq_true rfl⟩ ⟨Nat.le_of_ble_eq_true rfl, Nat.le_of_ble_eq_true rfl⟩ (Nat.le_of_ble_eq_true rfl) dX12_part__54 rfl ?_
        exact e_iret X hr dX12_part__57 (Nat.le_of_ble_eq_true rfl) (Nat.le_of_ble_eq_true rfl) (by cases hF; exact ⟨rfl, rfl⟩)
      · skip
        rw [if_pos c6] at hF
        refine e_iconst X 0 dX12_part__38 rfl ?_
        exact e_iret X hr dX12_part__39 (Nat.le_of_ble_eq_true rfl) (Nat.le_of_ble_eq_true rfl) (by cases hF; exact ⟨rfl, rfl⟩)
    · skip
      rw [if_pos c4] at hF
      refine e_iconst X 2 dX12_part__23 rfl ?_
      refine e_goto X 28 dX12_part__24 (by decide) ?_
      obtain ⟨σ10, h_σ10, hF⟩ := bindT_out hF
      refine pu_M_thrown X wf_X12_51 dX12_part__28 h_σ10 ?_
      refine e_aload_n X dX12_part__31 rfl rfl ?_
      refine ge_M_thrown X wf_X12_51 dX12_part__32 ?_
      refine e_if_le X 40 dX12_part__35 (by decide) (fun c11 => ?_) (fun c11 => ?_)
      · skip
        rw [if_neg c11] at hF
        refine e_aload_n X dX12_part__40 rfl rfl ?_
        obtain ⟨z12, h_z12, hF⟩ := obind_out hF
        refine e_callVv X (σ1 := z12) [] [] (C_M_remembers (Cx_gok X) σ10 h_z12) gv_X12_308 yk_X12_remembers rfl (ent_lt (rfl : entTbl[333]? = some (13, 0))) (ent_at (rfl : entTbl[333]? = some (13, 0)) _) (rfl : vCl[11]? = some (RX12, TX12, 24)) ⟨Nat.le_of_ble_eq_true rfl, Nat.le_of_ble_eq_true rfl⟩ ⟨Nat.le_of_ble_eq_true rfl, Nat.le_of_ble_eq_true rfl⟩ (Nat.le_of_ble_eq_true rfl) dX12_part__41 rfl ?_
        refine e_aload_n X dX12_part__44 rfl rfl ?_
        refine e_iload_n X dX12_part__45 rfl rfl ?_
        refine e_iconst X 4 dX12_part__46 rfl ?_
        refine e_iconst X 1 dX12_part__47 rfl ?_
        obtain ⟨z13, h_z13, hF⟩ := obind_out hF
        refine e_callVv X (σ1 := z13) [.int v1, .int 4, .int 1] [] (C_M_told (Cx_gok X) z12 v1 4 1 h_z13) gv_X12_141 yk_X12_told rfl (ent_lt (rfl : entTbl[333]? = some (13, 0))) (ent_at (rfl : entTbl[333]? = some (13, 0)) _) (rfl : vCl[11]? = some (RX12, TX12, 24)) ⟨Nat.le_of_ble_eq_true rfl, Nat.le_of_ble_eq_true rfl⟩ ⟨Nat.le_of_ble_eq_true rfl, Nat.le_of_ble_eq_true rfl⟩ (Nat.le_of_ble_eq_true rfl) dX12_part__48 rfl ?_
        refine e_aload_n X dX12_part__51 rfl rfl ?_
        refine e_iload_n X dX12_part__52 rfl rfl ?_
        refine e_iconst X 2 dX12_part__53 rfl ?_
        obtain ⟨z14, h_z14, hF⟩ := obind_out hF
        refine e_callVi X (r := z14) (σ1 := z13) [.int v1, .int 2] [] (C_M_ofMatch (Cx_gok X) z13 v1 2 h_z14) gv_X12_58 yk_X12_ofMatch rfl (ent_lt (rfl : entTbl[333]? = some (13, 0))) (ent_at (rfl : entTbl[333]? = some (13, 0)) _) (rfl : vCl[11]? = some (RX12, TX12, 24)) ⟨Nat.le_of_ble_eq_true rfl, Nat.le_of_ble_eq_true rfl⟩ ⟨Nat.le_of_ble_eq_true rfl, Nat.le_of_ble_eq_true rfl⟩ (Nat.le_of_ble_eq_true rfl) dX12_part__54 rfl ?_
        exact e_iret X hr dX12_part__57 (Nat.le_of_ble_eq_true rfl) (Nat.le_of_ble_eq_true rfl) (by cases hF; exact ⟨rfl, rfl⟩)
      · skip
        rw [if_pos c11] at hF
        refine e_iconst X 0 dX12_part__38 rfl ?_
        exact e_iret X hr dX12_part__39 (Nat.le_of_ble_eq_true rfl) (Nat.le_of_ble_eq_true rfl) (by cases hF; exact ⟨rfl, rfl⟩)
  · skip
    rw [if_pos c2] at hF
    refine e_iconst X 1 dX12_part__9 rfl ?_
    refine e_goto X 28 dX12_part__10 (by decide) ?_
    obtain ⟨σ15, h_σ15, hF⟩ := bindT_out hF
    refine pu_M_thrown X wf_X12_51 dX12_part__28 h_σ15 ?_
    refine e_aload_n X dX12_part__31 rfl rfl ?_
    refine ge_M_thrown X wf_X12_51 dX12_part__32 ?_
    refine e_if_le X 40 dX12_part__35 (by decide) (fun c16 => ?_) (fun c16 => ?_)
    · skip
      rw [if_neg c16] at hF
      refine e_aload_n X dX12_part__40 rfl rfl ?_
      obtain ⟨z17, h_z17, hF⟩ := obind_out hF
      refine e_callVv X (σ1 := z17) [] [] (C_M_remembers (Cx_gok X) σ15 h_z17) gv_X12_308 yk_X12_remembers rfl (ent_lt (rfl : entTbl[333]? = some (13, 0))) (ent_at (rfl : entTbl[333]? = some (13, 0)) _) (rfl : vCl[11]? = some (RX12, TX12, 24)) ⟨Nat.le_of_ble_eq_true rfl, Nat.le_of_ble_eq_true rfl⟩ ⟨Nat.le_of_ble_eq_true rfl, Nat.le_of_ble_eq_true rfl⟩ (Nat.le_of_ble_eq_true rfl) dX12_part__41 rfl ?_
      refine e_aload_n X dX12_part__44 rfl rfl ?_
      refine e_iload_n X dX12_part__45 rfl rfl ?_
      refine e_iconst X 4 dX12_part__46 rfl ?_
      refine e_iconst X 1 dX12_part__47 rfl ?_
      obtain ⟨z18, h_z18, hF⟩ := obind_out hF
      refine e_callVv X (σ1 := z18) [.int v1, .int 4, .int 1] [] (C_M_told (Cx_gok X) z17 v1 4 1 h_z18) gv_X12_141 yk_X12_told rfl (ent_lt (rfl : entTbl[333]? = some (13, 0))) (ent_at (rfl : entTbl[333]? = some (13, 0)) _) (rfl : vCl[11]? = some (RX12, TX12, 24)) ⟨Nat.le_of_ble_eq_true rfl, Nat.le_of_ble_eq_true rfl⟩ ⟨Nat.le_of_ble_eq_true rfl, Nat.le_of_ble_eq_true rfl⟩ (Nat.le_of_ble_eq_true rfl) dX12_part__48 rfl ?_
      refine e_aload_n X dX12_part__51 rfl rfl ?_
      refine e_iload_n X dX12_part__52 rfl rfl ?_
      refine e_iconst X 2 dX12_part__53 rfl ?_
      obtain ⟨z19, h_z19, hF⟩ := obind_out hF
      refine e_callVi X (r := z19) (σ1 := z18) [.int v1, .int 2] [] (C_M_ofMatch (Cx_gok X) z18 v1 2 h_z19) gv_X12_58 yk_X12_ofMatch rfl (ent_lt (rfl : entTbl[333]? = some (13, 0))) (ent_at (rfl : entTbl[333]? = some (13, 0)) _) (rfl : vCl[11]? = some (RX12, TX12, 24)) ⟨Nat.le_of_ble_eq_true rfl, Nat.le_of_ble_eq_true rfl⟩ ⟨Nat.le_of_ble_eq_true rfl, Nat.le_of_ble_eq_true rfl⟩ (Nat.le_of_ble_eq_true rfl) dX12_part__54 rfl ?_
      exact e_iret X hr dX12_part__57 (Nat.le_of_ble_eq_true rfl) (Nat.le_of_ble_eq_true rfl) (by cases hF; exact ⟨rfl, rfl⟩)
    · skip
      rw [if_pos c16] at hF
      refine e_iconst X 0 dX12_part__38 rfl ?_
      exact e_iret X hr dX12_part__39 (Nat.le_of_ble_eq_true rfl) (Nat.le_of_ble_eq_true rfl) (by cases hF; exact ⟨rfl, rfl⟩)
set_option maxRecDepth 20000 in
set_option maxHeartbeats 4000000 in
theorem C_M_would (hG : Gok l Γ D s0) (σ : Mem) (v1 : Int32) (v2 : Int32)  {out : Mem × Int32} (hF : F_M_would σ v1 v2 = some out) : CT l Γ D s0 yX12_would cX12_would 3 (some .int) (3) 0 0 (65) σ [.ref (Γ.1 + 333), .int v1, .int v2] (PI (some (.int out.2)) out.1) := by
  unfold F_M_would at hF
  refine e_met (own := RX12) hG (by decide +kernel) rfl rfl (Nat.le_of_ble_eq_true rfl) ?_
  intro p e s m args below meth c X hr
  show E p l e _ s m args below meth c Γ D 0 0 _ σ 0 [some (.ref (Γ.1 + 333)), some (.int v1), some (.int v2)] []
  refine e_aload_n X dX12_would_0 rfl rfl ?_
  refine e_aload_n X dX12_would_1 rfl rfl ?_
  refine e_iload_n X dX12_would_2 rfl rfl ?_
  refine e_iload_n X dX12_would_3 rfl rfl ?_
  obtain ⟨z1, h_z1, hF⟩ := obind_out hF
  refine e_callVi X (r := z1) (σ1 := σ) [.int v1, .int v2] [.ref (Γ.1 + 333)] (C_M_two (Cx_gok X) σ v1 v2 h_z1) gv_X12_302 yk_X12_two rfl (ent_lt (rfl : entTbl[333]? = some (13, 0))) (ent_at (rfl : entTbl[333]? = some (13, 0)) _) (rfl : vCl[11]? = some (RX12, TX12, 24)) ⟨Nat.le_of_ble_eq_true rfl, Nat.le_of_ble_eq_true rfl⟩ ⟨Nat.le_of_ble_eq_true rfl, Nat.le_of_ble_eq_true rfl⟩ (Nat.le_of_ble_eq_true rfl) dX12_would_4 rfl ?_
  obtain ⟨σ2, h_σ2, hF⟩ := bindT_out hF
  refine pu_M_thrown X wf_X12_51 dX12_would_7 h_σ2 ?_
  refine e_aload_n X dX12_would_10 rfl rfl ?_
  refine ge_M_thrown X wf_X12_51 dX12_would_11 ?_
  refine e_if_le X 21 dX12_would_14 (by decide) (fun c3 => ?_) (fun c3 => ?_)
  · skip
    rw [if_neg c3] at hF
    refine e_aload_n X dX12_would_21 rfl rfl ?_
    refine e_iload_n X dX12_would_22 rfl rfl ?_
    refine e_iload_n X dX12_would_23 rfl rfl ?_
    obtain ⟨z4, h_z4, hF⟩ := obind_out hF
    refine e_callVi X (r := z4) (σ1 := σ2) [.int v1, .int v2] [] (C_M_insurersOf (Cx_gok X) σ2 v1 v2 h_z4) gv_X12_73 yk_X12_insurersOf rfl (ent_lt (rfl : entTbl[333]? = some (13, 0))) (ent_at (rfl : entTbl[333]? = some (13, 0)) _) (rfl : vCl[11]? = some (RX12, TX12, 24)) ⟨Nat.le_of_ble_eq_true rfl, Nat.le_of_ble_eq_true rfl⟩ ⟨Nat.le_of_ble_eq_true rfl, Nat.le_of_ble_eq_true rfl⟩ (Nat.le_of_ble_eq_true rfl) dX12_would_24 rfl ?_
    exact e_iret X hr dX12_would_27 (Nat.le_of_ble_eq_true rfl) (Nat.le_of_ble_eq_true rfl) (by cases hF; exact ⟨rfl, rfl⟩)
  · skip
    rw [if_pos c3] at hF
    refine e_iconst X 0 dX12_would_17 rfl ?_
    refine e_goto X 27 dX12_would_18 (by decide) ?_
    exact e_iret X hr dX12_would_27 (Nat.le_of_ble_eq_true rfl) (Nat.le_of_ble_eq_true rfl) (by cases hF; exact ⟨rfl, rfl⟩)
set_option maxRecDepth 20000 in
set_option maxHeartbeats 4000000 in
theorem L_M_best_30 (X : Cx p l s m args meth c Γ D s0 RX12 cX12_best 5) (hr : meth.sig.returnType = (some .int)) (σ : Mem) (v1 : Int32)  : ∀ (n : Nat) (v3 : Int32) (v2 : Int32) {z : Int32}, forSO (fun i s => F_M_best_30_b σ v1 i s) n v3 v2 = some z → n = cnt v3 ((σ 334 3)) → ¬ v3 < 0 → (E p l e ({ frames := 2, cells := 0, slots := 0, locals := 46 } : Room) s m args below meth c Γ D 0 0 (MQ below (QcA Γ D Pst) args s 0 0 (frB Γ)) σ 129 [some (.ref (Γ.1 + 333)), some (.int v1), some (.int z), none, none] []) → E p l e ({ frames := 2, cells := 0, slots := 0, locals := 46 } : Room) s m args below meth c Γ D 0 0 (MQ below (QcA Γ D Pst) args s 0 0 (frB Γ)) σ 30 [some (.ref (Γ.1 + 333)), some (.int v1), some (.int v2), some (.int v3), none] [] := by
  intro n
  induction n with
  | zero =>
    intro v3 v2 z hF hn h0 hK
    refine e_iload_n X dX12_best_30 rfl rfl ?_
    refine e_aload_n X dX12_best_31 rfl rfl ?_
    refine ge_M_m X wf_X12_7 dX12_best_32 ?_
    refine e_iconst X 3 dX12_best_35 rfl ?_
    refine e_iald X (j := 3) rfl rfl (vp_in_iff.mpr (by decide)) rfl dX12_best_36 ?_
    refine e_icmp_ge X 129 dX12_best_37 (by decide) (fun c21 => ?_) (fun c21 => ?_)
    · skip
      have hz9 := Option.some.inj hF; change (v2) = z at hz9; subst hz9
      exact e_le hK (And.intro rfl (And.intro rfl (And.intro rfl (trivial))))
    · skip
      exact absurd c21 (cnt0 hn)
  | succ n ih =>
    intro v3 v2 z hF hn h0 hK
    obtain ⟨y9, hB, hF⟩ := forSO_step hF
    change F_M_best_30_b σ v1 v3 v2 = some y9 at hB
    unfold F_M_best_30_b at hB
    refine e_iload_n X dX12_best_30 rfl rfl ?_
    refine e_aload_n X dX12_best_31 rfl rfl ?_
    refine ge_M_m X wf_X12_7 dX12_best_32 ?_
    refine e_iconst X 3 dX12_best_35 rfl ?_
    refine e_iald X (j := 3) rfl rfl (vp_in_iff.mpr (by decide)) rfl dX12_best_36 ?_
    refine e_icmp_ge X 129 dX12_best_37 (by decide) (fun c5 => ?_) (fun c5 => ?_)
    · skip
      exact absurd (cntS hn) c5
    · skip
      refine e_iload_n X dX12_best_40 rfl rfl ?_
      refine e_iload_n X dX12_best_41 rfl rfl ?_
      refine e_icmp_eq X 123 dX12_best_42 (by decide) (fun c6 => ?_) (fun c6 => ?_)
      · skip
        rw [if_pos c6] at hB
        refine e_iinc X 1 dX12_best_123 rfl rfl (by decide) ?_
        refine e_goto X 30 dX12_best_126 (by decide) ?_
        have hy9 := Option.some.inj hB; change (v2) = y9 at hy9; subst hy9
        exact e_le (ih _ v2 hF (cntN hn) (nnN h0 (cnt_hi hn)) hK) (And.intro rfl (And.intro rfl (And.intro rfl (And.intro rfl (trivial)))))
      · skip
        rw [if_neg c6] at hB
        refine e_aload_n X dX12_best_45 rfl rfl ?_
        refine e_iload_n X dX12_best_46 rfl rfl ?_
        obtain ⟨z7, h_z7, hB⟩ := obind_out hB
        refine e_callVi X (r := z7) (σ1 := σ) [.int v1] [] (C_M_wedTo (Cx_gok X) σ v1 h_z7) gv_X12_121 yk_X12_wedTo rfl (ent_lt (rfl : entTbl[333]? = some (13, 0))) (ent_at (rfl : entTbl[333]? = some (13, 0)) _) (rfl : vCl[11]? = some (RX12, TX12, 24)) ⟨Nat.le_of_ble_eq_true rfl, Nat.le_of_ble_eq_true rfl⟩ ⟨Nat.le_of_ble_eq_true rfl, Nat.le_of_ble_eq_true rfl⟩ (Nat.le_of_ble_eq_true rfl) dX12_best_47 rfl ?_
        refine e_iconst X (-1) dX12_best_50 rfl ?_
        refine e_icmp_ne X 123 dX12_best_51 (by decide) (fun c8 => ?_) (fun c8 => ?_)
        · skip
          rw [if_neg c8] at hB
          refine e_iinc X 1 dX12_best_123 rfl rfl (by decide) ?_
          refine e_goto X 30 dX12_best_126 (by decide) ?_
          have hy9 := Option.some.inj hB; change (v2) = y9 at hy9; subst hy9
          exact e_le (ih _ v2 hF (cntN hn) (nnN h0 (cnt_hi hn)) hK) (And.intro rfl (And.intro rfl (And.intro rfl (And.intro rfl (trivial)))))
        · skip
          rw [if_pos c8] at hB
          refine e_aload_n X dX12_best_54 rfl rfl ?_
          refine e_iload_n X dX12_best_55 rfl rfl ?_
          obtain ⟨z9, h_z9, hB⟩ := obind_out hB
          refine e_callVi X (r := z9) (σ1 := σ) [.int v3] [] (C_M_wedTo (Cx_gok X) σ v3 h_z9) gv_X12_121 yk_X12_wedTo rfl (ent_lt (rfl : entTbl[333]? = some (13, 0))) (ent_at (rfl : entTbl[333]? = some (13, 0)) _) (rfl : vCl[11]? = some (RX12, TX12, 24)) ⟨Nat.le_of_ble_eq_true rfl, Nat.le_of_ble_eq_true rfl⟩ ⟨Nat.le_of_ble_eq_true rfl, Nat.le_of_ble_eq_true rfl⟩ (Nat.le_of_ble_eq_true rfl) dX12_best_56 rfl ?_
          refine e_iconst X (-1) dX12_best_59 rfl ?_
          refine e_icmp_eq X 66 dX12_best_60 (by decide) (fun c10 => ?_) (fun c10 => ?_)
          · skip
            rw [if_pos c10] at hB
            refine e_iload_n X dX12_best_66 rfl rfl ?_
            refine e_iconst X (-1) dX12_best_67 rfl ?_
            refine e_icmp_ne X 75 dX12_best_68 (by decide) (fun c11 => ?_) (fun c11 => ?_)
            · skip
              rw [if_neg c11] at hB
              refine e_aload_n X dX12_best_75 rfl rfl ?_
              refine e_iload_n X dX12_best_76 rfl rfl ?_
              refine e_iload_n X dX12_best_77 rfl rfl ?_
              obtain ⟨z12, h_z12, hB⟩ := obind_out hB
              refine e_callVi X (r := z12) (σ1 := σ) [.int v1, .int v3] [] (C_M_insurersOf (Cx_gok X) σ v1 v3 h_z12) gv_X12_73 yk_X12_insurersOf rfl (ent_lt (rfl : entTbl[333]? = some (13, 0))) (ent_at (rfl : entTbl[333]? = some (13, 0)) _) (rfl : vCl[11]? = some (RX12, TX12, 24)) ⟨Nat.le_of_ble_eq_true rfl, Nat.le_of_ble_eq_true rfl⟩ ⟨Nat.le_of_ble_eq_true rfl, Nat.le_of_ble_eq_true rfl⟩ (Nat.le_of_ble_eq_true rfl) dX12_best_78 rfl ?_
              refine e_callSi X (r := (F_M_bits σ z12)) (σ1 := σ) [.int z12] [] (C_M_bits (Cx_gok X) σ z12) gs_X12_69 yk_X12_bits rfl ⟨Nat.le_of_ble_eq_true rfl, Nat.le_of_ble_eq_true rfl⟩ ⟨Nat.le_of_ble_eq_true rfl, Nat.le_of_ble_eq_true rfl⟩ (Nat.le_of_ble_eq_true rfl) dX12_best_81 rfl ?_
              refine e_aload_n X dX12_best_84 rfl rfl ?_
              refine e_iload_n X dX12_best_85 rfl rfl ?_
              refine e_iload_n X dX12_best_86 rfl rfl ?_
              obtain ⟨z13, h_z13, hB⟩ := obind_out hB
              refine e_callVi X (r := z13) (σ1 := σ) [.int v1, .int v2] [.int ((F_M_bits σ z12))] (C_M_insurersOf (Cx_gok X) σ v1 v2 h_z13) gv_X12_73 yk_X12_insurersOf rfl (ent_lt (rfl : entTbl[333]? = some (13, 0))) (ent_at (rfl : entTbl[333]? = some (13, 0)) _) (rfl : vCl[11]? = some (RX12, TX12, 24)) ⟨Nat.le_of_ble_eq_true rfl, Nat.le_of_ble_eq_true rfl⟩ ⟨Nat.le_of_ble_eq_true rfl, Nat.le_of_ble_eq_true rfl⟩ (Nat.le_of_ble_eq_true rfl) dX12_best_87 rfl ?_
              refine e_callSi X (r := (F_M_bits σ z13)) (σ1 := σ) [.int z13] [.int ((F_M_bits σ z12))] (C_M_bits (Cx_gok X) σ z13) gs_X12_69 yk_X12_bits rfl ⟨Nat.le_of_ble_eq_true rfl, Nat.le_of_ble_eq_true rfl⟩ ⟨Nat.le_of_ble_eq_true rfl, Nat.le_of_ble_eq_true rfl⟩ (Nat.le_of_ble_eq_true rfl) dX12_best_90 rfl ?_
              refine e_isub X dX12_best_93 ?_
              obtain ⟨x14, h_x14, hB⟩ := bindT_out hB
              refine e_istore X h_x14 dX12_best_94 (by decide) ?_
              refine e_iload X dX12_best_96 rfl ?_
              refine e_if_gt X 121 dX12_best_98 (by decide) (fun c15 => ?_) (fun c15 => ?_)
              · skip
                rw [if_pos c15] at hB
                refine e_iload_n X dX12_best_121 rfl rfl ?_
                refine e_istore_n X rfl dX12_best_122 rfl (by decide) ?_
                refine e_iinc X 1 dX12_best_123 rfl rfl (by decide) ?_
                refine e_goto X 30 dX12_best_126 (by decide) ?_
                have hy9 := Option.some.inj hB; change (v3) = y9 at hy9; subst hy9
                exact e_le (ih _ v3 hF (cntN hn) (nnN h0 (cnt_hi hn)) hK) (And.intro rfl (And.intro rfl (And.intro rfl (And.intro rfl (trivial)))))
              · skip
                rw [if_neg c15] at hB
                refine e_iload X dX12_best_101 rfl ?_
                refine e_if_ne X 123 dX12_best_103 (by decide) (fun c16 => ?_) (fun c16 => ?_)
                · skip
                  rw [if_neg c16] at hB
                  refine e_iinc X 1 dX12_best_123 rfl rfl (by decide) ?_
                  refine e_goto X 30 dX12_best_126 (by decide) ?_
                  have hy9 := Option.some.inj hB; change (v2) = y9 at hy9; subst hy9
                  exact e_le (ih _ v2 hF (cntN hn) (nnN h0 (cnt_hi hn)) hK) (And.intro rfl (And.intro rfl (And.intro rfl (And.intro rfl (trivial)))))
                · skip
                  rw [if_pos c16] at hB
                  refine e_aload_n X dX12_best_106 rfl rfl ?_
                  refine e_iload_n X dX12_best_107 rfl rfl ?_
                  refine e_iload_n X dX12_best_108 rfl rfl ?_
                  obtain ⟨z17, h_z17, hB⟩ := obind_out hB
                  refine e_callVi X (r := z17) (σ1 := σ) [.int v1, .int v3] [] (C_M_likes (Cx_gok X) σ v1 v3 h_z17) gv_X12_258 yk_X12_likes rfl (ent_lt (rfl : entTbl[333]? = some (13, 0))) (ent_at (rfl : entTbl[333]? = some (13, 0)) _) (rfl : vCl[11]? = some (RX12, TX12, 24)) ⟨Nat.le_of_ble_eq_true rfl, Nat.le_of_ble_eq_true rfl⟩ ⟨Nat.le_of_ble_eq_true rfl, Nat.le_of_ble_eq_true rfl⟩ (Nat.le_of_ble_eq_true rfl) dX12_best_109 rfl ?_
                  refine e_aload_n X dX12_best_112 rfl rfl ?_
                  refine e_iload_n X dX12_best_113 rfl rfl ?_
                  refine e_iload_n X dX12_best_114 rfl rfl ?_
                  obtain ⟨z18, h_z18, hB⟩ := obind_out hB
                  refine e_callVi X (r := z18) (σ1 := σ) [.int v1, .int v2] [.int z17] (C_M_likes (Cx_gok X) σ v1 v2 h_z18) gv_X12_258 yk_X12_likes rfl (ent_lt (rfl : entTbl[333]? = some (13, 0))) (ent_at (rfl : entTbl[333]? = some (13, 0)) _) (rfl : vCl[11]? = some (RX12, TX12, 24)) ⟨Nat.le_of_ble_eq_true rfl, Nat.le_of_ble_eq_true rfl⟩ ⟨Nat.le_of_ble_eq_true rfl, Nat.le_of_ble_eq_true rfl⟩ (Nat.le_of_ble_eq_true rfl) dX12_best_115 rfl ?_
                  refine e_icmp_le X 123 dX12_best_118 (by decide) (fun c19 => ?_) (fun c19 => ?_)
                  · skip
                    rw [if_neg c19] at hB
                    refine e_iinc X 1 dX12_best_123 rfl rfl (by decide) ?_
                    refine e_goto X 30 dX12_best_126 (by decide) ?_
                    have hy9 := Option.some.inj hB; change (v2) = y9 at hy9; subst hy9
                    exact e_le (ih _ v2 hF (cntN hn) (nnN h0 (cnt_hi hn)) hK) (And.intro rfl (And.intro rfl (And.intro rfl (And.intro rfl (trivial)))))
                  · skip
                    rw [if_pos c19] at hB
                    refine e_iload_n X dX12_best_121 rfl rfl ?_
                    refine e_istore_n X rfl dX12_best_122 rfl (by decide) ?_
                    refine e_iinc X 1 dX12_best_123 rfl rfl (by decide) ?_
                    refine e_goto X 30 dX12_best_126 (by decide) ?_
                    have hy9 := Option.some.inj hB; change (v3) = y9 at hy9; subst hy9
                    exact e_le (ih _ v3 hF (cntN hn) (nnN h0 (cnt_hi hn)) hK) (And.intro rfl (And.intro rfl (And.intro rfl (And.intro rfl (trivial)))))
            · skip
              rw [if_pos c11] at hB
              refine e_iconst X 1 dX12_best_71 rfl ?_
              refine e_goto X 94 dX12_best_72 (by decide) ?_
              refine e_istore X rfl dX12_best_94 (by decide) ?_
              refine e_iload X dX12_best_96 rfl ?_
              refine e_if_gt X 121 dX12_best_98 (by decide) (fun c20 => ?_) (fun c20 => ?_)
              · skip
                refine e_iload_n X dX12_best_121 rfl rfl ?_
                refine e_istore_n X rfl dX12_best_122 rfl (by decide) ?_
                refine e_iinc X 1 dX12_best_123 rfl rfl (by decide) ?_
                refine e_goto X 30 dX12_best_126 (by decide) ?_
                have hy9 := Option.some.inj hB; change (v3) = y9 at hy9; subst hy9
                exact e_le (ih _ v3 hF (cntN hn) (nnN h0 (cnt_hi hn)) hK) (And.intro rfl (And.intro rfl (And.intro rfl (And.intro rfl (trivial)))))
              · skip
                exact absurd c20 (by decide)
          · skip
            rw [if_neg c10] at hB
            refine e_goto X 123 dX12_best_63 (by decide) ?_
            refine e_iinc X 1 dX12_best_123 rfl rfl (by decide) ?_
            refine e_goto X 30 dX12_best_126 (by decide) ?_
            have hy9 := Option.some.inj hB; change (v2) = y9 at hy9; subst hy9
            exact e_le (ih _ v2 hF (cntN hn) (nnN h0 (cnt_hi hn)) hK) (And.intro rfl (And.intro rfl (And.intro rfl (And.intro rfl (trivial)))))
set_option maxRecDepth 20000 in
set_option maxHeartbeats 4000000 in
theorem C_M_best (hG : Gok l Γ D s0) (σ : Mem) (v1 : Int32)  {out : Mem × Int32} (hF : F_M_best σ v1 = some out) : CT l Γ D s0 yX12_best cX12_best 5 (some .int) (2) 0 0 (46) σ [.ref (Γ.1 + 333), .int v1] (PI (some (.int out.2)) out.1) := by
  unfold F_M_best at hF
  refine e_met (own := RX12) hG (by decide +kernel) rfl rfl (Nat.le_of_ble_eq_true rfl) ?_
  intro p e s m args below meth c X hr
  show E p l e _ s m args below meth c Γ D 0 0 _ σ 0 [some (.ref (Γ.1 + 333)), some (.int v1), none, none, none] []
  refine e_aload_n X dX12_best_0 rfl rfl ?_
  refine e_aload_n X dX12_best_1 rfl rfl ?_
  refine e_iload_n X dX12_best_2 rfl rfl ?_
  obtain ⟨z1, h_z1, hF⟩ := obind_out hF
  refine e_callVi X (r := z1) (σ1 := σ) [.int v1] [.ref (Γ.1 + 333)] (C_M_isPerson (Cx_gok X) σ v1 h_z1) gv_X12_293 yk_X12_isPerson rfl (ent_lt (rfl : entTbl[333]? = some (13, 0))) (ent_at (rfl : entTbl[333]? = some (13, 0)) _) (rfl : vCl[11]? = some (RX12, TX12, 24)) ⟨Nat.le_of_ble_eq_true rfl, Nat.le_of_ble_eq_true rfl⟩ ⟨Nat.le_of_ble_eq_true rfl, Nat.le_of_ble_eq_true rfl⟩ (Nat.le_of_ble_eq_true rfl) dX12_best_3 rfl ?_
  refine e_if_ne X 13 dX12_best_6 (by decide) (fun c2 => ?_) (fun c2 => ?_)
  · skip
    rw [if_neg c2] at hF
    refine e_iconst X 0 dX12_best_13 rfl ?_
    obtain ⟨σ3, h_σ3, hF⟩ := bindT_out hF
    refine pu_M_thrown X wf_X12_51 dX12_best_14 h_σ3 ?_
    refine e_aload_n X dX12_best_17 rfl rfl ?_
    refine ge_M_thrown X wf_X12_51 dX12_best_18 ?_
    refine e_if_le X 26 dX12_best_21 (by decide) (fun c4 => ?_) (fun c4 => ?_)
    · skip
      rw [if_neg c4] at hF
      refine e_iconst X (-1) dX12_best_26 rfl ?_
      refine e_istore_n X rfl dX12_best_27 rfl (by decide) ?_
      refine e_iconst X 0 dX12_best_28 rfl ?_
      refine e_istore_n X rfl dX12_best_29 rfl (by decide) ?_
      obtain ⟨z22, h_z22, hF⟩ := obind_out hF
      refine e_le (L_M_best_30 X hr σ3 v1 _ 0 ((-1)) h_z22 rfl (by decide) ?_) (And.intro rfl (And.intro rfl (And.intro rfl (And.intro rfl (trivial)))))
      refine e_iload_n X dX12_best_129 rfl rfl ?_
      exact e_iret X hr dX12_best_130 (Nat.le_of_ble_eq_true rfl) (Nat.le_of_ble_eq_true rfl) (by cases hF; exact ⟨rfl, rfl⟩)
    · skip
      rw [if_pos c4] at hF
      refine e_iconst X 0 dX12_best_24 rfl ?_
      exact e_iret X hr dX12_best_25 (Nat.le_of_ble_eq_true rfl) (Nat.le_of_ble_eq_true rfl) (by cases hF; exact ⟨rfl, rfl⟩)
  · skip
    rw [if_pos c2] at hF
    refine e_iconst X 1 dX12_best_9 rfl ?_
    refine e_goto X 14 dX12_best_10 (by decide) ?_
    obtain ⟨σ23, h_σ23, hF⟩ := bindT_out hF
    refine pu_M_thrown X wf_X12_51 dX12_best_14 h_σ23 ?_
    refine e_aload_n X dX12_best_17 rfl rfl ?_
    refine ge_M_thrown X wf_X12_51 dX12_best_18 ?_
    refine e_if_le X 26 dX12_best_21 (by decide) (fun c24 => ?_) (fun c24 => ?_)
    · skip
      rw [if_neg c24] at hF
      refine e_iconst X (-1) dX12_best_26 rfl ?_
      refine e_istore_n X rfl dX12_best_27 rfl (by decide) ?_
      refine e_iconst X 0 dX12_best_28 rfl ?_
      refine e_istore_n X rfl dX12_best_29 rfl (by decide) ?_
      obtain ⟨z25, h_z25, hF⟩ := obind_out hF
      refine e_le (L_M_best_30 X hr σ23 v1 _ 0 ((-1)) h_z25 rfl (by decide) ?_) (And.intro rfl (And.intro rfl (And.intro rfl (And.intro rfl (trivial)))))
      refine e_iload_n X dX12_best_129 rfl rfl ?_
      exact e_iret X hr dX12_best_130 (Nat.le_of_ble_eq_true rfl) (Nat.le_of_ble_eq_true rfl) (by cases hF; exact ⟨rfl, rfl⟩)
    · skip
      rw [if_pos c24] at hF
      refine e_iconst X 0 dX12_best_24 rfl ?_
      exact e_iret X hr dX12_best_25 (Nat.le_of_ble_eq_true rfl) (Nat.le_of_ble_eq_true rfl) (by cases hF; exact ⟨rfl, rfl⟩)
set_option maxRecDepth 20000 in
set_option maxHeartbeats 4000000 in
theorem C_M_badMatch (hG : Gok l Γ D s0) (σ : Mem) (v1 : Int32) (v2 : Int32) (v3 : Int32) (v4 : Int32)  {out : Int32} (hF : F_M_badMatch σ v1 v2 v3 v4 = some out) : CT l Γ D s0 yX12_badMatch cX12_badMatch 5 (some .int) (2) 0 0 (43) σ [.ref (Γ.1 + 333), .int v1, .int v2, .int v3, .int v4] (PI (some (.int out)) σ) := by
  unfold F_M_badMatch at hF
  refine e_met (own := RX12) hG (by decide +kernel) rfl rfl (Nat.le_of_ble_eq_true rfl) ?_
  intro p e s m args below meth c X hr
  show E p l e _ s m args below meth c Γ D 0 0 _ σ 0 [some (.ref (Γ.1 + 333)), some (.int v1), some (.int v2), some (.int v3), some (.int v4)] []
  refine e_aload_n X dX12_badMatch_0 rfl rfl ?_
  refine e_iload_n X dX12_badMatch_1 rfl rfl ?_
  obtain ⟨z1, h_z1, hF⟩ := obind_out hF
  refine e_callVi X (r := z1) (σ1 := σ) [.int v1] [] (C_M_isMatch (Cx_gok X) σ v1 h_z1) gv_X12_305 yk_X12_isMatch rfl (ent_lt (rfl : entTbl[333]? = some (13, 0))) (ent_at (rfl : entTbl[333]? = some (13, 0)) _) (rfl : vCl[11]? = some (RX12, TX12, 24)) ⟨Nat.le_of_ble_eq_true rfl, Nat.le_of_ble_eq_true rfl⟩ ⟨Nat.le_of_ble_eq_true rfl, Nat.le_of_ble_eq_true rfl⟩ (Nat.le_of_ble_eq_true rfl) dX12_badMatch_2 rfl ?_
  refine e_if_ne X 12 dX12_badMatch_5 (by decide) (fun c2 => ?_) (fun c2 => ?_)
  · skip
    rw [if_neg c2] at hF
    refine e_iload_n X dX12_badMatch_12 rfl rfl ?_
    refine e_iload_n X dX12_badMatch_13 rfl rfl ?_
    refine e_bipush X 20 dX12_badMatch_14 rfl ?_
    refine e_icmp_ne X 23 dX12_badMatch_16 (by decide) (fun c3 => ?_) (fun c3 => ?_)
    · skip
      rw [if_neg c3] at hF
      refine e_iconst X 0 dX12_badMatch_23 rfl ?_
      refine e_iload_n X dX12_badMatch_24 rfl rfl ?_
      refine e_callSi X (r := (F_M_isIn σ v2 0 v3)) (σ1 := σ) [.int v2, .int 0, .int v3] [] (C_M_isIn (Cx_gok X) σ v2 0 v3) gs_X12_54 yk_X12_isIn rfl ⟨Nat.le_of_ble_eq_true rfl, Nat.le_of_ble_eq_true rfl⟩ ⟨Nat.le_of_ble_eq_true rfl, Nat.le_of_ble_eq_true rfl⟩ (Nat.le_of_ble_eq_true rfl) dX12_badMatch_25 rfl ?_
      refine e_if_eq X 42 dX12_badMatch_28 (by decide) (fun c4 => ?_) (fun c4 => ?_)
      · skip
        rw [if_pos c4] at hF
        refine e_iconst X 2 dX12_badMatch_42 rfl ?_
        refine e_goto X 47 dX12_badMatch_43 (by decide) ?_
        exact e_iret X hr dX12_badMatch_47 (Nat.le_of_ble_eq_true rfl) (Nat.le_of_ble_eq_true rfl) (by cases hF; exact ⟨rfl, rfl⟩)
      · skip
        rw [if_neg c4] at hF
        refine e_iload X dX12_badMatch_31 rfl ?_
        refine e_iconst X 0 dX12_badMatch_33 rfl ?_
        refine e_bipush X 9 dX12_badMatch_34 rfl ?_
        refine e_callSi X (r := (F_M_isIn σ v4 0 9)) (σ1 := σ) [.int v4, .int 0, .int 9] [] (C_M_isIn (Cx_gok X) σ v4 0 9) gs_X12_54 yk_X12_isIn rfl ⟨Nat.le_of_ble_eq_true rfl, Nat.le_of_ble_eq_true rfl⟩ ⟨Nat.le_of_ble_eq_true rfl, Nat.le_of_ble_eq_true rfl⟩ (Nat.le_of_ble_eq_true rfl) dX12_badMatch_36 rfl ?_
        refine e_if_ne X 46 dX12_badMatch_39 (by decide) (fun c5 => ?_) (fun c5 => ?_)
        · skip
          rw [if_neg c5] at hF
          refine e_iconst X 0 dX12_badMatch_46 rfl ?_
          exact e_iret X hr dX12_badMatch_47 (Nat.le_of_ble_eq_true rfl) (Nat.le_of_ble_eq_true rfl) (by cases hF; exact ⟨rfl, rfl⟩)
        · skip
          rw [if_pos c5] at hF
          refine e_iconst X 2 dX12_badMatch_42 rfl ?_
          refine e_goto X 47 dX12_badMatch_43 (by decide) ?_
          exact e_iret X hr dX12_badMatch_47 (Nat.le_of_ble_eq_true rfl) (Nat.le_of_ble_eq_true rfl) (by cases hF; exact ⟨rfl, rfl⟩)
    · skip
      rw [if_pos c3] at hF
      refine e_iconst X 1 dX12_badMatch_19 rfl ?_
      refine e_goto X 24 dX12_badMatch_20 (by decide) ?_
      refine e_iload_n X dX12_badMatch_24 rfl rfl ?_
      refine e_callSi X (r := (F_M_isIn σ v2 1 v3)) (σ1 := σ) [.int v2, .int 1, .int v3] [] (C_M_isIn (Cx_gok X) σ v2 1 v3) gs_X12_54 yk_X12_isIn rfl ⟨Nat.le_of_ble_eq_true rfl, Nat.le_of_ble_eq_true rfl⟩ ⟨Nat.le_of_ble_eq_true rfl, Nat.le_of_ble_eq_true rfl⟩ (Nat.le_of_ble_eq_true rfl) dX12_badMatch_25 rfl ?_
      refine e_if_eq X 42 dX12_badMatch_28 (by decide) (fun c6 => ?_) (fun c6 => ?_)
      · skip
        rw [if_pos c6] at hF
        refine e_iconst X 2 dX12_badMatch_42 rfl ?_
        refine e_goto X 47 dX12_badMatch_43 (by decide) ?_
        exact e_iret X hr dX12_badMatch_47 (Nat.le_of_ble_eq_true rfl) (Nat.le_of_ble_eq_true rfl) (by cases hF; exact ⟨rfl, rfl⟩)
      · skip
        rw [if_neg c6] at hF
        refine e_iload X dX12_badMatch_31 rfl ?_
        refine e_iconst X 0 dX12_badMatch_33 rfl ?_
        refine e_bipush X 9 dX12_badMatch_34 rfl ?_
        refine e_callSi X (r := (F_M_isIn σ v4 0 9)) (σ1 := σ) [.int v4, .int 0, .int 9] [] (C_M_isIn (Cx_gok X) σ v4 0 9) gs_X12_54 yk_X12_isIn rfl ⟨Nat.le_of_ble_eq_true rfl, Nat.le_of_ble_eq_true rfl⟩ ⟨Nat.le_of_ble_eq_true rfl, Nat.le_of_ble_eq_true rfl⟩ (Nat.le_of_ble_eq_true rfl) dX12_badMatch_36 rfl ?_
        refine e_if_ne X 46 dX12_badMatch_39 (by decide) (fun c7 => ?_) (fun c7 => ?_)
        · skip
          rw [if_neg c7] at hF
          refine e_iconst X 0 dX12_badMatch_46 rfl ?_
          exact e_iret X hr dX12_badMatch_47 (Nat.le_of_ble_eq_true rfl) (Nat.le_of_ble_eq_true rfl) (by cases hF; exact ⟨rfl, rfl⟩)
        · skip
          rw [if_pos c7] at hF
          refine e_iconst X 2 dX12_badMatch_42 rfl ?_
          refine e_goto X 47 dX12_badMatch_43 (by decide) ?_
          exact e_iret X hr dX12_badMatch_47 (Nat.le_of_ble_eq_true rfl) (Nat.le_of_ble_eq_true rfl) (by cases hF; exact ⟨rfl, rfl⟩)
  · skip
    rw [if_pos c2] at hF
    refine e_iconst X 1 dX12_badMatch_8 rfl ?_
    refine e_goto X 47 dX12_badMatch_9 (by decide) ?_
    exact e_iret X hr dX12_badMatch_47 (Nat.le_of_ble_eq_true rfl) (Nat.le_of_ble_eq_true rfl) (by cases hF; exact ⟨rfl, rfl⟩)
set_option maxRecDepth 20000 in
set_option maxHeartbeats 4000000 in
theorem L_M_fallsNow_2 (X : Cx p l s m args meth c Γ D s0 RX12 cX12_fallsNow 3) (hr : meth.sig.returnType = (some .int))   : ∀ (n : Nat) (v1 : Int32) (σ : Mem) {z : Int32 × Mem}, whl (fun s => F_M_fallsNow_2_b  s.1 s.2) n (v1, σ) = some z → (E p l e ({ frames := 4, cells := 0, slots := 0, locals := 93 } : Room) s m args below meth c Γ D 0 0 (MQ below (QcA Γ D Pst) args s 0 0 (frB Γ)) z.2 24 [some (.ref (Γ.1 + 333)), some (.int z.1), none] []) → E p l e ({ frames := 4, cells := 0, slots := 0, locals := 93 } : Room) s m args below meth c Γ D 0 0 (MQ below (QcA Γ D Pst) args s 0 0 (frB Γ)) σ 2 [some (.ref (Γ.1 + 333)), some (.int v1), none] [] := by
  intro n
  induction n with
  | zero =>
    intro v1 σ z hF hK
    cases hF
  | succ n ih =>
    intro v1 σ z hF hK
    obtain ⟨y9, hB, hF⟩ := whl_step hF
    change F_M_fallsNow_2_b  v1 σ = some y9 at hB
    unfold F_M_fallsNow_2_b at hB
    refine e_iload_n X dX12_fallsNow_2 rfl rfl ?_
    refine e_aload_n X dX12_fallsNow_3 rfl rfl ?_
    refine ge_M_m X wf_X12_7 dX12_fallsNow_4 ?_
    refine e_iconst X 4 dX12_fallsNow_7 rfl ?_
    refine e_iald X (j := 4) rfl rfl (vp_in_iff.mpr (by decide)) rfl dX12_fallsNow_8 ?_
    refine e_icmp_ge X 24 dX12_fallsNow_9 (by decide) (fun c1 => ?_) (fun c1 => ?_)
    · skip
      rw [if_neg c1] at hB
      have hy9 := Option.some.inj hB; change (.inr ((v1, σ))) = y9 at hy9; subst hy9
      have hz9 := Option.some.inj hF; change ((v1, σ)) = z at hz9; subst hz9
      exact e_le hK (And.intro rfl (And.intro rfl (trivial)))
    · skip
      rw [if_pos c1] at hB
      refine e_aload_n X dX12_fallsNow_12 rfl rfl ?_
      refine e_iload_n X dX12_fallsNow_13 rfl rfl ?_
      obtain ⟨z2, h_z2, hB⟩ := obind_out hB
      refine e_callVi X (r := z2.2) (σ1 := z2.1) [.int v1] [] (C_M_claims (Cx_gok X) σ v1 h_z2) gv_X12_287 yk_X12_claims rfl (ent_lt (rfl : entTbl[333]? = some (13, 0))) (ent_at (rfl : entTbl[333]? = some (13, 0)) _) (rfl : vCl[11]? = some (RX12, TX12, 24)) ⟨Nat.le_of_ble_eq_true rfl, Nat.le_of_ble_eq_true rfl⟩ ⟨Nat.le_of_ble_eq_true rfl, Nat.le_of_ble_eq_true rfl⟩ (Nat.le_of_ble_eq_true rfl) dX12_fallsNow_14 rfl ?_
      refine e_istore_n X rfl dX12_fallsNow_17 rfl (by decide) ?_
      refine e_iinc X 1 dX12_fallsNow_18 rfl rfl (by decide) ?_
      obtain ⟨x3, h_x3, hB⟩ := bindT_out hB
      rw [← h_x3]
      refine e_goto X 2 dX12_fallsNow_21 (by decide) ?_
      have hy9 := Option.some.inj hB; change (.inl ((x3, z2.1))) = y9 at hy9; subst hy9
      exact e_le (ih x3 z2.1 hF hK) (And.intro rfl (And.intro rfl (trivial)))
set_option maxRecDepth 20000 in
set_option maxHeartbeats 4000000 in
theorem L_M_fallsNow_28 (X : Cx p l s m args meth c Γ D s0 RX12 cX12_fallsNow 3) (hr : meth.sig.returnType = (some .int)) (σ : Mem)  : ∀ (n : Nat) (v2 : Int32) (v1 : Int32) {z : Int32}, forSO (fun i s => F_M_fallsNow_28_b σ i s) n v2 v1 = some z → n = cnt v2 ((σ 334 3)) → ¬ v2 < 0 → (E p l e ({ frames := 4, cells := 0, slots := 0, locals := 93 } : Room) s m args below meth c Γ D 0 0 (MQ below (QcA Γ D Pst) args s 0 0 (frB Γ)) σ 80 [some (.ref (Γ.1 + 333)), some (.int z), none] []) → E p l e ({ frames := 4, cells := 0, slots := 0, locals := 93 } : Room) s m args below meth c Γ D 0 0 (MQ below (QcA Γ D Pst) args s 0 0 (frB Γ)) σ 28 [some (.ref (Γ.1 + 333)), some (.int v1), some (.int v2)] [] := by
  intro n
  induction n with
  | zero =>
    intro v2 v1 z hF hn h0 hK
    refine e_iload_n X dX12_fallsNow_28 rfl rfl ?_
    refine e_aload_n X dX12_fallsNow_29 rfl rfl ?_
    refine ge_M_m X wf_X12_7 dX12_fallsNow_30 ?_
    refine e_iconst X 3 dX12_fallsNow_33 rfl ?_
    refine e_iald X (j := 3) rfl rfl (vp_in_iff.mpr (by decide)) rfl dX12_fallsNow_34 ?_
    refine e_icmp_ge X 80 dX12_fallsNow_35 (by decide) (fun c14 => ?_) (fun c14 => ?_)
    · skip
      have hz9 := Option.some.inj hF; change (v1) = z at hz9; subst hz9
      exact e_le hK (And.intro rfl (And.intro rfl (trivial)))
    · skip
      exact absurd c14 (cnt0 hn)
  | succ n ih =>
    intro v2 v1 z hF hn h0 hK
    obtain ⟨y9, hB, hF⟩ := forSO_step hF
    change F_M_fallsNow_28_b σ v2 v1 = some y9 at hB
    unfold F_M_fallsNow_28_b at hB
    refine e_iload_n X dX12_fallsNow_28 rfl rfl ?_
    refine e_aload_n X dX12_fallsNow_29 rfl rfl ?_
    refine ge_M_m X wf_X12_7 dX12_fallsNow_30 ?_
    refine e_iconst X 3 dX12_fallsNow_33 rfl ?_
    refine e_iald X (j := 3) rfl rfl (vp_in_iff.mpr (by decide)) rfl dX12_fallsNow_34 ?_
    refine e_icmp_ge X 80 dX12_fallsNow_35 (by decide) (fun c5 => ?_) (fun c5 => ?_)
    · skip
      exact absurd (cntS hn) c5
    · skip
      refine e_iload_n X dX12_fallsNow_38 rfl rfl ?_
      refine e_aload_n X dX12_fallsNow_39 rfl rfl ?_
      refine e_iload_n X dX12_fallsNow_40 rfl rfl ?_
      refine e_iconst X 3 dX12_fallsNow_41 rfl ?_
      obtain ⟨z6, h_z6, hB⟩ := obind_out hB
      refine e_callVi X (r := z6) (σ1 := σ) [.int v2, .int 3] [.int v1] (C_M_of (Cx_gok X) σ v2 3 h_z6) gv_X12_62 yk_X12_of rfl (ent_lt (rfl : entTbl[333]? = some (13, 0))) (ent_at (rfl : entTbl[333]? = some (13, 0)) _) (rfl : vCl[11]? = some (RX12, TX12, 24)) ⟨Nat.le_of_ble_eq_true rfl, Nat.le_of_ble_eq_true rfl⟩ ⟨Nat.le_of_ble_eq_true rfl, Nat.le_of_ble_eq_true rfl⟩ (Nat.le_of_ble_eq_true rfl) dX12_fallsNow_42 rfl ?_
      refine e_iconst X 1 dX12_fallsNow_45 rfl ?_
      refine e_icmp_ne X 71 dX12_fallsNow_46 (by decide) (fun c7 => ?_) (fun c7 => ?_)
      · skip
        rw [if_neg c7] at hB
        refine e_iconst X 0 dX12_fallsNow_71 rfl ?_
        refine e_ior X dX12_fallsNow_72 ?_
        obtain ⟨x8, h_x8, hB⟩ := bindT_out hB
        refine e_istore_n X h_x8 dX12_fallsNow_73 rfl (by decide) ?_
        refine e_iinc X 1 dX12_fallsNow_74 rfl rfl (by decide) ?_
        refine e_goto X 28 dX12_fallsNow_77 (by decide) ?_
        have hy9 := Option.some.inj hB; change (x8) = y9 at hy9; subst hy9
        exact e_le (ih _ x8 hF (cntN hn) (nnN h0 (cnt_hi hn)) hK) (And.intro rfl (And.intro rfl (And.intro rfl (trivial))))
      · skip
        rw [if_pos c7] at hB
        refine e_aload_n X dX12_fallsNow_49 rfl rfl ?_
        refine ge_M_aside X wf_X12_16 dX12_fallsNow_50 ?_
        refine e_bipush X 14 dX12_fallsNow_53 rfl ?_
        refine e_iconst X 4 dX12_fallsNow_55 rfl ?_
        refine e_iload_n X dX12_fallsNow_56 rfl rfl ?_
        refine e_imul X dX12_fallsNow_57 ?_
        refine e_iadd X dX12_fallsNow_58 ?_
        refine e_iconst X 3 dX12_fallsNow_59 rfl ?_
        refine e_iadd X dX12_fallsNow_60 ?_
        obtain ⟨i9, h_i9, hB⟩ := bindT_out hB
        obtain ⟨c10, hB⟩ := chk_out hB
        refine e_iald X (j := i9.toNatClampNeg) h_i9 rfl (inb_in c10) rfl dX12_fallsNow_61 ?_
        refine e_if_ne X 71 dX12_fallsNow_62 (by decide) (fun c11 => ?_) (fun c11 => ?_)
        · skip
          rw [if_neg c11] at hB
          refine e_iconst X 0 dX12_fallsNow_71 rfl ?_
          refine e_ior X dX12_fallsNow_72 ?_
          obtain ⟨x12, h_x12, hB⟩ := bindT_out hB
          refine e_istore_n X h_x12 dX12_fallsNow_73 rfl (by decide) ?_
          refine e_iinc X 1 dX12_fallsNow_74 rfl rfl (by decide) ?_
          refine e_goto X 28 dX12_fallsNow_77 (by decide) ?_
          have hy9 := Option.some.inj hB; change (x12) = y9 at hy9; subst hy9
          exact e_le (ih _ x12 hF (cntN hn) (nnN h0 (cnt_hi hn)) hK) (And.intro rfl (And.intro rfl (And.intro rfl (trivial))))
        · skip
          rw [if_pos c11] at hB
          refine e_iconst X 1 dX12_fallsNow_65 rfl ?_
          refine e_iload_n X dX12_fallsNow_66 rfl rfl ?_
          refine e_ishl X dX12_fallsNow_67 ?_
          refine e_goto X 72 dX12_fallsNow_68 (by decide) ?_
          refine e_ior X dX12_fallsNow_72 ?_
          obtain ⟨x13, h_x13, hB⟩ := bindT_out hB
          refine e_istore_n X h_x13 dX12_fallsNow_73 rfl (by decide) ?_
          refine e_iinc X 1 dX12_fallsNow_74 rfl rfl (by decide) ?_
          refine e_goto X 28 dX12_fallsNow_77 (by decide) ?_
          have hy9 := Option.some.inj hB; change (x13) = y9 at hy9; subst hy9
          exact e_le (ih _ x13 hF (cntN hn) (nnN h0 (cnt_hi hn)) hK) (And.intro rfl (And.intro rfl (And.intro rfl (trivial))))
set_option maxRecDepth 20000 in
set_option maxHeartbeats 4000000 in
theorem C_M_fallsNow (hG : Gok l Γ D s0) (σ : Mem)   {out : Mem × Int32} (hF : F_M_fallsNow σ = some out) : CT l Γ D s0 yX12_fallsNow cX12_fallsNow 3 (some .int) (4) 0 0 (93) σ [.ref (Γ.1 + 333)] (PI (some (.int out.2)) out.1) := by
  unfold F_M_fallsNow at hF
  refine e_met (own := RX12) hG (by decide +kernel) rfl rfl (Nat.le_of_ble_eq_true rfl) ?_
  intro p e s m args below meth c X hr
  show E p l e _ s m args below meth c Γ D 0 0 _ σ 0 [some (.ref (Γ.1 + 333)), none, none] []
  refine e_iconst X 0 dX12_fallsNow_0 rfl ?_
  refine e_istore_n X rfl dX12_fallsNow_1 rfl (by decide) ?_
  obtain ⟨z4, h_z4, hF⟩ := obind_out hF
  refine e_le (L_M_fallsNow_2 X hr _ 0 σ h_z4 ?_) (And.intro rfl (And.intro rfl (trivial)))
  refine e_iconst X 0 dX12_fallsNow_24 rfl ?_
  refine e_istore_n X rfl dX12_fallsNow_25 rfl (by decide) ?_
  refine e_iconst X 0 dX12_fallsNow_26 rfl ?_
  refine e_istore_n X rfl dX12_fallsNow_27 rfl (by decide) ?_
  obtain ⟨z15, h_z15, hF⟩ := obind_out hF
  refine e_le (L_M_fallsNow_28 X hr z4.2 _ 0 0 h_z15 rfl (by decide) ?_) (And.intro rfl (And.intro rfl (And.intro rfl (trivial))))
  refine e_iload_n X dX12_fallsNow_80 rfl rfl ?_
  exact e_iret X hr dX12_fallsNow_81 (Nat.le_of_ble_eq_true rfl) (Nat.le_of_ble_eq_true rfl) (by cases hF; exact ⟨rfl, rfl⟩)
set_option maxRecDepth 20000 in
set_option maxHeartbeats 4000000 in
theorem C_M_falls (hG : Gok l Γ D s0) (σ : Mem)   {out : Mem × Int32} (hF : F_M_falls σ = some out) : CT l Γ D s0 yX12_falls cX12_falls 2 (some .int) (5) 0 0 (115) σ [.ref (Γ.1 + 333)] (PI (some (.int out.2)) out.1) := by
  unfold F_M_falls at hF
  refine e_met (own := RX12) hG (by decide +kernel) rfl rfl (Nat.le_of_ble_eq_true rfl) ?_
  intro p e s m args below meth c X hr
  show E p l e _ s m args below meth c Γ D 0 0 _ σ 0 [some (.ref (Γ.1 + 333)), none] []
  refine e_aload_n X dX12_falls_0 rfl rfl ?_
  refine e_iconst X 0 dX12_falls_1 rfl ?_
  obtain ⟨σ1, h_σ1, hF⟩ := bindT_out hF
  refine pu_M_thrown X wf_X12_51 dX12_falls_2 h_σ1 ?_
  refine e_aload_n X dX12_falls_5 rfl rfl ?_
  obtain ⟨z2, h_z2, hF⟩ := obind_out hF
  refine e_callVv X (σ1 := z2) [] [] (C_M_putsAside (Cx_gok X) σ1 h_z2) gv_X12_188 yk_X12_putsAside rfl (ent_lt (rfl : entTbl[333]? = some (13, 0))) (ent_at (rfl : entTbl[333]? = some (13, 0)) _) (rfl : vCl[11]? = some (RX12, TX12, 24)) ⟨Nat.le_of_ble_eq_true rfl, Nat.le_of_ble_eq_true rfl⟩ ⟨Nat.le_of_ble_eq_true rfl, Nat.le_of_ble_eq_true rfl⟩ (Nat.le_of_ble_eq_true rfl) dX12_falls_6 rfl ?_
  refine e_aload_n X dX12_falls_9 rfl rfl ?_
  obtain ⟨z3, h_z3, hF⟩ := obind_out hF
  refine e_callVi X (r := z3.2) (σ1 := z3.1) [] [] (C_M_fallsNow (Cx_gok X) z2 h_z3) gv_X12_324 yk_X12_fallsNow rfl (ent_lt (rfl : entTbl[333]? = some (13, 0))) (ent_at (rfl : entTbl[333]? = some (13, 0)) _) (rfl : vCl[11]? = some (RX12, TX12, 24)) ⟨Nat.le_of_ble_eq_true rfl, Nat.le_of_ble_eq_true rfl⟩ ⟨Nat.le_of_ble_eq_true rfl, Nat.le_of_ble_eq_true rfl⟩ (Nat.le_of_ble_eq_true rfl) dX12_falls_10 rfl ?_
  refine e_istore_n X rfl dX12_falls_13 rfl (by decide) ?_
  refine e_aload_n X dX12_falls_14 rfl rfl ?_
  obtain ⟨z4, h_z4, hF⟩ := obind_out hF
  refine e_callVv X (σ1 := z4) [] [] (C_M_comesBack (Cx_gok X) z3.1 h_z4) gv_X12_198 yk_X12_comesBack rfl (ent_lt (rfl : entTbl[333]? = some (13, 0))) (ent_at (rfl : entTbl[333]? = some (13, 0)) _) (rfl : vCl[11]? = some (RX12, TX12, 24)) ⟨Nat.le_of_ble_eq_true rfl, Nat.le_of_ble_eq_true rfl⟩ ⟨Nat.le_of_ble_eq_true rfl, Nat.le_of_ble_eq_true rfl⟩ (Nat.le_of_ble_eq_true rfl) dX12_falls_15 rfl ?_
  refine e_iload_n X dX12_falls_18 rfl rfl ?_
  exact e_iret X hr dX12_falls_19 (Nat.le_of_ble_eq_true rfl) (Nat.le_of_ble_eq_true rfl) (by cases hF; exact ⟨rfl, rfl⟩)
set_option maxRecDepth 20000 in
set_option maxHeartbeats 4000000 in
theorem C_M_loses (hG : Gok l Γ D s0) (σ : Mem) (v1 : Int32)  {out : Mem × Int32} (hF : F_M_loses σ v1 = some out) : CT l Γ D s0 yX12_loses cX12_loses 4 (some .int) (5) 0 0 (115) σ [.ref (Γ.1 + 333), .int v1] (PI (some (.int out.2)) out.1) := by
  unfold F_M_loses at hF
  refine e_met (own := RX12) hG (by decide +kernel) rfl rfl (Nat.le_of_ble_eq_true rfl) ?_
  intro p e s m args below meth c X hr
  show E p l e _ s m args below meth c Γ D 0 0 _ σ 0 [some (.ref (Γ.1 + 333)), some (.int v1), none, none] []
  refine e_aload_n X dX12_loses_0 rfl rfl ?_
  refine e_aload_n X dX12_loses_1 rfl rfl ?_
  refine e_iload_n X dX12_loses_2 rfl rfl ?_
  obtain ⟨z1, h_z1, hF⟩ := obind_out hF
  refine e_callVi X (r := z1) (σ1 := σ) [.int v1] [.ref (Γ.1 + 333)] (C_M_isPerson (Cx_gok X) σ v1 h_z1) gv_X12_293 yk_X12_isPerson rfl (ent_lt (rfl : entTbl[333]? = some (13, 0))) (ent_at (rfl : entTbl[333]? = some (13, 0)) _) (rfl : vCl[11]? = some (RX12, TX12, 24)) ⟨Nat.le_of_ble_eq_true rfl, Nat.le_of_ble_eq_true rfl⟩ ⟨Nat.le_of_ble_eq_true rfl, Nat.le_of_ble_eq_true rfl⟩ (Nat.le_of_ble_eq_true rfl) dX12_loses_3 rfl ?_
  refine e_if_ne X 13 dX12_loses_6 (by decide) (fun c2 => ?_) (fun c2 => ?_)
  · skip
    rw [if_neg c2] at hF
    refine e_iconst X 0 dX12_loses_13 rfl ?_
    obtain ⟨σ3, h_σ3, hF⟩ := bindT_out hF
    refine pu_M_thrown X wf_X12_51 dX12_loses_14 h_σ3 ?_
    refine e_aload_n X dX12_loses_17 rfl rfl ?_
    refine ge_M_thrown X wf_X12_51 dX12_loses_18 ?_
    refine e_if_le X 26 dX12_loses_21 (by decide) (fun c4 => ?_) (fun c4 => ?_)
    · skip
      rw [if_neg c4] at hF
      refine e_aload_n X dX12_loses_26 rfl rfl ?_
      obtain ⟨z5, h_z5, hF⟩ := obind_out hF
      refine e_callVv X (σ1 := z5) [] [] (C_M_putsAside (Cx_gok X) σ3 h_z5) gv_X12_188 yk_X12_putsAside rfl (ent_lt (rfl : entTbl[333]? = some (13, 0))) (ent_at (rfl : entTbl[333]? = some (13, 0)) _) (rfl : vCl[11]? = some (RX12, TX12, 24)) ⟨Nat.le_of_ble_eq_true rfl, Nat.le_of_ble_eq_true rfl⟩ ⟨Nat.le_of_ble_eq_true rfl, Nat.le_of_ble_eq_true rfl⟩ (Nat.le_of_ble_eq_true rfl) dX12_loses_27 rfl ?_
      refine e_aload_n X dX12_loses_30 rfl rfl ?_
      obtain ⟨z6, h_z6, hF⟩ := obind_out hF
      refine e_callVi X (r := z6.2) (σ1 := z6.1) [] [] (C_M_fallsNow (Cx_gok X) z5 h_z6) gv_X12_324 yk_X12_fallsNow rfl (ent_lt (rfl : entTbl[333]? = some (13, 0))) (ent_at (rfl : entTbl[333]? = some (13, 0)) _) (rfl : vCl[11]? = some (RX12, TX12, 24)) ⟨Nat.le_of_ble_eq_true rfl, Nat.le_of_ble_eq_true rfl⟩ ⟨Nat.le_of_ble_eq_true rfl, Nat.le_of_ble_eq_true rfl⟩ (Nat.le_of_ble_eq_true rfl) dX12_loses_31 rfl ?_
      refine e_istore_n X rfl dX12_loses_34 rfl (by decide) ?_
      refine e_iconst X 0 dX12_loses_35 rfl ?_
      refine e_aload_n X dX12_loses_36 rfl rfl ?_
      refine ge_M_aside X wf_X12_16 dX12_loses_37 ?_
      refine e_bipush X 14 dX12_loses_40 rfl ?_
      refine e_iconst X 4 dX12_loses_42 rfl ?_
      refine e_iload_n X dX12_loses_43 rfl rfl ?_
      refine e_imul X dX12_loses_44 ?_
      refine e_iadd X dX12_loses_45 ?_
      refine e_iconst X 0 dX12_loses_46 rfl ?_
      refine e_iadd X dX12_loses_47 ?_
      obtain ⟨i7, h_i7, hF⟩ := bindT_out hF
      obtain ⟨c8, hF⟩ := chk_out hF
      refine e_iald X (j := i7.toNatClampNeg) h_i7 rfl (inb_in c8) rfl dX12_loses_48 ?_
      refine e_aload_n X dX12_loses_49 rfl rfl ?_
      refine e_iload_n X dX12_loses_50 rfl rfl ?_
      refine e_iconst X 0 dX12_loses_51 rfl ?_
      obtain ⟨z9, h_z9, hF⟩ := obind_out hF
      refine e_callVi X (r := z9) (σ1 := z6.1) [.int v1, .int 0] [.int ((z6.1 336 i7.toNatClampNeg)), .int 0] (C_M_of (Cx_gok X) z6.1 v1 0 h_z9) gv_X12_62 yk_X12_of rfl (ent_lt (rfl : entTbl[333]? = some (13, 0))) (ent_at (rfl : entTbl[333]? = some (13, 0)) _) (rfl : vCl[11]? = some (RX12, TX12, 24)) ⟨Nat.le_of_ble_eq_true rfl, Nat.le_of_ble_eq_true rfl⟩ ⟨Nat.le_of_ble_eq_true rfl, Nat.le_of_ble_eq_true rfl⟩ (Nat.le_of_ble_eq_true rfl) dX12_loses_52 rfl ?_
      refine e_isub X dX12_loses_55 ?_
      refine e_callSi X (r := (F_M_greater z6.1 0 (((z6.1 336 i7.toNatClampNeg) - z9)))) (σ1 := z6.1) [.int 0, .int (((z6.1 336 i7.toNatClampNeg) - z9))] [] (C_M_greater (Cx_gok X) z6.1 0 (((z6.1 336 i7.toNatClampNeg) - z9))) gs_X12_266 yk_X12_greater rfl ⟨Nat.le_of_ble_eq_true rfl, Nat.le_of_ble_eq_true rfl⟩ ⟨Nat.le_of_ble_eq_true rfl, Nat.le_of_ble_eq_true rfl⟩ (Nat.le_of_ble_eq_true rfl) dX12_loses_56 rfl ?_
      obtain ⟨x10, h_x10, hF⟩ := bindT_out hF
      refine e_istore_n X h_x10 dX12_loses_59 rfl (by decide) ?_
      refine e_aload_n X dX12_loses_60 rfl rfl ?_
      obtain ⟨z11, h_z11, hF⟩ := obind_out hF
      refine e_callVv X (σ1 := z11) [] [] (C_M_comesBack (Cx_gok X) z6.1 h_z11) gv_X12_198 yk_X12_comesBack rfl (ent_lt (rfl : entTbl[333]? = some (13, 0))) (ent_at (rfl : entTbl[333]? = some (13, 0)) _) (rfl : vCl[11]? = some (RX12, TX12, 24)) ⟨Nat.le_of_ble_eq_true rfl, Nat.le_of_ble_eq_true rfl⟩ ⟨Nat.le_of_ble_eq_true rfl, Nat.le_of_ble_eq_true rfl⟩ (Nat.le_of_ble_eq_true rfl) dX12_loses_61 rfl ?_
      refine e_iload_n X dX12_loses_64 rfl rfl ?_
      exact e_iret X hr dX12_loses_65 (Nat.le_of_ble_eq_true rfl) (Nat.le_of_ble_eq_true rfl) (by cases hF; exact ⟨rfl, rfl⟩)
    · skip
      rw [if_pos c4] at hF
      refine e_iconst X 0 dX12_loses_24 rfl ?_
      exact e_iret X hr dX12_loses_25 (Nat.le_of_ble_eq_true rfl) (Nat.le_of_ble_eq_true rfl) (by cases hF; exact ⟨rfl, rfl⟩)
  · skip
    rw [if_pos c2] at hF
    refine e_iconst X 1 dX12_loses_9 rfl ?_
    refine e_goto X 14 dX12_loses_10 (by decide) ?_
    obtain ⟨σ12, h_σ12, hF⟩ := bindT_out hF
    refine pu_M_thrown X wf_X12_51 dX12_loses_14 h_σ12 ?_
    refine e_aload_n X dX12_loses_17 rfl rfl ?_
    refine ge_M_thrown X wf_X12_51 dX12_loses_18 ?_
    refine e_if_le X 26 dX12_loses_21 (by decide) (fun c13 => ?_) (fun c13 => ?_)
    · skip
      rw [if_neg c13] at hF
      refine e_aload_n X dX12_loses_26 rfl rfl ?_
      obtain ⟨z14, h_z14, hF⟩ := obind_out hF
      refine e_callVv X (σ1 := z14) [] [] (C_M_putsAside (Cx_gok X) σ12 h_z14) gv_X12_188 yk_X12_putsAside rfl (ent_lt (rfl : entTbl[333]? = some (13, 0))) (ent_at (rfl : entTbl[333]? = some (13, 0)) _) (rfl : vCl[11]? = some (RX12, TX12, 24)) ⟨Nat.le_of_ble_eq_true rfl, Nat.le_of_ble_eq_true rfl⟩ ⟨Nat.le_of_ble_eq_true rfl, Nat.le_of_ble_eq_true rfl⟩ (Nat.le_of_ble_eq_true rfl) dX12_loses_27 rfl ?_
      refine e_aload_n X dX12_loses_30 rfl rfl ?_
      obtain ⟨z15, h_z15, hF⟩ := obind_out hF
      refine e_callVi X (r := z15.2) (σ1 := z15.1) [] [] (C_M_fallsNow (Cx_gok X) z14 h_z15) gv_X12_324 yk_X12_fallsNow rfl (ent_lt (rfl : entTbl[333]? = some (13, 0))) (ent_at (rfl : entTbl[333]? = some (13, 0)) _) (rfl : vCl[11]? = some (RX12, TX12, 24)) ⟨Nat.le_of_ble_eq_true rfl, Nat.le_of_ble_eq_true rfl⟩ ⟨Nat.le_of_ble_eq_true rfl, Nat.le_of_ble_eq_true rfl⟩ (Nat.le_of_ble_eq_true rfl) dX12_loses_31 rfl ?_
      refine e_istore_n X rfl dX12_loses_34 rfl (by decide) ?_
      refine e_iconst X 0 dX12_loses_35 rfl ?_
      refine e_aload_n X dX12_loses_36 rfl rfl ?_
      refine ge_M_aside X wf_X12_16 dX12_loses_37 ?_
      refine e_bipush X 14 dX12_loses_40 rfl ?_
      refine e_iconst X 4 dX12_loses_42 rfl ?_
      refine e_iload_n X dX12_loses_43 rfl rfl ?_
      refine e_imul X dX12_loses_44 ?_
      refine e_iadd X dX12_loses_45 ?_
      refine e_iconst X 0 dX12_loses_46 rfl ?_
      refine e_iadd X dX12_loses_47 ?_
      obtain ⟨i16, h_i16, hF⟩ := bindT_out hF
      obtain ⟨c17, hF⟩ := chk_out hF
      refine e_iald X (j := i16.toNatClampNeg) h_i16 rfl (inb_in c17) rfl dX12_loses_48 ?_
      refine e_aload_n X dX12_loses_49 rfl rfl ?_
      refine e_iload_n X dX12_loses_50 rfl rfl ?_
      refine e_iconst X 0 dX12_loses_51 rfl ?_
      obtain ⟨z18, h_z18, hF⟩ := obind_out hF
      refine e_callVi X (r := z18) (σ1 := z15.1) [.int v1, .int 0] [.int ((z15.1 336 i16.toNatClampNeg)), .int 0] (C_M_of (Cx_gok X) z15.1 v1 0 h_z18) gv_X12_62 yk_X12_of rfl (ent_lt (rfl : entTbl[333]? = some (13, 0))) (ent_at (rfl : entTbl[333]? = some (13, 0)) _) (rfl : vCl[11]? = some (RX12, TX12, 24)) ⟨Nat.le_of_ble_eq_true rfl, Nat.le_of_ble_eq_true rfl⟩ ⟨Nat.le_of_ble_eq_true rfl, Nat.le_of_ble_eq_true rfl⟩ (Nat.le_of_ble_eq_true rfl) dX12_loses_52 rfl ?_
      refine e_isub X dX12_loses_55 ?_
      refine e_callSi X (r := (F_M_greater z15.1 0 (((z15.1 336 i16.toNatClampNeg) - z18)))) (σ1 := z15.1) [.int 0, .int (((z15.1 336 i16.toNatClampNeg) - z18))] [] (C_M_greater (Cx_gok X) z15.1 0 (((z15.1 336 i16.toNatClampNeg) - z18))) gs_X12_266 yk_X12_greater rfl ⟨Nat.le_of_ble_eq_true rfl, Nat.le_of_ble_eq_true rfl⟩ ⟨Nat.le_of_ble_eq_true rfl, Nat.le_of_ble_eq_true rfl⟩ (Nat.le_of_ble_eq_true rfl) dX12_loses_56 rfl ?_
      obtain ⟨x19, h_x19, hF⟩ := bindT_out hF
      refine e_istore_n X h_x19 dX12_loses_59 rfl (by decide) ?_
      refine e_aload_n X dX12_loses_60 rfl rfl ?_
      obtain ⟨z20, h_z20, hF⟩ := obind_out hF
      refine e_callVv X (σ1 := z20) [] [] (C_M_comesBack (Cx_gok X) z15.1 h_z20) gv_X12_198 yk_X12_comesBack rfl (ent_lt (rfl : entTbl[333]? = some (13, 0))) (ent_at (rfl : entTbl[333]? = some (13, 0)) _) (rfl : vCl[11]? = some (RX12, TX12, 24)) ⟨Nat.le_of_ble_eq_true rfl, Nat.le_of_ble_eq_true rfl⟩ ⟨Nat.le_of_ble_eq_true rfl, Nat.le_of_ble_eq_true rfl⟩ (Nat.le_of_ble_eq_true rfl) dX12_loses_61 rfl ?_
      refine e_iload_n X dX12_loses_64 rfl rfl ?_
      exact e_iret X hr dX12_loses_65 (Nat.le_of_ble_eq_true rfl) (Nat.le_of_ble_eq_true rfl) (by cases hF; exact ⟨rfl, rfl⟩)
    · skip
      rw [if_pos c13] at hF
      refine e_iconst X 0 dX12_loses_24 rfl ?_
      exact e_iret X hr dX12_loses_25 (Nat.le_of_ble_eq_true rfl) (Nat.le_of_ble_eq_true rfl) (by cases hF; exact ⟨rfl, rfl⟩)
set_option maxRecDepth 20000 in
set_option maxHeartbeats 4000000 in
theorem L_M_holds_34 (X : Cx p l s m args meth c Γ D s0 RX12 cX12_holds 4) (hr : meth.sig.returnType = (some .int)) (v1 : Int32)  : ∀ (n : Nat) (v3 : Int32) (v2 : Int32) (σ : Mem) {z : Int32 × Mem}, omap mrg (forGO (fun i s => F_M_holds_34_b v1 i s.1 s.2) n v3 (v2, σ)) = some z → n = cle v3 999 → ¬ v3 < 0 → (E p l e ({ frames := 5, cells := 0, slots := 0, locals := 115 } : Room) s m args below meth c Γ D 0 0 (MQ below (QcA Γ D Pst) args s 0 0 (frB Γ)) z.2 76 [some (.ref (Γ.1 + 333)), some (.int v1), some (.int z.1), none] []) → E p l e ({ frames := 5, cells := 0, slots := 0, locals := 115 } : Room) s m args below meth c Γ D 0 0 (MQ below (QcA Γ D Pst) args s 0 0 (frB Γ)) σ 34 [some (.ref (Γ.1 + 333)), some (.int v1), some (.int v2), some (.int v3)] [] := by
  intro n
  induction n with
  | zero =>
    intro v3 v2 σ z hF hn h0 hK
    refine e_iload_n X dX12_holds_34 rfl rfl ?_
    refine e_sipush X 999 dX12_holds_35 rfl ?_
    refine e_icmp_gt X 76 dX12_holds_38 (by decide) (fun c13 => ?_) (fun c13 => ?_)
    · skip
      have hz9 := Option.some.inj hF; change ((v2, σ)) = z at hz9; subst hz9
      exact e_le hK (And.intro rfl (And.intro rfl (And.intro rfl (trivial))))
    · skip
      exact absurd (cle0 hn) c13
  | succ n ih =>
    intro v3 v2 σ z hF hn h0 hK
    obtain ⟨y9, hB, hF⟩ := forBO_step hF
    change F_M_holds_34_b v1 v3 v2 σ = some y9 at hB
    unfold F_M_holds_34_b at hB
    refine e_iload_n X dX12_holds_34 rfl rfl ?_
    refine e_sipush X 999 dX12_holds_35 rfl ?_
    refine e_icmp_gt X 76 dX12_holds_38 (by decide) (fun c6 => ?_) (fun c6 => ?_)
    · skip
      exact absurd c6 (cleS hn)
    · skip
      refine e_iload_n X dX12_holds_41 rfl rfl ?_
      refine e_iconst X (-1) dX12_holds_42 rfl ?_
      refine e_icmp_ne X 76 dX12_holds_43 (by decide) (fun c7 => ?_) (fun c7 => ?_)
      · skip
        rw [if_neg c7] at hB
        have hy9 := Option.some.inj hB; change (.inr ((v2, σ))) = y9 at hy9; subst hy9
        have hz9 := Option.some.inj hF; change ((v2, σ)) = z at hz9; subst hz9
        exact e_le hK (And.intro rfl (And.intro rfl (And.intro rfl (trivial))))
      · skip
        rw [if_pos c7] at hB
        refine e_aload_n X dX12_holds_46 rfl rfl ?_
        refine e_iload_n X dX12_holds_47 rfl rfl ?_
        refine e_iconst X 0 dX12_holds_48 rfl ?_
        refine e_iload_n X dX12_holds_49 rfl rfl ?_
        obtain ⟨z8, h_z8, hB⟩ := obind_out hB
        refine e_callVv X (σ1 := z8) [.int v1, .int 0, .int v3] [] (C_M_has (Cx_gok X) σ v1 0 v3 h_z8) gv_X12_144 yk_X12_has rfl (ent_lt (rfl : entTbl[333]? = some (13, 0))) (ent_at (rfl : entTbl[333]? = some (13, 0)) _) (rfl : vCl[11]? = some (RX12, TX12, 24)) ⟨Nat.le_of_ble_eq_true rfl, Nat.le_of_ble_eq_true rfl⟩ ⟨Nat.le_of_ble_eq_true rfl, Nat.le_of_ble_eq_true rfl⟩ (Nat.le_of_ble_eq_true rfl) dX12_holds_50 rfl ?_
        refine e_aload_n X dX12_holds_53 rfl rfl ?_
        obtain ⟨z9, h_z9, hB⟩ := obind_out hB
        refine e_callVi X (r := z9.2) (σ1 := z9.1) [] [] (C_M_fallsNow (Cx_gok X) z8 h_z9) gv_X12_324 yk_X12_fallsNow rfl (ent_lt (rfl : entTbl[333]? = some (13, 0))) (ent_at (rfl : entTbl[333]? = some (13, 0)) _) (rfl : vCl[11]? = some (RX12, TX12, 24)) ⟨Nat.le_of_ble_eq_true rfl, Nat.le_of_ble_eq_true rfl⟩ ⟨Nat.le_of_ble_eq_true rfl, Nat.le_of_ble_eq_true rfl⟩ (Nat.le_of_ble_eq_true rfl) dX12_holds_54 rfl ?_
        refine e_iload_n X dX12_holds_57 rfl rfl ?_
        refine e_callSi X (r := (F_M_isOf z9.1 z9.2 v1)) (σ1 := z9.1) [.int z9.2, .int v1] [] (C_M_isOf (Cx_gok X) z9.1 z9.2 v1) gs_X12_65 yk_X12_isOf rfl ⟨Nat.le_of_ble_eq_true rfl, Nat.le_of_ble_eq_true rfl⟩ ⟨Nat.le_of_ble_eq_true rfl, Nat.le_of_ble_eq_true rfl⟩ (Nat.le_of_ble_eq_true rfl) dX12_holds_58 rfl ?_
        refine e_if_ne X 66 dX12_holds_61 (by decide) (fun c10 => ?_) (fun c10 => ?_)
        · skip
          rw [if_neg c10] at hB
          refine e_aload_n X dX12_holds_66 rfl rfl ?_
          obtain ⟨z11, h_z11, hB⟩ := obind_out hB
          refine e_callVv X (σ1 := z11) [] [] (C_M_comesBack (Cx_gok X) z9.1 h_z11) gv_X12_198 yk_X12_comesBack rfl (ent_lt (rfl : entTbl[333]? = some (13, 0))) (ent_at (rfl : entTbl[333]? = some (13, 0)) _) (rfl : vCl[11]? = some (RX12, TX12, 24)) ⟨Nat.le_of_ble_eq_true rfl, Nat.le_of_ble_eq_true rfl⟩ ⟨Nat.le_of_ble_eq_true rfl, Nat.le_of_ble_eq_true rfl⟩ (Nat.le_of_ble_eq_true rfl) dX12_holds_67 rfl ?_
          refine e_iinc X 1 dX12_holds_70 rfl rfl (by decide) ?_
          refine e_goto X 34 dX12_holds_73 (by decide) ?_
          have hy9 := Option.some.inj hB; change (.inl ((v2, z11))) = y9 at hy9; subst hy9
          exact e_le (ih _ v2 z11 hF (cleN (by decide) hn) (nnN h0 (cle_hi (by decide) hn)) hK) (And.intro rfl (And.intro rfl (And.intro rfl (And.intro rfl (trivial)))))
        · skip
          rw [if_pos c10] at hB
          refine e_iload_n X dX12_holds_64 rfl rfl ?_
          refine e_istore_n X rfl dX12_holds_65 rfl (by decide) ?_
          refine e_aload_n X dX12_holds_66 rfl rfl ?_
          obtain ⟨z12, h_z12, hB⟩ := obind_out hB
          refine e_callVv X (σ1 := z12) [] [] (C_M_comesBack (Cx_gok X) z9.1 h_z12) gv_X12_198 yk_X12_comesBack rfl (ent_lt (rfl : entTbl[333]? = some (13, 0))) (ent_at (rfl : entTbl[333]? = some (13, 0)) _) (rfl : vCl[11]? = some (RX12, TX12, 24)) ⟨Nat.le_of_ble_eq_true rfl, Nat.le_of_ble_eq_true rfl⟩ ⟨Nat.le_of_ble_eq_true rfl, Nat.le_of_ble_eq_true rfl⟩ (Nat.le_of_ble_eq_true rfl) dX12_holds_67 rfl ?_
          refine e_iinc X 1 dX12_holds_70 rfl rfl (by decide) ?_
          refine e_goto X 34 dX12_holds_73 (by decide) ?_
          have hy9 := Option.some.inj hB; change (.inl ((v3, z12))) = y9 at hy9; subst hy9
          exact e_le (ih _ v3 z12 hF (cleN (by decide) hn) (nnN h0 (cle_hi (by decide) hn)) hK) (And.intro rfl (And.intro rfl (And.intro rfl (And.intro rfl (trivial)))))
set_option maxRecDepth 20000 in
set_option maxHeartbeats 4000000 in
theorem C_M_holds (hG : Gok l Γ D s0) (σ : Mem) (v1 : Int32)  {out : Mem × Int32} (hF : F_M_holds σ v1 = some out) : CT l Γ D s0 yX12_holds cX12_holds 4 (some .int) (5) 0 0 (115) σ [.ref (Γ.1 + 333), .int v1] (PI (some (.int out.2)) out.1) := by
  unfold F_M_holds at hF
  refine e_met (own := RX12) hG (by decide +kernel) rfl rfl (Nat.le_of_ble_eq_true rfl) ?_
  intro p e s m args below meth c X hr
  show E p l e _ s m args below meth c Γ D 0 0 _ σ 0 [some (.ref (Γ.1 + 333)), some (.int v1), none, none] []
  refine e_aload_n X dX12_holds_0 rfl rfl ?_
  refine e_aload_n X dX12_holds_1 rfl rfl ?_
  refine e_iload_n X dX12_holds_2 rfl rfl ?_
  obtain ⟨z1, h_z1, hF⟩ := obind_out hF
  refine e_callVi X (r := z1) (σ1 := σ) [.int v1] [.ref (Γ.1 + 333)] (C_M_isPerson (Cx_gok X) σ v1 h_z1) gv_X12_293 yk_X12_isPerson rfl (ent_lt (rfl : entTbl[333]? = some (13, 0))) (ent_at (rfl : entTbl[333]? = some (13, 0)) _) (rfl : vCl[11]? = some (RX12, TX12, 24)) ⟨Nat.le_of_ble_eq_true rfl, Nat.le_of_ble_eq_true rfl⟩ ⟨Nat.le_of_ble_eq_true rfl, Nat.le_of_ble_eq_true rfl⟩ (Nat.le_of_ble_eq_true rfl) dX12_holds_3 rfl ?_
  refine e_if_ne X 13 dX12_holds_6 (by decide) (fun c2 => ?_) (fun c2 => ?_)
  · skip
    rw [if_neg c2] at hF
    refine e_iconst X 0 dX12_holds_13 rfl ?_
    obtain ⟨σ3, h_σ3, hF⟩ := bindT_out hF
    refine pu_M_thrown X wf_X12_51 dX12_holds_14 h_σ3 ?_
    refine e_aload_n X dX12_holds_17 rfl rfl ?_
    refine ge_M_thrown X wf_X12_51 dX12_holds_18 ?_
    refine e_if_le X 26 dX12_holds_21 (by decide) (fun c4 => ?_) (fun c4 => ?_)
    · skip
      rw [if_neg c4] at hF
      refine e_aload_n X dX12_holds_26 rfl rfl ?_
      obtain ⟨z5, h_z5, hF⟩ := obind_out hF
      refine e_callVv X (σ1 := z5) [] [] (C_M_putsAside (Cx_gok X) σ3 h_z5) gv_X12_188 yk_X12_putsAside rfl (ent_lt (rfl : entTbl[333]? = some (13, 0))) (ent_at (rfl : entTbl[333]? = some (13, 0)) _) (rfl : vCl[11]? = some (RX12, TX12, 24)) ⟨Nat.le_of_ble_eq_true rfl, Nat.le_of_ble_eq_true rfl⟩ ⟨Nat.le_of_ble_eq_true rfl, Nat.le_of_ble_eq_true rfl⟩ (Nat.le_of_ble_eq_true rfl) dX12_holds_27 rfl ?_
      refine e_iconst X (-1) dX12_holds_30 rfl ?_
      refine e_istore_n X rfl dX12_holds_31 rfl (by decide) ?_
      refine e_iconst X 0 dX12_holds_32 rfl ?_
      refine e_istore_n X rfl dX12_holds_33 rfl (by decide) ?_
      obtain ⟨z14, h_z14, hF⟩ := obind_out hF
      refine e_le (L_M_holds_34 X hr v1 _ 0 ((-1)) z5 h_z14 rfl (by decide) ?_) (And.intro rfl (And.intro rfl (And.intro rfl (And.intro rfl (trivial)))))
      refine e_iload_n X dX12_holds_76 rfl rfl ?_
      exact e_iret X hr dX12_holds_77 (Nat.le_of_ble_eq_true rfl) (Nat.le_of_ble_eq_true rfl) (by cases hF; exact ⟨rfl, rfl⟩)
    · skip
      rw [if_pos c4] at hF
      refine e_iconst X 0 dX12_holds_24 rfl ?_
      exact e_iret X hr dX12_holds_25 (Nat.le_of_ble_eq_true rfl) (Nat.le_of_ble_eq_true rfl) (by cases hF; exact ⟨rfl, rfl⟩)
  · skip
    rw [if_pos c2] at hF
    refine e_iconst X 1 dX12_holds_9 rfl ?_
    refine e_goto X 14 dX12_holds_10 (by decide) ?_
    obtain ⟨σ15, h_σ15, hF⟩ := bindT_out hF
    refine pu_M_thrown X wf_X12_51 dX12_holds_14 h_σ15 ?_
    refine e_aload_n X dX12_holds_17 rfl rfl ?_
    refine ge_M_thrown X wf_X12_51 dX12_holds_18 ?_
    refine e_if_le X 26 dX12_holds_21 (by decide) (fun c16 => ?_) (fun c16 => ?_)
    · skip
      rw [if_neg c16] at hF
      refine e_aload_n X dX12_holds_26 rfl rfl ?_
      obtain ⟨z17, h_z17, hF⟩ := obind_out hF
      refine e_callVv X (σ1 := z17) [] [] (C_M_putsAside (Cx_gok X) σ15 h_z17) gv_X12_188 yk_X12_putsAside rfl (ent_lt (rfl : entTbl[333]? = some (13, 0))) (ent_at (rfl : entTbl[333]? = some (13, 0)) _) (rfl : vCl[11]? = some (RX12, TX12, 24)) ⟨Nat.le_of_ble_eq_true rfl, Nat.le_of_ble_eq_true rfl⟩ ⟨Nat.le_of_ble_eq_true rfl, Nat.le_of_ble_eq_true rfl⟩ (Nat.le_of_ble_eq_true rfl) dX12_holds_27 rfl ?_
      refine e_iconst X (-1) dX12_holds_30 rfl ?_
      refine e_istore_n X rfl dX12_holds_31 rfl (by decide) ?_
      refine e_iconst X 0 dX12_holds_32 rfl ?_
      refine e_istore_n X rfl dX12_holds_33 rfl (by decide) ?_
      obtain ⟨z18, h_z18, hF⟩ := obind_out hF
      refine e_le (L_M_holds_34 X hr v1 _ 0 ((-1)) z17 h_z18 rfl (by decide) ?_) (And.intro rfl (And.intro rfl (And.intro rfl (And.intro rfl (trivial)))))
      refine e_iload_n X dX12_holds_76 rfl rfl ?_
      exact e_iret X hr dX12_holds_77 (Nat.le_of_ble_eq_true rfl) (Nat.le_of_ble_eq_true rfl) (by cases hF; exact ⟨rfl, rfl⟩)
    · skip
      rw [if_pos c16] at hF
      refine e_iconst X 0 dX12_holds_24 rfl ?_
      exact e_iret X hr dX12_holds_25 (Nat.le_of_ble_eq_true rfl) (Nat.le_of_ble_eq_true rfl) (by cases hF; exact ⟨rfl, rfl⟩)
set_option maxRecDepth 20000 in
set_option maxHeartbeats 4000000 in
theorem L_M_ringOf_9 (X : Cx p l s m args meth c Γ D s0 RX12 cX12_ringOf 4) (hr : meth.sig.returnType = (some .int)) (σ : Mem) (v1 : Int32)  : ∀ (n : Nat) (v3 : Int32) (v2 : Int32) {z : (Int32) ⊕ (Int32)}, omap mrg2 (forGO (fun i s => F_M_ringOf_9_b σ v1 i s) n v3 v2) = some z → n = cle v3 8 → ¬ v3 < 0 → (sumP z (fun s9 => E p l e ({ frames := 1, cells := 0, slots := 0, locals := 22 } : Room) s m args below meth c Γ D 0 0 (MQ below (QcA Γ D Pst) args s 0 0 (frB Γ)) σ 40 [some (.ref (Γ.1 + 333)), some (.int v1), some (.int s9), none] []) (fun r9 => Pst (some (.int r9)) σ)) → E p l e ({ frames := 1, cells := 0, slots := 0, locals := 22 } : Room) s m args below meth c Γ D 0 0 (MQ below (QcA Γ D Pst) args s 0 0 (frB Γ)) σ 9 [some (.ref (Γ.1 + 333)), some (.int v1), some (.int v2), some (.int v3)] [] := by
  intro n
  induction n with
  | zero =>
    intro v3 v2 z hF hn h0 hK
    refine e_iload_n X dX12_ringOf_9 rfl rfl ?_
    refine e_bipush X 8 dX12_ringOf_10 rfl ?_
    refine e_icmp_gt X 40 dX12_ringOf_12 (by decide) (fun c6 => ?_) (fun c6 => ?_)
    · skip
      have hz9 := Option.some.inj hF; change (.inl v2) = z at hz9; subst hz9
      exact e_le hK (And.intro rfl (And.intro rfl (And.intro rfl (trivial))))
    · skip
      exact absurd (cle0 hn) c6
  | succ n ih =>
    intro v3 v2 z hF hn h0 hK
    obtain ⟨y9, hB, hF⟩ := forBRO_step hF
    change F_M_ringOf_9_b σ v1 v3 v2 = some y9 at hB
    unfold F_M_ringOf_9_b at hB
    refine e_iload_n X dX12_ringOf_9 rfl rfl ?_
    refine e_bipush X 8 dX12_ringOf_10 rfl ?_
    refine e_icmp_gt X 40 dX12_ringOf_12 (by decide) (fun c2 => ?_) (fun c2 => ?_)
    · skip
      exact absurd c2 (cleS hn)
    · skip
      refine e_iload_n X dX12_ringOf_15 rfl rfl ?_
      refine e_iconst X (-1) dX12_ringOf_16 rfl ?_
      refine e_icmp_eq X 40 dX12_ringOf_17 (by decide) (fun c3 => ?_) (fun c3 => ?_)
      · skip
        rw [if_pos c3] at hB
        have hy9 := Option.some.inj hB; change (.inr (.inl v2)) = y9 at hy9; subst hy9
        have hz9 := Option.some.inj hF; change (.inl v2) = z at hz9; subst hz9
        exact e_le hK (And.intro rfl (And.intro rfl (And.intro rfl (trivial))))
      · skip
        rw [if_neg c3] at hB
        refine e_iload_n X dX12_ringOf_20 rfl rfl ?_
        refine e_iload_n X dX12_ringOf_21 rfl rfl ?_
        refine e_icmp_ne X 27 dX12_ringOf_22 (by decide) (fun c4 => ?_) (fun c4 => ?_)
        · skip
          rw [if_neg c4] at hB
          refine e_aload_n X dX12_ringOf_27 rfl rfl ?_
          refine e_iload_n X dX12_ringOf_28 rfl rfl ?_
          refine e_iconst X 2 dX12_ringOf_29 rfl ?_
          obtain ⟨z5, h_z5, hB⟩ := obind_out hB
          refine e_callVi X (r := z5) (σ1 := σ) [.int v2, .int 2] [] (C_M_of (Cx_gok X) σ v2 2 h_z5) gv_X12_62 yk_X12_of rfl (ent_lt (rfl : entTbl[333]? = some (13, 0))) (ent_at (rfl : entTbl[333]? = some (13, 0)) _) (rfl : vCl[11]? = some (RX12, TX12, 24)) ⟨Nat.le_of_ble_eq_true rfl, Nat.le_of_ble_eq_true rfl⟩ ⟨Nat.le_of_ble_eq_true rfl, Nat.le_of_ble_eq_true rfl⟩ (Nat.le_of_ble_eq_true rfl) dX12_ringOf_30 rfl ?_
          refine e_istore_n X rfl dX12_ringOf_33 rfl (by decide) ?_
          refine e_iinc X 1 dX12_ringOf_34 rfl rfl (by decide) ?_
          refine e_goto X 9 dX12_ringOf_37 (by decide) ?_
          have hy9 := Option.some.inj hB; change (.inl z5) = y9 at hy9; subst hy9
          exact e_le (ih _ z5 hF (cleN (by decide) hn) (nnN h0 (cle_hi (by decide) hn)) hK) (And.intro rfl (And.intro rfl (And.intro rfl (And.intro rfl (trivial)))))
        · skip
          rw [if_pos c4] at hB
          refine e_iload_n X dX12_ringOf_25 rfl rfl ?_
          have hy9 := Option.some.inj hB; change (.inr (.inr v3)) = y9 at hy9; subst hy9
          have hz9 := Option.some.inj hF; change (.inr v3) = z at hz9; subst hz9
          exact e_iret X hr dX12_ringOf_26 (Nat.le_of_ble_eq_true rfl) (Nat.le_of_ble_eq_true rfl) hK
set_option maxRecDepth 20000 in
set_option maxHeartbeats 4000000 in
theorem C_M_ringOf (hG : Gok l Γ D s0) (σ : Mem) (v1 : Int32)  {out : Int32} (hF : F_M_ringOf σ v1 = some out) : CT l Γ D s0 yX12_ringOf cX12_ringOf 4 (some .int) (1) 0 0 (22) σ [.ref (Γ.1 + 333), .int v1] (PI (some (.int out)) σ) := by
  unfold F_M_ringOf at hF
  refine e_met (own := RX12) hG (by decide +kernel) rfl rfl (Nat.le_of_ble_eq_true rfl) ?_
  intro p e s m args below meth c X hr
  show E p l e _ s m args below meth c Γ D 0 0 _ σ 0 [some (.ref (Γ.1 + 333)), some (.int v1), none, none] []
  refine e_aload_n X dX12_ringOf_0 rfl rfl ?_
  refine e_iload_n X dX12_ringOf_1 rfl rfl ?_
  refine e_iconst X 2 dX12_ringOf_2 rfl ?_
  obtain ⟨z1, h_z1, hF⟩ := obind_out hF
  refine e_callVi X (r := z1) (σ1 := σ) [.int v1, .int 2] [] (C_M_of (Cx_gok X) σ v1 2 h_z1) gv_X12_62 yk_X12_of rfl (ent_lt (rfl : entTbl[333]? = some (13, 0))) (ent_at (rfl : entTbl[333]? = some (13, 0)) _) (rfl : vCl[11]? = some (RX12, TX12, 24)) ⟨Nat.le_of_ble_eq_true rfl, Nat.le_of_ble_eq_true rfl⟩ ⟨Nat.le_of_ble_eq_true rfl, Nat.le_of_ble_eq_true rfl⟩ (Nat.le_of_ble_eq_true rfl) dX12_ringOf_3 rfl ?_
  refine e_istore_n X rfl dX12_ringOf_6 rfl (by decide) ?_
  refine e_iconst X 1 dX12_ringOf_7 rfl ?_
  refine e_istore_n X rfl dX12_ringOf_8 rfl (by decide) ?_
  obtain ⟨z7, h_z7, hF⟩ := obind_out hF
  refine e_le (L_M_ringOf_9 X hr σ v1 _ 1 z1 h_z7 rfl (by decide) ?_) (And.intro rfl (And.intro rfl (And.intro rfl (And.intro rfl (trivial)))))
  cases z7 with
  | inl s8 =>
    replace hF := hF
    rw [sumE] at hF
    show E p l e _ s m args below meth c Γ D _ _ _ _ _ _ _
    refine e_iconst X (-1) dX12_ringOf_40 rfl ?_
    exact e_iret X hr dX12_ringOf_41 (Nat.le_of_ble_eq_true rfl) (Nat.le_of_ble_eq_true rfl) (by cases hF; exact ⟨rfl, rfl⟩)
  | inr r9 =>
    rw [sumE] at hF
    cases hF
    exact ⟨rfl, rfl⟩
set_option maxRecDepth 20000 in
set_option maxHeartbeats 4000000 in
theorem C_M_ring (hG : Gok l Γ D s0) (σ : Mem) (v1 : Int32)  {out : Mem × Int32} (hF : F_M_ring σ v1 = some out) : CT l Γ D s0 yX12_ring cX12_ring 2 (some .int) (2) 0 0 (45) σ [.ref (Γ.1 + 333), .int v1] (PI (some (.int out.2)) out.1) := by
  unfold F_M_ring at hF
  refine e_met (own := RX12) hG (by decide +kernel) rfl rfl (Nat.le_of_ble_eq_true rfl) ?_
  intro p e s m args below meth c X hr
  show E p l e _ s m args below meth c Γ D 0 0 _ σ 0 [some (.ref (Γ.1 + 333)), some (.int v1)] []
  refine e_aload_n X dX12_ring_0 rfl rfl ?_
  refine e_aload_n X dX12_ring_1 rfl rfl ?_
  refine e_iload_n X dX12_ring_2 rfl rfl ?_
  obtain ⟨z1, h_z1, hF⟩ := obind_out hF
  refine e_callVi X (r := z1) (σ1 := σ) [.int v1] [.ref (Γ.1 + 333)] (C_M_isPerson (Cx_gok X) σ v1 h_z1) gv_X12_293 yk_X12_isPerson rfl (ent_lt (rfl : entTbl[333]? = some (13, 0))) (ent_at (rfl : entTbl[333]? = some (13, 0)) _) (rfl : vCl[11]? = some (RX12, TX12, 24)) ⟨Nat.le_of_ble_eq_true rfl, Nat.le_of_ble_eq_true rfl⟩ ⟨Nat.le_of_ble_eq_true rfl, Nat.le_of_ble_eq_true rfl⟩ (Nat.le_of_ble_eq_true rfl) dX12_ring_3 rfl ?_
  refine e_if_ne X 13 dX12_ring_6 (by decide) (fun c2 => ?_) (fun c2 => ?_)
  · skip
    rw [if_neg c2] at hF
    refine e_iconst X 0 dX12_ring_13 rfl ?_
    obtain ⟨σ3, h_σ3, hF⟩ := bindT_out hF
    refine pu_M_thrown X wf_X12_51 dX12_ring_14 h_σ3 ?_
    refine e_aload_n X dX12_ring_17 rfl rfl ?_
    refine ge_M_thrown X wf_X12_51 dX12_ring_18 ?_
    refine e_if_le X 28 dX12_ring_21 (by decide) (fun c4 => ?_) (fun c4 => ?_)
    · skip
      rw [if_neg c4] at hF
      refine e_aload_n X dX12_ring_28 rfl rfl ?_
      refine e_iload_n X dX12_ring_29 rfl rfl ?_
      obtain ⟨z5, h_z5, hF⟩ := obind_out hF
      refine e_callVi X (r := z5) (σ1 := σ3) [.int v1] [] (C_M_ringOf (Cx_gok X) σ3 v1 h_z5) gv_X12_327 yk_X12_ringOf rfl (ent_lt (rfl : entTbl[333]? = some (13, 0))) (ent_at (rfl : entTbl[333]? = some (13, 0)) _) (rfl : vCl[11]? = some (RX12, TX12, 24)) ⟨Nat.le_of_ble_eq_true rfl, Nat.le_of_ble_eq_true rfl⟩ ⟨Nat.le_of_ble_eq_true rfl, Nat.le_of_ble_eq_true rfl⟩ (Nat.le_of_ble_eq_true rfl) dX12_ring_30 rfl ?_
      exact e_iret X hr dX12_ring_33 (Nat.le_of_ble_eq_true rfl) (Nat.le_of_ble_eq_true rfl) (by cases hF; exact ⟨rfl, rfl⟩)
    · skip
      rw [if_pos c4] at hF
      refine e_iconst X 0 dX12_ring_24 rfl ?_
      refine e_goto X 33 dX12_ring_25 (by decide) ?_
      exact e_iret X hr dX12_ring_33 (Nat.le_of_ble_eq_true rfl) (Nat.le_of_ble_eq_true rfl) (by cases hF; exact ⟨rfl, rfl⟩)
  · skip
    rw [if_pos c2] at hF
    refine e_iconst X 1 dX12_ring_9 rfl ?_
    refine e_goto X 14 dX12_ring_10 (by decide) ?_
    obtain ⟨σ6, h_σ6, hF⟩ := bindT_out hF
    refine pu_M_thrown X wf_X12_51 dX12_ring_14 h_σ6 ?_
    refine e_aload_n X dX12_ring_17 rfl rfl ?_
    refine ge_M_thrown X wf_X12_51 dX12_ring_18 ?_
    refine e_if_le X 28 dX12_ring_21 (by decide) (fun c7 => ?_) (fun c7 => ?_)
    · skip
      rw [if_neg c7] at hF
      refine e_aload_n X dX12_ring_28 rfl rfl ?_
      refine e_iload_n X dX12_ring_29 rfl rfl ?_
      obtain ⟨z8, h_z8, hF⟩ := obind_out hF
      refine e_callVi X (r := z8) (σ1 := σ6) [.int v1] [] (C_M_ringOf (Cx_gok X) σ6 v1 h_z8) gv_X12_327 yk_X12_ringOf rfl (ent_lt (rfl : entTbl[333]? = some (13, 0))) (ent_at (rfl : entTbl[333]? = some (13, 0)) _) (rfl : vCl[11]? = some (RX12, TX12, 24)) ⟨Nat.le_of_ble_eq_true rfl, Nat.le_of_ble_eq_true rfl⟩ ⟨Nat.le_of_ble_eq_true rfl, Nat.le_of_ble_eq_true rfl⟩ (Nat.le_of_ble_eq_true rfl) dX12_ring_30 rfl ?_
      exact e_iret X hr dX12_ring_33 (Nat.le_of_ble_eq_true rfl) (Nat.le_of_ble_eq_true rfl) (by cases hF; exact ⟨rfl, rfl⟩)
    · skip
      rw [if_pos c7] at hF
      refine e_iconst X 0 dX12_ring_24 rfl ?_
      refine e_goto X 33 dX12_ring_25 (by decide) ?_
      exact e_iret X hr dX12_ring_33 (Nat.le_of_ble_eq_true rfl) (Nat.le_of_ble_eq_true rfl) (by cases hF; exact ⟨rfl, rfl⟩)
set_option maxRecDepth 20000 in
set_option maxHeartbeats 4000000 in
theorem L_M_leads_10 (X : Cx p l s m args meth c Γ D s0 RX12 cX12_leads 5) (hr : meth.sig.returnType = (some .boolean)) (σ : Mem) (v1 : Int32) (v2 : Int32)  : ∀ (n : Nat) (v4 : Int32) (v3 : Int32) {z : (Int32) ⊕ (Int32)}, omap mrg2 (forGO (fun i s => F_M_leads_10_b σ v1 v2 i s) n v4 v3) = some z → n = cle v4 8 → ¬ v4 < 0 → (sumP z (fun s9 => E p l e ({ frames := 1, cells := 0, slots := 0, locals := 22 } : Room) s m args below meth c Γ D 0 0 (MQ below (QcA Γ D Pst) args s 0 0 (frB Γ)) σ 42 [some (.ref (Γ.1 + 333)), some (.int v1), some (.int v2), some (.int s9), none] []) (fun r9 => Pst (some (.int r9)) σ)) → E p l e ({ frames := 1, cells := 0, slots := 0, locals := 22 } : Room) s m args below meth c Γ D 0 0 (MQ below (QcA Γ D Pst) args s 0 0 (frB Γ)) σ 10 [some (.ref (Γ.1 + 333)), some (.int v1), some (.int v2), some (.int v3), some (.int v4)] [] := by
  intro n
  induction n with
  | zero =>
    intro v4 v3 z hF hn h0 hK
    refine e_iload X dX12_leads_10 rfl ?_
    refine e_bipush X 8 dX12_leads_12 rfl ?_
    refine e_icmp_gt X 42 dX12_leads_14 (by decide) (fun c6 => ?_) (fun c6 => ?_)
    · skip
      have hz9 := Option.some.inj hF; change (.inl v3) = z at hz9; subst hz9
      exact e_le hK (And.intro rfl (And.intro rfl (And.intro rfl (And.intro rfl (trivial)))))
    · skip
      exact absurd (cle0 hn) c6
  | succ n ih =>
    intro v4 v3 z hF hn h0 hK
    obtain ⟨y9, hB, hF⟩ := forBRO_step hF
    change F_M_leads_10_b σ v1 v2 v4 v3 = some y9 at hB
    unfold F_M_leads_10_b at hB
    refine e_iload X dX12_leads_10 rfl ?_
    refine e_bipush X 8 dX12_leads_12 rfl ?_
    refine e_icmp_gt X 42 dX12_leads_14 (by decide) (fun c2 => ?_) (fun c2 => ?_)
    · skip
      exact absurd c2 (cleS hn)
    · skip
      refine e_iload_n X dX12_leads_17 rfl rfl ?_
      refine e_iconst X (-1) dX12_leads_18 rfl ?_
      refine e_icmp_eq X 42 dX12_leads_19 (by decide) (fun c3 => ?_) (fun c3 => ?_)
      · skip
        rw [if_pos c3] at hB
        have hy9 := Option.some.inj hB; change (.inr (.inl v3)) = y9 at hy9; subst hy9
        have hz9 := Option.some.inj hF; change (.inl v3) = z at hz9; subst hz9
        exact e_le hK (And.intro rfl (And.intro rfl (And.intro rfl (And.intro rfl (trivial)))))
      · skip
        rw [if_neg c3] at hB
        refine e_iload_n X dX12_leads_22 rfl rfl ?_
        refine e_iload_n X dX12_leads_23 rfl rfl ?_
        refine e_icmp_ne X 29 dX12_leads_24 (by decide) (fun c4 => ?_) (fun c4 => ?_)
        · skip
          rw [if_neg c4] at hB
          refine e_aload_n X dX12_leads_29 rfl rfl ?_
          refine e_iload_n X dX12_leads_30 rfl rfl ?_
          refine e_iconst X 2 dX12_leads_31 rfl ?_
          obtain ⟨z5, h_z5, hB⟩ := obind_out hB
          refine e_callVi X (r := z5) (σ1 := σ) [.int v3, .int 2] [] (C_M_of (Cx_gok X) σ v3 2 h_z5) gv_X12_62 yk_X12_of rfl (ent_lt (rfl : entTbl[333]? = some (13, 0))) (ent_at (rfl : entTbl[333]? = some (13, 0)) _) (rfl : vCl[11]? = some (RX12, TX12, 24)) ⟨Nat.le_of_ble_eq_true rfl, Nat.le_of_ble_eq_true rfl⟩ ⟨Nat.le_of_ble_eq_true rfl, Nat.le_of_ble_eq_true rfl⟩ (Nat.le_of_ble_eq_true rfl) dX12_leads_32 rfl ?_
          refine e_istore_n X rfl dX12_leads_35 rfl (by decide) ?_
          refine e_iinc X 1 dX12_leads_36 rfl rfl (by decide) ?_
          refine e_goto X 10 dX12_leads_39 (by decide) ?_
          have hy9 := Option.some.inj hB; change (.inl z5) = y9 at hy9; subst hy9
          exact e_le (ih _ z5 hF (cleN (by decide) hn) (nnN h0 (cle_hi (by decide) hn)) hK) (And.intro rfl (And.intro rfl (And.intro rfl (And.intro rfl (And.intro rfl (trivial))))))
        · skip
          rw [if_pos c4] at hB
          refine e_iconst X 1 dX12_leads_27 rfl ?_
          have hy9 := Option.some.inj hB; change (.inr (.inr 1)) = y9 at hy9; subst hy9
          have hz9 := Option.some.inj hF; change (.inr 1) = z at hz9; subst hz9
          exact e_zret X hr rfl dX12_leads_28 (Nat.le_of_ble_eq_true rfl) (Nat.le_of_ble_eq_true rfl) hK
set_option maxRecDepth 20000 in
set_option maxHeartbeats 4000000 in
theorem C_M_leads (hG : Gok l Γ D s0) (σ : Mem) (v1 : Int32) (v2 : Int32)  {out : Int32} (hF : F_M_leads σ v1 v2 = some out) : CT l Γ D s0 yX12_leads cX12_leads 5 (some .boolean) (1) 0 0 (22) σ [.ref (Γ.1 + 333), .int v1, .int v2] (PI (some (.int out)) σ) := by
  unfold F_M_leads at hF
  refine e_met (own := RX12) hG (by decide +kernel) rfl rfl (Nat.le_of_ble_eq_true rfl) ?_
  intro p e s m args below meth c X hr
  show E p l e _ s m args below meth c Γ D 0 0 _ σ 0 [some (.ref (Γ.1 + 333)), some (.int v1), some (.int v2), none, none] []
  refine e_aload_n X dX12_leads_0 rfl rfl ?_
  refine e_iload_n X dX12_leads_1 rfl rfl ?_
  refine e_iconst X 2 dX12_leads_2 rfl ?_
  obtain ⟨z1, h_z1, hF⟩ := obind_out hF
  refine e_callVi X (r := z1) (σ1 := σ) [.int v1, .int 2] [] (C_M_of (Cx_gok X) σ v1 2 h_z1) gv_X12_62 yk_X12_of rfl (ent_lt (rfl : entTbl[333]? = some (13, 0))) (ent_at (rfl : entTbl[333]? = some (13, 0)) _) (rfl : vCl[11]? = some (RX12, TX12, 24)) ⟨Nat.le_of_ble_eq_true rfl, Nat.le_of_ble_eq_true rfl⟩ ⟨Nat.le_of_ble_eq_true rfl, Nat.le_of_ble_eq_true rfl⟩ (Nat.le_of_ble_eq_true rfl) dX12_leads_3 rfl ?_
  refine e_istore_n X rfl dX12_leads_6 rfl (by decide) ?_
  refine e_iconst X 1 dX12_leads_7 rfl ?_
  refine e_istore X rfl dX12_leads_8 (by decide) ?_
  obtain ⟨z7, h_z7, hF⟩ := obind_out hF
  refine e_le (L_M_leads_10 X hr σ v1 v2 _ 1 z1 h_z7 rfl (by decide) ?_) (And.intro rfl (And.intro rfl (And.intro rfl (And.intro rfl (And.intro rfl (trivial))))))
  cases z7 with
  | inl s8 =>
    replace hF := hF
    rw [sumE] at hF
    show E p l e _ s m args below meth c Γ D _ _ _ _ _ _ _
    refine e_iconst X 0 dX12_leads_42 rfl ?_
    exact e_zret X hr rfl dX12_leads_43 (Nat.le_of_ble_eq_true rfl) (Nat.le_of_ble_eq_true rfl) (by cases hF; exact ⟨rfl, rfl⟩)
  | inr r9 =>
    rw [sumE] at hF
    cases hF
    exact ⟨rfl, rfl⟩
set_option maxRecDepth 20000 in
set_option maxHeartbeats 4000000 in
theorem L_M_rings_37 (X : Cx p l s m args meth c Γ D s0 RX12 cX12_rings 5) (hr : meth.sig.returnType = (some .int)) (σ : Mem) (v1 : Int32) (v2 : Int32)  : ∀ (n : Nat) (v4 : Int32) (v3 : Int32) {z : Int32}, omap mrg (forGO (fun i s => F_M_rings_37_b σ v1 v2 i s) n v4 v3) = some z → n = cnt v4 v2 → ¬ v4 < 0 → (E p l e ({ frames := 2, cells := 0, slots := 0, locals := 46 } : Room) s m args below meth c Γ D 0 0 (MQ below (QcA Γ D Pst) args s 0 0 (frB Γ)) σ 69 [some (.ref (Γ.1 + 333)), some (.int v1), some (.int v2), some (.int z), none] []) → E p l e ({ frames := 2, cells := 0, slots := 0, locals := 46 } : Room) s m args below meth c Γ D 0 0 (MQ below (QcA Γ D Pst) args s 0 0 (frB Γ)) σ 37 [some (.ref (Γ.1 + 333)), some (.int v1), some (.int v2), some (.int v3), some (.int v4)] [] := by
  intro n
  induction n with
  | zero =>
    intro v4 v3 z hF hn h0 hK
    refine e_iload X dX12_rings_37 rfl ?_
    refine e_iload_n X dX12_rings_39 rfl rfl ?_
    refine e_icmp_ge X 69 dX12_rings_40 (by decide) (fun c9 => ?_) (fun c9 => ?_)
    · skip
      have hz9 := Option.some.inj hF; change (v3) = z at hz9; subst hz9
      exact e_le hK (And.intro rfl (And.intro rfl (And.intro rfl (And.intro rfl (trivial)))))
    · skip
      exact absurd c9 (cnt0 hn)
  | succ n ih =>
    intro v4 v3 z hF hn h0 hK
    obtain ⟨y9, hB, hF⟩ := forBO_step hF
    change F_M_rings_37_b σ v1 v2 v4 v3 = some y9 at hB
    unfold F_M_rings_37_b at hB
    refine e_iload X dX12_rings_37 rfl ?_
    refine e_iload_n X dX12_rings_39 rfl rfl ?_
    refine e_icmp_ge X 69 dX12_rings_40 (by decide) (fun c5 => ?_) (fun c5 => ?_)
    · skip
      exact absurd (cntS hn) c5
    · skip
      refine e_iload_n X dX12_rings_43 rfl rfl ?_
      refine e_if_eq X 69 dX12_rings_44 (by decide) (fun c6 => ?_) (fun c6 => ?_)
      · skip
        rw [if_pos c6] at hB
        have hy9 := Option.some.inj hB; change (.inr v3) = y9 at hy9; subst hy9
        have hz9 := Option.some.inj hF; change (v3) = z at hz9; subst hz9
        exact e_le hK (And.intro rfl (And.intro rfl (And.intro rfl (And.intro rfl (trivial)))))
      · skip
        rw [if_neg c6] at hB
        refine e_aload_n X dX12_rings_47 rfl rfl ?_
        refine e_iload_n X dX12_rings_48 rfl rfl ?_
        refine e_iload X dX12_rings_49 rfl ?_
        obtain ⟨z7, h_z7, hB⟩ := obind_out hB
        refine e_callVi X (r := z7) (σ1 := σ) [.int v2, .int v4] [] (C_M_leads (Cx_gok X) σ v2 v4 h_z7) gv_X12_330 yk_X12_leads rfl (ent_lt (rfl : entTbl[333]? = some (13, 0))) (ent_at (rfl : entTbl[333]? = some (13, 0)) _) (rfl : vCl[11]? = some (RX12, TX12, 24)) ⟨Nat.le_of_ble_eq_true rfl, Nat.le_of_ble_eq_true rfl⟩ ⟨Nat.le_of_ble_eq_true rfl, Nat.le_of_ble_eq_true rfl⟩ (Nat.le_of_ble_eq_true rfl) dX12_rings_51 rfl ?_
        refine e_if_ne X 61 dX12_rings_54 (by decide) (fun c8 => ?_) (fun c8 => ?_)
        · skip
          rw [if_neg c8] at hB
          refine e_iconst X 0 dX12_rings_61 rfl ?_
          refine e_istore_n X rfl dX12_rings_62 rfl (by decide) ?_
          refine e_iinc X 1 dX12_rings_63 rfl rfl (by decide) ?_
          refine e_goto X 37 dX12_rings_66 (by decide) ?_
          have hy9 := Option.some.inj hB; change (.inl 0) = y9 at hy9; subst hy9
          exact e_le (ih _ 0 hF (cntN hn) (nnN h0 (cnt_hi hn)) hK) (And.intro rfl (And.intro rfl (And.intro rfl (And.intro rfl (And.intro rfl (trivial))))))
        · skip
          rw [if_pos c8] at hB
          refine e_iconst X 1 dX12_rings_57 rfl ?_
          refine e_goto X 62 dX12_rings_58 (by decide) ?_
          refine e_istore_n X rfl dX12_rings_62 rfl (by decide) ?_
          refine e_iinc X 1 dX12_rings_63 rfl rfl (by decide) ?_
          refine e_goto X 37 dX12_rings_66 (by decide) ?_
          have hy9 := Option.some.inj hB; change (.inl 1) = y9 at hy9; subst hy9
          exact e_le (ih _ 1 hF (cntN hn) (nnN h0 (cnt_hi hn)) hK) (And.intro rfl (And.intro rfl (And.intro rfl (And.intro rfl (And.intro rfl (trivial))))))
set_option maxRecDepth 20000 in
set_option maxHeartbeats 4000000 in
theorem L_M_rings_9 (X : Cx p l s m args meth c Γ D s0 RX12 cX12_rings 5) (hr : meth.sig.returnType = (some .int)) (σ : Mem)  : ∀ (n : Nat) (v2 : Int32) (v1 : Int32) {z : Int32}, forSO (fun i s => F_M_rings_9_b σ i s) n v2 v1 = some z → n = cnt v2 ((σ 334 3)) → ¬ v2 < 0 → (E p l e ({ frames := 2, cells := 0, slots := 0, locals := 46 } : Room) s m args below meth c Γ D 0 0 (MQ below (QcA Γ D Pst) args s 0 0 (frB Γ)) σ 87 [some (.ref (Γ.1 + 333)), some (.int z), none, none, none] []) → E p l e ({ frames := 2, cells := 0, slots := 0, locals := 46 } : Room) s m args below meth c Γ D 0 0 (MQ below (QcA Γ D Pst) args s 0 0 (frB Γ)) σ 9 [some (.ref (Γ.1 + 333)), some (.int v1), some (.int v2), none, none] [] := by
  intro n
  induction n with
  | zero =>
    intro v2 v1 z hF hn h0 hK
    refine e_iload_n X dX12_rings_9 rfl rfl ?_
    refine e_aload_n X dX12_rings_10 rfl rfl ?_
    refine ge_M_m X wf_X12_7 dX12_rings_11 ?_
    refine e_iconst X 3 dX12_rings_14 rfl ?_
    refine e_iald X (j := 3) rfl rfl (vp_in_iff.mpr (by decide)) rfl dX12_rings_15 ?_
    refine e_icmp_ge X 87 dX12_rings_16 (by decide) (fun c18 => ?_) (fun c18 => ?_)
    · skip
      have hz9 := Option.some.inj hF; change (v1) = z at hz9; subst hz9
      exact e_le hK (And.intro rfl (And.intro rfl (trivial)))
    · skip
      exact absurd c18 (cnt0 hn)
  | succ n ih =>
    intro v2 v1 z hF hn h0 hK
    obtain ⟨y9, hB, hF⟩ := forSO_step hF
    change F_M_rings_9_b σ v2 v1 = some y9 at hB
    unfold F_M_rings_9_b at hB
    refine e_iload_n X dX12_rings_9 rfl rfl ?_
    refine e_aload_n X dX12_rings_10 rfl rfl ?_
    refine ge_M_m X wf_X12_7 dX12_rings_11 ?_
    refine e_iconst X 3 dX12_rings_14 rfl ?_
    refine e_iald X (j := 3) rfl rfl (vp_in_iff.mpr (by decide)) rfl dX12_rings_15 ?_
    refine e_icmp_ge X 87 dX12_rings_16 (by decide) (fun c2 => ?_) (fun c2 => ?_)
    · skip
      exact absurd (cntS hn) c2
    · skip
      refine e_aload_n X dX12_rings_19 rfl rfl ?_
      refine e_iload_n X dX12_rings_20 rfl rfl ?_
      obtain ⟨z3, h_z3, hB⟩ := obind_out hB
      refine e_callVi X (r := z3) (σ1 := σ) [.int v2] [] (C_M_ringOf (Cx_gok X) σ v2 h_z3) gv_X12_327 yk_X12_ringOf rfl (ent_lt (rfl : entTbl[333]? = some (13, 0))) (ent_at (rfl : entTbl[333]? = some (13, 0)) _) (rfl : vCl[11]? = some (RX12, TX12, 24)) ⟨Nat.le_of_ble_eq_true rfl, Nat.le_of_ble_eq_true rfl⟩ ⟨Nat.le_of_ble_eq_true rfl, Nat.le_of_ble_eq_true rfl⟩ (Nat.le_of_ble_eq_true rfl) dX12_rings_21 rfl ?_
      refine e_iconst X (-1) dX12_rings_24 rfl ?_
      refine e_icmp_eq X 32 dX12_rings_25 (by decide) (fun c4 => ?_) (fun c4 => ?_)
      · skip
        rw [if_pos c4] at hB
        refine e_iconst X 0 dX12_rings_32 rfl ?_
        refine e_istore_n X rfl dX12_rings_33 rfl (by decide) ?_
        refine e_iconst X 0 dX12_rings_34 rfl ?_
        refine e_istore X rfl dX12_rings_35 (by decide) ?_
        obtain ⟨z10, h_z10, hB⟩ := obind_out hB
        refine e_le (L_M_rings_37 X hr σ v1 v2 _ 0 0 h_z10 rfl (by decide) ?_) (And.intro rfl (And.intro rfl (And.intro rfl (And.intro rfl (And.intro rfl (trivial))))))
        refine e_iload_n X dX12_rings_69 rfl rfl ?_
        refine e_iload_n X dX12_rings_70 rfl rfl ?_
        refine e_if_eq X 78 dX12_rings_71 (by decide) (fun c11 => ?_) (fun c11 => ?_)
        · skip
          rw [if_pos c11] at hB
          refine e_iconst X 0 dX12_rings_78 rfl ?_
          refine e_iadd X dX12_rings_79 ?_
          obtain ⟨x12, h_x12, hB⟩ := bindT_out hB
          refine e_istore_n X h_x12 dX12_rings_80 rfl (by decide) ?_
          refine e_iinc X 1 dX12_rings_81 rfl rfl (by decide) ?_
          refine e_goto X 9 dX12_rings_84 (by decide) ?_
          have hy9 := Option.some.inj hB; change (x12) = y9 at hy9; subst hy9
          exact e_le (ih _ x12 hF (cntN hn) (nnN h0 (cnt_hi hn)) hK) (And.intro rfl (And.intro rfl (And.intro rfl (trivial))))
        · skip
          rw [if_neg c11] at hB
          refine e_iconst X 1 dX12_rings_74 rfl ?_
          refine e_goto X 79 dX12_rings_75 (by decide) ?_
          refine e_iadd X dX12_rings_79 ?_
          obtain ⟨x13, h_x13, hB⟩ := bindT_out hB
          refine e_istore_n X h_x13 dX12_rings_80 rfl (by decide) ?_
          refine e_iinc X 1 dX12_rings_81 rfl rfl (by decide) ?_
          refine e_goto X 9 dX12_rings_84 (by decide) ?_
          have hy9 := Option.some.inj hB; change (x13) = y9 at hy9; subst hy9
          exact e_le (ih _ x13 hF (cntN hn) (nnN h0 (cnt_hi hn)) hK) (And.intro rfl (And.intro rfl (And.intro rfl (trivial))))
      · skip
        rw [if_neg c4] at hB
        refine e_iconst X 1 dX12_rings_28 rfl ?_
        refine e_goto X 33 dX12_rings_29 (by decide) ?_
        refine e_istore_n X rfl dX12_rings_33 rfl (by decide) ?_
        refine e_iconst X 0 dX12_rings_34 rfl ?_
        refine e_istore X rfl dX12_rings_35 (by decide) ?_
        obtain ⟨z14, h_z14, hB⟩ := obind_out hB
        refine e_le (L_M_rings_37 X hr σ v1 v2 _ 0 1 h_z14 rfl (by decide) ?_) (And.intro rfl (And.intro rfl (And.intro rfl (And.intro rfl (And.intro rfl (trivial))))))
        refine e_iload_n X dX12_rings_69 rfl rfl ?_
        refine e_iload_n X dX12_rings_70 rfl rfl ?_
        refine e_if_eq X 78 dX12_rings_71 (by decide) (fun c15 => ?_) (fun c15 => ?_)
        · skip
          rw [if_pos c15] at hB
          refine e_iconst X 0 dX12_rings_78 rfl ?_
          refine e_iadd X dX12_rings_79 ?_
          obtain ⟨x16, h_x16, hB⟩ := bindT_out hB
          refine e_istore_n X h_x16 dX12_rings_80 rfl (by decide) ?_
          refine e_iinc X 1 dX12_rings_81 rfl rfl (by decide) ?_
          refine e_goto X 9 dX12_rings_84 (by decide) ?_
          have hy9 := Option.some.inj hB; change (x16) = y9 at hy9; subst hy9
          exact e_le (ih _ x16 hF (cntN hn) (nnN h0 (cnt_hi hn)) hK) (And.intro rfl (And.intro rfl (And.intro rfl (trivial))))
        · skip
          rw [if_neg c15] at hB
          refine e_iconst X 1 dX12_rings_74 rfl ?_
          refine e_goto X 79 dX12_rings_75 (by decide) ?_
          refine e_iadd X dX12_rings_79 ?_
          obtain ⟨x17, h_x17, hB⟩ := bindT_out hB
          refine e_istore_n X h_x17 dX12_rings_80 rfl (by decide) ?_
          refine e_iinc X 1 dX12_rings_81 rfl rfl (by decide) ?_
          refine e_goto X 9 dX12_rings_84 (by decide) ?_
          have hy9 := Option.some.inj hB; change (x17) = y9 at hy9; subst hy9
          exact e_le (ih _ x17 hF (cntN hn) (nnN h0 (cnt_hi hn)) hK) (And.intro rfl (And.intro rfl (And.intro rfl (trivial))))
set_option maxRecDepth 20000 in
set_option maxHeartbeats 4000000 in
theorem C_M_rings (hG : Gok l Γ D s0) (σ : Mem)   {out : Mem × Int32} (hF : F_M_rings σ = some out) : CT l Γ D s0 yX12_rings cX12_rings 5 (some .int) (2) 0 0 (46) σ [.ref (Γ.1 + 333)] (PI (some (.int out.2)) out.1) := by
  unfold F_M_rings at hF
  refine e_met (own := RX12) hG (by decide +kernel) rfl rfl (Nat.le_of_ble_eq_true rfl) ?_
  intro p e s m args below meth c X hr
  show E p l e _ s m args below meth c Γ D 0 0 _ σ 0 [some (.ref (Γ.1 + 333)), none, none, none, none] []
  refine e_aload_n X dX12_rings_0 rfl rfl ?_
  refine e_iconst X 0 dX12_rings_1 rfl ?_
  obtain ⟨σ1, h_σ1, hF⟩ := bindT_out hF
  refine pu_M_thrown X wf_X12_51 dX12_rings_2 h_σ1 ?_
  refine e_iconst X 0 dX12_rings_5 rfl ?_
  refine e_istore_n X rfl dX12_rings_6 rfl (by decide) ?_
  refine e_iconst X 0 dX12_rings_7 rfl ?_
  refine e_istore_n X rfl dX12_rings_8 rfl (by decide) ?_
  obtain ⟨z19, h_z19, hF⟩ := obind_out hF
  refine e_le (L_M_rings_9 X hr σ1 _ 0 0 h_z19 rfl (by decide) ?_) (And.intro rfl (And.intro rfl (And.intro rfl (trivial))))
  refine e_iload_n X dX12_rings_87 rfl rfl ?_
  exact e_iret X hr dX12_rings_88 (Nat.le_of_ble_eq_true rfl) (Nat.le_of_ble_eq_true rfl) (by cases hF; exact ⟨rfl, rfl⟩)
set_option maxRecDepth 20000 in
set_option maxHeartbeats 4000000 in
theorem L_M_leans_21 (X : Cx p l s m args meth c Γ D s0 RX12 cX12_leans 4) (hr : meth.sig.returnType = (some .int)) (σ : Mem) (v1 : Int32)  : ∀ (n : Nat) (v3 : Int32) (v2 : Int32) {z : Int32}, omap mrg (forGO (fun i s => F_M_leans_21_b σ v1 i s) n v3 v2) = some z → n = cnt v3 ((σ 334 3)) → ¬ v3 < 0 → (E p l e ({ frames := 2, cells := 0, slots := 0, locals := 46 } : Room) s m args below meth c Γ D 0 0 (MQ below (QcA Γ D Pst) args s 0 0 (frB Γ)) σ 63 [some (.ref (Γ.1 + 333)), some (.int v1), some (.int z), none] []) → E p l e ({ frames := 2, cells := 0, slots := 0, locals := 46 } : Room) s m args below meth c Γ D 0 0 (MQ below (QcA Γ D Pst) args s 0 0 (frB Γ)) σ 21 [some (.ref (Γ.1 + 333)), some (.int v1), some (.int v2), some (.int v3)] [] := by
  intro n
  induction n with
  | zero =>
    intro v3 v2 z hF hn h0 hK
    refine e_iload_n X dX12_leans_21 rfl rfl ?_
    refine e_aload_n X dX12_leans_22 rfl rfl ?_
    refine ge_M_m X wf_X12_7 dX12_leans_23 ?_
    refine e_iconst X 3 dX12_leans_26 rfl ?_
    refine e_iald X (j := 3) rfl rfl (vp_in_iff.mpr (by decide)) rfl dX12_leans_27 ?_
    refine e_icmp_ge X 63 dX12_leans_28 (by decide) (fun c10 => ?_) (fun c10 => ?_)
    · skip
      have hz9 := Option.some.inj hF; change (v2) = z at hz9; subst hz9
      exact e_le hK (And.intro rfl (And.intro rfl (And.intro rfl (trivial))))
    · skip
      exact absurd c10 (cnt0 hn)
  | succ n ih =>
    intro v3 v2 z hF hn h0 hK
    obtain ⟨y9, hB, hF⟩ := forBO_step hF
    change F_M_leans_21_b σ v1 v3 v2 = some y9 at hB
    unfold F_M_leans_21_b at hB
    refine e_iload_n X dX12_leans_21 rfl rfl ?_
    refine e_aload_n X dX12_leans_22 rfl rfl ?_
    refine ge_M_m X wf_X12_7 dX12_leans_23 ?_
    refine e_iconst X 3 dX12_leans_26 rfl ?_
    refine e_iald X (j := 3) rfl rfl (vp_in_iff.mpr (by decide)) rfl dX12_leans_27 ?_
    refine e_icmp_ge X 63 dX12_leans_28 (by decide) (fun c4 => ?_) (fun c4 => ?_)
    · skip
      exact absurd (cntS hn) c4
    · skip
      refine e_aload_n X dX12_leans_31 rfl rfl ?_
      refine ge_M_thrown X wf_X12_51 dX12_leans_32 ?_
      refine e_if_ne X 63 dX12_leans_35 (by decide) (fun c5 => ?_) (fun c5 => ?_)
      · skip
        rw [if_neg c5] at hB
        have hy9 := Option.some.inj hB; change (.inr v2) = y9 at hy9; subst hy9
        have hz9 := Option.some.inj hF; change (v2) = z at hz9; subst hz9
        exact e_le hK (And.intro rfl (And.intro rfl (And.intro rfl (trivial))))
      · skip
        rw [if_pos c5] at hB
        refine e_iload_n X dX12_leans_38 rfl rfl ?_
        refine e_aload_n X dX12_leans_39 rfl rfl ?_
        refine e_iload_n X dX12_leans_40 rfl rfl ?_
        refine e_iload_n X dX12_leans_41 rfl rfl ?_
        obtain ⟨z6, h_z6, hB⟩ := obind_out hB
        refine e_callVi X (r := z6) (σ1 := σ) [.int v3, .int v1] [.int v2] (C_M_leads (Cx_gok X) σ v3 v1 h_z6) gv_X12_330 yk_X12_leads rfl (ent_lt (rfl : entTbl[333]? = some (13, 0))) (ent_at (rfl : entTbl[333]? = some (13, 0)) _) (rfl : vCl[11]? = some (RX12, TX12, 24)) ⟨Nat.le_of_ble_eq_true rfl, Nat.le_of_ble_eq_true rfl⟩ ⟨Nat.le_of_ble_eq_true rfl, Nat.le_of_ble_eq_true rfl⟩ (Nat.le_of_ble_eq_true rfl) dX12_leans_42 rfl ?_
        refine e_if_eq X 54 dX12_leans_45 (by decide) (fun c7 => ?_) (fun c7 => ?_)
        · skip
          rw [if_pos c7] at hB
          refine e_iconst X 0 dX12_leans_54 rfl ?_
          refine e_ior X dX12_leans_55 ?_
          obtain ⟨x8, h_x8, hB⟩ := bindT_out hB
          refine e_istore_n X h_x8 dX12_leans_56 rfl (by decide) ?_
          refine e_iinc X 1 dX12_leans_57 rfl rfl (by decide) ?_
          refine e_goto X 21 dX12_leans_60 (by decide) ?_
          have hy9 := Option.some.inj hB; change (.inl x8) = y9 at hy9; subst hy9
          exact e_le (ih _ x8 hF (cntN hn) (nnN h0 (cnt_hi hn)) hK) (And.intro rfl (And.intro rfl (And.intro rfl (And.intro rfl (trivial)))))
        · skip
          rw [if_neg c7] at hB
          refine e_iconst X 1 dX12_leans_48 rfl ?_
          refine e_iload_n X dX12_leans_49 rfl rfl ?_
          refine e_ishl X dX12_leans_50 ?_
          refine e_goto X 55 dX12_leans_51 (by decide) ?_
          refine e_ior X dX12_leans_55 ?_
          obtain ⟨x9, h_x9, hB⟩ := bindT_out hB
          refine e_istore_n X h_x9 dX12_leans_56 rfl (by decide) ?_
          refine e_iinc X 1 dX12_leans_57 rfl rfl (by decide) ?_
          refine e_goto X 21 dX12_leans_60 (by decide) ?_
          have hy9 := Option.some.inj hB; change (.inl x9) = y9 at hy9; subst hy9
          exact e_le (ih _ x9 hF (cntN hn) (nnN h0 (cnt_hi hn)) hK) (And.intro rfl (And.intro rfl (And.intro rfl (And.intro rfl (trivial)))))
set_option maxRecDepth 20000 in
set_option maxHeartbeats 4000000 in
theorem C_M_leans (hG : Gok l Γ D s0) (σ : Mem) (v1 : Int32)  {out : Mem × Int32} (hF : F_M_leans σ v1 = some out) : CT l Γ D s0 yX12_leans cX12_leans 4 (some .int) (2) 0 0 (46) σ [.ref (Γ.1 + 333), .int v1] (PI (some (.int out.2)) out.1) := by
  unfold F_M_leans at hF
  refine e_met (own := RX12) hG (by decide +kernel) rfl rfl (Nat.le_of_ble_eq_true rfl) ?_
  intro p e s m args below meth c X hr
  show E p l e _ s m args below meth c Γ D 0 0 _ σ 0 [some (.ref (Γ.1 + 333)), some (.int v1), none, none] []
  refine e_aload_n X dX12_leans_0 rfl rfl ?_
  refine e_aload_n X dX12_leans_1 rfl rfl ?_
  refine e_iload_n X dX12_leans_2 rfl rfl ?_
  obtain ⟨z1, h_z1, hF⟩ := obind_out hF
  refine e_callVi X (r := z1) (σ1 := σ) [.int v1] [.ref (Γ.1 + 333)] (C_M_isPerson (Cx_gok X) σ v1 h_z1) gv_X12_293 yk_X12_isPerson rfl (ent_lt (rfl : entTbl[333]? = some (13, 0))) (ent_at (rfl : entTbl[333]? = some (13, 0)) _) (rfl : vCl[11]? = some (RX12, TX12, 24)) ⟨Nat.le_of_ble_eq_true rfl, Nat.le_of_ble_eq_true rfl⟩ ⟨Nat.le_of_ble_eq_true rfl, Nat.le_of_ble_eq_true rfl⟩ (Nat.le_of_ble_eq_true rfl) dX12_leans_3 rfl ?_
  refine e_if_ne X 13 dX12_leans_6 (by decide) (fun c2 => ?_) (fun c2 => ?_)
  · skip
    rw [if_neg c2] at hF
    refine e_iconst X 0 dX12_leans_13 rfl ?_
    obtain ⟨σ3, h_σ3, hF⟩ := bindT_out hF
    refine pu_M_thrown X wf_X12_51 dX12_leans_14 h_σ3 ?_
    refine e_iconst X 0 dX12_leans_17 rfl ?_
    refine e_istore_n X rfl dX12_leans_18 rfl (by decide) ?_
    refine e_iconst X 0 dX12_leans_19 rfl ?_
    refine e_istore_n X rfl dX12_leans_20 rfl (by decide) ?_
    obtain ⟨z11, h_z11, hF⟩ := obind_out hF
    refine e_le (L_M_leans_21 X hr σ3 v1 _ 0 0 h_z11 rfl (by decide) ?_) (And.intro rfl (And.intro rfl (And.intro rfl (And.intro rfl (trivial)))))
    refine e_iload_n X dX12_leans_63 rfl rfl ?_
    exact e_iret X hr dX12_leans_64 (Nat.le_of_ble_eq_true rfl) (Nat.le_of_ble_eq_true rfl) (by cases hF; exact ⟨rfl, rfl⟩)
  · skip
    rw [if_pos c2] at hF
    refine e_iconst X 1 dX12_leans_9 rfl ?_
    refine e_goto X 14 dX12_leans_10 (by decide) ?_
    obtain ⟨σ12, h_σ12, hF⟩ := bindT_out hF
    refine pu_M_thrown X wf_X12_51 dX12_leans_14 h_σ12 ?_
    refine e_iconst X 0 dX12_leans_17 rfl ?_
    refine e_istore_n X rfl dX12_leans_18 rfl (by decide) ?_
    refine e_iconst X 0 dX12_leans_19 rfl ?_
    refine e_istore_n X rfl dX12_leans_20 rfl (by decide) ?_
    obtain ⟨z13, h_z13, hF⟩ := obind_out hF
    refine e_le (L_M_leans_21 X hr σ12 v1 _ 0 0 h_z13 rfl (by decide) ?_) (And.intro rfl (And.intro rfl (And.intro rfl (And.intro rfl (trivial)))))
    refine e_iload_n X dX12_leans_63 rfl rfl ?_
    exact e_iret X hr dX12_leans_64 (Nat.le_of_ble_eq_true rfl) (Nat.le_of_ble_eq_true rfl) (by cases hF; exact ⟨rfl, rfl⟩)
set_option maxRecDepth 20000 in
set_option maxHeartbeats 4000000 in
theorem C_M_ofAside (hG : Gok l Γ D s0) (σ : Mem) (v1 : Int32)  {out : Int32} (hF : F_M_ofAside σ v1 = some out) : CT l Γ D s0 yX12_ofAside cX12_ofAside 2 (some .int) (0) 0 0 (0) σ [.ref (Γ.1 + 333), .int v1] (PI (some (.int out)) σ) := by
  unfold F_M_ofAside at hF
  refine e_met (own := RX12) hG (by decide +kernel) rfl rfl (Nat.le_of_ble_eq_true rfl) ?_
  intro p e s m args below meth c X hr
  show E p l e _ s m args below meth c Γ D 0 0 _ σ 0 [some (.ref (Γ.1 + 333)), some (.int v1)] []
  refine e_aload_n X dX12_ofAside_0 rfl rfl ?_
  refine ge_M_aside X wf_X12_16 dX12_ofAside_1 ?_
  refine e_bipush X 110 dX12_ofAside_4 rfl ?_
  refine e_iconst X 5 dX12_ofAside_6 rfl ?_
  refine e_iload_n X dX12_ofAside_7 rfl rfl ?_
  refine e_imul X dX12_ofAside_8 ?_
  refine e_iadd X dX12_ofAside_9 ?_
  refine e_iconst X 2 dX12_ofAside_10 rfl ?_
  refine e_iadd X dX12_ofAside_11 ?_
  obtain ⟨i1, h_i1, hF⟩ := bindT_out hF
  obtain ⟨c2, hF⟩ := chk_out hF
  refine e_iald X (j := i1.toNatClampNeg) h_i1 rfl (inb_in c2) rfl dX12_ofAside_12 ?_
  exact e_iret X hr dX12_ofAside_13 (Nat.le_of_ble_eq_true rfl) (Nat.le_of_ble_eq_true rfl) (by cases hF; exact ⟨rfl, rfl⟩)
set_option maxRecDepth 20000 in
set_option maxHeartbeats 4000000 in
theorem C_M_by (hG : Gok l Γ D s0) (σ : Mem) (v1 : Int32) (v2 : Int32) (v3 : Int32)  {out : Mem} (hF : F_M_by σ v1 v2 v3 = some out) : CT l Γ D s0 yX12_by cX12_by 4 none (0) 0 0 (0) σ [.ref (Γ.1 + 333), .int v1, .int v2, .int v3] (PI none out) := by
  unfold F_M_by at hF
  refine e_met (own := RX12) hG (by decide +kernel) rfl rfl (Nat.le_of_ble_eq_true rfl) ?_
  intro p e s m args below meth c X hr
  show E p l e _ s m args below meth c Γ D 0 0 _ σ 0 [some (.ref (Γ.1 + 333)), some (.int v1), some (.int v2), some (.int v3)] []
  refine e_aload_n X dX12_by_0 rfl rfl ?_
  refine ge_M_turned X wf_X12_35 dX12_by_1 ?_
  refine e_iload_n X dX12_by_4 rfl rfl ?_
  refine e_iload_n X dX12_by_5 rfl rfl ?_
  refine e_aload_n X dX12_by_6 rfl rfl ?_
  refine ge_M_m X wf_X12_7 dX12_by_7 ?_
  refine e_iconst X 5 dX12_by_10 rfl ?_
  refine e_iald X (j := 5) rfl rfl (vp_in_iff.mpr (by decide)) rfl dX12_by_11 ?_
  refine e_icmp_ge X 21 dX12_by_12 (by decide) (fun c1 => ?_) (fun c1 => ?_)
  · skip
    rw [if_neg c1] at hF
    refine e_aload_n X dX12_by_21 rfl rfl ?_
    refine ge_M_gifts X wf_X12_32 dX12_by_22 ?_
    refine e_bipush X 100 dX12_by_25 rfl ?_
    refine e_iload_n X dX12_by_27 rfl rfl ?_
    refine e_iconst X 1 dX12_by_28 rfl ?_
    refine e_iadd X dX12_by_29 ?_
    refine e_imul X dX12_by_30 ?_
    refine e_iload_n X dX12_by_31 rfl rfl ?_
    refine e_iadd X dX12_by_32 ?_
    obtain ⟨i2, h_i2, hF⟩ := bindT_out hF
    obtain ⟨c3, hF⟩ := chk_out hF
    refine e_iald X (j := i2.toNatClampNeg) h_i2 rfl (inb_in c3) rfl dX12_by_33 ?_
    obtain ⟨c4, hF⟩ := chk_out hF
    obtain ⟨σ5, h_σ5, hF⟩ := bindT_out hF
    refine e_iast X (j := v2.toNatClampNeg) rfl rfl (inb_in c4) rfl dX12_by_34 h_σ5 ?_
    exact e_vret X hr dX12_by_35 (Nat.le_of_ble_eq_true rfl) (Nat.le_of_ble_eq_true rfl) (by cases hF; exact ⟨rfl, rfl⟩)
  · skip
    rw [if_pos c1] at hF
    refine e_ldcw X 2000000000 wk_X12_341 dX12_by_15 ?_
    refine e_goto X 34 dX12_by_18 (by decide) ?_
    obtain ⟨c6, hF⟩ := chk_out hF
    obtain ⟨σ7, h_σ7, hF⟩ := bindT_out hF
    refine e_iast X (j := v2.toNatClampNeg) rfl rfl (inb_in c6) rfl dX12_by_34 h_σ7 ?_
    exact e_vret X hr dX12_by_35 (Nat.le_of_ble_eq_true rfl) (Nat.le_of_ble_eq_true rfl) (by cases hF; exact ⟨rfl, rfl⟩)
set_option maxRecDepth 20000 in
set_option maxHeartbeats 4000000 in
theorem L_M_fewest_7 (X : Cx p l s m args meth c Γ D s0 RX12 cX12_fewest 6) (hr : meth.sig.returnType = (some .int)) (σ : Mem) (v1 : Int32) (v2 : Int32)  : ∀ (n : Nat) (v4 : Int32) (v3 : Int32) {z : Int32}, forSO (fun i s => F_M_fewest_7_b σ v1 v2 i s) n v4 v3 = some z → n = cle v4 20 → ¬ v4 < 0 → (E p l e ({ frames := 1, cells := 0, slots := 0, locals := 21 } : Room) s m args below meth c Γ D 0 0 (MQ below (QcA Γ D Pst) args s 0 0 (frB Γ)) σ 56 [some (.ref (Γ.1 + 333)), some (.int v1), some (.int v2), some (.int z), none, none] []) → E p l e ({ frames := 1, cells := 0, slots := 0, locals := 21 } : Room) s m args below meth c Γ D 0 0 (MQ below (QcA Γ D Pst) args s 0 0 (frB Γ)) σ 7 [some (.ref (Γ.1 + 333)), some (.int v1), some (.int v2), some (.int v3), some (.int v4), none] [] := by
  intro n
  induction n with
  | zero =>
    intro v4 v3 z hF hn h0 hK
    refine e_iload X dX12_fewest_7 rfl ?_
    refine e_bipush X 20 dX12_fewest_9 rfl ?_
    refine e_icmp_gt X 56 dX12_fewest_11 (by decide) (fun c7 => ?_) (fun c7 => ?_)
    · skip
      have hz9 := Option.some.inj hF; change (v3) = z at hz9; subst hz9
      exact e_le hK (And.intro rfl (And.intro rfl (And.intro rfl (And.intro rfl (trivial)))))
    · skip
      exact absurd (cle0 hn) c7
  | succ n ih =>
    intro v4 v3 z hF hn h0 hK
    obtain ⟨y9, hB, hF⟩ := forSO_step hF
    change F_M_fewest_7_b σ v1 v2 v4 v3 = some y9 at hB
    unfold F_M_fewest_7_b at hB
    refine e_iload X dX12_fewest_7 rfl ?_
    refine e_bipush X 20 dX12_fewest_9 rfl ?_
    refine e_icmp_gt X 56 dX12_fewest_11 (by decide) (fun c1 => ?_) (fun c1 => ?_)
    · skip
      exact absurd c1 (cleS hn)
    · skip
      refine e_aload_n X dX12_fewest_14 rfl rfl ?_
      refine ge_M_turned X wf_X12_35 dX12_fewest_15 ?_
      refine e_bipush X 99 dX12_fewest_18 rfl ?_
      refine e_iload_n X dX12_fewest_20 rfl rfl ?_
      refine e_iconst X 5 dX12_fewest_21 rfl ?_
      refine e_iload X dX12_fewest_22 rfl ?_
      refine e_imul X dX12_fewest_24 ?_
      refine e_iadd X dX12_fewest_25 ?_
      refine e_callSi X (r := (F_M_lesser σ 99 ((v2 + (5 * v4))))) (σ1 := σ) [.int 99, .int ((v2 + (5 * v4)))] [.ref (Γ.1 + 341)] (C_M_lesser (Cx_gok X) σ 99 ((v2 + (5 * v4)))) gs_X12_263 yk_X12_lesser rfl ⟨Nat.le_of_ble_eq_true rfl, Nat.le_of_ble_eq_true rfl⟩ ⟨Nat.le_of_ble_eq_true rfl, Nat.le_of_ble_eq_true rfl⟩ (Nat.le_of_ble_eq_true rfl) dX12_fewest_26 rfl ?_
      obtain ⟨i2, h_i2, hB⟩ := bindT_out hB
      obtain ⟨c3, hB⟩ := chk_out hB
      refine e_iald X (j := i2.toNatClampNeg) h_i2 rfl (inb_in c3) rfl dX12_fewest_29 ?_
      obtain ⟨x4, h_x4, hB⟩ := bindT_out hB
      refine e_istore X h_x4 dX12_fewest_30 (by decide) ?_
      refine e_iload X dX12_fewest_32 rfl ?_
      refine e_ldcw X 2000000000 wk_X12_341 dX12_fewest_34 ?_
      refine e_icmp_ge X 50 dX12_fewest_37 (by decide) (fun c5 => ?_) (fun c5 => ?_)
      · skip
        rw [if_neg c5] at hB
        refine e_iinc X 1 dX12_fewest_50 rfl rfl (by decide) ?_
        refine e_goto X 7 dX12_fewest_53 (by decide) ?_
        have hy9 := Option.some.inj hB; change (v3) = y9 at hy9; subst hy9
        exact e_le (ih _ v3 hF (cleN (by decide) hn) (nnN h0 (cle_hi (by decide) hn)) hK) (And.intro rfl (And.intro rfl (And.intro rfl (And.intro rfl (And.intro rfl (trivial))))))
      · skip
        rw [if_pos c5] at hB
        refine e_iload_n X dX12_fewest_40 rfl rfl ?_
        refine e_iload X dX12_fewest_41 rfl ?_
        refine e_iload X dX12_fewest_43 rfl ?_
        refine e_iadd X dX12_fewest_45 ?_
        refine e_callSi X (r := (F_M_lesser σ v3 ((v4 + x4)))) (σ1 := σ) [.int v3, .int ((v4 + x4))] [] (C_M_lesser (Cx_gok X) σ v3 ((v4 + x4))) gs_X12_263 yk_X12_lesser rfl ⟨Nat.le_of_ble_eq_true rfl, Nat.le_of_ble_eq_true rfl⟩ ⟨Nat.le_of_ble_eq_true rfl, Nat.le_of_ble_eq_true rfl⟩ (Nat.le_of_ble_eq_true rfl) dX12_fewest_46 rfl ?_
        obtain ⟨x6, h_x6, hB⟩ := bindT_out hB
        refine e_istore_n X h_x6 dX12_fewest_49 rfl (by decide) ?_
        refine e_iinc X 1 dX12_fewest_50 rfl rfl (by decide) ?_
        refine e_goto X 7 dX12_fewest_53 (by decide) ?_
        have hy9 := Option.some.inj hB; change (x6) = y9 at hy9; subst hy9
        exact e_le (ih _ x6 hF (cleN (by decide) hn) (nnN h0 (cle_hi (by decide) hn)) hK) (And.intro rfl (And.intro rfl (And.intro rfl (And.intro rfl (And.intro rfl (trivial))))))
set_option maxRecDepth 20000 in
set_option maxHeartbeats 4000000 in
theorem C_M_fewest (hG : Gok l Γ D s0) (σ : Mem) (v1 : Int32) (v2 : Int32)  {out : Int32} (hF : F_M_fewest σ v1 v2 = some out) : CT l Γ D s0 yX12_fewest cX12_fewest 6 (some .int) (1) 0 0 (21) σ [.ref (Γ.1 + 333), .int v1, .int v2] (PI (some (.int out)) σ) := by
  unfold F_M_fewest at hF
  refine e_met (own := RX12) hG (by decide +kernel) rfl rfl (Nat.le_of_ble_eq_true rfl) ?_
  intro p e s m args below meth c X hr
  show E p l e _ s m args below meth c Γ D 0 0 _ σ 0 [some (.ref (Γ.1 + 333)), some (.int v1), some (.int v2), none, none, none] []
  refine e_ldcw X 2000000000 wk_X12_341 dX12_fewest_0 ?_
  refine e_istore_n X rfl dX12_fewest_3 rfl (by decide) ?_
  refine e_iconst X 0 dX12_fewest_4 rfl ?_
  refine e_istore X rfl dX12_fewest_5 (by decide) ?_
  obtain ⟨z8, h_z8, hF⟩ := obind_out hF
  refine e_le (L_M_fewest_7 X hr σ v1 v2 _ 0 2000000000 h_z8 rfl (by decide) ?_) (And.intro rfl (And.intro rfl (And.intro rfl (And.intro rfl (And.intro rfl (trivial))))))
  refine e_iload_n X dX12_fewest_56 rfl rfl ?_
  exact e_iret X hr dX12_fewest_57 (Nat.le_of_ble_eq_true rfl) (Nat.le_of_ble_eq_true rfl) (by cases hF; exact ⟨rfl, rfl⟩)
set_option maxRecDepth 20000 in
set_option maxHeartbeats 4000000 in
theorem L_M_ratherOf_29 (X : Cx p l s m args meth c Γ D s0 RX12 cX12_ratherOf 5) (hr : meth.sig.returnType = (some .int)) (σ : Mem) (v1 : Int32) (v2 : Int32)  : ∀ (n : Nat) (v4 : Int32) (v3 : Int32) {z : Int32}, forSO (fun i s => F_M_ratherOf_29_b σ v1 v2 i s) n v4 v3 = some z → n = cnt v4 ((σ 334 3)) → ¬ v4 < 0 → (E p l e ({ frames := 2, cells := 0, slots := 0, locals := 44 } : Room) s m args below meth c Γ D 0 0 (MQ below (QcA Γ D Pst) args s 0 0 (frB Γ)) σ 74 [some (.ref (Γ.1 + 333)), some (.int v1), some (.int v2), some (.int z), none] []) → E p l e ({ frames := 2, cells := 0, slots := 0, locals := 44 } : Room) s m args below meth c Γ D 0 0 (MQ below (QcA Γ D Pst) args s 0 0 (frB Γ)) σ 29 [some (.ref (Γ.1 + 333)), some (.int v1), some (.int v2), some (.int v3), some (.int v4)] [] := by
  intro n
  induction n with
  | zero =>
    intro v4 v3 z hF hn h0 hK
    refine e_iload X dX12_ratherOf_29 rfl ?_
    refine e_aload_n X dX12_ratherOf_31 rfl rfl ?_
    refine ge_M_m X wf_X12_7 dX12_ratherOf_32 ?_
    refine e_iconst X 3 dX12_ratherOf_35 rfl ?_
    refine e_iald X (j := 3) rfl rfl (vp_in_iff.mpr (by decide)) rfl dX12_ratherOf_36 ?_
    refine e_icmp_ge X 74 dX12_ratherOf_37 (by decide) (fun c12 => ?_) (fun c12 => ?_)
    · skip
      have hz9 := Option.some.inj hF; change (v3) = z at hz9; subst hz9
      exact e_le hK (And.intro rfl (And.intro rfl (And.intro rfl (And.intro rfl (trivial)))))
    · skip
      exact absurd c12 (cnt0 hn)
  | succ n ih =>
    intro v4 v3 z hF hn h0 hK
    obtain ⟨y9, hB, hF⟩ := forSO_step hF
    change F_M_ratherOf_29_b σ v1 v2 v4 v3 = some y9 at hB
    unfold F_M_ratherOf_29_b at hB
    refine e_iload X dX12_ratherOf_29 rfl ?_
    refine e_aload_n X dX12_ratherOf_31 rfl rfl ?_
    refine ge_M_m X wf_X12_7 dX12_ratherOf_32 ?_
    refine e_iconst X 3 dX12_ratherOf_35 rfl ?_
    refine e_iald X (j := 3) rfl rfl (vp_in_iff.mpr (by decide)) rfl dX12_ratherOf_36 ?_
    refine e_icmp_ge X 74 dX12_ratherOf_37 (by decide) (fun c5 => ?_) (fun c5 => ?_)
    · skip
      exact absurd (cntS hn) c5
    · skip
      refine e_iload_n X dX12_ratherOf_40 rfl rfl ?_
      refine e_iload X dX12_ratherOf_41 rfl ?_
      refine e_iload_n X dX12_ratherOf_43 rfl rfl ?_
      refine e_icmp_eq X 65 dX12_ratherOf_44 (by decide) (fun c6 => ?_) (fun c6 => ?_)
      · skip
        rw [if_pos c6] at hB
        refine e_iconst X 0 dX12_ratherOf_65 rfl ?_
        refine e_ior X dX12_ratherOf_66 ?_
        obtain ⟨x7, h_x7, hB⟩ := bindT_out hB
        refine e_istore_n X h_x7 dX12_ratherOf_67 rfl (by decide) ?_
        refine e_iinc X 1 dX12_ratherOf_68 rfl rfl (by decide) ?_
        refine e_goto X 29 dX12_ratherOf_71 (by decide) ?_
        have hy9 := Option.some.inj hB; change (x7) = y9 at hy9; subst hy9
        exact e_le (ih _ x7 hF (cntN hn) (nnN h0 (cnt_hi hn)) hK) (And.intro rfl (And.intro rfl (And.intro rfl (And.intro rfl (And.intro rfl (trivial))))))
      · skip
        rw [if_neg c6] at hB
        refine e_aload_n X dX12_ratherOf_47 rfl rfl ?_
        refine e_iload_n X dX12_ratherOf_48 rfl rfl ?_
        refine e_iload X dX12_ratherOf_49 rfl ?_
        obtain ⟨z8, h_z8, hB⟩ := obind_out hB
        refine e_callVi X (r := z8) (σ1 := σ) [.int v1, .int v4] [.int v3] (C_M_likes (Cx_gok X) σ v1 v4 h_z8) gv_X12_258 yk_X12_likes rfl (ent_lt (rfl : entTbl[333]? = some (13, 0))) (ent_at (rfl : entTbl[333]? = some (13, 0)) _) (rfl : vCl[11]? = some (RX12, TX12, 24)) ⟨Nat.le_of_ble_eq_true rfl, Nat.le_of_ble_eq_true rfl⟩ ⟨Nat.le_of_ble_eq_true rfl, Nat.le_of_ble_eq_true rfl⟩ (Nat.le_of_ble_eq_true rfl) dX12_ratherOf_51 rfl ?_
        refine e_iload_n X dX12_ratherOf_54 rfl rfl ?_
        refine e_icmp_le X 65 dX12_ratherOf_55 (by decide) (fun c9 => ?_) (fun c9 => ?_)
        · skip
          rw [if_neg c9] at hB
          refine e_iconst X 0 dX12_ratherOf_65 rfl ?_
          refine e_ior X dX12_ratherOf_66 ?_
          obtain ⟨x10, h_x10, hB⟩ := bindT_out hB
          refine e_istore_n X h_x10 dX12_ratherOf_67 rfl (by decide) ?_
          refine e_iinc X 1 dX12_ratherOf_68 rfl rfl (by decide) ?_
          refine e_goto X 29 dX12_ratherOf_71 (by decide) ?_
          have hy9 := Option.some.inj hB; change (x10) = y9 at hy9; subst hy9
          exact e_le (ih _ x10 hF (cntN hn) (nnN h0 (cnt_hi hn)) hK) (And.intro rfl (And.intro rfl (And.intro rfl (And.intro rfl (And.intro rfl (trivial))))))
        · skip
          rw [if_pos c9] at hB
          refine e_iconst X 1 dX12_ratherOf_58 rfl ?_
          refine e_iload X dX12_ratherOf_59 rfl ?_
          refine e_ishl X dX12_ratherOf_61 ?_
          refine e_goto X 66 dX12_ratherOf_62 (by decide) ?_
          refine e_ior X dX12_ratherOf_66 ?_
          obtain ⟨x11, h_x11, hB⟩ := bindT_out hB
          refine e_istore_n X h_x11 dX12_ratherOf_67 rfl (by decide) ?_
          refine e_iinc X 1 dX12_ratherOf_68 rfl rfl (by decide) ?_
          refine e_goto X 29 dX12_ratherOf_71 (by decide) ?_
          have hy9 := Option.some.inj hB; change (x11) = y9 at hy9; subst hy9
          exact e_le (ih _ x11 hF (cntN hn) (nnN h0 (cnt_hi hn)) hK) (And.intro rfl (And.intro rfl (And.intro rfl (And.intro rfl (And.intro rfl (trivial))))))
set_option maxRecDepth 20000 in
set_option maxHeartbeats 4000000 in
theorem C_M_ratherOf (hG : Gok l Γ D s0) (σ : Mem) (v1 : Int32)  {out : Int32} (hF : F_M_ratherOf σ v1 = some out) : CT l Γ D s0 yX12_ratherOf cX12_ratherOf 5 (some .int) (2) 0 0 (44) σ [.ref (Γ.1 + 333), .int v1] (PI (some (.int out)) σ) := by
  unfold F_M_ratherOf at hF
  refine e_met (own := RX12) hG (by decide +kernel) rfl rfl (Nat.le_of_ble_eq_true rfl) ?_
  intro p e s m args below meth c X hr
  show E p l e _ s m args below meth c Γ D 0 0 _ σ 0 [some (.ref (Γ.1 + 333)), some (.int v1), none, none, none] []
  refine e_aload_n X dX12_ratherOf_0 rfl rfl ?_
  refine e_iload_n X dX12_ratherOf_1 rfl rfl ?_
  obtain ⟨z1, h_z1, hF⟩ := obind_out hF
  refine e_callVi X (r := z1) (σ1 := σ) [.int v1] [] (C_M_wedTo (Cx_gok X) σ v1 h_z1) gv_X12_121 yk_X12_wedTo rfl (ent_lt (rfl : entTbl[333]? = some (13, 0))) (ent_at (rfl : entTbl[333]? = some (13, 0)) _) (rfl : vCl[11]? = some (RX12, TX12, 24)) ⟨Nat.le_of_ble_eq_true rfl, Nat.le_of_ble_eq_true rfl⟩ ⟨Nat.le_of_ble_eq_true rfl, Nat.le_of_ble_eq_true rfl⟩ (Nat.le_of_ble_eq_true rfl) dX12_ratherOf_2 rfl ?_
  refine e_iconst X (-1) dX12_ratherOf_5 rfl ?_
  refine e_icmp_ne X 13 dX12_ratherOf_6 (by decide) (fun c2 => ?_) (fun c2 => ?_)
  · skip
    rw [if_neg c2] at hF
    refine e_aload_n X dX12_ratherOf_13 rfl rfl ?_
    refine e_iload_n X dX12_ratherOf_14 rfl rfl ?_
    refine e_aload_n X dX12_ratherOf_15 rfl rfl ?_
    refine e_iload_n X dX12_ratherOf_16 rfl rfl ?_
    obtain ⟨z3, h_z3, hF⟩ := obind_out hF
    refine e_callVi X (r := z3) (σ1 := σ) [.int v1] [.int v1, .ref (Γ.1 + 333)] (C_M_wedTo (Cx_gok X) σ v1 h_z3) gv_X12_121 yk_X12_wedTo rfl (ent_lt (rfl : entTbl[333]? = some (13, 0))) (ent_at (rfl : entTbl[333]? = some (13, 0)) _) (rfl : vCl[11]? = some (RX12, TX12, 24)) ⟨Nat.le_of_ble_eq_true rfl, Nat.le_of_ble_eq_true rfl⟩ ⟨Nat.le_of_ble_eq_true rfl, Nat.le_of_ble_eq_true rfl⟩ (Nat.le_of_ble_eq_true rfl) dX12_ratherOf_17 rfl ?_
    obtain ⟨z4, h_z4, hF⟩ := obind_out hF
    refine e_callVi X (r := z4) (σ1 := σ) [.int v1, .int z3] [] (C_M_likes (Cx_gok X) σ v1 z3 h_z4) gv_X12_258 yk_X12_likes rfl (ent_lt (rfl : entTbl[333]? = some (13, 0))) (ent_at (rfl : entTbl[333]? = some (13, 0)) _) (rfl : vCl[11]? = some (RX12, TX12, 24)) ⟨Nat.le_of_ble_eq_true rfl, Nat.le_of_ble_eq_true rfl⟩ ⟨Nat.le_of_ble_eq_true rfl, Nat.le_of_ble_eq_true rfl⟩ (Nat.le_of_ble_eq_true rfl) dX12_ratherOf_20 rfl ?_
    refine e_istore_n X rfl dX12_ratherOf_23 rfl (by decide) ?_
    refine e_iconst X 0 dX12_ratherOf_24 rfl ?_
    refine e_istore_n X rfl dX12_ratherOf_25 rfl (by decide) ?_
    refine e_iconst X 0 dX12_ratherOf_26 rfl ?_
    refine e_istore X rfl dX12_ratherOf_27 (by decide) ?_
    obtain ⟨z13, h_z13, hF⟩ := obind_out hF
    refine e_le (L_M_ratherOf_29 X hr σ v1 z4 _ 0 0 h_z13 rfl (by decide) ?_) (And.intro rfl (And.intro rfl (And.intro rfl (And.intro rfl (And.intro rfl (trivial))))))
    refine e_iload_n X dX12_ratherOf_74 rfl rfl ?_
    exact e_iret X hr dX12_ratherOf_75 (Nat.le_of_ble_eq_true rfl) (Nat.le_of_ble_eq_true rfl) (by cases hF; exact ⟨rfl, rfl⟩)
  · skip
    rw [if_pos c2] at hF
    refine e_iconst X 0 dX12_ratherOf_9 rfl ?_
    refine e_goto X 23 dX12_ratherOf_10 (by decide) ?_
    refine e_istore_n X rfl dX12_ratherOf_23 rfl (by decide) ?_
    refine e_iconst X 0 dX12_ratherOf_24 rfl ?_
    refine e_istore_n X rfl dX12_ratherOf_25 rfl (by decide) ?_
    refine e_iconst X 0 dX12_ratherOf_26 rfl ?_
    refine e_istore X rfl dX12_ratherOf_27 (by decide) ?_
    obtain ⟨z14, h_z14, hF⟩ := obind_out hF
    refine e_le (L_M_ratherOf_29 X hr σ v1 0 _ 0 0 h_z14 rfl (by decide) ?_) (And.intro rfl (And.intro rfl (And.intro rfl (And.intro rfl (And.intro rfl (trivial))))))
    refine e_iload_n X dX12_ratherOf_74 rfl rfl ?_
    exact e_iret X hr dX12_ratherOf_75 (Nat.le_of_ble_eq_true rfl) (Nat.le_of_ble_eq_true rfl) (by cases hF; exact ⟨rfl, rfl⟩)
set_option maxRecDepth 20000 in
set_option maxHeartbeats 4000000 in
theorem C_M_rather (hG : Gok l Γ D s0) (σ : Mem) (v1 : Int32)  {out : Mem × Int32} (hF : F_M_rather σ v1 = some out) : CT l Γ D s0 yX12_rather cX12_rather 2 (some .int) (3) 0 0 (68) σ [.ref (Γ.1 + 333), .int v1] (PI (some (.int out.2)) out.1) := by
  unfold F_M_rather at hF
  refine e_met (own := RX12) hG (by decide +kernel) rfl rfl (Nat.le_of_ble_eq_true rfl) ?_
  intro p e s m args below meth c X hr
  show E p l e _ s m args below meth c Γ D 0 0 _ σ 0 [some (.ref (Γ.1 + 333)), some (.int v1)] []
  refine e_aload_n X dX12_rather_0 rfl rfl ?_
  refine e_aload_n X dX12_rather_1 rfl rfl ?_
  refine e_iload_n X dX12_rather_2 rfl rfl ?_
  obtain ⟨z1, h_z1, hF⟩ := obind_out hF
  refine e_callVi X (r := z1) (σ1 := σ) [.int v1] [.ref (Γ.1 + 333)] (C_M_isPerson (Cx_gok X) σ v1 h_z1) gv_X12_293 yk_X12_isPerson rfl (ent_lt (rfl : entTbl[333]? = some (13, 0))) (ent_at (rfl : entTbl[333]? = some (13, 0)) _) (rfl : vCl[11]? = some (RX12, TX12, 24)) ⟨Nat.le_of_ble_eq_true rfl, Nat.le_of_ble_eq_true rfl⟩ ⟨Nat.le_of_ble_eq_true rfl, Nat.le_of_ble_eq_true rfl⟩ (Nat.le_of_ble_eq_true rfl) dX12_rather_3 rfl ?_
  refine e_if_ne X 13 dX12_rather_6 (by decide) (fun c2 => ?_) (fun c2 => ?_)
  · skip
    rw [if_neg c2] at hF
    refine e_iconst X 0 dX12_rather_13 rfl ?_
    obtain ⟨σ3, h_σ3, hF⟩ := bindT_out hF
    refine pu_M_thrown X wf_X12_51 dX12_rather_14 h_σ3 ?_
    refine e_aload_n X dX12_rather_17 rfl rfl ?_
    refine ge_M_thrown X wf_X12_51 dX12_rather_18 ?_
    refine e_if_le X 28 dX12_rather_21 (by decide) (fun c4 => ?_) (fun c4 => ?_)
    · skip
      rw [if_neg c4] at hF
      refine e_aload_n X dX12_rather_28 rfl rfl ?_
      refine e_iload_n X dX12_rather_29 rfl rfl ?_
      obtain ⟨z5, h_z5, hF⟩ := obind_out hF
      refine e_callVi X (r := z5) (σ1 := σ3) [.int v1] [] (C_M_ratherOf (Cx_gok X) σ3 v1 h_z5) gv_X12_342 yk_X12_ratherOf rfl (ent_lt (rfl : entTbl[333]? = some (13, 0))) (ent_at (rfl : entTbl[333]? = some (13, 0)) _) (rfl : vCl[11]? = some (RX12, TX12, 24)) ⟨Nat.le_of_ble_eq_true rfl, Nat.le_of_ble_eq_true rfl⟩ ⟨Nat.le_of_ble_eq_true rfl, Nat.le_of_ble_eq_true rfl⟩ (Nat.le_of_ble_eq_true rfl) dX12_rather_30 rfl ?_
      exact e_iret X hr dX12_rather_33 (Nat.le_of_ble_eq_true rfl) (Nat.le_of_ble_eq_true rfl) (by cases hF; exact ⟨rfl, rfl⟩)
    · skip
      rw [if_pos c4] at hF
      refine e_iconst X 0 dX12_rather_24 rfl ?_
      refine e_goto X 33 dX12_rather_25 (by decide) ?_
      exact e_iret X hr dX12_rather_33 (Nat.le_of_ble_eq_true rfl) (Nat.le_of_ble_eq_true rfl) (by cases hF; exact ⟨rfl, rfl⟩)
  · skip
    rw [if_pos c2] at hF
    refine e_iconst X 1 dX12_rather_9 rfl ?_
    refine e_goto X 14 dX12_rather_10 (by decide) ?_
    obtain ⟨σ6, h_σ6, hF⟩ := bindT_out hF
    refine pu_M_thrown X wf_X12_51 dX12_rather_14 h_σ6 ?_
    refine e_aload_n X dX12_rather_17 rfl rfl ?_
    refine ge_M_thrown X wf_X12_51 dX12_rather_18 ?_
    refine e_if_le X 28 dX12_rather_21 (by decide) (fun c7 => ?_) (fun c7 => ?_)
    · skip
      rw [if_neg c7] at hF
      refine e_aload_n X dX12_rather_28 rfl rfl ?_
      refine e_iload_n X dX12_rather_29 rfl rfl ?_
      obtain ⟨z8, h_z8, hF⟩ := obind_out hF
      refine e_callVi X (r := z8) (σ1 := σ6) [.int v1] [] (C_M_ratherOf (Cx_gok X) σ6 v1 h_z8) gv_X12_342 yk_X12_ratherOf rfl (ent_lt (rfl : entTbl[333]? = some (13, 0))) (ent_at (rfl : entTbl[333]? = some (13, 0)) _) (rfl : vCl[11]? = some (RX12, TX12, 24)) ⟨Nat.le_of_ble_eq_true rfl, Nat.le_of_ble_eq_true rfl⟩ ⟨Nat.le_of_ble_eq_true rfl, Nat.le_of_ble_eq_true rfl⟩ (Nat.le_of_ble_eq_true rfl) dX12_rather_30 rfl ?_
      exact e_iret X hr dX12_rather_33 (Nat.le_of_ble_eq_true rfl) (Nat.le_of_ble_eq_true rfl) (by cases hF; exact ⟨rfl, rfl⟩)
    · skip
      rw [if_pos c7] at hF
      refine e_iconst X 0 dX12_rather_24 rfl ?_
      refine e_goto X 33 dX12_rather_25 (by decide) ?_
      exact e_iret X hr dX12_rather_33 (Nat.le_of_ble_eq_true rfl) (Nat.le_of_ble_eq_true rfl) (by cases hF; exact ⟨rfl, rfl⟩)
set_option maxRecDepth 20000 in
set_option maxHeartbeats 4000000 in
theorem L_M_lovers_29 (X : Cx p l s m args meth c Γ D s0 RX12 cX12_lovers 6) (hr : meth.sig.returnType = (some .int)) (σ : Mem) (v1 : Int32) (v4 : Int32)  : ∀ (n : Nat) (v5 : Int32) (v2 : Int32) (v3 : Int32) {z : Int32 × Int32}, forSO (fun i s => F_M_lovers_29_b σ v1 v4 i s.1 s.2) n v5 (v2, v3) = some z → n = cnt v5 ((σ 334 3)) → (E p l e ({ frames := 3, cells := 0, slots := 0, locals := 68 } : Room) s m args below meth c Γ D 0 0 (MQ below (QcA Γ D Pst) args s 0 0 (frB Γ)) σ 112 [some (.ref (Γ.1 + 333)), some (.int v1), some (.int z.1), some (.int z.2), some (.int v4), none] []) → E p l e ({ frames := 3, cells := 0, slots := 0, locals := 68 } : Room) s m args below meth c Γ D 0 0 (MQ below (QcA Γ D Pst) args s 0 0 (frB Γ)) σ 29 [some (.ref (Γ.1 + 333)), some (.int v1), some (.int v2), some (.int v3), some (.int v4), some (.int v5)] [] := by
  intro n
  induction n with
  | zero =>
    intro v5 v2 v3 z hF hn hK
    refine e_iload X dX12_lovers_29 rfl ?_
    refine e_aload_n X dX12_lovers_31 rfl rfl ?_
    refine ge_M_m X wf_X12_7 dX12_lovers_32 ?_
    refine e_iconst X 3 dX12_lovers_35 rfl ?_
    refine e_iald X (j := 3) rfl rfl (vp_in_iff.mpr (by decide)) rfl dX12_lovers_36 ?_
    refine e_icmp_ge X 112 dX12_lovers_37 (by decide) (fun c15 => ?_) (fun c15 => ?_)
    · skip
      have hz9 := Option.some.inj hF; change ((v2, v3)) = z at hz9; subst hz9
      exact e_le hK (And.intro rfl (And.intro rfl (And.intro rfl (And.intro rfl (And.intro rfl (trivial))))))
    · skip
      exact absurd c15 (cnt0 hn)
  | succ n ih =>
    intro v5 v2 v3 z hF hn hK
    obtain ⟨y9, hB, hF⟩ := forSO_step hF
    change F_M_lovers_29_b σ v1 v4 v5 v2 v3 = some y9 at hB
    unfold F_M_lovers_29_b at hB
    refine e_iload X dX12_lovers_29 rfl ?_
    refine e_aload_n X dX12_lovers_31 rfl rfl ?_
    refine ge_M_m X wf_X12_7 dX12_lovers_32 ?_
    refine e_iconst X 3 dX12_lovers_35 rfl ?_
    refine e_iald X (j := 3) rfl rfl (vp_in_iff.mpr (by decide)) rfl dX12_lovers_36 ?_
    refine e_icmp_ge X 112 dX12_lovers_37 (by decide) (fun c4 => ?_) (fun c4 => ?_)
    · skip
      exact absurd (cntS hn) c4
    · skip
      refine e_aload_n X dX12_lovers_40 rfl rfl ?_
      refine e_iload X dX12_lovers_41 rfl ?_
      obtain ⟨z5, h_z5, hB⟩ := obind_out hB
      refine e_callVi X (r := z5) (σ1 := σ) [.int v4] [] (C_M_ratherOf (Cx_gok X) σ v4 h_z5) gv_X12_342 yk_X12_ratherOf rfl (ent_lt (rfl : entTbl[333]? = some (13, 0))) (ent_at (rfl : entTbl[333]? = some (13, 0)) _) (rfl : vCl[11]? = some (RX12, TX12, 24)) ⟨Nat.le_of_ble_eq_true rfl, Nat.le_of_ble_eq_true rfl⟩ ⟨Nat.le_of_ble_eq_true rfl, Nat.le_of_ble_eq_true rfl⟩ (Nat.le_of_ble_eq_true rfl) dX12_lovers_43 rfl ?_
      refine e_iload X dX12_lovers_46 rfl ?_
      refine e_callSi X (r := (F_M_isOf σ z5 v5)) (σ1 := σ) [.int z5, .int v5] [] (C_M_isOf (Cx_gok X) σ z5 v5) gs_X12_65 yk_X12_isOf rfl ⟨Nat.le_of_ble_eq_true rfl, Nat.le_of_ble_eq_true rfl⟩ ⟨Nat.le_of_ble_eq_true rfl, Nat.le_of_ble_eq_true rfl⟩ (Nat.le_of_ble_eq_true rfl) dX12_lovers_48 rfl ?_
      refine e_if_eq X 106 dX12_lovers_51 (by decide) (fun c6 => ?_) (fun c6 => ?_)
      · skip
        rw [if_pos c6] at hB
        refine e_iinc X 1 dX12_lovers_106 rfl rfl (by decide) ?_
        refine e_goto X 29 dX12_lovers_109 (by decide) ?_
        have hy9 := Option.some.inj hB; change ((v2, v3)) = y9 at hy9; subst hy9
        exact e_le (ih _ v2 v3 hF (cntN hn) hK) (And.intro rfl (And.intro rfl (And.intro rfl (And.intro rfl (And.intro rfl (And.intro rfl (trivial)))))))
      · skip
        rw [if_neg c6] at hB
        refine e_aload_n X dX12_lovers_54 rfl rfl ?_
        refine e_iload X dX12_lovers_55 rfl ?_
        obtain ⟨z7, h_z7, hB⟩ := obind_out hB
        refine e_callVi X (r := z7) (σ1 := σ) [.int v5] [] (C_M_ratherOf (Cx_gok X) σ v5 h_z7) gv_X12_342 yk_X12_ratherOf rfl (ent_lt (rfl : entTbl[333]? = some (13, 0))) (ent_at (rfl : entTbl[333]? = some (13, 0)) _) (rfl : vCl[11]? = some (RX12, TX12, 24)) ⟨Nat.le_of_ble_eq_true rfl, Nat.le_of_ble_eq_true rfl⟩ ⟨Nat.le_of_ble_eq_true rfl, Nat.le_of_ble_eq_true rfl⟩ (Nat.le_of_ble_eq_true rfl) dX12_lovers_57 rfl ?_
        refine e_iload X dX12_lovers_60 rfl ?_
        refine e_callSi X (r := (F_M_isOf σ z7 v4)) (σ1 := σ) [.int z7, .int v4] [] (C_M_isOf (Cx_gok X) σ z7 v4) gs_X12_65 yk_X12_isOf rfl ⟨Nat.le_of_ble_eq_true rfl, Nat.le_of_ble_eq_true rfl⟩ ⟨Nat.le_of_ble_eq_true rfl, Nat.le_of_ble_eq_true rfl⟩ (Nat.le_of_ble_eq_true rfl) dX12_lovers_62 rfl ?_
        refine e_if_eq X 106 dX12_lovers_65 (by decide) (fun c8 => ?_) (fun c8 => ?_)
        · skip
          rw [if_pos c8] at hB
          refine e_iinc X 1 dX12_lovers_106 rfl rfl (by decide) ?_
          refine e_goto X 29 dX12_lovers_109 (by decide) ?_
          have hy9 := Option.some.inj hB; change ((v2, v3)) = y9 at hy9; subst hy9
          exact e_le (ih _ v2 v3 hF (cntN hn) hK) (And.intro rfl (And.intro rfl (And.intro rfl (And.intro rfl (And.intro rfl (And.intro rfl (trivial)))))))
        · skip
          rw [if_neg c8] at hB
          refine e_aload_n X dX12_lovers_68 rfl rfl ?_
          refine e_iload X dX12_lovers_69 rfl ?_
          refine e_iconst X 3 dX12_lovers_71 rfl ?_
          obtain ⟨z9, h_z9, hB⟩ := obind_out hB
          refine e_callVi X (r := z9) (σ1 := σ) [.int v4, .int 3] [] (C_M_of (Cx_gok X) σ v4 3 h_z9) gv_X12_62 yk_X12_of rfl (ent_lt (rfl : entTbl[333]? = some (13, 0))) (ent_at (rfl : entTbl[333]? = some (13, 0)) _) (rfl : vCl[11]? = some (RX12, TX12, 24)) ⟨Nat.le_of_ble_eq_true rfl, Nat.le_of_ble_eq_true rfl⟩ ⟨Nat.le_of_ble_eq_true rfl, Nat.le_of_ble_eq_true rfl⟩ (Nat.le_of_ble_eq_true rfl) dX12_lovers_72 rfl ?_
          refine e_aload_n X dX12_lovers_75 rfl rfl ?_
          refine e_iload X dX12_lovers_76 rfl ?_
          refine e_iconst X 3 dX12_lovers_78 rfl ?_
          obtain ⟨z10, h_z10, hB⟩ := obind_out hB
          refine e_callVi X (r := z10) (σ1 := σ) [.int v5, .int 3] [.int z9] (C_M_of (Cx_gok X) σ v5 3 h_z10) gv_X12_62 yk_X12_of rfl (ent_lt (rfl : entTbl[333]? = some (13, 0))) (ent_at (rfl : entTbl[333]? = some (13, 0)) _) (rfl : vCl[11]? = some (RX12, TX12, 24)) ⟨Nat.le_of_ble_eq_true rfl, Nat.le_of_ble_eq_true rfl⟩ ⟨Nat.le_of_ble_eq_true rfl, Nat.le_of_ble_eq_true rfl⟩ (Nat.le_of_ble_eq_true rfl) dX12_lovers_79 rfl ?_
          refine e_iadd X dX12_lovers_82 ?_
          refine e_if_le X 89 dX12_lovers_83 (by decide) (fun c11 => ?_) (fun c11 => ?_)
          · skip
            rw [if_neg c11] at hB
            refine e_iinc X 1 dX12_lovers_89 rfl rfl (by decide) ?_
            obtain ⟨x12, h_x12, hB⟩ := bindT_out hB
            rw [← h_x12]
            refine e_iload_n X dX12_lovers_92 rfl rfl ?_
            refine e_iconst X (-1) dX12_lovers_93 rfl ?_
            refine e_icmp_ne X 106 dX12_lovers_94 (by decide) (fun c13 => ?_) (fun c13 => ?_)
            · skip
              rw [if_neg c13] at hB
              refine e_iinc X 1 dX12_lovers_106 rfl rfl (by decide) ?_
              refine e_goto X 29 dX12_lovers_109 (by decide) ?_
              have hy9 := Option.some.inj hB; change ((x12, v3)) = y9 at hy9; subst hy9
              exact e_le (ih _ x12 v3 hF (cntN hn) hK) (And.intro rfl (And.intro rfl (And.intro rfl (And.intro rfl (And.intro rfl (And.intro rfl (trivial)))))))
            · skip
              rw [if_pos c13] at hB
              refine e_bipush X 10 dX12_lovers_97 rfl ?_
              refine e_iload X dX12_lovers_99 rfl ?_
              refine e_imul X dX12_lovers_101 ?_
              refine e_iload X dX12_lovers_102 rfl ?_
              refine e_iadd X dX12_lovers_104 ?_
              obtain ⟨x14, h_x14, hB⟩ := bindT_out hB
              refine e_istore_n X h_x14 dX12_lovers_105 rfl (by decide) ?_
              refine e_iinc X 1 dX12_lovers_106 rfl rfl (by decide) ?_
              refine e_goto X 29 dX12_lovers_109 (by decide) ?_
              have hy9 := Option.some.inj hB; change ((x12, x14)) = y9 at hy9; subst hy9
              exact e_le (ih _ x12 x14 hF (cntN hn) hK) (And.intro rfl (And.intro rfl (And.intro rfl (And.intro rfl (And.intro rfl (And.intro rfl (trivial)))))))
          · skip
            rw [if_pos c11] at hB
            refine e_goto X 106 dX12_lovers_86 (by decide) ?_
            refine e_iinc X 1 dX12_lovers_106 rfl rfl (by decide) ?_
            refine e_goto X 29 dX12_lovers_109 (by decide) ?_
            have hy9 := Option.some.inj hB; change ((v2, v3)) = y9 at hy9; subst hy9
            exact e_le (ih _ v2 v3 hF (cntN hn) hK) (And.intro rfl (And.intro rfl (And.intro rfl (And.intro rfl (And.intro rfl (And.intro rfl (trivial)))))))
set_option maxRecDepth 20000 in
set_option maxHeartbeats 4000000 in
theorem L_M_lovers_12 (X : Cx p l s m args meth c Γ D s0 RX12 cX12_lovers 6) (hr : meth.sig.returnType = (some .int)) (σ : Mem) (v1 : Int32)  : ∀ (n : Nat) (v4 : Int32) (v2 : Int32) (v3 : Int32) {z : Int32 × Int32}, forSO (fun i s => F_M_lovers_12_b σ v1 i s.1 s.2) n v4 (v2, v3) = some z → n = cnt v4 ((σ 334 3)) → ¬ v4 < 0 → (E p l e ({ frames := 3, cells := 0, slots := 0, locals := 68 } : Room) s m args below meth c Γ D 0 0 (MQ below (QcA Γ D Pst) args s 0 0 (frB Γ)) σ 118 [some (.ref (Γ.1 + 333)), some (.int v1), some (.int z.1), some (.int z.2), none, none] []) → E p l e ({ frames := 3, cells := 0, slots := 0, locals := 68 } : Room) s m args below meth c Γ D 0 0 (MQ below (QcA Γ D Pst) args s 0 0 (frB Γ)) σ 12 [some (.ref (Γ.1 + 333)), some (.int v1), some (.int v2), some (.int v3), some (.int v4), none] [] := by
  intro n
  induction n with
  | zero =>
    intro v4 v2 v3 z hF hn h0 hK
    refine e_iload X dX12_lovers_12 rfl ?_
    refine e_aload_n X dX12_lovers_14 rfl rfl ?_
    refine ge_M_m X wf_X12_7 dX12_lovers_15 ?_
    refine e_iconst X 3 dX12_lovers_18 rfl ?_
    refine e_iald X (j := 3) rfl rfl (vp_in_iff.mpr (by decide)) rfl dX12_lovers_19 ?_
    refine e_icmp_ge X 118 dX12_lovers_20 (by decide) (fun c17 => ?_) (fun c17 => ?_)
    · skip
      have hz9 := Option.some.inj hF; change ((v2, v3)) = z at hz9; subst hz9
      exact e_le hK (And.intro rfl (And.intro rfl (And.intro rfl (And.intro rfl (trivial)))))
    · skip
      exact absurd c17 (cnt0 hn)
  | succ n ih =>
    intro v4 v2 v3 z hF hn h0 hK
    obtain ⟨y9, hB, hF⟩ := forSO_step hF
    change F_M_lovers_12_b σ v1 v4 v2 v3 = some y9 at hB
    unfold F_M_lovers_12_b at hB
    refine e_iload X dX12_lovers_12 rfl ?_
    refine e_aload_n X dX12_lovers_14 rfl rfl ?_
    refine ge_M_m X wf_X12_7 dX12_lovers_15 ?_
    refine e_iconst X 3 dX12_lovers_18 rfl ?_
    refine e_iald X (j := 3) rfl rfl (vp_in_iff.mpr (by decide)) rfl dX12_lovers_19 ?_
    refine e_icmp_ge X 118 dX12_lovers_20 (by decide) (fun c2 => ?_) (fun c2 => ?_)
    · skip
      exact absurd (cntS hn) c2
    · skip
      refine e_iload X dX12_lovers_23 rfl ?_
      refine e_iconst X 1 dX12_lovers_25 rfl ?_
      refine e_iadd X dX12_lovers_26 ?_
      obtain ⟨x3, h_x3, hB⟩ := bindT_out hB
      refine e_istore X h_x3 dX12_lovers_27 (by decide) ?_
      obtain ⟨z16, h_z16, hB⟩ := obind_out hB
      refine e_le (L_M_lovers_29 X hr σ v1 v4 _ x3 v2 v3 h_z16 rfl ?_) (And.intro rfl (And.intro rfl (And.intro rfl (And.intro rfl (And.intro rfl (And.intro rfl (trivial)))))))
      refine e_iinc X 1 dX12_lovers_112 rfl rfl (by decide) ?_
      refine e_goto X 12 dX12_lovers_115 (by decide) ?_
      have hy9 := Option.some.inj hB; change ((z16.1, z16.2)) = y9 at hy9; subst hy9
      exact e_le (ih _ z16.1 z16.2 hF (cntN hn) (nnN h0 (cnt_hi hn)) hK) (And.intro rfl (And.intro rfl (And.intro rfl (And.intro rfl (And.intro rfl (trivial))))))
set_option maxRecDepth 20000 in
set_option maxHeartbeats 4000000 in
theorem C_M_lovers (hG : Gok l Γ D s0) (σ : Mem) (v1 : Int32)  {out : Mem × Int32} (hF : F_M_lovers σ v1 = some out) : CT l Γ D s0 yX12_lovers cX12_lovers 6 (some .int) (3) 0 0 (68) σ [.ref (Γ.1 + 333), .int v1] (PI (some (.int out.2)) out.1) := by
  unfold F_M_lovers at hF
  refine e_met (own := RX12) hG (by decide +kernel) rfl rfl (Nat.le_of_ble_eq_true rfl) ?_
  intro p e s m args below meth c X hr
  show E p l e _ s m args below meth c Γ D 0 0 _ σ 0 [some (.ref (Γ.1 + 333)), some (.int v1), none, none, none, none] []
  refine e_aload_n X dX12_lovers_0 rfl rfl ?_
  refine e_iconst X 0 dX12_lovers_1 rfl ?_
  obtain ⟨σ1, h_σ1, hF⟩ := bindT_out hF
  refine pu_M_thrown X wf_X12_51 dX12_lovers_2 h_σ1 ?_
  refine e_iconst X 0 dX12_lovers_5 rfl ?_
  refine e_istore_n X rfl dX12_lovers_6 rfl (by decide) ?_
  refine e_iconst X (-1) dX12_lovers_7 rfl ?_
  refine e_istore_n X rfl dX12_lovers_8 rfl (by decide) ?_
  refine e_iconst X 0 dX12_lovers_9 rfl ?_
  refine e_istore X rfl dX12_lovers_10 (by decide) ?_
  obtain ⟨z18, h_z18, hF⟩ := obind_out hF
  refine e_le (L_M_lovers_12 X hr σ1 v1 _ 0 0 ((-1)) h_z18 rfl (by decide) ?_) (And.intro rfl (And.intro rfl (And.intro rfl (And.intro rfl (And.intro rfl (trivial))))))
  refine e_iload_n X dX12_lovers_118 rfl rfl ?_
  refine e_if_eq X 126 dX12_lovers_119 (by decide) (fun c19 => ?_) (fun c19 => ?_)
  · skip
    rw [if_pos c19] at hF
    refine e_iload_n X dX12_lovers_126 rfl rfl ?_
    exact e_iret X hr dX12_lovers_127 (Nat.le_of_ble_eq_true rfl) (Nat.le_of_ble_eq_true rfl) (by cases hF; exact ⟨rfl, rfl⟩)
  · skip
    rw [if_neg c19] at hF
    refine e_iload_n X dX12_lovers_122 rfl rfl ?_
    refine e_goto X 127 dX12_lovers_123 (by decide) ?_
    exact e_iret X hr dX12_lovers_127 (Nat.le_of_ble_eq_true rfl) (Nat.le_of_ble_eq_true rfl) (by cases hF; exact ⟨rfl, rfl⟩)
set_option maxRecDepth 20000 in
set_option maxHeartbeats 4000000 in
theorem C_M_prefers (hG : Gok l Γ D s0) (σ : Mem) (v1 : Int32) (v2 : Int32)  {out : Int32} (hF : F_M_prefers σ v1 v2 = some out) : CT l Γ D s0 yX12_prefers cX12_prefers 3 (some .boolean) (1) 0 0 (22) σ [.ref (Γ.1 + 333), .int v1, .int v2] (PI (some (.int out)) σ) := by
  unfold F_M_prefers at hF
  refine e_met (own := RX12) hG (by decide +kernel) rfl rfl (Nat.le_of_ble_eq_true rfl) ?_
  intro p e s m args below meth c X hr
  show E p l e _ s m args below meth c Γ D 0 0 _ σ 0 [some (.ref (Γ.1 + 333)), some (.int v1), some (.int v2)] []
  refine e_aload_n X dX12_prefers_0 rfl rfl ?_
  refine e_iload_n X dX12_prefers_1 rfl rfl ?_
  refine e_iload_n X dX12_prefers_2 rfl rfl ?_
  obtain ⟨z1, h_z1, hF⟩ := obind_out hF
  refine e_callVi X (r := z1) (σ1 := σ) [.int v1, .int v2] [] (C_M_likes (Cx_gok X) σ v1 v2 h_z1) gv_X12_258 yk_X12_likes rfl (ent_lt (rfl : entTbl[333]? = some (13, 0))) (ent_at (rfl : entTbl[333]? = some (13, 0)) _) (rfl : vCl[11]? = some (RX12, TX12, 24)) ⟨Nat.le_of_ble_eq_true rfl, Nat.le_of_ble_eq_true rfl⟩ ⟨Nat.le_of_ble_eq_true rfl, Nat.le_of_ble_eq_true rfl⟩ (Nat.le_of_ble_eq_true rfl) dX12_prefers_3 rfl ?_
  refine e_aload_n X dX12_prefers_6 rfl rfl ?_
  refine ge_M_by X wf_X12_38 dX12_prefers_7 ?_
  refine e_iload_n X dX12_prefers_10 rfl rfl ?_
  obtain ⟨c2, hF⟩ := chk_out hF
  refine e_iald X (j := v1.toNatClampNeg) rfl rfl (inb_in c2) rfl dX12_prefers_11 ?_
  refine e_iload_n X dX12_prefers_12 rfl rfl ?_
  refine e_icmp_ne X 20 dX12_prefers_13 (by decide) (fun c3 => ?_) (fun c3 => ?_)
  · skip
    rw [if_neg c3] at hF
    refine e_aload_n X dX12_prefers_20 rfl rfl ?_
    refine e_iload_n X dX12_prefers_21 rfl rfl ?_
    refine e_aload_n X dX12_prefers_22 rfl rfl ?_
    refine ge_M_by X wf_X12_38 dX12_prefers_23 ?_
    refine e_iload_n X dX12_prefers_26 rfl rfl ?_
    obtain ⟨c4, hF⟩ := chk_out hF
    refine e_iald X (j := v1.toNatClampNeg) rfl rfl (inb_in c4) rfl dX12_prefers_27 ?_
    obtain ⟨z5, h_z5, hF⟩ := obind_out hF
    refine e_callVi X (r := z5) (σ1 := σ) [.int v1, .int ((σ 342 v1.toNatClampNeg))] [.int z1] (C_M_likes (Cx_gok X) σ v1 ((σ 342 v1.toNatClampNeg)) h_z5) gv_X12_258 yk_X12_likes rfl (ent_lt (rfl : entTbl[333]? = some (13, 0))) (ent_at (rfl : entTbl[333]? = some (13, 0)) _) (rfl : vCl[11]? = some (RX12, TX12, 24)) ⟨Nat.le_of_ble_eq_true rfl, Nat.le_of_ble_eq_true rfl⟩ ⟨Nat.le_of_ble_eq_true rfl, Nat.le_of_ble_eq_true rfl⟩ (Nat.le_of_ble_eq_true rfl) dX12_prefers_28 rfl ?_
    refine e_icmp_le X 38 dX12_prefers_31 (by decide) (fun c6 => ?_) (fun c6 => ?_)
    · skip
      rw [if_neg c6] at hF
      refine e_iconst X 0 dX12_prefers_38 rfl ?_
      exact e_zret X hr rfl dX12_prefers_39 (Nat.le_of_ble_eq_true rfl) (Nat.le_of_ble_eq_true rfl) (by cases hF; exact ⟨rfl, rfl⟩)
    · skip
      rw [if_pos c6] at hF
      refine e_iconst X 1 dX12_prefers_34 rfl ?_
      refine e_goto X 39 dX12_prefers_35 (by decide) ?_
      exact e_zret X hr rfl dX12_prefers_39 (Nat.le_of_ble_eq_true rfl) (Nat.le_of_ble_eq_true rfl) (by cases hF; exact ⟨rfl, rfl⟩)
  · skip
    rw [if_pos c3] at hF
    refine e_iconst X (-1) dX12_prefers_16 rfl ?_
    refine e_goto X 31 dX12_prefers_17 (by decide) ?_
    refine e_icmp_le X 38 dX12_prefers_31 (by decide) (fun c7 => ?_) (fun c7 => ?_)
    · skip
      rw [if_neg c7] at hF
      refine e_iconst X 0 dX12_prefers_38 rfl ?_
      exact e_zret X hr rfl dX12_prefers_39 (Nat.le_of_ble_eq_true rfl) (Nat.le_of_ble_eq_true rfl) (by cases hF; exact ⟨rfl, rfl⟩)
    · skip
      rw [if_pos c7] at hF
      refine e_iconst X 1 dX12_prefers_34 rfl ?_
      refine e_goto X 39 dX12_prefers_35 (by decide) ?_
      exact e_zret X hr rfl dX12_prefers_39 (Nat.le_of_ble_eq_true rfl) (Nat.le_of_ble_eq_true rfl) (by cases hF; exact ⟨rfl, rfl⟩)
set_option maxRecDepth 20000 in
set_option maxHeartbeats 4000000 in
theorem L_M_isSteady_16 (X : Cx p l s m args meth c Γ D s0 RX12 cX12_isSteady 3) (hr : meth.sig.returnType = (some .boolean)) (σ : Mem) (v1 : Int32)  : ∀ (n : Nat) (v2 : Int32) {z : (Unit) ⊕ (Int32)}, forGO (fun i s => F_M_isSteady_16_b σ v1 i ) n v2 () = some z → n = cnt v2 ((σ 334 3)) → (sumP z (fun s9 => E p l e ({ frames := 2, cells := 0, slots := 0, locals := 44 } : Room) s m args below meth c Γ D 0 0 (MQ below (QcA Γ D Pst) args s 0 0 (frB Γ)) σ 62 [some (.ref (Γ.1 + 333)), some (.int v1), none] []) (fun r9 => Pst (some (.int r9)) σ)) → E p l e ({ frames := 2, cells := 0, slots := 0, locals := 44 } : Room) s m args below meth c Γ D 0 0 (MQ below (QcA Γ D Pst) args s 0 0 (frB Γ)) σ 16 [some (.ref (Γ.1 + 333)), some (.int v1), some (.int v2)] [] := by
  intro n
  induction n with
  | zero =>
    intro v2  z hF hn hK
    refine e_iload_n X dX12_isSteady_16 rfl rfl ?_
    refine e_aload_n X dX12_isSteady_17 rfl rfl ?_
    refine ge_M_m X wf_X12_7 dX12_isSteady_18 ?_
    refine e_iconst X 3 dX12_isSteady_21 rfl ?_
    refine e_iald X (j := 3) rfl rfl (vp_in_iff.mpr (by decide)) rfl dX12_isSteady_22 ?_
    refine e_icmp_ge X 62 dX12_isSteady_23 (by decide) (fun c10 => ?_) (fun c10 => ?_)
    · skip
      have hz9 := Option.some.inj hF; change (.inl (())) = z at hz9; subst hz9
      exact e_le hK (And.intro rfl (And.intro rfl (trivial)))
    · skip
      exact absurd c10 (cnt0 hn)
  | succ n ih =>
    intro v2  z hF hn hK
    obtain ⟨y9, hB, hF⟩ := forRO_step hF
    change F_M_isSteady_16_b σ v1 v2  = some y9 at hB
    unfold F_M_isSteady_16_b at hB
    refine e_iload_n X dX12_isSteady_16 rfl rfl ?_
    refine e_aload_n X dX12_isSteady_17 rfl rfl ?_
    refine ge_M_m X wf_X12_7 dX12_isSteady_18 ?_
    refine e_iconst X 3 dX12_isSteady_21 rfl ?_
    refine e_iald X (j := 3) rfl rfl (vp_in_iff.mpr (by decide)) rfl dX12_isSteady_22 ?_
    refine e_icmp_ge X 62 dX12_isSteady_23 (by decide) (fun c3 => ?_) (fun c3 => ?_)
    · skip
      exact absurd (cntS hn) c3
    · skip
      refine e_aload_n X dX12_isSteady_26 rfl rfl ?_
      refine ge_M_by X wf_X12_38 dX12_isSteady_27 ?_
      refine e_iload_n X dX12_isSteady_30 rfl rfl ?_
      obtain ⟨c4, hB⟩ := chk_out hB
      refine e_iald X (j := v1.toNatClampNeg) rfl rfl (inb_in c4) rfl dX12_isSteady_31 ?_
      refine e_iload_n X dX12_isSteady_32 rfl rfl ?_
      refine e_icmp_eq X 56 dX12_isSteady_33 (by decide) (fun c5 => ?_) (fun c5 => ?_)
      · skip
        rw [if_pos c5] at hB
        refine e_iinc X 1 dX12_isSteady_56 rfl rfl (by decide) ?_
        refine e_goto X 16 dX12_isSteady_59 (by decide) ?_
        have hy9 := Option.some.inj hB; change (.inl (())) = y9 at hy9; subst hy9
        exact e_le (ih _  hF (cntN hn) hK) (And.intro rfl (And.intro rfl (And.intro rfl (trivial))))
      · skip
        rw [if_neg c5] at hB
        refine e_aload_n X dX12_isSteady_36 rfl rfl ?_
        refine e_iload_n X dX12_isSteady_37 rfl rfl ?_
        refine e_iload_n X dX12_isSteady_38 rfl rfl ?_
        obtain ⟨z6, h_z6, hB⟩ := obind_out hB
        refine e_callVi X (r := z6) (σ1 := σ) [.int v1, .int v2] [] (C_M_prefers (Cx_gok X) σ v1 v2 h_z6) gv_X12_345 yk_X12_prefers rfl (ent_lt (rfl : entTbl[333]? = some (13, 0))) (ent_at (rfl : entTbl[333]? = some (13, 0)) _) (rfl : vCl[11]? = some (RX12, TX12, 24)) ⟨Nat.le_of_ble_eq_true rfl, Nat.le_of_ble_eq_true rfl⟩ ⟨Nat.le_of_ble_eq_true rfl, Nat.le_of_ble_eq_true rfl⟩ (Nat.le_of_ble_eq_true rfl) dX12_isSteady_39 rfl ?_
        refine e_if_eq X 56 dX12_isSteady_42 (by decide) (fun c7 => ?_) (fun c7 => ?_)
        · skip
          rw [if_pos c7] at hB
          refine e_iinc X 1 dX12_isSteady_56 rfl rfl (by decide) ?_
          refine e_goto X 16 dX12_isSteady_59 (by decide) ?_
          have hy9 := Option.some.inj hB; change (.inl (())) = y9 at hy9; subst hy9
          exact e_le (ih _  hF (cntN hn) hK) (And.intro rfl (And.intro rfl (And.intro rfl (trivial))))
        · skip
          rw [if_neg c7] at hB
          refine e_aload_n X dX12_isSteady_45 rfl rfl ?_
          refine e_iload_n X dX12_isSteady_46 rfl rfl ?_
          refine e_iload_n X dX12_isSteady_47 rfl rfl ?_
          obtain ⟨z8, h_z8, hB⟩ := obind_out hB
          refine e_callVi X (r := z8) (σ1 := σ) [.int v2, .int v1] [] (C_M_prefers (Cx_gok X) σ v2 v1 h_z8) gv_X12_345 yk_X12_prefers rfl (ent_lt (rfl : entTbl[333]? = some (13, 0))) (ent_at (rfl : entTbl[333]? = some (13, 0)) _) (rfl : vCl[11]? = some (RX12, TX12, 24)) ⟨Nat.le_of_ble_eq_true rfl, Nat.le_of_ble_eq_true rfl⟩ ⟨Nat.le_of_ble_eq_true rfl, Nat.le_of_ble_eq_true rfl⟩ (Nat.le_of_ble_eq_true rfl) dX12_isSteady_48 rfl ?_
          refine e_if_eq X 56 dX12_isSteady_51 (by decide) (fun c9 => ?_) (fun c9 => ?_)
          · skip
            rw [if_pos c9] at hB
            refine e_iinc X 1 dX12_isSteady_56 rfl rfl (by decide) ?_
            refine e_goto X 16 dX12_isSteady_59 (by decide) ?_
            have hy9 := Option.some.inj hB; change (.inl (())) = y9 at hy9; subst hy9
            exact e_le (ih _  hF (cntN hn) hK) (And.intro rfl (And.intro rfl (And.intro rfl (trivial))))
          · skip
            rw [if_neg c9] at hB
            refine e_iconst X 0 dX12_isSteady_54 rfl ?_
            have hy9 := Option.some.inj hB; change (.inr 0) = y9 at hy9; subst hy9
            have hz9 := Option.some.inj hF; change (.inr 0) = z at hz9; subst hz9
            exact e_zret X hr rfl dX12_isSteady_55 (Nat.le_of_ble_eq_true rfl) (Nat.le_of_ble_eq_true rfl) hK
set_option maxRecDepth 20000 in
set_option maxHeartbeats 4000000 in
theorem L_M_isSteady_2 (X : Cx p l s m args meth c Γ D s0 RX12 cX12_isSteady 3) (hr : meth.sig.returnType = (some .boolean)) (σ : Mem)  : ∀ (n : Nat) (v1 : Int32) {z : (Unit) ⊕ (Int32)}, forGO (fun i s => F_M_isSteady_2_b σ i ) n v1 () = some z → n = cnt v1 ((σ 334 3)) → ¬ v1 < 0 → (sumP z (fun s9 => E p l e ({ frames := 2, cells := 0, slots := 0, locals := 44 } : Room) s m args below meth c Γ D 0 0 (MQ below (QcA Γ D Pst) args s 0 0 (frB Γ)) σ 68 [some (.ref (Γ.1 + 333)), none, none] []) (fun r9 => Pst (some (.int r9)) σ)) → E p l e ({ frames := 2, cells := 0, slots := 0, locals := 44 } : Room) s m args below meth c Γ D 0 0 (MQ below (QcA Γ D Pst) args s 0 0 (frB Γ)) σ 2 [some (.ref (Γ.1 + 333)), some (.int v1), none] [] := by
  intro n
  induction n with
  | zero =>
    intro v1  z hF hn h0 hK
    refine e_iload_n X dX12_isSteady_2 rfl rfl ?_
    refine e_aload_n X dX12_isSteady_3 rfl rfl ?_
    refine ge_M_m X wf_X12_7 dX12_isSteady_4 ?_
    refine e_iconst X 3 dX12_isSteady_7 rfl ?_
    refine e_iald X (j := 3) rfl rfl (vp_in_iff.mpr (by decide)) rfl dX12_isSteady_8 ?_
    refine e_icmp_ge X 68 dX12_isSteady_9 (by decide) (fun c14 => ?_) (fun c14 => ?_)
    · skip
      have hz9 := Option.some.inj hF; change (.inl (())) = z at hz9; subst hz9
      exact e_le hK (And.intro rfl (trivial))
    · skip
      exact absurd c14 (cnt0 hn)
  | succ n ih =>
    intro v1  z hF hn h0 hK
    obtain ⟨y9, hB, hF⟩ := forRO_step hF
    change F_M_isSteady_2_b σ v1  = some y9 at hB
    unfold F_M_isSteady_2_b at hB
    refine e_iload_n X dX12_isSteady_2 rfl rfl ?_
    refine e_aload_n X dX12_isSteady_3 rfl rfl ?_
    refine ge_M_m X wf_X12_7 dX12_isSteady_4 ?_
    refine e_iconst X 3 dX12_isSteady_7 rfl ?_
    refine e_iald X (j := 3) rfl rfl (vp_in_iff.mpr (by decide)) rfl dX12_isSteady_8 ?_
    refine e_icmp_ge X 68 dX12_isSteady_9 (by decide) (fun c1 => ?_) (fun c1 => ?_)
    · skip
      exact absurd (cntS hn) c1
    · skip
      refine e_iload_n X dX12_isSteady_12 rfl rfl ?_
      refine e_iconst X 1 dX12_isSteady_13 rfl ?_
      refine e_iadd X dX12_isSteady_14 ?_
      obtain ⟨x2, h_x2, hB⟩ := bindT_out hB
      refine e_istore_n X h_x2 dX12_isSteady_15 rfl (by decide) ?_
      obtain ⟨z11, h_z11, hB⟩ := obind_out hB
      refine e_le (L_M_isSteady_16 X hr σ v1 _ x2  h_z11 rfl ?_) (And.intro rfl (And.intro rfl (And.intro rfl (trivial))))
      cases z11 with
      | inl s12 =>
        replace hB := hB
        rw [sumE] at hB
        show E p l e _ s m args below meth c Γ D _ _ _ _ _ _ _
        refine e_iinc X 1 dX12_isSteady_62 rfl rfl (by decide) ?_
        refine e_goto X 2 dX12_isSteady_65 (by decide) ?_
        have hy9 := Option.some.inj hB; change (.inl (())) = y9 at hy9; subst hy9
        exact e_le (ih _  hF (cntN hn) (nnN h0 (cnt_hi hn)) hK) (And.intro rfl (And.intro rfl (trivial)))
      | inr r13 =>
        rw [sumE] at hB
        have hy9 := Option.some.inj hB; change (.inr r13) = y9 at hy9; subst hy9
        have hz9 := Option.some.inj hF; change (.inr r13) = z at hz9; subst hz9
        exact hK
set_option maxRecDepth 20000 in
set_option maxHeartbeats 4000000 in
theorem C_M_isSteady (hG : Gok l Γ D s0) (σ : Mem)   {out : Int32} (hF : F_M_isSteady σ = some out) : CT l Γ D s0 yX12_isSteady cX12_isSteady 3 (some .boolean) (2) 0 0 (44) σ [.ref (Γ.1 + 333)] (PI (some (.int out)) σ) := by
  unfold F_M_isSteady at hF
  refine e_met (own := RX12) hG (by decide +kernel) rfl rfl (Nat.le_of_ble_eq_true rfl) ?_
  intro p e s m args below meth c X hr
  show E p l e _ s m args below meth c Γ D 0 0 _ σ 0 [some (.ref (Γ.1 + 333)), none, none] []
  refine e_iconst X 0 dX12_isSteady_0 rfl ?_
  refine e_istore_n X rfl dX12_isSteady_1 rfl (by decide) ?_
  obtain ⟨z15, h_z15, hF⟩ := obind_out hF
  refine e_le (L_M_isSteady_2 X hr σ _ 0  h_z15 rfl (by decide) ?_) (And.intro rfl (And.intro rfl (trivial)))
  cases z15 with
  | inl s16 =>
    replace hF := hF
    rw [sumE] at hF
    show E p l e _ s m args below meth c Γ D _ _ _ _ _ _ _
    refine e_iconst X 1 dX12_isSteady_68 rfl ?_
    exact e_zret X hr rfl dX12_isSteady_69 (Nat.le_of_ble_eq_true rfl) (Nat.le_of_ble_eq_true rfl) (by cases hF; exact ⟨rfl, rfl⟩)
  | inr r17 =>
    rw [sumE] at hF
    cases hF
    exact ⟨rfl, rfl⟩
set_option maxRecDepth 20000 in
set_option maxHeartbeats 4000000 in
theorem C_M_mayWed (hG : Gok l Γ D s0) (σ : Mem) (v1 : Int32) (v2 : Int32)  {out : Int32} (hF : F_M_mayWed σ v1 v2 = some out) : CT l Γ D s0 yX12_mayWed cX12_mayWed 3 (some .boolean) (2) 0 0 (44) σ [.ref (Γ.1 + 333), .int v1, .int v2] (PI (some (.int out)) σ) := by
  unfold F_M_mayWed at hF
  refine e_met (own := RX12) hG (by decide +kernel) rfl rfl (Nat.le_of_ble_eq_true rfl) ?_
  intro p e s m args below meth c X hr
  show E p l e _ s m args below meth c Γ D 0 0 _ σ 0 [some (.ref (Γ.1 + 333)), some (.int v1), some (.int v2)] []
  refine e_aload_n X dX12_mayWed_0 rfl rfl ?_
  refine e_iload_n X dX12_mayWed_1 rfl rfl ?_
  obtain ⟨z1, h_z1, hF⟩ := obind_out hF
  refine e_callVi X (r := z1) (σ1 := σ) [.int v1] [] (C_M_wedTo (Cx_gok X) σ v1 h_z1) gv_X12_121 yk_X12_wedTo rfl (ent_lt (rfl : entTbl[333]? = some (13, 0))) (ent_at (rfl : entTbl[333]? = some (13, 0)) _) (rfl : vCl[11]? = some (RX12, TX12, 24)) ⟨Nat.le_of_ble_eq_true rfl, Nat.le_of_ble_eq_true rfl⟩ ⟨Nat.le_of_ble_eq_true rfl, Nat.le_of_ble_eq_true rfl⟩ (Nat.le_of_ble_eq_true rfl) dX12_mayWed_2 rfl ?_
  refine e_iconst X (-1) dX12_mayWed_5 rfl ?_
  refine e_icmp_ne X 48 dX12_mayWed_6 (by decide) (fun c2 => ?_) (fun c2 => ?_)
  · skip
    rw [if_neg c2] at hF
    refine e_iconst X 0 dX12_mayWed_48 rfl ?_
    exact e_zret X hr rfl dX12_mayWed_49 (Nat.le_of_ble_eq_true rfl) (Nat.le_of_ble_eq_true rfl) (by cases hF; exact ⟨rfl, rfl⟩)
  · skip
    rw [if_pos c2] at hF
    refine e_aload_n X dX12_mayWed_9 rfl rfl ?_
    refine e_iload_n X dX12_mayWed_10 rfl rfl ?_
    obtain ⟨z3, h_z3, hF⟩ := obind_out hF
    refine e_callVi X (r := z3) (σ1 := σ) [.int v2] [] (C_M_wedTo (Cx_gok X) σ v2 h_z3) gv_X12_121 yk_X12_wedTo rfl (ent_lt (rfl : entTbl[333]? = some (13, 0))) (ent_at (rfl : entTbl[333]? = some (13, 0)) _) (rfl : vCl[11]? = some (RX12, TX12, 24)) ⟨Nat.le_of_ble_eq_true rfl, Nat.le_of_ble_eq_true rfl⟩ ⟨Nat.le_of_ble_eq_true rfl, Nat.le_of_ble_eq_true rfl⟩ (Nat.le_of_ble_eq_true rfl) dX12_mayWed_11 rfl ?_
    refine e_iconst X (-1) dX12_mayWed_14 rfl ?_
    refine e_icmp_ne X 48 dX12_mayWed_15 (by decide) (fun c4 => ?_) (fun c4 => ?_)
    · skip
      rw [if_neg c4] at hF
      refine e_iconst X 0 dX12_mayWed_48 rfl ?_
      exact e_zret X hr rfl dX12_mayWed_49 (Nat.le_of_ble_eq_true rfl) (Nat.le_of_ble_eq_true rfl) (by cases hF; exact ⟨rfl, rfl⟩)
    · skip
      rw [if_pos c4] at hF
      refine e_aload_n X dX12_mayWed_18 rfl rfl ?_
      refine e_iload_n X dX12_mayWed_19 rfl rfl ?_
      refine e_iconst X 1 dX12_mayWed_20 rfl ?_
      obtain ⟨z5, h_z5, hF⟩ := obind_out hF
      refine e_callVi X (r := z5) (σ1 := σ) [.int v1, .int 1] [] (C_M_of (Cx_gok X) σ v1 1 h_z5) gv_X12_62 yk_X12_of rfl (ent_lt (rfl : entTbl[333]? = some (13, 0))) (ent_at (rfl : entTbl[333]? = some (13, 0)) _) (rfl : vCl[11]? = some (RX12, TX12, 24)) ⟨Nat.le_of_ble_eq_true rfl, Nat.le_of_ble_eq_true rfl⟩ ⟨Nat.le_of_ble_eq_true rfl, Nat.le_of_ble_eq_true rfl⟩ (Nat.le_of_ble_eq_true rfl) dX12_mayWed_21 rfl ?_
      refine e_iload_n X dX12_mayWed_24 rfl rfl ?_
      refine e_callSi X (r := (F_M_isOf σ z5 v2)) (σ1 := σ) [.int z5, .int v2] [] (C_M_isOf (Cx_gok X) σ z5 v2) gs_X12_65 yk_X12_isOf rfl ⟨Nat.le_of_ble_eq_true rfl, Nat.le_of_ble_eq_true rfl⟩ ⟨Nat.le_of_ble_eq_true rfl, Nat.le_of_ble_eq_true rfl⟩ (Nat.le_of_ble_eq_true rfl) dX12_mayWed_25 rfl ?_
      refine e_if_ne X 44 dX12_mayWed_28 (by decide) (fun c6 => ?_) (fun c6 => ?_)
      · skip
        rw [if_neg c6] at hF
        refine e_iconst X 1 dX12_mayWed_44 rfl ?_
        refine e_goto X 49 dX12_mayWed_45 (by decide) ?_
        exact e_zret X hr rfl dX12_mayWed_49 (Nat.le_of_ble_eq_true rfl) (Nat.le_of_ble_eq_true rfl) (by cases hF; exact ⟨rfl, rfl⟩)
      · skip
        rw [if_pos c6] at hF
        refine e_aload_n X dX12_mayWed_31 rfl rfl ?_
        refine e_iload_n X dX12_mayWed_32 rfl rfl ?_
        refine e_iconst X 1 dX12_mayWed_33 rfl ?_
        obtain ⟨z7, h_z7, hF⟩ := obind_out hF
        refine e_callVi X (r := z7) (σ1 := σ) [.int v2, .int 1] [] (C_M_of (Cx_gok X) σ v2 1 h_z7) gv_X12_62 yk_X12_of rfl (ent_lt (rfl : entTbl[333]? = some (13, 0))) (ent_at (rfl : entTbl[333]? = some (13, 0)) _) (rfl : vCl[11]? = some (RX12, TX12, 24)) ⟨Nat.le_of_ble_eq_true rfl, Nat.le_of_ble_eq_true rfl⟩ ⟨Nat.le_of_ble_eq_true rfl, Nat.le_of_ble_eq_true rfl⟩ (Nat.le_of_ble_eq_true rfl) dX12_mayWed_34 rfl ?_
        refine e_iload_n X dX12_mayWed_37 rfl rfl ?_
        refine e_callSi X (r := (F_M_isOf σ z7 v1)) (σ1 := σ) [.int z7, .int v1] [] (C_M_isOf (Cx_gok X) σ z7 v1) gs_X12_65 yk_X12_isOf rfl ⟨Nat.le_of_ble_eq_true rfl, Nat.le_of_ble_eq_true rfl⟩ ⟨Nat.le_of_ble_eq_true rfl, Nat.le_of_ble_eq_true rfl⟩ (Nat.le_of_ble_eq_true rfl) dX12_mayWed_38 rfl ?_
        refine e_if_eq X 48 dX12_mayWed_41 (by decide) (fun c8 => ?_) (fun c8 => ?_)
        · skip
          rw [if_pos c8] at hF
          refine e_iconst X 0 dX12_mayWed_48 rfl ?_
          exact e_zret X hr rfl dX12_mayWed_49 (Nat.le_of_ble_eq_true rfl) (Nat.le_of_ble_eq_true rfl) (by cases hF; exact ⟨rfl, rfl⟩)
        · skip
          rw [if_neg c8] at hF
          refine e_iconst X 1 dX12_mayWed_44 rfl ?_
          refine e_goto X 49 dX12_mayWed_45 (by decide) ?_
          exact e_zret X hr rfl dX12_mayWed_49 (Nat.le_of_ble_eq_true rfl) (Nat.le_of_ble_eq_true rfl) (by cases hF; exact ⟨rfl, rfl⟩)
set_option maxRecDepth 20000 in
set_option maxHeartbeats 4000000 in
theorem L_M_weddings_32 (X : Cx p l s m args meth c Γ D s0 RX12 cX12_weddings 7) (hr : meth.sig.returnType = (some .int)) (σ : Mem) (v1 : Int32) (v2 : Int32)  : ∀ (n : Nat) (v3 : Int32) {z : Int32}, whl (fun s => F_M_weddings_32_b σ v1 v2 s) n v3 = some z → (E p l e ({ frames := 3, cells := 0, slots := 0, locals := 66 } : Room) s m args below meth c Γ D 0 0 (MQ below (QcA Γ D Pst) args s 0 0 (frB Γ)) σ 46 [some (.ref (Γ.1 + 333)), some (.int v1), some (.int v2), some (.int z), none, none, none] []) → E p l e ({ frames := 3, cells := 0, slots := 0, locals := 66 } : Room) s m args below meth c Γ D 0 0 (MQ below (QcA Γ D Pst) args s 0 0 (frB Γ)) σ 32 [some (.ref (Γ.1 + 333)), some (.int v1), some (.int v2), some (.int v3), none, none, none] [] := by
  intro n
  induction n with
  | zero =>
    intro v3 z hF hK
    cases hF
  | succ n ih =>
    intro v3 z hF hK
    obtain ⟨y9, hB, hF⟩ := whl_step hF
    change F_M_weddings_32_b σ v1 v2 v3 = some y9 at hB
    unfold F_M_weddings_32_b at hB
    refine e_iload_n X dX12_weddings_32 rfl rfl ?_
    refine e_iload_n X dX12_weddings_33 rfl rfl ?_
    refine e_callSi X (r := (F_M_isOf σ v2 v3)) (σ1 := σ) [.int v2, .int v3] [] (C_M_isOf (Cx_gok X) σ v2 v3) gs_X12_65 yk_X12_isOf rfl ⟨Nat.le_of_ble_eq_true rfl, Nat.le_of_ble_eq_true rfl⟩ ⟨Nat.le_of_ble_eq_true rfl, Nat.le_of_ble_eq_true rfl⟩ (Nat.le_of_ble_eq_true rfl) dX12_weddings_34 rfl ?_
    refine e_if_ne X 46 dX12_weddings_37 (by decide) (fun c5 => ?_) (fun c5 => ?_)
    · skip
      rw [if_neg c5] at hB
      have hy9 := Option.some.inj hB; change (.inr v3) = y9 at hy9; subst hy9
      have hz9 := Option.some.inj hF; change (v3) = z at hz9; subst hz9
      exact e_le hK (And.intro rfl (And.intro rfl (And.intro rfl (And.intro rfl (trivial)))))
    · skip
      rw [if_pos c5] at hB
      refine e_iinc X 1 dX12_weddings_40 rfl rfl (by decide) ?_
      obtain ⟨x6, h_x6, hB⟩ := bindT_out hB
      rw [← h_x6]
      refine e_goto X 32 dX12_weddings_43 (by decide) ?_
      have hy9 := Option.some.inj hB; change (.inl x6) = y9 at hy9; subst hy9
      exact e_le (ih x6 hF hK) (And.intro rfl (And.intro rfl (And.intro rfl (And.intro rfl (trivial)))))
set_option maxRecDepth 20000 in
set_option maxHeartbeats 4000000 in
theorem L_M_weddings_69 (X : Cx p l s m args meth c Γ D s0 RX12 cX12_weddings 7) (hr : meth.sig.returnType = (some .int)) (σ : Mem) (v1 : Int32) (v2 : Int32) (v3 : Int32) (v4 : Int32)  : ∀ (n : Nat) (v6 : Int32) (v5 : Int32) {z : Int32}, forSO (fun i s => F_M_weddings_69_b σ v1 v2 v3 v4 i s) n v6 v5 = some z → n = cnt v6 ((σ 334 3)) → (E p l e ({ frames := 3, cells := 0, slots := 0, locals := 66 } : Room) s m args below meth c Γ D 0 0 (MQ below (QcA Γ D Pst) args s 0 0 (frB Γ)) σ 128 [some (.ref (Γ.1 + 333)), some (.int v1), some (.int v2), some (.int v3), some (.int v4), some (.int z), none] []) → E p l e ({ frames := 3, cells := 0, slots := 0, locals := 66 } : Room) s m args below meth c Γ D 0 0 (MQ below (QcA Γ D Pst) args s 0 0 (frB Γ)) σ 69 [some (.ref (Γ.1 + 333)), some (.int v1), some (.int v2), some (.int v3), some (.int v4), some (.int v5), some (.int v6)] [] := by
  intro n
  induction n with
  | zero =>
    intro v6 v5 z hF hn hK
    refine e_iload X dX12_weddings_69 rfl ?_
    refine e_aload_n X dX12_weddings_71 rfl rfl ?_
    refine ge_M_m X wf_X12_7 dX12_weddings_72 ?_
    refine e_iconst X 3 dX12_weddings_75 rfl ?_
    refine e_iald X (j := 3) rfl rfl (vp_in_iff.mpr (by decide)) rfl dX12_weddings_76 ?_
    refine e_icmp_ge X 128 dX12_weddings_77 (by decide) (fun c19 => ?_) (fun c19 => ?_)
    · skip
      have hz9 := Option.some.inj hF; change (v5) = z at hz9; subst hz9
      exact e_le hK (And.intro rfl (And.intro rfl (And.intro rfl (And.intro rfl (And.intro rfl (And.intro rfl (trivial)))))))
    · skip
      exact absurd c19 (cnt0 hn)
  | succ n ih =>
    intro v6 v5 z hF hn hK
    obtain ⟨y9, hB, hF⟩ := forSO_step hF
    change F_M_weddings_69_b σ v1 v2 v3 v4 v6 v5 = some y9 at hB
    unfold F_M_weddings_69_b at hB
    refine e_iload X dX12_weddings_69 rfl ?_
    refine e_aload_n X dX12_weddings_71 rfl rfl ?_
    refine ge_M_m X wf_X12_7 dX12_weddings_72 ?_
    refine e_iconst X 3 dX12_weddings_75 rfl ?_
    refine e_iald X (j := 3) rfl rfl (vp_in_iff.mpr (by decide)) rfl dX12_weddings_76 ?_
    refine e_icmp_ge X 128 dX12_weddings_77 (by decide) (fun c12 => ?_) (fun c12 => ?_)
    · skip
      exact absurd (cntS hn) c12
    · skip
      refine e_iload_n X dX12_weddings_80 rfl rfl ?_
      refine e_iload X dX12_weddings_81 rfl ?_
      refine e_callSi X (r := (F_M_isOf σ v2 v6)) (σ1 := σ) [.int v2, .int v6] [] (C_M_isOf (Cx_gok X) σ v2 v6) gs_X12_65 yk_X12_isOf rfl ⟨Nat.le_of_ble_eq_true rfl, Nat.le_of_ble_eq_true rfl⟩ ⟨Nat.le_of_ble_eq_true rfl, Nat.le_of_ble_eq_true rfl⟩ (Nat.le_of_ble_eq_true rfl) dX12_weddings_83 rfl ?_
      refine e_if_eq X 122 dX12_weddings_86 (by decide) (fun c13 => ?_) (fun c13 => ?_)
      · skip
        rw [if_pos c13] at hB
        refine e_iinc X 1 dX12_weddings_122 rfl rfl (by decide) ?_
        refine e_goto X 69 dX12_weddings_125 (by decide) ?_
        have hy9 := Option.some.inj hB; change (v5) = y9 at hy9; subst hy9
        exact e_le (ih _ v5 hF (cntN hn) hK) (And.intro rfl (And.intro rfl (And.intro rfl (And.intro rfl (And.intro rfl (And.intro rfl (And.intro rfl (trivial))))))))
      · skip
        rw [if_neg c13] at hB
        refine e_aload_n X dX12_weddings_89 rfl rfl ?_
        refine e_iload_n X dX12_weddings_90 rfl rfl ?_
        refine e_iload X dX12_weddings_91 rfl ?_
        obtain ⟨z14, h_z14, hB⟩ := obind_out hB
        refine e_callVi X (r := z14) (σ1 := σ) [.int v3, .int v6] [] (C_M_mayWed (Cx_gok X) σ v3 v6 h_z14) gv_X12_358 yk_X12_mayWed rfl (ent_lt (rfl : entTbl[333]? = some (13, 0))) (ent_at (rfl : entTbl[333]? = some (13, 0)) _) (rfl : vCl[11]? = some (RX12, TX12, 24)) ⟨Nat.le_of_ble_eq_true rfl, Nat.le_of_ble_eq_true rfl⟩ ⟨Nat.le_of_ble_eq_true rfl, Nat.le_of_ble_eq_true rfl⟩ (Nat.le_of_ble_eq_true rfl) dX12_weddings_93 rfl ?_
        refine e_if_eq X 122 dX12_weddings_96 (by decide) (fun c15 => ?_) (fun c15 => ?_)
        · skip
          rw [if_pos c15] at hB
          refine e_iinc X 1 dX12_weddings_122 rfl rfl (by decide) ?_
          refine e_goto X 69 dX12_weddings_125 (by decide) ?_
          have hy9 := Option.some.inj hB; change (v5) = y9 at hy9; subst hy9
          exact e_le (ih _ v5 hF (cntN hn) hK) (And.intro rfl (And.intro rfl (And.intro rfl (And.intro rfl (And.intro rfl (And.intro rfl (And.intro rfl (trivial))))))))
        · skip
          rw [if_neg c15] at hB
          refine e_iload X dX12_weddings_99 rfl ?_
          refine e_iconst X 1 dX12_weddings_101 rfl ?_
          refine e_aload_n X dX12_weddings_102 rfl rfl ?_
          refine ge_M_pairs X wf_X12_48 dX12_weddings_103 ?_
          refine e_iload X dX12_weddings_106 rfl ?_
          refine e_iconst X 1 dX12_weddings_108 rfl ?_
          refine e_iload X dX12_weddings_109 rfl ?_
          refine e_ishl X dX12_weddings_111 ?_
          refine e_iconst X (-1) dX12_weddings_112 rfl ?_
          refine e_ixor X dX12_weddings_113 ?_
          refine e_iand X dX12_weddings_114 ?_
          obtain ⟨i16, h_i16, hB⟩ := bindT_out hB
          obtain ⟨c17, hB⟩ := chk_out hB
          refine e_iald X (j := i16.toNatClampNeg) h_i16 rfl (inb_in c17) rfl dX12_weddings_115 ?_
          refine e_iadd X dX12_weddings_116 ?_
          refine e_callSi X (r := (F_M_greater σ v5 ((1 + (σ 345 i16.toNatClampNeg))))) (σ1 := σ) [.int v5, .int ((1 + (σ 345 i16.toNatClampNeg)))] [] (C_M_greater (Cx_gok X) σ v5 ((1 + (σ 345 i16.toNatClampNeg)))) gs_X12_266 yk_X12_greater rfl ⟨Nat.le_of_ble_eq_true rfl, Nat.le_of_ble_eq_true rfl⟩ ⟨Nat.le_of_ble_eq_true rfl, Nat.le_of_ble_eq_true rfl⟩ (Nat.le_of_ble_eq_true rfl) dX12_weddings_117 rfl ?_
          obtain ⟨x18, h_x18, hB⟩ := bindT_out hB
          refine e_istore X h_x18 dX12_weddings_120 (by decide) ?_
          refine e_iinc X 1 dX12_weddings_122 rfl rfl (by decide) ?_
          refine e_goto X 69 dX12_weddings_125 (by decide) ?_
          have hy9 := Option.some.inj hB; change (x18) = y9 at hy9; subst hy9
          exact e_le (ih _ x18 hF (cntN hn) hK) (And.intro rfl (And.intro rfl (And.intro rfl (And.intro rfl (And.intro rfl (And.intro rfl (And.intro rfl (trivial))))))))
set_option maxRecDepth 20000 in
set_option maxHeartbeats 4000000 in
theorem L_M_weddings_25 (X : Cx p l s m args meth c Γ D s0 RX12 cX12_weddings 7) (hr : meth.sig.returnType = (some .int)) (v1 : Int32)  : ∀ (n : Nat) (v2 : Int32) (σ : Mem) {z : Int32 × Mem}, whl (fun s => F_M_weddings_25_b v1 s.1 s.2) n (v2, σ) = some z → (E p l e ({ frames := 3, cells := 0, slots := 0, locals := 66 } : Room) s m args below meth c Γ D 0 0 (MQ below (QcA Γ D Pst) args s 0 0 (frB Γ)) z.2 142 [some (.ref (Γ.1 + 333)), some (.int v1), some (.int z.1), none, none, none, none] []) → E p l e ({ frames := 3, cells := 0, slots := 0, locals := 66 } : Room) s m args below meth c Γ D 0 0 (MQ below (QcA Γ D Pst) args s 0 0 (frB Γ)) σ 25 [some (.ref (Γ.1 + 333)), some (.int v1), some (.int v2), none, none, none, none] [] := by
  intro n
  induction n with
  | zero =>
    intro v2 σ z hF hK
    cases hF
  | succ n ih =>
    intro v2 σ z hF hK
    obtain ⟨y9, hB, hF⟩ := whl_step hF
    change F_M_weddings_25_b v1 v2 σ = some y9 at hB
    unfold F_M_weddings_25_b at hB
    refine e_iload_n X dX12_weddings_25 rfl rfl ?_
    refine e_iload_n X dX12_weddings_26 rfl rfl ?_
    refine e_icmp_gt X 142 dX12_weddings_27 (by decide) (fun c4 => ?_) (fun c4 => ?_)
    · skip
      rw [if_pos c4] at hB
      have hy9 := Option.some.inj hB; change (.inr ((v2, σ))) = y9 at hy9; subst hy9
      have hz9 := Option.some.inj hF; change ((v2, σ)) = z at hz9; subst hz9
      exact e_le hK (And.intro rfl (And.intro rfl (And.intro rfl (trivial))))
    · skip
      rw [if_neg c4] at hB
      refine e_iconst X 0 dX12_weddings_30 rfl ?_
      refine e_istore_n X rfl dX12_weddings_31 rfl (by decide) ?_
      obtain ⟨z7, h_z7, hB⟩ := obind_out hB
      refine e_le (L_M_weddings_32 X hr σ v1 v2 _ 0 h_z7 ?_) (And.intro rfl (And.intro rfl (And.intro rfl (And.intro rfl (trivial)))))
      refine e_iload_n X dX12_weddings_46 rfl rfl ?_
      refine e_iconst X 1 dX12_weddings_47 rfl ?_
      refine e_iload_n X dX12_weddings_48 rfl rfl ?_
      refine e_ishl X dX12_weddings_49 ?_
      refine e_iconst X (-1) dX12_weddings_50 rfl ?_
      refine e_ixor X dX12_weddings_51 ?_
      refine e_iand X dX12_weddings_52 ?_
      obtain ⟨x8, h_x8, hB⟩ := bindT_out hB
      refine e_istore X h_x8 dX12_weddings_53 (by decide) ?_
      refine e_aload_n X dX12_weddings_55 rfl rfl ?_
      refine ge_M_pairs X wf_X12_48 dX12_weddings_56 ?_
      refine e_iload X dX12_weddings_59 rfl ?_
      obtain ⟨c9, hB⟩ := chk_out hB
      refine e_iald X (j := x8.toNatClampNeg) rfl rfl (inb_in c9) rfl dX12_weddings_61 ?_
      obtain ⟨x10, h_x10, hB⟩ := bindT_out hB
      refine e_istore X h_x10 dX12_weddings_62 (by decide) ?_
      refine e_iload_n X dX12_weddings_64 rfl rfl ?_
      refine e_iconst X 1 dX12_weddings_65 rfl ?_
      refine e_iadd X dX12_weddings_66 ?_
      obtain ⟨x11, h_x11, hB⟩ := bindT_out hB
      refine e_istore X h_x11 dX12_weddings_67 (by decide) ?_
      obtain ⟨z20, h_z20, hB⟩ := obind_out hB
      refine e_le (L_M_weddings_69 X hr σ v1 v2 z7 x8 _ x11 x10 h_z20 rfl ?_) (And.intro rfl (And.intro rfl (And.intro rfl (And.intro rfl (And.intro rfl (And.intro rfl (And.intro rfl (trivial))))))))
      refine e_aload_n X dX12_weddings_128 rfl rfl ?_
      refine ge_M_pairs X wf_X12_48 dX12_weddings_129 ?_
      refine e_iload_n X dX12_weddings_132 rfl rfl ?_
      refine e_iload X dX12_weddings_133 rfl ?_
      obtain ⟨c21, hB⟩ := chk_out hB
      obtain ⟨σ22, h_σ22, hB⟩ := bindT_out hB
      refine e_iast X (j := v2.toNatClampNeg) rfl rfl (inb_in c21) rfl dX12_weddings_135 h_σ22 ?_
      refine e_iinc X 1 dX12_weddings_136 rfl rfl (by decide) ?_
      obtain ⟨x23, h_x23, hB⟩ := bindT_out hB
      rw [← h_x23]
      refine e_goto X 25 dX12_weddings_139 (by decide) ?_
      have hy9 := Option.some.inj hB; change (.inl ((x23, σ22))) = y9 at hy9; subst hy9
      exact e_le (ih x23 σ22 hF hK) (And.intro rfl (And.intro rfl (And.intro rfl (trivial))))
set_option maxRecDepth 20000 in
set_option maxHeartbeats 4000000 in
theorem C_M_weddings (hG : Gok l Γ D s0) (σ : Mem)   {out : Mem × Int32} (hF : F_M_weddings σ = some out) : CT l Γ D s0 yX12_weddings cX12_weddings 7 (some .int) (3) 0 0 (66) σ [.ref (Γ.1 + 333)] (PI (some (.int out.2)) out.1) := by
  unfold F_M_weddings at hF
  refine e_met (own := RX12) hG (by decide +kernel) rfl rfl (Nat.le_of_ble_eq_true rfl) ?_
  intro p e s m args below meth c X hr
  show E p l e _ s m args below meth c Γ D 0 0 _ σ 0 [some (.ref (Γ.1 + 333)), none, none, none, none, none, none] []
  refine e_aload_n X dX12_weddings_0 rfl rfl ?_
  refine e_iconst X 0 dX12_weddings_1 rfl ?_
  obtain ⟨σ1, h_σ1, hF⟩ := bindT_out hF
  refine pu_M_thrown X wf_X12_51 dX12_weddings_2 h_σ1 ?_
  refine e_iconst X 1 dX12_weddings_5 rfl ?_
  refine e_aload_n X dX12_weddings_6 rfl rfl ?_
  refine ge_M_m X wf_X12_7 dX12_weddings_7 ?_
  refine e_iconst X 3 dX12_weddings_10 rfl ?_
  refine e_iald X (j := 3) rfl rfl (vp_in_iff.mpr (by decide)) rfl dX12_weddings_11 ?_
  refine e_ishl X dX12_weddings_12 ?_
  refine e_iconst X 1 dX12_weddings_13 rfl ?_
  refine e_isub X dX12_weddings_14 ?_
  obtain ⟨x2, h_x2, hF⟩ := bindT_out hF
  refine e_istore_n X h_x2 dX12_weddings_15 rfl (by decide) ?_
  refine e_aload_n X dX12_weddings_16 rfl rfl ?_
  refine ge_M_pairs X wf_X12_48 dX12_weddings_17 ?_
  refine e_iconst X 0 dX12_weddings_20 rfl ?_
  refine e_iconst X 0 dX12_weddings_21 rfl ?_
  obtain ⟨σ3, h_σ3, hF⟩ := bindT_out hF
  refine e_iast X (j := 0) rfl rfl (vp_in_iff.mpr (by decide)) rfl dX12_weddings_22 h_σ3 ?_
  refine e_iconst X 1 dX12_weddings_23 rfl ?_
  refine e_istore_n X rfl dX12_weddings_24 rfl (by decide) ?_
  obtain ⟨z24, h_z24, hF⟩ := obind_out hF
  refine e_le (L_M_weddings_25 X hr x2 _ 1 σ3 h_z24 ?_) (And.intro rfl (And.intro rfl (And.intro rfl (trivial))))
  refine e_aload_n X dX12_weddings_142 rfl rfl ?_
  refine ge_M_pairs X wf_X12_48 dX12_weddings_143 ?_
  refine e_iload_n X dX12_weddings_146 rfl rfl ?_
  obtain ⟨c25, hF⟩ := chk_out hF
  refine e_iald X (j := x2.toNatClampNeg) rfl rfl (inb_in c25) rfl dX12_weddings_147 ?_
  exact e_iret X hr dX12_weddings_148 (Nat.le_of_ble_eq_true rfl) (Nat.le_of_ble_eq_true rfl) (by cases hF; exact ⟨rfl, rfl⟩)
set_option maxRecDepth 20000 in
set_option maxHeartbeats 4000000 in
theorem L_M_told__30 (X : Cx p l s m args meth c Γ D s0 RX12 cX12_told_ 8) (hr : meth.sig.returnType = (some .int)) (σ : Mem) (v1 : Int32)  : ∀ (n : Nat) (v2 : Int32) (v3 : Int32) {z : Int32 × Int32}, whl (fun s => F_M_told__30_b σ v1 s.1 s.2) n (v2, v3) = some z → (E p l e ({ frames := 0, cells := 0, slots := 0, locals := 0 } : Room) s m args below meth c Γ D 0 0 (MQ below (QcA Γ D Pst) args s 0 0 (frB Γ)) σ 85 [some (.ref (Γ.1 + 333)), some (.int v1), some (.int z.1), some (.int z.2), none, none, none, none] []) → E p l e ({ frames := 0, cells := 0, slots := 0, locals := 0 } : Room) s m args below meth c Γ D 0 0 (MQ below (QcA Γ D Pst) args s 0 0 (frB Γ)) σ 30 [some (.ref (Γ.1 + 333)), some (.int v1), some (.int v2), some (.int v3), none, none, none, none] [] := by
  intro n
  induction n with
  | zero =>
    intro v2 v3 z hF hK
    cases hF
  | succ n ih =>
    intro v2 v3 z hF hK
    obtain ⟨y9, hB, hF⟩ := whl_step hF
    change F_M_told__30_b σ v1 v2 v3 = some y9 at hB
    unfold F_M_told__30_b at hB
    refine e_iload_n X dX12_told__30 rfl rfl ?_
    refine e_iload_n X dX12_told__31 rfl rfl ?_
    refine e_icmp_ge X 85 dX12_told__32 (by decide) (fun c4 => ?_) (fun c4 => ?_)
    · skip
      rw [if_neg c4] at hB
      have hy9 := Option.some.inj hB; change (.inr ((v2, v3))) = y9 at hy9; subst hy9
      have hz9 := Option.some.inj hF; change ((v2, v3)) = z at hz9; subst hz9
      exact e_le hK (And.intro rfl (And.intro rfl (And.intro rfl (And.intro rfl (trivial)))))
    · skip
      rw [if_pos c4] at hB
      refine e_iload_n X dX12_told__35 rfl rfl ?_
      refine e_if_eq X 85 dX12_told__36 (by decide) (fun c5 => ?_) (fun c5 => ?_)
      · skip
        rw [if_pos c5] at hB
        have hy9 := Option.some.inj hB; change (.inr ((v2, v3))) = y9 at hy9; subst hy9
        have hz9 := Option.some.inj hF; change ((v2, v3)) = z at hz9; subst hz9
        exact e_le hK (And.intro rfl (And.intro rfl (And.intro rfl (And.intro rfl (trivial)))))
      · skip
        rw [if_neg c5] at hB
        refine e_aload_n X dX12_told__39 rfl rfl ?_
        refine ge_M_tape X wf_X12_22 dX12_told__40 ?_
        refine e_iload_n X dX12_told__43 rfl rfl ?_
        obtain ⟨c6, hB⟩ := chk_out hB
        refine e_iald X (j := v3.toNatClampNeg) rfl rfl (inb_in c6) rfl dX12_told__44 ?_
        refine e_aload_n X dX12_told__45 rfl rfl ?_
        refine ge_M_tape X wf_X12_22 dX12_told__46 ?_
        refine e_iload_n X dX12_told__49 rfl rfl ?_
        refine e_iconst X 1 dX12_told__50 rfl ?_
        refine e_iadd X dX12_told__51 ?_
        obtain ⟨i7, h_i7, hB⟩ := bindT_out hB
        obtain ⟨c8, hB⟩ := chk_out hB
        refine e_iald X (j := i7.toNatClampNeg) h_i7 rfl (inb_in c8) rfl dX12_told__52 ?_
        refine e_icmp_gt X 77 dX12_told__53 (by decide) (fun c9 => ?_) (fun c9 => ?_)
        · skip
          rw [if_pos c9] at hB
          refine e_iconst X 0 dX12_told__77 rfl ?_
          refine e_istore_n X rfl dX12_told__78 rfl (by decide) ?_
          refine e_iinc X 3 dX12_told__79 rfl rfl (by decide) ?_
          obtain ⟨x10, h_x10, hB⟩ := bindT_out hB
          rw [← h_x10]
          refine e_goto X 30 dX12_told__82 (by decide) ?_
          have hy9 := Option.some.inj hB; change (.inl ((0, x10))) = y9 at hy9; subst hy9
          exact e_le (ih 0 x10 hF hK) (And.intro rfl (And.intro rfl (And.intro rfl (And.intro rfl (trivial)))))
        · skip
          rw [if_neg c9] at hB
          refine e_aload_n X dX12_told__56 rfl rfl ?_
          refine ge_M_tape X wf_X12_22 dX12_told__57 ?_
          refine e_iload_n X dX12_told__60 rfl rfl ?_
          refine e_iconst X 1 dX12_told__61 rfl ?_
          refine e_iadd X dX12_told__62 ?_
          obtain ⟨i11, h_i11, hB⟩ := bindT_out hB
          obtain ⟨c12, hB⟩ := chk_out hB
          refine e_iald X (j := i11.toNatClampNeg) h_i11 rfl (inb_in c12) rfl dX12_told__63 ?_
          refine e_aload_n X dX12_told__64 rfl rfl ?_
          refine ge_M_m X wf_X12_7 dX12_told__65 ?_
          refine e_iconst X 3 dX12_told__68 rfl ?_
          refine e_iald X (j := 3) rfl rfl (vp_in_iff.mpr (by decide)) rfl dX12_told__69 ?_
          refine e_icmp_ge X 77 dX12_told__70 (by decide) (fun c13 => ?_) (fun c13 => ?_)
          · skip
            rw [if_neg c13] at hB
            refine e_iconst X 0 dX12_told__77 rfl ?_
            refine e_istore_n X rfl dX12_told__78 rfl (by decide) ?_
            refine e_iinc X 3 dX12_told__79 rfl rfl (by decide) ?_
            obtain ⟨x14, h_x14, hB⟩ := bindT_out hB
            rw [← h_x14]
            refine e_goto X 30 dX12_told__82 (by decide) ?_
            have hy9 := Option.some.inj hB; change (.inl ((0, x14))) = y9 at hy9; subst hy9
            exact e_le (ih 0 x14 hF hK) (And.intro rfl (And.intro rfl (And.intro rfl (And.intro rfl (trivial)))))
          · skip
            rw [if_pos c13] at hB
            refine e_iconst X 1 dX12_told__73 rfl ?_
            refine e_goto X 78 dX12_told__74 (by decide) ?_
            refine e_istore_n X rfl dX12_told__78 rfl (by decide) ?_
            refine e_iinc X 3 dX12_told__79 rfl rfl (by decide) ?_
            obtain ⟨x15, h_x15, hB⟩ := bindT_out hB
            rw [← h_x15]
            refine e_goto X 30 dX12_told__82 (by decide) ?_
            have hy9 := Option.some.inj hB; change (.inl ((1, x15))) = y9 at hy9; subst hy9
            exact e_le (ih 1 x15 hF hK) (And.intro rfl (And.intro rfl (And.intro rfl (And.intro rfl (trivial)))))
set_option maxRecDepth 20000 in
set_option maxHeartbeats 4000000 in
theorem L_M_told__148 (X : Cx p l s m args meth c Γ D s0 RX12 cX12_told_ 8) (hr : meth.sig.returnType = (some .int)) (σ : Mem) (v1 : Int32) (v2 : Int32) (v3 : Int32) (v4 : Int32) (v5 : Int32)  : ∀ (n : Nat) (v6 : Int32) (v7 : Int32) {z : Int32 × Int32}, whl (fun s => F_M_told__148_b σ v1 v2 v3 v4 v5 s.1 s.2) n (v6, v7) = some z → (E p l e ({ frames := 0, cells := 0, slots := 0, locals := 0 } : Room) s m args below meth c Γ D 0 0 (MQ below (QcA Γ D Pst) args s 0 0 (frB Γ)) σ 180 [some (.ref (Γ.1 + 333)), some (.int v1), some (.int v2), some (.int v3), some (.int v4), some (.int v5), some (.int z.1), some (.int z.2)] []) → E p l e ({ frames := 0, cells := 0, slots := 0, locals := 0 } : Room) s m args below meth c Γ D 0 0 (MQ below (QcA Γ D Pst) args s 0 0 (frB Γ)) σ 148 [some (.ref (Γ.1 + 333)), some (.int v1), some (.int v2), some (.int v3), some (.int v4), some (.int v5), some (.int v6), some (.int v7)] [] := by
  intro n
  induction n with
  | zero =>
    intro v6 v7 z hF hK
    cases hF
  | succ n ih =>
    intro v6 v7 z hF hK
    obtain ⟨y9, hB, hF⟩ := whl_step hF
    change F_M_told__148_b σ v1 v2 v3 v4 v5 v6 v7 = some y9 at hB
    unfold F_M_told__148_b at hB
    refine e_iload X dX12_told__148 rfl ?_
    refine e_aload_n X dX12_told__150 rfl rfl ?_
    refine ge_M_tape X wf_X12_22 dX12_told__151 ?_
    refine e_iload X dX12_told__154 rfl ?_
    refine e_iconst X 1 dX12_told__156 rfl ?_
    refine e_iadd X dX12_told__157 ?_
    obtain ⟨i26, h_i26, hB⟩ := bindT_out hB
    obtain ⟨c27, hB⟩ := chk_out hB
    refine e_iald X (j := i26.toNatClampNeg) h_i26 rfl (inb_in c27) rfl dX12_told__158 ?_
    refine e_icmp_gt X 180 dX12_told__159 (by decide) (fun c28 => ?_) (fun c28 => ?_)
    · skip
      rw [if_pos c28] at hB
      have hy9 := Option.some.inj hB; change (.inr ((v6, v7))) = y9 at hy9; subst hy9
      have hz9 := Option.some.inj hF; change ((v6, v7)) = z at hz9; subst hz9
      exact e_le hK (And.intro rfl (And.intro rfl (And.intro rfl (And.intro rfl (And.intro rfl (And.intro rfl (And.intro rfl (And.intro rfl (trivial)))))))))
    · skip
      rw [if_neg c28] at hB
      refine e_iload X dX12_told__162 rfl ?_
      refine e_iload X dX12_told__164 rfl ?_
      refine e_iload X dX12_told__166 rfl ?_
      refine e_ishr X dX12_told__168 ?_
      refine e_iconst X 1 dX12_told__169 rfl ?_
      refine e_iand X dX12_told__170 ?_
      refine e_iadd X dX12_told__171 ?_
      obtain ⟨x29, h_x29, hB⟩ := bindT_out hB
      refine e_istore X h_x29 dX12_told__172 (by decide) ?_
      refine e_iinc X 1 dX12_told__174 rfl rfl (by decide) ?_
      obtain ⟨x30, h_x30, hB⟩ := bindT_out hB
      rw [← h_x30]
      refine e_goto X 148 dX12_told__177 (by decide) ?_
      have hy9 := Option.some.inj hB; change (.inl ((x29, x30))) = y9 at hy9; subst hy9
      exact e_le (ih x29 x30 hF hK) (And.intro rfl (And.intro rfl (And.intro rfl (And.intro rfl (And.intro rfl (And.intro rfl (And.intro rfl (And.intro rfl (trivial)))))))))
set_option maxRecDepth 20000 in
set_option maxHeartbeats 4000000 in
theorem L_M_told__120 (X : Cx p l s m args meth c Γ D s0 RX12 cX12_told_ 8) (hr : meth.sig.returnType = (some .int)) (v1 : Int32) (v2 : Int32) (v3 : Int32) (v4 : Int32)  : ∀ (n : Nat) (v5 : Int32) (σ : Mem) {z : Int32 × Mem}, whl (fun s => F_M_told__120_b v1 v2 v3 v4 s.1 s.2) n (v5, σ) = some z → (E p l e ({ frames := 0, cells := 0, slots := 0, locals := 0 } : Room) s m args below meth c Γ D 0 0 (MQ below (QcA Γ D Pst) args s 0 0 (frB Γ)) z.2 212 [some (.ref (Γ.1 + 333)), some (.int v1), some (.int v2), some (.int v3), some (.int v4), some (.int z.1), none, none] []) → E p l e ({ frames := 0, cells := 0, slots := 0, locals := 0 } : Room) s m args below meth c Γ D 0 0 (MQ below (QcA Γ D Pst) args s 0 0 (frB Γ)) σ 120 [some (.ref (Γ.1 + 333)), some (.int v1), some (.int v2), some (.int v3), some (.int v4), some (.int v5), none, none] [] := by
  intro n
  induction n with
  | zero =>
    intro v5 σ z hF hK
    cases hF
  | succ n ih =>
    intro v5 σ z hF hK
    obtain ⟨y9, hB, hF⟩ := whl_step hF
    change F_M_told__120_b v1 v2 v3 v4 v5 σ = some y9 at hB
    unfold F_M_told__120_b at hB
    refine e_iload X dX12_told__120 rfl ?_
    refine e_iload_n X dX12_told__122 rfl rfl ?_
    refine e_icmp_ge X 212 dX12_told__123 (by decide) (fun c21 => ?_) (fun c21 => ?_)
    · skip
      rw [if_neg c21] at hB
      have hy9 := Option.some.inj hB; change (.inr ((v5, σ))) = y9 at hy9; subst hy9
      have hz9 := Option.some.inj hF; change ((v5, σ)) = z at hz9; subst hz9
      exact e_le hK (And.intro rfl (And.intro rfl (And.intro rfl (And.intro rfl (And.intro rfl (And.intro rfl (trivial)))))))
    · skip
      rw [if_pos c21] at hB
      refine e_aload_n X dX12_told__126 rfl rfl ?_
      refine ge_M_fits X wf_X12_44 dX12_told__127 ?_
      refine e_iload X dX12_told__130 rfl ?_
      obtain ⟨c22, hB⟩ := chk_out hB
      refine e_zald X rfl rfl (inb_in c22) rfl dX12_told__132 ?_
      refine e_if_eq X 212 dX12_told__133 (by decide) (fun c23 => ?_) (fun c23 => ?_)
      · skip
        rw [if_pos c23] at hB
        have hy9 := Option.some.inj hB; change (.inr ((v5, σ))) = y9 at hy9; subst hy9
        have hz9 := Option.some.inj hF; change ((v5, σ)) = z at hz9; subst hz9
        exact e_le hK (And.intro rfl (And.intro rfl (And.intro rfl (And.intro rfl (And.intro rfl (And.intro rfl (trivial)))))))
      · skip
        rw [if_neg c23] at hB
        refine e_iconst X 0 dX12_told__136 rfl ?_
        refine e_istore X rfl dX12_told__137 (by decide) ?_
        refine e_aload_n X dX12_told__139 rfl rfl ?_
        refine ge_M_tape X wf_X12_22 dX12_told__140 ?_
        refine e_iload X dX12_told__143 rfl ?_
        obtain ⟨c24, hB⟩ := chk_out hB
        refine e_iald X (j := v5.toNatClampNeg) rfl rfl (inb_in c24) rfl dX12_told__145 ?_
        obtain ⟨x25, h_x25, hB⟩ := bindT_out hB
        refine e_istore X h_x25 dX12_told__146 (by decide) ?_
        obtain ⟨z31, h_z31, hB⟩ := obind_out hB
        refine e_le (L_M_told__148 X hr σ v1 v2 v3 v4 v5 _ 0 x25 h_z31 ?_) (And.intro rfl (And.intro rfl (And.intro rfl (And.intro rfl (And.intro rfl (And.intro rfl (And.intro rfl (And.intro rfl (trivial)))))))))
        refine e_aload_n X dX12_told__180 rfl rfl ?_
        refine ge_M_fits X wf_X12_44 dX12_told__181 ?_
        refine e_iload X dX12_told__184 rfl ?_
        refine e_iload X dX12_told__186 rfl ?_
        refine e_aload_n X dX12_told__188 rfl rfl ?_
        refine ge_M_tape X wf_X12_22 dX12_told__189 ?_
        refine e_iload X dX12_told__192 rfl ?_
        refine e_iconst X 2 dX12_told__194 rfl ?_
        refine e_iadd X dX12_told__195 ?_
        obtain ⟨i32, h_i32, hB⟩ := bindT_out hB
        obtain ⟨c33, hB⟩ := chk_out hB
        refine e_iald X (j := i32.toNatClampNeg) h_i32 rfl (inb_in c33) rfl dX12_told__196 ?_
        refine e_icmp_ne X 204 dX12_told__197 (by decide) (fun c34 => ?_) (fun c34 => ?_)
        · skip
          rw [if_neg c34] at hB
          refine e_iconst X 0 dX12_told__204 rfl ?_
          obtain ⟨c35, hB⟩ := chk_out hB
          obtain ⟨σ36, h_σ36, hB⟩ := bindT_out hB
          refine e_zast X rfl (Or.inl rfl) rfl (inb_in c35) rfl dX12_told__205 h_σ36 ?_
          refine e_iinc X 3 dX12_told__206 rfl rfl (by decide) ?_
          obtain ⟨x37, h_x37, hB⟩ := bindT_out hB
          rw [← h_x37]
          refine e_goto X 120 dX12_told__209 (by decide) ?_
          have hy9 := Option.some.inj hB; change (.inl ((x37, σ36))) = y9 at hy9; subst hy9
          exact e_le (ih x37 σ36 hF hK) (And.intro rfl (And.intro rfl (And.intro rfl (And.intro rfl (And.intro rfl (And.intro rfl (trivial)))))))
        · skip
          rw [if_pos c34] at hB
          refine e_iconst X 1 dX12_told__200 rfl ?_
          refine e_goto X 205 dX12_told__201 (by decide) ?_
          obtain ⟨c38, hB⟩ := chk_out hB
          obtain ⟨σ39, h_σ39, hB⟩ := bindT_out hB
          refine e_zast X rfl (Or.inr rfl) rfl (inb_in c38) rfl dX12_told__205 h_σ39 ?_
          refine e_iinc X 3 dX12_told__206 rfl rfl (by decide) ?_
          obtain ⟨x40, h_x40, hB⟩ := bindT_out hB
          rw [← h_x40]
          refine e_goto X 120 dX12_told__209 (by decide) ?_
          have hy9 := Option.some.inj hB; change (.inl ((x40, σ39))) = y9 at hy9; subst hy9
          exact e_le (ih x40 σ39 hF hK) (And.intro rfl (And.intro rfl (And.intro rfl (And.intro rfl (And.intro rfl (And.intro rfl (trivial)))))))
set_option maxRecDepth 20000 in
set_option maxHeartbeats 4000000 in
theorem L_M_told__96 (X : Cx p l s m args meth c Γ D s0 RX12 cX12_told_ 8) (hr : meth.sig.returnType = (some .int)) (v1 : Int32) (v2 : Int32)  : ∀ (n : Nat) (v3 : Int32) (v4 : Int32) (σ : Mem) {z : Int32 × Int32 × Mem}, whl (fun s => F_M_told__96_b v1 v2 s.1 s.2.1 s.2.2) n (v3, v4, σ) = some z → (E p l e ({ frames := 0, cells := 0, slots := 0, locals := 0 } : Room) s m args below meth c Γ D 0 0 (MQ below (QcA Γ D Pst) args s 0 0 (frB Γ)) z.2.2 236 [some (.ref (Γ.1 + 333)), some (.int v1), some (.int v2), some (.int z.1), some (.int z.2.1), none, none, none] []) → E p l e ({ frames := 0, cells := 0, slots := 0, locals := 0 } : Room) s m args below meth c Γ D 0 0 (MQ below (QcA Γ D Pst) args s 0 0 (frB Γ)) σ 96 [some (.ref (Γ.1 + 333)), some (.int v1), some (.int v2), some (.int v3), some (.int v4), none, none, none] [] := by
  intro n
  induction n with
  | zero =>
    intro v3 v4 σ z hF hK
    cases hF
  | succ n ih =>
    intro v3 v4 σ z hF hK
    obtain ⟨y9, hB, hF⟩ := whl_step hF
    change F_M_told__96_b v1 v2 v3 v4 σ = some y9 at hB
    unfold F_M_told__96_b at hB
    refine e_iload X dX12_told__96 rfl ?_
    refine e_iconst X 1 dX12_told__98 rfl ?_
    refine e_aload_n X dX12_told__99 rfl rfl ?_
    refine ge_M_m X wf_X12_7 dX12_told__100 ?_
    refine e_iconst X 3 dX12_told__103 rfl ?_
    refine e_iald X (j := 3) rfl rfl (vp_in_iff.mpr (by decide)) rfl dX12_told__104 ?_
    refine e_ishl X dX12_told__105 ?_
    refine e_icmp_ge X 236 dX12_told__106 (by decide) (fun c18 => ?_) (fun c18 => ?_)
    · skip
      rw [if_neg c18] at hB
      have hy9 := Option.some.inj hB; change (.inr ((v3, v4, σ))) = y9 at hy9; subst hy9
      have hz9 := Option.some.inj hF; change ((v3, v4, σ)) = z at hz9; subst hz9
      exact e_le hK (And.intro rfl (And.intro rfl (And.intro rfl (And.intro rfl (And.intro rfl (trivial))))))
    · skip
      rw [if_pos c18] at hB
      refine e_aload_n X dX12_told__109 rfl rfl ?_
      refine ge_M_fits X wf_X12_44 dX12_told__110 ?_
      refine e_iload X dX12_told__113 rfl ?_
      refine e_iconst X 1 dX12_told__115 rfl ?_
      obtain ⟨c19, hB⟩ := chk_out hB
      obtain ⟨σ20, h_σ20, hB⟩ := bindT_out hB
      refine e_zast X rfl (Or.inr rfl) rfl (inb_in c19) rfl dX12_told__116 h_σ20 ?_
      refine e_iconst X 0 dX12_told__117 rfl ?_
      refine e_istore X rfl dX12_told__118 (by decide) ?_
      obtain ⟨z41, h_z41, hB⟩ := obind_out hB
      refine e_le (L_M_told__120 X hr v1 v2 v3 v4 _ 0 σ20 h_z41 ?_) (And.intro rfl (And.intro rfl (And.intro rfl (And.intro rfl (And.intro rfl (And.intro rfl (trivial)))))))
      refine e_iload_n X dX12_told__212 rfl rfl ?_
      refine e_aload_n X dX12_told__213 rfl rfl ?_
      refine ge_M_fits X wf_X12_44 dX12_told__214 ?_
      refine e_iload X dX12_told__217 rfl ?_
      obtain ⟨c42, hB⟩ := chk_out hB
      refine e_zald X rfl rfl (inb_in c42) rfl dX12_told__219 ?_
      refine e_if_eq X 227 dX12_told__220 (by decide) (fun c43 => ?_) (fun c43 => ?_)
      · skip
        rw [if_pos c43] at hB
        refine e_iconst X 0 dX12_told__227 rfl ?_
        refine e_iadd X dX12_told__228 ?_
        obtain ⟨x44, h_x44, hB⟩ := bindT_out hB
        refine e_istore_n X h_x44 dX12_told__229 rfl (by decide) ?_
        refine e_iinc X 1 dX12_told__230 rfl rfl (by decide) ?_
        obtain ⟨x45, h_x45, hB⟩ := bindT_out hB
        rw [← h_x45]
        refine e_goto X 96 dX12_told__233 (by decide) ?_
        have hy9 := Option.some.inj hB; change (.inl ((x44, x45, z41.2))) = y9 at hy9; subst hy9
        exact e_le (ih x44 x45 z41.2 hF hK) (And.intro rfl (And.intro rfl (And.intro rfl (And.intro rfl (And.intro rfl (trivial))))))
      · skip
        rw [if_neg c43] at hB
        refine e_iconst X 1 dX12_told__223 rfl ?_
        refine e_goto X 228 dX12_told__224 (by decide) ?_
        refine e_iadd X dX12_told__228 ?_
        obtain ⟨x46, h_x46, hB⟩ := bindT_out hB
        refine e_istore_n X h_x46 dX12_told__229 rfl (by decide) ?_
        refine e_iinc X 1 dX12_told__230 rfl rfl (by decide) ?_
        obtain ⟨x47, h_x47, hB⟩ := bindT_out hB
        rw [← h_x47]
        refine e_goto X 96 dX12_told__233 (by decide) ?_
        have hy9 := Option.some.inj hB; change (.inl ((x46, x47, z41.2))) = y9 at hy9; subst hy9
        exact e_le (ih x46 x47 z41.2 hF hK) (And.intro rfl (And.intro rfl (And.intro rfl (And.intro rfl (And.intro rfl (trivial))))))
set_option maxRecDepth 20000 in
set_option maxHeartbeats 4000000 in
theorem C_M_told_ (hG : Gok l Γ D s0) (σ : Mem)   {out : Mem × Int32} (hF : F_M_told_ σ = some out) : CT l Γ D s0 yX12_told_ cX12_told_ 8 (some .int) (0) 0 0 (0) σ [.ref (Γ.1 + 333)] (PI (some (.int out.2)) out.1) := by
  unfold F_M_told_ at hF
  refine e_met (own := RX12) hG (by decide +kernel) rfl rfl (Nat.le_of_ble_eq_true rfl) ?_
  intro p e s m args below meth c X hr
  show E p l e _ s m args below meth c Γ D 0 0 _ σ 0 [some (.ref (Γ.1 + 333)), none, none, none, none, none, none, none] []
  refine e_aload_n X dX12_told__0 rfl rfl ?_
  refine ge_M_taped X wf_X12_76 dX12_told__1 ?_
  obtain ⟨x1, h_x1, hF⟩ := bindT_out hF
  refine e_istore_n X h_x1 dX12_told__4 rfl (by decide) ?_
  refine e_aload_n X dX12_told__5 rfl rfl ?_
  refine e_iconst X 0 dX12_told__6 rfl ?_
  obtain ⟨σ2, h_σ2, hF⟩ := bindT_out hF
  refine pu_M_taped X wf_X12_76 dX12_told__7 h_σ2 ?_
  refine e_iload_n X dX12_told__10 rfl rfl ?_
  refine e_iconst X 3 dX12_told__11 rfl ?_
  refine e_irem X dX12_told__12 (by decide) ?_
  refine e_if_ne X 26 dX12_told__13 (by decide) (fun c3 => ?_) (fun c3 => ?_)
  · skip
    rw [if_neg c3] at hF
    refine e_iconst X 0 dX12_told__26 rfl ?_
    refine e_istore_n X rfl dX12_told__27 rfl (by decide) ?_
    refine e_iconst X 0 dX12_told__28 rfl ?_
    refine e_istore_n X rfl dX12_told__29 rfl (by decide) ?_
    obtain ⟨z16, h_z16, hF⟩ := obind_out hF
    refine e_le (L_M_told__30 X hr σ2 x1 _ 0 0 h_z16 ?_) (And.intro rfl (And.intro rfl (And.intro rfl (And.intro rfl (trivial)))))
    refine e_iload_n X dX12_told__85 rfl rfl ?_
    refine e_if_ne X 91 dX12_told__86 (by decide) (fun c17 => ?_) (fun c17 => ?_)
    · skip
      rw [if_neg c17] at hF
      refine e_iconst X 0 dX12_told__91 rfl ?_
      refine e_istore_n X rfl dX12_told__92 rfl (by decide) ?_
      refine e_iconst X 0 dX12_told__93 rfl ?_
      refine e_istore X rfl dX12_told__94 (by decide) ?_
      obtain ⟨z48, h_z48, hF⟩ := obind_out hF
      refine e_le (L_M_told__96 X hr x1 z16.1 _ 0 0 σ2 h_z48 ?_) (And.intro rfl (And.intro rfl (And.intro rfl (And.intro rfl (And.intro rfl (trivial))))))
      refine e_iload_n X dX12_told__236 rfl rfl ?_
      exact e_iret X hr dX12_told__237 (Nat.le_of_ble_eq_true rfl) (Nat.le_of_ble_eq_true rfl) (by cases hF; exact ⟨rfl, rfl⟩)
    · skip
      rw [if_pos c17] at hF
      refine e_iconst X (-1) dX12_told__89 rfl ?_
      exact e_iret X hr dX12_told__90 (Nat.le_of_ble_eq_true rfl) (Nat.le_of_ble_eq_true rfl) (by cases hF; exact ⟨rfl, rfl⟩)
  · skip
    rw [if_pos c3] at hF
    refine e_iload_n X dX12_told__16 rfl rfl ?_
    refine e_bipush X 36 dX12_told__17 rfl ?_
    refine e_icmp_gt X 26 dX12_told__19 (by decide) (fun c49 => ?_) (fun c49 => ?_)
    · skip
      rw [if_pos c49] at hF
      refine e_iconst X 0 dX12_told__26 rfl ?_
      refine e_istore_n X rfl dX12_told__27 rfl (by decide) ?_
      refine e_iconst X 0 dX12_told__28 rfl ?_
      refine e_istore_n X rfl dX12_told__29 rfl (by decide) ?_
      obtain ⟨z50, h_z50, hF⟩ := obind_out hF
      refine e_le (L_M_told__30 X hr σ2 x1 _ 0 0 h_z50 ?_) (And.intro rfl (And.intro rfl (And.intro rfl (And.intro rfl (trivial)))))
      refine e_iload_n X dX12_told__85 rfl rfl ?_
      refine e_if_ne X 91 dX12_told__86 (by decide) (fun c51 => ?_) (fun c51 => ?_)
      · skip
        rw [if_neg c51] at hF
        refine e_iconst X 0 dX12_told__91 rfl ?_
        refine e_istore_n X rfl dX12_told__92 rfl (by decide) ?_
        refine e_iconst X 0 dX12_told__93 rfl ?_
        refine e_istore X rfl dX12_told__94 (by decide) ?_
        obtain ⟨z52, h_z52, hF⟩ := obind_out hF
        refine e_le (L_M_told__96 X hr x1 z50.1 _ 0 0 σ2 h_z52 ?_) (And.intro rfl (And.intro rfl (And.intro rfl (And.intro rfl (And.intro rfl (trivial))))))
        refine e_iload_n X dX12_told__236 rfl rfl ?_
        exact e_iret X hr dX12_told__237 (Nat.le_of_ble_eq_true rfl) (Nat.le_of_ble_eq_true rfl) (by cases hF; exact ⟨rfl, rfl⟩)
      · skip
        rw [if_pos c51] at hF
        refine e_iconst X (-1) dX12_told__89 rfl ?_
        exact e_iret X hr dX12_told__90 (Nat.le_of_ble_eq_true rfl) (Nat.le_of_ble_eq_true rfl) (by cases hF; exact ⟨rfl, rfl⟩)
    · skip
      rw [if_neg c49] at hF
      refine e_iconst X 1 dX12_told__22 rfl ?_
      refine e_goto X 27 dX12_told__23 (by decide) ?_
      refine e_istore_n X rfl dX12_told__27 rfl (by decide) ?_
      refine e_iconst X 0 dX12_told__28 rfl ?_
      refine e_istore_n X rfl dX12_told__29 rfl (by decide) ?_
      obtain ⟨z53, h_z53, hF⟩ := obind_out hF
      refine e_le (L_M_told__30 X hr σ2 x1 _ 1 0 h_z53 ?_) (And.intro rfl (And.intro rfl (And.intro rfl (And.intro rfl (trivial)))))
      refine e_iload_n X dX12_told__85 rfl rfl ?_
      refine e_if_ne X 91 dX12_told__86 (by decide) (fun c54 => ?_) (fun c54 => ?_)
      · skip
        rw [if_neg c54] at hF
        refine e_iconst X 0 dX12_told__91 rfl ?_
        refine e_istore_n X rfl dX12_told__92 rfl (by decide) ?_
        refine e_iconst X 0 dX12_told__93 rfl ?_
        refine e_istore X rfl dX12_told__94 (by decide) ?_
        obtain ⟨z55, h_z55, hF⟩ := obind_out hF
        refine e_le (L_M_told__96 X hr x1 z53.1 _ 0 0 σ2 h_z55 ?_) (And.intro rfl (And.intro rfl (And.intro rfl (And.intro rfl (And.intro rfl (trivial))))))
        refine e_iload_n X dX12_told__236 rfl rfl ?_
        exact e_iret X hr dX12_told__237 (Nat.le_of_ble_eq_true rfl) (Nat.le_of_ble_eq_true rfl) (by cases hF; exact ⟨rfl, rfl⟩)
      · skip
        rw [if_pos c54] at hF
        refine e_iconst X (-1) dX12_told__89 rfl ?_
        exact e_iret X hr dX12_told__90 (Nat.le_of_ble_eq_true rfl) (Nat.le_of_ble_eq_true rfl) (by cases hF; exact ⟨rfl, rfl⟩)
set_option maxRecDepth 20000 in
set_option maxHeartbeats 4000000 in
theorem L_M_with_4 (X : Cx p l s m args meth c Γ D s0 RX12 cX12_with 4) (hr : meth.sig.returnType = (some .int)) (σ : Mem) (v1 : Int32)  : ∀ (n : Nat) (v3 : Int32) (v2 : Int32) {z : Int32}, forSO (fun i s => F_M_with_4_b σ v1 i s) n v3 v2 = some z → n = cnt v3 (((1 : Int32) <<< (((σ 334 3) : Int32) &&& 31))) → ¬ v3 < 0 → (E p l e ({ frames := 1, cells := 0, slots := 0, locals := 21 } : Room) s m args below meth c Γ D 0 0 (MQ below (QcA Γ D Pst) args s 0 0 (frB Γ)) σ 47 [some (.ref (Γ.1 + 333)), some (.int v1), some (.int z), none] []) → E p l e ({ frames := 1, cells := 0, slots := 0, locals := 21 } : Room) s m args below meth c Γ D 0 0 (MQ below (QcA Γ D Pst) args s 0 0 (frB Γ)) σ 4 [some (.ref (Γ.1 + 333)), some (.int v1), some (.int v2), some (.int v3)] [] := by
  intro n
  induction n with
  | zero =>
    intro v3 v2 z hF hn h0 hK
    refine e_iload_n X dX12_with_4 rfl rfl ?_
    refine e_iconst X 1 dX12_with_5 rfl ?_
    refine e_aload_n X dX12_with_6 rfl rfl ?_
    refine ge_M_m X wf_X12_7 dX12_with_7 ?_
    refine e_iconst X 3 dX12_with_10 rfl ?_
    refine e_iald X (j := 3) rfl rfl (vp_in_iff.mpr (by decide)) rfl dX12_with_11 ?_
    refine e_ishl X dX12_with_12 ?_
    refine e_icmp_ge X 47 dX12_with_13 (by decide) (fun c8 => ?_) (fun c8 => ?_)
    · skip
      have hz9 := Option.some.inj hF; change (v2) = z at hz9; subst hz9
      exact e_le hK (And.intro rfl (And.intro rfl (And.intro rfl (trivial))))
    · skip
      exact absurd c8 (cnt0 hn)
  | succ n ih =>
    intro v3 v2 z hF hn h0 hK
    obtain ⟨y9, hB, hF⟩ := forSO_step hF
    change F_M_with_4_b σ v1 v3 v2 = some y9 at hB
    unfold F_M_with_4_b at hB
    refine e_iload_n X dX12_with_4 rfl rfl ?_
    refine e_iconst X 1 dX12_with_5 rfl ?_
    refine e_aload_n X dX12_with_6 rfl rfl ?_
    refine ge_M_m X wf_X12_7 dX12_with_7 ?_
    refine e_iconst X 3 dX12_with_10 rfl ?_
    refine e_iald X (j := 3) rfl rfl (vp_in_iff.mpr (by decide)) rfl dX12_with_11 ?_
    refine e_ishl X dX12_with_12 ?_
    refine e_icmp_ge X 47 dX12_with_13 (by decide) (fun c1 => ?_) (fun c1 => ?_)
    · skip
      exact absurd (cntS hn) c1
    · skip
      refine e_iload_n X dX12_with_16 rfl rfl ?_
      refine e_aload_n X dX12_with_17 rfl rfl ?_
      refine ge_M_fits X wf_X12_44 dX12_with_18 ?_
      refine e_iload_n X dX12_with_21 rfl rfl ?_
      obtain ⟨c2, hB⟩ := chk_out hB
      refine e_zald X rfl rfl (inb_in c2) rfl dX12_with_22 ?_
      refine e_if_eq X 38 dX12_with_23 (by decide) (fun c3 => ?_) (fun c3 => ?_)
      · skip
        rw [if_pos c3] at hB
        refine e_iconst X 0 dX12_with_38 rfl ?_
        refine e_iadd X dX12_with_39 ?_
        obtain ⟨x4, h_x4, hB⟩ := bindT_out hB
        refine e_istore_n X h_x4 dX12_with_40 rfl (by decide) ?_
        refine e_iinc X 1 dX12_with_41 rfl rfl (by decide) ?_
        refine e_goto X 4 dX12_with_44 (by decide) ?_
        have hy9 := Option.some.inj hB; change (x4) = y9 at hy9; subst hy9
        exact e_le (ih _ x4 hF (cntN hn) (nnN h0 (cnt_hi hn)) hK) (And.intro rfl (And.intro rfl (And.intro rfl (And.intro rfl (trivial)))))
      · skip
        rw [if_neg c3] at hB
        refine e_iload_n X dX12_with_26 rfl rfl ?_
        refine e_iload_n X dX12_with_27 rfl rfl ?_
        refine e_callSi X (r := (F_M_isOf σ v3 v1)) (σ1 := σ) [.int v3, .int v1] [.int v2] (C_M_isOf (Cx_gok X) σ v3 v1) gs_X12_65 yk_X12_isOf rfl ⟨Nat.le_of_ble_eq_true rfl, Nat.le_of_ble_eq_true rfl⟩ ⟨Nat.le_of_ble_eq_true rfl, Nat.le_of_ble_eq_true rfl⟩ (Nat.le_of_ble_eq_true rfl) dX12_with_28 rfl ?_
        refine e_if_eq X 38 dX12_with_31 (by decide) (fun c5 => ?_) (fun c5 => ?_)
        · skip
          rw [if_pos c5] at hB
          refine e_iconst X 0 dX12_with_38 rfl ?_
          refine e_iadd X dX12_with_39 ?_
          obtain ⟨x6, h_x6, hB⟩ := bindT_out hB
          refine e_istore_n X h_x6 dX12_with_40 rfl (by decide) ?_
          refine e_iinc X 1 dX12_with_41 rfl rfl (by decide) ?_
          refine e_goto X 4 dX12_with_44 (by decide) ?_
          have hy9 := Option.some.inj hB; change (x6) = y9 at hy9; subst hy9
          exact e_le (ih _ x6 hF (cntN hn) (nnN h0 (cnt_hi hn)) hK) (And.intro rfl (And.intro rfl (And.intro rfl (And.intro rfl (trivial)))))
        · skip
          rw [if_neg c5] at hB
          refine e_iconst X 1 dX12_with_34 rfl ?_
          refine e_goto X 39 dX12_with_35 (by decide) ?_
          refine e_iadd X dX12_with_39 ?_
          obtain ⟨x7, h_x7, hB⟩ := bindT_out hB
          refine e_istore_n X h_x7 dX12_with_40 rfl (by decide) ?_
          refine e_iinc X 1 dX12_with_41 rfl rfl (by decide) ?_
          refine e_goto X 4 dX12_with_44 (by decide) ?_
          have hy9 := Option.some.inj hB; change (x7) = y9 at hy9; subst hy9
          exact e_le (ih _ x7 hF (cntN hn) (nnN h0 (cnt_hi hn)) hK) (And.intro rfl (And.intro rfl (And.intro rfl (And.intro rfl (trivial)))))
set_option maxRecDepth 20000 in
set_option maxHeartbeats 4000000 in
theorem C_M_with (hG : Gok l Γ D s0) (σ : Mem) (v1 : Int32)  {out : Int32} (hF : F_M_with σ v1 = some out) : CT l Γ D s0 yX12_with cX12_with 4 (some .int) (1) 0 0 (21) σ [.ref (Γ.1 + 333), .int v1] (PI (some (.int out)) σ) := by
  unfold F_M_with at hF
  refine e_met (own := RX12) hG (by decide +kernel) rfl rfl (Nat.le_of_ble_eq_true rfl) ?_
  intro p e s m args below meth c X hr
  show E p l e _ s m args below meth c Γ D 0 0 _ σ 0 [some (.ref (Γ.1 + 333)), some (.int v1), none, none] []
  refine e_iconst X 0 dX12_with_0 rfl ?_
  refine e_istore_n X rfl dX12_with_1 rfl (by decide) ?_
  refine e_iconst X 0 dX12_with_2 rfl ?_
  refine e_istore_n X rfl dX12_with_3 rfl (by decide) ?_
  obtain ⟨z9, h_z9, hF⟩ := obind_out hF
  refine e_le (L_M_with_4 X hr σ v1 _ 0 0 h_z9 rfl (by decide) ?_) (And.intro rfl (And.intro rfl (And.intro rfl (And.intro rfl (trivial)))))
  refine e_iload_n X dX12_with_47 rfl rfl ?_
  exact e_iret X hr dX12_with_48 (Nat.le_of_ble_eq_true rfl) (Nat.le_of_ble_eq_true rfl) (by cases hF; exact ⟨rfl, rfl⟩)
set_option maxRecDepth 20000 in
set_option maxHeartbeats 4000000 in
theorem L_M_anniversary_48 (X : Cx p l s m args meth c Γ D s0 RX12 cX12_anniversary 5) (hr : meth.sig.returnType = (some .int)) (σ : Mem) (v1 : Int32) (v2 : Int32)  : ∀ (n : Nat) (v4 : Int32) (v3 : Int32) {z : Int32}, forSO (fun i s => F_M_anniversary_48_b σ v1 v2 i s) n v4 v3 = some z → n = cnt v4 ((σ 334 3)) → ¬ v4 < 0 → (E p l e ({ frames := 2, cells := 0, slots := 0, locals := 44 } : Room) s m args below meth c Γ D 0 0 (MQ below (QcA Γ D Pst) args s 0 0 (frB Γ)) σ 90 [some (.ref (Γ.1 + 333)), some (.int v1), some (.int v2), some (.int z), none] []) → E p l e ({ frames := 2, cells := 0, slots := 0, locals := 44 } : Room) s m args below meth c Γ D 0 0 (MQ below (QcA Γ D Pst) args s 0 0 (frB Γ)) σ 48 [some (.ref (Γ.1 + 333)), some (.int v1), some (.int v2), some (.int v3), some (.int v4)] [] := by
  intro n
  induction n with
  | zero =>
    intro v4 v3 z hF hn h0 hK
    refine e_iload X dX12_anniversary_48 rfl ?_
    refine e_aload_n X dX12_anniversary_50 rfl rfl ?_
    refine ge_M_m X wf_X12_7 dX12_anniversary_51 ?_
    refine e_iconst X 3 dX12_anniversary_54 rfl ?_
    refine e_iald X (j := 3) rfl rfl (vp_in_iff.mpr (by decide)) rfl dX12_anniversary_55 ?_
    refine e_icmp_ge X 90 dX12_anniversary_56 (by decide) (fun c14 => ?_) (fun c14 => ?_)
    · skip
      have hz9 := Option.some.inj hF; change (v3) = z at hz9; subst hz9
      exact e_le hK (And.intro rfl (And.intro rfl (And.intro rfl (And.intro rfl (trivial)))))
    · skip
      exact absurd c14 (cnt0 hn)
  | succ n ih =>
    intro v4 v3 z hF hn h0 hK
    obtain ⟨y9, hB, hF⟩ := forSO_step hF
    change F_M_anniversary_48_b σ v1 v2 v4 v3 = some y9 at hB
    unfold F_M_anniversary_48_b at hB
    refine e_iload X dX12_anniversary_48 rfl ?_
    refine e_aload_n X dX12_anniversary_50 rfl rfl ?_
    refine ge_M_m X wf_X12_7 dX12_anniversary_51 ?_
    refine e_iconst X 3 dX12_anniversary_54 rfl ?_
    refine e_iald X (j := 3) rfl rfl (vp_in_iff.mpr (by decide)) rfl dX12_anniversary_55 ?_
    refine e_icmp_ge X 90 dX12_anniversary_56 (by decide) (fun c7 => ?_) (fun c7 => ?_)
    · skip
      exact absurd (cntS hn) c7
    · skip
      refine e_iload_n X dX12_anniversary_59 rfl rfl ?_
      refine e_iload_n X dX12_anniversary_60 rfl rfl ?_
      refine e_if_le X 81 dX12_anniversary_61 (by decide) (fun c8 => ?_) (fun c8 => ?_)
      · skip
        rw [if_neg c8] at hB
        refine e_iconst X 0 dX12_anniversary_81 rfl ?_
        refine e_ior X dX12_anniversary_82 ?_
        obtain ⟨x9, h_x9, hB⟩ := bindT_out hB
        refine e_istore_n X h_x9 dX12_anniversary_83 rfl (by decide) ?_
        refine e_iinc X 1 dX12_anniversary_84 rfl rfl (by decide) ?_
        refine e_goto X 48 dX12_anniversary_87 (by decide) ?_
        have hy9 := Option.some.inj hB; change (x9) = y9 at hy9; subst hy9
        exact e_le (ih _ x9 hF (cntN hn) (nnN h0 (cnt_hi hn)) hK) (And.intro rfl (And.intro rfl (And.intro rfl (And.intro rfl (And.intro rfl (trivial))))))
      · skip
        rw [if_pos c8] at hB
        refine e_aload_n X dX12_anniversary_64 rfl rfl ?_
        refine e_iload X dX12_anniversary_65 rfl ?_
        obtain ⟨z10, h_z10, hB⟩ := obind_out hB
        refine e_callVi X (r := z10) (σ1 := σ) [.int v4] [.int v3] (C_M_with (Cx_gok X) σ v4 h_z10) gv_X12_363 yk_X12_with rfl (ent_lt (rfl : entTbl[333]? = some (13, 0))) (ent_at (rfl : entTbl[333]? = some (13, 0)) _) (rfl : vCl[11]? = some (RX12, TX12, 24)) ⟨Nat.le_of_ble_eq_true rfl, Nat.le_of_ble_eq_true rfl⟩ ⟨Nat.le_of_ble_eq_true rfl, Nat.le_of_ble_eq_true rfl⟩ (Nat.le_of_ble_eq_true rfl) dX12_anniversary_67 rfl ?_
        refine e_iload_n X dX12_anniversary_70 rfl rfl ?_
        refine e_icmp_ne X 81 dX12_anniversary_71 (by decide) (fun c11 => ?_) (fun c11 => ?_)
        · skip
          rw [if_neg c11] at hB
          refine e_iconst X 0 dX12_anniversary_81 rfl ?_
          refine e_ior X dX12_anniversary_82 ?_
          obtain ⟨x12, h_x12, hB⟩ := bindT_out hB
          refine e_istore_n X h_x12 dX12_anniversary_83 rfl (by decide) ?_
          refine e_iinc X 1 dX12_anniversary_84 rfl rfl (by decide) ?_
          refine e_goto X 48 dX12_anniversary_87 (by decide) ?_
          have hy9 := Option.some.inj hB; change (x12) = y9 at hy9; subst hy9
          exact e_le (ih _ x12 hF (cntN hn) (nnN h0 (cnt_hi hn)) hK) (And.intro rfl (And.intro rfl (And.intro rfl (And.intro rfl (And.intro rfl (trivial))))))
        · skip
          rw [if_pos c11] at hB
          refine e_iconst X 1 dX12_anniversary_74 rfl ?_
          refine e_iload X dX12_anniversary_75 rfl ?_
          refine e_ishl X dX12_anniversary_77 ?_
          refine e_goto X 82 dX12_anniversary_78 (by decide) ?_
          refine e_ior X dX12_anniversary_82 ?_
          obtain ⟨x13, h_x13, hB⟩ := bindT_out hB
          refine e_istore_n X h_x13 dX12_anniversary_83 rfl (by decide) ?_
          refine e_iinc X 1 dX12_anniversary_84 rfl rfl (by decide) ?_
          refine e_goto X 48 dX12_anniversary_87 (by decide) ?_
          have hy9 := Option.some.inj hB; change (x13) = y9 at hy9; subst hy9
          exact e_le (ih _ x13 hF (cntN hn) (nnN h0 (cnt_hi hn)) hK) (And.intro rfl (And.intro rfl (And.intro rfl (And.intro rfl (And.intro rfl (trivial))))))
set_option maxRecDepth 20000 in
set_option maxHeartbeats 4000000 in
theorem C_M_anniversary (hG : Gok l Γ D s0) (σ : Mem) (v1 : Int32)  {out : Mem × Int32} (hF : F_M_anniversary σ v1 = some out) : CT l Γ D s0 yX12_anniversary cX12_anniversary 5 (some .int) (2) 0 0 (44) σ [.ref (Γ.1 + 333), .int v1] (PI (some (.int out.2)) out.1) := by
  unfold F_M_anniversary at hF
  refine e_met (own := RX12) hG (by decide +kernel) rfl rfl (Nat.le_of_ble_eq_true rfl) ?_
  intro p e s m args below meth c X hr
  show E p l e _ s m args below meth c Γ D 0 0 _ σ 0 [some (.ref (Γ.1 + 333)), some (.int v1), none, none, none] []
  refine e_aload_n X dX12_anniversary_0 rfl rfl ?_
  obtain ⟨z1, h_z1, hF⟩ := obind_out hF
  refine e_callVi X (r := z1.2) (σ1 := z1.1) [] [] (C_M_told_ (Cx_gok X) σ h_z1) gv_X12_361 yk_X12_told_ rfl (ent_lt (rfl : entTbl[333]? = some (13, 0))) (ent_at (rfl : entTbl[333]? = some (13, 0)) _) (rfl : vCl[11]? = some (RX12, TX12, 24)) ⟨Nat.le_of_ble_eq_true rfl, Nat.le_of_ble_eq_true rfl⟩ ⟨Nat.le_of_ble_eq_true rfl, Nat.le_of_ble_eq_true rfl⟩ (Nat.le_of_ble_eq_true rfl) dX12_anniversary_1 rfl ?_
  refine e_istore_n X rfl dX12_anniversary_4 rfl (by decide) ?_
  refine e_aload_n X dX12_anniversary_5 rfl rfl ?_
  refine e_iload_n X dX12_anniversary_6 rfl rfl ?_
  refine e_iconst X (-1) dX12_anniversary_7 rfl ?_
  refine e_icmp_ne X 15 dX12_anniversary_8 (by decide) (fun c2 => ?_) (fun c2 => ?_)
  · skip
    rw [if_neg c2] at hF
    refine e_iconst X 0 dX12_anniversary_15 rfl ?_
    obtain ⟨σ3, h_σ3, hF⟩ := bindT_out hF
    refine pu_M_thrown X wf_X12_51 dX12_anniversary_16 h_σ3 ?_
    refine e_aload_n X dX12_anniversary_19 rfl rfl ?_
    refine ge_M_thrown X wf_X12_51 dX12_anniversary_20 ?_
    refine e_if_gt X 30 dX12_anniversary_23 (by decide) (fun c4 => ?_) (fun c4 => ?_)
    · skip
      rw [if_pos c4] at hF
      refine e_aload_n X dX12_anniversary_30 rfl rfl ?_
      refine ge_M_thrown X wf_X12_51 dX12_anniversary_31 ?_
      refine e_if_le X 41 dX12_anniversary_34 (by decide) (fun c5 => ?_) (fun c5 => ?_)
      · skip
        rw [if_neg c5] at hF
        refine e_iload_n X dX12_anniversary_41 rfl rfl ?_
        exact e_iret X hr dX12_anniversary_42 (Nat.le_of_ble_eq_true rfl) (Nat.le_of_ble_eq_true rfl) (by cases hF; exact ⟨rfl, rfl⟩)
      · skip
        rw [if_pos c5] at hF
        refine e_iconst X 0 dX12_anniversary_37 rfl ?_
        refine e_goto X 42 dX12_anniversary_38 (by decide) ?_
        exact e_iret X hr dX12_anniversary_42 (Nat.le_of_ble_eq_true rfl) (Nat.le_of_ble_eq_true rfl) (by cases hF; exact ⟨rfl, rfl⟩)
    · skip
      rw [if_neg c4] at hF
      refine e_iload_n X dX12_anniversary_26 rfl rfl ?_
      refine e_if_ne X 43 dX12_anniversary_27 (by decide) (fun c6 => ?_) (fun c6 => ?_)
      · skip
        rw [if_neg c6] at hF
        refine e_iconst X 0 dX12_anniversary_43 rfl ?_
        refine e_istore_n X rfl dX12_anniversary_44 rfl (by decide) ?_
        refine e_iconst X 0 dX12_anniversary_45 rfl ?_
        refine e_istore X rfl dX12_anniversary_46 (by decide) ?_
        obtain ⟨z15, h_z15, hF⟩ := obind_out hF
        refine e_le (L_M_anniversary_48 X hr σ3 v1 z1.2 _ 0 0 h_z15 rfl (by decide) ?_) (And.intro rfl (And.intro rfl (And.intro rfl (And.intro rfl (And.intro rfl (trivial))))))
        refine e_iload_n X dX12_anniversary_90 rfl rfl ?_
        exact e_iret X hr dX12_anniversary_91 (Nat.le_of_ble_eq_true rfl) (Nat.le_of_ble_eq_true rfl) (by cases hF; exact ⟨rfl, rfl⟩)
      · skip
        rw [if_pos c6] at hF
        refine e_aload_n X dX12_anniversary_30 rfl rfl ?_
        refine ge_M_thrown X wf_X12_51 dX12_anniversary_31 ?_
        refine e_if_le X 41 dX12_anniversary_34 (by decide) (fun c16 => ?_) (fun c16 => ?_)
        · skip
          rw [if_neg c16] at hF
          refine e_iload_n X dX12_anniversary_41 rfl rfl ?_
          exact e_iret X hr dX12_anniversary_42 (Nat.le_of_ble_eq_true rfl) (Nat.le_of_ble_eq_true rfl) (by cases hF; exact ⟨rfl, rfl⟩)
        · skip
          rw [if_pos c16] at hF
          refine e_iconst X 0 dX12_anniversary_37 rfl ?_
          refine e_goto X 42 dX12_anniversary_38 (by decide) ?_
          exact e_iret X hr dX12_anniversary_42 (Nat.le_of_ble_eq_true rfl) (Nat.le_of_ble_eq_true rfl) (by cases hF; exact ⟨rfl, rfl⟩)
  · skip
    rw [if_pos c2] at hF
    refine e_iconst X 1 dX12_anniversary_11 rfl ?_
    refine e_goto X 16 dX12_anniversary_12 (by decide) ?_
    obtain ⟨σ17, h_σ17, hF⟩ := bindT_out hF
    refine pu_M_thrown X wf_X12_51 dX12_anniversary_16 h_σ17 ?_
    refine e_aload_n X dX12_anniversary_19 rfl rfl ?_
    refine ge_M_thrown X wf_X12_51 dX12_anniversary_20 ?_
    refine e_if_gt X 30 dX12_anniversary_23 (by decide) (fun c18 => ?_) (fun c18 => ?_)
    · skip
      rw [if_pos c18] at hF
      refine e_aload_n X dX12_anniversary_30 rfl rfl ?_
      refine ge_M_thrown X wf_X12_51 dX12_anniversary_31 ?_
      refine e_if_le X 41 dX12_anniversary_34 (by decide) (fun c19 => ?_) (fun c19 => ?_)
      · skip
        rw [if_neg c19] at hF
        refine e_iload_n X dX12_anniversary_41 rfl rfl ?_
        exact e_iret X hr dX12_anniversary_42 (Nat.le_of_ble_eq_true rfl) (Nat.le_of_ble_eq_true rfl) (by cases hF; exact ⟨rfl, rfl⟩)
      · skip
        rw [if_pos c19] at hF
        refine e_iconst X 0 dX12_anniversary_37 rfl ?_
        refine e_goto X 42 dX12_anniversary_38 (by decide) ?_
        exact e_iret X hr dX12_anniversary_42 (Nat.le_of_ble_eq_true rfl) (Nat.le_of_ble_eq_true rfl) (by cases hF; exact ⟨rfl, rfl⟩)
    · skip
      rw [if_neg c18] at hF
      refine e_iload_n X dX12_anniversary_26 rfl rfl ?_
      refine e_if_ne X 43 dX12_anniversary_27 (by decide) (fun c20 => ?_) (fun c20 => ?_)
      · skip
        rw [if_neg c20] at hF
        refine e_iconst X 0 dX12_anniversary_43 rfl ?_
        refine e_istore_n X rfl dX12_anniversary_44 rfl (by decide) ?_
        refine e_iconst X 0 dX12_anniversary_45 rfl ?_
        refine e_istore X rfl dX12_anniversary_46 (by decide) ?_
        obtain ⟨z21, h_z21, hF⟩ := obind_out hF
        refine e_le (L_M_anniversary_48 X hr σ17 v1 z1.2 _ 0 0 h_z21 rfl (by decide) ?_) (And.intro rfl (And.intro rfl (And.intro rfl (And.intro rfl (And.intro rfl (trivial))))))
        refine e_iload_n X dX12_anniversary_90 rfl rfl ?_
        exact e_iret X hr dX12_anniversary_91 (Nat.le_of_ble_eq_true rfl) (Nat.le_of_ble_eq_true rfl) (by cases hF; exact ⟨rfl, rfl⟩)
      · skip
        rw [if_pos c20] at hF
        refine e_aload_n X dX12_anniversary_30 rfl rfl ?_
        refine ge_M_thrown X wf_X12_51 dX12_anniversary_31 ?_
        refine e_if_le X 41 dX12_anniversary_34 (by decide) (fun c22 => ?_) (fun c22 => ?_)
        · skip
          rw [if_neg c22] at hF
          refine e_iload_n X dX12_anniversary_41 rfl rfl ?_
          exact e_iret X hr dX12_anniversary_42 (Nat.le_of_ble_eq_true rfl) (Nat.le_of_ble_eq_true rfl) (by cases hF; exact ⟨rfl, rfl⟩)
        · skip
          rw [if_pos c22] at hF
          refine e_iconst X 0 dX12_anniversary_37 rfl ?_
          refine e_goto X 42 dX12_anniversary_38 (by decide) ?_
          exact e_iret X hr dX12_anniversary_42 (Nat.le_of_ble_eq_true rfl) (Nat.le_of_ble_eq_true rfl) (by cases hF; exact ⟨rfl, rfl⟩)
set_option maxRecDepth 20000 in
set_option maxHeartbeats 4000000 in
theorem L_M_dance_37 (X : Cx p l s m args meth c Γ D s0 RX12 cX12_dance 6) (hr : meth.sig.returnType = (some .int)) (σ : Mem) (v1 : Int32)  : ∀ (n : Nat) (v4 : Int32) (v2 : Int32) (v3 : Int32) {z : Int32 × Int32}, omap mrg (forGO (fun i s => F_M_dance_37_b σ v1 i s.1 s.2) n v4 (v2, v3)) = some z → n = cnt v4 ((σ 334 3)) → ¬ v4 < 0 → (E p l e ({ frames := 2, cells := 0, slots := 0, locals := 44 } : Room) s m args below meth c Γ D 0 0 (MQ below (QcA Γ D Pst) args s 0 0 (frB Γ)) σ 96 [some (.ref (Γ.1 + 333)), some (.int v1), some (.int z.1), some (.int z.2), none, none] []) → E p l e ({ frames := 2, cells := 0, slots := 0, locals := 44 } : Room) s m args below meth c Γ D 0 0 (MQ below (QcA Γ D Pst) args s 0 0 (frB Γ)) σ 37 [some (.ref (Γ.1 + 333)), some (.int v1), some (.int v2), some (.int v3), some (.int v4), none] [] := by
  intro n
  induction n with
  | zero =>
    intro v4 v2 v3 z hF hn h0 hK
    refine e_iload X dX12_dance_37 rfl ?_
    refine e_aload_n X dX12_dance_39 rfl rfl ?_
    refine ge_M_m X wf_X12_7 dX12_dance_40 ?_
    refine e_iconst X 3 dX12_dance_43 rfl ?_
    refine e_iald X (j := 3) rfl rfl (vp_in_iff.mpr (by decide)) rfl dX12_dance_44 ?_
    refine e_icmp_ge X 96 dX12_dance_45 (by decide) (fun c10 => ?_) (fun c10 => ?_)
    · skip
      have hz9 := Option.some.inj hF; change ((v2, v3)) = z at hz9; subst hz9
      exact e_le hK (And.intro rfl (And.intro rfl (And.intro rfl (And.intro rfl (trivial)))))
    · skip
      exact absurd c10 (cnt0 hn)
  | succ n ih =>
    intro v4 v2 v3 z hF hn h0 hK
    obtain ⟨y9, hB, hF⟩ := forBO_step hF
    change F_M_dance_37_b σ v1 v4 v2 v3 = some y9 at hB
    unfold F_M_dance_37_b at hB
    refine e_iload X dX12_dance_37 rfl ?_
    refine e_aload_n X dX12_dance_39 rfl rfl ?_
    refine ge_M_m X wf_X12_7 dX12_dance_40 ?_
    refine e_iconst X 3 dX12_dance_43 rfl ?_
    refine e_iald X (j := 3) rfl rfl (vp_in_iff.mpr (by decide)) rfl dX12_dance_44 ?_
    refine e_icmp_ge X 96 dX12_dance_45 (by decide) (fun c5 => ?_) (fun c5 => ?_)
    · skip
      exact absurd (cntS hn) c5
    · skip
      refine e_iload_n X dX12_dance_48 rfl rfl ?_
      refine e_iconst X 1 dX12_dance_49 rfl ?_
      refine e_icmp_le X 96 dX12_dance_50 (by decide) (fun c6 => ?_) (fun c6 => ?_)
      · skip
        rw [if_neg c6] at hB
        have hy9 := Option.some.inj hB; change (.inr ((v2, v3))) = y9 at hy9; subst hy9
        have hz9 := Option.some.inj hF; change ((v2, v3)) = z at hz9; subst hz9
        exact e_le hK (And.intro rfl (And.intro rfl (And.intro rfl (And.intro rfl (trivial)))))
      · skip
        rw [if_pos c6] at hB
        refine e_aload_n X dX12_dance_53 rfl rfl ?_
        refine e_iload X dX12_dance_54 rfl ?_
        obtain ⟨z7, h_z7, hB⟩ := obind_out hB
        refine e_callVi X (r := z7) (σ1 := σ) [.int v4] [] (C_M_with (Cx_gok X) σ v4 h_z7) gv_X12_363 yk_X12_with rfl (ent_lt (rfl : entTbl[333]? = some (13, 0))) (ent_at (rfl : entTbl[333]? = some (13, 0)) _) (rfl : vCl[11]? = some (RX12, TX12, 24)) ⟨Nat.le_of_ble_eq_true rfl, Nat.le_of_ble_eq_true rfl⟩ ⟨Nat.le_of_ble_eq_true rfl, Nat.le_of_ble_eq_true rfl⟩ (Nat.le_of_ble_eq_true rfl) dX12_dance_56 rfl ?_
        refine e_istore X rfl dX12_dance_59 (by decide) ?_
        refine e_iload X dX12_dance_61 rfl ?_
        refine e_iload_n X dX12_dance_63 rfl rfl ?_
        refine e_iload X dX12_dance_64 rfl ?_
        refine e_isub X dX12_dance_66 ?_
        refine e_callSi X (r := (F_M_greater σ z7 ((v1 - z7)))) (σ1 := σ) [.int z7, .int ((v1 - z7))] [] (C_M_greater (Cx_gok X) σ z7 ((v1 - z7))) gs_X12_266 yk_X12_greater rfl ⟨Nat.le_of_ble_eq_true rfl, Nat.le_of_ble_eq_true rfl⟩ ⟨Nat.le_of_ble_eq_true rfl, Nat.le_of_ble_eq_true rfl⟩ (Nat.le_of_ble_eq_true rfl) dX12_dance_67 rfl ?_
        refine e_iload_n X dX12_dance_70 rfl rfl ?_
        refine e_icmp_lt X 77 dX12_dance_71 (by decide) (fun c8 => ?_) (fun c8 => ?_)
        · skip
          rw [if_pos c8] at hB
          refine e_iload X dX12_dance_77 rfl ?_
          refine e_iload_n X dX12_dance_79 rfl rfl ?_
          refine e_iload X dX12_dance_80 rfl ?_
          refine e_isub X dX12_dance_82 ?_
          refine e_callSi X (r := (F_M_greater σ z7 ((v1 - z7)))) (σ1 := σ) [.int z7, .int ((v1 - z7))] [] (C_M_greater (Cx_gok X) σ z7 ((v1 - z7))) gs_X12_266 yk_X12_greater rfl ⟨Nat.le_of_ble_eq_true rfl, Nat.le_of_ble_eq_true rfl⟩ ⟨Nat.le_of_ble_eq_true rfl, Nat.le_of_ble_eq_true rfl⟩ (Nat.le_of_ble_eq_true rfl) dX12_dance_83 rfl ?_
          obtain ⟨x9, h_x9, hB⟩ := bindT_out hB
          refine e_istore_n X h_x9 dX12_dance_86 rfl (by decide) ?_
          refine e_iload X dX12_dance_87 rfl ?_
          refine e_istore_n X rfl dX12_dance_89 rfl (by decide) ?_
          refine e_iinc X 1 dX12_dance_90 rfl rfl (by decide) ?_
          refine e_goto X 37 dX12_dance_93 (by decide) ?_
          have hy9 := Option.some.inj hB; change (.inl ((v4, x9))) = y9 at hy9; subst hy9
          exact e_le (ih _ v4 x9 hF (cntN hn) (nnN h0 (cnt_hi hn)) hK) (And.intro rfl (And.intro rfl (And.intro rfl (And.intro rfl (And.intro rfl (trivial))))))
        · skip
          rw [if_neg c8] at hB
          refine e_goto X 90 dX12_dance_74 (by decide) ?_
          refine e_iinc X 1 dX12_dance_90 rfl rfl (by decide) ?_
          refine e_goto X 37 dX12_dance_93 (by decide) ?_
          have hy9 := Option.some.inj hB; change (.inl ((v2, v3))) = y9 at hy9; subst hy9
          exact e_le (ih _ v2 v3 hF (cntN hn) (nnN h0 (cnt_hi hn)) hK) (And.intro rfl (And.intro rfl (And.intro rfl (And.intro rfl (And.intro rfl (trivial))))))
set_option maxRecDepth 20000 in
set_option maxHeartbeats 4000000 in
theorem C_M_dance (hG : Gok l Γ D s0) (σ : Mem)   {out : Mem × Int32} (hF : F_M_dance σ = some out) : CT l Γ D s0 yX12_dance cX12_dance 6 (some .int) (2) 0 0 (44) σ [.ref (Γ.1 + 333)] (PI (some (.int out.2)) out.1) := by
  unfold F_M_dance at hF
  refine e_met (own := RX12) hG (by decide +kernel) rfl rfl (Nat.le_of_ble_eq_true rfl) ?_
  intro p e s m args below meth c X hr
  show E p l e _ s m args below meth c Γ D 0 0 _ σ 0 [some (.ref (Γ.1 + 333)), none, none, none, none, none] []
  refine e_aload_n X dX12_dance_0 rfl rfl ?_
  obtain ⟨z1, h_z1, hF⟩ := obind_out hF
  refine e_callVi X (r := z1.2) (σ1 := z1.1) [] [] (C_M_told_ (Cx_gok X) σ h_z1) gv_X12_361 yk_X12_told_ rfl (ent_lt (rfl : entTbl[333]? = some (13, 0))) (ent_at (rfl : entTbl[333]? = some (13, 0)) _) (rfl : vCl[11]? = some (RX12, TX12, 24)) ⟨Nat.le_of_ble_eq_true rfl, Nat.le_of_ble_eq_true rfl⟩ ⟨Nat.le_of_ble_eq_true rfl, Nat.le_of_ble_eq_true rfl⟩ (Nat.le_of_ble_eq_true rfl) dX12_dance_1 rfl ?_
  refine e_istore_n X rfl dX12_dance_4 rfl (by decide) ?_
  refine e_aload_n X dX12_dance_5 rfl rfl ?_
  refine e_iload_n X dX12_dance_6 rfl rfl ?_
  refine e_iconst X (-1) dX12_dance_7 rfl ?_
  refine e_icmp_ne X 15 dX12_dance_8 (by decide) (fun c2 => ?_) (fun c2 => ?_)
  · skip
    rw [if_neg c2] at hF
    refine e_iconst X 0 dX12_dance_15 rfl ?_
    obtain ⟨σ3, h_σ3, hF⟩ := bindT_out hF
    refine pu_M_thrown X wf_X12_51 dX12_dance_16 h_σ3 ?_
    refine e_aload_n X dX12_dance_19 rfl rfl ?_
    refine ge_M_thrown X wf_X12_51 dX12_dance_20 ?_
    refine e_if_le X 28 dX12_dance_23 (by decide) (fun c4 => ?_) (fun c4 => ?_)
    · skip
      rw [if_neg c4] at hF
      refine e_iconst X (-1) dX12_dance_28 rfl ?_
      refine e_istore_n X rfl dX12_dance_29 rfl (by decide) ?_
      refine e_ldcw X 2000000000 wk_X12_341 dX12_dance_30 ?_
      refine e_istore_n X rfl dX12_dance_33 rfl (by decide) ?_
      refine e_iconst X 0 dX12_dance_34 rfl ?_
      refine e_istore X rfl dX12_dance_35 (by decide) ?_
      obtain ⟨z11, h_z11, hF⟩ := obind_out hF
      refine e_le (L_M_dance_37 X hr σ3 z1.2 _ 0 ((-1)) 2000000000 h_z11 rfl (by decide) ?_) (And.intro rfl (And.intro rfl (And.intro rfl (And.intro rfl (And.intro rfl (trivial))))))
      refine e_iload_n X dX12_dance_96 rfl rfl ?_
      exact e_iret X hr dX12_dance_97 (Nat.le_of_ble_eq_true rfl) (Nat.le_of_ble_eq_true rfl) (by cases hF; exact ⟨rfl, rfl⟩)
    · skip
      rw [if_pos c4] at hF
      refine e_iconst X 0 dX12_dance_26 rfl ?_
      exact e_iret X hr dX12_dance_27 (Nat.le_of_ble_eq_true rfl) (Nat.le_of_ble_eq_true rfl) (by cases hF; exact ⟨rfl, rfl⟩)
  · skip
    rw [if_pos c2] at hF
    refine e_iconst X 1 dX12_dance_11 rfl ?_
    refine e_goto X 16 dX12_dance_12 (by decide) ?_
    obtain ⟨σ12, h_σ12, hF⟩ := bindT_out hF
    refine pu_M_thrown X wf_X12_51 dX12_dance_16 h_σ12 ?_
    refine e_aload_n X dX12_dance_19 rfl rfl ?_
    refine ge_M_thrown X wf_X12_51 dX12_dance_20 ?_
    refine e_if_le X 28 dX12_dance_23 (by decide) (fun c13 => ?_) (fun c13 => ?_)
    · skip
      rw [if_neg c13] at hF
      refine e_iconst X (-1) dX12_dance_28 rfl ?_
      refine e_istore_n X rfl dX12_dance_29 rfl (by decide) ?_
      refine e_ldcw X 2000000000 wk_X12_341 dX12_dance_30 ?_
      refine e_istore_n X rfl dX12_dance_33 rfl (by decide) ?_
      refine e_iconst X 0 dX12_dance_34 rfl ?_
      refine e_istore X rfl dX12_dance_35 (by decide) ?_
      obtain ⟨z14, h_z14, hF⟩ := obind_out hF
      refine e_le (L_M_dance_37 X hr σ12 z1.2 _ 0 ((-1)) 2000000000 h_z14 rfl (by decide) ?_) (And.intro rfl (And.intro rfl (And.intro rfl (And.intro rfl (And.intro rfl (trivial))))))
      refine e_iload_n X dX12_dance_96 rfl rfl ?_
      exact e_iret X hr dX12_dance_97 (Nat.le_of_ble_eq_true rfl) (Nat.le_of_ble_eq_true rfl) (by cases hF; exact ⟨rfl, rfl⟩)
    · skip
      rw [if_pos c13] at hF
      refine e_iconst X 0 dX12_dance_26 rfl ?_
      exact e_iret X hr dX12_dance_27 (Nat.le_of_ble_eq_true rfl) (Nat.le_of_ble_eq_true rfl) (by cases hF; exact ⟨rfl, rfl⟩)
set_option maxRecDepth 20000 in
set_option maxHeartbeats 4000000 in
theorem L_M_richest_9 (X : Cx p l s m args meth c Γ D s0 RX12 cX12_richest 3) (hr : meth.sig.returnType = (some .int)) (σ : Mem)  : ∀ (n : Nat) (v2 : Int32) (v1 : Int32) {z : Int32}, forSO (fun i s => F_M_richest_9_b σ i s) n v2 v1 = some z → n = cnt v2 ((σ 334 3)) → ¬ v2 < 0 → (E p l e ({ frames := 1, cells := 0, slots := 0, locals := 22 } : Room) s m args below meth c Γ D 0 0 (MQ below (QcA Γ D Pst) args s 0 0 (frB Γ)) σ 56 [some (.ref (Γ.1 + 333)), some (.int z), none] []) → E p l e ({ frames := 1, cells := 0, slots := 0, locals := 22 } : Room) s m args below meth c Γ D 0 0 (MQ below (QcA Γ D Pst) args s 0 0 (frB Γ)) σ 9 [some (.ref (Γ.1 + 333)), some (.int v1), some (.int v2)] [] := by
  intro n
  induction n with
  | zero =>
    intro v2 v1 z hF hn h0 hK
    refine e_iload_n X dX12_richest_9 rfl rfl ?_
    refine e_aload_n X dX12_richest_10 rfl rfl ?_
    refine ge_M_m X wf_X12_7 dX12_richest_11 ?_
    refine e_iconst X 3 dX12_richest_14 rfl ?_
    refine e_iald X (j := 3) rfl rfl (vp_in_iff.mpr (by decide)) rfl dX12_richest_15 ?_
    refine e_icmp_ge X 56 dX12_richest_16 (by decide) (fun c9 => ?_) (fun c9 => ?_)
    · skip
      have hz9 := Option.some.inj hF; change (v1) = z at hz9; subst hz9
      exact e_le hK (And.intro rfl (And.intro rfl (trivial)))
    · skip
      exact absurd c9 (cnt0 hn)
  | succ n ih =>
    intro v2 v1 z hF hn h0 hK
    obtain ⟨y9, hB, hF⟩ := forSO_step hF
    change F_M_richest_9_b σ v2 v1 = some y9 at hB
    unfold F_M_richest_9_b at hB
    refine e_iload_n X dX12_richest_9 rfl rfl ?_
    refine e_aload_n X dX12_richest_10 rfl rfl ?_
    refine ge_M_m X wf_X12_7 dX12_richest_11 ?_
    refine e_iconst X 3 dX12_richest_14 rfl ?_
    refine e_iald X (j := 3) rfl rfl (vp_in_iff.mpr (by decide)) rfl dX12_richest_15 ?_
    refine e_icmp_ge X 56 dX12_richest_16 (by decide) (fun c2 => ?_) (fun c2 => ?_)
    · skip
      exact absurd (cntS hn) c2
    · skip
      refine e_aload_n X dX12_richest_19 rfl rfl ?_
      refine e_iload_n X dX12_richest_20 rfl rfl ?_
      refine e_iconst X 3 dX12_richest_21 rfl ?_
      obtain ⟨z3, h_z3, hB⟩ := obind_out hB
      refine e_callVi X (r := z3) (σ1 := σ) [.int v2, .int 3] [] (C_M_of (Cx_gok X) σ v2 3 h_z3) gv_X12_62 yk_X12_of rfl (ent_lt (rfl : entTbl[333]? = some (13, 0))) (ent_at (rfl : entTbl[333]? = some (13, 0)) _) (rfl : vCl[11]? = some (RX12, TX12, 24)) ⟨Nat.le_of_ble_eq_true rfl, Nat.le_of_ble_eq_true rfl⟩ ⟨Nat.le_of_ble_eq_true rfl, Nat.le_of_ble_eq_true rfl⟩ (Nat.le_of_ble_eq_true rfl) dX12_richest_22 rfl ?_
      refine e_if_ne X 50 dX12_richest_25 (by decide) (fun c4 => ?_) (fun c4 => ?_)
      · skip
        rw [if_neg c4] at hB
        refine e_iinc X 1 dX12_richest_50 rfl rfl (by decide) ?_
        refine e_goto X 9 dX12_richest_53 (by decide) ?_
        have hy9 := Option.some.inj hB; change (v1) = y9 at hy9; subst hy9
        exact e_le (ih _ v1 hF (cntN hn) (nnN h0 (cnt_hi hn)) hK) (And.intro rfl (And.intro rfl (And.intro rfl (trivial))))
      · skip
        rw [if_pos c4] at hB
        refine e_iload_n X dX12_richest_28 rfl rfl ?_
        refine e_iconst X (-1) dX12_richest_29 rfl ?_
        refine e_icmp_eq X 48 dX12_richest_30 (by decide) (fun c5 => ?_) (fun c5 => ?_)
        · skip
          rw [if_pos c5] at hB
          refine e_iload_n X dX12_richest_48 rfl rfl ?_
          refine e_istore_n X rfl dX12_richest_49 rfl (by decide) ?_
          refine e_iinc X 1 dX12_richest_50 rfl rfl (by decide) ?_
          refine e_goto X 9 dX12_richest_53 (by decide) ?_
          have hy9 := Option.some.inj hB; change (v2) = y9 at hy9; subst hy9
          exact e_le (ih _ v2 hF (cntN hn) (nnN h0 (cnt_hi hn)) hK) (And.intro rfl (And.intro rfl (And.intro rfl (trivial))))
        · skip
          rw [if_neg c5] at hB
          refine e_aload_n X dX12_richest_33 rfl rfl ?_
          refine e_iload_n X dX12_richest_34 rfl rfl ?_
          refine e_iconst X 0 dX12_richest_35 rfl ?_
          obtain ⟨z6, h_z6, hB⟩ := obind_out hB
          refine e_callVi X (r := z6) (σ1 := σ) [.int v2, .int 0] [] (C_M_of (Cx_gok X) σ v2 0 h_z6) gv_X12_62 yk_X12_of rfl (ent_lt (rfl : entTbl[333]? = some (13, 0))) (ent_at (rfl : entTbl[333]? = some (13, 0)) _) (rfl : vCl[11]? = some (RX12, TX12, 24)) ⟨Nat.le_of_ble_eq_true rfl, Nat.le_of_ble_eq_true rfl⟩ ⟨Nat.le_of_ble_eq_true rfl, Nat.le_of_ble_eq_true rfl⟩ (Nat.le_of_ble_eq_true rfl) dX12_richest_36 rfl ?_
          refine e_aload_n X dX12_richest_39 rfl rfl ?_
          refine e_iload_n X dX12_richest_40 rfl rfl ?_
          refine e_iconst X 0 dX12_richest_41 rfl ?_
          obtain ⟨z7, h_z7, hB⟩ := obind_out hB
          refine e_callVi X (r := z7) (σ1 := σ) [.int v1, .int 0] [.int z6] (C_M_of (Cx_gok X) σ v1 0 h_z7) gv_X12_62 yk_X12_of rfl (ent_lt (rfl : entTbl[333]? = some (13, 0))) (ent_at (rfl : entTbl[333]? = some (13, 0)) _) (rfl : vCl[11]? = some (RX12, TX12, 24)) ⟨Nat.le_of_ble_eq_true rfl, Nat.le_of_ble_eq_true rfl⟩ ⟨Nat.le_of_ble_eq_true rfl, Nat.le_of_ble_eq_true rfl⟩ (Nat.le_of_ble_eq_true rfl) dX12_richest_42 rfl ?_
          refine e_icmp_le X 50 dX12_richest_45 (by decide) (fun c8 => ?_) (fun c8 => ?_)
          · skip
            rw [if_neg c8] at hB
            refine e_iinc X 1 dX12_richest_50 rfl rfl (by decide) ?_
            refine e_goto X 9 dX12_richest_53 (by decide) ?_
            have hy9 := Option.some.inj hB; change (v1) = y9 at hy9; subst hy9
            exact e_le (ih _ v1 hF (cntN hn) (nnN h0 (cnt_hi hn)) hK) (And.intro rfl (And.intro rfl (And.intro rfl (trivial))))
          · skip
            rw [if_pos c8] at hB
            refine e_iload_n X dX12_richest_48 rfl rfl ?_
            refine e_istore_n X rfl dX12_richest_49 rfl (by decide) ?_
            refine e_iinc X 1 dX12_richest_50 rfl rfl (by decide) ?_
            refine e_goto X 9 dX12_richest_53 (by decide) ?_
            have hy9 := Option.some.inj hB; change (v2) = y9 at hy9; subst hy9
            exact e_le (ih _ v2 hF (cntN hn) (nnN h0 (cnt_hi hn)) hK) (And.intro rfl (And.intro rfl (And.intro rfl (trivial))))
set_option maxRecDepth 20000 in
set_option maxHeartbeats 4000000 in
theorem C_M_richest (hG : Gok l Γ D s0) (σ : Mem)   {out : Mem × Int32} (hF : F_M_richest σ = some out) : CT l Γ D s0 yX12_richest cX12_richest 3 (some .int) (1) 0 0 (22) σ [.ref (Γ.1 + 333)] (PI (some (.int out.2)) out.1) := by
  unfold F_M_richest at hF
  refine e_met (own := RX12) hG (by decide +kernel) rfl rfl (Nat.le_of_ble_eq_true rfl) ?_
  intro p e s m args below meth c X hr
  show E p l e _ s m args below meth c Γ D 0 0 _ σ 0 [some (.ref (Γ.1 + 333)), none, none] []
  refine e_aload_n X dX12_richest_0 rfl rfl ?_
  refine e_iconst X 0 dX12_richest_1 rfl ?_
  obtain ⟨σ1, h_σ1, hF⟩ := bindT_out hF
  refine pu_M_thrown X wf_X12_51 dX12_richest_2 h_σ1 ?_
  refine e_iconst X (-1) dX12_richest_5 rfl ?_
  refine e_istore_n X rfl dX12_richest_6 rfl (by decide) ?_
  refine e_iconst X 0 dX12_richest_7 rfl ?_
  refine e_istore_n X rfl dX12_richest_8 rfl (by decide) ?_
  obtain ⟨z10, h_z10, hF⟩ := obind_out hF
  refine e_le (L_M_richest_9 X hr σ1 _ 0 ((-1)) h_z10 rfl (by decide) ?_) (And.intro rfl (And.intro rfl (And.intro rfl (trivial))))
  refine e_iload_n X dX12_richest_56 rfl rfl ?_
  exact e_iret X hr dX12_richest_57 (Nat.le_of_ble_eq_true rfl) (Nat.le_of_ble_eq_true rfl) (by cases hF; exact ⟨rfl, rfl⟩)
set_option maxRecDepth 20000 in
set_option maxHeartbeats 4000000 in
theorem L_M_ruinedOnes_4 (X : Cx p l s m args meth c Γ D s0 RX12 cX12_ruinedOnes 3) (hr : meth.sig.returnType = (some .int)) (σ : Mem)  : ∀ (n : Nat) (v2 : Int32) (v1 : Int32) {z : Int32}, forSO (fun i s => F_M_ruinedOnes_4_b σ i s) n v2 v1 = some z → n = cnt v2 ((σ 334 3)) → ¬ v2 < 0 → (E p l e ({ frames := 1, cells := 0, slots := 0, locals := 22 } : Room) s m args below meth c Γ D 0 0 (MQ below (QcA Γ D Pst) args s 0 0 (frB Γ)) σ 31 [some (.ref (Γ.1 + 333)), some (.int z), none] []) → E p l e ({ frames := 1, cells := 0, slots := 0, locals := 22 } : Room) s m args below meth c Γ D 0 0 (MQ below (QcA Γ D Pst) args s 0 0 (frB Γ)) σ 4 [some (.ref (Γ.1 + 333)), some (.int v1), some (.int v2)] [] := by
  intro n
  induction n with
  | zero =>
    intro v2 v1 z hF hn h0 hK
    refine e_iload_n X dX12_ruinedOnes_4 rfl rfl ?_
    refine e_aload_n X dX12_ruinedOnes_5 rfl rfl ?_
    refine ge_M_m X wf_X12_7 dX12_ruinedOnes_6 ?_
    refine e_iconst X 3 dX12_ruinedOnes_9 rfl ?_
    refine e_iald X (j := 3) rfl rfl (vp_in_iff.mpr (by decide)) rfl dX12_ruinedOnes_10 ?_
    refine e_icmp_ge X 31 dX12_ruinedOnes_11 (by decide) (fun c4 => ?_) (fun c4 => ?_)
    · skip
      have hz9 := Option.some.inj hF; change (v1) = z at hz9; subst hz9
      exact e_le hK (And.intro rfl (And.intro rfl (trivial)))
    · skip
      exact absurd c4 (cnt0 hn)
  | succ n ih =>
    intro v2 v1 z hF hn h0 hK
    obtain ⟨y9, hB, hF⟩ := forSO_step hF
    change F_M_ruinedOnes_4_b σ v2 v1 = some y9 at hB
    unfold F_M_ruinedOnes_4_b at hB
    refine e_iload_n X dX12_ruinedOnes_4 rfl rfl ?_
    refine e_aload_n X dX12_ruinedOnes_5 rfl rfl ?_
    refine ge_M_m X wf_X12_7 dX12_ruinedOnes_6 ?_
    refine e_iconst X 3 dX12_ruinedOnes_9 rfl ?_
    refine e_iald X (j := 3) rfl rfl (vp_in_iff.mpr (by decide)) rfl dX12_ruinedOnes_10 ?_
    refine e_icmp_ge X 31 dX12_ruinedOnes_11 (by decide) (fun c1 => ?_) (fun c1 => ?_)
    · skip
      exact absurd (cntS hn) c1
    · skip
      refine e_iload_n X dX12_ruinedOnes_14 rfl rfl ?_
      refine e_aload_n X dX12_ruinedOnes_15 rfl rfl ?_
      refine e_iload_n X dX12_ruinedOnes_16 rfl rfl ?_
      refine e_iconst X 3 dX12_ruinedOnes_17 rfl ?_
      obtain ⟨z2, h_z2, hB⟩ := obind_out hB
      refine e_callVi X (r := z2) (σ1 := σ) [.int v2, .int 3] [.int v1] (C_M_of (Cx_gok X) σ v2 3 h_z2) gv_X12_62 yk_X12_of rfl (ent_lt (rfl : entTbl[333]? = some (13, 0))) (ent_at (rfl : entTbl[333]? = some (13, 0)) _) (rfl : vCl[11]? = some (RX12, TX12, 24)) ⟨Nat.le_of_ble_eq_true rfl, Nat.le_of_ble_eq_true rfl⟩ ⟨Nat.le_of_ble_eq_true rfl, Nat.le_of_ble_eq_true rfl⟩ (Nat.le_of_ble_eq_true rfl) dX12_ruinedOnes_18 rfl ?_
      refine e_iload_n X dX12_ruinedOnes_21 rfl rfl ?_
      refine e_ishl X dX12_ruinedOnes_22 ?_
      refine e_ior X dX12_ruinedOnes_23 ?_
      obtain ⟨x3, h_x3, hB⟩ := bindT_out hB
      refine e_istore_n X h_x3 dX12_ruinedOnes_24 rfl (by decide) ?_
      refine e_iinc X 1 dX12_ruinedOnes_25 rfl rfl (by decide) ?_
      refine e_goto X 4 dX12_ruinedOnes_28 (by decide) ?_
      have hy9 := Option.some.inj hB; change (x3) = y9 at hy9; subst hy9
      exact e_le (ih _ x3 hF (cntN hn) (nnN h0 (cnt_hi hn)) hK) (And.intro rfl (And.intro rfl (And.intro rfl (trivial))))
set_option maxRecDepth 20000 in
set_option maxHeartbeats 4000000 in
theorem C_M_ruinedOnes (hG : Gok l Γ D s0) (σ : Mem)   {out : Int32} (hF : F_M_ruinedOnes σ = some out) : CT l Γ D s0 yX12_ruinedOnes cX12_ruinedOnes 3 (some .int) (1) 0 0 (22) σ [.ref (Γ.1 + 333)] (PI (some (.int out)) σ) := by
  unfold F_M_ruinedOnes at hF
  refine e_met (own := RX12) hG (by decide +kernel) rfl rfl (Nat.le_of_ble_eq_true rfl) ?_
  intro p e s m args below meth c X hr
  show E p l e _ s m args below meth c Γ D 0 0 _ σ 0 [some (.ref (Γ.1 + 333)), none, none] []
  refine e_iconst X 0 dX12_ruinedOnes_0 rfl ?_
  refine e_istore_n X rfl dX12_ruinedOnes_1 rfl (by decide) ?_
  refine e_iconst X 0 dX12_ruinedOnes_2 rfl ?_
  refine e_istore_n X rfl dX12_ruinedOnes_3 rfl (by decide) ?_
  obtain ⟨z5, h_z5, hF⟩ := obind_out hF
  refine e_le (L_M_ruinedOnes_4 X hr σ _ 0 0 h_z5 rfl (by decide) ?_) (And.intro rfl (And.intro rfl (And.intro rfl (trivial))))
  refine e_iload_n X dX12_ruinedOnes_31 rfl rfl ?_
  exact e_iret X hr dX12_ruinedOnes_32 (Nat.le_of_ble_eq_true rfl) (Nat.le_of_ble_eq_true rfl) (by cases hF; exact ⟨rfl, rfl⟩)
set_option maxRecDepth 20000 in
set_option maxHeartbeats 4000000 in
theorem C_M_logged (hG : Gok l Γ D s0) (σ : Mem) (v1 : Int32) (v2 : Int32)  {out : Int32} (hF : F_M_logged σ v1 v2 = some out) : CT l Γ D s0 yX12_logged cX12_logged 3 (some .int) (0) 0 0 (0) σ [.ref (Γ.1 + 333), .int v1, .int v2] (PI (some (.int out)) σ) := by
  unfold F_M_logged at hF
  refine e_met (own := RX12) hG (by decide +kernel) rfl rfl (Nat.le_of_ble_eq_true rfl) ?_
  intro p e s m args below meth c X hr
  show E p l e _ s m args below meth c Γ D 0 0 _ σ 0 [some (.ref (Γ.1 + 333)), some (.int v1), some (.int v2)] []
  refine e_aload_n X dX12_logged_0 rfl rfl ?_
  refine ge_M_m X wf_X12_7 dX12_logged_1 ?_
  refine e_sipush X 210 dX12_logged_4 rfl ?_
  refine e_iconst X 4 dX12_logged_7 rfl ?_
  refine e_iload_n X dX12_logged_8 rfl rfl ?_
  refine e_imul X dX12_logged_9 ?_
  refine e_iadd X dX12_logged_10 ?_
  refine e_iload_n X dX12_logged_11 rfl rfl ?_
  refine e_iadd X dX12_logged_12 ?_
  obtain ⟨i1, h_i1, hF⟩ := bindT_out hF
  obtain ⟨c2, hF⟩ := chk_out hF
  refine e_iald X (j := i1.toNatClampNeg) h_i1 rfl (inb_in c2) rfl dX12_logged_13 ?_
  exact e_iret X hr dX12_logged_14 (Nat.le_of_ble_eq_true rfl) (Nat.le_of_ble_eq_true rfl) (by cases hF; exact ⟨rfl, rfl⟩)
set_option maxRecDepth 20000 in
set_option maxHeartbeats 4000000 in
theorem L_M_led_22 (X : Cx p l s m args meth c Γ D s0 RX12 cX12_led 5) (hr : meth.sig.returnType = (some .int)) (σ : Mem) (v1 : Int32) (v2 : Int32)  : ∀ (n : Nat) (v4 : Int32) (v3 : Int32) {z : Int32}, omap mrg (forGO (fun i s => F_M_led_22_b σ v1 v2 i s) n v4 v3) = some z → n = cnt v4 ((σ 334 11)) → ¬ v4 < 0 → (E p l e ({ frames := 2, cells := 0, slots := 0, locals := 43 } : Room) s m args below meth c Γ D 0 0 (MQ below (QcA Γ D Pst) args s 0 0 (frB Γ)) σ 80 [some (.ref (Γ.1 + 333)), some (.int v1), some (.int v2), some (.int z), none] []) → E p l e ({ frames := 2, cells := 0, slots := 0, locals := 43 } : Room) s m args below meth c Γ D 0 0 (MQ below (QcA Γ D Pst) args s 0 0 (frB Γ)) σ 22 [some (.ref (Γ.1 + 333)), some (.int v1), some (.int v2), some (.int v3), some (.int v4)] [] := by
  intro n
  induction n with
  | zero =>
    intro v4 v3 z hF hn h0 hK
    refine e_iload X dX12_led_22 rfl ?_
    refine e_aload_n X dX12_led_24 rfl rfl ?_
    refine ge_M_m X wf_X12_7 dX12_led_25 ?_
    refine e_bipush X 11 dX12_led_28 rfl ?_
    refine e_iald X (j := 11) rfl rfl (vp_in_iff.mpr (by decide)) rfl dX12_led_30 ?_
    refine e_icmp_ge X 80 dX12_led_31 (by decide) (fun c13 => ?_) (fun c13 => ?_)
    · skip
      have hz9 := Option.some.inj hF; change (v3) = z at hz9; subst hz9
      exact e_le hK (And.intro rfl (And.intro rfl (And.intro rfl (And.intro rfl (trivial)))))
    · skip
      exact absurd c13 (cnt0 hn)
  | succ n ih =>
    intro v4 v3 z hF hn h0 hK
    obtain ⟨y9, hB, hF⟩ := forBO_step hF
    change F_M_led_22_b σ v1 v2 v4 v3 = some y9 at hB
    unfold F_M_led_22_b at hB
    refine e_iload X dX12_led_22 rfl ?_
    refine e_aload_n X dX12_led_24 rfl rfl ?_
    refine ge_M_m X wf_X12_7 dX12_led_25 ?_
    refine e_bipush X 11 dX12_led_28 rfl ?_
    refine e_iald X (j := 11) rfl rfl (vp_in_iff.mpr (by decide)) rfl dX12_led_30 ?_
    refine e_icmp_ge X 80 dX12_led_31 (by decide) (fun c4 => ?_) (fun c4 => ?_)
    · skip
      exact absurd (cntS hn) c4
    · skip
      refine e_aload_n X dX12_led_34 rfl rfl ?_
      refine ge_M_thrown X wf_X12_51 dX12_led_35 ?_
      refine e_if_ne X 80 dX12_led_38 (by decide) (fun c5 => ?_) (fun c5 => ?_)
      · skip
        rw [if_neg c5] at hB
        have hy9 := Option.some.inj hB; change (.inr v3) = y9 at hy9; subst hy9
        have hz9 := Option.some.inj hF; change (v3) = z at hz9; subst hz9
        exact e_le hK (And.intro rfl (And.intro rfl (And.intro rfl (And.intro rfl (trivial)))))
      · skip
        rw [if_pos c5] at hB
        refine e_iload_n X dX12_led_41 rfl rfl ?_
        refine e_aload_n X dX12_led_42 rfl rfl ?_
        refine e_iload X dX12_led_43 rfl ?_
        refine e_iconst X 1 dX12_led_45 rfl ?_
        obtain ⟨z6, h_z6, hB⟩ := obind_out hB
        refine e_callVi X (r := z6) (σ1 := σ) [.int v4, .int 1] [.int v3] (C_M_logged (Cx_gok X) σ v4 1 h_z6) gv_X12_369 yk_X12_logged rfl (ent_lt (rfl : entTbl[333]? = some (13, 0))) (ent_at (rfl : entTbl[333]? = some (13, 0)) _) (rfl : vCl[11]? = some (RX12, TX12, 24)) ⟨Nat.le_of_ble_eq_true rfl, Nat.le_of_ble_eq_true rfl⟩ ⟨Nat.le_of_ble_eq_true rfl, Nat.le_of_ble_eq_true rfl⟩ (Nat.le_of_ble_eq_true rfl) dX12_led_46 rfl ?_
        refine e_iload_n X dX12_led_49 rfl rfl ?_
        refine e_icmp_eq X 57 dX12_led_50 (by decide) (fun c7 => ?_) (fun c7 => ?_)
        · skip
          rw [if_pos c7] at hB
          refine e_iload_n X dX12_led_57 rfl rfl ?_
          refine e_if_eq X 71 dX12_led_58 (by decide) (fun c8 => ?_) (fun c8 => ?_)
          · skip
            rw [if_pos c8] at hB
            refine e_iconst X 1 dX12_led_71 rfl ?_
            refine e_iadd X dX12_led_72 ?_
            obtain ⟨x9, h_x9, hB⟩ := bindT_out hB
            refine e_istore_n X h_x9 dX12_led_73 rfl (by decide) ?_
            refine e_iinc X 1 dX12_led_74 rfl rfl (by decide) ?_
            refine e_goto X 22 dX12_led_77 (by decide) ?_
            have hy9 := Option.some.inj hB; change (.inl x9) = y9 at hy9; subst hy9
            exact e_le (ih _ x9 hF (cntN hn) (nnN h0 (cnt_hi hn)) hK) (And.intro rfl (And.intro rfl (And.intro rfl (And.intro rfl (And.intro rfl (trivial))))))
          · skip
            rw [if_neg c8] at hB
            refine e_aload_n X dX12_led_61 rfl rfl ?_
            refine e_iload X dX12_led_62 rfl ?_
            refine e_iconst X 2 dX12_led_64 rfl ?_
            obtain ⟨z10, h_z10, hB⟩ := obind_out hB
            refine e_callVi X (r := z10) (σ1 := σ) [.int v4, .int 2] [.int v3] (C_M_logged (Cx_gok X) σ v4 2 h_z10) gv_X12_369 yk_X12_logged rfl (ent_lt (rfl : entTbl[333]? = some (13, 0))) (ent_at (rfl : entTbl[333]? = some (13, 0)) _) (rfl : vCl[11]? = some (RX12, TX12, 24)) ⟨Nat.le_of_ble_eq_true rfl, Nat.le_of_ble_eq_true rfl⟩ ⟨Nat.le_of_ble_eq_true rfl, Nat.le_of_ble_eq_true rfl⟩ (Nat.le_of_ble_eq_true rfl) dX12_led_65 rfl ?_
            refine e_goto X 72 dX12_led_68 (by decide) ?_
            refine e_iadd X dX12_led_72 ?_
            obtain ⟨x11, h_x11, hB⟩ := bindT_out hB
            refine e_istore_n X h_x11 dX12_led_73 rfl (by decide) ?_
            refine e_iinc X 1 dX12_led_74 rfl rfl (by decide) ?_
            refine e_goto X 22 dX12_led_77 (by decide) ?_
            have hy9 := Option.some.inj hB; change (.inl x11) = y9 at hy9; subst hy9
            exact e_le (ih _ x11 hF (cntN hn) (nnN h0 (cnt_hi hn)) hK) (And.intro rfl (And.intro rfl (And.intro rfl (And.intro rfl (And.intro rfl (trivial))))))
        · skip
          rw [if_neg c7] at hB
          refine e_iconst X 0 dX12_led_53 rfl ?_
          refine e_goto X 72 dX12_led_54 (by decide) ?_
          refine e_iadd X dX12_led_72 ?_
          obtain ⟨x12, h_x12, hB⟩ := bindT_out hB
          refine e_istore_n X h_x12 dX12_led_73 rfl (by decide) ?_
          refine e_iinc X 1 dX12_led_74 rfl rfl (by decide) ?_
          refine e_goto X 22 dX12_led_77 (by decide) ?_
          have hy9 := Option.some.inj hB; change (.inl x12) = y9 at hy9; subst hy9
          exact e_le (ih _ x12 hF (cntN hn) (nnN h0 (cnt_hi hn)) hK) (And.intro rfl (And.intro rfl (And.intro rfl (And.intro rfl (And.intro rfl (trivial))))))
set_option maxRecDepth 20000 in
set_option maxHeartbeats 4000000 in
theorem C_M_led (hG : Gok l Γ D s0) (σ : Mem) (v1 : Int32) (v2 : Int32)  {out : Mem × Int32} (hF : F_M_led σ v1 v2 = some out) : CT l Γ D s0 yX12_led cX12_led 5 (some .int) (2) 0 0 (43) σ [.ref (Γ.1 + 333), .int v1, .int v2] (PI (some (.int out.2)) out.1) := by
  unfold F_M_led at hF
  refine e_met (own := RX12) hG (by decide +kernel) rfl rfl (Nat.le_of_ble_eq_true rfl) ?_
  intro p e s m args below meth c X hr
  show E p l e _ s m args below meth c Γ D 0 0 _ σ 0 [some (.ref (Γ.1 + 333)), some (.int v1), some (.int v2), none, none] []
  refine e_aload_n X dX12_led_0 rfl rfl ?_
  refine e_aload_n X dX12_led_1 rfl rfl ?_
  refine e_iload_n X dX12_led_2 rfl rfl ?_
  obtain ⟨z1, h_z1, hF⟩ := obind_out hF
  refine e_callVi X (r := z1) (σ1 := σ) [.int v1] [.ref (Γ.1 + 333)] (C_M_isMatch (Cx_gok X) σ v1 h_z1) gv_X12_305 yk_X12_isMatch rfl (ent_lt (rfl : entTbl[333]? = some (13, 0))) (ent_at (rfl : entTbl[333]? = some (13, 0)) _) (rfl : vCl[11]? = some (RX12, TX12, 24)) ⟨Nat.le_of_ble_eq_true rfl, Nat.le_of_ble_eq_true rfl⟩ ⟨Nat.le_of_ble_eq_true rfl, Nat.le_of_ble_eq_true rfl⟩ (Nat.le_of_ble_eq_true rfl) dX12_led_3 rfl ?_
  refine e_if_ne X 13 dX12_led_6 (by decide) (fun c2 => ?_) (fun c2 => ?_)
  · skip
    rw [if_neg c2] at hF
    refine e_iconst X 0 dX12_led_13 rfl ?_
    obtain ⟨σ3, h_σ3, hF⟩ := bindT_out hF
    refine pu_M_thrown X wf_X12_51 dX12_led_14 h_σ3 ?_
    refine e_iconst X 0 dX12_led_17 rfl ?_
    refine e_istore_n X rfl dX12_led_18 rfl (by decide) ?_
    refine e_iconst X 0 dX12_led_19 rfl ?_
    refine e_istore X rfl dX12_led_20 (by decide) ?_
    obtain ⟨z14, h_z14, hF⟩ := obind_out hF
    refine e_le (L_M_led_22 X hr σ3 v1 v2 _ 0 0 h_z14 rfl (by decide) ?_) (And.intro rfl (And.intro rfl (And.intro rfl (And.intro rfl (And.intro rfl (trivial))))))
    refine e_iload_n X dX12_led_80 rfl rfl ?_
    exact e_iret X hr dX12_led_81 (Nat.le_of_ble_eq_true rfl) (Nat.le_of_ble_eq_true rfl) (by cases hF; exact ⟨rfl, rfl⟩)
  · skip
    rw [if_pos c2] at hF
    refine e_iconst X 1 dX12_led_9 rfl ?_
    refine e_goto X 14 dX12_led_10 (by decide) ?_
    obtain ⟨σ15, h_σ15, hF⟩ := bindT_out hF
    refine pu_M_thrown X wf_X12_51 dX12_led_14 h_σ15 ?_
    refine e_iconst X 0 dX12_led_17 rfl ?_
    refine e_istore_n X rfl dX12_led_18 rfl (by decide) ?_
    refine e_iconst X 0 dX12_led_19 rfl ?_
    refine e_istore X rfl dX12_led_20 (by decide) ?_
    obtain ⟨z16, h_z16, hF⟩ := obind_out hF
    refine e_le (L_M_led_22 X hr σ15 v1 v2 _ 0 0 h_z16 rfl (by decide) ?_) (And.intro rfl (And.intro rfl (And.intro rfl (And.intro rfl (And.intro rfl (trivial))))))
    refine e_iload_n X dX12_led_80 rfl rfl ?_
    exact e_iret X hr dX12_led_81 (Nat.le_of_ble_eq_true rfl) (Nat.le_of_ble_eq_true rfl) (by cases hF; exact ⟨rfl, rfl⟩)
set_option maxRecDepth 20000 in
set_option maxHeartbeats 4000000 in
theorem C_M_log (hG : Gok l Γ D s0) (σ : Mem) (v1 : Int32) (v2 : Int32)  {out : Mem × Int32} (hF : F_M_log σ v1 v2 = some out) : CT l Γ D s0 yX12_log cX12_log 3 (some .int) (1) 0 0 (22) σ [.ref (Γ.1 + 333), .int v1, .int v2] (PI (some (.int out.2)) out.1) := by
  unfold F_M_log at hF
  refine e_met (own := RX12) hG (by decide +kernel) rfl rfl (Nat.le_of_ble_eq_true rfl) ?_
  intro p e s m args below meth c X hr
  show E p l e _ s m args below meth c Γ D 0 0 _ σ 0 [some (.ref (Γ.1 + 333)), some (.int v1), some (.int v2)] []
  refine e_aload_n X dX12_log_0 rfl rfl ?_
  refine e_iload_n X dX12_log_1 rfl rfl ?_
  refine e_iconst X 0 dX12_log_2 rfl ?_
  refine e_iconst X 3 dX12_log_3 rfl ?_
  refine e_callSi X (r := (F_M_isIn σ v2 0 3)) (σ1 := σ) [.int v2, .int 0, .int 3] [.ref (Γ.1 + 333)] (C_M_isIn (Cx_gok X) σ v2 0 3) gs_X12_54 yk_X12_isIn rfl ⟨Nat.le_of_ble_eq_true rfl, Nat.le_of_ble_eq_true rfl⟩ ⟨Nat.le_of_ble_eq_true rfl, Nat.le_of_ble_eq_true rfl⟩ (Nat.le_of_ble_eq_true rfl) dX12_log_4 rfl ?_
  refine e_if_ne X 14 dX12_log_7 (by decide) (fun c1 => ?_) (fun c1 => ?_)
  · skip
    rw [if_neg c1] at hF
    refine e_iconst X 0 dX12_log_14 rfl ?_
    obtain ⟨σ2, h_σ2, hF⟩ := bindT_out hF
    refine pu_M_thrown X wf_X12_51 dX12_log_15 h_σ2 ?_
    refine e_aload_n X dX12_log_18 rfl rfl ?_
    refine ge_M_thrown X wf_X12_51 dX12_log_19 ?_
    refine e_if_le X 27 dX12_log_22 (by decide) (fun c3 => ?_) (fun c3 => ?_)
    · skip
      rw [if_neg c3] at hF
      refine e_iload_n X dX12_log_27 rfl rfl ?_
      refine e_iconst X 0 dX12_log_28 rfl ?_
      refine e_aload_n X dX12_log_29 rfl rfl ?_
      refine ge_M_m X wf_X12_7 dX12_log_30 ?_
      refine e_bipush X 11 dX12_log_33 rfl ?_
      refine e_iald X (j := 11) rfl rfl (vp_in_iff.mpr (by decide)) rfl dX12_log_35 ?_
      refine e_iconst X 1 dX12_log_36 rfl ?_
      refine e_isub X dX12_log_37 ?_
      refine e_callSi X (r := (F_M_isIn σ2 v1 0 (((σ2 334 11) - 1)))) (σ1 := σ2) [.int v1, .int 0, .int (((σ2 334 11) - 1))] [] (C_M_isIn (Cx_gok X) σ2 v1 0 (((σ2 334 11) - 1))) gs_X12_54 yk_X12_isIn rfl ⟨Nat.le_of_ble_eq_true rfl, Nat.le_of_ble_eq_true rfl⟩ ⟨Nat.le_of_ble_eq_true rfl, Nat.le_of_ble_eq_true rfl⟩ (Nat.le_of_ble_eq_true rfl) dX12_log_38 rfl ?_
      refine e_if_eq X 53 dX12_log_41 (by decide) (fun c4 => ?_) (fun c4 => ?_)
      · skip
        rw [if_pos c4] at hF
        refine e_iconst X (-1) dX12_log_53 rfl ?_
        exact e_iret X hr dX12_log_54 (Nat.le_of_ble_eq_true rfl) (Nat.le_of_ble_eq_true rfl) (by cases hF; exact ⟨rfl, rfl⟩)
      · skip
        rw [if_neg c4] at hF
        refine e_aload_n X dX12_log_44 rfl rfl ?_
        refine e_iload_n X dX12_log_45 rfl rfl ?_
        refine e_iload_n X dX12_log_46 rfl rfl ?_
        obtain ⟨z5, h_z5, hF⟩ := obind_out hF
        refine e_callVi X (r := z5) (σ1 := σ2) [.int v1, .int v2] [] (C_M_logged (Cx_gok X) σ2 v1 v2 h_z5) gv_X12_369 yk_X12_logged rfl (ent_lt (rfl : entTbl[333]? = some (13, 0))) (ent_at (rfl : entTbl[333]? = some (13, 0)) _) (rfl : vCl[11]? = some (RX12, TX12, 24)) ⟨Nat.le_of_ble_eq_true rfl, Nat.le_of_ble_eq_true rfl⟩ ⟨Nat.le_of_ble_eq_true rfl, Nat.le_of_ble_eq_true rfl⟩ (Nat.le_of_ble_eq_true rfl) dX12_log_47 rfl ?_
        refine e_goto X 54 dX12_log_50 (by decide) ?_
        exact e_iret X hr dX12_log_54 (Nat.le_of_ble_eq_true rfl) (Nat.le_of_ble_eq_true rfl) (by cases hF; exact ⟨rfl, rfl⟩)
    · skip
      rw [if_pos c3] at hF
      refine e_iconst X 0 dX12_log_25 rfl ?_
      exact e_iret X hr dX12_log_26 (Nat.le_of_ble_eq_true rfl) (Nat.le_of_ble_eq_true rfl) (by cases hF; exact ⟨rfl, rfl⟩)
  · skip
    rw [if_pos c1] at hF
    refine e_iconst X 1 dX12_log_10 rfl ?_
    refine e_goto X 15 dX12_log_11 (by decide) ?_
    obtain ⟨σ6, h_σ6, hF⟩ := bindT_out hF
    refine pu_M_thrown X wf_X12_51 dX12_log_15 h_σ6 ?_
    refine e_aload_n X dX12_log_18 rfl rfl ?_
    refine ge_M_thrown X wf_X12_51 dX12_log_19 ?_
    refine e_if_le X 27 dX12_log_22 (by decide) (fun c7 => ?_) (fun c7 => ?_)
    · skip
      rw [if_neg c7] at hF
      refine e_iload_n X dX12_log_27 rfl rfl ?_
      refine e_iconst X 0 dX12_log_28 rfl ?_
      refine e_aload_n X dX12_log_29 rfl rfl ?_
      refine ge_M_m X wf_X12_7 dX12_log_30 ?_
      refine e_bipush X 11 dX12_log_33 rfl ?_
      refine e_iald X (j := 11) rfl rfl (vp_in_iff.mpr (by decide)) rfl dX12_log_35 ?_
      refine e_iconst X 1 dX12_log_36 rfl ?_
      refine e_isub X dX12_log_37 ?_
      refine e_callSi X (r := (F_M_isIn σ6 v1 0 (((σ6 334 11) - 1)))) (σ1 := σ6) [.int v1, .int 0, .int (((σ6 334 11) - 1))] [] (C_M_isIn (Cx_gok X) σ6 v1 0 (((σ6 334 11) - 1))) gs_X12_54 yk_X12_isIn rfl ⟨Nat.le_of_ble_eq_true rfl, Nat.le_of_ble_eq_true rfl⟩ ⟨Nat.le_of_ble_eq_true rfl, Nat.le_of_ble_eq_true rfl⟩ (Nat.le_of_ble_eq_true rfl) dX12_log_38 rfl ?_
      refine e_if_eq X 53 dX12_log_41 (by decide) (fun c8 => ?_) (fun c8 => ?_)
      · skip
        rw [if_pos c8] at hF
        refine e_iconst X (-1) dX12_log_53 rfl ?_
        exact e_iret X hr dX12_log_54 (Nat.le_of_ble_eq_true rfl) (Nat.le_of_ble_eq_true rfl) (by cases hF; exact ⟨rfl, rfl⟩)
      · skip
        rw [if_neg c8] at hF
        refine e_aload_n X dX12_log_44 rfl rfl ?_
        refine e_iload_n X dX12_log_45 rfl rfl ?_
        refine e_iload_n X dX12_log_46 rfl rfl ?_
        obtain ⟨z9, h_z9, hF⟩ := obind_out hF
        refine e_callVi X (r := z9) (σ1 := σ6) [.int v1, .int v2] [] (C_M_logged (Cx_gok X) σ6 v1 v2 h_z9) gv_X12_369 yk_X12_logged rfl (ent_lt (rfl : entTbl[333]? = some (13, 0))) (ent_at (rfl : entTbl[333]? = some (13, 0)) _) (rfl : vCl[11]? = some (RX12, TX12, 24)) ⟨Nat.le_of_ble_eq_true rfl, Nat.le_of_ble_eq_true rfl⟩ ⟨Nat.le_of_ble_eq_true rfl, Nat.le_of_ble_eq_true rfl⟩ (Nat.le_of_ble_eq_true rfl) dX12_log_47 rfl ?_
        refine e_goto X 54 dX12_log_50 (by decide) ?_
        exact e_iret X hr dX12_log_54 (Nat.le_of_ble_eq_true rfl) (Nat.le_of_ble_eq_true rfl) (by cases hF; exact ⟨rfl, rfl⟩)
    · skip
      rw [if_pos c7] at hF
      refine e_iconst X 0 dX12_log_25 rfl ?_
      exact e_iret X hr dX12_log_26 (Nat.le_of_ble_eq_true rfl) (Nat.le_of_ble_eq_true rfl) (by cases hF; exact ⟨rfl, rfl⟩)
set_option maxRecDepth 20000 in
set_option maxHeartbeats 4000000 in
theorem C_M_seed (hG : Gok l Γ D s0) (σ : Mem) (v1 : Int32)  {out : Mem × Int32} (hF : F_M_seed σ v1 = some out) : CT l Γ D s0 yX12_seed cX12_seed 3 (some .int) (0) 0 0 (0) σ [.ref (Γ.1 + 333), .int v1] (PI (some (.int out.2)) out.1) := by
  unfold F_M_seed at hF
  refine e_met (own := RX12) hG (by decide +kernel) rfl rfl (Nat.le_of_ble_eq_true rfl) ?_
  intro p e s m args below meth c X hr
  show E p l e _ s m args below meth c Γ D 0 0 _ σ 0 [some (.ref (Γ.1 + 333)), some (.int v1), none] []
  refine e_aload_n X dX12_seed_0 rfl rfl ?_
  refine e_iconst X 0 dX12_seed_1 rfl ?_
  obtain ⟨σ1, h_σ1, hF⟩ := bindT_out hF
  refine pu_M_thrown X wf_X12_51 dX12_seed_2 h_σ1 ?_
  refine e_aload_n X dX12_seed_5 rfl rfl ?_
  refine ge_M_m X wf_X12_7 dX12_seed_6 ?_
  refine e_bipush X 12 dX12_seed_9 rfl ?_
  refine e_iald X (j := 12) rfl rfl (vp_in_iff.mpr (by decide)) rfl dX12_seed_11 ?_
  obtain ⟨x2, h_x2, hF⟩ := bindT_out hF
  refine e_istore_n X h_x2 dX12_seed_12 rfl (by decide) ?_
  refine e_aload_n X dX12_seed_13 rfl rfl ?_
  refine ge_M_m X wf_X12_7 dX12_seed_14 ?_
  refine e_bipush X 12 dX12_seed_17 rfl ?_
  refine e_iload_n X dX12_seed_19 rfl rfl ?_
  obtain ⟨σ3, h_σ3, hF⟩ := bindT_out hF
  refine e_iast X (j := 12) rfl rfl (vp_in_iff.mpr (by decide)) rfl dX12_seed_20 h_σ3 ?_
  refine e_iload_n X dX12_seed_21 rfl rfl ?_
  exact e_iret X hr dX12_seed_22 (Nat.le_of_ble_eq_true rfl) (Nat.le_of_ble_eq_true rfl) (by cases hF; exact ⟨rfl, rfl⟩)
set_option maxRecDepth 20000 in
set_option maxHeartbeats 4000000 in
theorem L_M_undo_26 (X : Cx p l s m args meth c Γ D s0 RX12 cX12_undo 2) (hr : meth.sig.returnType = (some .boolean))   : ∀ (n : Nat) (v1 : Int32) (σ : Mem) {z : Mem}, forSO (fun i s => F_M_undo_26_b  i s) n v1 σ = some z → n = cnt v1 450 → ¬ v1 < 0 → (E p l e ({ frames := 0, cells := 0, slots := 0, locals := 0 } : Room) s m args below meth c Γ D 0 0 (MQ below (QcA Γ D Pst) args s 0 0 (frB Γ)) z 60 [some (.ref (Γ.1 + 333)), none] []) → E p l e ({ frames := 0, cells := 0, slots := 0, locals := 0 } : Room) s m args below meth c Γ D 0 0 (MQ below (QcA Γ D Pst) args s 0 0 (frB Γ)) σ 26 [some (.ref (Γ.1 + 333)), some (.int v1)] [] := by
  intro n
  induction n with
  | zero =>
    intro v1 σ z hF hn h0 hK
    refine e_iload_n X dX12_undo_26 rfl rfl ?_
    refine e_sipush X 450 dX12_undo_27 rfl ?_
    refine e_icmp_ge X 60 dX12_undo_30 (by decide) (fun c8 => ?_) (fun c8 => ?_)
    · skip
      have hz9 := Option.some.inj hF; change (σ) = z at hz9; subst hz9
      exact e_le hK (And.intro rfl (trivial))
    · skip
      exact absurd c8 (cnt0 hn)
  | succ n ih =>
    intro v1 σ z hF hn h0 hK
    obtain ⟨y9, hB, hF⟩ := forSO_step hF
    change F_M_undo_26_b  v1 σ = some y9 at hB
    unfold F_M_undo_26_b at hB
    refine e_iload_n X dX12_undo_26 rfl rfl ?_
    refine e_sipush X 450 dX12_undo_27 rfl ?_
    refine e_icmp_ge X 60 dX12_undo_30 (by decide) (fun c4 => ?_) (fun c4 => ?_)
    · skip
      exact absurd (cntS hn) c4
    · skip
      refine e_aload_n X dX12_undo_33 rfl rfl ?_
      refine ge_M_m X wf_X12_7 dX12_undo_34 ?_
      refine e_iload_n X dX12_undo_37 rfl rfl ?_
      refine e_aload_n X dX12_undo_38 rfl rfl ?_
      refine ge_M_acts X wf_X12_19 dX12_undo_39 ?_
      refine e_sipush X 450 dX12_undo_42 rfl ?_
      refine e_aload_n X dX12_undo_45 rfl rfl ?_
      refine ge_M_acted X wf_X12_201 dX12_undo_46 ?_
      refine e_imul X dX12_undo_49 ?_
      refine e_iload_n X dX12_undo_50 rfl rfl ?_
      refine e_iadd X dX12_undo_51 ?_
      obtain ⟨i5, h_i5, hB⟩ := bindT_out hB
      obtain ⟨c6, hB⟩ := chk_out hB
      refine e_iald X (j := i5.toNatClampNeg) h_i5 rfl (inb_in c6) rfl dX12_undo_52 ?_
      obtain ⟨σ7, h_σ7, hB⟩ := bindT_out hB
      refine e_iast X (j := v1.toNatClampNeg) rfl rfl (vp_gc (by decide) h0 c4) rfl dX12_undo_53 h_σ7 ?_
      refine e_iinc X 1 dX12_undo_54 rfl rfl (by decide) ?_
      refine e_goto X 26 dX12_undo_57 (by decide) ?_
      have hy9 := Option.some.inj hB; change (σ7) = y9 at hy9; subst hy9
      exact e_le (ih _ σ7 hF (cntN hn) (nnN h0 (cnt_hi hn)) hK) (And.intro rfl (And.intro rfl (trivial)))
set_option maxRecDepth 20000 in
set_option maxHeartbeats 4000000 in
theorem C_M_undo (hG : Gok l Γ D s0) (σ : Mem)   {out : Mem × Int32} (hF : F_M_undo σ = some out) : CT l Γ D s0 yX12_undo cX12_undo 2 (some .boolean) (0) 0 0 (0) σ [.ref (Γ.1 + 333)] (PI (some (.int out.2)) out.1) := by
  unfold F_M_undo at hF
  refine e_met (own := RX12) hG (by decide +kernel) rfl rfl (Nat.le_of_ble_eq_true rfl) ?_
  intro p e s m args below meth c X hr
  show E p l e _ s m args below meth c Γ D 0 0 _ σ 0 [some (.ref (Γ.1 + 333)), none] []
  refine e_aload_n X dX12_undo_0 rfl rfl ?_
  refine e_iconst X 0 dX12_undo_1 rfl ?_
  obtain ⟨σ1, h_σ1, hF⟩ := bindT_out hF
  refine pu_M_thrown X wf_X12_51 dX12_undo_2 h_σ1 ?_
  refine e_aload_n X dX12_undo_5 rfl rfl ?_
  refine ge_M_acted X wf_X12_201 dX12_undo_6 ?_
  refine e_if_ne X 14 dX12_undo_9 (by decide) (fun c2 => ?_) (fun c2 => ?_)
  · skip
    rw [if_neg c2] at hF
    refine e_aload_n X dX12_undo_14 rfl rfl ?_
    refine e_dup X dX12_undo_15 rfl ?_
    refine ge_M_acted X wf_X12_201 dX12_undo_16 ?_
    refine e_iconst X 1 dX12_undo_19 rfl ?_
    refine e_isub X dX12_undo_20 ?_
    obtain ⟨σ3, h_σ3, hF⟩ := bindT_out hF
    refine pu_M_acted X wf_X12_201 dX12_undo_21 h_σ3 ?_
    refine e_iconst X 0 dX12_undo_24 rfl ?_
    refine e_istore_n X rfl dX12_undo_25 rfl (by decide) ?_
    obtain ⟨z9, h_z9, hF⟩ := obind_out hF
    refine e_le (L_M_undo_26 X hr _ 0 σ3 h_z9 rfl (by decide) ?_) (And.intro rfl (And.intro rfl (trivial)))
    refine e_iconst X 1 dX12_undo_60 rfl ?_
    exact e_zret X hr rfl dX12_undo_61 (Nat.le_of_ble_eq_true rfl) (Nat.le_of_ble_eq_true rfl) (by cases hF; exact ⟨rfl, rfl⟩)
  · skip
    rw [if_pos c2] at hF
    refine e_iconst X 0 dX12_undo_12 rfl ?_
    exact e_zret X hr rfl dX12_undo_13 (Nat.le_of_ble_eq_true rfl) (Nat.le_of_ble_eq_true rfl) (by cases hF; exact ⟨rfl, rfl⟩)
set_option maxRecDepth 20000 in
set_option maxHeartbeats 4000000 in
theorem L_M_image_7 (X : Cx p l s m args meth c Γ D s0 RX12 cX12_image 2) (hr : meth.sig.returnType = none)   : ∀ (n : Nat) (v1 : Int32) (σ : Mem) {z : Mem}, forSO (fun i s => F_M_image_7_b  i s) n v1 σ = some z → n = cnt v1 850 → ¬ v1 < 0 → (E p l e ({ frames := 0, cells := 0, slots := 0, locals := 0 } : Room) s m args below meth c Γ D 0 0 (MQ below (QcA Γ D Pst) args s 0 0 (frB Γ)) z 32 [some (.ref (Γ.1 + 333)), none] []) → E p l e ({ frames := 0, cells := 0, slots := 0, locals := 0 } : Room) s m args below meth c Γ D 0 0 (MQ below (QcA Γ D Pst) args s 0 0 (frB Γ)) σ 7 [some (.ref (Γ.1 + 333)), some (.int v1)] [] := by
  intro n
  induction n with
  | zero =>
    intro v1 σ z hF hn h0 hK
    refine e_iload_n X dX12_image_7 rfl rfl ?_
    refine e_sipush X 850 dX12_image_8 rfl ?_
    refine e_icmp_ge X 32 dX12_image_11 (by decide) (fun c4 => ?_) (fun c4 => ?_)
    · skip
      have hz9 := Option.some.inj hF; change (σ) = z at hz9; subst hz9
      exact e_le hK (And.intro rfl (trivial))
    · skip
      exact absurd c4 (cnt0 hn)
  | succ n ih =>
    intro v1 σ z hF hn h0 hK
    obtain ⟨y9, hB, hF⟩ := forSO_step hF
    change F_M_image_7_b  v1 σ = some y9 at hB
    unfold F_M_image_7_b at hB
    refine e_iload_n X dX12_image_7 rfl rfl ?_
    refine e_sipush X 850 dX12_image_8 rfl ?_
    refine e_icmp_ge X 32 dX12_image_11 (by decide) (fun c2 => ?_) (fun c2 => ?_)
    · skip
      exact absurd (cntS hn) c2
    · skip
      refine e_aload_n X dX12_image_14 rfl rfl ?_
      refine ge_M_kept X wf_X12_13 dX12_image_15 ?_
      refine e_iload_n X dX12_image_18 rfl rfl ?_
      refine e_aload_n X dX12_image_19 rfl rfl ?_
      refine ge_M_m X wf_X12_7 dX12_image_20 ?_
      refine e_iload_n X dX12_image_23 rfl rfl ?_
      refine e_iald X (j := v1.toNatClampNeg) rfl rfl (vp_gc (by decide) h0 c2) rfl dX12_image_24 ?_
      obtain ⟨σ3, h_σ3, hB⟩ := bindT_out hB
      refine e_iast X (j := v1.toNatClampNeg) rfl rfl (vp_gc (by decide) h0 c2) rfl dX12_image_25 h_σ3 ?_
      refine e_iinc X 1 dX12_image_26 rfl rfl (by decide) ?_
      refine e_goto X 7 dX12_image_29 (by decide) ?_
      have hy9 := Option.some.inj hB; change (σ3) = y9 at hy9; subst hy9
      exact e_le (ih _ σ3 hF (cntN hn) (nnN h0 (cnt_hi hn)) hK) (And.intro rfl (And.intro rfl (trivial)))
set_option maxRecDepth 20000 in
set_option maxHeartbeats 4000000 in
theorem C_M_image (hG : Gok l Γ D s0) (σ : Mem)   {out : Mem} (hF : F_M_image σ = some out) : CT l Γ D s0 yX12_image cX12_image 2 none (0) 0 0 (0) σ [.ref (Γ.1 + 333)] (PI none out) := by
  unfold F_M_image at hF
  refine e_met (own := RX12) hG (by decide +kernel) rfl rfl (Nat.le_of_ble_eq_true rfl) ?_
  intro p e s m args below meth c X hr
  show E p l e _ s m args below meth c Γ D 0 0 _ σ 0 [some (.ref (Γ.1 + 333)), none] []
  refine e_aload_n X dX12_image_0 rfl rfl ?_
  refine e_iconst X 0 dX12_image_1 rfl ?_
  obtain ⟨σ1, h_σ1, hF⟩ := bindT_out hF
  refine pu_M_thrown X wf_X12_51 dX12_image_2 h_σ1 ?_
  refine e_iconst X 0 dX12_image_5 rfl ?_
  refine e_istore_n X rfl dX12_image_6 rfl (by decide) ?_
  obtain ⟨z5, h_z5, hF⟩ := obind_out hF
  refine e_le (L_M_image_7 X hr _ 0 σ1 h_z5 rfl (by decide) ?_) (And.intro rfl (And.intro rfl (trivial)))
  refine e_aload_n X dX12_image_32 rfl rfl ?_
  refine e_iconst X 1 dX12_image_33 rfl ?_
  obtain ⟨σ6, h_σ6, hF⟩ := bindT_out hF
  refine pu_M_hasImage X (Or.inr rfl) wf_X12_372 dX12_image_34 h_σ6 ?_
  exact e_vret X hr dX12_image_37 (Nat.le_of_ble_eq_true rfl) (Nat.le_of_ble_eq_true rfl) (by cases hF; exact ⟨rfl, rfl⟩)
set_option maxRecDepth 20000 in
set_option maxHeartbeats 4000000 in
theorem L_M_back_16 (X : Cx p l s m args meth c Γ D s0 RX12 cX12_back 2) (hr : meth.sig.returnType = (some .boolean))   : ∀ (n : Nat) (v1 : Int32) (σ : Mem) {z : Mem}, forSO (fun i s => F_M_back_16_b  i s) n v1 σ = some z → n = cnt v1 850 → ¬ v1 < 0 → (E p l e ({ frames := 0, cells := 0, slots := 0, locals := 0 } : Room) s m args below meth c Γ D 0 0 (MQ below (QcA Γ D Pst) args s 0 0 (frB Γ)) z 41 [some (.ref (Γ.1 + 333)), none] []) → E p l e ({ frames := 0, cells := 0, slots := 0, locals := 0 } : Room) s m args below meth c Γ D 0 0 (MQ below (QcA Γ D Pst) args s 0 0 (frB Γ)) σ 16 [some (.ref (Γ.1 + 333)), some (.int v1)] [] := by
  intro n
  induction n with
  | zero =>
    intro v1 σ z hF hn h0 hK
    refine e_iload_n X dX12_back_16 rfl rfl ?_
    refine e_sipush X 850 dX12_back_17 rfl ?_
    refine e_icmp_ge X 41 dX12_back_20 (by decide) (fun c5 => ?_) (fun c5 => ?_)
    · skip
      have hz9 := Option.some.inj hF; change (σ) = z at hz9; subst hz9
      exact e_le hK (And.intro rfl (trivial))
    · skip
      exact absurd c5 (cnt0 hn)
  | succ n ih =>
    intro v1 σ z hF hn h0 hK
    obtain ⟨y9, hB, hF⟩ := forSO_step hF
    change F_M_back_16_b  v1 σ = some y9 at hB
    unfold F_M_back_16_b at hB
    refine e_iload_n X dX12_back_16 rfl rfl ?_
    refine e_sipush X 850 dX12_back_17 rfl ?_
    refine e_icmp_ge X 41 dX12_back_20 (by decide) (fun c3 => ?_) (fun c3 => ?_)
    · skip
      exact absurd (cntS hn) c3
    · skip
      refine e_aload_n X dX12_back_23 rfl rfl ?_
      refine ge_M_m X wf_X12_7 dX12_back_24 ?_
      refine e_iload_n X dX12_back_27 rfl rfl ?_
      refine e_aload_n X dX12_back_28 rfl rfl ?_
      refine ge_M_kept X wf_X12_13 dX12_back_29 ?_
      refine e_iload_n X dX12_back_32 rfl rfl ?_
      refine e_iald X (j := v1.toNatClampNeg) rfl rfl (vp_gc (by decide) h0 c3) rfl dX12_back_33 ?_
      obtain ⟨σ4, h_σ4, hB⟩ := bindT_out hB
      refine e_iast X (j := v1.toNatClampNeg) rfl rfl (vp_gc (by decide) h0 c3) rfl dX12_back_34 h_σ4 ?_
      refine e_iinc X 1 dX12_back_35 rfl rfl (by decide) ?_
      refine e_goto X 16 dX12_back_38 (by decide) ?_
      have hy9 := Option.some.inj hB; change (σ4) = y9 at hy9; subst hy9
      exact e_le (ih _ σ4 hF (cntN hn) (nnN h0 (cnt_hi hn)) hK) (And.intro rfl (And.intro rfl (trivial)))
set_option maxRecDepth 20000 in
set_option maxHeartbeats 4000000 in
theorem C_M_back (hG : Gok l Γ D s0) (σ : Mem)   {out : Mem × Int32} (hF : F_M_back σ = some out) : CT l Γ D s0 yX12_back cX12_back 2 (some .boolean) (0) 0 0 (0) σ [.ref (Γ.1 + 333)] (PI (some (.int out.2)) out.1) := by
  unfold F_M_back at hF
  refine e_met (own := RX12) hG (by decide +kernel) rfl rfl (Nat.le_of_ble_eq_true rfl) ?_
  intro p e s m args below meth c X hr
  show E p l e _ s m args below meth c Γ D 0 0 _ σ 0 [some (.ref (Γ.1 + 333)), none] []
  refine e_aload_n X dX12_back_0 rfl rfl ?_
  refine e_iconst X 0 dX12_back_1 rfl ?_
  obtain ⟨σ1, h_σ1, hF⟩ := bindT_out hF
  refine pu_M_thrown X wf_X12_51 dX12_back_2 h_σ1 ?_
  refine e_aload_n X dX12_back_5 rfl rfl ?_
  refine ge_M_hasImage X wf_X12_372 dX12_back_6 ?_
  refine e_if_ne X 14 dX12_back_9 (by decide) (fun c2 => ?_) (fun c2 => ?_)
  · skip
    rw [if_neg c2] at hF
    refine e_iconst X 0 dX12_back_14 rfl ?_
    refine e_istore_n X rfl dX12_back_15 rfl (by decide) ?_
    obtain ⟨z6, h_z6, hF⟩ := obind_out hF
    refine e_le (L_M_back_16 X hr _ 0 σ1 h_z6 rfl (by decide) ?_) (And.intro rfl (And.intro rfl (trivial)))
    refine e_aload_n X dX12_back_41 rfl rfl ?_
    refine e_iconst X 0 dX12_back_42 rfl ?_
    obtain ⟨σ7, h_σ7, hF⟩ := bindT_out hF
    refine pu_M_acted X wf_X12_201 dX12_back_43 h_σ7 ?_
    refine e_iconst X 1 dX12_back_46 rfl ?_
    exact e_zret X hr rfl dX12_back_47 (Nat.le_of_ble_eq_true rfl) (Nat.le_of_ble_eq_true rfl) (by cases hF; exact ⟨rfl, rfl⟩)
  · skip
    rw [if_pos c2] at hF
    refine e_iconst X 0 dX12_back_12 rfl ?_
    exact e_zret X hr rfl dX12_back_13 (Nat.le_of_ble_eq_true rfl) (Nat.le_of_ble_eq_true rfl) (by cases hF; exact ⟨rfl, rfl⟩)
set_option maxRecDepth 20000 in
set_option maxHeartbeats 4000000 in
theorem L_M_wedOnes_4 (X : Cx p l s m args meth c Γ D s0 RX12 cX12_wedOnes 3) (hr : meth.sig.returnType = (some .int)) (σ : Mem)  : ∀ (n : Nat) (v2 : Int32) (v1 : Int32) {z : Int32}, forSO (fun i s => F_M_wedOnes_4_b σ i s) n v2 v1 = some z → n = cnt v2 ((σ 334 3)) → ¬ v2 < 0 → (E p l e ({ frames := 2, cells := 0, slots := 0, locals := 44 } : Room) s m args below meth c Γ D 0 0 (MQ below (QcA Γ D Pst) args s 0 0 (frB Γ)) σ 39 [some (.ref (Γ.1 + 333)), some (.int z), none] []) → E p l e ({ frames := 2, cells := 0, slots := 0, locals := 44 } : Room) s m args below meth c Γ D 0 0 (MQ below (QcA Γ D Pst) args s 0 0 (frB Γ)) σ 4 [some (.ref (Γ.1 + 333)), some (.int v1), some (.int v2)] [] := by
  intro n
  induction n with
  | zero =>
    intro v2 v1 z hF hn h0 hK
    refine e_iload_n X dX12_wedOnes_4 rfl rfl ?_
    refine e_aload_n X dX12_wedOnes_5 rfl rfl ?_
    refine ge_M_m X wf_X12_7 dX12_wedOnes_6 ?_
    refine e_iconst X 3 dX12_wedOnes_9 rfl ?_
    refine e_iald X (j := 3) rfl rfl (vp_in_iff.mpr (by decide)) rfl dX12_wedOnes_10 ?_
    refine e_icmp_ge X 39 dX12_wedOnes_11 (by decide) (fun c6 => ?_) (fun c6 => ?_)
    · skip
      have hz9 := Option.some.inj hF; change (v1) = z at hz9; subst hz9
      exact e_le hK (And.intro rfl (And.intro rfl (trivial)))
    · skip
      exact absurd c6 (cnt0 hn)
  | succ n ih =>
    intro v2 v1 z hF hn h0 hK
    obtain ⟨y9, hB, hF⟩ := forSO_step hF
    change F_M_wedOnes_4_b σ v2 v1 = some y9 at hB
    unfold F_M_wedOnes_4_b at hB
    refine e_iload_n X dX12_wedOnes_4 rfl rfl ?_
    refine e_aload_n X dX12_wedOnes_5 rfl rfl ?_
    refine ge_M_m X wf_X12_7 dX12_wedOnes_6 ?_
    refine e_iconst X 3 dX12_wedOnes_9 rfl ?_
    refine e_iald X (j := 3) rfl rfl (vp_in_iff.mpr (by decide)) rfl dX12_wedOnes_10 ?_
    refine e_icmp_ge X 39 dX12_wedOnes_11 (by decide) (fun c1 => ?_) (fun c1 => ?_)
    · skip
      exact absurd (cntS hn) c1
    · skip
      refine e_iload_n X dX12_wedOnes_14 rfl rfl ?_
      refine e_aload_n X dX12_wedOnes_15 rfl rfl ?_
      refine e_iload_n X dX12_wedOnes_16 rfl rfl ?_
      obtain ⟨z2, h_z2, hB⟩ := obind_out hB
      refine e_callVi X (r := z2) (σ1 := σ) [.int v2] [.int v1] (C_M_wedTo (Cx_gok X) σ v2 h_z2) gv_X12_121 yk_X12_wedTo rfl (ent_lt (rfl : entTbl[333]? = some (13, 0))) (ent_at (rfl : entTbl[333]? = some (13, 0)) _) (rfl : vCl[11]? = some (RX12, TX12, 24)) ⟨Nat.le_of_ble_eq_true rfl, Nat.le_of_ble_eq_true rfl⟩ ⟨Nat.le_of_ble_eq_true rfl, Nat.le_of_ble_eq_true rfl⟩ (Nat.le_of_ble_eq_true rfl) dX12_wedOnes_17 rfl ?_
      refine e_iconst X (-1) dX12_wedOnes_20 rfl ?_
      refine e_icmp_eq X 30 dX12_wedOnes_21 (by decide) (fun c3 => ?_) (fun c3 => ?_)
      · skip
        rw [if_pos c3] at hB
        refine e_iconst X 0 dX12_wedOnes_30 rfl ?_
        refine e_ior X dX12_wedOnes_31 ?_
        obtain ⟨x4, h_x4, hB⟩ := bindT_out hB
        refine e_istore_n X h_x4 dX12_wedOnes_32 rfl (by decide) ?_
        refine e_iinc X 1 dX12_wedOnes_33 rfl rfl (by decide) ?_
        refine e_goto X 4 dX12_wedOnes_36 (by decide) ?_
        have hy9 := Option.some.inj hB; change (x4) = y9 at hy9; subst hy9
        exact e_le (ih _ x4 hF (cntN hn) (nnN h0 (cnt_hi hn)) hK) (And.intro rfl (And.intro rfl (And.intro rfl (trivial))))
      · skip
        rw [if_neg c3] at hB
        refine e_iconst X 1 dX12_wedOnes_24 rfl ?_
        refine e_iload_n X dX12_wedOnes_25 rfl rfl ?_
        refine e_ishl X dX12_wedOnes_26 ?_
        refine e_goto X 31 dX12_wedOnes_27 (by decide) ?_
        refine e_ior X dX12_wedOnes_31 ?_
        obtain ⟨x5, h_x5, hB⟩ := bindT_out hB
        refine e_istore_n X h_x5 dX12_wedOnes_32 rfl (by decide) ?_
        refine e_iinc X 1 dX12_wedOnes_33 rfl rfl (by decide) ?_
        refine e_goto X 4 dX12_wedOnes_36 (by decide) ?_
        have hy9 := Option.some.inj hB; change (x5) = y9 at hy9; subst hy9
        exact e_le (ih _ x5 hF (cntN hn) (nnN h0 (cnt_hi hn)) hK) (And.intro rfl (And.intro rfl (And.intro rfl (trivial))))
set_option maxRecDepth 20000 in
set_option maxHeartbeats 4000000 in
theorem C_M_wedOnes (hG : Gok l Γ D s0) (σ : Mem)   {out : Int32} (hF : F_M_wedOnes σ = some out) : CT l Γ D s0 yX12_wedOnes cX12_wedOnes 3 (some .int) (2) 0 0 (44) σ [.ref (Γ.1 + 333)] (PI (some (.int out)) σ) := by
  unfold F_M_wedOnes at hF
  refine e_met (own := RX12) hG (by decide +kernel) rfl rfl (Nat.le_of_ble_eq_true rfl) ?_
  intro p e s m args below meth c X hr
  show E p l e _ s m args below meth c Γ D 0 0 _ σ 0 [some (.ref (Γ.1 + 333)), none, none] []
  refine e_iconst X 0 dX12_wedOnes_0 rfl ?_
  refine e_istore_n X rfl dX12_wedOnes_1 rfl (by decide) ?_
  refine e_iconst X 0 dX12_wedOnes_2 rfl ?_
  refine e_istore_n X rfl dX12_wedOnes_3 rfl (by decide) ?_
  obtain ⟨z7, h_z7, hF⟩ := obind_out hF
  refine e_le (L_M_wedOnes_4 X hr σ _ 0 0 h_z7 rfl (by decide) ?_) (And.intro rfl (And.intro rfl (And.intro rfl (trivial))))
  refine e_iload_n X dX12_wedOnes_39 rfl rfl ?_
  exact e_iret X hr dX12_wedOnes_40 (Nat.le_of_ble_eq_true rfl) (Nat.le_of_ble_eq_true rfl) (by cases hF; exact ⟨rfl, rfl⟩)
set_option maxRecDepth 20000 in
set_option maxHeartbeats 4000000 in
theorem C_M_count (hG : Gok l Γ D s0) (σ : Mem) (v1 : Int32)  {out : Mem × Int32} (hF : F_M_count σ v1 = some out) : CT l Γ D s0 yX12_count cX12_count 2 (some .int) (3) 0 0 (66) σ [.ref (Γ.1 + 333), .int v1] (PI (some (.int out.2)) out.1) := by
  unfold F_M_count at hF
  refine e_met (own := RX12) hG (by decide +kernel) rfl rfl (Nat.le_of_ble_eq_true rfl) ?_
  intro p e s m args below meth c X hr
  show E p l e _ s m args below meth c Γ D 0 0 _ σ 0 [some (.ref (Γ.1 + 333)), some (.int v1)] []
  refine e_aload_n X dX12_count_0 rfl rfl ?_
  refine e_iconst X 0 dX12_count_1 rfl ?_
  obtain ⟨σ1, h_σ1, hF⟩ := bindT_out hF
  refine pu_M_thrown X wf_X12_51 dX12_count_2 h_σ1 ?_
  refine e_iload_n X dX12_count_5 rfl rfl ?_
  refine e_if_ne X 16 dX12_count_6 (by decide) (fun c2 => ?_) (fun c2 => ?_)
  · skip
    rw [if_neg c2] at hF
    refine e_iload_n X dX12_count_16 rfl rfl ?_
    refine e_iconst X 1 dX12_count_17 rfl ?_
    refine e_icmp_ne X 28 dX12_count_18 (by decide) (fun c3 => ?_) (fun c3 => ?_)
    · skip
      rw [if_neg c3] at hF
      refine e_iload_n X dX12_count_28 rfl rfl ?_
      refine e_iconst X 2 dX12_count_29 rfl ?_
      refine e_icmp_ne X 40 dX12_count_30 (by decide) (fun c4 => ?_) (fun c4 => ?_)
      · skip
        rw [if_neg c4] at hF
        refine e_iload_n X dX12_count_40 rfl rfl ?_
        refine e_iconst X 3 dX12_count_41 rfl ?_
        refine e_icmp_ne X 52 dX12_count_42 (by decide) (fun c5 => ?_) (fun c5 => ?_)
        · skip
          rw [if_neg c5] at hF
          refine e_iload_n X dX12_count_52 rfl rfl ?_
          refine e_iconst X 4 dX12_count_53 rfl ?_
          refine e_icmp_ne X 65 dX12_count_54 (by decide) (fun c6 => ?_) (fun c6 => ?_)
          · skip
            rw [if_neg c6] at hF
            refine e_iload_n X dX12_count_65 rfl rfl ?_
            refine e_iconst X 5 dX12_count_66 rfl ?_
            refine e_icmp_ne X 78 dX12_count_67 (by decide) (fun c7 => ?_) (fun c7 => ?_)
            · skip
              rw [if_neg c7] at hF
              refine e_iload_n X dX12_count_78 rfl rfl ?_
              refine e_bipush X 6 dX12_count_79 rfl ?_
              refine e_bipush X 8 dX12_count_81 rfl ?_
              refine e_callSi X (r := (F_M_isIn σ1 v1 6 8)) (σ1 := σ1) [.int v1, .int 6, .int 8] [] (C_M_isIn (Cx_gok X) σ1 v1 6 8) gs_X12_54 yk_X12_isIn rfl ⟨Nat.le_of_ble_eq_true rfl, Nat.le_of_ble_eq_true rfl⟩ ⟨Nat.le_of_ble_eq_true rfl, Nat.le_of_ble_eq_true rfl⟩ (Nat.le_of_ble_eq_true rfl) dX12_count_83 rfl ?_
              refine e_if_eq X 101 dX12_count_86 (by decide) (fun c8 => ?_) (fun c8 => ?_)
              · skip
                rw [if_pos c8] at hF
                refine e_iload_n X dX12_count_101 rfl rfl ?_
                refine e_bipush X 9 dX12_count_102 rfl ?_
                refine e_icmp_ne X 112 dX12_count_104 (by decide) (fun c9 => ?_) (fun c9 => ?_)
                · skip
                  rw [if_neg c9] at hF
                  refine e_iload_n X dX12_count_112 rfl rfl ?_
                  refine e_bipush X 10 dX12_count_113 rfl ?_
                  refine e_icmp_ne X 123 dX12_count_115 (by decide) (fun c10 => ?_) (fun c10 => ?_)
                  · skip
                    rw [if_neg c10] at hF
                    refine e_iload_n X dX12_count_123 rfl rfl ?_
                    refine e_bipush X 11 dX12_count_124 rfl ?_
                    refine e_icmp_ne X 134 dX12_count_126 (by decide) (fun c11 => ?_) (fun c11 => ?_)
                    · skip
                      rw [if_neg c11] at hF
                      refine e_iload_n X dX12_count_134 rfl rfl ?_
                      refine e_bipush X 12 dX12_count_135 rfl ?_
                      refine e_icmp_ne X 148 dX12_count_137 (by decide) (fun c12 => ?_) (fun c12 => ?_)
                      · skip
                        rw [if_neg c12] at hF
                        refine e_iload_n X dX12_count_148 rfl rfl ?_
                        refine e_bipush X 13 dX12_count_149 rfl ?_
                        refine e_icmp_ne X 162 dX12_count_151 (by decide) (fun c13 => ?_) (fun c13 => ?_)
                        · skip
                          rw [if_neg c13] at hF
                          refine e_iload_n X dX12_count_162 rfl rfl ?_
                          refine e_bipush X 14 dX12_count_163 rfl ?_
                          refine e_icmp_ne X 175 dX12_count_165 (by decide) (fun c14 => ?_) (fun c14 => ?_)
                          · skip
                            rw [if_neg c14] at hF
                            refine e_iconst X (-1) dX12_count_175 rfl ?_
                            exact e_iret X hr dX12_count_176 (Nat.le_of_ble_eq_true rfl) (Nat.le_of_ble_eq_true rfl) (by cases hF; exact ⟨rfl, rfl⟩)
                          · skip
                            rw [if_pos c14] at hF
                            refine e_aload_n X dX12_count_168 rfl rfl ?_
                            refine ge_M_acted X wf_X12_201 dX12_count_169 ?_
                            refine e_goto X 176 dX12_count_172 (by decide) ?_
                            exact e_iret X hr dX12_count_176 (Nat.le_of_ble_eq_true rfl) (Nat.le_of_ble_eq_true rfl) (by cases hF; exact ⟨rfl, rfl⟩)
                        · skip
                          rw [if_pos c13] at hF
                          refine e_aload_n X dX12_count_154 rfl rfl ?_
                          refine ge_M_m X wf_X12_7 dX12_count_155 ?_
                          refine e_bipush X 11 dX12_count_158 rfl ?_
                          refine e_iald X (j := 11) rfl rfl (vp_in_iff.mpr (by decide)) rfl dX12_count_160 ?_
                          exact e_iret X hr dX12_count_161 (Nat.le_of_ble_eq_true rfl) (Nat.le_of_ble_eq_true rfl) (by cases hF; exact ⟨rfl, rfl⟩)
                      · skip
                        rw [if_pos c12] at hF
                        refine e_aload_n X dX12_count_140 rfl rfl ?_
                        refine ge_M_m X wf_X12_7 dX12_count_141 ?_
                        refine e_bipush X 10 dX12_count_144 rfl ?_
                        refine e_iald X (j := 10) rfl rfl (vp_in_iff.mpr (by decide)) rfl dX12_count_146 ?_
                        exact e_iret X hr dX12_count_147 (Nat.le_of_ble_eq_true rfl) (Nat.le_of_ble_eq_true rfl) (by cases hF; exact ⟨rfl, rfl⟩)
                    · skip
                      rw [if_pos c11] at hF
                      refine e_aload_n X dX12_count_129 rfl rfl ?_
                      obtain ⟨z15, h_z15, hF⟩ := obind_out hF
                      refine e_callVi X (r := z15) (σ1 := σ1) [] [] (C_M_wedOnes (Cx_gok X) σ1 h_z15) gv_X12_375 yk_X12_wedOnes rfl (ent_lt (rfl : entTbl[333]? = some (13, 0))) (ent_at (rfl : entTbl[333]? = some (13, 0)) _) (rfl : vCl[11]? = some (RX12, TX12, 24)) ⟨Nat.le_of_ble_eq_true rfl, Nat.le_of_ble_eq_true rfl⟩ ⟨Nat.le_of_ble_eq_true rfl, Nat.le_of_ble_eq_true rfl⟩ (Nat.le_of_ble_eq_true rfl) dX12_count_130 rfl ?_
                      exact e_iret X hr dX12_count_133 (Nat.le_of_ble_eq_true rfl) (Nat.le_of_ble_eq_true rfl) (by cases hF; exact ⟨rfl, rfl⟩)
                  · skip
                    rw [if_pos c10] at hF
                    refine e_aload_n X dX12_count_118 rfl rfl ?_
                    obtain ⟨z16, h_z16, hF⟩ := obind_out hF
                    refine e_callVi X (r := z16) (σ1 := σ1) [] [] (C_M_ruinedOnes (Cx_gok X) σ1 h_z16) gv_X12_366 yk_X12_ruinedOnes rfl (ent_lt (rfl : entTbl[333]? = some (13, 0))) (ent_at (rfl : entTbl[333]? = some (13, 0)) _) (rfl : vCl[11]? = some (RX12, TX12, 24)) ⟨Nat.le_of_ble_eq_true rfl, Nat.le_of_ble_eq_true rfl⟩ ⟨Nat.le_of_ble_eq_true rfl, Nat.le_of_ble_eq_true rfl⟩ (Nat.le_of_ble_eq_true rfl) dX12_count_119 rfl ?_
                    exact e_iret X hr dX12_count_122 (Nat.le_of_ble_eq_true rfl) (Nat.le_of_ble_eq_true rfl) (by cases hF; exact ⟨rfl, rfl⟩)
                · skip
                  rw [if_pos c9] at hF
                  refine e_aload_n X dX12_count_107 rfl rfl ?_
                  obtain ⟨z17, h_z17, hF⟩ := obind_out hF
                  refine e_callVi X (r := z17) (σ1 := σ1) [] [] (C_M_wealths (Cx_gok X) σ1 h_z17) gv_X12_299 yk_X12_wealths rfl (ent_lt (rfl : entTbl[333]? = some (13, 0))) (ent_at (rfl : entTbl[333]? = some (13, 0)) _) (rfl : vCl[11]? = some (RX12, TX12, 24)) ⟨Nat.le_of_ble_eq_true rfl, Nat.le_of_ble_eq_true rfl⟩ ⟨Nat.le_of_ble_eq_true rfl, Nat.le_of_ble_eq_true rfl⟩ (Nat.le_of_ble_eq_true rfl) dX12_count_108 rfl ?_
                  exact e_iret X hr dX12_count_111 (Nat.le_of_ble_eq_true rfl) (Nat.le_of_ble_eq_true rfl) (by cases hF; exact ⟨rfl, rfl⟩)
              · skip
                rw [if_neg c8] at hF
                refine e_aload_n X dX12_count_89 rfl rfl ?_
                refine ge_M_m X wf_X12_7 dX12_count_90 ?_
                refine e_iconst X 5 dX12_count_93 rfl ?_
                refine e_iload_n X dX12_count_94 rfl rfl ?_
                refine e_iadd X dX12_count_95 ?_
                refine e_bipush X 6 dX12_count_96 rfl ?_
                refine e_isub X dX12_count_98 ?_
                obtain ⟨i18, h_i18, hF⟩ := bindT_out hF
                obtain ⟨c19, hF⟩ := chk_out hF
                refine e_iald X (j := i18.toNatClampNeg) h_i18 rfl (inb_in c19) rfl dX12_count_99 ?_
                exact e_iret X hr dX12_count_100 (Nat.le_of_ble_eq_true rfl) (Nat.le_of_ble_eq_true rfl) (by cases hF; exact ⟨rfl, rfl⟩)
            · skip
              rw [if_pos c7] at hF
              refine e_aload_n X dX12_count_70 rfl rfl ?_
              refine ge_M_m X wf_X12_7 dX12_count_71 ?_
              refine e_bipush X 9 dX12_count_74 rfl ?_
              refine e_iald X (j := 9) rfl rfl (vp_in_iff.mpr (by decide)) rfl dX12_count_76 ?_
              exact e_iret X hr dX12_count_77 (Nat.le_of_ble_eq_true rfl) (Nat.le_of_ble_eq_true rfl) (by cases hF; exact ⟨rfl, rfl⟩)
          · skip
            rw [if_pos c6] at hF
            refine e_aload_n X dX12_count_57 rfl rfl ?_
            refine ge_M_m X wf_X12_7 dX12_count_58 ?_
            refine e_bipush X 8 dX12_count_61 rfl ?_
            refine e_iald X (j := 8) rfl rfl (vp_in_iff.mpr (by decide)) rfl dX12_count_63 ?_
            exact e_iret X hr dX12_count_64 (Nat.le_of_ble_eq_true rfl) (Nat.le_of_ble_eq_true rfl) (by cases hF; exact ⟨rfl, rfl⟩)
        · skip
          rw [if_pos c5] at hF
          refine e_aload_n X dX12_count_45 rfl rfl ?_
          refine ge_M_m X wf_X12_7 dX12_count_46 ?_
          refine e_iconst X 1 dX12_count_49 rfl ?_
          refine e_iald X (j := 1) rfl rfl (vp_in_iff.mpr (by decide)) rfl dX12_count_50 ?_
          exact e_iret X hr dX12_count_51 (Nat.le_of_ble_eq_true rfl) (Nat.le_of_ble_eq_true rfl) (by cases hF; exact ⟨rfl, rfl⟩)
      · skip
        rw [if_pos c4] at hF
        refine e_aload_n X dX12_count_33 rfl rfl ?_
        refine ge_M_m X wf_X12_7 dX12_count_34 ?_
        refine e_iconst X 0 dX12_count_37 rfl ?_
        refine e_iald X (j := 0) rfl rfl (vp_in_iff.mpr (by decide)) rfl dX12_count_38 ?_
        exact e_iret X hr dX12_count_39 (Nat.le_of_ble_eq_true rfl) (Nat.le_of_ble_eq_true rfl) (by cases hF; exact ⟨rfl, rfl⟩)
    · skip
      rw [if_pos c3] at hF
      refine e_aload_n X dX12_count_21 rfl rfl ?_
      refine ge_M_m X wf_X12_7 dX12_count_22 ?_
      refine e_iconst X 4 dX12_count_25 rfl ?_
      refine e_iald X (j := 4) rfl rfl (vp_in_iff.mpr (by decide)) rfl dX12_count_26 ?_
      exact e_iret X hr dX12_count_27 (Nat.le_of_ble_eq_true rfl) (Nat.le_of_ble_eq_true rfl) (by cases hF; exact ⟨rfl, rfl⟩)
  · skip
    rw [if_pos c2] at hF
    refine e_aload_n X dX12_count_9 rfl rfl ?_
    refine ge_M_m X wf_X12_7 dX12_count_10 ?_
    refine e_iconst X 3 dX12_count_13 rfl ?_
    refine e_iald X (j := 3) rfl rfl (vp_in_iff.mpr (by decide)) rfl dX12_count_14 ?_
    exact e_iret X hr dX12_count_15 (Nat.le_of_ble_eq_true rfl) (Nat.le_of_ble_eq_true rfl) (by cases hF; exact ⟨rfl, rfl⟩)
set_option maxRecDepth 20000 in
set_option maxHeartbeats 4000000 in
theorem C_M_person (hG : Gok l Γ D s0) (σ : Mem) (v1 : Int32) (v2 : Int32)  {out : Mem × Int32} (hF : F_M_person σ v1 v2 = some out) : CT l Γ D s0 yX12_person cX12_person 3 (some .int) (2) 0 0 (45) σ [.ref (Γ.1 + 333), .int v1, .int v2] (PI (some (.int out.2)) out.1) := by
  unfold F_M_person at hF
  refine e_met (own := RX12) hG (by decide +kernel) rfl rfl (Nat.le_of_ble_eq_true rfl) ?_
  intro p e s m args below meth c X hr
  show E p l e _ s m args below meth c Γ D 0 0 _ σ 0 [some (.ref (Γ.1 + 333)), some (.int v1), some (.int v2)] []
  refine e_aload_n X dX12_person_0 rfl rfl ?_
  refine e_aload_n X dX12_person_1 rfl rfl ?_
  refine e_iload_n X dX12_person_2 rfl rfl ?_
  obtain ⟨z1, h_z1, hF⟩ := obind_out hF
  refine e_callVi X (r := z1) (σ1 := σ) [.int v1] [.ref (Γ.1 + 333)] (C_M_isPerson (Cx_gok X) σ v1 h_z1) gv_X12_293 yk_X12_isPerson rfl (ent_lt (rfl : entTbl[333]? = some (13, 0))) (ent_at (rfl : entTbl[333]? = some (13, 0)) _) (rfl : vCl[11]? = some (RX12, TX12, 24)) ⟨Nat.le_of_ble_eq_true rfl, Nat.le_of_ble_eq_true rfl⟩ ⟨Nat.le_of_ble_eq_true rfl, Nat.le_of_ble_eq_true rfl⟩ (Nat.le_of_ble_eq_true rfl) dX12_person_3 rfl ?_
  refine e_if_ne X 13 dX12_person_6 (by decide) (fun c2 => ?_) (fun c2 => ?_)
  · skip
    rw [if_neg c2] at hF
    refine e_iload_n X dX12_person_13 rfl rfl ?_
    refine e_iconst X 0 dX12_person_14 rfl ?_
    refine e_bipush X 6 dX12_person_15 rfl ?_
    refine e_callSi X (r := (F_M_isIn σ v2 0 6)) (σ1 := σ) [.int v2, .int 0, .int 6] [.ref (Γ.1 + 333)] (C_M_isIn (Cx_gok X) σ v2 0 6) gs_X12_54 yk_X12_isIn rfl ⟨Nat.le_of_ble_eq_true rfl, Nat.le_of_ble_eq_true rfl⟩ ⟨Nat.le_of_ble_eq_true rfl, Nat.le_of_ble_eq_true rfl⟩ (Nat.le_of_ble_eq_true rfl) dX12_person_17 rfl ?_
    refine e_if_ne X 27 dX12_person_20 (by decide) (fun c3 => ?_) (fun c3 => ?_)
    · skip
      rw [if_neg c3] at hF
      refine e_iconst X 0 dX12_person_27 rfl ?_
      obtain ⟨σ4, h_σ4, hF⟩ := bindT_out hF
      refine pu_M_thrown X wf_X12_51 dX12_person_28 h_σ4 ?_
      refine e_aload_n X dX12_person_31 rfl rfl ?_
      refine ge_M_thrown X wf_X12_51 dX12_person_32 ?_
      refine e_if_le X 40 dX12_person_35 (by decide) (fun c5 => ?_) (fun c5 => ?_)
      · skip
        rw [if_neg c5] at hF
        refine e_iload_n X dX12_person_40 rfl rfl ?_
        refine e_if_ne X 51 dX12_person_41 (by decide) (fun c6 => ?_) (fun c6 => ?_)
        · skip
          rw [if_neg c6] at hF
          refine e_iload_n X dX12_person_51 rfl rfl ?_
          refine e_iconst X 1 dX12_person_52 rfl ?_
          refine e_icmp_ne X 63 dX12_person_53 (by decide) (fun c7 => ?_) (fun c7 => ?_)
          · skip
            rw [if_neg c7] at hF
            refine e_iload_n X dX12_person_63 rfl rfl ?_
            refine e_iconst X 2 dX12_person_64 rfl ?_
            refine e_icmp_ne X 74 dX12_person_65 (by decide) (fun c8 => ?_) (fun c8 => ?_)
            · skip
              rw [if_neg c8] at hF
              refine e_iload_n X dX12_person_74 rfl rfl ?_
              refine e_iconst X 3 dX12_person_75 rfl ?_
              refine e_icmp_ne X 86 dX12_person_76 (by decide) (fun c9 => ?_) (fun c9 => ?_)
              · skip
                rw [if_neg c9] at hF
                refine e_iload_n X dX12_person_86 rfl rfl ?_
                refine e_iconst X 4 dX12_person_87 rfl ?_
                refine e_icmp_ne X 98 dX12_person_88 (by decide) (fun c10 => ?_) (fun c10 => ?_)
                · skip
                  rw [if_neg c10] at hF
                  refine e_iload_n X dX12_person_98 rfl rfl ?_
                  refine e_iconst X 5 dX12_person_99 rfl ?_
                  refine e_icmp_ne X 109 dX12_person_100 (by decide) (fun c11 => ?_) (fun c11 => ?_)
                  · skip
                    rw [if_neg c11] at hF
                    refine e_aload_n X dX12_person_109 rfl rfl ?_
                    obtain ⟨z12, h_z12, hF⟩ := obind_out hF
                    refine e_callVi X (r := z12) (σ1 := σ4) [] [] (C_M_wealths (Cx_gok X) σ4 h_z12) gv_X12_299 yk_X12_wealths rfl (ent_lt (rfl : entTbl[333]? = some (13, 0))) (ent_at (rfl : entTbl[333]? = some (13, 0)) _) (rfl : vCl[11]? = some (RX12, TX12, 24)) ⟨Nat.le_of_ble_eq_true rfl, Nat.le_of_ble_eq_true rfl⟩ ⟨Nat.le_of_ble_eq_true rfl, Nat.le_of_ble_eq_true rfl⟩ (Nat.le_of_ble_eq_true rfl) dX12_person_110 rfl ?_
                    refine e_if_ne X 120 dX12_person_113 (by decide) (fun c13 => ?_) (fun c13 => ?_)
                    · skip
                      rw [if_neg c13] at hF
                      refine e_bipush X 100 dX12_person_120 rfl ?_
                      refine e_aload_n X dX12_person_122 rfl rfl ?_
                      refine e_iload_n X dX12_person_123 rfl rfl ?_
                      refine e_iconst X 0 dX12_person_124 rfl ?_
                      obtain ⟨z14, h_z14, hF⟩ := obind_out hF
                      refine e_callVi X (r := z14) (σ1 := σ4) [.int v1, .int 0] [.int 100] (C_M_of (Cx_gok X) σ4 v1 0 h_z14) gv_X12_62 yk_X12_of rfl (ent_lt (rfl : entTbl[333]? = some (13, 0))) (ent_at (rfl : entTbl[333]? = some (13, 0)) _) (rfl : vCl[11]? = some (RX12, TX12, 24)) ⟨Nat.le_of_ble_eq_true rfl, Nat.le_of_ble_eq_true rfl⟩ ⟨Nat.le_of_ble_eq_true rfl, Nat.le_of_ble_eq_true rfl⟩ (Nat.le_of_ble_eq_true rfl) dX12_person_125 rfl ?_
                      refine e_imul X dX12_person_128 ?_
                      refine e_aload_n X dX12_person_129 rfl rfl ?_
                      obtain ⟨z15, h_z15, hF⟩ := obind_out hF
                      refine e_callVi X (r := z15) (σ1 := σ4) [] [.int ((100 * z14))] (C_M_wealths (Cx_gok X) σ4 h_z15) gv_X12_299 yk_X12_wealths rfl (ent_lt (rfl : entTbl[333]? = some (13, 0))) (ent_at (rfl : entTbl[333]? = some (13, 0)) _) (rfl : vCl[11]? = some (RX12, TX12, 24)) ⟨Nat.le_of_ble_eq_true rfl, Nat.le_of_ble_eq_true rfl⟩ ⟨Nat.le_of_ble_eq_true rfl, Nat.le_of_ble_eq_true rfl⟩ (Nat.le_of_ble_eq_true rfl) dX12_person_130 rfl ?_
                      obtain ⟨c16, hF⟩ := chk_out hF
                      refine e_idiv X dX12_person_133 (nz_out c16) ?_
                      exact e_iret X hr dX12_person_134 (Nat.le_of_ble_eq_true rfl) (Nat.le_of_ble_eq_true rfl) (by cases hF; exact ⟨rfl, rfl⟩)
                    · skip
                      rw [if_pos c13] at hF
                      refine e_iconst X 0 dX12_person_116 rfl ?_
                      refine e_goto X 134 dX12_person_117 (by decide) ?_
                      exact e_iret X hr dX12_person_134 (Nat.le_of_ble_eq_true rfl) (Nat.le_of_ble_eq_true rfl) (by cases hF; exact ⟨rfl, rfl⟩)
                  · skip
                    rw [if_pos c11] at hF
                    refine e_aload_n X dX12_person_103 rfl rfl ?_
                    refine e_iload_n X dX12_person_104 rfl rfl ?_
                    obtain ⟨z17, h_z17, hF⟩ := obind_out hF
                    refine e_callVi X (r := z17) (σ1 := σ4) [.int v1] [] (C_M_wedTo (Cx_gok X) σ4 v1 h_z17) gv_X12_121 yk_X12_wedTo rfl (ent_lt (rfl : entTbl[333]? = some (13, 0))) (ent_at (rfl : entTbl[333]? = some (13, 0)) _) (rfl : vCl[11]? = some (RX12, TX12, 24)) ⟨Nat.le_of_ble_eq_true rfl, Nat.le_of_ble_eq_true rfl⟩ ⟨Nat.le_of_ble_eq_true rfl, Nat.le_of_ble_eq_true rfl⟩ (Nat.le_of_ble_eq_true rfl) dX12_person_105 rfl ?_
                    exact e_iret X hr dX12_person_108 (Nat.le_of_ble_eq_true rfl) (Nat.le_of_ble_eq_true rfl) (by cases hF; exact ⟨rfl, rfl⟩)
                · skip
                  rw [if_pos c10] at hF
                  refine e_aload_n X dX12_person_91 rfl rfl ?_
                  refine e_iload_n X dX12_person_92 rfl rfl ?_
                  refine e_iconst X 3 dX12_person_93 rfl ?_
                  obtain ⟨z18, h_z18, hF⟩ := obind_out hF
                  refine e_callVi X (r := z18) (σ1 := σ4) [.int v1, .int 3] [] (C_M_of (Cx_gok X) σ4 v1 3 h_z18) gv_X12_62 yk_X12_of rfl (ent_lt (rfl : entTbl[333]? = some (13, 0))) (ent_at (rfl : entTbl[333]? = some (13, 0)) _) (rfl : vCl[11]? = some (RX12, TX12, 24)) ⟨Nat.le_of_ble_eq_true rfl, Nat.le_of_ble_eq_true rfl⟩ ⟨Nat.le_of_ble_eq_true rfl, Nat.le_of_ble_eq_true rfl⟩ (Nat.le_of_ble_eq_true rfl) dX12_person_94 rfl ?_
                  exact e_iret X hr dX12_person_97 (Nat.le_of_ble_eq_true rfl) (Nat.le_of_ble_eq_true rfl) (by cases hF; exact ⟨rfl, rfl⟩)
              · skip
                rw [if_pos c9] at hF
                refine e_aload_n X dX12_person_79 rfl rfl ?_
                refine e_iload_n X dX12_person_80 rfl rfl ?_
                refine e_iconst X 2 dX12_person_81 rfl ?_
                obtain ⟨z19, h_z19, hF⟩ := obind_out hF
                refine e_callVi X (r := z19) (σ1 := σ4) [.int v1, .int 2] [] (C_M_of (Cx_gok X) σ4 v1 2 h_z19) gv_X12_62 yk_X12_of rfl (ent_lt (rfl : entTbl[333]? = some (13, 0))) (ent_at (rfl : entTbl[333]? = some (13, 0)) _) (rfl : vCl[11]? = some (RX12, TX12, 24)) ⟨Nat.le_of_ble_eq_true rfl, Nat.le_of_ble_eq_true rfl⟩ ⟨Nat.le_of_ble_eq_true rfl, Nat.le_of_ble_eq_true rfl⟩ (Nat.le_of_ble_eq_true rfl) dX12_person_82 rfl ?_
                exact e_iret X hr dX12_person_85 (Nat.le_of_ble_eq_true rfl) (Nat.le_of_ble_eq_true rfl) (by cases hF; exact ⟨rfl, rfl⟩)
            · skip
              rw [if_pos c8] at hF
              refine e_aload_n X dX12_person_68 rfl rfl ?_
              refine e_iload_n X dX12_person_69 rfl rfl ?_
              obtain ⟨z20, h_z20, hF⟩ := obind_out hF
              refine e_callVi X (r := z20) (σ1 := σ4) [.int v1] [] (C_M_askersOf (Cx_gok X) σ4 v1 h_z20) gv_X12_296 yk_X12_askersOf rfl (ent_lt (rfl : entTbl[333]? = some (13, 0))) (ent_at (rfl : entTbl[333]? = some (13, 0)) _) (rfl : vCl[11]? = some (RX12, TX12, 24)) ⟨Nat.le_of_ble_eq_true rfl, Nat.le_of_ble_eq_true rfl⟩ ⟨Nat.le_of_ble_eq_true rfl, Nat.le_of_ble_eq_true rfl⟩ (Nat.le_of_ble_eq_true rfl) dX12_person_70 rfl ?_
              exact e_iret X hr dX12_person_73 (Nat.le_of_ble_eq_true rfl) (Nat.le_of_ble_eq_true rfl) (by cases hF; exact ⟨rfl, rfl⟩)
          · skip
            rw [if_pos c7] at hF
            refine e_aload_n X dX12_person_56 rfl rfl ?_
            refine e_iload_n X dX12_person_57 rfl rfl ?_
            refine e_iconst X 1 dX12_person_58 rfl ?_
            obtain ⟨z21, h_z21, hF⟩ := obind_out hF
            refine e_callVi X (r := z21) (σ1 := σ4) [.int v1, .int 1] [] (C_M_of (Cx_gok X) σ4 v1 1 h_z21) gv_X12_62 yk_X12_of rfl (ent_lt (rfl : entTbl[333]? = some (13, 0))) (ent_at (rfl : entTbl[333]? = some (13, 0)) _) (rfl : vCl[11]? = some (RX12, TX12, 24)) ⟨Nat.le_of_ble_eq_true rfl, Nat.le_of_ble_eq_true rfl⟩ ⟨Nat.le_of_ble_eq_true rfl, Nat.le_of_ble_eq_true rfl⟩ (Nat.le_of_ble_eq_true rfl) dX12_person_59 rfl ?_
            exact e_iret X hr dX12_person_62 (Nat.le_of_ble_eq_true rfl) (Nat.le_of_ble_eq_true rfl) (by cases hF; exact ⟨rfl, rfl⟩)
        · skip
          rw [if_pos c6] at hF
          refine e_aload_n X dX12_person_44 rfl rfl ?_
          refine e_iload_n X dX12_person_45 rfl rfl ?_
          refine e_iconst X 0 dX12_person_46 rfl ?_
          obtain ⟨z22, h_z22, hF⟩ := obind_out hF
          refine e_callVi X (r := z22) (σ1 := σ4) [.int v1, .int 0] [] (C_M_of (Cx_gok X) σ4 v1 0 h_z22) gv_X12_62 yk_X12_of rfl (ent_lt (rfl : entTbl[333]? = some (13, 0))) (ent_at (rfl : entTbl[333]? = some (13, 0)) _) (rfl : vCl[11]? = some (RX12, TX12, 24)) ⟨Nat.le_of_ble_eq_true rfl, Nat.le_of_ble_eq_true rfl⟩ ⟨Nat.le_of_ble_eq_true rfl, Nat.le_of_ble_eq_true rfl⟩ (Nat.le_of_ble_eq_true rfl) dX12_person_47 rfl ?_
          exact e_iret X hr dX12_person_50 (Nat.le_of_ble_eq_true rfl) (Nat.le_of_ble_eq_true rfl) (by cases hF; exact ⟨rfl, rfl⟩)
      · skip
        rw [if_pos c5] at hF
        refine e_iconst X 0 dX12_person_38 rfl ?_
        exact e_iret X hr dX12_person_39 (Nat.le_of_ble_eq_true rfl) (Nat.le_of_ble_eq_true rfl) (by cases hF; exact ⟨rfl, rfl⟩)
    · skip
      rw [if_pos c3] at hF
      refine e_iconst X 2 dX12_person_23 rfl ?_
      refine e_goto X 28 dX12_person_24 (by decide) ?_
      obtain ⟨σ23, h_σ23, hF⟩ := bindT_out hF
      refine pu_M_thrown X wf_X12_51 dX12_person_28 h_σ23 ?_
      refine e_aload_n X dX12_person_31 rfl rfl ?_
      refine ge_M_thrown X wf_X12_51 dX12_person_32 ?_
      refine e_if_le X 40 dX12_person_35 (by decide) (fun c24 => ?_) (fun c24 => ?_)
      · skip
        rw [if_neg c24] at hF
        refine e_iload_n X dX12_person_40 rfl rfl ?_
        refine e_if_ne X 51 dX12_person_41 (by decide) (fun c25 => ?_) (fun c25 => ?_)
        · skip
          rw [if_neg c25] at hF
          refine e_iload_n X dX12_person_51 rfl rfl ?_
          refine e_iconst X 1 dX12_person_52 rfl ?_
          refine e_icmp_ne X 63 dX12_person_53 (by decide) (fun c26 => ?_) (fun c26 => ?_)
          · skip
            rw [if_neg c26] at hF
            refine e_iload_n X dX12_person_63 rfl rfl ?_
            refine e_iconst X 2 dX12_person_64 rfl ?_
            refine e_icmp_ne X 74 dX12_person_65 (by decide) (fun c27 => ?_) (fun c27 => ?_)
            · skip
              rw [if_neg c27] at hF
              refine e_iload_n X dX12_person_74 rfl rfl ?_
              refine e_iconst X 3 dX12_person_75 rfl ?_
              refine e_icmp_ne X 86 dX12_person_76 (by decide) (fun c28 => ?_) (fun c28 => ?_)
              · skip
                rw [if_neg c28] at hF
                refine e_iload_n X dX12_person_86 rfl rfl ?_
                refine e_iconst X 4 dX12_person_87 rfl ?_
                refine e_icmp_ne X 98 dX12_person_88 (by decide) (fun c29 => ?_) (fun c29 => ?_)
                · skip
                  rw [if_neg c29] at hF
                  refine e_iload_n X dX12_person_98 rfl rfl ?_
                  refine e_iconst X 5 dX12_person_99 rfl ?_
                  refine e_icmp_ne X 109 dX12_person_100 (by decide) (fun c30 => ?_) (fun c30 => ?_)
                  · skip
                    rw [if_neg c30] at hF
                    refine e_aload_n X dX12_person_109 rfl rfl ?_
                    obtain ⟨z31, h_z31, hF⟩ := obind_out hF
                    refine e_callVi X (r := z31) (σ1 := σ23) [] [] (C_M_wealths (Cx_gok X) σ23 h_z31) gv_X12_299 yk_X12_wealths rfl (ent_lt (rfl : entTbl[333]? = some (13, 0))) (ent_at (rfl : entTbl[333]? = some (13, 0)) _) (rfl : vCl[11]? = some (RX12, TX12, 24)) ⟨Nat.le_of_ble_eq_true rfl, Nat.le_of_ble_eq_true rfl⟩ ⟨Nat.le_of_ble_eq_true rfl, Nat.le_of_ble_eq_true rfl⟩ (Nat.le_of_ble_eq_true rfl) dX12_person_110 rfl ?_
                    refine e_if_ne X 120 dX12_person_113 (by decide) (fun c32 => ?_) (fun c32 => ?_)
                    · skip
                      rw [if_neg c32] at hF
                      refine e_bipush X 100 dX12_person_120 rfl ?_
                      refine e_aload_n X dX12_person_122 rfl rfl ?_
                      refine e_iload_n X dX12_person_123 rfl rfl ?_
                      refine e_iconst X 0 dX12_person_124 rfl ?_
                      obtain ⟨z33, h_z33, hF⟩ := obind_out hF
                      refine e_callVi X (r := z33) (σ1 := σ23) [.int v1, .int 0] [.int 100] (C_M_of (Cx_gok X) σ23 v1 0 h_z33) gv_X12_62 yk_X12_of rfl (ent_lt (rfl : entTbl[333]? = some (13, 0))) (ent_at (rfl : entTbl[333]? = some (13, 0)) _) (rfl : vCl[11]? = some (RX12, TX12, 24)) ⟨Nat.le_of_ble_eq_true rfl, Nat.le_of_ble_eq_true rfl⟩ ⟨Nat.le_of_ble_eq_true rfl, Nat.le_of_ble_eq_true rfl⟩ (Nat.le_of_ble_eq_true rfl) dX12_person_125 rfl ?_
                      refine e_imul X dX12_person_128 ?_
                      refine e_aload_n X dX12_person_129 rfl rfl ?_
                      obtain ⟨z34, h_z34, hF⟩ := obind_out hF
                      refine e_callVi X (r := z34) (σ1 := σ23) [] [.int ((100 * z33))] (C_M_wealths (Cx_gok X) σ23 h_z34) gv_X12_299 yk_X12_wealths rfl (ent_lt (rfl : entTbl[333]? = some (13, 0))) (ent_at (rfl : entTbl[333]? = some (13, 0)) _) (rfl : vCl[11]? = some (RX12, TX12, 24)) ⟨Nat.le_of_ble_eq_true rfl, Nat.le_of_ble_eq_true rfl⟩ ⟨Nat.le_of_ble_eq_true rfl, Nat.le_of_ble_eq_true rfl⟩ (Nat.le_of_ble_eq_true rfl) dX12_person_130 rfl ?_
                      obtain ⟨c35, hF⟩ := chk_out hF
                      refine e_idiv X dX12_person_133 (nz_out c35) ?_
                      exact e_iret X hr dX12_person_134 (Nat.le_of_ble_eq_true rfl) (Nat.le_of_ble_eq_true rfl) (by cases hF; exact ⟨rfl, rfl⟩)
                    · skip
                      rw [if_pos c32] at hF
                      refine e_iconst X 0 dX12_person_116 rfl ?_
                      refine e_goto X 134 dX12_person_117 (by decide) ?_
                      exact e_iret X hr dX12_person_134 (Nat.le_of_ble_eq_true rfl) (Nat.le_of_ble_eq_true rfl) (by cases hF; exact ⟨rfl, rfl⟩)
                  · skip
                    rw [if_pos c30] at hF
                    refine e_aload_n X dX12_person_103 rfl rfl ?_
                    refine e_iload_n X dX12_person_104 rfl rfl ?_
                    obtain ⟨z36, h_z36, hF⟩ := obind_out hF
                    refine e_callVi X (r := z36) (σ1 := σ23) [.int v1] [] (C_M_wedTo (Cx_gok X) σ23 v1 h_z36) gv_X12_121 yk_X12_wedTo rfl (ent_lt (rfl : entTbl[333]? = some (13, 0))) (ent_at (rfl : entTbl[333]? = some (13, 0)) _) (rfl : vCl[11]? = some (RX12, TX12, 24)) ⟨Nat.le_of_ble_eq_true rfl, Nat.le_of_ble_eq_true rfl⟩ ⟨Nat.le_of_ble_eq_true rfl, Nat.le_of_ble_eq_true rfl⟩ (Nat.le_of_ble_eq_true rfl) dX12_person_105 rfl ?_
                    exact e_iret X hr dX12_person_108 (Nat.le_of_ble_eq_true rfl) (Nat.le_of_ble_eq_true rfl) (by cases hF; exact ⟨rfl, rfl⟩)
                · skip
                  rw [if_pos c29] at hF
                  refine e_aload_n X dX12_person_91 rfl rfl ?_
                  refine e_iload_n X dX12_person_92 rfl rfl ?_
                  refine e_iconst X 3 dX12_person_93 rfl ?_
                  obtain ⟨z37, h_z37, hF⟩ := obind_out hF
                  refine e_callVi X (r := z37) (σ1 := σ23) [.int v1, .int 3] [] (C_M_of (Cx_gok X) σ23 v1 3 h_z37) gv_X12_62 yk_X12_of rfl (ent_lt (rfl : entTbl[333]? = some (13, 0))) (ent_at (rfl : entTbl[333]? = some (13, 0)) _) (rfl : vCl[11]? = some (RX12, TX12, 24)) ⟨Nat.le_of_ble_eq_true rfl, Nat.le_of_ble_eq_true rfl⟩ ⟨Nat.le_of_ble_eq_true rfl, Nat.le_of_ble_eq_true rfl⟩ (Nat.le_of_ble_eq_true rfl) dX12_person_94 rfl ?_
                  exact e_iret X hr dX12_person_97 (Nat.le_of_ble_eq_true rfl) (Nat.le_of_ble_eq_true rfl) (by cases hF; exact ⟨rfl, rfl⟩)
              · skip
                rw [if_pos c28] at hF
                refine e_aload_n X dX12_person_79 rfl rfl ?_
                refine e_iload_n X dX12_person_80 rfl rfl ?_
                refine e_iconst X 2 dX12_person_81 rfl ?_
                obtain ⟨z38, h_z38, hF⟩ := obind_out hF
                refine e_callVi X (r := z38) (σ1 := σ23) [.int v1, .int 2] [] (C_M_of (Cx_gok X) σ23 v1 2 h_z38) gv_X12_62 yk_X12_of rfl (ent_lt (rfl : entTbl[333]? = some (13, 0))) (ent_at (rfl : entTbl[333]? = some (13, 0)) _) (rfl : vCl[11]? = some (RX12, TX12, 24)) ⟨Nat.le_of_ble_eq_true rfl, Nat.le_of_ble_eq_true rfl⟩ ⟨Nat.le_of_ble_eq_true rfl, Nat.le_of_ble_eq_true rfl⟩ (Nat.le_of_ble_eq_true rfl) dX12_person_82 rfl ?_
                exact e_iret X hr dX12_person_85 (Nat.le_of_ble_eq_true rfl) (Nat.le_of_ble_eq_true rfl) (by cases hF; exact ⟨rfl, rfl⟩)
            · skip
              rw [if_pos c27] at hF
              refine e_aload_n X dX12_person_68 rfl rfl ?_
              refine e_iload_n X dX12_person_69 rfl rfl ?_
              obtain ⟨z39, h_z39, hF⟩ := obind_out hF
              refine e_callVi X (r := z39) (σ1 := σ23) [.int v1] [] (C_M_askersOf (Cx_gok X) σ23 v1 h_z39) gv_X12_296 yk_X12_askersOf rfl (ent_lt (rfl : entTbl[333]? = some (13, 0))) (ent_at (rfl : entTbl[333]? = some (13, 0)) _) (rfl : vCl[11]? = some (RX12, TX12, 24)) ⟨Nat.le_of_ble_eq_true rfl, Nat.le_of_ble_eq_true rfl⟩ ⟨Nat.le_of_ble_eq_true rfl, Nat.le_of_ble_eq_true rfl⟩ (Nat.le_of_ble_eq_true rfl) dX12_person_70 rfl ?_
              exact e_iret X hr dX12_person_73 (Nat.le_of_ble_eq_true rfl) (Nat.le_of_ble_eq_true rfl) (by cases hF; exact ⟨rfl, rfl⟩)
          · skip
            rw [if_pos c26] at hF
            refine e_aload_n X dX12_person_56 rfl rfl ?_
            refine e_iload_n X dX12_person_57 rfl rfl ?_
            refine e_iconst X 1 dX12_person_58 rfl ?_
            obtain ⟨z40, h_z40, hF⟩ := obind_out hF
            refine e_callVi X (r := z40) (σ1 := σ23) [.int v1, .int 1] [] (C_M_of (Cx_gok X) σ23 v1 1 h_z40) gv_X12_62 yk_X12_of rfl (ent_lt (rfl : entTbl[333]? = some (13, 0))) (ent_at (rfl : entTbl[333]? = some (13, 0)) _) (rfl : vCl[11]? = some (RX12, TX12, 24)) ⟨Nat.le_of_ble_eq_true rfl, Nat.le_of_ble_eq_true rfl⟩ ⟨Nat.le_of_ble_eq_true rfl, Nat.le_of_ble_eq_true rfl⟩ (Nat.le_of_ble_eq_true rfl) dX12_person_59 rfl ?_
            exact e_iret X hr dX12_person_62 (Nat.le_of_ble_eq_true rfl) (Nat.le_of_ble_eq_true rfl) (by cases hF; exact ⟨rfl, rfl⟩)
        · skip
          rw [if_pos c25] at hF
          refine e_aload_n X dX12_person_44 rfl rfl ?_
          refine e_iload_n X dX12_person_45 rfl rfl ?_
          refine e_iconst X 0 dX12_person_46 rfl ?_
          obtain ⟨z41, h_z41, hF⟩ := obind_out hF
          refine e_callVi X (r := z41) (σ1 := σ23) [.int v1, .int 0] [] (C_M_of (Cx_gok X) σ23 v1 0 h_z41) gv_X12_62 yk_X12_of rfl (ent_lt (rfl : entTbl[333]? = some (13, 0))) (ent_at (rfl : entTbl[333]? = some (13, 0)) _) (rfl : vCl[11]? = some (RX12, TX12, 24)) ⟨Nat.le_of_ble_eq_true rfl, Nat.le_of_ble_eq_true rfl⟩ ⟨Nat.le_of_ble_eq_true rfl, Nat.le_of_ble_eq_true rfl⟩ (Nat.le_of_ble_eq_true rfl) dX12_person_47 rfl ?_
          exact e_iret X hr dX12_person_50 (Nat.le_of_ble_eq_true rfl) (Nat.le_of_ble_eq_true rfl) (by cases hF; exact ⟨rfl, rfl⟩)
      · skip
        rw [if_pos c24] at hF
        refine e_iconst X 0 dX12_person_38 rfl ?_
        exact e_iret X hr dX12_person_39 (Nat.le_of_ble_eq_true rfl) (Nat.le_of_ble_eq_true rfl) (by cases hF; exact ⟨rfl, rfl⟩)
  · skip
    rw [if_pos c2] at hF
    refine e_iconst X 1 dX12_person_9 rfl ?_
    refine e_goto X 28 dX12_person_10 (by decide) ?_
    obtain ⟨σ42, h_σ42, hF⟩ := bindT_out hF
    refine pu_M_thrown X wf_X12_51 dX12_person_28 h_σ42 ?_
    refine e_aload_n X dX12_person_31 rfl rfl ?_
    refine ge_M_thrown X wf_X12_51 dX12_person_32 ?_
    refine e_if_le X 40 dX12_person_35 (by decide) (fun c43 => ?_) (fun c43 => ?_)
    · skip
      rw [if_neg c43] at hF
      refine e_iload_n X dX12_person_40 rfl rfl ?_
      refine e_if_ne X 51 dX12_person_41 (by decide) (fun c44 => ?_) (fun c44 => ?_)
      · skip
        rw [if_neg c44] at hF
        refine e_iload_n X dX12_person_51 rfl rfl ?_
        refine e_iconst X 1 dX12_person_52 rfl ?_
        refine e_icmp_ne X 63 dX12_person_53 (by decide) (fun c45 => ?_) (fun c45 => ?_)
        · skip
          rw [if_neg c45] at hF
          refine e_iload_n X dX12_person_63 rfl rfl ?_
          refine e_iconst X 2 dX12_person_64 rfl ?_
          refine e_icmp_ne X 74 dX12_person_65 (by decide) (fun c46 => ?_) (fun c46 => ?_)
          · skip
            rw [if_neg c46] at hF
            refine e_iload_n X dX12_person_74 rfl rfl ?_
            refine e_iconst X 3 dX12_person_75 rfl ?_
            refine e_icmp_ne X 86 dX12_person_76 (by decide) (fun c47 => ?_) (fun c47 => ?_)
            · skip
              rw [if_neg c47] at hF
              refine e_iload_n X dX12_person_86 rfl rfl ?_
              refine e_iconst X 4 dX12_person_87 rfl ?_
              refine e_icmp_ne X 98 dX12_person_88 (by decide) (fun c48 => ?_) (fun c48 => ?_)
              · skip
                rw [if_neg c48] at hF
                refine e_iload_n X dX12_person_98 rfl rfl ?_
                refine e_iconst X 5 dX12_person_99 rfl ?_
                refine e_icmp_ne X 109 dX12_person_100 (by decide) (fun c49 => ?_) (fun c49 => ?_)
                · skip
                  rw [if_neg c49] at hF
                  refine e_aload_n X dX12_person_109 rfl rfl ?_
                  obtain ⟨z50, h_z50, hF⟩ := obind_out hF
                  refine e_callVi X (r := z50) (σ1 := σ42) [] [] (C_M_wealths (Cx_gok X) σ42 h_z50) gv_X12_299 yk_X12_wealths rfl (ent_lt (rfl : entTbl[333]? = some (13, 0))) (ent_at (rfl : entTbl[333]? = some (13, 0)) _) (rfl : vCl[11]? = some (RX12, TX12, 24)) ⟨Nat.le_of_ble_eq_true rfl, Nat.le_of_ble_eq_true rfl⟩ ⟨Nat.le_of_ble_eq_true rfl, Nat.le_of_ble_eq_true rfl⟩ (Nat.le_of_ble_eq_true rfl) dX12_person_110 rfl ?_
                  refine e_if_ne X 120 dX12_person_113 (by decide) (fun c51 => ?_) (fun c51 => ?_)
                  · skip
                    rw [if_neg c51] at hF
                    refine e_bipush X 100 dX12_person_120 rfl ?_
                    refine e_aload_n X dX12_person_122 rfl rfl ?_
                    refine e_iload_n X dX12_person_123 rfl rfl ?_
                    refine e_iconst X 0 dX12_person_124 rfl ?_
                    obtain ⟨z52, h_z52, hF⟩ := obind_out hF
                    refine e_callVi X (r := z52) (σ1 := σ42) [.int v1, .int 0] [.int 100] (C_M_of (Cx_gok X) σ42 v1 0 h_z52) gv_X12_62 yk_X12_of rfl (ent_lt (rfl : entTbl[333]? = some (13, 0))) (ent_at (rfl : entTbl[333]? = some (13, 0)) _) (rfl : vCl[11]? = some (RX12, TX12, 24)) ⟨Nat.le_of_ble_eq_true rfl, Nat.le_of_ble_eq_true rfl⟩ ⟨Nat.le_of_ble_eq_true rfl, Nat.le_of_ble_eq_true rfl⟩ (Nat.le_of_ble_eq_true rfl) dX12_person_125 rfl ?_
                    refine e_imul X dX12_person_128 ?_
                    refine e_aload_n X dX12_person_129 rfl rfl ?_
                    obtain ⟨z53, h_z53, hF⟩ := obind_out hF
                    refine e_callVi X (r := z53) (σ1 := σ42) [] [.int ((100 * z52))] (C_M_wealths (Cx_gok X) σ42 h_z53) gv_X12_299 yk_X12_wealths rfl (ent_lt (rfl : entTbl[333]? = some (13, 0))) (ent_at (rfl : entTbl[333]? = some (13, 0)) _) (rfl : vCl[11]? = some (RX12, TX12, 24)) ⟨Nat.le_of_ble_eq_true rfl, Nat.le_of_ble_eq_true rfl⟩ ⟨Nat.le_of_ble_eq_true rfl, Nat.le_of_ble_eq_true rfl⟩ (Nat.le_of_ble_eq_true rfl) dX12_person_130 rfl ?_
                    obtain ⟨c54, hF⟩ := chk_out hF
                    refine e_idiv X dX12_person_133 (nz_out c54) ?_
                    exact e_iret X hr dX12_person_134 (Nat.le_of_ble_eq_true rfl) (Nat.le_of_ble_eq_true rfl) (by cases hF; exact ⟨rfl, rfl⟩)
                  · skip
                    rw [if_pos c51] at hF
                    refine e_iconst X 0 dX12_person_116 rfl ?_
                    refine e_goto X 134 dX12_person_117 (by decide) ?_
                    exact e_iret X hr dX12_person_134 (Nat.le_of_ble_eq_true rfl) (Nat.le_of_ble_eq_true rfl) (by cases hF; exact ⟨rfl, rfl⟩)
                · skip
                  rw [if_pos c49] at hF
                  refine e_aload_n X dX12_person_103 rfl rfl ?_
                  refine e_iload_n X dX12_person_104 rfl rfl ?_
                  obtain ⟨z55, h_z55, hF⟩ := obind_out hF
                  refine e_callVi X (r := z55) (σ1 := σ42) [.int v1] [] (C_M_wedTo (Cx_gok X) σ42 v1 h_z55) gv_X12_121 yk_X12_wedTo rfl (ent_lt (rfl : entTbl[333]? = some (13, 0))) (ent_at (rfl : entTbl[333]? = some (13, 0)) _) (rfl : vCl[11]? = some (RX12, TX12, 24)) ⟨Nat.le_of_ble_eq_true rfl, Nat.le_of_ble_eq_true rfl⟩ ⟨Nat.le_of_ble_eq_true rfl, Nat.le_of_ble_eq_true rfl⟩ (Nat.le_of_ble_eq_true rfl) dX12_person_105 rfl ?_
                  exact e_iret X hr dX12_person_108 (Nat.le_of_ble_eq_true rfl) (Nat.le_of_ble_eq_true rfl) (by cases hF; exact ⟨rfl, rfl⟩)
              · skip
                rw [if_pos c48] at hF
                refine e_aload_n X dX12_person_91 rfl rfl ?_
                refine e_iload_n X dX12_person_92 rfl rfl ?_
                refine e_iconst X 3 dX12_person_93 rfl ?_
                obtain ⟨z56, h_z56, hF⟩ := obind_out hF
                refine e_callVi X (r := z56) (σ1 := σ42) [.int v1, .int 3] [] (C_M_of (Cx_gok X) σ42 v1 3 h_z56) gv_X12_62 yk_X12_of rfl (ent_lt (rfl : entTbl[333]? = some (13, 0))) (ent_at (rfl : entTbl[333]? = some (13, 0)) _) (rfl : vCl[11]? = some (RX12, TX12, 24)) ⟨Nat.le_of_ble_eq_true rfl, Nat.le_of_ble_eq_true rfl⟩ ⟨Nat.le_of_ble_eq_true rfl, Nat.le_of_ble_eq_true rfl⟩ (Nat.le_of_ble_eq_true rfl) dX12_person_94 rfl ?_
                exact e_iret X hr dX12_person_97 (Nat.le_of_ble_eq_true rfl) (Nat.le_of_ble_eq_true rfl) (by cases hF; exact ⟨rfl, rfl⟩)
            · skip
              rw [if_pos c47] at hF
              refine e_aload_n X dX12_person_79 rfl rfl ?_
              refine e_iload_n X dX12_person_80 rfl rfl ?_
              refine e_iconst X 2 dX12_person_81 rfl ?_
              obtain ⟨z57, h_z57, hF⟩ := obind_out hF
              refine e_callVi X (r := z57) (σ1 := σ42) [.int v1, .int 2] [] (C_M_of (Cx_gok X) σ42 v1 2 h_z57) gv_X12_62 yk_X12_of rfl (ent_lt (rfl : entTbl[333]? = some (13, 0))) (ent_at (rfl : entTbl[333]? = some (13, 0)) _) (rfl : vCl[11]? = some (RX12, TX12, 24)) ⟨Nat.le_of_ble_eq_true rfl, Nat.le_of_ble_eq_true rfl⟩ ⟨Nat.le_of_ble_eq_true rfl, Nat.le_of_ble_eq_true rfl⟩ (Nat.le_of_ble_eq_true rfl) dX12_person_82 rfl ?_
              exact e_iret X hr dX12_person_85 (Nat.le_of_ble_eq_true rfl) (Nat.le_of_ble_eq_true rfl) (by cases hF; exact ⟨rfl, rfl⟩)
          · skip
            rw [if_pos c46] at hF
            refine e_aload_n X dX12_person_68 rfl rfl ?_
            refine e_iload_n X dX12_person_69 rfl rfl ?_
            obtain ⟨z58, h_z58, hF⟩ := obind_out hF
            refine e_callVi X (r := z58) (σ1 := σ42) [.int v1] [] (C_M_askersOf (Cx_gok X) σ42 v1 h_z58) gv_X12_296 yk_X12_askersOf rfl (ent_lt (rfl : entTbl[333]? = some (13, 0))) (ent_at (rfl : entTbl[333]? = some (13, 0)) _) (rfl : vCl[11]? = some (RX12, TX12, 24)) ⟨Nat.le_of_ble_eq_true rfl, Nat.le_of_ble_eq_true rfl⟩ ⟨Nat.le_of_ble_eq_true rfl, Nat.le_of_ble_eq_true rfl⟩ (Nat.le_of_ble_eq_true rfl) dX12_person_70 rfl ?_
            exact e_iret X hr dX12_person_73 (Nat.le_of_ble_eq_true rfl) (Nat.le_of_ble_eq_true rfl) (by cases hF; exact ⟨rfl, rfl⟩)
        · skip
          rw [if_pos c45] at hF
          refine e_aload_n X dX12_person_56 rfl rfl ?_
          refine e_iload_n X dX12_person_57 rfl rfl ?_
          refine e_iconst X 1 dX12_person_58 rfl ?_
          obtain ⟨z59, h_z59, hF⟩ := obind_out hF
          refine e_callVi X (r := z59) (σ1 := σ42) [.int v1, .int 1] [] (C_M_of (Cx_gok X) σ42 v1 1 h_z59) gv_X12_62 yk_X12_of rfl (ent_lt (rfl : entTbl[333]? = some (13, 0))) (ent_at (rfl : entTbl[333]? = some (13, 0)) _) (rfl : vCl[11]? = some (RX12, TX12, 24)) ⟨Nat.le_of_ble_eq_true rfl, Nat.le_of_ble_eq_true rfl⟩ ⟨Nat.le_of_ble_eq_true rfl, Nat.le_of_ble_eq_true rfl⟩ (Nat.le_of_ble_eq_true rfl) dX12_person_59 rfl ?_
          exact e_iret X hr dX12_person_62 (Nat.le_of_ble_eq_true rfl) (Nat.le_of_ble_eq_true rfl) (by cases hF; exact ⟨rfl, rfl⟩)
      · skip
        rw [if_pos c44] at hF
        refine e_aload_n X dX12_person_44 rfl rfl ?_
        refine e_iload_n X dX12_person_45 rfl rfl ?_
        refine e_iconst X 0 dX12_person_46 rfl ?_
        obtain ⟨z60, h_z60, hF⟩ := obind_out hF
        refine e_callVi X (r := z60) (σ1 := σ42) [.int v1, .int 0] [] (C_M_of (Cx_gok X) σ42 v1 0 h_z60) gv_X12_62 yk_X12_of rfl (ent_lt (rfl : entTbl[333]? = some (13, 0))) (ent_at (rfl : entTbl[333]? = some (13, 0)) _) (rfl : vCl[11]? = some (RX12, TX12, 24)) ⟨Nat.le_of_ble_eq_true rfl, Nat.le_of_ble_eq_true rfl⟩ ⟨Nat.le_of_ble_eq_true rfl, Nat.le_of_ble_eq_true rfl⟩ (Nat.le_of_ble_eq_true rfl) dX12_person_47 rfl ?_
        exact e_iret X hr dX12_person_50 (Nat.le_of_ble_eq_true rfl) (Nat.le_of_ble_eq_true rfl) (by cases hF; exact ⟨rfl, rfl⟩)
    · skip
      rw [if_pos c43] at hF
      refine e_iconst X 0 dX12_person_38 rfl ?_
      exact e_iret X hr dX12_person_39 (Nat.le_of_ble_eq_true rfl) (Nat.le_of_ble_eq_true rfl) (by cases hF; exact ⟨rfl, rfl⟩)
end PART

section PART
variable {p : Program} {l : Launch} {e : Env} {R : Room} {s : State} {m : MethodId} {args : Array Value} {below : List Frame} {meth : Method} {c : Code} {Γ : Gm} {D : va_G} {s0 : State} {cells slots : Nat} {Q : State → Prop} {own : String} {cc : ByteArray} {nL : Nat} {σ : Mem} {pc : Nat} {lv : List (Option Value)} {st : List Value} {Pst : Option Value → Mem → Prop}
def F_Town_copyPurses (σ : Mem) (t : Nat) (t1 : Nat) : Mem := bindT (F_Row_copyAll σ (t + 1) 8 (t1 + 1) 8) fun z1 => bindT (up z1 t 9 ((z1 t1 9))) fun σ2 => σ2
def F_Town_copyAll (σ : Mem) (t : Nat) (t1 : Nat) : Mem := bindT (F_Town_copyPurses σ t t1) fun z1 => bindT (F_Row_copyAll z1 (t + 3) 8 (t1 + 3) 8) fun z2 => bindT (F_Row_copyAll z2 (t + 5) 8 (t1 + 5) 8) fun z3 => bindT (F_Row_copyAll z3 (t + 7) 64 (t1 + 7) 64) fun z4 => bindT (F_Row_copyAll z4 (t + 9) 40 (t1 + 9) 40) fun z5 => bindT (F_Row_copyAll z5 (t + 11) 20 (t1 + 11) 20) fun z6 => bindT (F_Row_copyAll z6 (t + 13) 20 (t1 + 13) 20) fun z7 => bindT (F_Row_copyAll z7 (t + 15) 240 (t1 + 15) 240) fun z8 => bindT (up z8 t 8 ((z8 t1 8))) fun σ9 => bindT (up σ9 t 10 ((σ9 t1 10))) fun σ10 => bindT (up σ10 t 11 ((σ10 t1 11))) fun σ11 => bindT (up σ11 t 12 ((σ11 t1 12))) fun σ12 => bindT (up σ12 t 13 ((σ12 t1 13))) fun σ13 => bindT (up σ13 t 14 ((σ13 t1 14))) fun σ14 => bindT (up σ14 t 15 ((σ14 t1 15))) fun σ15 => bindT (up σ15 t 16 ((σ15 t1 16))) fun σ16 => bindT (up σ16 t 17 ((σ16 t1 17))) fun σ17 => bindT (up σ17 t 18 ((σ17 t1 18))) fun σ18 => bindT (up σ18 t 19 ((σ18 t1 19))) fun σ19 => σ19
def F_Town_hasPerson (σ : Mem) (t : Nat) (v1 : Int32) : Int32 := (if v1 < 0 then 0 else (if v1 < (σ t 8) then 1 else 0))
def F_Town_addPerson (σ : Mem) (t : Nat) (v1 : Int32) : Mem := bindT (F_Row_put σ (t + 1) 8 ((σ t 8)) v1) fun z1 => bindT (F_Row_put z1 (t + 5) 8 ((z1 t 8)) ((-1))) fun z2 => bindT (up z2 t 8 (((z2 t 8) + 1))) fun σ3 => σ3
def F_Town_likingOf (σ : Mem) (t : Nat) (v1 : Int32) (v2 : Int32) : Int32 := (F_Row_at σ (t + 7) 64 (((v1 * 8) + v2)))
def F_Town_setLiking (σ : Mem) (t : Nat) (v1 : Int32) (v2 : Int32) (v3 : Int32) : Mem := bindT (F_Row_put σ (t + 7) 64 (((v1 * 8) + v2)) v3) fun z1 => z1
def F_Town_addAsked (σ : Mem) (t : Nat) (v1 : Int32) (v2 : Int32) : Mem × Int32 := bindT ((F_Row_at σ (t + 3) 8 v1)) fun x1 => bindT (F_Row_put σ (t + 3) 8 v1 ((x1 ||| ((1 : Int32) <<< ((v2 : Int32) &&& 31))))) fun z2 => (if (F_W_contains z2 x1 v2) = 0 then (z2, 1) else (z2, 0))
def F_Town_askersOf_4_b (σ : Mem) (t : Nat) (v1 : Int32) (v3 : Int32) (v2 : Int32) : Int32 := (if (F_W_contains σ ((F_Row_at σ (t + 3) 8 v3)) v1) = 0 then v2 else bindT ((v2 ||| ((1 : Int32) <<< ((v3 : Int32) &&& 31)))) fun x3 => x3)
def F_Town_askersOf (σ : Mem) (t : Nat) (v1 : Int32) : Int32 := bindT (forS (fun i s => F_Town_askersOf_4_b σ t v1 i s) (cnt 0 ((σ t 8))) 0 0) fun z5 => z5
def F_Town_isRuined (σ : Mem) (t : Nat) (v1 : Int32) : Int32 := (if ((((σ t 9) : Int32) >>> ((v1 : Int32) &&& 31)) &&& 1) = 0 then 0 else 1)
def F_Town_wealthOfAll_4_b (σ : Mem) (t : Nat) (v2 : Int32) (v1 : Int32) : Int32 := bindT ((v1 + (F_Row_at σ (t + 1) 8 v2))) fun x2 => x2
def F_Town_wealthOfAll (σ : Mem) (t : Nat) : Int32 := bindT (forS (fun i s => F_Town_wealthOfAll_4_b σ t i s) (cnt 0 ((σ t 8))) 0 0) fun z4 => z4
def F_Town_shareOf (σ : Mem) (t : Nat) (v1 : Int32) : Int32 := bindT ((F_Town_wealthOfAll σ t)) fun x1 => (if 0 < x1 then (((F_Row_at σ (t + 1) 8 v1) * 100) / x1) else 0)
def F_Town_richestPerson_4_b (σ : Mem) (t : Nat) (v2 : Int32) (v1 : Int32) : Int32 := (if (F_Town_isRuined σ t v2) = 0 then (if v1 = (-1) then v2 else (if (F_Row_at σ (t + 1) 8 v1) < (F_Row_at σ (t + 1) 8 v2) then v2 else v1)) else v1)
def F_Town_richestPerson (σ : Mem) (t : Nat) : Int32 := bindT (forS (fun i s => F_Town_richestPerson_4_b σ t i s) (cnt 0 ((σ t 8))) 0 (-1)) fun z6 => z6
def F_Town_ringSteps_11_b (σ : Mem) (t : Nat) (v1 : Int32) (v2 : Int32) (v3 : Int32) : Option ((Int32 × Int32) ⊕ ((Int32 × Int32) ⊕ (Int32))) := (if (σ t 8) < v3 then some (.inr (.inl ((v2, v3)))) else (if v2 = (-1) then some (.inr (.inl ((v2, v3)))) else (if v2 = v1 then some (.inr (.inr v3)) else bindT ((F_Row_at σ (t + 5) 8 v2)) fun x5 => bindT (v3 + 1) fun x6 => some (.inl ((x5, x6))))))
def F_Town_ringSteps (σ : Mem) (t : Nat) (v1 : Int32) : Option (Int32) := bindT ((F_Row_at σ (t + 5) 8 v1)) fun x1 => obind (whl (fun s => F_Town_ringSteps_11_b σ t v1 s.1 s.2) FUEL (x1, 1)) fun z7 => sumE z7 (fun s8 => some ((-1))) (fun r9 => some r9)
def F_Town_isLeastOfRing_11_b (σ : Mem) (t : Nat) (v1 : Int32) (v2 : Int32) (v3 : Int32) : Option ((Int32 × Int32) ⊕ ((Int32 × Int32) ⊕ (Int32))) := (if (σ t 8) < v3 then some (.inr (.inl ((v2, v3)))) else (if v2 = (-1) then some (.inr (.inl ((v2, v3)))) else (if v2 = v1 then some (.inr (.inl ((v2, v3)))) else (if v2 < v1 then some (.inr (.inr 0)) else bindT ((F_Row_at σ (t + 5) 8 v2)) fun x6 => bindT (v3 + 1) fun x7 => some (.inl ((x6, x7)))))))
def F_Town_isLeastOfRing (σ : Mem) (t : Nat) (v1 : Int32) : Option (Int32) := bindT ((F_Row_at σ (t + 5) 8 v1)) fun x1 => obind (whl (fun s => F_Town_isLeastOfRing_11_b σ t v1 s.1 s.2) FUEL (x1, 1)) fun z8 => sumE z8 (fun s9 => some 1) (fun r10 => some r10)
def F_Town_ringCount_4_b (σ : Mem) (t : Nat) (v2 : Int32) (v1 : Int32) : Option (Int32) := obind (F_Town_ringSteps σ t v2) fun z2 => (if z2 = (-1) then some (v1) else obind (F_Town_isLeastOfRing σ t v2) fun z4 => (if z4 = 0 then some (v1) else bindT (v1 + 1) fun x6 => some (x6)))
def F_Town_ringCount (σ : Mem) (t : Nat) : Option (Int32) := obind (forSO (fun i s => F_Town_ringCount_4_b σ t i s) (cnt 0 ((σ t 8))) 0 0) fun z8 => some z8
def F_Town_comesTo_12_b (σ : Mem) (t : Nat) (v1 : Int32) (v2 : Int32) (v3 : Int32) (v4 : Int32) : Option ((Int32 × Int32) ⊕ ((Int32 × Int32) ⊕ (Int32))) := (if (σ t 8) < v4 then some (.inr (.inl ((v3, v4)))) else (if v3 = (-1) then some (.inr (.inl ((v3, v4)))) else (if v3 = v2 then some (.inr (.inr 1)) else bindT ((F_Row_at σ (t + 5) 8 v3)) fun x5 => bindT (v4 + 1) fun x6 => some (.inl ((x5, x6))))))
def F_Town_comesTo (σ : Mem) (t : Nat) (v1 : Int32) (v2 : Int32) : Option (Int32) := bindT ((F_Row_at σ (t + 5) 8 v1)) fun x1 => obind (whl (fun s => F_Town_comesTo_12_b σ t v1 v2 s.1 s.2) FUEL (x1, 1)) fun z7 => sumE z7 (fun s8 => some 0) (fun r9 => some r9)
def F_Town_leaners_4_b (σ : Mem) (t : Nat) (v1 : Int32) (v3 : Int32) (v2 : Int32) : Option (Int32) := obind (F_Town_comesTo σ t v3 v1) fun z2 => (if z2 = 0 then some (v2) else bindT ((v2 ||| ((1 : Int32) <<< ((v3 : Int32) &&& 31)))) fun x4 => some (x4))
def F_Town_leaners (σ : Mem) (t : Nat) (v1 : Int32) : Option (Int32) := obind (forSO (fun i s => F_Town_leaners_4_b σ t v1 i s) (cnt 0 ((σ t 8))) 0 0) fun z6 => some z6
def F_Town_firstOf (σ : Mem) (t : Nat) (v1 : Int32) : Int32 := (F_Row_at σ (t + 9) 40 ((2 * v1)))
def F_Town_secondOf (σ : Mem) (t : Nat) (v1 : Int32) : Int32 := (F_Row_at σ (t + 9) 40 (((2 * v1) + 1)))
def F_Town_isOver (σ : Mem) (t : Nat) (v1 : Int32) : Int32 := (if ((((σ t 11) : Int32) >>> ((v1 : Int32) &&& 31)) &&& 1) = 0 then 0 else 1)
def F_Town_endMatch (σ : Mem) (t : Nat) (v1 : Int32) : Mem := bindT (up σ t 11 (((σ t 11) ||| ((1 : Int32) <<< ((v1 : Int32) &&& 31))))) fun σ1 => σ1
def F_Town_addMatch (σ : Mem) (t : Nat) (v1 : Int32) (v2 : Int32) (v3 : Int32) : Mem × Int32 := bindT ((σ t 10)) fun x1 => bindT (F_Row_put σ (t + 9) 40 ((2 * x1)) v1) fun z2 => bindT (F_Row_put z2 (t + 9) 40 (((2 * x1) + 1)) v2) fun z3 => bindT (F_Row_put z3 (t + 11) 20 x1 v3) fun z4 => bindT (F_Row_put z4 (t + 13) 20 x1 0) fun z5 => bindT (up z5 t 10 (((z5 t 10) + 1))) fun σ6 => (σ6, x1)
def F_Town_changeHappy (σ : Mem) (t : Nat) (v1 : Int32) (v2 : Int32) : Mem × Int32 := bindT (F_Row_put σ (t + 11) 20 v1 ((F_W_happyWithin σ (((F_Row_at σ (t + 11) 20 v1) + v2))))) fun z1 => (z1, (F_Row_at z1 (t + 11) 20 v1))
def F_Town_spouseOf_2_b (σ : Mem) (t : Nat) (v1 : Int32) (v2 : Int32) : (Unit) ⊕ (Int32) := (if (F_Town_isOver σ t v2) = 0 then (if (F_Town_firstOf σ t v2) = v1 then .inr ((F_Town_secondOf σ t v2)) else (if (F_Town_isOver σ t v2) = 0 then (if (F_Town_secondOf σ t v2) = v1 then .inr ((F_Town_firstOf σ t v2)) else .inl (())) else .inl (()))) else (if (F_Town_isOver σ t v2) = 0 then (if (F_Town_secondOf σ t v2) = v1 then .inr ((F_Town_firstOf σ t v2)) else .inl (())) else .inl (())))
def F_Town_spouseOf (σ : Mem) (t : Nat) (v1 : Int32) : Int32 := bindT (forG (fun i s => F_Town_spouseOf_2_b σ t v1 i ) (cnt 0 ((σ t 10))) 0 ()) fun z9 => sumE z9 (fun s10 => (-1)) (fun r11 => r11)
def F_Town_isWed (σ : Mem) (t : Nat) (v1 : Int32) : Int32 := (if (F_Town_spouseOf σ t v1) = (-1) then 0 else 1)
def F_Town_wedPeople_4_b (σ : Mem) (t : Nat) (v2 : Int32) (v1 : Int32) : Int32 := (if (F_Town_isWed σ t v2) = 0 then v1 else bindT ((v1 ||| ((1 : Int32) <<< ((v2 : Int32) &&& 31)))) fun x3 => x3)
def F_Town_wedPeople (σ : Mem) (t : Nat) : Int32 := bindT (forS (fun i s => F_Town_wedPeople_4_b σ t i s) (cnt 0 ((σ t 8))) 0 0) fun z5 => z5
def F_Town_insurersOfPair_14_b (σ : Mem) (t : Nat) (v1 : Int32) (v2 : Int32) (v4 : Int32) (v5 : Int32) (v3 : Int32) : Int32 := (if (F_W_contains σ ((v4 ||| (σ t 9))) v5) = 0 then (if ((F_Row_at σ (t + 3) 8 v5) &&& v4) = 0 then v3 else bindT ((v3 ||| ((1 : Int32) <<< ((v5 : Int32) &&& 31)))) fun x5 => x5) else v3)
def F_Town_insurersOfPair (σ : Mem) (t : Nat) (v1 : Int32) (v2 : Int32) : Int32 := bindT ((((1 : Int32) <<< ((v1 : Int32) &&& 31)) ||| ((1 : Int32) <<< ((v2 : Int32) &&& 31)))) fun x1 => bindT (forS (fun i s => F_Town_insurersOfPair_14_b σ t v1 v2 x1 i s) (cnt 0 ((σ t 8))) 0 0) fun z7 => (if (F_Int_bitCount_0f7a4 σ z7) < 2 then 0 else z7)
def F_Town_insurersOf (σ : Mem) (t : Nat) (v1 : Int32) : Int32 := (if (F_Town_isOver σ t v1) = 0 then (F_Town_insurersOfPair σ t ((F_Town_firstOf σ t v1)) ((F_Town_secondOf σ t v1))) else 0)
def F_Town_lookAt (σ : Mem) (t : Nat) (v1 : Int32) (v2 : Int32) (k3 : Nat) : Mem := bindT ((F_Town_firstOf σ t v1)) fun x1 => bindT ((F_Town_secondOf σ t v1)) fun x2 => bindT (up σ k3 0 ((F_Row_at σ (t + 11) 20 v1))) fun σ3 => bindT (up σ3 k3 1 ((F_Row_at σ3 (t + 13) 20 v1))) fun σ4 => bindT (up σ4 k3 2 v2) fun σ5 => bindT (up σ5 k3 3 ((F_Int_bitCount_0f7a4 σ5 ((F_Town_insurersOf σ5 t v1))))) fun σ6 => bindT (up σ6 k3 4 (((F_Town_likingOf σ6 t x1 x2) + (F_Town_likingOf σ6 t x2 x1)))) fun σ7 => bindT (up σ7 k3 5 ((σ7 t 15))) fun σ8 => (if 99 < ((F_Row_at σ8 (t + 1) 8 x1) + (F_Row_at σ8 (t + 1) 8 x2)) then bindT (up σ8 k3 6 1) fun σ11 => σ11 else bindT (up σ8 k3 6 0) fun σ10 => σ10)
def F_Town_take (σ : Mem) (t : Nat) (v1 : Int32) (v2 : Int32) : Mem × Int32 := bindT ((if v2 < (F_Row_at σ (t + 1) 8 v1) then v2 else (F_Row_at σ (t + 1) 8 v1))) fun x1 => bindT (F_Row_put σ (t + 1) 8 v1 (((F_Row_at σ (t + 1) 8 v1) - x1))) fun z2 => (z2, x1)
def F_Town_give (σ : Mem) (t : Nat) (v1 : Int32) (v2 : Int32) : Mem := bindT (F_Row_put σ (t + 1) 8 v1 ((if ((F_Row_at σ (t + 1) 8 v1) + v2) < 999 then ((F_Row_at σ (t + 1) 8 v1) + v2) else 999))) fun z1 => z1
def F_Town_ruinIfShort (σ : Mem) (t : Nat) (v1 : Int32) (v2 : Int32) : Mem := (if (F_Row_at σ (t + 1) 8 v1) < v2 then bindT (up σ t 9 (((σ t 9) ||| ((1 : Int32) <<< ((v1 : Int32) &&& 31))))) fun σ2 => σ2 else σ)
def F_Town_payOut (σ : Mem) (t : Nat) (v1 : Int32) : Mem × Int32 := bindT ((F_Row_at σ (t + 5) 8 v1)) fun x1 => (if x1 = (-1) then bindT (F_Town_ruinIfShort σ t v1 ((σ t 14))) fun z3 => bindT (F_Town_take z3 t v1 ((z3 t 14))) fun z4 => (z4.1, z4.2) else (if (F_Town_isRuined σ t x1) = 0 then bindT (F_Town_ruinIfShort σ t x1 (((σ t 14) / 2))) fun z8 => bindT (F_Town_take z8 t x1 (((z8 t 14) / 2))) fun z9 => bindT (F_Town_give z9.1 t v1 z9.2) fun z10 => bindT (F_Town_ruinIfShort z10 t v1 ((z10 t 14))) fun z11 => bindT (F_Town_take z11 t v1 ((z11 t 14))) fun z12 => (z12.1, z12.2) else bindT (F_Town_ruinIfShort σ t v1 ((σ t 14))) fun z6 => bindT (F_Town_take z6 t v1 ((z6 t 14))) fun z7 => (z7.1, z7.2)))
def F_Town_payClaim_11_b (t : Nat) (v1 : Int32) (v2 : Int32) (v3 : Int32) (v4 : Int32) (σ : Mem) : Option ((Int32 × Int32 × Mem) ⊕ (Int32 × Int32 × Mem)) := (if v4 < (σ t 8) then (if (F_W_contains σ v2 v4) = 0 then bindT (v4 + 1) fun x4 => some (.inl ((v3, x4, σ))) else bindT (F_Town_payOut σ t v4) fun z5 => bindT ((v3 + z5.2)) fun x6 => bindT (v4 + 1) fun x7 => some (.inl ((x6, x7, z5.1)))) else some (.inr ((v3, v4, σ))))
def F_Town_payClaim (σ : Mem) (t : Nat) (v1 : Int32) : Option (Mem × Int32) := bindT ((F_Town_insurersOf σ t v1)) fun x1 => obind (whl (fun s => F_Town_payClaim_11_b t v1 x1 s.1 s.2.1 s.2.2) FUEL (0, 0, σ)) fun z8 => bindT (F_Town_give z8.2.2 t ((F_Town_firstOf z8.2.2 t v1)) ((z8.1 / 2))) fun z9 => bindT (F_Town_give z9 t ((F_Town_secondOf z9 t v1)) ((z8.1 - (z8.1 / 2)))) fun z10 => some ((z10, z8.1))
def F_Town_payPremiums_8_b (t : Nat) (v1 : Int32) (v2 : Int32) (v3 : Int32) (σ : Mem) : Option ((Int32 × Mem) ⊕ (Int32 × Mem)) := (if v3 < (σ t 8) then (if (F_W_contains σ v2 v3) = 0 then bindT (v3 + 1) fun x4 => some (.inl ((x4, σ))) else bindT (F_Town_take σ t ((F_Town_firstOf σ t v1)) ((σ t 13))) fun z5 => bindT (F_Town_take z5.1 t ((F_Town_secondOf z5.1 t v1)) (((z5.1 t 13) - z5.2))) fun z6 => bindT (F_Town_give z6.1 t v3 ((z5.2 + z6.2))) fun z7 => bindT (v3 + 1) fun x8 => some (.inl ((x8, z7)))) else some (.inr ((v3, σ))))
def F_Town_payPremiums (σ : Mem) (t : Nat) (v1 : Int32) : Option (Mem) := bindT ((F_Town_insurersOf σ t v1)) fun x1 => obind (whl (fun s => F_Town_payPremiums_8_b t v1 x1 s.1 s.2) FUEL (0, σ)) fun z9 => some z9.2
def F_Town_addToLog (σ : Mem) (t : Nat) (v1 : Int32) (v2 : Int32) (v3 : Int32) : Mem := bindT ((((σ t 19) - (σ t 19) / 60 * 60) * 4)) fun x1 => bindT (F_Row_put σ (t + 15) 240 x1 ((σ t 15))) fun z2 => bindT (F_Row_put z2 (t + 15) 240 ((x1 + 1)) v1) fun z3 => bindT (F_Row_put z3 (t + 15) 240 ((x1 + 2)) v2) fun z4 => bindT (F_Row_put z4 (t + 15) 240 ((x1 + 3)) v3) fun z5 => bindT (up z5 t 19 (((z5 t 19) + 1))) fun σ6 => σ6
def F_Town_logRows (σ : Mem) (t : Nat) : Int32 := (if (σ t 19) < 60 then (σ t 19) else 60)
def F_Town_logged (σ : Mem) (t : Nat) (v1 : Int32) (v2 : Int32) : Int32 := (F_Row_at σ (t + 15) 240 (((((((σ t 19) - 1) - v1) - (((σ t 19) - 1) - v1) / 60 * 60) * 4) + v2)))
def F_Town_loggedClaims_4_b (σ : Mem) (t : Nat) (v1 : Int32) (v3 : Int32) (v2 : Int32) : Int32 := (if (F_Town_logged σ t v3 1) = v1 then bindT (v2 + 1) fun x3 => x3 else v2)
def F_Town_loggedClaims (σ : Mem) (t : Nat) (v1 : Int32) : Int32 := bindT (forS (fun i s => F_Town_loggedClaims_4_b σ t v1 i s) (cnt 0 ((F_Town_logRows σ t))) 0 0) fun z5 => z5
def F_Town_loggedPaid_4_b (σ : Mem) (t : Nat) (v1 : Int32) (v3 : Int32) (v2 : Int32) : Int32 := (if (F_Town_logged σ t v3 1) = v1 then bindT ((v2 + (F_Town_logged σ t v3 2))) fun x3 => x3 else v2)
def F_Town_loggedPaid (σ : Mem) (t : Nat) (v1 : Int32) : Int32 := bindT (forS (fun i s => F_Town_loggedPaid_4_b σ t v1 i s) (cnt 0 ((F_Town_logRows σ t))) 0 0) fun z5 => z5
set_option maxRecDepth 20000 in
set_option maxHeartbeats 4000000 in
theorem C_Town_copyPurses (hG : Gok l Γ D s0) (σ : Mem) (t : Nat) (t1 : Nat) (gt : isTown t) (gt1 : isTown t1) : CT l Γ D s0 yX9_copyPurses cX9_copyPurses 2 none (2) 0 0 (321) σ [.ref (Γ.1 + t), .ref (Γ.1 + t1)] (PI none (F_Town_copyPurses σ t t1)) := by
  generalize hF : F_Town_copyPurses σ t t1 = out
  unfold F_Town_copyPurses at hF
  refine e_met (own := RX9) hG (by decide +kernel) rfl rfl (Nat.le_of_ble_eq_true rfl) ?_
  intro p e s m args below meth c X hr
  show E p l e _ s m args below meth c Γ D 0 0 _ σ 0 [some (.ref (Γ.1 + t)), some (.ref (Γ.1 + t1))] []
  refine e_aload_n X dX9_copyPurses_0 rfl rfl ?_
  refine ge_Town_wealth X gt wf_X9_14 dX9_copyPurses_1 ?_
  refine e_aload_n X dX9_copyPurses_4 rfl rfl ?_
  refine ge_Town_wealth X gt1 wf_X9_14 dX9_copyPurses_5 ?_
  obtain ⟨z1, h_z1, hF⟩ := bindT_out hF
  refine e_callVv X (σ1 := z1) [.ref (Γ.1 + (t1 + 1))] [] (by rw [h_z1]; exact C_Row_copyAll (Cx_gok X) σ (t + 1) 8 (t1 + 1) 8 gt.2.1 gt1.2.1) gv_X9_58 yk_X6_copyAll rfl (ent_lt gt.2.1.1) (ent_at gt.2.1.1 _) (rfl : vCl[6]? = some (RX6, TX6, 1)) ⟨Nat.le_of_ble_eq_true rfl, Nat.le_of_ble_eq_true rfl⟩ ⟨Nat.le_of_ble_eq_true rfl, Nat.le_of_ble_eq_true rfl⟩ (Nat.le_of_ble_eq_true rfl) dX9_copyPurses_8 rfl ?_
  refine e_aload_n X dX9_copyPurses_11 rfl rfl ?_
  refine e_aload_n X dX9_copyPurses_12 rfl rfl ?_
  refine ge_Town_ruined X gt1 wf_X9_83 dX9_copyPurses_13 ?_
  obtain ⟨σ2, h_σ2, hF⟩ := bindT_out hF
  refine pu_Town_ruined X gt wf_X9_83 dX9_copyPurses_16 h_σ2 ?_
  exact e_vret X hr dX9_copyPurses_19 (Nat.le_of_ble_eq_true rfl) (Nat.le_of_ble_eq_true rfl) (by cases hF; exact ⟨rfl, rfl⟩)
set_option maxRecDepth 20000 in
set_option maxHeartbeats 4000000 in
theorem C_Town_copyAll (hG : Gok l Γ D s0) (σ : Mem) (t : Nat) (t1 : Nat) (gt : isTown t) (gt1 : isTown t1) : CT l Γ D s0 yX9_copyAll cX9_copyAll 2 none (3) 0 0 (342) σ [.ref (Γ.1 + t), .ref (Γ.1 + t1)] (PI none (F_Town_copyAll σ t t1)) := by
  generalize hF : F_Town_copyAll σ t t1 = out
  unfold F_Town_copyAll at hF
  refine e_met (own := RX9) hG (by decide +kernel) rfl rfl (Nat.le_of_ble_eq_true rfl) ?_
  intro p e s m args below meth c X hr
  show E p l e _ s m args below meth c Γ D 0 0 _ σ 0 [some (.ref (Γ.1 + t)), some (.ref (Γ.1 + t1))] []
  refine e_aload_n X dX9_copyAll_0 rfl rfl ?_
  refine e_aload_n X dX9_copyAll_1 rfl rfl ?_
  obtain ⟨z1, h_z1, hF⟩ := bindT_out hF
  refine e_callVv X (σ1 := z1) [.ref (Γ.1 + t1)] [] (by rw [h_z1]; exact C_Town_copyPurses (Cx_gok X) σ t t1 gt gt1) gv_X9_54 yk_X9_copyPurses rfl (ent_lt gt.1) (ent_at gt.1 _) (rfl : vCl[8]? = some (RX9, TX9, 20)) ⟨Nat.le_of_ble_eq_true rfl, Nat.le_of_ble_eq_true rfl⟩ ⟨Nat.le_of_ble_eq_true rfl, Nat.le_of_ble_eq_true rfl⟩ (Nat.le_of_ble_eq_true rfl) dX9_copyAll_2 rfl ?_
  refine e_aload_n X dX9_copyAll_5 rfl rfl ?_
  refine ge_Town_asked X gt wf_X9_20 dX9_copyAll_6 ?_
  refine e_aload_n X dX9_copyAll_9 rfl rfl ?_
  refine ge_Town_asked X gt1 wf_X9_20 dX9_copyAll_10 ?_
  obtain ⟨z2, h_z2, hF⟩ := bindT_out hF
  refine e_callVv X (σ1 := z2) [.ref (Γ.1 + (t1 + 3))] [] (by rw [h_z2]; exact C_Row_copyAll (Cx_gok X) z1 (t + 3) 8 (t1 + 3) 8 gt.2.2.1 gt1.2.2.1) gv_X9_58 yk_X6_copyAll rfl (ent_lt gt.2.2.1.1) (ent_at gt.2.2.1.1 _) (rfl : vCl[6]? = some (RX6, TX6, 1)) ⟨Nat.le_of_ble_eq_true rfl, Nat.le_of_ble_eq_true rfl⟩ ⟨Nat.le_of_ble_eq_true rfl, Nat.le_of_ble_eq_true rfl⟩ (Nat.le_of_ble_eq_true rfl) dX9_copyAll_13 rfl ?_
  refine e_aload_n X dX9_copyAll_16 rfl rfl ?_
  refine ge_Town_reinsurer X gt wf_X9_23 dX9_copyAll_17 ?_
  refine e_aload_n X dX9_copyAll_20 rfl rfl ?_
  refine ge_Town_reinsurer X gt1 wf_X9_23 dX9_copyAll_21 ?_
  obtain ⟨z3, h_z3, hF⟩ := bindT_out hF
  refine e_callVv X (σ1 := z3) [.ref (Γ.1 + (t1 + 5))] [] (by rw [h_z3]; exact C_Row_copyAll (Cx_gok X) z2 (t + 5) 8 (t1 + 5) 8 gt.2.2.2.1 gt1.2.2.2.1) gv_X9_58 yk_X6_copyAll rfl (ent_lt gt.2.2.2.1.1) (ent_at gt.2.2.2.1.1 _) (rfl : vCl[6]? = some (RX6, TX6, 1)) ⟨Nat.le_of_ble_eq_true rfl, Nat.le_of_ble_eq_true rfl⟩ ⟨Nat.le_of_ble_eq_true rfl, Nat.le_of_ble_eq_true rfl⟩ (Nat.le_of_ble_eq_true rfl) dX9_copyAll_24 rfl ?_
  refine e_aload_n X dX9_copyAll_27 rfl rfl ?_
  refine ge_Town_likings X gt wf_X9_26 dX9_copyAll_28 ?_
  refine e_aload_n X dX9_copyAll_31 rfl rfl ?_
  refine ge_Town_likings X gt1 wf_X9_26 dX9_copyAll_32 ?_
  obtain ⟨z4, h_z4, hF⟩ := bindT_out hF
  refine e_callVv X (σ1 := z4) [.ref (Γ.1 + (t1 + 7))] [] (by rw [h_z4]; exact C_Row_copyAll (Cx_gok X) z3 (t + 7) 64 (t1 + 7) 64 gt.2.2.2.2.1 gt1.2.2.2.2.1) gv_X9_58 yk_X6_copyAll rfl (ent_lt gt.2.2.2.2.1.1) (ent_at gt.2.2.2.2.1.1 _) (rfl : vCl[6]? = some (RX6, TX6, 1)) ⟨Nat.le_of_ble_eq_true rfl, Nat.le_of_ble_eq_true rfl⟩ ⟨Nat.le_of_ble_eq_true rfl, Nat.le_of_ble_eq_true rfl⟩ (Nat.le_of_ble_eq_true rfl) dX9_copyAll_35 rfl ?_
  refine e_aload_n X dX9_copyAll_38 rfl rfl ?_
  refine ge_Town_both X gt wf_X9_29 dX9_copyAll_39 ?_
  refine e_aload_n X dX9_copyAll_42 rfl rfl ?_
  refine ge_Town_both X gt1 wf_X9_29 dX9_copyAll_43 ?_
  obtain ⟨z5, h_z5, hF⟩ := bindT_out hF
  refine e_callVv X (σ1 := z5) [.ref (Γ.1 + (t1 + 9))] [] (by rw [h_z5]; exact C_Row_copyAll (Cx_gok X) z4 (t + 9) 40 (t1 + 9) 40 gt.2.2.2.2.2.1 gt1.2.2.2.2.2.1) gv_X9_58 yk_X6_copyAll rfl (ent_lt gt.2.2.2.2.2.1.1) (ent_at gt.2.2.2.2.2.1.1 _) (rfl : vCl[6]? = some (RX6, TX6, 1)) ⟨Nat.le_of_ble_eq_true rfl, Nat.le_of_ble_eq_true rfl⟩ ⟨Nat.le_of_ble_eq_true rfl, Nat.le_of_ble_eq_true rfl⟩ (Nat.le_of_ble_eq_true rfl) dX9_copyAll_46 rfl ?_
  refine e_aload_n X dX9_copyAll_49 rfl rfl ?_
  refine ge_Town_happy X gt wf_X9_32 dX9_copyAll_50 ?_
  refine e_aload_n X dX9_copyAll_53 rfl rfl ?_
  refine ge_Town_happy X gt1 wf_X9_32 dX9_copyAll_54 ?_
  obtain ⟨z6, h_z6, hF⟩ := bindT_out hF
  refine e_callVv X (σ1 := z6) [.ref (Γ.1 + (t1 + 11))] [] (by rw [h_z6]; exact C_Row_copyAll (Cx_gok X) z5 (t + 11) 20 (t1 + 11) 20 gt.2.2.2.2.2.2.1 gt1.2.2.2.2.2.2.1) gv_X9_58 yk_X6_copyAll rfl (ent_lt gt.2.2.2.2.2.2.1.1) (ent_at gt.2.2.2.2.2.2.1.1 _) (rfl : vCl[6]? = some (RX6, TX6, 1)) ⟨Nat.le_of_ble_eq_true rfl, Nat.le_of_ble_eq_true rfl⟩ ⟨Nat.le_of_ble_eq_true rfl, Nat.le_of_ble_eq_true rfl⟩ (Nat.le_of_ble_eq_true rfl) dX9_copyAll_57 rfl ?_
  refine e_aload_n X dX9_copyAll_60 rfl rfl ?_
  refine ge_Town_monthsWed X gt wf_X9_35 dX9_copyAll_61 ?_
  refine e_aload_n X dX9_copyAll_64 rfl rfl ?_
  refine ge_Town_monthsWed X gt1 wf_X9_35 dX9_copyAll_65 ?_
  obtain ⟨z7, h_z7, hF⟩ := bindT_out hF
  refine e_callVv X (σ1 := z7) [.ref (Γ.1 + (t1 + 13))] [] (by rw [h_z7]; exact C_Row_copyAll (Cx_gok X) z6 (t + 13) 20 (t1 + 13) 20 gt.2.2.2.2.2.2.2.1 gt1.2.2.2.2.2.2.2.1) gv_X9_58 yk_X6_copyAll rfl (ent_lt gt.2.2.2.2.2.2.2.1.1) (ent_at gt.2.2.2.2.2.2.2.1.1 _) (rfl : vCl[6]? = some (RX6, TX6, 1)) ⟨Nat.le_of_ble_eq_true rfl, Nat.le_of_ble_eq_true rfl⟩ ⟨Nat.le_of_ble_eq_true rfl, Nat.le_of_ble_eq_true rfl⟩ (Nat.le_of_ble_eq_true rfl) dX9_copyAll_68 rfl ?_
  refine e_aload_n X dX9_copyAll_71 rfl rfl ?_
  refine ge_Town_logCells X gt wf_X9_38 dX9_copyAll_72 ?_
  refine e_aload_n X dX9_copyAll_75 rfl rfl ?_
  refine ge_Town_logCells X gt1 wf_X9_38 dX9_copyAll_76 ?_
  obtain ⟨z8, h_z8, hF⟩ := bindT_out hF
  refine e_callVv X (σ1 := z8) [.ref (Γ.1 + (t1 + 15))] [] (by rw [h_z8]; exact C_Row_copyAll (Cx_gok X) z7 (t + 15) 240 (t1 + 15) 240 gt.2.2.2.2.2.2.2.2 gt1.2.2.2.2.2.2.2.2) gv_X9_58 yk_X6_copyAll rfl (ent_lt gt.2.2.2.2.2.2.2.2.1) (ent_at gt.2.2.2.2.2.2.2.2.1 _) (rfl : vCl[6]? = some (RX6, TX6, 1)) ⟨Nat.le_of_ble_eq_true rfl, Nat.le_of_ble_eq_true rfl⟩ ⟨Nat.le_of_ble_eq_true rfl, Nat.le_of_ble_eq_true rfl⟩ (Nat.le_of_ble_eq_true rfl) dX9_copyAll_79 rfl ?_
  refine e_aload_n X dX9_copyAll_82 rfl rfl ?_
  refine e_aload_n X dX9_copyAll_83 rfl rfl ?_
  refine ge_Town_people X gt1 wf_X9_62 dX9_copyAll_84 ?_
  obtain ⟨σ9, h_σ9, hF⟩ := bindT_out hF
  refine pu_Town_people X gt wf_X9_62 dX9_copyAll_87 h_σ9 ?_
  refine e_aload_n X dX9_copyAll_90 rfl rfl ?_
  refine e_aload_n X dX9_copyAll_91 rfl rfl ?_
  refine ge_Town_matches X gt1 wf_X9_65 dX9_copyAll_92 ?_
  obtain ⟨σ10, h_σ10, hF⟩ := bindT_out hF
  refine pu_Town_matches X gt wf_X9_65 dX9_copyAll_95 h_σ10 ?_
  refine e_aload_n X dX9_copyAll_98 rfl rfl ?_
  refine e_aload_n X dX9_copyAll_99 rfl rfl ?_
  refine ge_Town_over X gt1 wf_X9_68 dX9_copyAll_100 ?_
  obtain ⟨σ11, h_σ11, hF⟩ := bindT_out hF
  refine pu_Town_over X gt wf_X9_68 dX9_copyAll_103 h_σ11 ?_
  refine e_aload_n X dX9_copyAll_106 rfl rfl ?_
  refine e_aload_n X dX9_copyAll_107 rfl rfl ?_
  refine ge_Town_bar X gt1 wf_X9_41 dX9_copyAll_108 ?_
  obtain ⟨σ12, h_σ12, hF⟩ := bindT_out hF
  refine pu_Town_bar X gt wf_X9_41 dX9_copyAll_111 h_σ12 ?_
  refine e_aload_n X dX9_copyAll_114 rfl rfl ?_
  refine e_aload_n X dX9_copyAll_115 rfl rfl ?_
  refine ge_Town_premium X gt1 wf_X9_45 dX9_copyAll_116 ?_
  obtain ⟨σ13, h_σ13, hF⟩ := bindT_out hF
  refine pu_Town_premium X gt wf_X9_45 dX9_copyAll_119 h_σ13 ?_
  refine e_aload_n X dX9_copyAll_122 rfl rfl ?_
  refine e_aload_n X dX9_copyAll_123 rfl rfl ?_
  refine ge_Town_pays X gt1 wf_X9_48 dX9_copyAll_124 ?_
  obtain ⟨σ14, h_σ14, hF⟩ := bindT_out hF
  refine pu_Town_pays X gt wf_X9_48 dX9_copyAll_127 h_σ14 ?_
  refine e_aload_n X dX9_copyAll_130 rfl rfl ?_
  refine e_aload_n X dX9_copyAll_131 rfl rfl ?_
  refine ge_Town_month X gt1 wf_X9_71 dX9_copyAll_132 ?_
  obtain ⟨σ15, h_σ15, hF⟩ := bindT_out hF
  refine pu_Town_month X gt wf_X9_71 dX9_copyAll_135 h_σ15 ?_
  refine e_aload_n X dX9_copyAll_138 rfl rfl ?_
  refine e_aload_n X dX9_copyAll_139 rfl rfl ?_
  refine ge_Town_quarrel X gt1 wf_X9_74 dX9_copyAll_140 ?_
  obtain ⟨σ16, h_σ16, hF⟩ := bindT_out hF
  refine pu_Town_quarrel X gt wf_X9_74 dX9_copyAll_143 h_σ16 ?_
  refine e_aload_n X dX9_copyAll_146 rfl rfl ?_
  refine e_aload_n X dX9_copyAll_147 rfl rfl ?_
  refine ge_Town_seed X gt1 wf_X9_51 dX9_copyAll_148 ?_
  obtain ⟨σ17, h_σ17, hF⟩ := bindT_out hF
  refine pu_Town_seed X gt wf_X9_51 dX9_copyAll_151 h_σ17 ?_
  refine e_aload_n X dX9_copyAll_154 rfl rfl ?_
  refine e_aload_n X dX9_copyAll_155 rfl rfl ?_
  refine ge_Town_texts X gt1 wf_X9_77 dX9_copyAll_156 ?_
  obtain ⟨σ18, h_σ18, hF⟩ := bindT_out hF
  refine pu_Town_texts X gt wf_X9_77 dX9_copyAll_159 h_σ18 ?_
  refine e_aload_n X dX9_copyAll_162 rfl rfl ?_
  refine e_aload_n X dX9_copyAll_163 rfl rfl ?_
  refine ge_Town_claims X gt1 wf_X9_80 dX9_copyAll_164 ?_
  obtain ⟨σ19, h_σ19, hF⟩ := bindT_out hF
  refine pu_Town_claims X gt wf_X9_80 dX9_copyAll_167 h_σ19 ?_
  exact e_vret X hr dX9_copyAll_170 (Nat.le_of_ble_eq_true rfl) (Nat.le_of_ble_eq_true rfl) (by cases hF; exact ⟨rfl, rfl⟩)
set_option maxRecDepth 20000 in
set_option maxHeartbeats 4000000 in
theorem C_Town_hasPerson (hG : Gok l Γ D s0) (σ : Mem) (t : Nat) (v1 : Int32) (gt : isTown t) : CT l Γ D s0 yX9_hasPerson cX9_hasPerson 2 (some .boolean) (0) 0 0 (0) σ [.ref (Γ.1 + t), .int v1] (PI (some (.int (F_Town_hasPerson σ t v1))) σ) := by
  generalize hF : F_Town_hasPerson σ t v1 = out
  unfold F_Town_hasPerson at hF
  refine e_met (own := RX9) hG (by decide +kernel) rfl rfl (Nat.le_of_ble_eq_true rfl) ?_
  intro p e s m args below meth c X hr
  show E p l e _ s m args below meth c Γ D 0 0 _ σ 0 [some (.ref (Γ.1 + t)), some (.int v1)] []
  refine e_iload_n X dX9_hasPerson_0 rfl rfl ?_
  refine e_if_lt X 16 dX9_hasPerson_1 (by decide) (fun c1 => ?_) (fun c1 => ?_)
  · skip
    rw [if_pos c1] at hF
    refine e_iconst X 0 dX9_hasPerson_16 rfl ?_
    exact e_zret X hr rfl dX9_hasPerson_17 (Nat.le_of_ble_eq_true rfl) (Nat.le_of_ble_eq_true rfl) (by cases hF; exact ⟨rfl, rfl⟩)
  · skip
    rw [if_neg c1] at hF
    refine e_iload_n X dX9_hasPerson_4 rfl rfl ?_
    refine e_aload_n X dX9_hasPerson_5 rfl rfl ?_
    refine ge_Town_people X gt wf_X9_62 dX9_hasPerson_6 ?_
    refine e_icmp_ge X 16 dX9_hasPerson_9 (by decide) (fun c2 => ?_) (fun c2 => ?_)
    · skip
      rw [if_neg c2] at hF
      refine e_iconst X 0 dX9_hasPerson_16 rfl ?_
      exact e_zret X hr rfl dX9_hasPerson_17 (Nat.le_of_ble_eq_true rfl) (Nat.le_of_ble_eq_true rfl) (by cases hF; exact ⟨rfl, rfl⟩)
    · skip
      rw [if_pos c2] at hF
      refine e_iconst X 1 dX9_hasPerson_12 rfl ?_
      refine e_goto X 17 dX9_hasPerson_13 (by decide) ?_
      exact e_zret X hr rfl dX9_hasPerson_17 (Nat.le_of_ble_eq_true rfl) (Nat.le_of_ble_eq_true rfl) (by cases hF; exact ⟨rfl, rfl⟩)
set_option maxRecDepth 20000 in
set_option maxHeartbeats 4000000 in
theorem C_Town_addPerson (hG : Gok l Γ D s0) (σ : Mem) (t : Nat) (v1 : Int32) (gt : isTown t) : CT l Γ D s0 yX9_addPerson cX9_addPerson 2 none (1) 0 0 (22) σ [.ref (Γ.1 + t), .int v1] (PI none (F_Town_addPerson σ t v1)) := by
  generalize hF : F_Town_addPerson σ t v1 = out
  unfold F_Town_addPerson at hF
  refine e_met (own := RX9) hG (by decide +kernel) rfl rfl (Nat.le_of_ble_eq_true rfl) ?_
  intro p e s m args below meth c X hr
  show E p l e _ s m args below meth c Γ D 0 0 _ σ 0 [some (.ref (Γ.1 + t)), some (.int v1)] []
  refine e_aload_n X dX9_addPerson_0 rfl rfl ?_
  refine ge_Town_wealth X gt wf_X9_14 dX9_addPerson_1 ?_
  refine e_aload_n X dX9_addPerson_4 rfl rfl ?_
  refine ge_Town_people X gt wf_X9_62 dX9_addPerson_5 ?_
  refine e_iload_n X dX9_addPerson_8 rfl rfl ?_
  obtain ⟨z1, h_z1, hF⟩ := bindT_out hF
  refine e_callVv X (σ1 := z1) [.int ((σ t 8)), .int v1] [] (by rw [h_z1]; exact C_Row_put (Cx_gok X) σ (t + 1) 8 ((σ t 8)) v1 gt.2.1) gv_X9_86 yk_X6_put rfl (ent_lt gt.2.1.1) (ent_at gt.2.1.1 _) (rfl : vCl[6]? = some (RX6, TX6, 1)) ⟨Nat.le_of_ble_eq_true rfl, Nat.le_of_ble_eq_true rfl⟩ ⟨Nat.le_of_ble_eq_true rfl, Nat.le_of_ble_eq_true rfl⟩ (Nat.le_of_ble_eq_true rfl) dX9_addPerson_9 rfl ?_
  refine e_aload_n X dX9_addPerson_12 rfl rfl ?_
  refine ge_Town_reinsurer X gt wf_X9_23 dX9_addPerson_13 ?_
  refine e_aload_n X dX9_addPerson_16 rfl rfl ?_
  refine ge_Town_people X gt wf_X9_62 dX9_addPerson_17 ?_
  refine e_iconst X (-1) dX9_addPerson_20 rfl ?_
  obtain ⟨z2, h_z2, hF⟩ := bindT_out hF
  refine e_callVv X (σ1 := z2) [.int ((z1 t 8)), .int ((-1))] [] (by rw [h_z2]; exact C_Row_put (Cx_gok X) z1 (t + 5) 8 ((z1 t 8)) ((-1)) gt.2.2.2.1) gv_X9_86 yk_X6_put rfl (ent_lt gt.2.2.2.1.1) (ent_at gt.2.2.2.1.1 _) (rfl : vCl[6]? = some (RX6, TX6, 1)) ⟨Nat.le_of_ble_eq_true rfl, Nat.le_of_ble_eq_true rfl⟩ ⟨Nat.le_of_ble_eq_true rfl, Nat.le_of_ble_eq_true rfl⟩ (Nat.le_of_ble_eq_true rfl) dX9_addPerson_21 rfl ?_
  refine e_aload_n X dX9_addPerson_24 rfl rfl ?_
  refine e_dup X dX9_addPerson_25 rfl ?_
  refine ge_Town_people X gt wf_X9_62 dX9_addPerson_26 ?_
  refine e_iconst X 1 dX9_addPerson_29 rfl ?_
  refine e_iadd X dX9_addPerson_30 ?_
  obtain ⟨σ3, h_σ3, hF⟩ := bindT_out hF
  refine pu_Town_people X gt wf_X9_62 dX9_addPerson_31 h_σ3 ?_
  exact e_vret X hr dX9_addPerson_34 (Nat.le_of_ble_eq_true rfl) (Nat.le_of_ble_eq_true rfl) (by cases hF; exact ⟨rfl, rfl⟩)
set_option maxRecDepth 20000 in
set_option maxHeartbeats 4000000 in
theorem C_Town_likingOf (hG : Gok l Γ D s0) (σ : Mem) (t : Nat) (v1 : Int32) (v2 : Int32) (gt : isTown t) : CT l Γ D s0 yX9_likingOf cX9_likingOf 3 (some .int) (1) 0 0 (21) σ [.ref (Γ.1 + t), .int v1, .int v2] (PI (some (.int (F_Town_likingOf σ t v1 v2))) σ) := by
  generalize hF : F_Town_likingOf σ t v1 v2 = out
  unfold F_Town_likingOf at hF
  refine e_met (own := RX9) hG (by decide +kernel) rfl rfl (Nat.le_of_ble_eq_true rfl) ?_
  intro p e s m args below meth c X hr
  show E p l e _ s m args below meth c Γ D 0 0 _ σ 0 [some (.ref (Γ.1 + t)), some (.int v1), some (.int v2)] []
  refine e_aload_n X dX9_likingOf_0 rfl rfl ?_
  refine ge_Town_likings X gt wf_X9_26 dX9_likingOf_1 ?_
  refine e_iload_n X dX9_likingOf_4 rfl rfl ?_
  refine e_bipush X 8 dX9_likingOf_5 rfl ?_
  refine e_imul X dX9_likingOf_7 ?_
  refine e_iload_n X dX9_likingOf_8 rfl rfl ?_
  refine e_iadd X dX9_likingOf_9 ?_
  refine e_callVi X (r := (F_Row_at σ (t + 7) 64 (((v1 * 8) + v2)))) (σ1 := σ) [.int (((v1 * 8) + v2))] [] (C_Row_at (Cx_gok X) σ (t + 7) 64 (((v1 * 8) + v2)) gt.2.2.2.2.1) gv_X9_90 yk_X6_at rfl (ent_lt gt.2.2.2.2.1.1) (ent_at gt.2.2.2.2.1.1 _) (rfl : vCl[6]? = some (RX6, TX6, 1)) ⟨Nat.le_of_ble_eq_true rfl, Nat.le_of_ble_eq_true rfl⟩ ⟨Nat.le_of_ble_eq_true rfl, Nat.le_of_ble_eq_true rfl⟩ (Nat.le_of_ble_eq_true rfl) dX9_likingOf_10 rfl ?_
  exact e_iret X hr dX9_likingOf_13 (Nat.le_of_ble_eq_true rfl) (Nat.le_of_ble_eq_true rfl) (by cases hF; exact ⟨rfl, rfl⟩)
set_option maxRecDepth 20000 in
set_option maxHeartbeats 4000000 in
theorem C_Town_setLiking (hG : Gok l Γ D s0) (σ : Mem) (t : Nat) (v1 : Int32) (v2 : Int32) (v3 : Int32) (gt : isTown t) : CT l Γ D s0 yX9_setLiking cX9_setLiking 4 none (1) 0 0 (22) σ [.ref (Γ.1 + t), .int v1, .int v2, .int v3] (PI none (F_Town_setLiking σ t v1 v2 v3)) := by
  generalize hF : F_Town_setLiking σ t v1 v2 v3 = out
  unfold F_Town_setLiking at hF
  refine e_met (own := RX9) hG (by decide +kernel) rfl rfl (Nat.le_of_ble_eq_true rfl) ?_
  intro p e s m args below meth c X hr
  show E p l e _ s m args below meth c Γ D 0 0 _ σ 0 [some (.ref (Γ.1 + t)), some (.int v1), some (.int v2), some (.int v3)] []
  refine e_aload_n X dX9_setLiking_0 rfl rfl ?_
  refine ge_Town_likings X gt wf_X9_26 dX9_setLiking_1 ?_
  refine e_iload_n X dX9_setLiking_4 rfl rfl ?_
  refine e_bipush X 8 dX9_setLiking_5 rfl ?_
  refine e_imul X dX9_setLiking_7 ?_
  refine e_iload_n X dX9_setLiking_8 rfl rfl ?_
  refine e_iadd X dX9_setLiking_9 ?_
  refine e_iload_n X dX9_setLiking_10 rfl rfl ?_
  obtain ⟨z1, h_z1, hF⟩ := bindT_out hF
  refine e_callVv X (σ1 := z1) [.int (((v1 * 8) + v2)), .int v3] [] (by rw [h_z1]; exact C_Row_put (Cx_gok X) σ (t + 7) 64 (((v1 * 8) + v2)) v3 gt.2.2.2.2.1) gv_X9_86 yk_X6_put rfl (ent_lt gt.2.2.2.2.1.1) (ent_at gt.2.2.2.2.1.1 _) (rfl : vCl[6]? = some (RX6, TX6, 1)) ⟨Nat.le_of_ble_eq_true rfl, Nat.le_of_ble_eq_true rfl⟩ ⟨Nat.le_of_ble_eq_true rfl, Nat.le_of_ble_eq_true rfl⟩ (Nat.le_of_ble_eq_true rfl) dX9_setLiking_11 rfl ?_
  exact e_vret X hr dX9_setLiking_14 (Nat.le_of_ble_eq_true rfl) (Nat.le_of_ble_eq_true rfl) (by cases hF; exact ⟨rfl, rfl⟩)
set_option maxRecDepth 20000 in
set_option maxHeartbeats 4000000 in
theorem C_Town_addAsked (hG : Gok l Γ D s0) (σ : Mem) (t : Nat) (v1 : Int32) (v2 : Int32) (gt : isTown t) : CT l Γ D s0 yX9_addAsked cX9_addAsked 4 (some .boolean) (1) 0 0 (22) σ [.ref (Γ.1 + t), .int v1, .int v2] (PI (some (.int (F_Town_addAsked σ t v1 v2).2)) (F_Town_addAsked σ t v1 v2).1) := by
  generalize hF : F_Town_addAsked σ t v1 v2 = out
  unfold F_Town_addAsked at hF
  refine e_met (own := RX9) hG (by decide +kernel) rfl rfl (Nat.le_of_ble_eq_true rfl) ?_
  intro p e s m args below meth c X hr
  show E p l e _ s m args below meth c Γ D 0 0 _ σ 0 [some (.ref (Γ.1 + t)), some (.int v1), some (.int v2), none] []
  refine e_aload_n X dX9_addAsked_0 rfl rfl ?_
  refine ge_Town_asked X gt wf_X9_20 dX9_addAsked_1 ?_
  refine e_iload_n X dX9_addAsked_4 rfl rfl ?_
  refine e_callVi X (r := (F_Row_at σ (t + 3) 8 v1)) (σ1 := σ) [.int v1] [] (C_Row_at (Cx_gok X) σ (t + 3) 8 v1 gt.2.2.1) gv_X9_90 yk_X6_at rfl (ent_lt gt.2.2.1.1) (ent_at gt.2.2.1.1 _) (rfl : vCl[6]? = some (RX6, TX6, 1)) ⟨Nat.le_of_ble_eq_true rfl, Nat.le_of_ble_eq_true rfl⟩ ⟨Nat.le_of_ble_eq_true rfl, Nat.le_of_ble_eq_true rfl⟩ (Nat.le_of_ble_eq_true rfl) dX9_addAsked_5 rfl ?_
  obtain ⟨x1, h_x1, hF⟩ := bindT_out hF
  refine e_istore_n X h_x1 dX9_addAsked_8 rfl (by decide) ?_
  refine e_aload_n X dX9_addAsked_9 rfl rfl ?_
  refine ge_Town_asked X gt wf_X9_20 dX9_addAsked_10 ?_
  refine e_iload_n X dX9_addAsked_13 rfl rfl ?_
  refine e_iload_n X dX9_addAsked_14 rfl rfl ?_
  refine e_iconst X 1 dX9_addAsked_15 rfl ?_
  refine e_iload_n X dX9_addAsked_16 rfl rfl ?_
  refine e_ishl X dX9_addAsked_17 ?_
  refine e_ior X dX9_addAsked_18 ?_
  obtain ⟨z2, h_z2, hF⟩ := bindT_out hF
  refine e_callVv X (σ1 := z2) [.int v1, .int ((x1 ||| ((1 : Int32) <<< ((v2 : Int32) &&& 31))))] [] (by rw [h_z2]; exact C_Row_put (Cx_gok X) σ (t + 3) 8 v1 ((x1 ||| ((1 : Int32) <<< ((v2 : Int32) &&& 31)))) gt.2.2.1) gv_X9_86 yk_X6_put rfl (ent_lt gt.2.2.1.1) (ent_at gt.2.2.1.1 _) (rfl : vCl[6]? = some (RX6, TX6, 1)) ⟨Nat.le_of_ble_eq_true rfl, Nat.le_of_ble_eq_true rfl⟩ ⟨Nat.le_of_ble_eq_true rfl, Nat.le_of_ble_eq_true rfl⟩ (Nat.le_of_ble_eq_true rfl) dX9_addAsked_19 rfl ?_
  refine e_iload_n X dX9_addAsked_22 rfl rfl ?_
  refine e_iload_n X dX9_addAsked_23 rfl rfl ?_
  refine e_callSNi X (r := (F_W_contains z2 x1 v2)) (σ1 := z2) (host := RX11) [.int x1, .int v2] [] (C_W_contains (Cx_gok X) z2 x1 v2) gb_X11_contains (by decide +kernel) wz_X11 ws_X11_contains yk_X11_contains.2 rfl ⟨Nat.le_of_ble_eq_true rfl, Nat.le_of_ble_eq_true rfl⟩ ⟨Nat.le_of_ble_eq_true rfl, Nat.le_of_ble_eq_true rfl⟩ (Nat.le_of_ble_eq_true rfl) dX9_addAsked_24 rfl ?_
  refine e_if_ne X 34 dX9_addAsked_27 (by decide) (fun c3 => ?_) (fun c3 => ?_)
  · skip
    rw [if_neg c3] at hF
    refine e_iconst X 0 dX9_addAsked_34 rfl ?_
    exact e_zret X hr rfl dX9_addAsked_35 (Nat.le_of_ble_eq_true rfl) (Nat.le_of_ble_eq_true rfl) (by cases hF; exact ⟨rfl, rfl⟩)
  · skip
    rw [if_pos c3] at hF
    refine e_iconst X 1 dX9_addAsked_30 rfl ?_
    refine e_goto X 35 dX9_addAsked_31 (by decide) ?_
    exact e_zret X hr rfl dX9_addAsked_35 (Nat.le_of_ble_eq_true rfl) (Nat.le_of_ble_eq_true rfl) (by cases hF; exact ⟨rfl, rfl⟩)
set_option maxRecDepth 20000 in
set_option maxHeartbeats 4000000 in
theorem L_Town_askersOf_4 (X : Cx p l s m args meth c Γ D s0 RX9 cX9_askersOf 4) (hr : meth.sig.returnType = (some .int)) (σ : Mem) (t : Nat) (v1 : Int32) (gt : isTown t) : ∀ (n : Nat) (v3 : Int32) (v2 : Int32) {z : Int32}, forS (fun i s => F_Town_askersOf_4_b σ t v1 i s) n v3 v2 = z → n = cnt v3 ((σ t 8)) → ¬ v3 < 0 → (E p l e ({ frames := 1, cells := 0, slots := 0, locals := 21 } : Room) s m args below meth c Γ D 0 0 (MQ below (QcA Γ D Pst) args s 0 0 (frB Γ)) σ 39 [some (.ref (Γ.1 + t)), some (.int v1), some (.int z), none] []) → E p l e ({ frames := 1, cells := 0, slots := 0, locals := 21 } : Room) s m args below meth c Γ D 0 0 (MQ below (QcA Γ D Pst) args s 0 0 (frB Γ)) σ 4 [some (.ref (Γ.1 + t)), some (.int v1), some (.int v2), some (.int v3)] [] := by
  intro n
  induction n with
  | zero =>
    intro v3 v2 z hF hn h0 hK
    refine e_iload_n X dX9_askersOf_4 rfl rfl ?_
    refine e_aload_n X dX9_askersOf_5 rfl rfl ?_
    refine ge_Town_people X gt wf_X9_62 dX9_askersOf_6 ?_
    refine e_icmp_ge X 39 dX9_askersOf_9 (by decide) (fun c4 => ?_) (fun c4 => ?_)
    · skip
      have hz9 := hF; change (v2) = z at hz9; subst hz9
      exact e_le hK (And.intro rfl (And.intro rfl (And.intro rfl (trivial))))
    · skip
      exact absurd c4 (cnt0 hn)
  | succ n ih =>
    intro v3 v2 z hF hn h0 hK
    obtain ⟨y9, hB, hF⟩ := forS_step hF
    change F_Town_askersOf_4_b σ t v1 v3 v2 = y9 at hB
    unfold F_Town_askersOf_4_b at hB
    refine e_iload_n X dX9_askersOf_4 rfl rfl ?_
    refine e_aload_n X dX9_askersOf_5 rfl rfl ?_
    refine ge_Town_people X gt wf_X9_62 dX9_askersOf_6 ?_
    refine e_icmp_ge X 39 dX9_askersOf_9 (by decide) (fun c1 => ?_) (fun c1 => ?_)
    · skip
      exact absurd (cntS hn) c1
    · skip
      refine e_aload_n X dX9_askersOf_12 rfl rfl ?_
      refine ge_Town_asked X gt wf_X9_20 dX9_askersOf_13 ?_
      refine e_iload_n X dX9_askersOf_16 rfl rfl ?_
      refine e_callVi X (r := (F_Row_at σ (t + 3) 8 v3)) (σ1 := σ) [.int v3] [] (C_Row_at (Cx_gok X) σ (t + 3) 8 v3 gt.2.2.1) gv_X9_90 yk_X6_at rfl (ent_lt gt.2.2.1.1) (ent_at gt.2.2.1.1 _) (rfl : vCl[6]? = some (RX6, TX6, 1)) ⟨Nat.le_of_ble_eq_true rfl, Nat.le_of_ble_eq_true rfl⟩ ⟨Nat.le_of_ble_eq_true rfl, Nat.le_of_ble_eq_true rfl⟩ (Nat.le_of_ble_eq_true rfl) dX9_askersOf_17 rfl ?_
      refine e_iload_n X dX9_askersOf_20 rfl rfl ?_
      refine e_callSNi X (r := (F_W_contains σ ((F_Row_at σ (t + 3) 8 v3)) v1)) (σ1 := σ) (host := RX11) [.int ((F_Row_at σ (t + 3) 8 v3)), .int v1] [] (C_W_contains (Cx_gok X) σ ((F_Row_at σ (t + 3) 8 v3)) v1) gb_X11_contains (by decide +kernel) wz_X11 ws_X11_contains yk_X11_contains.2 rfl ⟨Nat.le_of_ble_eq_true rfl, Nat.le_of_ble_eq_true rfl⟩ ⟨Nat.le_of_ble_eq_true rfl, Nat.le_of_ble_eq_true rfl⟩ (Nat.le_of_ble_eq_true rfl) dX9_askersOf_21 rfl ?_
      refine e_if_eq X 33 dX9_askersOf_24 (by decide) (fun c2 => ?_) (fun c2 => ?_)
      · skip
        rw [if_pos c2] at hB
        refine e_iinc X 1 dX9_askersOf_33 rfl rfl (by decide) ?_
        refine e_goto X 4 dX9_askersOf_36 (by decide) ?_
        have hy9 := hB; change (v2) = y9 at hy9; subst hy9
        exact e_le (ih _ v2 hF (cntN hn) (nnN h0 (cnt_hi hn)) hK) (And.intro rfl (And.intro rfl (And.intro rfl (And.intro rfl (trivial)))))
      · skip
        rw [if_neg c2] at hB
        refine e_iload_n X dX9_askersOf_27 rfl rfl ?_
        refine e_iconst X 1 dX9_askersOf_28 rfl ?_
        refine e_iload_n X dX9_askersOf_29 rfl rfl ?_
        refine e_ishl X dX9_askersOf_30 ?_
        refine e_ior X dX9_askersOf_31 ?_
        obtain ⟨x3, h_x3, hB⟩ := bindT_out hB
        refine e_istore_n X h_x3 dX9_askersOf_32 rfl (by decide) ?_
        refine e_iinc X 1 dX9_askersOf_33 rfl rfl (by decide) ?_
        refine e_goto X 4 dX9_askersOf_36 (by decide) ?_
        have hy9 := hB; change (x3) = y9 at hy9; subst hy9
        exact e_le (ih _ x3 hF (cntN hn) (nnN h0 (cnt_hi hn)) hK) (And.intro rfl (And.intro rfl (And.intro rfl (And.intro rfl (trivial)))))
set_option maxRecDepth 20000 in
set_option maxHeartbeats 4000000 in
theorem C_Town_askersOf (hG : Gok l Γ D s0) (σ : Mem) (t : Nat) (v1 : Int32) (gt : isTown t) : CT l Γ D s0 yX9_askersOf cX9_askersOf 4 (some .int) (1) 0 0 (21) σ [.ref (Γ.1 + t), .int v1] (PI (some (.int (F_Town_askersOf σ t v1))) σ) := by
  generalize hF : F_Town_askersOf σ t v1 = out
  unfold F_Town_askersOf at hF
  refine e_met (own := RX9) hG (by decide +kernel) rfl rfl (Nat.le_of_ble_eq_true rfl) ?_
  intro p e s m args below meth c X hr
  show E p l e _ s m args below meth c Γ D 0 0 _ σ 0 [some (.ref (Γ.1 + t)), some (.int v1), none, none] []
  refine e_iconst X 0 dX9_askersOf_0 rfl ?_
  refine e_istore_n X rfl dX9_askersOf_1 rfl (by decide) ?_
  refine e_iconst X 0 dX9_askersOf_2 rfl ?_
  refine e_istore_n X rfl dX9_askersOf_3 rfl (by decide) ?_
  obtain ⟨z5, h_z5, hF⟩ := bindT_out hF
  refine e_le (L_Town_askersOf_4 X hr σ t v1 gt _ 0 0 h_z5.symm rfl (by decide) ?_) (And.intro rfl (And.intro rfl (And.intro rfl (And.intro rfl (trivial)))))
  refine e_iload_n X dX9_askersOf_39 rfl rfl ?_
  exact e_iret X hr dX9_askersOf_40 (Nat.le_of_ble_eq_true rfl) (Nat.le_of_ble_eq_true rfl) (by cases hF; exact ⟨rfl, rfl⟩)
set_option maxRecDepth 20000 in
set_option maxHeartbeats 4000000 in
theorem C_Town_isRuined (hG : Gok l Γ D s0) (σ : Mem) (t : Nat) (v1 : Int32) (gt : isTown t) : CT l Γ D s0 yX9_isRuined cX9_isRuined 2 (some .boolean) (0) 0 0 (0) σ [.ref (Γ.1 + t), .int v1] (PI (some (.int (F_Town_isRuined σ t v1))) σ) := by
  generalize hF : F_Town_isRuined σ t v1 = out
  unfold F_Town_isRuined at hF
  refine e_met (own := RX9) hG (by decide +kernel) rfl rfl (Nat.le_of_ble_eq_true rfl) ?_
  intro p e s m args below meth c X hr
  show E p l e _ s m args below meth c Γ D 0 0 _ σ 0 [some (.ref (Γ.1 + t)), some (.int v1)] []
  refine e_aload_n X dX9_isRuined_0 rfl rfl ?_
  refine ge_Town_ruined X gt wf_X9_83 dX9_isRuined_1 ?_
  refine e_iload_n X dX9_isRuined_4 rfl rfl ?_
  refine e_ishr X dX9_isRuined_5 ?_
  refine e_iconst X 1 dX9_isRuined_6 rfl ?_
  refine e_iand X dX9_isRuined_7 ?_
  refine e_if_eq X 15 dX9_isRuined_8 (by decide) (fun c1 => ?_) (fun c1 => ?_)
  · skip
    rw [if_pos c1] at hF
    refine e_iconst X 0 dX9_isRuined_15 rfl ?_
    exact e_zret X hr rfl dX9_isRuined_16 (Nat.le_of_ble_eq_true rfl) (Nat.le_of_ble_eq_true rfl) (by cases hF; exact ⟨rfl, rfl⟩)
  · skip
    rw [if_neg c1] at hF
    refine e_iconst X 1 dX9_isRuined_11 rfl ?_
    refine e_goto X 16 dX9_isRuined_12 (by decide) ?_
    exact e_zret X hr rfl dX9_isRuined_16 (Nat.le_of_ble_eq_true rfl) (Nat.le_of_ble_eq_true rfl) (by cases hF; exact ⟨rfl, rfl⟩)
set_option maxRecDepth 20000 in
set_option maxHeartbeats 4000000 in
theorem L_Town_wealthOfAll_4 (X : Cx p l s m args meth c Γ D s0 RX9 cX9_wealthOfAll 3) (hr : meth.sig.returnType = (some .int)) (σ : Mem) (t : Nat) (gt : isTown t) : ∀ (n : Nat) (v2 : Int32) (v1 : Int32) {z : Int32}, forS (fun i s => F_Town_wealthOfAll_4_b σ t i s) n v2 v1 = z → n = cnt v2 ((σ t 8)) → ¬ v2 < 0 → (E p l e ({ frames := 1, cells := 0, slots := 0, locals := 21 } : Room) s m args below meth c Γ D 0 0 (MQ below (QcA Γ D Pst) args s 0 0 (frB Γ)) σ 29 [some (.ref (Γ.1 + t)), some (.int z), none] []) → E p l e ({ frames := 1, cells := 0, slots := 0, locals := 21 } : Room) s m args below meth c Γ D 0 0 (MQ below (QcA Γ D Pst) args s 0 0 (frB Γ)) σ 4 [some (.ref (Γ.1 + t)), some (.int v1), some (.int v2)] [] := by
  intro n
  induction n with
  | zero =>
    intro v2 v1 z hF hn h0 hK
    refine e_iload_n X dX9_wealthOfAll_4 rfl rfl ?_
    refine e_aload_n X dX9_wealthOfAll_5 rfl rfl ?_
    refine ge_Town_people X gt wf_X9_62 dX9_wealthOfAll_6 ?_
    refine e_icmp_ge X 29 dX9_wealthOfAll_9 (by decide) (fun c3 => ?_) (fun c3 => ?_)
    · skip
      have hz9 := hF; change (v1) = z at hz9; subst hz9
      exact e_le hK (And.intro rfl (And.intro rfl (trivial)))
    · skip
      exact absurd c3 (cnt0 hn)
  | succ n ih =>
    intro v2 v1 z hF hn h0 hK
    obtain ⟨y9, hB, hF⟩ := forS_step hF
    change F_Town_wealthOfAll_4_b σ t v2 v1 = y9 at hB
    unfold F_Town_wealthOfAll_4_b at hB
    refine e_iload_n X dX9_wealthOfAll_4 rfl rfl ?_
    refine e_aload_n X dX9_wealthOfAll_5 rfl rfl ?_
    refine ge_Town_people X gt wf_X9_62 dX9_wealthOfAll_6 ?_
    refine e_icmp_ge X 29 dX9_wealthOfAll_9 (by decide) (fun c1 => ?_) (fun c1 => ?_)
    · skip
      exact absurd (cntS hn) c1
    · skip
      refine e_iload_n X dX9_wealthOfAll_12 rfl rfl ?_
      refine e_aload_n X dX9_wealthOfAll_13 rfl rfl ?_
      refine ge_Town_wealth X gt wf_X9_14 dX9_wealthOfAll_14 ?_
      refine e_iload_n X dX9_wealthOfAll_17 rfl rfl ?_
      refine e_callVi X (r := (F_Row_at σ (t + 1) 8 v2)) (σ1 := σ) [.int v2] [.int v1] (C_Row_at (Cx_gok X) σ (t + 1) 8 v2 gt.2.1) gv_X9_90 yk_X6_at rfl (ent_lt gt.2.1.1) (ent_at gt.2.1.1 _) (rfl : vCl[6]? = some (RX6, TX6, 1)) ⟨Nat.le_of_ble_eq_true rfl, Nat.le_of_ble_eq_true rfl⟩ ⟨Nat.le_of_ble_eq_true rfl, Nat.le_of_ble_eq_true rfl⟩ (Nat.le_of_ble_eq_true rfl) dX9_wealthOfAll_18 rfl ?_
      refine e_iadd X dX9_wealthOfAll_21 ?_
      obtain ⟨x2, h_x2, hB⟩ := bindT_out hB
      refine e_istore_n X h_x2 dX9_wealthOfAll_22 rfl (by decide) ?_
      refine e_iinc X 1 dX9_wealthOfAll_23 rfl rfl (by decide) ?_
      refine e_goto X 4 dX9_wealthOfAll_26 (by decide) ?_
      have hy9 := hB; change (x2) = y9 at hy9; subst hy9
      exact e_le (ih _ x2 hF (cntN hn) (nnN h0 (cnt_hi hn)) hK) (And.intro rfl (And.intro rfl (And.intro rfl (trivial))))
set_option maxRecDepth 20000 in
set_option maxHeartbeats 4000000 in
theorem C_Town_wealthOfAll (hG : Gok l Γ D s0) (σ : Mem) (t : Nat) (gt : isTown t) : CT l Γ D s0 yX9_wealthOfAll cX9_wealthOfAll 3 (some .int) (1) 0 0 (21) σ [.ref (Γ.1 + t)] (PI (some (.int (F_Town_wealthOfAll σ t))) σ) := by
  generalize hF : F_Town_wealthOfAll σ t = out
  unfold F_Town_wealthOfAll at hF
  refine e_met (own := RX9) hG (by decide +kernel) rfl rfl (Nat.le_of_ble_eq_true rfl) ?_
  intro p e s m args below meth c X hr
  show E p l e _ s m args below meth c Γ D 0 0 _ σ 0 [some (.ref (Γ.1 + t)), none, none] []
  refine e_iconst X 0 dX9_wealthOfAll_0 rfl ?_
  refine e_istore_n X rfl dX9_wealthOfAll_1 rfl (by decide) ?_
  refine e_iconst X 0 dX9_wealthOfAll_2 rfl ?_
  refine e_istore_n X rfl dX9_wealthOfAll_3 rfl (by decide) ?_
  obtain ⟨z4, h_z4, hF⟩ := bindT_out hF
  refine e_le (L_Town_wealthOfAll_4 X hr σ t gt _ 0 0 h_z4.symm rfl (by decide) ?_) (And.intro rfl (And.intro rfl (And.intro rfl (trivial))))
  refine e_iload_n X dX9_wealthOfAll_29 rfl rfl ?_
  exact e_iret X hr dX9_wealthOfAll_30 (Nat.le_of_ble_eq_true rfl) (Nat.le_of_ble_eq_true rfl) (by cases hF; exact ⟨rfl, rfl⟩)
set_option maxRecDepth 20000 in
set_option maxHeartbeats 4000000 in
theorem C_Town_shareOf (hG : Gok l Γ D s0) (σ : Mem) (t : Nat) (v1 : Int32) (gt : isTown t) : CT l Γ D s0 yX9_shareOf cX9_shareOf 3 (some .int) (2) 0 0 (43) σ [.ref (Γ.1 + t), .int v1] (PI (some (.int (F_Town_shareOf σ t v1))) σ) := by
  generalize hF : F_Town_shareOf σ t v1 = out
  unfold F_Town_shareOf at hF
  refine e_met (own := RX9) hG (by decide +kernel) rfl rfl (Nat.le_of_ble_eq_true rfl) ?_
  intro p e s m args below meth c X hr
  show E p l e _ s m args below meth c Γ D 0 0 _ σ 0 [some (.ref (Γ.1 + t)), some (.int v1), none] []
  refine e_aload_n X dX9_shareOf_0 rfl rfl ?_
  refine e_callVi X (r := (F_Town_wealthOfAll σ t)) (σ1 := σ) [] [] (C_Town_wealthOfAll (Cx_gok X) σ t gt) gv_X9_98 yk_X9_wealthOfAll rfl (ent_lt gt.1) (ent_at gt.1 _) (rfl : vCl[8]? = some (RX9, TX9, 20)) ⟨Nat.le_of_ble_eq_true rfl, Nat.le_of_ble_eq_true rfl⟩ ⟨Nat.le_of_ble_eq_true rfl, Nat.le_of_ble_eq_true rfl⟩ (Nat.le_of_ble_eq_true rfl) dX9_shareOf_1 rfl ?_
  obtain ⟨x1, h_x1, hF⟩ := bindT_out hF
  refine e_istore_n X h_x1 dX9_shareOf_4 rfl (by decide) ?_
  refine e_iload_n X dX9_shareOf_5 rfl rfl ?_
  refine e_if_gt X 13 dX9_shareOf_6 (by decide) (fun c2 => ?_) (fun c2 => ?_)
  · skip
    rw [if_pos c2] at hF
    refine e_aload_n X dX9_shareOf_13 rfl rfl ?_
    refine ge_Town_wealth X gt wf_X9_14 dX9_shareOf_14 ?_
    refine e_iload_n X dX9_shareOf_17 rfl rfl ?_
    refine e_callVi X (r := (F_Row_at σ (t + 1) 8 v1)) (σ1 := σ) [.int v1] [] (C_Row_at (Cx_gok X) σ (t + 1) 8 v1 gt.2.1) gv_X9_90 yk_X6_at rfl (ent_lt gt.2.1.1) (ent_at gt.2.1.1 _) (rfl : vCl[6]? = some (RX6, TX6, 1)) ⟨Nat.le_of_ble_eq_true rfl, Nat.le_of_ble_eq_true rfl⟩ ⟨Nat.le_of_ble_eq_true rfl, Nat.le_of_ble_eq_true rfl⟩ (Nat.le_of_ble_eq_true rfl) dX9_shareOf_18 rfl ?_
    refine e_bipush X 100 dX9_shareOf_21 rfl ?_
    refine e_imul X dX9_shareOf_23 ?_
    refine e_iload_n X dX9_shareOf_24 rfl rfl ?_
    refine e_idiv X dX9_shareOf_25 (pos_ne c2) ?_
    exact e_iret X hr dX9_shareOf_26 (Nat.le_of_ble_eq_true rfl) (Nat.le_of_ble_eq_true rfl) (by cases hF; exact ⟨rfl, rfl⟩)
  · skip
    rw [if_neg c2] at hF
    refine e_iconst X 0 dX9_shareOf_9 rfl ?_
    refine e_goto X 26 dX9_shareOf_10 (by decide) ?_
    exact e_iret X hr dX9_shareOf_26 (Nat.le_of_ble_eq_true rfl) (Nat.le_of_ble_eq_true rfl) (by cases hF; exact ⟨rfl, rfl⟩)
set_option maxRecDepth 20000 in
set_option maxHeartbeats 4000000 in
theorem L_Town_richestPerson_4 (X : Cx p l s m args meth c Γ D s0 RX9 cX9_richestPerson 3) (hr : meth.sig.returnType = (some .int)) (σ : Mem) (t : Nat) (gt : isTown t) : ∀ (n : Nat) (v2 : Int32) (v1 : Int32) {z : Int32}, forS (fun i s => F_Town_richestPerson_4_b σ t i s) n v2 v1 = z → n = cnt v2 ((σ t 8)) → ¬ v2 < 0 → (E p l e ({ frames := 1, cells := 0, slots := 0, locals := 21 } : Room) s m args below meth c Γ D 0 0 (MQ below (QcA Γ D Pst) args s 0 0 (frB Γ)) σ 52 [some (.ref (Γ.1 + t)), some (.int z), none] []) → E p l e ({ frames := 1, cells := 0, slots := 0, locals := 21 } : Room) s m args below meth c Γ D 0 0 (MQ below (QcA Γ D Pst) args s 0 0 (frB Γ)) σ 4 [some (.ref (Γ.1 + t)), some (.int v1), some (.int v2)] [] := by
  intro n
  induction n with
  | zero =>
    intro v2 v1 z hF hn h0 hK
    refine e_iload_n X dX9_richestPerson_4 rfl rfl ?_
    refine e_aload_n X dX9_richestPerson_5 rfl rfl ?_
    refine ge_Town_people X gt wf_X9_62 dX9_richestPerson_6 ?_
    refine e_icmp_ge X 52 dX9_richestPerson_9 (by decide) (fun c5 => ?_) (fun c5 => ?_)
    · skip
      have hz9 := hF; change (v1) = z at hz9; subst hz9
      exact e_le hK (And.intro rfl (And.intro rfl (trivial)))
    · skip
      exact absurd c5 (cnt0 hn)
  | succ n ih =>
    intro v2 v1 z hF hn h0 hK
    obtain ⟨y9, hB, hF⟩ := forS_step hF
    change F_Town_richestPerson_4_b σ t v2 v1 = y9 at hB
    unfold F_Town_richestPerson_4_b at hB
    refine e_iload_n X dX9_richestPerson_4 rfl rfl ?_
    refine e_aload_n X dX9_richestPerson_5 rfl rfl ?_
    refine ge_Town_people X gt wf_X9_62 dX9_richestPerson_6 ?_
    refine e_icmp_ge X 52 dX9_richestPerson_9 (by decide) (fun c1 => ?_) (fun c1 => ?_)
    · skip
      exact absurd (cntS hn) c1
    · skip
      refine e_aload_n X dX9_richestPerson_12 rfl rfl ?_
      refine e_iload_n X dX9_richestPerson_13 rfl rfl ?_
      refine e_callVi X (r := (F_Town_isRuined σ t v2)) (σ1 := σ) [.int v2] [] (C_Town_isRuined (Cx_gok X) σ t v2 gt) gv_X9_102 yk_X9_isRuined rfl (ent_lt gt.1) (ent_at gt.1 _) (rfl : vCl[8]? = some (RX9, TX9, 20)) ⟨Nat.le_of_ble_eq_true rfl, Nat.le_of_ble_eq_true rfl⟩ ⟨Nat.le_of_ble_eq_true rfl, Nat.le_of_ble_eq_true rfl⟩ (Nat.le_of_ble_eq_true rfl) dX9_richestPerson_14 rfl ?_
      refine e_if_ne X 46 dX9_richestPerson_17 (by decide) (fun c2 => ?_) (fun c2 => ?_)
      · skip
        rw [if_neg c2] at hB
        refine e_iinc X 1 dX9_richestPerson_46 rfl rfl (by decide) ?_
        refine e_goto X 4 dX9_richestPerson_49 (by decide) ?_
        have hy9 := hB; change (v1) = y9 at hy9; subst hy9
        exact e_le (ih _ v1 hF (cntN hn) (nnN h0 (cnt_hi hn)) hK) (And.intro rfl (And.intro rfl (And.intro rfl (trivial))))
      · skip
        rw [if_pos c2] at hB
        refine e_iload_n X dX9_richestPerson_20 rfl rfl ?_
        refine e_iconst X (-1) dX9_richestPerson_21 rfl ?_
        refine e_icmp_eq X 44 dX9_richestPerson_22 (by decide) (fun c3 => ?_) (fun c3 => ?_)
        · skip
          rw [if_pos c3] at hB
          refine e_iload_n X dX9_richestPerson_44 rfl rfl ?_
          refine e_istore_n X rfl dX9_richestPerson_45 rfl (by decide) ?_
          refine e_iinc X 1 dX9_richestPerson_46 rfl rfl (by decide) ?_
          refine e_goto X 4 dX9_richestPerson_49 (by decide) ?_
          have hy9 := hB; change (v2) = y9 at hy9; subst hy9
          exact e_le (ih _ v2 hF (cntN hn) (nnN h0 (cnt_hi hn)) hK) (And.intro rfl (And.intro rfl (And.intro rfl (trivial))))
        · skip
          rw [if_neg c3] at hB
          refine e_aload_n X dX9_richestPerson_25 rfl rfl ?_
          refine ge_Town_wealth X gt wf_X9_14 dX9_richestPerson_26 ?_
          refine e_iload_n X dX9_richestPerson_29 rfl rfl ?_
          refine e_callVi X (r := (F_Row_at σ (t + 1) 8 v2)) (σ1 := σ) [.int v2] [] (C_Row_at (Cx_gok X) σ (t + 1) 8 v2 gt.2.1) gv_X9_90 yk_X6_at rfl (ent_lt gt.2.1.1) (ent_at gt.2.1.1 _) (rfl : vCl[6]? = some (RX6, TX6, 1)) ⟨Nat.le_of_ble_eq_true rfl, Nat.le_of_ble_eq_true rfl⟩ ⟨Nat.le_of_ble_eq_true rfl, Nat.le_of_ble_eq_true rfl⟩ (Nat.le_of_ble_eq_true rfl) dX9_richestPerson_30 rfl ?_
          refine e_aload_n X dX9_richestPerson_33 rfl rfl ?_
          refine ge_Town_wealth X gt wf_X9_14 dX9_richestPerson_34 ?_
          refine e_iload_n X dX9_richestPerson_37 rfl rfl ?_
          refine e_callVi X (r := (F_Row_at σ (t + 1) 8 v1)) (σ1 := σ) [.int v1] [.int ((F_Row_at σ (t + 1) 8 v2))] (C_Row_at (Cx_gok X) σ (t + 1) 8 v1 gt.2.1) gv_X9_90 yk_X6_at rfl (ent_lt gt.2.1.1) (ent_at gt.2.1.1 _) (rfl : vCl[6]? = some (RX6, TX6, 1)) ⟨Nat.le_of_ble_eq_true rfl, Nat.le_of_ble_eq_true rfl⟩ ⟨Nat.le_of_ble_eq_true rfl, Nat.le_of_ble_eq_true rfl⟩ (Nat.le_of_ble_eq_true rfl) dX9_richestPerson_38 rfl ?_
          refine e_icmp_le X 46 dX9_richestPerson_41 (by decide) (fun c4 => ?_) (fun c4 => ?_)
          · skip
            rw [if_neg c4] at hB
            refine e_iinc X 1 dX9_richestPerson_46 rfl rfl (by decide) ?_
            refine e_goto X 4 dX9_richestPerson_49 (by decide) ?_
            have hy9 := hB; change (v1) = y9 at hy9; subst hy9
            exact e_le (ih _ v1 hF (cntN hn) (nnN h0 (cnt_hi hn)) hK) (And.intro rfl (And.intro rfl (And.intro rfl (trivial))))
          · skip
            rw [if_pos c4] at hB
            refine e_iload_n X dX9_richestPerson_44 rfl rfl ?_
            refine e_istore_n X rfl dX9_richestPerson_45 rfl (by decide) ?_
            refine e_iinc X 1 dX9_richestPerson_46 rfl rfl (by decide) ?_
            refine e_goto X 4 dX9_richestPerson_49 (by decide) ?_
            have hy9 := hB; change (v2) = y9 at hy9; subst hy9
            exact e_le (ih _ v2 hF (cntN hn) (nnN h0 (cnt_hi hn)) hK) (And.intro rfl (And.intro rfl (And.intro rfl (trivial))))
set_option maxRecDepth 20000 in
set_option maxHeartbeats 4000000 in
theorem C_Town_richestPerson (hG : Gok l Γ D s0) (σ : Mem) (t : Nat) (gt : isTown t) : CT l Γ D s0 yX9_richestPerson cX9_richestPerson 3 (some .int) (1) 0 0 (21) σ [.ref (Γ.1 + t)] (PI (some (.int (F_Town_richestPerson σ t))) σ) := by
  generalize hF : F_Town_richestPerson σ t = out
  unfold F_Town_richestPerson at hF
  refine e_met (own := RX9) hG (by decide +kernel) rfl rfl (Nat.le_of_ble_eq_true rfl) ?_
  intro p e s m args below meth c X hr
  show E p l e _ s m args below meth c Γ D 0 0 _ σ 0 [some (.ref (Γ.1 + t)), none, none] []
  refine e_iconst X (-1) dX9_richestPerson_0 rfl ?_
  refine e_istore_n X rfl dX9_richestPerson_1 rfl (by decide) ?_
  refine e_iconst X 0 dX9_richestPerson_2 rfl ?_
  refine e_istore_n X rfl dX9_richestPerson_3 rfl (by decide) ?_
  obtain ⟨z6, h_z6, hF⟩ := bindT_out hF
  refine e_le (L_Town_richestPerson_4 X hr σ t gt _ 0 ((-1)) h_z6.symm rfl (by decide) ?_) (And.intro rfl (And.intro rfl (And.intro rfl (trivial))))
  refine e_iload_n X dX9_richestPerson_52 rfl rfl ?_
  exact e_iret X hr dX9_richestPerson_53 (Nat.le_of_ble_eq_true rfl) (Nat.le_of_ble_eq_true rfl) (by cases hF; exact ⟨rfl, rfl⟩)
set_option maxRecDepth 20000 in
set_option maxHeartbeats 4000000 in
theorem L_Town_ringSteps_11 (X : Cx p l s m args meth c Γ D s0 RX9 cX9_ringSteps 4) (hr : meth.sig.returnType = (some .int)) (σ : Mem) (t : Nat) (v1 : Int32) (gt : isTown t) : ∀ (n : Nat) (v2 : Int32) (v3 : Int32) {z : (Int32 × Int32) ⊕ (Int32)}, whl (fun s => F_Town_ringSteps_11_b σ t v1 s.1 s.2) n (v2, v3) = some z → (sumP z (fun s9 => E p l e ({ frames := 1, cells := 0, slots := 0, locals := 21 } : Room) s m args below meth c Γ D 0 0 (MQ below (QcA Γ D Pst) args s 0 0 (frB Γ)) σ 46 [some (.ref (Γ.1 + t)), some (.int v1), some (.int s9.1), some (.int s9.2)] []) (fun r9 => Pst (some (.int r9)) σ)) → E p l e ({ frames := 1, cells := 0, slots := 0, locals := 21 } : Room) s m args below meth c Γ D 0 0 (MQ below (QcA Γ D Pst) args s 0 0 (frB Γ)) σ 11 [some (.ref (Γ.1 + t)), some (.int v1), some (.int v2), some (.int v3)] [] := by
  intro n
  induction n with
  | zero =>
    intro v2 v3 z hF hK
    cases hF
  | succ n ih =>
    intro v2 v3 z hF hK
    obtain ⟨y9, hB, hF⟩ := whl_step hF
    change F_Town_ringSteps_11_b σ t v1 v2 v3 = some y9 at hB
    unfold F_Town_ringSteps_11_b at hB
    refine e_iload_n X dX9_ringSteps_11 rfl rfl ?_
    refine e_aload_n X dX9_ringSteps_12 rfl rfl ?_
    refine ge_Town_people X gt wf_X9_62 dX9_ringSteps_13 ?_
    refine e_icmp_gt X 46 dX9_ringSteps_16 (by decide) (fun c2 => ?_) (fun c2 => ?_)
    · skip
      rw [if_pos c2] at hB
      have hy9 := Option.some.inj hB; change (.inr (.inl ((v2, v3)))) = y9 at hy9; subst hy9
      have hz9 := Option.some.inj hF; change (.inl ((v2, v3))) = z at hz9; subst hz9
      exact e_le hK (And.intro rfl (And.intro rfl (And.intro rfl (And.intro rfl (trivial)))))
    · skip
      rw [if_neg c2] at hB
      refine e_iload_n X dX9_ringSteps_19 rfl rfl ?_
      refine e_iconst X (-1) dX9_ringSteps_20 rfl ?_
      refine e_icmp_eq X 46 dX9_ringSteps_21 (by decide) (fun c3 => ?_) (fun c3 => ?_)
      · skip
        rw [if_pos c3] at hB
        have hy9 := Option.some.inj hB; change (.inr (.inl ((v2, v3)))) = y9 at hy9; subst hy9
        have hz9 := Option.some.inj hF; change (.inl ((v2, v3))) = z at hz9; subst hz9
        exact e_le hK (And.intro rfl (And.intro rfl (And.intro rfl (And.intro rfl (trivial)))))
      · skip
        rw [if_neg c3] at hB
        refine e_iload_n X dX9_ringSteps_24 rfl rfl ?_
        refine e_iload_n X dX9_ringSteps_25 rfl rfl ?_
        refine e_icmp_ne X 31 dX9_ringSteps_26 (by decide) (fun c4 => ?_) (fun c4 => ?_)
        · skip
          rw [if_neg c4] at hB
          refine e_aload_n X dX9_ringSteps_31 rfl rfl ?_
          refine ge_Town_reinsurer X gt wf_X9_23 dX9_ringSteps_32 ?_
          refine e_iload_n X dX9_ringSteps_35 rfl rfl ?_
          refine e_callVi X (r := (F_Row_at σ (t + 5) 8 v2)) (σ1 := σ) [.int v2] [] (C_Row_at (Cx_gok X) σ (t + 5) 8 v2 gt.2.2.2.1) gv_X9_90 yk_X6_at rfl (ent_lt gt.2.2.2.1.1) (ent_at gt.2.2.2.1.1 _) (rfl : vCl[6]? = some (RX6, TX6, 1)) ⟨Nat.le_of_ble_eq_true rfl, Nat.le_of_ble_eq_true rfl⟩ ⟨Nat.le_of_ble_eq_true rfl, Nat.le_of_ble_eq_true rfl⟩ (Nat.le_of_ble_eq_true rfl) dX9_ringSteps_36 rfl ?_
          obtain ⟨x5, h_x5, hB⟩ := bindT_out hB
          refine e_istore_n X h_x5 dX9_ringSteps_39 rfl (by decide) ?_
          refine e_iinc X 1 dX9_ringSteps_40 rfl rfl (by decide) ?_
          obtain ⟨x6, h_x6, hB⟩ := bindT_out hB
          rw [← h_x6]
          refine e_goto X 11 dX9_ringSteps_43 (by decide) ?_
          have hy9 := Option.some.inj hB; change (.inl ((x5, x6))) = y9 at hy9; subst hy9
          exact e_le (ih x5 x6 hF hK) (And.intro rfl (And.intro rfl (And.intro rfl (And.intro rfl (trivial)))))
        · skip
          rw [if_pos c4] at hB
          refine e_iload_n X dX9_ringSteps_29 rfl rfl ?_
          have hy9 := Option.some.inj hB; change (.inr (.inr v3)) = y9 at hy9; subst hy9
          have hz9 := Option.some.inj hF; change (.inr v3) = z at hz9; subst hz9
          exact e_iret X hr dX9_ringSteps_30 (Nat.le_of_ble_eq_true rfl) (Nat.le_of_ble_eq_true rfl) hK
set_option maxRecDepth 20000 in
set_option maxHeartbeats 4000000 in
theorem C_Town_ringSteps (hG : Gok l Γ D s0) (σ : Mem) (t : Nat) (v1 : Int32) (gt : isTown t) {out : Int32} (hF : F_Town_ringSteps σ t v1 = some out) : CT l Γ D s0 yX9_ringSteps cX9_ringSteps 4 (some .int) (1) 0 0 (21) σ [.ref (Γ.1 + t), .int v1] (PI (some (.int out)) σ) := by
  unfold F_Town_ringSteps at hF
  refine e_met (own := RX9) hG (by decide +kernel) rfl rfl (Nat.le_of_ble_eq_true rfl) ?_
  intro p e s m args below meth c X hr
  show E p l e _ s m args below meth c Γ D 0 0 _ σ 0 [some (.ref (Γ.1 + t)), some (.int v1), none, none] []
  refine e_aload_n X dX9_ringSteps_0 rfl rfl ?_
  refine ge_Town_reinsurer X gt wf_X9_23 dX9_ringSteps_1 ?_
  refine e_iload_n X dX9_ringSteps_4 rfl rfl ?_
  refine e_callVi X (r := (F_Row_at σ (t + 5) 8 v1)) (σ1 := σ) [.int v1] [] (C_Row_at (Cx_gok X) σ (t + 5) 8 v1 gt.2.2.2.1) gv_X9_90 yk_X6_at rfl (ent_lt gt.2.2.2.1.1) (ent_at gt.2.2.2.1.1 _) (rfl : vCl[6]? = some (RX6, TX6, 1)) ⟨Nat.le_of_ble_eq_true rfl, Nat.le_of_ble_eq_true rfl⟩ ⟨Nat.le_of_ble_eq_true rfl, Nat.le_of_ble_eq_true rfl⟩ (Nat.le_of_ble_eq_true rfl) dX9_ringSteps_5 rfl ?_
  obtain ⟨x1, h_x1, hF⟩ := bindT_out hF
  refine e_istore_n X h_x1 dX9_ringSteps_8 rfl (by decide) ?_
  refine e_iconst X 1 dX9_ringSteps_9 rfl ?_
  refine e_istore_n X rfl dX9_ringSteps_10 rfl (by decide) ?_
  obtain ⟨z7, h_z7, hF⟩ := obind_out hF
  refine e_le (L_Town_ringSteps_11 X hr σ t v1 gt _ x1 1 h_z7 ?_) (And.intro rfl (And.intro rfl (And.intro rfl (And.intro rfl (trivial)))))
  cases z7 with
  | inl s8 =>
    replace hF := hF
    rw [sumE] at hF
    show E p l e _ s m args below meth c Γ D _ _ _ _ _ _ _
    refine e_iconst X (-1) dX9_ringSteps_46 rfl ?_
    exact e_iret X hr dX9_ringSteps_47 (Nat.le_of_ble_eq_true rfl) (Nat.le_of_ble_eq_true rfl) (by cases hF; exact ⟨rfl, rfl⟩)
  | inr r9 =>
    rw [sumE] at hF
    cases hF
    exact ⟨rfl, rfl⟩
set_option maxRecDepth 20000 in
set_option maxHeartbeats 4000000 in
theorem L_Town_isLeastOfRing_11 (X : Cx p l s m args meth c Γ D s0 RX9 cX9_isLeastOfRing 4) (hr : meth.sig.returnType = (some .boolean)) (σ : Mem) (t : Nat) (v1 : Int32) (gt : isTown t) : ∀ (n : Nat) (v2 : Int32) (v3 : Int32) {z : (Int32 × Int32) ⊕ (Int32)}, whl (fun s => F_Town_isLeastOfRing_11_b σ t v1 s.1 s.2) n (v2, v3) = some z → (sumP z (fun s9 => E p l e ({ frames := 1, cells := 0, slots := 0, locals := 21 } : Room) s m args below meth c Γ D 0 0 (MQ below (QcA Γ D Pst) args s 0 0 (frB Γ)) σ 51 [some (.ref (Γ.1 + t)), some (.int v1), some (.int s9.1), some (.int s9.2)] []) (fun r9 => Pst (some (.int r9)) σ)) → E p l e ({ frames := 1, cells := 0, slots := 0, locals := 21 } : Room) s m args below meth c Γ D 0 0 (MQ below (QcA Γ D Pst) args s 0 0 (frB Γ)) σ 11 [some (.ref (Γ.1 + t)), some (.int v1), some (.int v2), some (.int v3)] [] := by
  intro n
  induction n with
  | zero =>
    intro v2 v3 z hF hK
    cases hF
  | succ n ih =>
    intro v2 v3 z hF hK
    obtain ⟨y9, hB, hF⟩ := whl_step hF
    change F_Town_isLeastOfRing_11_b σ t v1 v2 v3 = some y9 at hB
    unfold F_Town_isLeastOfRing_11_b at hB
    refine e_iload_n X dX9_isLeastOfRing_11 rfl rfl ?_
    refine e_aload_n X dX9_isLeastOfRing_12 rfl rfl ?_
    refine ge_Town_people X gt wf_X9_62 dX9_isLeastOfRing_13 ?_
    refine e_icmp_gt X 51 dX9_isLeastOfRing_16 (by decide) (fun c2 => ?_) (fun c2 => ?_)
    · skip
      rw [if_pos c2] at hB
      have hy9 := Option.some.inj hB; change (.inr (.inl ((v2, v3)))) = y9 at hy9; subst hy9
      have hz9 := Option.some.inj hF; change (.inl ((v2, v3))) = z at hz9; subst hz9
      exact e_le hK (And.intro rfl (And.intro rfl (And.intro rfl (And.intro rfl (trivial)))))
    · skip
      rw [if_neg c2] at hB
      refine e_iload_n X dX9_isLeastOfRing_19 rfl rfl ?_
      refine e_iconst X (-1) dX9_isLeastOfRing_20 rfl ?_
      refine e_icmp_eq X 51 dX9_isLeastOfRing_21 (by decide) (fun c3 => ?_) (fun c3 => ?_)
      · skip
        rw [if_pos c3] at hB
        have hy9 := Option.some.inj hB; change (.inr (.inl ((v2, v3)))) = y9 at hy9; subst hy9
        have hz9 := Option.some.inj hF; change (.inl ((v2, v3))) = z at hz9; subst hz9
        exact e_le hK (And.intro rfl (And.intro rfl (And.intro rfl (And.intro rfl (trivial)))))
      · skip
        rw [if_neg c3] at hB
        refine e_iload_n X dX9_isLeastOfRing_24 rfl rfl ?_
        refine e_iload_n X dX9_isLeastOfRing_25 rfl rfl ?_
        refine e_icmp_eq X 51 dX9_isLeastOfRing_26 (by decide) (fun c4 => ?_) (fun c4 => ?_)
        · skip
          rw [if_pos c4] at hB
          have hy9 := Option.some.inj hB; change (.inr (.inl ((v2, v3)))) = y9 at hy9; subst hy9
          have hz9 := Option.some.inj hF; change (.inl ((v2, v3))) = z at hz9; subst hz9
          exact e_le hK (And.intro rfl (And.intro rfl (And.intro rfl (And.intro rfl (trivial)))))
        · skip
          rw [if_neg c4] at hB
          refine e_iload_n X dX9_isLeastOfRing_29 rfl rfl ?_
          refine e_iload_n X dX9_isLeastOfRing_30 rfl rfl ?_
          refine e_icmp_ge X 36 dX9_isLeastOfRing_31 (by decide) (fun c5 => ?_) (fun c5 => ?_)
          · skip
            rw [if_neg c5] at hB
            refine e_aload_n X dX9_isLeastOfRing_36 rfl rfl ?_
            refine ge_Town_reinsurer X gt wf_X9_23 dX9_isLeastOfRing_37 ?_
            refine e_iload_n X dX9_isLeastOfRing_40 rfl rfl ?_
            refine e_callVi X (r := (F_Row_at σ (t + 5) 8 v2)) (σ1 := σ) [.int v2] [] (C_Row_at (Cx_gok X) σ (t + 5) 8 v2 gt.2.2.2.1) gv_X9_90 yk_X6_at rfl (ent_lt gt.2.2.2.1.1) (ent_at gt.2.2.2.1.1 _) (rfl : vCl[6]? = some (RX6, TX6, 1)) ⟨Nat.le_of_ble_eq_true rfl, Nat.le_of_ble_eq_true rfl⟩ ⟨Nat.le_of_ble_eq_true rfl, Nat.le_of_ble_eq_true rfl⟩ (Nat.le_of_ble_eq_true rfl) dX9_isLeastOfRing_41 rfl ?_
            obtain ⟨x6, h_x6, hB⟩ := bindT_out hB
            refine e_istore_n X h_x6 dX9_isLeastOfRing_44 rfl (by decide) ?_
            refine e_iinc X 1 dX9_isLeastOfRing_45 rfl rfl (by decide) ?_
            obtain ⟨x7, h_x7, hB⟩ := bindT_out hB
            rw [← h_x7]
            refine e_goto X 11 dX9_isLeastOfRing_48 (by decide) ?_
            have hy9 := Option.some.inj hB; change (.inl ((x6, x7))) = y9 at hy9; subst hy9
            exact e_le (ih x6 x7 hF hK) (And.intro rfl (And.intro rfl (And.intro rfl (And.intro rfl (trivial)))))
          · skip
            rw [if_pos c5] at hB
            refine e_iconst X 0 dX9_isLeastOfRing_34 rfl ?_
            have hy9 := Option.some.inj hB; change (.inr (.inr 0)) = y9 at hy9; subst hy9
            have hz9 := Option.some.inj hF; change (.inr 0) = z at hz9; subst hz9
            exact e_zret X hr rfl dX9_isLeastOfRing_35 (Nat.le_of_ble_eq_true rfl) (Nat.le_of_ble_eq_true rfl) hK
set_option maxRecDepth 20000 in
set_option maxHeartbeats 4000000 in
theorem C_Town_isLeastOfRing (hG : Gok l Γ D s0) (σ : Mem) (t : Nat) (v1 : Int32) (gt : isTown t) {out : Int32} (hF : F_Town_isLeastOfRing σ t v1 = some out) : CT l Γ D s0 yX9_isLeastOfRing cX9_isLeastOfRing 4 (some .boolean) (1) 0 0 (21) σ [.ref (Γ.1 + t), .int v1] (PI (some (.int out)) σ) := by
  unfold F_Town_isLeastOfRing at hF
  refine e_met (own := RX9) hG (by decide +kernel) rfl rfl (Nat.le_of_ble_eq_true rfl) ?_
  intro p e s m args below meth c X hr
  show E p l e _ s m args below meth c Γ D 0 0 _ σ 0 [some (.ref (Γ.1 + t)), some (.int v1), none, none] []
  refine e_aload_n X dX9_isLeastOfRing_0 rfl rfl ?_
  refine ge_Town_reinsurer X gt wf_X9_23 dX9_isLeastOfRing_1 ?_
  refine e_iload_n X dX9_isLeastOfRing_4 rfl rfl ?_
  refine e_callVi X (r := (F_Row_at σ (t + 5) 8 v1)) (σ1 := σ) [.int v1] [] (C_Row_at (Cx_gok X) σ (t + 5) 8 v1 gt.2.2.2.1) gv_X9_90 yk_X6_at rfl (ent_lt gt.2.2.2.1.1) (ent_at gt.2.2.2.1.1 _) (rfl : vCl[6]? = some (RX6, TX6, 1)) ⟨Nat.le_of_ble_eq_true rfl, Nat.le_of_ble_eq_true rfl⟩ ⟨Nat.le_of_ble_eq_true rfl, Nat.le_of_ble_eq_true rfl⟩ (Nat.le_of_ble_eq_true rfl) dX9_isLeastOfRing_5 rfl ?_
  obtain ⟨x1, h_x1, hF⟩ := bindT_out hF
  refine e_istore_n X h_x1 dX9_isLeastOfRing_8 rfl (by decide) ?_
  refine e_iconst X 1 dX9_isLeastOfRing_9 rfl ?_
  refine e_istore_n X rfl dX9_isLeastOfRing_10 rfl (by decide) ?_
  obtain ⟨z8, h_z8, hF⟩ := obind_out hF
  refine e_le (L_Town_isLeastOfRing_11 X hr σ t v1 gt _ x1 1 h_z8 ?_) (And.intro rfl (And.intro rfl (And.intro rfl (And.intro rfl (trivial)))))
  cases z8 with
  | inl s9 =>
    replace hF := hF
    rw [sumE] at hF
    show E p l e _ s m args below meth c Γ D _ _ _ _ _ _ _
    refine e_iconst X 1 dX9_isLeastOfRing_51 rfl ?_
    exact e_zret X hr rfl dX9_isLeastOfRing_52 (Nat.le_of_ble_eq_true rfl) (Nat.le_of_ble_eq_true rfl) (by cases hF; exact ⟨rfl, rfl⟩)
  | inr r10 =>
    rw [sumE] at hF
    cases hF
    exact ⟨rfl, rfl⟩
set_option maxRecDepth 20000 in
set_option maxHeartbeats 4000000 in
theorem L_Town_ringCount_4 (X : Cx p l s m args meth c Γ D s0 RX9 cX9_ringCount 3) (hr : meth.sig.returnType = (some .int)) (σ : Mem) (t : Nat) (gt : isTown t) : ∀ (n : Nat) (v2 : Int32) (v1 : Int32) {z : Int32}, forSO (fun i s => F_Town_ringCount_4_b σ t i s) n v2 v1 = some z → n = cnt v2 ((σ t 8)) → ¬ v2 < 0 → (E p l e ({ frames := 2, cells := 0, slots := 0, locals := 44 } : Room) s m args below meth c Γ D 0 0 (MQ below (QcA Γ D Pst) args s 0 0 (frB Γ)) σ 38 [some (.ref (Γ.1 + t)), some (.int z), none] []) → E p l e ({ frames := 2, cells := 0, slots := 0, locals := 44 } : Room) s m args below meth c Γ D 0 0 (MQ below (QcA Γ D Pst) args s 0 0 (frB Γ)) σ 4 [some (.ref (Γ.1 + t)), some (.int v1), some (.int v2)] [] := by
  intro n
  induction n with
  | zero =>
    intro v2 v1 z hF hn h0 hK
    refine e_iload_n X dX9_ringCount_4 rfl rfl ?_
    refine e_aload_n X dX9_ringCount_5 rfl rfl ?_
    refine ge_Town_people X gt wf_X9_62 dX9_ringCount_6 ?_
    refine e_icmp_ge X 38 dX9_ringCount_9 (by decide) (fun c7 => ?_) (fun c7 => ?_)
    · skip
      have hz9 := Option.some.inj hF; change (v1) = z at hz9; subst hz9
      exact e_le hK (And.intro rfl (And.intro rfl (trivial)))
    · skip
      exact absurd c7 (cnt0 hn)
  | succ n ih =>
    intro v2 v1 z hF hn h0 hK
    obtain ⟨y9, hB, hF⟩ := forSO_step hF
    change F_Town_ringCount_4_b σ t v2 v1 = some y9 at hB
    unfold F_Town_ringCount_4_b at hB
    refine e_iload_n X dX9_ringCount_4 rfl rfl ?_
    refine e_aload_n X dX9_ringCount_5 rfl rfl ?_
    refine ge_Town_people X gt wf_X9_62 dX9_ringCount_6 ?_
    refine e_icmp_ge X 38 dX9_ringCount_9 (by decide) (fun c1 => ?_) (fun c1 => ?_)
    · skip
      exact absurd (cntS hn) c1
    · skip
      refine e_aload_n X dX9_ringCount_12 rfl rfl ?_
      refine e_iload_n X dX9_ringCount_13 rfl rfl ?_
      obtain ⟨z2, h_z2, hB⟩ := obind_out hB
      refine e_callVi X (r := z2) (σ1 := σ) [.int v2] [] (C_Town_ringSteps (Cx_gok X) σ t v2 gt h_z2) gv_X9_106 yk_X9_ringSteps rfl (ent_lt gt.1) (ent_at gt.1 _) (rfl : vCl[8]? = some (RX9, TX9, 20)) ⟨Nat.le_of_ble_eq_true rfl, Nat.le_of_ble_eq_true rfl⟩ ⟨Nat.le_of_ble_eq_true rfl, Nat.le_of_ble_eq_true rfl⟩ (Nat.le_of_ble_eq_true rfl) dX9_ringCount_14 rfl ?_
      refine e_iconst X (-1) dX9_ringCount_17 rfl ?_
      refine e_icmp_eq X 32 dX9_ringCount_18 (by decide) (fun c3 => ?_) (fun c3 => ?_)
      · skip
        rw [if_pos c3] at hB
        refine e_iinc X 1 dX9_ringCount_32 rfl rfl (by decide) ?_
        refine e_goto X 4 dX9_ringCount_35 (by decide) ?_
        have hy9 := Option.some.inj hB; change (v1) = y9 at hy9; subst hy9
        exact e_le (ih _ v1 hF (cntN hn) (nnN h0 (cnt_hi hn)) hK) (And.intro rfl (And.intro rfl (And.intro rfl (trivial))))
      · skip
        rw [if_neg c3] at hB
        refine e_aload_n X dX9_ringCount_21 rfl rfl ?_
        refine e_iload_n X dX9_ringCount_22 rfl rfl ?_
        obtain ⟨z4, h_z4, hB⟩ := obind_out hB
        refine e_callVi X (r := z4) (σ1 := σ) [.int v2] [] (C_Town_isLeastOfRing (Cx_gok X) σ t v2 gt h_z4) gv_X9_109 yk_X9_isLeastOfRing rfl (ent_lt gt.1) (ent_at gt.1 _) (rfl : vCl[8]? = some (RX9, TX9, 20)) ⟨Nat.le_of_ble_eq_true rfl, Nat.le_of_ble_eq_true rfl⟩ ⟨Nat.le_of_ble_eq_true rfl, Nat.le_of_ble_eq_true rfl⟩ (Nat.le_of_ble_eq_true rfl) dX9_ringCount_23 rfl ?_
        refine e_if_eq X 32 dX9_ringCount_26 (by decide) (fun c5 => ?_) (fun c5 => ?_)
        · skip
          rw [if_pos c5] at hB
          refine e_iinc X 1 dX9_ringCount_32 rfl rfl (by decide) ?_
          refine e_goto X 4 dX9_ringCount_35 (by decide) ?_
          have hy9 := Option.some.inj hB; change (v1) = y9 at hy9; subst hy9
          exact e_le (ih _ v1 hF (cntN hn) (nnN h0 (cnt_hi hn)) hK) (And.intro rfl (And.intro rfl (And.intro rfl (trivial))))
        · skip
          rw [if_neg c5] at hB
          refine e_iinc X 1 dX9_ringCount_29 rfl rfl (by decide) ?_
          obtain ⟨x6, h_x6, hB⟩ := bindT_out hB
          rw [← h_x6]
          refine e_iinc X 1 dX9_ringCount_32 rfl rfl (by decide) ?_
          refine e_goto X 4 dX9_ringCount_35 (by decide) ?_
          have hy9 := Option.some.inj hB; change (x6) = y9 at hy9; subst hy9
          exact e_le (ih _ x6 hF (cntN hn) (nnN h0 (cnt_hi hn)) hK) (And.intro rfl (And.intro rfl (And.intro rfl (trivial))))
set_option maxRecDepth 20000 in
set_option maxHeartbeats 4000000 in
theorem C_Town_ringCount (hG : Gok l Γ D s0) (σ : Mem) (t : Nat) (gt : isTown t) {out : Int32} (hF : F_Town_ringCount σ t = some out) : CT l Γ D s0 yX9_ringCount cX9_ringCount 3 (some .int) (2) 0 0 (44) σ [.ref (Γ.1 + t)] (PI (some (.int out)) σ) := by
  unfold F_Town_ringCount at hF
  refine e_met (own := RX9) hG (by decide +kernel) rfl rfl (Nat.le_of_ble_eq_true rfl) ?_
  intro p e s m args below meth c X hr
  show E p l e _ s m args below meth c Γ D 0 0 _ σ 0 [some (.ref (Γ.1 + t)), none, none] []
  refine e_iconst X 0 dX9_ringCount_0 rfl ?_
  refine e_istore_n X rfl dX9_ringCount_1 rfl (by decide) ?_
  refine e_iconst X 0 dX9_ringCount_2 rfl ?_
  refine e_istore_n X rfl dX9_ringCount_3 rfl (by decide) ?_
  obtain ⟨z8, h_z8, hF⟩ := obind_out hF
  refine e_le (L_Town_ringCount_4 X hr σ t gt _ 0 0 h_z8 rfl (by decide) ?_) (And.intro rfl (And.intro rfl (And.intro rfl (trivial))))
  refine e_iload_n X dX9_ringCount_38 rfl rfl ?_
  exact e_iret X hr dX9_ringCount_39 (Nat.le_of_ble_eq_true rfl) (Nat.le_of_ble_eq_true rfl) (by cases hF; exact ⟨rfl, rfl⟩)
set_option maxRecDepth 20000 in
set_option maxHeartbeats 4000000 in
theorem L_Town_comesTo_12 (X : Cx p l s m args meth c Γ D s0 RX9 cX9_comesTo 5) (hr : meth.sig.returnType = (some .boolean)) (σ : Mem) (t : Nat) (v1 : Int32) (v2 : Int32) (gt : isTown t) : ∀ (n : Nat) (v3 : Int32) (v4 : Int32) {z : (Int32 × Int32) ⊕ (Int32)}, whl (fun s => F_Town_comesTo_12_b σ t v1 v2 s.1 s.2) n (v3, v4) = some z → (sumP z (fun s9 => E p l e ({ frames := 1, cells := 0, slots := 0, locals := 21 } : Room) s m args below meth c Γ D 0 0 (MQ below (QcA Γ D Pst) args s 0 0 (frB Γ)) σ 48 [some (.ref (Γ.1 + t)), some (.int v1), some (.int v2), some (.int s9.1), some (.int s9.2)] []) (fun r9 => Pst (some (.int r9)) σ)) → E p l e ({ frames := 1, cells := 0, slots := 0, locals := 21 } : Room) s m args below meth c Γ D 0 0 (MQ below (QcA Γ D Pst) args s 0 0 (frB Γ)) σ 12 [some (.ref (Γ.1 + t)), some (.int v1), some (.int v2), some (.int v3), some (.int v4)] [] := by
  intro n
  induction n with
  | zero =>
    intro v3 v4 z hF hK
    cases hF
  | succ n ih =>
    intro v3 v4 z hF hK
    obtain ⟨y9, hB, hF⟩ := whl_step hF
    change F_Town_comesTo_12_b σ t v1 v2 v3 v4 = some y9 at hB
    unfold F_Town_comesTo_12_b at hB
    refine e_iload X dX9_comesTo_12 rfl ?_
    refine e_aload_n X dX9_comesTo_14 rfl rfl ?_
    refine ge_Town_people X gt wf_X9_62 dX9_comesTo_15 ?_
    refine e_icmp_gt X 48 dX9_comesTo_18 (by decide) (fun c2 => ?_) (fun c2 => ?_)
    · skip
      rw [if_pos c2] at hB
      have hy9 := Option.some.inj hB; change (.inr (.inl ((v3, v4)))) = y9 at hy9; subst hy9
      have hz9 := Option.some.inj hF; change (.inl ((v3, v4))) = z at hz9; subst hz9
      exact e_le hK (And.intro rfl (And.intro rfl (And.intro rfl (And.intro rfl (And.intro rfl (trivial))))))
    · skip
      rw [if_neg c2] at hB
      refine e_iload_n X dX9_comesTo_21 rfl rfl ?_
      refine e_iconst X (-1) dX9_comesTo_22 rfl ?_
      refine e_icmp_eq X 48 dX9_comesTo_23 (by decide) (fun c3 => ?_) (fun c3 => ?_)
      · skip
        rw [if_pos c3] at hB
        have hy9 := Option.some.inj hB; change (.inr (.inl ((v3, v4)))) = y9 at hy9; subst hy9
        have hz9 := Option.some.inj hF; change (.inl ((v3, v4))) = z at hz9; subst hz9
        exact e_le hK (And.intro rfl (And.intro rfl (And.intro rfl (And.intro rfl (And.intro rfl (trivial))))))
      · skip
        rw [if_neg c3] at hB
        refine e_iload_n X dX9_comesTo_26 rfl rfl ?_
        refine e_iload_n X dX9_comesTo_27 rfl rfl ?_
        refine e_icmp_ne X 33 dX9_comesTo_28 (by decide) (fun c4 => ?_) (fun c4 => ?_)
        · skip
          rw [if_neg c4] at hB
          refine e_aload_n X dX9_comesTo_33 rfl rfl ?_
          refine ge_Town_reinsurer X gt wf_X9_23 dX9_comesTo_34 ?_
          refine e_iload_n X dX9_comesTo_37 rfl rfl ?_
          refine e_callVi X (r := (F_Row_at σ (t + 5) 8 v3)) (σ1 := σ) [.int v3] [] (C_Row_at (Cx_gok X) σ (t + 5) 8 v3 gt.2.2.2.1) gv_X9_90 yk_X6_at rfl (ent_lt gt.2.2.2.1.1) (ent_at gt.2.2.2.1.1 _) (rfl : vCl[6]? = some (RX6, TX6, 1)) ⟨Nat.le_of_ble_eq_true rfl, Nat.le_of_ble_eq_true rfl⟩ ⟨Nat.le_of_ble_eq_true rfl, Nat.le_of_ble_eq_true rfl⟩ (Nat.le_of_ble_eq_true rfl) dX9_comesTo_38 rfl ?_
          obtain ⟨x5, h_x5, hB⟩ := bindT_out hB
          refine e_istore_n X h_x5 dX9_comesTo_41 rfl (by decide) ?_
          refine e_iinc X 1 dX9_comesTo_42 rfl rfl (by decide) ?_
          obtain ⟨x6, h_x6, hB⟩ := bindT_out hB
          rw [← h_x6]
          refine e_goto X 12 dX9_comesTo_45 (by decide) ?_
          have hy9 := Option.some.inj hB; change (.inl ((x5, x6))) = y9 at hy9; subst hy9
          exact e_le (ih x5 x6 hF hK) (And.intro rfl (And.intro rfl (And.intro rfl (And.intro rfl (And.intro rfl (trivial))))))
        · skip
          rw [if_pos c4] at hB
          refine e_iconst X 1 dX9_comesTo_31 rfl ?_
          have hy9 := Option.some.inj hB; change (.inr (.inr 1)) = y9 at hy9; subst hy9
          have hz9 := Option.some.inj hF; change (.inr 1) = z at hz9; subst hz9
          exact e_zret X hr rfl dX9_comesTo_32 (Nat.le_of_ble_eq_true rfl) (Nat.le_of_ble_eq_true rfl) hK
set_option maxRecDepth 20000 in
set_option maxHeartbeats 4000000 in
theorem C_Town_comesTo (hG : Gok l Γ D s0) (σ : Mem) (t : Nat) (v1 : Int32) (v2 : Int32) (gt : isTown t) {out : Int32} (hF : F_Town_comesTo σ t v1 v2 = some out) : CT l Γ D s0 yX9_comesTo cX9_comesTo 5 (some .boolean) (1) 0 0 (21) σ [.ref (Γ.1 + t), .int v1, .int v2] (PI (some (.int out)) σ) := by
  unfold F_Town_comesTo at hF
  refine e_met (own := RX9) hG (by decide +kernel) rfl rfl (Nat.le_of_ble_eq_true rfl) ?_
  intro p e s m args below meth c X hr
  show E p l e _ s m args below meth c Γ D 0 0 _ σ 0 [some (.ref (Γ.1 + t)), some (.int v1), some (.int v2), none, none] []
  refine e_aload_n X dX9_comesTo_0 rfl rfl ?_
  refine ge_Town_reinsurer X gt wf_X9_23 dX9_comesTo_1 ?_
  refine e_iload_n X dX9_comesTo_4 rfl rfl ?_
  refine e_callVi X (r := (F_Row_at σ (t + 5) 8 v1)) (σ1 := σ) [.int v1] [] (C_Row_at (Cx_gok X) σ (t + 5) 8 v1 gt.2.2.2.1) gv_X9_90 yk_X6_at rfl (ent_lt gt.2.2.2.1.1) (ent_at gt.2.2.2.1.1 _) (rfl : vCl[6]? = some (RX6, TX6, 1)) ⟨Nat.le_of_ble_eq_true rfl, Nat.le_of_ble_eq_true rfl⟩ ⟨Nat.le_of_ble_eq_true rfl, Nat.le_of_ble_eq_true rfl⟩ (Nat.le_of_ble_eq_true rfl) dX9_comesTo_5 rfl ?_
  obtain ⟨x1, h_x1, hF⟩ := bindT_out hF
  refine e_istore_n X h_x1 dX9_comesTo_8 rfl (by decide) ?_
  refine e_iconst X 1 dX9_comesTo_9 rfl ?_
  refine e_istore X rfl dX9_comesTo_10 (by decide) ?_
  obtain ⟨z7, h_z7, hF⟩ := obind_out hF
  refine e_le (L_Town_comesTo_12 X hr σ t v1 v2 gt _ x1 1 h_z7 ?_) (And.intro rfl (And.intro rfl (And.intro rfl (And.intro rfl (And.intro rfl (trivial))))))
  cases z7 with
  | inl s8 =>
    replace hF := hF
    rw [sumE] at hF
    show E p l e _ s m args below meth c Γ D _ _ _ _ _ _ _
    refine e_iconst X 0 dX9_comesTo_48 rfl ?_
    exact e_zret X hr rfl dX9_comesTo_49 (Nat.le_of_ble_eq_true rfl) (Nat.le_of_ble_eq_true rfl) (by cases hF; exact ⟨rfl, rfl⟩)
  | inr r9 =>
    rw [sumE] at hF
    cases hF
    exact ⟨rfl, rfl⟩
set_option maxRecDepth 20000 in
set_option maxHeartbeats 4000000 in
theorem L_Town_leaners_4 (X : Cx p l s m args meth c Γ D s0 RX9 cX9_leaners 4) (hr : meth.sig.returnType = (some .int)) (σ : Mem) (t : Nat) (v1 : Int32) (gt : isTown t) : ∀ (n : Nat) (v3 : Int32) (v2 : Int32) {z : Int32}, forSO (fun i s => F_Town_leaners_4_b σ t v1 i s) n v3 v2 = some z → n = cnt v3 ((σ t 8)) → ¬ v3 < 0 → (E p l e ({ frames := 2, cells := 0, slots := 0, locals := 45 } : Room) s m args below meth c Γ D 0 0 (MQ below (QcA Γ D Pst) args s 0 0 (frB Γ)) σ 33 [some (.ref (Γ.1 + t)), some (.int v1), some (.int z), none] []) → E p l e ({ frames := 2, cells := 0, slots := 0, locals := 45 } : Room) s m args below meth c Γ D 0 0 (MQ below (QcA Γ D Pst) args s 0 0 (frB Γ)) σ 4 [some (.ref (Γ.1 + t)), some (.int v1), some (.int v2), some (.int v3)] [] := by
  intro n
  induction n with
  | zero =>
    intro v3 v2 z hF hn h0 hK
    refine e_iload_n X dX9_leaners_4 rfl rfl ?_
    refine e_aload_n X dX9_leaners_5 rfl rfl ?_
    refine ge_Town_people X gt wf_X9_62 dX9_leaners_6 ?_
    refine e_icmp_ge X 33 dX9_leaners_9 (by decide) (fun c5 => ?_) (fun c5 => ?_)
    · skip
      have hz9 := Option.some.inj hF; change (v2) = z at hz9; subst hz9
      exact e_le hK (And.intro rfl (And.intro rfl (And.intro rfl (trivial))))
    · skip
      exact absurd c5 (cnt0 hn)
  | succ n ih =>
    intro v3 v2 z hF hn h0 hK
    obtain ⟨y9, hB, hF⟩ := forSO_step hF
    change F_Town_leaners_4_b σ t v1 v3 v2 = some y9 at hB
    unfold F_Town_leaners_4_b at hB
    refine e_iload_n X dX9_leaners_4 rfl rfl ?_
    refine e_aload_n X dX9_leaners_5 rfl rfl ?_
    refine ge_Town_people X gt wf_X9_62 dX9_leaners_6 ?_
    refine e_icmp_ge X 33 dX9_leaners_9 (by decide) (fun c1 => ?_) (fun c1 => ?_)
    · skip
      exact absurd (cntS hn) c1
    · skip
      refine e_aload_n X dX9_leaners_12 rfl rfl ?_
      refine e_iload_n X dX9_leaners_13 rfl rfl ?_
      refine e_iload_n X dX9_leaners_14 rfl rfl ?_
      obtain ⟨z2, h_z2, hB⟩ := obind_out hB
      refine e_callVi X (r := z2) (σ1 := σ) [.int v3, .int v1] [] (C_Town_comesTo (Cx_gok X) σ t v3 v1 gt h_z2) gv_X9_112 yk_X9_comesTo rfl (ent_lt gt.1) (ent_at gt.1 _) (rfl : vCl[8]? = some (RX9, TX9, 20)) ⟨Nat.le_of_ble_eq_true rfl, Nat.le_of_ble_eq_true rfl⟩ ⟨Nat.le_of_ble_eq_true rfl, Nat.le_of_ble_eq_true rfl⟩ (Nat.le_of_ble_eq_true rfl) dX9_leaners_15 rfl ?_
      refine e_if_eq X 27 dX9_leaners_18 (by decide) (fun c3 => ?_) (fun c3 => ?_)
      · skip
        rw [if_pos c3] at hB
        refine e_iinc X 1 dX9_leaners_27 rfl rfl (by decide) ?_
        refine e_goto X 4 dX9_leaners_30 (by decide) ?_
        have hy9 := Option.some.inj hB; change (v2) = y9 at hy9; subst hy9
        exact e_le (ih _ v2 hF (cntN hn) (nnN h0 (cnt_hi hn)) hK) (And.intro rfl (And.intro rfl (And.intro rfl (And.intro rfl (trivial)))))
      · skip
        rw [if_neg c3] at hB
        refine e_iload_n X dX9_leaners_21 rfl rfl ?_
        refine e_iconst X 1 dX9_leaners_22 rfl ?_
        refine e_iload_n X dX9_leaners_23 rfl rfl ?_
        refine e_ishl X dX9_leaners_24 ?_
        refine e_ior X dX9_leaners_25 ?_
        obtain ⟨x4, h_x4, hB⟩ := bindT_out hB
        refine e_istore_n X h_x4 dX9_leaners_26 rfl (by decide) ?_
        refine e_iinc X 1 dX9_leaners_27 rfl rfl (by decide) ?_
        refine e_goto X 4 dX9_leaners_30 (by decide) ?_
        have hy9 := Option.some.inj hB; change (x4) = y9 at hy9; subst hy9
        exact e_le (ih _ x4 hF (cntN hn) (nnN h0 (cnt_hi hn)) hK) (And.intro rfl (And.intro rfl (And.intro rfl (And.intro rfl (trivial)))))
set_option maxRecDepth 20000 in
set_option maxHeartbeats 4000000 in
theorem C_Town_leaners (hG : Gok l Γ D s0) (σ : Mem) (t : Nat) (v1 : Int32) (gt : isTown t) {out : Int32} (hF : F_Town_leaners σ t v1 = some out) : CT l Γ D s0 yX9_leaners cX9_leaners 4 (some .int) (2) 0 0 (45) σ [.ref (Γ.1 + t), .int v1] (PI (some (.int out)) σ) := by
  unfold F_Town_leaners at hF
  refine e_met (own := RX9) hG (by decide +kernel) rfl rfl (Nat.le_of_ble_eq_true rfl) ?_
  intro p e s m args below meth c X hr
  show E p l e _ s m args below meth c Γ D 0 0 _ σ 0 [some (.ref (Γ.1 + t)), some (.int v1), none, none] []
  refine e_iconst X 0 dX9_leaners_0 rfl ?_
  refine e_istore_n X rfl dX9_leaners_1 rfl (by decide) ?_
  refine e_iconst X 0 dX9_leaners_2 rfl ?_
  refine e_istore_n X rfl dX9_leaners_3 rfl (by decide) ?_
  obtain ⟨z6, h_z6, hF⟩ := obind_out hF
  refine e_le (L_Town_leaners_4 X hr σ t v1 gt _ 0 0 h_z6 rfl (by decide) ?_) (And.intro rfl (And.intro rfl (And.intro rfl (And.intro rfl (trivial)))))
  refine e_iload_n X dX9_leaners_33 rfl rfl ?_
  exact e_iret X hr dX9_leaners_34 (Nat.le_of_ble_eq_true rfl) (Nat.le_of_ble_eq_true rfl) (by cases hF; exact ⟨rfl, rfl⟩)
set_option maxRecDepth 20000 in
set_option maxHeartbeats 4000000 in
theorem C_Town_firstOf (hG : Gok l Γ D s0) (σ : Mem) (t : Nat) (v1 : Int32) (gt : isTown t) : CT l Γ D s0 yX9_firstOf cX9_firstOf 2 (some .int) (1) 0 0 (21) σ [.ref (Γ.1 + t), .int v1] (PI (some (.int (F_Town_firstOf σ t v1))) σ) := by
  generalize hF : F_Town_firstOf σ t v1 = out
  unfold F_Town_firstOf at hF
  refine e_met (own := RX9) hG (by decide +kernel) rfl rfl (Nat.le_of_ble_eq_true rfl) ?_
  intro p e s m args below meth c X hr
  show E p l e _ s m args below meth c Γ D 0 0 _ σ 0 [some (.ref (Γ.1 + t)), some (.int v1)] []
  refine e_aload_n X dX9_firstOf_0 rfl rfl ?_
  refine ge_Town_both X gt wf_X9_29 dX9_firstOf_1 ?_
  refine e_iconst X 2 dX9_firstOf_4 rfl ?_
  refine e_iload_n X dX9_firstOf_5 rfl rfl ?_
  refine e_imul X dX9_firstOf_6 ?_
  refine e_callVi X (r := (F_Row_at σ (t + 9) 40 ((2 * v1)))) (σ1 := σ) [.int ((2 * v1))] [] (C_Row_at (Cx_gok X) σ (t + 9) 40 ((2 * v1)) gt.2.2.2.2.2.1) gv_X9_90 yk_X6_at rfl (ent_lt gt.2.2.2.2.2.1.1) (ent_at gt.2.2.2.2.2.1.1 _) (rfl : vCl[6]? = some (RX6, TX6, 1)) ⟨Nat.le_of_ble_eq_true rfl, Nat.le_of_ble_eq_true rfl⟩ ⟨Nat.le_of_ble_eq_true rfl, Nat.le_of_ble_eq_true rfl⟩ (Nat.le_of_ble_eq_true rfl) dX9_firstOf_7 rfl ?_
  exact e_iret X hr dX9_firstOf_10 (Nat.le_of_ble_eq_true rfl) (Nat.le_of_ble_eq_true rfl) (by cases hF; exact ⟨rfl, rfl⟩)
set_option maxRecDepth 20000 in
set_option maxHeartbeats 4000000 in
theorem C_Town_secondOf (hG : Gok l Γ D s0) (σ : Mem) (t : Nat) (v1 : Int32) (gt : isTown t) : CT l Γ D s0 yX9_secondOf cX9_secondOf 2 (some .int) (1) 0 0 (21) σ [.ref (Γ.1 + t), .int v1] (PI (some (.int (F_Town_secondOf σ t v1))) σ) := by
  generalize hF : F_Town_secondOf σ t v1 = out
  unfold F_Town_secondOf at hF
  refine e_met (own := RX9) hG (by decide +kernel) rfl rfl (Nat.le_of_ble_eq_true rfl) ?_
  intro p e s m args below meth c X hr
  show E p l e _ s m args below meth c Γ D 0 0 _ σ 0 [some (.ref (Γ.1 + t)), some (.int v1)] []
  refine e_aload_n X dX9_secondOf_0 rfl rfl ?_
  refine ge_Town_both X gt wf_X9_29 dX9_secondOf_1 ?_
  refine e_iconst X 2 dX9_secondOf_4 rfl ?_
  refine e_iload_n X dX9_secondOf_5 rfl rfl ?_
  refine e_imul X dX9_secondOf_6 ?_
  refine e_iconst X 1 dX9_secondOf_7 rfl ?_
  refine e_iadd X dX9_secondOf_8 ?_
  refine e_callVi X (r := (F_Row_at σ (t + 9) 40 (((2 * v1) + 1)))) (σ1 := σ) [.int (((2 * v1) + 1))] [] (C_Row_at (Cx_gok X) σ (t + 9) 40 (((2 * v1) + 1)) gt.2.2.2.2.2.1) gv_X9_90 yk_X6_at rfl (ent_lt gt.2.2.2.2.2.1.1) (ent_at gt.2.2.2.2.2.1.1 _) (rfl : vCl[6]? = some (RX6, TX6, 1)) ⟨Nat.le_of_ble_eq_true rfl, Nat.le_of_ble_eq_true rfl⟩ ⟨Nat.le_of_ble_eq_true rfl, Nat.le_of_ble_eq_true rfl⟩ (Nat.le_of_ble_eq_true rfl) dX9_secondOf_9 rfl ?_
  exact e_iret X hr dX9_secondOf_12 (Nat.le_of_ble_eq_true rfl) (Nat.le_of_ble_eq_true rfl) (by cases hF; exact ⟨rfl, rfl⟩)
set_option maxRecDepth 20000 in
set_option maxHeartbeats 4000000 in
theorem C_Town_isOver (hG : Gok l Γ D s0) (σ : Mem) (t : Nat) (v1 : Int32) (gt : isTown t) : CT l Γ D s0 yX9_isOver cX9_isOver 2 (some .boolean) (0) 0 0 (0) σ [.ref (Γ.1 + t), .int v1] (PI (some (.int (F_Town_isOver σ t v1))) σ) := by
  generalize hF : F_Town_isOver σ t v1 = out
  unfold F_Town_isOver at hF
  refine e_met (own := RX9) hG (by decide +kernel) rfl rfl (Nat.le_of_ble_eq_true rfl) ?_
  intro p e s m args below meth c X hr
  show E p l e _ s m args below meth c Γ D 0 0 _ σ 0 [some (.ref (Γ.1 + t)), some (.int v1)] []
  refine e_aload_n X dX9_isOver_0 rfl rfl ?_
  refine ge_Town_over X gt wf_X9_68 dX9_isOver_1 ?_
  refine e_iload_n X dX9_isOver_4 rfl rfl ?_
  refine e_ishr X dX9_isOver_5 ?_
  refine e_iconst X 1 dX9_isOver_6 rfl ?_
  refine e_iand X dX9_isOver_7 ?_
  refine e_if_eq X 15 dX9_isOver_8 (by decide) (fun c1 => ?_) (fun c1 => ?_)
  · skip
    rw [if_pos c1] at hF
    refine e_iconst X 0 dX9_isOver_15 rfl ?_
    exact e_zret X hr rfl dX9_isOver_16 (Nat.le_of_ble_eq_true rfl) (Nat.le_of_ble_eq_true rfl) (by cases hF; exact ⟨rfl, rfl⟩)
  · skip
    rw [if_neg c1] at hF
    refine e_iconst X 1 dX9_isOver_11 rfl ?_
    refine e_goto X 16 dX9_isOver_12 (by decide) ?_
    exact e_zret X hr rfl dX9_isOver_16 (Nat.le_of_ble_eq_true rfl) (Nat.le_of_ble_eq_true rfl) (by cases hF; exact ⟨rfl, rfl⟩)
set_option maxRecDepth 20000 in
set_option maxHeartbeats 4000000 in
theorem C_Town_endMatch (hG : Gok l Γ D s0) (σ : Mem) (t : Nat) (v1 : Int32) (gt : isTown t) : CT l Γ D s0 yX9_endMatch cX9_endMatch 2 none (0) 0 0 (0) σ [.ref (Γ.1 + t), .int v1] (PI none (F_Town_endMatch σ t v1)) := by
  generalize hF : F_Town_endMatch σ t v1 = out
  unfold F_Town_endMatch at hF
  refine e_met (own := RX9) hG (by decide +kernel) rfl rfl (Nat.le_of_ble_eq_true rfl) ?_
  intro p e s m args below meth c X hr
  show E p l e _ s m args below meth c Γ D 0 0 _ σ 0 [some (.ref (Γ.1 + t)), some (.int v1)] []
  refine e_aload_n X dX9_endMatch_0 rfl rfl ?_
  refine e_dup X dX9_endMatch_1 rfl ?_
  refine ge_Town_over X gt wf_X9_68 dX9_endMatch_2 ?_
  refine e_iconst X 1 dX9_endMatch_5 rfl ?_
  refine e_iload_n X dX9_endMatch_6 rfl rfl ?_
  refine e_ishl X dX9_endMatch_7 ?_
  refine e_ior X dX9_endMatch_8 ?_
  obtain ⟨σ1, h_σ1, hF⟩ := bindT_out hF
  refine pu_Town_over X gt wf_X9_68 dX9_endMatch_9 h_σ1 ?_
  exact e_vret X hr dX9_endMatch_12 (Nat.le_of_ble_eq_true rfl) (Nat.le_of_ble_eq_true rfl) (by cases hF; exact ⟨rfl, rfl⟩)
set_option maxRecDepth 20000 in
set_option maxHeartbeats 4000000 in
theorem C_Town_addMatch (hG : Gok l Γ D s0) (σ : Mem) (t : Nat) (v1 : Int32) (v2 : Int32) (v3 : Int32) (gt : isTown t) : CT l Γ D s0 yX9_addMatch cX9_addMatch 5 (some .int) (1) 0 0 (22) σ [.ref (Γ.1 + t), .int v1, .int v2, .int v3] (PI (some (.int (F_Town_addMatch σ t v1 v2 v3).2)) (F_Town_addMatch σ t v1 v2 v3).1) := by
  generalize hF : F_Town_addMatch σ t v1 v2 v3 = out
  unfold F_Town_addMatch at hF
  refine e_met (own := RX9) hG (by decide +kernel) rfl rfl (Nat.le_of_ble_eq_true rfl) ?_
  intro p e s m args below meth c X hr
  show E p l e _ s m args below meth c Γ D 0 0 _ σ 0 [some (.ref (Γ.1 + t)), some (.int v1), some (.int v2), some (.int v3), none] []
  refine e_aload_n X dX9_addMatch_0 rfl rfl ?_
  refine ge_Town_matches X gt wf_X9_65 dX9_addMatch_1 ?_
  obtain ⟨x1, h_x1, hF⟩ := bindT_out hF
  refine e_istore X h_x1 dX9_addMatch_4 (by decide) ?_
  refine e_aload_n X dX9_addMatch_6 rfl rfl ?_
  refine ge_Town_both X gt wf_X9_29 dX9_addMatch_7 ?_
  refine e_iconst X 2 dX9_addMatch_10 rfl ?_
  refine e_iload X dX9_addMatch_11 rfl ?_
  refine e_imul X dX9_addMatch_13 ?_
  refine e_iload_n X dX9_addMatch_14 rfl rfl ?_
  obtain ⟨z2, h_z2, hF⟩ := bindT_out hF
  refine e_callVv X (σ1 := z2) [.int ((2 * x1)), .int v1] [] (by rw [h_z2]; exact C_Row_put (Cx_gok X) σ (t + 9) 40 ((2 * x1)) v1 gt.2.2.2.2.2.1) gv_X9_86 yk_X6_put rfl (ent_lt gt.2.2.2.2.2.1.1) (ent_at gt.2.2.2.2.2.1.1 _) (rfl : vCl[6]? = some (RX6, TX6, 1)) ⟨Nat.le_of_ble_eq_true rfl, Nat.le_of_ble_eq_true rfl⟩ ⟨Nat.le_of_ble_eq_true rfl, Nat.le_of_ble_eq_true rfl⟩ (Nat.le_of_ble_eq_true rfl) dX9_addMatch_15 rfl ?_
  refine e_aload_n X dX9_addMatch_18 rfl rfl ?_
  refine ge_Town_both X gt wf_X9_29 dX9_addMatch_19 ?_
  refine e_iconst X 2 dX9_addMatch_22 rfl ?_
  refine e_iload X dX9_addMatch_23 rfl ?_
  refine e_imul X dX9_addMatch_25 ?_
  refine e_iconst X 1 dX9_addMatch_26 rfl ?_
  refine e_iadd X dX9_addMatch_27 ?_
  refine e_iload_n X dX9_addMatch_28 rfl rfl ?_
  obtain ⟨z3, h_z3, hF⟩ := bindT_out hF
  refine e_callVv X (σ1 := z3) [.int (((2 * x1) + 1)), .int v2] [] (by rw [h_z3]; exact C_Row_put (Cx_gok X) z2 (t + 9) 40 (((2 * x1) + 1)) v2 gt.2.2.2.2.2.1) gv_X9_86 yk_X6_put rfl (ent_lt gt.2.2.2.2.2.1.1) (ent_at gt.2.2.2.2.2.1.1 _) (rfl : vCl[6]? = some (RX6, TX6, 1)) ⟨Nat.le_of_ble_eq_true rfl, Nat.le_of_ble_eq_true rfl⟩ ⟨Nat.le_of_ble_eq_true rfl, Nat.le_of_ble_eq_true rfl⟩ (Nat.le_of_ble_eq_true rfl) dX9_addMatch_29 rfl ?_
  refine e_aload_n X dX9_addMatch_32 rfl rfl ?_
  refine ge_Town_happy X gt wf_X9_32 dX9_addMatch_33 ?_
  refine e_iload X dX9_addMatch_36 rfl ?_
  refine e_iload_n X dX9_addMatch_38 rfl rfl ?_
  obtain ⟨z4, h_z4, hF⟩ := bindT_out hF
  refine e_callVv X (σ1 := z4) [.int x1, .int v3] [] (by rw [h_z4]; exact C_Row_put (Cx_gok X) z3 (t + 11) 20 x1 v3 gt.2.2.2.2.2.2.1) gv_X9_86 yk_X6_put rfl (ent_lt gt.2.2.2.2.2.2.1.1) (ent_at gt.2.2.2.2.2.2.1.1 _) (rfl : vCl[6]? = some (RX6, TX6, 1)) ⟨Nat.le_of_ble_eq_true rfl, Nat.le_of_ble_eq_true rfl⟩ ⟨Nat.le_of_ble_eq_true rfl, Nat.le_of_ble_eq_true rfl⟩ (Nat.le_of_ble_eq_true rfl) dX9_addMatch_39 rfl ?_
  refine e_aload_n X dX9_addMatch_42 rfl rfl ?_
  refine ge_Town_monthsWed X gt wf_X9_35 dX9_addMatch_43 ?_
  refine e_iload X dX9_addMatch_46 rfl ?_
  refine e_iconst X 0 dX9_addMatch_48 rfl ?_
  obtain ⟨z5, h_z5, hF⟩ := bindT_out hF
  refine e_callVv X (σ1 := z5) [.int x1, .int 0] [] (by rw [h_z5]; exact C_Row_put (Cx_gok X) z4 (t + 13) 20 x1 0 gt.2.2.2.2.2.2.2.1) gv_X9_86 yk_X6_put rfl (ent_lt gt.2.2.2.2.2.2.2.1.1) (ent_at gt.2.2.2.2.2.2.2.1.1 _) (rfl : vCl[6]? = some (RX6, TX6, 1)) ⟨Nat.le_of_ble_eq_true rfl, Nat.le_of_ble_eq_true rfl⟩ ⟨Nat.le_of_ble_eq_true rfl, Nat.le_of_ble_eq_true rfl⟩ (Nat.le_of_ble_eq_true rfl) dX9_addMatch_49 rfl ?_
  refine e_aload_n X dX9_addMatch_52 rfl rfl ?_
  refine e_dup X dX9_addMatch_53 rfl ?_
  refine ge_Town_matches X gt wf_X9_65 dX9_addMatch_54 ?_
  refine e_iconst X 1 dX9_addMatch_57 rfl ?_
  refine e_iadd X dX9_addMatch_58 ?_
  obtain ⟨σ6, h_σ6, hF⟩ := bindT_out hF
  refine pu_Town_matches X gt wf_X9_65 dX9_addMatch_59 h_σ6 ?_
  refine e_iload X dX9_addMatch_62 rfl ?_
  exact e_iret X hr dX9_addMatch_64 (Nat.le_of_ble_eq_true rfl) (Nat.le_of_ble_eq_true rfl) (by cases hF; exact ⟨rfl, rfl⟩)
set_option maxRecDepth 20000 in
set_option maxHeartbeats 4000000 in
theorem C_Town_changeHappy (hG : Gok l Γ D s0) (σ : Mem) (t : Nat) (v1 : Int32) (v2 : Int32) (gt : isTown t) : CT l Γ D s0 yX9_changeHappy cX9_changeHappy 3 (some .int) (2) 0 0 (34) σ [.ref (Γ.1 + t), .int v1, .int v2] (PI (some (.int (F_Town_changeHappy σ t v1 v2).2)) (F_Town_changeHappy σ t v1 v2).1) := by
  generalize hF : F_Town_changeHappy σ t v1 v2 = out
  unfold F_Town_changeHappy at hF
  refine e_met (own := RX9) hG (by decide +kernel) rfl rfl (Nat.le_of_ble_eq_true rfl) ?_
  intro p e s m args below meth c X hr
  show E p l e _ s m args below meth c Γ D 0 0 _ σ 0 [some (.ref (Γ.1 + t)), some (.int v1), some (.int v2)] []
  refine e_aload_n X dX9_changeHappy_0 rfl rfl ?_
  refine ge_Town_happy X gt wf_X9_32 dX9_changeHappy_1 ?_
  refine e_iload_n X dX9_changeHappy_4 rfl rfl ?_
  refine e_aload_n X dX9_changeHappy_5 rfl rfl ?_
  refine ge_Town_happy X gt wf_X9_32 dX9_changeHappy_6 ?_
  refine e_iload_n X dX9_changeHappy_9 rfl rfl ?_
  refine e_callVi X (r := (F_Row_at σ (t + 11) 20 v1)) (σ1 := σ) [.int v1] [.int v1, .ref (Γ.1 + (t + 11))] (C_Row_at (Cx_gok X) σ (t + 11) 20 v1 gt.2.2.2.2.2.2.1) gv_X9_90 yk_X6_at rfl (ent_lt gt.2.2.2.2.2.2.1.1) (ent_at gt.2.2.2.2.2.2.1.1 _) (rfl : vCl[6]? = some (RX6, TX6, 1)) ⟨Nat.le_of_ble_eq_true rfl, Nat.le_of_ble_eq_true rfl⟩ ⟨Nat.le_of_ble_eq_true rfl, Nat.le_of_ble_eq_true rfl⟩ (Nat.le_of_ble_eq_true rfl) dX9_changeHappy_10 rfl ?_
  refine e_iload_n X dX9_changeHappy_13 rfl rfl ?_
  refine e_iadd X dX9_changeHappy_14 ?_
  refine e_callSNi X (r := (F_W_happyWithin σ (((F_Row_at σ (t + 11) 20 v1) + v2)))) (σ1 := σ) (host := RX11) [.int (((F_Row_at σ (t + 11) 20 v1) + v2))] [.int v1, .ref (Γ.1 + (t + 11))] (C_W_happyWithin (Cx_gok X) σ (((F_Row_at σ (t + 11) 20 v1) + v2))) gb_X11_happyWithin (by decide +kernel) wz_X11 ws_X11_happyWithin yk_X11_happyWithin.2 rfl ⟨Nat.le_of_ble_eq_true rfl, Nat.le_of_ble_eq_true rfl⟩ ⟨Nat.le_of_ble_eq_true rfl, Nat.le_of_ble_eq_true rfl⟩ (Nat.le_of_ble_eq_true rfl) dX9_changeHappy_15 rfl ?_
  obtain ⟨z1, h_z1, hF⟩ := bindT_out hF
  refine e_callVv X (σ1 := z1) [.int v1, .int ((F_W_happyWithin σ (((F_Row_at σ (t + 11) 20 v1) + v2))))] [] (by rw [h_z1]; exact C_Row_put (Cx_gok X) σ (t + 11) 20 v1 ((F_W_happyWithin σ (((F_Row_at σ (t + 11) 20 v1) + v2)))) gt.2.2.2.2.2.2.1) gv_X9_86 yk_X6_put rfl (ent_lt gt.2.2.2.2.2.2.1.1) (ent_at gt.2.2.2.2.2.2.1.1 _) (rfl : vCl[6]? = some (RX6, TX6, 1)) ⟨Nat.le_of_ble_eq_true rfl, Nat.le_of_ble_eq_true rfl⟩ ⟨Nat.le_of_ble_eq_true rfl, Nat.le_of_ble_eq_true rfl⟩ (Nat.le_of_ble_eq_true rfl) dX9_changeHappy_18 rfl ?_
  refine e_aload_n X dX9_changeHappy_21 rfl rfl ?_
  refine ge_Town_happy X gt wf_X9_32 dX9_changeHappy_22 ?_
  refine e_iload_n X dX9_changeHappy_25 rfl rfl ?_
  refine e_callVi X (r := (F_Row_at z1 (t + 11) 20 v1)) (σ1 := z1) [.int v1] [] (C_Row_at (Cx_gok X) z1 (t + 11) 20 v1 gt.2.2.2.2.2.2.1) gv_X9_90 yk_X6_at rfl (ent_lt gt.2.2.2.2.2.2.1.1) (ent_at gt.2.2.2.2.2.2.1.1 _) (rfl : vCl[6]? = some (RX6, TX6, 1)) ⟨Nat.le_of_ble_eq_true rfl, Nat.le_of_ble_eq_true rfl⟩ ⟨Nat.le_of_ble_eq_true rfl, Nat.le_of_ble_eq_true rfl⟩ (Nat.le_of_ble_eq_true rfl) dX9_changeHappy_26 rfl ?_
  exact e_iret X hr dX9_changeHappy_29 (Nat.le_of_ble_eq_true rfl) (Nat.le_of_ble_eq_true rfl) (by cases hF; exact ⟨rfl, rfl⟩)
set_option maxRecDepth 20000 in
set_option maxHeartbeats 4000000 in
theorem L_Town_spouseOf_2 (X : Cx p l s m args meth c Γ D s0 RX9 cX9_spouseOf 3) (hr : meth.sig.returnType = (some .int)) (σ : Mem) (t : Nat) (v1 : Int32) (gt : isTown t) : ∀ (n : Nat) (v2 : Int32) {z : (Unit) ⊕ (Int32)}, forG (fun i s => F_Town_spouseOf_2_b σ t v1 i ) n v2 () = z → n = cnt v2 ((σ t 10)) → ¬ v2 < 0 → (sumP z (fun s9 => E p l e ({ frames := 2, cells := 0, slots := 0, locals := 42 } : Room) s m args below meth c Γ D 0 0 (MQ below (QcA Γ D Pst) args s 0 0 (frB Γ)) σ 62 [some (.ref (Γ.1 + t)), some (.int v1), none] []) (fun r9 => Pst (some (.int r9)) σ)) → E p l e ({ frames := 2, cells := 0, slots := 0, locals := 42 } : Room) s m args below meth c Γ D 0 0 (MQ below (QcA Γ D Pst) args s 0 0 (frB Γ)) σ 2 [some (.ref (Γ.1 + t)), some (.int v1), some (.int v2)] [] := by
  intro n
  induction n with
  | zero =>
    intro v2  z hF hn h0 hK
    refine e_iload_n X dX9_spouseOf_2 rfl rfl ?_
    refine e_aload_n X dX9_spouseOf_3 rfl rfl ?_
    refine ge_Town_matches X gt wf_X9_65 dX9_spouseOf_4 ?_
    refine e_icmp_ge X 62 dX9_spouseOf_7 (by decide) (fun c8 => ?_) (fun c8 => ?_)
    · skip
      have hz9 := hF; change (.inl (())) = z at hz9; subst hz9
      exact e_le hK (And.intro rfl (And.intro rfl (trivial)))
    · skip
      exact absurd c8 (cnt0 hn)
  | succ n ih =>
    intro v2  z hF hn h0 hK
    obtain ⟨y9, hB, hF⟩ := forR_step hF
    change F_Town_spouseOf_2_b σ t v1 v2  = y9 at hB
    unfold F_Town_spouseOf_2_b at hB
    refine e_iload_n X dX9_spouseOf_2 rfl rfl ?_
    refine e_aload_n X dX9_spouseOf_3 rfl rfl ?_
    refine ge_Town_matches X gt wf_X9_65 dX9_spouseOf_4 ?_
    refine e_icmp_ge X 62 dX9_spouseOf_7 (by decide) (fun c1 => ?_) (fun c1 => ?_)
    · skip
      exact absurd (cntS hn) c1
    · skip
      refine e_aload_n X dX9_spouseOf_10 rfl rfl ?_
      refine e_iload_n X dX9_spouseOf_11 rfl rfl ?_
      refine e_callVi X (r := (F_Town_isOver σ t v2)) (σ1 := σ) [.int v2] [] (C_Town_isOver (Cx_gok X) σ t v2 gt) gv_X9_118 yk_X9_isOver rfl (ent_lt gt.1) (ent_at gt.1 _) (rfl : vCl[8]? = some (RX9, TX9, 20)) ⟨Nat.le_of_ble_eq_true rfl, Nat.le_of_ble_eq_true rfl⟩ ⟨Nat.le_of_ble_eq_true rfl, Nat.le_of_ble_eq_true rfl⟩ (Nat.le_of_ble_eq_true rfl) dX9_spouseOf_12 rfl ?_
      refine e_if_ne X 33 dX9_spouseOf_15 (by decide) (fun c2 => ?_) (fun c2 => ?_)
      · skip
        rw [if_neg c2] at hB
        refine e_aload_n X dX9_spouseOf_33 rfl rfl ?_
        refine e_iload_n X dX9_spouseOf_34 rfl rfl ?_
        refine e_callVi X (r := (F_Town_isOver σ t v2)) (σ1 := σ) [.int v2] [] (C_Town_isOver (Cx_gok X) σ t v2 gt) gv_X9_118 yk_X9_isOver rfl (ent_lt gt.1) (ent_at gt.1 _) (rfl : vCl[8]? = some (RX9, TX9, 20)) ⟨Nat.le_of_ble_eq_true rfl, Nat.le_of_ble_eq_true rfl⟩ ⟨Nat.le_of_ble_eq_true rfl, Nat.le_of_ble_eq_true rfl⟩ (Nat.le_of_ble_eq_true rfl) dX9_spouseOf_35 rfl ?_
        refine e_if_ne X 56 dX9_spouseOf_38 (by decide) (fun c3 => ?_) (fun c3 => ?_)
        · skip
          rw [if_neg c3] at hB
          refine e_iinc X 1 dX9_spouseOf_56 rfl rfl (by decide) ?_
          refine e_goto X 2 dX9_spouseOf_59 (by decide) ?_
          have hy9 := hB; change (.inl (())) = y9 at hy9; subst hy9
          exact e_le (ih _  hF (cntN hn) (nnN h0 (cnt_hi hn)) hK) (And.intro rfl (And.intro rfl (And.intro rfl (trivial))))
        · skip
          rw [if_pos c3] at hB
          refine e_aload_n X dX9_spouseOf_41 rfl rfl ?_
          refine e_iload_n X dX9_spouseOf_42 rfl rfl ?_
          refine e_callVi X (r := (F_Town_secondOf σ t v2)) (σ1 := σ) [.int v2] [] (C_Town_secondOf (Cx_gok X) σ t v2 gt) gv_X9_124 yk_X9_secondOf rfl (ent_lt gt.1) (ent_at gt.1 _) (rfl : vCl[8]? = some (RX9, TX9, 20)) ⟨Nat.le_of_ble_eq_true rfl, Nat.le_of_ble_eq_true rfl⟩ ⟨Nat.le_of_ble_eq_true rfl, Nat.le_of_ble_eq_true rfl⟩ (Nat.le_of_ble_eq_true rfl) dX9_spouseOf_43 rfl ?_
          refine e_iload_n X dX9_spouseOf_46 rfl rfl ?_
          refine e_icmp_ne X 56 dX9_spouseOf_47 (by decide) (fun c4 => ?_) (fun c4 => ?_)
          · skip
            rw [if_neg c4] at hB
            refine e_iinc X 1 dX9_spouseOf_56 rfl rfl (by decide) ?_
            refine e_goto X 2 dX9_spouseOf_59 (by decide) ?_
            have hy9 := hB; change (.inl (())) = y9 at hy9; subst hy9
            exact e_le (ih _  hF (cntN hn) (nnN h0 (cnt_hi hn)) hK) (And.intro rfl (And.intro rfl (And.intro rfl (trivial))))
          · skip
            rw [if_pos c4] at hB
            refine e_aload_n X dX9_spouseOf_50 rfl rfl ?_
            refine e_iload_n X dX9_spouseOf_51 rfl rfl ?_
            refine e_callVi X (r := (F_Town_firstOf σ t v2)) (σ1 := σ) [.int v2] [] (C_Town_firstOf (Cx_gok X) σ t v2 gt) gv_X9_121 yk_X9_firstOf rfl (ent_lt gt.1) (ent_at gt.1 _) (rfl : vCl[8]? = some (RX9, TX9, 20)) ⟨Nat.le_of_ble_eq_true rfl, Nat.le_of_ble_eq_true rfl⟩ ⟨Nat.le_of_ble_eq_true rfl, Nat.le_of_ble_eq_true rfl⟩ (Nat.le_of_ble_eq_true rfl) dX9_spouseOf_52 rfl ?_
            have hy9 := hB; change (.inr ((F_Town_firstOf σ t v2))) = y9 at hy9; subst hy9
            have hz9 := hF; change (.inr ((F_Town_firstOf σ t v2))) = z at hz9; subst hz9
            exact e_iret X hr dX9_spouseOf_55 (Nat.le_of_ble_eq_true rfl) (Nat.le_of_ble_eq_true rfl) hK
      · skip
        rw [if_pos c2] at hB
        refine e_aload_n X dX9_spouseOf_18 rfl rfl ?_
        refine e_iload_n X dX9_spouseOf_19 rfl rfl ?_
        refine e_callVi X (r := (F_Town_firstOf σ t v2)) (σ1 := σ) [.int v2] [] (C_Town_firstOf (Cx_gok X) σ t v2 gt) gv_X9_121 yk_X9_firstOf rfl (ent_lt gt.1) (ent_at gt.1 _) (rfl : vCl[8]? = some (RX9, TX9, 20)) ⟨Nat.le_of_ble_eq_true rfl, Nat.le_of_ble_eq_true rfl⟩ ⟨Nat.le_of_ble_eq_true rfl, Nat.le_of_ble_eq_true rfl⟩ (Nat.le_of_ble_eq_true rfl) dX9_spouseOf_20 rfl ?_
        refine e_iload_n X dX9_spouseOf_23 rfl rfl ?_
        refine e_icmp_ne X 33 dX9_spouseOf_24 (by decide) (fun c5 => ?_) (fun c5 => ?_)
        · skip
          rw [if_neg c5] at hB
          refine e_aload_n X dX9_spouseOf_33 rfl rfl ?_
          refine e_iload_n X dX9_spouseOf_34 rfl rfl ?_
          refine e_callVi X (r := (F_Town_isOver σ t v2)) (σ1 := σ) [.int v2] [] (C_Town_isOver (Cx_gok X) σ t v2 gt) gv_X9_118 yk_X9_isOver rfl (ent_lt gt.1) (ent_at gt.1 _) (rfl : vCl[8]? = some (RX9, TX9, 20)) ⟨Nat.le_of_ble_eq_true rfl, Nat.le_of_ble_eq_true rfl⟩ ⟨Nat.le_of_ble_eq_true rfl, Nat.le_of_ble_eq_true rfl⟩ (Nat.le_of_ble_eq_true rfl) dX9_spouseOf_35 rfl ?_
          refine e_if_ne X 56 dX9_spouseOf_38 (by decide) (fun c6 => ?_) (fun c6 => ?_)
          · skip
            rw [if_neg c6] at hB
            refine e_iinc X 1 dX9_spouseOf_56 rfl rfl (by decide) ?_
            refine e_goto X 2 dX9_spouseOf_59 (by decide) ?_
            have hy9 := hB; change (.inl (())) = y9 at hy9; subst hy9
            exact e_le (ih _  hF (cntN hn) (nnN h0 (cnt_hi hn)) hK) (And.intro rfl (And.intro rfl (And.intro rfl (trivial))))
          · skip
            rw [if_pos c6] at hB
            refine e_aload_n X dX9_spouseOf_41 rfl rfl ?_
            refine e_iload_n X dX9_spouseOf_42 rfl rfl ?_
            refine e_callVi X (r := (F_Town_secondOf σ t v2)) (σ1 := σ) [.int v2] [] (C_Town_secondOf (Cx_gok X) σ t v2 gt) gv_X9_124 yk_X9_secondOf rfl (ent_lt gt.1) (ent_at gt.1 _) (rfl : vCl[8]? = some (RX9, TX9, 20)) ⟨Nat.le_of_ble_eq_true rfl, Nat.le_of_ble_eq_true rfl⟩ ⟨Nat.le_of_ble_eq_true rfl, Nat.le_of_ble_eq_true rfl⟩ (Nat.le_of_ble_eq_true rfl) dX9_spouseOf_43 rfl ?_
            refine e_iload_n X dX9_spouseOf_46 rfl rfl ?_
            refine e_icmp_ne X 56 dX9_spouseOf_47 (by decide) (fun c7 => ?_) (fun c7 => ?_)
            · skip
              rw [if_neg c7] at hB
              refine e_iinc X 1 dX9_spouseOf_56 rfl rfl (by decide) ?_
              refine e_goto X 2 dX9_spouseOf_59 (by decide) ?_
              have hy9 := hB; change (.inl (())) = y9 at hy9; subst hy9
              exact e_le (ih _  hF (cntN hn) (nnN h0 (cnt_hi hn)) hK) (And.intro rfl (And.intro rfl (And.intro rfl (trivial))))
            · skip
              rw [if_pos c7] at hB
              refine e_aload_n X dX9_spouseOf_50 rfl rfl ?_
              refine e_iload_n X dX9_spouseOf_51 rfl rfl ?_
              refine e_callVi X (r := (F_Town_firstOf σ t v2)) (σ1 := σ) [.int v2] [] (C_Town_firstOf (Cx_gok X) σ t v2 gt) gv_X9_121 yk_X9_firstOf rfl (ent_lt gt.1) (ent_at gt.1 _) (rfl : vCl[8]? = some (RX9, TX9, 20)) ⟨Nat.le_of_ble_eq_true rfl, Nat.le_of_ble_eq_true rfl⟩ ⟨Nat.le_of_ble_eq_true rfl, Nat.le_of_ble_eq_true rfl⟩ (Nat.le_of_ble_eq_true rfl) dX9_spouseOf_52 rfl ?_
              have hy9 := hB; change (.inr ((F_Town_firstOf σ t v2))) = y9 at hy9; subst hy9
              have hz9 := hF; change (.inr ((F_Town_firstOf σ t v2))) = z at hz9; subst hz9
              exact e_iret X hr dX9_spouseOf_55 (Nat.le_of_ble_eq_true rfl) (Nat.le_of_ble_eq_true rfl) hK
        · skip
          rw [if_pos c5] at hB
          refine e_aload_n X dX9_spouseOf_27 rfl rfl ?_
          refine e_iload_n X dX9_spouseOf_28 rfl rfl ?_
          refine e_callVi X (r := (F_Town_secondOf σ t v2)) (σ1 := σ) [.int v2] [] (C_Town_secondOf (Cx_gok X) σ t v2 gt) gv_X9_124 yk_X9_secondOf rfl (ent_lt gt.1) (ent_at gt.1 _) (rfl : vCl[8]? = some (RX9, TX9, 20)) ⟨Nat.le_of_ble_eq_true rfl, Nat.le_of_ble_eq_true rfl⟩ ⟨Nat.le_of_ble_eq_true rfl, Nat.le_of_ble_eq_true rfl⟩ (Nat.le_of_ble_eq_true rfl) dX9_spouseOf_29 rfl ?_
          have hy9 := hB; change (.inr ((F_Town_secondOf σ t v2))) = y9 at hy9; subst hy9
          have hz9 := hF; change (.inr ((F_Town_secondOf σ t v2))) = z at hz9; subst hz9
          exact e_iret X hr dX9_spouseOf_32 (Nat.le_of_ble_eq_true rfl) (Nat.le_of_ble_eq_true rfl) hK
set_option maxRecDepth 20000 in
set_option maxHeartbeats 4000000 in
theorem C_Town_spouseOf (hG : Gok l Γ D s0) (σ : Mem) (t : Nat) (v1 : Int32) (gt : isTown t) : CT l Γ D s0 yX9_spouseOf cX9_spouseOf 3 (some .int) (2) 0 0 (42) σ [.ref (Γ.1 + t), .int v1] (PI (some (.int (F_Town_spouseOf σ t v1))) σ) := by
  generalize hF : F_Town_spouseOf σ t v1 = out
  unfold F_Town_spouseOf at hF
  refine e_met (own := RX9) hG (by decide +kernel) rfl rfl (Nat.le_of_ble_eq_true rfl) ?_
  intro p e s m args below meth c X hr
  show E p l e _ s m args below meth c Γ D 0 0 _ σ 0 [some (.ref (Γ.1 + t)), some (.int v1), none] []
  refine e_iconst X 0 dX9_spouseOf_0 rfl ?_
  refine e_istore_n X rfl dX9_spouseOf_1 rfl (by decide) ?_
  obtain ⟨z9, h_z9, hF⟩ := bindT_out hF
  refine e_le (L_Town_spouseOf_2 X hr σ t v1 gt _ 0  h_z9.symm rfl (by decide) ?_) (And.intro rfl (And.intro rfl (And.intro rfl (trivial))))
  cases z9 with
  | inl s10 =>
    replace hF := hF
    rw [sumE] at hF
    show E p l e _ s m args below meth c Γ D _ _ _ _ _ _ _
    refine e_iconst X (-1) dX9_spouseOf_62 rfl ?_
    exact e_iret X hr dX9_spouseOf_63 (Nat.le_of_ble_eq_true rfl) (Nat.le_of_ble_eq_true rfl) (by cases hF; exact ⟨rfl, rfl⟩)
  | inr r11 =>
    rw [sumE] at hF
    cases hF
    exact ⟨rfl, rfl⟩
set_option maxRecDepth 20000 in
set_option maxHeartbeats 4000000 in
theorem C_Town_isWed (hG : Gok l Γ D s0) (σ : Mem) (t : Nat) (v1 : Int32) (gt : isTown t) : CT l Γ D s0 yX9_isWed cX9_isWed 2 (some .boolean) (3) 0 0 (64) σ [.ref (Γ.1 + t), .int v1] (PI (some (.int (F_Town_isWed σ t v1))) σ) := by
  generalize hF : F_Town_isWed σ t v1 = out
  unfold F_Town_isWed at hF
  refine e_met (own := RX9) hG (by decide +kernel) rfl rfl (Nat.le_of_ble_eq_true rfl) ?_
  intro p e s m args below meth c X hr
  show E p l e _ s m args below meth c Γ D 0 0 _ σ 0 [some (.ref (Γ.1 + t)), some (.int v1)] []
  refine e_aload_n X dX9_isWed_0 rfl rfl ?_
  refine e_iload_n X dX9_isWed_1 rfl rfl ?_
  refine e_callVi X (r := (F_Town_spouseOf σ t v1)) (σ1 := σ) [.int v1] [] (C_Town_spouseOf (Cx_gok X) σ t v1 gt) gv_X9_127 yk_X9_spouseOf rfl (ent_lt gt.1) (ent_at gt.1 _) (rfl : vCl[8]? = some (RX9, TX9, 20)) ⟨Nat.le_of_ble_eq_true rfl, Nat.le_of_ble_eq_true rfl⟩ ⟨Nat.le_of_ble_eq_true rfl, Nat.le_of_ble_eq_true rfl⟩ (Nat.le_of_ble_eq_true rfl) dX9_isWed_2 rfl ?_
  refine e_iconst X (-1) dX9_isWed_5 rfl ?_
  refine e_icmp_eq X 13 dX9_isWed_6 (by decide) (fun c1 => ?_) (fun c1 => ?_)
  · skip
    rw [if_pos c1] at hF
    refine e_iconst X 0 dX9_isWed_13 rfl ?_
    exact e_zret X hr rfl dX9_isWed_14 (Nat.le_of_ble_eq_true rfl) (Nat.le_of_ble_eq_true rfl) (by cases hF; exact ⟨rfl, rfl⟩)
  · skip
    rw [if_neg c1] at hF
    refine e_iconst X 1 dX9_isWed_9 rfl ?_
    refine e_goto X 14 dX9_isWed_10 (by decide) ?_
    exact e_zret X hr rfl dX9_isWed_14 (Nat.le_of_ble_eq_true rfl) (Nat.le_of_ble_eq_true rfl) (by cases hF; exact ⟨rfl, rfl⟩)
set_option maxRecDepth 20000 in
set_option maxHeartbeats 4000000 in
theorem L_Town_wedPeople_4 (X : Cx p l s m args meth c Γ D s0 RX9 cX9_wedPeople 3) (hr : meth.sig.returnType = (some .int)) (σ : Mem) (t : Nat) (gt : isTown t) : ∀ (n : Nat) (v2 : Int32) (v1 : Int32) {z : Int32}, forS (fun i s => F_Town_wedPeople_4_b σ t i s) n v2 v1 = z → n = cnt v2 ((σ t 8)) → ¬ v2 < 0 → (E p l e ({ frames := 4, cells := 0, slots := 0, locals := 85 } : Room) s m args below meth c Γ D 0 0 (MQ below (QcA Γ D Pst) args s 0 0 (frB Γ)) σ 32 [some (.ref (Γ.1 + t)), some (.int z), none] []) → E p l e ({ frames := 4, cells := 0, slots := 0, locals := 85 } : Room) s m args below meth c Γ D 0 0 (MQ below (QcA Γ D Pst) args s 0 0 (frB Γ)) σ 4 [some (.ref (Γ.1 + t)), some (.int v1), some (.int v2)] [] := by
  intro n
  induction n with
  | zero =>
    intro v2 v1 z hF hn h0 hK
    refine e_iload_n X dX9_wedPeople_4 rfl rfl ?_
    refine e_aload_n X dX9_wedPeople_5 rfl rfl ?_
    refine ge_Town_people X gt wf_X9_62 dX9_wedPeople_6 ?_
    refine e_icmp_ge X 32 dX9_wedPeople_9 (by decide) (fun c4 => ?_) (fun c4 => ?_)
    · skip
      have hz9 := hF; change (v1) = z at hz9; subst hz9
      exact e_le hK (And.intro rfl (And.intro rfl (trivial)))
    · skip
      exact absurd c4 (cnt0 hn)
  | succ n ih =>
    intro v2 v1 z hF hn h0 hK
    obtain ⟨y9, hB, hF⟩ := forS_step hF
    change F_Town_wedPeople_4_b σ t v2 v1 = y9 at hB
    unfold F_Town_wedPeople_4_b at hB
    refine e_iload_n X dX9_wedPeople_4 rfl rfl ?_
    refine e_aload_n X dX9_wedPeople_5 rfl rfl ?_
    refine ge_Town_people X gt wf_X9_62 dX9_wedPeople_6 ?_
    refine e_icmp_ge X 32 dX9_wedPeople_9 (by decide) (fun c1 => ?_) (fun c1 => ?_)
    · skip
      exact absurd (cntS hn) c1
    · skip
      refine e_aload_n X dX9_wedPeople_12 rfl rfl ?_
      refine e_iload_n X dX9_wedPeople_13 rfl rfl ?_
      refine e_callVi X (r := (F_Town_isWed σ t v2)) (σ1 := σ) [.int v2] [] (C_Town_isWed (Cx_gok X) σ t v2 gt) gv_X9_130 yk_X9_isWed rfl (ent_lt gt.1) (ent_at gt.1 _) (rfl : vCl[8]? = some (RX9, TX9, 20)) ⟨Nat.le_of_ble_eq_true rfl, Nat.le_of_ble_eq_true rfl⟩ ⟨Nat.le_of_ble_eq_true rfl, Nat.le_of_ble_eq_true rfl⟩ (Nat.le_of_ble_eq_true rfl) dX9_wedPeople_14 rfl ?_
      refine e_if_eq X 26 dX9_wedPeople_17 (by decide) (fun c2 => ?_) (fun c2 => ?_)
      · skip
        rw [if_pos c2] at hB
        refine e_iinc X 1 dX9_wedPeople_26 rfl rfl (by decide) ?_
        refine e_goto X 4 dX9_wedPeople_29 (by decide) ?_
        have hy9 := hB; change (v1) = y9 at hy9; subst hy9
        exact e_le (ih _ v1 hF (cntN hn) (nnN h0 (cnt_hi hn)) hK) (And.intro rfl (And.intro rfl (And.intro rfl (trivial))))
      · skip
        rw [if_neg c2] at hB
        refine e_iload_n X dX9_wedPeople_20 rfl rfl ?_
        refine e_iconst X 1 dX9_wedPeople_21 rfl ?_
        refine e_iload_n X dX9_wedPeople_22 rfl rfl ?_
        refine e_ishl X dX9_wedPeople_23 ?_
        refine e_ior X dX9_wedPeople_24 ?_
        obtain ⟨x3, h_x3, hB⟩ := bindT_out hB
        refine e_istore_n X h_x3 dX9_wedPeople_25 rfl (by decide) ?_
        refine e_iinc X 1 dX9_wedPeople_26 rfl rfl (by decide) ?_
        refine e_goto X 4 dX9_wedPeople_29 (by decide) ?_
        have hy9 := hB; change (x3) = y9 at hy9; subst hy9
        exact e_le (ih _ x3 hF (cntN hn) (nnN h0 (cnt_hi hn)) hK) (And.intro rfl (And.intro rfl (And.intro rfl (trivial))))
set_option maxRecDepth 20000 in
set_option maxHeartbeats 4000000 in
theorem C_Town_wedPeople (hG : Gok l Γ D s0) (σ : Mem) (t : Nat) (gt : isTown t) : CT l Γ D s0 yX9_wedPeople cX9_wedPeople 3 (some .int) (4) 0 0 (85) σ [.ref (Γ.1 + t)] (PI (some (.int (F_Town_wedPeople σ t))) σ) := by
  generalize hF : F_Town_wedPeople σ t = out
  unfold F_Town_wedPeople at hF
  refine e_met (own := RX9) hG (by decide +kernel) rfl rfl (Nat.le_of_ble_eq_true rfl) ?_
  intro p e s m args below meth c X hr
  show E p l e _ s m args below meth c Γ D 0 0 _ σ 0 [some (.ref (Γ.1 + t)), none, none] []
  refine e_iconst X 0 dX9_wedPeople_0 rfl ?_
  refine e_istore_n X rfl dX9_wedPeople_1 rfl (by decide) ?_
  refine e_iconst X 0 dX9_wedPeople_2 rfl ?_
  refine e_istore_n X rfl dX9_wedPeople_3 rfl (by decide) ?_
  obtain ⟨z5, h_z5, hF⟩ := bindT_out hF
  refine e_le (L_Town_wedPeople_4 X hr σ t gt _ 0 0 h_z5.symm rfl (by decide) ?_) (And.intro rfl (And.intro rfl (And.intro rfl (trivial))))
  refine e_iload_n X dX9_wedPeople_32 rfl rfl ?_
  exact e_iret X hr dX9_wedPeople_33 (Nat.le_of_ble_eq_true rfl) (Nat.le_of_ble_eq_true rfl) (by cases hF; exact ⟨rfl, rfl⟩)
set_option maxRecDepth 20000 in
set_option maxHeartbeats 4000000 in
theorem L_Town_insurersOfPair_14 (X : Cx p l s m args meth c Γ D s0 RX9 cX9_insurersOfPair 6) (hr : meth.sig.returnType = (some .int)) (σ : Mem) (t : Nat) (v1 : Int32) (v2 : Int32) (v4 : Int32) (gt : isTown t) : ∀ (n : Nat) (v5 : Int32) (v3 : Int32) {z : Int32}, forS (fun i s => F_Town_insurersOfPair_14_b σ t v1 v2 v4 i s) n v5 v3 = z → n = cnt v5 ((σ t 8)) → ¬ v5 < 0 → (E p l e ({ frames := 1, cells := 0, slots := 0, locals := 21 } : Room) s m args below meth c Γ D 0 0 (MQ below (QcA Γ D Pst) args s 0 0 (frB Γ)) σ 66 [some (.ref (Γ.1 + t)), some (.int v1), some (.int v2), some (.int z), some (.int v4), none] []) → E p l e ({ frames := 1, cells := 0, slots := 0, locals := 21 } : Room) s m args below meth c Γ D 0 0 (MQ below (QcA Γ D Pst) args s 0 0 (frB Γ)) σ 14 [some (.ref (Γ.1 + t)), some (.int v1), some (.int v2), some (.int v3), some (.int v4), some (.int v5)] [] := by
  intro n
  induction n with
  | zero =>
    intro v5 v3 z hF hn h0 hK
    refine e_iload X dX9_insurersOfPair_14 rfl ?_
    refine e_aload_n X dX9_insurersOfPair_16 rfl rfl ?_
    refine ge_Town_people X gt wf_X9_62 dX9_insurersOfPair_17 ?_
    refine e_icmp_ge X 66 dX9_insurersOfPair_20 (by decide) (fun c6 => ?_) (fun c6 => ?_)
    · skip
      have hz9 := hF; change (v3) = z at hz9; subst hz9
      exact e_le hK (And.intro rfl (And.intro rfl (And.intro rfl (And.intro rfl (And.intro rfl (trivial))))))
    · skip
      exact absurd c6 (cnt0 hn)
  | succ n ih =>
    intro v5 v3 z hF hn h0 hK
    obtain ⟨y9, hB, hF⟩ := forS_step hF
    change F_Town_insurersOfPair_14_b σ t v1 v2 v4 v5 v3 = y9 at hB
    unfold F_Town_insurersOfPair_14_b at hB
    refine e_iload X dX9_insurersOfPair_14 rfl ?_
    refine e_aload_n X dX9_insurersOfPair_16 rfl rfl ?_
    refine ge_Town_people X gt wf_X9_62 dX9_insurersOfPair_17 ?_
    refine e_icmp_ge X 66 dX9_insurersOfPair_20 (by decide) (fun c2 => ?_) (fun c2 => ?_)
    · skip
      exact absurd (cntS hn) c2
    · skip
      refine e_iload X dX9_insurersOfPair_23 rfl ?_
      refine e_aload_n X dX9_insurersOfPair_25 rfl rfl ?_
      refine ge_Town_ruined X gt wf_X9_83 dX9_insurersOfPair_26 ?_
      refine e_ior X dX9_insurersOfPair_29 ?_
      refine e_iload X dX9_insurersOfPair_30 rfl ?_
      refine e_callSNi X (r := (F_W_contains σ ((v4 ||| (σ t 9))) v5)) (σ1 := σ) (host := RX11) [.int ((v4 ||| (σ t 9))), .int v5] [] (C_W_contains (Cx_gok X) σ ((v4 ||| (σ t 9))) v5) gb_X11_contains (by decide +kernel) wz_X11 ws_X11_contains yk_X11_contains.2 rfl ⟨Nat.le_of_ble_eq_true rfl, Nat.le_of_ble_eq_true rfl⟩ ⟨Nat.le_of_ble_eq_true rfl, Nat.le_of_ble_eq_true rfl⟩ (Nat.le_of_ble_eq_true rfl) dX9_insurersOfPair_32 rfl ?_
      refine e_if_ne X 60 dX9_insurersOfPair_35 (by decide) (fun c3 => ?_) (fun c3 => ?_)
      · skip
        rw [if_neg c3] at hB
        refine e_iinc X 1 dX9_insurersOfPair_60 rfl rfl (by decide) ?_
        refine e_goto X 14 dX9_insurersOfPair_63 (by decide) ?_
        have hy9 := hB; change (v3) = y9 at hy9; subst hy9
        exact e_le (ih _ v3 hF (cntN hn) (nnN h0 (cnt_hi hn)) hK) (And.intro rfl (And.intro rfl (And.intro rfl (And.intro rfl (And.intro rfl (And.intro rfl (trivial)))))))
      · skip
        rw [if_pos c3] at hB
        refine e_aload_n X dX9_insurersOfPair_38 rfl rfl ?_
        refine ge_Town_asked X gt wf_X9_20 dX9_insurersOfPair_39 ?_
        refine e_iload X dX9_insurersOfPair_42 rfl ?_
        refine e_callVi X (r := (F_Row_at σ (t + 3) 8 v5)) (σ1 := σ) [.int v5] [] (C_Row_at (Cx_gok X) σ (t + 3) 8 v5 gt.2.2.1) gv_X9_90 yk_X6_at rfl (ent_lt gt.2.2.1.1) (ent_at gt.2.2.1.1 _) (rfl : vCl[6]? = some (RX6, TX6, 1)) ⟨Nat.le_of_ble_eq_true rfl, Nat.le_of_ble_eq_true rfl⟩ ⟨Nat.le_of_ble_eq_true rfl, Nat.le_of_ble_eq_true rfl⟩ (Nat.le_of_ble_eq_true rfl) dX9_insurersOfPair_44 rfl ?_
        refine e_iload X dX9_insurersOfPair_47 rfl ?_
        refine e_iand X dX9_insurersOfPair_49 ?_
        refine e_if_eq X 60 dX9_insurersOfPair_50 (by decide) (fun c4 => ?_) (fun c4 => ?_)
        · skip
          rw [if_pos c4] at hB
          refine e_iinc X 1 dX9_insurersOfPair_60 rfl rfl (by decide) ?_
          refine e_goto X 14 dX9_insurersOfPair_63 (by decide) ?_
          have hy9 := hB; change (v3) = y9 at hy9; subst hy9
          exact e_le (ih _ v3 hF (cntN hn) (nnN h0 (cnt_hi hn)) hK) (And.intro rfl (And.intro rfl (And.intro rfl (And.intro rfl (And.intro rfl (And.intro rfl (trivial)))))))
        · skip
          rw [if_neg c4] at hB
          refine e_iload_n X dX9_insurersOfPair_53 rfl rfl ?_
          refine e_iconst X 1 dX9_insurersOfPair_54 rfl ?_
          refine e_iload X dX9_insurersOfPair_55 rfl ?_
          refine e_ishl X dX9_insurersOfPair_57 ?_
          refine e_ior X dX9_insurersOfPair_58 ?_
          obtain ⟨x5, h_x5, hB⟩ := bindT_out hB
          refine e_istore_n X h_x5 dX9_insurersOfPair_59 rfl (by decide) ?_
          refine e_iinc X 1 dX9_insurersOfPair_60 rfl rfl (by decide) ?_
          refine e_goto X 14 dX9_insurersOfPair_63 (by decide) ?_
          have hy9 := hB; change (x5) = y9 at hy9; subst hy9
          exact e_le (ih _ x5 hF (cntN hn) (nnN h0 (cnt_hi hn)) hK) (And.intro rfl (And.intro rfl (And.intro rfl (And.intro rfl (And.intro rfl (And.intro rfl (trivial)))))))
set_option maxRecDepth 20000 in
set_option maxHeartbeats 4000000 in
theorem C_Town_insurersOfPair (hG : Gok l Γ D s0) (σ : Mem) (t : Nat) (v1 : Int32) (v2 : Int32) (gt : isTown t) : CT l Γ D s0 yX9_insurersOfPair cX9_insurersOfPair 6 (some .int) (1) 0 0 (21) σ [.ref (Γ.1 + t), .int v1, .int v2] (PI (some (.int (F_Town_insurersOfPair σ t v1 v2))) σ) := by
  generalize hF : F_Town_insurersOfPair σ t v1 v2 = out
  unfold F_Town_insurersOfPair at hF
  refine e_met (own := RX9) hG (by decide +kernel) rfl rfl (Nat.le_of_ble_eq_true rfl) ?_
  intro p e s m args below meth c X hr
  show E p l e _ s m args below meth c Γ D 0 0 _ σ 0 [some (.ref (Γ.1 + t)), some (.int v1), some (.int v2), none, none, none] []
  refine e_iconst X 0 dX9_insurersOfPair_0 rfl ?_
  refine e_istore_n X rfl dX9_insurersOfPair_1 rfl (by decide) ?_
  refine e_iconst X 1 dX9_insurersOfPair_2 rfl ?_
  refine e_iload_n X dX9_insurersOfPair_3 rfl rfl ?_
  refine e_ishl X dX9_insurersOfPair_4 ?_
  refine e_iconst X 1 dX9_insurersOfPair_5 rfl ?_
  refine e_iload_n X dX9_insurersOfPair_6 rfl rfl ?_
  refine e_ishl X dX9_insurersOfPair_7 ?_
  refine e_ior X dX9_insurersOfPair_8 ?_
  obtain ⟨x1, h_x1, hF⟩ := bindT_out hF
  refine e_istore X h_x1 dX9_insurersOfPair_9 (by decide) ?_
  refine e_iconst X 0 dX9_insurersOfPair_11 rfl ?_
  refine e_istore X rfl dX9_insurersOfPair_12 (by decide) ?_
  obtain ⟨z7, h_z7, hF⟩ := bindT_out hF
  refine e_le (L_Town_insurersOfPair_14 X hr σ t v1 v2 x1 gt _ 0 0 h_z7.symm rfl (by decide) ?_) (And.intro rfl (And.intro rfl (And.intro rfl (And.intro rfl (And.intro rfl (And.intro rfl (trivial)))))))
  refine e_iload_n X dX9_insurersOfPair_66 rfl rfl ?_
  refine e_callSOi X (r := (F_Int_bitCount_0f7a4 σ z7)) (σ1 := σ) [.int z7] [] (C_Int_bitCount_0f7a4 (Cx_gok X) σ z7) gb_J6_bitCount_0f7a4 wm_X9_133 ws_J6_bitCount_0f7a4 wz_J6 yk_J6_bitCount_0f7a4.2 rfl ⟨Nat.le_of_ble_eq_true rfl, Nat.le_of_ble_eq_true rfl⟩ ⟨Nat.le_of_ble_eq_true rfl, Nat.le_of_ble_eq_true rfl⟩ (Nat.le_of_ble_eq_true rfl) dX9_insurersOfPair_67 rfl ?_
  refine e_iconst X 2 dX9_insurersOfPair_70 rfl ?_
  refine e_icmp_ge X 78 dX9_insurersOfPair_71 (by decide) (fun c8 => ?_) (fun c8 => ?_)
  · skip
    rw [if_neg c8] at hF
    refine e_iload_n X dX9_insurersOfPair_78 rfl rfl ?_
    exact e_iret X hr dX9_insurersOfPair_79 (Nat.le_of_ble_eq_true rfl) (Nat.le_of_ble_eq_true rfl) (by cases hF; exact ⟨rfl, rfl⟩)
  · skip
    rw [if_pos c8] at hF
    refine e_iconst X 0 dX9_insurersOfPair_74 rfl ?_
    refine e_goto X 79 dX9_insurersOfPair_75 (by decide) ?_
    exact e_iret X hr dX9_insurersOfPair_79 (Nat.le_of_ble_eq_true rfl) (Nat.le_of_ble_eq_true rfl) (by cases hF; exact ⟨rfl, rfl⟩)
set_option maxRecDepth 20000 in
set_option maxHeartbeats 4000000 in
theorem C_Town_insurersOf (hG : Gok l Γ D s0) (σ : Mem) (t : Nat) (v1 : Int32) (gt : isTown t) : CT l Γ D s0 yX9_insurersOf cX9_insurersOf 2 (some .int) (2) 0 0 (46) σ [.ref (Γ.1 + t), .int v1] (PI (some (.int (F_Town_insurersOf σ t v1))) σ) := by
  generalize hF : F_Town_insurersOf σ t v1 = out
  unfold F_Town_insurersOf at hF
  refine e_met (own := RX9) hG (by decide +kernel) rfl rfl (Nat.le_of_ble_eq_true rfl) ?_
  intro p e s m args below meth c X hr
  show E p l e _ s m args below meth c Γ D 0 0 _ σ 0 [some (.ref (Γ.1 + t)), some (.int v1)] []
  refine e_aload_n X dX9_insurersOf_0 rfl rfl ?_
  refine e_iload_n X dX9_insurersOf_1 rfl rfl ?_
  refine e_callVi X (r := (F_Town_isOver σ t v1)) (σ1 := σ) [.int v1] [] (C_Town_isOver (Cx_gok X) σ t v1 gt) gv_X9_118 yk_X9_isOver rfl (ent_lt gt.1) (ent_at gt.1 _) (rfl : vCl[8]? = some (RX9, TX9, 20)) ⟨Nat.le_of_ble_eq_true rfl, Nat.le_of_ble_eq_true rfl⟩ ⟨Nat.le_of_ble_eq_true rfl, Nat.le_of_ble_eq_true rfl⟩ (Nat.le_of_ble_eq_true rfl) dX9_insurersOf_2 rfl ?_
  refine e_if_eq X 12 dX9_insurersOf_5 (by decide) (fun c1 => ?_) (fun c1 => ?_)
  · skip
    rw [if_pos c1] at hF
    refine e_aload_n X dX9_insurersOf_12 rfl rfl ?_
    refine e_aload_n X dX9_insurersOf_13 rfl rfl ?_
    refine e_iload_n X dX9_insurersOf_14 rfl rfl ?_
    refine e_callVi X (r := (F_Town_firstOf σ t v1)) (σ1 := σ) [.int v1] [.ref (Γ.1 + t)] (C_Town_firstOf (Cx_gok X) σ t v1 gt) gv_X9_121 yk_X9_firstOf rfl (ent_lt gt.1) (ent_at gt.1 _) (rfl : vCl[8]? = some (RX9, TX9, 20)) ⟨Nat.le_of_ble_eq_true rfl, Nat.le_of_ble_eq_true rfl⟩ ⟨Nat.le_of_ble_eq_true rfl, Nat.le_of_ble_eq_true rfl⟩ (Nat.le_of_ble_eq_true rfl) dX9_insurersOf_15 rfl ?_
    refine e_aload_n X dX9_insurersOf_18 rfl rfl ?_
    refine e_iload_n X dX9_insurersOf_19 rfl rfl ?_
    refine e_callVi X (r := (F_Town_secondOf σ t v1)) (σ1 := σ) [.int v1] [.int ((F_Town_firstOf σ t v1)), .ref (Γ.1 + t)] (C_Town_secondOf (Cx_gok X) σ t v1 gt) gv_X9_124 yk_X9_secondOf rfl (ent_lt gt.1) (ent_at gt.1 _) (rfl : vCl[8]? = some (RX9, TX9, 20)) ⟨Nat.le_of_ble_eq_true rfl, Nat.le_of_ble_eq_true rfl⟩ ⟨Nat.le_of_ble_eq_true rfl, Nat.le_of_ble_eq_true rfl⟩ (Nat.le_of_ble_eq_true rfl) dX9_insurersOf_20 rfl ?_
    refine e_callVi X (r := (F_Town_insurersOfPair σ t ((F_Town_firstOf σ t v1)) ((F_Town_secondOf σ t v1)))) (σ1 := σ) [.int ((F_Town_firstOf σ t v1)), .int ((F_Town_secondOf σ t v1))] [] (C_Town_insurersOfPair (Cx_gok X) σ t ((F_Town_firstOf σ t v1)) ((F_Town_secondOf σ t v1)) gt) gv_X9_138 yk_X9_insurersOfPair rfl (ent_lt gt.1) (ent_at gt.1 _) (rfl : vCl[8]? = some (RX9, TX9, 20)) ⟨Nat.le_of_ble_eq_true rfl, Nat.le_of_ble_eq_true rfl⟩ ⟨Nat.le_of_ble_eq_true rfl, Nat.le_of_ble_eq_true rfl⟩ (Nat.le_of_ble_eq_true rfl) dX9_insurersOf_23 rfl ?_
    exact e_iret X hr dX9_insurersOf_26 (Nat.le_of_ble_eq_true rfl) (Nat.le_of_ble_eq_true rfl) (by cases hF; exact ⟨rfl, rfl⟩)
  · skip
    rw [if_neg c1] at hF
    refine e_iconst X 0 dX9_insurersOf_8 rfl ?_
    refine e_goto X 26 dX9_insurersOf_9 (by decide) ?_
    exact e_iret X hr dX9_insurersOf_26 (Nat.le_of_ble_eq_true rfl) (Nat.le_of_ble_eq_true rfl) (by cases hF; exact ⟨rfl, rfl⟩)
set_option maxRecDepth 20000 in
set_option maxHeartbeats 4000000 in
theorem C_Town_lookAt (hG : Gok l Γ D s0) (σ : Mem) (t : Nat) (v1 : Int32) (v2 : Int32) (k3 : Nat) (gt : isTown t) (gk3 : isLook k3) : CT l Γ D s0 yX9_lookAt cX9_lookAt 6 none (3) 0 0 (67) σ [.ref (Γ.1 + t), .int v1, .int v2, .ref (Γ.1 + k3)] (PI none (F_Town_lookAt σ t v1 v2 k3)) := by
  generalize hF : F_Town_lookAt σ t v1 v2 k3 = out
  unfold F_Town_lookAt at hF
  refine e_met (own := RX9) hG (by decide +kernel) rfl rfl (Nat.le_of_ble_eq_true rfl) ?_
  intro p e s m args below meth c X hr
  show E p l e _ s m args below meth c Γ D 0 0 _ σ 0 [some (.ref (Γ.1 + t)), some (.int v1), some (.int v2), some (.ref (Γ.1 + k3)), none, none] []
  refine e_aload_n X dX9_lookAt_0 rfl rfl ?_
  refine e_iload_n X dX9_lookAt_1 rfl rfl ?_
  refine e_callVi X (r := (F_Town_firstOf σ t v1)) (σ1 := σ) [.int v1] [] (C_Town_firstOf (Cx_gok X) σ t v1 gt) gv_X9_121 yk_X9_firstOf rfl (ent_lt gt.1) (ent_at gt.1 _) (rfl : vCl[8]? = some (RX9, TX9, 20)) ⟨Nat.le_of_ble_eq_true rfl, Nat.le_of_ble_eq_true rfl⟩ ⟨Nat.le_of_ble_eq_true rfl, Nat.le_of_ble_eq_true rfl⟩ (Nat.le_of_ble_eq_true rfl) dX9_lookAt_2 rfl ?_
  obtain ⟨x1, h_x1, hF⟩ := bindT_out hF
  refine e_istore X h_x1 dX9_lookAt_5 (by decide) ?_
  refine e_aload_n X dX9_lookAt_7 rfl rfl ?_
  refine e_iload_n X dX9_lookAt_8 rfl rfl ?_
  refine e_callVi X (r := (F_Town_secondOf σ t v1)) (σ1 := σ) [.int v1] [] (C_Town_secondOf (Cx_gok X) σ t v1 gt) gv_X9_124 yk_X9_secondOf rfl (ent_lt gt.1) (ent_at gt.1 _) (rfl : vCl[8]? = some (RX9, TX9, 20)) ⟨Nat.le_of_ble_eq_true rfl, Nat.le_of_ble_eq_true rfl⟩ ⟨Nat.le_of_ble_eq_true rfl, Nat.le_of_ble_eq_true rfl⟩ (Nat.le_of_ble_eq_true rfl) dX9_lookAt_9 rfl ?_
  obtain ⟨x2, h_x2, hF⟩ := bindT_out hF
  refine e_istore X h_x2 dX9_lookAt_12 (by decide) ?_
  refine e_aload_n X dX9_lookAt_14 rfl rfl ?_
  refine e_aload_n X dX9_lookAt_15 rfl rfl ?_
  refine ge_Town_happy X gt wf_X9_32 dX9_lookAt_16 ?_
  refine e_iload_n X dX9_lookAt_19 rfl rfl ?_
  refine e_callVi X (r := (F_Row_at σ (t + 11) 20 v1)) (σ1 := σ) [.int v1] [.ref (Γ.1 + k3)] (C_Row_at (Cx_gok X) σ (t + 11) 20 v1 gt.2.2.2.2.2.2.1) gv_X9_90 yk_X6_at rfl (ent_lt gt.2.2.2.2.2.2.1.1) (ent_at gt.2.2.2.2.2.2.1.1 _) (rfl : vCl[6]? = some (RX6, TX6, 1)) ⟨Nat.le_of_ble_eq_true rfl, Nat.le_of_ble_eq_true rfl⟩ ⟨Nat.le_of_ble_eq_true rfl, Nat.le_of_ble_eq_true rfl⟩ (Nat.le_of_ble_eq_true rfl) dX9_lookAt_20 rfl ?_
  obtain ⟨σ3, h_σ3, hF⟩ := bindT_out hF
  refine pu_Look_happy X gk3 wf_X9_142 dX9_lookAt_23 h_σ3 ?_
  refine e_aload_n X dX9_lookAt_26 rfl rfl ?_
  refine e_aload_n X dX9_lookAt_27 rfl rfl ?_
  refine ge_Town_monthsWed X gt wf_X9_35 dX9_lookAt_28 ?_
  refine e_iload_n X dX9_lookAt_31 rfl rfl ?_
  refine e_callVi X (r := (F_Row_at σ3 (t + 13) 20 v1)) (σ1 := σ3) [.int v1] [.ref (Γ.1 + k3)] (C_Row_at (Cx_gok X) σ3 (t + 13) 20 v1 gt.2.2.2.2.2.2.2.1) gv_X9_90 yk_X6_at rfl (ent_lt gt.2.2.2.2.2.2.2.1.1) (ent_at gt.2.2.2.2.2.2.2.1.1 _) (rfl : vCl[6]? = some (RX6, TX6, 1)) ⟨Nat.le_of_ble_eq_true rfl, Nat.le_of_ble_eq_true rfl⟩ ⟨Nat.le_of_ble_eq_true rfl, Nat.le_of_ble_eq_true rfl⟩ (Nat.le_of_ble_eq_true rfl) dX9_lookAt_32 rfl ?_
  obtain ⟨σ4, h_σ4, hF⟩ := bindT_out hF
  refine pu_Look_months X gk3 wf_X9_146 dX9_lookAt_35 h_σ4 ?_
  refine e_aload_n X dX9_lookAt_38 rfl rfl ?_
  refine e_iload_n X dX9_lookAt_39 rfl rfl ?_
  obtain ⟨σ5, h_σ5, hF⟩ := bindT_out hF
  refine pu_Look_quarrel X gk3 wf_X9_149 dX9_lookAt_40 h_σ5 ?_
  refine e_aload_n X dX9_lookAt_43 rfl rfl ?_
  refine e_aload_n X dX9_lookAt_44 rfl rfl ?_
  refine e_iload_n X dX9_lookAt_45 rfl rfl ?_
  refine e_callVi X (r := (F_Town_insurersOf σ5 t v1)) (σ1 := σ5) [.int v1] [.ref (Γ.1 + k3)] (C_Town_insurersOf (Cx_gok X) σ5 t v1 gt) gv_X9_150 yk_X9_insurersOf rfl (ent_lt gt.1) (ent_at gt.1 _) (rfl : vCl[8]? = some (RX9, TX9, 20)) ⟨Nat.le_of_ble_eq_true rfl, Nat.le_of_ble_eq_true rfl⟩ ⟨Nat.le_of_ble_eq_true rfl, Nat.le_of_ble_eq_true rfl⟩ (Nat.le_of_ble_eq_true rfl) dX9_lookAt_46 rfl ?_
  refine e_callSOi X (r := (F_Int_bitCount_0f7a4 σ5 ((F_Town_insurersOf σ5 t v1)))) (σ1 := σ5) [.int ((F_Town_insurersOf σ5 t v1))] [.ref (Γ.1 + k3)] (C_Int_bitCount_0f7a4 (Cx_gok X) σ5 ((F_Town_insurersOf σ5 t v1))) gb_J6_bitCount_0f7a4 wm_X9_133 ws_J6_bitCount_0f7a4 wz_J6 yk_J6_bitCount_0f7a4.2 rfl ⟨Nat.le_of_ble_eq_true rfl, Nat.le_of_ble_eq_true rfl⟩ ⟨Nat.le_of_ble_eq_true rfl, Nat.le_of_ble_eq_true rfl⟩ (Nat.le_of_ble_eq_true rfl) dX9_lookAt_49 rfl ?_
  obtain ⟨σ6, h_σ6, hF⟩ := bindT_out hF
  refine pu_Look_insurers X gk3 wf_X9_153 dX9_lookAt_52 h_σ6 ?_
  refine e_aload_n X dX9_lookAt_55 rfl rfl ?_
  refine e_aload_n X dX9_lookAt_56 rfl rfl ?_
  refine e_iload X dX9_lookAt_57 rfl ?_
  refine e_iload X dX9_lookAt_59 rfl ?_
  refine e_callVi X (r := (F_Town_likingOf σ6 t x1 x2)) (σ1 := σ6) [.int x1, .int x2] [.ref (Γ.1 + k3)] (C_Town_likingOf (Cx_gok X) σ6 t x1 x2 gt) gv_X9_156 yk_X9_likingOf rfl (ent_lt gt.1) (ent_at gt.1 _) (rfl : vCl[8]? = some (RX9, TX9, 20)) ⟨Nat.le_of_ble_eq_true rfl, Nat.le_of_ble_eq_true rfl⟩ ⟨Nat.le_of_ble_eq_true rfl, Nat.le_of_ble_eq_true rfl⟩ (Nat.le_of_ble_eq_true rfl) dX9_lookAt_61 rfl ?_
  refine e_aload_n X dX9_lookAt_64 rfl rfl ?_
  refine e_iload X dX9_lookAt_65 rfl ?_
  refine e_iload X dX9_lookAt_67 rfl ?_
  refine e_callVi X (r := (F_Town_likingOf σ6 t x2 x1)) (σ1 := σ6) [.int x2, .int x1] [.int ((F_Town_likingOf σ6 t x1 x2)), .ref (Γ.1 + k3)] (C_Town_likingOf (Cx_gok X) σ6 t x2 x1 gt) gv_X9_156 yk_X9_likingOf rfl (ent_lt gt.1) (ent_at gt.1 _) (rfl : vCl[8]? = some (RX9, TX9, 20)) ⟨Nat.le_of_ble_eq_true rfl, Nat.le_of_ble_eq_true rfl⟩ ⟨Nat.le_of_ble_eq_true rfl, Nat.le_of_ble_eq_true rfl⟩ (Nat.le_of_ble_eq_true rfl) dX9_lookAt_69 rfl ?_
  refine e_iadd X dX9_lookAt_72 ?_
  obtain ⟨σ7, h_σ7, hF⟩ := bindT_out hF
  refine pu_Look_liking X gk3 wf_X9_159 dX9_lookAt_73 h_σ7 ?_
  refine e_aload_n X dX9_lookAt_76 rfl rfl ?_
  refine e_aload_n X dX9_lookAt_77 rfl rfl ?_
  refine ge_Town_month X gt wf_X9_71 dX9_lookAt_78 ?_
  obtain ⟨σ8, h_σ8, hF⟩ := bindT_out hF
  refine pu_Look_month X gk3 wf_X9_162 dX9_lookAt_81 h_σ8 ?_
  refine e_aload_n X dX9_lookAt_84 rfl rfl ?_
  refine e_aload_n X dX9_lookAt_85 rfl rfl ?_
  refine ge_Town_wealth X gt wf_X9_14 dX9_lookAt_86 ?_
  refine e_iload X dX9_lookAt_89 rfl ?_
  refine e_callVi X (r := (F_Row_at σ8 (t + 1) 8 x1)) (σ1 := σ8) [.int x1] [.ref (Γ.1 + k3)] (C_Row_at (Cx_gok X) σ8 (t + 1) 8 x1 gt.2.1) gv_X9_90 yk_X6_at rfl (ent_lt gt.2.1.1) (ent_at gt.2.1.1 _) (rfl : vCl[6]? = some (RX6, TX6, 1)) ⟨Nat.le_of_ble_eq_true rfl, Nat.le_of_ble_eq_true rfl⟩ ⟨Nat.le_of_ble_eq_true rfl, Nat.le_of_ble_eq_true rfl⟩ (Nat.le_of_ble_eq_true rfl) dX9_lookAt_91 rfl ?_
  refine e_aload_n X dX9_lookAt_94 rfl rfl ?_
  refine ge_Town_wealth X gt wf_X9_14 dX9_lookAt_95 ?_
  refine e_iload X dX9_lookAt_98 rfl ?_
  refine e_callVi X (r := (F_Row_at σ8 (t + 1) 8 x2)) (σ1 := σ8) [.int x2] [.int ((F_Row_at σ8 (t + 1) 8 x1)), .ref (Γ.1 + k3)] (C_Row_at (Cx_gok X) σ8 (t + 1) 8 x2 gt.2.1) gv_X9_90 yk_X6_at rfl (ent_lt gt.2.1.1) (ent_at gt.2.1.1 _) (rfl : vCl[6]? = some (RX6, TX6, 1)) ⟨Nat.le_of_ble_eq_true rfl, Nat.le_of_ble_eq_true rfl⟩ ⟨Nat.le_of_ble_eq_true rfl, Nat.le_of_ble_eq_true rfl⟩ (Nat.le_of_ble_eq_true rfl) dX9_lookAt_100 rfl ?_
  refine e_iadd X dX9_lookAt_103 ?_
  refine e_bipush X 99 dX9_lookAt_104 rfl ?_
  refine e_icmp_le X 113 dX9_lookAt_106 (by decide) (fun c9 => ?_) (fun c9 => ?_)
  · skip
    rw [if_neg c9] at hF
    refine e_iconst X 0 dX9_lookAt_113 rfl ?_
    obtain ⟨σ10, h_σ10, hF⟩ := bindT_out hF
    refine pu_Look_rich X gk3 (Or.inl rfl) wf_X9_163 dX9_lookAt_114 h_σ10 ?_
    exact e_vret X hr dX9_lookAt_117 (Nat.le_of_ble_eq_true rfl) (Nat.le_of_ble_eq_true rfl) (by cases hF; exact ⟨rfl, rfl⟩)
  · skip
    rw [if_pos c9] at hF
    refine e_iconst X 1 dX9_lookAt_109 rfl ?_
    refine e_goto X 114 dX9_lookAt_110 (by decide) ?_
    obtain ⟨σ11, h_σ11, hF⟩ := bindT_out hF
    refine pu_Look_rich X gk3 (Or.inr rfl) wf_X9_163 dX9_lookAt_114 h_σ11 ?_
    exact e_vret X hr dX9_lookAt_117 (Nat.le_of_ble_eq_true rfl) (Nat.le_of_ble_eq_true rfl) (by cases hF; exact ⟨rfl, rfl⟩)
set_option maxRecDepth 20000 in
set_option maxHeartbeats 4000000 in
theorem C_Town_take (hG : Gok l Γ D s0) (σ : Mem) (t : Nat) (v1 : Int32) (v2 : Int32) (gt : isTown t) : CT l Γ D s0 yX9_take cX9_take 4 (some .int) (1) 0 0 (22) σ [.ref (Γ.1 + t), .int v1, .int v2] (PI (some (.int (F_Town_take σ t v1 v2).2)) (F_Town_take σ t v1 v2).1) := by
  generalize hF : F_Town_take σ t v1 v2 = out
  unfold F_Town_take at hF
  refine e_met (own := RX9) hG (by decide +kernel) rfl rfl (Nat.le_of_ble_eq_true rfl) ?_
  intro p e s m args below meth c X hr
  show E p l e _ s m args below meth c Γ D 0 0 _ σ 0 [some (.ref (Γ.1 + t)), some (.int v1), some (.int v2), none] []
  refine e_aload_n X dX9_take_0 rfl rfl ?_
  refine ge_Town_wealth X gt wf_X9_14 dX9_take_1 ?_
  refine e_iload_n X dX9_take_4 rfl rfl ?_
  refine e_callVi X (r := (F_Row_at σ (t + 1) 8 v1)) (σ1 := σ) [.int v1] [] (C_Row_at (Cx_gok X) σ (t + 1) 8 v1 gt.2.1) gv_X9_90 yk_X6_at rfl (ent_lt gt.2.1.1) (ent_at gt.2.1.1 _) (rfl : vCl[6]? = some (RX6, TX6, 1)) ⟨Nat.le_of_ble_eq_true rfl, Nat.le_of_ble_eq_true rfl⟩ ⟨Nat.le_of_ble_eq_true rfl, Nat.le_of_ble_eq_true rfl⟩ (Nat.le_of_ble_eq_true rfl) dX9_take_5 rfl ?_
  refine e_iload_n X dX9_take_8 rfl rfl ?_
  refine e_mmin X wMl_X9_172 wMs_min wMi wMc_min (Nat.le_of_ble_eq_true rfl) (Nat.le_of_ble_eq_true rfl) (Nat.le_of_ble_eq_true rfl) (Nat.le_of_ble_eq_true rfl) dX9_take_9 ?_
  obtain ⟨x1, h_x1, hF⟩ := bindT_out hF
  refine e_istore_n X h_x1 dX9_take_12 rfl (by decide) ?_
  refine e_aload_n X dX9_take_13 rfl rfl ?_
  refine ge_Town_wealth X gt wf_X9_14 dX9_take_14 ?_
  refine e_iload_n X dX9_take_17 rfl rfl ?_
  refine e_aload_n X dX9_take_18 rfl rfl ?_
  refine ge_Town_wealth X gt wf_X9_14 dX9_take_19 ?_
  refine e_iload_n X dX9_take_22 rfl rfl ?_
  refine e_callVi X (r := (F_Row_at σ (t + 1) 8 v1)) (σ1 := σ) [.int v1] [.int v1, .ref (Γ.1 + (t + 1))] (C_Row_at (Cx_gok X) σ (t + 1) 8 v1 gt.2.1) gv_X9_90 yk_X6_at rfl (ent_lt gt.2.1.1) (ent_at gt.2.1.1 _) (rfl : vCl[6]? = some (RX6, TX6, 1)) ⟨Nat.le_of_ble_eq_true rfl, Nat.le_of_ble_eq_true rfl⟩ ⟨Nat.le_of_ble_eq_true rfl, Nat.le_of_ble_eq_true rfl⟩ (Nat.le_of_ble_eq_true rfl) dX9_take_23 rfl ?_
  refine e_iload_n X dX9_take_26 rfl rfl ?_
  refine e_isub X dX9_take_27 ?_
  obtain ⟨z2, h_z2, hF⟩ := bindT_out hF
  refine e_callVv X (σ1 := z2) [.int v1, .int (((F_Row_at σ (t + 1) 8 v1) - x1))] [] (by rw [h_z2]; exact C_Row_put (Cx_gok X) σ (t + 1) 8 v1 (((F_Row_at σ (t + 1) 8 v1) - x1)) gt.2.1) gv_X9_86 yk_X6_put rfl (ent_lt gt.2.1.1) (ent_at gt.2.1.1 _) (rfl : vCl[6]? = some (RX6, TX6, 1)) ⟨Nat.le_of_ble_eq_true rfl, Nat.le_of_ble_eq_true rfl⟩ ⟨Nat.le_of_ble_eq_true rfl, Nat.le_of_ble_eq_true rfl⟩ (Nat.le_of_ble_eq_true rfl) dX9_take_28 rfl ?_
  refine e_iload_n X dX9_take_31 rfl rfl ?_
  exact e_iret X hr dX9_take_32 (Nat.le_of_ble_eq_true rfl) (Nat.le_of_ble_eq_true rfl) (by cases hF; exact ⟨rfl, rfl⟩)
set_option maxRecDepth 20000 in
set_option maxHeartbeats 4000000 in
theorem C_Town_give (hG : Gok l Γ D s0) (σ : Mem) (t : Nat) (v1 : Int32) (v2 : Int32) (gt : isTown t) : CT l Γ D s0 yX9_give cX9_give 3 none (1) 0 0 (22) σ [.ref (Γ.1 + t), .int v1, .int v2] (PI none (F_Town_give σ t v1 v2)) := by
  generalize hF : F_Town_give σ t v1 v2 = out
  unfold F_Town_give at hF
  refine e_met (own := RX9) hG (by decide +kernel) rfl rfl (Nat.le_of_ble_eq_true rfl) ?_
  intro p e s m args below meth c X hr
  show E p l e _ s m args below meth c Γ D 0 0 _ σ 0 [some (.ref (Γ.1 + t)), some (.int v1), some (.int v2)] []
  refine e_aload_n X dX9_give_0 rfl rfl ?_
  refine ge_Town_wealth X gt wf_X9_14 dX9_give_1 ?_
  refine e_iload_n X dX9_give_4 rfl rfl ?_
  refine e_sipush X 999 dX9_give_5 rfl ?_
  refine e_aload_n X dX9_give_8 rfl rfl ?_
  refine ge_Town_wealth X gt wf_X9_14 dX9_give_9 ?_
  refine e_iload_n X dX9_give_12 rfl rfl ?_
  refine e_callVi X (r := (F_Row_at σ (t + 1) 8 v1)) (σ1 := σ) [.int v1] [.int 999, .int v1, .ref (Γ.1 + (t + 1))] (C_Row_at (Cx_gok X) σ (t + 1) 8 v1 gt.2.1) gv_X9_90 yk_X6_at rfl (ent_lt gt.2.1.1) (ent_at gt.2.1.1 _) (rfl : vCl[6]? = some (RX6, TX6, 1)) ⟨Nat.le_of_ble_eq_true rfl, Nat.le_of_ble_eq_true rfl⟩ ⟨Nat.le_of_ble_eq_true rfl, Nat.le_of_ble_eq_true rfl⟩ (Nat.le_of_ble_eq_true rfl) dX9_give_13 rfl ?_
  refine e_iload_n X dX9_give_16 rfl rfl ?_
  refine e_iadd X dX9_give_17 ?_
  refine e_mmin X wMl_X9_172 wMs_min wMi wMc_min (Nat.le_of_ble_eq_true rfl) (Nat.le_of_ble_eq_true rfl) (Nat.le_of_ble_eq_true rfl) (Nat.le_of_ble_eq_true rfl) dX9_give_18 ?_
  obtain ⟨z1, h_z1, hF⟩ := bindT_out hF
  refine e_callVv X (σ1 := z1) [.int v1, .int ((if ((F_Row_at σ (t + 1) 8 v1) + v2) < 999 then ((F_Row_at σ (t + 1) 8 v1) + v2) else 999))] [] (by rw [h_z1]; exact C_Row_put (Cx_gok X) σ (t + 1) 8 v1 ((if ((F_Row_at σ (t + 1) 8 v1) + v2) < 999 then ((F_Row_at σ (t + 1) 8 v1) + v2) else 999)) gt.2.1) gv_X9_86 yk_X6_put rfl (ent_lt gt.2.1.1) (ent_at gt.2.1.1 _) (rfl : vCl[6]? = some (RX6, TX6, 1)) ⟨Nat.le_of_ble_eq_true rfl, Nat.le_of_ble_eq_true rfl⟩ ⟨Nat.le_of_ble_eq_true rfl, Nat.le_of_ble_eq_true rfl⟩ (Nat.le_of_ble_eq_true rfl) dX9_give_21 rfl ?_
  exact e_vret X hr dX9_give_24 (Nat.le_of_ble_eq_true rfl) (Nat.le_of_ble_eq_true rfl) (by cases hF; exact ⟨rfl, rfl⟩)
set_option maxRecDepth 20000 in
set_option maxHeartbeats 4000000 in
theorem C_Town_ruinIfShort (hG : Gok l Γ D s0) (σ : Mem) (t : Nat) (v1 : Int32) (v2 : Int32) (gt : isTown t) : CT l Γ D s0 yX9_ruinIfShort cX9_ruinIfShort 3 none (1) 0 0 (21) σ [.ref (Γ.1 + t), .int v1, .int v2] (PI none (F_Town_ruinIfShort σ t v1 v2)) := by
  generalize hF : F_Town_ruinIfShort σ t v1 v2 = out
  unfold F_Town_ruinIfShort at hF
  refine e_met (own := RX9) hG (by decide +kernel) rfl rfl (Nat.le_of_ble_eq_true rfl) ?_
  intro p e s m args below meth c X hr
  show E p l e _ s m args below meth c Γ D 0 0 _ σ 0 [some (.ref (Γ.1 + t)), some (.int v1), some (.int v2)] []
  refine e_aload_n X dX9_ruinIfShort_0 rfl rfl ?_
  refine ge_Town_wealth X gt wf_X9_14 dX9_ruinIfShort_1 ?_
  refine e_iload_n X dX9_ruinIfShort_4 rfl rfl ?_
  refine e_callVi X (r := (F_Row_at σ (t + 1) 8 v1)) (σ1 := σ) [.int v1] [] (C_Row_at (Cx_gok X) σ (t + 1) 8 v1 gt.2.1) gv_X9_90 yk_X6_at rfl (ent_lt gt.2.1.1) (ent_at gt.2.1.1 _) (rfl : vCl[6]? = some (RX6, TX6, 1)) ⟨Nat.le_of_ble_eq_true rfl, Nat.le_of_ble_eq_true rfl⟩ ⟨Nat.le_of_ble_eq_true rfl, Nat.le_of_ble_eq_true rfl⟩ (Nat.le_of_ble_eq_true rfl) dX9_ruinIfShort_5 rfl ?_
  refine e_iload_n X dX9_ruinIfShort_8 rfl rfl ?_
  refine e_icmp_ge X 24 dX9_ruinIfShort_9 (by decide) (fun c1 => ?_) (fun c1 => ?_)
  · skip
    rw [if_neg c1] at hF
    exact e_vret X hr dX9_ruinIfShort_24 (Nat.le_of_ble_eq_true rfl) (Nat.le_of_ble_eq_true rfl) (by cases hF; exact ⟨rfl, rfl⟩)
  · skip
    rw [if_pos c1] at hF
    refine e_aload_n X dX9_ruinIfShort_12 rfl rfl ?_
    refine e_dup X dX9_ruinIfShort_13 rfl ?_
    refine ge_Town_ruined X gt wf_X9_83 dX9_ruinIfShort_14 ?_
    refine e_iconst X 1 dX9_ruinIfShort_17 rfl ?_
    refine e_iload_n X dX9_ruinIfShort_18 rfl rfl ?_
    refine e_ishl X dX9_ruinIfShort_19 ?_
    refine e_ior X dX9_ruinIfShort_20 ?_
    obtain ⟨σ2, h_σ2, hF⟩ := bindT_out hF
    refine pu_Town_ruined X gt wf_X9_83 dX9_ruinIfShort_21 h_σ2 ?_
    exact e_vret X hr dX9_ruinIfShort_24 (Nat.le_of_ble_eq_true rfl) (Nat.le_of_ble_eq_true rfl) (by cases hF; exact ⟨rfl, rfl⟩)
set_option maxRecDepth 20000 in
set_option maxHeartbeats 4000000 in
theorem C_Town_payOut (hG : Gok l Γ D s0) (σ : Mem) (t : Nat) (v1 : Int32) (gt : isTown t) : CT l Γ D s0 yX9_payOut cX9_payOut 3 (some .int) (2) 0 0 (45) σ [.ref (Γ.1 + t), .int v1] (PI (some (.int (F_Town_payOut σ t v1).2)) (F_Town_payOut σ t v1).1) := by
  generalize hF : F_Town_payOut σ t v1 = out
  unfold F_Town_payOut at hF
  refine e_met (own := RX9) hG (by decide +kernel) rfl rfl (Nat.le_of_ble_eq_true rfl) ?_
  intro p e s m args below meth c X hr
  show E p l e _ s m args below meth c Γ D 0 0 _ σ 0 [some (.ref (Γ.1 + t)), some (.int v1), none] []
  refine e_aload_n X dX9_payOut_0 rfl rfl ?_
  refine ge_Town_reinsurer X gt wf_X9_23 dX9_payOut_1 ?_
  refine e_iload_n X dX9_payOut_4 rfl rfl ?_
  refine e_callVi X (r := (F_Row_at σ (t + 5) 8 v1)) (σ1 := σ) [.int v1] [] (C_Row_at (Cx_gok X) σ (t + 5) 8 v1 gt.2.2.2.1) gv_X9_90 yk_X6_at rfl (ent_lt gt.2.2.2.1.1) (ent_at gt.2.2.2.1.1 _) (rfl : vCl[6]? = some (RX6, TX6, 1)) ⟨Nat.le_of_ble_eq_true rfl, Nat.le_of_ble_eq_true rfl⟩ ⟨Nat.le_of_ble_eq_true rfl, Nat.le_of_ble_eq_true rfl⟩ (Nat.le_of_ble_eq_true rfl) dX9_payOut_5 rfl ?_
  obtain ⟨x1, h_x1, hF⟩ := bindT_out hF
  refine e_istore_n X h_x1 dX9_payOut_8 rfl (by decide) ?_
  refine e_iload_n X dX9_payOut_9 rfl rfl ?_
  refine e_iconst X (-1) dX9_payOut_10 rfl ?_
  refine e_icmp_eq X 49 dX9_payOut_11 (by decide) (fun c2 => ?_) (fun c2 => ?_)
  · skip
    rw [if_pos c2] at hF
    refine e_aload_n X dX9_payOut_49 rfl rfl ?_
    refine e_iload_n X dX9_payOut_50 rfl rfl ?_
    refine e_aload_n X dX9_payOut_51 rfl rfl ?_
    refine ge_Town_pays X gt wf_X9_48 dX9_payOut_52 ?_
    obtain ⟨z3, h_z3, hF⟩ := bindT_out hF
    refine e_callVv X (σ1 := z3) [.int v1, .int ((σ t 14))] [] (by rw [h_z3]; exact C_Town_ruinIfShort (Cx_gok X) σ t v1 ((σ t 14)) gt) gv_X9_207 yk_X9_ruinIfShort rfl (ent_lt gt.1) (ent_at gt.1 _) (rfl : vCl[8]? = some (RX9, TX9, 20)) ⟨Nat.le_of_ble_eq_true rfl, Nat.le_of_ble_eq_true rfl⟩ ⟨Nat.le_of_ble_eq_true rfl, Nat.le_of_ble_eq_true rfl⟩ (Nat.le_of_ble_eq_true rfl) dX9_payOut_55 rfl ?_
    refine e_aload_n X dX9_payOut_58 rfl rfl ?_
    refine e_iload_n X dX9_payOut_59 rfl rfl ?_
    refine e_aload_n X dX9_payOut_60 rfl rfl ?_
    refine ge_Town_pays X gt wf_X9_48 dX9_payOut_61 ?_
    obtain ⟨z4, h_z4, hF⟩ := bindT_out hF
    refine e_callVi X (r := z4.2) (σ1 := z4.1) [.int v1, .int ((z3 t 14))] [] (by rw [h_z4]; exact C_Town_take (Cx_gok X) z3 t v1 ((z3 t 14)) gt) gv_X9_198 yk_X9_take rfl (ent_lt gt.1) (ent_at gt.1 _) (rfl : vCl[8]? = some (RX9, TX9, 20)) ⟨Nat.le_of_ble_eq_true rfl, Nat.le_of_ble_eq_true rfl⟩ ⟨Nat.le_of_ble_eq_true rfl, Nat.le_of_ble_eq_true rfl⟩ (Nat.le_of_ble_eq_true rfl) dX9_payOut_64 rfl ?_
    exact e_iret X hr dX9_payOut_67 (Nat.le_of_ble_eq_true rfl) (Nat.le_of_ble_eq_true rfl) (by cases hF; exact ⟨rfl, rfl⟩)
  · skip
    rw [if_neg c2] at hF
    refine e_aload_n X dX9_payOut_14 rfl rfl ?_
    refine e_iload_n X dX9_payOut_15 rfl rfl ?_
    refine e_callVi X (r := (F_Town_isRuined σ t x1)) (σ1 := σ) [.int x1] [] (C_Town_isRuined (Cx_gok X) σ t x1 gt) gv_X9_102 yk_X9_isRuined rfl (ent_lt gt.1) (ent_at gt.1 _) (rfl : vCl[8]? = some (RX9, TX9, 20)) ⟨Nat.le_of_ble_eq_true rfl, Nat.le_of_ble_eq_true rfl⟩ ⟨Nat.le_of_ble_eq_true rfl, Nat.le_of_ble_eq_true rfl⟩ (Nat.le_of_ble_eq_true rfl) dX9_payOut_16 rfl ?_
    refine e_if_ne X 49 dX9_payOut_19 (by decide) (fun c5 => ?_) (fun c5 => ?_)
    · skip
      rw [if_neg c5] at hF
      refine e_aload_n X dX9_payOut_49 rfl rfl ?_
      refine e_iload_n X dX9_payOut_50 rfl rfl ?_
      refine e_aload_n X dX9_payOut_51 rfl rfl ?_
      refine ge_Town_pays X gt wf_X9_48 dX9_payOut_52 ?_
      obtain ⟨z6, h_z6, hF⟩ := bindT_out hF
      refine e_callVv X (σ1 := z6) [.int v1, .int ((σ t 14))] [] (by rw [h_z6]; exact C_Town_ruinIfShort (Cx_gok X) σ t v1 ((σ t 14)) gt) gv_X9_207 yk_X9_ruinIfShort rfl (ent_lt gt.1) (ent_at gt.1 _) (rfl : vCl[8]? = some (RX9, TX9, 20)) ⟨Nat.le_of_ble_eq_true rfl, Nat.le_of_ble_eq_true rfl⟩ ⟨Nat.le_of_ble_eq_true rfl, Nat.le_of_ble_eq_true rfl⟩ (Nat.le_of_ble_eq_true rfl) dX9_payOut_55 rfl ?_
      refine e_aload_n X dX9_payOut_58 rfl rfl ?_
      refine e_iload_n X dX9_payOut_59 rfl rfl ?_
      refine e_aload_n X dX9_payOut_60 rfl rfl ?_
      refine ge_Town_pays X gt wf_X9_48 dX9_payOut_61 ?_
      obtain ⟨z7, h_z7, hF⟩ := bindT_out hF
      refine e_callVi X (r := z7.2) (σ1 := z7.1) [.int v1, .int ((z6 t 14))] [] (by rw [h_z7]; exact C_Town_take (Cx_gok X) z6 t v1 ((z6 t 14)) gt) gv_X9_198 yk_X9_take rfl (ent_lt gt.1) (ent_at gt.1 _) (rfl : vCl[8]? = some (RX9, TX9, 20)) ⟨Nat.le_of_ble_eq_true rfl, Nat.le_of_ble_eq_true rfl⟩ ⟨Nat.le_of_ble_eq_true rfl, Nat.le_of_ble_eq_true rfl⟩ (Nat.le_of_ble_eq_true rfl) dX9_payOut_64 rfl ?_
      exact e_iret X hr dX9_payOut_67 (Nat.le_of_ble_eq_true rfl) (Nat.le_of_ble_eq_true rfl) (by cases hF; exact ⟨rfl, rfl⟩)
    · skip
      rw [if_pos c5] at hF
      refine e_aload_n X dX9_payOut_22 rfl rfl ?_
      refine e_iload_n X dX9_payOut_23 rfl rfl ?_
      refine e_aload_n X dX9_payOut_24 rfl rfl ?_
      refine ge_Town_pays X gt wf_X9_48 dX9_payOut_25 ?_
      refine e_iconst X 2 dX9_payOut_28 rfl ?_
      refine e_idiv X dX9_payOut_29 (by decide) ?_
      obtain ⟨z8, h_z8, hF⟩ := bindT_out hF
      refine e_callVv X (σ1 := z8) [.int x1, .int (((σ t 14) / 2))] [] (by rw [h_z8]; exact C_Town_ruinIfShort (Cx_gok X) σ t x1 (((σ t 14) / 2)) gt) gv_X9_207 yk_X9_ruinIfShort rfl (ent_lt gt.1) (ent_at gt.1 _) (rfl : vCl[8]? = some (RX9, TX9, 20)) ⟨Nat.le_of_ble_eq_true rfl, Nat.le_of_ble_eq_true rfl⟩ ⟨Nat.le_of_ble_eq_true rfl, Nat.le_of_ble_eq_true rfl⟩ (Nat.le_of_ble_eq_true rfl) dX9_payOut_30 rfl ?_
      refine e_aload_n X dX9_payOut_33 rfl rfl ?_
      refine e_iload_n X dX9_payOut_34 rfl rfl ?_
      refine e_aload_n X dX9_payOut_35 rfl rfl ?_
      refine e_iload_n X dX9_payOut_36 rfl rfl ?_
      refine e_aload_n X dX9_payOut_37 rfl rfl ?_
      refine ge_Town_pays X gt wf_X9_48 dX9_payOut_38 ?_
      refine e_iconst X 2 dX9_payOut_41 rfl ?_
      refine e_idiv X dX9_payOut_42 (by decide) ?_
      obtain ⟨z9, h_z9, hF⟩ := bindT_out hF
      refine e_callVi X (r := z9.2) (σ1 := z9.1) [.int x1, .int (((z8 t 14) / 2))] [.int v1, .ref (Γ.1 + t)] (by rw [h_z9]; exact C_Town_take (Cx_gok X) z8 t x1 (((z8 t 14) / 2)) gt) gv_X9_198 yk_X9_take rfl (ent_lt gt.1) (ent_at gt.1 _) (rfl : vCl[8]? = some (RX9, TX9, 20)) ⟨Nat.le_of_ble_eq_true rfl, Nat.le_of_ble_eq_true rfl⟩ ⟨Nat.le_of_ble_eq_true rfl, Nat.le_of_ble_eq_true rfl⟩ (Nat.le_of_ble_eq_true rfl) dX9_payOut_43 rfl ?_
      obtain ⟨z10, h_z10, hF⟩ := bindT_out hF
      refine e_callVv X (σ1 := z10) [.int v1, .int z9.2] [] (by rw [h_z10]; exact C_Town_give (Cx_gok X) z9.1 t v1 z9.2 gt) gv_X9_201 yk_X9_give rfl (ent_lt gt.1) (ent_at gt.1 _) (rfl : vCl[8]? = some (RX9, TX9, 20)) ⟨Nat.le_of_ble_eq_true rfl, Nat.le_of_ble_eq_true rfl⟩ ⟨Nat.le_of_ble_eq_true rfl, Nat.le_of_ble_eq_true rfl⟩ (Nat.le_of_ble_eq_true rfl) dX9_payOut_46 rfl ?_
      refine e_aload_n X dX9_payOut_49 rfl rfl ?_
      refine e_iload_n X dX9_payOut_50 rfl rfl ?_
      refine e_aload_n X dX9_payOut_51 rfl rfl ?_
      refine ge_Town_pays X gt wf_X9_48 dX9_payOut_52 ?_
      obtain ⟨z11, h_z11, hF⟩ := bindT_out hF
      refine e_callVv X (σ1 := z11) [.int v1, .int ((z10 t 14))] [] (by rw [h_z11]; exact C_Town_ruinIfShort (Cx_gok X) z10 t v1 ((z10 t 14)) gt) gv_X9_207 yk_X9_ruinIfShort rfl (ent_lt gt.1) (ent_at gt.1 _) (rfl : vCl[8]? = some (RX9, TX9, 20)) ⟨Nat.le_of_ble_eq_true rfl, Nat.le_of_ble_eq_true rfl⟩ ⟨Nat.le_of_ble_eq_true rfl, Nat.le_of_ble_eq_true rfl⟩ (Nat.le_of_ble_eq_true rfl) dX9_payOut_55 rfl ?_
      refine e_aload_n X dX9_payOut_58 rfl rfl ?_
      refine e_iload_n X dX9_payOut_59 rfl rfl ?_
      refine e_aload_n X dX9_payOut_60 rfl rfl ?_
      refine ge_Town_pays X gt wf_X9_48 dX9_payOut_61 ?_
      obtain ⟨z12, h_z12, hF⟩ := bindT_out hF
      refine e_callVi X (r := z12.2) (σ1 := z12.1) [.int v1, .int ((z11 t 14))] [] (by rw [h_z12]; exact C_Town_take (Cx_gok X) z11 t v1 ((z11 t 14)) gt) gv_X9_198 yk_X9_take rfl (ent_lt gt.1) (ent_at gt.1 _) (rfl : vCl[8]? = some (RX9, TX9, 20)) ⟨Nat.le_of_ble_eq_true rfl, Nat.le_of_ble_eq_true rfl⟩ ⟨Nat.le_of_ble_eq_true rfl, Nat.le_of_ble_eq_true rfl⟩ (Nat.le_of_ble_eq_true rfl) dX9_payOut_64 rfl ?_
      exact e_iret X hr dX9_payOut_67 (Nat.le_of_ble_eq_true rfl) (Nat.le_of_ble_eq_true rfl) (by cases hF; exact ⟨rfl, rfl⟩)
set_option maxRecDepth 20000 in
set_option maxHeartbeats 4000000 in
theorem L_Town_payClaim_11 (X : Cx p l s m args meth c Γ D s0 RX9 cX9_payClaim 5) (hr : meth.sig.returnType = (some .int)) (t : Nat) (v1 : Int32) (v2 : Int32) (gt : isTown t) : ∀ (n : Nat) (v3 : Int32) (v4 : Int32) (σ : Mem) {z : Int32 × Int32 × Mem}, whl (fun s => F_Town_payClaim_11_b t v1 v2 s.1 s.2.1 s.2.2) n (v3, v4, σ) = some z → (E p l e ({ frames := 3, cells := 0, slots := 0, locals := 67 } : Room) s m args below meth c Γ D 0 0 (MQ below (QcA Γ D Pst) args s 0 0 (frB Γ)) z.2.2 44 [some (.ref (Γ.1 + t)), some (.int v1), some (.int v2), some (.int z.1), some (.int z.2.1)] []) → E p l e ({ frames := 3, cells := 0, slots := 0, locals := 67 } : Room) s m args below meth c Γ D 0 0 (MQ below (QcA Γ D Pst) args s 0 0 (frB Γ)) σ 11 [some (.ref (Γ.1 + t)), some (.int v1), some (.int v2), some (.int v3), some (.int v4)] [] := by
  intro n
  induction n with
  | zero =>
    intro v3 v4 σ z hF hK
    cases hF
  | succ n ih =>
    intro v3 v4 σ z hF hK
    obtain ⟨y9, hB, hF⟩ := whl_step hF
    change F_Town_payClaim_11_b t v1 v2 v3 v4 σ = some y9 at hB
    unfold F_Town_payClaim_11_b at hB
    refine e_iload X dX9_payClaim_11 rfl ?_
    refine e_aload_n X dX9_payClaim_13 rfl rfl ?_
    refine ge_Town_people X gt wf_X9_62 dX9_payClaim_14 ?_
    refine e_icmp_ge X 44 dX9_payClaim_17 (by decide) (fun c2 => ?_) (fun c2 => ?_)
    · skip
      rw [if_neg c2] at hB
      have hy9 := Option.some.inj hB; change (.inr ((v3, v4, σ))) = y9 at hy9; subst hy9
      have hz9 := Option.some.inj hF; change ((v3, v4, σ)) = z at hz9; subst hz9
      exact e_le hK (And.intro rfl (And.intro rfl (And.intro rfl (And.intro rfl (And.intro rfl (trivial))))))
    · skip
      rw [if_pos c2] at hB
      refine e_iload_n X dX9_payClaim_20 rfl rfl ?_
      refine e_iload X dX9_payClaim_21 rfl ?_
      refine e_callSNi X (r := (F_W_contains σ v2 v4)) (σ1 := σ) (host := RX11) [.int v2, .int v4] [] (C_W_contains (Cx_gok X) σ v2 v4) gb_X11_contains (by decide +kernel) wz_X11 ws_X11_contains yk_X11_contains.2 rfl ⟨Nat.le_of_ble_eq_true rfl, Nat.le_of_ble_eq_true rfl⟩ ⟨Nat.le_of_ble_eq_true rfl, Nat.le_of_ble_eq_true rfl⟩ (Nat.le_of_ble_eq_true rfl) dX9_payClaim_23 rfl ?_
      refine e_if_eq X 38 dX9_payClaim_26 (by decide) (fun c3 => ?_) (fun c3 => ?_)
      · skip
        rw [if_pos c3] at hB
        refine e_iinc X 1 dX9_payClaim_38 rfl rfl (by decide) ?_
        obtain ⟨x4, h_x4, hB⟩ := bindT_out hB
        rw [← h_x4]
        refine e_goto X 11 dX9_payClaim_41 (by decide) ?_
        have hy9 := Option.some.inj hB; change (.inl ((v3, x4, σ))) = y9 at hy9; subst hy9
        exact e_le (ih v3 x4 σ hF hK) (And.intro rfl (And.intro rfl (And.intro rfl (And.intro rfl (And.intro rfl (trivial))))))
      · skip
        rw [if_neg c3] at hB
        refine e_iload_n X dX9_payClaim_29 rfl rfl ?_
        refine e_aload_n X dX9_payClaim_30 rfl rfl ?_
        refine e_iload X dX9_payClaim_31 rfl ?_
        obtain ⟨z5, h_z5, hB⟩ := bindT_out hB
        refine e_callVi X (r := z5.2) (σ1 := z5.1) [.int v4] [.int v3] (by rw [h_z5]; exact C_Town_payOut (Cx_gok X) σ t v4 gt) gv_X9_204 yk_X9_payOut rfl (ent_lt gt.1) (ent_at gt.1 _) (rfl : vCl[8]? = some (RX9, TX9, 20)) ⟨Nat.le_of_ble_eq_true rfl, Nat.le_of_ble_eq_true rfl⟩ ⟨Nat.le_of_ble_eq_true rfl, Nat.le_of_ble_eq_true rfl⟩ (Nat.le_of_ble_eq_true rfl) dX9_payClaim_33 rfl ?_
        refine e_iadd X dX9_payClaim_36 ?_
        obtain ⟨x6, h_x6, hB⟩ := bindT_out hB
        refine e_istore_n X h_x6 dX9_payClaim_37 rfl (by decide) ?_
        refine e_iinc X 1 dX9_payClaim_38 rfl rfl (by decide) ?_
        obtain ⟨x7, h_x7, hB⟩ := bindT_out hB
        rw [← h_x7]
        refine e_goto X 11 dX9_payClaim_41 (by decide) ?_
        have hy9 := Option.some.inj hB; change (.inl ((x6, x7, z5.1))) = y9 at hy9; subst hy9
        exact e_le (ih x6 x7 z5.1 hF hK) (And.intro rfl (And.intro rfl (And.intro rfl (And.intro rfl (And.intro rfl (trivial))))))
set_option maxRecDepth 20000 in
set_option maxHeartbeats 4000000 in
theorem C_Town_payClaim (hG : Gok l Γ D s0) (σ : Mem) (t : Nat) (v1 : Int32) (gt : isTown t) {out : Mem × Int32} (hF : F_Town_payClaim σ t v1 = some out) : CT l Γ D s0 yX9_payClaim cX9_payClaim 5 (some .int) (3) 0 0 (67) σ [.ref (Γ.1 + t), .int v1] (PI (some (.int out.2)) out.1) := by
  unfold F_Town_payClaim at hF
  refine e_met (own := RX9) hG (by decide +kernel) rfl rfl (Nat.le_of_ble_eq_true rfl) ?_
  intro p e s m args below meth c X hr
  show E p l e _ s m args below meth c Γ D 0 0 _ σ 0 [some (.ref (Γ.1 + t)), some (.int v1), none, none, none] []
  refine e_aload_n X dX9_payClaim_0 rfl rfl ?_
  refine e_iload_n X dX9_payClaim_1 rfl rfl ?_
  refine e_callVi X (r := (F_Town_insurersOf σ t v1)) (σ1 := σ) [.int v1] [] (C_Town_insurersOf (Cx_gok X) σ t v1 gt) gv_X9_150 yk_X9_insurersOf rfl (ent_lt gt.1) (ent_at gt.1 _) (rfl : vCl[8]? = some (RX9, TX9, 20)) ⟨Nat.le_of_ble_eq_true rfl, Nat.le_of_ble_eq_true rfl⟩ ⟨Nat.le_of_ble_eq_true rfl, Nat.le_of_ble_eq_true rfl⟩ (Nat.le_of_ble_eq_true rfl) dX9_payClaim_2 rfl ?_
  obtain ⟨x1, h_x1, hF⟩ := bindT_out hF
  refine e_istore_n X h_x1 dX9_payClaim_5 rfl (by decide) ?_
  refine e_iconst X 0 dX9_payClaim_6 rfl ?_
  refine e_istore_n X rfl dX9_payClaim_7 rfl (by decide) ?_
  refine e_iconst X 0 dX9_payClaim_8 rfl ?_
  refine e_istore X rfl dX9_payClaim_9 (by decide) ?_
  obtain ⟨z8, h_z8, hF⟩ := obind_out hF
  refine e_le (L_Town_payClaim_11 X hr t v1 x1 gt _ 0 0 σ h_z8 ?_) (And.intro rfl (And.intro rfl (And.intro rfl (And.intro rfl (And.intro rfl (trivial))))))
  refine e_aload_n X dX9_payClaim_44 rfl rfl ?_
  refine e_aload_n X dX9_payClaim_45 rfl rfl ?_
  refine e_iload_n X dX9_payClaim_46 rfl rfl ?_
  refine e_callVi X (r := (F_Town_firstOf z8.2.2 t v1)) (σ1 := z8.2.2) [.int v1] [.ref (Γ.1 + t)] (C_Town_firstOf (Cx_gok X) z8.2.2 t v1 gt) gv_X9_121 yk_X9_firstOf rfl (ent_lt gt.1) (ent_at gt.1 _) (rfl : vCl[8]? = some (RX9, TX9, 20)) ⟨Nat.le_of_ble_eq_true rfl, Nat.le_of_ble_eq_true rfl⟩ ⟨Nat.le_of_ble_eq_true rfl, Nat.le_of_ble_eq_true rfl⟩ (Nat.le_of_ble_eq_true rfl) dX9_payClaim_47 rfl ?_
  refine e_iload_n X dX9_payClaim_50 rfl rfl ?_
  refine e_iconst X 2 dX9_payClaim_51 rfl ?_
  refine e_idiv X dX9_payClaim_52 (by decide) ?_
  obtain ⟨z9, h_z9, hF⟩ := bindT_out hF
  refine e_callVv X (σ1 := z9) [.int ((F_Town_firstOf z8.2.2 t v1)), .int ((z8.1 / 2))] [] (by rw [h_z9]; exact C_Town_give (Cx_gok X) z8.2.2 t ((F_Town_firstOf z8.2.2 t v1)) ((z8.1 / 2)) gt) gv_X9_201 yk_X9_give rfl (ent_lt gt.1) (ent_at gt.1 _) (rfl : vCl[8]? = some (RX9, TX9, 20)) ⟨Nat.le_of_ble_eq_true rfl, Nat.le_of_ble_eq_true rfl⟩ ⟨Nat.le_of_ble_eq_true rfl, Nat.le_of_ble_eq_true rfl⟩ (Nat.le_of_ble_eq_true rfl) dX9_payClaim_53 rfl ?_
  refine e_aload_n X dX9_payClaim_56 rfl rfl ?_
  refine e_aload_n X dX9_payClaim_57 rfl rfl ?_
  refine e_iload_n X dX9_payClaim_58 rfl rfl ?_
  refine e_callVi X (r := (F_Town_secondOf z9 t v1)) (σ1 := z9) [.int v1] [.ref (Γ.1 + t)] (C_Town_secondOf (Cx_gok X) z9 t v1 gt) gv_X9_124 yk_X9_secondOf rfl (ent_lt gt.1) (ent_at gt.1 _) (rfl : vCl[8]? = some (RX9, TX9, 20)) ⟨Nat.le_of_ble_eq_true rfl, Nat.le_of_ble_eq_true rfl⟩ ⟨Nat.le_of_ble_eq_true rfl, Nat.le_of_ble_eq_true rfl⟩ (Nat.le_of_ble_eq_true rfl) dX9_payClaim_59 rfl ?_
  refine e_iload_n X dX9_payClaim_62 rfl rfl ?_
  refine e_iload_n X dX9_payClaim_63 rfl rfl ?_
  refine e_iconst X 2 dX9_payClaim_64 rfl ?_
  refine e_idiv X dX9_payClaim_65 (by decide) ?_
  refine e_isub X dX9_payClaim_66 ?_
  obtain ⟨z10, h_z10, hF⟩ := bindT_out hF
  refine e_callVv X (σ1 := z10) [.int ((F_Town_secondOf z9 t v1)), .int ((z8.1 - (z8.1 / 2)))] [] (by rw [h_z10]; exact C_Town_give (Cx_gok X) z9 t ((F_Town_secondOf z9 t v1)) ((z8.1 - (z8.1 / 2))) gt) gv_X9_201 yk_X9_give rfl (ent_lt gt.1) (ent_at gt.1 _) (rfl : vCl[8]? = some (RX9, TX9, 20)) ⟨Nat.le_of_ble_eq_true rfl, Nat.le_of_ble_eq_true rfl⟩ ⟨Nat.le_of_ble_eq_true rfl, Nat.le_of_ble_eq_true rfl⟩ (Nat.le_of_ble_eq_true rfl) dX9_payClaim_67 rfl ?_
  refine e_iload_n X dX9_payClaim_70 rfl rfl ?_
  exact e_iret X hr dX9_payClaim_71 (Nat.le_of_ble_eq_true rfl) (Nat.le_of_ble_eq_true rfl) (by cases hF; exact ⟨rfl, rfl⟩)
set_option maxRecDepth 20000 in
set_option maxHeartbeats 4000000 in
theorem L_Town_payPremiums_8 (X : Cx p l s m args meth c Γ D s0 RX9 cX9_payPremiums 6) (hr : meth.sig.returnType = none) (t : Nat) (v1 : Int32) (v2 : Int32) (gt : isTown t) : ∀ (n : Nat) (v3 : Int32) (σ : Mem) {z : Int32 × Mem}, whl (fun s => F_Town_payPremiums_8_b t v1 v2 s.1 s.2) n (v3, σ) = some z → (E p l e ({ frames := 3, cells := 0, slots := 0, locals := 67 } : Room) s m args below meth c Γ D 0 0 (MQ below (QcA Γ D Pst) args s 0 0 (frB Γ)) z.2 73 [some (.ref (Γ.1 + t)), some (.int v1), some (.int v2), some (.int z.1), none, none] []) → E p l e ({ frames := 3, cells := 0, slots := 0, locals := 67 } : Room) s m args below meth c Γ D 0 0 (MQ below (QcA Γ D Pst) args s 0 0 (frB Γ)) σ 8 [some (.ref (Γ.1 + t)), some (.int v1), some (.int v2), some (.int v3), none, none] [] := by
  intro n
  induction n with
  | zero =>
    intro v3 σ z hF hK
    cases hF
  | succ n ih =>
    intro v3 σ z hF hK
    obtain ⟨y9, hB, hF⟩ := whl_step hF
    change F_Town_payPremiums_8_b t v1 v2 v3 σ = some y9 at hB
    unfold F_Town_payPremiums_8_b at hB
    refine e_iload_n X dX9_payPremiums_8 rfl rfl ?_
    refine e_aload_n X dX9_payPremiums_9 rfl rfl ?_
    refine ge_Town_people X gt wf_X9_62 dX9_payPremiums_10 ?_
    refine e_icmp_ge X 73 dX9_payPremiums_13 (by decide) (fun c2 => ?_) (fun c2 => ?_)
    · skip
      rw [if_neg c2] at hB
      have hy9 := Option.some.inj hB; change (.inr ((v3, σ))) = y9 at hy9; subst hy9
      have hz9 := Option.some.inj hF; change ((v3, σ)) = z at hz9; subst hz9
      exact e_le hK (And.intro rfl (And.intro rfl (And.intro rfl (And.intro rfl (trivial)))))
    · skip
      rw [if_pos c2] at hB
      refine e_iload_n X dX9_payPremiums_16 rfl rfl ?_
      refine e_iload_n X dX9_payPremiums_17 rfl rfl ?_
      refine e_callSNi X (r := (F_W_contains σ v2 v3)) (σ1 := σ) (host := RX11) [.int v2, .int v3] [] (C_W_contains (Cx_gok X) σ v2 v3) gb_X11_contains (by decide +kernel) wz_X11 ws_X11_contains yk_X11_contains.2 rfl ⟨Nat.le_of_ble_eq_true rfl, Nat.le_of_ble_eq_true rfl⟩ ⟨Nat.le_of_ble_eq_true rfl, Nat.le_of_ble_eq_true rfl⟩ (Nat.le_of_ble_eq_true rfl) dX9_payPremiums_18 rfl ?_
      refine e_if_eq X 67 dX9_payPremiums_21 (by decide) (fun c3 => ?_) (fun c3 => ?_)
      · skip
        rw [if_pos c3] at hB
        refine e_iinc X 1 dX9_payPremiums_67 rfl rfl (by decide) ?_
        obtain ⟨x4, h_x4, hB⟩ := bindT_out hB
        rw [← h_x4]
        refine e_goto X 8 dX9_payPremiums_70 (by decide) ?_
        have hy9 := Option.some.inj hB; change (.inl ((x4, σ))) = y9 at hy9; subst hy9
        exact e_le (ih x4 σ hF hK) (And.intro rfl (And.intro rfl (And.intro rfl (And.intro rfl (trivial)))))
      · skip
        rw [if_neg c3] at hB
        refine e_aload_n X dX9_payPremiums_24 rfl rfl ?_
        refine e_aload_n X dX9_payPremiums_25 rfl rfl ?_
        refine e_iload_n X dX9_payPremiums_26 rfl rfl ?_
        refine e_callVi X (r := (F_Town_firstOf σ t v1)) (σ1 := σ) [.int v1] [.ref (Γ.1 + t)] (C_Town_firstOf (Cx_gok X) σ t v1 gt) gv_X9_121 yk_X9_firstOf rfl (ent_lt gt.1) (ent_at gt.1 _) (rfl : vCl[8]? = some (RX9, TX9, 20)) ⟨Nat.le_of_ble_eq_true rfl, Nat.le_of_ble_eq_true rfl⟩ ⟨Nat.le_of_ble_eq_true rfl, Nat.le_of_ble_eq_true rfl⟩ (Nat.le_of_ble_eq_true rfl) dX9_payPremiums_27 rfl ?_
        refine e_aload_n X dX9_payPremiums_30 rfl rfl ?_
        refine ge_Town_premium X gt wf_X9_45 dX9_payPremiums_31 ?_
        obtain ⟨z5, h_z5, hB⟩ := bindT_out hB
        refine e_callVi X (r := z5.2) (σ1 := z5.1) [.int ((F_Town_firstOf σ t v1)), .int ((σ t 13))] [] (by rw [h_z5]; exact C_Town_take (Cx_gok X) σ t ((F_Town_firstOf σ t v1)) ((σ t 13)) gt) gv_X9_198 yk_X9_take rfl (ent_lt gt.1) (ent_at gt.1 _) (rfl : vCl[8]? = some (RX9, TX9, 20)) ⟨Nat.le_of_ble_eq_true rfl, Nat.le_of_ble_eq_true rfl⟩ ⟨Nat.le_of_ble_eq_true rfl, Nat.le_of_ble_eq_true rfl⟩ (Nat.le_of_ble_eq_true rfl) dX9_payPremiums_34 rfl ?_
        refine e_istore X rfl dX9_payPremiums_37 (by decide) ?_
        refine e_aload_n X dX9_payPremiums_39 rfl rfl ?_
        refine e_aload_n X dX9_payPremiums_40 rfl rfl ?_
        refine e_iload_n X dX9_payPremiums_41 rfl rfl ?_
        refine e_callVi X (r := (F_Town_secondOf z5.1 t v1)) (σ1 := z5.1) [.int v1] [.ref (Γ.1 + t)] (C_Town_secondOf (Cx_gok X) z5.1 t v1 gt) gv_X9_124 yk_X9_secondOf rfl (ent_lt gt.1) (ent_at gt.1 _) (rfl : vCl[8]? = some (RX9, TX9, 20)) ⟨Nat.le_of_ble_eq_true rfl, Nat.le_of_ble_eq_true rfl⟩ ⟨Nat.le_of_ble_eq_true rfl, Nat.le_of_ble_eq_true rfl⟩ (Nat.le_of_ble_eq_true rfl) dX9_payPremiums_42 rfl ?_
        refine e_aload_n X dX9_payPremiums_45 rfl rfl ?_
        refine ge_Town_premium X gt wf_X9_45 dX9_payPremiums_46 ?_
        refine e_iload X dX9_payPremiums_49 rfl ?_
        refine e_isub X dX9_payPremiums_51 ?_
        obtain ⟨z6, h_z6, hB⟩ := bindT_out hB
        refine e_callVi X (r := z6.2) (σ1 := z6.1) [.int ((F_Town_secondOf z5.1 t v1)), .int (((z5.1 t 13) - z5.2))] [] (by rw [h_z6]; exact C_Town_take (Cx_gok X) z5.1 t ((F_Town_secondOf z5.1 t v1)) (((z5.1 t 13) - z5.2)) gt) gv_X9_198 yk_X9_take rfl (ent_lt gt.1) (ent_at gt.1 _) (rfl : vCl[8]? = some (RX9, TX9, 20)) ⟨Nat.le_of_ble_eq_true rfl, Nat.le_of_ble_eq_true rfl⟩ ⟨Nat.le_of_ble_eq_true rfl, Nat.le_of_ble_eq_true rfl⟩ (Nat.le_of_ble_eq_true rfl) dX9_payPremiums_52 rfl ?_
        refine e_istore X rfl dX9_payPremiums_55 (by decide) ?_
        refine e_aload_n X dX9_payPremiums_57 rfl rfl ?_
        refine e_iload_n X dX9_payPremiums_58 rfl rfl ?_
        refine e_iload X dX9_payPremiums_59 rfl ?_
        refine e_iload X dX9_payPremiums_61 rfl ?_
        refine e_iadd X dX9_payPremiums_63 ?_
        obtain ⟨z7, h_z7, hB⟩ := bindT_out hB
        refine e_callVv X (σ1 := z7) [.int v3, .int ((z5.2 + z6.2))] [] (by rw [h_z7]; exact C_Town_give (Cx_gok X) z6.1 t v3 ((z5.2 + z6.2)) gt) gv_X9_201 yk_X9_give rfl (ent_lt gt.1) (ent_at gt.1 _) (rfl : vCl[8]? = some (RX9, TX9, 20)) ⟨Nat.le_of_ble_eq_true rfl, Nat.le_of_ble_eq_true rfl⟩ ⟨Nat.le_of_ble_eq_true rfl, Nat.le_of_ble_eq_true rfl⟩ (Nat.le_of_ble_eq_true rfl) dX9_payPremiums_64 rfl ?_
        refine e_iinc X 1 dX9_payPremiums_67 rfl rfl (by decide) ?_
        obtain ⟨x8, h_x8, hB⟩ := bindT_out hB
        rw [← h_x8]
        refine e_goto X 8 dX9_payPremiums_70 (by decide) ?_
        have hy9 := Option.some.inj hB; change (.inl ((x8, z7))) = y9 at hy9; subst hy9
        exact e_le (ih x8 z7 hF hK) (And.intro rfl (And.intro rfl (And.intro rfl (And.intro rfl (trivial)))))
set_option maxRecDepth 20000 in
set_option maxHeartbeats 4000000 in
theorem C_Town_payPremiums (hG : Gok l Γ D s0) (σ : Mem) (t : Nat) (v1 : Int32) (gt : isTown t) {out : Mem} (hF : F_Town_payPremiums σ t v1 = some out) : CT l Γ D s0 yX9_payPremiums cX9_payPremiums 6 none (3) 0 0 (67) σ [.ref (Γ.1 + t), .int v1] (PI none out) := by
  unfold F_Town_payPremiums at hF
  refine e_met (own := RX9) hG (by decide +kernel) rfl rfl (Nat.le_of_ble_eq_true rfl) ?_
  intro p e s m args below meth c X hr
  show E p l e _ s m args below meth c Γ D 0 0 _ σ 0 [some (.ref (Γ.1 + t)), some (.int v1), none, none, none, none] []
  refine e_aload_n X dX9_payPremiums_0 rfl rfl ?_
  refine e_iload_n X dX9_payPremiums_1 rfl rfl ?_
  refine e_callVi X (r := (F_Town_insurersOf σ t v1)) (σ1 := σ) [.int v1] [] (C_Town_insurersOf (Cx_gok X) σ t v1 gt) gv_X9_150 yk_X9_insurersOf rfl (ent_lt gt.1) (ent_at gt.1 _) (rfl : vCl[8]? = some (RX9, TX9, 20)) ⟨Nat.le_of_ble_eq_true rfl, Nat.le_of_ble_eq_true rfl⟩ ⟨Nat.le_of_ble_eq_true rfl, Nat.le_of_ble_eq_true rfl⟩ (Nat.le_of_ble_eq_true rfl) dX9_payPremiums_2 rfl ?_
  obtain ⟨x1, h_x1, hF⟩ := bindT_out hF
  refine e_istore_n X h_x1 dX9_payPremiums_5 rfl (by decide) ?_
  refine e_iconst X 0 dX9_payPremiums_6 rfl ?_
  refine e_istore_n X rfl dX9_payPremiums_7 rfl (by decide) ?_
  obtain ⟨z9, h_z9, hF⟩ := obind_out hF
  refine e_le (L_Town_payPremiums_8 X hr t v1 x1 gt _ 0 σ h_z9 ?_) (And.intro rfl (And.intro rfl (And.intro rfl (And.intro rfl (trivial)))))
  exact e_vret X hr dX9_payPremiums_73 (Nat.le_of_ble_eq_true rfl) (Nat.le_of_ble_eq_true rfl) (by cases hF; exact ⟨rfl, rfl⟩)
set_option maxRecDepth 20000 in
set_option maxHeartbeats 4000000 in
theorem C_Town_addToLog (hG : Gok l Γ D s0) (σ : Mem) (t : Nat) (v1 : Int32) (v2 : Int32) (v3 : Int32) (gt : isTown t) : CT l Γ D s0 yX9_addToLog cX9_addToLog 5 none (1) 0 0 (22) σ [.ref (Γ.1 + t), .int v1, .int v2, .int v3] (PI none (F_Town_addToLog σ t v1 v2 v3)) := by
  generalize hF : F_Town_addToLog σ t v1 v2 v3 = out
  unfold F_Town_addToLog at hF
  refine e_met (own := RX9) hG (by decide +kernel) rfl rfl (Nat.le_of_ble_eq_true rfl) ?_
  intro p e s m args below meth c X hr
  show E p l e _ s m args below meth c Γ D 0 0 _ σ 0 [some (.ref (Γ.1 + t)), some (.int v1), some (.int v2), some (.int v3), none] []
  refine e_aload_n X dX9_addToLog_0 rfl rfl ?_
  refine ge_Town_claims X gt wf_X9_80 dX9_addToLog_1 ?_
  refine e_bipush X 60 dX9_addToLog_4 rfl ?_
  refine e_irem X dX9_addToLog_6 (by decide) ?_
  refine e_iconst X 4 dX9_addToLog_7 rfl ?_
  refine e_imul X dX9_addToLog_8 ?_
  obtain ⟨x1, h_x1, hF⟩ := bindT_out hF
  refine e_istore X h_x1 dX9_addToLog_9 (by decide) ?_
  refine e_aload_n X dX9_addToLog_11 rfl rfl ?_
  refine ge_Town_logCells X gt wf_X9_38 dX9_addToLog_12 ?_
  refine e_iload X dX9_addToLog_15 rfl ?_
  refine e_aload_n X dX9_addToLog_17 rfl rfl ?_
  refine ge_Town_month X gt wf_X9_71 dX9_addToLog_18 ?_
  obtain ⟨z2, h_z2, hF⟩ := bindT_out hF
  refine e_callVv X (σ1 := z2) [.int x1, .int ((σ t 15))] [] (by rw [h_z2]; exact C_Row_put (Cx_gok X) σ (t + 15) 240 x1 ((σ t 15)) gt.2.2.2.2.2.2.2.2) gv_X9_86 yk_X6_put rfl (ent_lt gt.2.2.2.2.2.2.2.2.1) (ent_at gt.2.2.2.2.2.2.2.2.1 _) (rfl : vCl[6]? = some (RX6, TX6, 1)) ⟨Nat.le_of_ble_eq_true rfl, Nat.le_of_ble_eq_true rfl⟩ ⟨Nat.le_of_ble_eq_true rfl, Nat.le_of_ble_eq_true rfl⟩ (Nat.le_of_ble_eq_true rfl) dX9_addToLog_21 rfl ?_
  refine e_aload_n X dX9_addToLog_24 rfl rfl ?_
  refine ge_Town_logCells X gt wf_X9_38 dX9_addToLog_25 ?_
  refine e_iload X dX9_addToLog_28 rfl ?_
  refine e_iconst X 1 dX9_addToLog_30 rfl ?_
  refine e_iadd X dX9_addToLog_31 ?_
  refine e_iload_n X dX9_addToLog_32 rfl rfl ?_
  obtain ⟨z3, h_z3, hF⟩ := bindT_out hF
  refine e_callVv X (σ1 := z3) [.int ((x1 + 1)), .int v1] [] (by rw [h_z3]; exact C_Row_put (Cx_gok X) z2 (t + 15) 240 ((x1 + 1)) v1 gt.2.2.2.2.2.2.2.2) gv_X9_86 yk_X6_put rfl (ent_lt gt.2.2.2.2.2.2.2.2.1) (ent_at gt.2.2.2.2.2.2.2.2.1 _) (rfl : vCl[6]? = some (RX6, TX6, 1)) ⟨Nat.le_of_ble_eq_true rfl, Nat.le_of_ble_eq_true rfl⟩ ⟨Nat.le_of_ble_eq_true rfl, Nat.le_of_ble_eq_true rfl⟩ (Nat.le_of_ble_eq_true rfl) dX9_addToLog_33 rfl ?_
  refine e_aload_n X dX9_addToLog_36 rfl rfl ?_
  refine ge_Town_logCells X gt wf_X9_38 dX9_addToLog_37 ?_
  refine e_iload X dX9_addToLog_40 rfl ?_
  refine e_iconst X 2 dX9_addToLog_42 rfl ?_
  refine e_iadd X dX9_addToLog_43 ?_
  refine e_iload_n X dX9_addToLog_44 rfl rfl ?_
  obtain ⟨z4, h_z4, hF⟩ := bindT_out hF
  refine e_callVv X (σ1 := z4) [.int ((x1 + 2)), .int v2] [] (by rw [h_z4]; exact C_Row_put (Cx_gok X) z3 (t + 15) 240 ((x1 + 2)) v2 gt.2.2.2.2.2.2.2.2) gv_X9_86 yk_X6_put rfl (ent_lt gt.2.2.2.2.2.2.2.2.1) (ent_at gt.2.2.2.2.2.2.2.2.1 _) (rfl : vCl[6]? = some (RX6, TX6, 1)) ⟨Nat.le_of_ble_eq_true rfl, Nat.le_of_ble_eq_true rfl⟩ ⟨Nat.le_of_ble_eq_true rfl, Nat.le_of_ble_eq_true rfl⟩ (Nat.le_of_ble_eq_true rfl) dX9_addToLog_45 rfl ?_
  refine e_aload_n X dX9_addToLog_48 rfl rfl ?_
  refine ge_Town_logCells X gt wf_X9_38 dX9_addToLog_49 ?_
  refine e_iload X dX9_addToLog_52 rfl ?_
  refine e_iconst X 3 dX9_addToLog_54 rfl ?_
  refine e_iadd X dX9_addToLog_55 ?_
  refine e_iload_n X dX9_addToLog_56 rfl rfl ?_
  obtain ⟨z5, h_z5, hF⟩ := bindT_out hF
  refine e_callVv X (σ1 := z5) [.int ((x1 + 3)), .int v3] [] (by rw [h_z5]; exact C_Row_put (Cx_gok X) z4 (t + 15) 240 ((x1 + 3)) v3 gt.2.2.2.2.2.2.2.2) gv_X9_86 yk_X6_put rfl (ent_lt gt.2.2.2.2.2.2.2.2.1) (ent_at gt.2.2.2.2.2.2.2.2.1 _) (rfl : vCl[6]? = some (RX6, TX6, 1)) ⟨Nat.le_of_ble_eq_true rfl, Nat.le_of_ble_eq_true rfl⟩ ⟨Nat.le_of_ble_eq_true rfl, Nat.le_of_ble_eq_true rfl⟩ (Nat.le_of_ble_eq_true rfl) dX9_addToLog_57 rfl ?_
  refine e_aload_n X dX9_addToLog_60 rfl rfl ?_
  refine e_dup X dX9_addToLog_61 rfl ?_
  refine ge_Town_claims X gt wf_X9_80 dX9_addToLog_62 ?_
  refine e_iconst X 1 dX9_addToLog_65 rfl ?_
  refine e_iadd X dX9_addToLog_66 ?_
  obtain ⟨σ6, h_σ6, hF⟩ := bindT_out hF
  refine pu_Town_claims X gt wf_X9_80 dX9_addToLog_67 h_σ6 ?_
  exact e_vret X hr dX9_addToLog_70 (Nat.le_of_ble_eq_true rfl) (Nat.le_of_ble_eq_true rfl) (by cases hF; exact ⟨rfl, rfl⟩)
set_option maxRecDepth 20000 in
set_option maxHeartbeats 4000000 in
theorem C_Town_logRows (hG : Gok l Γ D s0) (σ : Mem) (t : Nat) (gt : isTown t) : CT l Γ D s0 yX9_logRows cX9_logRows 1 (some .int) (1) 0 0 (13) σ [.ref (Γ.1 + t)] (PI (some (.int (F_Town_logRows σ t))) σ) := by
  generalize hF : F_Town_logRows σ t = out
  unfold F_Town_logRows at hF
  refine e_met (own := RX9) hG (by decide +kernel) rfl rfl (Nat.le_of_ble_eq_true rfl) ?_
  intro p e s m args below meth c X hr
  show E p l e _ s m args below meth c Γ D 0 0 _ σ 0 [some (.ref (Γ.1 + t))] []
  refine e_bipush X 60 dX9_logRows_0 rfl ?_
  refine e_aload_n X dX9_logRows_2 rfl rfl ?_
  refine ge_Town_claims X gt wf_X9_80 dX9_logRows_3 ?_
  refine e_mmin X wMl_X9_172 wMs_min wMi wMc_min (Nat.le_of_ble_eq_true rfl) (Nat.le_of_ble_eq_true rfl) (Nat.le_of_ble_eq_true rfl) (Nat.le_of_ble_eq_true rfl) dX9_logRows_6 ?_
  exact e_iret X hr dX9_logRows_9 (Nat.le_of_ble_eq_true rfl) (Nat.le_of_ble_eq_true rfl) (by cases hF; exact ⟨rfl, rfl⟩)
set_option maxRecDepth 20000 in
set_option maxHeartbeats 4000000 in
theorem C_Town_logged (hG : Gok l Γ D s0) (σ : Mem) (t : Nat) (v1 : Int32) (v2 : Int32) (gt : isTown t) : CT l Γ D s0 yX9_logged cX9_logged 3 (some .int) (1) 0 0 (21) σ [.ref (Γ.1 + t), .int v1, .int v2] (PI (some (.int (F_Town_logged σ t v1 v2))) σ) := by
  generalize hF : F_Town_logged σ t v1 v2 = out
  unfold F_Town_logged at hF
  refine e_met (own := RX9) hG (by decide +kernel) rfl rfl (Nat.le_of_ble_eq_true rfl) ?_
  intro p e s m args below meth c X hr
  show E p l e _ s m args below meth c Γ D 0 0 _ σ 0 [some (.ref (Γ.1 + t)), some (.int v1), some (.int v2)] []
  refine e_aload_n X dX9_logged_0 rfl rfl ?_
  refine ge_Town_logCells X gt wf_X9_38 dX9_logged_1 ?_
  refine e_aload_n X dX9_logged_4 rfl rfl ?_
  refine ge_Town_claims X gt wf_X9_80 dX9_logged_5 ?_
  refine e_iconst X 1 dX9_logged_8 rfl ?_
  refine e_isub X dX9_logged_9 ?_
  refine e_iload_n X dX9_logged_10 rfl rfl ?_
  refine e_isub X dX9_logged_11 ?_
  refine e_bipush X 60 dX9_logged_12 rfl ?_
  refine e_irem X dX9_logged_14 (by decide) ?_
  refine e_iconst X 4 dX9_logged_15 rfl ?_
  refine e_imul X dX9_logged_16 ?_
  refine e_iload_n X dX9_logged_17 rfl rfl ?_
  refine e_iadd X dX9_logged_18 ?_
  refine e_callVi X (r := (F_Row_at σ (t + 15) 240 (((((((σ t 19) - 1) - v1) - (((σ t 19) - 1) - v1) / 60 * 60) * 4) + v2)))) (σ1 := σ) [.int (((((((σ t 19) - 1) - v1) - (((σ t 19) - 1) - v1) / 60 * 60) * 4) + v2))] [] (C_Row_at (Cx_gok X) σ (t + 15) 240 (((((((σ t 19) - 1) - v1) - (((σ t 19) - 1) - v1) / 60 * 60) * 4) + v2)) gt.2.2.2.2.2.2.2.2) gv_X9_90 yk_X6_at rfl (ent_lt gt.2.2.2.2.2.2.2.2.1) (ent_at gt.2.2.2.2.2.2.2.2.1 _) (rfl : vCl[6]? = some (RX6, TX6, 1)) ⟨Nat.le_of_ble_eq_true rfl, Nat.le_of_ble_eq_true rfl⟩ ⟨Nat.le_of_ble_eq_true rfl, Nat.le_of_ble_eq_true rfl⟩ (Nat.le_of_ble_eq_true rfl) dX9_logged_19 rfl ?_
  exact e_iret X hr dX9_logged_22 (Nat.le_of_ble_eq_true rfl) (Nat.le_of_ble_eq_true rfl) (by cases hF; exact ⟨rfl, rfl⟩)
set_option maxRecDepth 20000 in
set_option maxHeartbeats 4000000 in
theorem L_Town_loggedClaims_4 (X : Cx p l s m args meth c Γ D s0 RX9 cX9_loggedClaims 4) (hr : meth.sig.returnType = (some .int)) (σ : Mem) (t : Nat) (v1 : Int32) (gt : isTown t) : ∀ (n : Nat) (v3 : Int32) (v2 : Int32) {z : Int32}, forS (fun i s => F_Town_loggedClaims_4_b σ t v1 i s) n v3 v2 = z → n = cnt v3 ((F_Town_logRows σ t)) → ¬ v3 < 0 → (E p l e ({ frames := 2, cells := 0, slots := 0, locals := 43 } : Room) s m args below meth c Γ D 0 0 (MQ below (QcA Γ D Pst) args s 0 0 (frB Γ)) σ 31 [some (.ref (Γ.1 + t)), some (.int v1), some (.int z), none] []) → E p l e ({ frames := 2, cells := 0, slots := 0, locals := 43 } : Room) s m args below meth c Γ D 0 0 (MQ below (QcA Γ D Pst) args s 0 0 (frB Γ)) σ 4 [some (.ref (Γ.1 + t)), some (.int v1), some (.int v2), some (.int v3)] [] := by
  intro n
  induction n with
  | zero =>
    intro v3 v2 z hF hn h0 hK
    refine e_iload_n X dX9_loggedClaims_4 rfl rfl ?_
    refine e_aload_n X dX9_loggedClaims_5 rfl rfl ?_
    refine e_callVi X (r := (F_Town_logRows σ t)) (σ1 := σ) [] [.int v3] (C_Town_logRows (Cx_gok X) σ t gt) gv_X9_210 yk_X9_logRows rfl (ent_lt gt.1) (ent_at gt.1 _) (rfl : vCl[8]? = some (RX9, TX9, 20)) ⟨Nat.le_of_ble_eq_true rfl, Nat.le_of_ble_eq_true rfl⟩ ⟨Nat.le_of_ble_eq_true rfl, Nat.le_of_ble_eq_true rfl⟩ (Nat.le_of_ble_eq_true rfl) dX9_loggedClaims_6 rfl ?_
    refine e_icmp_ge X 31 dX9_loggedClaims_9 (by decide) (fun c4 => ?_) (fun c4 => ?_)
    · skip
      have hz9 := hF; change (v2) = z at hz9; subst hz9
      exact e_le hK (And.intro rfl (And.intro rfl (And.intro rfl (trivial))))
    · skip
      exact absurd c4 (cnt0 hn)
  | succ n ih =>
    intro v3 v2 z hF hn h0 hK
    obtain ⟨y9, hB, hF⟩ := forS_step hF
    change F_Town_loggedClaims_4_b σ t v1 v3 v2 = y9 at hB
    unfold F_Town_loggedClaims_4_b at hB
    refine e_iload_n X dX9_loggedClaims_4 rfl rfl ?_
    refine e_aload_n X dX9_loggedClaims_5 rfl rfl ?_
    refine e_callVi X (r := (F_Town_logRows σ t)) (σ1 := σ) [] [.int v3] (C_Town_logRows (Cx_gok X) σ t gt) gv_X9_210 yk_X9_logRows rfl (ent_lt gt.1) (ent_at gt.1 _) (rfl : vCl[8]? = some (RX9, TX9, 20)) ⟨Nat.le_of_ble_eq_true rfl, Nat.le_of_ble_eq_true rfl⟩ ⟨Nat.le_of_ble_eq_true rfl, Nat.le_of_ble_eq_true rfl⟩ (Nat.le_of_ble_eq_true rfl) dX9_loggedClaims_6 rfl ?_
    refine e_icmp_ge X 31 dX9_loggedClaims_9 (by decide) (fun c1 => ?_) (fun c1 => ?_)
    · skip
      exact absurd (cntS hn) c1
    · skip
      refine e_aload_n X dX9_loggedClaims_12 rfl rfl ?_
      refine e_iload_n X dX9_loggedClaims_13 rfl rfl ?_
      refine e_iconst X 1 dX9_loggedClaims_14 rfl ?_
      refine e_callVi X (r := (F_Town_logged σ t v3 1)) (σ1 := σ) [.int v3, .int 1] [] (C_Town_logged (Cx_gok X) σ t v3 1 gt) gv_X9_213 yk_X9_logged rfl (ent_lt gt.1) (ent_at gt.1 _) (rfl : vCl[8]? = some (RX9, TX9, 20)) ⟨Nat.le_of_ble_eq_true rfl, Nat.le_of_ble_eq_true rfl⟩ ⟨Nat.le_of_ble_eq_true rfl, Nat.le_of_ble_eq_true rfl⟩ (Nat.le_of_ble_eq_true rfl) dX9_loggedClaims_15 rfl ?_
      refine e_iload_n X dX9_loggedClaims_18 rfl rfl ?_
      refine e_icmp_ne X 25 dX9_loggedClaims_19 (by decide) (fun c2 => ?_) (fun c2 => ?_)
      · skip
        rw [if_neg c2] at hB
        refine e_iinc X 1 dX9_loggedClaims_25 rfl rfl (by decide) ?_
        refine e_goto X 4 dX9_loggedClaims_28 (by decide) ?_
        have hy9 := hB; change (v2) = y9 at hy9; subst hy9
        exact e_le (ih _ v2 hF (cntN hn) (nnN h0 (cnt_hi hn)) hK) (And.intro rfl (And.intro rfl (And.intro rfl (And.intro rfl (trivial)))))
      · skip
        rw [if_pos c2] at hB
        refine e_iinc X 1 dX9_loggedClaims_22 rfl rfl (by decide) ?_
        obtain ⟨x3, h_x3, hB⟩ := bindT_out hB
        rw [← h_x3]
        refine e_iinc X 1 dX9_loggedClaims_25 rfl rfl (by decide) ?_
        refine e_goto X 4 dX9_loggedClaims_28 (by decide) ?_
        have hy9 := hB; change (x3) = y9 at hy9; subst hy9
        exact e_le (ih _ x3 hF (cntN hn) (nnN h0 (cnt_hi hn)) hK) (And.intro rfl (And.intro rfl (And.intro rfl (And.intro rfl (trivial)))))
set_option maxRecDepth 20000 in
set_option maxHeartbeats 4000000 in
theorem C_Town_loggedClaims (hG : Gok l Γ D s0) (σ : Mem) (t : Nat) (v1 : Int32) (gt : isTown t) : CT l Γ D s0 yX9_loggedClaims cX9_loggedClaims 4 (some .int) (2) 0 0 (43) σ [.ref (Γ.1 + t), .int v1] (PI (some (.int (F_Town_loggedClaims σ t v1))) σ) := by
  generalize hF : F_Town_loggedClaims σ t v1 = out
  unfold F_Town_loggedClaims at hF
  refine e_met (own := RX9) hG (by decide +kernel) rfl rfl (Nat.le_of_ble_eq_true rfl) ?_
  intro p e s m args below meth c X hr
  show E p l e _ s m args below meth c Γ D 0 0 _ σ 0 [some (.ref (Γ.1 + t)), some (.int v1), none, none] []
  refine e_iconst X 0 dX9_loggedClaims_0 rfl ?_
  refine e_istore_n X rfl dX9_loggedClaims_1 rfl (by decide) ?_
  refine e_iconst X 0 dX9_loggedClaims_2 rfl ?_
  refine e_istore_n X rfl dX9_loggedClaims_3 rfl (by decide) ?_
  obtain ⟨z5, h_z5, hF⟩ := bindT_out hF
  refine e_le (L_Town_loggedClaims_4 X hr σ t v1 gt _ 0 0 h_z5.symm rfl (by decide) ?_) (And.intro rfl (And.intro rfl (And.intro rfl (And.intro rfl (trivial)))))
  refine e_iload_n X dX9_loggedClaims_31 rfl rfl ?_
  exact e_iret X hr dX9_loggedClaims_32 (Nat.le_of_ble_eq_true rfl) (Nat.le_of_ble_eq_true rfl) (by cases hF; exact ⟨rfl, rfl⟩)
set_option maxRecDepth 20000 in
set_option maxHeartbeats 4000000 in
theorem L_Town_loggedPaid_4 (X : Cx p l s m args meth c Γ D s0 RX9 cX9_loggedPaid 4) (hr : meth.sig.returnType = (some .int)) (σ : Mem) (t : Nat) (v1 : Int32) (gt : isTown t) : ∀ (n : Nat) (v3 : Int32) (v2 : Int32) {z : Int32}, forS (fun i s => F_Town_loggedPaid_4_b σ t v1 i s) n v3 v2 = z → n = cnt v3 ((F_Town_logRows σ t)) → ¬ v3 < 0 → (E p l e ({ frames := 2, cells := 0, slots := 0, locals := 43 } : Room) s m args below meth c Γ D 0 0 (MQ below (QcA Γ D Pst) args s 0 0 (frB Γ)) σ 37 [some (.ref (Γ.1 + t)), some (.int v1), some (.int z), none] []) → E p l e ({ frames := 2, cells := 0, slots := 0, locals := 43 } : Room) s m args below meth c Γ D 0 0 (MQ below (QcA Γ D Pst) args s 0 0 (frB Γ)) σ 4 [some (.ref (Γ.1 + t)), some (.int v1), some (.int v2), some (.int v3)] [] := by
  intro n
  induction n with
  | zero =>
    intro v3 v2 z hF hn h0 hK
    refine e_iload_n X dX9_loggedPaid_4 rfl rfl ?_
    refine e_aload_n X dX9_loggedPaid_5 rfl rfl ?_
    refine e_callVi X (r := (F_Town_logRows σ t)) (σ1 := σ) [] [.int v3] (C_Town_logRows (Cx_gok X) σ t gt) gv_X9_210 yk_X9_logRows rfl (ent_lt gt.1) (ent_at gt.1 _) (rfl : vCl[8]? = some (RX9, TX9, 20)) ⟨Nat.le_of_ble_eq_true rfl, Nat.le_of_ble_eq_true rfl⟩ ⟨Nat.le_of_ble_eq_true rfl, Nat.le_of_ble_eq_true rfl⟩ (Nat.le_of_ble_eq_true rfl) dX9_loggedPaid_6 rfl ?_
    refine e_icmp_ge X 37 dX9_loggedPaid_9 (by decide) (fun c4 => ?_) (fun c4 => ?_)
    · skip
      have hz9 := hF; change (v2) = z at hz9; subst hz9
      exact e_le hK (And.intro rfl (And.intro rfl (And.intro rfl (trivial))))
    · skip
      exact absurd c4 (cnt0 hn)
  | succ n ih =>
    intro v3 v2 z hF hn h0 hK
    obtain ⟨y9, hB, hF⟩ := forS_step hF
    change F_Town_loggedPaid_4_b σ t v1 v3 v2 = y9 at hB
    unfold F_Town_loggedPaid_4_b at hB
    refine e_iload_n X dX9_loggedPaid_4 rfl rfl ?_
    refine e_aload_n X dX9_loggedPaid_5 rfl rfl ?_
    refine e_callVi X (r := (F_Town_logRows σ t)) (σ1 := σ) [] [.int v3] (C_Town_logRows (Cx_gok X) σ t gt) gv_X9_210 yk_X9_logRows rfl (ent_lt gt.1) (ent_at gt.1 _) (rfl : vCl[8]? = some (RX9, TX9, 20)) ⟨Nat.le_of_ble_eq_true rfl, Nat.le_of_ble_eq_true rfl⟩ ⟨Nat.le_of_ble_eq_true rfl, Nat.le_of_ble_eq_true rfl⟩ (Nat.le_of_ble_eq_true rfl) dX9_loggedPaid_6 rfl ?_
    refine e_icmp_ge X 37 dX9_loggedPaid_9 (by decide) (fun c1 => ?_) (fun c1 => ?_)
    · skip
      exact absurd (cntS hn) c1
    · skip
      refine e_aload_n X dX9_loggedPaid_12 rfl rfl ?_
      refine e_iload_n X dX9_loggedPaid_13 rfl rfl ?_
      refine e_iconst X 1 dX9_loggedPaid_14 rfl ?_
      refine e_callVi X (r := (F_Town_logged σ t v3 1)) (σ1 := σ) [.int v3, .int 1] [] (C_Town_logged (Cx_gok X) σ t v3 1 gt) gv_X9_213 yk_X9_logged rfl (ent_lt gt.1) (ent_at gt.1 _) (rfl : vCl[8]? = some (RX9, TX9, 20)) ⟨Nat.le_of_ble_eq_true rfl, Nat.le_of_ble_eq_true rfl⟩ ⟨Nat.le_of_ble_eq_true rfl, Nat.le_of_ble_eq_true rfl⟩ (Nat.le_of_ble_eq_true rfl) dX9_loggedPaid_15 rfl ?_
      refine e_iload_n X dX9_loggedPaid_18 rfl rfl ?_
      refine e_icmp_ne X 31 dX9_loggedPaid_19 (by decide) (fun c2 => ?_) (fun c2 => ?_)
      · skip
        rw [if_neg c2] at hB
        refine e_iinc X 1 dX9_loggedPaid_31 rfl rfl (by decide) ?_
        refine e_goto X 4 dX9_loggedPaid_34 (by decide) ?_
        have hy9 := hB; change (v2) = y9 at hy9; subst hy9
        exact e_le (ih _ v2 hF (cntN hn) (nnN h0 (cnt_hi hn)) hK) (And.intro rfl (And.intro rfl (And.intro rfl (And.intro rfl (trivial)))))
      · skip
        rw [if_pos c2] at hB
        refine e_iload_n X dX9_loggedPaid_22 rfl rfl ?_
        refine e_aload_n X dX9_loggedPaid_23 rfl rfl ?_
        refine e_iload_n X dX9_loggedPaid_24 rfl rfl ?_
        refine e_iconst X 2 dX9_loggedPaid_25 rfl ?_
        refine e_callVi X (r := (F_Town_logged σ t v3 2)) (σ1 := σ) [.int v3, .int 2] [.int v2] (C_Town_logged (Cx_gok X) σ t v3 2 gt) gv_X9_213 yk_X9_logged rfl (ent_lt gt.1) (ent_at gt.1 _) (rfl : vCl[8]? = some (RX9, TX9, 20)) ⟨Nat.le_of_ble_eq_true rfl, Nat.le_of_ble_eq_true rfl⟩ ⟨Nat.le_of_ble_eq_true rfl, Nat.le_of_ble_eq_true rfl⟩ (Nat.le_of_ble_eq_true rfl) dX9_loggedPaid_26 rfl ?_
        refine e_iadd X dX9_loggedPaid_29 ?_
        obtain ⟨x3, h_x3, hB⟩ := bindT_out hB
        refine e_istore_n X h_x3 dX9_loggedPaid_30 rfl (by decide) ?_
        refine e_iinc X 1 dX9_loggedPaid_31 rfl rfl (by decide) ?_
        refine e_goto X 4 dX9_loggedPaid_34 (by decide) ?_
        have hy9 := hB; change (x3) = y9 at hy9; subst hy9
        exact e_le (ih _ x3 hF (cntN hn) (nnN h0 (cnt_hi hn)) hK) (And.intro rfl (And.intro rfl (And.intro rfl (And.intro rfl (trivial)))))
set_option maxRecDepth 20000 in
set_option maxHeartbeats 4000000 in
theorem C_Town_loggedPaid (hG : Gok l Γ D s0) (σ : Mem) (t : Nat) (v1 : Int32) (gt : isTown t) : CT l Γ D s0 yX9_loggedPaid cX9_loggedPaid 4 (some .int) (2) 0 0 (43) σ [.ref (Γ.1 + t), .int v1] (PI (some (.int (F_Town_loggedPaid σ t v1))) σ) := by
  generalize hF : F_Town_loggedPaid σ t v1 = out
  unfold F_Town_loggedPaid at hF
  refine e_met (own := RX9) hG (by decide +kernel) rfl rfl (Nat.le_of_ble_eq_true rfl) ?_
  intro p e s m args below meth c X hr
  show E p l e _ s m args below meth c Γ D 0 0 _ σ 0 [some (.ref (Γ.1 + t)), some (.int v1), none, none] []
  refine e_iconst X 0 dX9_loggedPaid_0 rfl ?_
  refine e_istore_n X rfl dX9_loggedPaid_1 rfl (by decide) ?_
  refine e_iconst X 0 dX9_loggedPaid_2 rfl ?_
  refine e_istore_n X rfl dX9_loggedPaid_3 rfl (by decide) ?_
  obtain ⟨z5, h_z5, hF⟩ := bindT_out hF
  refine e_le (L_Town_loggedPaid_4 X hr σ t v1 gt _ 0 0 h_z5.symm rfl (by decide) ?_) (And.intro rfl (And.intro rfl (And.intro rfl (And.intro rfl (trivial)))))
  refine e_iload_n X dX9_loggedPaid_37 rfl rfl ?_
  exact e_iret X hr dX9_loggedPaid_38 (Nat.le_of_ble_eq_true rfl) (Nat.le_of_ble_eq_true rfl) (by cases hF; exact ⟨rfl, rfl⟩)
end PART

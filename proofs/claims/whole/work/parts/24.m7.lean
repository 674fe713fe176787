section PART
variable {p : Program} {l : Launch} {e : Env} {R : Room} {s : State} {m : MethodId} {args : Array Value} {below : List Frame} {meth : Method} {c : Code} {Γ : Gm} {D : va_G} {s0 : State} {cells slots : Nat} {Q : State → Prop} {own : String} {cc : ByteArray} {nL : Nat} {σ : Mem} {pc : Nat} {lv : List (Option Value)} {st : List Value} {Pst : Option Value → Mem → Prop}
def F_M_lawLine (σ : Mem)  : Option (Mem) := obind (F_M_says σ 8) fun z1 => (if z1.2 = 0 then obind (F_M_says z1.1 9) fun z21 => (if z21.2 = 0 then bindT (F_M_wrong z21.1 ((z21.1 333 11))) fun z41 => some z41 else obind (F_M_figures z21.1 0 30) fun z23 => (if (z23.1 333 12) = (-1) then obind (F_M_says z23.1 10) fun z25 => (if z25.2 = 0 then (if (z25.1 333 12) = (-1) then (if z1.2 = 0 then bindT (up z25.1 333 16 (((z25.1 333 16) + (-z23.2)))) fun σ30 => some σ30 else bindT (up z25.1 333 16 (((z25.1 333 16) + z23.2))) fun σ31 => some σ31) else some z25.1) else obind (F_M_some z25.1) fun z32 => (if z32.2 = 0 then (if (z32.1 333 12) = (-1) then some z32.1 else some z32.1) else (if (z32.1 333 12) = (-1) then (if z1.2 = 0 then bindT (up z32.1 333 16 (((z32.1 333 16) + (-z23.2)))) fun σ39 => some σ39 else bindT (up z32.1 333 16 (((z32.1 333 16) + z23.2))) fun σ40 => some σ40) else some z32.1))) else some z23.1)) else obind (F_M_figures z1.1 0 30) fun z3 => (if (z3.1 333 12) = (-1) then obind (F_M_says z3.1 10) fun z5 => (if z5.2 = 0 then (if (z5.1 333 12) = (-1) then (if z1.2 = 0 then bindT (up z5.1 333 16 (((z5.1 333 16) + (-z3.2)))) fun σ10 => some σ10 else bindT (up z5.1 333 16 (((z5.1 333 16) + z3.2))) fun σ11 => some σ11) else some z5.1) else obind (F_M_some z5.1) fun z12 => (if z12.2 = 0 then (if (z12.1 333 12) = (-1) then some z12.1 else some z12.1) else (if (z12.1 333 12) = (-1) then (if z1.2 = 0 then bindT (up z12.1 333 16 (((z12.1 333 16) + (-z3.2)))) fun σ19 => some σ19 else bindT (up z12.1 333 16 (((z12.1 333 16) + z3.2))) fun σ20 => some σ20) else some z12.1))) else some z3.1))
def F_M_read_23_b (v1 : Int32) (v2 : Int32) (v3 : Int32) (σ : Mem) : Option ((Int32 × Int32 × Mem) ⊕ (Int32 × Int32 × Mem)) := (if v2 = 0 then some (.inr ((v2, v3, σ))) else (if (σ 333 12) = (-1) then obind (F_M_skip σ) fun z5 => (if v1 = 0 then (if v3 = 14 then bindT (F_M_wrong z5 ((z5 333 11))) fun z27 => bindT (v3 + 1) fun x28 => obind (F_M_skip z27) fun z29 => (if (z29 333 12) = (-1) then (if (z29 333 11) = (z29 333 10) then some (.inl ((0, x28, z29))) else obind (F_M_isSign z29 59) fun z32 => (if z32.2 = 0 then bindT (F_M_wrong z32.1 ((z32.1 333 11))) fun z34 => some (.inl ((v2, x28, z34))) else bindT (up z32.1 333 11 (((z32.1 333 11) + 1))) fun σ35 => some (.inl ((v2, x28, σ35))))) else some (.inl ((0, x28, z29)))) else (if v1 = 0 then obind (F_M_townLine z5) fun z9 => bindT (v3 + 1) fun x10 => obind (F_M_skip z9) fun z11 => (if (z11 333 12) = (-1) then (if (z11 333 11) = (z11 333 10) then some (.inl ((0, x10, z11))) else obind (F_M_isSign z11 59) fun z14 => (if z14.2 = 0 then bindT (F_M_wrong z14.1 ((z14.1 333 11))) fun z16 => some (.inl ((v2, x10, z16))) else bindT (up z14.1 333 11 (((z14.1 333 11) + 1))) fun σ17 => some (.inl ((v2, x10, σ17))))) else some (.inl ((0, x10, z11)))) else obind (F_M_lawLine z5) fun z18 => bindT (v3 + 1) fun x19 => obind (F_M_skip z18) fun z20 => (if (z20 333 12) = (-1) then (if (z20 333 11) = (z20 333 10) then some (.inl ((0, x19, z20))) else obind (F_M_isSign z20 59) fun z23 => (if z23.2 = 0 then bindT (F_M_wrong z23.1 ((z23.1 333 11))) fun z25 => some (.inl ((v2, x19, z25))) else bindT (up z23.1 333 11 (((z23.1 333 11) + 1))) fun σ26 => some (.inl ((v2, x19, σ26))))) else some (.inl ((0, x19, z20)))))) else (if v3 = 12 then bindT (F_M_wrong z5 ((z5 333 11))) fun z56 => bindT (v3 + 1) fun x57 => obind (F_M_skip z56) fun z58 => (if (z58 333 12) = (-1) then (if (z58 333 11) = (z58 333 10) then some (.inl ((0, x57, z58))) else obind (F_M_isSign z58 59) fun z61 => (if z61.2 = 0 then bindT (F_M_wrong z61.1 ((z61.1 333 11))) fun z63 => some (.inl ((v2, x57, z63))) else bindT (up z61.1 333 11 (((z61.1 333 11) + 1))) fun σ64 => some (.inl ((v2, x57, σ64))))) else some (.inl ((0, x57, z58)))) else (if v1 = 0 then obind (F_M_townLine z5) fun z38 => bindT (v3 + 1) fun x39 => obind (F_M_skip z38) fun z40 => (if (z40 333 12) = (-1) then (if (z40 333 11) = (z40 333 10) then some (.inl ((0, x39, z40))) else obind (F_M_isSign z40 59) fun z43 => (if z43.2 = 0 then bindT (F_M_wrong z43.1 ((z43.1 333 11))) fun z45 => some (.inl ((v2, x39, z45))) else bindT (up z43.1 333 11 (((z43.1 333 11) + 1))) fun σ46 => some (.inl ((v2, x39, σ46))))) else some (.inl ((0, x39, z40)))) else obind (F_M_lawLine z5) fun z47 => bindT (v3 + 1) fun x48 => obind (F_M_skip z47) fun z49 => (if (z49 333 12) = (-1) then (if (z49 333 11) = (z49 333 10) then some (.inl ((0, x48, z49))) else obind (F_M_isSign z49 59) fun z52 => (if z52.2 = 0 then bindT (F_M_wrong z52.1 ((z52.1 333 11))) fun z54 => some (.inl ((v2, x48, z54))) else bindT (up z52.1 333 11 (((z52.1 333 11) + 1))) fun σ55 => some (.inl ((v2, x48, σ55))))) else some (.inl ((0, x48, z49))))))) else some (.inr ((v2, v3, σ)))))
def F_M_read (σ : Mem) (v1 : Int32) : Option (Mem × Int32) := obind (F_M_skip σ) fun z1 => (if (z1 333 11) < (z1 333 10) then obind (whl (fun s => F_M_read_23_b v1 s.1 s.2.1 s.2.2) FUEL (1, 0, z1)) fun z66 => some ((z66.2.2, z66.2.1)) else obind (whl (fun s => F_M_read_23_b v1 s.1 s.2.1 s.2.2) FUEL (0, 0, z1)) fun z65 => some ((z65.2.2, z65.2.1)))
def F_M_town (σ : Mem)  : Option (Mem × Int32) := obind (F_M_putsAside σ) fun z1 => bindT (F_M_begins z1) fun z2 => obind (F_M_read z2 0) fun z3 => (if (z3.1 333 12) = (-1) then (if (z3.1 334 0) = 12 then bindT (up z3.1 333 0 2) fun σ11 => (if 0 < (σ11 333 0) then obind (F_M_comesBack σ11) fun z15 => some ((z15, 0)) else bindT (up σ11 334 0 (((σ11 334 0) + 1))) fun σ13 => bindT (up σ13 333 6 0) fun σ14 => some ((σ14, (σ14 334 0)))) else bindT (up z3.1 333 0 0) fun σ6 => (if 0 < (σ6 333 0) then obind (F_M_comesBack σ6) fun z10 => some ((z10, 0)) else bindT (up σ6 334 0 (((σ6 334 0) + 1))) fun σ8 => bindT (up σ8 333 6 0) fun σ9 => some ((σ9, (σ9 334 0))))) else bindT (up z3.1 333 0 1) fun σ16 => (if 0 < (σ16 333 0) then obind (F_M_comesBack σ16) fun z20 => some ((z20, 0)) else bindT (up σ16 334 0 (((σ16 334 0) + 1))) fun σ18 => bindT (up σ18 333 6 0) fun σ19 => some ((σ19, (σ19 334 0)))))
def F_M_law_55_b (v1 : Int32) (v2 : Int32) (σ : Mem) : Option ((Int32 × Mem) ⊕ (Int32 × Mem)) := (if v2 < (σ 333 10) then chk (inb v2 400) <| bindT ((450 + v2)) fun i10 => chk (inb i10 850) <| bindT (up σ 334 i10.toNatClampNeg ((σ 338 v2.toNatClampNeg))) fun σ12 => bindT (v2 + 1) fun x13 => some (.inl ((x13, σ12))) else some (.inr ((v2, σ))))
def F_M_law (σ : Mem)  : Option (Mem × Int32) := bindT (F_M_begins σ) fun z1 => obind (F_M_read z1 1) fun z2 => (if (z2.1 333 12) = (-1) then bindT (up z2.1 333 0 0) fun σ4 => (if 0 < (σ4 333 0) then some ((σ4, 0)) else bindT (up σ4 334 1 z2.2) fun σ6 => bindT (up σ6 334 2 ((σ6 333 10))) fun σ7 => obind (whl (fun s => F_M_law_55_b z2.2 s.1 s.2) FUEL (0, σ7)) fun z14 => bindT (up z14.2 333 6 0) fun σ15 => some ((σ15, z2.2))) else bindT (up z2.1 333 0 1) fun σ16 => (if 0 < (σ16 333 0) then some ((σ16, 0)) else bindT (up σ16 334 1 z2.2) fun σ18 => bindT (up σ18 334 2 ((σ18 333 10))) fun σ19 => obind (whl (fun s => F_M_law_55_b z2.2 s.1 s.2) FUEL (0, σ19)) fun z20 => bindT (up z20.2 333 6 0) fun σ21 => some ((σ21, z2.2))))
def F_M_turnsBy (σ : Mem) (v1 : Int32) (v2 : Int32) : Option (Mem × Int32) := obind (F_M_ofMatch σ v1 0) fun z1 => obind (F_M_ofMatch σ v1 1) fun z2 => obind (F_M_ofMatch σ v1 2) fun z3 => bindT (up σ 339 0 z3) fun σ4 => obind (F_M_ofMatch σ4 v1 3) fun z5 => bindT (up σ4 339 1 z5) fun σ6 => bindT (up σ6 339 2 v2) fun σ7 => obind (F_M_insurers σ7 v1) fun z8 => bindT (up σ7 339 3 ((F_M_bits σ7 z8))) fun σ9 => obind (F_M_likes σ9 z1 z2) fun z10 => obind (F_M_likes σ9 z2 z1) fun z11 => bindT (up σ9 339 4 ((z10 + z11))) fun σ12 => bindT (up σ12 339 5 (((σ12 334 8) - (σ12 334 8) / 12 * 12))) fun σ13 => obind (F_M_of σ13 z1 0) fun z14 => obind (F_M_of σ13 z2 0) fun z15 => (if 99 < (z14 + z15) then bindT (up σ13 333 15 1) fun σ28 => (if (σ28 334 1) = (-1) then some ((σ28, ((σ28 339 4) - v2))) else bindT (up σ28 333 16 0) fun σ30 => bindT ((σ30 333 12)) fun x31 => bindT (up σ30 333 12 ((-1))) fun σ32 => bindT (up σ32 333 9 450) fun σ33 => bindT (up σ33 333 10 ((σ33 334 2))) fun σ34 => bindT (up σ34 333 11 0) fun σ35 => bindT (up σ35 333 13 0) fun σ36 => obind (F_M_read σ36 1) fun z37 => bindT (up z37.1 333 12 x31) fun σ38 => some ((σ38, (σ38 333 16)))) else bindT (up σ13 333 15 0) fun σ17 => (if (σ17 334 1) = (-1) then some ((σ17, ((σ17 339 4) - v2))) else bindT (up σ17 333 16 0) fun σ19 => bindT ((σ19 333 12)) fun x20 => bindT (up σ19 333 12 ((-1))) fun σ21 => bindT (up σ21 333 9 450) fun σ22 => bindT (up σ22 333 10 ((σ22 334 2))) fun σ23 => bindT (up σ23 333 11 0) fun σ24 => bindT (up σ24 333 13 0) fun σ25 => obind (F_M_read σ25 1) fun z26 => bindT (up z26.1 333 12 x20) fun σ27 => some ((σ27, (σ27 333 16)))))
def F_M_nextOf (σ : Mem) (v1 : Int32) (v2 : Int32) : Option (Mem × Int32) := obind (F_M_ofMatch σ v1 2) fun z1 => obind (F_M_turnsBy σ v1 v2) fun z2 => some ((z2.1, (F_M_greater z2.1 0 ((F_M_lesser z2.1 99 ((z1 + z2.2)))))))
def F_M_goes_31_b (v1 : Int32) (v2 : Int32) (v3 : Int32) (v4 : Int32) (σ : Mem) : Option ((Int32 × Mem) ⊕ (Int32 × Mem)) := (if v4 < (σ 334 4) then obind (F_M_ofMatch σ v4 4) fun z6 => (if z6 = 1 then bindT (v4 + 1) fun x28 => some (.inl ((x28, σ))) else obind (F_M_premiums σ v4) fun z8 => obind (F_M_nextOf z8 v4 ((z8 334 9))) fun z9 => obind (F_M_told z9.1 v4 2 z9.2) fun z10 => obind (F_M_ofMatch z10 v4 3) fun z11 => obind (F_M_told z10 v4 3 ((z11 + 1))) fun z12 => obind (F_M_ofMatch z12 v4 2) fun z13 => (if z13 < (z12 334 5) then obind (F_M_insurers z12 v4) fun z20 => obind (F_M_claims z12 v4) fun z21 => obind (F_M_logs z21.1 v4 z21.2 z20) fun z22 => obind (F_M_ofMatch z22 v4 2) fun z23 => (if z23 = 0 then obind (F_M_told z22 v4 4 1) fun z26 => bindT (v4 + 1) fun x27 => some (.inl ((x27, z26))) else bindT (v4 + 1) fun x25 => some (.inl ((x25, z22)))) else obind (F_M_ofMatch z12 v4 2) fun z15 => (if z15 = 0 then obind (F_M_told z12 v4 4 1) fun z18 => bindT (v4 + 1) fun x19 => some (.inl ((x19, z18))) else bindT (v4 + 1) fun x17 => some (.inl ((x17, z12)))))) else some (.inr ((v4, σ))))
def F_M_goes_10_b (v1 : Int32) (v2 : Int32) (v3 : Int32) (σ : Mem) : Option (Mem) := obind (F_M_draw σ 10) fun z3 => bindT (up z3.1 334 9 z3.2) fun σ4 => obind (whl (fun s => F_M_goes_31_b v1 v2 v3 s.1 s.2) FUEL (0, σ4)) fun z29 => bindT (up z29.2 334 8 ((F_M_lesser z29.2 9999 (((z29.2 334 8) + 1))))) fun σ30 => some (σ30)
def F_M_goes (σ : Mem) (v1 : Int32) : Option (Mem × Int32) := bindT ((σ 334 10)) fun x1 => obind (forSO (fun i s => F_M_goes_10_b v1 x1 i s) (cnt 0 v1) 0 σ) fun z32 => some ((z32, ((z32 334 10) - x1)))
def F_M_match (σ : Mem) (v1 : Int32) (v2 : Int32) : Option (Mem × Int32) := obind (F_M_isMatch σ v1) fun z1 => (if z1 = 0 then bindT (up σ 333 0 1) fun σ18 => (if 0 < (σ18 333 0) then some ((σ18, 0)) else (if v2 < 5 then obind (F_M_ofMatch σ18 v1 v2) fun z24 => some ((σ18, z24)) else (if v2 = 5 then obind (F_M_insurers σ18 v1) fun z23 => some ((σ18, z23)) else obind (F_M_turnsBy σ18 v1 ((σ18 334 9))) fun z22 => some ((z22.1, z22.2))))) else (if (F_M_isIn σ v2 0 6) = 0 then bindT (up σ 333 0 2) fun σ11 => (if 0 < (σ11 333 0) then some ((σ11, 0)) else (if v2 < 5 then obind (F_M_ofMatch σ11 v1 v2) fun z17 => some ((σ11, z17)) else (if v2 = 5 then obind (F_M_insurers σ11 v1) fun z16 => some ((σ11, z16)) else obind (F_M_turnsBy σ11 v1 ((σ11 334 9))) fun z15 => some ((z15.1, z15.2))))) else bindT (up σ 333 0 0) fun σ4 => (if 0 < (σ4 333 0) then some ((σ4, 0)) else (if v2 < 5 then obind (F_M_ofMatch σ4 v1 v2) fun z10 => some ((σ4, z10)) else (if v2 = 5 then obind (F_M_insurers σ4 v1) fun z9 => some ((σ4, z9)) else obind (F_M_turnsBy σ4 v1 ((σ4 334 9))) fun z8 => some ((z8.1, z8.2)))))))
def F_M_months (σ : Mem) (v1 : Int32) : Option (Mem × Int32) := (if (F_M_isIn σ v1 1 60) = 0 then bindT (up σ 333 0 1) fun σ6 => (if 0 < (σ6 333 0) then some ((σ6, 0)) else obind (F_M_remembers σ6) fun z8 => obind (F_M_goes z8 v1) fun z9 => some ((z9.1, z9.2))) else bindT (up σ 333 0 0) fun σ2 => (if 0 < (σ2 333 0) then some ((σ2, 0)) else obind (F_M_remembers σ2) fun z4 => obind (F_M_goes z4 v1) fun z5 => some ((z5.1, z5.2))))
def F_M_next (σ : Mem) (v1 : Int32) (v2 : Int32) : Option (Mem × Int32) := obind (F_M_badMatch σ v1 0 0 v2) fun z1 => bindT (up σ 333 0 z1) fun σ2 => (if 0 < (σ2 333 0) then some ((σ2, 0)) else obind (F_M_ofMatch σ2 v1 4) fun z4 => (if z4 = 1 then some ((σ2, 0)) else obind (F_M_nextOf σ2 v1 v2) fun z6 => some ((z6.1, z6.2))))
def F_M_passes (σ : Mem) (v1 : Int32) (v2 : Int32) : Option (Mem) := obind (F_M_ofMatch σ v1 2) fun z1 => (if 0 < z1 then obind (F_M_nextOf σ v1 v2) fun z6 => obind (F_M_told z6.1 v1 2 z6.2) fun z7 => obind (F_M_ofMatch z7 v1 3) fun z8 => obind (F_M_told z7 v1 3 ((z8 + 1))) fun z9 => bindT (up z9 334 8 ((F_M_lesser z9 9999 (((z9 334 8) + 1))))) fun σ10 => some σ10 else obind (F_M_ofMatch σ v1 3) fun z3 => obind (F_M_told σ v1 3 ((z3 + 1))) fun z4 => bindT (up z4 334 8 ((F_M_lesser z4 9999 (((z4 334 8) + 1))))) fun σ5 => some σ5)
def F_M_ahead_39_b (v1 : Int32) (v2 : Int32) (v3 : Int32) (v4 : Int32) (σ : Mem) : Option (Mem) := obind (F_M_passes σ v1 v3) fun z8 => some (z8)
def F_M_ahead (σ : Mem) (v1 : Int32) (v2 : Int32) (v3 : Int32) : Option (Mem × Int32) := obind (F_M_badMatch σ v1 v2 40 v3) fun z1 => bindT (up σ 333 0 z1) fun σ2 => (if 0 < (σ2 333 0) then some ((σ2, 0)) else obind (F_M_ofMatch σ2 v1 4) fun z4 => (if z4 = 1 then some ((σ2, 0)) else obind (F_M_putsAside σ2) fun z6 => obind (forSO (fun i s => F_M_ahead_39_b v1 v2 v3 i s) (cnt 0 v2) 0 z6) fun z10 => obind (F_M_ofMatch z10 v1 2) fun z11 => obind (F_M_comesBack z10) fun z12 => some ((z12, z11))))
def F_M_first_42_b (v1 : Int32) (v2 : Int32) (v4 : Int32) (v3 : Int32) (σ : Mem) : Option ((Int32 × Mem) ⊕ (Int32 × Mem)) := (if v3 = (-1) then obind (F_M_passes σ v1 v2) fun z9 => obind (F_M_ofMatch z9 v1 2) fun z10 => (if z10 < (z9 334 5) then some (.inl ((v4, z9))) else some (.inl ((v3, z9)))) else some (.inr ((v3, σ))))
def F_M_first (σ : Mem) (v1 : Int32) (v2 : Int32) : Option (Mem × Int32) := obind (F_M_badMatch σ v1 0 0 v2) fun z1 => bindT (up σ 333 0 z1) fun σ2 => (if 0 < (σ2 333 0) then some ((σ2, 0)) else obind (F_M_ofMatch σ2 v1 4) fun z4 => (if z4 = 1 then some ((σ2, (-1))) else obind (F_M_putsAside σ2) fun z6 => obind (omap mrg (forGO (fun i s => F_M_first_42_b v1 v2 i s.1 s.2) (cle 1 40) 1 ((-1), z6))) fun z13 => obind (F_M_comesBack z13.2) fun z14 => some ((z14, z13.1))))
def F_M_odds_21_b (v1 : Int32) (v3 : Int32) (v2 : Int32) (σ : Mem) : Option ((Int32 × Mem) ⊕ (Int32 × Mem)) := (if (σ 333 0) = 0 then obind (F_M_ofMatch σ v1 4) fun z6 => (if z6 = 0 then obind (F_M_nextOf σ v1 v3) fun z8 => (if z8.2 < (z8.1 334 5) then bindT ((v2 + 1)) fun x11 => some (.inl ((x11, z8.1))) else bindT ((v2 + 0)) fun x10 => some (.inl ((x10, z8.1)))) else some (.inr ((v2, σ)))) else some (.inr ((v2, σ))))
def F_M_odds (σ : Mem) (v1 : Int32) : Option (Mem × Int32) := obind (F_M_isMatch σ v1) fun z1 => (if z1 = 0 then bindT (up σ 333 0 1) fun σ14 => obind (omap mrg (forGO (fun i s => F_M_odds_21_b v1 i s.1 s.2) (cnt 0 10) 0 (0, σ14))) fun z15 => some ((z15.2, z15.1)) else bindT (up σ 333 0 0) fun σ3 => obind (omap mrg (forGO (fun i s => F_M_odds_21_b v1 i s.1 s.2) (cnt 0 10) 0 (0, σ3))) fun z13 => some ((z13.2, z13.1)))
def F_M_gifts_94_b (v1 : Int32) (v2 : Int32) (v3 : Int32) (v4 : Int32) (v5 : Int32) (σ : Mem) : Option ((Mem) ⊕ (Mem)) := (if v4 < v2 then obind (F_M_told σ v1 2 v5) fun z14 => (if v5 = 0 then obind (F_M_by z14 v4 v5 0) fun z18 => some (.inl z18) else obind (F_M_nextOf z14 v1 v3) fun z16 => obind (F_M_by z16.1 v4 v5 z16.2) fun z17 => some (.inl z17)) else some (.inr σ))
def F_M_gifts_147_b (v1 : Int32) (v2 : Int32) (v3 : Int32) (v4 : Int32) (v5 : Int32) (σ : Mem) : Option (Mem) := (if v4 = v2 then bindT (((100 * v4) + v5)) fun i27 => chk (inb i27 2100) <| bindT (up σ 340 i27.toNatClampNeg 0) fun σ29 => some (σ29) else obind (F_M_fewest σ v4 v5) fun z23 => bindT (((100 * v4) + v5)) fun i24 => chk (inb i24 2100) <| bindT (up σ 340 i24.toNatClampNeg z23) fun σ26 => some (σ26))
def F_M_gifts_41_b (v1 : Int32) (v2 : Int32) (v3 : Int32) (v4 : Int32) (σ : Mem) : Option ((Int32 × Mem) ⊕ (Int32 × Mem)) := (if v4 < 0 then some (.inr ((v4, σ))) else bindT (up σ 334 8 ((F_M_lesser σ 9999 (((σ 336 8) + v4))))) fun σ8 => bindT (((110 + (5 * v1)) + 3)) fun i9 => chk (inb i9 450) <| obind (F_M_told σ8 v1 3 (((σ8 336 i9.toNatClampNeg) + v4))) fun z11 => obind (omap mrg (forGO (fun i s => F_M_gifts_94_b v1 v2 v3 v4 i s) (cnt 0 100) 0 z11)) fun z20 => obind (forSO (fun i s => F_M_gifts_147_b v1 v2 v3 v4 i s) (cnt 0 100) 0 z20) fun z31 => bindT (v4 + (-1)) fun x32 => some (.inl ((x32, z31))))
def F_M_gifts (σ : Mem) (v1 : Int32) (v2 : Int32) (v3 : Int32) : Option (Mem × Int32) := obind (F_M_badMatch σ v1 v2 20 v3) fun z1 => bindT (up σ 333 0 z1) fun σ2 => (if 0 < (σ2 333 0) then some ((σ2, 0)) else obind (F_M_ofMatch σ2 v1 4) fun z4 => (if z4 = 1 then some ((σ2, (-1))) else obind (F_M_putsAside σ2) fun z6 => obind (whl (fun s => F_M_gifts_41_b v1 v2 v3 s.1 s.2) FUEL (v2, z6)) fun z33 => obind (F_M_ofAside z33.2 v1) fun z34 => chk (inb z34 2100) <| bindT ((z33.2 340 z34.toNatClampNeg)) fun x36 => obind (F_M_comesBack z33.2) fun z37 => (if 40 < x36 then some ((z37, (-1))) else some ((z37, x36)))))
def F_M_trial (σ : Mem) (v1 : Int32) (v2 : Int32) : Option (Mem × Int32) := (if (F_M_isIn σ v1 0 40) = 0 then bindT (up σ 333 0 1) fun σ10 => (if 0 < (σ10 333 0) then some ((σ10, 0)) else obind (F_M_putsAside σ10) fun z12 => obind (F_M_goes z12 v1) fun z13 => (if v2 = 0 then obind (F_M_comesBack z13.1) fun z15 => some ((z15, z13.2)) else obind (F_M_ruinedOnes z13.1) fun z16 => obind (F_M_comesBack z13.1) fun z17 => some ((z17, z16)))) else bindT (up σ 333 0 0) fun σ2 => (if 0 < (σ2 333 0) then some ((σ2, 0)) else obind (F_M_putsAside σ2) fun z4 => obind (F_M_goes z4 v1) fun z5 => (if v2 = 0 then obind (F_M_comesBack z5.1) fun z7 => some ((z7, z5.2)) else obind (F_M_ruinedOnes z5.1) fun z8 => obind (F_M_comesBack z5.1) fun z9 => some ((z9, z8)))))
def F_M_span_37_b (v1 : Int32) (v2 : Int32) (v4 : Int32) (v3 : Int32) (σ : Mem) : Option (Int32 × Mem) := bindT (up σ 334 12 v4) fun σ6 => obind (F_M_goes σ6 v1) fun z7 => obind (F_M_comesBack z7.1) fun z8 => (if v3 = (-1) then some ((z7.2, z8)) else (if v2 = 0 then bindT ((F_M_lesser z8 v3 z7.2)) fun x11 => some ((x11, z8)) else bindT ((F_M_greater z8 v3 z7.2)) fun x12 => some ((x12, z8))))
def F_M_span (σ : Mem) (v1 : Int32) (v2 : Int32) : Option (Mem × Int32) := (if (F_M_isIn σ v1 0 40) = 0 then bindT (up σ 333 0 1) fun σ15 => (if 0 < (σ15 333 0) then some ((σ15, 0)) else obind (F_M_putsAside σ15) fun z17 => obind (forSO (fun i s => F_M_span_37_b v1 v2 i s.1 s.2) (cle 1 6) 1 ((-1), z17)) fun z18 => some ((z18.2, z18.1))) else bindT (up σ 333 0 0) fun σ2 => (if 0 < (σ2 333 0) then some ((σ2, 0)) else obind (F_M_putsAside σ2) fun z4 => obind (forSO (fun i s => F_M_span_37_b v1 v2 i s.1 s.2) (cle 1 6) 1 ((-1), z4)) fun z14 => some ((z14.2, z14.1))))
set_option maxRecDepth 20000 in
set_option maxHeartbeats 4000000 in
theorem C_M_lawLine (hG : Gok l Γ D s0) (σ : Mem)   {out : Mem} (hF : F_M_lawLine σ = some out) : CT l Γ D s0 yX12_lawLine cX12_lawLine 4 none (79) 0 0 (1709) σ [.ref (Γ.1 + 333)] (PI none out) := by
  unfold F_M_lawLine at hF
  refine e_met (own := RX12) hG (by decide +kernel) rfl rfl (Nat.le_of_ble_eq_true rfl) ?_
  intro p e s m args below meth c X hr
  show E p l e _ s m args below meth c Γ D 0 0 _ σ 0 [some (.ref (Γ.1 + 333)), none, none, none] []
  refine e_aload_n X dX12_lawLine_0 rfl rfl ?_
  refine e_ldcS X (sr_X12_247 (x_gst X)) dX12_lawLine_1 ?_
  obtain ⟨z1, h_z1, hF⟩ := obind_out hF
  refine e_callVi X (r := z1.2) (σ1 := z1.1) [.ref (sad Γ 8)] [] (C_M_says (Cx_gok X) σ 8 (by decide) h_z1) gv_X12_111 yk_X12_says rfl (ent_lt (rfl : entTbl[333]? = some (13, 0))) (ent_at (rfl : entTbl[333]? = some (13, 0)) _) (rfl : vCl[11]? = some (RX12, TX12, 24)) ⟨Nat.le_of_ble_eq_true rfl, Nat.le_of_ble_eq_true rfl⟩ ⟨Nat.le_of_ble_eq_true rfl, Nat.le_of_ble_eq_true rfl⟩ (Nat.le_of_ble_eq_true rfl) dX12_lawLine_3 rfl ?_
  refine e_istore_n X rfl dX12_lawLine_6 rfl (by decide) ?_
  refine e_iload_n X dX12_lawLine_7 rfl rfl ?_
  refine e_if_ne X 29 dX12_lawLine_8 (by decide) (fun c2 => ?_) (fun c2 => ?_)
  · skip
    rw [if_neg c2] at hF
    refine e_aload_n X dX12_lawLine_29 rfl rfl ?_
    refine e_iconst X 0 dX12_lawLine_30 rfl ?_
    refine e_bipush X 30 dX12_lawLine_31 rfl ?_
    obtain ⟨z3, h_z3, hF⟩ := obind_out hF
    refine e_callVi X (r := z3.2) (σ1 := z3.1) [.int 0, .int 30] [] (C_M_figures (Cx_gok X) z1.1 0 30 h_z3) gv_X12_115 yk_X12_figures rfl (ent_lt (rfl : entTbl[333]? = some (13, 0))) (ent_at (rfl : entTbl[333]? = some (13, 0)) _) (rfl : vCl[11]? = some (RX12, TX12, 24)) ⟨Nat.le_of_ble_eq_true rfl, Nat.le_of_ble_eq_true rfl⟩ ⟨Nat.le_of_ble_eq_true rfl, Nat.le_of_ble_eq_true rfl⟩ (Nat.le_of_ble_eq_true rfl) dX12_lawLine_33 rfl ?_
    refine e_istore_n X rfl dX12_lawLine_36 rfl (by decide) ?_
    refine e_aload_n X dX12_lawLine_37 rfl rfl ?_
    refine ge_M_fault X wf_X12_25 dX12_lawLine_38 ?_
    refine e_iconst X (-1) dX12_lawLine_41 rfl ?_
    refine e_icmp_eq X 46 dX12_lawLine_42 (by decide) (fun c4 => ?_) (fun c4 => ?_)
    · skip
      rw [if_pos c4] at hF
      refine e_aload_n X dX12_lawLine_46 rfl rfl ?_
      refine e_ldcS X (sr_X12_251 (x_gst X)) dX12_lawLine_47 ?_
      obtain ⟨z5, h_z5, hF⟩ := obind_out hF
      refine e_callVi X (r := z5.2) (σ1 := z5.1) [.ref (sad Γ 10)] [] (C_M_says (Cx_gok X) z3.1 10 (by decide) h_z5) gv_X12_111 yk_X12_says rfl (ent_lt (rfl : entTbl[333]? = some (13, 0))) (ent_at (rfl : entTbl[333]? = some (13, 0)) _) (rfl : vCl[11]? = some (RX12, TX12, 24)) ⟨Nat.le_of_ble_eq_true rfl, Nat.le_of_ble_eq_true rfl⟩ ⟨Nat.le_of_ble_eq_true rfl, Nat.le_of_ble_eq_true rfl⟩ (Nat.le_of_ble_eq_true rfl) dX12_lawLine_49 rfl ?_
      refine e_if_eq X 62 dX12_lawLine_52 (by decide) (fun c6 => ?_) (fun c6 => ?_)
      · skip
        rw [if_pos c6] at hF
        refine e_iconst X 1 dX12_lawLine_62 rfl ?_
        refine e_goto X 67 dX12_lawLine_63 (by decide) ?_
        refine e_istore_n X rfl dX12_lawLine_67 rfl (by decide) ?_
        refine e_aload_n X dX12_lawLine_68 rfl rfl ?_
        refine ge_M_fault X wf_X12_25 dX12_lawLine_69 ?_
        refine e_iconst X (-1) dX12_lawLine_72 rfl ?_
        refine e_icmp_ne X 99 dX12_lawLine_73 (by decide) (fun c7 => ?_) (fun c7 => ?_)
        · skip
          rw [if_neg c7] at hF
          exact e_vret X hr dX12_lawLine_99 (Nat.le_of_ble_eq_true rfl) (Nat.le_of_ble_eq_true rfl) (by cases hF; exact ⟨rfl, rfl⟩)
        · skip
          rw [if_pos c7] at hF
          refine e_iload_n X dX12_lawLine_76 rfl rfl ?_
          refine e_if_eq X 99 dX12_lawLine_77 (by decide) (fun c8 => ?_) (fun c8 => ?_)
          · skip
            exact absurd c8 (by decide)
          · skip
            refine e_aload_n X dX12_lawLine_80 rfl rfl ?_
            refine e_dup X dX12_lawLine_81 rfl ?_
            refine ge_M_turns X wf_X12_253 dX12_lawLine_82 ?_
            refine e_iload_n X dX12_lawLine_85 rfl rfl ?_
            refine e_if_eq X 93 dX12_lawLine_86 (by decide) (fun c9 => ?_) (fun c9 => ?_)
            · skip
              rw [if_pos c9] at hF
              refine e_iload_n X dX12_lawLine_93 rfl rfl ?_
              refine e_ineg X dX12_lawLine_94 ?_
              refine e_iadd X dX12_lawLine_95 ?_
              obtain ⟨σ10, h_σ10, hF⟩ := bindT_out hF
              refine pu_M_turns X wf_X12_253 dX12_lawLine_96 h_σ10 ?_
              exact e_vret X hr dX12_lawLine_99 (Nat.le_of_ble_eq_true rfl) (Nat.le_of_ble_eq_true rfl) (by cases hF; exact ⟨rfl, rfl⟩)
            · skip
              rw [if_neg c9] at hF
              refine e_iload_n X dX12_lawLine_89 rfl rfl ?_
              refine e_goto X 95 dX12_lawLine_90 (by decide) ?_
              refine e_iadd X dX12_lawLine_95 ?_
              obtain ⟨σ11, h_σ11, hF⟩ := bindT_out hF
              refine pu_M_turns X wf_X12_253 dX12_lawLine_96 h_σ11 ?_
              exact e_vret X hr dX12_lawLine_99 (Nat.le_of_ble_eq_true rfl) (Nat.le_of_ble_eq_true rfl) (by cases hF; exact ⟨rfl, rfl⟩)
      · skip
        rw [if_neg c6] at hF
        refine e_aload_n X dX12_lawLine_55 rfl rfl ?_
        obtain ⟨z12, h_z12, hF⟩ := obind_out hF
        refine e_callVi X (r := z12.2) (σ1 := z12.1) [] [] (C_M_some (Cx_gok X) z5.1 h_z12) gv_X12_237 yk_X12_some rfl (ent_lt (rfl : entTbl[333]? = some (13, 0))) (ent_at (rfl : entTbl[333]? = some (13, 0)) _) (rfl : vCl[11]? = some (RX12, TX12, 24)) ⟨Nat.le_of_ble_eq_true rfl, Nat.le_of_ble_eq_true rfl⟩ ⟨Nat.le_of_ble_eq_true rfl, Nat.le_of_ble_eq_true rfl⟩ (Nat.le_of_ble_eq_true rfl) dX12_lawLine_56 rfl ?_
        refine e_if_eq X 66 dX12_lawLine_59 (by decide) (fun c13 => ?_) (fun c13 => ?_)
        · skip
          rw [if_pos c13] at hF
          refine e_iconst X 0 dX12_lawLine_66 rfl ?_
          refine e_istore_n X rfl dX12_lawLine_67 rfl (by decide) ?_
          refine e_aload_n X dX12_lawLine_68 rfl rfl ?_
          refine ge_M_fault X wf_X12_25 dX12_lawLine_69 ?_
          refine e_iconst X (-1) dX12_lawLine_72 rfl ?_
          refine e_icmp_ne X 99 dX12_lawLine_73 (by decide) (fun c14 => ?_) (fun c14 => ?_)
          · skip
            rw [if_neg c14] at hF
            exact e_vret X hr dX12_lawLine_99 (Nat.le_of_ble_eq_true rfl) (Nat.le_of_ble_eq_true rfl) (by cases hF; exact ⟨rfl, rfl⟩)
          · skip
            rw [if_pos c14] at hF
            refine e_iload_n X dX12_lawLine_76 rfl rfl ?_
            refine e_if_eq X 99 dX12_lawLine_77 (by decide) (fun c15 => ?_) (fun c15 => ?_)
            · skip
              exact e_vret X hr dX12_lawLine_99 (Nat.le_of_ble_eq_true rfl) (Nat.le_of_ble_eq_true rfl) (by cases hF; exact ⟨rfl, rfl⟩)
            · skip
              exact absurd c15 (by decide)
        · skip
          rw [if_neg c13] at hF
          refine e_iconst X 1 dX12_lawLine_62 rfl ?_
          refine e_goto X 67 dX12_lawLine_63 (by decide) ?_
          refine e_istore_n X rfl dX12_lawLine_67 rfl (by decide) ?_
          refine e_aload_n X dX12_lawLine_68 rfl rfl ?_
          refine ge_M_fault X wf_X12_25 dX12_lawLine_69 ?_
          refine e_iconst X (-1) dX12_lawLine_72 rfl ?_
          refine e_icmp_ne X 99 dX12_lawLine_73 (by decide) (fun c16 => ?_) (fun c16 => ?_)
          · skip
            rw [if_neg c16] at hF
            exact e_vret X hr dX12_lawLine_99 (Nat.le_of_ble_eq_true rfl) (Nat.le_of_ble_eq_true rfl) (by cases hF; exact ⟨rfl, rfl⟩)
          · skip
            rw [if_pos c16] at hF
            refine e_iload_n X dX12_lawLine_76 rfl rfl ?_
            refine e_if_eq X 99 dX12_lawLine_77 (by decide) (fun c17 => ?_) (fun c17 => ?_)
            · skip
              exact absurd c17 (by decide)
            · skip
              refine e_aload_n X dX12_lawLine_80 rfl rfl ?_
              refine e_dup X dX12_lawLine_81 rfl ?_
              refine ge_M_turns X wf_X12_253 dX12_lawLine_82 ?_
              refine e_iload_n X dX12_lawLine_85 rfl rfl ?_
              refine e_if_eq X 93 dX12_lawLine_86 (by decide) (fun c18 => ?_) (fun c18 => ?_)
              · skip
                rw [if_pos c18] at hF
                refine e_iload_n X dX12_lawLine_93 rfl rfl ?_
                refine e_ineg X dX12_lawLine_94 ?_
                refine e_iadd X dX12_lawLine_95 ?_
                obtain ⟨σ19, h_σ19, hF⟩ := bindT_out hF
                refine pu_M_turns X wf_X12_253 dX12_lawLine_96 h_σ19 ?_
                exact e_vret X hr dX12_lawLine_99 (Nat.le_of_ble_eq_true rfl) (Nat.le_of_ble_eq_true rfl) (by cases hF; exact ⟨rfl, rfl⟩)
              · skip
                rw [if_neg c18] at hF
                refine e_iload_n X dX12_lawLine_89 rfl rfl ?_
                refine e_goto X 95 dX12_lawLine_90 (by decide) ?_
                refine e_iadd X dX12_lawLine_95 ?_
                obtain ⟨σ20, h_σ20, hF⟩ := bindT_out hF
                refine pu_M_turns X wf_X12_253 dX12_lawLine_96 h_σ20 ?_
                exact e_vret X hr dX12_lawLine_99 (Nat.le_of_ble_eq_true rfl) (Nat.le_of_ble_eq_true rfl) (by cases hF; exact ⟨rfl, rfl⟩)
    · skip
      rw [if_neg c4] at hF
      exact e_vret X hr dX12_lawLine_45 (Nat.le_of_ble_eq_true rfl) (Nat.le_of_ble_eq_true rfl) (by cases hF; exact ⟨rfl, rfl⟩)
  · skip
    rw [if_pos c2] at hF
    refine e_aload_n X dX12_lawLine_11 rfl rfl ?_
    refine e_ldcS X (sr_X12_249 (x_gst X)) dX12_lawLine_12 ?_
    obtain ⟨z21, h_z21, hF⟩ := obind_out hF
    refine e_callVi X (r := z21.2) (σ1 := z21.1) [.ref (sad Γ 9)] [] (C_M_says (Cx_gok X) z1.1 9 (by decide) h_z21) gv_X12_111 yk_X12_says rfl (ent_lt (rfl : entTbl[333]? = some (13, 0))) (ent_at (rfl : entTbl[333]? = some (13, 0)) _) (rfl : vCl[11]? = some (RX12, TX12, 24)) ⟨Nat.le_of_ble_eq_true rfl, Nat.le_of_ble_eq_true rfl⟩ ⟨Nat.le_of_ble_eq_true rfl, Nat.le_of_ble_eq_true rfl⟩ (Nat.le_of_ble_eq_true rfl) dX12_lawLine_14 rfl ?_
    refine e_if_ne X 29 dX12_lawLine_17 (by decide) (fun c22 => ?_) (fun c22 => ?_)
    · skip
      rw [if_neg c22] at hF
      refine e_aload_n X dX12_lawLine_29 rfl rfl ?_
      refine e_iconst X 0 dX12_lawLine_30 rfl ?_
      refine e_bipush X 30 dX12_lawLine_31 rfl ?_
      obtain ⟨z23, h_z23, hF⟩ := obind_out hF
      refine e_callVi X (r := z23.2) (σ1 := z23.1) [.int 0, .int 30] [] (C_M_figures (Cx_gok X) z21.1 0 30 h_z23) gv_X12_115 yk_X12_figures rfl (ent_lt (rfl : entTbl[333]? = some (13, 0))) (ent_at (rfl : entTbl[333]? = some (13, 0)) _) (rfl : vCl[11]? = some (RX12, TX12, 24)) ⟨Nat.le_of_ble_eq_true rfl, Nat.le_of_ble_eq_true rfl⟩ ⟨Nat.le_of_ble_eq_true rfl, Nat.le_of_ble_eq_true rfl⟩ (Nat.le_of_ble_eq_true rfl) dX12_lawLine_33 rfl ?_
      refine e_istore_n X rfl dX12_lawLine_36 rfl (by decide) ?_
      refine e_aload_n X dX12_lawLine_37 rfl rfl ?_
      refine ge_M_fault X wf_X12_25 dX12_lawLine_38 ?_
      refine e_iconst X (-1) dX12_lawLine_41 rfl ?_
      refine e_icmp_eq X 46 dX12_lawLine_42 (by decide) (fun c24 => ?_) (fun c24 => ?_)
      · skip
        rw [if_pos c24] at hF
        refine e_aload_n X dX12_lawLine_46 rfl rfl ?_
        refine e_ldcS X (sr_X12_251 (x_gst X)) dX12_lawLine_47 ?_
        obtain ⟨z25, h_z25, hF⟩ := obind_out hF
        refine e_callVi X (r := z25.2) (σ1 := z25.1) [.ref (sad Γ 10)] [] (C_M_says (Cx_gok X) z23.1 10 (by decide) h_z25) gv_X12_111 yk_X12_says rfl (ent_lt (rfl : entTbl[333]? = some (13, 0))) (ent_at (rfl : entTbl[333]? = some (13, 0)) _) (rfl : vCl[11]? = some (RX12, TX12, 24)) ⟨Nat.le_of_ble_eq_true rfl, Nat.le_of_ble_eq_true rfl⟩ ⟨Nat.le_of_ble_eq_true rfl, Nat.le_of_ble_eq_true rfl⟩ (Nat.le_of_ble_eq_true rfl) dX12_lawLine_49 rfl ?_
        refine e_if_eq X 62 dX12_lawLine_52 (by decide) (fun c26 => ?_) (fun c26 => ?_)
        · skip
          rw [if_pos c26] at hF
          refine e_iconst X 1 dX12_lawLine_62 rfl ?_
          refine e_goto X 67 dX12_lawLine_63 (by decide) ?_
          refine e_istore_n X rfl dX12_lawLine_67 rfl (by decide) ?_
          refine e_aload_n X dX12_lawLine_68 rfl rfl ?_
          refine ge_M_fault X wf_X12_25 dX12_lawLine_69 ?_
          refine e_iconst X (-1) dX12_lawLine_72 rfl ?_
          refine e_icmp_ne X 99 dX12_lawLine_73 (by decide) (fun c27 => ?_) (fun c27 => ?_)
          · skip
            rw [if_neg c27] at hF
            exact e_vret X hr dX12_lawLine_99 (Nat.le_of_ble_eq_true rfl) (Nat.le_of_ble_eq_true rfl) (by cases hF; exact ⟨rfl, rfl⟩)
          · skip
            rw [if_pos c27] at hF
            refine e_iload_n X dX12_lawLine_76 rfl rfl ?_
            refine e_if_eq X 99 dX12_lawLine_77 (by decide) (fun c28 => ?_) (fun c28 => ?_)
            · skip
              exact absurd c28 (by decide)
            · skip
              refine e_aload_n X dX12_lawLine_80 rfl rfl ?_
              refine e_dup X dX12_lawLine_81 rfl ?_
              refine ge_M_turns X wf_X12_253 dX12_lawLine_82 ?_
              refine e_iload_n X dX12_lawLine_85 rfl rfl ?_
              refine e_if_eq X 93 dX12_lawLine_86 (by decide) (fun c29 => ?_) (fun c29 => ?_)
              · skip
                rw [if_pos c29] at hF
                refine e_iload_n X dX12_lawLine_93 rfl rfl ?_
                refine e_ineg X dX12_lawLine_94 ?_
                refine e_iadd X dX12_lawLine_95 ?_
                obtain ⟨σ30, h_σ30, hF⟩ := bindT_out hF
                refine pu_M_turns X wf_X12_253 dX12_lawLine_96 h_σ30 ?_
                exact e_vret X hr dX12_lawLine_99 (Nat.le_of_ble_eq_true rfl) (Nat.le_of_ble_eq_true rfl) (by cases hF; exact ⟨rfl, rfl⟩)
              · skip
                rw [if_neg c29] at hF
                refine e_iload_n X dX12_lawLine_89 rfl rfl ?_
                refine e_goto X 95 dX12_lawLine_90 (by decide) ?_
                refine e_iadd X dX12_lawLine_95 ?_
                obtain ⟨σ31, h_σ31, hF⟩ := bindT_out hF
                refine pu_M_turns X wf_X12_253 dX12_lawLine_96 h_σ31 ?_
                exact e_vret X hr dX12_lawLine_99 (Nat.le_of_ble_eq_true rfl) (Nat.le_of_ble_eq_true rfl) (by cases hF; exact ⟨rfl, rfl⟩)
        · skip
          rw [if_neg c26] at hF
          refine e_aload_n X dX12_lawLine_55 rfl rfl ?_
          obtain ⟨z32, h_z32, hF⟩ := obind_out hF
          refine e_callVi X (r := z32.2) (σ1 := z32.1) [] [] (C_M_some (Cx_gok X) z25.1 h_z32) gv_X12_237 yk_X12_some rfl (ent_lt (rfl : entTbl[333]? = some (13, 0))) (ent_at (rfl : entTbl[333]? = some (13, 0)) _) (rfl : vCl[11]? = some (RX12, TX12, 24)) ⟨Nat.le_of_ble_eq_true rfl, Nat.le_of_ble_eq_true rfl⟩ ⟨Nat.le_of_ble_eq_true rfl, Nat.le_of_ble_eq_true rfl⟩ (Nat.le_of_ble_eq_true rfl) dX12_lawLine_56 rfl ?_
          refine e_if_eq X 66 dX12_lawLine_59 (by decide) (fun c33 => ?_) (fun c33 => ?_)
          · skip
            rw [if_pos c33] at hF
            refine e_iconst X 0 dX12_lawLine_66 rfl ?_
            refine e_istore_n X rfl dX12_lawLine_67 rfl (by decide) ?_
            refine e_aload_n X dX12_lawLine_68 rfl rfl ?_
            refine ge_M_fault X wf_X12_25 dX12_lawLine_69 ?_
            refine e_iconst X (-1) dX12_lawLine_72 rfl ?_
            refine e_icmp_ne X 99 dX12_lawLine_73 (by decide) (fun c34 => ?_) (fun c34 => ?_)
            · skip
              rw [if_neg c34] at hF
              exact e_vret X hr dX12_lawLine_99 (Nat.le_of_ble_eq_true rfl) (Nat.le_of_ble_eq_true rfl) (by cases hF; exact ⟨rfl, rfl⟩)
            · skip
              rw [if_pos c34] at hF
              refine e_iload_n X dX12_lawLine_76 rfl rfl ?_
              refine e_if_eq X 99 dX12_lawLine_77 (by decide) (fun c35 => ?_) (fun c35 => ?_)
              · skip
                exact e_vret X hr dX12_lawLine_99 (Nat.le_of_ble_eq_true rfl) (Nat.le_of_ble_eq_true rfl) (by cases hF; exact ⟨rfl, rfl⟩)
              · skip
                exact absurd c35 (by decide)
          · skip
            rw [if_neg c33] at hF
            refine e_iconst X 1 dX12_lawLine_62 rfl ?_
            refine e_goto X 67 dX12_lawLine_63 (by decide) ?_
            refine e_istore_n X rfl dX12_lawLine_67 rfl (by decide) ?_
            refine e_aload_n X dX12_lawLine_68 rfl rfl ?_
            refine ge_M_fault X wf_X12_25 dX12_lawLine_69 ?_
            refine e_iconst X (-1) dX12_lawLine_72 rfl ?_
            refine e_icmp_ne X 99 dX12_lawLine_73 (by decide) (fun c36 => ?_) (fun c36 => ?_)
            · skip
              rw [if_neg c36] at hF
              exact e_vret X hr dX12_lawLine_99 (Nat.le_of_ble_eq_true rfl) (Nat.le_of_ble_eq_true rfl) (by cases hF; exact ⟨rfl, rfl⟩)
            · skip
              rw [if_pos c36] at hF
              refine e_iload_n X dX12_lawLine_76 rfl rfl ?_
              refine e_if_eq X 99 dX12_lawLine_77 (by decide) (fun c37 => ?_) (fun c37 => ?_)
              · skip
                exact absurd c37 (by decide)
              · skip
                refine e_aload_n X dX12_lawLine_80 rfl rfl ?_
                refine e_dup X dX12_lawLine_81 rfl ?_
                refine ge_M_turns X wf_X12_253 dX12_lawLine_82 ?_
                refine e_iload_n X dX12_lawLine_85 rfl rfl ?_
                refine e_if_eq X 93 dX12_lawLine_86 (by decide) (fun c38 => ?_) (fun c38 => ?_)
                · skip
                  rw [if_pos c38] at hF
                  refine e_iload_n X dX12_lawLine_93 rfl rfl ?_
                  refine e_ineg X dX12_lawLine_94 ?_
                  refine e_iadd X dX12_lawLine_95 ?_
                  obtain ⟨σ39, h_σ39, hF⟩ := bindT_out hF
                  refine pu_M_turns X wf_X12_253 dX12_lawLine_96 h_σ39 ?_
                  exact e_vret X hr dX12_lawLine_99 (Nat.le_of_ble_eq_true rfl) (Nat.le_of_ble_eq_true rfl) (by cases hF; exact ⟨rfl, rfl⟩)
                · skip
                  rw [if_neg c38] at hF
                  refine e_iload_n X dX12_lawLine_89 rfl rfl ?_
                  refine e_goto X 95 dX12_lawLine_90 (by decide) ?_
                  refine e_iadd X dX12_lawLine_95 ?_
                  obtain ⟨σ40, h_σ40, hF⟩ := bindT_out hF
                  refine pu_M_turns X wf_X12_253 dX12_lawLine_96 h_σ40 ?_
                  exact e_vret X hr dX12_lawLine_99 (Nat.le_of_ble_eq_true rfl) (Nat.le_of_ble_eq_true rfl) (by cases hF; exact ⟨rfl, rfl⟩)
      · skip
        rw [if_neg c24] at hF
        exact e_vret X hr dX12_lawLine_45 (Nat.le_of_ble_eq_true rfl) (Nat.le_of_ble_eq_true rfl) (by cases hF; exact ⟨rfl, rfl⟩)
    · skip
      rw [if_pos c22] at hF
      refine e_aload_n X dX12_lawLine_20 rfl rfl ?_
      refine e_aload_n X dX12_lawLine_21 rfl rfl ?_
      refine ge_M_at X wf_X12_82 dX12_lawLine_22 ?_
      obtain ⟨z41, h_z41, hF⟩ := bindT_out hF
      refine e_callVv X (σ1 := z41) [.int ((z21.1 333 11))] [] (by rw [h_z41]; exact C_M_wrong (Cx_gok X) z21.1 ((z21.1 333 11))) gv_X12_107 yk_X12_wrong rfl (ent_lt (rfl : entTbl[333]? = some (13, 0))) (ent_at (rfl : entTbl[333]? = some (13, 0)) _) (rfl : vCl[11]? = some (RX12, TX12, 24)) ⟨Nat.le_of_ble_eq_true rfl, Nat.le_of_ble_eq_true rfl⟩ ⟨Nat.le_of_ble_eq_true rfl, Nat.le_of_ble_eq_true rfl⟩ (Nat.le_of_ble_eq_true rfl) dX12_lawLine_25 rfl ?_
      exact e_vret X hr dX12_lawLine_28 (Nat.le_of_ble_eq_true rfl) (Nat.le_of_ble_eq_true rfl) (by cases hF; exact ⟨rfl, rfl⟩)
set_option maxRecDepth 20000 in
set_option maxHeartbeats 4000000 in
theorem L_M_read_23 (X : Cx p l s m args meth c Γ D s0 RX12 cX12_read 4) (hr : meth.sig.returnType = (some .int)) (v1 : Int32)  : ∀ (n : Nat) (v2 : Int32) (v3 : Int32) (σ : Mem) {z : Int32 × Int32 × Mem}, whl (fun s => F_M_read_23_b v1 s.1 s.2.1 s.2.2) n (v2, v3, σ) = some z → (E p l e ({ frames := 80, cells := 0, slots := 0, locals := 1732 } : Room) s m args below meth c Γ D 0 0 (MQ below (QcA Γ D Pst) args s 0 0 (frB Γ)) z.2.2 144 [some (.ref (Γ.1 + 333)), some (.int v1), some (.int z.1), some (.int z.2.1)] []) → E p l e ({ frames := 80, cells := 0, slots := 0, locals := 1732 } : Room) s m args below meth c Γ D 0 0 (MQ below (QcA Γ D Pst) args s 0 0 (frB Γ)) σ 23 [some (.ref (Γ.1 + 333)), some (.int v1), some (.int v2), some (.int v3)] [] := by
  intro n
  induction n with
  | zero =>
    intro v2 v3 σ z hF hK
    cases hF
  | succ n ih =>
    intro v2 v3 σ z hF hK
    obtain ⟨y9, hB, hF⟩ := whl_step hF
    change F_M_read_23_b v1 v2 v3 σ = some y9 at hB
    unfold F_M_read_23_b at hB
    refine e_iload_n X dX12_read_23 rfl rfl ?_
    refine e_if_eq X 144 dX12_read_24 (by decide) (fun c3 => ?_) (fun c3 => ?_)
    · skip
      rw [if_pos c3] at hB
      have hy9 := Option.some.inj hB; change (.inr ((v2, v3, σ))) = y9 at hy9; subst hy9
      have hz9 := Option.some.inj hF; change ((v2, v3, σ)) = z at hz9; subst hz9
      exact e_le hK (And.intro rfl (And.intro rfl (And.intro rfl (And.intro rfl (trivial)))))
    · skip
      rw [if_neg c3] at hB
      refine e_aload_n X dX12_read_27 rfl rfl ?_
      refine ge_M_fault X wf_X12_25 dX12_read_28 ?_
      refine e_iconst X (-1) dX12_read_31 rfl ?_
      refine e_icmp_ne X 144 dX12_read_32 (by decide) (fun c4 => ?_) (fun c4 => ?_)
      · skip
        rw [if_neg c4] at hB
        have hy9 := Option.some.inj hB; change (.inr ((v2, v3, σ))) = y9 at hy9; subst hy9
        have hz9 := Option.some.inj hF; change ((v2, v3, σ)) = z at hz9; subst hz9
        exact e_le hK (And.intro rfl (And.intro rfl (And.intro rfl (And.intro rfl (trivial)))))
      · skip
        rw [if_pos c4] at hB
        refine e_aload_n X dX12_read_35 rfl rfl ?_
        obtain ⟨z5, h_z5, hB⟩ := obind_out hB
        refine e_callVv X (σ1 := z5) [] [] (C_M_skip (Cx_gok X) σ h_z5) gv_X12_91 yk_X12_skip rfl (ent_lt (rfl : entTbl[333]? = some (13, 0))) (ent_at (rfl : entTbl[333]? = some (13, 0)) _) (rfl : vCl[11]? = some (RX12, TX12, 24)) ⟨Nat.le_of_ble_eq_true rfl, Nat.le_of_ble_eq_true rfl⟩ ⟨Nat.le_of_ble_eq_true rfl, Nat.le_of_ble_eq_true rfl⟩ (Nat.le_of_ble_eq_true rfl) dX12_read_36 rfl ?_
        refine e_iload_n X dX12_read_39 rfl rfl ?_
        refine e_iload_n X dX12_read_40 rfl rfl ?_
        refine e_if_eq X 49 dX12_read_41 (by decide) (fun c6 => ?_) (fun c6 => ?_)
        · skip
          rw [if_pos c6] at hB
          refine e_bipush X 14 dX12_read_49 rfl ?_
          refine e_icmp_ne X 65 dX12_read_51 (by decide) (fun c7 => ?_) (fun c7 => ?_)
          · skip
            rw [if_neg c7] at hB
            refine e_iload_n X dX12_read_65 rfl rfl ?_
            refine e_if_eq X 76 dX12_read_66 (by decide) (fun c8 => ?_) (fun c8 => ?_)
            · skip
              rw [if_pos c8] at hB
              refine e_aload_n X dX12_read_76 rfl rfl ?_
              obtain ⟨z9, h_z9, hB⟩ := obind_out hB
              refine e_callVv X (σ1 := z9) [] [] (C_M_townLine (Cx_gok X) z5 h_z9) gv_X12_181 yk_X12_townLine rfl (ent_lt (rfl : entTbl[333]? = some (13, 0))) (ent_at (rfl : entTbl[333]? = some (13, 0)) _) (rfl : vCl[11]? = some (RX12, TX12, 24)) ⟨Nat.le_of_ble_eq_true rfl, Nat.le_of_ble_eq_true rfl⟩ ⟨Nat.le_of_ble_eq_true rfl, Nat.le_of_ble_eq_true rfl⟩ (Nat.le_of_ble_eq_true rfl) dX12_read_77 rfl ?_
              refine e_iinc X 1 dX12_read_80 rfl rfl (by decide) ?_
              obtain ⟨x10, h_x10, hB⟩ := bindT_out hB
              rw [← h_x10]
              refine e_aload_n X dX12_read_83 rfl rfl ?_
              obtain ⟨z11, h_z11, hB⟩ := obind_out hB
              refine e_callVv X (σ1 := z11) [] [] (C_M_skip (Cx_gok X) z9 h_z11) gv_X12_91 yk_X12_skip rfl (ent_lt (rfl : entTbl[333]? = some (13, 0))) (ent_at (rfl : entTbl[333]? = some (13, 0)) _) (rfl : vCl[11]? = some (RX12, TX12, 24)) ⟨Nat.le_of_ble_eq_true rfl, Nat.le_of_ble_eq_true rfl⟩ ⟨Nat.le_of_ble_eq_true rfl, Nat.le_of_ble_eq_true rfl⟩ (Nat.le_of_ble_eq_true rfl) dX12_read_84 rfl ?_
              refine e_aload_n X dX12_read_87 rfl rfl ?_
              refine ge_M_fault X wf_X12_25 dX12_read_88 ?_
              refine e_iconst X (-1) dX12_read_91 rfl ?_
              refine e_icmp_ne X 106 dX12_read_92 (by decide) (fun c12 => ?_) (fun c12 => ?_)
              · skip
                rw [if_neg c12] at hB
                refine e_iconst X 0 dX12_read_106 rfl ?_
                refine e_istore_n X rfl dX12_read_107 rfl (by decide) ?_
                refine e_goto X 23 dX12_read_108 (by decide) ?_
                have hy9 := Option.some.inj hB; change (.inl ((0, x10, z11))) = y9 at hy9; subst hy9
                exact e_le (ih 0 x10 z11 hF hK) (And.intro rfl (And.intro rfl (And.intro rfl (And.intro rfl (trivial)))))
              · skip
                rw [if_pos c12] at hB
                refine e_aload_n X dX12_read_95 rfl rfl ?_
                refine ge_M_at X wf_X12_82 dX12_read_96 ?_
                refine e_aload_n X dX12_read_99 rfl rfl ?_
                refine ge_M_end X wf_X12_85 dX12_read_100 ?_
                refine e_icmp_ne X 111 dX12_read_103 (by decide) (fun c13 => ?_) (fun c13 => ?_)
                · skip
                  rw [if_neg c13] at hB
                  refine e_aload_n X dX12_read_111 rfl rfl ?_
                  refine e_bipush X 59 dX12_read_112 rfl ?_
                  obtain ⟨z14, h_z14, hB⟩ := obind_out hB
                  refine e_callVi X (r := z14.2) (σ1 := z14.1) [.int 59] [] (C_M_isSign (Cx_gok X) z11 59 h_z14) gv_X12_184 yk_X12_isSign rfl (ent_lt (rfl : entTbl[333]? = some (13, 0))) (ent_at (rfl : entTbl[333]? = some (13, 0)) _) (rfl : vCl[11]? = some (RX12, TX12, 24)) ⟨Nat.le_of_ble_eq_true rfl, Nat.le_of_ble_eq_true rfl⟩ ⟨Nat.le_of_ble_eq_true rfl, Nat.le_of_ble_eq_true rfl⟩ (Nat.le_of_ble_eq_true rfl) dX12_read_114 rfl ?_
                  refine e_if_eq X 133 dX12_read_117 (by decide) (fun c15 => ?_) (fun c15 => ?_)
                  · skip
                    rw [if_pos c15] at hB
                    refine e_aload_n X dX12_read_133 rfl rfl ?_
                    refine e_aload_n X dX12_read_134 rfl rfl ?_
                    refine ge_M_at X wf_X12_82 dX12_read_135 ?_
                    obtain ⟨z16, h_z16, hB⟩ := bindT_out hB
                    refine e_callVv X (σ1 := z16) [.int ((z14.1 333 11))] [] (by rw [h_z16]; exact C_M_wrong (Cx_gok X) z14.1 ((z14.1 333 11))) gv_X12_107 yk_X12_wrong rfl (ent_lt (rfl : entTbl[333]? = some (13, 0))) (ent_at (rfl : entTbl[333]? = some (13, 0)) _) (rfl : vCl[11]? = some (RX12, TX12, 24)) ⟨Nat.le_of_ble_eq_true rfl, Nat.le_of_ble_eq_true rfl⟩ ⟨Nat.le_of_ble_eq_true rfl, Nat.le_of_ble_eq_true rfl⟩ (Nat.le_of_ble_eq_true rfl) dX12_read_138 rfl ?_
                    refine e_goto X 23 dX12_read_141 (by decide) ?_
                    have hy9 := Option.some.inj hB; change (.inl ((v2, x10, z16))) = y9 at hy9; subst hy9
                    exact e_le (ih v2 x10 z16 hF hK) (And.intro rfl (And.intro rfl (And.intro rfl (And.intro rfl (trivial)))))
                  · skip
                    rw [if_neg c15] at hB
                    refine e_aload_n X dX12_read_120 rfl rfl ?_
                    refine e_dup X dX12_read_121 rfl ?_
                    refine ge_M_at X wf_X12_82 dX12_read_122 ?_
                    refine e_iconst X 1 dX12_read_125 rfl ?_
                    refine e_iadd X dX12_read_126 ?_
                    obtain ⟨σ17, h_σ17, hB⟩ := bindT_out hB
                    refine pu_M_at X wf_X12_82 dX12_read_127 h_σ17 ?_
                    refine e_goto X 23 dX12_read_130 (by decide) ?_
                    have hy9 := Option.some.inj hB; change (.inl ((v2, x10, σ17))) = y9 at hy9; subst hy9
                    exact e_le (ih v2 x10 σ17 hF hK) (And.intro rfl (And.intro rfl (And.intro rfl (And.intro rfl (trivial)))))
                · skip
                  rw [if_pos c13] at hB
                  refine e_iconst X 0 dX12_read_106 rfl ?_
                  refine e_istore_n X rfl dX12_read_107 rfl (by decide) ?_
                  refine e_goto X 23 dX12_read_108 (by decide) ?_
                  have hy9 := Option.some.inj hB; change (.inl ((0, x10, z11))) = y9 at hy9; subst hy9
                  exact e_le (ih 0 x10 z11 hF hK) (And.intro rfl (And.intro rfl (And.intro rfl (And.intro rfl (trivial)))))
            · skip
              rw [if_neg c8] at hB
              refine e_aload_n X dX12_read_69 rfl rfl ?_
              obtain ⟨z18, h_z18, hB⟩ := obind_out hB
              refine e_callVv X (σ1 := z18) [] [] (C_M_lawLine (Cx_gok X) z5 h_z18) gv_X12_178 yk_X12_lawLine rfl (ent_lt (rfl : entTbl[333]? = some (13, 0))) (ent_at (rfl : entTbl[333]? = some (13, 0)) _) (rfl : vCl[11]? = some (RX12, TX12, 24)) ⟨Nat.le_of_ble_eq_true rfl, Nat.le_of_ble_eq_true rfl⟩ ⟨Nat.le_of_ble_eq_true rfl, Nat.le_of_ble_eq_true rfl⟩ (Nat.le_of_ble_eq_true rfl) dX12_read_70 rfl ?_
              refine e_goto X 80 dX12_read_73 (by decide) ?_
              refine e_iinc X 1 dX12_read_80 rfl rfl (by decide) ?_
              obtain ⟨x19, h_x19, hB⟩ := bindT_out hB
              rw [← h_x19]
              refine e_aload_n X dX12_read_83 rfl rfl ?_
              obtain ⟨z20, h_z20, hB⟩ := obind_out hB
              refine e_callVv X (σ1 := z20) [] [] (C_M_skip (Cx_gok X) z18 h_z20) gv_X12_91 yk_X12_skip rfl (ent_lt (rfl : entTbl[333]? = some (13, 0))) (ent_at (rfl : entTbl[333]? = some (13, 0)) _) (rfl : vCl[11]? = some (RX12, TX12, 24)) ⟨Nat.le_of_ble_eq_true rfl, Nat.le_of_ble_eq_true rfl⟩ ⟨Nat.le_of_ble_eq_true rfl, Nat.le_of_ble_eq_true rfl⟩ (Nat.le_of_ble_eq_true rfl) dX12_read_84 rfl ?_
              refine e_aload_n X dX12_read_87 rfl rfl ?_
              refine ge_M_fault X wf_X12_25 dX12_read_88 ?_
              refine e_iconst X (-1) dX12_read_91 rfl ?_
              refine e_icmp_ne X 106 dX12_read_92 (by decide) (fun c21 => ?_) (fun c21 => ?_)
              · skip
                rw [if_neg c21] at hB
                refine e_iconst X 0 dX12_read_106 rfl ?_
                refine e_istore_n X rfl dX12_read_107 rfl (by decide) ?_
                refine e_goto X 23 dX12_read_108 (by decide) ?_
                have hy9 := Option.some.inj hB; change (.inl ((0, x19, z20))) = y9 at hy9; subst hy9
                exact e_le (ih 0 x19 z20 hF hK) (And.intro rfl (And.intro rfl (And.intro rfl (And.intro rfl (trivial)))))
              · skip
                rw [if_pos c21] at hB
                refine e_aload_n X dX12_read_95 rfl rfl ?_
                refine ge_M_at X wf_X12_82 dX12_read_96 ?_
                refine e_aload_n X dX12_read_99 rfl rfl ?_
                refine ge_M_end X wf_X12_85 dX12_read_100 ?_
                refine e_icmp_ne X 111 dX12_read_103 (by decide) (fun c22 => ?_) (fun c22 => ?_)
                · skip
                  rw [if_neg c22] at hB
                  refine e_aload_n X dX12_read_111 rfl rfl ?_
                  refine e_bipush X 59 dX12_read_112 rfl ?_
                  obtain ⟨z23, h_z23, hB⟩ := obind_out hB
                  refine e_callVi X (r := z23.2) (σ1 := z23.1) [.int 59] [] (C_M_isSign (Cx_gok X) z20 59 h_z23) gv_X12_184 yk_X12_isSign rfl (ent_lt (rfl : entTbl[333]? = some (13, 0))) (ent_at (rfl : entTbl[333]? = some (13, 0)) _) (rfl : vCl[11]? = some (RX12, TX12, 24)) ⟨Nat.le_of_ble_eq_true rfl, Nat.le_of_ble_eq_true rfl⟩ ⟨Nat.le_of_ble_eq_true rfl, Nat.le_of_ble_eq_true rfl⟩ (Nat.le_of_ble_eq_true rfl) dX12_read_114 rfl ?_
                  refine e_if_eq X 133 dX12_read_117 (by decide) (fun c24 => ?_) (fun c24 => ?_)
                  · skip
                    rw [if_pos c24] at hB
                    refine e_aload_n X dX12_read_133 rfl rfl ?_
                    refine e_aload_n X dX12_read_134 rfl rfl ?_
                    refine ge_M_at X wf_X12_82 dX12_read_135 ?_
                    obtain ⟨z25, h_z25, hB⟩ := bindT_out hB
                    refine e_callVv X (σ1 := z25) [.int ((z23.1 333 11))] [] (by rw [h_z25]; exact C_M_wrong (Cx_gok X) z23.1 ((z23.1 333 11))) gv_X12_107 yk_X12_wrong rfl (ent_lt (rfl : entTbl[333]? = some (13, 0))) (ent_at (rfl : entTbl[333]? = some (13, 0)) _) (rfl : vCl[11]? = some (RX12, TX12, 24)) ⟨Nat.le_of_ble_eq_true rfl, Nat.le_of_ble_eq_true rfl⟩ ⟨Nat.le_of_ble_eq_true rfl, Nat.le_of_ble_eq_true rfl⟩ (Nat.le_of_ble_eq_true rfl) dX12_read_138 rfl ?_
                    refine e_goto X 23 dX12_read_141 (by decide) ?_
                    have hy9 := Option.some.inj hB; change (.inl ((v2, x19, z25))) = y9 at hy9; subst hy9
                    exact e_le (ih v2 x19 z25 hF hK) (And.intro rfl (And.intro rfl (And.intro rfl (And.intro rfl (trivial)))))
                  · skip
                    rw [if_neg c24] at hB
                    refine e_aload_n X dX12_read_120 rfl rfl ?_
                    refine e_dup X dX12_read_121 rfl ?_
                    refine ge_M_at X wf_X12_82 dX12_read_122 ?_
                    refine e_iconst X 1 dX12_read_125 rfl ?_
                    refine e_iadd X dX12_read_126 ?_
                    obtain ⟨σ26, h_σ26, hB⟩ := bindT_out hB
                    refine pu_M_at X wf_X12_82 dX12_read_127 h_σ26 ?_
                    refine e_goto X 23 dX12_read_130 (by decide) ?_
                    have hy9 := Option.some.inj hB; change (.inl ((v2, x19, σ26))) = y9 at hy9; subst hy9
                    exact e_le (ih v2 x19 σ26 hF hK) (And.intro rfl (And.intro rfl (And.intro rfl (And.intro rfl (trivial)))))
                · skip
                  rw [if_pos c22] at hB
                  refine e_iconst X 0 dX12_read_106 rfl ?_
                  refine e_istore_n X rfl dX12_read_107 rfl (by decide) ?_
                  refine e_goto X 23 dX12_read_108 (by decide) ?_
                  have hy9 := Option.some.inj hB; change (.inl ((0, x19, z20))) = y9 at hy9; subst hy9
                  exact e_le (ih 0 x19 z20 hF hK) (And.intro rfl (And.intro rfl (And.intro rfl (And.intro rfl (trivial)))))
          · skip
            rw [if_pos c7] at hB
            refine e_aload_n X dX12_read_54 rfl rfl ?_
            refine e_aload_n X dX12_read_55 rfl rfl ?_
            refine ge_M_at X wf_X12_82 dX12_read_56 ?_
            obtain ⟨z27, h_z27, hB⟩ := bindT_out hB
            refine e_callVv X (σ1 := z27) [.int ((z5 333 11))] [] (by rw [h_z27]; exact C_M_wrong (Cx_gok X) z5 ((z5 333 11))) gv_X12_107 yk_X12_wrong rfl (ent_lt (rfl : entTbl[333]? = some (13, 0))) (ent_at (rfl : entTbl[333]? = some (13, 0)) _) (rfl : vCl[11]? = some (RX12, TX12, 24)) ⟨Nat.le_of_ble_eq_true rfl, Nat.le_of_ble_eq_true rfl⟩ ⟨Nat.le_of_ble_eq_true rfl, Nat.le_of_ble_eq_true rfl⟩ (Nat.le_of_ble_eq_true rfl) dX12_read_59 rfl ?_
            refine e_goto X 80 dX12_read_62 (by decide) ?_
            refine e_iinc X 1 dX12_read_80 rfl rfl (by decide) ?_
            obtain ⟨x28, h_x28, hB⟩ := bindT_out hB
            rw [← h_x28]
            refine e_aload_n X dX12_read_83 rfl rfl ?_
            obtain ⟨z29, h_z29, hB⟩ := obind_out hB
            refine e_callVv X (σ1 := z29) [] [] (C_M_skip (Cx_gok X) z27 h_z29) gv_X12_91 yk_X12_skip rfl (ent_lt (rfl : entTbl[333]? = some (13, 0))) (ent_at (rfl : entTbl[333]? = some (13, 0)) _) (rfl : vCl[11]? = some (RX12, TX12, 24)) ⟨Nat.le_of_ble_eq_true rfl, Nat.le_of_ble_eq_true rfl⟩ ⟨Nat.le_of_ble_eq_true rfl, Nat.le_of_ble_eq_true rfl⟩ (Nat.le_of_ble_eq_true rfl) dX12_read_84 rfl ?_
            refine e_aload_n X dX12_read_87 rfl rfl ?_
            refine ge_M_fault X wf_X12_25 dX12_read_88 ?_
            refine e_iconst X (-1) dX12_read_91 rfl ?_
            refine e_icmp_ne X 106 dX12_read_92 (by decide) (fun c30 => ?_) (fun c30 => ?_)
            · skip
              rw [if_neg c30] at hB
              refine e_iconst X 0 dX12_read_106 rfl ?_
              refine e_istore_n X rfl dX12_read_107 rfl (by decide) ?_
              refine e_goto X 23 dX12_read_108 (by decide) ?_
              have hy9 := Option.some.inj hB; change (.inl ((0, x28, z29))) = y9 at hy9; subst hy9
              exact e_le (ih 0 x28 z29 hF hK) (And.intro rfl (And.intro rfl (And.intro rfl (And.intro rfl (trivial)))))
            · skip
              rw [if_pos c30] at hB
              refine e_aload_n X dX12_read_95 rfl rfl ?_
              refine ge_M_at X wf_X12_82 dX12_read_96 ?_
              refine e_aload_n X dX12_read_99 rfl rfl ?_
              refine ge_M_end X wf_X12_85 dX12_read_100 ?_
              refine e_icmp_ne X 111 dX12_read_103 (by decide) (fun c31 => ?_) (fun c31 => ?_)
              · skip
                rw [if_neg c31] at hB
                refine e_aload_n X dX12_read_111 rfl rfl ?_
                refine e_bipush X 59 dX12_read_112 rfl ?_
                obtain ⟨z32, h_z32, hB⟩ := obind_out hB
                refine e_callVi X (r := z32.2) (σ1 := z32.1) [.int 59] [] (C_M_isSign (Cx_gok X) z29 59 h_z32) gv_X12_184 yk_X12_isSign rfl (ent_lt (rfl : entTbl[333]? = some (13, 0))) (ent_at (rfl : entTbl[333]? = some (13, 0)) _) (rfl : vCl[11]? = some (RX12, TX12, 24)) ⟨Nat.le_of_ble_eq_true rfl, Nat.le_of_ble_eq_true rfl⟩ ⟨Nat.le_of_ble_eq_true rfl, Nat.le_of_ble_eq_true rfl⟩ (Nat.le_of_ble_eq_true rfl) dX12_read_114 rfl ?_
                refine e_if_eq X 133 dX12_read_117 (by decide) (fun c33 => ?_) (fun c33 => ?_)
                · skip
                  rw [if_pos c33] at hB
                  refine e_aload_n X dX12_read_133 rfl rfl ?_
                  refine e_aload_n X dX12_read_134 rfl rfl ?_
                  refine ge_M_at X wf_X12_82 dX12_read_135 ?_
                  obtain ⟨z34, h_z34, hB⟩ := bindT_out hB
                  refine e_callVv X (σ1 := z34) [.int ((z32.1 333 11))] [] (by rw [h_z34]; exact C_M_wrong (Cx_gok X) z32.1 ((z32.1 333 11))) gv_X12_107 yk_X12_wrong rfl (ent_lt (rfl : entTbl[333]? = some (13, 0))) (ent_at (rfl : entTbl[333]? = some (13, 0)) _) (rfl : vCl[11]? = some (RX12, TX12, 24)) ⟨Nat.le_of_ble_eq_true rfl, Nat.le_of_ble_eq_true rfl⟩ ⟨Nat.le_of_ble_eq_true rfl, Nat.le_of_ble_eq_true rfl⟩ (Nat.le_of_ble_eq_true rfl) dX12_read_138 rfl ?_
                  refine e_goto X 23 dX12_read_141 (by decide) ?_
                  have hy9 := Option.some.inj hB; change (.inl ((v2, x28, z34))) = y9 at hy9; subst hy9
                  exact e_le (ih v2 x28 z34 hF hK) (And.intro rfl (And.intro rfl (And.intro rfl (And.intro rfl (trivial)))))
                · skip
                  rw [if_neg c33] at hB
                  refine e_aload_n X dX12_read_120 rfl rfl ?_
                  refine e_dup X dX12_read_121 rfl ?_
                  refine ge_M_at X wf_X12_82 dX12_read_122 ?_
                  refine e_iconst X 1 dX12_read_125 rfl ?_
                  refine e_iadd X dX12_read_126 ?_
                  obtain ⟨σ35, h_σ35, hB⟩ := bindT_out hB
                  refine pu_M_at X wf_X12_82 dX12_read_127 h_σ35 ?_
                  refine e_goto X 23 dX12_read_130 (by decide) ?_
                  have hy9 := Option.some.inj hB; change (.inl ((v2, x28, σ35))) = y9 at hy9; subst hy9
                  exact e_le (ih v2 x28 σ35 hF hK) (And.intro rfl (And.intro rfl (And.intro rfl (And.intro rfl (trivial)))))
              · skip
                rw [if_pos c31] at hB
                refine e_iconst X 0 dX12_read_106 rfl ?_
                refine e_istore_n X rfl dX12_read_107 rfl (by decide) ?_
                refine e_goto X 23 dX12_read_108 (by decide) ?_
                have hy9 := Option.some.inj hB; change (.inl ((0, x28, z29))) = y9 at hy9; subst hy9
                exact e_le (ih 0 x28 z29 hF hK) (And.intro rfl (And.intro rfl (And.intro rfl (And.intro rfl (trivial)))))
        · skip
          rw [if_neg c6] at hB
          refine e_bipush X 12 dX12_read_44 rfl ?_
          refine e_goto X 51 dX12_read_46 (by decide) ?_
          refine e_icmp_ne X 65 dX12_read_51 (by decide) (fun c36 => ?_) (fun c36 => ?_)
          · skip
            rw [if_neg c36] at hB
            refine e_iload_n X dX12_read_65 rfl rfl ?_
            refine e_if_eq X 76 dX12_read_66 (by decide) (fun c37 => ?_) (fun c37 => ?_)
            · skip
              rw [if_pos c37] at hB
              refine e_aload_n X dX12_read_76 rfl rfl ?_
              obtain ⟨z38, h_z38, hB⟩ := obind_out hB
              refine e_callVv X (σ1 := z38) [] [] (C_M_townLine (Cx_gok X) z5 h_z38) gv_X12_181 yk_X12_townLine rfl (ent_lt (rfl : entTbl[333]? = some (13, 0))) (ent_at (rfl : entTbl[333]? = some (13, 0)) _) (rfl : vCl[11]? = some (RX12, TX12, 24)) ⟨Nat.le_of_ble_eq_true rfl, Nat.le_of_ble_eq_true rfl⟩ ⟨Nat.le_of_ble_eq_true rfl, Nat.le_of_ble_eq_true rfl⟩ (Nat.le_of_ble_eq_true rfl) dX12_read_77 rfl ?_
              refine e_iinc X 1 dX12_read_80 rfl rfl (by decide) ?_
              obtain ⟨x39, h_x39, hB⟩ := bindT_out hB
              rw [← h_x39]
              refine e_aload_n X dX12_read_83 rfl rfl ?_
              obtain ⟨z40, h_z40, hB⟩ := obind_out hB
              refine e_callVv X (σ1 := z40) [] [] (C_M_skip (Cx_gok X) z38 h_z40) gv_X12_91 yk_X12_skip rfl (ent_lt (rfl : entTbl[333]? = some (13, 0))) (ent_at (rfl : entTbl[333]? = some (13, 0)) _) (rfl : vCl[11]? = some (RX12, TX12, 24)) ⟨Nat.le_of_ble_eq_true rfl, Nat.le_of_ble_eq_true rfl⟩ ⟨Nat.le_of_ble_eq_true rfl, Nat.le_of_ble_eq_true rfl⟩ (Nat.le_of_ble_eq_true rfl) dX12_read_84 rfl ?_
              refine e_aload_n X dX12_read_87 rfl rfl ?_
              refine ge_M_fault X wf_X12_25 dX12_read_88 ?_
              refine e_iconst X (-1) dX12_read_91 rfl ?_
              refine e_icmp_ne X 106 dX12_read_92 (by decide) (fun c41 => ?_) (fun c41 => ?_)
              · skip
                rw [if_neg c41] at hB
                refine e_iconst X 0 dX12_read_106 rfl ?_
                refine e_istore_n X rfl dX12_read_107 rfl (by decide) ?_
                refine e_goto X 23 dX12_read_108 (by decide) ?_
                have hy9 := Option.some.inj hB; change (.inl ((0, x39, z40))) = y9 at hy9; subst hy9
                exact e_le (ih 0 x39 z40 hF hK) (And.intro rfl (And.intro rfl (And.intro rfl (And.intro rfl (trivial)))))
              · skip
                rw [if_pos c41] at hB
                refine e_aload_n X dX12_read_95 rfl rfl ?_
                refine ge_M_at X wf_X12_82 dX12_read_96 ?_
                refine e_aload_n X dX12_read_99 rfl rfl ?_
                refine ge_M_end X wf_X12_85 dX12_read_100 ?_
                refine e_icmp_ne X 111 dX12_read_103 (by decide) (fun c42 => ?_) (fun c42 => ?_)
                · skip
                  rw [if_neg c42] at hB
                  refine e_aload_n X dX12_read_111 rfl rfl ?_
                  refine e_bipush X 59 dX12_read_112 rfl ?_
                  obtain ⟨z43, h_z43, hB⟩ := obind_out hB
                  refine e_callVi X (r := z43.2) (σ1 := z43.1) [.int 59] [] (C_M_isSign (Cx_gok X) z40 59 h_z43) gv_X12_184 yk_X12_isSign rfl (ent_lt (rfl : entTbl[333]? = some (13, 0))) (ent_at (rfl : entTbl[333]? = some (13, 0)) _) (rfl : vCl[11]? = some (RX12, TX12, 24)) ⟨Nat.le_of_ble_eq_true rfl, Nat.le_of_ble_eq_true rfl⟩ ⟨Nat.le_of_ble_eq_true rfl, Nat.le_of_ble_eq_true rfl⟩ (Nat.le_of_ble_eq_true rfl) dX12_read_114 rfl ?_
                  refine e_if_eq X 133 dX12_read_117 (by decide) (fun c44 => ?_) (fun c44 => ?_)
                  · skip
                    rw [if_pos c44] at hB
                    refine e_aload_n X dX12_read_133 rfl rfl ?_
                    refine e_aload_n X dX12_read_134 rfl rfl ?_
                    refine ge_M_at X wf_X12_82 dX12_read_135 ?_
                    obtain ⟨z45, h_z45, hB⟩ := bindT_out hB
                    refine e_callVv X (σ1 := z45) [.int ((z43.1 333 11))] [] (by rw [h_z45]; exact C_M_wrong (Cx_gok X) z43.1 ((z43.1 333 11))) gv_X12_107 yk_X12_wrong rfl (ent_lt (rfl : entTbl[333]? = some (13, 0))) (ent_at (rfl : entTbl[333]? = some (13, 0)) _) (rfl : vCl[11]? = some (RX12, TX12, 24)) ⟨Nat.le_of_ble_eq_true rfl, Nat.le_of_ble_eq_true rfl⟩ ⟨Nat.le_of_ble_eq_true rfl, Nat.le_of_ble_eq_true rfl⟩ (Nat.le_of_ble_eq_true rfl) dX12_read_138 rfl ?_
                    refine e_goto X 23 dX12_read_141 (by decide) ?_
                    have hy9 := Option.some.inj hB; change (.inl ((v2, x39, z45))) = y9 at hy9; subst hy9
                    exact e_le (ih v2 x39 z45 hF hK) (And.intro rfl (And.intro rfl (And.intro rfl (And.intro rfl (trivial)))))
                  · skip
                    rw [if_neg c44] at hB
                    refine e_aload_n X dX12_read_120 rfl rfl ?_
                    refine e_dup X dX12_read_121 rfl ?_
                    refine ge_M_at X wf_X12_82 dX12_read_122 ?_
                    refine e_iconst X 1 dX12_read_125 rfl ?_
                    refine e_iadd X dX12_read_126 ?_
                    obtain ⟨σ46, h_σ46, hB⟩ := bindT_out hB
                    refine pu_M_at X wf_X12_82 dX12_read_127 h_σ46 ?_
                    refine e_goto X 23 dX12_read_130 (by decide) ?_
                    have hy9 := Option.some.inj hB; change (.inl ((v2, x39, σ46))) = y9 at hy9; subst hy9
                    exact e_le (ih v2 x39 σ46 hF hK) (And.intro rfl (And.intro rfl (And.intro rfl (And.intro rfl (trivial)))))
                · skip
                  rw [if_pos c42] at hB
                  refine e_iconst X 0 dX12_read_106 rfl ?_
                  refine e_istore_n X rfl dX12_read_107 rfl (by decide) ?_
                  refine e_goto X 23 dX12_read_108 (by decide) ?_
                  have hy9 := Option.some.inj hB; change (.inl ((0, x39, z40))) = y9 at hy9; subst hy9
                  exact e_le (ih 0 x39 z40 hF hK) (And.intro rfl (And.intro rfl (And.intro rfl (And.intro rfl (trivial)))))
            · skip
              rw [if_neg c37] at hB
              refine e_aload_n X dX12_read_69 rfl rfl ?_
              obtain ⟨z47, h_z47, hB⟩ := obind_out hB
              refine e_callVv X (σ1 := z47) [] [] (C_M_lawLine (Cx_gok X) z5 h_z47) gv_X12_178 yk_X12_lawLine rfl (ent_lt (rfl : entTbl[333]? = some (13, 0))) (ent_at (rfl : entTbl[333]? = some (13, 0)) _) (rfl : vCl[11]? = some (RX12, TX12, 24)) ⟨Nat.le_of_ble_eq_true rfl, Nat.le_of_ble_eq_true rfl⟩ ⟨Nat.le_of_ble_eq_true rfl, Nat.le_of_ble_eq_true rfl⟩ (Nat.le_of_ble_eq_true rfl) dX12_read_70 rfl ?_
              refine e_goto X 80 dX12_read_73 (by decide) ?_
              refine e_iinc X 1 dX12_read_80 rfl rfl (by decide) ?_
              obtain ⟨x48, h_x48, hB⟩ := bindT_out hB
              rw [← h_x48]
              refine e_aload_n X dX12_read_83 rfl rfl ?_
              obtain ⟨z49, h_z49, hB⟩ := obind_out hB
              refine e_callVv X (σ1 := z49) [] [] (C_M_skip (Cx_gok X) z47 h_z49) gv_X12_91 yk_X12_skip rfl (ent_lt (rfl : entTbl[333]? = some (13, 0))) (ent_at (rfl : entTbl[333]? = some (13, 0)) _) (rfl : vCl[11]? = some (RX12, TX12, 24)) ⟨Nat.le_of_ble_eq_true rfl, Nat.le_of_ble_eq_true rfl⟩ ⟨Nat.le_of_ble_eq_true rfl, Nat.le_of_ble_eq_true rfl⟩ (Nat.le_of_ble_eq_true rfl) dX12_read_84 rfl ?_
              refine e_aload_n X dX12_read_87 rfl rfl ?_
              refine ge_M_fault X wf_X12_25 dX12_read_88 ?_
              refine e_iconst X (-1) dX12_read_91 rfl ?_
              refine e_icmp_ne X 106 dX12_read_92 (by decide) (fun c50 => ?_) (fun c50 => ?_)
              · skip
                rw [if_neg c50] at hB
                refine e_iconst X 0 dX12_read_106 rfl ?_
                refine e_istore_n X rfl dX12_read_107 rfl (by decide) ?_
                refine e_goto X 23 dX12_read_108 (by decide) ?_
                have hy9 := Option.some.inj hB; change (.inl ((0, x48, z49))) = y9 at hy9; subst hy9
                exact e_le (ih 0 x48 z49 hF hK) (And.intro rfl (And.intro rfl (And.intro rfl (And.intro rfl (trivial)))))
              · skip
                rw [if_pos c50] at hB
                refine e_aload_n X dX12_read_95 rfl rfl ?_
                refine ge_M_at X wf_X12_82 dX12_read_96 ?_
                refine e_aload_n X dX12_read_99 rfl rfl ?_
                refine ge_M_end X wf_X12_85 dX12_read_100 ?_
                refine e_icmp_ne X 111 dX12_read_103 (by decide) (fun c51 => ?_) (fun c51 => ?_)
                · skip
                  rw [if_neg c51] at hB
                  refine e_aload_n X dX12_read_111 rfl rfl ?_
                  refine e_bipush X 59 dX12_read_112 rfl ?_
                  obtain ⟨z52, h_z52, hB⟩ := obind_out hB
                  refine e_callVi X (r := z52.2) (σ1 := z52.1) [.int 59] [] (C_M_isSign (Cx_gok X) z49 59 h_z52) gv_X12_184 yk_X12_isSign rfl (ent_lt (rfl : entTbl[333]? = some (13, 0))) (ent_at (rfl : entTbl[333]? = some (13, 0)) _) (rfl : vCl[11]? = some (RX12, TX12, 24)) ⟨Nat.le_of_ble_eq_true rfl, Nat.le_of_ble_eq_true rfl⟩ ⟨Nat.le_of_ble_eq_true rfl, Nat.le_of_ble_eq_true rfl⟩ (Nat.le_of_ble_eq_true rfl) dX12_read_114 rfl ?_
                  refine e_if_eq X 133 dX12_read_117 (by decide) (fun c53 => ?_) (fun c53 => ?_)
                  · skip
                    rw [if_pos c53] at hB
                    refine e_aload_n X dX12_read_133 rfl rfl ?_
                    refine e_aload_n X dX12_read_134 rfl rfl ?_
                    refine ge_M_at X wf_X12_82 dX12_read_135 ?_
                    obtain ⟨z54, h_z54, hB⟩ := bindT_out hB
                    refine e_callVv X (σ1 := z54) [.int ((z52.1 333 11))] [] (by rw [h_z54]; exact C_M_wrong (Cx_gok X) z52.1 ((z52.1 333 11))) gv_X12_107 yk_X12_wrong rfl (ent_lt (rfl : entTbl[333]? = some (13, 0))) (ent_at (rfl : entTbl[333]? = some (13, 0)) _) (rfl : vCl[11]? = some (RX12, TX12, 24)) ⟨Nat.le_of_ble_eq_true rfl, Nat.le_of_ble_eq_true rfl⟩ ⟨Nat.le_of_ble_eq_true rfl, Nat.le_of_ble_eq_true rfl⟩ (Nat.le_of_ble_eq_true rfl) dX12_read_138 rfl ?_
                    refine e_goto X 23 dX12_read_141 (by decide) ?_
                    have hy9 := Option.some.inj hB; change (.inl ((v2, x48, z54))) = y9 at hy9; subst hy9
                    exact e_le (ih v2 x48 z54 hF hK) (And.intro rfl (And.intro rfl (And.intro rfl (And.intro rfl (trivial)))))
                  · skip
                    rw [if_neg c53] at hB
                    refine e_aload_n X dX12_read_120 rfl rfl ?_
                    refine e_dup X dX12_read_121 rfl ?_
                    refine ge_M_at X wf_X12_82 dX12_read_122 ?_
                    refine e_iconst X 1 dX12_read_125 rfl ?_
                    refine e_iadd X dX12_read_126 ?_
                    obtain ⟨σ55, h_σ55, hB⟩ := bindT_out hB
                    refine pu_M_at X wf_X12_82 dX12_read_127 h_σ55 ?_
                    refine e_goto X 23 dX12_read_130 (by decide) ?_
                    have hy9 := Option.some.inj hB; change (.inl ((v2, x48, σ55))) = y9 at hy9; subst hy9
                    exact e_le (ih v2 x48 σ55 hF hK) (And.intro rfl (And.intro rfl (And.intro rfl (And.intro rfl (trivial)))))
                · skip
                  rw [if_pos c51] at hB
                  refine e_iconst X 0 dX12_read_106 rfl ?_
                  refine e_istore_n X rfl dX12_read_107 rfl (by decide) ?_
                  refine e_goto X 23 dX12_read_108 (by decide) ?_
                  have hy9 := Option.some.inj hB; change (.inl ((0, x48, z49))) = y9 at hy9; subst hy9
                  exact e_le (ih 0 x48 z49 hF hK) (And.intro rfl (And.intro rfl (And.intro rfl (And.intro rfl (trivial)))))
          · skip
            rw [if_pos c36] at hB
            refine e_aload_n X dX12_read_54 rfl rfl ?_
            refine e_aload_n X dX12_read_55 rfl rfl ?_
            refine ge_M_at X wf_X12_82 dX12_read_56 ?_
            obtain ⟨z56, h_z56, hB⟩ := bindT_out hB
            refine e_callVv X (σ1 := z56) [.int ((z5 333 11))] [] (by rw [h_z56]; exact C_M_wrong (Cx_gok X) z5 ((z5 333 11))) gv_X12_107 yk_X12_wrong rfl (ent_lt (rfl : entTbl[333]? = some (13, 0))) (ent_at (rfl : entTbl[333]? = some (13, 0)) _) (rfl : vCl[11]? = some (RX12, TX12, 24)) ⟨Nat.le_of_ble_eq_true rfl, Nat.le_of_ble_eq_true rfl⟩ ⟨Nat.le_of_ble_eq_true rfl, Nat.le_of_ble_eq_true rfl⟩ (Nat.le_of_ble_eq_true rfl) dX12_read_59 rfl ?_
            refine e_goto X 80 dX12_read_62 (by decide) ?_
            refine e_iinc X 1 dX12_read_80 rfl rfl (by decide) ?_
            obtain ⟨x57, h_x57, hB⟩ := bindT_out hB
            rw [← h_x57]
            refine e_aload_n X dX12_read_83 rfl rfl ?_
            obtain ⟨z58, h_z58, hB⟩ := obind_out hB
            refine e_callVv X (σ1 := z58) [] [] (C_M_skip (Cx_gok X) z56 h_z58) gv_X12_91 yk_X12_skip rfl (ent_lt (rfl : entTbl[333]? = some (13, 0))) (ent_at (rfl : entTbl[333]? = some (13, 0)) _) (rfl : vCl[11]? = some (RX12, TX12, 24)) ⟨Nat.le_of_ble_eq_true rfl, Nat.le_of_ble_eq_true rfl⟩ ⟨Nat.le_of_ble_eq_true rfl, Nat.le_of_ble_eq_true rfl⟩ (Nat.le_of_ble_eq_true rfl) dX12_read_84 rfl ?_
            refine e_aload_n X dX12_read_87 rfl rfl ?_
            refine ge_M_fault X wf_X12_25 dX12_read_88 ?_
            refine e_iconst X (-1) dX12_read_91 rfl ?_
            refine e_icmp_ne X 106 dX12_read_92 (by decide) (fun c59 => ?_) (fun c59 => ?_)
            · skip
              rw [if_neg c59] at hB
              refine e_iconst X 0 dX12_read_106 rfl ?_
              refine e_istore_n X rfl dX12_read_107 rfl (by decide) ?_
              refine e_goto X 23 dX12_read_108 (by decide) ?_
              have hy9 := Option.some.inj hB; change (.inl ((0, x57, z58))) = y9 at hy9; subst hy9
              exact e_le (ih 0 x57 z58 hF hK) (And.intro rfl (And.intro rfl (And.intro rfl (And.intro rfl (trivial)))))
            · skip
              rw [if_pos c59] at hB
              refine e_aload_n X dX12_read_95 rfl rfl ?_
              refine ge_M_at X wf_X12_82 dX12_read_96 ?_
              refine e_aload_n X dX12_read_99 rfl rfl ?_
              refine ge_M_end X wf_X12_85 dX12_read_100 ?_
              refine e_icmp_ne X 111 dX12_read_103 (by decide) (fun c60 => ?_) (fun c60 => ?_)
              · skip
                rw [if_neg c60] at hB
                refine e_aload_n X dX12_read_111 rfl rfl ?_
                refine e_bipush X 59 dX12_read_112 rfl ?_
                obtain ⟨z61, h_z61, hB⟩ := obind_out hB
                refine e_callVi X (r := z61.2) (σ1 := z61.1) [.int 59] [] (C_M_isSign (Cx_gok X) z58 59 h_z61) gv_X12_184 yk_X12_isSign rfl (ent_lt (rfl : entTbl[333]? = some (13, 0))) (ent_at (rfl : entTbl[333]? = some (13, 0)) _) (rfl : vCl[11]? = some (RX12, TX12, 24)) ⟨Nat.le_of_ble_eq_true rfl, Nat.le_of_ble_eq_true rfl⟩ ⟨Nat.le_of_ble_eq_true rfl, Nat.le_of_ble_eq_true rfl⟩ (Nat.le_of_ble_eq_true rfl) dX12_read_114 rfl ?_
                refine e_if_eq X 133 dX12_read_117 (by decide) (fun c62 => ?_) (fun c62 => ?_)
                · skip
                  rw [if_pos c62] at hB
                  refine e_aload_n X dX12_read_133 rfl rfl ?_
                  refine e_aload_n X dX12_read_134 rfl rfl ?_
                  refine ge_M_at X wf_X12_82 dX12_read_135 ?_
                  obtain ⟨z63, h_z63, hB⟩ := bindT_out hB
                  refine e_callVv X (σ1 := z63) [.int ((z61.1 333 11))] [] (by rw [h_z63]; exact C_M_wrong (Cx_gok X) z61.1 ((z61.1 333 11))) gv_X12_107 yk_X12_wrong rfl (ent_lt (rfl : entTbl[333]? = some (13, 0))) (ent_at (rfl : entTbl[333]? = some (13, 0)) _) (rfl : vCl[11]? = some (RX12, TX12, 24)) ⟨Nat.le_of_ble_eq_true rfl, Nat.le_of_ble_eq_true rfl⟩ ⟨Nat.le_of_ble_eq_true rfl, Nat.le_of_ble_eq_true rfl⟩ (Nat.le_of_ble_eq_true rfl) dX12_read_138 rfl ?_
                  refine e_goto X 23 dX12_read_141 (by decide) ?_
                  have hy9 := Option.some.inj hB; change (.inl ((v2, x57, z63))) = y9 at hy9; subst hy9
                  exact e_le (ih v2 x57 z63 hF hK) (And.intro rfl (And.intro rfl (And.intro rfl (And.intro rfl (trivial)))))
                · skip
                  rw [if_neg c62] at hB
                  refine e_aload_n X dX12_read_120 rfl rfl ?_
                  refine e_dup X dX12_read_121 rfl ?_
                  refine ge_M_at X wf_X12_82 dX12_read_122 ?_
                  refine e_iconst X 1 dX12_read_125 rfl ?_
                  refine e_iadd X dX12_read_126 ?_
                  obtain ⟨σ64, h_σ64, hB⟩ := bindT_out hB
                  refine pu_M_at X wf_X12_82 dX12_read_127 h_σ64 ?_
                  refine e_goto X 23 dX12_read_130 (by decide) ?_
                  have hy9 := Option.some.inj hB; change (.inl ((v2, x57, σ64))) = y9 at hy9; subst hy9
                  exact e_le (ih v2 x57 σ64 hF hK) (And.intro rfl (And.intro rfl (And.intro rfl (And.intro rfl (trivial)))))
              · skip
                rw [if_pos c60] at hB
                refine e_iconst X 0 dX12_read_106 rfl ?_
                refine e_istore_n X rfl dX12_read_107 rfl (by decide) ?_
                refine e_goto X 23 dX12_read_108 (by decide) ?_
                have hy9 := Option.some.inj hB; change (.inl ((0, x57, z58))) = y9 at hy9; subst hy9
                exact e_le (ih 0 x57 z58 hF hK) (And.intro rfl (And.intro rfl (And.intro rfl (And.intro rfl (trivial)))))
set_option maxRecDepth 20000 in
set_option maxHeartbeats 4000000 in
theorem C_M_read (hG : Gok l Γ D s0) (σ : Mem) (v1 : Int32)  {out : Mem × Int32} (hF : F_M_read σ v1 = some out) : CT l Γ D s0 yX12_read cX12_read 4 (some .int) (80) 0 0 (1732) σ [.ref (Γ.1 + 333), .int v1] (PI (some (.int out.2)) out.1) := by
  unfold F_M_read at hF
  refine e_met (own := RX12) hG (by decide +kernel) rfl rfl (Nat.le_of_ble_eq_true rfl) ?_
  intro p e s m args below meth c X hr
  show E p l e _ s m args below meth c Γ D 0 0 _ σ 0 [some (.ref (Γ.1 + 333)), some (.int v1), none, none] []
  refine e_aload_n X dX12_read_0 rfl rfl ?_
  obtain ⟨z1, h_z1, hF⟩ := obind_out hF
  refine e_callVv X (σ1 := z1) [] [] (C_M_skip (Cx_gok X) σ h_z1) gv_X12_91 yk_X12_skip rfl (ent_lt (rfl : entTbl[333]? = some (13, 0))) (ent_at (rfl : entTbl[333]? = some (13, 0)) _) (rfl : vCl[11]? = some (RX12, TX12, 24)) ⟨Nat.le_of_ble_eq_true rfl, Nat.le_of_ble_eq_true rfl⟩ ⟨Nat.le_of_ble_eq_true rfl, Nat.le_of_ble_eq_true rfl⟩ (Nat.le_of_ble_eq_true rfl) dX12_read_1 rfl ?_
  refine e_aload_n X dX12_read_4 rfl rfl ?_
  refine ge_M_at X wf_X12_82 dX12_read_5 ?_
  refine e_aload_n X dX12_read_8 rfl rfl ?_
  refine ge_M_end X wf_X12_85 dX12_read_9 ?_
  refine e_icmp_ge X 19 dX12_read_12 (by decide) (fun c2 => ?_) (fun c2 => ?_)
  · skip
    rw [if_neg c2] at hF
    refine e_iconst X 0 dX12_read_19 rfl ?_
    refine e_istore_n X rfl dX12_read_20 rfl (by decide) ?_
    refine e_iconst X 0 dX12_read_21 rfl ?_
    refine e_istore_n X rfl dX12_read_22 rfl (by decide) ?_
    obtain ⟨z65, h_z65, hF⟩ := obind_out hF
    refine e_le (L_M_read_23 X hr v1 _ 0 0 z1 h_z65 ?_) (And.intro rfl (And.intro rfl (And.intro rfl (And.intro rfl (trivial)))))
    refine e_iload_n X dX12_read_144 rfl rfl ?_
    exact e_iret X hr dX12_read_145 (Nat.le_of_ble_eq_true rfl) (Nat.le_of_ble_eq_true rfl) (by cases hF; exact ⟨rfl, rfl⟩)
  · skip
    rw [if_pos c2] at hF
    refine e_iconst X 1 dX12_read_15 rfl ?_
    refine e_goto X 20 dX12_read_16 (by decide) ?_
    refine e_istore_n X rfl dX12_read_20 rfl (by decide) ?_
    refine e_iconst X 0 dX12_read_21 rfl ?_
    refine e_istore_n X rfl dX12_read_22 rfl (by decide) ?_
    obtain ⟨z66, h_z66, hF⟩ := obind_out hF
    refine e_le (L_M_read_23 X hr v1 _ 1 0 z1 h_z66 ?_) (And.intro rfl (And.intro rfl (And.intro rfl (And.intro rfl (trivial)))))
    refine e_iload_n X dX12_read_144 rfl rfl ?_
    exact e_iret X hr dX12_read_145 (Nat.le_of_ble_eq_true rfl) (Nat.le_of_ble_eq_true rfl) (by cases hF; exact ⟨rfl, rfl⟩)
set_option maxRecDepth 20000 in
set_option maxHeartbeats 4000000 in
theorem C_M_town (hG : Gok l Γ D s0) (σ : Mem)   {out : Mem × Int32} (hF : F_M_town σ = some out) : CT l Γ D s0 yX12_town cX12_town 2 (some .int) (81) 0 0 (1755) σ [.ref (Γ.1 + 333)] (PI (some (.int out.2)) out.1) := by
  unfold F_M_town at hF
  refine e_met (own := RX12) hG (by decide +kernel) rfl rfl (Nat.le_of_ble_eq_true rfl) ?_
  intro p e s m args below meth c X hr
  show E p l e _ s m args below meth c Γ D 0 0 _ σ 0 [some (.ref (Γ.1 + 333)), none] []
  refine e_aload_n X dX12_town_0 rfl rfl ?_
  obtain ⟨z1, h_z1, hF⟩ := obind_out hF
  refine e_callVv X (σ1 := z1) [] [] (C_M_putsAside (Cx_gok X) σ h_z1) gv_X12_188 yk_X12_putsAside rfl (ent_lt (rfl : entTbl[333]? = some (13, 0))) (ent_at (rfl : entTbl[333]? = some (13, 0)) _) (rfl : vCl[11]? = some (RX12, TX12, 24)) ⟨Nat.le_of_ble_eq_true rfl, Nat.le_of_ble_eq_true rfl⟩ ⟨Nat.le_of_ble_eq_true rfl, Nat.le_of_ble_eq_true rfl⟩ (Nat.le_of_ble_eq_true rfl) dX12_town_1 rfl ?_
  refine e_aload_n X dX12_town_4 rfl rfl ?_
  obtain ⟨z2, h_z2, hF⟩ := bindT_out hF
  refine e_callVv X (σ1 := z2) [] [] (by rw [h_z2]; exact C_M_begins (Cx_gok X) z1) gv_X12_191 yk_X12_begins rfl (ent_lt (rfl : entTbl[333]? = some (13, 0))) (ent_at (rfl : entTbl[333]? = some (13, 0)) _) (rfl : vCl[11]? = some (RX12, TX12, 24)) ⟨Nat.le_of_ble_eq_true rfl, Nat.le_of_ble_eq_true rfl⟩ ⟨Nat.le_of_ble_eq_true rfl, Nat.le_of_ble_eq_true rfl⟩ (Nat.le_of_ble_eq_true rfl) dX12_town_5 rfl ?_
  refine e_aload_n X dX12_town_8 rfl rfl ?_
  refine e_iconst X 0 dX12_town_9 rfl ?_
  obtain ⟨z3, h_z3, hF⟩ := obind_out hF
  refine e_callVi X (r := z3.2) (σ1 := z3.1) [.int 0] [] (C_M_read (Cx_gok X) z2 0 h_z3) gv_X12_194 yk_X12_read rfl (ent_lt (rfl : entTbl[333]? = some (13, 0))) (ent_at (rfl : entTbl[333]? = some (13, 0)) _) (rfl : vCl[11]? = some (RX12, TX12, 24)) ⟨Nat.le_of_ble_eq_true rfl, Nat.le_of_ble_eq_true rfl⟩ ⟨Nat.le_of_ble_eq_true rfl, Nat.le_of_ble_eq_true rfl⟩ (Nat.le_of_ble_eq_true rfl) dX12_town_10 rfl ?_
  refine e_istore_n X rfl dX12_town_13 rfl (by decide) ?_
  refine e_aload_n X dX12_town_14 rfl rfl ?_
  refine e_aload_n X dX12_town_15 rfl rfl ?_
  refine ge_M_fault X wf_X12_25 dX12_town_16 ?_
  refine e_iconst X (-1) dX12_town_19 rfl ?_
  refine e_icmp_eq X 27 dX12_town_20 (by decide) (fun c4 => ?_) (fun c4 => ?_)
  · skip
    rw [if_pos c4] at hF
    refine e_aload_n X dX12_town_27 rfl rfl ?_
    refine ge_M_m X wf_X12_7 dX12_town_28 ?_
    refine e_iconst X 0 dX12_town_31 rfl ?_
    refine e_iald X (j := 0) rfl rfl (vp_in_iff.mpr (by decide)) rfl dX12_town_32 ?_
    refine e_bipush X 12 dX12_town_33 rfl ?_
    refine e_icmp_ne X 42 dX12_town_35 (by decide) (fun c5 => ?_) (fun c5 => ?_)
    · skip
      rw [if_neg c5] at hF
      refine e_iconst X 0 dX12_town_42 rfl ?_
      obtain ⟨σ6, h_σ6, hF⟩ := bindT_out hF
      refine pu_M_thrown X wf_X12_51 dX12_town_43 h_σ6 ?_
      refine e_aload_n X dX12_town_46 rfl rfl ?_
      refine ge_M_thrown X wf_X12_51 dX12_town_47 ?_
      refine e_if_le X 59 dX12_town_50 (by decide) (fun c7 => ?_) (fun c7 => ?_)
      · skip
        rw [if_neg c7] at hF
        refine e_aload_n X dX12_town_59 rfl rfl ?_
        refine ge_M_m X wf_X12_7 dX12_town_60 ?_
        refine e_iconst X 0 dX12_town_63 rfl ?_
        refine e_dup2 X dX12_town_64 rfl rfl ?_
        refine e_iald X (j := 0) rfl rfl (vp_in_iff.mpr (by decide)) rfl dX12_town_65 ?_
        refine e_iconst X 1 dX12_town_66 rfl ?_
        refine e_iadd X dX12_town_67 ?_
        obtain ⟨σ8, h_σ8, hF⟩ := bindT_out hF
        refine e_iast X (j := 0) rfl rfl (vp_in_iff.mpr (by decide)) rfl dX12_town_68 h_σ8 ?_
        refine e_aload_n X dX12_town_69 rfl rfl ?_
        refine e_iconst X 0 dX12_town_70 rfl ?_
        obtain ⟨σ9, h_σ9, hF⟩ := bindT_out hF
        refine pu_M_acted X wf_X12_201 dX12_town_71 h_σ9 ?_
        refine e_aload_n X dX12_town_74 rfl rfl ?_
        refine ge_M_m X wf_X12_7 dX12_town_75 ?_
        refine e_iconst X 0 dX12_town_78 rfl ?_
        refine e_iald X (j := 0) rfl rfl (vp_in_iff.mpr (by decide)) rfl dX12_town_79 ?_
        exact e_iret X hr dX12_town_80 (Nat.le_of_ble_eq_true rfl) (Nat.le_of_ble_eq_true rfl) (by cases hF; exact ⟨rfl, rfl⟩)
      · skip
        rw [if_pos c7] at hF
        refine e_aload_n X dX12_town_53 rfl rfl ?_
        obtain ⟨z10, h_z10, hF⟩ := obind_out hF
        refine e_callVv X (σ1 := z10) [] [] (C_M_comesBack (Cx_gok X) σ6 h_z10) gv_X12_198 yk_X12_comesBack rfl (ent_lt (rfl : entTbl[333]? = some (13, 0))) (ent_at (rfl : entTbl[333]? = some (13, 0)) _) (rfl : vCl[11]? = some (RX12, TX12, 24)) ⟨Nat.le_of_ble_eq_true rfl, Nat.le_of_ble_eq_true rfl⟩ ⟨Nat.le_of_ble_eq_true rfl, Nat.le_of_ble_eq_true rfl⟩ (Nat.le_of_ble_eq_true rfl) dX12_town_54 rfl ?_
        refine e_iconst X 0 dX12_town_57 rfl ?_
        exact e_iret X hr dX12_town_58 (Nat.le_of_ble_eq_true rfl) (Nat.le_of_ble_eq_true rfl) (by cases hF; exact ⟨rfl, rfl⟩)
    · skip
      rw [if_pos c5] at hF
      refine e_iconst X 2 dX12_town_38 rfl ?_
      refine e_goto X 43 dX12_town_39 (by decide) ?_
      obtain ⟨σ11, h_σ11, hF⟩ := bindT_out hF
      refine pu_M_thrown X wf_X12_51 dX12_town_43 h_σ11 ?_
      refine e_aload_n X dX12_town_46 rfl rfl ?_
      refine ge_M_thrown X wf_X12_51 dX12_town_47 ?_
      refine e_if_le X 59 dX12_town_50 (by decide) (fun c12 => ?_) (fun c12 => ?_)
      · skip
        rw [if_neg c12] at hF
        refine e_aload_n X dX12_town_59 rfl rfl ?_
        refine ge_M_m X wf_X12_7 dX12_town_60 ?_
        refine e_iconst X 0 dX12_town_63 rfl ?_
        refine e_dup2 X dX12_town_64 rfl rfl ?_
        refine e_iald X (j := 0) rfl rfl (vp_in_iff.mpr (by decide)) rfl dX12_town_65 ?_
        refine e_iconst X 1 dX12_town_66 rfl ?_
        refine e_iadd X dX12_town_67 ?_
        obtain ⟨σ13, h_σ13, hF⟩ := bindT_out hF
        refine e_iast X (j := 0) rfl rfl (vp_in_iff.mpr (by decide)) rfl dX12_town_68 h_σ13 ?_
        refine e_aload_n X dX12_town_69 rfl rfl ?_
        refine e_iconst X 0 dX12_town_70 rfl ?_
        obtain ⟨σ14, h_σ14, hF⟩ := bindT_out hF
        refine pu_M_acted X wf_X12_201 dX12_town_71 h_σ14 ?_
        refine e_aload_n X dX12_town_74 rfl rfl ?_
        refine ge_M_m X wf_X12_7 dX12_town_75 ?_
        refine e_iconst X 0 dX12_town_78 rfl ?_
        refine e_iald X (j := 0) rfl rfl (vp_in_iff.mpr (by decide)) rfl dX12_town_79 ?_
        exact e_iret X hr dX12_town_80 (Nat.le_of_ble_eq_true rfl) (Nat.le_of_ble_eq_true rfl) (by cases hF; exact ⟨rfl, rfl⟩)
      · skip
        rw [if_pos c12] at hF
        refine e_aload_n X dX12_town_53 rfl rfl ?_
        obtain ⟨z15, h_z15, hF⟩ := obind_out hF
        refine e_callVv X (σ1 := z15) [] [] (C_M_comesBack (Cx_gok X) σ11 h_z15) gv_X12_198 yk_X12_comesBack rfl (ent_lt (rfl : entTbl[333]? = some (13, 0))) (ent_at (rfl : entTbl[333]? = some (13, 0)) _) (rfl : vCl[11]? = some (RX12, TX12, 24)) ⟨Nat.le_of_ble_eq_true rfl, Nat.le_of_ble_eq_true rfl⟩ ⟨Nat.le_of_ble_eq_true rfl, Nat.le_of_ble_eq_true rfl⟩ (Nat.le_of_ble_eq_true rfl) dX12_town_54 rfl ?_
        refine e_iconst X 0 dX12_town_57 rfl ?_
        exact e_iret X hr dX12_town_58 (Nat.le_of_ble_eq_true rfl) (Nat.le_of_ble_eq_true rfl) (by cases hF; exact ⟨rfl, rfl⟩)
  · skip
    rw [if_neg c4] at hF
    refine e_iconst X 1 dX12_town_23 rfl ?_
    refine e_goto X 43 dX12_town_24 (by decide) ?_
    obtain ⟨σ16, h_σ16, hF⟩ := bindT_out hF
    refine pu_M_thrown X wf_X12_51 dX12_town_43 h_σ16 ?_
    refine e_aload_n X dX12_town_46 rfl rfl ?_
    refine ge_M_thrown X wf_X12_51 dX12_town_47 ?_
    refine e_if_le X 59 dX12_town_50 (by decide) (fun c17 => ?_) (fun c17 => ?_)
    · skip
      rw [if_neg c17] at hF
      refine e_aload_n X dX12_town_59 rfl rfl ?_
      refine ge_M_m X wf_X12_7 dX12_town_60 ?_
      refine e_iconst X 0 dX12_town_63 rfl ?_
      refine e_dup2 X dX12_town_64 rfl rfl ?_
      refine e_iald X (j := 0) rfl rfl (vp_in_iff.mpr (by decide)) rfl dX12_town_65 ?_
      refine e_iconst X 1 dX12_town_66 rfl ?_
      refine e_iadd X dX12_town_67 ?_
      obtain ⟨σ18, h_σ18, hF⟩ := bindT_out hF
      refine e_iast X (j := 0) rfl rfl (vp_in_iff.mpr (by decide)) rfl dX12_town_68 h_σ18 ?_
      refine e_aload_n X dX12_town_69 rfl rfl ?_
      refine e_iconst X 0 dX12_town_70 rfl ?_
      obtain ⟨σ19, h_σ19, hF⟩ := bindT_out hF
      refine pu_M_acted X wf_X12_201 dX12_town_71 h_σ19 ?_
      refine e_aload_n X dX12_town_74 rfl rfl ?_
      refine ge_M_m X wf_X12_7 dX12_town_75 ?_
      refine e_iconst X 0 dX12_town_78 rfl ?_
      refine e_iald X (j := 0) rfl rfl (vp_in_iff.mpr (by decide)) rfl dX12_town_79 ?_
      exact e_iret X hr dX12_town_80 (Nat.le_of_ble_eq_true rfl) (Nat.le_of_ble_eq_true rfl) (by cases hF; exact ⟨rfl, rfl⟩)
    · skip
      rw [if_pos c17] at hF
      refine e_aload_n X dX12_town_53 rfl rfl ?_
      obtain ⟨z20, h_z20, hF⟩ := obind_out hF
      refine e_callVv X (σ1 := z20) [] [] (C_M_comesBack (Cx_gok X) σ16 h_z20) gv_X12_198 yk_X12_comesBack rfl (ent_lt (rfl : entTbl[333]? = some (13, 0))) (ent_at (rfl : entTbl[333]? = some (13, 0)) _) (rfl : vCl[11]? = some (RX12, TX12, 24)) ⟨Nat.le_of_ble_eq_true rfl, Nat.le_of_ble_eq_true rfl⟩ ⟨Nat.le_of_ble_eq_true rfl, Nat.le_of_ble_eq_true rfl⟩ (Nat.le_of_ble_eq_true rfl) dX12_town_54 rfl ?_
      refine e_iconst X 0 dX12_town_57 rfl ?_
      exact e_iret X hr dX12_town_58 (Nat.le_of_ble_eq_true rfl) (Nat.le_of_ble_eq_true rfl) (by cases hF; exact ⟨rfl, rfl⟩)
set_option maxRecDepth 20000 in
set_option maxHeartbeats 4000000 in
theorem L_M_law_55 (X : Cx p l s m args meth c Γ D s0 RX12 cX12_law 3) (hr : meth.sig.returnType = (some .int)) (v1 : Int32)  : ∀ (n : Nat) (v2 : Int32) (σ : Mem) {z : Int32 × Mem}, whl (fun s => F_M_law_55_b v1 s.1 s.2) n (v2, σ) = some z → (E p l e ({ frames := 81, cells := 0, slots := 0, locals := 1755 } : Room) s m args below meth c Γ D 0 0 (MQ below (QcA Γ D Pst) args s 0 0 (frB Γ)) z.2 85 [some (.ref (Γ.1 + 333)), some (.int v1), some (.int z.1)] []) → E p l e ({ frames := 81, cells := 0, slots := 0, locals := 1755 } : Room) s m args below meth c Γ D 0 0 (MQ below (QcA Γ D Pst) args s 0 0 (frB Γ)) σ 55 [some (.ref (Γ.1 + 333)), some (.int v1), some (.int v2)] [] := by
  intro n
  induction n with
  | zero =>
    intro v2 σ z hF hK
    cases hF
  | succ n ih =>
    intro v2 σ z hF hK
    obtain ⟨y9, hB, hF⟩ := whl_step hF
    change F_M_law_55_b v1 v2 σ = some y9 at hB
    unfold F_M_law_55_b at hB
    refine e_iload_n X dX12_law_55 rfl rfl ?_
    refine e_aload_n X dX12_law_56 rfl rfl ?_
    refine ge_M_end X wf_X12_85 dX12_law_57 ?_
    refine e_icmp_ge X 85 dX12_law_60 (by decide) (fun c8 => ?_) (fun c8 => ?_)
    · skip
      rw [if_neg c8] at hB
      have hy9 := Option.some.inj hB; change (.inr ((v2, σ))) = y9 at hy9; subst hy9
      have hz9 := Option.some.inj hF; change ((v2, σ)) = z at hz9; subst hz9
      exact e_le hK (And.intro rfl (And.intro rfl (And.intro rfl (trivial))))
    · skip
      rw [if_pos c8] at hB
      refine e_aload_n X dX12_law_63 rfl rfl ?_
      refine ge_M_m X wf_X12_7 dX12_law_64 ?_
      refine e_sipush X 450 dX12_law_67 rfl ?_
      refine e_iload_n X dX12_law_70 rfl rfl ?_
      refine e_iadd X dX12_law_71 ?_
      refine e_aload_n X dX12_law_72 rfl rfl ?_
      refine ge_M_tape X wf_X12_22 dX12_law_73 ?_
      refine e_iload_n X dX12_law_76 rfl rfl ?_
      obtain ⟨c9, hB⟩ := chk_out hB
      refine e_iald X (j := v2.toNatClampNeg) rfl rfl (inb_in c9) rfl dX12_law_77 ?_
      obtain ⟨i10, h_i10, hB⟩ := bindT_out hB
      obtain ⟨c11, hB⟩ := chk_out hB
      obtain ⟨σ12, h_σ12, hB⟩ := bindT_out hB
      refine e_iast X (j := i10.toNatClampNeg) h_i10 rfl (inb_in c11) rfl dX12_law_78 h_σ12 ?_
      refine e_iinc X 1 dX12_law_79 rfl rfl (by decide) ?_
      obtain ⟨x13, h_x13, hB⟩ := bindT_out hB
      rw [← h_x13]
      refine e_goto X 55 dX12_law_82 (by decide) ?_
      have hy9 := Option.some.inj hB; change (.inl ((x13, σ12))) = y9 at hy9; subst hy9
      exact e_le (ih x13 σ12 hF hK) (And.intro rfl (And.intro rfl (And.intro rfl (trivial))))
set_option maxRecDepth 20000 in
set_option maxHeartbeats 4000000 in
theorem C_M_law (hG : Gok l Γ D s0) (σ : Mem)   {out : Mem × Int32} (hF : F_M_law σ = some out) : CT l Γ D s0 yX12_law cX12_law 3 (some .int) (81) 0 0 (1755) σ [.ref (Γ.1 + 333)] (PI (some (.int out.2)) out.1) := by
  unfold F_M_law at hF
  refine e_met (own := RX12) hG (by decide +kernel) rfl rfl (Nat.le_of_ble_eq_true rfl) ?_
  intro p e s m args below meth c X hr
  show E p l e _ s m args below meth c Γ D 0 0 _ σ 0 [some (.ref (Γ.1 + 333)), none, none] []
  refine e_aload_n X dX12_law_0 rfl rfl ?_
  obtain ⟨z1, h_z1, hF⟩ := bindT_out hF
  refine e_callVv X (σ1 := z1) [] [] (by rw [h_z1]; exact C_M_begins (Cx_gok X) σ) gv_X12_191 yk_X12_begins rfl (ent_lt (rfl : entTbl[333]? = some (13, 0))) (ent_at (rfl : entTbl[333]? = some (13, 0)) _) (rfl : vCl[11]? = some (RX12, TX12, 24)) ⟨Nat.le_of_ble_eq_true rfl, Nat.le_of_ble_eq_true rfl⟩ ⟨Nat.le_of_ble_eq_true rfl, Nat.le_of_ble_eq_true rfl⟩ (Nat.le_of_ble_eq_true rfl) dX12_law_1 rfl ?_
  refine e_aload_n X dX12_law_4 rfl rfl ?_
  refine e_iconst X 1 dX12_law_5 rfl ?_
  obtain ⟨z2, h_z2, hF⟩ := obind_out hF
  refine e_callVi X (r := z2.2) (σ1 := z2.1) [.int 1] [] (C_M_read (Cx_gok X) z1 1 h_z2) gv_X12_194 yk_X12_read rfl (ent_lt (rfl : entTbl[333]? = some (13, 0))) (ent_at (rfl : entTbl[333]? = some (13, 0)) _) (rfl : vCl[11]? = some (RX12, TX12, 24)) ⟨Nat.le_of_ble_eq_true rfl, Nat.le_of_ble_eq_true rfl⟩ ⟨Nat.le_of_ble_eq_true rfl, Nat.le_of_ble_eq_true rfl⟩ (Nat.le_of_ble_eq_true rfl) dX12_law_6 rfl ?_
  refine e_istore_n X rfl dX12_law_9 rfl (by decide) ?_
  refine e_aload_n X dX12_law_10 rfl rfl ?_
  refine e_aload_n X dX12_law_11 rfl rfl ?_
  refine ge_M_fault X wf_X12_25 dX12_law_12 ?_
  refine e_iconst X (-1) dX12_law_15 rfl ?_
  refine e_icmp_eq X 23 dX12_law_16 (by decide) (fun c3 => ?_) (fun c3 => ?_)
  · skip
    rw [if_pos c3] at hF
    refine e_iconst X 0 dX12_law_23 rfl ?_
    obtain ⟨σ4, h_σ4, hF⟩ := bindT_out hF
    refine pu_M_thrown X wf_X12_51 dX12_law_24 h_σ4 ?_
    refine e_aload_n X dX12_law_27 rfl rfl ?_
    refine ge_M_thrown X wf_X12_51 dX12_law_28 ?_
    refine e_if_le X 36 dX12_law_31 (by decide) (fun c5 => ?_) (fun c5 => ?_)
    · skip
      rw [if_neg c5] at hF
      refine e_aload_n X dX12_law_36 rfl rfl ?_
      refine ge_M_m X wf_X12_7 dX12_law_37 ?_
      refine e_iconst X 1 dX12_law_40 rfl ?_
      refine e_iload_n X dX12_law_41 rfl rfl ?_
      obtain ⟨σ6, h_σ6, hF⟩ := bindT_out hF
      refine e_iast X (j := 1) rfl rfl (vp_in_iff.mpr (by decide)) rfl dX12_law_42 h_σ6 ?_
      refine e_aload_n X dX12_law_43 rfl rfl ?_
      refine ge_M_m X wf_X12_7 dX12_law_44 ?_
      refine e_iconst X 2 dX12_law_47 rfl ?_
      refine e_aload_n X dX12_law_48 rfl rfl ?_
      refine ge_M_end X wf_X12_85 dX12_law_49 ?_
      obtain ⟨σ7, h_σ7, hF⟩ := bindT_out hF
      refine e_iast X (j := 2) rfl rfl (vp_in_iff.mpr (by decide)) rfl dX12_law_52 h_σ7 ?_
      refine e_iconst X 0 dX12_law_53 rfl ?_
      refine e_istore_n X rfl dX12_law_54 rfl (by decide) ?_
      obtain ⟨z14, h_z14, hF⟩ := obind_out hF
      refine e_le (L_M_law_55 X hr z2.2 _ 0 σ7 h_z14 ?_) (And.intro rfl (And.intro rfl (And.intro rfl (trivial))))
      refine e_aload_n X dX12_law_85 rfl rfl ?_
      refine e_iconst X 0 dX12_law_86 rfl ?_
      obtain ⟨σ15, h_σ15, hF⟩ := bindT_out hF
      refine pu_M_acted X wf_X12_201 dX12_law_87 h_σ15 ?_
      refine e_iload_n X dX12_law_90 rfl rfl ?_
      exact e_iret X hr dX12_law_91 (Nat.le_of_ble_eq_true rfl) (Nat.le_of_ble_eq_true rfl) (by cases hF; exact ⟨rfl, rfl⟩)
    · skip
      rw [if_pos c5] at hF
      refine e_iconst X 0 dX12_law_34 rfl ?_
      exact e_iret X hr dX12_law_35 (Nat.le_of_ble_eq_true rfl) (Nat.le_of_ble_eq_true rfl) (by cases hF; exact ⟨rfl, rfl⟩)
  · skip
    rw [if_neg c3] at hF
    refine e_iconst X 1 dX12_law_19 rfl ?_
    refine e_goto X 24 dX12_law_20 (by decide) ?_
    obtain ⟨σ16, h_σ16, hF⟩ := bindT_out hF
    refine pu_M_thrown X wf_X12_51 dX12_law_24 h_σ16 ?_
    refine e_aload_n X dX12_law_27 rfl rfl ?_
    refine ge_M_thrown X wf_X12_51 dX12_law_28 ?_
    refine e_if_le X 36 dX12_law_31 (by decide) (fun c17 => ?_) (fun c17 => ?_)
    · skip
      rw [if_neg c17] at hF
      refine e_aload_n X dX12_law_36 rfl rfl ?_
      refine ge_M_m X wf_X12_7 dX12_law_37 ?_
      refine e_iconst X 1 dX12_law_40 rfl ?_
      refine e_iload_n X dX12_law_41 rfl rfl ?_
      obtain ⟨σ18, h_σ18, hF⟩ := bindT_out hF
      refine e_iast X (j := 1) rfl rfl (vp_in_iff.mpr (by decide)) rfl dX12_law_42 h_σ18 ?_
      refine e_aload_n X dX12_law_43 rfl rfl ?_
      refine ge_M_m X wf_X12_7 dX12_law_44 ?_
      refine e_iconst X 2 dX12_law_47 rfl ?_
      refine e_aload_n X dX12_law_48 rfl rfl ?_
      refine ge_M_end X wf_X12_85 dX12_law_49 ?_
      obtain ⟨σ19, h_σ19, hF⟩ := bindT_out hF
      refine e_iast X (j := 2) rfl rfl (vp_in_iff.mpr (by decide)) rfl dX12_law_52 h_σ19 ?_
      refine e_iconst X 0 dX12_law_53 rfl ?_
      refine e_istore_n X rfl dX12_law_54 rfl (by decide) ?_
      obtain ⟨z20, h_z20, hF⟩ := obind_out hF
      refine e_le (L_M_law_55 X hr z2.2 _ 0 σ19 h_z20 ?_) (And.intro rfl (And.intro rfl (And.intro rfl (trivial))))
      refine e_aload_n X dX12_law_85 rfl rfl ?_
      refine e_iconst X 0 dX12_law_86 rfl ?_
      obtain ⟨σ21, h_σ21, hF⟩ := bindT_out hF
      refine pu_M_acted X wf_X12_201 dX12_law_87 h_σ21 ?_
      refine e_iload_n X dX12_law_90 rfl rfl ?_
      exact e_iret X hr dX12_law_91 (Nat.le_of_ble_eq_true rfl) (Nat.le_of_ble_eq_true rfl) (by cases hF; exact ⟨rfl, rfl⟩)
    · skip
      rw [if_pos c17] at hF
      refine e_iconst X 0 dX12_law_34 rfl ?_
      exact e_iret X hr dX12_law_35 (Nat.le_of_ble_eq_true rfl) (Nat.le_of_ble_eq_true rfl) (by cases hF; exact ⟨rfl, rfl⟩)
set_option maxRecDepth 20000 in
set_option maxHeartbeats 4000000 in
theorem C_M_turnsBy (hG : Gok l Γ D s0) (σ : Mem) (v1 : Int32) (v2 : Int32)  {out : Mem × Int32} (hF : F_M_turnsBy σ v1 v2 = some out) : CT l Γ D s0 yX12_turnsBy cX12_turnsBy 7 (some .int) (81) 0 0 (1755) σ [.ref (Γ.1 + 333), .int v1, .int v2] (PI (some (.int out.2)) out.1) := by
  unfold F_M_turnsBy at hF
  refine e_met (own := RX12) hG (by decide +kernel) rfl rfl (Nat.le_of_ble_eq_true rfl) ?_
  intro p e s m args below meth c X hr
  show E p l e _ s m args below meth c Γ D 0 0 _ σ 0 [some (.ref (Γ.1 + 333)), some (.int v1), some (.int v2), none, none, none, none] []
  refine e_aload_n X dX12_turnsBy_0 rfl rfl ?_
  refine e_iload_n X dX12_turnsBy_1 rfl rfl ?_
  refine e_iconst X 0 dX12_turnsBy_2 rfl ?_
  obtain ⟨z1, h_z1, hF⟩ := obind_out hF
  refine e_callVi X (r := z1) (σ1 := σ) [.int v1, .int 0] [] (C_M_ofMatch (Cx_gok X) σ v1 0 h_z1) gv_X12_58 yk_X12_ofMatch rfl (ent_lt (rfl : entTbl[333]? = some (13, 0))) (ent_at (rfl : entTbl[333]? = some (13, 0)) _) (rfl : vCl[11]? = some (RX12, TX12, 24)) ⟨Nat.le_of_ble_eq_true rfl, Nat.le_of_ble_eq_true rfl⟩ ⟨Nat.le_of_ble_eq_true rfl, Nat.le_of_ble_eq_true rfl⟩ (Nat.le_of_ble_eq_true rfl) dX12_turnsBy_3 rfl ?_
  refine e_istore_n X rfl dX12_turnsBy_6 rfl (by decide) ?_
  refine e_aload_n X dX12_turnsBy_7 rfl rfl ?_
  refine e_iload_n X dX12_turnsBy_8 rfl rfl ?_
  refine e_iconst X 1 dX12_turnsBy_9 rfl ?_
  obtain ⟨z2, h_z2, hF⟩ := obind_out hF
  refine e_callVi X (r := z2) (σ1 := σ) [.int v1, .int 1] [] (C_M_ofMatch (Cx_gok X) σ v1 1 h_z2) gv_X12_58 yk_X12_ofMatch rfl (ent_lt (rfl : entTbl[333]? = some (13, 0))) (ent_at (rfl : entTbl[333]? = some (13, 0)) _) (rfl : vCl[11]? = some (RX12, TX12, 24)) ⟨Nat.le_of_ble_eq_true rfl, Nat.le_of_ble_eq_true rfl⟩ ⟨Nat.le_of_ble_eq_true rfl, Nat.le_of_ble_eq_true rfl⟩ (Nat.le_of_ble_eq_true rfl) dX12_turnsBy_10 rfl ?_
  refine e_istore X rfl dX12_turnsBy_13 (by decide) ?_
  refine e_aload_n X dX12_turnsBy_15 rfl rfl ?_
  refine ge_M_fact X wf_X12_29 dX12_turnsBy_16 ?_
  refine e_iconst X 0 dX12_turnsBy_19 rfl ?_
  refine e_aload_n X dX12_turnsBy_20 rfl rfl ?_
  refine e_iload_n X dX12_turnsBy_21 rfl rfl ?_
  refine e_iconst X 2 dX12_turnsBy_22 rfl ?_
  obtain ⟨z3, h_z3, hF⟩ := obind_out hF
  refine e_callVi X (r := z3) (σ1 := σ) [.int v1, .int 2] [.int 0, .ref (Γ.1 + 339)] (C_M_ofMatch (Cx_gok X) σ v1 2 h_z3) gv_X12_58 yk_X12_ofMatch rfl (ent_lt (rfl : entTbl[333]? = some (13, 0))) (ent_at (rfl : entTbl[333]? = some (13, 0)) _) (rfl : vCl[11]? = some (RX12, TX12, 24)) ⟨Nat.le_of_ble_eq_true rfl, Nat.le_of_ble_eq_true rfl⟩ ⟨Nat.le_of_ble_eq_true rfl, Nat.le_of_ble_eq_true rfl⟩ (Nat.le_of_ble_eq_true rfl) dX12_turnsBy_23 rfl ?_
  obtain ⟨σ4, h_σ4, hF⟩ := bindT_out hF
  refine e_iast X (j := 0) rfl rfl (vp_in_iff.mpr (by decide)) rfl dX12_turnsBy_26 h_σ4 ?_
  refine e_aload_n X dX12_turnsBy_27 rfl rfl ?_
  refine ge_M_fact X wf_X12_29 dX12_turnsBy_28 ?_
  refine e_iconst X 1 dX12_turnsBy_31 rfl ?_
  refine e_aload_n X dX12_turnsBy_32 rfl rfl ?_
  refine e_iload_n X dX12_turnsBy_33 rfl rfl ?_
  refine e_iconst X 3 dX12_turnsBy_34 rfl ?_
  obtain ⟨z5, h_z5, hF⟩ := obind_out hF
  refine e_callVi X (r := z5) (σ1 := σ4) [.int v1, .int 3] [.int 1, .ref (Γ.1 + 339)] (C_M_ofMatch (Cx_gok X) σ4 v1 3 h_z5) gv_X12_58 yk_X12_ofMatch rfl (ent_lt (rfl : entTbl[333]? = some (13, 0))) (ent_at (rfl : entTbl[333]? = some (13, 0)) _) (rfl : vCl[11]? = some (RX12, TX12, 24)) ⟨Nat.le_of_ble_eq_true rfl, Nat.le_of_ble_eq_true rfl⟩ ⟨Nat.le_of_ble_eq_true rfl, Nat.le_of_ble_eq_true rfl⟩ (Nat.le_of_ble_eq_true rfl) dX12_turnsBy_35 rfl ?_
  obtain ⟨σ6, h_σ6, hF⟩ := bindT_out hF
  refine e_iast X (j := 1) rfl rfl (vp_in_iff.mpr (by decide)) rfl dX12_turnsBy_38 h_σ6 ?_
  refine e_aload_n X dX12_turnsBy_39 rfl rfl ?_
  refine ge_M_fact X wf_X12_29 dX12_turnsBy_40 ?_
  refine e_iconst X 2 dX12_turnsBy_43 rfl ?_
  refine e_iload_n X dX12_turnsBy_44 rfl rfl ?_
  obtain ⟨σ7, h_σ7, hF⟩ := bindT_out hF
  refine e_iast X (j := 2) rfl rfl (vp_in_iff.mpr (by decide)) rfl dX12_turnsBy_45 h_σ7 ?_
  refine e_aload_n X dX12_turnsBy_46 rfl rfl ?_
  refine ge_M_fact X wf_X12_29 dX12_turnsBy_47 ?_
  refine e_iconst X 3 dX12_turnsBy_50 rfl ?_
  refine e_aload_n X dX12_turnsBy_51 rfl rfl ?_
  refine e_iload_n X dX12_turnsBy_52 rfl rfl ?_
  obtain ⟨z8, h_z8, hF⟩ := obind_out hF
  refine e_callVi X (r := z8) (σ1 := σ7) [.int v1] [.int 3, .ref (Γ.1 + 339)] (C_M_insurers (Cx_gok X) σ7 v1 h_z8) gv_X12_256 yk_X12_insurers rfl (ent_lt (rfl : entTbl[333]? = some (13, 0))) (ent_at (rfl : entTbl[333]? = some (13, 0)) _) (rfl : vCl[11]? = some (RX12, TX12, 24)) ⟨Nat.le_of_ble_eq_true rfl, Nat.le_of_ble_eq_true rfl⟩ ⟨Nat.le_of_ble_eq_true rfl, Nat.le_of_ble_eq_true rfl⟩ (Nat.le_of_ble_eq_true rfl) dX12_turnsBy_53 rfl ?_
  refine e_callSi X (r := (F_M_bits σ7 z8)) (σ1 := σ7) [.int z8] [.int 3, .ref (Γ.1 + 339)] (C_M_bits (Cx_gok X) σ7 z8) gs_X12_69 yk_X12_bits rfl ⟨Nat.le_of_ble_eq_true rfl, Nat.le_of_ble_eq_true rfl⟩ ⟨Nat.le_of_ble_eq_true rfl, Nat.le_of_ble_eq_true rfl⟩ (Nat.le_of_ble_eq_true rfl) dX12_turnsBy_56 rfl ?_
  obtain ⟨σ9, h_σ9, hF⟩ := bindT_out hF
  refine e_iast X (j := 3) rfl rfl (vp_in_iff.mpr (by decide)) rfl dX12_turnsBy_59 h_σ9 ?_
  refine e_aload_n X dX12_turnsBy_60 rfl rfl ?_
  refine ge_M_fact X wf_X12_29 dX12_turnsBy_61 ?_
  refine e_iconst X 4 dX12_turnsBy_64 rfl ?_
  refine e_aload_n X dX12_turnsBy_65 rfl rfl ?_
  refine e_iload_n X dX12_turnsBy_66 rfl rfl ?_
  refine e_iload X dX12_turnsBy_67 rfl ?_
  obtain ⟨z10, h_z10, hF⟩ := obind_out hF
  refine e_callVi X (r := z10) (σ1 := σ9) [.int z1, .int z2] [.int 4, .ref (Γ.1 + 339)] (C_M_likes (Cx_gok X) σ9 z1 z2 h_z10) gv_X12_258 yk_X12_likes rfl (ent_lt (rfl : entTbl[333]? = some (13, 0))) (ent_at (rfl : entTbl[333]? = some (13, 0)) _) (rfl : vCl[11]? = some (RX12, TX12, 24)) ⟨Nat.le_of_ble_eq_true rfl, Nat.le_of_ble_eq_true rfl⟩ ⟨Nat.le_of_ble_eq_true rfl, Nat.le_of_ble_eq_true rfl⟩ (Nat.le_of_ble_eq_true rfl) dX12_turnsBy_69 rfl ?_
  refine e_aload_n X dX12_turnsBy_72 rfl rfl ?_
  refine e_iload X dX12_turnsBy_73 rfl ?_
  refine e_iload_n X dX12_turnsBy_75 rfl rfl ?_
  obtain ⟨z11, h_z11, hF⟩ := obind_out hF
  refine e_callVi X (r := z11) (σ1 := σ9) [.int z2, .int z1] [.int z10, .int 4, .ref (Γ.1 + 339)] (C_M_likes (Cx_gok X) σ9 z2 z1 h_z11) gv_X12_258 yk_X12_likes rfl (ent_lt (rfl : entTbl[333]? = some (13, 0))) (ent_at (rfl : entTbl[333]? = some (13, 0)) _) (rfl : vCl[11]? = some (RX12, TX12, 24)) ⟨Nat.le_of_ble_eq_true rfl, Nat.le_of_ble_eq_true rfl⟩ ⟨Nat.le_of_ble_eq_true rfl, Nat.le_of_ble_eq_true rfl⟩ (Nat.le_of_ble_eq_true rfl) dX12_turnsBy_76 rfl ?_
  refine e_iadd X dX12_turnsBy_79 ?_
  obtain ⟨σ12, h_σ12, hF⟩ := bindT_out hF
  refine e_iast X (j := 4) rfl rfl (vp_in_iff.mpr (by decide)) rfl dX12_turnsBy_80 h_σ12 ?_
  refine e_aload_n X dX12_turnsBy_81 rfl rfl ?_
  refine ge_M_fact X wf_X12_29 dX12_turnsBy_82 ?_
  refine e_iconst X 5 dX12_turnsBy_85 rfl ?_
  refine e_aload_n X dX12_turnsBy_86 rfl rfl ?_
  refine ge_M_m X wf_X12_7 dX12_turnsBy_87 ?_
  refine e_bipush X 8 dX12_turnsBy_90 rfl ?_
  refine e_iald X (j := 8) rfl rfl (vp_in_iff.mpr (by decide)) rfl dX12_turnsBy_92 ?_
  refine e_bipush X 12 dX12_turnsBy_93 rfl ?_
  refine e_irem X dX12_turnsBy_95 (by decide) ?_
  obtain ⟨σ13, h_σ13, hF⟩ := bindT_out hF
  refine e_iast X (j := 5) rfl rfl (vp_in_iff.mpr (by decide)) rfl dX12_turnsBy_96 h_σ13 ?_
  refine e_aload_n X dX12_turnsBy_97 rfl rfl ?_
  refine e_aload_n X dX12_turnsBy_98 rfl rfl ?_
  refine e_iload_n X dX12_turnsBy_99 rfl rfl ?_
  refine e_iconst X 0 dX12_turnsBy_100 rfl ?_
  obtain ⟨z14, h_z14, hF⟩ := obind_out hF
  refine e_callVi X (r := z14) (σ1 := σ13) [.int z1, .int 0] [.ref (Γ.1 + 333)] (C_M_of (Cx_gok X) σ13 z1 0 h_z14) gv_X12_62 yk_X12_of rfl (ent_lt (rfl : entTbl[333]? = some (13, 0))) (ent_at (rfl : entTbl[333]? = some (13, 0)) _) (rfl : vCl[11]? = some (RX12, TX12, 24)) ⟨Nat.le_of_ble_eq_true rfl, Nat.le_of_ble_eq_true rfl⟩ ⟨Nat.le_of_ble_eq_true rfl, Nat.le_of_ble_eq_true rfl⟩ (Nat.le_of_ble_eq_true rfl) dX12_turnsBy_101 rfl ?_
  refine e_aload_n X dX12_turnsBy_104 rfl rfl ?_
  refine e_iload X dX12_turnsBy_105 rfl ?_
  refine e_iconst X 0 dX12_turnsBy_107 rfl ?_
  obtain ⟨z15, h_z15, hF⟩ := obind_out hF
  refine e_callVi X (r := z15) (σ1 := σ13) [.int z2, .int 0] [.int z14, .ref (Γ.1 + 333)] (C_M_of (Cx_gok X) σ13 z2 0 h_z15) gv_X12_62 yk_X12_of rfl (ent_lt (rfl : entTbl[333]? = some (13, 0))) (ent_at (rfl : entTbl[333]? = some (13, 0)) _) (rfl : vCl[11]? = some (RX12, TX12, 24)) ⟨Nat.le_of_ble_eq_true rfl, Nat.le_of_ble_eq_true rfl⟩ ⟨Nat.le_of_ble_eq_true rfl, Nat.le_of_ble_eq_true rfl⟩ (Nat.le_of_ble_eq_true rfl) dX12_turnsBy_108 rfl ?_
  refine e_iadd X dX12_turnsBy_111 ?_
  refine e_bipush X 99 dX12_turnsBy_112 rfl ?_
  refine e_icmp_le X 121 dX12_turnsBy_114 (by decide) (fun c16 => ?_) (fun c16 => ?_)
  · skip
    rw [if_neg c16] at hF
    refine e_iconst X 0 dX12_turnsBy_121 rfl ?_
    obtain ⟨σ17, h_σ17, hF⟩ := bindT_out hF
    refine pu_M_isRich X (Or.inl rfl) wf_X12_221 dX12_turnsBy_122 h_σ17 ?_
    refine e_aload_n X dX12_turnsBy_125 rfl rfl ?_
    refine ge_M_m X wf_X12_7 dX12_turnsBy_126 ?_
    refine e_iconst X 1 dX12_turnsBy_129 rfl ?_
    refine e_iald X (j := 1) rfl rfl (vp_in_iff.mpr (by decide)) rfl dX12_turnsBy_130 ?_
    refine e_iconst X (-1) dX12_turnsBy_131 rfl ?_
    refine e_icmp_ne X 144 dX12_turnsBy_132 (by decide) (fun c18 => ?_) (fun c18 => ?_)
    · skip
      rw [if_neg c18] at hF
      refine e_aload_n X dX12_turnsBy_144 rfl rfl ?_
      refine e_iconst X 0 dX12_turnsBy_145 rfl ?_
      obtain ⟨σ19, h_σ19, hF⟩ := bindT_out hF
      refine pu_M_turns X wf_X12_253 dX12_turnsBy_146 h_σ19 ?_
      refine e_aload_n X dX12_turnsBy_149 rfl rfl ?_
      refine ge_M_fault X wf_X12_25 dX12_turnsBy_150 ?_
      obtain ⟨x20, h_x20, hF⟩ := bindT_out hF
      refine e_istore X h_x20 dX12_turnsBy_153 (by decide) ?_
      refine e_aload_n X dX12_turnsBy_155 rfl rfl ?_
      refine e_iconst X (-1) dX12_turnsBy_156 rfl ?_
      obtain ⟨σ21, h_σ21, hF⟩ := bindT_out hF
      refine pu_M_fault X wf_X12_25 dX12_turnsBy_157 h_σ21 ?_
      refine e_aload_n X dX12_turnsBy_160 rfl rfl ?_
      refine e_sipush X 450 dX12_turnsBy_161 rfl ?_
      obtain ⟨σ22, h_σ22, hF⟩ := bindT_out hF
      refine pu_M_base X wf_X12_79 dX12_turnsBy_164 h_σ22 ?_
      refine e_aload_n X dX12_turnsBy_167 rfl rfl ?_
      refine e_aload_n X dX12_turnsBy_168 rfl rfl ?_
      refine ge_M_m X wf_X12_7 dX12_turnsBy_169 ?_
      refine e_iconst X 2 dX12_turnsBy_172 rfl ?_
      refine e_iald X (j := 2) rfl rfl (vp_in_iff.mpr (by decide)) rfl dX12_turnsBy_173 ?_
      obtain ⟨σ23, h_σ23, hF⟩ := bindT_out hF
      refine pu_M_end X wf_X12_85 dX12_turnsBy_174 h_σ23 ?_
      refine e_aload_n X dX12_turnsBy_177 rfl rfl ?_
      refine e_iconst X 0 dX12_turnsBy_178 rfl ?_
      obtain ⟨σ24, h_σ24, hF⟩ := bindT_out hF
      refine pu_M_at X wf_X12_82 dX12_turnsBy_179 h_σ24 ?_
      refine e_aload_n X dX12_turnsBy_182 rfl rfl ?_
      refine e_iconst X 0 dX12_turnsBy_183 rfl ?_
      obtain ⟨σ25, h_σ25, hF⟩ := bindT_out hF
      refine pu_M_deep X wf_X12_175 dX12_turnsBy_184 h_σ25 ?_
      refine e_aload_n X dX12_turnsBy_187 rfl rfl ?_
      refine e_iconst X 1 dX12_turnsBy_188 rfl ?_
      obtain ⟨z26, h_z26, hF⟩ := obind_out hF
      refine e_callVi X (r := z26.2) (σ1 := z26.1) [.int 1] [] (C_M_read (Cx_gok X) σ25 1 h_z26) gv_X12_194 yk_X12_read rfl (ent_lt (rfl : entTbl[333]? = some (13, 0))) (ent_at (rfl : entTbl[333]? = some (13, 0)) _) (rfl : vCl[11]? = some (RX12, TX12, 24)) ⟨Nat.le_of_ble_eq_true rfl, Nat.le_of_ble_eq_true rfl⟩ ⟨Nat.le_of_ble_eq_true rfl, Nat.le_of_ble_eq_true rfl⟩ (Nat.le_of_ble_eq_true rfl) dX12_turnsBy_189 rfl ?_
      refine e_istore X rfl dX12_turnsBy_192 (by decide) ?_
      refine e_aload_n X dX12_turnsBy_194 rfl rfl ?_
      refine e_iload X dX12_turnsBy_195 rfl ?_
      obtain ⟨σ27, h_σ27, hF⟩ := bindT_out hF
      refine pu_M_fault X wf_X12_25 dX12_turnsBy_197 h_σ27 ?_
      refine e_aload_n X dX12_turnsBy_200 rfl rfl ?_
      refine ge_M_turns X wf_X12_253 dX12_turnsBy_201 ?_
      exact e_iret X hr dX12_turnsBy_204 (Nat.le_of_ble_eq_true rfl) (Nat.le_of_ble_eq_true rfl) (by cases hF; exact ⟨rfl, rfl⟩)
    · skip
      rw [if_pos c18] at hF
      refine e_aload_n X dX12_turnsBy_135 rfl rfl ?_
      refine ge_M_fact X wf_X12_29 dX12_turnsBy_136 ?_
      refine e_iconst X 4 dX12_turnsBy_139 rfl ?_
      refine e_iald X (j := 4) rfl rfl (vp_in_iff.mpr (by decide)) rfl dX12_turnsBy_140 ?_
      refine e_iload_n X dX12_turnsBy_141 rfl rfl ?_
      refine e_isub X dX12_turnsBy_142 ?_
      exact e_iret X hr dX12_turnsBy_143 (Nat.le_of_ble_eq_true rfl) (Nat.le_of_ble_eq_true rfl) (by cases hF; exact ⟨rfl, rfl⟩)
  · skip
    rw [if_pos c16] at hF
    refine e_iconst X 1 dX12_turnsBy_117 rfl ?_
    refine e_goto X 122 dX12_turnsBy_118 (by decide) ?_
    obtain ⟨σ28, h_σ28, hF⟩ := bindT_out hF
    refine pu_M_isRich X (Or.inr rfl) wf_X12_221 dX12_turnsBy_122 h_σ28 ?_
    refine e_aload_n X dX12_turnsBy_125 rfl rfl ?_
    refine ge_M_m X wf_X12_7 dX12_turnsBy_126 ?_
    refine e_iconst X 1 dX12_turnsBy_129 rfl ?_
    refine e_iald X (j := 1) rfl rfl (vp_in_iff.mpr (by decide)) rfl dX12_turnsBy_130 ?_
    refine e_iconst X (-1) dX12_turnsBy_131 rfl ?_
    refine e_icmp_ne X 144 dX12_turnsBy_132 (by decide) (fun c29 => ?_) (fun c29 => ?_)
    · skip
      rw [if_neg c29] at hF
      refine e_aload_n X dX12_turnsBy_144 rfl rfl ?_
      refine e_iconst X 0 dX12_turnsBy_145 rfl ?_
      obtain ⟨σ30, h_σ30, hF⟩ := bindT_out hF
      refine pu_M_turns X wf_X12_253 dX12_turnsBy_146 h_σ30 ?_
      refine e_aload_n X dX12_turnsBy_149 rfl rfl ?_
      refine ge_M_fault X wf_X12_25 dX12_turnsBy_150 ?_
      obtain ⟨x31, h_x31, hF⟩ := bindT_out hF
      refine e_istore X h_x31 dX12_turnsBy_153 (by decide) ?_
      refine e_aload_n X dX12_turnsBy_155 rfl rfl ?_
      refine e_iconst X (-1) dX12_turnsBy_156 rfl ?_
      obtain ⟨σ32, h_σ32, hF⟩ := bindT_out hF
      refine pu_M_fault X wf_X12_25 dX12_turnsBy_157 h_σ32 ?_
      refine e_aload_n X dX12_turnsBy_160 rfl rfl ?_
      refine e_sipush X 450 dX12_turnsBy_161 rfl ?_
      obtain ⟨σ33, h_σ33, hF⟩ := bindT_out hF
      refine pu_M_base X wf_X12_79 dX12_turnsBy_164 h_σ33 ?_
      refine e_aload_n X dX12_turnsBy_167 rfl rfl ?_
      refine e_aload_n X dX12_turnsBy_168 rfl rfl ?_
      refine ge_M_m X wf_X12_7 dX12_turnsBy_169 ?_
      refine e_iconst X 2 dX12_turnsBy_172 rfl ?_
      refine e_iald X (j := 2) rfl rfl (vp_in_iff.mpr (by decide)) rfl dX12_turnsBy_173 ?_
      obtain ⟨σ34, h_σ34, hF⟩ := bindT_out hF
      refine pu_M_end X wf_X12_85 dX12_turnsBy_174 h_σ34 ?_
      refine e_aload_n X dX12_turnsBy_177 rfl rfl ?_
      refine e_iconst X 0 dX12_turnsBy_178 rfl ?_
      obtain ⟨σ35, h_σ35, hF⟩ := bindT_out hF
      refine pu_M_at X wf_X12_82 dX12_turnsBy_179 h_σ35 ?_
      refine e_aload_n X dX12_turnsBy_182 rfl rfl ?_
      refine e_iconst X 0 dX12_turnsBy_183 rfl ?_
      obtain ⟨σ36, h_σ36, hF⟩ := bindT_out hF
      refine pu_M_deep X wf_X12_175 dX12_turnsBy_184 h_σ36 ?_
      refine e_aload_n X dX12_turnsBy_187 rfl rfl ?_
      refine e_iconst X 1 dX12_turnsBy_188 rfl ?_
      obtain ⟨z37, h_z37, hF⟩ := obind_out hF
      refine e_callVi X (r := z37.2) (σ1 := z37.1) [.int 1] [] (C_M_read (Cx_gok X) σ36 1 h_z37) gv_X12_194 yk_X12_read rfl (ent_lt (rfl : entTbl[333]? = some (13, 0))) (ent_at (rfl : entTbl[333]? = some (13, 0)) _) (rfl : vCl[11]? = some (RX12, TX12, 24)) ⟨Nat.le_of_ble_eq_true rfl, Nat.le_of_ble_eq_true rfl⟩ ⟨Nat.le_of_ble_eq_true rfl, Nat.le_of_ble_eq_true rfl⟩ (Nat.le_of_ble_eq_true rfl) dX12_turnsBy_189 rfl ?_
      refine e_istore X rfl dX12_turnsBy_192 (by decide) ?_
      refine e_aload_n X dX12_turnsBy_194 rfl rfl ?_
      refine e_iload X dX12_turnsBy_195 rfl ?_
      obtain ⟨σ38, h_σ38, hF⟩ := bindT_out hF
      refine pu_M_fault X wf_X12_25 dX12_turnsBy_197 h_σ38 ?_
      refine e_aload_n X dX12_turnsBy_200 rfl rfl ?_
      refine ge_M_turns X wf_X12_253 dX12_turnsBy_201 ?_
      exact e_iret X hr dX12_turnsBy_204 (Nat.le_of_ble_eq_true rfl) (Nat.le_of_ble_eq_true rfl) (by cases hF; exact ⟨rfl, rfl⟩)
    · skip
      rw [if_pos c29] at hF
      refine e_aload_n X dX12_turnsBy_135 rfl rfl ?_
      refine ge_M_fact X wf_X12_29 dX12_turnsBy_136 ?_
      refine e_iconst X 4 dX12_turnsBy_139 rfl ?_
      refine e_iald X (j := 4) rfl rfl (vp_in_iff.mpr (by decide)) rfl dX12_turnsBy_140 ?_
      refine e_iload_n X dX12_turnsBy_141 rfl rfl ?_
      refine e_isub X dX12_turnsBy_142 ?_
      exact e_iret X hr dX12_turnsBy_143 (Nat.le_of_ble_eq_true rfl) (Nat.le_of_ble_eq_true rfl) (by cases hF; exact ⟨rfl, rfl⟩)
set_option maxRecDepth 20000 in
set_option maxHeartbeats 4000000 in
theorem C_M_nextOf (hG : Gok l Γ D s0) (σ : Mem) (v1 : Int32) (v2 : Int32)  {out : Mem × Int32} (hF : F_M_nextOf σ v1 v2 = some out) : CT l Γ D s0 yX12_nextOf cX12_nextOf 3 (some .int) (82) 0 0 (1781) σ [.ref (Γ.1 + 333), .int v1, .int v2] (PI (some (.int out.2)) out.1) := by
  unfold F_M_nextOf at hF
  refine e_met (own := RX12) hG (by decide +kernel) rfl rfl (Nat.le_of_ble_eq_true rfl) ?_
  intro p e s m args below meth c X hr
  show E p l e _ s m args below meth c Γ D 0 0 _ σ 0 [some (.ref (Γ.1 + 333)), some (.int v1), some (.int v2)] []
  refine e_iconst X 0 dX12_nextOf_0 rfl ?_
  refine e_bipush X 99 dX12_nextOf_1 rfl ?_
  refine e_aload_n X dX12_nextOf_3 rfl rfl ?_
  refine e_iload_n X dX12_nextOf_4 rfl rfl ?_
  refine e_iconst X 2 dX12_nextOf_5 rfl ?_
  obtain ⟨z1, h_z1, hF⟩ := obind_out hF
  refine e_callVi X (r := z1) (σ1 := σ) [.int v1, .int 2] [.int 99, .int 0] (C_M_ofMatch (Cx_gok X) σ v1 2 h_z1) gv_X12_58 yk_X12_ofMatch rfl (ent_lt (rfl : entTbl[333]? = some (13, 0))) (ent_at (rfl : entTbl[333]? = some (13, 0)) _) (rfl : vCl[11]? = some (RX12, TX12, 24)) ⟨Nat.le_of_ble_eq_true rfl, Nat.le_of_ble_eq_true rfl⟩ ⟨Nat.le_of_ble_eq_true rfl, Nat.le_of_ble_eq_true rfl⟩ (Nat.le_of_ble_eq_true rfl) dX12_nextOf_6 rfl ?_
  refine e_aload_n X dX12_nextOf_9 rfl rfl ?_
  refine e_iload_n X dX12_nextOf_10 rfl rfl ?_
  refine e_iload_n X dX12_nextOf_11 rfl rfl ?_
  obtain ⟨z2, h_z2, hF⟩ := obind_out hF
  refine e_callVi X (r := z2.2) (σ1 := z2.1) [.int v1, .int v2] [.int z1, .int 99, .int 0] (C_M_turnsBy (Cx_gok X) σ v1 v2 h_z2) gv_X12_260 yk_X12_turnsBy rfl (ent_lt (rfl : entTbl[333]? = some (13, 0))) (ent_at (rfl : entTbl[333]? = some (13, 0)) _) (rfl : vCl[11]? = some (RX12, TX12, 24)) ⟨Nat.le_of_ble_eq_true rfl, Nat.le_of_ble_eq_true rfl⟩ ⟨Nat.le_of_ble_eq_true rfl, Nat.le_of_ble_eq_true rfl⟩ (Nat.le_of_ble_eq_true rfl) dX12_nextOf_12 rfl ?_
  refine e_iadd X dX12_nextOf_15 ?_
  refine e_callSi X (r := (F_M_lesser z2.1 99 ((z1 + z2.2)))) (σ1 := z2.1) [.int 99, .int ((z1 + z2.2))] [.int 0] (C_M_lesser (Cx_gok X) z2.1 99 ((z1 + z2.2))) gs_X12_263 yk_X12_lesser rfl ⟨Nat.le_of_ble_eq_true rfl, Nat.le_of_ble_eq_true rfl⟩ ⟨Nat.le_of_ble_eq_true rfl, Nat.le_of_ble_eq_true rfl⟩ (Nat.le_of_ble_eq_true rfl) dX12_nextOf_16 rfl ?_
  refine e_callSi X (r := (F_M_greater z2.1 0 ((F_M_lesser z2.1 99 ((z1 + z2.2)))))) (σ1 := z2.1) [.int 0, .int ((F_M_lesser z2.1 99 ((z1 + z2.2))))] [] (C_M_greater (Cx_gok X) z2.1 0 ((F_M_lesser z2.1 99 ((z1 + z2.2))))) gs_X12_266 yk_X12_greater rfl ⟨Nat.le_of_ble_eq_true rfl, Nat.le_of_ble_eq_true rfl⟩ ⟨Nat.le_of_ble_eq_true rfl, Nat.le_of_ble_eq_true rfl⟩ (Nat.le_of_ble_eq_true rfl) dX12_nextOf_19 rfl ?_
  exact e_iret X hr dX12_nextOf_22 (Nat.le_of_ble_eq_true rfl) (Nat.le_of_ble_eq_true rfl) (by cases hF; exact ⟨rfl, rfl⟩)
set_option maxRecDepth 20000 in
set_option maxHeartbeats 4000000 in
theorem L_M_goes_31 (X : Cx p l s m args meth c Γ D s0 RX12 cX12_goes 6) (hr : meth.sig.returnType = (some .int)) (v1 : Int32) (v2 : Int32) (v3 : Int32)  : ∀ (n : Nat) (v4 : Int32) (σ : Mem) {z : Int32 × Mem}, whl (fun s => F_M_goes_31_b v1 v2 v3 s.1 s.2) n (v4, σ) = some z → (E p l e ({ frames := 83, cells := 0, slots := 0, locals := 1803 } : Room) s m args below meth c Γ D 0 0 (MQ below (QcA Γ D Pst) args s 0 0 (frB Γ)) z.2 160 [some (.ref (Γ.1 + 333)), some (.int v1), some (.int v2), some (.int v3), some (.int z.1), none] []) → E p l e ({ frames := 83, cells := 0, slots := 0, locals := 1803 } : Room) s m args below meth c Γ D 0 0 (MQ below (QcA Γ D Pst) args s 0 0 (frB Γ)) σ 31 [some (.ref (Γ.1 + 333)), some (.int v1), some (.int v2), some (.int v3), some (.int v4), none] [] := by
  intro n
  induction n with
  | zero =>
    intro v4 σ z hF hK
    cases hF
  | succ n ih =>
    intro v4 σ z hF hK
    obtain ⟨y9, hB, hF⟩ := whl_step hF
    change F_M_goes_31_b v1 v2 v3 v4 σ = some y9 at hB
    unfold F_M_goes_31_b at hB
    refine e_iload X dX12_goes_31 rfl ?_
    refine e_aload_n X dX12_goes_33 rfl rfl ?_
    refine ge_M_m X wf_X12_7 dX12_goes_34 ?_
    refine e_iconst X 4 dX12_goes_37 rfl ?_
    refine e_iald X (j := 4) rfl rfl (vp_in_iff.mpr (by decide)) rfl dX12_goes_38 ?_
    refine e_icmp_ge X 160 dX12_goes_39 (by decide) (fun c5 => ?_) (fun c5 => ?_)
    · skip
      rw [if_neg c5] at hB
      have hy9 := Option.some.inj hB; change (.inr ((v4, σ))) = y9 at hy9; subst hy9
      have hz9 := Option.some.inj hF; change ((v4, σ)) = z at hz9; subst hz9
      exact e_le hK (And.intro rfl (And.intro rfl (And.intro rfl (And.intro rfl (And.intro rfl (trivial))))))
    · skip
      rw [if_pos c5] at hB
      refine e_aload_n X dX12_goes_42 rfl rfl ?_
      refine e_iload X dX12_goes_43 rfl ?_
      refine e_iconst X 4 dX12_goes_45 rfl ?_
      obtain ⟨z6, h_z6, hB⟩ := obind_out hB
      refine e_callVi X (r := z6) (σ1 := σ) [.int v4, .int 4] [] (C_M_ofMatch (Cx_gok X) σ v4 4 h_z6) gv_X12_58 yk_X12_ofMatch rfl (ent_lt (rfl : entTbl[333]? = some (13, 0))) (ent_at (rfl : entTbl[333]? = some (13, 0)) _) (rfl : vCl[11]? = some (RX12, TX12, 24)) ⟨Nat.le_of_ble_eq_true rfl, Nat.le_of_ble_eq_true rfl⟩ ⟨Nat.le_of_ble_eq_true rfl, Nat.le_of_ble_eq_true rfl⟩ (Nat.le_of_ble_eq_true rfl) dX12_goes_46 rfl ?_
      refine e_iconst X 1 dX12_goes_49 rfl ?_
      refine e_icmp_ne X 56 dX12_goes_50 (by decide) (fun c7 => ?_) (fun c7 => ?_)
      · skip
        rw [if_neg c7] at hB
        refine e_aload_n X dX12_goes_56 rfl rfl ?_
        refine e_iload X dX12_goes_57 rfl ?_
        obtain ⟨z8, h_z8, hB⟩ := obind_out hB
        refine e_callVv X (σ1 := z8) [.int v4] [] (C_M_premiums (Cx_gok X) σ v4 h_z8) gv_X12_281 yk_X12_premiums rfl (ent_lt (rfl : entTbl[333]? = some (13, 0))) (ent_at (rfl : entTbl[333]? = some (13, 0)) _) (rfl : vCl[11]? = some (RX12, TX12, 24)) ⟨Nat.le_of_ble_eq_true rfl, Nat.le_of_ble_eq_true rfl⟩ ⟨Nat.le_of_ble_eq_true rfl, Nat.le_of_ble_eq_true rfl⟩ (Nat.le_of_ble_eq_true rfl) dX12_goes_59 rfl ?_
        refine e_aload_n X dX12_goes_62 rfl rfl ?_
        refine e_iload X dX12_goes_63 rfl ?_
        refine e_iconst X 2 dX12_goes_65 rfl ?_
        refine e_aload_n X dX12_goes_66 rfl rfl ?_
        refine e_iload X dX12_goes_67 rfl ?_
        refine e_aload_n X dX12_goes_69 rfl rfl ?_
        refine ge_M_m X wf_X12_7 dX12_goes_70 ?_
        refine e_bipush X 9 dX12_goes_73 rfl ?_
        refine e_iald X (j := 9) rfl rfl (vp_in_iff.mpr (by decide)) rfl dX12_goes_75 ?_
        obtain ⟨z9, h_z9, hB⟩ := obind_out hB
        refine e_callVi X (r := z9.2) (σ1 := z9.1) [.int v4, .int ((z8 334 9))] [.int 2, .int v4, .ref (Γ.1 + 333)] (C_M_nextOf (Cx_gok X) z8 v4 ((z8 334 9)) h_z9) gv_X12_284 yk_X12_nextOf rfl (ent_lt (rfl : entTbl[333]? = some (13, 0))) (ent_at (rfl : entTbl[333]? = some (13, 0)) _) (rfl : vCl[11]? = some (RX12, TX12, 24)) ⟨Nat.le_of_ble_eq_true rfl, Nat.le_of_ble_eq_true rfl⟩ ⟨Nat.le_of_ble_eq_true rfl, Nat.le_of_ble_eq_true rfl⟩ (Nat.le_of_ble_eq_true rfl) dX12_goes_76 rfl ?_
        obtain ⟨z10, h_z10, hB⟩ := obind_out hB
        refine e_callVv X (σ1 := z10) [.int v4, .int 2, .int z9.2] [] (C_M_told (Cx_gok X) z9.1 v4 2 z9.2 h_z10) gv_X12_141 yk_X12_told rfl (ent_lt (rfl : entTbl[333]? = some (13, 0))) (ent_at (rfl : entTbl[333]? = some (13, 0)) _) (rfl : vCl[11]? = some (RX12, TX12, 24)) ⟨Nat.le_of_ble_eq_true rfl, Nat.le_of_ble_eq_true rfl⟩ ⟨Nat.le_of_ble_eq_true rfl, Nat.le_of_ble_eq_true rfl⟩ (Nat.le_of_ble_eq_true rfl) dX12_goes_79 rfl ?_
        refine e_aload_n X dX12_goes_82 rfl rfl ?_
        refine e_iload X dX12_goes_83 rfl ?_
        refine e_iconst X 3 dX12_goes_85 rfl ?_
        refine e_aload_n X dX12_goes_86 rfl rfl ?_
        refine e_iload X dX12_goes_87 rfl ?_
        refine e_iconst X 3 dX12_goes_89 rfl ?_
        obtain ⟨z11, h_z11, hB⟩ := obind_out hB
        refine e_callVi X (r := z11) (σ1 := z10) [.int v4, .int 3] [.int 3, .int v4, .ref (Γ.1 + 333)] (C_M_ofMatch (Cx_gok X) z10 v4 3 h_z11) gv_X12_58 yk_X12_ofMatch rfl (ent_lt (rfl : entTbl[333]? = some (13, 0))) (ent_at (rfl : entTbl[333]? = some (13, 0)) _) (rfl : vCl[11]? = some (RX12, TX12, 24)) ⟨Nat.le_of_ble_eq_true rfl, Nat.le_of_ble_eq_true rfl⟩ ⟨Nat.le_of_ble_eq_true rfl, Nat.le_of_ble_eq_true rfl⟩ (Nat.le_of_ble_eq_true rfl) dX12_goes_90 rfl ?_
        refine e_iconst X 1 dX12_goes_93 rfl ?_
        refine e_iadd X dX12_goes_94 ?_
        obtain ⟨z12, h_z12, hB⟩ := obind_out hB
        refine e_callVv X (σ1 := z12) [.int v4, .int 3, .int ((z11 + 1))] [] (C_M_told (Cx_gok X) z10 v4 3 ((z11 + 1)) h_z12) gv_X12_141 yk_X12_told rfl (ent_lt (rfl : entTbl[333]? = some (13, 0))) (ent_at (rfl : entTbl[333]? = some (13, 0)) _) (rfl : vCl[11]? = some (RX12, TX12, 24)) ⟨Nat.le_of_ble_eq_true rfl, Nat.le_of_ble_eq_true rfl⟩ ⟨Nat.le_of_ble_eq_true rfl, Nat.le_of_ble_eq_true rfl⟩ (Nat.le_of_ble_eq_true rfl) dX12_goes_95 rfl ?_
        refine e_aload_n X dX12_goes_98 rfl rfl ?_
        refine e_iload X dX12_goes_99 rfl ?_
        refine e_iconst X 2 dX12_goes_101 rfl ?_
        obtain ⟨z13, h_z13, hB⟩ := obind_out hB
        refine e_callVi X (r := z13) (σ1 := z12) [.int v4, .int 2] [] (C_M_ofMatch (Cx_gok X) z12 v4 2 h_z13) gv_X12_58 yk_X12_ofMatch rfl (ent_lt (rfl : entTbl[333]? = some (13, 0))) (ent_at (rfl : entTbl[333]? = some (13, 0)) _) (rfl : vCl[11]? = some (RX12, TX12, 24)) ⟨Nat.le_of_ble_eq_true rfl, Nat.le_of_ble_eq_true rfl⟩ ⟨Nat.le_of_ble_eq_true rfl, Nat.le_of_ble_eq_true rfl⟩ (Nat.le_of_ble_eq_true rfl) dX12_goes_102 rfl ?_
        refine e_aload_n X dX12_goes_105 rfl rfl ?_
        refine ge_M_m X wf_X12_7 dX12_goes_106 ?_
        refine e_iconst X 5 dX12_goes_109 rfl ?_
        refine e_iald X (j := 5) rfl rfl (vp_in_iff.mpr (by decide)) rfl dX12_goes_110 ?_
        refine e_icmp_ge X 136 dX12_goes_111 (by decide) (fun c14 => ?_) (fun c14 => ?_)
        · skip
          rw [if_neg c14] at hB
          refine e_aload_n X dX12_goes_136 rfl rfl ?_
          refine e_iload X dX12_goes_137 rfl ?_
          refine e_iconst X 2 dX12_goes_139 rfl ?_
          obtain ⟨z15, h_z15, hB⟩ := obind_out hB
          refine e_callVi X (r := z15) (σ1 := z12) [.int v4, .int 2] [] (C_M_ofMatch (Cx_gok X) z12 v4 2 h_z15) gv_X12_58 yk_X12_ofMatch rfl (ent_lt (rfl : entTbl[333]? = some (13, 0))) (ent_at (rfl : entTbl[333]? = some (13, 0)) _) (rfl : vCl[11]? = some (RX12, TX12, 24)) ⟨Nat.le_of_ble_eq_true rfl, Nat.le_of_ble_eq_true rfl⟩ ⟨Nat.le_of_ble_eq_true rfl, Nat.le_of_ble_eq_true rfl⟩ (Nat.le_of_ble_eq_true rfl) dX12_goes_140 rfl ?_
          refine e_if_ne X 154 dX12_goes_143 (by decide) (fun c16 => ?_) (fun c16 => ?_)
          · skip
            rw [if_neg c16] at hB
            refine e_iinc X 1 dX12_goes_154 rfl rfl (by decide) ?_
            obtain ⟨x17, h_x17, hB⟩ := bindT_out hB
            rw [← h_x17]
            refine e_goto X 31 dX12_goes_157 (by decide) ?_
            have hy9 := Option.some.inj hB; change (.inl ((x17, z12))) = y9 at hy9; subst hy9
            exact e_le (ih x17 z12 hF hK) (And.intro rfl (And.intro rfl (And.intro rfl (And.intro rfl (And.intro rfl (trivial))))))
          · skip
            rw [if_pos c16] at hB
            refine e_aload_n X dX12_goes_146 rfl rfl ?_
            refine e_iload X dX12_goes_147 rfl ?_
            refine e_iconst X 4 dX12_goes_149 rfl ?_
            refine e_iconst X 1 dX12_goes_150 rfl ?_
            obtain ⟨z18, h_z18, hB⟩ := obind_out hB
            refine e_callVv X (σ1 := z18) [.int v4, .int 4, .int 1] [] (C_M_told (Cx_gok X) z12 v4 4 1 h_z18) gv_X12_141 yk_X12_told rfl (ent_lt (rfl : entTbl[333]? = some (13, 0))) (ent_at (rfl : entTbl[333]? = some (13, 0)) _) (rfl : vCl[11]? = some (RX12, TX12, 24)) ⟨Nat.le_of_ble_eq_true rfl, Nat.le_of_ble_eq_true rfl⟩ ⟨Nat.le_of_ble_eq_true rfl, Nat.le_of_ble_eq_true rfl⟩ (Nat.le_of_ble_eq_true rfl) dX12_goes_151 rfl ?_
            refine e_iinc X 1 dX12_goes_154 rfl rfl (by decide) ?_
            obtain ⟨x19, h_x19, hB⟩ := bindT_out hB
            rw [← h_x19]
            refine e_goto X 31 dX12_goes_157 (by decide) ?_
            have hy9 := Option.some.inj hB; change (.inl ((x19, z18))) = y9 at hy9; subst hy9
            exact e_le (ih x19 z18 hF hK) (And.intro rfl (And.intro rfl (And.intro rfl (And.intro rfl (And.intro rfl (trivial))))))
        · skip
          rw [if_pos c14] at hB
          refine e_aload_n X dX12_goes_114 rfl rfl ?_
          refine e_iload X dX12_goes_115 rfl ?_
          obtain ⟨z20, h_z20, hB⟩ := obind_out hB
          refine e_callVi X (r := z20) (σ1 := z12) [.int v4] [] (C_M_insurers (Cx_gok X) z12 v4 h_z20) gv_X12_256 yk_X12_insurers rfl (ent_lt (rfl : entTbl[333]? = some (13, 0))) (ent_at (rfl : entTbl[333]? = some (13, 0)) _) (rfl : vCl[11]? = some (RX12, TX12, 24)) ⟨Nat.le_of_ble_eq_true rfl, Nat.le_of_ble_eq_true rfl⟩ ⟨Nat.le_of_ble_eq_true rfl, Nat.le_of_ble_eq_true rfl⟩ (Nat.le_of_ble_eq_true rfl) dX12_goes_117 rfl ?_
          refine e_istore X rfl dX12_goes_120 (by decide) ?_
          refine e_aload_n X dX12_goes_122 rfl rfl ?_
          refine e_iload X dX12_goes_123 rfl ?_
          refine e_aload_n X dX12_goes_125 rfl rfl ?_
          refine e_iload X dX12_goes_126 rfl ?_
          obtain ⟨z21, h_z21, hB⟩ := obind_out hB
          refine e_callVi X (r := z21.2) (σ1 := z21.1) [.int v4] [.int v4, .ref (Γ.1 + 333)] (C_M_claims (Cx_gok X) z12 v4 h_z21) gv_X12_287 yk_X12_claims rfl (ent_lt (rfl : entTbl[333]? = some (13, 0))) (ent_at (rfl : entTbl[333]? = some (13, 0)) _) (rfl : vCl[11]? = some (RX12, TX12, 24)) ⟨Nat.le_of_ble_eq_true rfl, Nat.le_of_ble_eq_true rfl⟩ ⟨Nat.le_of_ble_eq_true rfl, Nat.le_of_ble_eq_true rfl⟩ (Nat.le_of_ble_eq_true rfl) dX12_goes_128 rfl ?_
          refine e_iload X dX12_goes_131 rfl ?_
          obtain ⟨z22, h_z22, hB⟩ := obind_out hB
          refine e_callVv X (σ1 := z22) [.int v4, .int z21.2, .int z20] [] (C_M_logs (Cx_gok X) z21.1 v4 z21.2 z20 h_z22) gv_X12_290 yk_X12_logs rfl (ent_lt (rfl : entTbl[333]? = some (13, 0))) (ent_at (rfl : entTbl[333]? = some (13, 0)) _) (rfl : vCl[11]? = some (RX12, TX12, 24)) ⟨Nat.le_of_ble_eq_true rfl, Nat.le_of_ble_eq_true rfl⟩ ⟨Nat.le_of_ble_eq_true rfl, Nat.le_of_ble_eq_true rfl⟩ (Nat.le_of_ble_eq_true rfl) dX12_goes_133 rfl ?_
          refine e_aload_n X dX12_goes_136 rfl rfl ?_
          refine e_iload X dX12_goes_137 rfl ?_
          refine e_iconst X 2 dX12_goes_139 rfl ?_
          obtain ⟨z23, h_z23, hB⟩ := obind_out hB
          refine e_callVi X (r := z23) (σ1 := z22) [.int v4, .int 2] [] (C_M_ofMatch (Cx_gok X) z22 v4 2 h_z23) gv_X12_58 yk_X12_ofMatch rfl (ent_lt (rfl : entTbl[333]? = some (13, 0))) (ent_at (rfl : entTbl[333]? = some (13, 0)) _) (rfl : vCl[11]? = some (RX12, TX12, 24)) ⟨Nat.le_of_ble_eq_true rfl, Nat.le_of_ble_eq_true rfl⟩ ⟨Nat.le_of_ble_eq_true rfl, Nat.le_of_ble_eq_true rfl⟩ (Nat.le_of_ble_eq_true rfl) dX12_goes_140 rfl ?_
          refine e_if_ne X 154 dX12_goes_143 (by decide) (fun c24 => ?_) (fun c24 => ?_)
          · skip
            rw [if_neg c24] at hB
            refine e_iinc X 1 dX12_goes_154 rfl rfl (by decide) ?_
            obtain ⟨x25, h_x25, hB⟩ := bindT_out hB
            rw [← h_x25]
            refine e_goto X 31 dX12_goes_157 (by decide) ?_
            have hy9 := Option.some.inj hB; change (.inl ((x25, z22))) = y9 at hy9; subst hy9
            exact e_le (ih x25 z22 hF hK) (And.intro rfl (And.intro rfl (And.intro rfl (And.intro rfl (And.intro rfl (trivial))))))
          · skip
            rw [if_pos c24] at hB
            refine e_aload_n X dX12_goes_146 rfl rfl ?_
            refine e_iload X dX12_goes_147 rfl ?_
            refine e_iconst X 4 dX12_goes_149 rfl ?_
            refine e_iconst X 1 dX12_goes_150 rfl ?_
            obtain ⟨z26, h_z26, hB⟩ := obind_out hB
            refine e_callVv X (σ1 := z26) [.int v4, .int 4, .int 1] [] (C_M_told (Cx_gok X) z22 v4 4 1 h_z26) gv_X12_141 yk_X12_told rfl (ent_lt (rfl : entTbl[333]? = some (13, 0))) (ent_at (rfl : entTbl[333]? = some (13, 0)) _) (rfl : vCl[11]? = some (RX12, TX12, 24)) ⟨Nat.le_of_ble_eq_true rfl, Nat.le_of_ble_eq_true rfl⟩ ⟨Nat.le_of_ble_eq_true rfl, Nat.le_of_ble_eq_true rfl⟩ (Nat.le_of_ble_eq_true rfl) dX12_goes_151 rfl ?_
            refine e_iinc X 1 dX12_goes_154 rfl rfl (by decide) ?_
            obtain ⟨x27, h_x27, hB⟩ := bindT_out hB
            rw [← h_x27]
            refine e_goto X 31 dX12_goes_157 (by decide) ?_
            have hy9 := Option.some.inj hB; change (.inl ((x27, z26))) = y9 at hy9; subst hy9
            exact e_le (ih x27 z26 hF hK) (And.intro rfl (And.intro rfl (And.intro rfl (And.intro rfl (And.intro rfl (trivial))))))
      · skip
        rw [if_pos c7] at hB
        refine e_goto X 154 dX12_goes_53 (by decide) ?_
        refine e_iinc X 1 dX12_goes_154 rfl rfl (by decide) ?_
        obtain ⟨x28, h_x28, hB⟩ := bindT_out hB
        rw [← h_x28]
        refine e_goto X 31 dX12_goes_157 (by decide) ?_
        have hy9 := Option.some.inj hB; change (.inl ((x28, σ))) = y9 at hy9; subst hy9
        exact e_le (ih x28 σ hF hK) (And.intro rfl (And.intro rfl (And.intro rfl (And.intro rfl (And.intro rfl (trivial))))))
set_option maxRecDepth 20000 in
set_option maxHeartbeats 4000000 in
theorem L_M_goes_10 (X : Cx p l s m args meth c Γ D s0 RX12 cX12_goes 6) (hr : meth.sig.returnType = (some .int)) (v1 : Int32) (v2 : Int32)  : ∀ (n : Nat) (v3 : Int32) (σ : Mem) {z : Mem}, forSO (fun i s => F_M_goes_10_b v1 v2 i s) n v3 σ = some z → n = cnt v3 v1 → ¬ v3 < 0 → (E p l e ({ frames := 83, cells := 0, slots := 0, locals := 1803 } : Room) s m args below meth c Γ D 0 0 (MQ below (QcA Γ D Pst) args s 0 0 (frB Γ)) z 188 [some (.ref (Γ.1 + 333)), some (.int v1), some (.int v2), none, none, none] []) → E p l e ({ frames := 83, cells := 0, slots := 0, locals := 1803 } : Room) s m args below meth c Γ D 0 0 (MQ below (QcA Γ D Pst) args s 0 0 (frB Γ)) σ 10 [some (.ref (Γ.1 + 333)), some (.int v1), some (.int v2), some (.int v3), none, none] [] := by
  intro n
  induction n with
  | zero =>
    intro v3 σ z hF hn h0 hK
    refine e_iload_n X dX12_goes_10 rfl rfl ?_
    refine e_iload_n X dX12_goes_11 rfl rfl ?_
    refine e_icmp_ge X 188 dX12_goes_12 (by decide) (fun c31 => ?_) (fun c31 => ?_)
    · skip
      have hz9 := Option.some.inj hF; change (σ) = z at hz9; subst hz9
      exact e_le hK (And.intro rfl (And.intro rfl (And.intro rfl (trivial))))
    · skip
      exact absurd c31 (cnt0 hn)
  | succ n ih =>
    intro v3 σ z hF hn h0 hK
    obtain ⟨y9, hB, hF⟩ := forSO_step hF
    change F_M_goes_10_b v1 v2 v3 σ = some y9 at hB
    unfold F_M_goes_10_b at hB
    refine e_iload_n X dX12_goes_10 rfl rfl ?_
    refine e_iload_n X dX12_goes_11 rfl rfl ?_
    refine e_icmp_ge X 188 dX12_goes_12 (by decide) (fun c2 => ?_) (fun c2 => ?_)
    · skip
      exact absurd (cntS hn) c2
    · skip
      refine e_aload_n X dX12_goes_15 rfl rfl ?_
      refine ge_M_m X wf_X12_7 dX12_goes_16 ?_
      refine e_bipush X 9 dX12_goes_19 rfl ?_
      refine e_aload_n X dX12_goes_21 rfl rfl ?_
      refine e_bipush X 10 dX12_goes_22 rfl ?_
      obtain ⟨z3, h_z3, hB⟩ := obind_out hB
      refine e_callVi X (r := z3.2) (σ1 := z3.1) [.int 10] [.int 9, .ref (Γ.1 + 334)] (C_M_draw (Cx_gok X) σ 10 h_z3) gv_X12_278 yk_X12_draw rfl (ent_lt (rfl : entTbl[333]? = some (13, 0))) (ent_at (rfl : entTbl[333]? = some (13, 0)) _) (rfl : vCl[11]? = some (RX12, TX12, 24)) ⟨Nat.le_of_ble_eq_true rfl, Nat.le_of_ble_eq_true rfl⟩ ⟨Nat.le_of_ble_eq_true rfl, Nat.le_of_ble_eq_true rfl⟩ (Nat.le_of_ble_eq_true rfl) dX12_goes_24 rfl ?_
      obtain ⟨σ4, h_σ4, hB⟩ := bindT_out hB
      refine e_iast X (j := 9) rfl rfl (vp_in_iff.mpr (by decide)) rfl dX12_goes_27 h_σ4 ?_
      refine e_iconst X 0 dX12_goes_28 rfl ?_
      refine e_istore X rfl dX12_goes_29 (by decide) ?_
      obtain ⟨z29, h_z29, hB⟩ := obind_out hB
      refine e_le (L_M_goes_31 X hr v1 v2 v3 _ 0 σ4 h_z29 ?_) (And.intro rfl (And.intro rfl (And.intro rfl (And.intro rfl (And.intro rfl (trivial))))))
      refine e_aload_n X dX12_goes_160 rfl rfl ?_
      refine ge_M_m X wf_X12_7 dX12_goes_161 ?_
      refine e_bipush X 8 dX12_goes_164 rfl ?_
      refine e_sipush X 9999 dX12_goes_166 rfl ?_
      refine e_aload_n X dX12_goes_169 rfl rfl ?_
      refine ge_M_m X wf_X12_7 dX12_goes_170 ?_
      refine e_bipush X 8 dX12_goes_173 rfl ?_
      refine e_iald X (j := 8) rfl rfl (vp_in_iff.mpr (by decide)) rfl dX12_goes_175 ?_
      refine e_iconst X 1 dX12_goes_176 rfl ?_
      refine e_iadd X dX12_goes_177 ?_
      refine e_callSi X (r := (F_M_lesser z29.2 9999 (((z29.2 334 8) + 1)))) (σ1 := z29.2) [.int 9999, .int (((z29.2 334 8) + 1))] [.int 8, .ref (Γ.1 + 334)] (C_M_lesser (Cx_gok X) z29.2 9999 (((z29.2 334 8) + 1))) gs_X12_263 yk_X12_lesser rfl ⟨Nat.le_of_ble_eq_true rfl, Nat.le_of_ble_eq_true rfl⟩ ⟨Nat.le_of_ble_eq_true rfl, Nat.le_of_ble_eq_true rfl⟩ (Nat.le_of_ble_eq_true rfl) dX12_goes_178 rfl ?_
      obtain ⟨σ30, h_σ30, hB⟩ := bindT_out hB
      refine e_iast X (j := 8) rfl rfl (vp_in_iff.mpr (by decide)) rfl dX12_goes_181 h_σ30 ?_
      refine e_iinc X 1 dX12_goes_182 rfl rfl (by decide) ?_
      refine e_goto X 10 dX12_goes_185 (by decide) ?_
      have hy9 := Option.some.inj hB; change (σ30) = y9 at hy9; subst hy9
      exact e_le (ih _ σ30 hF (cntN hn) (nnN h0 (cnt_hi hn)) hK) (And.intro rfl (And.intro rfl (And.intro rfl (And.intro rfl (trivial)))))
set_option maxRecDepth 20000 in
set_option maxHeartbeats 4000000 in
theorem C_M_goes (hG : Gok l Γ D s0) (σ : Mem) (v1 : Int32)  {out : Mem × Int32} (hF : F_M_goes σ v1 = some out) : CT l Γ D s0 yX12_goes cX12_goes 6 (some .int) (83) 0 0 (1803) σ [.ref (Γ.1 + 333), .int v1] (PI (some (.int out.2)) out.1) := by
  unfold F_M_goes at hF
  refine e_met (own := RX12) hG (by decide +kernel) rfl rfl (Nat.le_of_ble_eq_true rfl) ?_
  intro p e s m args below meth c X hr
  show E p l e _ s m args below meth c Γ D 0 0 _ σ 0 [some (.ref (Γ.1 + 333)), some (.int v1), none, none, none, none] []
  refine e_aload_n X dX12_goes_0 rfl rfl ?_
  refine ge_M_m X wf_X12_7 dX12_goes_1 ?_
  refine e_bipush X 10 dX12_goes_4 rfl ?_
  refine e_iald X (j := 10) rfl rfl (vp_in_iff.mpr (by decide)) rfl dX12_goes_6 ?_
  obtain ⟨x1, h_x1, hF⟩ := bindT_out hF
  refine e_istore_n X h_x1 dX12_goes_7 rfl (by decide) ?_
  refine e_iconst X 0 dX12_goes_8 rfl ?_
  refine e_istore_n X rfl dX12_goes_9 rfl (by decide) ?_
  obtain ⟨z32, h_z32, hF⟩ := obind_out hF
  refine e_le (L_M_goes_10 X hr v1 x1 _ 0 σ h_z32 rfl (by decide) ?_) (And.intro rfl (And.intro rfl (And.intro rfl (And.intro rfl (trivial)))))
  refine e_aload_n X dX12_goes_188 rfl rfl ?_
  refine ge_M_m X wf_X12_7 dX12_goes_189 ?_
  refine e_bipush X 10 dX12_goes_192 rfl ?_
  refine e_iald X (j := 10) rfl rfl (vp_in_iff.mpr (by decide)) rfl dX12_goes_194 ?_
  refine e_iload_n X dX12_goes_195 rfl rfl ?_
  refine e_isub X dX12_goes_196 ?_
  exact e_iret X hr dX12_goes_197 (Nat.le_of_ble_eq_true rfl) (Nat.le_of_ble_eq_true rfl) (by cases hF; exact ⟨rfl, rfl⟩)
set_option maxRecDepth 20000 in
set_option maxHeartbeats 4000000 in
theorem C_M_match (hG : Gok l Γ D s0) (σ : Mem) (v1 : Int32) (v2 : Int32)  {out : Mem × Int32} (hF : F_M_match σ v1 v2 = some out) : CT l Γ D s0 yX12_match cX12_match 3 (some .int) (82) 0 0 (1781) σ [.ref (Γ.1 + 333), .int v1, .int v2] (PI (some (.int out.2)) out.1) := by
  unfold F_M_match at hF
  refine e_met (own := RX12) hG (by decide +kernel) rfl rfl (Nat.le_of_ble_eq_true rfl) ?_
  intro p e s m args below meth c X hr
  show E p l e _ s m args below meth c Γ D 0 0 _ σ 0 [some (.ref (Γ.1 + 333)), some (.int v1), some (.int v2)] []
  refine e_aload_n X dX12_match_0 rfl rfl ?_
  refine e_aload_n X dX12_match_1 rfl rfl ?_
  refine e_iload_n X dX12_match_2 rfl rfl ?_
  obtain ⟨z1, h_z1, hF⟩ := obind_out hF
  refine e_callVi X (r := z1) (σ1 := σ) [.int v1] [.ref (Γ.1 + 333)] (C_M_isMatch (Cx_gok X) σ v1 h_z1) gv_X12_305 yk_X12_isMatch rfl (ent_lt (rfl : entTbl[333]? = some (13, 0))) (ent_at (rfl : entTbl[333]? = some (13, 0)) _) (rfl : vCl[11]? = some (RX12, TX12, 24)) ⟨Nat.le_of_ble_eq_true rfl, Nat.le_of_ble_eq_true rfl⟩ ⟨Nat.le_of_ble_eq_true rfl, Nat.le_of_ble_eq_true rfl⟩ (Nat.le_of_ble_eq_true rfl) dX12_match_3 rfl ?_
  refine e_if_ne X 13 dX12_match_6 (by decide) (fun c2 => ?_) (fun c2 => ?_)
  · skip
    rw [if_neg c2] at hF
    refine e_iload_n X dX12_match_13 rfl rfl ?_
    refine e_iconst X 0 dX12_match_14 rfl ?_
    refine e_bipush X 6 dX12_match_15 rfl ?_
    refine e_callSi X (r := (F_M_isIn σ v2 0 6)) (σ1 := σ) [.int v2, .int 0, .int 6] [.ref (Γ.1 + 333)] (C_M_isIn (Cx_gok X) σ v2 0 6) gs_X12_54 yk_X12_isIn rfl ⟨Nat.le_of_ble_eq_true rfl, Nat.le_of_ble_eq_true rfl⟩ ⟨Nat.le_of_ble_eq_true rfl, Nat.le_of_ble_eq_true rfl⟩ (Nat.le_of_ble_eq_true rfl) dX12_match_17 rfl ?_
    refine e_if_ne X 27 dX12_match_20 (by decide) (fun c3 => ?_) (fun c3 => ?_)
    · skip
      rw [if_neg c3] at hF
      refine e_iconst X 0 dX12_match_27 rfl ?_
      obtain ⟨σ4, h_σ4, hF⟩ := bindT_out hF
      refine pu_M_thrown X wf_X12_51 dX12_match_28 h_σ4 ?_
      refine e_aload_n X dX12_match_31 rfl rfl ?_
      refine ge_M_thrown X wf_X12_51 dX12_match_32 ?_
      refine e_if_le X 40 dX12_match_35 (by decide) (fun c5 => ?_) (fun c5 => ?_)
      · skip
        rw [if_neg c5] at hF
        refine e_iload_n X dX12_match_40 rfl rfl ?_
        refine e_iconst X 5 dX12_match_41 rfl ?_
        refine e_icmp_ge X 54 dX12_match_42 (by decide) (fun c6 => ?_) (fun c6 => ?_)
        · skip
          rw [if_neg c6] at hF
          refine e_iload_n X dX12_match_54 rfl rfl ?_
          refine e_iconst X 5 dX12_match_55 rfl ?_
          refine e_icmp_ne X 67 dX12_match_56 (by decide) (fun c7 => ?_) (fun c7 => ?_)
          · skip
            rw [if_neg c7] at hF
            refine e_aload_n X dX12_match_67 rfl rfl ?_
            refine e_iload_n X dX12_match_68 rfl rfl ?_
            refine e_aload_n X dX12_match_69 rfl rfl ?_
            refine ge_M_m X wf_X12_7 dX12_match_70 ?_
            refine e_bipush X 9 dX12_match_73 rfl ?_
            refine e_iald X (j := 9) rfl rfl (vp_in_iff.mpr (by decide)) rfl dX12_match_75 ?_
            obtain ⟨z8, h_z8, hF⟩ := obind_out hF
            refine e_callVi X (r := z8.2) (σ1 := z8.1) [.int v1, .int ((σ4 334 9))] [] (C_M_turnsBy (Cx_gok X) σ4 v1 ((σ4 334 9)) h_z8) gv_X12_260 yk_X12_turnsBy rfl (ent_lt (rfl : entTbl[333]? = some (13, 0))) (ent_at (rfl : entTbl[333]? = some (13, 0)) _) (rfl : vCl[11]? = some (RX12, TX12, 24)) ⟨Nat.le_of_ble_eq_true rfl, Nat.le_of_ble_eq_true rfl⟩ ⟨Nat.le_of_ble_eq_true rfl, Nat.le_of_ble_eq_true rfl⟩ (Nat.le_of_ble_eq_true rfl) dX12_match_76 rfl ?_
            exact e_iret X hr dX12_match_79 (Nat.le_of_ble_eq_true rfl) (Nat.le_of_ble_eq_true rfl) (by cases hF; exact ⟨rfl, rfl⟩)
          · skip
            rw [if_pos c7] at hF
            refine e_aload_n X dX12_match_59 rfl rfl ?_
            refine e_iload_n X dX12_match_60 rfl rfl ?_
            obtain ⟨z9, h_z9, hF⟩ := obind_out hF
            refine e_callVi X (r := z9) (σ1 := σ4) [.int v1] [] (C_M_insurers (Cx_gok X) σ4 v1 h_z9) gv_X12_256 yk_X12_insurers rfl (ent_lt (rfl : entTbl[333]? = some (13, 0))) (ent_at (rfl : entTbl[333]? = some (13, 0)) _) (rfl : vCl[11]? = some (RX12, TX12, 24)) ⟨Nat.le_of_ble_eq_true rfl, Nat.le_of_ble_eq_true rfl⟩ ⟨Nat.le_of_ble_eq_true rfl, Nat.le_of_ble_eq_true rfl⟩ (Nat.le_of_ble_eq_true rfl) dX12_match_61 rfl ?_
            refine e_goto X 79 dX12_match_64 (by decide) ?_
            exact e_iret X hr dX12_match_79 (Nat.le_of_ble_eq_true rfl) (Nat.le_of_ble_eq_true rfl) (by cases hF; exact ⟨rfl, rfl⟩)
        · skip
          rw [if_pos c6] at hF
          refine e_aload_n X dX12_match_45 rfl rfl ?_
          refine e_iload_n X dX12_match_46 rfl rfl ?_
          refine e_iload_n X dX12_match_47 rfl rfl ?_
          obtain ⟨z10, h_z10, hF⟩ := obind_out hF
          refine e_callVi X (r := z10) (σ1 := σ4) [.int v1, .int v2] [] (C_M_ofMatch (Cx_gok X) σ4 v1 v2 h_z10) gv_X12_58 yk_X12_ofMatch rfl (ent_lt (rfl : entTbl[333]? = some (13, 0))) (ent_at (rfl : entTbl[333]? = some (13, 0)) _) (rfl : vCl[11]? = some (RX12, TX12, 24)) ⟨Nat.le_of_ble_eq_true rfl, Nat.le_of_ble_eq_true rfl⟩ ⟨Nat.le_of_ble_eq_true rfl, Nat.le_of_ble_eq_true rfl⟩ (Nat.le_of_ble_eq_true rfl) dX12_match_48 rfl ?_
          refine e_goto X 79 dX12_match_51 (by decide) ?_
          exact e_iret X hr dX12_match_79 (Nat.le_of_ble_eq_true rfl) (Nat.le_of_ble_eq_true rfl) (by cases hF; exact ⟨rfl, rfl⟩)
      · skip
        rw [if_pos c5] at hF
        refine e_iconst X 0 dX12_match_38 rfl ?_
        exact e_iret X hr dX12_match_39 (Nat.le_of_ble_eq_true rfl) (Nat.le_of_ble_eq_true rfl) (by cases hF; exact ⟨rfl, rfl⟩)
    · skip
      rw [if_pos c3] at hF
      refine e_iconst X 2 dX12_match_23 rfl ?_
      refine e_goto X 28 dX12_match_24 (by decide) ?_
      obtain ⟨σ11, h_σ11, hF⟩ := bindT_out hF
      refine pu_M_thrown X wf_X12_51 dX12_match_28 h_σ11 ?_
      refine e_aload_n X dX12_match_31 rfl rfl ?_
      refine ge_M_thrown X wf_X12_51 dX12_match_32 ?_
      refine e_if_le X 40 dX12_match_35 (by decide) (fun c12 => ?_) (fun c12 => ?_)
      · skip
        rw [if_neg c12] at hF
        refine e_iload_n X dX12_match_40 rfl rfl ?_
        refine e_iconst X 5 dX12_match_41 rfl ?_
        refine e_icmp_ge X 54 dX12_match_42 (by decide) (fun c13 => ?_) (fun c13 => ?_)
        · skip
          rw [if_neg c13] at hF
          refine e_iload_n X dX12_match_54 rfl rfl ?_
          refine e_iconst X 5 dX12_match_55 rfl ?_
          refine e_icmp_ne X 67 dX12_match_56 (by decide) (fun c14 => ?_) (fun c14 => ?_)
          · skip
            rw [if_neg c14] at hF
            refine e_aload_n X dX12_match_67 rfl rfl ?_
            refine e_iload_n X dX12_match_68 rfl rfl ?_
            refine e_aload_n X dX12_match_69 rfl rfl ?_
            refine ge_M_m X wf_X12_7 dX12_match_70 ?_
            refine e_bipush X 9 dX12_match_73 rfl ?_
            refine e_iald X (j := 9) rfl rfl (vp_in_iff.mpr (by decide)) rfl dX12_match_75 ?_
            obtain ⟨z15, h_z15, hF⟩ := obind_out hF
            refine e_callVi X (r := z15.2) (σ1 := z15.1) [.int v1, .int ((σ11 334 9))] [] (C_M_turnsBy (Cx_gok X) σ11 v1 ((σ11 334 9)) h_z15) gv_X12_260 yk_X12_turnsBy rfl (ent_lt (rfl : entTbl[333]? = some (13, 0))) (ent_at (rfl : entTbl[333]? = some (13, 0)) _) (rfl : vCl[11]? = some (RX12, TX12, 24)) ⟨Nat.le_of_ble_eq_true rfl, Nat.le_of_ble_eq_true rfl⟩ ⟨Nat.le_of_ble_eq_true rfl, Nat.le_of_ble_eq_true rfl⟩ (Nat.le_of_ble_eq_true rfl) dX12_match_76 rfl ?_
            exact e_iret X hr dX12_match_79 (Nat.le_of_ble_eq_true rfl) (Nat.le_of_ble_eq_true rfl) (by cases hF; exact ⟨rfl, rfl⟩)
          · skip
            rw [if_pos c14] at hF
            refine e_aload_n X dX12_match_59 rfl rfl ?_
            refine e_iload_n X dX12_match_60 rfl rfl ?_
            obtain ⟨z16, h_z16, hF⟩ := obind_out hF
            refine e_callVi X (r := z16) (σ1 := σ11) [.int v1] [] (C_M_insurers (Cx_gok X) σ11 v1 h_z16) gv_X12_256 yk_X12_insurers rfl (ent_lt (rfl : entTbl[333]? = some (13, 0))) (ent_at (rfl : entTbl[333]? = some (13, 0)) _) (rfl : vCl[11]? = some (RX12, TX12, 24)) ⟨Nat.le_of_ble_eq_true rfl, Nat.le_of_ble_eq_true rfl⟩ ⟨Nat.le_of_ble_eq_true rfl, Nat.le_of_ble_eq_true rfl⟩ (Nat.le_of_ble_eq_true rfl) dX12_match_61 rfl ?_
            refine e_goto X 79 dX12_match_64 (by decide) ?_
            exact e_iret X hr dX12_match_79 (Nat.le_of_ble_eq_true rfl) (Nat.le_of_ble_eq_true rfl) (by cases hF; exact ⟨rfl, rfl⟩)
        · skip
          rw [if_pos c13] at hF
          refine e_aload_n X dX12_match_45 rfl rfl ?_
          refine e_iload_n X dX12_match_46 rfl rfl ?_
          refine e_iload_n X dX12_match_47 rfl rfl ?_
          obtain ⟨z17, h_z17, hF⟩ := obind_out hF
          refine e_callVi X (r := z17) (σ1 := σ11) [.int v1, .int v2] [] (C_M_ofMatch (Cx_gok X) σ11 v1 v2 h_z17) gv_X12_58 yk_X12_ofMatch rfl (ent_lt (rfl : entTbl[333]? = some (13, 0))) (ent_at (rfl : entTbl[333]? = some (13, 0)) _) (rfl : vCl[11]? = some (RX12, TX12, 24)) ⟨Nat.le_of_ble_eq_true rfl, Nat.le_of_ble_eq_true rfl⟩ ⟨Nat.le_of_ble_eq_true rfl, Nat.le_of_ble_eq_true rfl⟩ (Nat.le_of_ble_eq_true rfl) dX12_match_48 rfl ?_
          refine e_goto X 79 dX12_match_51 (by decide) ?_
          exact e_iret X hr dX12_match_79 (Nat.le_of_ble_eq_true rfl) (Nat.le_of_ble_eq_true rfl) (by cases hF; exact ⟨rfl, rfl⟩)
      · skip
        rw [if_pos c12] at hF
        refine e_iconst X 0 dX12_match_38 rfl ?_
        exact e_iret X hr dX12_match_39 (Nat.le_of_ble_eq_true rfl) (Nat.le_of_ble_eq_true rfl) (by cases hF; exact ⟨rfl, rfl⟩)
  · skip
    rw [if_pos c2] at hF
    refine e_iconst X 1 dX12_match_9 rfl ?_
    refine e_goto X 28 dX12_match_10 (by decide) ?_
    obtain ⟨σ18, h_σ18, hF⟩ := bindT_out hF
    refine pu_M_thrown X wf_X12_51 dX12_match_28 h_σ18 ?_
    refine e_aload_n X dX12_match_31 rfl rfl ?_
    refine ge_M_thrown X wf_X12_51 dX12_match_32 ?_
    refine e_if_le X 40 dX12_match_35 (by decide) (fun c19 => ?_) (fun c19 => ?_)
    · skip
      rw [if_neg c19] at hF
      refine e_iload_n X dX12_match_40 rfl rfl ?_
      refine e_iconst X 5 dX12_match_41 rfl ?_
      refine e_icmp_ge X 54 dX12_match_42 (by decide) (fun c20 => ?_) (fun c20 => ?_)
      · skip
        rw [if_neg c20] at hF
        refine e_iload_n X dX12_match_54 rfl rfl ?_
        refine e_iconst X 5 dX12_match_55 rfl ?_
        refine e_icmp_ne X 67 dX12_match_56 (by decide) (fun c21 => ?_) (fun c21 => ?_)
        · skip
          rw [if_neg c21] at hF
          refine e_aload_n X dX12_match_67 rfl rfl ?_
          refine e_iload_n X dX12_match_68 rfl rfl ?_
          refine e_aload_n X dX12_match_69 rfl rfl ?_
          refine ge_M_m X wf_X12_7 dX12_match_70 ?_
          refine e_bipush X 9 dX12_match_73 rfl ?_
          refine e_iald X (j := 9) rfl rfl (vp_in_iff.mpr (by decide)) rfl dX12_match_75 ?_
          obtain ⟨z22, h_z22, hF⟩ := obind_out hF
          refine e_callVi X (r := z22.2) (σ1 := z22.1) [.int v1, .int ((σ18 334 9))] [] (C_M_turnsBy (Cx_gok X) σ18 v1 ((σ18 334 9)) h_z22) gv_X12_260 yk_X12_turnsBy rfl (ent_lt (rfl : entTbl[333]? = some (13, 0))) (ent_at (rfl : entTbl[333]? = some (13, 0)) _) (rfl : vCl[11]? = some (RX12, TX12, 24)) ⟨Nat.le_of_ble_eq_true rfl, Nat.le_of_ble_eq_true rfl⟩ ⟨Nat.le_of_ble_eq_true rfl, Nat.le_of_ble_eq_true rfl⟩ (Nat.le_of_ble_eq_true rfl) dX12_match_76 rfl ?_
          exact e_iret X hr dX12_match_79 (Nat.le_of_ble_eq_true rfl) (Nat.le_of_ble_eq_true rfl) (by cases hF; exact ⟨rfl, rfl⟩)
        · skip
          rw [if_pos c21] at hF
          refine e_aload_n X dX12_match_59 rfl rfl ?_
          refine e_iload_n X dX12_match_60 rfl rfl ?_
          obtain ⟨z23, h_z23, hF⟩ := obind_out hF
          refine e_callVi X (r := z23) (σ1 := σ18) [.int v1] [] (C_M_insurers (Cx_gok X) σ18 v1 h_z23) gv_X12_256 yk_X12_insurers rfl (ent_lt (rfl : entTbl[333]? = some (13, 0))) (ent_at (rfl : entTbl[333]? = some (13, 0)) _) (rfl : vCl[11]? = some (RX12, TX12, 24)) ⟨Nat.le_of_ble_eq_true rfl, Nat.le_of_ble_eq_true rfl⟩ ⟨Nat.le_of_ble_eq_true rfl, Nat.le_of_ble_eq_true rfl⟩ (Nat.le_of_ble_eq_true rfl) dX12_match_61 rfl ?_
          refine e_goto X 79 dX12_match_64 (by decide) ?_
          exact e_iret X hr dX12_match_79 (Nat.le_of_ble_eq_true rfl) (Nat.le_of_ble_eq_true rfl) (by cases hF; exact ⟨rfl, rfl⟩)
      · skip
        rw [if_pos c20] at hF
        refine e_aload_n X dX12_match_45 rfl rfl ?_
        refine e_iload_n X dX12_match_46 rfl rfl ?_
        refine e_iload_n X dX12_match_47 rfl rfl ?_
        obtain ⟨z24, h_z24, hF⟩ := obind_out hF
        refine e_callVi X (r := z24) (σ1 := σ18) [.int v1, .int v2] [] (C_M_ofMatch (Cx_gok X) σ18 v1 v2 h_z24) gv_X12_58 yk_X12_ofMatch rfl (ent_lt (rfl : entTbl[333]? = some (13, 0))) (ent_at (rfl : entTbl[333]? = some (13, 0)) _) (rfl : vCl[11]? = some (RX12, TX12, 24)) ⟨Nat.le_of_ble_eq_true rfl, Nat.le_of_ble_eq_true rfl⟩ ⟨Nat.le_of_ble_eq_true rfl, Nat.le_of_ble_eq_true rfl⟩ (Nat.le_of_ble_eq_true rfl) dX12_match_48 rfl ?_
        refine e_goto X 79 dX12_match_51 (by decide) ?_
        exact e_iret X hr dX12_match_79 (Nat.le_of_ble_eq_true rfl) (Nat.le_of_ble_eq_true rfl) (by cases hF; exact ⟨rfl, rfl⟩)
    · skip
      rw [if_pos c19] at hF
      refine e_iconst X 0 dX12_match_38 rfl ?_
      exact e_iret X hr dX12_match_39 (Nat.le_of_ble_eq_true rfl) (Nat.le_of_ble_eq_true rfl) (by cases hF; exact ⟨rfl, rfl⟩)
set_option maxRecDepth 20000 in
set_option maxHeartbeats 4000000 in
theorem C_M_months (hG : Gok l Γ D s0) (σ : Mem) (v1 : Int32)  {out : Mem × Int32} (hF : F_M_months σ v1 = some out) : CT l Γ D s0 yX12_months cX12_months 2 (some .int) (84) 0 0 (1828) σ [.ref (Γ.1 + 333), .int v1] (PI (some (.int out.2)) out.1) := by
  unfold F_M_months at hF
  refine e_met (own := RX12) hG (by decide +kernel) rfl rfl (Nat.le_of_ble_eq_true rfl) ?_
  intro p e s m args below meth c X hr
  show E p l e _ s m args below meth c Γ D 0 0 _ σ 0 [some (.ref (Γ.1 + 333)), some (.int v1)] []
  refine e_aload_n X dX12_months_0 rfl rfl ?_
  refine e_iload_n X dX12_months_1 rfl rfl ?_
  refine e_iconst X 1 dX12_months_2 rfl ?_
  refine e_bipush X 60 dX12_months_3 rfl ?_
  refine e_callSi X (r := (F_M_isIn σ v1 1 60)) (σ1 := σ) [.int v1, .int 1, .int 60] [.ref (Γ.1 + 333)] (C_M_isIn (Cx_gok X) σ v1 1 60) gs_X12_54 yk_X12_isIn rfl ⟨Nat.le_of_ble_eq_true rfl, Nat.le_of_ble_eq_true rfl⟩ ⟨Nat.le_of_ble_eq_true rfl, Nat.le_of_ble_eq_true rfl⟩ (Nat.le_of_ble_eq_true rfl) dX12_months_5 rfl ?_
  refine e_if_ne X 15 dX12_months_8 (by decide) (fun c1 => ?_) (fun c1 => ?_)
  · skip
    rw [if_neg c1] at hF
    refine e_iconst X 0 dX12_months_15 rfl ?_
    obtain ⟨σ2, h_σ2, hF⟩ := bindT_out hF
    refine pu_M_thrown X wf_X12_51 dX12_months_16 h_σ2 ?_
    refine e_aload_n X dX12_months_19 rfl rfl ?_
    refine ge_M_thrown X wf_X12_51 dX12_months_20 ?_
    refine e_if_le X 28 dX12_months_23 (by decide) (fun c3 => ?_) (fun c3 => ?_)
    · skip
      rw [if_neg c3] at hF
      refine e_aload_n X dX12_months_28 rfl rfl ?_
      obtain ⟨z4, h_z4, hF⟩ := obind_out hF
      refine e_callVv X (σ1 := z4) [] [] (C_M_remembers (Cx_gok X) σ2 h_z4) gv_X12_308 yk_X12_remembers rfl (ent_lt (rfl : entTbl[333]? = some (13, 0))) (ent_at (rfl : entTbl[333]? = some (13, 0)) _) (rfl : vCl[11]? = some (RX12, TX12, 24)) ⟨Nat.le_of_ble_eq_true rfl, Nat.le_of_ble_eq_true rfl⟩ ⟨Nat.le_of_ble_eq_true rfl, Nat.le_of_ble_eq_true rfl⟩ (Nat.le_of_ble_eq_true rfl) dX12_months_29 rfl ?_
      refine e_aload_n X dX12_months_32 rfl rfl ?_
      refine e_iload_n X dX12_months_33 rfl rfl ?_
      obtain ⟨z5, h_z5, hF⟩ := obind_out hF
      refine e_callVi X (r := z5.2) (σ1 := z5.1) [.int v1] [] (C_M_goes (Cx_gok X) z4 v1 h_z5) gv_X12_314 yk_X12_goes rfl (ent_lt (rfl : entTbl[333]? = some (13, 0))) (ent_at (rfl : entTbl[333]? = some (13, 0)) _) (rfl : vCl[11]? = some (RX12, TX12, 24)) ⟨Nat.le_of_ble_eq_true rfl, Nat.le_of_ble_eq_true rfl⟩ ⟨Nat.le_of_ble_eq_true rfl, Nat.le_of_ble_eq_true rfl⟩ (Nat.le_of_ble_eq_true rfl) dX12_months_34 rfl ?_
      exact e_iret X hr dX12_months_37 (Nat.le_of_ble_eq_true rfl) (Nat.le_of_ble_eq_true rfl) (by cases hF; exact ⟨rfl, rfl⟩)
    · skip
      rw [if_pos c3] at hF
      refine e_iconst X 0 dX12_months_26 rfl ?_
      exact e_iret X hr dX12_months_27 (Nat.le_of_ble_eq_true rfl) (Nat.le_of_ble_eq_true rfl) (by cases hF; exact ⟨rfl, rfl⟩)
  · skip
    rw [if_pos c1] at hF
    refine e_iconst X 1 dX12_months_11 rfl ?_
    refine e_goto X 16 dX12_months_12 (by decide) ?_
    obtain ⟨σ6, h_σ6, hF⟩ := bindT_out hF
    refine pu_M_thrown X wf_X12_51 dX12_months_16 h_σ6 ?_
    refine e_aload_n X dX12_months_19 rfl rfl ?_
    refine ge_M_thrown X wf_X12_51 dX12_months_20 ?_
    refine e_if_le X 28 dX12_months_23 (by decide) (fun c7 => ?_) (fun c7 => ?_)
    · skip
      rw [if_neg c7] at hF
      refine e_aload_n X dX12_months_28 rfl rfl ?_
      obtain ⟨z8, h_z8, hF⟩ := obind_out hF
      refine e_callVv X (σ1 := z8) [] [] (C_M_remembers (Cx_gok X) σ6 h_z8) gv_X12_308 yk_X12_remembers rfl (ent_lt (rfl : entTbl[333]? = some (13, 0))) (ent_at (rfl : entTbl[333]? = some (13, 0)) _) (rfl : vCl[11]? = some (RX12, TX12, 24)) ⟨Nat.le_of_ble_eq_true rfl, Nat.le_of_ble_eq_true rfl⟩ ⟨Nat.le_of_ble_eq_true rfl, Nat.le_of_ble_eq_true rfl⟩ (Nat.le_of_ble_eq_true rfl) dX12_months_29 rfl ?_
      refine e_aload_n X dX12_months_32 rfl rfl ?_
      refine e_iload_n X dX12_months_33 rfl rfl ?_
      obtain ⟨z9, h_z9, hF⟩ := obind_out hF
      refine e_callVi X (r := z9.2) (σ1 := z9.1) [.int v1] [] (C_M_goes (Cx_gok X) z8 v1 h_z9) gv_X12_314 yk_X12_goes rfl (ent_lt (rfl : entTbl[333]? = some (13, 0))) (ent_at (rfl : entTbl[333]? = some (13, 0)) _) (rfl : vCl[11]? = some (RX12, TX12, 24)) ⟨Nat.le_of_ble_eq_true rfl, Nat.le_of_ble_eq_true rfl⟩ ⟨Nat.le_of_ble_eq_true rfl, Nat.le_of_ble_eq_true rfl⟩ (Nat.le_of_ble_eq_true rfl) dX12_months_34 rfl ?_
      exact e_iret X hr dX12_months_37 (Nat.le_of_ble_eq_true rfl) (Nat.le_of_ble_eq_true rfl) (by cases hF; exact ⟨rfl, rfl⟩)
    · skip
      rw [if_pos c7] at hF
      refine e_iconst X 0 dX12_months_26 rfl ?_
      exact e_iret X hr dX12_months_27 (Nat.le_of_ble_eq_true rfl) (Nat.le_of_ble_eq_true rfl) (by cases hF; exact ⟨rfl, rfl⟩)
set_option maxRecDepth 20000 in
set_option maxHeartbeats 4000000 in
theorem C_M_next (hG : Gok l Γ D s0) (σ : Mem) (v1 : Int32) (v2 : Int32)  {out : Mem × Int32} (hF : F_M_next σ v1 v2 = some out) : CT l Γ D s0 yX12_next cX12_next 3 (some .int) (83) 0 0 (1803) σ [.ref (Γ.1 + 333), .int v1, .int v2] (PI (some (.int out.2)) out.1) := by
  unfold F_M_next at hF
  refine e_met (own := RX12) hG (by decide +kernel) rfl rfl (Nat.le_of_ble_eq_true rfl) ?_
  intro p e s m args below meth c X hr
  show E p l e _ s m args below meth c Γ D 0 0 _ σ 0 [some (.ref (Γ.1 + 333)), some (.int v1), some (.int v2)] []
  refine e_aload_n X dX12_next_0 rfl rfl ?_
  refine e_aload_n X dX12_next_1 rfl rfl ?_
  refine e_iload_n X dX12_next_2 rfl rfl ?_
  refine e_iconst X 0 dX12_next_3 rfl ?_
  refine e_iconst X 0 dX12_next_4 rfl ?_
  refine e_iload_n X dX12_next_5 rfl rfl ?_
  obtain ⟨z1, h_z1, hF⟩ := obind_out hF
  refine e_callVi X (r := z1) (σ1 := σ) [.int v1, .int 0, .int 0, .int v2] [.ref (Γ.1 + 333)] (C_M_badMatch (Cx_gok X) σ v1 0 0 v2 h_z1) gv_X12_317 yk_X12_badMatch rfl (ent_lt (rfl : entTbl[333]? = some (13, 0))) (ent_at (rfl : entTbl[333]? = some (13, 0)) _) (rfl : vCl[11]? = some (RX12, TX12, 24)) ⟨Nat.le_of_ble_eq_true rfl, Nat.le_of_ble_eq_true rfl⟩ ⟨Nat.le_of_ble_eq_true rfl, Nat.le_of_ble_eq_true rfl⟩ (Nat.le_of_ble_eq_true rfl) dX12_next_6 rfl ?_
  obtain ⟨σ2, h_σ2, hF⟩ := bindT_out hF
  refine pu_M_thrown X wf_X12_51 dX12_next_9 h_σ2 ?_
  refine e_aload_n X dX12_next_12 rfl rfl ?_
  refine ge_M_thrown X wf_X12_51 dX12_next_13 ?_
  refine e_if_gt X 29 dX12_next_16 (by decide) (fun c3 => ?_) (fun c3 => ?_)
  · skip
    rw [if_pos c3] at hF
    refine e_iconst X 0 dX12_next_29 rfl ?_
    refine e_goto X 39 dX12_next_30 (by decide) ?_
    exact e_iret X hr dX12_next_39 (Nat.le_of_ble_eq_true rfl) (Nat.le_of_ble_eq_true rfl) (by cases hF; exact ⟨rfl, rfl⟩)
  · skip
    rw [if_neg c3] at hF
    refine e_aload_n X dX12_next_19 rfl rfl ?_
    refine e_iload_n X dX12_next_20 rfl rfl ?_
    refine e_iconst X 4 dX12_next_21 rfl ?_
    obtain ⟨z4, h_z4, hF⟩ := obind_out hF
    refine e_callVi X (r := z4) (σ1 := σ2) [.int v1, .int 4] [] (C_M_ofMatch (Cx_gok X) σ2 v1 4 h_z4) gv_X12_58 yk_X12_ofMatch rfl (ent_lt (rfl : entTbl[333]? = some (13, 0))) (ent_at (rfl : entTbl[333]? = some (13, 0)) _) (rfl : vCl[11]? = some (RX12, TX12, 24)) ⟨Nat.le_of_ble_eq_true rfl, Nat.le_of_ble_eq_true rfl⟩ ⟨Nat.le_of_ble_eq_true rfl, Nat.le_of_ble_eq_true rfl⟩ (Nat.le_of_ble_eq_true rfl) dX12_next_22 rfl ?_
    refine e_iconst X 1 dX12_next_25 rfl ?_
    refine e_icmp_ne X 33 dX12_next_26 (by decide) (fun c5 => ?_) (fun c5 => ?_)
    · skip
      rw [if_neg c5] at hF
      refine e_aload_n X dX12_next_33 rfl rfl ?_
      refine e_iload_n X dX12_next_34 rfl rfl ?_
      refine e_iload_n X dX12_next_35 rfl rfl ?_
      obtain ⟨z6, h_z6, hF⟩ := obind_out hF
      refine e_callVi X (r := z6.2) (σ1 := z6.1) [.int v1, .int v2] [] (C_M_nextOf (Cx_gok X) σ2 v1 v2 h_z6) gv_X12_284 yk_X12_nextOf rfl (ent_lt (rfl : entTbl[333]? = some (13, 0))) (ent_at (rfl : entTbl[333]? = some (13, 0)) _) (rfl : vCl[11]? = some (RX12, TX12, 24)) ⟨Nat.le_of_ble_eq_true rfl, Nat.le_of_ble_eq_true rfl⟩ ⟨Nat.le_of_ble_eq_true rfl, Nat.le_of_ble_eq_true rfl⟩ (Nat.le_of_ble_eq_true rfl) dX12_next_36 rfl ?_
      exact e_iret X hr dX12_next_39 (Nat.le_of_ble_eq_true rfl) (Nat.le_of_ble_eq_true rfl) (by cases hF; exact ⟨rfl, rfl⟩)
    · skip
      rw [if_pos c5] at hF
      refine e_iconst X 0 dX12_next_29 rfl ?_
      refine e_goto X 39 dX12_next_30 (by decide) ?_
      exact e_iret X hr dX12_next_39 (Nat.le_of_ble_eq_true rfl) (Nat.le_of_ble_eq_true rfl) (by cases hF; exact ⟨rfl, rfl⟩)
set_option maxRecDepth 20000 in
set_option maxHeartbeats 4000000 in
theorem C_M_passes (hG : Gok l Γ D s0) (σ : Mem) (v1 : Int32) (v2 : Int32)  {out : Mem} (hF : F_M_passes σ v1 v2 = some out) : CT l Γ D s0 yX12_passes cX12_passes 3 none (83) 0 0 (1803) σ [.ref (Γ.1 + 333), .int v1, .int v2] (PI none out) := by
  unfold F_M_passes at hF
  refine e_met (own := RX12) hG (by decide +kernel) rfl rfl (Nat.le_of_ble_eq_true rfl) ?_
  intro p e s m args below meth c X hr
  show E p l e _ s m args below meth c Γ D 0 0 _ σ 0 [some (.ref (Γ.1 + 333)), some (.int v1), some (.int v2)] []
  refine e_aload_n X dX12_passes_0 rfl rfl ?_
  refine e_iload_n X dX12_passes_1 rfl rfl ?_
  refine e_iconst X 2 dX12_passes_2 rfl ?_
  obtain ⟨z1, h_z1, hF⟩ := obind_out hF
  refine e_callVi X (r := z1) (σ1 := σ) [.int v1, .int 2] [] (C_M_ofMatch (Cx_gok X) σ v1 2 h_z1) gv_X12_58 yk_X12_ofMatch rfl (ent_lt (rfl : entTbl[333]? = some (13, 0))) (ent_at (rfl : entTbl[333]? = some (13, 0)) _) (rfl : vCl[11]? = some (RX12, TX12, 24)) ⟨Nat.le_of_ble_eq_true rfl, Nat.le_of_ble_eq_true rfl⟩ ⟨Nat.le_of_ble_eq_true rfl, Nat.le_of_ble_eq_true rfl⟩ (Nat.le_of_ble_eq_true rfl) dX12_passes_3 rfl ?_
  refine e_if_le X 21 dX12_passes_6 (by decide) (fun c2 => ?_) (fun c2 => ?_)
  · skip
    rw [if_neg c2] at hF
    refine e_aload_n X dX12_passes_21 rfl rfl ?_
    refine e_iload_n X dX12_passes_22 rfl rfl ?_
    refine e_iconst X 3 dX12_passes_23 rfl ?_
    refine e_aload_n X dX12_passes_24 rfl rfl ?_
    refine e_iload_n X dX12_passes_25 rfl rfl ?_
    refine e_iconst X 3 dX12_passes_26 rfl ?_
    obtain ⟨z3, h_z3, hF⟩ := obind_out hF
    refine e_callVi X (r := z3) (σ1 := σ) [.int v1, .int 3] [.int 3, .int v1, .ref (Γ.1 + 333)] (C_M_ofMatch (Cx_gok X) σ v1 3 h_z3) gv_X12_58 yk_X12_ofMatch rfl (ent_lt (rfl : entTbl[333]? = some (13, 0))) (ent_at (rfl : entTbl[333]? = some (13, 0)) _) (rfl : vCl[11]? = some (RX12, TX12, 24)) ⟨Nat.le_of_ble_eq_true rfl, Nat.le_of_ble_eq_true rfl⟩ ⟨Nat.le_of_ble_eq_true rfl, Nat.le_of_ble_eq_true rfl⟩ (Nat.le_of_ble_eq_true rfl) dX12_passes_27 rfl ?_
    refine e_iconst X 1 dX12_passes_30 rfl ?_
    refine e_iadd X dX12_passes_31 ?_
    obtain ⟨z4, h_z4, hF⟩ := obind_out hF
    refine e_callVv X (σ1 := z4) [.int v1, .int 3, .int ((z3 + 1))] [] (C_M_told (Cx_gok X) σ v1 3 ((z3 + 1)) h_z4) gv_X12_141 yk_X12_told rfl (ent_lt (rfl : entTbl[333]? = some (13, 0))) (ent_at (rfl : entTbl[333]? = some (13, 0)) _) (rfl : vCl[11]? = some (RX12, TX12, 24)) ⟨Nat.le_of_ble_eq_true rfl, Nat.le_of_ble_eq_true rfl⟩ ⟨Nat.le_of_ble_eq_true rfl, Nat.le_of_ble_eq_true rfl⟩ (Nat.le_of_ble_eq_true rfl) dX12_passes_32 rfl ?_
    refine e_aload_n X dX12_passes_35 rfl rfl ?_
    refine ge_M_m X wf_X12_7 dX12_passes_36 ?_
    refine e_bipush X 8 dX12_passes_39 rfl ?_
    refine e_sipush X 9999 dX12_passes_41 rfl ?_
    refine e_aload_n X dX12_passes_44 rfl rfl ?_
    refine ge_M_m X wf_X12_7 dX12_passes_45 ?_
    refine e_bipush X 8 dX12_passes_48 rfl ?_
    refine e_iald X (j := 8) rfl rfl (vp_in_iff.mpr (by decide)) rfl dX12_passes_50 ?_
    refine e_iconst X 1 dX12_passes_51 rfl ?_
    refine e_iadd X dX12_passes_52 ?_
    refine e_callSi X (r := (F_M_lesser z4 9999 (((z4 334 8) + 1)))) (σ1 := z4) [.int 9999, .int (((z4 334 8) + 1))] [.int 8, .ref (Γ.1 + 334)] (C_M_lesser (Cx_gok X) z4 9999 (((z4 334 8) + 1))) gs_X12_263 yk_X12_lesser rfl ⟨Nat.le_of_ble_eq_true rfl, Nat.le_of_ble_eq_true rfl⟩ ⟨Nat.le_of_ble_eq_true rfl, Nat.le_of_ble_eq_true rfl⟩ (Nat.le_of_ble_eq_true rfl) dX12_passes_53 rfl ?_
    obtain ⟨σ5, h_σ5, hF⟩ := bindT_out hF
    refine e_iast X (j := 8) rfl rfl (vp_in_iff.mpr (by decide)) rfl dX12_passes_56 h_σ5 ?_
    exact e_vret X hr dX12_passes_57 (Nat.le_of_ble_eq_true rfl) (Nat.le_of_ble_eq_true rfl) (by cases hF; exact ⟨rfl, rfl⟩)
  · skip
    rw [if_pos c2] at hF
    refine e_aload_n X dX12_passes_9 rfl rfl ?_
    refine e_iload_n X dX12_passes_10 rfl rfl ?_
    refine e_iconst X 2 dX12_passes_11 rfl ?_
    refine e_aload_n X dX12_passes_12 rfl rfl ?_
    refine e_iload_n X dX12_passes_13 rfl rfl ?_
    refine e_iload_n X dX12_passes_14 rfl rfl ?_
    obtain ⟨z6, h_z6, hF⟩ := obind_out hF
    refine e_callVi X (r := z6.2) (σ1 := z6.1) [.int v1, .int v2] [.int 2, .int v1, .ref (Γ.1 + 333)] (C_M_nextOf (Cx_gok X) σ v1 v2 h_z6) gv_X12_284 yk_X12_nextOf rfl (ent_lt (rfl : entTbl[333]? = some (13, 0))) (ent_at (rfl : entTbl[333]? = some (13, 0)) _) (rfl : vCl[11]? = some (RX12, TX12, 24)) ⟨Nat.le_of_ble_eq_true rfl, Nat.le_of_ble_eq_true rfl⟩ ⟨Nat.le_of_ble_eq_true rfl, Nat.le_of_ble_eq_true rfl⟩ (Nat.le_of_ble_eq_true rfl) dX12_passes_15 rfl ?_
    obtain ⟨z7, h_z7, hF⟩ := obind_out hF
    refine e_callVv X (σ1 := z7) [.int v1, .int 2, .int z6.2] [] (C_M_told (Cx_gok X) z6.1 v1 2 z6.2 h_z7) gv_X12_141 yk_X12_told rfl (ent_lt (rfl : entTbl[333]? = some (13, 0))) (ent_at (rfl : entTbl[333]? = some (13, 0)) _) (rfl : vCl[11]? = some (RX12, TX12, 24)) ⟨Nat.le_of_ble_eq_true rfl, Nat.le_of_ble_eq_true rfl⟩ ⟨Nat.le_of_ble_eq_true rfl, Nat.le_of_ble_eq_true rfl⟩ (Nat.le_of_ble_eq_true rfl) dX12_passes_18 rfl ?_
    refine e_aload_n X dX12_passes_21 rfl rfl ?_
    refine e_iload_n X dX12_passes_22 rfl rfl ?_
    refine e_iconst X 3 dX12_passes_23 rfl ?_
    refine e_aload_n X dX12_passes_24 rfl rfl ?_
    refine e_iload_n X dX12_passes_25 rfl rfl ?_
    refine e_iconst X 3 dX12_passes_26 rfl ?_
    obtain ⟨z8, h_z8, hF⟩ := obind_out hF
    refine e_callVi X (r := z8) (σ1 := z7) [.int v1, .int 3] [.int 3, .int v1, .ref (Γ.1 + 333)] (C_M_ofMatch (Cx_gok X) z7 v1 3 h_z8) gv_X12_58 yk_X12_ofMatch rfl (ent_lt (rfl : entTbl[333]? = some (13, 0))) (ent_at (rfl : entTbl[333]? = some (13, 0)) _) (rfl : vCl[11]? = some (RX12, TX12, 24)) ⟨Nat.le_of_ble_eq_true rfl, Nat.le_of_ble_eq_true rfl⟩ ⟨Nat.le_of_ble_eq_true rfl, Nat.le_of_ble_eq_true rfl⟩ (Nat.le_of_ble_eq_true rfl) dX12_passes_27 rfl ?_
    refine e_iconst X 1 dX12_passes_30 rfl ?_
    refine e_iadd X dX12_passes_31 ?_
    obtain ⟨z9, h_z9, hF⟩ := obind_out hF
    refine e_callVv X (σ1 := z9) [.int v1, .int 3, .int ((z8 + 1))] [] (C_M_told (Cx_gok X) z7 v1 3 ((z8 + 1)) h_z9) gv_X12_141 yk_X12_told rfl (ent_lt (rfl : entTbl[333]? = some (13, 0))) (ent_at (rfl : entTbl[333]? = some (13, 0)) _) (rfl : vCl[11]? = some (RX12, TX12, 24)) ⟨Nat.le_of_ble_eq_true rfl, Nat.le_of_ble_eq_true rfl⟩ ⟨Nat.le_of_ble_eq_true rfl, Nat.le_of_ble_eq_true rfl⟩ (Nat.le_of_ble_eq_true rfl) dX12_passes_32 rfl ?_
    refine e_aload_n X dX12_passes_35 rfl rfl ?_
    refine ge_M_m X wf_X12_7 dX12_passes_36 ?_
    refine e_bipush X 8 dX12_passes_39 rfl ?_
    refine e_sipush X 9999 dX12_passes_41 rfl ?_
    refine e_aload_n X dX12_passes_44 rfl rfl ?_
    refine ge_M_m X wf_X12_7 dX12_passes_45 ?_
    refine e_bipush X 8 dX12_passes_48 rfl ?_
    refine e_iald X (j := 8) rfl rfl (vp_in_iff.mpr (by decide)) rfl dX12_passes_50 ?_
    refine e_iconst X 1 dX12_passes_51 rfl ?_
    refine e_iadd X dX12_passes_52 ?_
    refine e_callSi X (r := (F_M_lesser z9 9999 (((z9 334 8) + 1)))) (σ1 := z9) [.int 9999, .int (((z9 334 8) + 1))] [.int 8, .ref (Γ.1 + 334)] (C_M_lesser (Cx_gok X) z9 9999 (((z9 334 8) + 1))) gs_X12_263 yk_X12_lesser rfl ⟨Nat.le_of_ble_eq_true rfl, Nat.le_of_ble_eq_true rfl⟩ ⟨Nat.le_of_ble_eq_true rfl, Nat.le_of_ble_eq_true rfl⟩ (Nat.le_of_ble_eq_true rfl) dX12_passes_53 rfl ?_
    obtain ⟨σ10, h_σ10, hF⟩ := bindT_out hF
    refine e_iast X (j := 8) rfl rfl (vp_in_iff.mpr (by decide)) rfl dX12_passes_56 h_σ10 ?_
    exact e_vret X hr dX12_passes_57 (Nat.le_of_ble_eq_true rfl) (Nat.le_of_ble_eq_true rfl) (by cases hF; exact ⟨rfl, rfl⟩)
set_option maxRecDepth 20000 in
set_option maxHeartbeats 4000000 in
theorem L_M_ahead_39 (X : Cx p l s m args meth c Γ D s0 RX12 cX12_ahead 5) (hr : meth.sig.returnType = (some .int)) (v1 : Int32) (v2 : Int32) (v3 : Int32)  : ∀ (n : Nat) (v4 : Int32) (σ : Mem) {z : Mem}, forSO (fun i s => F_M_ahead_39_b v1 v2 v3 i s) n v4 σ = some z → n = cnt v4 v2 → ¬ v4 < 0 → (E p l e ({ frames := 84, cells := 0, slots := 0, locals := 1825 } : Room) s m args below meth c Γ D 0 0 (MQ below (QcA Γ D Pst) args s 0 0 (frB Γ)) z 57 [some (.ref (Γ.1 + 333)), some (.int v1), some (.int v2), some (.int v3), none] []) → E p l e ({ frames := 84, cells := 0, slots := 0, locals := 1825 } : Room) s m args below meth c Γ D 0 0 (MQ below (QcA Γ D Pst) args s 0 0 (frB Γ)) σ 39 [some (.ref (Γ.1 + 333)), some (.int v1), some (.int v2), some (.int v3), some (.int v4)] [] := by
  intro n
  induction n with
  | zero =>
    intro v4 σ z hF hn h0 hK
    refine e_iload X dX12_ahead_39 rfl ?_
    refine e_iload_n X dX12_ahead_41 rfl rfl ?_
    refine e_icmp_ge X 57 dX12_ahead_42 (by decide) (fun c9 => ?_) (fun c9 => ?_)
    · skip
      have hz9 := Option.some.inj hF; change (σ) = z at hz9; subst hz9
      exact e_le hK (And.intro rfl (And.intro rfl (And.intro rfl (And.intro rfl (trivial)))))
    · skip
      exact absurd c9 (cnt0 hn)
  | succ n ih =>
    intro v4 σ z hF hn h0 hK
    obtain ⟨y9, hB, hF⟩ := forSO_step hF
    change F_M_ahead_39_b v1 v2 v3 v4 σ = some y9 at hB
    unfold F_M_ahead_39_b at hB
    refine e_iload X dX12_ahead_39 rfl ?_
    refine e_iload_n X dX12_ahead_41 rfl rfl ?_
    refine e_icmp_ge X 57 dX12_ahead_42 (by decide) (fun c7 => ?_) (fun c7 => ?_)
    · skip
      exact absurd (cntS hn) c7
    · skip
      refine e_aload_n X dX12_ahead_45 rfl rfl ?_
      refine e_iload_n X dX12_ahead_46 rfl rfl ?_
      refine e_iload_n X dX12_ahead_47 rfl rfl ?_
      obtain ⟨z8, h_z8, hB⟩ := obind_out hB
      refine e_callVv X (σ1 := z8) [.int v1, .int v3] [] (C_M_passes (Cx_gok X) σ v1 v3 h_z8) gv_X12_321 yk_X12_passes rfl (ent_lt (rfl : entTbl[333]? = some (13, 0))) (ent_at (rfl : entTbl[333]? = some (13, 0)) _) (rfl : vCl[11]? = some (RX12, TX12, 24)) ⟨Nat.le_of_ble_eq_true rfl, Nat.le_of_ble_eq_true rfl⟩ ⟨Nat.le_of_ble_eq_true rfl, Nat.le_of_ble_eq_true rfl⟩ (Nat.le_of_ble_eq_true rfl) dX12_ahead_48 rfl ?_
      refine e_iinc X 1 dX12_ahead_51 rfl rfl (by decide) ?_
      refine e_goto X 39 dX12_ahead_54 (by decide) ?_
      have hy9 := Option.some.inj hB; change (z8) = y9 at hy9; subst hy9
      exact e_le (ih _ z8 hF (cntN hn) (nnN h0 (cnt_hi hn)) hK) (And.intro rfl (And.intro rfl (And.intro rfl (And.intro rfl (And.intro rfl (trivial))))))
set_option maxRecDepth 20000 in
set_option maxHeartbeats 4000000 in
theorem C_M_ahead (hG : Gok l Γ D s0) (σ : Mem) (v1 : Int32) (v2 : Int32) (v3 : Int32)  {out : Mem × Int32} (hF : F_M_ahead σ v1 v2 v3 = some out) : CT l Γ D s0 yX12_ahead cX12_ahead 5 (some .int) (84) 0 0 (1825) σ [.ref (Γ.1 + 333), .int v1, .int v2, .int v3] (PI (some (.int out.2)) out.1) := by
  unfold F_M_ahead at hF
  refine e_met (own := RX12) hG (by decide +kernel) rfl rfl (Nat.le_of_ble_eq_true rfl) ?_
  intro p e s m args below meth c X hr
  show E p l e _ s m args below meth c Γ D 0 0 _ σ 0 [some (.ref (Γ.1 + 333)), some (.int v1), some (.int v2), some (.int v3), none] []
  refine e_aload_n X dX12_ahead_0 rfl rfl ?_
  refine e_aload_n X dX12_ahead_1 rfl rfl ?_
  refine e_iload_n X dX12_ahead_2 rfl rfl ?_
  refine e_iload_n X dX12_ahead_3 rfl rfl ?_
  refine e_bipush X 40 dX12_ahead_4 rfl ?_
  refine e_iload_n X dX12_ahead_6 rfl rfl ?_
  obtain ⟨z1, h_z1, hF⟩ := obind_out hF
  refine e_callVi X (r := z1) (σ1 := σ) [.int v1, .int v2, .int 40, .int v3] [.ref (Γ.1 + 333)] (C_M_badMatch (Cx_gok X) σ v1 v2 40 v3 h_z1) gv_X12_317 yk_X12_badMatch rfl (ent_lt (rfl : entTbl[333]? = some (13, 0))) (ent_at (rfl : entTbl[333]? = some (13, 0)) _) (rfl : vCl[11]? = some (RX12, TX12, 24)) ⟨Nat.le_of_ble_eq_true rfl, Nat.le_of_ble_eq_true rfl⟩ ⟨Nat.le_of_ble_eq_true rfl, Nat.le_of_ble_eq_true rfl⟩ (Nat.le_of_ble_eq_true rfl) dX12_ahead_7 rfl ?_
  obtain ⟨σ2, h_σ2, hF⟩ := bindT_out hF
  refine pu_M_thrown X wf_X12_51 dX12_ahead_10 h_σ2 ?_
  refine e_aload_n X dX12_ahead_13 rfl rfl ?_
  refine ge_M_thrown X wf_X12_51 dX12_ahead_14 ?_
  refine e_if_gt X 30 dX12_ahead_17 (by decide) (fun c3 => ?_) (fun c3 => ?_)
  · skip
    rw [if_pos c3] at hF
    refine e_iconst X 0 dX12_ahead_30 rfl ?_
    exact e_iret X hr dX12_ahead_31 (Nat.le_of_ble_eq_true rfl) (Nat.le_of_ble_eq_true rfl) (by cases hF; exact ⟨rfl, rfl⟩)
  · skip
    rw [if_neg c3] at hF
    refine e_aload_n X dX12_ahead_20 rfl rfl ?_
    refine e_iload_n X dX12_ahead_21 rfl rfl ?_
    refine e_iconst X 4 dX12_ahead_22 rfl ?_
    obtain ⟨z4, h_z4, hF⟩ := obind_out hF
    refine e_callVi X (r := z4) (σ1 := σ2) [.int v1, .int 4] [] (C_M_ofMatch (Cx_gok X) σ2 v1 4 h_z4) gv_X12_58 yk_X12_ofMatch rfl (ent_lt (rfl : entTbl[333]? = some (13, 0))) (ent_at (rfl : entTbl[333]? = some (13, 0)) _) (rfl : vCl[11]? = some (RX12, TX12, 24)) ⟨Nat.le_of_ble_eq_true rfl, Nat.le_of_ble_eq_true rfl⟩ ⟨Nat.le_of_ble_eq_true rfl, Nat.le_of_ble_eq_true rfl⟩ (Nat.le_of_ble_eq_true rfl) dX12_ahead_23 rfl ?_
    refine e_iconst X 1 dX12_ahead_26 rfl ?_
    refine e_icmp_ne X 32 dX12_ahead_27 (by decide) (fun c5 => ?_) (fun c5 => ?_)
    · skip
      rw [if_neg c5] at hF
      refine e_aload_n X dX12_ahead_32 rfl rfl ?_
      obtain ⟨z6, h_z6, hF⟩ := obind_out hF
      refine e_callVv X (σ1 := z6) [] [] (C_M_putsAside (Cx_gok X) σ2 h_z6) gv_X12_188 yk_X12_putsAside rfl (ent_lt (rfl : entTbl[333]? = some (13, 0))) (ent_at (rfl : entTbl[333]? = some (13, 0)) _) (rfl : vCl[11]? = some (RX12, TX12, 24)) ⟨Nat.le_of_ble_eq_true rfl, Nat.le_of_ble_eq_true rfl⟩ ⟨Nat.le_of_ble_eq_true rfl, Nat.le_of_ble_eq_true rfl⟩ (Nat.le_of_ble_eq_true rfl) dX12_ahead_33 rfl ?_
      refine e_iconst X 0 dX12_ahead_36 rfl ?_
      refine e_istore X rfl dX12_ahead_37 (by decide) ?_
      obtain ⟨z10, h_z10, hF⟩ := obind_out hF
      refine e_le (L_M_ahead_39 X hr v1 v2 v3 _ 0 z6 h_z10 rfl (by decide) ?_) (And.intro rfl (And.intro rfl (And.intro rfl (And.intro rfl (And.intro rfl (trivial))))))
      refine e_aload_n X dX12_ahead_57 rfl rfl ?_
      refine e_iload_n X dX12_ahead_58 rfl rfl ?_
      refine e_iconst X 2 dX12_ahead_59 rfl ?_
      obtain ⟨z11, h_z11, hF⟩ := obind_out hF
      refine e_callVi X (r := z11) (σ1 := z10) [.int v1, .int 2] [] (C_M_ofMatch (Cx_gok X) z10 v1 2 h_z11) gv_X12_58 yk_X12_ofMatch rfl (ent_lt (rfl : entTbl[333]? = some (13, 0))) (ent_at (rfl : entTbl[333]? = some (13, 0)) _) (rfl : vCl[11]? = some (RX12, TX12, 24)) ⟨Nat.le_of_ble_eq_true rfl, Nat.le_of_ble_eq_true rfl⟩ ⟨Nat.le_of_ble_eq_true rfl, Nat.le_of_ble_eq_true rfl⟩ (Nat.le_of_ble_eq_true rfl) dX12_ahead_60 rfl ?_
      refine e_istore X rfl dX12_ahead_63 (by decide) ?_
      refine e_aload_n X dX12_ahead_65 rfl rfl ?_
      obtain ⟨z12, h_z12, hF⟩ := obind_out hF
      refine e_callVv X (σ1 := z12) [] [] (C_M_comesBack (Cx_gok X) z10 h_z12) gv_X12_198 yk_X12_comesBack rfl (ent_lt (rfl : entTbl[333]? = some (13, 0))) (ent_at (rfl : entTbl[333]? = some (13, 0)) _) (rfl : vCl[11]? = some (RX12, TX12, 24)) ⟨Nat.le_of_ble_eq_true rfl, Nat.le_of_ble_eq_true rfl⟩ ⟨Nat.le_of_ble_eq_true rfl, Nat.le_of_ble_eq_true rfl⟩ (Nat.le_of_ble_eq_true rfl) dX12_ahead_66 rfl ?_
      refine e_iload X dX12_ahead_69 rfl ?_
      exact e_iret X hr dX12_ahead_71 (Nat.le_of_ble_eq_true rfl) (Nat.le_of_ble_eq_true rfl) (by cases hF; exact ⟨rfl, rfl⟩)
    · skip
      rw [if_pos c5] at hF
      refine e_iconst X 0 dX12_ahead_30 rfl ?_
      exact e_iret X hr dX12_ahead_31 (Nat.le_of_ble_eq_true rfl) (Nat.le_of_ble_eq_true rfl) (by cases hF; exact ⟨rfl, rfl⟩)
set_option maxRecDepth 20000 in
set_option maxHeartbeats 4000000 in
theorem L_M_first_42 (X : Cx p l s m args meth c Γ D s0 RX12 cX12_first 5) (hr : meth.sig.returnType = (some .int)) (v1 : Int32) (v2 : Int32)  : ∀ (n : Nat) (v4 : Int32) (v3 : Int32) (σ : Mem) {z : Int32 × Mem}, omap mrg (forGO (fun i s => F_M_first_42_b v1 v2 i s.1 s.2) n v4 (v3, σ)) = some z → n = cle v4 40 → ¬ v4 < 0 → (E p l e ({ frames := 84, cells := 0, slots := 0, locals := 1825 } : Room) s m args below meth c Γ D 0 0 (MQ below (QcA Γ D Pst) args s 0 0 (frB Γ)) z.2 84 [some (.ref (Γ.1 + 333)), some (.int v1), some (.int v2), some (.int z.1), none] []) → E p l e ({ frames := 84, cells := 0, slots := 0, locals := 1825 } : Room) s m args below meth c Γ D 0 0 (MQ below (QcA Γ D Pst) args s 0 0 (frB Γ)) σ 42 [some (.ref (Γ.1 + 333)), some (.int v1), some (.int v2), some (.int v3), some (.int v4)] [] := by
  intro n
  induction n with
  | zero =>
    intro v4 v3 σ z hF hn h0 hK
    refine e_iload X dX12_first_42 rfl ?_
    refine e_bipush X 40 dX12_first_44 rfl ?_
    refine e_icmp_gt X 84 dX12_first_46 (by decide) (fun c12 => ?_) (fun c12 => ?_)
    · skip
      have hz9 := Option.some.inj hF; change ((v3, σ)) = z at hz9; subst hz9
      exact e_le hK (And.intro rfl (And.intro rfl (And.intro rfl (And.intro rfl (trivial)))))
    · skip
      exact absurd (cle0 hn) c12
  | succ n ih =>
    intro v4 v3 σ z hF hn h0 hK
    obtain ⟨y9, hB, hF⟩ := forBO_step hF
    change F_M_first_42_b v1 v2 v4 v3 σ = some y9 at hB
    unfold F_M_first_42_b at hB
    refine e_iload X dX12_first_42 rfl ?_
    refine e_bipush X 40 dX12_first_44 rfl ?_
    refine e_icmp_gt X 84 dX12_first_46 (by decide) (fun c7 => ?_) (fun c7 => ?_)
    · skip
      exact absurd c7 (cleS hn)
    · skip
      refine e_iload_n X dX12_first_49 rfl rfl ?_
      refine e_iconst X (-1) dX12_first_50 rfl ?_
      refine e_icmp_ne X 84 dX12_first_51 (by decide) (fun c8 => ?_) (fun c8 => ?_)
      · skip
        rw [if_neg c8] at hB
        have hy9 := Option.some.inj hB; change (.inr ((v3, σ))) = y9 at hy9; subst hy9
        have hz9 := Option.some.inj hF; change ((v3, σ)) = z at hz9; subst hz9
        exact e_le hK (And.intro rfl (And.intro rfl (And.intro rfl (And.intro rfl (trivial)))))
      · skip
        rw [if_pos c8] at hB
        refine e_aload_n X dX12_first_54 rfl rfl ?_
        refine e_iload_n X dX12_first_55 rfl rfl ?_
        refine e_iload_n X dX12_first_56 rfl rfl ?_
        obtain ⟨z9, h_z9, hB⟩ := obind_out hB
        refine e_callVv X (σ1 := z9) [.int v1, .int v2] [] (C_M_passes (Cx_gok X) σ v1 v2 h_z9) gv_X12_321 yk_X12_passes rfl (ent_lt (rfl : entTbl[333]? = some (13, 0))) (ent_at (rfl : entTbl[333]? = some (13, 0)) _) (rfl : vCl[11]? = some (RX12, TX12, 24)) ⟨Nat.le_of_ble_eq_true rfl, Nat.le_of_ble_eq_true rfl⟩ ⟨Nat.le_of_ble_eq_true rfl, Nat.le_of_ble_eq_true rfl⟩ (Nat.le_of_ble_eq_true rfl) dX12_first_57 rfl ?_
        refine e_aload_n X dX12_first_60 rfl rfl ?_
        refine e_iload_n X dX12_first_61 rfl rfl ?_
        refine e_iconst X 2 dX12_first_62 rfl ?_
        obtain ⟨z10, h_z10, hB⟩ := obind_out hB
        refine e_callVi X (r := z10) (σ1 := z9) [.int v1, .int 2] [] (C_M_ofMatch (Cx_gok X) z9 v1 2 h_z10) gv_X12_58 yk_X12_ofMatch rfl (ent_lt (rfl : entTbl[333]? = some (13, 0))) (ent_at (rfl : entTbl[333]? = some (13, 0)) _) (rfl : vCl[11]? = some (RX12, TX12, 24)) ⟨Nat.le_of_ble_eq_true rfl, Nat.le_of_ble_eq_true rfl⟩ ⟨Nat.le_of_ble_eq_true rfl, Nat.le_of_ble_eq_true rfl⟩ (Nat.le_of_ble_eq_true rfl) dX12_first_63 rfl ?_
        refine e_aload_n X dX12_first_66 rfl rfl ?_
        refine ge_M_m X wf_X12_7 dX12_first_67 ?_
        refine e_iconst X 5 dX12_first_70 rfl ?_
        refine e_iald X (j := 5) rfl rfl (vp_in_iff.mpr (by decide)) rfl dX12_first_71 ?_
        refine e_icmp_ge X 78 dX12_first_72 (by decide) (fun c11 => ?_) (fun c11 => ?_)
        · skip
          rw [if_neg c11] at hB
          refine e_iinc X 1 dX12_first_78 rfl rfl (by decide) ?_
          refine e_goto X 42 dX12_first_81 (by decide) ?_
          have hy9 := Option.some.inj hB; change (.inl ((v3, z9))) = y9 at hy9; subst hy9
          exact e_le (ih _ v3 z9 hF (cleN (by decide) hn) (nnN h0 (cle_hi (by decide) hn)) hK) (And.intro rfl (And.intro rfl (And.intro rfl (And.intro rfl (And.intro rfl (trivial))))))
        · skip
          rw [if_pos c11] at hB
          refine e_iload X dX12_first_75 rfl ?_
          refine e_istore_n X rfl dX12_first_77 rfl (by decide) ?_
          refine e_iinc X 1 dX12_first_78 rfl rfl (by decide) ?_
          refine e_goto X 42 dX12_first_81 (by decide) ?_
          have hy9 := Option.some.inj hB; change (.inl ((v4, z9))) = y9 at hy9; subst hy9
          exact e_le (ih _ v4 z9 hF (cleN (by decide) hn) (nnN h0 (cle_hi (by decide) hn)) hK) (And.intro rfl (And.intro rfl (And.intro rfl (And.intro rfl (And.intro rfl (trivial))))))
set_option maxRecDepth 20000 in
set_option maxHeartbeats 4000000 in
theorem C_M_first (hG : Gok l Γ D s0) (σ : Mem) (v1 : Int32) (v2 : Int32)  {out : Mem × Int32} (hF : F_M_first σ v1 v2 = some out) : CT l Γ D s0 yX12_first cX12_first 5 (some .int) (84) 0 0 (1825) σ [.ref (Γ.1 + 333), .int v1, .int v2] (PI (some (.int out.2)) out.1) := by
  unfold F_M_first at hF
  refine e_met (own := RX12) hG (by decide +kernel) rfl rfl (Nat.le_of_ble_eq_true rfl) ?_
  intro p e s m args below meth c X hr
  show E p l e _ s m args below meth c Γ D 0 0 _ σ 0 [some (.ref (Γ.1 + 333)), some (.int v1), some (.int v2), none, none] []
  refine e_aload_n X dX12_first_0 rfl rfl ?_
  refine e_aload_n X dX12_first_1 rfl rfl ?_
  refine e_iload_n X dX12_first_2 rfl rfl ?_
  refine e_iconst X 0 dX12_first_3 rfl ?_
  refine e_iconst X 0 dX12_first_4 rfl ?_
  refine e_iload_n X dX12_first_5 rfl rfl ?_
  obtain ⟨z1, h_z1, hF⟩ := obind_out hF
  refine e_callVi X (r := z1) (σ1 := σ) [.int v1, .int 0, .int 0, .int v2] [.ref (Γ.1 + 333)] (C_M_badMatch (Cx_gok X) σ v1 0 0 v2 h_z1) gv_X12_317 yk_X12_badMatch rfl (ent_lt (rfl : entTbl[333]? = some (13, 0))) (ent_at (rfl : entTbl[333]? = some (13, 0)) _) (rfl : vCl[11]? = some (RX12, TX12, 24)) ⟨Nat.le_of_ble_eq_true rfl, Nat.le_of_ble_eq_true rfl⟩ ⟨Nat.le_of_ble_eq_true rfl, Nat.le_of_ble_eq_true rfl⟩ (Nat.le_of_ble_eq_true rfl) dX12_first_6 rfl ?_
  obtain ⟨σ2, h_σ2, hF⟩ := bindT_out hF
  refine pu_M_thrown X wf_X12_51 dX12_first_9 h_σ2 ?_
  refine e_aload_n X dX12_first_12 rfl rfl ?_
  refine ge_M_thrown X wf_X12_51 dX12_first_13 ?_
  refine e_if_le X 21 dX12_first_16 (by decide) (fun c3 => ?_) (fun c3 => ?_)
  · skip
    rw [if_neg c3] at hF
    refine e_aload_n X dX12_first_21 rfl rfl ?_
    refine e_iload_n X dX12_first_22 rfl rfl ?_
    refine e_iconst X 4 dX12_first_23 rfl ?_
    obtain ⟨z4, h_z4, hF⟩ := obind_out hF
    refine e_callVi X (r := z4) (σ1 := σ2) [.int v1, .int 4] [] (C_M_ofMatch (Cx_gok X) σ2 v1 4 h_z4) gv_X12_58 yk_X12_ofMatch rfl (ent_lt (rfl : entTbl[333]? = some (13, 0))) (ent_at (rfl : entTbl[333]? = some (13, 0)) _) (rfl : vCl[11]? = some (RX12, TX12, 24)) ⟨Nat.le_of_ble_eq_true rfl, Nat.le_of_ble_eq_true rfl⟩ ⟨Nat.le_of_ble_eq_true rfl, Nat.le_of_ble_eq_true rfl⟩ (Nat.le_of_ble_eq_true rfl) dX12_first_24 rfl ?_
    refine e_iconst X 1 dX12_first_27 rfl ?_
    refine e_icmp_ne X 33 dX12_first_28 (by decide) (fun c5 => ?_) (fun c5 => ?_)
    · skip
      rw [if_neg c5] at hF
      refine e_aload_n X dX12_first_33 rfl rfl ?_
      obtain ⟨z6, h_z6, hF⟩ := obind_out hF
      refine e_callVv X (σ1 := z6) [] [] (C_M_putsAside (Cx_gok X) σ2 h_z6) gv_X12_188 yk_X12_putsAside rfl (ent_lt (rfl : entTbl[333]? = some (13, 0))) (ent_at (rfl : entTbl[333]? = some (13, 0)) _) (rfl : vCl[11]? = some (RX12, TX12, 24)) ⟨Nat.le_of_ble_eq_true rfl, Nat.le_of_ble_eq_true rfl⟩ ⟨Nat.le_of_ble_eq_true rfl, Nat.le_of_ble_eq_true rfl⟩ (Nat.le_of_ble_eq_true rfl) dX12_first_34 rfl ?_
      refine e_iconst X (-1) dX12_first_37 rfl ?_
      refine e_istore_n X rfl dX12_first_38 rfl (by decide) ?_
      refine e_iconst X 1 dX12_first_39 rfl ?_
      refine e_istore X rfl dX12_first_40 (by decide) ?_
      obtain ⟨z13, h_z13, hF⟩ := obind_out hF
      refine e_le (L_M_first_42 X hr v1 v2 _ 1 ((-1)) z6 h_z13 rfl (by decide) ?_) (And.intro rfl (And.intro rfl (And.intro rfl (And.intro rfl (And.intro rfl (trivial))))))
      refine e_aload_n X dX12_first_84 rfl rfl ?_
      obtain ⟨z14, h_z14, hF⟩ := obind_out hF
      refine e_callVv X (σ1 := z14) [] [] (C_M_comesBack (Cx_gok X) z13.2 h_z14) gv_X12_198 yk_X12_comesBack rfl (ent_lt (rfl : entTbl[333]? = some (13, 0))) (ent_at (rfl : entTbl[333]? = some (13, 0)) _) (rfl : vCl[11]? = some (RX12, TX12, 24)) ⟨Nat.le_of_ble_eq_true rfl, Nat.le_of_ble_eq_true rfl⟩ ⟨Nat.le_of_ble_eq_true rfl, Nat.le_of_ble_eq_true rfl⟩ (Nat.le_of_ble_eq_true rfl) dX12_first_85 rfl ?_
      refine e_iload_n X dX12_first_88 rfl rfl ?_
      exact e_iret X hr dX12_first_89 (Nat.le_of_ble_eq_true rfl) (Nat.le_of_ble_eq_true rfl) (by cases hF; exact ⟨rfl, rfl⟩)
    · skip
      rw [if_pos c5] at hF
      refine e_iconst X (-1) dX12_first_31 rfl ?_
      exact e_iret X hr dX12_first_32 (Nat.le_of_ble_eq_true rfl) (Nat.le_of_ble_eq_true rfl) (by cases hF; exact ⟨rfl, rfl⟩)
  · skip
    rw [if_pos c3] at hF
    refine e_iconst X 0 dX12_first_19 rfl ?_
    exact e_iret X hr dX12_first_20 (Nat.le_of_ble_eq_true rfl) (Nat.le_of_ble_eq_true rfl) (by cases hF; exact ⟨rfl, rfl⟩)
set_option maxRecDepth 20000 in
set_option maxHeartbeats 4000000 in
theorem L_M_odds_21 (X : Cx p l s m args meth c Γ D s0 RX12 cX12_odds 4) (hr : meth.sig.returnType = (some .int)) (v1 : Int32)  : ∀ (n : Nat) (v3 : Int32) (v2 : Int32) (σ : Mem) {z : Int32 × Mem}, omap mrg (forGO (fun i s => F_M_odds_21_b v1 i s.1 s.2) n v3 (v2, σ)) = some z → n = cnt v3 10 → ¬ v3 < 0 → (E p l e ({ frames := 83, cells := 0, slots := 0, locals := 1803 } : Room) s m args below meth c Γ D 0 0 (MQ below (QcA Γ D Pst) args s 0 0 (frB Γ)) z.2 72 [some (.ref (Γ.1 + 333)), some (.int v1), some (.int z.1), none] []) → E p l e ({ frames := 83, cells := 0, slots := 0, locals := 1803 } : Room) s m args below meth c Γ D 0 0 (MQ below (QcA Γ D Pst) args s 0 0 (frB Γ)) σ 21 [some (.ref (Γ.1 + 333)), some (.int v1), some (.int v2), some (.int v3)] [] := by
  intro n
  induction n with
  | zero =>
    intro v3 v2 σ z hF hn h0 hK
    refine e_iload_n X dX12_odds_21 rfl rfl ?_
    refine e_bipush X 10 dX12_odds_22 rfl ?_
    refine e_icmp_ge X 72 dX12_odds_24 (by decide) (fun c12 => ?_) (fun c12 => ?_)
    · skip
      have hz9 := Option.some.inj hF; change ((v2, σ)) = z at hz9; subst hz9
      exact e_le hK (And.intro rfl (And.intro rfl (And.intro rfl (trivial))))
    · skip
      exact absurd c12 (cnt0 hn)
  | succ n ih =>
    intro v3 v2 σ z hF hn h0 hK
    obtain ⟨y9, hB, hF⟩ := forBO_step hF
    change F_M_odds_21_b v1 v3 v2 σ = some y9 at hB
    unfold F_M_odds_21_b at hB
    refine e_iload_n X dX12_odds_21 rfl rfl ?_
    refine e_bipush X 10 dX12_odds_22 rfl ?_
    refine e_icmp_ge X 72 dX12_odds_24 (by decide) (fun c4 => ?_) (fun c4 => ?_)
    · skip
      exact absurd (cntS hn) c4
    · skip
      refine e_aload_n X dX12_odds_27 rfl rfl ?_
      refine ge_M_thrown X wf_X12_51 dX12_odds_28 ?_
      refine e_if_ne X 72 dX12_odds_31 (by decide) (fun c5 => ?_) (fun c5 => ?_)
      · skip
        rw [if_neg c5] at hB
        have hy9 := Option.some.inj hB; change (.inr ((v2, σ))) = y9 at hy9; subst hy9
        have hz9 := Option.some.inj hF; change ((v2, σ)) = z at hz9; subst hz9
        exact e_le hK (And.intro rfl (And.intro rfl (And.intro rfl (trivial))))
      · skip
        rw [if_pos c5] at hB
        refine e_aload_n X dX12_odds_34 rfl rfl ?_
        refine e_iload_n X dX12_odds_35 rfl rfl ?_
        refine e_iconst X 4 dX12_odds_36 rfl ?_
        obtain ⟨z6, h_z6, hB⟩ := obind_out hB
        refine e_callVi X (r := z6) (σ1 := σ) [.int v1, .int 4] [] (C_M_ofMatch (Cx_gok X) σ v1 4 h_z6) gv_X12_58 yk_X12_ofMatch rfl (ent_lt (rfl : entTbl[333]? = some (13, 0))) (ent_at (rfl : entTbl[333]? = some (13, 0)) _) (rfl : vCl[11]? = some (RX12, TX12, 24)) ⟨Nat.le_of_ble_eq_true rfl, Nat.le_of_ble_eq_true rfl⟩ ⟨Nat.le_of_ble_eq_true rfl, Nat.le_of_ble_eq_true rfl⟩ (Nat.le_of_ble_eq_true rfl) dX12_odds_37 rfl ?_
        refine e_if_ne X 72 dX12_odds_40 (by decide) (fun c7 => ?_) (fun c7 => ?_)
        · skip
          rw [if_neg c7] at hB
          have hy9 := Option.some.inj hB; change (.inr ((v2, σ))) = y9 at hy9; subst hy9
          have hz9 := Option.some.inj hF; change ((v2, σ)) = z at hz9; subst hz9
          exact e_le hK (And.intro rfl (And.intro rfl (And.intro rfl (trivial))))
        · skip
          rw [if_pos c7] at hB
          refine e_iload_n X dX12_odds_43 rfl rfl ?_
          refine e_aload_n X dX12_odds_44 rfl rfl ?_
          refine e_iload_n X dX12_odds_45 rfl rfl ?_
          refine e_iload_n X dX12_odds_46 rfl rfl ?_
          obtain ⟨z8, h_z8, hB⟩ := obind_out hB
          refine e_callVi X (r := z8.2) (σ1 := z8.1) [.int v1, .int v3] [.int v2] (C_M_nextOf (Cx_gok X) σ v1 v3 h_z8) gv_X12_284 yk_X12_nextOf rfl (ent_lt (rfl : entTbl[333]? = some (13, 0))) (ent_at (rfl : entTbl[333]? = some (13, 0)) _) (rfl : vCl[11]? = some (RX12, TX12, 24)) ⟨Nat.le_of_ble_eq_true rfl, Nat.le_of_ble_eq_true rfl⟩ ⟨Nat.le_of_ble_eq_true rfl, Nat.le_of_ble_eq_true rfl⟩ (Nat.le_of_ble_eq_true rfl) dX12_odds_47 rfl ?_
          refine e_aload_n X dX12_odds_50 rfl rfl ?_
          refine ge_M_m X wf_X12_7 dX12_odds_51 ?_
          refine e_iconst X 5 dX12_odds_54 rfl ?_
          refine e_iald X (j := 5) rfl rfl (vp_in_iff.mpr (by decide)) rfl dX12_odds_55 ?_
          refine e_icmp_ge X 63 dX12_odds_56 (by decide) (fun c9 => ?_) (fun c9 => ?_)
          · skip
            rw [if_neg c9] at hB
            refine e_iconst X 0 dX12_odds_63 rfl ?_
            refine e_iadd X dX12_odds_64 ?_
            obtain ⟨x10, h_x10, hB⟩ := bindT_out hB
            refine e_istore_n X h_x10 dX12_odds_65 rfl (by decide) ?_
            refine e_iinc X 1 dX12_odds_66 rfl rfl (by decide) ?_
            refine e_goto X 21 dX12_odds_69 (by decide) ?_
            have hy9 := Option.some.inj hB; change (.inl ((x10, z8.1))) = y9 at hy9; subst hy9
            exact e_le (ih _ x10 z8.1 hF (cntN hn) (nnN h0 (cnt_hi hn)) hK) (And.intro rfl (And.intro rfl (And.intro rfl (And.intro rfl (trivial)))))
          · skip
            rw [if_pos c9] at hB
            refine e_iconst X 1 dX12_odds_59 rfl ?_
            refine e_goto X 64 dX12_odds_60 (by decide) ?_
            refine e_iadd X dX12_odds_64 ?_
            obtain ⟨x11, h_x11, hB⟩ := bindT_out hB
            refine e_istore_n X h_x11 dX12_odds_65 rfl (by decide) ?_
            refine e_iinc X 1 dX12_odds_66 rfl rfl (by decide) ?_
            refine e_goto X 21 dX12_odds_69 (by decide) ?_
            have hy9 := Option.some.inj hB; change (.inl ((x11, z8.1))) = y9 at hy9; subst hy9
            exact e_le (ih _ x11 z8.1 hF (cntN hn) (nnN h0 (cnt_hi hn)) hK) (And.intro rfl (And.intro rfl (And.intro rfl (And.intro rfl (trivial)))))
set_option maxRecDepth 20000 in
set_option maxHeartbeats 4000000 in
theorem C_M_odds (hG : Gok l Γ D s0) (σ : Mem) (v1 : Int32)  {out : Mem × Int32} (hF : F_M_odds σ v1 = some out) : CT l Γ D s0 yX12_odds cX12_odds 4 (some .int) (83) 0 0 (1803) σ [.ref (Γ.1 + 333), .int v1] (PI (some (.int out.2)) out.1) := by
  unfold F_M_odds at hF
  refine e_met (own := RX12) hG (by decide +kernel) rfl rfl (Nat.le_of_ble_eq_true rfl) ?_
  intro p e s m args below meth c X hr
  show E p l e _ s m args below meth c Γ D 0 0 _ σ 0 [some (.ref (Γ.1 + 333)), some (.int v1), none, none] []
  refine e_aload_n X dX12_odds_0 rfl rfl ?_
  refine e_aload_n X dX12_odds_1 rfl rfl ?_
  refine e_iload_n X dX12_odds_2 rfl rfl ?_
  obtain ⟨z1, h_z1, hF⟩ := obind_out hF
  refine e_callVi X (r := z1) (σ1 := σ) [.int v1] [.ref (Γ.1 + 333)] (C_M_isMatch (Cx_gok X) σ v1 h_z1) gv_X12_305 yk_X12_isMatch rfl (ent_lt (rfl : entTbl[333]? = some (13, 0))) (ent_at (rfl : entTbl[333]? = some (13, 0)) _) (rfl : vCl[11]? = some (RX12, TX12, 24)) ⟨Nat.le_of_ble_eq_true rfl, Nat.le_of_ble_eq_true rfl⟩ ⟨Nat.le_of_ble_eq_true rfl, Nat.le_of_ble_eq_true rfl⟩ (Nat.le_of_ble_eq_true rfl) dX12_odds_3 rfl ?_
  refine e_if_ne X 13 dX12_odds_6 (by decide) (fun c2 => ?_) (fun c2 => ?_)
  · skip
    rw [if_neg c2] at hF
    refine e_iconst X 0 dX12_odds_13 rfl ?_
    obtain ⟨σ3, h_σ3, hF⟩ := bindT_out hF
    refine pu_M_thrown X wf_X12_51 dX12_odds_14 h_σ3 ?_
    refine e_iconst X 0 dX12_odds_17 rfl ?_
    refine e_istore_n X rfl dX12_odds_18 rfl (by decide) ?_
    refine e_iconst X 0 dX12_odds_19 rfl ?_
    refine e_istore_n X rfl dX12_odds_20 rfl (by decide) ?_
    obtain ⟨z13, h_z13, hF⟩ := obind_out hF
    refine e_le (L_M_odds_21 X hr v1 _ 0 0 σ3 h_z13 rfl (by decide) ?_) (And.intro rfl (And.intro rfl (And.intro rfl (And.intro rfl (trivial)))))
    refine e_iload_n X dX12_odds_72 rfl rfl ?_
    exact e_iret X hr dX12_odds_73 (Nat.le_of_ble_eq_true rfl) (Nat.le_of_ble_eq_true rfl) (by cases hF; exact ⟨rfl, rfl⟩)
  · skip
    rw [if_pos c2] at hF
    refine e_iconst X 1 dX12_odds_9 rfl ?_
    refine e_goto X 14 dX12_odds_10 (by decide) ?_
    obtain ⟨σ14, h_σ14, hF⟩ := bindT_out hF
    refine pu_M_thrown X wf_X12_51 dX12_odds_14 h_σ14 ?_
    refine e_iconst X 0 dX12_odds_17 rfl ?_
    refine e_istore_n X rfl dX12_odds_18 rfl (by decide) ?_
    refine e_iconst X 0 dX12_odds_19 rfl ?_
    refine e_istore_n X rfl dX12_odds_20 rfl (by decide) ?_
    obtain ⟨z15, h_z15, hF⟩ := obind_out hF
    refine e_le (L_M_odds_21 X hr v1 _ 0 0 σ14 h_z15 rfl (by decide) ?_) (And.intro rfl (And.intro rfl (And.intro rfl (And.intro rfl (trivial)))))
    refine e_iload_n X dX12_odds_72 rfl rfl ?_
    exact e_iret X hr dX12_odds_73 (Nat.le_of_ble_eq_true rfl) (Nat.le_of_ble_eq_true rfl) (by cases hF; exact ⟨rfl, rfl⟩)
set_option maxRecDepth 20000 in
set_option maxHeartbeats 4000000 in
theorem L_M_gifts_94 (X : Cx p l s m args meth c Γ D s0 RX12 cX12_gifts 6) (hr : meth.sig.returnType = (some .int)) (v1 : Int32) (v2 : Int32) (v3 : Int32) (v4 : Int32)  : ∀ (n : Nat) (v5 : Int32) (σ : Mem) {z : Mem}, omap mrg (forGO (fun i s => F_M_gifts_94_b v1 v2 v3 v4 i s) n v5 σ) = some z → n = cnt v5 100 → ¬ v5 < 0 → (E p l e ({ frames := 83, cells := 0, slots := 0, locals := 1803 } : Room) s m args below meth c Γ D 0 0 (MQ below (QcA Γ D Pst) args s 0 0 (frB Γ)) z 144 [some (.ref (Γ.1 + 333)), some (.int v1), some (.int v2), some (.int v3), some (.int v4), none] []) → E p l e ({ frames := 83, cells := 0, slots := 0, locals := 1803 } : Room) s m args below meth c Γ D 0 0 (MQ below (QcA Γ D Pst) args s 0 0 (frB Γ)) σ 94 [some (.ref (Γ.1 + 333)), some (.int v1), some (.int v2), some (.int v3), some (.int v4), some (.int v5)] [] := by
  intro n
  induction n with
  | zero =>
    intro v5 σ z hF hn h0 hK
    refine e_iload X dX12_gifts_94 rfl ?_
    refine e_bipush X 100 dX12_gifts_96 rfl ?_
    refine e_icmp_ge X 144 dX12_gifts_98 (by decide) (fun c19 => ?_) (fun c19 => ?_)
    · skip
      have hz9 := Option.some.inj hF; change (σ) = z at hz9; subst hz9
      exact e_le hK (And.intro rfl (And.intro rfl (And.intro rfl (And.intro rfl (And.intro rfl (trivial))))))
    · skip
      exact absurd c19 (cnt0 hn)
  | succ n ih =>
    intro v5 σ z hF hn h0 hK
    obtain ⟨y9, hB, hF⟩ := forBO_step hF
    change F_M_gifts_94_b v1 v2 v3 v4 v5 σ = some y9 at hB
    unfold F_M_gifts_94_b at hB
    refine e_iload X dX12_gifts_94 rfl ?_
    refine e_bipush X 100 dX12_gifts_96 rfl ?_
    refine e_icmp_ge X 144 dX12_gifts_98 (by decide) (fun c12 => ?_) (fun c12 => ?_)
    · skip
      exact absurd (cntS hn) c12
    · skip
      refine e_iload X dX12_gifts_101 rfl ?_
      refine e_iload_n X dX12_gifts_103 rfl rfl ?_
      refine e_icmp_ge X 144 dX12_gifts_104 (by decide) (fun c13 => ?_) (fun c13 => ?_)
      · skip
        rw [if_neg c13] at hB
        have hy9 := Option.some.inj hB; change (.inr σ) = y9 at hy9; subst hy9
        have hz9 := Option.some.inj hF; change (σ) = z at hz9; subst hz9
        exact e_le hK (And.intro rfl (And.intro rfl (And.intro rfl (And.intro rfl (And.intro rfl (trivial))))))
      · skip
        rw [if_pos c13] at hB
        refine e_aload_n X dX12_gifts_107 rfl rfl ?_
        refine e_iload_n X dX12_gifts_108 rfl rfl ?_
        refine e_iconst X 2 dX12_gifts_109 rfl ?_
        refine e_iload X dX12_gifts_110 rfl ?_
        obtain ⟨z14, h_z14, hB⟩ := obind_out hB
        refine e_callVv X (σ1 := z14) [.int v1, .int 2, .int v5] [] (C_M_told (Cx_gok X) σ v1 2 v5 h_z14) gv_X12_141 yk_X12_told rfl (ent_lt (rfl : entTbl[333]? = some (13, 0))) (ent_at (rfl : entTbl[333]? = some (13, 0)) _) (rfl : vCl[11]? = some (RX12, TX12, 24)) ⟨Nat.le_of_ble_eq_true rfl, Nat.le_of_ble_eq_true rfl⟩ ⟨Nat.le_of_ble_eq_true rfl, Nat.le_of_ble_eq_true rfl⟩ (Nat.le_of_ble_eq_true rfl) dX12_gifts_112 rfl ?_
        refine e_aload_n X dX12_gifts_115 rfl rfl ?_
        refine e_iload X dX12_gifts_116 rfl ?_
        refine e_iload X dX12_gifts_118 rfl ?_
        refine e_iload X dX12_gifts_120 rfl ?_
        refine e_if_ne X 129 dX12_gifts_122 (by decide) (fun c15 => ?_) (fun c15 => ?_)
        · skip
          rw [if_neg c15] at hB
          refine e_aload_n X dX12_gifts_129 rfl rfl ?_
          refine e_iload_n X dX12_gifts_130 rfl rfl ?_
          refine e_iload_n X dX12_gifts_131 rfl rfl ?_
          obtain ⟨z16, h_z16, hB⟩ := obind_out hB
          refine e_callVi X (r := z16.2) (σ1 := z16.1) [.int v1, .int v3] [.int v5, .int v4, .ref (Γ.1 + 333)] (C_M_nextOf (Cx_gok X) z14 v1 v3 h_z16) gv_X12_284 yk_X12_nextOf rfl (ent_lt (rfl : entTbl[333]? = some (13, 0))) (ent_at (rfl : entTbl[333]? = some (13, 0)) _) (rfl : vCl[11]? = some (RX12, TX12, 24)) ⟨Nat.le_of_ble_eq_true rfl, Nat.le_of_ble_eq_true rfl⟩ ⟨Nat.le_of_ble_eq_true rfl, Nat.le_of_ble_eq_true rfl⟩ (Nat.le_of_ble_eq_true rfl) dX12_gifts_132 rfl ?_
          obtain ⟨z17, h_z17, hB⟩ := obind_out hB
          refine e_callVv X (σ1 := z17) [.int v4, .int v5, .int z16.2] [] (C_M_by (Cx_gok X) z16.1 v4 v5 z16.2 h_z17) gv_X12_333 yk_X12_by rfl (ent_lt (rfl : entTbl[333]? = some (13, 0))) (ent_at (rfl : entTbl[333]? = some (13, 0)) _) (rfl : vCl[11]? = some (RX12, TX12, 24)) ⟨Nat.le_of_ble_eq_true rfl, Nat.le_of_ble_eq_true rfl⟩ ⟨Nat.le_of_ble_eq_true rfl, Nat.le_of_ble_eq_true rfl⟩ (Nat.le_of_ble_eq_true rfl) dX12_gifts_135 rfl ?_
          refine e_iinc X 1 dX12_gifts_138 rfl rfl (by decide) ?_
          refine e_goto X 94 dX12_gifts_141 (by decide) ?_
          have hy9 := Option.some.inj hB; change (.inl z17) = y9 at hy9; subst hy9
          exact e_le (ih _ z17 hF (cntN hn) (nnN h0 (cnt_hi hn)) hK) (And.intro rfl (And.intro rfl (And.intro rfl (And.intro rfl (And.intro rfl (And.intro rfl (trivial)))))))
        · skip
          rw [if_pos c15] at hB
          refine e_iconst X 0 dX12_gifts_125 rfl ?_
          refine e_goto X 135 dX12_gifts_126 (by decide) ?_
          obtain ⟨z18, h_z18, hB⟩ := obind_out hB
          refine e_callVv X (σ1 := z18) [.int v4, .int v5, .int 0] [] (C_M_by (Cx_gok X) z14 v4 v5 0 h_z18) gv_X12_333 yk_X12_by rfl (ent_lt (rfl : entTbl[333]? = some (13, 0))) (ent_at (rfl : entTbl[333]? = some (13, 0)) _) (rfl : vCl[11]? = some (RX12, TX12, 24)) ⟨Nat.le_of_ble_eq_true rfl, Nat.le_of_ble_eq_true rfl⟩ ⟨Nat.le_of_ble_eq_true rfl, Nat.le_of_ble_eq_true rfl⟩ (Nat.le_of_ble_eq_true rfl) dX12_gifts_135 rfl ?_
          refine e_iinc X 1 dX12_gifts_138 rfl rfl (by decide) ?_
          refine e_goto X 94 dX12_gifts_141 (by decide) ?_
          have hy9 := Option.some.inj hB; change (.inl z18) = y9 at hy9; subst hy9
          exact e_le (ih _ z18 hF (cntN hn) (nnN h0 (cnt_hi hn)) hK) (And.intro rfl (And.intro rfl (And.intro rfl (And.intro rfl (And.intro rfl (And.intro rfl (trivial)))))))
set_option maxRecDepth 20000 in
set_option maxHeartbeats 4000000 in
theorem L_M_gifts_147 (X : Cx p l s m args meth c Γ D s0 RX12 cX12_gifts 6) (hr : meth.sig.returnType = (some .int)) (v1 : Int32) (v2 : Int32) (v3 : Int32) (v4 : Int32)  : ∀ (n : Nat) (v5 : Int32) (σ : Mem) {z : Mem}, forSO (fun i s => F_M_gifts_147_b v1 v2 v3 v4 i s) n v5 σ = some z → n = cnt v5 100 → ¬ v5 < 0 → (E p l e ({ frames := 83, cells := 0, slots := 0, locals := 1803 } : Room) s m args below meth c Γ D 0 0 (MQ below (QcA Γ D Pst) args s 0 0 (frB Γ)) z 191 [some (.ref (Γ.1 + 333)), some (.int v1), some (.int v2), some (.int v3), some (.int v4), none] []) → E p l e ({ frames := 83, cells := 0, slots := 0, locals := 1803 } : Room) s m args below meth c Γ D 0 0 (MQ below (QcA Γ D Pst) args s 0 0 (frB Γ)) σ 147 [some (.ref (Γ.1 + 333)), some (.int v1), some (.int v2), some (.int v3), some (.int v4), some (.int v5)] [] := by
  intro n
  induction n with
  | zero =>
    intro v5 σ z hF hn h0 hK
    refine e_iload X dX12_gifts_147 rfl ?_
    refine e_bipush X 100 dX12_gifts_149 rfl ?_
    refine e_icmp_ge X 191 dX12_gifts_151 (by decide) (fun c30 => ?_) (fun c30 => ?_)
    · skip
      have hz9 := Option.some.inj hF; change (σ) = z at hz9; subst hz9
      exact e_le hK (And.intro rfl (And.intro rfl (And.intro rfl (And.intro rfl (And.intro rfl (trivial))))))
    · skip
      exact absurd c30 (cnt0 hn)
  | succ n ih =>
    intro v5 σ z hF hn h0 hK
    obtain ⟨y9, hB, hF⟩ := forSO_step hF
    change F_M_gifts_147_b v1 v2 v3 v4 v5 σ = some y9 at hB
    unfold F_M_gifts_147_b at hB
    refine e_iload X dX12_gifts_147 rfl ?_
    refine e_bipush X 100 dX12_gifts_149 rfl ?_
    refine e_icmp_ge X 191 dX12_gifts_151 (by decide) (fun c21 => ?_) (fun c21 => ?_)
    · skip
      exact absurd (cntS hn) c21
    · skip
      refine e_aload_n X dX12_gifts_154 rfl rfl ?_
      refine ge_M_gifts X wf_X12_32 dX12_gifts_155 ?_
      refine e_bipush X 100 dX12_gifts_158 rfl ?_
      refine e_iload X dX12_gifts_160 rfl ?_
      refine e_imul X dX12_gifts_162 ?_
      refine e_iload X dX12_gifts_163 rfl ?_
      refine e_iadd X dX12_gifts_165 ?_
      refine e_iload X dX12_gifts_166 rfl ?_
      refine e_iload_n X dX12_gifts_168 rfl rfl ?_
      refine e_icmp_ne X 176 dX12_gifts_169 (by decide) (fun c22 => ?_) (fun c22 => ?_)
      · skip
        rw [if_neg c22] at hB
        refine e_aload_n X dX12_gifts_176 rfl rfl ?_
        refine e_iload X dX12_gifts_177 rfl ?_
        refine e_iload X dX12_gifts_179 rfl ?_
        obtain ⟨z23, h_z23, hB⟩ := obind_out hB
        refine e_callVi X (r := z23) (σ1 := σ) [.int v4, .int v5] [.int (((100 * v4) + v5)), .ref (Γ.1 + 340)] (C_M_fewest (Cx_gok X) σ v4 v5 h_z23) gv_X12_335 yk_X12_fewest rfl (ent_lt (rfl : entTbl[333]? = some (13, 0))) (ent_at (rfl : entTbl[333]? = some (13, 0)) _) (rfl : vCl[11]? = some (RX12, TX12, 24)) ⟨Nat.le_of_ble_eq_true rfl, Nat.le_of_ble_eq_true rfl⟩ ⟨Nat.le_of_ble_eq_true rfl, Nat.le_of_ble_eq_true rfl⟩ (Nat.le_of_ble_eq_true rfl) dX12_gifts_181 rfl ?_
        obtain ⟨i24, h_i24, hB⟩ := bindT_out hB
        obtain ⟨c25, hB⟩ := chk_out hB
        obtain ⟨σ26, h_σ26, hB⟩ := bindT_out hB
        refine e_iast X (j := i24.toNatClampNeg) h_i24 rfl (inb_in c25) rfl dX12_gifts_184 h_σ26 ?_
        refine e_iinc X 1 dX12_gifts_185 rfl rfl (by decide) ?_
        refine e_goto X 147 dX12_gifts_188 (by decide) ?_
        have hy9 := Option.some.inj hB; change (σ26) = y9 at hy9; subst hy9
        exact e_le (ih _ σ26 hF (cntN hn) (nnN h0 (cnt_hi hn)) hK) (And.intro rfl (And.intro rfl (And.intro rfl (And.intro rfl (And.intro rfl (And.intro rfl (trivial)))))))
      · skip
        rw [if_pos c22] at hB
        refine e_iconst X 0 dX12_gifts_172 rfl ?_
        refine e_goto X 184 dX12_gifts_173 (by decide) ?_
        obtain ⟨i27, h_i27, hB⟩ := bindT_out hB
        obtain ⟨c28, hB⟩ := chk_out hB
        obtain ⟨σ29, h_σ29, hB⟩ := bindT_out hB
        refine e_iast X (j := i27.toNatClampNeg) h_i27 rfl (inb_in c28) rfl dX12_gifts_184 h_σ29 ?_
        refine e_iinc X 1 dX12_gifts_185 rfl rfl (by decide) ?_
        refine e_goto X 147 dX12_gifts_188 (by decide) ?_
        have hy9 := Option.some.inj hB; change (σ29) = y9 at hy9; subst hy9
        exact e_le (ih _ σ29 hF (cntN hn) (nnN h0 (cnt_hi hn)) hK) (And.intro rfl (And.intro rfl (And.intro rfl (And.intro rfl (And.intro rfl (And.intro rfl (trivial)))))))
set_option maxRecDepth 20000 in
set_option maxHeartbeats 4000000 in
theorem L_M_gifts_41 (X : Cx p l s m args meth c Γ D s0 RX12 cX12_gifts 6) (hr : meth.sig.returnType = (some .int)) (v1 : Int32) (v2 : Int32) (v3 : Int32)  : ∀ (n : Nat) (v4 : Int32) (σ : Mem) {z : Int32 × Mem}, whl (fun s => F_M_gifts_41_b v1 v2 v3 s.1 s.2) n (v4, σ) = some z → (E p l e ({ frames := 83, cells := 0, slots := 0, locals := 1803 } : Room) s m args below meth c Γ D 0 0 (MQ below (QcA Γ D Pst) args s 0 0 (frB Γ)) z.2 197 [some (.ref (Γ.1 + 333)), some (.int v1), some (.int v2), some (.int v3), some (.int z.1), none] []) → E p l e ({ frames := 83, cells := 0, slots := 0, locals := 1803 } : Room) s m args below meth c Γ D 0 0 (MQ below (QcA Γ D Pst) args s 0 0 (frB Γ)) σ 41 [some (.ref (Γ.1 + 333)), some (.int v1), some (.int v2), some (.int v3), some (.int v4), none] [] := by
  intro n
  induction n with
  | zero =>
    intro v4 σ z hF hK
    cases hF
  | succ n ih =>
    intro v4 σ z hF hK
    obtain ⟨y9, hB, hF⟩ := whl_step hF
    change F_M_gifts_41_b v1 v2 v3 v4 σ = some y9 at hB
    unfold F_M_gifts_41_b at hB
    refine e_iload X dX12_gifts_41 rfl ?_
    refine e_if_lt X 197 dX12_gifts_43 (by decide) (fun c7 => ?_) (fun c7 => ?_)
    · skip
      rw [if_pos c7] at hB
      have hy9 := Option.some.inj hB; change (.inr ((v4, σ))) = y9 at hy9; subst hy9
      have hz9 := Option.some.inj hF; change ((v4, σ)) = z at hz9; subst hz9
      exact e_le hK (And.intro rfl (And.intro rfl (And.intro rfl (And.intro rfl (And.intro rfl (trivial))))))
    · skip
      rw [if_neg c7] at hB
      refine e_aload_n X dX12_gifts_46 rfl rfl ?_
      refine ge_M_m X wf_X12_7 dX12_gifts_47 ?_
      refine e_bipush X 8 dX12_gifts_50 rfl ?_
      refine e_sipush X 9999 dX12_gifts_52 rfl ?_
      refine e_aload_n X dX12_gifts_55 rfl rfl ?_
      refine ge_M_aside X wf_X12_16 dX12_gifts_56 ?_
      refine e_bipush X 8 dX12_gifts_59 rfl ?_
      refine e_iald X (j := 8) rfl rfl (vp_in_iff.mpr (by decide)) rfl dX12_gifts_61 ?_
      refine e_iload X dX12_gifts_62 rfl ?_
      refine e_iadd X dX12_gifts_64 ?_
      refine e_callSi X (r := (F_M_lesser σ 9999 (((σ 336 8) + v4)))) (σ1 := σ) [.int 9999, .int (((σ 336 8) + v4))] [.int 8, .ref (Γ.1 + 334)] (C_M_lesser (Cx_gok X) σ 9999 (((σ 336 8) + v4))) gs_X12_263 yk_X12_lesser rfl ⟨Nat.le_of_ble_eq_true rfl, Nat.le_of_ble_eq_true rfl⟩ ⟨Nat.le_of_ble_eq_true rfl, Nat.le_of_ble_eq_true rfl⟩ (Nat.le_of_ble_eq_true rfl) dX12_gifts_65 rfl ?_
      obtain ⟨σ8, h_σ8, hB⟩ := bindT_out hB
      refine e_iast X (j := 8) rfl rfl (vp_in_iff.mpr (by decide)) rfl dX12_gifts_68 h_σ8 ?_
      refine e_aload_n X dX12_gifts_69 rfl rfl ?_
      refine e_iload_n X dX12_gifts_70 rfl rfl ?_
      refine e_iconst X 3 dX12_gifts_71 rfl ?_
      refine e_aload_n X dX12_gifts_72 rfl rfl ?_
      refine ge_M_aside X wf_X12_16 dX12_gifts_73 ?_
      refine e_bipush X 110 dX12_gifts_76 rfl ?_
      refine e_iconst X 5 dX12_gifts_78 rfl ?_
      refine e_iload_n X dX12_gifts_79 rfl rfl ?_
      refine e_imul X dX12_gifts_80 ?_
      refine e_iadd X dX12_gifts_81 ?_
      refine e_iconst X 3 dX12_gifts_82 rfl ?_
      refine e_iadd X dX12_gifts_83 ?_
      obtain ⟨i9, h_i9, hB⟩ := bindT_out hB
      obtain ⟨c10, hB⟩ := chk_out hB
      refine e_iald X (j := i9.toNatClampNeg) h_i9 rfl (inb_in c10) rfl dX12_gifts_84 ?_
      refine e_iload X dX12_gifts_85 rfl ?_
      refine e_iadd X dX12_gifts_87 ?_
      obtain ⟨z11, h_z11, hB⟩ := obind_out hB
      refine e_callVv X (σ1 := z11) [.int v1, .int 3, .int (((σ8 336 i9.toNatClampNeg) + v4))] [] (C_M_told (Cx_gok X) σ8 v1 3 (((σ8 336 i9.toNatClampNeg) + v4)) h_z11) gv_X12_141 yk_X12_told rfl (ent_lt (rfl : entTbl[333]? = some (13, 0))) (ent_at (rfl : entTbl[333]? = some (13, 0)) _) (rfl : vCl[11]? = some (RX12, TX12, 24)) ⟨Nat.le_of_ble_eq_true rfl, Nat.le_of_ble_eq_true rfl⟩ ⟨Nat.le_of_ble_eq_true rfl, Nat.le_of_ble_eq_true rfl⟩ (Nat.le_of_ble_eq_true rfl) dX12_gifts_88 rfl ?_
      refine e_iconst X 0 dX12_gifts_91 rfl ?_
      refine e_istore X rfl dX12_gifts_92 (by decide) ?_
      obtain ⟨z20, h_z20, hB⟩ := obind_out hB
      refine e_le (L_M_gifts_94 X hr v1 v2 v3 v4 _ 0 z11 h_z20 rfl (by decide) ?_) (And.intro rfl (And.intro rfl (And.intro rfl (And.intro rfl (And.intro rfl (And.intro rfl (trivial)))))))
      refine e_iconst X 0 dX12_gifts_144 rfl ?_
      refine e_istore X rfl dX12_gifts_145 (by decide) ?_
      obtain ⟨z31, h_z31, hB⟩ := obind_out hB
      refine e_le (L_M_gifts_147 X hr v1 v2 v3 v4 _ 0 z20 h_z31 rfl (by decide) ?_) (And.intro rfl (And.intro rfl (And.intro rfl (And.intro rfl (And.intro rfl (And.intro rfl (trivial)))))))
      refine e_iinc X (-1) dX12_gifts_191 rfl rfl (by decide) ?_
      obtain ⟨x32, h_x32, hB⟩ := bindT_out hB
      rw [← h_x32]
      refine e_goto X 41 dX12_gifts_194 (by decide) ?_
      have hy9 := Option.some.inj hB; change (.inl ((x32, z31))) = y9 at hy9; subst hy9
      exact e_le (ih x32 z31 hF hK) (And.intro rfl (And.intro rfl (And.intro rfl (And.intro rfl (And.intro rfl (trivial))))))
set_option maxRecDepth 20000 in
set_option maxHeartbeats 4000000 in
theorem C_M_gifts (hG : Gok l Γ D s0) (σ : Mem) (v1 : Int32) (v2 : Int32) (v3 : Int32)  {out : Mem × Int32} (hF : F_M_gifts σ v1 v2 v3 = some out) : CT l Γ D s0 yX12_gifts cX12_gifts 6 (some .int) (83) 0 0 (1803) σ [.ref (Γ.1 + 333), .int v1, .int v2, .int v3] (PI (some (.int out.2)) out.1) := by
  unfold F_M_gifts at hF
  refine e_met (own := RX12) hG (by decide +kernel) rfl rfl (Nat.le_of_ble_eq_true rfl) ?_
  intro p e s m args below meth c X hr
  show E p l e _ s m args below meth c Γ D 0 0 _ σ 0 [some (.ref (Γ.1 + 333)), some (.int v1), some (.int v2), some (.int v3), none, none] []
  refine e_aload_n X dX12_gifts_0 rfl rfl ?_
  refine e_aload_n X dX12_gifts_1 rfl rfl ?_
  refine e_iload_n X dX12_gifts_2 rfl rfl ?_
  refine e_iload_n X dX12_gifts_3 rfl rfl ?_
  refine e_bipush X 20 dX12_gifts_4 rfl ?_
  refine e_iload_n X dX12_gifts_6 rfl rfl ?_
  obtain ⟨z1, h_z1, hF⟩ := obind_out hF
  refine e_callVi X (r := z1) (σ1 := σ) [.int v1, .int v2, .int 20, .int v3] [.ref (Γ.1 + 333)] (C_M_badMatch (Cx_gok X) σ v1 v2 20 v3 h_z1) gv_X12_317 yk_X12_badMatch rfl (ent_lt (rfl : entTbl[333]? = some (13, 0))) (ent_at (rfl : entTbl[333]? = some (13, 0)) _) (rfl : vCl[11]? = some (RX12, TX12, 24)) ⟨Nat.le_of_ble_eq_true rfl, Nat.le_of_ble_eq_true rfl⟩ ⟨Nat.le_of_ble_eq_true rfl, Nat.le_of_ble_eq_true rfl⟩ (Nat.le_of_ble_eq_true rfl) dX12_gifts_7 rfl ?_
  obtain ⟨σ2, h_σ2, hF⟩ := bindT_out hF
  refine pu_M_thrown X wf_X12_51 dX12_gifts_10 h_σ2 ?_
  refine e_aload_n X dX12_gifts_13 rfl rfl ?_
  refine ge_M_thrown X wf_X12_51 dX12_gifts_14 ?_
  refine e_if_le X 22 dX12_gifts_17 (by decide) (fun c3 => ?_) (fun c3 => ?_)
  · skip
    rw [if_neg c3] at hF
    refine e_aload_n X dX12_gifts_22 rfl rfl ?_
    refine e_iload_n X dX12_gifts_23 rfl rfl ?_
    refine e_iconst X 4 dX12_gifts_24 rfl ?_
    obtain ⟨z4, h_z4, hF⟩ := obind_out hF
    refine e_callVi X (r := z4) (σ1 := σ2) [.int v1, .int 4] [] (C_M_ofMatch (Cx_gok X) σ2 v1 4 h_z4) gv_X12_58 yk_X12_ofMatch rfl (ent_lt (rfl : entTbl[333]? = some (13, 0))) (ent_at (rfl : entTbl[333]? = some (13, 0)) _) (rfl : vCl[11]? = some (RX12, TX12, 24)) ⟨Nat.le_of_ble_eq_true rfl, Nat.le_of_ble_eq_true rfl⟩ ⟨Nat.le_of_ble_eq_true rfl, Nat.le_of_ble_eq_true rfl⟩ (Nat.le_of_ble_eq_true rfl) dX12_gifts_25 rfl ?_
    refine e_iconst X 1 dX12_gifts_28 rfl ?_
    refine e_icmp_ne X 34 dX12_gifts_29 (by decide) (fun c5 => ?_) (fun c5 => ?_)
    · skip
      rw [if_neg c5] at hF
      refine e_aload_n X dX12_gifts_34 rfl rfl ?_
      obtain ⟨z6, h_z6, hF⟩ := obind_out hF
      refine e_callVv X (σ1 := z6) [] [] (C_M_putsAside (Cx_gok X) σ2 h_z6) gv_X12_188 yk_X12_putsAside rfl (ent_lt (rfl : entTbl[333]? = some (13, 0))) (ent_at (rfl : entTbl[333]? = some (13, 0)) _) (rfl : vCl[11]? = some (RX12, TX12, 24)) ⟨Nat.le_of_ble_eq_true rfl, Nat.le_of_ble_eq_true rfl⟩ ⟨Nat.le_of_ble_eq_true rfl, Nat.le_of_ble_eq_true rfl⟩ (Nat.le_of_ble_eq_true rfl) dX12_gifts_35 rfl ?_
      refine e_iload_n X dX12_gifts_38 rfl rfl ?_
      refine e_istore X rfl dX12_gifts_39 (by decide) ?_
      obtain ⟨z33, h_z33, hF⟩ := obind_out hF
      refine e_le (L_M_gifts_41 X hr v1 v2 v3 _ v2 z6 h_z33 ?_) (And.intro rfl (And.intro rfl (And.intro rfl (And.intro rfl (And.intro rfl (trivial))))))
      refine e_aload_n X dX12_gifts_197 rfl rfl ?_
      refine ge_M_gifts X wf_X12_32 dX12_gifts_198 ?_
      refine e_aload_n X dX12_gifts_201 rfl rfl ?_
      refine e_iload_n X dX12_gifts_202 rfl rfl ?_
      obtain ⟨z34, h_z34, hF⟩ := obind_out hF
      refine e_callVi X (r := z34) (σ1 := z33.2) [.int v1] [.ref (Γ.1 + 340)] (C_M_ofAside (Cx_gok X) z33.2 v1 h_z34) gv_X12_338 yk_X12_ofAside rfl (ent_lt (rfl : entTbl[333]? = some (13, 0))) (ent_at (rfl : entTbl[333]? = some (13, 0)) _) (rfl : vCl[11]? = some (RX12, TX12, 24)) ⟨Nat.le_of_ble_eq_true rfl, Nat.le_of_ble_eq_true rfl⟩ ⟨Nat.le_of_ble_eq_true rfl, Nat.le_of_ble_eq_true rfl⟩ (Nat.le_of_ble_eq_true rfl) dX12_gifts_203 rfl ?_
      obtain ⟨c35, hF⟩ := chk_out hF
      refine e_iald X (j := z34.toNatClampNeg) rfl rfl (inb_in c35) rfl dX12_gifts_206 ?_
      obtain ⟨x36, h_x36, hF⟩ := bindT_out hF
      refine e_istore X h_x36 dX12_gifts_207 (by decide) ?_
      refine e_aload_n X dX12_gifts_209 rfl rfl ?_
      obtain ⟨z37, h_z37, hF⟩ := obind_out hF
      refine e_callVv X (σ1 := z37) [] [] (C_M_comesBack (Cx_gok X) z33.2 h_z37) gv_X12_198 yk_X12_comesBack rfl (ent_lt (rfl : entTbl[333]? = some (13, 0))) (ent_at (rfl : entTbl[333]? = some (13, 0)) _) (rfl : vCl[11]? = some (RX12, TX12, 24)) ⟨Nat.le_of_ble_eq_true rfl, Nat.le_of_ble_eq_true rfl⟩ ⟨Nat.le_of_ble_eq_true rfl, Nat.le_of_ble_eq_true rfl⟩ (Nat.le_of_ble_eq_true rfl) dX12_gifts_210 rfl ?_
      refine e_iload X dX12_gifts_213 rfl ?_
      refine e_bipush X 40 dX12_gifts_215 rfl ?_
      refine e_icmp_le X 224 dX12_gifts_217 (by decide) (fun c38 => ?_) (fun c38 => ?_)
      · skip
        rw [if_neg c38] at hF
        refine e_iload X dX12_gifts_224 rfl ?_
        exact e_iret X hr dX12_gifts_226 (Nat.le_of_ble_eq_true rfl) (Nat.le_of_ble_eq_true rfl) (by cases hF; exact ⟨rfl, rfl⟩)
      · skip
        rw [if_pos c38] at hF
        refine e_iconst X (-1) dX12_gifts_220 rfl ?_
        refine e_goto X 226 dX12_gifts_221 (by decide) ?_
        exact e_iret X hr dX12_gifts_226 (Nat.le_of_ble_eq_true rfl) (Nat.le_of_ble_eq_true rfl) (by cases hF; exact ⟨rfl, rfl⟩)
    · skip
      rw [if_pos c5] at hF
      refine e_iconst X (-1) dX12_gifts_32 rfl ?_
      exact e_iret X hr dX12_gifts_33 (Nat.le_of_ble_eq_true rfl) (Nat.le_of_ble_eq_true rfl) (by cases hF; exact ⟨rfl, rfl⟩)
  · skip
    rw [if_pos c3] at hF
    refine e_iconst X 0 dX12_gifts_20 rfl ?_
    exact e_iret X hr dX12_gifts_21 (Nat.le_of_ble_eq_true rfl) (Nat.le_of_ble_eq_true rfl) (by cases hF; exact ⟨rfl, rfl⟩)
set_option maxRecDepth 20000 in
set_option maxHeartbeats 4000000 in
theorem C_M_trial (hG : Gok l Γ D s0) (σ : Mem) (v1 : Int32) (v2 : Int32)  {out : Mem × Int32} (hF : F_M_trial σ v1 v2 = some out) : CT l Γ D s0 yX12_trial cX12_trial 5 (some .int) (84) 0 0 (1828) σ [.ref (Γ.1 + 333), .int v1, .int v2] (PI (some (.int out.2)) out.1) := by
  unfold F_M_trial at hF
  refine e_met (own := RX12) hG (by decide +kernel) rfl rfl (Nat.le_of_ble_eq_true rfl) ?_
  intro p e s m args below meth c X hr
  show E p l e _ s m args below meth c Γ D 0 0 _ σ 0 [some (.ref (Γ.1 + 333)), some (.int v1), some (.int v2), none, none] []
  refine e_aload_n X dX12_trial_0 rfl rfl ?_
  refine e_iload_n X dX12_trial_1 rfl rfl ?_
  refine e_iconst X 0 dX12_trial_2 rfl ?_
  refine e_bipush X 40 dX12_trial_3 rfl ?_
  refine e_callSi X (r := (F_M_isIn σ v1 0 40)) (σ1 := σ) [.int v1, .int 0, .int 40] [.ref (Γ.1 + 333)] (C_M_isIn (Cx_gok X) σ v1 0 40) gs_X12_54 yk_X12_isIn rfl ⟨Nat.le_of_ble_eq_true rfl, Nat.le_of_ble_eq_true rfl⟩ ⟨Nat.le_of_ble_eq_true rfl, Nat.le_of_ble_eq_true rfl⟩ (Nat.le_of_ble_eq_true rfl) dX12_trial_5 rfl ?_
  refine e_if_ne X 15 dX12_trial_8 (by decide) (fun c1 => ?_) (fun c1 => ?_)
  · skip
    rw [if_neg c1] at hF
    refine e_iconst X 0 dX12_trial_15 rfl ?_
    obtain ⟨σ2, h_σ2, hF⟩ := bindT_out hF
    refine pu_M_thrown X wf_X12_51 dX12_trial_16 h_σ2 ?_
    refine e_aload_n X dX12_trial_19 rfl rfl ?_
    refine ge_M_thrown X wf_X12_51 dX12_trial_20 ?_
    refine e_if_le X 28 dX12_trial_23 (by decide) (fun c3 => ?_) (fun c3 => ?_)
    · skip
      rw [if_neg c3] at hF
      refine e_aload_n X dX12_trial_28 rfl rfl ?_
      obtain ⟨z4, h_z4, hF⟩ := obind_out hF
      refine e_callVv X (σ1 := z4) [] [] (C_M_putsAside (Cx_gok X) σ2 h_z4) gv_X12_188 yk_X12_putsAside rfl (ent_lt (rfl : entTbl[333]? = some (13, 0))) (ent_at (rfl : entTbl[333]? = some (13, 0)) _) (rfl : vCl[11]? = some (RX12, TX12, 24)) ⟨Nat.le_of_ble_eq_true rfl, Nat.le_of_ble_eq_true rfl⟩ ⟨Nat.le_of_ble_eq_true rfl, Nat.le_of_ble_eq_true rfl⟩ (Nat.le_of_ble_eq_true rfl) dX12_trial_29 rfl ?_
      refine e_aload_n X dX12_trial_32 rfl rfl ?_
      refine e_iload_n X dX12_trial_33 rfl rfl ?_
      obtain ⟨z5, h_z5, hF⟩ := obind_out hF
      refine e_callVi X (r := z5.2) (σ1 := z5.1) [.int v1] [] (C_M_goes (Cx_gok X) z4 v1 h_z5) gv_X12_314 yk_X12_goes rfl (ent_lt (rfl : entTbl[333]? = some (13, 0))) (ent_at (rfl : entTbl[333]? = some (13, 0)) _) (rfl : vCl[11]? = some (RX12, TX12, 24)) ⟨Nat.le_of_ble_eq_true rfl, Nat.le_of_ble_eq_true rfl⟩ ⟨Nat.le_of_ble_eq_true rfl, Nat.le_of_ble_eq_true rfl⟩ (Nat.le_of_ble_eq_true rfl) dX12_trial_34 rfl ?_
      refine e_istore_n X rfl dX12_trial_37 rfl (by decide) ?_
      refine e_iload_n X dX12_trial_38 rfl rfl ?_
      refine e_if_eq X 49 dX12_trial_39 (by decide) (fun c6 => ?_) (fun c6 => ?_)
      · skip
        rw [if_pos c6] at hF
        refine e_iload_n X dX12_trial_49 rfl rfl ?_
        refine e_istore X rfl dX12_trial_50 (by decide) ?_
        refine e_aload_n X dX12_trial_52 rfl rfl ?_
        obtain ⟨z7, h_z7, hF⟩ := obind_out hF
        refine e_callVv X (σ1 := z7) [] [] (C_M_comesBack (Cx_gok X) z5.1 h_z7) gv_X12_198 yk_X12_comesBack rfl (ent_lt (rfl : entTbl[333]? = some (13, 0))) (ent_at (rfl : entTbl[333]? = some (13, 0)) _) (rfl : vCl[11]? = some (RX12, TX12, 24)) ⟨Nat.le_of_ble_eq_true rfl, Nat.le_of_ble_eq_true rfl⟩ ⟨Nat.le_of_ble_eq_true rfl, Nat.le_of_ble_eq_true rfl⟩ (Nat.le_of_ble_eq_true rfl) dX12_trial_53 rfl ?_
        refine e_iload X dX12_trial_56 rfl ?_
        exact e_iret X hr dX12_trial_58 (Nat.le_of_ble_eq_true rfl) (Nat.le_of_ble_eq_true rfl) (by cases hF; exact ⟨rfl, rfl⟩)
      · skip
        rw [if_neg c6] at hF
        refine e_aload_n X dX12_trial_42 rfl rfl ?_
        obtain ⟨z8, h_z8, hF⟩ := obind_out hF
        refine e_callVi X (r := z8) (σ1 := z5.1) [] [] (C_M_ruinedOnes (Cx_gok X) z5.1 h_z8) gv_X12_366 yk_X12_ruinedOnes rfl (ent_lt (rfl : entTbl[333]? = some (13, 0))) (ent_at (rfl : entTbl[333]? = some (13, 0)) _) (rfl : vCl[11]? = some (RX12, TX12, 24)) ⟨Nat.le_of_ble_eq_true rfl, Nat.le_of_ble_eq_true rfl⟩ ⟨Nat.le_of_ble_eq_true rfl, Nat.le_of_ble_eq_true rfl⟩ (Nat.le_of_ble_eq_true rfl) dX12_trial_43 rfl ?_
        refine e_goto X 50 dX12_trial_46 (by decide) ?_
        refine e_istore X rfl dX12_trial_50 (by decide) ?_
        refine e_aload_n X dX12_trial_52 rfl rfl ?_
        obtain ⟨z9, h_z9, hF⟩ := obind_out hF
        refine e_callVv X (σ1 := z9) [] [] (C_M_comesBack (Cx_gok X) z5.1 h_z9) gv_X12_198 yk_X12_comesBack rfl (ent_lt (rfl : entTbl[333]? = some (13, 0))) (ent_at (rfl : entTbl[333]? = some (13, 0)) _) (rfl : vCl[11]? = some (RX12, TX12, 24)) ⟨Nat.le_of_ble_eq_true rfl, Nat.le_of_ble_eq_true rfl⟩ ⟨Nat.le_of_ble_eq_true rfl, Nat.le_of_ble_eq_true rfl⟩ (Nat.le_of_ble_eq_true rfl) dX12_trial_53 rfl ?_
        refine e_iload X dX12_trial_56 rfl ?_
        exact e_iret X hr dX12_trial_58 (Nat.le_of_ble_eq_true rfl) (Nat.le_of_ble_eq_true rfl) (by cases hF; exact ⟨rfl, rfl⟩)
    · skip
      rw [if_pos c3] at hF
      refine e_iconst X 0 dX12_trial_26 rfl ?_
      exact e_iret X hr dX12_trial_27 (Nat.le_of_ble_eq_true rfl) (Nat.le_of_ble_eq_true rfl) (by cases hF; exact ⟨rfl, rfl⟩)
  · skip
    rw [if_pos c1] at hF
    refine e_iconst X 1 dX12_trial_11 rfl ?_
    refine e_goto X 16 dX12_trial_12 (by decide) ?_
    obtain ⟨σ10, h_σ10, hF⟩ := bindT_out hF
    refine pu_M_thrown X wf_X12_51 dX12_trial_16 h_σ10 ?_
    refine e_aload_n X dX12_trial_19 rfl rfl ?_
    refine ge_M_thrown X wf_X12_51 dX12_trial_20 ?_
    refine e_if_le X 28 dX12_trial_23 (by decide) (fun c11 => ?_) (fun c11 => ?_)
    · skip
      rw [if_neg c11] at hF
      refine e_aload_n X dX12_trial_28 rfl rfl ?_
      obtain ⟨z12, h_z12, hF⟩ := obind_out hF
      refine e_callVv X (σ1 := z12) [] [] (C_M_putsAside (Cx_gok X) σ10 h_z12) gv_X12_188 yk_X12_putsAside rfl (ent_lt (rfl : entTbl[333]? = some (13, 0))) (ent_at (rfl : entTbl[333]? = some (13, 0)) _) (rfl : vCl[11]? = some (RX12, TX12, 24)) ⟨Nat.le_of_ble_eq_true rfl, Nat.le_of_ble_eq_true rfl⟩ ⟨Nat.le_of_ble_eq_true rfl, Nat.le_of_ble_eq_true rfl⟩ (Nat.le_of_ble_eq_true rfl) dX12_trial_29 rfl ?_
      refine e_aload_n X dX12_trial_32 rfl rfl ?_
      refine e_iload_n X dX12_trial_33 rfl rfl ?_
      obtain ⟨z13, h_z13, hF⟩ := obind_out hF
      refine e_callVi X (r := z13.2) (σ1 := z13.1) [.int v1] [] (C_M_goes (Cx_gok X) z12 v1 h_z13) gv_X12_314 yk_X12_goes rfl (ent_lt (rfl : entTbl[333]? = some (13, 0))) (ent_at (rfl : entTbl[333]? = some (13, 0)) _) (rfl : vCl[11]? = some (RX12, TX12, 24)) ⟨Nat.le_of_ble_eq_true rfl, Nat.le_of_ble_eq_true rfl⟩ ⟨Nat.le_of_ble_eq_true rfl, Nat.le_of_ble_eq_true rfl⟩ (Nat.le_of_ble_eq_true rfl) dX12_trial_34 rfl ?_
      refine e_istore_n X rfl dX12_trial_37 rfl (by decide) ?_
      refine e_iload_n X dX12_trial_38 rfl rfl ?_
      refine e_if_eq X 49 dX12_trial_39 (by decide) (fun c14 => ?_) (fun c14 => ?_)
      · skip
        rw [if_pos c14] at hF
        refine e_iload_n X dX12_trial_49 rfl rfl ?_
        refine e_istore X rfl dX12_trial_50 (by decide) ?_
        refine e_aload_n X dX12_trial_52 rfl rfl ?_
        obtain ⟨z15, h_z15, hF⟩ := obind_out hF
        refine e_callVv X (σ1 := z15) [] [] (C_M_comesBack (Cx_gok X) z13.1 h_z15) gv_X12_198 yk_X12_comesBack rfl (ent_lt (rfl : entTbl[333]? = some (13, 0))) (ent_at (rfl : entTbl[333]? = some (13, 0)) _) (rfl : vCl[11]? = some (RX12, TX12, 24)) ⟨Nat.le_of_ble_eq_true rfl, Nat.le_of_ble_eq_true rfl⟩ ⟨Nat.le_of_ble_eq_true rfl, Nat.le_of_ble_eq_true rfl⟩ (Nat.le_of_ble_eq_true rfl) dX12_trial_53 rfl ?_
        refine e_iload X dX12_trial_56 rfl ?_
        exact e_iret X hr dX12_trial_58 (Nat.le_of_ble_eq_true rfl) (Nat.le_of_ble_eq_true rfl) (by cases hF; exact ⟨rfl, rfl⟩)
      · skip
        rw [if_neg c14] at hF
        refine e_aload_n X dX12_trial_42 rfl rfl ?_
        obtain ⟨z16, h_z16, hF⟩ := obind_out hF
        refine e_callVi X (r := z16) (σ1 := z13.1) [] [] (C_M_ruinedOnes (Cx_gok X) z13.1 h_z16) gv_X12_366 yk_X12_ruinedOnes rfl (ent_lt (rfl : entTbl[333]? = some (13, 0))) (ent_at (rfl : entTbl[333]? = some (13, 0)) _) (rfl : vCl[11]? = some (RX12, TX12, 24)) ⟨Nat.le_of_ble_eq_true rfl, Nat.le_of_ble_eq_true rfl⟩ ⟨Nat.le_of_ble_eq_true rfl, Nat.le_of_ble_eq_true rfl⟩ (Nat.le_of_ble_eq_true rfl) dX12_trial_43 rfl ?_
        refine e_goto X 50 dX12_trial_46 (by decide) ?_
        refine e_istore X rfl dX12_trial_50 (by decide) ?_
        refine e_aload_n X dX12_trial_52 rfl rfl ?_
        obtain ⟨z17, h_z17, hF⟩ := obind_out hF
        refine e_callVv X (σ1 := z17) [] [] (C_M_comesBack (Cx_gok X) z13.1 h_z17) gv_X12_198 yk_X12_comesBack rfl (ent_lt (rfl : entTbl[333]? = some (13, 0))) (ent_at (rfl : entTbl[333]? = some (13, 0)) _) (rfl : vCl[11]? = some (RX12, TX12, 24)) ⟨Nat.le_of_ble_eq_true rfl, Nat.le_of_ble_eq_true rfl⟩ ⟨Nat.le_of_ble_eq_true rfl, Nat.le_of_ble_eq_true rfl⟩ (Nat.le_of_ble_eq_true rfl) dX12_trial_53 rfl ?_
        refine e_iload X dX12_trial_56 rfl ?_
        exact e_iret X hr dX12_trial_58 (Nat.le_of_ble_eq_true rfl) (Nat.le_of_ble_eq_true rfl) (by cases hF; exact ⟨rfl, rfl⟩)
    · skip
      rw [if_pos c11] at hF
      refine e_iconst X 0 dX12_trial_26 rfl ?_
      exact e_iret X hr dX12_trial_27 (Nat.le_of_ble_eq_true rfl) (Nat.le_of_ble_eq_true rfl) (by cases hF; exact ⟨rfl, rfl⟩)
set_option maxRecDepth 20000 in
set_option maxHeartbeats 4000000 in
theorem L_M_span_37 (X : Cx p l s m args meth c Γ D s0 RX12 cX12_span 6) (hr : meth.sig.returnType = (some .int)) (v1 : Int32) (v2 : Int32)  : ∀ (n : Nat) (v4 : Int32) (v3 : Int32) (σ : Mem) {z : Int32 × Mem}, forSO (fun i s => F_M_span_37_b v1 v2 i s.1 s.2) n v4 (v3, σ) = some z → n = cle v4 6 → ¬ v4 < 0 → (E p l e ({ frames := 84, cells := 0, slots := 0, locals := 1828 } : Room) s m args below meth c Γ D 0 0 (MQ below (QcA Γ D Pst) args s 0 0 (frB Γ)) z.2 100 [some (.ref (Γ.1 + 333)), some (.int v1), some (.int v2), some (.int z.1), none, none] []) → E p l e ({ frames := 84, cells := 0, slots := 0, locals := 1828 } : Room) s m args below meth c Γ D 0 0 (MQ below (QcA Γ D Pst) args s 0 0 (frB Γ)) σ 37 [some (.ref (Γ.1 + 333)), some (.int v1), some (.int v2), some (.int v3), some (.int v4), none] [] := by
  intro n
  induction n with
  | zero =>
    intro v4 v3 σ z hF hn h0 hK
    refine e_iload X dX12_span_37 rfl ?_
    refine e_bipush X 6 dX12_span_39 rfl ?_
    refine e_icmp_gt X 100 dX12_span_41 (by decide) (fun c13 => ?_) (fun c13 => ?_)
    · skip
      have hz9 := Option.some.inj hF; change ((v3, σ)) = z at hz9; subst hz9
      exact e_le hK (And.intro rfl (And.intro rfl (And.intro rfl (And.intro rfl (trivial)))))
    · skip
      exact absurd (cle0 hn) c13
  | succ n ih =>
    intro v4 v3 σ z hF hn h0 hK
    obtain ⟨y9, hB, hF⟩ := forSO_step hF
    change F_M_span_37_b v1 v2 v4 v3 σ = some y9 at hB
    unfold F_M_span_37_b at hB
    refine e_iload X dX12_span_37 rfl ?_
    refine e_bipush X 6 dX12_span_39 rfl ?_
    refine e_icmp_gt X 100 dX12_span_41 (by decide) (fun c5 => ?_) (fun c5 => ?_)
    · skip
      exact absurd c5 (cleS hn)
    · skip
      refine e_aload_n X dX12_span_44 rfl rfl ?_
      refine ge_M_m X wf_X12_7 dX12_span_45 ?_
      refine e_bipush X 12 dX12_span_48 rfl ?_
      refine e_iload X dX12_span_50 rfl ?_
      obtain ⟨σ6, h_σ6, hB⟩ := bindT_out hB
      refine e_iast X (j := 12) rfl rfl (vp_in_iff.mpr (by decide)) rfl dX12_span_52 h_σ6 ?_
      refine e_aload_n X dX12_span_53 rfl rfl ?_
      refine e_iload_n X dX12_span_54 rfl rfl ?_
      obtain ⟨z7, h_z7, hB⟩ := obind_out hB
      refine e_callVi X (r := z7.2) (σ1 := z7.1) [.int v1] [] (C_M_goes (Cx_gok X) σ6 v1 h_z7) gv_X12_314 yk_X12_goes rfl (ent_lt (rfl : entTbl[333]? = some (13, 0))) (ent_at (rfl : entTbl[333]? = some (13, 0)) _) (rfl : vCl[11]? = some (RX12, TX12, 24)) ⟨Nat.le_of_ble_eq_true rfl, Nat.le_of_ble_eq_true rfl⟩ ⟨Nat.le_of_ble_eq_true rfl, Nat.le_of_ble_eq_true rfl⟩ (Nat.le_of_ble_eq_true rfl) dX12_span_55 rfl ?_
      refine e_istore X rfl dX12_span_58 (by decide) ?_
      refine e_aload_n X dX12_span_60 rfl rfl ?_
      obtain ⟨z8, h_z8, hB⟩ := obind_out hB
      refine e_callVv X (σ1 := z8) [] [] (C_M_comesBack (Cx_gok X) z7.1 h_z8) gv_X12_198 yk_X12_comesBack rfl (ent_lt (rfl : entTbl[333]? = some (13, 0))) (ent_at (rfl : entTbl[333]? = some (13, 0)) _) (rfl : vCl[11]? = some (RX12, TX12, 24)) ⟨Nat.le_of_ble_eq_true rfl, Nat.le_of_ble_eq_true rfl⟩ ⟨Nat.le_of_ble_eq_true rfl, Nat.le_of_ble_eq_true rfl⟩ (Nat.le_of_ble_eq_true rfl) dX12_span_61 rfl ?_
      refine e_iload_n X dX12_span_64 rfl rfl ?_
      refine e_iconst X (-1) dX12_span_65 rfl ?_
      refine e_icmp_ne X 74 dX12_span_66 (by decide) (fun c9 => ?_) (fun c9 => ?_)
      · skip
        rw [if_neg c9] at hB
        refine e_iload_n X dX12_span_74 rfl rfl ?_
        refine e_if_eq X 87 dX12_span_75 (by decide) (fun c10 => ?_) (fun c10 => ?_)
        · skip
          rw [if_pos c10] at hB
          refine e_iload_n X dX12_span_87 rfl rfl ?_
          refine e_iload X dX12_span_88 rfl ?_
          refine e_callSi X (r := (F_M_lesser z8 v3 z7.2)) (σ1 := z8) [.int v3, .int z7.2] [] (C_M_lesser (Cx_gok X) z8 v3 z7.2) gs_X12_263 yk_X12_lesser rfl ⟨Nat.le_of_ble_eq_true rfl, Nat.le_of_ble_eq_true rfl⟩ ⟨Nat.le_of_ble_eq_true rfl, Nat.le_of_ble_eq_true rfl⟩ (Nat.le_of_ble_eq_true rfl) dX12_span_90 rfl ?_
          obtain ⟨x11, h_x11, hB⟩ := bindT_out hB
          refine e_istore_n X h_x11 dX12_span_93 rfl (by decide) ?_
          refine e_iinc X 1 dX12_span_94 rfl rfl (by decide) ?_
          refine e_goto X 37 dX12_span_97 (by decide) ?_
          have hy9 := Option.some.inj hB; change ((x11, z8)) = y9 at hy9; subst hy9
          exact e_le (ih _ x11 z8 hF (cleN (by decide) hn) (nnN h0 (cle_hi (by decide) hn)) hK) (And.intro rfl (And.intro rfl (And.intro rfl (And.intro rfl (And.intro rfl (trivial))))))
        · skip
          rw [if_neg c10] at hB
          refine e_iload_n X dX12_span_78 rfl rfl ?_
          refine e_iload X dX12_span_79 rfl ?_
          refine e_callSi X (r := (F_M_greater z8 v3 z7.2)) (σ1 := z8) [.int v3, .int z7.2] [] (C_M_greater (Cx_gok X) z8 v3 z7.2) gs_X12_266 yk_X12_greater rfl ⟨Nat.le_of_ble_eq_true rfl, Nat.le_of_ble_eq_true rfl⟩ ⟨Nat.le_of_ble_eq_true rfl, Nat.le_of_ble_eq_true rfl⟩ (Nat.le_of_ble_eq_true rfl) dX12_span_81 rfl ?_
          refine e_goto X 93 dX12_span_84 (by decide) ?_
          obtain ⟨x12, h_x12, hB⟩ := bindT_out hB
          refine e_istore_n X h_x12 dX12_span_93 rfl (by decide) ?_
          refine e_iinc X 1 dX12_span_94 rfl rfl (by decide) ?_
          refine e_goto X 37 dX12_span_97 (by decide) ?_
          have hy9 := Option.some.inj hB; change ((x12, z8)) = y9 at hy9; subst hy9
          exact e_le (ih _ x12 z8 hF (cleN (by decide) hn) (nnN h0 (cle_hi (by decide) hn)) hK) (And.intro rfl (And.intro rfl (And.intro rfl (And.intro rfl (And.intro rfl (trivial))))))
      · skip
        rw [if_pos c9] at hB
        refine e_iload X dX12_span_69 rfl ?_
        refine e_goto X 93 dX12_span_71 (by decide) ?_
        refine e_istore_n X rfl dX12_span_93 rfl (by decide) ?_
        refine e_iinc X 1 dX12_span_94 rfl rfl (by decide) ?_
        refine e_goto X 37 dX12_span_97 (by decide) ?_
        have hy9 := Option.some.inj hB; change ((z7.2, z8)) = y9 at hy9; subst hy9
        exact e_le (ih _ z7.2 z8 hF (cleN (by decide) hn) (nnN h0 (cle_hi (by decide) hn)) hK) (And.intro rfl (And.intro rfl (And.intro rfl (And.intro rfl (And.intro rfl (trivial))))))
set_option maxRecDepth 20000 in
set_option maxHeartbeats 4000000 in
theorem C_M_span (hG : Gok l Γ D s0) (σ : Mem) (v1 : Int32) (v2 : Int32)  {out : Mem × Int32} (hF : F_M_span σ v1 v2 = some out) : CT l Γ D s0 yX12_span cX12_span 6 (some .int) (84) 0 0 (1828) σ [.ref (Γ.1 + 333), .int v1, .int v2] (PI (some (.int out.2)) out.1) := by
  unfold F_M_span at hF
  refine e_met (own := RX12) hG (by decide +kernel) rfl rfl (Nat.le_of_ble_eq_true rfl) ?_
  intro p e s m args below meth c X hr
  show E p l e _ s m args below meth c Γ D 0 0 _ σ 0 [some (.ref (Γ.1 + 333)), some (.int v1), some (.int v2), none, none, none] []
  refine e_aload_n X dX12_span_0 rfl rfl ?_
  refine e_iload_n X dX12_span_1 rfl rfl ?_
  refine e_iconst X 0 dX12_span_2 rfl ?_
  refine e_bipush X 40 dX12_span_3 rfl ?_
  refine e_callSi X (r := (F_M_isIn σ v1 0 40)) (σ1 := σ) [.int v1, .int 0, .int 40] [.ref (Γ.1 + 333)] (C_M_isIn (Cx_gok X) σ v1 0 40) gs_X12_54 yk_X12_isIn rfl ⟨Nat.le_of_ble_eq_true rfl, Nat.le_of_ble_eq_true rfl⟩ ⟨Nat.le_of_ble_eq_true rfl, Nat.le_of_ble_eq_true rfl⟩ (Nat.le_of_ble_eq_true rfl) dX12_span_5 rfl ?_
  refine e_if_ne X 15 dX12_span_8 (by decide) (fun c1 => ?_) (fun c1 => ?_)
  · skip
    rw [if_neg c1] at hF
    refine e_iconst X 0 dX12_span_15 rfl ?_
    obtain ⟨σ2, h_σ2, hF⟩ := bindT_out hF
    refine pu_M_thrown X wf_X12_51 dX12_span_16 h_σ2 ?_
    refine e_aload_n X dX12_span_19 rfl rfl ?_
    refine ge_M_thrown X wf_X12_51 dX12_span_20 ?_
    refine e_if_le X 28 dX12_span_23 (by decide) (fun c3 => ?_) (fun c3 => ?_)
    · skip
      rw [if_neg c3] at hF
      refine e_aload_n X dX12_span_28 rfl rfl ?_
      obtain ⟨z4, h_z4, hF⟩ := obind_out hF
      refine e_callVv X (σ1 := z4) [] [] (C_M_putsAside (Cx_gok X) σ2 h_z4) gv_X12_188 yk_X12_putsAside rfl (ent_lt (rfl : entTbl[333]? = some (13, 0))) (ent_at (rfl : entTbl[333]? = some (13, 0)) _) (rfl : vCl[11]? = some (RX12, TX12, 24)) ⟨Nat.le_of_ble_eq_true rfl, Nat.le_of_ble_eq_true rfl⟩ ⟨Nat.le_of_ble_eq_true rfl, Nat.le_of_ble_eq_true rfl⟩ (Nat.le_of_ble_eq_true rfl) dX12_span_29 rfl ?_
      refine e_iconst X (-1) dX12_span_32 rfl ?_
      refine e_istore_n X rfl dX12_span_33 rfl (by decide) ?_
      refine e_iconst X 1 dX12_span_34 rfl ?_
      refine e_istore X rfl dX12_span_35 (by decide) ?_
      obtain ⟨z14, h_z14, hF⟩ := obind_out hF
      refine e_le (L_M_span_37 X hr v1 v2 _ 1 ((-1)) z4 h_z14 rfl (by decide) ?_) (And.intro rfl (And.intro rfl (And.intro rfl (And.intro rfl (And.intro rfl (trivial))))))
      refine e_iload_n X dX12_span_100 rfl rfl ?_
      exact e_iret X hr dX12_span_101 (Nat.le_of_ble_eq_true rfl) (Nat.le_of_ble_eq_true rfl) (by cases hF; exact ⟨rfl, rfl⟩)
    · skip
      rw [if_pos c3] at hF
      refine e_iconst X 0 dX12_span_26 rfl ?_
      exact e_iret X hr dX12_span_27 (Nat.le_of_ble_eq_true rfl) (Nat.le_of_ble_eq_true rfl) (by cases hF; exact ⟨rfl, rfl⟩)
  · skip
    rw [if_pos c1] at hF
    refine e_iconst X 1 dX12_span_11 rfl ?_
    refine e_goto X 16 dX12_span_12 (by decide) ?_
    obtain ⟨σ15, h_σ15, hF⟩ := bindT_out hF
    refine pu_M_thrown X wf_X12_51 dX12_span_16 h_σ15 ?_
    refine e_aload_n X dX12_span_19 rfl rfl ?_
    refine ge_M_thrown X wf_X12_51 dX12_span_20 ?_
    refine e_if_le X 28 dX12_span_23 (by decide) (fun c16 => ?_) (fun c16 => ?_)
    · skip
      rw [if_neg c16] at hF
      refine e_aload_n X dX12_span_28 rfl rfl ?_
      obtain ⟨z17, h_z17, hF⟩ := obind_out hF
      refine e_callVv X (σ1 := z17) [] [] (C_M_putsAside (Cx_gok X) σ15 h_z17) gv_X12_188 yk_X12_putsAside rfl (ent_lt (rfl : entTbl[333]? = some (13, 0))) (ent_at (rfl : entTbl[333]? = some (13, 0)) _) (rfl : vCl[11]? = some (RX12, TX12, 24)) ⟨Nat.le_of_ble_eq_true rfl, Nat.le_of_ble_eq_true rfl⟩ ⟨Nat.le_of_ble_eq_true rfl, Nat.le_of_ble_eq_true rfl⟩ (Nat.le_of_ble_eq_true rfl) dX12_span_29 rfl ?_
      refine e_iconst X (-1) dX12_span_32 rfl ?_
      refine e_istore_n X rfl dX12_span_33 rfl (by decide) ?_
      refine e_iconst X 1 dX12_span_34 rfl ?_
      refine e_istore X rfl dX12_span_35 (by decide) ?_
      obtain ⟨z18, h_z18, hF⟩ := obind_out hF
      refine e_le (L_M_span_37 X hr v1 v2 _ 1 ((-1)) z17 h_z18 rfl (by decide) ?_) (And.intro rfl (And.intro rfl (And.intro rfl (And.intro rfl (And.intro rfl (trivial))))))
      refine e_iload_n X dX12_span_100 rfl rfl ?_
      exact e_iret X hr dX12_span_101 (Nat.le_of_ble_eq_true rfl) (Nat.le_of_ble_eq_true rfl) (by cases hF; exact ⟨rfl, rfl⟩)
    · skip
      rw [if_pos c16] at hF
      refine e_iconst X 0 dX12_span_26 rfl ?_
      exact e_iret X hr dX12_span_27 (Nat.le_of_ble_eq_true rfl) (Nat.le_of_ble_eq_true rfl) (by cases hF; exact ⟨rfl, rfl⟩)
end PART

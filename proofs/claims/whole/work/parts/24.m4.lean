section PART
variable {p : Program} {l : Launch} {e : Env} {R : Room} {s : State} {m : MethodId} {args : Array Value} {below : List Frame} {meth : Method} {c : Code} {Γ : Gm} {D : va_G} {s0 : State} {cells slots : Nat} {Q : State → Prop} {own : String} {cc : ByteArray} {nL : Nat} {σ : Mem} {pc : Nat} {lv : List (Option Value)} {st : List Value} {Pst : Option Value → Mem → Prop}
def F_M_says_9_b (σ : Mem) (i1 : Nat) (v2 : Int32) : Option ((Int32) ⊕ (Int32)) := (if v2 < (σ 333 10) then obind (F_M_letter σ v2) fun z4 => (if (F_M_isIn σ z4 97 122) = 0 then some (.inr v2) else bindT (v2 + 1) fun x6 => some (.inl x6)) else some (.inr v2))
def F_M_says_55_b (σ : Mem) (i1 : Nat) (v2 : Int32) (v3 : Int32) : Option ((Int32) ⊕ ((Int32) ⊕ (Mem × Int32))) := (if v3 < (sLen i1) then obind (F_M_letter σ (((σ 333 11) + v3))) fun z10 => chk (inb v3 (lenS.getD i1 0)) <| (if z10 = (sCh i1 v3.toNatClampNeg) then bindT (v3 + 1) fun x13 => some (.inl x13) else some (.inr (.inr ((σ, 0))))) else some (.inr (.inl v3)))
def F_M_says (σ : Mem) (i1 : Nat) : Option (Mem × Int32) := obind (F_M_skip σ) fun z1 => bindT ((z1 333 11)) fun x2 => obind (whl (fun s => F_M_says_9_b z1 i1 s) FUEL x2) fun z7 => (if (z7 - (z1 333 11)) = (sLen i1) then obind (whl (fun s => F_M_says_55_b z1 i1 z7 s) FUEL 0) fun z14 => sumE z14 (fun s15 => bindT (up z1 333 11 z7) fun σ17 => some ((σ17, 1))) (fun r16 => some r16) else some ((z1, 0)))
def F_M_after (σ : Mem) (i1 : Nat) (v2 : Int32) (v3 : Int32) : Option (Mem × Int32) := (if (σ 333 12) = (-1) then obind (F_M_says σ i1) fun z3 => (if z3.2 = 0 then bindT (F_M_wrong z3.1 ((z3.1 333 11))) fun z6 => obind (F_M_figures z6 v2 v3) fun z7 => some ((z7.1, z7.2)) else obind (F_M_figures z3.1 v2 v3) fun z5 => some ((z5.1, z5.2))) else obind (F_M_figures σ v2 v3) fun z2 => some ((z2.1, z2.2)))
def F_M_wedLine (σ : Mem) (v1 : Int32) : Option (Mem) := (if (σ 334 4) = 20 then bindT (F_M_wrong σ v1) fun z11 => obind (F_M_place z11) fun z12 => obind (F_M_who z12.1) fun z13 => obind (F_M_free z13.1 z13.2 z12.2) fun z14 => obind (F_M_place z14) fun z15 => obind (F_M_other z15.1 z13.2) fun z16 => obind (F_M_free z16.1 z16.2 z15.2) fun z17 => obind (F_M_after z17 16 0 99) fun z18 => (if (z18.1 333 12) = (-1) then obind (F_M_comes z18.1 z13.2 z16.2 z18.2) fun z20 => some z20 else some z18.1) else obind (F_M_place σ) fun z2 => obind (F_M_who z2.1) fun z3 => obind (F_M_free z3.1 z3.2 z2.2) fun z4 => obind (F_M_place z4) fun z5 => obind (F_M_other z5.1 z3.2) fun z6 => obind (F_M_free z6.1 z6.2 z5.2) fun z7 => obind (F_M_after z7 16 0 99) fun z8 => (if (z8.1 333 12) = (-1) then obind (F_M_comes z8.1 z3.2 z6.2 z8.2) fun z10 => some z10 else some z8.1))
def F_M_townLine (σ : Mem)  : Option (Mem) := obind (F_M_place σ) fun z1 => obind (F_M_says z1.1 0) fun z2 => (if z2.2 = 0 then obind (F_M_says z2.1 1) fun z4 => (if z4.2 = 0 then obind (F_M_says z4.1 2) fun z6 => (if z6.2 = 0 then obind (F_M_says z6.1 3) fun z8 => (if z8.2 = 0 then obind (F_M_says z8.1 4) fun z10 => (if z10.2 = 0 then obind (F_M_says z10.1 5) fun z12 => (if z12.2 = 0 then obind (F_M_says z12.1 6) fun z14 => (if z14.2 = 0 then obind (F_M_says z14.1 7) fun z16 => (if z16.2 = 0 then bindT (F_M_wrong z16.1 ((z16.1 333 11))) fun z18 => some z18 else obind (F_M_tells z16.1 7 99) fun z19 => some z19) else obind (F_M_tells z14.1 6 20) fun z20 => some z20) else obind (F_M_tells z12.1 5 99) fun z21 => some z21) else obind (F_M_wedLine z10.1 z1.2) fun z22 => some z22) else obind (F_M_who z8.1) fun z23 => obind (F_M_other z23.1 z23.2) fun z24 => (if (z24.1 333 12) = (-1) then obind (F_M_has z24.1 z23.2 2 z24.2) fun z26 => some z26 else some z24.1)) else obind (F_M_who z6.1) fun z27 => obind (F_M_other z27.1 z27.2) fun z28 => (if (z28.1 333 12) = (-1) then obind (F_M_of z28.1 z27.2 1) fun z30 => obind (F_M_has z28.1 z27.2 1 ((z30 ||| ((1 : Int32) <<< ((z28.2 : Int32) &&& 31))))) fun z31 => some z31 else some z28.1)) else obind (F_M_likings z4.1) fun z32 => some z32) else obind (F_M_personLine z2.1 z1.2) fun z33 => some z33)
set_option maxRecDepth 20000 in
set_option maxHeartbeats 4000000 in
theorem L_M_says_9 (X : Cx p l s m args meth c Γ D s0 RX12 cX12_says 4) (hr : meth.sig.returnType = (some .boolean)) (σ : Mem) (i1 : Nat) (gi1 : i1 < 29) : ∀ (n : Nat) (v2 : Int32) {z : Int32}, whl (fun s => F_M_says_9_b σ i1 s) n v2 = some z → (E p l e ({ frames := 4, cells := 0, slots := 0, locals := 85 } : Room) s m args below meth c Γ D 0 0 (MQ below (QcA Γ D Pst) args s 0 0 (frB Γ)) σ 38 [some (.ref (Γ.1 + 333)), some (.ref (sad Γ i1)), some (.int z), none] []) → E p l e ({ frames := 4, cells := 0, slots := 0, locals := 85 } : Room) s m args below meth c Γ D 0 0 (MQ below (QcA Γ D Pst) args s 0 0 (frB Γ)) σ 9 [some (.ref (Γ.1 + 333)), some (.ref (sad Γ i1)), some (.int v2), none] [] := by
  intro n
  induction n with
  | zero =>
    intro v2 z hF hK
    cases hF
  | succ n ih =>
    intro v2 z hF hK
    obtain ⟨y9, hB, hF⟩ := whl_step hF
    change F_M_says_9_b σ i1 v2 = some y9 at hB
    unfold F_M_says_9_b at hB
    refine e_iload_n X dX12_says_9 rfl rfl ?_
    refine e_aload_n X dX12_says_10 rfl rfl ?_
    refine ge_M_end X wf_X12_85 dX12_says_11 ?_
    refine e_icmp_ge X 38 dX12_says_14 (by decide) (fun c3 => ?_) (fun c3 => ?_)
    · skip
      rw [if_neg c3] at hB
      have hy9 := Option.some.inj hB; change (.inr v2) = y9 at hy9; subst hy9
      have hz9 := Option.some.inj hF; change (v2) = z at hz9; subst hz9
      exact e_le hK (And.intro rfl (And.intro rfl (And.intro rfl (trivial))))
    · skip
      rw [if_pos c3] at hB
      refine e_aload_n X dX12_says_17 rfl rfl ?_
      refine e_iload_n X dX12_says_18 rfl rfl ?_
      obtain ⟨z4, h_z4, hB⟩ := obind_out hB
      refine e_callVi X (r := z4) (σ1 := σ) [.int v2] [] (C_M_letter (Cx_gok X) σ v2 h_z4) gv_X12_88 yk_X12_letter rfl (ent_lt (rfl : entTbl[333]? = some (13, 0))) (ent_at (rfl : entTbl[333]? = some (13, 0)) _) (rfl : vCl[11]? = some (RX12, TX12, 24)) ⟨Nat.le_of_ble_eq_true rfl, Nat.le_of_ble_eq_true rfl⟩ ⟨Nat.le_of_ble_eq_true rfl, Nat.le_of_ble_eq_true rfl⟩ (Nat.le_of_ble_eq_true rfl) dX12_says_19 rfl ?_
      refine e_bipush X 97 dX12_says_22 rfl ?_
      refine e_bipush X 122 dX12_says_24 rfl ?_
      refine e_callSi X (r := (F_M_isIn σ z4 97 122)) (σ1 := σ) [.int z4, .int 97, .int 122] [] (C_M_isIn (Cx_gok X) σ z4 97 122) gs_X12_54 yk_X12_isIn rfl ⟨Nat.le_of_ble_eq_true rfl, Nat.le_of_ble_eq_true rfl⟩ ⟨Nat.le_of_ble_eq_true rfl, Nat.le_of_ble_eq_true rfl⟩ (Nat.le_of_ble_eq_true rfl) dX12_says_26 rfl ?_
      refine e_if_eq X 38 dX12_says_29 (by decide) (fun c5 => ?_) (fun c5 => ?_)
      · skip
        rw [if_pos c5] at hB
        have hy9 := Option.some.inj hB; change (.inr v2) = y9 at hy9; subst hy9
        have hz9 := Option.some.inj hF; change (v2) = z at hz9; subst hz9
        exact e_le hK (And.intro rfl (And.intro rfl (And.intro rfl (trivial))))
      · skip
        rw [if_neg c5] at hB
        refine e_iinc X 1 dX12_says_32 rfl rfl (by decide) ?_
        obtain ⟨x6, h_x6, hB⟩ := bindT_out hB
        rw [← h_x6]
        refine e_goto X 9 dX12_says_35 (by decide) ?_
        have hy9 := Option.some.inj hB; change (.inl x6) = y9 at hy9; subst hy9
        exact e_le (ih x6 hF hK) (And.intro rfl (And.intro rfl (And.intro rfl (trivial))))
set_option maxRecDepth 20000 in
set_option maxHeartbeats 4000000 in
theorem L_M_says_55 (X : Cx p l s m args meth c Γ D s0 RX12 cX12_says 4) (hr : meth.sig.returnType = (some .boolean)) (σ : Mem) (i1 : Nat) (v2 : Int32) (gi1 : i1 < 29) : ∀ (n : Nat) (v3 : Int32) {z : (Int32) ⊕ (Mem × Int32)}, whl (fun s => F_M_says_55_b σ i1 v2 s) n v3 = some z → (sumP z (fun s9 => E p l e ({ frames := 4, cells := 0, slots := 0, locals := 85 } : Room) s m args below meth c Γ D 0 0 (MQ below (QcA Γ D Pst) args s 0 0 (frB Γ)) σ 89 [some (.ref (Γ.1 + 333)), some (.ref (sad Γ i1)), some (.int v2), some (.int s9)] []) (fun r9 => Pst (some (.int r9.2)) r9.1)) → E p l e ({ frames := 4, cells := 0, slots := 0, locals := 85 } : Room) s m args below meth c Γ D 0 0 (MQ below (QcA Γ D Pst) args s 0 0 (frB Γ)) σ 55 [some (.ref (Γ.1 + 333)), some (.ref (sad Γ i1)), some (.int v2), some (.int v3)] [] := by
  intro n
  induction n with
  | zero =>
    intro v3 z hF hK
    cases hF
  | succ n ih =>
    intro v3 z hF hK
    obtain ⟨y9, hB, hF⟩ := whl_step hF
    change F_M_says_55_b σ i1 v2 v3 = some y9 at hB
    unfold F_M_says_55_b at hB
    refine e_iload_n X dX12_says_55 rfl rfl ?_
    refine e_aload_n X dX12_says_56 rfl rfl ?_
    refine e_callVCi X (r := sLen i1) (σ1 := σ) [] [.int v3] (C_Str_length (Cx_gok X) σ i1 gi1) gv_X12_94 yk_J0_length_8abf5 rfl ((x_gst X).1 _ gi1).1 ⟨Nat.le_of_ble_eq_true rfl, Nat.le_of_ble_eq_true rfl⟩ ⟨Nat.le_of_ble_eq_true rfl, Nat.le_of_ble_eq_true rfl⟩ (Nat.le_of_ble_eq_true rfl) dX12_says_57 rfl ?_
    refine e_icmp_ge X 89 dX12_says_60 (by decide) (fun c9 => ?_) (fun c9 => ?_)
    · skip
      rw [if_neg c9] at hB
      have hy9 := Option.some.inj hB; change (.inr (.inl v3)) = y9 at hy9; subst hy9
      have hz9 := Option.some.inj hF; change (.inl v3) = z at hz9; subst hz9
      exact e_le hK (And.intro rfl (And.intro rfl (And.intro rfl (And.intro rfl (trivial)))))
    · skip
      rw [if_pos c9] at hB
      refine e_aload_n X dX12_says_63 rfl rfl ?_
      refine e_aload_n X dX12_says_64 rfl rfl ?_
      refine ge_M_at X wf_X12_82 dX12_says_65 ?_
      refine e_iload_n X dX12_says_68 rfl rfl ?_
      refine e_iadd X dX12_says_69 ?_
      obtain ⟨z10, h_z10, hB⟩ := obind_out hB
      refine e_callVi X (r := z10) (σ1 := σ) [.int (((σ 333 11) + v3))] [] (C_M_letter (Cx_gok X) σ (((σ 333 11) + v3)) h_z10) gv_X12_88 yk_X12_letter rfl (ent_lt (rfl : entTbl[333]? = some (13, 0))) (ent_at (rfl : entTbl[333]? = some (13, 0)) _) (rfl : vCl[11]? = some (RX12, TX12, 24)) ⟨Nat.le_of_ble_eq_true rfl, Nat.le_of_ble_eq_true rfl⟩ ⟨Nat.le_of_ble_eq_true rfl, Nat.le_of_ble_eq_true rfl⟩ (Nat.le_of_ble_eq_true rfl) dX12_says_70 rfl ?_
      refine e_aload_n X dX12_says_73 rfl rfl ?_
      refine e_iload_n X dX12_says_74 rfl rfl ?_
      obtain ⟨c11, hB⟩ := chk_out hB
      refine e_callVCi X (r := sCh i1 v3.toNatClampNeg) (σ1 := σ) [.int v3] [.int z10] (C_Str_charAt (Cx_gok X) σ i1 v3 gi1 c11) gv_X12_100 yk_J0_charAt_5068e rfl ((x_gst X).1 _ gi1).1 ⟨Nat.le_of_ble_eq_true rfl, Nat.le_of_ble_eq_true rfl⟩ ⟨Nat.le_of_ble_eq_true rfl, Nat.le_of_ble_eq_true rfl⟩ (Nat.le_of_ble_eq_true rfl) dX12_says_75 rfl ?_
      refine e_icmp_eq X 83 dX12_says_78 (by decide) (fun c12 => ?_) (fun c12 => ?_)
      · skip
        rw [if_pos c12] at hB
        refine e_iinc X 1 dX12_says_83 rfl rfl (by decide) ?_
        obtain ⟨x13, h_x13, hB⟩ := bindT_out hB
        rw [← h_x13]
        refine e_goto X 55 dX12_says_86 (by decide) ?_
        have hy9 := Option.some.inj hB; change (.inl x13) = y9 at hy9; subst hy9
        exact e_le (ih x13 hF hK) (And.intro rfl (And.intro rfl (And.intro rfl (And.intro rfl (trivial)))))
      · skip
        rw [if_neg c12] at hB
        refine e_iconst X 0 dX12_says_81 rfl ?_
        have hy9 := Option.some.inj hB; change (.inr (.inr ((σ, 0)))) = y9 at hy9; subst hy9
        have hz9 := Option.some.inj hF; change (.inr ((σ, 0))) = z at hz9; subst hz9
        exact e_zret X hr rfl dX12_says_82 (Nat.le_of_ble_eq_true rfl) (Nat.le_of_ble_eq_true rfl) hK
set_option maxRecDepth 20000 in
set_option maxHeartbeats 4000000 in
theorem C_M_says (hG : Gok l Γ D s0) (σ : Mem) (i1 : Nat) (gi1 : i1 < 29) {out : Mem × Int32} (hF : F_M_says σ i1 = some out) : CT l Γ D s0 yX12_says cX12_says 4 (some .boolean) (4) 0 0 (85) σ [.ref (Γ.1 + 333), .ref (sad Γ i1)] (PI (some (.int out.2)) out.1) := by
  unfold F_M_says at hF
  refine e_met (own := RX12) hG (by decide +kernel) rfl rfl (Nat.le_of_ble_eq_true rfl) ?_
  intro p e s m args below meth c X hr
  show E p l e _ s m args below meth c Γ D 0 0 _ σ 0 [some (.ref (Γ.1 + 333)), some (.ref (sad Γ i1)), none, none] []
  refine e_aload_n X dX12_says_0 rfl rfl ?_
  obtain ⟨z1, h_z1, hF⟩ := obind_out hF
  refine e_callVv X (σ1 := z1) [] [] (C_M_skip (Cx_gok X) σ h_z1) gv_X12_91 yk_X12_skip rfl (ent_lt (rfl : entTbl[333]? = some (13, 0))) (ent_at (rfl : entTbl[333]? = some (13, 0)) _) (rfl : vCl[11]? = some (RX12, TX12, 24)) ⟨Nat.le_of_ble_eq_true rfl, Nat.le_of_ble_eq_true rfl⟩ ⟨Nat.le_of_ble_eq_true rfl, Nat.le_of_ble_eq_true rfl⟩ (Nat.le_of_ble_eq_true rfl) dX12_says_1 rfl ?_
  refine e_aload_n X dX12_says_4 rfl rfl ?_
  refine ge_M_at X wf_X12_82 dX12_says_5 ?_
  obtain ⟨x2, h_x2, hF⟩ := bindT_out hF
  refine e_istore_n X h_x2 dX12_says_8 rfl (by decide) ?_
  obtain ⟨z7, h_z7, hF⟩ := obind_out hF
  refine e_le (L_M_says_9 X hr z1 i1 gi1 _ x2 h_z7 ?_) (And.intro rfl (And.intro rfl (And.intro rfl (trivial))))
  refine e_iload_n X dX12_says_38 rfl rfl ?_
  refine e_aload_n X dX12_says_39 rfl rfl ?_
  refine ge_M_at X wf_X12_82 dX12_says_40 ?_
  refine e_isub X dX12_says_43 ?_
  refine e_aload_n X dX12_says_44 rfl rfl ?_
  refine e_callVCi X (r := sLen i1) (σ1 := z1) [] [.int ((z7 - (z1 333 11)))] (C_Str_length (Cx_gok X) z1 i1 gi1) gv_X12_94 yk_J0_length_8abf5 rfl ((x_gst X).1 _ gi1).1 ⟨Nat.le_of_ble_eq_true rfl, Nat.le_of_ble_eq_true rfl⟩ ⟨Nat.le_of_ble_eq_true rfl, Nat.le_of_ble_eq_true rfl⟩ (Nat.le_of_ble_eq_true rfl) dX12_says_45 rfl ?_
  refine e_icmp_eq X 53 dX12_says_48 (by decide) (fun c8 => ?_) (fun c8 => ?_)
  · skip
    rw [if_pos c8] at hF
    refine e_iconst X 0 dX12_says_53 rfl ?_
    refine e_istore_n X rfl dX12_says_54 rfl (by decide) ?_
    obtain ⟨z14, h_z14, hF⟩ := obind_out hF
    refine e_le (L_M_says_55 X hr z1 i1 z7 gi1 _ 0 h_z14 ?_) (And.intro rfl (And.intro rfl (And.intro rfl (And.intro rfl (trivial)))))
    cases z14 with
    | inl s15 =>
      replace hF := hF
      rw [sumE] at hF
      show E p l e _ s m args below meth c Γ D _ _ _ _ _ _ _
      refine e_aload_n X dX12_says_89 rfl rfl ?_
      refine e_iload_n X dX12_says_90 rfl rfl ?_
      obtain ⟨σ17, h_σ17, hF⟩ := bindT_out hF
      refine pu_M_at X wf_X12_82 dX12_says_91 h_σ17 ?_
      refine e_iconst X 1 dX12_says_94 rfl ?_
      exact e_zret X hr rfl dX12_says_95 (Nat.le_of_ble_eq_true rfl) (Nat.le_of_ble_eq_true rfl) (by cases hF; exact ⟨rfl, rfl⟩)
    | inr r16 =>
      rw [sumE] at hF
      cases hF
      exact ⟨rfl, rfl⟩
  · skip
    rw [if_neg c8] at hF
    refine e_iconst X 0 dX12_says_51 rfl ?_
    exact e_zret X hr rfl dX12_says_52 (Nat.le_of_ble_eq_true rfl) (Nat.le_of_ble_eq_true rfl) (by cases hF; exact ⟨rfl, rfl⟩)
set_option maxRecDepth 20000 in
set_option maxHeartbeats 4000000 in
theorem C_M_after (hG : Gok l Γ D s0) (σ : Mem) (i1 : Nat) (v2 : Int32) (v3 : Int32) (gi1 : i1 < 29) {out : Mem × Int32} (hF : F_M_after σ i1 v2 v3 = some out) : CT l Γ D s0 yX12_after cX12_after 4 (some .int) (5) 0 0 (108) σ [.ref (Γ.1 + 333), .ref (sad Γ i1), .int v2, .int v3] (PI (some (.int out.2)) out.1) := by
  unfold F_M_after at hF
  refine e_met (own := RX12) hG (by decide +kernel) rfl rfl (Nat.le_of_ble_eq_true rfl) ?_
  intro p e s m args below meth c X hr
  show E p l e _ s m args below meth c Γ D 0 0 _ σ 0 [some (.ref (Γ.1 + 333)), some (.ref (sad Γ i1)), some (.int v2), some (.int v3)] []
  refine e_aload_n X dX12_after_0 rfl rfl ?_
  refine ge_M_fault X wf_X12_25 dX12_after_1 ?_
  refine e_iconst X (-1) dX12_after_4 rfl ?_
  refine e_icmp_ne X 24 dX12_after_5 (by decide) (fun c1 => ?_) (fun c1 => ?_)
  · skip
    rw [if_neg c1] at hF
    refine e_aload_n X dX12_after_24 rfl rfl ?_
    refine e_iload_n X dX12_after_25 rfl rfl ?_
    refine e_iload_n X dX12_after_26 rfl rfl ?_
    obtain ⟨z2, h_z2, hF⟩ := obind_out hF
    refine e_callVi X (r := z2.2) (σ1 := z2.1) [.int v2, .int v3] [] (C_M_figures (Cx_gok X) σ v2 v3 h_z2) gv_X12_115 yk_X12_figures rfl (ent_lt (rfl : entTbl[333]? = some (13, 0))) (ent_at (rfl : entTbl[333]? = some (13, 0)) _) (rfl : vCl[11]? = some (RX12, TX12, 24)) ⟨Nat.le_of_ble_eq_true rfl, Nat.le_of_ble_eq_true rfl⟩ ⟨Nat.le_of_ble_eq_true rfl, Nat.le_of_ble_eq_true rfl⟩ (Nat.le_of_ble_eq_true rfl) dX12_after_27 rfl ?_
    exact e_iret X hr dX12_after_30 (Nat.le_of_ble_eq_true rfl) (Nat.le_of_ble_eq_true rfl) (by cases hF; exact ⟨rfl, rfl⟩)
  · skip
    rw [if_pos c1] at hF
    refine e_aload_n X dX12_after_8 rfl rfl ?_
    refine e_aload_n X dX12_after_9 rfl rfl ?_
    obtain ⟨z3, h_z3, hF⟩ := obind_out hF
    refine e_callVi X (r := z3.2) (σ1 := z3.1) [.ref (sad Γ i1)] [] (C_M_says (Cx_gok X) σ i1 gi1 h_z3) gv_X12_111 yk_X12_says rfl (ent_lt (rfl : entTbl[333]? = some (13, 0))) (ent_at (rfl : entTbl[333]? = some (13, 0)) _) (rfl : vCl[11]? = some (RX12, TX12, 24)) ⟨Nat.le_of_ble_eq_true rfl, Nat.le_of_ble_eq_true rfl⟩ ⟨Nat.le_of_ble_eq_true rfl, Nat.le_of_ble_eq_true rfl⟩ (Nat.le_of_ble_eq_true rfl) dX12_after_10 rfl ?_
    refine e_if_ne X 24 dX12_after_13 (by decide) (fun c4 => ?_) (fun c4 => ?_)
    · skip
      rw [if_neg c4] at hF
      refine e_aload_n X dX12_after_24 rfl rfl ?_
      refine e_iload_n X dX12_after_25 rfl rfl ?_
      refine e_iload_n X dX12_after_26 rfl rfl ?_
      obtain ⟨z5, h_z5, hF⟩ := obind_out hF
      refine e_callVi X (r := z5.2) (σ1 := z5.1) [.int v2, .int v3] [] (C_M_figures (Cx_gok X) z3.1 v2 v3 h_z5) gv_X12_115 yk_X12_figures rfl (ent_lt (rfl : entTbl[333]? = some (13, 0))) (ent_at (rfl : entTbl[333]? = some (13, 0)) _) (rfl : vCl[11]? = some (RX12, TX12, 24)) ⟨Nat.le_of_ble_eq_true rfl, Nat.le_of_ble_eq_true rfl⟩ ⟨Nat.le_of_ble_eq_true rfl, Nat.le_of_ble_eq_true rfl⟩ (Nat.le_of_ble_eq_true rfl) dX12_after_27 rfl ?_
      exact e_iret X hr dX12_after_30 (Nat.le_of_ble_eq_true rfl) (Nat.le_of_ble_eq_true rfl) (by cases hF; exact ⟨rfl, rfl⟩)
    · skip
      rw [if_pos c4] at hF
      refine e_aload_n X dX12_after_16 rfl rfl ?_
      refine e_aload_n X dX12_after_17 rfl rfl ?_
      refine ge_M_at X wf_X12_82 dX12_after_18 ?_
      obtain ⟨z6, h_z6, hF⟩ := bindT_out hF
      refine e_callVv X (σ1 := z6) [.int ((z3.1 333 11))] [] (by rw [h_z6]; exact C_M_wrong (Cx_gok X) z3.1 ((z3.1 333 11))) gv_X12_107 yk_X12_wrong rfl (ent_lt (rfl : entTbl[333]? = some (13, 0))) (ent_at (rfl : entTbl[333]? = some (13, 0)) _) (rfl : vCl[11]? = some (RX12, TX12, 24)) ⟨Nat.le_of_ble_eq_true rfl, Nat.le_of_ble_eq_true rfl⟩ ⟨Nat.le_of_ble_eq_true rfl, Nat.le_of_ble_eq_true rfl⟩ (Nat.le_of_ble_eq_true rfl) dX12_after_21 rfl ?_
      refine e_aload_n X dX12_after_24 rfl rfl ?_
      refine e_iload_n X dX12_after_25 rfl rfl ?_
      refine e_iload_n X dX12_after_26 rfl rfl ?_
      obtain ⟨z7, h_z7, hF⟩ := obind_out hF
      refine e_callVi X (r := z7.2) (σ1 := z7.1) [.int v2, .int v3] [] (C_M_figures (Cx_gok X) z6 v2 v3 h_z7) gv_X12_115 yk_X12_figures rfl (ent_lt (rfl : entTbl[333]? = some (13, 0))) (ent_at (rfl : entTbl[333]? = some (13, 0)) _) (rfl : vCl[11]? = some (RX12, TX12, 24)) ⟨Nat.le_of_ble_eq_true rfl, Nat.le_of_ble_eq_true rfl⟩ ⟨Nat.le_of_ble_eq_true rfl, Nat.le_of_ble_eq_true rfl⟩ (Nat.le_of_ble_eq_true rfl) dX12_after_27 rfl ?_
      exact e_iret X hr dX12_after_30 (Nat.le_of_ble_eq_true rfl) (Nat.le_of_ble_eq_true rfl) (by cases hF; exact ⟨rfl, rfl⟩)
set_option maxRecDepth 20000 in
set_option maxHeartbeats 4000000 in
theorem C_M_wedLine (hG : Gok l Γ D s0) (σ : Mem) (v1 : Int32)  {out : Mem} (hF : F_M_wedLine σ v1 = some out) : CT l Γ D s0 yX12_wedLine cX12_wedLine 6 none (6) 0 0 (131) σ [.ref (Γ.1 + 333), .int v1] (PI none out) := by
  unfold F_M_wedLine at hF
  refine e_met (own := RX12) hG (by decide +kernel) rfl rfl (Nat.le_of_ble_eq_true rfl) ?_
  intro p e s m args below meth c X hr
  show E p l e _ s m args below meth c Γ D 0 0 _ σ 0 [some (.ref (Γ.1 + 333)), some (.int v1), none, none, none, none] []
  refine e_aload_n X dX12_wedLine_0 rfl rfl ?_
  refine ge_M_m X wf_X12_7 dX12_wedLine_1 ?_
  refine e_iconst X 4 dX12_wedLine_4 rfl ?_
  refine e_iald X (j := 4) rfl rfl (vp_in_iff.mpr (by decide)) rfl dX12_wedLine_5 ?_
  refine e_bipush X 20 dX12_wedLine_6 rfl ?_
  refine e_icmp_ne X 16 dX12_wedLine_8 (by decide) (fun c1 => ?_) (fun c1 => ?_)
  · skip
    rw [if_neg c1] at hF
    refine e_aload_n X dX12_wedLine_16 rfl rfl ?_
    obtain ⟨z2, h_z2, hF⟩ := obind_out hF
    refine e_callVi X (r := z2.2) (σ1 := z2.1) [] [] (C_M_place (Cx_gok X) σ h_z2) gv_X12_104 yk_X12_place rfl (ent_lt (rfl : entTbl[333]? = some (13, 0))) (ent_at (rfl : entTbl[333]? = some (13, 0)) _) (rfl : vCl[11]? = some (RX12, TX12, 24)) ⟨Nat.le_of_ble_eq_true rfl, Nat.le_of_ble_eq_true rfl⟩ ⟨Nat.le_of_ble_eq_true rfl, Nat.le_of_ble_eq_true rfl⟩ (Nat.le_of_ble_eq_true rfl) dX12_wedLine_17 rfl ?_
    refine e_istore_n X rfl dX12_wedLine_20 rfl (by decide) ?_
    refine e_aload_n X dX12_wedLine_21 rfl rfl ?_
    obtain ⟨z3, h_z3, hF⟩ := obind_out hF
    refine e_callVi X (r := z3.2) (σ1 := z3.1) [] [] (C_M_who (Cx_gok X) z2.1 h_z3) gv_X12_118 yk_X12_who rfl (ent_lt (rfl : entTbl[333]? = some (13, 0))) (ent_at (rfl : entTbl[333]? = some (13, 0)) _) (rfl : vCl[11]? = some (RX12, TX12, 24)) ⟨Nat.le_of_ble_eq_true rfl, Nat.le_of_ble_eq_true rfl⟩ ⟨Nat.le_of_ble_eq_true rfl, Nat.le_of_ble_eq_true rfl⟩ (Nat.le_of_ble_eq_true rfl) dX12_wedLine_22 rfl ?_
    refine e_istore_n X rfl dX12_wedLine_25 rfl (by decide) ?_
    refine e_aload_n X dX12_wedLine_26 rfl rfl ?_
    refine e_iload_n X dX12_wedLine_27 rfl rfl ?_
    refine e_iload_n X dX12_wedLine_28 rfl rfl ?_
    obtain ⟨z4, h_z4, hF⟩ := obind_out hF
    refine e_callVv X (σ1 := z4) [.int z3.2, .int z2.2] [] (C_M_free (Cx_gok X) z3.1 z3.2 z2.2 h_z4) gv_X12_124 yk_X12_free rfl (ent_lt (rfl : entTbl[333]? = some (13, 0))) (ent_at (rfl : entTbl[333]? = some (13, 0)) _) (rfl : vCl[11]? = some (RX12, TX12, 24)) ⟨Nat.le_of_ble_eq_true rfl, Nat.le_of_ble_eq_true rfl⟩ ⟨Nat.le_of_ble_eq_true rfl, Nat.le_of_ble_eq_true rfl⟩ (Nat.le_of_ble_eq_true rfl) dX12_wedLine_29 rfl ?_
    refine e_aload_n X dX12_wedLine_32 rfl rfl ?_
    obtain ⟨z5, h_z5, hF⟩ := obind_out hF
    refine e_callVi X (r := z5.2) (σ1 := z5.1) [] [] (C_M_place (Cx_gok X) z4 h_z5) gv_X12_104 yk_X12_place rfl (ent_lt (rfl : entTbl[333]? = some (13, 0))) (ent_at (rfl : entTbl[333]? = some (13, 0)) _) (rfl : vCl[11]? = some (RX12, TX12, 24)) ⟨Nat.le_of_ble_eq_true rfl, Nat.le_of_ble_eq_true rfl⟩ ⟨Nat.le_of_ble_eq_true rfl, Nat.le_of_ble_eq_true rfl⟩ (Nat.le_of_ble_eq_true rfl) dX12_wedLine_33 rfl ?_
    refine e_istore_n X rfl dX12_wedLine_36 rfl (by decide) ?_
    refine e_aload_n X dX12_wedLine_37 rfl rfl ?_
    refine e_iload_n X dX12_wedLine_38 rfl rfl ?_
    obtain ⟨z6, h_z6, hF⟩ := obind_out hF
    refine e_callVi X (r := z6.2) (σ1 := z6.1) [.int z3.2] [] (C_M_other (Cx_gok X) z5.1 z3.2 h_z6) gv_X12_128 yk_X12_other rfl (ent_lt (rfl : entTbl[333]? = some (13, 0))) (ent_at (rfl : entTbl[333]? = some (13, 0)) _) (rfl : vCl[11]? = some (RX12, TX12, 24)) ⟨Nat.le_of_ble_eq_true rfl, Nat.le_of_ble_eq_true rfl⟩ ⟨Nat.le_of_ble_eq_true rfl, Nat.le_of_ble_eq_true rfl⟩ (Nat.le_of_ble_eq_true rfl) dX12_wedLine_39 rfl ?_
    refine e_istore X rfl dX12_wedLine_42 (by decide) ?_
    refine e_aload_n X dX12_wedLine_44 rfl rfl ?_
    refine e_iload X dX12_wedLine_45 rfl ?_
    refine e_iload_n X dX12_wedLine_47 rfl rfl ?_
    obtain ⟨z7, h_z7, hF⟩ := obind_out hF
    refine e_callVv X (σ1 := z7) [.int z6.2, .int z5.2] [] (C_M_free (Cx_gok X) z6.1 z6.2 z5.2 h_z7) gv_X12_124 yk_X12_free rfl (ent_lt (rfl : entTbl[333]? = some (13, 0))) (ent_at (rfl : entTbl[333]? = some (13, 0)) _) (rfl : vCl[11]? = some (RX12, TX12, 24)) ⟨Nat.le_of_ble_eq_true rfl, Nat.le_of_ble_eq_true rfl⟩ ⟨Nat.le_of_ble_eq_true rfl, Nat.le_of_ble_eq_true rfl⟩ (Nat.le_of_ble_eq_true rfl) dX12_wedLine_48 rfl ?_
    refine e_aload_n X dX12_wedLine_51 rfl rfl ?_
    refine e_ldcS X (sr_X12_131 (x_gst X)) dX12_wedLine_52 ?_
    refine e_iconst X 0 dX12_wedLine_54 rfl ?_
    refine e_bipush X 99 dX12_wedLine_55 rfl ?_
    obtain ⟨z8, h_z8, hF⟩ := obind_out hF
    refine e_callVi X (r := z8.2) (σ1 := z8.1) [.ref (sad Γ 16), .int 0, .int 99] [] (C_M_after (Cx_gok X) z7 16 0 99 (by decide) h_z8) gv_X12_133 yk_X12_after rfl (ent_lt (rfl : entTbl[333]? = some (13, 0))) (ent_at (rfl : entTbl[333]? = some (13, 0)) _) (rfl : vCl[11]? = some (RX12, TX12, 24)) ⟨Nat.le_of_ble_eq_true rfl, Nat.le_of_ble_eq_true rfl⟩ ⟨Nat.le_of_ble_eq_true rfl, Nat.le_of_ble_eq_true rfl⟩ (Nat.le_of_ble_eq_true rfl) dX12_wedLine_57 rfl ?_
    refine e_istore X rfl dX12_wedLine_60 (by decide) ?_
    refine e_aload_n X dX12_wedLine_62 rfl rfl ?_
    refine ge_M_fault X wf_X12_25 dX12_wedLine_63 ?_
    refine e_iconst X (-1) dX12_wedLine_66 rfl ?_
    refine e_icmp_ne X 79 dX12_wedLine_67 (by decide) (fun c9 => ?_) (fun c9 => ?_)
    · skip
      rw [if_neg c9] at hF
      exact e_vret X hr dX12_wedLine_79 (Nat.le_of_ble_eq_true rfl) (Nat.le_of_ble_eq_true rfl) (by cases hF; exact ⟨rfl, rfl⟩)
    · skip
      rw [if_pos c9] at hF
      refine e_aload_n X dX12_wedLine_70 rfl rfl ?_
      refine e_iload_n X dX12_wedLine_71 rfl rfl ?_
      refine e_iload X dX12_wedLine_72 rfl ?_
      refine e_iload X dX12_wedLine_74 rfl ?_
      obtain ⟨z10, h_z10, hF⟩ := obind_out hF
      refine e_callVv X (σ1 := z10) [.int z3.2, .int z6.2, .int z8.2] [] (C_M_comes (Cx_gok X) z8.1 z3.2 z6.2 z8.2 h_z10) gv_X12_137 yk_X12_comes rfl (ent_lt (rfl : entTbl[333]? = some (13, 0))) (ent_at (rfl : entTbl[333]? = some (13, 0)) _) (rfl : vCl[11]? = some (RX12, TX12, 24)) ⟨Nat.le_of_ble_eq_true rfl, Nat.le_of_ble_eq_true rfl⟩ ⟨Nat.le_of_ble_eq_true rfl, Nat.le_of_ble_eq_true rfl⟩ (Nat.le_of_ble_eq_true rfl) dX12_wedLine_76 rfl ?_
      exact e_vret X hr dX12_wedLine_79 (Nat.le_of_ble_eq_true rfl) (Nat.le_of_ble_eq_true rfl) (by cases hF; exact ⟨rfl, rfl⟩)
  · skip
    rw [if_pos c1] at hF
    refine e_aload_n X dX12_wedLine_11 rfl rfl ?_
    refine e_iload_n X dX12_wedLine_12 rfl rfl ?_
    obtain ⟨z11, h_z11, hF⟩ := bindT_out hF
    refine e_callVv X (σ1 := z11) [.int v1] [] (by rw [h_z11]; exact C_M_wrong (Cx_gok X) σ v1) gv_X12_107 yk_X12_wrong rfl (ent_lt (rfl : entTbl[333]? = some (13, 0))) (ent_at (rfl : entTbl[333]? = some (13, 0)) _) (rfl : vCl[11]? = some (RX12, TX12, 24)) ⟨Nat.le_of_ble_eq_true rfl, Nat.le_of_ble_eq_true rfl⟩ ⟨Nat.le_of_ble_eq_true rfl, Nat.le_of_ble_eq_true rfl⟩ (Nat.le_of_ble_eq_true rfl) dX12_wedLine_13 rfl ?_
    refine e_aload_n X dX12_wedLine_16 rfl rfl ?_
    obtain ⟨z12, h_z12, hF⟩ := obind_out hF
    refine e_callVi X (r := z12.2) (σ1 := z12.1) [] [] (C_M_place (Cx_gok X) z11 h_z12) gv_X12_104 yk_X12_place rfl (ent_lt (rfl : entTbl[333]? = some (13, 0))) (ent_at (rfl : entTbl[333]? = some (13, 0)) _) (rfl : vCl[11]? = some (RX12, TX12, 24)) ⟨Nat.le_of_ble_eq_true rfl, Nat.le_of_ble_eq_true rfl⟩ ⟨Nat.le_of_ble_eq_true rfl, Nat.le_of_ble_eq_true rfl⟩ (Nat.le_of_ble_eq_true rfl) dX12_wedLine_17 rfl ?_
    refine e_istore_n X rfl dX12_wedLine_20 rfl (by decide) ?_
    refine e_aload_n X dX12_wedLine_21 rfl rfl ?_
    obtain ⟨z13, h_z13, hF⟩ := obind_out hF
    refine e_callVi X (r := z13.2) (σ1 := z13.1) [] [] (C_M_who (Cx_gok X) z12.1 h_z13) gv_X12_118 yk_X12_who rfl (ent_lt (rfl : entTbl[333]? = some (13, 0))) (ent_at (rfl : entTbl[333]? = some (13, 0)) _) (rfl : vCl[11]? = some (RX12, TX12, 24)) ⟨Nat.le_of_ble_eq_true rfl, Nat.le_of_ble_eq_true rfl⟩ ⟨Nat.le_of_ble_eq_true rfl, Nat.le_of_ble_eq_true rfl⟩ (Nat.le_of_ble_eq_true rfl) dX12_wedLine_22 rfl ?_
    refine e_istore_n X rfl dX12_wedLine_25 rfl (by decide) ?_
    refine e_aload_n X dX12_wedLine_26 rfl rfl ?_
    refine e_iload_n X dX12_wedLine_27 rfl rfl ?_
    refine e_iload_n X dX12_wedLine_28 rfl rfl ?_
    obtain ⟨z14, h_z14, hF⟩ := obind_out hF
    refine e_callVv X (σ1 := z14) [.int z13.2, .int z12.2] [] (C_M_free (Cx_gok X) z13.1 z13.2 z12.2 h_z14) gv_X12_124 yk_X12_free rfl (ent_lt (rfl : entTbl[333]? = some (13, 0))) (ent_at (rfl : entTbl[333]? = some (13, 0)) _) (rfl : vCl[11]? = some (RX12, TX12, 24)) ⟨Nat.le_of_ble_eq_true rfl, Nat.le_of_ble_eq_true rfl⟩ ⟨Nat.le_of_ble_eq_true rfl, Nat.le_of_ble_eq_true rfl⟩ (Nat.le_of_ble_eq_true rfl) dX12_wedLine_29 rfl ?_
    refine e_aload_n X dX12_wedLine_32 rfl rfl ?_
    obtain ⟨z15, h_z15, hF⟩ := obind_out hF
    refine e_callVi X (r := z15.2) (σ1 := z15.1) [] [] (C_M_place (Cx_gok X) z14 h_z15) gv_X12_104 yk_X12_place rfl (ent_lt (rfl : entTbl[333]? = some (13, 0))) (ent_at (rfl : entTbl[333]? = some (13, 0)) _) (rfl : vCl[11]? = some (RX12, TX12, 24)) ⟨Nat.le_of_ble_eq_true rfl, Nat.le_of_ble_eq_true rfl⟩ ⟨Nat.le_of_ble_eq_true rfl, Nat.le_of_ble_eq_true rfl⟩ (Nat.le_of_ble_eq_true rfl) dX12_wedLine_33 rfl ?_
    refine e_istore_n X rfl dX12_wedLine_36 rfl (by decide) ?_
    refine e_aload_n X dX12_wedLine_37 rfl rfl ?_
    refine e_iload_n X dX12_wedLine_38 rfl rfl ?_
    obtain ⟨z16, h_z16, hF⟩ := obind_out hF
    refine e_callVi X (r := z16.2) (σ1 := z16.1) [.int z13.2] [] (C_M_other (Cx_gok X) z15.1 z13.2 h_z16) gv_X12_128 yk_X12_other rfl (ent_lt (rfl : entTbl[333]? = some (13, 0))) (ent_at (rfl : entTbl[333]? = some (13, 0)) _) (rfl : vCl[11]? = some (RX12, TX12, 24)) ⟨Nat.le_of_ble_eq_true rfl, Nat.le_of_ble_eq_true rfl⟩ ⟨Nat.le_of_ble_eq_true rfl, Nat.le_of_ble_eq_true rfl⟩ (Nat.le_of_ble_eq_true rfl) dX12_wedLine_39 rfl ?_
    refine e_istore X rfl dX12_wedLine_42 (by decide) ?_
    refine e_aload_n X dX12_wedLine_44 rfl rfl ?_
    refine e_iload X dX12_wedLine_45 rfl ?_
    refine e_iload_n X dX12_wedLine_47 rfl rfl ?_
    obtain ⟨z17, h_z17, hF⟩ := obind_out hF
    refine e_callVv X (σ1 := z17) [.int z16.2, .int z15.2] [] (C_M_free (Cx_gok X) z16.1 z16.2 z15.2 h_z17) gv_X12_124 yk_X12_free rfl (ent_lt (rfl : entTbl[333]? = some (13, 0))) (ent_at (rfl : entTbl[333]? = some (13, 0)) _) (rfl : vCl[11]? = some (RX12, TX12, 24)) ⟨Nat.le_of_ble_eq_true rfl, Nat.le_of_ble_eq_true rfl⟩ ⟨Nat.le_of_ble_eq_true rfl, Nat.le_of_ble_eq_true rfl⟩ (Nat.le_of_ble_eq_true rfl) dX12_wedLine_48 rfl ?_
    refine e_aload_n X dX12_wedLine_51 rfl rfl ?_
    refine e_ldcS X (sr_X12_131 (x_gst X)) dX12_wedLine_52 ?_
    refine e_iconst X 0 dX12_wedLine_54 rfl ?_
    refine e_bipush X 99 dX12_wedLine_55 rfl ?_
    obtain ⟨z18, h_z18, hF⟩ := obind_out hF
    refine e_callVi X (r := z18.2) (σ1 := z18.1) [.ref (sad Γ 16), .int 0, .int 99] [] (C_M_after (Cx_gok X) z17 16 0 99 (by decide) h_z18) gv_X12_133 yk_X12_after rfl (ent_lt (rfl : entTbl[333]? = some (13, 0))) (ent_at (rfl : entTbl[333]? = some (13, 0)) _) (rfl : vCl[11]? = some (RX12, TX12, 24)) ⟨Nat.le_of_ble_eq_true rfl, Nat.le_of_ble_eq_true rfl⟩ ⟨Nat.le_of_ble_eq_true rfl, Nat.le_of_ble_eq_true rfl⟩ (Nat.le_of_ble_eq_true rfl) dX12_wedLine_57 rfl ?_
    refine e_istore X rfl dX12_wedLine_60 (by decide) ?_
    refine e_aload_n X dX12_wedLine_62 rfl rfl ?_
    refine ge_M_fault X wf_X12_25 dX12_wedLine_63 ?_
    refine e_iconst X (-1) dX12_wedLine_66 rfl ?_
    refine e_icmp_ne X 79 dX12_wedLine_67 (by decide) (fun c19 => ?_) (fun c19 => ?_)
    · skip
      rw [if_neg c19] at hF
      exact e_vret X hr dX12_wedLine_79 (Nat.le_of_ble_eq_true rfl) (Nat.le_of_ble_eq_true rfl) (by cases hF; exact ⟨rfl, rfl⟩)
    · skip
      rw [if_pos c19] at hF
      refine e_aload_n X dX12_wedLine_70 rfl rfl ?_
      refine e_iload_n X dX12_wedLine_71 rfl rfl ?_
      refine e_iload X dX12_wedLine_72 rfl ?_
      refine e_iload X dX12_wedLine_74 rfl ?_
      obtain ⟨z20, h_z20, hF⟩ := obind_out hF
      refine e_callVv X (σ1 := z20) [.int z13.2, .int z16.2, .int z18.2] [] (C_M_comes (Cx_gok X) z18.1 z13.2 z16.2 z18.2 h_z20) gv_X12_137 yk_X12_comes rfl (ent_lt (rfl : entTbl[333]? = some (13, 0))) (ent_at (rfl : entTbl[333]? = some (13, 0)) _) (rfl : vCl[11]? = some (RX12, TX12, 24)) ⟨Nat.le_of_ble_eq_true rfl, Nat.le_of_ble_eq_true rfl⟩ ⟨Nat.le_of_ble_eq_true rfl, Nat.le_of_ble_eq_true rfl⟩ (Nat.le_of_ble_eq_true rfl) dX12_wedLine_76 rfl ?_
      exact e_vret X hr dX12_wedLine_79 (Nat.le_of_ble_eq_true rfl) (Nat.le_of_ble_eq_true rfl) (by cases hF; exact ⟨rfl, rfl⟩)
set_option maxRecDepth 20000 in
set_option maxHeartbeats 4000000 in
theorem C_M_townLine (hG : Gok l Γ D s0) (σ : Mem)   {out : Mem} (hF : F_M_townLine σ = some out) : CT l Γ D s0 yX12_townLine cX12_townLine 4 none (7) 0 0 (156) σ [.ref (Γ.1 + 333)] (PI none out) := by
  unfold F_M_townLine at hF
  refine e_met (own := RX12) hG (by decide +kernel) rfl rfl (Nat.le_of_ble_eq_true rfl) ?_
  intro p e s m args below meth c X hr
  show E p l e _ s m args below meth c Γ D 0 0 _ σ 0 [some (.ref (Γ.1 + 333)), none, none, none] []
  refine e_aload_n X dX12_townLine_0 rfl rfl ?_
  obtain ⟨z1, h_z1, hF⟩ := obind_out hF
  refine e_callVi X (r := z1.2) (σ1 := z1.1) [] [] (C_M_place (Cx_gok X) σ h_z1) gv_X12_104 yk_X12_place rfl (ent_lt (rfl : entTbl[333]? = some (13, 0))) (ent_at (rfl : entTbl[333]? = some (13, 0)) _) (rfl : vCl[11]? = some (RX12, TX12, 24)) ⟨Nat.le_of_ble_eq_true rfl, Nat.le_of_ble_eq_true rfl⟩ ⟨Nat.le_of_ble_eq_true rfl, Nat.le_of_ble_eq_true rfl⟩ (Nat.le_of_ble_eq_true rfl) dX12_townLine_1 rfl ?_
  refine e_istore_n X rfl dX12_townLine_4 rfl (by decide) ?_
  refine e_aload_n X dX12_townLine_5 rfl rfl ?_
  refine e_ldcS X (sr_X12_147 (x_gst X)) dX12_townLine_6 ?_
  obtain ⟨z2, h_z2, hF⟩ := obind_out hF
  refine e_callVi X (r := z2.2) (σ1 := z2.1) [.ref (sad Γ 0)] [] (C_M_says (Cx_gok X) z1.1 0 (by decide) h_z2) gv_X12_111 yk_X12_says rfl (ent_lt (rfl : entTbl[333]? = some (13, 0))) (ent_at (rfl : entTbl[333]? = some (13, 0)) _) (rfl : vCl[11]? = some (RX12, TX12, 24)) ⟨Nat.le_of_ble_eq_true rfl, Nat.le_of_ble_eq_true rfl⟩ ⟨Nat.le_of_ble_eq_true rfl, Nat.le_of_ble_eq_true rfl⟩ (Nat.le_of_ble_eq_true rfl) dX12_townLine_8 rfl ?_
  refine e_if_eq X 22 dX12_townLine_11 (by decide) (fun c3 => ?_) (fun c3 => ?_)
  · skip
    rw [if_pos c3] at hF
    refine e_aload_n X dX12_townLine_22 rfl rfl ?_
    refine e_ldcS X (sr_X12_152 (x_gst X)) dX12_townLine_23 ?_
    obtain ⟨z4, h_z4, hF⟩ := obind_out hF
    refine e_callVi X (r := z4.2) (σ1 := z4.1) [.ref (sad Γ 1)] [] (C_M_says (Cx_gok X) z2.1 1 (by decide) h_z4) gv_X12_111 yk_X12_says rfl (ent_lt (rfl : entTbl[333]? = some (13, 0))) (ent_at (rfl : entTbl[333]? = some (13, 0)) _) (rfl : vCl[11]? = some (RX12, TX12, 24)) ⟨Nat.le_of_ble_eq_true rfl, Nat.le_of_ble_eq_true rfl⟩ ⟨Nat.le_of_ble_eq_true rfl, Nat.le_of_ble_eq_true rfl⟩ (Nat.le_of_ble_eq_true rfl) dX12_townLine_25 rfl ?_
    refine e_if_eq X 38 dX12_townLine_28 (by decide) (fun c5 => ?_) (fun c5 => ?_)
    · skip
      rw [if_pos c5] at hF
      refine e_aload_n X dX12_townLine_38 rfl rfl ?_
      refine e_ldcS X (sr_X12_157 (x_gst X)) dX12_townLine_39 ?_
      obtain ⟨z6, h_z6, hF⟩ := obind_out hF
      refine e_callVi X (r := z6.2) (σ1 := z6.1) [.ref (sad Γ 2)] [] (C_M_says (Cx_gok X) z4.1 2 (by decide) h_z6) gv_X12_111 yk_X12_says rfl (ent_lt (rfl : entTbl[333]? = some (13, 0))) (ent_at (rfl : entTbl[333]? = some (13, 0)) _) (rfl : vCl[11]? = some (RX12, TX12, 24)) ⟨Nat.le_of_ble_eq_true rfl, Nat.le_of_ble_eq_true rfl⟩ ⟨Nat.le_of_ble_eq_true rfl, Nat.le_of_ble_eq_true rfl⟩ (Nat.le_of_ble_eq_true rfl) dX12_townLine_41 rfl ?_
      refine e_if_eq X 85 dX12_townLine_44 (by decide) (fun c7 => ?_) (fun c7 => ?_)
      · skip
        rw [if_pos c7] at hF
        refine e_aload_n X dX12_townLine_85 rfl rfl ?_
        refine e_ldcS X (sr_X12_159 (x_gst X)) dX12_townLine_86 ?_
        obtain ⟨z8, h_z8, hF⟩ := obind_out hF
        refine e_callVi X (r := z8.2) (σ1 := z8.1) [.ref (sad Γ 3)] [] (C_M_says (Cx_gok X) z6.1 3 (by decide) h_z8) gv_X12_111 yk_X12_says rfl (ent_lt (rfl : entTbl[333]? = some (13, 0))) (ent_at (rfl : entTbl[333]? = some (13, 0)) _) (rfl : vCl[11]? = some (RX12, TX12, 24)) ⟨Nat.le_of_ble_eq_true rfl, Nat.le_of_ble_eq_true rfl⟩ ⟨Nat.le_of_ble_eq_true rfl, Nat.le_of_ble_eq_true rfl⟩ (Nat.le_of_ble_eq_true rfl) dX12_townLine_88 rfl ?_
        refine e_if_eq X 123 dX12_townLine_91 (by decide) (fun c9 => ?_) (fun c9 => ?_)
        · skip
          rw [if_pos c9] at hF
          refine e_aload_n X dX12_townLine_123 rfl rfl ?_
          refine e_ldcS X (sr_X12_161 (x_gst X)) dX12_townLine_124 ?_
          obtain ⟨z10, h_z10, hF⟩ := obind_out hF
          refine e_callVi X (r := z10.2) (σ1 := z10.1) [.ref (sad Γ 4)] [] (C_M_says (Cx_gok X) z8.1 4 (by decide) h_z10) gv_X12_111 yk_X12_says rfl (ent_lt (rfl : entTbl[333]? = some (13, 0))) (ent_at (rfl : entTbl[333]? = some (13, 0)) _) (rfl : vCl[11]? = some (RX12, TX12, 24)) ⟨Nat.le_of_ble_eq_true rfl, Nat.le_of_ble_eq_true rfl⟩ ⟨Nat.le_of_ble_eq_true rfl, Nat.le_of_ble_eq_true rfl⟩ (Nat.le_of_ble_eq_true rfl) dX12_townLine_126 rfl ?_
          refine e_if_eq X 140 dX12_townLine_129 (by decide) (fun c11 => ?_) (fun c11 => ?_)
          · skip
            rw [if_pos c11] at hF
            refine e_aload_n X dX12_townLine_140 rfl rfl ?_
            refine e_ldcS X (sr_X12_166 (x_gst X)) dX12_townLine_141 ?_
            obtain ⟨z12, h_z12, hF⟩ := obind_out hF
            refine e_callVi X (r := z12.2) (σ1 := z12.1) [.ref (sad Γ 5)] [] (C_M_says (Cx_gok X) z10.1 5 (by decide) h_z12) gv_X12_111 yk_X12_says rfl (ent_lt (rfl : entTbl[333]? = some (13, 0))) (ent_at (rfl : entTbl[333]? = some (13, 0)) _) (rfl : vCl[11]? = some (RX12, TX12, 24)) ⟨Nat.le_of_ble_eq_true rfl, Nat.le_of_ble_eq_true rfl⟩ ⟨Nat.le_of_ble_eq_true rfl, Nat.le_of_ble_eq_true rfl⟩ (Nat.le_of_ble_eq_true rfl) dX12_townLine_143 rfl ?_
            refine e_if_eq X 159 dX12_townLine_146 (by decide) (fun c13 => ?_) (fun c13 => ?_)
            · skip
              rw [if_pos c13] at hF
              refine e_aload_n X dX12_townLine_159 rfl rfl ?_
              refine e_ldcS X (sr_X12_171 (x_gst X)) dX12_townLine_160 ?_
              obtain ⟨z14, h_z14, hF⟩ := obind_out hF
              refine e_callVi X (r := z14.2) (σ1 := z14.1) [.ref (sad Γ 6)] [] (C_M_says (Cx_gok X) z12.1 6 (by decide) h_z14) gv_X12_111 yk_X12_says rfl (ent_lt (rfl : entTbl[333]? = some (13, 0))) (ent_at (rfl : entTbl[333]? = some (13, 0)) _) (rfl : vCl[11]? = some (RX12, TX12, 24)) ⟨Nat.le_of_ble_eq_true rfl, Nat.le_of_ble_eq_true rfl⟩ ⟨Nat.le_of_ble_eq_true rfl, Nat.le_of_ble_eq_true rfl⟩ (Nat.le_of_ble_eq_true rfl) dX12_townLine_162 rfl ?_
              refine e_if_eq X 179 dX12_townLine_165 (by decide) (fun c15 => ?_) (fun c15 => ?_)
              · skip
                rw [if_pos c15] at hF
                refine e_aload_n X dX12_townLine_179 rfl rfl ?_
                refine e_ldcS X (sr_X12_173 (x_gst X)) dX12_townLine_180 ?_
                obtain ⟨z16, h_z16, hF⟩ := obind_out hF
                refine e_callVi X (r := z16.2) (σ1 := z16.1) [.ref (sad Γ 7)] [] (C_M_says (Cx_gok X) z14.1 7 (by decide) h_z16) gv_X12_111 yk_X12_says rfl (ent_lt (rfl : entTbl[333]? = some (13, 0))) (ent_at (rfl : entTbl[333]? = some (13, 0)) _) (rfl : vCl[11]? = some (RX12, TX12, 24)) ⟨Nat.le_of_ble_eq_true rfl, Nat.le_of_ble_eq_true rfl⟩ ⟨Nat.le_of_ble_eq_true rfl, Nat.le_of_ble_eq_true rfl⟩ (Nat.le_of_ble_eq_true rfl) dX12_townLine_182 rfl ?_
                refine e_if_eq X 199 dX12_townLine_185 (by decide) (fun c17 => ?_) (fun c17 => ?_)
                · skip
                  rw [if_pos c17] at hF
                  refine e_aload_n X dX12_townLine_199 rfl rfl ?_
                  refine e_aload_n X dX12_townLine_200 rfl rfl ?_
                  refine ge_M_at X wf_X12_82 dX12_townLine_201 ?_
                  obtain ⟨z18, h_z18, hF⟩ := bindT_out hF
                  refine e_callVv X (σ1 := z18) [.int ((z16.1 333 11))] [] (by rw [h_z18]; exact C_M_wrong (Cx_gok X) z16.1 ((z16.1 333 11))) gv_X12_107 yk_X12_wrong rfl (ent_lt (rfl : entTbl[333]? = some (13, 0))) (ent_at (rfl : entTbl[333]? = some (13, 0)) _) (rfl : vCl[11]? = some (RX12, TX12, 24)) ⟨Nat.le_of_ble_eq_true rfl, Nat.le_of_ble_eq_true rfl⟩ ⟨Nat.le_of_ble_eq_true rfl, Nat.le_of_ble_eq_true rfl⟩ (Nat.le_of_ble_eq_true rfl) dX12_townLine_204 rfl ?_
                  exact e_vret X hr dX12_townLine_207 (Nat.le_of_ble_eq_true rfl) (Nat.le_of_ble_eq_true rfl) (by cases hF; exact ⟨rfl, rfl⟩)
                · skip
                  rw [if_neg c17] at hF
                  refine e_aload_n X dX12_townLine_188 rfl rfl ?_
                  refine e_bipush X 7 dX12_townLine_189 rfl ?_
                  refine e_bipush X 99 dX12_townLine_191 rfl ?_
                  obtain ⟨z19, h_z19, hF⟩ := obind_out hF
                  refine e_callVv X (σ1 := z19) [.int 7, .int 99] [] (C_M_tells (Cx_gok X) z16.1 7 99 h_z19) gv_X12_168 yk_X12_tells rfl (ent_lt (rfl : entTbl[333]? = some (13, 0))) (ent_at (rfl : entTbl[333]? = some (13, 0)) _) (rfl : vCl[11]? = some (RX12, TX12, 24)) ⟨Nat.le_of_ble_eq_true rfl, Nat.le_of_ble_eq_true rfl⟩ ⟨Nat.le_of_ble_eq_true rfl, Nat.le_of_ble_eq_true rfl⟩ (Nat.le_of_ble_eq_true rfl) dX12_townLine_193 rfl ?_
                  refine e_goto X 207 dX12_townLine_196 (by decide) ?_
                  exact e_vret X hr dX12_townLine_207 (Nat.le_of_ble_eq_true rfl) (Nat.le_of_ble_eq_true rfl) (by cases hF; exact ⟨rfl, rfl⟩)
              · skip
                rw [if_neg c15] at hF
                refine e_aload_n X dX12_townLine_168 rfl rfl ?_
                refine e_bipush X 6 dX12_townLine_169 rfl ?_
                refine e_bipush X 20 dX12_townLine_171 rfl ?_
                obtain ⟨z20, h_z20, hF⟩ := obind_out hF
                refine e_callVv X (σ1 := z20) [.int 6, .int 20] [] (C_M_tells (Cx_gok X) z14.1 6 20 h_z20) gv_X12_168 yk_X12_tells rfl (ent_lt (rfl : entTbl[333]? = some (13, 0))) (ent_at (rfl : entTbl[333]? = some (13, 0)) _) (rfl : vCl[11]? = some (RX12, TX12, 24)) ⟨Nat.le_of_ble_eq_true rfl, Nat.le_of_ble_eq_true rfl⟩ ⟨Nat.le_of_ble_eq_true rfl, Nat.le_of_ble_eq_true rfl⟩ (Nat.le_of_ble_eq_true rfl) dX12_townLine_173 rfl ?_
                refine e_goto X 207 dX12_townLine_176 (by decide) ?_
                exact e_vret X hr dX12_townLine_207 (Nat.le_of_ble_eq_true rfl) (Nat.le_of_ble_eq_true rfl) (by cases hF; exact ⟨rfl, rfl⟩)
            · skip
              rw [if_neg c13] at hF
              refine e_aload_n X dX12_townLine_149 rfl rfl ?_
              refine e_iconst X 5 dX12_townLine_150 rfl ?_
              refine e_bipush X 99 dX12_townLine_151 rfl ?_
              obtain ⟨z21, h_z21, hF⟩ := obind_out hF
              refine e_callVv X (σ1 := z21) [.int 5, .int 99] [] (C_M_tells (Cx_gok X) z12.1 5 99 h_z21) gv_X12_168 yk_X12_tells rfl (ent_lt (rfl : entTbl[333]? = some (13, 0))) (ent_at (rfl : entTbl[333]? = some (13, 0)) _) (rfl : vCl[11]? = some (RX12, TX12, 24)) ⟨Nat.le_of_ble_eq_true rfl, Nat.le_of_ble_eq_true rfl⟩ ⟨Nat.le_of_ble_eq_true rfl, Nat.le_of_ble_eq_true rfl⟩ (Nat.le_of_ble_eq_true rfl) dX12_townLine_153 rfl ?_
              refine e_goto X 207 dX12_townLine_156 (by decide) ?_
              exact e_vret X hr dX12_townLine_207 (Nat.le_of_ble_eq_true rfl) (Nat.le_of_ble_eq_true rfl) (by cases hF; exact ⟨rfl, rfl⟩)
          · skip
            rw [if_neg c11] at hF
            refine e_aload_n X dX12_townLine_132 rfl rfl ?_
            refine e_iload_n X dX12_townLine_133 rfl rfl ?_
            obtain ⟨z22, h_z22, hF⟩ := obind_out hF
            refine e_callVv X (σ1 := z22) [.int z1.2] [] (C_M_wedLine (Cx_gok X) z10.1 z1.2 h_z22) gv_X12_163 yk_X12_wedLine rfl (ent_lt (rfl : entTbl[333]? = some (13, 0))) (ent_at (rfl : entTbl[333]? = some (13, 0)) _) (rfl : vCl[11]? = some (RX12, TX12, 24)) ⟨Nat.le_of_ble_eq_true rfl, Nat.le_of_ble_eq_true rfl⟩ ⟨Nat.le_of_ble_eq_true rfl, Nat.le_of_ble_eq_true rfl⟩ (Nat.le_of_ble_eq_true rfl) dX12_townLine_134 rfl ?_
            refine e_goto X 207 dX12_townLine_137 (by decide) ?_
            exact e_vret X hr dX12_townLine_207 (Nat.le_of_ble_eq_true rfl) (Nat.le_of_ble_eq_true rfl) (by cases hF; exact ⟨rfl, rfl⟩)
        · skip
          rw [if_neg c9] at hF
          refine e_aload_n X dX12_townLine_94 rfl rfl ?_
          obtain ⟨z23, h_z23, hF⟩ := obind_out hF
          refine e_callVi X (r := z23.2) (σ1 := z23.1) [] [] (C_M_who (Cx_gok X) z8.1 h_z23) gv_X12_118 yk_X12_who rfl (ent_lt (rfl : entTbl[333]? = some (13, 0))) (ent_at (rfl : entTbl[333]? = some (13, 0)) _) (rfl : vCl[11]? = some (RX12, TX12, 24)) ⟨Nat.le_of_ble_eq_true rfl, Nat.le_of_ble_eq_true rfl⟩ ⟨Nat.le_of_ble_eq_true rfl, Nat.le_of_ble_eq_true rfl⟩ (Nat.le_of_ble_eq_true rfl) dX12_townLine_95 rfl ?_
          refine e_istore_n X rfl dX12_townLine_98 rfl (by decide) ?_
          refine e_aload_n X dX12_townLine_99 rfl rfl ?_
          refine e_iload_n X dX12_townLine_100 rfl rfl ?_
          obtain ⟨z24, h_z24, hF⟩ := obind_out hF
          refine e_callVi X (r := z24.2) (σ1 := z24.1) [.int z23.2] [] (C_M_other (Cx_gok X) z23.1 z23.2 h_z24) gv_X12_128 yk_X12_other rfl (ent_lt (rfl : entTbl[333]? = some (13, 0))) (ent_at (rfl : entTbl[333]? = some (13, 0)) _) (rfl : vCl[11]? = some (RX12, TX12, 24)) ⟨Nat.le_of_ble_eq_true rfl, Nat.le_of_ble_eq_true rfl⟩ ⟨Nat.le_of_ble_eq_true rfl, Nat.le_of_ble_eq_true rfl⟩ (Nat.le_of_ble_eq_true rfl) dX12_townLine_101 rfl ?_
          refine e_istore_n X rfl dX12_townLine_104 rfl (by decide) ?_
          refine e_aload_n X dX12_townLine_105 rfl rfl ?_
          refine ge_M_fault X wf_X12_25 dX12_townLine_106 ?_
          refine e_iconst X (-1) dX12_townLine_109 rfl ?_
          refine e_icmp_ne X 120 dX12_townLine_110 (by decide) (fun c25 => ?_) (fun c25 => ?_)
          · skip
            rw [if_neg c25] at hF
            refine e_goto X 207 dX12_townLine_120 (by decide) ?_
            exact e_vret X hr dX12_townLine_207 (Nat.le_of_ble_eq_true rfl) (Nat.le_of_ble_eq_true rfl) (by cases hF; exact ⟨rfl, rfl⟩)
          · skip
            rw [if_pos c25] at hF
            refine e_aload_n X dX12_townLine_113 rfl rfl ?_
            refine e_iload_n X dX12_townLine_114 rfl rfl ?_
            refine e_iconst X 2 dX12_townLine_115 rfl ?_
            refine e_iload_n X dX12_townLine_116 rfl rfl ?_
            obtain ⟨z26, h_z26, hF⟩ := obind_out hF
            refine e_callVv X (σ1 := z26) [.int z23.2, .int 2, .int z24.2] [] (C_M_has (Cx_gok X) z24.1 z23.2 2 z24.2 h_z26) gv_X12_144 yk_X12_has rfl (ent_lt (rfl : entTbl[333]? = some (13, 0))) (ent_at (rfl : entTbl[333]? = some (13, 0)) _) (rfl : vCl[11]? = some (RX12, TX12, 24)) ⟨Nat.le_of_ble_eq_true rfl, Nat.le_of_ble_eq_true rfl⟩ ⟨Nat.le_of_ble_eq_true rfl, Nat.le_of_ble_eq_true rfl⟩ (Nat.le_of_ble_eq_true rfl) dX12_townLine_117 rfl ?_
            refine e_goto X 207 dX12_townLine_120 (by decide) ?_
            exact e_vret X hr dX12_townLine_207 (Nat.le_of_ble_eq_true rfl) (Nat.le_of_ble_eq_true rfl) (by cases hF; exact ⟨rfl, rfl⟩)
      · skip
        rw [if_neg c7] at hF
        refine e_aload_n X dX12_townLine_47 rfl rfl ?_
        obtain ⟨z27, h_z27, hF⟩ := obind_out hF
        refine e_callVi X (r := z27.2) (σ1 := z27.1) [] [] (C_M_who (Cx_gok X) z6.1 h_z27) gv_X12_118 yk_X12_who rfl (ent_lt (rfl : entTbl[333]? = some (13, 0))) (ent_at (rfl : entTbl[333]? = some (13, 0)) _) (rfl : vCl[11]? = some (RX12, TX12, 24)) ⟨Nat.le_of_ble_eq_true rfl, Nat.le_of_ble_eq_true rfl⟩ ⟨Nat.le_of_ble_eq_true rfl, Nat.le_of_ble_eq_true rfl⟩ (Nat.le_of_ble_eq_true rfl) dX12_townLine_48 rfl ?_
        refine e_istore_n X rfl dX12_townLine_51 rfl (by decide) ?_
        refine e_aload_n X dX12_townLine_52 rfl rfl ?_
        refine e_iload_n X dX12_townLine_53 rfl rfl ?_
        obtain ⟨z28, h_z28, hF⟩ := obind_out hF
        refine e_callVi X (r := z28.2) (σ1 := z28.1) [.int z27.2] [] (C_M_other (Cx_gok X) z27.1 z27.2 h_z28) gv_X12_128 yk_X12_other rfl (ent_lt (rfl : entTbl[333]? = some (13, 0))) (ent_at (rfl : entTbl[333]? = some (13, 0)) _) (rfl : vCl[11]? = some (RX12, TX12, 24)) ⟨Nat.le_of_ble_eq_true rfl, Nat.le_of_ble_eq_true rfl⟩ ⟨Nat.le_of_ble_eq_true rfl, Nat.le_of_ble_eq_true rfl⟩ (Nat.le_of_ble_eq_true rfl) dX12_townLine_54 rfl ?_
        refine e_istore_n X rfl dX12_townLine_57 rfl (by decide) ?_
        refine e_aload_n X dX12_townLine_58 rfl rfl ?_
        refine ge_M_fault X wf_X12_25 dX12_townLine_59 ?_
        refine e_iconst X (-1) dX12_townLine_62 rfl ?_
        refine e_icmp_ne X 82 dX12_townLine_63 (by decide) (fun c29 => ?_) (fun c29 => ?_)
        · skip
          rw [if_neg c29] at hF
          refine e_goto X 207 dX12_townLine_82 (by decide) ?_
          exact e_vret X hr dX12_townLine_207 (Nat.le_of_ble_eq_true rfl) (Nat.le_of_ble_eq_true rfl) (by cases hF; exact ⟨rfl, rfl⟩)
        · skip
          rw [if_pos c29] at hF
          refine e_aload_n X dX12_townLine_66 rfl rfl ?_
          refine e_iload_n X dX12_townLine_67 rfl rfl ?_
          refine e_iconst X 1 dX12_townLine_68 rfl ?_
          refine e_aload_n X dX12_townLine_69 rfl rfl ?_
          refine e_iload_n X dX12_townLine_70 rfl rfl ?_
          refine e_iconst X 1 dX12_townLine_71 rfl ?_
          obtain ⟨z30, h_z30, hF⟩ := obind_out hF
          refine e_callVi X (r := z30) (σ1 := z28.1) [.int z27.2, .int 1] [.int 1, .int z27.2, .ref (Γ.1 + 333)] (C_M_of (Cx_gok X) z28.1 z27.2 1 h_z30) gv_X12_62 yk_X12_of rfl (ent_lt (rfl : entTbl[333]? = some (13, 0))) (ent_at (rfl : entTbl[333]? = some (13, 0)) _) (rfl : vCl[11]? = some (RX12, TX12, 24)) ⟨Nat.le_of_ble_eq_true rfl, Nat.le_of_ble_eq_true rfl⟩ ⟨Nat.le_of_ble_eq_true rfl, Nat.le_of_ble_eq_true rfl⟩ (Nat.le_of_ble_eq_true rfl) dX12_townLine_72 rfl ?_
          refine e_iconst X 1 dX12_townLine_75 rfl ?_
          refine e_iload_n X dX12_townLine_76 rfl rfl ?_
          refine e_ishl X dX12_townLine_77 ?_
          refine e_ior X dX12_townLine_78 ?_
          obtain ⟨z31, h_z31, hF⟩ := obind_out hF
          refine e_callVv X (σ1 := z31) [.int z27.2, .int 1, .int ((z30 ||| ((1 : Int32) <<< ((z28.2 : Int32) &&& 31))))] [] (C_M_has (Cx_gok X) z28.1 z27.2 1 ((z30 ||| ((1 : Int32) <<< ((z28.2 : Int32) &&& 31)))) h_z31) gv_X12_144 yk_X12_has rfl (ent_lt (rfl : entTbl[333]? = some (13, 0))) (ent_at (rfl : entTbl[333]? = some (13, 0)) _) (rfl : vCl[11]? = some (RX12, TX12, 24)) ⟨Nat.le_of_ble_eq_true rfl, Nat.le_of_ble_eq_true rfl⟩ ⟨Nat.le_of_ble_eq_true rfl, Nat.le_of_ble_eq_true rfl⟩ (Nat.le_of_ble_eq_true rfl) dX12_townLine_79 rfl ?_
          refine e_goto X 207 dX12_townLine_82 (by decide) ?_
          exact e_vret X hr dX12_townLine_207 (Nat.le_of_ble_eq_true rfl) (Nat.le_of_ble_eq_true rfl) (by cases hF; exact ⟨rfl, rfl⟩)
    · skip
      rw [if_neg c5] at hF
      refine e_aload_n X dX12_townLine_31 rfl rfl ?_
      obtain ⟨z32, h_z32, hF⟩ := obind_out hF
      refine e_callVv X (σ1 := z32) [] [] (C_M_likings (Cx_gok X) z4.1 h_z32) gv_X12_154 yk_X12_likings rfl (ent_lt (rfl : entTbl[333]? = some (13, 0))) (ent_at (rfl : entTbl[333]? = some (13, 0)) _) (rfl : vCl[11]? = some (RX12, TX12, 24)) ⟨Nat.le_of_ble_eq_true rfl, Nat.le_of_ble_eq_true rfl⟩ ⟨Nat.le_of_ble_eq_true rfl, Nat.le_of_ble_eq_true rfl⟩ (Nat.le_of_ble_eq_true rfl) dX12_townLine_32 rfl ?_
      refine e_goto X 207 dX12_townLine_35 (by decide) ?_
      exact e_vret X hr dX12_townLine_207 (Nat.le_of_ble_eq_true rfl) (Nat.le_of_ble_eq_true rfl) (by cases hF; exact ⟨rfl, rfl⟩)
  · skip
    rw [if_neg c3] at hF
    refine e_aload_n X dX12_townLine_14 rfl rfl ?_
    refine e_iload_n X dX12_townLine_15 rfl rfl ?_
    obtain ⟨z33, h_z33, hF⟩ := obind_out hF
    refine e_callVv X (σ1 := z33) [.int z1.2] [] (C_M_personLine (Cx_gok X) z2.1 z1.2 h_z33) gv_X12_149 yk_X12_personLine rfl (ent_lt (rfl : entTbl[333]? = some (13, 0))) (ent_at (rfl : entTbl[333]? = some (13, 0)) _) (rfl : vCl[11]? = some (RX12, TX12, 24)) ⟨Nat.le_of_ble_eq_true rfl, Nat.le_of_ble_eq_true rfl⟩ ⟨Nat.le_of_ble_eq_true rfl, Nat.le_of_ble_eq_true rfl⟩ (Nat.le_of_ble_eq_true rfl) dX12_townLine_16 rfl ?_
    refine e_goto X 207 dX12_townLine_19 (by decide) ?_
    exact e_vret X hr dX12_townLine_207 (Nat.le_of_ble_eq_true rfl) (Nat.le_of_ble_eq_true rfl) (by cases hF; exact ⟨rfl, rfl⟩)
end PART

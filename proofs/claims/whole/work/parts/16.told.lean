section PART
variable {p : Program} {l : Launch} {e : Env} {R : Room} {s : State} {m : MethodId} {args : Array Value} {below : List Frame} {meth : Method} {c : Code} {Γ : Gm} {D : va_G} {s0 : State} {cells slots : Nat} {Q : State → Prop} {own : String} {cc : ByteArray} {nL : Nat} {σ : Mem} {pc : Nat} {lv : List (Option Value)} {st : List Value} {Pst : Option Value → Mem → Prop}
def F_Told_reads_27_b (r1 : Nat) (rn1 : Nat) (v2 : Int32) (v3 : Int32) (v4 : Int32) (σ : Mem) : Option ((Int32 × Mem) ⊕ ((Int32 × Mem) ⊕ (Mem × Int32))) := (if v4 < v2 then bindT ((F_Row_at σ r1 rn1 v4)) fun x6 => bindT ((F_Row_at σ r1 rn1 ((v4 + 1)))) fun x7 => (if x7 < x6 then some (.inr (.inr ((σ, 0)))) else (if x7 < (σ 122 4) then bindT (F_Row_put σ 123 12 ((σ 122 3)) ((((1 : Int32) <<< (((x7 + 1) : Int32) &&& 31)) - ((1 : Int32) <<< ((x6 : Int32) &&& 31))))) fun z10 => bindT (F_Row_put z10 125 12 ((z10 122 3)) ((F_Row_at z10 r1 rn1 ((v4 + 2))))) fun z11 => bindT (up z11 122 3 (((z11 122 3) + 1))) fun σ12 => bindT (v4 + 3) fun x13 => some (.inl ((x13, σ12))) else some (.inr (.inr ((σ, 0)))))) else some (.inr (.inl ((v4, σ)))))
def F_Told_reads (σ : Mem) (r1 rn1 : Nat) (v2 : Int32) (v3 : Int32) : Option (Mem × Int32) := bindT (up σ 122 3 0) fun σ1 => bindT (up σ1 122 4 v3) fun σ2 => (if 36 < v2 then some ((σ2, 0)) else (if (v2 - v2 / 3 * 3) = 0 then obind (whl (fun s => F_Told_reads_27_b r1 rn1 v2 v3 s.1 s.2) FUEL (0, σ2)) fun z14 => sumE z14 (fun s15 => some ((s15.2, 1))) (fun r16 => some r16) else some ((σ2, 0))))
def F_Told_fits_2_b (σ : Mem) (v1 : Int32) (v2 : Int32) : (Unit) ⊕ (Int32) := (if (F_Int_bitCount_0f7a4 σ ((v1 &&& (F_Row_at σ 123 12 v2)))) = (F_Row_at σ 125 12 v2) then .inl (()) else .inr 0)
def F_Told_fits (σ : Mem) (v1 : Int32) : Int32 := bindT (forG (fun i s => F_Told_fits_2_b σ v1 i ) (cnt 0 ((σ 122 3))) 0 ()) fun z4 => sumE z4 (fun s5 => 1) (fun r6 => r6)
def F_Told_addMembers_2_b (v1 : Int32) (v2 : Int32) (σ : Mem) : Option ((Int32 × Mem) ⊕ (Int32 × Mem)) := (if v2 < (σ 122 4) then (if (F_W_contains σ v1 v2) = 0 then bindT (v2 + 1) fun x3 => some (.inl ((x3, σ))) else bindT (F_Row_put σ 127 8 v2 (((F_Row_at σ 127 8 v2) + 1))) fun z4 => bindT (v2 + 1) fun x5 => some (.inl ((x5, z4)))) else some (.inr ((v2, σ))))
def F_Told_addMembers (σ : Mem) (v1 : Int32) : Option (Mem) := obind (whl (fun s => F_Told_addMembers_2_b v1 s.1 s.2) FUEL (0, σ)) fun z6 => some z6.2
def F_Told_fitting_12_b  (v1 : Int32) (v2 : Int32) (σ : Mem) : Option ((Int32 × Int32 × Mem) ⊕ (Int32 × Int32 × Mem)) := (if v2 < ((1 : Int32) <<< (((σ 122 4) : Int32) &&& 31)) then (if (F_Told_fits σ v2) = 0 then bindT (v2 + 1) fun x4 => some (.inl ((v1, x4, σ))) else bindT (v1 + 1) fun x5 => obind (F_Told_addMembers σ v2) fun z6 => bindT (v2 + 1) fun x7 => some (.inl ((x5, x7, z6)))) else some (.inr ((v1, v2, σ))))
def F_Told_fitting (σ : Mem)  : Option (Mem × Int32) := bindT (F_Row_putAll σ 127 8 0) fun z1 => obind (whl (fun s => F_Told_fitting_12_b  s.1 s.2.1 s.2.2) FUEL (0, 0, z1)) fun z8 => some ((z8.2.2, z8.1))
def F_Told_inAll_9_b (σ : Mem) (v1 : Int32) (v3 : Int32) (v2 : Int32) : (Int32) ⊕ (Int32) := (if 0 < v1 then (if (F_Row_at σ 127 8 v3) = v1 then bindT ((v2 ||| ((1 : Int32) <<< ((v3 : Int32) &&& 31)))) fun x5 => .inl x5 else .inl v2) else .inr v2)
def F_Told_inAll (σ : Mem)  : Option (Mem × Int32) := obind (F_Told_fitting σ) fun z1 => bindT (mrg (forG (fun i s => F_Told_inAll_9_b z1.1 z1.2 i s) (cnt 0 ((z1.1 122 4))) 0 0)) fun z7 => some ((z1.1, z7))
def F_Told_bestParter_12_b (σ : Mem) (v1 : Int32) (v4 : Int32) (v2 : Int32) (v3 : Int32) : (Int32 × Int32) ⊕ (Int32 × Int32) := (if 1 < v1 then bindT ((F_Row_at σ 127 8 v4)) fun x4 => bindT ((if x4 < (v1 - x4) then (v1 - x4) else x4)) fun x5 => (if v2 = (-1) then .inl ((v4, x5)) else (if x5 < v3 then .inl ((v4, x5)) else .inl ((v2, v3)))) else .inr ((v2, v3)))
def F_Told_bestParter (σ : Mem)  : Option (Mem × Int32) := obind (F_Told_fitting σ) fun z1 => bindT (mrg (forG (fun i s => F_Told_bestParter_12_b z1.1 z1.2 i s.1 s.2) (cnt 0 ((z1.1 122 4))) 0 ((-1), z1.2))) fun z9 => some ((z1.1, z9.1))
set_option maxRecDepth 20000 in
set_option maxHeartbeats 4000000 in
theorem L_Told_reads_27 (X : Cx p l s m args meth c Γ D s0 RX8 cX8_reads 7) (hr : meth.sig.returnType = (some .boolean)) (r1 : Nat) (rn1 : Nat) (v2 : Int32) (v3 : Int32) (gr1 : isRow r1 rn1) : ∀ (n : Nat) (v4 : Int32) (σ : Mem) {z : (Int32 × Mem) ⊕ (Mem × Int32)}, whl (fun s => F_Told_reads_27_b r1 rn1 v2 v3 s.1 s.2) n (v4, σ) = some z → (sumP z (fun s9 => E p l e ({ frames := 1, cells := 0, slots := 0, locals := 22 } : Room) s m args below meth c Γ D 0 0 (MQ below (QcA Γ D Pst) args s 0 0 (frB Γ)) s9.2 126 [some (.ref (Γ.1 + 122)), some (.ref (Γ.1 + r1)), some (.int v2), some (.int v3), some (.int s9.1), none, none] []) (fun r9 => Pst (some (.int r9.2)) r9.1)) → E p l e ({ frames := 1, cells := 0, slots := 0, locals := 22 } : Room) s m args below meth c Γ D 0 0 (MQ below (QcA Γ D Pst) args s 0 0 (frB Γ)) σ 27 [some (.ref (Γ.1 + 122)), some (.ref (Γ.1 + r1)), some (.int v2), some (.int v3), some (.int v4), none, none] [] := by
  intro n
  induction n with
  | zero =>
    intro v4 σ z hF hK
    cases hF
  | succ n ih =>
    intro v4 σ z hF hK
    obtain ⟨y9, hB, hF⟩ := whl_step hF
    change F_Told_reads_27_b r1 rn1 v2 v3 v4 σ = some y9 at hB
    unfold F_Told_reads_27_b at hB
    refine e_iload X dX8_reads_27 rfl ?_
    refine e_iload_n X dX8_reads_29 rfl rfl ?_
    refine e_icmp_ge X 126 dX8_reads_30 (by decide) (fun c5 => ?_) (fun c5 => ?_)
    · skip
      rw [if_neg c5] at hB
      have hy9 := Option.some.inj hB; change (.inr (.inl ((v4, σ)))) = y9 at hy9; subst hy9
      have hz9 := Option.some.inj hF; change (.inl ((v4, σ))) = z at hz9; subst hz9
      exact e_le hK (And.intro rfl (And.intro rfl (And.intro rfl (And.intro rfl (And.intro rfl (trivial))))))
    · skip
      rw [if_pos c5] at hB
      refine e_aload_n X dX8_reads_33 rfl rfl ?_
      refine e_iload X dX8_reads_34 rfl ?_
      refine e_callVi X (r := (F_Row_at σ r1 rn1 v4)) (σ1 := σ) [.int v4] [] (C_Row_at (Cx_gok X) σ r1 rn1 v4 gr1) gv_X8_33 yk_X6_at rfl (ent_lt gr1.1) (ent_at gr1.1 _) (rfl : vCl[6]? = some (RX6, TX6, 1)) ⟨Nat.le_of_ble_eq_true rfl, Nat.le_of_ble_eq_true rfl⟩ ⟨Nat.le_of_ble_eq_true rfl, Nat.le_of_ble_eq_true rfl⟩ (Nat.le_of_ble_eq_true rfl) dX8_reads_36 rfl ?_
      obtain ⟨x6, h_x6, hB⟩ := bindT_out hB
      refine e_istore X h_x6 dX8_reads_39 (by decide) ?_
      refine e_aload_n X dX8_reads_41 rfl rfl ?_
      refine e_iload X dX8_reads_42 rfl ?_
      refine e_iconst X 1 dX8_reads_44 rfl ?_
      refine e_iadd X dX8_reads_45 ?_
      refine e_callVi X (r := (F_Row_at σ r1 rn1 ((v4 + 1)))) (σ1 := σ) [.int ((v4 + 1))] [] (C_Row_at (Cx_gok X) σ r1 rn1 ((v4 + 1)) gr1) gv_X8_33 yk_X6_at rfl (ent_lt gr1.1) (ent_at gr1.1 _) (rfl : vCl[6]? = some (RX6, TX6, 1)) ⟨Nat.le_of_ble_eq_true rfl, Nat.le_of_ble_eq_true rfl⟩ ⟨Nat.le_of_ble_eq_true rfl, Nat.le_of_ble_eq_true rfl⟩ (Nat.le_of_ble_eq_true rfl) dX8_reads_46 rfl ?_
      obtain ⟨x7, h_x7, hB⟩ := bindT_out hB
      refine e_istore X h_x7 dX8_reads_49 (by decide) ?_
      refine e_iload X dX8_reads_51 rfl ?_
      refine e_iload X dX8_reads_53 rfl ?_
      refine e_icmp_gt X 67 dX8_reads_55 (by decide) (fun c8 => ?_) (fun c8 => ?_)
      · skip
        rw [if_pos c8] at hB
        refine e_iconst X 0 dX8_reads_67 rfl ?_
        have hy9 := Option.some.inj hB; change (.inr (.inr ((σ, 0)))) = y9 at hy9; subst hy9
        have hz9 := Option.some.inj hF; change (.inr ((σ, 0))) = z at hz9; subst hz9
        exact e_zret X hr rfl dX8_reads_68 (Nat.le_of_ble_eq_true rfl) (Nat.le_of_ble_eq_true rfl) hK
      · skip
        rw [if_neg c8] at hB
        refine e_iload X dX8_reads_58 rfl ?_
        refine e_aload_n X dX8_reads_60 rfl rfl ?_
        refine ge_Told_people X wf_X8_30 dX8_reads_61 ?_
        refine e_icmp_lt X 69 dX8_reads_64 (by decide) (fun c9 => ?_) (fun c9 => ?_)
        · skip
          rw [if_pos c9] at hB
          refine e_aload_n X dX8_reads_69 rfl rfl ?_
          refine ge_Told_rowSets X wf_X8_14 dX8_reads_70 ?_
          refine e_aload_n X dX8_reads_73 rfl rfl ?_
          refine ge_Told_rows X wf_X8_26 dX8_reads_74 ?_
          refine e_iconst X 1 dX8_reads_77 rfl ?_
          refine e_iload X dX8_reads_78 rfl ?_
          refine e_iconst X 1 dX8_reads_80 rfl ?_
          refine e_iadd X dX8_reads_81 ?_
          refine e_ishl X dX8_reads_82 ?_
          refine e_iconst X 1 dX8_reads_83 rfl ?_
          refine e_iload X dX8_reads_84 rfl ?_
          refine e_ishl X dX8_reads_86 ?_
          refine e_isub X dX8_reads_87 ?_
          obtain ⟨z10, h_z10, hB⟩ := bindT_out hB
          refine e_callVv X (σ1 := z10) [.int ((σ 122 3)), .int ((((1 : Int32) <<< (((x7 + 1) : Int32) &&& 31)) - ((1 : Int32) <<< ((x6 : Int32) &&& 31))))] [] (by rw [h_z10]; exact C_Row_put (Cx_gok X) σ 123 12 ((σ 122 3)) ((((1 : Int32) <<< (((x7 + 1) : Int32) &&& 31)) - ((1 : Int32) <<< ((x6 : Int32) &&& 31)))) ok_Row_123) gv_X8_37 yk_X6_put rfl (ent_lt ok_Row_123.1) (ent_at ok_Row_123.1 _) (rfl : vCl[6]? = some (RX6, TX6, 1)) ⟨Nat.le_of_ble_eq_true rfl, Nat.le_of_ble_eq_true rfl⟩ ⟨Nat.le_of_ble_eq_true rfl, Nat.le_of_ble_eq_true rfl⟩ (Nat.le_of_ble_eq_true rfl) dX8_reads_88 rfl ?_
          refine e_aload_n X dX8_reads_91 rfl rfl ?_
          refine ge_Told_rowCounts X wf_X8_20 dX8_reads_92 ?_
          refine e_aload_n X dX8_reads_95 rfl rfl ?_
          refine ge_Told_rows X wf_X8_26 dX8_reads_96 ?_
          refine e_aload_n X dX8_reads_99 rfl rfl ?_
          refine e_iload X dX8_reads_100 rfl ?_
          refine e_iconst X 2 dX8_reads_102 rfl ?_
          refine e_iadd X dX8_reads_103 ?_
          refine e_callVi X (r := (F_Row_at z10 r1 rn1 ((v4 + 2)))) (σ1 := z10) [.int ((v4 + 2))] [.int ((z10 122 3)), .ref (Γ.1 + 125)] (C_Row_at (Cx_gok X) z10 r1 rn1 ((v4 + 2)) gr1) gv_X8_33 yk_X6_at rfl (ent_lt gr1.1) (ent_at gr1.1 _) (rfl : vCl[6]? = some (RX6, TX6, 1)) ⟨Nat.le_of_ble_eq_true rfl, Nat.le_of_ble_eq_true rfl⟩ ⟨Nat.le_of_ble_eq_true rfl, Nat.le_of_ble_eq_true rfl⟩ (Nat.le_of_ble_eq_true rfl) dX8_reads_104 rfl ?_
          obtain ⟨z11, h_z11, hB⟩ := bindT_out hB
          refine e_callVv X (σ1 := z11) [.int ((z10 122 3)), .int ((F_Row_at z10 r1 rn1 ((v4 + 2))))] [] (by rw [h_z11]; exact C_Row_put (Cx_gok X) z10 125 12 ((z10 122 3)) ((F_Row_at z10 r1 rn1 ((v4 + 2)))) ok_Row_125) gv_X8_37 yk_X6_put rfl (ent_lt ok_Row_125.1) (ent_at ok_Row_125.1 _) (rfl : vCl[6]? = some (RX6, TX6, 1)) ⟨Nat.le_of_ble_eq_true rfl, Nat.le_of_ble_eq_true rfl⟩ ⟨Nat.le_of_ble_eq_true rfl, Nat.le_of_ble_eq_true rfl⟩ (Nat.le_of_ble_eq_true rfl) dX8_reads_107 rfl ?_
          refine e_aload_n X dX8_reads_110 rfl rfl ?_
          refine e_dup X dX8_reads_111 rfl ?_
          refine ge_Told_rows X wf_X8_26 dX8_reads_112 ?_
          refine e_iconst X 1 dX8_reads_115 rfl ?_
          refine e_iadd X dX8_reads_116 ?_
          obtain ⟨σ12, h_σ12, hB⟩ := bindT_out hB
          refine pu_Told_rows X wf_X8_26 dX8_reads_117 h_σ12 ?_
          refine e_iinc X 3 dX8_reads_120 rfl rfl (by decide) ?_
          obtain ⟨x13, h_x13, hB⟩ := bindT_out hB
          rw [← h_x13]
          refine e_goto X 27 dX8_reads_123 (by decide) ?_
          have hy9 := Option.some.inj hB; change (.inl ((x13, σ12))) = y9 at hy9; subst hy9
          exact e_le (ih x13 σ12 hF hK) (And.intro rfl (And.intro rfl (And.intro rfl (And.intro rfl (And.intro rfl (trivial))))))
        · skip
          rw [if_neg c9] at hB
          refine e_iconst X 0 dX8_reads_67 rfl ?_
          have hy9 := Option.some.inj hB; change (.inr (.inr ((σ, 0)))) = y9 at hy9; subst hy9
          have hz9 := Option.some.inj hF; change (.inr ((σ, 0))) = z at hz9; subst hz9
          exact e_zret X hr rfl dX8_reads_68 (Nat.le_of_ble_eq_true rfl) (Nat.le_of_ble_eq_true rfl) hK
set_option maxRecDepth 20000 in
set_option maxHeartbeats 4000000 in
theorem C_Told_reads (hG : Gok l Γ D s0) (σ : Mem) (r1 rn1 : Nat) (v2 : Int32) (v3 : Int32) (gr1 : isRow r1 rn1) {out : Mem × Int32} (hF : F_Told_reads σ r1 rn1 v2 v3 = some out) : CT l Γ D s0 yX8_reads cX8_reads 7 (some .boolean) (1) 0 0 (22) σ [.ref (Γ.1 + 122), .ref (Γ.1 + r1), .int v2, .int v3] (PI (some (.int out.2)) out.1) := by
  unfold F_Told_reads at hF
  refine e_met (own := RX8) hG (by decide +kernel) rfl rfl (Nat.le_of_ble_eq_true rfl) ?_
  intro p e s m args below meth c X hr
  show E p l e _ s m args below meth c Γ D 0 0 _ σ 0 [some (.ref (Γ.1 + 122)), some (.ref (Γ.1 + r1)), some (.int v2), some (.int v3), none, none, none] []
  refine e_aload_n X dX8_reads_0 rfl rfl ?_
  refine e_iconst X 0 dX8_reads_1 rfl ?_
  obtain ⟨σ1, h_σ1, hF⟩ := bindT_out hF
  refine pu_Told_rows X wf_X8_26 dX8_reads_2 h_σ1 ?_
  refine e_aload_n X dX8_reads_5 rfl rfl ?_
  refine e_iload_n X dX8_reads_6 rfl rfl ?_
  obtain ⟨σ2, h_σ2, hF⟩ := bindT_out hF
  refine pu_Told_people X wf_X8_30 dX8_reads_7 h_σ2 ?_
  refine e_iload_n X dX8_reads_10 rfl rfl ?_
  refine e_bipush X 36 dX8_reads_11 rfl ?_
  refine e_icmp_gt X 22 dX8_reads_13 (by decide) (fun c3 => ?_) (fun c3 => ?_)
  · skip
    rw [if_pos c3] at hF
    refine e_iconst X 0 dX8_reads_22 rfl ?_
    exact e_zret X hr rfl dX8_reads_23 (Nat.le_of_ble_eq_true rfl) (Nat.le_of_ble_eq_true rfl) (by cases hF; exact ⟨rfl, rfl⟩)
  · skip
    rw [if_neg c3] at hF
    refine e_iload_n X dX8_reads_16 rfl rfl ?_
    refine e_iconst X 3 dX8_reads_17 rfl ?_
    refine e_irem X dX8_reads_18 (by decide) ?_
    refine e_if_eq X 24 dX8_reads_19 (by decide) (fun c4 => ?_) (fun c4 => ?_)
    · skip
      rw [if_pos c4] at hF
      refine e_iconst X 0 dX8_reads_24 rfl ?_
      refine e_istore X rfl dX8_reads_25 (by decide) ?_
      obtain ⟨z14, h_z14, hF⟩ := obind_out hF
      refine e_le (L_Told_reads_27 X hr r1 rn1 v2 v3 gr1 _ 0 σ2 h_z14 ?_) (And.intro rfl (And.intro rfl (And.intro rfl (And.intro rfl (And.intro rfl (trivial))))))
      cases z14 with
      | inl s15 =>
        replace hF := hF
        rw [sumE] at hF
        show E p l e _ s m args below meth c Γ D _ _ _ _ _ _ _
        refine e_iconst X 1 dX8_reads_126 rfl ?_
        exact e_zret X hr rfl dX8_reads_127 (Nat.le_of_ble_eq_true rfl) (Nat.le_of_ble_eq_true rfl) (by cases hF; exact ⟨rfl, rfl⟩)
      | inr r16 =>
        rw [sumE] at hF
        cases hF
        exact ⟨rfl, rfl⟩
    · skip
      rw [if_neg c4] at hF
      refine e_iconst X 0 dX8_reads_22 rfl ?_
      exact e_zret X hr rfl dX8_reads_23 (Nat.le_of_ble_eq_true rfl) (Nat.le_of_ble_eq_true rfl) (by cases hF; exact ⟨rfl, rfl⟩)
set_option maxRecDepth 20000 in
set_option maxHeartbeats 4000000 in
theorem L_Told_fits_2 (X : Cx p l s m args meth c Γ D s0 RX8 cX8_fits 3) (hr : meth.sig.returnType = (some .boolean)) (σ : Mem) (v1 : Int32)  : ∀ (n : Nat) (v2 : Int32) {z : (Unit) ⊕ (Int32)}, forG (fun i s => F_Told_fits_2_b σ v1 i ) n v2 () = z → n = cnt v2 ((σ 122 3)) → ¬ v2 < 0 → (sumP z (fun s9 => E p l e ({ frames := 1, cells := 0, slots := 0, locals := 21 } : Room) s m args below meth c Γ D 0 0 (MQ below (QcA Γ D Pst) args s 0 0 (frB Γ)) σ 42 [some (.ref (Γ.1 + 122)), some (.int v1), none] []) (fun r9 => Pst (some (.int r9)) σ)) → E p l e ({ frames := 1, cells := 0, slots := 0, locals := 21 } : Room) s m args below meth c Γ D 0 0 (MQ below (QcA Γ D Pst) args s 0 0 (frB Γ)) σ 2 [some (.ref (Γ.1 + 122)), some (.int v1), some (.int v2)] [] := by
  intro n
  induction n with
  | zero =>
    intro v2  z hF hn h0 hK
    refine e_iload_n X dX8_fits_2 rfl rfl ?_
    refine e_aload_n X dX8_fits_3 rfl rfl ?_
    refine ge_Told_rows X wf_X8_26 dX8_fits_4 ?_
    refine e_icmp_ge X 42 dX8_fits_7 (by decide) (fun c3 => ?_) (fun c3 => ?_)
    · skip
      have hz9 := hF; change (.inl (())) = z at hz9; subst hz9
      exact e_le hK (And.intro rfl (And.intro rfl (trivial)))
    · skip
      exact absurd c3 (cnt0 hn)
  | succ n ih =>
    intro v2  z hF hn h0 hK
    obtain ⟨y9, hB, hF⟩ := forR_step hF
    change F_Told_fits_2_b σ v1 v2  = y9 at hB
    unfold F_Told_fits_2_b at hB
    refine e_iload_n X dX8_fits_2 rfl rfl ?_
    refine e_aload_n X dX8_fits_3 rfl rfl ?_
    refine ge_Told_rows X wf_X8_26 dX8_fits_4 ?_
    refine e_icmp_ge X 42 dX8_fits_7 (by decide) (fun c1 => ?_) (fun c1 => ?_)
    · skip
      exact absurd (cntS hn) c1
    · skip
      refine e_iload_n X dX8_fits_10 rfl rfl ?_
      refine e_aload_n X dX8_fits_11 rfl rfl ?_
      refine ge_Told_rowSets X wf_X8_14 dX8_fits_12 ?_
      refine e_iload_n X dX8_fits_15 rfl rfl ?_
      refine e_callVi X (r := (F_Row_at σ 123 12 v2)) (σ1 := σ) [.int v2] [.int v1] (C_Row_at (Cx_gok X) σ 123 12 v2 ok_Row_123) gv_X8_33 yk_X6_at rfl (ent_lt ok_Row_123.1) (ent_at ok_Row_123.1 _) (rfl : vCl[6]? = some (RX6, TX6, 1)) ⟨Nat.le_of_ble_eq_true rfl, Nat.le_of_ble_eq_true rfl⟩ ⟨Nat.le_of_ble_eq_true rfl, Nat.le_of_ble_eq_true rfl⟩ (Nat.le_of_ble_eq_true rfl) dX8_fits_16 rfl ?_
      refine e_iand X dX8_fits_19 ?_
      refine e_callSOi X (r := (F_Int_bitCount_0f7a4 σ ((v1 &&& (F_Row_at σ 123 12 v2))))) (σ1 := σ) [.int ((v1 &&& (F_Row_at σ 123 12 v2)))] [] (C_Int_bitCount_0f7a4 (Cx_gok X) σ ((v1 &&& (F_Row_at σ 123 12 v2)))) gb_J6_bitCount_0f7a4 wm_X8_41 ws_J6_bitCount_0f7a4 wz_J6 yk_J6_bitCount_0f7a4.2 rfl ⟨Nat.le_of_ble_eq_true rfl, Nat.le_of_ble_eq_true rfl⟩ ⟨Nat.le_of_ble_eq_true rfl, Nat.le_of_ble_eq_true rfl⟩ (Nat.le_of_ble_eq_true rfl) dX8_fits_20 rfl ?_
      refine e_aload_n X dX8_fits_23 rfl rfl ?_
      refine ge_Told_rowCounts X wf_X8_20 dX8_fits_24 ?_
      refine e_iload_n X dX8_fits_27 rfl rfl ?_
      refine e_callVi X (r := (F_Row_at σ 125 12 v2)) (σ1 := σ) [.int v2] [.int ((F_Int_bitCount_0f7a4 σ ((v1 &&& (F_Row_at σ 123 12 v2)))))] (C_Row_at (Cx_gok X) σ 125 12 v2 ok_Row_125) gv_X8_33 yk_X6_at rfl (ent_lt ok_Row_125.1) (ent_at ok_Row_125.1 _) (rfl : vCl[6]? = some (RX6, TX6, 1)) ⟨Nat.le_of_ble_eq_true rfl, Nat.le_of_ble_eq_true rfl⟩ ⟨Nat.le_of_ble_eq_true rfl, Nat.le_of_ble_eq_true rfl⟩ (Nat.le_of_ble_eq_true rfl) dX8_fits_28 rfl ?_
      refine e_icmp_eq X 36 dX8_fits_31 (by decide) (fun c2 => ?_) (fun c2 => ?_)
      · skip
        rw [if_pos c2] at hB
        refine e_iinc X 1 dX8_fits_36 rfl rfl (by decide) ?_
        refine e_goto X 2 dX8_fits_39 (by decide) ?_
        have hy9 := hB; change (.inl (())) = y9 at hy9; subst hy9
        exact e_le (ih _  hF (cntN hn) (nnN h0 (cnt_hi hn)) hK) (And.intro rfl (And.intro rfl (And.intro rfl (trivial))))
      · skip
        rw [if_neg c2] at hB
        refine e_iconst X 0 dX8_fits_34 rfl ?_
        have hy9 := hB; change (.inr 0) = y9 at hy9; subst hy9
        have hz9 := hF; change (.inr 0) = z at hz9; subst hz9
        exact e_zret X hr rfl dX8_fits_35 (Nat.le_of_ble_eq_true rfl) (Nat.le_of_ble_eq_true rfl) hK
set_option maxRecDepth 20000 in
set_option maxHeartbeats 4000000 in
theorem C_Told_fits (hG : Gok l Γ D s0) (σ : Mem) (v1 : Int32)  : CT l Γ D s0 yX8_fits cX8_fits 3 (some .boolean) (1) 0 0 (21) σ [.ref (Γ.1 + 122), .int v1] (PI (some (.int (F_Told_fits σ v1))) σ) := by
  generalize hF : F_Told_fits σ v1 = out
  unfold F_Told_fits at hF
  refine e_met (own := RX8) hG (by decide +kernel) rfl rfl (Nat.le_of_ble_eq_true rfl) ?_
  intro p e s m args below meth c X hr
  show E p l e _ s m args below meth c Γ D 0 0 _ σ 0 [some (.ref (Γ.1 + 122)), some (.int v1), none] []
  refine e_iconst X 0 dX8_fits_0 rfl ?_
  refine e_istore_n X rfl dX8_fits_1 rfl (by decide) ?_
  obtain ⟨z4, h_z4, hF⟩ := bindT_out hF
  refine e_le (L_Told_fits_2 X hr σ v1 _ 0  h_z4.symm rfl (by decide) ?_) (And.intro rfl (And.intro rfl (And.intro rfl (trivial))))
  cases z4 with
  | inl s5 =>
    replace hF := hF
    rw [sumE] at hF
    show E p l e _ s m args below meth c Γ D _ _ _ _ _ _ _
    refine e_iconst X 1 dX8_fits_42 rfl ?_
    exact e_zret X hr rfl dX8_fits_43 (Nat.le_of_ble_eq_true rfl) (Nat.le_of_ble_eq_true rfl) (by cases hF; exact ⟨rfl, rfl⟩)
  | inr r6 =>
    rw [sumE] at hF
    cases hF
    exact ⟨rfl, rfl⟩
set_option maxRecDepth 20000 in
set_option maxHeartbeats 4000000 in
theorem L_Told_addMembers_2 (X : Cx p l s m args meth c Γ D s0 RX8 cX8_addMembers 3) (hr : meth.sig.returnType = none) (v1 : Int32)  : ∀ (n : Nat) (v2 : Int32) (σ : Mem) {z : Int32 × Mem}, whl (fun s => F_Told_addMembers_2_b v1 s.1 s.2) n (v2, σ) = some z → (E p l e ({ frames := 1, cells := 0, slots := 0, locals := 22 } : Room) s m args below meth c Γ D 0 0 (MQ below (QcA Γ D Pst) args s 0 0 (frB Γ)) z.2 42 [some (.ref (Γ.1 + 122)), some (.int v1), some (.int z.1)] []) → E p l e ({ frames := 1, cells := 0, slots := 0, locals := 22 } : Room) s m args below meth c Γ D 0 0 (MQ below (QcA Γ D Pst) args s 0 0 (frB Γ)) σ 2 [some (.ref (Γ.1 + 122)), some (.int v1), some (.int v2)] [] := by
  intro n
  induction n with
  | zero =>
    intro v2 σ z hF hK
    cases hF
  | succ n ih =>
    intro v2 σ z hF hK
    obtain ⟨y9, hB, hF⟩ := whl_step hF
    change F_Told_addMembers_2_b v1 v2 σ = some y9 at hB
    unfold F_Told_addMembers_2_b at hB
    refine e_iload_n X dX8_addMembers_2 rfl rfl ?_
    refine e_aload_n X dX8_addMembers_3 rfl rfl ?_
    refine ge_Told_people X wf_X8_30 dX8_addMembers_4 ?_
    refine e_icmp_ge X 42 dX8_addMembers_7 (by decide) (fun c1 => ?_) (fun c1 => ?_)
    · skip
      rw [if_neg c1] at hB
      have hy9 := Option.some.inj hB; change (.inr ((v2, σ))) = y9 at hy9; subst hy9
      have hz9 := Option.some.inj hF; change ((v2, σ)) = z at hz9; subst hz9
      exact e_le hK (And.intro rfl (And.intro rfl (And.intro rfl (trivial))))
    · skip
      rw [if_pos c1] at hB
      refine e_iload_n X dX8_addMembers_10 rfl rfl ?_
      refine e_iload_n X dX8_addMembers_11 rfl rfl ?_
      refine e_callSNi X (r := (F_W_contains σ v1 v2)) (σ1 := σ) (host := RX11) [.int v1, .int v2] [] (C_W_contains (Cx_gok X) σ v1 v2) gb_X11_contains (by decide +kernel) wz_X11 ws_X11_contains yk_X11_contains.2 rfl ⟨Nat.le_of_ble_eq_true rfl, Nat.le_of_ble_eq_true rfl⟩ ⟨Nat.le_of_ble_eq_true rfl, Nat.le_of_ble_eq_true rfl⟩ (Nat.le_of_ble_eq_true rfl) dX8_addMembers_12 rfl ?_
      refine e_if_eq X 36 dX8_addMembers_15 (by decide) (fun c2 => ?_) (fun c2 => ?_)
      · skip
        rw [if_pos c2] at hB
        refine e_iinc X 1 dX8_addMembers_36 rfl rfl (by decide) ?_
        obtain ⟨x3, h_x3, hB⟩ := bindT_out hB
        rw [← h_x3]
        refine e_goto X 2 dX8_addMembers_39 (by decide) ?_
        have hy9 := Option.some.inj hB; change (.inl ((x3, σ))) = y9 at hy9; subst hy9
        exact e_le (ih x3 σ hF hK) (And.intro rfl (And.intro rfl (And.intro rfl (trivial))))
      · skip
        rw [if_neg c2] at hB
        refine e_aload_n X dX8_addMembers_18 rfl rfl ?_
        refine ge_Told_countsWith X wf_X8_23 dX8_addMembers_19 ?_
        refine e_iload_n X dX8_addMembers_22 rfl rfl ?_
        refine e_aload_n X dX8_addMembers_23 rfl rfl ?_
        refine ge_Told_countsWith X wf_X8_23 dX8_addMembers_24 ?_
        refine e_iload_n X dX8_addMembers_27 rfl rfl ?_
        refine e_callVi X (r := (F_Row_at σ 127 8 v2)) (σ1 := σ) [.int v2] [.int v2, .ref (Γ.1 + 127)] (C_Row_at (Cx_gok X) σ 127 8 v2 ok_Row_127) gv_X8_33 yk_X6_at rfl (ent_lt ok_Row_127.1) (ent_at ok_Row_127.1 _) (rfl : vCl[6]? = some (RX6, TX6, 1)) ⟨Nat.le_of_ble_eq_true rfl, Nat.le_of_ble_eq_true rfl⟩ ⟨Nat.le_of_ble_eq_true rfl, Nat.le_of_ble_eq_true rfl⟩ (Nat.le_of_ble_eq_true rfl) dX8_addMembers_28 rfl ?_
        refine e_iconst X 1 dX8_addMembers_31 rfl ?_
        refine e_iadd X dX8_addMembers_32 ?_
        obtain ⟨z4, h_z4, hB⟩ := bindT_out hB
        refine e_callVv X (σ1 := z4) [.int v2, .int (((F_Row_at σ 127 8 v2) + 1))] [] (by rw [h_z4]; exact C_Row_put (Cx_gok X) σ 127 8 v2 (((F_Row_at σ 127 8 v2) + 1)) ok_Row_127) gv_X8_37 yk_X6_put rfl (ent_lt ok_Row_127.1) (ent_at ok_Row_127.1 _) (rfl : vCl[6]? = some (RX6, TX6, 1)) ⟨Nat.le_of_ble_eq_true rfl, Nat.le_of_ble_eq_true rfl⟩ ⟨Nat.le_of_ble_eq_true rfl, Nat.le_of_ble_eq_true rfl⟩ (Nat.le_of_ble_eq_true rfl) dX8_addMembers_33 rfl ?_
        refine e_iinc X 1 dX8_addMembers_36 rfl rfl (by decide) ?_
        obtain ⟨x5, h_x5, hB⟩ := bindT_out hB
        rw [← h_x5]
        refine e_goto X 2 dX8_addMembers_39 (by decide) ?_
        have hy9 := Option.some.inj hB; change (.inl ((x5, z4))) = y9 at hy9; subst hy9
        exact e_le (ih x5 z4 hF hK) (And.intro rfl (And.intro rfl (And.intro rfl (trivial))))
set_option maxRecDepth 20000 in
set_option maxHeartbeats 4000000 in
theorem C_Told_addMembers (hG : Gok l Γ D s0) (σ : Mem) (v1 : Int32)  {out : Mem} (hF : F_Told_addMembers σ v1 = some out) : CT l Γ D s0 yX8_addMembers cX8_addMembers 3 none (1) 0 0 (22) σ [.ref (Γ.1 + 122), .int v1] (PI none out) := by
  unfold F_Told_addMembers at hF
  refine e_met (own := RX8) hG (by decide +kernel) rfl rfl (Nat.le_of_ble_eq_true rfl) ?_
  intro p e s m args below meth c X hr
  show E p l e _ s m args below meth c Γ D 0 0 _ σ 0 [some (.ref (Γ.1 + 122)), some (.int v1), none] []
  refine e_iconst X 0 dX8_addMembers_0 rfl ?_
  refine e_istore_n X rfl dX8_addMembers_1 rfl (by decide) ?_
  obtain ⟨z6, h_z6, hF⟩ := obind_out hF
  refine e_le (L_Told_addMembers_2 X hr v1 _ 0 σ h_z6 ?_) (And.intro rfl (And.intro rfl (And.intro rfl (trivial))))
  exact e_vret X hr dX8_addMembers_42 (Nat.le_of_ble_eq_true rfl) (Nat.le_of_ble_eq_true rfl) (by cases hF; exact ⟨rfl, rfl⟩)
set_option maxRecDepth 20000 in
set_option maxHeartbeats 4000000 in
theorem L_Told_fitting_12 (X : Cx p l s m args meth c Γ D s0 RX8 cX8_fitting 3) (hr : meth.sig.returnType = (some .int))   : ∀ (n : Nat) (v1 : Int32) (v2 : Int32) (σ : Mem) {z : Int32 × Int32 × Mem}, whl (fun s => F_Told_fitting_12_b  s.1 s.2.1 s.2.2) n (v1, v2, σ) = some z → (E p l e ({ frames := 2, cells := 0, slots := 0, locals := 44 } : Room) s m args below meth c Γ D 0 0 (MQ below (QcA Γ D Pst) args s 0 0 (frB Γ)) z.2.2 44 [some (.ref (Γ.1 + 122)), some (.int z.1), some (.int z.2.1)] []) → E p l e ({ frames := 2, cells := 0, slots := 0, locals := 44 } : Room) s m args below meth c Γ D 0 0 (MQ below (QcA Γ D Pst) args s 0 0 (frB Γ)) σ 12 [some (.ref (Γ.1 + 122)), some (.int v1), some (.int v2)] [] := by
  intro n
  induction n with
  | zero =>
    intro v1 v2 σ z hF hK
    cases hF
  | succ n ih =>
    intro v1 v2 σ z hF hK
    obtain ⟨y9, hB, hF⟩ := whl_step hF
    change F_Told_fitting_12_b  v1 v2 σ = some y9 at hB
    unfold F_Told_fitting_12_b at hB
    refine e_iload_n X dX8_fitting_12 rfl rfl ?_
    refine e_iconst X 1 dX8_fitting_13 rfl ?_
    refine e_aload_n X dX8_fitting_14 rfl rfl ?_
    refine ge_Told_people X wf_X8_30 dX8_fitting_15 ?_
    refine e_ishl X dX8_fitting_18 ?_
    refine e_icmp_ge X 44 dX8_fitting_19 (by decide) (fun c2 => ?_) (fun c2 => ?_)
    · skip
      rw [if_neg c2] at hB
      have hy9 := Option.some.inj hB; change (.inr ((v1, v2, σ))) = y9 at hy9; subst hy9
      have hz9 := Option.some.inj hF; change ((v1, v2, σ)) = z at hz9; subst hz9
      exact e_le hK (And.intro rfl (And.intro rfl (And.intro rfl (trivial))))
    · skip
      rw [if_pos c2] at hB
      refine e_aload_n X dX8_fitting_22 rfl rfl ?_
      refine e_iload_n X dX8_fitting_23 rfl rfl ?_
      refine e_callVi X (r := (F_Told_fits σ v2)) (σ1 := σ) [.int v2] [] (C_Told_fits (Cx_gok X) σ v2) gv_X8_49 yk_X8_fits rfl (ent_lt (rfl : entTbl[122]? = some (10, 0))) (ent_at (rfl : entTbl[122]? = some (10, 0)) _) (rfl : vCl[7]? = some (RX8, TX8, 5)) ⟨Nat.le_of_ble_eq_true rfl, Nat.le_of_ble_eq_true rfl⟩ ⟨Nat.le_of_ble_eq_true rfl, Nat.le_of_ble_eq_true rfl⟩ (Nat.le_of_ble_eq_true rfl) dX8_fitting_24 rfl ?_
      refine e_if_eq X 38 dX8_fitting_27 (by decide) (fun c3 => ?_) (fun c3 => ?_)
      · skip
        rw [if_pos c3] at hB
        refine e_iinc X 1 dX8_fitting_38 rfl rfl (by decide) ?_
        obtain ⟨x4, h_x4, hB⟩ := bindT_out hB
        rw [← h_x4]
        refine e_goto X 12 dX8_fitting_41 (by decide) ?_
        have hy9 := Option.some.inj hB; change (.inl ((v1, x4, σ))) = y9 at hy9; subst hy9
        exact e_le (ih v1 x4 σ hF hK) (And.intro rfl (And.intro rfl (And.intro rfl (trivial))))
      · skip
        rw [if_neg c3] at hB
        refine e_iinc X 1 dX8_fitting_30 rfl rfl (by decide) ?_
        obtain ⟨x5, h_x5, hB⟩ := bindT_out hB
        rw [← h_x5]
        refine e_aload_n X dX8_fitting_33 rfl rfl ?_
        refine e_iload_n X dX8_fitting_34 rfl rfl ?_
        obtain ⟨z6, h_z6, hB⟩ := obind_out hB
        refine e_callVv X (σ1 := z6) [.int v2] [] (C_Told_addMembers (Cx_gok X) σ v2 h_z6) gv_X8_53 yk_X8_addMembers rfl (ent_lt (rfl : entTbl[122]? = some (10, 0))) (ent_at (rfl : entTbl[122]? = some (10, 0)) _) (rfl : vCl[7]? = some (RX8, TX8, 5)) ⟨Nat.le_of_ble_eq_true rfl, Nat.le_of_ble_eq_true rfl⟩ ⟨Nat.le_of_ble_eq_true rfl, Nat.le_of_ble_eq_true rfl⟩ (Nat.le_of_ble_eq_true rfl) dX8_fitting_35 rfl ?_
        refine e_iinc X 1 dX8_fitting_38 rfl rfl (by decide) ?_
        obtain ⟨x7, h_x7, hB⟩ := bindT_out hB
        rw [← h_x7]
        refine e_goto X 12 dX8_fitting_41 (by decide) ?_
        have hy9 := Option.some.inj hB; change (.inl ((x5, x7, z6))) = y9 at hy9; subst hy9
        exact e_le (ih x5 x7 z6 hF hK) (And.intro rfl (And.intro rfl (And.intro rfl (trivial))))
set_option maxRecDepth 20000 in
set_option maxHeartbeats 4000000 in
theorem C_Told_fitting (hG : Gok l Γ D s0) (σ : Mem)   {out : Mem × Int32} (hF : F_Told_fitting σ = some out) : CT l Γ D s0 yX8_fitting cX8_fitting 3 (some .int) (2) 0 0 (44) σ [.ref (Γ.1 + 122)] (PI (some (.int out.2)) out.1) := by
  unfold F_Told_fitting at hF
  refine e_met (own := RX8) hG (by decide +kernel) rfl rfl (Nat.le_of_ble_eq_true rfl) ?_
  intro p e s m args below meth c X hr
  show E p l e _ s m args below meth c Γ D 0 0 _ σ 0 [some (.ref (Γ.1 + 122)), none, none] []
  refine e_iconst X 0 dX8_fitting_0 rfl ?_
  refine e_istore_n X rfl dX8_fitting_1 rfl (by decide) ?_
  refine e_aload_n X dX8_fitting_2 rfl rfl ?_
  refine ge_Told_countsWith X wf_X8_23 dX8_fitting_3 ?_
  refine e_iconst X 0 dX8_fitting_6 rfl ?_
  obtain ⟨z1, h_z1, hF⟩ := bindT_out hF
  refine e_callVv X (σ1 := z1) [.int 0] [] (by rw [h_z1]; exact C_Row_putAll (Cx_gok X) σ 127 8 0 ok_Row_127) gv_X8_46 yk_X6_putAll rfl (ent_lt ok_Row_127.1) (ent_at ok_Row_127.1 _) (rfl : vCl[6]? = some (RX6, TX6, 1)) ⟨Nat.le_of_ble_eq_true rfl, Nat.le_of_ble_eq_true rfl⟩ ⟨Nat.le_of_ble_eq_true rfl, Nat.le_of_ble_eq_true rfl⟩ (Nat.le_of_ble_eq_true rfl) dX8_fitting_7 rfl ?_
  refine e_iconst X 0 dX8_fitting_10 rfl ?_
  refine e_istore_n X rfl dX8_fitting_11 rfl (by decide) ?_
  obtain ⟨z8, h_z8, hF⟩ := obind_out hF
  refine e_le (L_Told_fitting_12 X hr _ 0 0 z1 h_z8 ?_) (And.intro rfl (And.intro rfl (And.intro rfl (trivial))))
  refine e_iload_n X dX8_fitting_44 rfl rfl ?_
  exact e_iret X hr dX8_fitting_45 (Nat.le_of_ble_eq_true rfl) (Nat.le_of_ble_eq_true rfl) (by cases hF; exact ⟨rfl, rfl⟩)
set_option maxRecDepth 20000 in
set_option maxHeartbeats 4000000 in
theorem L_Told_inAll_9 (X : Cx p l s m args meth c Γ D s0 RX8 cX8_inAll 4) (hr : meth.sig.returnType = (some .int)) (σ : Mem) (v1 : Int32)  : ∀ (n : Nat) (v3 : Int32) (v2 : Int32) {z : Int32}, mrg (forG (fun i s => F_Told_inAll_9_b σ v1 i s) n v3 v2) = z → n = cnt v3 ((σ 122 4)) → ¬ v3 < 0 → (E p l e ({ frames := 3, cells := 0, slots := 0, locals := 66 } : Room) s m args below meth c Γ D 0 0 (MQ below (QcA Γ D Pst) args s 0 0 (frB Γ)) σ 45 [some (.ref (Γ.1 + 122)), some (.int v1), some (.int z), none] []) → E p l e ({ frames := 3, cells := 0, slots := 0, locals := 66 } : Room) s m args below meth c Γ D 0 0 (MQ below (QcA Γ D Pst) args s 0 0 (frB Γ)) σ 9 [some (.ref (Γ.1 + 122)), some (.int v1), some (.int v2), some (.int v3)] [] := by
  intro n
  induction n with
  | zero =>
    intro v3 v2 z hF hn h0 hK
    refine e_iload_n X dX8_inAll_9 rfl rfl ?_
    refine e_aload_n X dX8_inAll_10 rfl rfl ?_
    refine ge_Told_people X wf_X8_30 dX8_inAll_11 ?_
    refine e_icmp_ge X 45 dX8_inAll_14 (by decide) (fun c6 => ?_) (fun c6 => ?_)
    · skip
      have hz9 := hF; change (v2) = z at hz9; subst hz9
      exact e_le hK (And.intro rfl (And.intro rfl (And.intro rfl (trivial))))
    · skip
      exact absurd c6 (cnt0 hn)
  | succ n ih =>
    intro v3 v2 z hF hn h0 hK
    obtain ⟨y9, hB, hF⟩ := forB_step hF
    change F_Told_inAll_9_b σ v1 v3 v2 = y9 at hB
    unfold F_Told_inAll_9_b at hB
    refine e_iload_n X dX8_inAll_9 rfl rfl ?_
    refine e_aload_n X dX8_inAll_10 rfl rfl ?_
    refine ge_Told_people X wf_X8_30 dX8_inAll_11 ?_
    refine e_icmp_ge X 45 dX8_inAll_14 (by decide) (fun c2 => ?_) (fun c2 => ?_)
    · skip
      exact absurd (cntS hn) c2
    · skip
      refine e_iload_n X dX8_inAll_17 rfl rfl ?_
      refine e_if_le X 45 dX8_inAll_18 (by decide) (fun c3 => ?_) (fun c3 => ?_)
      · skip
        rw [if_neg c3] at hB
        have hy9 := hB; change (.inr v2) = y9 at hy9; subst hy9
        have hz9 := hF; change (v2) = z at hz9; subst hz9
        exact e_le hK (And.intro rfl (And.intro rfl (And.intro rfl (trivial))))
      · skip
        rw [if_pos c3] at hB
        refine e_aload_n X dX8_inAll_21 rfl rfl ?_
        refine ge_Told_countsWith X wf_X8_23 dX8_inAll_22 ?_
        refine e_iload_n X dX8_inAll_25 rfl rfl ?_
        refine e_callVi X (r := (F_Row_at σ 127 8 v3)) (σ1 := σ) [.int v3] [] (C_Row_at (Cx_gok X) σ 127 8 v3 ok_Row_127) gv_X8_33 yk_X6_at rfl (ent_lt ok_Row_127.1) (ent_at ok_Row_127.1 _) (rfl : vCl[6]? = some (RX6, TX6, 1)) ⟨Nat.le_of_ble_eq_true rfl, Nat.le_of_ble_eq_true rfl⟩ ⟨Nat.le_of_ble_eq_true rfl, Nat.le_of_ble_eq_true rfl⟩ (Nat.le_of_ble_eq_true rfl) dX8_inAll_26 rfl ?_
        refine e_iload_n X dX8_inAll_29 rfl rfl ?_
        refine e_icmp_ne X 39 dX8_inAll_30 (by decide) (fun c4 => ?_) (fun c4 => ?_)
        · skip
          rw [if_neg c4] at hB
          refine e_iinc X 1 dX8_inAll_39 rfl rfl (by decide) ?_
          refine e_goto X 9 dX8_inAll_42 (by decide) ?_
          have hy9 := hB; change (.inl v2) = y9 at hy9; subst hy9
          exact e_le (ih _ v2 hF (cntN hn) (nnN h0 (cnt_hi hn)) hK) (And.intro rfl (And.intro rfl (And.intro rfl (And.intro rfl (trivial)))))
        · skip
          rw [if_pos c4] at hB
          refine e_iload_n X dX8_inAll_33 rfl rfl ?_
          refine e_iconst X 1 dX8_inAll_34 rfl ?_
          refine e_iload_n X dX8_inAll_35 rfl rfl ?_
          refine e_ishl X dX8_inAll_36 ?_
          refine e_ior X dX8_inAll_37 ?_
          obtain ⟨x5, h_x5, hB⟩ := bindT_out hB
          refine e_istore_n X h_x5 dX8_inAll_38 rfl (by decide) ?_
          refine e_iinc X 1 dX8_inAll_39 rfl rfl (by decide) ?_
          refine e_goto X 9 dX8_inAll_42 (by decide) ?_
          have hy9 := hB; change (.inl x5) = y9 at hy9; subst hy9
          exact e_le (ih _ x5 hF (cntN hn) (nnN h0 (cnt_hi hn)) hK) (And.intro rfl (And.intro rfl (And.intro rfl (And.intro rfl (trivial)))))
set_option maxRecDepth 20000 in
set_option maxHeartbeats 4000000 in
theorem C_Told_inAll (hG : Gok l Γ D s0) (σ : Mem)   {out : Mem × Int32} (hF : F_Told_inAll σ = some out) : CT l Γ D s0 yX8_inAll cX8_inAll 4 (some .int) (3) 0 0 (66) σ [.ref (Γ.1 + 122)] (PI (some (.int out.2)) out.1) := by
  unfold F_Told_inAll at hF
  refine e_met (own := RX8) hG (by decide +kernel) rfl rfl (Nat.le_of_ble_eq_true rfl) ?_
  intro p e s m args below meth c X hr
  show E p l e _ s m args below meth c Γ D 0 0 _ σ 0 [some (.ref (Γ.1 + 122)), none, none, none] []
  refine e_aload_n X dX8_inAll_0 rfl rfl ?_
  obtain ⟨z1, h_z1, hF⟩ := obind_out hF
  refine e_callVi X (r := z1.2) (σ1 := z1.1) [] [] (C_Told_fitting (Cx_gok X) σ h_z1) gv_X8_60 yk_X8_fitting rfl (ent_lt (rfl : entTbl[122]? = some (10, 0))) (ent_at (rfl : entTbl[122]? = some (10, 0)) _) (rfl : vCl[7]? = some (RX8, TX8, 5)) ⟨Nat.le_of_ble_eq_true rfl, Nat.le_of_ble_eq_true rfl⟩ ⟨Nat.le_of_ble_eq_true rfl, Nat.le_of_ble_eq_true rfl⟩ (Nat.le_of_ble_eq_true rfl) dX8_inAll_1 rfl ?_
  refine e_istore_n X rfl dX8_inAll_4 rfl (by decide) ?_
  refine e_iconst X 0 dX8_inAll_5 rfl ?_
  refine e_istore_n X rfl dX8_inAll_6 rfl (by decide) ?_
  refine e_iconst X 0 dX8_inAll_7 rfl ?_
  refine e_istore_n X rfl dX8_inAll_8 rfl (by decide) ?_
  obtain ⟨z7, h_z7, hF⟩ := bindT_out hF
  refine e_le (L_Told_inAll_9 X hr z1.1 z1.2 _ 0 0 h_z7.symm rfl (by decide) ?_) (And.intro rfl (And.intro rfl (And.intro rfl (And.intro rfl (trivial)))))
  refine e_iload_n X dX8_inAll_45 rfl rfl ?_
  exact e_iret X hr dX8_inAll_46 (Nat.le_of_ble_eq_true rfl) (Nat.le_of_ble_eq_true rfl) (by cases hF; exact ⟨rfl, rfl⟩)
set_option maxRecDepth 20000 in
set_option maxHeartbeats 4000000 in
theorem L_Told_bestParter_12 (X : Cx p l s m args meth c Γ D s0 RX8 cX8_bestParter 7) (hr : meth.sig.returnType = (some .int)) (σ : Mem) (v1 : Int32)  : ∀ (n : Nat) (v4 : Int32) (v2 : Int32) (v3 : Int32) {z : Int32 × Int32}, mrg (forG (fun i s => F_Told_bestParter_12_b σ v1 i s.1 s.2) n v4 (v2, v3)) = z → n = cnt v4 ((σ 122 4)) → ¬ v4 < 0 → (E p l e ({ frames := 3, cells := 0, slots := 0, locals := 66 } : Room) s m args below meth c Γ D 0 0 (MQ below (QcA Γ D Pst) args s 0 0 (frB Γ)) σ 71 [some (.ref (Γ.1 + 122)), some (.int v1), some (.int z.1), some (.int z.2), none, none, none] []) → E p l e ({ frames := 3, cells := 0, slots := 0, locals := 66 } : Room) s m args below meth c Γ D 0 0 (MQ below (QcA Γ D Pst) args s 0 0 (frB Γ)) σ 12 [some (.ref (Γ.1 + 122)), some (.int v1), some (.int v2), some (.int v3), some (.int v4), none, none] [] := by
  intro n
  induction n with
  | zero =>
    intro v4 v2 v3 z hF hn h0 hK
    refine e_iload X dX8_bestParter_12 rfl ?_
    refine e_aload_n X dX8_bestParter_14 rfl rfl ?_
    refine ge_Told_people X wf_X8_30 dX8_bestParter_15 ?_
    refine e_icmp_ge X 71 dX8_bestParter_18 (by decide) (fun c8 => ?_) (fun c8 => ?_)
    · skip
      have hz9 := hF; change ((v2, v3)) = z at hz9; subst hz9
      exact e_le hK (And.intro rfl (And.intro rfl (And.intro rfl (And.intro rfl (trivial)))))
    · skip
      exact absurd c8 (cnt0 hn)
  | succ n ih =>
    intro v4 v2 v3 z hF hn h0 hK
    obtain ⟨y9, hB, hF⟩ := forB_step hF
    change F_Told_bestParter_12_b σ v1 v4 v2 v3 = y9 at hB
    unfold F_Told_bestParter_12_b at hB
    refine e_iload X dX8_bestParter_12 rfl ?_
    refine e_aload_n X dX8_bestParter_14 rfl rfl ?_
    refine ge_Told_people X wf_X8_30 dX8_bestParter_15 ?_
    refine e_icmp_ge X 71 dX8_bestParter_18 (by decide) (fun c2 => ?_) (fun c2 => ?_)
    · skip
      exact absurd (cntS hn) c2
    · skip
      refine e_iload_n X dX8_bestParter_21 rfl rfl ?_
      refine e_iconst X 1 dX8_bestParter_22 rfl ?_
      refine e_icmp_le X 71 dX8_bestParter_23 (by decide) (fun c3 => ?_) (fun c3 => ?_)
      · skip
        rw [if_neg c3] at hB
        have hy9 := hB; change (.inr ((v2, v3))) = y9 at hy9; subst hy9
        have hz9 := hF; change ((v2, v3)) = z at hz9; subst hz9
        exact e_le hK (And.intro rfl (And.intro rfl (And.intro rfl (And.intro rfl (trivial)))))
      · skip
        rw [if_pos c3] at hB
        refine e_aload_n X dX8_bestParter_26 rfl rfl ?_
        refine ge_Told_countsWith X wf_X8_23 dX8_bestParter_27 ?_
        refine e_iload X dX8_bestParter_30 rfl ?_
        refine e_callVi X (r := (F_Row_at σ 127 8 v4)) (σ1 := σ) [.int v4] [] (C_Row_at (Cx_gok X) σ 127 8 v4 ok_Row_127) gv_X8_33 yk_X6_at rfl (ent_lt ok_Row_127.1) (ent_at ok_Row_127.1 _) (rfl : vCl[6]? = some (RX6, TX6, 1)) ⟨Nat.le_of_ble_eq_true rfl, Nat.le_of_ble_eq_true rfl⟩ ⟨Nat.le_of_ble_eq_true rfl, Nat.le_of_ble_eq_true rfl⟩ (Nat.le_of_ble_eq_true rfl) dX8_bestParter_32 rfl ?_
        obtain ⟨x4, h_x4, hB⟩ := bindT_out hB
        refine e_istore X h_x4 dX8_bestParter_35 (by decide) ?_
        refine e_iload X dX8_bestParter_37 rfl ?_
        refine e_iload_n X dX8_bestParter_39 rfl rfl ?_
        refine e_iload X dX8_bestParter_40 rfl ?_
        refine e_isub X dX8_bestParter_42 ?_
        refine e_mmax X wMl_X8_64 wMs_max wMi wMc_max (Nat.le_of_ble_eq_true rfl) (Nat.le_of_ble_eq_true rfl) (Nat.le_of_ble_eq_true rfl) (Nat.le_of_ble_eq_true rfl) dX8_bestParter_43 ?_
        obtain ⟨x5, h_x5, hB⟩ := bindT_out hB
        refine e_istore X h_x5 dX8_bestParter_46 (by decide) ?_
        refine e_iload_n X dX8_bestParter_48 rfl rfl ?_
        refine e_iconst X (-1) dX8_bestParter_49 rfl ?_
        refine e_icmp_eq X 59 dX8_bestParter_50 (by decide) (fun c6 => ?_) (fun c6 => ?_)
        · skip
          rw [if_pos c6] at hB
          refine e_iload X dX8_bestParter_59 rfl ?_
          refine e_istore_n X rfl dX8_bestParter_61 rfl (by decide) ?_
          refine e_iload X dX8_bestParter_62 rfl ?_
          refine e_istore_n X rfl dX8_bestParter_64 rfl (by decide) ?_
          refine e_iinc X 1 dX8_bestParter_65 rfl rfl (by decide) ?_
          refine e_goto X 12 dX8_bestParter_68 (by decide) ?_
          have hy9 := hB; change (.inl ((v4, x5))) = y9 at hy9; subst hy9
          exact e_le (ih _ v4 x5 hF (cntN hn) (nnN h0 (cnt_hi hn)) hK) (And.intro rfl (And.intro rfl (And.intro rfl (And.intro rfl (And.intro rfl (trivial))))))
        · skip
          rw [if_neg c6] at hB
          refine e_iload X dX8_bestParter_53 rfl ?_
          refine e_iload_n X dX8_bestParter_55 rfl rfl ?_
          refine e_icmp_ge X 65 dX8_bestParter_56 (by decide) (fun c7 => ?_) (fun c7 => ?_)
          · skip
            rw [if_neg c7] at hB
            refine e_iinc X 1 dX8_bestParter_65 rfl rfl (by decide) ?_
            refine e_goto X 12 dX8_bestParter_68 (by decide) ?_
            have hy9 := hB; change (.inl ((v2, v3))) = y9 at hy9; subst hy9
            exact e_le (ih _ v2 v3 hF (cntN hn) (nnN h0 (cnt_hi hn)) hK) (And.intro rfl (And.intro rfl (And.intro rfl (And.intro rfl (And.intro rfl (trivial))))))
          · skip
            rw [if_pos c7] at hB
            refine e_iload X dX8_bestParter_59 rfl ?_
            refine e_istore_n X rfl dX8_bestParter_61 rfl (by decide) ?_
            refine e_iload X dX8_bestParter_62 rfl ?_
            refine e_istore_n X rfl dX8_bestParter_64 rfl (by decide) ?_
            refine e_iinc X 1 dX8_bestParter_65 rfl rfl (by decide) ?_
            refine e_goto X 12 dX8_bestParter_68 (by decide) ?_
            have hy9 := hB; change (.inl ((v4, x5))) = y9 at hy9; subst hy9
            exact e_le (ih _ v4 x5 hF (cntN hn) (nnN h0 (cnt_hi hn)) hK) (And.intro rfl (And.intro rfl (And.intro rfl (And.intro rfl (And.intro rfl (trivial))))))
set_option maxRecDepth 20000 in
set_option maxHeartbeats 4000000 in
theorem C_Told_bestParter (hG : Gok l Γ D s0) (σ : Mem)   {out : Mem × Int32} (hF : F_Told_bestParter σ = some out) : CT l Γ D s0 yX8_bestParter cX8_bestParter 7 (some .int) (3) 0 0 (66) σ [.ref (Γ.1 + 122)] (PI (some (.int out.2)) out.1) := by
  unfold F_Told_bestParter at hF
  refine e_met (own := RX8) hG (by decide +kernel) rfl rfl (Nat.le_of_ble_eq_true rfl) ?_
  intro p e s m args below meth c X hr
  show E p l e _ s m args below meth c Γ D 0 0 _ σ 0 [some (.ref (Γ.1 + 122)), none, none, none, none, none, none] []
  refine e_aload_n X dX8_bestParter_0 rfl rfl ?_
  obtain ⟨z1, h_z1, hF⟩ := obind_out hF
  refine e_callVi X (r := z1.2) (σ1 := z1.1) [] [] (C_Told_fitting (Cx_gok X) σ h_z1) gv_X8_60 yk_X8_fitting rfl (ent_lt (rfl : entTbl[122]? = some (10, 0))) (ent_at (rfl : entTbl[122]? = some (10, 0)) _) (rfl : vCl[7]? = some (RX8, TX8, 5)) ⟨Nat.le_of_ble_eq_true rfl, Nat.le_of_ble_eq_true rfl⟩ ⟨Nat.le_of_ble_eq_true rfl, Nat.le_of_ble_eq_true rfl⟩ (Nat.le_of_ble_eq_true rfl) dX8_bestParter_1 rfl ?_
  refine e_istore_n X rfl dX8_bestParter_4 rfl (by decide) ?_
  refine e_iconst X (-1) dX8_bestParter_5 rfl ?_
  refine e_istore_n X rfl dX8_bestParter_6 rfl (by decide) ?_
  refine e_iload_n X dX8_bestParter_7 rfl rfl ?_
  refine e_istore_n X rfl dX8_bestParter_8 rfl (by decide) ?_
  refine e_iconst X 0 dX8_bestParter_9 rfl ?_
  refine e_istore X rfl dX8_bestParter_10 (by decide) ?_
  obtain ⟨z9, h_z9, hF⟩ := bindT_out hF
  refine e_le (L_Told_bestParter_12 X hr z1.1 z1.2 _ 0 ((-1)) z1.2 h_z9.symm rfl (by decide) ?_) (And.intro rfl (And.intro rfl (And.intro rfl (And.intro rfl (And.intro rfl (trivial))))))
  refine e_iload_n X dX8_bestParter_71 rfl rfl ?_
  exact e_iret X hr dX8_bestParter_72 (Nat.le_of_ble_eq_true rfl) (Nat.le_of_ble_eq_true rfl) (by cases hF; exact ⟨rfl, rfl⟩)
end PART

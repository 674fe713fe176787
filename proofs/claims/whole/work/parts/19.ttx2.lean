section PART
variable {p : Program} {l : Launch} {e : Env} {R : Room} {s : State} {m : MethodId} {args : Array Value} {below : List Frame} {meth : Method} {c : Code} {Γ : Gm} {D : va_G} {s0 : State} {cells slots : Nat} {Q : State → Prop} {own : String} {cc : ByteArray} {nL : Nat} {σ : Mem} {pc : Nat} {lv : List (Option Value)} {st : List Value} {Pst : Option Value → Mem → Prop}
def F_Text_linesOf_54_46_b (r1 : Nat) (rn1 : Nat) (v2 : Int32) (v3 : Int32) (v4 : Int32) (σ : Mem) : Option ((Int32 × Mem) ⊕ ((Int32 × Mem) ⊕ (Mem × Int32))) := (if v3 < v4 then some (.inr (.inl ((v4, σ)))) else obind (F_TTx_readsLine σ) fun z10 => (if z10.2 = 0 then some (.inr (.inr ((z10.1, (-1))))) else chk (inb (z10.1 54 8) 31) <| (if (z10.1 54 8) = 29 then some (.inr (.inr ((z10.1, v4)))) else obind (F_Text_needs z10.1 54 22) fun z14 => (if z14.2 = 0 then some (.inr (.inr ((z14.1, (-1))))) else bindT (v4 + 1) fun x16 => some (.inl ((x16, z14.1)))))))
def F_Text_linesOf_54 (σ : Mem) (r1 rn1 : Nat) (v2 : Int32) (v3 : Int32) : Option (Mem × Int32) := bindT (F_Row_copyAll σ (54 + 1) 400 r1 rn1) fun z1 => bindT (up z1 54 6 v2) fun σ2 => bindT (up σ2 54 12 ((-1))) fun σ3 => obind (F_Text_cut σ3 54) fun z4 => bindT (up z4 54 7 ((-1))) fun σ5 => obind (F_Text_advance σ5 54) fun z6 => chk (inb (z6 54 8) 31) <| (if (z6 54 8) = 29 then some ((z6, 0)) else obind (whl (fun s => F_Text_linesOf_54_46_b r1 rn1 v2 v3 s.1 s.2) FUEL (1, z6)) fun z17 => sumE z17 (fun s18 => bindT (F_Text_refuse s18.2 54) fun z20 => some ((z20.1, (-1)))) (fun r19 => some r19))
set_option maxRecDepth 20000 in
set_option maxHeartbeats 4000000 in
theorem L_Text_linesOf_54_46 (X : Cx p l s m args meth c Γ D s0 RX7 cX7_linesOf 5) (hr : meth.sig.returnType = (some .int)) (r1 : Nat) (rn1 : Nat) (v2 : Int32) (v3 : Int32) (gr1 : isRow r1 rn1) : ∀ (n : Nat) (v4 : Int32) (σ : Mem) {z : (Int32 × Mem) ⊕ (Mem × Int32)}, whl (fun s => F_Text_linesOf_54_46_b r1 rn1 v2 v3 s.1 s.2) n (v4, σ) = some z → (sumP z (fun s9 => E p l e ({ frames := 8, cells := 0, slots := 0, locals := 321 } : Room) s m args below meth c Γ D 0 0 (MQ below (QcA Γ D Pst) args s 0 0 (frB Γ)) s9.2 92 [some (.ref (Γ.1 + 54)), some (.ref (Γ.1 + r1)), some (.int v2), some (.int v3), some (.int s9.1)] []) (fun r9 => Pst (some (.int r9.2)) r9.1)) → E p l e ({ frames := 8, cells := 0, slots := 0, locals := 321 } : Room) s m args below meth c Γ D 0 0 (MQ below (QcA Γ D Pst) args s 0 0 (frB Γ)) σ 46 [some (.ref (Γ.1 + 54)), some (.ref (Γ.1 + r1)), some (.int v2), some (.int v3), some (.int v4)] [] := by
  intro n
  induction n with
  | zero =>
    intro v4 σ z hF hK
    cases hF
  | succ n ih =>
    intro v4 σ z hF hK
    obtain ⟨y9, hB, hF⟩ := whl_step hF
    change F_Text_linesOf_54_46_b r1 rn1 v2 v3 v4 σ = some y9 at hB
    unfold F_Text_linesOf_54_46_b at hB
    refine e_iload X dX7_linesOf_46 rfl ?_
    refine e_iload_n X dX7_linesOf_48 rfl rfl ?_
    refine e_icmp_gt X 92 dX7_linesOf_49 (by decide) (fun c9 => ?_) (fun c9 => ?_)
    · skip
      rw [if_pos c9] at hB
      have hy9 := Option.some.inj hB; change (.inr (.inl ((v4, σ)))) = y9 at hy9; subst hy9
      have hz9 := Option.some.inj hF; change (.inl ((v4, σ))) = z at hz9; subst hz9
      exact e_le hK (And.intro rfl (And.intro rfl (And.intro rfl (And.intro rfl (And.intro rfl (trivial))))))
    · skip
      rw [if_neg c9] at hB
      refine e_aload_n X dX7_linesOf_52 rfl rfl ?_
      obtain ⟨z10, h_z10, hB⟩ := obind_out hB
      refine e_callAi X (r := z10.2) (σ1 := z10.1) [] [] (C_TTx_readsLine (Cx_gok X) σ h_z10) gu_X7_66_X10 (by decide +kernel) ykx_X10_readsLine rfl (ent_lt (rfl : entTbl[54]? = some (5, 0))) (ent_at (rfl : entTbl[54]? = some (5, 0)) _) (rfl : vCl[9]? = some (RX10, TX10, 14)) ⟨Nat.le_of_ble_eq_true rfl, Nat.le_of_ble_eq_true rfl⟩ ⟨Nat.le_of_ble_eq_true rfl, Nat.le_of_ble_eq_true rfl⟩ (Nat.le_of_ble_eq_true rfl) dX7_linesOf_53 rfl ?_
      refine e_if_ne X 61 dX7_linesOf_56 (by decide) (fun c11 => ?_) (fun c11 => ?_)
      · skip
        rw [if_neg c11] at hB
        refine e_aload_n X dX7_linesOf_61 rfl rfl ?_
        refine ge_Text_kind X ok_Text_54 wf_X7_40 dX7_linesOf_62 ?_
        refine e_kstatic X 29 rfl rfl wf_X7_36 dX7_linesOf_65 ?_
        obtain ⟨c12, hB⟩ := chk_out hB
        refine e_kacmp_ne X 74 c12 rfl dX7_linesOf_68 (by decide) (fun c13 => ?_) (fun c13 => ?_)
        · skip
          rw [if_neg c13] at hB
          refine e_aload_n X dX7_linesOf_74 rfl rfl ?_
          refine e_kstatic X 22 rfl rfl wf_X7_70 dX7_linesOf_75 ?_
          obtain ⟨z14, h_z14, hB⟩ := obind_out hB
          refine e_callUi X (r := z14.2) (σ1 := z14.1) [va_rf (kop Γ 22)] [] (C_Text_needs (Cx_gok X) z10.1 54 22 ok_Text_54 h_z14) gu_X7_73_X10 rfl ykx_X7_needs rfl (ent_lt (rfl : entTbl[54]? = some (5, 0))) (ent_at (rfl : entTbl[54]? = some (5, 0)) _) (rfl : vCl[9]? = some (RX10, TX10, 14)) ⟨Nat.le_of_ble_eq_true rfl, Nat.le_of_ble_eq_true rfl⟩ ⟨Nat.le_of_ble_eq_true rfl, Nat.le_of_ble_eq_true rfl⟩ (Nat.le_of_ble_eq_true rfl) dX7_linesOf_78 rfl ?_
          refine e_if_ne X 86 dX7_linesOf_81 (by decide) (fun c15 => ?_) (fun c15 => ?_)
          · skip
            rw [if_neg c15] at hB
            refine e_iinc X 1 dX7_linesOf_86 rfl rfl (by decide) ?_
            obtain ⟨x16, h_x16, hB⟩ := bindT_out hB
            rw [← h_x16]
            refine e_goto X 46 dX7_linesOf_89 (by decide) ?_
            have hy9 := Option.some.inj hB; change (.inl ((x16, z14.1))) = y9 at hy9; subst hy9
            exact e_le (ih x16 z14.1 hF hK) (And.intro rfl (And.intro rfl (And.intro rfl (And.intro rfl (And.intro rfl (trivial))))))
          · skip
            rw [if_pos c15] at hB
            refine e_iconst X (-1) dX7_linesOf_84 rfl ?_
            have hy9 := Option.some.inj hB; change (.inr (.inr ((z14.1, (-1))))) = y9 at hy9; subst hy9
            have hz9 := Option.some.inj hF; change (.inr ((z14.1, (-1)))) = z at hz9; subst hz9
            exact e_iret X hr dX7_linesOf_85 (Nat.le_of_ble_eq_true rfl) (Nat.le_of_ble_eq_true rfl) hK
        · skip
          rw [if_pos c13] at hB
          refine e_iload X dX7_linesOf_71 rfl ?_
          have hy9 := Option.some.inj hB; change (.inr (.inr ((z10.1, v4)))) = y9 at hy9; subst hy9
          have hz9 := Option.some.inj hF; change (.inr ((z10.1, v4))) = z at hz9; subst hz9
          exact e_iret X hr dX7_linesOf_73 (Nat.le_of_ble_eq_true rfl) (Nat.le_of_ble_eq_true rfl) hK
      · skip
        rw [if_pos c11] at hB
        refine e_iconst X (-1) dX7_linesOf_59 rfl ?_
        have hy9 := Option.some.inj hB; change (.inr (.inr ((z10.1, (-1))))) = y9 at hy9; subst hy9
        have hz9 := Option.some.inj hF; change (.inr ((z10.1, (-1)))) = z at hz9; subst hz9
        exact e_iret X hr dX7_linesOf_60 (Nat.le_of_ble_eq_true rfl) (Nat.le_of_ble_eq_true rfl) hK
set_option maxRecDepth 20000 in
set_option maxHeartbeats 4000000 in
theorem C_Text_linesOf_54 (hG : Gok l Γ D s0) (σ : Mem) (r1 rn1 : Nat) (v2 : Int32) (v3 : Int32) (gr1 : isRow r1 rn1) {out : Mem × Int32} (hF : F_Text_linesOf_54 σ r1 rn1 v2 v3 = some out) : CT l Γ D s0 yX7_linesOf cX7_linesOf 5 (some .int) (8) 0 0 (321) σ [.ref (Γ.1 + 54), .ref (Γ.1 + r1), .int v2, .int v3] (PI (some (.int out.2)) out.1) := by
  unfold F_Text_linesOf_54 at hF
  refine e_met (own := RX7) hG (by decide +kernel) rfl rfl (Nat.le_of_ble_eq_true rfl) ?_
  intro p e s m args below meth c X hr
  show E p l e _ s m args below meth c Γ D 0 0 _ σ 0 [some (.ref (Γ.1 + 54)), some (.ref (Γ.1 + r1)), some (.int v2), some (.int v3), none] []
  refine e_aload_n X dX7_linesOf_0 rfl rfl ?_
  refine ge_Text_bytes X ok_Text_54 wf_X7_14 dX7_linesOf_1 ?_
  refine e_aload_n X dX7_linesOf_4 rfl rfl ?_
  obtain ⟨z1, h_z1, hF⟩ := bindT_out hF
  refine e_callVv X (σ1 := z1) [.ref (Γ.1 + r1)] [] (by rw [h_z1]; exact C_Row_copyAll (Cx_gok X) σ (54 + 1) 400 r1 rn1 ok_Text_54.2.1 gr1) gv_X7_50 yk_X6_copyAll rfl (ent_lt ok_Text_54.2.1.1) (ent_at ok_Text_54.2.1.1 _) (rfl : vCl[6]? = some (RX6, TX6, 1)) ⟨Nat.le_of_ble_eq_true rfl, Nat.le_of_ble_eq_true rfl⟩ ⟨Nat.le_of_ble_eq_true rfl, Nat.le_of_ble_eq_true rfl⟩ (Nat.le_of_ble_eq_true rfl) dX7_linesOf_5 rfl ?_
  refine e_aload_n X dX7_linesOf_8 rfl rfl ?_
  refine e_iload_n X dX7_linesOf_9 rfl rfl ?_
  obtain ⟨σ2, h_σ2, hF⟩ := bindT_out hF
  refine pu_Text_length X ok_Text_54 wf_X7_54 dX7_linesOf_10 h_σ2 ?_
  refine e_aload_n X dX7_linesOf_13 rfl rfl ?_
  refine e_iconst X (-1) dX7_linesOf_14 rfl ?_
  obtain ⟨σ3, h_σ3, hF⟩ := bindT_out hF
  refine pu_Text_wrong X ok_Text_54 wf_X7_47 dX7_linesOf_15 h_σ3 ?_
  refine e_aload_n X dX7_linesOf_18 rfl rfl ?_
  obtain ⟨z4, h_z4, hF⟩ := obind_out hF
  refine e_callUv X (σ1 := z4) [] [] (C_Text_cut (Cx_gok X) σ3 54 ok_Text_54 h_z4) gu_X7_57_X10 rfl ykx_X7_cut rfl (ent_lt (rfl : entTbl[54]? = some (5, 0))) (ent_at (rfl : entTbl[54]? = some (5, 0)) _) (rfl : vCl[9]? = some (RX10, TX10, 14)) ⟨Nat.le_of_ble_eq_true rfl, Nat.le_of_ble_eq_true rfl⟩ ⟨Nat.le_of_ble_eq_true rfl, Nat.le_of_ble_eq_true rfl⟩ (Nat.le_of_ble_eq_true rfl) dX7_linesOf_19 rfl ?_
  refine e_aload_n X dX7_linesOf_22 rfl rfl ?_
  refine e_iconst X (-1) dX7_linesOf_23 rfl ?_
  obtain ⟨σ5, h_σ5, hF⟩ := bindT_out hF
  refine pu_Text_index X ok_Text_54 wf_X7_60 dX7_linesOf_24 h_σ5 ?_
  refine e_aload_n X dX7_linesOf_27 rfl rfl ?_
  obtain ⟨z6, h_z6, hF⟩ := obind_out hF
  refine e_callUv X (σ1 := z6) [] [] (C_Text_advance (Cx_gok X) σ5 54 ok_Text_54 h_z6) gu_X7_63_X10 rfl ykx_X7_advance rfl (ent_lt (rfl : entTbl[54]? = some (5, 0))) (ent_at (rfl : entTbl[54]? = some (5, 0)) _) (rfl : vCl[9]? = some (RX10, TX10, 14)) ⟨Nat.le_of_ble_eq_true rfl, Nat.le_of_ble_eq_true rfl⟩ ⟨Nat.le_of_ble_eq_true rfl, Nat.le_of_ble_eq_true rfl⟩ (Nat.le_of_ble_eq_true rfl) dX7_linesOf_28 rfl ?_
  refine e_aload_n X dX7_linesOf_31 rfl rfl ?_
  refine ge_Text_kind X ok_Text_54 wf_X7_40 dX7_linesOf_32 ?_
  refine e_kstatic X 29 rfl rfl wf_X7_36 dX7_linesOf_35 ?_
  obtain ⟨c7, hF⟩ := chk_out hF
  refine e_kacmp_ne X 43 c7 rfl dX7_linesOf_38 (by decide) (fun c8 => ?_) (fun c8 => ?_)
  · skip
    rw [if_neg c8] at hF
    refine e_iconst X 1 dX7_linesOf_43 rfl ?_
    refine e_istore X rfl dX7_linesOf_44 (by decide) ?_
    obtain ⟨z17, h_z17, hF⟩ := obind_out hF
    refine e_le (L_Text_linesOf_54_46 X hr r1 rn1 v2 v3 gr1 _ 1 z6 h_z17 ?_) (And.intro rfl (And.intro rfl (And.intro rfl (And.intro rfl (And.intro rfl (trivial))))))
    cases z17 with
    | inl s18 =>
      replace hF := hF
      rw [sumE] at hF
      show E p l e _ s m args below meth c Γ D _ _ _ _ _ _ _
      refine e_aload_n X dX7_linesOf_92 rfl rfl ?_
      obtain ⟨z20, h_z20, hF⟩ := bindT_out hF
      refine e_callUi X (r := z20.2) (σ1 := z20.1) [] [] (by rw [h_z20]; exact C_Text_refuse (Cx_gok X) s18.2 54 ok_Text_54) gu_X7_77_X10 rfl ykx_X7_refuse rfl (ent_lt (rfl : entTbl[54]? = some (5, 0))) (ent_at (rfl : entTbl[54]? = some (5, 0)) _) (rfl : vCl[9]? = some (RX10, TX10, 14)) ⟨Nat.le_of_ble_eq_true rfl, Nat.le_of_ble_eq_true rfl⟩ ⟨Nat.le_of_ble_eq_true rfl, Nat.le_of_ble_eq_true rfl⟩ (Nat.le_of_ble_eq_true rfl) dX7_linesOf_93 rfl ?_
      refine e_pop X dX7_linesOf_96 rfl ?_
      refine e_iconst X (-1) dX7_linesOf_97 rfl ?_
      exact e_iret X hr dX7_linesOf_98 (Nat.le_of_ble_eq_true rfl) (Nat.le_of_ble_eq_true rfl) (by cases hF; exact ⟨rfl, rfl⟩)
    | inr r19 =>
      rw [sumE] at hF
      cases hF
      exact ⟨rfl, rfl⟩
  · skip
    rw [if_pos c8] at hF
    refine e_iconst X 0 dX7_linesOf_41 rfl ?_
    exact e_iret X hr dX7_linesOf_42 (Nat.le_of_ble_eq_true rfl) (Nat.le_of_ble_eq_true rfl) (by cases hF; exact ⟨rfl, rfl⟩)
end PART

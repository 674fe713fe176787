section PART
variable {p : Program} {l : Launch} {e : Env} {R : Room} {s : State} {m : MethodId} {args : Array Value} {below : List Frame} {meth : Method} {c : Code} {Γ : Gm} {D : va_G} {s0 : State} {cells slots : Nat} {Q : State → Prop} {own : String} {cc : ByteArray} {nL : Nat} {σ : Mem} {pc : Nat} {lv : List (Option Value)} {st : List Value} {Pst : Option Value → Mem → Prop}
def F_LTx_readsNot_g (rc : Mem → Int32 → Option (Mem × Int32)) (σ : Mem) (v1 : Int32) : Option (Mem × Int32) := obind (F_Text_advance σ 78) fun z1 => obind (rc z1 v1) fun z2 => bindT (F_Law_addCode z2.1 85 1013) fun z3 => some ((z3, (z2.2 &&& 1)))
def F_LTx_readsAll_12_b (rc : Mem → Int32 → Option (Mem × Int32)) (v1 : Int32) (v2 : Int32) (σ : Mem) : Option ((Mem) ⊕ ((Mem) ⊕ (Mem × Int32))) := obind (F_Text_takes σ 78 12) fun z4 => (if z4.2 = 0 then some (.inr (.inl z4.1)) else obind (rc z4.1 v1) fun z6 => (if z6.2 = 0 then some (.inr (.inr ((z6.1, 0)))) else bindT (F_Law_addCode z6.1 85 1011) fun z8 => some (.inl z8)))
def F_LTx_readsAll_g (rc : Mem → Int32 → Option (Mem × Int32)) (σ : Mem) (v1 : Int32) : Option (Mem × Int32) := obind (rc σ v1) fun z1 => (if z1.2 = 0 then some ((z1.1, 0)) else obind (omap mrg2 (forGO (fun i s => F_LTx_readsAll_12_b rc v1 i s) (cnt 0 400) 0 z1.1)) fun z10 => sumE z10 (fun s11 => some ((s11, 1))) (fun r12 => some r12))
def F_LTx_readsEither_12_b (rc : Mem → Int32 → Option (Mem × Int32)) (v1 : Int32) (v2 : Int32) (σ : Mem) : Option ((Mem) ⊕ ((Mem) ⊕ (Mem × Int32))) := obind (F_Text_takes σ 78 11) fun z4 => (if z4.2 = 0 then some (.inr (.inl z4.1)) else obind (F_LTx_readsAll_g rc z4.1 v1) fun z6 => (if z6.2 = 0 then some (.inr (.inr ((z6.1, 0)))) else bindT (F_Law_addCode z6.1 85 1012) fun z8 => some (.inl z8)))
def F_LTx_readsEither_g (rc : Mem → Int32 → Option (Mem × Int32)) (σ : Mem) (v1 : Int32) : Option (Mem × Int32) := obind (F_LTx_readsAll_g rc σ v1) fun z1 => (if z1.2 = 0 then some ((z1.1, 0)) else obind (omap mrg2 (forGO (fun i s => F_LTx_readsEither_12_b rc v1 i s) (cnt 0 400) 0 z1.1)) fun z10 => sumE z10 (fun s11 => some ((s11, 1))) (fun r12 => some r12))
def F_LTx_readsAtom_g (rc : Mem → Int32 → Option (Mem × Int32)) (σ : Mem) (v1 : Int32) : Option (Mem × Int32) := chk (inb (σ 78 8) 31) <| (if (σ 78 8) = 13 then (if v1 < 6 then obind (F_Text_takes σ 78 23) fun z4 => (if z4.2 = 0 then chk (inb (z4.1 78 8) 31) <| (if (z4.1 78 8) = 13 then obind (F_LTx_readsNot_g rc z4.1 ((v1 + 1))) fun z26 => some ((z26.1, (z26.2 &&& 1))) else (if (z4.1 78 8) = 14 then bindT (F_Law_addCode z4.1 85 ((kCode ((z4.1 78 8))))) fun z9 => obind (F_Text_advance z9 78) fun z10 => some ((z10, 1)) else (if (z4.1 78 8) = 15 then bindT (F_Law_addCode z4.1 85 ((kCode ((z4.1 78 8))))) fun z24 => obind (F_Text_advance z24 78) fun z25 => some ((z25, 1)) else obind (F_LTx_readsSum z4.1) fun z12 => (if z12.2 = 0 then some ((z12.1, 0)) else chk (inb (z12.1 78 8) 31) <| (if (z12.1 78 8) = 25 then obind (F_Text_advance z12.1 78) fun z16 => obind (F_LTx_readsSum z16) fun z17 => bindT (F_Law_addCode z17.1 85 ((kCode ((z12.1 78 8))))) fun z18 => some ((z18, (z17.2 &&& 1))) else (if (z12.1 78 8) = 26 then obind (F_Text_advance z12.1 78) fun z20 => obind (F_LTx_readsSum z20) fun z21 => bindT (F_Law_addCode z21.1 85 ((kCode ((z12.1 78 8))))) fun z22 => some ((z22, (z21.2 &&& 1))) else bindT (F_Text_refuse z12.1 78) fun z23 => some ((z23.1, (z23.2 &&& 1))))))))) else obind (F_LTx_readsEither_g rc z4.1 ((v1 + 1))) fun z27 => (if z27.2 = 0 then some ((z27.1, 0)) else obind (F_Text_needs z27.1 78 24) fun z29 => (if z29.2 = 0 then some ((z29.1, 0)) else some ((z29.1, 1))))) else bindT (F_Text_refuse σ 78) fun z31 => some ((z31.1, (z31.2 &&& 1)))) else (if (σ 78 8) = 23 then (if v1 < 6 then obind (F_Text_takes σ 78 23) fun z61 => (if z61.2 = 0 then chk (inb (z61.1 78 8) 31) <| (if (z61.1 78 8) = 13 then obind (F_LTx_readsNot_g rc z61.1 ((v1 + 1))) fun z83 => some ((z83.1, (z83.2 &&& 1))) else (if (z61.1 78 8) = 14 then bindT (F_Law_addCode z61.1 85 ((kCode ((z61.1 78 8))))) fun z66 => obind (F_Text_advance z66 78) fun z67 => some ((z67, 1)) else (if (z61.1 78 8) = 15 then bindT (F_Law_addCode z61.1 85 ((kCode ((z61.1 78 8))))) fun z81 => obind (F_Text_advance z81 78) fun z82 => some ((z82, 1)) else obind (F_LTx_readsSum z61.1) fun z69 => (if z69.2 = 0 then some ((z69.1, 0)) else chk (inb (z69.1 78 8) 31) <| (if (z69.1 78 8) = 25 then obind (F_Text_advance z69.1 78) fun z73 => obind (F_LTx_readsSum z73) fun z74 => bindT (F_Law_addCode z74.1 85 ((kCode ((z69.1 78 8))))) fun z75 => some ((z75, (z74.2 &&& 1))) else (if (z69.1 78 8) = 26 then obind (F_Text_advance z69.1 78) fun z77 => obind (F_LTx_readsSum z77) fun z78 => bindT (F_Law_addCode z78.1 85 ((kCode ((z69.1 78 8))))) fun z79 => some ((z79, (z78.2 &&& 1))) else bindT (F_Text_refuse z69.1 78) fun z80 => some ((z80.1, (z80.2 &&& 1))))))))) else obind (F_LTx_readsEither_g rc z61.1 ((v1 + 1))) fun z84 => (if z84.2 = 0 then some ((z84.1, 0)) else obind (F_Text_needs z84.1 78 24) fun z86 => (if z86.2 = 0 then some ((z86.1, 0)) else some ((z86.1, 1))))) else bindT (F_Text_refuse σ 78) fun z88 => some ((z88.1, (z88.2 &&& 1)))) else obind (F_Text_takes σ 78 23) fun z33 => (if z33.2 = 0 then chk (inb (z33.1 78 8) 31) <| (if (z33.1 78 8) = 13 then obind (F_LTx_readsNot_g rc z33.1 ((v1 + 1))) fun z55 => some ((z55.1, (z55.2 &&& 1))) else (if (z33.1 78 8) = 14 then bindT (F_Law_addCode z33.1 85 ((kCode ((z33.1 78 8))))) fun z38 => obind (F_Text_advance z38 78) fun z39 => some ((z39, 1)) else (if (z33.1 78 8) = 15 then bindT (F_Law_addCode z33.1 85 ((kCode ((z33.1 78 8))))) fun z53 => obind (F_Text_advance z53 78) fun z54 => some ((z54, 1)) else obind (F_LTx_readsSum z33.1) fun z41 => (if z41.2 = 0 then some ((z41.1, 0)) else chk (inb (z41.1 78 8) 31) <| (if (z41.1 78 8) = 25 then obind (F_Text_advance z41.1 78) fun z45 => obind (F_LTx_readsSum z45) fun z46 => bindT (F_Law_addCode z46.1 85 ((kCode ((z41.1 78 8))))) fun z47 => some ((z47, (z46.2 &&& 1))) else (if (z41.1 78 8) = 26 then obind (F_Text_advance z41.1 78) fun z49 => obind (F_LTx_readsSum z49) fun z50 => bindT (F_Law_addCode z50.1 85 ((kCode ((z41.1 78 8))))) fun z51 => some ((z51, (z50.2 &&& 1))) else bindT (F_Text_refuse z41.1 78) fun z52 => some ((z52.1, (z52.2 &&& 1))))))))) else obind (F_LTx_readsEither_g rc z33.1 ((v1 + 1))) fun z56 => (if z56.2 = 0 then some ((z56.1, 0)) else obind (F_Text_needs z56.1 78 24) fun z58 => (if z58.2 = 0 then some ((z58.1, 0)) else some ((z58.1, 1)))))))
def F_LTx_readsAtom_d : Nat → Mem → Int32 → Option (Mem × Int32)
  | 0 => fun _ _ => none
  | d + 1 => F_LTx_readsAtom_g (F_LTx_readsAtom_d d)
def F_LTx_readsNot (σ : Mem) (v1 : Int32) : Option (Mem × Int32) := F_LTx_readsNot_g (F_LTx_readsAtom_d 8) σ v1
def F_LTx_readsAll (σ : Mem) (v1 : Int32) : Option (Mem × Int32) := F_LTx_readsAll_g (F_LTx_readsAtom_d 8) σ v1
def F_LTx_readsEither (σ : Mem) (v1 : Int32) : Option (Mem × Int32) := F_LTx_readsEither_g (F_LTx_readsAtom_d 8) σ v1
def F_LTx_readsAtom (σ : Mem) (v1 : Int32) : Option (Mem × Int32) := F_LTx_readsAtom_g (F_LTx_readsAtom_d 8) σ v1
set_option maxRecDepth 20000 in
set_option maxHeartbeats 4000000 in
theorem C_LTx_readsNot_g (hG : Gok l Γ D s0) {fr lo : Nat} (rc : Mem → Int32 → Option (Mem × Int32)) (hrc : ∀ (σ : Mem) (v1 : Int32)  {out : Mem × Int32}, rc σ v1 = some out → CT l Γ D s0 yX3_readsAtom cX3_readsAtom 4 (some .boolean) fr 0 0 lo σ [.ref (Γ.1 + 78), .int v1] (PI (some (.int out.2)) out.1)) (σ : Mem) (v1 : Int32)  {out : Mem × Int32} (hF : F_LTx_readsNot_g rc σ v1 = some out) : CT l Γ D s0 yX3_readsNot cX3_readsNot 3 (some .boolean) (fr + 1) 0 0 (lo + 23) σ [.ref (Γ.1 + 78), .int v1] (PI (some (.int out.2)) out.1) := by
  unfold F_LTx_readsNot_g at hF
  refine e_met (own := RX3) hG (by decide +kernel) rfl rfl (Nat.le_of_ble_eq_true rfl) ?_
  intro p e s m args below meth c X hr
  show E p l e _ s m args below meth c Γ D 0 0 _ σ 0 [some (.ref (Γ.1 + 78)), some (.int v1), none] []
  refine e_aload_n X dX3_readsNot_0 rfl rfl ?_
  obtain ⟨z1, h_z1, hF⟩ := obind_out hF
  refine e_callUv X (σ1 := z1) [] [] (C_Text_advance (Cx_gok X) σ 78 ok_Text_78 h_z1) gu_X3_34_X3 rfl ykx_X7_advance rfl (ent_lt (rfl : entTbl[78]? = some (6, 0))) (ent_at (rfl : entTbl[78]? = some (6, 0)) _) (rfl : vCl[3]? = some (RX3, TX3, 14)) ⟨by dsimp only; omega, by dsimp only; omega⟩ ⟨Nat.le_of_ble_eq_true rfl, Nat.le_of_ble_eq_true rfl⟩ (Nat.le_of_ble_eq_true rfl) dX3_readsNot_1 rfl ?_
  refine e_aload_n X dX3_readsNot_4 rfl rfl ?_
  refine e_iload_n X dX3_readsNot_5 rfl rfl ?_
  obtain ⟨z2, h_z2, hF⟩ := obind_out hF
  refine e_callVi X (r := z2.2) (σ1 := z2.1) [.int v1] [] (hrc z1 v1 h_z2) gv_X3_65 yk_X3_readsAtom rfl (ent_lt (rfl : entTbl[78]? = some (6, 0))) (ent_at (rfl : entTbl[78]? = some (6, 0)) _) (rfl : vCl[3]? = some (RX3, TX3, 14)) ⟨by dsimp only; omega, by dsimp only; omega⟩ ⟨Nat.le_of_ble_eq_true rfl, Nat.le_of_ble_eq_true rfl⟩ (Nat.le_of_ble_eq_true rfl) dX3_readsNot_6 rfl ?_
  refine e_istore_n X rfl dX3_readsNot_9 rfl (by decide) ?_
  refine e_aload_n X dX3_readsNot_10 rfl rfl ?_
  refine ge_LTx_draft X wf_X3_12 dX3_readsNot_11 ?_
  refine e_sipush X 1013 dX3_readsNot_14 rfl ?_
  obtain ⟨z3, h_z3, hF⟩ := bindT_out hF
  refine e_callVv X (σ1 := z3) [.int 1013] [] (by rw [h_z3]; exact C_Law_addCode (Cx_gok X) z2.1 85 1013 ok_Law_85) gv_X3_62 yk_X2_addCode rfl (ent_lt ok_Law_85.1) (ent_at ok_Law_85.1 _) (rfl : vCl[2]? = some (RX2, TX2, 6)) ⟨by dsimp only; omega, by dsimp only; omega⟩ ⟨Nat.le_of_ble_eq_true rfl, Nat.le_of_ble_eq_true rfl⟩ (Nat.le_of_ble_eq_true rfl) dX3_readsNot_17 rfl ?_
  refine e_iload_n X dX3_readsNot_20 rfl rfl ?_
  exact e_zret X hr rfl dX3_readsNot_21 (Nat.le_of_ble_eq_true rfl) (Nat.le_of_ble_eq_true rfl) (by cases hF; exact ⟨rfl, rfl⟩)
set_option maxRecDepth 20000 in
set_option maxHeartbeats 4000000 in
theorem L_LTx_readsAll_12 {fr lo : Nat} (X : Cx p l s m args meth c Γ D s0 RX3 cX3_readsAll 3) (hr : meth.sig.returnType = (some .boolean)) (rc : Mem → Int32 → Option (Mem × Int32)) (v1 : Int32) (hrc : ∀ (σ : Mem) (v1 : Int32)  {out : Mem × Int32}, rc σ v1 = some out → CT l Γ D s0 yX3_readsAtom cX3_readsAtom 4 (some .boolean) fr 0 0 lo σ [.ref (Γ.1 + 78), .int v1] (PI (some (.int out.2)) out.1)) : ∀ (n : Nat) (v2 : Int32) (σ : Mem) {z : (Mem) ⊕ (Mem × Int32)}, omap mrg2 (forGO (fun i s => F_LTx_readsAll_12_b rc v1 i s) n v2 σ) = some z → n = cnt v2 400 → ¬ v2 < 0 → (sumP z (fun s9 => E p l e ({ frames := fr + 2, cells := 0, slots := 0, locals := lo + 41 } : Room) s m args below meth c Γ D 0 0 (MQ below (QcA Γ D Pst) args s 0 0 (frB Γ)) s9 55 [some (.ref (Γ.1 + 78)), some (.int v1), none] []) (fun r9 => Pst (some (.int r9.2)) r9.1)) → E p l e ({ frames := fr + 2, cells := 0, slots := 0, locals := lo + 41 } : Room) s m args below meth c Γ D 0 0 (MQ below (QcA Γ D Pst) args s 0 0 (frB Γ)) σ 12 [some (.ref (Γ.1 + 78)), some (.int v1), some (.int v2)] [] := by
  intro n
  induction n with
  | zero =>
    intro v2 σ z hF hn h0 hK
    refine e_iload_n X dX3_readsAll_12 rfl rfl ?_
    refine e_sipush X 400 dX3_readsAll_13 rfl ?_
    refine e_icmp_ge X 55 dX3_readsAll_16 (by decide) (fun c9 => ?_) (fun c9 => ?_)
    · skip
      have hz9 := Option.some.inj hF; change (.inl σ) = z at hz9; subst hz9
      exact e_le hK (And.intro rfl (And.intro rfl (trivial)))
    · skip
      exact absurd c9 (cnt0 hn)
  | succ n ih =>
    intro v2 σ z hF hn h0 hK
    obtain ⟨y9, hB, hF⟩ := forBRO_step hF
    change F_LTx_readsAll_12_b rc v1 v2 σ = some y9 at hB
    unfold F_LTx_readsAll_12_b at hB
    refine e_iload_n X dX3_readsAll_12 rfl rfl ?_
    refine e_sipush X 400 dX3_readsAll_13 rfl ?_
    refine e_icmp_ge X 55 dX3_readsAll_16 (by decide) (fun c3 => ?_) (fun c3 => ?_)
    · skip
      exact absurd (cntS hn) c3
    · skip
      refine e_aload_n X dX3_readsAll_19 rfl rfl ?_
      refine e_kstatic X 12 rfl rfl wf_X3_68 dX3_readsAll_20 ?_
      obtain ⟨z4, h_z4, hB⟩ := obind_out hB
      refine e_callUi X (r := z4.2) (σ1 := z4.1) [va_rf (kop Γ 12)] [] (C_Text_takes (Cx_gok X) σ 78 12 ok_Text_78 h_z4) gu_X3_44_X3 rfl ykx_X7_takes rfl (ent_lt (rfl : entTbl[78]? = some (6, 0))) (ent_at (rfl : entTbl[78]? = some (6, 0)) _) (rfl : vCl[3]? = some (RX3, TX3, 14)) ⟨by dsimp only; omega, by dsimp only; omega⟩ ⟨Nat.le_of_ble_eq_true rfl, Nat.le_of_ble_eq_true rfl⟩ (Nat.le_of_ble_eq_true rfl) dX3_readsAll_23 rfl ?_
      refine e_if_eq X 55 dX3_readsAll_26 (by decide) (fun c5 => ?_) (fun c5 => ?_)
      · skip
        rw [if_pos c5] at hB
        have hy9 := Option.some.inj hB; change (.inr (.inl z4.1)) = y9 at hy9; subst hy9
        have hz9 := Option.some.inj hF; change (.inl z4.1) = z at hz9; subst hz9
        exact e_le hK (And.intro rfl (And.intro rfl (trivial)))
      · skip
        rw [if_neg c5] at hB
        refine e_aload_n X dX3_readsAll_29 rfl rfl ?_
        refine e_iload_n X dX3_readsAll_30 rfl rfl ?_
        obtain ⟨z6, h_z6, hB⟩ := obind_out hB
        refine e_callVi X (r := z6.2) (σ1 := z6.1) [.int v1] [] (hrc z4.1 v1 h_z6) gv_X3_65 yk_X3_readsAtom rfl (ent_lt (rfl : entTbl[78]? = some (6, 0))) (ent_at (rfl : entTbl[78]? = some (6, 0)) _) (rfl : vCl[3]? = some (RX3, TX3, 14)) ⟨by dsimp only; omega, by dsimp only; omega⟩ ⟨Nat.le_of_ble_eq_true rfl, Nat.le_of_ble_eq_true rfl⟩ (Nat.le_of_ble_eq_true rfl) dX3_readsAll_31 rfl ?_
        refine e_if_ne X 39 dX3_readsAll_34 (by decide) (fun c7 => ?_) (fun c7 => ?_)
        · skip
          rw [if_neg c7] at hB
          refine e_aload_n X dX3_readsAll_39 rfl rfl ?_
          refine ge_LTx_draft X wf_X3_12 dX3_readsAll_40 ?_
          refine e_sipush X 1011 dX3_readsAll_43 rfl ?_
          obtain ⟨z8, h_z8, hB⟩ := bindT_out hB
          refine e_callVv X (σ1 := z8) [.int 1011] [] (by rw [h_z8]; exact C_Law_addCode (Cx_gok X) z6.1 85 1011 ok_Law_85) gv_X3_62 yk_X2_addCode rfl (ent_lt ok_Law_85.1) (ent_at ok_Law_85.1 _) (rfl : vCl[2]? = some (RX2, TX2, 6)) ⟨by dsimp only; omega, by dsimp only; omega⟩ ⟨Nat.le_of_ble_eq_true rfl, Nat.le_of_ble_eq_true rfl⟩ (Nat.le_of_ble_eq_true rfl) dX3_readsAll_46 rfl ?_
          refine e_iinc X 1 dX3_readsAll_49 rfl rfl (by decide) ?_
          refine e_goto X 12 dX3_readsAll_52 (by decide) ?_
          have hy9 := Option.some.inj hB; change (.inl z8) = y9 at hy9; subst hy9
          exact e_le (ih _ z8 hF (cntN hn) (nnN h0 (cnt_hi hn)) hK) (And.intro rfl (And.intro rfl (And.intro rfl (trivial))))
        · skip
          rw [if_pos c7] at hB
          refine e_iconst X 0 dX3_readsAll_37 rfl ?_
          have hy9 := Option.some.inj hB; change (.inr (.inr ((z6.1, 0)))) = y9 at hy9; subst hy9
          have hz9 := Option.some.inj hF; change (.inr ((z6.1, 0))) = z at hz9; subst hz9
          exact e_zret X hr rfl dX3_readsAll_38 (Nat.le_of_ble_eq_true rfl) (Nat.le_of_ble_eq_true rfl) hK
set_option maxRecDepth 20000 in
set_option maxHeartbeats 4000000 in
theorem C_LTx_readsAll_g (hG : Gok l Γ D s0) {fr lo : Nat} (rc : Mem → Int32 → Option (Mem × Int32)) (hrc : ∀ (σ : Mem) (v1 : Int32)  {out : Mem × Int32}, rc σ v1 = some out → CT l Γ D s0 yX3_readsAtom cX3_readsAtom 4 (some .boolean) fr 0 0 lo σ [.ref (Γ.1 + 78), .int v1] (PI (some (.int out.2)) out.1)) (σ : Mem) (v1 : Int32)  {out : Mem × Int32} (hF : F_LTx_readsAll_g rc σ v1 = some out) : CT l Γ D s0 yX3_readsAll cX3_readsAll 3 (some .boolean) (fr + 2) 0 0 (lo + 41) σ [.ref (Γ.1 + 78), .int v1] (PI (some (.int out.2)) out.1) := by
  unfold F_LTx_readsAll_g at hF
  refine e_met (own := RX3) hG (by decide +kernel) rfl rfl (Nat.le_of_ble_eq_true rfl) ?_
  intro p e s m args below meth c X hr
  show E p l e _ s m args below meth c Γ D 0 0 _ σ 0 [some (.ref (Γ.1 + 78)), some (.int v1), none] []
  refine e_aload_n X dX3_readsAll_0 rfl rfl ?_
  refine e_iload_n X dX3_readsAll_1 rfl rfl ?_
  obtain ⟨z1, h_z1, hF⟩ := obind_out hF
  refine e_callVi X (r := z1.2) (σ1 := z1.1) [.int v1] [] (hrc σ v1 h_z1) gv_X3_65 yk_X3_readsAtom rfl (ent_lt (rfl : entTbl[78]? = some (6, 0))) (ent_at (rfl : entTbl[78]? = some (6, 0)) _) (rfl : vCl[3]? = some (RX3, TX3, 14)) ⟨by dsimp only; omega, by dsimp only; omega⟩ ⟨Nat.le_of_ble_eq_true rfl, Nat.le_of_ble_eq_true rfl⟩ (Nat.le_of_ble_eq_true rfl) dX3_readsAll_2 rfl ?_
  refine e_if_ne X 10 dX3_readsAll_5 (by decide) (fun c2 => ?_) (fun c2 => ?_)
  · skip
    rw [if_neg c2] at hF
    refine e_iconst X 0 dX3_readsAll_10 rfl ?_
    refine e_istore_n X rfl dX3_readsAll_11 rfl (by decide) ?_
    obtain ⟨z10, h_z10, hF⟩ := obind_out hF
    refine e_le (L_LTx_readsAll_12 X hr rc v1 hrc _ 0 z1.1 h_z10 rfl (by decide) ?_) (And.intro rfl (And.intro rfl (And.intro rfl (trivial))))
    cases z10 with
    | inl s11 =>
      replace hF := hF
      rw [sumE] at hF
      show E p l e _ s m args below meth c Γ D _ _ _ _ _ _ _
      refine e_iconst X 1 dX3_readsAll_55 rfl ?_
      exact e_zret X hr rfl dX3_readsAll_56 (Nat.le_of_ble_eq_true rfl) (Nat.le_of_ble_eq_true rfl) (by cases hF; exact ⟨rfl, rfl⟩)
    | inr r12 =>
      rw [sumE] at hF
      cases hF
      exact ⟨rfl, rfl⟩
  · skip
    rw [if_pos c2] at hF
    refine e_iconst X 0 dX3_readsAll_8 rfl ?_
    exact e_zret X hr rfl dX3_readsAll_9 (Nat.le_of_ble_eq_true rfl) (Nat.le_of_ble_eq_true rfl) (by cases hF; exact ⟨rfl, rfl⟩)
set_option maxRecDepth 20000 in
set_option maxHeartbeats 4000000 in
theorem L_LTx_readsEither_12 {fr lo : Nat} (X : Cx p l s m args meth c Γ D s0 RX3 cX3_readsEither 3) (hr : meth.sig.returnType = (some .boolean)) (rc : Mem → Int32 → Option (Mem × Int32)) (v1 : Int32) (hrc : ∀ (σ : Mem) (v1 : Int32)  {out : Mem × Int32}, rc σ v1 = some out → CT l Γ D s0 yX3_readsAtom cX3_readsAtom 4 (some .boolean) fr 0 0 lo σ [.ref (Γ.1 + 78), .int v1] (PI (some (.int out.2)) out.1)) : ∀ (n : Nat) (v2 : Int32) (σ : Mem) {z : (Mem) ⊕ (Mem × Int32)}, omap mrg2 (forGO (fun i s => F_LTx_readsEither_12_b rc v1 i s) n v2 σ) = some z → n = cnt v2 400 → ¬ v2 < 0 → (sumP z (fun s9 => E p l e ({ frames := fr + 3, cells := 0, slots := 0, locals := lo + 63 } : Room) s m args below meth c Γ D 0 0 (MQ below (QcA Γ D Pst) args s 0 0 (frB Γ)) s9 55 [some (.ref (Γ.1 + 78)), some (.int v1), none] []) (fun r9 => Pst (some (.int r9.2)) r9.1)) → E p l e ({ frames := fr + 3, cells := 0, slots := 0, locals := lo + 63 } : Room) s m args below meth c Γ D 0 0 (MQ below (QcA Γ D Pst) args s 0 0 (frB Γ)) σ 12 [some (.ref (Γ.1 + 78)), some (.int v1), some (.int v2)] [] := by
  intro n
  induction n with
  | zero =>
    intro v2 σ z hF hn h0 hK
    refine e_iload_n X dX3_readsEither_12 rfl rfl ?_
    refine e_sipush X 400 dX3_readsEither_13 rfl ?_
    refine e_icmp_ge X 55 dX3_readsEither_16 (by decide) (fun c9 => ?_) (fun c9 => ?_)
    · skip
      have hz9 := Option.some.inj hF; change (.inl σ) = z at hz9; subst hz9
      exact e_le hK (And.intro rfl (And.intro rfl (trivial)))
    · skip
      exact absurd c9 (cnt0 hn)
  | succ n ih =>
    intro v2 σ z hF hn h0 hK
    obtain ⟨y9, hB, hF⟩ := forBRO_step hF
    change F_LTx_readsEither_12_b rc v1 v2 σ = some y9 at hB
    unfold F_LTx_readsEither_12_b at hB
    refine e_iload_n X dX3_readsEither_12 rfl rfl ?_
    refine e_sipush X 400 dX3_readsEither_13 rfl ?_
    refine e_icmp_ge X 55 dX3_readsEither_16 (by decide) (fun c3 => ?_) (fun c3 => ?_)
    · skip
      exact absurd (cntS hn) c3
    · skip
      refine e_aload_n X dX3_readsEither_19 rfl rfl ?_
      refine e_kstatic X 11 rfl rfl wf_X3_59 dX3_readsEither_20 ?_
      obtain ⟨z4, h_z4, hB⟩ := obind_out hB
      refine e_callUi X (r := z4.2) (σ1 := z4.1) [va_rf (kop Γ 11)] [] (C_Text_takes (Cx_gok X) σ 78 11 ok_Text_78 h_z4) gu_X3_44_X3 rfl ykx_X7_takes rfl (ent_lt (rfl : entTbl[78]? = some (6, 0))) (ent_at (rfl : entTbl[78]? = some (6, 0)) _) (rfl : vCl[3]? = some (RX3, TX3, 14)) ⟨by dsimp only; omega, by dsimp only; omega⟩ ⟨Nat.le_of_ble_eq_true rfl, Nat.le_of_ble_eq_true rfl⟩ (Nat.le_of_ble_eq_true rfl) dX3_readsEither_23 rfl ?_
      refine e_if_eq X 55 dX3_readsEither_26 (by decide) (fun c5 => ?_) (fun c5 => ?_)
      · skip
        rw [if_pos c5] at hB
        have hy9 := Option.some.inj hB; change (.inr (.inl z4.1)) = y9 at hy9; subst hy9
        have hz9 := Option.some.inj hF; change (.inl z4.1) = z at hz9; subst hz9
        exact e_le hK (And.intro rfl (And.intro rfl (trivial)))
      · skip
        rw [if_neg c5] at hB
        refine e_aload_n X dX3_readsEither_29 rfl rfl ?_
        refine e_iload_n X dX3_readsEither_30 rfl rfl ?_
        obtain ⟨z6, h_z6, hB⟩ := obind_out hB
        refine e_callVi X (r := z6.2) (σ1 := z6.1) [.int v1] [] (C_LTx_readsAll_g (Cx_gok X) rc hrc z4.1 v1 h_z6) gv_X3_56 yk_X3_readsAll rfl (ent_lt (rfl : entTbl[78]? = some (6, 0))) (ent_at (rfl : entTbl[78]? = some (6, 0)) _) (rfl : vCl[3]? = some (RX3, TX3, 14)) ⟨by dsimp only; omega, by dsimp only; omega⟩ ⟨Nat.le_of_ble_eq_true rfl, Nat.le_of_ble_eq_true rfl⟩ (Nat.le_of_ble_eq_true rfl) dX3_readsEither_31 rfl ?_
        refine e_if_ne X 39 dX3_readsEither_34 (by decide) (fun c7 => ?_) (fun c7 => ?_)
        · skip
          rw [if_neg c7] at hB
          refine e_aload_n X dX3_readsEither_39 rfl rfl ?_
          refine ge_LTx_draft X wf_X3_12 dX3_readsEither_40 ?_
          refine e_sipush X 1012 dX3_readsEither_43 rfl ?_
          obtain ⟨z8, h_z8, hB⟩ := bindT_out hB
          refine e_callVv X (σ1 := z8) [.int 1012] [] (by rw [h_z8]; exact C_Law_addCode (Cx_gok X) z6.1 85 1012 ok_Law_85) gv_X3_62 yk_X2_addCode rfl (ent_lt ok_Law_85.1) (ent_at ok_Law_85.1 _) (rfl : vCl[2]? = some (RX2, TX2, 6)) ⟨by dsimp only; omega, by dsimp only; omega⟩ ⟨Nat.le_of_ble_eq_true rfl, Nat.le_of_ble_eq_true rfl⟩ (Nat.le_of_ble_eq_true rfl) dX3_readsEither_46 rfl ?_
          refine e_iinc X 1 dX3_readsEither_49 rfl rfl (by decide) ?_
          refine e_goto X 12 dX3_readsEither_52 (by decide) ?_
          have hy9 := Option.some.inj hB; change (.inl z8) = y9 at hy9; subst hy9
          exact e_le (ih _ z8 hF (cntN hn) (nnN h0 (cnt_hi hn)) hK) (And.intro rfl (And.intro rfl (And.intro rfl (trivial))))
        · skip
          rw [if_pos c7] at hB
          refine e_iconst X 0 dX3_readsEither_37 rfl ?_
          have hy9 := Option.some.inj hB; change (.inr (.inr ((z6.1, 0)))) = y9 at hy9; subst hy9
          have hz9 := Option.some.inj hF; change (.inr ((z6.1, 0))) = z at hz9; subst hz9
          exact e_zret X hr rfl dX3_readsEither_38 (Nat.le_of_ble_eq_true rfl) (Nat.le_of_ble_eq_true rfl) hK
set_option maxRecDepth 20000 in
set_option maxHeartbeats 4000000 in
theorem C_LTx_readsEither_g (hG : Gok l Γ D s0) {fr lo : Nat} (rc : Mem → Int32 → Option (Mem × Int32)) (hrc : ∀ (σ : Mem) (v1 : Int32)  {out : Mem × Int32}, rc σ v1 = some out → CT l Γ D s0 yX3_readsAtom cX3_readsAtom 4 (some .boolean) fr 0 0 lo σ [.ref (Γ.1 + 78), .int v1] (PI (some (.int out.2)) out.1)) (σ : Mem) (v1 : Int32)  {out : Mem × Int32} (hF : F_LTx_readsEither_g rc σ v1 = some out) : CT l Γ D s0 yX3_readsEither cX3_readsEither 3 (some .boolean) (fr + 3) 0 0 (lo + 63) σ [.ref (Γ.1 + 78), .int v1] (PI (some (.int out.2)) out.1) := by
  unfold F_LTx_readsEither_g at hF
  refine e_met (own := RX3) hG (by decide +kernel) rfl rfl (Nat.le_of_ble_eq_true rfl) ?_
  intro p e s m args below meth c X hr
  show E p l e _ s m args below meth c Γ D 0 0 _ σ 0 [some (.ref (Γ.1 + 78)), some (.int v1), none] []
  refine e_aload_n X dX3_readsEither_0 rfl rfl ?_
  refine e_iload_n X dX3_readsEither_1 rfl rfl ?_
  obtain ⟨z1, h_z1, hF⟩ := obind_out hF
  refine e_callVi X (r := z1.2) (σ1 := z1.1) [.int v1] [] (C_LTx_readsAll_g (Cx_gok X) rc hrc σ v1 h_z1) gv_X3_56 yk_X3_readsAll rfl (ent_lt (rfl : entTbl[78]? = some (6, 0))) (ent_at (rfl : entTbl[78]? = some (6, 0)) _) (rfl : vCl[3]? = some (RX3, TX3, 14)) ⟨by dsimp only; omega, by dsimp only; omega⟩ ⟨Nat.le_of_ble_eq_true rfl, Nat.le_of_ble_eq_true rfl⟩ (Nat.le_of_ble_eq_true rfl) dX3_readsEither_2 rfl ?_
  refine e_if_ne X 10 dX3_readsEither_5 (by decide) (fun c2 => ?_) (fun c2 => ?_)
  · skip
    rw [if_neg c2] at hF
    refine e_iconst X 0 dX3_readsEither_10 rfl ?_
    refine e_istore_n X rfl dX3_readsEither_11 rfl (by decide) ?_
    obtain ⟨z10, h_z10, hF⟩ := obind_out hF
    refine e_le (L_LTx_readsEither_12 X hr rc v1 hrc _ 0 z1.1 h_z10 rfl (by decide) ?_) (And.intro rfl (And.intro rfl (And.intro rfl (trivial))))
    cases z10 with
    | inl s11 =>
      replace hF := hF
      rw [sumE] at hF
      show E p l e _ s m args below meth c Γ D _ _ _ _ _ _ _
      refine e_iconst X 1 dX3_readsEither_55 rfl ?_
      exact e_zret X hr rfl dX3_readsEither_56 (Nat.le_of_ble_eq_true rfl) (Nat.le_of_ble_eq_true rfl) (by cases hF; exact ⟨rfl, rfl⟩)
    | inr r12 =>
      rw [sumE] at hF
      cases hF
      exact ⟨rfl, rfl⟩
  · skip
    rw [if_pos c2] at hF
    refine e_iconst X 0 dX3_readsEither_8 rfl ?_
    exact e_zret X hr rfl dX3_readsEither_9 (Nat.le_of_ble_eq_true rfl) (Nat.le_of_ble_eq_true rfl) (by cases hF; exact ⟨rfl, rfl⟩)
set_option maxRecDepth 20000 in
set_option maxHeartbeats 4000000 in
theorem C_LTx_readsAtom_g (hG : Gok l Γ D s0) {fr lo : Nat} (rc : Mem → Int32 → Option (Mem × Int32)) (hrc : ∀ (σ : Mem) (v1 : Int32)  {out : Mem × Int32}, rc σ v1 = some out → CT l Γ D s0 yX3_readsAtom cX3_readsAtom 4 (some .boolean) fr 0 0 lo σ [.ref (Γ.1 + 78), .int v1] (PI (some (.int out.2)) out.1)) (σ : Mem) (v1 : Int32)  {out : Mem × Int32} (hF : F_LTx_readsAtom_g rc σ v1 = some out) : CT l Γ D s0 yX3_readsAtom cX3_readsAtom 4 (some .boolean) (fr + 4) 0 0 (lo + 85) σ [.ref (Γ.1 + 78), .int v1] (PI (some (.int out.2)) out.1) := by
  unfold F_LTx_readsAtom_g at hF
  refine e_met (own := RX3) hG (by decide +kernel) rfl rfl (Nat.le_of_ble_eq_true rfl) ?_
  intro p e s m args below meth c X hr
  show E p l e _ s m args below meth c Γ D 0 0 _ σ 0 [some (.ref (Γ.1 + 78)), some (.int v1), none, none] []
  refine e_aload_n X dX3_readsAtom_0 rfl rfl ?_
  refine ge_LTx_kind X wf_X3_18 dX3_readsAtom_1 ?_
  refine e_kstatic X 13 rfl rfl wf_X3_71 dX3_readsAtom_4 ?_
  obtain ⟨c1, hF⟩ := chk_out hF
  refine e_kacmp_eq X 20 c1 rfl dX3_readsAtom_7 (by decide) (fun c2 => ?_) (fun c2 => ?_)
  · skip
    rw [if_pos c2] at hF
    refine e_iload_n X dX3_readsAtom_20 rfl rfl ?_
    refine e_bipush X 6 dX3_readsAtom_21 rfl ?_
    refine e_icmp_lt X 31 dX3_readsAtom_23 (by decide) (fun c3 => ?_) (fun c3 => ?_)
    · skip
      rw [if_pos c3] at hF
      refine e_aload_n X dX3_readsAtom_31 rfl rfl ?_
      refine e_kstatic X 23 rfl rfl wf_X3_74 dX3_readsAtom_32 ?_
      obtain ⟨z4, h_z4, hF⟩ := obind_out hF
      refine e_callUi X (r := z4.2) (σ1 := z4.1) [va_rf (kop Γ 23)] [] (C_Text_takes (Cx_gok X) σ 78 23 ok_Text_78 h_z4) gu_X3_44_X3 rfl ykx_X7_takes rfl (ent_lt (rfl : entTbl[78]? = some (6, 0))) (ent_at (rfl : entTbl[78]? = some (6, 0)) _) (rfl : vCl[3]? = some (RX3, TX3, 14)) ⟨by dsimp only; omega, by dsimp only; omega⟩ ⟨Nat.le_of_ble_eq_true rfl, Nat.le_of_ble_eq_true rfl⟩ (Nat.le_of_ble_eq_true rfl) dX3_readsAtom_35 rfl ?_
      refine e_if_eq X 67 dX3_readsAtom_38 (by decide) (fun c5 => ?_) (fun c5 => ?_)
      · skip
        rw [if_pos c5] at hF
        refine e_aload_n X dX3_readsAtom_67 rfl rfl ?_
        refine ge_LTx_kind X wf_X3_18 dX3_readsAtom_68 ?_
        refine e_kstatic X 13 rfl rfl wf_X3_71 dX3_readsAtom_71 ?_
        obtain ⟨c6, hF⟩ := chk_out hF
        refine e_kacmp_ne X 85 c6 rfl dX3_readsAtom_74 (by decide) (fun c7 => ?_) (fun c7 => ?_)
        · skip
          rw [if_neg c7] at hF
          refine e_aload_n X dX3_readsAtom_85 rfl rfl ?_
          refine ge_LTx_kind X wf_X3_18 dX3_readsAtom_86 ?_
          refine e_kstatic X 14 rfl rfl wf_X3_86 dX3_readsAtom_89 ?_
          refine e_kacmp_eq X 105 c6 rfl dX3_readsAtom_92 (by decide) (fun c8 => ?_) (fun c8 => ?_)
          · skip
            rw [if_pos c8] at hF
            refine e_aload_n X dX3_readsAtom_105 rfl rfl ?_
            refine ge_LTx_draft X wf_X3_12 dX3_readsAtom_106 ?_
            refine e_aload_n X dX3_readsAtom_109 rfl rfl ?_
            refine ge_LTx_kind X wf_X3_18 dX3_readsAtom_110 ?_
            refine kst_code X c6 wf_X3_92 dX3_readsAtom_113 ?_
            obtain ⟨z9, h_z9, hF⟩ := bindT_out hF
            refine e_callVv X (σ1 := z9) [.int ((kCode ((z4.1 78 8))))] [] (by rw [h_z9]; exact C_Law_addCode (Cx_gok X) z4.1 85 ((kCode ((z4.1 78 8)))) ok_Law_85) gv_X3_62 yk_X2_addCode rfl (ent_lt ok_Law_85.1) (ent_at ok_Law_85.1 _) (rfl : vCl[2]? = some (RX2, TX2, 6)) ⟨by dsimp only; omega, by dsimp only; omega⟩ ⟨Nat.le_of_ble_eq_true rfl, Nat.le_of_ble_eq_true rfl⟩ (Nat.le_of_ble_eq_true rfl) dX3_readsAtom_116 rfl ?_
            refine e_aload_n X dX3_readsAtom_119 rfl rfl ?_
            obtain ⟨z10, h_z10, hF⟩ := obind_out hF
            refine e_callUv X (σ1 := z10) [] [] (C_Text_advance (Cx_gok X) z9 78 ok_Text_78 h_z10) gu_X3_34_X3 rfl ykx_X7_advance rfl (ent_lt (rfl : entTbl[78]? = some (6, 0))) (ent_at (rfl : entTbl[78]? = some (6, 0)) _) (rfl : vCl[3]? = some (RX3, TX3, 14)) ⟨by dsimp only; omega, by dsimp only; omega⟩ ⟨Nat.le_of_ble_eq_true rfl, Nat.le_of_ble_eq_true rfl⟩ (Nat.le_of_ble_eq_true rfl) dX3_readsAtom_120 rfl ?_
            refine e_iconst X 1 dX3_readsAtom_123 rfl ?_
            exact e_zret X hr rfl dX3_readsAtom_124 (Nat.le_of_ble_eq_true rfl) (Nat.le_of_ble_eq_true rfl) (by cases hF; exact ⟨rfl, rfl⟩)
          · skip
            rw [if_neg c8] at hF
            refine e_aload_n X dX3_readsAtom_95 rfl rfl ?_
            refine ge_LTx_kind X wf_X3_18 dX3_readsAtom_96 ?_
            refine e_kstatic X 15 rfl rfl wf_X3_89 dX3_readsAtom_99 ?_
            refine e_kacmp_ne X 125 c6 rfl dX3_readsAtom_102 (by decide) (fun c11 => ?_) (fun c11 => ?_)
            · skip
              rw [if_neg c11] at hF
              refine e_aload_n X dX3_readsAtom_125 rfl rfl ?_
              obtain ⟨z12, h_z12, hF⟩ := obind_out hF
              refine e_callVi X (r := z12.2) (σ1 := z12.1) [] [] (C_LTx_readsSum (Cx_gok X) z4.1 h_z12) gv_X3_96 yk_X3_readsSum rfl (ent_lt (rfl : entTbl[78]? = some (6, 0))) (ent_at (rfl : entTbl[78]? = some (6, 0)) _) (rfl : vCl[3]? = some (RX3, TX3, 14)) ⟨by dsimp only; omega, by dsimp only; omega⟩ ⟨Nat.le_of_ble_eq_true rfl, Nat.le_of_ble_eq_true rfl⟩ (Nat.le_of_ble_eq_true rfl) dX3_readsAtom_126 rfl ?_
              refine e_if_ne X 134 dX3_readsAtom_129 (by decide) (fun c13 => ?_) (fun c13 => ?_)
              · skip
                rw [if_neg c13] at hF
                refine e_aload_n X dX3_readsAtom_134 rfl rfl ?_
                refine ge_LTx_kind X wf_X3_18 dX3_readsAtom_135 ?_
                refine e_rastore_n X dX3_readsAtom_138 rfl (by decide) ?_
                refine e_raload_n X dX3_readsAtom_139 rfl rfl ?_
                refine e_kstatic X 25 rfl rfl wf_X3_99 dX3_readsAtom_140 ?_
                obtain ⟨c14, hF⟩ := chk_out hF
                refine e_kacmp_eq X 158 c14 rfl dX3_readsAtom_143 (by decide) (fun c15 => ?_) (fun c15 => ?_)
                · skip
                  rw [if_pos c15] at hF
                  refine e_aload_n X dX3_readsAtom_158 rfl rfl ?_
                  obtain ⟨z16, h_z16, hF⟩ := obind_out hF
                  refine e_callUv X (σ1 := z16) [] [] (C_Text_advance (Cx_gok X) z12.1 78 ok_Text_78 h_z16) gu_X3_34_X3 rfl ykx_X7_advance rfl (ent_lt (rfl : entTbl[78]? = some (6, 0))) (ent_at (rfl : entTbl[78]? = some (6, 0)) _) (rfl : vCl[3]? = some (RX3, TX3, 14)) ⟨by dsimp only; omega, by dsimp only; omega⟩ ⟨Nat.le_of_ble_eq_true rfl, Nat.le_of_ble_eq_true rfl⟩ (Nat.le_of_ble_eq_true rfl) dX3_readsAtom_159 rfl ?_
                  refine e_aload_n X dX3_readsAtom_162 rfl rfl ?_
                  obtain ⟨z17, h_z17, hF⟩ := obind_out hF
                  refine e_callVi X (r := z17.2) (σ1 := z17.1) [] [] (C_LTx_readsSum (Cx_gok X) z16 h_z17) gv_X3_96 yk_X3_readsSum rfl (ent_lt (rfl : entTbl[78]? = some (6, 0))) (ent_at (rfl : entTbl[78]? = some (6, 0)) _) (rfl : vCl[3]? = some (RX3, TX3, 14)) ⟨by dsimp only; omega, by dsimp only; omega⟩ ⟨Nat.le_of_ble_eq_true rfl, Nat.le_of_ble_eq_true rfl⟩ (Nat.le_of_ble_eq_true rfl) dX3_readsAtom_163 rfl ?_
                  refine e_istore_n X rfl dX3_readsAtom_166 rfl (by decide) ?_
                  refine e_aload_n X dX3_readsAtom_167 rfl rfl ?_
                  refine ge_LTx_draft X wf_X3_12 dX3_readsAtom_168 ?_
                  refine e_raload_n X dX3_readsAtom_171 rfl rfl ?_
                  refine kst_code X c14 wf_X3_92 dX3_readsAtom_172 ?_
                  obtain ⟨z18, h_z18, hF⟩ := bindT_out hF
                  refine e_callVv X (σ1 := z18) [.int ((kCode ((z12.1 78 8))))] [] (by rw [h_z18]; exact C_Law_addCode (Cx_gok X) z17.1 85 ((kCode ((z12.1 78 8)))) ok_Law_85) gv_X3_62 yk_X2_addCode rfl (ent_lt ok_Law_85.1) (ent_at ok_Law_85.1 _) (rfl : vCl[2]? = some (RX2, TX2, 6)) ⟨by dsimp only; omega, by dsimp only; omega⟩ ⟨Nat.le_of_ble_eq_true rfl, Nat.le_of_ble_eq_true rfl⟩ (Nat.le_of_ble_eq_true rfl) dX3_readsAtom_175 rfl ?_
                  refine e_iload_n X dX3_readsAtom_178 rfl rfl ?_
                  exact e_zret X hr rfl dX3_readsAtom_179 (Nat.le_of_ble_eq_true rfl) (Nat.le_of_ble_eq_true rfl) (by cases hF; exact ⟨rfl, rfl⟩)
                · skip
                  rw [if_neg c15] at hF
                  refine e_raload_n X dX3_readsAtom_146 rfl rfl ?_
                  refine e_kstatic X 26 rfl rfl wf_X3_102 dX3_readsAtom_147 ?_
                  refine e_kacmp_eq X 158 c14 rfl dX3_readsAtom_150 (by decide) (fun c19 => ?_) (fun c19 => ?_)
                  · skip
                    rw [if_pos c19] at hF
                    refine e_aload_n X dX3_readsAtom_158 rfl rfl ?_
                    obtain ⟨z20, h_z20, hF⟩ := obind_out hF
                    refine e_callUv X (σ1 := z20) [] [] (C_Text_advance (Cx_gok X) z12.1 78 ok_Text_78 h_z20) gu_X3_34_X3 rfl ykx_X7_advance rfl (ent_lt (rfl : entTbl[78]? = some (6, 0))) (ent_at (rfl : entTbl[78]? = some (6, 0)) _) (rfl : vCl[3]? = some (RX3, TX3, 14)) ⟨by dsimp only; omega, by dsimp only; omega⟩ ⟨Nat.le_of_ble_eq_true rfl, Nat.le_of_ble_eq_true rfl⟩ (Nat.le_of_ble_eq_true rfl) dX3_readsAtom_159 rfl ?_
                    refine e_aload_n X dX3_readsAtom_162 rfl rfl ?_
                    obtain ⟨z21, h_z21, hF⟩ := obind_out hF
                    refine e_callVi X (r := z21.2) (σ1 := z21.1) [] [] (C_LTx_readsSum (Cx_gok X) z20 h_z21) gv_X3_96 yk_X3_readsSum rfl (ent_lt (rfl : entTbl[78]? = some (6, 0))) (ent_at (rfl : entTbl[78]? = some (6, 0)) _) (rfl : vCl[3]? = some (RX3, TX3, 14)) ⟨by dsimp only; omega, by dsimp only; omega⟩ ⟨Nat.le_of_ble_eq_true rfl, Nat.le_of_ble_eq_true rfl⟩ (Nat.le_of_ble_eq_true rfl) dX3_readsAtom_163 rfl ?_
                    refine e_istore_n X rfl dX3_readsAtom_166 rfl (by decide) ?_
                    refine e_aload_n X dX3_readsAtom_167 rfl rfl ?_
                    refine ge_LTx_draft X wf_X3_12 dX3_readsAtom_168 ?_
                    refine e_raload_n X dX3_readsAtom_171 rfl rfl ?_
                    refine kst_code X c14 wf_X3_92 dX3_readsAtom_172 ?_
                    obtain ⟨z22, h_z22, hF⟩ := bindT_out hF
                    refine e_callVv X (σ1 := z22) [.int ((kCode ((z12.1 78 8))))] [] (by rw [h_z22]; exact C_Law_addCode (Cx_gok X) z21.1 85 ((kCode ((z12.1 78 8)))) ok_Law_85) gv_X3_62 yk_X2_addCode rfl (ent_lt ok_Law_85.1) (ent_at ok_Law_85.1 _) (rfl : vCl[2]? = some (RX2, TX2, 6)) ⟨by dsimp only; omega, by dsimp only; omega⟩ ⟨Nat.le_of_ble_eq_true rfl, Nat.le_of_ble_eq_true rfl⟩ (Nat.le_of_ble_eq_true rfl) dX3_readsAtom_175 rfl ?_
                    refine e_iload_n X dX3_readsAtom_178 rfl rfl ?_
                    exact e_zret X hr rfl dX3_readsAtom_179 (Nat.le_of_ble_eq_true rfl) (Nat.le_of_ble_eq_true rfl) (by cases hF; exact ⟨rfl, rfl⟩)
                  · skip
                    rw [if_neg c19] at hF
                    refine e_aload_n X dX3_readsAtom_153 rfl rfl ?_
                    obtain ⟨z23, h_z23, hF⟩ := bindT_out hF
                    refine e_callUi X (r := z23.2) (σ1 := z23.1) [] [] (by rw [h_z23]; exact C_Text_refuse (Cx_gok X) z12.1 78 ok_Text_78) gu_X3_30_X3 rfl ykx_X7_refuse rfl (ent_lt (rfl : entTbl[78]? = some (6, 0))) (ent_at (rfl : entTbl[78]? = some (6, 0)) _) (rfl : vCl[3]? = some (RX3, TX3, 14)) ⟨by dsimp only; omega, by dsimp only; omega⟩ ⟨Nat.le_of_ble_eq_true rfl, Nat.le_of_ble_eq_true rfl⟩ (Nat.le_of_ble_eq_true rfl) dX3_readsAtom_154 rfl ?_
                    exact e_zret X hr rfl dX3_readsAtom_157 (Nat.le_of_ble_eq_true rfl) (Nat.le_of_ble_eq_true rfl) (by cases hF; exact ⟨rfl, rfl⟩)
              · skip
                rw [if_pos c13] at hF
                refine e_iconst X 0 dX3_readsAtom_132 rfl ?_
                exact e_zret X hr rfl dX3_readsAtom_133 (Nat.le_of_ble_eq_true rfl) (Nat.le_of_ble_eq_true rfl) (by cases hF; exact ⟨rfl, rfl⟩)
            · skip
              rw [if_pos c11] at hF
              refine e_aload_n X dX3_readsAtom_105 rfl rfl ?_
              refine ge_LTx_draft X wf_X3_12 dX3_readsAtom_106 ?_
              refine e_aload_n X dX3_readsAtom_109 rfl rfl ?_
              refine ge_LTx_kind X wf_X3_18 dX3_readsAtom_110 ?_
              refine kst_code X c6 wf_X3_92 dX3_readsAtom_113 ?_
              obtain ⟨z24, h_z24, hF⟩ := bindT_out hF
              refine e_callVv X (σ1 := z24) [.int ((kCode ((z4.1 78 8))))] [] (by rw [h_z24]; exact C_Law_addCode (Cx_gok X) z4.1 85 ((kCode ((z4.1 78 8)))) ok_Law_85) gv_X3_62 yk_X2_addCode rfl (ent_lt ok_Law_85.1) (ent_at ok_Law_85.1 _) (rfl : vCl[2]? = some (RX2, TX2, 6)) ⟨by dsimp only; omega, by dsimp only; omega⟩ ⟨Nat.le_of_ble_eq_true rfl, Nat.le_of_ble_eq_true rfl⟩ (Nat.le_of_ble_eq_true rfl) dX3_readsAtom_116 rfl ?_
              refine e_aload_n X dX3_readsAtom_119 rfl rfl ?_
              obtain ⟨z25, h_z25, hF⟩ := obind_out hF
              refine e_callUv X (σ1 := z25) [] [] (C_Text_advance (Cx_gok X) z24 78 ok_Text_78 h_z25) gu_X3_34_X3 rfl ykx_X7_advance rfl (ent_lt (rfl : entTbl[78]? = some (6, 0))) (ent_at (rfl : entTbl[78]? = some (6, 0)) _) (rfl : vCl[3]? = some (RX3, TX3, 14)) ⟨by dsimp only; omega, by dsimp only; omega⟩ ⟨Nat.le_of_ble_eq_true rfl, Nat.le_of_ble_eq_true rfl⟩ (Nat.le_of_ble_eq_true rfl) dX3_readsAtom_120 rfl ?_
              refine e_iconst X 1 dX3_readsAtom_123 rfl ?_
              exact e_zret X hr rfl dX3_readsAtom_124 (Nat.le_of_ble_eq_true rfl) (Nat.le_of_ble_eq_true rfl) (by cases hF; exact ⟨rfl, rfl⟩)
        · skip
          rw [if_pos c7] at hF
          refine e_aload_n X dX3_readsAtom_77 rfl rfl ?_
          refine e_iload_n X dX3_readsAtom_78 rfl rfl ?_
          refine e_iconst X 1 dX3_readsAtom_79 rfl ?_
          refine e_iadd X dX3_readsAtom_80 ?_
          obtain ⟨z26, h_z26, hF⟩ := obind_out hF
          refine e_callVi X (r := z26.2) (σ1 := z26.1) [.int ((v1 + 1))] [] (C_LTx_readsNot_g (Cx_gok X) rc hrc z4.1 ((v1 + 1)) h_z26) gv_X3_83 yk_X3_readsNot rfl (ent_lt (rfl : entTbl[78]? = some (6, 0))) (ent_at (rfl : entTbl[78]? = some (6, 0)) _) (rfl : vCl[3]? = some (RX3, TX3, 14)) ⟨by dsimp only; omega, by dsimp only; omega⟩ ⟨Nat.le_of_ble_eq_true rfl, Nat.le_of_ble_eq_true rfl⟩ (Nat.le_of_ble_eq_true rfl) dX3_readsAtom_81 rfl ?_
          exact e_zret X hr rfl dX3_readsAtom_84 (Nat.le_of_ble_eq_true rfl) (Nat.le_of_ble_eq_true rfl) (by cases hF; exact ⟨rfl, rfl⟩)
      · skip
        rw [if_neg c5] at hF
        refine e_aload_n X dX3_readsAtom_41 rfl rfl ?_
        refine e_iload_n X dX3_readsAtom_42 rfl rfl ?_
        refine e_iconst X 1 dX3_readsAtom_43 rfl ?_
        refine e_iadd X dX3_readsAtom_44 ?_
        obtain ⟨z27, h_z27, hF⟩ := obind_out hF
        refine e_callVi X (r := z27.2) (σ1 := z27.1) [.int ((v1 + 1))] [] (C_LTx_readsEither_g (Cx_gok X) rc hrc z4.1 ((v1 + 1)) h_z27) gv_X3_48 yk_X3_readsEither rfl (ent_lt (rfl : entTbl[78]? = some (6, 0))) (ent_at (rfl : entTbl[78]? = some (6, 0)) _) (rfl : vCl[3]? = some (RX3, TX3, 14)) ⟨by dsimp only; omega, by dsimp only; omega⟩ ⟨Nat.le_of_ble_eq_true rfl, Nat.le_of_ble_eq_true rfl⟩ (Nat.le_of_ble_eq_true rfl) dX3_readsAtom_45 rfl ?_
        refine e_if_eq X 65 dX3_readsAtom_48 (by decide) (fun c28 => ?_) (fun c28 => ?_)
        · skip
          rw [if_pos c28] at hF
          refine e_iconst X 0 dX3_readsAtom_65 rfl ?_
          exact e_zret X hr rfl dX3_readsAtom_66 (Nat.le_of_ble_eq_true rfl) (Nat.le_of_ble_eq_true rfl) (by cases hF; exact ⟨rfl, rfl⟩)
        · skip
          rw [if_neg c28] at hF
          refine e_aload_n X dX3_readsAtom_51 rfl rfl ?_
          refine e_kstatic X 24 rfl rfl wf_X3_77 dX3_readsAtom_52 ?_
          obtain ⟨z29, h_z29, hF⟩ := obind_out hF
          refine e_callUi X (r := z29.2) (σ1 := z29.1) [va_rf (kop Γ 24)] [] (C_Text_needs (Cx_gok X) z27.1 78 24 ok_Text_78 h_z29) gu_X3_80_X3 rfl ykx_X7_needs rfl (ent_lt (rfl : entTbl[78]? = some (6, 0))) (ent_at (rfl : entTbl[78]? = some (6, 0)) _) (rfl : vCl[3]? = some (RX3, TX3, 14)) ⟨by dsimp only; omega, by dsimp only; omega⟩ ⟨Nat.le_of_ble_eq_true rfl, Nat.le_of_ble_eq_true rfl⟩ (Nat.le_of_ble_eq_true rfl) dX3_readsAtom_55 rfl ?_
          refine e_if_eq X 65 dX3_readsAtom_58 (by decide) (fun c30 => ?_) (fun c30 => ?_)
          · skip
            rw [if_pos c30] at hF
            refine e_iconst X 0 dX3_readsAtom_65 rfl ?_
            exact e_zret X hr rfl dX3_readsAtom_66 (Nat.le_of_ble_eq_true rfl) (Nat.le_of_ble_eq_true rfl) (by cases hF; exact ⟨rfl, rfl⟩)
          · skip
            rw [if_neg c30] at hF
            refine e_iconst X 1 dX3_readsAtom_61 rfl ?_
            refine e_goto X 66 dX3_readsAtom_62 (by decide) ?_
            exact e_zret X hr rfl dX3_readsAtom_66 (Nat.le_of_ble_eq_true rfl) (Nat.le_of_ble_eq_true rfl) (by cases hF; exact ⟨rfl, rfl⟩)
    · skip
      rw [if_neg c3] at hF
      refine e_aload_n X dX3_readsAtom_26 rfl rfl ?_
      obtain ⟨z31, h_z31, hF⟩ := bindT_out hF
      refine e_callUi X (r := z31.2) (σ1 := z31.1) [] [] (by rw [h_z31]; exact C_Text_refuse (Cx_gok X) σ 78 ok_Text_78) gu_X3_30_X3 rfl ykx_X7_refuse rfl (ent_lt (rfl : entTbl[78]? = some (6, 0))) (ent_at (rfl : entTbl[78]? = some (6, 0)) _) (rfl : vCl[3]? = some (RX3, TX3, 14)) ⟨by dsimp only; omega, by dsimp only; omega⟩ ⟨Nat.le_of_ble_eq_true rfl, Nat.le_of_ble_eq_true rfl⟩ (Nat.le_of_ble_eq_true rfl) dX3_readsAtom_27 rfl ?_
      exact e_zret X hr rfl dX3_readsAtom_30 (Nat.le_of_ble_eq_true rfl) (Nat.le_of_ble_eq_true rfl) (by cases hF; exact ⟨rfl, rfl⟩)
  · skip
    rw [if_neg c2] at hF
    refine e_aload_n X dX3_readsAtom_10 rfl rfl ?_
    refine ge_LTx_kind X wf_X3_18 dX3_readsAtom_11 ?_
    refine e_kstatic X 23 rfl rfl wf_X3_74 dX3_readsAtom_14 ?_
    refine e_kacmp_ne X 31 c1 rfl dX3_readsAtom_17 (by decide) (fun c32 => ?_) (fun c32 => ?_)
    · skip
      rw [if_neg c32] at hF
      refine e_aload_n X dX3_readsAtom_31 rfl rfl ?_
      refine e_kstatic X 23 rfl rfl wf_X3_74 dX3_readsAtom_32 ?_
      obtain ⟨z33, h_z33, hF⟩ := obind_out hF
      refine e_callUi X (r := z33.2) (σ1 := z33.1) [va_rf (kop Γ 23)] [] (C_Text_takes (Cx_gok X) σ 78 23 ok_Text_78 h_z33) gu_X3_44_X3 rfl ykx_X7_takes rfl (ent_lt (rfl : entTbl[78]? = some (6, 0))) (ent_at (rfl : entTbl[78]? = some (6, 0)) _) (rfl : vCl[3]? = some (RX3, TX3, 14)) ⟨by dsimp only; omega, by dsimp only; omega⟩ ⟨Nat.le_of_ble_eq_true rfl, Nat.le_of_ble_eq_true rfl⟩ (Nat.le_of_ble_eq_true rfl) dX3_readsAtom_35 rfl ?_
      refine e_if_eq X 67 dX3_readsAtom_38 (by decide) (fun c34 => ?_) (fun c34 => ?_)
      · skip
        rw [if_pos c34] at hF
        refine e_aload_n X dX3_readsAtom_67 rfl rfl ?_
        refine ge_LTx_kind X wf_X3_18 dX3_readsAtom_68 ?_
        refine e_kstatic X 13 rfl rfl wf_X3_71 dX3_readsAtom_71 ?_
        obtain ⟨c35, hF⟩ := chk_out hF
        refine e_kacmp_ne X 85 c35 rfl dX3_readsAtom_74 (by decide) (fun c36 => ?_) (fun c36 => ?_)
        · skip
          rw [if_neg c36] at hF
          refine e_aload_n X dX3_readsAtom_85 rfl rfl ?_
          refine ge_LTx_kind X wf_X3_18 dX3_readsAtom_86 ?_
          refine e_kstatic X 14 rfl rfl wf_X3_86 dX3_readsAtom_89 ?_
          refine e_kacmp_eq X 105 c35 rfl dX3_readsAtom_92 (by decide) (fun c37 => ?_) (fun c37 => ?_)
          · skip
            rw [if_pos c37] at hF
            refine e_aload_n X dX3_readsAtom_105 rfl rfl ?_
            refine ge_LTx_draft X wf_X3_12 dX3_readsAtom_106 ?_
            refine e_aload_n X dX3_readsAtom_109 rfl rfl ?_
            refine ge_LTx_kind X wf_X3_18 dX3_readsAtom_110 ?_
            refine kst_code X c35 wf_X3_92 dX3_readsAtom_113 ?_
            obtain ⟨z38, h_z38, hF⟩ := bindT_out hF
            refine e_callVv X (σ1 := z38) [.int ((kCode ((z33.1 78 8))))] [] (by rw [h_z38]; exact C_Law_addCode (Cx_gok X) z33.1 85 ((kCode ((z33.1 78 8)))) ok_Law_85) gv_X3_62 yk_X2_addCode rfl (ent_lt ok_Law_85.1) (ent_at ok_Law_85.1 _) (rfl : vCl[2]? = some (RX2, TX2, 6)) ⟨by dsimp only; omega, by dsimp only; omega⟩ ⟨Nat.le_of_ble_eq_true rfl, Nat.le_of_ble_eq_true rfl⟩ (Nat.le_of_ble_eq_true rfl) dX3_readsAtom_116 rfl ?_
            refine e_aload_n X dX3_readsAtom_119 rfl rfl ?_
            obtain ⟨z39, h_z39, hF⟩ := obind_out hF
            refine e_callUv X (σ1 := z39) [] [] (C_Text_advance (Cx_gok X) z38 78 ok_Text_78 h_z39) gu_X3_34_X3 rfl ykx_X7_advance rfl (ent_lt (rfl : entTbl[78]? = some (6, 0))) (ent_at (rfl : entTbl[78]? = some (6, 0)) _) (rfl : vCl[3]? = some (RX3, TX3, 14)) ⟨by dsimp only; omega, by dsimp only; omega⟩ ⟨Nat.le_of_ble_eq_true rfl, Nat.le_of_ble_eq_true rfl⟩ (Nat.le_of_ble_eq_true rfl) dX3_readsAtom_120 rfl ?_
            refine e_iconst X 1 dX3_readsAtom_123 rfl ?_
            exact e_zret X hr rfl dX3_readsAtom_124 (Nat.le_of_ble_eq_true rfl) (Nat.le_of_ble_eq_true rfl) (by cases hF; exact ⟨rfl, rfl⟩)
          · skip
            rw [if_neg c37] at hF
            refine e_aload_n X dX3_readsAtom_95 rfl rfl ?_
            refine ge_LTx_kind X wf_X3_18 dX3_readsAtom_96 ?_
            refine e_kstatic X 15 rfl rfl wf_X3_89 dX3_readsAtom_99 ?_
            refine e_kacmp_ne X 125 c35 rfl dX3_readsAtom_102 (by decide) (fun c40 => ?_) (fun c40 => ?_)
            · skip
              rw [if_neg c40] at hF
              refine e_aload_n X dX3_readsAtom_125 rfl rfl ?_
              obtain ⟨z41, h_z41, hF⟩ := obind_out hF
              refine e_callVi X (r := z41.2) (σ1 := z41.1) [] [] (C_LTx_readsSum (Cx_gok X) z33.1 h_z41) gv_X3_96 yk_X3_readsSum rfl (ent_lt (rfl : entTbl[78]? = some (6, 0))) (ent_at (rfl : entTbl[78]? = some (6, 0)) _) (rfl : vCl[3]? = some (RX3, TX3, 14)) ⟨by dsimp only; omega, by dsimp only; omega⟩ ⟨Nat.le_of_ble_eq_true rfl, Nat.le_of_ble_eq_true rfl⟩ (Nat.le_of_ble_eq_true rfl) dX3_readsAtom_126 rfl ?_
              refine e_if_ne X 134 dX3_readsAtom_129 (by decide) (fun c42 => ?_) (fun c42 => ?_)
              · skip
                rw [if_neg c42] at hF
                refine e_aload_n X dX3_readsAtom_134 rfl rfl ?_
                refine ge_LTx_kind X wf_X3_18 dX3_readsAtom_135 ?_
                refine e_rastore_n X dX3_readsAtom_138 rfl (by decide) ?_
                refine e_raload_n X dX3_readsAtom_139 rfl rfl ?_
                refine e_kstatic X 25 rfl rfl wf_X3_99 dX3_readsAtom_140 ?_
                obtain ⟨c43, hF⟩ := chk_out hF
                refine e_kacmp_eq X 158 c43 rfl dX3_readsAtom_143 (by decide) (fun c44 => ?_) (fun c44 => ?_)
                · skip
                  rw [if_pos c44] at hF
                  refine e_aload_n X dX3_readsAtom_158 rfl rfl ?_
                  obtain ⟨z45, h_z45, hF⟩ := obind_out hF
                  refine e_callUv X (σ1 := z45) [] [] (C_Text_advance (Cx_gok X) z41.1 78 ok_Text_78 h_z45) gu_X3_34_X3 rfl ykx_X7_advance rfl (ent_lt (rfl : entTbl[78]? = some (6, 0))) (ent_at (rfl : entTbl[78]? = some (6, 0)) _) (rfl : vCl[3]? = some (RX3, TX3, 14)) ⟨by dsimp only; omega, by dsimp only; omega⟩ ⟨Nat.le_of_ble_eq_true rfl, Nat.le_of_ble_eq_true rfl⟩ (Nat.le_of_ble_eq_true rfl) dX3_readsAtom_159 rfl ?_
                  refine e_aload_n X dX3_readsAtom_162 rfl rfl ?_
                  obtain ⟨z46, h_z46, hF⟩ := obind_out hF
                  refine e_callVi X (r := z46.2) (σ1 := z46.1) [] [] (C_LTx_readsSum (Cx_gok X) z45 h_z46) gv_X3_96 yk_X3_readsSum rfl (ent_lt (rfl : entTbl[78]? = some (6, 0))) (ent_at (rfl : entTbl[78]? = some (6, 0)) _) (rfl : vCl[3]? = some (RX3, TX3, 14)) ⟨by dsimp only; omega, by dsimp only; omega⟩ ⟨Nat.le_of_ble_eq_true rfl, Nat.le_of_ble_eq_true rfl⟩ (Nat.le_of_ble_eq_true rfl) dX3_readsAtom_163 rfl ?_
                  refine e_istore_n X rfl dX3_readsAtom_166 rfl (by decide) ?_
                  refine e_aload_n X dX3_readsAtom_167 rfl rfl ?_
                  refine ge_LTx_draft X wf_X3_12 dX3_readsAtom_168 ?_
                  refine e_raload_n X dX3_readsAtom_171 rfl rfl ?_
                  refine kst_code X c43 wf_X3_92 dX3_readsAtom_172 ?_
                  obtain ⟨z47, h_z47, hF⟩ := bindT_out hF
                  refine e_callVv X (σ1 := z47) [.int ((kCode ((z41.1 78 8))))] [] (by rw [h_z47]; exact C_Law_addCode (Cx_gok X) z46.1 85 ((kCode ((z41.1 78 8)))) ok_Law_85) gv_X3_62 yk_X2_addCode rfl (ent_lt ok_Law_85.1) (ent_at ok_Law_85.1 _) (rfl : vCl[2]? = some (RX2, TX2, 6)) ⟨by dsimp only; omega, by dsimp only; omega⟩ ⟨Nat.le_of_ble_eq_true rfl, Nat.le_of_ble_eq_true rfl⟩ (Nat.le_of_ble_eq_true rfl) dX3_readsAtom_175 rfl ?_
                  refine e_iload_n X dX3_readsAtom_178 rfl rfl ?_
                  exact e_zret X hr rfl dX3_readsAtom_179 (Nat.le_of_ble_eq_true rfl) (Nat.le_of_ble_eq_true rfl) (by cases hF; exact ⟨rfl, rfl⟩)
                · skip
                  rw [if_neg c44] at hF
                  refine e_raload_n X dX3_readsAtom_146 rfl rfl ?_
                  refine e_kstatic X 26 rfl rfl wf_X3_102 dX3_readsAtom_147 ?_
                  refine e_kacmp_eq X 158 c43 rfl dX3_readsAtom_150 (by decide) (fun c48 => ?_) (fun c48 => ?_)
                  · skip
                    rw [if_pos c48] at hF
                    refine e_aload_n X dX3_readsAtom_158 rfl rfl ?_
                    obtain ⟨z49, h_z49, hF⟩ := obind_out hF
                    refine e_callUv X (σ1 := z49) [] [] (C_Text_advance (Cx_gok X) z41.1 78 ok_Text_78 h_z49) gu_X3_34_X3 rfl ykx_X7_advance rfl (ent_lt (rfl : entTbl[78]? = some (6, 0))) (ent_at (rfl : entTbl[78]? = some (6, 0)) _) (rfl : vCl[3]? = some (RX3, TX3, 14)) ⟨by dsimp only; omega, by dsimp only; omega⟩ ⟨Nat.le_of_ble_eq_true rfl, Nat.le_of_ble_eq_true rfl⟩ (Nat.le_of_ble_eq_true rfl) dX3_readsAtom_159 rfl ?_
                    refine e_aload_n X dX3_readsAtom_162 rfl rfl ?_
                    obtain ⟨z50, h_z50, hF⟩ := obind_out hF
                    refine e_callVi X (r := z50.2) (σ1 := z50.1) [] [] (C_LTx_readsSum (Cx_gok X) z49 h_z50) gv_X3_96 yk_X3_readsSum rfl (ent_lt (rfl : entTbl[78]? = some (6, 0))) (ent_at (rfl : entTbl[78]? = some (6, 0)) _) (rfl : vCl[3]? = some (RX3, TX3, 14)) ⟨by dsimp only; omega, by dsimp only; omega⟩ ⟨Nat.le_of_ble_eq_true rfl, Nat.le_of_ble_eq_true rfl⟩ (Nat.le_of_ble_eq_true rfl) dX3_readsAtom_163 rfl ?_
                    refine e_istore_n X rfl dX3_readsAtom_166 rfl (by decide) ?_
                    refine e_aload_n X dX3_readsAtom_167 rfl rfl ?_
                    refine ge_LTx_draft X wf_X3_12 dX3_readsAtom_168 ?_
                    refine e_raload_n X dX3_readsAtom_171 rfl rfl ?_
                    refine kst_code X c43 wf_X3_92 dX3_readsAtom_172 ?_
                    obtain ⟨z51, h_z51, hF⟩ := bindT_out hF
                    refine e_callVv X (σ1 := z51) [.int ((kCode ((z41.1 78 8))))] [] (by rw [h_z51]; exact C_Law_addCode (Cx_gok X) z50.1 85 ((kCode ((z41.1 78 8)))) ok_Law_85) gv_X3_62 yk_X2_addCode rfl (ent_lt ok_Law_85.1) (ent_at ok_Law_85.1 _) (rfl : vCl[2]? = some (RX2, TX2, 6)) ⟨by dsimp only; omega, by dsimp only; omega⟩ ⟨Nat.le_of_ble_eq_true rfl, Nat.le_of_ble_eq_true rfl⟩ (Nat.le_of_ble_eq_true rfl) dX3_readsAtom_175 rfl ?_
                    refine e_iload_n X dX3_readsAtom_178 rfl rfl ?_
                    exact e_zret X hr rfl dX3_readsAtom_179 (Nat.le_of_ble_eq_true rfl) (Nat.le_of_ble_eq_true rfl) (by cases hF; exact ⟨rfl, rfl⟩)
                  · skip
                    rw [if_neg c48] at hF
                    refine e_aload_n X dX3_readsAtom_153 rfl rfl ?_
                    obtain ⟨z52, h_z52, hF⟩ := bindT_out hF
                    refine e_callUi X (r := z52.2) (σ1 := z52.1) [] [] (by rw [h_z52]; exact C_Text_refuse (Cx_gok X) z41.1 78 ok_Text_78) gu_X3_30_X3 rfl ykx_X7_refuse rfl (ent_lt (rfl : entTbl[78]? = some (6, 0))) (ent_at (rfl : entTbl[78]? = some (6, 0)) _) (rfl : vCl[3]? = some (RX3, TX3, 14)) ⟨by dsimp only; omega, by dsimp only; omega⟩ ⟨Nat.le_of_ble_eq_true rfl, Nat.le_of_ble_eq_true rfl⟩ (Nat.le_of_ble_eq_true rfl) dX3_readsAtom_154 rfl ?_
                    exact e_zret X hr rfl dX3_readsAtom_157 (Nat.le_of_ble_eq_true rfl) (Nat.le_of_ble_eq_true rfl) (by cases hF; exact ⟨rfl, rfl⟩)
              · skip
                rw [if_pos c42] at hF
                refine e_iconst X 0 dX3_readsAtom_132 rfl ?_
                exact e_zret X hr rfl dX3_readsAtom_133 (Nat.le_of_ble_eq_true rfl) (Nat.le_of_ble_eq_true rfl) (by cases hF; exact ⟨rfl, rfl⟩)
            · skip
              rw [if_pos c40] at hF
              refine e_aload_n X dX3_readsAtom_105 rfl rfl ?_
              refine ge_LTx_draft X wf_X3_12 dX3_readsAtom_106 ?_
              refine e_aload_n X dX3_readsAtom_109 rfl rfl ?_
              refine ge_LTx_kind X wf_X3_18 dX3_readsAtom_110 ?_
              refine kst_code X c35 wf_X3_92 dX3_readsAtom_113 ?_
              obtain ⟨z53, h_z53, hF⟩ := bindT_out hF
              refine e_callVv X (σ1 := z53) [.int ((kCode ((z33.1 78 8))))] [] (by rw [h_z53]; exact C_Law_addCode (Cx_gok X) z33.1 85 ((kCode ((z33.1 78 8)))) ok_Law_85) gv_X3_62 yk_X2_addCode rfl (ent_lt ok_Law_85.1) (ent_at ok_Law_85.1 _) (rfl : vCl[2]? = some (RX2, TX2, 6)) ⟨by dsimp only; omega, by dsimp only; omega⟩ ⟨Nat.le_of_ble_eq_true rfl, Nat.le_of_ble_eq_true rfl⟩ (Nat.le_of_ble_eq_true rfl) dX3_readsAtom_116 rfl ?_
              refine e_aload_n X dX3_readsAtom_119 rfl rfl ?_
              obtain ⟨z54, h_z54, hF⟩ := obind_out hF
              refine e_callUv X (σ1 := z54) [] [] (C_Text_advance (Cx_gok X) z53 78 ok_Text_78 h_z54) gu_X3_34_X3 rfl ykx_X7_advance rfl (ent_lt (rfl : entTbl[78]? = some (6, 0))) (ent_at (rfl : entTbl[78]? = some (6, 0)) _) (rfl : vCl[3]? = some (RX3, TX3, 14)) ⟨by dsimp only; omega, by dsimp only; omega⟩ ⟨Nat.le_of_ble_eq_true rfl, Nat.le_of_ble_eq_true rfl⟩ (Nat.le_of_ble_eq_true rfl) dX3_readsAtom_120 rfl ?_
              refine e_iconst X 1 dX3_readsAtom_123 rfl ?_
              exact e_zret X hr rfl dX3_readsAtom_124 (Nat.le_of_ble_eq_true rfl) (Nat.le_of_ble_eq_true rfl) (by cases hF; exact ⟨rfl, rfl⟩)
        · skip
          rw [if_pos c36] at hF
          refine e_aload_n X dX3_readsAtom_77 rfl rfl ?_
          refine e_iload_n X dX3_readsAtom_78 rfl rfl ?_
          refine e_iconst X 1 dX3_readsAtom_79 rfl ?_
          refine e_iadd X dX3_readsAtom_80 ?_
          obtain ⟨z55, h_z55, hF⟩ := obind_out hF
          refine e_callVi X (r := z55.2) (σ1 := z55.1) [.int ((v1 + 1))] [] (C_LTx_readsNot_g (Cx_gok X) rc hrc z33.1 ((v1 + 1)) h_z55) gv_X3_83 yk_X3_readsNot rfl (ent_lt (rfl : entTbl[78]? = some (6, 0))) (ent_at (rfl : entTbl[78]? = some (6, 0)) _) (rfl : vCl[3]? = some (RX3, TX3, 14)) ⟨by dsimp only; omega, by dsimp only; omega⟩ ⟨Nat.le_of_ble_eq_true rfl, Nat.le_of_ble_eq_true rfl⟩ (Nat.le_of_ble_eq_true rfl) dX3_readsAtom_81 rfl ?_
          exact e_zret X hr rfl dX3_readsAtom_84 (Nat.le_of_ble_eq_true rfl) (Nat.le_of_ble_eq_true rfl) (by cases hF; exact ⟨rfl, rfl⟩)
      · skip
        rw [if_neg c34] at hF
        refine e_aload_n X dX3_readsAtom_41 rfl rfl ?_
        refine e_iload_n X dX3_readsAtom_42 rfl rfl ?_
        refine e_iconst X 1 dX3_readsAtom_43 rfl ?_
        refine e_iadd X dX3_readsAtom_44 ?_
        obtain ⟨z56, h_z56, hF⟩ := obind_out hF
        refine e_callVi X (r := z56.2) (σ1 := z56.1) [.int ((v1 + 1))] [] (C_LTx_readsEither_g (Cx_gok X) rc hrc z33.1 ((v1 + 1)) h_z56) gv_X3_48 yk_X3_readsEither rfl (ent_lt (rfl : entTbl[78]? = some (6, 0))) (ent_at (rfl : entTbl[78]? = some (6, 0)) _) (rfl : vCl[3]? = some (RX3, TX3, 14)) ⟨by dsimp only; omega, by dsimp only; omega⟩ ⟨Nat.le_of_ble_eq_true rfl, Nat.le_of_ble_eq_true rfl⟩ (Nat.le_of_ble_eq_true rfl) dX3_readsAtom_45 rfl ?_
        refine e_if_eq X 65 dX3_readsAtom_48 (by decide) (fun c57 => ?_) (fun c57 => ?_)
        · skip
          rw [if_pos c57] at hF
          refine e_iconst X 0 dX3_readsAtom_65 rfl ?_
          exact e_zret X hr rfl dX3_readsAtom_66 (Nat.le_of_ble_eq_true rfl) (Nat.le_of_ble_eq_true rfl) (by cases hF; exact ⟨rfl, rfl⟩)
        · skip
          rw [if_neg c57] at hF
          refine e_aload_n X dX3_readsAtom_51 rfl rfl ?_
          refine e_kstatic X 24 rfl rfl wf_X3_77 dX3_readsAtom_52 ?_
          obtain ⟨z58, h_z58, hF⟩ := obind_out hF
          refine e_callUi X (r := z58.2) (σ1 := z58.1) [va_rf (kop Γ 24)] [] (C_Text_needs (Cx_gok X) z56.1 78 24 ok_Text_78 h_z58) gu_X3_80_X3 rfl ykx_X7_needs rfl (ent_lt (rfl : entTbl[78]? = some (6, 0))) (ent_at (rfl : entTbl[78]? = some (6, 0)) _) (rfl : vCl[3]? = some (RX3, TX3, 14)) ⟨by dsimp only; omega, by dsimp only; omega⟩ ⟨Nat.le_of_ble_eq_true rfl, Nat.le_of_ble_eq_true rfl⟩ (Nat.le_of_ble_eq_true rfl) dX3_readsAtom_55 rfl ?_
          refine e_if_eq X 65 dX3_readsAtom_58 (by decide) (fun c59 => ?_) (fun c59 => ?_)
          · skip
            rw [if_pos c59] at hF
            refine e_iconst X 0 dX3_readsAtom_65 rfl ?_
            exact e_zret X hr rfl dX3_readsAtom_66 (Nat.le_of_ble_eq_true rfl) (Nat.le_of_ble_eq_true rfl) (by cases hF; exact ⟨rfl, rfl⟩)
          · skip
            rw [if_neg c59] at hF
            refine e_iconst X 1 dX3_readsAtom_61 rfl ?_
            refine e_goto X 66 dX3_readsAtom_62 (by decide) ?_
            exact e_zret X hr rfl dX3_readsAtom_66 (Nat.le_of_ble_eq_true rfl) (Nat.le_of_ble_eq_true rfl) (by cases hF; exact ⟨rfl, rfl⟩)
    · skip
      rw [if_pos c32] at hF
      refine e_iload_n X dX3_readsAtom_20 rfl rfl ?_
      refine e_bipush X 6 dX3_readsAtom_21 rfl ?_
      refine e_icmp_lt X 31 dX3_readsAtom_23 (by decide) (fun c60 => ?_) (fun c60 => ?_)
      · skip
        rw [if_pos c60] at hF
        refine e_aload_n X dX3_readsAtom_31 rfl rfl ?_
        refine e_kstatic X 23 rfl rfl wf_X3_74 dX3_readsAtom_32 ?_
        obtain ⟨z61, h_z61, hF⟩ := obind_out hF
        refine e_callUi X (r := z61.2) (σ1 := z61.1) [va_rf (kop Γ 23)] [] (C_Text_takes (Cx_gok X) σ 78 23 ok_Text_78 h_z61) gu_X3_44_X3 rfl ykx_X7_takes rfl (ent_lt (rfl : entTbl[78]? = some (6, 0))) (ent_at (rfl : entTbl[78]? = some (6, 0)) _) (rfl : vCl[3]? = some (RX3, TX3, 14)) ⟨by dsimp only; omega, by dsimp only; omega⟩ ⟨Nat.le_of_ble_eq_true rfl, Nat.le_of_ble_eq_true rfl⟩ (Nat.le_of_ble_eq_true rfl) dX3_readsAtom_35 rfl ?_
        refine e_if_eq X 67 dX3_readsAtom_38 (by decide) (fun c62 => ?_) (fun c62 => ?_)
        · skip
          rw [if_pos c62] at hF
          refine e_aload_n X dX3_readsAtom_67 rfl rfl ?_
          refine ge_LTx_kind X wf_X3_18 dX3_readsAtom_68 ?_
          refine e_kstatic X 13 rfl rfl wf_X3_71 dX3_readsAtom_71 ?_
          obtain ⟨c63, hF⟩ := chk_out hF
          refine e_kacmp_ne X 85 c63 rfl dX3_readsAtom_74 (by decide) (fun c64 => ?_) (fun c64 => ?_)
          · skip
            rw [if_neg c64] at hF
            refine e_aload_n X dX3_readsAtom_85 rfl rfl ?_
            refine ge_LTx_kind X wf_X3_18 dX3_readsAtom_86 ?_
            refine e_kstatic X 14 rfl rfl wf_X3_86 dX3_readsAtom_89 ?_
            refine e_kacmp_eq X 105 c63 rfl dX3_readsAtom_92 (by decide) (fun c65 => ?_) (fun c65 => ?_)
            · skip
              rw [if_pos c65] at hF
              refine e_aload_n X dX3_readsAtom_105 rfl rfl ?_
              refine ge_LTx_draft X wf_X3_12 dX3_readsAtom_106 ?_
              refine e_aload_n X dX3_readsAtom_109 rfl rfl ?_
              refine ge_LTx_kind X wf_X3_18 dX3_readsAtom_110 ?_
              refine kst_code X c63 wf_X3_92 dX3_readsAtom_113 ?_
              obtain ⟨z66, h_z66, hF⟩ := bindT_out hF
              refine e_callVv X (σ1 := z66) [.int ((kCode ((z61.1 78 8))))] [] (by rw [h_z66]; exact C_Law_addCode (Cx_gok X) z61.1 85 ((kCode ((z61.1 78 8)))) ok_Law_85) gv_X3_62 yk_X2_addCode rfl (ent_lt ok_Law_85.1) (ent_at ok_Law_85.1 _) (rfl : vCl[2]? = some (RX2, TX2, 6)) ⟨by dsimp only; omega, by dsimp only; omega⟩ ⟨Nat.le_of_ble_eq_true rfl, Nat.le_of_ble_eq_true rfl⟩ (Nat.le_of_ble_eq_true rfl) dX3_readsAtom_116 rfl ?_
              refine e_aload_n X dX3_readsAtom_119 rfl rfl ?_
              obtain ⟨z67, h_z67, hF⟩ := obind_out hF
              refine e_callUv X (σ1 := z67) [] [] (C_Text_advance (Cx_gok X) z66 78 ok_Text_78 h_z67) gu_X3_34_X3 rfl ykx_X7_advance rfl (ent_lt (rfl : entTbl[78]? = some (6, 0))) (ent_at (rfl : entTbl[78]? = some (6, 0)) _) (rfl : vCl[3]? = some (RX3, TX3, 14)) ⟨by dsimp only; omega, by dsimp only; omega⟩ ⟨Nat.le_of_ble_eq_true rfl, Nat.le_of_ble_eq_true rfl⟩ (Nat.le_of_ble_eq_true rfl) dX3_readsAtom_120 rfl ?_
              refine e_iconst X 1 dX3_readsAtom_123 rfl ?_
              exact e_zret X hr rfl dX3_readsAtom_124 (Nat.le_of_ble_eq_true rfl) (Nat.le_of_ble_eq_true rfl) (by cases hF; exact ⟨rfl, rfl⟩)
            · skip
              rw [if_neg c65] at hF
              refine e_aload_n X dX3_readsAtom_95 rfl rfl ?_
              refine ge_LTx_kind X wf_X3_18 dX3_readsAtom_96 ?_
              refine e_kstatic X 15 rfl rfl wf_X3_89 dX3_readsAtom_99 ?_
              refine e_kacmp_ne X 125 c63 rfl dX3_readsAtom_102 (by decide) (fun c68 => ?_) (fun c68 => ?_)
              · skip
                rw [if_neg c68] at hF
                refine e_aload_n X dX3_readsAtom_125 rfl rfl ?_
                obtain ⟨z69, h_z69, hF⟩ := obind_out hF
                refine e_callVi X (r := z69.2) (σ1 := z69.1) [] [] (C_LTx_readsSum (Cx_gok X) z61.1 h_z69) gv_X3_96 yk_X3_readsSum rfl (ent_lt (rfl : entTbl[78]? = some (6, 0))) (ent_at (rfl : entTbl[78]? = some (6, 0)) _) (rfl : vCl[3]? = some (RX3, TX3, 14)) ⟨by dsimp only; omega, by dsimp only; omega⟩ ⟨Nat.le_of_ble_eq_true rfl, Nat.le_of_ble_eq_true rfl⟩ (Nat.le_of_ble_eq_true rfl) dX3_readsAtom_126 rfl ?_
                refine e_if_ne X 134 dX3_readsAtom_129 (by decide) (fun c70 => ?_) (fun c70 => ?_)
                · skip
                  rw [if_neg c70] at hF
                  refine e_aload_n X dX3_readsAtom_134 rfl rfl ?_
                  refine ge_LTx_kind X wf_X3_18 dX3_readsAtom_135 ?_
                  refine e_rastore_n X dX3_readsAtom_138 rfl (by decide) ?_
                  refine e_raload_n X dX3_readsAtom_139 rfl rfl ?_
                  refine e_kstatic X 25 rfl rfl wf_X3_99 dX3_readsAtom_140 ?_
                  obtain ⟨c71, hF⟩ := chk_out hF
                  refine e_kacmp_eq X 158 c71 rfl dX3_readsAtom_143 (by decide) (fun c72 => ?_) (fun c72 => ?_)
                  · skip
                    rw [if_pos c72] at hF
                    refine e_aload_n X dX3_readsAtom_158 rfl rfl ?_
                    obtain ⟨z73, h_z73, hF⟩ := obind_out hF
                    refine e_callUv X (σ1 := z73) [] [] (C_Text_advance (Cx_gok X) z69.1 78 ok_Text_78 h_z73) gu_X3_34_X3 rfl ykx_X7_advance rfl (ent_lt (rfl : entTbl[78]? = some (6, 0))) (ent_at (rfl : entTbl[78]? = some (6, 0)) _) (rfl : vCl[3]? = some (RX3, TX3, 14)) ⟨by dsimp only; omega, by dsimp only; omega⟩ ⟨Nat.le_of_ble_eq_true rfl, Nat.le_of_ble_eq_true rfl⟩ (Nat.le_of_ble_eq_true rfl) dX3_readsAtom_159 rfl ?_
                    refine e_aload_n X dX3_readsAtom_162 rfl rfl ?_
                    obtain ⟨z74, h_z74, hF⟩ := obind_out hF
                    refine e_callVi X (r := z74.2) (σ1 := z74.1) [] [] (C_LTx_readsSum (Cx_gok X) z73 h_z74) gv_X3_96 yk_X3_readsSum rfl (ent_lt (rfl : entTbl[78]? = some (6, 0))) (ent_at (rfl : entTbl[78]? = some (6, 0)) _) (rfl : vCl[3]? = some (RX3, TX3, 14)) ⟨by dsimp only; omega, by dsimp only; omega⟩ ⟨Nat.le_of_ble_eq_true rfl, Nat.le_of_ble_eq_true rfl⟩ (Nat.le_of_ble_eq_true rfl) dX3_readsAtom_163 rfl ?_
                    refine e_istore_n X rfl dX3_readsAtom_166 rfl (by decide) ?_
                    refine e_aload_n X dX3_readsAtom_167 rfl rfl ?_
                    refine ge_LTx_draft X wf_X3_12 dX3_readsAtom_168 ?_
                    refine e_raload_n X dX3_readsAtom_171 rfl rfl ?_
                    refine kst_code X c71 wf_X3_92 dX3_readsAtom_172 ?_
                    obtain ⟨z75, h_z75, hF⟩ := bindT_out hF
                    refine e_callVv X (σ1 := z75) [.int ((kCode ((z69.1 78 8))))] [] (by rw [h_z75]; exact C_Law_addCode (Cx_gok X) z74.1 85 ((kCode ((z69.1 78 8)))) ok_Law_85) gv_X3_62 yk_X2_addCode rfl (ent_lt ok_Law_85.1) (ent_at ok_Law_85.1 _) (rfl : vCl[2]? = some (RX2, TX2, 6)) ⟨by dsimp only; omega, by dsimp only; omega⟩ ⟨Nat.le_of_ble_eq_true rfl, Nat.le_of_ble_eq_true rfl⟩ (Nat.le_of_ble_eq_true rfl) dX3_readsAtom_175 rfl ?_
                    refine e_iload_n X dX3_readsAtom_178 rfl rfl ?_
                    exact e_zret X hr rfl dX3_readsAtom_179 (Nat.le_of_ble_eq_true rfl) (Nat.le_of_ble_eq_true rfl) (by cases hF; exact ⟨rfl, rfl⟩)
                  · skip
                    rw [if_neg c72] at hF
                    refine e_raload_n X dX3_readsAtom_146 rfl rfl ?_
                    refine e_kstatic X 26 rfl rfl wf_X3_102 dX3_readsAtom_147 ?_
                    refine e_kacmp_eq X 158 c71 rfl dX3_readsAtom_150 (by decide) (fun c76 => ?_) (fun c76 => ?_)
                    · skip
                      rw [if_pos c76] at hF
                      refine e_aload_n X dX3_readsAtom_158 rfl rfl ?_
                      obtain ⟨z77, h_z77, hF⟩ := obind_out hF
                      refine e_callUv X (σ1 := z77) [] [] (C_Text_advance (Cx_gok X) z69.1 78 ok_Text_78 h_z77) gu_X3_34_X3 rfl ykx_X7_advance rfl (ent_lt (rfl : entTbl[78]? = some (6, 0))) (ent_at (rfl : entTbl[78]? = some (6, 0)) _) (rfl : vCl[3]? = some (RX3, TX3, 14)) ⟨by dsimp only; omega, by dsimp only; omega⟩ ⟨Nat.le_of_ble_eq_true rfl, Nat.le_of_ble_eq_true rfl⟩ (Nat.le_of_ble_eq_true rfl) dX3_readsAtom_159 rfl ?_
                      refine e_aload_n X dX3_readsAtom_162 rfl rfl ?_
                      obtain ⟨z78, h_z78, hF⟩ := obind_out hF
                      refine e_callVi X (r := z78.2) (σ1 := z78.1) [] [] (C_LTx_readsSum (Cx_gok X) z77 h_z78) gv_X3_96 yk_X3_readsSum rfl (ent_lt (rfl : entTbl[78]? = some (6, 0))) (ent_at (rfl : entTbl[78]? = some (6, 0)) _) (rfl : vCl[3]? = some (RX3, TX3, 14)) ⟨by dsimp only; omega, by dsimp only; omega⟩ ⟨Nat.le_of_ble_eq_true rfl, Nat.le_of_ble_eq_true rfl⟩ (Nat.le_of_ble_eq_true rfl) dX3_readsAtom_163 rfl ?_
                      refine e_istore_n X rfl dX3_readsAtom_166 rfl (by decide) ?_
                      refine e_aload_n X dX3_readsAtom_167 rfl rfl ?_
                      refine ge_LTx_draft X wf_X3_12 dX3_readsAtom_168 ?_
                      refine e_raload_n X dX3_readsAtom_171 rfl rfl ?_
                      refine kst_code X c71 wf_X3_92 dX3_readsAtom_172 ?_
                      obtain ⟨z79, h_z79, hF⟩ := bindT_out hF
                      refine e_callVv X (σ1 := z79) [.int ((kCode ((z69.1 78 8))))] [] (by rw [h_z79]; exact C_Law_addCode (Cx_gok X) z78.1 85 ((kCode ((z69.1 78 8)))) ok_Law_85) gv_X3_62 yk_X2_addCode rfl (ent_lt ok_Law_85.1) (ent_at ok_Law_85.1 _) (rfl : vCl[2]? = some (RX2, TX2, 6)) ⟨by dsimp only; omega, by dsimp only; omega⟩ ⟨Nat.le_of_ble_eq_true rfl, Nat.le_of_ble_eq_true rfl⟩ (Nat.le_of_ble_eq_true rfl) dX3_readsAtom_175 rfl ?_
                      refine e_iload_n X dX3_readsAtom_178 rfl rfl ?_
                      exact e_zret X hr rfl dX3_readsAtom_179 (Nat.le_of_ble_eq_true rfl) (Nat.le_of_ble_eq_true rfl) (by cases hF; exact ⟨rfl, rfl⟩)
                    · skip
                      rw [if_neg c76] at hF
                      refine e_aload_n X dX3_readsAtom_153 rfl rfl ?_
                      obtain ⟨z80, h_z80, hF⟩ := bindT_out hF
                      refine e_callUi X (r := z80.2) (σ1 := z80.1) [] [] (by rw [h_z80]; exact C_Text_refuse (Cx_gok X) z69.1 78 ok_Text_78) gu_X3_30_X3 rfl ykx_X7_refuse rfl (ent_lt (rfl : entTbl[78]? = some (6, 0))) (ent_at (rfl : entTbl[78]? = some (6, 0)) _) (rfl : vCl[3]? = some (RX3, TX3, 14)) ⟨by dsimp only; omega, by dsimp only; omega⟩ ⟨Nat.le_of_ble_eq_true rfl, Nat.le_of_ble_eq_true rfl⟩ (Nat.le_of_ble_eq_true rfl) dX3_readsAtom_154 rfl ?_
                      exact e_zret X hr rfl dX3_readsAtom_157 (Nat.le_of_ble_eq_true rfl) (Nat.le_of_ble_eq_true rfl) (by cases hF; exact ⟨rfl, rfl⟩)
                · skip
                  rw [if_pos c70] at hF
                  refine e_iconst X 0 dX3_readsAtom_132 rfl ?_
                  exact e_zret X hr rfl dX3_readsAtom_133 (Nat.le_of_ble_eq_true rfl) (Nat.le_of_ble_eq_true rfl) (by cases hF; exact ⟨rfl, rfl⟩)
              · skip
                rw [if_pos c68] at hF
                refine e_aload_n X dX3_readsAtom_105 rfl rfl ?_
                refine ge_LTx_draft X wf_X3_12 dX3_readsAtom_106 ?_
                refine e_aload_n X dX3_readsAtom_109 rfl rfl ?_
                refine ge_LTx_kind X wf_X3_18 dX3_readsAtom_110 ?_
                refine kst_code X c63 wf_X3_92 dX3_readsAtom_113 ?_
                obtain ⟨z81, h_z81, hF⟩ := bindT_out hF
                refine e_callVv X (σ1 := z81) [.int ((kCode ((z61.1 78 8))))] [] (by rw [h_z81]; exact C_Law_addCode (Cx_gok X) z61.1 85 ((kCode ((z61.1 78 8)))) ok_Law_85) gv_X3_62 yk_X2_addCode rfl (ent_lt ok_Law_85.1) (ent_at ok_Law_85.1 _) (rfl : vCl[2]? = some (RX2, TX2, 6)) ⟨by dsimp only; omega, by dsimp only; omega⟩ ⟨Nat.le_of_ble_eq_true rfl, Nat.le_of_ble_eq_true rfl⟩ (Nat.le_of_ble_eq_true rfl) dX3_readsAtom_116 rfl ?_
                refine e_aload_n X dX3_readsAtom_119 rfl rfl ?_
                obtain ⟨z82, h_z82, hF⟩ := obind_out hF
                refine e_callUv X (σ1 := z82) [] [] (C_Text_advance (Cx_gok X) z81 78 ok_Text_78 h_z82) gu_X3_34_X3 rfl ykx_X7_advance rfl (ent_lt (rfl : entTbl[78]? = some (6, 0))) (ent_at (rfl : entTbl[78]? = some (6, 0)) _) (rfl : vCl[3]? = some (RX3, TX3, 14)) ⟨by dsimp only; omega, by dsimp only; omega⟩ ⟨Nat.le_of_ble_eq_true rfl, Nat.le_of_ble_eq_true rfl⟩ (Nat.le_of_ble_eq_true rfl) dX3_readsAtom_120 rfl ?_
                refine e_iconst X 1 dX3_readsAtom_123 rfl ?_
                exact e_zret X hr rfl dX3_readsAtom_124 (Nat.le_of_ble_eq_true rfl) (Nat.le_of_ble_eq_true rfl) (by cases hF; exact ⟨rfl, rfl⟩)
          · skip
            rw [if_pos c64] at hF
            refine e_aload_n X dX3_readsAtom_77 rfl rfl ?_
            refine e_iload_n X dX3_readsAtom_78 rfl rfl ?_
            refine e_iconst X 1 dX3_readsAtom_79 rfl ?_
            refine e_iadd X dX3_readsAtom_80 ?_
            obtain ⟨z83, h_z83, hF⟩ := obind_out hF
            refine e_callVi X (r := z83.2) (σ1 := z83.1) [.int ((v1 + 1))] [] (C_LTx_readsNot_g (Cx_gok X) rc hrc z61.1 ((v1 + 1)) h_z83) gv_X3_83 yk_X3_readsNot rfl (ent_lt (rfl : entTbl[78]? = some (6, 0))) (ent_at (rfl : entTbl[78]? = some (6, 0)) _) (rfl : vCl[3]? = some (RX3, TX3, 14)) ⟨by dsimp only; omega, by dsimp only; omega⟩ ⟨Nat.le_of_ble_eq_true rfl, Nat.le_of_ble_eq_true rfl⟩ (Nat.le_of_ble_eq_true rfl) dX3_readsAtom_81 rfl ?_
            exact e_zret X hr rfl dX3_readsAtom_84 (Nat.le_of_ble_eq_true rfl) (Nat.le_of_ble_eq_true rfl) (by cases hF; exact ⟨rfl, rfl⟩)
        · skip
          rw [if_neg c62] at hF
          refine e_aload_n X dX3_readsAtom_41 rfl rfl ?_
          refine e_iload_n X dX3_readsAtom_42 rfl rfl ?_
          refine e_iconst X 1 dX3_readsAtom_43 rfl ?_
          refine e_iadd X dX3_readsAtom_44 ?_
          obtain ⟨z84, h_z84, hF⟩ := obind_out hF
          refine e_callVi X (r := z84.2) (σ1 := z84.1) [.int ((v1 + 1))] [] (C_LTx_readsEither_g (Cx_gok X) rc hrc z61.1 ((v1 + 1)) h_z84) gv_X3_48 yk_X3_readsEither rfl (ent_lt (rfl : entTbl[78]? = some (6, 0))) (ent_at (rfl : entTbl[78]? = some (6, 0)) _) (rfl : vCl[3]? = some (RX3, TX3, 14)) ⟨by dsimp only; omega, by dsimp only; omega⟩ ⟨Nat.le_of_ble_eq_true rfl, Nat.le_of_ble_eq_true rfl⟩ (Nat.le_of_ble_eq_true rfl) dX3_readsAtom_45 rfl ?_
          refine e_if_eq X 65 dX3_readsAtom_48 (by decide) (fun c85 => ?_) (fun c85 => ?_)
          · skip
            rw [if_pos c85] at hF
            refine e_iconst X 0 dX3_readsAtom_65 rfl ?_
            exact e_zret X hr rfl dX3_readsAtom_66 (Nat.le_of_ble_eq_true rfl) (Nat.le_of_ble_eq_true rfl) (by cases hF; exact ⟨rfl, rfl⟩)
          · skip
            rw [if_neg c85] at hF
            refine e_aload_n X dX3_readsAtom_51 rfl rfl ?_
            refine e_kstatic X 24 rfl rfl wf_X3_77 dX3_readsAtom_52 ?_
            obtain ⟨z86, h_z86, hF⟩ := obind_out hF
            refine e_callUi X (r := z86.2) (σ1 := z86.1) [va_rf (kop Γ 24)] [] (C_Text_needs (Cx_gok X) z84.1 78 24 ok_Text_78 h_z86) gu_X3_80_X3 rfl ykx_X7_needs rfl (ent_lt (rfl : entTbl[78]? = some (6, 0))) (ent_at (rfl : entTbl[78]? = some (6, 0)) _) (rfl : vCl[3]? = some (RX3, TX3, 14)) ⟨by dsimp only; omega, by dsimp only; omega⟩ ⟨Nat.le_of_ble_eq_true rfl, Nat.le_of_ble_eq_true rfl⟩ (Nat.le_of_ble_eq_true rfl) dX3_readsAtom_55 rfl ?_
            refine e_if_eq X 65 dX3_readsAtom_58 (by decide) (fun c87 => ?_) (fun c87 => ?_)
            · skip
              rw [if_pos c87] at hF
              refine e_iconst X 0 dX3_readsAtom_65 rfl ?_
              exact e_zret X hr rfl dX3_readsAtom_66 (Nat.le_of_ble_eq_true rfl) (Nat.le_of_ble_eq_true rfl) (by cases hF; exact ⟨rfl, rfl⟩)
            · skip
              rw [if_neg c87] at hF
              refine e_iconst X 1 dX3_readsAtom_61 rfl ?_
              refine e_goto X 66 dX3_readsAtom_62 (by decide) ?_
              exact e_zret X hr rfl dX3_readsAtom_66 (Nat.le_of_ble_eq_true rfl) (Nat.le_of_ble_eq_true rfl) (by cases hF; exact ⟨rfl, rfl⟩)
      · skip
        rw [if_neg c60] at hF
        refine e_aload_n X dX3_readsAtom_26 rfl rfl ?_
        obtain ⟨z88, h_z88, hF⟩ := bindT_out hF
        refine e_callUi X (r := z88.2) (σ1 := z88.1) [] [] (by rw [h_z88]; exact C_Text_refuse (Cx_gok X) σ 78 ok_Text_78) gu_X3_30_X3 rfl ykx_X7_refuse rfl (ent_lt (rfl : entTbl[78]? = some (6, 0))) (ent_at (rfl : entTbl[78]? = some (6, 0)) _) (rfl : vCl[3]? = some (RX3, TX3, 14)) ⟨by dsimp only; omega, by dsimp only; omega⟩ ⟨Nat.le_of_ble_eq_true rfl, Nat.le_of_ble_eq_true rfl⟩ (Nat.le_of_ble_eq_true rfl) dX3_readsAtom_27 rfl ?_
        exact e_zret X hr rfl dX3_readsAtom_30 (Nat.le_of_ble_eq_true rfl) (Nat.le_of_ble_eq_true rfl) (by cases hF; exact ⟨rfl, rfl⟩)
theorem C_LTx_readsAtom_d (hG : Gok l Γ D s0) : ∀ (d : Nat), ∀ (σ : Mem) (v1 : Int32)  {out : Mem × Int32}, F_LTx_readsAtom_d d σ v1 = some out → CT l Γ D s0 yX3_readsAtom cX3_readsAtom 4 (some .boolean) (4 * d) 0 0 (85 * d) σ [.ref (Γ.1 + 78), .int v1] (PI (some (.int out.2)) out.1)
  | 0 => fun _ _ _ h => by cases h
  | d + 1 => fun σ v1 _ h => C_LTx_readsAtom_g hG (F_LTx_readsAtom_d d) (C_LTx_readsAtom_d hG d) σ v1 h
theorem C_LTx_readsNot (hG : Gok l Γ D s0) (σ : Mem) (v1 : Int32)  {out : Mem × Int32} (hF : F_LTx_readsNot σ v1 = some out) : CT l Γ D s0 yX3_readsNot cX3_readsNot 3 (some .boolean) 33 0 0 703 σ [.ref (Γ.1 + 78), .int v1] (PI (some (.int out.2)) out.1) := by
  have h9 := C_LTx_readsNot_g hG (F_LTx_readsAtom_d 8) (C_LTx_readsAtom_d hG 8) σ v1 hF
  exact h9
theorem C_LTx_readsAll (hG : Gok l Γ D s0) (σ : Mem) (v1 : Int32)  {out : Mem × Int32} (hF : F_LTx_readsAll σ v1 = some out) : CT l Γ D s0 yX3_readsAll cX3_readsAll 3 (some .boolean) 34 0 0 721 σ [.ref (Γ.1 + 78), .int v1] (PI (some (.int out.2)) out.1) := by
  have h9 := C_LTx_readsAll_g hG (F_LTx_readsAtom_d 8) (C_LTx_readsAtom_d hG 8) σ v1 hF
  exact h9
theorem C_LTx_readsEither (hG : Gok l Γ D s0) (σ : Mem) (v1 : Int32)  {out : Mem × Int32} (hF : F_LTx_readsEither σ v1 = some out) : CT l Γ D s0 yX3_readsEither cX3_readsEither 3 (some .boolean) 35 0 0 743 σ [.ref (Γ.1 + 78), .int v1] (PI (some (.int out.2)) out.1) := by
  have h9 := C_LTx_readsEither_g hG (F_LTx_readsAtom_d 8) (C_LTx_readsAtom_d hG 8) σ v1 hF
  exact h9
theorem C_LTx_readsAtom (hG : Gok l Γ D s0) (σ : Mem) (v1 : Int32)  {out : Mem × Int32} (hF : F_LTx_readsAtom σ v1 = some out) : CT l Γ D s0 yX3_readsAtom cX3_readsAtom 4 (some .boolean) 36 0 0 765 σ [.ref (Γ.1 + 78), .int v1] (PI (some (.int out.2)) out.1) := by
  have h9 := C_LTx_readsAtom_g hG (F_LTx_readsAtom_d 8) (C_LTx_readsAtom_d hG 8) σ v1 hF
  exact h9
end PART

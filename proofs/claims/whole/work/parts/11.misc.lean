section PART
variable {p : Program} {l : Launch} {e : Env} {R : Room} {s : State} {m : MethodId} {args : Array Value} {below : List Frame} {meth : Method} {c : Code} {Γ : Gm} {D : va_G} {s0 : State} {cells slots : Nat} {Q : State → Prop} {own : String} {cc : ByteArray} {nL : Nat} {σ : Mem} {pc : Nat} {lv : List (Option Value)} {st : List Value} {Pst : Option Value → Mem → Prop}
def F_Int_bitCount_0f7a4 (σ : Mem) (v0 : Int32) : Int32 := bindT ((v0 - (((v0 : Int32).toUInt32 >>> ((1 : Int32).toUInt32 &&& Int32.toUInt32 31)).toInt32 &&& 1431655765))) fun x1 => bindT (((x1 &&& 858993459) + (((x1 : Int32).toUInt32 >>> ((2 : Int32).toUInt32 &&& Int32.toUInt32 31)).toInt32 &&& 858993459))) fun x2 => bindT (((x2 + ((x2 : Int32).toUInt32 >>> ((4 : Int32).toUInt32 &&& Int32.toUInt32 31)).toInt32) &&& 252645135)) fun x3 => bindT ((x3 + ((x3 : Int32).toUInt32 >>> ((8 : Int32).toUInt32 &&& Int32.toUInt32 31)).toInt32)) fun x4 => bindT ((x4 + ((x4 : Int32).toUInt32 >>> ((16 : Int32).toUInt32 &&& Int32.toUInt32 31)).toInt32)) fun x5 => (x5 &&& 63)
set_option maxRecDepth 20000 in
set_option maxHeartbeats 4000000 in
theorem C_Int_bitCount_0f7a4 (hG : Gok l Γ D s0) (σ : Mem) (v0 : Int32)  : CT l Γ D s0 yJ6_bitCount_0f7a4 cJ6_bitCount_0f7a4 1 (some .int) (0) 0 0 (0) σ [.int v0] (PI (some (.int (F_Int_bitCount_0f7a4 σ v0))) σ) := by
  generalize hF : F_Int_bitCount_0f7a4 σ v0 = out
  unfold F_Int_bitCount_0f7a4 at hF
  refine e_met (own := RJ6) hG (by decide +kernel) rfl rfl (Nat.le_of_ble_eq_true rfl) ?_
  intro p e s m args below meth c X hr
  show E p l e _ s m args below meth c Γ D 0 0 _ σ 0 [some (.int v0)] []
  refine e_iload_n X dJ6_bitCount_0f7a4_0 rfl rfl ?_
  refine e_iload_n X dJ6_bitCount_0f7a4_1 rfl rfl ?_
  refine e_iconst X 1 dJ6_bitCount_0f7a4_2 rfl ?_
  refine e_iushr X dJ6_bitCount_0f7a4_3 ?_
  refine e_ldcw X 1431655765 wk_J6_265 dJ6_bitCount_0f7a4_4 ?_
  refine e_iand X dJ6_bitCount_0f7a4_7 ?_
  refine e_isub X dJ6_bitCount_0f7a4_8 ?_
  obtain ⟨x1, h_x1, hF⟩ := bindT_out hF
  refine e_istore_n X h_x1 dJ6_bitCount_0f7a4_9 rfl (by decide) ?_
  refine e_iload_n X dJ6_bitCount_0f7a4_10 rfl rfl ?_
  refine e_ldcw X 858993459 wk_J6_266 dJ6_bitCount_0f7a4_11 ?_
  refine e_iand X dJ6_bitCount_0f7a4_14 ?_
  refine e_iload_n X dJ6_bitCount_0f7a4_15 rfl rfl ?_
  refine e_iconst X 2 dJ6_bitCount_0f7a4_16 rfl ?_
  refine e_iushr X dJ6_bitCount_0f7a4_17 ?_
  refine e_ldcw X 858993459 wk_J6_266 dJ6_bitCount_0f7a4_18 ?_
  refine e_iand X dJ6_bitCount_0f7a4_21 ?_
  refine e_iadd X dJ6_bitCount_0f7a4_22 ?_
  obtain ⟨x2, h_x2, hF⟩ := bindT_out hF
  refine e_istore_n X h_x2 dJ6_bitCount_0f7a4_23 rfl (by decide) ?_
  refine e_iload_n X dJ6_bitCount_0f7a4_24 rfl rfl ?_
  refine e_iload_n X dJ6_bitCount_0f7a4_25 rfl rfl ?_
  refine e_iconst X 4 dJ6_bitCount_0f7a4_26 rfl ?_
  refine e_iushr X dJ6_bitCount_0f7a4_27 ?_
  refine e_iadd X dJ6_bitCount_0f7a4_28 ?_
  refine e_ldcw X 252645135 wk_J6_267 dJ6_bitCount_0f7a4_29 ?_
  refine e_iand X dJ6_bitCount_0f7a4_32 ?_
  obtain ⟨x3, h_x3, hF⟩ := bindT_out hF
  refine e_istore_n X h_x3 dJ6_bitCount_0f7a4_33 rfl (by decide) ?_
  refine e_iload_n X dJ6_bitCount_0f7a4_34 rfl rfl ?_
  refine e_iload_n X dJ6_bitCount_0f7a4_35 rfl rfl ?_
  refine e_bipush X 8 dJ6_bitCount_0f7a4_36 rfl ?_
  refine e_iushr X dJ6_bitCount_0f7a4_38 ?_
  refine e_iadd X dJ6_bitCount_0f7a4_39 ?_
  obtain ⟨x4, h_x4, hF⟩ := bindT_out hF
  refine e_istore_n X h_x4 dJ6_bitCount_0f7a4_40 rfl (by decide) ?_
  refine e_iload_n X dJ6_bitCount_0f7a4_41 rfl rfl ?_
  refine e_iload_n X dJ6_bitCount_0f7a4_42 rfl rfl ?_
  refine e_bipush X 16 dJ6_bitCount_0f7a4_43 rfl ?_
  refine e_iushr X dJ6_bitCount_0f7a4_45 ?_
  refine e_iadd X dJ6_bitCount_0f7a4_46 ?_
  obtain ⟨x5, h_x5, hF⟩ := bindT_out hF
  refine e_istore_n X h_x5 dJ6_bitCount_0f7a4_47 rfl (by decide) ?_
  refine e_iload_n X dJ6_bitCount_0f7a4_48 rfl rfl ?_
  refine e_bipush X 63 dJ6_bitCount_0f7a4_49 rfl ?_
  refine e_iand X dJ6_bitCount_0f7a4_51 ?_
  exact e_iret X hr dJ6_bitCount_0f7a4_52 (Nat.le_of_ble_eq_true rfl) (Nat.le_of_ble_eq_true rfl) (by cases hF; exact ⟨rfl, rfl⟩)
end PART

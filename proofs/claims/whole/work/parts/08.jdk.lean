def sLen (i : Nat) : Int32 := Int32.ofNat (lenS.getD i 0)
def sCh (i k : Nat) : Int32 := (bytS.getD i []).getD k 0
theorem len_small : ∀ i, i < 29 → lenS.getD i 0 < 20 ∧ lenS.getD i 0 = (bytS.getD i []).length := by decide +kernel
theorem ch_ok : ∀ i, i < 29 → ∀ k, k < lenS.getD i 0 → (((bytS.getD i []).getD k 0 &&& 255).toUInt32 % 65536).toInt32 = (bytS.getD i []).getD k 0 ∧ narrow .char (.int ((bytS.getD i []).getD k 0)) = .int ((bytS.getD i []).getD k 0) := by
  intro i hi k hk
  have h9 : ∀ i, i < 29 → ∀ b ∈ bytS.getD i [], ((b &&& 255).toUInt32 % 65536).toInt32 = b ∧ b.toUInt32.toUInt16.toUInt32.toInt32 = b := by decide +kernel
  have h8 := len_small i hi
  have hm9 : ∀ bl : List Int32, k < bl.length → bl.getD k 0 ∈ bl := fun bl hl => by
    rw [List.getD_eq_getElem?_getD, List.getElem?_eq_getElem hl]
    exact List.getElem_mem hl
  have hm := hm9 (bytS.getD i []) (by omega)
  obtain ⟨h1, h2⟩ := h9 i hi _ hm
  exact ⟨h1, by show Value.int _ = _; rw [h2]⟩
section PART
variable {p : Program} {l : Launch} {e : Env} {R : Room} {s : State} {m : MethodId} {args : Array Value} {below : List Frame} {meth : Method} {c : Code} {Γ : Gm} {D : va_G} {s0 : State} {cells slots : Nat} {Q : State → Prop} {own : String} {cc : ByteArray} {nL : Nat} {σ : Mem} {pc : Nat} {lv : List (Option Value)} {st : List Value} {Pst : Option Value → Mem → Prop}

set_option maxRecDepth 20000 in
theorem C_Str_coder (hG : Gok l Γ D s0) (σ : Mem) (i : Nat) (hi : i < 29) : CT l Γ D s0 yJ0_coder_7d493 cJ0_coder_7d493 1 (some .byte) 0 0 0 0 σ [.ref (sad Γ i)] (PI (some (.int 0)) σ) := by
  refine e_met (own := RJ0) hG (by decide +kernel) rfl rfl (Nat.le_of_ble_eq_true rfl) ?_
  intro p e s m args below meth c X hr
  show E p l e _ s m args below meth c Γ D 0 0 _ σ 0 [some (.ref (sad Γ i))] []
  refine e_gets X (x_gst X).2.2.2.1.1 wf_J0_38 dJ0_coder_7d493_0 ?_
  refine e_if_eq X 13 dJ0_coder_7d493_3 (by decide) (fun h => absurd h (by decide)) (fun _ => ?_)
  refine e_aload_n X dJ0_coder_7d493_6 rfl rfl ?_
  refine e_getX X ((x_gst X).1 i hi).2.1 wf_J0_15 dJ0_coder_7d493_7 ?_
  refine e_goto X 14 dJ0_coder_7d493_10 (by decide) ?_
  exact e_nret X hr rfl dJ0_coder_7d493_14 (Nat.le_of_ble_eq_true rfl) (Nat.le_of_ble_eq_true rfl) ⟨rfl, rfl⟩
set_option maxRecDepth 20000 in
theorem C_Str_isLatin1 (hG : Gok l Γ D s0) (σ : Mem) (i : Nat) (hi : i < 29) : CT l Γ D s0 yJ0_isLatin1_aae02 cJ0_isLatin1_aae02 1 (some .boolean) 0 0 0 0 σ [.ref (sad Γ i)] (PI (some (.int 1)) σ) := by
  refine e_met (own := RJ0) hG (by decide +kernel) rfl rfl (Nat.le_of_ble_eq_true rfl) ?_
  intro p e s m args below meth c X hr
  show E p l e _ s m args below meth c Γ D 0 0 _ σ 0 [some (.ref (sad Γ i))] []
  refine e_gets X (x_gst X).2.2.2.1.1 wf_J0_38 dJ0_isLatin1_aae02_0 ?_
  refine e_if_eq X 17 dJ0_isLatin1_aae02_3 (by decide) (fun h => absurd h (by decide)) (fun _ => ?_)
  refine e_aload_n X dJ0_isLatin1_aae02_6 rfl rfl ?_
  refine e_getX X ((x_gst X).1 i hi).2.1 wf_J0_15 dJ0_isLatin1_aae02_7 ?_
  refine e_if_ne X 17 dJ0_isLatin1_aae02_10 (by decide) (fun h => absurd rfl h) (fun _ => ?_)
  refine e_iconst X 1 dJ0_isLatin1_aae02_13 rfl ?_
  refine e_goto X 18 dJ0_isLatin1_aae02_14 (by decide) ?_
  exact e_zret X hr rfl dJ0_isLatin1_aae02_18 (Nat.le_of_ble_eq_true rfl) (Nat.le_of_ble_eq_true rfl) ⟨rfl, rfl⟩
theorem shr0 (n : Nat) (h : n < 20) : (Int32.ofNat n) >>> ((0 : Int32) &&& 31) = Int32.ofNat n := by
  have h9 : ∀ n, n < 20 → (Int32.ofNat n) >>> ((0 : Int32) &&& 31) = Int32.ofNat n := by decide +kernel
  exact h9 n h
set_option maxRecDepth 20000 in
theorem C_Str_length (hG : Gok l Γ D s0) (σ : Mem) (i : Nat) (hi : i < 29) : CT l Γ D s0 yJ0_length_8abf5 cJ0_length_8abf5 1 (some .int) 1 0 0 20 σ [.ref (sad Γ i)] (PI (some (.int (sLen i))) σ) := by
  refine e_met (own := RJ0) hG (by decide +kernel) rfl rfl (Nat.le_of_ble_eq_true rfl) ?_
  intro p e s m args below meth c X hr
  show E p l e _ s m args below meth c Γ D 0 0 _ σ 0 [some (.ref (sad Γ i))] []
  refine e_aload_n X dJ0_length_8abf5_0 rfl rfl ?_
  refine e_getX X ((x_gst X).1 i hi).2.2.1 wf_J0_9 dJ0_length_8abf5_1 ?_
  refine e_tlen X (sLen i) ((x_gst X).1 i hi).2.2.2 rfl dJ0_length_8abf5_4 ?_
  refine e_aload_n X dJ0_length_8abf5_5 rfl rfl ?_
  refine e_callVCi X (r := 0) (σ1 := σ) [] [.int (sLen i)] (C_Str_coder (Cx_gok X) σ i hi) gv_J0_335 yk_J0_coder_7d493 rfl ((x_gst X).1 i hi).1 ⟨Nat.le_of_ble_eq_true rfl, Nat.le_of_ble_eq_true rfl⟩ ⟨Nat.le_of_ble_eq_true rfl, Nat.le_of_ble_eq_true rfl⟩ (Nat.le_of_ble_eq_true rfl) dJ0_length_8abf5_6 rfl ?_
  refine e_ishr X dJ0_length_8abf5_9 ?_
  exact e_iret X hr dJ0_length_8abf5_10 (Nat.le_of_ble_eq_true rfl) (Nat.le_of_ble_eq_true rfl) ⟨by unfold sLen; rw [shr0 _ (len_small i hi).1], rfl⟩
set_option maxRecDepth 20000 in
theorem C_Pre_checkIndex (hG : Gok l Γ D s0) (σ : Mem) (k n : Int32) (o : Option Nat) (h0 : ¬ k < 0) (h1 : k < n) : CT l Γ D s0 yJ3_checkIndex_8e157 cJ3_checkIndex_8e157 3 (some .int) 0 0 0 0 σ [.int k, .int n, va_rf o] (PI (some (.int k)) σ) := by
  refine e_met (own := RJ3) hG (by decide +kernel) rfl (by cases o <;> rfl) (Nat.le_of_ble_eq_true rfl) ?_
  intro p e s m args below meth c X hr
  show E p l e _ s m args below meth c Γ D 0 0 _ σ 0 [some (.int k), some (.int n), some (va_rf o)] []
  refine e_iload_n X dJ3_checkIndex_8e157_0 rfl rfl ?_
  refine e_if_lt X 9 dJ3_checkIndex_8e157_1 (by decide) (fun h => absurd h h0) (fun _ => ?_)
  refine e_iload_n X dJ3_checkIndex_8e157_4 rfl rfl ?_
  refine e_iload_n X dJ3_checkIndex_8e157_5 rfl rfl ?_
  refine e_icmp_lt X 16 dJ3_checkIndex_8e157_6 (by decide) (fun _ => ?_) (fun h => absurd h1 h)
  refine e_iload_n X dJ3_checkIndex_8e157_16 rfl rfl ?_
  exact e_iret X hr dJ3_checkIndex_8e157_17 (Nat.le_of_ble_eq_true rfl) (Nat.le_of_ble_eq_true rfl) ⟨rfl, rfl⟩
set_option maxRecDepth 20000 in
theorem C_Str_checkIndex (hG : Gok l Γ D s0) (σ : Mem) (k n : Int32) (h0 : ¬ k < 0) (h1 : k < n) : CT l Γ D s0 yJ0_checkIndex_df160 cJ0_checkIndex_df160 2 none 1 0 0 22 σ [.int k, .int n] (PI none σ) := by
  refine e_met (own := RJ0) hG (by decide +kernel) rfl rfl (Nat.le_of_ble_eq_true rfl) ?_
  intro p e s m args below meth c X hr
  show E p l e _ s m args below meth c Γ D 0 0 _ σ 0 [some (.int k), some (.int n)] []
  refine e_iload_n X dJ0_checkIndex_df160_0 rfl rfl ?_
  refine e_iload_n X dJ0_checkIndex_df160_1 rfl rfl ?_
  refine e_getsq X (x_gst X).2.2.2.1.2.1 wf_J0_1053 dJ0_checkIndex_df160_2 (fun o => ?_)
  refine e_callSOi X (r := k) (σ1 := σ) [.int k, .int n, va_rf o] [] (C_Pre_checkIndex (Cx_gok X) σ k n o h0 h1) gb_J3_checkIndex_8e157 wm_J0_1059 ws_J3_checkIndex_8e157 wz_J3 yk_J3_checkIndex_8e157.2 rfl ⟨Nat.le_of_ble_eq_true rfl, Nat.le_of_ble_eq_true rfl⟩ ⟨Nat.le_of_ble_eq_true rfl, Nat.le_of_ble_eq_true rfl⟩ (Nat.le_of_ble_eq_true rfl) dJ0_checkIndex_df160_5 rfl ?_
  refine e_pop X dJ0_checkIndex_df160_8 rfl ?_
  exact e_vret X hr dJ0_checkIndex_df160_9 (Nat.le_of_ble_eq_true rfl) (Nat.le_of_ble_eq_true rfl) ⟨rfl, rfl⟩
set_option maxRecDepth 20000 in
theorem C_Lat_charAt (hG : Gok l Γ D s0) (σ : Mem) (i : Nat) (k : Int32) (hi : i < 29) (hk : inb k (lenS.getD i 0) = true) : CT l Γ D s0 yJ1_charAt_3b067 cJ1_charAt_3b067 2 (some .char) 2 0 0 43 σ [.ref (svd Γ i), .int k] (PI (some (.int (sCh i k.toNatClampNeg))) σ) := by
  have hin := inb_in hk
  have h0 : ¬ k < 0 := fun q => hin (Or.inl q)
  have hlt : k.toNatClampNeg < lenS.getD i 0 := Nat.not_le.mp fun q => hin (Or.inr q)
  have hs := (len_small i hi).1
  have h1 : k < sLen i := by
    have := (vp_in_iff.mp hin).2
    unfold sLen
    rw [Int32.lt_iff_toInt_lt, nInt_ti (by omega)]
    exact this
  refine e_met (own := RJ1) hG (by decide +kernel) rfl rfl (Nat.le_of_ble_eq_true rfl) ?_
  intro p e s m args below meth c X hr
  show E p l e _ s m args below meth c Γ D 0 0 _ σ 0 [some (.ref (svd Γ i)), some (.int k)] []
  refine e_iload_n X dJ1_charAt_3b067_0 rfl rfl ?_
  refine e_aload_n X dJ1_charAt_3b067_1 rfl rfl ?_
  refine e_tlen X (sLen i) ((x_gst X).1 i hi).2.2.2 rfl dJ1_charAt_3b067_2 ?_
  refine e_callSOv X (σ1 := σ) [.int k, .int (sLen i)] [] (C_Str_checkIndex (Cx_gok X) σ k (sLen i) h0 h1) gb_J0_checkIndex_df160 wm_J1_9 ws_J0_checkIndex_df160 wz_J0 yk_J0_checkIndex_df160.2 rfl ⟨Nat.le_of_ble_eq_true rfl, Nat.le_of_ble_eq_true rfl⟩ ⟨Nat.le_of_ble_eq_true rfl, Nat.le_of_ble_eq_true rfl⟩ (Nat.le_of_ble_eq_true rfl) dJ1_charAt_3b067_3 rfl ?_
  refine e_aload_n X dJ1_charAt_3b067_6 rfl rfl ?_
  refine e_iload_n X dJ1_charAt_3b067_7 rfl rfl ?_
  refine e_tb X (.int (sCh i k.toNatClampNeg)) ((x_gst X).1 i hi).2.2.2 hin rfl dJ1_charAt_3b067_8 ?_
  refine e_sipush X 255 dJ1_charAt_3b067_9 rfl ?_
  refine e_iand X dJ1_charAt_3b067_12 ?_
  refine e_i2c X (sCh i k.toNatClampNeg) (ch_ok i hi _ hlt).1 dJ1_charAt_3b067_13 ?_
  exact e_nret X hr (ch_ok i hi _ hlt).2 dJ1_charAt_3b067_14 (Nat.le_of_ble_eq_true rfl) (Nat.le_of_ble_eq_true rfl) ⟨rfl, rfl⟩
set_option maxRecDepth 20000 in
theorem C_Str_charAt (hG : Gok l Γ D s0) (σ : Mem) (i : Nat) (k : Int32) (hi : i < 29) (hk : inb k (lenS.getD i 0) = true) : CT l Γ D s0 yJ0_charAt_5068e cJ0_charAt_5068e 2 (some .char) 3 0 0 64 σ [.ref (sad Γ i), .int k] (PI (some (.int (sCh i k.toNatClampNeg))) σ) := by
  have hlt : k.toNatClampNeg < lenS.getD i 0 := Nat.not_le.mp fun q => (inb_in hk) (Or.inr q)
  refine e_met (own := RJ0) hG (by decide +kernel) rfl rfl (Nat.le_of_ble_eq_true rfl) ?_
  intro p e s m args below meth c X hr
  show E p l e _ s m args below meth c Γ D 0 0 _ σ 0 [some (.ref (sad Γ i)), some (.int k)] []
  refine e_aload_n X dJ0_charAt_5068e_0 rfl rfl ?_
  refine e_callVCi X (r := 1) (σ1 := σ) [] [] (C_Str_isLatin1 (Cx_gok X) σ i hi) gv_J0_492 yk_J0_isLatin1_aae02 rfl ((x_gst X).1 i hi).1 ⟨Nat.le_of_ble_eq_true rfl, Nat.le_of_ble_eq_true rfl⟩ ⟨Nat.le_of_ble_eq_true rfl, Nat.le_of_ble_eq_true rfl⟩ (Nat.le_of_ble_eq_true rfl) dJ0_charAt_5068e_1 rfl ?_
  refine e_if_eq X 16 dJ0_charAt_5068e_4 (by decide) (fun h => absurd h (by decide)) (fun _ => ?_)
  refine e_aload_n X dJ0_charAt_5068e_7 rfl rfl ?_
  refine e_getX X ((x_gst X).1 i hi).2.2.1 wf_J0_9 dJ0_charAt_5068e_8 ?_
  refine e_iload_n X dJ0_charAt_5068e_11 rfl rfl ?_
  refine e_callSOi X (r := sCh i k.toNatClampNeg) (σ1 := σ) [.ref (svd Γ i), .int k] [] (C_Lat_charAt (Cx_gok X) σ i k hi hk) gb_J1_charAt_3b067 wm_J0_495 ws_J1_charAt_3b067 wz_J1 yk_J1_charAt_3b067.2 rfl ⟨Nat.le_of_ble_eq_true rfl, Nat.le_of_ble_eq_true rfl⟩ ⟨Nat.le_of_ble_eq_true rfl, Nat.le_of_ble_eq_true rfl⟩ (Nat.le_of_ble_eq_true rfl) dJ0_charAt_5068e_12 rfl ?_
  exact e_nret X hr (ch_ok i hi _ hlt).2 dJ0_charAt_5068e_15 (Nat.le_of_ble_eq_true rfl) (Nat.le_of_ble_eq_true rfl) ⟨rfl, rfl⟩
end PART

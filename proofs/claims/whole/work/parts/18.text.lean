section PART
variable {p : Program} {l : Launch} {e : Env} {R : Room} {s : State} {m : MethodId} {args : Array Value} {below : List Frame} {meth : Method} {c : Code} {Γ : Gm} {D : va_G} {s0 : State} {cells slots : Nat} {Q : State → Prop} {own : String} {cc : ByteArray} {nL : Nat} {σ : Mem} {pc : Nat} {lv : List (Option Value)} {st : List Value} {Pst : Option Value → Mem → Prop}
def F_Text_isLetter (σ : Mem) (v0 : Int32) : Int32 := (if v0 < 97 then 0 else (if 122 < v0 then 0 else 1))
def F_Text_isDigit (σ : Mem) (v0 : Int32) : Int32 := (if v0 < 48 then 0 else (if 57 < v0 then 0 else 1))
def F_Text_advance (σ : Mem) (t : Nat) : Option (Mem) := bindT (up σ t 7 (((σ t 7) + 1))) fun σ1 => bindT (up σ1 t 8 29) fun σ2 => bindT (up σ2 t 9 ((σ2 t 6))) fun σ3 => bindT (up σ3 t 10 ((σ3 t 6))) fun σ4 => bindT (up σ4 t 11 ((-1))) fun σ5 => (if (σ5 t 7) < 0 then some σ5 else (if (σ5 t 7) < (σ5 t 5) then (if (σ5 t 7) < 400 then (if (σ5 t 7) < 400 then (if (σ5 t 7) < 400 then (if (σ5 t 7) < 400 then (if (σ5 (t + 3) ((σ5 t 7)).toNatClampNeg) < 0 then some σ5 else bindT (up σ5 t 8 ((σ5 (t + 3) ((σ5 t 7)).toNatClampNeg))) fun σ13 => bindT ((σ13 t 7)) fun i14 => chk (inb i14 400) <| bindT (up σ13 t 9 ((σ13 (t + 4) i14.toNatClampNeg))) fun σ16 => bindT ((σ16 t 7)) fun i17 => chk (inb i17 400) <| bindT (up σ16 t 10 ((σ16 (t + 5) i17.toNatClampNeg))) fun σ19 => bindT ((σ19 t 7)) fun i20 => chk (inb i20 400) <| bindT (up σ19 t 11 ((σ19 (t + 6) i20.toNatClampNeg))) fun σ22 => some σ22) else some σ5) else some σ5) else some σ5) else some σ5) else some σ5))
def F_Text_refuse (σ : Mem) (t : Nat) : Mem × Int32 := bindT (up σ t 12 ((σ t 9))) fun σ1 => (σ1, 0)
def F_Text_takes (σ : Mem) (t : Nat) (v1 : Int32) : Option (Mem × Int32) := chk (inb (σ t 8) 31) <| chk (inb v1 31) <| (if (σ t 8) = v1 then obind (F_Text_advance σ t) fun z4 => some ((z4, 1)) else some ((σ, 0)))
def F_Text_needs (σ : Mem) (t : Nat) (v1 : Int32) : Option (Mem × Int32) := chk (inb (σ t 8) 31) <| chk (inb v1 31) <| (if (σ t 8) = v1 then obind (F_Text_advance σ t) fun z4 => some ((z4, 1)) else bindT (F_Text_refuse σ t) fun z5 => some ((z5.1, (z5.2 &&& 1))))
def F_Text_takeNumber (σ : Mem) (t : Nat) (v1 : Int32) : Option (Mem × Int32) := bindT ((σ t 11)) fun x1 => (if x1 = (-1) then bindT (F_Text_refuse σ t) fun z3 => some ((z3.1, (-1))) else (if v1 < x1 then bindT (F_Text_refuse σ t) fun z6 => some ((z6.1, (-1))) else obind (F_Text_advance σ t) fun z5 => some ((z5, x1))))
def F_Text_numberAt_16_b (σ : Mem) (t : Nat) (v1 : Int32) (v2 : Int32) (v4 : Int32) (v3 : Int32) : Int32 := bindT ((((v3 * 10) + (F_Row_at σ (t + 1) 400 v4)) - 48)) fun x3 => x3
def F_Text_numberAt (σ : Mem) (t : Nat) (v1 : Int32) (v2 : Int32) : Int32 := (if 3 < (v2 - v1) then 1000 else bindT (forS (fun i s => F_Text_numberAt_16_b σ t v1 v2 i s) (cnt v1 v2) v1 0) fun z5 => z5)
def F_Text_stopOf_29_b (σ : Mem) (t : Nat) (v1 : Int32) (v3 : Int32) (v4 : Int32) (v2 : Int32) : Option ((Int32) ⊕ (Int32)) := (if v2 < (σ t 6) then (if v3 = 0 then (if v4 = 0 then some (.inr v2) else (if (F_Text_isDigit σ ((F_Row_at σ (t + 1) 400 v2))) = 0 then some (.inr v2) else bindT (v2 + 1) fun x8 => some (.inl x8))) else (if (F_Text_isLetter σ ((F_Row_at σ (t + 1) 400 v2))) = 0 then (if v4 = 0 then some (.inr v2) else (if (F_Text_isDigit σ ((F_Row_at σ (t + 1) 400 v2))) = 0 then some (.inr v2) else bindT (v2 + 1) fun x13 => some (.inl x13))) else bindT (v2 + 1) fun x10 => some (.inl x10))) else some (.inr v2))
def F_Text_stopOf (σ : Mem) (t : Nat) (v1 : Int32) : Option (Int32) := bindT ((v1 + 1)) fun x1 => bindT ((F_Text_isLetter σ ((F_Row_at σ (t + 1) 400 v1)))) fun x2 => bindT ((F_Text_isDigit σ ((F_Row_at σ (t + 1) 400 v1)))) fun x3 => obind (whl (fun s => F_Text_stopOf_29_b σ t v1 x2 x3 s) FUEL x1) fun z14 => some z14
def F_Text_addThing (σ : Mem) (t : Nat) (v1 : Int32) (v2 : Int32) : Option (Mem) := (if (σ t 5) < 0 then some σ else (if (σ t 5) < 400 then (if (σ t 5) < 400 then (if (σ t 5) < 400 then (if (σ t 5) < 400 then bindT ((F_Text_isDigit σ ((F_Row_at σ (t + 1) 400 v1)))) fun x6 => (if x6 = 0 then obind (F_Kind_spelt σ (t + 1) 400 v1 v2) fun z8 => chk (inb z8 31) <| bindT (up σ (t + 3) ((σ t 5)).toNatClampNeg z8) fun σ10 => bindT ((σ10 t 5)) fun i11 => chk (inb i11 400) <| bindT (up σ10 (t + 4) i11.toNatClampNeg v1) fun σ13 => bindT ((σ13 t 5)) fun i14 => chk (inb i14 400) <| bindT (up σ13 (t + 5) i14.toNatClampNeg v2) fun σ16 => (if x6 = 0 then bindT ((σ16 t 5)) fun i18 => chk (inb i18 400) <| bindT (up σ16 (t + 6) i18.toNatClampNeg ((-1))) fun σ20 => bindT (up σ20 t 5 (((σ20 t 5) + 1))) fun σ21 => some σ21 else bindT ((σ16 t 5)) fun i22 => chk (inb i22 400) <| bindT (up σ16 (t + 6) i22.toNatClampNeg ((F_Text_numberAt σ16 t v1 v2))) fun σ24 => bindT (up σ24 t 5 (((σ24 t 5) + 1))) fun σ25 => some σ25) else bindT (up σ (t + 3) ((σ t 5)).toNatClampNeg 28) fun σ26 => bindT ((σ26 t 5)) fun i27 => chk (inb i27 400) <| bindT (up σ26 (t + 4) i27.toNatClampNeg v1) fun σ29 => bindT ((σ29 t 5)) fun i30 => chk (inb i30 400) <| bindT (up σ29 (t + 5) i30.toNatClampNeg v2) fun σ32 => (if x6 = 0 then bindT ((σ32 t 5)) fun i34 => chk (inb i34 400) <| bindT (up σ32 (t + 6) i34.toNatClampNeg ((-1))) fun σ36 => bindT (up σ36 t 5 (((σ36 t 5) + 1))) fun σ37 => some σ37 else bindT ((σ32 t 5)) fun i38 => chk (inb i38 400) <| bindT (up σ32 (t + 6) i38.toNatClampNeg ((F_Text_numberAt σ32 t v1 v2))) fun σ40 => bindT (up σ40 t 5 (((σ40 t 5) + 1))) fun σ41 => some σ41)) else some σ) else some σ) else some σ) else some σ))
def F_Text_cut_9_b (t : Nat) (v2 : Int32) (v1 : Int32) (σ : Mem) : Option ((Int32 × Mem) ⊕ (Int32 × Mem)) := (if v1 < (σ t 6) then obind (F_Text_stopOf σ t v1) fun z4 => (if (F_Row_at σ (t + 1) 400 v1) = 32 then some (.inl ((z4, σ))) else obind (F_Text_addThing σ t v1 z4) fun z6 => some (.inl ((z4, z6)))) else some (.inr ((v1, σ))))
def F_Text_cut (σ : Mem) (t : Nat) : Option (Mem) := bindT (up σ t 5 0) fun σ1 => obind (omap mrg (forGO (fun i s => F_Text_cut_9_b t i s.1 s.2) (cnt 0 400) 0 (0, σ1))) fun z8 => some z8.2
set_option maxRecDepth 20000 in
set_option maxHeartbeats 4000000 in
theorem C_Text_isLetter (hG : Gok l Γ D s0) (σ : Mem) (v0 : Int32)  : CT l Γ D s0 yX7_isLetter cX7_isLetter 1 (some .boolean) (0) 0 0 (0) σ [.int v0] (PI (some (.int (F_Text_isLetter σ v0))) σ) := by
  generalize hF : F_Text_isLetter σ v0 = out
  unfold F_Text_isLetter at hF
  refine e_met (own := RX7) hG (by decide +kernel) rfl rfl (Nat.le_of_ble_eq_true rfl) ?_
  intro p e s m args below meth c X hr
  show E p l e _ s m args below meth c Γ D 0 0 _ σ 0 [some (.int v0)] []
  refine e_iload_n X dX7_isLetter_0 rfl rfl ?_
  refine e_bipush X 97 dX7_isLetter_1 rfl ?_
  refine e_icmp_lt X 16 dX7_isLetter_3 (by decide) (fun c1 => ?_) (fun c1 => ?_)
  · skip
    rw [if_pos c1] at hF
    refine e_iconst X 0 dX7_isLetter_16 rfl ?_
    exact e_zret X hr rfl dX7_isLetter_17 (Nat.le_of_ble_eq_true rfl) (Nat.le_of_ble_eq_true rfl) (by cases hF; exact ⟨rfl, rfl⟩)
  · skip
    rw [if_neg c1] at hF
    refine e_iload_n X dX7_isLetter_6 rfl rfl ?_
    refine e_bipush X 122 dX7_isLetter_7 rfl ?_
    refine e_icmp_gt X 16 dX7_isLetter_9 (by decide) (fun c2 => ?_) (fun c2 => ?_)
    · skip
      rw [if_pos c2] at hF
      refine e_iconst X 0 dX7_isLetter_16 rfl ?_
      exact e_zret X hr rfl dX7_isLetter_17 (Nat.le_of_ble_eq_true rfl) (Nat.le_of_ble_eq_true rfl) (by cases hF; exact ⟨rfl, rfl⟩)
    · skip
      rw [if_neg c2] at hF
      refine e_iconst X 1 dX7_isLetter_12 rfl ?_
      refine e_goto X 17 dX7_isLetter_13 (by decide) ?_
      exact e_zret X hr rfl dX7_isLetter_17 (Nat.le_of_ble_eq_true rfl) (Nat.le_of_ble_eq_true rfl) (by cases hF; exact ⟨rfl, rfl⟩)
set_option maxRecDepth 20000 in
set_option maxHeartbeats 4000000 in
theorem C_Text_isDigit (hG : Gok l Γ D s0) (σ : Mem) (v0 : Int32)  : CT l Γ D s0 yX7_isDigit cX7_isDigit 1 (some .boolean) (0) 0 0 (0) σ [.int v0] (PI (some (.int (F_Text_isDigit σ v0))) σ) := by
  generalize hF : F_Text_isDigit σ v0 = out
  unfold F_Text_isDigit at hF
  refine e_met (own := RX7) hG (by decide +kernel) rfl rfl (Nat.le_of_ble_eq_true rfl) ?_
  intro p e s m args below meth c X hr
  show E p l e _ s m args below meth c Γ D 0 0 _ σ 0 [some (.int v0)] []
  refine e_iload_n X dX7_isDigit_0 rfl rfl ?_
  refine e_bipush X 48 dX7_isDigit_1 rfl ?_
  refine e_icmp_lt X 16 dX7_isDigit_3 (by decide) (fun c1 => ?_) (fun c1 => ?_)
  · skip
    rw [if_pos c1] at hF
    refine e_iconst X 0 dX7_isDigit_16 rfl ?_
    exact e_zret X hr rfl dX7_isDigit_17 (Nat.le_of_ble_eq_true rfl) (Nat.le_of_ble_eq_true rfl) (by cases hF; exact ⟨rfl, rfl⟩)
  · skip
    rw [if_neg c1] at hF
    refine e_iload_n X dX7_isDigit_6 rfl rfl ?_
    refine e_bipush X 57 dX7_isDigit_7 rfl ?_
    refine e_icmp_gt X 16 dX7_isDigit_9 (by decide) (fun c2 => ?_) (fun c2 => ?_)
    · skip
      rw [if_pos c2] at hF
      refine e_iconst X 0 dX7_isDigit_16 rfl ?_
      exact e_zret X hr rfl dX7_isDigit_17 (Nat.le_of_ble_eq_true rfl) (Nat.le_of_ble_eq_true rfl) (by cases hF; exact ⟨rfl, rfl⟩)
    · skip
      rw [if_neg c2] at hF
      refine e_iconst X 1 dX7_isDigit_12 rfl ?_
      refine e_goto X 17 dX7_isDigit_13 (by decide) ?_
      exact e_zret X hr rfl dX7_isDigit_17 (Nat.le_of_ble_eq_true rfl) (Nat.le_of_ble_eq_true rfl) (by cases hF; exact ⟨rfl, rfl⟩)
set_option maxRecDepth 20000 in
set_option maxHeartbeats 4000000 in
theorem C_Text_advance (hG : Gok l Γ D s0) (σ : Mem) (t : Nat) (gt : isText t) {out : Mem} (hF : F_Text_advance σ t = some out) : CT l Γ D s0 yX7_advance cX7_advance 1 none (0) 0 0 (0) σ [.ref (Γ.1 + t)] (PI none out) := by
  unfold F_Text_advance at hF
  refine e_met (own := RX7) hG (by decide +kernel) rfl rfl (Nat.le_of_ble_eq_true rfl) ?_
  intro p e s m args below meth c X hr
  show E p l e _ s m args below meth c Γ D 0 0 _ σ 0 [some (.ref (Γ.1 + t))] []
  refine e_aload_n X dX7_advance_0 rfl rfl ?_
  refine e_dup X dX7_advance_1 rfl ?_
  refine ge_Text_index X gt wf_X7_60 dX7_advance_2 ?_
  refine e_iconst X 1 dX7_advance_5 rfl ?_
  refine e_iadd X dX7_advance_6 ?_
  obtain ⟨σ1, h_σ1, hF⟩ := bindT_out hF
  refine pu_Text_index X gt wf_X7_60 dX7_advance_7 h_σ1 ?_
  refine e_aload_n X dX7_advance_10 rfl rfl ?_
  refine e_kstatic X 29 rfl rfl wf_X7_36 dX7_advance_11 ?_
  obtain ⟨σ2, h_σ2, hF⟩ := bindT_out hF
  refine pu_Text_kind X gt wf_X7_40 dX7_advance_14 h_σ2 ?_
  refine e_aload_n X dX7_advance_17 rfl rfl ?_
  refine e_aload_n X dX7_advance_18 rfl rfl ?_
  refine ge_Text_length X gt wf_X7_54 dX7_advance_19 ?_
  obtain ⟨σ3, h_σ3, hF⟩ := bindT_out hF
  refine pu_Text_begin X gt wf_X7_112 dX7_advance_22 h_σ3 ?_
  refine e_aload_n X dX7_advance_25 rfl rfl ?_
  refine e_aload_n X dX7_advance_26 rfl rfl ?_
  refine ge_Text_length X gt wf_X7_54 dX7_advance_27 ?_
  obtain ⟨σ4, h_σ4, hF⟩ := bindT_out hF
  refine pu_Text_stop X gt wf_X7_115 dX7_advance_30 h_σ4 ?_
  refine e_aload_n X dX7_advance_33 rfl rfl ?_
  refine e_iconst X (-1) dX7_advance_34 rfl ?_
  obtain ⟨σ5, h_σ5, hF⟩ := bindT_out hF
  refine pu_Text_number X gt wf_X7_43 dX7_advance_35 h_σ5 ?_
  refine e_aload_n X dX7_advance_38 rfl rfl ?_
  refine ge_Text_index X gt wf_X7_60 dX7_advance_39 ?_
  refine e_if_lt X 168 dX7_advance_42 (by decide) (fun c6 => ?_) (fun c6 => ?_)
  · skip
    rw [if_pos c6] at hF
    exact e_vret X hr dX7_advance_168 (Nat.le_of_ble_eq_true rfl) (Nat.le_of_ble_eq_true rfl) (by cases hF; exact ⟨rfl, rfl⟩)
  · skip
    rw [if_neg c6] at hF
    refine e_aload_n X dX7_advance_45 rfl rfl ?_
    refine ge_Text_index X gt wf_X7_60 dX7_advance_46 ?_
    refine e_aload_n X dX7_advance_49 rfl rfl ?_
    refine ge_Text_things X gt wf_X7_80 dX7_advance_50 ?_
    refine e_icmp_ge X 168 dX7_advance_53 (by decide) (fun c7 => ?_) (fun c7 => ?_)
    · skip
      rw [if_neg c7] at hF
      exact e_vret X hr dX7_advance_168 (Nat.le_of_ble_eq_true rfl) (Nat.le_of_ble_eq_true rfl) (by cases hF; exact ⟨rfl, rfl⟩)
    · skip
      rw [if_pos c7] at hF
      refine e_aload_n X dX7_advance_56 rfl rfl ?_
      refine ge_Text_index X gt wf_X7_60 dX7_advance_57 ?_
      refine e_aload_n X dX7_advance_60 rfl rfl ?_
      refine ge_Text_kinds X gt wf_X7_22 dX7_advance_61 ?_
      refine e_klen X 400 gt.2.2.1 rfl dX7_advance_64 ?_
      refine e_icmp_ge X 168 dX7_advance_65 (by decide) (fun c8 => ?_) (fun c8 => ?_)
      · skip
        rw [if_neg c8] at hF
        exact e_vret X hr dX7_advance_168 (Nat.le_of_ble_eq_true rfl) (Nat.le_of_ble_eq_true rfl) (by cases hF; exact ⟨rfl, rfl⟩)
      · skip
        rw [if_pos c8] at hF
        refine e_aload_n X dX7_advance_68 rfl rfl ?_
        refine ge_Text_index X gt wf_X7_60 dX7_advance_69 ?_
        refine e_aload_n X dX7_advance_72 rfl rfl ?_
        refine ge_Text_begins X gt wf_X7_26 dX7_advance_73 ?_
        refine e_alen X 400 gt.2.2.2.1 rfl dX7_advance_76 ?_
        refine e_icmp_ge X 168 dX7_advance_77 (by decide) (fun c9 => ?_) (fun c9 => ?_)
        · skip
          rw [if_neg c9] at hF
          exact e_vret X hr dX7_advance_168 (Nat.le_of_ble_eq_true rfl) (Nat.le_of_ble_eq_true rfl) (by cases hF; exact ⟨rfl, rfl⟩)
        · skip
          rw [if_pos c9] at hF
          refine e_aload_n X dX7_advance_80 rfl rfl ?_
          refine ge_Text_index X gt wf_X7_60 dX7_advance_81 ?_
          refine e_aload_n X dX7_advance_84 rfl rfl ?_
          refine ge_Text_stops X gt wf_X7_30 dX7_advance_85 ?_
          refine e_alen X 400 gt.2.2.2.2.1 rfl dX7_advance_88 ?_
          refine e_icmp_ge X 168 dX7_advance_89 (by decide) (fun c10 => ?_) (fun c10 => ?_)
          · skip
            rw [if_neg c10] at hF
            exact e_vret X hr dX7_advance_168 (Nat.le_of_ble_eq_true rfl) (Nat.le_of_ble_eq_true rfl) (by cases hF; exact ⟨rfl, rfl⟩)
          · skip
            rw [if_pos c10] at hF
            refine e_aload_n X dX7_advance_92 rfl rfl ?_
            refine ge_Text_index X gt wf_X7_60 dX7_advance_93 ?_
            refine e_aload_n X dX7_advance_96 rfl rfl ?_
            refine ge_Text_numbers X gt wf_X7_33 dX7_advance_97 ?_
            refine e_alen X 400 gt.2.2.2.2.2 rfl dX7_advance_100 ?_
            refine e_icmp_ge X 168 dX7_advance_101 (by decide) (fun c11 => ?_) (fun c11 => ?_)
            · skip
              rw [if_neg c11] at hF
              exact e_vret X hr dX7_advance_168 (Nat.le_of_ble_eq_true rfl) (Nat.le_of_ble_eq_true rfl) (by cases hF; exact ⟨rfl, rfl⟩)
            · skip
              rw [if_pos c11] at hF
              refine e_aload_n X dX7_advance_104 rfl rfl ?_
              refine ge_Text_kinds X gt wf_X7_22 dX7_advance_105 ?_
              refine e_aload_n X dX7_advance_108 rfl rfl ?_
              refine ge_Text_index X gt wf_X7_60 dX7_advance_109 ?_
              refine e_kald X (j := ((σ5 t 7)).toNatClampNeg) rfl gt.2.2.1 (vp_gc (by decide) c6 c11) rfl dX7_advance_112 ?_
              refine e_kifnull X 168 dX7_advance_113 (by decide) (fun c12 => ?_) (fun c12 => ?_)
              · skip
                rw [if_pos c12] at hF
                exact e_vret X hr dX7_advance_168 (Nat.le_of_ble_eq_true rfl) (Nat.le_of_ble_eq_true rfl) (by cases hF; exact ⟨rfl, rfl⟩)
              · skip
                rw [if_neg c12] at hF
                refine e_aload_n X dX7_advance_116 rfl rfl ?_
                refine e_aload_n X dX7_advance_117 rfl rfl ?_
                refine ge_Text_kinds X gt wf_X7_22 dX7_advance_118 ?_
                refine e_aload_n X dX7_advance_121 rfl rfl ?_
                refine ge_Text_index X gt wf_X7_60 dX7_advance_122 ?_
                refine e_kald X (j := ((σ5 t 7)).toNatClampNeg) rfl gt.2.2.1 (vp_gc (by decide) c6 c11) rfl dX7_advance_125 ?_
                obtain ⟨σ13, h_σ13, hF⟩ := bindT_out hF
                refine pu_Text_kind X gt wf_X7_40 dX7_advance_126 h_σ13 ?_
                refine e_aload_n X dX7_advance_129 rfl rfl ?_
                refine e_aload_n X dX7_advance_130 rfl rfl ?_
                refine ge_Text_begins X gt wf_X7_26 dX7_advance_131 ?_
                refine e_aload_n X dX7_advance_134 rfl rfl ?_
                refine ge_Text_index X gt wf_X7_60 dX7_advance_135 ?_
                obtain ⟨i14, h_i14, hF⟩ := bindT_out hF
                obtain ⟨c15, hF⟩ := chk_out hF
                refine e_iald X (j := i14.toNatClampNeg) h_i14 gt.2.2.2.1 (inb_in c15) rfl dX7_advance_138 ?_
                obtain ⟨σ16, h_σ16, hF⟩ := bindT_out hF
                refine pu_Text_begin X gt wf_X7_112 dX7_advance_139 h_σ16 ?_
                refine e_aload_n X dX7_advance_142 rfl rfl ?_
                refine e_aload_n X dX7_advance_143 rfl rfl ?_
                refine ge_Text_stops X gt wf_X7_30 dX7_advance_144 ?_
                refine e_aload_n X dX7_advance_147 rfl rfl ?_
                refine ge_Text_index X gt wf_X7_60 dX7_advance_148 ?_
                obtain ⟨i17, h_i17, hF⟩ := bindT_out hF
                obtain ⟨c18, hF⟩ := chk_out hF
                refine e_iald X (j := i17.toNatClampNeg) h_i17 gt.2.2.2.2.1 (inb_in c18) rfl dX7_advance_151 ?_
                obtain ⟨σ19, h_σ19, hF⟩ := bindT_out hF
                refine pu_Text_stop X gt wf_X7_115 dX7_advance_152 h_σ19 ?_
                refine e_aload_n X dX7_advance_155 rfl rfl ?_
                refine e_aload_n X dX7_advance_156 rfl rfl ?_
                refine ge_Text_numbers X gt wf_X7_33 dX7_advance_157 ?_
                refine e_aload_n X dX7_advance_160 rfl rfl ?_
                refine ge_Text_index X gt wf_X7_60 dX7_advance_161 ?_
                obtain ⟨i20, h_i20, hF⟩ := bindT_out hF
                obtain ⟨c21, hF⟩ := chk_out hF
                refine e_iald X (j := i20.toNatClampNeg) h_i20 gt.2.2.2.2.2 (inb_in c21) rfl dX7_advance_164 ?_
                obtain ⟨σ22, h_σ22, hF⟩ := bindT_out hF
                refine pu_Text_number X gt wf_X7_43 dX7_advance_165 h_σ22 ?_
                exact e_vret X hr dX7_advance_168 (Nat.le_of_ble_eq_true rfl) (Nat.le_of_ble_eq_true rfl) (by cases hF; exact ⟨rfl, rfl⟩)
set_option maxRecDepth 20000 in
set_option maxHeartbeats 4000000 in
theorem C_Text_refuse (hG : Gok l Γ D s0) (σ : Mem) (t : Nat) (gt : isText t) : CT l Γ D s0 yX7_refuse cX7_refuse 1 (some .boolean) (0) 0 0 (0) σ [.ref (Γ.1 + t)] (PI (some (.int (F_Text_refuse σ t).2)) (F_Text_refuse σ t).1) := by
  generalize hF : F_Text_refuse σ t = out
  unfold F_Text_refuse at hF
  refine e_met (own := RX7) hG (by decide +kernel) rfl rfl (Nat.le_of_ble_eq_true rfl) ?_
  intro p e s m args below meth c X hr
  show E p l e _ s m args below meth c Γ D 0 0 _ σ 0 [some (.ref (Γ.1 + t))] []
  refine e_aload_n X dX7_refuse_0 rfl rfl ?_
  refine e_aload_n X dX7_refuse_1 rfl rfl ?_
  refine ge_Text_begin X gt wf_X7_112 dX7_refuse_2 ?_
  obtain ⟨σ1, h_σ1, hF⟩ := bindT_out hF
  refine pu_Text_wrong X gt wf_X7_47 dX7_refuse_5 h_σ1 ?_
  refine e_iconst X 0 dX7_refuse_8 rfl ?_
  exact e_zret X hr rfl dX7_refuse_9 (Nat.le_of_ble_eq_true rfl) (Nat.le_of_ble_eq_true rfl) (by cases hF; exact ⟨rfl, rfl⟩)
set_option maxRecDepth 20000 in
set_option maxHeartbeats 4000000 in
theorem C_Text_takes (hG : Gok l Γ D s0) (σ : Mem) (t : Nat) (v1 : Int32) (gt : isText t) {out : Mem × Int32} (hF : F_Text_takes σ t v1 = some out) : CT l Γ D s0 yX7_takes cX7_takes 2 (some .boolean) (1) 0 0 (20) σ [.ref (Γ.1 + t), va_rf (kop Γ v1)] (PI (some (.int out.2)) out.1) := by
  unfold F_Text_takes at hF
  refine e_met (own := RX7) hG (by decide +kernel) rfl (by simp only [List.all_cons, List.all_nil, rf_cat]; rfl) (Nat.le_of_ble_eq_true rfl) ?_
  intro p e s m args below meth c X hr
  show E p l e _ s m args below meth c Γ D 0 0 _ σ 0 [some (.ref (Γ.1 + t)), some (va_rf (kop Γ v1))] []
  refine e_aload_n X dX7_takes_0 rfl rfl ?_
  refine ge_Text_kind X gt wf_X7_40 dX7_takes_1 ?_
  refine e_raload_n X dX7_takes_4 rfl rfl ?_
  obtain ⟨c1, hF⟩ := chk_out hF
  obtain ⟨c2, hF⟩ := chk_out hF
  refine e_kacmp_eq X 10 c1 c2 dX7_takes_5 (by decide) (fun c3 => ?_) (fun c3 => ?_)
  · skip
    rw [if_pos c3] at hF
    refine e_aload_n X dX7_takes_10 rfl rfl ?_
    obtain ⟨z4, h_z4, hF⟩ := obind_out hF
    refine e_callTv X (σ1 := z4) [] [] (C_Text_advance (Cx_gok X) σ t gt h_z4) gu_X7_63_X10 gu_X7_63_X3 rfl ykx_X7_advance rfl gt.1 ⟨Nat.le_of_ble_eq_true rfl, Nat.le_of_ble_eq_true rfl⟩ ⟨Nat.le_of_ble_eq_true rfl, Nat.le_of_ble_eq_true rfl⟩ (Nat.le_of_ble_eq_true rfl) dX7_takes_11 rfl ?_
    refine e_iconst X 1 dX7_takes_14 rfl ?_
    exact e_zret X hr rfl dX7_takes_15 (Nat.le_of_ble_eq_true rfl) (Nat.le_of_ble_eq_true rfl) (by cases hF; exact ⟨rfl, rfl⟩)
  · skip
    rw [if_neg c3] at hF
    refine e_iconst X 0 dX7_takes_8 rfl ?_
    exact e_zret X hr rfl dX7_takes_9 (Nat.le_of_ble_eq_true rfl) (Nat.le_of_ble_eq_true rfl) (by cases hF; exact ⟨rfl, rfl⟩)
set_option maxRecDepth 20000 in
set_option maxHeartbeats 4000000 in
theorem C_Text_needs (hG : Gok l Γ D s0) (σ : Mem) (t : Nat) (v1 : Int32) (gt : isText t) {out : Mem × Int32} (hF : F_Text_needs σ t v1 = some out) : CT l Γ D s0 yX7_needs cX7_needs 2 (some .boolean) (1) 0 0 (20) σ [.ref (Γ.1 + t), va_rf (kop Γ v1)] (PI (some (.int out.2)) out.1) := by
  unfold F_Text_needs at hF
  refine e_met (own := RX7) hG (by decide +kernel) rfl (by simp only [List.all_cons, List.all_nil, rf_cat]; rfl) (Nat.le_of_ble_eq_true rfl) ?_
  intro p e s m args below meth c X hr
  show E p l e _ s m args below meth c Γ D 0 0 _ σ 0 [some (.ref (Γ.1 + t)), some (va_rf (kop Γ v1))] []
  refine e_aload_n X dX7_needs_0 rfl rfl ?_
  refine ge_Text_kind X gt wf_X7_40 dX7_needs_1 ?_
  refine e_raload_n X dX7_needs_4 rfl rfl ?_
  obtain ⟨c1, hF⟩ := chk_out hF
  obtain ⟨c2, hF⟩ := chk_out hF
  refine e_kacmp_eq X 13 c1 c2 dX7_needs_5 (by decide) (fun c3 => ?_) (fun c3 => ?_)
  · skip
    rw [if_pos c3] at hF
    refine e_aload_n X dX7_needs_13 rfl rfl ?_
    obtain ⟨z4, h_z4, hF⟩ := obind_out hF
    refine e_callTv X (σ1 := z4) [] [] (C_Text_advance (Cx_gok X) σ t gt h_z4) gu_X7_63_X10 gu_X7_63_X3 rfl ykx_X7_advance rfl gt.1 ⟨Nat.le_of_ble_eq_true rfl, Nat.le_of_ble_eq_true rfl⟩ ⟨Nat.le_of_ble_eq_true rfl, Nat.le_of_ble_eq_true rfl⟩ (Nat.le_of_ble_eq_true rfl) dX7_needs_14 rfl ?_
    refine e_iconst X 1 dX7_needs_17 rfl ?_
    exact e_zret X hr rfl dX7_needs_18 (Nat.le_of_ble_eq_true rfl) (Nat.le_of_ble_eq_true rfl) (by cases hF; exact ⟨rfl, rfl⟩)
  · skip
    rw [if_neg c3] at hF
    refine e_aload_n X dX7_needs_8 rfl rfl ?_
    obtain ⟨z5, h_z5, hF⟩ := bindT_out hF
    refine e_callTi X (r := z5.2) (σ1 := z5.1) [] [] (by rw [h_z5]; exact C_Text_refuse (Cx_gok X) σ t gt) gu_X7_77_X10 gu_X7_77_X3 rfl ykx_X7_refuse rfl gt.1 ⟨Nat.le_of_ble_eq_true rfl, Nat.le_of_ble_eq_true rfl⟩ ⟨Nat.le_of_ble_eq_true rfl, Nat.le_of_ble_eq_true rfl⟩ (Nat.le_of_ble_eq_true rfl) dX7_needs_9 rfl ?_
    exact e_zret X hr rfl dX7_needs_12 (Nat.le_of_ble_eq_true rfl) (Nat.le_of_ble_eq_true rfl) (by cases hF; exact ⟨rfl, rfl⟩)
set_option maxRecDepth 20000 in
set_option maxHeartbeats 4000000 in
theorem C_Text_takeNumber (hG : Gok l Γ D s0) (σ : Mem) (t : Nat) (v1 : Int32) (gt : isText t) {out : Mem × Int32} (hF : F_Text_takeNumber σ t v1 = some out) : CT l Γ D s0 yX7_takeNumber cX7_takeNumber 3 (some .int) (1) 0 0 (20) σ [.ref (Γ.1 + t), .int v1] (PI (some (.int out.2)) out.1) := by
  unfold F_Text_takeNumber at hF
  refine e_met (own := RX7) hG (by decide +kernel) rfl rfl (Nat.le_of_ble_eq_true rfl) ?_
  intro p e s m args below meth c X hr
  show E p l e _ s m args below meth c Γ D 0 0 _ σ 0 [some (.ref (Γ.1 + t)), some (.int v1), none] []
  refine e_aload_n X dX7_takeNumber_0 rfl rfl ?_
  refine ge_Text_number X gt wf_X7_43 dX7_takeNumber_1 ?_
  obtain ⟨x1, h_x1, hF⟩ := bindT_out hF
  refine e_istore_n X h_x1 dX7_takeNumber_4 rfl (by decide) ?_
  refine e_iload_n X dX7_takeNumber_5 rfl rfl ?_
  refine e_iconst X (-1) dX7_takeNumber_6 rfl ?_
  refine e_icmp_eq X 15 dX7_takeNumber_7 (by decide) (fun c2 => ?_) (fun c2 => ?_)
  · skip
    rw [if_pos c2] at hF
    refine e_aload_n X dX7_takeNumber_15 rfl rfl ?_
    obtain ⟨z3, h_z3, hF⟩ := bindT_out hF
    refine e_callTi X (r := z3.2) (σ1 := z3.1) [] [] (by rw [h_z3]; exact C_Text_refuse (Cx_gok X) σ t gt) gu_X7_77_X10 gu_X7_77_X3 rfl ykx_X7_refuse rfl gt.1 ⟨Nat.le_of_ble_eq_true rfl, Nat.le_of_ble_eq_true rfl⟩ ⟨Nat.le_of_ble_eq_true rfl, Nat.le_of_ble_eq_true rfl⟩ (Nat.le_of_ble_eq_true rfl) dX7_takeNumber_16 rfl ?_
    refine e_pop X dX7_takeNumber_19 rfl ?_
    refine e_iconst X (-1) dX7_takeNumber_20 rfl ?_
    exact e_iret X hr dX7_takeNumber_21 (Nat.le_of_ble_eq_true rfl) (Nat.le_of_ble_eq_true rfl) (by cases hF; exact ⟨rfl, rfl⟩)
  · skip
    rw [if_neg c2] at hF
    refine e_iload_n X dX7_takeNumber_10 rfl rfl ?_
    refine e_iload_n X dX7_takeNumber_11 rfl rfl ?_
    refine e_icmp_le X 22 dX7_takeNumber_12 (by decide) (fun c4 => ?_) (fun c4 => ?_)
    · skip
      rw [if_neg c4] at hF
      refine e_aload_n X dX7_takeNumber_22 rfl rfl ?_
      obtain ⟨z5, h_z5, hF⟩ := obind_out hF
      refine e_callTv X (σ1 := z5) [] [] (C_Text_advance (Cx_gok X) σ t gt h_z5) gu_X7_63_X10 gu_X7_63_X3 rfl ykx_X7_advance rfl gt.1 ⟨Nat.le_of_ble_eq_true rfl, Nat.le_of_ble_eq_true rfl⟩ ⟨Nat.le_of_ble_eq_true rfl, Nat.le_of_ble_eq_true rfl⟩ (Nat.le_of_ble_eq_true rfl) dX7_takeNumber_23 rfl ?_
      refine e_iload_n X dX7_takeNumber_26 rfl rfl ?_
      exact e_iret X hr dX7_takeNumber_27 (Nat.le_of_ble_eq_true rfl) (Nat.le_of_ble_eq_true rfl) (by cases hF; exact ⟨rfl, rfl⟩)
    · skip
      rw [if_pos c4] at hF
      refine e_aload_n X dX7_takeNumber_15 rfl rfl ?_
      obtain ⟨z6, h_z6, hF⟩ := bindT_out hF
      refine e_callTi X (r := z6.2) (σ1 := z6.1) [] [] (by rw [h_z6]; exact C_Text_refuse (Cx_gok X) σ t gt) gu_X7_77_X10 gu_X7_77_X3 rfl ykx_X7_refuse rfl gt.1 ⟨Nat.le_of_ble_eq_true rfl, Nat.le_of_ble_eq_true rfl⟩ ⟨Nat.le_of_ble_eq_true rfl, Nat.le_of_ble_eq_true rfl⟩ (Nat.le_of_ble_eq_true rfl) dX7_takeNumber_16 rfl ?_
      refine e_pop X dX7_takeNumber_19 rfl ?_
      refine e_iconst X (-1) dX7_takeNumber_20 rfl ?_
      exact e_iret X hr dX7_takeNumber_21 (Nat.le_of_ble_eq_true rfl) (Nat.le_of_ble_eq_true rfl) (by cases hF; exact ⟨rfl, rfl⟩)
set_option maxRecDepth 20000 in
set_option maxHeartbeats 4000000 in
theorem L_Text_numberAt_16 (X : Cx p l s m args meth c Γ D s0 RX7 cX7_numberAt 5) (hr : meth.sig.returnType = (some .int)) (σ : Mem) (t : Nat) (v1 : Int32) (v2 : Int32) (gt : isText t) : ∀ (n : Nat) (v4 : Int32) (v3 : Int32) {z : Int32}, forS (fun i s => F_Text_numberAt_16_b σ t v1 v2 i s) n v4 v3 = z → n = cnt v4 v2 → (E p l e ({ frames := 1, cells := 0, slots := 0, locals := 21 } : Room) s m args below meth c Γ D 0 0 (MQ below (QcA Γ D Pst) args s 0 0 (frB Γ)) σ 46 [some (.ref (Γ.1 + t)), some (.int v1), some (.int v2), some (.int z), none] []) → E p l e ({ frames := 1, cells := 0, slots := 0, locals := 21 } : Room) s m args below meth c Γ D 0 0 (MQ below (QcA Γ D Pst) args s 0 0 (frB Γ)) σ 16 [some (.ref (Γ.1 + t)), some (.int v1), some (.int v2), some (.int v3), some (.int v4)] [] := by
  intro n
  induction n with
  | zero =>
    intro v4 v3 z hF hn hK
    refine e_iload X dX7_numberAt_16 rfl ?_
    refine e_iload_n X dX7_numberAt_18 rfl rfl ?_
    refine e_icmp_ge X 46 dX7_numberAt_19 (by decide) (fun c4 => ?_) (fun c4 => ?_)
    · skip
      have hz9 := hF; change (v3) = z at hz9; subst hz9
      exact e_le hK (And.intro rfl (And.intro rfl (And.intro rfl (And.intro rfl (trivial)))))
    · skip
      exact absurd c4 (cnt0 hn)
  | succ n ih =>
    intro v4 v3 z hF hn hK
    obtain ⟨y9, hB, hF⟩ := forS_step hF
    change F_Text_numberAt_16_b σ t v1 v2 v4 v3 = y9 at hB
    unfold F_Text_numberAt_16_b at hB
    refine e_iload X dX7_numberAt_16 rfl ?_
    refine e_iload_n X dX7_numberAt_18 rfl rfl ?_
    refine e_icmp_ge X 46 dX7_numberAt_19 (by decide) (fun c2 => ?_) (fun c2 => ?_)
    · skip
      exact absurd (cntS hn) c2
    · skip
      refine e_iload_n X dX7_numberAt_22 rfl rfl ?_
      refine e_bipush X 10 dX7_numberAt_23 rfl ?_
      refine e_imul X dX7_numberAt_25 ?_
      refine e_aload_n X dX7_numberAt_26 rfl rfl ?_
      refine ge_Text_bytes X gt wf_X7_14 dX7_numberAt_27 ?_
      refine e_iload X dX7_numberAt_30 rfl ?_
      refine e_callVi X (r := (F_Row_at σ (t + 1) 400 v4)) (σ1 := σ) [.int v4] [.int ((v3 * 10))] (C_Row_at (Cx_gok X) σ (t + 1) 400 v4 gt.2.1) gv_X7_87 yk_X6_at rfl (ent_lt gt.2.1.1) (ent_at gt.2.1.1 _) (rfl : vCl[6]? = some (RX6, TX6, 1)) ⟨Nat.le_of_ble_eq_true rfl, Nat.le_of_ble_eq_true rfl⟩ ⟨Nat.le_of_ble_eq_true rfl, Nat.le_of_ble_eq_true rfl⟩ (Nat.le_of_ble_eq_true rfl) dX7_numberAt_32 rfl ?_
      refine e_iadd X dX7_numberAt_35 ?_
      refine e_bipush X 48 dX7_numberAt_36 rfl ?_
      refine e_isub X dX7_numberAt_38 ?_
      obtain ⟨x3, h_x3, hB⟩ := bindT_out hB
      refine e_istore_n X h_x3 dX7_numberAt_39 rfl (by decide) ?_
      refine e_iinc X 1 dX7_numberAt_40 rfl rfl (by decide) ?_
      refine e_goto X 16 dX7_numberAt_43 (by decide) ?_
      have hy9 := hB; change (x3) = y9 at hy9; subst hy9
      exact e_le (ih _ x3 hF (cntN hn) hK) (And.intro rfl (And.intro rfl (And.intro rfl (And.intro rfl (And.intro rfl (trivial))))))
set_option maxRecDepth 20000 in
set_option maxHeartbeats 4000000 in
theorem C_Text_numberAt (hG : Gok l Γ D s0) (σ : Mem) (t : Nat) (v1 : Int32) (v2 : Int32) (gt : isText t) : CT l Γ D s0 yX7_numberAt cX7_numberAt 5 (some .int) (1) 0 0 (21) σ [.ref (Γ.1 + t), .int v1, .int v2] (PI (some (.int (F_Text_numberAt σ t v1 v2))) σ) := by
  generalize hF : F_Text_numberAt σ t v1 v2 = out
  unfold F_Text_numberAt at hF
  refine e_met (own := RX7) hG (by decide +kernel) rfl rfl (Nat.le_of_ble_eq_true rfl) ?_
  intro p e s m args below meth c X hr
  show E p l e _ s m args below meth c Γ D 0 0 _ σ 0 [some (.ref (Γ.1 + t)), some (.int v1), some (.int v2), none, none] []
  refine e_iload_n X dX7_numberAt_0 rfl rfl ?_
  refine e_iload_n X dX7_numberAt_1 rfl rfl ?_
  refine e_isub X dX7_numberAt_2 ?_
  refine e_iconst X 3 dX7_numberAt_3 rfl ?_
  refine e_icmp_le X 11 dX7_numberAt_4 (by decide) (fun c1 => ?_) (fun c1 => ?_)
  · skip
    rw [if_neg c1] at hF
    refine e_iconst X 0 dX7_numberAt_11 rfl ?_
    refine e_istore_n X rfl dX7_numberAt_12 rfl (by decide) ?_
    refine e_iload_n X dX7_numberAt_13 rfl rfl ?_
    refine e_istore X rfl dX7_numberAt_14 (by decide) ?_
    obtain ⟨z5, h_z5, hF⟩ := bindT_out hF
    refine e_le (L_Text_numberAt_16 X hr σ t v1 v2 gt _ v1 0 h_z5.symm rfl ?_) (And.intro rfl (And.intro rfl (And.intro rfl (And.intro rfl (And.intro rfl (trivial))))))
    refine e_iload_n X dX7_numberAt_46 rfl rfl ?_
    exact e_iret X hr dX7_numberAt_47 (Nat.le_of_ble_eq_true rfl) (Nat.le_of_ble_eq_true rfl) (by cases hF; exact ⟨rfl, rfl⟩)
  · skip
    rw [if_pos c1] at hF
    refine e_sipush X 1000 dX7_numberAt_7 rfl ?_
    exact e_iret X hr dX7_numberAt_10 (Nat.le_of_ble_eq_true rfl) (Nat.le_of_ble_eq_true rfl) (by cases hF; exact ⟨rfl, rfl⟩)
set_option maxRecDepth 20000 in
set_option maxHeartbeats 4000000 in
theorem L_Text_stopOf_29 (X : Cx p l s m args meth c Γ D s0 RX7 cX7_stopOf 5) (hr : meth.sig.returnType = (some .int)) (σ : Mem) (t : Nat) (v1 : Int32) (v3 : Int32) (v4 : Int32) (gt : isText t) : ∀ (n : Nat) (v2 : Int32) {z : Int32}, whl (fun s => F_Text_stopOf_29_b σ t v1 v3 v4 s) n v2 = some z → (E p l e ({ frames := 1, cells := 0, slots := 0, locals := 21 } : Room) s m args below meth c Γ D 0 0 (MQ below (QcA Γ D Pst) args s 0 0 (frB Γ)) σ 80 [some (.ref (Γ.1 + t)), some (.int v1), some (.int z), some (.int v3), some (.int v4)] []) → E p l e ({ frames := 1, cells := 0, slots := 0, locals := 21 } : Room) s m args below meth c Γ D 0 0 (MQ below (QcA Γ D Pst) args s 0 0 (frB Γ)) σ 29 [some (.ref (Γ.1 + t)), some (.int v1), some (.int v2), some (.int v3), some (.int v4)] [] := by
  intro n
  induction n with
  | zero =>
    intro v2 z hF hK
    cases hF
  | succ n ih =>
    intro v2 z hF hK
    obtain ⟨y9, hB, hF⟩ := whl_step hF
    change F_Text_stopOf_29_b σ t v1 v3 v4 v2 = some y9 at hB
    unfold F_Text_stopOf_29_b at hB
    refine e_iload_n X dX7_stopOf_29 rfl rfl ?_
    refine e_aload_n X dX7_stopOf_30 rfl rfl ?_
    refine ge_Text_length X gt wf_X7_54 dX7_stopOf_31 ?_
    refine e_icmp_ge X 80 dX7_stopOf_34 (by decide) (fun c4 => ?_) (fun c4 => ?_)
    · skip
      rw [if_neg c4] at hB
      have hy9 := Option.some.inj hB; change (.inr v2) = y9 at hy9; subst hy9
      have hz9 := Option.some.inj hF; change (v2) = z at hz9; subst hz9
      exact e_le hK (And.intro rfl (And.intro rfl (And.intro rfl (And.intro rfl (And.intro rfl (trivial))))))
    · skip
      rw [if_pos c4] at hB
      refine e_iload_n X dX7_stopOf_37 rfl rfl ?_
      refine e_if_eq X 55 dX7_stopOf_38 (by decide) (fun c5 => ?_) (fun c5 => ?_)
      · skip
        rw [if_pos c5] at hB
        refine e_iload X dX7_stopOf_55 rfl ?_
        refine e_if_eq X 80 dX7_stopOf_57 (by decide) (fun c6 => ?_) (fun c6 => ?_)
        · skip
          rw [if_pos c6] at hB
          have hy9 := Option.some.inj hB; change (.inr v2) = y9 at hy9; subst hy9
          have hz9 := Option.some.inj hF; change (v2) = z at hz9; subst hz9
          exact e_le hK (And.intro rfl (And.intro rfl (And.intro rfl (And.intro rfl (And.intro rfl (trivial))))))
        · skip
          rw [if_neg c6] at hB
          refine e_aload_n X dX7_stopOf_60 rfl rfl ?_
          refine ge_Text_bytes X gt wf_X7_14 dX7_stopOf_61 ?_
          refine e_iload_n X dX7_stopOf_64 rfl rfl ?_
          refine e_callVi X (r := (F_Row_at σ (t + 1) 400 v2)) (σ1 := σ) [.int v2] [] (C_Row_at (Cx_gok X) σ (t + 1) 400 v2 gt.2.1) gv_X7_87 yk_X6_at rfl (ent_lt gt.2.1.1) (ent_at gt.2.1.1 _) (rfl : vCl[6]? = some (RX6, TX6, 1)) ⟨Nat.le_of_ble_eq_true rfl, Nat.le_of_ble_eq_true rfl⟩ ⟨Nat.le_of_ble_eq_true rfl, Nat.le_of_ble_eq_true rfl⟩ (Nat.le_of_ble_eq_true rfl) dX7_stopOf_65 rfl ?_
          refine e_callSi X (r := (F_Text_isDigit σ ((F_Row_at σ (t + 1) 400 v2)))) (σ1 := σ) [.int ((F_Row_at σ (t + 1) 400 v2))] [] (C_Text_isDigit (Cx_gok X) σ ((F_Row_at σ (t + 1) 400 v2))) gs_X7_98 yk_X7_isDigit rfl ⟨Nat.le_of_ble_eq_true rfl, Nat.le_of_ble_eq_true rfl⟩ ⟨Nat.le_of_ble_eq_true rfl, Nat.le_of_ble_eq_true rfl⟩ (Nat.le_of_ble_eq_true rfl) dX7_stopOf_68 rfl ?_
          refine e_if_eq X 80 dX7_stopOf_71 (by decide) (fun c7 => ?_) (fun c7 => ?_)
          · skip
            rw [if_pos c7] at hB
            have hy9 := Option.some.inj hB; change (.inr v2) = y9 at hy9; subst hy9
            have hz9 := Option.some.inj hF; change (v2) = z at hz9; subst hz9
            exact e_le hK (And.intro rfl (And.intro rfl (And.intro rfl (And.intro rfl (And.intro rfl (trivial))))))
          · skip
            rw [if_neg c7] at hB
            refine e_iinc X 1 dX7_stopOf_74 rfl rfl (by decide) ?_
            obtain ⟨x8, h_x8, hB⟩ := bindT_out hB
            rw [← h_x8]
            refine e_goto X 29 dX7_stopOf_77 (by decide) ?_
            have hy9 := Option.some.inj hB; change (.inl x8) = y9 at hy9; subst hy9
            exact e_le (ih x8 hF hK) (And.intro rfl (And.intro rfl (And.intro rfl (And.intro rfl (And.intro rfl (trivial))))))
      · skip
        rw [if_neg c5] at hB
        refine e_aload_n X dX7_stopOf_41 rfl rfl ?_
        refine ge_Text_bytes X gt wf_X7_14 dX7_stopOf_42 ?_
        refine e_iload_n X dX7_stopOf_45 rfl rfl ?_
        refine e_callVi X (r := (F_Row_at σ (t + 1) 400 v2)) (σ1 := σ) [.int v2] [] (C_Row_at (Cx_gok X) σ (t + 1) 400 v2 gt.2.1) gv_X7_87 yk_X6_at rfl (ent_lt gt.2.1.1) (ent_at gt.2.1.1 _) (rfl : vCl[6]? = some (RX6, TX6, 1)) ⟨Nat.le_of_ble_eq_true rfl, Nat.le_of_ble_eq_true rfl⟩ ⟨Nat.le_of_ble_eq_true rfl, Nat.le_of_ble_eq_true rfl⟩ (Nat.le_of_ble_eq_true rfl) dX7_stopOf_46 rfl ?_
        refine e_callSi X (r := (F_Text_isLetter σ ((F_Row_at σ (t + 1) 400 v2)))) (σ1 := σ) [.int ((F_Row_at σ (t + 1) 400 v2))] [] (C_Text_isLetter (Cx_gok X) σ ((F_Row_at σ (t + 1) 400 v2))) gs_X7_94 yk_X7_isLetter rfl ⟨Nat.le_of_ble_eq_true rfl, Nat.le_of_ble_eq_true rfl⟩ ⟨Nat.le_of_ble_eq_true rfl, Nat.le_of_ble_eq_true rfl⟩ (Nat.le_of_ble_eq_true rfl) dX7_stopOf_49 rfl ?_
        refine e_if_ne X 74 dX7_stopOf_52 (by decide) (fun c9 => ?_) (fun c9 => ?_)
        · skip
          rw [if_neg c9] at hB
          refine e_iinc X 1 dX7_stopOf_74 rfl rfl (by decide) ?_
          obtain ⟨x10, h_x10, hB⟩ := bindT_out hB
          rw [← h_x10]
          refine e_goto X 29 dX7_stopOf_77 (by decide) ?_
          have hy9 := Option.some.inj hB; change (.inl x10) = y9 at hy9; subst hy9
          exact e_le (ih x10 hF hK) (And.intro rfl (And.intro rfl (And.intro rfl (And.intro rfl (And.intro rfl (trivial))))))
        · skip
          rw [if_pos c9] at hB
          refine e_iload X dX7_stopOf_55 rfl ?_
          refine e_if_eq X 80 dX7_stopOf_57 (by decide) (fun c11 => ?_) (fun c11 => ?_)
          · skip
            rw [if_pos c11] at hB
            have hy9 := Option.some.inj hB; change (.inr v2) = y9 at hy9; subst hy9
            have hz9 := Option.some.inj hF; change (v2) = z at hz9; subst hz9
            exact e_le hK (And.intro rfl (And.intro rfl (And.intro rfl (And.intro rfl (And.intro rfl (trivial))))))
          · skip
            rw [if_neg c11] at hB
            refine e_aload_n X dX7_stopOf_60 rfl rfl ?_
            refine ge_Text_bytes X gt wf_X7_14 dX7_stopOf_61 ?_
            refine e_iload_n X dX7_stopOf_64 rfl rfl ?_
            refine e_callVi X (r := (F_Row_at σ (t + 1) 400 v2)) (σ1 := σ) [.int v2] [] (C_Row_at (Cx_gok X) σ (t + 1) 400 v2 gt.2.1) gv_X7_87 yk_X6_at rfl (ent_lt gt.2.1.1) (ent_at gt.2.1.1 _) (rfl : vCl[6]? = some (RX6, TX6, 1)) ⟨Nat.le_of_ble_eq_true rfl, Nat.le_of_ble_eq_true rfl⟩ ⟨Nat.le_of_ble_eq_true rfl, Nat.le_of_ble_eq_true rfl⟩ (Nat.le_of_ble_eq_true rfl) dX7_stopOf_65 rfl ?_
            refine e_callSi X (r := (F_Text_isDigit σ ((F_Row_at σ (t + 1) 400 v2)))) (σ1 := σ) [.int ((F_Row_at σ (t + 1) 400 v2))] [] (C_Text_isDigit (Cx_gok X) σ ((F_Row_at σ (t + 1) 400 v2))) gs_X7_98 yk_X7_isDigit rfl ⟨Nat.le_of_ble_eq_true rfl, Nat.le_of_ble_eq_true rfl⟩ ⟨Nat.le_of_ble_eq_true rfl, Nat.le_of_ble_eq_true rfl⟩ (Nat.le_of_ble_eq_true rfl) dX7_stopOf_68 rfl ?_
            refine e_if_eq X 80 dX7_stopOf_71 (by decide) (fun c12 => ?_) (fun c12 => ?_)
            · skip
              rw [if_pos c12] at hB
              have hy9 := Option.some.inj hB; change (.inr v2) = y9 at hy9; subst hy9
              have hz9 := Option.some.inj hF; change (v2) = z at hz9; subst hz9
              exact e_le hK (And.intro rfl (And.intro rfl (And.intro rfl (And.intro rfl (And.intro rfl (trivial))))))
            · skip
              rw [if_neg c12] at hB
              refine e_iinc X 1 dX7_stopOf_74 rfl rfl (by decide) ?_
              obtain ⟨x13, h_x13, hB⟩ := bindT_out hB
              rw [← h_x13]
              refine e_goto X 29 dX7_stopOf_77 (by decide) ?_
              have hy9 := Option.some.inj hB; change (.inl x13) = y9 at hy9; subst hy9
              exact e_le (ih x13 hF hK) (And.intro rfl (And.intro rfl (And.intro rfl (And.intro rfl (And.intro rfl (trivial))))))
set_option maxRecDepth 20000 in
set_option maxHeartbeats 4000000 in
theorem C_Text_stopOf (hG : Gok l Γ D s0) (σ : Mem) (t : Nat) (v1 : Int32) (gt : isText t) {out : Int32} (hF : F_Text_stopOf σ t v1 = some out) : CT l Γ D s0 yX7_stopOf cX7_stopOf 5 (some .int) (1) 0 0 (21) σ [.ref (Γ.1 + t), .int v1] (PI (some (.int out)) σ) := by
  unfold F_Text_stopOf at hF
  refine e_met (own := RX7) hG (by decide +kernel) rfl rfl (Nat.le_of_ble_eq_true rfl) ?_
  intro p e s m args below meth c X hr
  show E p l e _ s m args below meth c Γ D 0 0 _ σ 0 [some (.ref (Γ.1 + t)), some (.int v1), none, none, none] []
  refine e_iload_n X dX7_stopOf_0 rfl rfl ?_
  refine e_iconst X 1 dX7_stopOf_1 rfl ?_
  refine e_iadd X dX7_stopOf_2 ?_
  obtain ⟨x1, h_x1, hF⟩ := bindT_out hF
  refine e_istore_n X h_x1 dX7_stopOf_3 rfl (by decide) ?_
  refine e_aload_n X dX7_stopOf_4 rfl rfl ?_
  refine ge_Text_bytes X gt wf_X7_14 dX7_stopOf_5 ?_
  refine e_iload_n X dX7_stopOf_8 rfl rfl ?_
  refine e_callVi X (r := (F_Row_at σ (t + 1) 400 v1)) (σ1 := σ) [.int v1] [] (C_Row_at (Cx_gok X) σ (t + 1) 400 v1 gt.2.1) gv_X7_87 yk_X6_at rfl (ent_lt gt.2.1.1) (ent_at gt.2.1.1 _) (rfl : vCl[6]? = some (RX6, TX6, 1)) ⟨Nat.le_of_ble_eq_true rfl, Nat.le_of_ble_eq_true rfl⟩ ⟨Nat.le_of_ble_eq_true rfl, Nat.le_of_ble_eq_true rfl⟩ (Nat.le_of_ble_eq_true rfl) dX7_stopOf_9 rfl ?_
  refine e_callSi X (r := (F_Text_isLetter σ ((F_Row_at σ (t + 1) 400 v1)))) (σ1 := σ) [.int ((F_Row_at σ (t + 1) 400 v1))] [] (C_Text_isLetter (Cx_gok X) σ ((F_Row_at σ (t + 1) 400 v1))) gs_X7_94 yk_X7_isLetter rfl ⟨Nat.le_of_ble_eq_true rfl, Nat.le_of_ble_eq_true rfl⟩ ⟨Nat.le_of_ble_eq_true rfl, Nat.le_of_ble_eq_true rfl⟩ (Nat.le_of_ble_eq_true rfl) dX7_stopOf_12 rfl ?_
  obtain ⟨x2, h_x2, hF⟩ := bindT_out hF
  refine e_istore_n X h_x2 dX7_stopOf_15 rfl (by decide) ?_
  refine e_aload_n X dX7_stopOf_16 rfl rfl ?_
  refine ge_Text_bytes X gt wf_X7_14 dX7_stopOf_17 ?_
  refine e_iload_n X dX7_stopOf_20 rfl rfl ?_
  refine e_callVi X (r := (F_Row_at σ (t + 1) 400 v1)) (σ1 := σ) [.int v1] [] (C_Row_at (Cx_gok X) σ (t + 1) 400 v1 gt.2.1) gv_X7_87 yk_X6_at rfl (ent_lt gt.2.1.1) (ent_at gt.2.1.1 _) (rfl : vCl[6]? = some (RX6, TX6, 1)) ⟨Nat.le_of_ble_eq_true rfl, Nat.le_of_ble_eq_true rfl⟩ ⟨Nat.le_of_ble_eq_true rfl, Nat.le_of_ble_eq_true rfl⟩ (Nat.le_of_ble_eq_true rfl) dX7_stopOf_21 rfl ?_
  refine e_callSi X (r := (F_Text_isDigit σ ((F_Row_at σ (t + 1) 400 v1)))) (σ1 := σ) [.int ((F_Row_at σ (t + 1) 400 v1))] [] (C_Text_isDigit (Cx_gok X) σ ((F_Row_at σ (t + 1) 400 v1))) gs_X7_98 yk_X7_isDigit rfl ⟨Nat.le_of_ble_eq_true rfl, Nat.le_of_ble_eq_true rfl⟩ ⟨Nat.le_of_ble_eq_true rfl, Nat.le_of_ble_eq_true rfl⟩ (Nat.le_of_ble_eq_true rfl) dX7_stopOf_24 rfl ?_
  obtain ⟨x3, h_x3, hF⟩ := bindT_out hF
  refine e_istore X h_x3 dX7_stopOf_27 (by decide) ?_
  obtain ⟨z14, h_z14, hF⟩ := obind_out hF
  refine e_le (L_Text_stopOf_29 X hr σ t v1 x2 x3 gt _ x1 h_z14 ?_) (And.intro rfl (And.intro rfl (And.intro rfl (And.intro rfl (And.intro rfl (trivial))))))
  refine e_iload_n X dX7_stopOf_80 rfl rfl ?_
  exact e_iret X hr dX7_stopOf_81 (Nat.le_of_ble_eq_true rfl) (Nat.le_of_ble_eq_true rfl) (by cases hF; exact ⟨rfl, rfl⟩)
set_option maxRecDepth 20000 in
set_option maxHeartbeats 4000000 in
theorem C_Text_addThing (hG : Gok l Γ D s0) (σ : Mem) (t : Nat) (v1 : Int32) (v2 : Int32) (gt : isText t) {out : Mem} (hF : F_Text_addThing σ t v1 v2 = some out) : CT l Γ D s0 yX7_addThing cX7_addThing 4 none (6) 0 0 (135) σ [.ref (Γ.1 + t), .int v1, .int v2] (PI none out) := by
  unfold F_Text_addThing at hF
  refine e_met (own := RX7) hG (by decide +kernel) rfl rfl (Nat.le_of_ble_eq_true rfl) ?_
  intro p e s m args below meth c X hr
  show E p l e _ s m args below meth c Γ D 0 0 _ σ 0 [some (.ref (Γ.1 + t)), some (.int v1), some (.int v2), none] []
  refine e_aload_n X dX7_addThing_0 rfl rfl ?_
  refine ge_Text_things X gt wf_X7_80 dX7_addThing_1 ?_
  refine e_if_lt X 148 dX7_addThing_4 (by decide) (fun c1 => ?_) (fun c1 => ?_)
  · skip
    rw [if_pos c1] at hF
    exact e_vret X hr dX7_addThing_148 (Nat.le_of_ble_eq_true rfl) (Nat.le_of_ble_eq_true rfl) (by cases hF; exact ⟨rfl, rfl⟩)
  · skip
    rw [if_neg c1] at hF
    refine e_aload_n X dX7_addThing_7 rfl rfl ?_
    refine ge_Text_things X gt wf_X7_80 dX7_addThing_8 ?_
    refine e_aload_n X dX7_addThing_11 rfl rfl ?_
    refine ge_Text_kinds X gt wf_X7_22 dX7_addThing_12 ?_
    refine e_klen X 400 gt.2.2.1 rfl dX7_addThing_15 ?_
    refine e_icmp_ge X 148 dX7_addThing_16 (by decide) (fun c2 => ?_) (fun c2 => ?_)
    · skip
      rw [if_neg c2] at hF
      exact e_vret X hr dX7_addThing_148 (Nat.le_of_ble_eq_true rfl) (Nat.le_of_ble_eq_true rfl) (by cases hF; exact ⟨rfl, rfl⟩)
    · skip
      rw [if_pos c2] at hF
      refine e_aload_n X dX7_addThing_19 rfl rfl ?_
      refine ge_Text_things X gt wf_X7_80 dX7_addThing_20 ?_
      refine e_aload_n X dX7_addThing_23 rfl rfl ?_
      refine ge_Text_begins X gt wf_X7_26 dX7_addThing_24 ?_
      refine e_alen X 400 gt.2.2.2.1 rfl dX7_addThing_27 ?_
      refine e_icmp_ge X 148 dX7_addThing_28 (by decide) (fun c3 => ?_) (fun c3 => ?_)
      · skip
        rw [if_neg c3] at hF
        exact e_vret X hr dX7_addThing_148 (Nat.le_of_ble_eq_true rfl) (Nat.le_of_ble_eq_true rfl) (by cases hF; exact ⟨rfl, rfl⟩)
      · skip
        rw [if_pos c3] at hF
        refine e_aload_n X dX7_addThing_31 rfl rfl ?_
        refine ge_Text_things X gt wf_X7_80 dX7_addThing_32 ?_
        refine e_aload_n X dX7_addThing_35 rfl rfl ?_
        refine ge_Text_stops X gt wf_X7_30 dX7_addThing_36 ?_
        refine e_alen X 400 gt.2.2.2.2.1 rfl dX7_addThing_39 ?_
        refine e_icmp_ge X 148 dX7_addThing_40 (by decide) (fun c4 => ?_) (fun c4 => ?_)
        · skip
          rw [if_neg c4] at hF
          exact e_vret X hr dX7_addThing_148 (Nat.le_of_ble_eq_true rfl) (Nat.le_of_ble_eq_true rfl) (by cases hF; exact ⟨rfl, rfl⟩)
        · skip
          rw [if_pos c4] at hF
          refine e_aload_n X dX7_addThing_43 rfl rfl ?_
          refine ge_Text_things X gt wf_X7_80 dX7_addThing_44 ?_
          refine e_aload_n X dX7_addThing_47 rfl rfl ?_
          refine ge_Text_numbers X gt wf_X7_33 dX7_addThing_48 ?_
          refine e_alen X 400 gt.2.2.2.2.2 rfl dX7_addThing_51 ?_
          refine e_icmp_ge X 148 dX7_addThing_52 (by decide) (fun c5 => ?_) (fun c5 => ?_)
          · skip
            rw [if_neg c5] at hF
            exact e_vret X hr dX7_addThing_148 (Nat.le_of_ble_eq_true rfl) (Nat.le_of_ble_eq_true rfl) (by cases hF; exact ⟨rfl, rfl⟩)
          · skip
            rw [if_pos c5] at hF
            refine e_aload_n X dX7_addThing_55 rfl rfl ?_
            refine ge_Text_bytes X gt wf_X7_14 dX7_addThing_56 ?_
            refine e_iload_n X dX7_addThing_59 rfl rfl ?_
            refine e_callVi X (r := (F_Row_at σ (t + 1) 400 v1)) (σ1 := σ) [.int v1] [] (C_Row_at (Cx_gok X) σ (t + 1) 400 v1 gt.2.1) gv_X7_87 yk_X6_at rfl (ent_lt gt.2.1.1) (ent_at gt.2.1.1 _) (rfl : vCl[6]? = some (RX6, TX6, 1)) ⟨Nat.le_of_ble_eq_true rfl, Nat.le_of_ble_eq_true rfl⟩ ⟨Nat.le_of_ble_eq_true rfl, Nat.le_of_ble_eq_true rfl⟩ (Nat.le_of_ble_eq_true rfl) dX7_addThing_60 rfl ?_
            refine e_callSi X (r := (F_Text_isDigit σ ((F_Row_at σ (t + 1) 400 v1)))) (σ1 := σ) [.int ((F_Row_at σ (t + 1) 400 v1))] [] (C_Text_isDigit (Cx_gok X) σ ((F_Row_at σ (t + 1) 400 v1))) gs_X7_98 yk_X7_isDigit rfl ⟨Nat.le_of_ble_eq_true rfl, Nat.le_of_ble_eq_true rfl⟩ ⟨Nat.le_of_ble_eq_true rfl, Nat.le_of_ble_eq_true rfl⟩ (Nat.le_of_ble_eq_true rfl) dX7_addThing_63 rfl ?_
            obtain ⟨x6, h_x6, hF⟩ := bindT_out hF
            refine e_istore_n X h_x6 dX7_addThing_66 rfl (by decide) ?_
            refine e_aload_n X dX7_addThing_67 rfl rfl ?_
            refine ge_Text_kinds X gt wf_X7_22 dX7_addThing_68 ?_
            refine e_aload_n X dX7_addThing_71 rfl rfl ?_
            refine ge_Text_things X gt wf_X7_80 dX7_addThing_72 ?_
            refine e_iload_n X dX7_addThing_75 rfl rfl ?_
            refine e_if_eq X 85 dX7_addThing_76 (by decide) (fun c7 => ?_) (fun c7 => ?_)
            · skip
              rw [if_pos c7] at hF
              refine e_aload_n X dX7_addThing_85 rfl rfl ?_
              refine ge_Text_bytes X gt wf_X7_14 dX7_addThing_86 ?_
              refine e_iload_n X dX7_addThing_89 rfl rfl ?_
              refine e_iload_n X dX7_addThing_90 rfl rfl ?_
              obtain ⟨z8, h_z8, hF⟩ := obind_out hF
              refine e_callSOr X (σ1 := σ) (va_rf (kop Γ z8)) [.ref (Γ.1 + (t + 1)), .int v1, .int v2] [.int ((σ t 5)), .ref (Γ.1 + (t + 3))] (C_Kind_spelt (Cx_gok X) σ (t + 1) 400 v1 v2 gt.2.1 h_z8) gb_X1_spelt wm_X7_104 ws_X1_spelt wz_X1 yk_X1_spelt.2 rfl ⟨Nat.le_of_ble_eq_true rfl, Nat.le_of_ble_eq_true rfl⟩ ⟨Nat.le_of_ble_eq_true rfl, Nat.le_of_ble_eq_true rfl⟩ (Nat.le_of_ble_eq_true rfl) dX7_addThing_91 rfl ?_
              obtain ⟨c9, hF⟩ := chk_out hF
              obtain ⟨σ10, h_σ10, hF⟩ := bindT_out hF
              refine e_kast X (j := ((σ t 5)).toNatClampNeg) rfl c9 gt.2.2.1 (vp_gc (by decide) c1 c5) rfl dX7_addThing_94 h_σ10 ?_
              refine e_aload_n X dX7_addThing_95 rfl rfl ?_
              refine ge_Text_begins X gt wf_X7_26 dX7_addThing_96 ?_
              refine e_aload_n X dX7_addThing_99 rfl rfl ?_
              refine ge_Text_things X gt wf_X7_80 dX7_addThing_100 ?_
              refine e_iload_n X dX7_addThing_103 rfl rfl ?_
              obtain ⟨i11, h_i11, hF⟩ := bindT_out hF
              obtain ⟨c12, hF⟩ := chk_out hF
              obtain ⟨σ13, h_σ13, hF⟩ := bindT_out hF
              refine e_iast X (j := i11.toNatClampNeg) h_i11 gt.2.2.2.1 (inb_in c12) rfl dX7_addThing_104 h_σ13 ?_
              refine e_aload_n X dX7_addThing_105 rfl rfl ?_
              refine ge_Text_stops X gt wf_X7_30 dX7_addThing_106 ?_
              refine e_aload_n X dX7_addThing_109 rfl rfl ?_
              refine ge_Text_things X gt wf_X7_80 dX7_addThing_110 ?_
              refine e_iload_n X dX7_addThing_113 rfl rfl ?_
              obtain ⟨i14, h_i14, hF⟩ := bindT_out hF
              obtain ⟨c15, hF⟩ := chk_out hF
              obtain ⟨σ16, h_σ16, hF⟩ := bindT_out hF
              refine e_iast X (j := i14.toNatClampNeg) h_i14 gt.2.2.2.2.1 (inb_in c15) rfl dX7_addThing_114 h_σ16 ?_
              refine e_aload_n X dX7_addThing_115 rfl rfl ?_
              refine ge_Text_numbers X gt wf_X7_33 dX7_addThing_116 ?_
              refine e_aload_n X dX7_addThing_119 rfl rfl ?_
              refine ge_Text_things X gt wf_X7_80 dX7_addThing_120 ?_
              refine e_iload_n X dX7_addThing_123 rfl rfl ?_
              refine e_if_eq X 136 dX7_addThing_124 (by decide) (fun c17 => ?_) (fun c17 => ?_)
              · skip
                rw [if_pos c17] at hF
                refine e_iconst X (-1) dX7_addThing_136 rfl ?_
                obtain ⟨i18, h_i18, hF⟩ := bindT_out hF
                obtain ⟨c19, hF⟩ := chk_out hF
                obtain ⟨σ20, h_σ20, hF⟩ := bindT_out hF
                refine e_iast X (j := i18.toNatClampNeg) h_i18 gt.2.2.2.2.2 (inb_in c19) rfl dX7_addThing_137 h_σ20 ?_
                refine e_aload_n X dX7_addThing_138 rfl rfl ?_
                refine e_dup X dX7_addThing_139 rfl ?_
                refine ge_Text_things X gt wf_X7_80 dX7_addThing_140 ?_
                refine e_iconst X 1 dX7_addThing_143 rfl ?_
                refine e_iadd X dX7_addThing_144 ?_
                obtain ⟨σ21, h_σ21, hF⟩ := bindT_out hF
                refine pu_Text_things X gt wf_X7_80 dX7_addThing_145 h_σ21 ?_
                exact e_vret X hr dX7_addThing_148 (Nat.le_of_ble_eq_true rfl) (Nat.le_of_ble_eq_true rfl) (by cases hF; exact ⟨rfl, rfl⟩)
              · skip
                rw [if_neg c17] at hF
                refine e_aload_n X dX7_addThing_127 rfl rfl ?_
                refine e_iload_n X dX7_addThing_128 rfl rfl ?_
                refine e_iload_n X dX7_addThing_129 rfl rfl ?_
                refine e_callTi X (r := (F_Text_numberAt σ16 t v1 v2)) (σ1 := σ16) [.int v1, .int v2] [.int ((σ16 t 5)), .ref (Γ.1 + (t + 6))] (C_Text_numberAt (Cx_gok X) σ16 t v1 v2 gt) gu_X7_108_X10 gu_X7_108_X3 rfl ykx_X7_numberAt rfl gt.1 ⟨Nat.le_of_ble_eq_true rfl, Nat.le_of_ble_eq_true rfl⟩ ⟨Nat.le_of_ble_eq_true rfl, Nat.le_of_ble_eq_true rfl⟩ (Nat.le_of_ble_eq_true rfl) dX7_addThing_130 rfl ?_
                refine e_goto X 137 dX7_addThing_133 (by decide) ?_
                obtain ⟨i22, h_i22, hF⟩ := bindT_out hF
                obtain ⟨c23, hF⟩ := chk_out hF
                obtain ⟨σ24, h_σ24, hF⟩ := bindT_out hF
                refine e_iast X (j := i22.toNatClampNeg) h_i22 gt.2.2.2.2.2 (inb_in c23) rfl dX7_addThing_137 h_σ24 ?_
                refine e_aload_n X dX7_addThing_138 rfl rfl ?_
                refine e_dup X dX7_addThing_139 rfl ?_
                refine ge_Text_things X gt wf_X7_80 dX7_addThing_140 ?_
                refine e_iconst X 1 dX7_addThing_143 rfl ?_
                refine e_iadd X dX7_addThing_144 ?_
                obtain ⟨σ25, h_σ25, hF⟩ := bindT_out hF
                refine pu_Text_things X gt wf_X7_80 dX7_addThing_145 h_σ25 ?_
                exact e_vret X hr dX7_addThing_148 (Nat.le_of_ble_eq_true rfl) (Nat.le_of_ble_eq_true rfl) (by cases hF; exact ⟨rfl, rfl⟩)
            · skip
              rw [if_neg c7] at hF
              refine e_kstatic X 28 rfl rfl wf_X7_101 dX7_addThing_79 ?_
              refine e_goto X 94 dX7_addThing_82 (by decide) ?_
              obtain ⟨σ26, h_σ26, hF⟩ := bindT_out hF
              refine e_kast X (j := ((σ t 5)).toNatClampNeg) rfl rfl gt.2.2.1 (vp_gc (by decide) c1 c5) rfl dX7_addThing_94 h_σ26 ?_
              refine e_aload_n X dX7_addThing_95 rfl rfl ?_
              refine ge_Text_begins X gt wf_X7_26 dX7_addThing_96 ?_
              refine e_aload_n X dX7_addThing_99 rfl rfl ?_
              refine ge_Text_things X gt wf_X7_80 dX7_addThing_100 ?_
              refine e_iload_n X dX7_addThing_103 rfl rfl ?_
              obtain ⟨i27, h_i27, hF⟩ := bindT_out hF
              obtain ⟨c28, hF⟩ := chk_out hF
              obtain ⟨σ29, h_σ29, hF⟩ := bindT_out hF
              refine e_iast X (j := i27.toNatClampNeg) h_i27 gt.2.2.2.1 (inb_in c28) rfl dX7_addThing_104 h_σ29 ?_
              refine e_aload_n X dX7_addThing_105 rfl rfl ?_
              refine ge_Text_stops X gt wf_X7_30 dX7_addThing_106 ?_
              refine e_aload_n X dX7_addThing_109 rfl rfl ?_
              refine ge_Text_things X gt wf_X7_80 dX7_addThing_110 ?_
              refine e_iload_n X dX7_addThing_113 rfl rfl ?_
              obtain ⟨i30, h_i30, hF⟩ := bindT_out hF
              obtain ⟨c31, hF⟩ := chk_out hF
              obtain ⟨σ32, h_σ32, hF⟩ := bindT_out hF
              refine e_iast X (j := i30.toNatClampNeg) h_i30 gt.2.2.2.2.1 (inb_in c31) rfl dX7_addThing_114 h_σ32 ?_
              refine e_aload_n X dX7_addThing_115 rfl rfl ?_
              refine ge_Text_numbers X gt wf_X7_33 dX7_addThing_116 ?_
              refine e_aload_n X dX7_addThing_119 rfl rfl ?_
              refine ge_Text_things X gt wf_X7_80 dX7_addThing_120 ?_
              refine e_iload_n X dX7_addThing_123 rfl rfl ?_
              refine e_if_eq X 136 dX7_addThing_124 (by decide) (fun c33 => ?_) (fun c33 => ?_)
              · skip
                rw [if_pos c33] at hF
                refine e_iconst X (-1) dX7_addThing_136 rfl ?_
                obtain ⟨i34, h_i34, hF⟩ := bindT_out hF
                obtain ⟨c35, hF⟩ := chk_out hF
                obtain ⟨σ36, h_σ36, hF⟩ := bindT_out hF
                refine e_iast X (j := i34.toNatClampNeg) h_i34 gt.2.2.2.2.2 (inb_in c35) rfl dX7_addThing_137 h_σ36 ?_
                refine e_aload_n X dX7_addThing_138 rfl rfl ?_
                refine e_dup X dX7_addThing_139 rfl ?_
                refine ge_Text_things X gt wf_X7_80 dX7_addThing_140 ?_
                refine e_iconst X 1 dX7_addThing_143 rfl ?_
                refine e_iadd X dX7_addThing_144 ?_
                obtain ⟨σ37, h_σ37, hF⟩ := bindT_out hF
                refine pu_Text_things X gt wf_X7_80 dX7_addThing_145 h_σ37 ?_
                exact e_vret X hr dX7_addThing_148 (Nat.le_of_ble_eq_true rfl) (Nat.le_of_ble_eq_true rfl) (by cases hF; exact ⟨rfl, rfl⟩)
              · skip
                rw [if_neg c33] at hF
                refine e_aload_n X dX7_addThing_127 rfl rfl ?_
                refine e_iload_n X dX7_addThing_128 rfl rfl ?_
                refine e_iload_n X dX7_addThing_129 rfl rfl ?_
                refine e_callTi X (r := (F_Text_numberAt σ32 t v1 v2)) (σ1 := σ32) [.int v1, .int v2] [.int ((σ32 t 5)), .ref (Γ.1 + (t + 6))] (C_Text_numberAt (Cx_gok X) σ32 t v1 v2 gt) gu_X7_108_X10 gu_X7_108_X3 rfl ykx_X7_numberAt rfl gt.1 ⟨Nat.le_of_ble_eq_true rfl, Nat.le_of_ble_eq_true rfl⟩ ⟨Nat.le_of_ble_eq_true rfl, Nat.le_of_ble_eq_true rfl⟩ (Nat.le_of_ble_eq_true rfl) dX7_addThing_130 rfl ?_
                refine e_goto X 137 dX7_addThing_133 (by decide) ?_
                obtain ⟨i38, h_i38, hF⟩ := bindT_out hF
                obtain ⟨c39, hF⟩ := chk_out hF
                obtain ⟨σ40, h_σ40, hF⟩ := bindT_out hF
                refine e_iast X (j := i38.toNatClampNeg) h_i38 gt.2.2.2.2.2 (inb_in c39) rfl dX7_addThing_137 h_σ40 ?_
                refine e_aload_n X dX7_addThing_138 rfl rfl ?_
                refine e_dup X dX7_addThing_139 rfl ?_
                refine ge_Text_things X gt wf_X7_80 dX7_addThing_140 ?_
                refine e_iconst X 1 dX7_addThing_143 rfl ?_
                refine e_iadd X dX7_addThing_144 ?_
                obtain ⟨σ41, h_σ41, hF⟩ := bindT_out hF
                refine pu_Text_things X gt wf_X7_80 dX7_addThing_145 h_σ41 ?_
                exact e_vret X hr dX7_addThing_148 (Nat.le_of_ble_eq_true rfl) (Nat.le_of_ble_eq_true rfl) (by cases hF; exact ⟨rfl, rfl⟩)
set_option maxRecDepth 20000 in
set_option maxHeartbeats 4000000 in
theorem L_Text_cut_9 (X : Cx p l s m args meth c Γ D s0 RX7 cX7_cut 4) (hr : meth.sig.returnType = none) (t : Nat) (gt : isText t) : ∀ (n : Nat) (v2 : Int32) (v1 : Int32) (σ : Mem) {z : Int32 × Mem}, omap mrg (forGO (fun i s => F_Text_cut_9_b t i s.1 s.2) n v2 (v1, σ)) = some z → n = cnt v2 400 → ¬ v2 < 0 → (E p l e ({ frames := 7, cells := 0, slots := 0, locals := 158 } : Room) s m args below meth c Γ D 0 0 (MQ below (QcA Γ D Pst) args s 0 0 (frB Γ)) z.2 57 [some (.ref (Γ.1 + t)), some (.int z.1), none, none] []) → E p l e ({ frames := 7, cells := 0, slots := 0, locals := 158 } : Room) s m args below meth c Γ D 0 0 (MQ below (QcA Γ D Pst) args s 0 0 (frB Γ)) σ 9 [some (.ref (Γ.1 + t)), some (.int v1), some (.int v2), none] [] := by
  intro n
  induction n with
  | zero =>
    intro v2 v1 σ z hF hn h0 hK
    refine e_iload_n X dX7_cut_9 rfl rfl ?_
    refine e_sipush X 400 dX7_cut_10 rfl ?_
    refine e_icmp_ge X 57 dX7_cut_13 (by decide) (fun c7 => ?_) (fun c7 => ?_)
    · skip
      have hz9 := Option.some.inj hF; change ((v1, σ)) = z at hz9; subst hz9
      exact e_le hK (And.intro rfl (And.intro rfl (trivial)))
    · skip
      exact absurd c7 (cnt0 hn)
  | succ n ih =>
    intro v2 v1 σ z hF hn h0 hK
    obtain ⟨y9, hB, hF⟩ := forBO_step hF
    change F_Text_cut_9_b t v2 v1 σ = some y9 at hB
    unfold F_Text_cut_9_b at hB
    refine e_iload_n X dX7_cut_9 rfl rfl ?_
    refine e_sipush X 400 dX7_cut_10 rfl ?_
    refine e_icmp_ge X 57 dX7_cut_13 (by decide) (fun c2 => ?_) (fun c2 => ?_)
    · skip
      exact absurd (cntS hn) c2
    · skip
      refine e_iload_n X dX7_cut_16 rfl rfl ?_
      refine e_aload_n X dX7_cut_17 rfl rfl ?_
      refine ge_Text_length X gt wf_X7_54 dX7_cut_18 ?_
      refine e_icmp_ge X 57 dX7_cut_21 (by decide) (fun c3 => ?_) (fun c3 => ?_)
      · skip
        rw [if_neg c3] at hB
        have hy9 := Option.some.inj hB; change (.inr ((v1, σ))) = y9 at hy9; subst hy9
        have hz9 := Option.some.inj hF; change ((v1, σ)) = z at hz9; subst hz9
        exact e_le hK (And.intro rfl (And.intro rfl (trivial)))
      · skip
        rw [if_pos c3] at hB
        refine e_aload_n X dX7_cut_24 rfl rfl ?_
        refine e_iload_n X dX7_cut_25 rfl rfl ?_
        obtain ⟨z4, h_z4, hB⟩ := obind_out hB
        refine e_callTi X (r := z4) (σ1 := σ) [.int v1] [] (C_Text_stopOf (Cx_gok X) σ t v1 gt h_z4) gu_X7_83_X10 gu_X7_83_X3 rfl ykx_X7_stopOf rfl gt.1 ⟨Nat.le_of_ble_eq_true rfl, Nat.le_of_ble_eq_true rfl⟩ ⟨Nat.le_of_ble_eq_true rfl, Nat.le_of_ble_eq_true rfl⟩ (Nat.le_of_ble_eq_true rfl) dX7_cut_26 rfl ?_
        refine e_istore_n X rfl dX7_cut_29 rfl (by decide) ?_
        refine e_aload_n X dX7_cut_30 rfl rfl ?_
        refine ge_Text_bytes X gt wf_X7_14 dX7_cut_31 ?_
        refine e_iload_n X dX7_cut_34 rfl rfl ?_
        refine e_callVi X (r := (F_Row_at σ (t + 1) 400 v1)) (σ1 := σ) [.int v1] [] (C_Row_at (Cx_gok X) σ (t + 1) 400 v1 gt.2.1) gv_X7_87 yk_X6_at rfl (ent_lt gt.2.1.1) (ent_at gt.2.1.1 _) (rfl : vCl[6]? = some (RX6, TX6, 1)) ⟨Nat.le_of_ble_eq_true rfl, Nat.le_of_ble_eq_true rfl⟩ ⟨Nat.le_of_ble_eq_true rfl, Nat.le_of_ble_eq_true rfl⟩ (Nat.le_of_ble_eq_true rfl) dX7_cut_35 rfl ?_
        refine e_bipush X 32 dX7_cut_38 rfl ?_
        refine e_icmp_eq X 49 dX7_cut_40 (by decide) (fun c5 => ?_) (fun c5 => ?_)
        · skip
          rw [if_pos c5] at hB
          refine e_iload_n X dX7_cut_49 rfl rfl ?_
          refine e_istore_n X rfl dX7_cut_50 rfl (by decide) ?_
          refine e_iinc X 1 dX7_cut_51 rfl rfl (by decide) ?_
          refine e_goto X 9 dX7_cut_54 (by decide) ?_
          have hy9 := Option.some.inj hB; change (.inl ((z4, σ))) = y9 at hy9; subst hy9
          exact e_le (ih _ z4 σ hF (cntN hn) (nnN h0 (cnt_hi hn)) hK) (And.intro rfl (And.intro rfl (And.intro rfl (trivial))))
        · skip
          rw [if_neg c5] at hB
          refine e_aload_n X dX7_cut_43 rfl rfl ?_
          refine e_iload_n X dX7_cut_44 rfl rfl ?_
          refine e_iload_n X dX7_cut_45 rfl rfl ?_
          obtain ⟨z6, h_z6, hB⟩ := obind_out hB
          refine e_callTv X (σ1 := z6) [.int v1, .int z4] [] (C_Text_addThing (Cx_gok X) σ t v1 z4 gt h_z6) gu_X7_90_X10 gu_X7_90_X3 rfl ykx_X7_addThing rfl gt.1 ⟨Nat.le_of_ble_eq_true rfl, Nat.le_of_ble_eq_true rfl⟩ ⟨Nat.le_of_ble_eq_true rfl, Nat.le_of_ble_eq_true rfl⟩ (Nat.le_of_ble_eq_true rfl) dX7_cut_46 rfl ?_
          refine e_iload_n X dX7_cut_49 rfl rfl ?_
          refine e_istore_n X rfl dX7_cut_50 rfl (by decide) ?_
          refine e_iinc X 1 dX7_cut_51 rfl rfl (by decide) ?_
          refine e_goto X 9 dX7_cut_54 (by decide) ?_
          have hy9 := Option.some.inj hB; change (.inl ((z4, z6))) = y9 at hy9; subst hy9
          exact e_le (ih _ z4 z6 hF (cntN hn) (nnN h0 (cnt_hi hn)) hK) (And.intro rfl (And.intro rfl (And.intro rfl (trivial))))
set_option maxRecDepth 20000 in
set_option maxHeartbeats 4000000 in
theorem C_Text_cut (hG : Gok l Γ D s0) (σ : Mem) (t : Nat) (gt : isText t) {out : Mem} (hF : F_Text_cut σ t = some out) : CT l Γ D s0 yX7_cut cX7_cut 4 none (7) 0 0 (158) σ [.ref (Γ.1 + t)] (PI none out) := by
  unfold F_Text_cut at hF
  refine e_met (own := RX7) hG (by decide +kernel) rfl rfl (Nat.le_of_ble_eq_true rfl) ?_
  intro p e s m args below meth c X hr
  show E p l e _ s m args below meth c Γ D 0 0 _ σ 0 [some (.ref (Γ.1 + t)), none, none, none] []
  refine e_aload_n X dX7_cut_0 rfl rfl ?_
  refine e_iconst X 0 dX7_cut_1 rfl ?_
  obtain ⟨σ1, h_σ1, hF⟩ := bindT_out hF
  refine pu_Text_things X gt wf_X7_80 dX7_cut_2 h_σ1 ?_
  refine e_iconst X 0 dX7_cut_5 rfl ?_
  refine e_istore_n X rfl dX7_cut_6 rfl (by decide) ?_
  refine e_iconst X 0 dX7_cut_7 rfl ?_
  refine e_istore_n X rfl dX7_cut_8 rfl (by decide) ?_
  obtain ⟨z8, h_z8, hF⟩ := obind_out hF
  refine e_le (L_Text_cut_9 X hr t gt _ 0 0 σ1 h_z8 rfl (by decide) ?_) (And.intro rfl (And.intro rfl (And.intro rfl (trivial))))
  exact e_vret X hr dX7_cut_57 (Nat.le_of_ble_eq_true rfl) (Nat.le_of_ble_eq_true rfl) (by cases hF; exact ⟨rfl, rfl⟩)
end PART

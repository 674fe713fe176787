section PART
variable {p : Program} {l : Launch} {e : Env} {R : Room} {s : State} {m : MethodId} {args : Array Value} {below : List Frame} {meth : Method} {c : Code} {Γ : Gm} {D : va_G} {s0 : State} {cells slots : Nat} {Q : State → Prop} {own : String} {cc : ByteArray} {nL : Nat} {σ : Mem} {pc : Nat} {lv : List (Option Value)} {st : List Value} {Pst : Option Value → Mem → Prop}
def F_Kind_isSpelt_18_b (σ : Mem) (v0 : Int32) (r1 : Nat) (rn1 : Nat) (v2 : Int32) (v3 : Int32) (v4 : Int32) : Option ((Int32) ⊕ ((Int32) ⊕ (Int32))) := (if v4 < (sLen ((kindS.getD v0.toNatClampNeg 0))) then chk (inb v4 (lenS.getD ((kindS.getD v0.toNatClampNeg 0)) 0)) <| (if (sCh ((kindS.getD v0.toNatClampNeg 0)) v4.toNatClampNeg) = (F_Row_at σ r1 rn1 ((v2 + v4))) then bindT (v4 + 1) fun x5 => some (.inl x5) else some (.inr (.inr 0))) else some (.inr (.inl v4)))
def F_Kind_isSpelt (σ : Mem) (v0 : Int32) (r1 rn1 : Nat) (v2 : Int32) (v3 : Int32) : Option (Int32) := (if (sLen ((kindS.getD v0.toNatClampNeg 0))) = (v3 - v2) then obind (whl (fun s => F_Kind_isSpelt_18_b σ v0 r1 rn1 v2 v3 s) FUEL 0) fun z6 => sumE z6 (fun s7 => some 1) (fun r8 => some r8) else some 0)
def F_Kind_spelt_11_b (σ : Mem) (r0 : Nat) (rn0 : Nat) (v1 : Int32) (v2 : Int32) (v5 : Int32) : Option ((Unit) ⊕ (Int32)) := chk (inb v5 31) <| obind (F_Kind_isSpelt σ v5 r0 rn0 v1 v2) fun z3 => (if z3 = 0 then some (.inl (())) else some (.inr v5))
def F_Kind_spelt (σ : Mem) (r0 rn0 : Nat) (v1 : Int32) (v2 : Int32) : Option (Int32) := obind (forGO (fun i s => F_Kind_spelt_11_b σ r0 rn0 v1 v2 i ) (cnt 0 31) 0 ()) fun z6 => sumE z6 (fun s7 => some 30) (fun r8 => some r8)
set_option maxRecDepth 20000 in
set_option maxHeartbeats 4000000 in
theorem L_Kind_isSpelt_18 (X : Cx p l s m args meth c Γ D s0 RX1 cX1_isSpelt 5) (hr : meth.sig.returnType = (some .boolean)) (σ : Mem) (v0 : Int32) (r1 : Nat) (rn1 : Nat) (v2 : Int32) (v3 : Int32) (gk0 : inb v0 31 = true) (gr1 : isRow r1 rn1) : ∀ (n : Nat) (v4 : Int32) {z : (Int32) ⊕ (Int32)}, whl (fun s => F_Kind_isSpelt_18_b σ v0 r1 rn1 v2 v3 s) n v4 = some z → (sumP z (fun s9 => E p l e ({ frames := 4, cells := 0, slots := 0, locals := 85 } : Room) s m args below meth c Γ D 0 0 (MQ below (QcA Γ D Pst) args s 0 0 (frB Γ)) σ 58 [some (va_rf (kop Γ v0)), some (.ref (Γ.1 + r1)), some (.int v2), some (.int v3), some (.int s9)] []) (fun r9 => Pst (some (.int r9)) σ)) → E p l e ({ frames := 4, cells := 0, slots := 0, locals := 85 } : Room) s m args below meth c Γ D 0 0 (MQ below (QcA Γ D Pst) args s 0 0 (frB Γ)) σ 18 [some (va_rf (kop Γ v0)), some (.ref (Γ.1 + r1)), some (.int v2), some (.int v3), some (.int v4)] [] := by
  intro n
  induction n with
  | zero =>
    intro v4 z hF hK
    cases hF
  | succ n ih =>
    intro v4 z hF hK
    obtain ⟨y9, hB, hF⟩ := whl_step hF
    change F_Kind_isSpelt_18_b σ v0 r1 rn1 v2 v3 v4 = some y9 at hB
    unfold F_Kind_isSpelt_18_b at hB
    refine e_iload X dX1_isSpelt_18 rfl ?_
    refine e_raload_n X dX1_isSpelt_20 rfl rfl ?_
    refine kst_letters X gk0 wf_X1_118 dX1_isSpelt_21 ?_
    refine e_callVCi X (r := sLen ((kindS.getD v0.toNatClampNeg 0))) (σ1 := σ) [] [.int v4] (C_Str_length (Cx_gok X) σ ((kindS.getD v0.toNatClampNeg 0)) (kind_s29 _)) gv_X1_133 yk_J0_length_8abf5 rfl ((x_gst X).1 _ (kind_s29 _)).1 ⟨Nat.le_of_ble_eq_true rfl, Nat.le_of_ble_eq_true rfl⟩ ⟨Nat.le_of_ble_eq_true rfl, Nat.le_of_ble_eq_true rfl⟩ (Nat.le_of_ble_eq_true rfl) dX1_isSpelt_24 rfl ?_
    refine e_icmp_ge X 58 dX1_isSpelt_27 (by decide) (fun c2 => ?_) (fun c2 => ?_)
    · skip
      rw [if_neg c2] at hB
      have hy9 := Option.some.inj hB; change (.inr (.inl v4)) = y9 at hy9; subst hy9
      have hz9 := Option.some.inj hF; change (.inl v4) = z at hz9; subst hz9
      exact e_le hK (And.intro rfl (And.intro rfl (And.intro rfl (And.intro rfl (And.intro rfl (trivial))))))
    · skip
      rw [if_pos c2] at hB
      refine e_raload_n X dX1_isSpelt_30 rfl rfl ?_
      refine kst_letters X gk0 wf_X1_118 dX1_isSpelt_31 ?_
      refine e_iload X dX1_isSpelt_34 rfl ?_
      obtain ⟨c3, hB⟩ := chk_out hB
      refine e_callVCi X (r := sCh ((kindS.getD v0.toNatClampNeg 0)) v4.toNatClampNeg) (σ1 := σ) [.int v4] [] (C_Str_charAt (Cx_gok X) σ ((kindS.getD v0.toNatClampNeg 0)) v4 (kind_s29 _) c3) gv_X1_139 yk_J0_charAt_5068e rfl ((x_gst X).1 _ (kind_s29 _)).1 ⟨Nat.le_of_ble_eq_true rfl, Nat.le_of_ble_eq_true rfl⟩ ⟨Nat.le_of_ble_eq_true rfl, Nat.le_of_ble_eq_true rfl⟩ (Nat.le_of_ble_eq_true rfl) dX1_isSpelt_36 rfl ?_
      refine e_aload_n X dX1_isSpelt_39 rfl rfl ?_
      refine e_iload_n X dX1_isSpelt_40 rfl rfl ?_
      refine e_iload X dX1_isSpelt_41 rfl ?_
      refine e_iadd X dX1_isSpelt_43 ?_
      refine e_callVi X (r := (F_Row_at σ r1 rn1 ((v2 + v4)))) (σ1 := σ) [.int ((v2 + v4))] [.int ((sCh ((kindS.getD v0.toNatClampNeg 0)) v4.toNatClampNeg))] (C_Row_at (Cx_gok X) σ r1 rn1 ((v2 + v4)) gr1) gv_X1_143 yk_X6_at rfl (ent_lt gr1.1) (ent_at gr1.1 _) (rfl : vCl[6]? = some (RX6, TX6, 1)) ⟨Nat.le_of_ble_eq_true rfl, Nat.le_of_ble_eq_true rfl⟩ ⟨Nat.le_of_ble_eq_true rfl, Nat.le_of_ble_eq_true rfl⟩ (Nat.le_of_ble_eq_true rfl) dX1_isSpelt_44 rfl ?_
      refine e_icmp_eq X 52 dX1_isSpelt_47 (by decide) (fun c4 => ?_) (fun c4 => ?_)
      · skip
        rw [if_pos c4] at hB
        refine e_iinc X 1 dX1_isSpelt_52 rfl rfl (by decide) ?_
        obtain ⟨x5, h_x5, hB⟩ := bindT_out hB
        rw [← h_x5]
        refine e_goto X 18 dX1_isSpelt_55 (by decide) ?_
        have hy9 := Option.some.inj hB; change (.inl x5) = y9 at hy9; subst hy9
        exact e_le (ih x5 hF hK) (And.intro rfl (And.intro rfl (And.intro rfl (And.intro rfl (And.intro rfl (trivial))))))
      · skip
        rw [if_neg c4] at hB
        refine e_iconst X 0 dX1_isSpelt_50 rfl ?_
        have hy9 := Option.some.inj hB; change (.inr (.inr 0)) = y9 at hy9; subst hy9
        have hz9 := Option.some.inj hF; change (.inr 0) = z at hz9; subst hz9
        exact e_zret X hr rfl dX1_isSpelt_51 (Nat.le_of_ble_eq_true rfl) (Nat.le_of_ble_eq_true rfl) hK
set_option maxRecDepth 20000 in
set_option maxHeartbeats 4000000 in
theorem C_Kind_isSpelt (hG : Gok l Γ D s0) (σ : Mem) (v0 : Int32) (r1 rn1 : Nat) (v2 : Int32) (v3 : Int32) (gk0 : inb v0 31 = true) (gr1 : isRow r1 rn1) {out : Int32} (hF : F_Kind_isSpelt σ v0 r1 rn1 v2 v3 = some out) : CT l Γ D s0 yX1_isSpelt cX1_isSpelt 5 (some .boolean) (4) 0 0 (85) σ [va_rf (kop Γ v0), .ref (Γ.1 + r1), .int v2, .int v3] (PI (some (.int out)) σ) := by
  unfold F_Kind_isSpelt at hF
  refine e_met (own := RX1) hG (by decide +kernel) rfl (by simp only [List.all_cons, List.all_nil, rf_cat]; rfl) (Nat.le_of_ble_eq_true rfl) ?_
  intro p e s m args below meth c X hr
  show E p l e _ s m args below meth c Γ D 0 0 _ σ 0 [some (va_rf (kop Γ v0)), some (.ref (Γ.1 + r1)), some (.int v2), some (.int v3), none] []
  refine e_raload_n X dX1_isSpelt_0 rfl rfl ?_
  refine kst_letters X gk0 wf_X1_118 dX1_isSpelt_1 ?_
  refine e_callVCi X (r := sLen ((kindS.getD v0.toNatClampNeg 0))) (σ1 := σ) [] [] (C_Str_length (Cx_gok X) σ ((kindS.getD v0.toNatClampNeg 0)) (kind_s29 _)) gv_X1_133 yk_J0_length_8abf5 rfl ((x_gst X).1 _ (kind_s29 _)).1 ⟨Nat.le_of_ble_eq_true rfl, Nat.le_of_ble_eq_true rfl⟩ ⟨Nat.le_of_ble_eq_true rfl, Nat.le_of_ble_eq_true rfl⟩ (Nat.le_of_ble_eq_true rfl) dX1_isSpelt_4 rfl ?_
  refine e_iload_n X dX1_isSpelt_7 rfl rfl ?_
  refine e_iload_n X dX1_isSpelt_8 rfl rfl ?_
  refine e_isub X dX1_isSpelt_9 ?_
  refine e_icmp_eq X 15 dX1_isSpelt_10 (by decide) (fun c1 => ?_) (fun c1 => ?_)
  · skip
    rw [if_pos c1] at hF
    refine e_iconst X 0 dX1_isSpelt_15 rfl ?_
    refine e_istore X rfl dX1_isSpelt_16 (by decide) ?_
    obtain ⟨z6, h_z6, hF⟩ := obind_out hF
    refine e_le (L_Kind_isSpelt_18 X hr σ v0 r1 rn1 v2 v3 gk0 gr1 _ 0 h_z6 ?_) (And.intro rfl (And.intro rfl (And.intro rfl (And.intro rfl (And.intro rfl (trivial))))))
    cases z6 with
    | inl s7 =>
      replace hF := hF
      rw [sumE] at hF
      show E p l e _ s m args below meth c Γ D _ _ _ _ _ _ _
      refine e_iconst X 1 dX1_isSpelt_58 rfl ?_
      exact e_zret X hr rfl dX1_isSpelt_59 (Nat.le_of_ble_eq_true rfl) (Nat.le_of_ble_eq_true rfl) (by cases hF; exact ⟨rfl, rfl⟩)
    | inr r8 =>
      rw [sumE] at hF
      cases hF
      exact ⟨rfl, rfl⟩
  · skip
    rw [if_neg c1] at hF
    refine e_iconst X 0 dX1_isSpelt_13 rfl ?_
    exact e_zret X hr rfl dX1_isSpelt_14 (Nat.le_of_ble_eq_true rfl) (Nat.le_of_ble_eq_true rfl) (by cases hF; exact ⟨rfl, rfl⟩)
set_option maxRecDepth 20000 in
set_option maxHeartbeats 4000000 in
theorem L_Kind_spelt_11 (X : Cx p l s m args meth c Γ D s0 RX1 cX1_spelt 7) (hr : meth.sig.returnType = (some (.object "RivalWeds$Kind"))) (σ : Mem) (r0 : Nat) (rn0 : Nat) (v1 : Int32) (v2 : Int32) (gr0 : isRow r0 rn0) : ∀ (n : Nat) (v5 : Int32) {z : (Unit) ⊕ (Int32)}, forGO (fun i s => F_Kind_spelt_11_b σ r0 rn0 v1 v2 i ) n v5 () = some z → n = cnt v5 31 → ¬ v5 < 0 → (sumP z (fun s9 => E p l e ({ frames := 5, cells := 0, slots := 0, locals := 109 } : Room) s m args below meth c Γ D 0 0 (MQ below (QcA Γ D Pst) args s 0 0 (frB Γ)) σ 44 [some (.ref (Γ.1 + r0)), some (.int v1), some (.int v2), some (.ref (allA Γ)), some (.int 31), none, none] []) (fun r9 => Pst (some (va_rf (kop Γ r9))) σ)) → E p l e ({ frames := 5, cells := 0, slots := 0, locals := 109 } : Room) s m args below meth c Γ D 0 0 (MQ below (QcA Γ D Pst) args s 0 0 (frB Γ)) σ 11 [some (.ref (Γ.1 + r0)), some (.int v1), some (.int v2), some (.ref (allA Γ)), some (.int 31), some (.int v5), none] [] := by
  intro n
  induction n with
  | zero =>
    intro v5  z hF hn h0 hK
    refine e_iload X dX1_spelt_11 rfl ?_
    refine e_iload X dX1_spelt_13 rfl ?_
    refine e_icmp_ge X 44 dX1_spelt_15 (by decide) (fun c5 => ?_) (fun c5 => ?_)
    · skip
      have hz9 := Option.some.inj hF; change (.inl (())) = z at hz9; subst hz9
      exact e_le hK (And.intro rfl (And.intro rfl (And.intro rfl (And.intro rfl (And.intro rfl (trivial))))))
    · skip
      exact absurd c5 (cnt0 hn)
  | succ n ih =>
    intro v5  z hF hn h0 hK
    obtain ⟨y9, hB, hF⟩ := forRO_step hF
    change F_Kind_spelt_11_b σ r0 rn0 v1 v2 v5  = some y9 at hB
    unfold F_Kind_spelt_11_b at hB
    refine e_iload X dX1_spelt_11 rfl ?_
    refine e_iload X dX1_spelt_13 rfl ?_
    refine e_icmp_ge X 44 dX1_spelt_15 (by decide) (fun c1 => ?_) (fun c1 => ?_)
    · skip
      exact absurd (cntS hn) c1
    · skip
      refine e_aload_n X dX1_spelt_18 rfl rfl ?_
      refine e_iload X dX1_spelt_19 rfl ?_
      obtain ⟨c2, hB⟩ := chk_out hB
      refine e_allK X c2 dX1_spelt_21 ?_
      refine e_rastore X dX1_spelt_22 (by decide) ?_
      refine e_raload X dX1_spelt_24 rfl ?_
      refine e_aload_n X dX1_spelt_26 rfl rfl ?_
      refine e_iload_n X dX1_spelt_27 rfl rfl ?_
      refine e_iload_n X dX1_spelt_28 rfl rfl ?_
      obtain ⟨z3, h_z3, hB⟩ := obind_out hB
      refine e_callKi X c2 (r := z3) (σ1 := σ) [.ref (Γ.1 + r0), .int v1, .int v2] [] (C_Kind_isSpelt (Cx_gok X) σ v5 r0 rn0 v1 v2 c2 gr0 h_z3) gv_X1_129 yk_X1_isSpelt rfl ⟨Nat.le_of_ble_eq_true rfl, Nat.le_of_ble_eq_true rfl⟩ ⟨Nat.le_of_ble_eq_true rfl, Nat.le_of_ble_eq_true rfl⟩ (Nat.le_of_ble_eq_true rfl) dX1_spelt_29 rfl ?_
      refine e_if_eq X 38 dX1_spelt_32 (by decide) (fun c4 => ?_) (fun c4 => ?_)
      · skip
        rw [if_pos c4] at hB
        refine e_iinc X 1 dX1_spelt_38 rfl rfl (by decide) ?_
        refine e_goto X 11 dX1_spelt_41 (by decide) ?_
        have hy9 := Option.some.inj hB; change (.inl (())) = y9 at hy9; subst hy9
        exact e_le (ih _  hF (cntN hn) (nnN h0 (cnt_hi hn)) hK) (And.intro rfl (And.intro rfl (And.intro rfl (And.intro rfl (And.intro rfl (And.intro rfl (trivial)))))))
      · skip
        rw [if_neg c4] at hB
        refine e_raload X dX1_spelt_35 rfl ?_
        have hy9 := Option.some.inj hB; change (.inr v5) = y9 at hy9; subst hy9
        have hz9 := Option.some.inj hF; change (.inr v5) = z at hz9; subst hz9
        exact e_aret X hr (Or.inl ⟨_, rfl⟩) dX1_spelt_37 (Nat.le_of_ble_eq_true rfl) (Nat.le_of_ble_eq_true rfl) hK
set_option maxRecDepth 20000 in
set_option maxHeartbeats 4000000 in
theorem C_Kind_spelt (hG : Gok l Γ D s0) (σ : Mem) (r0 rn0 : Nat) (v1 : Int32) (v2 : Int32) (gr0 : isRow r0 rn0) {out : Int32} (hF : F_Kind_spelt σ r0 rn0 v1 v2 = some out) : CT l Γ D s0 yX1_spelt cX1_spelt 7 (some (.object "RivalWeds$Kind")) (5) 0 0 (109) σ [.ref (Γ.1 + r0), .int v1, .int v2] (PI (some (va_rf (kop Γ out))) σ) := by
  unfold F_Kind_spelt at hF
  refine e_met (own := RX1) hG (by decide +kernel) rfl rfl (Nat.le_of_ble_eq_true rfl) ?_
  intro p e s m args below meth c X hr
  show E p l e _ s m args below meth c Γ D 0 0 _ σ 0 [some (.ref (Γ.1 + r0)), some (.int v1), some (.int v2), none, none, none, none] []
  refine e_gets X (x_gst X).2.2.1.2.2.1 wf_X1_126 dX1_spelt_0 ?_
  refine e_astore_n X dX1_spelt_3 rfl (by decide) ?_
  refine e_aload_n X dX1_spelt_4 rfl rfl ?_
  refine e_tlen X 31 (x_gst X).2.2.1.2.2.2 rfl dX1_spelt_5 ?_
  refine e_istore X rfl dX1_spelt_6 (by decide) ?_
  refine e_iconst X 0 dX1_spelt_8 rfl ?_
  refine e_istore X rfl dX1_spelt_9 (by decide) ?_
  obtain ⟨z6, h_z6, hF⟩ := obind_out hF
  refine e_le (L_Kind_spelt_11 X hr σ r0 rn0 v1 v2 gr0 _ 0  h_z6 rfl (by decide) ?_) (And.intro rfl (And.intro rfl (And.intro rfl (And.intro rfl (And.intro rfl (And.intro rfl (trivial)))))))
  cases z6 with
  | inl s7 =>
    replace hF := hF
    rw [sumE] at hF
    show E p l e _ s m args below meth c Γ D _ _ _ _ _ _ _
    refine e_kstatic X 30 rfl rfl wf_X1_96 dX1_spelt_44 ?_
    exact e_aret X hr (Or.inl ⟨_, rfl⟩) dX1_spelt_47 (Nat.le_of_ble_eq_true rfl) (Nat.le_of_ble_eq_true rfl) (by cases hF; exact ⟨rfl, rfl⟩)
  | inr r8 =>
    rw [sumE] at hF
    cases hF
    exact ⟨rfl, rfl⟩
end PART

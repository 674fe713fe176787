section PART
variable {p : Program} {l : Launch} {e : Env} {R : Room} {s : State} {m : MethodId} {args : Array Value} {below : List Frame} {meth : Method} {c : Code} {Γ : Gm} {D : va_G} {s0 : State} {cells slots : Nat} {Q : State → Prop} {own : String} {cc : ByteArray} {nL : Nat} {σ : Mem} {pc : Nat} {lv : List (Option Value)} {st : List Value} {Pst : Option Value → Mem → Prop}
def F_Prs_isBetter (σ : Mem) (t0 : Nat) (v1 : Int32) (v2 : Int32) (v3 : Int32) : Int32 := bindT (((F_Int_bitCount_0f7a4 σ ((F_Town_insurersOfPair σ t0 v1 v2))) - (F_Int_bitCount_0f7a4 σ ((F_Town_insurersOfPair σ t0 v1 v3))))) fun x1 => (if 0 < x1 then 1 else (if x1 = 0 then (if (F_Town_likingOf σ t0 v1 v3) < (F_Town_likingOf σ t0 v1 v2) then 1 else 0) else 0))
def F_Prs_bestFor_15_b (σ : Mem) (t1 : Nat) (v2 : Int32) (v4 : Int32) (v3 : Int32) : Int32 := (if v4 = v2 then v3 else (if (F_Town_isWed σ t1 v4) = 0 then (if v3 = (-1) then v4 else (if (F_Prs_isBetter σ t1 v2 v4 v3) = 0 then v3 else v4)) else v3))
def F_Prs_bestFor (σ : Mem) (t1 : Nat) (v2 : Int32) : Int32 := (if (F_Town_isWed σ t1 v2) = 0 then bindT (forS (fun i s => F_Prs_bestFor_15_b σ t1 v2 i s) (cnt 0 ((σ t1 8))) 0 (-1)) fun z8 => z8 else (-1))
def F_Prs_preferred_29_b (σ : Mem) (t1 : Nat) (v2 : Int32) (v3 : Int32) (v4 : Int32) (v6 : Int32) (v5 : Int32) : Int32 := (if v6 = v2 then v5 else (if v4 < (F_Town_likingOf σ t1 v2 v6) then bindT ((v5 ||| ((1 : Int32) <<< ((v6 : Int32) &&& 31)))) fun x7 => x7 else v5))
def F_Prs_preferred (σ : Mem) (t1 : Nat) (v2 : Int32) : Int32 := bindT ((F_Town_spouseOf σ t1 v2)) fun x1 => (if x1 = (-1) then bindT (forS (fun i s => F_Prs_preferred_29_b σ t1 v2 x1 0 i s) (cnt 0 ((σ t1 8))) 0 0) fun z10 => z10 else bindT ((F_Town_likingOf σ t1 v2 x1)) fun x3 => bindT (forS (fun i s => F_Prs_preferred_29_b σ t1 v2 x1 x3 i s) (cnt 0 ((σ t1 8))) 0 0) fun z9 => z9)
def F_Prs_areLovers (σ : Mem) (t1 : Nat) (v2 : Int32) (v3 : Int32) : Int32 := (if (F_Town_isRuined σ t1 v2) = 0 then (if (F_Town_isRuined σ t1 v3) = 0 then (if (F_W_contains σ ((F_Prs_preferred σ t1 v2)) v3) = 0 then 0 else (if (F_W_contains σ ((F_Prs_preferred σ t1 v3)) v2) = 0 then 0 else 1)) else 0) else 0)
def F_Prs_loverPairs_17_b (σ : Mem) (t1 : Nat) (v3 : Int32) (v4 : Int32) (v2 : Int32) : Int32 := (if (F_Prs_areLovers σ t1 v3 v4) = 0 then v2 else bindT (v2 + 1) fun x5 => x5)
def F_Prs_loverPairs_4_b (σ : Mem) (t1 : Nat) (v3 : Int32) (v2 : Int32) : Int32 := bindT ((v3 + 1)) fun x2 => bindT (forS (fun i s => F_Prs_loverPairs_17_b σ t1 v3 i s) (cnt x2 ((σ t1 8))) x2 v2) fun z7 => z7
def F_Prs_loverPairs (σ : Mem) (t1 : Nat) : Int32 := bindT (forS (fun i s => F_Prs_loverPairs_4_b σ t1 i s) (cnt 0 ((σ t1 8))) 0 0) fun z9 => z9
def F_Prs_firstLovers_14_b (σ : Mem) (t1 : Nat) (v2 : Int32) (v3 : Int32) : (Unit) ⊕ (Int32) := (if (F_Prs_areLovers σ t1 v2 v3) = 0 then .inl (()) else .inr (((10 * v2) + v3)))
def F_Prs_firstLovers_2_b (σ : Mem) (t1 : Nat) (v2 : Int32) : (Unit) ⊕ (Int32) := bindT ((v2 + 1)) fun x2 => bindT (forG (fun i s => F_Prs_firstLovers_14_b σ t1 v2 i ) (cnt x2 ((σ t1 8))) x2 ()) fun z6 => sumE z6 (fun s7 => .inl (())) (fun r8 => .inr r8)
def F_Prs_firstLovers (σ : Mem) (t1 : Nat) : Int32 := bindT (forG (fun i s => F_Prs_firstLovers_2_b σ t1 i ) (cnt 0 ((σ t1 8))) 0 ()) fun z10 => sumE z10 (fun s11 => (-1)) (fun r12 => r12)
def F_Prs_firstWithout_2_b (σ : Mem) (v1 : Int32) (v2 : Int32) : (Unit) ⊕ (Int32) := (if (F_Row_at σ 118 8 v2) = (-1) then .inr v2 else .inl (()))
def F_Prs_firstWithout (σ : Mem) (v1 : Int32) : Int32 := bindT (forG (fun i s => F_Prs_firstWithout_2_b σ v1 i ) (cnt 0 v1) 0 ()) fun z4 => sumE z4 (fun s5 => (-1)) (fun r6 => r6)
def F_Prs_wouldLeaveFor (σ : Mem) (t1 : Nat) (v2 : Int32) (v3 : Int32) : Int32 := bindT ((F_Row_at σ 118 8 v2)) fun x1 => (if x1 = v2 then 1 else (if (F_Town_likingOf σ t1 v2 x1) < (F_Town_likingOf σ t1 v2 v3) then 1 else 0))
def F_Prs_countIfSteady_14_b (σ : Mem) (t1 : Nat) (v2 : Int32) (v3 : Int32) : (Unit) ⊕ (Mem) := (if (F_Prs_wouldLeaveFor σ t1 v2 v3) = 0 then .inl (()) else (if (F_Prs_wouldLeaveFor σ t1 v3 v2) = 0 then .inl (()) else .inr σ))
def F_Prs_countIfSteady_2_b (σ : Mem) (t1 : Nat) (v2 : Int32) : (Unit) ⊕ (Mem) := bindT ((v2 + 1)) fun x2 => bindT (forG (fun i s => F_Prs_countIfSteady_14_b σ t1 v2 i ) (cnt x2 ((σ t1 8))) x2 ()) fun z7 => sumE z7 (fun s8 => .inl (())) (fun r9 => .inr r9)
def F_Prs_countIfSteady (σ : Mem) (t1 : Nat) : Mem := bindT (forG (fun i s => F_Prs_countIfSteady_2_b σ t1 i ) (cnt 0 ((σ t1 8))) 0 ()) fun z11 => sumE z11 (fun s12 => (if (σ 117 2) = 0 then bindT (F_Row_copyAll σ 120 8 118 8) fun z16 => bindT (up z16 117 2 (((z16 117 2) + 1))) fun σ17 => σ17 else bindT (up σ 117 2 (((σ 117 2) + 1))) fun σ15 => σ15)) (fun r13 => r13)
set_option maxRecDepth 20000 in
set_option maxHeartbeats 4000000 in
theorem C_Prs_isBetter (hG : Gok l Γ D s0) (σ : Mem) (t0 : Nat) (v1 : Int32) (v2 : Int32) (v3 : Int32) (gt0 : isTown t0) : CT l Γ D s0 yX5_isBetter cX5_isBetter 5 (some .boolean) (2) 0 0 (46) σ [.ref (Γ.1 + t0), .int v1, .int v2, .int v3] (PI (some (.int (F_Prs_isBetter σ t0 v1 v2 v3))) σ) := by
  generalize hF : F_Prs_isBetter σ t0 v1 v2 v3 = out
  unfold F_Prs_isBetter at hF
  refine e_met (own := RX5) hG (by decide +kernel) rfl rfl (Nat.le_of_ble_eq_true rfl) ?_
  intro p e s m args below meth c X hr
  show E p l e _ s m args below meth c Γ D 0 0 _ σ 0 [some (.ref (Γ.1 + t0)), some (.int v1), some (.int v2), some (.int v3), none] []
  refine e_aload_n X dX5_isBetter_0 rfl rfl ?_
  refine e_iload_n X dX5_isBetter_1 rfl rfl ?_
  refine e_iload_n X dX5_isBetter_2 rfl rfl ?_
  refine e_callVi X (r := (F_Town_insurersOfPair σ t0 v1 v2)) (σ1 := σ) [.int v1, .int v2] [] (C_Town_insurersOfPair (Cx_gok X) σ t0 v1 v2 gt0) gv_X5_37 yk_X9_insurersOfPair rfl (ent_lt gt0.1) (ent_at gt0.1 _) (rfl : vCl[8]? = some (RX9, TX9, 20)) ⟨Nat.le_of_ble_eq_true rfl, Nat.le_of_ble_eq_true rfl⟩ ⟨Nat.le_of_ble_eq_true rfl, Nat.le_of_ble_eq_true rfl⟩ (Nat.le_of_ble_eq_true rfl) dX5_isBetter_3 rfl ?_
  refine e_callSOi X (r := (F_Int_bitCount_0f7a4 σ ((F_Town_insurersOfPair σ t0 v1 v2)))) (σ1 := σ) [.int ((F_Town_insurersOfPair σ t0 v1 v2))] [] (C_Int_bitCount_0f7a4 (Cx_gok X) σ ((F_Town_insurersOfPair σ t0 v1 v2))) gb_J6_bitCount_0f7a4 wm_X5_41 ws_J6_bitCount_0f7a4 wz_J6 yk_J6_bitCount_0f7a4.2 rfl ⟨Nat.le_of_ble_eq_true rfl, Nat.le_of_ble_eq_true rfl⟩ ⟨Nat.le_of_ble_eq_true rfl, Nat.le_of_ble_eq_true rfl⟩ (Nat.le_of_ble_eq_true rfl) dX5_isBetter_6 rfl ?_
  refine e_aload_n X dX5_isBetter_9 rfl rfl ?_
  refine e_iload_n X dX5_isBetter_10 rfl rfl ?_
  refine e_iload_n X dX5_isBetter_11 rfl rfl ?_
  refine e_callVi X (r := (F_Town_insurersOfPair σ t0 v1 v3)) (σ1 := σ) [.int v1, .int v3] [.int ((F_Int_bitCount_0f7a4 σ ((F_Town_insurersOfPair σ t0 v1 v2))))] (C_Town_insurersOfPair (Cx_gok X) σ t0 v1 v3 gt0) gv_X5_37 yk_X9_insurersOfPair rfl (ent_lt gt0.1) (ent_at gt0.1 _) (rfl : vCl[8]? = some (RX9, TX9, 20)) ⟨Nat.le_of_ble_eq_true rfl, Nat.le_of_ble_eq_true rfl⟩ ⟨Nat.le_of_ble_eq_true rfl, Nat.le_of_ble_eq_true rfl⟩ (Nat.le_of_ble_eq_true rfl) dX5_isBetter_12 rfl ?_
  refine e_callSOi X (r := (F_Int_bitCount_0f7a4 σ ((F_Town_insurersOfPair σ t0 v1 v3)))) (σ1 := σ) [.int ((F_Town_insurersOfPair σ t0 v1 v3))] [.int ((F_Int_bitCount_0f7a4 σ ((F_Town_insurersOfPair σ t0 v1 v2))))] (C_Int_bitCount_0f7a4 (Cx_gok X) σ ((F_Town_insurersOfPair σ t0 v1 v3))) gb_J6_bitCount_0f7a4 wm_X5_41 ws_J6_bitCount_0f7a4 wz_J6 yk_J6_bitCount_0f7a4.2 rfl ⟨Nat.le_of_ble_eq_true rfl, Nat.le_of_ble_eq_true rfl⟩ ⟨Nat.le_of_ble_eq_true rfl, Nat.le_of_ble_eq_true rfl⟩ (Nat.le_of_ble_eq_true rfl) dX5_isBetter_15 rfl ?_
  refine e_isub X dX5_isBetter_18 ?_
  obtain ⟨x1, h_x1, hF⟩ := bindT_out hF
  refine e_istore X h_x1 dX5_isBetter_19 (by decide) ?_
  refine e_iload X dX5_isBetter_21 rfl ?_
  refine e_if_gt X 46 dX5_isBetter_23 (by decide) (fun c2 => ?_) (fun c2 => ?_)
  · skip
    rw [if_pos c2] at hF
    refine e_iconst X 1 dX5_isBetter_46 rfl ?_
    refine e_goto X 51 dX5_isBetter_47 (by decide) ?_
    exact e_zret X hr rfl dX5_isBetter_51 (Nat.le_of_ble_eq_true rfl) (Nat.le_of_ble_eq_true rfl) (by cases hF; exact ⟨rfl, rfl⟩)
  · skip
    rw [if_neg c2] at hF
    refine e_iload X dX5_isBetter_26 rfl ?_
    refine e_if_ne X 50 dX5_isBetter_28 (by decide) (fun c3 => ?_) (fun c3 => ?_)
    · skip
      rw [if_neg c3] at hF
      refine e_iconst X 0 dX5_isBetter_50 rfl ?_
      exact e_zret X hr rfl dX5_isBetter_51 (Nat.le_of_ble_eq_true rfl) (Nat.le_of_ble_eq_true rfl) (by cases hF; exact ⟨rfl, rfl⟩)
    · skip
      rw [if_pos c3] at hF
      refine e_aload_n X dX5_isBetter_31 rfl rfl ?_
      refine e_iload_n X dX5_isBetter_32 rfl rfl ?_
      refine e_iload_n X dX5_isBetter_33 rfl rfl ?_
      refine e_callVi X (r := (F_Town_likingOf σ t0 v1 v2)) (σ1 := σ) [.int v1, .int v2] [] (C_Town_likingOf (Cx_gok X) σ t0 v1 v2 gt0) gv_X5_47 yk_X9_likingOf rfl (ent_lt gt0.1) (ent_at gt0.1 _) (rfl : vCl[8]? = some (RX9, TX9, 20)) ⟨Nat.le_of_ble_eq_true rfl, Nat.le_of_ble_eq_true rfl⟩ ⟨Nat.le_of_ble_eq_true rfl, Nat.le_of_ble_eq_true rfl⟩ (Nat.le_of_ble_eq_true rfl) dX5_isBetter_34 rfl ?_
      refine e_aload_n X dX5_isBetter_37 rfl rfl ?_
      refine e_iload_n X dX5_isBetter_38 rfl rfl ?_
      refine e_iload_n X dX5_isBetter_39 rfl rfl ?_
      refine e_callVi X (r := (F_Town_likingOf σ t0 v1 v3)) (σ1 := σ) [.int v1, .int v3] [.int ((F_Town_likingOf σ t0 v1 v2))] (C_Town_likingOf (Cx_gok X) σ t0 v1 v3 gt0) gv_X5_47 yk_X9_likingOf rfl (ent_lt gt0.1) (ent_at gt0.1 _) (rfl : vCl[8]? = some (RX9, TX9, 20)) ⟨Nat.le_of_ble_eq_true rfl, Nat.le_of_ble_eq_true rfl⟩ ⟨Nat.le_of_ble_eq_true rfl, Nat.le_of_ble_eq_true rfl⟩ (Nat.le_of_ble_eq_true rfl) dX5_isBetter_40 rfl ?_
      refine e_icmp_le X 50 dX5_isBetter_43 (by decide) (fun c4 => ?_) (fun c4 => ?_)
      · skip
        rw [if_neg c4] at hF
        refine e_iconst X 0 dX5_isBetter_50 rfl ?_
        exact e_zret X hr rfl dX5_isBetter_51 (Nat.le_of_ble_eq_true rfl) (Nat.le_of_ble_eq_true rfl) (by cases hF; exact ⟨rfl, rfl⟩)
      · skip
        rw [if_pos c4] at hF
        refine e_iconst X 1 dX5_isBetter_46 rfl ?_
        refine e_goto X 51 dX5_isBetter_47 (by decide) ?_
        exact e_zret X hr rfl dX5_isBetter_51 (Nat.le_of_ble_eq_true rfl) (Nat.le_of_ble_eq_true rfl) (by cases hF; exact ⟨rfl, rfl⟩)
set_option maxRecDepth 20000 in
set_option maxHeartbeats 4000000 in
theorem L_Prs_bestFor_15 (X : Cx p l s m args meth c Γ D s0 RX5 cX5_bestFor 5) (hr : meth.sig.returnType = (some .int)) (σ : Mem) (t1 : Nat) (v2 : Int32) (gt1 : isTown t1) : ∀ (n : Nat) (v4 : Int32) (v3 : Int32) {z : Int32}, forS (fun i s => F_Prs_bestFor_15_b σ t1 v2 i s) n v4 v3 = z → n = cnt v4 ((σ t1 8)) → ¬ v4 < 0 → (E p l e ({ frames := 4, cells := 0, slots := 0, locals := 85 } : Room) s m args below meth c Γ D 0 0 (MQ below (QcA Γ D Pst) args s 0 0 (frB Γ)) σ 64 [some (.ref (Γ.1 + 117)), some (.ref (Γ.1 + t1)), some (.int v2), some (.int z), none] []) → E p l e ({ frames := 4, cells := 0, slots := 0, locals := 85 } : Room) s m args below meth c Γ D 0 0 (MQ below (QcA Γ D Pst) args s 0 0 (frB Γ)) σ 15 [some (.ref (Γ.1 + 117)), some (.ref (Γ.1 + t1)), some (.int v2), some (.int v3), some (.int v4)] [] := by
  intro n
  induction n with
  | zero =>
    intro v4 v3 z hF hn h0 hK
    refine e_iload X dX5_bestFor_15 rfl ?_
    refine e_aload_n X dX5_bestFor_17 rfl rfl ?_
    refine ge_Town_people X gt1 wf_X5_29 dX5_bestFor_18 ?_
    refine e_icmp_ge X 64 dX5_bestFor_21 (by decide) (fun c7 => ?_) (fun c7 => ?_)
    · skip
      have hz9 := hF; change (v3) = z at hz9; subst hz9
      exact e_le hK (And.intro rfl (And.intro rfl (And.intro rfl (And.intro rfl (trivial)))))
    · skip
      exact absurd c7 (cnt0 hn)
  | succ n ih =>
    intro v4 v3 z hF hn h0 hK
    obtain ⟨y9, hB, hF⟩ := forS_step hF
    change F_Prs_bestFor_15_b σ t1 v2 v4 v3 = y9 at hB
    unfold F_Prs_bestFor_15_b at hB
    refine e_iload X dX5_bestFor_15 rfl ?_
    refine e_aload_n X dX5_bestFor_17 rfl rfl ?_
    refine ge_Town_people X gt1 wf_X5_29 dX5_bestFor_18 ?_
    refine e_icmp_ge X 64 dX5_bestFor_21 (by decide) (fun c2 => ?_) (fun c2 => ?_)
    · skip
      exact absurd (cntS hn) c2
    · skip
      refine e_iload X dX5_bestFor_24 rfl ?_
      refine e_iload_n X dX5_bestFor_26 rfl rfl ?_
      refine e_icmp_eq X 58 dX5_bestFor_27 (by decide) (fun c3 => ?_) (fun c3 => ?_)
      · skip
        rw [if_pos c3] at hB
        refine e_iinc X 1 dX5_bestFor_58 rfl rfl (by decide) ?_
        refine e_goto X 15 dX5_bestFor_61 (by decide) ?_
        have hy9 := hB; change (v3) = y9 at hy9; subst hy9
        exact e_le (ih _ v3 hF (cntN hn) (nnN h0 (cnt_hi hn)) hK) (And.intro rfl (And.intro rfl (And.intro rfl (And.intro rfl (And.intro rfl (trivial))))))
      · skip
        rw [if_neg c3] at hB
        refine e_aload_n X dX5_bestFor_30 rfl rfl ?_
        refine e_iload X dX5_bestFor_31 rfl ?_
        refine e_callVi X (r := (F_Town_isWed σ t1 v4)) (σ1 := σ) [.int v4] [] (C_Town_isWed (Cx_gok X) σ t1 v4 gt1) gv_X5_23 yk_X9_isWed rfl (ent_lt gt1.1) (ent_at gt1.1 _) (rfl : vCl[8]? = some (RX9, TX9, 20)) ⟨Nat.le_of_ble_eq_true rfl, Nat.le_of_ble_eq_true rfl⟩ ⟨Nat.le_of_ble_eq_true rfl, Nat.le_of_ble_eq_true rfl⟩ (Nat.le_of_ble_eq_true rfl) dX5_bestFor_33 rfl ?_
        refine e_if_ne X 58 dX5_bestFor_36 (by decide) (fun c4 => ?_) (fun c4 => ?_)
        · skip
          rw [if_neg c4] at hB
          refine e_iinc X 1 dX5_bestFor_58 rfl rfl (by decide) ?_
          refine e_goto X 15 dX5_bestFor_61 (by decide) ?_
          have hy9 := hB; change (v3) = y9 at hy9; subst hy9
          exact e_le (ih _ v3 hF (cntN hn) (nnN h0 (cnt_hi hn)) hK) (And.intro rfl (And.intro rfl (And.intro rfl (And.intro rfl (And.intro rfl (trivial))))))
        · skip
          rw [if_pos c4] at hB
          refine e_iload_n X dX5_bestFor_39 rfl rfl ?_
          refine e_iconst X (-1) dX5_bestFor_40 rfl ?_
          refine e_icmp_eq X 55 dX5_bestFor_41 (by decide) (fun c5 => ?_) (fun c5 => ?_)
          · skip
            rw [if_pos c5] at hB
            refine e_iload X dX5_bestFor_55 rfl ?_
            refine e_istore_n X rfl dX5_bestFor_57 rfl (by decide) ?_
            refine e_iinc X 1 dX5_bestFor_58 rfl rfl (by decide) ?_
            refine e_goto X 15 dX5_bestFor_61 (by decide) ?_
            have hy9 := hB; change (v4) = y9 at hy9; subst hy9
            exact e_le (ih _ v4 hF (cntN hn) (nnN h0 (cnt_hi hn)) hK) (And.intro rfl (And.intro rfl (And.intro rfl (And.intro rfl (And.intro rfl (trivial))))))
          · skip
            rw [if_neg c5] at hB
            refine e_aload_n X dX5_bestFor_44 rfl rfl ?_
            refine e_iload_n X dX5_bestFor_45 rfl rfl ?_
            refine e_iload X dX5_bestFor_46 rfl ?_
            refine e_iload_n X dX5_bestFor_48 rfl rfl ?_
            refine e_callSi X (r := (F_Prs_isBetter σ t1 v2 v4 v3)) (σ1 := σ) [.ref (Γ.1 + t1), .int v2, .int v4, .int v3] [] (C_Prs_isBetter (Cx_gok X) σ t1 v2 v4 v3 gt1) gs_X5_33 yk_X5_isBetter rfl ⟨Nat.le_of_ble_eq_true rfl, Nat.le_of_ble_eq_true rfl⟩ ⟨Nat.le_of_ble_eq_true rfl, Nat.le_of_ble_eq_true rfl⟩ (Nat.le_of_ble_eq_true rfl) dX5_bestFor_49 rfl ?_
            refine e_if_eq X 58 dX5_bestFor_52 (by decide) (fun c6 => ?_) (fun c6 => ?_)
            · skip
              rw [if_pos c6] at hB
              refine e_iinc X 1 dX5_bestFor_58 rfl rfl (by decide) ?_
              refine e_goto X 15 dX5_bestFor_61 (by decide) ?_
              have hy9 := hB; change (v3) = y9 at hy9; subst hy9
              exact e_le (ih _ v3 hF (cntN hn) (nnN h0 (cnt_hi hn)) hK) (And.intro rfl (And.intro rfl (And.intro rfl (And.intro rfl (And.intro rfl (trivial))))))
            · skip
              rw [if_neg c6] at hB
              refine e_iload X dX5_bestFor_55 rfl ?_
              refine e_istore_n X rfl dX5_bestFor_57 rfl (by decide) ?_
              refine e_iinc X 1 dX5_bestFor_58 rfl rfl (by decide) ?_
              refine e_goto X 15 dX5_bestFor_61 (by decide) ?_
              have hy9 := hB; change (v4) = y9 at hy9; subst hy9
              exact e_le (ih _ v4 hF (cntN hn) (nnN h0 (cnt_hi hn)) hK) (And.intro rfl (And.intro rfl (And.intro rfl (And.intro rfl (And.intro rfl (trivial))))))
set_option maxRecDepth 20000 in
set_option maxHeartbeats 4000000 in
theorem C_Prs_bestFor (hG : Gok l Γ D s0) (σ : Mem) (t1 : Nat) (v2 : Int32) (gt1 : isTown t1) : CT l Γ D s0 yX5_bestFor cX5_bestFor 5 (some .int) (4) 0 0 (85) σ [.ref (Γ.1 + 117), .ref (Γ.1 + t1), .int v2] (PI (some (.int (F_Prs_bestFor σ t1 v2))) σ) := by
  generalize hF : F_Prs_bestFor σ t1 v2 = out
  unfold F_Prs_bestFor at hF
  refine e_met (own := RX5) hG (by decide +kernel) rfl rfl (Nat.le_of_ble_eq_true rfl) ?_
  intro p e s m args below meth c X hr
  show E p l e _ s m args below meth c Γ D 0 0 _ σ 0 [some (.ref (Γ.1 + 117)), some (.ref (Γ.1 + t1)), some (.int v2), none, none] []
  refine e_iconst X (-1) dX5_bestFor_0 rfl ?_
  refine e_istore_n X rfl dX5_bestFor_1 rfl (by decide) ?_
  refine e_aload_n X dX5_bestFor_2 rfl rfl ?_
  refine e_iload_n X dX5_bestFor_3 rfl rfl ?_
  refine e_callVi X (r := (F_Town_isWed σ t1 v2)) (σ1 := σ) [.int v2] [] (C_Town_isWed (Cx_gok X) σ t1 v2 gt1) gv_X5_23 yk_X9_isWed rfl (ent_lt gt1.1) (ent_at gt1.1 _) (rfl : vCl[8]? = some (RX9, TX9, 20)) ⟨Nat.le_of_ble_eq_true rfl, Nat.le_of_ble_eq_true rfl⟩ ⟨Nat.le_of_ble_eq_true rfl, Nat.le_of_ble_eq_true rfl⟩ (Nat.le_of_ble_eq_true rfl) dX5_bestFor_4 rfl ?_
  refine e_if_eq X 12 dX5_bestFor_7 (by decide) (fun c1 => ?_) (fun c1 => ?_)
  · skip
    rw [if_pos c1] at hF
    refine e_iconst X 0 dX5_bestFor_12 rfl ?_
    refine e_istore X rfl dX5_bestFor_13 (by decide) ?_
    obtain ⟨z8, h_z8, hF⟩ := bindT_out hF
    refine e_le (L_Prs_bestFor_15 X hr σ t1 v2 gt1 _ 0 ((-1)) h_z8.symm rfl (by decide) ?_) (And.intro rfl (And.intro rfl (And.intro rfl (And.intro rfl (And.intro rfl (trivial))))))
    refine e_iload_n X dX5_bestFor_64 rfl rfl ?_
    exact e_iret X hr dX5_bestFor_65 (Nat.le_of_ble_eq_true rfl) (Nat.le_of_ble_eq_true rfl) (by cases hF; exact ⟨rfl, rfl⟩)
  · skip
    rw [if_neg c1] at hF
    refine e_iload_n X dX5_bestFor_10 rfl rfl ?_
    exact e_iret X hr dX5_bestFor_11 (Nat.le_of_ble_eq_true rfl) (Nat.le_of_ble_eq_true rfl) (by cases hF; exact ⟨rfl, rfl⟩)
set_option maxRecDepth 20000 in
set_option maxHeartbeats 4000000 in
theorem L_Prs_preferred_29 (X : Cx p l s m args meth c Γ D s0 RX5 cX5_preferred 7) (hr : meth.sig.returnType = (some .int)) (σ : Mem) (t1 : Nat) (v2 : Int32) (v3 : Int32) (v4 : Int32) (gt1 : isTown t1) : ∀ (n : Nat) (v6 : Int32) (v5 : Int32) {z : Int32}, forS (fun i s => F_Prs_preferred_29_b σ t1 v2 v3 v4 i s) n v6 v5 = z → n = cnt v6 ((σ t1 8)) → ¬ v6 < 0 → (E p l e ({ frames := 3, cells := 0, slots := 0, locals := 64 } : Room) s m args below meth c Γ D 0 0 (MQ below (QcA Γ D Pst) args s 0 0 (frB Γ)) σ 71 [some (.ref (Γ.1 + 117)), some (.ref (Γ.1 + t1)), some (.int v2), some (.int v3), some (.int v4), some (.int z), none] []) → E p l e ({ frames := 3, cells := 0, slots := 0, locals := 64 } : Room) s m args below meth c Γ D 0 0 (MQ below (QcA Γ D Pst) args s 0 0 (frB Γ)) σ 29 [some (.ref (Γ.1 + 117)), some (.ref (Γ.1 + t1)), some (.int v2), some (.int v3), some (.int v4), some (.int v5), some (.int v6)] [] := by
  intro n
  induction n with
  | zero =>
    intro v6 v5 z hF hn h0 hK
    refine e_iload X dX5_preferred_29 rfl ?_
    refine e_aload_n X dX5_preferred_31 rfl rfl ?_
    refine ge_Town_people X gt1 wf_X5_29 dX5_preferred_32 ?_
    refine e_icmp_ge X 71 dX5_preferred_35 (by decide) (fun c8 => ?_) (fun c8 => ?_)
    · skip
      have hz9 := hF; change (v5) = z at hz9; subst hz9
      exact e_le hK (And.intro rfl (And.intro rfl (And.intro rfl (And.intro rfl (And.intro rfl (And.intro rfl (trivial)))))))
    · skip
      exact absurd c8 (cnt0 hn)
  | succ n ih =>
    intro v6 v5 z hF hn h0 hK
    obtain ⟨y9, hB, hF⟩ := forS_step hF
    change F_Prs_preferred_29_b σ t1 v2 v3 v4 v6 v5 = y9 at hB
    unfold F_Prs_preferred_29_b at hB
    refine e_iload X dX5_preferred_29 rfl ?_
    refine e_aload_n X dX5_preferred_31 rfl rfl ?_
    refine ge_Town_people X gt1 wf_X5_29 dX5_preferred_32 ?_
    refine e_icmp_ge X 71 dX5_preferred_35 (by decide) (fun c4 => ?_) (fun c4 => ?_)
    · skip
      exact absurd (cntS hn) c4
    · skip
      refine e_iload X dX5_preferred_38 rfl ?_
      refine e_iload_n X dX5_preferred_40 rfl rfl ?_
      refine e_icmp_eq X 65 dX5_preferred_41 (by decide) (fun c5 => ?_) (fun c5 => ?_)
      · skip
        rw [if_pos c5] at hB
        refine e_iinc X 1 dX5_preferred_65 rfl rfl (by decide) ?_
        refine e_goto X 29 dX5_preferred_68 (by decide) ?_
        have hy9 := hB; change (v5) = y9 at hy9; subst hy9
        exact e_le (ih _ v5 hF (cntN hn) (nnN h0 (cnt_hi hn)) hK) (And.intro rfl (And.intro rfl (And.intro rfl (And.intro rfl (And.intro rfl (And.intro rfl (And.intro rfl (trivial))))))))
      · skip
        rw [if_neg c5] at hB
        refine e_aload_n X dX5_preferred_44 rfl rfl ?_
        refine e_iload_n X dX5_preferred_45 rfl rfl ?_
        refine e_iload X dX5_preferred_46 rfl ?_
        refine e_callVi X (r := (F_Town_likingOf σ t1 v2 v6)) (σ1 := σ) [.int v2, .int v6] [] (C_Town_likingOf (Cx_gok X) σ t1 v2 v6 gt1) gv_X5_47 yk_X9_likingOf rfl (ent_lt gt1.1) (ent_at gt1.1 _) (rfl : vCl[8]? = some (RX9, TX9, 20)) ⟨Nat.le_of_ble_eq_true rfl, Nat.le_of_ble_eq_true rfl⟩ ⟨Nat.le_of_ble_eq_true rfl, Nat.le_of_ble_eq_true rfl⟩ (Nat.le_of_ble_eq_true rfl) dX5_preferred_48 rfl ?_
        refine e_iload X dX5_preferred_51 rfl ?_
        refine e_icmp_le X 65 dX5_preferred_53 (by decide) (fun c6 => ?_) (fun c6 => ?_)
        · skip
          rw [if_neg c6] at hB
          refine e_iinc X 1 dX5_preferred_65 rfl rfl (by decide) ?_
          refine e_goto X 29 dX5_preferred_68 (by decide) ?_
          have hy9 := hB; change (v5) = y9 at hy9; subst hy9
          exact e_le (ih _ v5 hF (cntN hn) (nnN h0 (cnt_hi hn)) hK) (And.intro rfl (And.intro rfl (And.intro rfl (And.intro rfl (And.intro rfl (And.intro rfl (And.intro rfl (trivial))))))))
        · skip
          rw [if_pos c6] at hB
          refine e_iload X dX5_preferred_56 rfl ?_
          refine e_iconst X 1 dX5_preferred_58 rfl ?_
          refine e_iload X dX5_preferred_59 rfl ?_
          refine e_ishl X dX5_preferred_61 ?_
          refine e_ior X dX5_preferred_62 ?_
          obtain ⟨x7, h_x7, hB⟩ := bindT_out hB
          refine e_istore X h_x7 dX5_preferred_63 (by decide) ?_
          refine e_iinc X 1 dX5_preferred_65 rfl rfl (by decide) ?_
          refine e_goto X 29 dX5_preferred_68 (by decide) ?_
          have hy9 := hB; change (x7) = y9 at hy9; subst hy9
          exact e_le (ih _ x7 hF (cntN hn) (nnN h0 (cnt_hi hn)) hK) (And.intro rfl (And.intro rfl (And.intro rfl (And.intro rfl (And.intro rfl (And.intro rfl (And.intro rfl (trivial))))))))
set_option maxRecDepth 20000 in
set_option maxHeartbeats 4000000 in
theorem C_Prs_preferred (hG : Gok l Γ D s0) (σ : Mem) (t1 : Nat) (v2 : Int32) (gt1 : isTown t1) : CT l Γ D s0 yX5_preferred cX5_preferred 7 (some .int) (3) 0 0 (64) σ [.ref (Γ.1 + 117), .ref (Γ.1 + t1), .int v2] (PI (some (.int (F_Prs_preferred σ t1 v2))) σ) := by
  generalize hF : F_Prs_preferred σ t1 v2 = out
  unfold F_Prs_preferred at hF
  refine e_met (own := RX5) hG (by decide +kernel) rfl rfl (Nat.le_of_ble_eq_true rfl) ?_
  intro p e s m args below meth c X hr
  show E p l e _ s m args below meth c Γ D 0 0 _ σ 0 [some (.ref (Γ.1 + 117)), some (.ref (Γ.1 + t1)), some (.int v2), none, none, none, none] []
  refine e_aload_n X dX5_preferred_0 rfl rfl ?_
  refine e_iload_n X dX5_preferred_1 rfl rfl ?_
  refine e_callVi X (r := (F_Town_spouseOf σ t1 v2)) (σ1 := σ) [.int v2] [] (C_Town_spouseOf (Cx_gok X) σ t1 v2 gt1) gv_X5_50 yk_X9_spouseOf rfl (ent_lt gt1.1) (ent_at gt1.1 _) (rfl : vCl[8]? = some (RX9, TX9, 20)) ⟨Nat.le_of_ble_eq_true rfl, Nat.le_of_ble_eq_true rfl⟩ ⟨Nat.le_of_ble_eq_true rfl, Nat.le_of_ble_eq_true rfl⟩ (Nat.le_of_ble_eq_true rfl) dX5_preferred_2 rfl ?_
  obtain ⟨x1, h_x1, hF⟩ := bindT_out hF
  refine e_istore_n X h_x1 dX5_preferred_5 rfl (by decide) ?_
  refine e_iload_n X dX5_preferred_6 rfl rfl ?_
  refine e_iconst X (-1) dX5_preferred_7 rfl ?_
  refine e_icmp_ne X 15 dX5_preferred_8 (by decide) (fun c2 => ?_) (fun c2 => ?_)
  · skip
    rw [if_neg c2] at hF
    refine e_aload_n X dX5_preferred_15 rfl rfl ?_
    refine e_iload_n X dX5_preferred_16 rfl rfl ?_
    refine e_iload_n X dX5_preferred_17 rfl rfl ?_
    refine e_callVi X (r := (F_Town_likingOf σ t1 v2 x1)) (σ1 := σ) [.int v2, .int x1] [] (C_Town_likingOf (Cx_gok X) σ t1 v2 x1 gt1) gv_X5_47 yk_X9_likingOf rfl (ent_lt gt1.1) (ent_at gt1.1 _) (rfl : vCl[8]? = some (RX9, TX9, 20)) ⟨Nat.le_of_ble_eq_true rfl, Nat.le_of_ble_eq_true rfl⟩ ⟨Nat.le_of_ble_eq_true rfl, Nat.le_of_ble_eq_true rfl⟩ (Nat.le_of_ble_eq_true rfl) dX5_preferred_18 rfl ?_
    obtain ⟨x3, h_x3, hF⟩ := bindT_out hF
    refine e_istore X h_x3 dX5_preferred_21 (by decide) ?_
    refine e_iconst X 0 dX5_preferred_23 rfl ?_
    refine e_istore X rfl dX5_preferred_24 (by decide) ?_
    refine e_iconst X 0 dX5_preferred_26 rfl ?_
    refine e_istore X rfl dX5_preferred_27 (by decide) ?_
    obtain ⟨z9, h_z9, hF⟩ := bindT_out hF
    refine e_le (L_Prs_preferred_29 X hr σ t1 v2 x1 x3 gt1 _ 0 0 h_z9.symm rfl (by decide) ?_) (And.intro rfl (And.intro rfl (And.intro rfl (And.intro rfl (And.intro rfl (And.intro rfl (And.intro rfl (trivial))))))))
    refine e_iload X dX5_preferred_71 rfl ?_
    exact e_iret X hr dX5_preferred_73 (Nat.le_of_ble_eq_true rfl) (Nat.le_of_ble_eq_true rfl) (by cases hF; exact ⟨rfl, rfl⟩)
  · skip
    rw [if_pos c2] at hF
    refine e_iconst X 0 dX5_preferred_11 rfl ?_
    refine e_goto X 21 dX5_preferred_12 (by decide) ?_
    refine e_istore X rfl dX5_preferred_21 (by decide) ?_
    refine e_iconst X 0 dX5_preferred_23 rfl ?_
    refine e_istore X rfl dX5_preferred_24 (by decide) ?_
    refine e_iconst X 0 dX5_preferred_26 rfl ?_
    refine e_istore X rfl dX5_preferred_27 (by decide) ?_
    obtain ⟨z10, h_z10, hF⟩ := bindT_out hF
    refine e_le (L_Prs_preferred_29 X hr σ t1 v2 x1 0 gt1 _ 0 0 h_z10.symm rfl (by decide) ?_) (And.intro rfl (And.intro rfl (And.intro rfl (And.intro rfl (And.intro rfl (And.intro rfl (And.intro rfl (trivial))))))))
    refine e_iload X dX5_preferred_71 rfl ?_
    exact e_iret X hr dX5_preferred_73 (Nat.le_of_ble_eq_true rfl) (Nat.le_of_ble_eq_true rfl) (by cases hF; exact ⟨rfl, rfl⟩)
set_option maxRecDepth 20000 in
set_option maxHeartbeats 4000000 in
theorem C_Prs_areLovers (hG : Gok l Γ D s0) (σ : Mem) (t1 : Nat) (v2 : Int32) (v3 : Int32) (gt1 : isTown t1) : CT l Γ D s0 yX5_areLovers cX5_areLovers 4 (some .boolean) (4) 0 0 (90) σ [.ref (Γ.1 + 117), .ref (Γ.1 + t1), .int v2, .int v3] (PI (some (.int (F_Prs_areLovers σ t1 v2 v3))) σ) := by
  generalize hF : F_Prs_areLovers σ t1 v2 v3 = out
  unfold F_Prs_areLovers at hF
  refine e_met (own := RX5) hG (by decide +kernel) rfl rfl (Nat.le_of_ble_eq_true rfl) ?_
  intro p e s m args below meth c X hr
  show E p l e _ s m args below meth c Γ D 0 0 _ σ 0 [some (.ref (Γ.1 + 117)), some (.ref (Γ.1 + t1)), some (.int v2), some (.int v3)] []
  refine e_aload_n X dX5_areLovers_0 rfl rfl ?_
  refine e_iload_n X dX5_areLovers_1 rfl rfl ?_
  refine e_callVi X (r := (F_Town_isRuined σ t1 v2)) (σ1 := σ) [.int v2] [] (C_Town_isRuined (Cx_gok X) σ t1 v2 gt1) gv_X5_53 yk_X9_isRuined rfl (ent_lt gt1.1) (ent_at gt1.1 _) (rfl : vCl[8]? = some (RX9, TX9, 20)) ⟨Nat.le_of_ble_eq_true rfl, Nat.le_of_ble_eq_true rfl⟩ ⟨Nat.le_of_ble_eq_true rfl, Nat.le_of_ble_eq_true rfl⟩ (Nat.le_of_ble_eq_true rfl) dX5_areLovers_2 rfl ?_
  refine e_if_ne X 46 dX5_areLovers_5 (by decide) (fun c1 => ?_) (fun c1 => ?_)
  · skip
    rw [if_neg c1] at hF
    refine e_iconst X 0 dX5_areLovers_46 rfl ?_
    exact e_zret X hr rfl dX5_areLovers_47 (Nat.le_of_ble_eq_true rfl) (Nat.le_of_ble_eq_true rfl) (by cases hF; exact ⟨rfl, rfl⟩)
  · skip
    rw [if_pos c1] at hF
    refine e_aload_n X dX5_areLovers_8 rfl rfl ?_
    refine e_iload_n X dX5_areLovers_9 rfl rfl ?_
    refine e_callVi X (r := (F_Town_isRuined σ t1 v3)) (σ1 := σ) [.int v3] [] (C_Town_isRuined (Cx_gok X) σ t1 v3 gt1) gv_X5_53 yk_X9_isRuined rfl (ent_lt gt1.1) (ent_at gt1.1 _) (rfl : vCl[8]? = some (RX9, TX9, 20)) ⟨Nat.le_of_ble_eq_true rfl, Nat.le_of_ble_eq_true rfl⟩ ⟨Nat.le_of_ble_eq_true rfl, Nat.le_of_ble_eq_true rfl⟩ (Nat.le_of_ble_eq_true rfl) dX5_areLovers_10 rfl ?_
    refine e_if_ne X 46 dX5_areLovers_13 (by decide) (fun c2 => ?_) (fun c2 => ?_)
    · skip
      rw [if_neg c2] at hF
      refine e_iconst X 0 dX5_areLovers_46 rfl ?_
      exact e_zret X hr rfl dX5_areLovers_47 (Nat.le_of_ble_eq_true rfl) (Nat.le_of_ble_eq_true rfl) (by cases hF; exact ⟨rfl, rfl⟩)
    · skip
      rw [if_pos c2] at hF
      refine e_aload_n X dX5_areLovers_16 rfl rfl ?_
      refine e_aload_n X dX5_areLovers_17 rfl rfl ?_
      refine e_iload_n X dX5_areLovers_18 rfl rfl ?_
      refine e_callVi X (r := (F_Prs_preferred σ t1 v2)) (σ1 := σ) [.ref (Γ.1 + t1), .int v2] [] (C_Prs_preferred (Cx_gok X) σ t1 v2 gt1) gv_X5_56 yk_X5_preferred rfl (ent_lt (rfl : entTbl[117]? = some (9, 0))) (ent_at (rfl : entTbl[117]? = some (9, 0)) _) (rfl : vCl[5]? = some (RX5, TX5, 3)) ⟨Nat.le_of_ble_eq_true rfl, Nat.le_of_ble_eq_true rfl⟩ ⟨Nat.le_of_ble_eq_true rfl, Nat.le_of_ble_eq_true rfl⟩ (Nat.le_of_ble_eq_true rfl) dX5_areLovers_19 rfl ?_
      refine e_iload_n X dX5_areLovers_22 rfl rfl ?_
      refine e_callSNi X (r := (F_W_contains σ ((F_Prs_preferred σ t1 v2)) v3)) (σ1 := σ) (host := RX11) [.int ((F_Prs_preferred σ t1 v2)), .int v3] [] (C_W_contains (Cx_gok X) σ ((F_Prs_preferred σ t1 v2)) v3) gb_X11_contains (by decide +kernel) wz_X11 ws_X11_contains yk_X11_contains.2 rfl ⟨Nat.le_of_ble_eq_true rfl, Nat.le_of_ble_eq_true rfl⟩ ⟨Nat.le_of_ble_eq_true rfl, Nat.le_of_ble_eq_true rfl⟩ (Nat.le_of_ble_eq_true rfl) dX5_areLovers_23 rfl ?_
      refine e_if_eq X 46 dX5_areLovers_26 (by decide) (fun c3 => ?_) (fun c3 => ?_)
      · skip
        rw [if_pos c3] at hF
        refine e_iconst X 0 dX5_areLovers_46 rfl ?_
        exact e_zret X hr rfl dX5_areLovers_47 (Nat.le_of_ble_eq_true rfl) (Nat.le_of_ble_eq_true rfl) (by cases hF; exact ⟨rfl, rfl⟩)
      · skip
        rw [if_neg c3] at hF
        refine e_aload_n X dX5_areLovers_29 rfl rfl ?_
        refine e_aload_n X dX5_areLovers_30 rfl rfl ?_
        refine e_iload_n X dX5_areLovers_31 rfl rfl ?_
        refine e_callVi X (r := (F_Prs_preferred σ t1 v3)) (σ1 := σ) [.ref (Γ.1 + t1), .int v3] [] (C_Prs_preferred (Cx_gok X) σ t1 v3 gt1) gv_X5_56 yk_X5_preferred rfl (ent_lt (rfl : entTbl[117]? = some (9, 0))) (ent_at (rfl : entTbl[117]? = some (9, 0)) _) (rfl : vCl[5]? = some (RX5, TX5, 3)) ⟨Nat.le_of_ble_eq_true rfl, Nat.le_of_ble_eq_true rfl⟩ ⟨Nat.le_of_ble_eq_true rfl, Nat.le_of_ble_eq_true rfl⟩ (Nat.le_of_ble_eq_true rfl) dX5_areLovers_32 rfl ?_
        refine e_iload_n X dX5_areLovers_35 rfl rfl ?_
        refine e_callSNi X (r := (F_W_contains σ ((F_Prs_preferred σ t1 v3)) v2)) (σ1 := σ) (host := RX11) [.int ((F_Prs_preferred σ t1 v3)), .int v2] [] (C_W_contains (Cx_gok X) σ ((F_Prs_preferred σ t1 v3)) v2) gb_X11_contains (by decide +kernel) wz_X11 ws_X11_contains yk_X11_contains.2 rfl ⟨Nat.le_of_ble_eq_true rfl, Nat.le_of_ble_eq_true rfl⟩ ⟨Nat.le_of_ble_eq_true rfl, Nat.le_of_ble_eq_true rfl⟩ (Nat.le_of_ble_eq_true rfl) dX5_areLovers_36 rfl ?_
        refine e_if_eq X 46 dX5_areLovers_39 (by decide) (fun c4 => ?_) (fun c4 => ?_)
        · skip
          rw [if_pos c4] at hF
          refine e_iconst X 0 dX5_areLovers_46 rfl ?_
          exact e_zret X hr rfl dX5_areLovers_47 (Nat.le_of_ble_eq_true rfl) (Nat.le_of_ble_eq_true rfl) (by cases hF; exact ⟨rfl, rfl⟩)
        · skip
          rw [if_neg c4] at hF
          refine e_iconst X 1 dX5_areLovers_42 rfl ?_
          refine e_goto X 47 dX5_areLovers_43 (by decide) ?_
          exact e_zret X hr rfl dX5_areLovers_47 (Nat.le_of_ble_eq_true rfl) (Nat.le_of_ble_eq_true rfl) (by cases hF; exact ⟨rfl, rfl⟩)
set_option maxRecDepth 20000 in
set_option maxHeartbeats 4000000 in
theorem L_Prs_loverPairs_17 (X : Cx p l s m args meth c Γ D s0 RX5 cX5_loverPairs 5) (hr : meth.sig.returnType = (some .int)) (σ : Mem) (t1 : Nat) (v3 : Int32) (gt1 : isTown t1) : ∀ (n : Nat) (v4 : Int32) (v2 : Int32) {z : Int32}, forS (fun i s => F_Prs_loverPairs_17_b σ t1 v3 i s) n v4 v2 = z → n = cnt v4 ((σ t1 8)) → (E p l e ({ frames := 5, cells := 0, slots := 0, locals := 113 } : Room) s m args below meth c Γ D 0 0 (MQ below (QcA Γ D Pst) args s 0 0 (frB Γ)) σ 46 [some (.ref (Γ.1 + 117)), some (.ref (Γ.1 + t1)), some (.int z), some (.int v3), none] []) → E p l e ({ frames := 5, cells := 0, slots := 0, locals := 113 } : Room) s m args below meth c Γ D 0 0 (MQ below (QcA Γ D Pst) args s 0 0 (frB Γ)) σ 17 [some (.ref (Γ.1 + 117)), some (.ref (Γ.1 + t1)), some (.int v2), some (.int v3), some (.int v4)] [] := by
  intro n
  induction n with
  | zero =>
    intro v4 v2 z hF hn hK
    refine e_iload X dX5_loverPairs_17 rfl ?_
    refine e_aload_n X dX5_loverPairs_19 rfl rfl ?_
    refine ge_Town_people X gt1 wf_X5_29 dX5_loverPairs_20 ?_
    refine e_icmp_ge X 46 dX5_loverPairs_23 (by decide) (fun c6 => ?_) (fun c6 => ?_)
    · skip
      have hz9 := hF; change (v2) = z at hz9; subst hz9
      exact e_le hK (And.intro rfl (And.intro rfl (And.intro rfl (And.intro rfl (trivial)))))
    · skip
      exact absurd c6 (cnt0 hn)
  | succ n ih =>
    intro v4 v2 z hF hn hK
    obtain ⟨y9, hB, hF⟩ := forS_step hF
    change F_Prs_loverPairs_17_b σ t1 v3 v4 v2 = y9 at hB
    unfold F_Prs_loverPairs_17_b at hB
    refine e_iload X dX5_loverPairs_17 rfl ?_
    refine e_aload_n X dX5_loverPairs_19 rfl rfl ?_
    refine ge_Town_people X gt1 wf_X5_29 dX5_loverPairs_20 ?_
    refine e_icmp_ge X 46 dX5_loverPairs_23 (by decide) (fun c3 => ?_) (fun c3 => ?_)
    · skip
      exact absurd (cntS hn) c3
    · skip
      refine e_aload_n X dX5_loverPairs_26 rfl rfl ?_
      refine e_aload_n X dX5_loverPairs_27 rfl rfl ?_
      refine e_iload_n X dX5_loverPairs_28 rfl rfl ?_
      refine e_iload X dX5_loverPairs_29 rfl ?_
      refine e_callVi X (r := (F_Prs_areLovers σ t1 v3 v4)) (σ1 := σ) [.ref (Γ.1 + t1), .int v3, .int v4] [] (C_Prs_areLovers (Cx_gok X) σ t1 v3 v4 gt1) gv_X5_64 yk_X5_areLovers rfl (ent_lt (rfl : entTbl[117]? = some (9, 0))) (ent_at (rfl : entTbl[117]? = some (9, 0)) _) (rfl : vCl[5]? = some (RX5, TX5, 3)) ⟨Nat.le_of_ble_eq_true rfl, Nat.le_of_ble_eq_true rfl⟩ ⟨Nat.le_of_ble_eq_true rfl, Nat.le_of_ble_eq_true rfl⟩ (Nat.le_of_ble_eq_true rfl) dX5_loverPairs_31 rfl ?_
      refine e_if_eq X 40 dX5_loverPairs_34 (by decide) (fun c4 => ?_) (fun c4 => ?_)
      · skip
        rw [if_pos c4] at hB
        refine e_iinc X 1 dX5_loverPairs_40 rfl rfl (by decide) ?_
        refine e_goto X 17 dX5_loverPairs_43 (by decide) ?_
        have hy9 := hB; change (v2) = y9 at hy9; subst hy9
        exact e_le (ih _ v2 hF (cntN hn) hK) (And.intro rfl (And.intro rfl (And.intro rfl (And.intro rfl (And.intro rfl (trivial))))))
      · skip
        rw [if_neg c4] at hB
        refine e_iinc X 1 dX5_loverPairs_37 rfl rfl (by decide) ?_
        obtain ⟨x5, h_x5, hB⟩ := bindT_out hB
        rw [← h_x5]
        refine e_iinc X 1 dX5_loverPairs_40 rfl rfl (by decide) ?_
        refine e_goto X 17 dX5_loverPairs_43 (by decide) ?_
        have hy9 := hB; change (x5) = y9 at hy9; subst hy9
        exact e_le (ih _ x5 hF (cntN hn) hK) (And.intro rfl (And.intro rfl (And.intro rfl (And.intro rfl (And.intro rfl (trivial))))))
set_option maxRecDepth 20000 in
set_option maxHeartbeats 4000000 in
theorem L_Prs_loverPairs_4 (X : Cx p l s m args meth c Γ D s0 RX5 cX5_loverPairs 5) (hr : meth.sig.returnType = (some .int)) (σ : Mem) (t1 : Nat) (gt1 : isTown t1) : ∀ (n : Nat) (v3 : Int32) (v2 : Int32) {z : Int32}, forS (fun i s => F_Prs_loverPairs_4_b σ t1 i s) n v3 v2 = z → n = cnt v3 ((σ t1 8)) → ¬ v3 < 0 → (E p l e ({ frames := 5, cells := 0, slots := 0, locals := 113 } : Room) s m args below meth c Γ D 0 0 (MQ below (QcA Γ D Pst) args s 0 0 (frB Γ)) σ 52 [some (.ref (Γ.1 + 117)), some (.ref (Γ.1 + t1)), some (.int z), none, none] []) → E p l e ({ frames := 5, cells := 0, slots := 0, locals := 113 } : Room) s m args below meth c Γ D 0 0 (MQ below (QcA Γ D Pst) args s 0 0 (frB Γ)) σ 4 [some (.ref (Γ.1 + 117)), some (.ref (Γ.1 + t1)), some (.int v2), some (.int v3), none] [] := by
  intro n
  induction n with
  | zero =>
    intro v3 v2 z hF hn h0 hK
    refine e_iload_n X dX5_loverPairs_4 rfl rfl ?_
    refine e_aload_n X dX5_loverPairs_5 rfl rfl ?_
    refine ge_Town_people X gt1 wf_X5_29 dX5_loverPairs_6 ?_
    refine e_icmp_ge X 52 dX5_loverPairs_9 (by decide) (fun c8 => ?_) (fun c8 => ?_)
    · skip
      have hz9 := hF; change (v2) = z at hz9; subst hz9
      exact e_le hK (And.intro rfl (And.intro rfl (And.intro rfl (trivial))))
    · skip
      exact absurd c8 (cnt0 hn)
  | succ n ih =>
    intro v3 v2 z hF hn h0 hK
    obtain ⟨y9, hB, hF⟩ := forS_step hF
    change F_Prs_loverPairs_4_b σ t1 v3 v2 = y9 at hB
    unfold F_Prs_loverPairs_4_b at hB
    refine e_iload_n X dX5_loverPairs_4 rfl rfl ?_
    refine e_aload_n X dX5_loverPairs_5 rfl rfl ?_
    refine ge_Town_people X gt1 wf_X5_29 dX5_loverPairs_6 ?_
    refine e_icmp_ge X 52 dX5_loverPairs_9 (by decide) (fun c1 => ?_) (fun c1 => ?_)
    · skip
      exact absurd (cntS hn) c1
    · skip
      refine e_iload_n X dX5_loverPairs_12 rfl rfl ?_
      refine e_iconst X 1 dX5_loverPairs_13 rfl ?_
      refine e_iadd X dX5_loverPairs_14 ?_
      obtain ⟨x2, h_x2, hB⟩ := bindT_out hB
      refine e_istore X h_x2 dX5_loverPairs_15 (by decide) ?_
      obtain ⟨z7, h_z7, hB⟩ := bindT_out hB
      refine e_le (L_Prs_loverPairs_17 X hr σ t1 v3 gt1 _ x2 v2 h_z7.symm rfl ?_) (And.intro rfl (And.intro rfl (And.intro rfl (And.intro rfl (And.intro rfl (trivial))))))
      refine e_iinc X 1 dX5_loverPairs_46 rfl rfl (by decide) ?_
      refine e_goto X 4 dX5_loverPairs_49 (by decide) ?_
      have hy9 := hB; change (z7) = y9 at hy9; subst hy9
      exact e_le (ih _ z7 hF (cntN hn) (nnN h0 (cnt_hi hn)) hK) (And.intro rfl (And.intro rfl (And.intro rfl (And.intro rfl (trivial)))))
set_option maxRecDepth 20000 in
set_option maxHeartbeats 4000000 in
theorem C_Prs_loverPairs (hG : Gok l Γ D s0) (σ : Mem) (t1 : Nat) (gt1 : isTown t1) : CT l Γ D s0 yX5_loverPairs cX5_loverPairs 5 (some .int) (5) 0 0 (113) σ [.ref (Γ.1 + 117), .ref (Γ.1 + t1)] (PI (some (.int (F_Prs_loverPairs σ t1))) σ) := by
  generalize hF : F_Prs_loverPairs σ t1 = out
  unfold F_Prs_loverPairs at hF
  refine e_met (own := RX5) hG (by decide +kernel) rfl rfl (Nat.le_of_ble_eq_true rfl) ?_
  intro p e s m args below meth c X hr
  show E p l e _ s m args below meth c Γ D 0 0 _ σ 0 [some (.ref (Γ.1 + 117)), some (.ref (Γ.1 + t1)), none, none, none] []
  refine e_iconst X 0 dX5_loverPairs_0 rfl ?_
  refine e_istore_n X rfl dX5_loverPairs_1 rfl (by decide) ?_
  refine e_iconst X 0 dX5_loverPairs_2 rfl ?_
  refine e_istore_n X rfl dX5_loverPairs_3 rfl (by decide) ?_
  obtain ⟨z9, h_z9, hF⟩ := bindT_out hF
  refine e_le (L_Prs_loverPairs_4 X hr σ t1 gt1 _ 0 0 h_z9.symm rfl (by decide) ?_) (And.intro rfl (And.intro rfl (And.intro rfl (And.intro rfl (trivial)))))
  refine e_iload_n X dX5_loverPairs_52 rfl rfl ?_
  exact e_iret X hr dX5_loverPairs_53 (Nat.le_of_ble_eq_true rfl) (Nat.le_of_ble_eq_true rfl) (by cases hF; exact ⟨rfl, rfl⟩)
set_option maxRecDepth 20000 in
set_option maxHeartbeats 4000000 in
theorem L_Prs_firstLovers_14 (X : Cx p l s m args meth c Γ D s0 RX5 cX5_firstLovers 4) (hr : meth.sig.returnType = (some .int)) (σ : Mem) (t1 : Nat) (v2 : Int32) (gt1 : isTown t1) : ∀ (n : Nat) (v3 : Int32) {z : (Unit) ⊕ (Int32)}, forG (fun i s => F_Prs_firstLovers_14_b σ t1 v2 i ) n v3 () = z → n = cnt v3 ((σ t1 8)) → (sumP z (fun s9 => E p l e ({ frames := 5, cells := 0, slots := 0, locals := 113 } : Room) s m args below meth c Γ D 0 0 (MQ below (QcA Γ D Pst) args s 0 0 (frB Γ)) σ 45 [some (.ref (Γ.1 + 117)), some (.ref (Γ.1 + t1)), some (.int v2), none] []) (fun r9 => Pst (some (.int r9)) σ)) → E p l e ({ frames := 5, cells := 0, slots := 0, locals := 113 } : Room) s m args below meth c Γ D 0 0 (MQ below (QcA Γ D Pst) args s 0 0 (frB Γ)) σ 14 [some (.ref (Γ.1 + 117)), some (.ref (Γ.1 + t1)), some (.int v2), some (.int v3)] [] := by
  intro n
  induction n with
  | zero =>
    intro v3  z hF hn hK
    refine e_iload_n X dX5_firstLovers_14 rfl rfl ?_
    refine e_aload_n X dX5_firstLovers_15 rfl rfl ?_
    refine ge_Town_people X gt1 wf_X5_29 dX5_firstLovers_16 ?_
    refine e_icmp_ge X 45 dX5_firstLovers_19 (by decide) (fun c5 => ?_) (fun c5 => ?_)
    · skip
      have hz9 := hF; change (.inl (())) = z at hz9; subst hz9
      exact e_le hK (And.intro rfl (And.intro rfl (And.intro rfl (trivial))))
    · skip
      exact absurd c5 (cnt0 hn)
  | succ n ih =>
    intro v3  z hF hn hK
    obtain ⟨y9, hB, hF⟩ := forR_step hF
    change F_Prs_firstLovers_14_b σ t1 v2 v3  = y9 at hB
    unfold F_Prs_firstLovers_14_b at hB
    refine e_iload_n X dX5_firstLovers_14 rfl rfl ?_
    refine e_aload_n X dX5_firstLovers_15 rfl rfl ?_
    refine ge_Town_people X gt1 wf_X5_29 dX5_firstLovers_16 ?_
    refine e_icmp_ge X 45 dX5_firstLovers_19 (by decide) (fun c3 => ?_) (fun c3 => ?_)
    · skip
      exact absurd (cntS hn) c3
    · skip
      refine e_aload_n X dX5_firstLovers_22 rfl rfl ?_
      refine e_aload_n X dX5_firstLovers_23 rfl rfl ?_
      refine e_iload_n X dX5_firstLovers_24 rfl rfl ?_
      refine e_iload_n X dX5_firstLovers_25 rfl rfl ?_
      refine e_callVi X (r := (F_Prs_areLovers σ t1 v2 v3)) (σ1 := σ) [.ref (Γ.1 + t1), .int v2, .int v3] [] (C_Prs_areLovers (Cx_gok X) σ t1 v2 v3 gt1) gv_X5_64 yk_X5_areLovers rfl (ent_lt (rfl : entTbl[117]? = some (9, 0))) (ent_at (rfl : entTbl[117]? = some (9, 0)) _) (rfl : vCl[5]? = some (RX5, TX5, 3)) ⟨Nat.le_of_ble_eq_true rfl, Nat.le_of_ble_eq_true rfl⟩ ⟨Nat.le_of_ble_eq_true rfl, Nat.le_of_ble_eq_true rfl⟩ (Nat.le_of_ble_eq_true rfl) dX5_firstLovers_26 rfl ?_
      refine e_if_eq X 39 dX5_firstLovers_29 (by decide) (fun c4 => ?_) (fun c4 => ?_)
      · skip
        rw [if_pos c4] at hB
        refine e_iinc X 1 dX5_firstLovers_39 rfl rfl (by decide) ?_
        refine e_goto X 14 dX5_firstLovers_42 (by decide) ?_
        have hy9 := hB; change (.inl (())) = y9 at hy9; subst hy9
        exact e_le (ih _  hF (cntN hn) hK) (And.intro rfl (And.intro rfl (And.intro rfl (And.intro rfl (trivial)))))
      · skip
        rw [if_neg c4] at hB
        refine e_bipush X 10 dX5_firstLovers_32 rfl ?_
        refine e_iload_n X dX5_firstLovers_34 rfl rfl ?_
        refine e_imul X dX5_firstLovers_35 ?_
        refine e_iload_n X dX5_firstLovers_36 rfl rfl ?_
        refine e_iadd X dX5_firstLovers_37 ?_
        have hy9 := hB; change (.inr (((10 * v2) + v3))) = y9 at hy9; subst hy9
        have hz9 := hF; change (.inr (((10 * v2) + v3))) = z at hz9; subst hz9
        exact e_iret X hr dX5_firstLovers_38 (Nat.le_of_ble_eq_true rfl) (Nat.le_of_ble_eq_true rfl) hK
set_option maxRecDepth 20000 in
set_option maxHeartbeats 4000000 in
theorem L_Prs_firstLovers_2 (X : Cx p l s m args meth c Γ D s0 RX5 cX5_firstLovers 4) (hr : meth.sig.returnType = (some .int)) (σ : Mem) (t1 : Nat) (gt1 : isTown t1) : ∀ (n : Nat) (v2 : Int32) {z : (Unit) ⊕ (Int32)}, forG (fun i s => F_Prs_firstLovers_2_b σ t1 i ) n v2 () = z → n = cnt v2 ((σ t1 8)) → ¬ v2 < 0 → (sumP z (fun s9 => E p l e ({ frames := 5, cells := 0, slots := 0, locals := 113 } : Room) s m args below meth c Γ D 0 0 (MQ below (QcA Γ D Pst) args s 0 0 (frB Γ)) σ 51 [some (.ref (Γ.1 + 117)), some (.ref (Γ.1 + t1)), none, none] []) (fun r9 => Pst (some (.int r9)) σ)) → E p l e ({ frames := 5, cells := 0, slots := 0, locals := 113 } : Room) s m args below meth c Γ D 0 0 (MQ below (QcA Γ D Pst) args s 0 0 (frB Γ)) σ 2 [some (.ref (Γ.1 + 117)), some (.ref (Γ.1 + t1)), some (.int v2), none] [] := by
  intro n
  induction n with
  | zero =>
    intro v2  z hF hn h0 hK
    refine e_iload_n X dX5_firstLovers_2 rfl rfl ?_
    refine e_aload_n X dX5_firstLovers_3 rfl rfl ?_
    refine ge_Town_people X gt1 wf_X5_29 dX5_firstLovers_4 ?_
    refine e_icmp_ge X 51 dX5_firstLovers_7 (by decide) (fun c9 => ?_) (fun c9 => ?_)
    · skip
      have hz9 := hF; change (.inl (())) = z at hz9; subst hz9
      exact e_le hK (And.intro rfl (And.intro rfl (trivial)))
    · skip
      exact absurd c9 (cnt0 hn)
  | succ n ih =>
    intro v2  z hF hn h0 hK
    obtain ⟨y9, hB, hF⟩ := forR_step hF
    change F_Prs_firstLovers_2_b σ t1 v2  = y9 at hB
    unfold F_Prs_firstLovers_2_b at hB
    refine e_iload_n X dX5_firstLovers_2 rfl rfl ?_
    refine e_aload_n X dX5_firstLovers_3 rfl rfl ?_
    refine ge_Town_people X gt1 wf_X5_29 dX5_firstLovers_4 ?_
    refine e_icmp_ge X 51 dX5_firstLovers_7 (by decide) (fun c1 => ?_) (fun c1 => ?_)
    · skip
      exact absurd (cntS hn) c1
    · skip
      refine e_iload_n X dX5_firstLovers_10 rfl rfl ?_
      refine e_iconst X 1 dX5_firstLovers_11 rfl ?_
      refine e_iadd X dX5_firstLovers_12 ?_
      obtain ⟨x2, h_x2, hB⟩ := bindT_out hB
      refine e_istore_n X h_x2 dX5_firstLovers_13 rfl (by decide) ?_
      obtain ⟨z6, h_z6, hB⟩ := bindT_out hB
      refine e_le (L_Prs_firstLovers_14 X hr σ t1 v2 gt1 _ x2  h_z6.symm rfl ?_) (And.intro rfl (And.intro rfl (And.intro rfl (And.intro rfl (trivial)))))
      cases z6 with
      | inl s7 =>
        replace hB := hB
        rw [sumE] at hB
        show E p l e _ s m args below meth c Γ D _ _ _ _ _ _ _
        refine e_iinc X 1 dX5_firstLovers_45 rfl rfl (by decide) ?_
        refine e_goto X 2 dX5_firstLovers_48 (by decide) ?_
        have hy9 := hB; change (.inl (())) = y9 at hy9; subst hy9
        exact e_le (ih _  hF (cntN hn) (nnN h0 (cnt_hi hn)) hK) (And.intro rfl (And.intro rfl (And.intro rfl (trivial))))
      | inr r8 =>
        rw [sumE] at hB
        have hy9 := hB; change (.inr r8) = y9 at hy9; subst hy9
        have hz9 := hF; change (.inr r8) = z at hz9; subst hz9
        exact hK
set_option maxRecDepth 20000 in
set_option maxHeartbeats 4000000 in
theorem C_Prs_firstLovers (hG : Gok l Γ D s0) (σ : Mem) (t1 : Nat) (gt1 : isTown t1) : CT l Γ D s0 yX5_firstLovers cX5_firstLovers 4 (some .int) (5) 0 0 (113) σ [.ref (Γ.1 + 117), .ref (Γ.1 + t1)] (PI (some (.int (F_Prs_firstLovers σ t1))) σ) := by
  generalize hF : F_Prs_firstLovers σ t1 = out
  unfold F_Prs_firstLovers at hF
  refine e_met (own := RX5) hG (by decide +kernel) rfl rfl (Nat.le_of_ble_eq_true rfl) ?_
  intro p e s m args below meth c X hr
  show E p l e _ s m args below meth c Γ D 0 0 _ σ 0 [some (.ref (Γ.1 + 117)), some (.ref (Γ.1 + t1)), none, none] []
  refine e_iconst X 0 dX5_firstLovers_0 rfl ?_
  refine e_istore_n X rfl dX5_firstLovers_1 rfl (by decide) ?_
  obtain ⟨z10, h_z10, hF⟩ := bindT_out hF
  refine e_le (L_Prs_firstLovers_2 X hr σ t1 gt1 _ 0  h_z10.symm rfl (by decide) ?_) (And.intro rfl (And.intro rfl (And.intro rfl (trivial))))
  cases z10 with
  | inl s11 =>
    replace hF := hF
    rw [sumE] at hF
    show E p l e _ s m args below meth c Γ D _ _ _ _ _ _ _
    refine e_iconst X (-1) dX5_firstLovers_51 rfl ?_
    exact e_iret X hr dX5_firstLovers_52 (Nat.le_of_ble_eq_true rfl) (Nat.le_of_ble_eq_true rfl) (by cases hF; exact ⟨rfl, rfl⟩)
  | inr r12 =>
    rw [sumE] at hF
    cases hF
    exact ⟨rfl, rfl⟩
set_option maxRecDepth 20000 in
set_option maxHeartbeats 4000000 in
theorem L_Prs_firstWithout_2 (X : Cx p l s m args meth c Γ D s0 RX5 cX5_firstWithout 3) (hr : meth.sig.returnType = (some .int)) (σ : Mem) (v1 : Int32)  : ∀ (n : Nat) (v2 : Int32) {z : (Unit) ⊕ (Int32)}, forG (fun i s => F_Prs_firstWithout_2_b σ v1 i ) n v2 () = z → n = cnt v2 v1 → ¬ v2 < 0 → (sumP z (fun s9 => E p l e ({ frames := 1, cells := 0, slots := 0, locals := 21 } : Room) s m args below meth c Γ D 0 0 (MQ below (QcA Γ D Pst) args s 0 0 (frB Γ)) σ 27 [some (.ref (Γ.1 + 117)), some (.int v1), none] []) (fun r9 => Pst (some (.int r9)) σ)) → E p l e ({ frames := 1, cells := 0, slots := 0, locals := 21 } : Room) s m args below meth c Γ D 0 0 (MQ below (QcA Γ D Pst) args s 0 0 (frB Γ)) σ 2 [some (.ref (Γ.1 + 117)), some (.int v1), some (.int v2)] [] := by
  intro n
  induction n with
  | zero =>
    intro v2  z hF hn h0 hK
    refine e_iload_n X dX5_firstWithout_2 rfl rfl ?_
    refine e_iload_n X dX5_firstWithout_3 rfl rfl ?_
    refine e_icmp_ge X 27 dX5_firstWithout_4 (by decide) (fun c3 => ?_) (fun c3 => ?_)
    · skip
      have hz9 := hF; change (.inl (())) = z at hz9; subst hz9
      exact e_le hK (And.intro rfl (And.intro rfl (trivial)))
    · skip
      exact absurd c3 (cnt0 hn)
  | succ n ih =>
    intro v2  z hF hn h0 hK
    obtain ⟨y9, hB, hF⟩ := forR_step hF
    change F_Prs_firstWithout_2_b σ v1 v2  = y9 at hB
    unfold F_Prs_firstWithout_2_b at hB
    refine e_iload_n X dX5_firstWithout_2 rfl rfl ?_
    refine e_iload_n X dX5_firstWithout_3 rfl rfl ?_
    refine e_icmp_ge X 27 dX5_firstWithout_4 (by decide) (fun c1 => ?_) (fun c1 => ?_)
    · skip
      exact absurd (cntS hn) c1
    · skip
      refine e_aload_n X dX5_firstWithout_7 rfl rfl ?_
      refine ge_Prs_partner X wf_X5_14 dX5_firstWithout_8 ?_
      refine e_iload_n X dX5_firstWithout_11 rfl rfl ?_
      refine e_callVi X (r := (F_Row_at σ 118 8 v2)) (σ1 := σ) [.int v2] [] (C_Row_at (Cx_gok X) σ 118 8 v2 ok_Row_118) gv_X5_82 yk_X6_at rfl (ent_lt ok_Row_118.1) (ent_at ok_Row_118.1 _) (rfl : vCl[6]? = some (RX6, TX6, 1)) ⟨Nat.le_of_ble_eq_true rfl, Nat.le_of_ble_eq_true rfl⟩ ⟨Nat.le_of_ble_eq_true rfl, Nat.le_of_ble_eq_true rfl⟩ (Nat.le_of_ble_eq_true rfl) dX5_firstWithout_12 rfl ?_
      refine e_iconst X (-1) dX5_firstWithout_15 rfl ?_
      refine e_icmp_ne X 21 dX5_firstWithout_16 (by decide) (fun c2 => ?_) (fun c2 => ?_)
      · skip
        rw [if_neg c2] at hB
        refine e_iinc X 1 dX5_firstWithout_21 rfl rfl (by decide) ?_
        refine e_goto X 2 dX5_firstWithout_24 (by decide) ?_
        have hy9 := hB; change (.inl (())) = y9 at hy9; subst hy9
        exact e_le (ih _  hF (cntN hn) (nnN h0 (cnt_hi hn)) hK) (And.intro rfl (And.intro rfl (And.intro rfl (trivial))))
      · skip
        rw [if_pos c2] at hB
        refine e_iload_n X dX5_firstWithout_19 rfl rfl ?_
        have hy9 := hB; change (.inr v2) = y9 at hy9; subst hy9
        have hz9 := hF; change (.inr v2) = z at hz9; subst hz9
        exact e_iret X hr dX5_firstWithout_20 (Nat.le_of_ble_eq_true rfl) (Nat.le_of_ble_eq_true rfl) hK
set_option maxRecDepth 20000 in
set_option maxHeartbeats 4000000 in
theorem C_Prs_firstWithout (hG : Gok l Γ D s0) (σ : Mem) (v1 : Int32)  : CT l Γ D s0 yX5_firstWithout cX5_firstWithout 3 (some .int) (1) 0 0 (21) σ [.ref (Γ.1 + 117), .int v1] (PI (some (.int (F_Prs_firstWithout σ v1))) σ) := by
  generalize hF : F_Prs_firstWithout σ v1 = out
  unfold F_Prs_firstWithout at hF
  refine e_met (own := RX5) hG (by decide +kernel) rfl rfl (Nat.le_of_ble_eq_true rfl) ?_
  intro p e s m args below meth c X hr
  show E p l e _ s m args below meth c Γ D 0 0 _ σ 0 [some (.ref (Γ.1 + 117)), some (.int v1), none] []
  refine e_iconst X 0 dX5_firstWithout_0 rfl ?_
  refine e_istore_n X rfl dX5_firstWithout_1 rfl (by decide) ?_
  obtain ⟨z4, h_z4, hF⟩ := bindT_out hF
  refine e_le (L_Prs_firstWithout_2 X hr σ v1 _ 0  h_z4.symm rfl (by decide) ?_) (And.intro rfl (And.intro rfl (And.intro rfl (trivial))))
  cases z4 with
  | inl s5 =>
    replace hF := hF
    rw [sumE] at hF
    show E p l e _ s m args below meth c Γ D _ _ _ _ _ _ _
    refine e_iconst X (-1) dX5_firstWithout_27 rfl ?_
    exact e_iret X hr dX5_firstWithout_28 (Nat.le_of_ble_eq_true rfl) (Nat.le_of_ble_eq_true rfl) (by cases hF; exact ⟨rfl, rfl⟩)
  | inr r6 =>
    rw [sumE] at hF
    cases hF
    exact ⟨rfl, rfl⟩
set_option maxRecDepth 20000 in
set_option maxHeartbeats 4000000 in
theorem C_Prs_wouldLeaveFor (hG : Gok l Γ D s0) (σ : Mem) (t1 : Nat) (v2 : Int32) (v3 : Int32) (gt1 : isTown t1) : CT l Γ D s0 yX5_wouldLeaveFor cX5_wouldLeaveFor 5 (some .boolean) (2) 0 0 (43) σ [.ref (Γ.1 + 117), .ref (Γ.1 + t1), .int v2, .int v3] (PI (some (.int (F_Prs_wouldLeaveFor σ t1 v2 v3))) σ) := by
  generalize hF : F_Prs_wouldLeaveFor σ t1 v2 v3 = out
  unfold F_Prs_wouldLeaveFor at hF
  refine e_met (own := RX5) hG (by decide +kernel) rfl rfl (Nat.le_of_ble_eq_true rfl) ?_
  intro p e s m args below meth c X hr
  show E p l e _ s m args below meth c Γ D 0 0 _ σ 0 [some (.ref (Γ.1 + 117)), some (.ref (Γ.1 + t1)), some (.int v2), some (.int v3), none] []
  refine e_aload_n X dX5_wouldLeaveFor_0 rfl rfl ?_
  refine ge_Prs_partner X wf_X5_14 dX5_wouldLeaveFor_1 ?_
  refine e_iload_n X dX5_wouldLeaveFor_4 rfl rfl ?_
  refine e_callVi X (r := (F_Row_at σ 118 8 v2)) (σ1 := σ) [.int v2] [] (C_Row_at (Cx_gok X) σ 118 8 v2 ok_Row_118) gv_X5_82 yk_X6_at rfl (ent_lt ok_Row_118.1) (ent_at ok_Row_118.1 _) (rfl : vCl[6]? = some (RX6, TX6, 1)) ⟨Nat.le_of_ble_eq_true rfl, Nat.le_of_ble_eq_true rfl⟩ ⟨Nat.le_of_ble_eq_true rfl, Nat.le_of_ble_eq_true rfl⟩ (Nat.le_of_ble_eq_true rfl) dX5_wouldLeaveFor_5 rfl ?_
  obtain ⟨x1, h_x1, hF⟩ := bindT_out hF
  refine e_istore X h_x1 dX5_wouldLeaveFor_8 (by decide) ?_
  refine e_iload X dX5_wouldLeaveFor_10 rfl ?_
  refine e_iload_n X dX5_wouldLeaveFor_12 rfl rfl ?_
  refine e_icmp_eq X 32 dX5_wouldLeaveFor_13 (by decide) (fun c2 => ?_) (fun c2 => ?_)
  · skip
    rw [if_pos c2] at hF
    refine e_iconst X 1 dX5_wouldLeaveFor_32 rfl ?_
    refine e_goto X 37 dX5_wouldLeaveFor_33 (by decide) ?_
    exact e_zret X hr rfl dX5_wouldLeaveFor_37 (Nat.le_of_ble_eq_true rfl) (Nat.le_of_ble_eq_true rfl) (by cases hF; exact ⟨rfl, rfl⟩)
  · skip
    rw [if_neg c2] at hF
    refine e_aload_n X dX5_wouldLeaveFor_16 rfl rfl ?_
    refine e_iload_n X dX5_wouldLeaveFor_17 rfl rfl ?_
    refine e_iload_n X dX5_wouldLeaveFor_18 rfl rfl ?_
    refine e_callVi X (r := (F_Town_likingOf σ t1 v2 v3)) (σ1 := σ) [.int v2, .int v3] [] (C_Town_likingOf (Cx_gok X) σ t1 v2 v3 gt1) gv_X5_47 yk_X9_likingOf rfl (ent_lt gt1.1) (ent_at gt1.1 _) (rfl : vCl[8]? = some (RX9, TX9, 20)) ⟨Nat.le_of_ble_eq_true rfl, Nat.le_of_ble_eq_true rfl⟩ ⟨Nat.le_of_ble_eq_true rfl, Nat.le_of_ble_eq_true rfl⟩ (Nat.le_of_ble_eq_true rfl) dX5_wouldLeaveFor_19 rfl ?_
    refine e_aload_n X dX5_wouldLeaveFor_22 rfl rfl ?_
    refine e_iload_n X dX5_wouldLeaveFor_23 rfl rfl ?_
    refine e_iload X dX5_wouldLeaveFor_24 rfl ?_
    refine e_callVi X (r := (F_Town_likingOf σ t1 v2 x1)) (σ1 := σ) [.int v2, .int x1] [.int ((F_Town_likingOf σ t1 v2 v3))] (C_Town_likingOf (Cx_gok X) σ t1 v2 x1 gt1) gv_X5_47 yk_X9_likingOf rfl (ent_lt gt1.1) (ent_at gt1.1 _) (rfl : vCl[8]? = some (RX9, TX9, 20)) ⟨Nat.le_of_ble_eq_true rfl, Nat.le_of_ble_eq_true rfl⟩ ⟨Nat.le_of_ble_eq_true rfl, Nat.le_of_ble_eq_true rfl⟩ (Nat.le_of_ble_eq_true rfl) dX5_wouldLeaveFor_26 rfl ?_
    refine e_icmp_le X 36 dX5_wouldLeaveFor_29 (by decide) (fun c3 => ?_) (fun c3 => ?_)
    · skip
      rw [if_neg c3] at hF
      refine e_iconst X 0 dX5_wouldLeaveFor_36 rfl ?_
      exact e_zret X hr rfl dX5_wouldLeaveFor_37 (Nat.le_of_ble_eq_true rfl) (Nat.le_of_ble_eq_true rfl) (by cases hF; exact ⟨rfl, rfl⟩)
    · skip
      rw [if_pos c3] at hF
      refine e_iconst X 1 dX5_wouldLeaveFor_32 rfl ?_
      refine e_goto X 37 dX5_wouldLeaveFor_33 (by decide) ?_
      exact e_zret X hr rfl dX5_wouldLeaveFor_37 (Nat.le_of_ble_eq_true rfl) (Nat.le_of_ble_eq_true rfl) (by cases hF; exact ⟨rfl, rfl⟩)
set_option maxRecDepth 20000 in
set_option maxHeartbeats 4000000 in
theorem L_Prs_countIfSteady_14 (X : Cx p l s m args meth c Γ D s0 RX5 cX5_countIfSteady 4) (hr : meth.sig.returnType = none) (σ : Mem) (t1 : Nat) (v2 : Int32) (gt1 : isTown t1) : ∀ (n : Nat) (v3 : Int32) {z : (Unit) ⊕ (Mem)}, forG (fun i s => F_Prs_countIfSteady_14_b σ t1 v2 i ) n v3 () = z → n = cnt v3 ((σ t1 8)) → (sumP z (fun s9 => E p l e ({ frames := 3, cells := 0, slots := 0, locals := 321 } : Room) s m args below meth c Γ D 0 0 (MQ below (QcA Γ D Pst) args s 0 0 (frB Γ)) σ 49 [some (.ref (Γ.1 + 117)), some (.ref (Γ.1 + t1)), some (.int v2), none] []) (fun r9 => Pst none r9)) → E p l e ({ frames := 3, cells := 0, slots := 0, locals := 321 } : Room) s m args below meth c Γ D 0 0 (MQ below (QcA Γ D Pst) args s 0 0 (frB Γ)) σ 14 [some (.ref (Γ.1 + 117)), some (.ref (Γ.1 + t1)), some (.int v2), some (.int v3)] [] := by
  intro n
  induction n with
  | zero =>
    intro v3  z hF hn hK
    refine e_iload_n X dX5_countIfSteady_14 rfl rfl ?_
    refine e_aload_n X dX5_countIfSteady_15 rfl rfl ?_
    refine ge_Town_people X gt1 wf_X5_29 dX5_countIfSteady_16 ?_
    refine e_icmp_ge X 49 dX5_countIfSteady_19 (by decide) (fun c6 => ?_) (fun c6 => ?_)
    · skip
      have hz9 := hF; change (.inl (())) = z at hz9; subst hz9
      exact e_le hK (And.intro rfl (And.intro rfl (And.intro rfl (trivial))))
    · skip
      exact absurd c6 (cnt0 hn)
  | succ n ih =>
    intro v3  z hF hn hK
    obtain ⟨y9, hB, hF⟩ := forR_step hF
    change F_Prs_countIfSteady_14_b σ t1 v2 v3  = y9 at hB
    unfold F_Prs_countIfSteady_14_b at hB
    refine e_iload_n X dX5_countIfSteady_14 rfl rfl ?_
    refine e_aload_n X dX5_countIfSteady_15 rfl rfl ?_
    refine ge_Town_people X gt1 wf_X5_29 dX5_countIfSteady_16 ?_
    refine e_icmp_ge X 49 dX5_countIfSteady_19 (by decide) (fun c3 => ?_) (fun c3 => ?_)
    · skip
      exact absurd (cntS hn) c3
    · skip
      refine e_aload_n X dX5_countIfSteady_22 rfl rfl ?_
      refine e_aload_n X dX5_countIfSteady_23 rfl rfl ?_
      refine e_iload_n X dX5_countIfSteady_24 rfl rfl ?_
      refine e_iload_n X dX5_countIfSteady_25 rfl rfl ?_
      refine e_callVi X (r := (F_Prs_wouldLeaveFor σ t1 v2 v3)) (σ1 := σ) [.ref (Γ.1 + t1), .int v2, .int v3] [] (C_Prs_wouldLeaveFor (Cx_gok X) σ t1 v2 v3 gt1) gv_X5_100 yk_X5_wouldLeaveFor rfl (ent_lt (rfl : entTbl[117]? = some (9, 0))) (ent_at (rfl : entTbl[117]? = some (9, 0)) _) (rfl : vCl[5]? = some (RX5, TX5, 3)) ⟨Nat.le_of_ble_eq_true rfl, Nat.le_of_ble_eq_true rfl⟩ ⟨Nat.le_of_ble_eq_true rfl, Nat.le_of_ble_eq_true rfl⟩ (Nat.le_of_ble_eq_true rfl) dX5_countIfSteady_26 rfl ?_
      refine e_if_eq X 43 dX5_countIfSteady_29 (by decide) (fun c4 => ?_) (fun c4 => ?_)
      · skip
        rw [if_pos c4] at hB
        refine e_iinc X 1 dX5_countIfSteady_43 rfl rfl (by decide) ?_
        refine e_goto X 14 dX5_countIfSteady_46 (by decide) ?_
        have hy9 := hB; change (.inl (())) = y9 at hy9; subst hy9
        exact e_le (ih _  hF (cntN hn) hK) (And.intro rfl (And.intro rfl (And.intro rfl (And.intro rfl (trivial)))))
      · skip
        rw [if_neg c4] at hB
        refine e_aload_n X dX5_countIfSteady_32 rfl rfl ?_
        refine e_aload_n X dX5_countIfSteady_33 rfl rfl ?_
        refine e_iload_n X dX5_countIfSteady_34 rfl rfl ?_
        refine e_iload_n X dX5_countIfSteady_35 rfl rfl ?_
        refine e_callVi X (r := (F_Prs_wouldLeaveFor σ t1 v3 v2)) (σ1 := σ) [.ref (Γ.1 + t1), .int v3, .int v2] [] (C_Prs_wouldLeaveFor (Cx_gok X) σ t1 v3 v2 gt1) gv_X5_100 yk_X5_wouldLeaveFor rfl (ent_lt (rfl : entTbl[117]? = some (9, 0))) (ent_at (rfl : entTbl[117]? = some (9, 0)) _) (rfl : vCl[5]? = some (RX5, TX5, 3)) ⟨Nat.le_of_ble_eq_true rfl, Nat.le_of_ble_eq_true rfl⟩ ⟨Nat.le_of_ble_eq_true rfl, Nat.le_of_ble_eq_true rfl⟩ (Nat.le_of_ble_eq_true rfl) dX5_countIfSteady_36 rfl ?_
        refine e_if_eq X 43 dX5_countIfSteady_39 (by decide) (fun c5 => ?_) (fun c5 => ?_)
        · skip
          rw [if_pos c5] at hB
          refine e_iinc X 1 dX5_countIfSteady_43 rfl rfl (by decide) ?_
          refine e_goto X 14 dX5_countIfSteady_46 (by decide) ?_
          have hy9 := hB; change (.inl (())) = y9 at hy9; subst hy9
          exact e_le (ih _  hF (cntN hn) hK) (And.intro rfl (And.intro rfl (And.intro rfl (And.intro rfl (trivial)))))
        · skip
          rw [if_neg c5] at hB
          have hy9 := hB; change (.inr σ) = y9 at hy9; subst hy9
          have hz9 := hF; change (.inr σ) = z at hz9; subst hz9
          exact e_vret X hr dX5_countIfSteady_42 (Nat.le_of_ble_eq_true rfl) (Nat.le_of_ble_eq_true rfl) hK
set_option maxRecDepth 20000 in
set_option maxHeartbeats 4000000 in
theorem L_Prs_countIfSteady_2 (X : Cx p l s m args meth c Γ D s0 RX5 cX5_countIfSteady 4) (hr : meth.sig.returnType = none) (σ : Mem) (t1 : Nat) (gt1 : isTown t1) : ∀ (n : Nat) (v2 : Int32) {z : (Unit) ⊕ (Mem)}, forG (fun i s => F_Prs_countIfSteady_2_b σ t1 i ) n v2 () = z → n = cnt v2 ((σ t1 8)) → ¬ v2 < 0 → (sumP z (fun s9 => E p l e ({ frames := 3, cells := 0, slots := 0, locals := 321 } : Room) s m args below meth c Γ D 0 0 (MQ below (QcA Γ D Pst) args s 0 0 (frB Γ)) σ 55 [some (.ref (Γ.1 + 117)), some (.ref (Γ.1 + t1)), none, none] []) (fun r9 => Pst none r9)) → E p l e ({ frames := 3, cells := 0, slots := 0, locals := 321 } : Room) s m args below meth c Γ D 0 0 (MQ below (QcA Γ D Pst) args s 0 0 (frB Γ)) σ 2 [some (.ref (Γ.1 + 117)), some (.ref (Γ.1 + t1)), some (.int v2), none] [] := by
  intro n
  induction n with
  | zero =>
    intro v2  z hF hn h0 hK
    refine e_iload_n X dX5_countIfSteady_2 rfl rfl ?_
    refine e_aload_n X dX5_countIfSteady_3 rfl rfl ?_
    refine ge_Town_people X gt1 wf_X5_29 dX5_countIfSteady_4 ?_
    refine e_icmp_ge X 55 dX5_countIfSteady_7 (by decide) (fun c10 => ?_) (fun c10 => ?_)
    · skip
      have hz9 := hF; change (.inl (())) = z at hz9; subst hz9
      exact e_le hK (And.intro rfl (And.intro rfl (trivial)))
    · skip
      exact absurd c10 (cnt0 hn)
  | succ n ih =>
    intro v2  z hF hn h0 hK
    obtain ⟨y9, hB, hF⟩ := forR_step hF
    change F_Prs_countIfSteady_2_b σ t1 v2  = y9 at hB
    unfold F_Prs_countIfSteady_2_b at hB
    refine e_iload_n X dX5_countIfSteady_2 rfl rfl ?_
    refine e_aload_n X dX5_countIfSteady_3 rfl rfl ?_
    refine ge_Town_people X gt1 wf_X5_29 dX5_countIfSteady_4 ?_
    refine e_icmp_ge X 55 dX5_countIfSteady_7 (by decide) (fun c1 => ?_) (fun c1 => ?_)
    · skip
      exact absurd (cntS hn) c1
    · skip
      refine e_iload_n X dX5_countIfSteady_10 rfl rfl ?_
      refine e_iconst X 1 dX5_countIfSteady_11 rfl ?_
      refine e_iadd X dX5_countIfSteady_12 ?_
      obtain ⟨x2, h_x2, hB⟩ := bindT_out hB
      refine e_istore_n X h_x2 dX5_countIfSteady_13 rfl (by decide) ?_
      obtain ⟨z7, h_z7, hB⟩ := bindT_out hB
      refine e_le (L_Prs_countIfSteady_14 X hr σ t1 v2 gt1 _ x2  h_z7.symm rfl ?_) (And.intro rfl (And.intro rfl (And.intro rfl (And.intro rfl (trivial)))))
      cases z7 with
      | inl s8 =>
        replace hB := hB
        rw [sumE] at hB
        show E p l e _ s m args below meth c Γ D _ _ _ _ _ _ _
        refine e_iinc X 1 dX5_countIfSteady_49 rfl rfl (by decide) ?_
        refine e_goto X 2 dX5_countIfSteady_52 (by decide) ?_
        have hy9 := hB; change (.inl (())) = y9 at hy9; subst hy9
        exact e_le (ih _  hF (cntN hn) (nnN h0 (cnt_hi hn)) hK) (And.intro rfl (And.intro rfl (And.intro rfl (trivial))))
      | inr r9 =>
        rw [sumE] at hB
        have hy9 := hB; change (.inr r9) = y9 at hy9; subst hy9
        have hz9 := hF; change (.inr r9) = z at hz9; subst hz9
        exact hK
set_option maxRecDepth 20000 in
set_option maxHeartbeats 4000000 in
theorem C_Prs_countIfSteady (hG : Gok l Γ D s0) (σ : Mem) (t1 : Nat) (gt1 : isTown t1) : CT l Γ D s0 yX5_countIfSteady cX5_countIfSteady 4 none (3) 0 0 (321) σ [.ref (Γ.1 + 117), .ref (Γ.1 + t1)] (PI none (F_Prs_countIfSteady σ t1)) := by
  generalize hF : F_Prs_countIfSteady σ t1 = out
  unfold F_Prs_countIfSteady at hF
  refine e_met (own := RX5) hG (by decide +kernel) rfl rfl (Nat.le_of_ble_eq_true rfl) ?_
  intro p e s m args below meth c X hr
  show E p l e _ s m args below meth c Γ D 0 0 _ σ 0 [some (.ref (Γ.1 + 117)), some (.ref (Γ.1 + t1)), none, none] []
  refine e_iconst X 0 dX5_countIfSteady_0 rfl ?_
  refine e_istore_n X rfl dX5_countIfSteady_1 rfl (by decide) ?_
  obtain ⟨z11, h_z11, hF⟩ := bindT_out hF
  refine e_le (L_Prs_countIfSteady_2 X hr σ t1 gt1 _ 0  h_z11.symm rfl (by decide) ?_) (And.intro rfl (And.intro rfl (And.intro rfl (trivial))))
  cases z11 with
  | inl s12 =>
    replace hF := hF
    rw [sumE] at hF
    show E p l e _ s m args below meth c Γ D _ _ _ _ _ _ _
    refine e_aload_n X dX5_countIfSteady_55 rfl rfl ?_
    refine ge_Prs_ways X wf_X5_68 dX5_countIfSteady_56 ?_
    refine e_if_ne X 73 dX5_countIfSteady_59 (by decide) (fun c14 => ?_) (fun c14 => ?_)
    · skip
      rw [if_neg c14] at hF
      refine e_aload_n X dX5_countIfSteady_73 rfl rfl ?_
      refine e_dup X dX5_countIfSteady_74 rfl ?_
      refine ge_Prs_ways X wf_X5_68 dX5_countIfSteady_75 ?_
      refine e_iconst X 1 dX5_countIfSteady_78 rfl ?_
      refine e_iadd X dX5_countIfSteady_79 ?_
      obtain ⟨σ15, h_σ15, hF⟩ := bindT_out hF
      refine pu_Prs_ways X wf_X5_68 dX5_countIfSteady_80 h_σ15 ?_
      exact e_vret X hr dX5_countIfSteady_83 (Nat.le_of_ble_eq_true rfl) (Nat.le_of_ble_eq_true rfl) (by cases hF; exact ⟨rfl, rfl⟩)
    · skip
      rw [if_pos c14] at hF
      refine e_aload_n X dX5_countIfSteady_62 rfl rfl ?_
      refine ge_Prs_firstWay X wf_X5_20 dX5_countIfSteady_63 ?_
      refine e_aload_n X dX5_countIfSteady_66 rfl rfl ?_
      refine ge_Prs_partner X wf_X5_14 dX5_countIfSteady_67 ?_
      obtain ⟨z16, h_z16, hF⟩ := bindT_out hF
      refine e_callVv X (σ1 := z16) [.ref (Γ.1 + 118)] [] (by rw [h_z16]; exact C_Row_copyAll (Cx_gok X) σ 120 8 118 8 ok_Row_120 ok_Row_118) gv_X5_103 yk_X6_copyAll rfl (ent_lt ok_Row_120.1) (ent_at ok_Row_120.1 _) (rfl : vCl[6]? = some (RX6, TX6, 1)) ⟨Nat.le_of_ble_eq_true rfl, Nat.le_of_ble_eq_true rfl⟩ ⟨Nat.le_of_ble_eq_true rfl, Nat.le_of_ble_eq_true rfl⟩ (Nat.le_of_ble_eq_true rfl) dX5_countIfSteady_70 rfl ?_
      refine e_aload_n X dX5_countIfSteady_73 rfl rfl ?_
      refine e_dup X dX5_countIfSteady_74 rfl ?_
      refine ge_Prs_ways X wf_X5_68 dX5_countIfSteady_75 ?_
      refine e_iconst X 1 dX5_countIfSteady_78 rfl ?_
      refine e_iadd X dX5_countIfSteady_79 ?_
      obtain ⟨σ17, h_σ17, hF⟩ := bindT_out hF
      refine pu_Prs_ways X wf_X5_68 dX5_countIfSteady_80 h_σ17 ?_
      exact e_vret X hr dX5_countIfSteady_83 (Nat.le_of_ble_eq_true rfl) (Nat.le_of_ble_eq_true rfl) (by cases hF; exact ⟨rfl, rfl⟩)
  | inr r13 =>
    rw [sumE] at hF
    cases hF
    exact ⟨rfl, rfl⟩
end PART

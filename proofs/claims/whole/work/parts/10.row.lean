section PART
variable {p : Program} {l : Launch} {e : Env} {R : Room} {s : State} {m : MethodId} {args : Array Value} {below : List Frame} {meth : Method} {c : Code} {Γ : Gm} {D : va_G} {s0 : State} {cells slots : Nat} {Q : State → Prop} {own : String} {cc : ByteArray} {nL : Nat} {σ : Mem} {pc : Nat} {lv : List (Option Value)} {st : List Value} {Pst : Option Value → Mem → Prop}
def F_Row_at (σ : Mem) (r rn : Nat) (v1 : Int32) : Int32 := (if v1 < 0 then 0 else (if v1 < (Int32.ofNat rn) then (σ (r + 1) v1.toNatClampNeg) else 0))
def F_Row_put (σ : Mem) (r rn : Nat) (v1 : Int32) (v2 : Int32) : Mem := (if v1 < 0 then σ else (if v1 < (Int32.ofNat rn) then bindT (up σ (r + 1) v1.toNatClampNeg v2) fun σ3 => σ3 else σ))
def F_Row_putAll_2_b (r : Nat) (rn : Nat) (v1 : Int32) (v2 : Int32) (σ : Mem) : Mem := bindT (up σ (r + 1) v2.toNatClampNeg v1) fun σ2 => σ2
def F_Row_putAll (σ : Mem) (r rn : Nat) (v1 : Int32) : Mem := bindT (forS (fun i s => F_Row_putAll_2_b r rn v1 i s) (cnt 0 ((Int32.ofNat rn))) 0 σ) fun z4 => z4
def F_Row_copyAll (σ : Mem) (r rn : Nat) (r1 rn1 : Nat) : Mem := bindT (cpM σ (r1 + 1) (r + 1) ((if (Int32.ofNat rn1) < (Int32.ofNat rn) then (Int32.ofNat rn1) else (Int32.ofNat rn)) : Int32).toNatClampNeg) fun σ1 => σ1
set_option maxRecDepth 20000 in
set_option maxHeartbeats 4000000 in
theorem C_Row_at (hG : Gok l Γ D s0) (σ : Mem) (r rn : Nat) (v1 : Int32) (gr : isRow r rn) : CT l Γ D s0 yX6_at cX6_at 2 (some .int) (0) 0 0 (0) σ [.ref (Γ.1 + r), .int v1] (PI (some (.int (F_Row_at σ r rn v1))) σ) := by
  generalize hF : F_Row_at σ r rn v1 = out
  unfold F_Row_at at hF
  refine e_met (own := RX6) hG (by decide +kernel) rfl rfl (Nat.le_of_ble_eq_true rfl) ?_
  intro p e s m args below meth c X hr
  show E p l e _ s m args below meth c Γ D 0 0 _ σ 0 [some (.ref (Γ.1 + r)), some (.int v1)] []
  refine e_iload_n X dX6_at_0 rfl rfl ?_
  refine e_if_lt X 22 dX6_at_1 (by decide) (fun c1 => ?_) (fun c1 => ?_)
  · skip
    rw [if_pos c1] at hF
    refine e_iconst X 0 dX6_at_22 rfl ?_
    exact e_iret X hr dX6_at_23 (Nat.le_of_ble_eq_true rfl) (Nat.le_of_ble_eq_true rfl) (by cases hF; exact ⟨rfl, rfl⟩)
  · skip
    rw [if_neg c1] at hF
    refine e_iload_n X dX6_at_4 rfl rfl ?_
    refine e_aload_n X dX6_at_5 rfl rfl ?_
    refine ge_Row_cells X gr wf_X6_7 dX6_at_6 ?_
    refine e_alen X (Int32.ofNat rn) gr.2 rfl dX6_at_9 ?_
    refine e_icmp_ge X 22 dX6_at_10 (by decide) (fun c2 => ?_) (fun c2 => ?_)
    · skip
      rw [if_neg c2] at hF
      refine e_iconst X 0 dX6_at_22 rfl ?_
      exact e_iret X hr dX6_at_23 (Nat.le_of_ble_eq_true rfl) (Nat.le_of_ble_eq_true rfl) (by cases hF; exact ⟨rfl, rfl⟩)
    · skip
      rw [if_pos c2] at hF
      refine e_aload_n X dX6_at_13 rfl rfl ?_
      refine ge_Row_cells X gr wf_X6_7 dX6_at_14 ?_
      refine e_iload_n X dX6_at_17 rfl rfl ?_
      refine e_iald X (j := v1.toNatClampNeg) rfl gr.2 (vp_g gr.2 c1 c2) rfl dX6_at_18 ?_
      refine e_goto X 23 dX6_at_19 (by decide) ?_
      exact e_iret X hr dX6_at_23 (Nat.le_of_ble_eq_true rfl) (Nat.le_of_ble_eq_true rfl) (by cases hF; exact ⟨rfl, rfl⟩)
set_option maxRecDepth 20000 in
set_option maxHeartbeats 4000000 in
theorem C_Row_put (hG : Gok l Γ D s0) (σ : Mem) (r rn : Nat) (v1 : Int32) (v2 : Int32) (gr : isRow r rn) : CT l Γ D s0 yX6_put cX6_put 3 none (0) 0 0 (0) σ [.ref (Γ.1 + r), .int v1, .int v2] (PI none (F_Row_put σ r rn v1 v2)) := by
  generalize hF : F_Row_put σ r rn v1 v2 = out
  unfold F_Row_put at hF
  refine e_met (own := RX6) hG (by decide +kernel) rfl rfl (Nat.le_of_ble_eq_true rfl) ?_
  intro p e s m args below meth c X hr
  show E p l e _ s m args below meth c Γ D 0 0 _ σ 0 [some (.ref (Γ.1 + r)), some (.int v1), some (.int v2)] []
  refine e_iload_n X dX6_put_0 rfl rfl ?_
  refine e_if_lt X 20 dX6_put_1 (by decide) (fun c1 => ?_) (fun c1 => ?_)
  · skip
    rw [if_pos c1] at hF
    exact e_vret X hr dX6_put_20 (Nat.le_of_ble_eq_true rfl) (Nat.le_of_ble_eq_true rfl) (by cases hF; exact ⟨rfl, rfl⟩)
  · skip
    rw [if_neg c1] at hF
    refine e_iload_n X dX6_put_4 rfl rfl ?_
    refine e_aload_n X dX6_put_5 rfl rfl ?_
    refine ge_Row_cells X gr wf_X6_7 dX6_put_6 ?_
    refine e_alen X (Int32.ofNat rn) gr.2 rfl dX6_put_9 ?_
    refine e_icmp_ge X 20 dX6_put_10 (by decide) (fun c2 => ?_) (fun c2 => ?_)
    · skip
      rw [if_neg c2] at hF
      exact e_vret X hr dX6_put_20 (Nat.le_of_ble_eq_true rfl) (Nat.le_of_ble_eq_true rfl) (by cases hF; exact ⟨rfl, rfl⟩)
    · skip
      rw [if_pos c2] at hF
      refine e_aload_n X dX6_put_13 rfl rfl ?_
      refine ge_Row_cells X gr wf_X6_7 dX6_put_14 ?_
      refine e_iload_n X dX6_put_17 rfl rfl ?_
      refine e_iload_n X dX6_put_18 rfl rfl ?_
      obtain ⟨σ3, h_σ3, hF⟩ := bindT_out hF
      refine e_iast X (j := v1.toNatClampNeg) rfl gr.2 (vp_g gr.2 c1 c2) rfl dX6_put_19 h_σ3 ?_
      exact e_vret X hr dX6_put_20 (Nat.le_of_ble_eq_true rfl) (Nat.le_of_ble_eq_true rfl) (by cases hF; exact ⟨rfl, rfl⟩)
set_option maxRecDepth 20000 in
set_option maxHeartbeats 4000000 in
theorem L_Row_putAll_2 (X : Cx p l s m args meth c Γ D s0 RX6 cX6_putAll 3) (hr : meth.sig.returnType = none) (r : Nat) (rn : Nat) (v1 : Int32) (gr : isRow r rn) : ∀ (n : Nat) (v2 : Int32) (σ : Mem) {z : Mem}, forS (fun i s => F_Row_putAll_2_b r rn v1 i s) n v2 σ = z → n = cnt v2 ((Int32.ofNat rn)) → ¬ v2 < 0 → (E p l e ({ frames := 0, cells := 0, slots := 0, locals := 0 } : Room) s m args below meth c Γ D 0 0 (MQ below (QcA Γ D Pst) args s 0 0 (frB Γ)) z 24 [some (.ref (Γ.1 + r)), some (.int v1), none] []) → E p l e ({ frames := 0, cells := 0, slots := 0, locals := 0 } : Room) s m args below meth c Γ D 0 0 (MQ below (QcA Γ D Pst) args s 0 0 (frB Γ)) σ 2 [some (.ref (Γ.1 + r)), some (.int v1), some (.int v2)] [] := by
  intro n
  induction n with
  | zero =>
    intro v2 σ z hF hn h0 hK
    refine e_iload_n X dX6_putAll_2 rfl rfl ?_
    refine e_aload_n X dX6_putAll_3 rfl rfl ?_
    refine ge_Row_cells X gr wf_X6_7 dX6_putAll_4 ?_
    refine e_alen X (Int32.ofNat rn) gr.2 rfl dX6_putAll_7 ?_
    refine e_icmp_ge X 24 dX6_putAll_8 (by decide) (fun c3 => ?_) (fun c3 => ?_)
    · skip
      have hz9 := hF; change (σ) = z at hz9; subst hz9
      exact e_le hK (And.intro rfl (And.intro rfl (trivial)))
    · skip
      exact absurd c3 (cnt0 hn)
  | succ n ih =>
    intro v2 σ z hF hn h0 hK
    obtain ⟨y9, hB, hF⟩ := forS_step hF
    change F_Row_putAll_2_b r rn v1 v2 σ = y9 at hB
    unfold F_Row_putAll_2_b at hB
    refine e_iload_n X dX6_putAll_2 rfl rfl ?_
    refine e_aload_n X dX6_putAll_3 rfl rfl ?_
    refine ge_Row_cells X gr wf_X6_7 dX6_putAll_4 ?_
    refine e_alen X (Int32.ofNat rn) gr.2 rfl dX6_putAll_7 ?_
    refine e_icmp_ge X 24 dX6_putAll_8 (by decide) (fun c1 => ?_) (fun c1 => ?_)
    · skip
      exact absurd (cntS hn) c1
    · skip
      refine e_aload_n X dX6_putAll_11 rfl rfl ?_
      refine ge_Row_cells X gr wf_X6_7 dX6_putAll_12 ?_
      refine e_iload_n X dX6_putAll_15 rfl rfl ?_
      refine e_iload_n X dX6_putAll_16 rfl rfl ?_
      obtain ⟨σ2, h_σ2, hB⟩ := bindT_out hB
      refine e_iast X (j := v2.toNatClampNeg) rfl gr.2 (vp_g gr.2 h0 c1) rfl dX6_putAll_17 h_σ2 ?_
      refine e_iinc X 1 dX6_putAll_18 rfl rfl (by decide) ?_
      refine e_goto X 2 dX6_putAll_21 (by decide) ?_
      have hy9 := hB; change (σ2) = y9 at hy9; subst hy9
      exact e_le (ih _ σ2 hF (cntN hn) (nnN h0 (cnt_hi hn)) hK) (And.intro rfl (And.intro rfl (And.intro rfl (trivial))))
set_option maxRecDepth 20000 in
set_option maxHeartbeats 4000000 in
theorem C_Row_putAll (hG : Gok l Γ D s0) (σ : Mem) (r rn : Nat) (v1 : Int32) (gr : isRow r rn) : CT l Γ D s0 yX6_putAll cX6_putAll 3 none (0) 0 0 (0) σ [.ref (Γ.1 + r), .int v1] (PI none (F_Row_putAll σ r rn v1)) := by
  generalize hF : F_Row_putAll σ r rn v1 = out
  unfold F_Row_putAll at hF
  refine e_met (own := RX6) hG (by decide +kernel) rfl rfl (Nat.le_of_ble_eq_true rfl) ?_
  intro p e s m args below meth c X hr
  show E p l e _ s m args below meth c Γ D 0 0 _ σ 0 [some (.ref (Γ.1 + r)), some (.int v1), none] []
  refine e_iconst X 0 dX6_putAll_0 rfl ?_
  refine e_istore_n X rfl dX6_putAll_1 rfl (by decide) ?_
  obtain ⟨z4, h_z4, hF⟩ := bindT_out hF
  refine e_le (L_Row_putAll_2 X hr r rn v1 gr _ 0 σ h_z4.symm rfl (by decide) ?_) (And.intro rfl (And.intro rfl (And.intro rfl (trivial))))
  exact e_vret X hr dX6_putAll_24 (Nat.le_of_ble_eq_true rfl) (Nat.le_of_ble_eq_true rfl) (by cases hF; exact ⟨rfl, rfl⟩)
set_option maxRecDepth 20000 in
set_option maxHeartbeats 4000000 in
theorem C_Row_copyAll (hG : Gok l Γ D s0) (σ : Mem) (r rn : Nat) (r1 rn1 : Nat) (gr : isRow r rn) (gr1 : isRow r1 rn1) : CT l Γ D s0 yX6_copyAll cX6_copyAll 2 none (1) 0 0 (300) σ [.ref (Γ.1 + r), .ref (Γ.1 + r1)] (PI none (F_Row_copyAll σ r rn r1 rn1)) := by
  generalize hF : F_Row_copyAll σ r rn r1 rn1 = out
  unfold F_Row_copyAll at hF
  refine e_met (own := RX6) hG (by decide +kernel) rfl rfl (Nat.le_of_ble_eq_true rfl) ?_
  intro p e s m args below meth c X hr
  show E p l e _ s m args below meth c Γ D 0 0 _ σ 0 [some (.ref (Γ.1 + r)), some (.ref (Γ.1 + r1))] []
  refine e_aload_n X dX6_copyAll_0 rfl rfl ?_
  refine ge_Row_cells X gr1 wf_X6_7 dX6_copyAll_1 ?_
  refine e_iconst X 0 dX6_copyAll_4 rfl ?_
  refine e_aload_n X dX6_copyAll_5 rfl rfl ?_
  refine ge_Row_cells X gr wf_X6_7 dX6_copyAll_6 ?_
  refine e_iconst X 0 dX6_copyAll_9 rfl ?_
  refine e_aload_n X dX6_copyAll_10 rfl rfl ?_
  refine ge_Row_cells X gr wf_X6_7 dX6_copyAll_11 ?_
  refine e_alen X (Int32.ofNat rn) gr.2 rfl dX6_copyAll_14 ?_
  refine e_aload_n X dX6_copyAll_15 rfl rfl ?_
  refine ge_Row_cells X gr1 wf_X6_7 dX6_copyAll_16 ?_
  refine e_alen X (Int32.ofNat rn1) gr1.2 rfl dX6_copyAll_19 ?_
  refine e_mmin X wMl_X6_13 wMs_min wMi wMc_min (Nat.le_of_ble_eq_true rfl) (Nat.le_of_ble_eq_true rfl) (Nat.le_of_ble_eq_true rfl) (Nat.le_of_ble_eq_true rfl) dX6_copyAll_20 ?_
  obtain ⟨σ1, h_σ1, hF⟩ := bindT_out hF
  refine e_copy X gr1.2 gr.2 wAl_X6_19 wAn wAs wAi (mincp (ent_small gr.2) (ent_small gr1.2)) (Nat.le_of_ble_eq_true rfl) (Nat.le_of_ble_eq_true rfl) dX6_copyAll_23 h_σ1 ?_
  exact e_vret X hr dX6_copyAll_26 (Nat.le_of_ble_eq_true rfl) (Nat.le_of_ble_eq_true rfl) (by cases hF; exact ⟨rfl, rfl⟩)
end PART

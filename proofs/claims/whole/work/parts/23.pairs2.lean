section PART
variable {p : Program} {l : Launch} {e : Env} {R : Room} {s : State} {m : MethodId} {args : Array Value} {below : List Frame} {meth : Method} {c : Code} {Γ : Gm} {D : va_G} {s0 : State} {cells slots : Nat} {Q : State → Prop} {own : String} {cc : ByteArray} {nL : Nat} {σ : Mem} {pc : Nat} {lv : List (Option Value)} {st : List Value} {Pst : Option Value → Mem → Prop}
def F_Prs_tryPair_g (rc : Mem → Nat → Int32 → Int32 → Option (Mem)) (σ : Mem) (t1 : Nat) (v2 : Int32) (v3 : Int32) (v4 : Int32) (v5 : Int32) : Option (Mem) := bindT (F_Row_put σ 118 8 v2 v3) fun z1 => bindT (F_Row_put z1 118 8 v3 v2) fun z2 => obind (rc z2 t1 v4 ((v5 + 1))) fun z3 => bindT (F_Row_put z3 118 8 v2 ((-1))) fun z4 => bindT (F_Row_put z4 118 8 v3 ((-1))) fun z5 => some z5
def F_Prs_pairUp_50_b (rc : Mem → Nat → Int32 → Int32 → Option (Mem)) (t1 : Nat) (v2 : Int32) (v3 : Int32) (v4 : Int32) (v5 : Int32) (σ : Mem) : Option ((Int32 × Mem) ⊕ (Int32 × Mem)) := (if v5 < (σ t1 8) then (if (F_Row_at σ 118 8 v5) = (-1) then obind (F_Prs_tryPair_g rc σ t1 v4 v5 v2 v3) fun z9 => bindT (v5 + 1) fun x10 => some (.inl ((x10, z9))) else bindT (v5 + 1) fun x8 => some (.inl ((x8, σ)))) else some (.inr ((v5, σ))))
def F_Prs_pairUp_g (rc : Mem → Nat → Int32 → Int32 → Option (Mem)) (σ : Mem) (t1 : Nat) (v2 : Int32) (v3 : Int32) : Option (Mem) := bindT ((F_Prs_firstWithout σ ((σ t1 8)))) fun x1 => (if x1 = (-1) then bindT (F_Prs_countIfSteady σ t1) fun z15 => some z15 else (if v3 < 8 then (if v2 = 0 then bindT ((x1 + 1)) fun x5 => obind (whl (fun s => F_Prs_pairUp_50_b rc t1 v2 v3 x1 s.1 s.2) FUEL (x5, σ)) fun z11 => some z11.2 else obind (F_Prs_tryPair_g rc σ t1 x1 x1 0 v3) fun z12 => bindT ((x1 + 1)) fun x13 => obind (whl (fun s => F_Prs_pairUp_50_b rc t1 v2 v3 x1 s.1 s.2) FUEL (x13, z12)) fun z14 => some z14.2) else some σ))
def F_Prs_pairUp_d : Nat → Mem → Nat → Int32 → Int32 → Option (Mem)
  | 0 => fun _ _ _ _ => none
  | d + 1 => F_Prs_pairUp_g (F_Prs_pairUp_d d)
def F_Prs_tryPair (σ : Mem) (t1 : Nat) (v2 : Int32) (v3 : Int32) (v4 : Int32) (v5 : Int32) : Option (Mem) := F_Prs_tryPair_g (F_Prs_pairUp_d 10) σ t1 v2 v3 v4 v5
def F_Prs_pairUp (σ : Mem) (t1 : Nat) (v2 : Int32) (v3 : Int32) : Option (Mem) := F_Prs_pairUp_g (F_Prs_pairUp_d 10) σ t1 v2 v3
set_option maxRecDepth 20000 in
set_option maxHeartbeats 4000000 in
theorem C_Prs_tryPair_g (hG : Gok l Γ D s0) {fr lo : Nat} (rc : Mem → Nat → Int32 → Int32 → Option (Mem)) (hrc : ∀ (σ : Mem) (t1 : Nat) (v2 : Int32) (v3 : Int32) (gt1 : isTown t1) {out : Mem}, rc σ t1 v2 v3 = some out → CT l Γ D s0 yX5_pairUp cX5_pairUp 6 none fr 0 0 lo σ [.ref (Γ.1 + 117), .ref (Γ.1 + t1), .int v2, .int v3] (PI none out)) (σ : Mem) (t1 : Nat) (v2 : Int32) (v3 : Int32) (v4 : Int32) (v5 : Int32) (gt1 : isTown t1) {out : Mem} (hF : F_Prs_tryPair_g rc σ t1 v2 v3 v4 v5 = some out) : CT l Γ D s0 yX5_tryPair cX5_tryPair 6 none (fr + 1) 0 0 (lo + 25) σ [.ref (Γ.1 + 117), .ref (Γ.1 + t1), .int v2, .int v3, .int v4, .int v5] (PI none out) := by
  unfold F_Prs_tryPair_g at hF
  refine e_met (own := RX5) hG (by decide +kernel) rfl rfl (Nat.le_of_ble_eq_true rfl) ?_
  intro p e s m args below meth c X hr
  show E p l e _ s m args below meth c Γ D 0 0 _ σ 0 [some (.ref (Γ.1 + 117)), some (.ref (Γ.1 + t1)), some (.int v2), some (.int v3), some (.int v4), some (.int v5)] []
  refine e_aload_n X dX5_tryPair_0 rfl rfl ?_
  refine ge_Prs_partner X wf_X5_14 dX5_tryPair_1 ?_
  refine e_iload_n X dX5_tryPair_4 rfl rfl ?_
  refine e_iload_n X dX5_tryPair_5 rfl rfl ?_
  obtain ⟨z1, h_z1, hF⟩ := bindT_out hF
  refine e_callVv X (σ1 := z1) [.int v2, .int v3] [] (by rw [h_z1]; exact C_Row_put (Cx_gok X) σ 118 8 v2 v3 ok_Row_118) gv_X5_96 yk_X6_put rfl (ent_lt ok_Row_118.1) (ent_at ok_Row_118.1 _) (rfl : vCl[6]? = some (RX6, TX6, 1)) ⟨by dsimp only; omega, by dsimp only; omega⟩ ⟨Nat.le_of_ble_eq_true rfl, Nat.le_of_ble_eq_true rfl⟩ (Nat.le_of_ble_eq_true rfl) dX5_tryPair_6 rfl ?_
  refine e_aload_n X dX5_tryPair_9 rfl rfl ?_
  refine ge_Prs_partner X wf_X5_14 dX5_tryPair_10 ?_
  refine e_iload_n X dX5_tryPair_13 rfl rfl ?_
  refine e_iload_n X dX5_tryPair_14 rfl rfl ?_
  obtain ⟨z2, h_z2, hF⟩ := bindT_out hF
  refine e_callVv X (σ1 := z2) [.int v3, .int v2] [] (by rw [h_z2]; exact C_Row_put (Cx_gok X) z1 118 8 v3 v2 ok_Row_118) gv_X5_96 yk_X6_put rfl (ent_lt ok_Row_118.1) (ent_at ok_Row_118.1 _) (rfl : vCl[6]? = some (RX6, TX6, 1)) ⟨by dsimp only; omega, by dsimp only; omega⟩ ⟨Nat.le_of_ble_eq_true rfl, Nat.le_of_ble_eq_true rfl⟩ (Nat.le_of_ble_eq_true rfl) dX5_tryPair_15 rfl ?_
  refine e_aload_n X dX5_tryPair_18 rfl rfl ?_
  refine e_aload_n X dX5_tryPair_19 rfl rfl ?_
  refine e_iload X dX5_tryPair_20 rfl ?_
  refine e_iload X dX5_tryPair_22 rfl ?_
  refine e_iconst X 1 dX5_tryPair_24 rfl ?_
  refine e_iadd X dX5_tryPair_25 ?_
  obtain ⟨z3, h_z3, hF⟩ := obind_out hF
  refine e_callVv X (σ1 := z3) [.ref (Γ.1 + t1), .int v4, .int ((v5 + 1))] [] (hrc z2 t1 v4 ((v5 + 1)) gt1 h_z3) gv_X5_74 yk_X5_pairUp rfl (ent_lt (rfl : entTbl[117]? = some (9, 0))) (ent_at (rfl : entTbl[117]? = some (9, 0)) _) (rfl : vCl[5]? = some (RX5, TX5, 3)) ⟨by dsimp only; omega, by dsimp only; omega⟩ ⟨Nat.le_of_ble_eq_true rfl, Nat.le_of_ble_eq_true rfl⟩ (Nat.le_of_ble_eq_true rfl) dX5_tryPair_26 rfl ?_
  refine e_aload_n X dX5_tryPair_29 rfl rfl ?_
  refine ge_Prs_partner X wf_X5_14 dX5_tryPair_30 ?_
  refine e_iload_n X dX5_tryPair_33 rfl rfl ?_
  refine e_iconst X (-1) dX5_tryPair_34 rfl ?_
  obtain ⟨z4, h_z4, hF⟩ := bindT_out hF
  refine e_callVv X (σ1 := z4) [.int v2, .int ((-1))] [] (by rw [h_z4]; exact C_Row_put (Cx_gok X) z3 118 8 v2 ((-1)) ok_Row_118) gv_X5_96 yk_X6_put rfl (ent_lt ok_Row_118.1) (ent_at ok_Row_118.1 _) (rfl : vCl[6]? = some (RX6, TX6, 1)) ⟨by dsimp only; omega, by dsimp only; omega⟩ ⟨Nat.le_of_ble_eq_true rfl, Nat.le_of_ble_eq_true rfl⟩ (Nat.le_of_ble_eq_true rfl) dX5_tryPair_35 rfl ?_
  refine e_aload_n X dX5_tryPair_38 rfl rfl ?_
  refine ge_Prs_partner X wf_X5_14 dX5_tryPair_39 ?_
  refine e_iload_n X dX5_tryPair_42 rfl rfl ?_
  refine e_iconst X (-1) dX5_tryPair_43 rfl ?_
  obtain ⟨z5, h_z5, hF⟩ := bindT_out hF
  refine e_callVv X (σ1 := z5) [.int v3, .int ((-1))] [] (by rw [h_z5]; exact C_Row_put (Cx_gok X) z4 118 8 v3 ((-1)) ok_Row_118) gv_X5_96 yk_X6_put rfl (ent_lt ok_Row_118.1) (ent_at ok_Row_118.1 _) (rfl : vCl[6]? = some (RX6, TX6, 1)) ⟨by dsimp only; omega, by dsimp only; omega⟩ ⟨Nat.le_of_ble_eq_true rfl, Nat.le_of_ble_eq_true rfl⟩ (Nat.le_of_ble_eq_true rfl) dX5_tryPair_44 rfl ?_
  exact e_vret X hr dX5_tryPair_47 (Nat.le_of_ble_eq_true rfl) (Nat.le_of_ble_eq_true rfl) (by cases hF; exact ⟨rfl, rfl⟩)
set_option maxRecDepth 20000 in
set_option maxHeartbeats 4000000 in
theorem L_Prs_pairUp_50 {fr lo : Nat} (X : Cx p l s m args meth c Γ D s0 RX5 cX5_pairUp 6) (hr : meth.sig.returnType = none) (rc : Mem → Nat → Int32 → Int32 → Option (Mem)) (t1 : Nat) (v2 : Int32) (v3 : Int32) (v4 : Int32) (hrc : ∀ (σ : Mem) (t1 : Nat) (v2 : Int32) (v3 : Int32) (gt1 : isTown t1) {out : Mem}, rc σ t1 v2 v3 = some out → CT l Γ D s0 yX5_pairUp cX5_pairUp 6 none fr 0 0 lo σ [.ref (Γ.1 + 117), .ref (Γ.1 + t1), .int v2, .int v3] (PI none out)) (gt1 : isTown t1) : ∀ (n : Nat) (v5 : Int32) (σ : Mem) {z : Int32 × Mem}, whl (fun s => F_Prs_pairUp_50_b rc t1 v2 v3 v4 s.1 s.2) n (v5, σ) = some z → (E p l e ({ frames := fr + 4, cells := 0, slots := 0, locals := lo + 344 } : Room) s m args below meth c Γ D 0 0 (MQ below (QcA Γ D Pst) args s 0 0 (frB Γ)) z.2 89 [some (.ref (Γ.1 + 117)), some (.ref (Γ.1 + t1)), some (.int v2), some (.int v3), some (.int v4), some (.int z.1)] []) → E p l e ({ frames := fr + 4, cells := 0, slots := 0, locals := lo + 344 } : Room) s m args below meth c Γ D 0 0 (MQ below (QcA Γ D Pst) args s 0 0 (frB Γ)) σ 50 [some (.ref (Γ.1 + 117)), some (.ref (Γ.1 + t1)), some (.int v2), some (.int v3), some (.int v4), some (.int v5)] [] := by
  intro n
  induction n with
  | zero =>
    intro v5 σ z hF hK
    cases hF
  | succ n ih =>
    intro v5 σ z hF hK
    obtain ⟨y9, hB, hF⟩ := whl_step hF
    change F_Prs_pairUp_50_b rc t1 v2 v3 v4 v5 σ = some y9 at hB
    unfold F_Prs_pairUp_50_b at hB
    refine e_iload X dX5_pairUp_50 rfl ?_
    refine e_aload_n X dX5_pairUp_52 rfl rfl ?_
    refine ge_Town_people X gt1 wf_X5_29 dX5_pairUp_53 ?_
    refine e_icmp_ge X 89 dX5_pairUp_56 (by decide) (fun c6 => ?_) (fun c6 => ?_)
    · skip
      rw [if_neg c6] at hB
      have hy9 := Option.some.inj hB; change (.inr ((v5, σ))) = y9 at hy9; subst hy9
      have hz9 := Option.some.inj hF; change ((v5, σ)) = z at hz9; subst hz9
      exact e_le hK (And.intro rfl (And.intro rfl (And.intro rfl (And.intro rfl (And.intro rfl (And.intro rfl (trivial)))))))
    · skip
      rw [if_pos c6] at hB
      refine e_aload_n X dX5_pairUp_59 rfl rfl ?_
      refine ge_Prs_partner X wf_X5_14 dX5_pairUp_60 ?_
      refine e_iload X dX5_pairUp_63 rfl ?_
      refine e_callVi X (r := (F_Row_at σ 118 8 v5)) (σ1 := σ) [.int v5] [] (C_Row_at (Cx_gok X) σ 118 8 v5 ok_Row_118) gv_X5_82 yk_X6_at rfl (ent_lt ok_Row_118.1) (ent_at ok_Row_118.1 _) (rfl : vCl[6]? = some (RX6, TX6, 1)) ⟨by dsimp only; omega, by dsimp only; omega⟩ ⟨Nat.le_of_ble_eq_true rfl, Nat.le_of_ble_eq_true rfl⟩ (Nat.le_of_ble_eq_true rfl) dX5_pairUp_65 rfl ?_
      refine e_iconst X (-1) dX5_pairUp_68 rfl ?_
      refine e_icmp_ne X 83 dX5_pairUp_69 (by decide) (fun c7 => ?_) (fun c7 => ?_)
      · skip
        rw [if_neg c7] at hB
        refine e_iinc X 1 dX5_pairUp_83 rfl rfl (by decide) ?_
        obtain ⟨x8, h_x8, hB⟩ := bindT_out hB
        rw [← h_x8]
        refine e_goto X 50 dX5_pairUp_86 (by decide) ?_
        have hy9 := Option.some.inj hB; change (.inl ((x8, σ))) = y9 at hy9; subst hy9
        exact e_le (ih x8 σ hF hK) (And.intro rfl (And.intro rfl (And.intro rfl (And.intro rfl (And.intro rfl (And.intro rfl (trivial)))))))
      · skip
        rw [if_pos c7] at hB
        refine e_aload_n X dX5_pairUp_72 rfl rfl ?_
        refine e_aload_n X dX5_pairUp_73 rfl rfl ?_
        refine e_iload X dX5_pairUp_74 rfl ?_
        refine e_iload X dX5_pairUp_76 rfl ?_
        refine e_iload_n X dX5_pairUp_78 rfl rfl ?_
        refine e_iload_n X dX5_pairUp_79 rfl rfl ?_
        obtain ⟨z9, h_z9, hB⟩ := obind_out hB
        refine e_callVv X (σ1 := z9) [.ref (Γ.1 + t1), .int v4, .int v5, .int v2, .int v3] [] (C_Prs_tryPair_g (Cx_gok X) rc hrc σ t1 v4 v5 v2 v3 gt1 h_z9) gv_X5_92 yk_X5_tryPair rfl (ent_lt (rfl : entTbl[117]? = some (9, 0))) (ent_at (rfl : entTbl[117]? = some (9, 0)) _) (rfl : vCl[5]? = some (RX5, TX5, 3)) ⟨by dsimp only; omega, by dsimp only; omega⟩ ⟨Nat.le_of_ble_eq_true rfl, Nat.le_of_ble_eq_true rfl⟩ (Nat.le_of_ble_eq_true rfl) dX5_pairUp_80 rfl ?_
        refine e_iinc X 1 dX5_pairUp_83 rfl rfl (by decide) ?_
        obtain ⟨x10, h_x10, hB⟩ := bindT_out hB
        rw [← h_x10]
        refine e_goto X 50 dX5_pairUp_86 (by decide) ?_
        have hy9 := Option.some.inj hB; change (.inl ((x10, z9))) = y9 at hy9; subst hy9
        exact e_le (ih x10 z9 hF hK) (And.intro rfl (And.intro rfl (And.intro rfl (And.intro rfl (And.intro rfl (And.intro rfl (trivial)))))))
set_option maxRecDepth 20000 in
set_option maxHeartbeats 4000000 in
theorem C_Prs_pairUp_g (hG : Gok l Γ D s0) {fr lo : Nat} (rc : Mem → Nat → Int32 → Int32 → Option (Mem)) (hrc : ∀ (σ : Mem) (t1 : Nat) (v2 : Int32) (v3 : Int32) (gt1 : isTown t1) {out : Mem}, rc σ t1 v2 v3 = some out → CT l Γ D s0 yX5_pairUp cX5_pairUp 6 none fr 0 0 lo σ [.ref (Γ.1 + 117), .ref (Γ.1 + t1), .int v2, .int v3] (PI none out)) (σ : Mem) (t1 : Nat) (v2 : Int32) (v3 : Int32) (gt1 : isTown t1) {out : Mem} (hF : F_Prs_pairUp_g rc σ t1 v2 v3 = some out) : CT l Γ D s0 yX5_pairUp cX5_pairUp 6 none (fr + 4) 0 0 (lo + 344) σ [.ref (Γ.1 + 117), .ref (Γ.1 + t1), .int v2, .int v3] (PI none out) := by
  unfold F_Prs_pairUp_g at hF
  refine e_met (own := RX5) hG (by decide +kernel) rfl rfl (Nat.le_of_ble_eq_true rfl) ?_
  intro p e s m args below meth c X hr
  show E p l e _ s m args below meth c Γ D 0 0 _ σ 0 [some (.ref (Γ.1 + 117)), some (.ref (Γ.1 + t1)), some (.int v2), some (.int v3), none, none] []
  refine e_aload_n X dX5_pairUp_0 rfl rfl ?_
  refine e_aload_n X dX5_pairUp_1 rfl rfl ?_
  refine ge_Town_people X gt1 wf_X5_29 dX5_pairUp_2 ?_
  refine e_callVi X (r := (F_Prs_firstWithout σ ((σ t1 8)))) (σ1 := σ) [.int ((σ t1 8))] [] (C_Prs_firstWithout (Cx_gok X) σ ((σ t1 8))) gv_X5_85 yk_X5_firstWithout rfl (ent_lt (rfl : entTbl[117]? = some (9, 0))) (ent_at (rfl : entTbl[117]? = some (9, 0)) _) (rfl : vCl[5]? = some (RX5, TX5, 3)) ⟨by dsimp only; omega, by dsimp only; omega⟩ ⟨Nat.le_of_ble_eq_true rfl, Nat.le_of_ble_eq_true rfl⟩ (Nat.le_of_ble_eq_true rfl) dX5_pairUp_5 rfl ?_
  obtain ⟨x1, h_x1, hF⟩ := bindT_out hF
  refine e_istore X h_x1 dX5_pairUp_8 (by decide) ?_
  refine e_iload X dX5_pairUp_10 rfl ?_
  refine e_iconst X (-1) dX5_pairUp_12 rfl ?_
  refine e_icmp_ne X 22 dX5_pairUp_13 (by decide) (fun c2 => ?_) (fun c2 => ?_)
  · skip
    rw [if_neg c2] at hF
    refine e_iload_n X dX5_pairUp_22 rfl rfl ?_
    refine e_bipush X 8 dX5_pairUp_23 rfl ?_
    refine e_icmp_lt X 29 dX5_pairUp_25 (by decide) (fun c3 => ?_) (fun c3 => ?_)
    · skip
      rw [if_pos c3] at hF
      refine e_iload_n X dX5_pairUp_29 rfl rfl ?_
      refine e_if_eq X 44 dX5_pairUp_30 (by decide) (fun c4 => ?_) (fun c4 => ?_)
      · skip
        rw [if_pos c4] at hF
        refine e_iload X dX5_pairUp_44 rfl ?_
        refine e_iconst X 1 dX5_pairUp_46 rfl ?_
        refine e_iadd X dX5_pairUp_47 ?_
        obtain ⟨x5, h_x5, hF⟩ := bindT_out hF
        refine e_istore X h_x5 dX5_pairUp_48 (by decide) ?_
        obtain ⟨z11, h_z11, hF⟩ := obind_out hF
        refine e_le (L_Prs_pairUp_50 X hr rc t1 v2 v3 x1 hrc gt1 _ x5 σ h_z11 ?_) (And.intro rfl (And.intro rfl (And.intro rfl (And.intro rfl (And.intro rfl (And.intro rfl (trivial)))))))
        exact e_vret X hr dX5_pairUp_89 (Nat.le_of_ble_eq_true rfl) (Nat.le_of_ble_eq_true rfl) (by cases hF; exact ⟨rfl, rfl⟩)
      · skip
        rw [if_neg c4] at hF
        refine e_aload_n X dX5_pairUp_33 rfl rfl ?_
        refine e_aload_n X dX5_pairUp_34 rfl rfl ?_
        refine e_iload X dX5_pairUp_35 rfl ?_
        refine e_iload X dX5_pairUp_37 rfl ?_
        refine e_iconst X 0 dX5_pairUp_39 rfl ?_
        refine e_iload_n X dX5_pairUp_40 rfl rfl ?_
        obtain ⟨z12, h_z12, hF⟩ := obind_out hF
        refine e_callVv X (σ1 := z12) [.ref (Γ.1 + t1), .int x1, .int x1, .int 0, .int v3] [] (C_Prs_tryPair_g (Cx_gok X) rc hrc σ t1 x1 x1 0 v3 gt1 h_z12) gv_X5_92 yk_X5_tryPair rfl (ent_lt (rfl : entTbl[117]? = some (9, 0))) (ent_at (rfl : entTbl[117]? = some (9, 0)) _) (rfl : vCl[5]? = some (RX5, TX5, 3)) ⟨by dsimp only; omega, by dsimp only; omega⟩ ⟨Nat.le_of_ble_eq_true rfl, Nat.le_of_ble_eq_true rfl⟩ (Nat.le_of_ble_eq_true rfl) dX5_pairUp_41 rfl ?_
        refine e_iload X dX5_pairUp_44 rfl ?_
        refine e_iconst X 1 dX5_pairUp_46 rfl ?_
        refine e_iadd X dX5_pairUp_47 ?_
        obtain ⟨x13, h_x13, hF⟩ := bindT_out hF
        refine e_istore X h_x13 dX5_pairUp_48 (by decide) ?_
        obtain ⟨z14, h_z14, hF⟩ := obind_out hF
        refine e_le (L_Prs_pairUp_50 X hr rc t1 v2 v3 x1 hrc gt1 _ x13 z12 h_z14 ?_) (And.intro rfl (And.intro rfl (And.intro rfl (And.intro rfl (And.intro rfl (And.intro rfl (trivial)))))))
        exact e_vret X hr dX5_pairUp_89 (Nat.le_of_ble_eq_true rfl) (Nat.le_of_ble_eq_true rfl) (by cases hF; exact ⟨rfl, rfl⟩)
    · skip
      rw [if_neg c3] at hF
      exact e_vret X hr dX5_pairUp_28 (Nat.le_of_ble_eq_true rfl) (Nat.le_of_ble_eq_true rfl) (by cases hF; exact ⟨rfl, rfl⟩)
  · skip
    rw [if_pos c2] at hF
    refine e_aload_n X dX5_pairUp_16 rfl rfl ?_
    refine e_aload_n X dX5_pairUp_17 rfl rfl ?_
    obtain ⟨z15, h_z15, hF⟩ := bindT_out hF
    refine e_callVv X (σ1 := z15) [.ref (Γ.1 + t1)] [] (by rw [h_z15]; exact C_Prs_countIfSteady (Cx_gok X) σ t1 gt1) gv_X5_88 yk_X5_countIfSteady rfl (ent_lt (rfl : entTbl[117]? = some (9, 0))) (ent_at (rfl : entTbl[117]? = some (9, 0)) _) (rfl : vCl[5]? = some (RX5, TX5, 3)) ⟨by dsimp only; omega, by dsimp only; omega⟩ ⟨Nat.le_of_ble_eq_true rfl, Nat.le_of_ble_eq_true rfl⟩ (Nat.le_of_ble_eq_true rfl) dX5_pairUp_18 rfl ?_
    exact e_vret X hr dX5_pairUp_21 (Nat.le_of_ble_eq_true rfl) (Nat.le_of_ble_eq_true rfl) (by cases hF; exact ⟨rfl, rfl⟩)
theorem C_Prs_pairUp_d (hG : Gok l Γ D s0) : ∀ (d : Nat), ∀ (σ : Mem) (t1 : Nat) (v2 : Int32) (v3 : Int32) (gt1 : isTown t1) {out : Mem}, F_Prs_pairUp_d d σ t1 v2 v3 = some out → CT l Γ D s0 yX5_pairUp cX5_pairUp 6 none (4 * d) 0 0 (344 * d) σ [.ref (Γ.1 + 117), .ref (Γ.1 + t1), .int v2, .int v3] (PI none out)
  | 0 => fun _ _ _ _ _ _ h => by cases h
  | d + 1 => fun σ t1 v2 v3 gt1 _ h => C_Prs_pairUp_g hG (F_Prs_pairUp_d d) (C_Prs_pairUp_d hG d) σ t1 v2 v3 gt1 h
theorem C_Prs_tryPair (hG : Gok l Γ D s0) (σ : Mem) (t1 : Nat) (v2 : Int32) (v3 : Int32) (v4 : Int32) (v5 : Int32) (gt1 : isTown t1) {out : Mem} (hF : F_Prs_tryPair σ t1 v2 v3 v4 v5 = some out) : CT l Γ D s0 yX5_tryPair cX5_tryPair 6 none 41 0 0 3465 σ [.ref (Γ.1 + 117), .ref (Γ.1 + t1), .int v2, .int v3, .int v4, .int v5] (PI none out) := by
  have h9 := C_Prs_tryPair_g hG (F_Prs_pairUp_d 10) (C_Prs_pairUp_d hG 10) σ t1 v2 v3 v4 v5 gt1 hF
  exact h9
theorem C_Prs_pairUp (hG : Gok l Γ D s0) (σ : Mem) (t1 : Nat) (v2 : Int32) (v3 : Int32) (gt1 : isTown t1) {out : Mem} (hF : F_Prs_pairUp σ t1 v2 v3 = some out) : CT l Γ D s0 yX5_pairUp cX5_pairUp 6 none 44 0 0 3784 σ [.ref (Γ.1 + 117), .ref (Γ.1 + t1), .int v2, .int v3] (PI none out) := by
  have h9 := C_Prs_pairUp_g hG (F_Prs_pairUp_d 10) (C_Prs_pairUp_d hG 10) σ t1 v2 v3 gt1 hF
  exact h9
end PART

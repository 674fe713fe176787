section PART
variable {p : Program} {l : Launch} {e : Env} {R : Room} {s : State} {m : MethodId} {args : Array Value} {below : List Frame} {meth : Method} {c : Code} {Γ : Gm} {D : va_G} {s0 : State} {cells slots : Nat} {Q : State → Prop} {own : String} {cc : ByteArray} {nL : Nat} {σ : Mem} {pc : Nat} {lv : List (Option Value)} {st : List Value} {Pst : Option Value → Mem → Prop}
def F_M_every_5_b (rc : Mem → Option (Mem × Int32)) (v1 : Int32) (σ : Mem) : Option ((Int32 × Mem) ⊕ (Int32 × Mem)) := (if (σ 333 12) = (-1) then obind (F_M_says σ 12) fun z3 => (if z3.2 = 0 then some (.inr ((v1, z3.1))) else obind (rc z3.1) fun z5 => (if v1 = 0 then some (.inl ((0, z5.1))) else (if z5.2 = 0 then some (.inl ((0, z5.1))) else some (.inl ((1, z5.1)))))) else some (.inr ((v1, σ))))
def F_M_every_g (rc : Mem → Option (Mem × Int32)) (σ : Mem)  : Option (Mem × Int32) := obind (rc σ) fun z1 => obind (whl (fun s => F_M_every_5_b rc s.1 s.2) FUEL (z1.2, z1.1)) fun z8 => some ((z8.2, (z8.1 &&& 1)))
def F_M_some_5_b (rc : Mem → Option (Mem × Int32)) (v1 : Int32) (σ : Mem) : Option ((Int32 × Mem) ⊕ (Int32 × Mem)) := (if (σ 333 12) = (-1) then obind (F_M_says σ 11) fun z3 => (if z3.2 = 0 then some (.inr ((v1, z3.1))) else obind (F_M_every_g rc z3.1) fun z5 => (if v1 = 0 then (if z5.2 = 0 then some (.inl ((0, z5.1))) else some (.inl ((1, z5.1)))) else some (.inl ((1, z5.1))))) else some (.inr ((v1, σ))))
def F_M_some_g (rc : Mem → Option (Mem × Int32)) (σ : Mem)  : Option (Mem × Int32) := obind (F_M_every_g rc σ) fun z1 => obind (whl (fun s => F_M_some_5_b rc s.1 s.2) FUEL (z1.2, z1.1)) fun z8 => some ((z8.2, (z8.1 &&& 1)))
def F_M_atom_g (rc : Mem → Option (Mem × Int32)) (σ : Mem)  : Option (Mem × Int32) := (if (σ 333 12) = (-1) then obind (F_M_place σ) fun z2 => obind (F_M_says z2.1 13) fun z3 => (if z3.2 = 0 then obind (F_M_isSign z3.1 40) fun z25 => (if z25.2 = 0 then obind (F_M_plain z25.1) fun z47 => some ((z47.1, (z47.2 &&& 1))) else (if (z25.1 333 13) = 6 then bindT (F_M_wrong z25.1 z2.2) fun z46 => some ((z46, 0)) else bindT (up z25.1 333 13 (((z25.1 333 13) + 1))) fun σ28 => (if z3.2 = 0 then bindT (up σ28 333 11 (((σ28 333 11) + 1))) fun σ30 => obind (F_M_some_g rc σ30) fun z31 => (if (z31.1 333 12) = (-1) then obind (F_M_isSign z31.1 41) fun z35 => (if z35.2 = 0 then bindT (F_M_wrong z35.1 ((z35.1 333 11))) fun z39 => bindT (up z39 333 11 (((z39 333 11) + 1))) fun σ40 => bindT (up σ40 333 13 (((σ40 333 13) - 1))) fun σ41 => some ((σ41, (z31.2 &&& 1))) else bindT (up z35.1 333 11 (((z35.1 333 11) + 1))) fun σ37 => bindT (up σ37 333 13 (((σ37 333 13) - 1))) fun σ38 => some ((σ38, (z31.2 &&& 1)))) else bindT (up z31.1 333 11 (((z31.1 333 11) + 1))) fun σ33 => bindT (up σ33 333 13 (((σ33 333 13) - 1))) fun σ34 => some ((σ34, (z31.2 &&& 1)))) else obind (rc σ28) fun z42 => (if z42.2 = 0 then bindT (up z42.1 333 13 (((z42.1 333 13) - 1))) fun σ45 => some ((σ45, 1)) else bindT (up z42.1 333 13 (((z42.1 333 13) - 1))) fun σ44 => some ((σ44, 0)))))) else (if (z3.1 333 13) = 6 then bindT (F_M_wrong z3.1 z2.2) fun z24 => some ((z24, 0)) else bindT (up z3.1 333 13 (((z3.1 333 13) + 1))) fun σ6 => (if z3.2 = 0 then bindT (up σ6 333 11 (((σ6 333 11) + 1))) fun σ8 => obind (F_M_some_g rc σ8) fun z9 => (if (z9.1 333 12) = (-1) then obind (F_M_isSign z9.1 41) fun z13 => (if z13.2 = 0 then bindT (F_M_wrong z13.1 ((z13.1 333 11))) fun z17 => bindT (up z17 333 11 (((z17 333 11) + 1))) fun σ18 => bindT (up σ18 333 13 (((σ18 333 13) - 1))) fun σ19 => some ((σ19, (z9.2 &&& 1))) else bindT (up z13.1 333 11 (((z13.1 333 11) + 1))) fun σ15 => bindT (up σ15 333 13 (((σ15 333 13) - 1))) fun σ16 => some ((σ16, (z9.2 &&& 1)))) else bindT (up z9.1 333 11 (((z9.1 333 11) + 1))) fun σ11 => bindT (up σ11 333 13 (((σ11 333 13) - 1))) fun σ12 => some ((σ12, (z9.2 &&& 1)))) else obind (rc σ6) fun z20 => (if z20.2 = 0 then bindT (up z20.1 333 13 (((z20.1 333 13) - 1))) fun σ23 => some ((σ23, 1)) else bindT (up z20.1 333 13 (((z20.1 333 13) - 1))) fun σ22 => some ((σ22, 0)))))) else some ((σ, 0)))
def F_M_atom_d : Nat → Mem → Option (Mem × Int32)
  | 0 => fun _ => none
  | d + 1 => F_M_atom_g (F_M_atom_d d)
def F_M_every (σ : Mem)  : Option (Mem × Int32) := F_M_every_g (F_M_atom_d 9) σ
def F_M_some (σ : Mem)  : Option (Mem × Int32) := F_M_some_g (F_M_atom_d 9) σ
def F_M_atom (σ : Mem)  : Option (Mem × Int32) := F_M_atom_g (F_M_atom_d 9) σ
set_option maxRecDepth 20000 in
set_option maxHeartbeats 4000000 in
theorem L_M_every_5 {fr lo : Nat} (X : Cx p l s m args meth c Γ D s0 RX12 cX12_every 3) (hr : meth.sig.returnType = (some .boolean)) (rc : Mem → Option (Mem × Int32)) (hrc : ∀ (σ : Mem)   {out : Mem × Int32}, rc σ = some out → CT l Γ D s0 yX12_atom cX12_atom 4 (some .boolean) fr 0 0 lo σ [.ref (Γ.1 + 333)] (PI (some (.int out.2)) out.1)) : ∀ (n : Nat) (v1 : Int32) (σ : Mem) {z : Int32 × Mem}, whl (fun s => F_M_every_5_b rc s.1 s.2) n (v1, σ) = some z → (E p l e ({ frames := fr + 5, cells := 0, slots := 0, locals := lo + 108 } : Room) s m args below meth c Γ D 0 0 (MQ below (QcA Γ D Pst) args s 0 0 (frB Γ)) z.2 44 [some (.ref (Γ.1 + 333)), some (.int z.1), none] []) → E p l e ({ frames := fr + 5, cells := 0, slots := 0, locals := lo + 108 } : Room) s m args below meth c Γ D 0 0 (MQ below (QcA Γ D Pst) args s 0 0 (frB Γ)) σ 5 [some (.ref (Γ.1 + 333)), some (.int v1), none] [] := by
  intro n
  induction n with
  | zero =>
    intro v1 σ z hF hK
    cases hF
  | succ n ih =>
    intro v1 σ z hF hK
    obtain ⟨y9, hB, hF⟩ := whl_step hF
    change F_M_every_5_b rc v1 σ = some y9 at hB
    unfold F_M_every_5_b at hB
    refine e_aload_n X dX12_every_5 rfl rfl ?_
    refine ge_M_fault X wf_X12_25 dX12_every_6 ?_
    refine e_iconst X (-1) dX12_every_9 rfl ?_
    refine e_icmp_ne X 44 dX12_every_10 (by decide) (fun c2 => ?_) (fun c2 => ?_)
    · skip
      rw [if_neg c2] at hB
      have hy9 := Option.some.inj hB; change (.inr ((v1, σ))) = y9 at hy9; subst hy9
      have hz9 := Option.some.inj hF; change ((v1, σ)) = z at hz9; subst hz9
      exact e_le hK (And.intro rfl (And.intro rfl (trivial)))
    · skip
      rw [if_pos c2] at hB
      refine e_aload_n X dX12_every_13 rfl rfl ?_
      refine e_ldcS X (sr_X12_240 (x_gst X)) dX12_every_14 ?_
      obtain ⟨z3, h_z3, hB⟩ := obind_out hB
      refine e_callVi X (r := z3.2) (σ1 := z3.1) [.ref (sad Γ 12)] [] (C_M_says (Cx_gok X) σ 12 (by decide) h_z3) gv_X12_111 yk_X12_says rfl (ent_lt (rfl : entTbl[333]? = some (13, 0))) (ent_at (rfl : entTbl[333]? = some (13, 0)) _) (rfl : vCl[11]? = some (RX12, TX12, 24)) ⟨by dsimp only; omega, by dsimp only; omega⟩ ⟨Nat.le_of_ble_eq_true rfl, Nat.le_of_ble_eq_true rfl⟩ (Nat.le_of_ble_eq_true rfl) dX12_every_16 rfl ?_
      refine e_if_eq X 44 dX12_every_19 (by decide) (fun c4 => ?_) (fun c4 => ?_)
      · skip
        rw [if_pos c4] at hB
        have hy9 := Option.some.inj hB; change (.inr ((v1, z3.1))) = y9 at hy9; subst hy9
        have hz9 := Option.some.inj hF; change ((v1, z3.1)) = z at hz9; subst hz9
        exact e_le hK (And.intro rfl (And.intro rfl (trivial)))
      · skip
        rw [if_neg c4] at hB
        refine e_aload_n X dX12_every_22 rfl rfl ?_
        obtain ⟨z5, h_z5, hB⟩ := obind_out hB
        refine e_callVi X (r := z5.2) (σ1 := z5.1) [] [] (hrc z3.1 h_z5) gv_X12_234 yk_X12_atom rfl (ent_lt (rfl : entTbl[333]? = some (13, 0))) (ent_at (rfl : entTbl[333]? = some (13, 0)) _) (rfl : vCl[11]? = some (RX12, TX12, 24)) ⟨by dsimp only; omega, by dsimp only; omega⟩ ⟨Nat.le_of_ble_eq_true rfl, Nat.le_of_ble_eq_true rfl⟩ (Nat.le_of_ble_eq_true rfl) dX12_every_23 rfl ?_
        refine e_istore_n X rfl dX12_every_26 rfl (by decide) ?_
        refine e_iload_n X dX12_every_27 rfl rfl ?_
        refine e_if_eq X 39 dX12_every_28 (by decide) (fun c6 => ?_) (fun c6 => ?_)
        · skip
          rw [if_pos c6] at hB
          refine e_iconst X 0 dX12_every_39 rfl ?_
          refine e_istore_n X rfl dX12_every_40 rfl (by decide) ?_
          refine e_goto X 5 dX12_every_41 (by decide) ?_
          have hy9 := Option.some.inj hB; change (.inl ((0, z5.1))) = y9 at hy9; subst hy9
          exact e_le (ih 0 z5.1 hF hK) (And.intro rfl (And.intro rfl (trivial)))
        · skip
          rw [if_neg c6] at hB
          refine e_iload_n X dX12_every_31 rfl rfl ?_
          refine e_if_eq X 39 dX12_every_32 (by decide) (fun c7 => ?_) (fun c7 => ?_)
          · skip
            rw [if_pos c7] at hB
            refine e_iconst X 0 dX12_every_39 rfl ?_
            refine e_istore_n X rfl dX12_every_40 rfl (by decide) ?_
            refine e_goto X 5 dX12_every_41 (by decide) ?_
            have hy9 := Option.some.inj hB; change (.inl ((0, z5.1))) = y9 at hy9; subst hy9
            exact e_le (ih 0 z5.1 hF hK) (And.intro rfl (And.intro rfl (trivial)))
          · skip
            rw [if_neg c7] at hB
            refine e_iconst X 1 dX12_every_35 rfl ?_
            refine e_goto X 40 dX12_every_36 (by decide) ?_
            refine e_istore_n X rfl dX12_every_40 rfl (by decide) ?_
            refine e_goto X 5 dX12_every_41 (by decide) ?_
            have hy9 := Option.some.inj hB; change (.inl ((1, z5.1))) = y9 at hy9; subst hy9
            exact e_le (ih 1 z5.1 hF hK) (And.intro rfl (And.intro rfl (trivial)))
set_option maxRecDepth 20000 in
set_option maxHeartbeats 4000000 in
theorem C_M_every_g (hG : Gok l Γ D s0) {fr lo : Nat} (rc : Mem → Option (Mem × Int32)) (hrc : ∀ (σ : Mem)   {out : Mem × Int32}, rc σ = some out → CT l Γ D s0 yX12_atom cX12_atom 4 (some .boolean) fr 0 0 lo σ [.ref (Γ.1 + 333)] (PI (some (.int out.2)) out.1)) (σ : Mem)   {out : Mem × Int32} (hF : F_M_every_g rc σ = some out) : CT l Γ D s0 yX12_every cX12_every 3 (some .boolean) (fr + 5) 0 0 (lo + 108) σ [.ref (Γ.1 + 333)] (PI (some (.int out.2)) out.1) := by
  unfold F_M_every_g at hF
  refine e_met (own := RX12) hG (by decide +kernel) rfl rfl (Nat.le_of_ble_eq_true rfl) ?_
  intro p e s m args below meth c X hr
  show E p l e _ s m args below meth c Γ D 0 0 _ σ 0 [some (.ref (Γ.1 + 333)), none, none] []
  refine e_aload_n X dX12_every_0 rfl rfl ?_
  obtain ⟨z1, h_z1, hF⟩ := obind_out hF
  refine e_callVi X (r := z1.2) (σ1 := z1.1) [] [] (hrc σ h_z1) gv_X12_234 yk_X12_atom rfl (ent_lt (rfl : entTbl[333]? = some (13, 0))) (ent_at (rfl : entTbl[333]? = some (13, 0)) _) (rfl : vCl[11]? = some (RX12, TX12, 24)) ⟨by dsimp only; omega, by dsimp only; omega⟩ ⟨Nat.le_of_ble_eq_true rfl, Nat.le_of_ble_eq_true rfl⟩ (Nat.le_of_ble_eq_true rfl) dX12_every_1 rfl ?_
  refine e_istore_n X rfl dX12_every_4 rfl (by decide) ?_
  obtain ⟨z8, h_z8, hF⟩ := obind_out hF
  refine e_le (L_M_every_5 X hr rc hrc _ z1.2 z1.1 h_z8 ?_) (And.intro rfl (And.intro rfl (trivial)))
  refine e_iload_n X dX12_every_44 rfl rfl ?_
  exact e_zret X hr rfl dX12_every_45 (Nat.le_of_ble_eq_true rfl) (Nat.le_of_ble_eq_true rfl) (by cases hF; exact ⟨rfl, rfl⟩)
set_option maxRecDepth 20000 in
set_option maxHeartbeats 4000000 in
theorem L_M_some_5 {fr lo : Nat} (X : Cx p l s m args meth c Γ D s0 RX12 cX12_some 3) (hr : meth.sig.returnType = (some .boolean)) (rc : Mem → Option (Mem × Int32)) (hrc : ∀ (σ : Mem)   {out : Mem × Int32}, rc σ = some out → CT l Γ D s0 yX12_atom cX12_atom 4 (some .boolean) fr 0 0 lo σ [.ref (Γ.1 + 333)] (PI (some (.int out.2)) out.1)) : ∀ (n : Nat) (v1 : Int32) (σ : Mem) {z : Int32 × Mem}, whl (fun s => F_M_some_5_b rc s.1 s.2) n (v1, σ) = some z → (E p l e ({ frames := fr + 6, cells := 0, slots := 0, locals := lo + 130 } : Room) s m args below meth c Γ D 0 0 (MQ below (QcA Γ D Pst) args s 0 0 (frB Γ)) z.2 44 [some (.ref (Γ.1 + 333)), some (.int z.1), none] []) → E p l e ({ frames := fr + 6, cells := 0, slots := 0, locals := lo + 130 } : Room) s m args below meth c Γ D 0 0 (MQ below (QcA Γ D Pst) args s 0 0 (frB Γ)) σ 5 [some (.ref (Γ.1 + 333)), some (.int v1), none] [] := by
  intro n
  induction n with
  | zero =>
    intro v1 σ z hF hK
    cases hF
  | succ n ih =>
    intro v1 σ z hF hK
    obtain ⟨y9, hB, hF⟩ := whl_step hF
    change F_M_some_5_b rc v1 σ = some y9 at hB
    unfold F_M_some_5_b at hB
    refine e_aload_n X dX12_some_5 rfl rfl ?_
    refine ge_M_fault X wf_X12_25 dX12_some_6 ?_
    refine e_iconst X (-1) dX12_some_9 rfl ?_
    refine e_icmp_ne X 44 dX12_some_10 (by decide) (fun c2 => ?_) (fun c2 => ?_)
    · skip
      rw [if_neg c2] at hB
      have hy9 := Option.some.inj hB; change (.inr ((v1, σ))) = y9 at hy9; subst hy9
      have hz9 := Option.some.inj hF; change ((v1, σ)) = z at hz9; subst hz9
      exact e_le hK (And.intro rfl (And.intro rfl (trivial)))
    · skip
      rw [if_pos c2] at hB
      refine e_aload_n X dX12_some_13 rfl rfl ?_
      refine e_ldcS X (sr_X12_245 (x_gst X)) dX12_some_14 ?_
      obtain ⟨z3, h_z3, hB⟩ := obind_out hB
      refine e_callVi X (r := z3.2) (σ1 := z3.1) [.ref (sad Γ 11)] [] (C_M_says (Cx_gok X) σ 11 (by decide) h_z3) gv_X12_111 yk_X12_says rfl (ent_lt (rfl : entTbl[333]? = some (13, 0))) (ent_at (rfl : entTbl[333]? = some (13, 0)) _) (rfl : vCl[11]? = some (RX12, TX12, 24)) ⟨by dsimp only; omega, by dsimp only; omega⟩ ⟨Nat.le_of_ble_eq_true rfl, Nat.le_of_ble_eq_true rfl⟩ (Nat.le_of_ble_eq_true rfl) dX12_some_16 rfl ?_
      refine e_if_eq X 44 dX12_some_19 (by decide) (fun c4 => ?_) (fun c4 => ?_)
      · skip
        rw [if_pos c4] at hB
        have hy9 := Option.some.inj hB; change (.inr ((v1, z3.1))) = y9 at hy9; subst hy9
        have hz9 := Option.some.inj hF; change ((v1, z3.1)) = z at hz9; subst hz9
        exact e_le hK (And.intro rfl (And.intro rfl (trivial)))
      · skip
        rw [if_neg c4] at hB
        refine e_aload_n X dX12_some_22 rfl rfl ?_
        obtain ⟨z5, h_z5, hB⟩ := obind_out hB
        refine e_callVi X (r := z5.2) (σ1 := z5.1) [] [] (C_M_every_g (Cx_gok X) rc hrc z3.1 h_z5) gv_X12_242 yk_X12_every rfl (ent_lt (rfl : entTbl[333]? = some (13, 0))) (ent_at (rfl : entTbl[333]? = some (13, 0)) _) (rfl : vCl[11]? = some (RX12, TX12, 24)) ⟨by dsimp only; omega, by dsimp only; omega⟩ ⟨Nat.le_of_ble_eq_true rfl, Nat.le_of_ble_eq_true rfl⟩ (Nat.le_of_ble_eq_true rfl) dX12_some_23 rfl ?_
        refine e_istore_n X rfl dX12_some_26 rfl (by decide) ?_
        refine e_iload_n X dX12_some_27 rfl rfl ?_
        refine e_if_ne X 35 dX12_some_28 (by decide) (fun c6 => ?_) (fun c6 => ?_)
        · skip
          rw [if_neg c6] at hB
          refine e_iconst X 1 dX12_some_35 rfl ?_
          refine e_goto X 40 dX12_some_36 (by decide) ?_
          refine e_istore_n X rfl dX12_some_40 rfl (by decide) ?_
          refine e_goto X 5 dX12_some_41 (by decide) ?_
          have hy9 := Option.some.inj hB; change (.inl ((1, z5.1))) = y9 at hy9; subst hy9
          exact e_le (ih 1 z5.1 hF hK) (And.intro rfl (And.intro rfl (trivial)))
        · skip
          rw [if_pos c6] at hB
          refine e_iload_n X dX12_some_31 rfl rfl ?_
          refine e_if_eq X 39 dX12_some_32 (by decide) (fun c7 => ?_) (fun c7 => ?_)
          · skip
            rw [if_pos c7] at hB
            refine e_iconst X 0 dX12_some_39 rfl ?_
            refine e_istore_n X rfl dX12_some_40 rfl (by decide) ?_
            refine e_goto X 5 dX12_some_41 (by decide) ?_
            have hy9 := Option.some.inj hB; change (.inl ((0, z5.1))) = y9 at hy9; subst hy9
            exact e_le (ih 0 z5.1 hF hK) (And.intro rfl (And.intro rfl (trivial)))
          · skip
            rw [if_neg c7] at hB
            refine e_iconst X 1 dX12_some_35 rfl ?_
            refine e_goto X 40 dX12_some_36 (by decide) ?_
            refine e_istore_n X rfl dX12_some_40 rfl (by decide) ?_
            refine e_goto X 5 dX12_some_41 (by decide) ?_
            have hy9 := Option.some.inj hB; change (.inl ((1, z5.1))) = y9 at hy9; subst hy9
            exact e_le (ih 1 z5.1 hF hK) (And.intro rfl (And.intro rfl (trivial)))
set_option maxRecDepth 20000 in
set_option maxHeartbeats 4000000 in
theorem C_M_some_g (hG : Gok l Γ D s0) {fr lo : Nat} (rc : Mem → Option (Mem × Int32)) (hrc : ∀ (σ : Mem)   {out : Mem × Int32}, rc σ = some out → CT l Γ D s0 yX12_atom cX12_atom 4 (some .boolean) fr 0 0 lo σ [.ref (Γ.1 + 333)] (PI (some (.int out.2)) out.1)) (σ : Mem)   {out : Mem × Int32} (hF : F_M_some_g rc σ = some out) : CT l Γ D s0 yX12_some cX12_some 3 (some .boolean) (fr + 6) 0 0 (lo + 130) σ [.ref (Γ.1 + 333)] (PI (some (.int out.2)) out.1) := by
  unfold F_M_some_g at hF
  refine e_met (own := RX12) hG (by decide +kernel) rfl rfl (Nat.le_of_ble_eq_true rfl) ?_
  intro p e s m args below meth c X hr
  show E p l e _ s m args below meth c Γ D 0 0 _ σ 0 [some (.ref (Γ.1 + 333)), none, none] []
  refine e_aload_n X dX12_some_0 rfl rfl ?_
  obtain ⟨z1, h_z1, hF⟩ := obind_out hF
  refine e_callVi X (r := z1.2) (σ1 := z1.1) [] [] (C_M_every_g (Cx_gok X) rc hrc σ h_z1) gv_X12_242 yk_X12_every rfl (ent_lt (rfl : entTbl[333]? = some (13, 0))) (ent_at (rfl : entTbl[333]? = some (13, 0)) _) (rfl : vCl[11]? = some (RX12, TX12, 24)) ⟨by dsimp only; omega, by dsimp only; omega⟩ ⟨Nat.le_of_ble_eq_true rfl, Nat.le_of_ble_eq_true rfl⟩ (Nat.le_of_ble_eq_true rfl) dX12_some_1 rfl ?_
  refine e_istore_n X rfl dX12_some_4 rfl (by decide) ?_
  obtain ⟨z8, h_z8, hF⟩ := obind_out hF
  refine e_le (L_M_some_5 X hr rc hrc _ z1.2 z1.1 h_z8 ?_) (And.intro rfl (And.intro rfl (trivial)))
  refine e_iload_n X dX12_some_44 rfl rfl ?_
  exact e_zret X hr rfl dX12_some_45 (Nat.le_of_ble_eq_true rfl) (Nat.le_of_ble_eq_true rfl) (by cases hF; exact ⟨rfl, rfl⟩)
set_option maxRecDepth 20000 in
set_option maxHeartbeats 4000000 in
theorem C_M_atom_g (hG : Gok l Γ D s0) {fr lo : Nat} (rc : Mem → Option (Mem × Int32)) (hrc : ∀ (σ : Mem)   {out : Mem × Int32}, rc σ = some out → CT l Γ D s0 yX12_atom cX12_atom 4 (some .boolean) fr 0 0 lo σ [.ref (Γ.1 + 333)] (PI (some (.int out.2)) out.1)) (σ : Mem)   {out : Mem × Int32} (hF : F_M_atom_g rc σ = some out) : CT l Γ D s0 yX12_atom cX12_atom 4 (some .boolean) (fr + 8) 0 0 (lo + 173) σ [.ref (Γ.1 + 333)] (PI (some (.int out.2)) out.1) := by
  unfold F_M_atom_g at hF
  refine e_met (own := RX12) hG (by decide +kernel) rfl rfl (Nat.le_of_ble_eq_true rfl) ?_
  intro p e s m args below meth c X hr
  show E p l e _ s m args below meth c Γ D 0 0 _ σ 0 [some (.ref (Γ.1 + 333)), none, none, none] []
  refine e_aload_n X dX12_atom_0 rfl rfl ?_
  refine ge_M_fault X wf_X12_25 dX12_atom_1 ?_
  refine e_iconst X (-1) dX12_atom_4 rfl ?_
  refine e_icmp_eq X 10 dX12_atom_5 (by decide) (fun c1 => ?_) (fun c1 => ?_)
  · skip
    rw [if_pos c1] at hF
    refine e_aload_n X dX12_atom_10 rfl rfl ?_
    obtain ⟨z2, h_z2, hF⟩ := obind_out hF
    refine e_callVi X (r := z2.2) (σ1 := z2.1) [] [] (C_M_place (Cx_gok X) σ h_z2) gv_X12_104 yk_X12_place rfl (ent_lt (rfl : entTbl[333]? = some (13, 0))) (ent_at (rfl : entTbl[333]? = some (13, 0)) _) (rfl : vCl[11]? = some (RX12, TX12, 24)) ⟨by dsimp only; omega, by dsimp only; omega⟩ ⟨Nat.le_of_ble_eq_true rfl, Nat.le_of_ble_eq_true rfl⟩ (Nat.le_of_ble_eq_true rfl) dX12_atom_11 rfl ?_
    refine e_istore_n X rfl dX12_atom_14 rfl (by decide) ?_
    refine e_aload_n X dX12_atom_15 rfl rfl ?_
    refine e_ldcS X (sr_X12_228 (x_gst X)) dX12_atom_16 ?_
    obtain ⟨z3, h_z3, hF⟩ := obind_out hF
    refine e_callVi X (r := z3.2) (σ1 := z3.1) [.ref (sad Γ 13)] [] (C_M_says (Cx_gok X) z2.1 13 (by decide) h_z3) gv_X12_111 yk_X12_says rfl (ent_lt (rfl : entTbl[333]? = some (13, 0))) (ent_at (rfl : entTbl[333]? = some (13, 0)) _) (rfl : vCl[11]? = some (RX12, TX12, 24)) ⟨by dsimp only; omega, by dsimp only; omega⟩ ⟨Nat.le_of_ble_eq_true rfl, Nat.le_of_ble_eq_true rfl⟩ (Nat.le_of_ble_eq_true rfl) dX12_atom_18 rfl ?_
    refine e_istore_n X rfl dX12_atom_21 rfl (by decide) ?_
    refine e_iload_n X dX12_atom_22 rfl rfl ?_
    refine e_if_ne X 40 dX12_atom_23 (by decide) (fun c4 => ?_) (fun c4 => ?_)
    · skip
      rw [if_neg c4] at hF
      refine e_aload_n X dX12_atom_40 rfl rfl ?_
      refine ge_M_deep X wf_X12_175 dX12_atom_41 ?_
      refine e_bipush X 6 dX12_atom_44 rfl ?_
      refine e_icmp_ne X 56 dX12_atom_46 (by decide) (fun c5 => ?_) (fun c5 => ?_)
      · skip
        rw [if_neg c5] at hF
        refine e_aload_n X dX12_atom_56 rfl rfl ?_
        refine e_dup X dX12_atom_57 rfl ?_
        refine ge_M_deep X wf_X12_175 dX12_atom_58 ?_
        refine e_iconst X 1 dX12_atom_61 rfl ?_
        refine e_iadd X dX12_atom_62 ?_
        obtain ⟨σ6, h_σ6, hF⟩ := bindT_out hF
        refine pu_M_deep X wf_X12_175 dX12_atom_63 h_σ6 ?_
        refine e_iconst X 0 dX12_atom_66 rfl ?_
        refine e_istore_n X rfl dX12_atom_67 rfl (by decide) ?_
        refine e_iload_n X dX12_atom_68 rfl rfl ?_
        refine e_if_eq X 88 dX12_atom_69 (by decide) (fun c7 => ?_) (fun c7 => ?_)
        · skip
          rw [if_pos c7] at hF
          refine e_aload_n X dX12_atom_88 rfl rfl ?_
          refine e_dup X dX12_atom_89 rfl ?_
          refine ge_M_at X wf_X12_82 dX12_atom_90 ?_
          refine e_iconst X 1 dX12_atom_93 rfl ?_
          refine e_iadd X dX12_atom_94 ?_
          obtain ⟨σ8, h_σ8, hF⟩ := bindT_out hF
          refine pu_M_at X wf_X12_82 dX12_atom_95 h_σ8 ?_
          refine e_aload_n X dX12_atom_98 rfl rfl ?_
          obtain ⟨z9, h_z9, hF⟩ := obind_out hF
          refine e_callVi X (r := z9.2) (σ1 := z9.1) [] [] (C_M_some_g (Cx_gok X) rc hrc σ8 h_z9) gv_X12_237 yk_X12_some rfl (ent_lt (rfl : entTbl[333]? = some (13, 0))) (ent_at (rfl : entTbl[333]? = some (13, 0)) _) (rfl : vCl[11]? = some (RX12, TX12, 24)) ⟨by dsimp only; omega, by dsimp only; omega⟩ ⟨Nat.le_of_ble_eq_true rfl, Nat.le_of_ble_eq_true rfl⟩ (Nat.le_of_ble_eq_true rfl) dX12_atom_99 rfl ?_
          refine e_istore_n X rfl dX12_atom_102 rfl (by decide) ?_
          refine e_aload_n X dX12_atom_103 rfl rfl ?_
          refine ge_M_fault X wf_X12_25 dX12_atom_104 ?_
          refine e_iconst X (-1) dX12_atom_107 rfl ?_
          refine e_icmp_ne X 128 dX12_atom_108 (by decide) (fun c10 => ?_) (fun c10 => ?_)
          · skip
            rw [if_neg c10] at hF
            refine e_aload_n X dX12_atom_128 rfl rfl ?_
            refine e_dup X dX12_atom_129 rfl ?_
            refine ge_M_at X wf_X12_82 dX12_atom_130 ?_
            refine e_iconst X 1 dX12_atom_133 rfl ?_
            refine e_iadd X dX12_atom_134 ?_
            obtain ⟨σ11, h_σ11, hF⟩ := bindT_out hF
            refine pu_M_at X wf_X12_82 dX12_atom_135 h_σ11 ?_
            refine e_aload_n X dX12_atom_138 rfl rfl ?_
            refine e_dup X dX12_atom_139 rfl ?_
            refine ge_M_deep X wf_X12_175 dX12_atom_140 ?_
            refine e_iconst X 1 dX12_atom_143 rfl ?_
            refine e_isub X dX12_atom_144 ?_
            obtain ⟨σ12, h_σ12, hF⟩ := bindT_out hF
            refine pu_M_deep X wf_X12_175 dX12_atom_145 h_σ12 ?_
            refine e_iload_n X dX12_atom_148 rfl rfl ?_
            exact e_zret X hr rfl dX12_atom_149 (Nat.le_of_ble_eq_true rfl) (Nat.le_of_ble_eq_true rfl) (by cases hF; exact ⟨rfl, rfl⟩)
          · skip
            rw [if_pos c10] at hF
            refine e_aload_n X dX12_atom_111 rfl rfl ?_
            refine e_bipush X 41 dX12_atom_112 rfl ?_
            obtain ⟨z13, h_z13, hF⟩ := obind_out hF
            refine e_callVi X (r := z13.2) (σ1 := z13.1) [.int 41] [] (C_M_isSign (Cx_gok X) z9.1 41 h_z13) gv_X12_184 yk_X12_isSign rfl (ent_lt (rfl : entTbl[333]? = some (13, 0))) (ent_at (rfl : entTbl[333]? = some (13, 0)) _) (rfl : vCl[11]? = some (RX12, TX12, 24)) ⟨by dsimp only; omega, by dsimp only; omega⟩ ⟨Nat.le_of_ble_eq_true rfl, Nat.le_of_ble_eq_true rfl⟩ (Nat.le_of_ble_eq_true rfl) dX12_atom_114 rfl ?_
            refine e_if_ne X 128 dX12_atom_117 (by decide) (fun c14 => ?_) (fun c14 => ?_)
            · skip
              rw [if_neg c14] at hF
              refine e_aload_n X dX12_atom_128 rfl rfl ?_
              refine e_dup X dX12_atom_129 rfl ?_
              refine ge_M_at X wf_X12_82 dX12_atom_130 ?_
              refine e_iconst X 1 dX12_atom_133 rfl ?_
              refine e_iadd X dX12_atom_134 ?_
              obtain ⟨σ15, h_σ15, hF⟩ := bindT_out hF
              refine pu_M_at X wf_X12_82 dX12_atom_135 h_σ15 ?_
              refine e_aload_n X dX12_atom_138 rfl rfl ?_
              refine e_dup X dX12_atom_139 rfl ?_
              refine ge_M_deep X wf_X12_175 dX12_atom_140 ?_
              refine e_iconst X 1 dX12_atom_143 rfl ?_
              refine e_isub X dX12_atom_144 ?_
              obtain ⟨σ16, h_σ16, hF⟩ := bindT_out hF
              refine pu_M_deep X wf_X12_175 dX12_atom_145 h_σ16 ?_
              refine e_iload_n X dX12_atom_148 rfl rfl ?_
              exact e_zret X hr rfl dX12_atom_149 (Nat.le_of_ble_eq_true rfl) (Nat.le_of_ble_eq_true rfl) (by cases hF; exact ⟨rfl, rfl⟩)
            · skip
              rw [if_pos c14] at hF
              refine e_aload_n X dX12_atom_120 rfl rfl ?_
              refine e_aload_n X dX12_atom_121 rfl rfl ?_
              refine ge_M_at X wf_X12_82 dX12_atom_122 ?_
              obtain ⟨z17, h_z17, hF⟩ := bindT_out hF
              refine e_callVv X (σ1 := z17) [.int ((z13.1 333 11))] [] (by rw [h_z17]; exact C_M_wrong (Cx_gok X) z13.1 ((z13.1 333 11))) gv_X12_107 yk_X12_wrong rfl (ent_lt (rfl : entTbl[333]? = some (13, 0))) (ent_at (rfl : entTbl[333]? = some (13, 0)) _) (rfl : vCl[11]? = some (RX12, TX12, 24)) ⟨by dsimp only; omega, by dsimp only; omega⟩ ⟨Nat.le_of_ble_eq_true rfl, Nat.le_of_ble_eq_true rfl⟩ (Nat.le_of_ble_eq_true rfl) dX12_atom_125 rfl ?_
              refine e_aload_n X dX12_atom_128 rfl rfl ?_
              refine e_dup X dX12_atom_129 rfl ?_
              refine ge_M_at X wf_X12_82 dX12_atom_130 ?_
              refine e_iconst X 1 dX12_atom_133 rfl ?_
              refine e_iadd X dX12_atom_134 ?_
              obtain ⟨σ18, h_σ18, hF⟩ := bindT_out hF
              refine pu_M_at X wf_X12_82 dX12_atom_135 h_σ18 ?_
              refine e_aload_n X dX12_atom_138 rfl rfl ?_
              refine e_dup X dX12_atom_139 rfl ?_
              refine ge_M_deep X wf_X12_175 dX12_atom_140 ?_
              refine e_iconst X 1 dX12_atom_143 rfl ?_
              refine e_isub X dX12_atom_144 ?_
              obtain ⟨σ19, h_σ19, hF⟩ := bindT_out hF
              refine pu_M_deep X wf_X12_175 dX12_atom_145 h_σ19 ?_
              refine e_iload_n X dX12_atom_148 rfl rfl ?_
              exact e_zret X hr rfl dX12_atom_149 (Nat.le_of_ble_eq_true rfl) (Nat.le_of_ble_eq_true rfl) (by cases hF; exact ⟨rfl, rfl⟩)
        · skip
          rw [if_neg c7] at hF
          refine e_aload_n X dX12_atom_72 rfl rfl ?_
          obtain ⟨z20, h_z20, hF⟩ := obind_out hF
          refine e_callVi X (r := z20.2) (σ1 := z20.1) [] [] (hrc σ6 h_z20) gv_X12_234 yk_X12_atom rfl (ent_lt (rfl : entTbl[333]? = some (13, 0))) (ent_at (rfl : entTbl[333]? = some (13, 0)) _) (rfl : vCl[11]? = some (RX12, TX12, 24)) ⟨by dsimp only; omega, by dsimp only; omega⟩ ⟨Nat.le_of_ble_eq_true rfl, Nat.le_of_ble_eq_true rfl⟩ (Nat.le_of_ble_eq_true rfl) dX12_atom_73 rfl ?_
          refine e_if_ne X 83 dX12_atom_76 (by decide) (fun c21 => ?_) (fun c21 => ?_)
          · skip
            rw [if_neg c21] at hF
            refine e_iconst X 0 dX12_atom_83 rfl ?_
            refine e_istore_n X rfl dX12_atom_84 rfl (by decide) ?_
            refine e_goto X 138 dX12_atom_85 (by decide) ?_
            refine e_aload_n X dX12_atom_138 rfl rfl ?_
            refine e_dup X dX12_atom_139 rfl ?_
            refine ge_M_deep X wf_X12_175 dX12_atom_140 ?_
            refine e_iconst X 1 dX12_atom_143 rfl ?_
            refine e_isub X dX12_atom_144 ?_
            obtain ⟨σ22, h_σ22, hF⟩ := bindT_out hF
            refine pu_M_deep X wf_X12_175 dX12_atom_145 h_σ22 ?_
            refine e_iload_n X dX12_atom_148 rfl rfl ?_
            exact e_zret X hr rfl dX12_atom_149 (Nat.le_of_ble_eq_true rfl) (Nat.le_of_ble_eq_true rfl) (by cases hF; exact ⟨rfl, rfl⟩)
          · skip
            rw [if_pos c21] at hF
            refine e_iconst X 1 dX12_atom_79 rfl ?_
            refine e_goto X 84 dX12_atom_80 (by decide) ?_
            refine e_istore_n X rfl dX12_atom_84 rfl (by decide) ?_
            refine e_goto X 138 dX12_atom_85 (by decide) ?_
            refine e_aload_n X dX12_atom_138 rfl rfl ?_
            refine e_dup X dX12_atom_139 rfl ?_
            refine ge_M_deep X wf_X12_175 dX12_atom_140 ?_
            refine e_iconst X 1 dX12_atom_143 rfl ?_
            refine e_isub X dX12_atom_144 ?_
            obtain ⟨σ23, h_σ23, hF⟩ := bindT_out hF
            refine pu_M_deep X wf_X12_175 dX12_atom_145 h_σ23 ?_
            refine e_iload_n X dX12_atom_148 rfl rfl ?_
            exact e_zret X hr rfl dX12_atom_149 (Nat.le_of_ble_eq_true rfl) (Nat.le_of_ble_eq_true rfl) (by cases hF; exact ⟨rfl, rfl⟩)
      · skip
        rw [if_pos c5] at hF
        refine e_aload_n X dX12_atom_49 rfl rfl ?_
        refine e_iload_n X dX12_atom_50 rfl rfl ?_
        obtain ⟨z24, h_z24, hF⟩ := bindT_out hF
        refine e_callVv X (σ1 := z24) [.int z2.2] [] (by rw [h_z24]; exact C_M_wrong (Cx_gok X) z3.1 z2.2) gv_X12_107 yk_X12_wrong rfl (ent_lt (rfl : entTbl[333]? = some (13, 0))) (ent_at (rfl : entTbl[333]? = some (13, 0)) _) (rfl : vCl[11]? = some (RX12, TX12, 24)) ⟨by dsimp only; omega, by dsimp only; omega⟩ ⟨Nat.le_of_ble_eq_true rfl, Nat.le_of_ble_eq_true rfl⟩ (Nat.le_of_ble_eq_true rfl) dX12_atom_51 rfl ?_
        refine e_iconst X 0 dX12_atom_54 rfl ?_
        exact e_zret X hr rfl dX12_atom_55 (Nat.le_of_ble_eq_true rfl) (Nat.le_of_ble_eq_true rfl) (by cases hF; exact ⟨rfl, rfl⟩)
    · skip
      rw [if_pos c4] at hF
      refine e_aload_n X dX12_atom_26 rfl rfl ?_
      refine e_bipush X 40 dX12_atom_27 rfl ?_
      obtain ⟨z25, h_z25, hF⟩ := obind_out hF
      refine e_callVi X (r := z25.2) (σ1 := z25.1) [.int 40] [] (C_M_isSign (Cx_gok X) z3.1 40 h_z25) gv_X12_184 yk_X12_isSign rfl (ent_lt (rfl : entTbl[333]? = some (13, 0))) (ent_at (rfl : entTbl[333]? = some (13, 0)) _) (rfl : vCl[11]? = some (RX12, TX12, 24)) ⟨by dsimp only; omega, by dsimp only; omega⟩ ⟨Nat.le_of_ble_eq_true rfl, Nat.le_of_ble_eq_true rfl⟩ (Nat.le_of_ble_eq_true rfl) dX12_atom_29 rfl ?_
      refine e_if_ne X 40 dX12_atom_32 (by decide) (fun c26 => ?_) (fun c26 => ?_)
      · skip
        rw [if_neg c26] at hF
        refine e_aload_n X dX12_atom_40 rfl rfl ?_
        refine ge_M_deep X wf_X12_175 dX12_atom_41 ?_
        refine e_bipush X 6 dX12_atom_44 rfl ?_
        refine e_icmp_ne X 56 dX12_atom_46 (by decide) (fun c27 => ?_) (fun c27 => ?_)
        · skip
          rw [if_neg c27] at hF
          refine e_aload_n X dX12_atom_56 rfl rfl ?_
          refine e_dup X dX12_atom_57 rfl ?_
          refine ge_M_deep X wf_X12_175 dX12_atom_58 ?_
          refine e_iconst X 1 dX12_atom_61 rfl ?_
          refine e_iadd X dX12_atom_62 ?_
          obtain ⟨σ28, h_σ28, hF⟩ := bindT_out hF
          refine pu_M_deep X wf_X12_175 dX12_atom_63 h_σ28 ?_
          refine e_iconst X 0 dX12_atom_66 rfl ?_
          refine e_istore_n X rfl dX12_atom_67 rfl (by decide) ?_
          refine e_iload_n X dX12_atom_68 rfl rfl ?_
          refine e_if_eq X 88 dX12_atom_69 (by decide) (fun c29 => ?_) (fun c29 => ?_)
          · skip
            rw [if_pos c29] at hF
            refine e_aload_n X dX12_atom_88 rfl rfl ?_
            refine e_dup X dX12_atom_89 rfl ?_
            refine ge_M_at X wf_X12_82 dX12_atom_90 ?_
            refine e_iconst X 1 dX12_atom_93 rfl ?_
            refine e_iadd X dX12_atom_94 ?_
            obtain ⟨σ30, h_σ30, hF⟩ := bindT_out hF
            refine pu_M_at X wf_X12_82 dX12_atom_95 h_σ30 ?_
            refine e_aload_n X dX12_atom_98 rfl rfl ?_
            obtain ⟨z31, h_z31, hF⟩ := obind_out hF
            refine e_callVi X (r := z31.2) (σ1 := z31.1) [] [] (C_M_some_g (Cx_gok X) rc hrc σ30 h_z31) gv_X12_237 yk_X12_some rfl (ent_lt (rfl : entTbl[333]? = some (13, 0))) (ent_at (rfl : entTbl[333]? = some (13, 0)) _) (rfl : vCl[11]? = some (RX12, TX12, 24)) ⟨by dsimp only; omega, by dsimp only; omega⟩ ⟨Nat.le_of_ble_eq_true rfl, Nat.le_of_ble_eq_true rfl⟩ (Nat.le_of_ble_eq_true rfl) dX12_atom_99 rfl ?_
            refine e_istore_n X rfl dX12_atom_102 rfl (by decide) ?_
            refine e_aload_n X dX12_atom_103 rfl rfl ?_
            refine ge_M_fault X wf_X12_25 dX12_atom_104 ?_
            refine e_iconst X (-1) dX12_atom_107 rfl ?_
            refine e_icmp_ne X 128 dX12_atom_108 (by decide) (fun c32 => ?_) (fun c32 => ?_)
            · skip
              rw [if_neg c32] at hF
              refine e_aload_n X dX12_atom_128 rfl rfl ?_
              refine e_dup X dX12_atom_129 rfl ?_
              refine ge_M_at X wf_X12_82 dX12_atom_130 ?_
              refine e_iconst X 1 dX12_atom_133 rfl ?_
              refine e_iadd X dX12_atom_134 ?_
              obtain ⟨σ33, h_σ33, hF⟩ := bindT_out hF
              refine pu_M_at X wf_X12_82 dX12_atom_135 h_σ33 ?_
              refine e_aload_n X dX12_atom_138 rfl rfl ?_
              refine e_dup X dX12_atom_139 rfl ?_
              refine ge_M_deep X wf_X12_175 dX12_atom_140 ?_
              refine e_iconst X 1 dX12_atom_143 rfl ?_
              refine e_isub X dX12_atom_144 ?_
              obtain ⟨σ34, h_σ34, hF⟩ := bindT_out hF
              refine pu_M_deep X wf_X12_175 dX12_atom_145 h_σ34 ?_
              refine e_iload_n X dX12_atom_148 rfl rfl ?_
              exact e_zret X hr rfl dX12_atom_149 (Nat.le_of_ble_eq_true rfl) (Nat.le_of_ble_eq_true rfl) (by cases hF; exact ⟨rfl, rfl⟩)
            · skip
              rw [if_pos c32] at hF
              refine e_aload_n X dX12_atom_111 rfl rfl ?_
              refine e_bipush X 41 dX12_atom_112 rfl ?_
              obtain ⟨z35, h_z35, hF⟩ := obind_out hF
              refine e_callVi X (r := z35.2) (σ1 := z35.1) [.int 41] [] (C_M_isSign (Cx_gok X) z31.1 41 h_z35) gv_X12_184 yk_X12_isSign rfl (ent_lt (rfl : entTbl[333]? = some (13, 0))) (ent_at (rfl : entTbl[333]? = some (13, 0)) _) (rfl : vCl[11]? = some (RX12, TX12, 24)) ⟨by dsimp only; omega, by dsimp only; omega⟩ ⟨Nat.le_of_ble_eq_true rfl, Nat.le_of_ble_eq_true rfl⟩ (Nat.le_of_ble_eq_true rfl) dX12_atom_114 rfl ?_
              refine e_if_ne X 128 dX12_atom_117 (by decide) (fun c36 => ?_) (fun c36 => ?_)
              · skip
                rw [if_neg c36] at hF
                refine e_aload_n X dX12_atom_128 rfl rfl ?_
                refine e_dup X dX12_atom_129 rfl ?_
                refine ge_M_at X wf_X12_82 dX12_atom_130 ?_
                refine e_iconst X 1 dX12_atom_133 rfl ?_
                refine e_iadd X dX12_atom_134 ?_
                obtain ⟨σ37, h_σ37, hF⟩ := bindT_out hF
                refine pu_M_at X wf_X12_82 dX12_atom_135 h_σ37 ?_
                refine e_aload_n X dX12_atom_138 rfl rfl ?_
                refine e_dup X dX12_atom_139 rfl ?_
                refine ge_M_deep X wf_X12_175 dX12_atom_140 ?_
                refine e_iconst X 1 dX12_atom_143 rfl ?_
                refine e_isub X dX12_atom_144 ?_
                obtain ⟨σ38, h_σ38, hF⟩ := bindT_out hF
                refine pu_M_deep X wf_X12_175 dX12_atom_145 h_σ38 ?_
                refine e_iload_n X dX12_atom_148 rfl rfl ?_
                exact e_zret X hr rfl dX12_atom_149 (Nat.le_of_ble_eq_true rfl) (Nat.le_of_ble_eq_true rfl) (by cases hF; exact ⟨rfl, rfl⟩)
              · skip
                rw [if_pos c36] at hF
                refine e_aload_n X dX12_atom_120 rfl rfl ?_
                refine e_aload_n X dX12_atom_121 rfl rfl ?_
                refine ge_M_at X wf_X12_82 dX12_atom_122 ?_
                obtain ⟨z39, h_z39, hF⟩ := bindT_out hF
                refine e_callVv X (σ1 := z39) [.int ((z35.1 333 11))] [] (by rw [h_z39]; exact C_M_wrong (Cx_gok X) z35.1 ((z35.1 333 11))) gv_X12_107 yk_X12_wrong rfl (ent_lt (rfl : entTbl[333]? = some (13, 0))) (ent_at (rfl : entTbl[333]? = some (13, 0)) _) (rfl : vCl[11]? = some (RX12, TX12, 24)) ⟨by dsimp only; omega, by dsimp only; omega⟩ ⟨Nat.le_of_ble_eq_true rfl, Nat.le_of_ble_eq_true rfl⟩ (Nat.le_of_ble_eq_true rfl) dX12_atom_125 rfl ?_
                refine e_aload_n X dX12_atom_128 rfl rfl ?_
                refine e_dup X dX12_atom_129 rfl ?_
                refine ge_M_at X wf_X12_82 dX12_atom_130 ?_
                refine e_iconst X 1 dX12_atom_133 rfl ?_
                refine e_iadd X dX12_atom_134 ?_
                obtain ⟨σ40, h_σ40, hF⟩ := bindT_out hF
                refine pu_M_at X wf_X12_82 dX12_atom_135 h_σ40 ?_
                refine e_aload_n X dX12_atom_138 rfl rfl ?_
                refine e_dup X dX12_atom_139 rfl ?_
                refine ge_M_deep X wf_X12_175 dX12_atom_140 ?_
                refine e_iconst X 1 dX12_atom_143 rfl ?_
                refine e_isub X dX12_atom_144 ?_
                obtain ⟨σ41, h_σ41, hF⟩ := bindT_out hF
                refine pu_M_deep X wf_X12_175 dX12_atom_145 h_σ41 ?_
                refine e_iload_n X dX12_atom_148 rfl rfl ?_
                exact e_zret X hr rfl dX12_atom_149 (Nat.le_of_ble_eq_true rfl) (Nat.le_of_ble_eq_true rfl) (by cases hF; exact ⟨rfl, rfl⟩)
          · skip
            rw [if_neg c29] at hF
            refine e_aload_n X dX12_atom_72 rfl rfl ?_
            obtain ⟨z42, h_z42, hF⟩ := obind_out hF
            refine e_callVi X (r := z42.2) (σ1 := z42.1) [] [] (hrc σ28 h_z42) gv_X12_234 yk_X12_atom rfl (ent_lt (rfl : entTbl[333]? = some (13, 0))) (ent_at (rfl : entTbl[333]? = some (13, 0)) _) (rfl : vCl[11]? = some (RX12, TX12, 24)) ⟨by dsimp only; omega, by dsimp only; omega⟩ ⟨Nat.le_of_ble_eq_true rfl, Nat.le_of_ble_eq_true rfl⟩ (Nat.le_of_ble_eq_true rfl) dX12_atom_73 rfl ?_
            refine e_if_ne X 83 dX12_atom_76 (by decide) (fun c43 => ?_) (fun c43 => ?_)
            · skip
              rw [if_neg c43] at hF
              refine e_iconst X 0 dX12_atom_83 rfl ?_
              refine e_istore_n X rfl dX12_atom_84 rfl (by decide) ?_
              refine e_goto X 138 dX12_atom_85 (by decide) ?_
              refine e_aload_n X dX12_atom_138 rfl rfl ?_
              refine e_dup X dX12_atom_139 rfl ?_
              refine ge_M_deep X wf_X12_175 dX12_atom_140 ?_
              refine e_iconst X 1 dX12_atom_143 rfl ?_
              refine e_isub X dX12_atom_144 ?_
              obtain ⟨σ44, h_σ44, hF⟩ := bindT_out hF
              refine pu_M_deep X wf_X12_175 dX12_atom_145 h_σ44 ?_
              refine e_iload_n X dX12_atom_148 rfl rfl ?_
              exact e_zret X hr rfl dX12_atom_149 (Nat.le_of_ble_eq_true rfl) (Nat.le_of_ble_eq_true rfl) (by cases hF; exact ⟨rfl, rfl⟩)
            · skip
              rw [if_pos c43] at hF
              refine e_iconst X 1 dX12_atom_79 rfl ?_
              refine e_goto X 84 dX12_atom_80 (by decide) ?_
              refine e_istore_n X rfl dX12_atom_84 rfl (by decide) ?_
              refine e_goto X 138 dX12_atom_85 (by decide) ?_
              refine e_aload_n X dX12_atom_138 rfl rfl ?_
              refine e_dup X dX12_atom_139 rfl ?_
              refine ge_M_deep X wf_X12_175 dX12_atom_140 ?_
              refine e_iconst X 1 dX12_atom_143 rfl ?_
              refine e_isub X dX12_atom_144 ?_
              obtain ⟨σ45, h_σ45, hF⟩ := bindT_out hF
              refine pu_M_deep X wf_X12_175 dX12_atom_145 h_σ45 ?_
              refine e_iload_n X dX12_atom_148 rfl rfl ?_
              exact e_zret X hr rfl dX12_atom_149 (Nat.le_of_ble_eq_true rfl) (Nat.le_of_ble_eq_true rfl) (by cases hF; exact ⟨rfl, rfl⟩)
        · skip
          rw [if_pos c27] at hF
          refine e_aload_n X dX12_atom_49 rfl rfl ?_
          refine e_iload_n X dX12_atom_50 rfl rfl ?_
          obtain ⟨z46, h_z46, hF⟩ := bindT_out hF
          refine e_callVv X (σ1 := z46) [.int z2.2] [] (by rw [h_z46]; exact C_M_wrong (Cx_gok X) z25.1 z2.2) gv_X12_107 yk_X12_wrong rfl (ent_lt (rfl : entTbl[333]? = some (13, 0))) (ent_at (rfl : entTbl[333]? = some (13, 0)) _) (rfl : vCl[11]? = some (RX12, TX12, 24)) ⟨by dsimp only; omega, by dsimp only; omega⟩ ⟨Nat.le_of_ble_eq_true rfl, Nat.le_of_ble_eq_true rfl⟩ (Nat.le_of_ble_eq_true rfl) dX12_atom_51 rfl ?_
          refine e_iconst X 0 dX12_atom_54 rfl ?_
          exact e_zret X hr rfl dX12_atom_55 (Nat.le_of_ble_eq_true rfl) (Nat.le_of_ble_eq_true rfl) (by cases hF; exact ⟨rfl, rfl⟩)
      · skip
        rw [if_pos c26] at hF
        refine e_aload_n X dX12_atom_35 rfl rfl ?_
        obtain ⟨z47, h_z47, hF⟩ := obind_out hF
        refine e_callVi X (r := z47.2) (σ1 := z47.1) [] [] (C_M_plain (Cx_gok X) z25.1 h_z47) gv_X12_230 yk_X12_plain rfl (ent_lt (rfl : entTbl[333]? = some (13, 0))) (ent_at (rfl : entTbl[333]? = some (13, 0)) _) (rfl : vCl[11]? = some (RX12, TX12, 24)) ⟨by dsimp only; omega, by dsimp only; omega⟩ ⟨Nat.le_of_ble_eq_true rfl, Nat.le_of_ble_eq_true rfl⟩ (Nat.le_of_ble_eq_true rfl) dX12_atom_36 rfl ?_
        exact e_zret X hr rfl dX12_atom_39 (Nat.le_of_ble_eq_true rfl) (Nat.le_of_ble_eq_true rfl) (by cases hF; exact ⟨rfl, rfl⟩)
  · skip
    rw [if_neg c1] at hF
    refine e_iconst X 0 dX12_atom_8 rfl ?_
    exact e_zret X hr rfl dX12_atom_9 (Nat.le_of_ble_eq_true rfl) (Nat.le_of_ble_eq_true rfl) (by cases hF; exact ⟨rfl, rfl⟩)
theorem C_M_atom_d (hG : Gok l Γ D s0) : ∀ (d : Nat), ∀ (σ : Mem)   {out : Mem × Int32}, F_M_atom_d d σ = some out → CT l Γ D s0 yX12_atom cX12_atom 4 (some .boolean) (8 * d) 0 0 (173 * d) σ [.ref (Γ.1 + 333)] (PI (some (.int out.2)) out.1)
  | 0 => fun _ _ h => by cases h
  | d + 1 => fun σ _ h => C_M_atom_g hG (F_M_atom_d d) (C_M_atom_d hG d) σ h
theorem C_M_every (hG : Gok l Γ D s0) (σ : Mem)   {out : Mem × Int32} (hF : F_M_every σ = some out) : CT l Γ D s0 yX12_every cX12_every 3 (some .boolean) 77 0 0 1665 σ [.ref (Γ.1 + 333)] (PI (some (.int out.2)) out.1) := by
  have h9 := C_M_every_g hG (F_M_atom_d 9) (C_M_atom_d hG 9) σ hF
  exact h9
theorem C_M_some (hG : Gok l Γ D s0) (σ : Mem)   {out : Mem × Int32} (hF : F_M_some σ = some out) : CT l Γ D s0 yX12_some cX12_some 3 (some .boolean) 78 0 0 1687 σ [.ref (Γ.1 + 333)] (PI (some (.int out.2)) out.1) := by
  have h9 := C_M_some_g hG (F_M_atom_d 9) (C_M_atom_d hG 9) σ hF
  exact h9
theorem C_M_atom (hG : Gok l Γ D s0) (σ : Mem)   {out : Mem × Int32} (hF : F_M_atom σ = some out) : CT l Γ D s0 yX12_atom cX12_atom 4 (some .boolean) 80 0 0 1730 σ [.ref (Γ.1 + 333)] (PI (some (.int out.2)) out.1) := by
  have h9 := C_M_atom_g hG (F_M_atom_d 9) (C_M_atom_d hG 9) σ hF
  exact h9
end PART

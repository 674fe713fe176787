section PART
variable {p : Program} {l : Launch} {e : Env} {R : Room} {s : State} {m : MethodId} {args : Array Value} {below : List Frame} {meth : Method} {c : Code} {Γ : Gm} {D : va_G} {s0 : State} {cells slots : Nat} {Q : State → Prop} {own : String} {cc : ByteArray} {nL : Nat} {σ : Mem} {pc : Nat} {lv : List (Option Value)} {st : List Value} {Pst : Option Value → Mem → Prop}
def F_Law_isMet_13_b (w : Nat) (v1 : Int32) (v2 : Int32) (k3 : Nat) (v5 : Int32) (v4 : Int32) (σ : Mem) : (Int32 × Mem) ⊕ (Int32 × Mem) := (if v5 < 400 then (if v5 < 0 then bindT (F_Row_put σ (w + 6) 64 v4 ((F_Look_valueOf σ k3 0))) fun z6 => bindT (v4 + 1) fun x7 => .inl ((x7, z6)) else bindT ((σ (w + 5) v5.toNatClampNeg)) fun x8 => (if x8 < 1008 then bindT (F_Row_put σ (w + 6) 64 v4 ((F_Look_valueOf σ k3 x8))) fun z14 => bindT (v4 + 1) fun x15 => .inl ((x15, z14)) else (if x8 = 1013 then bindT (F_Row_put σ (w + 6) 64 ((v4 - 1)) ((1 - (F_Row_at σ (w + 6) 64 ((v4 - 1)))))) fun z13 => .inl ((v4, z13)) else bindT (v4 + (-1)) fun x11 => bindT (F_Row_put σ (w + 6) 64 ((x11 - 1)) ((F_Law_joined σ x8 ((F_Row_at σ (w + 6) 64 ((x11 - 1)))) ((F_Row_at σ (w + 6) 64 x11))))) fun z12 => .inl ((x11, z12))))) else .inr ((v4, σ)))
def F_Law_isMet (σ : Mem) (w : Nat) (v1 : Int32) (v2 : Int32) (k3 : Nat) : Mem × Int32 := (if v1 < v2 then bindT (mrg (forG (fun i s => F_Law_isMet_13_b w v1 v2 k3 i s.1 s.2) (cnt v1 v2) v1 (0, σ))) fun z17 => (if (F_Row_at z17.2 (w + 6) 64 0) = 0 then (z17.2, 0) else (z17.2, 1)) else (σ, 1))
def F_Law_turnsBy_25_b (w : Nat) (k1 : Nat) (v2 : Int32) (v3 : Int32) (v4 : Int32) (σ : Mem) : Option ((Int32 × Int32 × Int32 × Mem) ⊕ (Int32 × Int32 × Int32 × Mem)) := (if v4 < (σ w 5) then bindT ((F_Row_at σ (w + 3) 12 v4)) fun x3 => bindT (F_Law_isMet σ w v3 x3 k1) fun z4 => (if z4.2 = 0 then bindT (v4 + 1) fun x6 => some (.inl ((v2, x3, x6, z4.1))) else bindT ((v2 + (F_Row_at z4.1 (w + 1) 12 v4))) fun x7 => bindT (v4 + 1) fun x8 => some (.inl ((x7, x3, x8, z4.1)))) else some (.inr ((v2, v3, v4, σ))))
def F_Law_turnsBy (σ : Mem) (w : Nat) (k1 : Nat) : Option (Mem × Int32) := (if (σ w 5) = (-1) then some ((σ, ((σ k1 4) - (σ k1 2)))) else obind (whl (fun s => F_Law_turnsBy_25_b w k1 s.1 s.2.1 s.2.2.1 s.2.2.2) FUEL (0, 0, 0, σ)) fun z9 => some ((z9.2.2.2, z9.1)))
set_option maxRecDepth 20000 in
set_option maxHeartbeats 4000000 in
theorem L_Law_isMet_13 (X : Cx p l s m args meth c Γ D s0 RX2 cX2_isMet 7) (hr : meth.sig.returnType = (some .boolean)) (w : Nat) (v1 : Int32) (v2 : Int32) (k3 : Nat) (gw : isLaw w) (gk3 : isLook k3) : ∀ (n : Nat) (v5 : Int32) (v4 : Int32) (σ : Mem) {z : Int32 × Mem}, mrg (forG (fun i s => F_Law_isMet_13_b w v1 v2 k3 i s.1 s.2) n v5 (v4, σ)) = z → n = cnt v5 v2 → (E p l e ({ frames := 1, cells := 0, slots := 0, locals := 22 } : Room) s m args below meth c Γ D 0 0 (MQ below (QcA Γ D Pst) args s 0 0 (frB Γ)) z.2 156 [some (.ref (Γ.1 + w)), some (.int v1), some (.int v2), some (.ref (Γ.1 + k3)), some (.int z.1), none, none] []) → E p l e ({ frames := 1, cells := 0, slots := 0, locals := 22 } : Room) s m args below meth c Γ D 0 0 (MQ below (QcA Γ D Pst) args s 0 0 (frB Γ)) σ 13 [some (.ref (Γ.1 + w)), some (.int v1), some (.int v2), some (.ref (Γ.1 + k3)), some (.int v4), some (.int v5), none] [] := by
  intro n
  induction n with
  | zero =>
    intro v5 v4 σ z hF hn hK
    refine e_iload X dX2_isMet_13 rfl ?_
    refine e_iload_n X dX2_isMet_15 rfl rfl ?_
    refine e_icmp_ge X 156 dX2_isMet_16 (by decide) (fun c16 => ?_) (fun c16 => ?_)
    · skip
      have hz9 := hF; change ((v4, σ)) = z at hz9; subst hz9
      exact e_le hK (And.intro rfl (And.intro rfl (And.intro rfl (And.intro rfl (And.intro rfl (trivial))))))
    · skip
      exact absurd c16 (cnt0 hn)
  | succ n ih =>
    intro v5 v4 σ z hF hn hK
    obtain ⟨y9, hB, hF⟩ := forB_step hF
    change F_Law_isMet_13_b w v1 v2 k3 v5 v4 σ = y9 at hB
    unfold F_Law_isMet_13_b at hB
    refine e_iload X dX2_isMet_13 rfl ?_
    refine e_iload_n X dX2_isMet_15 rfl rfl ?_
    refine e_icmp_ge X 156 dX2_isMet_16 (by decide) (fun c2 => ?_) (fun c2 => ?_)
    · skip
      exact absurd (cntS hn) c2
    · skip
      refine e_iload X dX2_isMet_19 rfl ?_
      refine e_aload_n X dX2_isMet_21 rfl rfl ?_
      refine ge_Law_codes X gw wf_X2_23 dX2_isMet_22 ?_
      refine e_alen X 400 gw.2.2.2.1 rfl dX2_isMet_25 ?_
      refine e_icmp_ge X 156 dX2_isMet_26 (by decide) (fun c3 => ?_) (fun c3 => ?_)
      · skip
        rw [if_neg c3] at hB
        have hy9 := hB; change (.inr ((v4, σ))) = y9 at hy9; subst hy9
        have hz9 := hF; change ((v4, σ)) = z at hz9; subst hz9
        exact e_le hK (And.intro rfl (And.intro rfl (And.intro rfl (And.intro rfl (And.intro rfl (trivial))))))
      · skip
        rw [if_pos c3] at hB
        refine e_iload X dX2_isMet_29 rfl ?_
        refine e_if_lt X 44 dX2_isMet_31 (by decide) (fun c4 => ?_) (fun c4 => ?_)
        · skip
          rw [if_pos c4] at hB
          refine e_iconst X 0 dX2_isMet_44 rfl ?_
          refine e_istore X rfl dX2_isMet_45 (by decide) ?_
          refine e_iload X dX2_isMet_47 rfl ?_
          refine e_sipush X 1008 dX2_isMet_49 rfl ?_
          refine e_icmp_ge X 76 dX2_isMet_52 (by decide) (fun c5 => ?_) (fun c5 => ?_)
          · skip
            exact absurd c5 (by decide)
          · skip
            refine e_aload_n X dX2_isMet_55 rfl rfl ?_
            refine ge_Law_stack X gw wf_X2_27 dX2_isMet_56 ?_
            refine e_iload X dX2_isMet_59 rfl ?_
            refine e_aload_n X dX2_isMet_61 rfl rfl ?_
            refine e_iload X dX2_isMet_62 rfl ?_
            refine e_callVi X (r := (F_Look_valueOf σ k3 0)) (σ1 := σ) [.int 0] [.int v4, .ref (Γ.1 + (w + 6))] (C_Look_valueOf (Cx_gok X) σ k3 0 gk3) gv_X2_73 yk_X4_valueOf rfl (ent_lt gk3) (ent_at gk3 _) (rfl : vCl[4]? = some (RX4, TX4, 7)) ⟨Nat.le_of_ble_eq_true rfl, Nat.le_of_ble_eq_true rfl⟩ ⟨Nat.le_of_ble_eq_true rfl, Nat.le_of_ble_eq_true rfl⟩ (Nat.le_of_ble_eq_true rfl) dX2_isMet_64 rfl ?_
            obtain ⟨z6, h_z6, hB⟩ := bindT_out hB
            refine e_callVv X (σ1 := z6) [.int v4, .int ((F_Look_valueOf σ k3 0))] [] (by rw [h_z6]; exact C_Row_put (Cx_gok X) σ (w + 6) 64 v4 ((F_Look_valueOf σ k3 0)) gw.2.2.2.2) gv_X2_37 yk_X6_put rfl (ent_lt gw.2.2.2.2.1) (ent_at gw.2.2.2.2.1 _) (rfl : vCl[6]? = some (RX6, TX6, 1)) ⟨Nat.le_of_ble_eq_true rfl, Nat.le_of_ble_eq_true rfl⟩ ⟨Nat.le_of_ble_eq_true rfl, Nat.le_of_ble_eq_true rfl⟩ (Nat.le_of_ble_eq_true rfl) dX2_isMet_67 rfl ?_
            refine e_iinc X 1 dX2_isMet_70 rfl rfl (by decide) ?_
            obtain ⟨x7, h_x7, hB⟩ := bindT_out hB
            rw [← h_x7]
            refine e_goto X 150 dX2_isMet_73 (by decide) ?_
            refine e_iinc X 1 dX2_isMet_150 rfl rfl (by decide) ?_
            refine e_goto X 13 dX2_isMet_153 (by decide) ?_
            have hy9 := hB; change (.inl ((x7, z6))) = y9 at hy9; subst hy9
            exact e_le (ih _ x7 z6 hF (cntN hn) hK) (And.intro rfl (And.intro rfl (And.intro rfl (And.intro rfl (And.intro rfl (And.intro rfl (trivial)))))))
        · skip
          rw [if_neg c4] at hB
          refine e_aload_n X dX2_isMet_34 rfl rfl ?_
          refine ge_Law_codes X gw wf_X2_23 dX2_isMet_35 ?_
          refine e_iload X dX2_isMet_38 rfl ?_
          refine e_iald X (j := v5.toNatClampNeg) rfl gw.2.2.2.1 (vp_gc (by decide) c4 c3) rfl dX2_isMet_40 ?_
          refine e_goto X 45 dX2_isMet_41 (by decide) ?_
          obtain ⟨x8, h_x8, hB⟩ := bindT_out hB
          refine e_istore X h_x8 dX2_isMet_45 (by decide) ?_
          refine e_iload X dX2_isMet_47 rfl ?_
          refine e_sipush X 1008 dX2_isMet_49 rfl ?_
          refine e_icmp_ge X 76 dX2_isMet_52 (by decide) (fun c9 => ?_) (fun c9 => ?_)
          · skip
            rw [if_neg c9] at hB
            refine e_iload X dX2_isMet_76 rfl ?_
            refine e_sipush X 1013 dX2_isMet_78 rfl ?_
            refine e_icmp_ne X 111 dX2_isMet_81 (by decide) (fun c10 => ?_) (fun c10 => ?_)
            · skip
              rw [if_neg c10] at hB
              refine e_iinc X (-1) dX2_isMet_111 rfl rfl (by decide) ?_
              obtain ⟨x11, h_x11, hB⟩ := bindT_out hB
              rw [← h_x11]
              refine e_aload_n X dX2_isMet_114 rfl rfl ?_
              refine ge_Law_stack X gw wf_X2_27 dX2_isMet_115 ?_
              refine e_iload X dX2_isMet_118 rfl ?_
              refine e_iconst X 1 dX2_isMet_120 rfl ?_
              refine e_isub X dX2_isMet_121 ?_
              refine e_iload X dX2_isMet_122 rfl ?_
              refine e_aload_n X dX2_isMet_124 rfl rfl ?_
              refine ge_Law_stack X gw wf_X2_27 dX2_isMet_125 ?_
              refine e_iload X dX2_isMet_128 rfl ?_
              refine e_iconst X 1 dX2_isMet_130 rfl ?_
              refine e_isub X dX2_isMet_131 ?_
              refine e_callVi X (r := (F_Row_at σ (w + 6) 64 ((x11 - 1)))) (σ1 := σ) [.int ((x11 - 1))] [.int x8, .int ((x11 - 1)), .ref (Γ.1 + (w + 6))] (C_Row_at (Cx_gok X) σ (w + 6) 64 ((x11 - 1)) gw.2.2.2.2) gv_X2_65 yk_X6_at rfl (ent_lt gw.2.2.2.2.1) (ent_at gw.2.2.2.2.1 _) (rfl : vCl[6]? = some (RX6, TX6, 1)) ⟨Nat.le_of_ble_eq_true rfl, Nat.le_of_ble_eq_true rfl⟩ ⟨Nat.le_of_ble_eq_true rfl, Nat.le_of_ble_eq_true rfl⟩ (Nat.le_of_ble_eq_true rfl) dX2_isMet_132 rfl ?_
              refine e_aload_n X dX2_isMet_135 rfl rfl ?_
              refine ge_Law_stack X gw wf_X2_27 dX2_isMet_136 ?_
              refine e_iload X dX2_isMet_139 rfl ?_
              refine e_callVi X (r := (F_Row_at σ (w + 6) 64 x11)) (σ1 := σ) [.int x11] [.int ((F_Row_at σ (w + 6) 64 ((x11 - 1)))), .int x8, .int ((x11 - 1)), .ref (Γ.1 + (w + 6))] (C_Row_at (Cx_gok X) σ (w + 6) 64 x11 gw.2.2.2.2) gv_X2_65 yk_X6_at rfl (ent_lt gw.2.2.2.2.1) (ent_at gw.2.2.2.2.1 _) (rfl : vCl[6]? = some (RX6, TX6, 1)) ⟨Nat.le_of_ble_eq_true rfl, Nat.le_of_ble_eq_true rfl⟩ ⟨Nat.le_of_ble_eq_true rfl, Nat.le_of_ble_eq_true rfl⟩ (Nat.le_of_ble_eq_true rfl) dX2_isMet_141 rfl ?_
              refine e_callSi X (r := (F_Law_joined σ x8 ((F_Row_at σ (w + 6) 64 ((x11 - 1)))) ((F_Row_at σ (w + 6) 64 x11)))) (σ1 := σ) [.int x8, .int ((F_Row_at σ (w + 6) 64 ((x11 - 1)))), .int ((F_Row_at σ (w + 6) 64 x11))] [.int ((x11 - 1)), .ref (Γ.1 + (w + 6))] (C_Law_joined (Cx_gok X) σ x8 ((F_Row_at σ (w + 6) 64 ((x11 - 1)))) ((F_Row_at σ (w + 6) 64 x11))) gs_X2_76 yk_X2_joined rfl ⟨Nat.le_of_ble_eq_true rfl, Nat.le_of_ble_eq_true rfl⟩ ⟨Nat.le_of_ble_eq_true rfl, Nat.le_of_ble_eq_true rfl⟩ (Nat.le_of_ble_eq_true rfl) dX2_isMet_144 rfl ?_
              obtain ⟨z12, h_z12, hB⟩ := bindT_out hB
              refine e_callVv X (σ1 := z12) [.int ((x11 - 1)), .int ((F_Law_joined σ x8 ((F_Row_at σ (w + 6) 64 ((x11 - 1)))) ((F_Row_at σ (w + 6) 64 x11))))] [] (by rw [h_z12]; exact C_Row_put (Cx_gok X) σ (w + 6) 64 ((x11 - 1)) ((F_Law_joined σ x8 ((F_Row_at σ (w + 6) 64 ((x11 - 1)))) ((F_Row_at σ (w + 6) 64 x11)))) gw.2.2.2.2) gv_X2_37 yk_X6_put rfl (ent_lt gw.2.2.2.2.1) (ent_at gw.2.2.2.2.1 _) (rfl : vCl[6]? = some (RX6, TX6, 1)) ⟨Nat.le_of_ble_eq_true rfl, Nat.le_of_ble_eq_true rfl⟩ ⟨Nat.le_of_ble_eq_true rfl, Nat.le_of_ble_eq_true rfl⟩ (Nat.le_of_ble_eq_true rfl) dX2_isMet_147 rfl ?_
              refine e_iinc X 1 dX2_isMet_150 rfl rfl (by decide) ?_
              refine e_goto X 13 dX2_isMet_153 (by decide) ?_
              have hy9 := hB; change (.inl ((x11, z12))) = y9 at hy9; subst hy9
              exact e_le (ih _ x11 z12 hF (cntN hn) hK) (And.intro rfl (And.intro rfl (And.intro rfl (And.intro rfl (And.intro rfl (And.intro rfl (trivial)))))))
            · skip
              rw [if_pos c10] at hB
              refine e_aload_n X dX2_isMet_84 rfl rfl ?_
              refine ge_Law_stack X gw wf_X2_27 dX2_isMet_85 ?_
              refine e_iload X dX2_isMet_88 rfl ?_
              refine e_iconst X 1 dX2_isMet_90 rfl ?_
              refine e_isub X dX2_isMet_91 ?_
              refine e_iconst X 1 dX2_isMet_92 rfl ?_
              refine e_aload_n X dX2_isMet_93 rfl rfl ?_
              refine ge_Law_stack X gw wf_X2_27 dX2_isMet_94 ?_
              refine e_iload X dX2_isMet_97 rfl ?_
              refine e_iconst X 1 dX2_isMet_99 rfl ?_
              refine e_isub X dX2_isMet_100 ?_
              refine e_callVi X (r := (F_Row_at σ (w + 6) 64 ((v4 - 1)))) (σ1 := σ) [.int ((v4 - 1))] [.int 1, .int ((v4 - 1)), .ref (Γ.1 + (w + 6))] (C_Row_at (Cx_gok X) σ (w + 6) 64 ((v4 - 1)) gw.2.2.2.2) gv_X2_65 yk_X6_at rfl (ent_lt gw.2.2.2.2.1) (ent_at gw.2.2.2.2.1 _) (rfl : vCl[6]? = some (RX6, TX6, 1)) ⟨Nat.le_of_ble_eq_true rfl, Nat.le_of_ble_eq_true rfl⟩ ⟨Nat.le_of_ble_eq_true rfl, Nat.le_of_ble_eq_true rfl⟩ (Nat.le_of_ble_eq_true rfl) dX2_isMet_101 rfl ?_
              refine e_isub X dX2_isMet_104 ?_
              obtain ⟨z13, h_z13, hB⟩ := bindT_out hB
              refine e_callVv X (σ1 := z13) [.int ((v4 - 1)), .int ((1 - (F_Row_at σ (w + 6) 64 ((v4 - 1)))))] [] (by rw [h_z13]; exact C_Row_put (Cx_gok X) σ (w + 6) 64 ((v4 - 1)) ((1 - (F_Row_at σ (w + 6) 64 ((v4 - 1))))) gw.2.2.2.2) gv_X2_37 yk_X6_put rfl (ent_lt gw.2.2.2.2.1) (ent_at gw.2.2.2.2.1 _) (rfl : vCl[6]? = some (RX6, TX6, 1)) ⟨Nat.le_of_ble_eq_true rfl, Nat.le_of_ble_eq_true rfl⟩ ⟨Nat.le_of_ble_eq_true rfl, Nat.le_of_ble_eq_true rfl⟩ (Nat.le_of_ble_eq_true rfl) dX2_isMet_105 rfl ?_
              refine e_goto X 150 dX2_isMet_108 (by decide) ?_
              refine e_iinc X 1 dX2_isMet_150 rfl rfl (by decide) ?_
              refine e_goto X 13 dX2_isMet_153 (by decide) ?_
              have hy9 := hB; change (.inl ((v4, z13))) = y9 at hy9; subst hy9
              exact e_le (ih _ v4 z13 hF (cntN hn) hK) (And.intro rfl (And.intro rfl (And.intro rfl (And.intro rfl (And.intro rfl (And.intro rfl (trivial)))))))
          · skip
            rw [if_pos c9] at hB
            refine e_aload_n X dX2_isMet_55 rfl rfl ?_
            refine ge_Law_stack X gw wf_X2_27 dX2_isMet_56 ?_
            refine e_iload X dX2_isMet_59 rfl ?_
            refine e_aload_n X dX2_isMet_61 rfl rfl ?_
            refine e_iload X dX2_isMet_62 rfl ?_
            refine e_callVi X (r := (F_Look_valueOf σ k3 x8)) (σ1 := σ) [.int x8] [.int v4, .ref (Γ.1 + (w + 6))] (C_Look_valueOf (Cx_gok X) σ k3 x8 gk3) gv_X2_73 yk_X4_valueOf rfl (ent_lt gk3) (ent_at gk3 _) (rfl : vCl[4]? = some (RX4, TX4, 7)) ⟨Nat.le_of_ble_eq_true rfl, Nat.le_of_ble_eq_true rfl⟩ ⟨Nat.le_of_ble_eq_true rfl, Nat.le_of_ble_eq_true rfl⟩ (Nat.le_of_ble_eq_true rfl) dX2_isMet_64 rfl ?_
            obtain ⟨z14, h_z14, hB⟩ := bindT_out hB
            refine e_callVv X (σ1 := z14) [.int v4, .int ((F_Look_valueOf σ k3 x8))] [] (by rw [h_z14]; exact C_Row_put (Cx_gok X) σ (w + 6) 64 v4 ((F_Look_valueOf σ k3 x8)) gw.2.2.2.2) gv_X2_37 yk_X6_put rfl (ent_lt gw.2.2.2.2.1) (ent_at gw.2.2.2.2.1 _) (rfl : vCl[6]? = some (RX6, TX6, 1)) ⟨Nat.le_of_ble_eq_true rfl, Nat.le_of_ble_eq_true rfl⟩ ⟨Nat.le_of_ble_eq_true rfl, Nat.le_of_ble_eq_true rfl⟩ (Nat.le_of_ble_eq_true rfl) dX2_isMet_67 rfl ?_
            refine e_iinc X 1 dX2_isMet_70 rfl rfl (by decide) ?_
            obtain ⟨x15, h_x15, hB⟩ := bindT_out hB
            rw [← h_x15]
            refine e_goto X 150 dX2_isMet_73 (by decide) ?_
            refine e_iinc X 1 dX2_isMet_150 rfl rfl (by decide) ?_
            refine e_goto X 13 dX2_isMet_153 (by decide) ?_
            have hy9 := hB; change (.inl ((x15, z14))) = y9 at hy9; subst hy9
            exact e_le (ih _ x15 z14 hF (cntN hn) hK) (And.intro rfl (And.intro rfl (And.intro rfl (And.intro rfl (And.intro rfl (And.intro rfl (trivial)))))))
set_option maxRecDepth 20000 in
set_option maxHeartbeats 4000000 in
theorem C_Law_isMet (hG : Gok l Γ D s0) (σ : Mem) (w : Nat) (v1 : Int32) (v2 : Int32) (k3 : Nat) (gw : isLaw w) (gk3 : isLook k3) : CT l Γ D s0 yX2_isMet cX2_isMet 7 (some .boolean) (1) 0 0 (22) σ [.ref (Γ.1 + w), .int v1, .int v2, .ref (Γ.1 + k3)] (PI (some (.int (F_Law_isMet σ w v1 v2 k3).2)) (F_Law_isMet σ w v1 v2 k3).1) := by
  generalize hF : F_Law_isMet σ w v1 v2 k3 = out
  unfold F_Law_isMet at hF
  refine e_met (own := RX2) hG (by decide +kernel) rfl rfl (Nat.le_of_ble_eq_true rfl) ?_
  intro p e s m args below meth c X hr
  show E p l e _ s m args below meth c Γ D 0 0 _ σ 0 [some (.ref (Γ.1 + w)), some (.int v1), some (.int v2), some (.ref (Γ.1 + k3)), none, none, none] []
  refine e_iload_n X dX2_isMet_0 rfl rfl ?_
  refine e_iload_n X dX2_isMet_1 rfl rfl ?_
  refine e_icmp_lt X 7 dX2_isMet_2 (by decide) (fun c1 => ?_) (fun c1 => ?_)
  · skip
    rw [if_pos c1] at hF
    refine e_iconst X 0 dX2_isMet_7 rfl ?_
    refine e_istore X rfl dX2_isMet_8 (by decide) ?_
    refine e_iload_n X dX2_isMet_10 rfl rfl ?_
    refine e_istore X rfl dX2_isMet_11 (by decide) ?_
    obtain ⟨z17, h_z17, hF⟩ := bindT_out hF
    refine e_le (L_Law_isMet_13 X hr w v1 v2 k3 gw gk3 _ v1 0 σ h_z17.symm rfl ?_) (And.intro rfl (And.intro rfl (And.intro rfl (And.intro rfl (And.intro rfl (And.intro rfl (trivial)))))))
    refine e_aload_n X dX2_isMet_156 rfl rfl ?_
    refine ge_Law_stack X gw wf_X2_27 dX2_isMet_157 ?_
    refine e_iconst X 0 dX2_isMet_160 rfl ?_
    refine e_callVi X (r := (F_Row_at z17.2 (w + 6) 64 0)) (σ1 := z17.2) [.int 0] [] (C_Row_at (Cx_gok X) z17.2 (w + 6) 64 0 gw.2.2.2.2) gv_X2_65 yk_X6_at rfl (ent_lt gw.2.2.2.2.1) (ent_at gw.2.2.2.2.1 _) (rfl : vCl[6]? = some (RX6, TX6, 1)) ⟨Nat.le_of_ble_eq_true rfl, Nat.le_of_ble_eq_true rfl⟩ ⟨Nat.le_of_ble_eq_true rfl, Nat.le_of_ble_eq_true rfl⟩ (Nat.le_of_ble_eq_true rfl) dX2_isMet_161 rfl ?_
    refine e_if_eq X 171 dX2_isMet_164 (by decide) (fun c18 => ?_) (fun c18 => ?_)
    · skip
      rw [if_pos c18] at hF
      refine e_iconst X 0 dX2_isMet_171 rfl ?_
      exact e_zret X hr rfl dX2_isMet_172 (Nat.le_of_ble_eq_true rfl) (Nat.le_of_ble_eq_true rfl) (by cases hF; exact ⟨rfl, rfl⟩)
    · skip
      rw [if_neg c18] at hF
      refine e_iconst X 1 dX2_isMet_167 rfl ?_
      refine e_goto X 172 dX2_isMet_168 (by decide) ?_
      exact e_zret X hr rfl dX2_isMet_172 (Nat.le_of_ble_eq_true rfl) (Nat.le_of_ble_eq_true rfl) (by cases hF; exact ⟨rfl, rfl⟩)
  · skip
    rw [if_neg c1] at hF
    refine e_iconst X 1 dX2_isMet_5 rfl ?_
    exact e_zret X hr rfl dX2_isMet_6 (Nat.le_of_ble_eq_true rfl) (Nat.le_of_ble_eq_true rfl) (by cases hF; exact ⟨rfl, rfl⟩)
set_option maxRecDepth 20000 in
set_option maxHeartbeats 4000000 in
theorem L_Law_turnsBy_25 (X : Cx p l s m args meth c Γ D s0 RX2 cX2_turnsBy 6) (hr : meth.sig.returnType = (some .int)) (w : Nat) (k1 : Nat) (gw : isLaw w) (gk1 : isLook k1) : ∀ (n : Nat) (v2 : Int32) (v3 : Int32) (v4 : Int32) (σ : Mem) {z : Int32 × Int32 × Int32 × Mem}, whl (fun s => F_Law_turnsBy_25_b w k1 s.1 s.2.1 s.2.2.1 s.2.2.2) n (v2, v3, v4, σ) = some z → (E p l e ({ frames := 2, cells := 0, slots := 0, locals := 48 } : Room) s m args below meth c Γ D 0 0 (MQ below (QcA Γ D Pst) args s 0 0 (frB Γ)) z.2.2.2 77 [some (.ref (Γ.1 + w)), some (.ref (Γ.1 + k1)), some (.int z.1), some (.int z.2.1), some (.int z.2.2.1), none] []) → E p l e ({ frames := 2, cells := 0, slots := 0, locals := 48 } : Room) s m args below meth c Γ D 0 0 (MQ below (QcA Γ D Pst) args s 0 0 (frB Γ)) σ 25 [some (.ref (Γ.1 + w)), some (.ref (Γ.1 + k1)), some (.int v2), some (.int v3), some (.int v4), none] [] := by
  intro n
  induction n with
  | zero =>
    intro v2 v3 v4 σ z hF hK
    cases hF
  | succ n ih =>
    intro v2 v3 v4 σ z hF hK
    obtain ⟨y9, hB, hF⟩ := whl_step hF
    change F_Law_turnsBy_25_b w k1 v2 v3 v4 σ = some y9 at hB
    unfold F_Law_turnsBy_25_b at hB
    refine e_iload X dX2_turnsBy_25 rfl ?_
    refine e_aload_n X dX2_turnsBy_27 rfl rfl ?_
    refine ge_Law_lines X gw wf_X2_30 dX2_turnsBy_28 ?_
    refine e_icmp_ge X 77 dX2_turnsBy_31 (by decide) (fun c2 => ?_) (fun c2 => ?_)
    · skip
      rw [if_neg c2] at hB
      have hy9 := Option.some.inj hB; change (.inr ((v2, v3, v4, σ))) = y9 at hy9; subst hy9
      have hz9 := Option.some.inj hF; change ((v2, v3, v4, σ)) = z at hz9; subst hz9
      exact e_le hK (And.intro rfl (And.intro rfl (And.intro rfl (And.intro rfl (And.intro rfl (trivial))))))
    · skip
      rw [if_pos c2] at hB
      refine e_aload_n X dX2_turnsBy_34 rfl rfl ?_
      refine ge_Law_ends X gw wf_X2_20 dX2_turnsBy_35 ?_
      refine e_iload X dX2_turnsBy_38 rfl ?_
      refine e_callVi X (r := (F_Row_at σ (w + 3) 12 v4)) (σ1 := σ) [.int v4] [] (C_Row_at (Cx_gok X) σ (w + 3) 12 v4 gw.2.2.1) gv_X2_65 yk_X6_at rfl (ent_lt gw.2.2.1.1) (ent_at gw.2.2.1.1 _) (rfl : vCl[6]? = some (RX6, TX6, 1)) ⟨Nat.le_of_ble_eq_true rfl, Nat.le_of_ble_eq_true rfl⟩ ⟨Nat.le_of_ble_eq_true rfl, Nat.le_of_ble_eq_true rfl⟩ (Nat.le_of_ble_eq_true rfl) dX2_turnsBy_40 rfl ?_
      obtain ⟨x3, h_x3, hB⟩ := bindT_out hB
      refine e_istore X h_x3 dX2_turnsBy_43 (by decide) ?_
      refine e_aload_n X dX2_turnsBy_45 rfl rfl ?_
      refine e_iload_n X dX2_turnsBy_46 rfl rfl ?_
      refine e_iload X dX2_turnsBy_47 rfl ?_
      refine e_aload_n X dX2_turnsBy_49 rfl rfl ?_
      obtain ⟨z4, h_z4, hB⟩ := bindT_out hB
      refine e_callVi X (r := z4.2) (σ1 := z4.1) [.int v3, .int x3, .ref (Γ.1 + k1)] [] (by rw [h_z4]; exact C_Law_isMet (Cx_gok X) σ w v3 x3 k1 gw gk1) gv_X2_69 yk_X2_isMet rfl (ent_lt gw.1) (ent_at gw.1 _) (rfl : vCl[2]? = some (RX2, TX2, 6)) ⟨Nat.le_of_ble_eq_true rfl, Nat.le_of_ble_eq_true rfl⟩ ⟨Nat.le_of_ble_eq_true rfl, Nat.le_of_ble_eq_true rfl⟩ (Nat.le_of_ble_eq_true rfl) dX2_turnsBy_50 rfl ?_
      refine e_if_eq X 68 dX2_turnsBy_53 (by decide) (fun c5 => ?_) (fun c5 => ?_)
      · skip
        rw [if_pos c5] at hB
        refine e_iload X dX2_turnsBy_68 rfl ?_
        refine e_istore_n X rfl dX2_turnsBy_70 rfl (by decide) ?_
        refine e_iinc X 1 dX2_turnsBy_71 rfl rfl (by decide) ?_
        obtain ⟨x6, h_x6, hB⟩ := bindT_out hB
        rw [← h_x6]
        refine e_goto X 25 dX2_turnsBy_74 (by decide) ?_
        have hy9 := Option.some.inj hB; change (.inl ((v2, x3, x6, z4.1))) = y9 at hy9; subst hy9
        exact e_le (ih v2 x3 x6 z4.1 hF hK) (And.intro rfl (And.intro rfl (And.intro rfl (And.intro rfl (And.intro rfl (trivial))))))
      · skip
        rw [if_neg c5] at hB
        refine e_iload_n X dX2_turnsBy_56 rfl rfl ?_
        refine e_aload_n X dX2_turnsBy_57 rfl rfl ?_
        refine ge_Law_amounts X gw wf_X2_14 dX2_turnsBy_58 ?_
        refine e_iload X dX2_turnsBy_61 rfl ?_
        refine e_callVi X (r := (F_Row_at z4.1 (w + 1) 12 v4)) (σ1 := z4.1) [.int v4] [.int v2] (C_Row_at (Cx_gok X) z4.1 (w + 1) 12 v4 gw.2.1) gv_X2_65 yk_X6_at rfl (ent_lt gw.2.1.1) (ent_at gw.2.1.1 _) (rfl : vCl[6]? = some (RX6, TX6, 1)) ⟨Nat.le_of_ble_eq_true rfl, Nat.le_of_ble_eq_true rfl⟩ ⟨Nat.le_of_ble_eq_true rfl, Nat.le_of_ble_eq_true rfl⟩ (Nat.le_of_ble_eq_true rfl) dX2_turnsBy_63 rfl ?_
        refine e_iadd X dX2_turnsBy_66 ?_
        obtain ⟨x7, h_x7, hB⟩ := bindT_out hB
        refine e_istore_n X h_x7 dX2_turnsBy_67 rfl (by decide) ?_
        refine e_iload X dX2_turnsBy_68 rfl ?_
        refine e_istore_n X rfl dX2_turnsBy_70 rfl (by decide) ?_
        refine e_iinc X 1 dX2_turnsBy_71 rfl rfl (by decide) ?_
        obtain ⟨x8, h_x8, hB⟩ := bindT_out hB
        rw [← h_x8]
        refine e_goto X 25 dX2_turnsBy_74 (by decide) ?_
        have hy9 := Option.some.inj hB; change (.inl ((x7, x3, x8, z4.1))) = y9 at hy9; subst hy9
        exact e_le (ih x7 x3 x8 z4.1 hF hK) (And.intro rfl (And.intro rfl (And.intro rfl (And.intro rfl (And.intro rfl (trivial))))))
set_option maxRecDepth 20000 in
set_option maxHeartbeats 4000000 in
theorem C_Law_turnsBy (hG : Gok l Γ D s0) (σ : Mem) (w : Nat) (k1 : Nat) (gw : isLaw w) (gk1 : isLook k1) {out : Mem × Int32} (hF : F_Law_turnsBy σ w k1 = some out) : CT l Γ D s0 yX2_turnsBy cX2_turnsBy 6 (some .int) (2) 0 0 (48) σ [.ref (Γ.1 + w), .ref (Γ.1 + k1)] (PI (some (.int out.2)) out.1) := by
  unfold F_Law_turnsBy at hF
  refine e_met (own := RX2) hG (by decide +kernel) rfl rfl (Nat.le_of_ble_eq_true rfl) ?_
  intro p e s m args below meth c X hr
  show E p l e _ s m args below meth c Γ D 0 0 _ σ 0 [some (.ref (Γ.1 + w)), some (.ref (Γ.1 + k1)), none, none, none, none] []
  refine e_aload_n X dX2_turnsBy_0 rfl rfl ?_
  refine ge_Law_lines X gw wf_X2_30 dX2_turnsBy_1 ?_
  refine e_iconst X (-1) dX2_turnsBy_4 rfl ?_
  refine e_icmp_ne X 18 dX2_turnsBy_5 (by decide) (fun c1 => ?_) (fun c1 => ?_)
  · skip
    rw [if_neg c1] at hF
    refine e_iconst X 0 dX2_turnsBy_18 rfl ?_
    refine e_istore_n X rfl dX2_turnsBy_19 rfl (by decide) ?_
    refine e_iconst X 0 dX2_turnsBy_20 rfl ?_
    refine e_istore_n X rfl dX2_turnsBy_21 rfl (by decide) ?_
    refine e_iconst X 0 dX2_turnsBy_22 rfl ?_
    refine e_istore X rfl dX2_turnsBy_23 (by decide) ?_
    obtain ⟨z9, h_z9, hF⟩ := obind_out hF
    refine e_le (L_Law_turnsBy_25 X hr w k1 gw gk1 _ 0 0 0 σ h_z9 ?_) (And.intro rfl (And.intro rfl (And.intro rfl (And.intro rfl (And.intro rfl (trivial))))))
    refine e_iload_n X dX2_turnsBy_77 rfl rfl ?_
    exact e_iret X hr dX2_turnsBy_78 (Nat.le_of_ble_eq_true rfl) (Nat.le_of_ble_eq_true rfl) (by cases hF; exact ⟨rfl, rfl⟩)
  · skip
    rw [if_pos c1] at hF
    refine e_aload_n X dX2_turnsBy_8 rfl rfl ?_
    refine ge_Look_liking X gk1 wf_X2_57 dX2_turnsBy_9 ?_
    refine e_aload_n X dX2_turnsBy_12 rfl rfl ?_
    refine ge_Look_quarrel X gk1 wf_X2_62 dX2_turnsBy_13 ?_
    refine e_isub X dX2_turnsBy_16 ?_
    exact e_iret X hr dX2_turnsBy_17 (Nat.le_of_ble_eq_true rfl) (Nat.le_of_ble_eq_true rfl) (by cases hF; exact ⟨rfl, rfl⟩)
end PART

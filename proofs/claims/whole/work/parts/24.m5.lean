section PART
variable {p : Program} {l : Launch} {e : Env} {R : Room} {s : State} {m : MethodId} {args : Array Value} {below : List Frame} {meth : Method} {c : Code} {Γ : Gm} {D : va_G} {s0 : State} {cells slots : Nat} {Q : State → Prop} {own : String} {cc : ByteArray} {nL : Nat} {σ : Mem} {pc : Nat} {lv : List (Option Value)} {st : List Value} {Pst : Option Value → Mem → Prop}
def F_M_part (σ : Mem)  : Option (Mem × Int32) := (if (σ 333 12) = (-1) then obind (F_M_skip σ) fun z2 => (if (z2 333 11) < (z2 333 10) then obind (F_M_letter z2 ((z2 333 11))) fun z24 => (if (F_M_isIn z2 z24 48 57) = 0 then obind (F_M_says z2 16) fun z26 => (if z26.2 = 0 then obind (F_M_says z26.1 17) fun z28 => (if z28.2 = 0 then obind (F_M_says z28.1 18) fun z30 => (if z30.2 = 0 then obind (F_M_says z30.1 19) fun z32 => (if z32.2 = 0 then obind (F_M_says z32.1 20) fun z34 => (if z34.2 = 0 then obind (F_M_says z34.1 21) fun z36 => (if z36.2 = 0 then bindT (F_M_wrong z36.1 ((z36.1 333 11))) fun z39 => some ((z39, 0)) else some ((z36.1, (z36.1 339 5)))) else some ((z34.1, (z34.1 339 4)))) else some ((z32.1, (z32.1 339 3)))) else some ((z30.1, (z30.1 339 2)))) else some ((z28.1, (z28.1 339 1)))) else some ((z26.1, (z26.1 339 0)))) else obind (F_M_figures z2 0 999) fun z46 => some ((z46.1, z46.2))) else obind (F_M_says z2 16) fun z4 => (if z4.2 = 0 then obind (F_M_says z4.1 17) fun z6 => (if z6.2 = 0 then obind (F_M_says z6.1 18) fun z8 => (if z8.2 = 0 then obind (F_M_says z8.1 19) fun z10 => (if z10.2 = 0 then obind (F_M_says z10.1 20) fun z12 => (if z12.2 = 0 then obind (F_M_says z12.1 21) fun z14 => (if z14.2 = 0 then bindT (F_M_wrong z14.1 ((z14.1 333 11))) fun z17 => some ((z17, 0)) else some ((z14.1, (z14.1 339 5)))) else some ((z12.1, (z12.1 339 4)))) else some ((z10.1, (z10.1 339 3)))) else some ((z8.1, (z8.1 339 2)))) else some ((z6.1, (z6.1 339 1)))) else some ((z4.1, (z4.1 339 0))))) else some ((σ, 0)))
def F_M_sum_5_b  (v1 : Int32) (σ : Mem) : Option ((Int32 × Mem) ⊕ (Int32 × Mem)) := (if (σ 333 12) = (-1) then obind (F_M_isSign σ 43) fun z3 => (if z3.2 = 0 then some (.inr ((v1, z3.1))) else bindT (up z3.1 333 11 (((z3.1 333 11) + 1))) fun σ5 => obind (F_M_part σ5) fun z6 => bindT ((v1 + z6.2)) fun x7 => some (.inl ((x7, z6.1)))) else some (.inr ((v1, σ))))
def F_M_sum (σ : Mem)  : Option (Mem × Int32) := obind (F_M_part σ) fun z1 => obind (whl (fun s => F_M_sum_5_b  s.1 s.2) FUEL (z1.2, z1.1)) fun z8 => some ((z8.2, z8.1))
def F_M_plain (σ : Mem)  : Option (Mem × Int32) := obind (F_M_says σ 14) fun z1 => (if z1.2 = 0 then obind (F_M_says z1.1 15) fun z3 => (if z3.2 = 0 then obind (F_M_sum z3.1) fun z5 => (if (z5.1 333 12) = (-1) then obind (F_M_isSign z5.1 60) fun z7 => (if z7.2 = 0 then obind (F_M_isSign z7.1 62) fun z14 => (if z14.2 = 0 then bindT (F_M_wrong z14.1 ((z14.1 333 11))) fun z21 => some ((z21, 0)) else bindT (up z14.1 333 11 (((z14.1 333 11) + 1))) fun σ16 => obind (F_M_sum σ16) fun z17 => (if z7.2 = 0 then (if z17.2 < z5.2 then some ((z17.1, 1)) else some ((z17.1, 0))) else (if z5.2 < z17.2 then some ((z17.1, 1)) else some ((z17.1, 0))))) else bindT (up z7.1 333 11 (((z7.1 333 11) + 1))) fun σ9 => obind (F_M_sum σ9) fun z10 => (if z7.2 = 0 then (if z10.2 < z5.2 then some ((z10.1, 1)) else some ((z10.1, 0))) else (if z5.2 < z10.2 then some ((z10.1, 1)) else some ((z10.1, 0))))) else some ((z5.1, 0))) else some ((z3.1, ((z3.1 333 15) &&& 1)))) else (if 0 < (z1.1 339 3) then some ((z1.1, 1)) else some ((z1.1, 0))))
set_option maxRecDepth 20000 in
set_option maxHeartbeats 4000000 in
theorem C_M_part (hG : Gok l Γ D s0) (σ : Mem)   {out : Mem × Int32} (hF : F_M_part σ = some out) : CT l Γ D s0 yX12_part cX12_part 2 (some .int) (5) 0 0 (108) σ [.ref (Γ.1 + 333)] (PI (some (.int out.2)) out.1) := by
  unfold F_M_part at hF
  refine e_met (own := RX12) hG (by decide +kernel) rfl rfl (Nat.le_of_ble_eq_true rfl) ?_
  intro p e s m args below meth c X hr
  show E p l e _ s m args below meth c Γ D 0 0 _ σ 0 [some (.ref (Γ.1 + 333)), none] []
  refine e_aload_n X dX12_part_0 rfl rfl ?_
  refine ge_M_fault X wf_X12_25 dX12_part_1 ?_
  refine e_iconst X (-1) dX12_part_4 rfl ?_
  refine e_icmp_eq X 10 dX12_part_5 (by decide) (fun c1 => ?_) (fun c1 => ?_)
  · skip
    rw [if_pos c1] at hF
    refine e_aload_n X dX12_part_10 rfl rfl ?_
    obtain ⟨z2, h_z2, hF⟩ := obind_out hF
    refine e_callVv X (σ1 := z2) [] [] (C_M_skip (Cx_gok X) σ h_z2) gv_X12_91 yk_X12_skip rfl (ent_lt (rfl : entTbl[333]? = some (13, 0))) (ent_at (rfl : entTbl[333]? = some (13, 0)) _) (rfl : vCl[11]? = some (RX12, TX12, 24)) ⟨Nat.le_of_ble_eq_true rfl, Nat.le_of_ble_eq_true rfl⟩ ⟨Nat.le_of_ble_eq_true rfl, Nat.le_of_ble_eq_true rfl⟩ (Nat.le_of_ble_eq_true rfl) dX12_part_11 rfl ?_
    refine e_aload_n X dX12_part_14 rfl rfl ?_
    refine ge_M_at X wf_X12_82 dX12_part_15 ?_
    refine e_aload_n X dX12_part_18 rfl rfl ?_
    refine ge_M_end X wf_X12_85 dX12_part_19 ?_
    refine e_icmp_ge X 52 dX12_part_22 (by decide) (fun c3 => ?_) (fun c3 => ?_)
    · skip
      rw [if_neg c3] at hF
      refine e_aload_n X dX12_part_52 rfl rfl ?_
      refine e_ldcS X (sr_X12_131 (x_gst X)) dX12_part_53 ?_
      obtain ⟨z4, h_z4, hF⟩ := obind_out hF
      refine e_callVi X (r := z4.2) (σ1 := z4.1) [.ref (sad Γ 16)] [] (C_M_says (Cx_gok X) z2 16 (by decide) h_z4) gv_X12_111 yk_X12_says rfl (ent_lt (rfl : entTbl[333]? = some (13, 0))) (ent_at (rfl : entTbl[333]? = some (13, 0)) _) (rfl : vCl[11]? = some (RX12, TX12, 24)) ⟨Nat.le_of_ble_eq_true rfl, Nat.le_of_ble_eq_true rfl⟩ ⟨Nat.le_of_ble_eq_true rfl, Nat.le_of_ble_eq_true rfl⟩ (Nat.le_of_ble_eq_true rfl) dX12_part_55 rfl ?_
      refine e_if_eq X 65 dX12_part_58 (by decide) (fun c5 => ?_) (fun c5 => ?_)
      · skip
        rw [if_pos c5] at hF
        refine e_aload_n X dX12_part_65 rfl rfl ?_
        refine e_ldcS X (sr_X12_204 (x_gst X)) dX12_part_66 ?_
        obtain ⟨z6, h_z6, hF⟩ := obind_out hF
        refine e_callVi X (r := z6.2) (σ1 := z6.1) [.ref (sad Γ 17)] [] (C_M_says (Cx_gok X) z4.1 17 (by decide) h_z6) gv_X12_111 yk_X12_says rfl (ent_lt (rfl : entTbl[333]? = some (13, 0))) (ent_at (rfl : entTbl[333]? = some (13, 0)) _) (rfl : vCl[11]? = some (RX12, TX12, 24)) ⟨Nat.le_of_ble_eq_true rfl, Nat.le_of_ble_eq_true rfl⟩ ⟨Nat.le_of_ble_eq_true rfl, Nat.le_of_ble_eq_true rfl⟩ (Nat.le_of_ble_eq_true rfl) dX12_part_68 rfl ?_
        refine e_if_eq X 78 dX12_part_71 (by decide) (fun c7 => ?_) (fun c7 => ?_)
        · skip
          rw [if_pos c7] at hF
          refine e_aload_n X dX12_part_78 rfl rfl ?_
          refine e_ldcS X (sr_X12_206 (x_gst X)) dX12_part_79 ?_
          obtain ⟨z8, h_z8, hF⟩ := obind_out hF
          refine e_callVi X (r := z8.2) (σ1 := z8.1) [.ref (sad Γ 18)] [] (C_M_says (Cx_gok X) z6.1 18 (by decide) h_z8) gv_X12_111 yk_X12_says rfl (ent_lt (rfl : entTbl[333]? = some (13, 0))) (ent_at (rfl : entTbl[333]? = some (13, 0)) _) (rfl : vCl[11]? = some (RX12, TX12, 24)) ⟨Nat.le_of_ble_eq_true rfl, Nat.le_of_ble_eq_true rfl⟩ ⟨Nat.le_of_ble_eq_true rfl, Nat.le_of_ble_eq_true rfl⟩ (Nat.le_of_ble_eq_true rfl) dX12_part_81 rfl ?_
          refine e_if_eq X 91 dX12_part_84 (by decide) (fun c9 => ?_) (fun c9 => ?_)
          · skip
            rw [if_pos c9] at hF
            refine e_aload_n X dX12_part_91 rfl rfl ?_
            refine e_ldcS X (sr_X12_208 (x_gst X)) dX12_part_92 ?_
            obtain ⟨z10, h_z10, hF⟩ := obind_out hF
            refine e_callVi X (r := z10.2) (σ1 := z10.1) [.ref (sad Γ 19)] [] (C_M_says (Cx_gok X) z8.1 19 (by decide) h_z10) gv_X12_111 yk_X12_says rfl (ent_lt (rfl : entTbl[333]? = some (13, 0))) (ent_at (rfl : entTbl[333]? = some (13, 0)) _) (rfl : vCl[11]? = some (RX12, TX12, 24)) ⟨Nat.le_of_ble_eq_true rfl, Nat.le_of_ble_eq_true rfl⟩ ⟨Nat.le_of_ble_eq_true rfl, Nat.le_of_ble_eq_true rfl⟩ (Nat.le_of_ble_eq_true rfl) dX12_part_94 rfl ?_
            refine e_if_eq X 104 dX12_part_97 (by decide) (fun c11 => ?_) (fun c11 => ?_)
            · skip
              rw [if_pos c11] at hF
              refine e_aload_n X dX12_part_104 rfl rfl ?_
              refine e_ldcS X (sr_X12_210 (x_gst X)) dX12_part_105 ?_
              obtain ⟨z12, h_z12, hF⟩ := obind_out hF
              refine e_callVi X (r := z12.2) (σ1 := z12.1) [.ref (sad Γ 20)] [] (C_M_says (Cx_gok X) z10.1 20 (by decide) h_z12) gv_X12_111 yk_X12_says rfl (ent_lt (rfl : entTbl[333]? = some (13, 0))) (ent_at (rfl : entTbl[333]? = some (13, 0)) _) (rfl : vCl[11]? = some (RX12, TX12, 24)) ⟨Nat.le_of_ble_eq_true rfl, Nat.le_of_ble_eq_true rfl⟩ ⟨Nat.le_of_ble_eq_true rfl, Nat.le_of_ble_eq_true rfl⟩ (Nat.le_of_ble_eq_true rfl) dX12_part_107 rfl ?_
              refine e_if_eq X 117 dX12_part_110 (by decide) (fun c13 => ?_) (fun c13 => ?_)
              · skip
                rw [if_pos c13] at hF
                refine e_aload_n X dX12_part_117 rfl rfl ?_
                refine e_ldcS X (sr_X12_212 (x_gst X)) dX12_part_118 ?_
                obtain ⟨z14, h_z14, hF⟩ := obind_out hF
                refine e_callVi X (r := z14.2) (σ1 := z14.1) [.ref (sad Γ 21)] [] (C_M_says (Cx_gok X) z12.1 21 (by decide) h_z14) gv_X12_111 yk_X12_says rfl (ent_lt (rfl : entTbl[333]? = some (13, 0))) (ent_at (rfl : entTbl[333]? = some (13, 0)) _) (rfl : vCl[11]? = some (RX12, TX12, 24)) ⟨Nat.le_of_ble_eq_true rfl, Nat.le_of_ble_eq_true rfl⟩ ⟨Nat.le_of_ble_eq_true rfl, Nat.le_of_ble_eq_true rfl⟩ (Nat.le_of_ble_eq_true rfl) dX12_part_120 rfl ?_
                refine e_if_eq X 130 dX12_part_123 (by decide) (fun c15 => ?_) (fun c15 => ?_)
                · skip
                  rw [if_pos c15] at hF
                  refine e_iconst X (-1) dX12_part_130 rfl ?_
                  refine e_istore_n X rfl dX12_part_131 rfl (by decide) ?_
                  refine e_iload_n X dX12_part_132 rfl rfl ?_
                  refine e_iconst X (-1) dX12_part_133 rfl ?_
                  refine e_icmp_ne X 147 dX12_part_134 (by decide) (fun c16 => ?_) (fun c16 => ?_)
                  · skip
                    exact absurd c16 (by decide)
                  · skip
                    refine e_aload_n X dX12_part_137 rfl rfl ?_
                    refine e_aload_n X dX12_part_138 rfl rfl ?_
                    refine ge_M_at X wf_X12_82 dX12_part_139 ?_
                    obtain ⟨z17, h_z17, hF⟩ := bindT_out hF
                    refine e_callVv X (σ1 := z17) [.int ((z14.1 333 11))] [] (by rw [h_z17]; exact C_M_wrong (Cx_gok X) z14.1 ((z14.1 333 11))) gv_X12_107 yk_X12_wrong rfl (ent_lt (rfl : entTbl[333]? = some (13, 0))) (ent_at (rfl : entTbl[333]? = some (13, 0)) _) (rfl : vCl[11]? = some (RX12, TX12, 24)) ⟨Nat.le_of_ble_eq_true rfl, Nat.le_of_ble_eq_true rfl⟩ ⟨Nat.le_of_ble_eq_true rfl, Nat.le_of_ble_eq_true rfl⟩ (Nat.le_of_ble_eq_true rfl) dX12_part_142 rfl ?_
                    refine e_iconst X 0 dX12_part_145 rfl ?_
                    exact e_iret X hr dX12_part_146 (Nat.le_of_ble_eq_true rfl) (Nat.le_of_ble_eq_true rfl) (by cases hF; exact ⟨rfl, rfl⟩)
                · skip
                  rw [if_neg c15] at hF
                  refine e_iconst X 5 dX12_part_126 rfl ?_
                  refine e_goto X 131 dX12_part_127 (by decide) ?_
                  refine e_istore_n X rfl dX12_part_131 rfl (by decide) ?_
                  refine e_iload_n X dX12_part_132 rfl rfl ?_
                  refine e_iconst X (-1) dX12_part_133 rfl ?_
                  refine e_icmp_ne X 147 dX12_part_134 (by decide) (fun c18 => ?_) (fun c18 => ?_)
                  · skip
                    refine e_aload_n X dX12_part_147 rfl rfl ?_
                    refine ge_M_fact X wf_X12_29 dX12_part_148 ?_
                    refine e_iload_n X dX12_part_151 rfl rfl ?_
                    refine e_iald X (j := 5) rfl rfl (vp_in_iff.mpr (by decide)) rfl dX12_part_152 ?_
                    exact e_iret X hr dX12_part_153 (Nat.le_of_ble_eq_true rfl) (Nat.le_of_ble_eq_true rfl) (by cases hF; exact ⟨rfl, rfl⟩)
                  · skip
                    exact absurd c18 (by decide)
              · skip
                rw [if_neg c13] at hF
                refine e_iconst X 4 dX12_part_113 rfl ?_
                refine e_goto X 131 dX12_part_114 (by decide) ?_
                refine e_istore_n X rfl dX12_part_131 rfl (by decide) ?_
                refine e_iload_n X dX12_part_132 rfl rfl ?_
                refine e_iconst X (-1) dX12_part_133 rfl ?_
                refine e_icmp_ne X 147 dX12_part_134 (by decide) (fun c19 => ?_) (fun c19 => ?_)
                · skip
                  refine e_aload_n X dX12_part_147 rfl rfl ?_
                  refine ge_M_fact X wf_X12_29 dX12_part_148 ?_
                  refine e_iload_n X dX12_part_151 rfl rfl ?_
                  refine e_iald X (j := 4) rfl rfl (vp_in_iff.mpr (by decide)) rfl dX12_part_152 ?_
                  exact e_iret X hr dX12_part_153 (Nat.le_of_ble_eq_true rfl) (Nat.le_of_ble_eq_true rfl) (by cases hF; exact ⟨rfl, rfl⟩)
                · skip
                  exact absurd c19 (by decide)
            · skip
              rw [if_neg c11] at hF
              refine e_iconst X 3 dX12_part_100 rfl ?_
              refine e_goto X 131 dX12_part_101 (by decide) ?_
              refine e_istore_n X rfl dX12_part_131 rfl (by decide) ?_
              refine e_iload_n X dX12_part_132 rfl rfl ?_
              refine e_iconst X (-1) dX12_part_133 rfl ?_
              refine e_icmp_ne X 147 dX12_part_134 (by decide) (fun c20 => ?_) (fun c20 => ?_)
              · skip
                refine e_aload_n X dX12_part_147 rfl rfl ?_
                refine ge_M_fact X wf_X12_29 dX12_part_148 ?_
                refine e_iload_n X dX12_part_151 rfl rfl ?_
                refine e_iald X (j := 3) rfl rfl (vp_in_iff.mpr (by decide)) rfl dX12_part_152 ?_
                exact e_iret X hr dX12_part_153 (Nat.le_of_ble_eq_true rfl) (Nat.le_of_ble_eq_true rfl) (by cases hF; exact ⟨rfl, rfl⟩)
              · skip
                exact absurd c20 (by decide)
          · skip
            rw [if_neg c9] at hF
            refine e_iconst X 2 dX12_part_87 rfl ?_
            refine e_goto X 131 dX12_part_88 (by decide) ?_
            refine e_istore_n X rfl dX12_part_131 rfl (by decide) ?_
            refine e_iload_n X dX12_part_132 rfl rfl ?_
            refine e_iconst X (-1) dX12_part_133 rfl ?_
            refine e_icmp_ne X 147 dX12_part_134 (by decide) (fun c21 => ?_) (fun c21 => ?_)
            · skip
              refine e_aload_n X dX12_part_147 rfl rfl ?_
              refine ge_M_fact X wf_X12_29 dX12_part_148 ?_
              refine e_iload_n X dX12_part_151 rfl rfl ?_
              refine e_iald X (j := 2) rfl rfl (vp_in_iff.mpr (by decide)) rfl dX12_part_152 ?_
              exact e_iret X hr dX12_part_153 (Nat.le_of_ble_eq_true rfl) (Nat.le_of_ble_eq_true rfl) (by cases hF; exact ⟨rfl, rfl⟩)
            · skip
              exact absurd c21 (by decide)
        · skip
          rw [if_neg c7] at hF
          refine e_iconst X 1 dX12_part_74 rfl ?_
          refine e_goto X 131 dX12_part_75 (by decide) ?_
          refine e_istore_n X rfl dX12_part_131 rfl (by decide) ?_
          refine e_iload_n X dX12_part_132 rfl rfl ?_
          refine e_iconst X (-1) dX12_part_133 rfl ?_
          refine e_icmp_ne X 147 dX12_part_134 (by decide) (fun c22 => ?_) (fun c22 => ?_)
          · skip
            refine e_aload_n X dX12_part_147 rfl rfl ?_
            refine ge_M_fact X wf_X12_29 dX12_part_148 ?_
            refine e_iload_n X dX12_part_151 rfl rfl ?_
            refine e_iald X (j := 1) rfl rfl (vp_in_iff.mpr (by decide)) rfl dX12_part_152 ?_
            exact e_iret X hr dX12_part_153 (Nat.le_of_ble_eq_true rfl) (Nat.le_of_ble_eq_true rfl) (by cases hF; exact ⟨rfl, rfl⟩)
          · skip
            exact absurd c22 (by decide)
      · skip
        rw [if_neg c5] at hF
        refine e_iconst X 0 dX12_part_61 rfl ?_
        refine e_goto X 131 dX12_part_62 (by decide) ?_
        refine e_istore_n X rfl dX12_part_131 rfl (by decide) ?_
        refine e_iload_n X dX12_part_132 rfl rfl ?_
        refine e_iconst X (-1) dX12_part_133 rfl ?_
        refine e_icmp_ne X 147 dX12_part_134 (by decide) (fun c23 => ?_) (fun c23 => ?_)
        · skip
          refine e_aload_n X dX12_part_147 rfl rfl ?_
          refine ge_M_fact X wf_X12_29 dX12_part_148 ?_
          refine e_iload_n X dX12_part_151 rfl rfl ?_
          refine e_iald X (j := 0) rfl rfl (vp_in_iff.mpr (by decide)) rfl dX12_part_152 ?_
          exact e_iret X hr dX12_part_153 (Nat.le_of_ble_eq_true rfl) (Nat.le_of_ble_eq_true rfl) (by cases hF; exact ⟨rfl, rfl⟩)
        · skip
          exact absurd c23 (by decide)
    · skip
      rw [if_pos c3] at hF
      refine e_aload_n X dX12_part_25 rfl rfl ?_
      refine e_aload_n X dX12_part_26 rfl rfl ?_
      refine ge_M_at X wf_X12_82 dX12_part_27 ?_
      obtain ⟨z24, h_z24, hF⟩ := obind_out hF
      refine e_callVi X (r := z24) (σ1 := z2) [.int ((z2 333 11))] [] (C_M_letter (Cx_gok X) z2 ((z2 333 11)) h_z24) gv_X12_88 yk_X12_letter rfl (ent_lt (rfl : entTbl[333]? = some (13, 0))) (ent_at (rfl : entTbl[333]? = some (13, 0)) _) (rfl : vCl[11]? = some (RX12, TX12, 24)) ⟨Nat.le_of_ble_eq_true rfl, Nat.le_of_ble_eq_true rfl⟩ ⟨Nat.le_of_ble_eq_true rfl, Nat.le_of_ble_eq_true rfl⟩ (Nat.le_of_ble_eq_true rfl) dX12_part_30 rfl ?_
      refine e_bipush X 48 dX12_part_33 rfl ?_
      refine e_bipush X 57 dX12_part_35 rfl ?_
      refine e_callSi X (r := (F_M_isIn z2 z24 48 57)) (σ1 := z2) [.int z24, .int 48, .int 57] [] (C_M_isIn (Cx_gok X) z2 z24 48 57) gs_X12_54 yk_X12_isIn rfl ⟨Nat.le_of_ble_eq_true rfl, Nat.le_of_ble_eq_true rfl⟩ ⟨Nat.le_of_ble_eq_true rfl, Nat.le_of_ble_eq_true rfl⟩ (Nat.le_of_ble_eq_true rfl) dX12_part_37 rfl ?_
      refine e_if_eq X 52 dX12_part_40 (by decide) (fun c25 => ?_) (fun c25 => ?_)
      · skip
        rw [if_pos c25] at hF
        refine e_aload_n X dX12_part_52 rfl rfl ?_
        refine e_ldcS X (sr_X12_131 (x_gst X)) dX12_part_53 ?_
        obtain ⟨z26, h_z26, hF⟩ := obind_out hF
        refine e_callVi X (r := z26.2) (σ1 := z26.1) [.ref (sad Γ 16)] [] (C_M_says (Cx_gok X) z2 16 (by decide) h_z26) gv_X12_111 yk_X12_says rfl (ent_lt (rfl : entTbl[333]? = some (13, 0))) (ent_at (rfl : entTbl[333]? = some (13, 0)) _) (rfl : vCl[11]? = some (RX12, TX12, 24)) ⟨Nat.le_of_ble_eq_true rfl, Nat.le_of_ble_eq_true rfl⟩ ⟨Nat.le_of_ble_eq_true rfl, Nat.le_of_ble_eq_true rfl⟩ (Nat.le_of_ble_eq_true rfl) dX12_part_55 rfl ?_
        refine e_if_eq X 65 dX12_part_58 (by decide) (fun c27 => ?_) (fun c27 => ?_)
        · skip
          rw [if_pos c27] at hF
          refine e_aload_n X dX12_part_65 rfl rfl ?_
          refine e_ldcS X (sr_X12_204 (x_gst X)) dX12_part_66 ?_
          obtain ⟨z28, h_z28, hF⟩ := obind_out hF
          refine e_callVi X (r := z28.2) (σ1 := z28.1) [.ref (sad Γ 17)] [] (C_M_says (Cx_gok X) z26.1 17 (by decide) h_z28) gv_X12_111 yk_X12_says rfl (ent_lt (rfl : entTbl[333]? = some (13, 0))) (ent_at (rfl : entTbl[333]? = some (13, 0)) _) (rfl : vCl[11]? = some (RX12, TX12, 24)) ⟨Nat.le_of_ble_eq_true rfl, Nat.le_of_ble_eq_true rfl⟩ ⟨Nat.le_of_ble_eq_true rfl, Nat.le_of_ble_eq_true rfl⟩ (Nat.le_of_ble_eq_true rfl) dX12_part_68 rfl ?_
          refine e_if_eq X 78 dX12_part_71 (by decide) (fun c29 => ?_) (fun c29 => ?_)
          · skip
            rw [if_pos c29] at hF
            refine e_aload_n X dX12_part_78 rfl rfl ?_
            refine e_ldcS X (sr_X12_206 (x_gst X)) dX12_part_79 ?_
            obtain ⟨z30, h_z30, hF⟩ := obind_out hF
            refine e_callVi X (r := z30.2) (σ1 := z30.1) [.ref (sad Γ 18)] [] (C_M_says (Cx_gok X) z28.1 18 (by decide) h_z30) gv_X12_111 yk_X12_says rfl (ent_lt (rfl : entTbl[333]? = some (13, 0))) (ent_at (rfl : entTbl[333]? = some (13, 0)) _) (rfl : vCl[11]? = some (RX12, TX12, 24)) ⟨Nat.le_of_ble_eq_true rfl, Nat.le_of_ble_eq_true rfl⟩ ⟨Nat.le_of_ble_eq_true rfl, Nat.le_of_ble_eq_true rfl⟩ (Nat.le_of_ble_eq_true rfl) dX12_part_81 rfl ?_
            refine e_if_eq X 91 dX12_part_84 (by decide) (fun c31 => ?_) (fun c31 => ?_)
            · skip
              rw [if_pos c31] at hF
              refine e_aload_n X dX12_part_91 rfl rfl ?_
              refine e_ldcS X (sr_X12_208 (x_gst X)) dX12_part_92 ?_
              obtain ⟨z32, h_z32, hF⟩ := obind_out hF
              refine e_callVi X (r := z32.2) (σ1 := z32.1) [.ref (sad Γ 19)] [] (C_M_says (Cx_gok X) z30.1 19 (by decide) h_z32) gv_X12_111 yk_X12_says rfl (ent_lt (rfl : entTbl[333]? = some (13, 0))) (ent_at (rfl : entTbl[333]? = some (13, 0)) _) (rfl : vCl[11]? = some (RX12, TX12, 24)) ⟨Nat.le_of_ble_eq_true rfl, Nat.le_of_ble_eq_true rfl⟩ ⟨Nat.le_of_ble_eq_true rfl, Nat.le_of_ble_eq_true rfl⟩ (Nat.le_of_ble_eq_true rfl) dX12_part_94 rfl ?_
              refine e_if_eq X 104 dX12_part_97 (by decide) (fun c33 => ?_) (fun c33 => ?_)
              · skip
                rw [if_pos c33] at hF
                refine e_aload_n X dX12_part_104 rfl rfl ?_
                refine e_ldcS X (sr_X12_210 (x_gst X)) dX12_part_105 ?_
                obtain ⟨z34, h_z34, hF⟩ := obind_out hF
                refine e_callVi X (r := z34.2) (σ1 := z34.1) [.ref (sad Γ 20)] [] (C_M_says (Cx_gok X) z32.1 20 (by decide) h_z34) gv_X12_111 yk_X12_says rfl (ent_lt (rfl : entTbl[333]? = some (13, 0))) (ent_at (rfl : entTbl[333]? = some (13, 0)) _) (rfl : vCl[11]? = some (RX12, TX12, 24)) ⟨Nat.le_of_ble_eq_true rfl, Nat.le_of_ble_eq_true rfl⟩ ⟨Nat.le_of_ble_eq_true rfl, Nat.le_of_ble_eq_true rfl⟩ (Nat.le_of_ble_eq_true rfl) dX12_part_107 rfl ?_
                refine e_if_eq X 117 dX12_part_110 (by decide) (fun c35 => ?_) (fun c35 => ?_)
                · skip
                  rw [if_pos c35] at hF
                  refine e_aload_n X dX12_part_117 rfl rfl ?_
                  refine e_ldcS X (sr_X12_212 (x_gst X)) dX12_part_118 ?_
                  obtain ⟨z36, h_z36, hF⟩ := obind_out hF
                  refine e_callVi X (r := z36.2) (σ1 := z36.1) [.ref (sad Γ 21)] [] (C_M_says (Cx_gok X) z34.1 21 (by decide) h_z36) gv_X12_111 yk_X12_says rfl (ent_lt (rfl : entTbl[333]? = some (13, 0))) (ent_at (rfl : entTbl[333]? = some (13, 0)) _) (rfl : vCl[11]? = some (RX12, TX12, 24)) ⟨Nat.le_of_ble_eq_true rfl, Nat.le_of_ble_eq_true rfl⟩ ⟨Nat.le_of_ble_eq_true rfl, Nat.le_of_ble_eq_true rfl⟩ (Nat.le_of_ble_eq_true rfl) dX12_part_120 rfl ?_
                  refine e_if_eq X 130 dX12_part_123 (by decide) (fun c37 => ?_) (fun c37 => ?_)
                  · skip
                    rw [if_pos c37] at hF
                    refine e_iconst X (-1) dX12_part_130 rfl ?_
                    refine e_istore_n X rfl dX12_part_131 rfl (by decide) ?_
                    refine e_iload_n X dX12_part_132 rfl rfl ?_
                    refine e_iconst X (-1) dX12_part_133 rfl ?_
                    refine e_icmp_ne X 147 dX12_part_134 (by decide) (fun c38 => ?_) (fun c38 => ?_)
                    · skip
                      exact absurd c38 (by decide)
                    · skip
                      refine e_aload_n X dX12_part_137 rfl rfl ?_
                      refine e_aload_n X dX12_part_138 rfl rfl ?_
                      refine ge_M_at X wf_X12_82 dX12_part_139 ?_
                      obtain ⟨z39, h_z39, hF⟩ := bindT_out hF
                      refine e_callVv X (σ1 := z39) [.int ((z36.1 333 11))] [] (by rw [h_z39]; exact C_M_wrong (Cx_gok X) z36.1 ((z36.1 333 11))) gv_X12_107 yk_X12_wrong rfl (ent_lt (rfl : entTbl[333]? = some (13, 0))) (ent_at (rfl : entTbl[333]? = some (13, 0)) _) (rfl : vCl[11]? = some (RX12, TX12, 24)) ⟨Nat.le_of_ble_eq_true rfl, Nat.le_of_ble_eq_true rfl⟩ ⟨Nat.le_of_ble_eq_true rfl, Nat.le_of_ble_eq_true rfl⟩ (Nat.le_of_ble_eq_true rfl) dX12_part_142 rfl ?_
                      refine e_iconst X 0 dX12_part_145 rfl ?_
                      exact e_iret X hr dX12_part_146 (Nat.le_of_ble_eq_true rfl) (Nat.le_of_ble_eq_true rfl) (by cases hF; exact ⟨rfl, rfl⟩)
                  · skip
                    rw [if_neg c37] at hF
                    refine e_iconst X 5 dX12_part_126 rfl ?_
                    refine e_goto X 131 dX12_part_127 (by decide) ?_
                    refine e_istore_n X rfl dX12_part_131 rfl (by decide) ?_
                    refine e_iload_n X dX12_part_132 rfl rfl ?_
                    refine e_iconst X (-1) dX12_part_133 rfl ?_
                    refine e_icmp_ne X 147 dX12_part_134 (by decide) (fun c40 => ?_) (fun c40 => ?_)
                    · skip
                      refine e_aload_n X dX12_part_147 rfl rfl ?_
                      refine ge_M_fact X wf_X12_29 dX12_part_148 ?_
                      refine e_iload_n X dX12_part_151 rfl rfl ?_
                      refine e_iald X (j := 5) rfl rfl (vp_in_iff.mpr (by decide)) rfl dX12_part_152 ?_
                      exact e_iret X hr dX12_part_153 (Nat.le_of_ble_eq_true rfl) (Nat.le_of_ble_eq_true rfl) (by cases hF; exact ⟨rfl, rfl⟩)
                    · skip
                      exact absurd c40 (by decide)
                · skip
                  rw [if_neg c35] at hF
                  refine e_iconst X 4 dX12_part_113 rfl ?_
                  refine e_goto X 131 dX12_part_114 (by decide) ?_
                  refine e_istore_n X rfl dX12_part_131 rfl (by decide) ?_
                  refine e_iload_n X dX12_part_132 rfl rfl ?_
                  refine e_iconst X (-1) dX12_part_133 rfl ?_
                  refine e_icmp_ne X 147 dX12_part_134 (by decide) (fun c41 => ?_) (fun c41 => ?_)
                  · skip
                    refine e_aload_n X dX12_part_147 rfl rfl ?_
                    refine ge_M_fact X wf_X12_29 dX12_part_148 ?_
                    refine e_iload_n X dX12_part_151 rfl rfl ?_
                    refine e_iald X (j := 4) rfl rfl (vp_in_iff.mpr (by decide)) rfl dX12_part_152 ?_
                    exact e_iret X hr dX12_part_153 (Nat.le_of_ble_eq_true rfl) (Nat.le_of_ble_eq_true rfl) (by cases hF; exact ⟨rfl, rfl⟩)
                  · skip
                    exact absurd c41 (by decide)
              · skip
                rw [if_neg c33] at hF
                refine e_iconst X 3 dX12_part_100 rfl ?_
                refine e_goto X 131 dX12_part_101 (by decide) ?_
                refine e_istore_n X rfl dX12_part_131 rfl (by decide) ?_
                refine e_iload_n X dX12_part_132 rfl rfl ?_
                refine e_iconst X (-1) dX12_part_133 rfl ?_
                refine e_icmp_ne X 147 dX12_part_134 (by decide) (fun c42 => ?_) (fun c42 => ?_)
                · skip
                  refine e_aload_n X dX12_part_147 rfl rfl ?_
                  refine ge_M_fact X wf_X12_29 dX12_part_148 ?_
                  refine e_iload_n X dX12_part_151 rfl rfl ?_
                  refine e_iald X (j := 3) rfl rfl (vp_in_iff.mpr (by decide)) rfl dX12_part_152 ?_
                  exact e_iret X hr dX12_part_153 (Nat.le_of_ble_eq_true rfl) (Nat.le_of_ble_eq_true rfl) (by cases hF; exact ⟨rfl, rfl⟩)
                · skip
                  exact absurd c42 (by decide)
            · skip
              rw [if_neg c31] at hF
              refine e_iconst X 2 dX12_part_87 rfl ?_
              refine e_goto X 131 dX12_part_88 (by decide) ?_
              refine e_istore_n X rfl dX12_part_131 rfl (by decide) ?_
              refine e_iload_n X dX12_part_132 rfl rfl ?_
              refine e_iconst X (-1) dX12_part_133 rfl ?_
              refine e_icmp_ne X 147 dX12_part_134 (by decide) (fun c43 => ?_) (fun c43 => ?_)
              · skip
                refine e_aload_n X dX12_part_147 rfl rfl ?_
                refine ge_M_fact X wf_X12_29 dX12_part_148 ?_
                refine e_iload_n X dX12_part_151 rfl rfl ?_
                refine e_iald X (j := 2) rfl rfl (vp_in_iff.mpr (by decide)) rfl dX12_part_152 ?_
                exact e_iret X hr dX12_part_153 (Nat.le_of_ble_eq_true rfl) (Nat.le_of_ble_eq_true rfl) (by cases hF; exact ⟨rfl, rfl⟩)
              · skip
                exact absurd c43 (by decide)
          · skip
            rw [if_neg c29] at hF
            refine e_iconst X 1 dX12_part_74 rfl ?_
            refine e_goto X 131 dX12_part_75 (by decide) ?_
            refine e_istore_n X rfl dX12_part_131 rfl (by decide) ?_
            refine e_iload_n X dX12_part_132 rfl rfl ?_
            refine e_iconst X (-1) dX12_part_133 rfl ?_
            refine e_icmp_ne X 147 dX12_part_134 (by decide) (fun c44 => ?_) (fun c44 => ?_)
            · skip
              refine e_aload_n X dX12_part_147 rfl rfl ?_
              refine ge_M_fact X wf_X12_29 dX12_part_148 ?_
              refine e_iload_n X dX12_part_151 rfl rfl ?_
              refine e_iald X (j := 1) rfl rfl (vp_in_iff.mpr (by decide)) rfl dX12_part_152 ?_
              exact e_iret X hr dX12_part_153 (Nat.le_of_ble_eq_true rfl) (Nat.le_of_ble_eq_true rfl) (by cases hF; exact ⟨rfl, rfl⟩)
            · skip
              exact absurd c44 (by decide)
        · skip
          rw [if_neg c27] at hF
          refine e_iconst X 0 dX12_part_61 rfl ?_
          refine e_goto X 131 dX12_part_62 (by decide) ?_
          refine e_istore_n X rfl dX12_part_131 rfl (by decide) ?_
          refine e_iload_n X dX12_part_132 rfl rfl ?_
          refine e_iconst X (-1) dX12_part_133 rfl ?_
          refine e_icmp_ne X 147 dX12_part_134 (by decide) (fun c45 => ?_) (fun c45 => ?_)
          · skip
            refine e_aload_n X dX12_part_147 rfl rfl ?_
            refine ge_M_fact X wf_X12_29 dX12_part_148 ?_
            refine e_iload_n X dX12_part_151 rfl rfl ?_
            refine e_iald X (j := 0) rfl rfl (vp_in_iff.mpr (by decide)) rfl dX12_part_152 ?_
            exact e_iret X hr dX12_part_153 (Nat.le_of_ble_eq_true rfl) (Nat.le_of_ble_eq_true rfl) (by cases hF; exact ⟨rfl, rfl⟩)
          · skip
            exact absurd c45 (by decide)
      · skip
        rw [if_neg c25] at hF
        refine e_aload_n X dX12_part_43 rfl rfl ?_
        refine e_iconst X 0 dX12_part_44 rfl ?_
        refine e_sipush X 999 dX12_part_45 rfl ?_
        obtain ⟨z46, h_z46, hF⟩ := obind_out hF
        refine e_callVi X (r := z46.2) (σ1 := z46.1) [.int 0, .int 999] [] (C_M_figures (Cx_gok X) z2 0 999 h_z46) gv_X12_115 yk_X12_figures rfl (ent_lt (rfl : entTbl[333]? = some (13, 0))) (ent_at (rfl : entTbl[333]? = some (13, 0)) _) (rfl : vCl[11]? = some (RX12, TX12, 24)) ⟨Nat.le_of_ble_eq_true rfl, Nat.le_of_ble_eq_true rfl⟩ ⟨Nat.le_of_ble_eq_true rfl, Nat.le_of_ble_eq_true rfl⟩ (Nat.le_of_ble_eq_true rfl) dX12_part_48 rfl ?_
        exact e_iret X hr dX12_part_51 (Nat.le_of_ble_eq_true rfl) (Nat.le_of_ble_eq_true rfl) (by cases hF; exact ⟨rfl, rfl⟩)
  · skip
    rw [if_neg c1] at hF
    refine e_iconst X 0 dX12_part_8 rfl ?_
    exact e_iret X hr dX12_part_9 (Nat.le_of_ble_eq_true rfl) (Nat.le_of_ble_eq_true rfl) (by cases hF; exact ⟨rfl, rfl⟩)
set_option maxRecDepth 20000 in
set_option maxHeartbeats 4000000 in
theorem L_M_sum_5 (X : Cx p l s m args meth c Γ D s0 RX12 cX12_sum 2) (hr : meth.sig.returnType = (some .int))   : ∀ (n : Nat) (v1 : Int32) (σ : Mem) {z : Int32 × Mem}, whl (fun s => F_M_sum_5_b  s.1 s.2) n (v1, σ) = some z → (E p l e ({ frames := 6, cells := 0, slots := 0, locals := 129 } : Room) s m args below meth c Γ D 0 0 (MQ below (QcA Γ D Pst) args s 0 0 (frB Γ)) z.2 42 [some (.ref (Γ.1 + 333)), some (.int z.1)] []) → E p l e ({ frames := 6, cells := 0, slots := 0, locals := 129 } : Room) s m args below meth c Γ D 0 0 (MQ below (QcA Γ D Pst) args s 0 0 (frB Γ)) σ 5 [some (.ref (Γ.1 + 333)), some (.int v1)] [] := by
  intro n
  induction n with
  | zero =>
    intro v1 σ z hF hK
    cases hF
  | succ n ih =>
    intro v1 σ z hF hK
    obtain ⟨y9, hB, hF⟩ := whl_step hF
    change F_M_sum_5_b  v1 σ = some y9 at hB
    unfold F_M_sum_5_b at hB
    refine e_aload_n X dX12_sum_5 rfl rfl ?_
    refine ge_M_fault X wf_X12_25 dX12_sum_6 ?_
    refine e_iconst X (-1) dX12_sum_9 rfl ?_
    refine e_icmp_ne X 42 dX12_sum_10 (by decide) (fun c2 => ?_) (fun c2 => ?_)
    · skip
      rw [if_neg c2] at hB
      have hy9 := Option.some.inj hB; change (.inr ((v1, σ))) = y9 at hy9; subst hy9
      have hz9 := Option.some.inj hF; change ((v1, σ)) = z at hz9; subst hz9
      exact e_le hK (And.intro rfl (And.intro rfl (trivial)))
    · skip
      rw [if_pos c2] at hB
      refine e_aload_n X dX12_sum_13 rfl rfl ?_
      refine e_bipush X 43 dX12_sum_14 rfl ?_
      obtain ⟨z3, h_z3, hB⟩ := obind_out hB
      refine e_callVi X (r := z3.2) (σ1 := z3.1) [.int 43] [] (C_M_isSign (Cx_gok X) σ 43 h_z3) gv_X12_184 yk_X12_isSign rfl (ent_lt (rfl : entTbl[333]? = some (13, 0))) (ent_at (rfl : entTbl[333]? = some (13, 0)) _) (rfl : vCl[11]? = some (RX12, TX12, 24)) ⟨Nat.le_of_ble_eq_true rfl, Nat.le_of_ble_eq_true rfl⟩ ⟨Nat.le_of_ble_eq_true rfl, Nat.le_of_ble_eq_true rfl⟩ (Nat.le_of_ble_eq_true rfl) dX12_sum_16 rfl ?_
      refine e_if_eq X 42 dX12_sum_19 (by decide) (fun c4 => ?_) (fun c4 => ?_)
      · skip
        rw [if_pos c4] at hB
        have hy9 := Option.some.inj hB; change (.inr ((v1, z3.1))) = y9 at hy9; subst hy9
        have hz9 := Option.some.inj hF; change ((v1, z3.1)) = z at hz9; subst hz9
        exact e_le hK (And.intro rfl (And.intro rfl (trivial)))
      · skip
        rw [if_neg c4] at hB
        refine e_aload_n X dX12_sum_22 rfl rfl ?_
        refine e_dup X dX12_sum_23 rfl ?_
        refine ge_M_at X wf_X12_82 dX12_sum_24 ?_
        refine e_iconst X 1 dX12_sum_27 rfl ?_
        refine e_iadd X dX12_sum_28 ?_
        obtain ⟨σ5, h_σ5, hB⟩ := bindT_out hB
        refine pu_M_at X wf_X12_82 dX12_sum_29 h_σ5 ?_
        refine e_iload_n X dX12_sum_32 rfl rfl ?_
        refine e_aload_n X dX12_sum_33 rfl rfl ?_
        obtain ⟨z6, h_z6, hB⟩ := obind_out hB
        refine e_callVi X (r := z6.2) (σ1 := z6.1) [] [.int v1] (C_M_part (Cx_gok X) σ5 h_z6) gv_X12_214 yk_X12_part rfl (ent_lt (rfl : entTbl[333]? = some (13, 0))) (ent_at (rfl : entTbl[333]? = some (13, 0)) _) (rfl : vCl[11]? = some (RX12, TX12, 24)) ⟨Nat.le_of_ble_eq_true rfl, Nat.le_of_ble_eq_true rfl⟩ ⟨Nat.le_of_ble_eq_true rfl, Nat.le_of_ble_eq_true rfl⟩ (Nat.le_of_ble_eq_true rfl) dX12_sum_34 rfl ?_
        refine e_iadd X dX12_sum_37 ?_
        obtain ⟨x7, h_x7, hB⟩ := bindT_out hB
        refine e_istore_n X h_x7 dX12_sum_38 rfl (by decide) ?_
        refine e_goto X 5 dX12_sum_39 (by decide) ?_
        have hy9 := Option.some.inj hB; change (.inl ((x7, z6.1))) = y9 at hy9; subst hy9
        exact e_le (ih x7 z6.1 hF hK) (And.intro rfl (And.intro rfl (trivial)))
set_option maxRecDepth 20000 in
set_option maxHeartbeats 4000000 in
theorem C_M_sum (hG : Gok l Γ D s0) (σ : Mem)   {out : Mem × Int32} (hF : F_M_sum σ = some out) : CT l Γ D s0 yX12_sum cX12_sum 2 (some .int) (6) 0 0 (129) σ [.ref (Γ.1 + 333)] (PI (some (.int out.2)) out.1) := by
  unfold F_M_sum at hF
  refine e_met (own := RX12) hG (by decide +kernel) rfl rfl (Nat.le_of_ble_eq_true rfl) ?_
  intro p e s m args below meth c X hr
  show E p l e _ s m args below meth c Γ D 0 0 _ σ 0 [some (.ref (Γ.1 + 333)), none] []
  refine e_aload_n X dX12_sum_0 rfl rfl ?_
  obtain ⟨z1, h_z1, hF⟩ := obind_out hF
  refine e_callVi X (r := z1.2) (σ1 := z1.1) [] [] (C_M_part (Cx_gok X) σ h_z1) gv_X12_214 yk_X12_part rfl (ent_lt (rfl : entTbl[333]? = some (13, 0))) (ent_at (rfl : entTbl[333]? = some (13, 0)) _) (rfl : vCl[11]? = some (RX12, TX12, 24)) ⟨Nat.le_of_ble_eq_true rfl, Nat.le_of_ble_eq_true rfl⟩ ⟨Nat.le_of_ble_eq_true rfl, Nat.le_of_ble_eq_true rfl⟩ (Nat.le_of_ble_eq_true rfl) dX12_sum_1 rfl ?_
  refine e_istore_n X rfl dX12_sum_4 rfl (by decide) ?_
  obtain ⟨z8, h_z8, hF⟩ := obind_out hF
  refine e_le (L_M_sum_5 X hr _ z1.2 z1.1 h_z8 ?_) (And.intro rfl (And.intro rfl (trivial)))
  refine e_iload_n X dX12_sum_42 rfl rfl ?_
  exact e_iret X hr dX12_sum_43 (Nat.le_of_ble_eq_true rfl) (Nat.le_of_ble_eq_true rfl) (by cases hF; exact ⟨rfl, rfl⟩)
set_option maxRecDepth 20000 in
set_option maxHeartbeats 4000000 in
theorem C_M_plain (hG : Gok l Γ D s0) (σ : Mem)   {out : Mem × Int32} (hF : F_M_plain σ = some out) : CT l Γ D s0 yX12_plain cX12_plain 4 (some .boolean) (7) 0 0 (150) σ [.ref (Γ.1 + 333)] (PI (some (.int out.2)) out.1) := by
  unfold F_M_plain at hF
  refine e_met (own := RX12) hG (by decide +kernel) rfl rfl (Nat.le_of_ble_eq_true rfl) ?_
  intro p e s m args below meth c X hr
  show E p l e _ s m args below meth c Γ D 0 0 _ σ 0 [some (.ref (Γ.1 + 333)), none, none, none] []
  refine e_aload_n X dX12_plain_0 rfl rfl ?_
  refine e_ldcS X (sr_X12_217 (x_gst X)) dX12_plain_1 ?_
  obtain ⟨z1, h_z1, hF⟩ := obind_out hF
  refine e_callVi X (r := z1.2) (σ1 := z1.1) [.ref (sad Γ 14)] [] (C_M_says (Cx_gok X) σ 14 (by decide) h_z1) gv_X12_111 yk_X12_says rfl (ent_lt (rfl : entTbl[333]? = some (13, 0))) (ent_at (rfl : entTbl[333]? = some (13, 0)) _) (rfl : vCl[11]? = some (RX12, TX12, 24)) ⟨Nat.le_of_ble_eq_true rfl, Nat.le_of_ble_eq_true rfl⟩ ⟨Nat.le_of_ble_eq_true rfl, Nat.le_of_ble_eq_true rfl⟩ (Nat.le_of_ble_eq_true rfl) dX12_plain_3 rfl ?_
  refine e_if_eq X 24 dX12_plain_6 (by decide) (fun c2 => ?_) (fun c2 => ?_)
  · skip
    rw [if_pos c2] at hF
    refine e_aload_n X dX12_plain_24 rfl rfl ?_
    refine e_ldcS X (sr_X12_219 (x_gst X)) dX12_plain_25 ?_
    obtain ⟨z3, h_z3, hF⟩ := obind_out hF
    refine e_callVi X (r := z3.2) (σ1 := z3.1) [.ref (sad Γ 15)] [] (C_M_says (Cx_gok X) z1.1 15 (by decide) h_z3) gv_X12_111 yk_X12_says rfl (ent_lt (rfl : entTbl[333]? = some (13, 0))) (ent_at (rfl : entTbl[333]? = some (13, 0)) _) (rfl : vCl[11]? = some (RX12, TX12, 24)) ⟨Nat.le_of_ble_eq_true rfl, Nat.le_of_ble_eq_true rfl⟩ ⟨Nat.le_of_ble_eq_true rfl, Nat.le_of_ble_eq_true rfl⟩ (Nat.le_of_ble_eq_true rfl) dX12_plain_27 rfl ?_
    refine e_if_eq X 38 dX12_plain_30 (by decide) (fun c4 => ?_) (fun c4 => ?_)
    · skip
      rw [if_pos c4] at hF
      refine e_aload_n X dX12_plain_38 rfl rfl ?_
      obtain ⟨z5, h_z5, hF⟩ := obind_out hF
      refine e_callVi X (r := z5.2) (σ1 := z5.1) [] [] (C_M_sum (Cx_gok X) z3.1 h_z5) gv_X12_225 yk_X12_sum rfl (ent_lt (rfl : entTbl[333]? = some (13, 0))) (ent_at (rfl : entTbl[333]? = some (13, 0)) _) (rfl : vCl[11]? = some (RX12, TX12, 24)) ⟨Nat.le_of_ble_eq_true rfl, Nat.le_of_ble_eq_true rfl⟩ ⟨Nat.le_of_ble_eq_true rfl, Nat.le_of_ble_eq_true rfl⟩ (Nat.le_of_ble_eq_true rfl) dX12_plain_39 rfl ?_
      refine e_istore_n X rfl dX12_plain_42 rfl (by decide) ?_
      refine e_aload_n X dX12_plain_43 rfl rfl ?_
      refine ge_M_fault X wf_X12_25 dX12_plain_44 ?_
      refine e_iconst X (-1) dX12_plain_47 rfl ?_
      refine e_icmp_eq X 53 dX12_plain_48 (by decide) (fun c6 => ?_) (fun c6 => ?_)
      · skip
        rw [if_pos c6] at hF
        refine e_aload_n X dX12_plain_53 rfl rfl ?_
        refine e_bipush X 60 dX12_plain_54 rfl ?_
        obtain ⟨z7, h_z7, hF⟩ := obind_out hF
        refine e_callVi X (r := z7.2) (σ1 := z7.1) [.int 60] [] (C_M_isSign (Cx_gok X) z5.1 60 h_z7) gv_X12_184 yk_X12_isSign rfl (ent_lt (rfl : entTbl[333]? = some (13, 0))) (ent_at (rfl : entTbl[333]? = some (13, 0)) _) (rfl : vCl[11]? = some (RX12, TX12, 24)) ⟨Nat.le_of_ble_eq_true rfl, Nat.le_of_ble_eq_true rfl⟩ ⟨Nat.le_of_ble_eq_true rfl, Nat.le_of_ble_eq_true rfl⟩ (Nat.le_of_ble_eq_true rfl) dX12_plain_56 rfl ?_
        refine e_istore_n X rfl dX12_plain_59 rfl (by decide) ?_
        refine e_iload_n X dX12_plain_60 rfl rfl ?_
        refine e_if_ne X 83 dX12_plain_61 (by decide) (fun c8 => ?_) (fun c8 => ?_)
        · skip
          rw [if_neg c8] at hF
          refine e_aload_n X dX12_plain_83 rfl rfl ?_
          refine e_dup X dX12_plain_84 rfl ?_
          refine ge_M_at X wf_X12_82 dX12_plain_85 ?_
          refine e_iconst X 1 dX12_plain_88 rfl ?_
          refine e_iadd X dX12_plain_89 ?_
          obtain ⟨σ9, h_σ9, hF⟩ := bindT_out hF
          refine pu_M_at X wf_X12_82 dX12_plain_90 h_σ9 ?_
          refine e_aload_n X dX12_plain_93 rfl rfl ?_
          obtain ⟨z10, h_z10, hF⟩ := obind_out hF
          refine e_callVi X (r := z10.2) (σ1 := z10.1) [] [] (C_M_sum (Cx_gok X) σ9 h_z10) gv_X12_225 yk_X12_sum rfl (ent_lt (rfl : entTbl[333]? = some (13, 0))) (ent_at (rfl : entTbl[333]? = some (13, 0)) _) (rfl : vCl[11]? = some (RX12, TX12, 24)) ⟨Nat.le_of_ble_eq_true rfl, Nat.le_of_ble_eq_true rfl⟩ ⟨Nat.le_of_ble_eq_true rfl, Nat.le_of_ble_eq_true rfl⟩ (Nat.le_of_ble_eq_true rfl) dX12_plain_94 rfl ?_
          refine e_istore_n X rfl dX12_plain_97 rfl (by decide) ?_
          refine e_iload_n X dX12_plain_98 rfl rfl ?_
          refine e_if_eq X 115 dX12_plain_99 (by decide) (fun c11 => ?_) (fun c11 => ?_)
          · skip
            rw [if_pos c11] at hF
            refine e_iload_n X dX12_plain_115 rfl rfl ?_
            refine e_iload_n X dX12_plain_116 rfl rfl ?_
            refine e_icmp_le X 124 dX12_plain_117 (by decide) (fun c12 => ?_) (fun c12 => ?_)
            · skip
              rw [if_neg c12] at hF
              refine e_iconst X 0 dX12_plain_124 rfl ?_
              exact e_zret X hr rfl dX12_plain_125 (Nat.le_of_ble_eq_true rfl) (Nat.le_of_ble_eq_true rfl) (by cases hF; exact ⟨rfl, rfl⟩)
            · skip
              rw [if_pos c12] at hF
              refine e_iconst X 1 dX12_plain_120 rfl ?_
              refine e_goto X 125 dX12_plain_121 (by decide) ?_
              exact e_zret X hr rfl dX12_plain_125 (Nat.le_of_ble_eq_true rfl) (Nat.le_of_ble_eq_true rfl) (by cases hF; exact ⟨rfl, rfl⟩)
          · skip
            rw [if_neg c11] at hF
            refine e_iload_n X dX12_plain_102 rfl rfl ?_
            refine e_iload_n X dX12_plain_103 rfl rfl ?_
            refine e_icmp_ge X 111 dX12_plain_104 (by decide) (fun c13 => ?_) (fun c13 => ?_)
            · skip
              rw [if_neg c13] at hF
              refine e_iconst X 0 dX12_plain_111 rfl ?_
              refine e_goto X 125 dX12_plain_112 (by decide) ?_
              exact e_zret X hr rfl dX12_plain_125 (Nat.le_of_ble_eq_true rfl) (Nat.le_of_ble_eq_true rfl) (by cases hF; exact ⟨rfl, rfl⟩)
            · skip
              rw [if_pos c13] at hF
              refine e_iconst X 1 dX12_plain_107 rfl ?_
              refine e_goto X 125 dX12_plain_108 (by decide) ?_
              exact e_zret X hr rfl dX12_plain_125 (Nat.le_of_ble_eq_true rfl) (Nat.le_of_ble_eq_true rfl) (by cases hF; exact ⟨rfl, rfl⟩)
        · skip
          rw [if_pos c8] at hF
          refine e_aload_n X dX12_plain_64 rfl rfl ?_
          refine e_bipush X 62 dX12_plain_65 rfl ?_
          obtain ⟨z14, h_z14, hF⟩ := obind_out hF
          refine e_callVi X (r := z14.2) (σ1 := z14.1) [.int 62] [] (C_M_isSign (Cx_gok X) z7.1 62 h_z14) gv_X12_184 yk_X12_isSign rfl (ent_lt (rfl : entTbl[333]? = some (13, 0))) (ent_at (rfl : entTbl[333]? = some (13, 0)) _) (rfl : vCl[11]? = some (RX12, TX12, 24)) ⟨Nat.le_of_ble_eq_true rfl, Nat.le_of_ble_eq_true rfl⟩ ⟨Nat.le_of_ble_eq_true rfl, Nat.le_of_ble_eq_true rfl⟩ (Nat.le_of_ble_eq_true rfl) dX12_plain_67 rfl ?_
          refine e_if_ne X 83 dX12_plain_70 (by decide) (fun c15 => ?_) (fun c15 => ?_)
          · skip
            rw [if_neg c15] at hF
            refine e_aload_n X dX12_plain_83 rfl rfl ?_
            refine e_dup X dX12_plain_84 rfl ?_
            refine ge_M_at X wf_X12_82 dX12_plain_85 ?_
            refine e_iconst X 1 dX12_plain_88 rfl ?_
            refine e_iadd X dX12_plain_89 ?_
            obtain ⟨σ16, h_σ16, hF⟩ := bindT_out hF
            refine pu_M_at X wf_X12_82 dX12_plain_90 h_σ16 ?_
            refine e_aload_n X dX12_plain_93 rfl rfl ?_
            obtain ⟨z17, h_z17, hF⟩ := obind_out hF
            refine e_callVi X (r := z17.2) (σ1 := z17.1) [] [] (C_M_sum (Cx_gok X) σ16 h_z17) gv_X12_225 yk_X12_sum rfl (ent_lt (rfl : entTbl[333]? = some (13, 0))) (ent_at (rfl : entTbl[333]? = some (13, 0)) _) (rfl : vCl[11]? = some (RX12, TX12, 24)) ⟨Nat.le_of_ble_eq_true rfl, Nat.le_of_ble_eq_true rfl⟩ ⟨Nat.le_of_ble_eq_true rfl, Nat.le_of_ble_eq_true rfl⟩ (Nat.le_of_ble_eq_true rfl) dX12_plain_94 rfl ?_
            refine e_istore_n X rfl dX12_plain_97 rfl (by decide) ?_
            refine e_iload_n X dX12_plain_98 rfl rfl ?_
            refine e_if_eq X 115 dX12_plain_99 (by decide) (fun c18 => ?_) (fun c18 => ?_)
            · skip
              rw [if_pos c18] at hF
              refine e_iload_n X dX12_plain_115 rfl rfl ?_
              refine e_iload_n X dX12_plain_116 rfl rfl ?_
              refine e_icmp_le X 124 dX12_plain_117 (by decide) (fun c19 => ?_) (fun c19 => ?_)
              · skip
                rw [if_neg c19] at hF
                refine e_iconst X 0 dX12_plain_124 rfl ?_
                exact e_zret X hr rfl dX12_plain_125 (Nat.le_of_ble_eq_true rfl) (Nat.le_of_ble_eq_true rfl) (by cases hF; exact ⟨rfl, rfl⟩)
              · skip
                rw [if_pos c19] at hF
                refine e_iconst X 1 dX12_plain_120 rfl ?_
                refine e_goto X 125 dX12_plain_121 (by decide) ?_
                exact e_zret X hr rfl dX12_plain_125 (Nat.le_of_ble_eq_true rfl) (Nat.le_of_ble_eq_true rfl) (by cases hF; exact ⟨rfl, rfl⟩)
            · skip
              rw [if_neg c18] at hF
              refine e_iload_n X dX12_plain_102 rfl rfl ?_
              refine e_iload_n X dX12_plain_103 rfl rfl ?_
              refine e_icmp_ge X 111 dX12_plain_104 (by decide) (fun c20 => ?_) (fun c20 => ?_)
              · skip
                rw [if_neg c20] at hF
                refine e_iconst X 0 dX12_plain_111 rfl ?_
                refine e_goto X 125 dX12_plain_112 (by decide) ?_
                exact e_zret X hr rfl dX12_plain_125 (Nat.le_of_ble_eq_true rfl) (Nat.le_of_ble_eq_true rfl) (by cases hF; exact ⟨rfl, rfl⟩)
              · skip
                rw [if_pos c20] at hF
                refine e_iconst X 1 dX12_plain_107 rfl ?_
                refine e_goto X 125 dX12_plain_108 (by decide) ?_
                exact e_zret X hr rfl dX12_plain_125 (Nat.le_of_ble_eq_true rfl) (Nat.le_of_ble_eq_true rfl) (by cases hF; exact ⟨rfl, rfl⟩)
          · skip
            rw [if_pos c15] at hF
            refine e_aload_n X dX12_plain_73 rfl rfl ?_
            refine e_aload_n X dX12_plain_74 rfl rfl ?_
            refine ge_M_at X wf_X12_82 dX12_plain_75 ?_
            obtain ⟨z21, h_z21, hF⟩ := bindT_out hF
            refine e_callVv X (σ1 := z21) [.int ((z14.1 333 11))] [] (by rw [h_z21]; exact C_M_wrong (Cx_gok X) z14.1 ((z14.1 333 11))) gv_X12_107 yk_X12_wrong rfl (ent_lt (rfl : entTbl[333]? = some (13, 0))) (ent_at (rfl : entTbl[333]? = some (13, 0)) _) (rfl : vCl[11]? = some (RX12, TX12, 24)) ⟨Nat.le_of_ble_eq_true rfl, Nat.le_of_ble_eq_true rfl⟩ ⟨Nat.le_of_ble_eq_true rfl, Nat.le_of_ble_eq_true rfl⟩ (Nat.le_of_ble_eq_true rfl) dX12_plain_78 rfl ?_
            refine e_iconst X 0 dX12_plain_81 rfl ?_
            exact e_zret X hr rfl dX12_plain_82 (Nat.le_of_ble_eq_true rfl) (Nat.le_of_ble_eq_true rfl) (by cases hF; exact ⟨rfl, rfl⟩)
      · skip
        rw [if_neg c6] at hF
        refine e_iconst X 0 dX12_plain_51 rfl ?_
        exact e_zret X hr rfl dX12_plain_52 (Nat.le_of_ble_eq_true rfl) (Nat.le_of_ble_eq_true rfl) (by cases hF; exact ⟨rfl, rfl⟩)
    · skip
      rw [if_neg c4] at hF
      refine e_aload_n X dX12_plain_33 rfl rfl ?_
      refine ge_M_isRich X wf_X12_221 dX12_plain_34 ?_
      exact e_zret X hr rfl dX12_plain_37 (Nat.le_of_ble_eq_true rfl) (Nat.le_of_ble_eq_true rfl) (by cases hF; exact ⟨rfl, rfl⟩)
  · skip
    rw [if_neg c2] at hF
    refine e_aload_n X dX12_plain_9 rfl rfl ?_
    refine ge_M_fact X wf_X12_29 dX12_plain_10 ?_
    refine e_iconst X 3 dX12_plain_13 rfl ?_
    refine e_iald X (j := 3) rfl rfl (vp_in_iff.mpr (by decide)) rfl dX12_plain_14 ?_
    refine e_if_le X 22 dX12_plain_15 (by decide) (fun c22 => ?_) (fun c22 => ?_)
    · skip
      rw [if_neg c22] at hF
      refine e_iconst X 0 dX12_plain_22 rfl ?_
      exact e_zret X hr rfl dX12_plain_23 (Nat.le_of_ble_eq_true rfl) (Nat.le_of_ble_eq_true rfl) (by cases hF; exact ⟨rfl, rfl⟩)
    · skip
      rw [if_pos c22] at hF
      refine e_iconst X 1 dX12_plain_18 rfl ?_
      refine e_goto X 23 dX12_plain_19 (by decide) ?_
      exact e_zret X hr rfl dX12_plain_23 (Nat.le_of_ble_eq_true rfl) (Nat.le_of_ble_eq_true rfl) (by cases hF; exact ⟨rfl, rfl⟩)
end PART

section PART
variable {p : Program} {l : Launch} {e : Env} {R : Room} {s : State} {m : MethodId} {args : Array Value} {below : List Frame} {meth : Method} {c : Code} {Γ : Gm} {D : va_G} {s0 : State} {cells slots : Nat} {Q : State → Prop} {own : String} {cc : ByteArray} {nL : Nat} {σ : Mem} {pc : Nat} {lv : List (Option Value)} {st : List Value} {Pst : Option Value → Mem → Prop}
def F_Look_valueOf (σ : Mem) (k : Nat) (v1 : Int32) : Int32 := (if v1 = 1000 then (σ k 0) else (if v1 = 1001 then (σ k 1) else (if v1 = 1002 then (σ k 2) else (if v1 = 1003 then (σ k 3) else (if v1 = 1004 then (σ k 4) else (if v1 = 1005 then ((σ k 5) - (σ k 5) / 12 * 12) else (if v1 = 1006 then (if 0 < (σ k 3) then 1 else 0) else (if v1 = 1007 then (if (σ k 6) = 0 then 0 else 1) else v1))))))))
def F_Look_passTime (σ : Mem) (k : Nat) : Mem := bindT (up σ k 1 (((σ k 1) + 1))) fun σ1 => bindT (up σ1 k 5 ((if ((σ1 k 5) + 1) < 9999 then ((σ1 k 5) + 1) else 9999))) fun σ2 => σ2
set_option maxRecDepth 20000 in
set_option maxHeartbeats 4000000 in
theorem C_Look_valueOf (hG : Gok l Γ D s0) (σ : Mem) (k : Nat) (v1 : Int32) (gk : isLook k) : CT l Γ D s0 yX4_valueOf cX4_valueOf 2 (some .int) (0) 0 0 (0) σ [.ref (Γ.1 + k), .int v1] (PI (some (.int (F_Look_valueOf σ k v1))) σ) := by
  generalize hF : F_Look_valueOf σ k v1 = out
  unfold F_Look_valueOf at hF
  refine e_met (own := RX4) hG (by decide +kernel) rfl rfl (Nat.le_of_ble_eq_true rfl) ?_
  intro p e s m args below meth c X hr
  show E p l e _ s m args below meth c Γ D 0 0 _ σ 0 [some (.ref (Γ.1 + k)), some (.int v1)] []
  refine e_iload_n X dX4_valueOf_0 rfl rfl ?_
  -- switch
  by_cases c1 : v1 = 1000
  · rw [if_pos c1] at hF
    refine e_tabIn X 48 1000 c1 dX4_valueOf_1 (by decide) (by decide) rfl (by decide) ?_
    refine e_aload_n X dX4_valueOf_48 rfl rfl ?_
    refine ge_Look_happy X gk wf_X4_9 dX4_valueOf_49 ?_
    exact e_iret X hr dX4_valueOf_52 (Nat.le_of_ble_eq_true rfl) (Nat.le_of_ble_eq_true rfl) (by cases hF; exact ⟨rfl, rfl⟩)
  · rw [if_neg c1] at hF
    by_cases c2 : v1 = 1001
    · rw [if_pos c2] at hF
      refine e_tabIn X 53 1001 c2 dX4_valueOf_1 (by decide) (by decide) rfl (by decide) ?_
      refine e_aload_n X dX4_valueOf_53 rfl rfl ?_
      refine ge_Look_months X gk wf_X4_15 dX4_valueOf_54 ?_
      exact e_iret X hr dX4_valueOf_57 (Nat.le_of_ble_eq_true rfl) (Nat.le_of_ble_eq_true rfl) (by cases hF; exact ⟨rfl, rfl⟩)
    · rw [if_neg c2] at hF
      by_cases c3 : v1 = 1002
      · rw [if_pos c3] at hF
        refine e_tabIn X 58 1002 c3 dX4_valueOf_1 (by decide) (by decide) rfl (by decide) ?_
        refine e_aload_n X dX4_valueOf_58 rfl rfl ?_
        refine ge_Look_quarrel X gk wf_X4_18 dX4_valueOf_59 ?_
        exact e_iret X hr dX4_valueOf_62 (Nat.le_of_ble_eq_true rfl) (Nat.le_of_ble_eq_true rfl) (by cases hF; exact ⟨rfl, rfl⟩)
      · rw [if_neg c3] at hF
        by_cases c4 : v1 = 1003
        · rw [if_pos c4] at hF
          refine e_tabIn X 63 1003 c4 dX4_valueOf_1 (by decide) (by decide) rfl (by decide) ?_
          refine e_aload_n X dX4_valueOf_63 rfl rfl ?_
          refine ge_Look_insurers X gk wf_X4_21 dX4_valueOf_64 ?_
          exact e_iret X hr dX4_valueOf_67 (Nat.le_of_ble_eq_true rfl) (Nat.le_of_ble_eq_true rfl) (by cases hF; exact ⟨rfl, rfl⟩)
        · rw [if_neg c4] at hF
          by_cases c5 : v1 = 1004
          · rw [if_pos c5] at hF
            refine e_tabIn X 68 1004 c5 dX4_valueOf_1 (by decide) (by decide) rfl (by decide) ?_
            refine e_aload_n X dX4_valueOf_68 rfl rfl ?_
            refine ge_Look_liking X gk wf_X4_24 dX4_valueOf_69 ?_
            exact e_iret X hr dX4_valueOf_72 (Nat.le_of_ble_eq_true rfl) (Nat.le_of_ble_eq_true rfl) (by cases hF; exact ⟨rfl, rfl⟩)
          · rw [if_neg c5] at hF
            by_cases c6 : v1 = 1005
            · rw [if_pos c6] at hF
              refine e_tabIn X 73 1005 c6 dX4_valueOf_1 (by decide) (by decide) rfl (by decide) ?_
              refine e_aload_n X dX4_valueOf_73 rfl rfl ?_
              refine ge_Look_month X gk wf_X4_27 dX4_valueOf_74 ?_
              refine e_bipush X 12 dX4_valueOf_77 rfl ?_
              refine e_irem X dX4_valueOf_79 (by decide) ?_
              exact e_iret X hr dX4_valueOf_80 (Nat.le_of_ble_eq_true rfl) (Nat.le_of_ble_eq_true rfl) (by cases hF; exact ⟨rfl, rfl⟩)
            · rw [if_neg c6] at hF
              by_cases c7 : v1 = 1006
              · rw [if_pos c7] at hF
                refine e_tabIn X 81 1006 c7 dX4_valueOf_1 (by decide) (by decide) rfl (by decide) ?_
                refine e_aload_n X dX4_valueOf_81 rfl rfl ?_
                refine ge_Look_insurers X gk wf_X4_21 dX4_valueOf_82 ?_
                refine e_if_le X 92 dX4_valueOf_85 (by decide) (fun c8 => ?_) (fun c8 => ?_)
                · skip
                  rw [if_neg c8] at hF
                  refine e_iconst X 0 dX4_valueOf_92 rfl ?_
                  exact e_iret X hr dX4_valueOf_93 (Nat.le_of_ble_eq_true rfl) (Nat.le_of_ble_eq_true rfl) (by cases hF; exact ⟨rfl, rfl⟩)
                · skip
                  rw [if_pos c8] at hF
                  refine e_iconst X 1 dX4_valueOf_88 rfl ?_
                  refine e_goto X 93 dX4_valueOf_89 (by decide) ?_
                  exact e_iret X hr dX4_valueOf_93 (Nat.le_of_ble_eq_true rfl) (Nat.le_of_ble_eq_true rfl) (by cases hF; exact ⟨rfl, rfl⟩)
              · rw [if_neg c7] at hF
                by_cases c9 : v1 = 1007
                · rw [if_pos c9] at hF
                  refine e_tabIn X 94 1007 c9 dX4_valueOf_1 (by decide) (by decide) rfl (by decide) ?_
                  refine e_aload_n X dX4_valueOf_94 rfl rfl ?_
                  refine ge_Look_rich X gk wf_X4_30 dX4_valueOf_95 ?_
                  refine e_if_eq X 105 dX4_valueOf_98 (by decide) (fun c10 => ?_) (fun c10 => ?_)
                  · skip
                    rw [if_pos c10] at hF
                    refine e_iconst X 0 dX4_valueOf_105 rfl ?_
                    exact e_iret X hr dX4_valueOf_106 (Nat.le_of_ble_eq_true rfl) (Nat.le_of_ble_eq_true rfl) (by cases hF; exact ⟨rfl, rfl⟩)
                  · skip
                    rw [if_neg c10] at hF
                    refine e_iconst X 1 dX4_valueOf_101 rfl ?_
                    refine e_goto X 106 dX4_valueOf_102 (by decide) ?_
                    exact e_iret X hr dX4_valueOf_106 (Nat.le_of_ble_eq_true rfl) (Nat.le_of_ble_eq_true rfl) (by cases hF; exact ⟨rfl, rfl⟩)
                · rw [if_neg c9] at hF
                  refine e_tabOut X 107 (by have n_c1 : ¬ (v1 : Int32).toInt = 1000 := lv_neT c1 rfl; have n_c2 : ¬ (v1 : Int32).toInt = 1001 := lv_neT c2 rfl; have n_c3 : ¬ (v1 : Int32).toInt = 1002 := lv_neT c3 rfl; have n_c4 : ¬ (v1 : Int32).toInt = 1003 := lv_neT c4 rfl; have n_c5 : ¬ (v1 : Int32).toInt = 1004 := lv_neT c5 rfl; have n_c6 : ¬ (v1 : Int32).toInt = 1005 := lv_neT c6 rfl; have n_c7 : ¬ (v1 : Int32).toInt = 1006 := lv_neT c7 rfl; have n_c9 : ¬ (v1 : Int32).toInt = 1007 := lv_neT c9 rfl; omega) dX4_valueOf_1 (by decide) ?_
                  refine e_iload_n X dX4_valueOf_107 rfl rfl ?_
                  exact e_iret X hr dX4_valueOf_108 (Nat.le_of_ble_eq_true rfl) (Nat.le_of_ble_eq_true rfl) (by cases hF; exact ⟨rfl, rfl⟩)
set_option maxRecDepth 20000 in
set_option maxHeartbeats 4000000 in
theorem C_Look_passTime (hG : Gok l Γ D s0) (σ : Mem) (k : Nat) (gk : isLook k) : CT l Γ D s0 yX4_passTime cX4_passTime 1 none (1) 0 0 (14) σ [.ref (Γ.1 + k)] (PI none (F_Look_passTime σ k)) := by
  generalize hF : F_Look_passTime σ k = out
  unfold F_Look_passTime at hF
  refine e_met (own := RX4) hG (by decide +kernel) rfl rfl (Nat.le_of_ble_eq_true rfl) ?_
  intro p e s m args below meth c X hr
  show E p l e _ s m args below meth c Γ D 0 0 _ σ 0 [some (.ref (Γ.1 + k))] []
  refine e_aload_n X dX4_passTime_0 rfl rfl ?_
  refine e_dup X dX4_passTime_1 rfl ?_
  refine ge_Look_months X gk wf_X4_15 dX4_passTime_2 ?_
  refine e_iconst X 1 dX4_passTime_5 rfl ?_
  refine e_iadd X dX4_passTime_6 ?_
  obtain ⟨σ1, h_σ1, hF⟩ := bindT_out hF
  refine pu_Look_months X gk wf_X4_15 dX4_passTime_7 h_σ1 ?_
  refine e_aload_n X dX4_passTime_10 rfl rfl ?_
  refine e_sipush X 9999 dX4_passTime_11 rfl ?_
  refine e_aload_n X dX4_passTime_14 rfl rfl ?_
  refine ge_Look_month X gk wf_X4_27 dX4_passTime_15 ?_
  refine e_iconst X 1 dX4_passTime_18 rfl ?_
  refine e_iadd X dX4_passTime_19 ?_
  refine e_mmin X wMl_X4_48 wMs_min wMi wMc_min (Nat.le_of_ble_eq_true rfl) (Nat.le_of_ble_eq_true rfl) (Nat.le_of_ble_eq_true rfl) (Nat.le_of_ble_eq_true rfl) dX4_passTime_20 ?_
  obtain ⟨σ2, h_σ2, hF⟩ := bindT_out hF
  refine pu_Look_month X gk wf_X4_27 dX4_passTime_23 h_σ2 ?_
  exact e_vret X hr dX4_passTime_26 (Nat.le_of_ble_eq_true rfl) (Nat.le_of_ble_eq_true rfl) (by cases hF; exact ⟨rfl, rfl⟩)
end PART

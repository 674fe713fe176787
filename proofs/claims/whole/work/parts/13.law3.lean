section PART
variable {p : Program} {l : Launch} {e : Env} {R : Room} {s : State} {m : MethodId} {args : Array Value} {below : List Frame} {meth : Method} {c : Code} {Γ : Gm} {D : va_G} {s0 : State} {cells slots : Nat} {Q : State → Prop} {own : String} {cc : ByteArray} {nL : Nat} {σ : Mem} {pc : Nat} {lv : List (Option Value)} {st : List Value} {Pst : Option Value → Mem → Prop}
def F_Look_happyTurned (σ : Mem) (k : Nat) (w1 : Nat) : Option (Mem × Int32) := obind (F_Law_turnsBy σ w1 k) fun z1 => some ((z1.1, (F_W_happyWithin z1.1 (((σ k 0) + z1.2)))))
def F_Look_happyBehindMonth (σ : Mem) (k : Nat) (w1 : Nat) : Option (Mem × Int32) := (if (σ k 0) = 0 then some ((σ, 0)) else obind (F_Look_happyTurned σ k w1) fun z2 => some ((z2.1, z2.2)))
set_option maxRecDepth 20000 in
set_option maxHeartbeats 4000000 in
theorem C_Look_happyTurned (hG : Gok l Γ D s0) (σ : Mem) (k : Nat) (w1 : Nat) (gk : isLook k) (gw1 : isLaw w1) {out : Mem × Int32} (hF : F_Look_happyTurned σ k w1 = some out) : CT l Γ D s0 yX4_happyTurned cX4_happyTurned 2 (some .int) (3) 0 0 (73) σ [.ref (Γ.1 + k), .ref (Γ.1 + w1)] (PI (some (.int out.2)) out.1) := by
  unfold F_Look_happyTurned at hF
  refine e_met (own := RX4) hG (by decide +kernel) rfl rfl (Nat.le_of_ble_eq_true rfl) ?_
  intro p e s m args below meth c X hr
  show E p l e _ s m args below meth c Γ D 0 0 _ σ 0 [some (.ref (Γ.1 + k)), some (.ref (Γ.1 + w1))] []
  refine e_aload_n X dX4_happyTurned_0 rfl rfl ?_
  refine ge_Look_happy X gk wf_X4_9 dX4_happyTurned_1 ?_
  refine e_aload_n X dX4_happyTurned_4 rfl rfl ?_
  refine e_aload_n X dX4_happyTurned_5 rfl rfl ?_
  obtain ⟨z1, h_z1, hF⟩ := obind_out hF
  refine e_callVi X (r := z1.2) (σ1 := z1.1) [.ref (Γ.1 + k)] [.int ((σ k 0))] (C_Law_turnsBy (Cx_gok X) σ w1 k gw1 gk h_z1) gv_X4_34 yk_X2_turnsBy rfl (ent_lt gw1.1) (ent_at gw1.1 _) (rfl : vCl[2]? = some (RX2, TX2, 6)) ⟨Nat.le_of_ble_eq_true rfl, Nat.le_of_ble_eq_true rfl⟩ ⟨Nat.le_of_ble_eq_true rfl, Nat.le_of_ble_eq_true rfl⟩ (Nat.le_of_ble_eq_true rfl) dX4_happyTurned_6 rfl ?_
  refine e_iadd X dX4_happyTurned_9 ?_
  refine e_callSNi X (r := (F_W_happyWithin z1.1 (((σ k 0) + z1.2)))) (σ1 := z1.1) (host := RX11) [.int (((σ k 0) + z1.2))] [] (C_W_happyWithin (Cx_gok X) z1.1 (((σ k 0) + z1.2))) gb_X11_happyWithin (by decide +kernel) wz_X11 ws_X11_happyWithin yk_X11_happyWithin.2 rfl ⟨Nat.le_of_ble_eq_true rfl, Nat.le_of_ble_eq_true rfl⟩ ⟨Nat.le_of_ble_eq_true rfl, Nat.le_of_ble_eq_true rfl⟩ (Nat.le_of_ble_eq_true rfl) dX4_happyTurned_10 rfl ?_
  exact e_iret X hr dX4_happyTurned_13 (Nat.le_of_ble_eq_true rfl) (Nat.le_of_ble_eq_true rfl) (by cases hF; exact ⟨rfl, rfl⟩)
set_option maxRecDepth 20000 in
set_option maxHeartbeats 4000000 in
theorem C_Look_happyBehindMonth (hG : Gok l Γ D s0) (σ : Mem) (k : Nat) (w1 : Nat) (gk : isLook k) (gw1 : isLaw w1) {out : Mem × Int32} (hF : F_Look_happyBehindMonth σ k w1 = some out) : CT l Γ D s0 yX4_happyBehindMonth cX4_happyBehindMonth 2 (some .int) (4) 0 0 (94) σ [.ref (Γ.1 + k), .ref (Γ.1 + w1)] (PI (some (.int out.2)) out.1) := by
  unfold F_Look_happyBehindMonth at hF
  refine e_met (own := RX4) hG (by decide +kernel) rfl rfl (Nat.le_of_ble_eq_true rfl) ?_
  intro p e s m args below meth c X hr
  show E p l e _ s m args below meth c Γ D 0 0 _ σ 0 [some (.ref (Γ.1 + k)), some (.ref (Γ.1 + w1))] []
  refine e_aload_n X dX4_happyBehindMonth_0 rfl rfl ?_
  refine ge_Look_happy X gk wf_X4_9 dX4_happyBehindMonth_1 ?_
  refine e_if_ne X 11 dX4_happyBehindMonth_4 (by decide) (fun c1 => ?_) (fun c1 => ?_)
  · skip
    rw [if_neg c1] at hF
    refine e_aload_n X dX4_happyBehindMonth_11 rfl rfl ?_
    refine e_aload_n X dX4_happyBehindMonth_12 rfl rfl ?_
    obtain ⟨z2, h_z2, hF⟩ := obind_out hF
    refine e_callVi X (r := z2.2) (σ1 := z2.1) [.ref (Γ.1 + w1)] [] (C_Look_happyTurned (Cx_gok X) σ k w1 gk gw1 h_z2) gv_X4_44 yk_X4_happyTurned rfl (ent_lt gk) (ent_at gk _) (rfl : vCl[4]? = some (RX4, TX4, 7)) ⟨Nat.le_of_ble_eq_true rfl, Nat.le_of_ble_eq_true rfl⟩ ⟨Nat.le_of_ble_eq_true rfl, Nat.le_of_ble_eq_true rfl⟩ (Nat.le_of_ble_eq_true rfl) dX4_happyBehindMonth_13 rfl ?_
    exact e_iret X hr dX4_happyBehindMonth_16 (Nat.le_of_ble_eq_true rfl) (Nat.le_of_ble_eq_true rfl) (by cases hF; exact ⟨rfl, rfl⟩)
  · skip
    rw [if_pos c1] at hF
    refine e_iconst X 0 dX4_happyBehindMonth_7 rfl ?_
    refine e_goto X 16 dX4_happyBehindMonth_8 (by decide) ?_
    exact e_iret X hr dX4_happyBehindMonth_16 (Nat.le_of_ble_eq_true rfl) (Nat.le_of_ble_eq_true rfl) (by cases hF; exact ⟨rfl, rfl⟩)
end PART

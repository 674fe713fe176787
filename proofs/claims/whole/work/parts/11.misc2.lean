section PART
variable {p : Program} {l : Launch} {e : Env} {R : Room} {s : State} {m : MethodId} {args : Array Value} {below : List Frame} {meth : Method} {c : Code} {Γ : Gm} {D : va_G} {s0 : State} {cells slots : Nat} {Q : State → Prop} {own : String} {cc : ByteArray} {nL : Nat} {σ : Mem} {pc : Nat} {lv : List (Option Value)} {st : List Value} {Pst : Option Value → Mem → Prop}
def F_W_contains (σ : Mem) (v0 : Int32) (v1 : Int32) : Int32 := (if (((v0 : Int32) >>> ((v1 : Int32) &&& 31)) &&& 1) = 0 then 0 else 1)
def F_W_happyWithin (σ : Mem) (v0 : Int32) : Int32 := (if 0 < (if v0 < 99 then v0 else 99) then (if v0 < 99 then v0 else 99) else 0)
set_option maxRecDepth 20000 in
set_option maxHeartbeats 4000000 in
theorem C_W_contains (hG : Gok l Γ D s0) (σ : Mem) (v0 : Int32) (v1 : Int32)  : CT l Γ D s0 yX11_contains cX11_contains 2 (some .boolean) (0) 0 0 (0) σ [.int v0, .int v1] (PI (some (.int (F_W_contains σ v0 v1))) σ) := by
  generalize hF : F_W_contains σ v0 v1 = out
  unfold F_W_contains at hF
  refine e_met (own := RX11) hG (by decide +kernel) rfl rfl (Nat.le_of_ble_eq_true rfl) ?_
  intro p e s m args below meth c X hr
  show E p l e _ s m args below meth c Γ D 0 0 _ σ 0 [some (.int v0), some (.int v1)] []
  refine e_iload_n X dX11_contains_0 rfl rfl ?_
  refine e_iload_n X dX11_contains_1 rfl rfl ?_
  refine e_ishr X dX11_contains_2 ?_
  refine e_iconst X 1 dX11_contains_3 rfl ?_
  refine e_iand X dX11_contains_4 ?_
  refine e_if_eq X 12 dX11_contains_5 (by decide) (fun c1 => ?_) (fun c1 => ?_)
  · skip
    rw [if_pos c1] at hF
    refine e_iconst X 0 dX11_contains_12 rfl ?_
    exact e_zret X hr rfl dX11_contains_13 (Nat.le_of_ble_eq_true rfl) (Nat.le_of_ble_eq_true rfl) (by cases hF; exact ⟨rfl, rfl⟩)
  · skip
    rw [if_neg c1] at hF
    refine e_iconst X 1 dX11_contains_8 rfl ?_
    refine e_goto X 13 dX11_contains_9 (by decide) ?_
    exact e_zret X hr rfl dX11_contains_13 (Nat.le_of_ble_eq_true rfl) (Nat.le_of_ble_eq_true rfl) (by cases hF; exact ⟨rfl, rfl⟩)
set_option maxRecDepth 20000 in
set_option maxHeartbeats 4000000 in
theorem C_W_happyWithin (hG : Gok l Γ D s0) (σ : Mem) (v0 : Int32)  : CT l Γ D s0 yX11_happyWithin cX11_happyWithin 1 (some .int) (1) 0 0 (14) σ [.int v0] (PI (some (.int (F_W_happyWithin σ v0))) σ) := by
  generalize hF : F_W_happyWithin σ v0 = out
  unfold F_W_happyWithin at hF
  refine e_met (own := RX11) hG (by decide +kernel) rfl rfl (Nat.le_of_ble_eq_true rfl) ?_
  intro p e s m args below meth c X hr
  show E p l e _ s m args below meth c Γ D 0 0 _ σ 0 [some (.int v0)] []
  refine e_iconst X 0 dX11_happyWithin_0 rfl ?_
  refine e_bipush X 99 dX11_happyWithin_1 rfl ?_
  refine e_iload_n X dX11_happyWithin_3 rfl rfl ?_
  refine e_mmin X wMl_X11_365 wMs_min wMi wMc_min (Nat.le_of_ble_eq_true rfl) (Nat.le_of_ble_eq_true rfl) (Nat.le_of_ble_eq_true rfl) (Nat.le_of_ble_eq_true rfl) dX11_happyWithin_4 ?_
  refine e_mmax X wMl_X11_360 wMs_max wMi wMc_max (Nat.le_of_ble_eq_true rfl) (Nat.le_of_ble_eq_true rfl) (Nat.le_of_ble_eq_true rfl) (Nat.le_of_ble_eq_true rfl) dX11_happyWithin_7 ?_
  exact e_iret X hr dX11_happyWithin_10 (Nat.le_of_ble_eq_true rfl) (Nat.le_of_ble_eq_true rfl) (by cases hF; exact ⟨rfl, rfl⟩)
end PART

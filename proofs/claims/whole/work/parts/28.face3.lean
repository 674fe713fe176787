section PART
variable {p : Program} {l : Launch} {e : Env} {R : Room} {s : State} {m : MethodId} {args : Array Value} {below : List Frame} {meth : Method} {c : Code} {Γ : Gm} {D : va_G} {s0 : State} {cells slots : Nat} {Q : State → Prop} {own : String} {cc : ByteArray} {nL : Nat} {σ : Mem} {pc : Nat} {lv : List (Option Value)} {st : List Value} {Pst : Option Value → Mem → Prop}
def F_W_would (σ : Mem) (v1 : Int32) (v2 : Int32) : String ⊕ (Int32) := sumE (F_W_checkTwo σ v1 v2) (fun e2 => (Sum.inl e2)) (fun o1 => (Sum.inr ((F_Town_insurersOfPair σ 3 v1 v2))))
def F_W_best (σ : Mem) (v1 : Int32) : String ⊕ (Int32) := sumE (F_W_checkPerson σ v1) (fun e2 => (Sum.inl e2)) (fun o1 => (Sum.inr ((F_Prs_bestFor σ 3 v1))))
def F_W_next (σ : Mem) (v1 : Int32) (v2 : Int32) : Option ((String × Mem) ⊕ (Mem × Int32)) := sumE (F_W_checkMatch σ v1) (fun e2 => some (Sum.inl (e2, σ))) (fun o1 => sumE (F_W_checkQuarrel σ v2) (fun e5 => some (Sum.inl (e5, σ))) (fun o4 => (if (F_Town_isOver σ 3 v1) = 0 then obind (F_For_happyNext σ 3 20 v1 v2) fun z8 => some ((Sum.inr ((z8.1, z8.2)))) else some ((Sum.inr ((σ, 0)))))))
def F_W_ahead (σ : Mem) (v1 : Int32) (v2 : Int32) (v3 : Int32) : Option ((String × Mem) ⊕ (Mem × Int32)) := sumE (F_W_checkMatch σ v1) (fun e2 => some (Sum.inl (e2, σ))) (fun o1 => sumE (F_W_checkNumber σ v2 0 40) (fun e5 => some (Sum.inl (e5, σ))) (fun o4 => sumE (F_W_checkQuarrel σ v3) (fun e8 => some (Sum.inl (e8, σ))) (fun o7 => (if (F_Town_isOver σ 3 v1) = 0 then obind (F_For_happyAhead σ 3 20 v1 v2 v3) fun z11 => some ((Sum.inr ((z11.1, z11.2)))) else some ((Sum.inr ((σ, 0))))))))
def F_W_first (σ : Mem) (v1 : Int32) (v2 : Int32) : Option ((String × Mem) ⊕ (Mem × Int32)) := sumE (F_W_checkMatch σ v1) (fun e2 => some (Sum.inl (e2, σ))) (fun o1 => sumE (F_W_checkQuarrel σ v2) (fun e5 => some (Sum.inl (e5, σ))) (fun o4 => (if (F_Town_isOver σ 3 v1) = 0 then obind (F_For_firstClaim σ 3 20 v1 v2) fun z8 => some ((Sum.inr ((z8.1, z8.2)))) else some ((Sum.inr ((σ, (-1))))))))
def F_W_odds (σ : Mem) (v1 : Int32) : Option ((String × Mem) ⊕ (Mem × Int32)) := sumE (F_W_checkMatch σ v1) (fun e2 => some (Sum.inl (e2, σ))) (fun o1 => (if (F_Town_isOver σ 3 v1) = 0 then obind (F_For_claimQuarrels σ 3 20 v1) fun z5 => some ((Sum.inr ((z5.1, z5.2)))) else some ((Sum.inr ((σ, 0))))))
def F_W_gifts (σ : Mem) (v1 : Int32) (v2 : Int32) (v3 : Int32) : Option ((String × Mem) ⊕ (Mem × Int32)) := sumE (F_W_checkMatch σ v1) (fun e2 => some (Sum.inl (e2, σ))) (fun o1 => sumE (F_W_checkNumber σ v2 1 20) (fun e5 => some (Sum.inl (e5, σ))) (fun o4 => sumE (F_W_checkQuarrel σ v3) (fun e8 => some (Sum.inl (e8, σ))) (fun o7 => (if (F_Town_isOver σ 3 v1) = 0 then obind (F_For_fewestGifts σ 3 20 v1 v2 v3) fun z11 => some ((Sum.inr ((z11.1, z11.2)))) else some ((Sum.inr ((σ, (-1)))))))))
def F_W_loses (σ : Mem) (v1 : Int32) : Option ((String × Mem) ⊕ (Mem × Int32)) := sumE (F_W_checkPerson σ v1) (fun e2 => some (Sum.inl (e2, σ))) (fun o1 => obind (F_For_lossOf σ 3 v1) fun z4 => some ((Sum.inr ((z4.1, z4.2)))))
def F_W_holds (σ : Mem) (v1 : Int32) : Option ((String × Mem) ⊕ (Mem × Int32)) := sumE (F_W_checkPerson σ v1) (fun e2 => some (Sum.inl (e2, σ))) (fun o1 => obind (F_For_leastWealth σ 3 v1) fun z4 => some ((Sum.inr ((z4.1, z4.2)))))
def F_W_ring (σ : Mem) (v1 : Int32) : Option (String ⊕ (Int32)) := sumE (F_W_checkPerson σ v1) (fun e2 => some (Sum.inl e2)) (fun o1 => obind (F_Town_ringSteps σ 3 v1) fun z4 => some ((Sum.inr z4)))
def F_W_leans (σ : Mem) (v1 : Int32) : Option (String ⊕ (Int32)) := sumE (F_W_checkPerson σ v1) (fun e2 => some (Sum.inl e2)) (fun o1 => obind (F_Town_leaners σ 3 v1) fun z4 => some ((Sum.inr z4)))
def F_W_rather (σ : Mem) (v1 : Int32) : String ⊕ (Int32) := sumE (F_W_checkPerson σ v1) (fun e2 => (Sum.inl e2)) (fun o1 => (Sum.inr ((F_Prs_preferred σ 3 v1))))
def F_W_steady (σ : Mem) (v1 : Int32) : Option ((String × Mem) ⊕ (Mem × Int32)) := (if v1 = (-1) then obind (F_Prs_steadyWays σ 3) fun z6 => some ((Sum.inr ((z6.1, z6.2)))) else sumE (F_W_checkPerson σ v1) (fun e3 => some (Sum.inl (e3, σ))) (fun o2 => obind (F_Prs_steadyPartner σ 3 v1) fun z5 => some ((Sum.inr ((z5.1, z5.2))))))
def F_W_anniversary (σ : Mem) (v1 : Int32) : Option ((String × Mem) ⊕ (Mem × Int32)) := obind (F_W_readTold σ) fun z1 => sumE z1 (fun e3 => some (Sum.inl e3)) (fun o2 => (if v1 = 0 then obind (F_Told_fitting o2) fun z6 => some ((Sum.inr ((z6.1, z6.2)))) else obind (F_Told_inAll o2) fun z7 => some ((Sum.inr ((z7.1, z7.2))))))
def F_W_dance (σ : Mem)  : Option ((String × Mem) ⊕ (Mem × Int32)) := obind (F_W_readTold σ) fun z1 => sumE z1 (fun e3 => some (Sum.inl e3)) (fun o2 => obind (F_Told_bestParter o2) fun z5 => some ((Sum.inr ((z5.1, z5.2)))))
def F_W_trial (σ : Mem) (v1 : Int32) (v2 : Int32) : Option ((String × Mem) ⊕ (Mem × Int32)) := sumE (F_W_checkNumber σ v1 0 40) (fun e2 => some (Sum.inl (e2, σ))) (fun o1 => obind (F_For_tryMonths σ 3 20 v1 ((σ 3 17))) fun z4 => (if v2 = 0 then some ((Sum.inr ((z4.1, z4.2)))) else some ((Sum.inr ((z4.1, (F_For_ruinedInTrial z4.1)))))))
def F_W_span_29_b (v1 : Int32) (v2 : Int32) (v4 : Int32) (v3 : Int32) (σ : Mem) : Option (Int32 × Mem) := obind (F_For_tryMonths σ 3 20 v1 v4) fun z6 => (if v2 = 0 then bindT ((if z6.2 < v3 then z6.2 else v3)) fun x8 => some ((x8, z6.1)) else bindT ((if v3 < z6.2 then z6.2 else v3)) fun x9 => some ((x9, z6.1)))
def F_W_span (σ : Mem) (v1 : Int32) (v2 : Int32) : Option ((String × Mem) ⊕ (Mem × Int32)) := sumE (F_W_checkNumber σ v1 0 40) (fun e2 => some (Sum.inl (e2, σ))) (fun o1 => obind (F_For_tryMonths σ 3 20 v1 1) fun z4 => obind (forSO (fun i s => F_W_span_29_b v1 v2 i s.1 s.2) (cle 2 6) 2 (z4.2, z4.1)) fun z11 => some ((Sum.inr ((z11.2, z11.1)))))
def F_W_led (σ : Mem) (v1 : Int32) (v2 : Int32) : String ⊕ (Int32) := sumE (F_W_checkMatch σ v1) (fun e2 => (Sum.inl e2)) (fun o1 => (if v2 = 0 then (Sum.inr ((F_Town_loggedClaims σ 3 v1))) else (Sum.inr ((F_Town_loggedPaid σ 3 v1)))))
def F_W_log (σ : Mem) (v1 : Int32) (v2 : Int32) : String ⊕ (Int32) := (if v2 < 0 then (Sum.inl "java/util/NoSuchElementException") else (if v2 < 4 then (if v1 < 0 then (Sum.inr ((-1))) else (if v1 < (F_Town_logRows σ 3) then (Sum.inr ((F_Town_logged σ 3 v1 v2))) else (Sum.inr ((-1))))) else (Sum.inl "java/util/NoSuchElementException")))
set_option maxRecDepth 20000 in
set_option maxHeartbeats 4000000 in
theorem C_W_would (hG : Gok l Γ D s0) (σ : Mem) (v1 : Int32) (v2 : Int32)  : CX l Γ D s0 yX11_would cX11_would 3 (some .int) 8 3 18 125 σ [.ref (Γ.1 + 0), .int v1, .int v2] (PXv σ (F_W_would σ v1 v2)) (XXn σ (F_W_would σ v1 v2)) := by
  generalize hF : F_W_would σ v1 v2 = out
  unfold F_W_would at hF
  refine e_xmet (own := RX11) hG (by decide +kernel) rfl rfl (Nat.le_of_ble_eq_true rfl) ?_
  intro p e s m args below meth c X hex hr
  show E p l e _ s m args below meth c Γ D 0 0 _ σ 0 [some (.ref (Γ.1 + 0)), some (.int v1), some (.int v2)] []
  refine e_aload_n X dX11_would_0 rfl rfl ?_
  refine e_iload_n X dX11_would_1 rfl rfl ?_
  refine e_iload_n X dX11_would_2 rfl rfl ?_
  refine e_xcallVn X hex (F_W_checkTwo σ v1 v2) [.int v1, .int v2] [] (C_W_checkTwo (Cx_gok X) σ v1 v2) gv_X11_180 yk_X11_checkTwo rfl (ent_lt (rfl : entTbl[0]? = some (0, 0))) (ent_at (rfl : entTbl[0]? = some (0, 0)) _) (rfl : vCl[10]? = some (RX11, TX11, 17)) ⟨Nat.le_of_ble_eq_true rfl, Nat.le_of_ble_eq_true rfl⟩ ⟨Nat.le_of_ble_eq_true rfl, Nat.le_of_ble_eq_true rfl⟩ ⟨Nat.le_of_ble_eq_true rfl, Nat.le_of_ble_eq_true rfl⟩ (Nat.le_of_ble_eq_true rfl) dX11_would_3 rfl (fun o1 hz3 => ?_) (fun e2 hz3 => ?_)
  · skip
    rw [hz3, sumE_inr] at hF
    refine e_aload_n X dX11_would_6 rfl rfl ?_
    refine ge_W_town X wf_X11_21 dX11_would_7 ?_
    refine e_iload_n X dX11_would_10 rfl rfl ?_
    refine e_iload_n X dX11_would_11 rfl rfl ?_
    refine e_callVi X (r := (F_Town_insurersOfPair σ 3 v1 v2)) (σ1 := σ) [.int v1, .int v2] [] (C_Town_insurersOfPair (Cx_gok X) σ 3 v1 v2 ok_Town_3) gv_X11_263 yk_X9_insurersOfPair rfl (ent_lt ok_Town_3.1) (ent_at ok_Town_3.1 _) (rfl : vCl[8]? = some (RX9, TX9, 20)) ⟨Nat.le_of_ble_eq_true rfl, Nat.le_of_ble_eq_true rfl⟩ ⟨Nat.le_of_ble_eq_true rfl, Nat.le_of_ble_eq_true rfl⟩ (Nat.le_of_ble_eq_true rfl) dX11_would_12 rfl ?_
    exact e_xr (e_iret X hr dX11_would_15 (Nat.le_of_ble_eq_true rfl) (Nat.le_of_ble_eq_true rfl) (by cases hF; exact ⟨_, rfl, rfl, rfl⟩))
  · skip
    rw [hz3, sumE_inl] at hF
    cases hF; exact ⟨rfl, rfl⟩
set_option maxRecDepth 20000 in
set_option maxHeartbeats 4000000 in
theorem C_W_best (hG : Gok l Γ D s0) (σ : Mem) (v1 : Int32)  : CX l Γ D s0 yX11_best cX11_best 2 (some .int) 7 1 6 109 σ [.ref (Γ.1 + 0), .int v1] (PXv σ (F_W_best σ v1)) (XXn σ (F_W_best σ v1)) := by
  generalize hF : F_W_best σ v1 = out
  unfold F_W_best at hF
  refine e_xmet (own := RX11) hG (by decide +kernel) rfl rfl (Nat.le_of_ble_eq_true rfl) ?_
  intro p e s m args below meth c X hex hr
  show E p l e _ s m args below meth c Γ D 0 0 _ σ 0 [some (.ref (Γ.1 + 0)), some (.int v1)] []
  refine e_aload_n X dX11_best_0 rfl rfl ?_
  refine e_iload_n X dX11_best_1 rfl rfl ?_
  refine e_xcallVn X hex (F_W_checkPerson σ v1) [.int v1] [] (C_W_checkPerson (Cx_gok X) σ v1) gv_X11_146 yk_X11_checkPerson rfl (ent_lt (rfl : entTbl[0]? = some (0, 0))) (ent_at (rfl : entTbl[0]? = some (0, 0)) _) (rfl : vCl[10]? = some (RX11, TX11, 17)) ⟨Nat.le_of_ble_eq_true rfl, Nat.le_of_ble_eq_true rfl⟩ ⟨Nat.le_of_ble_eq_true rfl, Nat.le_of_ble_eq_true rfl⟩ ⟨Nat.le_of_ble_eq_true rfl, Nat.le_of_ble_eq_true rfl⟩ (Nat.le_of_ble_eq_true rfl) dX11_best_2 rfl (fun o1 hz3 => ?_) (fun e2 hz3 => ?_)
  · skip
    rw [hz3, sumE_inr] at hF
    refine e_aload_n X dX11_best_5 rfl rfl ?_
    refine ge_W_pairs X wf_X11_73 dX11_best_6 ?_
    refine e_aload_n X dX11_best_9 rfl rfl ?_
    refine ge_W_town X wf_X11_21 dX11_best_10 ?_
    refine e_iload_n X dX11_best_13 rfl rfl ?_
    refine e_callVi X (r := (F_Prs_bestFor σ 3 v1)) (σ1 := σ) [.ref (Γ.1 + 3), .int v1] [] (C_Prs_bestFor (Cx_gok X) σ 3 v1 ok_Town_3) gv_X11_266 yk_X5_bestFor rfl (ent_lt (rfl : entTbl[117]? = some (9, 0))) (ent_at (rfl : entTbl[117]? = some (9, 0)) _) (rfl : vCl[5]? = some (RX5, TX5, 3)) ⟨Nat.le_of_ble_eq_true rfl, Nat.le_of_ble_eq_true rfl⟩ ⟨Nat.le_of_ble_eq_true rfl, Nat.le_of_ble_eq_true rfl⟩ (Nat.le_of_ble_eq_true rfl) dX11_best_14 rfl ?_
    exact e_xr (e_iret X hr dX11_best_17 (Nat.le_of_ble_eq_true rfl) (Nat.le_of_ble_eq_true rfl) (by cases hF; exact ⟨_, rfl, rfl, rfl⟩))
  · skip
    rw [hz3, sumE_inl] at hF
    cases hF; exact ⟨rfl, rfl⟩
set_option maxRecDepth 20000 in
set_option maxHeartbeats 4000000 in
theorem C_W_next (hG : Gok l Γ D s0) (σ : Mem) (v1 : Int32) (v2 : Int32)  {out : (String × Mem) ⊕ (Mem × Int32)} (hF : F_W_next σ v1 v2 = some out) : CX l Γ D s0 yX11_next cX11_next 3 (some .int) 8 2 12 126 σ [.ref (Γ.1 + 0), .int v1, .int v2] (PXwv out) (XXw out) := by
  unfold F_W_next at hF
  refine e_xmet (own := RX11) hG (by decide +kernel) rfl rfl (Nat.le_of_ble_eq_true rfl) ?_
  intro p e s m args below meth c X hex hr
  show E p l e _ s m args below meth c Γ D 0 0 _ σ 0 [some (.ref (Γ.1 + 0)), some (.int v1), some (.int v2)] []
  refine e_aload_n X dX11_next_0 rfl rfl ?_
  refine e_iload_n X dX11_next_1 rfl rfl ?_
  refine e_xcallVn X hex (F_W_checkMatch σ v1) [.int v1] [] (C_W_checkMatch (Cx_gok X) σ v1) gv_X11_187 yk_X11_checkMatch rfl (ent_lt (rfl : entTbl[0]? = some (0, 0))) (ent_at (rfl : entTbl[0]? = some (0, 0)) _) (rfl : vCl[10]? = some (RX11, TX11, 17)) ⟨Nat.le_of_ble_eq_true rfl, Nat.le_of_ble_eq_true rfl⟩ ⟨Nat.le_of_ble_eq_true rfl, Nat.le_of_ble_eq_true rfl⟩ ⟨Nat.le_of_ble_eq_true rfl, Nat.le_of_ble_eq_true rfl⟩ (Nat.le_of_ble_eq_true rfl) dX11_next_2 rfl (fun o1 hz3 => ?_) (fun e2 hz3 => ?_)
  · skip
    rw [hz3, sumE_inr] at hF
    refine e_aload_n X dX11_next_5 rfl rfl ?_
    refine e_iload_n X dX11_next_6 rfl rfl ?_
    refine e_xcallVn X hex (F_W_checkQuarrel σ v2) [.int v2] [] (C_W_checkQuarrel (Cx_gok X) σ v2) gv_X11_270 yk_X11_checkQuarrel rfl (ent_lt (rfl : entTbl[0]? = some (0, 0))) (ent_at (rfl : entTbl[0]? = some (0, 0)) _) (rfl : vCl[10]? = some (RX11, TX11, 17)) ⟨Nat.le_of_ble_eq_true rfl, Nat.le_of_ble_eq_true rfl⟩ ⟨Nat.le_of_ble_eq_true rfl, Nat.le_of_ble_eq_true rfl⟩ ⟨Nat.le_of_ble_eq_true rfl, Nat.le_of_ble_eq_true rfl⟩ (Nat.le_of_ble_eq_true rfl) dX11_next_7 rfl (fun o4 hz6 => ?_) (fun e5 hz6 => ?_)
    · skip
      rw [hz6, sumE_inr] at hF
      refine e_aload_n X dX11_next_10 rfl rfl ?_
      refine ge_W_town X wf_X11_21 dX11_next_11 ?_
      refine e_iload_n X dX11_next_14 rfl rfl ?_
      refine e_callVi X (r := (F_Town_isOver σ 3 v1)) (σ1 := σ) [.int v1] [] (C_Town_isOver (Cx_gok X) σ 3 v1 ok_Town_3) gv_X11_202 yk_X9_isOver rfl (ent_lt ok_Town_3.1) (ent_at ok_Town_3.1 _) (rfl : vCl[8]? = some (RX9, TX9, 20)) ⟨Nat.le_of_ble_eq_true rfl, Nat.le_of_ble_eq_true rfl⟩ ⟨Nat.le_of_ble_eq_true rfl, Nat.le_of_ble_eq_true rfl⟩ (Nat.le_of_ble_eq_true rfl) dX11_next_15 rfl ?_
      refine e_if_eq X 25 dX11_next_18 (by decide) (fun c7 => ?_) (fun c7 => ?_)
      · skip
        rw [if_pos c7] at hF
        refine e_aload_n X dX11_next_25 rfl rfl ?_
        refine ge_W_foresight X wf_X11_66 dX11_next_26 ?_
        refine e_aload_n X dX11_next_29 rfl rfl ?_
        refine ge_W_town X wf_X11_21 dX11_next_30 ?_
        refine e_aload_n X dX11_next_33 rfl rfl ?_
        refine ge_W_law X wf_X11_28 dX11_next_34 ?_
        refine e_iload_n X dX11_next_37 rfl rfl ?_
        refine e_iload_n X dX11_next_38 rfl rfl ?_
        obtain ⟨z8, h_z8, hF⟩ := obind_out hF
        refine e_callVi X (r := z8.2) (σ1 := z8.1) [.ref (Γ.1 + 3), .ref (Γ.1 + 20), .int v1, .int v2] [] (C_For_happyNext (Cx_gok X) σ 3 20 v1 v2 ok_Town_3 ok_Law_20 h_z8) gv_X11_273 yk_X0_happyNext rfl (ent_lt (rfl : entTbl[94]? = some (8, 0))) (ent_at (rfl : entTbl[94]? = some (8, 0)) _) (rfl : vCl[0]? = some (RX0, TX0, 4)) ⟨Nat.le_of_ble_eq_true rfl, Nat.le_of_ble_eq_true rfl⟩ ⟨Nat.le_of_ble_eq_true rfl, Nat.le_of_ble_eq_true rfl⟩ (Nat.le_of_ble_eq_true rfl) dX11_next_39 rfl ?_
        exact e_xr (e_iret X hr dX11_next_42 (Nat.le_of_ble_eq_true rfl) (Nat.le_of_ble_eq_true rfl) (by cases hF; exact ⟨_, rfl, rfl, rfl⟩))
      · skip
        rw [if_neg c7] at hF
        refine e_iconst X 0 dX11_next_21 rfl ?_
        refine e_goto X 42 dX11_next_22 (by decide) ?_
        exact e_xr (e_iret X hr dX11_next_42 (Nat.le_of_ble_eq_true rfl) (Nat.le_of_ble_eq_true rfl) (by cases hF; exact ⟨_, rfl, rfl, rfl⟩))
    · skip
      rw [hz6, sumE_inl] at hF
      cases hF; exact ⟨_, rfl, rfl, rfl⟩
  · skip
    rw [hz3, sumE_inl] at hF
    cases hF; exact ⟨_, rfl, rfl, rfl⟩
set_option maxRecDepth 20000 in
set_option maxHeartbeats 4000000 in
theorem C_W_ahead (hG : Gok l Γ D s0) (σ : Mem) (v1 : Int32) (v2 : Int32) (v3 : Int32)  {out : (String × Mem) ⊕ (Mem × Int32)} (hF : F_W_ahead σ v1 v2 v3 = some out) : CX l Γ D s0 yX11_ahead cX11_ahead 4 (some .int) 8 3 18 141 σ [.ref (Γ.1 + 0), .int v1, .int v2, .int v3] (PXwv out) (XXw out) := by
  unfold F_W_ahead at hF
  refine e_xmet (own := RX11) hG (by decide +kernel) rfl rfl (Nat.le_of_ble_eq_true rfl) ?_
  intro p e s m args below meth c X hex hr
  show E p l e _ s m args below meth c Γ D 0 0 _ σ 0 [some (.ref (Γ.1 + 0)), some (.int v1), some (.int v2), some (.int v3)] []
  refine e_aload_n X dX11_ahead_0 rfl rfl ?_
  refine e_iload_n X dX11_ahead_1 rfl rfl ?_
  refine e_xcallVn X hex (F_W_checkMatch σ v1) [.int v1] [] (C_W_checkMatch (Cx_gok X) σ v1) gv_X11_187 yk_X11_checkMatch rfl (ent_lt (rfl : entTbl[0]? = some (0, 0))) (ent_at (rfl : entTbl[0]? = some (0, 0)) _) (rfl : vCl[10]? = some (RX11, TX11, 17)) ⟨Nat.le_of_ble_eq_true rfl, Nat.le_of_ble_eq_true rfl⟩ ⟨Nat.le_of_ble_eq_true rfl, Nat.le_of_ble_eq_true rfl⟩ ⟨Nat.le_of_ble_eq_true rfl, Nat.le_of_ble_eq_true rfl⟩ (Nat.le_of_ble_eq_true rfl) dX11_ahead_2 rfl (fun o1 hz3 => ?_) (fun e2 hz3 => ?_)
  · skip
    rw [hz3, sumE_inr] at hF
    refine e_aload_n X dX11_ahead_5 rfl rfl ?_
    refine e_iload_n X dX11_ahead_6 rfl rfl ?_
    refine e_iconst X 0 dX11_ahead_7 rfl ?_
    refine e_bipush X 40 dX11_ahead_8 rfl ?_
    refine e_xcallVn X hex (F_W_checkNumber σ v2 0 40) [.int v2, .int 0, .int 40] [] (C_W_checkNumber (Cx_gok X) σ v2 0 40) gv_X11_252 yk_X11_checkNumber rfl (ent_lt (rfl : entTbl[0]? = some (0, 0))) (ent_at (rfl : entTbl[0]? = some (0, 0)) _) (rfl : vCl[10]? = some (RX11, TX11, 17)) ⟨Nat.le_of_ble_eq_true rfl, Nat.le_of_ble_eq_true rfl⟩ ⟨Nat.le_of_ble_eq_true rfl, Nat.le_of_ble_eq_true rfl⟩ ⟨Nat.le_of_ble_eq_true rfl, Nat.le_of_ble_eq_true rfl⟩ (Nat.le_of_ble_eq_true rfl) dX11_ahead_10 rfl (fun o4 hz6 => ?_) (fun e5 hz6 => ?_)
    · skip
      rw [hz6, sumE_inr] at hF
      refine e_aload_n X dX11_ahead_13 rfl rfl ?_
      refine e_iload_n X dX11_ahead_14 rfl rfl ?_
      refine e_xcallVn X hex (F_W_checkQuarrel σ v3) [.int v3] [] (C_W_checkQuarrel (Cx_gok X) σ v3) gv_X11_270 yk_X11_checkQuarrel rfl (ent_lt (rfl : entTbl[0]? = some (0, 0))) (ent_at (rfl : entTbl[0]? = some (0, 0)) _) (rfl : vCl[10]? = some (RX11, TX11, 17)) ⟨Nat.le_of_ble_eq_true rfl, Nat.le_of_ble_eq_true rfl⟩ ⟨Nat.le_of_ble_eq_true rfl, Nat.le_of_ble_eq_true rfl⟩ ⟨Nat.le_of_ble_eq_true rfl, Nat.le_of_ble_eq_true rfl⟩ (Nat.le_of_ble_eq_true rfl) dX11_ahead_15 rfl (fun o7 hz9 => ?_) (fun e8 hz9 => ?_)
      · skip
        rw [hz9, sumE_inr] at hF
        refine e_aload_n X dX11_ahead_18 rfl rfl ?_
        refine ge_W_town X wf_X11_21 dX11_ahead_19 ?_
        refine e_iload_n X dX11_ahead_22 rfl rfl ?_
        refine e_callVi X (r := (F_Town_isOver σ 3 v1)) (σ1 := σ) [.int v1] [] (C_Town_isOver (Cx_gok X) σ 3 v1 ok_Town_3) gv_X11_202 yk_X9_isOver rfl (ent_lt ok_Town_3.1) (ent_at ok_Town_3.1 _) (rfl : vCl[8]? = some (RX9, TX9, 20)) ⟨Nat.le_of_ble_eq_true rfl, Nat.le_of_ble_eq_true rfl⟩ ⟨Nat.le_of_ble_eq_true rfl, Nat.le_of_ble_eq_true rfl⟩ (Nat.le_of_ble_eq_true rfl) dX11_ahead_23 rfl ?_
        refine e_if_eq X 33 dX11_ahead_26 (by decide) (fun c10 => ?_) (fun c10 => ?_)
        · skip
          rw [if_pos c10] at hF
          refine e_aload_n X dX11_ahead_33 rfl rfl ?_
          refine ge_W_foresight X wf_X11_66 dX11_ahead_34 ?_
          refine e_aload_n X dX11_ahead_37 rfl rfl ?_
          refine ge_W_town X wf_X11_21 dX11_ahead_38 ?_
          refine e_aload_n X dX11_ahead_41 rfl rfl ?_
          refine ge_W_law X wf_X11_28 dX11_ahead_42 ?_
          refine e_iload_n X dX11_ahead_45 rfl rfl ?_
          refine e_iload_n X dX11_ahead_46 rfl rfl ?_
          refine e_iload_n X dX11_ahead_47 rfl rfl ?_
          obtain ⟨z11, h_z11, hF⟩ := obind_out hF
          refine e_callVi X (r := z11.2) (σ1 := z11.1) [.ref (Γ.1 + 3), .ref (Γ.1 + 20), .int v1, .int v2, .int v3] [] (C_For_happyAhead (Cx_gok X) σ 3 20 v1 v2 v3 ok_Town_3 ok_Law_20 h_z11) gv_X11_277 yk_X0_happyAhead rfl (ent_lt (rfl : entTbl[94]? = some (8, 0))) (ent_at (rfl : entTbl[94]? = some (8, 0)) _) (rfl : vCl[0]? = some (RX0, TX0, 4)) ⟨Nat.le_of_ble_eq_true rfl, Nat.le_of_ble_eq_true rfl⟩ ⟨Nat.le_of_ble_eq_true rfl, Nat.le_of_ble_eq_true rfl⟩ (Nat.le_of_ble_eq_true rfl) dX11_ahead_48 rfl ?_
          exact e_xr (e_iret X hr dX11_ahead_51 (Nat.le_of_ble_eq_true rfl) (Nat.le_of_ble_eq_true rfl) (by cases hF; exact ⟨_, rfl, rfl, rfl⟩))
        · skip
          rw [if_neg c10] at hF
          refine e_iconst X 0 dX11_ahead_29 rfl ?_
          refine e_goto X 51 dX11_ahead_30 (by decide) ?_
          exact e_xr (e_iret X hr dX11_ahead_51 (Nat.le_of_ble_eq_true rfl) (Nat.le_of_ble_eq_true rfl) (by cases hF; exact ⟨_, rfl, rfl, rfl⟩))
      · skip
        rw [hz9, sumE_inl] at hF
        cases hF; exact ⟨_, rfl, rfl, rfl⟩
    · skip
      rw [hz6, sumE_inl] at hF
      cases hF; exact ⟨_, rfl, rfl, rfl⟩
  · skip
    rw [hz3, sumE_inl] at hF
    cases hF; exact ⟨_, rfl, rfl, rfl⟩
set_option maxRecDepth 20000 in
set_option maxHeartbeats 4000000 in
theorem C_W_first (hG : Gok l Γ D s0) (σ : Mem) (v1 : Int32) (v2 : Int32)  {out : (String × Mem) ⊕ (Mem × Int32)} (hF : F_W_first σ v1 v2 = some out) : CX l Γ D s0 yX11_first cX11_first 3 (some .int) 8 2 12 140 σ [.ref (Γ.1 + 0), .int v1, .int v2] (PXwv out) (XXw out) := by
  unfold F_W_first at hF
  refine e_xmet (own := RX11) hG (by decide +kernel) rfl rfl (Nat.le_of_ble_eq_true rfl) ?_
  intro p e s m args below meth c X hex hr
  show E p l e _ s m args below meth c Γ D 0 0 _ σ 0 [some (.ref (Γ.1 + 0)), some (.int v1), some (.int v2)] []
  refine e_aload_n X dX11_first_0 rfl rfl ?_
  refine e_iload_n X dX11_first_1 rfl rfl ?_
  refine e_xcallVn X hex (F_W_checkMatch σ v1) [.int v1] [] (C_W_checkMatch (Cx_gok X) σ v1) gv_X11_187 yk_X11_checkMatch rfl (ent_lt (rfl : entTbl[0]? = some (0, 0))) (ent_at (rfl : entTbl[0]? = some (0, 0)) _) (rfl : vCl[10]? = some (RX11, TX11, 17)) ⟨Nat.le_of_ble_eq_true rfl, Nat.le_of_ble_eq_true rfl⟩ ⟨Nat.le_of_ble_eq_true rfl, Nat.le_of_ble_eq_true rfl⟩ ⟨Nat.le_of_ble_eq_true rfl, Nat.le_of_ble_eq_true rfl⟩ (Nat.le_of_ble_eq_true rfl) dX11_first_2 rfl (fun o1 hz3 => ?_) (fun e2 hz3 => ?_)
  · skip
    rw [hz3, sumE_inr] at hF
    refine e_aload_n X dX11_first_5 rfl rfl ?_
    refine e_iload_n X dX11_first_6 rfl rfl ?_
    refine e_xcallVn X hex (F_W_checkQuarrel σ v2) [.int v2] [] (C_W_checkQuarrel (Cx_gok X) σ v2) gv_X11_270 yk_X11_checkQuarrel rfl (ent_lt (rfl : entTbl[0]? = some (0, 0))) (ent_at (rfl : entTbl[0]? = some (0, 0)) _) (rfl : vCl[10]? = some (RX11, TX11, 17)) ⟨Nat.le_of_ble_eq_true rfl, Nat.le_of_ble_eq_true rfl⟩ ⟨Nat.le_of_ble_eq_true rfl, Nat.le_of_ble_eq_true rfl⟩ ⟨Nat.le_of_ble_eq_true rfl, Nat.le_of_ble_eq_true rfl⟩ (Nat.le_of_ble_eq_true rfl) dX11_first_7 rfl (fun o4 hz6 => ?_) (fun e5 hz6 => ?_)
    · skip
      rw [hz6, sumE_inr] at hF
      refine e_aload_n X dX11_first_10 rfl rfl ?_
      refine ge_W_town X wf_X11_21 dX11_first_11 ?_
      refine e_iload_n X dX11_first_14 rfl rfl ?_
      refine e_callVi X (r := (F_Town_isOver σ 3 v1)) (σ1 := σ) [.int v1] [] (C_Town_isOver (Cx_gok X) σ 3 v1 ok_Town_3) gv_X11_202 yk_X9_isOver rfl (ent_lt ok_Town_3.1) (ent_at ok_Town_3.1 _) (rfl : vCl[8]? = some (RX9, TX9, 20)) ⟨Nat.le_of_ble_eq_true rfl, Nat.le_of_ble_eq_true rfl⟩ ⟨Nat.le_of_ble_eq_true rfl, Nat.le_of_ble_eq_true rfl⟩ (Nat.le_of_ble_eq_true rfl) dX11_first_15 rfl ?_
      refine e_if_eq X 25 dX11_first_18 (by decide) (fun c7 => ?_) (fun c7 => ?_)
      · skip
        rw [if_pos c7] at hF
        refine e_aload_n X dX11_first_25 rfl rfl ?_
        refine ge_W_foresight X wf_X11_66 dX11_first_26 ?_
        refine e_aload_n X dX11_first_29 rfl rfl ?_
        refine ge_W_town X wf_X11_21 dX11_first_30 ?_
        refine e_aload_n X dX11_first_33 rfl rfl ?_
        refine ge_W_law X wf_X11_28 dX11_first_34 ?_
        refine e_iload_n X dX11_first_37 rfl rfl ?_
        refine e_iload_n X dX11_first_38 rfl rfl ?_
        obtain ⟨z8, h_z8, hF⟩ := obind_out hF
        refine e_callVi X (r := z8.2) (σ1 := z8.1) [.ref (Γ.1 + 3), .ref (Γ.1 + 20), .int v1, .int v2] [] (C_For_firstClaim (Cx_gok X) σ 3 20 v1 v2 ok_Town_3 ok_Law_20 h_z8) gv_X11_281 yk_X0_firstClaim rfl (ent_lt (rfl : entTbl[94]? = some (8, 0))) (ent_at (rfl : entTbl[94]? = some (8, 0)) _) (rfl : vCl[0]? = some (RX0, TX0, 4)) ⟨Nat.le_of_ble_eq_true rfl, Nat.le_of_ble_eq_true rfl⟩ ⟨Nat.le_of_ble_eq_true rfl, Nat.le_of_ble_eq_true rfl⟩ (Nat.le_of_ble_eq_true rfl) dX11_first_39 rfl ?_
        exact e_xr (e_iret X hr dX11_first_42 (Nat.le_of_ble_eq_true rfl) (Nat.le_of_ble_eq_true rfl) (by cases hF; exact ⟨_, rfl, rfl, rfl⟩))
      · skip
        rw [if_neg c7] at hF
        refine e_iconst X (-1) dX11_first_21 rfl ?_
        refine e_goto X 42 dX11_first_22 (by decide) ?_
        exact e_xr (e_iret X hr dX11_first_42 (Nat.le_of_ble_eq_true rfl) (Nat.le_of_ble_eq_true rfl) (by cases hF; exact ⟨_, rfl, rfl, rfl⟩))
    · skip
      rw [hz6, sumE_inl] at hF
      cases hF; exact ⟨_, rfl, rfl, rfl⟩
  · skip
    rw [hz3, sumE_inl] at hF
    cases hF; exact ⟨_, rfl, rfl, rfl⟩
set_option maxRecDepth 20000 in
set_option maxHeartbeats 4000000 in
theorem C_W_odds (hG : Gok l Γ D s0) (σ : Mem) (v1 : Int32)  {out : (String × Mem) ⊕ (Mem × Int32)} (hF : F_W_odds σ v1 = some out) : CX l Γ D s0 yX11_odds cX11_odds 2 (some .int) 7 1 6 119 σ [.ref (Γ.1 + 0), .int v1] (PXwv out) (XXw out) := by
  unfold F_W_odds at hF
  refine e_xmet (own := RX11) hG (by decide +kernel) rfl rfl (Nat.le_of_ble_eq_true rfl) ?_
  intro p e s m args below meth c X hex hr
  show E p l e _ s m args below meth c Γ D 0 0 _ σ 0 [some (.ref (Γ.1 + 0)), some (.int v1)] []
  refine e_aload_n X dX11_odds_0 rfl rfl ?_
  refine e_iload_n X dX11_odds_1 rfl rfl ?_
  refine e_xcallVn X hex (F_W_checkMatch σ v1) [.int v1] [] (C_W_checkMatch (Cx_gok X) σ v1) gv_X11_187 yk_X11_checkMatch rfl (ent_lt (rfl : entTbl[0]? = some (0, 0))) (ent_at (rfl : entTbl[0]? = some (0, 0)) _) (rfl : vCl[10]? = some (RX11, TX11, 17)) ⟨Nat.le_of_ble_eq_true rfl, Nat.le_of_ble_eq_true rfl⟩ ⟨Nat.le_of_ble_eq_true rfl, Nat.le_of_ble_eq_true rfl⟩ ⟨Nat.le_of_ble_eq_true rfl, Nat.le_of_ble_eq_true rfl⟩ (Nat.le_of_ble_eq_true rfl) dX11_odds_2 rfl (fun o1 hz3 => ?_) (fun e2 hz3 => ?_)
  · skip
    rw [hz3, sumE_inr] at hF
    refine e_aload_n X dX11_odds_5 rfl rfl ?_
    refine ge_W_town X wf_X11_21 dX11_odds_6 ?_
    refine e_iload_n X dX11_odds_9 rfl rfl ?_
    refine e_callVi X (r := (F_Town_isOver σ 3 v1)) (σ1 := σ) [.int v1] [] (C_Town_isOver (Cx_gok X) σ 3 v1 ok_Town_3) gv_X11_202 yk_X9_isOver rfl (ent_lt ok_Town_3.1) (ent_at ok_Town_3.1 _) (rfl : vCl[8]? = some (RX9, TX9, 20)) ⟨Nat.le_of_ble_eq_true rfl, Nat.le_of_ble_eq_true rfl⟩ ⟨Nat.le_of_ble_eq_true rfl, Nat.le_of_ble_eq_true rfl⟩ (Nat.le_of_ble_eq_true rfl) dX11_odds_10 rfl ?_
    refine e_if_eq X 20 dX11_odds_13 (by decide) (fun c4 => ?_) (fun c4 => ?_)
    · skip
      rw [if_pos c4] at hF
      refine e_aload_n X dX11_odds_20 rfl rfl ?_
      refine ge_W_foresight X wf_X11_66 dX11_odds_21 ?_
      refine e_aload_n X dX11_odds_24 rfl rfl ?_
      refine ge_W_town X wf_X11_21 dX11_odds_25 ?_
      refine e_aload_n X dX11_odds_28 rfl rfl ?_
      refine ge_W_law X wf_X11_28 dX11_odds_29 ?_
      refine e_iload_n X dX11_odds_32 rfl rfl ?_
      obtain ⟨z5, h_z5, hF⟩ := obind_out hF
      refine e_callVi X (r := z5.2) (σ1 := z5.1) [.ref (Γ.1 + 3), .ref (Γ.1 + 20), .int v1] [] (C_For_claimQuarrels (Cx_gok X) σ 3 20 v1 ok_Town_3 ok_Law_20 h_z5) gv_X11_284 yk_X0_claimQuarrels rfl (ent_lt (rfl : entTbl[94]? = some (8, 0))) (ent_at (rfl : entTbl[94]? = some (8, 0)) _) (rfl : vCl[0]? = some (RX0, TX0, 4)) ⟨Nat.le_of_ble_eq_true rfl, Nat.le_of_ble_eq_true rfl⟩ ⟨Nat.le_of_ble_eq_true rfl, Nat.le_of_ble_eq_true rfl⟩ (Nat.le_of_ble_eq_true rfl) dX11_odds_33 rfl ?_
      exact e_xr (e_iret X hr dX11_odds_36 (Nat.le_of_ble_eq_true rfl) (Nat.le_of_ble_eq_true rfl) (by cases hF; exact ⟨_, rfl, rfl, rfl⟩))
    · skip
      rw [if_neg c4] at hF
      refine e_iconst X 0 dX11_odds_16 rfl ?_
      refine e_goto X 36 dX11_odds_17 (by decide) ?_
      exact e_xr (e_iret X hr dX11_odds_36 (Nat.le_of_ble_eq_true rfl) (Nat.le_of_ble_eq_true rfl) (by cases hF; exact ⟨_, rfl, rfl, rfl⟩))
  · skip
    rw [hz3, sumE_inl] at hF
    cases hF; exact ⟨_, rfl, rfl, rfl⟩
set_option maxRecDepth 20000 in
set_option maxHeartbeats 4000000 in
theorem C_W_gifts (hG : Gok l Γ D s0) (σ : Mem) (v1 : Int32) (v2 : Int32) (v3 : Int32)  {out : (String × Mem) ⊕ (Mem × Int32)} (hF : F_W_gifts σ v1 v2 v3 = some out) : CX l Γ D s0 yX11_gifts cX11_gifts 4 (some .int) 8 3 18 372 σ [.ref (Γ.1 + 0), .int v1, .int v2, .int v3] (PXwv out) (XXw out) := by
  unfold F_W_gifts at hF
  refine e_xmet (own := RX11) hG (by decide +kernel) rfl rfl (Nat.le_of_ble_eq_true rfl) ?_
  intro p e s m args below meth c X hex hr
  show E p l e _ s m args below meth c Γ D 0 0 _ σ 0 [some (.ref (Γ.1 + 0)), some (.int v1), some (.int v2), some (.int v3)] []
  refine e_aload_n X dX11_gifts_0 rfl rfl ?_
  refine e_iload_n X dX11_gifts_1 rfl rfl ?_
  refine e_xcallVn X hex (F_W_checkMatch σ v1) [.int v1] [] (C_W_checkMatch (Cx_gok X) σ v1) gv_X11_187 yk_X11_checkMatch rfl (ent_lt (rfl : entTbl[0]? = some (0, 0))) (ent_at (rfl : entTbl[0]? = some (0, 0)) _) (rfl : vCl[10]? = some (RX11, TX11, 17)) ⟨Nat.le_of_ble_eq_true rfl, Nat.le_of_ble_eq_true rfl⟩ ⟨Nat.le_of_ble_eq_true rfl, Nat.le_of_ble_eq_true rfl⟩ ⟨Nat.le_of_ble_eq_true rfl, Nat.le_of_ble_eq_true rfl⟩ (Nat.le_of_ble_eq_true rfl) dX11_gifts_2 rfl (fun o1 hz3 => ?_) (fun e2 hz3 => ?_)
  · skip
    rw [hz3, sumE_inr] at hF
    refine e_aload_n X dX11_gifts_5 rfl rfl ?_
    refine e_iload_n X dX11_gifts_6 rfl rfl ?_
    refine e_iconst X 1 dX11_gifts_7 rfl ?_
    refine e_bipush X 20 dX11_gifts_8 rfl ?_
    refine e_xcallVn X hex (F_W_checkNumber σ v2 1 20) [.int v2, .int 1, .int 20] [] (C_W_checkNumber (Cx_gok X) σ v2 1 20) gv_X11_252 yk_X11_checkNumber rfl (ent_lt (rfl : entTbl[0]? = some (0, 0))) (ent_at (rfl : entTbl[0]? = some (0, 0)) _) (rfl : vCl[10]? = some (RX11, TX11, 17)) ⟨Nat.le_of_ble_eq_true rfl, Nat.le_of_ble_eq_true rfl⟩ ⟨Nat.le_of_ble_eq_true rfl, Nat.le_of_ble_eq_true rfl⟩ ⟨Nat.le_of_ble_eq_true rfl, Nat.le_of_ble_eq_true rfl⟩ (Nat.le_of_ble_eq_true rfl) dX11_gifts_10 rfl (fun o4 hz6 => ?_) (fun e5 hz6 => ?_)
    · skip
      rw [hz6, sumE_inr] at hF
      refine e_aload_n X dX11_gifts_13 rfl rfl ?_
      refine e_iload_n X dX11_gifts_14 rfl rfl ?_
      refine e_xcallVn X hex (F_W_checkQuarrel σ v3) [.int v3] [] (C_W_checkQuarrel (Cx_gok X) σ v3) gv_X11_270 yk_X11_checkQuarrel rfl (ent_lt (rfl : entTbl[0]? = some (0, 0))) (ent_at (rfl : entTbl[0]? = some (0, 0)) _) (rfl : vCl[10]? = some (RX11, TX11, 17)) ⟨Nat.le_of_ble_eq_true rfl, Nat.le_of_ble_eq_true rfl⟩ ⟨Nat.le_of_ble_eq_true rfl, Nat.le_of_ble_eq_true rfl⟩ ⟨Nat.le_of_ble_eq_true rfl, Nat.le_of_ble_eq_true rfl⟩ (Nat.le_of_ble_eq_true rfl) dX11_gifts_15 rfl (fun o7 hz9 => ?_) (fun e8 hz9 => ?_)
      · skip
        rw [hz9, sumE_inr] at hF
        refine e_aload_n X dX11_gifts_18 rfl rfl ?_
        refine ge_W_town X wf_X11_21 dX11_gifts_19 ?_
        refine e_iload_n X dX11_gifts_22 rfl rfl ?_
        refine e_callVi X (r := (F_Town_isOver σ 3 v1)) (σ1 := σ) [.int v1] [] (C_Town_isOver (Cx_gok X) σ 3 v1 ok_Town_3) gv_X11_202 yk_X9_isOver rfl (ent_lt ok_Town_3.1) (ent_at ok_Town_3.1 _) (rfl : vCl[8]? = some (RX9, TX9, 20)) ⟨Nat.le_of_ble_eq_true rfl, Nat.le_of_ble_eq_true rfl⟩ ⟨Nat.le_of_ble_eq_true rfl, Nat.le_of_ble_eq_true rfl⟩ (Nat.le_of_ble_eq_true rfl) dX11_gifts_23 rfl ?_
        refine e_if_eq X 33 dX11_gifts_26 (by decide) (fun c10 => ?_) (fun c10 => ?_)
        · skip
          rw [if_pos c10] at hF
          refine e_aload_n X dX11_gifts_33 rfl rfl ?_
          refine ge_W_foresight X wf_X11_66 dX11_gifts_34 ?_
          refine e_aload_n X dX11_gifts_37 rfl rfl ?_
          refine ge_W_town X wf_X11_21 dX11_gifts_38 ?_
          refine e_aload_n X dX11_gifts_41 rfl rfl ?_
          refine ge_W_law X wf_X11_28 dX11_gifts_42 ?_
          refine e_iload_n X dX11_gifts_45 rfl rfl ?_
          refine e_iload_n X dX11_gifts_46 rfl rfl ?_
          refine e_iload_n X dX11_gifts_47 rfl rfl ?_
          obtain ⟨z11, h_z11, hF⟩ := obind_out hF
          refine e_callVi X (r := z11.2) (σ1 := z11.1) [.ref (Γ.1 + 3), .ref (Γ.1 + 20), .int v1, .int v2, .int v3] [] (C_For_fewestGifts (Cx_gok X) σ 3 20 v1 v2 v3 ok_Town_3 ok_Law_20 h_z11) gv_X11_287 yk_X0_fewestGifts rfl (ent_lt (rfl : entTbl[94]? = some (8, 0))) (ent_at (rfl : entTbl[94]? = some (8, 0)) _) (rfl : vCl[0]? = some (RX0, TX0, 4)) ⟨Nat.le_of_ble_eq_true rfl, Nat.le_of_ble_eq_true rfl⟩ ⟨Nat.le_of_ble_eq_true rfl, Nat.le_of_ble_eq_true rfl⟩ (Nat.le_of_ble_eq_true rfl) dX11_gifts_48 rfl ?_
          exact e_xr (e_iret X hr dX11_gifts_51 (Nat.le_of_ble_eq_true rfl) (Nat.le_of_ble_eq_true rfl) (by cases hF; exact ⟨_, rfl, rfl, rfl⟩))
        · skip
          rw [if_neg c10] at hF
          refine e_iconst X (-1) dX11_gifts_29 rfl ?_
          refine e_goto X 51 dX11_gifts_30 (by decide) ?_
          exact e_xr (e_iret X hr dX11_gifts_51 (Nat.le_of_ble_eq_true rfl) (Nat.le_of_ble_eq_true rfl) (by cases hF; exact ⟨_, rfl, rfl, rfl⟩))
      · skip
        rw [hz9, sumE_inl] at hF
        cases hF; exact ⟨_, rfl, rfl, rfl⟩
    · skip
      rw [hz6, sumE_inl] at hF
      cases hF; exact ⟨_, rfl, rfl, rfl⟩
  · skip
    rw [hz3, sumE_inl] at hF
    cases hF; exact ⟨_, rfl, rfl, rfl⟩
set_option maxRecDepth 20000 in
set_option maxHeartbeats 4000000 in
theorem C_W_loses (hG : Gok l Γ D s0) (σ : Mem) (v1 : Int32)  {out : (String × Mem) ⊕ (Mem × Int32)} (hF : F_W_loses σ v1 = some out) : CX l Γ D s0 yX11_loses cX11_loses 2 (some .int) 7 1 6 385 σ [.ref (Γ.1 + 0), .int v1] (PXwv out) (XXw out) := by
  unfold F_W_loses at hF
  refine e_xmet (own := RX11) hG (by decide +kernel) rfl rfl (Nat.le_of_ble_eq_true rfl) ?_
  intro p e s m args below meth c X hex hr
  show E p l e _ s m args below meth c Γ D 0 0 _ σ 0 [some (.ref (Γ.1 + 0)), some (.int v1)] []
  refine e_aload_n X dX11_loses_0 rfl rfl ?_
  refine e_iload_n X dX11_loses_1 rfl rfl ?_
  refine e_xcallVn X hex (F_W_checkPerson σ v1) [.int v1] [] (C_W_checkPerson (Cx_gok X) σ v1) gv_X11_146 yk_X11_checkPerson rfl (ent_lt (rfl : entTbl[0]? = some (0, 0))) (ent_at (rfl : entTbl[0]? = some (0, 0)) _) (rfl : vCl[10]? = some (RX11, TX11, 17)) ⟨Nat.le_of_ble_eq_true rfl, Nat.le_of_ble_eq_true rfl⟩ ⟨Nat.le_of_ble_eq_true rfl, Nat.le_of_ble_eq_true rfl⟩ ⟨Nat.le_of_ble_eq_true rfl, Nat.le_of_ble_eq_true rfl⟩ (Nat.le_of_ble_eq_true rfl) dX11_loses_2 rfl (fun o1 hz3 => ?_) (fun e2 hz3 => ?_)
  · skip
    rw [hz3, sumE_inr] at hF
    refine e_aload_n X dX11_loses_5 rfl rfl ?_
    refine ge_W_foresight X wf_X11_66 dX11_loses_6 ?_
    refine e_aload_n X dX11_loses_9 rfl rfl ?_
    refine ge_W_town X wf_X11_21 dX11_loses_10 ?_
    refine e_iload_n X dX11_loses_13 rfl rfl ?_
    obtain ⟨z4, h_z4, hF⟩ := obind_out hF
    refine e_callVi X (r := z4.2) (σ1 := z4.1) [.ref (Γ.1 + 3), .int v1] [] (C_For_lossOf (Cx_gok X) σ 3 v1 ok_Town_3 h_z4) gv_X11_294 yk_X0_lossOf rfl (ent_lt (rfl : entTbl[94]? = some (8, 0))) (ent_at (rfl : entTbl[94]? = some (8, 0)) _) (rfl : vCl[0]? = some (RX0, TX0, 4)) ⟨Nat.le_of_ble_eq_true rfl, Nat.le_of_ble_eq_true rfl⟩ ⟨Nat.le_of_ble_eq_true rfl, Nat.le_of_ble_eq_true rfl⟩ (Nat.le_of_ble_eq_true rfl) dX11_loses_14 rfl ?_
    exact e_xr (e_iret X hr dX11_loses_17 (Nat.le_of_ble_eq_true rfl) (Nat.le_of_ble_eq_true rfl) (by cases hF; exact ⟨_, rfl, rfl, rfl⟩))
  · skip
    rw [hz3, sumE_inl] at hF
    cases hF; exact ⟨_, rfl, rfl, rfl⟩
set_option maxRecDepth 20000 in
set_option maxHeartbeats 4000000 in
theorem C_W_holds (hG : Gok l Γ D s0) (σ : Mem) (v1 : Int32)  {out : (String × Mem) ⊕ (Mem × Int32)} (hF : F_W_holds σ v1 = some out) : CX l Γ D s0 yX11_holds cX11_holds 2 (some .int) 7 1 6 389 σ [.ref (Γ.1 + 0), .int v1] (PXwv out) (XXw out) := by
  unfold F_W_holds at hF
  refine e_xmet (own := RX11) hG (by decide +kernel) rfl rfl (Nat.le_of_ble_eq_true rfl) ?_
  intro p e s m args below meth c X hex hr
  show E p l e _ s m args below meth c Γ D 0 0 _ σ 0 [some (.ref (Γ.1 + 0)), some (.int v1)] []
  refine e_aload_n X dX11_holds_0 rfl rfl ?_
  refine e_iload_n X dX11_holds_1 rfl rfl ?_
  refine e_xcallVn X hex (F_W_checkPerson σ v1) [.int v1] [] (C_W_checkPerson (Cx_gok X) σ v1) gv_X11_146 yk_X11_checkPerson rfl (ent_lt (rfl : entTbl[0]? = some (0, 0))) (ent_at (rfl : entTbl[0]? = some (0, 0)) _) (rfl : vCl[10]? = some (RX11, TX11, 17)) ⟨Nat.le_of_ble_eq_true rfl, Nat.le_of_ble_eq_true rfl⟩ ⟨Nat.le_of_ble_eq_true rfl, Nat.le_of_ble_eq_true rfl⟩ ⟨Nat.le_of_ble_eq_true rfl, Nat.le_of_ble_eq_true rfl⟩ (Nat.le_of_ble_eq_true rfl) dX11_holds_2 rfl (fun o1 hz3 => ?_) (fun e2 hz3 => ?_)
  · skip
    rw [hz3, sumE_inr] at hF
    refine e_aload_n X dX11_holds_5 rfl rfl ?_
    refine ge_W_foresight X wf_X11_66 dX11_holds_6 ?_
    refine e_aload_n X dX11_holds_9 rfl rfl ?_
    refine ge_W_town X wf_X11_21 dX11_holds_10 ?_
    refine e_iload_n X dX11_holds_13 rfl rfl ?_
    obtain ⟨z4, h_z4, hF⟩ := obind_out hF
    refine e_callVi X (r := z4.2) (σ1 := z4.1) [.ref (Γ.1 + 3), .int v1] [] (C_For_leastWealth (Cx_gok X) σ 3 v1 ok_Town_3 h_z4) gv_X11_297 yk_X0_leastWealth rfl (ent_lt (rfl : entTbl[94]? = some (8, 0))) (ent_at (rfl : entTbl[94]? = some (8, 0)) _) (rfl : vCl[0]? = some (RX0, TX0, 4)) ⟨Nat.le_of_ble_eq_true rfl, Nat.le_of_ble_eq_true rfl⟩ ⟨Nat.le_of_ble_eq_true rfl, Nat.le_of_ble_eq_true rfl⟩ (Nat.le_of_ble_eq_true rfl) dX11_holds_14 rfl ?_
    exact e_xr (e_iret X hr dX11_holds_17 (Nat.le_of_ble_eq_true rfl) (Nat.le_of_ble_eq_true rfl) (by cases hF; exact ⟨_, rfl, rfl, rfl⟩))
  · skip
    rw [hz3, sumE_inl] at hF
    cases hF; exact ⟨_, rfl, rfl, rfl⟩
set_option maxRecDepth 20000 in
set_option maxHeartbeats 4000000 in
theorem C_W_ring (hG : Gok l Γ D s0) (σ : Mem) (v1 : Int32)  {out : String ⊕ (Int32)} (hF : F_W_ring σ v1 = some out) : CX l Γ D s0 yX11_ring cX11_ring 2 (some .int) 7 1 6 103 σ [.ref (Γ.1 + 0), .int v1] (PXv σ out) (XXn σ out) := by
  unfold F_W_ring at hF
  refine e_xmet (own := RX11) hG (by decide +kernel) rfl rfl (Nat.le_of_ble_eq_true rfl) ?_
  intro p e s m args below meth c X hex hr
  show E p l e _ s m args below meth c Γ D 0 0 _ σ 0 [some (.ref (Γ.1 + 0)), some (.int v1)] []
  refine e_aload_n X dX11_ring_0 rfl rfl ?_
  refine e_iload_n X dX11_ring_1 rfl rfl ?_
  refine e_xcallVn X hex (F_W_checkPerson σ v1) [.int v1] [] (C_W_checkPerson (Cx_gok X) σ v1) gv_X11_146 yk_X11_checkPerson rfl (ent_lt (rfl : entTbl[0]? = some (0, 0))) (ent_at (rfl : entTbl[0]? = some (0, 0)) _) (rfl : vCl[10]? = some (RX11, TX11, 17)) ⟨Nat.le_of_ble_eq_true rfl, Nat.le_of_ble_eq_true rfl⟩ ⟨Nat.le_of_ble_eq_true rfl, Nat.le_of_ble_eq_true rfl⟩ ⟨Nat.le_of_ble_eq_true rfl, Nat.le_of_ble_eq_true rfl⟩ (Nat.le_of_ble_eq_true rfl) dX11_ring_2 rfl (fun o1 hz3 => ?_) (fun e2 hz3 => ?_)
  · skip
    rw [hz3, sumE_inr] at hF
    refine e_aload_n X dX11_ring_5 rfl rfl ?_
    refine ge_W_town X wf_X11_21 dX11_ring_6 ?_
    refine e_iload_n X dX11_ring_9 rfl rfl ?_
    obtain ⟨z4, h_z4, hF⟩ := obind_out hF
    refine e_callVi X (r := z4) (σ1 := σ) [.int v1] [] (C_Town_ringSteps (Cx_gok X) σ 3 v1 ok_Town_3 h_z4) gv_X11_300 yk_X9_ringSteps rfl (ent_lt ok_Town_3.1) (ent_at ok_Town_3.1 _) (rfl : vCl[8]? = some (RX9, TX9, 20)) ⟨Nat.le_of_ble_eq_true rfl, Nat.le_of_ble_eq_true rfl⟩ ⟨Nat.le_of_ble_eq_true rfl, Nat.le_of_ble_eq_true rfl⟩ (Nat.le_of_ble_eq_true rfl) dX11_ring_10 rfl ?_
    exact e_xr (e_iret X hr dX11_ring_13 (Nat.le_of_ble_eq_true rfl) (Nat.le_of_ble_eq_true rfl) (by cases hF; exact ⟨_, rfl, rfl, rfl⟩))
  · skip
    rw [hz3, sumE_inl] at hF
    cases hF; exact ⟨rfl, rfl⟩
set_option maxRecDepth 20000 in
set_option maxHeartbeats 4000000 in
theorem C_W_leans (hG : Gok l Γ D s0) (σ : Mem) (v1 : Int32)  {out : String ⊕ (Int32)} (hF : F_W_leans σ v1 = some out) : CX l Γ D s0 yX11_leans cX11_leans 2 (some .int) 7 1 6 103 σ [.ref (Γ.1 + 0), .int v1] (PXv σ out) (XXn σ out) := by
  unfold F_W_leans at hF
  refine e_xmet (own := RX11) hG (by decide +kernel) rfl rfl (Nat.le_of_ble_eq_true rfl) ?_
  intro p e s m args below meth c X hex hr
  show E p l e _ s m args below meth c Γ D 0 0 _ σ 0 [some (.ref (Γ.1 + 0)), some (.int v1)] []
  refine e_aload_n X dX11_leans_0 rfl rfl ?_
  refine e_iload_n X dX11_leans_1 rfl rfl ?_
  refine e_xcallVn X hex (F_W_checkPerson σ v1) [.int v1] [] (C_W_checkPerson (Cx_gok X) σ v1) gv_X11_146 yk_X11_checkPerson rfl (ent_lt (rfl : entTbl[0]? = some (0, 0))) (ent_at (rfl : entTbl[0]? = some (0, 0)) _) (rfl : vCl[10]? = some (RX11, TX11, 17)) ⟨Nat.le_of_ble_eq_true rfl, Nat.le_of_ble_eq_true rfl⟩ ⟨Nat.le_of_ble_eq_true rfl, Nat.le_of_ble_eq_true rfl⟩ ⟨Nat.le_of_ble_eq_true rfl, Nat.le_of_ble_eq_true rfl⟩ (Nat.le_of_ble_eq_true rfl) dX11_leans_2 rfl (fun o1 hz3 => ?_) (fun e2 hz3 => ?_)
  · skip
    rw [hz3, sumE_inr] at hF
    refine e_aload_n X dX11_leans_5 rfl rfl ?_
    refine ge_W_town X wf_X11_21 dX11_leans_6 ?_
    refine e_iload_n X dX11_leans_9 rfl rfl ?_
    obtain ⟨z4, h_z4, hF⟩ := obind_out hF
    refine e_callVi X (r := z4) (σ1 := σ) [.int v1] [] (C_Town_leaners (Cx_gok X) σ 3 v1 ok_Town_3 h_z4) gv_X11_306 yk_X9_leaners rfl (ent_lt ok_Town_3.1) (ent_at ok_Town_3.1 _) (rfl : vCl[8]? = some (RX9, TX9, 20)) ⟨Nat.le_of_ble_eq_true rfl, Nat.le_of_ble_eq_true rfl⟩ ⟨Nat.le_of_ble_eq_true rfl, Nat.le_of_ble_eq_true rfl⟩ (Nat.le_of_ble_eq_true rfl) dX11_leans_10 rfl ?_
    exact e_xr (e_iret X hr dX11_leans_13 (Nat.le_of_ble_eq_true rfl) (Nat.le_of_ble_eq_true rfl) (by cases hF; exact ⟨_, rfl, rfl, rfl⟩))
  · skip
    rw [hz3, sumE_inl] at hF
    cases hF; exact ⟨rfl, rfl⟩
set_option maxRecDepth 20000 in
set_option maxHeartbeats 4000000 in
theorem C_W_rather (hG : Gok l Γ D s0) (σ : Mem) (v1 : Int32)  : CX l Γ D s0 yX11_rather cX11_rather 2 (some .int) 7 1 6 103 σ [.ref (Γ.1 + 0), .int v1] (PXv σ (F_W_rather σ v1)) (XXn σ (F_W_rather σ v1)) := by
  generalize hF : F_W_rather σ v1 = out
  unfold F_W_rather at hF
  refine e_xmet (own := RX11) hG (by decide +kernel) rfl rfl (Nat.le_of_ble_eq_true rfl) ?_
  intro p e s m args below meth c X hex hr
  show E p l e _ s m args below meth c Γ D 0 0 _ σ 0 [some (.ref (Γ.1 + 0)), some (.int v1)] []
  refine e_aload_n X dX11_rather_0 rfl rfl ?_
  refine e_iload_n X dX11_rather_1 rfl rfl ?_
  refine e_xcallVn X hex (F_W_checkPerson σ v1) [.int v1] [] (C_W_checkPerson (Cx_gok X) σ v1) gv_X11_146 yk_X11_checkPerson rfl (ent_lt (rfl : entTbl[0]? = some (0, 0))) (ent_at (rfl : entTbl[0]? = some (0, 0)) _) (rfl : vCl[10]? = some (RX11, TX11, 17)) ⟨Nat.le_of_ble_eq_true rfl, Nat.le_of_ble_eq_true rfl⟩ ⟨Nat.le_of_ble_eq_true rfl, Nat.le_of_ble_eq_true rfl⟩ ⟨Nat.le_of_ble_eq_true rfl, Nat.le_of_ble_eq_true rfl⟩ (Nat.le_of_ble_eq_true rfl) dX11_rather_2 rfl (fun o1 hz3 => ?_) (fun e2 hz3 => ?_)
  · skip
    rw [hz3, sumE_inr] at hF
    refine e_aload_n X dX11_rather_5 rfl rfl ?_
    refine ge_W_pairs X wf_X11_73 dX11_rather_6 ?_
    refine e_aload_n X dX11_rather_9 rfl rfl ?_
    refine ge_W_town X wf_X11_21 dX11_rather_10 ?_
    refine e_iload_n X dX11_rather_13 rfl rfl ?_
    refine e_callVi X (r := (F_Prs_preferred σ 3 v1)) (σ1 := σ) [.ref (Γ.1 + 3), .int v1] [] (C_Prs_preferred (Cx_gok X) σ 3 v1 ok_Town_3) gv_X11_309 yk_X5_preferred rfl (ent_lt (rfl : entTbl[117]? = some (9, 0))) (ent_at (rfl : entTbl[117]? = some (9, 0)) _) (rfl : vCl[5]? = some (RX5, TX5, 3)) ⟨Nat.le_of_ble_eq_true rfl, Nat.le_of_ble_eq_true rfl⟩ ⟨Nat.le_of_ble_eq_true rfl, Nat.le_of_ble_eq_true rfl⟩ (Nat.le_of_ble_eq_true rfl) dX11_rather_14 rfl ?_
    exact e_xr (e_iret X hr dX11_rather_17 (Nat.le_of_ble_eq_true rfl) (Nat.le_of_ble_eq_true rfl) (by cases hF; exact ⟨_, rfl, rfl, rfl⟩))
  · skip
    rw [hz3, sumE_inl] at hF
    cases hF; exact ⟨rfl, rfl⟩
set_option maxRecDepth 20000 in
set_option maxHeartbeats 4000000 in
theorem C_W_steady (hG : Gok l Γ D s0) (σ : Mem) (v1 : Int32)  {out : (String × Mem) ⊕ (Mem × Int32)} (hF : F_W_steady σ v1 = some out) : CX l Γ D s0 yX11_steady cX11_steady 2 (some .int) 47 1 6 3852 σ [.ref (Γ.1 + 0), .int v1] (PXwv out) (XXw out) := by
  unfold F_W_steady at hF
  refine e_xmet (own := RX11) hG (by decide +kernel) rfl rfl (Nat.le_of_ble_eq_true rfl) ?_
  intro p e s m args below meth c X hex hr
  show E p l e _ s m args below meth c Γ D 0 0 _ σ 0 [some (.ref (Γ.1 + 0)), some (.int v1)] []
  refine e_iload_n X dX11_steady_0 rfl rfl ?_
  refine e_iconst X (-1) dX11_steady_1 rfl ?_
  refine e_icmp_ne X 17 dX11_steady_2 (by decide) (fun c1 => ?_) (fun c1 => ?_)
  · skip
    rw [if_neg c1] at hF
    refine e_aload_n X dX11_steady_17 rfl rfl ?_
    refine e_iload_n X dX11_steady_18 rfl rfl ?_
    refine e_xcallVn X hex (F_W_checkPerson σ v1) [.int v1] [] (C_W_checkPerson (Cx_gok X) σ v1) gv_X11_146 yk_X11_checkPerson rfl (ent_lt (rfl : entTbl[0]? = some (0, 0))) (ent_at (rfl : entTbl[0]? = some (0, 0)) _) (rfl : vCl[10]? = some (RX11, TX11, 17)) ⟨Nat.le_of_ble_eq_true rfl, Nat.le_of_ble_eq_true rfl⟩ ⟨Nat.le_of_ble_eq_true rfl, Nat.le_of_ble_eq_true rfl⟩ ⟨Nat.le_of_ble_eq_true rfl, Nat.le_of_ble_eq_true rfl⟩ (Nat.le_of_ble_eq_true rfl) dX11_steady_19 rfl (fun o2 hz4 => ?_) (fun e3 hz4 => ?_)
    · skip
      rw [hz4, sumE_inr] at hF
      refine e_aload_n X dX11_steady_22 rfl rfl ?_
      refine ge_W_pairs X wf_X11_73 dX11_steady_23 ?_
      refine e_aload_n X dX11_steady_26 rfl rfl ?_
      refine ge_W_town X wf_X11_21 dX11_steady_27 ?_
      refine e_iload_n X dX11_steady_30 rfl rfl ?_
      obtain ⟨z5, h_z5, hF⟩ := obind_out hF
      refine e_callVi X (r := z5.2) (σ1 := z5.1) [.ref (Γ.1 + 3), .int v1] [] (C_Prs_steadyPartner (Cx_gok X) σ 3 v1 ok_Town_3 h_z5) gv_X11_321 yk_X5_steadyPartner rfl (ent_lt (rfl : entTbl[117]? = some (9, 0))) (ent_at (rfl : entTbl[117]? = some (9, 0)) _) (rfl : vCl[5]? = some (RX5, TX5, 3)) ⟨Nat.le_of_ble_eq_true rfl, Nat.le_of_ble_eq_true rfl⟩ ⟨Nat.le_of_ble_eq_true rfl, Nat.le_of_ble_eq_true rfl⟩ (Nat.le_of_ble_eq_true rfl) dX11_steady_31 rfl ?_
      exact e_xr (e_iret X hr dX11_steady_34 (Nat.le_of_ble_eq_true rfl) (Nat.le_of_ble_eq_true rfl) (by cases hF; exact ⟨_, rfl, rfl, rfl⟩))
    · skip
      rw [hz4, sumE_inl] at hF
      cases hF; exact ⟨_, rfl, rfl, rfl⟩
  · skip
    rw [if_pos c1] at hF
    refine e_aload_n X dX11_steady_5 rfl rfl ?_
    refine ge_W_pairs X wf_X11_73 dX11_steady_6 ?_
    refine e_aload_n X dX11_steady_9 rfl rfl ?_
    refine ge_W_town X wf_X11_21 dX11_steady_10 ?_
    obtain ⟨z6, h_z6, hF⟩ := obind_out hF
    refine e_callVi X (r := z6.2) (σ1 := z6.1) [.ref (Γ.1 + 3)] [] (C_Prs_steadyWays (Cx_gok X) σ 3 ok_Town_3 h_z6) gv_X11_318 yk_X5_steadyWays rfl (ent_lt (rfl : entTbl[117]? = some (9, 0))) (ent_at (rfl : entTbl[117]? = some (9, 0)) _) (rfl : vCl[5]? = some (RX5, TX5, 3)) ⟨Nat.le_of_ble_eq_true rfl, Nat.le_of_ble_eq_true rfl⟩ ⟨Nat.le_of_ble_eq_true rfl, Nat.le_of_ble_eq_true rfl⟩ (Nat.le_of_ble_eq_true rfl) dX11_steady_13 rfl ?_
    exact e_xr (e_iret X hr dX11_steady_16 (Nat.le_of_ble_eq_true rfl) (Nat.le_of_ble_eq_true rfl) (by cases hF; exact ⟨_, rfl, rfl, rfl⟩))
set_option maxRecDepth 20000 in
set_option maxHeartbeats 4000000 in
theorem C_W_anniversary (hG : Gok l Γ D s0) (σ : Mem) (v1 : Int32)  {out : (String × Mem) ⊕ (Mem × Int32)} (hF : F_W_anniversary σ v1 = some out) : CX l Γ D s0 yX11_anniversary cX11_anniversary 2 (some .int) 7 1 6 102 σ [.ref (Γ.1 + 0), .int v1] (PXwv out) (XXw out) := by
  unfold F_W_anniversary at hF
  refine e_xmet (own := RX11) hG (by decide +kernel) rfl rfl (Nat.le_of_ble_eq_true rfl) ?_
  intro p e s m args below meth c X hex hr
  show E p l e _ s m args below meth c Γ D 0 0 _ σ 0 [some (.ref (Γ.1 + 0)), some (.int v1)] []
  refine e_aload_n X dX11_anniversary_0 rfl rfl ?_
  obtain ⟨z1, h_z1, hF⟩ := obind_out hF
  refine e_xcallVw X hex z1 [] [] (C_W_readTold (Cx_gok X) σ h_z1) gv_X11_327 yk_X11_readTold rfl (ent_lt (rfl : entTbl[0]? = some (0, 0))) (ent_at (rfl : entTbl[0]? = some (0, 0)) _) (rfl : vCl[10]? = some (RX11, TX11, 17)) ⟨Nat.le_of_ble_eq_true rfl, Nat.le_of_ble_eq_true rfl⟩ ⟨Nat.le_of_ble_eq_true rfl, Nat.le_of_ble_eq_true rfl⟩ ⟨Nat.le_of_ble_eq_true rfl, Nat.le_of_ble_eq_true rfl⟩ (Nat.le_of_ble_eq_true rfl) dX11_anniversary_1 rfl (fun o2 hz4 => ?_) (fun e3 hz4 => ?_)
  · skip
    subst hz4; rw [sumE_inr] at hF
    refine e_iload_n X dX11_anniversary_4 rfl rfl ?_
    refine e_if_eq X 18 dX11_anniversary_5 (by decide) (fun c5 => ?_) (fun c5 => ?_)
    · skip
      rw [if_pos c5] at hF
      refine e_aload_n X dX11_anniversary_18 rfl rfl ?_
      refine ge_W_toldSets X wf_X11_80 dX11_anniversary_19 ?_
      obtain ⟨z6, h_z6, hF⟩ := obind_out hF
      refine e_callVi X (r := z6.2) (σ1 := z6.1) [] [] (C_Told_fitting (Cx_gok X) o2 h_z6) gv_X11_333 yk_X8_fitting rfl (ent_lt (rfl : entTbl[122]? = some (10, 0))) (ent_at (rfl : entTbl[122]? = some (10, 0)) _) (rfl : vCl[7]? = some (RX8, TX8, 5)) ⟨Nat.le_of_ble_eq_true rfl, Nat.le_of_ble_eq_true rfl⟩ ⟨Nat.le_of_ble_eq_true rfl, Nat.le_of_ble_eq_true rfl⟩ (Nat.le_of_ble_eq_true rfl) dX11_anniversary_22 rfl ?_
      exact e_xr (e_iret X hr dX11_anniversary_25 (Nat.le_of_ble_eq_true rfl) (Nat.le_of_ble_eq_true rfl) (by cases hF; exact ⟨_, rfl, rfl, rfl⟩))
    · skip
      rw [if_neg c5] at hF
      refine e_aload_n X dX11_anniversary_8 rfl rfl ?_
      refine ge_W_toldSets X wf_X11_80 dX11_anniversary_9 ?_
      obtain ⟨z7, h_z7, hF⟩ := obind_out hF
      refine e_callVi X (r := z7.2) (σ1 := z7.1) [] [] (C_Told_inAll (Cx_gok X) o2 h_z7) gv_X11_330 yk_X8_inAll rfl (ent_lt (rfl : entTbl[122]? = some (10, 0))) (ent_at (rfl : entTbl[122]? = some (10, 0)) _) (rfl : vCl[7]? = some (RX8, TX8, 5)) ⟨Nat.le_of_ble_eq_true rfl, Nat.le_of_ble_eq_true rfl⟩ ⟨Nat.le_of_ble_eq_true rfl, Nat.le_of_ble_eq_true rfl⟩ (Nat.le_of_ble_eq_true rfl) dX11_anniversary_12 rfl ?_
      refine e_goto X 25 dX11_anniversary_15 (by decide) ?_
      exact e_xr (e_iret X hr dX11_anniversary_25 (Nat.le_of_ble_eq_true rfl) (Nat.le_of_ble_eq_true rfl) (by cases hF; exact ⟨_, rfl, rfl, rfl⟩))
  · skip
    subst hz4; rw [sumE_inl] at hF
    cases hF; exact ⟨_, rfl, rfl, rfl⟩
set_option maxRecDepth 20000 in
set_option maxHeartbeats 4000000 in
theorem C_W_dance (hG : Gok l Γ D s0) (σ : Mem)   {out : (String × Mem) ⊕ (Mem × Int32)} (hF : F_W_dance σ = some out) : CX l Γ D s0 yX11_dance cX11_dance 1 (some .int) 7 1 6 102 σ [.ref (Γ.1 + 0)] (PXwv out) (XXw out) := by
  unfold F_W_dance at hF
  refine e_xmet (own := RX11) hG (by decide +kernel) rfl rfl (Nat.le_of_ble_eq_true rfl) ?_
  intro p e s m args below meth c X hex hr
  show E p l e _ s m args below meth c Γ D 0 0 _ σ 0 [some (.ref (Γ.1 + 0))] []
  refine e_aload_n X dX11_dance_0 rfl rfl ?_
  obtain ⟨z1, h_z1, hF⟩ := obind_out hF
  refine e_xcallVw X hex z1 [] [] (C_W_readTold (Cx_gok X) σ h_z1) gv_X11_327 yk_X11_readTold rfl (ent_lt (rfl : entTbl[0]? = some (0, 0))) (ent_at (rfl : entTbl[0]? = some (0, 0)) _) (rfl : vCl[10]? = some (RX11, TX11, 17)) ⟨Nat.le_of_ble_eq_true rfl, Nat.le_of_ble_eq_true rfl⟩ ⟨Nat.le_of_ble_eq_true rfl, Nat.le_of_ble_eq_true rfl⟩ ⟨Nat.le_of_ble_eq_true rfl, Nat.le_of_ble_eq_true rfl⟩ (Nat.le_of_ble_eq_true rfl) dX11_dance_1 rfl (fun o2 hz4 => ?_) (fun e3 hz4 => ?_)
  · skip
    subst hz4; rw [sumE_inr] at hF
    refine e_aload_n X dX11_dance_4 rfl rfl ?_
    refine ge_W_toldSets X wf_X11_80 dX11_dance_5 ?_
    obtain ⟨z5, h_z5, hF⟩ := obind_out hF
    refine e_callVi X (r := z5.2) (σ1 := z5.1) [] [] (C_Told_bestParter (Cx_gok X) o2 h_z5) gv_X11_336 yk_X8_bestParter rfl (ent_lt (rfl : entTbl[122]? = some (10, 0))) (ent_at (rfl : entTbl[122]? = some (10, 0)) _) (rfl : vCl[7]? = some (RX8, TX8, 5)) ⟨Nat.le_of_ble_eq_true rfl, Nat.le_of_ble_eq_true rfl⟩ ⟨Nat.le_of_ble_eq_true rfl, Nat.le_of_ble_eq_true rfl⟩ (Nat.le_of_ble_eq_true rfl) dX11_dance_8 rfl ?_
    exact e_xr (e_iret X hr dX11_dance_11 (Nat.le_of_ble_eq_true rfl) (Nat.le_of_ble_eq_true rfl) (by cases hF; exact ⟨_, rfl, rfl, rfl⟩))
  · skip
    subst hz4; rw [sumE_inl] at hF
    cases hF; exact ⟨_, rfl, rfl, rfl⟩
set_option maxRecDepth 20000 in
set_option maxHeartbeats 4000000 in
theorem C_W_trial (hG : Gok l Γ D s0) (σ : Mem) (v1 : Int32) (v2 : Int32)  {out : (String × Mem) ⊕ (Mem × Int32)} (hF : F_W_trial σ v1 v2 = some out) : CX l Γ D s0 yX11_trial cX11_trial 4 (some .int) 7 1 6 388 σ [.ref (Γ.1 + 0), .int v1, .int v2] (PXwv out) (XXw out) := by
  unfold F_W_trial at hF
  refine e_xmet (own := RX11) hG (by decide +kernel) rfl rfl (Nat.le_of_ble_eq_true rfl) ?_
  intro p e s m args below meth c X hex hr
  show E p l e _ s m args below meth c Γ D 0 0 _ σ 0 [some (.ref (Γ.1 + 0)), some (.int v1), some (.int v2), none] []
  refine e_aload_n X dX11_trial_0 rfl rfl ?_
  refine e_iload_n X dX11_trial_1 rfl rfl ?_
  refine e_iconst X 0 dX11_trial_2 rfl ?_
  refine e_bipush X 40 dX11_trial_3 rfl ?_
  refine e_xcallVn X hex (F_W_checkNumber σ v1 0 40) [.int v1, .int 0, .int 40] [] (C_W_checkNumber (Cx_gok X) σ v1 0 40) gv_X11_252 yk_X11_checkNumber rfl (ent_lt (rfl : entTbl[0]? = some (0, 0))) (ent_at (rfl : entTbl[0]? = some (0, 0)) _) (rfl : vCl[10]? = some (RX11, TX11, 17)) ⟨Nat.le_of_ble_eq_true rfl, Nat.le_of_ble_eq_true rfl⟩ ⟨Nat.le_of_ble_eq_true rfl, Nat.le_of_ble_eq_true rfl⟩ ⟨Nat.le_of_ble_eq_true rfl, Nat.le_of_ble_eq_true rfl⟩ (Nat.le_of_ble_eq_true rfl) dX11_trial_5 rfl (fun o1 hz3 => ?_) (fun e2 hz3 => ?_)
  · skip
    rw [hz3, sumE_inr] at hF
    refine e_aload_n X dX11_trial_8 rfl rfl ?_
    refine ge_W_foresight X wf_X11_66 dX11_trial_9 ?_
    refine e_aload_n X dX11_trial_12 rfl rfl ?_
    refine ge_W_town X wf_X11_21 dX11_trial_13 ?_
    refine e_aload_n X dX11_trial_16 rfl rfl ?_
    refine ge_W_law X wf_X11_28 dX11_trial_17 ?_
    refine e_iload_n X dX11_trial_20 rfl rfl ?_
    refine e_aload_n X dX11_trial_21 rfl rfl ?_
    refine ge_W_town X wf_X11_21 dX11_trial_22 ?_
    refine ge_Town_seed X ok_Town_3 wf_X11_351 dX11_trial_25 ?_
    obtain ⟨z4, h_z4, hF⟩ := obind_out hF
    refine e_callVi X (r := z4.2) (σ1 := z4.1) [.ref (Γ.1 + 3), .ref (Γ.1 + 20), .int v1, .int ((σ 3 17))] [] (C_For_tryMonths (Cx_gok X) σ 3 20 v1 ((σ 3 17)) ok_Town_3 ok_Law_20 h_z4) gv_X11_354 yk_X0_tryMonths rfl (ent_lt (rfl : entTbl[94]? = some (8, 0))) (ent_at (rfl : entTbl[94]? = some (8, 0)) _) (rfl : vCl[0]? = some (RX0, TX0, 4)) ⟨Nat.le_of_ble_eq_true rfl, Nat.le_of_ble_eq_true rfl⟩ ⟨Nat.le_of_ble_eq_true rfl, Nat.le_of_ble_eq_true rfl⟩ (Nat.le_of_ble_eq_true rfl) dX11_trial_28 rfl ?_
    refine e_istore_n X rfl dX11_trial_31 rfl (by decide) ?_
    refine e_iload_n X dX11_trial_32 rfl rfl ?_
    refine e_if_eq X 46 dX11_trial_33 (by decide) (fun c5 => ?_) (fun c5 => ?_)
    · skip
      rw [if_pos c5] at hF
      refine e_iload_n X dX11_trial_46 rfl rfl ?_
      exact e_xr (e_iret X hr dX11_trial_47 (Nat.le_of_ble_eq_true rfl) (Nat.le_of_ble_eq_true rfl) (by cases hF; exact ⟨_, rfl, rfl, rfl⟩))
    · skip
      rw [if_neg c5] at hF
      refine e_aload_n X dX11_trial_36 rfl rfl ?_
      refine ge_W_foresight X wf_X11_66 dX11_trial_37 ?_
      refine e_callVi X (r := (F_For_ruinedInTrial z4.1)) (σ1 := z4.1) [] [] (C_For_ruinedInTrial (Cx_gok X) z4.1) gv_X11_357 yk_X0_ruinedInTrial rfl (ent_lt (rfl : entTbl[94]? = some (8, 0))) (ent_at (rfl : entTbl[94]? = some (8, 0)) _) (rfl : vCl[0]? = some (RX0, TX0, 4)) ⟨Nat.le_of_ble_eq_true rfl, Nat.le_of_ble_eq_true rfl⟩ ⟨Nat.le_of_ble_eq_true rfl, Nat.le_of_ble_eq_true rfl⟩ (Nat.le_of_ble_eq_true rfl) dX11_trial_40 rfl ?_
      refine e_goto X 47 dX11_trial_43 (by decide) ?_
      exact e_xr (e_iret X hr dX11_trial_47 (Nat.le_of_ble_eq_true rfl) (Nat.le_of_ble_eq_true rfl) (by cases hF; exact ⟨_, rfl, rfl, rfl⟩))
  · skip
    rw [hz3, sumE_inl] at hF
    cases hF; exact ⟨_, rfl, rfl, rfl⟩
set_option maxRecDepth 20000 in
set_option maxHeartbeats 4000000 in
theorem L_W_span_29 {Xst : String → Mem → Prop} (X : Cx p l s m args meth c Γ D s0 RX11 cX11_span 6) (hr : meth.sig.returnType = (some .int)) (v1 : Int32) (v2 : Int32)  : ∀ (n : Nat) (v4 : Int32) (v3 : Int32) (σ : Mem) {z : Int32 × Mem}, forSO (fun i s => F_W_span_29_b v1 v2 i s.1 s.2) n v4 (v3, σ) = some z → n = cle v4 6 → ¬ v4 < 0 → (E p l e ({ frames := 7, cells := 1, slots := 6, locals := 388 } : Room) s m args below meth c Γ D 1 6 (vx_MQ below (QcA Γ D Pst) (XcA Γ D Xst) args s 1 6 (frB Γ)) z.2 82 [some (.ref (Γ.1 + 0)), some (.int v1), some (.int v2), some (.int z.1), none, none] []) → E p l e ({ frames := 7, cells := 1, slots := 6, locals := 388 } : Room) s m args below meth c Γ D 1 6 (vx_MQ below (QcA Γ D Pst) (XcA Γ D Xst) args s 1 6 (frB Γ)) σ 29 [some (.ref (Γ.1 + 0)), some (.int v1), some (.int v2), some (.int v3), some (.int v4), none] [] := by
  intro n
  induction n with
  | zero =>
    intro v4 v3 σ z hF hn h0 hK
    refine e_iload X dX11_span_29 rfl ?_
    refine e_bipush X 6 dX11_span_31 rfl ?_
    refine e_icmp_gt X 82 dX11_span_33 (by decide) (fun c10 => ?_) (fun c10 => ?_)
    · skip
      have hz9 := Option.some.inj hF; change ((v3, σ)) = z at hz9; subst hz9
      exact e_le hK (And.intro rfl (And.intro rfl (And.intro rfl (And.intro rfl (trivial)))))
    · skip
      exact absurd (cle0 hn) c10
  | succ n ih =>
    intro v4 v3 σ z hF hn h0 hK
    obtain ⟨y9, hB, hF⟩ := forSO_step hF
    change F_W_span_29_b v1 v2 v4 v3 σ = some y9 at hB
    unfold F_W_span_29_b at hB
    refine e_iload X dX11_span_29 rfl ?_
    refine e_bipush X 6 dX11_span_31 rfl ?_
    refine e_icmp_gt X 82 dX11_span_33 (by decide) (fun c5 => ?_) (fun c5 => ?_)
    · skip
      exact absurd c5 (cleS hn)
    · skip
      refine e_aload_n X dX11_span_36 rfl rfl ?_
      refine ge_W_foresight X wf_X11_66 dX11_span_37 ?_
      refine e_aload_n X dX11_span_40 rfl rfl ?_
      refine ge_W_town X wf_X11_21 dX11_span_41 ?_
      refine e_aload_n X dX11_span_44 rfl rfl ?_
      refine ge_W_law X wf_X11_28 dX11_span_45 ?_
      refine e_iload_n X dX11_span_48 rfl rfl ?_
      refine e_iload X dX11_span_49 rfl ?_
      obtain ⟨z6, h_z6, hB⟩ := obind_out hB
      refine e_callVi X (r := z6.2) (σ1 := z6.1) [.ref (Γ.1 + 3), .ref (Γ.1 + 20), .int v1, .int v4] [] (C_For_tryMonths (Cx_gok X) σ 3 20 v1 v4 ok_Town_3 ok_Law_20 h_z6) gv_X11_354 yk_X0_tryMonths rfl (ent_lt (rfl : entTbl[94]? = some (8, 0))) (ent_at (rfl : entTbl[94]? = some (8, 0)) _) (rfl : vCl[0]? = some (RX0, TX0, 4)) ⟨Nat.le_of_ble_eq_true rfl, Nat.le_of_ble_eq_true rfl⟩ ⟨Nat.le_of_ble_eq_true rfl, Nat.le_of_ble_eq_true rfl⟩ (Nat.le_of_ble_eq_true rfl) dX11_span_51 rfl ?_
      refine e_istore X rfl dX11_span_54 (by decide) ?_
      refine e_iload_n X dX11_span_56 rfl rfl ?_
      refine e_if_eq X 69 dX11_span_57 (by decide) (fun c7 => ?_) (fun c7 => ?_)
      · skip
        rw [if_pos c7] at hB
        refine e_iload_n X dX11_span_69 rfl rfl ?_
        refine e_iload X dX11_span_70 rfl ?_
        refine e_mmin X wMl_X11_365 wMs_min wMi wMc_min (Nat.le_of_ble_eq_true rfl) (Nat.le_of_ble_eq_true rfl) (Nat.le_of_ble_eq_true rfl) (Nat.le_of_ble_eq_true rfl) dX11_span_72 ?_
        obtain ⟨x8, h_x8, hB⟩ := bindT_out hB
        refine e_istore_n X h_x8 dX11_span_75 rfl (by decide) ?_
        refine e_iinc X 1 dX11_span_76 rfl rfl (by decide) ?_
        refine e_goto X 29 dX11_span_79 (by decide) ?_
        have hy9 := Option.some.inj hB; change ((x8, z6.1)) = y9 at hy9; subst hy9
        exact e_le (ih _ x8 z6.1 hF (cleN (by decide) hn) (nnN h0 (cle_hi (by decide) hn)) hK) (And.intro rfl (And.intro rfl (And.intro rfl (And.intro rfl (And.intro rfl (trivial))))))
      · skip
        rw [if_neg c7] at hB
        refine e_iload_n X dX11_span_60 rfl rfl ?_
        refine e_iload X dX11_span_61 rfl ?_
        refine e_mmax X wMl_X11_360 wMs_max wMi wMc_max (Nat.le_of_ble_eq_true rfl) (Nat.le_of_ble_eq_true rfl) (Nat.le_of_ble_eq_true rfl) (Nat.le_of_ble_eq_true rfl) dX11_span_63 ?_
        refine e_goto X 75 dX11_span_66 (by decide) ?_
        obtain ⟨x9, h_x9, hB⟩ := bindT_out hB
        refine e_istore_n X h_x9 dX11_span_75 rfl (by decide) ?_
        refine e_iinc X 1 dX11_span_76 rfl rfl (by decide) ?_
        refine e_goto X 29 dX11_span_79 (by decide) ?_
        have hy9 := Option.some.inj hB; change ((x9, z6.1)) = y9 at hy9; subst hy9
        exact e_le (ih _ x9 z6.1 hF (cleN (by decide) hn) (nnN h0 (cle_hi (by decide) hn)) hK) (And.intro rfl (And.intro rfl (And.intro rfl (And.intro rfl (And.intro rfl (trivial))))))
set_option maxRecDepth 20000 in
set_option maxHeartbeats 4000000 in
theorem C_W_span (hG : Gok l Γ D s0) (σ : Mem) (v1 : Int32) (v2 : Int32)  {out : (String × Mem) ⊕ (Mem × Int32)} (hF : F_W_span σ v1 v2 = some out) : CX l Γ D s0 yX11_span cX11_span 6 (some .int) 7 1 6 388 σ [.ref (Γ.1 + 0), .int v1, .int v2] (PXwv out) (XXw out) := by
  unfold F_W_span at hF
  refine e_xmet (own := RX11) hG (by decide +kernel) rfl rfl (Nat.le_of_ble_eq_true rfl) ?_
  intro p e s m args below meth c X hex hr
  show E p l e _ s m args below meth c Γ D 0 0 _ σ 0 [some (.ref (Γ.1 + 0)), some (.int v1), some (.int v2), none, none, none] []
  refine e_aload_n X dX11_span_0 rfl rfl ?_
  refine e_iload_n X dX11_span_1 rfl rfl ?_
  refine e_iconst X 0 dX11_span_2 rfl ?_
  refine e_bipush X 40 dX11_span_3 rfl ?_
  refine e_xcallVn X hex (F_W_checkNumber σ v1 0 40) [.int v1, .int 0, .int 40] [] (C_W_checkNumber (Cx_gok X) σ v1 0 40) gv_X11_252 yk_X11_checkNumber rfl (ent_lt (rfl : entTbl[0]? = some (0, 0))) (ent_at (rfl : entTbl[0]? = some (0, 0)) _) (rfl : vCl[10]? = some (RX11, TX11, 17)) ⟨Nat.le_of_ble_eq_true rfl, Nat.le_of_ble_eq_true rfl⟩ ⟨Nat.le_of_ble_eq_true rfl, Nat.le_of_ble_eq_true rfl⟩ ⟨Nat.le_of_ble_eq_true rfl, Nat.le_of_ble_eq_true rfl⟩ (Nat.le_of_ble_eq_true rfl) dX11_span_5 rfl (fun o1 hz3 => ?_) (fun e2 hz3 => ?_)
  · skip
    rw [hz3, sumE_inr] at hF
    refine e_aload_n X dX11_span_8 rfl rfl ?_
    refine ge_W_foresight X wf_X11_66 dX11_span_9 ?_
    refine e_aload_n X dX11_span_12 rfl rfl ?_
    refine ge_W_town X wf_X11_21 dX11_span_13 ?_
    refine e_aload_n X dX11_span_16 rfl rfl ?_
    refine ge_W_law X wf_X11_28 dX11_span_17 ?_
    refine e_iload_n X dX11_span_20 rfl rfl ?_
    refine e_iconst X 1 dX11_span_21 rfl ?_
    obtain ⟨z4, h_z4, hF⟩ := obind_out hF
    refine e_callVi X (r := z4.2) (σ1 := z4.1) [.ref (Γ.1 + 3), .ref (Γ.1 + 20), .int v1, .int 1] [] (C_For_tryMonths (Cx_gok X) σ 3 20 v1 1 ok_Town_3 ok_Law_20 h_z4) gv_X11_354 yk_X0_tryMonths rfl (ent_lt (rfl : entTbl[94]? = some (8, 0))) (ent_at (rfl : entTbl[94]? = some (8, 0)) _) (rfl : vCl[0]? = some (RX0, TX0, 4)) ⟨Nat.le_of_ble_eq_true rfl, Nat.le_of_ble_eq_true rfl⟩ ⟨Nat.le_of_ble_eq_true rfl, Nat.le_of_ble_eq_true rfl⟩ (Nat.le_of_ble_eq_true rfl) dX11_span_22 rfl ?_
    refine e_istore_n X rfl dX11_span_25 rfl (by decide) ?_
    refine e_iconst X 2 dX11_span_26 rfl ?_
    refine e_istore X rfl dX11_span_27 (by decide) ?_
    obtain ⟨z11, h_z11, hF⟩ := obind_out hF
    refine e_le (L_W_span_29 X hr v1 v2 _ 2 z4.2 z4.1 h_z11 rfl (by decide) ?_) (And.intro rfl (And.intro rfl (And.intro rfl (And.intro rfl (And.intro rfl (trivial))))))
    refine e_iload_n X dX11_span_82 rfl rfl ?_
    exact e_xr (e_iret X hr dX11_span_83 (Nat.le_of_ble_eq_true rfl) (Nat.le_of_ble_eq_true rfl) (by cases hF; exact ⟨_, rfl, rfl, rfl⟩))
  · skip
    rw [hz3, sumE_inl] at hF
    cases hF; exact ⟨_, rfl, rfl, rfl⟩
set_option maxRecDepth 20000 in
set_option maxHeartbeats 4000000 in
theorem C_W_led (hG : Gok l Γ D s0) (σ : Mem) (v1 : Int32) (v2 : Int32)  : CX l Γ D s0 yX11_led cX11_led 3 (some .int) 7 1 6 103 σ [.ref (Γ.1 + 0), .int v1, .int v2] (PXv σ (F_W_led σ v1 v2)) (XXn σ (F_W_led σ v1 v2)) := by
  generalize hF : F_W_led σ v1 v2 = out
  unfold F_W_led at hF
  refine e_xmet (own := RX11) hG (by decide +kernel) rfl rfl (Nat.le_of_ble_eq_true rfl) ?_
  intro p e s m args below meth c X hex hr
  show E p l e _ s m args below meth c Γ D 0 0 _ σ 0 [some (.ref (Γ.1 + 0)), some (.int v1), some (.int v2)] []
  refine e_aload_n X dX11_led_0 rfl rfl ?_
  refine e_iload_n X dX11_led_1 rfl rfl ?_
  refine e_xcallVn X hex (F_W_checkMatch σ v1) [.int v1] [] (C_W_checkMatch (Cx_gok X) σ v1) gv_X11_187 yk_X11_checkMatch rfl (ent_lt (rfl : entTbl[0]? = some (0, 0))) (ent_at (rfl : entTbl[0]? = some (0, 0)) _) (rfl : vCl[10]? = some (RX11, TX11, 17)) ⟨Nat.le_of_ble_eq_true rfl, Nat.le_of_ble_eq_true rfl⟩ ⟨Nat.le_of_ble_eq_true rfl, Nat.le_of_ble_eq_true rfl⟩ ⟨Nat.le_of_ble_eq_true rfl, Nat.le_of_ble_eq_true rfl⟩ (Nat.le_of_ble_eq_true rfl) dX11_led_2 rfl (fun o1 hz3 => ?_) (fun e2 hz3 => ?_)
  · skip
    rw [hz3, sumE_inr] at hF
    refine e_iload_n X dX11_led_5 rfl rfl ?_
    refine e_if_eq X 20 dX11_led_6 (by decide) (fun c4 => ?_) (fun c4 => ?_)
    · skip
      rw [if_pos c4] at hF
      refine e_aload_n X dX11_led_20 rfl rfl ?_
      refine ge_W_town X wf_X11_21 dX11_led_21 ?_
      refine e_iload_n X dX11_led_24 rfl rfl ?_
      refine e_callVi X (r := (F_Town_loggedClaims σ 3 v1)) (σ1 := σ) [.int v1] [] (C_Town_loggedClaims (Cx_gok X) σ 3 v1 ok_Town_3) gv_X11_371 yk_X9_loggedClaims rfl (ent_lt ok_Town_3.1) (ent_at ok_Town_3.1 _) (rfl : vCl[8]? = some (RX9, TX9, 20)) ⟨Nat.le_of_ble_eq_true rfl, Nat.le_of_ble_eq_true rfl⟩ ⟨Nat.le_of_ble_eq_true rfl, Nat.le_of_ble_eq_true rfl⟩ (Nat.le_of_ble_eq_true rfl) dX11_led_25 rfl ?_
      exact e_xr (e_iret X hr dX11_led_28 (Nat.le_of_ble_eq_true rfl) (Nat.le_of_ble_eq_true rfl) (by cases hF; exact ⟨_, rfl, rfl, rfl⟩))
    · skip
      rw [if_neg c4] at hF
      refine e_aload_n X dX11_led_9 rfl rfl ?_
      refine ge_W_town X wf_X11_21 dX11_led_10 ?_
      refine e_iload_n X dX11_led_13 rfl rfl ?_
      refine e_callVi X (r := (F_Town_loggedPaid σ 3 v1)) (σ1 := σ) [.int v1] [] (C_Town_loggedPaid (Cx_gok X) σ 3 v1 ok_Town_3) gv_X11_368 yk_X9_loggedPaid rfl (ent_lt ok_Town_3.1) (ent_at ok_Town_3.1 _) (rfl : vCl[8]? = some (RX9, TX9, 20)) ⟨Nat.le_of_ble_eq_true rfl, Nat.le_of_ble_eq_true rfl⟩ ⟨Nat.le_of_ble_eq_true rfl, Nat.le_of_ble_eq_true rfl⟩ (Nat.le_of_ble_eq_true rfl) dX11_led_14 rfl ?_
      refine e_goto X 28 dX11_led_17 (by decide) ?_
      exact e_xr (e_iret X hr dX11_led_28 (Nat.le_of_ble_eq_true rfl) (Nat.le_of_ble_eq_true rfl) (by cases hF; exact ⟨_, rfl, rfl, rfl⟩))
  · skip
    rw [hz3, sumE_inl] at hF
    cases hF; exact ⟨rfl, rfl⟩
set_option maxRecDepth 20000 in
set_option maxHeartbeats 4000000 in
theorem C_W_log (hG : Gok l Γ D s0) (σ : Mem) (v1 : Int32) (v2 : Int32)  : CX l Γ D s0 yX11_log cX11_log 3 (some .int) 6 1 6 82 σ [.ref (Γ.1 + 0), .int v1, .int v2] (PXv σ (F_W_log σ v1 v2)) (XXn σ (F_W_log σ v1 v2)) := by
  generalize hF : F_W_log σ v1 v2 = out
  unfold F_W_log at hF
  refine e_xmet (own := RX11) hG (by decide +kernel) rfl rfl (Nat.le_of_ble_eq_true rfl) ?_
  intro p e s m args below meth c X hex hr
  show E p l e _ s m args below meth c Γ D 0 0 _ σ 0 [some (.ref (Γ.1 + 0)), some (.int v1), some (.int v2)] []
  refine e_iload_n X dX11_log_0 rfl rfl ?_
  refine e_if_lt X 9 dX11_log_1 (by decide) (fun c1 => ?_) (fun c1 => ?_)
  · skip
    rw [if_pos c1] at hF
    exact e_throwNSW X hex (cls := "java/util/NoSuchElementException") (text := "the log has no such what") (Y9 := "java/lang/RuntimeException") (r9 := ["java/lang/Exception"]) (by decide +kernel) (by decide +kernel) (by decide +kernel) wxk_175 wxi_4 ((x_gst X).2.1.2 ("RivalWeds", 374, "the log has no such what") (List.mem_of_getElem? (i := 15) (by decide +kernel))) vat_179 vau_179 ((x_gst X).2.2.2.2.1 _ (List.mem_of_getElem? (i := 4) (by decide +kernel))) vag_179 dX11_log_9 dX11_log_12 dX11_log_13 dX11_log_16 dX11_log_19 (Nat.le_of_ble_eq_true rfl) (Nat.le_of_ble_eq_true rfl) (Nat.le_of_ble_eq_true rfl) (Nat.le_of_ble_eq_true rfl) (Nat.le_of_ble_eq_true rfl) (Nat.le_of_ble_eq_true rfl) (by cases hF; exact ⟨rfl, rfl⟩)
  · skip
    rw [if_neg c1] at hF
    refine e_iload_n X dX11_log_4 rfl rfl ?_
    refine e_iconst X 4 dX11_log_5 rfl ?_
    refine e_icmp_lt X 20 dX11_log_6 (by decide) (fun c2 => ?_) (fun c2 => ?_)
    · skip
      rw [if_pos c2] at hF
      refine e_iload_n X dX11_log_20 rfl rfl ?_
      refine e_if_lt X 35 dX11_log_21 (by decide) (fun c3 => ?_) (fun c3 => ?_)
      · skip
        rw [if_pos c3] at hF
        refine e_iconst X (-1) dX11_log_35 rfl ?_
        refine e_goto X 48 dX11_log_36 (by decide) ?_
        exact e_xr (e_iret X hr dX11_log_48 (Nat.le_of_ble_eq_true rfl) (Nat.le_of_ble_eq_true rfl) (by cases hF; exact ⟨_, rfl, rfl, rfl⟩))
      · skip
        rw [if_neg c3] at hF
        refine e_iload_n X dX11_log_24 rfl rfl ?_
        refine e_aload_n X dX11_log_25 rfl rfl ?_
        refine ge_W_town X wf_X11_21 dX11_log_26 ?_
        refine e_callVi X (r := (F_Town_logRows σ 3)) (σ1 := σ) [] [.int v1] (C_Town_logRows (Cx_gok X) σ 3 ok_Town_3) gv_X11_376 yk_X9_logRows rfl (ent_lt ok_Town_3.1) (ent_at ok_Town_3.1 _) (rfl : vCl[8]? = some (RX9, TX9, 20)) ⟨Nat.le_of_ble_eq_true rfl, Nat.le_of_ble_eq_true rfl⟩ ⟨Nat.le_of_ble_eq_true rfl, Nat.le_of_ble_eq_true rfl⟩ (Nat.le_of_ble_eq_true rfl) dX11_log_29 rfl ?_
        refine e_icmp_lt X 39 dX11_log_32 (by decide) (fun c4 => ?_) (fun c4 => ?_)
        · skip
          rw [if_pos c4] at hF
          refine e_aload_n X dX11_log_39 rfl rfl ?_
          refine ge_W_town X wf_X11_21 dX11_log_40 ?_
          refine e_iload_n X dX11_log_43 rfl rfl ?_
          refine e_iload_n X dX11_log_44 rfl rfl ?_
          refine e_callVi X (r := (F_Town_logged σ 3 v1 v2)) (σ1 := σ) [.int v1, .int v2] [] (C_Town_logged (Cx_gok X) σ 3 v1 v2 ok_Town_3) gv_X11_379 yk_X9_logged rfl (ent_lt ok_Town_3.1) (ent_at ok_Town_3.1 _) (rfl : vCl[8]? = some (RX9, TX9, 20)) ⟨Nat.le_of_ble_eq_true rfl, Nat.le_of_ble_eq_true rfl⟩ ⟨Nat.le_of_ble_eq_true rfl, Nat.le_of_ble_eq_true rfl⟩ (Nat.le_of_ble_eq_true rfl) dX11_log_45 rfl ?_
          exact e_xr (e_iret X hr dX11_log_48 (Nat.le_of_ble_eq_true rfl) (Nat.le_of_ble_eq_true rfl) (by cases hF; exact ⟨_, rfl, rfl, rfl⟩))
        · skip
          rw [if_neg c4] at hF
          refine e_iconst X (-1) dX11_log_35 rfl ?_
          refine e_goto X 48 dX11_log_36 (by decide) ?_
          exact e_xr (e_iret X hr dX11_log_48 (Nat.le_of_ble_eq_true rfl) (Nat.le_of_ble_eq_true rfl) (by cases hF; exact ⟨_, rfl, rfl, rfl⟩))
    · skip
      rw [if_neg c2] at hF
      exact e_throwNSW X hex (cls := "java/util/NoSuchElementException") (text := "the log has no such what") (Y9 := "java/lang/RuntimeException") (r9 := ["java/lang/Exception"]) (by decide +kernel) (by decide +kernel) (by decide +kernel) wxk_175 wxi_4 ((x_gst X).2.1.2 ("RivalWeds", 374, "the log has no such what") (List.mem_of_getElem? (i := 15) (by decide +kernel))) vat_179 vau_179 ((x_gst X).2.2.2.2.1 _ (List.mem_of_getElem? (i := 4) (by decide +kernel))) vag_179 dX11_log_9 dX11_log_12 dX11_log_13 dX11_log_16 dX11_log_19 (Nat.le_of_ble_eq_true rfl) (Nat.le_of_ble_eq_true rfl) (Nat.le_of_ble_eq_true rfl) (Nat.le_of_ble_eq_true rfl) (Nat.le_of_ble_eq_true rfl) (Nat.le_of_ble_eq_true rfl) (by cases hF; exact ⟨rfl, rfl⟩)
end PART

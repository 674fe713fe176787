section PART
variable {p : Program} {l : Launch} {e : Env} {R : Room} {s : State} {m : MethodId} {args : Array Value} {below : List Frame} {meth : Method} {c : Code} {Γ : Gm} {D : va_G} {s0 : State} {cells slots : Nat} {Q : State → Prop} {own : String} {cc : ByteArray} {nL : Nat} {σ : Mem} {pc : Nat} {lv : List (Option Value)} {st : List Value} {Pst : Option Value → Mem → Prop}
def H_town (σ : Mem)  : Option (Mem × Int32) := obind (F_W_town σ) fun z1 => sumE z1 (fun e3 => (if e3.1 = "java/lang/IllegalArgumentException" then some ((e3.2, 1)) else (if e3.1 = "java/lang/UnsupportedOperationException" then some ((e3.2, 2)) else none))) (fun o2 => bindT (up o2.1 346 0 o2.2) fun σ5 => some ((σ5, 0)))
def H_law (σ : Mem)  : Option (Mem × Int32) := obind (F_W_law σ) fun z1 => sumE z1 (fun e3 => (if e3.1 = "java/lang/IllegalArgumentException" then some ((e3.2, 1)) else none)) (fun o2 => bindT (up o2.1 346 0 o2.2) fun σ5 => some ((σ5, 0)))
def H_person (σ : Mem) (v1 : Int32) (v2 : Int32) : Option (Mem × Int32) := sumE (F_W_person σ v1 v2) (fun e2 => (if e2 = "java/lang/IndexOutOfBoundsException" then some ((σ, 1)) else (if e2 = "java/util/NoSuchElementException" then some ((σ, 2)) else none))) (fun o1 => bindT (up σ 346 0 o1) fun σ4 => some ((σ4, 0)))
def H_liking (σ : Mem) (v1 : Int32) (v2 : Int32) : Option (Mem × Int32) := sumE (F_W_liking σ v1 v2) (fun e2 => (if e2 = "java/lang/IndexOutOfBoundsException" then some ((σ, 1)) else (if e2 = "java/lang/IllegalArgumentException" then some ((σ, 2)) else none))) (fun o1 => bindT (up σ 346 0 o1) fun σ4 => some ((σ4, 0)))
def H_match (σ : Mem) (v1 : Int32) (v2 : Int32) : Option (Mem × Int32) := obind (F_W_match σ v1 v2) fun z1 => sumE z1 (fun e3 => (if e3.1 = "java/lang/IndexOutOfBoundsException" then some ((e3.2, 1)) else (if e3.1 = "java/util/NoSuchElementException" then some ((e3.2, 2)) else none))) (fun o2 => bindT (up o2.1 346 0 o2.2) fun σ5 => some ((σ5, 0)))
def H_ask (σ : Mem) (v1 : Int32) (v2 : Int32) : Option (Mem × Int32) := obind (F_W_ask σ v1 v2) fun z1 => sumE z1 (fun e3 => (if e3.1 = "java/lang/IndexOutOfBoundsException" then some ((e3.2, 1)) else (if e3.1 = "java/lang/IllegalArgumentException" then some ((e3.2, 2)) else none))) (fun o2 => (if o2.2 = 0 then bindT (up o2.1 346 0 ((0 : Int32))) fun σ6 => some ((σ6, 0)) else bindT (up o2.1 346 0 ((1 : Int32))) fun σ7 => some ((σ7, 0))))
def H_wed (σ : Mem) (v1 : Int32) (v2 : Int32) : Option (Mem × Int32) := obind (F_W_wed σ v1 v2) fun z1 => sumE z1 (fun e3 => (if e3.1 = "java/lang/IndexOutOfBoundsException" then some ((e3.2, 1)) else (if e3.1 = "java/lang/IllegalArgumentException" then some ((e3.2, 2)) else (if e3.1 = "java/lang/IllegalStateException" then some ((e3.2, 3)) else (if e3.1 = "java/lang/UnsupportedOperationException" then some ((e3.2, 4)) else none))))) (fun o2 => bindT (up o2.1 346 0 o2.2) fun σ5 => some ((σ5, 0)))
def H_gift (σ : Mem) (v1 : Int32) (v2 : Int32) : Option (Mem × Int32) := obind (F_W_gift σ v1 v2) fun z1 => sumE z1 (fun e3 => (if e3.1 = "java/lang/IndexOutOfBoundsException" then some ((e3.2, 1)) else (if e3.1 = "java/lang/IllegalStateException" then some ((e3.2, 2)) else none))) (fun o2 => bindT (up o2.1 346 0 o2.2) fun σ5 => some ((σ5, 0)))
def H_meddle (σ : Mem) (v1 : Int32) (v2 : Int32) : Option (Mem × Int32) := obind (F_W_meddle σ v1 v2) fun z1 => sumE z1 (fun e3 => (if e3.1 = "java/lang/IndexOutOfBoundsException" then some ((e3.2, 1)) else (if e3.1 = "java/lang/IllegalStateException" then some ((e3.2, 2)) else none))) (fun o2 => bindT (up o2.1 346 0 o2.2) fun σ5 => some ((σ5, 0)))
def H_reinsure (σ : Mem) (v1 : Int32) (v2 : Int32) : Option (Mem × Int32) := obind (F_W_reinsure σ v1 v2) fun z1 => sumE z1 (fun e3 => (if e3.1 = "java/lang/IndexOutOfBoundsException" then some ((e3.2, 1)) else (if e3.1 = "java/lang/IllegalArgumentException" then some ((e3.2, 2)) else none))) (fun o2 => bindT (up o2.1 346 0 o2.2) fun σ5 => some ((σ5, 0)))
def H_part (σ : Mem) (v1 : Int32) : Option (Mem × Int32) := obind (F_W_part σ v1) fun z1 => sumE z1 (fun e3 => (if e3.1 = "java/lang/IndexOutOfBoundsException" then some ((e3.2, 1)) else (if e3.1 = "java/lang/IllegalStateException" then some ((e3.2, 2)) else none))) (fun o2 => bindT (up o2.1 346 0 o2.2) fun σ5 => some ((σ5, 0)))
def H_months (σ : Mem) (v1 : Int32) : Option (Mem × Int32) := obind (F_W_months σ v1) fun z1 => sumE z1 (fun e3 => (if e3.1 = "java/lang/IllegalArgumentException" then some ((e3.2, 1)) else none)) (fun o2 => bindT (up o2.1 346 0 o2.2) fun σ5 => some ((σ5, 0)))
def H_would (σ : Mem) (v1 : Int32) (v2 : Int32) : Option (Mem × Int32) := sumE (F_W_would σ v1 v2) (fun e2 => (if e2 = "java/lang/IndexOutOfBoundsException" then some ((σ, 1)) else (if e2 = "java/lang/IllegalArgumentException" then some ((σ, 2)) else none))) (fun o1 => bindT (up σ 346 0 o1) fun σ4 => some ((σ4, 0)))
def H_best (σ : Mem) (v1 : Int32) : Option (Mem × Int32) := sumE (F_W_best σ v1) (fun e2 => (if e2 = "java/lang/IndexOutOfBoundsException" then some ((σ, 1)) else none)) (fun o1 => bindT (up σ 346 0 o1) fun σ4 => some ((σ4, 0)))
def H_next (σ : Mem) (v1 : Int32) (v2 : Int32) : Option (Mem × Int32) := obind (F_W_next σ v1 v2) fun z1 => sumE z1 (fun e3 => (if e3.1 = "java/lang/IndexOutOfBoundsException" then some ((e3.2, 1)) else (if e3.1 = "java/lang/IllegalArgumentException" then some ((e3.2, 2)) else none))) (fun o2 => bindT (up o2.1 346 0 o2.2) fun σ5 => some ((σ5, 0)))
def H_ahead (σ : Mem) (v1 : Int32) (v2 : Int32) (v3 : Int32) : Option (Mem × Int32) := obind (F_W_ahead σ v1 v2 v3) fun z1 => sumE z1 (fun e3 => (if e3.1 = "java/lang/IndexOutOfBoundsException" then some ((e3.2, 1)) else (if e3.1 = "java/lang/IllegalArgumentException" then some ((e3.2, 2)) else none))) (fun o2 => bindT (up o2.1 346 0 o2.2) fun σ5 => some ((σ5, 0)))
def H_first (σ : Mem) (v1 : Int32) (v2 : Int32) : Option (Mem × Int32) := obind (F_W_first σ v1 v2) fun z1 => sumE z1 (fun e3 => (if e3.1 = "java/lang/IndexOutOfBoundsException" then some ((e3.2, 1)) else (if e3.1 = "java/lang/IllegalArgumentException" then some ((e3.2, 2)) else none))) (fun o2 => bindT (up o2.1 346 0 o2.2) fun σ5 => some ((σ5, 0)))
def H_odds (σ : Mem) (v1 : Int32) : Option (Mem × Int32) := obind (F_W_odds σ v1) fun z1 => sumE z1 (fun e3 => (if e3.1 = "java/lang/IndexOutOfBoundsException" then some ((e3.2, 1)) else none)) (fun o2 => bindT (up o2.1 346 0 o2.2) fun σ5 => some ((σ5, 0)))
def H_loses (σ : Mem) (v1 : Int32) : Option (Mem × Int32) := obind (F_W_loses σ v1) fun z1 => sumE z1 (fun e3 => (if e3.1 = "java/lang/IndexOutOfBoundsException" then some ((e3.2, 1)) else none)) (fun o2 => bindT (up o2.1 346 0 o2.2) fun σ5 => some ((σ5, 0)))
def H_holds (σ : Mem) (v1 : Int32) : Option (Mem × Int32) := obind (F_W_holds σ v1) fun z1 => sumE z1 (fun e3 => (if e3.1 = "java/lang/IndexOutOfBoundsException" then some ((e3.2, 1)) else none)) (fun o2 => bindT (up o2.1 346 0 o2.2) fun σ5 => some ((σ5, 0)))
def H_ring (σ : Mem) (v1 : Int32) : Option (Mem × Int32) := obind (F_W_ring σ v1) fun z1 => sumE z1 (fun e3 => (if e3 = "java/lang/IndexOutOfBoundsException" then some ((σ, 1)) else none)) (fun o2 => bindT (up σ 346 0 o2) fun σ5 => some ((σ5, 0)))
def H_leans (σ : Mem) (v1 : Int32) : Option (Mem × Int32) := obind (F_W_leans σ v1) fun z1 => sumE z1 (fun e3 => (if e3 = "java/lang/IndexOutOfBoundsException" then some ((σ, 1)) else none)) (fun o2 => bindT (up σ 346 0 o2) fun σ5 => some ((σ5, 0)))
def H_gifts (σ : Mem) (v1 : Int32) (v2 : Int32) (v3 : Int32) : Option (Mem × Int32) := obind (F_W_gifts σ v1 v2 v3) fun z1 => sumE z1 (fun e3 => (if e3.1 = "java/lang/IndexOutOfBoundsException" then some ((e3.2, 1)) else (if e3.1 = "java/lang/IllegalArgumentException" then some ((e3.2, 2)) else none))) (fun o2 => bindT (up o2.1 346 0 o2.2) fun σ5 => some ((σ5, 0)))
def H_rather (σ : Mem) (v1 : Int32) : Option (Mem × Int32) := sumE (F_W_rather σ v1) (fun e2 => (if e2 = "java/lang/IndexOutOfBoundsException" then some ((σ, 1)) else none)) (fun o1 => bindT (up σ 346 0 o1) fun σ4 => some ((σ4, 0)))
def H_steady (σ : Mem) (v1 : Int32) : Option (Mem × Int32) := obind (F_W_steady σ v1) fun z1 => sumE z1 (fun e3 => (if e3.1 = "java/lang/IndexOutOfBoundsException" then some ((e3.2, 1)) else none)) (fun o2 => bindT (up o2.1 346 0 o2.2) fun σ5 => some ((σ5, 0)))
def H_anniversary (σ : Mem) (v1 : Int32) : Option (Mem × Int32) := obind (F_W_anniversary σ v1) fun z1 => sumE z1 (fun e3 => (if e3.1 = "java/lang/IllegalArgumentException" then some ((e3.2, 1)) else none)) (fun o2 => bindT (up o2.1 346 0 o2.2) fun σ5 => some ((σ5, 0)))
def H_dance (σ : Mem)  : Option (Mem × Int32) := obind (F_W_dance σ) fun z1 => sumE z1 (fun e3 => (if e3.1 = "java/lang/IllegalArgumentException" then some ((e3.2, 1)) else none)) (fun o2 => bindT (up o2.1 346 0 o2.2) fun σ5 => some ((σ5, 0)))
def H_trial (σ : Mem) (v1 : Int32) (v2 : Int32) : Option (Mem × Int32) := obind (F_W_trial σ v1 v2) fun z1 => sumE z1 (fun e3 => (if e3.1 = "java/lang/IllegalArgumentException" then some ((e3.2, 1)) else none)) (fun o2 => bindT (up o2.1 346 0 o2.2) fun σ5 => some ((σ5, 0)))
def H_span (σ : Mem) (v1 : Int32) (v2 : Int32) : Option (Mem × Int32) := obind (F_W_span σ v1 v2) fun z1 => sumE z1 (fun e3 => (if e3.1 = "java/lang/IllegalArgumentException" then some ((e3.2, 1)) else none)) (fun o2 => bindT (up o2.1 346 0 o2.2) fun σ5 => some ((σ5, 0)))
def H_led (σ : Mem) (v1 : Int32) (v2 : Int32) : Option (Mem × Int32) := sumE (F_W_led σ v1 v2) (fun e2 => (if e2 = "java/lang/IndexOutOfBoundsException" then some ((σ, 1)) else none)) (fun o1 => bindT (up σ 346 0 o1) fun σ4 => some ((σ4, 0)))
def H_log (σ : Mem) (v1 : Int32) (v2 : Int32) : Option (Mem × Int32) := sumE (F_W_log σ v1 v2) (fun e2 => (if e2 = "java/util/NoSuchElementException" then some ((σ, 1)) else none)) (fun o1 => bindT (up σ 346 0 o1) fun σ4 => some ((σ4, 0)))
set_option maxRecDepth 20000 in
set_option maxHeartbeats 4000000 in
theorem CH_town (hG : Gok l Γ D s0) (σ : Mem)  {out : Mem × Int32} (hF : H_town σ = some out) : CXH l Γ D s0 yL_town cL_town 3 (some .int) [(0, 8, 11, 13), (0, 8, 14, 15)] 10 1 6 383 σ [.ref (Γ.1 + 0), .ref (Γ.1 + 346)] (PI (some (.int out.2)) out.1) := by
  unfold H_town at hF
  refine e_hmet (own := RL) (hh := [(0, 8, 11, 13), (0, 8, 14, 15)]) hG (by decide +kernel) rfl rfl (Nat.le_of_ble_eq_true rfl) ?_
  intro p e s m args below meth c X hex hr
  show E p l e _ s m args below meth c Γ D 0 0 _ σ 0 [some (.ref (Γ.1 + 0)), some (.ref (Γ.1 + 346)), none] []
  refine e_aload_n X dL_town_0 rfl rfl ?_
  refine e_iconst X 0 dL_town_1 rfl ?_
  refine e_aload_n X dL_town_2 rfl rfl ?_
  obtain ⟨z1, h_z1, hF⟩ := obind_out hF
  refine e_hcallVwv X z1 [] [.int 0, .ref (Γ.1 + 346)] (C_W_town (Cx_gok X) σ h_z1) gv_L_7 yk_X11_town rfl (ent_lt (rfl : entTbl[0]? = some (0, 0))) (ent_at (rfl : entTbl[0]? = some (0, 0)) _) (rfl : vCl[10]? = some (RX11, TX11, 17)) ⟨Nat.le_of_ble_eq_true rfl, Nat.le_of_ble_eq_true rfl⟩ ⟨Nat.le_of_ble_eq_true rfl, Nat.le_of_ble_eq_true rfl⟩ (Nat.le_of_ble_eq_true rfl) dL_town_3 rfl (fun o2 hz4 => ?_) (fun e3 hz4 => ?_)
  · skip
    subst hz4; rw [sumE_inr] at hF
    refine e_i2l X dL_town_6 ?_
    obtain ⟨σ5, h_σ5, hF⟩ := bindT_out hF
    refine e_last X dL_town_7 h_σ5 ?_
    refine e_goto X 17 dL_town_8 (by decide) ?_
    refine e_iconst X 0 dL_town_17 rfl ?_
    exact e_xr (e_iret X hr dL_town_18 (Nat.le_of_ble_eq_true rfl) (Nat.le_of_ble_eq_true rfl) (by cases hF; exact ⟨rfl, rfl⟩))
  · skip
    subst hz4; rw [sumE_inl] at hF
    by_cases c6 : e3.1 = "java/lang/IllegalArgumentException"
    · rw [if_pos c6] at hF
      rw [c6]
      refine e_hcatch X (hh := [(0, 8, 11, 13), (0, 8, 14, 15)]) [] ⟨0, 8, 11, 13⟩ [⟨0, 8, 14, 15⟩] hex rfl (fun z9 hz9 => nomatch hz9) (by decide) (by decide) wlk_13 ((x_gst X).2.2.2.2.1 _ (List.mem_of_getElem? (i := 0) (by decide +kernel))) 11 rfl (fun q9 => ?_)
      refine e_astore_n X dL_town_11 rfl (by decide) ?_
      refine e_iconst X 1 dL_town_12 rfl ?_
      exact e_xr (e_iret X hr dL_town_13 (Nat.le_of_ble_eq_true rfl) (Nat.le_of_ble_eq_true rfl) (by cases hF; exact ⟨rfl, rfl⟩))
    · rw [if_neg c6] at hF
      by_cases c7 : e3.1 = "java/lang/UnsupportedOperationException"
      · rw [if_pos c7] at hF
        rw [c7]
        refine e_hcatch X (hh := [(0, 8, 11, 13), (0, 8, 14, 15)]) [⟨0, 8, 11, 13⟩] ⟨0, 8, 14, 15⟩ [] hex rfl (List.forall_mem_cons.mpr ⟨⟨by decide, "java/lang/IllegalArgumentException", wlk_13, (x_gst X).2.2.2.2.2 _ (List.mem_of_getElem? (i := 3) (by decide +kernel)) _ (List.mem_of_getElem? (i := 0) (by decide +kernel)) (by decide)⟩, (fun z9 hz9 => nomatch hz9)⟩) (by decide) (by decide) wlk_15 ((x_gst X).2.2.2.2.1 _ (List.mem_of_getElem? (i := 3) (by decide +kernel))) 14 rfl (fun q9 => ?_)
        refine e_astore_n X dL_town_14 rfl (by decide) ?_
        refine e_iconst X 2 dL_town_15 rfl ?_
        exact e_xr (e_iret X hr dL_town_16 (Nat.le_of_ble_eq_true rfl) (Nat.le_of_ble_eq_true rfl) (by cases hF; exact ⟨rfl, rfl⟩))
      · rw [if_neg c7] at hF
        cases hF
set_option maxRecDepth 20000 in
set_option maxHeartbeats 4000000 in
theorem CH_law (hG : Gok l Γ D s0) (σ : Mem)  {out : Mem × Int32} (hF : H_law σ = some out) : CXH l Γ D s0 yL_law cL_law 3 (some .int) [(0, 8, 11, 13)] 39 1 6 832 σ [.ref (Γ.1 + 0), .ref (Γ.1 + 346)] (PI (some (.int out.2)) out.1) := by
  unfold H_law at hF
  refine e_hmet (own := RL) (hh := [(0, 8, 11, 13)]) hG (by decide +kernel) rfl rfl (Nat.le_of_ble_eq_true rfl) ?_
  intro p e s m args below meth c X hex hr
  show E p l e _ s m args below meth c Γ D 0 0 _ σ 0 [some (.ref (Γ.1 + 0)), some (.ref (Γ.1 + 346)), none] []
  refine e_aload_n X dL_law_0 rfl rfl ?_
  refine e_iconst X 0 dL_law_1 rfl ?_
  refine e_aload_n X dL_law_2 rfl rfl ?_
  obtain ⟨z1, h_z1, hF⟩ := obind_out hF
  refine e_hcallVwv X z1 [] [.int 0, .ref (Γ.1 + 346)] (C_W_law (Cx_gok X) σ h_z1) gv_L_17 yk_X11_law rfl (ent_lt (rfl : entTbl[0]? = some (0, 0))) (ent_at (rfl : entTbl[0]? = some (0, 0)) _) (rfl : vCl[10]? = some (RX11, TX11, 17)) ⟨Nat.le_of_ble_eq_true rfl, Nat.le_of_ble_eq_true rfl⟩ ⟨Nat.le_of_ble_eq_true rfl, Nat.le_of_ble_eq_true rfl⟩ (Nat.le_of_ble_eq_true rfl) dL_law_3 rfl (fun o2 hz4 => ?_) (fun e3 hz4 => ?_)
  · skip
    subst hz4; rw [sumE_inr] at hF
    refine e_i2l X dL_law_6 ?_
    obtain ⟨σ5, h_σ5, hF⟩ := bindT_out hF
    refine e_last X dL_law_7 h_σ5 ?_
    refine e_goto X 14 dL_law_8 (by decide) ?_
    refine e_iconst X 0 dL_law_14 rfl ?_
    exact e_xr (e_iret X hr dL_law_15 (Nat.le_of_ble_eq_true rfl) (Nat.le_of_ble_eq_true rfl) (by cases hF; exact ⟨rfl, rfl⟩))
  · skip
    subst hz4; rw [sumE_inl] at hF
    by_cases c6 : e3.1 = "java/lang/IllegalArgumentException"
    · rw [if_pos c6] at hF
      rw [c6]
      refine e_hcatch X (hh := [(0, 8, 11, 13)]) [] ⟨0, 8, 11, 13⟩ [] hex rfl (fun z9 hz9 => nomatch hz9) (by decide) (by decide) wlk_13 ((x_gst X).2.2.2.2.1 _ (List.mem_of_getElem? (i := 0) (by decide +kernel))) 11 rfl (fun q9 => ?_)
      refine e_astore_n X dL_law_11 rfl (by decide) ?_
      refine e_iconst X 1 dL_law_12 rfl ?_
      exact e_xr (e_iret X hr dL_law_13 (Nat.le_of_ble_eq_true rfl) (Nat.le_of_ble_eq_true rfl) (by cases hF; exact ⟨rfl, rfl⟩))
    · rw [if_neg c6] at hF
      cases hF
set_option maxRecDepth 20000 in
set_option maxHeartbeats 4000000 in
theorem CH_person (hG : Gok l Γ D s0) (σ : Mem) (v1 : Int32) (v2 : Int32) {out : Mem × Int32} (hF : H_person σ v1 v2 = some out) : CXH l Γ D s0 yL_person cL_person 5 (some .int) [(0, 10, 13, 24), (0, 10, 17, 26)] 8 2 12 125 σ [.ref (Γ.1 + 0), .int v1, .int v2, .ref (Γ.1 + 346)] (PI (some (.int out.2)) out.1) := by
  unfold H_person at hF
  refine e_hmet (own := RL) (hh := [(0, 10, 13, 24), (0, 10, 17, 26)]) hG (by decide +kernel) rfl rfl (Nat.le_of_ble_eq_true rfl) ?_
  intro p e s m args below meth c X hex hr
  show E p l e _ s m args below meth c Γ D 0 0 _ σ 0 [some (.ref (Γ.1 + 0)), some (.int v1), some (.int v2), some (.ref (Γ.1 + 346)), none] []
  refine e_aload_n X dL_person_0 rfl rfl ?_
  refine e_iconst X 0 dL_person_1 rfl ?_
  refine e_aload_n X dL_person_2 rfl rfl ?_
  refine e_iload_n X dL_person_3 rfl rfl ?_
  refine e_iload_n X dL_person_4 rfl rfl ?_
  refine e_hcallVv X (F_W_person σ v1 v2) [.int v1, .int v2] [.int 0, .ref (Γ.1 + 346)] (C_W_person (Cx_gok X) σ v1 v2) gv_L_20 yk_X11_person rfl (ent_lt (rfl : entTbl[0]? = some (0, 0))) (ent_at (rfl : entTbl[0]? = some (0, 0)) _) (rfl : vCl[10]? = some (RX11, TX11, 17)) ⟨Nat.le_of_ble_eq_true rfl, Nat.le_of_ble_eq_true rfl⟩ ⟨Nat.le_of_ble_eq_true rfl, Nat.le_of_ble_eq_true rfl⟩ (Nat.le_of_ble_eq_true rfl) dL_person_5 rfl (fun o1 hz3 => ?_) (fun e2 hz3 => ?_)
  · skip
    rw [hz3, sumE_inr] at hF
    refine e_i2l X dL_person_8 ?_
    obtain ⟨σ4, h_σ4, hF⟩ := bindT_out hF
    refine e_last X dL_person_9 h_σ4 ?_
    refine e_goto X 21 dL_person_10 (by decide) ?_
    refine e_iconst X 0 dL_person_21 rfl ?_
    exact e_xr (e_iret X hr dL_person_22 (Nat.le_of_ble_eq_true rfl) (Nat.le_of_ble_eq_true rfl) (by cases hF; exact ⟨rfl, rfl⟩))
  · skip
    rw [hz3, sumE_inl] at hF
    by_cases c5 : e2 = "java/lang/IndexOutOfBoundsException"
    · rw [if_pos c5] at hF
      rw [c5]
      refine e_hcatch X (hh := [(0, 10, 13, 24), (0, 10, 17, 26)]) [] ⟨0, 10, 13, 24⟩ [⟨0, 10, 17, 26⟩] hex rfl (fun z9 hz9 => nomatch hz9) (by decide) (by decide) wlk_24 ((x_gst X).2.2.2.2.1 _ (List.mem_of_getElem? (i := 2) (by decide +kernel))) 13 rfl (fun q9 => ?_)
      refine e_astore X dL_person_13 (by decide) ?_
      refine e_iconst X 1 dL_person_15 rfl ?_
      exact e_xr (e_iret X hr dL_person_16 (Nat.le_of_ble_eq_true rfl) (Nat.le_of_ble_eq_true rfl) (by cases hF; exact ⟨rfl, rfl⟩))
    · rw [if_neg c5] at hF
      by_cases c6 : e2 = "java/util/NoSuchElementException"
      · rw [if_pos c6] at hF
        rw [c6]
        refine e_hcatch X (hh := [(0, 10, 13, 24), (0, 10, 17, 26)]) [⟨0, 10, 13, 24⟩] ⟨0, 10, 17, 26⟩ [] hex rfl (List.forall_mem_cons.mpr ⟨⟨by decide, "java/lang/IndexOutOfBoundsException", wlk_24, (x_gst X).2.2.2.2.2 _ (List.mem_of_getElem? (i := 4) (by decide +kernel)) _ (List.mem_of_getElem? (i := 2) (by decide +kernel)) (by decide)⟩, (fun z9 hz9 => nomatch hz9)⟩) (by decide) (by decide) wlk_26 ((x_gst X).2.2.2.2.1 _ (List.mem_of_getElem? (i := 4) (by decide +kernel))) 17 rfl (fun q9 => ?_)
        refine e_astore X dL_person_17 (by decide) ?_
        refine e_iconst X 2 dL_person_19 rfl ?_
        exact e_xr (e_iret X hr dL_person_20 (Nat.le_of_ble_eq_true rfl) (Nat.le_of_ble_eq_true rfl) (by cases hF; exact ⟨rfl, rfl⟩))
      · rw [if_neg c6] at hF
        cases hF
set_option maxRecDepth 20000 in
set_option maxHeartbeats 4000000 in
theorem CH_liking (hG : Gok l Γ D s0) (σ : Mem) (v1 : Int32) (v2 : Int32) {out : Mem × Int32} (hF : H_liking σ v1 v2 = some out) : CXH l Γ D s0 yL_liking cL_liking 5 (some .int) [(0, 10, 13, 24), (0, 10, 17, 13)] 9 3 18 147 σ [.ref (Γ.1 + 0), .int v1, .int v2, .ref (Γ.1 + 346)] (PI (some (.int out.2)) out.1) := by
  unfold H_liking at hF
  refine e_hmet (own := RL) (hh := [(0, 10, 13, 24), (0, 10, 17, 13)]) hG (by decide +kernel) rfl rfl (Nat.le_of_ble_eq_true rfl) ?_
  intro p e s m args below meth c X hex hr
  show E p l e _ s m args below meth c Γ D 0 0 _ σ 0 [some (.ref (Γ.1 + 0)), some (.int v1), some (.int v2), some (.ref (Γ.1 + 346)), none] []
  refine e_aload_n X dL_liking_0 rfl rfl ?_
  refine e_iconst X 0 dL_liking_1 rfl ?_
  refine e_aload_n X dL_liking_2 rfl rfl ?_
  refine e_iload_n X dL_liking_3 rfl rfl ?_
  refine e_iload_n X dL_liking_4 rfl rfl ?_
  refine e_hcallVv X (F_W_liking σ v1 v2) [.int v1, .int v2] [.int 0, .ref (Γ.1 + 346)] (C_W_liking (Cx_gok X) σ v1 v2) gv_L_28 yk_X11_liking rfl (ent_lt (rfl : entTbl[0]? = some (0, 0))) (ent_at (rfl : entTbl[0]? = some (0, 0)) _) (rfl : vCl[10]? = some (RX11, TX11, 17)) ⟨Nat.le_of_ble_eq_true rfl, Nat.le_of_ble_eq_true rfl⟩ ⟨Nat.le_of_ble_eq_true rfl, Nat.le_of_ble_eq_true rfl⟩ (Nat.le_of_ble_eq_true rfl) dL_liking_5 rfl (fun o1 hz3 => ?_) (fun e2 hz3 => ?_)
  · skip
    rw [hz3, sumE_inr] at hF
    refine e_i2l X dL_liking_8 ?_
    obtain ⟨σ4, h_σ4, hF⟩ := bindT_out hF
    refine e_last X dL_liking_9 h_σ4 ?_
    refine e_goto X 21 dL_liking_10 (by decide) ?_
    refine e_iconst X 0 dL_liking_21 rfl ?_
    exact e_xr (e_iret X hr dL_liking_22 (Nat.le_of_ble_eq_true rfl) (Nat.le_of_ble_eq_true rfl) (by cases hF; exact ⟨rfl, rfl⟩))
  · skip
    rw [hz3, sumE_inl] at hF
    by_cases c5 : e2 = "java/lang/IndexOutOfBoundsException"
    · rw [if_pos c5] at hF
      rw [c5]
      refine e_hcatch X (hh := [(0, 10, 13, 24), (0, 10, 17, 13)]) [] ⟨0, 10, 13, 24⟩ [⟨0, 10, 17, 13⟩] hex rfl (fun z9 hz9 => nomatch hz9) (by decide) (by decide) wlk_24 ((x_gst X).2.2.2.2.1 _ (List.mem_of_getElem? (i := 2) (by decide +kernel))) 13 rfl (fun q9 => ?_)
      refine e_astore X dL_liking_13 (by decide) ?_
      refine e_iconst X 1 dL_liking_15 rfl ?_
      exact e_xr (e_iret X hr dL_liking_16 (Nat.le_of_ble_eq_true rfl) (Nat.le_of_ble_eq_true rfl) (by cases hF; exact ⟨rfl, rfl⟩))
    · rw [if_neg c5] at hF
      by_cases c6 : e2 = "java/lang/IllegalArgumentException"
      · rw [if_pos c6] at hF
        rw [c6]
        refine e_hcatch X (hh := [(0, 10, 13, 24), (0, 10, 17, 13)]) [⟨0, 10, 13, 24⟩] ⟨0, 10, 17, 13⟩ [] hex rfl (List.forall_mem_cons.mpr ⟨⟨by decide, "java/lang/IndexOutOfBoundsException", wlk_24, (x_gst X).2.2.2.2.2 _ (List.mem_of_getElem? (i := 0) (by decide +kernel)) _ (List.mem_of_getElem? (i := 2) (by decide +kernel)) (by decide)⟩, (fun z9 hz9 => nomatch hz9)⟩) (by decide) (by decide) wlk_13 ((x_gst X).2.2.2.2.1 _ (List.mem_of_getElem? (i := 0) (by decide +kernel))) 17 rfl (fun q9 => ?_)
        refine e_astore X dL_liking_17 (by decide) ?_
        refine e_iconst X 2 dL_liking_19 rfl ?_
        exact e_xr (e_iret X hr dL_liking_20 (Nat.le_of_ble_eq_true rfl) (Nat.le_of_ble_eq_true rfl) (by cases hF; exact ⟨rfl, rfl⟩))
      · rw [if_neg c6] at hF
        cases hF
set_option maxRecDepth 20000 in
set_option maxHeartbeats 4000000 in
theorem CH_match (hG : Gok l Γ D s0) (σ : Mem) (v1 : Int32) (v2 : Int32) {out : Mem × Int32} (hF : H_match σ v1 v2 = some out) : CXH l Γ D s0 yL_match cL_match 5 (some .int) [(0, 10, 13, 24), (0, 10, 17, 26)] 8 2 12 137 σ [.ref (Γ.1 + 0), .int v1, .int v2, .ref (Γ.1 + 346)] (PI (some (.int out.2)) out.1) := by
  unfold H_match at hF
  refine e_hmet (own := RL) (hh := [(0, 10, 13, 24), (0, 10, 17, 26)]) hG (by decide +kernel) rfl rfl (Nat.le_of_ble_eq_true rfl) ?_
  intro p e s m args below meth c X hex hr
  show E p l e _ s m args below meth c Γ D 0 0 _ σ 0 [some (.ref (Γ.1 + 0)), some (.int v1), some (.int v2), some (.ref (Γ.1 + 346)), none] []
  refine e_aload_n X dL_match_0 rfl rfl ?_
  refine e_iconst X 0 dL_match_1 rfl ?_
  refine e_aload_n X dL_match_2 rfl rfl ?_
  refine e_iload_n X dL_match_3 rfl rfl ?_
  refine e_iload_n X dL_match_4 rfl rfl ?_
  obtain ⟨z1, h_z1, hF⟩ := obind_out hF
  refine e_hcallVwv X z1 [.int v1, .int v2] [.int 0, .ref (Γ.1 + 346)] (C_W_match (Cx_gok X) σ v1 v2 h_z1) gv_L_31 yk_X11_match rfl (ent_lt (rfl : entTbl[0]? = some (0, 0))) (ent_at (rfl : entTbl[0]? = some (0, 0)) _) (rfl : vCl[10]? = some (RX11, TX11, 17)) ⟨Nat.le_of_ble_eq_true rfl, Nat.le_of_ble_eq_true rfl⟩ ⟨Nat.le_of_ble_eq_true rfl, Nat.le_of_ble_eq_true rfl⟩ (Nat.le_of_ble_eq_true rfl) dL_match_5 rfl (fun o2 hz4 => ?_) (fun e3 hz4 => ?_)
  · skip
    subst hz4; rw [sumE_inr] at hF
    refine e_i2l X dL_match_8 ?_
    obtain ⟨σ5, h_σ5, hF⟩ := bindT_out hF
    refine e_last X dL_match_9 h_σ5 ?_
    refine e_goto X 21 dL_match_10 (by decide) ?_
    refine e_iconst X 0 dL_match_21 rfl ?_
    exact e_xr (e_iret X hr dL_match_22 (Nat.le_of_ble_eq_true rfl) (Nat.le_of_ble_eq_true rfl) (by cases hF; exact ⟨rfl, rfl⟩))
  · skip
    subst hz4; rw [sumE_inl] at hF
    by_cases c6 : e3.1 = "java/lang/IndexOutOfBoundsException"
    · rw [if_pos c6] at hF
      rw [c6]
      refine e_hcatch X (hh := [(0, 10, 13, 24), (0, 10, 17, 26)]) [] ⟨0, 10, 13, 24⟩ [⟨0, 10, 17, 26⟩] hex rfl (fun z9 hz9 => nomatch hz9) (by decide) (by decide) wlk_24 ((x_gst X).2.2.2.2.1 _ (List.mem_of_getElem? (i := 2) (by decide +kernel))) 13 rfl (fun q9 => ?_)
      refine e_astore X dL_match_13 (by decide) ?_
      refine e_iconst X 1 dL_match_15 rfl ?_
      exact e_xr (e_iret X hr dL_match_16 (Nat.le_of_ble_eq_true rfl) (Nat.le_of_ble_eq_true rfl) (by cases hF; exact ⟨rfl, rfl⟩))
    · rw [if_neg c6] at hF
      by_cases c7 : e3.1 = "java/util/NoSuchElementException"
      · rw [if_pos c7] at hF
        rw [c7]
        refine e_hcatch X (hh := [(0, 10, 13, 24), (0, 10, 17, 26)]) [⟨0, 10, 13, 24⟩] ⟨0, 10, 17, 26⟩ [] hex rfl (List.forall_mem_cons.mpr ⟨⟨by decide, "java/lang/IndexOutOfBoundsException", wlk_24, (x_gst X).2.2.2.2.2 _ (List.mem_of_getElem? (i := 4) (by decide +kernel)) _ (List.mem_of_getElem? (i := 2) (by decide +kernel)) (by decide)⟩, (fun z9 hz9 => nomatch hz9)⟩) (by decide) (by decide) wlk_26 ((x_gst X).2.2.2.2.1 _ (List.mem_of_getElem? (i := 4) (by decide +kernel))) 17 rfl (fun q9 => ?_)
        refine e_astore X dL_match_17 (by decide) ?_
        refine e_iconst X 2 dL_match_19 rfl ?_
        exact e_xr (e_iret X hr dL_match_20 (Nat.le_of_ble_eq_true rfl) (Nat.le_of_ble_eq_true rfl) (by cases hF; exact ⟨rfl, rfl⟩))
      · rw [if_neg c7] at hF
        cases hF
set_option maxRecDepth 20000 in
set_option maxHeartbeats 4000000 in
theorem CH_ask (hG : Gok l Γ D s0) (σ : Mem) (v1 : Int32) (v2 : Int32) {out : Mem × Int32} (hF : H_ask σ v1 v2 = some out) : CXH l Γ D s0 yL_ask cL_ask 5 (some .int) [(0, 17, 20, 24), (0, 17, 24, 13)] 9 3 18 406 σ [.ref (Γ.1 + 0), .int v1, .int v2, .ref (Γ.1 + 346)] (PI (some (.int out.2)) out.1) := by
  unfold H_ask at hF
  refine e_hmet (own := RL) (hh := [(0, 17, 20, 24), (0, 17, 24, 13)]) hG (by decide +kernel) rfl rfl (Nat.le_of_ble_eq_true rfl) ?_
  intro p e s m args below meth c X hex hr
  show E p l e _ s m args below meth c Γ D 0 0 _ σ 0 [some (.ref (Γ.1 + 0)), some (.int v1), some (.int v2), some (.ref (Γ.1 + 346)), none] []
  refine e_aload_n X dL_ask_0 rfl rfl ?_
  refine e_iconst X 0 dL_ask_1 rfl ?_
  refine e_aload_n X dL_ask_2 rfl rfl ?_
  refine e_iload_n X dL_ask_3 rfl rfl ?_
  refine e_iload_n X dL_ask_4 rfl rfl ?_
  obtain ⟨z1, h_z1, hF⟩ := obind_out hF
  refine e_hcallVwv X z1 [.int v1, .int v2] [.int 0, .ref (Γ.1 + 346)] (C_W_ask (Cx_gok X) σ v1 v2 h_z1) gv_L_34 yk_X11_ask rfl (ent_lt (rfl : entTbl[0]? = some (0, 0))) (ent_at (rfl : entTbl[0]? = some (0, 0)) _) (rfl : vCl[10]? = some (RX11, TX11, 17)) ⟨Nat.le_of_ble_eq_true rfl, Nat.le_of_ble_eq_true rfl⟩ ⟨Nat.le_of_ble_eq_true rfl, Nat.le_of_ble_eq_true rfl⟩ (Nat.le_of_ble_eq_true rfl) dL_ask_5 rfl (fun o2 hz4 => ?_) (fun e3 hz4 => ?_)
  · skip
    subst hz4; rw [sumE_inr] at hF
    refine e_if_eq X 15 dL_ask_8 (by decide) (fun c5 => ?_) (fun c5 => ?_)
    · skip
      rw [if_pos c5] at hF
      refine e_lconst X ((0 : Int32)).toInt64 dL_ask_15 (by decide) ?_
      obtain ⟨σ6, h_σ6, hF⟩ := bindT_out hF
      refine e_last X dL_ask_16 h_σ6 ?_
      refine e_goto X 28 dL_ask_17 (by decide) ?_
      refine e_iconst X 0 dL_ask_28 rfl ?_
      exact e_xr (e_iret X hr dL_ask_29 (Nat.le_of_ble_eq_true rfl) (Nat.le_of_ble_eq_true rfl) (by cases hF; exact ⟨rfl, rfl⟩))
    · skip
      rw [if_neg c5] at hF
      refine e_lconst X ((1 : Int32)).toInt64 dL_ask_11 (by decide) ?_
      refine e_goto X 16 dL_ask_12 (by decide) ?_
      obtain ⟨σ7, h_σ7, hF⟩ := bindT_out hF
      refine e_last X dL_ask_16 h_σ7 ?_
      refine e_goto X 28 dL_ask_17 (by decide) ?_
      refine e_iconst X 0 dL_ask_28 rfl ?_
      exact e_xr (e_iret X hr dL_ask_29 (Nat.le_of_ble_eq_true rfl) (Nat.le_of_ble_eq_true rfl) (by cases hF; exact ⟨rfl, rfl⟩))
  · skip
    subst hz4; rw [sumE_inl] at hF
    by_cases c8 : e3.1 = "java/lang/IndexOutOfBoundsException"
    · rw [if_pos c8] at hF
      rw [c8]
      refine e_hcatch X (hh := [(0, 17, 20, 24), (0, 17, 24, 13)]) [] ⟨0, 17, 20, 24⟩ [⟨0, 17, 24, 13⟩] hex rfl (fun z9 hz9 => nomatch hz9) (by decide) (by decide) wlk_24 ((x_gst X).2.2.2.2.1 _ (List.mem_of_getElem? (i := 2) (by decide +kernel))) 20 rfl (fun q9 => ?_)
      refine e_astore X dL_ask_20 (by decide) ?_
      refine e_iconst X 1 dL_ask_22 rfl ?_
      exact e_xr (e_iret X hr dL_ask_23 (Nat.le_of_ble_eq_true rfl) (Nat.le_of_ble_eq_true rfl) (by cases hF; exact ⟨rfl, rfl⟩))
    · rw [if_neg c8] at hF
      by_cases c9 : e3.1 = "java/lang/IllegalArgumentException"
      · rw [if_pos c9] at hF
        rw [c9]
        refine e_hcatch X (hh := [(0, 17, 20, 24), (0, 17, 24, 13)]) [⟨0, 17, 20, 24⟩] ⟨0, 17, 24, 13⟩ [] hex rfl (List.forall_mem_cons.mpr ⟨⟨by decide, "java/lang/IndexOutOfBoundsException", wlk_24, (x_gst X).2.2.2.2.2 _ (List.mem_of_getElem? (i := 0) (by decide +kernel)) _ (List.mem_of_getElem? (i := 2) (by decide +kernel)) (by decide)⟩, (fun z9 hz9 => nomatch hz9)⟩) (by decide) (by decide) wlk_13 ((x_gst X).2.2.2.2.1 _ (List.mem_of_getElem? (i := 0) (by decide +kernel))) 24 rfl (fun q9 => ?_)
        refine e_astore X dL_ask_24 (by decide) ?_
        refine e_iconst X 2 dL_ask_26 rfl ?_
        exact e_xr (e_iret X hr dL_ask_27 (Nat.le_of_ble_eq_true rfl) (Nat.le_of_ble_eq_true rfl) (by cases hF; exact ⟨rfl, rfl⟩))
      · rw [if_neg c9] at hF
        cases hF
set_option maxRecDepth 20000 in
set_option maxHeartbeats 4000000 in
theorem CH_wed (hG : Gok l Γ D s0) (σ : Mem) (v1 : Int32) (v2 : Int32) {out : Mem × Int32} (hF : H_wed σ v1 v2 = some out) : CXH l Γ D s0 yL_wed cL_wed 5 (some .int) [(0, 10, 13, 24), (0, 10, 17, 13), (0, 10, 21, 41), (0, 10, 25, 15)] 9 4 24 406 σ [.ref (Γ.1 + 0), .int v1, .int v2, .ref (Γ.1 + 346)] (PI (some (.int out.2)) out.1) := by
  unfold H_wed at hF
  refine e_hmet (own := RL) (hh := [(0, 10, 13, 24), (0, 10, 17, 13), (0, 10, 21, 41), (0, 10, 25, 15)]) hG (by decide +kernel) rfl rfl (Nat.le_of_ble_eq_true rfl) ?_
  intro p e s m args below meth c X hex hr
  show E p l e _ s m args below meth c Γ D 0 0 _ σ 0 [some (.ref (Γ.1 + 0)), some (.int v1), some (.int v2), some (.ref (Γ.1 + 346)), none] []
  refine e_aload_n X dL_wed_0 rfl rfl ?_
  refine e_iconst X 0 dL_wed_1 rfl ?_
  refine e_aload_n X dL_wed_2 rfl rfl ?_
  refine e_iload_n X dL_wed_3 rfl rfl ?_
  refine e_iload_n X dL_wed_4 rfl rfl ?_
  obtain ⟨z1, h_z1, hF⟩ := obind_out hF
  refine e_hcallVwv X z1 [.int v1, .int v2] [.int 0, .ref (Γ.1 + 346)] (C_W_wed (Cx_gok X) σ v1 v2 h_z1) gv_L_38 yk_X11_wed rfl (ent_lt (rfl : entTbl[0]? = some (0, 0))) (ent_at (rfl : entTbl[0]? = some (0, 0)) _) (rfl : vCl[10]? = some (RX11, TX11, 17)) ⟨Nat.le_of_ble_eq_true rfl, Nat.le_of_ble_eq_true rfl⟩ ⟨Nat.le_of_ble_eq_true rfl, Nat.le_of_ble_eq_true rfl⟩ (Nat.le_of_ble_eq_true rfl) dL_wed_5 rfl (fun o2 hz4 => ?_) (fun e3 hz4 => ?_)
  · skip
    subst hz4; rw [sumE_inr] at hF
    refine e_i2l X dL_wed_8 ?_
    obtain ⟨σ5, h_σ5, hF⟩ := bindT_out hF
    refine e_last X dL_wed_9 h_σ5 ?_
    refine e_goto X 29 dL_wed_10 (by decide) ?_
    refine e_iconst X 0 dL_wed_29 rfl ?_
    exact e_xr (e_iret X hr dL_wed_30 (Nat.le_of_ble_eq_true rfl) (Nat.le_of_ble_eq_true rfl) (by cases hF; exact ⟨rfl, rfl⟩))
  · skip
    subst hz4; rw [sumE_inl] at hF
    by_cases c6 : e3.1 = "java/lang/IndexOutOfBoundsException"
    · rw [if_pos c6] at hF
      rw [c6]
      refine e_hcatch X (hh := [(0, 10, 13, 24), (0, 10, 17, 13), (0, 10, 21, 41), (0, 10, 25, 15)]) [] ⟨0, 10, 13, 24⟩ [⟨0, 10, 17, 13⟩, ⟨0, 10, 21, 41⟩, ⟨0, 10, 25, 15⟩] hex rfl (fun z9 hz9 => nomatch hz9) (by decide) (by decide) wlk_24 ((x_gst X).2.2.2.2.1 _ (List.mem_of_getElem? (i := 2) (by decide +kernel))) 13 rfl (fun q9 => ?_)
      refine e_astore X dL_wed_13 (by decide) ?_
      refine e_iconst X 1 dL_wed_15 rfl ?_
      exact e_xr (e_iret X hr dL_wed_16 (Nat.le_of_ble_eq_true rfl) (Nat.le_of_ble_eq_true rfl) (by cases hF; exact ⟨rfl, rfl⟩))
    · rw [if_neg c6] at hF
      by_cases c7 : e3.1 = "java/lang/IllegalArgumentException"
      · rw [if_pos c7] at hF
        rw [c7]
        refine e_hcatch X (hh := [(0, 10, 13, 24), (0, 10, 17, 13), (0, 10, 21, 41), (0, 10, 25, 15)]) [⟨0, 10, 13, 24⟩] ⟨0, 10, 17, 13⟩ [⟨0, 10, 21, 41⟩, ⟨0, 10, 25, 15⟩] hex rfl (List.forall_mem_cons.mpr ⟨⟨by decide, "java/lang/IndexOutOfBoundsException", wlk_24, (x_gst X).2.2.2.2.2 _ (List.mem_of_getElem? (i := 0) (by decide +kernel)) _ (List.mem_of_getElem? (i := 2) (by decide +kernel)) (by decide)⟩, (fun z9 hz9 => nomatch hz9)⟩) (by decide) (by decide) wlk_13 ((x_gst X).2.2.2.2.1 _ (List.mem_of_getElem? (i := 0) (by decide +kernel))) 17 rfl (fun q9 => ?_)
        refine e_astore X dL_wed_17 (by decide) ?_
        refine e_iconst X 2 dL_wed_19 rfl ?_
        exact e_xr (e_iret X hr dL_wed_20 (Nat.le_of_ble_eq_true rfl) (Nat.le_of_ble_eq_true rfl) (by cases hF; exact ⟨rfl, rfl⟩))
      · rw [if_neg c7] at hF
        by_cases c8 : e3.1 = "java/lang/IllegalStateException"
        · rw [if_pos c8] at hF
          rw [c8]
          refine e_hcatch X (hh := [(0, 10, 13, 24), (0, 10, 17, 13), (0, 10, 21, 41), (0, 10, 25, 15)]) [⟨0, 10, 13, 24⟩, ⟨0, 10, 17, 13⟩] ⟨0, 10, 21, 41⟩ [⟨0, 10, 25, 15⟩] hex rfl (List.forall_mem_cons.mpr ⟨⟨by decide, "java/lang/IndexOutOfBoundsException", wlk_24, (x_gst X).2.2.2.2.2 _ (List.mem_of_getElem? (i := 1) (by decide +kernel)) _ (List.mem_of_getElem? (i := 2) (by decide +kernel)) (by decide)⟩, (List.forall_mem_cons.mpr ⟨⟨by decide, "java/lang/IllegalArgumentException", wlk_13, (x_gst X).2.2.2.2.2 _ (List.mem_of_getElem? (i := 1) (by decide +kernel)) _ (List.mem_of_getElem? (i := 0) (by decide +kernel)) (by decide)⟩, (fun z9 hz9 => nomatch hz9)⟩)⟩) (by decide) (by decide) wlk_41 ((x_gst X).2.2.2.2.1 _ (List.mem_of_getElem? (i := 1) (by decide +kernel))) 21 rfl (fun q9 => ?_)
          refine e_astore X dL_wed_21 (by decide) ?_
          refine e_iconst X 3 dL_wed_23 rfl ?_
          exact e_xr (e_iret X hr dL_wed_24 (Nat.le_of_ble_eq_true rfl) (Nat.le_of_ble_eq_true rfl) (by cases hF; exact ⟨rfl, rfl⟩))
        · rw [if_neg c8] at hF
          by_cases c9 : e3.1 = "java/lang/UnsupportedOperationException"
          · rw [if_pos c9] at hF
            rw [c9]
            refine e_hcatch X (hh := [(0, 10, 13, 24), (0, 10, 17, 13), (0, 10, 21, 41), (0, 10, 25, 15)]) [⟨0, 10, 13, 24⟩, ⟨0, 10, 17, 13⟩, ⟨0, 10, 21, 41⟩] ⟨0, 10, 25, 15⟩ [] hex rfl (List.forall_mem_cons.mpr ⟨⟨by decide, "java/lang/IndexOutOfBoundsException", wlk_24, (x_gst X).2.2.2.2.2 _ (List.mem_of_getElem? (i := 3) (by decide +kernel)) _ (List.mem_of_getElem? (i := 2) (by decide +kernel)) (by decide)⟩, (List.forall_mem_cons.mpr ⟨⟨by decide, "java/lang/IllegalArgumentException", wlk_13, (x_gst X).2.2.2.2.2 _ (List.mem_of_getElem? (i := 3) (by decide +kernel)) _ (List.mem_of_getElem? (i := 0) (by decide +kernel)) (by decide)⟩, (List.forall_mem_cons.mpr ⟨⟨by decide, "java/lang/IllegalStateException", wlk_41, (x_gst X).2.2.2.2.2 _ (List.mem_of_getElem? (i := 3) (by decide +kernel)) _ (List.mem_of_getElem? (i := 1) (by decide +kernel)) (by decide)⟩, (fun z9 hz9 => nomatch hz9)⟩)⟩)⟩) (by decide) (by decide) wlk_15 ((x_gst X).2.2.2.2.1 _ (List.mem_of_getElem? (i := 3) (by decide +kernel))) 25 rfl (fun q9 => ?_)
            refine e_astore X dL_wed_25 (by decide) ?_
            refine e_iconst X 4 dL_wed_27 rfl ?_
            exact e_xr (e_iret X hr dL_wed_28 (Nat.le_of_ble_eq_true rfl) (Nat.le_of_ble_eq_true rfl) (by cases hF; exact ⟨rfl, rfl⟩))
          · rw [if_neg c9] at hF
            cases hF
set_option maxRecDepth 20000 in
set_option maxHeartbeats 4000000 in
theorem CH_gift (hG : Gok l Γ D s0) (σ : Mem) (v1 : Int32) (v2 : Int32) {out : Mem × Int32} (hF : H_gift σ v1 v2 = some out) : CXH l Γ D s0 yL_gift cL_gift 5 (some .int) [(0, 10, 13, 24), (0, 10, 17, 41)] 9 5 30 406 σ [.ref (Γ.1 + 0), .int v1, .int v2, .ref (Γ.1 + 346)] (PI (some (.int out.2)) out.1) := by
  unfold H_gift at hF
  refine e_hmet (own := RL) (hh := [(0, 10, 13, 24), (0, 10, 17, 41)]) hG (by decide +kernel) rfl rfl (Nat.le_of_ble_eq_true rfl) ?_
  intro p e s m args below meth c X hex hr
  show E p l e _ s m args below meth c Γ D 0 0 _ σ 0 [some (.ref (Γ.1 + 0)), some (.int v1), some (.int v2), some (.ref (Γ.1 + 346)), none] []
  refine e_aload_n X dL_gift_0 rfl rfl ?_
  refine e_iconst X 0 dL_gift_1 rfl ?_
  refine e_aload_n X dL_gift_2 rfl rfl ?_
  refine e_iload_n X dL_gift_3 rfl rfl ?_
  refine e_iload_n X dL_gift_4 rfl rfl ?_
  obtain ⟨z1, h_z1, hF⟩ := obind_out hF
  refine e_hcallVwv X z1 [.int v1, .int v2] [.int 0, .ref (Γ.1 + 346)] (C_W_gift (Cx_gok X) σ v1 v2 h_z1) gv_L_43 yk_X11_gift rfl (ent_lt (rfl : entTbl[0]? = some (0, 0))) (ent_at (rfl : entTbl[0]? = some (0, 0)) _) (rfl : vCl[10]? = some (RX11, TX11, 17)) ⟨Nat.le_of_ble_eq_true rfl, Nat.le_of_ble_eq_true rfl⟩ ⟨Nat.le_of_ble_eq_true rfl, Nat.le_of_ble_eq_true rfl⟩ (Nat.le_of_ble_eq_true rfl) dL_gift_5 rfl (fun o2 hz4 => ?_) (fun e3 hz4 => ?_)
  · skip
    subst hz4; rw [sumE_inr] at hF
    refine e_i2l X dL_gift_8 ?_
    obtain ⟨σ5, h_σ5, hF⟩ := bindT_out hF
    refine e_last X dL_gift_9 h_σ5 ?_
    refine e_goto X 21 dL_gift_10 (by decide) ?_
    refine e_iconst X 0 dL_gift_21 rfl ?_
    exact e_xr (e_iret X hr dL_gift_22 (Nat.le_of_ble_eq_true rfl) (Nat.le_of_ble_eq_true rfl) (by cases hF; exact ⟨rfl, rfl⟩))
  · skip
    subst hz4; rw [sumE_inl] at hF
    by_cases c6 : e3.1 = "java/lang/IndexOutOfBoundsException"
    · rw [if_pos c6] at hF
      rw [c6]
      refine e_hcatch X (hh := [(0, 10, 13, 24), (0, 10, 17, 41)]) [] ⟨0, 10, 13, 24⟩ [⟨0, 10, 17, 41⟩] hex rfl (fun z9 hz9 => nomatch hz9) (by decide) (by decide) wlk_24 ((x_gst X).2.2.2.2.1 _ (List.mem_of_getElem? (i := 2) (by decide +kernel))) 13 rfl (fun q9 => ?_)
      refine e_astore X dL_gift_13 (by decide) ?_
      refine e_iconst X 1 dL_gift_15 rfl ?_
      exact e_xr (e_iret X hr dL_gift_16 (Nat.le_of_ble_eq_true rfl) (Nat.le_of_ble_eq_true rfl) (by cases hF; exact ⟨rfl, rfl⟩))
    · rw [if_neg c6] at hF
      by_cases c7 : e3.1 = "java/lang/IllegalStateException"
      · rw [if_pos c7] at hF
        rw [c7]
        refine e_hcatch X (hh := [(0, 10, 13, 24), (0, 10, 17, 41)]) [⟨0, 10, 13, 24⟩] ⟨0, 10, 17, 41⟩ [] hex rfl (List.forall_mem_cons.mpr ⟨⟨by decide, "java/lang/IndexOutOfBoundsException", wlk_24, (x_gst X).2.2.2.2.2 _ (List.mem_of_getElem? (i := 1) (by decide +kernel)) _ (List.mem_of_getElem? (i := 2) (by decide +kernel)) (by decide)⟩, (fun z9 hz9 => nomatch hz9)⟩) (by decide) (by decide) wlk_41 ((x_gst X).2.2.2.2.1 _ (List.mem_of_getElem? (i := 1) (by decide +kernel))) 17 rfl (fun q9 => ?_)
        refine e_astore X dL_gift_17 (by decide) ?_
        refine e_iconst X 2 dL_gift_19 rfl ?_
        exact e_xr (e_iret X hr dL_gift_20 (Nat.le_of_ble_eq_true rfl) (Nat.le_of_ble_eq_true rfl) (by cases hF; exact ⟨rfl, rfl⟩))
      · rw [if_neg c7] at hF
        cases hF
set_option maxRecDepth 20000 in
set_option maxHeartbeats 4000000 in
theorem CH_meddle (hG : Gok l Γ D s0) (σ : Mem) (v1 : Int32) (v2 : Int32) {out : Mem × Int32} (hF : H_meddle σ v1 v2 = some out) : CXH l Γ D s0 yL_meddle cL_meddle 5 (some .int) [(0, 10, 13, 24), (0, 10, 17, 41)] 9 4 24 406 σ [.ref (Γ.1 + 0), .int v1, .int v2, .ref (Γ.1 + 346)] (PI (some (.int out.2)) out.1) := by
  unfold H_meddle at hF
  refine e_hmet (own := RL) (hh := [(0, 10, 13, 24), (0, 10, 17, 41)]) hG (by decide +kernel) rfl rfl (Nat.le_of_ble_eq_true rfl) ?_
  intro p e s m args below meth c X hex hr
  show E p l e _ s m args below meth c Γ D 0 0 _ σ 0 [some (.ref (Γ.1 + 0)), some (.int v1), some (.int v2), some (.ref (Γ.1 + 346)), none] []
  refine e_aload_n X dL_meddle_0 rfl rfl ?_
  refine e_iconst X 0 dL_meddle_1 rfl ?_
  refine e_aload_n X dL_meddle_2 rfl rfl ?_
  refine e_iload_n X dL_meddle_3 rfl rfl ?_
  refine e_iload_n X dL_meddle_4 rfl rfl ?_
  obtain ⟨z1, h_z1, hF⟩ := obind_out hF
  refine e_hcallVwv X z1 [.int v1, .int v2] [.int 0, .ref (Γ.1 + 346)] (C_W_meddle (Cx_gok X) σ v1 v2 h_z1) gv_L_46 yk_X11_meddle rfl (ent_lt (rfl : entTbl[0]? = some (0, 0))) (ent_at (rfl : entTbl[0]? = some (0, 0)) _) (rfl : vCl[10]? = some (RX11, TX11, 17)) ⟨Nat.le_of_ble_eq_true rfl, Nat.le_of_ble_eq_true rfl⟩ ⟨Nat.le_of_ble_eq_true rfl, Nat.le_of_ble_eq_true rfl⟩ (Nat.le_of_ble_eq_true rfl) dL_meddle_5 rfl (fun o2 hz4 => ?_) (fun e3 hz4 => ?_)
  · skip
    subst hz4; rw [sumE_inr] at hF
    refine e_i2l X dL_meddle_8 ?_
    obtain ⟨σ5, h_σ5, hF⟩ := bindT_out hF
    refine e_last X dL_meddle_9 h_σ5 ?_
    refine e_goto X 21 dL_meddle_10 (by decide) ?_
    refine e_iconst X 0 dL_meddle_21 rfl ?_
    exact e_xr (e_iret X hr dL_meddle_22 (Nat.le_of_ble_eq_true rfl) (Nat.le_of_ble_eq_true rfl) (by cases hF; exact ⟨rfl, rfl⟩))
  · skip
    subst hz4; rw [sumE_inl] at hF
    by_cases c6 : e3.1 = "java/lang/IndexOutOfBoundsException"
    · rw [if_pos c6] at hF
      rw [c6]
      refine e_hcatch X (hh := [(0, 10, 13, 24), (0, 10, 17, 41)]) [] ⟨0, 10, 13, 24⟩ [⟨0, 10, 17, 41⟩] hex rfl (fun z9 hz9 => nomatch hz9) (by decide) (by decide) wlk_24 ((x_gst X).2.2.2.2.1 _ (List.mem_of_getElem? (i := 2) (by decide +kernel))) 13 rfl (fun q9 => ?_)
      refine e_astore X dL_meddle_13 (by decide) ?_
      refine e_iconst X 1 dL_meddle_15 rfl ?_
      exact e_xr (e_iret X hr dL_meddle_16 (Nat.le_of_ble_eq_true rfl) (Nat.le_of_ble_eq_true rfl) (by cases hF; exact ⟨rfl, rfl⟩))
    · rw [if_neg c6] at hF
      by_cases c7 : e3.1 = "java/lang/IllegalStateException"
      · rw [if_pos c7] at hF
        rw [c7]
        refine e_hcatch X (hh := [(0, 10, 13, 24), (0, 10, 17, 41)]) [⟨0, 10, 13, 24⟩] ⟨0, 10, 17, 41⟩ [] hex rfl (List.forall_mem_cons.mpr ⟨⟨by decide, "java/lang/IndexOutOfBoundsException", wlk_24, (x_gst X).2.2.2.2.2 _ (List.mem_of_getElem? (i := 1) (by decide +kernel)) _ (List.mem_of_getElem? (i := 2) (by decide +kernel)) (by decide)⟩, (fun z9 hz9 => nomatch hz9)⟩) (by decide) (by decide) wlk_41 ((x_gst X).2.2.2.2.1 _ (List.mem_of_getElem? (i := 1) (by decide +kernel))) 17 rfl (fun q9 => ?_)
        refine e_astore X dL_meddle_17 (by decide) ?_
        refine e_iconst X 2 dL_meddle_19 rfl ?_
        exact e_xr (e_iret X hr dL_meddle_20 (Nat.le_of_ble_eq_true rfl) (Nat.le_of_ble_eq_true rfl) (by cases hF; exact ⟨rfl, rfl⟩))
      · rw [if_neg c7] at hF
        cases hF
set_option maxRecDepth 20000 in
set_option maxHeartbeats 4000000 in
theorem CH_reinsure (hG : Gok l Γ D s0) (σ : Mem) (v1 : Int32) (v2 : Int32) {out : Mem × Int32} (hF : H_reinsure σ v1 v2 = some out) : CXH l Γ D s0 yL_reinsure cL_reinsure 5 (some .int) [(0, 10, 13, 24), (0, 10, 17, 13)] 9 4 24 407 σ [.ref (Γ.1 + 0), .int v1, .int v2, .ref (Γ.1 + 346)] (PI (some (.int out.2)) out.1) := by
  unfold H_reinsure at hF
  refine e_hmet (own := RL) (hh := [(0, 10, 13, 24), (0, 10, 17, 13)]) hG (by decide +kernel) rfl rfl (Nat.le_of_ble_eq_true rfl) ?_
  intro p e s m args below meth c X hex hr
  show E p l e _ s m args below meth c Γ D 0 0 _ σ 0 [some (.ref (Γ.1 + 0)), some (.int v1), some (.int v2), some (.ref (Γ.1 + 346)), none] []
  refine e_aload_n X dL_reinsure_0 rfl rfl ?_
  refine e_iconst X 0 dL_reinsure_1 rfl ?_
  refine e_aload_n X dL_reinsure_2 rfl rfl ?_
  refine e_iload_n X dL_reinsure_3 rfl rfl ?_
  refine e_iload_n X dL_reinsure_4 rfl rfl ?_
  obtain ⟨z1, h_z1, hF⟩ := obind_out hF
  refine e_hcallVwv X z1 [.int v1, .int v2] [.int 0, .ref (Γ.1 + 346)] (C_W_reinsure (Cx_gok X) σ v1 v2 h_z1) gv_L_49 yk_X11_reinsure rfl (ent_lt (rfl : entTbl[0]? = some (0, 0))) (ent_at (rfl : entTbl[0]? = some (0, 0)) _) (rfl : vCl[10]? = some (RX11, TX11, 17)) ⟨Nat.le_of_ble_eq_true rfl, Nat.le_of_ble_eq_true rfl⟩ ⟨Nat.le_of_ble_eq_true rfl, Nat.le_of_ble_eq_true rfl⟩ (Nat.le_of_ble_eq_true rfl) dL_reinsure_5 rfl (fun o2 hz4 => ?_) (fun e3 hz4 => ?_)
  · skip
    subst hz4; rw [sumE_inr] at hF
    refine e_i2l X dL_reinsure_8 ?_
    obtain ⟨σ5, h_σ5, hF⟩ := bindT_out hF
    refine e_last X dL_reinsure_9 h_σ5 ?_
    refine e_goto X 21 dL_reinsure_10 (by decide) ?_
    refine e_iconst X 0 dL_reinsure_21 rfl ?_
    exact e_xr (e_iret X hr dL_reinsure_22 (Nat.le_of_ble_eq_true rfl) (Nat.le_of_ble_eq_true rfl) (by cases hF; exact ⟨rfl, rfl⟩))
  · skip
    subst hz4; rw [sumE_inl] at hF
    by_cases c6 : e3.1 = "java/lang/IndexOutOfBoundsException"
    · rw [if_pos c6] at hF
      rw [c6]
      refine e_hcatch X (hh := [(0, 10, 13, 24), (0, 10, 17, 13)]) [] ⟨0, 10, 13, 24⟩ [⟨0, 10, 17, 13⟩] hex rfl (fun z9 hz9 => nomatch hz9) (by decide) (by decide) wlk_24 ((x_gst X).2.2.2.2.1 _ (List.mem_of_getElem? (i := 2) (by decide +kernel))) 13 rfl (fun q9 => ?_)
      refine e_astore X dL_reinsure_13 (by decide) ?_
      refine e_iconst X 1 dL_reinsure_15 rfl ?_
      exact e_xr (e_iret X hr dL_reinsure_16 (Nat.le_of_ble_eq_true rfl) (Nat.le_of_ble_eq_true rfl) (by cases hF; exact ⟨rfl, rfl⟩))
    · rw [if_neg c6] at hF
      by_cases c7 : e3.1 = "java/lang/IllegalArgumentException"
      · rw [if_pos c7] at hF
        rw [c7]
        refine e_hcatch X (hh := [(0, 10, 13, 24), (0, 10, 17, 13)]) [⟨0, 10, 13, 24⟩] ⟨0, 10, 17, 13⟩ [] hex rfl (List.forall_mem_cons.mpr ⟨⟨by decide, "java/lang/IndexOutOfBoundsException", wlk_24, (x_gst X).2.2.2.2.2 _ (List.mem_of_getElem? (i := 0) (by decide +kernel)) _ (List.mem_of_getElem? (i := 2) (by decide +kernel)) (by decide)⟩, (fun z9 hz9 => nomatch hz9)⟩) (by decide) (by decide) wlk_13 ((x_gst X).2.2.2.2.1 _ (List.mem_of_getElem? (i := 0) (by decide +kernel))) 17 rfl (fun q9 => ?_)
        refine e_astore X dL_reinsure_17 (by decide) ?_
        refine e_iconst X 2 dL_reinsure_19 rfl ?_
        exact e_xr (e_iret X hr dL_reinsure_20 (Nat.le_of_ble_eq_true rfl) (Nat.le_of_ble_eq_true rfl) (by cases hF; exact ⟨rfl, rfl⟩))
      · rw [if_neg c7] at hF
        cases hF
set_option maxRecDepth 20000 in
set_option maxHeartbeats 4000000 in
theorem CH_part (hG : Gok l Γ D s0) (σ : Mem) (v1 : Int32) {out : Mem × Int32} (hF : H_part σ v1 = some out) : CXH l Γ D s0 yL_part cL_part 4 (some .int) [(0, 9, 12, 24), (0, 9, 15, 41)] 8 2 12 405 σ [.ref (Γ.1 + 0), .int v1, .ref (Γ.1 + 346)] (PI (some (.int out.2)) out.1) := by
  unfold H_part at hF
  refine e_hmet (own := RL) (hh := [(0, 9, 12, 24), (0, 9, 15, 41)]) hG (by decide +kernel) rfl rfl (Nat.le_of_ble_eq_true rfl) ?_
  intro p e s m args below meth c X hex hr
  show E p l e _ s m args below meth c Γ D 0 0 _ σ 0 [some (.ref (Γ.1 + 0)), some (.int v1), some (.ref (Γ.1 + 346)), none] []
  refine e_aload_n X dL_part_0 rfl rfl ?_
  refine e_iconst X 0 dL_part_1 rfl ?_
  refine e_aload_n X dL_part_2 rfl rfl ?_
  refine e_iload_n X dL_part_3 rfl rfl ?_
  obtain ⟨z1, h_z1, hF⟩ := obind_out hF
  refine e_hcallVwv X z1 [.int v1] [.int 0, .ref (Γ.1 + 346)] (C_W_part (Cx_gok X) σ v1 h_z1) gv_L_52 yk_X11_part rfl (ent_lt (rfl : entTbl[0]? = some (0, 0))) (ent_at (rfl : entTbl[0]? = some (0, 0)) _) (rfl : vCl[10]? = some (RX11, TX11, 17)) ⟨Nat.le_of_ble_eq_true rfl, Nat.le_of_ble_eq_true rfl⟩ ⟨Nat.le_of_ble_eq_true rfl, Nat.le_of_ble_eq_true rfl⟩ (Nat.le_of_ble_eq_true rfl) dL_part_4 rfl (fun o2 hz4 => ?_) (fun e3 hz4 => ?_)
  · skip
    subst hz4; rw [sumE_inr] at hF
    refine e_i2l X dL_part_7 ?_
    obtain ⟨σ5, h_σ5, hF⟩ := bindT_out hF
    refine e_last X dL_part_8 h_σ5 ?_
    refine e_goto X 18 dL_part_9 (by decide) ?_
    refine e_iconst X 0 dL_part_18 rfl ?_
    exact e_xr (e_iret X hr dL_part_19 (Nat.le_of_ble_eq_true rfl) (Nat.le_of_ble_eq_true rfl) (by cases hF; exact ⟨rfl, rfl⟩))
  · skip
    subst hz4; rw [sumE_inl] at hF
    by_cases c6 : e3.1 = "java/lang/IndexOutOfBoundsException"
    · rw [if_pos c6] at hF
      rw [c6]
      refine e_hcatch X (hh := [(0, 9, 12, 24), (0, 9, 15, 41)]) [] ⟨0, 9, 12, 24⟩ [⟨0, 9, 15, 41⟩] hex rfl (fun z9 hz9 => nomatch hz9) (by decide) (by decide) wlk_24 ((x_gst X).2.2.2.2.1 _ (List.mem_of_getElem? (i := 2) (by decide +kernel))) 12 rfl (fun q9 => ?_)
      refine e_astore_n X dL_part_12 rfl (by decide) ?_
      refine e_iconst X 1 dL_part_13 rfl ?_
      exact e_xr (e_iret X hr dL_part_14 (Nat.le_of_ble_eq_true rfl) (Nat.le_of_ble_eq_true rfl) (by cases hF; exact ⟨rfl, rfl⟩))
    · rw [if_neg c6] at hF
      by_cases c7 : e3.1 = "java/lang/IllegalStateException"
      · rw [if_pos c7] at hF
        rw [c7]
        refine e_hcatch X (hh := [(0, 9, 12, 24), (0, 9, 15, 41)]) [⟨0, 9, 12, 24⟩] ⟨0, 9, 15, 41⟩ [] hex rfl (List.forall_mem_cons.mpr ⟨⟨by decide, "java/lang/IndexOutOfBoundsException", wlk_24, (x_gst X).2.2.2.2.2 _ (List.mem_of_getElem? (i := 1) (by decide +kernel)) _ (List.mem_of_getElem? (i := 2) (by decide +kernel)) (by decide)⟩, (fun z9 hz9 => nomatch hz9)⟩) (by decide) (by decide) wlk_41 ((x_gst X).2.2.2.2.1 _ (List.mem_of_getElem? (i := 1) (by decide +kernel))) 15 rfl (fun q9 => ?_)
        refine e_astore_n X dL_part_15 rfl (by decide) ?_
        refine e_iconst X 2 dL_part_16 rfl ?_
        exact e_xr (e_iret X hr dL_part_17 (Nat.le_of_ble_eq_true rfl) (Nat.le_of_ble_eq_true rfl) (by cases hF; exact ⟨rfl, rfl⟩))
      · rw [if_neg c7] at hF
        cases hF
set_option maxRecDepth 20000 in
set_option maxHeartbeats 4000000 in
theorem CH_months (hG : Gok l Γ D s0) (σ : Mem) (v1 : Int32) {out : Mem × Int32} (hF : H_months σ v1 = some out) : CXH l Γ D s0 yL_months cL_months 4 (some .int) [(0, 9, 12, 13)] 8 1 6 407 σ [.ref (Γ.1 + 0), .int v1, .ref (Γ.1 + 346)] (PI (some (.int out.2)) out.1) := by
  unfold H_months at hF
  refine e_hmet (own := RL) (hh := [(0, 9, 12, 13)]) hG (by decide +kernel) rfl rfl (Nat.le_of_ble_eq_true rfl) ?_
  intro p e s m args below meth c X hex hr
  show E p l e _ s m args below meth c Γ D 0 0 _ σ 0 [some (.ref (Γ.1 + 0)), some (.int v1), some (.ref (Γ.1 + 346)), none] []
  refine e_aload_n X dL_months_0 rfl rfl ?_
  refine e_iconst X 0 dL_months_1 rfl ?_
  refine e_aload_n X dL_months_2 rfl rfl ?_
  refine e_iload_n X dL_months_3 rfl rfl ?_
  obtain ⟨z1, h_z1, hF⟩ := obind_out hF
  refine e_hcallVwv X z1 [.int v1] [.int 0, .ref (Γ.1 + 346)] (C_W_months (Cx_gok X) σ v1 h_z1) gv_L_56 yk_X11_months rfl (ent_lt (rfl : entTbl[0]? = some (0, 0))) (ent_at (rfl : entTbl[0]? = some (0, 0)) _) (rfl : vCl[10]? = some (RX11, TX11, 17)) ⟨Nat.le_of_ble_eq_true rfl, Nat.le_of_ble_eq_true rfl⟩ ⟨Nat.le_of_ble_eq_true rfl, Nat.le_of_ble_eq_true rfl⟩ (Nat.le_of_ble_eq_true rfl) dL_months_4 rfl (fun o2 hz4 => ?_) (fun e3 hz4 => ?_)
  · skip
    subst hz4; rw [sumE_inr] at hF
    refine e_i2l X dL_months_7 ?_
    obtain ⟨σ5, h_σ5, hF⟩ := bindT_out hF
    refine e_last X dL_months_8 h_σ5 ?_
    refine e_goto X 15 dL_months_9 (by decide) ?_
    refine e_iconst X 0 dL_months_15 rfl ?_
    exact e_xr (e_iret X hr dL_months_16 (Nat.le_of_ble_eq_true rfl) (Nat.le_of_ble_eq_true rfl) (by cases hF; exact ⟨rfl, rfl⟩))
  · skip
    subst hz4; rw [sumE_inl] at hF
    by_cases c6 : e3.1 = "java/lang/IllegalArgumentException"
    · rw [if_pos c6] at hF
      rw [c6]
      refine e_hcatch X (hh := [(0, 9, 12, 13)]) [] ⟨0, 9, 12, 13⟩ [] hex rfl (fun z9 hz9 => nomatch hz9) (by decide) (by decide) wlk_13 ((x_gst X).2.2.2.2.1 _ (List.mem_of_getElem? (i := 0) (by decide +kernel))) 12 rfl (fun q9 => ?_)
      refine e_astore_n X dL_months_12 rfl (by decide) ?_
      refine e_iconst X 1 dL_months_13 rfl ?_
      exact e_xr (e_iret X hr dL_months_14 (Nat.le_of_ble_eq_true rfl) (Nat.le_of_ble_eq_true rfl) (by cases hF; exact ⟨rfl, rfl⟩))
    · rw [if_neg c6] at hF
      cases hF
set_option maxRecDepth 20000 in
set_option maxHeartbeats 4000000 in
theorem CH_would (hG : Gok l Γ D s0) (σ : Mem) (v1 : Int32) (v2 : Int32) {out : Mem × Int32} (hF : H_would σ v1 v2 = some out) : CXH l Γ D s0 yL_would cL_would 5 (some .int) [(0, 10, 13, 24), (0, 10, 17, 13)] 9 3 18 147 σ [.ref (Γ.1 + 0), .int v1, .int v2, .ref (Γ.1 + 346)] (PI (some (.int out.2)) out.1) := by
  unfold H_would at hF
  refine e_hmet (own := RL) (hh := [(0, 10, 13, 24), (0, 10, 17, 13)]) hG (by decide +kernel) rfl rfl (Nat.le_of_ble_eq_true rfl) ?_
  intro p e s m args below meth c X hex hr
  show E p l e _ s m args below meth c Γ D 0 0 _ σ 0 [some (.ref (Γ.1 + 0)), some (.int v1), some (.int v2), some (.ref (Γ.1 + 346)), none] []
  refine e_aload_n X dL_would_0 rfl rfl ?_
  refine e_iconst X 0 dL_would_1 rfl ?_
  refine e_aload_n X dL_would_2 rfl rfl ?_
  refine e_iload_n X dL_would_3 rfl rfl ?_
  refine e_iload_n X dL_would_4 rfl rfl ?_
  refine e_hcallVv X (F_W_would σ v1 v2) [.int v1, .int v2] [.int 0, .ref (Γ.1 + 346)] (C_W_would (Cx_gok X) σ v1 v2) gv_L_59 yk_X11_would rfl (ent_lt (rfl : entTbl[0]? = some (0, 0))) (ent_at (rfl : entTbl[0]? = some (0, 0)) _) (rfl : vCl[10]? = some (RX11, TX11, 17)) ⟨Nat.le_of_ble_eq_true rfl, Nat.le_of_ble_eq_true rfl⟩ ⟨Nat.le_of_ble_eq_true rfl, Nat.le_of_ble_eq_true rfl⟩ (Nat.le_of_ble_eq_true rfl) dL_would_5 rfl (fun o1 hz3 => ?_) (fun e2 hz3 => ?_)
  · skip
    rw [hz3, sumE_inr] at hF
    refine e_i2l X dL_would_8 ?_
    obtain ⟨σ4, h_σ4, hF⟩ := bindT_out hF
    refine e_last X dL_would_9 h_σ4 ?_
    refine e_goto X 21 dL_would_10 (by decide) ?_
    refine e_iconst X 0 dL_would_21 rfl ?_
    exact e_xr (e_iret X hr dL_would_22 (Nat.le_of_ble_eq_true rfl) (Nat.le_of_ble_eq_true rfl) (by cases hF; exact ⟨rfl, rfl⟩))
  · skip
    rw [hz3, sumE_inl] at hF
    by_cases c5 : e2 = "java/lang/IndexOutOfBoundsException"
    · rw [if_pos c5] at hF
      rw [c5]
      refine e_hcatch X (hh := [(0, 10, 13, 24), (0, 10, 17, 13)]) [] ⟨0, 10, 13, 24⟩ [⟨0, 10, 17, 13⟩] hex rfl (fun z9 hz9 => nomatch hz9) (by decide) (by decide) wlk_24 ((x_gst X).2.2.2.2.1 _ (List.mem_of_getElem? (i := 2) (by decide +kernel))) 13 rfl (fun q9 => ?_)
      refine e_astore X dL_would_13 (by decide) ?_
      refine e_iconst X 1 dL_would_15 rfl ?_
      exact e_xr (e_iret X hr dL_would_16 (Nat.le_of_ble_eq_true rfl) (Nat.le_of_ble_eq_true rfl) (by cases hF; exact ⟨rfl, rfl⟩))
    · rw [if_neg c5] at hF
      by_cases c6 : e2 = "java/lang/IllegalArgumentException"
      · rw [if_pos c6] at hF
        rw [c6]
        refine e_hcatch X (hh := [(0, 10, 13, 24), (0, 10, 17, 13)]) [⟨0, 10, 13, 24⟩] ⟨0, 10, 17, 13⟩ [] hex rfl (List.forall_mem_cons.mpr ⟨⟨by decide, "java/lang/IndexOutOfBoundsException", wlk_24, (x_gst X).2.2.2.2.2 _ (List.mem_of_getElem? (i := 0) (by decide +kernel)) _ (List.mem_of_getElem? (i := 2) (by decide +kernel)) (by decide)⟩, (fun z9 hz9 => nomatch hz9)⟩) (by decide) (by decide) wlk_13 ((x_gst X).2.2.2.2.1 _ (List.mem_of_getElem? (i := 0) (by decide +kernel))) 17 rfl (fun q9 => ?_)
        refine e_astore X dL_would_17 (by decide) ?_
        refine e_iconst X 2 dL_would_19 rfl ?_
        exact e_xr (e_iret X hr dL_would_20 (Nat.le_of_ble_eq_true rfl) (Nat.le_of_ble_eq_true rfl) (by cases hF; exact ⟨rfl, rfl⟩))
      · rw [if_neg c6] at hF
        cases hF
set_option maxRecDepth 20000 in
set_option maxHeartbeats 4000000 in
theorem CH_best (hG : Gok l Γ D s0) (σ : Mem) (v1 : Int32) {out : Mem × Int32} (hF : H_best σ v1 = some out) : CXH l Γ D s0 yL_best cL_best 4 (some .int) [(0, 9, 12, 24)] 8 1 6 130 σ [.ref (Γ.1 + 0), .int v1, .ref (Γ.1 + 346)] (PI (some (.int out.2)) out.1) := by
  unfold H_best at hF
  refine e_hmet (own := RL) (hh := [(0, 9, 12, 24)]) hG (by decide +kernel) rfl rfl (Nat.le_of_ble_eq_true rfl) ?_
  intro p e s m args below meth c X hex hr
  show E p l e _ s m args below meth c Γ D 0 0 _ σ 0 [some (.ref (Γ.1 + 0)), some (.int v1), some (.ref (Γ.1 + 346)), none] []
  refine e_aload_n X dL_best_0 rfl rfl ?_
  refine e_iconst X 0 dL_best_1 rfl ?_
  refine e_aload_n X dL_best_2 rfl rfl ?_
  refine e_iload_n X dL_best_3 rfl rfl ?_
  refine e_hcallVv X (F_W_best σ v1) [.int v1] [.int 0, .ref (Γ.1 + 346)] (C_W_best (Cx_gok X) σ v1) gv_L_62 yk_X11_best rfl (ent_lt (rfl : entTbl[0]? = some (0, 0))) (ent_at (rfl : entTbl[0]? = some (0, 0)) _) (rfl : vCl[10]? = some (RX11, TX11, 17)) ⟨Nat.le_of_ble_eq_true rfl, Nat.le_of_ble_eq_true rfl⟩ ⟨Nat.le_of_ble_eq_true rfl, Nat.le_of_ble_eq_true rfl⟩ (Nat.le_of_ble_eq_true rfl) dL_best_4 rfl (fun o1 hz3 => ?_) (fun e2 hz3 => ?_)
  · skip
    rw [hz3, sumE_inr] at hF
    refine e_i2l X dL_best_7 ?_
    obtain ⟨σ4, h_σ4, hF⟩ := bindT_out hF
    refine e_last X dL_best_8 h_σ4 ?_
    refine e_goto X 15 dL_best_9 (by decide) ?_
    refine e_iconst X 0 dL_best_15 rfl ?_
    exact e_xr (e_iret X hr dL_best_16 (Nat.le_of_ble_eq_true rfl) (Nat.le_of_ble_eq_true rfl) (by cases hF; exact ⟨rfl, rfl⟩))
  · skip
    rw [hz3, sumE_inl] at hF
    by_cases c5 : e2 = "java/lang/IndexOutOfBoundsException"
    · rw [if_pos c5] at hF
      rw [c5]
      refine e_hcatch X (hh := [(0, 9, 12, 24)]) [] ⟨0, 9, 12, 24⟩ [] hex rfl (fun z9 hz9 => nomatch hz9) (by decide) (by decide) wlk_24 ((x_gst X).2.2.2.2.1 _ (List.mem_of_getElem? (i := 2) (by decide +kernel))) 12 rfl (fun q9 => ?_)
      refine e_astore_n X dL_best_12 rfl (by decide) ?_
      refine e_iconst X 1 dL_best_13 rfl ?_
      exact e_xr (e_iret X hr dL_best_14 (Nat.le_of_ble_eq_true rfl) (Nat.le_of_ble_eq_true rfl) (by cases hF; exact ⟨rfl, rfl⟩))
    · rw [if_neg c5] at hF
      cases hF
set_option maxRecDepth 20000 in
set_option maxHeartbeats 4000000 in
theorem CH_next (hG : Gok l Γ D s0) (σ : Mem) (v1 : Int32) (v2 : Int32) {out : Mem × Int32} (hF : H_next σ v1 v2 = some out) : CXH l Γ D s0 yL_next cL_next 5 (some .int) [(0, 10, 13, 24), (0, 10, 17, 13)] 9 2 12 148 σ [.ref (Γ.1 + 0), .int v1, .int v2, .ref (Γ.1 + 346)] (PI (some (.int out.2)) out.1) := by
  unfold H_next at hF
  refine e_hmet (own := RL) (hh := [(0, 10, 13, 24), (0, 10, 17, 13)]) hG (by decide +kernel) rfl rfl (Nat.le_of_ble_eq_true rfl) ?_
  intro p e s m args below meth c X hex hr
  show E p l e _ s m args below meth c Γ D 0 0 _ σ 0 [some (.ref (Γ.1 + 0)), some (.int v1), some (.int v2), some (.ref (Γ.1 + 346)), none] []
  refine e_aload_n X dL_next_0 rfl rfl ?_
  refine e_iconst X 0 dL_next_1 rfl ?_
  refine e_aload_n X dL_next_2 rfl rfl ?_
  refine e_iload_n X dL_next_3 rfl rfl ?_
  refine e_iload_n X dL_next_4 rfl rfl ?_
  obtain ⟨z1, h_z1, hF⟩ := obind_out hF
  refine e_hcallVwv X z1 [.int v1, .int v2] [.int 0, .ref (Γ.1 + 346)] (C_W_next (Cx_gok X) σ v1 v2 h_z1) gv_L_65 yk_X11_next rfl (ent_lt (rfl : entTbl[0]? = some (0, 0))) (ent_at (rfl : entTbl[0]? = some (0, 0)) _) (rfl : vCl[10]? = some (RX11, TX11, 17)) ⟨Nat.le_of_ble_eq_true rfl, Nat.le_of_ble_eq_true rfl⟩ ⟨Nat.le_of_ble_eq_true rfl, Nat.le_of_ble_eq_true rfl⟩ (Nat.le_of_ble_eq_true rfl) dL_next_5 rfl (fun o2 hz4 => ?_) (fun e3 hz4 => ?_)
  · skip
    subst hz4; rw [sumE_inr] at hF
    refine e_i2l X dL_next_8 ?_
    obtain ⟨σ5, h_σ5, hF⟩ := bindT_out hF
    refine e_last X dL_next_9 h_σ5 ?_
    refine e_goto X 21 dL_next_10 (by decide) ?_
    refine e_iconst X 0 dL_next_21 rfl ?_
    exact e_xr (e_iret X hr dL_next_22 (Nat.le_of_ble_eq_true rfl) (Nat.le_of_ble_eq_true rfl) (by cases hF; exact ⟨rfl, rfl⟩))
  · skip
    subst hz4; rw [sumE_inl] at hF
    by_cases c6 : e3.1 = "java/lang/IndexOutOfBoundsException"
    · rw [if_pos c6] at hF
      rw [c6]
      refine e_hcatch X (hh := [(0, 10, 13, 24), (0, 10, 17, 13)]) [] ⟨0, 10, 13, 24⟩ [⟨0, 10, 17, 13⟩] hex rfl (fun z9 hz9 => nomatch hz9) (by decide) (by decide) wlk_24 ((x_gst X).2.2.2.2.1 _ (List.mem_of_getElem? (i := 2) (by decide +kernel))) 13 rfl (fun q9 => ?_)
      refine e_astore X dL_next_13 (by decide) ?_
      refine e_iconst X 1 dL_next_15 rfl ?_
      exact e_xr (e_iret X hr dL_next_16 (Nat.le_of_ble_eq_true rfl) (Nat.le_of_ble_eq_true rfl) (by cases hF; exact ⟨rfl, rfl⟩))
    · rw [if_neg c6] at hF
      by_cases c7 : e3.1 = "java/lang/IllegalArgumentException"
      · rw [if_pos c7] at hF
        rw [c7]
        refine e_hcatch X (hh := [(0, 10, 13, 24), (0, 10, 17, 13)]) [⟨0, 10, 13, 24⟩] ⟨0, 10, 17, 13⟩ [] hex rfl (List.forall_mem_cons.mpr ⟨⟨by decide, "java/lang/IndexOutOfBoundsException", wlk_24, (x_gst X).2.2.2.2.2 _ (List.mem_of_getElem? (i := 0) (by decide +kernel)) _ (List.mem_of_getElem? (i := 2) (by decide +kernel)) (by decide)⟩, (fun z9 hz9 => nomatch hz9)⟩) (by decide) (by decide) wlk_13 ((x_gst X).2.2.2.2.1 _ (List.mem_of_getElem? (i := 0) (by decide +kernel))) 17 rfl (fun q9 => ?_)
        refine e_astore X dL_next_17 (by decide) ?_
        refine e_iconst X 2 dL_next_19 rfl ?_
        exact e_xr (e_iret X hr dL_next_20 (Nat.le_of_ble_eq_true rfl) (Nat.le_of_ble_eq_true rfl) (by cases hF; exact ⟨rfl, rfl⟩))
      · rw [if_neg c7] at hF
        cases hF
set_option maxRecDepth 20000 in
set_option maxHeartbeats 4000000 in
theorem CH_ahead (hG : Gok l Γ D s0) (σ : Mem) (v1 : Int32) (v2 : Int32) (v3 : Int32) {out : Mem × Int32} (hF : H_ahead σ v1 v2 v3 = some out) : CXH l Γ D s0 yL_ahead cL_ahead 6 (some .int) [(0, 12, 15, 24), (0, 12, 19, 13)] 9 3 18 164 σ [.ref (Γ.1 + 0), .int v1, .int v2, .int v3, .ref (Γ.1 + 346)] (PI (some (.int out.2)) out.1) := by
  unfold H_ahead at hF
  refine e_hmet (own := RL) (hh := [(0, 12, 15, 24), (0, 12, 19, 13)]) hG (by decide +kernel) rfl rfl (Nat.le_of_ble_eq_true rfl) ?_
  intro p e s m args below meth c X hex hr
  show E p l e _ s m args below meth c Γ D 0 0 _ σ 0 [some (.ref (Γ.1 + 0)), some (.int v1), some (.int v2), some (.int v3), some (.ref (Γ.1 + 346)), none] []
  refine e_aload X dL_ahead_0 rfl ?_
  refine e_iconst X 0 dL_ahead_2 rfl ?_
  refine e_aload_n X dL_ahead_3 rfl rfl ?_
  refine e_iload_n X dL_ahead_4 rfl rfl ?_
  refine e_iload_n X dL_ahead_5 rfl rfl ?_
  refine e_iload_n X dL_ahead_6 rfl rfl ?_
  obtain ⟨z1, h_z1, hF⟩ := obind_out hF
  refine e_hcallVwv X z1 [.int v1, .int v2, .int v3] [.int 0, .ref (Γ.1 + 346)] (C_W_ahead (Cx_gok X) σ v1 v2 v3 h_z1) gv_L_68 yk_X11_ahead rfl (ent_lt (rfl : entTbl[0]? = some (0, 0))) (ent_at (rfl : entTbl[0]? = some (0, 0)) _) (rfl : vCl[10]? = some (RX11, TX11, 17)) ⟨Nat.le_of_ble_eq_true rfl, Nat.le_of_ble_eq_true rfl⟩ ⟨Nat.le_of_ble_eq_true rfl, Nat.le_of_ble_eq_true rfl⟩ (Nat.le_of_ble_eq_true rfl) dL_ahead_7 rfl (fun o2 hz4 => ?_) (fun e3 hz4 => ?_)
  · skip
    subst hz4; rw [sumE_inr] at hF
    refine e_i2l X dL_ahead_10 ?_
    obtain ⟨σ5, h_σ5, hF⟩ := bindT_out hF
    refine e_last X dL_ahead_11 h_σ5 ?_
    refine e_goto X 23 dL_ahead_12 (by decide) ?_
    refine e_iconst X 0 dL_ahead_23 rfl ?_
    exact e_xr (e_iret X hr dL_ahead_24 (Nat.le_of_ble_eq_true rfl) (Nat.le_of_ble_eq_true rfl) (by cases hF; exact ⟨rfl, rfl⟩))
  · skip
    subst hz4; rw [sumE_inl] at hF
    by_cases c6 : e3.1 = "java/lang/IndexOutOfBoundsException"
    · rw [if_pos c6] at hF
      rw [c6]
      refine e_hcatch X (hh := [(0, 12, 15, 24), (0, 12, 19, 13)]) [] ⟨0, 12, 15, 24⟩ [⟨0, 12, 19, 13⟩] hex rfl (fun z9 hz9 => nomatch hz9) (by decide) (by decide) wlk_24 ((x_gst X).2.2.2.2.1 _ (List.mem_of_getElem? (i := 2) (by decide +kernel))) 15 rfl (fun q9 => ?_)
      refine e_astore X dL_ahead_15 (by decide) ?_
      refine e_iconst X 1 dL_ahead_17 rfl ?_
      exact e_xr (e_iret X hr dL_ahead_18 (Nat.le_of_ble_eq_true rfl) (Nat.le_of_ble_eq_true rfl) (by cases hF; exact ⟨rfl, rfl⟩))
    · rw [if_neg c6] at hF
      by_cases c7 : e3.1 = "java/lang/IllegalArgumentException"
      · rw [if_pos c7] at hF
        rw [c7]
        refine e_hcatch X (hh := [(0, 12, 15, 24), (0, 12, 19, 13)]) [⟨0, 12, 15, 24⟩] ⟨0, 12, 19, 13⟩ [] hex rfl (List.forall_mem_cons.mpr ⟨⟨by decide, "java/lang/IndexOutOfBoundsException", wlk_24, (x_gst X).2.2.2.2.2 _ (List.mem_of_getElem? (i := 0) (by decide +kernel)) _ (List.mem_of_getElem? (i := 2) (by decide +kernel)) (by decide)⟩, (fun z9 hz9 => nomatch hz9)⟩) (by decide) (by decide) wlk_13 ((x_gst X).2.2.2.2.1 _ (List.mem_of_getElem? (i := 0) (by decide +kernel))) 19 rfl (fun q9 => ?_)
        refine e_astore X dL_ahead_19 (by decide) ?_
        refine e_iconst X 2 dL_ahead_21 rfl ?_
        exact e_xr (e_iret X hr dL_ahead_22 (Nat.le_of_ble_eq_true rfl) (Nat.le_of_ble_eq_true rfl) (by cases hF; exact ⟨rfl, rfl⟩))
      · rw [if_neg c7] at hF
        cases hF
set_option maxRecDepth 20000 in
set_option maxHeartbeats 4000000 in
theorem CH_first (hG : Gok l Γ D s0) (σ : Mem) (v1 : Int32) (v2 : Int32) {out : Mem × Int32} (hF : H_first σ v1 v2 = some out) : CXH l Γ D s0 yL_first cL_first 5 (some .int) [(0, 10, 13, 24), (0, 10, 17, 13)] 9 2 12 162 σ [.ref (Γ.1 + 0), .int v1, .int v2, .ref (Γ.1 + 346)] (PI (some (.int out.2)) out.1) := by
  unfold H_first at hF
  refine e_hmet (own := RL) (hh := [(0, 10, 13, 24), (0, 10, 17, 13)]) hG (by decide +kernel) rfl rfl (Nat.le_of_ble_eq_true rfl) ?_
  intro p e s m args below meth c X hex hr
  show E p l e _ s m args below meth c Γ D 0 0 _ σ 0 [some (.ref (Γ.1 + 0)), some (.int v1), some (.int v2), some (.ref (Γ.1 + 346)), none] []
  refine e_aload_n X dL_first_0 rfl rfl ?_
  refine e_iconst X 0 dL_first_1 rfl ?_
  refine e_aload_n X dL_first_2 rfl rfl ?_
  refine e_iload_n X dL_first_3 rfl rfl ?_
  refine e_iload_n X dL_first_4 rfl rfl ?_
  obtain ⟨z1, h_z1, hF⟩ := obind_out hF
  refine e_hcallVwv X z1 [.int v1, .int v2] [.int 0, .ref (Γ.1 + 346)] (C_W_first (Cx_gok X) σ v1 v2 h_z1) gv_L_72 yk_X11_first rfl (ent_lt (rfl : entTbl[0]? = some (0, 0))) (ent_at (rfl : entTbl[0]? = some (0, 0)) _) (rfl : vCl[10]? = some (RX11, TX11, 17)) ⟨Nat.le_of_ble_eq_true rfl, Nat.le_of_ble_eq_true rfl⟩ ⟨Nat.le_of_ble_eq_true rfl, Nat.le_of_ble_eq_true rfl⟩ (Nat.le_of_ble_eq_true rfl) dL_first_5 rfl (fun o2 hz4 => ?_) (fun e3 hz4 => ?_)
  · skip
    subst hz4; rw [sumE_inr] at hF
    refine e_i2l X dL_first_8 ?_
    obtain ⟨σ5, h_σ5, hF⟩ := bindT_out hF
    refine e_last X dL_first_9 h_σ5 ?_
    refine e_goto X 21 dL_first_10 (by decide) ?_
    refine e_iconst X 0 dL_first_21 rfl ?_
    exact e_xr (e_iret X hr dL_first_22 (Nat.le_of_ble_eq_true rfl) (Nat.le_of_ble_eq_true rfl) (by cases hF; exact ⟨rfl, rfl⟩))
  · skip
    subst hz4; rw [sumE_inl] at hF
    by_cases c6 : e3.1 = "java/lang/IndexOutOfBoundsException"
    · rw [if_pos c6] at hF
      rw [c6]
      refine e_hcatch X (hh := [(0, 10, 13, 24), (0, 10, 17, 13)]) [] ⟨0, 10, 13, 24⟩ [⟨0, 10, 17, 13⟩] hex rfl (fun z9 hz9 => nomatch hz9) (by decide) (by decide) wlk_24 ((x_gst X).2.2.2.2.1 _ (List.mem_of_getElem? (i := 2) (by decide +kernel))) 13 rfl (fun q9 => ?_)
      refine e_astore X dL_first_13 (by decide) ?_
      refine e_iconst X 1 dL_first_15 rfl ?_
      exact e_xr (e_iret X hr dL_first_16 (Nat.le_of_ble_eq_true rfl) (Nat.le_of_ble_eq_true rfl) (by cases hF; exact ⟨rfl, rfl⟩))
    · rw [if_neg c6] at hF
      by_cases c7 : e3.1 = "java/lang/IllegalArgumentException"
      · rw [if_pos c7] at hF
        rw [c7]
        refine e_hcatch X (hh := [(0, 10, 13, 24), (0, 10, 17, 13)]) [⟨0, 10, 13, 24⟩] ⟨0, 10, 17, 13⟩ [] hex rfl (List.forall_mem_cons.mpr ⟨⟨by decide, "java/lang/IndexOutOfBoundsException", wlk_24, (x_gst X).2.2.2.2.2 _ (List.mem_of_getElem? (i := 0) (by decide +kernel)) _ (List.mem_of_getElem? (i := 2) (by decide +kernel)) (by decide)⟩, (fun z9 hz9 => nomatch hz9)⟩) (by decide) (by decide) wlk_13 ((x_gst X).2.2.2.2.1 _ (List.mem_of_getElem? (i := 0) (by decide +kernel))) 17 rfl (fun q9 => ?_)
        refine e_astore X dL_first_17 (by decide) ?_
        refine e_iconst X 2 dL_first_19 rfl ?_
        exact e_xr (e_iret X hr dL_first_20 (Nat.le_of_ble_eq_true rfl) (Nat.le_of_ble_eq_true rfl) (by cases hF; exact ⟨rfl, rfl⟩))
      · rw [if_neg c7] at hF
        cases hF
set_option maxRecDepth 20000 in
set_option maxHeartbeats 4000000 in
theorem CH_odds (hG : Gok l Γ D s0) (σ : Mem) (v1 : Int32) {out : Mem × Int32} (hF : H_odds σ v1 = some out) : CXH l Γ D s0 yL_odds cL_odds 4 (some .int) [(0, 9, 12, 24)] 8 1 6 140 σ [.ref (Γ.1 + 0), .int v1, .ref (Γ.1 + 346)] (PI (some (.int out.2)) out.1) := by
  unfold H_odds at hF
  refine e_hmet (own := RL) (hh := [(0, 9, 12, 24)]) hG (by decide +kernel) rfl rfl (Nat.le_of_ble_eq_true rfl) ?_
  intro p e s m args below meth c X hex hr
  show E p l e _ s m args below meth c Γ D 0 0 _ σ 0 [some (.ref (Γ.1 + 0)), some (.int v1), some (.ref (Γ.1 + 346)), none] []
  refine e_aload_n X dL_odds_0 rfl rfl ?_
  refine e_iconst X 0 dL_odds_1 rfl ?_
  refine e_aload_n X dL_odds_2 rfl rfl ?_
  refine e_iload_n X dL_odds_3 rfl rfl ?_
  obtain ⟨z1, h_z1, hF⟩ := obind_out hF
  refine e_hcallVwv X z1 [.int v1] [.int 0, .ref (Γ.1 + 346)] (C_W_odds (Cx_gok X) σ v1 h_z1) gv_L_75 yk_X11_odds rfl (ent_lt (rfl : entTbl[0]? = some (0, 0))) (ent_at (rfl : entTbl[0]? = some (0, 0)) _) (rfl : vCl[10]? = some (RX11, TX11, 17)) ⟨Nat.le_of_ble_eq_true rfl, Nat.le_of_ble_eq_true rfl⟩ ⟨Nat.le_of_ble_eq_true rfl, Nat.le_of_ble_eq_true rfl⟩ (Nat.le_of_ble_eq_true rfl) dL_odds_4 rfl (fun o2 hz4 => ?_) (fun e3 hz4 => ?_)
  · skip
    subst hz4; rw [sumE_inr] at hF
    refine e_i2l X dL_odds_7 ?_
    obtain ⟨σ5, h_σ5, hF⟩ := bindT_out hF
    refine e_last X dL_odds_8 h_σ5 ?_
    refine e_goto X 15 dL_odds_9 (by decide) ?_
    refine e_iconst X 0 dL_odds_15 rfl ?_
    exact e_xr (e_iret X hr dL_odds_16 (Nat.le_of_ble_eq_true rfl) (Nat.le_of_ble_eq_true rfl) (by cases hF; exact ⟨rfl, rfl⟩))
  · skip
    subst hz4; rw [sumE_inl] at hF
    by_cases c6 : e3.1 = "java/lang/IndexOutOfBoundsException"
    · rw [if_pos c6] at hF
      rw [c6]
      refine e_hcatch X (hh := [(0, 9, 12, 24)]) [] ⟨0, 9, 12, 24⟩ [] hex rfl (fun z9 hz9 => nomatch hz9) (by decide) (by decide) wlk_24 ((x_gst X).2.2.2.2.1 _ (List.mem_of_getElem? (i := 2) (by decide +kernel))) 12 rfl (fun q9 => ?_)
      refine e_astore_n X dL_odds_12 rfl (by decide) ?_
      refine e_iconst X 1 dL_odds_13 rfl ?_
      exact e_xr (e_iret X hr dL_odds_14 (Nat.le_of_ble_eq_true rfl) (Nat.le_of_ble_eq_true rfl) (by cases hF; exact ⟨rfl, rfl⟩))
    · rw [if_neg c6] at hF
      cases hF
set_option maxRecDepth 20000 in
set_option maxHeartbeats 4000000 in
theorem CH_loses (hG : Gok l Γ D s0) (σ : Mem) (v1 : Int32) {out : Mem × Int32} (hF : H_loses σ v1 = some out) : CXH l Γ D s0 yL_loses cL_loses 4 (some .int) [(0, 9, 12, 24)] 8 1 6 406 σ [.ref (Γ.1 + 0), .int v1, .ref (Γ.1 + 346)] (PI (some (.int out.2)) out.1) := by
  unfold H_loses at hF
  refine e_hmet (own := RL) (hh := [(0, 9, 12, 24)]) hG (by decide +kernel) rfl rfl (Nat.le_of_ble_eq_true rfl) ?_
  intro p e s m args below meth c X hex hr
  show E p l e _ s m args below meth c Γ D 0 0 _ σ 0 [some (.ref (Γ.1 + 0)), some (.int v1), some (.ref (Γ.1 + 346)), none] []
  refine e_aload_n X dL_loses_0 rfl rfl ?_
  refine e_iconst X 0 dL_loses_1 rfl ?_
  refine e_aload_n X dL_loses_2 rfl rfl ?_
  refine e_iload_n X dL_loses_3 rfl rfl ?_
  obtain ⟨z1, h_z1, hF⟩ := obind_out hF
  refine e_hcallVwv X z1 [.int v1] [.int 0, .ref (Γ.1 + 346)] (C_W_loses (Cx_gok X) σ v1 h_z1) gv_L_78 yk_X11_loses rfl (ent_lt (rfl : entTbl[0]? = some (0, 0))) (ent_at (rfl : entTbl[0]? = some (0, 0)) _) (rfl : vCl[10]? = some (RX11, TX11, 17)) ⟨Nat.le_of_ble_eq_true rfl, Nat.le_of_ble_eq_true rfl⟩ ⟨Nat.le_of_ble_eq_true rfl, Nat.le_of_ble_eq_true rfl⟩ (Nat.le_of_ble_eq_true rfl) dL_loses_4 rfl (fun o2 hz4 => ?_) (fun e3 hz4 => ?_)
  · skip
    subst hz4; rw [sumE_inr] at hF
    refine e_i2l X dL_loses_7 ?_
    obtain ⟨σ5, h_σ5, hF⟩ := bindT_out hF
    refine e_last X dL_loses_8 h_σ5 ?_
    refine e_goto X 15 dL_loses_9 (by decide) ?_
    refine e_iconst X 0 dL_loses_15 rfl ?_
    exact e_xr (e_iret X hr dL_loses_16 (Nat.le_of_ble_eq_true rfl) (Nat.le_of_ble_eq_true rfl) (by cases hF; exact ⟨rfl, rfl⟩))
  · skip
    subst hz4; rw [sumE_inl] at hF
    by_cases c6 : e3.1 = "java/lang/IndexOutOfBoundsException"
    · rw [if_pos c6] at hF
      rw [c6]
      refine e_hcatch X (hh := [(0, 9, 12, 24)]) [] ⟨0, 9, 12, 24⟩ [] hex rfl (fun z9 hz9 => nomatch hz9) (by decide) (by decide) wlk_24 ((x_gst X).2.2.2.2.1 _ (List.mem_of_getElem? (i := 2) (by decide +kernel))) 12 rfl (fun q9 => ?_)
      refine e_astore_n X dL_loses_12 rfl (by decide) ?_
      refine e_iconst X 1 dL_loses_13 rfl ?_
      exact e_xr (e_iret X hr dL_loses_14 (Nat.le_of_ble_eq_true rfl) (Nat.le_of_ble_eq_true rfl) (by cases hF; exact ⟨rfl, rfl⟩))
    · rw [if_neg c6] at hF
      cases hF
set_option maxRecDepth 20000 in
set_option maxHeartbeats 4000000 in
theorem CH_holds (hG : Gok l Γ D s0) (σ : Mem) (v1 : Int32) {out : Mem × Int32} (hF : H_holds σ v1 = some out) : CXH l Γ D s0 yL_holds cL_holds 4 (some .int) [(0, 9, 12, 24)] 8 1 6 410 σ [.ref (Γ.1 + 0), .int v1, .ref (Γ.1 + 346)] (PI (some (.int out.2)) out.1) := by
  unfold H_holds at hF
  refine e_hmet (own := RL) (hh := [(0, 9, 12, 24)]) hG (by decide +kernel) rfl rfl (Nat.le_of_ble_eq_true rfl) ?_
  intro p e s m args below meth c X hex hr
  show E p l e _ s m args below meth c Γ D 0 0 _ σ 0 [some (.ref (Γ.1 + 0)), some (.int v1), some (.ref (Γ.1 + 346)), none] []
  refine e_aload_n X dL_holds_0 rfl rfl ?_
  refine e_iconst X 0 dL_holds_1 rfl ?_
  refine e_aload_n X dL_holds_2 rfl rfl ?_
  refine e_iload_n X dL_holds_3 rfl rfl ?_
  obtain ⟨z1, h_z1, hF⟩ := obind_out hF
  refine e_hcallVwv X z1 [.int v1] [.int 0, .ref (Γ.1 + 346)] (C_W_holds (Cx_gok X) σ v1 h_z1) gv_L_81 yk_X11_holds rfl (ent_lt (rfl : entTbl[0]? = some (0, 0))) (ent_at (rfl : entTbl[0]? = some (0, 0)) _) (rfl : vCl[10]? = some (RX11, TX11, 17)) ⟨Nat.le_of_ble_eq_true rfl, Nat.le_of_ble_eq_true rfl⟩ ⟨Nat.le_of_ble_eq_true rfl, Nat.le_of_ble_eq_true rfl⟩ (Nat.le_of_ble_eq_true rfl) dL_holds_4 rfl (fun o2 hz4 => ?_) (fun e3 hz4 => ?_)
  · skip
    subst hz4; rw [sumE_inr] at hF
    refine e_i2l X dL_holds_7 ?_
    obtain ⟨σ5, h_σ5, hF⟩ := bindT_out hF
    refine e_last X dL_holds_8 h_σ5 ?_
    refine e_goto X 15 dL_holds_9 (by decide) ?_
    refine e_iconst X 0 dL_holds_15 rfl ?_
    exact e_xr (e_iret X hr dL_holds_16 (Nat.le_of_ble_eq_true rfl) (Nat.le_of_ble_eq_true rfl) (by cases hF; exact ⟨rfl, rfl⟩))
  · skip
    subst hz4; rw [sumE_inl] at hF
    by_cases c6 : e3.1 = "java/lang/IndexOutOfBoundsException"
    · rw [if_pos c6] at hF
      rw [c6]
      refine e_hcatch X (hh := [(0, 9, 12, 24)]) [] ⟨0, 9, 12, 24⟩ [] hex rfl (fun z9 hz9 => nomatch hz9) (by decide) (by decide) wlk_24 ((x_gst X).2.2.2.2.1 _ (List.mem_of_getElem? (i := 2) (by decide +kernel))) 12 rfl (fun q9 => ?_)
      refine e_astore_n X dL_holds_12 rfl (by decide) ?_
      refine e_iconst X 1 dL_holds_13 rfl ?_
      exact e_xr (e_iret X hr dL_holds_14 (Nat.le_of_ble_eq_true rfl) (Nat.le_of_ble_eq_true rfl) (by cases hF; exact ⟨rfl, rfl⟩))
    · rw [if_neg c6] at hF
      cases hF
set_option maxRecDepth 20000 in
set_option maxHeartbeats 4000000 in
theorem CH_ring (hG : Gok l Γ D s0) (σ : Mem) (v1 : Int32) {out : Mem × Int32} (hF : H_ring σ v1 = some out) : CXH l Γ D s0 yL_ring cL_ring 4 (some .int) [(0, 9, 12, 24)] 8 1 6 124 σ [.ref (Γ.1 + 0), .int v1, .ref (Γ.1 + 346)] (PI (some (.int out.2)) out.1) := by
  unfold H_ring at hF
  refine e_hmet (own := RL) (hh := [(0, 9, 12, 24)]) hG (by decide +kernel) rfl rfl (Nat.le_of_ble_eq_true rfl) ?_
  intro p e s m args below meth c X hex hr
  show E p l e _ s m args below meth c Γ D 0 0 _ σ 0 [some (.ref (Γ.1 + 0)), some (.int v1), some (.ref (Γ.1 + 346)), none] []
  refine e_aload_n X dL_ring_0 rfl rfl ?_
  refine e_iconst X 0 dL_ring_1 rfl ?_
  refine e_aload_n X dL_ring_2 rfl rfl ?_
  refine e_iload_n X dL_ring_3 rfl rfl ?_
  obtain ⟨z1, h_z1, hF⟩ := obind_out hF
  refine e_hcallVv X z1 [.int v1] [.int 0, .ref (Γ.1 + 346)] (C_W_ring (Cx_gok X) σ v1 h_z1) gv_L_84 yk_X11_ring rfl (ent_lt (rfl : entTbl[0]? = some (0, 0))) (ent_at (rfl : entTbl[0]? = some (0, 0)) _) (rfl : vCl[10]? = some (RX11, TX11, 17)) ⟨Nat.le_of_ble_eq_true rfl, Nat.le_of_ble_eq_true rfl⟩ ⟨Nat.le_of_ble_eq_true rfl, Nat.le_of_ble_eq_true rfl⟩ (Nat.le_of_ble_eq_true rfl) dL_ring_4 rfl (fun o2 hz4 => ?_) (fun e3 hz4 => ?_)
  · skip
    subst hz4; rw [sumE_inr] at hF
    refine e_i2l X dL_ring_7 ?_
    obtain ⟨σ5, h_σ5, hF⟩ := bindT_out hF
    refine e_last X dL_ring_8 h_σ5 ?_
    refine e_goto X 15 dL_ring_9 (by decide) ?_
    refine e_iconst X 0 dL_ring_15 rfl ?_
    exact e_xr (e_iret X hr dL_ring_16 (Nat.le_of_ble_eq_true rfl) (Nat.le_of_ble_eq_true rfl) (by cases hF; exact ⟨rfl, rfl⟩))
  · skip
    subst hz4; rw [sumE_inl] at hF
    by_cases c6 : e3 = "java/lang/IndexOutOfBoundsException"
    · rw [if_pos c6] at hF
      rw [c6]
      refine e_hcatch X (hh := [(0, 9, 12, 24)]) [] ⟨0, 9, 12, 24⟩ [] hex rfl (fun z9 hz9 => nomatch hz9) (by decide) (by decide) wlk_24 ((x_gst X).2.2.2.2.1 _ (List.mem_of_getElem? (i := 2) (by decide +kernel))) 12 rfl (fun q9 => ?_)
      refine e_astore_n X dL_ring_12 rfl (by decide) ?_
      refine e_iconst X 1 dL_ring_13 rfl ?_
      exact e_xr (e_iret X hr dL_ring_14 (Nat.le_of_ble_eq_true rfl) (Nat.le_of_ble_eq_true rfl) (by cases hF; exact ⟨rfl, rfl⟩))
    · rw [if_neg c6] at hF
      cases hF
set_option maxRecDepth 20000 in
set_option maxHeartbeats 4000000 in
theorem CH_leans (hG : Gok l Γ D s0) (σ : Mem) (v1 : Int32) {out : Mem × Int32} (hF : H_leans σ v1 = some out) : CXH l Γ D s0 yL_leans cL_leans 4 (some .int) [(0, 9, 12, 24)] 8 1 6 124 σ [.ref (Γ.1 + 0), .int v1, .ref (Γ.1 + 346)] (PI (some (.int out.2)) out.1) := by
  unfold H_leans at hF
  refine e_hmet (own := RL) (hh := [(0, 9, 12, 24)]) hG (by decide +kernel) rfl rfl (Nat.le_of_ble_eq_true rfl) ?_
  intro p e s m args below meth c X hex hr
  show E p l e _ s m args below meth c Γ D 0 0 _ σ 0 [some (.ref (Γ.1 + 0)), some (.int v1), some (.ref (Γ.1 + 346)), none] []
  refine e_aload_n X dL_leans_0 rfl rfl ?_
  refine e_iconst X 0 dL_leans_1 rfl ?_
  refine e_aload_n X dL_leans_2 rfl rfl ?_
  refine e_iload_n X dL_leans_3 rfl rfl ?_
  obtain ⟨z1, h_z1, hF⟩ := obind_out hF
  refine e_hcallVv X z1 [.int v1] [.int 0, .ref (Γ.1 + 346)] (C_W_leans (Cx_gok X) σ v1 h_z1) gv_L_87 yk_X11_leans rfl (ent_lt (rfl : entTbl[0]? = some (0, 0))) (ent_at (rfl : entTbl[0]? = some (0, 0)) _) (rfl : vCl[10]? = some (RX11, TX11, 17)) ⟨Nat.le_of_ble_eq_true rfl, Nat.le_of_ble_eq_true rfl⟩ ⟨Nat.le_of_ble_eq_true rfl, Nat.le_of_ble_eq_true rfl⟩ (Nat.le_of_ble_eq_true rfl) dL_leans_4 rfl (fun o2 hz4 => ?_) (fun e3 hz4 => ?_)
  · skip
    subst hz4; rw [sumE_inr] at hF
    refine e_i2l X dL_leans_7 ?_
    obtain ⟨σ5, h_σ5, hF⟩ := bindT_out hF
    refine e_last X dL_leans_8 h_σ5 ?_
    refine e_goto X 15 dL_leans_9 (by decide) ?_
    refine e_iconst X 0 dL_leans_15 rfl ?_
    exact e_xr (e_iret X hr dL_leans_16 (Nat.le_of_ble_eq_true rfl) (Nat.le_of_ble_eq_true rfl) (by cases hF; exact ⟨rfl, rfl⟩))
  · skip
    subst hz4; rw [sumE_inl] at hF
    by_cases c6 : e3 = "java/lang/IndexOutOfBoundsException"
    · rw [if_pos c6] at hF
      rw [c6]
      refine e_hcatch X (hh := [(0, 9, 12, 24)]) [] ⟨0, 9, 12, 24⟩ [] hex rfl (fun z9 hz9 => nomatch hz9) (by decide) (by decide) wlk_24 ((x_gst X).2.2.2.2.1 _ (List.mem_of_getElem? (i := 2) (by decide +kernel))) 12 rfl (fun q9 => ?_)
      refine e_astore_n X dL_leans_12 rfl (by decide) ?_
      refine e_iconst X 1 dL_leans_13 rfl ?_
      exact e_xr (e_iret X hr dL_leans_14 (Nat.le_of_ble_eq_true rfl) (Nat.le_of_ble_eq_true rfl) (by cases hF; exact ⟨rfl, rfl⟩))
    · rw [if_neg c6] at hF
      cases hF
set_option maxRecDepth 20000 in
set_option maxHeartbeats 4000000 in
theorem CH_gifts (hG : Gok l Γ D s0) (σ : Mem) (v1 : Int32) (v2 : Int32) (v3 : Int32) {out : Mem × Int32} (hF : H_gifts σ v1 v2 v3 = some out) : CXH l Γ D s0 yL_gifts cL_gifts 6 (some .int) [(0, 12, 15, 24), (0, 12, 19, 13)] 9 3 18 395 σ [.ref (Γ.1 + 0), .int v1, .int v2, .int v3, .ref (Γ.1 + 346)] (PI (some (.int out.2)) out.1) := by
  unfold H_gifts at hF
  refine e_hmet (own := RL) (hh := [(0, 12, 15, 24), (0, 12, 19, 13)]) hG (by decide +kernel) rfl rfl (Nat.le_of_ble_eq_true rfl) ?_
  intro p e s m args below meth c X hex hr
  show E p l e _ s m args below meth c Γ D 0 0 _ σ 0 [some (.ref (Γ.1 + 0)), some (.int v1), some (.int v2), some (.int v3), some (.ref (Γ.1 + 346)), none] []
  refine e_aload X dL_gifts_0 rfl ?_
  refine e_iconst X 0 dL_gifts_2 rfl ?_
  refine e_aload_n X dL_gifts_3 rfl rfl ?_
  refine e_iload_n X dL_gifts_4 rfl rfl ?_
  refine e_iload_n X dL_gifts_5 rfl rfl ?_
  refine e_iload_n X dL_gifts_6 rfl rfl ?_
  obtain ⟨z1, h_z1, hF⟩ := obind_out hF
  refine e_hcallVwv X z1 [.int v1, .int v2, .int v3] [.int 0, .ref (Γ.1 + 346)] (C_W_gifts (Cx_gok X) σ v1 v2 v3 h_z1) gv_L_90 yk_X11_gifts rfl (ent_lt (rfl : entTbl[0]? = some (0, 0))) (ent_at (rfl : entTbl[0]? = some (0, 0)) _) (rfl : vCl[10]? = some (RX11, TX11, 17)) ⟨Nat.le_of_ble_eq_true rfl, Nat.le_of_ble_eq_true rfl⟩ ⟨Nat.le_of_ble_eq_true rfl, Nat.le_of_ble_eq_true rfl⟩ (Nat.le_of_ble_eq_true rfl) dL_gifts_7 rfl (fun o2 hz4 => ?_) (fun e3 hz4 => ?_)
  · skip
    subst hz4; rw [sumE_inr] at hF
    refine e_i2l X dL_gifts_10 ?_
    obtain ⟨σ5, h_σ5, hF⟩ := bindT_out hF
    refine e_last X dL_gifts_11 h_σ5 ?_
    refine e_goto X 23 dL_gifts_12 (by decide) ?_
    refine e_iconst X 0 dL_gifts_23 rfl ?_
    exact e_xr (e_iret X hr dL_gifts_24 (Nat.le_of_ble_eq_true rfl) (Nat.le_of_ble_eq_true rfl) (by cases hF; exact ⟨rfl, rfl⟩))
  · skip
    subst hz4; rw [sumE_inl] at hF
    by_cases c6 : e3.1 = "java/lang/IndexOutOfBoundsException"
    · rw [if_pos c6] at hF
      rw [c6]
      refine e_hcatch X (hh := [(0, 12, 15, 24), (0, 12, 19, 13)]) [] ⟨0, 12, 15, 24⟩ [⟨0, 12, 19, 13⟩] hex rfl (fun z9 hz9 => nomatch hz9) (by decide) (by decide) wlk_24 ((x_gst X).2.2.2.2.1 _ (List.mem_of_getElem? (i := 2) (by decide +kernel))) 15 rfl (fun q9 => ?_)
      refine e_astore X dL_gifts_15 (by decide) ?_
      refine e_iconst X 1 dL_gifts_17 rfl ?_
      exact e_xr (e_iret X hr dL_gifts_18 (Nat.le_of_ble_eq_true rfl) (Nat.le_of_ble_eq_true rfl) (by cases hF; exact ⟨rfl, rfl⟩))
    · rw [if_neg c6] at hF
      by_cases c7 : e3.1 = "java/lang/IllegalArgumentException"
      · rw [if_pos c7] at hF
        rw [c7]
        refine e_hcatch X (hh := [(0, 12, 15, 24), (0, 12, 19, 13)]) [⟨0, 12, 15, 24⟩] ⟨0, 12, 19, 13⟩ [] hex rfl (List.forall_mem_cons.mpr ⟨⟨by decide, "java/lang/IndexOutOfBoundsException", wlk_24, (x_gst X).2.2.2.2.2 _ (List.mem_of_getElem? (i := 0) (by decide +kernel)) _ (List.mem_of_getElem? (i := 2) (by decide +kernel)) (by decide)⟩, (fun z9 hz9 => nomatch hz9)⟩) (by decide) (by decide) wlk_13 ((x_gst X).2.2.2.2.1 _ (List.mem_of_getElem? (i := 0) (by decide +kernel))) 19 rfl (fun q9 => ?_)
        refine e_astore X dL_gifts_19 (by decide) ?_
        refine e_iconst X 2 dL_gifts_21 rfl ?_
        exact e_xr (e_iret X hr dL_gifts_22 (Nat.le_of_ble_eq_true rfl) (Nat.le_of_ble_eq_true rfl) (by cases hF; exact ⟨rfl, rfl⟩))
      · rw [if_neg c7] at hF
        cases hF
set_option maxRecDepth 20000 in
set_option maxHeartbeats 4000000 in
theorem CH_rather (hG : Gok l Γ D s0) (σ : Mem) (v1 : Int32) {out : Mem × Int32} (hF : H_rather σ v1 = some out) : CXH l Γ D s0 yL_rather cL_rather 4 (some .int) [(0, 9, 12, 24)] 8 1 6 124 σ [.ref (Γ.1 + 0), .int v1, .ref (Γ.1 + 346)] (PI (some (.int out.2)) out.1) := by
  unfold H_rather at hF
  refine e_hmet (own := RL) (hh := [(0, 9, 12, 24)]) hG (by decide +kernel) rfl rfl (Nat.le_of_ble_eq_true rfl) ?_
  intro p e s m args below meth c X hex hr
  show E p l e _ s m args below meth c Γ D 0 0 _ σ 0 [some (.ref (Γ.1 + 0)), some (.int v1), some (.ref (Γ.1 + 346)), none] []
  refine e_aload_n X dL_rather_0 rfl rfl ?_
  refine e_iconst X 0 dL_rather_1 rfl ?_
  refine e_aload_n X dL_rather_2 rfl rfl ?_
  refine e_iload_n X dL_rather_3 rfl rfl ?_
  refine e_hcallVv X (F_W_rather σ v1) [.int v1] [.int 0, .ref (Γ.1 + 346)] (C_W_rather (Cx_gok X) σ v1) gv_L_93 yk_X11_rather rfl (ent_lt (rfl : entTbl[0]? = some (0, 0))) (ent_at (rfl : entTbl[0]? = some (0, 0)) _) (rfl : vCl[10]? = some (RX11, TX11, 17)) ⟨Nat.le_of_ble_eq_true rfl, Nat.le_of_ble_eq_true rfl⟩ ⟨Nat.le_of_ble_eq_true rfl, Nat.le_of_ble_eq_true rfl⟩ (Nat.le_of_ble_eq_true rfl) dL_rather_4 rfl (fun o1 hz3 => ?_) (fun e2 hz3 => ?_)
  · skip
    rw [hz3, sumE_inr] at hF
    refine e_i2l X dL_rather_7 ?_
    obtain ⟨σ4, h_σ4, hF⟩ := bindT_out hF
    refine e_last X dL_rather_8 h_σ4 ?_
    refine e_goto X 15 dL_rather_9 (by decide) ?_
    refine e_iconst X 0 dL_rather_15 rfl ?_
    exact e_xr (e_iret X hr dL_rather_16 (Nat.le_of_ble_eq_true rfl) (Nat.le_of_ble_eq_true rfl) (by cases hF; exact ⟨rfl, rfl⟩))
  · skip
    rw [hz3, sumE_inl] at hF
    by_cases c5 : e2 = "java/lang/IndexOutOfBoundsException"
    · rw [if_pos c5] at hF
      rw [c5]
      refine e_hcatch X (hh := [(0, 9, 12, 24)]) [] ⟨0, 9, 12, 24⟩ [] hex rfl (fun z9 hz9 => nomatch hz9) (by decide) (by decide) wlk_24 ((x_gst X).2.2.2.2.1 _ (List.mem_of_getElem? (i := 2) (by decide +kernel))) 12 rfl (fun q9 => ?_)
      refine e_astore_n X dL_rather_12 rfl (by decide) ?_
      refine e_iconst X 1 dL_rather_13 rfl ?_
      exact e_xr (e_iret X hr dL_rather_14 (Nat.le_of_ble_eq_true rfl) (Nat.le_of_ble_eq_true rfl) (by cases hF; exact ⟨rfl, rfl⟩))
    · rw [if_neg c5] at hF
      cases hF
set_option maxRecDepth 20000 in
set_option maxHeartbeats 4000000 in
theorem CH_steady (hG : Gok l Γ D s0) (σ : Mem) (v1 : Int32) {out : Mem × Int32} (hF : H_steady σ v1 = some out) : CXH l Γ D s0 yL_steady cL_steady 4 (some .int) [(0, 9, 12, 24)] 48 1 6 3873 σ [.ref (Γ.1 + 0), .int v1, .ref (Γ.1 + 346)] (PI (some (.int out.2)) out.1) := by
  unfold H_steady at hF
  refine e_hmet (own := RL) (hh := [(0, 9, 12, 24)]) hG (by decide +kernel) rfl rfl (Nat.le_of_ble_eq_true rfl) ?_
  intro p e s m args below meth c X hex hr
  show E p l e _ s m args below meth c Γ D 0 0 _ σ 0 [some (.ref (Γ.1 + 0)), some (.int v1), some (.ref (Γ.1 + 346)), none] []
  refine e_aload_n X dL_steady_0 rfl rfl ?_
  refine e_iconst X 0 dL_steady_1 rfl ?_
  refine e_aload_n X dL_steady_2 rfl rfl ?_
  refine e_iload_n X dL_steady_3 rfl rfl ?_
  obtain ⟨z1, h_z1, hF⟩ := obind_out hF
  refine e_hcallVwv X z1 [.int v1] [.int 0, .ref (Γ.1 + 346)] (C_W_steady (Cx_gok X) σ v1 h_z1) gv_L_96 yk_X11_steady rfl (ent_lt (rfl : entTbl[0]? = some (0, 0))) (ent_at (rfl : entTbl[0]? = some (0, 0)) _) (rfl : vCl[10]? = some (RX11, TX11, 17)) ⟨Nat.le_of_ble_eq_true rfl, Nat.le_of_ble_eq_true rfl⟩ ⟨Nat.le_of_ble_eq_true rfl, Nat.le_of_ble_eq_true rfl⟩ (Nat.le_of_ble_eq_true rfl) dL_steady_4 rfl (fun o2 hz4 => ?_) (fun e3 hz4 => ?_)
  · skip
    subst hz4; rw [sumE_inr] at hF
    refine e_i2l X dL_steady_7 ?_
    obtain ⟨σ5, h_σ5, hF⟩ := bindT_out hF
    refine e_last X dL_steady_8 h_σ5 ?_
    refine e_goto X 15 dL_steady_9 (by decide) ?_
    refine e_iconst X 0 dL_steady_15 rfl ?_
    exact e_xr (e_iret X hr dL_steady_16 (Nat.le_of_ble_eq_true rfl) (Nat.le_of_ble_eq_true rfl) (by cases hF; exact ⟨rfl, rfl⟩))
  · skip
    subst hz4; rw [sumE_inl] at hF
    by_cases c6 : e3.1 = "java/lang/IndexOutOfBoundsException"
    · rw [if_pos c6] at hF
      rw [c6]
      refine e_hcatch X (hh := [(0, 9, 12, 24)]) [] ⟨0, 9, 12, 24⟩ [] hex rfl (fun z9 hz9 => nomatch hz9) (by decide) (by decide) wlk_24 ((x_gst X).2.2.2.2.1 _ (List.mem_of_getElem? (i := 2) (by decide +kernel))) 12 rfl (fun q9 => ?_)
      refine e_astore_n X dL_steady_12 rfl (by decide) ?_
      refine e_iconst X 1 dL_steady_13 rfl ?_
      exact e_xr (e_iret X hr dL_steady_14 (Nat.le_of_ble_eq_true rfl) (Nat.le_of_ble_eq_true rfl) (by cases hF; exact ⟨rfl, rfl⟩))
    · rw [if_neg c6] at hF
      cases hF
set_option maxRecDepth 20000 in
set_option maxHeartbeats 4000000 in
theorem CH_anniversary (hG : Gok l Γ D s0) (σ : Mem) (v1 : Int32) {out : Mem × Int32} (hF : H_anniversary σ v1 = some out) : CXH l Γ D s0 yL_anniversary cL_anniversary 4 (some .int) [(0, 9, 12, 13)] 8 1 6 123 σ [.ref (Γ.1 + 0), .int v1, .ref (Γ.1 + 346)] (PI (some (.int out.2)) out.1) := by
  unfold H_anniversary at hF
  refine e_hmet (own := RL) (hh := [(0, 9, 12, 13)]) hG (by decide +kernel) rfl rfl (Nat.le_of_ble_eq_true rfl) ?_
  intro p e s m args below meth c X hex hr
  show E p l e _ s m args below meth c Γ D 0 0 _ σ 0 [some (.ref (Γ.1 + 0)), some (.int v1), some (.ref (Γ.1 + 346)), none] []
  refine e_aload_n X dL_anniversary_0 rfl rfl ?_
  refine e_iconst X 0 dL_anniversary_1 rfl ?_
  refine e_aload_n X dL_anniversary_2 rfl rfl ?_
  refine e_iload_n X dL_anniversary_3 rfl rfl ?_
  obtain ⟨z1, h_z1, hF⟩ := obind_out hF
  refine e_hcallVwv X z1 [.int v1] [.int 0, .ref (Γ.1 + 346)] (C_W_anniversary (Cx_gok X) σ v1 h_z1) gv_L_99 yk_X11_anniversary rfl (ent_lt (rfl : entTbl[0]? = some (0, 0))) (ent_at (rfl : entTbl[0]? = some (0, 0)) _) (rfl : vCl[10]? = some (RX11, TX11, 17)) ⟨Nat.le_of_ble_eq_true rfl, Nat.le_of_ble_eq_true rfl⟩ ⟨Nat.le_of_ble_eq_true rfl, Nat.le_of_ble_eq_true rfl⟩ (Nat.le_of_ble_eq_true rfl) dL_anniversary_4 rfl (fun o2 hz4 => ?_) (fun e3 hz4 => ?_)
  · skip
    subst hz4; rw [sumE_inr] at hF
    refine e_i2l X dL_anniversary_7 ?_
    obtain ⟨σ5, h_σ5, hF⟩ := bindT_out hF
    refine e_last X dL_anniversary_8 h_σ5 ?_
    refine e_goto X 15 dL_anniversary_9 (by decide) ?_
    refine e_iconst X 0 dL_anniversary_15 rfl ?_
    exact e_xr (e_iret X hr dL_anniversary_16 (Nat.le_of_ble_eq_true rfl) (Nat.le_of_ble_eq_true rfl) (by cases hF; exact ⟨rfl, rfl⟩))
  · skip
    subst hz4; rw [sumE_inl] at hF
    by_cases c6 : e3.1 = "java/lang/IllegalArgumentException"
    · rw [if_pos c6] at hF
      rw [c6]
      refine e_hcatch X (hh := [(0, 9, 12, 13)]) [] ⟨0, 9, 12, 13⟩ [] hex rfl (fun z9 hz9 => nomatch hz9) (by decide) (by decide) wlk_13 ((x_gst X).2.2.2.2.1 _ (List.mem_of_getElem? (i := 0) (by decide +kernel))) 12 rfl (fun q9 => ?_)
      refine e_astore_n X dL_anniversary_12 rfl (by decide) ?_
      refine e_iconst X 1 dL_anniversary_13 rfl ?_
      exact e_xr (e_iret X hr dL_anniversary_14 (Nat.le_of_ble_eq_true rfl) (Nat.le_of_ble_eq_true rfl) (by cases hF; exact ⟨rfl, rfl⟩))
    · rw [if_neg c6] at hF
      cases hF
set_option maxRecDepth 20000 in
set_option maxHeartbeats 4000000 in
theorem CH_dance (hG : Gok l Γ D s0) (σ : Mem)  {out : Mem × Int32} (hF : H_dance σ = some out) : CXH l Γ D s0 yL_dance cL_dance 3 (some .int) [(0, 8, 11, 13)] 8 1 6 122 σ [.ref (Γ.1 + 0), .ref (Γ.1 + 346)] (PI (some (.int out.2)) out.1) := by
  unfold H_dance at hF
  refine e_hmet (own := RL) (hh := [(0, 8, 11, 13)]) hG (by decide +kernel) rfl rfl (Nat.le_of_ble_eq_true rfl) ?_
  intro p e s m args below meth c X hex hr
  show E p l e _ s m args below meth c Γ D 0 0 _ σ 0 [some (.ref (Γ.1 + 0)), some (.ref (Γ.1 + 346)), none] []
  refine e_aload_n X dL_dance_0 rfl rfl ?_
  refine e_iconst X 0 dL_dance_1 rfl ?_
  refine e_aload_n X dL_dance_2 rfl rfl ?_
  obtain ⟨z1, h_z1, hF⟩ := obind_out hF
  refine e_hcallVwv X z1 [] [.int 0, .ref (Γ.1 + 346)] (C_W_dance (Cx_gok X) σ h_z1) gv_L_103 yk_X11_dance rfl (ent_lt (rfl : entTbl[0]? = some (0, 0))) (ent_at (rfl : entTbl[0]? = some (0, 0)) _) (rfl : vCl[10]? = some (RX11, TX11, 17)) ⟨Nat.le_of_ble_eq_true rfl, Nat.le_of_ble_eq_true rfl⟩ ⟨Nat.le_of_ble_eq_true rfl, Nat.le_of_ble_eq_true rfl⟩ (Nat.le_of_ble_eq_true rfl) dL_dance_3 rfl (fun o2 hz4 => ?_) (fun e3 hz4 => ?_)
  · skip
    subst hz4; rw [sumE_inr] at hF
    refine e_i2l X dL_dance_6 ?_
    obtain ⟨σ5, h_σ5, hF⟩ := bindT_out hF
    refine e_last X dL_dance_7 h_σ5 ?_
    refine e_goto X 14 dL_dance_8 (by decide) ?_
    refine e_iconst X 0 dL_dance_14 rfl ?_
    exact e_xr (e_iret X hr dL_dance_15 (Nat.le_of_ble_eq_true rfl) (Nat.le_of_ble_eq_true rfl) (by cases hF; exact ⟨rfl, rfl⟩))
  · skip
    subst hz4; rw [sumE_inl] at hF
    by_cases c6 : e3.1 = "java/lang/IllegalArgumentException"
    · rw [if_pos c6] at hF
      rw [c6]
      refine e_hcatch X (hh := [(0, 8, 11, 13)]) [] ⟨0, 8, 11, 13⟩ [] hex rfl (fun z9 hz9 => nomatch hz9) (by decide) (by decide) wlk_13 ((x_gst X).2.2.2.2.1 _ (List.mem_of_getElem? (i := 0) (by decide +kernel))) 11 rfl (fun q9 => ?_)
      refine e_astore_n X dL_dance_11 rfl (by decide) ?_
      refine e_iconst X 1 dL_dance_12 rfl ?_
      exact e_xr (e_iret X hr dL_dance_13 (Nat.le_of_ble_eq_true rfl) (Nat.le_of_ble_eq_true rfl) (by cases hF; exact ⟨rfl, rfl⟩))
    · rw [if_neg c6] at hF
      cases hF
set_option maxRecDepth 20000 in
set_option maxHeartbeats 4000000 in
theorem CH_trial (hG : Gok l Γ D s0) (σ : Mem) (v1 : Int32) (v2 : Int32) {out : Mem × Int32} (hF : H_trial σ v1 v2 = some out) : CXH l Γ D s0 yL_trial cL_trial 5 (some .int) [(0, 10, 13, 13)] 8 1 6 411 σ [.ref (Γ.1 + 0), .int v1, .int v2, .ref (Γ.1 + 346)] (PI (some (.int out.2)) out.1) := by
  unfold H_trial at hF
  refine e_hmet (own := RL) (hh := [(0, 10, 13, 13)]) hG (by decide +kernel) rfl rfl (Nat.le_of_ble_eq_true rfl) ?_
  intro p e s m args below meth c X hex hr
  show E p l e _ s m args below meth c Γ D 0 0 _ σ 0 [some (.ref (Γ.1 + 0)), some (.int v1), some (.int v2), some (.ref (Γ.1 + 346)), none] []
  refine e_aload_n X dL_trial_0 rfl rfl ?_
  refine e_iconst X 0 dL_trial_1 rfl ?_
  refine e_aload_n X dL_trial_2 rfl rfl ?_
  refine e_iload_n X dL_trial_3 rfl rfl ?_
  refine e_iload_n X dL_trial_4 rfl rfl ?_
  obtain ⟨z1, h_z1, hF⟩ := obind_out hF
  refine e_hcallVwv X z1 [.int v1, .int v2] [.int 0, .ref (Γ.1 + 346)] (C_W_trial (Cx_gok X) σ v1 v2 h_z1) gv_L_106 yk_X11_trial rfl (ent_lt (rfl : entTbl[0]? = some (0, 0))) (ent_at (rfl : entTbl[0]? = some (0, 0)) _) (rfl : vCl[10]? = some (RX11, TX11, 17)) ⟨Nat.le_of_ble_eq_true rfl, Nat.le_of_ble_eq_true rfl⟩ ⟨Nat.le_of_ble_eq_true rfl, Nat.le_of_ble_eq_true rfl⟩ (Nat.le_of_ble_eq_true rfl) dL_trial_5 rfl (fun o2 hz4 => ?_) (fun e3 hz4 => ?_)
  · skip
    subst hz4; rw [sumE_inr] at hF
    refine e_i2l X dL_trial_8 ?_
    obtain ⟨σ5, h_σ5, hF⟩ := bindT_out hF
    refine e_last X dL_trial_9 h_σ5 ?_
    refine e_goto X 17 dL_trial_10 (by decide) ?_
    refine e_iconst X 0 dL_trial_17 rfl ?_
    exact e_xr (e_iret X hr dL_trial_18 (Nat.le_of_ble_eq_true rfl) (Nat.le_of_ble_eq_true rfl) (by cases hF; exact ⟨rfl, rfl⟩))
  · skip
    subst hz4; rw [sumE_inl] at hF
    by_cases c6 : e3.1 = "java/lang/IllegalArgumentException"
    · rw [if_pos c6] at hF
      rw [c6]
      refine e_hcatch X (hh := [(0, 10, 13, 13)]) [] ⟨0, 10, 13, 13⟩ [] hex rfl (fun z9 hz9 => nomatch hz9) (by decide) (by decide) wlk_13 ((x_gst X).2.2.2.2.1 _ (List.mem_of_getElem? (i := 0) (by decide +kernel))) 13 rfl (fun q9 => ?_)
      refine e_astore X dL_trial_13 (by decide) ?_
      refine e_iconst X 1 dL_trial_15 rfl ?_
      exact e_xr (e_iret X hr dL_trial_16 (Nat.le_of_ble_eq_true rfl) (Nat.le_of_ble_eq_true rfl) (by cases hF; exact ⟨rfl, rfl⟩))
    · rw [if_neg c6] at hF
      cases hF
set_option maxRecDepth 20000 in
set_option maxHeartbeats 4000000 in
theorem CH_span (hG : Gok l Γ D s0) (σ : Mem) (v1 : Int32) (v2 : Int32) {out : Mem × Int32} (hF : H_span σ v1 v2 = some out) : CXH l Γ D s0 yL_span cL_span 5 (some .int) [(0, 10, 13, 13)] 8 1 6 413 σ [.ref (Γ.1 + 0), .int v1, .int v2, .ref (Γ.1 + 346)] (PI (some (.int out.2)) out.1) := by
  unfold H_span at hF
  refine e_hmet (own := RL) (hh := [(0, 10, 13, 13)]) hG (by decide +kernel) rfl rfl (Nat.le_of_ble_eq_true rfl) ?_
  intro p e s m args below meth c X hex hr
  show E p l e _ s m args below meth c Γ D 0 0 _ σ 0 [some (.ref (Γ.1 + 0)), some (.int v1), some (.int v2), some (.ref (Γ.1 + 346)), none] []
  refine e_aload_n X dL_span_0 rfl rfl ?_
  refine e_iconst X 0 dL_span_1 rfl ?_
  refine e_aload_n X dL_span_2 rfl rfl ?_
  refine e_iload_n X dL_span_3 rfl rfl ?_
  refine e_iload_n X dL_span_4 rfl rfl ?_
  obtain ⟨z1, h_z1, hF⟩ := obind_out hF
  refine e_hcallVwv X z1 [.int v1, .int v2] [.int 0, .ref (Γ.1 + 346)] (C_W_span (Cx_gok X) σ v1 v2 h_z1) gv_L_110 yk_X11_span rfl (ent_lt (rfl : entTbl[0]? = some (0, 0))) (ent_at (rfl : entTbl[0]? = some (0, 0)) _) (rfl : vCl[10]? = some (RX11, TX11, 17)) ⟨Nat.le_of_ble_eq_true rfl, Nat.le_of_ble_eq_true rfl⟩ ⟨Nat.le_of_ble_eq_true rfl, Nat.le_of_ble_eq_true rfl⟩ (Nat.le_of_ble_eq_true rfl) dL_span_5 rfl (fun o2 hz4 => ?_) (fun e3 hz4 => ?_)
  · skip
    subst hz4; rw [sumE_inr] at hF
    refine e_i2l X dL_span_8 ?_
    obtain ⟨σ5, h_σ5, hF⟩ := bindT_out hF
    refine e_last X dL_span_9 h_σ5 ?_
    refine e_goto X 17 dL_span_10 (by decide) ?_
    refine e_iconst X 0 dL_span_17 rfl ?_
    exact e_xr (e_iret X hr dL_span_18 (Nat.le_of_ble_eq_true rfl) (Nat.le_of_ble_eq_true rfl) (by cases hF; exact ⟨rfl, rfl⟩))
  · skip
    subst hz4; rw [sumE_inl] at hF
    by_cases c6 : e3.1 = "java/lang/IllegalArgumentException"
    · rw [if_pos c6] at hF
      rw [c6]
      refine e_hcatch X (hh := [(0, 10, 13, 13)]) [] ⟨0, 10, 13, 13⟩ [] hex rfl (fun z9 hz9 => nomatch hz9) (by decide) (by decide) wlk_13 ((x_gst X).2.2.2.2.1 _ (List.mem_of_getElem? (i := 0) (by decide +kernel))) 13 rfl (fun q9 => ?_)
      refine e_astore X dL_span_13 (by decide) ?_
      refine e_iconst X 1 dL_span_15 rfl ?_
      exact e_xr (e_iret X hr dL_span_16 (Nat.le_of_ble_eq_true rfl) (Nat.le_of_ble_eq_true rfl) (by cases hF; exact ⟨rfl, rfl⟩))
    · rw [if_neg c6] at hF
      cases hF
set_option maxRecDepth 20000 in
set_option maxHeartbeats 4000000 in
theorem CH_led (hG : Gok l Γ D s0) (σ : Mem) (v1 : Int32) (v2 : Int32) {out : Mem × Int32} (hF : H_led σ v1 v2 = some out) : CXH l Γ D s0 yL_led cL_led 5 (some .int) [(0, 10, 13, 24)] 8 1 6 125 σ [.ref (Γ.1 + 0), .int v1, .int v2, .ref (Γ.1 + 346)] (PI (some (.int out.2)) out.1) := by
  unfold H_led at hF
  refine e_hmet (own := RL) (hh := [(0, 10, 13, 24)]) hG (by decide +kernel) rfl rfl (Nat.le_of_ble_eq_true rfl) ?_
  intro p e s m args below meth c X hex hr
  show E p l e _ s m args below meth c Γ D 0 0 _ σ 0 [some (.ref (Γ.1 + 0)), some (.int v1), some (.int v2), some (.ref (Γ.1 + 346)), none] []
  refine e_aload_n X dL_led_0 rfl rfl ?_
  refine e_iconst X 0 dL_led_1 rfl ?_
  refine e_aload_n X dL_led_2 rfl rfl ?_
  refine e_iload_n X dL_led_3 rfl rfl ?_
  refine e_iload_n X dL_led_4 rfl rfl ?_
  refine e_hcallVv X (F_W_led σ v1 v2) [.int v1, .int v2] [.int 0, .ref (Γ.1 + 346)] (C_W_led (Cx_gok X) σ v1 v2) gv_L_113 yk_X11_led rfl (ent_lt (rfl : entTbl[0]? = some (0, 0))) (ent_at (rfl : entTbl[0]? = some (0, 0)) _) (rfl : vCl[10]? = some (RX11, TX11, 17)) ⟨Nat.le_of_ble_eq_true rfl, Nat.le_of_ble_eq_true rfl⟩ ⟨Nat.le_of_ble_eq_true rfl, Nat.le_of_ble_eq_true rfl⟩ (Nat.le_of_ble_eq_true rfl) dL_led_5 rfl (fun o1 hz3 => ?_) (fun e2 hz3 => ?_)
  · skip
    rw [hz3, sumE_inr] at hF
    refine e_i2l X dL_led_8 ?_
    obtain ⟨σ4, h_σ4, hF⟩ := bindT_out hF
    refine e_last X dL_led_9 h_σ4 ?_
    refine e_goto X 17 dL_led_10 (by decide) ?_
    refine e_iconst X 0 dL_led_17 rfl ?_
    exact e_xr (e_iret X hr dL_led_18 (Nat.le_of_ble_eq_true rfl) (Nat.le_of_ble_eq_true rfl) (by cases hF; exact ⟨rfl, rfl⟩))
  · skip
    rw [hz3, sumE_inl] at hF
    by_cases c5 : e2 = "java/lang/IndexOutOfBoundsException"
    · rw [if_pos c5] at hF
      rw [c5]
      refine e_hcatch X (hh := [(0, 10, 13, 24)]) [] ⟨0, 10, 13, 24⟩ [] hex rfl (fun z9 hz9 => nomatch hz9) (by decide) (by decide) wlk_24 ((x_gst X).2.2.2.2.1 _ (List.mem_of_getElem? (i := 2) (by decide +kernel))) 13 rfl (fun q9 => ?_)
      refine e_astore X dL_led_13 (by decide) ?_
      refine e_iconst X 1 dL_led_15 rfl ?_
      exact e_xr (e_iret X hr dL_led_16 (Nat.le_of_ble_eq_true rfl) (Nat.le_of_ble_eq_true rfl) (by cases hF; exact ⟨rfl, rfl⟩))
    · rw [if_neg c5] at hF
      cases hF
set_option maxRecDepth 20000 in
set_option maxHeartbeats 4000000 in
theorem CH_log (hG : Gok l Γ D s0) (σ : Mem) (v1 : Int32) (v2 : Int32) {out : Mem × Int32} (hF : H_log σ v1 v2 = some out) : CXH l Γ D s0 yL_log cL_log 5 (some .int) [(0, 10, 13, 26)] 7 1 6 104 σ [.ref (Γ.1 + 0), .int v1, .int v2, .ref (Γ.1 + 346)] (PI (some (.int out.2)) out.1) := by
  unfold H_log at hF
  refine e_hmet (own := RL) (hh := [(0, 10, 13, 26)]) hG (by decide +kernel) rfl rfl (Nat.le_of_ble_eq_true rfl) ?_
  intro p e s m args below meth c X hex hr
  show E p l e _ s m args below meth c Γ D 0 0 _ σ 0 [some (.ref (Γ.1 + 0)), some (.int v1), some (.int v2), some (.ref (Γ.1 + 346)), none] []
  refine e_aload_n X dL_log_0 rfl rfl ?_
  refine e_iconst X 0 dL_log_1 rfl ?_
  refine e_aload_n X dL_log_2 rfl rfl ?_
  refine e_iload_n X dL_log_3 rfl rfl ?_
  refine e_iload_n X dL_log_4 rfl rfl ?_
  refine e_hcallVv X (F_W_log σ v1 v2) [.int v1, .int v2] [.int 0, .ref (Γ.1 + 346)] (C_W_log (Cx_gok X) σ v1 v2) gv_L_116 yk_X11_log rfl (ent_lt (rfl : entTbl[0]? = some (0, 0))) (ent_at (rfl : entTbl[0]? = some (0, 0)) _) (rfl : vCl[10]? = some (RX11, TX11, 17)) ⟨Nat.le_of_ble_eq_true rfl, Nat.le_of_ble_eq_true rfl⟩ ⟨Nat.le_of_ble_eq_true rfl, Nat.le_of_ble_eq_true rfl⟩ (Nat.le_of_ble_eq_true rfl) dL_log_5 rfl (fun o1 hz3 => ?_) (fun e2 hz3 => ?_)
  · skip
    rw [hz3, sumE_inr] at hF
    refine e_i2l X dL_log_8 ?_
    obtain ⟨σ4, h_σ4, hF⟩ := bindT_out hF
    refine e_last X dL_log_9 h_σ4 ?_
    refine e_goto X 17 dL_log_10 (by decide) ?_
    refine e_iconst X 0 dL_log_17 rfl ?_
    exact e_xr (e_iret X hr dL_log_18 (Nat.le_of_ble_eq_true rfl) (Nat.le_of_ble_eq_true rfl) (by cases hF; exact ⟨rfl, rfl⟩))
  · skip
    rw [hz3, sumE_inl] at hF
    by_cases c5 : e2 = "java/util/NoSuchElementException"
    · rw [if_pos c5] at hF
      rw [c5]
      refine e_hcatch X (hh := [(0, 10, 13, 26)]) [] ⟨0, 10, 13, 26⟩ [] hex rfl (fun z9 hz9 => nomatch hz9) (by decide) (by decide) wlk_26 ((x_gst X).2.2.2.2.1 _ (List.mem_of_getElem? (i := 4) (by decide +kernel))) 13 rfl (fun q9 => ?_)
      refine e_astore X dL_log_13 (by decide) ?_
      refine e_iconst X 1 dL_log_15 rfl ?_
      exact e_xr (e_iret X hr dL_log_16 (Nat.le_of_ble_eq_true rfl) (Nat.le_of_ble_eq_true rfl) (by cases hF; exact ⟨rfl, rfl⟩))
    · rw [if_neg c5] at hF
      cases hF
end PART

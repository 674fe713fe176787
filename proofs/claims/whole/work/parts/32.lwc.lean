section PART
variable {p : Program} {l : Launch} {e : Env} {R : Room} {s : State} {m : MethodId} {args : Array Value} {below : List Frame} {meth : Method} {c : Code} {Γ : Gm} {D : va_G} {s0 : State} {cells slots : Nat} {Q : State → Prop} {own : String} {cc : ByteArray} {nL : Nat} {σ : Mem} {pc : Nat} {lv : List (Option Value)} {st : List Value} {Pst : Option Value → Mem → Prop}
def S_0 (σ : Mem) (a1 a2 a3 a4 a5 : Int32) : Option Mem := obind (F_W_feed σ a1 a2 a3 a4 a5) fun z1 => obind (F_M_feed z1.1 a1 a2 a3 a4 a5) fun z2 => (if z1.2 = z2.2 then some z2.1 else none)
def S_1 (σ : Mem) (a1 a2 a3 a4 a5 : Int32) : Option Mem := bindT (F_W_end σ a1) fun z1 => bindT (F_M_end z1.1 a1) fun z2 => (if z1.2 = z2.2 then some z2.1 else none)
def S_2 (σ : Mem) (a1 a2 a3 a4 a5 : Int32) : Option Mem := obind (H_town σ) fun z1 => obind (F_M_town z1.1) fun z2 => (if (F_M_thrown z2.1) = z1.2 then (if z1.2 = 0 then (if (z2.1 346 0) = z2.2 then some z2.1 else none) else some z2.1) else none)
def S_3 (σ : Mem) (a1 a2 a3 a4 a5 : Int32) : Option Mem := obind (H_law σ) fun z1 => obind (F_M_law z1.1) fun z2 => (if (F_M_thrown z2.1) = z1.2 then (if z1.2 = 0 then (if (z2.1 346 0) = z2.2 then some z2.1 else none) else some z2.1) else none)
def S_4 (σ : Mem) (a1 a2 a3 a4 a5 : Int32) : Option Mem := bindT (F_M_fault σ) fun z1 => (if (F_W_fault σ) = z1.2 then some z1.1 else none)
def S_5 (σ : Mem) (a1 a2 a3 a4 a5 : Int32) : Option Mem := obind (H_person σ a1 a2) fun z1 => obind (F_M_person z1.1 a1 a2) fun z2 => (if (F_M_thrown z2.1) = z1.2 then (if z1.2 = 0 then (if (z2.1 346 0) = z2.2 then some z2.1 else none) else some z2.1) else none)
def S_6 (σ : Mem) (a1 a2 a3 a4 a5 : Int32) : Option Mem := obind (H_liking σ a1 a2) fun z1 => obind (F_M_liking z1.1 a1 a2) fun z2 => (if (F_M_thrown z2.1) = z1.2 then (if z1.2 = 0 then (if (z2.1 346 0) = z2.2 then some z2.1 else none) else some z2.1) else none)
def S_7 (σ : Mem) (a1 a2 a3 a4 a5 : Int32) : Option Mem := obind (H_match σ a1 a2) fun z1 => obind (F_M_match z1.1 a1 a2) fun z2 => (if (F_M_thrown z2.1) = z1.2 then (if z1.2 = 0 then (if (z2.1 346 0) = z2.2 then some z2.1 else none) else some z2.1) else none)
def S_8 (σ : Mem) (a1 a2 a3 a4 a5 : Int32) : Option Mem := obind (H_ask σ a1 a2) fun z1 => obind (F_M_ask z1.1 a1 a2) fun z2 => (if (F_M_thrown z2.1) = z1.2 then (if z1.2 = 0 then (if z2.2 = 0 then (if (z2.1 346 0) = (0 : Int32) then some z2.1 else none) else (if (z2.1 346 0) = (1 : Int32) then some z2.1 else none)) else some z2.1) else none)
def S_9 (σ : Mem) (a1 a2 a3 a4 a5 : Int32) : Option Mem := obind (H_wed σ a1 a2) fun z1 => obind (F_M_wed z1.1 a1 a2) fun z2 => (if (F_M_thrown z2.1) = z1.2 then (if z1.2 = 0 then (if (z2.1 346 0) = z2.2 then some z2.1 else none) else some z2.1) else none)
def S_10 (σ : Mem) (a1 a2 a3 a4 a5 : Int32) : Option Mem := obind (H_gift σ a1 a2) fun z1 => obind (F_M_gift z1.1 a1 a2) fun z2 => (if (F_M_thrown z2.1) = z1.2 then (if z1.2 = 0 then (if (z2.1 346 0) = z2.2 then some z2.1 else none) else some z2.1) else none)
def S_11 (σ : Mem) (a1 a2 a3 a4 a5 : Int32) : Option Mem := obind (H_meddle σ a1 a2) fun z1 => obind (F_M_meddle z1.1 a1 a2) fun z2 => (if (F_M_thrown z2.1) = z1.2 then (if z1.2 = 0 then (if (z2.1 346 0) = z2.2 then some z2.1 else none) else some z2.1) else none)
def S_12 (σ : Mem) (a1 a2 a3 a4 a5 : Int32) : Option Mem := obind (H_reinsure σ a1 a2) fun z1 => obind (F_M_reinsure z1.1 a1 a2) fun z2 => (if (F_M_thrown z2.1) = z1.2 then (if z1.2 = 0 then (if (z2.1 346 0) = z2.2 then some z2.1 else none) else some z2.1) else none)
def S_13 (σ : Mem) (a1 a2 a3 a4 a5 : Int32) : Option Mem := obind (H_part σ a1) fun z1 => obind (F_M_part_ z1.1 a1) fun z2 => (if (F_M_thrown z2.1) = z1.2 then (if z1.2 = 0 then (if (z2.1 346 0) = z2.2 then some z2.1 else none) else some z2.1) else none)
def S_14 (σ : Mem) (a1 a2 a3 a4 a5 : Int32) : Option Mem := obind (H_months σ a1) fun z1 => obind (F_M_months z1.1 a1) fun z2 => (if (F_M_thrown z2.1) = z1.2 then (if z1.2 = 0 then (if (z2.1 346 0) = z2.2 then some z2.1 else none) else some z2.1) else none)
def S_15 (σ : Mem) (a1 a2 a3 a4 a5 : Int32) : Option Mem := obind (H_would σ a1 a2) fun z1 => obind (F_M_would z1.1 a1 a2) fun z2 => (if (F_M_thrown z2.1) = z1.2 then (if z1.2 = 0 then (if (z2.1 346 0) = z2.2 then some z2.1 else none) else some z2.1) else none)
def S_16 (σ : Mem) (a1 a2 a3 a4 a5 : Int32) : Option Mem := obind (H_best σ a1) fun z1 => obind (F_M_best z1.1 a1) fun z2 => (if (F_M_thrown z2.1) = z1.2 then (if z1.2 = 0 then (if (z2.1 346 0) = z2.2 then some z2.1 else none) else some z2.1) else none)
def S_17 (σ : Mem) (a1 a2 a3 a4 a5 : Int32) : Option Mem := obind (H_next σ a1 a2) fun z1 => obind (F_M_next z1.1 a1 a2) fun z2 => (if (F_M_thrown z2.1) = z1.2 then (if z1.2 = 0 then (if (z2.1 346 0) = z2.2 then some z2.1 else none) else some z2.1) else none)
def S_18 (σ : Mem) (a1 a2 a3 a4 a5 : Int32) : Option Mem := obind (H_ahead σ a1 a2 a3) fun z1 => obind (F_M_ahead z1.1 a1 a2 a3) fun z2 => (if (F_M_thrown z2.1) = z1.2 then (if z1.2 = 0 then (if (z2.1 346 0) = z2.2 then some z2.1 else none) else some z2.1) else none)
def S_19 (σ : Mem) (a1 a2 a3 a4 a5 : Int32) : Option Mem := obind (H_first σ a1 a2) fun z1 => obind (F_M_first z1.1 a1 a2) fun z2 => (if (F_M_thrown z2.1) = z1.2 then (if z1.2 = 0 then (if (z2.1 346 0) = z2.2 then some z2.1 else none) else some z2.1) else none)
def S_20 (σ : Mem) (a1 a2 a3 a4 a5 : Int32) : Option Mem := obind (H_odds σ a1) fun z1 => obind (F_M_odds z1.1 a1) fun z2 => (if (F_M_thrown z2.1) = z1.2 then (if z1.2 = 0 then (if (z2.1 346 0) = z2.2 then some z2.1 else none) else some z2.1) else none)
def S_21 (σ : Mem) (a1 a2 a3 a4 a5 : Int32) : Option Mem := obind (F_W_falls σ) fun z1 => obind (F_M_falls z1.1) fun z2 => (if z1.2 = z2.2 then some z2.1 else none)
def S_22 (σ : Mem) (a1 a2 a3 a4 a5 : Int32) : Option Mem := obind (H_loses σ a1) fun z1 => obind (F_M_loses z1.1 a1) fun z2 => (if (F_M_thrown z2.1) = z1.2 then (if z1.2 = 0 then (if (z2.1 346 0) = z2.2 then some z2.1 else none) else some z2.1) else none)
def S_23 (σ : Mem) (a1 a2 a3 a4 a5 : Int32) : Option Mem := obind (H_holds σ a1) fun z1 => obind (F_M_holds z1.1 a1) fun z2 => (if (F_M_thrown z2.1) = z1.2 then (if z1.2 = 0 then (if (z2.1 346 0) = z2.2 then some z2.1 else none) else some z2.1) else none)
def S_24 (σ : Mem) (a1 a2 a3 a4 a5 : Int32) : Option Mem := obind (H_ring σ a1) fun z1 => obind (F_M_ring z1.1 a1) fun z2 => (if (F_M_thrown z2.1) = z1.2 then (if z1.2 = 0 then (if (z2.1 346 0) = z2.2 then some z2.1 else none) else some z2.1) else none)
def S_25 (σ : Mem) (a1 a2 a3 a4 a5 : Int32) : Option Mem := obind (F_W_rings σ) fun z1 => obind (F_M_rings σ) fun z2 => (if z1 = z2.2 then some z2.1 else none)
def S_26 (σ : Mem) (a1 a2 a3 a4 a5 : Int32) : Option Mem := obind (H_leans σ a1) fun z1 => obind (F_M_leans z1.1 a1) fun z2 => (if (F_M_thrown z2.1) = z1.2 then (if z1.2 = 0 then (if (z2.1 346 0) = z2.2 then some z2.1 else none) else some z2.1) else none)
def S_27 (σ : Mem) (a1 a2 a3 a4 a5 : Int32) : Option Mem := obind (H_gifts σ a1 a2 a3) fun z1 => obind (F_M_gifts z1.1 a1 a2 a3) fun z2 => (if (F_M_thrown z2.1) = z1.2 then (if z1.2 = 0 then (if (z2.1 346 0) = z2.2 then some z2.1 else none) else some z2.1) else none)
def S_28 (σ : Mem) (a1 a2 a3 a4 a5 : Int32) : Option Mem := obind (H_rather σ a1) fun z1 => obind (F_M_rather z1.1 a1) fun z2 => (if (F_M_thrown z2.1) = z1.2 then (if z1.2 = 0 then (if (z2.1 346 0) = z2.2 then some z2.1 else none) else some z2.1) else none)
def S_29 (σ : Mem) (a1 a2 a3 a4 a5 : Int32) : Option Mem := (if a1 = 0 then (if a1 = 0 then obind (F_M_lovers σ 0) fun z3 => (if (F_W_lovers σ 0) = z3.2 then some z3.1 else none) else obind (F_M_lovers σ 1) fun z5 => (if (F_W_lovers σ 0) = z5.2 then some z5.1 else none)) else (if a1 = 0 then obind (F_M_lovers σ 0) fun z8 => (if (F_W_lovers σ 1) = z8.2 then some z8.1 else none) else obind (F_M_lovers σ 1) fun z10 => (if (F_W_lovers σ 1) = z10.2 then some z10.1 else none)))
def S_30 (σ : Mem) (a1 a2 a3 a4 a5 : Int32) : Option Mem := obind (H_steady σ a1) fun z1 => obind (F_M_steady z1.1 a1) fun z2 => (if (F_M_thrown z2.1) = z1.2 then (if z1.2 = 0 then (if (z2.1 346 0) = z2.2 then some z2.1 else none) else some z2.1) else none)
def S_31 (σ : Mem) (a1 a2 a3 a4 a5 : Int32) : Option Mem := obind (F_W_weddings σ) fun z1 => obind (F_M_weddings σ) fun z2 => (if z1 = z2.2 then some z2.1 else none)
def S_32 (σ : Mem) (a1 a2 a3 a4 a5 : Int32) : Option Mem := (if a1 = 0 then obind (H_anniversary σ 0) fun z2 => (if a1 = 0 then obind (F_M_anniversary z2.1 0) fun z4 => (if (F_M_thrown z4.1) = z2.2 then (if z2.2 = 0 then (if (z4.1 346 0) = z4.2 then some z4.1 else none) else some z4.1) else none) else obind (F_M_anniversary z2.1 1) fun z8 => (if (F_M_thrown z8.1) = z2.2 then (if z2.2 = 0 then (if (z8.1 346 0) = z8.2 then some z8.1 else none) else some z8.1) else none)) else obind (H_anniversary σ 1) fun z12 => (if a1 = 0 then obind (F_M_anniversary z12.1 0) fun z14 => (if (F_M_thrown z14.1) = z12.2 then (if z12.2 = 0 then (if (z14.1 346 0) = z14.2 then some z14.1 else none) else some z14.1) else none) else obind (F_M_anniversary z12.1 1) fun z18 => (if (F_M_thrown z18.1) = z12.2 then (if z12.2 = 0 then (if (z18.1 346 0) = z18.2 then some z18.1 else none) else some z18.1) else none)))
def S_33 (σ : Mem) (a1 a2 a3 a4 a5 : Int32) : Option Mem := obind (H_dance σ) fun z1 => obind (F_M_dance z1.1) fun z2 => (if (F_M_thrown z2.1) = z1.2 then (if z1.2 = 0 then (if (z2.1 346 0) = z2.2 then some z2.1 else none) else some z2.1) else none)
def S_34 (σ : Mem) (a1 a2 a3 a4 a5 : Int32) : Option Mem := obind (F_M_richest σ) fun z1 => (if (F_W_richest σ) = z1.2 then some z1.1 else none)
def S_35 (σ : Mem) (a1 a2 a3 a4 a5 : Int32) : Option Mem := (if a2 = 0 then obind (H_trial σ a1 0) fun z2 => (if a2 = 0 then obind (F_M_trial z2.1 a1 0) fun z4 => (if (F_M_thrown z4.1) = z2.2 then (if z2.2 = 0 then (if (z4.1 346 0) = z4.2 then some z4.1 else none) else some z4.1) else none) else obind (F_M_trial z2.1 a1 1) fun z8 => (if (F_M_thrown z8.1) = z2.2 then (if z2.2 = 0 then (if (z8.1 346 0) = z8.2 then some z8.1 else none) else some z8.1) else none)) else obind (H_trial σ a1 1) fun z12 => (if a2 = 0 then obind (F_M_trial z12.1 a1 0) fun z14 => (if (F_M_thrown z14.1) = z12.2 then (if z12.2 = 0 then (if (z14.1 346 0) = z14.2 then some z14.1 else none) else some z14.1) else none) else obind (F_M_trial z12.1 a1 1) fun z18 => (if (F_M_thrown z18.1) = z12.2 then (if z12.2 = 0 then (if (z18.1 346 0) = z18.2 then some z18.1 else none) else some z18.1) else none)))
def S_36 (σ : Mem) (a1 a2 a3 a4 a5 : Int32) : Option Mem := (if a2 = 0 then obind (H_span σ a1 0) fun z2 => (if a2 = 0 then obind (F_M_span z2.1 a1 0) fun z4 => (if (F_M_thrown z4.1) = z2.2 then (if z2.2 = 0 then (if (z4.1 346 0) = z4.2 then some z4.1 else none) else some z4.1) else none) else obind (F_M_span z2.1 a1 1) fun z8 => (if (F_M_thrown z8.1) = z2.2 then (if z2.2 = 0 then (if (z8.1 346 0) = z8.2 then some z8.1 else none) else some z8.1) else none)) else obind (H_span σ a1 1) fun z12 => (if a2 = 0 then obind (F_M_span z12.1 a1 0) fun z14 => (if (F_M_thrown z14.1) = z12.2 then (if z12.2 = 0 then (if (z14.1 346 0) = z14.2 then some z14.1 else none) else some z14.1) else none) else obind (F_M_span z12.1 a1 1) fun z18 => (if (F_M_thrown z18.1) = z12.2 then (if z12.2 = 0 then (if (z18.1 346 0) = z18.2 then some z18.1 else none) else some z18.1) else none)))
def S_37 (σ : Mem) (a1 a2 a3 a4 a5 : Int32) : Option Mem := (if a2 = 0 then obind (H_led σ a1 0) fun z2 => (if a2 = 0 then obind (F_M_led z2.1 a1 0) fun z4 => (if (F_M_thrown z4.1) = z2.2 then (if z2.2 = 0 then (if (z4.1 346 0) = z4.2 then some z4.1 else none) else some z4.1) else none) else obind (F_M_led z2.1 a1 1) fun z8 => (if (F_M_thrown z8.1) = z2.2 then (if z2.2 = 0 then (if (z8.1 346 0) = z8.2 then some z8.1 else none) else some z8.1) else none)) else obind (H_led σ a1 1) fun z12 => (if a2 = 0 then obind (F_M_led z12.1 a1 0) fun z14 => (if (F_M_thrown z14.1) = z12.2 then (if z12.2 = 0 then (if (z14.1 346 0) = z14.2 then some z14.1 else none) else some z14.1) else none) else obind (F_M_led z12.1 a1 1) fun z18 => (if (F_M_thrown z18.1) = z12.2 then (if z12.2 = 0 then (if (z18.1 346 0) = z18.2 then some z18.1 else none) else some z18.1) else none)))
def S_38 (σ : Mem) (a1 a2 a3 a4 a5 : Int32) : Option Mem := obind (H_log σ a1 a2) fun z1 => obind (F_M_log z1.1 a1 a2) fun z2 => (if (F_M_thrown z2.1) = z1.2 then (if z1.2 = 0 then (if (z2.1 346 0) = z2.2 then some z2.1 else none) else some z2.1) else none)
def S_39 (σ : Mem) (a1 a2 a3 a4 a5 : Int32) : Option Mem := bindT (F_W_seed σ a1) fun z1 => obind (F_M_seed z1.1 a1) fun z2 => (if z1.2 = z2.2 then some z2.1 else none)
def S_40 (σ : Mem) (a1 a2 a3 a4 a5 : Int32) : Option Mem := obind (F_W_undo σ) fun z1 => obind (F_M_undo z1.1) fun z2 => (if z1.2 = z2.2 then some z2.1 else none)
def S_41 (σ : Mem) (a1 a2 a3 a4 a5 : Int32) : Option Mem := bindT (F_W_image σ) fun z1 => obind (F_M_image z1) fun z2 => some z2
def S_42 (σ : Mem) (a1 a2 a3 a4 a5 : Int32) : Option Mem := bindT (F_W_back σ) fun z1 => obind (F_M_back z1.1) fun z2 => (if z1.2 = z2.2 then some z2.1 else none)
def S_43 (σ : Mem) (a1 a2 a3 a4 a5 : Int32) : Option Mem := obind (F_M_count σ a1) fun z1 => (if (F_W_count σ a1) = z1.2 then some z1.1 else none)
set_option maxRecDepth 20000 in
set_option maxHeartbeats 4000000 in
theorem T_0 {b L : Nat} {xs : Nat → Int32} {i9 a1 a2 a3 a4 a5 : Int32} (X : Cx p l s m args meth c Γ D s0 RL cL_law_ 7) (hX : va_X b L xs s s.heap) (hbl : b < s.heap.size) (hbA : ¬ Γ.1 ≤ b) (hi1 : vp_in (i9 + 1) L) (hi2 : vp_in (i9 + 2) L) (hi3 : vp_in (i9 + 3) L) (hi4 : vp_in (i9 + 4) L) (hi5 : vp_in (i9 + 5) L) (ha1 : xs (i9 + 1).toNatClampNeg = a1) (ha2 : xs (i9 + 2).toNatClampNeg = a2) (ha3 : xs (i9 + 3).toNatClampNeg = a3) (ha4 : xs (i9 + 4).toNatClampNeg = a4) (ha5 : xs (i9 + 5).toNatClampNeg = a5) (hcc : cells + 8 ≤ room_1.cells) (hss : slots + 48 ≤ room_1.slots) (σ : Mem) {z : Mem} (hF : S_0 σ a1 a2 a3 a4 a5 = some z) (hK : E p l e room_1 s m args below meth c Γ D (cells + 8) (slots + 48) Q z 2522 [some (.ref b), some (.ref (Γ.1 + 0)), some (.ref (Γ.1 + 333)), some (.ref (Γ.1 + 346)), some (.int i9)] []) : E p l e room_1 s m args below meth c Γ D cells slots Q σ 232 [some (.ref b), some (.ref (Γ.1 + 0)), some (.ref (Γ.1 + 333)), some (.ref (Γ.1 + 346)), some (.int i9), none, none] [] := by
  unfold S_0 at hF
  refine e_aload_n X dL_law__232 rfl rfl ?_
  refine e_aload_n X dL_law__233 rfl rfl ?_
  refine e_iload X dL_law__234 rfl ?_
  refine e_iconst X 1 dL_law__236 rfl ?_
  refine e_iadd X dL_law__237 ?_
  refine e_sld X hX hbl hbA hi1 ha1 dL_law__238 ?_
  refine e_aload_n X dL_law__239 rfl rfl ?_
  refine e_iload X dL_law__240 rfl ?_
  refine e_iconst X 2 dL_law__242 rfl ?_
  refine e_iadd X dL_law__243 ?_
  refine e_sld X hX hbl hbA hi2 ha2 dL_law__244 ?_
  refine e_aload_n X dL_law__245 rfl rfl ?_
  refine e_iload X dL_law__246 rfl ?_
  refine e_iconst X 3 dL_law__248 rfl ?_
  refine e_iadd X dL_law__249 ?_
  refine e_sld X hX hbl hbA hi3 ha3 dL_law__250 ?_
  refine e_aload_n X dL_law__251 rfl rfl ?_
  refine e_iload X dL_law__252 rfl ?_
  refine e_iconst X 4 dL_law__254 rfl ?_
  refine e_iadd X dL_law__255 ?_
  refine e_sld X hX hbl hbA hi4 ha4 dL_law__256 ?_
  refine e_aload_n X dL_law__257 rfl rfl ?_
  refine e_iload X dL_law__258 rfl ?_
  refine e_iconst X 5 dL_law__260 rfl ?_
  refine e_iadd X dL_law__261 ?_
  refine e_sld X hX hbl hbA hi5 ha5 dL_law__262 ?_
  obtain ⟨z1, h_z1, hF⟩ := obind_out hF
  refine e_callVi X (r := z1.2) (σ1 := z1.1) [.int a1, .int a2, .int a3, .int a4, .int a5] [] (C_W_feed (Cx_gok X) σ a1 a2 a3 a4 a5 h_z1) gv_L_123 yk_X11_feed rfl (ent_lt (rfl : entTbl[0]? = some (0, 0))) (ent_at (rfl : entTbl[0]? = some (0, 0)) _) (rfl : vCl[10]? = some (RX11, TX11, 17)) ⟨Nat.le_of_ble_eq_true rfl, Nat.le_of_ble_eq_true rfl⟩ ⟨by have h9 := hcc; dsimp only [room_1] at h9 ⊢; omega, by have h9 := hss; dsimp only [room_1] at h9 ⊢; omega⟩ (Nat.le_of_ble_eq_true rfl) dL_law__263 rfl ?_
  refine e_aload_n X dL_law__266 rfl rfl ?_
  refine e_aload_n X dL_law__267 rfl rfl ?_
  refine e_iload X dL_law__268 rfl ?_
  refine e_iconst X 1 dL_law__270 rfl ?_
  refine e_iadd X dL_law__271 ?_
  refine e_sld X hX hbl hbA hi1 ha1 dL_law__272 ?_
  refine e_aload_n X dL_law__273 rfl rfl ?_
  refine e_iload X dL_law__274 rfl ?_
  refine e_iconst X 2 dL_law__276 rfl ?_
  refine e_iadd X dL_law__277 ?_
  refine e_sld X hX hbl hbA hi2 ha2 dL_law__278 ?_
  refine e_aload_n X dL_law__279 rfl rfl ?_
  refine e_iload X dL_law__280 rfl ?_
  refine e_iconst X 3 dL_law__282 rfl ?_
  refine e_iadd X dL_law__283 ?_
  refine e_sld X hX hbl hbA hi3 ha3 dL_law__284 ?_
  refine e_aload_n X dL_law__285 rfl rfl ?_
  refine e_iload X dL_law__286 rfl ?_
  refine e_iconst X 4 dL_law__288 rfl ?_
  refine e_iadd X dL_law__289 ?_
  refine e_sld X hX hbl hbA hi4 ha4 dL_law__290 ?_
  refine e_aload_n X dL_law__291 rfl rfl ?_
  refine e_iload X dL_law__292 rfl ?_
  refine e_iconst X 5 dL_law__294 rfl ?_
  refine e_iadd X dL_law__295 ?_
  refine e_sld X hX hbl hbA hi5 ha5 dL_law__296 ?_
  obtain ⟨z2, h_z2, hF⟩ := obind_out hF
  refine e_callVi X (r := z2.2) (σ1 := z2.1) [.int a1, .int a2, .int a3, .int a4, .int a5] [.int z1.2] (C_M_feed (Cx_gok X) z1.1 a1 a2 a3 a4 a5 h_z2) gv_L_127 yk_X12_feed rfl (ent_lt (rfl : entTbl[333]? = some (13, 0))) (ent_at (rfl : entTbl[333]? = some (13, 0)) _) (rfl : vCl[11]? = some (RX12, TX12, 24)) ⟨Nat.le_of_ble_eq_true rfl, Nat.le_of_ble_eq_true rfl⟩ ⟨by have h9 := hcc; dsimp only [room_1] at h9 ⊢; omega, by have h9 := hss; dsimp only [room_1] at h9 ⊢; omega⟩ (Nat.le_of_ble_eq_true rfl) dL_law__297 rfl ?_
  refine e_icmp_eq X 2522 dL_law__300 (by decide) (fun c3 => ?_) (fun c3 => ?_)
  · skip
    rw [if_pos c3] at hF
    cases hF
    refine e_widen (c2 := cells + 8) (s2 := slots + 48) (by omega) (by omega) ?_
    exact e_le hK (And.intro rfl (And.intro rfl (And.intro rfl (And.intro rfl (And.intro rfl trivial)))))
  · skip
    rw [if_neg c3] at hF
    refine e_iconst X 0 dL_law__303 rfl ?_
    cases hF
set_option maxRecDepth 20000 in
set_option maxHeartbeats 4000000 in
theorem T_1 {b L : Nat} {xs : Nat → Int32} {i9 a1 a2 a3 a4 a5 : Int32} (X : Cx p l s m args meth c Γ D s0 RL cL_law_ 7) (hX : va_X b L xs s s.heap) (hbl : b < s.heap.size) (hbA : ¬ Γ.1 ≤ b) (hi1 : vp_in (i9 + 1) L) (hi2 : vp_in (i9 + 2) L) (hi3 : vp_in (i9 + 3) L) (hi4 : vp_in (i9 + 4) L) (hi5 : vp_in (i9 + 5) L) (ha1 : xs (i9 + 1).toNatClampNeg = a1) (ha2 : xs (i9 + 2).toNatClampNeg = a2) (ha3 : xs (i9 + 3).toNatClampNeg = a3) (ha4 : xs (i9 + 4).toNatClampNeg = a4) (ha5 : xs (i9 + 5).toNatClampNeg = a5) (hcc : cells + 8 ≤ room_1.cells) (hss : slots + 48 ≤ room_1.slots) (σ : Mem) {z : Mem} (hF : S_1 σ a1 a2 a3 a4 a5 = some z) (hK : E p l e room_1 s m args below meth c Γ D (cells + 8) (slots + 48) Q z 2522 [some (.ref b), some (.ref (Γ.1 + 0)), some (.ref (Γ.1 + 333)), some (.ref (Γ.1 + 346)), some (.int i9)] []) : E p l e room_1 s m args below meth c Γ D cells slots Q σ 305 [some (.ref b), some (.ref (Γ.1 + 0)), some (.ref (Γ.1 + 333)), some (.ref (Γ.1 + 346)), some (.int i9), none, none] [] := by
  unfold S_1 at hF
  refine e_aload_n X dL_law__305 rfl rfl ?_
  refine e_aload_n X dL_law__306 rfl rfl ?_
  refine e_iload X dL_law__307 rfl ?_
  refine e_iconst X 1 dL_law__309 rfl ?_
  refine e_iadd X dL_law__310 ?_
  refine e_sld X hX hbl hbA hi1 ha1 dL_law__311 ?_
  obtain ⟨z1, h_z1, hF⟩ := bindT_out hF
  refine e_callVi X (r := z1.2) (σ1 := z1.1) [.int a1] [] (by rw [h_z1]; exact C_W_end (Cx_gok X) σ a1) gv_L_128 yk_X11_end rfl (ent_lt (rfl : entTbl[0]? = some (0, 0))) (ent_at (rfl : entTbl[0]? = some (0, 0)) _) (rfl : vCl[10]? = some (RX11, TX11, 17)) ⟨Nat.le_of_ble_eq_true rfl, Nat.le_of_ble_eq_true rfl⟩ ⟨by have h9 := hcc; dsimp only [room_1] at h9 ⊢; omega, by have h9 := hss; dsimp only [room_1] at h9 ⊢; omega⟩ (Nat.le_of_ble_eq_true rfl) dL_law__312 rfl ?_
  refine e_aload_n X dL_law__315 rfl rfl ?_
  refine e_aload_n X dL_law__316 rfl rfl ?_
  refine e_iload X dL_law__317 rfl ?_
  refine e_iconst X 1 dL_law__319 rfl ?_
  refine e_iadd X dL_law__320 ?_
  refine e_sld X hX hbl hbA hi1 ha1 dL_law__321 ?_
  obtain ⟨z2, h_z2, hF⟩ := bindT_out hF
  refine e_callVi X (r := z2.2) (σ1 := z2.1) [.int a1] [.int z1.2] (by rw [h_z2]; exact C_M_end (Cx_gok X) z1.1 a1) gv_L_132 yk_X12_end rfl (ent_lt (rfl : entTbl[333]? = some (13, 0))) (ent_at (rfl : entTbl[333]? = some (13, 0)) _) (rfl : vCl[11]? = some (RX12, TX12, 24)) ⟨Nat.le_of_ble_eq_true rfl, Nat.le_of_ble_eq_true rfl⟩ ⟨by have h9 := hcc; dsimp only [room_1] at h9 ⊢; omega, by have h9 := hss; dsimp only [room_1] at h9 ⊢; omega⟩ (Nat.le_of_ble_eq_true rfl) dL_law__322 rfl ?_
  refine e_icmp_eq X 2522 dL_law__325 (by decide) (fun c3 => ?_) (fun c3 => ?_)
  · skip
    rw [if_pos c3] at hF
    cases hF
    refine e_widen (c2 := cells + 8) (s2 := slots + 48) (by omega) (by omega) ?_
    exact e_le hK (And.intro rfl (And.intro rfl (And.intro rfl (And.intro rfl (And.intro rfl trivial)))))
  · skip
    rw [if_neg c3] at hF
    refine e_iconst X 0 dL_law__328 rfl ?_
    cases hF
set_option maxRecDepth 20000 in
set_option maxHeartbeats 4000000 in
theorem T_2 {b L : Nat} {xs : Nat → Int32} {i9 a1 a2 a3 a4 a5 : Int32} (X : Cx p l s m args meth c Γ D s0 RL cL_law_ 7) (hX : va_X b L xs s s.heap) (hbl : b < s.heap.size) (hbA : ¬ Γ.1 ≤ b) (hi1 : vp_in (i9 + 1) L) (hi2 : vp_in (i9 + 2) L) (hi3 : vp_in (i9 + 3) L) (hi4 : vp_in (i9 + 4) L) (hi5 : vp_in (i9 + 5) L) (ha1 : xs (i9 + 1).toNatClampNeg = a1) (ha2 : xs (i9 + 2).toNatClampNeg = a2) (ha3 : xs (i9 + 3).toNatClampNeg = a3) (ha4 : xs (i9 + 4).toNatClampNeg = a4) (ha5 : xs (i9 + 5).toNatClampNeg = a5) (hcc : cells + 8 ≤ room_1.cells) (hss : slots + 48 ≤ room_1.slots) (σ : Mem) {z : Mem} (hF : S_2 σ a1 a2 a3 a4 a5 = some z) (hK : E p l e room_1 s m args below meth c Γ D (cells + 8) (slots + 48) Q z 2522 [some (.ref b), some (.ref (Γ.1 + 0)), some (.ref (Γ.1 + 333)), some (.ref (Γ.1 + 346)), some (.int i9)] []) : E p l e room_1 s m args below meth c Γ D cells slots Q σ 330 [some (.ref b), some (.ref (Γ.1 + 0)), some (.ref (Γ.1 + 333)), some (.ref (Γ.1 + 346)), some (.int i9), none, none] [] := by
  unfold S_2 at hF
  refine e_aload_n X dL_law__330 rfl rfl ?_
  refine e_aload_n X dL_law__331 rfl rfl ?_
  obtain ⟨z1, h_z1, hF⟩ := obind_out hF
  refine e_callSH X (r := z1.2) (σ1 := z1.1) [.ref (Γ.1 + 0), .ref (Γ.1 + 346)] [] (CH_town (Cx_gok X) σ h_z1) gsh_133 ykh_L_town rfl ⟨Nat.le_of_ble_eq_true rfl, Nat.le_of_ble_eq_true rfl⟩ ⟨by have h9 := hcc; dsimp only [room_1] at h9 ⊢; omega, by have h9 := hss; dsimp only [room_1] at h9 ⊢; omega⟩ (Nat.le_of_ble_eq_true rfl) dL_law__332 rfl ?_
  refine e_widen (c2 := cells + 8) (s2 := slots + 48) (by omega) (by omega) ?_
  refine e_istore X rfl dL_law__335 (by decide) ?_
  refine e_aload_n X dL_law__337 rfl rfl ?_
  obtain ⟨z2, h_z2, hF⟩ := obind_out hF
  refine e_callVi X (r := z2.2) (σ1 := z2.1) [] [] (C_M_town (Cx_gok X) z1.1 h_z2) gv_L_138 yk_X12_town rfl (ent_lt (rfl : entTbl[333]? = some (13, 0))) (ent_at (rfl : entTbl[333]? = some (13, 0)) _) (rfl : vCl[11]? = some (RX12, TX12, 24)) ⟨Nat.le_of_ble_eq_true rfl, Nat.le_of_ble_eq_true rfl⟩ ⟨by have h9 := hcc; dsimp only [room_1] at h9 ⊢; omega, by have h9 := hss; dsimp only [room_1] at h9 ⊢; omega⟩ (Nat.le_of_ble_eq_true rfl) dL_law__338 rfl ?_
  refine e_istore X rfl dL_law__341 (by decide) ?_
  refine e_aload_n X dL_law__343 rfl rfl ?_
  refine e_callVi X (r := (F_M_thrown z2.1)) (σ1 := z2.1) [] [] (C_M_thrown (Cx_gok X) z2.1) gv_L_139 yk_X12_thrown rfl (ent_lt (rfl : entTbl[333]? = some (13, 0))) (ent_at (rfl : entTbl[333]? = some (13, 0)) _) (rfl : vCl[11]? = some (RX12, TX12, 24)) ⟨Nat.le_of_ble_eq_true rfl, Nat.le_of_ble_eq_true rfl⟩ ⟨by have h9 := hcc; dsimp only [room_1] at h9 ⊢; omega, by have h9 := hss; dsimp only [room_1] at h9 ⊢; omega⟩ (Nat.le_of_ble_eq_true rfl) dL_law__344 rfl ?_
  refine e_iload X dL_law__347 rfl ?_
  refine e_icmp_eq X 354 dL_law__349 (by decide) (fun c3 => ?_) (fun c3 => ?_)
  · skip
    rw [if_pos c3] at hF
    refine e_iload X dL_law__354 rfl ?_
    refine e_if_ne X 371 dL_law__356 (by decide) (fun c4 => ?_) (fun c4 => ?_)
    · skip
      rw [if_neg c4] at hF
      refine e_goto X 2522 dL_law__371 (by decide) ?_
      cases hF
      exact e_le hK (And.intro rfl (And.intro rfl (And.intro rfl (And.intro rfl (And.intro rfl trivial)))))
    · skip
      rw [if_pos c4] at hF
      refine e_aload_n X dL_law__359 rfl rfl ?_
      refine e_iconst X 0 dL_law__360 rfl ?_
      refine e_lald X dL_law__361 ?_
      refine e_iload X dL_law__362 rfl ?_
      refine e_i2l X dL_law__364 ?_
      refine e_lcmpeq X 371 dL_law__365 dL_law__366 (by decide) (fun c5 => ?_) (fun c5 => ?_)
      · skip
        rw [if_pos c5] at hF
        refine e_goto X 2522 dL_law__371 (by decide) ?_
        cases hF
        exact e_le hK (And.intro rfl (And.intro rfl (And.intro rfl (And.intro rfl (And.intro rfl trivial)))))
      · skip
        rw [if_neg c5] at hF
        refine e_iconst X 0 dL_law__369 rfl ?_
        cases hF
  · skip
    rw [if_neg c3] at hF
    refine e_iconst X 0 dL_law__352 rfl ?_
    cases hF
set_option maxRecDepth 20000 in
set_option maxHeartbeats 4000000 in
theorem T_3 {b L : Nat} {xs : Nat → Int32} {i9 a1 a2 a3 a4 a5 : Int32} (X : Cx p l s m args meth c Γ D s0 RL cL_law_ 7) (hX : va_X b L xs s s.heap) (hbl : b < s.heap.size) (hbA : ¬ Γ.1 ≤ b) (hi1 : vp_in (i9 + 1) L) (hi2 : vp_in (i9 + 2) L) (hi3 : vp_in (i9 + 3) L) (hi4 : vp_in (i9 + 4) L) (hi5 : vp_in (i9 + 5) L) (ha1 : xs (i9 + 1).toNatClampNeg = a1) (ha2 : xs (i9 + 2).toNatClampNeg = a2) (ha3 : xs (i9 + 3).toNatClampNeg = a3) (ha4 : xs (i9 + 4).toNatClampNeg = a4) (ha5 : xs (i9 + 5).toNatClampNeg = a5) (hcc : cells + 8 ≤ room_1.cells) (hss : slots + 48 ≤ room_1.slots) (σ : Mem) {z : Mem} (hF : S_3 σ a1 a2 a3 a4 a5 = some z) (hK : E p l e room_1 s m args below meth c Γ D (cells + 8) (slots + 48) Q z 2522 [some (.ref b), some (.ref (Γ.1 + 0)), some (.ref (Γ.1 + 333)), some (.ref (Γ.1 + 346)), some (.int i9)] []) : E p l e room_1 s m args below meth c Γ D cells slots Q σ 374 [some (.ref b), some (.ref (Γ.1 + 0)), some (.ref (Γ.1 + 333)), some (.ref (Γ.1 + 346)), some (.int i9), none, none] [] := by
  unfold S_3 at hF
  refine e_aload_n X dL_law__374 rfl rfl ?_
  refine e_aload_n X dL_law__375 rfl rfl ?_
  obtain ⟨z1, h_z1, hF⟩ := obind_out hF
  refine e_callSH X (r := z1.2) (σ1 := z1.1) [.ref (Γ.1 + 0), .ref (Γ.1 + 346)] [] (CH_law (Cx_gok X) σ h_z1) gsh_142 ykh_L_law rfl ⟨Nat.le_of_ble_eq_true rfl, Nat.le_of_ble_eq_true rfl⟩ ⟨by have h9 := hcc; dsimp only [room_1] at h9 ⊢; omega, by have h9 := hss; dsimp only [room_1] at h9 ⊢; omega⟩ (Nat.le_of_ble_eq_true rfl) dL_law__376 rfl ?_
  refine e_widen (c2 := cells + 8) (s2 := slots + 48) (by omega) (by omega) ?_
  refine e_istore X rfl dL_law__379 (by decide) ?_
  refine e_aload_n X dL_law__381 rfl rfl ?_
  obtain ⟨z2, h_z2, hF⟩ := obind_out hF
  refine e_callVi X (r := z2.2) (σ1 := z2.1) [] [] (C_M_law (Cx_gok X) z1.1 h_z2) gv_L_144 yk_X12_law rfl (ent_lt (rfl : entTbl[333]? = some (13, 0))) (ent_at (rfl : entTbl[333]? = some (13, 0)) _) (rfl : vCl[11]? = some (RX12, TX12, 24)) ⟨Nat.le_of_ble_eq_true rfl, Nat.le_of_ble_eq_true rfl⟩ ⟨by have h9 := hcc; dsimp only [room_1] at h9 ⊢; omega, by have h9 := hss; dsimp only [room_1] at h9 ⊢; omega⟩ (Nat.le_of_ble_eq_true rfl) dL_law__382 rfl ?_
  refine e_istore X rfl dL_law__385 (by decide) ?_
  refine e_aload_n X dL_law__387 rfl rfl ?_
  refine e_callVi X (r := (F_M_thrown z2.1)) (σ1 := z2.1) [] [] (C_M_thrown (Cx_gok X) z2.1) gv_L_139 yk_X12_thrown rfl (ent_lt (rfl : entTbl[333]? = some (13, 0))) (ent_at (rfl : entTbl[333]? = some (13, 0)) _) (rfl : vCl[11]? = some (RX12, TX12, 24)) ⟨Nat.le_of_ble_eq_true rfl, Nat.le_of_ble_eq_true rfl⟩ ⟨by have h9 := hcc; dsimp only [room_1] at h9 ⊢; omega, by have h9 := hss; dsimp only [room_1] at h9 ⊢; omega⟩ (Nat.le_of_ble_eq_true rfl) dL_law__388 rfl ?_
  refine e_iload X dL_law__391 rfl ?_
  refine e_icmp_eq X 398 dL_law__393 (by decide) (fun c3 => ?_) (fun c3 => ?_)
  · skip
    rw [if_pos c3] at hF
    refine e_iload X dL_law__398 rfl ?_
    refine e_if_ne X 415 dL_law__400 (by decide) (fun c4 => ?_) (fun c4 => ?_)
    · skip
      rw [if_neg c4] at hF
      refine e_goto X 2522 dL_law__415 (by decide) ?_
      cases hF
      exact e_le hK (And.intro rfl (And.intro rfl (And.intro rfl (And.intro rfl (And.intro rfl trivial)))))
    · skip
      rw [if_pos c4] at hF
      refine e_aload_n X dL_law__403 rfl rfl ?_
      refine e_iconst X 0 dL_law__404 rfl ?_
      refine e_lald X dL_law__405 ?_
      refine e_iload X dL_law__406 rfl ?_
      refine e_i2l X dL_law__408 ?_
      refine e_lcmpeq X 415 dL_law__409 dL_law__410 (by decide) (fun c5 => ?_) (fun c5 => ?_)
      · skip
        rw [if_pos c5] at hF
        refine e_goto X 2522 dL_law__415 (by decide) ?_
        cases hF
        exact e_le hK (And.intro rfl (And.intro rfl (And.intro rfl (And.intro rfl (And.intro rfl trivial)))))
      · skip
        rw [if_neg c5] at hF
        refine e_iconst X 0 dL_law__413 rfl ?_
        cases hF
  · skip
    rw [if_neg c3] at hF
    refine e_iconst X 0 dL_law__396 rfl ?_
    cases hF
set_option maxRecDepth 20000 in
set_option maxHeartbeats 4000000 in
theorem T_4 {b L : Nat} {xs : Nat → Int32} {i9 a1 a2 a3 a4 a5 : Int32} (X : Cx p l s m args meth c Γ D s0 RL cL_law_ 7) (hX : va_X b L xs s s.heap) (hbl : b < s.heap.size) (hbA : ¬ Γ.1 ≤ b) (hi1 : vp_in (i9 + 1) L) (hi2 : vp_in (i9 + 2) L) (hi3 : vp_in (i9 + 3) L) (hi4 : vp_in (i9 + 4) L) (hi5 : vp_in (i9 + 5) L) (ha1 : xs (i9 + 1).toNatClampNeg = a1) (ha2 : xs (i9 + 2).toNatClampNeg = a2) (ha3 : xs (i9 + 3).toNatClampNeg = a3) (ha4 : xs (i9 + 4).toNatClampNeg = a4) (ha5 : xs (i9 + 5).toNatClampNeg = a5) (hcc : cells + 8 ≤ room_1.cells) (hss : slots + 48 ≤ room_1.slots) (σ : Mem) {z : Mem} (hF : S_4 σ a1 a2 a3 a4 a5 = some z) (hK : E p l e room_1 s m args below meth c Γ D (cells + 8) (slots + 48) Q z 2522 [some (.ref b), some (.ref (Γ.1 + 0)), some (.ref (Γ.1 + 333)), some (.ref (Γ.1 + 346)), some (.int i9)] []) : E p l e room_1 s m args below meth c Γ D cells slots Q σ 418 [some (.ref b), some (.ref (Γ.1 + 0)), some (.ref (Γ.1 + 333)), some (.ref (Γ.1 + 346)), some (.int i9), none, none] [] := by
  unfold S_4 at hF
  refine e_aload_n X dL_law__418 rfl rfl ?_
  refine e_callVi X (r := (F_W_fault σ)) (σ1 := σ) [] [] (C_W_fault (Cx_gok X) σ) gv_L_145 yk_X11_fault rfl (ent_lt (rfl : entTbl[0]? = some (0, 0))) (ent_at (rfl : entTbl[0]? = some (0, 0)) _) (rfl : vCl[10]? = some (RX11, TX11, 17)) ⟨Nat.le_of_ble_eq_true rfl, Nat.le_of_ble_eq_true rfl⟩ ⟨by have h9 := hcc; dsimp only [room_1] at h9 ⊢; omega, by have h9 := hss; dsimp only [room_1] at h9 ⊢; omega⟩ (Nat.le_of_ble_eq_true rfl) dL_law__419 rfl ?_
  refine e_aload_n X dL_law__422 rfl rfl ?_
  obtain ⟨z1, h_z1, hF⟩ := bindT_out hF
  refine e_callVi X (r := z1.2) (σ1 := z1.1) [] [.int ((F_W_fault σ))] (by rw [h_z1]; exact C_M_fault (Cx_gok X) σ) gv_L_148 yk_X12_fault rfl (ent_lt (rfl : entTbl[333]? = some (13, 0))) (ent_at (rfl : entTbl[333]? = some (13, 0)) _) (rfl : vCl[11]? = some (RX12, TX12, 24)) ⟨Nat.le_of_ble_eq_true rfl, Nat.le_of_ble_eq_true rfl⟩ ⟨by have h9 := hcc; dsimp only [room_1] at h9 ⊢; omega, by have h9 := hss; dsimp only [room_1] at h9 ⊢; omega⟩ (Nat.le_of_ble_eq_true rfl) dL_law__423 rfl ?_
  refine e_icmp_eq X 2522 dL_law__426 (by decide) (fun c2 => ?_) (fun c2 => ?_)
  · skip
    rw [if_pos c2] at hF
    cases hF
    refine e_widen (c2 := cells + 8) (s2 := slots + 48) (by omega) (by omega) ?_
    exact e_le hK (And.intro rfl (And.intro rfl (And.intro rfl (And.intro rfl (And.intro rfl trivial)))))
  · skip
    rw [if_neg c2] at hF
    refine e_iconst X 0 dL_law__429 rfl ?_
    cases hF
set_option maxRecDepth 20000 in
set_option maxHeartbeats 4000000 in
theorem T_5 {b L : Nat} {xs : Nat → Int32} {i9 a1 a2 a3 a4 a5 : Int32} (X : Cx p l s m args meth c Γ D s0 RL cL_law_ 7) (hX : va_X b L xs s s.heap) (hbl : b < s.heap.size) (hbA : ¬ Γ.1 ≤ b) (hi1 : vp_in (i9 + 1) L) (hi2 : vp_in (i9 + 2) L) (hi3 : vp_in (i9 + 3) L) (hi4 : vp_in (i9 + 4) L) (hi5 : vp_in (i9 + 5) L) (ha1 : xs (i9 + 1).toNatClampNeg = a1) (ha2 : xs (i9 + 2).toNatClampNeg = a2) (ha3 : xs (i9 + 3).toNatClampNeg = a3) (ha4 : xs (i9 + 4).toNatClampNeg = a4) (ha5 : xs (i9 + 5).toNatClampNeg = a5) (hcc : cells + 8 ≤ room_1.cells) (hss : slots + 48 ≤ room_1.slots) (σ : Mem) {z : Mem} (hF : S_5 σ a1 a2 a3 a4 a5 = some z) (hK : E p l e room_1 s m args below meth c Γ D (cells + 8) (slots + 48) Q z 2522 [some (.ref b), some (.ref (Γ.1 + 0)), some (.ref (Γ.1 + 333)), some (.ref (Γ.1 + 346)), some (.int i9)] []) : E p l e room_1 s m args below meth c Γ D cells slots Q σ 431 [some (.ref b), some (.ref (Γ.1 + 0)), some (.ref (Γ.1 + 333)), some (.ref (Γ.1 + 346)), some (.int i9), none, none] [] := by
  unfold S_5 at hF
  refine e_aload_n X dL_law__431 rfl rfl ?_
  refine e_aload_n X dL_law__432 rfl rfl ?_
  refine e_iload X dL_law__433 rfl ?_
  refine e_iconst X 1 dL_law__435 rfl ?_
  refine e_iadd X dL_law__436 ?_
  refine e_sld X hX hbl hbA hi1 ha1 dL_law__437 ?_
  refine e_aload_n X dL_law__438 rfl rfl ?_
  refine e_iload X dL_law__439 rfl ?_
  refine e_iconst X 2 dL_law__441 rfl ?_
  refine e_iadd X dL_law__442 ?_
  refine e_sld X hX hbl hbA hi2 ha2 dL_law__443 ?_
  refine e_aload_n X dL_law__444 rfl rfl ?_
  obtain ⟨z1, h_z1, hF⟩ := obind_out hF
  refine e_callSH X (r := z1.2) (σ1 := z1.1) [.ref (Γ.1 + 0), .int a1, .int a2, .ref (Γ.1 + 346)] [] (CH_person (Cx_gok X) σ a1 a2 h_z1) gsh_149 ykh_L_person rfl ⟨Nat.le_of_ble_eq_true rfl, Nat.le_of_ble_eq_true rfl⟩ ⟨by have h9 := hcc; dsimp only [room_1] at h9 ⊢; omega, by have h9 := hss; dsimp only [room_1] at h9 ⊢; omega⟩ (Nat.le_of_ble_eq_true rfl) dL_law__445 rfl ?_
  refine e_widen (c2 := cells + 8) (s2 := slots + 48) (by omega) (by omega) ?_
  refine e_istore X rfl dL_law__448 (by decide) ?_
  refine e_aload_n X dL_law__450 rfl rfl ?_
  refine e_aload_n X dL_law__451 rfl rfl ?_
  refine e_iload X dL_law__452 rfl ?_
  refine e_iconst X 1 dL_law__454 rfl ?_
  refine e_iadd X dL_law__455 ?_
  refine e_sld X hX hbl hbA hi1 ha1 dL_law__456 ?_
  refine e_aload_n X dL_law__457 rfl rfl ?_
  refine e_iload X dL_law__458 rfl ?_
  refine e_iconst X 2 dL_law__460 rfl ?_
  refine e_iadd X dL_law__461 ?_
  refine e_sld X hX hbl hbA hi2 ha2 dL_law__462 ?_
  obtain ⟨z2, h_z2, hF⟩ := obind_out hF
  refine e_callVi X (r := z2.2) (σ1 := z2.1) [.int a1, .int a2] [] (C_M_person (Cx_gok X) z1.1 a1 a2 h_z2) gv_L_152 yk_X12_person rfl (ent_lt (rfl : entTbl[333]? = some (13, 0))) (ent_at (rfl : entTbl[333]? = some (13, 0)) _) (rfl : vCl[11]? = some (RX12, TX12, 24)) ⟨Nat.le_of_ble_eq_true rfl, Nat.le_of_ble_eq_true rfl⟩ ⟨by have h9 := hcc; dsimp only [room_1] at h9 ⊢; omega, by have h9 := hss; dsimp only [room_1] at h9 ⊢; omega⟩ (Nat.le_of_ble_eq_true rfl) dL_law__463 rfl ?_
  refine e_istore X rfl dL_law__466 (by decide) ?_
  refine e_aload_n X dL_law__468 rfl rfl ?_
  refine e_callVi X (r := (F_M_thrown z2.1)) (σ1 := z2.1) [] [] (C_M_thrown (Cx_gok X) z2.1) gv_L_139 yk_X12_thrown rfl (ent_lt (rfl : entTbl[333]? = some (13, 0))) (ent_at (rfl : entTbl[333]? = some (13, 0)) _) (rfl : vCl[11]? = some (RX12, TX12, 24)) ⟨Nat.le_of_ble_eq_true rfl, Nat.le_of_ble_eq_true rfl⟩ ⟨by have h9 := hcc; dsimp only [room_1] at h9 ⊢; omega, by have h9 := hss; dsimp only [room_1] at h9 ⊢; omega⟩ (Nat.le_of_ble_eq_true rfl) dL_law__469 rfl ?_
  refine e_iload X dL_law__472 rfl ?_
  refine e_icmp_eq X 479 dL_law__474 (by decide) (fun c3 => ?_) (fun c3 => ?_)
  · skip
    rw [if_pos c3] at hF
    refine e_iload X dL_law__479 rfl ?_
    refine e_if_ne X 496 dL_law__481 (by decide) (fun c4 => ?_) (fun c4 => ?_)
    · skip
      rw [if_neg c4] at hF
      refine e_goto X 2522 dL_law__496 (by decide) ?_
      cases hF
      exact e_le hK (And.intro rfl (And.intro rfl (And.intro rfl (And.intro rfl (And.intro rfl trivial)))))
    · skip
      rw [if_pos c4] at hF
      refine e_aload_n X dL_law__484 rfl rfl ?_
      refine e_iconst X 0 dL_law__485 rfl ?_
      refine e_lald X dL_law__486 ?_
      refine e_iload X dL_law__487 rfl ?_
      refine e_i2l X dL_law__489 ?_
      refine e_lcmpeq X 496 dL_law__490 dL_law__491 (by decide) (fun c5 => ?_) (fun c5 => ?_)
      · skip
        rw [if_pos c5] at hF
        refine e_goto X 2522 dL_law__496 (by decide) ?_
        cases hF
        exact e_le hK (And.intro rfl (And.intro rfl (And.intro rfl (And.intro rfl (And.intro rfl trivial)))))
      · skip
        rw [if_neg c5] at hF
        refine e_iconst X 0 dL_law__494 rfl ?_
        cases hF
  · skip
    rw [if_neg c3] at hF
    refine e_iconst X 0 dL_law__477 rfl ?_
    cases hF
set_option maxRecDepth 20000 in
set_option maxHeartbeats 4000000 in
theorem T_6 {b L : Nat} {xs : Nat → Int32} {i9 a1 a2 a3 a4 a5 : Int32} (X : Cx p l s m args meth c Γ D s0 RL cL_law_ 7) (hX : va_X b L xs s s.heap) (hbl : b < s.heap.size) (hbA : ¬ Γ.1 ≤ b) (hi1 : vp_in (i9 + 1) L) (hi2 : vp_in (i9 + 2) L) (hi3 : vp_in (i9 + 3) L) (hi4 : vp_in (i9 + 4) L) (hi5 : vp_in (i9 + 5) L) (ha1 : xs (i9 + 1).toNatClampNeg = a1) (ha2 : xs (i9 + 2).toNatClampNeg = a2) (ha3 : xs (i9 + 3).toNatClampNeg = a3) (ha4 : xs (i9 + 4).toNatClampNeg = a4) (ha5 : xs (i9 + 5).toNatClampNeg = a5) (hcc : cells + 8 ≤ room_1.cells) (hss : slots + 48 ≤ room_1.slots) (σ : Mem) {z : Mem} (hF : S_6 σ a1 a2 a3 a4 a5 = some z) (hK : E p l e room_1 s m args below meth c Γ D (cells + 8) (slots + 48) Q z 2522 [some (.ref b), some (.ref (Γ.1 + 0)), some (.ref (Γ.1 + 333)), some (.ref (Γ.1 + 346)), some (.int i9)] []) : E p l e room_1 s m args below meth c Γ D cells slots Q σ 499 [some (.ref b), some (.ref (Γ.1 + 0)), some (.ref (Γ.1 + 333)), some (.ref (Γ.1 + 346)), some (.int i9), none, none] [] := by
  unfold S_6 at hF
  refine e_aload_n X dL_law__499 rfl rfl ?_
  refine e_aload_n X dL_law__500 rfl rfl ?_
  refine e_iload X dL_law__501 rfl ?_
  refine e_iconst X 1 dL_law__503 rfl ?_
  refine e_iadd X dL_law__504 ?_
  refine e_sld X hX hbl hbA hi1 ha1 dL_law__505 ?_
  refine e_aload_n X dL_law__506 rfl rfl ?_
  refine e_iload X dL_law__507 rfl ?_
  refine e_iconst X 2 dL_law__509 rfl ?_
  refine e_iadd X dL_law__510 ?_
  refine e_sld X hX hbl hbA hi2 ha2 dL_law__511 ?_
  refine e_aload_n X dL_law__512 rfl rfl ?_
  obtain ⟨z1, h_z1, hF⟩ := obind_out hF
  refine e_callSH X (r := z1.2) (σ1 := z1.1) [.ref (Γ.1 + 0), .int a1, .int a2, .ref (Γ.1 + 346)] [] (CH_liking (Cx_gok X) σ a1 a2 h_z1) gsh_153 ykh_L_liking rfl ⟨Nat.le_of_ble_eq_true rfl, Nat.le_of_ble_eq_true rfl⟩ ⟨by have h9 := hcc; dsimp only [room_1] at h9 ⊢; omega, by have h9 := hss; dsimp only [room_1] at h9 ⊢; omega⟩ (Nat.le_of_ble_eq_true rfl) dL_law__513 rfl ?_
  refine e_widen (c2 := cells + 8) (s2 := slots + 48) (by omega) (by omega) ?_
  refine e_istore X rfl dL_law__516 (by decide) ?_
  refine e_aload_n X dL_law__518 rfl rfl ?_
  refine e_aload_n X dL_law__519 rfl rfl ?_
  refine e_iload X dL_law__520 rfl ?_
  refine e_iconst X 1 dL_law__522 rfl ?_
  refine e_iadd X dL_law__523 ?_
  refine e_sld X hX hbl hbA hi1 ha1 dL_law__524 ?_
  refine e_aload_n X dL_law__525 rfl rfl ?_
  refine e_iload X dL_law__526 rfl ?_
  refine e_iconst X 2 dL_law__528 rfl ?_
  refine e_iadd X dL_law__529 ?_
  refine e_sld X hX hbl hbA hi2 ha2 dL_law__530 ?_
  obtain ⟨z2, h_z2, hF⟩ := obind_out hF
  refine e_callVi X (r := z2.2) (σ1 := z2.1) [.int a1, .int a2] [] (C_M_liking (Cx_gok X) z1.1 a1 a2 h_z2) gv_L_155 yk_X12_liking rfl (ent_lt (rfl : entTbl[333]? = some (13, 0))) (ent_at (rfl : entTbl[333]? = some (13, 0)) _) (rfl : vCl[11]? = some (RX12, TX12, 24)) ⟨Nat.le_of_ble_eq_true rfl, Nat.le_of_ble_eq_true rfl⟩ ⟨by have h9 := hcc; dsimp only [room_1] at h9 ⊢; omega, by have h9 := hss; dsimp only [room_1] at h9 ⊢; omega⟩ (Nat.le_of_ble_eq_true rfl) dL_law__531 rfl ?_
  refine e_istore X rfl dL_law__534 (by decide) ?_
  refine e_aload_n X dL_law__536 rfl rfl ?_
  refine e_callVi X (r := (F_M_thrown z2.1)) (σ1 := z2.1) [] [] (C_M_thrown (Cx_gok X) z2.1) gv_L_139 yk_X12_thrown rfl (ent_lt (rfl : entTbl[333]? = some (13, 0))) (ent_at (rfl : entTbl[333]? = some (13, 0)) _) (rfl : vCl[11]? = some (RX12, TX12, 24)) ⟨Nat.le_of_ble_eq_true rfl, Nat.le_of_ble_eq_true rfl⟩ ⟨by have h9 := hcc; dsimp only [room_1] at h9 ⊢; omega, by have h9 := hss; dsimp only [room_1] at h9 ⊢; omega⟩ (Nat.le_of_ble_eq_true rfl) dL_law__537 rfl ?_
  refine e_iload X dL_law__540 rfl ?_
  refine e_icmp_eq X 547 dL_law__542 (by decide) (fun c3 => ?_) (fun c3 => ?_)
  · skip
    rw [if_pos c3] at hF
    refine e_iload X dL_law__547 rfl ?_
    refine e_if_ne X 564 dL_law__549 (by decide) (fun c4 => ?_) (fun c4 => ?_)
    · skip
      rw [if_neg c4] at hF
      refine e_goto X 2522 dL_law__564 (by decide) ?_
      cases hF
      exact e_le hK (And.intro rfl (And.intro rfl (And.intro rfl (And.intro rfl (And.intro rfl trivial)))))
    · skip
      rw [if_pos c4] at hF
      refine e_aload_n X dL_law__552 rfl rfl ?_
      refine e_iconst X 0 dL_law__553 rfl ?_
      refine e_lald X dL_law__554 ?_
      refine e_iload X dL_law__555 rfl ?_
      refine e_i2l X dL_law__557 ?_
      refine e_lcmpeq X 564 dL_law__558 dL_law__559 (by decide) (fun c5 => ?_) (fun c5 => ?_)
      · skip
        rw [if_pos c5] at hF
        refine e_goto X 2522 dL_law__564 (by decide) ?_
        cases hF
        exact e_le hK (And.intro rfl (And.intro rfl (And.intro rfl (And.intro rfl (And.intro rfl trivial)))))
      · skip
        rw [if_neg c5] at hF
        refine e_iconst X 0 dL_law__562 rfl ?_
        cases hF
  · skip
    rw [if_neg c3] at hF
    refine e_iconst X 0 dL_law__545 rfl ?_
    cases hF
set_option maxRecDepth 20000 in
set_option maxHeartbeats 4000000 in
theorem T_7 {b L : Nat} {xs : Nat → Int32} {i9 a1 a2 a3 a4 a5 : Int32} (X : Cx p l s m args meth c Γ D s0 RL cL_law_ 7) (hX : va_X b L xs s s.heap) (hbl : b < s.heap.size) (hbA : ¬ Γ.1 ≤ b) (hi1 : vp_in (i9 + 1) L) (hi2 : vp_in (i9 + 2) L) (hi3 : vp_in (i9 + 3) L) (hi4 : vp_in (i9 + 4) L) (hi5 : vp_in (i9 + 5) L) (ha1 : xs (i9 + 1).toNatClampNeg = a1) (ha2 : xs (i9 + 2).toNatClampNeg = a2) (ha3 : xs (i9 + 3).toNatClampNeg = a3) (ha4 : xs (i9 + 4).toNatClampNeg = a4) (ha5 : xs (i9 + 5).toNatClampNeg = a5) (hcc : cells + 8 ≤ room_1.cells) (hss : slots + 48 ≤ room_1.slots) (σ : Mem) {z : Mem} (hF : S_7 σ a1 a2 a3 a4 a5 = some z) (hK : E p l e room_1 s m args below meth c Γ D (cells + 8) (slots + 48) Q z 2522 [some (.ref b), some (.ref (Γ.1 + 0)), some (.ref (Γ.1 + 333)), some (.ref (Γ.1 + 346)), some (.int i9)] []) : E p l e room_1 s m args below meth c Γ D cells slots Q σ 567 [some (.ref b), some (.ref (Γ.1 + 0)), some (.ref (Γ.1 + 333)), some (.ref (Γ.1 + 346)), some (.int i9), none, none] [] := by
  unfold S_7 at hF
  refine e_aload_n X dL_law__567 rfl rfl ?_
  refine e_aload_n X dL_law__568 rfl rfl ?_
  refine e_iload X dL_law__569 rfl ?_
  refine e_iconst X 1 dL_law__571 rfl ?_
  refine e_iadd X dL_law__572 ?_
  refine e_sld X hX hbl hbA hi1 ha1 dL_law__573 ?_
  refine e_aload_n X dL_law__574 rfl rfl ?_
  refine e_iload X dL_law__575 rfl ?_
  refine e_iconst X 2 dL_law__577 rfl ?_
  refine e_iadd X dL_law__578 ?_
  refine e_sld X hX hbl hbA hi2 ha2 dL_law__579 ?_
  refine e_aload_n X dL_law__580 rfl rfl ?_
  obtain ⟨z1, h_z1, hF⟩ := obind_out hF
  refine e_callSH X (r := z1.2) (σ1 := z1.1) [.ref (Γ.1 + 0), .int a1, .int a2, .ref (Γ.1 + 346)] [] (CH_match (Cx_gok X) σ a1 a2 h_z1) gsh_156 ykh_L_match rfl ⟨Nat.le_of_ble_eq_true rfl, Nat.le_of_ble_eq_true rfl⟩ ⟨by have h9 := hcc; dsimp only [room_1] at h9 ⊢; omega, by have h9 := hss; dsimp only [room_1] at h9 ⊢; omega⟩ (Nat.le_of_ble_eq_true rfl) dL_law__581 rfl ?_
  refine e_widen (c2 := cells + 8) (s2 := slots + 48) (by omega) (by omega) ?_
  refine e_istore X rfl dL_law__584 (by decide) ?_
  refine e_aload_n X dL_law__586 rfl rfl ?_
  refine e_aload_n X dL_law__587 rfl rfl ?_
  refine e_iload X dL_law__588 rfl ?_
  refine e_iconst X 1 dL_law__590 rfl ?_
  refine e_iadd X dL_law__591 ?_
  refine e_sld X hX hbl hbA hi1 ha1 dL_law__592 ?_
  refine e_aload_n X dL_law__593 rfl rfl ?_
  refine e_iload X dL_law__594 rfl ?_
  refine e_iconst X 2 dL_law__596 rfl ?_
  refine e_iadd X dL_law__597 ?_
  refine e_sld X hX hbl hbA hi2 ha2 dL_law__598 ?_
  obtain ⟨z2, h_z2, hF⟩ := obind_out hF
  refine e_callVi X (r := z2.2) (σ1 := z2.1) [.int a1, .int a2] [] (C_M_match (Cx_gok X) z1.1 a1 a2 h_z2) gv_L_158 yk_X12_match rfl (ent_lt (rfl : entTbl[333]? = some (13, 0))) (ent_at (rfl : entTbl[333]? = some (13, 0)) _) (rfl : vCl[11]? = some (RX12, TX12, 24)) ⟨Nat.le_of_ble_eq_true rfl, Nat.le_of_ble_eq_true rfl⟩ ⟨by have h9 := hcc; dsimp only [room_1] at h9 ⊢; omega, by have h9 := hss; dsimp only [room_1] at h9 ⊢; omega⟩ (Nat.le_of_ble_eq_true rfl) dL_law__599 rfl ?_
  refine e_istore X rfl dL_law__602 (by decide) ?_
  refine e_aload_n X dL_law__604 rfl rfl ?_
  refine e_callVi X (r := (F_M_thrown z2.1)) (σ1 := z2.1) [] [] (C_M_thrown (Cx_gok X) z2.1) gv_L_139 yk_X12_thrown rfl (ent_lt (rfl : entTbl[333]? = some (13, 0))) (ent_at (rfl : entTbl[333]? = some (13, 0)) _) (rfl : vCl[11]? = some (RX12, TX12, 24)) ⟨Nat.le_of_ble_eq_true rfl, Nat.le_of_ble_eq_true rfl⟩ ⟨by have h9 := hcc; dsimp only [room_1] at h9 ⊢; omega, by have h9 := hss; dsimp only [room_1] at h9 ⊢; omega⟩ (Nat.le_of_ble_eq_true rfl) dL_law__605 rfl ?_
  refine e_iload X dL_law__608 rfl ?_
  refine e_icmp_eq X 615 dL_law__610 (by decide) (fun c3 => ?_) (fun c3 => ?_)
  · skip
    rw [if_pos c3] at hF
    refine e_iload X dL_law__615 rfl ?_
    refine e_if_ne X 632 dL_law__617 (by decide) (fun c4 => ?_) (fun c4 => ?_)
    · skip
      rw [if_neg c4] at hF
      refine e_goto X 2522 dL_law__632 (by decide) ?_
      cases hF
      exact e_le hK (And.intro rfl (And.intro rfl (And.intro rfl (And.intro rfl (And.intro rfl trivial)))))
    · skip
      rw [if_pos c4] at hF
      refine e_aload_n X dL_law__620 rfl rfl ?_
      refine e_iconst X 0 dL_law__621 rfl ?_
      refine e_lald X dL_law__622 ?_
      refine e_iload X dL_law__623 rfl ?_
      refine e_i2l X dL_law__625 ?_
      refine e_lcmpeq X 632 dL_law__626 dL_law__627 (by decide) (fun c5 => ?_) (fun c5 => ?_)
      · skip
        rw [if_pos c5] at hF
        refine e_goto X 2522 dL_law__632 (by decide) ?_
        cases hF
        exact e_le hK (And.intro rfl (And.intro rfl (And.intro rfl (And.intro rfl (And.intro rfl trivial)))))
      · skip
        rw [if_neg c5] at hF
        refine e_iconst X 0 dL_law__630 rfl ?_
        cases hF
  · skip
    rw [if_neg c3] at hF
    refine e_iconst X 0 dL_law__613 rfl ?_
    cases hF
set_option maxRecDepth 20000 in
set_option maxHeartbeats 4000000 in
theorem T_8 {b L : Nat} {xs : Nat → Int32} {i9 a1 a2 a3 a4 a5 : Int32} (X : Cx p l s m args meth c Γ D s0 RL cL_law_ 7) (hX : va_X b L xs s s.heap) (hbl : b < s.heap.size) (hbA : ¬ Γ.1 ≤ b) (hi1 : vp_in (i9 + 1) L) (hi2 : vp_in (i9 + 2) L) (hi3 : vp_in (i9 + 3) L) (hi4 : vp_in (i9 + 4) L) (hi5 : vp_in (i9 + 5) L) (ha1 : xs (i9 + 1).toNatClampNeg = a1) (ha2 : xs (i9 + 2).toNatClampNeg = a2) (ha3 : xs (i9 + 3).toNatClampNeg = a3) (ha4 : xs (i9 + 4).toNatClampNeg = a4) (ha5 : xs (i9 + 5).toNatClampNeg = a5) (hcc : cells + 8 ≤ room_1.cells) (hss : slots + 48 ≤ room_1.slots) (σ : Mem) {z : Mem} (hF : S_8 σ a1 a2 a3 a4 a5 = some z) (hK : E p l e room_1 s m args below meth c Γ D (cells + 8) (slots + 48) Q z 2522 [some (.ref b), some (.ref (Γ.1 + 0)), some (.ref (Γ.1 + 333)), some (.ref (Γ.1 + 346)), some (.int i9)] []) : E p l e room_1 s m args below meth c Γ D cells slots Q σ 635 [some (.ref b), some (.ref (Γ.1 + 0)), some (.ref (Γ.1 + 333)), some (.ref (Γ.1 + 346)), some (.int i9), none, none] [] := by
  unfold S_8 at hF
  refine e_aload_n X dL_law__635 rfl rfl ?_
  refine e_aload_n X dL_law__636 rfl rfl ?_
  refine e_iload X dL_law__637 rfl ?_
  refine e_iconst X 1 dL_law__639 rfl ?_
  refine e_iadd X dL_law__640 ?_
  refine e_sld X hX hbl hbA hi1 ha1 dL_law__641 ?_
  refine e_aload_n X dL_law__642 rfl rfl ?_
  refine e_iload X dL_law__643 rfl ?_
  refine e_iconst X 2 dL_law__645 rfl ?_
  refine e_iadd X dL_law__646 ?_
  refine e_sld X hX hbl hbA hi2 ha2 dL_law__647 ?_
  refine e_aload_n X dL_law__648 rfl rfl ?_
  obtain ⟨z1, h_z1, hF⟩ := obind_out hF
  refine e_callSH X (r := z1.2) (σ1 := z1.1) [.ref (Γ.1 + 0), .int a1, .int a2, .ref (Γ.1 + 346)] [] (CH_ask (Cx_gok X) σ a1 a2 h_z1) gsh_159 ykh_L_ask rfl ⟨Nat.le_of_ble_eq_true rfl, Nat.le_of_ble_eq_true rfl⟩ ⟨by have h9 := hcc; dsimp only [room_1] at h9 ⊢; omega, by have h9 := hss; dsimp only [room_1] at h9 ⊢; omega⟩ (Nat.le_of_ble_eq_true rfl) dL_law__649 rfl ?_
  refine e_widen (c2 := cells + 8) (s2 := slots + 48) (by omega) (by omega) ?_
  refine e_istore X rfl dL_law__652 (by decide) ?_
  refine e_aload_n X dL_law__654 rfl rfl ?_
  refine e_aload_n X dL_law__655 rfl rfl ?_
  refine e_iload X dL_law__656 rfl ?_
  refine e_iconst X 1 dL_law__658 rfl ?_
  refine e_iadd X dL_law__659 ?_
  refine e_sld X hX hbl hbA hi1 ha1 dL_law__660 ?_
  refine e_aload_n X dL_law__661 rfl rfl ?_
  refine e_iload X dL_law__662 rfl ?_
  refine e_iconst X 2 dL_law__664 rfl ?_
  refine e_iadd X dL_law__665 ?_
  refine e_sld X hX hbl hbA hi2 ha2 dL_law__666 ?_
  obtain ⟨z2, h_z2, hF⟩ := obind_out hF
  refine e_callVi X (r := z2.2) (σ1 := z2.1) [.int a1, .int a2] [] (C_M_ask (Cx_gok X) z1.1 a1 a2 h_z2) gv_L_161 yk_X12_ask rfl (ent_lt (rfl : entTbl[333]? = some (13, 0))) (ent_at (rfl : entTbl[333]? = some (13, 0)) _) (rfl : vCl[11]? = some (RX12, TX12, 24)) ⟨Nat.le_of_ble_eq_true rfl, Nat.le_of_ble_eq_true rfl⟩ ⟨by have h9 := hcc; dsimp only [room_1] at h9 ⊢; omega, by have h9 := hss; dsimp only [room_1] at h9 ⊢; omega⟩ (Nat.le_of_ble_eq_true rfl) dL_law__667 rfl ?_
  refine e_istore X rfl dL_law__670 (by decide) ?_
  refine e_aload_n X dL_law__672 rfl rfl ?_
  refine e_callVi X (r := (F_M_thrown z2.1)) (σ1 := z2.1) [] [] (C_M_thrown (Cx_gok X) z2.1) gv_L_139 yk_X12_thrown rfl (ent_lt (rfl : entTbl[333]? = some (13, 0))) (ent_at (rfl : entTbl[333]? = some (13, 0)) _) (rfl : vCl[11]? = some (RX12, TX12, 24)) ⟨Nat.le_of_ble_eq_true rfl, Nat.le_of_ble_eq_true rfl⟩ ⟨by have h9 := hcc; dsimp only [room_1] at h9 ⊢; omega, by have h9 := hss; dsimp only [room_1] at h9 ⊢; omega⟩ (Nat.le_of_ble_eq_true rfl) dL_law__673 rfl ?_
  refine e_iload X dL_law__676 rfl ?_
  refine e_icmp_eq X 683 dL_law__678 (by decide) (fun c3 => ?_) (fun c3 => ?_)
  · skip
    rw [if_pos c3] at hF
    refine e_iload X dL_law__683 rfl ?_
    refine e_if_ne X 707 dL_law__685 (by decide) (fun c4 => ?_) (fun c4 => ?_)
    · skip
      rw [if_neg c4] at hF
      refine e_goto X 2522 dL_law__707 (by decide) ?_
      cases hF
      exact e_le hK (And.intro rfl (And.intro rfl (And.intro rfl (And.intro rfl (And.intro rfl trivial)))))
    · skip
      rw [if_pos c4] at hF
      refine e_aload_n X dL_law__688 rfl rfl ?_
      refine e_iconst X 0 dL_law__689 rfl ?_
      refine e_lald X dL_law__690 ?_
      refine e_iload X dL_law__691 rfl ?_
      refine e_if_eq X 700 dL_law__693 (by decide) (fun c5 => ?_) (fun c5 => ?_)
      · skip
        rw [if_pos c5] at hF
        refine e_lconst X ((0 : Int32)).toInt64 dL_law__700 (by decide) ?_
        refine e_lcmpeq X 707 dL_law__701 dL_law__702 (by decide) (fun c6 => ?_) (fun c6 => ?_)
        · skip
          rw [if_pos c6] at hF
          refine e_goto X 2522 dL_law__707 (by decide) ?_
          cases hF
          exact e_le hK (And.intro rfl (And.intro rfl (And.intro rfl (And.intro rfl (And.intro rfl trivial)))))
        · skip
          rw [if_neg c6] at hF
          refine e_iconst X 0 dL_law__705 rfl ?_
          cases hF
      · skip
        rw [if_neg c5] at hF
        refine e_lconst X ((1 : Int32)).toInt64 dL_law__696 (by decide) ?_
        refine e_goto X 701 dL_law__697 (by decide) ?_
        refine e_lcmpeq X 707 dL_law__701 dL_law__702 (by decide) (fun c7 => ?_) (fun c7 => ?_)
        · skip
          rw [if_pos c7] at hF
          refine e_goto X 2522 dL_law__707 (by decide) ?_
          cases hF
          exact e_le hK (And.intro rfl (And.intro rfl (And.intro rfl (And.intro rfl (And.intro rfl trivial)))))
        · skip
          rw [if_neg c7] at hF
          refine e_iconst X 0 dL_law__705 rfl ?_
          cases hF
  · skip
    rw [if_neg c3] at hF
    refine e_iconst X 0 dL_law__681 rfl ?_
    cases hF
set_option maxRecDepth 20000 in
set_option maxHeartbeats 4000000 in
theorem T_9 {b L : Nat} {xs : Nat → Int32} {i9 a1 a2 a3 a4 a5 : Int32} (X : Cx p l s m args meth c Γ D s0 RL cL_law_ 7) (hX : va_X b L xs s s.heap) (hbl : b < s.heap.size) (hbA : ¬ Γ.1 ≤ b) (hi1 : vp_in (i9 + 1) L) (hi2 : vp_in (i9 + 2) L) (hi3 : vp_in (i9 + 3) L) (hi4 : vp_in (i9 + 4) L) (hi5 : vp_in (i9 + 5) L) (ha1 : xs (i9 + 1).toNatClampNeg = a1) (ha2 : xs (i9 + 2).toNatClampNeg = a2) (ha3 : xs (i9 + 3).toNatClampNeg = a3) (ha4 : xs (i9 + 4).toNatClampNeg = a4) (ha5 : xs (i9 + 5).toNatClampNeg = a5) (hcc : cells + 8 ≤ room_1.cells) (hss : slots + 48 ≤ room_1.slots) (σ : Mem) {z : Mem} (hF : S_9 σ a1 a2 a3 a4 a5 = some z) (hK : E p l e room_1 s m args below meth c Γ D (cells + 8) (slots + 48) Q z 2522 [some (.ref b), some (.ref (Γ.1 + 0)), some (.ref (Γ.1 + 333)), some (.ref (Γ.1 + 346)), some (.int i9)] []) : E p l e room_1 s m args below meth c Γ D cells slots Q σ 710 [some (.ref b), some (.ref (Γ.1 + 0)), some (.ref (Γ.1 + 333)), some (.ref (Γ.1 + 346)), some (.int i9), none, none] [] := by
  unfold S_9 at hF
  refine e_aload_n X dL_law__710 rfl rfl ?_
  refine e_aload_n X dL_law__711 rfl rfl ?_
  refine e_iload X dL_law__712 rfl ?_
  refine e_iconst X 1 dL_law__714 rfl ?_
  refine e_iadd X dL_law__715 ?_
  refine e_sld X hX hbl hbA hi1 ha1 dL_law__716 ?_
  refine e_aload_n X dL_law__717 rfl rfl ?_
  refine e_iload X dL_law__718 rfl ?_
  refine e_iconst X 2 dL_law__720 rfl ?_
  refine e_iadd X dL_law__721 ?_
  refine e_sld X hX hbl hbA hi2 ha2 dL_law__722 ?_
  refine e_aload_n X dL_law__723 rfl rfl ?_
  obtain ⟨z1, h_z1, hF⟩ := obind_out hF
  refine e_callSH X (r := z1.2) (σ1 := z1.1) [.ref (Γ.1 + 0), .int a1, .int a2, .ref (Γ.1 + 346)] [] (CH_wed (Cx_gok X) σ a1 a2 h_z1) gsh_162 ykh_L_wed rfl ⟨Nat.le_of_ble_eq_true rfl, Nat.le_of_ble_eq_true rfl⟩ ⟨by have h9 := hcc; dsimp only [room_1] at h9 ⊢; omega, by have h9 := hss; dsimp only [room_1] at h9 ⊢; omega⟩ (Nat.le_of_ble_eq_true rfl) dL_law__724 rfl ?_
  refine e_widen (c2 := cells + 8) (s2 := slots + 48) (by omega) (by omega) ?_
  refine e_istore X rfl dL_law__727 (by decide) ?_
  refine e_aload_n X dL_law__729 rfl rfl ?_
  refine e_aload_n X dL_law__730 rfl rfl ?_
  refine e_iload X dL_law__731 rfl ?_
  refine e_iconst X 1 dL_law__733 rfl ?_
  refine e_iadd X dL_law__734 ?_
  refine e_sld X hX hbl hbA hi1 ha1 dL_law__735 ?_
  refine e_aload_n X dL_law__736 rfl rfl ?_
  refine e_iload X dL_law__737 rfl ?_
  refine e_iconst X 2 dL_law__739 rfl ?_
  refine e_iadd X dL_law__740 ?_
  refine e_sld X hX hbl hbA hi2 ha2 dL_law__741 ?_
  obtain ⟨z2, h_z2, hF⟩ := obind_out hF
  refine e_callVi X (r := z2.2) (σ1 := z2.1) [.int a1, .int a2] [] (C_M_wed (Cx_gok X) z1.1 a1 a2 h_z2) gv_L_164 yk_X12_wed rfl (ent_lt (rfl : entTbl[333]? = some (13, 0))) (ent_at (rfl : entTbl[333]? = some (13, 0)) _) (rfl : vCl[11]? = some (RX12, TX12, 24)) ⟨Nat.le_of_ble_eq_true rfl, Nat.le_of_ble_eq_true rfl⟩ ⟨by have h9 := hcc; dsimp only [room_1] at h9 ⊢; omega, by have h9 := hss; dsimp only [room_1] at h9 ⊢; omega⟩ (Nat.le_of_ble_eq_true rfl) dL_law__742 rfl ?_
  refine e_istore X rfl dL_law__745 (by decide) ?_
  refine e_aload_n X dL_law__747 rfl rfl ?_
  refine e_callVi X (r := (F_M_thrown z2.1)) (σ1 := z2.1) [] [] (C_M_thrown (Cx_gok X) z2.1) gv_L_139 yk_X12_thrown rfl (ent_lt (rfl : entTbl[333]? = some (13, 0))) (ent_at (rfl : entTbl[333]? = some (13, 0)) _) (rfl : vCl[11]? = some (RX12, TX12, 24)) ⟨Nat.le_of_ble_eq_true rfl, Nat.le_of_ble_eq_true rfl⟩ ⟨by have h9 := hcc; dsimp only [room_1] at h9 ⊢; omega, by have h9 := hss; dsimp only [room_1] at h9 ⊢; omega⟩ (Nat.le_of_ble_eq_true rfl) dL_law__748 rfl ?_
  refine e_iload X dL_law__751 rfl ?_
  refine e_icmp_eq X 758 dL_law__753 (by decide) (fun c3 => ?_) (fun c3 => ?_)
  · skip
    rw [if_pos c3] at hF
    refine e_iload X dL_law__758 rfl ?_
    refine e_if_ne X 775 dL_law__760 (by decide) (fun c4 => ?_) (fun c4 => ?_)
    · skip
      rw [if_neg c4] at hF
      refine e_goto X 2522 dL_law__775 (by decide) ?_
      cases hF
      exact e_le hK (And.intro rfl (And.intro rfl (And.intro rfl (And.intro rfl (And.intro rfl trivial)))))
    · skip
      rw [if_pos c4] at hF
      refine e_aload_n X dL_law__763 rfl rfl ?_
      refine e_iconst X 0 dL_law__764 rfl ?_
      refine e_lald X dL_law__765 ?_
      refine e_iload X dL_law__766 rfl ?_
      refine e_i2l X dL_law__768 ?_
      refine e_lcmpeq X 775 dL_law__769 dL_law__770 (by decide) (fun c5 => ?_) (fun c5 => ?_)
      · skip
        rw [if_pos c5] at hF
        refine e_goto X 2522 dL_law__775 (by decide) ?_
        cases hF
        exact e_le hK (And.intro rfl (And.intro rfl (And.intro rfl (And.intro rfl (And.intro rfl trivial)))))
      · skip
        rw [if_neg c5] at hF
        refine e_iconst X 0 dL_law__773 rfl ?_
        cases hF
  · skip
    rw [if_neg c3] at hF
    refine e_iconst X 0 dL_law__756 rfl ?_
    cases hF
set_option maxRecDepth 20000 in
set_option maxHeartbeats 4000000 in
theorem T_10 {b L : Nat} {xs : Nat → Int32} {i9 a1 a2 a3 a4 a5 : Int32} (X : Cx p l s m args meth c Γ D s0 RL cL_law_ 7) (hX : va_X b L xs s s.heap) (hbl : b < s.heap.size) (hbA : ¬ Γ.1 ≤ b) (hi1 : vp_in (i9 + 1) L) (hi2 : vp_in (i9 + 2) L) (hi3 : vp_in (i9 + 3) L) (hi4 : vp_in (i9 + 4) L) (hi5 : vp_in (i9 + 5) L) (ha1 : xs (i9 + 1).toNatClampNeg = a1) (ha2 : xs (i9 + 2).toNatClampNeg = a2) (ha3 : xs (i9 + 3).toNatClampNeg = a3) (ha4 : xs (i9 + 4).toNatClampNeg = a4) (ha5 : xs (i9 + 5).toNatClampNeg = a5) (hcc : cells + 8 ≤ room_1.cells) (hss : slots + 48 ≤ room_1.slots) (σ : Mem) {z : Mem} (hF : S_10 σ a1 a2 a3 a4 a5 = some z) (hK : E p l e room_1 s m args below meth c Γ D (cells + 8) (slots + 48) Q z 2522 [some (.ref b), some (.ref (Γ.1 + 0)), some (.ref (Γ.1 + 333)), some (.ref (Γ.1 + 346)), some (.int i9)] []) : E p l e room_1 s m args below meth c Γ D cells slots Q σ 778 [some (.ref b), some (.ref (Γ.1 + 0)), some (.ref (Γ.1 + 333)), some (.ref (Γ.1 + 346)), some (.int i9), none, none] [] := by
  unfold S_10 at hF
  refine e_aload_n X dL_law__778 rfl rfl ?_
  refine e_aload_n X dL_law__779 rfl rfl ?_
  refine e_iload X dL_law__780 rfl ?_
  refine e_iconst X 1 dL_law__782 rfl ?_
  refine e_iadd X dL_law__783 ?_
  refine e_sld X hX hbl hbA hi1 ha1 dL_law__784 ?_
  refine e_aload_n X dL_law__785 rfl rfl ?_
  refine e_iload X dL_law__786 rfl ?_
  refine e_iconst X 2 dL_law__788 rfl ?_
  refine e_iadd X dL_law__789 ?_
  refine e_sld X hX hbl hbA hi2 ha2 dL_law__790 ?_
  refine e_aload_n X dL_law__791 rfl rfl ?_
  obtain ⟨z1, h_z1, hF⟩ := obind_out hF
  refine e_callSH X (r := z1.2) (σ1 := z1.1) [.ref (Γ.1 + 0), .int a1, .int a2, .ref (Γ.1 + 346)] [] (CH_gift (Cx_gok X) σ a1 a2 h_z1) gsh_165 ykh_L_gift rfl ⟨Nat.le_of_ble_eq_true rfl, Nat.le_of_ble_eq_true rfl⟩ ⟨by have h9 := hcc; dsimp only [room_1] at h9 ⊢; omega, by have h9 := hss; dsimp only [room_1] at h9 ⊢; omega⟩ (Nat.le_of_ble_eq_true rfl) dL_law__792 rfl ?_
  refine e_widen (c2 := cells + 8) (s2 := slots + 48) (by omega) (by omega) ?_
  refine e_istore X rfl dL_law__795 (by decide) ?_
  refine e_aload_n X dL_law__797 rfl rfl ?_
  refine e_aload_n X dL_law__798 rfl rfl ?_
  refine e_iload X dL_law__799 rfl ?_
  refine e_iconst X 1 dL_law__801 rfl ?_
  refine e_iadd X dL_law__802 ?_
  refine e_sld X hX hbl hbA hi1 ha1 dL_law__803 ?_
  refine e_aload_n X dL_law__804 rfl rfl ?_
  refine e_iload X dL_law__805 rfl ?_
  refine e_iconst X 2 dL_law__807 rfl ?_
  refine e_iadd X dL_law__808 ?_
  refine e_sld X hX hbl hbA hi2 ha2 dL_law__809 ?_
  obtain ⟨z2, h_z2, hF⟩ := obind_out hF
  refine e_callVi X (r := z2.2) (σ1 := z2.1) [.int a1, .int a2] [] (C_M_gift (Cx_gok X) z1.1 a1 a2 h_z2) gv_L_167 yk_X12_gift rfl (ent_lt (rfl : entTbl[333]? = some (13, 0))) (ent_at (rfl : entTbl[333]? = some (13, 0)) _) (rfl : vCl[11]? = some (RX12, TX12, 24)) ⟨Nat.le_of_ble_eq_true rfl, Nat.le_of_ble_eq_true rfl⟩ ⟨by have h9 := hcc; dsimp only [room_1] at h9 ⊢; omega, by have h9 := hss; dsimp only [room_1] at h9 ⊢; omega⟩ (Nat.le_of_ble_eq_true rfl) dL_law__810 rfl ?_
  refine e_istore X rfl dL_law__813 (by decide) ?_
  refine e_aload_n X dL_law__815 rfl rfl ?_
  refine e_callVi X (r := (F_M_thrown z2.1)) (σ1 := z2.1) [] [] (C_M_thrown (Cx_gok X) z2.1) gv_L_139 yk_X12_thrown rfl (ent_lt (rfl : entTbl[333]? = some (13, 0))) (ent_at (rfl : entTbl[333]? = some (13, 0)) _) (rfl : vCl[11]? = some (RX12, TX12, 24)) ⟨Nat.le_of_ble_eq_true rfl, Nat.le_of_ble_eq_true rfl⟩ ⟨by have h9 := hcc; dsimp only [room_1] at h9 ⊢; omega, by have h9 := hss; dsimp only [room_1] at h9 ⊢; omega⟩ (Nat.le_of_ble_eq_true rfl) dL_law__816 rfl ?_
  refine e_iload X dL_law__819 rfl ?_
  refine e_icmp_eq X 826 dL_law__821 (by decide) (fun c3 => ?_) (fun c3 => ?_)
  · skip
    rw [if_pos c3] at hF
    refine e_iload X dL_law__826 rfl ?_
    refine e_if_ne X 843 dL_law__828 (by decide) (fun c4 => ?_) (fun c4 => ?_)
    · skip
      rw [if_neg c4] at hF
      refine e_goto X 2522 dL_law__843 (by decide) ?_
      cases hF
      exact e_le hK (And.intro rfl (And.intro rfl (And.intro rfl (And.intro rfl (And.intro rfl trivial)))))
    · skip
      rw [if_pos c4] at hF
      refine e_aload_n X dL_law__831 rfl rfl ?_
      refine e_iconst X 0 dL_law__832 rfl ?_
      refine e_lald X dL_law__833 ?_
      refine e_iload X dL_law__834 rfl ?_
      refine e_i2l X dL_law__836 ?_
      refine e_lcmpeq X 843 dL_law__837 dL_law__838 (by decide) (fun c5 => ?_) (fun c5 => ?_)
      · skip
        rw [if_pos c5] at hF
        refine e_goto X 2522 dL_law__843 (by decide) ?_
        cases hF
        exact e_le hK (And.intro rfl (And.intro rfl (And.intro rfl (And.intro rfl (And.intro rfl trivial)))))
      · skip
        rw [if_neg c5] at hF
        refine e_iconst X 0 dL_law__841 rfl ?_
        cases hF
  · skip
    rw [if_neg c3] at hF
    refine e_iconst X 0 dL_law__824 rfl ?_
    cases hF
set_option maxRecDepth 20000 in
set_option maxHeartbeats 4000000 in
theorem T_11 {b L : Nat} {xs : Nat → Int32} {i9 a1 a2 a3 a4 a5 : Int32} (X : Cx p l s m args meth c Γ D s0 RL cL_law_ 7) (hX : va_X b L xs s s.heap) (hbl : b < s.heap.size) (hbA : ¬ Γ.1 ≤ b) (hi1 : vp_in (i9 + 1) L) (hi2 : vp_in (i9 + 2) L) (hi3 : vp_in (i9 + 3) L) (hi4 : vp_in (i9 + 4) L) (hi5 : vp_in (i9 + 5) L) (ha1 : xs (i9 + 1).toNatClampNeg = a1) (ha2 : xs (i9 + 2).toNatClampNeg = a2) (ha3 : xs (i9 + 3).toNatClampNeg = a3) (ha4 : xs (i9 + 4).toNatClampNeg = a4) (ha5 : xs (i9 + 5).toNatClampNeg = a5) (hcc : cells + 8 ≤ room_1.cells) (hss : slots + 48 ≤ room_1.slots) (σ : Mem) {z : Mem} (hF : S_11 σ a1 a2 a3 a4 a5 = some z) (hK : E p l e room_1 s m args below meth c Γ D (cells + 8) (slots + 48) Q z 2522 [some (.ref b), some (.ref (Γ.1 + 0)), some (.ref (Γ.1 + 333)), some (.ref (Γ.1 + 346)), some (.int i9)] []) : E p l e room_1 s m args below meth c Γ D cells slots Q σ 846 [some (.ref b), some (.ref (Γ.1 + 0)), some (.ref (Γ.1 + 333)), some (.ref (Γ.1 + 346)), some (.int i9), none, none] [] := by
  unfold S_11 at hF
  refine e_aload_n X dL_law__846 rfl rfl ?_
  refine e_aload_n X dL_law__847 rfl rfl ?_
  refine e_iload X dL_law__848 rfl ?_
  refine e_iconst X 1 dL_law__850 rfl ?_
  refine e_iadd X dL_law__851 ?_
  refine e_sld X hX hbl hbA hi1 ha1 dL_law__852 ?_
  refine e_aload_n X dL_law__853 rfl rfl ?_
  refine e_iload X dL_law__854 rfl ?_
  refine e_iconst X 2 dL_law__856 rfl ?_
  refine e_iadd X dL_law__857 ?_
  refine e_sld X hX hbl hbA hi2 ha2 dL_law__858 ?_
  refine e_aload_n X dL_law__859 rfl rfl ?_
  obtain ⟨z1, h_z1, hF⟩ := obind_out hF
  refine e_callSH X (r := z1.2) (σ1 := z1.1) [.ref (Γ.1 + 0), .int a1, .int a2, .ref (Γ.1 + 346)] [] (CH_meddle (Cx_gok X) σ a1 a2 h_z1) gsh_168 ykh_L_meddle rfl ⟨Nat.le_of_ble_eq_true rfl, Nat.le_of_ble_eq_true rfl⟩ ⟨by have h9 := hcc; dsimp only [room_1] at h9 ⊢; omega, by have h9 := hss; dsimp only [room_1] at h9 ⊢; omega⟩ (Nat.le_of_ble_eq_true rfl) dL_law__860 rfl ?_
  refine e_widen (c2 := cells + 8) (s2 := slots + 48) (by omega) (by omega) ?_
  refine e_istore X rfl dL_law__863 (by decide) ?_
  refine e_aload_n X dL_law__865 rfl rfl ?_
  refine e_aload_n X dL_law__866 rfl rfl ?_
  refine e_iload X dL_law__867 rfl ?_
  refine e_iconst X 1 dL_law__869 rfl ?_
  refine e_iadd X dL_law__870 ?_
  refine e_sld X hX hbl hbA hi1 ha1 dL_law__871 ?_
  refine e_aload_n X dL_law__872 rfl rfl ?_
  refine e_iload X dL_law__873 rfl ?_
  refine e_iconst X 2 dL_law__875 rfl ?_
  refine e_iadd X dL_law__876 ?_
  refine e_sld X hX hbl hbA hi2 ha2 dL_law__877 ?_
  obtain ⟨z2, h_z2, hF⟩ := obind_out hF
  refine e_callVi X (r := z2.2) (σ1 := z2.1) [.int a1, .int a2] [] (C_M_meddle (Cx_gok X) z1.1 a1 a2 h_z2) gv_L_170 yk_X12_meddle rfl (ent_lt (rfl : entTbl[333]? = some (13, 0))) (ent_at (rfl : entTbl[333]? = some (13, 0)) _) (rfl : vCl[11]? = some (RX12, TX12, 24)) ⟨Nat.le_of_ble_eq_true rfl, Nat.le_of_ble_eq_true rfl⟩ ⟨by have h9 := hcc; dsimp only [room_1] at h9 ⊢; omega, by have h9 := hss; dsimp only [room_1] at h9 ⊢; omega⟩ (Nat.le_of_ble_eq_true rfl) dL_law__878 rfl ?_
  refine e_istore X rfl dL_law__881 (by decide) ?_
  refine e_aload_n X dL_law__883 rfl rfl ?_
  refine e_callVi X (r := (F_M_thrown z2.1)) (σ1 := z2.1) [] [] (C_M_thrown (Cx_gok X) z2.1) gv_L_139 yk_X12_thrown rfl (ent_lt (rfl : entTbl[333]? = some (13, 0))) (ent_at (rfl : entTbl[333]? = some (13, 0)) _) (rfl : vCl[11]? = some (RX12, TX12, 24)) ⟨Nat.le_of_ble_eq_true rfl, Nat.le_of_ble_eq_true rfl⟩ ⟨by have h9 := hcc; dsimp only [room_1] at h9 ⊢; omega, by have h9 := hss; dsimp only [room_1] at h9 ⊢; omega⟩ (Nat.le_of_ble_eq_true rfl) dL_law__884 rfl ?_
  refine e_iload X dL_law__887 rfl ?_
  refine e_icmp_eq X 894 dL_law__889 (by decide) (fun c3 => ?_) (fun c3 => ?_)
  · skip
    rw [if_pos c3] at hF
    refine e_iload X dL_law__894 rfl ?_
    refine e_if_ne X 911 dL_law__896 (by decide) (fun c4 => ?_) (fun c4 => ?_)
    · skip
      rw [if_neg c4] at hF
      refine e_goto X 2522 dL_law__911 (by decide) ?_
      cases hF
      exact e_le hK (And.intro rfl (And.intro rfl (And.intro rfl (And.intro rfl (And.intro rfl trivial)))))
    · skip
      rw [if_pos c4] at hF
      refine e_aload_n X dL_law__899 rfl rfl ?_
      refine e_iconst X 0 dL_law__900 rfl ?_
      refine e_lald X dL_law__901 ?_
      refine e_iload X dL_law__902 rfl ?_
      refine e_i2l X dL_law__904 ?_
      refine e_lcmpeq X 911 dL_law__905 dL_law__906 (by decide) (fun c5 => ?_) (fun c5 => ?_)
      · skip
        rw [if_pos c5] at hF
        refine e_goto X 2522 dL_law__911 (by decide) ?_
        cases hF
        exact e_le hK (And.intro rfl (And.intro rfl (And.intro rfl (And.intro rfl (And.intro rfl trivial)))))
      · skip
        rw [if_neg c5] at hF
        refine e_iconst X 0 dL_law__909 rfl ?_
        cases hF
  · skip
    rw [if_neg c3] at hF
    refine e_iconst X 0 dL_law__892 rfl ?_
    cases hF
set_option maxRecDepth 20000 in
set_option maxHeartbeats 4000000 in
theorem T_12 {b L : Nat} {xs : Nat → Int32} {i9 a1 a2 a3 a4 a5 : Int32} (X : Cx p l s m args meth c Γ D s0 RL cL_law_ 7) (hX : va_X b L xs s s.heap) (hbl : b < s.heap.size) (hbA : ¬ Γ.1 ≤ b) (hi1 : vp_in (i9 + 1) L) (hi2 : vp_in (i9 + 2) L) (hi3 : vp_in (i9 + 3) L) (hi4 : vp_in (i9 + 4) L) (hi5 : vp_in (i9 + 5) L) (ha1 : xs (i9 + 1).toNatClampNeg = a1) (ha2 : xs (i9 + 2).toNatClampNeg = a2) (ha3 : xs (i9 + 3).toNatClampNeg = a3) (ha4 : xs (i9 + 4).toNatClampNeg = a4) (ha5 : xs (i9 + 5).toNatClampNeg = a5) (hcc : cells + 8 ≤ room_1.cells) (hss : slots + 48 ≤ room_1.slots) (σ : Mem) {z : Mem} (hF : S_12 σ a1 a2 a3 a4 a5 = some z) (hK : E p l e room_1 s m args below meth c Γ D (cells + 8) (slots + 48) Q z 2522 [some (.ref b), some (.ref (Γ.1 + 0)), some (.ref (Γ.1 + 333)), some (.ref (Γ.1 + 346)), some (.int i9)] []) : E p l e room_1 s m args below meth c Γ D cells slots Q σ 914 [some (.ref b), some (.ref (Γ.1 + 0)), some (.ref (Γ.1 + 333)), some (.ref (Γ.1 + 346)), some (.int i9), none, none] [] := by
  unfold S_12 at hF
  refine e_aload_n X dL_law__914 rfl rfl ?_
  refine e_aload_n X dL_law__915 rfl rfl ?_
  refine e_iload X dL_law__916 rfl ?_
  refine e_iconst X 1 dL_law__918 rfl ?_
  refine e_iadd X dL_law__919 ?_
  refine e_sld X hX hbl hbA hi1 ha1 dL_law__920 ?_
  refine e_aload_n X dL_law__921 rfl rfl ?_
  refine e_iload X dL_law__922 rfl ?_
  refine e_iconst X 2 dL_law__924 rfl ?_
  refine e_iadd X dL_law__925 ?_
  refine e_sld X hX hbl hbA hi2 ha2 dL_law__926 ?_
  refine e_aload_n X dL_law__927 rfl rfl ?_
  obtain ⟨z1, h_z1, hF⟩ := obind_out hF
  refine e_callSH X (r := z1.2) (σ1 := z1.1) [.ref (Γ.1 + 0), .int a1, .int a2, .ref (Γ.1 + 346)] [] (CH_reinsure (Cx_gok X) σ a1 a2 h_z1) gsh_171 ykh_L_reinsure rfl ⟨Nat.le_of_ble_eq_true rfl, Nat.le_of_ble_eq_true rfl⟩ ⟨by have h9 := hcc; dsimp only [room_1] at h9 ⊢; omega, by have h9 := hss; dsimp only [room_1] at h9 ⊢; omega⟩ (Nat.le_of_ble_eq_true rfl) dL_law__928 rfl ?_
  refine e_widen (c2 := cells + 8) (s2 := slots + 48) (by omega) (by omega) ?_
  refine e_istore X rfl dL_law__931 (by decide) ?_
  refine e_aload_n X dL_law__933 rfl rfl ?_
  refine e_aload_n X dL_law__934 rfl rfl ?_
  refine e_iload X dL_law__935 rfl ?_
  refine e_iconst X 1 dL_law__937 rfl ?_
  refine e_iadd X dL_law__938 ?_
  refine e_sld X hX hbl hbA hi1 ha1 dL_law__939 ?_
  refine e_aload_n X dL_law__940 rfl rfl ?_
  refine e_iload X dL_law__941 rfl ?_
  refine e_iconst X 2 dL_law__943 rfl ?_
  refine e_iadd X dL_law__944 ?_
  refine e_sld X hX hbl hbA hi2 ha2 dL_law__945 ?_
  obtain ⟨z2, h_z2, hF⟩ := obind_out hF
  refine e_callVi X (r := z2.2) (σ1 := z2.1) [.int a1, .int a2] [] (C_M_reinsure (Cx_gok X) z1.1 a1 a2 h_z2) gv_L_173 yk_X12_reinsure rfl (ent_lt (rfl : entTbl[333]? = some (13, 0))) (ent_at (rfl : entTbl[333]? = some (13, 0)) _) (rfl : vCl[11]? = some (RX12, TX12, 24)) ⟨Nat.le_of_ble_eq_true rfl, Nat.le_of_ble_eq_true rfl⟩ ⟨by have h9 := hcc; dsimp only [room_1] at h9 ⊢; omega, by have h9 := hss; dsimp only [room_1] at h9 ⊢; omega⟩ (Nat.le_of_ble_eq_true rfl) dL_law__946 rfl ?_
  refine e_istore X rfl dL_law__949 (by decide) ?_
  refine e_aload_n X dL_law__951 rfl rfl ?_
  refine e_callVi X (r := (F_M_thrown z2.1)) (σ1 := z2.1) [] [] (C_M_thrown (Cx_gok X) z2.1) gv_L_139 yk_X12_thrown rfl (ent_lt (rfl : entTbl[333]? = some (13, 0))) (ent_at (rfl : entTbl[333]? = some (13, 0)) _) (rfl : vCl[11]? = some (RX12, TX12, 24)) ⟨Nat.le_of_ble_eq_true rfl, Nat.le_of_ble_eq_true rfl⟩ ⟨by have h9 := hcc; dsimp only [room_1] at h9 ⊢; omega, by have h9 := hss; dsimp only [room_1] at h9 ⊢; omega⟩ (Nat.le_of_ble_eq_true rfl) dL_law__952 rfl ?_
  refine e_iload X dL_law__955 rfl ?_
  refine e_icmp_eq X 962 dL_law__957 (by decide) (fun c3 => ?_) (fun c3 => ?_)
  · skip
    rw [if_pos c3] at hF
    refine e_iload X dL_law__962 rfl ?_
    refine e_if_ne X 979 dL_law__964 (by decide) (fun c4 => ?_) (fun c4 => ?_)
    · skip
      rw [if_neg c4] at hF
      refine e_goto X 2522 dL_law__979 (by decide) ?_
      cases hF
      exact e_le hK (And.intro rfl (And.intro rfl (And.intro rfl (And.intro rfl (And.intro rfl trivial)))))
    · skip
      rw [if_pos c4] at hF
      refine e_aload_n X dL_law__967 rfl rfl ?_
      refine e_iconst X 0 dL_law__968 rfl ?_
      refine e_lald X dL_law__969 ?_
      refine e_iload X dL_law__970 rfl ?_
      refine e_i2l X dL_law__972 ?_
      refine e_lcmpeq X 979 dL_law__973 dL_law__974 (by decide) (fun c5 => ?_) (fun c5 => ?_)
      · skip
        rw [if_pos c5] at hF
        refine e_goto X 2522 dL_law__979 (by decide) ?_
        cases hF
        exact e_le hK (And.intro rfl (And.intro rfl (And.intro rfl (And.intro rfl (And.intro rfl trivial)))))
      · skip
        rw [if_neg c5] at hF
        refine e_iconst X 0 dL_law__977 rfl ?_
        cases hF
  · skip
    rw [if_neg c3] at hF
    refine e_iconst X 0 dL_law__960 rfl ?_
    cases hF
set_option maxRecDepth 20000 in
set_option maxHeartbeats 4000000 in
theorem T_13 {b L : Nat} {xs : Nat → Int32} {i9 a1 a2 a3 a4 a5 : Int32} (X : Cx p l s m args meth c Γ D s0 RL cL_law_ 7) (hX : va_X b L xs s s.heap) (hbl : b < s.heap.size) (hbA : ¬ Γ.1 ≤ b) (hi1 : vp_in (i9 + 1) L) (hi2 : vp_in (i9 + 2) L) (hi3 : vp_in (i9 + 3) L) (hi4 : vp_in (i9 + 4) L) (hi5 : vp_in (i9 + 5) L) (ha1 : xs (i9 + 1).toNatClampNeg = a1) (ha2 : xs (i9 + 2).toNatClampNeg = a2) (ha3 : xs (i9 + 3).toNatClampNeg = a3) (ha4 : xs (i9 + 4).toNatClampNeg = a4) (ha5 : xs (i9 + 5).toNatClampNeg = a5) (hcc : cells + 8 ≤ room_1.cells) (hss : slots + 48 ≤ room_1.slots) (σ : Mem) {z : Mem} (hF : S_13 σ a1 a2 a3 a4 a5 = some z) (hK : E p l e room_1 s m args below meth c Γ D (cells + 8) (slots + 48) Q z 2522 [some (.ref b), some (.ref (Γ.1 + 0)), some (.ref (Γ.1 + 333)), some (.ref (Γ.1 + 346)), some (.int i9)] []) : E p l e room_1 s m args below meth c Γ D cells slots Q σ 982 [some (.ref b), some (.ref (Γ.1 + 0)), some (.ref (Γ.1 + 333)), some (.ref (Γ.1 + 346)), some (.int i9), none, none] [] := by
  unfold S_13 at hF
  refine e_aload_n X dL_law__982 rfl rfl ?_
  refine e_aload_n X dL_law__983 rfl rfl ?_
  refine e_iload X dL_law__984 rfl ?_
  refine e_iconst X 1 dL_law__986 rfl ?_
  refine e_iadd X dL_law__987 ?_
  refine e_sld X hX hbl hbA hi1 ha1 dL_law__988 ?_
  refine e_aload_n X dL_law__989 rfl rfl ?_
  obtain ⟨z1, h_z1, hF⟩ := obind_out hF
  refine e_callSH X (r := z1.2) (σ1 := z1.1) [.ref (Γ.1 + 0), .int a1, .ref (Γ.1 + 346)] [] (CH_part (Cx_gok X) σ a1 h_z1) gsh_174 ykh_L_part rfl ⟨Nat.le_of_ble_eq_true rfl, Nat.le_of_ble_eq_true rfl⟩ ⟨by have h9 := hcc; dsimp only [room_1] at h9 ⊢; omega, by have h9 := hss; dsimp only [room_1] at h9 ⊢; omega⟩ (Nat.le_of_ble_eq_true rfl) dL_law__990 rfl ?_
  refine e_widen (c2 := cells + 8) (s2 := slots + 48) (by omega) (by omega) ?_
  refine e_istore X rfl dL_law__993 (by decide) ?_
  refine e_aload_n X dL_law__995 rfl rfl ?_
  refine e_aload_n X dL_law__996 rfl rfl ?_
  refine e_iload X dL_law__997 rfl ?_
  refine e_iconst X 1 dL_law__999 rfl ?_
  refine e_iadd X dL_law__1000 ?_
  refine e_sld X hX hbl hbA hi1 ha1 dL_law__1001 ?_
  obtain ⟨z2, h_z2, hF⟩ := obind_out hF
  refine e_callVi X (r := z2.2) (σ1 := z2.1) [.int a1] [] (C_M_part_ (Cx_gok X) z1.1 a1 h_z2) gv_L_177 yk_X12_part_ rfl (ent_lt (rfl : entTbl[333]? = some (13, 0))) (ent_at (rfl : entTbl[333]? = some (13, 0)) _) (rfl : vCl[11]? = some (RX12, TX12, 24)) ⟨Nat.le_of_ble_eq_true rfl, Nat.le_of_ble_eq_true rfl⟩ ⟨by have h9 := hcc; dsimp only [room_1] at h9 ⊢; omega, by have h9 := hss; dsimp only [room_1] at h9 ⊢; omega⟩ (Nat.le_of_ble_eq_true rfl) dL_law__1002 rfl ?_
  refine e_istore X rfl dL_law__1005 (by decide) ?_
  refine e_aload_n X dL_law__1007 rfl rfl ?_
  refine e_callVi X (r := (F_M_thrown z2.1)) (σ1 := z2.1) [] [] (C_M_thrown (Cx_gok X) z2.1) gv_L_139 yk_X12_thrown rfl (ent_lt (rfl : entTbl[333]? = some (13, 0))) (ent_at (rfl : entTbl[333]? = some (13, 0)) _) (rfl : vCl[11]? = some (RX12, TX12, 24)) ⟨Nat.le_of_ble_eq_true rfl, Nat.le_of_ble_eq_true rfl⟩ ⟨by have h9 := hcc; dsimp only [room_1] at h9 ⊢; omega, by have h9 := hss; dsimp only [room_1] at h9 ⊢; omega⟩ (Nat.le_of_ble_eq_true rfl) dL_law__1008 rfl ?_
  refine e_iload X dL_law__1011 rfl ?_
  refine e_icmp_eq X 1018 dL_law__1013 (by decide) (fun c3 => ?_) (fun c3 => ?_)
  · skip
    rw [if_pos c3] at hF
    refine e_iload X dL_law__1018 rfl ?_
    refine e_if_ne X 1035 dL_law__1020 (by decide) (fun c4 => ?_) (fun c4 => ?_)
    · skip
      rw [if_neg c4] at hF
      refine e_goto X 2522 dL_law__1035 (by decide) ?_
      cases hF
      exact e_le hK (And.intro rfl (And.intro rfl (And.intro rfl (And.intro rfl (And.intro rfl trivial)))))
    · skip
      rw [if_pos c4] at hF
      refine e_aload_n X dL_law__1023 rfl rfl ?_
      refine e_iconst X 0 dL_law__1024 rfl ?_
      refine e_lald X dL_law__1025 ?_
      refine e_iload X dL_law__1026 rfl ?_
      refine e_i2l X dL_law__1028 ?_
      refine e_lcmpeq X 1035 dL_law__1029 dL_law__1030 (by decide) (fun c5 => ?_) (fun c5 => ?_)
      · skip
        rw [if_pos c5] at hF
        refine e_goto X 2522 dL_law__1035 (by decide) ?_
        cases hF
        exact e_le hK (And.intro rfl (And.intro rfl (And.intro rfl (And.intro rfl (And.intro rfl trivial)))))
      · skip
        rw [if_neg c5] at hF
        refine e_iconst X 0 dL_law__1033 rfl ?_
        cases hF
  · skip
    rw [if_neg c3] at hF
    refine e_iconst X 0 dL_law__1016 rfl ?_
    cases hF
set_option maxRecDepth 20000 in
set_option maxHeartbeats 4000000 in
theorem T_14 {b L : Nat} {xs : Nat → Int32} {i9 a1 a2 a3 a4 a5 : Int32} (X : Cx p l s m args meth c Γ D s0 RL cL_law_ 7) (hX : va_X b L xs s s.heap) (hbl : b < s.heap.size) (hbA : ¬ Γ.1 ≤ b) (hi1 : vp_in (i9 + 1) L) (hi2 : vp_in (i9 + 2) L) (hi3 : vp_in (i9 + 3) L) (hi4 : vp_in (i9 + 4) L) (hi5 : vp_in (i9 + 5) L) (ha1 : xs (i9 + 1).toNatClampNeg = a1) (ha2 : xs (i9 + 2).toNatClampNeg = a2) (ha3 : xs (i9 + 3).toNatClampNeg = a3) (ha4 : xs (i9 + 4).toNatClampNeg = a4) (ha5 : xs (i9 + 5).toNatClampNeg = a5) (hcc : cells + 8 ≤ room_1.cells) (hss : slots + 48 ≤ room_1.slots) (σ : Mem) {z : Mem} (hF : S_14 σ a1 a2 a3 a4 a5 = some z) (hK : E p l e room_1 s m args below meth c Γ D (cells + 8) (slots + 48) Q z 2522 [some (.ref b), some (.ref (Γ.1 + 0)), some (.ref (Γ.1 + 333)), some (.ref (Γ.1 + 346)), some (.int i9)] []) : E p l e room_1 s m args below meth c Γ D cells slots Q σ 1038 [some (.ref b), some (.ref (Γ.1 + 0)), some (.ref (Γ.1 + 333)), some (.ref (Γ.1 + 346)), some (.int i9), none, none] [] := by
  unfold S_14 at hF
  refine e_aload_n X dL_law__1038 rfl rfl ?_
  refine e_aload_n X dL_law__1039 rfl rfl ?_
  refine e_iload X dL_law__1040 rfl ?_
  refine e_iconst X 1 dL_law__1042 rfl ?_
  refine e_iadd X dL_law__1043 ?_
  refine e_sld X hX hbl hbA hi1 ha1 dL_law__1044 ?_
  refine e_aload_n X dL_law__1045 rfl rfl ?_
  obtain ⟨z1, h_z1, hF⟩ := obind_out hF
  refine e_callSH X (r := z1.2) (σ1 := z1.1) [.ref (Γ.1 + 0), .int a1, .ref (Γ.1 + 346)] [] (CH_months (Cx_gok X) σ a1 h_z1) gsh_178 ykh_L_months rfl ⟨Nat.le_of_ble_eq_true rfl, Nat.le_of_ble_eq_true rfl⟩ ⟨by have h9 := hcc; dsimp only [room_1] at h9 ⊢; omega, by have h9 := hss; dsimp only [room_1] at h9 ⊢; omega⟩ (Nat.le_of_ble_eq_true rfl) dL_law__1046 rfl ?_
  refine e_widen (c2 := cells + 8) (s2 := slots + 48) (by omega) (by omega) ?_
  refine e_istore X rfl dL_law__1049 (by decide) ?_
  refine e_aload_n X dL_law__1051 rfl rfl ?_
  refine e_aload_n X dL_law__1052 rfl rfl ?_
  refine e_iload X dL_law__1053 rfl ?_
  refine e_iconst X 1 dL_law__1055 rfl ?_
  refine e_iadd X dL_law__1056 ?_
  refine e_sld X hX hbl hbA hi1 ha1 dL_law__1057 ?_
  obtain ⟨z2, h_z2, hF⟩ := obind_out hF
  refine e_callVi X (r := z2.2) (σ1 := z2.1) [.int a1] [] (C_M_months (Cx_gok X) z1.1 a1 h_z2) gv_L_180 yk_X12_months rfl (ent_lt (rfl : entTbl[333]? = some (13, 0))) (ent_at (rfl : entTbl[333]? = some (13, 0)) _) (rfl : vCl[11]? = some (RX12, TX12, 24)) ⟨Nat.le_of_ble_eq_true rfl, Nat.le_of_ble_eq_true rfl⟩ ⟨by have h9 := hcc; dsimp only [room_1] at h9 ⊢; omega, by have h9 := hss; dsimp only [room_1] at h9 ⊢; omega⟩ (Nat.le_of_ble_eq_true rfl) dL_law__1058 rfl ?_
  refine e_istore X rfl dL_law__1061 (by decide) ?_
  refine e_aload_n X dL_law__1063 rfl rfl ?_
  refine e_callVi X (r := (F_M_thrown z2.1)) (σ1 := z2.1) [] [] (C_M_thrown (Cx_gok X) z2.1) gv_L_139 yk_X12_thrown rfl (ent_lt (rfl : entTbl[333]? = some (13, 0))) (ent_at (rfl : entTbl[333]? = some (13, 0)) _) (rfl : vCl[11]? = some (RX12, TX12, 24)) ⟨Nat.le_of_ble_eq_true rfl, Nat.le_of_ble_eq_true rfl⟩ ⟨by have h9 := hcc; dsimp only [room_1] at h9 ⊢; omega, by have h9 := hss; dsimp only [room_1] at h9 ⊢; omega⟩ (Nat.le_of_ble_eq_true rfl) dL_law__1064 rfl ?_
  refine e_iload X dL_law__1067 rfl ?_
  refine e_icmp_eq X 1074 dL_law__1069 (by decide) (fun c3 => ?_) (fun c3 => ?_)
  · skip
    rw [if_pos c3] at hF
    refine e_iload X dL_law__1074 rfl ?_
    refine e_if_ne X 1091 dL_law__1076 (by decide) (fun c4 => ?_) (fun c4 => ?_)
    · skip
      rw [if_neg c4] at hF
      refine e_goto X 2522 dL_law__1091 (by decide) ?_
      cases hF
      exact e_le hK (And.intro rfl (And.intro rfl (And.intro rfl (And.intro rfl (And.intro rfl trivial)))))
    · skip
      rw [if_pos c4] at hF
      refine e_aload_n X dL_law__1079 rfl rfl ?_
      refine e_iconst X 0 dL_law__1080 rfl ?_
      refine e_lald X dL_law__1081 ?_
      refine e_iload X dL_law__1082 rfl ?_
      refine e_i2l X dL_law__1084 ?_
      refine e_lcmpeq X 1091 dL_law__1085 dL_law__1086 (by decide) (fun c5 => ?_) (fun c5 => ?_)
      · skip
        rw [if_pos c5] at hF
        refine e_goto X 2522 dL_law__1091 (by decide) ?_
        cases hF
        exact e_le hK (And.intro rfl (And.intro rfl (And.intro rfl (And.intro rfl (And.intro rfl trivial)))))
      · skip
        rw [if_neg c5] at hF
        refine e_iconst X 0 dL_law__1089 rfl ?_
        cases hF
  · skip
    rw [if_neg c3] at hF
    refine e_iconst X 0 dL_law__1072 rfl ?_
    cases hF
set_option maxRecDepth 20000 in
set_option maxHeartbeats 4000000 in
theorem T_15 {b L : Nat} {xs : Nat → Int32} {i9 a1 a2 a3 a4 a5 : Int32} (X : Cx p l s m args meth c Γ D s0 RL cL_law_ 7) (hX : va_X b L xs s s.heap) (hbl : b < s.heap.size) (hbA : ¬ Γ.1 ≤ b) (hi1 : vp_in (i9 + 1) L) (hi2 : vp_in (i9 + 2) L) (hi3 : vp_in (i9 + 3) L) (hi4 : vp_in (i9 + 4) L) (hi5 : vp_in (i9 + 5) L) (ha1 : xs (i9 + 1).toNatClampNeg = a1) (ha2 : xs (i9 + 2).toNatClampNeg = a2) (ha3 : xs (i9 + 3).toNatClampNeg = a3) (ha4 : xs (i9 + 4).toNatClampNeg = a4) (ha5 : xs (i9 + 5).toNatClampNeg = a5) (hcc : cells + 8 ≤ room_1.cells) (hss : slots + 48 ≤ room_1.slots) (σ : Mem) {z : Mem} (hF : S_15 σ a1 a2 a3 a4 a5 = some z) (hK : E p l e room_1 s m args below meth c Γ D (cells + 8) (slots + 48) Q z 2522 [some (.ref b), some (.ref (Γ.1 + 0)), some (.ref (Γ.1 + 333)), some (.ref (Γ.1 + 346)), some (.int i9)] []) : E p l e room_1 s m args below meth c Γ D cells slots Q σ 1094 [some (.ref b), some (.ref (Γ.1 + 0)), some (.ref (Γ.1 + 333)), some (.ref (Γ.1 + 346)), some (.int i9), none, none] [] := by
  unfold S_15 at hF
  refine e_aload_n X dL_law__1094 rfl rfl ?_
  refine e_aload_n X dL_law__1095 rfl rfl ?_
  refine e_iload X dL_law__1096 rfl ?_
  refine e_iconst X 1 dL_law__1098 rfl ?_
  refine e_iadd X dL_law__1099 ?_
  refine e_sld X hX hbl hbA hi1 ha1 dL_law__1100 ?_
  refine e_aload_n X dL_law__1101 rfl rfl ?_
  refine e_iload X dL_law__1102 rfl ?_
  refine e_iconst X 2 dL_law__1104 rfl ?_
  refine e_iadd X dL_law__1105 ?_
  refine e_sld X hX hbl hbA hi2 ha2 dL_law__1106 ?_
  refine e_aload_n X dL_law__1107 rfl rfl ?_
  obtain ⟨z1, h_z1, hF⟩ := obind_out hF
  refine e_callSH X (r := z1.2) (σ1 := z1.1) [.ref (Γ.1 + 0), .int a1, .int a2, .ref (Γ.1 + 346)] [] (CH_would (Cx_gok X) σ a1 a2 h_z1) gsh_181 ykh_L_would rfl ⟨Nat.le_of_ble_eq_true rfl, Nat.le_of_ble_eq_true rfl⟩ ⟨by have h9 := hcc; dsimp only [room_1] at h9 ⊢; omega, by have h9 := hss; dsimp only [room_1] at h9 ⊢; omega⟩ (Nat.le_of_ble_eq_true rfl) dL_law__1108 rfl ?_
  refine e_widen (c2 := cells + 8) (s2 := slots + 48) (by omega) (by omega) ?_
  refine e_istore X rfl dL_law__1111 (by decide) ?_
  refine e_aload_n X dL_law__1113 rfl rfl ?_
  refine e_aload_n X dL_law__1114 rfl rfl ?_
  refine e_iload X dL_law__1115 rfl ?_
  refine e_iconst X 1 dL_law__1117 rfl ?_
  refine e_iadd X dL_law__1118 ?_
  refine e_sld X hX hbl hbA hi1 ha1 dL_law__1119 ?_
  refine e_aload_n X dL_law__1120 rfl rfl ?_
  refine e_iload X dL_law__1121 rfl ?_
  refine e_iconst X 2 dL_law__1123 rfl ?_
  refine e_iadd X dL_law__1124 ?_
  refine e_sld X hX hbl hbA hi2 ha2 dL_law__1125 ?_
  obtain ⟨z2, h_z2, hF⟩ := obind_out hF
  refine e_callVi X (r := z2.2) (σ1 := z2.1) [.int a1, .int a2] [] (C_M_would (Cx_gok X) z1.1 a1 a2 h_z2) gv_L_183 yk_X12_would rfl (ent_lt (rfl : entTbl[333]? = some (13, 0))) (ent_at (rfl : entTbl[333]? = some (13, 0)) _) (rfl : vCl[11]? = some (RX12, TX12, 24)) ⟨Nat.le_of_ble_eq_true rfl, Nat.le_of_ble_eq_true rfl⟩ ⟨by have h9 := hcc; dsimp only [room_1] at h9 ⊢; omega, by have h9 := hss; dsimp only [room_1] at h9 ⊢; omega⟩ (Nat.le_of_ble_eq_true rfl) dL_law__1126 rfl ?_
  refine e_istore X rfl dL_law__1129 (by decide) ?_
  refine e_aload_n X dL_law__1131 rfl rfl ?_
  refine e_callVi X (r := (F_M_thrown z2.1)) (σ1 := z2.1) [] [] (C_M_thrown (Cx_gok X) z2.1) gv_L_139 yk_X12_thrown rfl (ent_lt (rfl : entTbl[333]? = some (13, 0))) (ent_at (rfl : entTbl[333]? = some (13, 0)) _) (rfl : vCl[11]? = some (RX12, TX12, 24)) ⟨Nat.le_of_ble_eq_true rfl, Nat.le_of_ble_eq_true rfl⟩ ⟨by have h9 := hcc; dsimp only [room_1] at h9 ⊢; omega, by have h9 := hss; dsimp only [room_1] at h9 ⊢; omega⟩ (Nat.le_of_ble_eq_true rfl) dL_law__1132 rfl ?_
  refine e_iload X dL_law__1135 rfl ?_
  refine e_icmp_eq X 1142 dL_law__1137 (by decide) (fun c3 => ?_) (fun c3 => ?_)
  · skip
    rw [if_pos c3] at hF
    refine e_iload X dL_law__1142 rfl ?_
    refine e_if_ne X 1159 dL_law__1144 (by decide) (fun c4 => ?_) (fun c4 => ?_)
    · skip
      rw [if_neg c4] at hF
      refine e_goto X 2522 dL_law__1159 (by decide) ?_
      cases hF
      exact e_le hK (And.intro rfl (And.intro rfl (And.intro rfl (And.intro rfl (And.intro rfl trivial)))))
    · skip
      rw [if_pos c4] at hF
      refine e_aload_n X dL_law__1147 rfl rfl ?_
      refine e_iconst X 0 dL_law__1148 rfl ?_
      refine e_lald X dL_law__1149 ?_
      refine e_iload X dL_law__1150 rfl ?_
      refine e_i2l X dL_law__1152 ?_
      refine e_lcmpeq X 1159 dL_law__1153 dL_law__1154 (by decide) (fun c5 => ?_) (fun c5 => ?_)
      · skip
        rw [if_pos c5] at hF
        refine e_goto X 2522 dL_law__1159 (by decide) ?_
        cases hF
        exact e_le hK (And.intro rfl (And.intro rfl (And.intro rfl (And.intro rfl (And.intro rfl trivial)))))
      · skip
        rw [if_neg c5] at hF
        refine e_iconst X 0 dL_law__1157 rfl ?_
        cases hF
  · skip
    rw [if_neg c3] at hF
    refine e_iconst X 0 dL_law__1140 rfl ?_
    cases hF
set_option maxRecDepth 20000 in
set_option maxHeartbeats 4000000 in
theorem T_16 {b L : Nat} {xs : Nat → Int32} {i9 a1 a2 a3 a4 a5 : Int32} (X : Cx p l s m args meth c Γ D s0 RL cL_law_ 7) (hX : va_X b L xs s s.heap) (hbl : b < s.heap.size) (hbA : ¬ Γ.1 ≤ b) (hi1 : vp_in (i9 + 1) L) (hi2 : vp_in (i9 + 2) L) (hi3 : vp_in (i9 + 3) L) (hi4 : vp_in (i9 + 4) L) (hi5 : vp_in (i9 + 5) L) (ha1 : xs (i9 + 1).toNatClampNeg = a1) (ha2 : xs (i9 + 2).toNatClampNeg = a2) (ha3 : xs (i9 + 3).toNatClampNeg = a3) (ha4 : xs (i9 + 4).toNatClampNeg = a4) (ha5 : xs (i9 + 5).toNatClampNeg = a5) (hcc : cells + 8 ≤ room_1.cells) (hss : slots + 48 ≤ room_1.slots) (σ : Mem) {z : Mem} (hF : S_16 σ a1 a2 a3 a4 a5 = some z) (hK : E p l e room_1 s m args below meth c Γ D (cells + 8) (slots + 48) Q z 2522 [some (.ref b), some (.ref (Γ.1 + 0)), some (.ref (Γ.1 + 333)), some (.ref (Γ.1 + 346)), some (.int i9)] []) : E p l e room_1 s m args below meth c Γ D cells slots Q σ 1162 [some (.ref b), some (.ref (Γ.1 + 0)), some (.ref (Γ.1 + 333)), some (.ref (Γ.1 + 346)), some (.int i9), none, none] [] := by
  unfold S_16 at hF
  refine e_aload_n X dL_law__1162 rfl rfl ?_
  refine e_aload_n X dL_law__1163 rfl rfl ?_
  refine e_iload X dL_law__1164 rfl ?_
  refine e_iconst X 1 dL_law__1166 rfl ?_
  refine e_iadd X dL_law__1167 ?_
  refine e_sld X hX hbl hbA hi1 ha1 dL_law__1168 ?_
  refine e_aload_n X dL_law__1169 rfl rfl ?_
  obtain ⟨z1, h_z1, hF⟩ := obind_out hF
  refine e_callSH X (r := z1.2) (σ1 := z1.1) [.ref (Γ.1 + 0), .int a1, .ref (Γ.1 + 346)] [] (CH_best (Cx_gok X) σ a1 h_z1) gsh_184 ykh_L_best rfl ⟨Nat.le_of_ble_eq_true rfl, Nat.le_of_ble_eq_true rfl⟩ ⟨by have h9 := hcc; dsimp only [room_1] at h9 ⊢; omega, by have h9 := hss; dsimp only [room_1] at h9 ⊢; omega⟩ (Nat.le_of_ble_eq_true rfl) dL_law__1170 rfl ?_
  refine e_widen (c2 := cells + 8) (s2 := slots + 48) (by omega) (by omega) ?_
  refine e_istore X rfl dL_law__1173 (by decide) ?_
  refine e_aload_n X dL_law__1175 rfl rfl ?_
  refine e_aload_n X dL_law__1176 rfl rfl ?_
  refine e_iload X dL_law__1177 rfl ?_
  refine e_iconst X 1 dL_law__1179 rfl ?_
  refine e_iadd X dL_law__1180 ?_
  refine e_sld X hX hbl hbA hi1 ha1 dL_law__1181 ?_
  obtain ⟨z2, h_z2, hF⟩ := obind_out hF
  refine e_callVi X (r := z2.2) (σ1 := z2.1) [.int a1] [] (C_M_best (Cx_gok X) z1.1 a1 h_z2) gv_L_186 yk_X12_best rfl (ent_lt (rfl : entTbl[333]? = some (13, 0))) (ent_at (rfl : entTbl[333]? = some (13, 0)) _) (rfl : vCl[11]? = some (RX12, TX12, 24)) ⟨Nat.le_of_ble_eq_true rfl, Nat.le_of_ble_eq_true rfl⟩ ⟨by have h9 := hcc; dsimp only [room_1] at h9 ⊢; omega, by have h9 := hss; dsimp only [room_1] at h9 ⊢; omega⟩ (Nat.le_of_ble_eq_true rfl) dL_law__1182 rfl ?_
  refine e_istore X rfl dL_law__1185 (by decide) ?_
  refine e_aload_n X dL_law__1187 rfl rfl ?_
  refine e_callVi X (r := (F_M_thrown z2.1)) (σ1 := z2.1) [] [] (C_M_thrown (Cx_gok X) z2.1) gv_L_139 yk_X12_thrown rfl (ent_lt (rfl : entTbl[333]? = some (13, 0))) (ent_at (rfl : entTbl[333]? = some (13, 0)) _) (rfl : vCl[11]? = some (RX12, TX12, 24)) ⟨Nat.le_of_ble_eq_true rfl, Nat.le_of_ble_eq_true rfl⟩ ⟨by have h9 := hcc; dsimp only [room_1] at h9 ⊢; omega, by have h9 := hss; dsimp only [room_1] at h9 ⊢; omega⟩ (Nat.le_of_ble_eq_true rfl) dL_law__1188 rfl ?_
  refine e_iload X dL_law__1191 rfl ?_
  refine e_icmp_eq X 1198 dL_law__1193 (by decide) (fun c3 => ?_) (fun c3 => ?_)
  · skip
    rw [if_pos c3] at hF
    refine e_iload X dL_law__1198 rfl ?_
    refine e_if_ne X 1215 dL_law__1200 (by decide) (fun c4 => ?_) (fun c4 => ?_)
    · skip
      rw [if_neg c4] at hF
      refine e_goto X 2522 dL_law__1215 (by decide) ?_
      cases hF
      exact e_le hK (And.intro rfl (And.intro rfl (And.intro rfl (And.intro rfl (And.intro rfl trivial)))))
    · skip
      rw [if_pos c4] at hF
      refine e_aload_n X dL_law__1203 rfl rfl ?_
      refine e_iconst X 0 dL_law__1204 rfl ?_
      refine e_lald X dL_law__1205 ?_
      refine e_iload X dL_law__1206 rfl ?_
      refine e_i2l X dL_law__1208 ?_
      refine e_lcmpeq X 1215 dL_law__1209 dL_law__1210 (by decide) (fun c5 => ?_) (fun c5 => ?_)
      · skip
        rw [if_pos c5] at hF
        refine e_goto X 2522 dL_law__1215 (by decide) ?_
        cases hF
        exact e_le hK (And.intro rfl (And.intro rfl (And.intro rfl (And.intro rfl (And.intro rfl trivial)))))
      · skip
        rw [if_neg c5] at hF
        refine e_iconst X 0 dL_law__1213 rfl ?_
        cases hF
  · skip
    rw [if_neg c3] at hF
    refine e_iconst X 0 dL_law__1196 rfl ?_
    cases hF
set_option maxRecDepth 20000 in
set_option maxHeartbeats 4000000 in
theorem T_17 {b L : Nat} {xs : Nat → Int32} {i9 a1 a2 a3 a4 a5 : Int32} (X : Cx p l s m args meth c Γ D s0 RL cL_law_ 7) (hX : va_X b L xs s s.heap) (hbl : b < s.heap.size) (hbA : ¬ Γ.1 ≤ b) (hi1 : vp_in (i9 + 1) L) (hi2 : vp_in (i9 + 2) L) (hi3 : vp_in (i9 + 3) L) (hi4 : vp_in (i9 + 4) L) (hi5 : vp_in (i9 + 5) L) (ha1 : xs (i9 + 1).toNatClampNeg = a1) (ha2 : xs (i9 + 2).toNatClampNeg = a2) (ha3 : xs (i9 + 3).toNatClampNeg = a3) (ha4 : xs (i9 + 4).toNatClampNeg = a4) (ha5 : xs (i9 + 5).toNatClampNeg = a5) (hcc : cells + 8 ≤ room_1.cells) (hss : slots + 48 ≤ room_1.slots) (σ : Mem) {z : Mem} (hF : S_17 σ a1 a2 a3 a4 a5 = some z) (hK : E p l e room_1 s m args below meth c Γ D (cells + 8) (slots + 48) Q z 2522 [some (.ref b), some (.ref (Γ.1 + 0)), some (.ref (Γ.1 + 333)), some (.ref (Γ.1 + 346)), some (.int i9)] []) : E p l e room_1 s m args below meth c Γ D cells slots Q σ 1218 [some (.ref b), some (.ref (Γ.1 + 0)), some (.ref (Γ.1 + 333)), some (.ref (Γ.1 + 346)), some (.int i9), none, none] [] := by
  unfold S_17 at hF
  refine e_aload_n X dL_law__1218 rfl rfl ?_
  refine e_aload_n X dL_law__1219 rfl rfl ?_
  refine e_iload X dL_law__1220 rfl ?_
  refine e_iconst X 1 dL_law__1222 rfl ?_
  refine e_iadd X dL_law__1223 ?_
  refine e_sld X hX hbl hbA hi1 ha1 dL_law__1224 ?_
  refine e_aload_n X dL_law__1225 rfl rfl ?_
  refine e_iload X dL_law__1226 rfl ?_
  refine e_iconst X 2 dL_law__1228 rfl ?_
  refine e_iadd X dL_law__1229 ?_
  refine e_sld X hX hbl hbA hi2 ha2 dL_law__1230 ?_
  refine e_aload_n X dL_law__1231 rfl rfl ?_
  obtain ⟨z1, h_z1, hF⟩ := obind_out hF
  refine e_callSH X (r := z1.2) (σ1 := z1.1) [.ref (Γ.1 + 0), .int a1, .int a2, .ref (Γ.1 + 346)] [] (CH_next (Cx_gok X) σ a1 a2 h_z1) gsh_187 ykh_L_next rfl ⟨Nat.le_of_ble_eq_true rfl, Nat.le_of_ble_eq_true rfl⟩ ⟨by have h9 := hcc; dsimp only [room_1] at h9 ⊢; omega, by have h9 := hss; dsimp only [room_1] at h9 ⊢; omega⟩ (Nat.le_of_ble_eq_true rfl) dL_law__1232 rfl ?_
  refine e_widen (c2 := cells + 8) (s2 := slots + 48) (by omega) (by omega) ?_
  refine e_istore X rfl dL_law__1235 (by decide) ?_
  refine e_aload_n X dL_law__1237 rfl rfl ?_
  refine e_aload_n X dL_law__1238 rfl rfl ?_
  refine e_iload X dL_law__1239 rfl ?_
  refine e_iconst X 1 dL_law__1241 rfl ?_
  refine e_iadd X dL_law__1242 ?_
  refine e_sld X hX hbl hbA hi1 ha1 dL_law__1243 ?_
  refine e_aload_n X dL_law__1244 rfl rfl ?_
  refine e_iload X dL_law__1245 rfl ?_
  refine e_iconst X 2 dL_law__1247 rfl ?_
  refine e_iadd X dL_law__1248 ?_
  refine e_sld X hX hbl hbA hi2 ha2 dL_law__1249 ?_
  obtain ⟨z2, h_z2, hF⟩ := obind_out hF
  refine e_callVi X (r := z2.2) (σ1 := z2.1) [.int a1, .int a2] [] (C_M_next (Cx_gok X) z1.1 a1 a2 h_z2) gv_L_189 yk_X12_next rfl (ent_lt (rfl : entTbl[333]? = some (13, 0))) (ent_at (rfl : entTbl[333]? = some (13, 0)) _) (rfl : vCl[11]? = some (RX12, TX12, 24)) ⟨Nat.le_of_ble_eq_true rfl, Nat.le_of_ble_eq_true rfl⟩ ⟨by have h9 := hcc; dsimp only [room_1] at h9 ⊢; omega, by have h9 := hss; dsimp only [room_1] at h9 ⊢; omega⟩ (Nat.le_of_ble_eq_true rfl) dL_law__1250 rfl ?_
  refine e_istore X rfl dL_law__1253 (by decide) ?_
  refine e_aload_n X dL_law__1255 rfl rfl ?_
  refine e_callVi X (r := (F_M_thrown z2.1)) (σ1 := z2.1) [] [] (C_M_thrown (Cx_gok X) z2.1) gv_L_139 yk_X12_thrown rfl (ent_lt (rfl : entTbl[333]? = some (13, 0))) (ent_at (rfl : entTbl[333]? = some (13, 0)) _) (rfl : vCl[11]? = some (RX12, TX12, 24)) ⟨Nat.le_of_ble_eq_true rfl, Nat.le_of_ble_eq_true rfl⟩ ⟨by have h9 := hcc; dsimp only [room_1] at h9 ⊢; omega, by have h9 := hss; dsimp only [room_1] at h9 ⊢; omega⟩ (Nat.le_of_ble_eq_true rfl) dL_law__1256 rfl ?_
  refine e_iload X dL_law__1259 rfl ?_
  refine e_icmp_eq X 1266 dL_law__1261 (by decide) (fun c3 => ?_) (fun c3 => ?_)
  · skip
    rw [if_pos c3] at hF
    refine e_iload X dL_law__1266 rfl ?_
    refine e_if_ne X 1283 dL_law__1268 (by decide) (fun c4 => ?_) (fun c4 => ?_)
    · skip
      rw [if_neg c4] at hF
      refine e_goto X 2522 dL_law__1283 (by decide) ?_
      cases hF
      exact e_le hK (And.intro rfl (And.intro rfl (And.intro rfl (And.intro rfl (And.intro rfl trivial)))))
    · skip
      rw [if_pos c4] at hF
      refine e_aload_n X dL_law__1271 rfl rfl ?_
      refine e_iconst X 0 dL_law__1272 rfl ?_
      refine e_lald X dL_law__1273 ?_
      refine e_iload X dL_law__1274 rfl ?_
      refine e_i2l X dL_law__1276 ?_
      refine e_lcmpeq X 1283 dL_law__1277 dL_law__1278 (by decide) (fun c5 => ?_) (fun c5 => ?_)
      · skip
        rw [if_pos c5] at hF
        refine e_goto X 2522 dL_law__1283 (by decide) ?_
        cases hF
        exact e_le hK (And.intro rfl (And.intro rfl (And.intro rfl (And.intro rfl (And.intro rfl trivial)))))
      · skip
        rw [if_neg c5] at hF
        refine e_iconst X 0 dL_law__1281 rfl ?_
        cases hF
  · skip
    rw [if_neg c3] at hF
    refine e_iconst X 0 dL_law__1264 rfl ?_
    cases hF
set_option maxRecDepth 20000 in
set_option maxHeartbeats 4000000 in
theorem T_18 {b L : Nat} {xs : Nat → Int32} {i9 a1 a2 a3 a4 a5 : Int32} (X : Cx p l s m args meth c Γ D s0 RL cL_law_ 7) (hX : va_X b L xs s s.heap) (hbl : b < s.heap.size) (hbA : ¬ Γ.1 ≤ b) (hi1 : vp_in (i9 + 1) L) (hi2 : vp_in (i9 + 2) L) (hi3 : vp_in (i9 + 3) L) (hi4 : vp_in (i9 + 4) L) (hi5 : vp_in (i9 + 5) L) (ha1 : xs (i9 + 1).toNatClampNeg = a1) (ha2 : xs (i9 + 2).toNatClampNeg = a2) (ha3 : xs (i9 + 3).toNatClampNeg = a3) (ha4 : xs (i9 + 4).toNatClampNeg = a4) (ha5 : xs (i9 + 5).toNatClampNeg = a5) (hcc : cells + 8 ≤ room_1.cells) (hss : slots + 48 ≤ room_1.slots) (σ : Mem) {z : Mem} (hF : S_18 σ a1 a2 a3 a4 a5 = some z) (hK : E p l e room_1 s m args below meth c Γ D (cells + 8) (slots + 48) Q z 2522 [some (.ref b), some (.ref (Γ.1 + 0)), some (.ref (Γ.1 + 333)), some (.ref (Γ.1 + 346)), some (.int i9)] []) : E p l e room_1 s m args below meth c Γ D cells slots Q σ 1286 [some (.ref b), some (.ref (Γ.1 + 0)), some (.ref (Γ.1 + 333)), some (.ref (Γ.1 + 346)), some (.int i9), none, none] [] := by
  unfold S_18 at hF
  refine e_aload_n X dL_law__1286 rfl rfl ?_
  refine e_aload_n X dL_law__1287 rfl rfl ?_
  refine e_iload X dL_law__1288 rfl ?_
  refine e_iconst X 1 dL_law__1290 rfl ?_
  refine e_iadd X dL_law__1291 ?_
  refine e_sld X hX hbl hbA hi1 ha1 dL_law__1292 ?_
  refine e_aload_n X dL_law__1293 rfl rfl ?_
  refine e_iload X dL_law__1294 rfl ?_
  refine e_iconst X 2 dL_law__1296 rfl ?_
  refine e_iadd X dL_law__1297 ?_
  refine e_sld X hX hbl hbA hi2 ha2 dL_law__1298 ?_
  refine e_aload_n X dL_law__1299 rfl rfl ?_
  refine e_iload X dL_law__1300 rfl ?_
  refine e_iconst X 3 dL_law__1302 rfl ?_
  refine e_iadd X dL_law__1303 ?_
  refine e_sld X hX hbl hbA hi3 ha3 dL_law__1304 ?_
  refine e_aload_n X dL_law__1305 rfl rfl ?_
  obtain ⟨z1, h_z1, hF⟩ := obind_out hF
  refine e_callSH X (r := z1.2) (σ1 := z1.1) [.ref (Γ.1 + 0), .int a1, .int a2, .int a3, .ref (Γ.1 + 346)] [] (CH_ahead (Cx_gok X) σ a1 a2 a3 h_z1) gsh_190 ykh_L_ahead rfl ⟨Nat.le_of_ble_eq_true rfl, Nat.le_of_ble_eq_true rfl⟩ ⟨by have h9 := hcc; dsimp only [room_1] at h9 ⊢; omega, by have h9 := hss; dsimp only [room_1] at h9 ⊢; omega⟩ (Nat.le_of_ble_eq_true rfl) dL_law__1306 rfl ?_
  refine e_widen (c2 := cells + 8) (s2 := slots + 48) (by omega) (by omega) ?_
  refine e_istore X rfl dL_law__1309 (by decide) ?_
  refine e_aload_n X dL_law__1311 rfl rfl ?_
  refine e_aload_n X dL_law__1312 rfl rfl ?_
  refine e_iload X dL_law__1313 rfl ?_
  refine e_iconst X 1 dL_law__1315 rfl ?_
  refine e_iadd X dL_law__1316 ?_
  refine e_sld X hX hbl hbA hi1 ha1 dL_law__1317 ?_
  refine e_aload_n X dL_law__1318 rfl rfl ?_
  refine e_iload X dL_law__1319 rfl ?_
  refine e_iconst X 2 dL_law__1321 rfl ?_
  refine e_iadd X dL_law__1322 ?_
  refine e_sld X hX hbl hbA hi2 ha2 dL_law__1323 ?_
  refine e_aload_n X dL_law__1324 rfl rfl ?_
  refine e_iload X dL_law__1325 rfl ?_
  refine e_iconst X 3 dL_law__1327 rfl ?_
  refine e_iadd X dL_law__1328 ?_
  refine e_sld X hX hbl hbA hi3 ha3 dL_law__1329 ?_
  obtain ⟨z2, h_z2, hF⟩ := obind_out hF
  refine e_callVi X (r := z2.2) (σ1 := z2.1) [.int a1, .int a2, .int a3] [] (C_M_ahead (Cx_gok X) z1.1 a1 a2 a3 h_z2) gv_L_193 yk_X12_ahead rfl (ent_lt (rfl : entTbl[333]? = some (13, 0))) (ent_at (rfl : entTbl[333]? = some (13, 0)) _) (rfl : vCl[11]? = some (RX12, TX12, 24)) ⟨Nat.le_of_ble_eq_true rfl, Nat.le_of_ble_eq_true rfl⟩ ⟨by have h9 := hcc; dsimp only [room_1] at h9 ⊢; omega, by have h9 := hss; dsimp only [room_1] at h9 ⊢; omega⟩ (Nat.le_of_ble_eq_true rfl) dL_law__1330 rfl ?_
  refine e_istore X rfl dL_law__1333 (by decide) ?_
  refine e_aload_n X dL_law__1335 rfl rfl ?_
  refine e_callVi X (r := (F_M_thrown z2.1)) (σ1 := z2.1) [] [] (C_M_thrown (Cx_gok X) z2.1) gv_L_139 yk_X12_thrown rfl (ent_lt (rfl : entTbl[333]? = some (13, 0))) (ent_at (rfl : entTbl[333]? = some (13, 0)) _) (rfl : vCl[11]? = some (RX12, TX12, 24)) ⟨Nat.le_of_ble_eq_true rfl, Nat.le_of_ble_eq_true rfl⟩ ⟨by have h9 := hcc; dsimp only [room_1] at h9 ⊢; omega, by have h9 := hss; dsimp only [room_1] at h9 ⊢; omega⟩ (Nat.le_of_ble_eq_true rfl) dL_law__1336 rfl ?_
  refine e_iload X dL_law__1339 rfl ?_
  refine e_icmp_eq X 1346 dL_law__1341 (by decide) (fun c3 => ?_) (fun c3 => ?_)
  · skip
    rw [if_pos c3] at hF
    refine e_iload X dL_law__1346 rfl ?_
    refine e_if_ne X 1363 dL_law__1348 (by decide) (fun c4 => ?_) (fun c4 => ?_)
    · skip
      rw [if_neg c4] at hF
      refine e_goto X 2522 dL_law__1363 (by decide) ?_
      cases hF
      exact e_le hK (And.intro rfl (And.intro rfl (And.intro rfl (And.intro rfl (And.intro rfl trivial)))))
    · skip
      rw [if_pos c4] at hF
      refine e_aload_n X dL_law__1351 rfl rfl ?_
      refine e_iconst X 0 dL_law__1352 rfl ?_
      refine e_lald X dL_law__1353 ?_
      refine e_iload X dL_law__1354 rfl ?_
      refine e_i2l X dL_law__1356 ?_
      refine e_lcmpeq X 1363 dL_law__1357 dL_law__1358 (by decide) (fun c5 => ?_) (fun c5 => ?_)
      · skip
        rw [if_pos c5] at hF
        refine e_goto X 2522 dL_law__1363 (by decide) ?_
        cases hF
        exact e_le hK (And.intro rfl (And.intro rfl (And.intro rfl (And.intro rfl (And.intro rfl trivial)))))
      · skip
        rw [if_neg c5] at hF
        refine e_iconst X 0 dL_law__1361 rfl ?_
        cases hF
  · skip
    rw [if_neg c3] at hF
    refine e_iconst X 0 dL_law__1344 rfl ?_
    cases hF
set_option maxRecDepth 20000 in
set_option maxHeartbeats 4000000 in
theorem T_19 {b L : Nat} {xs : Nat → Int32} {i9 a1 a2 a3 a4 a5 : Int32} (X : Cx p l s m args meth c Γ D s0 RL cL_law_ 7) (hX : va_X b L xs s s.heap) (hbl : b < s.heap.size) (hbA : ¬ Γ.1 ≤ b) (hi1 : vp_in (i9 + 1) L) (hi2 : vp_in (i9 + 2) L) (hi3 : vp_in (i9 + 3) L) (hi4 : vp_in (i9 + 4) L) (hi5 : vp_in (i9 + 5) L) (ha1 : xs (i9 + 1).toNatClampNeg = a1) (ha2 : xs (i9 + 2).toNatClampNeg = a2) (ha3 : xs (i9 + 3).toNatClampNeg = a3) (ha4 : xs (i9 + 4).toNatClampNeg = a4) (ha5 : xs (i9 + 5).toNatClampNeg = a5) (hcc : cells + 8 ≤ room_1.cells) (hss : slots + 48 ≤ room_1.slots) (σ : Mem) {z : Mem} (hF : S_19 σ a1 a2 a3 a4 a5 = some z) (hK : E p l e room_1 s m args below meth c Γ D (cells + 8) (slots + 48) Q z 2522 [some (.ref b), some (.ref (Γ.1 + 0)), some (.ref (Γ.1 + 333)), some (.ref (Γ.1 + 346)), some (.int i9)] []) : E p l e room_1 s m args below meth c Γ D cells slots Q σ 1366 [some (.ref b), some (.ref (Γ.1 + 0)), some (.ref (Γ.1 + 333)), some (.ref (Γ.1 + 346)), some (.int i9), none, none] [] := by
  unfold S_19 at hF
  refine e_aload_n X dL_law__1366 rfl rfl ?_
  refine e_aload_n X dL_law__1367 rfl rfl ?_
  refine e_iload X dL_law__1368 rfl ?_
  refine e_iconst X 1 dL_law__1370 rfl ?_
  refine e_iadd X dL_law__1371 ?_
  refine e_sld X hX hbl hbA hi1 ha1 dL_law__1372 ?_
  refine e_aload_n X dL_law__1373 rfl rfl ?_
  refine e_iload X dL_law__1374 rfl ?_
  refine e_iconst X 2 dL_law__1376 rfl ?_
  refine e_iadd X dL_law__1377 ?_
  refine e_sld X hX hbl hbA hi2 ha2 dL_law__1378 ?_
  refine e_aload_n X dL_law__1379 rfl rfl ?_
  obtain ⟨z1, h_z1, hF⟩ := obind_out hF
  refine e_callSH X (r := z1.2) (σ1 := z1.1) [.ref (Γ.1 + 0), .int a1, .int a2, .ref (Γ.1 + 346)] [] (CH_first (Cx_gok X) σ a1 a2 h_z1) gsh_194 ykh_L_first rfl ⟨Nat.le_of_ble_eq_true rfl, Nat.le_of_ble_eq_true rfl⟩ ⟨by have h9 := hcc; dsimp only [room_1] at h9 ⊢; omega, by have h9 := hss; dsimp only [room_1] at h9 ⊢; omega⟩ (Nat.le_of_ble_eq_true rfl) dL_law__1380 rfl ?_
  refine e_widen (c2 := cells + 8) (s2 := slots + 48) (by omega) (by omega) ?_
  refine e_istore X rfl dL_law__1383 (by decide) ?_
  refine e_aload_n X dL_law__1385 rfl rfl ?_
  refine e_aload_n X dL_law__1386 rfl rfl ?_
  refine e_iload X dL_law__1387 rfl ?_
  refine e_iconst X 1 dL_law__1389 rfl ?_
  refine e_iadd X dL_law__1390 ?_
  refine e_sld X hX hbl hbA hi1 ha1 dL_law__1391 ?_
  refine e_aload_n X dL_law__1392 rfl rfl ?_
  refine e_iload X dL_law__1393 rfl ?_
  refine e_iconst X 2 dL_law__1395 rfl ?_
  refine e_iadd X dL_law__1396 ?_
  refine e_sld X hX hbl hbA hi2 ha2 dL_law__1397 ?_
  obtain ⟨z2, h_z2, hF⟩ := obind_out hF
  refine e_callVi X (r := z2.2) (σ1 := z2.1) [.int a1, .int a2] [] (C_M_first (Cx_gok X) z1.1 a1 a2 h_z2) gv_L_196 yk_X12_first rfl (ent_lt (rfl : entTbl[333]? = some (13, 0))) (ent_at (rfl : entTbl[333]? = some (13, 0)) _) (rfl : vCl[11]? = some (RX12, TX12, 24)) ⟨Nat.le_of_ble_eq_true rfl, Nat.le_of_ble_eq_true rfl⟩ ⟨by have h9 := hcc; dsimp only [room_1] at h9 ⊢; omega, by have h9 := hss; dsimp only [room_1] at h9 ⊢; omega⟩ (Nat.le_of_ble_eq_true rfl) dL_law__1398 rfl ?_
  refine e_istore X rfl dL_law__1401 (by decide) ?_
  refine e_aload_n X dL_law__1403 rfl rfl ?_
  refine e_callVi X (r := (F_M_thrown z2.1)) (σ1 := z2.1) [] [] (C_M_thrown (Cx_gok X) z2.1) gv_L_139 yk_X12_thrown rfl (ent_lt (rfl : entTbl[333]? = some (13, 0))) (ent_at (rfl : entTbl[333]? = some (13, 0)) _) (rfl : vCl[11]? = some (RX12, TX12, 24)) ⟨Nat.le_of_ble_eq_true rfl, Nat.le_of_ble_eq_true rfl⟩ ⟨by have h9 := hcc; dsimp only [room_1] at h9 ⊢; omega, by have h9 := hss; dsimp only [room_1] at h9 ⊢; omega⟩ (Nat.le_of_ble_eq_true rfl) dL_law__1404 rfl ?_
  refine e_iload X dL_law__1407 rfl ?_
  refine e_icmp_eq X 1414 dL_law__1409 (by decide) (fun c3 => ?_) (fun c3 => ?_)
  · skip
    rw [if_pos c3] at hF
    refine e_iload X dL_law__1414 rfl ?_
    refine e_if_ne X 1431 dL_law__1416 (by decide) (fun c4 => ?_) (fun c4 => ?_)
    · skip
      rw [if_neg c4] at hF
      refine e_goto X 2522 dL_law__1431 (by decide) ?_
      cases hF
      exact e_le hK (And.intro rfl (And.intro rfl (And.intro rfl (And.intro rfl (And.intro rfl trivial)))))
    · skip
      rw [if_pos c4] at hF
      refine e_aload_n X dL_law__1419 rfl rfl ?_
      refine e_iconst X 0 dL_law__1420 rfl ?_
      refine e_lald X dL_law__1421 ?_
      refine e_iload X dL_law__1422 rfl ?_
      refine e_i2l X dL_law__1424 ?_
      refine e_lcmpeq X 1431 dL_law__1425 dL_law__1426 (by decide) (fun c5 => ?_) (fun c5 => ?_)
      · skip
        rw [if_pos c5] at hF
        refine e_goto X 2522 dL_law__1431 (by decide) ?_
        cases hF
        exact e_le hK (And.intro rfl (And.intro rfl (And.intro rfl (And.intro rfl (And.intro rfl trivial)))))
      · skip
        rw [if_neg c5] at hF
        refine e_iconst X 0 dL_law__1429 rfl ?_
        cases hF
  · skip
    rw [if_neg c3] at hF
    refine e_iconst X 0 dL_law__1412 rfl ?_
    cases hF
set_option maxRecDepth 20000 in
set_option maxHeartbeats 4000000 in
theorem T_20 {b L : Nat} {xs : Nat → Int32} {i9 a1 a2 a3 a4 a5 : Int32} (X : Cx p l s m args meth c Γ D s0 RL cL_law_ 7) (hX : va_X b L xs s s.heap) (hbl : b < s.heap.size) (hbA : ¬ Γ.1 ≤ b) (hi1 : vp_in (i9 + 1) L) (hi2 : vp_in (i9 + 2) L) (hi3 : vp_in (i9 + 3) L) (hi4 : vp_in (i9 + 4) L) (hi5 : vp_in (i9 + 5) L) (ha1 : xs (i9 + 1).toNatClampNeg = a1) (ha2 : xs (i9 + 2).toNatClampNeg = a2) (ha3 : xs (i9 + 3).toNatClampNeg = a3) (ha4 : xs (i9 + 4).toNatClampNeg = a4) (ha5 : xs (i9 + 5).toNatClampNeg = a5) (hcc : cells + 8 ≤ room_1.cells) (hss : slots + 48 ≤ room_1.slots) (σ : Mem) {z : Mem} (hF : S_20 σ a1 a2 a3 a4 a5 = some z) (hK : E p l e room_1 s m args below meth c Γ D (cells + 8) (slots + 48) Q z 2522 [some (.ref b), some (.ref (Γ.1 + 0)), some (.ref (Γ.1 + 333)), some (.ref (Γ.1 + 346)), some (.int i9)] []) : E p l e room_1 s m args below meth c Γ D cells slots Q σ 1434 [some (.ref b), some (.ref (Γ.1 + 0)), some (.ref (Γ.1 + 333)), some (.ref (Γ.1 + 346)), some (.int i9), none, none] [] := by
  unfold S_20 at hF
  refine e_aload_n X dL_law__1434 rfl rfl ?_
  refine e_aload_n X dL_law__1435 rfl rfl ?_
  refine e_iload X dL_law__1436 rfl ?_
  refine e_iconst X 1 dL_law__1438 rfl ?_
  refine e_iadd X dL_law__1439 ?_
  refine e_sld X hX hbl hbA hi1 ha1 dL_law__1440 ?_
  refine e_aload_n X dL_law__1441 rfl rfl ?_
  obtain ⟨z1, h_z1, hF⟩ := obind_out hF
  refine e_callSH X (r := z1.2) (σ1 := z1.1) [.ref (Γ.1 + 0), .int a1, .ref (Γ.1 + 346)] [] (CH_odds (Cx_gok X) σ a1 h_z1) gsh_197 ykh_L_odds rfl ⟨Nat.le_of_ble_eq_true rfl, Nat.le_of_ble_eq_true rfl⟩ ⟨by have h9 := hcc; dsimp only [room_1] at h9 ⊢; omega, by have h9 := hss; dsimp only [room_1] at h9 ⊢; omega⟩ (Nat.le_of_ble_eq_true rfl) dL_law__1442 rfl ?_
  refine e_widen (c2 := cells + 8) (s2 := slots + 48) (by omega) (by omega) ?_
  refine e_istore X rfl dL_law__1445 (by decide) ?_
  refine e_aload_n X dL_law__1447 rfl rfl ?_
  refine e_aload_n X dL_law__1448 rfl rfl ?_
  refine e_iload X dL_law__1449 rfl ?_
  refine e_iconst X 1 dL_law__1451 rfl ?_
  refine e_iadd X dL_law__1452 ?_
  refine e_sld X hX hbl hbA hi1 ha1 dL_law__1453 ?_
  obtain ⟨z2, h_z2, hF⟩ := obind_out hF
  refine e_callVi X (r := z2.2) (σ1 := z2.1) [.int a1] [] (C_M_odds (Cx_gok X) z1.1 a1 h_z2) gv_L_199 yk_X12_odds rfl (ent_lt (rfl : entTbl[333]? = some (13, 0))) (ent_at (rfl : entTbl[333]? = some (13, 0)) _) (rfl : vCl[11]? = some (RX12, TX12, 24)) ⟨Nat.le_of_ble_eq_true rfl, Nat.le_of_ble_eq_true rfl⟩ ⟨by have h9 := hcc; dsimp only [room_1] at h9 ⊢; omega, by have h9 := hss; dsimp only [room_1] at h9 ⊢; omega⟩ (Nat.le_of_ble_eq_true rfl) dL_law__1454 rfl ?_
  refine e_istore X rfl dL_law__1457 (by decide) ?_
  refine e_aload_n X dL_law__1459 rfl rfl ?_
  refine e_callVi X (r := (F_M_thrown z2.1)) (σ1 := z2.1) [] [] (C_M_thrown (Cx_gok X) z2.1) gv_L_139 yk_X12_thrown rfl (ent_lt (rfl : entTbl[333]? = some (13, 0))) (ent_at (rfl : entTbl[333]? = some (13, 0)) _) (rfl : vCl[11]? = some (RX12, TX12, 24)) ⟨Nat.le_of_ble_eq_true rfl, Nat.le_of_ble_eq_true rfl⟩ ⟨by have h9 := hcc; dsimp only [room_1] at h9 ⊢; omega, by have h9 := hss; dsimp only [room_1] at h9 ⊢; omega⟩ (Nat.le_of_ble_eq_true rfl) dL_law__1460 rfl ?_
  refine e_iload X dL_law__1463 rfl ?_
  refine e_icmp_eq X 1470 dL_law__1465 (by decide) (fun c3 => ?_) (fun c3 => ?_)
  · skip
    rw [if_pos c3] at hF
    refine e_iload X dL_law__1470 rfl ?_
    refine e_if_ne X 1487 dL_law__1472 (by decide) (fun c4 => ?_) (fun c4 => ?_)
    · skip
      rw [if_neg c4] at hF
      refine e_goto X 2522 dL_law__1487 (by decide) ?_
      cases hF
      exact e_le hK (And.intro rfl (And.intro rfl (And.intro rfl (And.intro rfl (And.intro rfl trivial)))))
    · skip
      rw [if_pos c4] at hF
      refine e_aload_n X dL_law__1475 rfl rfl ?_
      refine e_iconst X 0 dL_law__1476 rfl ?_
      refine e_lald X dL_law__1477 ?_
      refine e_iload X dL_law__1478 rfl ?_
      refine e_i2l X dL_law__1480 ?_
      refine e_lcmpeq X 1487 dL_law__1481 dL_law__1482 (by decide) (fun c5 => ?_) (fun c5 => ?_)
      · skip
        rw [if_pos c5] at hF
        refine e_goto X 2522 dL_law__1487 (by decide) ?_
        cases hF
        exact e_le hK (And.intro rfl (And.intro rfl (And.intro rfl (And.intro rfl (And.intro rfl trivial)))))
      · skip
        rw [if_neg c5] at hF
        refine e_iconst X 0 dL_law__1485 rfl ?_
        cases hF
  · skip
    rw [if_neg c3] at hF
    refine e_iconst X 0 dL_law__1468 rfl ?_
    cases hF
set_option maxRecDepth 20000 in
set_option maxHeartbeats 4000000 in
theorem T_21 {b L : Nat} {xs : Nat → Int32} {i9 a1 a2 a3 a4 a5 : Int32} (X : Cx p l s m args meth c Γ D s0 RL cL_law_ 7) (hX : va_X b L xs s s.heap) (hbl : b < s.heap.size) (hbA : ¬ Γ.1 ≤ b) (hi1 : vp_in (i9 + 1) L) (hi2 : vp_in (i9 + 2) L) (hi3 : vp_in (i9 + 3) L) (hi4 : vp_in (i9 + 4) L) (hi5 : vp_in (i9 + 5) L) (ha1 : xs (i9 + 1).toNatClampNeg = a1) (ha2 : xs (i9 + 2).toNatClampNeg = a2) (ha3 : xs (i9 + 3).toNatClampNeg = a3) (ha4 : xs (i9 + 4).toNatClampNeg = a4) (ha5 : xs (i9 + 5).toNatClampNeg = a5) (hcc : cells + 8 ≤ room_1.cells) (hss : slots + 48 ≤ room_1.slots) (σ : Mem) {z : Mem} (hF : S_21 σ a1 a2 a3 a4 a5 = some z) (hK : E p l e room_1 s m args below meth c Γ D (cells + 8) (slots + 48) Q z 2522 [some (.ref b), some (.ref (Γ.1 + 0)), some (.ref (Γ.1 + 333)), some (.ref (Γ.1 + 346)), some (.int i9)] []) : E p l e room_1 s m args below meth c Γ D cells slots Q σ 1490 [some (.ref b), some (.ref (Γ.1 + 0)), some (.ref (Γ.1 + 333)), some (.ref (Γ.1 + 346)), some (.int i9), none, none] [] := by
  unfold S_21 at hF
  refine e_aload_n X dL_law__1490 rfl rfl ?_
  obtain ⟨z1, h_z1, hF⟩ := obind_out hF
  refine e_callVi X (r := z1.2) (σ1 := z1.1) [] [] (C_W_falls (Cx_gok X) σ h_z1) gv_L_200 yk_X11_falls rfl (ent_lt (rfl : entTbl[0]? = some (0, 0))) (ent_at (rfl : entTbl[0]? = some (0, 0)) _) (rfl : vCl[10]? = some (RX11, TX11, 17)) ⟨Nat.le_of_ble_eq_true rfl, Nat.le_of_ble_eq_true rfl⟩ ⟨by have h9 := hcc; dsimp only [room_1] at h9 ⊢; omega, by have h9 := hss; dsimp only [room_1] at h9 ⊢; omega⟩ (Nat.le_of_ble_eq_true rfl) dL_law__1491 rfl ?_
  refine e_aload_n X dL_law__1494 rfl rfl ?_
  obtain ⟨z2, h_z2, hF⟩ := obind_out hF
  refine e_callVi X (r := z2.2) (σ1 := z2.1) [] [.int z1.2] (C_M_falls (Cx_gok X) z1.1 h_z2) gv_L_203 yk_X12_falls rfl (ent_lt (rfl : entTbl[333]? = some (13, 0))) (ent_at (rfl : entTbl[333]? = some (13, 0)) _) (rfl : vCl[11]? = some (RX12, TX12, 24)) ⟨Nat.le_of_ble_eq_true rfl, Nat.le_of_ble_eq_true rfl⟩ ⟨by have h9 := hcc; dsimp only [room_1] at h9 ⊢; omega, by have h9 := hss; dsimp only [room_1] at h9 ⊢; omega⟩ (Nat.le_of_ble_eq_true rfl) dL_law__1495 rfl ?_
  refine e_icmp_eq X 2522 dL_law__1498 (by decide) (fun c3 => ?_) (fun c3 => ?_)
  · skip
    rw [if_pos c3] at hF
    cases hF
    refine e_widen (c2 := cells + 8) (s2 := slots + 48) (by omega) (by omega) ?_
    exact e_le hK (And.intro rfl (And.intro rfl (And.intro rfl (And.intro rfl (And.intro rfl trivial)))))
  · skip
    rw [if_neg c3] at hF
    refine e_iconst X 0 dL_law__1501 rfl ?_
    cases hF
set_option maxRecDepth 20000 in
set_option maxHeartbeats 4000000 in
theorem T_22 {b L : Nat} {xs : Nat → Int32} {i9 a1 a2 a3 a4 a5 : Int32} (X : Cx p l s m args meth c Γ D s0 RL cL_law_ 7) (hX : va_X b L xs s s.heap) (hbl : b < s.heap.size) (hbA : ¬ Γ.1 ≤ b) (hi1 : vp_in (i9 + 1) L) (hi2 : vp_in (i9 + 2) L) (hi3 : vp_in (i9 + 3) L) (hi4 : vp_in (i9 + 4) L) (hi5 : vp_in (i9 + 5) L) (ha1 : xs (i9 + 1).toNatClampNeg = a1) (ha2 : xs (i9 + 2).toNatClampNeg = a2) (ha3 : xs (i9 + 3).toNatClampNeg = a3) (ha4 : xs (i9 + 4).toNatClampNeg = a4) (ha5 : xs (i9 + 5).toNatClampNeg = a5) (hcc : cells + 8 ≤ room_1.cells) (hss : slots + 48 ≤ room_1.slots) (σ : Mem) {z : Mem} (hF : S_22 σ a1 a2 a3 a4 a5 = some z) (hK : E p l e room_1 s m args below meth c Γ D (cells + 8) (slots + 48) Q z 2522 [some (.ref b), some (.ref (Γ.1 + 0)), some (.ref (Γ.1 + 333)), some (.ref (Γ.1 + 346)), some (.int i9)] []) : E p l e room_1 s m args below meth c Γ D cells slots Q σ 1503 [some (.ref b), some (.ref (Γ.1 + 0)), some (.ref (Γ.1 + 333)), some (.ref (Γ.1 + 346)), some (.int i9), none, none] [] := by
  unfold S_22 at hF
  refine e_aload_n X dL_law__1503 rfl rfl ?_
  refine e_aload_n X dL_law__1504 rfl rfl ?_
  refine e_iload X dL_law__1505 rfl ?_
  refine e_iconst X 1 dL_law__1507 rfl ?_
  refine e_iadd X dL_law__1508 ?_
  refine e_sld X hX hbl hbA hi1 ha1 dL_law__1509 ?_
  refine e_aload_n X dL_law__1510 rfl rfl ?_
  obtain ⟨z1, h_z1, hF⟩ := obind_out hF
  refine e_callSH X (r := z1.2) (σ1 := z1.1) [.ref (Γ.1 + 0), .int a1, .ref (Γ.1 + 346)] [] (CH_loses (Cx_gok X) σ a1 h_z1) gsh_204 ykh_L_loses rfl ⟨Nat.le_of_ble_eq_true rfl, Nat.le_of_ble_eq_true rfl⟩ ⟨by have h9 := hcc; dsimp only [room_1] at h9 ⊢; omega, by have h9 := hss; dsimp only [room_1] at h9 ⊢; omega⟩ (Nat.le_of_ble_eq_true rfl) dL_law__1511 rfl ?_
  refine e_widen (c2 := cells + 8) (s2 := slots + 48) (by omega) (by omega) ?_
  refine e_istore X rfl dL_law__1514 (by decide) ?_
  refine e_aload_n X dL_law__1516 rfl rfl ?_
  refine e_aload_n X dL_law__1517 rfl rfl ?_
  refine e_iload X dL_law__1518 rfl ?_
  refine e_iconst X 1 dL_law__1520 rfl ?_
  refine e_iadd X dL_law__1521 ?_
  refine e_sld X hX hbl hbA hi1 ha1 dL_law__1522 ?_
  obtain ⟨z2, h_z2, hF⟩ := obind_out hF
  refine e_callVi X (r := z2.2) (σ1 := z2.1) [.int a1] [] (C_M_loses (Cx_gok X) z1.1 a1 h_z2) gv_L_206 yk_X12_loses rfl (ent_lt (rfl : entTbl[333]? = some (13, 0))) (ent_at (rfl : entTbl[333]? = some (13, 0)) _) (rfl : vCl[11]? = some (RX12, TX12, 24)) ⟨Nat.le_of_ble_eq_true rfl, Nat.le_of_ble_eq_true rfl⟩ ⟨by have h9 := hcc; dsimp only [room_1] at h9 ⊢; omega, by have h9 := hss; dsimp only [room_1] at h9 ⊢; omega⟩ (Nat.le_of_ble_eq_true rfl) dL_law__1523 rfl ?_
  refine e_istore X rfl dL_law__1526 (by decide) ?_
  refine e_aload_n X dL_law__1528 rfl rfl ?_
  refine e_callVi X (r := (F_M_thrown z2.1)) (σ1 := z2.1) [] [] (C_M_thrown (Cx_gok X) z2.1) gv_L_139 yk_X12_thrown rfl (ent_lt (rfl : entTbl[333]? = some (13, 0))) (ent_at (rfl : entTbl[333]? = some (13, 0)) _) (rfl : vCl[11]? = some (RX12, TX12, 24)) ⟨Nat.le_of_ble_eq_true rfl, Nat.le_of_ble_eq_true rfl⟩ ⟨by have h9 := hcc; dsimp only [room_1] at h9 ⊢; omega, by have h9 := hss; dsimp only [room_1] at h9 ⊢; omega⟩ (Nat.le_of_ble_eq_true rfl) dL_law__1529 rfl ?_
  refine e_iload X dL_law__1532 rfl ?_
  refine e_icmp_eq X 1539 dL_law__1534 (by decide) (fun c3 => ?_) (fun c3 => ?_)
  · skip
    rw [if_pos c3] at hF
    refine e_iload X dL_law__1539 rfl ?_
    refine e_if_ne X 1556 dL_law__1541 (by decide) (fun c4 => ?_) (fun c4 => ?_)
    · skip
      rw [if_neg c4] at hF
      refine e_goto X 2522 dL_law__1556 (by decide) ?_
      cases hF
      exact e_le hK (And.intro rfl (And.intro rfl (And.intro rfl (And.intro rfl (And.intro rfl trivial)))))
    · skip
      rw [if_pos c4] at hF
      refine e_aload_n X dL_law__1544 rfl rfl ?_
      refine e_iconst X 0 dL_law__1545 rfl ?_
      refine e_lald X dL_law__1546 ?_
      refine e_iload X dL_law__1547 rfl ?_
      refine e_i2l X dL_law__1549 ?_
      refine e_lcmpeq X 1556 dL_law__1550 dL_law__1551 (by decide) (fun c5 => ?_) (fun c5 => ?_)
      · skip
        rw [if_pos c5] at hF
        refine e_goto X 2522 dL_law__1556 (by decide) ?_
        cases hF
        exact e_le hK (And.intro rfl (And.intro rfl (And.intro rfl (And.intro rfl (And.intro rfl trivial)))))
      · skip
        rw [if_neg c5] at hF
        refine e_iconst X 0 dL_law__1554 rfl ?_
        cases hF
  · skip
    rw [if_neg c3] at hF
    refine e_iconst X 0 dL_law__1537 rfl ?_
    cases hF
set_option maxRecDepth 20000 in
set_option maxHeartbeats 4000000 in
theorem T_23 {b L : Nat} {xs : Nat → Int32} {i9 a1 a2 a3 a4 a5 : Int32} (X : Cx p l s m args meth c Γ D s0 RL cL_law_ 7) (hX : va_X b L xs s s.heap) (hbl : b < s.heap.size) (hbA : ¬ Γ.1 ≤ b) (hi1 : vp_in (i9 + 1) L) (hi2 : vp_in (i9 + 2) L) (hi3 : vp_in (i9 + 3) L) (hi4 : vp_in (i9 + 4) L) (hi5 : vp_in (i9 + 5) L) (ha1 : xs (i9 + 1).toNatClampNeg = a1) (ha2 : xs (i9 + 2).toNatClampNeg = a2) (ha3 : xs (i9 + 3).toNatClampNeg = a3) (ha4 : xs (i9 + 4).toNatClampNeg = a4) (ha5 : xs (i9 + 5).toNatClampNeg = a5) (hcc : cells + 8 ≤ room_1.cells) (hss : slots + 48 ≤ room_1.slots) (σ : Mem) {z : Mem} (hF : S_23 σ a1 a2 a3 a4 a5 = some z) (hK : E p l e room_1 s m args below meth c Γ D (cells + 8) (slots + 48) Q z 2522 [some (.ref b), some (.ref (Γ.1 + 0)), some (.ref (Γ.1 + 333)), some (.ref (Γ.1 + 346)), some (.int i9)] []) : E p l e room_1 s m args below meth c Γ D cells slots Q σ 1559 [some (.ref b), some (.ref (Γ.1 + 0)), some (.ref (Γ.1 + 333)), some (.ref (Γ.1 + 346)), some (.int i9), none, none] [] := by
  unfold S_23 at hF
  refine e_aload_n X dL_law__1559 rfl rfl ?_
  refine e_aload_n X dL_law__1560 rfl rfl ?_
  refine e_iload X dL_law__1561 rfl ?_
  refine e_iconst X 1 dL_law__1563 rfl ?_
  refine e_iadd X dL_law__1564 ?_
  refine e_sld X hX hbl hbA hi1 ha1 dL_law__1565 ?_
  refine e_aload_n X dL_law__1566 rfl rfl ?_
  obtain ⟨z1, h_z1, hF⟩ := obind_out hF
  refine e_callSH X (r := z1.2) (σ1 := z1.1) [.ref (Γ.1 + 0), .int a1, .ref (Γ.1 + 346)] [] (CH_holds (Cx_gok X) σ a1 h_z1) gsh_207 ykh_L_holds rfl ⟨Nat.le_of_ble_eq_true rfl, Nat.le_of_ble_eq_true rfl⟩ ⟨by have h9 := hcc; dsimp only [room_1] at h9 ⊢; omega, by have h9 := hss; dsimp only [room_1] at h9 ⊢; omega⟩ (Nat.le_of_ble_eq_true rfl) dL_law__1567 rfl ?_
  refine e_widen (c2 := cells + 8) (s2 := slots + 48) (by omega) (by omega) ?_
  refine e_istore X rfl dL_law__1570 (by decide) ?_
  refine e_aload_n X dL_law__1572 rfl rfl ?_
  refine e_aload_n X dL_law__1573 rfl rfl ?_
  refine e_iload X dL_law__1574 rfl ?_
  refine e_iconst X 1 dL_law__1576 rfl ?_
  refine e_iadd X dL_law__1577 ?_
  refine e_sld X hX hbl hbA hi1 ha1 dL_law__1578 ?_
  obtain ⟨z2, h_z2, hF⟩ := obind_out hF
  refine e_callVi X (r := z2.2) (σ1 := z2.1) [.int a1] [] (C_M_holds (Cx_gok X) z1.1 a1 h_z2) gv_L_209 yk_X12_holds rfl (ent_lt (rfl : entTbl[333]? = some (13, 0))) (ent_at (rfl : entTbl[333]? = some (13, 0)) _) (rfl : vCl[11]? = some (RX12, TX12, 24)) ⟨Nat.le_of_ble_eq_true rfl, Nat.le_of_ble_eq_true rfl⟩ ⟨by have h9 := hcc; dsimp only [room_1] at h9 ⊢; omega, by have h9 := hss; dsimp only [room_1] at h9 ⊢; omega⟩ (Nat.le_of_ble_eq_true rfl) dL_law__1579 rfl ?_
  refine e_istore X rfl dL_law__1582 (by decide) ?_
  refine e_aload_n X dL_law__1584 rfl rfl ?_
  refine e_callVi X (r := (F_M_thrown z2.1)) (σ1 := z2.1) [] [] (C_M_thrown (Cx_gok X) z2.1) gv_L_139 yk_X12_thrown rfl (ent_lt (rfl : entTbl[333]? = some (13, 0))) (ent_at (rfl : entTbl[333]? = some (13, 0)) _) (rfl : vCl[11]? = some (RX12, TX12, 24)) ⟨Nat.le_of_ble_eq_true rfl, Nat.le_of_ble_eq_true rfl⟩ ⟨by have h9 := hcc; dsimp only [room_1] at h9 ⊢; omega, by have h9 := hss; dsimp only [room_1] at h9 ⊢; omega⟩ (Nat.le_of_ble_eq_true rfl) dL_law__1585 rfl ?_
  refine e_iload X dL_law__1588 rfl ?_
  refine e_icmp_eq X 1595 dL_law__1590 (by decide) (fun c3 => ?_) (fun c3 => ?_)
  · skip
    rw [if_pos c3] at hF
    refine e_iload X dL_law__1595 rfl ?_
    refine e_if_ne X 1612 dL_law__1597 (by decide) (fun c4 => ?_) (fun c4 => ?_)
    · skip
      rw [if_neg c4] at hF
      refine e_goto X 2522 dL_law__1612 (by decide) ?_
      cases hF
      exact e_le hK (And.intro rfl (And.intro rfl (And.intro rfl (And.intro rfl (And.intro rfl trivial)))))
    · skip
      rw [if_pos c4] at hF
      refine e_aload_n X dL_law__1600 rfl rfl ?_
      refine e_iconst X 0 dL_law__1601 rfl ?_
      refine e_lald X dL_law__1602 ?_
      refine e_iload X dL_law__1603 rfl ?_
      refine e_i2l X dL_law__1605 ?_
      refine e_lcmpeq X 1612 dL_law__1606 dL_law__1607 (by decide) (fun c5 => ?_) (fun c5 => ?_)
      · skip
        rw [if_pos c5] at hF
        refine e_goto X 2522 dL_law__1612 (by decide) ?_
        cases hF
        exact e_le hK (And.intro rfl (And.intro rfl (And.intro rfl (And.intro rfl (And.intro rfl trivial)))))
      · skip
        rw [if_neg c5] at hF
        refine e_iconst X 0 dL_law__1610 rfl ?_
        cases hF
  · skip
    rw [if_neg c3] at hF
    refine e_iconst X 0 dL_law__1593 rfl ?_
    cases hF
set_option maxRecDepth 20000 in
set_option maxHeartbeats 4000000 in
theorem T_24 {b L : Nat} {xs : Nat → Int32} {i9 a1 a2 a3 a4 a5 : Int32} (X : Cx p l s m args meth c Γ D s0 RL cL_law_ 7) (hX : va_X b L xs s s.heap) (hbl : b < s.heap.size) (hbA : ¬ Γ.1 ≤ b) (hi1 : vp_in (i9 + 1) L) (hi2 : vp_in (i9 + 2) L) (hi3 : vp_in (i9 + 3) L) (hi4 : vp_in (i9 + 4) L) (hi5 : vp_in (i9 + 5) L) (ha1 : xs (i9 + 1).toNatClampNeg = a1) (ha2 : xs (i9 + 2).toNatClampNeg = a2) (ha3 : xs (i9 + 3).toNatClampNeg = a3) (ha4 : xs (i9 + 4).toNatClampNeg = a4) (ha5 : xs (i9 + 5).toNatClampNeg = a5) (hcc : cells + 8 ≤ room_1.cells) (hss : slots + 48 ≤ room_1.slots) (σ : Mem) {z : Mem} (hF : S_24 σ a1 a2 a3 a4 a5 = some z) (hK : E p l e room_1 s m args below meth c Γ D (cells + 8) (slots + 48) Q z 2522 [some (.ref b), some (.ref (Γ.1 + 0)), some (.ref (Γ.1 + 333)), some (.ref (Γ.1 + 346)), some (.int i9)] []) : E p l e room_1 s m args below meth c Γ D cells slots Q σ 1615 [some (.ref b), some (.ref (Γ.1 + 0)), some (.ref (Γ.1 + 333)), some (.ref (Γ.1 + 346)), some (.int i9), none, none] [] := by
  unfold S_24 at hF
  refine e_aload_n X dL_law__1615 rfl rfl ?_
  refine e_aload_n X dL_law__1616 rfl rfl ?_
  refine e_iload X dL_law__1617 rfl ?_
  refine e_iconst X 1 dL_law__1619 rfl ?_
  refine e_iadd X dL_law__1620 ?_
  refine e_sld X hX hbl hbA hi1 ha1 dL_law__1621 ?_
  refine e_aload_n X dL_law__1622 rfl rfl ?_
  obtain ⟨z1, h_z1, hF⟩ := obind_out hF
  refine e_callSH X (r := z1.2) (σ1 := z1.1) [.ref (Γ.1 + 0), .int a1, .ref (Γ.1 + 346)] [] (CH_ring (Cx_gok X) σ a1 h_z1) gsh_210 ykh_L_ring rfl ⟨Nat.le_of_ble_eq_true rfl, Nat.le_of_ble_eq_true rfl⟩ ⟨by have h9 := hcc; dsimp only [room_1] at h9 ⊢; omega, by have h9 := hss; dsimp only [room_1] at h9 ⊢; omega⟩ (Nat.le_of_ble_eq_true rfl) dL_law__1623 rfl ?_
  refine e_widen (c2 := cells + 8) (s2 := slots + 48) (by omega) (by omega) ?_
  refine e_istore X rfl dL_law__1626 (by decide) ?_
  refine e_aload_n X dL_law__1628 rfl rfl ?_
  refine e_aload_n X dL_law__1629 rfl rfl ?_
  refine e_iload X dL_law__1630 rfl ?_
  refine e_iconst X 1 dL_law__1632 rfl ?_
  refine e_iadd X dL_law__1633 ?_
  refine e_sld X hX hbl hbA hi1 ha1 dL_law__1634 ?_
  obtain ⟨z2, h_z2, hF⟩ := obind_out hF
  refine e_callVi X (r := z2.2) (σ1 := z2.1) [.int a1] [] (C_M_ring (Cx_gok X) z1.1 a1 h_z2) gv_L_212 yk_X12_ring rfl (ent_lt (rfl : entTbl[333]? = some (13, 0))) (ent_at (rfl : entTbl[333]? = some (13, 0)) _) (rfl : vCl[11]? = some (RX12, TX12, 24)) ⟨Nat.le_of_ble_eq_true rfl, Nat.le_of_ble_eq_true rfl⟩ ⟨by have h9 := hcc; dsimp only [room_1] at h9 ⊢; omega, by have h9 := hss; dsimp only [room_1] at h9 ⊢; omega⟩ (Nat.le_of_ble_eq_true rfl) dL_law__1635 rfl ?_
  refine e_istore X rfl dL_law__1638 (by decide) ?_
  refine e_aload_n X dL_law__1640 rfl rfl ?_
  refine e_callVi X (r := (F_M_thrown z2.1)) (σ1 := z2.1) [] [] (C_M_thrown (Cx_gok X) z2.1) gv_L_139 yk_X12_thrown rfl (ent_lt (rfl : entTbl[333]? = some (13, 0))) (ent_at (rfl : entTbl[333]? = some (13, 0)) _) (rfl : vCl[11]? = some (RX12, TX12, 24)) ⟨Nat.le_of_ble_eq_true rfl, Nat.le_of_ble_eq_true rfl⟩ ⟨by have h9 := hcc; dsimp only [room_1] at h9 ⊢; omega, by have h9 := hss; dsimp only [room_1] at h9 ⊢; omega⟩ (Nat.le_of_ble_eq_true rfl) dL_law__1641 rfl ?_
  refine e_iload X dL_law__1644 rfl ?_
  refine e_icmp_eq X 1651 dL_law__1646 (by decide) (fun c3 => ?_) (fun c3 => ?_)
  · skip
    rw [if_pos c3] at hF
    refine e_iload X dL_law__1651 rfl ?_
    refine e_if_ne X 1668 dL_law__1653 (by decide) (fun c4 => ?_) (fun c4 => ?_)
    · skip
      rw [if_neg c4] at hF
      refine e_goto X 2522 dL_law__1668 (by decide) ?_
      cases hF
      exact e_le hK (And.intro rfl (And.intro rfl (And.intro rfl (And.intro rfl (And.intro rfl trivial)))))
    · skip
      rw [if_pos c4] at hF
      refine e_aload_n X dL_law__1656 rfl rfl ?_
      refine e_iconst X 0 dL_law__1657 rfl ?_
      refine e_lald X dL_law__1658 ?_
      refine e_iload X dL_law__1659 rfl ?_
      refine e_i2l X dL_law__1661 ?_
      refine e_lcmpeq X 1668 dL_law__1662 dL_law__1663 (by decide) (fun c5 => ?_) (fun c5 => ?_)
      · skip
        rw [if_pos c5] at hF
        refine e_goto X 2522 dL_law__1668 (by decide) ?_
        cases hF
        exact e_le hK (And.intro rfl (And.intro rfl (And.intro rfl (And.intro rfl (And.intro rfl trivial)))))
      · skip
        rw [if_neg c5] at hF
        refine e_iconst X 0 dL_law__1666 rfl ?_
        cases hF
  · skip
    rw [if_neg c3] at hF
    refine e_iconst X 0 dL_law__1649 rfl ?_
    cases hF
set_option maxRecDepth 20000 in
set_option maxHeartbeats 4000000 in
theorem T_25 {b L : Nat} {xs : Nat → Int32} {i9 a1 a2 a3 a4 a5 : Int32} (X : Cx p l s m args meth c Γ D s0 RL cL_law_ 7) (hX : va_X b L xs s s.heap) (hbl : b < s.heap.size) (hbA : ¬ Γ.1 ≤ b) (hi1 : vp_in (i9 + 1) L) (hi2 : vp_in (i9 + 2) L) (hi3 : vp_in (i9 + 3) L) (hi4 : vp_in (i9 + 4) L) (hi5 : vp_in (i9 + 5) L) (ha1 : xs (i9 + 1).toNatClampNeg = a1) (ha2 : xs (i9 + 2).toNatClampNeg = a2) (ha3 : xs (i9 + 3).toNatClampNeg = a3) (ha4 : xs (i9 + 4).toNatClampNeg = a4) (ha5 : xs (i9 + 5).toNatClampNeg = a5) (hcc : cells + 8 ≤ room_1.cells) (hss : slots + 48 ≤ room_1.slots) (σ : Mem) {z : Mem} (hF : S_25 σ a1 a2 a3 a4 a5 = some z) (hK : E p l e room_1 s m args below meth c Γ D (cells + 8) (slots + 48) Q z 2522 [some (.ref b), some (.ref (Γ.1 + 0)), some (.ref (Γ.1 + 333)), some (.ref (Γ.1 + 346)), some (.int i9)] []) : E p l e room_1 s m args below meth c Γ D cells slots Q σ 1671 [some (.ref b), some (.ref (Γ.1 + 0)), some (.ref (Γ.1 + 333)), some (.ref (Γ.1 + 346)), some (.int i9), none, none] [] := by
  unfold S_25 at hF
  refine e_aload_n X dL_law__1671 rfl rfl ?_
  obtain ⟨z1, h_z1, hF⟩ := obind_out hF
  refine e_callVi X (r := z1) (σ1 := σ) [] [] (C_W_rings (Cx_gok X) σ h_z1) gv_L_213 yk_X11_rings rfl (ent_lt (rfl : entTbl[0]? = some (0, 0))) (ent_at (rfl : entTbl[0]? = some (0, 0)) _) (rfl : vCl[10]? = some (RX11, TX11, 17)) ⟨Nat.le_of_ble_eq_true rfl, Nat.le_of_ble_eq_true rfl⟩ ⟨by have h9 := hcc; dsimp only [room_1] at h9 ⊢; omega, by have h9 := hss; dsimp only [room_1] at h9 ⊢; omega⟩ (Nat.le_of_ble_eq_true rfl) dL_law__1672 rfl ?_
  refine e_aload_n X dL_law__1675 rfl rfl ?_
  obtain ⟨z2, h_z2, hF⟩ := obind_out hF
  refine e_callVi X (r := z2.2) (σ1 := z2.1) [] [.int z1] (C_M_rings (Cx_gok X) σ h_z2) gv_L_216 yk_X12_rings rfl (ent_lt (rfl : entTbl[333]? = some (13, 0))) (ent_at (rfl : entTbl[333]? = some (13, 0)) _) (rfl : vCl[11]? = some (RX12, TX12, 24)) ⟨Nat.le_of_ble_eq_true rfl, Nat.le_of_ble_eq_true rfl⟩ ⟨by have h9 := hcc; dsimp only [room_1] at h9 ⊢; omega, by have h9 := hss; dsimp only [room_1] at h9 ⊢; omega⟩ (Nat.le_of_ble_eq_true rfl) dL_law__1676 rfl ?_
  refine e_icmp_eq X 2522 dL_law__1679 (by decide) (fun c3 => ?_) (fun c3 => ?_)
  · skip
    rw [if_pos c3] at hF
    cases hF
    refine e_widen (c2 := cells + 8) (s2 := slots + 48) (by omega) (by omega) ?_
    exact e_le hK (And.intro rfl (And.intro rfl (And.intro rfl (And.intro rfl (And.intro rfl trivial)))))
  · skip
    rw [if_neg c3] at hF
    refine e_iconst X 0 dL_law__1682 rfl ?_
    cases hF
set_option maxRecDepth 20000 in
set_option maxHeartbeats 4000000 in
theorem T_26 {b L : Nat} {xs : Nat → Int32} {i9 a1 a2 a3 a4 a5 : Int32} (X : Cx p l s m args meth c Γ D s0 RL cL_law_ 7) (hX : va_X b L xs s s.heap) (hbl : b < s.heap.size) (hbA : ¬ Γ.1 ≤ b) (hi1 : vp_in (i9 + 1) L) (hi2 : vp_in (i9 + 2) L) (hi3 : vp_in (i9 + 3) L) (hi4 : vp_in (i9 + 4) L) (hi5 : vp_in (i9 + 5) L) (ha1 : xs (i9 + 1).toNatClampNeg = a1) (ha2 : xs (i9 + 2).toNatClampNeg = a2) (ha3 : xs (i9 + 3).toNatClampNeg = a3) (ha4 : xs (i9 + 4).toNatClampNeg = a4) (ha5 : xs (i9 + 5).toNatClampNeg = a5) (hcc : cells + 8 ≤ room_1.cells) (hss : slots + 48 ≤ room_1.slots) (σ : Mem) {z : Mem} (hF : S_26 σ a1 a2 a3 a4 a5 = some z) (hK : E p l e room_1 s m args below meth c Γ D (cells + 8) (slots + 48) Q z 2522 [some (.ref b), some (.ref (Γ.1 + 0)), some (.ref (Γ.1 + 333)), some (.ref (Γ.1 + 346)), some (.int i9)] []) : E p l e room_1 s m args below meth c Γ D cells slots Q σ 1684 [some (.ref b), some (.ref (Γ.1 + 0)), some (.ref (Γ.1 + 333)), some (.ref (Γ.1 + 346)), some (.int i9), none, none] [] := by
  unfold S_26 at hF
  refine e_aload_n X dL_law__1684 rfl rfl ?_
  refine e_aload_n X dL_law__1685 rfl rfl ?_
  refine e_iload X dL_law__1686 rfl ?_
  refine e_iconst X 1 dL_law__1688 rfl ?_
  refine e_iadd X dL_law__1689 ?_
  refine e_sld X hX hbl hbA hi1 ha1 dL_law__1690 ?_
  refine e_aload_n X dL_law__1691 rfl rfl ?_
  obtain ⟨z1, h_z1, hF⟩ := obind_out hF
  refine e_callSH X (r := z1.2) (σ1 := z1.1) [.ref (Γ.1 + 0), .int a1, .ref (Γ.1 + 346)] [] (CH_leans (Cx_gok X) σ a1 h_z1) gsh_217 ykh_L_leans rfl ⟨Nat.le_of_ble_eq_true rfl, Nat.le_of_ble_eq_true rfl⟩ ⟨by have h9 := hcc; dsimp only [room_1] at h9 ⊢; omega, by have h9 := hss; dsimp only [room_1] at h9 ⊢; omega⟩ (Nat.le_of_ble_eq_true rfl) dL_law__1692 rfl ?_
  refine e_widen (c2 := cells + 8) (s2 := slots + 48) (by omega) (by omega) ?_
  refine e_istore X rfl dL_law__1695 (by decide) ?_
  refine e_aload_n X dL_law__1697 rfl rfl ?_
  refine e_aload_n X dL_law__1698 rfl rfl ?_
  refine e_iload X dL_law__1699 rfl ?_
  refine e_iconst X 1 dL_law__1701 rfl ?_
  refine e_iadd X dL_law__1702 ?_
  refine e_sld X hX hbl hbA hi1 ha1 dL_law__1703 ?_
  obtain ⟨z2, h_z2, hF⟩ := obind_out hF
  refine e_callVi X (r := z2.2) (σ1 := z2.1) [.int a1] [] (C_M_leans (Cx_gok X) z1.1 a1 h_z2) gv_L_219 yk_X12_leans rfl (ent_lt (rfl : entTbl[333]? = some (13, 0))) (ent_at (rfl : entTbl[333]? = some (13, 0)) _) (rfl : vCl[11]? = some (RX12, TX12, 24)) ⟨Nat.le_of_ble_eq_true rfl, Nat.le_of_ble_eq_true rfl⟩ ⟨by have h9 := hcc; dsimp only [room_1] at h9 ⊢; omega, by have h9 := hss; dsimp only [room_1] at h9 ⊢; omega⟩ (Nat.le_of_ble_eq_true rfl) dL_law__1704 rfl ?_
  refine e_istore X rfl dL_law__1707 (by decide) ?_
  refine e_aload_n X dL_law__1709 rfl rfl ?_
  refine e_callVi X (r := (F_M_thrown z2.1)) (σ1 := z2.1) [] [] (C_M_thrown (Cx_gok X) z2.1) gv_L_139 yk_X12_thrown rfl (ent_lt (rfl : entTbl[333]? = some (13, 0))) (ent_at (rfl : entTbl[333]? = some (13, 0)) _) (rfl : vCl[11]? = some (RX12, TX12, 24)) ⟨Nat.le_of_ble_eq_true rfl, Nat.le_of_ble_eq_true rfl⟩ ⟨by have h9 := hcc; dsimp only [room_1] at h9 ⊢; omega, by have h9 := hss; dsimp only [room_1] at h9 ⊢; omega⟩ (Nat.le_of_ble_eq_true rfl) dL_law__1710 rfl ?_
  refine e_iload X dL_law__1713 rfl ?_
  refine e_icmp_eq X 1720 dL_law__1715 (by decide) (fun c3 => ?_) (fun c3 => ?_)
  · skip
    rw [if_pos c3] at hF
    refine e_iload X dL_law__1720 rfl ?_
    refine e_if_ne X 1737 dL_law__1722 (by decide) (fun c4 => ?_) (fun c4 => ?_)
    · skip
      rw [if_neg c4] at hF
      refine e_goto X 2522 dL_law__1737 (by decide) ?_
      cases hF
      exact e_le hK (And.intro rfl (And.intro rfl (And.intro rfl (And.intro rfl (And.intro rfl trivial)))))
    · skip
      rw [if_pos c4] at hF
      refine e_aload_n X dL_law__1725 rfl rfl ?_
      refine e_iconst X 0 dL_law__1726 rfl ?_
      refine e_lald X dL_law__1727 ?_
      refine e_iload X dL_law__1728 rfl ?_
      refine e_i2l X dL_law__1730 ?_
      refine e_lcmpeq X 1737 dL_law__1731 dL_law__1732 (by decide) (fun c5 => ?_) (fun c5 => ?_)
      · skip
        rw [if_pos c5] at hF
        refine e_goto X 2522 dL_law__1737 (by decide) ?_
        cases hF
        exact e_le hK (And.intro rfl (And.intro rfl (And.intro rfl (And.intro rfl (And.intro rfl trivial)))))
      · skip
        rw [if_neg c5] at hF
        refine e_iconst X 0 dL_law__1735 rfl ?_
        cases hF
  · skip
    rw [if_neg c3] at hF
    refine e_iconst X 0 dL_law__1718 rfl ?_
    cases hF
set_option maxRecDepth 20000 in
set_option maxHeartbeats 4000000 in
theorem T_27 {b L : Nat} {xs : Nat → Int32} {i9 a1 a2 a3 a4 a5 : Int32} (X : Cx p l s m args meth c Γ D s0 RL cL_law_ 7) (hX : va_X b L xs s s.heap) (hbl : b < s.heap.size) (hbA : ¬ Γ.1 ≤ b) (hi1 : vp_in (i9 + 1) L) (hi2 : vp_in (i9 + 2) L) (hi3 : vp_in (i9 + 3) L) (hi4 : vp_in (i9 + 4) L) (hi5 : vp_in (i9 + 5) L) (ha1 : xs (i9 + 1).toNatClampNeg = a1) (ha2 : xs (i9 + 2).toNatClampNeg = a2) (ha3 : xs (i9 + 3).toNatClampNeg = a3) (ha4 : xs (i9 + 4).toNatClampNeg = a4) (ha5 : xs (i9 + 5).toNatClampNeg = a5) (hcc : cells + 8 ≤ room_1.cells) (hss : slots + 48 ≤ room_1.slots) (σ : Mem) {z : Mem} (hF : S_27 σ a1 a2 a3 a4 a5 = some z) (hK : E p l e room_1 s m args below meth c Γ D (cells + 8) (slots + 48) Q z 2522 [some (.ref b), some (.ref (Γ.1 + 0)), some (.ref (Γ.1 + 333)), some (.ref (Γ.1 + 346)), some (.int i9)] []) : E p l e room_1 s m args below meth c Γ D cells slots Q σ 1740 [some (.ref b), some (.ref (Γ.1 + 0)), some (.ref (Γ.1 + 333)), some (.ref (Γ.1 + 346)), some (.int i9), none, none] [] := by
  unfold S_27 at hF
  refine e_aload_n X dL_law__1740 rfl rfl ?_
  refine e_aload_n X dL_law__1741 rfl rfl ?_
  refine e_iload X dL_law__1742 rfl ?_
  refine e_iconst X 1 dL_law__1744 rfl ?_
  refine e_iadd X dL_law__1745 ?_
  refine e_sld X hX hbl hbA hi1 ha1 dL_law__1746 ?_
  refine e_aload_n X dL_law__1747 rfl rfl ?_
  refine e_iload X dL_law__1748 rfl ?_
  refine e_iconst X 2 dL_law__1750 rfl ?_
  refine e_iadd X dL_law__1751 ?_
  refine e_sld X hX hbl hbA hi2 ha2 dL_law__1752 ?_
  refine e_aload_n X dL_law__1753 rfl rfl ?_
  refine e_iload X dL_law__1754 rfl ?_
  refine e_iconst X 3 dL_law__1756 rfl ?_
  refine e_iadd X dL_law__1757 ?_
  refine e_sld X hX hbl hbA hi3 ha3 dL_law__1758 ?_
  refine e_aload_n X dL_law__1759 rfl rfl ?_
  obtain ⟨z1, h_z1, hF⟩ := obind_out hF
  refine e_callSH X (r := z1.2) (σ1 := z1.1) [.ref (Γ.1 + 0), .int a1, .int a2, .int a3, .ref (Γ.1 + 346)] [] (CH_gifts (Cx_gok X) σ a1 a2 a3 h_z1) gsh_220 ykh_L_gifts rfl ⟨Nat.le_of_ble_eq_true rfl, Nat.le_of_ble_eq_true rfl⟩ ⟨by have h9 := hcc; dsimp only [room_1] at h9 ⊢; omega, by have h9 := hss; dsimp only [room_1] at h9 ⊢; omega⟩ (Nat.le_of_ble_eq_true rfl) dL_law__1760 rfl ?_
  refine e_widen (c2 := cells + 8) (s2 := slots + 48) (by omega) (by omega) ?_
  refine e_istore X rfl dL_law__1763 (by decide) ?_
  refine e_aload_n X dL_law__1765 rfl rfl ?_
  refine e_aload_n X dL_law__1766 rfl rfl ?_
  refine e_iload X dL_law__1767 rfl ?_
  refine e_iconst X 1 dL_law__1769 rfl ?_
  refine e_iadd X dL_law__1770 ?_
  refine e_sld X hX hbl hbA hi1 ha1 dL_law__1771 ?_
  refine e_aload_n X dL_law__1772 rfl rfl ?_
  refine e_iload X dL_law__1773 rfl ?_
  refine e_iconst X 2 dL_law__1775 rfl ?_
  refine e_iadd X dL_law__1776 ?_
  refine e_sld X hX hbl hbA hi2 ha2 dL_law__1777 ?_
  refine e_aload_n X dL_law__1778 rfl rfl ?_
  refine e_iload X dL_law__1779 rfl ?_
  refine e_iconst X 3 dL_law__1781 rfl ?_
  refine e_iadd X dL_law__1782 ?_
  refine e_sld X hX hbl hbA hi3 ha3 dL_law__1783 ?_
  obtain ⟨z2, h_z2, hF⟩ := obind_out hF
  refine e_callVi X (r := z2.2) (σ1 := z2.1) [.int a1, .int a2, .int a3] [] (C_M_gifts (Cx_gok X) z1.1 a1 a2 a3 h_z2) gv_L_222 yk_X12_gifts rfl (ent_lt (rfl : entTbl[333]? = some (13, 0))) (ent_at (rfl : entTbl[333]? = some (13, 0)) _) (rfl : vCl[11]? = some (RX12, TX12, 24)) ⟨Nat.le_of_ble_eq_true rfl, Nat.le_of_ble_eq_true rfl⟩ ⟨by have h9 := hcc; dsimp only [room_1] at h9 ⊢; omega, by have h9 := hss; dsimp only [room_1] at h9 ⊢; omega⟩ (Nat.le_of_ble_eq_true rfl) dL_law__1784 rfl ?_
  refine e_istore X rfl dL_law__1787 (by decide) ?_
  refine e_aload_n X dL_law__1789 rfl rfl ?_
  refine e_callVi X (r := (F_M_thrown z2.1)) (σ1 := z2.1) [] [] (C_M_thrown (Cx_gok X) z2.1) gv_L_139 yk_X12_thrown rfl (ent_lt (rfl : entTbl[333]? = some (13, 0))) (ent_at (rfl : entTbl[333]? = some (13, 0)) _) (rfl : vCl[11]? = some (RX12, TX12, 24)) ⟨Nat.le_of_ble_eq_true rfl, Nat.le_of_ble_eq_true rfl⟩ ⟨by have h9 := hcc; dsimp only [room_1] at h9 ⊢; omega, by have h9 := hss; dsimp only [room_1] at h9 ⊢; omega⟩ (Nat.le_of_ble_eq_true rfl) dL_law__1790 rfl ?_
  refine e_iload X dL_law__1793 rfl ?_
  refine e_icmp_eq X 1800 dL_law__1795 (by decide) (fun c3 => ?_) (fun c3 => ?_)
  · skip
    rw [if_pos c3] at hF
    refine e_iload X dL_law__1800 rfl ?_
    refine e_if_ne X 1817 dL_law__1802 (by decide) (fun c4 => ?_) (fun c4 => ?_)
    · skip
      rw [if_neg c4] at hF
      refine e_goto X 2522 dL_law__1817 (by decide) ?_
      cases hF
      exact e_le hK (And.intro rfl (And.intro rfl (And.intro rfl (And.intro rfl (And.intro rfl trivial)))))
    · skip
      rw [if_pos c4] at hF
      refine e_aload_n X dL_law__1805 rfl rfl ?_
      refine e_iconst X 0 dL_law__1806 rfl ?_
      refine e_lald X dL_law__1807 ?_
      refine e_iload X dL_law__1808 rfl ?_
      refine e_i2l X dL_law__1810 ?_
      refine e_lcmpeq X 1817 dL_law__1811 dL_law__1812 (by decide) (fun c5 => ?_) (fun c5 => ?_)
      · skip
        rw [if_pos c5] at hF
        refine e_goto X 2522 dL_law__1817 (by decide) ?_
        cases hF
        exact e_le hK (And.intro rfl (And.intro rfl (And.intro rfl (And.intro rfl (And.intro rfl trivial)))))
      · skip
        rw [if_neg c5] at hF
        refine e_iconst X 0 dL_law__1815 rfl ?_
        cases hF
  · skip
    rw [if_neg c3] at hF
    refine e_iconst X 0 dL_law__1798 rfl ?_
    cases hF
set_option maxRecDepth 20000 in
set_option maxHeartbeats 4000000 in
theorem T_28 {b L : Nat} {xs : Nat → Int32} {i9 a1 a2 a3 a4 a5 : Int32} (X : Cx p l s m args meth c Γ D s0 RL cL_law_ 7) (hX : va_X b L xs s s.heap) (hbl : b < s.heap.size) (hbA : ¬ Γ.1 ≤ b) (hi1 : vp_in (i9 + 1) L) (hi2 : vp_in (i9 + 2) L) (hi3 : vp_in (i9 + 3) L) (hi4 : vp_in (i9 + 4) L) (hi5 : vp_in (i9 + 5) L) (ha1 : xs (i9 + 1).toNatClampNeg = a1) (ha2 : xs (i9 + 2).toNatClampNeg = a2) (ha3 : xs (i9 + 3).toNatClampNeg = a3) (ha4 : xs (i9 + 4).toNatClampNeg = a4) (ha5 : xs (i9 + 5).toNatClampNeg = a5) (hcc : cells + 8 ≤ room_1.cells) (hss : slots + 48 ≤ room_1.slots) (σ : Mem) {z : Mem} (hF : S_28 σ a1 a2 a3 a4 a5 = some z) (hK : E p l e room_1 s m args below meth c Γ D (cells + 8) (slots + 48) Q z 2522 [some (.ref b), some (.ref (Γ.1 + 0)), some (.ref (Γ.1 + 333)), some (.ref (Γ.1 + 346)), some (.int i9)] []) : E p l e room_1 s m args below meth c Γ D cells slots Q σ 1820 [some (.ref b), some (.ref (Γ.1 + 0)), some (.ref (Γ.1 + 333)), some (.ref (Γ.1 + 346)), some (.int i9), none, none] [] := by
  unfold S_28 at hF
  refine e_aload_n X dL_law__1820 rfl rfl ?_
  refine e_aload_n X dL_law__1821 rfl rfl ?_
  refine e_iload X dL_law__1822 rfl ?_
  refine e_iconst X 1 dL_law__1824 rfl ?_
  refine e_iadd X dL_law__1825 ?_
  refine e_sld X hX hbl hbA hi1 ha1 dL_law__1826 ?_
  refine e_aload_n X dL_law__1827 rfl rfl ?_
  obtain ⟨z1, h_z1, hF⟩ := obind_out hF
  refine e_callSH X (r := z1.2) (σ1 := z1.1) [.ref (Γ.1 + 0), .int a1, .ref (Γ.1 + 346)] [] (CH_rather (Cx_gok X) σ a1 h_z1) gsh_223 ykh_L_rather rfl ⟨Nat.le_of_ble_eq_true rfl, Nat.le_of_ble_eq_true rfl⟩ ⟨by have h9 := hcc; dsimp only [room_1] at h9 ⊢; omega, by have h9 := hss; dsimp only [room_1] at h9 ⊢; omega⟩ (Nat.le_of_ble_eq_true rfl) dL_law__1828 rfl ?_
  refine e_widen (c2 := cells + 8) (s2 := slots + 48) (by omega) (by omega) ?_
  refine e_istore X rfl dL_law__1831 (by decide) ?_
  refine e_aload_n X dL_law__1833 rfl rfl ?_
  refine e_aload_n X dL_law__1834 rfl rfl ?_
  refine e_iload X dL_law__1835 rfl ?_
  refine e_iconst X 1 dL_law__1837 rfl ?_
  refine e_iadd X dL_law__1838 ?_
  refine e_sld X hX hbl hbA hi1 ha1 dL_law__1839 ?_
  obtain ⟨z2, h_z2, hF⟩ := obind_out hF
  refine e_callVi X (r := z2.2) (σ1 := z2.1) [.int a1] [] (C_M_rather (Cx_gok X) z1.1 a1 h_z2) gv_L_225 yk_X12_rather rfl (ent_lt (rfl : entTbl[333]? = some (13, 0))) (ent_at (rfl : entTbl[333]? = some (13, 0)) _) (rfl : vCl[11]? = some (RX12, TX12, 24)) ⟨Nat.le_of_ble_eq_true rfl, Nat.le_of_ble_eq_true rfl⟩ ⟨by have h9 := hcc; dsimp only [room_1] at h9 ⊢; omega, by have h9 := hss; dsimp only [room_1] at h9 ⊢; omega⟩ (Nat.le_of_ble_eq_true rfl) dL_law__1840 rfl ?_
  refine e_istore X rfl dL_law__1843 (by decide) ?_
  refine e_aload_n X dL_law__1845 rfl rfl ?_
  refine e_callVi X (r := (F_M_thrown z2.1)) (σ1 := z2.1) [] [] (C_M_thrown (Cx_gok X) z2.1) gv_L_139 yk_X12_thrown rfl (ent_lt (rfl : entTbl[333]? = some (13, 0))) (ent_at (rfl : entTbl[333]? = some (13, 0)) _) (rfl : vCl[11]? = some (RX12, TX12, 24)) ⟨Nat.le_of_ble_eq_true rfl, Nat.le_of_ble_eq_true rfl⟩ ⟨by have h9 := hcc; dsimp only [room_1] at h9 ⊢; omega, by have h9 := hss; dsimp only [room_1] at h9 ⊢; omega⟩ (Nat.le_of_ble_eq_true rfl) dL_law__1846 rfl ?_
  refine e_iload X dL_law__1849 rfl ?_
  refine e_icmp_eq X 1856 dL_law__1851 (by decide) (fun c3 => ?_) (fun c3 => ?_)
  · skip
    rw [if_pos c3] at hF
    refine e_iload X dL_law__1856 rfl ?_
    refine e_if_ne X 1873 dL_law__1858 (by decide) (fun c4 => ?_) (fun c4 => ?_)
    · skip
      rw [if_neg c4] at hF
      refine e_goto X 2522 dL_law__1873 (by decide) ?_
      cases hF
      exact e_le hK (And.intro rfl (And.intro rfl (And.intro rfl (And.intro rfl (And.intro rfl trivial)))))
    · skip
      rw [if_pos c4] at hF
      refine e_aload_n X dL_law__1861 rfl rfl ?_
      refine e_iconst X 0 dL_law__1862 rfl ?_
      refine e_lald X dL_law__1863 ?_
      refine e_iload X dL_law__1864 rfl ?_
      refine e_i2l X dL_law__1866 ?_
      refine e_lcmpeq X 1873 dL_law__1867 dL_law__1868 (by decide) (fun c5 => ?_) (fun c5 => ?_)
      · skip
        rw [if_pos c5] at hF
        refine e_goto X 2522 dL_law__1873 (by decide) ?_
        cases hF
        exact e_le hK (And.intro rfl (And.intro rfl (And.intro rfl (And.intro rfl (And.intro rfl trivial)))))
      · skip
        rw [if_neg c5] at hF
        refine e_iconst X 0 dL_law__1871 rfl ?_
        cases hF
  · skip
    rw [if_neg c3] at hF
    refine e_iconst X 0 dL_law__1854 rfl ?_
    cases hF
set_option maxRecDepth 20000 in
set_option maxHeartbeats 4000000 in
theorem T_29 {b L : Nat} {xs : Nat → Int32} {i9 a1 a2 a3 a4 a5 : Int32} (X : Cx p l s m args meth c Γ D s0 RL cL_law_ 7) (hX : va_X b L xs s s.heap) (hbl : b < s.heap.size) (hbA : ¬ Γ.1 ≤ b) (hi1 : vp_in (i9 + 1) L) (hi2 : vp_in (i9 + 2) L) (hi3 : vp_in (i9 + 3) L) (hi4 : vp_in (i9 + 4) L) (hi5 : vp_in (i9 + 5) L) (ha1 : xs (i9 + 1).toNatClampNeg = a1) (ha2 : xs (i9 + 2).toNatClampNeg = a2) (ha3 : xs (i9 + 3).toNatClampNeg = a3) (ha4 : xs (i9 + 4).toNatClampNeg = a4) (ha5 : xs (i9 + 5).toNatClampNeg = a5) (hcc : cells + 8 ≤ room_1.cells) (hss : slots + 48 ≤ room_1.slots) (σ : Mem) {z : Mem} (hF : S_29 σ a1 a2 a3 a4 a5 = some z) (hK : E p l e room_1 s m args below meth c Γ D (cells + 8) (slots + 48) Q z 2522 [some (.ref b), some (.ref (Γ.1 + 0)), some (.ref (Γ.1 + 333)), some (.ref (Γ.1 + 346)), some (.int i9)] []) : E p l e room_1 s m args below meth c Γ D cells slots Q σ 1876 [some (.ref b), some (.ref (Γ.1 + 0)), some (.ref (Γ.1 + 333)), some (.ref (Γ.1 + 346)), some (.int i9), none, none] [] := by
  unfold S_29 at hF
  refine e_aload_n X dL_law__1876 rfl rfl ?_
  refine e_aload_n X dL_law__1877 rfl rfl ?_
  refine e_iload X dL_law__1878 rfl ?_
  refine e_iconst X 1 dL_law__1880 rfl ?_
  refine e_iadd X dL_law__1881 ?_
  refine e_sld X hX hbl hbA hi1 ha1 dL_law__1882 ?_
  refine e_if_eq X 1890 dL_law__1883 (by decide) (fun c1 => ?_) (fun c1 => ?_)
  · skip
    rw [if_pos c1] at hF
    refine e_iconst X 0 dL_law__1890 rfl ?_
    refine e_callVi X (r := (F_W_lovers σ 0)) (σ1 := σ) [.int 0] [] (C_W_lovers (Cx_gok X) σ 0) gv_L_226 yk_X11_lovers rfl (ent_lt (rfl : entTbl[0]? = some (0, 0))) (ent_at (rfl : entTbl[0]? = some (0, 0)) _) (rfl : vCl[10]? = some (RX11, TX11, 17)) ⟨Nat.le_of_ble_eq_true rfl, Nat.le_of_ble_eq_true rfl⟩ ⟨by have h9 := hcc; dsimp only [room_1] at h9 ⊢; omega, by have h9 := hss; dsimp only [room_1] at h9 ⊢; omega⟩ (Nat.le_of_ble_eq_true rfl) dL_law__1891 rfl ?_
    refine e_aload_n X dL_law__1894 rfl rfl ?_
    refine e_aload_n X dL_law__1895 rfl rfl ?_
    refine e_iload X dL_law__1896 rfl ?_
    refine e_iconst X 1 dL_law__1898 rfl ?_
    refine e_iadd X dL_law__1899 ?_
    refine e_sld X hX hbl hbA hi1 ha1 dL_law__1900 ?_
    refine e_if_eq X 1908 dL_law__1901 (by decide) (fun c2 => ?_) (fun c2 => ?_)
    · skip
      rw [if_pos c2] at hF
      refine e_iconst X 0 dL_law__1908 rfl ?_
      obtain ⟨z3, h_z3, hF⟩ := obind_out hF
      refine e_callVi X (r := z3.2) (σ1 := z3.1) [.int 0] [.int ((F_W_lovers σ 0))] (C_M_lovers (Cx_gok X) σ 0 h_z3) gv_L_229 yk_X12_lovers rfl (ent_lt (rfl : entTbl[333]? = some (13, 0))) (ent_at (rfl : entTbl[333]? = some (13, 0)) _) (rfl : vCl[11]? = some (RX12, TX12, 24)) ⟨Nat.le_of_ble_eq_true rfl, Nat.le_of_ble_eq_true rfl⟩ ⟨by have h9 := hcc; dsimp only [room_1] at h9 ⊢; omega, by have h9 := hss; dsimp only [room_1] at h9 ⊢; omega⟩ (Nat.le_of_ble_eq_true rfl) dL_law__1909 rfl ?_
      refine e_icmp_eq X 2522 dL_law__1912 (by decide) (fun c4 => ?_) (fun c4 => ?_)
      · skip
        rw [if_pos c4] at hF
        cases hF
        refine e_widen (c2 := cells + 8) (s2 := slots + 48) (by omega) (by omega) ?_
        exact e_le hK (And.intro rfl (And.intro rfl (And.intro rfl (And.intro rfl (And.intro rfl trivial)))))
      · skip
        rw [if_neg c4] at hF
        refine e_iconst X 0 dL_law__1915 rfl ?_
        cases hF
    · skip
      rw [if_neg c2] at hF
      refine e_iconst X 1 dL_law__1904 rfl ?_
      refine e_goto X 1909 dL_law__1905 (by decide) ?_
      obtain ⟨z5, h_z5, hF⟩ := obind_out hF
      refine e_callVi X (r := z5.2) (σ1 := z5.1) [.int 1] [.int ((F_W_lovers σ 0))] (C_M_lovers (Cx_gok X) σ 1 h_z5) gv_L_229 yk_X12_lovers rfl (ent_lt (rfl : entTbl[333]? = some (13, 0))) (ent_at (rfl : entTbl[333]? = some (13, 0)) _) (rfl : vCl[11]? = some (RX12, TX12, 24)) ⟨Nat.le_of_ble_eq_true rfl, Nat.le_of_ble_eq_true rfl⟩ ⟨by have h9 := hcc; dsimp only [room_1] at h9 ⊢; omega, by have h9 := hss; dsimp only [room_1] at h9 ⊢; omega⟩ (Nat.le_of_ble_eq_true rfl) dL_law__1909 rfl ?_
      refine e_icmp_eq X 2522 dL_law__1912 (by decide) (fun c6 => ?_) (fun c6 => ?_)
      · skip
        rw [if_pos c6] at hF
        cases hF
        refine e_widen (c2 := cells + 8) (s2 := slots + 48) (by omega) (by omega) ?_
        exact e_le hK (And.intro rfl (And.intro rfl (And.intro rfl (And.intro rfl (And.intro rfl trivial)))))
      · skip
        rw [if_neg c6] at hF
        refine e_iconst X 0 dL_law__1915 rfl ?_
        cases hF
  · skip
    rw [if_neg c1] at hF
    refine e_iconst X 1 dL_law__1886 rfl ?_
    refine e_goto X 1891 dL_law__1887 (by decide) ?_
    refine e_callVi X (r := (F_W_lovers σ 1)) (σ1 := σ) [.int 1] [] (C_W_lovers (Cx_gok X) σ 1) gv_L_226 yk_X11_lovers rfl (ent_lt (rfl : entTbl[0]? = some (0, 0))) (ent_at (rfl : entTbl[0]? = some (0, 0)) _) (rfl : vCl[10]? = some (RX11, TX11, 17)) ⟨Nat.le_of_ble_eq_true rfl, Nat.le_of_ble_eq_true rfl⟩ ⟨by have h9 := hcc; dsimp only [room_1] at h9 ⊢; omega, by have h9 := hss; dsimp only [room_1] at h9 ⊢; omega⟩ (Nat.le_of_ble_eq_true rfl) dL_law__1891 rfl ?_
    refine e_aload_n X dL_law__1894 rfl rfl ?_
    refine e_aload_n X dL_law__1895 rfl rfl ?_
    refine e_iload X dL_law__1896 rfl ?_
    refine e_iconst X 1 dL_law__1898 rfl ?_
    refine e_iadd X dL_law__1899 ?_
    refine e_sld X hX hbl hbA hi1 ha1 dL_law__1900 ?_
    refine e_if_eq X 1908 dL_law__1901 (by decide) (fun c7 => ?_) (fun c7 => ?_)
    · skip
      rw [if_pos c7] at hF
      refine e_iconst X 0 dL_law__1908 rfl ?_
      obtain ⟨z8, h_z8, hF⟩ := obind_out hF
      refine e_callVi X (r := z8.2) (σ1 := z8.1) [.int 0] [.int ((F_W_lovers σ 1))] (C_M_lovers (Cx_gok X) σ 0 h_z8) gv_L_229 yk_X12_lovers rfl (ent_lt (rfl : entTbl[333]? = some (13, 0))) (ent_at (rfl : entTbl[333]? = some (13, 0)) _) (rfl : vCl[11]? = some (RX12, TX12, 24)) ⟨Nat.le_of_ble_eq_true rfl, Nat.le_of_ble_eq_true rfl⟩ ⟨by have h9 := hcc; dsimp only [room_1] at h9 ⊢; omega, by have h9 := hss; dsimp only [room_1] at h9 ⊢; omega⟩ (Nat.le_of_ble_eq_true rfl) dL_law__1909 rfl ?_
      refine e_icmp_eq X 2522 dL_law__1912 (by decide) (fun c9 => ?_) (fun c9 => ?_)
      · skip
        rw [if_pos c9] at hF
        cases hF
        refine e_widen (c2 := cells + 8) (s2 := slots + 48) (by omega) (by omega) ?_
        exact e_le hK (And.intro rfl (And.intro rfl (And.intro rfl (And.intro rfl (And.intro rfl trivial)))))
      · skip
        rw [if_neg c9] at hF
        refine e_iconst X 0 dL_law__1915 rfl ?_
        cases hF
    · skip
      rw [if_neg c7] at hF
      refine e_iconst X 1 dL_law__1904 rfl ?_
      refine e_goto X 1909 dL_law__1905 (by decide) ?_
      obtain ⟨z10, h_z10, hF⟩ := obind_out hF
      refine e_callVi X (r := z10.2) (σ1 := z10.1) [.int 1] [.int ((F_W_lovers σ 1))] (C_M_lovers (Cx_gok X) σ 1 h_z10) gv_L_229 yk_X12_lovers rfl (ent_lt (rfl : entTbl[333]? = some (13, 0))) (ent_at (rfl : entTbl[333]? = some (13, 0)) _) (rfl : vCl[11]? = some (RX12, TX12, 24)) ⟨Nat.le_of_ble_eq_true rfl, Nat.le_of_ble_eq_true rfl⟩ ⟨by have h9 := hcc; dsimp only [room_1] at h9 ⊢; omega, by have h9 := hss; dsimp only [room_1] at h9 ⊢; omega⟩ (Nat.le_of_ble_eq_true rfl) dL_law__1909 rfl ?_
      refine e_icmp_eq X 2522 dL_law__1912 (by decide) (fun c11 => ?_) (fun c11 => ?_)
      · skip
        rw [if_pos c11] at hF
        cases hF
        refine e_widen (c2 := cells + 8) (s2 := slots + 48) (by omega) (by omega) ?_
        exact e_le hK (And.intro rfl (And.intro rfl (And.intro rfl (And.intro rfl (And.intro rfl trivial)))))
      · skip
        rw [if_neg c11] at hF
        refine e_iconst X 0 dL_law__1915 rfl ?_
        cases hF
set_option maxRecDepth 20000 in
set_option maxHeartbeats 4000000 in
theorem T_30 {b L : Nat} {xs : Nat → Int32} {i9 a1 a2 a3 a4 a5 : Int32} (X : Cx p l s m args meth c Γ D s0 RL cL_law_ 7) (hX : va_X b L xs s s.heap) (hbl : b < s.heap.size) (hbA : ¬ Γ.1 ≤ b) (hi1 : vp_in (i9 + 1) L) (hi2 : vp_in (i9 + 2) L) (hi3 : vp_in (i9 + 3) L) (hi4 : vp_in (i9 + 4) L) (hi5 : vp_in (i9 + 5) L) (ha1 : xs (i9 + 1).toNatClampNeg = a1) (ha2 : xs (i9 + 2).toNatClampNeg = a2) (ha3 : xs (i9 + 3).toNatClampNeg = a3) (ha4 : xs (i9 + 4).toNatClampNeg = a4) (ha5 : xs (i9 + 5).toNatClampNeg = a5) (hcc : cells + 8 ≤ room_1.cells) (hss : slots + 48 ≤ room_1.slots) (σ : Mem) {z : Mem} (hF : S_30 σ a1 a2 a3 a4 a5 = some z) (hK : E p l e room_1 s m args below meth c Γ D (cells + 8) (slots + 48) Q z 2522 [some (.ref b), some (.ref (Γ.1 + 0)), some (.ref (Γ.1 + 333)), some (.ref (Γ.1 + 346)), some (.int i9)] []) : E p l e room_1 s m args below meth c Γ D cells slots Q σ 1917 [some (.ref b), some (.ref (Γ.1 + 0)), some (.ref (Γ.1 + 333)), some (.ref (Γ.1 + 346)), some (.int i9), none, none] [] := by
  unfold S_30 at hF
  refine e_aload_n X dL_law__1917 rfl rfl ?_
  refine e_aload_n X dL_law__1918 rfl rfl ?_
  refine e_iload X dL_law__1919 rfl ?_
  refine e_iconst X 1 dL_law__1921 rfl ?_
  refine e_iadd X dL_law__1922 ?_
  refine e_sld X hX hbl hbA hi1 ha1 dL_law__1923 ?_
  refine e_aload_n X dL_law__1924 rfl rfl ?_
  obtain ⟨z1, h_z1, hF⟩ := obind_out hF
  refine e_callSH X (r := z1.2) (σ1 := z1.1) [.ref (Γ.1 + 0), .int a1, .ref (Γ.1 + 346)] [] (CH_steady (Cx_gok X) σ a1 h_z1) gsh_230 ykh_L_steady rfl ⟨Nat.le_of_ble_eq_true rfl, Nat.le_of_ble_eq_true rfl⟩ ⟨by have h9 := hcc; dsimp only [room_1] at h9 ⊢; omega, by have h9 := hss; dsimp only [room_1] at h9 ⊢; omega⟩ (Nat.le_of_ble_eq_true rfl) dL_law__1925 rfl ?_
  refine e_widen (c2 := cells + 8) (s2 := slots + 48) (by omega) (by omega) ?_
  refine e_istore X rfl dL_law__1928 (by decide) ?_
  refine e_aload_n X dL_law__1930 rfl rfl ?_
  refine e_aload_n X dL_law__1931 rfl rfl ?_
  refine e_iload X dL_law__1932 rfl ?_
  refine e_iconst X 1 dL_law__1934 rfl ?_
  refine e_iadd X dL_law__1935 ?_
  refine e_sld X hX hbl hbA hi1 ha1 dL_law__1936 ?_
  obtain ⟨z2, h_z2, hF⟩ := obind_out hF
  refine e_callVi X (r := z2.2) (σ1 := z2.1) [.int a1] [] (C_M_steady (Cx_gok X) z1.1 a1 h_z2) gv_L_232 yk_X12_steady rfl (ent_lt (rfl : entTbl[333]? = some (13, 0))) (ent_at (rfl : entTbl[333]? = some (13, 0)) _) (rfl : vCl[11]? = some (RX12, TX12, 24)) ⟨Nat.le_of_ble_eq_true rfl, Nat.le_of_ble_eq_true rfl⟩ ⟨by have h9 := hcc; dsimp only [room_1] at h9 ⊢; omega, by have h9 := hss; dsimp only [room_1] at h9 ⊢; omega⟩ (Nat.le_of_ble_eq_true rfl) dL_law__1937 rfl ?_
  refine e_istore X rfl dL_law__1940 (by decide) ?_
  refine e_aload_n X dL_law__1942 rfl rfl ?_
  refine e_callVi X (r := (F_M_thrown z2.1)) (σ1 := z2.1) [] [] (C_M_thrown (Cx_gok X) z2.1) gv_L_139 yk_X12_thrown rfl (ent_lt (rfl : entTbl[333]? = some (13, 0))) (ent_at (rfl : entTbl[333]? = some (13, 0)) _) (rfl : vCl[11]? = some (RX12, TX12, 24)) ⟨Nat.le_of_ble_eq_true rfl, Nat.le_of_ble_eq_true rfl⟩ ⟨by have h9 := hcc; dsimp only [room_1] at h9 ⊢; omega, by have h9 := hss; dsimp only [room_1] at h9 ⊢; omega⟩ (Nat.le_of_ble_eq_true rfl) dL_law__1943 rfl ?_
  refine e_iload X dL_law__1946 rfl ?_
  refine e_icmp_eq X 1953 dL_law__1948 (by decide) (fun c3 => ?_) (fun c3 => ?_)
  · skip
    rw [if_pos c3] at hF
    refine e_iload X dL_law__1953 rfl ?_
    refine e_if_ne X 1970 dL_law__1955 (by decide) (fun c4 => ?_) (fun c4 => ?_)
    · skip
      rw [if_neg c4] at hF
      refine e_goto X 2522 dL_law__1970 (by decide) ?_
      cases hF
      exact e_le hK (And.intro rfl (And.intro rfl (And.intro rfl (And.intro rfl (And.intro rfl trivial)))))
    · skip
      rw [if_pos c4] at hF
      refine e_aload_n X dL_law__1958 rfl rfl ?_
      refine e_iconst X 0 dL_law__1959 rfl ?_
      refine e_lald X dL_law__1960 ?_
      refine e_iload X dL_law__1961 rfl ?_
      refine e_i2l X dL_law__1963 ?_
      refine e_lcmpeq X 1970 dL_law__1964 dL_law__1965 (by decide) (fun c5 => ?_) (fun c5 => ?_)
      · skip
        rw [if_pos c5] at hF
        refine e_goto X 2522 dL_law__1970 (by decide) ?_
        cases hF
        exact e_le hK (And.intro rfl (And.intro rfl (And.intro rfl (And.intro rfl (And.intro rfl trivial)))))
      · skip
        rw [if_neg c5] at hF
        refine e_iconst X 0 dL_law__1968 rfl ?_
        cases hF
  · skip
    rw [if_neg c3] at hF
    refine e_iconst X 0 dL_law__1951 rfl ?_
    cases hF
set_option maxRecDepth 20000 in
set_option maxHeartbeats 4000000 in
theorem T_31 {b L : Nat} {xs : Nat → Int32} {i9 a1 a2 a3 a4 a5 : Int32} (X : Cx p l s m args meth c Γ D s0 RL cL_law_ 7) (hX : va_X b L xs s s.heap) (hbl : b < s.heap.size) (hbA : ¬ Γ.1 ≤ b) (hi1 : vp_in (i9 + 1) L) (hi2 : vp_in (i9 + 2) L) (hi3 : vp_in (i9 + 3) L) (hi4 : vp_in (i9 + 4) L) (hi5 : vp_in (i9 + 5) L) (ha1 : xs (i9 + 1).toNatClampNeg = a1) (ha2 : xs (i9 + 2).toNatClampNeg = a2) (ha3 : xs (i9 + 3).toNatClampNeg = a3) (ha4 : xs (i9 + 4).toNatClampNeg = a4) (ha5 : xs (i9 + 5).toNatClampNeg = a5) (hcc : cells + 8 ≤ room_1.cells) (hss : slots + 48 ≤ room_1.slots) (σ : Mem) {z : Mem} (hF : S_31 σ a1 a2 a3 a4 a5 = some z) (hK : E p l e room_1 s m args below meth c Γ D (cells + 8) (slots + 48) Q z 2522 [some (.ref b), some (.ref (Γ.1 + 0)), some (.ref (Γ.1 + 333)), some (.ref (Γ.1 + 346)), some (.int i9)] []) : E p l e room_1 s m args below meth c Γ D cells slots Q σ 1973 [some (.ref b), some (.ref (Γ.1 + 0)), some (.ref (Γ.1 + 333)), some (.ref (Γ.1 + 346)), some (.int i9), none, none] [] := by
  unfold S_31 at hF
  refine e_aload_n X dL_law__1973 rfl rfl ?_
  obtain ⟨z1, h_z1, hF⟩ := obind_out hF
  refine e_callVi X (r := z1) (σ1 := σ) [] [] (C_W_weddings (Cx_gok X) σ h_z1) gv_L_233 yk_X11_weddings rfl (ent_lt (rfl : entTbl[0]? = some (0, 0))) (ent_at (rfl : entTbl[0]? = some (0, 0)) _) (rfl : vCl[10]? = some (RX11, TX11, 17)) ⟨Nat.le_of_ble_eq_true rfl, Nat.le_of_ble_eq_true rfl⟩ ⟨by have h9 := hcc; dsimp only [room_1] at h9 ⊢; omega, by have h9 := hss; dsimp only [room_1] at h9 ⊢; omega⟩ (Nat.le_of_ble_eq_true rfl) dL_law__1974 rfl ?_
  refine e_aload_n X dL_law__1977 rfl rfl ?_
  obtain ⟨z2, h_z2, hF⟩ := obind_out hF
  refine e_callVi X (r := z2.2) (σ1 := z2.1) [] [.int z1] (C_M_weddings (Cx_gok X) σ h_z2) gv_L_236 yk_X12_weddings rfl (ent_lt (rfl : entTbl[333]? = some (13, 0))) (ent_at (rfl : entTbl[333]? = some (13, 0)) _) (rfl : vCl[11]? = some (RX12, TX12, 24)) ⟨Nat.le_of_ble_eq_true rfl, Nat.le_of_ble_eq_true rfl⟩ ⟨by have h9 := hcc; dsimp only [room_1] at h9 ⊢; omega, by have h9 := hss; dsimp only [room_1] at h9 ⊢; omega⟩ (Nat.le_of_ble_eq_true rfl) dL_law__1978 rfl ?_
  refine e_icmp_eq X 2522 dL_law__1981 (by decide) (fun c3 => ?_) (fun c3 => ?_)
  · skip
    rw [if_pos c3] at hF
    cases hF
    refine e_widen (c2 := cells + 8) (s2 := slots + 48) (by omega) (by omega) ?_
    exact e_le hK (And.intro rfl (And.intro rfl (And.intro rfl (And.intro rfl (And.intro rfl trivial)))))
  · skip
    rw [if_neg c3] at hF
    refine e_iconst X 0 dL_law__1984 rfl ?_
    cases hF
set_option maxRecDepth 20000 in
set_option maxHeartbeats 4000000 in
theorem T_32 {b L : Nat} {xs : Nat → Int32} {i9 a1 a2 a3 a4 a5 : Int32} (X : Cx p l s m args meth c Γ D s0 RL cL_law_ 7) (hX : va_X b L xs s s.heap) (hbl : b < s.heap.size) (hbA : ¬ Γ.1 ≤ b) (hi1 : vp_in (i9 + 1) L) (hi2 : vp_in (i9 + 2) L) (hi3 : vp_in (i9 + 3) L) (hi4 : vp_in (i9 + 4) L) (hi5 : vp_in (i9 + 5) L) (ha1 : xs (i9 + 1).toNatClampNeg = a1) (ha2 : xs (i9 + 2).toNatClampNeg = a2) (ha3 : xs (i9 + 3).toNatClampNeg = a3) (ha4 : xs (i9 + 4).toNatClampNeg = a4) (ha5 : xs (i9 + 5).toNatClampNeg = a5) (hcc : cells + 8 ≤ room_1.cells) (hss : slots + 48 ≤ room_1.slots) (σ : Mem) {z : Mem} (hF : S_32 σ a1 a2 a3 a4 a5 = some z) (hK : E p l e room_1 s m args below meth c Γ D (cells + 8) (slots + 48) Q z 2522 [some (.ref b), some (.ref (Γ.1 + 0)), some (.ref (Γ.1 + 333)), some (.ref (Γ.1 + 346)), some (.int i9)] []) : E p l e room_1 s m args below meth c Γ D cells slots Q σ 1986 [some (.ref b), some (.ref (Γ.1 + 0)), some (.ref (Γ.1 + 333)), some (.ref (Γ.1 + 346)), some (.int i9), none, none] [] := by
  unfold S_32 at hF
  refine e_aload_n X dL_law__1986 rfl rfl ?_
  refine e_aload_n X dL_law__1987 rfl rfl ?_
  refine e_iload X dL_law__1988 rfl ?_
  refine e_iconst X 1 dL_law__1990 rfl ?_
  refine e_iadd X dL_law__1991 ?_
  refine e_sld X hX hbl hbA hi1 ha1 dL_law__1992 ?_
  refine e_if_eq X 2000 dL_law__1993 (by decide) (fun c1 => ?_) (fun c1 => ?_)
  · skip
    rw [if_pos c1] at hF
    refine e_iconst X 0 dL_law__2000 rfl ?_
    refine e_aload_n X dL_law__2001 rfl rfl ?_
    obtain ⟨z2, h_z2, hF⟩ := obind_out hF
    refine e_callSH X (r := z2.2) (σ1 := z2.1) [.ref (Γ.1 + 0), .int 0, .ref (Γ.1 + 346)] [] (CH_anniversary (Cx_gok X) σ 0 h_z2) gsh_237 ykh_L_anniversary rfl ⟨Nat.le_of_ble_eq_true rfl, Nat.le_of_ble_eq_true rfl⟩ ⟨by have h9 := hcc; dsimp only [room_1] at h9 ⊢; omega, by have h9 := hss; dsimp only [room_1] at h9 ⊢; omega⟩ (Nat.le_of_ble_eq_true rfl) dL_law__2002 rfl ?_
    refine e_widen (c2 := cells + 8) (s2 := slots + 48) (by omega) (by omega) ?_
    refine e_istore X rfl dL_law__2005 (by decide) ?_
    refine e_aload_n X dL_law__2007 rfl rfl ?_
    refine e_aload_n X dL_law__2008 rfl rfl ?_
    refine e_iload X dL_law__2009 rfl ?_
    refine e_iconst X 1 dL_law__2011 rfl ?_
    refine e_iadd X dL_law__2012 ?_
    refine e_sld X hX hbl hbA hi1 ha1 dL_law__2013 ?_
    refine e_if_eq X 2021 dL_law__2014 (by decide) (fun c3 => ?_) (fun c3 => ?_)
    · skip
      rw [if_pos c3] at hF
      refine e_iconst X 0 dL_law__2021 rfl ?_
      obtain ⟨z4, h_z4, hF⟩ := obind_out hF
      refine e_callVi X (r := z4.2) (σ1 := z4.1) [.int 0] [] (C_M_anniversary (Cx_gok X) z2.1 0 h_z4) gv_L_240 yk_X12_anniversary rfl (ent_lt (rfl : entTbl[333]? = some (13, 0))) (ent_at (rfl : entTbl[333]? = some (13, 0)) _) (rfl : vCl[11]? = some (RX12, TX12, 24)) ⟨Nat.le_of_ble_eq_true rfl, Nat.le_of_ble_eq_true rfl⟩ ⟨by have h9 := hcc; dsimp only [room_1] at h9 ⊢; omega, by have h9 := hss; dsimp only [room_1] at h9 ⊢; omega⟩ (Nat.le_of_ble_eq_true rfl) dL_law__2022 rfl ?_
      refine e_istore X rfl dL_law__2025 (by decide) ?_
      refine e_aload_n X dL_law__2027 rfl rfl ?_
      refine e_callVi X (r := (F_M_thrown z4.1)) (σ1 := z4.1) [] [] (C_M_thrown (Cx_gok X) z4.1) gv_L_139 yk_X12_thrown rfl (ent_lt (rfl : entTbl[333]? = some (13, 0))) (ent_at (rfl : entTbl[333]? = some (13, 0)) _) (rfl : vCl[11]? = some (RX12, TX12, 24)) ⟨Nat.le_of_ble_eq_true rfl, Nat.le_of_ble_eq_true rfl⟩ ⟨by have h9 := hcc; dsimp only [room_1] at h9 ⊢; omega, by have h9 := hss; dsimp only [room_1] at h9 ⊢; omega⟩ (Nat.le_of_ble_eq_true rfl) dL_law__2028 rfl ?_
      refine e_iload X dL_law__2031 rfl ?_
      refine e_icmp_eq X 2038 dL_law__2033 (by decide) (fun c5 => ?_) (fun c5 => ?_)
      · skip
        rw [if_pos c5] at hF
        refine e_iload X dL_law__2038 rfl ?_
        refine e_if_ne X 2055 dL_law__2040 (by decide) (fun c6 => ?_) (fun c6 => ?_)
        · skip
          rw [if_neg c6] at hF
          refine e_goto X 2522 dL_law__2055 (by decide) ?_
          cases hF
          exact e_le hK (And.intro rfl (And.intro rfl (And.intro rfl (And.intro rfl (And.intro rfl trivial)))))
        · skip
          rw [if_pos c6] at hF
          refine e_aload_n X dL_law__2043 rfl rfl ?_
          refine e_iconst X 0 dL_law__2044 rfl ?_
          refine e_lald X dL_law__2045 ?_
          refine e_iload X dL_law__2046 rfl ?_
          refine e_i2l X dL_law__2048 ?_
          refine e_lcmpeq X 2055 dL_law__2049 dL_law__2050 (by decide) (fun c7 => ?_) (fun c7 => ?_)
          · skip
            rw [if_pos c7] at hF
            refine e_goto X 2522 dL_law__2055 (by decide) ?_
            cases hF
            exact e_le hK (And.intro rfl (And.intro rfl (And.intro rfl (And.intro rfl (And.intro rfl trivial)))))
          · skip
            rw [if_neg c7] at hF
            refine e_iconst X 0 dL_law__2053 rfl ?_
            cases hF
      · skip
        rw [if_neg c5] at hF
        refine e_iconst X 0 dL_law__2036 rfl ?_
        cases hF
    · skip
      rw [if_neg c3] at hF
      refine e_iconst X 1 dL_law__2017 rfl ?_
      refine e_goto X 2022 dL_law__2018 (by decide) ?_
      obtain ⟨z8, h_z8, hF⟩ := obind_out hF
      refine e_callVi X (r := z8.2) (σ1 := z8.1) [.int 1] [] (C_M_anniversary (Cx_gok X) z2.1 1 h_z8) gv_L_240 yk_X12_anniversary rfl (ent_lt (rfl : entTbl[333]? = some (13, 0))) (ent_at (rfl : entTbl[333]? = some (13, 0)) _) (rfl : vCl[11]? = some (RX12, TX12, 24)) ⟨Nat.le_of_ble_eq_true rfl, Nat.le_of_ble_eq_true rfl⟩ ⟨by have h9 := hcc; dsimp only [room_1] at h9 ⊢; omega, by have h9 := hss; dsimp only [room_1] at h9 ⊢; omega⟩ (Nat.le_of_ble_eq_true rfl) dL_law__2022 rfl ?_
      refine e_istore X rfl dL_law__2025 (by decide) ?_
      refine e_aload_n X dL_law__2027 rfl rfl ?_
      refine e_callVi X (r := (F_M_thrown z8.1)) (σ1 := z8.1) [] [] (C_M_thrown (Cx_gok X) z8.1) gv_L_139 yk_X12_thrown rfl (ent_lt (rfl : entTbl[333]? = some (13, 0))) (ent_at (rfl : entTbl[333]? = some (13, 0)) _) (rfl : vCl[11]? = some (RX12, TX12, 24)) ⟨Nat.le_of_ble_eq_true rfl, Nat.le_of_ble_eq_true rfl⟩ ⟨by have h9 := hcc; dsimp only [room_1] at h9 ⊢; omega, by have h9 := hss; dsimp only [room_1] at h9 ⊢; omega⟩ (Nat.le_of_ble_eq_true rfl) dL_law__2028 rfl ?_
      refine e_iload X dL_law__2031 rfl ?_
      refine e_icmp_eq X 2038 dL_law__2033 (by decide) (fun c9 => ?_) (fun c9 => ?_)
      · skip
        rw [if_pos c9] at hF
        refine e_iload X dL_law__2038 rfl ?_
        refine e_if_ne X 2055 dL_law__2040 (by decide) (fun c10 => ?_) (fun c10 => ?_)
        · skip
          rw [if_neg c10] at hF
          refine e_goto X 2522 dL_law__2055 (by decide) ?_
          cases hF
          exact e_le hK (And.intro rfl (And.intro rfl (And.intro rfl (And.intro rfl (And.intro rfl trivial)))))
        · skip
          rw [if_pos c10] at hF
          refine e_aload_n X dL_law__2043 rfl rfl ?_
          refine e_iconst X 0 dL_law__2044 rfl ?_
          refine e_lald X dL_law__2045 ?_
          refine e_iload X dL_law__2046 rfl ?_
          refine e_i2l X dL_law__2048 ?_
          refine e_lcmpeq X 2055 dL_law__2049 dL_law__2050 (by decide) (fun c11 => ?_) (fun c11 => ?_)
          · skip
            rw [if_pos c11] at hF
            refine e_goto X 2522 dL_law__2055 (by decide) ?_
            cases hF
            exact e_le hK (And.intro rfl (And.intro rfl (And.intro rfl (And.intro rfl (And.intro rfl trivial)))))
          · skip
            rw [if_neg c11] at hF
            refine e_iconst X 0 dL_law__2053 rfl ?_
            cases hF
      · skip
        rw [if_neg c9] at hF
        refine e_iconst X 0 dL_law__2036 rfl ?_
        cases hF
  · skip
    rw [if_neg c1] at hF
    refine e_iconst X 1 dL_law__1996 rfl ?_
    refine e_goto X 2001 dL_law__1997 (by decide) ?_
    refine e_aload_n X dL_law__2001 rfl rfl ?_
    obtain ⟨z12, h_z12, hF⟩ := obind_out hF
    refine e_callSH X (r := z12.2) (σ1 := z12.1) [.ref (Γ.1 + 0), .int 1, .ref (Γ.1 + 346)] [] (CH_anniversary (Cx_gok X) σ 1 h_z12) gsh_237 ykh_L_anniversary rfl ⟨Nat.le_of_ble_eq_true rfl, Nat.le_of_ble_eq_true rfl⟩ ⟨by have h9 := hcc; dsimp only [room_1] at h9 ⊢; omega, by have h9 := hss; dsimp only [room_1] at h9 ⊢; omega⟩ (Nat.le_of_ble_eq_true rfl) dL_law__2002 rfl ?_
    refine e_widen (c2 := cells + 8) (s2 := slots + 48) (by omega) (by omega) ?_
    refine e_istore X rfl dL_law__2005 (by decide) ?_
    refine e_aload_n X dL_law__2007 rfl rfl ?_
    refine e_aload_n X dL_law__2008 rfl rfl ?_
    refine e_iload X dL_law__2009 rfl ?_
    refine e_iconst X 1 dL_law__2011 rfl ?_
    refine e_iadd X dL_law__2012 ?_
    refine e_sld X hX hbl hbA hi1 ha1 dL_law__2013 ?_
    refine e_if_eq X 2021 dL_law__2014 (by decide) (fun c13 => ?_) (fun c13 => ?_)
    · skip
      rw [if_pos c13] at hF
      refine e_iconst X 0 dL_law__2021 rfl ?_
      obtain ⟨z14, h_z14, hF⟩ := obind_out hF
      refine e_callVi X (r := z14.2) (σ1 := z14.1) [.int 0] [] (C_M_anniversary (Cx_gok X) z12.1 0 h_z14) gv_L_240 yk_X12_anniversary rfl (ent_lt (rfl : entTbl[333]? = some (13, 0))) (ent_at (rfl : entTbl[333]? = some (13, 0)) _) (rfl : vCl[11]? = some (RX12, TX12, 24)) ⟨Nat.le_of_ble_eq_true rfl, Nat.le_of_ble_eq_true rfl⟩ ⟨by have h9 := hcc; dsimp only [room_1] at h9 ⊢; omega, by have h9 := hss; dsimp only [room_1] at h9 ⊢; omega⟩ (Nat.le_of_ble_eq_true rfl) dL_law__2022 rfl ?_
      refine e_istore X rfl dL_law__2025 (by decide) ?_
      refine e_aload_n X dL_law__2027 rfl rfl ?_
      refine e_callVi X (r := (F_M_thrown z14.1)) (σ1 := z14.1) [] [] (C_M_thrown (Cx_gok X) z14.1) gv_L_139 yk_X12_thrown rfl (ent_lt (rfl : entTbl[333]? = some (13, 0))) (ent_at (rfl : entTbl[333]? = some (13, 0)) _) (rfl : vCl[11]? = some (RX12, TX12, 24)) ⟨Nat.le_of_ble_eq_true rfl, Nat.le_of_ble_eq_true rfl⟩ ⟨by have h9 := hcc; dsimp only [room_1] at h9 ⊢; omega, by have h9 := hss; dsimp only [room_1] at h9 ⊢; omega⟩ (Nat.le_of_ble_eq_true rfl) dL_law__2028 rfl ?_
      refine e_iload X dL_law__2031 rfl ?_
      refine e_icmp_eq X 2038 dL_law__2033 (by decide) (fun c15 => ?_) (fun c15 => ?_)
      · skip
        rw [if_pos c15] at hF
        refine e_iload X dL_law__2038 rfl ?_
        refine e_if_ne X 2055 dL_law__2040 (by decide) (fun c16 => ?_) (fun c16 => ?_)
        · skip
          rw [if_neg c16] at hF
          refine e_goto X 2522 dL_law__2055 (by decide) ?_
          cases hF
          exact e_le hK (And.intro rfl (And.intro rfl (And.intro rfl (And.intro rfl (And.intro rfl trivial)))))
        · skip
          rw [if_pos c16] at hF
          refine e_aload_n X dL_law__2043 rfl rfl ?_
          refine e_iconst X 0 dL_law__2044 rfl ?_
          refine e_lald X dL_law__2045 ?_
          refine e_iload X dL_law__2046 rfl ?_
          refine e_i2l X dL_law__2048 ?_
          refine e_lcmpeq X 2055 dL_law__2049 dL_law__2050 (by decide) (fun c17 => ?_) (fun c17 => ?_)
          · skip
            rw [if_pos c17] at hF
            refine e_goto X 2522 dL_law__2055 (by decide) ?_
            cases hF
            exact e_le hK (And.intro rfl (And.intro rfl (And.intro rfl (And.intro rfl (And.intro rfl trivial)))))
          · skip
            rw [if_neg c17] at hF
            refine e_iconst X 0 dL_law__2053 rfl ?_
            cases hF
      · skip
        rw [if_neg c15] at hF
        refine e_iconst X 0 dL_law__2036 rfl ?_
        cases hF
    · skip
      rw [if_neg c13] at hF
      refine e_iconst X 1 dL_law__2017 rfl ?_
      refine e_goto X 2022 dL_law__2018 (by decide) ?_
      obtain ⟨z18, h_z18, hF⟩ := obind_out hF
      refine e_callVi X (r := z18.2) (σ1 := z18.1) [.int 1] [] (C_M_anniversary (Cx_gok X) z12.1 1 h_z18) gv_L_240 yk_X12_anniversary rfl (ent_lt (rfl : entTbl[333]? = some (13, 0))) (ent_at (rfl : entTbl[333]? = some (13, 0)) _) (rfl : vCl[11]? = some (RX12, TX12, 24)) ⟨Nat.le_of_ble_eq_true rfl, Nat.le_of_ble_eq_true rfl⟩ ⟨by have h9 := hcc; dsimp only [room_1] at h9 ⊢; omega, by have h9 := hss; dsimp only [room_1] at h9 ⊢; omega⟩ (Nat.le_of_ble_eq_true rfl) dL_law__2022 rfl ?_
      refine e_istore X rfl dL_law__2025 (by decide) ?_
      refine e_aload_n X dL_law__2027 rfl rfl ?_
      refine e_callVi X (r := (F_M_thrown z18.1)) (σ1 := z18.1) [] [] (C_M_thrown (Cx_gok X) z18.1) gv_L_139 yk_X12_thrown rfl (ent_lt (rfl : entTbl[333]? = some (13, 0))) (ent_at (rfl : entTbl[333]? = some (13, 0)) _) (rfl : vCl[11]? = some (RX12, TX12, 24)) ⟨Nat.le_of_ble_eq_true rfl, Nat.le_of_ble_eq_true rfl⟩ ⟨by have h9 := hcc; dsimp only [room_1] at h9 ⊢; omega, by have h9 := hss; dsimp only [room_1] at h9 ⊢; omega⟩ (Nat.le_of_ble_eq_true rfl) dL_law__2028 rfl ?_
      refine e_iload X dL_law__2031 rfl ?_
      refine e_icmp_eq X 2038 dL_law__2033 (by decide) (fun c19 => ?_) (fun c19 => ?_)
      · skip
        rw [if_pos c19] at hF
        refine e_iload X dL_law__2038 rfl ?_
        refine e_if_ne X 2055 dL_law__2040 (by decide) (fun c20 => ?_) (fun c20 => ?_)
        · skip
          rw [if_neg c20] at hF
          refine e_goto X 2522 dL_law__2055 (by decide) ?_
          cases hF
          exact e_le hK (And.intro rfl (And.intro rfl (And.intro rfl (And.intro rfl (And.intro rfl trivial)))))
        · skip
          rw [if_pos c20] at hF
          refine e_aload_n X dL_law__2043 rfl rfl ?_
          refine e_iconst X 0 dL_law__2044 rfl ?_
          refine e_lald X dL_law__2045 ?_
          refine e_iload X dL_law__2046 rfl ?_
          refine e_i2l X dL_law__2048 ?_
          refine e_lcmpeq X 2055 dL_law__2049 dL_law__2050 (by decide) (fun c21 => ?_) (fun c21 => ?_)
          · skip
            rw [if_pos c21] at hF
            refine e_goto X 2522 dL_law__2055 (by decide) ?_
            cases hF
            exact e_le hK (And.intro rfl (And.intro rfl (And.intro rfl (And.intro rfl (And.intro rfl trivial)))))
          · skip
            rw [if_neg c21] at hF
            refine e_iconst X 0 dL_law__2053 rfl ?_
            cases hF
      · skip
        rw [if_neg c19] at hF
        refine e_iconst X 0 dL_law__2036 rfl ?_
        cases hF
set_option maxRecDepth 20000 in
set_option maxHeartbeats 4000000 in
theorem T_33 {b L : Nat} {xs : Nat → Int32} {i9 a1 a2 a3 a4 a5 : Int32} (X : Cx p l s m args meth c Γ D s0 RL cL_law_ 7) (hX : va_X b L xs s s.heap) (hbl : b < s.heap.size) (hbA : ¬ Γ.1 ≤ b) (hi1 : vp_in (i9 + 1) L) (hi2 : vp_in (i9 + 2) L) (hi3 : vp_in (i9 + 3) L) (hi4 : vp_in (i9 + 4) L) (hi5 : vp_in (i9 + 5) L) (ha1 : xs (i9 + 1).toNatClampNeg = a1) (ha2 : xs (i9 + 2).toNatClampNeg = a2) (ha3 : xs (i9 + 3).toNatClampNeg = a3) (ha4 : xs (i9 + 4).toNatClampNeg = a4) (ha5 : xs (i9 + 5).toNatClampNeg = a5) (hcc : cells + 8 ≤ room_1.cells) (hss : slots + 48 ≤ room_1.slots) (σ : Mem) {z : Mem} (hF : S_33 σ a1 a2 a3 a4 a5 = some z) (hK : E p l e room_1 s m args below meth c Γ D (cells + 8) (slots + 48) Q z 2522 [some (.ref b), some (.ref (Γ.1 + 0)), some (.ref (Γ.1 + 333)), some (.ref (Γ.1 + 346)), some (.int i9)] []) : E p l e room_1 s m args below meth c Γ D cells slots Q σ 2058 [some (.ref b), some (.ref (Γ.1 + 0)), some (.ref (Γ.1 + 333)), some (.ref (Γ.1 + 346)), some (.int i9), none, none] [] := by
  unfold S_33 at hF
  refine e_aload_n X dL_law__2058 rfl rfl ?_
  refine e_aload_n X dL_law__2059 rfl rfl ?_
  obtain ⟨z1, h_z1, hF⟩ := obind_out hF
  refine e_callSH X (r := z1.2) (σ1 := z1.1) [.ref (Γ.1 + 0), .ref (Γ.1 + 346)] [] (CH_dance (Cx_gok X) σ h_z1) gsh_241 ykh_L_dance rfl ⟨Nat.le_of_ble_eq_true rfl, Nat.le_of_ble_eq_true rfl⟩ ⟨by have h9 := hcc; dsimp only [room_1] at h9 ⊢; omega, by have h9 := hss; dsimp only [room_1] at h9 ⊢; omega⟩ (Nat.le_of_ble_eq_true rfl) dL_law__2060 rfl ?_
  refine e_widen (c2 := cells + 8) (s2 := slots + 48) (by omega) (by omega) ?_
  refine e_istore X rfl dL_law__2063 (by decide) ?_
  refine e_aload_n X dL_law__2065 rfl rfl ?_
  obtain ⟨z2, h_z2, hF⟩ := obind_out hF
  refine e_callVi X (r := z2.2) (σ1 := z2.1) [] [] (C_M_dance (Cx_gok X) z1.1 h_z2) gv_L_243 yk_X12_dance rfl (ent_lt (rfl : entTbl[333]? = some (13, 0))) (ent_at (rfl : entTbl[333]? = some (13, 0)) _) (rfl : vCl[11]? = some (RX12, TX12, 24)) ⟨Nat.le_of_ble_eq_true rfl, Nat.le_of_ble_eq_true rfl⟩ ⟨by have h9 := hcc; dsimp only [room_1] at h9 ⊢; omega, by have h9 := hss; dsimp only [room_1] at h9 ⊢; omega⟩ (Nat.le_of_ble_eq_true rfl) dL_law__2066 rfl ?_
  refine e_istore X rfl dL_law__2069 (by decide) ?_
  refine e_aload_n X dL_law__2071 rfl rfl ?_
  refine e_callVi X (r := (F_M_thrown z2.1)) (σ1 := z2.1) [] [] (C_M_thrown (Cx_gok X) z2.1) gv_L_139 yk_X12_thrown rfl (ent_lt (rfl : entTbl[333]? = some (13, 0))) (ent_at (rfl : entTbl[333]? = some (13, 0)) _) (rfl : vCl[11]? = some (RX12, TX12, 24)) ⟨Nat.le_of_ble_eq_true rfl, Nat.le_of_ble_eq_true rfl⟩ ⟨by have h9 := hcc; dsimp only [room_1] at h9 ⊢; omega, by have h9 := hss; dsimp only [room_1] at h9 ⊢; omega⟩ (Nat.le_of_ble_eq_true rfl) dL_law__2072 rfl ?_
  refine e_iload X dL_law__2075 rfl ?_
  refine e_icmp_eq X 2082 dL_law__2077 (by decide) (fun c3 => ?_) (fun c3 => ?_)
  · skip
    rw [if_pos c3] at hF
    refine e_iload X dL_law__2082 rfl ?_
    refine e_if_ne X 2099 dL_law__2084 (by decide) (fun c4 => ?_) (fun c4 => ?_)
    · skip
      rw [if_neg c4] at hF
      refine e_goto X 2522 dL_law__2099 (by decide) ?_
      cases hF
      exact e_le hK (And.intro rfl (And.intro rfl (And.intro rfl (And.intro rfl (And.intro rfl trivial)))))
    · skip
      rw [if_pos c4] at hF
      refine e_aload_n X dL_law__2087 rfl rfl ?_
      refine e_iconst X 0 dL_law__2088 rfl ?_
      refine e_lald X dL_law__2089 ?_
      refine e_iload X dL_law__2090 rfl ?_
      refine e_i2l X dL_law__2092 ?_
      refine e_lcmpeq X 2099 dL_law__2093 dL_law__2094 (by decide) (fun c5 => ?_) (fun c5 => ?_)
      · skip
        rw [if_pos c5] at hF
        refine e_goto X 2522 dL_law__2099 (by decide) ?_
        cases hF
        exact e_le hK (And.intro rfl (And.intro rfl (And.intro rfl (And.intro rfl (And.intro rfl trivial)))))
      · skip
        rw [if_neg c5] at hF
        refine e_iconst X 0 dL_law__2097 rfl ?_
        cases hF
  · skip
    rw [if_neg c3] at hF
    refine e_iconst X 0 dL_law__2080 rfl ?_
    cases hF
set_option maxRecDepth 20000 in
set_option maxHeartbeats 4000000 in
theorem T_34 {b L : Nat} {xs : Nat → Int32} {i9 a1 a2 a3 a4 a5 : Int32} (X : Cx p l s m args meth c Γ D s0 RL cL_law_ 7) (hX : va_X b L xs s s.heap) (hbl : b < s.heap.size) (hbA : ¬ Γ.1 ≤ b) (hi1 : vp_in (i9 + 1) L) (hi2 : vp_in (i9 + 2) L) (hi3 : vp_in (i9 + 3) L) (hi4 : vp_in (i9 + 4) L) (hi5 : vp_in (i9 + 5) L) (ha1 : xs (i9 + 1).toNatClampNeg = a1) (ha2 : xs (i9 + 2).toNatClampNeg = a2) (ha3 : xs (i9 + 3).toNatClampNeg = a3) (ha4 : xs (i9 + 4).toNatClampNeg = a4) (ha5 : xs (i9 + 5).toNatClampNeg = a5) (hcc : cells + 8 ≤ room_1.cells) (hss : slots + 48 ≤ room_1.slots) (σ : Mem) {z : Mem} (hF : S_34 σ a1 a2 a3 a4 a5 = some z) (hK : E p l e room_1 s m args below meth c Γ D (cells + 8) (slots + 48) Q z 2522 [some (.ref b), some (.ref (Γ.1 + 0)), some (.ref (Γ.1 + 333)), some (.ref (Γ.1 + 346)), some (.int i9)] []) : E p l e room_1 s m args below meth c Γ D cells slots Q σ 2102 [some (.ref b), some (.ref (Γ.1 + 0)), some (.ref (Γ.1 + 333)), some (.ref (Γ.1 + 346)), some (.int i9), none, none] [] := by
  unfold S_34 at hF
  refine e_aload_n X dL_law__2102 rfl rfl ?_
  refine e_callVi X (r := (F_W_richest σ)) (σ1 := σ) [] [] (C_W_richest (Cx_gok X) σ) gv_L_244 yk_X11_richest rfl (ent_lt (rfl : entTbl[0]? = some (0, 0))) (ent_at (rfl : entTbl[0]? = some (0, 0)) _) (rfl : vCl[10]? = some (RX11, TX11, 17)) ⟨Nat.le_of_ble_eq_true rfl, Nat.le_of_ble_eq_true rfl⟩ ⟨by have h9 := hcc; dsimp only [room_1] at h9 ⊢; omega, by have h9 := hss; dsimp only [room_1] at h9 ⊢; omega⟩ (Nat.le_of_ble_eq_true rfl) dL_law__2103 rfl ?_
  refine e_aload_n X dL_law__2106 rfl rfl ?_
  obtain ⟨z1, h_z1, hF⟩ := obind_out hF
  refine e_callVi X (r := z1.2) (σ1 := z1.1) [] [.int ((F_W_richest σ))] (C_M_richest (Cx_gok X) σ h_z1) gv_L_247 yk_X12_richest rfl (ent_lt (rfl : entTbl[333]? = some (13, 0))) (ent_at (rfl : entTbl[333]? = some (13, 0)) _) (rfl : vCl[11]? = some (RX12, TX12, 24)) ⟨Nat.le_of_ble_eq_true rfl, Nat.le_of_ble_eq_true rfl⟩ ⟨by have h9 := hcc; dsimp only [room_1] at h9 ⊢; omega, by have h9 := hss; dsimp only [room_1] at h9 ⊢; omega⟩ (Nat.le_of_ble_eq_true rfl) dL_law__2107 rfl ?_
  refine e_icmp_eq X 2522 dL_law__2110 (by decide) (fun c2 => ?_) (fun c2 => ?_)
  · skip
    rw [if_pos c2] at hF
    cases hF
    refine e_widen (c2 := cells + 8) (s2 := slots + 48) (by omega) (by omega) ?_
    exact e_le hK (And.intro rfl (And.intro rfl (And.intro rfl (And.intro rfl (And.intro rfl trivial)))))
  · skip
    rw [if_neg c2] at hF
    refine e_iconst X 0 dL_law__2113 rfl ?_
    cases hF
set_option maxRecDepth 20000 in
set_option maxHeartbeats 4000000 in
theorem T_35 {b L : Nat} {xs : Nat → Int32} {i9 a1 a2 a3 a4 a5 : Int32} (X : Cx p l s m args meth c Γ D s0 RL cL_law_ 7) (hX : va_X b L xs s s.heap) (hbl : b < s.heap.size) (hbA : ¬ Γ.1 ≤ b) (hi1 : vp_in (i9 + 1) L) (hi2 : vp_in (i9 + 2) L) (hi3 : vp_in (i9 + 3) L) (hi4 : vp_in (i9 + 4) L) (hi5 : vp_in (i9 + 5) L) (ha1 : xs (i9 + 1).toNatClampNeg = a1) (ha2 : xs (i9 + 2).toNatClampNeg = a2) (ha3 : xs (i9 + 3).toNatClampNeg = a3) (ha4 : xs (i9 + 4).toNatClampNeg = a4) (ha5 : xs (i9 + 5).toNatClampNeg = a5) (hcc : cells + 8 ≤ room_1.cells) (hss : slots + 48 ≤ room_1.slots) (σ : Mem) {z : Mem} (hF : S_35 σ a1 a2 a3 a4 a5 = some z) (hK : E p l e room_1 s m args below meth c Γ D (cells + 8) (slots + 48) Q z 2522 [some (.ref b), some (.ref (Γ.1 + 0)), some (.ref (Γ.1 + 333)), some (.ref (Γ.1 + 346)), some (.int i9)] []) : E p l e room_1 s m args below meth c Γ D cells slots Q σ 2115 [some (.ref b), some (.ref (Γ.1 + 0)), some (.ref (Γ.1 + 333)), some (.ref (Γ.1 + 346)), some (.int i9), none, none] [] := by
  unfold S_35 at hF
  refine e_aload_n X dL_law__2115 rfl rfl ?_
  refine e_aload_n X dL_law__2116 rfl rfl ?_
  refine e_iload X dL_law__2117 rfl ?_
  refine e_iconst X 1 dL_law__2119 rfl ?_
  refine e_iadd X dL_law__2120 ?_
  refine e_sld X hX hbl hbA hi1 ha1 dL_law__2121 ?_
  refine e_aload_n X dL_law__2122 rfl rfl ?_
  refine e_iload X dL_law__2123 rfl ?_
  refine e_iconst X 2 dL_law__2125 rfl ?_
  refine e_iadd X dL_law__2126 ?_
  refine e_sld X hX hbl hbA hi2 ha2 dL_law__2127 ?_
  refine e_if_eq X 2135 dL_law__2128 (by decide) (fun c1 => ?_) (fun c1 => ?_)
  · skip
    rw [if_pos c1] at hF
    refine e_iconst X 0 dL_law__2135 rfl ?_
    refine e_aload_n X dL_law__2136 rfl rfl ?_
    obtain ⟨z2, h_z2, hF⟩ := obind_out hF
    refine e_callSH X (r := z2.2) (σ1 := z2.1) [.ref (Γ.1 + 0), .int a1, .int 0, .ref (Γ.1 + 346)] [] (CH_trial (Cx_gok X) σ a1 0 h_z2) gsh_248 ykh_L_trial rfl ⟨Nat.le_of_ble_eq_true rfl, Nat.le_of_ble_eq_true rfl⟩ ⟨by have h9 := hcc; dsimp only [room_1] at h9 ⊢; omega, by have h9 := hss; dsimp only [room_1] at h9 ⊢; omega⟩ (Nat.le_of_ble_eq_true rfl) dL_law__2137 rfl ?_
    refine e_widen (c2 := cells + 8) (s2 := slots + 48) (by omega) (by omega) ?_
    refine e_istore X rfl dL_law__2140 (by decide) ?_
    refine e_aload_n X dL_law__2142 rfl rfl ?_
    refine e_aload_n X dL_law__2143 rfl rfl ?_
    refine e_iload X dL_law__2144 rfl ?_
    refine e_iconst X 1 dL_law__2146 rfl ?_
    refine e_iadd X dL_law__2147 ?_
    refine e_sld X hX hbl hbA hi1 ha1 dL_law__2148 ?_
    refine e_aload_n X dL_law__2149 rfl rfl ?_
    refine e_iload X dL_law__2150 rfl ?_
    refine e_iconst X 2 dL_law__2152 rfl ?_
    refine e_iadd X dL_law__2153 ?_
    refine e_sld X hX hbl hbA hi2 ha2 dL_law__2154 ?_
    refine e_if_eq X 2162 dL_law__2155 (by decide) (fun c3 => ?_) (fun c3 => ?_)
    · skip
      rw [if_pos c3] at hF
      refine e_iconst X 0 dL_law__2162 rfl ?_
      obtain ⟨z4, h_z4, hF⟩ := obind_out hF
      refine e_callVi X (r := z4.2) (σ1 := z4.1) [.int a1, .int 0] [] (C_M_trial (Cx_gok X) z2.1 a1 0 h_z4) gv_L_251 yk_X12_trial rfl (ent_lt (rfl : entTbl[333]? = some (13, 0))) (ent_at (rfl : entTbl[333]? = some (13, 0)) _) (rfl : vCl[11]? = some (RX12, TX12, 24)) ⟨Nat.le_of_ble_eq_true rfl, Nat.le_of_ble_eq_true rfl⟩ ⟨by have h9 := hcc; dsimp only [room_1] at h9 ⊢; omega, by have h9 := hss; dsimp only [room_1] at h9 ⊢; omega⟩ (Nat.le_of_ble_eq_true rfl) dL_law__2163 rfl ?_
      refine e_istore X rfl dL_law__2166 (by decide) ?_
      refine e_aload_n X dL_law__2168 rfl rfl ?_
      refine e_callVi X (r := (F_M_thrown z4.1)) (σ1 := z4.1) [] [] (C_M_thrown (Cx_gok X) z4.1) gv_L_139 yk_X12_thrown rfl (ent_lt (rfl : entTbl[333]? = some (13, 0))) (ent_at (rfl : entTbl[333]? = some (13, 0)) _) (rfl : vCl[11]? = some (RX12, TX12, 24)) ⟨Nat.le_of_ble_eq_true rfl, Nat.le_of_ble_eq_true rfl⟩ ⟨by have h9 := hcc; dsimp only [room_1] at h9 ⊢; omega, by have h9 := hss; dsimp only [room_1] at h9 ⊢; omega⟩ (Nat.le_of_ble_eq_true rfl) dL_law__2169 rfl ?_
      refine e_iload X dL_law__2172 rfl ?_
      refine e_icmp_eq X 2179 dL_law__2174 (by decide) (fun c5 => ?_) (fun c5 => ?_)
      · skip
        rw [if_pos c5] at hF
        refine e_iload X dL_law__2179 rfl ?_
        refine e_if_ne X 2196 dL_law__2181 (by decide) (fun c6 => ?_) (fun c6 => ?_)
        · skip
          rw [if_neg c6] at hF
          refine e_goto X 2522 dL_law__2196 (by decide) ?_
          cases hF
          exact e_le hK (And.intro rfl (And.intro rfl (And.intro rfl (And.intro rfl (And.intro rfl trivial)))))
        · skip
          rw [if_pos c6] at hF
          refine e_aload_n X dL_law__2184 rfl rfl ?_
          refine e_iconst X 0 dL_law__2185 rfl ?_
          refine e_lald X dL_law__2186 ?_
          refine e_iload X dL_law__2187 rfl ?_
          refine e_i2l X dL_law__2189 ?_
          refine e_lcmpeq X 2196 dL_law__2190 dL_law__2191 (by decide) (fun c7 => ?_) (fun c7 => ?_)
          · skip
            rw [if_pos c7] at hF
            refine e_goto X 2522 dL_law__2196 (by decide) ?_
            cases hF
            exact e_le hK (And.intro rfl (And.intro rfl (And.intro rfl (And.intro rfl (And.intro rfl trivial)))))
          · skip
            rw [if_neg c7] at hF
            refine e_iconst X 0 dL_law__2194 rfl ?_
            cases hF
      · skip
        rw [if_neg c5] at hF
        refine e_iconst X 0 dL_law__2177 rfl ?_
        cases hF
    · skip
      rw [if_neg c3] at hF
      refine e_iconst X 1 dL_law__2158 rfl ?_
      refine e_goto X 2163 dL_law__2159 (by decide) ?_
      obtain ⟨z8, h_z8, hF⟩ := obind_out hF
      refine e_callVi X (r := z8.2) (σ1 := z8.1) [.int a1, .int 1] [] (C_M_trial (Cx_gok X) z2.1 a1 1 h_z8) gv_L_251 yk_X12_trial rfl (ent_lt (rfl : entTbl[333]? = some (13, 0))) (ent_at (rfl : entTbl[333]? = some (13, 0)) _) (rfl : vCl[11]? = some (RX12, TX12, 24)) ⟨Nat.le_of_ble_eq_true rfl, Nat.le_of_ble_eq_true rfl⟩ ⟨by have h9 := hcc; dsimp only [room_1] at h9 ⊢; omega, by have h9 := hss; dsimp only [room_1] at h9 ⊢; omega⟩ (Nat.le_of_ble_eq_true rfl) dL_law__2163 rfl ?_
      refine e_istore X rfl dL_law__2166 (by decide) ?_
      refine e_aload_n X dL_law__2168 rfl rfl ?_
      refine e_callVi X (r := (F_M_thrown z8.1)) (σ1 := z8.1) [] [] (C_M_thrown (Cx_gok X) z8.1) gv_L_139 yk_X12_thrown rfl (ent_lt (rfl : entTbl[333]? = some (13, 0))) (ent_at (rfl : entTbl[333]? = some (13, 0)) _) (rfl : vCl[11]? = some (RX12, TX12, 24)) ⟨Nat.le_of_ble_eq_true rfl, Nat.le_of_ble_eq_true rfl⟩ ⟨by have h9 := hcc; dsimp only [room_1] at h9 ⊢; omega, by have h9 := hss; dsimp only [room_1] at h9 ⊢; omega⟩ (Nat.le_of_ble_eq_true rfl) dL_law__2169 rfl ?_
      refine e_iload X dL_law__2172 rfl ?_
      refine e_icmp_eq X 2179 dL_law__2174 (by decide) (fun c9 => ?_) (fun c9 => ?_)
      · skip
        rw [if_pos c9] at hF
        refine e_iload X dL_law__2179 rfl ?_
        refine e_if_ne X 2196 dL_law__2181 (by decide) (fun c10 => ?_) (fun c10 => ?_)
        · skip
          rw [if_neg c10] at hF
          refine e_goto X 2522 dL_law__2196 (by decide) ?_
          cases hF
          exact e_le hK (And.intro rfl (And.intro rfl (And.intro rfl (And.intro rfl (And.intro rfl trivial)))))
        · skip
          rw [if_pos c10] at hF
          refine e_aload_n X dL_law__2184 rfl rfl ?_
          refine e_iconst X 0 dL_law__2185 rfl ?_
          refine e_lald X dL_law__2186 ?_
          refine e_iload X dL_law__2187 rfl ?_
          refine e_i2l X dL_law__2189 ?_
          refine e_lcmpeq X 2196 dL_law__2190 dL_law__2191 (by decide) (fun c11 => ?_) (fun c11 => ?_)
          · skip
            rw [if_pos c11] at hF
            refine e_goto X 2522 dL_law__2196 (by decide) ?_
            cases hF
            exact e_le hK (And.intro rfl (And.intro rfl (And.intro rfl (And.intro rfl (And.intro rfl trivial)))))
          · skip
            rw [if_neg c11] at hF
            refine e_iconst X 0 dL_law__2194 rfl ?_
            cases hF
      · skip
        rw [if_neg c9] at hF
        refine e_iconst X 0 dL_law__2177 rfl ?_
        cases hF
  · skip
    rw [if_neg c1] at hF
    refine e_iconst X 1 dL_law__2131 rfl ?_
    refine e_goto X 2136 dL_law__2132 (by decide) ?_
    refine e_aload_n X dL_law__2136 rfl rfl ?_
    obtain ⟨z12, h_z12, hF⟩ := obind_out hF
    refine e_callSH X (r := z12.2) (σ1 := z12.1) [.ref (Γ.1 + 0), .int a1, .int 1, .ref (Γ.1 + 346)] [] (CH_trial (Cx_gok X) σ a1 1 h_z12) gsh_248 ykh_L_trial rfl ⟨Nat.le_of_ble_eq_true rfl, Nat.le_of_ble_eq_true rfl⟩ ⟨by have h9 := hcc; dsimp only [room_1] at h9 ⊢; omega, by have h9 := hss; dsimp only [room_1] at h9 ⊢; omega⟩ (Nat.le_of_ble_eq_true rfl) dL_law__2137 rfl ?_
    refine e_widen (c2 := cells + 8) (s2 := slots + 48) (by omega) (by omega) ?_
    refine e_istore X rfl dL_law__2140 (by decide) ?_
    refine e_aload_n X dL_law__2142 rfl rfl ?_
    refine e_aload_n X dL_law__2143 rfl rfl ?_
    refine e_iload X dL_law__2144 rfl ?_
    refine e_iconst X 1 dL_law__2146 rfl ?_
    refine e_iadd X dL_law__2147 ?_
    refine e_sld X hX hbl hbA hi1 ha1 dL_law__2148 ?_
    refine e_aload_n X dL_law__2149 rfl rfl ?_
    refine e_iload X dL_law__2150 rfl ?_
    refine e_iconst X 2 dL_law__2152 rfl ?_
    refine e_iadd X dL_law__2153 ?_
    refine e_sld X hX hbl hbA hi2 ha2 dL_law__2154 ?_
    refine e_if_eq X 2162 dL_law__2155 (by decide) (fun c13 => ?_) (fun c13 => ?_)
    · skip
      rw [if_pos c13] at hF
      refine e_iconst X 0 dL_law__2162 rfl ?_
      obtain ⟨z14, h_z14, hF⟩ := obind_out hF
      refine e_callVi X (r := z14.2) (σ1 := z14.1) [.int a1, .int 0] [] (C_M_trial (Cx_gok X) z12.1 a1 0 h_z14) gv_L_251 yk_X12_trial rfl (ent_lt (rfl : entTbl[333]? = some (13, 0))) (ent_at (rfl : entTbl[333]? = some (13, 0)) _) (rfl : vCl[11]? = some (RX12, TX12, 24)) ⟨Nat.le_of_ble_eq_true rfl, Nat.le_of_ble_eq_true rfl⟩ ⟨by have h9 := hcc; dsimp only [room_1] at h9 ⊢; omega, by have h9 := hss; dsimp only [room_1] at h9 ⊢; omega⟩ (Nat.le_of_ble_eq_true rfl) dL_law__2163 rfl ?_
      refine e_istore X rfl dL_law__2166 (by decide) ?_
      refine e_aload_n X dL_law__2168 rfl rfl ?_
      refine e_callVi X (r := (F_M_thrown z14.1)) (σ1 := z14.1) [] [] (C_M_thrown (Cx_gok X) z14.1) gv_L_139 yk_X12_thrown rfl (ent_lt (rfl : entTbl[333]? = some (13, 0))) (ent_at (rfl : entTbl[333]? = some (13, 0)) _) (rfl : vCl[11]? = some (RX12, TX12, 24)) ⟨Nat.le_of_ble_eq_true rfl, Nat.le_of_ble_eq_true rfl⟩ ⟨by have h9 := hcc; dsimp only [room_1] at h9 ⊢; omega, by have h9 := hss; dsimp only [room_1] at h9 ⊢; omega⟩ (Nat.le_of_ble_eq_true rfl) dL_law__2169 rfl ?_
      refine e_iload X dL_law__2172 rfl ?_
      refine e_icmp_eq X 2179 dL_law__2174 (by decide) (fun c15 => ?_) (fun c15 => ?_)
      · skip
        rw [if_pos c15] at hF
        refine e_iload X dL_law__2179 rfl ?_
        refine e_if_ne X 2196 dL_law__2181 (by decide) (fun c16 => ?_) (fun c16 => ?_)
        · skip
          rw [if_neg c16] at hF
          refine e_goto X 2522 dL_law__2196 (by decide) ?_
          cases hF
          exact e_le hK (And.intro rfl (And.intro rfl (And.intro rfl (And.intro rfl (And.intro rfl trivial)))))
        · skip
          rw [if_pos c16] at hF
          refine e_aload_n X dL_law__2184 rfl rfl ?_
          refine e_iconst X 0 dL_law__2185 rfl ?_
          refine e_lald X dL_law__2186 ?_
          refine e_iload X dL_law__2187 rfl ?_
          refine e_i2l X dL_law__2189 ?_
          refine e_lcmpeq X 2196 dL_law__2190 dL_law__2191 (by decide) (fun c17 => ?_) (fun c17 => ?_)
          · skip
            rw [if_pos c17] at hF
            refine e_goto X 2522 dL_law__2196 (by decide) ?_
            cases hF
            exact e_le hK (And.intro rfl (And.intro rfl (And.intro rfl (And.intro rfl (And.intro rfl trivial)))))
          · skip
            rw [if_neg c17] at hF
            refine e_iconst X 0 dL_law__2194 rfl ?_
            cases hF
      · skip
        rw [if_neg c15] at hF
        refine e_iconst X 0 dL_law__2177 rfl ?_
        cases hF
    · skip
      rw [if_neg c13] at hF
      refine e_iconst X 1 dL_law__2158 rfl ?_
      refine e_goto X 2163 dL_law__2159 (by decide) ?_
      obtain ⟨z18, h_z18, hF⟩ := obind_out hF
      refine e_callVi X (r := z18.2) (σ1 := z18.1) [.int a1, .int 1] [] (C_M_trial (Cx_gok X) z12.1 a1 1 h_z18) gv_L_251 yk_X12_trial rfl (ent_lt (rfl : entTbl[333]? = some (13, 0))) (ent_at (rfl : entTbl[333]? = some (13, 0)) _) (rfl : vCl[11]? = some (RX12, TX12, 24)) ⟨Nat.le_of_ble_eq_true rfl, Nat.le_of_ble_eq_true rfl⟩ ⟨by have h9 := hcc; dsimp only [room_1] at h9 ⊢; omega, by have h9 := hss; dsimp only [room_1] at h9 ⊢; omega⟩ (Nat.le_of_ble_eq_true rfl) dL_law__2163 rfl ?_
      refine e_istore X rfl dL_law__2166 (by decide) ?_
      refine e_aload_n X dL_law__2168 rfl rfl ?_
      refine e_callVi X (r := (F_M_thrown z18.1)) (σ1 := z18.1) [] [] (C_M_thrown (Cx_gok X) z18.1) gv_L_139 yk_X12_thrown rfl (ent_lt (rfl : entTbl[333]? = some (13, 0))) (ent_at (rfl : entTbl[333]? = some (13, 0)) _) (rfl : vCl[11]? = some (RX12, TX12, 24)) ⟨Nat.le_of_ble_eq_true rfl, Nat.le_of_ble_eq_true rfl⟩ ⟨by have h9 := hcc; dsimp only [room_1] at h9 ⊢; omega, by have h9 := hss; dsimp only [room_1] at h9 ⊢; omega⟩ (Nat.le_of_ble_eq_true rfl) dL_law__2169 rfl ?_
      refine e_iload X dL_law__2172 rfl ?_
      refine e_icmp_eq X 2179 dL_law__2174 (by decide) (fun c19 => ?_) (fun c19 => ?_)
      · skip
        rw [if_pos c19] at hF
        refine e_iload X dL_law__2179 rfl ?_
        refine e_if_ne X 2196 dL_law__2181 (by decide) (fun c20 => ?_) (fun c20 => ?_)
        · skip
          rw [if_neg c20] at hF
          refine e_goto X 2522 dL_law__2196 (by decide) ?_
          cases hF
          exact e_le hK (And.intro rfl (And.intro rfl (And.intro rfl (And.intro rfl (And.intro rfl trivial)))))
        · skip
          rw [if_pos c20] at hF
          refine e_aload_n X dL_law__2184 rfl rfl ?_
          refine e_iconst X 0 dL_law__2185 rfl ?_
          refine e_lald X dL_law__2186 ?_
          refine e_iload X dL_law__2187 rfl ?_
          refine e_i2l X dL_law__2189 ?_
          refine e_lcmpeq X 2196 dL_law__2190 dL_law__2191 (by decide) (fun c21 => ?_) (fun c21 => ?_)
          · skip
            rw [if_pos c21] at hF
            refine e_goto X 2522 dL_law__2196 (by decide) ?_
            cases hF
            exact e_le hK (And.intro rfl (And.intro rfl (And.intro rfl (And.intro rfl (And.intro rfl trivial)))))
          · skip
            rw [if_neg c21] at hF
            refine e_iconst X 0 dL_law__2194 rfl ?_
            cases hF
      · skip
        rw [if_neg c19] at hF
        refine e_iconst X 0 dL_law__2177 rfl ?_
        cases hF
set_option maxRecDepth 20000 in
set_option maxHeartbeats 4000000 in
theorem T_36 {b L : Nat} {xs : Nat → Int32} {i9 a1 a2 a3 a4 a5 : Int32} (X : Cx p l s m args meth c Γ D s0 RL cL_law_ 7) (hX : va_X b L xs s s.heap) (hbl : b < s.heap.size) (hbA : ¬ Γ.1 ≤ b) (hi1 : vp_in (i9 + 1) L) (hi2 : vp_in (i9 + 2) L) (hi3 : vp_in (i9 + 3) L) (hi4 : vp_in (i9 + 4) L) (hi5 : vp_in (i9 + 5) L) (ha1 : xs (i9 + 1).toNatClampNeg = a1) (ha2 : xs (i9 + 2).toNatClampNeg = a2) (ha3 : xs (i9 + 3).toNatClampNeg = a3) (ha4 : xs (i9 + 4).toNatClampNeg = a4) (ha5 : xs (i9 + 5).toNatClampNeg = a5) (hcc : cells + 8 ≤ room_1.cells) (hss : slots + 48 ≤ room_1.slots) (σ : Mem) {z : Mem} (hF : S_36 σ a1 a2 a3 a4 a5 = some z) (hK : E p l e room_1 s m args below meth c Γ D (cells + 8) (slots + 48) Q z 2522 [some (.ref b), some (.ref (Γ.1 + 0)), some (.ref (Γ.1 + 333)), some (.ref (Γ.1 + 346)), some (.int i9)] []) : E p l e room_1 s m args below meth c Γ D cells slots Q σ 2199 [some (.ref b), some (.ref (Γ.1 + 0)), some (.ref (Γ.1 + 333)), some (.ref (Γ.1 + 346)), some (.int i9), none, none] [] := by
  unfold S_36 at hF
  refine e_aload_n X dL_law__2199 rfl rfl ?_
  refine e_aload_n X dL_law__2200 rfl rfl ?_
  refine e_iload X dL_law__2201 rfl ?_
  refine e_iconst X 1 dL_law__2203 rfl ?_
  refine e_iadd X dL_law__2204 ?_
  refine e_sld X hX hbl hbA hi1 ha1 dL_law__2205 ?_
  refine e_aload_n X dL_law__2206 rfl rfl ?_
  refine e_iload X dL_law__2207 rfl ?_
  refine e_iconst X 2 dL_law__2209 rfl ?_
  refine e_iadd X dL_law__2210 ?_
  refine e_sld X hX hbl hbA hi2 ha2 dL_law__2211 ?_
  refine e_if_eq X 2219 dL_law__2212 (by decide) (fun c1 => ?_) (fun c1 => ?_)
  · skip
    rw [if_pos c1] at hF
    refine e_iconst X 0 dL_law__2219 rfl ?_
    refine e_aload_n X dL_law__2220 rfl rfl ?_
    obtain ⟨z2, h_z2, hF⟩ := obind_out hF
    refine e_callSH X (r := z2.2) (σ1 := z2.1) [.ref (Γ.1 + 0), .int a1, .int 0, .ref (Γ.1 + 346)] [] (CH_span (Cx_gok X) σ a1 0 h_z2) gsh_252 ykh_L_span rfl ⟨Nat.le_of_ble_eq_true rfl, Nat.le_of_ble_eq_true rfl⟩ ⟨by have h9 := hcc; dsimp only [room_1] at h9 ⊢; omega, by have h9 := hss; dsimp only [room_1] at h9 ⊢; omega⟩ (Nat.le_of_ble_eq_true rfl) dL_law__2221 rfl ?_
    refine e_widen (c2 := cells + 8) (s2 := slots + 48) (by omega) (by omega) ?_
    refine e_istore X rfl dL_law__2224 (by decide) ?_
    refine e_aload_n X dL_law__2226 rfl rfl ?_
    refine e_aload_n X dL_law__2227 rfl rfl ?_
    refine e_iload X dL_law__2228 rfl ?_
    refine e_iconst X 1 dL_law__2230 rfl ?_
    refine e_iadd X dL_law__2231 ?_
    refine e_sld X hX hbl hbA hi1 ha1 dL_law__2232 ?_
    refine e_aload_n X dL_law__2233 rfl rfl ?_
    refine e_iload X dL_law__2234 rfl ?_
    refine e_iconst X 2 dL_law__2236 rfl ?_
    refine e_iadd X dL_law__2237 ?_
    refine e_sld X hX hbl hbA hi2 ha2 dL_law__2238 ?_
    refine e_if_eq X 2246 dL_law__2239 (by decide) (fun c3 => ?_) (fun c3 => ?_)
    · skip
      rw [if_pos c3] at hF
      refine e_iconst X 0 dL_law__2246 rfl ?_
      obtain ⟨z4, h_z4, hF⟩ := obind_out hF
      refine e_callVi X (r := z4.2) (σ1 := z4.1) [.int a1, .int 0] [] (C_M_span (Cx_gok X) z2.1 a1 0 h_z4) gv_L_254 yk_X12_span rfl (ent_lt (rfl : entTbl[333]? = some (13, 0))) (ent_at (rfl : entTbl[333]? = some (13, 0)) _) (rfl : vCl[11]? = some (RX12, TX12, 24)) ⟨Nat.le_of_ble_eq_true rfl, Nat.le_of_ble_eq_true rfl⟩ ⟨by have h9 := hcc; dsimp only [room_1] at h9 ⊢; omega, by have h9 := hss; dsimp only [room_1] at h9 ⊢; omega⟩ (Nat.le_of_ble_eq_true rfl) dL_law__2247 rfl ?_
      refine e_istore X rfl dL_law__2250 (by decide) ?_
      refine e_aload_n X dL_law__2252 rfl rfl ?_
      refine e_callVi X (r := (F_M_thrown z4.1)) (σ1 := z4.1) [] [] (C_M_thrown (Cx_gok X) z4.1) gv_L_139 yk_X12_thrown rfl (ent_lt (rfl : entTbl[333]? = some (13, 0))) (ent_at (rfl : entTbl[333]? = some (13, 0)) _) (rfl : vCl[11]? = some (RX12, TX12, 24)) ⟨Nat.le_of_ble_eq_true rfl, Nat.le_of_ble_eq_true rfl⟩ ⟨by have h9 := hcc; dsimp only [room_1] at h9 ⊢; omega, by have h9 := hss; dsimp only [room_1] at h9 ⊢; omega⟩ (Nat.le_of_ble_eq_true rfl) dL_law__2253 rfl ?_
      refine e_iload X dL_law__2256 rfl ?_
      refine e_icmp_eq X 2263 dL_law__2258 (by decide) (fun c5 => ?_) (fun c5 => ?_)
      · skip
        rw [if_pos c5] at hF
        refine e_iload X dL_law__2263 rfl ?_
        refine e_if_ne X 2280 dL_law__2265 (by decide) (fun c6 => ?_) (fun c6 => ?_)
        · skip
          rw [if_neg c6] at hF
          refine e_goto X 2522 dL_law__2280 (by decide) ?_
          cases hF
          exact e_le hK (And.intro rfl (And.intro rfl (And.intro rfl (And.intro rfl (And.intro rfl trivial)))))
        · skip
          rw [if_pos c6] at hF
          refine e_aload_n X dL_law__2268 rfl rfl ?_
          refine e_iconst X 0 dL_law__2269 rfl ?_
          refine e_lald X dL_law__2270 ?_
          refine e_iload X dL_law__2271 rfl ?_
          refine e_i2l X dL_law__2273 ?_
          refine e_lcmpeq X 2280 dL_law__2274 dL_law__2275 (by decide) (fun c7 => ?_) (fun c7 => ?_)
          · skip
            rw [if_pos c7] at hF
            refine e_goto X 2522 dL_law__2280 (by decide) ?_
            cases hF
            exact e_le hK (And.intro rfl (And.intro rfl (And.intro rfl (And.intro rfl (And.intro rfl trivial)))))
          · skip
            rw [if_neg c7] at hF
            refine e_iconst X 0 dL_law__2278 rfl ?_
            cases hF
      · skip
        rw [if_neg c5] at hF
        refine e_iconst X 0 dL_law__2261 rfl ?_
        cases hF
    · skip
      rw [if_neg c3] at hF
      refine e_iconst X 1 dL_law__2242 rfl ?_
      refine e_goto X 2247 dL_law__2243 (by decide) ?_
      obtain ⟨z8, h_z8, hF⟩ := obind_out hF
      refine e_callVi X (r := z8.2) (σ1 := z8.1) [.int a1, .int 1] [] (C_M_span (Cx_gok X) z2.1 a1 1 h_z8) gv_L_254 yk_X12_span rfl (ent_lt (rfl : entTbl[333]? = some (13, 0))) (ent_at (rfl : entTbl[333]? = some (13, 0)) _) (rfl : vCl[11]? = some (RX12, TX12, 24)) ⟨Nat.le_of_ble_eq_true rfl, Nat.le_of_ble_eq_true rfl⟩ ⟨by have h9 := hcc; dsimp only [room_1] at h9 ⊢; omega, by have h9 := hss; dsimp only [room_1] at h9 ⊢; omega⟩ (Nat.le_of_ble_eq_true rfl) dL_law__2247 rfl ?_
      refine e_istore X rfl dL_law__2250 (by decide) ?_
      refine e_aload_n X dL_law__2252 rfl rfl ?_
      refine e_callVi X (r := (F_M_thrown z8.1)) (σ1 := z8.1) [] [] (C_M_thrown (Cx_gok X) z8.1) gv_L_139 yk_X12_thrown rfl (ent_lt (rfl : entTbl[333]? = some (13, 0))) (ent_at (rfl : entTbl[333]? = some (13, 0)) _) (rfl : vCl[11]? = some (RX12, TX12, 24)) ⟨Nat.le_of_ble_eq_true rfl, Nat.le_of_ble_eq_true rfl⟩ ⟨by have h9 := hcc; dsimp only [room_1] at h9 ⊢; omega, by have h9 := hss; dsimp only [room_1] at h9 ⊢; omega⟩ (Nat.le_of_ble_eq_true rfl) dL_law__2253 rfl ?_
      refine e_iload X dL_law__2256 rfl ?_
      refine e_icmp_eq X 2263 dL_law__2258 (by decide) (fun c9 => ?_) (fun c9 => ?_)
      · skip
        rw [if_pos c9] at hF
        refine e_iload X dL_law__2263 rfl ?_
        refine e_if_ne X 2280 dL_law__2265 (by decide) (fun c10 => ?_) (fun c10 => ?_)
        · skip
          rw [if_neg c10] at hF
          refine e_goto X 2522 dL_law__2280 (by decide) ?_
          cases hF
          exact e_le hK (And.intro rfl (And.intro rfl (And.intro rfl (And.intro rfl (And.intro rfl trivial)))))
        · skip
          rw [if_pos c10] at hF
          refine e_aload_n X dL_law__2268 rfl rfl ?_
          refine e_iconst X 0 dL_law__2269 rfl ?_
          refine e_lald X dL_law__2270 ?_
          refine e_iload X dL_law__2271 rfl ?_
          refine e_i2l X dL_law__2273 ?_
          refine e_lcmpeq X 2280 dL_law__2274 dL_law__2275 (by decide) (fun c11 => ?_) (fun c11 => ?_)
          · skip
            rw [if_pos c11] at hF
            refine e_goto X 2522 dL_law__2280 (by decide) ?_
            cases hF
            exact e_le hK (And.intro rfl (And.intro rfl (And.intro rfl (And.intro rfl (And.intro rfl trivial)))))
          · skip
            rw [if_neg c11] at hF
            refine e_iconst X 0 dL_law__2278 rfl ?_
            cases hF
      · skip
        rw [if_neg c9] at hF
        refine e_iconst X 0 dL_law__2261 rfl ?_
        cases hF
  · skip
    rw [if_neg c1] at hF
    refine e_iconst X 1 dL_law__2215 rfl ?_
    refine e_goto X 2220 dL_law__2216 (by decide) ?_
    refine e_aload_n X dL_law__2220 rfl rfl ?_
    obtain ⟨z12, h_z12, hF⟩ := obind_out hF
    refine e_callSH X (r := z12.2) (σ1 := z12.1) [.ref (Γ.1 + 0), .int a1, .int 1, .ref (Γ.1 + 346)] [] (CH_span (Cx_gok X) σ a1 1 h_z12) gsh_252 ykh_L_span rfl ⟨Nat.le_of_ble_eq_true rfl, Nat.le_of_ble_eq_true rfl⟩ ⟨by have h9 := hcc; dsimp only [room_1] at h9 ⊢; omega, by have h9 := hss; dsimp only [room_1] at h9 ⊢; omega⟩ (Nat.le_of_ble_eq_true rfl) dL_law__2221 rfl ?_
    refine e_widen (c2 := cells + 8) (s2 := slots + 48) (by omega) (by omega) ?_
    refine e_istore X rfl dL_law__2224 (by decide) ?_
    refine e_aload_n X dL_law__2226 rfl rfl ?_
    refine e_aload_n X dL_law__2227 rfl rfl ?_
    refine e_iload X dL_law__2228 rfl ?_
    refine e_iconst X 1 dL_law__2230 rfl ?_
    refine e_iadd X dL_law__2231 ?_
    refine e_sld X hX hbl hbA hi1 ha1 dL_law__2232 ?_
    refine e_aload_n X dL_law__2233 rfl rfl ?_
    refine e_iload X dL_law__2234 rfl ?_
    refine e_iconst X 2 dL_law__2236 rfl ?_
    refine e_iadd X dL_law__2237 ?_
    refine e_sld X hX hbl hbA hi2 ha2 dL_law__2238 ?_
    refine e_if_eq X 2246 dL_law__2239 (by decide) (fun c13 => ?_) (fun c13 => ?_)
    · skip
      rw [if_pos c13] at hF
      refine e_iconst X 0 dL_law__2246 rfl ?_
      obtain ⟨z14, h_z14, hF⟩ := obind_out hF
      refine e_callVi X (r := z14.2) (σ1 := z14.1) [.int a1, .int 0] [] (C_M_span (Cx_gok X) z12.1 a1 0 h_z14) gv_L_254 yk_X12_span rfl (ent_lt (rfl : entTbl[333]? = some (13, 0))) (ent_at (rfl : entTbl[333]? = some (13, 0)) _) (rfl : vCl[11]? = some (RX12, TX12, 24)) ⟨Nat.le_of_ble_eq_true rfl, Nat.le_of_ble_eq_true rfl⟩ ⟨by have h9 := hcc; dsimp only [room_1] at h9 ⊢; omega, by have h9 := hss; dsimp only [room_1] at h9 ⊢; omega⟩ (Nat.le_of_ble_eq_true rfl) dL_law__2247 rfl ?_
      refine e_istore X rfl dL_law__2250 (by decide) ?_
      refine e_aload_n X dL_law__2252 rfl rfl ?_
      refine e_callVi X (r := (F_M_thrown z14.1)) (σ1 := z14.1) [] [] (C_M_thrown (Cx_gok X) z14.1) gv_L_139 yk_X12_thrown rfl (ent_lt (rfl : entTbl[333]? = some (13, 0))) (ent_at (rfl : entTbl[333]? = some (13, 0)) _) (rfl : vCl[11]? = some (RX12, TX12, 24)) ⟨Nat.le_of_ble_eq_true rfl, Nat.le_of_ble_eq_true rfl⟩ ⟨by have h9 := hcc; dsimp only [room_1] at h9 ⊢; omega, by have h9 := hss; dsimp only [room_1] at h9 ⊢; omega⟩ (Nat.le_of_ble_eq_true rfl) dL_law__2253 rfl ?_
      refine e_iload X dL_law__2256 rfl ?_
      refine e_icmp_eq X 2263 dL_law__2258 (by decide) (fun c15 => ?_) (fun c15 => ?_)
      · skip
        rw [if_pos c15] at hF
        refine e_iload X dL_law__2263 rfl ?_
        refine e_if_ne X 2280 dL_law__2265 (by decide) (fun c16 => ?_) (fun c16 => ?_)
        · skip
          rw [if_neg c16] at hF
          refine e_goto X 2522 dL_law__2280 (by decide) ?_
          cases hF
          exact e_le hK (And.intro rfl (And.intro rfl (And.intro rfl (And.intro rfl (And.intro rfl trivial)))))
        · skip
          rw [if_pos c16] at hF
          refine e_aload_n X dL_law__2268 rfl rfl ?_
          refine e_iconst X 0 dL_law__2269 rfl ?_
          refine e_lald X dL_law__2270 ?_
          refine e_iload X dL_law__2271 rfl ?_
          refine e_i2l X dL_law__2273 ?_
          refine e_lcmpeq X 2280 dL_law__2274 dL_law__2275 (by decide) (fun c17 => ?_) (fun c17 => ?_)
          · skip
            rw [if_pos c17] at hF
            refine e_goto X 2522 dL_law__2280 (by decide) ?_
            cases hF
            exact e_le hK (And.intro rfl (And.intro rfl (And.intro rfl (And.intro rfl (And.intro rfl trivial)))))
          · skip
            rw [if_neg c17] at hF
            refine e_iconst X 0 dL_law__2278 rfl ?_
            cases hF
      · skip
        rw [if_neg c15] at hF
        refine e_iconst X 0 dL_law__2261 rfl ?_
        cases hF
    · skip
      rw [if_neg c13] at hF
      refine e_iconst X 1 dL_law__2242 rfl ?_
      refine e_goto X 2247 dL_law__2243 (by decide) ?_
      obtain ⟨z18, h_z18, hF⟩ := obind_out hF
      refine e_callVi X (r := z18.2) (σ1 := z18.1) [.int a1, .int 1] [] (C_M_span (Cx_gok X) z12.1 a1 1 h_z18) gv_L_254 yk_X12_span rfl (ent_lt (rfl : entTbl[333]? = some (13, 0))) (ent_at (rfl : entTbl[333]? = some (13, 0)) _) (rfl : vCl[11]? = some (RX12, TX12, 24)) ⟨Nat.le_of_ble_eq_true rfl, Nat.le_of_ble_eq_true rfl⟩ ⟨by have h9 := hcc; dsimp only [room_1] at h9 ⊢; omega, by have h9 := hss; dsimp only [room_1] at h9 ⊢; omega⟩ (Nat.le_of_ble_eq_true rfl) dL_law__2247 rfl ?_
      refine e_istore X rfl dL_law__2250 (by decide) ?_
      refine e_aload_n X dL_law__2252 rfl rfl ?_
      refine e_callVi X (r := (F_M_thrown z18.1)) (σ1 := z18.1) [] [] (C_M_thrown (Cx_gok X) z18.1) gv_L_139 yk_X12_thrown rfl (ent_lt (rfl : entTbl[333]? = some (13, 0))) (ent_at (rfl : entTbl[333]? = some (13, 0)) _) (rfl : vCl[11]? = some (RX12, TX12, 24)) ⟨Nat.le_of_ble_eq_true rfl, Nat.le_of_ble_eq_true rfl⟩ ⟨by have h9 := hcc; dsimp only [room_1] at h9 ⊢; omega, by have h9 := hss; dsimp only [room_1] at h9 ⊢; omega⟩ (Nat.le_of_ble_eq_true rfl) dL_law__2253 rfl ?_
      refine e_iload X dL_law__2256 rfl ?_
      refine e_icmp_eq X 2263 dL_law__2258 (by decide) (fun c19 => ?_) (fun c19 => ?_)
      · skip
        rw [if_pos c19] at hF
        refine e_iload X dL_law__2263 rfl ?_
        refine e_if_ne X 2280 dL_law__2265 (by decide) (fun c20 => ?_) (fun c20 => ?_)
        · skip
          rw [if_neg c20] at hF
          refine e_goto X 2522 dL_law__2280 (by decide) ?_
          cases hF
          exact e_le hK (And.intro rfl (And.intro rfl (And.intro rfl (And.intro rfl (And.intro rfl trivial)))))
        · skip
          rw [if_pos c20] at hF
          refine e_aload_n X dL_law__2268 rfl rfl ?_
          refine e_iconst X 0 dL_law__2269 rfl ?_
          refine e_lald X dL_law__2270 ?_
          refine e_iload X dL_law__2271 rfl ?_
          refine e_i2l X dL_law__2273 ?_
          refine e_lcmpeq X 2280 dL_law__2274 dL_law__2275 (by decide) (fun c21 => ?_) (fun c21 => ?_)
          · skip
            rw [if_pos c21] at hF
            refine e_goto X 2522 dL_law__2280 (by decide) ?_
            cases hF
            exact e_le hK (And.intro rfl (And.intro rfl (And.intro rfl (And.intro rfl (And.intro rfl trivial)))))
          · skip
            rw [if_neg c21] at hF
            refine e_iconst X 0 dL_law__2278 rfl ?_
            cases hF
      · skip
        rw [if_neg c19] at hF
        refine e_iconst X 0 dL_law__2261 rfl ?_
        cases hF
set_option maxRecDepth 20000 in
set_option maxHeartbeats 4000000 in
theorem T_37 {b L : Nat} {xs : Nat → Int32} {i9 a1 a2 a3 a4 a5 : Int32} (X : Cx p l s m args meth c Γ D s0 RL cL_law_ 7) (hX : va_X b L xs s s.heap) (hbl : b < s.heap.size) (hbA : ¬ Γ.1 ≤ b) (hi1 : vp_in (i9 + 1) L) (hi2 : vp_in (i9 + 2) L) (hi3 : vp_in (i9 + 3) L) (hi4 : vp_in (i9 + 4) L) (hi5 : vp_in (i9 + 5) L) (ha1 : xs (i9 + 1).toNatClampNeg = a1) (ha2 : xs (i9 + 2).toNatClampNeg = a2) (ha3 : xs (i9 + 3).toNatClampNeg = a3) (ha4 : xs (i9 + 4).toNatClampNeg = a4) (ha5 : xs (i9 + 5).toNatClampNeg = a5) (hcc : cells + 8 ≤ room_1.cells) (hss : slots + 48 ≤ room_1.slots) (σ : Mem) {z : Mem} (hF : S_37 σ a1 a2 a3 a4 a5 = some z) (hK : E p l e room_1 s m args below meth c Γ D (cells + 8) (slots + 48) Q z 2522 [some (.ref b), some (.ref (Γ.1 + 0)), some (.ref (Γ.1 + 333)), some (.ref (Γ.1 + 346)), some (.int i9)] []) : E p l e room_1 s m args below meth c Γ D cells slots Q σ 2283 [some (.ref b), some (.ref (Γ.1 + 0)), some (.ref (Γ.1 + 333)), some (.ref (Γ.1 + 346)), some (.int i9), none, none] [] := by
  unfold S_37 at hF
  refine e_aload_n X dL_law__2283 rfl rfl ?_
  refine e_aload_n X dL_law__2284 rfl rfl ?_
  refine e_iload X dL_law__2285 rfl ?_
  refine e_iconst X 1 dL_law__2287 rfl ?_
  refine e_iadd X dL_law__2288 ?_
  refine e_sld X hX hbl hbA hi1 ha1 dL_law__2289 ?_
  refine e_aload_n X dL_law__2290 rfl rfl ?_
  refine e_iload X dL_law__2291 rfl ?_
  refine e_iconst X 2 dL_law__2293 rfl ?_
  refine e_iadd X dL_law__2294 ?_
  refine e_sld X hX hbl hbA hi2 ha2 dL_law__2295 ?_
  refine e_if_eq X 2303 dL_law__2296 (by decide) (fun c1 => ?_) (fun c1 => ?_)
  · skip
    rw [if_pos c1] at hF
    refine e_iconst X 0 dL_law__2303 rfl ?_
    refine e_aload_n X dL_law__2304 rfl rfl ?_
    obtain ⟨z2, h_z2, hF⟩ := obind_out hF
    refine e_callSH X (r := z2.2) (σ1 := z2.1) [.ref (Γ.1 + 0), .int a1, .int 0, .ref (Γ.1 + 346)] [] (CH_led (Cx_gok X) σ a1 0 h_z2) gsh_255 ykh_L_led rfl ⟨Nat.le_of_ble_eq_true rfl, Nat.le_of_ble_eq_true rfl⟩ ⟨by have h9 := hcc; dsimp only [room_1] at h9 ⊢; omega, by have h9 := hss; dsimp only [room_1] at h9 ⊢; omega⟩ (Nat.le_of_ble_eq_true rfl) dL_law__2305 rfl ?_
    refine e_widen (c2 := cells + 8) (s2 := slots + 48) (by omega) (by omega) ?_
    refine e_istore X rfl dL_law__2308 (by decide) ?_
    refine e_aload_n X dL_law__2310 rfl rfl ?_
    refine e_aload_n X dL_law__2311 rfl rfl ?_
    refine e_iload X dL_law__2312 rfl ?_
    refine e_iconst X 1 dL_law__2314 rfl ?_
    refine e_iadd X dL_law__2315 ?_
    refine e_sld X hX hbl hbA hi1 ha1 dL_law__2316 ?_
    refine e_aload_n X dL_law__2317 rfl rfl ?_
    refine e_iload X dL_law__2318 rfl ?_
    refine e_iconst X 2 dL_law__2320 rfl ?_
    refine e_iadd X dL_law__2321 ?_
    refine e_sld X hX hbl hbA hi2 ha2 dL_law__2322 ?_
    refine e_if_eq X 2330 dL_law__2323 (by decide) (fun c3 => ?_) (fun c3 => ?_)
    · skip
      rw [if_pos c3] at hF
      refine e_iconst X 0 dL_law__2330 rfl ?_
      obtain ⟨z4, h_z4, hF⟩ := obind_out hF
      refine e_callVi X (r := z4.2) (σ1 := z4.1) [.int a1, .int 0] [] (C_M_led (Cx_gok X) z2.1 a1 0 h_z4) gv_L_257 yk_X12_led rfl (ent_lt (rfl : entTbl[333]? = some (13, 0))) (ent_at (rfl : entTbl[333]? = some (13, 0)) _) (rfl : vCl[11]? = some (RX12, TX12, 24)) ⟨Nat.le_of_ble_eq_true rfl, Nat.le_of_ble_eq_true rfl⟩ ⟨by have h9 := hcc; dsimp only [room_1] at h9 ⊢; omega, by have h9 := hss; dsimp only [room_1] at h9 ⊢; omega⟩ (Nat.le_of_ble_eq_true rfl) dL_law__2331 rfl ?_
      refine e_istore X rfl dL_law__2334 (by decide) ?_
      refine e_aload_n X dL_law__2336 rfl rfl ?_
      refine e_callVi X (r := (F_M_thrown z4.1)) (σ1 := z4.1) [] [] (C_M_thrown (Cx_gok X) z4.1) gv_L_139 yk_X12_thrown rfl (ent_lt (rfl : entTbl[333]? = some (13, 0))) (ent_at (rfl : entTbl[333]? = some (13, 0)) _) (rfl : vCl[11]? = some (RX12, TX12, 24)) ⟨Nat.le_of_ble_eq_true rfl, Nat.le_of_ble_eq_true rfl⟩ ⟨by have h9 := hcc; dsimp only [room_1] at h9 ⊢; omega, by have h9 := hss; dsimp only [room_1] at h9 ⊢; omega⟩ (Nat.le_of_ble_eq_true rfl) dL_law__2337 rfl ?_
      refine e_iload X dL_law__2340 rfl ?_
      refine e_icmp_eq X 2347 dL_law__2342 (by decide) (fun c5 => ?_) (fun c5 => ?_)
      · skip
        rw [if_pos c5] at hF
        refine e_iload X dL_law__2347 rfl ?_
        refine e_if_ne X 2364 dL_law__2349 (by decide) (fun c6 => ?_) (fun c6 => ?_)
        · skip
          rw [if_neg c6] at hF
          refine e_goto X 2522 dL_law__2364 (by decide) ?_
          cases hF
          exact e_le hK (And.intro rfl (And.intro rfl (And.intro rfl (And.intro rfl (And.intro rfl trivial)))))
        · skip
          rw [if_pos c6] at hF
          refine e_aload_n X dL_law__2352 rfl rfl ?_
          refine e_iconst X 0 dL_law__2353 rfl ?_
          refine e_lald X dL_law__2354 ?_
          refine e_iload X dL_law__2355 rfl ?_
          refine e_i2l X dL_law__2357 ?_
          refine e_lcmpeq X 2364 dL_law__2358 dL_law__2359 (by decide) (fun c7 => ?_) (fun c7 => ?_)
          · skip
            rw [if_pos c7] at hF
            refine e_goto X 2522 dL_law__2364 (by decide) ?_
            cases hF
            exact e_le hK (And.intro rfl (And.intro rfl (And.intro rfl (And.intro rfl (And.intro rfl trivial)))))
          · skip
            rw [if_neg c7] at hF
            refine e_iconst X 0 dL_law__2362 rfl ?_
            cases hF
      · skip
        rw [if_neg c5] at hF
        refine e_iconst X 0 dL_law__2345 rfl ?_
        cases hF
    · skip
      rw [if_neg c3] at hF
      refine e_iconst X 1 dL_law__2326 rfl ?_
      refine e_goto X 2331 dL_law__2327 (by decide) ?_
      obtain ⟨z8, h_z8, hF⟩ := obind_out hF
      refine e_callVi X (r := z8.2) (σ1 := z8.1) [.int a1, .int 1] [] (C_M_led (Cx_gok X) z2.1 a1 1 h_z8) gv_L_257 yk_X12_led rfl (ent_lt (rfl : entTbl[333]? = some (13, 0))) (ent_at (rfl : entTbl[333]? = some (13, 0)) _) (rfl : vCl[11]? = some (RX12, TX12, 24)) ⟨Nat.le_of_ble_eq_true rfl, Nat.le_of_ble_eq_true rfl⟩ ⟨by have h9 := hcc; dsimp only [room_1] at h9 ⊢; omega, by have h9 := hss; dsimp only [room_1] at h9 ⊢; omega⟩ (Nat.le_of_ble_eq_true rfl) dL_law__2331 rfl ?_
      refine e_istore X rfl dL_law__2334 (by decide) ?_
      refine e_aload_n X dL_law__2336 rfl rfl ?_
      refine e_callVi X (r := (F_M_thrown z8.1)) (σ1 := z8.1) [] [] (C_M_thrown (Cx_gok X) z8.1) gv_L_139 yk_X12_thrown rfl (ent_lt (rfl : entTbl[333]? = some (13, 0))) (ent_at (rfl : entTbl[333]? = some (13, 0)) _) (rfl : vCl[11]? = some (RX12, TX12, 24)) ⟨Nat.le_of_ble_eq_true rfl, Nat.le_of_ble_eq_true rfl⟩ ⟨by have h9 := hcc; dsimp only [room_1] at h9 ⊢; omega, by have h9 := hss; dsimp only [room_1] at h9 ⊢; omega⟩ (Nat.le_of_ble_eq_true rfl) dL_law__2337 rfl ?_
      refine e_iload X dL_law__2340 rfl ?_
      refine e_icmp_eq X 2347 dL_law__2342 (by decide) (fun c9 => ?_) (fun c9 => ?_)
      · skip
        rw [if_pos c9] at hF
        refine e_iload X dL_law__2347 rfl ?_
        refine e_if_ne X 2364 dL_law__2349 (by decide) (fun c10 => ?_) (fun c10 => ?_)
        · skip
          rw [if_neg c10] at hF
          refine e_goto X 2522 dL_law__2364 (by decide) ?_
          cases hF
          exact e_le hK (And.intro rfl (And.intro rfl (And.intro rfl (And.intro rfl (And.intro rfl trivial)))))
        · skip
          rw [if_pos c10] at hF
          refine e_aload_n X dL_law__2352 rfl rfl ?_
          refine e_iconst X 0 dL_law__2353 rfl ?_
          refine e_lald X dL_law__2354 ?_
          refine e_iload X dL_law__2355 rfl ?_
          refine e_i2l X dL_law__2357 ?_
          refine e_lcmpeq X 2364 dL_law__2358 dL_law__2359 (by decide) (fun c11 => ?_) (fun c11 => ?_)
          · skip
            rw [if_pos c11] at hF
            refine e_goto X 2522 dL_law__2364 (by decide) ?_
            cases hF
            exact e_le hK (And.intro rfl (And.intro rfl (And.intro rfl (And.intro rfl (And.intro rfl trivial)))))
          · skip
            rw [if_neg c11] at hF
            refine e_iconst X 0 dL_law__2362 rfl ?_
            cases hF
      · skip
        rw [if_neg c9] at hF
        refine e_iconst X 0 dL_law__2345 rfl ?_
        cases hF
  · skip
    rw [if_neg c1] at hF
    refine e_iconst X 1 dL_law__2299 rfl ?_
    refine e_goto X 2304 dL_law__2300 (by decide) ?_
    refine e_aload_n X dL_law__2304 rfl rfl ?_
    obtain ⟨z12, h_z12, hF⟩ := obind_out hF
    refine e_callSH X (r := z12.2) (σ1 := z12.1) [.ref (Γ.1 + 0), .int a1, .int 1, .ref (Γ.1 + 346)] [] (CH_led (Cx_gok X) σ a1 1 h_z12) gsh_255 ykh_L_led rfl ⟨Nat.le_of_ble_eq_true rfl, Nat.le_of_ble_eq_true rfl⟩ ⟨by have h9 := hcc; dsimp only [room_1] at h9 ⊢; omega, by have h9 := hss; dsimp only [room_1] at h9 ⊢; omega⟩ (Nat.le_of_ble_eq_true rfl) dL_law__2305 rfl ?_
    refine e_widen (c2 := cells + 8) (s2 := slots + 48) (by omega) (by omega) ?_
    refine e_istore X rfl dL_law__2308 (by decide) ?_
    refine e_aload_n X dL_law__2310 rfl rfl ?_
    refine e_aload_n X dL_law__2311 rfl rfl ?_
    refine e_iload X dL_law__2312 rfl ?_
    refine e_iconst X 1 dL_law__2314 rfl ?_
    refine e_iadd X dL_law__2315 ?_
    refine e_sld X hX hbl hbA hi1 ha1 dL_law__2316 ?_
    refine e_aload_n X dL_law__2317 rfl rfl ?_
    refine e_iload X dL_law__2318 rfl ?_
    refine e_iconst X 2 dL_law__2320 rfl ?_
    refine e_iadd X dL_law__2321 ?_
    refine e_sld X hX hbl hbA hi2 ha2 dL_law__2322 ?_
    refine e_if_eq X 2330 dL_law__2323 (by decide) (fun c13 => ?_) (fun c13 => ?_)
    · skip
      rw [if_pos c13] at hF
      refine e_iconst X 0 dL_law__2330 rfl ?_
      obtain ⟨z14, h_z14, hF⟩ := obind_out hF
      refine e_callVi X (r := z14.2) (σ1 := z14.1) [.int a1, .int 0] [] (C_M_led (Cx_gok X) z12.1 a1 0 h_z14) gv_L_257 yk_X12_led rfl (ent_lt (rfl : entTbl[333]? = some (13, 0))) (ent_at (rfl : entTbl[333]? = some (13, 0)) _) (rfl : vCl[11]? = some (RX12, TX12, 24)) ⟨Nat.le_of_ble_eq_true rfl, Nat.le_of_ble_eq_true rfl⟩ ⟨by have h9 := hcc; dsimp only [room_1] at h9 ⊢; omega, by have h9 := hss; dsimp only [room_1] at h9 ⊢; omega⟩ (Nat.le_of_ble_eq_true rfl) dL_law__2331 rfl ?_
      refine e_istore X rfl dL_law__2334 (by decide) ?_
      refine e_aload_n X dL_law__2336 rfl rfl ?_
      refine e_callVi X (r := (F_M_thrown z14.1)) (σ1 := z14.1) [] [] (C_M_thrown (Cx_gok X) z14.1) gv_L_139 yk_X12_thrown rfl (ent_lt (rfl : entTbl[333]? = some (13, 0))) (ent_at (rfl : entTbl[333]? = some (13, 0)) _) (rfl : vCl[11]? = some (RX12, TX12, 24)) ⟨Nat.le_of_ble_eq_true rfl, Nat.le_of_ble_eq_true rfl⟩ ⟨by have h9 := hcc; dsimp only [room_1] at h9 ⊢; omega, by have h9 := hss; dsimp only [room_1] at h9 ⊢; omega⟩ (Nat.le_of_ble_eq_true rfl) dL_law__2337 rfl ?_
      refine e_iload X dL_law__2340 rfl ?_
      refine e_icmp_eq X 2347 dL_law__2342 (by decide) (fun c15 => ?_) (fun c15 => ?_)
      · skip
        rw [if_pos c15] at hF
        refine e_iload X dL_law__2347 rfl ?_
        refine e_if_ne X 2364 dL_law__2349 (by decide) (fun c16 => ?_) (fun c16 => ?_)
        · skip
          rw [if_neg c16] at hF
          refine e_goto X 2522 dL_law__2364 (by decide) ?_
          cases hF
          exact e_le hK (And.intro rfl (And.intro rfl (And.intro rfl (And.intro rfl (And.intro rfl trivial)))))
        · skip
          rw [if_pos c16] at hF
          refine e_aload_n X dL_law__2352 rfl rfl ?_
          refine e_iconst X 0 dL_law__2353 rfl ?_
          refine e_lald X dL_law__2354 ?_
          refine e_iload X dL_law__2355 rfl ?_
          refine e_i2l X dL_law__2357 ?_
          refine e_lcmpeq X 2364 dL_law__2358 dL_law__2359 (by decide) (fun c17 => ?_) (fun c17 => ?_)
          · skip
            rw [if_pos c17] at hF
            refine e_goto X 2522 dL_law__2364 (by decide) ?_
            cases hF
            exact e_le hK (And.intro rfl (And.intro rfl (And.intro rfl (And.intro rfl (And.intro rfl trivial)))))
          · skip
            rw [if_neg c17] at hF
            refine e_iconst X 0 dL_law__2362 rfl ?_
            cases hF
      · skip
        rw [if_neg c15] at hF
        refine e_iconst X 0 dL_law__2345 rfl ?_
        cases hF
    · skip
      rw [if_neg c13] at hF
      refine e_iconst X 1 dL_law__2326 rfl ?_
      refine e_goto X 2331 dL_law__2327 (by decide) ?_
      obtain ⟨z18, h_z18, hF⟩ := obind_out hF
      refine e_callVi X (r := z18.2) (σ1 := z18.1) [.int a1, .int 1] [] (C_M_led (Cx_gok X) z12.1 a1 1 h_z18) gv_L_257 yk_X12_led rfl (ent_lt (rfl : entTbl[333]? = some (13, 0))) (ent_at (rfl : entTbl[333]? = some (13, 0)) _) (rfl : vCl[11]? = some (RX12, TX12, 24)) ⟨Nat.le_of_ble_eq_true rfl, Nat.le_of_ble_eq_true rfl⟩ ⟨by have h9 := hcc; dsimp only [room_1] at h9 ⊢; omega, by have h9 := hss; dsimp only [room_1] at h9 ⊢; omega⟩ (Nat.le_of_ble_eq_true rfl) dL_law__2331 rfl ?_
      refine e_istore X rfl dL_law__2334 (by decide) ?_
      refine e_aload_n X dL_law__2336 rfl rfl ?_
      refine e_callVi X (r := (F_M_thrown z18.1)) (σ1 := z18.1) [] [] (C_M_thrown (Cx_gok X) z18.1) gv_L_139 yk_X12_thrown rfl (ent_lt (rfl : entTbl[333]? = some (13, 0))) (ent_at (rfl : entTbl[333]? = some (13, 0)) _) (rfl : vCl[11]? = some (RX12, TX12, 24)) ⟨Nat.le_of_ble_eq_true rfl, Nat.le_of_ble_eq_true rfl⟩ ⟨by have h9 := hcc; dsimp only [room_1] at h9 ⊢; omega, by have h9 := hss; dsimp only [room_1] at h9 ⊢; omega⟩ (Nat.le_of_ble_eq_true rfl) dL_law__2337 rfl ?_
      refine e_iload X dL_law__2340 rfl ?_
      refine e_icmp_eq X 2347 dL_law__2342 (by decide) (fun c19 => ?_) (fun c19 => ?_)
      · skip
        rw [if_pos c19] at hF
        refine e_iload X dL_law__2347 rfl ?_
        refine e_if_ne X 2364 dL_law__2349 (by decide) (fun c20 => ?_) (fun c20 => ?_)
        · skip
          rw [if_neg c20] at hF
          refine e_goto X 2522 dL_law__2364 (by decide) ?_
          cases hF
          exact e_le hK (And.intro rfl (And.intro rfl (And.intro rfl (And.intro rfl (And.intro rfl trivial)))))
        · skip
          rw [if_pos c20] at hF
          refine e_aload_n X dL_law__2352 rfl rfl ?_
          refine e_iconst X 0 dL_law__2353 rfl ?_
          refine e_lald X dL_law__2354 ?_
          refine e_iload X dL_law__2355 rfl ?_
          refine e_i2l X dL_law__2357 ?_
          refine e_lcmpeq X 2364 dL_law__2358 dL_law__2359 (by decide) (fun c21 => ?_) (fun c21 => ?_)
          · skip
            rw [if_pos c21] at hF
            refine e_goto X 2522 dL_law__2364 (by decide) ?_
            cases hF
            exact e_le hK (And.intro rfl (And.intro rfl (And.intro rfl (And.intro rfl (And.intro rfl trivial)))))
          · skip
            rw [if_neg c21] at hF
            refine e_iconst X 0 dL_law__2362 rfl ?_
            cases hF
      · skip
        rw [if_neg c19] at hF
        refine e_iconst X 0 dL_law__2345 rfl ?_
        cases hF
set_option maxRecDepth 20000 in
set_option maxHeartbeats 4000000 in
theorem T_38 {b L : Nat} {xs : Nat → Int32} {i9 a1 a2 a3 a4 a5 : Int32} (X : Cx p l s m args meth c Γ D s0 RL cL_law_ 7) (hX : va_X b L xs s s.heap) (hbl : b < s.heap.size) (hbA : ¬ Γ.1 ≤ b) (hi1 : vp_in (i9 + 1) L) (hi2 : vp_in (i9 + 2) L) (hi3 : vp_in (i9 + 3) L) (hi4 : vp_in (i9 + 4) L) (hi5 : vp_in (i9 + 5) L) (ha1 : xs (i9 + 1).toNatClampNeg = a1) (ha2 : xs (i9 + 2).toNatClampNeg = a2) (ha3 : xs (i9 + 3).toNatClampNeg = a3) (ha4 : xs (i9 + 4).toNatClampNeg = a4) (ha5 : xs (i9 + 5).toNatClampNeg = a5) (hcc : cells + 8 ≤ room_1.cells) (hss : slots + 48 ≤ room_1.slots) (σ : Mem) {z : Mem} (hF : S_38 σ a1 a2 a3 a4 a5 = some z) (hK : E p l e room_1 s m args below meth c Γ D (cells + 8) (slots + 48) Q z 2522 [some (.ref b), some (.ref (Γ.1 + 0)), some (.ref (Γ.1 + 333)), some (.ref (Γ.1 + 346)), some (.int i9)] []) : E p l e room_1 s m args below meth c Γ D cells slots Q σ 2367 [some (.ref b), some (.ref (Γ.1 + 0)), some (.ref (Γ.1 + 333)), some (.ref (Γ.1 + 346)), some (.int i9), none, none] [] := by
  unfold S_38 at hF
  refine e_aload_n X dL_law__2367 rfl rfl ?_
  refine e_aload_n X dL_law__2368 rfl rfl ?_
  refine e_iload X dL_law__2369 rfl ?_
  refine e_iconst X 1 dL_law__2371 rfl ?_
  refine e_iadd X dL_law__2372 ?_
  refine e_sld X hX hbl hbA hi1 ha1 dL_law__2373 ?_
  refine e_aload_n X dL_law__2374 rfl rfl ?_
  refine e_iload X dL_law__2375 rfl ?_
  refine e_iconst X 2 dL_law__2377 rfl ?_
  refine e_iadd X dL_law__2378 ?_
  refine e_sld X hX hbl hbA hi2 ha2 dL_law__2379 ?_
  refine e_aload_n X dL_law__2380 rfl rfl ?_
  obtain ⟨z1, h_z1, hF⟩ := obind_out hF
  refine e_callSH X (r := z1.2) (σ1 := z1.1) [.ref (Γ.1 + 0), .int a1, .int a2, .ref (Γ.1 + 346)] [] (CH_log (Cx_gok X) σ a1 a2 h_z1) gsh_258 ykh_L_log rfl ⟨Nat.le_of_ble_eq_true rfl, Nat.le_of_ble_eq_true rfl⟩ ⟨by have h9 := hcc; dsimp only [room_1] at h9 ⊢; omega, by have h9 := hss; dsimp only [room_1] at h9 ⊢; omega⟩ (Nat.le_of_ble_eq_true rfl) dL_law__2381 rfl ?_
  refine e_widen (c2 := cells + 8) (s2 := slots + 48) (by omega) (by omega) ?_
  refine e_istore X rfl dL_law__2384 (by decide) ?_
  refine e_aload_n X dL_law__2386 rfl rfl ?_
  refine e_aload_n X dL_law__2387 rfl rfl ?_
  refine e_iload X dL_law__2388 rfl ?_
  refine e_iconst X 1 dL_law__2390 rfl ?_
  refine e_iadd X dL_law__2391 ?_
  refine e_sld X hX hbl hbA hi1 ha1 dL_law__2392 ?_
  refine e_aload_n X dL_law__2393 rfl rfl ?_
  refine e_iload X dL_law__2394 rfl ?_
  refine e_iconst X 2 dL_law__2396 rfl ?_
  refine e_iadd X dL_law__2397 ?_
  refine e_sld X hX hbl hbA hi2 ha2 dL_law__2398 ?_
  obtain ⟨z2, h_z2, hF⟩ := obind_out hF
  refine e_callVi X (r := z2.2) (σ1 := z2.1) [.int a1, .int a2] [] (C_M_log (Cx_gok X) z1.1 a1 a2 h_z2) gv_L_260 yk_X12_log rfl (ent_lt (rfl : entTbl[333]? = some (13, 0))) (ent_at (rfl : entTbl[333]? = some (13, 0)) _) (rfl : vCl[11]? = some (RX12, TX12, 24)) ⟨Nat.le_of_ble_eq_true rfl, Nat.le_of_ble_eq_true rfl⟩ ⟨by have h9 := hcc; dsimp only [room_1] at h9 ⊢; omega, by have h9 := hss; dsimp only [room_1] at h9 ⊢; omega⟩ (Nat.le_of_ble_eq_true rfl) dL_law__2399 rfl ?_
  refine e_istore X rfl dL_law__2402 (by decide) ?_
  refine e_aload_n X dL_law__2404 rfl rfl ?_
  refine e_callVi X (r := (F_M_thrown z2.1)) (σ1 := z2.1) [] [] (C_M_thrown (Cx_gok X) z2.1) gv_L_139 yk_X12_thrown rfl (ent_lt (rfl : entTbl[333]? = some (13, 0))) (ent_at (rfl : entTbl[333]? = some (13, 0)) _) (rfl : vCl[11]? = some (RX12, TX12, 24)) ⟨Nat.le_of_ble_eq_true rfl, Nat.le_of_ble_eq_true rfl⟩ ⟨by have h9 := hcc; dsimp only [room_1] at h9 ⊢; omega, by have h9 := hss; dsimp only [room_1] at h9 ⊢; omega⟩ (Nat.le_of_ble_eq_true rfl) dL_law__2405 rfl ?_
  refine e_iload X dL_law__2408 rfl ?_
  refine e_icmp_eq X 2415 dL_law__2410 (by decide) (fun c3 => ?_) (fun c3 => ?_)
  · skip
    rw [if_pos c3] at hF
    refine e_iload X dL_law__2415 rfl ?_
    refine e_if_ne X 2432 dL_law__2417 (by decide) (fun c4 => ?_) (fun c4 => ?_)
    · skip
      rw [if_neg c4] at hF
      refine e_goto X 2522 dL_law__2432 (by decide) ?_
      cases hF
      exact e_le hK (And.intro rfl (And.intro rfl (And.intro rfl (And.intro rfl (And.intro rfl trivial)))))
    · skip
      rw [if_pos c4] at hF
      refine e_aload_n X dL_law__2420 rfl rfl ?_
      refine e_iconst X 0 dL_law__2421 rfl ?_
      refine e_lald X dL_law__2422 ?_
      refine e_iload X dL_law__2423 rfl ?_
      refine e_i2l X dL_law__2425 ?_
      refine e_lcmpeq X 2432 dL_law__2426 dL_law__2427 (by decide) (fun c5 => ?_) (fun c5 => ?_)
      · skip
        rw [if_pos c5] at hF
        refine e_goto X 2522 dL_law__2432 (by decide) ?_
        cases hF
        exact e_le hK (And.intro rfl (And.intro rfl (And.intro rfl (And.intro rfl (And.intro rfl trivial)))))
      · skip
        rw [if_neg c5] at hF
        refine e_iconst X 0 dL_law__2430 rfl ?_
        cases hF
  · skip
    rw [if_neg c3] at hF
    refine e_iconst X 0 dL_law__2413 rfl ?_
    cases hF
set_option maxRecDepth 20000 in
set_option maxHeartbeats 4000000 in
theorem T_39 {b L : Nat} {xs : Nat → Int32} {i9 a1 a2 a3 a4 a5 : Int32} (X : Cx p l s m args meth c Γ D s0 RL cL_law_ 7) (hX : va_X b L xs s s.heap) (hbl : b < s.heap.size) (hbA : ¬ Γ.1 ≤ b) (hi1 : vp_in (i9 + 1) L) (hi2 : vp_in (i9 + 2) L) (hi3 : vp_in (i9 + 3) L) (hi4 : vp_in (i9 + 4) L) (hi5 : vp_in (i9 + 5) L) (ha1 : xs (i9 + 1).toNatClampNeg = a1) (ha2 : xs (i9 + 2).toNatClampNeg = a2) (ha3 : xs (i9 + 3).toNatClampNeg = a3) (ha4 : xs (i9 + 4).toNatClampNeg = a4) (ha5 : xs (i9 + 5).toNatClampNeg = a5) (hcc : cells + 8 ≤ room_1.cells) (hss : slots + 48 ≤ room_1.slots) (σ : Mem) {z : Mem} (hF : S_39 σ a1 a2 a3 a4 a5 = some z) (hK : E p l e room_1 s m args below meth c Γ D (cells + 8) (slots + 48) Q z 2522 [some (.ref b), some (.ref (Γ.1 + 0)), some (.ref (Γ.1 + 333)), some (.ref (Γ.1 + 346)), some (.int i9)] []) : E p l e room_1 s m args below meth c Γ D cells slots Q σ 2435 [some (.ref b), some (.ref (Γ.1 + 0)), some (.ref (Γ.1 + 333)), some (.ref (Γ.1 + 346)), some (.int i9), none, none] [] := by
  unfold S_39 at hF
  refine e_aload_n X dL_law__2435 rfl rfl ?_
  refine e_aload_n X dL_law__2436 rfl rfl ?_
  refine e_iload X dL_law__2437 rfl ?_
  refine e_iconst X 1 dL_law__2439 rfl ?_
  refine e_iadd X dL_law__2440 ?_
  refine e_sld X hX hbl hbA hi1 ha1 dL_law__2441 ?_
  obtain ⟨z1, h_z1, hF⟩ := bindT_out hF
  refine e_callVi X (r := z1.2) (σ1 := z1.1) [.int a1] [] (by rw [h_z1]; exact C_W_seed (Cx_gok X) σ a1) gv_L_261 yk_X11_seed rfl (ent_lt (rfl : entTbl[0]? = some (0, 0))) (ent_at (rfl : entTbl[0]? = some (0, 0)) _) (rfl : vCl[10]? = some (RX11, TX11, 17)) ⟨Nat.le_of_ble_eq_true rfl, Nat.le_of_ble_eq_true rfl⟩ ⟨by have h9 := hcc; dsimp only [room_1] at h9 ⊢; omega, by have h9 := hss; dsimp only [room_1] at h9 ⊢; omega⟩ (Nat.le_of_ble_eq_true rfl) dL_law__2442 rfl ?_
  refine e_aload_n X dL_law__2445 rfl rfl ?_
  refine e_aload_n X dL_law__2446 rfl rfl ?_
  refine e_iload X dL_law__2447 rfl ?_
  refine e_iconst X 1 dL_law__2449 rfl ?_
  refine e_iadd X dL_law__2450 ?_
  refine e_sld X hX hbl hbA hi1 ha1 dL_law__2451 ?_
  obtain ⟨z2, h_z2, hF⟩ := obind_out hF
  refine e_callVi X (r := z2.2) (σ1 := z2.1) [.int a1] [.int z1.2] (C_M_seed (Cx_gok X) z1.1 a1 h_z2) gv_L_264 yk_X12_seed rfl (ent_lt (rfl : entTbl[333]? = some (13, 0))) (ent_at (rfl : entTbl[333]? = some (13, 0)) _) (rfl : vCl[11]? = some (RX12, TX12, 24)) ⟨Nat.le_of_ble_eq_true rfl, Nat.le_of_ble_eq_true rfl⟩ ⟨by have h9 := hcc; dsimp only [room_1] at h9 ⊢; omega, by have h9 := hss; dsimp only [room_1] at h9 ⊢; omega⟩ (Nat.le_of_ble_eq_true rfl) dL_law__2452 rfl ?_
  refine e_icmp_eq X 2522 dL_law__2455 (by decide) (fun c3 => ?_) (fun c3 => ?_)
  · skip
    rw [if_pos c3] at hF
    cases hF
    refine e_widen (c2 := cells + 8) (s2 := slots + 48) (by omega) (by omega) ?_
    exact e_le hK (And.intro rfl (And.intro rfl (And.intro rfl (And.intro rfl (And.intro rfl trivial)))))
  · skip
    rw [if_neg c3] at hF
    refine e_iconst X 0 dL_law__2458 rfl ?_
    cases hF
set_option maxRecDepth 20000 in
set_option maxHeartbeats 4000000 in
theorem T_40 {b L : Nat} {xs : Nat → Int32} {i9 a1 a2 a3 a4 a5 : Int32} (X : Cx p l s m args meth c Γ D s0 RL cL_law_ 7) (hX : va_X b L xs s s.heap) (hbl : b < s.heap.size) (hbA : ¬ Γ.1 ≤ b) (hi1 : vp_in (i9 + 1) L) (hi2 : vp_in (i9 + 2) L) (hi3 : vp_in (i9 + 3) L) (hi4 : vp_in (i9 + 4) L) (hi5 : vp_in (i9 + 5) L) (ha1 : xs (i9 + 1).toNatClampNeg = a1) (ha2 : xs (i9 + 2).toNatClampNeg = a2) (ha3 : xs (i9 + 3).toNatClampNeg = a3) (ha4 : xs (i9 + 4).toNatClampNeg = a4) (ha5 : xs (i9 + 5).toNatClampNeg = a5) (hcc : cells + 8 ≤ room_1.cells) (hss : slots + 48 ≤ room_1.slots) (σ : Mem) {z : Mem} (hF : S_40 σ a1 a2 a3 a4 a5 = some z) (hK : E p l e room_1 s m args below meth c Γ D (cells + 8) (slots + 48) Q z 2522 [some (.ref b), some (.ref (Γ.1 + 0)), some (.ref (Γ.1 + 333)), some (.ref (Γ.1 + 346)), some (.int i9)] []) : E p l e room_1 s m args below meth c Γ D cells slots Q σ 2460 [some (.ref b), some (.ref (Γ.1 + 0)), some (.ref (Γ.1 + 333)), some (.ref (Γ.1 + 346)), some (.int i9), none, none] [] := by
  unfold S_40 at hF
  refine e_aload_n X dL_law__2460 rfl rfl ?_
  obtain ⟨z1, h_z1, hF⟩ := obind_out hF
  refine e_callVi X (r := z1.2) (σ1 := z1.1) [] [] (C_W_undo (Cx_gok X) σ h_z1) gv_L_265 yk_X11_undo rfl (ent_lt (rfl : entTbl[0]? = some (0, 0))) (ent_at (rfl : entTbl[0]? = some (0, 0)) _) (rfl : vCl[10]? = some (RX11, TX11, 17)) ⟨Nat.le_of_ble_eq_true rfl, Nat.le_of_ble_eq_true rfl⟩ ⟨by have h9 := hcc; dsimp only [room_1] at h9 ⊢; omega, by have h9 := hss; dsimp only [room_1] at h9 ⊢; omega⟩ (Nat.le_of_ble_eq_true rfl) dL_law__2461 rfl ?_
  refine e_aload_n X dL_law__2464 rfl rfl ?_
  obtain ⟨z2, h_z2, hF⟩ := obind_out hF
  refine e_callVi X (r := z2.2) (σ1 := z2.1) [] [.int z1.2] (C_M_undo (Cx_gok X) z1.1 h_z2) gv_L_269 yk_X12_undo rfl (ent_lt (rfl : entTbl[333]? = some (13, 0))) (ent_at (rfl : entTbl[333]? = some (13, 0)) _) (rfl : vCl[11]? = some (RX12, TX12, 24)) ⟨Nat.le_of_ble_eq_true rfl, Nat.le_of_ble_eq_true rfl⟩ ⟨by have h9 := hcc; dsimp only [room_1] at h9 ⊢; omega, by have h9 := hss; dsimp only [room_1] at h9 ⊢; omega⟩ (Nat.le_of_ble_eq_true rfl) dL_law__2465 rfl ?_
  refine e_icmp_eq X 2522 dL_law__2468 (by decide) (fun c3 => ?_) (fun c3 => ?_)
  · skip
    rw [if_pos c3] at hF
    cases hF
    refine e_widen (c2 := cells + 8) (s2 := slots + 48) (by omega) (by omega) ?_
    exact e_le hK (And.intro rfl (And.intro rfl (And.intro rfl (And.intro rfl (And.intro rfl trivial)))))
  · skip
    rw [if_neg c3] at hF
    refine e_iconst X 0 dL_law__2471 rfl ?_
    cases hF
set_option maxRecDepth 20000 in
set_option maxHeartbeats 4000000 in
theorem T_41 {b L : Nat} {xs : Nat → Int32} {i9 a1 a2 a3 a4 a5 : Int32} (X : Cx p l s m args meth c Γ D s0 RL cL_law_ 7) (hX : va_X b L xs s s.heap) (hbl : b < s.heap.size) (hbA : ¬ Γ.1 ≤ b) (hi1 : vp_in (i9 + 1) L) (hi2 : vp_in (i9 + 2) L) (hi3 : vp_in (i9 + 3) L) (hi4 : vp_in (i9 + 4) L) (hi5 : vp_in (i9 + 5) L) (ha1 : xs (i9 + 1).toNatClampNeg = a1) (ha2 : xs (i9 + 2).toNatClampNeg = a2) (ha3 : xs (i9 + 3).toNatClampNeg = a3) (ha4 : xs (i9 + 4).toNatClampNeg = a4) (ha5 : xs (i9 + 5).toNatClampNeg = a5) (hcc : cells + 8 ≤ room_1.cells) (hss : slots + 48 ≤ room_1.slots) (σ : Mem) {z : Mem} (hF : S_41 σ a1 a2 a3 a4 a5 = some z) (hK : E p l e room_1 s m args below meth c Γ D (cells + 8) (slots + 48) Q z 2522 [some (.ref b), some (.ref (Γ.1 + 0)), some (.ref (Γ.1 + 333)), some (.ref (Γ.1 + 346)), some (.int i9)] []) : E p l e room_1 s m args below meth c Γ D cells slots Q σ 2473 [some (.ref b), some (.ref (Γ.1 + 0)), some (.ref (Γ.1 + 333)), some (.ref (Γ.1 + 346)), some (.int i9), none, none] [] := by
  unfold S_41 at hF
  refine e_aload_n X dL_law__2473 rfl rfl ?_
  obtain ⟨z1, h_z1, hF⟩ := bindT_out hF
  refine e_callVv X (σ1 := z1) [] [] (by rw [h_z1]; exact C_W_image (Cx_gok X) σ) gv_L_270 yk_X11_image rfl (ent_lt (rfl : entTbl[0]? = some (0, 0))) (ent_at (rfl : entTbl[0]? = some (0, 0)) _) (rfl : vCl[10]? = some (RX11, TX11, 17)) ⟨Nat.le_of_ble_eq_true rfl, Nat.le_of_ble_eq_true rfl⟩ ⟨by have h9 := hcc; dsimp only [room_1] at h9 ⊢; omega, by have h9 := hss; dsimp only [room_1] at h9 ⊢; omega⟩ (Nat.le_of_ble_eq_true rfl) dL_law__2474 rfl ?_
  refine e_aload_n X dL_law__2477 rfl rfl ?_
  obtain ⟨z2, h_z2, hF⟩ := obind_out hF
  refine e_callVv X (σ1 := z2) [] [] (C_M_image (Cx_gok X) z1 h_z2) gv_L_273 yk_X12_image rfl (ent_lt (rfl : entTbl[333]? = some (13, 0))) (ent_at (rfl : entTbl[333]? = some (13, 0)) _) (rfl : vCl[11]? = some (RX12, TX12, 24)) ⟨Nat.le_of_ble_eq_true rfl, Nat.le_of_ble_eq_true rfl⟩ ⟨by have h9 := hcc; dsimp only [room_1] at h9 ⊢; omega, by have h9 := hss; dsimp only [room_1] at h9 ⊢; omega⟩ (Nat.le_of_ble_eq_true rfl) dL_law__2478 rfl ?_
  refine e_goto X 2522 dL_law__2481 (by decide) ?_
  cases hF
  refine e_widen (c2 := cells + 8) (s2 := slots + 48) (by omega) (by omega) ?_
  exact e_le hK (And.intro rfl (And.intro rfl (And.intro rfl (And.intro rfl (And.intro rfl trivial)))))
set_option maxRecDepth 20000 in
set_option maxHeartbeats 4000000 in
theorem T_42 {b L : Nat} {xs : Nat → Int32} {i9 a1 a2 a3 a4 a5 : Int32} (X : Cx p l s m args meth c Γ D s0 RL cL_law_ 7) (hX : va_X b L xs s s.heap) (hbl : b < s.heap.size) (hbA : ¬ Γ.1 ≤ b) (hi1 : vp_in (i9 + 1) L) (hi2 : vp_in (i9 + 2) L) (hi3 : vp_in (i9 + 3) L) (hi4 : vp_in (i9 + 4) L) (hi5 : vp_in (i9 + 5) L) (ha1 : xs (i9 + 1).toNatClampNeg = a1) (ha2 : xs (i9 + 2).toNatClampNeg = a2) (ha3 : xs (i9 + 3).toNatClampNeg = a3) (ha4 : xs (i9 + 4).toNatClampNeg = a4) (ha5 : xs (i9 + 5).toNatClampNeg = a5) (hcc : cells + 8 ≤ room_1.cells) (hss : slots + 48 ≤ room_1.slots) (σ : Mem) {z : Mem} (hF : S_42 σ a1 a2 a3 a4 a5 = some z) (hK : E p l e room_1 s m args below meth c Γ D (cells + 8) (slots + 48) Q z 2522 [some (.ref b), some (.ref (Γ.1 + 0)), some (.ref (Γ.1 + 333)), some (.ref (Γ.1 + 346)), some (.int i9)] []) : E p l e room_1 s m args below meth c Γ D cells slots Q σ 2484 [some (.ref b), some (.ref (Γ.1 + 0)), some (.ref (Γ.1 + 333)), some (.ref (Γ.1 + 346)), some (.int i9), none, none] [] := by
  unfold S_42 at hF
  refine e_aload_n X dL_law__2484 rfl rfl ?_
  obtain ⟨z1, h_z1, hF⟩ := bindT_out hF
  refine e_callVi X (r := z1.2) (σ1 := z1.1) [] [] (by rw [h_z1]; exact C_W_back (Cx_gok X) σ) gv_L_274 yk_X11_back rfl (ent_lt (rfl : entTbl[0]? = some (0, 0))) (ent_at (rfl : entTbl[0]? = some (0, 0)) _) (rfl : vCl[10]? = some (RX11, TX11, 17)) ⟨Nat.le_of_ble_eq_true rfl, Nat.le_of_ble_eq_true rfl⟩ ⟨by have h9 := hcc; dsimp only [room_1] at h9 ⊢; omega, by have h9 := hss; dsimp only [room_1] at h9 ⊢; omega⟩ (Nat.le_of_ble_eq_true rfl) dL_law__2485 rfl ?_
  refine e_aload_n X dL_law__2488 rfl rfl ?_
  obtain ⟨z2, h_z2, hF⟩ := obind_out hF
  refine e_callVi X (r := z2.2) (σ1 := z2.1) [] [.int z1.2] (C_M_back (Cx_gok X) z1.1 h_z2) gv_L_277 yk_X12_back rfl (ent_lt (rfl : entTbl[333]? = some (13, 0))) (ent_at (rfl : entTbl[333]? = some (13, 0)) _) (rfl : vCl[11]? = some (RX12, TX12, 24)) ⟨Nat.le_of_ble_eq_true rfl, Nat.le_of_ble_eq_true rfl⟩ ⟨by have h9 := hcc; dsimp only [room_1] at h9 ⊢; omega, by have h9 := hss; dsimp only [room_1] at h9 ⊢; omega⟩ (Nat.le_of_ble_eq_true rfl) dL_law__2489 rfl ?_
  refine e_icmp_eq X 2522 dL_law__2492 (by decide) (fun c3 => ?_) (fun c3 => ?_)
  · skip
    rw [if_pos c3] at hF
    cases hF
    refine e_widen (c2 := cells + 8) (s2 := slots + 48) (by omega) (by omega) ?_
    exact e_le hK (And.intro rfl (And.intro rfl (And.intro rfl (And.intro rfl (And.intro rfl trivial)))))
  · skip
    rw [if_neg c3] at hF
    refine e_iconst X 0 dL_law__2495 rfl ?_
    cases hF
set_option maxRecDepth 20000 in
set_option maxHeartbeats 4000000 in
theorem T_43 {b L : Nat} {xs : Nat → Int32} {i9 a1 a2 a3 a4 a5 : Int32} (X : Cx p l s m args meth c Γ D s0 RL cL_law_ 7) (hX : va_X b L xs s s.heap) (hbl : b < s.heap.size) (hbA : ¬ Γ.1 ≤ b) (hi1 : vp_in (i9 + 1) L) (hi2 : vp_in (i9 + 2) L) (hi3 : vp_in (i9 + 3) L) (hi4 : vp_in (i9 + 4) L) (hi5 : vp_in (i9 + 5) L) (ha1 : xs (i9 + 1).toNatClampNeg = a1) (ha2 : xs (i9 + 2).toNatClampNeg = a2) (ha3 : xs (i9 + 3).toNatClampNeg = a3) (ha4 : xs (i9 + 4).toNatClampNeg = a4) (ha5 : xs (i9 + 5).toNatClampNeg = a5) (hcc : cells + 8 ≤ room_1.cells) (hss : slots + 48 ≤ room_1.slots) (σ : Mem) {z : Mem} (hF : S_43 σ a1 a2 a3 a4 a5 = some z) (hK : E p l e room_1 s m args below meth c Γ D (cells + 8) (slots + 48) Q z 2522 [some (.ref b), some (.ref (Γ.1 + 0)), some (.ref (Γ.1 + 333)), some (.ref (Γ.1 + 346)), some (.int i9)] []) : E p l e room_1 s m args below meth c Γ D cells slots Q σ 2497 [some (.ref b), some (.ref (Γ.1 + 0)), some (.ref (Γ.1 + 333)), some (.ref (Γ.1 + 346)), some (.int i9), none, none] [] := by
  unfold S_43 at hF
  refine e_aload_n X dL_law__2497 rfl rfl ?_
  refine e_aload_n X dL_law__2498 rfl rfl ?_
  refine e_iload X dL_law__2499 rfl ?_
  refine e_iconst X 1 dL_law__2501 rfl ?_
  refine e_iadd X dL_law__2502 ?_
  refine e_sld X hX hbl hbA hi1 ha1 dL_law__2503 ?_
  refine e_callVi X (r := (F_W_count σ a1)) (σ1 := σ) [.int a1] [] (C_W_count (Cx_gok X) σ a1) gv_L_278 yk_X11_count rfl (ent_lt (rfl : entTbl[0]? = some (0, 0))) (ent_at (rfl : entTbl[0]? = some (0, 0)) _) (rfl : vCl[10]? = some (RX11, TX11, 17)) ⟨Nat.le_of_ble_eq_true rfl, Nat.le_of_ble_eq_true rfl⟩ ⟨by have h9 := hcc; dsimp only [room_1] at h9 ⊢; omega, by have h9 := hss; dsimp only [room_1] at h9 ⊢; omega⟩ (Nat.le_of_ble_eq_true rfl) dL_law__2504 rfl ?_
  refine e_aload_n X dL_law__2507 rfl rfl ?_
  refine e_aload_n X dL_law__2508 rfl rfl ?_
  refine e_iload X dL_law__2509 rfl ?_
  refine e_iconst X 1 dL_law__2511 rfl ?_
  refine e_iadd X dL_law__2512 ?_
  refine e_sld X hX hbl hbA hi1 ha1 dL_law__2513 ?_
  obtain ⟨z1, h_z1, hF⟩ := obind_out hF
  refine e_callVi X (r := z1.2) (σ1 := z1.1) [.int a1] [.int ((F_W_count σ a1))] (C_M_count (Cx_gok X) σ a1 h_z1) gv_L_281 yk_X12_count rfl (ent_lt (rfl : entTbl[333]? = some (13, 0))) (ent_at (rfl : entTbl[333]? = some (13, 0)) _) (rfl : vCl[11]? = some (RX12, TX12, 24)) ⟨Nat.le_of_ble_eq_true rfl, Nat.le_of_ble_eq_true rfl⟩ ⟨by have h9 := hcc; dsimp only [room_1] at h9 ⊢; omega, by have h9 := hss; dsimp only [room_1] at h9 ⊢; omega⟩ (Nat.le_of_ble_eq_true rfl) dL_law__2514 rfl ?_
  refine e_icmp_eq X 2522 dL_law__2517 (by decide) (fun c2 => ?_) (fun c2 => ?_)
  · skip
    rw [if_pos c2] at hF
    cases hF
    refine e_widen (c2 := cells + 8) (s2 := slots + 48) (by omega) (by omega) ?_
    exact e_le hK (And.intro rfl (And.intro rfl (And.intro rfl (And.intro rfl (And.intro rfl trivial)))))
  · skip
    rw [if_neg c2] at hF
    refine e_iconst X 0 dL_law__2520 rfl ?_
    cases hF
end PART

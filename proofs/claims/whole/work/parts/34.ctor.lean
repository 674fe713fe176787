theorem war_boolean : Cond.arrayClass (newarray.typeOf .boolean) ∈ lwG := lwT_in (i := 1695) (by decide +kernel) (by decide +kernel)
theorem war_int : Cond.arrayClass (newarray.typeOf .int) ∈ lwG := lwT_in (i := 48) (by decide +kernel) (by decide +kernel)
theorem wc_X0_init : Cond.code yX0_init cX0_init 1 none ∈ lwG := lwT_in (i := 326) (by decide +kernel) (by decide +kernel)
theorem wc_X10_init : Cond.code yX10_init cX10_init 1 none ∈ lwG := lwT_in (i := 182) (by decide +kernel) (by decide +kernel)
theorem wc_X2_init : Cond.code yX2_init cX2_init 1 none ∈ lwG := lwT_in (i := 153) (by decide +kernel) (by decide +kernel)
theorem wc_X3_init : Cond.code yX3_init cX3_init 1 none ∈ lwG := lwT_in (i := 261) (by decide +kernel) (by decide +kernel)
theorem wc_X4_init : Cond.code yX4_init cX4_init 1 none ∈ lwG := lwT_in (i := 287) (by decide +kernel) (by decide +kernel)
theorem wc_X5_init : Cond.code yX5_init cX5_init 1 none ∈ lwG := lwT_in (i := 351) (by decide +kernel) (by decide +kernel)
theorem wc_X6_init : Cond.code yX6_init cX6_init 2 none ∈ lwG := lwT_in (i := 42) (by decide +kernel) (by decide +kernel)
theorem wc_X7_init : Cond.code yX7_init cX7_init 1 none ∈ lwG := lwT_in (i := 185) (by decide +kernel) (by decide +kernel)
theorem wc_X8_init : Cond.code yX8_init cX8_init 1 none ∈ lwG := lwT_in (i := 369) (by decide +kernel) (by decide +kernel)
theorem wc_X9_init : Cond.code yX9_init cX9_init 1 none ∈ lwG := lwT_in (i := 53) (by decide +kernel) (by decide +kernel)
theorem wi_X0_init : Cond.instanceMethod yX0_init ∈ lwG := lwT_in (i := 325) (by decide +kernel) (by decide +kernel)
theorem wi_X10_init : Cond.instanceMethod yX10_init ∈ lwG := lwT_in (i := 181) (by decide +kernel) (by decide +kernel)
theorem wi_X2_init : Cond.instanceMethod yX2_init ∈ lwG := lwT_in (i := 152) (by decide +kernel) (by decide +kernel)
theorem wi_X3_init : Cond.instanceMethod yX3_init ∈ lwG := lwT_in (i := 260) (by decide +kernel) (by decide +kernel)
theorem wi_X4_init : Cond.instanceMethod yX4_init ∈ lwG := lwT_in (i := 286) (by decide +kernel) (by decide +kernel)
theorem wi_X5_init : Cond.instanceMethod yX5_init ∈ lwG := lwT_in (i := 350) (by decide +kernel) (by decide +kernel)
theorem wi_X6_init : Cond.instanceMethod yX6_init ∈ lwG := lwT_in (i := 41) (by decide +kernel) (by decide +kernel)
theorem wi_X7_init : Cond.instanceMethod yX7_init ∈ lwG := lwT_in (i := 184) (by decide +kernel) (by decide +kernel)
theorem wi_X8_init : Cond.instanceMethod yX8_init ∈ lwG := lwT_in (i := 368) (by decide +kernel) (by decide +kernel)
theorem wi_X9_init : Cond.instanceMethod yX9_init ∈ lwG := lwT_in (i := 52) (by decide +kernel) (by decide +kernel)
theorem wm_X0_11 : Cond.methodLink RX0 11 yX9_init ∈ lwG := lwT_in (i := 329) (by decide +kernel) (by decide +kernel)
theorem wm_X0_20 : Cond.methodLink RX0 20 yX4_init ∈ lwG := lwT_in (i := 331) (by decide +kernel) (by decide +kernel)
theorem wm_X0_27 : Cond.methodLink RX0 27 yX6_init ∈ lwG := lwT_in (i := 333) (by decide +kernel) (by decide +kernel)
theorem wm_X10_11 : Cond.methodLink RX10 11 yX9_init ∈ lwG := lwT_in (i := 194) (by decide +kernel) (by decide +kernel)
theorem wm_X10_3 : Cond.methodLink RX10 3 yX7_init ∈ lwG := lwT_in (i := 183) (by decide +kernel) (by decide +kernel)
theorem wm_X11_11 : Cond.methodLink RX11 11 yX6_init ∈ lwG := lwT_in (i := 40) (by decide +kernel) (by decide +kernel)
theorem wm_X11_20 : Cond.methodLink RX11 20 yX9_init ∈ lwG := lwT_in (i := 51) (by decide +kernel) (by decide +kernel)
theorem wm_X11_27 : Cond.methodLink RX11 27 yX2_init ∈ lwG := lwT_in (i := 151) (by decide +kernel) (by decide +kernel)
theorem wm_X11_44 : Cond.methodLink RX11 44 yX10_init ∈ lwG := lwT_in (i := 180) (by decide +kernel) (by decide +kernel)
theorem wm_X11_51 : Cond.methodLink RX11 51 yX3_init ∈ lwG := lwT_in (i := 259) (by decide +kernel) (by decide +kernel)
theorem wm_X11_58 : Cond.methodLink RX11 58 yX4_init ∈ lwG := lwT_in (i := 285) (by decide +kernel) (by decide +kernel)
theorem wm_X11_65 : Cond.methodLink RX11 65 yX0_init ∈ lwG := lwT_in (i := 324) (by decide +kernel) (by decide +kernel)
theorem wm_X11_72 : Cond.methodLink RX11 72 yX5_init ∈ lwG := lwT_in (i := 349) (by decide +kernel) (by decide +kernel)
theorem wm_X11_79 : Cond.methodLink RX11 79 yX8_init ∈ lwG := lwT_in (i := 367) (by decide +kernel) (by decide +kernel)
theorem wm_X2_11 : Cond.methodLink RX2 11 yX6_init ∈ lwG := lwT_in (i := 156) (by decide +kernel) (by decide +kernel)
theorem wm_X3_11 : Cond.methodLink RX3 11 yX2_init ∈ lwG := lwT_in (i := 264) (by decide +kernel) (by decide +kernel)
theorem wm_X3_3 : Cond.methodLink RX3 3 yX7_init ∈ lwG := lwT_in (i := 262) (by decide +kernel) (by decide +kernel)
theorem wm_X5_11 : Cond.methodLink RX5 11 yX6_init ∈ lwG := lwT_in (i := 354) (by decide +kernel) (by decide +kernel)
theorem wm_X7_11 : Cond.methodLink RX7 11 yX6_init ∈ lwG := lwT_in (i := 188) (by decide +kernel) (by decide +kernel)
theorem wm_X8_11 : Cond.methodLink RX8 11 yX6_init ∈ lwG := lwT_in (i := 372) (by decide +kernel) (by decide +kernel)
theorem wm_X9_11 : Cond.methodLink RX9 11 yX6_init ∈ lwG := lwT_in (i := 56) (by decide +kernel) (by decide +kernel)
theorem wnc_X0_18 : Cond.classLink RX0 18 RX4 ∈ lwG := lwT_in (i := 330) (by decide +kernel) (by decide +kernel)
theorem wnc_X0_25 : Cond.classLink RX0 25 RX6 ∈ lwG := lwT_in (i := 332) (by decide +kernel) (by decide +kernel)
theorem wnc_X0_9 : Cond.classLink RX0 9 RX9 ∈ lwG := lwT_in (i := 328) (by decide +kernel) (by decide +kernel)
theorem wnc_X10_9 : Cond.classLink RX10 9 RX9 ∈ lwG := lwT_in (i := 193) (by decide +kernel) (by decide +kernel)
theorem wnc_X11_18 : Cond.classLink RX11 18 RX9 ∈ lwG := lwT_in (i := 49) (by decide +kernel) (by decide +kernel)
theorem wnc_X11_25 : Cond.classLink RX11 25 RX2 ∈ lwG := lwT_in (i := 149) (by decide +kernel) (by decide +kernel)
theorem wnc_X11_42 : Cond.classLink RX11 42 RX10 ∈ lwG := lwT_in (i := 178) (by decide +kernel) (by decide +kernel)
theorem wnc_X11_49 : Cond.classLink RX11 49 RX3 ∈ lwG := lwT_in (i := 257) (by decide +kernel) (by decide +kernel)
theorem wnc_X11_56 : Cond.classLink RX11 56 RX4 ∈ lwG := lwT_in (i := 283) (by decide +kernel) (by decide +kernel)
theorem wnc_X11_63 : Cond.classLink RX11 63 RX0 ∈ lwG := lwT_in (i := 322) (by decide +kernel) (by decide +kernel)
theorem wnc_X11_7 : Cond.classLink RX11 7 RX6 ∈ lwG := lwT_in (i := 38) (by decide +kernel) (by decide +kernel)
theorem wnc_X11_70 : Cond.classLink RX11 70 RX5 ∈ lwG := lwT_in (i := 347) (by decide +kernel) (by decide +kernel)
theorem wnc_X11_77 : Cond.classLink RX11 77 RX8 ∈ lwG := lwT_in (i := 365) (by decide +kernel) (by decide +kernel)
theorem wnc_X2_9 : Cond.classLink RX2 9 RX6 ∈ lwG := lwT_in (i := 155) (by decide +kernel) (by decide +kernel)
theorem wnc_X3_9 : Cond.classLink RX3 9 RX2 ∈ lwG := lwT_in (i := 263) (by decide +kernel) (by decide +kernel)
theorem wnc_X5_9 : Cond.classLink RX5 9 RX6 ∈ lwG := lwT_in (i := 353) (by decide +kernel) (by decide +kernel)
theorem wnc_X7_20 : Cond.classLink RX7 20 "RivalWeds$Kind" ∈ lwG := lwT_in (i := 189) (by decide +kernel) (by decide +kernel)
theorem wnc_X7_9 : Cond.classLink RX7 9 RX6 ∈ lwG := lwT_in (i := 187) (by decide +kernel) (by decide +kernel)
theorem wnc_X8_9 : Cond.classLink RX8 9 RX6 ∈ lwG := lwT_in (i := 371) (by decide +kernel) (by decide +kernel)
theorem wnc_X9_9 : Cond.classLink RX9 9 RX6 ∈ lwG := lwT_in (i := 55) (by decide +kernel) (by decide +kernel)
theorem wni_X0 : Cond.instantiable RX0 4 ∈ lwG := lwT_in (i := 323) (by decide +kernel) (by decide +kernel)
theorem wni_X10 : Cond.instantiable RX10 14 ∈ lwG := lwT_in (i := 179) (by decide +kernel) (by decide +kernel)
theorem wni_X2 : Cond.instantiable RX2 6 ∈ lwG := lwT_in (i := 150) (by decide +kernel) (by decide +kernel)
theorem wni_X3 : Cond.instantiable RX3 14 ∈ lwG := lwT_in (i := 258) (by decide +kernel) (by decide +kernel)
theorem wni_X4 : Cond.instantiable RX4 7 ∈ lwG := lwT_in (i := 284) (by decide +kernel) (by decide +kernel)
theorem wni_X5 : Cond.instantiable RX5 3 ∈ lwG := lwT_in (i := 348) (by decide +kernel) (by decide +kernel)
theorem wni_X6 : Cond.instantiable RX6 1 ∈ lwG := lwT_in (i := 39) (by decide +kernel) (by decide +kernel)
theorem wni_X8 : Cond.instantiable RX8 5 ∈ lwG := lwT_in (i := 366) (by decide +kernel) (by decide +kernel)
theorem wni_X9 : Cond.instantiable RX9 20 ∈ lwG := lwT_in (i := 50) (by decide +kernel) (by decide +kernel)
theorem woc : Cond.code Lib.objectInit ⟨#[0xb1]⟩ 1 none ∈ lwG := lwT_in (i := 37) (by decide +kernel) (by decide +kernel)
theorem woi : Cond.instanceMethod Lib.objectInit ∈ lwG := lwT_in (i := 36) (by decide +kernel) (by decide +kernel)
theorem wol_X0 : Cond.methodLink RX0 3 Lib.objectInit ∈ lwG := lwT_in (i := 327) (by decide +kernel) (by decide +kernel)
theorem wol_X11 : Cond.methodLink RX11 1 Lib.objectInit ∈ lwG := lwT_in (i := 35) (by decide +kernel) (by decide +kernel)
theorem wol_X12 : Cond.methodLink RX12 1 Lib.objectInit ∈ lwG := lwT_in (i := 1621) (by decide +kernel) (by decide +kernel)
theorem wol_X2 : Cond.methodLink RX2 3 Lib.objectInit ∈ lwG := lwT_in (i := 154) (by decide +kernel) (by decide +kernel)
theorem wol_X4 : Cond.methodLink RX4 3 Lib.objectInit ∈ lwG := lwT_in (i := 288) (by decide +kernel) (by decide +kernel)
theorem wol_X5 : Cond.methodLink RX5 3 Lib.objectInit ∈ lwG := lwT_in (i := 352) (by decide +kernel) (by decide +kernel)
theorem wol_X6 : Cond.methodLink RX6 1 Lib.objectInit ∈ lwG := lwT_in (i := 43) (by decide +kernel) (by decide +kernel)
theorem wol_X7 : Cond.methodLink RX7 3 Lib.objectInit ∈ lwG := lwT_in (i := 186) (by decide +kernel) (by decide +kernel)
theorem wol_X8 : Cond.methodLink RX8 3 Lib.objectInit ∈ lwG := lwT_in (i := 370) (by decide +kernel) (by decide +kernel)
theorem wol_X9 : Cond.methodLink RX9 3 Lib.objectInit ∈ lwG := lwT_in (i := 54) (by decide +kernel) (by decide +kernel)

theorem yki_X6_init : yX6_init.cls ≠ "java/lang/invoke/MethodHandle" ∧ yX6_init.cls ≠ "java/lang/invoke/VarHandle" ∧ (parseMethodDescriptor yX6_init.desc).map (fun d => d.parameters.length) = some 1 := ⟨by decide +kernel, by decide +kernel, by decide +kernel⟩
theorem yki_X7_init : yX7_init.cls ≠ "java/lang/invoke/MethodHandle" ∧ yX7_init.cls ≠ "java/lang/invoke/VarHandle" ∧ (parseMethodDescriptor yX7_init.desc).map (fun d => d.parameters.length) = some 0 := ⟨by decide +kernel, by decide +kernel, by decide +kernel⟩
theorem yki_X9_init : yX9_init.cls ≠ "java/lang/invoke/MethodHandle" ∧ yX9_init.cls ≠ "java/lang/invoke/VarHandle" ∧ (parseMethodDescriptor yX9_init.desc).map (fun d => d.parameters.length) = some 0 := ⟨by decide +kernel, by decide +kernel, by decide +kernel⟩
theorem yki_X2_init : yX2_init.cls ≠ "java/lang/invoke/MethodHandle" ∧ yX2_init.cls ≠ "java/lang/invoke/VarHandle" ∧ (parseMethodDescriptor yX2_init.desc).map (fun d => d.parameters.length) = some 0 := ⟨by decide +kernel, by decide +kernel, by decide +kernel⟩
theorem yki_X4_init : yX4_init.cls ≠ "java/lang/invoke/MethodHandle" ∧ yX4_init.cls ≠ "java/lang/invoke/VarHandle" ∧ (parseMethodDescriptor yX4_init.desc).map (fun d => d.parameters.length) = some 0 := ⟨by decide +kernel, by decide +kernel, by decide +kernel⟩
theorem yki_X10_init : yX10_init.cls ≠ "java/lang/invoke/MethodHandle" ∧ yX10_init.cls ≠ "java/lang/invoke/VarHandle" ∧ (parseMethodDescriptor yX10_init.desc).map (fun d => d.parameters.length) = some 0 := ⟨by decide +kernel, by decide +kernel, by decide +kernel⟩
theorem yki_X3_init : yX3_init.cls ≠ "java/lang/invoke/MethodHandle" ∧ yX3_init.cls ≠ "java/lang/invoke/VarHandle" ∧ (parseMethodDescriptor yX3_init.desc).map (fun d => d.parameters.length) = some 0 := ⟨by decide +kernel, by decide +kernel, by decide +kernel⟩
theorem yki_X0_init : yX0_init.cls ≠ "java/lang/invoke/MethodHandle" ∧ yX0_init.cls ≠ "java/lang/invoke/VarHandle" ∧ (parseMethodDescriptor yX0_init.desc).map (fun d => d.parameters.length) = some 0 := ⟨by decide +kernel, by decide +kernel, by decide +kernel⟩
theorem yki_X5_init : yX5_init.cls ≠ "java/lang/invoke/MethodHandle" ∧ yX5_init.cls ≠ "java/lang/invoke/VarHandle" ∧ (parseMethodDescriptor yX5_init.desc).map (fun d => d.parameters.length) = some 0 := ⟨by decide +kernel, by decide +kernel, by decide +kernel⟩
theorem yki_X8_init : yX8_init.cls ≠ "java/lang/invoke/MethodHandle" ∧ yX8_init.cls ≠ "java/lang/invoke/VarHandle" ∧ (parseMethodDescriptor yX8_init.desc).map (fun d => d.parameters.length) = some 0 := ⟨by decide +kernel, by decide +kernel, by decide +kernel⟩
section CTORS
variable {p : Program} {l : Launch} {e : Env} {R : Room} {s : State} {m : MethodId} {args : Array Value} {below : List Frame} {meth : Method} {c : Code} {Γ : Gm} {D : va_G} {s0 : State}
set_option maxRecDepth 20000 in
set_option maxHeartbeats 4000000 in
theorem K_Row (hG : Gok l Γ D s0) (g0 : Nat → va_E) (r rn : Nat) (v : Int32) (gr : isRow r rn) (hv : 0 < v) (hl : v.toNatClampNeg = rn) : CN l Γ D s0 yX6_init cX6_init 2 1 1 (0 + rn) 12 [.ref (Γ.1 + r), .int v] ((r + 1)) (shp g0 r (.inr (6, [.null])) (ini Γ)) ((r + 2)) (shI Γ g0 r) := by
  refine n_met (own := RX6) hG (by decide +kernel) rfl rfl rfl (Nat.le_of_ble_eq_true rfl) ?_
  intro p e s m args below meth c X hmn hb hr
  show N p l e _ s m args below meth c Γ D 0 0 _ _ _ 0 [some (.ref (Γ.1 + r)), some (.int v)] []
  refine n_aload_n X dX6_init_0 rfl rfl ?_
  refine n_objInit X wol_X6 woi woc (Nat.le_of_ble_eq_true rfl) (Nat.le_of_ble_eq_true rfl) dX6_init_1 ?_
  refine n_aload_n X dX6_init_4 rfl rfl ?_
  refine n_iload_n X dX6_init_5 rfl rfl ?_
  refine n_if_le X 13 dX6_init_6 (by decide) hv ?_
  refine n_iload_n X dX6_init_9 rfl rfl ?_
  refine n_goto X 14 dX6_init_10 (by decide) ?_
  refine n_newa X (atype := .int) (ty := .int) (len := rn) (t0 := 0) (cA := Γ.2.1.1) (a0 := (rn, .inl (fun _ => 0))) (by omega) (by omega) war_int rfl rfl (fun C h9 => by cases h9) rfl (fun h9 => Int32.lt_irrefl (Int32.lt_trans h9 hv)) hl (by have h9 := ent_small gr.2; show rn * 4 ≤ _; omega) ((shp_gt (by omega)).trans (ini_at gr.2 (by intro h9; obtain rfl : r = 333 := (by omega); exact absurd gr.1 (by decide)))) (Nat.le_of_ble_eq_true rfl) (Nat.le_refl _) dX6_init_14 ?_
  refine n_putF X hmn (C := RX6) (T := TX6) (k := 0) [.ref (Γ.1 + (r + 1))] (by omega) (rfl : vCl[6]? = some (RX6, TX6, 1)) uin_X6 tyX6_ok nmX6 (by decide) wf_X6_7 (Or.inl rfl) rfl rfl rfl rfl (Nat.le_of_ble_eq_true rfl) rfl dX6_init_16 ?_
  exact n_vret X hr dX6_init_19 (Nat.le_refl _) (by omega) (shp_shI (ini_at gr.1 (ne334 gr.1 (by decide))).symm (fun j h1 h2 => rfl))
set_option maxRecDepth 20000 in
set_option maxHeartbeats 4000000 in
theorem K_Town (hG : Gok l Γ D s0) (g0 : Nat → va_E) (t : Nat) (gt : isTown t) : CN l Γ D s0 yX9_init cX9_init 1 2 16 (416) 33 [.ref (Γ.1 + t)] ((t + 1)) (shp g0 t (.inr (8, [.null, .null, .null, .null, .null, .null, .null, .null, .int 0, .int 0, .int 0, .int 0, .int 0, .int 0, .int 0, .int 0, .int 0, .int 0, .int 0, .int 0])) (ini Γ)) ((t + 17)) (shI Γ g0 t) := by
  refine n_met (own := RX9) hG (by decide +kernel) rfl rfl rfl (Nat.le_of_ble_eq_true rfl) ?_
  intro p e s m args below meth c X hmn hb hr
  show N p l e _ s m args below meth c Γ D 0 0 _ _ _ 0 [some (.ref (Γ.1 + t))] []
  refine n_aload_n X dX9_init_0 rfl rfl ?_
  refine n_objInit X wol_X9 woi woc (Nat.le_of_ble_eq_true rfl) (Nat.le_of_ble_eq_true rfl) dX9_init_1 ?_
  refine n_aload_n X dX9_init_4 rfl rfl ?_
  refine n_new X (C := RX6) (T := TX6) (fs := [.null]) (by omega) (by omega) uin_X6 tyX6 tyX6_ok wnc_X9_9 wni_X6 wz_X6 (rfl : vCl[6]? = some (RX6, TX6, 1)) (fun j hj => by match j, hj with | 0, _ => exact rfl | j9 + 1, h9 => exact absurd h9 (by omega)) (Nat.le_of_ble_eq_true rfl) (Nat.le_of_ble_eq_true rfl) dX9_init_5 ?_
  refine n_dup X dX9_init_8 rfl ?_
  refine n_bipush X 8 dX9_init_9 rfl ?_
  refine n_call X (n' := (t + 3)) [.int 8] [.ref (Γ.1 + (t + 1)), .ref (Γ.1 + t)] (K_Row hG (shp g0 t (.inr (8, [.null, .null, .null, .null, .null, .null, .null, .null, .int 0, .int 0, .int 0, .int 0, .int 0, .int 0, .int 0, .int 0, .int 0, .int 0, .int 0, .int 0])) (ini Γ)) (t + 1) 8 8 gt.2.1 (by decide) rfl) (by omega) (by omega) wc_X6_init wz_X6 wm_X9_11 wi_X6_init rfl yki_X6_init rfl ⟨(Nat.le_of_ble_eq_true rfl), (Nat.le_of_ble_eq_true rfl)⟩ ⟨(Nat.le_of_ble_eq_true rfl), (Nat.le_of_ble_eq_true rfl)⟩ (Nat.le_of_ble_eq_true rfl) dX9_init_11 rfl ?_
  refine n_congr (shI_shp (by omega) (fun j h1 h2 => rfl)) ?_
  refine n_putF X hmn (C := RX9) (T := TX9) (k := 0) [.ref (Γ.1 + (t + 1)), .null, .null, .null, .null, .null, .null, .null, .int 0, .int 0, .int 0, .int 0, .int 0, .int 0, .int 0, .int 0, .int 0, .int 0, .int 0, .int 0] (by omega) (rfl : vCl[8]? = some (RX9, TX9, 20)) uin_X9 tyX9_ok nmX9 (by decide) wf_X9_14 (Or.inl rfl) rfl rfl rfl rfl (Nat.le_of_ble_eq_true rfl) rfl dX9_init_14 ?_
  refine n_aload_n X dX9_init_17 rfl rfl ?_
  refine n_new X (C := RX6) (T := TX6) (fs := [.null]) (by omega) (by omega) uin_X6 tyX6 tyX6_ok wnc_X9_9 wni_X6 wz_X6 (rfl : vCl[6]? = some (RX6, TX6, 1)) (fun j hj => by match j, hj with | 0, _ => exact rfl | j9 + 1, h9 => exact absurd h9 (by omega)) (Nat.le_of_ble_eq_true rfl) (Nat.le_of_ble_eq_true rfl) dX9_init_18 ?_
  refine n_dup X dX9_init_21 rfl ?_
  refine n_bipush X 8 dX9_init_22 rfl ?_
  refine n_call X (n' := (t + 5)) [.int 8] [.ref (Γ.1 + (t + 3)), .ref (Γ.1 + t)] (K_Row hG (shp g0 t (.inr (8, [.ref (Γ.1 + (t + 1)), .null, .null, .null, .null, .null, .null, .null, .int 0, .int 0, .int 0, .int 0, .int 0, .int 0, .int 0, .int 0, .int 0, .int 0, .int 0, .int 0])) (ini Γ)) (t + 3) 8 8 gt.2.2.1 (by decide) rfl) (by omega) (by omega) wc_X6_init wz_X6 wm_X9_11 wi_X6_init rfl yki_X6_init rfl ⟨(Nat.le_of_ble_eq_true rfl), (Nat.le_of_ble_eq_true rfl)⟩ ⟨(Nat.le_of_ble_eq_true rfl), (Nat.le_of_ble_eq_true rfl)⟩ (Nat.le_of_ble_eq_true rfl) dX9_init_24 rfl ?_
  refine n_congr (shI_shp (by omega) (fun j h1 h2 => rfl)) ?_
  refine n_putF X hmn (C := RX9) (T := TX9) (k := 1) [.ref (Γ.1 + (t + 1)), .ref (Γ.1 + (t + 3)), .null, .null, .null, .null, .null, .null, .int 0, .int 0, .int 0, .int 0, .int 0, .int 0, .int 0, .int 0, .int 0, .int 0, .int 0, .int 0] (by omega) (rfl : vCl[8]? = some (RX9, TX9, 20)) uin_X9 tyX9_ok nmX9 (by decide) wf_X9_20 (Or.inl rfl) rfl rfl rfl rfl (Nat.le_of_ble_eq_true rfl) rfl dX9_init_27 ?_
  refine n_aload_n X dX9_init_30 rfl rfl ?_
  refine n_new X (C := RX6) (T := TX6) (fs := [.null]) (by omega) (by omega) uin_X6 tyX6 tyX6_ok wnc_X9_9 wni_X6 wz_X6 (rfl : vCl[6]? = some (RX6, TX6, 1)) (fun j hj => by match j, hj with | 0, _ => exact rfl | j9 + 1, h9 => exact absurd h9 (by omega)) (Nat.le_of_ble_eq_true rfl) (Nat.le_of_ble_eq_true rfl) dX9_init_31 ?_
  refine n_dup X dX9_init_34 rfl ?_
  refine n_bipush X 8 dX9_init_35 rfl ?_
  refine n_call X (n' := (t + 7)) [.int 8] [.ref (Γ.1 + (t + 5)), .ref (Γ.1 + t)] (K_Row hG (shp g0 t (.inr (8, [.ref (Γ.1 + (t + 1)), .ref (Γ.1 + (t + 3)), .null, .null, .null, .null, .null, .null, .int 0, .int 0, .int 0, .int 0, .int 0, .int 0, .int 0, .int 0, .int 0, .int 0, .int 0, .int 0])) (ini Γ)) (t + 5) 8 8 gt.2.2.2.1 (by decide) rfl) (by omega) (by omega) wc_X6_init wz_X6 wm_X9_11 wi_X6_init rfl yki_X6_init rfl ⟨(Nat.le_of_ble_eq_true rfl), (Nat.le_of_ble_eq_true rfl)⟩ ⟨(Nat.le_of_ble_eq_true rfl), (Nat.le_of_ble_eq_true rfl)⟩ (Nat.le_of_ble_eq_true rfl) dX9_init_37 rfl ?_
  refine n_congr (shI_shp (by omega) (fun j h1 h2 => rfl)) ?_
  refine n_putF X hmn (C := RX9) (T := TX9) (k := 2) [.ref (Γ.1 + (t + 1)), .ref (Γ.1 + (t + 3)), .ref (Γ.1 + (t + 5)), .null, .null, .null, .null, .null, .int 0, .int 0, .int 0, .int 0, .int 0, .int 0, .int 0, .int 0, .int 0, .int 0, .int 0, .int 0] (by omega) (rfl : vCl[8]? = some (RX9, TX9, 20)) uin_X9 tyX9_ok nmX9 (by decide) wf_X9_23 (Or.inl rfl) rfl rfl rfl rfl (Nat.le_of_ble_eq_true rfl) rfl dX9_init_40 ?_
  refine n_aload_n X dX9_init_43 rfl rfl ?_
  refine n_new X (C := RX6) (T := TX6) (fs := [.null]) (by omega) (by omega) uin_X6 tyX6 tyX6_ok wnc_X9_9 wni_X6 wz_X6 (rfl : vCl[6]? = some (RX6, TX6, 1)) (fun j hj => by match j, hj with | 0, _ => exact rfl | j9 + 1, h9 => exact absurd h9 (by omega)) (Nat.le_of_ble_eq_true rfl) (Nat.le_of_ble_eq_true rfl) dX9_init_44 ?_
  refine n_dup X dX9_init_47 rfl ?_
  refine n_bipush X 64 dX9_init_48 rfl ?_
  refine n_call X (n' := (t + 9)) [.int 64] [.ref (Γ.1 + (t + 7)), .ref (Γ.1 + t)] (K_Row hG (shp g0 t (.inr (8, [.ref (Γ.1 + (t + 1)), .ref (Γ.1 + (t + 3)), .ref (Γ.1 + (t + 5)), .null, .null, .null, .null, .null, .int 0, .int 0, .int 0, .int 0, .int 0, .int 0, .int 0, .int 0, .int 0, .int 0, .int 0, .int 0])) (ini Γ)) (t + 7) 64 64 gt.2.2.2.2.1 (by decide) rfl) (by omega) (by omega) wc_X6_init wz_X6 wm_X9_11 wi_X6_init rfl yki_X6_init rfl ⟨(Nat.le_of_ble_eq_true rfl), (Nat.le_of_ble_eq_true rfl)⟩ ⟨(Nat.le_of_ble_eq_true rfl), (Nat.le_of_ble_eq_true rfl)⟩ (Nat.le_of_ble_eq_true rfl) dX9_init_50 rfl ?_
  refine n_congr (shI_shp (by omega) (fun j h1 h2 => rfl)) ?_
  refine n_putF X hmn (C := RX9) (T := TX9) (k := 3) [.ref (Γ.1 + (t + 1)), .ref (Γ.1 + (t + 3)), .ref (Γ.1 + (t + 5)), .ref (Γ.1 + (t + 7)), .null, .null, .null, .null, .int 0, .int 0, .int 0, .int 0, .int 0, .int 0, .int 0, .int 0, .int 0, .int 0, .int 0, .int 0] (by omega) (rfl : vCl[8]? = some (RX9, TX9, 20)) uin_X9 tyX9_ok nmX9 (by decide) wf_X9_26 (Or.inl rfl) rfl rfl rfl rfl (Nat.le_of_ble_eq_true rfl) rfl dX9_init_53 ?_
  refine n_aload_n X dX9_init_56 rfl rfl ?_
  refine n_new X (C := RX6) (T := TX6) (fs := [.null]) (by omega) (by omega) uin_X6 tyX6 tyX6_ok wnc_X9_9 wni_X6 wz_X6 (rfl : vCl[6]? = some (RX6, TX6, 1)) (fun j hj => by match j, hj with | 0, _ => exact rfl | j9 + 1, h9 => exact absurd h9 (by omega)) (Nat.le_of_ble_eq_true rfl) (Nat.le_of_ble_eq_true rfl) dX9_init_57 ?_
  refine n_dup X dX9_init_60 rfl ?_
  refine n_bipush X 40 dX9_init_61 rfl ?_
  refine n_call X (n' := (t + 11)) [.int 40] [.ref (Γ.1 + (t + 9)), .ref (Γ.1 + t)] (K_Row hG (shp g0 t (.inr (8, [.ref (Γ.1 + (t + 1)), .ref (Γ.1 + (t + 3)), .ref (Γ.1 + (t + 5)), .ref (Γ.1 + (t + 7)), .null, .null, .null, .null, .int 0, .int 0, .int 0, .int 0, .int 0, .int 0, .int 0, .int 0, .int 0, .int 0, .int 0, .int 0])) (ini Γ)) (t + 9) 40 40 gt.2.2.2.2.2.1 (by decide) rfl) (by omega) (by omega) wc_X6_init wz_X6 wm_X9_11 wi_X6_init rfl yki_X6_init rfl ⟨(Nat.le_of_ble_eq_true rfl), (Nat.le_of_ble_eq_true rfl)⟩ ⟨(Nat.le_of_ble_eq_true rfl), (Nat.le_of_ble_eq_true rfl)⟩ (Nat.le_of_ble_eq_true rfl) dX9_init_63 rfl ?_
  refine n_congr (shI_shp (by omega) (fun j h1 h2 => rfl)) ?_
  refine n_putF X hmn (C := RX9) (T := TX9) (k := 4) [.ref (Γ.1 + (t + 1)), .ref (Γ.1 + (t + 3)), .ref (Γ.1 + (t + 5)), .ref (Γ.1 + (t + 7)), .ref (Γ.1 + (t + 9)), .null, .null, .null, .int 0, .int 0, .int 0, .int 0, .int 0, .int 0, .int 0, .int 0, .int 0, .int 0, .int 0, .int 0] (by omega) (rfl : vCl[8]? = some (RX9, TX9, 20)) uin_X9 tyX9_ok nmX9 (by decide) wf_X9_29 (Or.inl rfl) rfl rfl rfl rfl (Nat.le_of_ble_eq_true rfl) rfl dX9_init_66 ?_
  refine n_aload_n X dX9_init_69 rfl rfl ?_
  refine n_new X (C := RX6) (T := TX6) (fs := [.null]) (by omega) (by omega) uin_X6 tyX6 tyX6_ok wnc_X9_9 wni_X6 wz_X6 (rfl : vCl[6]? = some (RX6, TX6, 1)) (fun j hj => by match j, hj with | 0, _ => exact rfl | j9 + 1, h9 => exact absurd h9 (by omega)) (Nat.le_of_ble_eq_true rfl) (Nat.le_of_ble_eq_true rfl) dX9_init_70 ?_
  refine n_dup X dX9_init_73 rfl ?_
  refine n_bipush X 20 dX9_init_74 rfl ?_
  refine n_call X (n' := (t + 13)) [.int 20] [.ref (Γ.1 + (t + 11)), .ref (Γ.1 + t)] (K_Row hG (shp g0 t (.inr (8, [.ref (Γ.1 + (t + 1)), .ref (Γ.1 + (t + 3)), .ref (Γ.1 + (t + 5)), .ref (Γ.1 + (t + 7)), .ref (Γ.1 + (t + 9)), .null, .null, .null, .int 0, .int 0, .int 0, .int 0, .int 0, .int 0, .int 0, .int 0, .int 0, .int 0, .int 0, .int 0])) (ini Γ)) (t + 11) 20 20 gt.2.2.2.2.2.2.1 (by decide) rfl) (by omega) (by omega) wc_X6_init wz_X6 wm_X9_11 wi_X6_init rfl yki_X6_init rfl ⟨(Nat.le_of_ble_eq_true rfl), (Nat.le_of_ble_eq_true rfl)⟩ ⟨(Nat.le_of_ble_eq_true rfl), (Nat.le_of_ble_eq_true rfl)⟩ (Nat.le_of_ble_eq_true rfl) dX9_init_76 rfl ?_
  refine n_congr (shI_shp (by omega) (fun j h1 h2 => rfl)) ?_
  refine n_putF X hmn (C := RX9) (T := TX9) (k := 5) [.ref (Γ.1 + (t + 1)), .ref (Γ.1 + (t + 3)), .ref (Γ.1 + (t + 5)), .ref (Γ.1 + (t + 7)), .ref (Γ.1 + (t + 9)), .ref (Γ.1 + (t + 11)), .null, .null, .int 0, .int 0, .int 0, .int 0, .int 0, .int 0, .int 0, .int 0, .int 0, .int 0, .int 0, .int 0] (by omega) (rfl : vCl[8]? = some (RX9, TX9, 20)) uin_X9 tyX9_ok nmX9 (by decide) wf_X9_32 (Or.inl rfl) rfl rfl rfl rfl (Nat.le_of_ble_eq_true rfl) rfl dX9_init_79 ?_
  refine n_aload_n X dX9_init_82 rfl rfl ?_
  refine n_new X (C := RX6) (T := TX6) (fs := [.null]) (by omega) (by omega) uin_X6 tyX6 tyX6_ok wnc_X9_9 wni_X6 wz_X6 (rfl : vCl[6]? = some (RX6, TX6, 1)) (fun j hj => by match j, hj with | 0, _ => exact rfl | j9 + 1, h9 => exact absurd h9 (by omega)) (Nat.le_of_ble_eq_true rfl) (Nat.le_of_ble_eq_true rfl) dX9_init_83 ?_
  refine n_dup X dX9_init_86 rfl ?_
  refine n_bipush X 20 dX9_init_87 rfl ?_
  refine n_call X (n' := (t + 15)) [.int 20] [.ref (Γ.1 + (t + 13)), .ref (Γ.1 + t)] (K_Row hG (shp g0 t (.inr (8, [.ref (Γ.1 + (t + 1)), .ref (Γ.1 + (t + 3)), .ref (Γ.1 + (t + 5)), .ref (Γ.1 + (t + 7)), .ref (Γ.1 + (t + 9)), .ref (Γ.1 + (t + 11)), .null, .null, .int 0, .int 0, .int 0, .int 0, .int 0, .int 0, .int 0, .int 0, .int 0, .int 0, .int 0, .int 0])) (ini Γ)) (t + 13) 20 20 gt.2.2.2.2.2.2.2.1 (by decide) rfl) (by omega) (by omega) wc_X6_init wz_X6 wm_X9_11 wi_X6_init rfl yki_X6_init rfl ⟨(Nat.le_of_ble_eq_true rfl), (Nat.le_of_ble_eq_true rfl)⟩ ⟨(Nat.le_of_ble_eq_true rfl), (Nat.le_of_ble_eq_true rfl)⟩ (Nat.le_of_ble_eq_true rfl) dX9_init_89 rfl ?_
  refine n_congr (shI_shp (by omega) (fun j h1 h2 => rfl)) ?_
  refine n_putF X hmn (C := RX9) (T := TX9) (k := 6) [.ref (Γ.1 + (t + 1)), .ref (Γ.1 + (t + 3)), .ref (Γ.1 + (t + 5)), .ref (Γ.1 + (t + 7)), .ref (Γ.1 + (t + 9)), .ref (Γ.1 + (t + 11)), .ref (Γ.1 + (t + 13)), .null, .int 0, .int 0, .int 0, .int 0, .int 0, .int 0, .int 0, .int 0, .int 0, .int 0, .int 0, .int 0] (by omega) (rfl : vCl[8]? = some (RX9, TX9, 20)) uin_X9 tyX9_ok nmX9 (by decide) wf_X9_35 (Or.inl rfl) rfl rfl rfl rfl (Nat.le_of_ble_eq_true rfl) rfl dX9_init_92 ?_
  refine n_aload_n X dX9_init_95 rfl rfl ?_
  refine n_new X (C := RX6) (T := TX6) (fs := [.null]) (by omega) (by omega) uin_X6 tyX6 tyX6_ok wnc_X9_9 wni_X6 wz_X6 (rfl : vCl[6]? = some (RX6, TX6, 1)) (fun j hj => by match j, hj with | 0, _ => exact rfl | j9 + 1, h9 => exact absurd h9 (by omega)) (Nat.le_of_ble_eq_true rfl) (Nat.le_of_ble_eq_true rfl) dX9_init_96 ?_
  refine n_dup X dX9_init_99 rfl ?_
  refine n_sipush X 240 dX9_init_100 rfl ?_
  refine n_call X (n' := (t + 17)) [.int 240] [.ref (Γ.1 + (t + 15)), .ref (Γ.1 + t)] (K_Row hG (shp g0 t (.inr (8, [.ref (Γ.1 + (t + 1)), .ref (Γ.1 + (t + 3)), .ref (Γ.1 + (t + 5)), .ref (Γ.1 + (t + 7)), .ref (Γ.1 + (t + 9)), .ref (Γ.1 + (t + 11)), .ref (Γ.1 + (t + 13)), .null, .int 0, .int 0, .int 0, .int 0, .int 0, .int 0, .int 0, .int 0, .int 0, .int 0, .int 0, .int 0])) (ini Γ)) (t + 15) 240 240 gt.2.2.2.2.2.2.2.2 (by decide) rfl) (by omega) (by omega) wc_X6_init wz_X6 wm_X9_11 wi_X6_init rfl yki_X6_init rfl ⟨(Nat.le_of_ble_eq_true rfl), (Nat.le_of_ble_eq_true rfl)⟩ ⟨(Nat.le_of_ble_eq_true rfl), (Nat.le_of_ble_eq_true rfl)⟩ (Nat.le_of_ble_eq_true rfl) dX9_init_103 rfl ?_
  refine n_congr (shI_shp (by omega) (fun j h1 h2 => rfl)) ?_
  refine n_putF X hmn (C := RX9) (T := TX9) (k := 7) [.ref (Γ.1 + (t + 1)), .ref (Γ.1 + (t + 3)), .ref (Γ.1 + (t + 5)), .ref (Γ.1 + (t + 7)), .ref (Γ.1 + (t + 9)), .ref (Γ.1 + (t + 11)), .ref (Γ.1 + (t + 13)), .ref (Γ.1 + (t + 15)), .int 0, .int 0, .int 0, .int 0, .int 0, .int 0, .int 0, .int 0, .int 0, .int 0, .int 0, .int 0] (by omega) (rfl : vCl[8]? = some (RX9, TX9, 20)) uin_X9 tyX9_ok nmX9 (by decide) wf_X9_38 (Or.inl rfl) rfl rfl rfl rfl (Nat.le_of_ble_eq_true rfl) rfl dX9_init_106 ?_
  refine n_aload_n X dX9_init_109 rfl rfl ?_
  refine n_bipush X 20 dX9_init_110 rfl ?_
  refine n_put X (C := RX9) (T := TX9) (k := 12) [.ref (Γ.1 + (t + 1)), .ref (Γ.1 + (t + 3)), .ref (Γ.1 + (t + 5)), .ref (Γ.1 + (t + 7)), .ref (Γ.1 + (t + 9)), .ref (Γ.1 + (t + 11)), .ref (Γ.1 + (t + 13)), .ref (Γ.1 + (t + 15)), .int 0, .int 0, .int 0, .int 0, .int 20, .int 0, .int 0, .int 0, .int 0, .int 0, .int 0, .int 0] (by omega) (rfl : vCl[8]? = some (RX9, TX9, 20)) uin_X9 tyX9_ok nmX9 (by decide) wf_X9_41 (Or.inl rfl) rfl rfl rfl (Nat.le_of_ble_eq_true rfl) rfl dX9_init_112 ?_
  refine n_aload_n X dX9_init_115 rfl rfl ?_
  refine n_iconst X 1 dX9_init_116 rfl ?_
  refine n_put X (C := RX9) (T := TX9) (k := 13) [.ref (Γ.1 + (t + 1)), .ref (Γ.1 + (t + 3)), .ref (Γ.1 + (t + 5)), .ref (Γ.1 + (t + 7)), .ref (Γ.1 + (t + 9)), .ref (Γ.1 + (t + 11)), .ref (Γ.1 + (t + 13)), .ref (Γ.1 + (t + 15)), .int 0, .int 0, .int 0, .int 0, .int 20, .int 1, .int 0, .int 0, .int 0, .int 0, .int 0, .int 0] (by omega) (rfl : vCl[8]? = some (RX9, TX9, 20)) uin_X9 tyX9_ok nmX9 (by decide) wf_X9_45 (Or.inl rfl) rfl rfl rfl (Nat.le_of_ble_eq_true rfl) rfl dX9_init_117 ?_
  refine n_aload_n X dX9_init_120 rfl rfl ?_
  refine n_bipush X 10 dX9_init_121 rfl ?_
  refine n_put X (C := RX9) (T := TX9) (k := 14) [.ref (Γ.1 + (t + 1)), .ref (Γ.1 + (t + 3)), .ref (Γ.1 + (t + 5)), .ref (Γ.1 + (t + 7)), .ref (Γ.1 + (t + 9)), .ref (Γ.1 + (t + 11)), .ref (Γ.1 + (t + 13)), .ref (Γ.1 + (t + 15)), .int 0, .int 0, .int 0, .int 0, .int 20, .int 1, .int 10, .int 0, .int 0, .int 0, .int 0, .int 0] (by omega) (rfl : vCl[8]? = some (RX9, TX9, 20)) uin_X9 tyX9_ok nmX9 (by decide) wf_X9_48 (Or.inl rfl) rfl rfl rfl (Nat.le_of_ble_eq_true rfl) rfl dX9_init_123 ?_
  refine n_aload_n X dX9_init_126 rfl rfl ?_
  refine n_iconst X 1 dX9_init_127 rfl ?_
  refine n_put X (C := RX9) (T := TX9) (k := 17) [.ref (Γ.1 + (t + 1)), .ref (Γ.1 + (t + 3)), .ref (Γ.1 + (t + 5)), .ref (Γ.1 + (t + 7)), .ref (Γ.1 + (t + 9)), .ref (Γ.1 + (t + 11)), .ref (Γ.1 + (t + 13)), .ref (Γ.1 + (t + 15)), .int 0, .int 0, .int 0, .int 0, .int 20, .int 1, .int 10, .int 0, .int 0, .int 1, .int 0, .int 0] (by omega) (rfl : vCl[8]? = some (RX9, TX9, 20)) uin_X9 tyX9_ok nmX9 (by decide) wf_X9_51 (Or.inl rfl) rfl rfl rfl (Nat.le_of_ble_eq_true rfl) rfl dX9_init_128 ?_
  exact n_vret X hr dX9_init_131 (Nat.le_of_ble_eq_true rfl) (Nat.le_of_ble_eq_true rfl) (shp_shI (ini_at gt.1 (ne334 gt.1 (by decide))).symm (fun j h1 h2 => rfl))
set_option maxRecDepth 20000 in
set_option maxHeartbeats 4000000 in
theorem K_Law (hG : Gok l Γ D s0) (g0 : Nat → va_E) (w : Nat) (gw : isLaw w) : CN l Γ D s0 yX2_init cX2_init 1 2 7 (491) 33 [.ref (Γ.1 + w)] ((w + 1)) (shp g0 w (.inr (2, [.null, .null, .null, .null, .int 0, .int 0])) (ini Γ)) ((w + 8)) (shI Γ g0 w) := by
  refine n_met (own := RX2) hG (by decide +kernel) rfl rfl rfl (Nat.le_of_ble_eq_true rfl) ?_
  intro p e s m args below meth c X hmn hb hr
  show N p l e _ s m args below meth c Γ D 0 0 _ _ _ 0 [some (.ref (Γ.1 + w))] []
  refine n_aload_n X dX2_init_0 rfl rfl ?_
  refine n_objInit X wol_X2 woi woc (Nat.le_of_ble_eq_true rfl) (Nat.le_of_ble_eq_true rfl) dX2_init_1 ?_
  refine n_aload_n X dX2_init_4 rfl rfl ?_
  refine n_new X (C := RX6) (T := TX6) (fs := [.null]) (by omega) (by omega) uin_X6 tyX6 tyX6_ok wnc_X2_9 wni_X6 wz_X6 (rfl : vCl[6]? = some (RX6, TX6, 1)) (fun j hj => by match j, hj with | 0, _ => exact rfl | j9 + 1, h9 => exact absurd h9 (by omega)) (Nat.le_of_ble_eq_true rfl) (Nat.le_of_ble_eq_true rfl) dX2_init_5 ?_
  refine n_dup X dX2_init_8 rfl ?_
  refine n_bipush X 12 dX2_init_9 rfl ?_
  refine n_call X (n' := (w + 3)) [.int 12] [.ref (Γ.1 + (w + 1)), .ref (Γ.1 + w)] (K_Row hG (shp g0 w (.inr (2, [.null, .null, .null, .null, .int 0, .int 0])) (ini Γ)) (w + 1) 12 12 gw.2.1 (by decide) rfl) (by omega) (by omega) wc_X6_init wz_X6 wm_X2_11 wi_X6_init rfl yki_X6_init rfl ⟨(Nat.le_of_ble_eq_true rfl), (Nat.le_of_ble_eq_true rfl)⟩ ⟨(Nat.le_of_ble_eq_true rfl), (Nat.le_of_ble_eq_true rfl)⟩ (Nat.le_of_ble_eq_true rfl) dX2_init_11 rfl ?_
  refine n_congr (shI_shp (by omega) (fun j h1 h2 => rfl)) ?_
  refine n_putF X hmn (C := RX2) (T := TX2) (k := 0) [.ref (Γ.1 + (w + 1)), .null, .null, .null, .int 0, .int 0] (by omega) (rfl : vCl[2]? = some (RX2, TX2, 6)) uin_X2 tyX2_ok nmX2 (by decide) wf_X2_14 (Or.inl rfl) rfl rfl rfl rfl (Nat.le_of_ble_eq_true rfl) rfl dX2_init_14 ?_
  refine n_aload_n X dX2_init_17 rfl rfl ?_
  refine n_new X (C := RX6) (T := TX6) (fs := [.null]) (by omega) (by omega) uin_X6 tyX6 tyX6_ok wnc_X2_9 wni_X6 wz_X6 (rfl : vCl[6]? = some (RX6, TX6, 1)) (fun j hj => by match j, hj with | 0, _ => exact rfl | j9 + 1, h9 => exact absurd h9 (by omega)) (Nat.le_of_ble_eq_true rfl) (Nat.le_of_ble_eq_true rfl) dX2_init_18 ?_
  refine n_dup X dX2_init_21 rfl ?_
  refine n_bipush X 12 dX2_init_22 rfl ?_
  refine n_call X (n' := (w + 5)) [.int 12] [.ref (Γ.1 + (w + 3)), .ref (Γ.1 + w)] (K_Row hG (shp g0 w (.inr (2, [.ref (Γ.1 + (w + 1)), .null, .null, .null, .int 0, .int 0])) (ini Γ)) (w + 3) 12 12 gw.2.2.1 (by decide) rfl) (by omega) (by omega) wc_X6_init wz_X6 wm_X2_11 wi_X6_init rfl yki_X6_init rfl ⟨(Nat.le_of_ble_eq_true rfl), (Nat.le_of_ble_eq_true rfl)⟩ ⟨(Nat.le_of_ble_eq_true rfl), (Nat.le_of_ble_eq_true rfl)⟩ (Nat.le_of_ble_eq_true rfl) dX2_init_24 rfl ?_
  refine n_congr (shI_shp (by omega) (fun j h1 h2 => rfl)) ?_
  refine n_putF X hmn (C := RX2) (T := TX2) (k := 1) [.ref (Γ.1 + (w + 1)), .ref (Γ.1 + (w + 3)), .null, .null, .int 0, .int 0] (by omega) (rfl : vCl[2]? = some (RX2, TX2, 6)) uin_X2 tyX2_ok nmX2 (by decide) wf_X2_20 (Or.inl rfl) rfl rfl rfl rfl (Nat.le_of_ble_eq_true rfl) rfl dX2_init_27 ?_
  refine n_aload_n X dX2_init_30 rfl rfl ?_
  refine n_sipush X 400 dX2_init_31 rfl ?_
  refine n_newa X (atype := .int) (ty := .int) (len := 400) (t0 := 0) (cA := Γ.2.1.1) (a0 := (400, .inl (fun _ => 0))) (by omega) (by omega) war_int rfl rfl (fun C h9 => by cases h9) rfl (by decide) rfl (by decide) ((shp_gt (by omega)).trans (ini_at gw.2.2.2.1 (by intro h9; obtain rfl : w = 329 := (by omega); exact absurd gw.1 (by decide)))) (Nat.le_of_ble_eq_true rfl) (Nat.le_of_ble_eq_true rfl) dX2_init_34 ?_
  refine n_putF X hmn (C := RX2) (T := TX2) (k := 2) [.ref (Γ.1 + (w + 1)), .ref (Γ.1 + (w + 3)), .ref (Γ.1 + (w + 5)), .null, .int 0, .int 0] (by omega) (rfl : vCl[2]? = some (RX2, TX2, 6)) uin_X2 tyX2_ok nmX2 (by decide) wf_X2_23 (Or.inl rfl) rfl rfl rfl rfl (Nat.le_of_ble_eq_true rfl) rfl dX2_init_36 ?_
  refine n_aload_n X dX2_init_39 rfl rfl ?_
  refine n_new X (C := RX6) (T := TX6) (fs := [.null]) (by omega) (by omega) uin_X6 tyX6 tyX6_ok wnc_X2_9 wni_X6 wz_X6 (rfl : vCl[6]? = some (RX6, TX6, 1)) (fun j hj => by match j, hj with | 0, _ => exact rfl | j9 + 1, h9 => exact absurd h9 (by omega)) (Nat.le_of_ble_eq_true rfl) (Nat.le_of_ble_eq_true rfl) dX2_init_40 ?_
  refine n_dup X dX2_init_43 rfl ?_
  refine n_bipush X 64 dX2_init_44 rfl ?_
  refine n_call X (n' := (w + 8)) [.int 64] [.ref (Γ.1 + (w + 6)), .ref (Γ.1 + w)] (K_Row hG (shp g0 w (.inr (2, [.ref (Γ.1 + (w + 1)), .ref (Γ.1 + (w + 3)), .ref (Γ.1 + (w + 5)), .null, .int 0, .int 0])) (ini Γ)) (w + 6) 64 64 gw.2.2.2.2 (by decide) rfl) (by omega) (by omega) wc_X6_init wz_X6 wm_X2_11 wi_X6_init rfl yki_X6_init rfl ⟨(Nat.le_of_ble_eq_true rfl), (Nat.le_of_ble_eq_true rfl)⟩ ⟨(Nat.le_of_ble_eq_true rfl), (Nat.le_of_ble_eq_true rfl)⟩ (Nat.le_of_ble_eq_true rfl) dX2_init_46 rfl ?_
  refine n_congr (shI_shp (by omega) (fun j h1 h2 => rfl)) ?_
  refine n_putF X hmn (C := RX2) (T := TX2) (k := 3) [.ref (Γ.1 + (w + 1)), .ref (Γ.1 + (w + 3)), .ref (Γ.1 + (w + 5)), .ref (Γ.1 + (w + 6)), .int 0, .int 0] (by omega) (rfl : vCl[2]? = some (RX2, TX2, 6)) uin_X2 tyX2_ok nmX2 (by decide) wf_X2_27 (Or.inl rfl) rfl rfl rfl rfl (Nat.le_of_ble_eq_true rfl) rfl dX2_init_49 ?_
  refine n_aload_n X dX2_init_52 rfl rfl ?_
  refine n_iconst X (-1) dX2_init_53 rfl ?_
  refine n_put X (C := RX2) (T := TX2) (k := 5) [.ref (Γ.1 + (w + 1)), .ref (Γ.1 + (w + 3)), .ref (Γ.1 + (w + 5)), .ref (Γ.1 + (w + 6)), .int 0, .int (-1)] (by omega) (rfl : vCl[2]? = some (RX2, TX2, 6)) uin_X2 tyX2_ok nmX2 (by decide) wf_X2_30 (Or.inl rfl) rfl rfl rfl (Nat.le_of_ble_eq_true rfl) rfl dX2_init_54 ?_
  exact n_vret X hr dX2_init_57 (Nat.le_of_ble_eq_true rfl) (Nat.le_of_ble_eq_true rfl) (shp_shI (ini_at gw.1 (ne334 gw.1 (by decide))).symm (fun j h1 h2 => rfl))
set_option maxRecDepth 20000 in
set_option maxHeartbeats 4000000 in
theorem K_Look (hG : Gok l Γ D s0) (g0 : Nat → va_E) (k : Nat) (gk : isLook k) : CN l Γ D s0 yX4_init cX4_init 1 1 0 (0) 12 [.ref (Γ.1 + k)] ((k + 1)) (shp g0 k (.inr (4, [.int 0, .int 0, .int 0, .int 0, .int 0, .int 0, .int 0])) (ini Γ)) ((k + 1)) (shI Γ g0 k) := by
  refine n_met (own := RX4) hG (by decide +kernel) rfl rfl rfl (Nat.le_of_ble_eq_true rfl) ?_
  intro p e s m args below meth c X hmn hb hr
  show N p l e _ s m args below meth c Γ D 0 0 _ _ _ 0 [some (.ref (Γ.1 + k))] []
  refine n_aload_n X dX4_init_0 rfl rfl ?_
  refine n_objInit X wol_X4 woi woc (Nat.le_of_ble_eq_true rfl) (Nat.le_of_ble_eq_true rfl) dX4_init_1 ?_
  exact n_vret X hr dX4_init_4 (Nat.le_of_ble_eq_true rfl) (Nat.le_of_ble_eq_true rfl) (shp_shI (ini_at gk (ne334 gk (by decide))).symm (fun j h1 h2 => rfl))
set_option maxRecDepth 20000 in
set_option maxHeartbeats 4000000 in
theorem K_Text_54 (hG : Gok l Γ D s0) (hAO : va_AO "RivalWeds$Town" s0 ∧ va_AO "RivalWeds$Kind" s0) (g0 : Nat → va_E) : CN l Γ D s0 yX7_init cX7_init 1 2 6 (2001) 33 [.ref (Γ.1 + 54)] (55) (shp g0 54 (.inr (9, [.null, .null, .null, .null, .null, .int 0, .int 0, .int 0, .null, .int 0, .int 0, .int 0, .int 0, .null])) (ini Γ)) (61) (shp g0 54 (.inr (9, [.ref (Γ.1 + 55), .ref (Γ.1 + 57), .ref (Γ.1 + 58), .ref (Γ.1 + 59), .ref (Γ.1 + 60), .int 0, .int 0, .int 0, va_rf (kop Γ 29), .int 0, .int 0, .int (-1), .int (-1), .null])) (ini Γ)) := by
  refine n_met (own := RX7) hG (by decide +kernel) rfl rfl rfl (Nat.le_of_ble_eq_true rfl) ?_
  intro p e s m args below meth c X hmn hb hr
  show N p l e _ s m args below meth c Γ D 0 0 _ _ _ 0 [some (.ref (Γ.1 + 54))] []
  refine n_aload_n X dX7_init_0 rfl rfl ?_
  refine n_objInit X wol_X7 woi woc (Nat.le_of_ble_eq_true rfl) (Nat.le_of_ble_eq_true rfl) dX7_init_1 ?_
  refine n_aload_n X dX7_init_4 rfl rfl ?_
  refine n_new X (C := RX6) (T := TX6) (fs := [.null]) (by omega) (by omega) uin_X6 tyX6 tyX6_ok wnc_X7_9 wni_X6 wz_X6 (rfl : vCl[6]? = some (RX6, TX6, 1)) (fun j hj => by match j, hj with | 0, _ => exact rfl | j9 + 1, h9 => exact absurd h9 (by omega)) (Nat.le_of_ble_eq_true rfl) (Nat.le_of_ble_eq_true rfl) dX7_init_5 ?_
  refine n_dup X dX7_init_8 rfl ?_
  refine n_sipush X 400 dX7_init_9 rfl ?_
  refine n_call X (n' := 57) [.int 400] [.ref (Γ.1 + 55), .ref (Γ.1 + 54)] (K_Row hG (shp g0 54 (.inr (9, [.null, .null, .null, .null, .null, .int 0, .int 0, .int 0, .null, .int 0, .int 0, .int 0, .int 0, .null])) (ini Γ)) 55 400 400 (⟨rfl, rfl⟩ : isRow 55 400) (by decide) rfl) (by omega) (by omega) wc_X6_init wz_X6 wm_X7_11 wi_X6_init rfl yki_X6_init rfl ⟨(Nat.le_of_ble_eq_true rfl), (Nat.le_of_ble_eq_true rfl)⟩ ⟨(Nat.le_of_ble_eq_true rfl), (Nat.le_of_ble_eq_true rfl)⟩ (Nat.le_of_ble_eq_true rfl) dX7_init_12 rfl ?_
  refine n_congr (shI_shp (by omega) (fun j h1 h2 => rfl)) ?_
  refine n_putF X hmn (C := RX10) (T := TX10) (k := 0) [.ref (Γ.1 + 55), .null, .null, .null, .null, .int 0, .int 0, .int 0, .null, .int 0, .int 0, .int 0, .int 0, .null] (by omega) (rfl : vCl[9]? = some (RX10, TX10, 14)) uin_X10 tyX10_ok nmX10 (by decide) wf_X7_14 (Or.inl rfl) rfl rfl rfl rfl (Nat.le_of_ble_eq_true rfl) rfl dX7_init_15 ?_
  refine n_aload_n X dX7_init_18 rfl rfl ?_
  refine n_sipush X 400 dX7_init_19 rfl ?_
  refine n_anew X (C := "RivalWeds$Kind") (len := 400) (t0 := 4) (cA := Γ.2.1.2.2.2.2) hAO.2 (by omega) (by omega) wnc_X7_20 rfl (by decide) rfl (by decide) ((shp_gt (by omega)).trans (ini_at (rfl : entTbl[57]? = some (12, 400)) (by decide))) (Nat.le_of_ble_eq_true rfl) (Nat.le_of_ble_eq_true rfl) dX7_init_22 ?_
  refine n_putF X hmn (C := RX10) (T := TX10) (k := 1) [.ref (Γ.1 + 55), .ref (Γ.1 + 57), .null, .null, .null, .int 0, .int 0, .int 0, .null, .int 0, .int 0, .int 0, .int 0, .null] (by omega) (rfl : vCl[9]? = some (RX10, TX10, 14)) uin_X10 tyX10_ok nmX10 (by decide) wf_X7_22 (Or.inl rfl) rfl rfl rfl rfl (Nat.le_of_ble_eq_true rfl) rfl dX7_init_25 ?_
  refine n_aload_n X dX7_init_28 rfl rfl ?_
  refine n_sipush X 400 dX7_init_29 rfl ?_
  refine n_newa X (atype := .int) (ty := .int) (len := 400) (t0 := 0) (cA := Γ.2.1.1) (a0 := (400, .inl (fun _ => 0))) (by omega) (by omega) war_int rfl rfl (fun C h9 => by cases h9) rfl (by decide) rfl (by decide) ((shp_gt (by omega)).trans (ini_at (rfl : entTbl[58]? = some (3, 400)) (by decide))) (Nat.le_of_ble_eq_true rfl) (Nat.le_of_ble_eq_true rfl) dX7_init_32 ?_
  refine n_putF X hmn (C := RX10) (T := TX10) (k := 2) [.ref (Γ.1 + 55), .ref (Γ.1 + 57), .ref (Γ.1 + 58), .null, .null, .int 0, .int 0, .int 0, .null, .int 0, .int 0, .int 0, .int 0, .null] (by omega) (rfl : vCl[9]? = some (RX10, TX10, 14)) uin_X10 tyX10_ok nmX10 (by decide) wf_X7_26 (Or.inl rfl) rfl rfl rfl rfl (Nat.le_of_ble_eq_true rfl) rfl dX7_init_34 ?_
  refine n_aload_n X dX7_init_37 rfl rfl ?_
  refine n_sipush X 400 dX7_init_38 rfl ?_
  refine n_newa X (atype := .int) (ty := .int) (len := 400) (t0 := 0) (cA := Γ.2.1.1) (a0 := (400, .inl (fun _ => 0))) (by omega) (by omega) war_int rfl rfl (fun C h9 => by cases h9) rfl (by decide) rfl (by decide) ((shp_gt (by omega)).trans (ini_at (rfl : entTbl[59]? = some (3, 400)) (by decide))) (Nat.le_of_ble_eq_true rfl) (Nat.le_of_ble_eq_true rfl) dX7_init_41 ?_
  refine n_putF X hmn (C := RX10) (T := TX10) (k := 3) [.ref (Γ.1 + 55), .ref (Γ.1 + 57), .ref (Γ.1 + 58), .ref (Γ.1 + 59), .null, .int 0, .int 0, .int 0, .null, .int 0, .int 0, .int 0, .int 0, .null] (by omega) (rfl : vCl[9]? = some (RX10, TX10, 14)) uin_X10 tyX10_ok nmX10 (by decide) wf_X7_30 (Or.inl rfl) rfl rfl rfl rfl (Nat.le_of_ble_eq_true rfl) rfl dX7_init_43 ?_
  refine n_aload_n X dX7_init_46 rfl rfl ?_
  refine n_sipush X 400 dX7_init_47 rfl ?_
  refine n_newa X (atype := .int) (ty := .int) (len := 400) (t0 := 0) (cA := Γ.2.1.1) (a0 := (400, .inl (fun _ => 0))) (by omega) (by omega) war_int rfl rfl (fun C h9 => by cases h9) rfl (by decide) rfl (by decide) ((shp_gt (by omega)).trans (ini_at (rfl : entTbl[60]? = some (3, 400)) (by decide))) (Nat.le_of_ble_eq_true rfl) (Nat.le_of_ble_eq_true rfl) dX7_init_50 ?_
  refine n_putF X hmn (C := RX10) (T := TX10) (k := 4) [.ref (Γ.1 + 55), .ref (Γ.1 + 57), .ref (Γ.1 + 58), .ref (Γ.1 + 59), .ref (Γ.1 + 60), .int 0, .int 0, .int 0, .null, .int 0, .int 0, .int 0, .int 0, .null] (by omega) (rfl : vCl[9]? = some (RX10, TX10, 14)) uin_X10 tyX10_ok nmX10 (by decide) wf_X7_33 (Or.inl rfl) rfl rfl rfl rfl (Nat.le_of_ble_eq_true rfl) rfl dX7_init_52 ?_
  refine n_aload_n X dX7_init_55 rfl rfl ?_
  refine n_kstatic X 29 rfl rfl wf_X7_36 dX7_init_56 ?_
  refine n_put X (C := RX10) (T := TX10) (k := 8) [.ref (Γ.1 + 55), .ref (Γ.1 + 57), .ref (Γ.1 + 58), .ref (Γ.1 + 59), .ref (Γ.1 + 60), .int 0, .int 0, .int 0, va_rf (kop Γ 29), .int 0, .int 0, .int 0, .int 0, .null] (by omega) (rfl : vCl[9]? = some (RX10, TX10, 14)) uin_X10 tyX10_ok nmX10 (by decide) wf_X7_40 (Or.inl rfl) rfl kop_fit.1 kop_fit.2 (Nat.le_of_ble_eq_true rfl) rfl dX7_init_59 ?_
  refine n_aload_n X dX7_init_62 rfl rfl ?_
  refine n_iconst X (-1) dX7_init_63 rfl ?_
  refine n_put X (C := RX10) (T := TX10) (k := 11) [.ref (Γ.1 + 55), .ref (Γ.1 + 57), .ref (Γ.1 + 58), .ref (Γ.1 + 59), .ref (Γ.1 + 60), .int 0, .int 0, .int 0, va_rf (kop Γ 29), .int 0, .int 0, .int (-1), .int 0, .null] (by omega) (rfl : vCl[9]? = some (RX10, TX10, 14)) uin_X10 tyX10_ok nmX10 (by decide) wf_X7_43 (Or.inl rfl) rfl rfl rfl (Nat.le_of_ble_eq_true rfl) rfl dX7_init_64 ?_
  refine n_aload_n X dX7_init_67 rfl rfl ?_
  refine n_iconst X (-1) dX7_init_68 rfl ?_
  refine n_put X (C := RX10) (T := TX10) (k := 12) [.ref (Γ.1 + 55), .ref (Γ.1 + 57), .ref (Γ.1 + 58), .ref (Γ.1 + 59), .ref (Γ.1 + 60), .int 0, .int 0, .int 0, va_rf (kop Γ 29), .int 0, .int 0, .int (-1), .int (-1), .null] (by omega) (rfl : vCl[9]? = some (RX10, TX10, 14)) uin_X10 tyX10_ok nmX10 (by decide) wf_X7_47 (Or.inl rfl) rfl rfl rfl (Nat.le_of_ble_eq_true rfl) rfl dX7_init_69 ?_
  exact n_vret X hr dX7_init_72 (Nat.le_of_ble_eq_true rfl) (Nat.le_of_ble_eq_true rfl) (fun j _ => rfl)
set_option maxRecDepth 20000 in
set_option maxHeartbeats 4000000 in
theorem K_TTx (hG : Gok l Γ D s0) (hAO : va_AO "RivalWeds$Town" s0 ∧ va_AO "RivalWeds$Kind" s0) (g0 : Nat → va_E) : CN l Γ D s0 yX10_init cX10_init 1 3 23 (2437) 53 [.ref (Γ.1 + 54)] (55) (shp g0 54 (.inr (9, [.null, .null, .null, .null, .null, .int 0, .int 0, .int 0, .null, .int 0, .int 0, .int 0, .int 0, .null])) (ini Γ)) (78) (shI Γ g0 54) := by
  refine n_met (own := RX10) hG (by decide +kernel) rfl rfl rfl (Nat.le_of_ble_eq_true rfl) ?_
  intro p e s m args below meth c X hmn hb hr
  show N p l e _ s m args below meth c Γ D 0 0 _ _ _ 0 [some (.ref (Γ.1 + 54))] []
  refine n_aload_n X dX10_init_0 rfl rfl ?_
  refine n_call X (n' := 61) [] [] (K_Text_54 hG hAO g0) (by omega) (by omega) wc_X7_init wz_X7 wm_X10_3 wi_X7_init rfl yki_X7_init rfl ⟨(Nat.le_of_ble_eq_true rfl), (Nat.le_of_ble_eq_true rfl)⟩ ⟨(Nat.le_of_ble_eq_true rfl), (Nat.le_of_ble_eq_true rfl)⟩ (Nat.le_of_ble_eq_true rfl) dX10_init_1 rfl ?_
  refine n_aload_n X dX10_init_4 rfl rfl ?_
  refine n_new X (C := RX9) (T := TX9) (fs := [.null, .null, .null, .null, .null, .null, .null, .null, .int 0, .int 0, .int 0, .int 0, .int 0, .int 0, .int 0, .int 0, .int 0, .int 0, .int 0, .int 0]) (by omega) (by omega) uin_X9 tyX9 tyX9_ok wnc_X10_9 wni_X9 wz_X9 (rfl : vCl[8]? = some (RX9, TX9, 20)) (fun j hj => by match j, hj with | 0, _ => exact rfl | 1, _ => exact rfl | 2, _ => exact rfl | 3, _ => exact rfl | 4, _ => exact rfl | 5, _ => exact rfl | 6, _ => exact rfl | 7, _ => exact rfl | 8, _ => exact rfl | 9, _ => exact rfl | 10, _ => exact rfl | 11, _ => exact rfl | 12, _ => exact rfl | 13, _ => exact rfl | 14, _ => exact rfl | 15, _ => exact rfl | 16, _ => exact rfl | 17, _ => exact rfl | 18, _ => exact rfl | 19, _ => exact rfl | j9 + 20, h9 => exact absurd h9 (by omega)) (Nat.le_of_ble_eq_true rfl) (Nat.le_of_ble_eq_true rfl) dX10_init_5 ?_
  refine n_dup X dX10_init_8 rfl ?_
  refine n_call X (n' := 78) [] [.ref (Γ.1 + 61), .ref (Γ.1 + 54)] (K_Town hG (shp g0 54 (.inr (9, [.ref (Γ.1 + 55), .ref (Γ.1 + 57), .ref (Γ.1 + 58), .ref (Γ.1 + 59), .ref (Γ.1 + 60), .int 0, .int 0, .int 0, va_rf (kop Γ 29), .int 0, .int 0, .int (-1), .int (-1), .null])) (ini Γ)) 61 (⟨rfl, ⟨rfl, rfl⟩, ⟨rfl, rfl⟩, ⟨rfl, rfl⟩, ⟨rfl, rfl⟩, ⟨rfl, rfl⟩, ⟨rfl, rfl⟩, ⟨rfl, rfl⟩, ⟨rfl, rfl⟩⟩ : isTown 61)) (by omega) (by omega) wc_X9_init wz_X9 wm_X10_11 wi_X9_init rfl yki_X9_init rfl ⟨(Nat.le_of_ble_eq_true rfl), (Nat.le_of_ble_eq_true rfl)⟩ ⟨(Nat.le_of_ble_eq_true rfl), (Nat.le_of_ble_eq_true rfl)⟩ (Nat.le_of_ble_eq_true rfl) dX10_init_9 rfl ?_
  refine n_congr (shI_shp (by omega) (fun j h1 h2 => rfl)) ?_
  refine n_putF X hmn (C := RX10) (T := TX10) (k := 13) [.ref (Γ.1 + 55), .ref (Γ.1 + 57), .ref (Γ.1 + 58), .ref (Γ.1 + 59), .ref (Γ.1 + 60), .int 0, .int 0, .int 0, va_rf (kop Γ 29), .int 0, .int 0, .int (-1), .int (-1), .ref (Γ.1 + 61)] (by omega) (rfl : vCl[9]? = some (RX10, TX10, 14)) uin_X10 tyX10_ok nmX10 (by decide) wf_X10_12 (Or.inl rfl) rfl rfl rfl rfl (Nat.le_of_ble_eq_true rfl) rfl dX10_init_12 ?_
  exact n_vret X hr dX10_init_15 (Nat.le_of_ble_eq_true rfl) (Nat.le_of_ble_eq_true rfl) (shp_shI (ini_at (rfl : entTbl[54]? = some (5, 0)) (ne334 (rfl : entTbl[54]? = some (5, 0)) (by decide))).symm (fun j h1 h2 => rfl))
set_option maxRecDepth 20000 in
set_option maxHeartbeats 4000000 in
theorem K_Text_78 (hG : Gok l Γ D s0) (hAO : va_AO "RivalWeds$Town" s0 ∧ va_AO "RivalWeds$Kind" s0) (g0 : Nat → va_E) : CN l Γ D s0 yX7_init cX7_init 1 2 6 (2001) 33 [.ref (Γ.1 + 78)] (79) (shp g0 78 (.inr (3, [.null, .null, .null, .null, .null, .int 0, .int 0, .int 0, .null, .int 0, .int 0, .int 0, .int 0, .null])) (ini Γ)) (85) (shp g0 78 (.inr (3, [.ref (Γ.1 + 79), .ref (Γ.1 + 81), .ref (Γ.1 + 82), .ref (Γ.1 + 83), .ref (Γ.1 + 84), .int 0, .int 0, .int 0, va_rf (kop Γ 29), .int 0, .int 0, .int (-1), .int (-1), .null])) (ini Γ)) := by
  refine n_met (own := RX7) hG (by decide +kernel) rfl rfl rfl (Nat.le_of_ble_eq_true rfl) ?_
  intro p e s m args below meth c X hmn hb hr
  show N p l e _ s m args below meth c Γ D 0 0 _ _ _ 0 [some (.ref (Γ.1 + 78))] []
  refine n_aload_n X dX7_init_0 rfl rfl ?_
  refine n_objInit X wol_X7 woi woc (Nat.le_of_ble_eq_true rfl) (Nat.le_of_ble_eq_true rfl) dX7_init_1 ?_
  refine n_aload_n X dX7_init_4 rfl rfl ?_
  refine n_new X (C := RX6) (T := TX6) (fs := [.null]) (by omega) (by omega) uin_X6 tyX6 tyX6_ok wnc_X7_9 wni_X6 wz_X6 (rfl : vCl[6]? = some (RX6, TX6, 1)) (fun j hj => by match j, hj with | 0, _ => exact rfl | j9 + 1, h9 => exact absurd h9 (by omega)) (Nat.le_of_ble_eq_true rfl) (Nat.le_of_ble_eq_true rfl) dX7_init_5 ?_
  refine n_dup X dX7_init_8 rfl ?_
  refine n_sipush X 400 dX7_init_9 rfl ?_
  refine n_call X (n' := 81) [.int 400] [.ref (Γ.1 + 79), .ref (Γ.1 + 78)] (K_Row hG (shp g0 78 (.inr (3, [.null, .null, .null, .null, .null, .int 0, .int 0, .int 0, .null, .int 0, .int 0, .int 0, .int 0, .null])) (ini Γ)) 79 400 400 (⟨rfl, rfl⟩ : isRow 79 400) (by decide) rfl) (by omega) (by omega) wc_X6_init wz_X6 wm_X7_11 wi_X6_init rfl yki_X6_init rfl ⟨(Nat.le_of_ble_eq_true rfl), (Nat.le_of_ble_eq_true rfl)⟩ ⟨(Nat.le_of_ble_eq_true rfl), (Nat.le_of_ble_eq_true rfl)⟩ (Nat.le_of_ble_eq_true rfl) dX7_init_12 rfl ?_
  refine n_congr (shI_shp (by omega) (fun j h1 h2 => rfl)) ?_
  refine n_putF X hmn (C := RX3) (T := TX3) (k := 0) [.ref (Γ.1 + 79), .null, .null, .null, .null, .int 0, .int 0, .int 0, .null, .int 0, .int 0, .int 0, .int 0, .null] (by omega) (rfl : vCl[3]? = some (RX3, TX3, 14)) uin_X3 tyX3_ok nmX3 (by decide) wf_X7_14 (Or.inl rfl) rfl rfl rfl rfl (Nat.le_of_ble_eq_true rfl) rfl dX7_init_15 ?_
  refine n_aload_n X dX7_init_18 rfl rfl ?_
  refine n_sipush X 400 dX7_init_19 rfl ?_
  refine n_anew X (C := "RivalWeds$Kind") (len := 400) (t0 := 4) (cA := Γ.2.1.2.2.2.2) hAO.2 (by omega) (by omega) wnc_X7_20 rfl (by decide) rfl (by decide) ((shp_gt (by omega)).trans (ini_at (rfl : entTbl[81]? = some (12, 400)) (by decide))) (Nat.le_of_ble_eq_true rfl) (Nat.le_of_ble_eq_true rfl) dX7_init_22 ?_
  refine n_putF X hmn (C := RX3) (T := TX3) (k := 1) [.ref (Γ.1 + 79), .ref (Γ.1 + 81), .null, .null, .null, .int 0, .int 0, .int 0, .null, .int 0, .int 0, .int 0, .int 0, .null] (by omega) (rfl : vCl[3]? = some (RX3, TX3, 14)) uin_X3 tyX3_ok nmX3 (by decide) wf_X7_22 (Or.inl rfl) rfl rfl rfl rfl (Nat.le_of_ble_eq_true rfl) rfl dX7_init_25 ?_
  refine n_aload_n X dX7_init_28 rfl rfl ?_
  refine n_sipush X 400 dX7_init_29 rfl ?_
  refine n_newa X (atype := .int) (ty := .int) (len := 400) (t0 := 0) (cA := Γ.2.1.1) (a0 := (400, .inl (fun _ => 0))) (by omega) (by omega) war_int rfl rfl (fun C h9 => by cases h9) rfl (by decide) rfl (by decide) ((shp_gt (by omega)).trans (ini_at (rfl : entTbl[82]? = some (3, 400)) (by decide))) (Nat.le_of_ble_eq_true rfl) (Nat.le_of_ble_eq_true rfl) dX7_init_32 ?_
  refine n_putF X hmn (C := RX3) (T := TX3) (k := 2) [.ref (Γ.1 + 79), .ref (Γ.1 + 81), .ref (Γ.1 + 82), .null, .null, .int 0, .int 0, .int 0, .null, .int 0, .int 0, .int 0, .int 0, .null] (by omega) (rfl : vCl[3]? = some (RX3, TX3, 14)) uin_X3 tyX3_ok nmX3 (by decide) wf_X7_26 (Or.inl rfl) rfl rfl rfl rfl (Nat.le_of_ble_eq_true rfl) rfl dX7_init_34 ?_
  refine n_aload_n X dX7_init_37 rfl rfl ?_
  refine n_sipush X 400 dX7_init_38 rfl ?_
  refine n_newa X (atype := .int) (ty := .int) (len := 400) (t0 := 0) (cA := Γ.2.1.1) (a0 := (400, .inl (fun _ => 0))) (by omega) (by omega) war_int rfl rfl (fun C h9 => by cases h9) rfl (by decide) rfl (by decide) ((shp_gt (by omega)).trans (ini_at (rfl : entTbl[83]? = some (3, 400)) (by decide))) (Nat.le_of_ble_eq_true rfl) (Nat.le_of_ble_eq_true rfl) dX7_init_41 ?_
  refine n_putF X hmn (C := RX3) (T := TX3) (k := 3) [.ref (Γ.1 + 79), .ref (Γ.1 + 81), .ref (Γ.1 + 82), .ref (Γ.1 + 83), .null, .int 0, .int 0, .int 0, .null, .int 0, .int 0, .int 0, .int 0, .null] (by omega) (rfl : vCl[3]? = some (RX3, TX3, 14)) uin_X3 tyX3_ok nmX3 (by decide) wf_X7_30 (Or.inl rfl) rfl rfl rfl rfl (Nat.le_of_ble_eq_true rfl) rfl dX7_init_43 ?_
  refine n_aload_n X dX7_init_46 rfl rfl ?_
  refine n_sipush X 400 dX7_init_47 rfl ?_
  refine n_newa X (atype := .int) (ty := .int) (len := 400) (t0 := 0) (cA := Γ.2.1.1) (a0 := (400, .inl (fun _ => 0))) (by omega) (by omega) war_int rfl rfl (fun C h9 => by cases h9) rfl (by decide) rfl (by decide) ((shp_gt (by omega)).trans (ini_at (rfl : entTbl[84]? = some (3, 400)) (by decide))) (Nat.le_of_ble_eq_true rfl) (Nat.le_of_ble_eq_true rfl) dX7_init_50 ?_
  refine n_putF X hmn (C := RX3) (T := TX3) (k := 4) [.ref (Γ.1 + 79), .ref (Γ.1 + 81), .ref (Γ.1 + 82), .ref (Γ.1 + 83), .ref (Γ.1 + 84), .int 0, .int 0, .int 0, .null, .int 0, .int 0, .int 0, .int 0, .null] (by omega) (rfl : vCl[3]? = some (RX3, TX3, 14)) uin_X3 tyX3_ok nmX3 (by decide) wf_X7_33 (Or.inl rfl) rfl rfl rfl rfl (Nat.le_of_ble_eq_true rfl) rfl dX7_init_52 ?_
  refine n_aload_n X dX7_init_55 rfl rfl ?_
  refine n_kstatic X 29 rfl rfl wf_X7_36 dX7_init_56 ?_
  refine n_put X (C := RX3) (T := TX3) (k := 8) [.ref (Γ.1 + 79), .ref (Γ.1 + 81), .ref (Γ.1 + 82), .ref (Γ.1 + 83), .ref (Γ.1 + 84), .int 0, .int 0, .int 0, va_rf (kop Γ 29), .int 0, .int 0, .int 0, .int 0, .null] (by omega) (rfl : vCl[3]? = some (RX3, TX3, 14)) uin_X3 tyX3_ok nmX3 (by decide) wf_X7_40 (Or.inl rfl) rfl kop_fit.1 kop_fit.2 (Nat.le_of_ble_eq_true rfl) rfl dX7_init_59 ?_
  refine n_aload_n X dX7_init_62 rfl rfl ?_
  refine n_iconst X (-1) dX7_init_63 rfl ?_
  refine n_put X (C := RX3) (T := TX3) (k := 11) [.ref (Γ.1 + 79), .ref (Γ.1 + 81), .ref (Γ.1 + 82), .ref (Γ.1 + 83), .ref (Γ.1 + 84), .int 0, .int 0, .int 0, va_rf (kop Γ 29), .int 0, .int 0, .int (-1), .int 0, .null] (by omega) (rfl : vCl[3]? = some (RX3, TX3, 14)) uin_X3 tyX3_ok nmX3 (by decide) wf_X7_43 (Or.inl rfl) rfl rfl rfl (Nat.le_of_ble_eq_true rfl) rfl dX7_init_64 ?_
  refine n_aload_n X dX7_init_67 rfl rfl ?_
  refine n_iconst X (-1) dX7_init_68 rfl ?_
  refine n_put X (C := RX3) (T := TX3) (k := 12) [.ref (Γ.1 + 79), .ref (Γ.1 + 81), .ref (Γ.1 + 82), .ref (Γ.1 + 83), .ref (Γ.1 + 84), .int 0, .int 0, .int 0, va_rf (kop Γ 29), .int 0, .int 0, .int (-1), .int (-1), .null] (by omega) (rfl : vCl[3]? = some (RX3, TX3, 14)) uin_X3 tyX3_ok nmX3 (by decide) wf_X7_47 (Or.inl rfl) rfl rfl rfl (Nat.le_of_ble_eq_true rfl) rfl dX7_init_69 ?_
  exact n_vret X hr dX7_init_72 (Nat.le_of_ble_eq_true rfl) (Nat.le_of_ble_eq_true rfl) (fun j _ => rfl)
set_option maxRecDepth 20000 in
set_option maxHeartbeats 4000000 in
theorem K_LTx (hG : Gok l Γ D s0) (hAO : va_AO "RivalWeds$Town" s0 ∧ va_AO "RivalWeds$Kind" s0) (g0 : Nat → va_E) : CN l Γ D s0 yX3_init cX3_init 1 3 14 (2498) 53 [.ref (Γ.1 + 78)] (79) (shp g0 78 (.inr (3, [.null, .null, .null, .null, .null, .int 0, .int 0, .int 0, .null, .int 0, .int 0, .int 0, .int 0, .null])) (ini Γ)) (93) (shI Γ g0 78) := by
  refine n_met (own := RX3) hG (by decide +kernel) rfl rfl rfl (Nat.le_of_ble_eq_true rfl) ?_
  intro p e s m args below meth c X hmn hb hr
  show N p l e _ s m args below meth c Γ D 0 0 _ _ _ 0 [some (.ref (Γ.1 + 78))] []
  refine n_aload_n X dX3_init_0 rfl rfl ?_
  refine n_call X (n' := 85) [] [] (K_Text_78 hG hAO g0) (by omega) (by omega) wc_X7_init wz_X7 wm_X3_3 wi_X7_init rfl yki_X7_init rfl ⟨(Nat.le_of_ble_eq_true rfl), (Nat.le_of_ble_eq_true rfl)⟩ ⟨(Nat.le_of_ble_eq_true rfl), (Nat.le_of_ble_eq_true rfl)⟩ (Nat.le_of_ble_eq_true rfl) dX3_init_1 rfl ?_
  refine n_aload_n X dX3_init_4 rfl rfl ?_
  refine n_new X (C := RX2) (T := TX2) (fs := [.null, .null, .null, .null, .int 0, .int 0]) (by omega) (by omega) uin_X2 tyX2 tyX2_ok wnc_X3_9 wni_X2 wz_X2 (rfl : vCl[2]? = some (RX2, TX2, 6)) (fun j hj => by match j, hj with | 0, _ => exact rfl | 1, _ => exact rfl | 2, _ => exact rfl | 3, _ => exact rfl | 4, _ => exact rfl | 5, _ => exact rfl | j9 + 6, h9 => exact absurd h9 (by omega)) (Nat.le_of_ble_eq_true rfl) (Nat.le_of_ble_eq_true rfl) dX3_init_5 ?_
  refine n_dup X dX3_init_8 rfl ?_
  refine n_call X (n' := 93) [] [.ref (Γ.1 + 85), .ref (Γ.1 + 78)] (K_Law hG (shp g0 78 (.inr (3, [.ref (Γ.1 + 79), .ref (Γ.1 + 81), .ref (Γ.1 + 82), .ref (Γ.1 + 83), .ref (Γ.1 + 84), .int 0, .int 0, .int 0, va_rf (kop Γ 29), .int 0, .int 0, .int (-1), .int (-1), .null])) (ini Γ)) 85 (⟨rfl, ⟨rfl, rfl⟩, ⟨rfl, rfl⟩, rfl, ⟨rfl, rfl⟩⟩ : isLaw 85)) (by omega) (by omega) wc_X2_init wz_X2 wm_X3_11 wi_X2_init rfl yki_X2_init rfl ⟨(Nat.le_of_ble_eq_true rfl), (Nat.le_of_ble_eq_true rfl)⟩ ⟨(Nat.le_of_ble_eq_true rfl), (Nat.le_of_ble_eq_true rfl)⟩ (Nat.le_of_ble_eq_true rfl) dX3_init_9 rfl ?_
  refine n_congr (shI_shp (by omega) (fun j h1 h2 => rfl)) ?_
  refine n_putF X hmn (C := RX3) (T := TX3) (k := 13) [.ref (Γ.1 + 79), .ref (Γ.1 + 81), .ref (Γ.1 + 82), .ref (Γ.1 + 83), .ref (Γ.1 + 84), .int 0, .int 0, .int 0, va_rf (kop Γ 29), .int 0, .int 0, .int (-1), .int (-1), .ref (Γ.1 + 85)] (by omega) (rfl : vCl[3]? = some (RX3, TX3, 14)) uin_X3 tyX3_ok nmX3 (by decide) wf_X3_12 (Or.inl rfl) rfl rfl rfl rfl (Nat.le_of_ble_eq_true rfl) rfl dX3_init_12 ?_
  exact n_vret X hr dX3_init_15 (Nat.le_of_ble_eq_true rfl) (Nat.le_of_ble_eq_true rfl) (shp_shI (ini_at (rfl : entTbl[78]? = some (6, 0)) (ne334 (rfl : entTbl[78]? = some (6, 0)) (by decide))).symm (fun j h1 h2 => rfl))
set_option maxRecDepth 20000 in
set_option maxHeartbeats 4000000 in
theorem K_For (hG : Gok l Γ D s0) (g0 : Nat → va_E) : CN l Γ D s0 yX0_init cX0_init 1 3 22 (645) 53 [.ref (Γ.1 + 94)] (95) (shp g0 94 (.inr (0, [.null, .null, .null, .null])) (ini Γ)) (117) (shI Γ g0 94) := by
  refine n_met (own := RX0) hG (by decide +kernel) rfl rfl rfl (Nat.le_of_ble_eq_true rfl) ?_
  intro p e s m args below meth c X hmn hb hr
  show N p l e _ s m args below meth c Γ D 0 0 _ _ _ 0 [some (.ref (Γ.1 + 94))] []
  refine n_aload_n X dX0_init_0 rfl rfl ?_
  refine n_objInit X wol_X0 woi woc (Nat.le_of_ble_eq_true rfl) (Nat.le_of_ble_eq_true rfl) dX0_init_1 ?_
  refine n_aload_n X dX0_init_4 rfl rfl ?_
  refine n_new X (C := RX9) (T := TX9) (fs := [.null, .null, .null, .null, .null, .null, .null, .null, .int 0, .int 0, .int 0, .int 0, .int 0, .int 0, .int 0, .int 0, .int 0, .int 0, .int 0, .int 0]) (by omega) (by omega) uin_X9 tyX9 tyX9_ok wnc_X0_9 wni_X9 wz_X9 (rfl : vCl[8]? = some (RX9, TX9, 20)) (fun j hj => by match j, hj with | 0, _ => exact rfl | 1, _ => exact rfl | 2, _ => exact rfl | 3, _ => exact rfl | 4, _ => exact rfl | 5, _ => exact rfl | 6, _ => exact rfl | 7, _ => exact rfl | 8, _ => exact rfl | 9, _ => exact rfl | 10, _ => exact rfl | 11, _ => exact rfl | 12, _ => exact rfl | 13, _ => exact rfl | 14, _ => exact rfl | 15, _ => exact rfl | 16, _ => exact rfl | 17, _ => exact rfl | 18, _ => exact rfl | 19, _ => exact rfl | j9 + 20, h9 => exact absurd h9 (by omega)) (Nat.le_of_ble_eq_true rfl) (Nat.le_of_ble_eq_true rfl) dX0_init_5 ?_
  refine n_dup X dX0_init_8 rfl ?_
  refine n_call X (n' := 112) [] [.ref (Γ.1 + 95), .ref (Γ.1 + 94)] (K_Town hG (shp g0 94 (.inr (0, [.null, .null, .null, .null])) (ini Γ)) 95 (⟨rfl, ⟨rfl, rfl⟩, ⟨rfl, rfl⟩, ⟨rfl, rfl⟩, ⟨rfl, rfl⟩, ⟨rfl, rfl⟩, ⟨rfl, rfl⟩, ⟨rfl, rfl⟩, ⟨rfl, rfl⟩⟩ : isTown 95)) (by omega) (by omega) wc_X9_init wz_X9 wm_X0_11 wi_X9_init rfl yki_X9_init rfl ⟨(Nat.le_of_ble_eq_true rfl), (Nat.le_of_ble_eq_true rfl)⟩ ⟨(Nat.le_of_ble_eq_true rfl), (Nat.le_of_ble_eq_true rfl)⟩ (Nat.le_of_ble_eq_true rfl) dX0_init_9 rfl ?_
  refine n_congr (shI_shp (by omega) (fun j h1 h2 => rfl)) ?_
  refine n_putF X hmn (C := RX0) (T := TX0) (k := 0) [.ref (Γ.1 + 95), .null, .null, .null] (by omega) (rfl : vCl[0]? = some (RX0, TX0, 4)) uin_X0 tyX0_ok nmX0 (by decide) wf_X0_12 (Or.inl rfl) rfl rfl rfl rfl (Nat.le_of_ble_eq_true rfl) rfl dX0_init_12 ?_
  refine n_aload_n X dX0_init_15 rfl rfl ?_
  refine n_new X (C := RX4) (T := TX4) (fs := [.int 0, .int 0, .int 0, .int 0, .int 0, .int 0, .int 0]) (by omega) (by omega) uin_X4 tyX4 tyX4_ok wnc_X0_18 wni_X4 wz_X4 (rfl : vCl[4]? = some (RX4, TX4, 7)) (fun j hj => by match j, hj with | 0, _ => exact rfl | 1, _ => exact rfl | 2, _ => exact rfl | 3, _ => exact rfl | 4, _ => exact rfl | 5, _ => exact rfl | 6, _ => exact rfl | j9 + 7, h9 => exact absurd h9 (by omega)) (Nat.le_of_ble_eq_true rfl) (Nat.le_of_ble_eq_true rfl) dX0_init_16 ?_
  refine n_dup X dX0_init_19 rfl ?_
  refine n_call X (n' := 113) [] [.ref (Γ.1 + 112), .ref (Γ.1 + 94)] (K_Look hG (shp g0 94 (.inr (0, [.ref (Γ.1 + 95), .null, .null, .null])) (ini Γ)) 112 (rfl : isLook 112)) (by omega) (by omega) wc_X4_init wz_X4 wm_X0_20 wi_X4_init rfl yki_X4_init rfl ⟨(Nat.le_of_ble_eq_true rfl), (Nat.le_of_ble_eq_true rfl)⟩ ⟨(Nat.le_of_ble_eq_true rfl), (Nat.le_of_ble_eq_true rfl)⟩ (Nat.le_of_ble_eq_true rfl) dX0_init_20 rfl ?_
  refine n_congr (shI_shp (by omega) (fun j h1 h2 => rfl)) ?_
  refine n_putF X hmn (C := RX0) (T := TX0) (k := 1) [.ref (Γ.1 + 95), .ref (Γ.1 + 112), .null, .null] (by omega) (rfl : vCl[0]? = some (RX0, TX0, 4)) uin_X0 tyX0_ok nmX0 (by decide) wf_X0_21 (Or.inl rfl) rfl rfl rfl rfl (Nat.le_of_ble_eq_true rfl) rfl dX0_init_23 ?_
  refine n_aload_n X dX0_init_26 rfl rfl ?_
  refine n_new X (C := RX6) (T := TX6) (fs := [.null]) (by omega) (by omega) uin_X6 tyX6 tyX6_ok wnc_X0_25 wni_X6 wz_X6 (rfl : vCl[6]? = some (RX6, TX6, 1)) (fun j hj => by match j, hj with | 0, _ => exact rfl | j9 + 1, h9 => exact absurd h9 (by omega)) (Nat.le_of_ble_eq_true rfl) (Nat.le_of_ble_eq_true rfl) dX0_init_27 ?_
  refine n_dup X dX0_init_30 rfl ?_
  refine n_bipush X 100 dX0_init_31 rfl ?_
  refine n_call X (n' := 115) [.int 100] [.ref (Γ.1 + 113), .ref (Γ.1 + 94)] (K_Row hG (shp g0 94 (.inr (0, [.ref (Γ.1 + 95), .ref (Γ.1 + 112), .null, .null])) (ini Γ)) 113 100 100 (⟨rfl, rfl⟩ : isRow 113 100) (by decide) rfl) (by omega) (by omega) wc_X6_init wz_X6 wm_X0_27 wi_X6_init rfl yki_X6_init rfl ⟨(Nat.le_of_ble_eq_true rfl), (Nat.le_of_ble_eq_true rfl)⟩ ⟨(Nat.le_of_ble_eq_true rfl), (Nat.le_of_ble_eq_true rfl)⟩ (Nat.le_of_ble_eq_true rfl) dX0_init_33 rfl ?_
  refine n_congr (shI_shp (by omega) (fun j h1 h2 => rfl)) ?_
  refine n_putF X hmn (C := RX0) (T := TX0) (k := 2) [.ref (Γ.1 + 95), .ref (Γ.1 + 112), .ref (Γ.1 + 113), .null] (by omega) (rfl : vCl[0]? = some (RX0, TX0, 4)) uin_X0 tyX0_ok nmX0 (by decide) wf_X0_30 (Or.inl rfl) rfl rfl rfl rfl (Nat.le_of_ble_eq_true rfl) rfl dX0_init_36 ?_
  refine n_aload_n X dX0_init_39 rfl rfl ?_
  refine n_new X (C := RX6) (T := TX6) (fs := [.null]) (by omega) (by omega) uin_X6 tyX6 tyX6_ok wnc_X0_25 wni_X6 wz_X6 (rfl : vCl[6]? = some (RX6, TX6, 1)) (fun j hj => by match j, hj with | 0, _ => exact rfl | j9 + 1, h9 => exact absurd h9 (by omega)) (Nat.le_of_ble_eq_true rfl) (Nat.le_of_ble_eq_true rfl) dX0_init_40 ?_
  refine n_dup X dX0_init_43 rfl ?_
  refine n_bipush X 100 dX0_init_44 rfl ?_
  refine n_call X (n' := 117) [.int 100] [.ref (Γ.1 + 115), .ref (Γ.1 + 94)] (K_Row hG (shp g0 94 (.inr (0, [.ref (Γ.1 + 95), .ref (Γ.1 + 112), .ref (Γ.1 + 113), .null])) (ini Γ)) 115 100 100 (⟨rfl, rfl⟩ : isRow 115 100) (by decide) rfl) (by omega) (by omega) wc_X6_init wz_X6 wm_X0_27 wi_X6_init rfl yki_X6_init rfl ⟨(Nat.le_of_ble_eq_true rfl), (Nat.le_of_ble_eq_true rfl)⟩ ⟨(Nat.le_of_ble_eq_true rfl), (Nat.le_of_ble_eq_true rfl)⟩ (Nat.le_of_ble_eq_true rfl) dX0_init_46 rfl ?_
  refine n_congr (shI_shp (by omega) (fun j h1 h2 => rfl)) ?_
  refine n_putF X hmn (C := RX0) (T := TX0) (k := 3) [.ref (Γ.1 + 95), .ref (Γ.1 + 112), .ref (Γ.1 + 113), .ref (Γ.1 + 115)] (by omega) (rfl : vCl[0]? = some (RX0, TX0, 4)) uin_X0 tyX0_ok nmX0 (by decide) wf_X0_34 (Or.inl rfl) rfl rfl rfl rfl (Nat.le_of_ble_eq_true rfl) rfl dX0_init_49 ?_
  exact n_vret X hr dX0_init_52 (Nat.le_of_ble_eq_true rfl) (Nat.le_of_ble_eq_true rfl) (shp_shI (ini_at (rfl : entTbl[94]? = some (8, 0)) (ne334 (rfl : entTbl[94]? = some (8, 0)) (by decide))).symm (fun j h1 h2 => rfl))
set_option maxRecDepth 20000 in
set_option maxHeartbeats 4000000 in
theorem K_Prs (hG : Gok l Γ D s0) (g0 : Nat → va_E) : CN l Γ D s0 yX5_init cX5_init 1 2 4 (18) 33 [.ref (Γ.1 + 117)] (118) (shp g0 117 (.inr (5, [.null, .null, .int 0])) (ini Γ)) (122) (shI Γ g0 117) := by
  refine n_met (own := RX5) hG (by decide +kernel) rfl rfl rfl (Nat.le_of_ble_eq_true rfl) ?_
  intro p e s m args below meth c X hmn hb hr
  show N p l e _ s m args below meth c Γ D 0 0 _ _ _ 0 [some (.ref (Γ.1 + 117))] []
  refine n_aload_n X dX5_init_0 rfl rfl ?_
  refine n_objInit X wol_X5 woi woc (Nat.le_of_ble_eq_true rfl) (Nat.le_of_ble_eq_true rfl) dX5_init_1 ?_
  refine n_aload_n X dX5_init_4 rfl rfl ?_
  refine n_new X (C := RX6) (T := TX6) (fs := [.null]) (by omega) (by omega) uin_X6 tyX6 tyX6_ok wnc_X5_9 wni_X6 wz_X6 (rfl : vCl[6]? = some (RX6, TX6, 1)) (fun j hj => by match j, hj with | 0, _ => exact rfl | j9 + 1, h9 => exact absurd h9 (by omega)) (Nat.le_of_ble_eq_true rfl) (Nat.le_of_ble_eq_true rfl) dX5_init_5 ?_
  refine n_dup X dX5_init_8 rfl ?_
  refine n_bipush X 8 dX5_init_9 rfl ?_
  refine n_call X (n' := 120) [.int 8] [.ref (Γ.1 + 118), .ref (Γ.1 + 117)] (K_Row hG (shp g0 117 (.inr (5, [.null, .null, .int 0])) (ini Γ)) 118 8 8 (⟨rfl, rfl⟩ : isRow 118 8) (by decide) rfl) (by omega) (by omega) wc_X6_init wz_X6 wm_X5_11 wi_X6_init rfl yki_X6_init rfl ⟨(Nat.le_of_ble_eq_true rfl), (Nat.le_of_ble_eq_true rfl)⟩ ⟨(Nat.le_of_ble_eq_true rfl), (Nat.le_of_ble_eq_true rfl)⟩ (Nat.le_of_ble_eq_true rfl) dX5_init_11 rfl ?_
  refine n_congr (shI_shp (by omega) (fun j h1 h2 => rfl)) ?_
  refine n_putF X hmn (C := RX5) (T := TX5) (k := 0) [.ref (Γ.1 + 118), .null, .int 0] (by omega) (rfl : vCl[5]? = some (RX5, TX5, 3)) uin_X5 tyX5_ok nmX5 (by decide) wf_X5_14 (Or.inl rfl) rfl rfl rfl rfl (Nat.le_of_ble_eq_true rfl) rfl dX5_init_14 ?_
  refine n_aload_n X dX5_init_17 rfl rfl ?_
  refine n_new X (C := RX6) (T := TX6) (fs := [.null]) (by omega) (by omega) uin_X6 tyX6 tyX6_ok wnc_X5_9 wni_X6 wz_X6 (rfl : vCl[6]? = some (RX6, TX6, 1)) (fun j hj => by match j, hj with | 0, _ => exact rfl | j9 + 1, h9 => exact absurd h9 (by omega)) (Nat.le_of_ble_eq_true rfl) (Nat.le_of_ble_eq_true rfl) dX5_init_18 ?_
  refine n_dup X dX5_init_21 rfl ?_
  refine n_bipush X 8 dX5_init_22 rfl ?_
  refine n_call X (n' := 122) [.int 8] [.ref (Γ.1 + 120), .ref (Γ.1 + 117)] (K_Row hG (shp g0 117 (.inr (5, [.ref (Γ.1 + 118), .null, .int 0])) (ini Γ)) 120 8 8 (⟨rfl, rfl⟩ : isRow 120 8) (by decide) rfl) (by omega) (by omega) wc_X6_init wz_X6 wm_X5_11 wi_X6_init rfl yki_X6_init rfl ⟨(Nat.le_of_ble_eq_true rfl), (Nat.le_of_ble_eq_true rfl)⟩ ⟨(Nat.le_of_ble_eq_true rfl), (Nat.le_of_ble_eq_true rfl)⟩ (Nat.le_of_ble_eq_true rfl) dX5_init_24 rfl ?_
  refine n_congr (shI_shp (by omega) (fun j h1 h2 => rfl)) ?_
  refine n_putF X hmn (C := RX5) (T := TX5) (k := 1) [.ref (Γ.1 + 118), .ref (Γ.1 + 120), .int 0] (by omega) (rfl : vCl[5]? = some (RX5, TX5, 3)) uin_X5 tyX5_ok nmX5 (by decide) wf_X5_20 (Or.inl rfl) rfl rfl rfl rfl (Nat.le_of_ble_eq_true rfl) rfl dX5_init_27 ?_
  exact n_vret X hr dX5_init_30 (Nat.le_of_ble_eq_true rfl) (Nat.le_of_ble_eq_true rfl) (shp_shI (ini_at (rfl : entTbl[117]? = some (9, 0)) (ne334 (rfl : entTbl[117]? = some (9, 0)) (by decide))).symm (fun j h1 h2 => rfl))
set_option maxRecDepth 20000 in
set_option maxHeartbeats 4000000 in
theorem K_Told (hG : Gok l Γ D s0) (g0 : Nat → va_E) : CN l Γ D s0 yX8_init cX8_init 1 2 6 (35) 33 [.ref (Γ.1 + 122)] (123) (shp g0 122 (.inr (7, [.null, .null, .null, .int 0, .int 0])) (ini Γ)) (129) (shI Γ g0 122) := by
  refine n_met (own := RX8) hG (by decide +kernel) rfl rfl rfl (Nat.le_of_ble_eq_true rfl) ?_
  intro p e s m args below meth c X hmn hb hr
  show N p l e _ s m args below meth c Γ D 0 0 _ _ _ 0 [some (.ref (Γ.1 + 122))] []
  refine n_aload_n X dX8_init_0 rfl rfl ?_
  refine n_objInit X wol_X8 woi woc (Nat.le_of_ble_eq_true rfl) (Nat.le_of_ble_eq_true rfl) dX8_init_1 ?_
  refine n_aload_n X dX8_init_4 rfl rfl ?_
  refine n_new X (C := RX6) (T := TX6) (fs := [.null]) (by omega) (by omega) uin_X6 tyX6 tyX6_ok wnc_X8_9 wni_X6 wz_X6 (rfl : vCl[6]? = some (RX6, TX6, 1)) (fun j hj => by match j, hj with | 0, _ => exact rfl | j9 + 1, h9 => exact absurd h9 (by omega)) (Nat.le_of_ble_eq_true rfl) (Nat.le_of_ble_eq_true rfl) dX8_init_5 ?_
  refine n_dup X dX8_init_8 rfl ?_
  refine n_bipush X 12 dX8_init_9 rfl ?_
  refine n_call X (n' := 125) [.int 12] [.ref (Γ.1 + 123), .ref (Γ.1 + 122)] (K_Row hG (shp g0 122 (.inr (7, [.null, .null, .null, .int 0, .int 0])) (ini Γ)) 123 12 12 (⟨rfl, rfl⟩ : isRow 123 12) (by decide) rfl) (by omega) (by omega) wc_X6_init wz_X6 wm_X8_11 wi_X6_init rfl yki_X6_init rfl ⟨(Nat.le_of_ble_eq_true rfl), (Nat.le_of_ble_eq_true rfl)⟩ ⟨(Nat.le_of_ble_eq_true rfl), (Nat.le_of_ble_eq_true rfl)⟩ (Nat.le_of_ble_eq_true rfl) dX8_init_11 rfl ?_
  refine n_congr (shI_shp (by omega) (fun j h1 h2 => rfl)) ?_
  refine n_putF X hmn (C := RX8) (T := TX8) (k := 0) [.ref (Γ.1 + 123), .null, .null, .int 0, .int 0] (by omega) (rfl : vCl[7]? = some (RX8, TX8, 5)) uin_X8 tyX8_ok nmX8 (by decide) wf_X8_14 (Or.inl rfl) rfl rfl rfl rfl (Nat.le_of_ble_eq_true rfl) rfl dX8_init_14 ?_
  refine n_aload_n X dX8_init_17 rfl rfl ?_
  refine n_new X (C := RX6) (T := TX6) (fs := [.null]) (by omega) (by omega) uin_X6 tyX6 tyX6_ok wnc_X8_9 wni_X6 wz_X6 (rfl : vCl[6]? = some (RX6, TX6, 1)) (fun j hj => by match j, hj with | 0, _ => exact rfl | j9 + 1, h9 => exact absurd h9 (by omega)) (Nat.le_of_ble_eq_true rfl) (Nat.le_of_ble_eq_true rfl) dX8_init_18 ?_
  refine n_dup X dX8_init_21 rfl ?_
  refine n_bipush X 12 dX8_init_22 rfl ?_
  refine n_call X (n' := 127) [.int 12] [.ref (Γ.1 + 125), .ref (Γ.1 + 122)] (K_Row hG (shp g0 122 (.inr (7, [.ref (Γ.1 + 123), .null, .null, .int 0, .int 0])) (ini Γ)) 125 12 12 (⟨rfl, rfl⟩ : isRow 125 12) (by decide) rfl) (by omega) (by omega) wc_X6_init wz_X6 wm_X8_11 wi_X6_init rfl yki_X6_init rfl ⟨(Nat.le_of_ble_eq_true rfl), (Nat.le_of_ble_eq_true rfl)⟩ ⟨(Nat.le_of_ble_eq_true rfl), (Nat.le_of_ble_eq_true rfl)⟩ (Nat.le_of_ble_eq_true rfl) dX8_init_24 rfl ?_
  refine n_congr (shI_shp (by omega) (fun j h1 h2 => rfl)) ?_
  refine n_putF X hmn (C := RX8) (T := TX8) (k := 1) [.ref (Γ.1 + 123), .ref (Γ.1 + 125), .null, .int 0, .int 0] (by omega) (rfl : vCl[7]? = some (RX8, TX8, 5)) uin_X8 tyX8_ok nmX8 (by decide) wf_X8_20 (Or.inl rfl) rfl rfl rfl rfl (Nat.le_of_ble_eq_true rfl) rfl dX8_init_27 ?_
  refine n_aload_n X dX8_init_30 rfl rfl ?_
  refine n_new X (C := RX6) (T := TX6) (fs := [.null]) (by omega) (by omega) uin_X6 tyX6 tyX6_ok wnc_X8_9 wni_X6 wz_X6 (rfl : vCl[6]? = some (RX6, TX6, 1)) (fun j hj => by match j, hj with | 0, _ => exact rfl | j9 + 1, h9 => exact absurd h9 (by omega)) (Nat.le_of_ble_eq_true rfl) (Nat.le_of_ble_eq_true rfl) dX8_init_31 ?_
  refine n_dup X dX8_init_34 rfl ?_
  refine n_bipush X 8 dX8_init_35 rfl ?_
  refine n_call X (n' := 129) [.int 8] [.ref (Γ.1 + 127), .ref (Γ.1 + 122)] (K_Row hG (shp g0 122 (.inr (7, [.ref (Γ.1 + 123), .ref (Γ.1 + 125), .null, .int 0, .int 0])) (ini Γ)) 127 8 8 (⟨rfl, rfl⟩ : isRow 127 8) (by decide) rfl) (by omega) (by omega) wc_X6_init wz_X6 wm_X8_11 wi_X6_init rfl yki_X6_init rfl ⟨(Nat.le_of_ble_eq_true rfl), (Nat.le_of_ble_eq_true rfl)⟩ ⟨(Nat.le_of_ble_eq_true rfl), (Nat.le_of_ble_eq_true rfl)⟩ (Nat.le_of_ble_eq_true rfl) dX8_init_37 rfl ?_
  refine n_congr (shI_shp (by omega) (fun j h1 h2 => rfl)) ?_
  refine n_putF X hmn (C := RX8) (T := TX8) (k := 2) [.ref (Γ.1 + 123), .ref (Γ.1 + 125), .ref (Γ.1 + 127), .int 0, .int 0] (by omega) (rfl : vCl[7]? = some (RX8, TX8, 5)) uin_X8 tyX8_ok nmX8 (by decide) wf_X8_23 (Or.inl rfl) rfl rfl rfl rfl (Nat.le_of_ble_eq_true rfl) rfl dX8_init_40 ?_
  exact n_vret X hr dX8_init_43 (Nat.le_of_ble_eq_true rfl) (Nat.le_of_ble_eq_true rfl) (shp_shI (ini_at (rfl : entTbl[122]? = some (10, 0)) (ne334 (rfl : entTbl[122]? = some (10, 0)) (by decide))).symm (fun j h1 h2 => rfl))
set_option maxRecDepth 20000 in
set_option maxHeartbeats 4000000 in
theorem K_M (hG : Gok l Γ D s0) (g0 : Nat → va_E) : CN l Γ D s0 yX12_init cX12_init 1 1 12 (10684) 12 [.ref (Γ.1 + 333)] (334) (shp g0 333 (.inr (11, [.int 0, .null, .null, .int 0, .null, .null, .int 0, .null, .int 0, .int 0, .int 0, .int 0, .int 0, .int 0, .null, .int 0, .int 0, .null, .null, .null, .null, .int 0, .null, .null])) (ini Γ)) (346) (shI Γ g0 333) := by
  refine n_met (own := RX12) hG (by decide +kernel) rfl rfl rfl (Nat.le_of_ble_eq_true rfl) ?_
  intro p e s m args below meth c X hmn hb hr
  show N p l e _ s m args below meth c Γ D 0 0 _ _ _ 0 [some (.ref (Γ.1 + 333))] []
  refine n_congr (g := shp g0 333 (.inr (11, [.int 0, .null, .null, .int 0, .null, .null, .int 0, .null, .int 0, .int 0, .int 0, .int 0, .int 0, .int 0, .null, .int 0, .int 0, .null, .null, .null, .null, .int 0, .null, .null])) (bM Γ (fun _ => 0))) (fun j hj => shp_lt9 (by omega)) ?_
  refine n_aload_n X dX12_init_0 rfl rfl ?_
  refine n_objInit X wol_X12 woi woc (Nat.le_of_ble_eq_true rfl) (Nat.le_of_ble_eq_true rfl) dX12_init_1 ?_
  refine n_aload_n X dX12_init_4 rfl rfl ?_
  refine n_sipush X 850 dX12_init_5 rfl ?_
  refine n_newa X (atype := .int) (ty := .int) (len := 850) (t0 := 0) (cA := Γ.2.1.1) (a0 := (850, .inl (fun _ => 0))) (by omega) (by omega) war_int rfl rfl (fun C h9 => by cases h9) rfl (by decide) rfl (by decide) ((shp_gt (by omega)).trans (if_pos rfl)) (Nat.le_of_ble_eq_true rfl) (Nat.le_of_ble_eq_true rfl) dX12_init_8 ?_
  refine n_putF X hmn (C := RX12) (T := TX12) (k := 1) [.int 0, .ref (Γ.1 + 334), .null, .int 0, .null, .null, .int 0, .null, .int 0, .int 0, .int 0, .int 0, .int 0, .int 0, .null, .int 0, .int 0, .null, .null, .null, .null, .int 0, .null, .null] (by omega) (rfl : vCl[11]? = some (RX12, TX12, 24)) uin_X12 tyX12_ok nmX12 (by decide) wf_X12_7 (Or.inl rfl) rfl rfl rfl rfl (Nat.le_of_ble_eq_true rfl) rfl dX12_init_10 ?_
  refine n_aload_n X dX12_init_13 rfl rfl ?_
  refine n_sipush X 850 dX12_init_14 rfl ?_
  refine n_newa X (atype := .int) (ty := .int) (len := 850) (t0 := 0) (cA := Γ.2.1.1) (a0 := (850, .inl (fun _ => 0))) (by omega) (by omega) war_int rfl rfl (fun C h9 => by cases h9) rfl (by decide) rfl (by decide) ((shp_gt (by omega)).trans ((if_neg (by decide)).trans (ini_at (rfl : entTbl[335]? = some (3, 850)) (by decide)))) (Nat.le_of_ble_eq_true rfl) (Nat.le_of_ble_eq_true rfl) dX12_init_17 ?_
  refine n_putF X hmn (C := RX12) (T := TX12) (k := 2) [.int 0, .ref (Γ.1 + 334), .ref (Γ.1 + 335), .int 0, .null, .null, .int 0, .null, .int 0, .int 0, .int 0, .int 0, .int 0, .int 0, .null, .int 0, .int 0, .null, .null, .null, .null, .int 0, .null, .null] (by omega) (rfl : vCl[11]? = some (RX12, TX12, 24)) uin_X12 tyX12_ok nmX12 (by decide) wf_X12_13 (Or.inl rfl) rfl rfl rfl rfl (Nat.le_of_ble_eq_true rfl) rfl dX12_init_19 ?_
  refine n_aload_n X dX12_init_22 rfl rfl ?_
  refine n_sipush X 450 dX12_init_23 rfl ?_
  refine n_newa X (atype := .int) (ty := .int) (len := 450) (t0 := 0) (cA := Γ.2.1.1) (a0 := (450, .inl (fun _ => 0))) (by omega) (by omega) war_int rfl rfl (fun C h9 => by cases h9) rfl (by decide) rfl (by decide) ((shp_gt (by omega)).trans ((if_neg (by decide)).trans (ini_at (rfl : entTbl[336]? = some (3, 450)) (by decide)))) (Nat.le_of_ble_eq_true rfl) (Nat.le_of_ble_eq_true rfl) dX12_init_26 ?_
  refine n_putF X hmn (C := RX12) (T := TX12) (k := 4) [.int 0, .ref (Γ.1 + 334), .ref (Γ.1 + 335), .int 0, .ref (Γ.1 + 336), .null, .int 0, .null, .int 0, .int 0, .int 0, .int 0, .int 0, .int 0, .null, .int 0, .int 0, .null, .null, .null, .null, .int 0, .null, .null] (by omega) (rfl : vCl[11]? = some (RX12, TX12, 24)) uin_X12 tyX12_ok nmX12 (by decide) wf_X12_16 (Or.inl rfl) rfl rfl rfl rfl (Nat.le_of_ble_eq_true rfl) rfl dX12_init_28 ?_
  refine n_aload_n X dX12_init_31 rfl rfl ?_
  refine n_sipush X 5400 dX12_init_32 rfl ?_
  refine n_newa X (atype := .int) (ty := .int) (len := 5400) (t0 := 0) (cA := Γ.2.1.1) (a0 := (5400, .inl (fun _ => 0))) (by omega) (by omega) war_int rfl rfl (fun C h9 => by cases h9) rfl (by decide) rfl (by decide) ((shp_gt (by omega)).trans ((if_neg (by decide)).trans (ini_at (rfl : entTbl[337]? = some (3, 5400)) (by decide)))) (Nat.le_of_ble_eq_true rfl) (Nat.le_of_ble_eq_true rfl) dX12_init_35 ?_
  refine n_putF X hmn (C := RX12) (T := TX12) (k := 5) [.int 0, .ref (Γ.1 + 334), .ref (Γ.1 + 335), .int 0, .ref (Γ.1 + 336), .ref (Γ.1 + 337), .int 0, .null, .int 0, .int 0, .int 0, .int 0, .int 0, .int 0, .null, .int 0, .int 0, .null, .null, .null, .null, .int 0, .null, .null] (by omega) (rfl : vCl[11]? = some (RX12, TX12, 24)) uin_X12 tyX12_ok nmX12 (by decide) wf_X12_19 (Or.inl rfl) rfl rfl rfl rfl (Nat.le_of_ble_eq_true rfl) rfl dX12_init_37 ?_
  refine n_aload_n X dX12_init_40 rfl rfl ?_
  refine n_sipush X 400 dX12_init_41 rfl ?_
  refine n_newa X (atype := .int) (ty := .int) (len := 400) (t0 := 0) (cA := Γ.2.1.1) (a0 := (400, .inl (fun _ => 0))) (by omega) (by omega) war_int rfl rfl (fun C h9 => by cases h9) rfl (by decide) rfl (by decide) ((shp_gt (by omega)).trans ((if_neg (by decide)).trans (ini_at (rfl : entTbl[338]? = some (3, 400)) (by decide)))) (Nat.le_of_ble_eq_true rfl) (Nat.le_of_ble_eq_true rfl) dX12_init_44 ?_
  refine n_putF X hmn (C := RX12) (T := TX12) (k := 7) [.int 0, .ref (Γ.1 + 334), .ref (Γ.1 + 335), .int 0, .ref (Γ.1 + 336), .ref (Γ.1 + 337), .int 0, .ref (Γ.1 + 338), .int 0, .int 0, .int 0, .int 0, .int 0, .int 0, .null, .int 0, .int 0, .null, .null, .null, .null, .int 0, .null, .null] (by omega) (rfl : vCl[11]? = some (RX12, TX12, 24)) uin_X12 tyX12_ok nmX12 (by decide) wf_X12_22 (Or.inl rfl) rfl rfl rfl rfl (Nat.le_of_ble_eq_true rfl) rfl dX12_init_46 ?_
  refine n_aload_n X dX12_init_49 rfl rfl ?_
  refine n_iconst X (-1) dX12_init_50 rfl ?_
  refine n_put X (C := RX12) (T := TX12) (k := 12) [.int 0, .ref (Γ.1 + 334), .ref (Γ.1 + 335), .int 0, .ref (Γ.1 + 336), .ref (Γ.1 + 337), .int 0, .ref (Γ.1 + 338), .int 0, .int 0, .int 0, .int 0, .int (-1), .int 0, .null, .int 0, .int 0, .null, .null, .null, .null, .int 0, .null, .null] (by omega) (rfl : vCl[11]? = some (RX12, TX12, 24)) uin_X12 tyX12_ok nmX12 (by decide) wf_X12_25 (Or.inl rfl) rfl rfl rfl (Nat.le_of_ble_eq_true rfl) rfl dX12_init_51 ?_
  refine n_aload_n X dX12_init_54 rfl rfl ?_
  refine n_bipush X 6 dX12_init_55 rfl ?_
  refine n_newa X (atype := .int) (ty := .int) (len := 6) (t0 := 0) (cA := Γ.2.1.1) (a0 := (6, .inl (fun _ => 0))) (by omega) (by omega) war_int rfl rfl (fun C h9 => by cases h9) rfl (by decide) rfl (by decide) ((shp_gt (by omega)).trans ((if_neg (by decide)).trans (ini_at (rfl : entTbl[339]? = some (3, 6)) (by decide)))) (Nat.le_of_ble_eq_true rfl) (Nat.le_of_ble_eq_true rfl) dX12_init_57 ?_
  refine n_putF X hmn (C := RX12) (T := TX12) (k := 14) [.int 0, .ref (Γ.1 + 334), .ref (Γ.1 + 335), .int 0, .ref (Γ.1 + 336), .ref (Γ.1 + 337), .int 0, .ref (Γ.1 + 338), .int 0, .int 0, .int 0, .int 0, .int (-1), .int 0, .ref (Γ.1 + 339), .int 0, .int 0, .null, .null, .null, .null, .int 0, .null, .null] (by omega) (rfl : vCl[11]? = some (RX12, TX12, 24)) uin_X12 tyX12_ok nmX12 (by decide) wf_X12_29 (Or.inl rfl) rfl rfl rfl rfl (Nat.le_of_ble_eq_true rfl) rfl dX12_init_59 ?_
  refine n_aload_n X dX12_init_62 rfl rfl ?_
  refine n_sipush X 2100 dX12_init_63 rfl ?_
  refine n_newa X (atype := .int) (ty := .int) (len := 2100) (t0 := 0) (cA := Γ.2.1.1) (a0 := (2100, .inl (fun _ => 0))) (by omega) (by omega) war_int rfl rfl (fun C h9 => by cases h9) rfl (by decide) rfl (by decide) ((shp_gt (by omega)).trans ((if_neg (by decide)).trans (ini_at (rfl : entTbl[340]? = some (3, 2100)) (by decide)))) (Nat.le_of_ble_eq_true rfl) (Nat.le_of_ble_eq_true rfl) dX12_init_66 ?_
  refine n_putF X hmn (C := RX12) (T := TX12) (k := 17) [.int 0, .ref (Γ.1 + 334), .ref (Γ.1 + 335), .int 0, .ref (Γ.1 + 336), .ref (Γ.1 + 337), .int 0, .ref (Γ.1 + 338), .int 0, .int 0, .int 0, .int 0, .int (-1), .int 0, .ref (Γ.1 + 339), .int 0, .int 0, .ref (Γ.1 + 340), .null, .null, .null, .int 0, .null, .null] (by omega) (rfl : vCl[11]? = some (RX12, TX12, 24)) uin_X12 tyX12_ok nmX12 (by decide) wf_X12_32 (Or.inl rfl) rfl rfl rfl rfl (Nat.le_of_ble_eq_true rfl) rfl dX12_init_68 ?_
  refine n_aload_n X dX12_init_71 rfl rfl ?_
  refine n_bipush X 100 dX12_init_72 rfl ?_
  refine n_newa X (atype := .int) (ty := .int) (len := 100) (t0 := 0) (cA := Γ.2.1.1) (a0 := (100, .inl (fun _ => 0))) (by omega) (by omega) war_int rfl rfl (fun C h9 => by cases h9) rfl (by decide) rfl (by decide) ((shp_gt (by omega)).trans ((if_neg (by decide)).trans (ini_at (rfl : entTbl[341]? = some (3, 100)) (by decide)))) (Nat.le_of_ble_eq_true rfl) (Nat.le_of_ble_eq_true rfl) dX12_init_74 ?_
  refine n_putF X hmn (C := RX12) (T := TX12) (k := 18) [.int 0, .ref (Γ.1 + 334), .ref (Γ.1 + 335), .int 0, .ref (Γ.1 + 336), .ref (Γ.1 + 337), .int 0, .ref (Γ.1 + 338), .int 0, .int 0, .int 0, .int 0, .int (-1), .int 0, .ref (Γ.1 + 339), .int 0, .int 0, .ref (Γ.1 + 340), .ref (Γ.1 + 341), .null, .null, .int 0, .null, .null] (by omega) (rfl : vCl[11]? = some (RX12, TX12, 24)) uin_X12 tyX12_ok nmX12 (by decide) wf_X12_35 (Or.inl rfl) rfl rfl rfl rfl (Nat.le_of_ble_eq_true rfl) rfl dX12_init_76 ?_
  refine n_aload_n X dX12_init_79 rfl rfl ?_
  refine n_bipush X 8 dX12_init_80 rfl ?_
  refine n_newa X (atype := .int) (ty := .int) (len := 8) (t0 := 0) (cA := Γ.2.1.1) (a0 := (8, .inl (fun _ => 0))) (by omega) (by omega) war_int rfl rfl (fun C h9 => by cases h9) rfl (by decide) rfl (by decide) ((shp_gt (by omega)).trans ((if_neg (by decide)).trans (ini_at (rfl : entTbl[342]? = some (3, 8)) (by decide)))) (Nat.le_of_ble_eq_true rfl) (Nat.le_of_ble_eq_true rfl) dX12_init_82 ?_
  refine n_putF X hmn (C := RX12) (T := TX12) (k := 19) [.int 0, .ref (Γ.1 + 334), .ref (Γ.1 + 335), .int 0, .ref (Γ.1 + 336), .ref (Γ.1 + 337), .int 0, .ref (Γ.1 + 338), .int 0, .int 0, .int 0, .int 0, .int (-1), .int 0, .ref (Γ.1 + 339), .int 0, .int 0, .ref (Γ.1 + 340), .ref (Γ.1 + 341), .ref (Γ.1 + 342), .null, .int 0, .null, .null] (by omega) (rfl : vCl[11]? = some (RX12, TX12, 24)) uin_X12 tyX12_ok nmX12 (by decide) wf_X12_38 (Or.inl rfl) rfl rfl rfl rfl (Nat.le_of_ble_eq_true rfl) rfl dX12_init_84 ?_
  refine n_aload_n X dX12_init_87 rfl rfl ?_
  refine n_bipush X 8 dX12_init_88 rfl ?_
  refine n_newa X (atype := .int) (ty := .int) (len := 8) (t0 := 0) (cA := Γ.2.1.1) (a0 := (8, .inl (fun _ => 0))) (by omega) (by omega) war_int rfl rfl (fun C h9 => by cases h9) rfl (by decide) rfl (by decide) ((shp_gt (by omega)).trans ((if_neg (by decide)).trans (ini_at (rfl : entTbl[343]? = some (3, 8)) (by decide)))) (Nat.le_of_ble_eq_true rfl) (Nat.le_of_ble_eq_true rfl) dX12_init_90 ?_
  refine n_putF X hmn (C := RX12) (T := TX12) (k := 20) [.int 0, .ref (Γ.1 + 334), .ref (Γ.1 + 335), .int 0, .ref (Γ.1 + 336), .ref (Γ.1 + 337), .int 0, .ref (Γ.1 + 338), .int 0, .int 0, .int 0, .int 0, .int (-1), .int 0, .ref (Γ.1 + 339), .int 0, .int 0, .ref (Γ.1 + 340), .ref (Γ.1 + 341), .ref (Γ.1 + 342), .ref (Γ.1 + 343), .int 0, .null, .null] (by omega) (rfl : vCl[11]? = some (RX12, TX12, 24)) uin_X12 tyX12_ok nmX12 (by decide) wf_X12_41 (Or.inl rfl) rfl rfl rfl rfl (Nat.le_of_ble_eq_true rfl) rfl dX12_init_92 ?_
  refine n_aload_n X dX12_init_95 rfl rfl ?_
  refine n_sipush X 256 dX12_init_96 rfl ?_
  refine n_newa X (atype := .boolean) (ty := .boolean) (len := 256) (t0 := 1) (cA := Γ.2.1.2.1) (a0 := (256, .inl (fun _ => 0))) (by omega) (by omega) war_boolean rfl rfl (fun C h9 => by cases h9) rfl (by decide) rfl (by decide) ((shp_gt (by omega)).trans ((if_neg (by decide)).trans (ini_at (rfl : entTbl[344]? = some (14, 256)) (by decide)))) (Nat.le_of_ble_eq_true rfl) (Nat.le_of_ble_eq_true rfl) dX12_init_99 ?_
  refine n_putF X hmn (C := RX12) (T := TX12) (k := 22) [.int 0, .ref (Γ.1 + 334), .ref (Γ.1 + 335), .int 0, .ref (Γ.1 + 336), .ref (Γ.1 + 337), .int 0, .ref (Γ.1 + 338), .int 0, .int 0, .int 0, .int 0, .int (-1), .int 0, .ref (Γ.1 + 339), .int 0, .int 0, .ref (Γ.1 + 340), .ref (Γ.1 + 341), .ref (Γ.1 + 342), .ref (Γ.1 + 343), .int 0, .ref (Γ.1 + 344), .null] (by omega) (rfl : vCl[11]? = some (RX12, TX12, 24)) uin_X12 tyX12_ok nmX12 (by decide) wf_X12_44 (Or.inl rfl) rfl rfl rfl rfl (Nat.le_of_ble_eq_true rfl) rfl dX12_init_101 ?_
  refine n_aload_n X dX12_init_104 rfl rfl ?_
  refine n_sipush X 256 dX12_init_105 rfl ?_
  refine n_newa X (atype := .int) (ty := .int) (len := 256) (t0 := 0) (cA := Γ.2.1.1) (a0 := (256, .inl (fun _ => 0))) (by omega) (by omega) war_int rfl rfl (fun C h9 => by cases h9) rfl (by decide) rfl (by decide) ((shp_gt (by omega)).trans ((if_neg (by decide)).trans (ini_at (rfl : entTbl[345]? = some (3, 256)) (by decide)))) (Nat.le_of_ble_eq_true rfl) (Nat.le_of_ble_eq_true rfl) dX12_init_108 ?_
  refine n_putF X hmn (C := RX12) (T := TX12) (k := 23) [.int 0, .ref (Γ.1 + 334), .ref (Γ.1 + 335), .int 0, .ref (Γ.1 + 336), .ref (Γ.1 + 337), .int 0, .ref (Γ.1 + 338), .int 0, .int 0, .int 0, .int 0, .int (-1), .int 0, .ref (Γ.1 + 339), .int 0, .int 0, .ref (Γ.1 + 340), .ref (Γ.1 + 341), .ref (Γ.1 + 342), .ref (Γ.1 + 343), .int 0, .ref (Γ.1 + 344), .ref (Γ.1 + 345)] (by omega) (rfl : vCl[11]? = some (RX12, TX12, 24)) uin_X12 tyX12_ok nmX12 (by decide) wf_X12_48 (Or.inl rfl) rfl rfl rfl rfl (Nat.le_of_ble_eq_true rfl) rfl dX12_init_110 ?_
  refine n_aload_n X dX12_init_113 rfl rfl ?_
  refine n_getf X (C := RX12) (T := TX12) (k := 1) (by omega) (rfl : vCl[11]? = some (RX12, TX12, 24)) uin_X12 (by decide) wf_X12_7 rfl rfl dX12_init_114 ?_
  refine n_iconst X 1 dX12_init_117 rfl ?_
  refine n_iconst X (-1) dX12_init_118 rfl ?_
  refine n_iastM X (f' := (upd (fun _ => 0) 1 (-1))) (by omega) (vp_in_iff.mpr (by decide)) rfl dX12_init_119 ?_
  refine n_aload_n X dX12_init_120 rfl rfl ?_
  refine n_getf X (C := RX12) (T := TX12) (k := 1) (by omega) (rfl : vCl[11]? = some (RX12, TX12, 24)) uin_X12 (by decide) wf_X12_7 rfl rfl dX12_init_121 ?_
  refine n_iconst X 5 dX12_init_124 rfl ?_
  refine n_bipush X 20 dX12_init_125 rfl ?_
  refine n_iastM X (f' := (upd (upd (fun _ => 0) 1 (-1)) 5 20)) (by omega) (vp_in_iff.mpr (by decide)) rfl dX12_init_127 ?_
  refine n_aload_n X dX12_init_128 rfl rfl ?_
  refine n_getf X (C := RX12) (T := TX12) (k := 1) (by omega) (rfl : vCl[11]? = some (RX12, TX12, 24)) uin_X12 (by decide) wf_X12_7 rfl rfl dX12_init_129 ?_
  refine n_bipush X 6 dX12_init_132 rfl ?_
  refine n_iconst X 1 dX12_init_134 rfl ?_
  refine n_iastM X (f' := (upd (upd (upd (fun _ => 0) 1 (-1)) 5 20) 6 1)) (by omega) (vp_in_iff.mpr (by decide)) rfl dX12_init_135 ?_
  refine n_aload_n X dX12_init_136 rfl rfl ?_
  refine n_getf X (C := RX12) (T := TX12) (k := 1) (by omega) (rfl : vCl[11]? = some (RX12, TX12, 24)) uin_X12 (by decide) wf_X12_7 rfl rfl dX12_init_137 ?_
  refine n_bipush X 7 dX12_init_140 rfl ?_
  refine n_bipush X 10 dX12_init_142 rfl ?_
  refine n_iastM X (f' := (upd (upd (upd (upd (fun _ => 0) 1 (-1)) 5 20) 6 1) 7 10)) (by omega) (vp_in_iff.mpr (by decide)) rfl dX12_init_144 ?_
  refine n_aload_n X dX12_init_145 rfl rfl ?_
  refine n_getf X (C := RX12) (T := TX12) (k := 1) (by omega) (rfl : vCl[11]? = some (RX12, TX12, 24)) uin_X12 (by decide) wf_X12_7 rfl rfl dX12_init_146 ?_
  refine n_bipush X 12 dX12_init_149 rfl ?_
  refine n_iconst X 1 dX12_init_151 rfl ?_
  refine n_iastM X (f' := (upd (upd (upd (upd (upd (fun _ => 0) 1 (-1)) 5 20) 6 1) 7 10) 12 1)) (by omega) (vp_in_iff.mpr (by decide)) rfl dX12_init_152 ?_
  exact n_vret X hr dX12_init_153 (Nat.le_of_ble_eq_true rfl) (Nat.le_of_ble_eq_true rfl) (shp_shI (ini_at (rfl : entTbl[333]? = some (13, 0)) (by decide)).symm (fun j h1 h2 => bM_ini j))
set_option maxRecDepth 20000 in
set_option maxHeartbeats 4000000 in
theorem K_W_loop (hAO : va_AO "RivalWeds$Town" s0 ∧ va_AO "RivalWeds$Kind" s0) (X : Cx p l s m args meth c Γ D s0 RX11 cX11_init 2) (hmn : meth.name = "<init>") (hb : s.heap.size = Γ.1 + 1) (hr : meth.sig.returnType = none) (g0 : Nat → va_E) : ∀ (z k : Nat), z + k = 12 → N p l e { frames := 4, cells := 332, slots := 13191, locals := 73 } s m args below meth c Γ D (128 + 17 * k) (7959 + 436 * k) (MQ below (QcN Γ D 333 (shI Γ g0 0)) args s 332 13191 (frB Γ)) (129 + 17 * k) (shp g0 0 (.inr (10, [.ref (Γ.1 + 1), .ref (Γ.1 + 3), .ref (Γ.1 + 20), .ref (Γ.1 + 28), .ref (Γ.1 + 45), .ref (Γ.1 + 53), .ref (Γ.1 + 54), .ref (Γ.1 + 78), .ref (Γ.1 + 93), .ref (Γ.1 + 94), .ref (Γ.1 + 117), .ref (Γ.1 + 122), .int 0, .int (-1), .int 0, .int 0, .int 0])) (bT Γ k)) 144 [some (.ref (Γ.1 + 0)), some (.int (Int32.ofNat k))] [] := by
  intro z
  induction z with
  | zero =>
    intro k hk
    obtain rfl : k = 12 := by omega
    refine n_iload_n X dX11_init_144 rfl rfl ?_
    refine n_aload_n X dX11_init_145 rfl rfl ?_
    refine n_getf X (C := RX11) (T := TX11) (k := 5) (by omega) (rfl : vCl[10]? = some (RX11, TX11, 17)) uin_X11 (by decide) wf_X11_38 rfl rfl dX11_init_146 ?_
    refine n_alenT X (by omega) dX11_init_149 ?_
    refine n_icmp_ge X 172 dX11_init_150 (by decide) (fun _ => ?_) (fun h9 => absurd h9 (by decide))
    refine n_fix53 ?_
    exact n_vret X hr dX11_init_172 (by omega) (by omega) (shp_shI (ini_at (rfl : entTbl[0]? = some (0, 0)) (by decide)).symm (fun j h1 h2 => rfl))
  | succ z ih =>
    intro k hk
    have hk2 : k < 12 := by omega
    refine n_iload_n X dX11_init_144 rfl rfl ?_
    refine n_aload_n X dX11_init_145 rfl rfl ?_
    refine n_getf X (C := RX11) (T := TX11) (k := 5) (by omega) (rfl : vCl[10]? = some (RX11, TX11, 17)) uin_X11 (by decide) wf_X11_38 rfl rfl dX11_init_146 ?_
    refine n_alenT X (by omega) dX11_init_149 ?_
    refine n_icmp_ge X 172 dX11_init_150 (by decide) (fun h9 => absurd (k12 hk2) h9) (fun _ => ?_)
    refine n_aload_n X dX11_init_153 rfl rfl ?_
    refine n_getf X (C := RX11) (T := TX11) (k := 5) (by omega) (rfl : vCl[10]? = some (RX11, TX11, 17)) uin_X11 (by decide) wf_X11_38 rfl rfl dX11_init_154 ?_
    refine n_iload_n X dX11_init_157 rfl rfl ?_
    refine n_new X (C := RX9) (T := TX9) (fs := [.null, .null, .null, .null, .null, .null, .null, .null, .int 0, .int 0, .int 0, .int 0, .int 0, .int 0, .int 0, .int 0, .int 0, .int 0, .int 0, .int 0]) (by omega) (by omega) uin_X9 tyX9 tyX9_ok wnc_X11_18 wni_X9 wz_X9 (rfl : vCl[8]? = some (RX9, TX9, 20)) (fun j hj => by match j, hj with | 0, _ => exact rfl | 1, _ => exact rfl | 2, _ => exact rfl | 3, _ => exact rfl | 4, _ => exact rfl | 5, _ => exact rfl | 6, _ => exact rfl | 7, _ => exact rfl | 8, _ => exact rfl | 9, _ => exact rfl | 10, _ => exact rfl | 11, _ => exact rfl | 12, _ => exact rfl | 13, _ => exact rfl | 14, _ => exact rfl | 15, _ => exact rfl | 16, _ => exact rfl | 17, _ => exact rfl | 18, _ => exact rfl | 19, _ => exact rfl | j9 + 20, h9 => exact absurd h9 (by omega)) (by dsimp only; omega) (by dsimp only; omega) dX11_init_158 ?_
    refine n_dup X dX11_init_161 rfl ?_
    refine n_call X (n' := 129 + 17 * (k + 1)) [] [.ref (Γ.1 + (129 + 17 * k)), .int (Int32.ofNat k), .ref (Γ.1 + 53)] (K_Town (Cx_gok X) _ (129 + 17 * k) (tk_at k hk2)) (by omega) (by omega) wc_X9_init wz_X9 wm_X11_20 wi_X9_init rfl yki_X9_init rfl ⟨(Nat.le_of_ble_eq_true rfl), (Nat.le_of_ble_eq_true rfl)⟩ ⟨by dsimp only; omega, by dsimp only; omega⟩ (Nat.le_of_ble_eq_true rfl) dX11_init_162 rfl ?_
    refine n_congr (shI_shp (by omega) (fun j h1 h2 => if_neg (by omega))) ?_
    refine n_aastT X (k := k) hk2 (by omega) (by omega) dX11_init_165 ?_
    refine n_iinc X 1 (x' := Int32.ofNat (k + 1)) dX11_init_166 rfl rfl (nI_s k) (by decide) ?_
    refine n_goto X 144 dX11_init_169 (by decide) ?_
    refine n_widen (c2 := 128 + 17 * (k + 1)) (s2 := 7959 + 436 * (k + 1)) (by omega) (by omega) ?_
    exact ih (k + 1) (by omega)
set_option maxRecDepth 20000 in
set_option maxHeartbeats 4000000 in
theorem K_W (hG : Gok l Γ D s0) (hAO : va_AO "RivalWeds$Town" s0 ∧ va_AO "RivalWeds$Kind" s0) (g0 : Nat → va_E) : CN l Γ D s0 yX11_init cX11_init 2 4 332 (13191) 73 [.ref (Γ.1 + 0)] (1) (shp g0 0 (.inr (10, [.null, .null, .null, .null, .null, .null, .null, .null, .null, .null, .null, .null, .int 0, .int 0, .int 0, .int 0, .int 0])) (ini Γ)) (333) (shI Γ g0 0) := by
  refine n_met (own := RX11) hG (by decide +kernel) rfl rfl rfl (Nat.le_of_ble_eq_true rfl) ?_
  intro p e s m args below meth c X hmn hb hr
  show N p l e _ s m args below meth c Γ D 0 0 _ _ _ 0 [some (.ref (Γ.1 + 0)), none] []
  refine n_aload_n X dX11_init_0 rfl rfl ?_
  refine n_objInit X wol_X11 woi woc (Nat.le_of_ble_eq_true rfl) (Nat.le_of_ble_eq_true rfl) dX11_init_1 ?_
  refine n_aload_n X dX11_init_4 rfl rfl ?_
  refine n_new X (C := RX6) (T := TX6) (fs := [.null]) (by omega) (by omega) uin_X6 tyX6 tyX6_ok wnc_X11_7 wni_X6 wz_X6 (rfl : vCl[6]? = some (RX6, TX6, 1)) (fun j hj => by match j, hj with | 0, _ => exact rfl | j9 + 1, h9 => exact absurd h9 (by omega)) (Nat.le_of_ble_eq_true rfl) (Nat.le_of_ble_eq_true rfl) dX11_init_5 ?_
  refine n_dup X dX11_init_8 rfl ?_
  refine n_sipush X 400 dX11_init_9 rfl ?_
  refine n_call X (n' := 3) [.int 400] [.ref (Γ.1 + 1), .ref (Γ.1 + 0)] (K_Row hG (shp g0 0 (.inr (10, [.null, .null, .null, .null, .null, .null, .null, .null, .null, .null, .null, .null, .int 0, .int 0, .int 0, .int 0, .int 0])) (ini Γ)) 1 400 400 (⟨rfl, rfl⟩ : isRow 1 400) (by decide) rfl) (by omega) (by omega) wc_X6_init wz_X6 wm_X11_11 wi_X6_init rfl yki_X6_init rfl ⟨(Nat.le_of_ble_eq_true rfl), (Nat.le_of_ble_eq_true rfl)⟩ ⟨(Nat.le_of_ble_eq_true rfl), (Nat.le_of_ble_eq_true rfl)⟩ (Nat.le_of_ble_eq_true rfl) dX11_init_12 rfl ?_
  refine n_congr (shI_shp (by omega) (fun j h1 h2 => rfl)) ?_
  refine n_putF X hmn (C := RX11) (T := TX11) (k := 0) [.ref (Γ.1 + 1), .null, .null, .null, .null, .null, .null, .null, .null, .null, .null, .null, .int 0, .int 0, .int 0, .int 0, .int 0] (by omega) (rfl : vCl[10]? = some (RX11, TX11, 17)) uin_X11 tyX11_ok nmX11 (by decide) wf_X11_14 (Or.inl rfl) rfl rfl rfl rfl (Nat.le_of_ble_eq_true rfl) rfl dX11_init_15 ?_
  refine n_aload_n X dX11_init_18 rfl rfl ?_
  refine n_new X (C := RX9) (T := TX9) (fs := [.null, .null, .null, .null, .null, .null, .null, .null, .int 0, .int 0, .int 0, .int 0, .int 0, .int 0, .int 0, .int 0, .int 0, .int 0, .int 0, .int 0]) (by omega) (by omega) uin_X9 tyX9 tyX9_ok wnc_X11_18 wni_X9 wz_X9 (rfl : vCl[8]? = some (RX9, TX9, 20)) (fun j hj => by match j, hj with | 0, _ => exact rfl | 1, _ => exact rfl | 2, _ => exact rfl | 3, _ => exact rfl | 4, _ => exact rfl | 5, _ => exact rfl | 6, _ => exact rfl | 7, _ => exact rfl | 8, _ => exact rfl | 9, _ => exact rfl | 10, _ => exact rfl | 11, _ => exact rfl | 12, _ => exact rfl | 13, _ => exact rfl | 14, _ => exact rfl | 15, _ => exact rfl | 16, _ => exact rfl | 17, _ => exact rfl | 18, _ => exact rfl | 19, _ => exact rfl | j9 + 20, h9 => exact absurd h9 (by omega)) (Nat.le_of_ble_eq_true rfl) (Nat.le_of_ble_eq_true rfl) dX11_init_19 ?_
  refine n_dup X dX11_init_22 rfl ?_
  refine n_call X (n' := 20) [] [.ref (Γ.1 + 3), .ref (Γ.1 + 0)] (K_Town hG (shp g0 0 (.inr (10, [.ref (Γ.1 + 1), .null, .null, .null, .null, .null, .null, .null, .null, .null, .null, .null, .int 0, .int 0, .int 0, .int 0, .int 0])) (ini Γ)) 3 (⟨rfl, ⟨rfl, rfl⟩, ⟨rfl, rfl⟩, ⟨rfl, rfl⟩, ⟨rfl, rfl⟩, ⟨rfl, rfl⟩, ⟨rfl, rfl⟩, ⟨rfl, rfl⟩, ⟨rfl, rfl⟩⟩ : isTown 3)) (by omega) (by omega) wc_X9_init wz_X9 wm_X11_20 wi_X9_init rfl yki_X9_init rfl ⟨(Nat.le_of_ble_eq_true rfl), (Nat.le_of_ble_eq_true rfl)⟩ ⟨(Nat.le_of_ble_eq_true rfl), (Nat.le_of_ble_eq_true rfl)⟩ (Nat.le_of_ble_eq_true rfl) dX11_init_23 rfl ?_
  refine n_congr (shI_shp (by omega) (fun j h1 h2 => rfl)) ?_
  refine n_putF X hmn (C := RX11) (T := TX11) (k := 1) [.ref (Γ.1 + 1), .ref (Γ.1 + 3), .null, .null, .null, .null, .null, .null, .null, .null, .null, .null, .int 0, .int 0, .int 0, .int 0, .int 0] (by omega) (rfl : vCl[10]? = some (RX11, TX11, 17)) uin_X11 tyX11_ok nmX11 (by decide) wf_X11_21 (Or.inl rfl) rfl rfl rfl rfl (Nat.le_of_ble_eq_true rfl) rfl dX11_init_26 ?_
  refine n_aload_n X dX11_init_29 rfl rfl ?_
  refine n_new X (C := RX2) (T := TX2) (fs := [.null, .null, .null, .null, .int 0, .int 0]) (by omega) (by omega) uin_X2 tyX2 tyX2_ok wnc_X11_25 wni_X2 wz_X2 (rfl : vCl[2]? = some (RX2, TX2, 6)) (fun j hj => by match j, hj with | 0, _ => exact rfl | 1, _ => exact rfl | 2, _ => exact rfl | 3, _ => exact rfl | 4, _ => exact rfl | 5, _ => exact rfl | j9 + 6, h9 => exact absurd h9 (by omega)) (Nat.le_of_ble_eq_true rfl) (Nat.le_of_ble_eq_true rfl) dX11_init_30 ?_
  refine n_dup X dX11_init_33 rfl ?_
  refine n_call X (n' := 28) [] [.ref (Γ.1 + 20), .ref (Γ.1 + 0)] (K_Law hG (shp g0 0 (.inr (10, [.ref (Γ.1 + 1), .ref (Γ.1 + 3), .null, .null, .null, .null, .null, .null, .null, .null, .null, .null, .int 0, .int 0, .int 0, .int 0, .int 0])) (ini Γ)) 20 (⟨rfl, ⟨rfl, rfl⟩, ⟨rfl, rfl⟩, rfl, ⟨rfl, rfl⟩⟩ : isLaw 20)) (by omega) (by omega) wc_X2_init wz_X2 wm_X11_27 wi_X2_init rfl yki_X2_init rfl ⟨(Nat.le_of_ble_eq_true rfl), (Nat.le_of_ble_eq_true rfl)⟩ ⟨(Nat.le_of_ble_eq_true rfl), (Nat.le_of_ble_eq_true rfl)⟩ (Nat.le_of_ble_eq_true rfl) dX11_init_34 rfl ?_
  refine n_congr (shI_shp (by omega) (fun j h1 h2 => rfl)) ?_
  refine n_putF X hmn (C := RX11) (T := TX11) (k := 2) [.ref (Γ.1 + 1), .ref (Γ.1 + 3), .ref (Γ.1 + 20), .null, .null, .null, .null, .null, .null, .null, .null, .null, .int 0, .int 0, .int 0, .int 0, .int 0] (by omega) (rfl : vCl[10]? = some (RX11, TX11, 17)) uin_X11 tyX11_ok nmX11 (by decide) wf_X11_28 (Or.inl rfl) rfl rfl rfl rfl (Nat.le_of_ble_eq_true rfl) rfl dX11_init_37 ?_
  refine n_aload_n X dX11_init_40 rfl rfl ?_
  refine n_new X (C := RX9) (T := TX9) (fs := [.null, .null, .null, .null, .null, .null, .null, .null, .int 0, .int 0, .int 0, .int 0, .int 0, .int 0, .int 0, .int 0, .int 0, .int 0, .int 0, .int 0]) (by omega) (by omega) uin_X9 tyX9 tyX9_ok wnc_X11_18 wni_X9 wz_X9 (rfl : vCl[8]? = some (RX9, TX9, 20)) (fun j hj => by match j, hj with | 0, _ => exact rfl | 1, _ => exact rfl | 2, _ => exact rfl | 3, _ => exact rfl | 4, _ => exact rfl | 5, _ => exact rfl | 6, _ => exact rfl | 7, _ => exact rfl | 8, _ => exact rfl | 9, _ => exact rfl | 10, _ => exact rfl | 11, _ => exact rfl | 12, _ => exact rfl | 13, _ => exact rfl | 14, _ => exact rfl | 15, _ => exact rfl | 16, _ => exact rfl | 17, _ => exact rfl | 18, _ => exact rfl | 19, _ => exact rfl | j9 + 20, h9 => exact absurd h9 (by omega)) (Nat.le_of_ble_eq_true rfl) (Nat.le_of_ble_eq_true rfl) dX11_init_41 ?_
  refine n_dup X dX11_init_44 rfl ?_
  refine n_call X (n' := 45) [] [.ref (Γ.1 + 28), .ref (Γ.1 + 0)] (K_Town hG (shp g0 0 (.inr (10, [.ref (Γ.1 + 1), .ref (Γ.1 + 3), .ref (Γ.1 + 20), .null, .null, .null, .null, .null, .null, .null, .null, .null, .int 0, .int 0, .int 0, .int 0, .int 0])) (ini Γ)) 28 (⟨rfl, ⟨rfl, rfl⟩, ⟨rfl, rfl⟩, ⟨rfl, rfl⟩, ⟨rfl, rfl⟩, ⟨rfl, rfl⟩, ⟨rfl, rfl⟩, ⟨rfl, rfl⟩, ⟨rfl, rfl⟩⟩ : isTown 28)) (by omega) (by omega) wc_X9_init wz_X9 wm_X11_20 wi_X9_init rfl yki_X9_init rfl ⟨(Nat.le_of_ble_eq_true rfl), (Nat.le_of_ble_eq_true rfl)⟩ ⟨(Nat.le_of_ble_eq_true rfl), (Nat.le_of_ble_eq_true rfl)⟩ (Nat.le_of_ble_eq_true rfl) dX11_init_45 rfl ?_
  refine n_congr (shI_shp (by omega) (fun j h1 h2 => rfl)) ?_
  refine n_putF X hmn (C := RX11) (T := TX11) (k := 3) [.ref (Γ.1 + 1), .ref (Γ.1 + 3), .ref (Γ.1 + 20), .ref (Γ.1 + 28), .null, .null, .null, .null, .null, .null, .null, .null, .int 0, .int 0, .int 0, .int 0, .int 0] (by omega) (rfl : vCl[10]? = some (RX11, TX11, 17)) uin_X11 tyX11_ok nmX11 (by decide) wf_X11_32 (Or.inl rfl) rfl rfl rfl rfl (Nat.le_of_ble_eq_true rfl) rfl dX11_init_48 ?_
  refine n_aload_n X dX11_init_51 rfl rfl ?_
  refine n_new X (C := RX2) (T := TX2) (fs := [.null, .null, .null, .null, .int 0, .int 0]) (by omega) (by omega) uin_X2 tyX2 tyX2_ok wnc_X11_25 wni_X2 wz_X2 (rfl : vCl[2]? = some (RX2, TX2, 6)) (fun j hj => by match j, hj with | 0, _ => exact rfl | 1, _ => exact rfl | 2, _ => exact rfl | 3, _ => exact rfl | 4, _ => exact rfl | 5, _ => exact rfl | j9 + 6, h9 => exact absurd h9 (by omega)) (Nat.le_of_ble_eq_true rfl) (Nat.le_of_ble_eq_true rfl) dX11_init_52 ?_
  refine n_dup X dX11_init_55 rfl ?_
  refine n_call X (n' := 53) [] [.ref (Γ.1 + 45), .ref (Γ.1 + 0)] (K_Law hG (shp g0 0 (.inr (10, [.ref (Γ.1 + 1), .ref (Γ.1 + 3), .ref (Γ.1 + 20), .ref (Γ.1 + 28), .null, .null, .null, .null, .null, .null, .null, .null, .int 0, .int 0, .int 0, .int 0, .int 0])) (ini Γ)) 45 (⟨rfl, ⟨rfl, rfl⟩, ⟨rfl, rfl⟩, rfl, ⟨rfl, rfl⟩⟩ : isLaw 45)) (by omega) (by omega) wc_X2_init wz_X2 wm_X11_27 wi_X2_init rfl yki_X2_init rfl ⟨(Nat.le_of_ble_eq_true rfl), (Nat.le_of_ble_eq_true rfl)⟩ ⟨(Nat.le_of_ble_eq_true rfl), (Nat.le_of_ble_eq_true rfl)⟩ (Nat.le_of_ble_eq_true rfl) dX11_init_56 rfl ?_
  refine n_congr (shI_shp (by omega) (fun j h1 h2 => rfl)) ?_
  refine n_putF X hmn (C := RX11) (T := TX11) (k := 4) [.ref (Γ.1 + 1), .ref (Γ.1 + 3), .ref (Γ.1 + 20), .ref (Γ.1 + 28), .ref (Γ.1 + 45), .null, .null, .null, .null, .null, .null, .null, .int 0, .int 0, .int 0, .int 0, .int 0] (by omega) (rfl : vCl[10]? = some (RX11, TX11, 17)) uin_X11 tyX11_ok nmX11 (by decide) wf_X11_35 (Or.inl rfl) rfl rfl rfl rfl (Nat.le_of_ble_eq_true rfl) rfl dX11_init_59 ?_
  refine n_aload_n X dX11_init_62 rfl rfl ?_
  refine n_bipush X 12 dX11_init_63 rfl ?_
  refine n_congr (g := shp g0 0 (.inr (10, [.ref (Γ.1 + 1), .ref (Γ.1 + 3), .ref (Γ.1 + 20), .ref (Γ.1 + 28), .ref (Γ.1 + 45), .null, .null, .null, .null, .null, .null, .null, .int 0, .int 0, .int 0, .int 0, .int 0])) (bT Γ 0)) (fun j hj => shp_lt53 (by omega)) ?_
  refine n_anew X (C := "RivalWeds$Town") (len := 12) (t0 := 3) (cA := Γ.2.1.2.2.2.1) hAO.1 (by omega) (by omega) wnc_X11_18 rfl (by decide) rfl (by decide) ((shp_gt (by omega)).trans bT0) (Nat.le_of_ble_eq_true rfl) (Nat.le_of_ble_eq_true rfl) dX11_init_65 ?_
  refine n_putF X hmn (C := RX11) (T := TX11) (k := 5) [.ref (Γ.1 + 1), .ref (Γ.1 + 3), .ref (Γ.1 + 20), .ref (Γ.1 + 28), .ref (Γ.1 + 45), .ref (Γ.1 + 53), .null, .null, .null, .null, .null, .null, .int 0, .int 0, .int 0, .int 0, .int 0] (by omega) (rfl : vCl[10]? = some (RX11, TX11, 17)) uin_X11 tyX11_ok nmX11 (by decide) wf_X11_38 (Or.inl rfl) rfl rfl rfl rfl (Nat.le_of_ble_eq_true rfl) rfl dX11_init_68 ?_
  refine n_aload_n X dX11_init_71 rfl rfl ?_
  refine n_new X (C := RX10) (T := TX10) (fs := [.null, .null, .null, .null, .null, .int 0, .int 0, .int 0, .null, .int 0, .int 0, .int 0, .int 0, .null]) (by omega) (by omega) uin_X10 tyX10 tyX10_ok wnc_X11_42 wni_X10 wz_X10 (rfl : vCl[9]? = some (RX10, TX10, 14)) (fun j hj => by match j, hj with | 0, _ => exact rfl | 1, _ => exact rfl | 2, _ => exact rfl | 3, _ => exact rfl | 4, _ => exact rfl | 5, _ => exact rfl | 6, _ => exact rfl | 7, _ => exact rfl | 8, _ => exact rfl | 9, _ => exact rfl | 10, _ => exact rfl | 11, _ => exact rfl | 12, _ => exact rfl | 13, _ => exact rfl | j9 + 14, h9 => exact absurd h9 (by omega)) (Nat.le_of_ble_eq_true rfl) (Nat.le_of_ble_eq_true rfl) dX11_init_72 ?_
  refine n_dup X dX11_init_75 rfl ?_
  refine n_call X (n' := 78) [] [.ref (Γ.1 + 54), .ref (Γ.1 + 0)] (K_TTx hG hAO (shp g0 0 (.inr (10, [.ref (Γ.1 + 1), .ref (Γ.1 + 3), .ref (Γ.1 + 20), .ref (Γ.1 + 28), .ref (Γ.1 + 45), .ref (Γ.1 + 53), .null, .null, .null, .null, .null, .null, .int 0, .int 0, .int 0, .int 0, .int 0])) (bT Γ 0))) (by omega) (by omega) wc_X10_init wz_X10 wm_X11_44 wi_X10_init rfl yki_X10_init rfl ⟨(Nat.le_of_ble_eq_true rfl), (Nat.le_of_ble_eq_true rfl)⟩ ⟨(Nat.le_of_ble_eq_true rfl), (Nat.le_of_ble_eq_true rfl)⟩ (Nat.le_of_ble_eq_true rfl) dX11_init_76 rfl ?_
  refine n_congr (shI_shp (by omega) (fun j h1 h2 => if_neg (by omega))) ?_
  refine n_putF X hmn (C := RX11) (T := TX11) (k := 6) [.ref (Γ.1 + 1), .ref (Γ.1 + 3), .ref (Γ.1 + 20), .ref (Γ.1 + 28), .ref (Γ.1 + 45), .ref (Γ.1 + 53), .ref (Γ.1 + 54), .null, .null, .null, .null, .null, .int 0, .int 0, .int 0, .int 0, .int 0] (by omega) (rfl : vCl[10]? = some (RX11, TX11, 17)) uin_X11 tyX11_ok nmX11 (by decide) wf_X11_45 (Or.inl rfl) rfl rfl rfl rfl (Nat.le_of_ble_eq_true rfl) rfl dX11_init_79 ?_
  refine n_aload_n X dX11_init_82 rfl rfl ?_
  refine n_new X (C := RX3) (T := TX3) (fs := [.null, .null, .null, .null, .null, .int 0, .int 0, .int 0, .null, .int 0, .int 0, .int 0, .int 0, .null]) (by omega) (by omega) uin_X3 tyX3 tyX3_ok wnc_X11_49 wni_X3 wz_X3 (rfl : vCl[3]? = some (RX3, TX3, 14)) (fun j hj => by match j, hj with | 0, _ => exact rfl | 1, _ => exact rfl | 2, _ => exact rfl | 3, _ => exact rfl | 4, _ => exact rfl | 5, _ => exact rfl | 6, _ => exact rfl | 7, _ => exact rfl | 8, _ => exact rfl | 9, _ => exact rfl | 10, _ => exact rfl | 11, _ => exact rfl | 12, _ => exact rfl | 13, _ => exact rfl | j9 + 14, h9 => exact absurd h9 (by omega)) (Nat.le_of_ble_eq_true rfl) (Nat.le_of_ble_eq_true rfl) dX11_init_83 ?_
  refine n_dup X dX11_init_86 rfl ?_
  refine n_call X (n' := 93) [] [.ref (Γ.1 + 78), .ref (Γ.1 + 0)] (K_LTx hG hAO (shp g0 0 (.inr (10, [.ref (Γ.1 + 1), .ref (Γ.1 + 3), .ref (Γ.1 + 20), .ref (Γ.1 + 28), .ref (Γ.1 + 45), .ref (Γ.1 + 53), .ref (Γ.1 + 54), .null, .null, .null, .null, .null, .int 0, .int 0, .int 0, .int 0, .int 0])) (bT Γ 0))) (by omega) (by omega) wc_X3_init wz_X3 wm_X11_51 wi_X3_init rfl yki_X3_init rfl ⟨(Nat.le_of_ble_eq_true rfl), (Nat.le_of_ble_eq_true rfl)⟩ ⟨(Nat.le_of_ble_eq_true rfl), (Nat.le_of_ble_eq_true rfl)⟩ (Nat.le_of_ble_eq_true rfl) dX11_init_87 rfl ?_
  refine n_congr (shI_shp (by omega) (fun j h1 h2 => if_neg (by omega))) ?_
  refine n_putF X hmn (C := RX11) (T := TX11) (k := 7) [.ref (Γ.1 + 1), .ref (Γ.1 + 3), .ref (Γ.1 + 20), .ref (Γ.1 + 28), .ref (Γ.1 + 45), .ref (Γ.1 + 53), .ref (Γ.1 + 54), .ref (Γ.1 + 78), .null, .null, .null, .null, .int 0, .int 0, .int 0, .int 0, .int 0] (by omega) (rfl : vCl[10]? = some (RX11, TX11, 17)) uin_X11 tyX11_ok nmX11 (by decide) wf_X11_52 (Or.inl rfl) rfl rfl rfl rfl (Nat.le_of_ble_eq_true rfl) rfl dX11_init_90 ?_
  refine n_aload_n X dX11_init_93 rfl rfl ?_
  refine n_new X (C := RX4) (T := TX4) (fs := [.int 0, .int 0, .int 0, .int 0, .int 0, .int 0, .int 0]) (by omega) (by omega) uin_X4 tyX4 tyX4_ok wnc_X11_56 wni_X4 wz_X4 (rfl : vCl[4]? = some (RX4, TX4, 7)) (fun j hj => by match j, hj with | 0, _ => exact rfl | 1, _ => exact rfl | 2, _ => exact rfl | 3, _ => exact rfl | 4, _ => exact rfl | 5, _ => exact rfl | 6, _ => exact rfl | j9 + 7, h9 => exact absurd h9 (by omega)) (Nat.le_of_ble_eq_true rfl) (Nat.le_of_ble_eq_true rfl) dX11_init_94 ?_
  refine n_dup X dX11_init_97 rfl ?_
  refine n_call X (n' := 94) [] [.ref (Γ.1 + 93), .ref (Γ.1 + 0)] (K_Look hG (shp g0 0 (.inr (10, [.ref (Γ.1 + 1), .ref (Γ.1 + 3), .ref (Γ.1 + 20), .ref (Γ.1 + 28), .ref (Γ.1 + 45), .ref (Γ.1 + 53), .ref (Γ.1 + 54), .ref (Γ.1 + 78), .null, .null, .null, .null, .int 0, .int 0, .int 0, .int 0, .int 0])) (bT Γ 0)) 93 (rfl : isLook 93)) (by omega) (by omega) wc_X4_init wz_X4 wm_X11_58 wi_X4_init rfl yki_X4_init rfl ⟨(Nat.le_of_ble_eq_true rfl), (Nat.le_of_ble_eq_true rfl)⟩ ⟨(Nat.le_of_ble_eq_true rfl), (Nat.le_of_ble_eq_true rfl)⟩ (Nat.le_of_ble_eq_true rfl) dX11_init_98 rfl ?_
  refine n_congr (shI_shp (by omega) (fun j h1 h2 => if_neg (by omega))) ?_
  refine n_putF X hmn (C := RX11) (T := TX11) (k := 8) [.ref (Γ.1 + 1), .ref (Γ.1 + 3), .ref (Γ.1 + 20), .ref (Γ.1 + 28), .ref (Γ.1 + 45), .ref (Γ.1 + 53), .ref (Γ.1 + 54), .ref (Γ.1 + 78), .ref (Γ.1 + 93), .null, .null, .null, .int 0, .int 0, .int 0, .int 0, .int 0] (by omega) (rfl : vCl[10]? = some (RX11, TX11, 17)) uin_X11 tyX11_ok nmX11 (by decide) wf_X11_59 (Or.inl rfl) rfl rfl rfl rfl (Nat.le_of_ble_eq_true rfl) rfl dX11_init_101 ?_
  refine n_aload_n X dX11_init_104 rfl rfl ?_
  refine n_new X (C := RX0) (T := TX0) (fs := [.null, .null, .null, .null]) (by omega) (by omega) uin_X0 tyX0 tyX0_ok wnc_X11_63 wni_X0 wz_X0 (rfl : vCl[0]? = some (RX0, TX0, 4)) (fun j hj => by match j, hj with | 0, _ => exact rfl | 1, _ => exact rfl | 2, _ => exact rfl | 3, _ => exact rfl | j9 + 4, h9 => exact absurd h9 (by omega)) (Nat.le_of_ble_eq_true rfl) (Nat.le_of_ble_eq_true rfl) dX11_init_105 ?_
  refine n_dup X dX11_init_108 rfl ?_
  refine n_call X (n' := 117) [] [.ref (Γ.1 + 94), .ref (Γ.1 + 0)] (K_For hG (shp g0 0 (.inr (10, [.ref (Γ.1 + 1), .ref (Γ.1 + 3), .ref (Γ.1 + 20), .ref (Γ.1 + 28), .ref (Γ.1 + 45), .ref (Γ.1 + 53), .ref (Γ.1 + 54), .ref (Γ.1 + 78), .ref (Γ.1 + 93), .null, .null, .null, .int 0, .int 0, .int 0, .int 0, .int 0])) (bT Γ 0))) (by omega) (by omega) wc_X0_init wz_X0 wm_X11_65 wi_X0_init rfl yki_X0_init rfl ⟨(Nat.le_of_ble_eq_true rfl), (Nat.le_of_ble_eq_true rfl)⟩ ⟨(Nat.le_of_ble_eq_true rfl), (Nat.le_of_ble_eq_true rfl)⟩ (Nat.le_of_ble_eq_true rfl) dX11_init_109 rfl ?_
  refine n_congr (shI_shp (by omega) (fun j h1 h2 => if_neg (by omega))) ?_
  refine n_putF X hmn (C := RX11) (T := TX11) (k := 9) [.ref (Γ.1 + 1), .ref (Γ.1 + 3), .ref (Γ.1 + 20), .ref (Γ.1 + 28), .ref (Γ.1 + 45), .ref (Γ.1 + 53), .ref (Γ.1 + 54), .ref (Γ.1 + 78), .ref (Γ.1 + 93), .ref (Γ.1 + 94), .null, .null, .int 0, .int 0, .int 0, .int 0, .int 0] (by omega) (rfl : vCl[10]? = some (RX11, TX11, 17)) uin_X11 tyX11_ok nmX11 (by decide) wf_X11_66 (Or.inl rfl) rfl rfl rfl rfl (Nat.le_of_ble_eq_true rfl) rfl dX11_init_112 ?_
  refine n_aload_n X dX11_init_115 rfl rfl ?_
  refine n_new X (C := RX5) (T := TX5) (fs := [.null, .null, .int 0]) (by omega) (by omega) uin_X5 tyX5 tyX5_ok wnc_X11_70 wni_X5 wz_X5 (rfl : vCl[5]? = some (RX5, TX5, 3)) (fun j hj => by match j, hj with | 0, _ => exact rfl | 1, _ => exact rfl | 2, _ => exact rfl | j9 + 3, h9 => exact absurd h9 (by omega)) (Nat.le_of_ble_eq_true rfl) (Nat.le_of_ble_eq_true rfl) dX11_init_116 ?_
  refine n_dup X dX11_init_119 rfl ?_
  refine n_call X (n' := 122) [] [.ref (Γ.1 + 117), .ref (Γ.1 + 0)] (K_Prs hG (shp g0 0 (.inr (10, [.ref (Γ.1 + 1), .ref (Γ.1 + 3), .ref (Γ.1 + 20), .ref (Γ.1 + 28), .ref (Γ.1 + 45), .ref (Γ.1 + 53), .ref (Γ.1 + 54), .ref (Γ.1 + 78), .ref (Γ.1 + 93), .ref (Γ.1 + 94), .null, .null, .int 0, .int 0, .int 0, .int 0, .int 0])) (bT Γ 0))) (by omega) (by omega) wc_X5_init wz_X5 wm_X11_72 wi_X5_init rfl yki_X5_init rfl ⟨(Nat.le_of_ble_eq_true rfl), (Nat.le_of_ble_eq_true rfl)⟩ ⟨(Nat.le_of_ble_eq_true rfl), (Nat.le_of_ble_eq_true rfl)⟩ (Nat.le_of_ble_eq_true rfl) dX11_init_120 rfl ?_
  refine n_congr (shI_shp (by omega) (fun j h1 h2 => if_neg (by omega))) ?_
  refine n_putF X hmn (C := RX11) (T := TX11) (k := 10) [.ref (Γ.1 + 1), .ref (Γ.1 + 3), .ref (Γ.1 + 20), .ref (Γ.1 + 28), .ref (Γ.1 + 45), .ref (Γ.1 + 53), .ref (Γ.1 + 54), .ref (Γ.1 + 78), .ref (Γ.1 + 93), .ref (Γ.1 + 94), .ref (Γ.1 + 117), .null, .int 0, .int 0, .int 0, .int 0, .int 0] (by omega) (rfl : vCl[10]? = some (RX11, TX11, 17)) uin_X11 tyX11_ok nmX11 (by decide) wf_X11_73 (Or.inl rfl) rfl rfl rfl rfl (Nat.le_of_ble_eq_true rfl) rfl dX11_init_123 ?_
  refine n_aload_n X dX11_init_126 rfl rfl ?_
  refine n_new X (C := RX8) (T := TX8) (fs := [.null, .null, .null, .int 0, .int 0]) (by omega) (by omega) uin_X8 tyX8 tyX8_ok wnc_X11_77 wni_X8 wz_X8 (rfl : vCl[7]? = some (RX8, TX8, 5)) (fun j hj => by match j, hj with | 0, _ => exact rfl | 1, _ => exact rfl | 2, _ => exact rfl | 3, _ => exact rfl | 4, _ => exact rfl | j9 + 5, h9 => exact absurd h9 (by omega)) (Nat.le_of_ble_eq_true rfl) (Nat.le_of_ble_eq_true rfl) dX11_init_127 ?_
  refine n_dup X dX11_init_130 rfl ?_
  refine n_call X (n' := 129) [] [.ref (Γ.1 + 122), .ref (Γ.1 + 0)] (K_Told hG (shp g0 0 (.inr (10, [.ref (Γ.1 + 1), .ref (Γ.1 + 3), .ref (Γ.1 + 20), .ref (Γ.1 + 28), .ref (Γ.1 + 45), .ref (Γ.1 + 53), .ref (Γ.1 + 54), .ref (Γ.1 + 78), .ref (Γ.1 + 93), .ref (Γ.1 + 94), .ref (Γ.1 + 117), .null, .int 0, .int 0, .int 0, .int 0, .int 0])) (bT Γ 0))) (by omega) (by omega) wc_X8_init wz_X8 wm_X11_79 wi_X8_init rfl yki_X8_init rfl ⟨(Nat.le_of_ble_eq_true rfl), (Nat.le_of_ble_eq_true rfl)⟩ ⟨(Nat.le_of_ble_eq_true rfl), (Nat.le_of_ble_eq_true rfl)⟩ (Nat.le_of_ble_eq_true rfl) dX11_init_131 rfl ?_
  refine n_congr (shI_shp (by omega) (fun j h1 h2 => if_neg (by omega))) ?_
  refine n_putF X hmn (C := RX11) (T := TX11) (k := 11) [.ref (Γ.1 + 1), .ref (Γ.1 + 3), .ref (Γ.1 + 20), .ref (Γ.1 + 28), .ref (Γ.1 + 45), .ref (Γ.1 + 53), .ref (Γ.1 + 54), .ref (Γ.1 + 78), .ref (Γ.1 + 93), .ref (Γ.1 + 94), .ref (Γ.1 + 117), .ref (Γ.1 + 122), .int 0, .int 0, .int 0, .int 0, .int 0] (by omega) (rfl : vCl[10]? = some (RX11, TX11, 17)) uin_X11 tyX11_ok nmX11 (by decide) wf_X11_80 (Or.inl rfl) rfl rfl rfl rfl (Nat.le_of_ble_eq_true rfl) rfl dX11_init_134 ?_
  refine n_aload_n X dX11_init_137 rfl rfl ?_
  refine n_iconst X (-1) dX11_init_138 rfl ?_
  refine n_put X (C := RX11) (T := TX11) (k := 13) [.ref (Γ.1 + 1), .ref (Γ.1 + 3), .ref (Γ.1 + 20), .ref (Γ.1 + 28), .ref (Γ.1 + 45), .ref (Γ.1 + 53), .ref (Γ.1 + 54), .ref (Γ.1 + 78), .ref (Γ.1 + 93), .ref (Γ.1 + 94), .ref (Γ.1 + 117), .ref (Γ.1 + 122), .int 0, .int (-1), .int 0, .int 0, .int 0] (by omega) (rfl : vCl[10]? = some (RX11, TX11, 17)) uin_X11 tyX11_ok nmX11 (by decide) wf_X11_84 (Or.inl rfl) rfl rfl rfl (Nat.le_of_ble_eq_true rfl) rfl dX11_init_139 ?_
  refine n_iconst X 0 dX11_init_142 rfl ?_
  refine n_istore_n X dX11_init_143 rfl (by decide) ?_
  exact K_W_loop hAO X hmn hb hr g0 12 0 rfl
end CTORS

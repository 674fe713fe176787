theorem war_long : Cond.arrayClass (newarray.typeOf .long) ∈ lwG := lwT_in (i := 2201) (by decide +kernel) (by decide +kernel)
theorem wc_X11_init : Cond.code yX11_init cX11_init 2 none ∈ lwG := lwT_in (i := 34) (by decide +kernel) (by decide +kernel)
theorem wc_X12_init : Cond.code yX12_init cX12_init 1 none ∈ lwG := lwT_in (i := 1620) (by decide +kernel) (by decide +kernel)
theorem wi_X11_init : Cond.instanceMethod yX11_init ∈ lwG := lwT_in (i := 33) (by decide +kernel) (by decide +kernel)
theorem wi_X12_init : Cond.instanceMethod yX12_init ∈ lwG := lwT_in (i := 1619) (by decide +kernel) (by decide +kernel)
theorem wm_L_119 : Cond.methodLink RL 119 yX11_init ∈ lwG := lwT_in (i := 32) (by decide +kernel) (by decide +kernel)
theorem wm_L_122 : Cond.methodLink RL 122 yX12_init ∈ lwG := lwT_in (i := 1618) (by decide +kernel) (by decide +kernel)
theorem wnc_L_120 : Cond.classLink RL 120 RX12 ∈ lwG := lwT_in (i := 1616) (by decide +kernel) (by decide +kernel)
theorem wnc_L_8 : Cond.classLink RL 8 RX11 ∈ lwG := lwT_in (i := 30) (by decide +kernel) (by decide +kernel)
theorem wni_X11 : Cond.instantiable RX11 17 ∈ lwG := lwT_in (i := 31) (by decide +kernel) (by decide +kernel)
theorem wni_X12 : Cond.instantiable RX12 24 ∈ lwG := lwT_in (i := 1617) (by decide +kernel) (by decide +kernel)

theorem yki_X11_init : yX11_init.cls ≠ "java/lang/invoke/MethodHandle" ∧ yX11_init.cls ≠ "java/lang/invoke/VarHandle" ∧ (parseMethodDescriptor yX11_init.desc).map (fun d => d.parameters.length) = some 0 := ⟨by decide +kernel, by decide +kernel, by decide +kernel⟩
theorem yki_X12_init : yX12_init.cls ≠ "java/lang/invoke/MethodHandle" ∧ yX12_init.cls ≠ "java/lang/invoke/VarHandle" ∧ (parseMethodDescriptor yX12_init.desc).map (fun d => d.parameters.length) = some 0 := ⟨by decide +kernel, by decide +kernel, by decide +kernel⟩
theorem selX_ok {b : Nat} {s : State} (hts : ∀ w ∈ lw_tbl, w.before #[Value.ref b] s = true) : ∀ w ∈ selX, w.before #[Value.ref b] s = true := by
  intro w hw
  unfold selX at hw
  simp only [List.mem_cons, List.not_mem_nil, or_false] at hw
  rcases hw with rfl | rfl | rfl | rfl | rfl | rfl | rfl | rfl
  · exact sel_priv (y0 := yX7_advance) ⟨by decide +kernel, by decide +kernel⟩ rfl (nt hts (k := 788) (by decide +kernel)) (nt hts (k := 699) (by decide +kernel)) (nt hts (k := 700) (by decide +kernel))
  · exact sel_priv (y0 := yX7_advance) ⟨by decide +kernel, by decide +kernel⟩ rfl (nt hts (k := 787) (by decide +kernel)) (nt hts (k := 699) (by decide +kernel)) (nt hts (k := 700) (by decide +kernel))
  · exact sel_priv (y0 := yX7_advance) ⟨by decide +kernel, by decide +kernel⟩ rfl (nt hts (k := 788) (by decide +kernel)) (nt hts (k := 703) (by decide +kernel)) (nt hts (k := 704) (by decide +kernel))
  · exact sel_priv (y0 := yX7_advance) ⟨by decide +kernel, by decide +kernel⟩ rfl (nt hts (k := 787) (by decide +kernel)) (nt hts (k := 703) (by decide +kernel)) (nt hts (k := 704) (by decide +kernel))
  · exact sel_priv (y0 := yX7_advance) ⟨by decide +kernel, by decide +kernel⟩ rfl (nt hts (k := 788) (by decide +kernel)) (nt hts (k := 714) (by decide +kernel)) (nt hts (k := 715) (by decide +kernel))
  · exact sel_priv (y0 := yX7_advance) ⟨by decide +kernel, by decide +kernel⟩ rfl (nt hts (k := 787) (by decide +kernel)) (nt hts (k := 714) (by decide +kernel)) (nt hts (k := 715) (by decide +kernel))
  · exact sel_priv (y0 := yX7_advance) ⟨by decide +kernel, by decide +kernel⟩ rfl (nt hts (k := 788) (by decide +kernel)) (nt hts (k := 781) (by decide +kernel)) (nt hts (k := 782) (by decide +kernel))
  · exact sel_priv (y0 := yX7_advance) ⟨by decide +kernel, by decide +kernel⟩ rfl (nt hts (k := 787) (by decide +kernel)) (nt hts (k := 781) (by decide +kernel)) (nt hts (k := 782) (by decide +kernel))
def stepF (o a1 a2 a3 a4 a5 : Int32) (σ : Mem) : Option Mem :=
  if o = 0 then S_0 σ a1 a2 a3 a4 a5 else
  if o = 1 then S_1 σ a1 a2 a3 a4 a5 else
  if o = 2 then S_2 σ a1 a2 a3 a4 a5 else
  if o = 3 then S_3 σ a1 a2 a3 a4 a5 else
  if o = 4 then S_4 σ a1 a2 a3 a4 a5 else
  if o = 5 then S_5 σ a1 a2 a3 a4 a5 else
  if o = 6 then S_6 σ a1 a2 a3 a4 a5 else
  if o = 7 then S_7 σ a1 a2 a3 a4 a5 else
  if o = 8 then S_8 σ a1 a2 a3 a4 a5 else
  if o = 9 then S_9 σ a1 a2 a3 a4 a5 else
  if o = 10 then S_10 σ a1 a2 a3 a4 a5 else
  if o = 11 then S_11 σ a1 a2 a3 a4 a5 else
  if o = 12 then S_12 σ a1 a2 a3 a4 a5 else
  if o = 13 then S_13 σ a1 a2 a3 a4 a5 else
  if o = 14 then S_14 σ a1 a2 a3 a4 a5 else
  if o = 15 then S_15 σ a1 a2 a3 a4 a5 else
  if o = 16 then S_16 σ a1 a2 a3 a4 a5 else
  if o = 17 then S_17 σ a1 a2 a3 a4 a5 else
  if o = 18 then S_18 σ a1 a2 a3 a4 a5 else
  if o = 19 then S_19 σ a1 a2 a3 a4 a5 else
  if o = 20 then S_20 σ a1 a2 a3 a4 a5 else
  if o = 21 then S_21 σ a1 a2 a3 a4 a5 else
  if o = 22 then S_22 σ a1 a2 a3 a4 a5 else
  if o = 23 then S_23 σ a1 a2 a3 a4 a5 else
  if o = 24 then S_24 σ a1 a2 a3 a4 a5 else
  if o = 25 then S_25 σ a1 a2 a3 a4 a5 else
  if o = 26 then S_26 σ a1 a2 a3 a4 a5 else
  if o = 27 then S_27 σ a1 a2 a3 a4 a5 else
  if o = 28 then S_28 σ a1 a2 a3 a4 a5 else
  if o = 29 then S_29 σ a1 a2 a3 a4 a5 else
  if o = 30 then S_30 σ a1 a2 a3 a4 a5 else
  if o = 31 then S_31 σ a1 a2 a3 a4 a5 else
  if o = 32 then S_32 σ a1 a2 a3 a4 a5 else
  if o = 33 then S_33 σ a1 a2 a3 a4 a5 else
  if o = 34 then S_34 σ a1 a2 a3 a4 a5 else
  if o = 35 then S_35 σ a1 a2 a3 a4 a5 else
  if o = 36 then S_36 σ a1 a2 a3 a4 a5 else
  if o = 37 then S_37 σ a1 a2 a3 a4 a5 else
  if o = 38 then S_38 σ a1 a2 a3 a4 a5 else
  if o = 39 then S_39 σ a1 a2 a3 a4 a5 else
  if o = 40 then S_40 σ a1 a2 a3 a4 a5 else
  if o = 41 then S_41 σ a1 a2 a3 a4 a5 else
  if o = 42 then S_42 σ a1 a2 a3 a4 a5 else
  if o = 43 then S_43 σ a1 a2 a3 a4 a5 else
  some σ
section LOOP
variable {p : Program} {l : Launch} {e : Env} {R : Room} {s : State} {m : MethodId} {args : Array Value} {below : List Frame} {meth : Method} {c : Code} {Γ : Gm} {D : va_G} {s0 : State} {cells slots : Nat} {Q : State → Prop} {σ : Mem} {pc : Nat}
set_option maxRecDepth 20000 in
set_option maxHeartbeats 4000000 in
theorem T_sw {b L : Nat} {xs : Nat → Int32} {i9 a1 a2 a3 a4 a5 : Int32} (X : Cx p l s m args meth c Γ D s0 RL cL_law_ 7) (hX : va_X b L xs s s.heap) (hbl : b < s.heap.size) (hbA : ¬ Γ.1 ≤ b) (hi0 : vp_in i9 L) (hi1 : vp_in (i9 + 1) L) (hi2 : vp_in (i9 + 2) L) (hi3 : vp_in (i9 + 3) L) (hi4 : vp_in (i9 + 4) L) (hi5 : vp_in (i9 + 5) L) (ha1 : xs (i9 + 1).toNatClampNeg = a1) (ha2 : xs (i9 + 2).toNatClampNeg = a2) (ha3 : xs (i9 + 3).toNatClampNeg = a3) (ha4 : xs (i9 + 4).toNatClampNeg = a4) (ha5 : xs (i9 + 5).toNatClampNeg = a5) (hcc : cells + 8 ≤ room_1.cells) (hss : slots + 48 ≤ room_1.slots) (σ : Mem) {z : Mem} (hF : stepF (xs i9.toNatClampNeg &&& 63) a1 a2 a3 a4 a5 σ = some z) (hK : E p l e room_1 s m args below meth c Γ D (cells + 8) (slots + 48) Q z 2522 [some (.ref b), some (.ref (Γ.1 + 0)), some (.ref (Γ.1 + 333)), some (.ref (Γ.1 + 346)), some (.int i9)] []) : E p l e room_1 s m args below meth c Γ D cells slots Q σ 33 [some (.ref b), some (.ref (Γ.1 + 0)), some (.ref (Γ.1 + 333)), some (.ref (Γ.1 + 346)), some (.int i9), none, none] [] := by
  unfold stepF at hF
  refine e_aload_n X dL_law__33 rfl rfl ?_
  refine e_iload X dL_law__34 rfl ?_
  refine e_sld X hX hbl hbA hi0 rfl dL_law__36 ?_
  refine e_bipush X 63 dL_law__37 rfl ?_
  refine e_iand X dL_law__39 ?_
  by_cases c0 : xs i9.toNatClampNeg &&& 63 = 0
  · rw [if_pos c0] at hF
    refine e_tabIn X 232 0 c0 dL_law__40 (by decide) (by decide) rfl (by decide) ?_
    exact T_0 X hX hbl hbA hi1 hi2 hi3 hi4 hi5 ha1 ha2 ha3 ha4 ha5 hcc hss σ hF hK
  rw [if_neg c0] at hF
  by_cases c1 : xs i9.toNatClampNeg &&& 63 = 1
  · rw [if_pos c1] at hF
    refine e_tabIn X 305 1 c1 dL_law__40 (by decide) (by decide) rfl (by decide) ?_
    exact T_1 X hX hbl hbA hi1 hi2 hi3 hi4 hi5 ha1 ha2 ha3 ha4 ha5 hcc hss σ hF hK
  rw [if_neg c1] at hF
  by_cases c2 : xs i9.toNatClampNeg &&& 63 = 2
  · rw [if_pos c2] at hF
    refine e_tabIn X 330 2 c2 dL_law__40 (by decide) (by decide) rfl (by decide) ?_
    exact T_2 X hX hbl hbA hi1 hi2 hi3 hi4 hi5 ha1 ha2 ha3 ha4 ha5 hcc hss σ hF hK
  rw [if_neg c2] at hF
  by_cases c3 : xs i9.toNatClampNeg &&& 63 = 3
  · rw [if_pos c3] at hF
    refine e_tabIn X 374 3 c3 dL_law__40 (by decide) (by decide) rfl (by decide) ?_
    exact T_3 X hX hbl hbA hi1 hi2 hi3 hi4 hi5 ha1 ha2 ha3 ha4 ha5 hcc hss σ hF hK
  rw [if_neg c3] at hF
  by_cases c4 : xs i9.toNatClampNeg &&& 63 = 4
  · rw [if_pos c4] at hF
    refine e_tabIn X 418 4 c4 dL_law__40 (by decide) (by decide) rfl (by decide) ?_
    exact T_4 X hX hbl hbA hi1 hi2 hi3 hi4 hi5 ha1 ha2 ha3 ha4 ha5 hcc hss σ hF hK
  rw [if_neg c4] at hF
  by_cases c5 : xs i9.toNatClampNeg &&& 63 = 5
  · rw [if_pos c5] at hF
    refine e_tabIn X 431 5 c5 dL_law__40 (by decide) (by decide) rfl (by decide) ?_
    exact T_5 X hX hbl hbA hi1 hi2 hi3 hi4 hi5 ha1 ha2 ha3 ha4 ha5 hcc hss σ hF hK
  rw [if_neg c5] at hF
  by_cases c6 : xs i9.toNatClampNeg &&& 63 = 6
  · rw [if_pos c6] at hF
    refine e_tabIn X 499 6 c6 dL_law__40 (by decide) (by decide) rfl (by decide) ?_
    exact T_6 X hX hbl hbA hi1 hi2 hi3 hi4 hi5 ha1 ha2 ha3 ha4 ha5 hcc hss σ hF hK
  rw [if_neg c6] at hF
  by_cases c7 : xs i9.toNatClampNeg &&& 63 = 7
  · rw [if_pos c7] at hF
    refine e_tabIn X 567 7 c7 dL_law__40 (by decide) (by decide) rfl (by decide) ?_
    exact T_7 X hX hbl hbA hi1 hi2 hi3 hi4 hi5 ha1 ha2 ha3 ha4 ha5 hcc hss σ hF hK
  rw [if_neg c7] at hF
  by_cases c8 : xs i9.toNatClampNeg &&& 63 = 8
  · rw [if_pos c8] at hF
    refine e_tabIn X 635 8 c8 dL_law__40 (by decide) (by decide) rfl (by decide) ?_
    exact T_8 X hX hbl hbA hi1 hi2 hi3 hi4 hi5 ha1 ha2 ha3 ha4 ha5 hcc hss σ hF hK
  rw [if_neg c8] at hF
  by_cases c9 : xs i9.toNatClampNeg &&& 63 = 9
  · rw [if_pos c9] at hF
    refine e_tabIn X 710 9 c9 dL_law__40 (by decide) (by decide) rfl (by decide) ?_
    exact T_9 X hX hbl hbA hi1 hi2 hi3 hi4 hi5 ha1 ha2 ha3 ha4 ha5 hcc hss σ hF hK
  rw [if_neg c9] at hF
  by_cases c10 : xs i9.toNatClampNeg &&& 63 = 10
  · rw [if_pos c10] at hF
    refine e_tabIn X 778 10 c10 dL_law__40 (by decide) (by decide) rfl (by decide) ?_
    exact T_10 X hX hbl hbA hi1 hi2 hi3 hi4 hi5 ha1 ha2 ha3 ha4 ha5 hcc hss σ hF hK
  rw [if_neg c10] at hF
  by_cases c11 : xs i9.toNatClampNeg &&& 63 = 11
  · rw [if_pos c11] at hF
    refine e_tabIn X 846 11 c11 dL_law__40 (by decide) (by decide) rfl (by decide) ?_
    exact T_11 X hX hbl hbA hi1 hi2 hi3 hi4 hi5 ha1 ha2 ha3 ha4 ha5 hcc hss σ hF hK
  rw [if_neg c11] at hF
  by_cases c12 : xs i9.toNatClampNeg &&& 63 = 12
  · rw [if_pos c12] at hF
    refine e_tabIn X 914 12 c12 dL_law__40 (by decide) (by decide) rfl (by decide) ?_
    exact T_12 X hX hbl hbA hi1 hi2 hi3 hi4 hi5 ha1 ha2 ha3 ha4 ha5 hcc hss σ hF hK
  rw [if_neg c12] at hF
  by_cases c13 : xs i9.toNatClampNeg &&& 63 = 13
  · rw [if_pos c13] at hF
    refine e_tabIn X 982 13 c13 dL_law__40 (by decide) (by decide) rfl (by decide) ?_
    exact T_13 X hX hbl hbA hi1 hi2 hi3 hi4 hi5 ha1 ha2 ha3 ha4 ha5 hcc hss σ hF hK
  rw [if_neg c13] at hF
  by_cases c14 : xs i9.toNatClampNeg &&& 63 = 14
  · rw [if_pos c14] at hF
    refine e_tabIn X 1038 14 c14 dL_law__40 (by decide) (by decide) rfl (by decide) ?_
    exact T_14 X hX hbl hbA hi1 hi2 hi3 hi4 hi5 ha1 ha2 ha3 ha4 ha5 hcc hss σ hF hK
  rw [if_neg c14] at hF
  by_cases c15 : xs i9.toNatClampNeg &&& 63 = 15
  · rw [if_pos c15] at hF
    refine e_tabIn X 1094 15 c15 dL_law__40 (by decide) (by decide) rfl (by decide) ?_
    exact T_15 X hX hbl hbA hi1 hi2 hi3 hi4 hi5 ha1 ha2 ha3 ha4 ha5 hcc hss σ hF hK
  rw [if_neg c15] at hF
  by_cases c16 : xs i9.toNatClampNeg &&& 63 = 16
  · rw [if_pos c16] at hF
    refine e_tabIn X 1162 16 c16 dL_law__40 (by decide) (by decide) rfl (by decide) ?_
    exact T_16 X hX hbl hbA hi1 hi2 hi3 hi4 hi5 ha1 ha2 ha3 ha4 ha5 hcc hss σ hF hK
  rw [if_neg c16] at hF
  by_cases c17 : xs i9.toNatClampNeg &&& 63 = 17
  · rw [if_pos c17] at hF
    refine e_tabIn X 1218 17 c17 dL_law__40 (by decide) (by decide) rfl (by decide) ?_
    exact T_17 X hX hbl hbA hi1 hi2 hi3 hi4 hi5 ha1 ha2 ha3 ha4 ha5 hcc hss σ hF hK
  rw [if_neg c17] at hF
  by_cases c18 : xs i9.toNatClampNeg &&& 63 = 18
  · rw [if_pos c18] at hF
    refine e_tabIn X 1286 18 c18 dL_law__40 (by decide) (by decide) rfl (by decide) ?_
    exact T_18 X hX hbl hbA hi1 hi2 hi3 hi4 hi5 ha1 ha2 ha3 ha4 ha5 hcc hss σ hF hK
  rw [if_neg c18] at hF
  by_cases c19 : xs i9.toNatClampNeg &&& 63 = 19
  · rw [if_pos c19] at hF
    refine e_tabIn X 1366 19 c19 dL_law__40 (by decide) (by decide) rfl (by decide) ?_
    exact T_19 X hX hbl hbA hi1 hi2 hi3 hi4 hi5 ha1 ha2 ha3 ha4 ha5 hcc hss σ hF hK
  rw [if_neg c19] at hF
  by_cases c20 : xs i9.toNatClampNeg &&& 63 = 20
  · rw [if_pos c20] at hF
    refine e_tabIn X 1434 20 c20 dL_law__40 (by decide) (by decide) rfl (by decide) ?_
    exact T_20 X hX hbl hbA hi1 hi2 hi3 hi4 hi5 ha1 ha2 ha3 ha4 ha5 hcc hss σ hF hK
  rw [if_neg c20] at hF
  by_cases c21 : xs i9.toNatClampNeg &&& 63 = 21
  · rw [if_pos c21] at hF
    refine e_tabIn X 1490 21 c21 dL_law__40 (by decide) (by decide) rfl (by decide) ?_
    exact T_21 X hX hbl hbA hi1 hi2 hi3 hi4 hi5 ha1 ha2 ha3 ha4 ha5 hcc hss σ hF hK
  rw [if_neg c21] at hF
  by_cases c22 : xs i9.toNatClampNeg &&& 63 = 22
  · rw [if_pos c22] at hF
    refine e_tabIn X 1503 22 c22 dL_law__40 (by decide) (by decide) rfl (by decide) ?_
    exact T_22 X hX hbl hbA hi1 hi2 hi3 hi4 hi5 ha1 ha2 ha3 ha4 ha5 hcc hss σ hF hK
  rw [if_neg c22] at hF
  by_cases c23 : xs i9.toNatClampNeg &&& 63 = 23
  · rw [if_pos c23] at hF
    refine e_tabIn X 1559 23 c23 dL_law__40 (by decide) (by decide) rfl (by decide) ?_
    exact T_23 X hX hbl hbA hi1 hi2 hi3 hi4 hi5 ha1 ha2 ha3 ha4 ha5 hcc hss σ hF hK
  rw [if_neg c23] at hF
  by_cases c24 : xs i9.toNatClampNeg &&& 63 = 24
  · rw [if_pos c24] at hF
    refine e_tabIn X 1615 24 c24 dL_law__40 (by decide) (by decide) rfl (by decide) ?_
    exact T_24 X hX hbl hbA hi1 hi2 hi3 hi4 hi5 ha1 ha2 ha3 ha4 ha5 hcc hss σ hF hK
  rw [if_neg c24] at hF
  by_cases c25 : xs i9.toNatClampNeg &&& 63 = 25
  · rw [if_pos c25] at hF
    refine e_tabIn X 1671 25 c25 dL_law__40 (by decide) (by decide) rfl (by decide) ?_
    exact T_25 X hX hbl hbA hi1 hi2 hi3 hi4 hi5 ha1 ha2 ha3 ha4 ha5 hcc hss σ hF hK
  rw [if_neg c25] at hF
  by_cases c26 : xs i9.toNatClampNeg &&& 63 = 26
  · rw [if_pos c26] at hF
    refine e_tabIn X 1684 26 c26 dL_law__40 (by decide) (by decide) rfl (by decide) ?_
    exact T_26 X hX hbl hbA hi1 hi2 hi3 hi4 hi5 ha1 ha2 ha3 ha4 ha5 hcc hss σ hF hK
  rw [if_neg c26] at hF
  by_cases c27 : xs i9.toNatClampNeg &&& 63 = 27
  · rw [if_pos c27] at hF
    refine e_tabIn X 1740 27 c27 dL_law__40 (by decide) (by decide) rfl (by decide) ?_
    exact T_27 X hX hbl hbA hi1 hi2 hi3 hi4 hi5 ha1 ha2 ha3 ha4 ha5 hcc hss σ hF hK
  rw [if_neg c27] at hF
  by_cases c28 : xs i9.toNatClampNeg &&& 63 = 28
  · rw [if_pos c28] at hF
    refine e_tabIn X 1820 28 c28 dL_law__40 (by decide) (by decide) rfl (by decide) ?_
    exact T_28 X hX hbl hbA hi1 hi2 hi3 hi4 hi5 ha1 ha2 ha3 ha4 ha5 hcc hss σ hF hK
  rw [if_neg c28] at hF
  by_cases c29 : xs i9.toNatClampNeg &&& 63 = 29
  · rw [if_pos c29] at hF
    refine e_tabIn X 1876 29 c29 dL_law__40 (by decide) (by decide) rfl (by decide) ?_
    exact T_29 X hX hbl hbA hi1 hi2 hi3 hi4 hi5 ha1 ha2 ha3 ha4 ha5 hcc hss σ hF hK
  rw [if_neg c29] at hF
  by_cases c30 : xs i9.toNatClampNeg &&& 63 = 30
  · rw [if_pos c30] at hF
    refine e_tabIn X 1917 30 c30 dL_law__40 (by decide) (by decide) rfl (by decide) ?_
    exact T_30 X hX hbl hbA hi1 hi2 hi3 hi4 hi5 ha1 ha2 ha3 ha4 ha5 hcc hss σ hF hK
  rw [if_neg c30] at hF
  by_cases c31 : xs i9.toNatClampNeg &&& 63 = 31
  · rw [if_pos c31] at hF
    refine e_tabIn X 1973 31 c31 dL_law__40 (by decide) (by decide) rfl (by decide) ?_
    exact T_31 X hX hbl hbA hi1 hi2 hi3 hi4 hi5 ha1 ha2 ha3 ha4 ha5 hcc hss σ hF hK
  rw [if_neg c31] at hF
  by_cases c32 : xs i9.toNatClampNeg &&& 63 = 32
  · rw [if_pos c32] at hF
    refine e_tabIn X 1986 32 c32 dL_law__40 (by decide) (by decide) rfl (by decide) ?_
    exact T_32 X hX hbl hbA hi1 hi2 hi3 hi4 hi5 ha1 ha2 ha3 ha4 ha5 hcc hss σ hF hK
  rw [if_neg c32] at hF
  by_cases c33 : xs i9.toNatClampNeg &&& 63 = 33
  · rw [if_pos c33] at hF
    refine e_tabIn X 2058 33 c33 dL_law__40 (by decide) (by decide) rfl (by decide) ?_
    exact T_33 X hX hbl hbA hi1 hi2 hi3 hi4 hi5 ha1 ha2 ha3 ha4 ha5 hcc hss σ hF hK
  rw [if_neg c33] at hF
  by_cases c34 : xs i9.toNatClampNeg &&& 63 = 34
  · rw [if_pos c34] at hF
    refine e_tabIn X 2102 34 c34 dL_law__40 (by decide) (by decide) rfl (by decide) ?_
    exact T_34 X hX hbl hbA hi1 hi2 hi3 hi4 hi5 ha1 ha2 ha3 ha4 ha5 hcc hss σ hF hK
  rw [if_neg c34] at hF
  by_cases c35 : xs i9.toNatClampNeg &&& 63 = 35
  · rw [if_pos c35] at hF
    refine e_tabIn X 2115 35 c35 dL_law__40 (by decide) (by decide) rfl (by decide) ?_
    exact T_35 X hX hbl hbA hi1 hi2 hi3 hi4 hi5 ha1 ha2 ha3 ha4 ha5 hcc hss σ hF hK
  rw [if_neg c35] at hF
  by_cases c36 : xs i9.toNatClampNeg &&& 63 = 36
  · rw [if_pos c36] at hF
    refine e_tabIn X 2199 36 c36 dL_law__40 (by decide) (by decide) rfl (by decide) ?_
    exact T_36 X hX hbl hbA hi1 hi2 hi3 hi4 hi5 ha1 ha2 ha3 ha4 ha5 hcc hss σ hF hK
  rw [if_neg c36] at hF
  by_cases c37 : xs i9.toNatClampNeg &&& 63 = 37
  · rw [if_pos c37] at hF
    refine e_tabIn X 2283 37 c37 dL_law__40 (by decide) (by decide) rfl (by decide) ?_
    exact T_37 X hX hbl hbA hi1 hi2 hi3 hi4 hi5 ha1 ha2 ha3 ha4 ha5 hcc hss σ hF hK
  rw [if_neg c37] at hF
  by_cases c38 : xs i9.toNatClampNeg &&& 63 = 38
  · rw [if_pos c38] at hF
    refine e_tabIn X 2367 38 c38 dL_law__40 (by decide) (by decide) rfl (by decide) ?_
    exact T_38 X hX hbl hbA hi1 hi2 hi3 hi4 hi5 ha1 ha2 ha3 ha4 ha5 hcc hss σ hF hK
  rw [if_neg c38] at hF
  by_cases c39 : xs i9.toNatClampNeg &&& 63 = 39
  · rw [if_pos c39] at hF
    refine e_tabIn X 2435 39 c39 dL_law__40 (by decide) (by decide) rfl (by decide) ?_
    exact T_39 X hX hbl hbA hi1 hi2 hi3 hi4 hi5 ha1 ha2 ha3 ha4 ha5 hcc hss σ hF hK
  rw [if_neg c39] at hF
  by_cases c40 : xs i9.toNatClampNeg &&& 63 = 40
  · rw [if_pos c40] at hF
    refine e_tabIn X 2460 40 c40 dL_law__40 (by decide) (by decide) rfl (by decide) ?_
    exact T_40 X hX hbl hbA hi1 hi2 hi3 hi4 hi5 ha1 ha2 ha3 ha4 ha5 hcc hss σ hF hK
  rw [if_neg c40] at hF
  by_cases c41 : xs i9.toNatClampNeg &&& 63 = 41
  · rw [if_pos c41] at hF
    refine e_tabIn X 2473 41 c41 dL_law__40 (by decide) (by decide) rfl (by decide) ?_
    exact T_41 X hX hbl hbA hi1 hi2 hi3 hi4 hi5 ha1 ha2 ha3 ha4 ha5 hcc hss σ hF hK
  rw [if_neg c41] at hF
  by_cases c42 : xs i9.toNatClampNeg &&& 63 = 42
  · rw [if_pos c42] at hF
    refine e_tabIn X 2484 42 c42 dL_law__40 (by decide) (by decide) rfl (by decide) ?_
    exact T_42 X hX hbl hbA hi1 hi2 hi3 hi4 hi5 ha1 ha2 ha3 ha4 ha5 hcc hss σ hF hK
  rw [if_neg c42] at hF
  by_cases c43 : xs i9.toNatClampNeg &&& 63 = 43
  · rw [if_pos c43] at hF
    refine e_tabIn X 2497 43 c43 dL_law__40 (by decide) (by decide) rfl (by decide) ?_
    exact T_43 X hX hbl hbA hi1 hi2 hi3 hi4 hi5 ha1 ha2 ha3 ha4 ha5 hcc hss σ hF hK
  rw [if_neg c43] at hF
  refine e_tabOut X 2522 (by have n0 : ¬ (xs i9.toNatClampNeg &&& 63 : Int32).toInt = 0 := lv_neT c0 rfl; have n1 : ¬ (xs i9.toNatClampNeg &&& 63 : Int32).toInt = 1 := lv_neT c1 rfl; have n2 : ¬ (xs i9.toNatClampNeg &&& 63 : Int32).toInt = 2 := lv_neT c2 rfl; have n3 : ¬ (xs i9.toNatClampNeg &&& 63 : Int32).toInt = 3 := lv_neT c3 rfl; have n4 : ¬ (xs i9.toNatClampNeg &&& 63 : Int32).toInt = 4 := lv_neT c4 rfl; have n5 : ¬ (xs i9.toNatClampNeg &&& 63 : Int32).toInt = 5 := lv_neT c5 rfl; have n6 : ¬ (xs i9.toNatClampNeg &&& 63 : Int32).toInt = 6 := lv_neT c6 rfl; have n7 : ¬ (xs i9.toNatClampNeg &&& 63 : Int32).toInt = 7 := lv_neT c7 rfl; have n8 : ¬ (xs i9.toNatClampNeg &&& 63 : Int32).toInt = 8 := lv_neT c8 rfl; have n9 : ¬ (xs i9.toNatClampNeg &&& 63 : Int32).toInt = 9 := lv_neT c9 rfl; have n10 : ¬ (xs i9.toNatClampNeg &&& 63 : Int32).toInt = 10 := lv_neT c10 rfl; have n11 : ¬ (xs i9.toNatClampNeg &&& 63 : Int32).toInt = 11 := lv_neT c11 rfl; have n12 : ¬ (xs i9.toNatClampNeg &&& 63 : Int32).toInt = 12 := lv_neT c12 rfl; have n13 : ¬ (xs i9.toNatClampNeg &&& 63 : Int32).toInt = 13 := lv_neT c13 rfl; have n14 : ¬ (xs i9.toNatClampNeg &&& 63 : Int32).toInt = 14 := lv_neT c14 rfl; have n15 : ¬ (xs i9.toNatClampNeg &&& 63 : Int32).toInt = 15 := lv_neT c15 rfl; have n16 : ¬ (xs i9.toNatClampNeg &&& 63 : Int32).toInt = 16 := lv_neT c16 rfl; have n17 : ¬ (xs i9.toNatClampNeg &&& 63 : Int32).toInt = 17 := lv_neT c17 rfl; have n18 : ¬ (xs i9.toNatClampNeg &&& 63 : Int32).toInt = 18 := lv_neT c18 rfl; have n19 : ¬ (xs i9.toNatClampNeg &&& 63 : Int32).toInt = 19 := lv_neT c19 rfl; have n20 : ¬ (xs i9.toNatClampNeg &&& 63 : Int32).toInt = 20 := lv_neT c20 rfl; have n21 : ¬ (xs i9.toNatClampNeg &&& 63 : Int32).toInt = 21 := lv_neT c21 rfl; have n22 : ¬ (xs i9.toNatClampNeg &&& 63 : Int32).toInt = 22 := lv_neT c22 rfl; have n23 : ¬ (xs i9.toNatClampNeg &&& 63 : Int32).toInt = 23 := lv_neT c23 rfl; have n24 : ¬ (xs i9.toNatClampNeg &&& 63 : Int32).toInt = 24 := lv_neT c24 rfl; have n25 : ¬ (xs i9.toNatClampNeg &&& 63 : Int32).toInt = 25 := lv_neT c25 rfl; have n26 : ¬ (xs i9.toNatClampNeg &&& 63 : Int32).toInt = 26 := lv_neT c26 rfl; have n27 : ¬ (xs i9.toNatClampNeg &&& 63 : Int32).toInt = 27 := lv_neT c27 rfl; have n28 : ¬ (xs i9.toNatClampNeg &&& 63 : Int32).toInt = 28 := lv_neT c28 rfl; have n29 : ¬ (xs i9.toNatClampNeg &&& 63 : Int32).toInt = 29 := lv_neT c29 rfl; have n30 : ¬ (xs i9.toNatClampNeg &&& 63 : Int32).toInt = 30 := lv_neT c30 rfl; have n31 : ¬ (xs i9.toNatClampNeg &&& 63 : Int32).toInt = 31 := lv_neT c31 rfl; have n32 : ¬ (xs i9.toNatClampNeg &&& 63 : Int32).toInt = 32 := lv_neT c32 rfl; have n33 : ¬ (xs i9.toNatClampNeg &&& 63 : Int32).toInt = 33 := lv_neT c33 rfl; have n34 : ¬ (xs i9.toNatClampNeg &&& 63 : Int32).toInt = 34 := lv_neT c34 rfl; have n35 : ¬ (xs i9.toNatClampNeg &&& 63 : Int32).toInt = 35 := lv_neT c35 rfl; have n36 : ¬ (xs i9.toNatClampNeg &&& 63 : Int32).toInt = 36 := lv_neT c36 rfl; have n37 : ¬ (xs i9.toNatClampNeg &&& 63 : Int32).toInt = 37 := lv_neT c37 rfl; have n38 : ¬ (xs i9.toNatClampNeg &&& 63 : Int32).toInt = 38 := lv_neT c38 rfl; have n39 : ¬ (xs i9.toNatClampNeg &&& 63 : Int32).toInt = 39 := lv_neT c39 rfl; have n40 : ¬ (xs i9.toNatClampNeg &&& 63 : Int32).toInt = 40 := lv_neT c40 rfl; have n41 : ¬ (xs i9.toNatClampNeg &&& 63 : Int32).toInt = 41 := lv_neT c41 rfl; have n42 : ¬ (xs i9.toNatClampNeg &&& 63 : Int32).toInt = 42 := lv_neT c42 rfl; have n43 : ¬ (xs i9.toNatClampNeg &&& 63 : Int32).toInt = 43 := lv_neT c43 rfl; omega) dL_law__40 (by decide) ?_
  cases hF
  refine e_widen (c2 := cells + 8) (s2 := slots + 48) (by omega) (by omega) ?_
  exact e_le hK (And.intro rfl (And.intro rfl (And.intro rfl (And.intro rfl (And.intro rfl trivial)))))

theorem e_end {b9 : Nat} (X : Cx p l s m #[Value.ref b9] meth c Γ D s0 RL cL_law_ 7) (hr : meth.sig.returnType = ret) (hlk : meth.locks = false) (hΓ : s.heap.size ≤ Γ.1) (hc : cells ≤ 601024) (hs : slots ≤ 7293034) {lv : List (Option Value)} : E p l e room_1 s m #[Value.ref b9] below meth c Γ D cells slots (lw_Z below #[Value.ref b9] s) σ 2528 lv [] := by
  intro H locs ls hP hS h
  refine lv_iconst (v := 1) X.1 X.2.1 dL_law__2528 (by decide) ?_
  refine va_forget (fun q hq => Nat.le_trans hΓ (hS.2.2 q hq)) ?_
  refine W.widen hc hs ?_
  exact lw_ret X.1 X.2.1 hr hlk dL_law__2529
theorem i6_gt {k L : Nat} (hL : L ≤ 3072) (hk : k ≤ 4000) : (Int32.ofNat L - 6 < nI k) ↔ L < k + 6 := by
  have h1 : (Int32.ofNat L - 6 : Int32).toInt = (L : Int) - 6 := pk_sub_toInt (a := L) (b := 6) (by omega) (by decide)
  rw [Int32.lt_iff_toInt_lt, h1, nI_toInt (by omega)]
  omega
/-- the law's loop, over any invariant -/
theorem L_law {b9 L : Nat} {xs : Nat → Int32} (hL : L ≤ 3072) (X : Cx p l s m #[Value.ref b9] meth c Γ D s0 RL cL_law_ 7) (hX : va_X b9 L xs s s.heap) (hbl : b9 < s.heap.size) (hbA : ¬ Γ.1 ≤ b9) (hr : meth.sig.returnType = ret) (hlk : meth.locks = false) (hΓ : s.heap.size ≤ Γ.1)
    (Inv : Nat → Mem → Prop) (hs : ∀ k σ, 6 * k + 6 ≤ L → Inv k σ → ∃ σ', stepF (xs (6 * k) &&& 63) (xs (6 * k + 1)) (xs (6 * k + 2)) (xs (6 * k + 3)) (xs (6 * k + 4)) (xs (6 * k + 5)) σ = some σ' ∧ Inv (k + 1) σ') :
    ∀ (d k : Nat) (σ : Mem), 6 * k + d = 3078 → 6 * k ≤ L + 6 → Inv k σ → E p l e room_1 s m #[Value.ref b9] below meth c Γ D (347 + 8 * k) (24000 + 48 * k) (lw_Z below #[Value.ref b9] s) σ 23 [some (.ref b9), some (.ref (Γ.1 + 0)), some (.ref (Γ.1 + 333)), some (.ref (Γ.1 + 346)), some (.int (nI (6 * k))), none, none] [] := by
  intro d
  induction d using Nat.strongRecOn with
  | _ d ih =>
    intro k σ hd hk hI
    refine e_iload X dL_law__23 rfl ?_
    refine e_aload_n X dL_law__25 rfl rfl ?_
    refine e_slen X hX hbl hbA dL_law__26 ?_
    refine e_bipush X 6 dL_law__27 rfl ?_
    refine e_isub X dL_law__29 ?_
    refine e_icmp_gt X 2528 dL_law__30 (by decide) (fun h1 => ?_) (fun h1 => ?_)
    · exact e_end X hr hlk hΓ (by omega) (by omega)
    · rw [i6_gt hL (by omega)] at h1
      have hk6 : 6 * k + 6 ≤ L := by omega
      obtain ⟨σ', hF, hI'⟩ := hs k σ hk6 hI
      have hin : ∀ j, j < 6 → vp_in (nI (6 * k + j)) L := fun j hj => vp_in_nI (by omega) (by omega)
      have hcl : ∀ j, j < 6 → (nI (6 * k + j)).toNatClampNeg = 6 * k + j := fun j hj => nI_clamp (by omega)
      have ev : ∀ j : Nat, j < 6 → nI (6 * k) + nI j = nI (6 * k + j) := fun j _ => nI_add (6 * k) j
      refine T_sw (i9 := nI (6 * k)) X hX hbl hbA (hin 0 (by decide)) (by rw [show nI (6 * k) + 1 = nI (6 * k + 1) from nI_add _ 1]; exact hin 1 (by decide)) (by rw [show nI (6 * k) + 2 = nI (6 * k + 2) from nI_add _ 2]; exact hin 2 (by decide)) (by rw [show nI (6 * k) + 3 = nI (6 * k + 3) from nI_add _ 3]; exact hin 3 (by decide)) (by rw [show nI (6 * k) + 4 = nI (6 * k + 4) from nI_add _ 4]; exact hin 4 (by decide)) (by rw [show nI (6 * k) + 5 = nI (6 * k + 5) from nI_add _ 5]; exact hin 5 (by decide)) rfl rfl rfl rfl rfl (by dsimp only [room_1]; omega) (by dsimp only [room_1]; omega) σ (z := σ') ?_ ?_
      · rw [show nI (6 * k) + 1 = nI (6 * k + 1) from nI_add _ 1, show nI (6 * k) + 2 = nI (6 * k + 2) from nI_add _ 2, show nI (6 * k) + 3 = nI (6 * k + 3) from nI_add _ 3, show nI (6 * k) + 4 = nI (6 * k + 4) from nI_add _ 4, show nI (6 * k) + 5 = nI (6 * k + 5) from nI_add _ 5, hcl 1 (by decide), hcl 2 (by decide), hcl 3 (by decide), hcl 4 (by decide), hcl 5 (by decide), show (nI (6 * k)).toNatClampNeg = 6 * k from hcl 0 (by decide)]
        exact hF
      · refine e_iinc X 6 dL_law__2522 rfl rfl (by decide) ?_
        rw [show nI (6 * k) + 6 = nI (6 * (k + 1)) from (nI_add (6 * k) 6).trans (by rw [show 6 * k + 6 = 6 * (k + 1) by omega])]
        refine e_goto X 23 dL_law__2525 (by decide) ?_
        have h9 := ih (d - 6) (by omega) (k + 1) σ' (by omega) (by omega) hI'
        rw [show 347 + 8 * (k + 1) = 347 + 8 * k + 8 by omega, show 24000 + 48 * (k + 1) = 24000 + 48 * k + 48 by omega] at h9
        exact e_le h9 (And.intro rfl (And.intro rfl (And.intro rfl (And.intro rfl (And.intro rfl trivial)))))
theorem n_istore {own : String} {cc : ByteArray} {nL : Nat} (X : Cx p l s m args meth c Γ D s0 own cc nL) {n : Nat} {g : Nat → va_E} {lv : List (Option Value)} {st : List Value} {i : Nat} {x : Int32} (hd : decode cc pc = .ok (.istore i, 2)) (hn : i < nL) (kk : N p l e R s m args below meth c Γ D cells slots Q n g (pc + 2) (lv.set i (some (.int x))) st) : N p l e R s m args below meth c Γ D cells slots Q n g pc lv (.int x :: st) :=
  fun H locs ls hP hS h => lv_istore X.1 X.2.1 hd h.1 (by rw [X.2.2.1]; exact hn) rfl (fun ls' h' => kk H locs ls' hP hS (lvs_set h.2 rfl h'))
end LOOP
set_option maxRecDepth 20000 in
set_option maxHeartbeats 4000000 in
/-- from the law's entry: any invariant that holds of the memory as made, and that a call keeps -/
theorem law_from {p : Program} {e : Env} {s : State} {m : MethodId} {below : List Frame} {meth : Method} {c : Code} (l : Launch) (hflags : l.flags = flags0) {b L : Nat} {xs : Nat → Int32} (hL : L ≤ 3072) (C0 : lw_At p s m meth c b L xs)
    (Inv : Nat → Mem → Prop) (h0 : Inv 0 sI) (hs : ∀ k σ, 6 * k + 6 ≤ L → Inv k σ → ∃ σ', stepF (xs (6 * k) &&& 63) (xs (6 * k + 1)) (xs (6 * k + 2)) (xs (6 * k + 3)) (xs (6 * k + 4)) (xs (6 * k + 5)) σ = some σ' ∧ Inv (k + 1) σ') :
    W p l e room_1 s m #[Value.ref b] below meth c s.heap [] 0 0 (lw_Z below #[Value.ref b] s) (entryFrame m ([Value.ref b] : List Value).toArray 7) := by
  obtain ⟨hx, hb, hr, hml, hown, hts, hX, hbl, hlocks, hgv⟩ := id C0
  obtain ⟨Γ, D, hΓ, hG, hAO⟩ := whole_gok l hflags hts hgv
  have hwG : ∀ w ∈ lwG, w.before #[Value.ref b] s = true := by
    intro w hw
    have h1 := List.mem_filter.mp hw
    rcases List.mem_append.mp h1.1 with h2 | h2
    · exact selX_ok hts w h2
    · exact hts w h2
  have X : Cx p l s m #[Value.ref b] meth c Γ D s RL cL_law_ 7 := ⟨hx, hb, hml, hown, hwG, hG.1, State.WarmedH.refl s, ⟨by rw [hΓ]; exact Nat.le_refl _, fun _ _ => rfl⟩, hlocks, hG⟩
  have hbA : ¬ Γ.1 ≤ b := by rw [hΓ]; exact Nat.not_le.mpr hbl
  have hl := lv_entry ([.ref b]) (n := 7) (Nat.le_of_ble_eq_true rfl)
  rw [lg_entry_eq]
  generalize (lg_sl ([.ref b]) ++ List.replicate (7 - (lg_sl ([.ref b])).length) Slot.unset).toArray = ls at hl ⊢
  have hl : lv_has ls 7 [(0, .ref b)] := hl
  have hlv : lvs ls c.maxLocals [some (.ref b), none, none, none, none, none, none] := by
    rw [hml]
    refine ⟨hl, fun i v hi => ?_⟩
    match i, hi with
    | 0, h => cases h; rfl
    | 1, h => cases h
    | 2, h => cases h
    | 3, h => cases h
    | 4, h => cases h
    | 5, h => cases h
    | 6, h => cases h
    | i + 7, h => simp at h
  -- the class's object
  have hKn := X.2.2.2.2.2.1.1 10 _ (rfl : vCl[10]? = some (RX11, TX11, 17))
  refine W.newcK X.1 X.2.1 X.2.2.2.1 (hwG _ wnc_L_8) (hwG _ wni_X11) (hwG _ wz_X11) rfl dL_law__0 (Nat.le_of_ble_eq_true rfl) (Nat.le_of_ble_eq_true rfl) hKn.2.1 hΓ.symm (fun H1 kC hkC e1 z1 o1 => ?_)
  have hN : N p l e room_1 s m #[Value.ref b] below meth c Γ D 1 17 (lw_Z below #[Value.ref b] s) 1 (shp (ini Γ) 0 (.inr (10, [.null, .null, .null, .null, .null, .null, .null, .null, .null, .null, .null, .null, .int 0, .int 0, .int 0, .int 0, .int 0])) (ini Γ)) 3 [some (.ref b), none, none, none, none, none, none] [.ref (Γ.1 + 0)] := by
    refine n_dup X dL_law__3 rfl ?_
    refine n_call X (n' := 333) [] [.ref (Γ.1 + 0)] (K_W hG hAO (ini Γ)) (by omega) (by omega) wc_X11_init wz_X11 wm_L_119 wi_X11_init rfl yki_X11_init rfl ⟨Nat.le_of_ble_eq_true rfl, Nat.le_of_ble_eq_true rfl⟩ ⟨Nat.le_of_ble_eq_true rfl, Nat.le_of_ble_eq_true rfl⟩ (Nat.le_of_ble_eq_true rfl) dL_law__4 rfl ?_
    refine n_congr (g := ini Γ) (fun j _ => by unfold shI; rw [if_neg (Nat.not_lt_zero j)]) ?_
    refine n_astore_n X dL_law__7 rfl (by decide) ?_
    refine n_new X (C := RX12) (T := TX12) (fs := [.int 0, .null, .null, .int 0, .null, .null, .int 0, .null, .int 0, .int 0, .int 0, .int 0, .int 0, .int 0, .null, .int 0, .int 0, .null, .null, .null, .null, .int 0, .null, .null]) (by omega) (by omega) uin_X12 tyX12 tyX12_ok wnc_L_120 wni_X12 wz_X12 (rfl : vCl[11]? = some (RX12, TX12, 24)) (fun j hj => by match j, hj with | 0, _ => exact rfl | 1, _ => exact rfl | 2, _ => exact rfl | 3, _ => exact rfl | 4, _ => exact rfl | 5, _ => exact rfl | 6, _ => exact rfl | 7, _ => exact rfl | 8, _ => exact rfl | 9, _ => exact rfl | 10, _ => exact rfl | 11, _ => exact rfl | 12, _ => exact rfl | 13, _ => exact rfl | 14, _ => exact rfl | 15, _ => exact rfl | 16, _ => exact rfl | 17, _ => exact rfl | 18, _ => exact rfl | 19, _ => exact rfl | 20, _ => exact rfl | 21, _ => exact rfl | 22, _ => exact rfl | 23, _ => exact rfl | j9 + 24, h9 => exact absurd h9 (by omega)) (Nat.le_of_ble_eq_true rfl) (Nat.le_of_ble_eq_true rfl) dL_law__8 ?_
    refine n_dup X dL_law__11 rfl ?_
    refine n_call X (n' := 346) [] [.ref (Γ.1 + 333)] (K_M hG (ini Γ)) (by omega) (by omega) wc_X12_init wz_X12 wm_L_122 wi_X12_init rfl yki_X12_init rfl ⟨Nat.le_of_ble_eq_true rfl, Nat.le_of_ble_eq_true rfl⟩ ⟨Nat.le_of_ble_eq_true rfl, Nat.le_of_ble_eq_true rfl⟩ (Nat.le_of_ble_eq_true rfl) dL_law__12 rfl ?_
    refine n_congr (g := ini Γ) (fun j _ => by unfold shI; by_cases h9 : j < 333 <;> simp [h9]) ?_
    refine n_astore_n X dL_law__15 rfl (by decide) ?_
    refine n_iconst X 1 dL_law__16 rfl ?_
    refine n_newa X (atype := .long) (ty := .long) (len := 1) (t0 := 2) (cA := Γ.2.1.2.2.1) (a0 := (1, .inr (.inl (fun _ => ((0 : Int32)).toInt64)))) (by omega) (by omega) war_long rfl rfl (fun C h9 => by cases h9) (by rw [vp_cell_l]; rfl) (by decide) rfl (by decide) (ini_at (rfl : entTbl[346]? = some (15, 1)) (by decide)) (Nat.le_of_ble_eq_true rfl) (Nat.le_of_ble_eq_true rfl) dL_law__17 ?_
    refine n_astore_n X dL_law__19 rfl (by decide) ?_
    refine n_iconst X 0 dL_law__20 rfl ?_
    refine n_istore X dL_law__21 (by decide) ?_
    refine n_widen (c2 := 347) (s2 := 24000) (by omega) (by omega) ?_
    exact L_law hL X hX hbl hbA hr hlocks (by rw [hΓ]; exact Nat.le_refl _) Inv hs 3078 0 sI rfl (by omega) h0
  refine hN H1 [] ls (fun k x hk => ?_) ⟨by omega, fun x h1 h2 => o1 x (by omega), fun q hq => nomatch hq⟩ hlv
  obtain ⟨hk1, rfl⟩ := Wn_some hk
  obtain rfl : k = 0 := by omega
  rw [shp_at]
  exact ⟨_, (rfl : vCl[10]? = some (RX11, TX11, 17)), (u_born tyX11 hwG uin_X11 hKn hkC e1 tyX11_ok).to (fun j hj => by match j, hj with | 0, _ => exact rfl | 1, _ => exact rfl | 2, _ => exact rfl | 3, _ => exact rfl | 4, _ => exact rfl | 5, _ => exact rfl | 6, _ => exact rfl | 7, _ => exact rfl | 8, _ => exact rfl | 9, _ => exact rfl | 10, _ => exact rfl | 11, _ => exact rfl | 12, _ => exact rfl | 13, _ => exact rfl | 14, _ => exact rfl | 15, _ => exact rfl | 16, _ => exact rfl | j9 + 17, h9 => exact absurd h9 (by omega))⟩

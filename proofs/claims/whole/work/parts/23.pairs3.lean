section PART
variable {p : Program} {l : Launch} {e : Env} {R : Room} {s : State} {m : MethodId} {args : Array Value} {below : List Frame} {meth : Method} {c : Code} {Γ : Gm} {D : va_G} {s0 : State} {cells slots : Nat} {Q : State → Prop} {own : String} {cc : ByteArray} {nL : Nat} {σ : Mem} {pc : Nat} {lv : List (Option Value)} {st : List Value} {Pst : Option Value → Mem → Prop}
def F_Prs_mostPairs_54_b (rc : Mem → Nat → Int32 → Int32 → Option (Int32)) (σ : Mem) (t0 : Nat) (v1 : Int32) (v2 : Int32) (v4 : Int32) (v5 : Int32) (v3 : Int32) : Option (Int32) := (if (F_W_contains σ ((v1 &&& v4)) v5) = 0 then some (v3) else obind (rc σ t0 ((v1 &&& (((1 : Int32) <<< ((v5 : Int32) &&& 31)) ^^^ (-1)))) ((v2 + 1))) fun z9 => bindT ((if v3 < (1 + z9) then (1 + z9) else v3)) fun x10 => some (x10))
def F_Prs_mostPairs_g (rc : Mem → Nat → Int32 → Int32 → Option (Int32)) (σ : Mem) (t0 : Nat) (v1 : Int32) (v2 : Int32) : Option (Int32) := (if v2 < (σ t0 8) then (if v2 < 8 then obind (rc σ t0 v1 ((v2 + 1))) fun z3 => (if (F_W_contains σ v1 v2) = 0 then some z3 else bindT (((F_Row_at σ (t0 + 3) 8 v2) ||| (F_Town_askersOf σ t0 v2))) fun x5 => bindT ((v2 + 1)) fun x6 => obind (forSO (fun i s => F_Prs_mostPairs_54_b rc σ t0 v1 v2 x5 i s) (cnt x6 ((σ t0 8))) x6 z3) fun z12 => some z12) else some 0) else some 0)
def F_Prs_mostPairs_d : Nat → Mem → Nat → Int32 → Int32 → Option (Int32)
  | 0 => fun _ _ _ _ => none
  | d + 1 => F_Prs_mostPairs_g (F_Prs_mostPairs_d d)
def F_Prs_mostPairs (σ : Mem) (t0 : Nat) (v1 : Int32) (v2 : Int32) : Option (Int32) := F_Prs_mostPairs_g (F_Prs_mostPairs_d 10) σ t0 v1 v2
set_option maxRecDepth 20000 in
set_option maxHeartbeats 4000000 in
theorem L_Prs_mostPairs_54 {fr lo : Nat} (X : Cx p l s m args meth c Γ D s0 RX5 cX5_mostPairs 6) (hr : meth.sig.returnType = (some .int)) (rc : Mem → Nat → Int32 → Int32 → Option (Int32)) (σ : Mem) (t0 : Nat) (v1 : Int32) (v2 : Int32) (v4 : Int32) (hrc : ∀ (σ : Mem) (t0 : Nat) (v1 : Int32) (v2 : Int32) (gt0 : isTown t0) {out : Int32}, rc σ t0 v1 v2 = some out → CT l Γ D s0 yX5_mostPairs cX5_mostPairs 6 (some .int) fr 0 0 lo σ [.ref (Γ.1 + t0), .int v1, .int v2] (PI (some (.int out)) σ)) (gt0 : isTown t0) : ∀ (n : Nat) (v5 : Int32) (v3 : Int32) {z : Int32}, forSO (fun i s => F_Prs_mostPairs_54_b rc σ t0 v1 v2 v4 i s) n v5 v3 = some z → n = cnt v5 ((σ t0 8)) → (E p l e ({ frames := fr + 2, cells := 0, slots := 0, locals := lo + 44 } : Room) s m args below meth c Γ D 0 0 (MQ below (QcA Γ D Pst) args s 0 0 (frB Γ)) σ 103 [some (.ref (Γ.1 + t0)), some (.int v1), some (.int v2), some (.int z), some (.int v4), none] []) → E p l e ({ frames := fr + 2, cells := 0, slots := 0, locals := lo + 44 } : Room) s m args below meth c Γ D 0 0 (MQ below (QcA Γ D Pst) args s 0 0 (frB Γ)) σ 54 [some (.ref (Γ.1 + t0)), some (.int v1), some (.int v2), some (.int v3), some (.int v4), some (.int v5)] [] := by
  intro n
  induction n with
  | zero =>
    intro v5 v3 z hF hn hK
    refine e_iload X dX5_mostPairs_54 rfl ?_
    refine e_aload_n X dX5_mostPairs_56 rfl rfl ?_
    refine ge_Town_people X gt0 wf_X5_29 dX5_mostPairs_57 ?_
    refine e_icmp_ge X 103 dX5_mostPairs_60 (by decide) (fun c11 => ?_) (fun c11 => ?_)
    · skip
      have hz9 := Option.some.inj hF; change (v3) = z at hz9; subst hz9
      exact e_le hK (And.intro rfl (And.intro rfl (And.intro rfl (And.intro rfl (And.intro rfl (trivial))))))
    · skip
      exact absurd c11 (cnt0 hn)
  | succ n ih =>
    intro v5 v3 z hF hn hK
    obtain ⟨y9, hB, hF⟩ := forSO_step hF
    change F_Prs_mostPairs_54_b rc σ t0 v1 v2 v4 v5 v3 = some y9 at hB
    unfold F_Prs_mostPairs_54_b at hB
    refine e_iload X dX5_mostPairs_54 rfl ?_
    refine e_aload_n X dX5_mostPairs_56 rfl rfl ?_
    refine ge_Town_people X gt0 wf_X5_29 dX5_mostPairs_57 ?_
    refine e_icmp_ge X 103 dX5_mostPairs_60 (by decide) (fun c7 => ?_) (fun c7 => ?_)
    · skip
      exact absurd (cntS hn) c7
    · skip
      refine e_iload_n X dX5_mostPairs_63 rfl rfl ?_
      refine e_iload X dX5_mostPairs_64 rfl ?_
      refine e_iand X dX5_mostPairs_66 ?_
      refine e_iload X dX5_mostPairs_67 rfl ?_
      refine e_callSNi X (r := (F_W_contains σ ((v1 &&& v4)) v5)) (σ1 := σ) (host := RX11) [.int ((v1 &&& v4)), .int v5] [] (C_W_contains (Cx_gok X) σ ((v1 &&& v4)) v5) gb_X11_contains (by decide +kernel) wz_X11 ws_X11_contains yk_X11_contains.2 rfl ⟨by dsimp only; omega, by dsimp only; omega⟩ ⟨Nat.le_of_ble_eq_true rfl, Nat.le_of_ble_eq_true rfl⟩ (Nat.le_of_ble_eq_true rfl) dX5_mostPairs_69 rfl ?_
      refine e_if_eq X 97 dX5_mostPairs_72 (by decide) (fun c8 => ?_) (fun c8 => ?_)
      · skip
        rw [if_pos c8] at hB
        refine e_iinc X 1 dX5_mostPairs_97 rfl rfl (by decide) ?_
        refine e_goto X 54 dX5_mostPairs_100 (by decide) ?_
        have hy9 := Option.some.inj hB; change (v3) = y9 at hy9; subst hy9
        exact e_le (ih _ v3 hF (cntN hn) hK) (And.intro rfl (And.intro rfl (And.intro rfl (And.intro rfl (And.intro rfl (And.intro rfl (trivial)))))))
      · skip
        rw [if_neg c8] at hB
        refine e_iload_n X dX5_mostPairs_75 rfl rfl ?_
        refine e_iconst X 1 dX5_mostPairs_76 rfl ?_
        refine e_aload_n X dX5_mostPairs_77 rfl rfl ?_
        refine e_iload_n X dX5_mostPairs_78 rfl rfl ?_
        refine e_iconst X 1 dX5_mostPairs_79 rfl ?_
        refine e_iload X dX5_mostPairs_80 rfl ?_
        refine e_ishl X dX5_mostPairs_82 ?_
        refine e_iconst X (-1) dX5_mostPairs_83 rfl ?_
        refine e_ixor X dX5_mostPairs_84 ?_
        refine e_iand X dX5_mostPairs_85 ?_
        refine e_iload_n X dX5_mostPairs_86 rfl rfl ?_
        refine e_iconst X 1 dX5_mostPairs_87 rfl ?_
        refine e_iadd X dX5_mostPairs_88 ?_
        obtain ⟨z9, h_z9, hB⟩ := obind_out hB
        refine e_callSi X (r := z9) (σ1 := σ) [.ref (Γ.1 + t0), .int ((v1 &&& (((1 : Int32) <<< ((v5 : Int32) &&& 31)) ^^^ (-1)))), .int ((v2 + 1))] [.int 1, .int v3] (hrc σ t0 ((v1 &&& (((1 : Int32) <<< ((v5 : Int32) &&& 31)) ^^^ (-1)))) ((v2 + 1)) gt0 h_z9) gs_X5_107 yk_X5_mostPairs rfl ⟨by dsimp only; omega, by dsimp only; omega⟩ ⟨Nat.le_of_ble_eq_true rfl, Nat.le_of_ble_eq_true rfl⟩ (Nat.le_of_ble_eq_true rfl) dX5_mostPairs_89 rfl ?_
        refine e_iadd X dX5_mostPairs_92 ?_
        refine e_mmax X wMl_X5_117 wMs_max wMi wMc_max (by dsimp only; omega) (by simp [Value.category] <;> omega) (Nat.le_of_ble_eq_true rfl) (Nat.le_of_ble_eq_true rfl) dX5_mostPairs_93 ?_
        obtain ⟨x10, h_x10, hB⟩ := bindT_out hB
        refine e_istore_n X h_x10 dX5_mostPairs_96 rfl (by decide) ?_
        refine e_iinc X 1 dX5_mostPairs_97 rfl rfl (by decide) ?_
        refine e_goto X 54 dX5_mostPairs_100 (by decide) ?_
        have hy9 := Option.some.inj hB; change (x10) = y9 at hy9; subst hy9
        exact e_le (ih _ x10 hF (cntN hn) hK) (And.intro rfl (And.intro rfl (And.intro rfl (And.intro rfl (And.intro rfl (And.intro rfl (trivial)))))))
set_option maxRecDepth 20000 in
set_option maxHeartbeats 4000000 in
theorem C_Prs_mostPairs_g (hG : Gok l Γ D s0) {fr lo : Nat} (rc : Mem → Nat → Int32 → Int32 → Option (Int32)) (hrc : ∀ (σ : Mem) (t0 : Nat) (v1 : Int32) (v2 : Int32) (gt0 : isTown t0) {out : Int32}, rc σ t0 v1 v2 = some out → CT l Γ D s0 yX5_mostPairs cX5_mostPairs 6 (some .int) fr 0 0 lo σ [.ref (Γ.1 + t0), .int v1, .int v2] (PI (some (.int out)) σ)) (σ : Mem) (t0 : Nat) (v1 : Int32) (v2 : Int32) (gt0 : isTown t0) {out : Int32} (hF : F_Prs_mostPairs_g rc σ t0 v1 v2 = some out) : CT l Γ D s0 yX5_mostPairs cX5_mostPairs 6 (some .int) (fr + 2) 0 0 (lo + 44) σ [.ref (Γ.1 + t0), .int v1, .int v2] (PI (some (.int out)) σ) := by
  unfold F_Prs_mostPairs_g at hF
  refine e_met (own := RX5) hG (by decide +kernel) rfl rfl (Nat.le_of_ble_eq_true rfl) ?_
  intro p e s m args below meth c X hr
  show E p l e _ s m args below meth c Γ D 0 0 _ σ 0 [some (.ref (Γ.1 + t0)), some (.int v1), some (.int v2), none, none, none] []
  refine e_iload_n X dX5_mostPairs_0 rfl rfl ?_
  refine e_aload_n X dX5_mostPairs_1 rfl rfl ?_
  refine ge_Town_people X gt0 wf_X5_29 dX5_mostPairs_2 ?_
  refine e_icmp_ge X 14 dX5_mostPairs_5 (by decide) (fun c1 => ?_) (fun c1 => ?_)
  · skip
    rw [if_neg c1] at hF
    refine e_iconst X 0 dX5_mostPairs_14 rfl ?_
    exact e_iret X hr dX5_mostPairs_15 (Nat.le_of_ble_eq_true rfl) (Nat.le_of_ble_eq_true rfl) (by cases hF; exact ⟨rfl, rfl⟩)
  · skip
    rw [if_pos c1] at hF
    refine e_iload_n X dX5_mostPairs_8 rfl rfl ?_
    refine e_bipush X 8 dX5_mostPairs_9 rfl ?_
    refine e_icmp_lt X 16 dX5_mostPairs_11 (by decide) (fun c2 => ?_) (fun c2 => ?_)
    · skip
      rw [if_pos c2] at hF
      refine e_aload_n X dX5_mostPairs_16 rfl rfl ?_
      refine e_iload_n X dX5_mostPairs_17 rfl rfl ?_
      refine e_iload_n X dX5_mostPairs_18 rfl rfl ?_
      refine e_iconst X 1 dX5_mostPairs_19 rfl ?_
      refine e_iadd X dX5_mostPairs_20 ?_
      obtain ⟨z3, h_z3, hF⟩ := obind_out hF
      refine e_callSi X (r := z3) (σ1 := σ) [.ref (Γ.1 + t0), .int v1, .int ((v2 + 1))] [] (hrc σ t0 v1 ((v2 + 1)) gt0 h_z3) gs_X5_107 yk_X5_mostPairs rfl ⟨by dsimp only; omega, by dsimp only; omega⟩ ⟨Nat.le_of_ble_eq_true rfl, Nat.le_of_ble_eq_true rfl⟩ (Nat.le_of_ble_eq_true rfl) dX5_mostPairs_21 rfl ?_
      refine e_istore_n X rfl dX5_mostPairs_24 rfl (by decide) ?_
      refine e_iload_n X dX5_mostPairs_25 rfl rfl ?_
      refine e_iload_n X dX5_mostPairs_26 rfl rfl ?_
      refine e_callSNi X (r := (F_W_contains σ v1 v2)) (σ1 := σ) (host := RX11) [.int v1, .int v2] [] (C_W_contains (Cx_gok X) σ v1 v2) gb_X11_contains (by decide +kernel) wz_X11 ws_X11_contains yk_X11_contains.2 rfl ⟨by dsimp only; omega, by dsimp only; omega⟩ ⟨Nat.le_of_ble_eq_true rfl, Nat.le_of_ble_eq_true rfl⟩ (Nat.le_of_ble_eq_true rfl) dX5_mostPairs_27 rfl ?_
      refine e_if_eq X 103 dX5_mostPairs_30 (by decide) (fun c4 => ?_) (fun c4 => ?_)
      · skip
        rw [if_pos c4] at hF
        refine e_iload_n X dX5_mostPairs_103 rfl rfl ?_
        exact e_iret X hr dX5_mostPairs_104 (Nat.le_of_ble_eq_true rfl) (Nat.le_of_ble_eq_true rfl) (by cases hF; exact ⟨rfl, rfl⟩)
      · skip
        rw [if_neg c4] at hF
        refine e_aload_n X dX5_mostPairs_33 rfl rfl ?_
        refine ge_Town_asked X gt0 wf_X5_111 dX5_mostPairs_34 ?_
        refine e_iload_n X dX5_mostPairs_37 rfl rfl ?_
        refine e_callVi X (r := (F_Row_at σ (t0 + 3) 8 v2)) (σ1 := σ) [.int v2] [] (C_Row_at (Cx_gok X) σ (t0 + 3) 8 v2 gt0.2.2.1) gv_X5_82 yk_X6_at rfl (ent_lt gt0.2.2.1.1) (ent_at gt0.2.2.1.1 _) (rfl : vCl[6]? = some (RX6, TX6, 1)) ⟨by dsimp only; omega, by dsimp only; omega⟩ ⟨Nat.le_of_ble_eq_true rfl, Nat.le_of_ble_eq_true rfl⟩ (Nat.le_of_ble_eq_true rfl) dX5_mostPairs_38 rfl ?_
        refine e_aload_n X dX5_mostPairs_41 rfl rfl ?_
        refine e_iload_n X dX5_mostPairs_42 rfl rfl ?_
        refine e_callVi X (r := (F_Town_askersOf σ t0 v2)) (σ1 := σ) [.int v2] [.int ((F_Row_at σ (t0 + 3) 8 v2))] (C_Town_askersOf (Cx_gok X) σ t0 v2 gt0) gv_X5_114 yk_X9_askersOf rfl (ent_lt gt0.1) (ent_at gt0.1 _) (rfl : vCl[8]? = some (RX9, TX9, 20)) ⟨by dsimp only; omega, by dsimp only; omega⟩ ⟨Nat.le_of_ble_eq_true rfl, Nat.le_of_ble_eq_true rfl⟩ (Nat.le_of_ble_eq_true rfl) dX5_mostPairs_43 rfl ?_
        refine e_ior X dX5_mostPairs_46 ?_
        obtain ⟨x5, h_x5, hF⟩ := bindT_out hF
        refine e_istore X h_x5 dX5_mostPairs_47 (by decide) ?_
        refine e_iload_n X dX5_mostPairs_49 rfl rfl ?_
        refine e_iconst X 1 dX5_mostPairs_50 rfl ?_
        refine e_iadd X dX5_mostPairs_51 ?_
        obtain ⟨x6, h_x6, hF⟩ := bindT_out hF
        refine e_istore X h_x6 dX5_mostPairs_52 (by decide) ?_
        obtain ⟨z12, h_z12, hF⟩ := obind_out hF
        refine e_le (L_Prs_mostPairs_54 X hr rc σ t0 v1 v2 x5 hrc gt0 _ x6 z3 h_z12 rfl ?_) (And.intro rfl (And.intro rfl (And.intro rfl (And.intro rfl (And.intro rfl (And.intro rfl (trivial)))))))
        refine e_iload_n X dX5_mostPairs_103 rfl rfl ?_
        exact e_iret X hr dX5_mostPairs_104 (Nat.le_of_ble_eq_true rfl) (Nat.le_of_ble_eq_true rfl) (by cases hF; exact ⟨rfl, rfl⟩)
    · skip
      rw [if_neg c2] at hF
      refine e_iconst X 0 dX5_mostPairs_14 rfl ?_
      exact e_iret X hr dX5_mostPairs_15 (Nat.le_of_ble_eq_true rfl) (Nat.le_of_ble_eq_true rfl) (by cases hF; exact ⟨rfl, rfl⟩)
theorem C_Prs_mostPairs_d (hG : Gok l Γ D s0) : ∀ (d : Nat), ∀ (σ : Mem) (t0 : Nat) (v1 : Int32) (v2 : Int32) (gt0 : isTown t0) {out : Int32}, F_Prs_mostPairs_d d σ t0 v1 v2 = some out → CT l Γ D s0 yX5_mostPairs cX5_mostPairs 6 (some .int) (2 * d) 0 0 (44 * d) σ [.ref (Γ.1 + t0), .int v1, .int v2] (PI (some (.int out)) σ)
  | 0 => fun _ _ _ _ _ _ h => by cases h
  | d + 1 => fun σ t0 v1 v2 gt0 _ h => C_Prs_mostPairs_g hG (F_Prs_mostPairs_d d) (C_Prs_mostPairs_d hG d) σ t0 v1 v2 gt0 h
theorem C_Prs_mostPairs (hG : Gok l Γ D s0) (σ : Mem) (t0 : Nat) (v1 : Int32) (v2 : Int32) (gt0 : isTown t0) {out : Int32} (hF : F_Prs_mostPairs σ t0 v1 v2 = some out) : CT l Γ D s0 yX5_mostPairs cX5_mostPairs 6 (some .int) 22 0 0 484 σ [.ref (Γ.1 + t0), .int v1, .int v2] (PI (some (.int out)) σ) := by
  have h9 := C_Prs_mostPairs_g hG (F_Prs_mostPairs_d 10) (C_Prs_mostPairs_d hG 10) σ t0 v1 v2 gt0 hF
  exact h9
end PART

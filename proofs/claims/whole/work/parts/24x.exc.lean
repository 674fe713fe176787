def top (Γ : Gm) (k : Int32) : Option Nat := if k < 0 then none else some (Γ.1 + (129 + 17 * k.toNatClampNeg))
theorem top_neg {Γ : Gm} : va_rf (top Γ (-1)) = .null := by
  unfold top
  rw [if_pos (by decide)]
  rfl
theorem tk_at : ∀ k, k < 12 → isTown (129 + 17 * k) := by
  intro k hk
  match k, hk with
  | 0, _ => exact ⟨rfl, ⟨rfl, rfl⟩, ⟨rfl, rfl⟩, ⟨rfl, rfl⟩, ⟨rfl, rfl⟩, ⟨rfl, rfl⟩, ⟨rfl, rfl⟩, ⟨rfl, rfl⟩, ⟨rfl, rfl⟩⟩
  | 1, _ => exact ⟨rfl, ⟨rfl, rfl⟩, ⟨rfl, rfl⟩, ⟨rfl, rfl⟩, ⟨rfl, rfl⟩, ⟨rfl, rfl⟩, ⟨rfl, rfl⟩, ⟨rfl, rfl⟩, ⟨rfl, rfl⟩⟩
  | 2, _ => exact ⟨rfl, ⟨rfl, rfl⟩, ⟨rfl, rfl⟩, ⟨rfl, rfl⟩, ⟨rfl, rfl⟩, ⟨rfl, rfl⟩, ⟨rfl, rfl⟩, ⟨rfl, rfl⟩, ⟨rfl, rfl⟩⟩
  | 3, _ => exact ⟨rfl, ⟨rfl, rfl⟩, ⟨rfl, rfl⟩, ⟨rfl, rfl⟩, ⟨rfl, rfl⟩, ⟨rfl, rfl⟩, ⟨rfl, rfl⟩, ⟨rfl, rfl⟩, ⟨rfl, rfl⟩⟩
  | 4, _ => exact ⟨rfl, ⟨rfl, rfl⟩, ⟨rfl, rfl⟩, ⟨rfl, rfl⟩, ⟨rfl, rfl⟩, ⟨rfl, rfl⟩, ⟨rfl, rfl⟩, ⟨rfl, rfl⟩, ⟨rfl, rfl⟩⟩
  | 5, _ => exact ⟨rfl, ⟨rfl, rfl⟩, ⟨rfl, rfl⟩, ⟨rfl, rfl⟩, ⟨rfl, rfl⟩, ⟨rfl, rfl⟩, ⟨rfl, rfl⟩, ⟨rfl, rfl⟩, ⟨rfl, rfl⟩⟩
  | 6, _ => exact ⟨rfl, ⟨rfl, rfl⟩, ⟨rfl, rfl⟩, ⟨rfl, rfl⟩, ⟨rfl, rfl⟩, ⟨rfl, rfl⟩, ⟨rfl, rfl⟩, ⟨rfl, rfl⟩, ⟨rfl, rfl⟩⟩
  | 7, _ => exact ⟨rfl, ⟨rfl, rfl⟩, ⟨rfl, rfl⟩, ⟨rfl, rfl⟩, ⟨rfl, rfl⟩, ⟨rfl, rfl⟩, ⟨rfl, rfl⟩, ⟨rfl, rfl⟩, ⟨rfl, rfl⟩⟩
  | 8, _ => exact ⟨rfl, ⟨rfl, rfl⟩, ⟨rfl, rfl⟩, ⟨rfl, rfl⟩, ⟨rfl, rfl⟩, ⟨rfl, rfl⟩, ⟨rfl, rfl⟩, ⟨rfl, rfl⟩, ⟨rfl, rfl⟩⟩
  | 9, _ => exact ⟨rfl, ⟨rfl, rfl⟩, ⟨rfl, rfl⟩, ⟨rfl, rfl⟩, ⟨rfl, rfl⟩, ⟨rfl, rfl⟩, ⟨rfl, rfl⟩, ⟨rfl, rfl⟩, ⟨rfl, rfl⟩⟩
  | 10, _ => exact ⟨rfl, ⟨rfl, rfl⟩, ⟨rfl, rfl⟩, ⟨rfl, rfl⟩, ⟨rfl, rfl⟩, ⟨rfl, rfl⟩, ⟨rfl, rfl⟩, ⟨rfl, rfl⟩, ⟨rfl, rfl⟩⟩
  | 11, _ => exact ⟨rfl, ⟨rfl, rfl⟩, ⟨rfl, rfl⟩, ⟨rfl, rfl⟩, ⟨rfl, rfl⟩, ⟨rfl, rfl⟩, ⟨rfl, rfl⟩, ⟨rfl, rfl⟩, ⟨rfl, rfl⟩⟩
  | k9 + 12, h9 => exact absurd h9 (by omega)
theorem tk_town {i : Int32} (h : inb i 12 = true) : isTown (129 + 17 * i.toNatClampNeg) := tk_at _ (Nat.not_le.mp (fun q => inb_in h (Or.inr q)))
section FACE
variable {p : Program} {l : Launch} {e : Env} {R : Room} {s : State} {m : MethodId} {args : Array Value} {below : List Frame} {meth : Method} {c : Code} {Γ : Gm} {D : va_G} {s0 : State} {cells slots : Nat} {Q : State → Prop} {own : String} {cc : ByteArray} {nL : Nat} {σ : Mem} {pc : Nat} {lv : List (Option Value)} {st : List Value} {Pst : Option Value → Mem → Prop}

theorem e_tald (X : Cx p l s m args meth c Γ D s0 own cc nL) {i : Int32} (hn : ¬ i < 0) (hin : vp_in i 12) (hd : decode cc pc = .ok (.aaload, 1)) (kk : E p l e R s m args below meth c Γ D cells slots Q σ (pc + 1) lv (va_rf (top Γ i) :: st)) : E p l e R s m args below meth c Γ D cells slots Q σ pc lv (.int i :: .ref (Γ.1 + 53) :: st) := by
  have e1 : top Γ i = some (Γ.1 + (129 + 17 * i.toNatClampNeg)) := by unfold top; rw [if_neg hn]
  rw [e1] at kk
  exact fun H locs ls hP hS h => va_aldq X.1 X.2.1 X.2.2.2.2.2.1 hP 53 3 (by rw [Wd_get (by decide), ent_at (rfl : entTbl[53]? = some (11, 12))]; rfl) rfl hin hd (kk H locs ls hP hS h)
theorem e_tlen53 (X : Cx p l s m args meth c Γ D s0 own cc nL) (hd : decode cc pc = .ok (.arraylength, 1)) (kk : E p l e R s m args below meth c Γ D cells slots Q σ (pc + 1) lv (.int 12 :: st)) : E p l e R s m args below meth c Γ D cells slots Q σ pc lv (.ref (Γ.1 + 53) :: st) :=
  fun H locs ls hP hS h => va_alen X.1 X.2.1 X.2.2.2.2.2.1 hP 53 3 (by rw [Wd_get (by decide), ent_at (rfl : entTbl[53]? = some (11, 12))]; rfl) rfl rfl hd (kk H locs ls hP hS h)
theorem e_tifnull (X : Cx p l s m args meth c Γ D s0 own cc nL) {a : Int32} {off : Int} (tgt : Nat) (hd : decode cc pc = .ok (.ifnull off, 3)) (ht : (pc : Int) + off = (tgt : Int)) (kt : a < 0 → E p l e R s m args below meth c Γ D cells slots Q σ tgt lv st) (kf : ¬ a < 0 → E p l e R s m args below meth c Γ D cells slots Q σ (pc + 3) lv st) : E p l e R s m args below meth c Γ D cells slots Q σ pc lv (va_rf (top Γ a) :: st) := by
  by_cases h : a < 0
  · have e1 : top Γ a = none := by unfold top; rw [if_pos h]
    rw [e1]
    exact e_ifnullN X tgt hd ht (kt h)
  · have e1 : top Γ a = some (Γ.1 + (129 + 17 * a.toNatClampNeg)) := by unfold top; rw [if_neg h]
    rw [e1]
    exact e_ifnull X hd (kf h)
theorem e_taload_n (X : Cx p l s m args meth c Γ D s0 own cc nL) {n : Fin 4} {i : Nat} {a : Int32} (h : ¬ a < 0) (hd : decode cc pc = .ok (.aload_n n, 1)) (hi : (n : Nat) = i) (hl : lv[i]? = some (some (va_rf (top Γ a)))) (k : E p l e R s m args below meth c Γ D cells slots Q σ (pc + 1) lv (.ref (Γ.1 + (129 + 17 * a.toNatClampNeg)) :: st)) : E p l e R s m args below meth c Γ D cells slots Q σ pc lv st := by
  have e1 : top Γ a = some (Γ.1 + (129 + 17 * a.toNatClampNeg)) := by unfold top; rw [if_neg h]
  rw [e1] at hl
  exact e_aload_n X hd hi hl k
theorem e_tnret (X : Cx p l s m args meth c Γ D s0 own cc nL) {mc ms : Nat} {rt : FieldType} {Pst : Option Value → Mem → Prop} (hr : meth.sig.returnType = some rt) (hrt : (∃ n, rt = .object n) ∨ ∃ t, rt = .array t) (hd : decode cc pc = .ok (.areturn, 1)) (hc : cells ≤ mc) (hs : slots ≤ ms) (hp : Pst (some .null) σ) : E p l e R s m args below meth c Γ D cells slots (MQ below (QcA Γ D Pst) args s mc ms (frB Γ)) σ pc lv [.null] :=
  e_aret (o := none) X hr hrt hd hc hs hp
end FACE
def nseB : ByteArray := ⟨#[42, 43, 183, 0, 13, 177]⟩
section NSX
variable {p : Program} {l : Launch} {e : Env} {R : Room} {s : State} {m : MethodId} {args : Array Value} {below : List Frame} {meth : Method} {c : Code} {Γ : Gm} {D : va_G} {s0 : State} {cells slots : Nat} {Q : State → Prop} {own : String} {cc : ByteArray} {nL : Nat} {σ : Mem} {pc : Nat} {lv : List (Option Value)} {st : List Value} {Pst : Option Value → Mem → Prop} {Xst : String → Mem → Prop} {mc ms : Nat}
theorem e_throwNS (X : Cx p l s m args meth c Γ D s0 own cc nL) (hex : ∀ x ∈ c.exceptionTable.toList, False) {cls text : String} {Y9 : String} {r9 : List String} {ik is ic : Nat} (hcls : Bundle.fit cls = true) (hY9 : Bundle.fit Y9 = true) (hr9 : ∀ n ∈ r9, Bundle.fit n = true) (hk : Cond.classLink own ik cls ∈ lwG) (hini : Cond.initialized cls ∈ lwG) (hstr : ∃ a, vk_R own is text a s0)
    (hat : ∀ w ∈ (nx_at own ic cls 13 nseB Y9 r9).filter goodWord, w ∈ lwG) (hat2 : ∀ w ∈ (nx_at own ic cls 13 nseB Y9 r9).filter (fun w => !goodWord w), w ∈ Cond.castable cls cls :: declW) (hcast : va_Nw (.castable cls cls) s0) (hgood : ∀ w ∈ Cond.classLink own ik cls :: Cond.initialized cls :: nx_at own ic cls 13 nseB Y9 r9, vx_ot w = true)
    (d0 : decode cc pc = .ok (.new ik, 3)) (d3 : decode cc (pc + 3) = .ok (.dup, 1)) (d4 : decode cc (pc + 4) = .ok (.ldc is, 2)) (d6 : decode cc (pc + 6) = .ok (.invokespecial ic, 3)) (d9 : decode cc (pc + 9) = .ok (.athrow, 1))
    (hRf : (Y9 :: r9).length + 3 < R.frames) (hRl : (st.map fun v => v.category).sum + (13 * ((Y9 :: r9).length + 1) + 43) ≤ R.locals) (hRc : cells + 1 ≤ R.cells) (hRs : slots + 6 ≤ R.slots) (hc : cells + 1 ≤ mc) (hs : slots + 6 ≤ ms) (hp : Xst cls σ) :
    E p l e R s m args below meth c Γ D cells slots (vx_MQ below (QcA Γ D Pst) (XcA Γ D Xst) args s mc ms (frB Γ)) σ pc lv st := by
  intro H locs ls hP hS h
  obtain ⟨a, ha⟩ := hstr
  exact nx_throwS X.1 X.2.1 (Cx_gok X).2.1 (by decide +kernel) (by decide +kernel) (by decide +kernel) (by decide +kernel) hY9 hr9 X.2.2.2.1 hcls (X.2.2.2.2.1 _ hk) (X.2.2.2.2.1 _ hini) (vk_R.warm X.2.2.2.2.2.2.1 ha)
    (vx_hat (B := Cond.castable cls cls :: declW) (fun w hw => X.2.2.2.2.1 _ (hat w hw)) hat2 (vx_c (va_Nw.use rfl (va_Nw.warmC X.2.2.2.2.2.2.1 hcast)) (decl_use X))) hgood (x_vZq X (x_gst X).2.2.2.1.2.2.1) (x_vZq X (x_gst X).2.2.2.1.2.2.2) hS h.1.1 d0 d3 d4 d6 d9 (fun x hx => (hex x hx).elim) hRf hRl hRc hRs X.2.2.2.2.2.2.2.2.1 (x_hx hP hS hp) hS.2.2 hc hs
theorem e_throwNSW (X : Cx p l s m args meth c Γ D s0 own cc nL) (hex : ∀ x ∈ c.exceptionTable.toList, False) {cls text : String} {Y9 : String} {r9 : List String} {ik is ic : Nat} (hcls : Bundle.fit cls = true) (hY9 : Bundle.fit Y9 = true) (hr9 : ∀ n ∈ r9, Bundle.fit n = true) (hk : Cond.classLink own ik cls ∈ lwG) (hini : Cond.initialized cls ∈ lwG) (hstr : ∃ a, vk_R own is text a s0)
    (hat : ∀ w ∈ (nx_at own ic cls 13 nseB Y9 r9).filter goodWord, w ∈ lwG) (hat2 : ∀ w ∈ (nx_at own ic cls 13 nseB Y9 r9).filter (fun w => !goodWord w), w ∈ Cond.castable cls cls :: declW) (hcast : va_Nw (.castable cls cls) s0) (hgood : ∀ w ∈ Cond.classLink own ik cls :: Cond.initialized cls :: nx_at own ic cls 13 nseB Y9 r9, vx_ot w = true)
    (d0 : decode cc pc = .ok (.new ik, 3)) (d3 : decode cc (pc + 3) = .ok (.dup, 1)) (d4 : decode cc (pc + 4) = .ok (.ldc_w is, 3)) (d7 : decode cc (pc + 7) = .ok (.invokespecial ic, 3)) (d10 : decode cc (pc + 10) = .ok (.athrow, 1))
    (hRf : (Y9 :: r9).length + 3 < R.frames) (hRl : (st.map fun v => v.category).sum + (13 * ((Y9 :: r9).length + 1) + 43) ≤ R.locals) (hRc : cells + 1 ≤ R.cells) (hRs : slots + 6 ≤ R.slots) (hc : cells + 1 ≤ mc) (hs : slots + 6 ≤ ms) (hp : Xst cls σ) :
    E p l e R s m args below meth c Γ D cells slots (vx_MQ below (QcA Γ D Pst) (XcA Γ D Xst) args s mc ms (frB Γ)) σ pc lv st := by
  intro H locs ls hP hS h
  obtain ⟨a, ha⟩ := hstr
  exact nx_throwSW X.1 X.2.1 (Cx_gok X).2.1 (by decide +kernel) (by decide +kernel) (by decide +kernel) (by decide +kernel) hY9 hr9 X.2.2.2.1 hcls (X.2.2.2.2.1 _ hk) (X.2.2.2.2.1 _ hini) (vk_R.warm X.2.2.2.2.2.2.1 ha)
    (vx_hat (B := Cond.castable cls cls :: declW) (fun w hw => X.2.2.2.2.1 _ (hat w hw)) hat2 (vx_c (va_Nw.use rfl (va_Nw.warmC X.2.2.2.2.2.2.1 hcast)) (decl_use X))) hgood (x_vZq X (x_gst X).2.2.2.1.2.2.1) (x_vZq X (x_gst X).2.2.2.1.2.2.2) hS h.1.1 d0 d3 d4 d7 d10 (fun x hx => (hex x hx).elim) hRf hRl hRc hRs X.2.2.2.2.2.2.2.2.1 (x_hx hP hS hp) hS.2.2 hc hs
end NSX
theorem vat_430 : ∀ w ∈ (vx_atS RX11 430 "java/lang/IndexOutOfBoundsException" ["java/lang/RuntimeException", "java/lang/Exception"]).filter goodWord, w ∈ lwG := fun w hw => lwG_in ((by decide +kernel : ∀ w ∈ (vx_atS RX11 430 "java/lang/IndexOutOfBoundsException" ["java/lang/RuntimeException", "java/lang/Exception"]).filter goodWord, w ∈ lw_tbl) w hw) (List.mem_filter.mp hw).2
theorem vau_430 : ∀ w ∈ (vx_atS RX11 430 "java/lang/IndexOutOfBoundsException" ["java/lang/RuntimeException", "java/lang/Exception"]).filter (fun w => !goodWord w), w ∈ Cond.castable "java/lang/IndexOutOfBoundsException" "java/lang/IndexOutOfBoundsException" :: declW := by decide +kernel
theorem vag_430 : ∀ w ∈ Cond.classLink RX11 426 "java/lang/IndexOutOfBoundsException" :: Cond.initialized "java/lang/IndexOutOfBoundsException" :: vx_atS RX11 430 "java/lang/IndexOutOfBoundsException" ["java/lang/RuntimeException", "java/lang/Exception"], vx_ot w = true := by decide +kernel
theorem vat_120 : ∀ w ∈ (vx_atS RX11 120 "java/lang/IllegalArgumentException" ["java/lang/RuntimeException", "java/lang/Exception"]).filter goodWord, w ∈ lwG := fun w hw => lwG_in ((by decide +kernel : ∀ w ∈ (vx_atS RX11 120 "java/lang/IllegalArgumentException" ["java/lang/RuntimeException", "java/lang/Exception"]).filter goodWord, w ∈ lw_tbl) w hw) (List.mem_filter.mp hw).2
theorem vau_120 : ∀ w ∈ (vx_atS RX11 120 "java/lang/IllegalArgumentException" ["java/lang/RuntimeException", "java/lang/Exception"]).filter (fun w => !goodWord w), w ∈ Cond.castable "java/lang/IllegalArgumentException" "java/lang/IllegalArgumentException" :: declW := by decide +kernel
theorem vag_120 : ∀ w ∈ Cond.classLink RX11 116 "java/lang/IllegalArgumentException" :: Cond.initialized "java/lang/IllegalArgumentException" :: vx_atS RX11 120 "java/lang/IllegalArgumentException" ["java/lang/RuntimeException", "java/lang/Exception"], vx_ot w = true := by decide +kernel
theorem vat_228 : ∀ w ∈ (vx_atS RX11 228 "java/lang/IllegalStateException" ["java/lang/RuntimeException", "java/lang/Exception"]).filter goodWord, w ∈ lwG := fun w hw => lwG_in ((by decide +kernel : ∀ w ∈ (vx_atS RX11 228 "java/lang/IllegalStateException" ["java/lang/RuntimeException", "java/lang/Exception"]).filter goodWord, w ∈ lw_tbl) w hw) (List.mem_filter.mp hw).2
theorem vau_228 : ∀ w ∈ (vx_atS RX11 228 "java/lang/IllegalStateException" ["java/lang/RuntimeException", "java/lang/Exception"]).filter (fun w => !goodWord w), w ∈ Cond.castable "java/lang/IllegalStateException" "java/lang/IllegalStateException" :: declW := by decide +kernel
theorem vag_228 : ∀ w ∈ Cond.classLink RX11 224 "java/lang/IllegalStateException" :: Cond.initialized "java/lang/IllegalStateException" :: vx_atS RX11 228 "java/lang/IllegalStateException" ["java/lang/RuntimeException", "java/lang/Exception"], vx_ot w = true := by decide +kernel
theorem vat_130 : ∀ w ∈ (vx_atS RX11 130 "java/lang/UnsupportedOperationException" ["java/lang/RuntimeException", "java/lang/Exception"]).filter goodWord, w ∈ lwG := fun w hw => lwG_in ((by decide +kernel : ∀ w ∈ (vx_atS RX11 130 "java/lang/UnsupportedOperationException" ["java/lang/RuntimeException", "java/lang/Exception"]).filter goodWord, w ∈ lw_tbl) w hw) (List.mem_filter.mp hw).2
theorem vau_130 : ∀ w ∈ (vx_atS RX11 130 "java/lang/UnsupportedOperationException" ["java/lang/RuntimeException", "java/lang/Exception"]).filter (fun w => !goodWord w), w ∈ Cond.castable "java/lang/UnsupportedOperationException" "java/lang/UnsupportedOperationException" :: declW := by decide +kernel
theorem vag_130 : ∀ w ∈ Cond.classLink RX11 126 "java/lang/UnsupportedOperationException" :: Cond.initialized "java/lang/UnsupportedOperationException" :: vx_atS RX11 130 "java/lang/UnsupportedOperationException" ["java/lang/RuntimeException", "java/lang/Exception"], vx_ot w = true := by decide +kernel
theorem vat_179 : ∀ w ∈ (nx_at RX11 179 "java/util/NoSuchElementException" 13 nseB "java/lang/RuntimeException" ["java/lang/Exception"]).filter goodWord, w ∈ lwG := fun w hw => lwG_in ((by decide +kernel : ∀ w ∈ (nx_at RX11 179 "java/util/NoSuchElementException" 13 nseB "java/lang/RuntimeException" ["java/lang/Exception"]).filter goodWord, w ∈ lw_tbl) w hw) (List.mem_filter.mp hw).2
theorem vau_179 : ∀ w ∈ (nx_at RX11 179 "java/util/NoSuchElementException" 13 nseB "java/lang/RuntimeException" ["java/lang/Exception"]).filter (fun w => !goodWord w), w ∈ Cond.castable "java/util/NoSuchElementException" "java/util/NoSuchElementException" :: declW := by decide +kernel
theorem vag_179 : ∀ w ∈ Cond.classLink RX11 175 "java/util/NoSuchElementException" :: Cond.initialized "java/util/NoSuchElementException" :: nx_at RX11 179 "java/util/NoSuchElementException" 13 nseB "java/lang/RuntimeException" ["java/lang/Exception"], vx_ot w = true := by decide +kernel

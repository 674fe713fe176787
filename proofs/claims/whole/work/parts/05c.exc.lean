def XcA (Γ : Gm) (D : va_G) (Xst : String → Mem → Prop) : String → State → State → Prop := fun E st t => ∃ σ' : Mem, va_P D vCl (Wd Γ σ') t.heap ∧ Xst E σ' ∧ va_F (fun q => Γ.1 ≤ q) st t
def CX (l : Launch) (Γ : Gm) (D : va_G) (s0 : State) (y : MethodName) (cc : ByteArray) (nL : Nat) (ret : Option FieldType) (fr mc ms lo : Nat) (σ : Mem) (av : List Value) (Pst : Option Value → Mem → Prop) (Xst : String → Mem → Prop) : Prop :=
  vx_Met l y (wA y cc nL ret) { frames := fr, cells := mc, slots := ms, locals := lo } (PcA Γ D s0 σ av) (QcA Γ D Pst) (XcA Γ D Xst) mc ms (frB Γ)
def PXwv (z : (String × Mem) ⊕ (Mem × Int32)) : Option Value → Mem → Prop := fun v σ' => ∃ o, z = .inr o ∧ v = some (.int o.2) ∧ σ' = o.1
def PXw (z : (String × Mem) ⊕ Mem) : Option Value → Mem → Prop := fun v σ' => ∃ o, z = .inr o ∧ v = none ∧ σ' = o
def PXv (σ : Mem) (z : String ⊕ Int32) : Option Value → Mem → Prop := fun v σ' => ∃ o, z = .inr o ∧ v = some (.int o) ∧ σ' = σ
def PXn (σ : Mem) (z : String ⊕ Unit) : Option Value → Mem → Prop := fun v σ' => ∃ o, z = .inr o ∧ v = none ∧ σ' = σ
def XXw {β : Type} (z : (String × Mem) ⊕ β) : String → Mem → Prop := fun E σ' => ∃ x, z = .inl x ∧ E = x.1 ∧ σ' = x.2
def XXn {β : Type} (σ : Mem) (z : String ⊕ β) : String → Mem → Prop := fun E σ' => z = .inl E ∧ σ' = σ
theorem sumE_inl {S R β : Type} (s : S) (a : S → β) (b : R → β) : sumE (.inl s) a b = a s := rfl
theorem sumE_inr {S R β : Type} (r : R) (a : S → β) (b : R → β) : sumE (.inr r) a b = b r := rfl
section EXC
variable {p : Program} {l : Launch} {e : Env} {R : Room} {s : State} {m : MethodId} {args : Array Value} {below : List Frame} {meth : Method} {c : Code} {Γ : Gm} {D : va_G} {s0 : State} {cells slots : Nat} {Q : State → Prop} {own : String} {cc : ByteArray} {nL : Nat} {σ : Mem} {pc : Nat} {lv : List (Option Value)} {st : List Value} {Pst : Option Value → Mem → Prop} {Xst : String → Mem → Prop} {mc ms : Nat}
theorem e_xr (k : E p l e R s m args below meth c Γ D cells slots (MQ below (QcA Γ D Pst) args s mc ms (frB Γ)) σ pc lv st) : E p l e R s m args below meth c Γ D cells slots (vx_MQ below (QcA Γ D Pst) (XcA Γ D Xst) args s mc ms (frB Γ)) σ pc lv st :=
  fun H locs ls hP hS h => vx_ret (k H locs ls hP hS h)
/-- a start of a method that may throw, without a table of its own -/
theorem e_xmet {y : MethodName} {ret : Option FieldType} {fr lo : Nat} {av : List Value} (hG : Gok l Γ D s0) (hy : plainName y.cls = true) (ho : y.cls = own) (hcat9 : av.all (fun v => v.category == 1) = true) (hlen : av.length ≤ nL)
    (body : ∀ p e s m args below meth c, Cx p l s m args meth c Γ D s0 own cc nL → (∀ x ∈ c.exceptionTable.toList, False) → meth.sig.returnType = ret → E p l e { frames := fr, cells := mc, slots := ms, locals := lo } s m args below meth c Γ D 0 0 (vx_MQ below (QcA Γ D Pst) (XcA Γ D Xst) args s mc ms (frB Γ)) σ 0 (av.map some ++ List.replicate (nL - av.length) none) []) : CX l Γ D s0 y cc nL ret fr mc ms lo σ av Pst Xst := by
  have hcat : ∀ v ∈ av, v.category = 1 := fun v hv => by have := List.all_eq_true.mp hcat9 v hv; simpa using this
  refine vx_ofW (cc := cc) (maxL := nL) (ret := ret) hy rfl ?_
  intro p e s m args below meth c s₁ B hml hex hv
  obtain ⟨rfl, hvm, hbe, hP⟩ := hv
  have hts := atoms_spec (ws := wA y cc nL ret) B.pre
  have X : Cx p l s m av.toArray meth c Γ D s0 own cc nL := ⟨B.exec, B.bytes, hml, by rw [← ho]; exact findClass_of_methodNamed B.named, fun w hw => hts w (List.mem_cons_of_mem _ hw), va_K.moved hvm.alike hG.1, hvm, hbe, B.notSynchronized, hG⟩
  have hsl : lg_sl av = av.map Slot.val := by
    have h9 : ∀ l9 : List Value, (∀ v ∈ l9, v.category = 1) → lg_sl l9 = l9.map Slot.val := by
      intro l9
      induction l9 with
      | nil => intro _; rfl
      | cons a t ih =>
        intro h
        have h1 := h a List.mem_cons_self
        have h2 := ih (fun v hv => h v (List.mem_cons_of_mem _ hv))
        unfold lg_sl at h2 ⊢
        rw [List.flatMap_cons, h2, if_neg (by omega)]
        rfl
    exact h9 av hcat
  have hl := lv_entry av (n := nL) (by rw [hsl, List.length_map]; exact hlen)
  rw [lg_entry_eq]
  generalize hls : (lg_sl av ++ List.replicate (nL - (lg_sl av).length) Slot.unset).toArray = ls at hl ⊢
  refine body p e s m _ below meth c X hex B.returns s.heap [] ls hP va_S.rf ?_
  refine ⟨⟨by rw [hml]; exact hl.1, hl.2.1, fun q hq => ?_⟩, fun i v hi => ?_⟩
  · obtain ⟨i, v⟩ := q
    have h1 := lvl_in.mp hq
    by_cases h2 : i < av.length
    · rw [List.getElem?_append_left (by rw [List.length_map]; exact h2), List.getElem?_map] at h1
      have h3 : av[i]? = some v := by
        cases h4 : av[i]? with
        | none => rw [h4] at h1; cases h1
        | some w => rw [h4] at h1; cases h1; rfl
      rw [← hls, hsl]
      show (List.map Slot.val av ++ List.replicate (nL - (List.map Slot.val av).length) Slot.unset).toArray[i]? = _
      rw [List.getElem?_toArray, List.getElem?_append_left (by rw [List.length_map]; exact h2), List.getElem?_map, h3]
      rfl
    · rw [List.getElem?_append_right (by rw [List.length_map]; omega)] at h1
      have := List.mem_of_getElem? h1
      simp at this
  · by_cases h2 : i < av.length
    · rw [List.getElem?_append_left (by rw [List.length_map]; exact h2), List.getElem?_map] at hi
      cases h4 : av[i]? with
      | none => rw [h4] at hi; cases hi
      | some w => rw [h4] at hi; cases hi; exact hcat _ (List.mem_of_getElem? h4)
    · rw [List.getElem?_append_right (by rw [List.length_map]; omega)] at hi
      have := List.mem_of_getElem? hi
      simp at this
theorem x_hx {H : Heap} {locs : List Loc} {cls : String} (hP : va_P D vCl (Wd Γ σ) H) (hS : va_S (fun q => Γ.1 ≤ q) s.heap H locs) (hp : Xst cls σ) : ∀ t : State, s.vm.Alike t.vm → H.size ≤ t.heap.size → (∀ q : Nat, q < H.size → t.heap[q]? = H[q]?) → XcA Γ D Xst cls s t := by
  intro t _ hz hk
  refine ⟨σ, hP.kept (fun k q hq => hk q.1 (hP k q hq).lt), hp, Nat.le_trans hS.1 hz, fun q h1 h2 => ?_⟩
  rw [hk q (Nat.lt_of_lt_of_le h1 hS.1)]
  exact hS.2.1 q h1 h2
theorem decl_use (X : Cx p l s m args meth c Γ D s0 own cc nL) : ∀ w ∈ declW, w.before args s = true := by
  intro w hw
  have h := (Cx_gok0 X).2.2.2.1 w hw
  have hd : ∃ x, w = .declares x := by
    unfold declW at hw
    simp only [List.mem_cons, List.not_mem_nil, or_false] at hw
    rcases hw with rfl | rfl | rfl | rfl <;> exact ⟨_, rfl⟩
  obtain ⟨x, rfl⟩ := hd
  exact va_Nw.use rfl (va_Nw.warmD X.2.2.2.2.2.2.1 h)
/-- throw new E("text") -/
theorem e_throwS (X : Cx p l s m args meth c Γ D s0 own cc nL) (hex : ∀ x ∈ c.exceptionTable.toList, False) {cls text : String} {names : List String} {ik is ic : Nat} (hcls : Bundle.fit cls = true) (hnames : ∀ n ∈ names, Bundle.fit n = true) (hk : Cond.classLink own ik cls ∈ lwG) (hini : Cond.initialized cls ∈ lwG) (hstr : ∃ a, vk_R own is text a s0)
    (hat : ∀ w ∈ (vx_atS own ic cls names).filter goodWord, w ∈ lwG) (hat2 : ∀ w ∈ (vx_atS own ic cls names).filter (fun w => !goodWord w), w ∈ Cond.castable cls cls :: declW) (hcast : va_Nw (.castable cls cls) s0) (hgood : ∀ w ∈ Cond.classLink own ik cls :: Cond.initialized cls :: vx_atS own ic cls names, vx_ot w = true)
    (d0 : decode cc pc = .ok (.new ik, 3)) (d3 : decode cc (pc + 3) = .ok (.dup, 1)) (d4 : decode cc (pc + 4) = .ok (.ldc is, 2)) (d6 : decode cc (pc + 6) = .ok (.invokespecial ic, 3)) (d9 : decode cc (pc + 9) = .ok (.athrow, 1))
    (hRf : names.length + 3 < R.frames) (hRl : (st.map fun v => v.category).sum + (13 * (names.length + 1) + 43) ≤ R.locals) (hRc : cells + 1 ≤ R.cells) (hRs : slots + 6 ≤ R.slots) (hc : cells + 1 ≤ mc) (hs : slots + 6 ≤ ms) (hp : Xst cls σ) :
    E p l e R s m args below meth c Γ D cells slots (vx_MQ below (QcA Γ D Pst) (XcA Γ D Xst) args s mc ms (frB Γ)) σ pc lv st := by
  intro H locs ls hP hS h
  obtain ⟨a, ha⟩ := hstr
  exact vx_throwS X.1 X.2.1 (Cx_gok X).2.1 X.2.2.2.1 hcls hnames (X.2.2.2.2.1 _ hk) (X.2.2.2.2.1 _ hini) (vk_R.warm X.2.2.2.2.2.2.1 ha)
    (vx_hat (B := Cond.castable cls cls :: declW) (fun w hw => X.2.2.2.2.1 _ (hat w hw)) hat2 (vx_c (va_Nw.use rfl (va_Nw.warmC X.2.2.2.2.2.2.1 hcast)) (decl_use X))) hgood (x_vZq X (x_gst X).2.2.2.1.2.2.1) (x_vZq X (x_gst X).2.2.2.1.2.2.2) hS h.1.1 d0 d3 d4 d6 d9 (fun x hx => (hex x hx).elim) hRf hRl hRc hRs X.2.2.2.2.2.2.2.2.1 (x_hx hP hS hp) hS.2.2 hc hs
theorem e_throwSW (X : Cx p l s m args meth c Γ D s0 own cc nL) (hex : ∀ x ∈ c.exceptionTable.toList, False) {cls text : String} {names : List String} {ik is ic : Nat} (hcls : Bundle.fit cls = true) (hnames : ∀ n ∈ names, Bundle.fit n = true) (hk : Cond.classLink own ik cls ∈ lwG) (hini : Cond.initialized cls ∈ lwG) (hstr : ∃ a, vk_R own is text a s0)
    (hat : ∀ w ∈ (vx_atS own ic cls names).filter goodWord, w ∈ lwG) (hat2 : ∀ w ∈ (vx_atS own ic cls names).filter (fun w => !goodWord w), w ∈ Cond.castable cls cls :: declW) (hcast : va_Nw (.castable cls cls) s0) (hgood : ∀ w ∈ Cond.classLink own ik cls :: Cond.initialized cls :: vx_atS own ic cls names, vx_ot w = true)
    (d0 : decode cc pc = .ok (.new ik, 3)) (d3 : decode cc (pc + 3) = .ok (.dup, 1)) (d4 : decode cc (pc + 4) = .ok (.ldc_w is, 3)) (d7 : decode cc (pc + 7) = .ok (.invokespecial ic, 3)) (d10 : decode cc (pc + 10) = .ok (.athrow, 1))
    (hRf : names.length + 3 < R.frames) (hRl : (st.map fun v => v.category).sum + (13 * (names.length + 1) + 43) ≤ R.locals) (hRc : cells + 1 ≤ R.cells) (hRs : slots + 6 ≤ R.slots) (hc : cells + 1 ≤ mc) (hs : slots + 6 ≤ ms) (hp : Xst cls σ) :
    E p l e R s m args below meth c Γ D cells slots (vx_MQ below (QcA Γ D Pst) (XcA Γ D Xst) args s mc ms (frB Γ)) σ pc lv st := by
  intro H locs ls hP hS h
  obtain ⟨a, ha⟩ := hstr
  exact vx_throwSW X.1 X.2.1 (Cx_gok X).2.1 X.2.2.2.1 hcls hnames (X.2.2.2.2.1 _ hk) (X.2.2.2.2.1 _ hini) (vk_R.warm X.2.2.2.2.2.2.1 ha)
    (vx_hat (B := Cond.castable cls cls :: declW) (fun w hw => X.2.2.2.2.1 _ (hat w hw)) hat2 (vx_c (va_Nw.use rfl (va_Nw.warmC X.2.2.2.2.2.2.1 hcast)) (decl_use X))) hgood (x_vZq X (x_gst X).2.2.2.1.2.2.1) (x_vZq X (x_gst X).2.2.2.1.2.2.2) hS h.1.1 d0 d3 d4 d7 d10 (fun x hx => (hex x hx).elim) hRf hRl hRc hRs X.2.2.2.2.2.2.2.2.1 (x_hx hP hS hp) hS.2.2 hc hs
/-- behind a call that returned or threw, general -/
theorem e_xafter {cmc cms : Nat} {st0 rest : List Value} {Pst' : Option Value → Mem → Prop} {Xst' : String → Mem → Prop} {a : Array Value} {H : Heap} {locs : List Loc} {ls : Array Slot} (hr : vx_Run p l e R s m args below meth c H locs cells slots cmc cms (F0 m pc ls st0) rest (QcA Γ D Pst' a) (XcA Γ D Xst') (frB Γ)) (hS : va_S (fun q => Γ.1 ≤ q) s.heap H locs) (h : lvs ls c.maxLocals lv)
    (kk : ∀ (v : Option Value) (σ' : Mem), Pst' v σ' → E p l e R s m args below meth c Γ D (cells + cmc) (slots + cms) Q σ' (pc + 3) lv (v.toList ++ rest))
    (kx : ∀ (E9 : String) (ce : Cell) (q9 : Addr) (σ' : Mem) (H1 : Heap) (locs1 : List Loc), Xst' E9 σ' → va_P D vCl (Wd Γ σ') H1 → va_S (fun q => Γ.1 ≤ q) s.heap H1 locs1 → H1[q9]? = some ce → ce.vm = .none → s.vm.findClass E9 = some ce.cls → vx_W p l e R s m args below meth c H1 locs1 (cells + cmc) (slots + cms) Q (F0 m pc ls rest) q9) : W p l e R s m args below meth c H locs cells slots Q (F0 m pc ls st0) := by
  intro T hT X
  rcases hr T hT X with ⟨v, st₀, t, T', L, h0, X', hL, e1, e2, ⟨v', σ', hv, hP', hp, hz, hk⟩, stp⟩ | ⟨q, st₀, t, T', L, E9, ce, h0, X', hL, e1, e2, ⟨σ', hP', hp, hz, hk⟩, hce, hcv, hcl, stp⟩
  · cases hv
    rw [h0] at hz hk
    obtain ⟨t2, a1, b1⟩ := kk v σ' hp T'.heap (locs ++ L) ls (by rw [e1]; exact hP') ⟨Nat.le_trans hS.1 (by rw [e1]; exact hz), fun q h1 h2 => by rw [e1, hk q (Nat.lt_of_lt_of_le h1 hS.1) h2]; exact hS.2.1 q h1 h2, fun q hq => by
        rcases List.mem_append.mp hq with h9 | h9
        · exact hS.2.2 q h9
        · exact hL q h9⟩ h T' rfl X'
    exact ⟨t2, stp t2 a1, b1⟩
  · rw [h0] at hz hk
    obtain ⟨t2, a1, b1⟩ := kx E9 ce q σ' T'.heap (locs ++ L) hp (by rw [e1]; exact hP') ⟨Nat.le_trans hS.1 (by rw [e1]; exact hz), fun q h1 h2 => by rw [e1, hk q (Nat.lt_of_lt_of_le h1 hS.1) h2]; exact hS.2.1 q h1 h2, fun q hq => by
        rcases List.mem_append.mp hq with h9 | h9
        · exact hS.2.2 q h9
        · exact hL q h9⟩ (by rw [e1]; exact hce) hcv hcl T' rfl X'
    exact ⟨t2, stp.trans a1, b1⟩
/-- a call of a method that may throw, by a method that lets it through -/
theorem e_xcallV (X : Cx p l s m args meth c Γ D s0 own cc nL) (hex : ∀ x ∈ c.exceptionTable.toList, False) {y : MethodName} {yc : ByteArray} {yL idx fr cmc cms lo q ci N n : Nat} {ret : Option FieldType} {As fs : List Value} {C : String} {T : u_T} {Pst' : Option Value → Mem → Prop} {Xst' : String → Mem → Prop} (rest : List Value) (hM : CX l Γ D s0 y yc yL ret fr cmc cms lo σ (.ref (Γ.1 + q) :: As) Pst' Xst')
    (hw : GoodIn lwG (wsV own idx C y (wA y yc yL ret))) (hy : y.cls = C ∧ y.cls ≠ "java/lang/invoke/MethodHandle" ∧ y.cls ≠ "java/lang/invoke/VarHandle" ∧ (parseMethodDescriptor y.desc).map (fun d => d.parameters.length) = some n) (hn : As.length = n) (hq : q < 347) (hent : ent Γ q (σ q) = .inr (ci, fs)) (hc : vCl[ci]? = some (C, T, N))
    (hR : fr + 1 ≤ R.frames ∧ 8 + (yL + 11) + lo ≤ R.locals) (hcs : cells + cmc ≤ R.cells ∧ slots + cms ≤ R.slots) (hcs2 : cells + cmc ≤ mc ∧ slots + cms ≤ ms) (hrest : (rest.map fun v => v.category).sum ≤ 8) (hd : decode cc pc = .ok (.invokevirtual idx, 3)) (hst : st = As.reverse ++ .ref (Γ.1 + q) :: rest)
    (kk : ∀ (v : Option Value) (σ' : Mem), Pst' v σ' → E p l e R s m args below meth c Γ D (cells + cmc) (slots + cms) (vx_MQ below (QcA Γ D Pst) (XcA Γ D Xst) args s mc ms (frB Γ)) σ' (pc + 3) lv (v.toList ++ rest))
    (kx : ∀ (E9 : String) (σ' : Mem), Xst' E9 σ' → Xst E9 σ') : E p l e R s m args below meth c Γ D cells slots (vx_MQ below (QcA Γ D Pst) (XcA Γ D Xst) args s mc ms (frB Γ)) σ pc lv st := by
  intro H locs ls hP hS h
  refine e_xafter (cmc := cmc) (cms := cms) (vx_runV (As := As) (rest := rest) ⟨X.1, X.2.1, X.2.2.1, X.2.2.2.1, X.2.2.2.2.1⟩ hM (cwV n X.2.2.2.2.1 hw rfl rfl rfl hy hR) ⟨PcA_blind _ _, e_recv X hP hq hent hc, fun U hU hW => PcA_here X hP hS U hU hW⟩ rfl hn (by rw [← X.2.2.1]; exact h.1.1) hst (lv_room hrest) hd hcs) hS h kk ?_
  intro E9 ce q9 σ' H1 locs1 hx hP1 hS1 hce hcv hcl
  exact vx_out (fun x hx => (hex x hx).elim) X.2.2.2.2.2.2.2.2.1 hce hcv hcl (fun t ht _ => ⟨σ', by rw [ht]; exact hP1, kx E9 σ' hx, hS1.F ht⟩) hS1.2.2 hcs2.1 hcs2.2
theorem e_xcallVwv (X : Cx p l s m args meth c Γ D s0 own cc nL) (hex : ∀ x ∈ c.exceptionTable.toList, False) {y : MethodName} {yc : ByteArray} {yL idx fr cmc cms lo q ci N n : Nat} {ret : Option FieldType} {fs : List Value} {C : String} {T : u_T} (z : (String × Mem) ⊕ (Mem × Int32)) (As rest : List Value) (hM : CX l Γ D s0 y yc yL ret fr cmc cms lo σ (.ref (Γ.1 + q) :: As) (PXwv z) (XXw z))
    (hw : GoodIn lwG (wsV own idx C y (wA y yc yL ret))) (hy : y.cls = C ∧ y.cls ≠ "java/lang/invoke/MethodHandle" ∧ y.cls ≠ "java/lang/invoke/VarHandle" ∧ (parseMethodDescriptor y.desc).map (fun d => d.parameters.length) = some n) (hn : As.length = n) (hq : q < 347) (hent : ent Γ q (σ q) = .inr (ci, fs)) (hc : vCl[ci]? = some (C, T, N))
    (hR : fr + 1 ≤ R.frames ∧ 8 + (yL + 11) + lo ≤ R.locals) (hcs : cells + cmc ≤ R.cells ∧ slots + cms ≤ R.slots) (hcs2 : cells + cmc ≤ mc ∧ slots + cms ≤ ms) (hrest : (rest.map fun v => v.category).sum ≤ 8) (hd : decode cc pc = .ok (.invokevirtual idx, 3)) (hst : st = As.reverse ++ .ref (Γ.1 + q) :: rest)
    (kk : ∀ o : Mem × Int32, z = .inr o → E p l e R s m args below meth c Γ D (cells + cmc) (slots + cms) (vx_MQ below (QcA Γ D Pst) (XcA Γ D Xst) args s mc ms (frB Γ)) o.1 (pc + 3) lv (.int o.2 :: rest))
    (kx : ∀ x : String × Mem, z = .inl x → Xst x.1 x.2) : E p l e R s m args below meth c Γ D cells slots (vx_MQ below (QcA Γ D Pst) (XcA Γ D Xst) args s mc ms (frB Γ)) σ pc lv st :=
  e_xcallV X hex rest hM hw hy hn hq hent hc hR hcs hcs2 hrest hd hst (fun v σ2 h9 => by obtain ⟨o, hz, rfl, rfl⟩ := h9; exact kk _ hz) (fun E9 σ2 h9 => by obtain ⟨x, hz, rfl, rfl⟩ := h9; exact kx x hz)
theorem e_xcallVw (X : Cx p l s m args meth c Γ D s0 own cc nL) (hex : ∀ x ∈ c.exceptionTable.toList, False) {y : MethodName} {yc : ByteArray} {yL idx fr cmc cms lo q ci N n : Nat} {ret : Option FieldType} {fs : List Value} {C : String} {T : u_T} (z : (String × Mem) ⊕ Mem) (As rest : List Value) (hM : CX l Γ D s0 y yc yL ret fr cmc cms lo σ (.ref (Γ.1 + q) :: As) (PXw z) (XXw z))
    (hw : GoodIn lwG (wsV own idx C y (wA y yc yL ret))) (hy : y.cls = C ∧ y.cls ≠ "java/lang/invoke/MethodHandle" ∧ y.cls ≠ "java/lang/invoke/VarHandle" ∧ (parseMethodDescriptor y.desc).map (fun d => d.parameters.length) = some n) (hn : As.length = n) (hq : q < 347) (hent : ent Γ q (σ q) = .inr (ci, fs)) (hc : vCl[ci]? = some (C, T, N))
    (hR : fr + 1 ≤ R.frames ∧ 8 + (yL + 11) + lo ≤ R.locals) (hcs : cells + cmc ≤ R.cells ∧ slots + cms ≤ R.slots) (hcs2 : cells + cmc ≤ mc ∧ slots + cms ≤ ms) (hrest : (rest.map fun v => v.category).sum ≤ 8) (hd : decode cc pc = .ok (.invokevirtual idx, 3)) (hst : st = As.reverse ++ .ref (Γ.1 + q) :: rest)
    (kk : ∀ o : Mem, z = .inr o → E p l e R s m args below meth c Γ D (cells + cmc) (slots + cms) (vx_MQ below (QcA Γ D Pst) (XcA Γ D Xst) args s mc ms (frB Γ)) o (pc + 3) lv rest)
    (kx : ∀ x : String × Mem, z = .inl x → Xst x.1 x.2) : E p l e R s m args below meth c Γ D cells slots (vx_MQ below (QcA Γ D Pst) (XcA Γ D Xst) args s mc ms (frB Γ)) σ pc lv st :=
  e_xcallV X hex rest hM hw hy hn hq hent hc hR hcs hcs2 hrest hd hst (fun v σ2 h9 => by obtain ⟨o, hz, rfl, rfl⟩ := h9; exact kk _ hz) (fun E9 σ2 h9 => by obtain ⟨x, hz, rfl, rfl⟩ := h9; exact kx x hz)
theorem e_xcallVv (X : Cx p l s m args meth c Γ D s0 own cc nL) (hex : ∀ x ∈ c.exceptionTable.toList, False) {y : MethodName} {yc : ByteArray} {yL idx fr cmc cms lo q ci N n : Nat} {ret : Option FieldType} {fs : List Value} {C : String} {T : u_T} (z : String ⊕ Int32) (As rest : List Value) (hM : CX l Γ D s0 y yc yL ret fr cmc cms lo σ (.ref (Γ.1 + q) :: As) (PXv σ z) (XXn σ z))
    (hw : GoodIn lwG (wsV own idx C y (wA y yc yL ret))) (hy : y.cls = C ∧ y.cls ≠ "java/lang/invoke/MethodHandle" ∧ y.cls ≠ "java/lang/invoke/VarHandle" ∧ (parseMethodDescriptor y.desc).map (fun d => d.parameters.length) = some n) (hn : As.length = n) (hq : q < 347) (hent : ent Γ q (σ q) = .inr (ci, fs)) (hc : vCl[ci]? = some (C, T, N))
    (hR : fr + 1 ≤ R.frames ∧ 8 + (yL + 11) + lo ≤ R.locals) (hcs : cells + cmc ≤ R.cells ∧ slots + cms ≤ R.slots) (hcs2 : cells + cmc ≤ mc ∧ slots + cms ≤ ms) (hrest : (rest.map fun v => v.category).sum ≤ 8) (hd : decode cc pc = .ok (.invokevirtual idx, 3)) (hst : st = As.reverse ++ .ref (Γ.1 + q) :: rest)
    (kk : ∀ o : Int32, z = .inr o → E p l e R s m args below meth c Γ D (cells + cmc) (slots + cms) (vx_MQ below (QcA Γ D Pst) (XcA Γ D Xst) args s mc ms (frB Γ)) σ (pc + 3) lv (.int o :: rest))
    (kx : ∀ x : String, z = .inl x → Xst x σ) : E p l e R s m args below meth c Γ D cells slots (vx_MQ below (QcA Γ D Pst) (XcA Γ D Xst) args s mc ms (frB Γ)) σ pc lv st :=
  e_xcallV X hex rest hM hw hy hn hq hent hc hR hcs hcs2 hrest hd hst (fun v σ2 h9 => by obtain ⟨o, hz, rfl, rfl⟩ := h9; exact kk _ hz) (fun E9 σ2 h9 => by obtain ⟨hz, rfl⟩ := h9; exact kx E9 hz)
theorem e_xcallVn (X : Cx p l s m args meth c Γ D s0 own cc nL) (hex : ∀ x ∈ c.exceptionTable.toList, False) {y : MethodName} {yc : ByteArray} {yL idx fr cmc cms lo q ci N n : Nat} {ret : Option FieldType} {fs : List Value} {C : String} {T : u_T} (z : String ⊕ Unit) (As rest : List Value) (hM : CX l Γ D s0 y yc yL ret fr cmc cms lo σ (.ref (Γ.1 + q) :: As) (PXn σ z) (XXn σ z))
    (hw : GoodIn lwG (wsV own idx C y (wA y yc yL ret))) (hy : y.cls = C ∧ y.cls ≠ "java/lang/invoke/MethodHandle" ∧ y.cls ≠ "java/lang/invoke/VarHandle" ∧ (parseMethodDescriptor y.desc).map (fun d => d.parameters.length) = some n) (hn : As.length = n) (hq : q < 347) (hent : ent Γ q (σ q) = .inr (ci, fs)) (hc : vCl[ci]? = some (C, T, N))
    (hR : fr + 1 ≤ R.frames ∧ 8 + (yL + 11) + lo ≤ R.locals) (hcs : cells + cmc ≤ R.cells ∧ slots + cms ≤ R.slots) (hcs2 : cells + cmc ≤ mc ∧ slots + cms ≤ ms) (hrest : (rest.map fun v => v.category).sum ≤ 8) (hd : decode cc pc = .ok (.invokevirtual idx, 3)) (hst : st = As.reverse ++ .ref (Γ.1 + q) :: rest)
    (kk : ∀ o : Unit, z = .inr o → E p l e R s m args below meth c Γ D (cells + cmc) (slots + cms) (vx_MQ below (QcA Γ D Pst) (XcA Γ D Xst) args s mc ms (frB Γ)) σ (pc + 3) lv rest)
    (kx : ∀ x : String, z = .inl x → Xst x σ) : E p l e R s m args below meth c Γ D cells slots (vx_MQ below (QcA Γ D Pst) (XcA Γ D Xst) args s mc ms (frB Γ)) σ pc lv st :=
  e_xcallV X hex rest hM hw hy hn hq hent hc hR hcs hcs2 hrest hd hst (fun v σ2 h9 => by obtain ⟨o, hz, rfl, rfl⟩ := h9; exact kk _ hz) (fun E9 σ2 h9 => by obtain ⟨hz, rfl⟩ := h9; exact kx E9 hz)
end EXC

abbrev vxH : Type := List (Nat × Nat × Nat × Nat)
def wAH (y : MethodName) (cc : ByteArray) (nL : Nat) (ret : Option FieldType) (hh : vxH) : List Cond := .codeWith y cc nL ret hh :: lwG
/-- a contract of a method with a table of handlers, which throws nothing itself -/
def CXH (l : Launch) (Γ : Gm) (D : va_G) (s0 : State) (y : MethodName) (cc : ByteArray) (nL : Nat) (ret : Option FieldType) (hh : vxH) (fr mc ms lo : Nat) (σ : Mem) (av : List Value) (Pst : Option Value → Mem → Prop) : Prop :=
  vx_Met l y (wAH y cc nL ret hh) { frames := fr, cells := mc, slots := ms, locals := lo } (PcA Γ D s0 σ av) (QcA Γ D Pst) (XcA Γ D (fun _ _ => False)) mc ms (frB Γ)
/-- the frame with an exception of the class E9 over it -/
def EXj (p : Program) (l : Launch) (e : Env) (R : Room) (s : State) (m : MethodId) (args : Array Value) (below : List Frame) (meth : Method) (c : Code) (Γ : Gm) (D : va_G) (cells slots : Nat) (Q : State → Prop) (E9 : String) (σ : Mem) (pc : Nat) (lv : List (Option Value)) (rest : List Value) : Prop :=
  ∀ (H : Heap) (locs : List Loc) (ls : Array Slot) (q : Addr) (ce : Cell), va_P D vCl (Wd Γ σ) H → va_S (fun q => Γ.1 ≤ q) s.heap H locs → lvs ls c.maxLocals lv → H[q]? = some ce → ce.vm = .none → s.vm.findClass E9 = some ce.cls → vx_W p l e R s m args below meth c H locs cells slots Q (F0 m pc ls rest) q
section LWR
variable {p : Program} {l : Launch} {e : Env} {R : Room} {s : State} {m : MethodId} {args : Array Value} {below : List Frame} {meth : Method} {c : Code} {Γ : Gm} {D : va_G} {s0 : State} {cells slots : Nat} {Q : State → Prop} {own : String} {cc : ByteArray} {nL : Nat} {σ : Mem} {pc : Nat} {lv : List (Option Value)} {st : List Value} {Pst : Option Value → Mem → Prop} {mc ms : Nat}
theorem e_hmet {y : MethodName} {ret : Option FieldType} {hh : vxH} {fr lo : Nat} {av : List Value} (hG : Gok l Γ D s0) (hy : plainName y.cls = true) (ho : y.cls = own) (hcat9 : av.all (fun v => v.category == 1) = true) (hlen : av.length ≤ nL)
    (body : ∀ p e s m args below meth c, Cx p l s m args meth c Γ D s0 own cc nL → c.exceptionTable.toList = tableOf hh → meth.sig.returnType = ret → E p l e { frames := fr, cells := mc, slots := ms, locals := lo } s m args below meth c Γ D 0 0 (vx_MQ below (QcA Γ D Pst) (XcA Γ D (fun _ _ => False)) args s mc ms (frB Γ)) σ 0 (av.map some ++ List.replicate (nL - av.length) none) []) : CXH l Γ D s0 y cc nL ret hh fr mc ms lo σ av Pst := by
  have hcat : ∀ v ∈ av, v.category = 1 := fun v hv => by have := List.all_eq_true.mp hcat9 v hv; simpa using this
  refine vx_ofWH (cc := cc) (maxL := nL) (ret := ret) (hh := hh) hy rfl ?_
  intro p e s m args below meth c s₁ B hml hv
  obtain ⟨rfl, hvm, hbe, hP⟩ := hv
  have hts := atoms_spec (ws := wAH y cc nL ret hh) B.pre
  have hex : c.exceptionTable.toList = tableOf hh := vx_table (x := y) B (hts _ List.mem_cons_self)
  have X : Cx p l s m av.toArray meth c Γ D s0 own cc nL := ⟨B.exec, B.bytes, hml, by rw [← ho]; exact findClass_of_methodNamed B.named, fun w hw => hts w (List.mem_cons_of_mem _ hw), va_K.moved hvm.alike hG.1, hvm, hbe, B.notSynchronized, hG⟩
  have hsl : lg_sl av = av.map Slot.val := by
    have h9 : ∀ l9 : List Value, (∀ v ∈ l9, v.category = 1) → lg_sl l9 = l9.map Slot.val := by
      intro l9
      induction l9 with
      | nil => intro _; rfl
      | cons a t ih =>
        intro h
        have h1 := h a List.mem_cons_self
        have h2 := ih (fun v hv => h v (List.mem_cons_of_mem _ hv))
        unfold lg_sl at h2 ⊢
        rw [List.flatMap_cons, h2, if_neg (by omega)]
        rfl
    exact h9 av hcat
  have hl := lv_entry av (n := nL) (by rw [hsl, List.length_map]; exact hlen)
  rw [lg_entry_eq]
  generalize hls : (lg_sl av ++ List.replicate (nL - (lg_sl av).length) Slot.unset).toArray = ls at hl ⊢
  refine body p e s m _ below meth c X hex B.returns s.heap [] ls hP va_S.rf ?_
  refine ⟨⟨by rw [hml]; exact hl.1, hl.2.1, fun q hq => ?_⟩, fun i v hi => ?_⟩
  · obtain ⟨i, v⟩ := q
    have h1 := lvl_in.mp hq
    by_cases h2 : i < av.length
    · rw [List.getElem?_append_left (by rw [List.length_map]; exact h2), List.getElem?_map] at h1
      have h3 : av[i]? = some v := by
        cases h4 : av[i]? with
        | none => rw [h4] at h1; cases h1
        | some w => rw [h4] at h1; cases h1; rfl
      rw [← hls, hsl]
      show (List.map Slot.val av ++ List.replicate (nL - (List.map Slot.val av).length) Slot.unset).toArray[i]? = _
      rw [List.getElem?_toArray, List.getElem?_append_left (by rw [List.length_map]; exact h2), List.getElem?_map, h3]
      rfl
    · rw [List.getElem?_append_right (by rw [List.length_map]; omega)] at h1
      have := List.mem_of_getElem? h1
      simp at this
  · by_cases h2 : i < av.length
    · rw [List.getElem?_append_left (by rw [List.length_map]; exact h2), List.getElem?_map] at hi
      cases h4 : av[i]? with
      | none => rw [h4] at hi; cases hi
      | some w => rw [h4] at hi; cases hi; exact hcat _ (List.mem_of_getElem? h4)
    · rw [List.getElem?_append_right (by rw [List.length_map]; omega)] at hi
      have := List.mem_of_getElem? hi
      simp at this
theorem e_hcatch (X : Cx p l s m args meth c Γ D s0 own cc nL) {E9 : String} {rest : List Value} (pre : List ExceptionTableEntry) (x : ExceptionTableEntry) (suf : List ExceptionTableEntry) {hh : vxH} (hex : c.exceptionTable.toList = tableOf hh) (hsplit : tableOf hh = pre ++ x :: suf) (hpass : ∀ z ∈ pre, z.catchType ≠ 0 ∧ ∃ nm : String, Cond.classLink own z.catchType nm ∈ lwG ∧ va_Nc E9 nm s0) (hx : covers x pc = true) (h0 : x.catchType ≠ 0)
    (hlink : Cond.classLink own x.catchType E9 ∈ lwG) (hcast : va_Nw (.castable E9 E9) s0) (tgt : Nat) (ht : x.handlerPc = tgt) (kk : ∀ q : Nat, E p l e R s m args below meth c Γ D cells slots Q σ tgt lv [.ref q]) : EXj p l e R s m args below meth c Γ D cells slots Q E9 σ pc lv rest := by
  subst ht
  intro H locs ls q ce hP hS h hce hcv hcl
  exact vx_catch X.2.2.2.1 pre x suf (hex.trans hsplit) (fun z hz => Or.inr ⟨(hpass z hz).1, by obtain ⟨nm, h1, h2⟩ := (hpass z hz).2; exact ⟨nm, X.2.2.2.2.1 _ h1, va_Nc.moved X.2.2.2.2.2.2.1.alike h2⟩⟩) hx h0 (X.2.2.2.2.1 _ hlink) (va_Nw.use rfl (va_Nw.warmC X.2.2.2.2.2.2.1 hcast)) hce hcv hcl (kk q H locs ls hP hS h)
/-- a call of a method that may throw, by a method with handlers -/
theorem e_hcallV (X : Cx p l s m args meth c Γ D s0 own cc nL) {y : MethodName} {yc : ByteArray} {yL idx fr cmc cms lo q ci N n : Nat} {ret : Option FieldType} {As fs : List Value} {C : String} {T : u_T} {Pst' : Option Value → Mem → Prop} {Xst' : String → Mem → Prop} (rest : List Value) (hM : CX l Γ D s0 y yc yL ret fr cmc cms lo σ (.ref (Γ.1 + q) :: As) Pst' Xst')
    (hw : GoodIn lwG (wsV own idx C y (wA y yc yL ret))) (hy : y.cls = C ∧ y.cls ≠ "java/lang/invoke/MethodHandle" ∧ y.cls ≠ "java/lang/invoke/VarHandle" ∧ (parseMethodDescriptor y.desc).map (fun d => d.parameters.length) = some n) (hn : As.length = n) (hq : q < 347) (hent : ent Γ q (σ q) = .inr (ci, fs)) (hc : vCl[ci]? = some (C, T, N))
    (hR : fr + 1 ≤ R.frames ∧ 8 + (yL + 11) + lo ≤ R.locals) (hcs : cells + cmc ≤ R.cells ∧ slots + cms ≤ R.slots) (hrest : (rest.map fun v => v.category).sum ≤ 8) (hd : decode cc pc = .ok (.invokevirtual idx, 3)) (hst : st = As.reverse ++ .ref (Γ.1 + q) :: rest)
    (kk : ∀ (v : Option Value) (σ' : Mem), Pst' v σ' → E p l e R s m args below meth c Γ D (cells + cmc) (slots + cms) Q σ' (pc + 3) lv (v.toList ++ rest))
    (kx : ∀ (E9 : String) (σ' : Mem), Xst' E9 σ' → EXj p l e R s m args below meth c Γ D (cells + cmc) (slots + cms) Q E9 σ' pc lv rest) : E p l e R s m args below meth c Γ D cells slots Q σ pc lv st := by
  intro H locs ls hP hS h
  refine e_xafter (cmc := cmc) (cms := cms) (vx_runV (As := As) (rest := rest) ⟨X.1, X.2.1, X.2.2.1, X.2.2.2.1, X.2.2.2.2.1⟩ hM (cwV n X.2.2.2.2.1 hw rfl rfl rfl hy hR) ⟨PcA_blind _ _, e_recv X hP hq hent hc, fun U hU hW => PcA_here X hP hS U hU hW⟩ rfl hn (by rw [← X.2.2.1]; exact h.1.1) hst (lv_room hrest) hd hcs) hS h kk ?_
  intro E9 ce q9 σ' H1 locs1 hx hP1 hS1 hce hcv hcl
  exact kx E9 σ' hx H1 locs1 ls q9 ce hP1 hS1 h hce hcv hcl
theorem e_hcallVwv (X : Cx p l s m args meth c Γ D s0 own cc nL) {y : MethodName} {yc : ByteArray} {yL idx fr cmc cms lo q ci N n : Nat} {ret : Option FieldType} {fs : List Value} {C : String} {T : u_T} (z : (String × Mem) ⊕ (Mem × Int32)) (As rest : List Value) (hM : CX l Γ D s0 y yc yL ret fr cmc cms lo σ (.ref (Γ.1 + q) :: As) (PXwv z) (XXw z))
    (hw : GoodIn lwG (wsV own idx C y (wA y yc yL ret))) (hy : y.cls = C ∧ y.cls ≠ "java/lang/invoke/MethodHandle" ∧ y.cls ≠ "java/lang/invoke/VarHandle" ∧ (parseMethodDescriptor y.desc).map (fun d => d.parameters.length) = some n) (hn : As.length = n) (hq : q < 347) (hent : ent Γ q (σ q) = .inr (ci, fs)) (hc : vCl[ci]? = some (C, T, N))
    (hR : fr + 1 ≤ R.frames ∧ 8 + (yL + 11) + lo ≤ R.locals) (hcs : cells + cmc ≤ R.cells ∧ slots + cms ≤ R.slots) (hrest : (rest.map fun v => v.category).sum ≤ 8) (hd : decode cc pc = .ok (.invokevirtual idx, 3)) (hst : st = As.reverse ++ .ref (Γ.1 + q) :: rest)
    (kk : ∀ o : Mem × Int32, z = .inr o → E p l e R s m args below meth c Γ D (cells + cmc) (slots + cms) Q o.1 (pc + 3) lv (.int o.2 :: rest))
    (kx : ∀ x : String × Mem, z = .inl x → EXj p l e R s m args below meth c Γ D (cells + cmc) (slots + cms) Q x.1 x.2 pc lv rest) : E p l e R s m args below meth c Γ D cells slots Q σ pc lv st :=
  e_hcallV X rest hM hw hy hn hq hent hc hR hcs hrest hd hst (fun v σ2 h9 => by obtain ⟨o, hz, rfl, rfl⟩ := h9; exact kk _ hz) (fun E9 σ2 h9 => by obtain ⟨x, hz, rfl, rfl⟩ := h9; exact kx x hz)
theorem e_hcallVv (X : Cx p l s m args meth c Γ D s0 own cc nL) {y : MethodName} {yc : ByteArray} {yL idx fr cmc cms lo q ci N n : Nat} {ret : Option FieldType} {fs : List Value} {C : String} {T : u_T} (z : String ⊕ Int32) (As rest : List Value) (hM : CX l Γ D s0 y yc yL ret fr cmc cms lo σ (.ref (Γ.1 + q) :: As) (PXv σ z) (XXn σ z))
    (hw : GoodIn lwG (wsV own idx C y (wA y yc yL ret))) (hy : y.cls = C ∧ y.cls ≠ "java/lang/invoke/MethodHandle" ∧ y.cls ≠ "java/lang/invoke/VarHandle" ∧ (parseMethodDescriptor y.desc).map (fun d => d.parameters.length) = some n) (hn : As.length = n) (hq : q < 347) (hent : ent Γ q (σ q) = .inr (ci, fs)) (hc : vCl[ci]? = some (C, T, N))
    (hR : fr + 1 ≤ R.frames ∧ 8 + (yL + 11) + lo ≤ R.locals) (hcs : cells + cmc ≤ R.cells ∧ slots + cms ≤ R.slots) (hrest : (rest.map fun v => v.category).sum ≤ 8) (hd : decode cc pc = .ok (.invokevirtual idx, 3)) (hst : st = As.reverse ++ .ref (Γ.1 + q) :: rest)
    (kk : ∀ o : Int32, z = .inr o → E p l e R s m args below meth c Γ D (cells + cmc) (slots + cms) Q σ (pc + 3) lv (.int o :: rest))
    (kx : ∀ x : String, z = .inl x → EXj p l e R s m args below meth c Γ D (cells + cmc) (slots + cms) Q x σ pc lv rest) : E p l e R s m args below meth c Γ D cells slots Q σ pc lv st :=
  e_hcallV X rest hM hw hy hn hq hent hc hR hcs hrest hd hst (fun v σ2 h9 => by obtain ⟨o, hz, rfl, rfl⟩ := h9; exact kk _ hz) (fun E9 σ2 h9 => by obtain ⟨hz, rfl⟩ := h9; exact kx E9 hz)
/-- a static call of a method with handlers -/
theorem e_callSH (X : Cx p l s m args meth c Γ D s0 own cc nL) {y : MethodName} {yc : ByteArray} {yL idx fr cmc cms lo n : Nat} {ret : Option FieldType} {hh : vxH} {σ1 : Mem} {r : Int32} (As rest : List Value) (hM : CXH l Γ D s0 y yc yL ret hh fr cmc cms lo σ As (PI (some (.int r)) σ1))
    (hw : GoodIn lwG (va_wsS own idx y (wAH y yc yL ret hh))) (hy : y.cls ≠ "java/lang/invoke/MethodHandle" ∧ y.cls ≠ "java/lang/invoke/VarHandle" ∧ (parseMethodDescriptor y.desc).map (fun d => d.parameters.length) = some n) (hn : As.length = n)
    (hR : fr + 1 ≤ R.frames ∧ 8 + (yL + 11) + lo ≤ R.locals) (hcs : cells + cmc ≤ R.cells ∧ slots + cms ≤ R.slots) (hrest : (rest.map fun v => v.category).sum ≤ 8) (hd : decode cc pc = .ok (.invokestatic idx, 3)) (hst : st = As.reverse ++ rest)
    (kk : E p l e R s m args below meth c Γ D (cells + cmc) (slots + cms) Q σ1 (pc + 3) lv (.int r :: rest)) : E p l e R s m args below meth c Γ D cells slots Q σ pc lv st := by
  intro H locs ls hP hS h
  refine e_xafter (cmc := cmc) (cms := cms) (vx_runSX (As := As) (rest := rest) ⟨X.1, X.2.1, X.2.2.1, X.2.2.2.1, X.2.2.2.2.1⟩ hM (vx_cwSW n X.2.2.2.2.1 hw rfl rfl rfl hy hR) ⟨PcA_blind _ _, fun U hU hW => PcA_here X hP hS U hU hW⟩ rfl hn (by rw [← X.2.2.1]; exact h.1.1) hst (lv_room hrest) hd hcs) hS h (fun v σ2 h9 => by obtain ⟨rfl, rfl⟩ := h9; exact kk) ?_
  intro E9 ce q9 σ' H1 locs1 hx
  exact hx.elim
theorem e_widen {c2 s2 : Nat} (h1 : cells ≤ c2) (h2 : slots ≤ s2) (kk : E p l e R s m args below meth c Γ D c2 s2 Q σ pc lv st) : E p l e R s m args below meth c Γ D cells slots Q σ pc lv st :=
  fun H locs ls hP hS h => W.widen h1 h2 (kk H locs ls hP hS h)
theorem e_lcmpeq (X : Cx p l s m args meth c Γ D s0 own cc nL) {x y : Int32} {off : Int} (tgt : Nat) (hd : decode cc pc = .ok (.lcmp, 1)) (hd2 : decode cc (pc + 1) = .ok (.ifCond .eq off, 3)) (ht : ((pc + 1 : Nat) : Int) + off = (tgt : Int)) (kt : x = y → E p l e R s m args below meth c Γ D cells slots Q σ tgt lv st) (kf : ¬ x = y → E p l e R s m args below meth c Γ D cells slots Q σ (pc + 1 + 3) lv st) : E p l e R s m args below meth c Γ D cells slots Q σ pc lv (.long y.toInt64 :: .long x.toInt64 :: st) := by
  intro H locs ls hP hS h
  refine W.lcmp X.1 X.2.1 hd ?_
  refine lv_if_eq X.1 X.2.1 hd2 ht (fun z => kt ?_ H locs ls hP hS h) (fun z => kf ?_ H locs ls hP hS h)
  · by_cases h1 : y.toInt64 < x.toInt64
    · simp [lg_cmp, h1] at z
    · by_cases h2 : x.toInt64 = y.toInt64
      · exact Int32.toInt.inj (by rw [← Int32.toInt_toInt64, ← Int32.toInt_toInt64, h2])
      · simp [lg_cmp, h1, h2] at z
  · intro h2
    subst h2
    exact z (by simp [lg_cmp])
theorem e_lald (X : Cx p l s m args meth c Γ D s0 own cc nL) (hd : decode cc pc = .ok (.laload, 1)) (kk : E p l e R s m args below meth c Γ D cells slots Q σ (pc + 1) lv (.long (σ 346 0).toInt64 :: st)) : E p l e R s m args below meth c Γ D cells slots Q σ pc lv (.int 0 :: .ref (Γ.1 + 346) :: st) :=
  fun H locs ls hP hS h => va_lald X.1 X.2.1 X.2.2.2.2.2.1 hP 346 2 (n := 1) (f := fun j => (σ 346 j).toInt64) (by rw [Wd_get (by decide), ent_at (rfl : entTbl[346]? = some (15, 1))]; rfl) rfl (vp_in_iff.mpr (by decide)) hd (kk H locs ls hP hS h)
theorem e_last (X : Cx p l s m args meth c Γ D s0 own cc nL) {x : Int32} {σ1 : Mem} (hd : decode cc pc = .ok (.lastore, 1)) (hσ : σ1 = up σ 346 0 x) (kk : E p l e R s m args below meth c Γ D cells slots Q σ1 (pc + 1) lv st) : E p l e R s m args below meth c Γ D cells slots Q σ pc lv (.long x.toInt64 :: .int 0 :: .ref (Γ.1 + 346) :: st) := by
  subst hσ
  exact fun H locs ls hP hS h => va_last X.1 X.2.1 X.2.2.2.2.2.1 hP (Wd_D Γ σ) hS 346 2 (n := 1) (f := fun j => (σ 346 j).toInt64) (by rw [Wd_get (by decide), ent_at (rfl : entTbl[346]? = some (15, 1))]; rfl) rfl (vp_in_iff.mpr (by decide)) hd
    (fun H1 locs1 hP1 _ hS1 => kk H1 locs1 ls (by
      rw [← Wd_set (q := 346) (j := 0) (v := x) (e := .inl (Γ.2.1.2.2.1, 1, .inr (.inl (vp_updL (fun j => (σ 346 j).toInt64) 0 x.toInt64)))) (by decide) ?_]
      · exact hP1
      · rw [ent_at (rfl : entTbl[346]? = some (15, 1))]
        show Sum.inl (_, _, Sum.inr (Sum.inl _)) = _
        congr 5
        funext b
        show Int32.toInt64 (if b = 0 then x else σ 346 b) = vp_updL (fun j => (σ 346 j).toInt64) 0 x.toInt64 b
        unfold vp_updL
        by_cases hb : b = 0
        · simp [hb]
        · simp [hb]) hS1 h)
theorem e_sld (X : Cx p l s m args meth c Γ D s0 own cc nL) {b L : Nat} {xs : Nat → Int32} (hX : va_X b L xs s s.heap) (hbl : b < s.heap.size) (hbA : ¬ Γ.1 ≤ b) {i v : Int32} (hin : vp_in i L) (hv : xs i.toNatClampNeg = v) (hd : decode cc pc = .ok (.iaload, 1)) (kk : E p l e R s m args below meth c Γ D cells slots Q σ (pc + 1) lv (.int v :: st)) : E p l e R s m args below meth c Γ D cells slots Q σ pc lv (.int i :: .ref b :: st) := by
  subst hv
  exact fun H locs ls hP hS h => va_sld (A := fun q => Γ.1 ≤ q) X.1 X.2.1 hX hbl hbA hS hin hd (kk H locs ls hP hS h)
theorem e_slen (X : Cx p l s m args meth c Γ D s0 own cc nL) {b L : Nat} {xs : Nat → Int32} (hX : va_X b L xs s s.heap) (hbl : b < s.heap.size) (hbA : ¬ Γ.1 ≤ b) (hd : decode cc pc = .ok (.arraylength, 1)) (kk : E p l e R s m args below meth c Γ D cells slots Q σ (pc + 1) lv (.int (Int32.ofNat L) :: st)) : E p l e R s m args below meth c Γ D cells slots Q σ pc lv (.ref b :: st) :=
  fun H locs ls hP hS h => va_slen (A := fun q => Γ.1 ≤ q) X.1 X.2.1 hX hbl hbA hS hd (kk H locs ls hP hS h)
end LWR

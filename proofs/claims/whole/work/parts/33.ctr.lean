/-- the memory that the objects have when they are made -/
def sK : Nat → Nat → Int32
  | 0 => fun k => if k = 13 then -1 else 0
  | 1 => fun k => if k = 12 then 20 else if k = 13 then 1 else if k = 14 then 10 else if k = 17 then 1 else 0
  | 4 => fun k => if k = 5 then -1 else 0
  | 5 => fun k => if k = 8 then 29 else if k = 11 then -1 else if k = 12 then -1 else 0
  | 6 => fun k => if k = 8 then 29 else if k = 11 then -1 else if k = 12 then -1 else 0
  | 12 => fun _ => -1
  | 13 => fun k => if k = 12 then -1 else 0
  | _ => fun _ => 0
def sM : Nat → Int32 := fun k => if k = 12 then 1 else if k = 7 then 10 else if k = 6 then 1 else if k = 5 then 20 else if k = 1 then -1 else 0
def sI : Mem := fun q => if q = 334 then sM else sK (entTbl.getD q (99, 0)).1
theorem sI_at {q : Nat} {c : Nat × Nat} (h : entTbl[q]? = some c) (hq : q ≠ 334) : sI q = sK c.1 := by
  unfold sI
  rw [if_neg hq, List.getD_eq_getElem?_getD, h]
  rfl
theorem ne334 {q a n : Nat} (h : entTbl[q]? = some (a, n)) (ha : a ≠ 3) : q ≠ 334 := by
  intro h1
  rw [h1, (rfl : entTbl[334]? = some (3, 850))] at h
  cases h
  exact ha rfl
def ini (Γ : Gm) (q : Nat) : va_E := ent Γ q (sI q)
theorem ini_at {Γ : Gm} {q : Nat} {c : Nat × Nat} (h : entTbl[q]? = some c) (hq : q ≠ 334) : ini Γ q = entOf Γ q c (sK c.1) := by
  unfold ini
  rw [ent_at h, sI_at h hq]
def Wn (Γ : Gm) (n : Nat) (g : Nat → va_E) : va_W := (List.range n).map fun q => (Γ.1 + q, g q)
theorem Wn_get {Γ : Gm} {n q : Nat} {g : Nat → va_E} (hq : q < n) : (Wn Γ n g)[q]? = some (Γ.1 + q, g q) := by
  unfold Wn
  rw [List.getElem?_map, List.getElem?_range hq]
  rfl
theorem Wn_some {Γ : Gm} {n k : Nat} {g : Nat → va_E} {q : Nat × va_E} (h : (Wn Γ n g)[k]? = some q) : k < n ∧ q = (Γ.1 + k, g k) := by
  have hk : k < n := by
    have := (List.getElem?_eq_some_iff.mp h).1
    simpa [Wn] using this
  rw [Wn_get hk] at h
  exact ⟨hk, (Option.some.inj h).symm⟩
theorem Wn_D (Γ : Gm) (n : Nat) (g : Nat → va_E) : va_D (fun q => Γ.1 ≤ q) (Wn Γ n g) := by
  refine ⟨fun i j p q hi hj hpq => ?_, fun k q hk => ?_⟩
  · obtain ⟨-, rfl⟩ := Wn_some hi
    obtain ⟨-, rfl⟩ := Wn_some hj
    have h9 : Γ.1 + i = Γ.1 + j := hpq
    omega
  · obtain ⟨-, rfl⟩ := Wn_some hk
    exact Nat.le_add_right _ _
theorem Wn_set {Γ : Gm} {n q : Nat} {g g' : Nat → va_E} {e : va_E} (hq : q < n) (he : g' q = e) (hne : ∀ j, j ≠ q → g' j = g j) : (Wn Γ n g).set q (Γ.1 + q, e) = Wn Γ n g' := by
  apply List.ext_getElem?
  intro k
  by_cases hk : k = q
  · subst hk
    rw [List.getElem?_set_self (by simp [Wn]; exact hq), Wn_get hq, he]
  · rw [List.getElem?_set_ne (Ne.symm hk)]
    by_cases h9 : k < n
    · rw [Wn_get h9, Wn_get h9, hne k hk]
    · rw [List.getElem?_eq_none (by simp [Wn]; omega), List.getElem?_eq_none (by simp [Wn]; omega)]
theorem Wn_congr {Γ : Gm} {n : Nat} {g g' : Nat → va_E} (h : ∀ j, j < n → g j = g' j) : Wn Γ n g = Wn Γ n g' := by
  unfold Wn
  exact List.map_congr_left fun j hj => by rw [h j (List.mem_range.mp hj)]
def shp (g0 : Nat → va_E) (q : Nat) (e : va_E) (b : Nat → va_E) : Nat → va_E := fun j => if j < q then g0 j else if j = q then e else b j
def shI (Γ : Gm) (g0 : Nat → va_E) (q : Nat) : Nat → va_E := fun j => if j < q then g0 j else ini Γ j
theorem shp_at {g0 : Nat → va_E} {q : Nat} {e : va_E} {b : Nat → va_E} : shp g0 q e b q = e := by
  unfold shp
  rw [if_neg (Nat.lt_irrefl q), if_pos rfl]
theorem shp_gt {g0 : Nat → va_E} {q j : Nat} {e : va_E} {b : Nat → va_E} (h : q < j) : shp g0 q e b j = b j := by
  unfold shp
  rw [if_neg (by omega), if_neg (by omega)]
theorem shp_ne {g0 : Nat → va_E} {q j : Nat} {e e' : va_E} {b : Nat → va_E} (h : j ≠ q) : shp g0 q e' b j = shp g0 q e b j := by
  unfold shp
  rw [if_neg h, if_neg h]
/-- a child is made: what lay before stays, its own part is as made -/
theorem shI_shp {Γ : Gm} {g0 : Nat → va_E} {q n n' : Nat} {e : va_E} {b : Nat → va_E} (hq : q < n) (hb : ∀ j, n ≤ j → j < n' → b j = ini Γ j) : ∀ j, j < n' → shI Γ (shp g0 q e b) n j = shp g0 q e b j := by
  intro j hj
  unfold shI
  by_cases h : j < n
  · rw [if_pos h]
  · rw [if_neg h, shp_gt (by omega), hb j (by omega) hj]
theorem shp_shI {Γ : Gm} {g0 : Nat → va_E} {q n' : Nat} {e : va_E} {b : Nat → va_E} (he : e = ini Γ q) (hb : ∀ j, q < j → j < n' → b j = ini Γ j) : ∀ j, j < n' → shp g0 q e b j = shI Γ g0 q j := by
  intro j hj
  unfold shp shI
  by_cases h : j < q
  · rw [if_pos h, if_pos h]
  · rw [if_neg h, if_neg h]
    by_cases h2 : j = q
    · rw [if_pos h2, he, h2]
    · rw [if_neg h2, hb j (by omega) hj]
def N (p : Program) (l : Launch) (e : Env) (R : Room) (s : State) (m : MethodId) (args : Array Value) (below : List Frame) (meth : Method) (c : Code) (Γ : Gm) (D : va_G) (cells slots : Nat) (Q : State → Prop) (n : Nat) (g : Nat → va_E) (pc : Nat) (lv : List (Option Value)) (st : List Value) : Prop :=
  ∀ (H : Heap) (locs : List Loc) (ls : Array Slot), va_P D vCl (Wn Γ n g) H → va_S (fun q => Γ.1 ≤ q) s.heap H locs → lvs ls c.maxLocals lv → W p l e R s m args below meth c H locs cells slots Q (F0 m pc ls st)
def PcN (Γ : Gm) (D : va_G) (s0 : State) (n : Nat) (g : Nat → va_E) (av : List Value) : Array Value → State → Prop := fun v U =>
  v = av.toArray ∧ s0.WarmedH U.vm ∧ (Γ.1 ≤ U.heap.size ∧ ∀ q : Nat, q < Γ.1 → U.heap[q]? = s0.heap[q]?) ∧ U.heap.size = Γ.1 + n ∧ va_P D vCl (Wn Γ n g) U.heap
def QcN (Γ : Gm) (D : va_G) (n : Nat) (g : Nat → va_E) : Array Value → State → Outcome → State → Prop := fun _ st o t =>
  o = .returned none ∧ va_P D vCl (Wn Γ n g) t.heap ∧ va_F (fun q => Γ.1 ≤ q) st t
/-- a constructor's contract: from n cells g to n' cells g' -/
def CN (l : Launch) (Γ : Gm) (D : va_G) (s0 : State) (y : MethodName) (cc : ByteArray) (nL : Nat) (fr mc ms lo : Nat) (av : List Value) (n : Nat) (g : Nat → va_E) (n' : Nat) (g' : Nat → va_E) : Prop :=
  Met l y (wA y cc nL none) { frames := fr, cells := mc, slots := ms, locals := lo } (PcN Γ D s0 n g av) (QcN Γ D n' g') mc ms (frB Γ)
section CTOR
variable {p : Program} {l : Launch} {e : Env} {R : Room} {s : State} {m : MethodId} {args : Array Value} {below : List Frame} {meth : Method} {c : Code} {Γ : Gm} {D : va_G} {s0 : State} {cells slots : Nat} {Q : State → Prop} {own : String} {cc : ByteArray} {nL : Nat} {pc : Nat} {lv : List (Option Value)} {st : List Value} {mc ms n : Nat} {g g0 : Nat → va_E} {q : Nat} {b : Nat → va_E}
theorem n_iconst (X : Cx p l s m args meth c Γ D s0 own cc nL) {k : Int} (v : Int32) (hd : decode cc pc = .ok (.iconst k, 1)) (hv : Int32.ofInt k = v) (kk : N p l e R s m args below meth c Γ D cells slots Q n g (pc + 1) lv (.int v :: st)) : N p l e R s m args below meth c Γ D cells slots Q n g pc lv st :=
  fun H locs ls hP hS hl => lv_iconst X.1 X.2.1 hd hv (kk H locs ls hP hS hl)
theorem n_bipush (X : Cx p l s m args meth c Γ D s0 own cc nL) {k : Int} (v : Int32) (hd : decode cc pc = .ok (.bipush k, 2)) (hv : (Int8.ofInt k).toInt32 = v) (kk : N p l e R s m args below meth c Γ D cells slots Q n g (pc + 2) lv (.int v :: st)) : N p l e R s m args below meth c Γ D cells slots Q n g pc lv st :=
  fun H locs ls hP hS hl => lv_bipush X.1 X.2.1 hd hv (kk H locs ls hP hS hl)
theorem n_sipush (X : Cx p l s m args meth c Γ D s0 own cc nL) {k : Int} (v : Int32) (hd : decode cc pc = .ok (.sipush k, 3)) (hv : (Int16.ofInt k).toInt32 = v) (kk : N p l e R s m args below meth c Γ D cells slots Q n g (pc + 3) lv (.int v :: st)) : N p l e R s m args below meth c Γ D cells slots Q n g pc lv st :=
  fun H locs ls hP hS hl => lv_sipush X.1 X.2.1 hd hv (kk H locs ls hP hS hl)
theorem n_iload_n (X : Cx p l s m args meth c Γ D s0 own cc nL) {k : Fin 4} {i : Nat} {x : Int32} (hd : decode cc pc = .ok (.iload_n k, 1)) (hi : (k : Nat) = i) (hl : lv[i]? = some (some (.int x))) (kk : N p l e R s m args below meth c Γ D cells slots Q n g (pc + 1) lv (.int x :: st)) : N p l e R s m args below meth c Γ D cells slots Q n g pc lv st :=
  fun H locs ls hP hS h => lv_iload_n X.1 X.2.1 hd hi (lvs_at h hl) (kk H locs ls hP hS h)
theorem n_aload_n (X : Cx p l s m args meth c Γ D s0 own cc nL) {k : Fin 4} {i : Nat} {x : Nat} (hd : decode cc pc = .ok (.aload_n k, 1)) (hi : (k : Nat) = i) (hl : lv[i]? = some (some (.ref x))) (kk : N p l e R s m args below meth c Γ D cells slots Q n g (pc + 1) lv (.ref x :: st)) : N p l e R s m args below meth c Γ D cells slots Q n g pc lv st :=
  fun H locs ls hP hS h => lv_aload_n X.1 X.2.1 hd hi (lvs_at h hl) (kk H locs ls hP hS h)
theorem n_istore_n (X : Cx p l s m args meth c Γ D s0 own cc nL) {k : Fin 4} {i : Nat} {x : Int32} (hd : decode cc pc = .ok (.istore_n k, 1)) (hi : (k : Nat) = i) (hn : i < nL) (kk : N p l e R s m args below meth c Γ D cells slots Q n g (pc + 1) (lv.set i (some (.int x))) st) : N p l e R s m args below meth c Γ D cells slots Q n g pc lv (.int x :: st) :=
  fun H locs ls hP hS h => lv_istore_n X.1 X.2.1 hd hi h.1 (by rw [X.2.2.1]; exact hn) rfl (fun ls' h' => kk H locs ls' hP hS (lvs_set h.2 rfl h'))
theorem n_astore_n (X : Cx p l s m args meth c Γ D s0 own cc nL) {k : Fin 4} {i : Nat} {x : Nat} (hd : decode cc pc = .ok (.astore_n k, 1)) (hi : (k : Nat) = i) (hn : i < nL) (kk : N p l e R s m args below meth c Γ D cells slots Q n g (pc + 1) (lv.set i (some (.ref x))) st) : N p l e R s m args below meth c Γ D cells slots Q n g pc lv (.ref x :: st) :=
  fun H locs ls hP hS h => lv_astore_n X.1 X.2.1 hd hi h.1 (by rw [X.2.2.1]; exact hn) rfl (fun ls' h' => kk H locs ls' hP hS (lvs_set h.2 rfl h'))
theorem n_iinc (X : Cx p l s m args meth c Γ D s0 own cc nL) {i : Nat} {k : Int} {x : Int32} (v : Int32) {x' : Int32} (hd : decode cc pc = .ok (.iinc i k, 3)) (hl : lv[i]? = some (some (.int x))) (hv : Int32.ofInt k = v) (hx : x + v = x') (hn : i < nL) (kk : N p l e R s m args below meth c Γ D cells slots Q n g (pc + 3) (lv.set i (some (.int x'))) st) : N p l e R s m args below meth c Γ D cells slots Q n g pc lv st :=
  fun H locs ls hP hS h => by
    obtain ⟨k0, hk0⟩ := List.getElem?_of_mem (lvl_in.mpr hl)
    exact lv_iinc X.1 X.2.1 hd h.1 hk0 (by rw [hv, hx]) (by rw [X.2.2.1]; exact hn) rfl (fun ls' h' => kk H locs ls' hP hS (lvs_set h.2 rfl h'))
theorem n_dup (X : Cx p l s m args meth c Γ D s0 own cc nL) {v : Value} (hd : decode cc pc = .ok (.dup, 1)) (hv : v.category = 1) (kk : N p l e R s m args below meth c Γ D cells slots Q n g (pc + 1) lv (v :: v :: st)) : N p l e R s m args below meth c Γ D cells slots Q n g pc lv (v :: st) :=
  fun H locs ls hP hS h => lv_dup X.1 X.2.1 hd hv (kk H locs ls hP hS h)
theorem n_goto (X : Cx p l s m args meth c Γ D s0 own cc nL) {off : Int} (tgt : Nat) (hd : decode cc pc = .ok (.goto off, 3)) (ht : (pc : Int) + off = (tgt : Int)) (kk : N p l e R s m args below meth c Γ D cells slots Q n g tgt lv st) : N p l e R s m args below meth c Γ D cells slots Q n g pc lv st :=
  fun H locs ls hP hS h => lv_goto X.1 X.2.1 hd ht (kk H locs ls hP hS h)
theorem n_if_le (X : Cx p l s m args meth c Γ D s0 own cc nL) {x : Int32} {off : Int} (tgt : Nat) (hd : decode cc pc = .ok (.ifCond .le off, 3)) (ht : (pc : Int) + off = (tgt : Int)) (hx : 0 < x) (kk : N p l e R s m args below meth c Γ D cells slots Q n g (pc + 3) lv st) : N p l e R s m args below meth c Γ D cells slots Q n g pc lv (.int x :: st) :=
  fun H locs ls hP hS h => lv_if_le X.1 X.2.1 hd ht (fun z => absurd hx (Int32.not_lt.mpr z)) (fun _ => kk H locs ls hP hS h)
theorem n_icmp_ge (X : Cx p l s m args meth c Γ D s0 own cc nL) {x y : Int32} {off : Int} (tgt : Nat) (hd : decode cc pc = .ok (.if_icmp .ge off, 3)) (ht : (pc : Int) + off = (tgt : Int)) (kt : ¬ x < y → N p l e R s m args below meth c Γ D cells slots Q n g tgt lv st) (kf : x < y → N p l e R s m args below meth c Γ D cells slots Q n g (pc + 3) lv st) : N p l e R s m args below meth c Γ D cells slots Q n g pc lv (.int y :: .int x :: st) :=
  fun H locs ls hP hS h => lv_icmp_ge X.1 X.2.1 hd ht (fun z => kt (Int32.not_lt.mpr z) H locs ls hP hS h) (fun z => kf (Int32.not_le.mp z) H locs ls hP hS h)
theorem n_congr {g' : Nat → va_E} (h : ∀ j, j < n → g' j = g j) (kk : N p l e R s m args below meth c Γ D cells slots Q n g pc lv st) : N p l e R s m args below meth c Γ D cells slots Q n g' pc lv st :=
  fun H locs ls hP hS hl => kk H locs ls (by rw [← Wn_congr h]; exact hP) hS hl
theorem n_widen {c2 s2 : Nat} (h1 : cells ≤ c2) (h2 : slots ≤ s2) (kk : N p l e R s m args below meth c Γ D c2 s2 Q n g pc lv st) : N p l e R s m args below meth c Γ D cells slots Q n g pc lv st :=
  fun H locs ls hP hS h => W.widen h1 h2 (kk H locs ls hP hS h)
/-- the heap's end, by what was made since the start -/
theorem n_size {H : Heap} {locs : List Loc} {T : State} (hT : T.heap = H) (hb : s.heap.size + cells = Γ.1 + n) (hn : 0 < n) (hP : va_P D vCl (Wn Γ n g) H) (X : Stand p l e R s m args below meth c T locs cells slots) : H.size = Γ.1 + n := by
  have h1 : T.heap.size ≤ s.heap.size + cells := X.same.2.2.1
  have h2 := (hP (n - 1) _ (Wn_get (by omega))).lt
  rw [hT] at h1
  have h3 : Γ.1 + (n - 1) < H.size := h2
  omega
theorem n_new (X : Cx p l s m args meth c Γ D s0 own cc nL) {C : String} {T : u_T} {N9 ci idx : Nat} {fs : List Value} (hb : s.heap.size + cells = Γ.1 + n) (hn : 0 < n) (hin : ∀ w ∈ u_ws C T N9, w ∈ lwG) (ty : Nat → FieldType) (hty : ∀ k, k < N9 → parseFieldDescriptor (T k).2.2.1 = some (ty k)) (hcl : Cond.classLink own idx C ∈ lwG) (hinst : Cond.instantiable C N9 ∈ lwG) (hini : Cond.initialized C ∈ lwG) (hc : vCl[ci]? = some (C, T, N9)) (hfs : ∀ j, j < N9 → defaultValue (ty j) = vp_V fs j)
    (hcells : cells + 1 ≤ R.cells) (hslots : slots + N9 ≤ R.slots) (hd : decode cc pc = .ok (.new idx, 3)) (kk : N p l e R s m args below meth c Γ D (cells + 1) (slots + N9) Q (n + 1) (shp g n (.inr (ci, fs)) (ini Γ)) (pc + 3) lv (.ref (Γ.1 + n) :: st)) : N p l e R s m args below meth c Γ D cells slots Q n g pc lv st := by
  intro H locs ls hP hS h T9 hT9 X9
  have hz := n_size hT9 hb hn hP X9
  have hKn := X.2.2.2.2.2.1.1 ci _ hc
  suffices hr : W p l e R s m args below meth c H locs cells slots Q (F0 m pc ls st) from hr T9 hT9 X9
  refine W.newcK X.1 X.2.1 X.2.2.2.1 (X.2.2.2.2.1 _ hcl) (X.2.2.2.2.1 _ hinst) (X.2.2.2.2.1 _ hini) rfl hd hcells hslots hKn.2.1 hz (fun H1 kC hkC e1 z1 o1 => ?_)
  refine kk H1 locs ls (fun k x hk => ?_) ⟨Nat.le_trans hS.1 (by omega), fun x h1 h2 => (o1 x (by have := hS.1; omega)).trans (hS.2.1 x h1 h2), hS.2.2⟩ h
  obtain ⟨hk1, rfl⟩ := Wn_some hk
  by_cases hkn : k = n
  · subst hkn
    rw [shp_at]
    exact ⟨_, hc, (u_born ty X.2.2.2.2.1 hin hKn hkC e1 hty).to hfs⟩
  · have hkl : k < n := by omega
    have h9 : shp g n (.inr (ci, fs)) (ini Γ) k = g k := by unfold shp; rw [if_pos hkl]
    rw [h9]
    have h8 := hP k _ (Wn_get hkl)
    exact h8.kept (o1 _ (by show Γ.1 + k < Γ.1 + n; omega))
theorem n_newa (X : Cx p l s m args meth c Γ D s0 own cc nL) {atype : ArrayType} {ty : FieldType} {x : Int32} {len t0 : Nat} {cA : ClassId} {a0 : vp_A} (hb : s.heap.size + cells = Γ.1 + n) (hn : 0 < n) (harr : Cond.arrayClass (newarray.typeOf atype) ∈ lwG) (hty : newarray.typeOf atype = ty) (ht : (tysOf Γ)[t0]? = some (cA, ty)) (hno : ∀ C, ty ≠ .object C) (ha : vp_cell cA a0 = arrV cA len (fun _ => defaultValue ty)) (hx : ¬ x < 0) (hlen : x.toNatClampNeg = len) (hbytes : len * componentBytes ty ≤ 536870912) (hg : g n = .inl (cA, a0))
    (hcells : cells + 1 ≤ R.cells) (hslots : slots + len ≤ R.slots) (hd : decode cc pc = .ok (.newarray atype, 2)) (kk : N p l e R s m args below meth c Γ D (cells + 1) (slots + len) Q (n + 1) g (pc + 2) lv (.ref (Γ.1 + n) :: st)) : N p l e R s m args below meth c Γ D cells slots Q n g pc lv (.int x :: st) := by
  subst hty
  intro H locs ls hP hS h T9 hT9 X9
  have hz := n_size hT9 hb hn hP X9
  suffices hr : W p l e R s m args below meth c H locs cells slots Q (F0 m pc ls (.int x :: st)) from hr T9 hT9 X9
  refine va_newaK X.1 X.2.1 (X.2.2.2.2.1 _ harr) rfl hd rfl hx hlen hbytes hcells hslots hz (fun H1 cB e1 z1 o1 hAr hNm => ?_)
  have hcA : cB = cA := by
    have h1 := (X.2.2.2.2.2.1.2 t0 _ ht).2
    have h2 : s.vm.findClass ("[" ++ (newarray.typeOf atype).toString) = some cA := by
      unfold va_RA at h1
      generalize hG : newarray.typeOf atype = ty at h1 hno ⊢
      cases ty <;> first | exact absurd rfl (hno _) | exact h1
    rw [hNm] at h2
    exact Option.some.inj h2
  subst hcA
  refine kk H1 locs ls (fun k y hk => ?_) ⟨Nat.le_trans hS.1 (by omega), fun y h1 h2 => (o1 y (by have := hS.1; omega)).trans (hS.2.1 y h1 h2), hS.2.2⟩ h
  obtain ⟨hk1, rfl⟩ := Wn_some hk
  by_cases hkn : k = n
  · subst hkn
    rw [hg]
    show H1[Γ.1 + k]? = some (vp_cell _ _)
    rw [ha]
    exact e1
  · have hkl : k < n := by omega
    have h8 := hP k _ (Wn_get hkl)
    exact h8.kept (o1 _ (by show Γ.1 + k < Γ.1 + n; omega))
theorem n_anew (X : Cx p l s m args meth c Γ D s0 own cc nL) {C : String} {idx : Nat} {x : Int32} {len t0 : Nat} {cA : ClassId} (hAO : va_AO C s0) (hb : s.heap.size + cells = Γ.1 + n) (hn : 0 < n) (hcl : Cond.classLink own idx C ∈ lwG) (ht : (tysOf Γ)[t0]? = some (cA, .object C)) (hx : ¬ x < 0) (hlen : x.toNatClampNeg = len) (hbytes : len * 4 ≤ 536870912) (hg : g n = .inl (cA, len, .inr (.inr (.inr (.inr (fun _ => none))))))
    (hcells : cells + 1 ≤ R.cells) (hslots : slots + len ≤ R.slots) (hd : decode cc pc = .ok (.anewarray idx, 3)) (kk : N p l e R s m args below meth c Γ D (cells + 1) (slots + len) Q (n + 1) g (pc + 3) lv (.ref (Γ.1 + n) :: st)) : N p l e R s m args below meth c Γ D cells slots Q n g pc lv (.int x :: st) := by
  subst hlen
  intro H locs ls hP hS h T9 hT9 X9
  have hz := n_size hT9 hb hn hP X9
  suffices hr : W p l e R s m args below meth c H locs cells slots Q (F0 m pc ls (.int x :: st)) from hr T9 hT9 X9
  refine W.anew X.1 X.2.1 X.2.2.2.1 (X.2.2.2.2.1 _ hcl) (va_AO.use (va_AO.moved X.2.2.2.2.2.2.1.alike hAO)) rfl hd rfl hx hbytes hcells hslots (fun cB kA comp f1 f2 f3 f4 => ?_)
  have hcA : cB = cA := by
    obtain ⟨-, -, -, -, -, h2⟩ := (X.2.2.2.2.2.1.2 t0 _ ht).2
    rw [f1] at h2
    exact Option.some.inj h2
  subst hcA
  generalize hH1 : H.push ({ cls := cB, slots := Array.replicate x.toNatClampNeg .null, vm := .none } : Cell) = H1
  have z1 : H1.size = H.size + 1 := by rw [← hH1, Array.size_push]
  have e1 : H1[H.size]? = some (arrV cB x.toNatClampNeg (fun _ => .null)) := by rw [← hH1, Array.getElem?_push_size, ← arrV_new]
  have o1 : ∀ q : Nat, q < H.size → H1[q]? = H[q]? := fun q hq => by rw [← hH1, Array.getElem?_push, if_neg (Nat.ne_of_lt hq)]
  show W p l e R s m args below meth c H1 locs (cells + 1) (slots + x.toNatClampNeg) Q (F0 m (pc + 3) ls (.ref H.size :: st))
  rw [hz] at e1 z1 ⊢
  refine kk H1 locs ls (fun k y hk => ?_) ⟨Nat.le_trans hS.1 (by omega), fun y h1 h2 => (o1 y (by have := hS.1; omega)).trans (hS.2.1 y h1 h2), hS.2.2⟩ h
  obtain ⟨hk1, rfl⟩ := Wn_some hk
  by_cases hkn : k = n
  · subst hkn
    rw [hg]
    show H1[Γ.1 + k]? = some (vp_cell _ _)
    rw [vp_cell_q]
    exact e1
  · have hkl : k < n := by omega
    have h8 := hP k _ (Wn_get hkl)
    exact h8.kept (o1 _ (by show Γ.1 + k < H.size; omega))
theorem n_put (X : Cx p l s m args meth c Γ D s0 own cc nL) {C ref : String} {T : u_T} {N9 ci k idx : Nat} {ty : Nat → FieldType} {v : Value} {fs : List Value} (fs' : List Value) (hq : q < n) (hc : vCl[ci]? = some (C, T, N9)) (hin : ∀ w ∈ u_ws C T N9, w ∈ lwG)
    (hty : ∀ k, k < N9 → parseFieldDescriptor (T k).2.2.1 = some (ty k)) (hnm : ∀ a, a < N9 → ∀ b, b < N9 → a ≠ b → (T a).2.1 ≠ (T b).2.1) (hk : k < N9) (hl : Cond.fieldLink own idx ref (T k).2.1 (T k).2.2.1 ∈ lwG)
    (hsame : (T k).1 = ref ∨ Cond.sameField ref (T k).1 (T k).2.1 (T k).2.2.1 ∈ lwG) (hfin : (T k).2.2.2 = false) (hn : narrow (ty k) v = v) (hfit : fits (ty k) v = true) (hlen : k < fs.length) (hfs : fs.set k v = fs') (hd : decode cc pc = .ok (.putfield idx, 3)) (kk : N p l e R s m args below meth c Γ D cells slots Q n (shp g0 q (.inr (ci, fs')) b) (pc + 3) lv st) : N p l e R s m args below meth c Γ D cells slots Q n (shp g0 q (.inr (ci, fs)) b) pc lv (v :: .ref (Γ.1 + q) :: st) := by
  subst hfs
  exact fun H locs ls hP hS h => va_put X.1 X.2.1 X.2.2.2.2.1 hin ty hty hnm X.2.2.2.1 X.2.2.2.2.2.1 hP (Wn_D Γ n _) hS q (by rw [Wn_get hq, shp_at]) hc k hk (X.2.2.2.2.1 _ hl)
    (fun x hx => by rcases hsame with h9 | h9
                    · rw [← h9]; exact hx
                    · exact u_same (X.2.2.2.2.1 _ h9) x hx) hfin (hty k hk) hn hfit hlen hd (fun H1 locs1 hP1 _ hS1 => kk H1 locs1 ls (by rw [← Wn_set hq shp_at (fun j hj => shp_ne hj)]; exact hP1) hS1 h)
theorem n_putF (X : Cx p l s m args meth c Γ D s0 own cc nL) (hmn : meth.name = "<init>") {C ref : String} {T : u_T} {N9 ci k idx : Nat} {ty : Nat → FieldType} {v : Value} {fs : List Value} (fs' : List Value) (hq : q < n) (hc : vCl[ci]? = some (C, T, N9)) (hin : ∀ w ∈ u_ws C T N9, w ∈ lwG)
    (hty : ∀ k, k < N9 → parseFieldDescriptor (T k).2.2.1 = some (ty k)) (hnm : ∀ a, a < N9 → ∀ b, b < N9 → a ≠ b → (T a).2.1 ≠ (T b).2.1) (hk : k < N9) (hl : Cond.fieldLink own idx ref (T k).2.1 (T k).2.2.1 ∈ lwG)
    (hsame : (T k).1 = ref ∨ Cond.sameField ref (T k).1 (T k).2.1 (T k).2.2.1 ∈ lwG) (hfin : (T k).2.2.2 = true) (hdecl : (T k).1 = own) (hn : narrow (ty k) v = v) (hfit : fits (ty k) v = true) (hlen : k < fs.length) (hfs : fs.set k v = fs') (hd : decode cc pc = .ok (.putfield idx, 3)) (kk : N p l e R s m args below meth c Γ D cells slots Q n (shp g0 q (.inr (ci, fs')) b) (pc + 3) lv st) : N p l e R s m args below meth c Γ D cells slots Q n (shp g0 q (.inr (ci, fs)) b) pc lv (v :: .ref (Γ.1 + q) :: st) := by
  subst hfs
  exact fun H locs ls hP hS h => va_putF X.1 X.2.1 X.2.2.2.2.1 hin ty hty hnm X.2.2.2.1 X.2.2.2.2.2.1 hP (Wn_D Γ n _) hS q (by rw [Wn_get hq, shp_at]) hc k hk (X.2.2.2.2.1 _ hl)
    (fun x hx => by rcases hsame with h9 | h9
                    · rw [← h9]; exact hx
                    · exact u_same (X.2.2.2.2.1 _ h9) x hx) hfin hmn hdecl (hty k hk) hn hfit hlen hd (fun H1 locs1 hP1 _ hS1 => kk H1 locs1 ls (by rw [← Wn_set hq shp_at (fun j hj => shp_ne hj)]; exact hP1) hS1 h)
theorem n_getf (X : Cx p l s m args meth c Γ D s0 own cc nL) {C ref : String} {T : u_T} {N9 ci k idx : Nat} {v : Value} {fs : List Value} (hq : q < n) (hc : vCl[ci]? = some (C, T, N9)) (hin : ∀ w ∈ u_ws C T N9, w ∈ lwG) (hk : k < N9) (hl : Cond.fieldLink own idx ref (T k).2.1 (T k).2.2.1 ∈ lwG)
    (hsame : (T k).1 = ref) (hv : fs[k]? = some v) (hd : decode cc pc = .ok (.getfield idx, 3)) (kk : N p l e R s m args below meth c Γ D cells slots Q n (shp g0 q (.inr (ci, fs)) b) (pc + 3) lv (v :: st)) : N p l e R s m args below meth c Γ D cells slots Q n (shp g0 q (.inr (ci, fs)) b) pc lv (.ref (Γ.1 + q) :: st) :=
  fun H locs ls hP hS h => va_get X.1 X.2.1 X.2.2.2.2.1 hin X.2.2.2.1 X.2.2.2.2.2.1 hP q (by rw [Wn_get hq, shp_at]) hc k hk (X.2.2.2.2.1 _ hl) (fun x hx => by rw [← hsame]; exact hx) hv hd (kk H locs ls hP hS h)
theorem n_objInit (X : Cx p l s m args meth c Γ D s0 own cc nL) {idx a : Nat} (hl : Cond.methodLink own idx Lib.objectInit ∈ lwG) (hi : Cond.instanceMethod Lib.objectInit ∈ lwG) (hc : Cond.code Lib.objectInit ⟨#[0xb1]⟩ 1 none ∈ lwG) (hf : 1 ≤ R.frames) (hlo : (st.map fun v => v.category).sum + 12 ≤ R.locals) (hd : decode cc pc = .ok (.invokespecial idx, 3)) (kk : N p l e R s m args below meth c Γ D cells slots Q n g (pc + 3) lv st) : N p l e R s m args below meth c Γ D cells slots Q n g pc lv (.ref a :: st) :=
  fun H locs ls hP hS h => W.objInit X.1 X.2.1 X.2.2.2.1 (X.2.2.2.2.1 _ hl) (X.2.2.2.2.1 _ hi) (X.2.2.2.2.1 _ hc) rfl h.1.1 rfl hd hf (by show 2 * 0 + _ + 12 ≤ _; rw [Nat.mul_zero, Nat.zero_add]; exact hlo) (kk H locs ls hP hS h)
theorem PcN_blind (av : List Value) : FrameBlind (PcN Γ D s0 n g av) := by
  intro a U g9 mk h
  obtain ⟨h1, h2, h3, h4, h5⟩ := h
  exact ⟨h1, h2, h3, h4, h5⟩
/-- a constructor is called -/
theorem n_call (X : Cx p l s m args meth c Γ D s0 own cc nL) {y : MethodName} {yc : ByteArray} {yL idx fr cmc cms lo k a n' : Nat} {g' : Nat → va_E} (As rest : List Value) (hM : CN l Γ D s0 y yc yL fr cmc cms lo (.ref a :: As) n g n' g') (hb : s.heap.size + cells = Γ.1 + n) (hn0 : 0 < n) (hcode : Cond.code y yc yL none ∈ lwG) (hini : Cond.initialized y.cls ∈ lwG) (hl : Cond.methodLink own idx y ∈ lwG) (hin : Cond.instanceMethod y ∈ lwG) (hy1 : y.name = "<init>")
    (hy : y.cls ≠ "java/lang/invoke/MethodHandle" ∧ y.cls ≠ "java/lang/invoke/VarHandle" ∧ (parseMethodDescriptor y.desc).map (fun d => d.parameters.length) = some k) (hn : As.length = k) (hR : fr + 1 ≤ R.frames ∧ 8 + (yL + 11) + lo ≤ R.locals) (hcs : cells + cmc ≤ R.cells ∧ slots + cms ≤ R.slots) (hrest : (rest.map fun v => v.category).sum ≤ 8) (hd : decode cc pc = .ok (.invokespecial idx, 3)) (hst : st = As.reverse ++ .ref a :: rest)
    (kk : N p l e R s m args below meth c Γ D (cells + cmc) (slots + cms) Q n' g' (pc + 3) lv rest) : N p l e R s m args below meth c Γ D cells slots Q n g pc lv st := by
  intro H locs ls hP hS h T9 hT9 X9
  have hz := n_size hT9 hb hn0 hP X9
  have hr := va_runI (meth := meth) (cells := cells) (slots := slots) (locs := locs) (e := e) (below := below) (As := As) (rest := rest) (b := a) (g := F0 m pc ls st) ⟨X.1, X.2.1, X.2.2.1, X.2.2.2.1, X.2.2.2.2.1⟩ hM (cwI k X.2.2.2.2.1 (gA0 hcode) rfl rfl rfl (X.2.2.2.2.1 _ hini) (X.2.2.2.2.1 _ hl) (X.2.2.2.2.1 _ hin) hy1 hy hR)
    ⟨PcN_blind _, fun U hU hW => ⟨rfl, State.WarmedH.trans X.2.2.2.2.2.2.1 hW, ⟨by rw [hU]; exact Nat.le_trans X.2.2.2.2.2.2.2.1.1 hS.1, fun q hq => by
      rw [hU, hS.2.1 q (Nat.lt_of_lt_of_le hq X.2.2.2.2.2.2.2.1.1) (by omega)]
      exact X.2.2.2.2.2.2.2.1.2 q hq⟩, by rw [hU]; exact hz, by rw [hU]; exact hP⟩⟩ rfl hn (by rw [← X.2.2.1]; exact h.1.1) hst (lv_room hrest) hd hcs
  obtain ⟨v, st₀, t, T', L, h0, X', hL, e1, e2, ⟨hv, hP', hz2, hk⟩, stp⟩ := hr T9 hT9 X9
  cases hv
  rw [h0] at hz2 hk
  obtain ⟨t2, a1, b1⟩ := kk T'.heap (locs ++ L) ls (by rw [e1]; exact hP') ⟨Nat.le_trans hS.1 (by rw [e1]; exact hz2), fun q h1 h2 => by rw [e1, hk q (Nat.lt_of_lt_of_le h1 hS.1) h2]; exact hS.2.1 q h1 h2, fun q hq => by
      rcases List.mem_append.mp hq with h9 | h9
      · exact hS.2.2 q h9
      · exact hL q h9⟩ h T' rfl X'
  exact ⟨t2, stp t2 a1, b1⟩
theorem n_vret (X : Cx p l s m args meth c Γ D s0 own cc nL) {g' : Nat → va_E} (hr : meth.sig.returnType = none) (hd : decode cc pc = .ok (.return_, 1)) (hc : cells ≤ mc) (hs : slots ≤ ms) (hg : ∀ j, j < n → g j = g' j) : N p l e R s m args below meth c Γ D cells slots (MQ below (QcN Γ D n g') args s mc ms (frB Γ)) n g pc lv [] :=
  fun H locs ls hP hS h => W.widen hc hs (W.vret X.1 X.2.1 hr (fun t ht hW => ⟨rfl, by rw [ht, ← Wn_congr hg]; exact hP, hS.F ht⟩) hS.2.2 hd X.2.2.2.2.2.2.2.2.1)
theorem n_met {y : MethodName} {fr lo n' : Nat} {g' : Nat → va_E} {av : List Value} (hG : Gok l Γ D s0) (hy : plainName y.cls = true) (ho : y.cls = own) (hyn : y.name = "<init>") (hcat9 : av.all (fun v => v.category == 1) = true) (hlen : av.length ≤ nL)
    (body : ∀ p e s m args below meth c, Cx p l s m args meth c Γ D s0 own cc nL → meth.name = "<init>" → s.heap.size = Γ.1 + n → meth.sig.returnType = none → N p l e { frames := fr, cells := mc, slots := ms, locals := lo } s m args below meth c Γ D 0 0 (MQ below (QcN Γ D n' g') args s mc ms (frB Γ)) n g 0 (av.map some ++ List.replicate (nL - av.length) none) []) : CN l Γ D s0 y cc nL fr mc ms lo av n g n' g' := by
  have hcat : ∀ v ∈ av, v.category = 1 := fun v hv => by have := List.all_eq_true.mp hcat9 v hv; simpa using this
  refine Met.ofW (cc := cc) (maxL := nL) (ret := none) hy rfl ?_
  intro p e s m args below meth c s₁ B hml hv
  obtain ⟨rfl, hvm, hbe, hsz9, hP⟩ := hv
  have hts := atoms_spec (ws := wA y cc nL none) B.pre
  have X : Cx p l s m av.toArray meth c Γ D s0 own cc nL := ⟨B.exec, B.bytes, hml, by rw [← ho]; exact findClass_of_methodNamed B.named, fun w hw => hts w (List.mem_cons_of_mem _ hw), va_K.moved hvm.alike hG.1, hvm, hbe, B.notSynchronized, hG⟩
  have hsl : lg_sl av = av.map Slot.val := by
    have h9 : ∀ l9 : List Value, (∀ v ∈ l9, v.category = 1) → lg_sl l9 = l9.map Slot.val := by
      intro l9
      induction l9 with
      | nil => intro _; rfl
      | cons a t ih =>
        intro h
        have h1 := h a List.mem_cons_self
        have h2 := ih (fun v hv => h v (List.mem_cons_of_mem _ hv))
        unfold lg_sl at h2 ⊢
        rw [List.flatMap_cons, h2, if_neg (by omega)]
        rfl
    exact h9 av hcat
  have hl := lv_entry av (n := nL) (by rw [hsl, List.length_map]; exact hlen)
  rw [lg_entry_eq]
  generalize hls : (lg_sl av ++ List.replicate (nL - (lg_sl av).length) Slot.unset).toArray = ls at hl ⊢
  refine body p e s m _ below meth c X (by rw [← hyn]; exact (name_of_methodNamed B.named B.method).1) hsz9 B.returns s.heap [] ls hP va_S.rf ?_
  refine ⟨⟨by rw [hml]; exact hl.1, hl.2.1, fun q hq => ?_⟩, fun i v hi => ?_⟩
  · obtain ⟨i, v⟩ := q
    have h1 := lvl_in.mp hq
    by_cases h2 : i < av.length
    · rw [List.getElem?_append_left (by rw [List.length_map]; exact h2), List.getElem?_map] at h1
      have h3 : av[i]? = some v := by
        cases h4 : av[i]? with
        | none => rw [h4] at h1; cases h1
        | some w => rw [h4] at h1; cases h1; rfl
      rw [← hls, hsl]
      show (List.map Slot.val av ++ List.replicate (nL - (List.map Slot.val av).length) Slot.unset).toArray[i]? = _
      rw [List.getElem?_toArray, List.getElem?_append_left (by rw [List.length_map]; exact h2), List.getElem?_map, h3]
      rfl
    · rw [List.getElem?_append_right (by rw [List.length_map]; omega)] at h1
      have := List.mem_of_getElem? h1
      simp at this
  · by_cases h2 : i < av.length
    · rw [List.getElem?_append_left (by rw [List.length_map]; exact h2), List.getElem?_map] at hi
      cases h4 : av[i]? with
      | none => rw [h4] at hi; cases hi
      | some w => rw [h4] at hi; cases hi; exact hcat _ (List.mem_of_getElem? h4)
    · rw [List.getElem?_append_right (by rw [List.length_map]; omega)] at hi
      have := List.mem_of_getElem? hi
      simp at this
end CTOR

def bM (Γ : Gm) (f : Nat → Int32) : Nat → va_E := fun j => if j = 334 then .inl (Γ.2.1.1, 850, .inl f) else ini Γ j
theorem bM_ini {Γ : Gm} (j : Nat) : bM Γ (upd (upd (upd (upd (upd (fun _ => 0) 1 (-1)) 5 20) 6 1) 7 10) 12 1) j = ini Γ j := by
  unfold bM
  by_cases h : j = 334
  · subst h
    rw [if_pos rfl]
    unfold ini
    rw [ent_at (rfl : entTbl[334]? = some (3, 850))]
    rfl
  · rw [if_neg h]
theorem shp_lt9 {Γ : Gm} {g0 : Nat → va_E} {e : va_E} {f : Nat → Int32} {j : Nat} (h : j < 334) : shp g0 333 e (ini Γ) j = shp g0 333 e (bM Γ f) j := by
  unfold shp
  by_cases h1 : j < 333
  · rw [if_pos h1, if_pos h1]
  · rw [if_neg h1, if_neg h1, if_pos (by omega), if_pos (by omega)]
def bT (Γ : Gm) (k : Nat) : Nat → va_E := fun j => if j = 53 then .inl (Γ.2.1.2.2.2.1, 12, .inr (.inr (.inr (.inr (fun i => if i < k then some (Γ.1 + (129 + 17 * i)) else none))))) else ini Γ j
theorem bT0 {Γ : Gm} : bT Γ 0 53 = .inl (Γ.2.1.2.2.2.1, 12, .inr (.inr (.inr (.inr (fun _ => none))))) := by
  unfold bT
  rw [if_pos rfl]
  simp
theorem shp_lt53 {Γ : Gm} {g0 : Nat → va_E} {e : va_E} {k j : Nat} (h : j < 53) : shp g0 0 e (ini Γ) j = shp g0 0 e (bT Γ k) j := by
  unfold shp bT
  by_cases h2 : j = 0
  · subst h2
    rfl
  · simp only [if_neg (Nat.not_lt_zero j), if_neg h2, if_neg (show ¬ j = 53 by omega)]
theorem k12 {k : Nat} (h : k < 12) : Int32.ofNat k < 12 := by
  rw [Int32.lt_iff_toInt_lt, nInt_ti (by omega)]
  show (k : Int) < 12
  omega
theorem nI_s (k : Nat) : Int32.ofNat k + 1 = Int32.ofNat (k + 1) := (Int32.ofNat_add k 1).symm
section CTX
variable {p : Program} {l : Launch} {e : Env} {R : Room} {s : State} {m : MethodId} {args : Array Value} {below : List Frame} {meth : Method} {c : Code} {Γ : Gm} {D : va_G} {s0 : State} {cells slots : Nat} {Q : State → Prop} {own : String} {cc : ByteArray} {nL : Nat} {pc : Nat} {lv : List (Option Value)} {st : List Value} {mc ms n : Nat} {g g0 : Nat → va_E} {q : Nat} {b : Nat → va_E}
theorem n_kstatic (X : Cx p l s m args meth c Γ D s0 own cc nL) {idx : Nat} {nm : String} (k : Int32) (hk : inb k 31 = true) (hn : kindNm.getD k.toNatClampNeg "" = nm) (hl : Cond.fieldLink own idx "RivalWeds$Kind" nm "LRivalWeds$Kind;" ∈ lwG) (hd : decode cc pc = .ok (.getstatic idx, 3)) (kk : N p l e R s m args below meth c Γ D cells slots Q n g (pc + 3) lv (va_rf (kop Γ k) :: st)) : N p l e R s m args below meth c Γ D cells slots Q n g pc lv st := by
  obtain ⟨e1, l1⟩ := kop_in (Γ := Γ) hk
  have h := ((x_gst X).2.2.1.1 _ l1).1
  rw [hn] at h
  rw [e1] at kk
  exact fun H locs ls hP hS h9 => va_gets X.1 X.2.1 (x_Z X h) hS X.2.2.2.1 (X.2.2.2.2.1 _ hl) (fun _ h => h) hd (kk H locs ls hP hS h9)
theorem n_iastM (X : Cx p l s m args meth c Γ D s0 own cc nL) {e9 : va_E} {f f' : Nat → Int32} {i x : Int32} (hn : 334 < n) (hin : vp_in i 850) (hf : upd f i.toNatClampNeg x = f') (hd : decode cc pc = .ok (.iastore, 1)) (kk : N p l e R s m args below meth c Γ D cells slots Q n (shp g0 333 e9 (bM Γ f')) (pc + 1) lv st) : N p l e R s m args below meth c Γ D cells slots Q n (shp g0 333 e9 (bM Γ f)) pc lv (.int x :: .int i :: .ref (Γ.1 + 334) :: st) := by
  subst hf
  exact fun H locs ls hP hS h => va_iast X.1 X.2.1 X.2.2.2.2.2.1 hP (Wn_D Γ n _) hS 334 0 (n := 850) (f := f) (by rw [Wn_get hn]; rfl) rfl hin hd (fun H1 locs1 hP1 _ hS1 => kk H1 locs1 ls (by
    rw [← Wn_set (g := shp g0 333 e9 (bM Γ f)) hn (e := .inl (Γ.2.1.1, 850, .inl (upd f i.toNatClampNeg x))) rfl ?_]
    · exact hP1
    · intro j hj
      unfold shp bM
      by_cases h1 : j < 333
      · rw [if_pos h1, if_pos h1]
      · rw [if_neg h1, if_neg h1, if_neg hj, if_neg hj]) hS1 h)
theorem n_alenT (X : Cx p l s m args meth c Γ D s0 own cc nL) {e9 : va_E} {k : Nat} (hn : 53 < n) (hd : decode cc pc = .ok (.arraylength, 1)) (kk : N p l e R s m args below meth c Γ D cells slots Q n (shp g0 0 e9 (bT Γ k)) (pc + 1) lv (.int 12 :: st)) : N p l e R s m args below meth c Γ D cells slots Q n (shp g0 0 e9 (bT Γ k)) pc lv (.ref (Γ.1 + 53) :: st) :=
  fun H locs ls hP hS h => va_alen X.1 X.2.1 X.2.2.2.2.2.1 hP 53 3 (by rw [Wn_get hn]; rfl) rfl rfl hd (kk H locs ls hP hS h)
theorem n_aastT (X : Cx p l s m args meth c Γ D s0 own cc nL) {e9 : va_E} {k : Nat} (hk : k < 12) (hn : 53 < n) (hn2 : 129 + 17 * k < n) (hd : decode cc pc = .ok (.aastore, 1)) (kk : N p l e R s m args below meth c Γ D cells slots Q n (shp g0 0 e9 (bT Γ (k + 1))) (pc + 1) lv st) : N p l e R s m args below meth c Γ D cells slots Q n (shp g0 0 e9 (bT Γ k)) pc lv (.ref (Γ.1 + (129 + 17 * k)) :: .int (Int32.ofNat k) :: .ref (Γ.1 + 53) :: st) := by
  have hc9 : (Int32.ofNat k).toNatClampNeg = k := nI_clamp (n := k) (by omega)
  have hin : vp_in (Int32.ofNat k) 12 := vp_in_nI hk (by omega)
  have hT : ∃ fs9, shp g0 0 e9 (bT Γ k) (129 + 17 * k) = .inr (8, fs9) := by
    refine ⟨_, (shp_gt (by omega)).trans ((if_neg (by omega)).trans (ini_at (tk_at k hk).1 (ne334 (tk_at k hk).1 (by decide))))⟩
  obtain ⟨fs9, hT⟩ := hT
  exact fun H locs ls hP hS h => va_astq X.1 X.2.1 X.2.2.2.2.2.1 hP (Wn_D Γ n _) hS 53 3 (129 + 17 * k) 8 (n := 12) (r := (RX9, TX9, 20)) (by rw [Wn_get hn]; rfl) rfl (by rw [Wn_get hn2, hT]) rfl hin hd (fun H1 locs1 hP1 _ hS1 => kk H1 locs1 ls (by
    rw [← Wn_set (g := shp g0 0 e9 (bT Γ k)) hn (e := .inl (Γ.2.1.2.2.2.1, 12, .inr (.inr (.inr (.inr (va_up (fun i => if i < k then some (Γ.1 + (129 + 17 * i)) else none) (Int32.ofNat k).toNatClampNeg (some (Γ.1 + (129 + 17 * k))))))))) ?_ ?_]
    · exact hP1
    · show Sum.inl (_, _, Sum.inr (Sum.inr (Sum.inr (Sum.inr _)))) = _
      congr 7
      funext i
      rw [hc9]
      unfold va_up
      by_cases h1 : i = k
      · subst h1
        rw [if_pos rfl, if_pos (by omega)]
      · rw [if_neg h1]
        by_cases h2 : i < k
        · show (if i < k + 1 then _ else _) = (if i < k then _ else _)
          rw [if_pos h2, if_pos (show i < k + 1 by omega)]
        · show (if i < k + 1 then _ else _) = (if i < k then _ else _)
          rw [if_neg h2, if_neg (show ¬ i < k + 1 by omega)]
    · intro j hj
      unfold shp bT
      by_cases h1 : j < 0
      · omega
      · rw [if_neg h1, if_neg h1, if_neg hj, if_neg hj]) hS1 h)
theorem n_fix53 {e9 : va_E} (kk : N p l e R s m args below meth c Γ D cells slots Q n (shp g0 0 e9 (ini Γ)) pc lv st) : N p l e R s m args below meth c Γ D cells slots Q n (shp g0 0 e9 (bT Γ 12)) pc lv st := by
  intro H locs ls hP hS h
  refine kk H locs ls (fun k x hk => ?_) hS h
  obtain ⟨hk1, rfl⟩ := Wn_some hk
  have h1 := hP k _ (Wn_get hk1)
  by_cases hk53 : k = 53
  · subst hk53
    have e1 : shp g0 0 e9 (ini Γ) 53 = .inl (Γ.2.1.2.2.2.1, 12, .inr (.inr (.inr (.inr (fun j => some (Γ.1 + (129 + 17 * j))))))) := (shp_gt (by omega)).trans (ini_at (rfl : entTbl[53]? = some (11, 12)) (by decide))
    have e2 : shp g0 0 e9 (bT Γ 12) 53 = .inl (Γ.2.1.2.2.2.1, 12, .inr (.inr (.inr (.inr (fun i => if i < 12 then some (Γ.1 + (129 + 17 * i)) else none))))) := rfl
    rw [e1]
    rw [e2] at h1
    have h2 : H[Γ.1 + 53]? = some (vp_cell Γ.2.1.2.2.2.1 (12, .inr (.inr (.inr (.inr (fun i => if i < 12 then some (Γ.1 + (129 + 17 * i)) else none)))))) := h1
    show H[Γ.1 + 53]? = some (vp_cell _ _)
    rw [h2, vp_cell_q, vp_cell_q]
    unfold arrV
    congr 3
    funext j
    show va_rf (if (j : Nat) < 12 then _ else _) = _
    rw [if_pos j.2]
  · have e1 : shp g0 0 e9 (ini Γ) k = shp g0 0 e9 (bT Γ 12) k := by
      unfold shp bT
      by_cases h2 : k = 0
      · subst h2
        rfl
      · simp only [if_neg (Nat.not_lt_zero k), if_neg h2, if_neg hk53]
    rw [e1]
    exact h1
end CTX

theorem rf_cat (o : Option Nat) : (va_rf o).category = 1 := by cases o <;> rfl
section EST
variable {p : Program} {l : Launch} {e : Env} {R : Room} {s : State} {m : MethodId} {args : Array Value} {below : List Frame} {meth : Method} {c : Code} {Γ : Gm} {D : va_G} {s0 : State} {cells slots : Nat} {Q : State → Prop} {own : String} {cc : ByteArray} {nL : Nat} {σ : Mem} {pc : Nat} {lv : List (Option Value)} {st : List Value}
theorem x_gst (X : Cx p l s m args meth c Γ D s0 own cc nL) : Gst Γ s0 := (Cx_gok X).2.2.2.2
theorem x_H (X : Cx p l s m args meth c Γ D s0 own cc nL) : ∀ a : Nat, a < s0.heap.size → ¬ bA Γ a → s.heap[a]? = s0.heap[a]? := fun a _ h => X.2.2.2.2.2.2.2.1.2 a (Nat.not_le.mp h)
theorem x_Z (X : Cx p l s m args meth c Γ D s0 own cc nL) {C n d : String} {v : Value} (h : va_Z C n d v (bA Γ) s0 s0.heap) : va_Z C n d v (bA Γ) s s.heap := (va_Z.moved X.2.2.2.2.2.2.1.alike h).kept (x_H X)
theorem x_Zq (X : Cx p l s m args meth c Γ D s0 own cc nL) {C n d : String} (h : va_Zq C n d (bA Γ) s0 s0.heap) : va_Zq C n d (bA Γ) s s.heap := (va_Zq.moved X.2.2.2.2.2.2.1.alike h).kept (x_H X)
theorem x_vZq (X : Cx p l s m args meth c Γ D s0 own cc nL) {C n d : String} (h : vx_Zq C n d (bA Γ) s0 s0.heap) : vx_Zq C n d (bA Γ) s s.heap := (vx_Zq.moved X.2.2.2.2.2.2.1.alike h).kept (x_H X)
theorem x_O (X : Cx p l s m args meth c Γ D s0 own cc nL) {C : String} {a : Nat} (h : va_O C a (bA Γ) s0 s0.heap) : va_O C a (bA Γ) s s.heap := (va_O.moved X.2.2.2.2.2.2.1.alike h).kept (x_H X)
theorem x_OF (X : Cx p l s m args meth c Γ D s0 own cc nL) {o n d : String} {v : Value} {a : Nat} (h : va_OF o n d v a (bA Γ) s0 s0.heap) : va_OF o n d v a (bA Γ) s s.heap := (va_OF.moved X.2.2.2.2.2.2.1.alike h).kept (x_H X)
theorem x_T (X : Cx p l s m args meth c Γ D s0 own cc nL) {ty : FieldType} {t N : Nat} {f : Nat → Value} (h : va_T ty t N f (bA Γ) s0 s0.heap) : va_T ty t N f (bA Γ) s s.heap := (va_T.moved X.2.2.2.2.2.2.1.alike h).kept (x_H X)
theorem e_ldcS (X : Cx p l s m args meth c Γ D s0 own cc nL) {idx : Nat} {tx : String} {a : Nat} (h : vk_R own idx tx a s0) (hd : decode cc pc = .ok (.ldc idx, 2)) (k : E p l e R s m args below meth c Γ D cells slots Q σ (pc + 2) lv (.ref a :: st)) : E p l e R s m args below meth c Γ D cells slots Q σ pc lv st :=
  fun H locs ls hP hS hl => va_ldcS X.1 X.2.1 X.2.2.2.1 (vk_R.warm X.2.2.2.2.2.2.1 h) hd (k H locs ls hP hS hl)
theorem e_gets (X : Cx p l s m args meth c Γ D s0 own cc nL) {idx : Nat} {C n d : String} {v : Value} (h : va_Z C n d v (bA Γ) s0 s0.heap) (hl : Cond.fieldLink own idx C n d ∈ lwG) (hd : decode cc pc = .ok (.getstatic idx, 3)) (k : E p l e R s m args below meth c Γ D cells slots Q σ (pc + 3) lv (v :: st)) : E p l e R s m args below meth c Γ D cells slots Q σ pc lv st :=
  fun H locs ls hP hS h9 => va_gets X.1 X.2.1 (x_Z X h) hS X.2.2.2.1 (X.2.2.2.2.1 _ hl) (fun _ h => h) hd (k H locs ls hP hS h9)
theorem e_getsq (X : Cx p l s m args meth c Γ D s0 own cc nL) {idx : Nat} {C n d : String} (h : va_Zq C n d (bA Γ) s0 s0.heap) (hl : Cond.fieldLink own idx C n d ∈ lwG) (hd : decode cc pc = .ok (.getstatic idx, 3)) (k : ∀ o : Option Nat, E p l e R s m args below meth c Γ D cells slots Q σ (pc + 3) lv (va_rf o :: st)) : E p l e R s m args below meth c Γ D cells slots Q σ pc lv st := by
  rcases h with h | ⟨t, h⟩
  · exact e_gets X h hl hd (k none)
  · exact e_gets X h hl hd (k (some t))
theorem e_getX (X : Cx p l s m args meth c Γ D s0 own cc nL) {idx a : Nat} {o n d : String} {v : Value} (h : va_OF o n d v a (bA Γ) s0 s0.heap) (hl : Cond.fieldLink own idx o n d ∈ lwG) (hd : decode cc pc = .ok (.getfield idx, 3)) (k : E p l e R s m args below meth c Γ D cells slots Q σ (pc + 3) lv (v :: st)) : E p l e R s m args below meth c Γ D cells slots Q σ pc lv (.ref a :: st) :=
  fun H locs ls hP hS h9 => va_getX (N := 1) (v := fun _ => v) (ad := fun _ => a) (i := 0) X.1 X.2.1 (fun i hi => x_OF X h) (by decide) hS X.2.2.2.1 (X.2.2.2.2.1 _ hl) (fun _ h => h) hd (k H locs ls hP hS h9)
theorem e_tb (X : Cx p l s m args meth c Γ D s0 own cc nL) {t N : Nat} {f : Nat → Value} {i : Int32} (v : Value) (h : va_T .byte t N f (bA Γ) s0 s0.heap) (hin : vp_in i N) (hv : f i.toNatClampNeg = v) (hd : decode cc pc = .ok (.baload, 1)) (k : E p l e R s m args below meth c Γ D cells slots Q σ (pc + 1) lv (v :: st)) : E p l e R s m args below meth c Γ D cells slots Q σ pc lv (.int i :: .ref t :: st) :=
  fun H locs ls hP hS h9 => va_tb X.1 X.2.1 (x_T X h) hS hin hv hd (k H locs ls hP hS h9)
theorem e_tlen (X : Cx p l s m args meth c Γ D s0 own cc nL) {ty : FieldType} {t N : Nat} {f : Nat → Value} (v : Int32) (h : va_T ty t N f (bA Γ) s0 s0.heap) (hv : Int32.ofNat N = v) (hd : decode cc pc = .ok (.arraylength, 1)) (k : E p l e R s m args below meth c Γ D cells slots Q σ (pc + 1) lv (.int v :: st)) : E p l e R s m args below meth c Γ D cells slots Q σ pc lv (.ref t :: st) :=
  fun H locs ls hP hS h9 => va_tlen X.1 X.2.1 (x_T X h) hS hv hd (k H locs ls hP hS h9)
theorem e_tq (X : Cx p l s m args meth c Γ D s0 own cc nL) {C : String} {t N : Nat} {f : Nat → Value} {i : Int32} (v : Value) (h : va_T (.object C) t N f (bA Γ) s0 s0.heap) (hin : vp_in i N) (hv : f i.toNatClampNeg = v) (hd : decode cc pc = .ok (.aaload, 1)) (k : E p l e R s m args below meth c Γ D cells slots Q σ (pc + 1) lv (v :: st)) : E p l e R s m args below meth c Γ D cells slots Q σ pc lv (.int i :: .ref t :: st) :=
  fun H locs ls hP hS h9 => vb_tq X.1 X.2.1 (x_T X h) hS hin hv hd (k H locs ls hP hS h9)
theorem e_i2c (X : Cx p l s m args meth c Γ D s0 own cc nL) {x : Int32} (v : Int32) (hv : (x.toUInt32 % 65536).toInt32 = v) (hd : decode cc pc = .ok (.i2c, 1)) (k : E p l e R s m args below meth c Γ D cells slots Q σ (pc + 1) lv (.int v :: st)) : E p l e R s m args below meth c Γ D cells slots Q σ pc lv (.int x :: st) :=
  fun H locs ls hP hS h9 => lv_i2c X.1 X.2.1 hd hv (k H locs ls hP hS h9)
theorem e_nret (X : Cx p l s m args meth c Γ D s0 own cc nL) {mc ms : Nat} {ty : FieldType} {Pst : Option Value → Mem → Prop} {v w : Int32} (hr : meth.sig.returnType = some ty) (hn : narrow ty (.int v) = .int w) (hd : decode cc pc = .ok (.ireturn, 1)) (hc : cells ≤ mc) (hs : slots ≤ ms) (hp : Pst (some (.int w)) σ) : E p l e R s m args below meth c Γ D cells slots (MQ below (QcA Γ D Pst) args s mc ms (frB Γ)) σ pc lv [.int v] :=
  fun H locs ls hP hS h => W.widen hc hs (W_nret X.1 X.2.1 hr hn (fun t ht hW => ⟨_, σ, rfl, by rw [ht]; exact hP, hp, hS.F ht⟩) hS.2.2 hd X.2.2.2.2.2.2.2.2.1)
-- kinds: refs by their numbers, null below 0
theorem kop_in {k : Int32} (h : inb k 31 = true) : kop Γ k = some (kad Γ k.toNatClampNeg) ∧ k.toNatClampNeg < 31 := by
  have h1 := inb_in h
  have h2 : ¬ k < 0 := fun q => h1 (Or.inl q)
  refine ⟨by unfold kop; rw [if_neg h2]; rfl, Nat.not_le.mp fun q => h1 (Or.inr q)⟩
theorem kop_eq (X : Cx p l s m args meth c Γ D s0 own cc nL) {a b : Int32} (ha : inb a 31 = true) (hb : inb b 31 = true) : kop Γ a = kop Γ b ↔ a = b := by
  obtain ⟨e1, l1⟩ := kop_in (Γ := Γ) ha
  obtain ⟨e2, l2⟩ := kop_in (Γ := Γ) hb
  constructor
  · intro h
    rw [e1, e2] at h
    have h3 := (x_gst X).2.2.1.2.1 _ _ l1 l2 (Option.some.inj h)
    have q1 := vp_in_iff.mp (inb_in ha)
    have q2 := vp_in_iff.mp (inb_in hb)
    obtain ⟨j, hj9, rfl⟩ := vp_in_of (inb_in ha) (by decide)
    obtain ⟨i, hi9, rfl⟩ := vp_in_of (inb_in hb) (by decide)
    rw [nI_clamp (by omega), nI_clamp (by omega)] at h3
    rw [h3]
  · intro h; rw [h]
theorem e_kstatic (X : Cx p l s m args meth c Γ D s0 own cc nL) {idx : Nat} {n : String} (k : Int32) (hk : inb k 31 = true) (hn : kindNm.getD k.toNatClampNeg "" = n) (hl : Cond.fieldLink own idx "RivalWeds$Kind" n "LRivalWeds$Kind;" ∈ lwG) (hd : decode cc pc = .ok (.getstatic idx, 3)) (kk : E p l e R s m args below meth c Γ D cells slots Q σ (pc + 3) lv (va_rf (kop Γ k) :: st)) : E p l e R s m args below meth c Γ D cells slots Q σ pc lv st := by
  obtain ⟨e1, l1⟩ := kop_in (Γ := Γ) hk
  have h := ((x_gst X).2.2.1.1 _ l1).1
  rw [hn] at h
  rw [e1] at kk
  exact e_gets X h hl hd kk
theorem e_kacmp_eq (X : Cx p l s m args meth c Γ D s0 own cc nL) {a b : Int32} {off : Int} (tgt : Nat) (ha : inb a 31 = true) (hb : inb b 31 = true) (hd : decode cc pc = .ok (.if_acmp .eq off, 3)) (ht : (pc : Int) + off = (tgt : Int)) (kt : a = b → E p l e R s m args below meth c Γ D cells slots Q σ tgt lv st) (kf : ¬ a = b → E p l e R s m args below meth c Γ D cells slots Q σ (pc + 3) lv st) : E p l e R s m args below meth c Γ D cells slots Q σ pc lv (va_rf (kop Γ b) :: va_rf (kop Γ a) :: st) :=
  e_acmp_eq X tgt hd ht (fun z => kt ((kop_eq X ha hb).mp z)) (fun z => kf (fun q => z ((kop_eq X ha hb).mpr q)))
theorem e_kacmp_ne (X : Cx p l s m args meth c Γ D s0 own cc nL) {a b : Int32} {off : Int} (tgt : Nat) (ha : inb a 31 = true) (hb : inb b 31 = true) (hd : decode cc pc = .ok (.if_acmp .ne off, 3)) (ht : (pc : Int) + off = (tgt : Int)) (kt : ¬ a = b → E p l e R s m args below meth c Γ D cells slots Q σ tgt lv st) (kf : a = b → E p l e R s m args below meth c Γ D cells slots Q σ (pc + 3) lv st) : E p l e R s m args below meth c Γ D cells slots Q σ pc lv (va_rf (kop Γ b) :: va_rf (kop Γ a) :: st) :=
  e_acmp_ne X tgt hd ht (fun z => kt (fun q => z ((kop_eq X ha hb).mpr q))) (fun z => kf ((kop_eq X ha hb).mp z))
theorem e_kifnull (X : Cx p l s m args meth c Γ D s0 own cc nL) {a : Int32} {off : Int} (tgt : Nat) (hd : decode cc pc = .ok (.ifnull off, 3)) (ht : (pc : Int) + off = (tgt : Int)) (kt : a < 0 → E p l e R s m args below meth c Γ D cells slots Q σ tgt lv st) (kf : ¬ a < 0 → E p l e R s m args below meth c Γ D cells slots Q σ (pc + 3) lv st) : E p l e R s m args below meth c Γ D cells slots Q σ pc lv (va_rf (kop Γ a) :: st) := by
  by_cases h : a < 0
  · have e1 : kop Γ a = none := by unfold kop; rw [if_pos h]
    rw [e1]
    exact e_ifnullN X tgt hd ht (kt h)
  · have e1 : kop Γ a = some (Γ.2.2 a.toNatClampNeg) := by unfold kop; rw [if_neg h]
    rw [e1]
    exact e_ifnull X hd (kf h)
theorem e_raload (X : Cx p l s m args meth c Γ D s0 own cc nL) {i : Nat} {o : Option Nat} (hd : decode cc pc = .ok (.aload i, 2)) (hl : lv[i]? = some (some (va_rf o))) (k : E p l e R s m args below meth c Γ D cells slots Q σ (pc + 2) lv (va_rf o :: st)) : E p l e R s m args below meth c Γ D cells slots Q σ pc lv st := by
  cases o with
  | none => exact fun H locs ls hP hS h => lv_aloadN X.1 X.2.1 hd (lvs_at h hl) (k H locs ls hP hS h)
  | some a => exact e_aload X hd hl k
theorem e_raload_n (X : Cx p l s m args meth c Γ D s0 own cc nL) {n : Fin 4} {i : Nat} {o : Option Nat} (hd : decode cc pc = .ok (.aload_n n, 1)) (hi : (n : Nat) = i) (hl : lv[i]? = some (some (va_rf o))) (k : E p l e R s m args below meth c Γ D cells slots Q σ (pc + 1) lv (va_rf o :: st)) : E p l e R s m args below meth c Γ D cells slots Q σ pc lv st := by
  cases o with
  | none => exact fun H locs ls hP hS h => lv_aload_nN X.1 X.2.1 hd hi (lvs_at h hl) (k H locs ls hP hS h)
  | some a => exact e_aload_n X hd hi hl k
theorem e_rastore (X : Cx p l s m args meth c Γ D s0 own cc nL) {i : Nat} {o : Option Nat} (hd : decode cc pc = .ok (.astore i, 2)) (hn : i < nL) (k : E p l e R s m args below meth c Γ D cells slots Q σ (pc + 2) (lv.set i (some (va_rf o))) st) : E p l e R s m args below meth c Γ D cells slots Q σ pc lv (va_rf o :: st) := by
  cases o with
  | none => exact fun H locs ls hP hS h => lv_astoreN X.1 X.2.1 hd h.1 (by rw [X.2.2.1]; exact hn) rfl (fun ls' h' => k H locs ls' hP hS (lvs_set h.2 rfl h'))
  | some a => exact e_astore X hd hn k
theorem e_rastore_n (X : Cx p l s m args meth c Γ D s0 own cc nL) {n : Fin 4} {i : Nat} {o : Option Nat} (hd : decode cc pc = .ok (.astore_n n, 1)) (hi : (n : Nat) = i) (hn : i < nL) (k : E p l e R s m args below meth c Γ D cells slots Q σ (pc + 1) (lv.set i (some (va_rf o))) st) : E p l e R s m args below meth c Γ D cells slots Q σ pc lv (va_rf o :: st) := by
  cases o with
  | none => exact fun H locs ls hP hS h => lv_astore_nN X.1 X.2.1 hd hi h.1 (by rw [X.2.2.1]; exact hn) rfl (fun ls' h' => k H locs ls' hP hS (lvs_set h.2 rfl h'))
  | some a => exact e_astore_n X hd hi hn k
theorem e_kald (X : Cx p l s m args meth c Γ D s0 own cc nL) {q n j : Nat} {i i' : Int32} (hi : i' = i) (hq : entTbl[q]? = some (12, n)) (hin : vp_in i' n) (hj : i'.toNatClampNeg = j) (hd : decode cc pc = .ok (.aaload, 1)) (kk : E p l e R s m args below meth c Γ D cells slots Q σ (pc + 1) lv (va_rf (kop Γ (σ q j)) :: st)) : E p l e R s m args below meth c Γ D cells slots Q σ pc lv (.int i :: .ref (Γ.1 + q) :: st) := by
  subst hi; subst hj
  exact fun H locs ls hP hS h => va_aldq X.1 X.2.1 X.2.2.2.2.2.1 hP q 4 (by rw [Wd_get (ent_lt hq), ent_at hq]; rfl) rfl hin hd (kk H locs ls hP hS h)
theorem e_klen (X : Cx p l s m args meth c Γ D s0 own cc nL) {q n : Nat} (v : Int32) (hq : entTbl[q]? = some (12, n)) (hv : Int32.ofNat n = v) (hd : decode cc pc = .ok (.arraylength, 1)) (kk : E p l e R s m args below meth c Γ D cells slots Q σ (pc + 1) lv (.int v :: st)) : E p l e R s m args below meth c Γ D cells slots Q σ pc lv (.ref (Γ.1 + q) :: st) :=
  fun H locs ls hP hS h => va_alen X.1 X.2.1 X.2.2.2.2.2.1 hP q 4 (by rw [Wd_get (ent_lt hq), ent_at hq]; rfl) rfl hv hd (kk H locs ls hP hS h)
theorem e_kast (X : Cx p l s m args meth c Γ D s0 own cc nL) {q n j : Nat} {i i' k : Int32} {σ1 : Mem} (hi : i' = i) (hk : inb k 31 = true) (hq : entTbl[q]? = some (12, n)) (hin : vp_in i' n) (hj : i'.toNatClampNeg = j) (hd : decode cc pc = .ok (.aastore, 1)) (hσ : σ1 = up σ q j k) (kk : E p l e R s m args below meth c Γ D cells slots Q σ1 (pc + 1) lv st) : E p l e R s m args below meth c Γ D cells slots Q σ pc lv (va_rf (kop Γ k) :: .int i :: .ref (Γ.1 + q) :: st) := by
  subst hi; subst hj; subst hσ
  obtain ⟨e1, l1⟩ := kop_in (Γ := Γ) hk
  rw [e1]
  intro H locs ls hP hS h
  have hAny : va_Any "RivalWeds$Kind" s H (kad Γ k.toNatClampNeg) := by
    obtain ⟨cell, q1, q2, q3, q4⟩ := x_O X ((x_gst X).2.2.1.1 _ l1).2.1
    have hcls := (X.2.2.2.2.2.1.1 1 _ (rfl : vCl[1]? = some (RX1, TX1, 0))).2
    have e5 : D.1 1 = cell.cls := Option.some.inj (hcls.1.symm.trans q3)
    refine ⟨cell, ?_, q2, ?_, fun comp hcomp => ?_⟩
    · rw [hS.2.1 _ (Array.getElem?_eq_some_iff.mp q1).1 q4]; exact q1
    · obtain ⟨kC, hkC, -⟩ := hcls.2
      exact ⟨kC, by rw [← e5]; exact hkC⟩
    · have e6 : cell.cls = comp := Option.some.inj (q3.symm.trans hcomp)
      rw [← e6, ← e5]
      exact va_assign hcls
  exact va_astqM X.1 X.2.1 X.2.2.2.2.2.1 hP (Wd_D Γ σ) hS q 4 (by rw [Wd_get (ent_lt hq), ent_at hq]; rfl) rfl hAny hin hd (fun H1 locs1 hP1 _ hS1 => kk H1 locs1 ls (by
    rw [← Wd_setR (σ1 := up σ q i'.toNatClampNeg k) (f := fun b => if b = i'.toNatClampNeg then k else σ q b) (ent_lt hq) (e := .inl (Γ.2.1.2.2.2.2, n, .inr (.inr (.inr (.inr (va_up (fun j => kop Γ (σ q j)) i'.toNatClampNeg (some (kad Γ k.toNatClampNeg)))))))) ?_ (up_row _ _ _ _) (fun a ha => up_ne _ _ ha)]
    · exact hP1
    · rw [ent_at hq]
      show Sum.inl (_, _, Sum.inr (Sum.inr (Sum.inr (Sum.inr _)))) = _
      congr 7
      funext b
      show kop Γ (if b = i'.toNatClampNeg then k else σ q b) = if b = i'.toNatClampNeg then _ else _
      by_cases hb : b = i'.toNatClampNeg
      · rw [if_pos hb, if_pos hb, e1]
      · rw [if_neg hb, if_neg hb]) hS1 h)
theorem e_callVC (X : Cx p l s m args meth c Γ D s0 own cc nL) {y : MethodName} {yc : ByteArray} {yL idx fr mc ms lo a n : Nat} {ret : Option FieldType} {As : List Value} {C : String} {Pst : Option Value → Mem → Prop} (rest : List Value) (hM : CT l Γ D s0 y yc yL ret fr mc ms lo σ (.ref a :: As) Pst)
    (hw : GoodIn lwG (wsV own idx C y (wA y yc yL ret))) (hy : y.cls = C ∧ y.cls ≠ "java/lang/invoke/MethodHandle" ∧ y.cls ≠ "java/lang/invoke/VarHandle" ∧ (parseMethodDescriptor y.desc).map (fun d => d.parameters.length) = some n) (hn : As.length = n) (hO : va_O C a (bA Γ) s0 s0.heap)
    (hR : fr + 1 ≤ R.frames ∧ 8 + (yL + 11) + lo ≤ R.locals) (hcs : cells + mc ≤ R.cells ∧ slots + ms ≤ R.slots) (hrest : (rest.map fun v => v.category).sum ≤ 8) (hd : decode cc pc = .ok (.invokevirtual idx, 3)) (hst : st = As.reverse ++ .ref a :: rest)
    (kk : ∀ (v : Option Value) (σ' : Mem), Pst v σ' → E p l e R s m args below meth c Γ D (cells + mc) (slots + ms) Q σ' (pc + 3) lv (v.toList ++ rest)) : E p l e R s m args below meth c Γ D cells slots Q σ pc lv st :=
  fun H locs ls hP hS h => e_after (g := F0 m pc ls st) (va_runV (As := As) (rest := rest) ⟨X.1, X.2.1, X.2.2.1, X.2.2.2.1, X.2.2.2.2.1⟩ hM (cwV n X.2.2.2.2.1 hw rfl rfl rfl hy hR) ⟨PcA_blind _ _, by
    obtain ⟨cell, q1, q2, q3, q4⟩ := x_O X hO
    exact ⟨cell, by rw [hS.2.1 _ (Array.getElem?_eq_some_iff.mp q1).1 q4]; exact q1, q2, q3⟩, fun U hU hW => PcA_here X hP hS U hU hW⟩ rfl hn (by rw [← X.2.2.1]; exact h.1.1) hst (lv_room hrest) hd hcs) hS h kk
theorem e_callVCi (X : Cx p l s m args meth c Γ D s0 own cc nL) {y : MethodName} {yc : ByteArray} {yL idx fr mc ms lo a n : Nat} {ret : Option FieldType} {σ1 : Mem} {r : Int32} {C : String} (As rest : List Value) (hM : CT l Γ D s0 y yc yL ret fr mc ms lo σ (.ref a :: As) (PI (some (.int r)) σ1))
    (hw : GoodIn lwG (wsV own idx C y (wA y yc yL ret))) (hy : y.cls = C ∧ y.cls ≠ "java/lang/invoke/MethodHandle" ∧ y.cls ≠ "java/lang/invoke/VarHandle" ∧ (parseMethodDescriptor y.desc).map (fun d => d.parameters.length) = some n) (hn : As.length = n) (hO : va_O C a (bA Γ) s0 s0.heap)
    (hR : fr + 1 ≤ R.frames ∧ 8 + (yL + 11) + lo ≤ R.locals) (hcs : cells + mc ≤ R.cells ∧ slots + ms ≤ R.slots) (hrest : (rest.map fun v => v.category).sum ≤ 8) (hd : decode cc pc = .ok (.invokevirtual idx, 3)) (hst : st = As.reverse ++ .ref a :: rest)
    (kk : E p l e R s m args below meth c Γ D (cells + mc) (slots + ms) Q σ1 (pc + 3) lv (.int r :: rest)) : E p l e R s m args below meth c Γ D cells slots Q σ pc lv st :=
  e_callVC X rest hM hw hy hn hO hR hcs hrest hd hst (fun v σ2 h9 => by obtain ⟨rfl, rfl⟩ := h9; exact kk)
theorem e_callUi (X : Cx p l s m args meth c Γ D s0 own cc nL) {x y : MethodName} {yc : ByteArray} {yL idx fr mc ms lo q ci N n : Nat} {ret : Option FieldType} {fs : List Value} {C owner : String} {T : u_T} {σ1 : Mem} {r : Int32} (As rest : List Value) (hM : CT l Γ D s0 y yc yL ret fr mc ms lo σ (.ref (Γ.1 + q) :: As) (PI (some (.int r)) σ1))
    (hw : GoodIn lwG (va_wsU own idx C owner x y (wA y yc yL ret))) (hyx : y = ⟨owner, x.name, x.desc⟩) (hy : owner ≠ "java/lang/invoke/MethodHandle" ∧ owner ≠ "java/lang/invoke/VarHandle" ∧ (parseMethodDescriptor x.desc).map (fun d => d.parameters.length) = some n) (hn : As.length = n) (hq : q < 347) (hent : ent Γ q (σ q) = .inr (ci, fs)) (hc : vCl[ci]? = some (C, T, N))
    (hR : fr + 1 ≤ R.frames ∧ 8 + (yL + 11) + lo ≤ R.locals) (hcs : cells + mc ≤ R.cells ∧ slots + ms ≤ R.slots) (hrest : (rest.map fun v => v.category).sum ≤ 8) (hd : decode cc pc = .ok (.invokevirtual idx, 3)) (hst : st = As.reverse ++ .ref (Γ.1 + q) :: rest)
    (kk : E p l e R s m args below meth c Γ D (cells + mc) (slots + ms) Q σ1 (pc + 3) lv (.int r :: rest)) : E p l e R s m args below meth c Γ D cells slots Q σ pc lv st :=
  e_callU X rest hM hw hyx hy hn hq hent hc hR hcs hrest hd hst (fun v σ2 h9 => by obtain ⟨rfl, rfl⟩ := h9; exact kk)
theorem e_callAi (X : Cx p l s m args meth c Γ D s0 own cc nL) {x y : MethodName} {yc : ByteArray} {yL idx fr mc ms lo q ci N n : Nat} {ret : Option FieldType} {fs : List Value} {C owner : String} {T : u_T} {σ1 : Mem} {r : Int32} (As rest : List Value) (hM : CT l Γ D s0 y yc yL ret fr mc ms lo σ (.ref (Γ.1 + q) :: As) (PI (some (.int r)) σ1))
    (hw : GoodIn lwG (va_wsU own idx C owner x y (wA y yc yL ret))) (hz : Cond.declares ⟨owner, x.name, x.desc⟩ ∈ declW) (hy : owner ≠ "java/lang/invoke/MethodHandle" ∧ owner ≠ "java/lang/invoke/VarHandle" ∧ (parseMethodDescriptor x.desc).map (fun d => d.parameters.length) = some n) (hn : As.length = n) (hq : q < 347) (hent : ent Γ q (σ q) = .inr (ci, fs)) (hc : vCl[ci]? = some (C, T, N))
    (hR : fr + 1 ≤ R.frames ∧ 8 + (yL + 11) + lo ≤ R.locals) (hcs : cells + mc ≤ R.cells ∧ slots + ms ≤ R.slots) (hrest : (rest.map fun v => v.category).sum ≤ 8) (hd : decode cc pc = .ok (.invokevirtual idx, 3)) (hst : st = As.reverse ++ .ref (Γ.1 + q) :: rest)
    (kk : E p l e R s m args below meth c Γ D (cells + mc) (slots + ms) Q σ1 (pc + 3) lv (.int r :: rest)) : E p l e R s m args below meth c Γ D cells slots Q σ pc lv st :=
  e_callA X rest hM hw hz hy hn hq hent hc hR hcs hrest hd hst (fun v σ2 h9 => by obtain ⟨rfl, rfl⟩ := h9; exact kk)
/-- on either kind of text -/
theorem e_callTi (X : Cx p l s m args meth c Γ D s0 own cc nL) {x y : MethodName} {yc : ByteArray} {yL idx fr mc ms lo q n : Nat} {ret : Option FieldType} {owner : String} {σ1 : Mem} {r : Int32} (As rest : List Value) (hM : CT l Γ D s0 y yc yL ret fr mc ms lo σ (.ref (Γ.1 + q) :: As) (PI (some (.int r)) σ1))
    (hw1 : GoodIn lwG (va_wsU own idx RX10 owner x y (wA y yc yL ret))) (hw2 : GoodIn lwG (va_wsU own idx RX3 owner x y (wA y yc yL ret))) (hyx : y = ⟨owner, x.name, x.desc⟩) (hy : owner ≠ "java/lang/invoke/MethodHandle" ∧ owner ≠ "java/lang/invoke/VarHandle" ∧ (parseMethodDescriptor x.desc).map (fun d => d.parameters.length) = some n) (hn : As.length = n) (hq : entTbl[q]? = some (5, 0) ∨ entTbl[q]? = some (6, 0))
    (hR : fr + 1 ≤ R.frames ∧ 8 + (yL + 11) + lo ≤ R.locals) (hcs : cells + mc ≤ R.cells ∧ slots + ms ≤ R.slots) (hrest : (rest.map fun v => v.category).sum ≤ 8) (hd : decode cc pc = .ok (.invokevirtual idx, 3)) (hst : st = As.reverse ++ .ref (Γ.1 + q) :: rest)
    (kk : E p l e R s m args below meth c Γ D (cells + mc) (slots + ms) Q σ1 (pc + 3) lv (.int r :: rest)) : E p l e R s m args below meth c Γ D cells slots Q σ pc lv st := by
  rcases hq with h | h
  · exact e_callUi X As rest hM hw1 hyx hy hn (ent_lt h) (ent_at h _) (rfl : vCl[9]? = some (RX10, TX10, 14)) hR hcs hrest hd hst kk
  · exact e_callUi X As rest hM hw2 hyx hy hn (ent_lt h) (ent_at h _) (rfl : vCl[3]? = some (RX3, TX3, 14)) hR hcs hrest hd hst kk
theorem e_callUv (X : Cx p l s m args meth c Γ D s0 own cc nL) {x y : MethodName} {yc : ByteArray} {yL idx fr mc ms lo q ci N n : Nat} {ret : Option FieldType} {fs : List Value} {C owner : String} {T : u_T} {σ1 : Mem} (As rest : List Value) (hM : CT l Γ D s0 y yc yL ret fr mc ms lo σ (.ref (Γ.1 + q) :: As) (PI none σ1))
    (hw : GoodIn lwG (va_wsU own idx C owner x y (wA y yc yL ret))) (hyx : y = ⟨owner, x.name, x.desc⟩) (hy : owner ≠ "java/lang/invoke/MethodHandle" ∧ owner ≠ "java/lang/invoke/VarHandle" ∧ (parseMethodDescriptor x.desc).map (fun d => d.parameters.length) = some n) (hn : As.length = n) (hq : q < 347) (hent : ent Γ q (σ q) = .inr (ci, fs)) (hc : vCl[ci]? = some (C, T, N))
    (hR : fr + 1 ≤ R.frames ∧ 8 + (yL + 11) + lo ≤ R.locals) (hcs : cells + mc ≤ R.cells ∧ slots + ms ≤ R.slots) (hrest : (rest.map fun v => v.category).sum ≤ 8) (hd : decode cc pc = .ok (.invokevirtual idx, 3)) (hst : st = As.reverse ++ .ref (Γ.1 + q) :: rest)
    (kk : E p l e R s m args below meth c Γ D (cells + mc) (slots + ms) Q σ1 (pc + 3) lv rest) : E p l e R s m args below meth c Γ D cells slots Q σ pc lv st :=
  e_callU X rest hM hw hyx hy hn hq hent hc hR hcs hrest hd hst (fun v σ2 h9 => by obtain ⟨rfl, rfl⟩ := h9; exact kk)
theorem e_callAv (X : Cx p l s m args meth c Γ D s0 own cc nL) {x y : MethodName} {yc : ByteArray} {yL idx fr mc ms lo q ci N n : Nat} {ret : Option FieldType} {fs : List Value} {C owner : String} {T : u_T} {σ1 : Mem} (As rest : List Value) (hM : CT l Γ D s0 y yc yL ret fr mc ms lo σ (.ref (Γ.1 + q) :: As) (PI none σ1))
    (hw : GoodIn lwG (va_wsU own idx C owner x y (wA y yc yL ret))) (hz : Cond.declares ⟨owner, x.name, x.desc⟩ ∈ declW) (hy : owner ≠ "java/lang/invoke/MethodHandle" ∧ owner ≠ "java/lang/invoke/VarHandle" ∧ (parseMethodDescriptor x.desc).map (fun d => d.parameters.length) = some n) (hn : As.length = n) (hq : q < 347) (hent : ent Γ q (σ q) = .inr (ci, fs)) (hc : vCl[ci]? = some (C, T, N))
    (hR : fr + 1 ≤ R.frames ∧ 8 + (yL + 11) + lo ≤ R.locals) (hcs : cells + mc ≤ R.cells ∧ slots + ms ≤ R.slots) (hrest : (rest.map fun v => v.category).sum ≤ 8) (hd : decode cc pc = .ok (.invokevirtual idx, 3)) (hst : st = As.reverse ++ .ref (Γ.1 + q) :: rest)
    (kk : E p l e R s m args below meth c Γ D (cells + mc) (slots + ms) Q σ1 (pc + 3) lv rest) : E p l e R s m args below meth c Γ D cells slots Q σ pc lv st :=
  e_callA X rest hM hw hz hy hn hq hent hc hR hcs hrest hd hst (fun v σ2 h9 => by obtain ⟨rfl, rfl⟩ := h9; exact kk)
/-- on either kind of text -/
theorem e_callTv (X : Cx p l s m args meth c Γ D s0 own cc nL) {x y : MethodName} {yc : ByteArray} {yL idx fr mc ms lo q n : Nat} {ret : Option FieldType} {owner : String} {σ1 : Mem} (As rest : List Value) (hM : CT l Γ D s0 y yc yL ret fr mc ms lo σ (.ref (Γ.1 + q) :: As) (PI none σ1))
    (hw1 : GoodIn lwG (va_wsU own idx RX10 owner x y (wA y yc yL ret))) (hw2 : GoodIn lwG (va_wsU own idx RX3 owner x y (wA y yc yL ret))) (hyx : y = ⟨owner, x.name, x.desc⟩) (hy : owner ≠ "java/lang/invoke/MethodHandle" ∧ owner ≠ "java/lang/invoke/VarHandle" ∧ (parseMethodDescriptor x.desc).map (fun d => d.parameters.length) = some n) (hn : As.length = n) (hq : entTbl[q]? = some (5, 0) ∨ entTbl[q]? = some (6, 0))
    (hR : fr + 1 ≤ R.frames ∧ 8 + (yL + 11) + lo ≤ R.locals) (hcs : cells + mc ≤ R.cells ∧ slots + ms ≤ R.slots) (hrest : (rest.map fun v => v.category).sum ≤ 8) (hd : decode cc pc = .ok (.invokevirtual idx, 3)) (hst : st = As.reverse ++ .ref (Γ.1 + q) :: rest)
    (kk : E p l e R s m args below meth c Γ D (cells + mc) (slots + ms) Q σ1 (pc + 3) lv rest) : E p l e R s m args below meth c Γ D cells slots Q σ pc lv st := by
  rcases hq with h | h
  · exact e_callUv X As rest hM hw1 hyx hy hn (ent_lt h) (ent_at h _) (rfl : vCl[9]? = some (RX10, TX10, 14)) hR hcs hrest hd hst kk
  · exact e_callUv X As rest hM hw2 hyx hy hn (ent_lt h) (ent_at h _) (rfl : vCl[3]? = some (RX3, TX3, 14)) hR hcs hrest hd hst kk
theorem e_callSOr (X : Cx p l s m args meth c Γ D s0 own cc nL) {y : MethodName} {yc : ByteArray} {yL idx fr mc ms lo n : Nat} {ret : Option FieldType} {σ1 : Mem} (r : Value) (As rest : List Value) (hM : CT l Γ D s0 y yc yL ret fr mc ms lo σ As (PI (some r) σ1)) (hw : GoodIn lwG (wA y yc yL ret)) (hl : Cond.methodLink own idx y ∈ lwG) (hst9 : Cond.static y ∈ lwG) (hini : Cond.initialized y.cls ∈ lwG) (hy : y.cls ≠ "java/lang/invoke/MethodHandle" ∧ y.cls ≠ "java/lang/invoke/VarHandle" ∧ (parseMethodDescriptor y.desc).map (fun d => d.parameters.length) = some n) (hn : As.length = n) (hR : fr + 1 ≤ R.frames ∧ 8 + (yL + 11) + lo ≤ R.locals) (hcs : cells + mc ≤ R.cells ∧ slots + ms ≤ R.slots) (hrest : (rest.map fun v => v.category).sum ≤ 8) (hd : decode cc pc = .ok (.invokestatic idx, 3)) (hst : st = As.reverse ++ rest) (kk : E p l e R s m args below meth c Γ D (cells + mc) (slots + ms) Q σ1 (pc + 3) lv (r :: rest)) : E p l e R s m args below meth c Γ D cells slots Q σ pc lv st :=
  fun H locs ls hP hS h => e_after (g := F0 m pc ls st) (va_runS (As := As) (rest := rest) ⟨X.1, X.2.1, X.2.2.1, X.2.2.2.1, X.2.2.2.2.1⟩ hM ⟨callB_of n X.2.2.2.2.1 hw rfl rfl rfl (X.2.2.2.2.1 _ hini) (X.2.2.2.2.1 _ hl) hy hR, X.2.2.2.2.1 _ hst9⟩ ⟨PcA_blind _ _, fun U hU hW => PcA_here X hP hS U hU hW⟩ rfl hn (by rw [← X.2.2.1]; exact h.1.1) hst (lv_room hrest) hd hcs) hS h (fun v σ2 h9 => by obtain ⟨rfl, rfl⟩ := h9; exact kk)
theorem e_callVr (X : Cx p l s m args meth c Γ D s0 own cc nL) {y : MethodName} {yc : ByteArray} {yL idx fr mc ms lo q ci N n : Nat} {ret : Option FieldType} {fs : List Value} {C : String} {T : u_T} {σ1 : Mem} (r : Value) (As rest : List Value) (hM : CT l Γ D s0 y yc yL ret fr mc ms lo σ (.ref (Γ.1 + q) :: As) (PI (some r) σ1))
    (hw : GoodIn lwG (wsV own idx C y (wA y yc yL ret))) (hy : y.cls = C ∧ y.cls ≠ "java/lang/invoke/MethodHandle" ∧ y.cls ≠ "java/lang/invoke/VarHandle" ∧ (parseMethodDescriptor y.desc).map (fun d => d.parameters.length) = some n) (hn : As.length = n) (hq : q < 347) (hent : ent Γ q (σ q) = .inr (ci, fs)) (hc : vCl[ci]? = some (C, T, N))
    (hR : fr + 1 ≤ R.frames ∧ 8 + (yL + 11) + lo ≤ R.locals) (hcs : cells + mc ≤ R.cells ∧ slots + ms ≤ R.slots) (hrest : (rest.map fun v => v.category).sum ≤ 8) (hd : decode cc pc = .ok (.invokevirtual idx, 3)) (hst : st = As.reverse ++ .ref (Γ.1 + q) :: rest)
    (kk : E p l e R s m args below meth c Γ D (cells + mc) (slots + ms) Q σ1 (pc + 3) lv (r :: rest)) : E p l e R s m args below meth c Γ D cells slots Q σ pc lv st :=
  e_callV X rest hM hw hy hn hq hent hc hR hcs hrest hd hst (fun v σ2 h9 => by obtain ⟨rfl, rfl⟩ := h9; exact kk)
theorem e_aret (X : Cx p l s m args meth c Γ D s0 own cc nL) {mc ms : Nat} {rt : FieldType} {Pst : Option Value → Mem → Prop} {o : Option Nat} (hr : meth.sig.returnType = some rt) (hrt : (∃ n, rt = .object n) ∨ ∃ t, rt = .array t) (hd : decode cc pc = .ok (.areturn, 1)) (hc : cells ≤ mc) (hs : slots ≤ ms) (hp : Pst (some (va_rf o)) σ) : E p l e R s m args below meth c Γ D cells slots (MQ below (QcA Γ D Pst) args s mc ms (frB Γ)) σ pc lv [va_rf o] :=
  fun H locs ls hP hS h => W.widen hc hs (W.aret X.1 X.2.1 hr hrt (by cases o with | none => exact Or.inl rfl | some a => exact Or.inr ⟨a, rfl⟩) (fun t ht hW => ⟨_, σ, rfl, by rw [ht]; exact hP, hp, hS.F ht⟩) hS.2.2 hd X.2.2.2.2.2.2.2.2.1)
/-- a put of a kind -/
theorem kop_fit {o : Option Nat} {n : String} : narrow (.object n) (va_rf o) = va_rf o ∧ fits (.object n) (va_rf o) = true := by cases o <;> exact ⟨rfl, rfl⟩
theorem kst_letters (X : Cx p l s m args meth c Γ D s0 own cc nL) {k : Int32} (hk : inb k 31 = true) {idx : Nat} (hl : Cond.fieldLink own idx "RivalWeds$Kind" "letters" "Ljava/lang/String;" ∈ lwG) (hd : decode cc pc = .ok (.getfield idx, 3)) (kk : E p l e R s m args below meth c Γ D cells slots Q σ (pc + 3) lv (.ref (sad Γ (kindS.getD k.toNatClampNeg 0)) :: st)) : E p l e R s m args below meth c Γ D cells slots Q σ pc lv (va_rf (kop Γ k) :: st) := by
  obtain ⟨e1, l1⟩ := kop_in (Γ := Γ) hk
  rw [e1]
  exact e_getX X ((x_gst X).2.2.1.1 _ l1).2.2.1 hl hd kk
def kCode (k : Int32) : Int32 := kindC.getD k.toNatClampNeg 0
theorem kst_code (X : Cx p l s m args meth c Γ D s0 own cc nL) {k : Int32} (hk : inb k 31 = true) {idx : Nat} (hl : Cond.fieldLink own idx "RivalWeds$Kind" "code" "I" ∈ lwG) (hd : decode cc pc = .ok (.getfield idx, 3)) (kk : E p l e R s m args below meth c Γ D cells slots Q σ (pc + 3) lv (.int (kCode k) :: st)) : E p l e R s m args below meth c Γ D cells slots Q σ pc lv (va_rf (kop Γ k) :: st) := by
  obtain ⟨e1, l1⟩ := kop_in (Γ := Γ) hk
  rw [e1]
  exact e_getX X ((x_gst X).2.2.1.1 _ l1).2.2.2 hl hd kk
theorem kst_recv (X : Cx p l s m args meth c Γ D s0 own cc nL) {k : Int32} (hk : inb k 31 = true) : va_O "RivalWeds$Kind" (kad Γ k.toNatClampNeg) (bA Γ) s0 s0.heap := ((x_gst X).2.2.1.1 _ (kop_in (Γ := Γ) hk).2).2.1
theorem kind_s29 (k : Nat) : kindS.getD k 0 < 29 := by
  by_cases h : k < 31
  · have h9 : ∀ k, k < 31 → kindS.getD k 0 < 29 := by decide +kernel
    exact h9 k h
  · rw [List.getD_eq_getElem?_getD, List.getElem?_eq_none (by show 31 ≤ k; omega)]
    decide
theorem e_callKi (X : Cx p l s m args meth c Γ D s0 own cc nL) {k : Int32} (hk : inb k 31 = true) {y : MethodName} {yc : ByteArray} {yL idx fr mc ms lo n : Nat} {ret : Option FieldType} {σ1 : Mem} {r : Int32} (As rest : List Value) (hM : CT l Γ D s0 y yc yL ret fr mc ms lo σ (va_rf (kop Γ k) :: As) (PI (some (.int r)) σ1))
    (hw : GoodIn lwG (wsV own idx "RivalWeds$Kind" y (wA y yc yL ret))) (hy : y.cls = "RivalWeds$Kind" ∧ y.cls ≠ "java/lang/invoke/MethodHandle" ∧ y.cls ≠ "java/lang/invoke/VarHandle" ∧ (parseMethodDescriptor y.desc).map (fun d => d.parameters.length) = some n) (hn : As.length = n)
    (hR : fr + 1 ≤ R.frames ∧ 8 + (yL + 11) + lo ≤ R.locals) (hcs : cells + mc ≤ R.cells ∧ slots + ms ≤ R.slots) (hrest : (rest.map fun v => v.category).sum ≤ 8) (hd : decode cc pc = .ok (.invokevirtual idx, 3)) (hst : st = As.reverse ++ va_rf (kop Γ k) :: rest)
    (kk : E p l e R s m args below meth c Γ D (cells + mc) (slots + ms) Q σ1 (pc + 3) lv (.int r :: rest)) : E p l e R s m args below meth c Γ D cells slots Q σ pc lv st := by
  have hO := kst_recv X hk
  rw [(kop_in (Γ := Γ) hk).1] at hM hst
  exact e_callVCi X As rest hM hw hy hn hO hR hcs hrest hd hst kk
theorem e_allK (X : Cx p l s m args meth c Γ D s0 own cc nL) {i : Int32} (hin : inb i 31 = true) (hd : decode cc pc = .ok (.aaload, 1)) (k : E p l e R s m args below meth c Γ D cells slots Q σ (pc + 1) lv (va_rf (kop Γ i) :: st)) : E p l e R s m args below meth c Γ D cells slots Q σ pc lv (.int i :: .ref (allA Γ) :: st) := by
  obtain ⟨e1, l1⟩ := kop_in (Γ := Γ) hin
  rw [e1] at k
  exact e_tq X (.ref (kad Γ i.toNatClampNeg)) (x_gst X).2.2.1.2.2.2 (inb_in hin) rfl hd k
end EST


abbrev Mem : Type := Nat → Nat → Int32
def up (σ : Mem) (q j : Nat) (v : Int32) : Mem := fun a b => if a = q ∧ b = j then v else σ a b
theorem up_row (σ : Mem) (q j : Nat) (v : Int32) : up σ q j v q = fun b => if b = j then v else σ q b := by funext b; simp [up]
theorem up_ne {σ : Mem} {q a : Nat} (j : Nat) (v : Int32) (h : a ≠ q) : up σ q j v a = σ a := by funext b; simp [up, h]
abbrev Gm : Type := Nat × (ClassId × ClassId × ClassId × ClassId × ClassId) × (Nat → Nat)
def entTbl : List (Nat × Nat) := [(0, 0), (2, 0), (3, 400), (1, 0), (2, 0), (3, 8), (2, 0), (3, 8), (2, 0), (3, 8), (2, 0), (3, 64), (2, 0), (3, 40), (2, 0), (3, 20), (2, 0), (3, 20), (2, 0), (3, 240), (4, 0), (2, 0), (3, 12), (2, 0), (3, 12), (3, 400), (2, 0), (3, 64), (1, 0), (2, 0), (3, 8), (2, 0), (3, 8), (2, 0), (3, 8), (2, 0), (3, 64), (2, 0), (3, 40), (2, 0), (3, 20), (2, 0), (3, 20), (2, 0), (3, 240), (4, 0), (2, 0), (3, 12), (2, 0), (3, 12), (3, 400), (2, 0), (3, 64), (11, 12), (5, 0), (2, 0), (3, 400), (12, 400), (3, 400), (3, 400), (3, 400), (1, 0), (2, 0), (3, 8), (2, 0), (3, 8), (2, 0), (3, 8), (2, 0), (3, 64), (2, 0), (3, 40), (2, 0), (3, 20), (2, 0), (3, 20), (2, 0), (3, 240), (6, 0), (2, 0), (3, 400), (12, 400), (3, 400), (3, 400), (3, 400), (4, 0), (2, 0), (3, 12), (2, 0), (3, 12), (3, 400), (2, 0), (3, 64), (7, 0), (8, 0), (1, 0), (2, 0), (3, 8), (2, 0), (3, 8), (2, 0), (3, 8), (2, 0), (3, 64), (2, 0), (3, 40), (2, 0), (3, 20), (2, 0), (3, 20), (2, 0), (3, 240), (7, 0), (2, 0), (3, 100), (2, 0), (3, 100), (9, 0), (2, 0), (3, 8), (2, 0), (3, 8), (10, 0), (2, 0), (3, 12), (2, 0), (3, 12), (2, 0), (3, 8), (1, 0), (2, 0), (3, 8), (2, 0), (3, 8), (2, 0), (3, 8), (2, 0), (3, 64), (2, 0), (3, 40), (2, 0), (3, 20), (2, 0), (3, 20), (2, 0), (3, 240), (1, 0), (2, 0), (3, 8), (2, 0), (3, 8), (2, 0), (3, 8), (2, 0), (3, 64), (2, 0), (3, 40), (2, 0), (3, 20), (2, 0), (3, 20), (2, 0), (3, 240), (1, 0), (2, 0), (3, 8), (2, 0), (3, 8), (2, 0), (3, 8), (2, 0), (3, 64), (2, 0), (3, 40), (2, 0), (3, 20), (2, 0), (3, 20), (2, 0), (3, 240), (1, 0), (2, 0), (3, 8), (2, 0), (3, 8), (2, 0), (3, 8), (2, 0), (3, 64), (2, 0), (3, 40), (2, 0), (3, 20), (2, 0), (3, 20), (2, 0), (3, 240), (1, 0), (2, 0), (3, 8), (2, 0), (3, 8), (2, 0), (3, 8), (2, 0), (3, 64), (2, 0), (3, 40), (2, 0), (3, 20), (2, 0), (3, 20), (2, 0), (3, 240), (1, 0), (2, 0), (3, 8), (2, 0), (3, 8), (2, 0), (3, 8), (2, 0), (3, 64), (2, 0), (3, 40), (2, 0), (3, 20), (2, 0), (3, 20), (2, 0), (3, 240), (1, 0), (2, 0), (3, 8), (2, 0), (3, 8), (2, 0), (3, 8), (2, 0), (3, 64), (2, 0), (3, 40), (2, 0), (3, 20), (2, 0), (3, 20), (2, 0), (3, 240), (1, 0), (2, 0), (3, 8), (2, 0), (3, 8), (2, 0), (3, 8), (2, 0), (3, 64), (2, 0), (3, 40), (2, 0), (3, 20), (2, 0), (3, 20), (2, 0), (3, 240), (1, 0), (2, 0), (3, 8), (2, 0), (3, 8), (2, 0), (3, 8), (2, 0), (3, 64), (2, 0), (3, 40), (2, 0), (3, 20), (2, 0), (3, 20), (2, 0), (3, 240), (1, 0), (2, 0), (3, 8), (2, 0), (3, 8), (2, 0), (3, 8), (2, 0), (3, 64), (2, 0), (3, 40), (2, 0), (3, 20), (2, 0), (3, 20), (2, 0), (3, 240), (1, 0), (2, 0), (3, 8), (2, 0), (3, 8), (2, 0), (3, 8), (2, 0), (3, 64), (2, 0), (3, 40), (2, 0), (3, 20), (2, 0), (3, 20), (2, 0), (3, 240), (1, 0), (2, 0), (3, 8), (2, 0), (3, 8), (2, 0), (3, 8), (2, 0), (3, 64), (2, 0), (3, 40), (2, 0), (3, 20), (2, 0), (3, 20), (2, 0), (3, 240), (13, 0), (3, 850), (3, 850), (3, 450), (3, 5400), (3, 400), (3, 6), (3, 2100), (3, 100), (3, 8), (3, 8), (14, 256), (3, 256), (15, 1)]
def kop (Γ : Gm) (k : Int32) : Option Nat := if k < 0 then none else some (Γ.2.2 k.toNatClampNeg)
def entOf (Γ : Gm) (q : Nat) (c : Nat × Nat) (f : Nat → Int32) : va_E := match c.1 with
  | 0 => .inr (10, [.ref (Γ.1 + 1), .ref (Γ.1 + 3), .ref (Γ.1 + 20), .ref (Γ.1 + 28), .ref (Γ.1 + 45), .ref (Γ.1 + 53), .ref (Γ.1 + 54), .ref (Γ.1 + 78), .ref (Γ.1 + 93), .ref (Γ.1 + 94), .ref (Γ.1 + 117), .ref (Γ.1 + 122), .int (f 12), .int (f 13), .int (f 14), .int (f 15), .int (f 16)])
  | 1 => .inr (8, [.ref (Γ.1 + (q + 1)), .ref (Γ.1 + (q + 3)), .ref (Γ.1 + (q + 5)), .ref (Γ.1 + (q + 7)), .ref (Γ.1 + (q + 9)), .ref (Γ.1 + (q + 11)), .ref (Γ.1 + (q + 13)), .ref (Γ.1 + (q + 15)), .int (f 8), .int (f 9), .int (f 10), .int (f 11), .int (f 12), .int (f 13), .int (f 14), .int (f 15), .int (f 16), .int (f 17), .int (f 18), .int (f 19)])
  | 2 => .inr (6, [.ref (Γ.1 + (q + 1))])
  | 3 => .inl (Γ.2.1.1, c.2, .inl f)
  | 4 => .inr (2, [.ref (Γ.1 + (q + 1)), .ref (Γ.1 + (q + 3)), .ref (Γ.1 + (q + 5)), .ref (Γ.1 + (q + 6)), .int (f 4), .int (f 5)])
  | 5 => .inr (9, [.ref (Γ.1 + (q + 1)), .ref (Γ.1 + (q + 3)), .ref (Γ.1 + (q + 4)), .ref (Γ.1 + (q + 5)), .ref (Γ.1 + (q + 6)), .int (f 5), .int (f 6), .int (f 7), va_rf (kop Γ (f 8)), .int (f 9), .int (f 10), .int (f 11), .int (f 12), .ref (Γ.1 + (q + 7))])
  | 6 => .inr (3, [.ref (Γ.1 + (q + 1)), .ref (Γ.1 + (q + 3)), .ref (Γ.1 + (q + 4)), .ref (Γ.1 + (q + 5)), .ref (Γ.1 + (q + 6)), .int (f 5), .int (f 6), .int (f 7), va_rf (kop Γ (f 8)), .int (f 9), .int (f 10), .int (f 11), .int (f 12), .ref (Γ.1 + (q + 7))])
  | 7 => .inr (4, [.int (f 0), .int (f 1), .int (f 2), .int (f 3), .int (f 4), .int (f 5), .int (f 6)])
  | 8 => .inr (0, [.ref (Γ.1 + (q + 1)), .ref (Γ.1 + (q + 18)), .ref (Γ.1 + (q + 19)), .ref (Γ.1 + (q + 21))])
  | 9 => .inr (5, [.ref (Γ.1 + (q + 1)), .ref (Γ.1 + (q + 3)), .int (f 2)])
  | 10 => .inr (7, [.ref (Γ.1 + (q + 1)), .ref (Γ.1 + (q + 3)), .ref (Γ.1 + (q + 5)), .int (f 3), .int (f 4)])
  | 11 => .inl (Γ.2.1.2.2.2.1, c.2, .inr (.inr (.inr (.inr (fun j => some (Γ.1 + (129 + 17 * j)))))))
  | 12 => .inl (Γ.2.1.2.2.2.2, c.2, .inr (.inr (.inr (.inr (fun j => kop Γ (f j))))))
  | 13 => .inr (11, [.int (f 0), .ref (Γ.1 + (q + 1)), .ref (Γ.1 + (q + 2)), .int (f 3), .ref (Γ.1 + (q + 3)), .ref (Γ.1 + (q + 4)), .int (f 6), .ref (Γ.1 + (q + 5)), .int (f 8), .int (f 9), .int (f 10), .int (f 11), .int (f 12), .int (f 13), .ref (Γ.1 + (q + 6)), .int (f 15), .int (f 16), .ref (Γ.1 + (q + 7)), .ref (Γ.1 + (q + 8)), .ref (Γ.1 + (q + 9)), .ref (Γ.1 + (q + 10)), .int (f 21), .ref (Γ.1 + (q + 11)), .ref (Γ.1 + (q + 12))])
  | 14 => .inl (Γ.2.1.2.1, c.2, .inl f)
  | _ => .inl (Γ.2.1.2.2.1, c.2, .inr (.inl (fun j => (f j).toInt64)))
def ent (Γ : Gm) (q : Nat) (f : Nat → Int32) : va_E := entOf Γ q (entTbl.getD q (99, 0)) f
theorem ent_at {Γ : Gm} {q : Nat} {c : Nat × Nat} (h : entTbl[q]? = some c) (f : Nat → Int32) : ent Γ q f = entOf Γ q c f := by
  unfold ent
  rw [List.getD_eq_getElem?_getD, h]
  rfl
theorem entTbl_len : entTbl.length = 347 := by decide +kernel
theorem ent_lt {q : Nat} {c : Nat × Nat} (h : entTbl[q]? = some c) : q < 347 := by
  have := (List.getElem?_eq_some_iff.mp h).1
  rw [entTbl_len] at this
  exact this
def Wd (Γ : Gm) (σ : Mem) : va_W := (List.range 347).map fun q => (Γ.1 + q, ent Γ q (σ q))
theorem Wd_get {Γ : Gm} {σ : Mem} {q : Nat} (hq : q < 347) : (Wd Γ σ)[q]? = some (Γ.1 + q, ent Γ q (σ q)) := by
  unfold Wd
  rw [List.getElem?_map, List.getElem?_range hq]
  rfl
theorem Wd_some {Γ : Gm} {σ : Mem} {k : Nat} {q : Nat × va_E} (h : (Wd Γ σ)[k]? = some q) : k < 347 ∧ q = (Γ.1 + k, ent Γ k (σ k)) := by
  have hk : k < 347 := by
    have := (List.getElem?_eq_some_iff.mp h).1
    simpa [Wd] using this
  rw [Wd_get hk] at h
  exact ⟨hk, (Option.some.inj h).symm⟩
theorem Wd_D (Γ : Gm) (σ : Mem) : va_D (fun q => Γ.1 ≤ q) (Wd Γ σ) := by
  refine ⟨fun i j p q hi hj hpq => ?_, fun k q hk => ?_⟩
  · obtain ⟨-, rfl⟩ := Wd_some hi
    obtain ⟨-, rfl⟩ := Wd_some hj
    have h9 : Γ.1 + i = Γ.1 + j := hpq
    omega
  · obtain ⟨-, rfl⟩ := Wd_some hk
    exact Nat.le_add_right _ _
theorem Wd_set {Γ : Gm} {σ : Mem} {q j : Nat} {v : Int32} {e : va_E} (hq : q < 347) (he : ent Γ q (fun b => if b = j then v else σ q b) = e) : (Wd Γ σ).set q (Γ.1 + q, e) = Wd Γ (up σ q j v) := by
  apply List.ext_getElem?
  intro k
  by_cases hk : k = q
  · subst hk
    rw [List.getElem?_set_self (by simp [Wd]; exact hq), Wd_get hq, up_row, he]
  · rw [List.getElem?_set_ne (Ne.symm hk)]
    by_cases h9 : k < 347
    · rw [Wd_get h9, Wd_get h9, up_ne _ _ hk]
    · rw [List.getElem?_eq_none (by simp [Wd]; omega), List.getElem?_eq_none (by simp [Wd]; omega)]
def tysOf (Γ : Gm) : List (ClassId × FieldType) := [(Γ.2.1.1, .int), (Γ.2.1.2.1, .boolean), (Γ.2.1.2.2.1, .long), (Γ.2.1.2.2.2.1, .object "RivalWeds$Town"), (Γ.2.1.2.2.2.2, .object "RivalWeds$Kind")]
/-- the classes whose objects the worlds hold, by their places -/
abbrev vCl : List vw_C := [(RX0, TX0, 4), (RX1, TX1, 0), (RX2, TX2, 6), (RX3, TX3, 14), (RX4, TX4, 7), (RX5, TX5, 3), (RX6, TX6, 1), (RX8, TX8, 5), (RX9, TX9, 20), (RX10, TX10, 14), (RX11, TX11, 17), (RX12, TX12, 24)]
/-- private methods of the abstract Text, called on its two kinds -/
def selX : List Cond := [.selects RX10 yX7_cut yX7_cut, .selects RX3 yX7_cut yX7_cut, .selects RX10 yX7_stopOf yX7_stopOf, .selects RX3 yX7_stopOf yX7_stopOf, .selects RX10 yX7_addThing yX7_addThing, .selects RX3 yX7_addThing yX7_addThing, .selects RX10 yX7_numberAt yX7_numberAt, .selects RX3 yX7_numberAt yX7_numberAt]
theorem sel_priv {C : String} {y0 y : MethodName} {args : Array Value} {s : State} (hy : y.cls ≠ "java/lang/invoke/MethodHandle" ∧ y.cls ≠ "java/lang/invoke/VarHandle") (hcl : y0.cls = y.cls) (hs : (Cond.selects C y0 y0).before args s = true) (hpriv : (Cond.privateMethod y).before args s = true) (hinst : (Cond.instanceMethod y).before args s = true) : (Cond.selects C y y).before args s = true := by
  obtain ⟨c2, r2, m2, q1, q2, q3, q4, kP, hkP, hkPi⟩ := Cond.selects_spec hs
  obtain ⟨mk, methM, hnamed, hmethM, -, -⟩ := Cond.instanceMethod_spec hinst
  have hfound : s.methodFound? y.cls y.name y.desc = some mk := State.methodFound?_of_named hnamed hy
  have e1 : mk.cls = m2.cls := by
    have h1 := findClass_of_methodNamed hnamed
    have h2 := findClass_of_methodNamed q3
    rw [hcl] at h2
    exact Option.some.inj (h1.symm.trans h2)
  have hsel : selectMethod {} s.vm c2 mk = .method mk := selectMethod_private hmethM (Cond.privateMethod_at hpriv mk methM hnamed hmethM)
  simp only [Cond.before, Cond.holds, Cond.value, q1, hfound, hnamed, hsel, e1, hkP]
  simp
  simpa using hkPi
def lwG : List Cond := (selX ++ lw_tbl).filter goodWord
theorem lwG_in {w : Cond} (h : w ∈ lw_tbl) (g : goodWord w = true) : w ∈ lwG := List.mem_filter.mpr ⟨List.mem_append_right _ h, g⟩
theorem lwX_in {w : Cond} {i : Nat} (h : selX[i]? = some w) (g : goodWord w = true) : w ∈ lwG := List.mem_filter.mpr ⟨List.mem_append_left _ (List.mem_of_getElem? h), g⟩
theorem lwG_good : ∀ w ∈ lwG, (w.onTables && w.keeps) = true ∨ ∃ ty, w = .arrayClass ty := fun w h => good_of_word (List.mem_filter.mp h).2
def wA (y : MethodName) (cc : ByteArray) (nL : Nat) (ret : Option FieldType) : List Cond := .code y cc nL ret :: lwG
theorem gA {ws : List Cond} {y : MethodName} {cc : ByteArray} {nL : Nat} {ret : Option FieldType} (h : ∀ w ∈ ws, w ∈ lwG) (hc : Cond.code y cc nL ret ∈ lwG) : GoodIn lwG (ws ++ wA y cc nL ret) := by
  intro w hw
  have hm : w ∈ lwG := by
    rcases List.mem_append.mp hw with h1 | h1
    · exact h w h1
    · rcases List.mem_cons.mp h1 with h2 | h2
      · rw [h2]; exact hc
      · exact h2
  exact ⟨hm, lwG_good w hm⟩
-- locals
def lvl (lv : List (Option Value)) : List (Nat × Value) := (List.range lv.length).filterMap fun i => (lv.getD i none).map fun v => (i, v)
theorem lvl_in {lv : List (Option Value)} {i : Nat} {v : Value} : (i, v) ∈ lvl lv ↔ lv[i]? = some (some v) := by
  unfold lvl
  rw [List.mem_filterMap]
  constructor
  · rintro ⟨j, -, h⟩
    cases h9 : lv[j]? with
    | none => simp [List.getD_eq_getElem?_getD, h9] at h
    | some o => cases o with
      | none => simp [List.getD_eq_getElem?_getD, h9] at h
      | some x => simp [List.getD_eq_getElem?_getD, h9] at h; rw [← h.1, ← h.2]; exact h9
  · intro h
    refine ⟨i, List.mem_range.mpr (List.getElem?_eq_some_iff.mp h).1, ?_⟩
    simp [List.getD_eq_getElem?_getD, h]
def lvs (ls : Array Slot) (n : Nat) (lv : List (Option Value)) : Prop := lv_has ls n (lvl lv) ∧ ∀ (i : Nat) (v : Value), lv[i]? = some (some v) → v.category = 1
theorem lvs_at {ls : Array Slot} {n i : Nat} {lv : List (Option Value)} {v : Value} (h : lvs ls n lv) (hi : lv[i]? = some (some v)) : ls[i]? = some (.val v) := h.1.2.2 (i, v) (lvl_in.mpr hi)
theorem lvs_set {ls' : Array Slot} {n i : Nat} {lv : List (Option Value)} {v : Value} (h2 : ∀ (i : Nat) (v : Value), lv[i]? = some (some v) → v.category = 1) (hv : v.category = 1) (h : lv_has ls' n ((i, v) :: (lvl lv).filter (fun q => !(q.1 == i) && !(q.1 + 1 == i && q.2.category == 2)))) : lvs ls' n (lv.set i (some v)) := by
  have key : ∀ (j : Nat) (w : Value), (lv.set i (some v))[j]? = some (some w) → (j = i ∧ w = v) ∨ (j ≠ i ∧ lv[j]? = some (some w)) := by
    intro j w hj
    by_cases hji : j = i
    · subst hji
      rw [List.getElem?_set] at hj
      by_cases hl : j < lv.length
      · simp [hl] at hj; exact Or.inl ⟨rfl, hj.symm⟩
      · simp [hl] at hj
    · rw [List.getElem?_set_ne (Ne.symm hji)] at hj
      exact Or.inr ⟨hji, hj⟩
  refine ⟨⟨h.1, h.2.1, fun q hq => ?_⟩, fun j w hj => ?_⟩
  · obtain ⟨j, w⟩ := q
    rcases key j w (lvl_in.mp hq) with ⟨rfl, rfl⟩ | ⟨h3, h4⟩
    · exact h.2.2 (j, w) List.mem_cons_self
    · refine h.2.2 (j, w) (List.mem_cons_of_mem _ (List.mem_filter.mpr ⟨lvl_in.mpr h4, ?_⟩))
      have h5 := h2 j w h4
      simp [h3, h5]
  · rcases key j w hj with ⟨-, rfl⟩ | ⟨-, h4⟩
    · exact hv
    · exact h2 j w h4
theorem lvs_sub {ls : Array Slot} {n : Nat} {lv lv' : List (Option Value)} (h : lvs ls n lv) (h2 : ∀ (i : Nat) (v : Value), lv'[i]? = some (some v) → lv[i]? = some (some v)) : lvs ls n lv' :=
  ⟨⟨h.1.1, h.1.2.1, fun q hq => by obtain ⟨i, v⟩ := q; exact h.1.2.2 (i, v) (lvl_in.mpr (h2 i v (lvl_in.mp hq)))⟩, fun i v hv => h.2 i v (h2 i v hv)⟩
def txS : List String := ["person", "likes", "asked", "reinsured", "wed", "bar", "premium", "pays", "lift", "sour", "if", "or", "and", "not", "insured", "rich", "happy", "months", "quarrel", "insurers", "liking", "month", ";", "(", ")", "<", ">", "+", ""]
def lenS : List Nat := [6, 5, 5, 9, 3, 3, 7, 4, 4, 4, 2, 2, 3, 3, 7, 4, 5, 6, 7, 8, 6, 5, 1, 1, 1, 1, 1, 1, 0]
def bytS : List (List Int32) := [[112, 101, 114, 115, 111, 110], [108, 105, 107, 101, 115], [97, 115, 107, 101, 100], [114, 101, 105, 110, 115, 117, 114, 101, 100], [119, 101, 100], [98, 97, 114], [112, 114, 101, 109, 105, 117, 109], [112, 97, 121, 115], [108, 105, 102, 116], [115, 111, 117, 114], [105, 102], [111, 114], [97, 110, 100], [110, 111, 116], [105, 110, 115, 117, 114, 101, 100], [114, 105, 99, 104], [104, 97, 112, 112, 121], [109, 111, 110, 116, 104, 115], [113, 117, 97, 114, 114, 101, 108], [105, 110, 115, 117, 114, 101, 114, 115], [108, 105, 107, 105, 110, 103], [109, 111, 110, 116, 104], [59], [40], [41], [60], [62], [43], []]
def kindNm : List String := ["PERSON", "LIKES", "ASKED", "REINSURED", "WED", "BAR", "PREMIUM", "PAYS", "LIFT", "SOUR", "IF", "OR", "AND", "NOT", "INSURED", "RICH", "HAPPY", "MONTHS", "QUARREL", "INSURERS", "LIKING", "MONTH", "LINE_END", "OPEN", "CLOSE", "LESS", "MORE", "PLUS", "DIGITS", "TEXT_END", "UNKNOWN"]
def kindC : List Int32 := [(-1), (-1), (-1), (-1), (-1), (-1), (-1), (-1), (-1), (-1), (-1), 1012, 1011, 1013, 1006, 1007, 1000, 1001, 1002, 1003, 1004, 1005, (-1), (-1), (-1), 1009, 1010, 1008, (-1), (-1), (-1)]
def kindS : List Nat := [0, 1, 2, 3, 4, 5, 6, 7, 8, 9, 10, 11, 12, 13, 14, 15, 16, 17, 18, 19, 20, 21, 22, 23, 24, 25, 26, 27, 28, 28, 28]
def strRefs : List (String × Nat × String × Nat) := [("RivalWedsModel", 247, "lift", 8), ("RivalWedsModel", 249, "sour", 9), ("RivalWedsModel", 251, "if", 10), ("RivalWedsModel", 228, "not", 13), ("RivalWedsModel", 217, "insured", 14), ("RivalWedsModel", 219, "rich", 15), ("RivalWedsModel", 131, "happy", 16), ("RivalWedsModel", 204, "months", 17), ("RivalWedsModel", 206, "quarrel", 18), ("RivalWedsModel", 208, "insurers", 19), ("RivalWedsModel", 210, "liking", 20), ("RivalWedsModel", 212, "month", 21), ("RivalWedsModel", 240, "and", 12), ("RivalWedsModel", 245, "or", 11), ("RivalWedsModel", 147, "person", 0), ("RivalWedsModel", 152, "likes", 1), ("RivalWedsModel", 157, "asked", 2), ("RivalWedsModel", 159, "reinsured", 3), ("RivalWedsModel", 161, "wed", 4), ("RivalWedsModel", 166, "bar", 5), ("RivalWedsModel", 171, "premium", 6), ("RivalWedsModel", 173, "pays", 7), ("RivalWeds$Kind", 239, "", 28), ("RivalWeds$Kind", 177, "lift", 8), ("RivalWeds$Kind", 180, "sour", 9), ("RivalWeds$Kind", 183, "if", 10), ("RivalWeds$Kind", 194, "not", 13), ("RivalWeds$Kind", 224, "(", 23), ("RivalWeds$Kind", 227, ")", 24), ("RivalWeds$Kind", 197, "insured", 14), ("RivalWeds$Kind", 200, "rich", 15), ("RivalWeds$Kind", 236, "+", 27), ("RivalWeds$Kind", 230, "<", 25), ("RivalWeds$Kind", 233, ">", 26), ("RivalWeds$Kind", 191, "and", 12), ("RivalWeds$Kind", 186, "or", 11), ("RivalWeds$Kind", 150, "person", 0), ("RivalWeds$Kind", 156, "likes", 1), ("RivalWeds$Kind", 159, "asked", 2), ("RivalWeds$Kind", 162, "reinsured", 3), ("RivalWeds$Kind", 165, "wed", 4), ("RivalWeds$Kind", 203, "happy", 16), ("RivalWeds$Kind", 168, "bar", 5), ("RivalWeds$Kind", 171, "premium", 6), ("RivalWeds$Kind", 174, "pays", 7), ("RivalWeds$Kind", 221, ";", 22), ("RivalWeds$Kind", 206, "months", 17), ("RivalWeds$Kind", 209, "quarrel", 18), ("RivalWeds$Kind", 212, "insurers", 19), ("RivalWeds$Kind", 215, "liking", 20), ("RivalWeds$Kind", 218, "month", 21)]
def excRefs : List (String × Nat × String) := [("RivalWeds", 118, "the text of the town is wrong"), ("RivalWeds", 128, "there are 12 texts of the town"), ("RivalWeds", 141, "the text of the law is wrong"), ("RivalWeds", 428, "there is no such person"), ("RivalWeds", 177, "a person has no such what"), ("RivalWeds", 431, "both are one"), ("RivalWeds", 433, "there is no such match"), ("RivalWeds", 212, "a match has no such what"), ("RivalWeds", 226, "one of both is wed"), ("RivalWeds", 232, "there are 20 matches"), ("RivalWeds", 435, "the match is over"), ("RivalWeds", 440, "one is no insurer of the match"), ("RivalWeds", 241, "one has less than 10"), ("RivalWeds", 442, "the number is none"), ("RivalWeds", 346, "the tape does not tell rows of people"), ("RivalWeds", 374, "the log has no such what")]

def bA (Γ : Gm) : Nat → Prop := fun q => Γ.1 ≤ q
def kad (Γ : Gm) (k : Nat) : Nat := Γ.2.2 k
def sad (Γ : Gm) (i : Nat) : Nat := Γ.2.2 (100 + i)
def svd (Γ : Gm) (i : Nat) : Nat := Γ.2.2 (200 + i)
def allA (Γ : Gm) : Nat := Γ.2.2 300
def GstS (Γ : Gm) (s0 : State) : Prop := ∀ i, i < 29 → va_O "java/lang/String" (sad Γ i) (bA Γ) s0 s0.heap ∧ va_OF "java/lang/String" "coder" "B" (.int 0) (sad Γ i) (bA Γ) s0 s0.heap ∧ va_OF "java/lang/String" "value" "[B" (.ref (svd Γ i)) (sad Γ i) (bA Γ) s0 s0.heap ∧ va_T .byte (svd Γ i) (lenS.getD i 0) (fun j => .int ((bytS.getD i []).getD j 0)) (bA Γ) s0 s0.heap
def GstR (Γ : Gm) (s0 : State) : Prop := (∀ q ∈ strRefs, vk_R q.1 q.2.1 q.2.2.1 (sad Γ q.2.2.2) s0) ∧ ∀ q ∈ excRefs, ∃ a, vk_R q.1 q.2.1 q.2.2 a s0
def GstK (Γ : Gm) (s0 : State) : Prop := (∀ k, k < 31 → va_Z "RivalWeds$Kind" (kindNm.getD k "") "LRivalWeds$Kind;" (.ref (kad Γ k)) (bA Γ) s0 s0.heap ∧ va_O "RivalWeds$Kind" (kad Γ k) (bA Γ) s0 s0.heap ∧ va_OF "RivalWeds$Kind" "letters" "Ljava/lang/String;" (.ref (sad Γ (kindS.getD k 0))) (kad Γ k) (bA Γ) s0 s0.heap ∧ va_OF "RivalWeds$Kind" "code" "I" (.int (kindC.getD k 0)) (kad Γ k) (bA Γ) s0 s0.heap) ∧
  (∀ i j, i < 31 → j < 31 → kad Γ i = kad Γ j → i = j) ∧ va_Z "RivalWeds$Kind" "ALL" "[LRivalWeds$Kind;" (.ref (allA Γ)) (bA Γ) s0 s0.heap ∧ va_T (.object "RivalWeds$Kind") (allA Γ) 31 (fun j => .ref (kad Γ j)) (bA Γ) s0 s0.heap
def GstZ (Γ : Gm) (s0 : State) : Prop := va_Z "java/lang/String" "COMPACT_STRINGS" "Z" (.int 1) (bA Γ) s0 s0.heap ∧ va_Zq "jdk/internal/util/Preconditions" "SIOOBE_FORMATTER" "Ljava/util/function/BiFunction;" (bA Γ) s0 s0.heap ∧ vx_Zq Bundle.tN "UNASSIGNED_STACK" Bundle.steD (bA Γ) s0 s0.heap ∧ vx_Zq Bundle.tN "SUPPRESSED_SENTINEL" Bundle.listD (bA Γ) s0 s0.heap
def excN : List String := ["java/lang/IllegalArgumentException", "java/lang/IllegalStateException", "java/lang/IndexOutOfBoundsException", "java/lang/UnsupportedOperationException", "java/util/NoSuchElementException"]
def GstX (s0 : State) : Prop := (∀ e ∈ excN, va_Nw (.castable e e) s0) ∧ ∀ e ∈ excN, ∀ f ∈ excN, e ≠ f → va_Nc e f s0
def Gst (Γ : Gm) (s0 : State) : Prop := GstS Γ s0 ∧ GstR Γ s0 ∧ GstK Γ s0 ∧ GstZ Γ s0 ∧ GstX s0

def nestW : List Cond := [.methodLinkNest RX9 94 yX11_contains RX11, .methodLinkNest RX5 60 yX11_contains RX11, .methodLinkNest RX9 115 yX11_happyWithin RX11, .methodLinkNest RX4 40 yX11_happyWithin RX11, .methodLinkNest RX0 127 yX11_contains RX11, .methodLinkNest RX0 92 yX11_happyWithin RX11, .methodLinkNest RX8 56 yX11_contains RX11]
def declW : List Cond := [.declares ⟨RX7, "readsLine", "()Z"⟩, .declares ⟨"java/lang/RuntimeException", "<init>", "(Ljava/lang/String;)V"⟩, .declares ⟨"java/lang/Exception", "<init>", "(Ljava/lang/String;)V"⟩, .declares ⟨"java/lang/Throwable", "<init>", "(Ljava/lang/String;)V"⟩]
def Gok (l : Launch) (Γ : Gm) (D : va_G) (s0 : State) : Prop := va_K D vCl (tysOf Γ) s0 ∧ l.stackTraces = false ∧ (∀ w ∈ nestW, va_Nw w s0) ∧ (∀ w ∈ declW, va_Nw w s0) ∧ Gst Γ s0
def lvle : List (Option Value) → List (Option Value) → Prop
  | [], _ => True
  | none :: a, [] => lvle a []
  | none :: a, _ :: b => lvle a b
  | some _ :: _, [] => False
  | some x :: a, y :: b => y = some x ∧ lvle a b
theorem lvle_at : ∀ (a b : List (Option Value)), lvle a b → ∀ (i : Nat) (v : Value), a[i]? = some (some v) → b[i]? = some (some v)
  | [], _, _, i, v, hi => by simp at hi
  | none :: a, [], h, i, v, hi => by
    cases i with
    | zero => simp at hi
    | succ i =>
      rw [List.getElem?_cons_succ] at hi
      have := lvle_at a [] h i v hi
      simp at this
  | none :: a, y :: b, h, i, v, hi => by
    cases i with
    | zero => simp at hi
    | succ i =>
      rw [List.getElem?_cons_succ] at hi ⊢
      exact lvle_at a b h i v hi
  | some x :: a, [], h, _, _, _ => h.elim
  | some x :: a, y :: b, h, i, v, hi => by
    cases i with
    | zero =>
      rw [List.getElem?_cons_zero] at hi ⊢
      rw [h.1]
      exact hi
    | succ i =>
      rw [List.getElem?_cons_succ] at hi ⊢
      exact lvle_at a b h.2 i v hi
-- the context of a method's body; its judgement; contracts
def Cx (p : Program) (l : Launch) (s : State) (m : MethodId) (args : Array Value) (meth : Method) (c : Code) (Γ : Gm) (D : va_G) (s0 : State) (own : String) (cc : ByteArray) (nL : Nat) : Prop :=
  p.tables.exec = Jvm.exec ∧ c.code = cc ∧ c.maxLocals = nL ∧ s.vm.findClass own = some m.cls ∧ (∀ w ∈ lwG, w.before args s = true) ∧ va_K D vCl (tysOf Γ) s ∧ s0.WarmedH s.vm ∧ (Γ.1 ≤ s.heap.size ∧ ∀ q : Nat, q < Γ.1 → s.heap[q]? = s0.heap[q]?) ∧ meth.locks = false ∧ Gok l Γ D s0
def E (p : Program) (l : Launch) (e : Env) (R : Room) (s : State) (m : MethodId) (args : Array Value) (below : List Frame) (meth : Method) (c : Code) (Γ : Gm) (D : va_G) (cells slots : Nat) (Q : State → Prop) (σ : Mem) (pc : Nat) (lv : List (Option Value)) (st : List Value) : Prop :=
  ∀ (H : Heap) (locs : List Loc) (ls : Array Slot), va_P D vCl (Wd Γ σ) H → va_S (fun q => Γ.1 ≤ q) s.heap H locs → lvs ls c.maxLocals lv → W p l e R s m args below meth c H locs cells slots Q (F0 m pc ls st)
def PcA (Γ : Gm) (D : va_G) (s0 : State) (σ : Mem) (av : List Value) : Array Value → State → Prop := fun v U =>
  v = av.toArray ∧ s0.WarmedH U.vm ∧ (Γ.1 ≤ U.heap.size ∧ ∀ q : Nat, q < Γ.1 → U.heap[q]? = s0.heap[q]?) ∧ va_P D vCl (Wd Γ σ) U.heap
def QcA (Γ : Gm) (D : va_G) (Pst : Option Value → Mem → Prop) : Array Value → State → Outcome → State → Prop := fun _ st o t =>
  ∃ (v : Option Value) (σ' : Mem), o = .returned v ∧ va_P D vCl (Wd Γ σ') t.heap ∧ Pst v σ' ∧ va_F (fun q => Γ.1 ≤ q) st t
def frB (Γ : Gm) : Addr → Prop := fun q => Γ.1 ≤ q
def CT (l : Launch) (Γ : Gm) (D : va_G) (s0 : State) (y : MethodName) (cc : ByteArray) (nL : Nat) (ret : Option FieldType) (fr mc ms lo : Nat) (σ : Mem) (av : List Value) (Pst : Option Value → Mem → Prop) : Prop :=
  Met l y (wA y cc nL ret) { frames := fr, cells := mc, slots := ms, locals := lo } (PcA Γ D s0 σ av) (QcA Γ D Pst) mc ms (frB Γ)
section EE
variable {p : Program} {l : Launch} {e : Env} {R : Room} {s : State} {m : MethodId} {args : Array Value} {below : List Frame} {meth : Method} {c : Code} {Γ : Gm} {D : va_G} {s0 : State} {cells slots : Nat} {Q : State → Prop} {own : String} {cc : ByteArray} {nL : Nat} {σ : Mem} {pc : Nat} {lv : List (Option Value)} {st : List Value}
theorem e_iconst (X : Cx p l s m args meth c Γ D s0 own cc nL) {n : Int} (v : Int32) (hd : decode cc pc = .ok (.iconst n, 1)) (hv : Int32.ofInt n = v) (k : E p l e R s m args below meth c Γ D cells slots Q σ (pc + 1) lv (.int v :: st)) : E p l e R s m args below meth c Γ D cells slots Q σ pc lv st :=
  fun H locs ls hP hS hl => lv_iconst X.1 X.2.1 hd hv (k H locs ls hP hS hl)
theorem e_bipush (X : Cx p l s m args meth c Γ D s0 own cc nL) {n : Int} (v : Int32) (hd : decode cc pc = .ok (.bipush n, 2)) (hv : (Int8.ofInt n).toInt32 = v) (k : E p l e R s m args below meth c Γ D cells slots Q σ (pc + 2) lv (.int v :: st)) : E p l e R s m args below meth c Γ D cells slots Q σ pc lv st :=
  fun H locs ls hP hS hl => lv_bipush X.1 X.2.1 hd hv (k H locs ls hP hS hl)
theorem e_sipush (X : Cx p l s m args meth c Γ D s0 own cc nL) {n : Int} (v : Int32) (hd : decode cc pc = .ok (.sipush n, 3)) (hv : (Int16.ofInt n).toInt32 = v) (k : E p l e R s m args below meth c Γ D cells slots Q σ (pc + 3) lv (.int v :: st)) : E p l e R s m args below meth c Γ D cells slots Q σ pc lv st :=
  fun H locs ls hP hS hl => lv_sipush X.1 X.2.1 hd hv (k H locs ls hP hS hl)
theorem e_ldc (X : Cx p l s m args meth c Γ D s0 own cc nL) {idx : Nat} (v : Int32) (hw : Cond.constant own idx v ∈ lwG) (hd : decode cc pc = .ok (.ldc idx, 2)) (k : E p l e R s m args below meth c Γ D cells slots Q σ (pc + 2) lv (.int v :: st)) : E p l e R s m args below meth c Γ D cells slots Q σ pc lv st :=
  fun H locs ls hP hS hl => lv_ldc X.1 X.2.1 X.2.2.2.1 (X.2.2.2.2.1 _ hw) hd (k H locs ls hP hS hl)
theorem e_iload_n (X : Cx p l s m args meth c Γ D s0 own cc nL) {n : Fin 4} {i : Nat} {x : Int32} (hd : decode cc pc = .ok (.iload_n n, 1)) (hi : (n : Nat) = i) (hl : lv[i]? = some (some (.int x))) (k : E p l e R s m args below meth c Γ D cells slots Q σ (pc + 1) lv (.int x :: st)) : E p l e R s m args below meth c Γ D cells slots Q σ pc lv st :=
  fun H locs ls hP hS h => lv_iload_n X.1 X.2.1 hd hi (lvs_at h hl) (k H locs ls hP hS h)
theorem e_iload (X : Cx p l s m args meth c Γ D s0 own cc nL) {i : Nat} {x : Int32} (hd : decode cc pc = .ok (.iload i, 2)) (hl : lv[i]? = some (some (.int x))) (k : E p l e R s m args below meth c Γ D cells slots Q σ (pc + 2) lv (.int x :: st)) : E p l e R s m args below meth c Γ D cells slots Q σ pc lv st :=
  fun H locs ls hP hS h => lv_iload X.1 X.2.1 hd (lvs_at h hl) (k H locs ls hP hS h)
theorem e_aload_n (X : Cx p l s m args meth c Γ D s0 own cc nL) {n : Fin 4} {i : Nat} {x : Nat} (hd : decode cc pc = .ok (.aload_n n, 1)) (hi : (n : Nat) = i) (hl : lv[i]? = some (some (.ref x))) (k : E p l e R s m args below meth c Γ D cells slots Q σ (pc + 1) lv (.ref x :: st)) : E p l e R s m args below meth c Γ D cells slots Q σ pc lv st :=
  fun H locs ls hP hS h => lv_aload_n X.1 X.2.1 hd hi (lvs_at h hl) (k H locs ls hP hS h)
theorem e_aload (X : Cx p l s m args meth c Γ D s0 own cc nL) {i : Nat} {x : Nat} (hd : decode cc pc = .ok (.aload i, 2)) (hl : lv[i]? = some (some (.ref x))) (k : E p l e R s m args below meth c Γ D cells slots Q σ (pc + 2) lv (.ref x :: st)) : E p l e R s m args below meth c Γ D cells slots Q σ pc lv st :=
  fun H locs ls hP hS h => lv_aload X.1 X.2.1 hd (lvs_at h hl) (k H locs ls hP hS h)
theorem e_istore_n (X : Cx p l s m args meth c Γ D s0 own cc nL) {n : Fin 4} {i : Nat} {x x' : Int32} (hx : x' = x) (hd : decode cc pc = .ok (.istore_n n, 1)) (hi : (n : Nat) = i) (hn : i < nL) (k : E p l e R s m args below meth c Γ D cells slots Q σ (pc + 1) (lv.set i (some (.int x'))) st) : E p l e R s m args below meth c Γ D cells slots Q σ pc lv (.int x :: st) := by
  subst hx
  exact fun H locs ls hP hS h => lv_istore_n X.1 X.2.1 hd hi h.1 (by rw [X.2.2.1]; exact hn) rfl (fun ls' h' => k H locs ls' hP hS (lvs_set h.2 rfl h'))
theorem e_istore (X : Cx p l s m args meth c Γ D s0 own cc nL) {i : Nat} {x x' : Int32} (hx : x' = x) (hd : decode cc pc = .ok (.istore i, 2)) (hn : i < nL) (k : E p l e R s m args below meth c Γ D cells slots Q σ (pc + 2) (lv.set i (some (.int x'))) st) : E p l e R s m args below meth c Γ D cells slots Q σ pc lv (.int x :: st) := by
  subst hx
  exact fun H locs ls hP hS h => lv_istore X.1 X.2.1 hd h.1 (by rw [X.2.2.1]; exact hn) rfl (fun ls' h' => k H locs ls' hP hS (lvs_set h.2 rfl h'))
theorem e_astore_n (X : Cx p l s m args meth c Γ D s0 own cc nL) {n : Fin 4} {i : Nat} {x : Nat} (hd : decode cc pc = .ok (.astore_n n, 1)) (hi : (n : Nat) = i) (hn : i < nL) (k : E p l e R s m args below meth c Γ D cells slots Q σ (pc + 1) (lv.set i (some (.ref x))) st) : E p l e R s m args below meth c Γ D cells slots Q σ pc lv (.ref x :: st) :=
  fun H locs ls hP hS h => lv_astore_n X.1 X.2.1 hd hi h.1 (by rw [X.2.2.1]; exact hn) rfl (fun ls' h' => k H locs ls' hP hS (lvs_set h.2 rfl h'))
theorem e_astore (X : Cx p l s m args meth c Γ D s0 own cc nL) {i : Nat} {x : Nat} (hd : decode cc pc = .ok (.astore i, 2)) (hn : i < nL) (k : E p l e R s m args below meth c Γ D cells slots Q σ (pc + 2) (lv.set i (some (.ref x))) st) : E p l e R s m args below meth c Γ D cells slots Q σ pc lv (.ref x :: st) :=
  fun H locs ls hP hS h => lv_astore X.1 X.2.1 hd h.1 (by rw [X.2.2.1]; exact hn) rfl (fun ls' h' => k H locs ls' hP hS (lvs_set h.2 rfl h'))
theorem e_iinc (X : Cx p l s m args meth c Γ D s0 own cc nL) {i : Nat} {n : Int} {x : Int32} (v : Int32) (hd : decode cc pc = .ok (.iinc i n, 3)) (hl : lv[i]? = some (some (.int x))) (hv : Int32.ofInt n = v) (hn : i < nL) (k : E p l e R s m args below meth c Γ D cells slots Q σ (pc + 3) (lv.set i (some (.int (x + v)))) st) : E p l e R s m args below meth c Γ D cells slots Q σ pc lv st :=
  fun H locs ls hP hS h => by
    obtain ⟨k0, hk0⟩ := List.getElem?_of_mem (lvl_in.mpr hl)
    exact lv_iinc X.1 X.2.1 hd h.1 hk0 (by rw [hv]) (by rw [X.2.2.1]; exact hn) rfl (fun ls' h' => k H locs ls' hP hS (lvs_set h.2 rfl h'))
theorem e_iadd (X : Cx p l s m args meth c Γ D s0 own cc nL) {x y : Int32} (hd : decode cc pc = .ok (.iadd, 1)) (k : E p l e R s m args below meth c Γ D cells slots Q σ (pc + 1) lv (.int (x + y) :: st)) : E p l e R s m args below meth c Γ D cells slots Q σ pc lv (.int y :: .int x :: st) :=
  fun H locs ls hP hS h => lv_iadd X.1 X.2.1 hd (k H locs ls hP hS h)
theorem e_isub (X : Cx p l s m args meth c Γ D s0 own cc nL) {x y : Int32} (hd : decode cc pc = .ok (.isub, 1)) (k : E p l e R s m args below meth c Γ D cells slots Q σ (pc + 1) lv (.int (x - y) :: st)) : E p l e R s m args below meth c Γ D cells slots Q σ pc lv (.int y :: .int x :: st) :=
  fun H locs ls hP hS h => lv_isub X.1 X.2.1 hd (k H locs ls hP hS h)
theorem e_imul (X : Cx p l s m args meth c Γ D s0 own cc nL) {x y : Int32} (hd : decode cc pc = .ok (.imul, 1)) (k : E p l e R s m args below meth c Γ D cells slots Q σ (pc + 1) lv (.int (x * y) :: st)) : E p l e R s m args below meth c Γ D cells slots Q σ pc lv (.int y :: .int x :: st) :=
  fun H locs ls hP hS h => lv_imul X.1 X.2.1 hd (k H locs ls hP hS h)
theorem e_iand (X : Cx p l s m args meth c Γ D s0 own cc nL) {x y : Int32} (hd : decode cc pc = .ok (.iand, 1)) (k : E p l e R s m args below meth c Γ D cells slots Q σ (pc + 1) lv (.int (x &&& y) :: st)) : E p l e R s m args below meth c Γ D cells slots Q σ pc lv (.int y :: .int x :: st) :=
  fun H locs ls hP hS h => lv_iand X.1 X.2.1 hd (k H locs ls hP hS h)
theorem e_ior (X : Cx p l s m args meth c Γ D s0 own cc nL) {x y : Int32} (hd : decode cc pc = .ok (.ior, 1)) (k : E p l e R s m args below meth c Γ D cells slots Q σ (pc + 1) lv (.int (x ||| y) :: st)) : E p l e R s m args below meth c Γ D cells slots Q σ pc lv (.int y :: .int x :: st) :=
  fun H locs ls hP hS h => lv_ior X.1 X.2.1 hd (k H locs ls hP hS h)
theorem e_ixor (X : Cx p l s m args meth c Γ D s0 own cc nL) {x y : Int32} (hd : decode cc pc = .ok (.ixor, 1)) (k : E p l e R s m args below meth c Γ D cells slots Q σ (pc + 1) lv (.int (x ^^^ y) :: st)) : E p l e R s m args below meth c Γ D cells slots Q σ pc lv (.int y :: .int x :: st) :=
  fun H locs ls hP hS h => lv_ixor X.1 X.2.1 hd (k H locs ls hP hS h)
theorem e_ishl (X : Cx p l s m args meth c Γ D s0 own cc nL) {x y : Int32} (hd : decode cc pc = .ok (.ishl, 1)) (k : E p l e R s m args below meth c Γ D cells slots Q σ (pc + 1) lv (.int (x <<< (y &&& 31)) :: st)) : E p l e R s m args below meth c Γ D cells slots Q σ pc lv (.int y :: .int x :: st) :=
  fun H locs ls hP hS h => lv_ishl X.1 X.2.1 hd (k H locs ls hP hS h)
theorem e_ishr (X : Cx p l s m args meth c Γ D s0 own cc nL) {x y : Int32} (hd : decode cc pc = .ok (.ishr, 1)) (k : E p l e R s m args below meth c Γ D cells slots Q σ (pc + 1) lv (.int (x >>> (y &&& 31)) :: st)) : E p l e R s m args below meth c Γ D cells slots Q σ pc lv (.int y :: .int x :: st) :=
  fun H locs ls hP hS h => lv_ishr X.1 X.2.1 hd (k H locs ls hP hS h)
theorem e_idiv (X : Cx p l s m args meth c Γ D s0 own cc nL) {x y : Int32} (hd : decode cc pc = .ok (.idiv, 1)) (hne : ¬ y = 0) (k : E p l e R s m args below meth c Γ D cells slots Q σ (pc + 1) lv (.int (x / y) :: st)) : E p l e R s m args below meth c Γ D cells slots Q σ pc lv (.int y :: .int x :: st) :=
  fun H locs ls hP hS h => lv_idiv X.1 X.2.1 hd hne (k H locs ls hP hS h)
theorem e_irem (X : Cx p l s m args meth c Γ D s0 own cc nL) {x y : Int32} (hd : decode cc pc = .ok (.irem, 1)) (hne : ¬ y = 0) (k : E p l e R s m args below meth c Γ D cells slots Q σ (pc + 1) lv (.int (x - x / y * y) :: st)) : E p l e R s m args below meth c Γ D cells slots Q σ pc lv (.int y :: .int x :: st) :=
  fun H locs ls hP hS h => lv_irem X.1 X.2.1 hd hne (k H locs ls hP hS h)
theorem e_ineg (X : Cx p l s m args meth c Γ D s0 own cc nL) {x : Int32} (hd : decode cc pc = .ok (.ineg, 1)) (k : E p l e R s m args below meth c Γ D cells slots Q σ (pc + 1) lv (.int (-x) :: st)) : E p l e R s m args below meth c Γ D cells slots Q σ pc lv (.int x :: st) :=
  fun H locs ls hP hS h => lv_ineg X.1 X.2.1 hd (k H locs ls hP hS h)
theorem e_iushr (X : Cx p l s m args meth c Γ D s0 own cc nL) {x y : Int32} (hd : decode cc pc = .ok (.iushr, 1)) (k : E p l e R s m args below meth c Γ D cells slots Q σ (pc + 1) lv (.int ((x.toUInt32 >>> (y.toUInt32 &&& Int32.toUInt32 31)).toInt32) :: st)) : E p l e R s m args below meth c Γ D cells slots Q σ pc lv (.int y :: .int x :: st) :=
  fun H locs ls hP hS h => lv_iushr X.1 X.2.1 hd rfl (k H locs ls hP hS h)
theorem e_dup (X : Cx p l s m args meth c Γ D s0 own cc nL) {v : Value} (hd : decode cc pc = .ok (.dup, 1)) (hv : v.category = 1) (k : E p l e R s m args below meth c Γ D cells slots Q σ (pc + 1) lv (v :: v :: st)) : E p l e R s m args below meth c Γ D cells slots Q σ pc lv (v :: st) :=
  fun H locs ls hP hS h => lv_dup X.1 X.2.1 hd hv (k H locs ls hP hS h)
theorem e_pop (X : Cx p l s m args meth c Γ D s0 own cc nL) {v : Value} (hd : decode cc pc = .ok (.pop, 1)) (hv : v.category = 1) (k : E p l e R s m args below meth c Γ D cells slots Q σ (pc + 1) lv st) : E p l e R s m args below meth c Γ D cells slots Q σ pc lv (v :: st) :=
  fun H locs ls hP hS h => lv_pop X.1 X.2.1 hd hv (k H locs ls hP hS h)
theorem e_dup2 (X : Cx p l s m args meth c Γ D s0 own cc nL) {v w : Value} (hd : decode cc pc = .ok (.dup2, 1)) (hv : v.category = 1) (hw : w.category = 1) (k : E p l e R s m args below meth c Γ D cells slots Q σ (pc + 1) lv (v :: w :: v :: w :: st)) : E p l e R s m args below meth c Γ D cells slots Q σ pc lv (v :: w :: st) :=
  fun H locs ls hP hS h => lv_dup2_11 X.1 X.2.1 hd hv hw (k H locs ls hP hS h)
theorem e_i2l (X : Cx p l s m args meth c Γ D s0 own cc nL) {x : Int32} (hd : decode cc pc = .ok (.i2l, 1)) (k : E p l e R s m args below meth c Γ D cells slots Q σ (pc + 1) lv (.long x.toInt64 :: st)) : E p l e R s m args below meth c Γ D cells slots Q σ pc lv (.int x :: st) :=
  fun H locs ls hP hS h => lv_i2l X.1 X.2.1 hd rfl (k H locs ls hP hS h)
theorem e_lconst (X : Cx p l s m args meth c Γ D s0 own cc nL) {n : Fin 2} (v : Int64) (hd : decode cc pc = .ok (.lconst n, 1)) (hv : Int64.ofNat (n : Nat) = v) (k : E p l e R s m args below meth c Γ D cells slots Q σ (pc + 1) lv (.long v :: st)) : E p l e R s m args below meth c Γ D cells slots Q σ pc lv st :=
  fun H locs ls hP hS h => lv_lconst X.1 X.2.1 hd hv (k H locs ls hP hS h)
theorem e_goto (X : Cx p l s m args meth c Γ D s0 own cc nL) {off : Int} (tgt : Nat) (hd : decode cc pc = .ok (.goto off, 3)) (ht : (pc : Int) + off = (tgt : Int)) (k : E p l e R s m args below meth c Γ D cells slots Q σ tgt lv st) : E p l e R s m args below meth c Γ D cells slots Q σ pc lv st :=
  fun H locs ls hP hS h => lv_goto X.1 X.2.1 hd ht (k H locs ls hP hS h)
theorem e_null (X : Cx p l s m args meth c Γ D s0 own cc nL) (hd : decode cc pc = .ok (.aconst_null, 1)) (k : E p l e R s m args below meth c Γ D cells slots Q σ (pc + 1) lv (.null :: st)) : E p l e R s m args below meth c Γ D cells slots Q σ pc lv st :=
  fun H locs ls hP hS h => lv_null X.1 X.2.1 hd (k H locs ls hP hS h)
theorem e_ifnull (X : Cx p l s m args meth c Γ D s0 own cc nL) {x : Nat} {off : Int} (hd : decode cc pc = .ok (.ifnull off, 3)) (k : E p l e R s m args below meth c Γ D cells slots Q σ (pc + 3) lv st) : E p l e R s m args below meth c Γ D cells slots Q σ pc lv (.ref x :: st) :=
  fun H locs ls hP hS h => lv_ifnull X.1 X.2.1 hd (k H locs ls hP hS h)
theorem e_ifnullN (X : Cx p l s m args meth c Γ D s0 own cc nL) {off : Int} (tgt : Nat) (hd : decode cc pc = .ok (.ifnull off, 3)) (ht : (pc : Int) + off = (tgt : Int)) (k : E p l e R s m args below meth c Γ D cells slots Q σ tgt lv st) : E p l e R s m args below meth c Γ D cells slots Q σ pc lv (.null :: st) :=
  fun H locs ls hP hS h => lv_ifnullN X.1 X.2.1 hd ht (k H locs ls hP hS h)
theorem e_icmp_eq (X : Cx p l s m args meth c Γ D s0 own cc nL) {x y : Int32} {off : Int} (tgt : Nat) (hd : decode cc pc = .ok (.if_icmp .eq off, 3)) (ht : (pc : Int) + off = (tgt : Int)) (kt : x = y → E p l e R s m args below meth c Γ D cells slots Q σ tgt lv st) (kf : ¬ x = y → E p l e R s m args below meth c Γ D cells slots Q σ (pc + 3) lv st) : E p l e R s m args below meth c Γ D cells slots Q σ pc lv (.int y :: .int x :: st) :=
  fun H locs ls hP hS h => lv_icmp_eq X.1 X.2.1 hd ht (fun z => kt (z) H locs ls hP hS h) (fun z => kf (z) H locs ls hP hS h)
theorem e_icmp_ne (X : Cx p l s m args meth c Γ D s0 own cc nL) {x y : Int32} {off : Int} (tgt : Nat) (hd : decode cc pc = .ok (.if_icmp .ne off, 3)) (ht : (pc : Int) + off = (tgt : Int)) (kt : ¬ x = y → E p l e R s m args below meth c Γ D cells slots Q σ tgt lv st) (kf : x = y → E p l e R s m args below meth c Γ D cells slots Q σ (pc + 3) lv st) : E p l e R s m args below meth c Γ D cells slots Q σ pc lv (.int y :: .int x :: st) :=
  fun H locs ls hP hS h => lv_icmp_ne X.1 X.2.1 hd ht (fun z => kt (z) H locs ls hP hS h) (fun z => kf (z) H locs ls hP hS h)
theorem e_icmp_lt (X : Cx p l s m args meth c Γ D s0 own cc nL) {x y : Int32} {off : Int} (tgt : Nat) (hd : decode cc pc = .ok (.if_icmp .lt off, 3)) (ht : (pc : Int) + off = (tgt : Int)) (kt : x < y → E p l e R s m args below meth c Γ D cells slots Q σ tgt lv st) (kf : ¬ x < y → E p l e R s m args below meth c Γ D cells slots Q σ (pc + 3) lv st) : E p l e R s m args below meth c Γ D cells slots Q σ pc lv (.int y :: .int x :: st) :=
  fun H locs ls hP hS h => lv_icmp_lt X.1 X.2.1 hd ht (fun z => kt (z) H locs ls hP hS h) (fun z => kf (z) H locs ls hP hS h)
theorem e_icmp_ge (X : Cx p l s m args meth c Γ D s0 own cc nL) {x y : Int32} {off : Int} (tgt : Nat) (hd : decode cc pc = .ok (.if_icmp .ge off, 3)) (ht : (pc : Int) + off = (tgt : Int)) (kt : ¬ x < y → E p l e R s m args below meth c Γ D cells slots Q σ tgt lv st) (kf : x < y → E p l e R s m args below meth c Γ D cells slots Q σ (pc + 3) lv st) : E p l e R s m args below meth c Γ D cells slots Q σ pc lv (.int y :: .int x :: st) :=
  fun H locs ls hP hS h => lv_icmp_ge X.1 X.2.1 hd ht (fun z => kt (Int32.not_lt.mpr z) H locs ls hP hS h) (fun z => kf (Int32.not_le.mp z) H locs ls hP hS h)
theorem e_icmp_gt (X : Cx p l s m args meth c Γ D s0 own cc nL) {x y : Int32} {off : Int} (tgt : Nat) (hd : decode cc pc = .ok (.if_icmp .gt off, 3)) (ht : (pc : Int) + off = (tgt : Int)) (kt : y < x → E p l e R s m args below meth c Γ D cells slots Q σ tgt lv st) (kf : ¬ y < x → E p l e R s m args below meth c Γ D cells slots Q σ (pc + 3) lv st) : E p l e R s m args below meth c Γ D cells slots Q σ pc lv (.int y :: .int x :: st) :=
  fun H locs ls hP hS h => lv_icmp_gt X.1 X.2.1 hd ht (fun z => kt (z) H locs ls hP hS h) (fun z => kf (z) H locs ls hP hS h)
theorem e_icmp_le (X : Cx p l s m args meth c Γ D s0 own cc nL) {x y : Int32} {off : Int} (tgt : Nat) (hd : decode cc pc = .ok (.if_icmp .le off, 3)) (ht : (pc : Int) + off = (tgt : Int)) (kt : ¬ y < x → E p l e R s m args below meth c Γ D cells slots Q σ tgt lv st) (kf : y < x → E p l e R s m args below meth c Γ D cells slots Q σ (pc + 3) lv st) : E p l e R s m args below meth c Γ D cells slots Q σ pc lv (.int y :: .int x :: st) :=
  fun H locs ls hP hS h => lv_icmp_le X.1 X.2.1 hd ht (fun z => kt (Int32.not_lt.mpr z) H locs ls hP hS h) (fun z => kf (Int32.not_le.mp z) H locs ls hP hS h)
theorem e_if_eq (X : Cx p l s m args meth c Γ D s0 own cc nL) {x : Int32} {off : Int} (tgt : Nat) (hd : decode cc pc = .ok (.ifCond .eq off, 3)) (ht : (pc : Int) + off = (tgt : Int)) (kt : x = 0 → E p l e R s m args below meth c Γ D cells slots Q σ tgt lv st) (kf : ¬ x = 0 → E p l e R s m args below meth c Γ D cells slots Q σ (pc + 3) lv st) : E p l e R s m args below meth c Γ D cells slots Q σ pc lv (.int x :: st) :=
  fun H locs ls hP hS h => lv_if_eq X.1 X.2.1 hd ht (fun z => kt (z) H locs ls hP hS h) (fun z => kf (z) H locs ls hP hS h)
theorem e_if_ne (X : Cx p l s m args meth c Γ D s0 own cc nL) {x : Int32} {off : Int} (tgt : Nat) (hd : decode cc pc = .ok (.ifCond .ne off, 3)) (ht : (pc : Int) + off = (tgt : Int)) (kt : ¬ x = 0 → E p l e R s m args below meth c Γ D cells slots Q σ tgt lv st) (kf : x = 0 → E p l e R s m args below meth c Γ D cells slots Q σ (pc + 3) lv st) : E p l e R s m args below meth c Γ D cells slots Q σ pc lv (.int x :: st) :=
  fun H locs ls hP hS h => lv_if_ne X.1 X.2.1 hd ht (fun z => kt (z) H locs ls hP hS h) (fun z => kf (z) H locs ls hP hS h)
theorem e_if_lt (X : Cx p l s m args meth c Γ D s0 own cc nL) {x : Int32} {off : Int} (tgt : Nat) (hd : decode cc pc = .ok (.ifCond .lt off, 3)) (ht : (pc : Int) + off = (tgt : Int)) (kt : x < 0 → E p l e R s m args below meth c Γ D cells slots Q σ tgt lv st) (kf : ¬ x < 0 → E p l e R s m args below meth c Γ D cells slots Q σ (pc + 3) lv st) : E p l e R s m args below meth c Γ D cells slots Q σ pc lv (.int x :: st) :=
  fun H locs ls hP hS h => lv_if_lt X.1 X.2.1 hd ht (fun z => kt (z) H locs ls hP hS h) (fun z => kf (z) H locs ls hP hS h)
theorem e_if_ge (X : Cx p l s m args meth c Γ D s0 own cc nL) {x : Int32} {off : Int} (tgt : Nat) (hd : decode cc pc = .ok (.ifCond .ge off, 3)) (ht : (pc : Int) + off = (tgt : Int)) (kt : ¬ x < 0 → E p l e R s m args below meth c Γ D cells slots Q σ tgt lv st) (kf : x < 0 → E p l e R s m args below meth c Γ D cells slots Q σ (pc + 3) lv st) : E p l e R s m args below meth c Γ D cells slots Q σ pc lv (.int x :: st) :=
  fun H locs ls hP hS h => lv_if_ge X.1 X.2.1 hd ht (fun z => kt (Int32.not_lt.mpr z) H locs ls hP hS h) (fun z => kf (Int32.not_le.mp z) H locs ls hP hS h)
theorem e_if_gt (X : Cx p l s m args meth c Γ D s0 own cc nL) {x : Int32} {off : Int} (tgt : Nat) (hd : decode cc pc = .ok (.ifCond .gt off, 3)) (ht : (pc : Int) + off = (tgt : Int)) (kt : 0 < x → E p l e R s m args below meth c Γ D cells slots Q σ tgt lv st) (kf : ¬ 0 < x → E p l e R s m args below meth c Γ D cells slots Q σ (pc + 3) lv st) : E p l e R s m args below meth c Γ D cells slots Q σ pc lv (.int x :: st) :=
  fun H locs ls hP hS h => lv_if_gt X.1 X.2.1 hd ht (fun z => kt (z) H locs ls hP hS h) (fun z => kf (z) H locs ls hP hS h)
theorem e_if_le (X : Cx p l s m args meth c Γ D s0 own cc nL) {x : Int32} {off : Int} (tgt : Nat) (hd : decode cc pc = .ok (.ifCond .le off, 3)) (ht : (pc : Int) + off = (tgt : Int)) (kt : ¬ 0 < x → E p l e R s m args below meth c Γ D cells slots Q σ tgt lv st) (kf : 0 < x → E p l e R s m args below meth c Γ D cells slots Q σ (pc + 3) lv st) : E p l e R s m args below meth c Γ D cells slots Q σ pc lv (.int x :: st) :=
  fun H locs ls hP hS h => lv_if_le X.1 X.2.1 hd ht (fun z => kt (Int32.not_lt.mpr z) H locs ls hP hS h) (fun z => kf (Int32.not_le.mp z) H locs ls hP hS h)
theorem e_acmp_eq (X : Cx p l s m args meth c Γ D s0 own cc nL) {rx ry : Option Nat} {off : Int} (tgt : Nat) (hd : decode cc pc = .ok (.if_acmp .eq off, 3)) (ht : (pc : Int) + off = (tgt : Int)) (kt : rx = ry → E p l e R s m args below meth c Γ D cells slots Q σ tgt lv st) (kf : ¬ rx = ry → E p l e R s m args below meth c Γ D cells slots Q σ (pc + 3) lv st) : E p l e R s m args below meth c Γ D cells slots Q σ pc lv (va_rf ry :: va_rf rx :: st) :=
  fun H locs ls hP hS h => lv_acmp_eq X.1 X.2.1 hd ht (fun z => kt z H locs ls hP hS h) (fun z => kf z H locs ls hP hS h)
theorem e_acmp_ne (X : Cx p l s m args meth c Γ D s0 own cc nL) {rx ry : Option Nat} {off : Int} (tgt : Nat) (hd : decode cc pc = .ok (.if_acmp .ne off, 3)) (ht : (pc : Int) + off = (tgt : Int)) (kt : ¬ rx = ry → E p l e R s m args below meth c Γ D cells slots Q σ tgt lv st) (kf : rx = ry → E p l e R s m args below meth c Γ D cells slots Q σ (pc + 3) lv st) : E p l e R s m args below meth c Γ D cells slots Q σ pc lv (va_rf ry :: va_rf rx :: st) :=
  fun H locs ls hP hS h => lv_acmp_ne X.1 X.2.1 hd ht (fun z => kt z H locs ls hP hS h) (fun z => kf z H locs ls hP hS h)
/-- fewer locals -/
theorem e_sub (lv' : List (Option Value)) (h2 : ∀ (i : Nat) (v : Value), lv'[i]? = some (some v) → lv[i]? = some (some v)) (k : E p l e R s m args below meth c Γ D cells slots Q σ pc lv' st) : E p l e R s m args below meth c Γ D cells slots Q σ pc lv st :=
  fun H locs ls hP hS h => k H locs ls hP hS (lvs_sub h h2)
theorem e_le {lv' : List (Option Value)} (k : E p l e R s m args below meth c Γ D cells slots Q σ pc lv' st) (h2 : lvle lv' lv) : E p l e R s m args below meth c Γ D cells slots Q σ pc lv st := e_sub lv' (lvle_at lv' lv h2) k
theorem e_getf (X : Cx p l s m args meth c Γ D s0 own cc nL) {q : Nat} {C ref : String} {T : u_T} {N ci k idx : Nat} {v : Value} {fs : List Value} (hq : q < 347) (hent : ent Γ q (σ q) = .inr (ci, fs)) (hc : vCl[ci]? = some (C, T, N)) (hin : ∀ w ∈ u_ws C T N, w ∈ lwG) (hk : k < N) (hl : Cond.fieldLink own idx ref (T k).2.1 (T k).2.2.1 ∈ lwG)
    (hsame : (T k).1 = ref ∨ Cond.sameField ref (T k).1 (T k).2.1 (T k).2.2.1 ∈ lwG) (hv : fs[k]? = some v) (hd : decode cc pc = .ok (.getfield idx, 3)) (kk : E p l e R s m args below meth c Γ D cells slots Q σ (pc + 3) lv (v :: st)) : E p l e R s m args below meth c Γ D cells slots Q σ pc lv (.ref (Γ.1 + q) :: st) :=
  fun H locs ls hP hS h => va_get X.1 X.2.1 X.2.2.2.2.1 hin X.2.2.2.1 X.2.2.2.2.2.1 hP q (by rw [Wd_get hq, hent]) hc k hk (X.2.2.2.2.1 _ hl)
    (fun x hx => by rcases hsame with h9 | h9
                    · rw [← h9]; exact hx
                    · exact u_same (X.2.2.2.2.1 _ h9) x hx) hv hd (kk H locs ls hP hS h)
theorem e_putf (X : Cx p l s m args meth c Γ D s0 own cc nL) {q : Nat} {C ref : String} {T : u_T} {N ci k idx : Nat} {ty : Nat → FieldType} {v : Value} {x : Int32} {fs : List Value} (hq : q < 347) (hent : ent Γ q (σ q) = .inr (ci, fs)) (hent2 : ent Γ q (fun b => if b = k then x else σ q b) = .inr (ci, fs.set k v)) (hc : vCl[ci]? = some (C, T, N)) (hin : ∀ w ∈ u_ws C T N, w ∈ lwG)
    (hty : ∀ k, k < N → parseFieldDescriptor (T k).2.2.1 = some (ty k)) (hnm : ∀ a, a < N → ∀ b, b < N → a ≠ b → (T a).2.1 ≠ (T b).2.1) (hk : k < N) (hl : Cond.fieldLink own idx ref (T k).2.1 (T k).2.2.1 ∈ lwG)
    (hsame : (T k).1 = ref ∨ Cond.sameField ref (T k).1 (T k).2.1 (T k).2.2.1 ∈ lwG) (hfin : (T k).2.2.2 = false) (hn : narrow (ty k) v = v) (hfit : fits (ty k) v = true) (hlen : k < fs.length) (hd : decode cc pc = .ok (.putfield idx, 3)) (kk : E p l e R s m args below meth c Γ D cells slots Q (up σ q k x) (pc + 3) lv st) : E p l e R s m args below meth c Γ D cells slots Q σ pc lv (v :: .ref (Γ.1 + q) :: st) :=
  fun H locs ls hP hS h => va_put X.1 X.2.1 X.2.2.2.2.1 hin ty hty hnm X.2.2.2.1 X.2.2.2.2.2.1 hP (Wd_D Γ σ) hS q (by rw [Wd_get hq, hent]) hc k hk (X.2.2.2.2.1 _ hl)
    (fun x hx => by rcases hsame with h9 | h9
                    · rw [← h9]; exact hx
                    · exact u_same (X.2.2.2.2.1 _ h9) x hx) hfin (hty k hk) hn hfit hlen hd (fun H1 locs1 hP1 _ hS1 => kk H1 locs1 ls (by rw [← Wd_set hq hent2]; exact hP1) hS1 h)
theorem e_iald (X : Cx p l s m args meth c Γ D s0 own cc nL) {q n j : Nat} {i i' : Int32} (hi : i' = i) (hq : entTbl[q]? = some (3, n)) (hin : vp_in i' n) (hj : i'.toNatClampNeg = j) (hd : decode cc pc = .ok (.iaload, 1)) (kk : E p l e R s m args below meth c Γ D cells slots Q σ (pc + 1) lv (.int (σ q j) :: st)) : E p l e R s m args below meth c Γ D cells slots Q σ pc lv (.int i :: .ref (Γ.1 + q) :: st) := by
  subst hi; subst hj
  exact fun H locs ls hP hS h => va_iald X.1 X.2.1 X.2.2.2.2.2.1 hP q 0 (by rw [Wd_get (ent_lt hq), ent_at hq]; rfl) rfl hin hd (kk H locs ls hP hS h)
theorem e_iast (X : Cx p l s m args meth c Γ D s0 own cc nL) {q n j : Nat} {i i' x : Int32} {σ1 : Mem} (hi : i' = i) (hq : entTbl[q]? = some (3, n)) (hin : vp_in i' n) (hj : i'.toNatClampNeg = j) (hd : decode cc pc = .ok (.iastore, 1)) (hσ : σ1 = up σ q j x) (kk : E p l e R s m args below meth c Γ D cells slots Q σ1 (pc + 1) lv st) : E p l e R s m args below meth c Γ D cells slots Q σ pc lv (.int x :: .int i :: .ref (Γ.1 + q) :: st) := by
  subst hi; subst hj; subst hσ
  exact fun H locs ls hP hS h => va_iast X.1 X.2.1 X.2.2.2.2.2.1 hP (Wd_D Γ σ) hS q 0 (by rw [Wd_get (ent_lt hq), ent_at hq]; rfl) rfl hin hd (fun H1 locs1 hP1 _ hS1 => kk H1 locs1 ls (by rw [← Wd_set (ent_lt hq) (ent_at hq _)]; exact hP1) hS1 h)
theorem e_alen (X : Cx p l s m args meth c Γ D s0 own cc nL) {q n : Nat} (v : Int32) (hq : entTbl[q]? = some (3, n)) (hv : Int32.ofNat n = v) (hd : decode cc pc = .ok (.arraylength, 1)) (kk : E p l e R s m args below meth c Γ D cells slots Q σ (pc + 1) lv (.int v :: st)) : E p l e R s m args below meth c Γ D cells slots Q σ pc lv (.ref (Γ.1 + q) :: st) :=
  fun H locs ls hP hS h => va_alen X.1 X.2.1 X.2.2.2.2.2.1 hP q 0 (by rw [Wd_get (ent_lt hq), ent_at hq]; rfl) rfl hv hd (kk H locs ls hP hS h)
/-- a method's start -/
theorem e_met {y : MethodName} {ret : Option FieldType} {fr mc ms lo : Nat} {av : List Value} {Pst : Option Value → Mem → Prop} (hG : Gok l Γ D s0) (hy : plainName y.cls = true) (ho : y.cls = own) (hcat9 : av.all (fun v => v.category == 1) = true) (hlen : av.length ≤ nL)
    (body : ∀ p e s m args below meth c, Cx p l s m args meth c Γ D s0 own cc nL → meth.sig.returnType = ret → E p l e { frames := fr, cells := mc, slots := ms, locals := lo } s m args below meth c Γ D 0 0 (MQ below (QcA Γ D Pst) args s mc ms (frB Γ)) σ 0 (av.map some ++ List.replicate (nL - av.length) none) []) : CT l Γ D s0 y cc nL ret fr mc ms lo σ av Pst := by
  have hcat : ∀ v ∈ av, v.category = 1 := fun v hv => by have := List.all_eq_true.mp hcat9 v hv; simpa using this
  refine Met.ofW (cc := cc) (maxL := nL) (ret := ret) hy rfl ?_
  intro p e s m args below meth c s₁ B hml hv
  obtain ⟨rfl, hvm, hbe, hP⟩ := hv
  have hts := atoms_spec (ws := wA y cc nL ret) B.pre
  have X : Cx p l s m av.toArray meth c Γ D s0 own cc nL := ⟨B.exec, B.bytes, hml, by rw [← ho]; exact findClass_of_methodNamed B.named, fun w hw => hts w (List.mem_cons_of_mem _ hw), va_K.moved hvm.alike hG.1, hvm, hbe, B.notSynchronized, hG⟩
  have hsl : lg_sl av = av.map Slot.val := by
    have h9 : ∀ l9 : List Value, (∀ v ∈ l9, v.category = 1) → lg_sl l9 = l9.map Slot.val := by
      intro l9
      induction l9 with
      | nil => intro _; rfl
      | cons a t ih =>
        intro h
        have h1 := h a List.mem_cons_self
        have h2 := ih (fun v hv => h v (List.mem_cons_of_mem _ hv))
        unfold lg_sl at h2 ⊢
        rw [List.flatMap_cons, h2, if_neg (by omega)]
        rfl
    exact h9 av hcat
  have hl := lv_entry av (n := nL) (by rw [hsl, List.length_map]; exact hlen)
  rw [lg_entry_eq]
  generalize hls : (lg_sl av ++ List.replicate (nL - (lg_sl av).length) Slot.unset).toArray = ls at hl ⊢
  refine body p e s m _ below meth c X B.returns s.heap [] ls hP va_S.rf ?_
  refine ⟨⟨by rw [hml]; exact hl.1, hl.2.1, fun q hq => ?_⟩, fun i v hi => ?_⟩
  · obtain ⟨i, v⟩ := q
    have h1 := lvl_in.mp hq
    by_cases h2 : i < av.length
    · rw [List.getElem?_append_left (by rw [List.length_map]; exact h2), List.getElem?_map] at h1
      have h3 : av[i]? = some v := by
        cases h4 : av[i]? with
        | none => rw [h4] at h1; cases h1
        | some w => rw [h4] at h1; cases h1; rfl
      rw [← hls, hsl]
      show (List.map Slot.val av ++ List.replicate (nL - (List.map Slot.val av).length) Slot.unset).toArray[i]? = _
      rw [List.getElem?_toArray, List.getElem?_append_left (by rw [List.length_map]; exact h2), List.getElem?_map, h3]
      rfl
    · rw [List.getElem?_append_right (by rw [List.length_map]; omega)] at h1
      have := List.mem_of_getElem? h1
      simp at this
  · by_cases h2 : i < av.length
    · rw [List.getElem?_append_left (by rw [List.length_map]; exact h2), List.getElem?_map] at hi
      cases h4 : av[i]? with
      | none => rw [h4] at hi; cases hi
      | some w => rw [h4] at hi; cases hi; exact hcat _ (List.mem_of_getElem? h4)
    · rw [List.getElem?_append_right (by rw [List.length_map]; omega)] at hi
      have := List.mem_of_getElem? hi
      simp at this
theorem e_iret (X : Cx p l s m args meth c Γ D s0 own cc nL) {mc ms : Nat} {Pst : Option Value → Mem → Prop} {v : Int32} (hr : meth.sig.returnType = some .int) (hd : decode cc pc = .ok (.ireturn, 1)) (hc : cells ≤ mc) (hs : slots ≤ ms) (hp : Pst (some (.int v)) σ) : E p l e R s m args below meth c Γ D cells slots (MQ below (QcA Γ D Pst) args s mc ms (frB Γ)) σ pc lv [.int v] :=
  fun H locs ls hP hS h => W.widen hc hs (W.iret X.1 X.2.1 hr (fun t ht hW => ⟨_, σ, rfl, by rw [ht]; exact hP, hp, hS.F ht⟩) hS.2.2 hd X.2.2.2.2.2.2.2.2.1)
theorem e_vret (X : Cx p l s m args meth c Γ D s0 own cc nL) {mc ms : Nat} {Pst : Option Value → Mem → Prop} (hr : meth.sig.returnType = none) (hd : decode cc pc = .ok (.return_, 1)) (hc : cells ≤ mc) (hs : slots ≤ ms) (hp : Pst none σ) : E p l e R s m args below meth c Γ D cells slots (MQ below (QcA Γ D Pst) args s mc ms (frB Γ)) σ pc lv [] :=
  fun H locs ls hP hS h => W.widen hc hs (W.vret X.1 X.2.1 hr (fun t ht hW => ⟨_, σ, rfl, by rw [ht]; exact hP, hp, hS.F ht⟩) hS.2.2 hd X.2.2.2.2.2.2.2.2.1)
/-- an answer narrowed to a boolean -/
theorem W_nret {Qc : Array Value → State → Outcome → State → Prop} {free : Addr → Prop} {H : Heap} {locs : List Loc} {v w : Int32} {ty : FieldType} (hexec : p.tables.exec = Jvm.exec) (hb : c.code = cc) (hr : meth.sig.returnType = some ty) (hn : narrow ty (.int v) = .int w)
    (hq : ∀ t : State, t.heap = H → s.WarmedH t.vm → Qc args s (.returned (some (.int w))) t) (hf : ∀ q ∈ locs, free q.base)
    {pc : Nat} {ls : Array Slot} (hdg : decode cc pc = .ok (.ireturn, 1)) (hlocks : meth.locks = false) : W p l e R s m args below meth c H locs cells slots (MQ below Qc args s cells slots free) (F0 m pc ls [.int v]) := by
  intro T hT X
  have hlocks : meth.locks = false := hlocks
  obtain ⟨fs, hret, hrun, hended, hW, hframe⟩ := X.leave (v := some (.int w)) (fun h => by rw [hr] at h; cases h)
  have hmeth' : T.vm.method? m = some meth := X.method'
  refine ⟨T.setFrames fs, ?_, .returned (some (.int w)), hrun, hended, hq _ hT hW, locs, ⟨⟨_, rfl⟩, hW, hframe⟩, hf⟩
  jvm_step X.here [X.here.top, hexec, hb, hdg, hmeth', hr, hn]
  (try refine ⟨rfl, ?_⟩); (try refine ⟨rfl, ?_⟩)
  first | (intro acts; rw [hret _ acts rfl rfl rfl]) | rw [hret _ _ rfl rfl rfl]
  exact Steps.refl _
theorem e_zret (X : Cx p l s m args meth c Γ D s0 own cc nL) {mc ms : Nat} {Pst : Option Value → Mem → Prop} {v w : Int32} (hr : meth.sig.returnType = some .boolean) (hn : narrow .boolean (.int v) = .int w) (hd : decode cc pc = .ok (.ireturn, 1)) (hc : cells ≤ mc) (hs : slots ≤ ms) (hp : Pst (some (.int w)) σ) : E p l e R s m args below meth c Γ D cells slots (MQ below (QcA Γ D Pst) args s mc ms (frB Γ)) σ pc lv [.int v] :=
  fun H locs ls hP hS h => W.widen hc hs (W_nret X.1 X.2.1 hr hn (fun t ht hW => ⟨_, σ, rfl, by rw [ht]; exact hP, hp, hS.F ht⟩) hS.2.2 hd X.2.2.2.2.2.2.2.2.1)
/-- behind a call that returned -/
theorem e_after {mc ms : Nat} {g : JFrame} {rest : List Value} {Pst : Option Value → Mem → Prop} {a : Array Value} {H : Heap} {locs : List Loc} {ls : Array Slot} {st0 : List Value} (hr : va_Run p l e R s m args below meth c H locs cells slots mc ms (F0 m pc ls st0) rest (QcA Γ D Pst a) (frB Γ)) (hS : va_S (fun q => Γ.1 ≤ q) s.heap H locs) (h : lvs ls c.maxLocals lv)
    (kk : ∀ (v : Option Value) (σ' : Mem), Pst v σ' → E p l e R s m args below meth c Γ D (cells + mc) (slots + ms) Q σ' (pc + 3) lv (v.toList ++ rest)) : W p l e R s m args below meth c H locs cells slots Q (F0 m pc ls st0) := by
  intro T hT X
  obtain ⟨v, st₀, t, T', L, h0, X', hL, e1, e2, ⟨v', σ', hv, hP', hp, hz, hk⟩, stp⟩ := hr T hT X
  cases hv
  rw [h0] at hz hk
  obtain ⟨t2, a1, b1⟩ := kk v σ' hp T'.heap (locs ++ L) ls (by rw [e1]; exact hP') ⟨Nat.le_trans hS.1 (by rw [e1]; exact hz), fun q h1 h2 => by rw [e1, hk q (Nat.lt_of_lt_of_le h1 hS.1) h2]; exact hS.2.1 q h1 h2, fun q hq => by
      rcases List.mem_append.mp hq with h9 | h9
      · exact hS.2.2 q h9
      · exact hL q h9⟩ h T' rfl X'
  exact ⟨t2, stp t2 a1, b1⟩
theorem PcA_blind (σ : Mem) (av : List Value) : FrameBlind (PcA Γ D s0 σ av) := by
  intro a U g mk h
  obtain ⟨h1, h2, h3, h4⟩ := h
  exact ⟨h1, h2, h3, h4⟩
theorem PcA_here (X : Cx p l s m args meth c Γ D s0 own cc nL) {H : Heap} {locs : List Loc} {av : List Value} (hP : va_P D vCl (Wd Γ σ) H) (hS : va_S (fun q => Γ.1 ≤ q) s.heap H locs) (U : State) (hU : U.heap = H) (hW : s.WarmedH U.vm) : PcA Γ D s0 σ av av.toArray U := by
  refine ⟨rfl, State.WarmedH.trans X.2.2.2.2.2.2.1 hW, ⟨by rw [hU]; exact Nat.le_trans X.2.2.2.2.2.2.2.1.1 hS.1, fun q hq => ?_⟩, by rw [hU]; exact hP⟩
  rw [hU, hS.2.1 q (Nat.lt_of_lt_of_le hq X.2.2.2.2.2.2.2.1.1) (by omega)]
  exact X.2.2.2.2.2.2.2.1.2 q hq
theorem e_recv (X : Cx p l s m args meth c Γ D s0 own cc nL) {H : Heap} (hP : va_P D vCl (Wd Γ σ) H) {q ci : Nat} {fs : List Value} {C : String} {T : u_T} {N : Nat} (hq : q < 347) (hent : ent Γ q (σ q) = .inr (ci, fs)) (hc : vCl[ci]? = some (C, T, N)) : ∃ cellB : Cell, H[Γ.1 + q]? = some cellB ∧ cellB.vm.isStatics = false ∧ s.vm.findClass C = some cellB.cls :=
  va_recv X.2.2.2.2.2.1 hP (ci := ci) (q0 := q) hc (by rw [Wd_get hq, hent])
theorem e_callV (X : Cx p l s m args meth c Γ D s0 own cc nL) {y : MethodName} {yc : ByteArray} {yL idx fr mc ms lo q ci N n : Nat} {ret : Option FieldType} {As fs : List Value} {C : String} {T : u_T} {Pst : Option Value → Mem → Prop} (rest : List Value) (hM : CT l Γ D s0 y yc yL ret fr mc ms lo σ (.ref (Γ.1 + q) :: As) Pst)
    (hw : GoodIn lwG (wsV own idx C y (wA y yc yL ret))) (hy : y.cls = C ∧ y.cls ≠ "java/lang/invoke/MethodHandle" ∧ y.cls ≠ "java/lang/invoke/VarHandle" ∧ (parseMethodDescriptor y.desc).map (fun d => d.parameters.length) = some n) (hn : As.length = n) (hq : q < 347) (hent : ent Γ q (σ q) = .inr (ci, fs)) (hc : vCl[ci]? = some (C, T, N))
    (hR : fr + 1 ≤ R.frames ∧ 8 + (yL + 11) + lo ≤ R.locals) (hcs : cells + mc ≤ R.cells ∧ slots + ms ≤ R.slots) (hrest : (rest.map fun v => v.category).sum ≤ 8) (hd : decode cc pc = .ok (.invokevirtual idx, 3)) (hst : st = As.reverse ++ .ref (Γ.1 + q) :: rest)
    (kk : ∀ (v : Option Value) (σ' : Mem), Pst v σ' → E p l e R s m args below meth c Γ D (cells + mc) (slots + ms) Q σ' (pc + 3) lv (v.toList ++ rest)) : E p l e R s m args below meth c Γ D cells slots Q σ pc lv st :=
  fun H locs ls hP hS h => e_after (g := F0 m pc ls st) (va_runV (As := As) (rest := rest) ⟨X.1, X.2.1, X.2.2.1, X.2.2.2.1, X.2.2.2.2.1⟩ hM (cwV n X.2.2.2.2.1 hw rfl rfl rfl hy hR) ⟨PcA_blind _ _, e_recv X hP hq hent hc, fun U hU hW => PcA_here X hP hS U hU hW⟩ rfl hn (by rw [← X.2.2.1]; exact h.1.1) hst (lv_room hrest) hd hcs) hS h kk
theorem e_callS (X : Cx p l s m args meth c Γ D s0 own cc nL) {y : MethodName} {yc : ByteArray} {yL idx fr mc ms lo n : Nat} {ret : Option FieldType} {As : List Value} {Pst : Option Value → Mem → Prop} (rest : List Value) (hM : CT l Γ D s0 y yc yL ret fr mc ms lo σ As Pst)
    (hw : GoodIn lwG (wsS own idx y (wA y yc yL ret))) (hy : y.cls = own ∧ y.cls ≠ "java/lang/invoke/MethodHandle" ∧ y.cls ≠ "java/lang/invoke/VarHandle" ∧ (parseMethodDescriptor y.desc).map (fun d => d.parameters.length) = some n) (hn : As.length = n)
    (hR : fr + 1 ≤ R.frames ∧ 8 + (yL + 11) + lo ≤ R.locals) (hcs : cells + mc ≤ R.cells ∧ slots + ms ≤ R.slots) (hrest : (rest.map fun v => v.category).sum ≤ 8) (hd : decode cc pc = .ok (.invokestatic idx, 3)) (hst : st = As.reverse ++ rest)
    (kk : ∀ (v : Option Value) (σ' : Mem), Pst v σ' → E p l e R s m args below meth c Γ D (cells + mc) (slots + ms) Q σ' (pc + 3) lv (v.toList ++ rest)) : E p l e R s m args below meth c Γ D cells slots Q σ pc lv st :=
  fun H locs ls hP hS h => e_after (g := F0 m pc ls st) (va_runS (As := As) (rest := rest) ⟨X.1, X.2.1, X.2.2.1, X.2.2.2.1, X.2.2.2.2.1⟩ hM (cwS n X.2.2.2.2.1 hw rfl rfl rfl hy hR) ⟨PcA_blind _ _, fun U hU hW => PcA_here X hP hS U hU hW⟩ rfl hn (by rw [← X.2.2.1]; exact h.1.1) hst (lv_room hrest) hd hcs) hS h kk
/-- one answer, one memory -/
def PI (v : Option Value) (σ : Mem) : Option Value → Mem → Prop := fun a b => a = v ∧ b = σ
theorem e_callSN (X : Cx p l s m args meth c Γ D s0 own cc nL) {y : MethodName} {host : String} {yc : ByteArray} {yL idx fr mc ms lo n : Nat} {ret : Option FieldType} {As : List Value} {Pst : Option Value → Mem → Prop} (rest : List Value) (hM : CT l Γ D s0 y yc yL ret fr mc ms lo σ As Pst)
    (hw : GoodIn lwG (wA y yc yL ret)) (hnest : Cond.methodLinkNest own idx y host ∈ nestW) (hini : Cond.initialized y.cls ∈ lwG) (hstat : Cond.static y ∈ lwG) (hy : y.cls ≠ "java/lang/invoke/MethodHandle" ∧ y.cls ≠ "java/lang/invoke/VarHandle" ∧ (parseMethodDescriptor y.desc).map (fun d => d.parameters.length) = some n) (hn : As.length = n)
    (hR : fr + 1 ≤ R.frames ∧ 8 + (yL + 11) + lo ≤ R.locals) (hcs : cells + mc ≤ R.cells ∧ slots + ms ≤ R.slots) (hrest : (rest.map fun v => v.category).sum ≤ 8) (hd : decode cc pc = .ok (.invokestatic idx, 3)) (hst : st = As.reverse ++ rest)
    (kk : ∀ (v : Option Value) (σ' : Mem), Pst v σ' → E p l e R s m args below meth c Γ D (cells + mc) (slots + ms) Q σ' (pc + 3) lv (v.toList ++ rest)) : E p l e R s m args below meth c Γ D cells slots Q σ pc lv st :=
  fun H locs ls hP hS h => e_after (g := F0 m pc ls st) (va_runSN (As := As) (rest := rest) ⟨X.1, X.2.1, X.2.2.1, X.2.2.2.1, X.2.2.2.2.1⟩ hM ⟨va_cnB n X.2.2.2.2.1 hw rfl rfl rfl (va_Nw.warmM X.2.2.2.2.2.2.1 (X.2.2.2.2.2.2.2.2.2.2.2.1 _ hnest)) (X.2.2.2.2.1 _ hini) hy hR, X.2.2.2.2.1 _ hstat, trivial⟩ ⟨PcA_blind _ _, fun U hU hW => PcA_here X hP hS U hU hW⟩ rfl hn (by rw [← X.2.2.1]; exact h.1.1) hst (lv_room hrest) hd hcs) hS h kk
theorem e_mmax (X : Cx p l s m args meth c Γ D s0 own cc nL) {idx : Nat} {x y : Int32} (hl : Cond.methodLink own idx Lib.Math.max.name ∈ lwG) (hst : Cond.static Lib.Math.max.name ∈ lwG) (hi : Cond.initialized "java/lang/Math" ∈ lwG) (hc : Cond.code Lib.Math.max.name Lib.Math.max.code 2 (some .int) ∈ lwG) (hf : 1 ≤ R.frames) (hlo : (st.map fun v => v.category).sum + 13 ≤ R.locals) (h1 : cells ≤ R.cells) (h2 : slots ≤ R.slots) (hd : decode cc pc = .ok (.invokestatic idx, 3)) (kk : E p l e R s m args below meth c Γ D cells slots Q σ (pc + 3) lv (.int (if x < y then y else x) :: st)) : E p l e R s m args below meth c Γ D cells slots Q σ pc lv (.int y :: .int x :: st) :=
  fun H locs ls hP hS h => va_mmax X.1 X.2.1 h.1.1.symm X.2.2.2.1 (X.2.2.2.2.1 _ hl) (X.2.2.2.2.1 _ hst) (X.2.2.2.2.1 _ hi) (X.2.2.2.2.1 _ hc) hf hlo h1 h2 hd (kk H locs ls hP hS h)
theorem e_mmin (X : Cx p l s m args meth c Γ D s0 own cc nL) {idx : Nat} {x y : Int32} (hl : Cond.methodLink own idx Lib.Math.min.name ∈ lwG) (hst : Cond.static Lib.Math.min.name ∈ lwG) (hi : Cond.initialized "java/lang/Math" ∈ lwG) (hc : Cond.code Lib.Math.min.name Lib.Math.min.code 2 (some .int) ∈ lwG) (hf : 1 ≤ R.frames) (hlo : (st.map fun v => v.category).sum + 13 ≤ R.locals) (h1 : cells ≤ R.cells) (h2 : slots ≤ R.slots) (hd : decode cc pc = .ok (.invokestatic idx, 3)) (kk : E p l e R s m args below meth c Γ D cells slots Q σ (pc + 3) lv (.int (if y < x then y else x) :: st)) : E p l e R s m args below meth c Γ D cells slots Q σ pc lv (.int y :: .int x :: st) :=
  fun H locs ls hP hS h => va_mmin X.1 X.2.1 h.1.1.symm X.2.2.2.1 (X.2.2.2.2.1 _ hl) (X.2.2.2.2.1 _ hst) (X.2.2.2.2.1 _ hi) (X.2.2.2.2.1 _ hc) hf hlo h1 h2 hd (kk H locs ls hP hS h)
def cpM (σ : Mem) (qs qd n : Nat) : Mem := fun a b => if a = qd ∧ b < n then σ qs b else σ a b
theorem Wd_setR {Γ : Gm} {σ : Mem} {q : Nat} {f : Nat → Int32} {e : va_E} {σ1 : Mem} (hq : q < 347) (he : ent Γ q f = e) (h1 : σ1 q = f) (h2 : ∀ a, a ≠ q → σ1 a = σ a) : (Wd Γ σ).set q (Γ.1 + q, e) = Wd Γ σ1 := by
  apply List.ext_getElem?
  intro k
  by_cases hk : k = q
  · subst hk
    rw [List.getElem?_set_self (by simp [Wd]; exact hq), Wd_get hq, h1, he]
  · rw [List.getElem?_set_ne (Ne.symm hk)]
    by_cases h9 : k < 347
    · rw [Wd_get h9, Wd_get h9, h2 k hk]
    · rw [List.getElem?_eq_none (by simp [Wd]; omega), List.getElem?_eq_none (by simp [Wd]; omega)]
theorem e_copy (X : Cx p l s m args meth c Γ D s0 own cc nL) {idx qs qd n0 n1 : Nat} {k : Int32} {σ1 : Mem} (hqs : entTbl[qs]? = some (3, n0)) (hqd : entTbl[qd]? = some (3, n1)) (hl : Cond.methodLink own idx arraycopyName ∈ lwG) (hnat : Cond.native arraycopyName ∈ lwG) (hst : Cond.static arraycopyName ∈ lwG) (hini : Cond.initialized "java/lang/System" ∈ lwG) (hk : ¬ k < 0 ∧ k.toNatClampNeg ≤ n0 ∧ k.toNatClampNeg ≤ n1)
    (hf : 1 ≤ R.frames) (hlo : (st.map fun v => v.category).sum + (nativeFrameWords "java/lang/System" "arraycopy" 5 + 11) ≤ R.locals) (hd : decode cc pc = .ok (.invokestatic idx, 3)) (hσ : σ1 = cpM σ qs qd k.toNatClampNeg) (kk : E p l e R s m args below meth c Γ D cells slots Q σ1 (pc + 3) lv st) : E p l e R s m args below meth c Γ D cells slots Q σ pc lv (.int k :: .int 0 :: .ref (Γ.1 + qd) :: .int 0 :: .ref (Γ.1 + qs) :: st) := by
  subst hσ
  exact fun H locs ls hP hS h => va_copyi X.1 X.2.1 h.1.1.symm X.2.2.2.1 (X.2.2.2.2.1 _ hl) (X.2.2.2.2.1 _ hnat) (X.2.2.2.2.1 _ hst) (X.2.2.2.2.1 _ hini) X.2.2.2.2.2.1 hP (Wd_D Γ σ) hS qs qd 0 0
    (by rw [Wd_get (ent_lt hqs), ent_at hqs]; rfl) (by rw [Wd_get (ent_lt hqd), ent_at hqd]; rfl) rfl rfl rfl (by decide) (by decide) hk.1 (by rw [show (0 : Int32).toNatClampNeg = 0 from rfl, Nat.zero_add]; exact hk.2.1) (by rw [show (0 : Int32).toNatClampNeg = 0 from rfl, Nat.zero_add]; exact hk.2.2) (fun _ _ => rfl) hf hlo hd
    (fun H1 locs1 hP1 _ hS1 => kk H1 locs1 ls (by rw [← Wd_setR (ent_lt hqd) (ent_at hqd _) ?_ ?_]; exact hP1
                                                  · funext b; simp [cpM, va_cpy, show (0 : Int32).toNatClampNeg = 0 from rfl]
                                                  · intro a ha; funext b; simp [cpM, ha]) hS1 h)
theorem e_zald (X : Cx p l s m args meth c Γ D s0 own cc nL) {q n j : Nat} {i i' : Int32} (hi : i' = i) (hq : entTbl[q]? = some (14, n)) (hin : vp_in i' n) (hj : i'.toNatClampNeg = j) (hd : decode cc pc = .ok (.baload, 1)) (kk : E p l e R s m args below meth c Γ D cells slots Q σ (pc + 1) lv (.int (σ q j) :: st)) : E p l e R s m args below meth c Γ D cells slots Q σ pc lv (.int i :: .ref (Γ.1 + q) :: st) := by
  subst hi; subst hj
  exact fun H locs ls hP hS h => va_zald X.1 X.2.1 X.2.2.2.2.2.1 hP q 1 (by rw [Wd_get (ent_lt hq), ent_at hq]; rfl) rfl hin hd (kk H locs ls hP hS h)
theorem e_zast (X : Cx p l s m args meth c Γ D s0 own cc nL) {q n j : Nat} {i i' x : Int32} {σ1 : Mem} (hi : i' = i) (hz : x = 0 ∨ x = 1) (hq : entTbl[q]? = some (14, n)) (hin : vp_in i' n) (hj : i'.toNatClampNeg = j) (hd : decode cc pc = .ok (.bastore, 1)) (hσ : σ1 = up σ q j x) (kk : E p l e R s m args below meth c Γ D cells slots Q σ1 (pc + 1) lv st) : E p l e R s m args below meth c Γ D cells slots Q σ pc lv (.int x :: .int i :: .ref (Γ.1 + q) :: st) := by
  subst hi; subst hj; subst hσ
  have hx : vp_nar .boolean x = x := by rcases hz with rfl | rfl <;> rfl
  exact fun H locs ls hP hS h => va_zast X.1 X.2.1 X.2.2.2.2.2.1 hP (Wd_D Γ σ) hS q 1 (by rw [Wd_get (ent_lt hq), ent_at hq]; rfl) rfl hin hd (fun H1 locs1 hP1 _ hS1 => kk H1 locs1 ls (by rw [← Wd_set (ent_lt hq) (ent_at hq _)]; rw [hx] at hP1; exact hP1) hS1 h)
theorem e_ldcw (X : Cx p l s m args meth c Γ D s0 own cc nL) {idx : Nat} (v : Int32) (hw : Cond.constant own idx v ∈ lwG) (hd : decode cc pc = .ok (.ldc_w idx, 3)) (k : E p l e R s m args below meth c Γ D cells slots Q σ (pc + 3) lv (.int v :: st)) : E p l e R s m args below meth c Γ D cells slots Q σ pc lv st :=
  fun H locs ls hP hS hl => lv_ldcw X.1 X.2.1 X.2.2.2.1 (X.2.2.2.2.1 _ hw) hd (k H locs ls hP hS hl)
theorem e_tabIn (X : Cx p l s m args meth c Γ D s0 own cc nL) {dflt lo hi off : Int} {offs : Array Int} {len : Nat} {x : Int32} (tgt : Nat) (k : Int32) (hx : x = k) (hd : decode cc pc = .ok (.tableswitch dflt lo hi offs, len)) (h1 : ¬ k.toInt < lo) (h2 : ¬ hi < k.toInt) (ho : offs[(k.toInt - lo).toNat]? = some off) (ht : (pc : Int) + off = (tgt : Int)) (kk : E p l e R s m args below meth c Γ D cells slots Q σ tgt lv st) : E p l e R s m args below meth c Γ D cells slots Q σ pc lv (.int x :: st) := by
  subst hx
  exact fun H locs ls hP hS hl => lv_tableIn X.1 X.2.1 hd h1 h2 ho ht (kk H locs ls hP hS hl)
theorem e_tabOut (X : Cx p l s m args meth c Γ D s0 own cc nL) {dflt lo hi : Int} {offs : Array Int} {len : Nat} {x : Int32} (tgt : Nat) (h : x.toInt < lo ∨ hi < x.toInt) (hd : decode cc pc = .ok (.tableswitch dflt lo hi offs, len)) (ht : (pc : Int) + dflt = (tgt : Int)) (kk : E p l e R s m args below meth c Γ D cells slots Q σ tgt lv st) : E p l e R s m args below meth c Γ D cells slots Q σ pc lv (.int x :: st) :=
  fun H locs ls hP hS hl => lv_tableOut X.1 X.2.1 hd h ht (kk H locs ls hP hS hl)
theorem Cx_gok0 (X : Cx p l s m args meth c Γ D s0 own cc nL) : Gok l Γ D s0 := X.2.2.2.2.2.2.2.2.2
theorem e_callUp (X : Cx p l s m args meth c Γ D s0 own cc nL) {x y : MethodName} {yc : ByteArray} {yL idx fr mc ms lo q ci N n : Nat} {ret : Option FieldType} {As fs : List Value} {C owner : String} {T : u_T} {Pst : Option Value → Mem → Prop} (rest : List Value) (hM : CT l Γ D s0 y yc yL ret fr mc ms lo σ (.ref (Γ.1 + q) :: As) Pst)
    (cw : va_CU R s args own C owner idx x y yc yL ret (wA y yc yL ret) { frames := fr, cells := mc, slots := ms, locals := lo } mc ms n) (hn : As.length = n) (hq : q < 347) (hent : ent Γ q (σ q) = .inr (ci, fs)) (hc : vCl[ci]? = some (C, T, N))
    (hcs : cells + mc ≤ R.cells ∧ slots + ms ≤ R.slots) (hrest : (rest.map fun v => v.category).sum ≤ 8) (hd : decode cc pc = .ok (.invokevirtual idx, 3)) (hst : st = As.reverse ++ .ref (Γ.1 + q) :: rest)
    (kk : ∀ (v : Option Value) (σ' : Mem), Pst v σ' → E p l e R s m args below meth c Γ D (cells + mc) (slots + ms) Q σ' (pc + 3) lv (v.toList ++ rest)) : E p l e R s m args below meth c Γ D cells slots Q σ pc lv st :=
  fun H locs ls hP hS h => e_after (g := F0 m pc ls st) (va_runU (As := As) (rest := rest) ⟨X.1, X.2.1, X.2.2.1, X.2.2.2.1, X.2.2.2.2.1⟩ hM cw ⟨PcA_blind _ _, e_recv X hP hq hent hc, fun U hU hW => PcA_here X hP hS U hU hW⟩ rfl hn (by rw [← X.2.2.1]; exact h.1.1) hst (lv_room hrest) hd hcs) hS h kk
theorem e_callU (X : Cx p l s m args meth c Γ D s0 own cc nL) {x y : MethodName} {yc : ByteArray} {yL idx fr mc ms lo q ci N n : Nat} {ret : Option FieldType} {As fs : List Value} {C owner : String} {T : u_T} {Pst : Option Value → Mem → Prop} (rest : List Value) (hM : CT l Γ D s0 y yc yL ret fr mc ms lo σ (.ref (Γ.1 + q) :: As) Pst)
    (hw : GoodIn lwG (va_wsU own idx C owner x y (wA y yc yL ret))) (hyx : y = ⟨owner, x.name, x.desc⟩) (hy : owner ≠ "java/lang/invoke/MethodHandle" ∧ owner ≠ "java/lang/invoke/VarHandle" ∧ (parseMethodDescriptor x.desc).map (fun d => d.parameters.length) = some n) (hn : As.length = n) (hq : q < 347) (hent : ent Γ q (σ q) = .inr (ci, fs)) (hc : vCl[ci]? = some (C, T, N))
    (hR : fr + 1 ≤ R.frames ∧ 8 + (yL + 11) + lo ≤ R.locals) (hcs : cells + mc ≤ R.cells ∧ slots + ms ≤ R.slots) (hrest : (rest.map fun v => v.category).sum ≤ 8) (hd : decode cc pc = .ok (.invokevirtual idx, 3)) (hst : st = As.reverse ++ .ref (Γ.1 + q) :: rest)
    (kk : ∀ (v : Option Value) (σ' : Mem), Pst v σ' → E p l e R s m args below meth c Γ D (cells + mc) (slots + ms) Q σ' (pc + 3) lv (v.toList ++ rest)) : E p l e R s m args below meth c Γ D cells slots Q σ pc lv st :=
  e_callUp X rest hM (va_cwU n X.2.2.2.2.1 hw rfl rfl rfl hyx hy hR) hn hq hent hc hcs hrest hd hst kk
theorem e_callA (X : Cx p l s m args meth c Γ D s0 own cc nL) {x y : MethodName} {yc : ByteArray} {yL idx fr mc ms lo q ci N n : Nat} {ret : Option FieldType} {As fs : List Value} {C owner : String} {T : u_T} {Pst : Option Value → Mem → Prop} (rest : List Value) (hM : CT l Γ D s0 y yc yL ret fr mc ms lo σ (.ref (Γ.1 + q) :: As) Pst)
    (hw : GoodIn lwG (va_wsU own idx C owner x y (wA y yc yL ret))) (hz : Cond.declares ⟨owner, x.name, x.desc⟩ ∈ declW) (hy : owner ≠ "java/lang/invoke/MethodHandle" ∧ owner ≠ "java/lang/invoke/VarHandle" ∧ (parseMethodDescriptor x.desc).map (fun d => d.parameters.length) = some n) (hn : As.length = n) (hq : q < 347) (hent : ent Γ q (σ q) = .inr (ci, fs)) (hc : vCl[ci]? = some (C, T, N))
    (hR : fr + 1 ≤ R.frames ∧ 8 + (yL + 11) + lo ≤ R.locals) (hcs : cells + mc ≤ R.cells ∧ slots + ms ≤ R.slots) (hrest : (rest.map fun v => v.category).sum ≤ 8) (hd : decode cc pc = .ok (.invokevirtual idx, 3)) (hst : st = As.reverse ++ .ref (Γ.1 + q) :: rest)
    (kk : ∀ (v : Option Value) (σ' : Mem), Pst v σ' → E p l e R s m args below meth c Γ D (cells + mc) (slots + ms) Q σ' (pc + 3) lv (v.toList ++ rest)) : E p l e R s m args below meth c Γ D cells slots Q σ pc lv st :=
  e_callUp X rest hM (va_cwA n X.2.2.2.2.1 hw rfl rfl rfl (va_Nw.warmD X.2.2.2.2.2.2.1 ((Cx_gok0 X).2.2.2.1 _ hz)) hy hR) hn hq hent hc hcs hrest hd hst kk
theorem Cx_gok (X : Cx p l s m args meth c Γ D s0 own cc nL) : Gok l Γ D s0 := X.2.2.2.2.2.2.2.2.2
theorem e_callVi (X : Cx p l s m args meth c Γ D s0 own cc nL) {y : MethodName} {yc : ByteArray} {yL idx fr mc ms lo n : Nat} {ret : Option FieldType} {σ1 : Mem} {r : Int32} {q ci N : Nat} {fs : List Value} {C : String} {T : u_T} (As rest : List Value) (hM : CT l Γ D s0 y yc yL ret fr mc ms lo σ (.ref (Γ.1 + q) :: As) (PI (some (.int r)) σ1)) (hw : GoodIn lwG (wsV own idx C y (wA y yc yL ret))) (hy : y.cls = C ∧ y.cls ≠ "java/lang/invoke/MethodHandle" ∧ y.cls ≠ "java/lang/invoke/VarHandle" ∧ (parseMethodDescriptor y.desc).map (fun d => d.parameters.length) = some n) (hn : As.length = n) (hq : q < 347) (hent : ent Γ q (σ q) = .inr (ci, fs)) (hc : vCl[ci]? = some (C, T, N)) (hR : fr + 1 ≤ R.frames ∧ 8 + (yL + 11) + lo ≤ R.locals) (hcs : cells + mc ≤ R.cells ∧ slots + ms ≤ R.slots) (hrest : (rest.map fun v => v.category).sum ≤ 8) (hd : decode cc pc = .ok (.invokevirtual idx, 3)) (hst : st = As.reverse ++ .ref (Γ.1 + q) :: rest) (kk : E p l e R s m args below meth c Γ D (cells + mc) (slots + ms) Q σ1 (pc + 3) lv (.int r :: rest)) : E p l e R s m args below meth c Γ D cells slots Q σ pc lv st :=
  e_callV X rest hM hw hy hn hq hent hc hR hcs hrest hd hst (fun v σ2 h9 => by obtain ⟨rfl, rfl⟩ := h9; exact kk)
theorem e_callVv (X : Cx p l s m args meth c Γ D s0 own cc nL) {y : MethodName} {yc : ByteArray} {yL idx fr mc ms lo n : Nat} {ret : Option FieldType} {σ1 : Mem} {q ci N : Nat} {fs : List Value} {C : String} {T : u_T} (As rest : List Value) (hM : CT l Γ D s0 y yc yL ret fr mc ms lo σ (.ref (Γ.1 + q) :: As) (PI none σ1)) (hw : GoodIn lwG (wsV own idx C y (wA y yc yL ret))) (hy : y.cls = C ∧ y.cls ≠ "java/lang/invoke/MethodHandle" ∧ y.cls ≠ "java/lang/invoke/VarHandle" ∧ (parseMethodDescriptor y.desc).map (fun d => d.parameters.length) = some n) (hn : As.length = n) (hq : q < 347) (hent : ent Γ q (σ q) = .inr (ci, fs)) (hc : vCl[ci]? = some (C, T, N)) (hR : fr + 1 ≤ R.frames ∧ 8 + (yL + 11) + lo ≤ R.locals) (hcs : cells + mc ≤ R.cells ∧ slots + ms ≤ R.slots) (hrest : (rest.map fun v => v.category).sum ≤ 8) (hd : decode cc pc = .ok (.invokevirtual idx, 3)) (hst : st = As.reverse ++ .ref (Γ.1 + q) :: rest) (kk : E p l e R s m args below meth c Γ D (cells + mc) (slots + ms) Q σ1 (pc + 3) lv rest) : E p l e R s m args below meth c Γ D cells slots Q σ pc lv st :=
  e_callV X rest hM hw hy hn hq hent hc hR hcs hrest hd hst (fun v σ2 h9 => by obtain ⟨rfl, rfl⟩ := h9; exact kk)
theorem e_callSi (X : Cx p l s m args meth c Γ D s0 own cc nL) {y : MethodName} {yc : ByteArray} {yL idx fr mc ms lo n : Nat} {ret : Option FieldType} {σ1 : Mem} {r : Int32} (As rest : List Value) (hM : CT l Γ D s0 y yc yL ret fr mc ms lo σ As (PI (some (.int r)) σ1)) (hw : GoodIn lwG (wsS own idx y (wA y yc yL ret))) (hy : y.cls = own ∧ y.cls ≠ "java/lang/invoke/MethodHandle" ∧ y.cls ≠ "java/lang/invoke/VarHandle" ∧ (parseMethodDescriptor y.desc).map (fun d => d.parameters.length) = some n) (hn : As.length = n) (hR : fr + 1 ≤ R.frames ∧ 8 + (yL + 11) + lo ≤ R.locals) (hcs : cells + mc ≤ R.cells ∧ slots + ms ≤ R.slots) (hrest : (rest.map fun v => v.category).sum ≤ 8) (hd : decode cc pc = .ok (.invokestatic idx, 3)) (hst : st = As.reverse ++ rest) (kk : E p l e R s m args below meth c Γ D (cells + mc) (slots + ms) Q σ1 (pc + 3) lv (.int r :: rest)) : E p l e R s m args below meth c Γ D cells slots Q σ pc lv st :=
  e_callS X rest hM hw hy hn hR hcs hrest hd hst (fun v σ2 h9 => by obtain ⟨rfl, rfl⟩ := h9; exact kk)
theorem e_callSv (X : Cx p l s m args meth c Γ D s0 own cc nL) {y : MethodName} {yc : ByteArray} {yL idx fr mc ms lo n : Nat} {ret : Option FieldType} {σ1 : Mem} (As rest : List Value) (hM : CT l Γ D s0 y yc yL ret fr mc ms lo σ As (PI none σ1)) (hw : GoodIn lwG (wsS own idx y (wA y yc yL ret))) (hy : y.cls = own ∧ y.cls ≠ "java/lang/invoke/MethodHandle" ∧ y.cls ≠ "java/lang/invoke/VarHandle" ∧ (parseMethodDescriptor y.desc).map (fun d => d.parameters.length) = some n) (hn : As.length = n) (hR : fr + 1 ≤ R.frames ∧ 8 + (yL + 11) + lo ≤ R.locals) (hcs : cells + mc ≤ R.cells ∧ slots + ms ≤ R.slots) (hrest : (rest.map fun v => v.category).sum ≤ 8) (hd : decode cc pc = .ok (.invokestatic idx, 3)) (hst : st = As.reverse ++ rest) (kk : E p l e R s m args below meth c Γ D (cells + mc) (slots + ms) Q σ1 (pc + 3) lv rest) : E p l e R s m args below meth c Γ D cells slots Q σ pc lv st :=
  e_callS X rest hM hw hy hn hR hcs hrest hd hst (fun v σ2 h9 => by obtain ⟨rfl, rfl⟩ := h9; exact kk)
theorem e_callSNi (X : Cx p l s m args meth c Γ D s0 own cc nL) {y : MethodName} {yc : ByteArray} {yL idx fr mc ms lo n : Nat} {ret : Option FieldType} {σ1 : Mem} {r : Int32} {host : String} (As rest : List Value) (hM : CT l Γ D s0 y yc yL ret fr mc ms lo σ As (PI (some (.int r)) σ1)) (hw : GoodIn lwG (wA y yc yL ret)) (hnest : Cond.methodLinkNest own idx y host ∈ nestW) (hini : Cond.initialized y.cls ∈ lwG) (hstat : Cond.static y ∈ lwG) (hy : y.cls ≠ "java/lang/invoke/MethodHandle" ∧ y.cls ≠ "java/lang/invoke/VarHandle" ∧ (parseMethodDescriptor y.desc).map (fun d => d.parameters.length) = some n) (hn : As.length = n) (hR : fr + 1 ≤ R.frames ∧ 8 + (yL + 11) + lo ≤ R.locals) (hcs : cells + mc ≤ R.cells ∧ slots + ms ≤ R.slots) (hrest : (rest.map fun v => v.category).sum ≤ 8) (hd : decode cc pc = .ok (.invokestatic idx, 3)) (hst : st = As.reverse ++ rest) (kk : E p l e R s m args below meth c Γ D (cells + mc) (slots + ms) Q σ1 (pc + 3) lv (.int r :: rest)) : E p l e R s m args below meth c Γ D cells slots Q σ pc lv st :=
  e_callSN X rest hM hw hnest hini hstat hy hn hR hcs hrest hd hst (fun v σ2 h9 => by obtain ⟨rfl, rfl⟩ := h9; exact kk)
theorem e_callSNv (X : Cx p l s m args meth c Γ D s0 own cc nL) {y : MethodName} {yc : ByteArray} {yL idx fr mc ms lo n : Nat} {ret : Option FieldType} {σ1 : Mem} {host : String} (As rest : List Value) (hM : CT l Γ D s0 y yc yL ret fr mc ms lo σ As (PI none σ1)) (hw : GoodIn lwG (wA y yc yL ret)) (hnest : Cond.methodLinkNest own idx y host ∈ nestW) (hini : Cond.initialized y.cls ∈ lwG) (hstat : Cond.static y ∈ lwG) (hy : y.cls ≠ "java/lang/invoke/MethodHandle" ∧ y.cls ≠ "java/lang/invoke/VarHandle" ∧ (parseMethodDescriptor y.desc).map (fun d => d.parameters.length) = some n) (hn : As.length = n) (hR : fr + 1 ≤ R.frames ∧ 8 + (yL + 11) + lo ≤ R.locals) (hcs : cells + mc ≤ R.cells ∧ slots + ms ≤ R.slots) (hrest : (rest.map fun v => v.category).sum ≤ 8) (hd : decode cc pc = .ok (.invokestatic idx, 3)) (hst : st = As.reverse ++ rest) (kk : E p l e R s m args below meth c Γ D (cells + mc) (slots + ms) Q σ1 (pc + 3) lv rest) : E p l e R s m args below meth c Γ D cells slots Q σ pc lv st :=
  e_callSN X rest hM hw hnest hini hstat hy hn hR hcs hrest hd hst (fun v σ2 h9 => by obtain ⟨rfl, rfl⟩ := h9; exact kk)
theorem e_callSOi (X : Cx p l s m args meth c Γ D s0 own cc nL) {y : MethodName} {yc : ByteArray} {yL idx fr mc ms lo n : Nat} {ret : Option FieldType} {σ1 : Mem} {r : Int32} (As rest : List Value) (hM : CT l Γ D s0 y yc yL ret fr mc ms lo σ As (PI (some (.int r)) σ1)) (hw : GoodIn lwG (wA y yc yL ret)) (hl : Cond.methodLink own idx y ∈ lwG) (hst9 : Cond.static y ∈ lwG) (hini : Cond.initialized y.cls ∈ lwG) (hy : y.cls ≠ "java/lang/invoke/MethodHandle" ∧ y.cls ≠ "java/lang/invoke/VarHandle" ∧ (parseMethodDescriptor y.desc).map (fun d => d.parameters.length) = some n) (hn : As.length = n) (hR : fr + 1 ≤ R.frames ∧ 8 + (yL + 11) + lo ≤ R.locals) (hcs : cells + mc ≤ R.cells ∧ slots + ms ≤ R.slots) (hrest : (rest.map fun v => v.category).sum ≤ 8) (hd : decode cc pc = .ok (.invokestatic idx, 3)) (hst : st = As.reverse ++ rest) (kk : E p l e R s m args below meth c Γ D (cells + mc) (slots + ms) Q σ1 (pc + 3) lv (.int r :: rest)) : E p l e R s m args below meth c Γ D cells slots Q σ pc lv st :=
  fun H locs ls hP hS h => e_after (g := F0 m pc ls st) (va_runS (As := As) (rest := rest) ⟨X.1, X.2.1, X.2.2.1, X.2.2.2.1, X.2.2.2.2.1⟩ hM ⟨callB_of n X.2.2.2.2.1 hw rfl rfl rfl (X.2.2.2.2.1 _ hini) (X.2.2.2.2.1 _ hl) hy hR, X.2.2.2.2.1 _ hst9⟩ ⟨PcA_blind _ _, fun U hU hW => PcA_here X hP hS U hU hW⟩ rfl hn (by rw [← X.2.2.1]; exact h.1.1) hst (lv_room hrest) hd hcs) hS h (fun v σ2 h9 => by obtain ⟨rfl, rfl⟩ := h9; exact kk)
theorem e_callSOv (X : Cx p l s m args meth c Γ D s0 own cc nL) {y : MethodName} {yc : ByteArray} {yL idx fr mc ms lo n : Nat} {ret : Option FieldType} {σ1 : Mem} (As rest : List Value) (hM : CT l Γ D s0 y yc yL ret fr mc ms lo σ As (PI none σ1)) (hw : GoodIn lwG (wA y yc yL ret)) (hl : Cond.methodLink own idx y ∈ lwG) (hst9 : Cond.static y ∈ lwG) (hini : Cond.initialized y.cls ∈ lwG) (hy : y.cls ≠ "java/lang/invoke/MethodHandle" ∧ y.cls ≠ "java/lang/invoke/VarHandle" ∧ (parseMethodDescriptor y.desc).map (fun d => d.parameters.length) = some n) (hn : As.length = n) (hR : fr + 1 ≤ R.frames ∧ 8 + (yL + 11) + lo ≤ R.locals) (hcs : cells + mc ≤ R.cells ∧ slots + ms ≤ R.slots) (hrest : (rest.map fun v => v.category).sum ≤ 8) (hd : decode cc pc = .ok (.invokestatic idx, 3)) (hst : st = As.reverse ++ rest) (kk : E p l e R s m args below meth c Γ D (cells + mc) (slots + ms) Q σ1 (pc + 3) lv rest) : E p l e R s m args below meth c Γ D cells slots Q σ pc lv st :=
  fun H locs ls hP hS h => e_after (g := F0 m pc ls st) (va_runS (As := As) (rest := rest) ⟨X.1, X.2.1, X.2.2.1, X.2.2.2.1, X.2.2.2.2.1⟩ hM ⟨callB_of n X.2.2.2.2.1 hw rfl rfl rfl (X.2.2.2.2.1 _ hini) (X.2.2.2.2.1 _ hl) hy hR, X.2.2.2.2.1 _ hst9⟩ ⟨PcA_blind _ _, fun U hU hW => PcA_here X hP hS U hU hW⟩ rfl hn (by rw [← X.2.2.1]; exact h.1.1) hst (lv_room hrest) hd hcs) hS h (fun v σ2 h9 => by obtain ⟨rfl, rfl⟩ := h9; exact kk)
end EE

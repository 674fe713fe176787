theorem lwT_in {w : Cond} {i : Nat} (h : tables_1[i]? = some w) (g : goodWord w = true) : w ∈ lwG := lwG_in (List.mem_append_right _ (List.mem_of_getElem? h)) g
theorem lwP_in {w : Cond} {i : Nat} (h : (k2_sels lw_privs)[i]? = some w) (g : goodWord w = true) : w ∈ lwG := lwG_in (List.mem_append_left _ (List.mem_of_getElem? h)) g
theorem gA4 {a b c d : Cond} {y : MethodName} {cc : ByteArray} {nL : Nat} {ret : Option FieldType} (h1 : a ∈ lwG) (h2 : b ∈ lwG) (h3 : c ∈ lwG) (h4 : d ∈ lwG) (hc : Cond.code y cc nL ret ∈ lwG) : GoodIn lwG ([a, b, c, d] ++ wA y cc nL ret) :=
  gA (List.forall_mem_cons.mpr ⟨h1, List.forall_mem_cons.mpr ⟨h2, List.forall_mem_cons.mpr ⟨h3, List.forall_mem_cons.mpr ⟨h4, fun _ h => absurd h List.not_mem_nil⟩⟩⟩⟩) hc
theorem gA3 {a b c : Cond} {y : MethodName} {cc : ByteArray} {nL : Nat} {ret : Option FieldType} (h1 : a ∈ lwG) (h2 : b ∈ lwG) (h3 : c ∈ lwG) (hc : Cond.code y cc nL ret ∈ lwG) : GoodIn lwG ([a, b, c] ++ wA y cc nL ret) :=
  gA (List.forall_mem_cons.mpr ⟨h1, List.forall_mem_cons.mpr ⟨h2, List.forall_mem_cons.mpr ⟨h3, fun _ h => absurd h List.not_mem_nil⟩⟩⟩) hc
theorem gA5 {a b c d e : Cond} {y : MethodName} {cc : ByteArray} {nL : Nat} {ret : Option FieldType} (h1 : a ∈ lwG) (h2 : b ∈ lwG) (h3 : c ∈ lwG) (h4 : d ∈ lwG) (h5 : e ∈ lwG) (hc : Cond.code y cc nL ret ∈ lwG) : GoodIn lwG ([a, b, c, d, e] ++ wA y cc nL ret) :=
  gA (List.forall_mem_cons.mpr ⟨h1, List.forall_mem_cons.mpr ⟨h2, List.forall_mem_cons.mpr ⟨h3, List.forall_mem_cons.mpr ⟨h4, List.forall_mem_cons.mpr ⟨h5, fun _ h => absurd h List.not_mem_nil⟩⟩⟩⟩⟩) hc
theorem gA0 {y : MethodName} {cc : ByteArray} {nL : Nat} {ret : Option FieldType} (hc : Cond.code y cc nL ret ∈ lwG) : GoodIn lwG (wA y cc nL ret) := gA (ws := []) (fun _ h => absurd h List.not_mem_nil) hc
theorem all_in {ws : List Cond} (h : ∀ k : Nat, k < ws.length → ∃ w, ws[k]? = some w ∧ w ∈ lwG) : ∀ w ∈ ws, w ∈ lwG := by
  intro w hw
  obtain ⟨k, hk⟩ := List.getElem?_of_mem hw
  obtain ⟨w', h1, h2⟩ := h k (List.getElem?_eq_some_iff.mp hk).1
  rw [h1] at hk
  cases hk
  exact h2
-- shapes
def isRow (r n : Nat) : Prop := entTbl[r]? = some (2, 0) ∧ entTbl[r + 1]? = some (3, n)
def isTown (t : Nat) : Prop := entTbl[t]? = some (1, 0) ∧ isRow (t + 1) 8 ∧ isRow (t + 3) 8 ∧ isRow (t + 5) 8 ∧ isRow (t + 7) 64 ∧ isRow (t + 9) 40 ∧ isRow (t + 11) 20 ∧ isRow (t + 13) 20 ∧ isRow (t + 15) 240
def isLaw (w : Nat) : Prop := entTbl[w]? = some (4, 0) ∧ isRow (w + 1) 12 ∧ isRow (w + 3) 12 ∧ entTbl[w + 5]? = some (3, 400) ∧ isRow (w + 6) 64
def isText (t : Nat) : Prop := (entTbl[t]? = some (5, 0) ∨ entTbl[t]? = some (6, 0)) ∧ isRow (t + 1) 400 ∧ entTbl[t + 3]? = some (12, 400) ∧ entTbl[t + 4]? = some (3, 400) ∧ entTbl[t + 5]? = some (3, 400) ∧ entTbl[t + 6]? = some (3, 400)
def isLook (k : Nat) : Prop := entTbl[k]? = some (7, 0)
theorem ent_small {q a n : Nat} (h : entTbl[q]? = some (a, n)) : n < 6000 := by
  have h9 : ∀ c ∈ entTbl, c.2 < 6000 := by decide +kernel
  exact h9 _ (List.mem_of_getElem? h)
theorem nInt_ti {n : Nat} (h : n < 6000) : (Int32.ofNat n).toInt = (n : Int) := nI_toInt (n := n) (by omega)
theorem vp_g {i : Int32} {q a n : Nat} (h : entTbl[q]? = some (a, n)) (h1 : ¬ i < 0) (h2 : i < Int32.ofNat n) : vp_in i n := by
  rw [vp_in_iff]
  rw [Int32.lt_iff_toInt_lt, nInt_ti (ent_small h)] at h2
  rw [Int32.lt_iff_toInt_lt, Int32.toInt_zero] at h1
  omega
theorem vp_gc {i v : Int32} {n : Nat} (hv : v.toInt ≤ (n : Int)) (h1 : ¬ i < 0) (h2 : i < v) : vp_in i n := by
  rw [vp_in_iff]
  rw [Int32.lt_iff_toInt_lt] at h2
  rw [Int32.lt_iff_toInt_lt, Int32.toInt_zero] at h1
  omega
-- bindings, checks, loops
def bindT {α β : Type} (x : α) (k : α → β) : β := k x
theorem bindT_out {α β : Type} {x : α} {k : α → β} {out : β} (h : bindT x k = out) : ∃ a, a = x ∧ k a = out := ⟨x, rfl, h⟩
def obind {α β : Type} (x : Option α) (k : α → Option β) : Option β := match x with
  | none => none
  | some a => k a
theorem obind_out {α β : Type} {x : Option α} {k : α → Option β} {out : β} (h : obind x k = some out) : ∃ a, x = some a ∧ k a = some out := by
  cases x with
  | none => cases h
  | some a => exact ⟨a, rfl, h⟩
def inb (i : Int32) (n : Nat) : Bool := decide (0 ≤ i.toInt) && decide (i.toInt < (n : Int))
theorem inb_in {i : Int32} {n : Nat} (h : inb i n = true) : vp_in i n := by
  simp only [inb, Bool.and_eq_true, decide_eq_true_eq] at h
  exact vp_in_iff.mpr h
def chk {β : Type} (b : Bool) (k : Option β) : Option β := match b with
  | true => k
  | false => none
theorem chk_out {β : Type} {b : Bool} {k : Option β} {out : β} (h : chk b k = some out) : b = true ∧ k = some out := by
  cases b with
  | true => exact ⟨rfl, h⟩
  | false => cases h
def nz (x : Int32) : Bool := !(x == 0)
theorem nz_out {x : Int32} (h : nz x = true) : ¬ x = 0 := by
  intro h1
  rw [h1] at h
  exact absurd h (by decide)
def sumE {S R β : Type} (z : S ⊕ R) (a : S → β) (b : R → β) : β := match z with
  | .inl s => a s
  | .inr r => b r
def sumP {S R : Type} (z : S ⊕ R) (a : S → Prop) (b : R → Prop) : Prop := match z with
  | .inl s => a s
  | .inr r => b r
def cnt (i b : Int32) : Nat := (b.toInt - i.toInt).toNat
def cle (i b : Int32) : Nat := (b.toInt + 1 - i.toInt).toNat
theorem i32_lo (i : Int32) : -2147483648 ≤ i.toInt := by have := Int32.le_toInt i; omega
theorem i32_hi (i : Int32) : i.toInt < 2147483648 := by have := Int32.toInt_lt i; omega
theorem i32_s {i : Int32} (h : i.toInt < 2147483647) : (i + 1).toInt = i.toInt + 1 := by
  have h1 := i32_lo i
  rw [Int32.toInt_add, Int32.toInt_one, Int.bmod_eq_of_le (by omega) (by omega)]
theorem cnt0 {i b : Int32} (h : 0 = cnt i b) : ¬ i < b := by rw [Int32.lt_iff_toInt_lt]; unfold cnt at h; omega
theorem cntS {n : Nat} {i b : Int32} (h : n + 1 = cnt i b) : i < b := by rw [Int32.lt_iff_toInt_lt]; unfold cnt at h; omega
theorem cntN {n : Nat} {i b : Int32} (h : n + 1 = cnt i b) : n = cnt (i + 1) b := by
  have h1 := cntS h
  rw [Int32.lt_iff_toInt_lt] at h1
  have h2 := i32_hi b
  unfold cnt at h ⊢
  rw [i32_s (by omega)]
  omega
theorem cle0 {i b : Int32} (h : 0 = cle i b) : b < i := by rw [Int32.lt_iff_toInt_lt]; unfold cle at h; omega
theorem cleS {n : Nat} {i b : Int32} (h : n + 1 = cle i b) : ¬ b < i := by rw [Int32.lt_iff_toInt_lt]; unfold cle at h; omega
theorem cleN {n : Nat} {i b : Int32} (hb : b.toInt < 2147483647) (h : n + 1 = cle i b) : n = cle (i + 1) b := by
  have h1 := cleS h
  rw [Int32.lt_iff_toInt_lt] at h1
  unfold cle at h ⊢
  rw [i32_s (by omega)]
  omega
theorem cnt_hi {n : Nat} {i b : Int32} (h : n + 1 = cnt i b) : i.toInt < 2147483647 := by
  have h1 := cntS h
  rw [Int32.lt_iff_toInt_lt] at h1
  have := i32_hi b
  omega
theorem cle_hi {n : Nat} {i b : Int32} (hb : b.toInt < 2147483647) (h : n + 1 = cle i b) : i.toInt < 2147483647 := by
  have h1 := cleS h
  rw [Int32.lt_iff_toInt_lt] at h1
  omega
theorem nnN {i : Int32} (h0 : ¬ i < 0) (h : i.toInt < 2147483647) : ¬ i + 1 < 0 := by
  rw [Int32.lt_iff_toInt_lt, Int32.toInt_zero] at h0 ⊢
  rw [i32_s h]
  omega
theorem pos_ne {x : Int32} (h : 0 < x) : ¬ x = 0 := by
  intro h1
  rw [h1] at h
  exact absurd h (by decide)
def forS {S : Type} (f : Int32 → S → S) : Nat → Int32 → S → S
  | 0, _, s => s
  | n + 1, i, s => forS f n (i + 1) (f i s)
theorem forS_step {S : Type} {f : Int32 → S → S} {n : Nat} {i : Int32} {s z : S} (h : forS f (n + 1) i s = z) : ∃ y, f i s = y ∧ forS f n (i + 1) y = z := ⟨_, rfl, h⟩
def forSO {S : Type} (f : Int32 → S → Option S) : Nat → Int32 → S → Option S
  | 0, _, s => some s
  | n + 1, i, s => obind (f i s) fun s' => forSO f n (i + 1) s'
theorem forSO_step {S : Type} {f : Int32 → S → Option S} {n : Nat} {i : Int32} {s z : S} (h : forSO f (n + 1) i s = some z) : ∃ y, f i s = some y ∧ forSO f n (i + 1) y = some z := obind_out h
def contG {S X : Type} (y : S ⊕ X) (k : S → S ⊕ X) : S ⊕ X := match y with
  | .inl s => k s
  | .inr x => .inr x
def forG {S X : Type} (f : Int32 → S → S ⊕ X) : Nat → Int32 → S → S ⊕ X
  | 0, _, s => .inl s
  | n + 1, i, s => contG (f i s) fun s' => forG f n (i + 1) s'
def mrg {S : Type} (z : S ⊕ S) : S := match z with
  | .inl s => s
  | .inr s => s
def mrg2 {S R : Type} (z : S ⊕ (S ⊕ R)) : S ⊕ R := match z with
  | .inl s => .inl s
  | .inr x => x
theorem forR_step {S X : Type} {f : Int32 → S → S ⊕ X} {n : Nat} {i : Int32} {s : S} {z : S ⊕ X} (h : forG f (n + 1) i s = z) : ∃ y, f i s = y ∧ contG y (fun s' => forG f n (i + 1) s') = z := ⟨_, rfl, h⟩
theorem forB_step {S : Type} {f : Int32 → S → S ⊕ S} {n : Nat} {i : Int32} {s z : S} (h : mrg (forG f (n + 1) i s) = z) : ∃ y, f i s = y ∧ mrg (contG y (fun s' => forG f n (i + 1) s')) = z := ⟨_, rfl, h⟩
theorem forBR_step {S R : Type} {f : Int32 → S → S ⊕ (S ⊕ R)} {n : Nat} {i : Int32} {s : S} {z : S ⊕ R} (h : mrg2 (forG f (n + 1) i s) = z) : ∃ y, f i s = y ∧ mrg2 (contG y (fun s' => forG f n (i + 1) s')) = z := ⟨_, rfl, h⟩
def contO {S X : Type} (y : S ⊕ X) (k : S → Option (S ⊕ X)) : Option (S ⊕ X) := match y with
  | .inl s => k s
  | .inr x => some (.inr x)
def forGO {S X : Type} (f : Int32 → S → Option (S ⊕ X)) : Nat → Int32 → S → Option (S ⊕ X)
  | 0, _, s => some (.inl s)
  | n + 1, i, s => obind (f i s) fun y => contO y fun s' => forGO f n (i + 1) s'
def omap {α β : Type} (g : α → β) (x : Option α) : Option β := match x with
  | none => none
  | some a => some (g a)
theorem forRO_step {S X : Type} {f : Int32 → S → Option (S ⊕ X)} {n : Nat} {i : Int32} {s : S} {z : S ⊕ X} (h : forGO f (n + 1) i s = some z) : ∃ y, f i s = some y ∧ contO y (fun s' => forGO f n (i + 1) s') = some z := obind_out h
theorem forBO_step {S : Type} {f : Int32 → S → Option (S ⊕ S)} {n : Nat} {i : Int32} {s z : S} (h : omap mrg (forGO f (n + 1) i s) = some z) : ∃ y, f i s = some y ∧ omap mrg (contO y (fun s' => forGO f n (i + 1) s')) = some z := by
  unfold forGO at h
  cases h1 : f i s with
  | none => rw [h1] at h; cases h
  | some y => rw [h1] at h; exact ⟨y, rfl, h⟩
theorem forBRO_step {S R : Type} {f : Int32 → S → Option (S ⊕ (S ⊕ R))} {n : Nat} {i : Int32} {s : S} {z : S ⊕ R} (h : omap mrg2 (forGO f (n + 1) i s) = some z) : ∃ y, f i s = some y ∧ omap mrg2 (contO y (fun s' => forGO f n (i + 1) s')) = some z := by
  unfold forGO at h
  cases h1 : f i s with
  | none => rw [h1] at h; cases h
  | some y => rw [h1] at h; exact ⟨y, rfl, h⟩
def contW {S X : Type} (y : S ⊕ X) (k : S → Option X) : Option X := match y with
  | .inl s => k s
  | .inr x => some x
def whl {S X : Type} (f : S → Option (S ⊕ X)) : Nat → S → Option X
  | 0, _ => none
  | n + 1, s => obind (f s) fun y => contW y fun s' => whl f n s'
theorem whl_step {S X : Type} {f : S → Option (S ⊕ X)} {n : Nat} {s : S} {z : X} (h : whl f (n + 1) s = some z) : ∃ y, f s = some y ∧ contW y (fun s' => whl f n s') = some z := obind_out h
/-- so many turns are enough for any loop -/
def FUEL : Nat := 20000
theorem mincp {a b : Nat} (ha : a < 6000) (hb : b < 6000) : ¬ (if Int32.ofNat b < Int32.ofNat a then Int32.ofNat b else Int32.ofNat a) < 0 ∧ (if Int32.ofNat b < Int32.ofNat a then Int32.ofNat b else Int32.ofNat a).toNatClampNeg ≤ b ∧ (if Int32.ofNat b < Int32.ofNat a then Int32.ofNat b else Int32.ofNat a).toNatClampNeg ≤ a := by
  have c1 : (Int32.ofNat a).toNatClampNeg = a := nI_clamp (n := a) (by omega)
  have c2 : (Int32.ofNat b).toNatClampNeg = b := nI_clamp (n := b) (by omega)
  have p1 : ¬ Int32.ofNat a < 0 := nI_pos (n := a) (by omega)
  have p2 : ¬ Int32.ofNat b < 0 := nI_pos (n := b) (by omega)
  by_cases h : Int32.ofNat b < Int32.ofNat a
  · rw [if_pos h, c2]
    rw [Int32.lt_iff_toInt_lt, nInt_ti ha, nInt_ti hb] at h
    exact ⟨p2, by omega, by omega⟩
  · rw [if_neg h, c1]
    rw [Int32.lt_iff_toInt_lt, nInt_ti ha, nInt_ti hb] at h
    exact ⟨p1, by omega, by omega⟩

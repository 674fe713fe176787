-- PURE STAGE: bits and sets (the first family begins with rows of kit/laws/BITS.to-paste)
def bt (x : Int32) (i : Nat) : Bool := x.toBitVec.getLsbD i
theorem b_ext {x y : Int32} (h : ∀ i, i < 32 → bt x i = bt y i) : x = y := Int32.toBitVec_inj.mp (BitVec.eq_of_getLsbD_eq (fun i hi => h i hi))
theorem b_or (x y : Int32) (i : Nat) : bt (x ||| y) i = (bt x i || bt y i) := by unfold bt; rw [Int32.toBitVec_or, BitVec.getLsbD_or]
theorem b_and (x y : Int32) (i : Nat) : bt (x &&& y) i = (bt x i && bt y i) := by unfold bt; rw [Int32.toBitVec_and, BitVec.getLsbD_and]
theorem b_xor (x y : Int32) (i : Nat) : bt (x ^^^ y) i = (bt x i ^^ bt y i) := by unfold bt; rw [Int32.toBitVec_xor, BitVec.getLsbD_xor]
theorem b_big {x : Int32} {i : Nat} (h : 32 ≤ i) : bt x i = false := BitVec.getLsbD_of_ge _ _ h
theorem b_255 (i : Nat) : bt 255 i = decide (i < 8) := by
  rcases Nat.lt_or_ge i 32 with h | h
  · exact (by decide +kernel : ∀ i, i < 32 → bt 255 i = decide (i < 8)) i h
  · rw [b_big h, decide_eq_false (by omega)]
theorem b_65535 (i : Nat) : bt 65535 i = decide (i < 16) := by
  rcases Nat.lt_or_ge i 32 with h | h
  · exact (by decide +kernel : ∀ i, i < 32 → bt 65535 i = decide (i < 16)) i h
  · rw [b_big h, decide_eq_false (by omega)]
theorem b_m1 : ∀ i, i < 32 → bt (-1) i = true := by decide +kernel
theorem b_0 (i : Nat) : bt 0 i = false := BitVec.getLsbD_zero
theorem s_l : ∀ n, n < 32 → ((nI n &&& 31).toBitVec.smod 32).toNat = n := by decide +kernel
theorem s_u : ∀ n, n < 32 → (((nI n).toUInt32 &&& Int32.toUInt32 31).toBitVec % 32).toNat = n := by decide +kernel
theorem b_shl (n : Nat) (hn : n < 32) (x : Int32) {i : Nat} (hi : i < 32) : bt (x <<< (nI n &&& 31)) i = (decide (n ≤ i) && bt x (i - n)) := by
  unfold bt
  rw [Int32.toBitVec_shiftLeft]
  show (x.toBitVec <<< ((nI n &&& 31).toBitVec.smod 32).toNat).getLsbD i = _
  rw [s_l n hn, BitVec.getLsbD_shiftLeft]
  rcases Nat.lt_or_ge i n with h | h
  · simp [h, Nat.not_le.mpr h]
  · simp [hi, h, Nat.not_lt.mpr h]
theorem b_ushr (n : Nat) (hn : n < 32) (x : Int32) (i : Nat) : bt ((x.toUInt32 >>> ((nI n).toUInt32 &&& Int32.toUInt32 31)).toInt32) i = bt x (n + i) := by
  show (x.toUInt32 >>> ((nI n).toUInt32 &&& Int32.toUInt32 31)).toBitVec.getLsbD i = x.toUInt32.toBitVec.getLsbD (n + i)
  rw [UInt32.toBitVec_shiftRight]
  show (x.toUInt32.toBitVec >>> (((nI n).toUInt32 &&& Int32.toUInt32 31).toBitVec % 32).toNat).getLsbD i = _
  rw [s_u n hn, BitVec.getLsbD_ushiftRight]
theorem b_sshr (n : Nat) (hn : n < 32) (x : Int32) {i : Nat} (hi : i < 32) : bt (x >>> (nI n &&& 31)) i = if n + i < 32 then bt x (n + i) else bt x 31 := by
  unfold bt
  rw [Int32.toBitVec_shiftRight]
  show (x.toBitVec.sshiftRight ((nI n &&& 31).toBitVec.smod 32).toNat).getLsbD i = _
  rw [s_l n hn, BitVec.getLsbD_sshiftRight, BitVec.msb_eq_getLsbD_last]
  simp [hi]
theorem b_shl8 (x : Int32) {i : Nat} (hi : i < 32) : bt (x <<< ((8 : Int32) &&& 31)) i = (decide (8 ≤ i) && bt x (i - 8)) := b_shl 8 (by omega) x hi
theorem b_shl16 (x : Int32) {i : Nat} (hi : i < 32) : bt (x <<< ((16 : Int32) &&& 31)) i = (decide (16 ≤ i) && bt x (i - 16)) := b_shl 16 (by omega) x hi
theorem b_shl24 (x : Int32) {i : Nat} (hi : i < 32) : bt (x <<< ((24 : Int32) &&& 31)) i = (decide (24 ≤ i) && bt x (i - 24)) := b_shl 24 (by omega) x hi
theorem b_sshr8 (x : Int32) {i : Nat} (hi : i < 32) : bt (x >>> ((8 : Int32) &&& 31)) i = if 8 + i < 32 then bt x (8 + i) else bt x 31 := b_sshr 8 (by omega) x hi
/-! ===== nI under and, xor, >>>, one bit, 65535 ===== -/
theorem b_1 : ∀ i, i < 32 → bt 1 i = decide (i = 0) := by decide +kernel
theorem tb_eq (x : Int32) {k : Nat} (hk : k < 32) : ((x >>> (nI k &&& 31)) &&& 1) = if bt x k then 1 else 0 := by
  apply b_ext
  intro i hi
  rw [b_and, b_sshr k hk x hi, b_1 i hi]
  by_cases h0 : i = 0
  · subst h0
    rw [if_pos (by omega), Nat.add_zero]
    cases h : bt x k
    · rw [if_neg (by decide), b_0]; rfl
    · rw [if_pos rfl, b_1 0 (by decide)]; rfl
  · rw [decide_eq_false h0, Bool.and_false]
    cases h : bt x k
    · rw [if_neg (by decide), b_0]
    · rw [if_pos rfl, b_1 i hi, decide_eq_false h0]
theorem p_con {σ : Mem} {x : Int32} {k : Nat} (hk : k < 32) : F_W_contains σ x (nI k) = if bt x k then 1 else 0 := by
  unfold F_W_contains
  rw [tb_eq x hk]
  cases bt x k <;> rfl
theorem p_isOf {σ : Mem} {x : Int32} {k : Nat} (hk : k < 32) : F_M_isOf σ x (nI k) = if bt x k then 1 else 0 := by
  unfold F_M_isOf
  rw [tb_eq x hk]
  cases bt x k <;> rfl
theorem p_ruined {σ : Mem} {t k : Nat} (hk : k < 32) : F_Town_isRuined σ t (nI k) = if bt (σ t 9) k then 1 else 0 := by
  unfold F_Town_isRuined
  rw [tb_eq _ hk]
  cases bt (σ t 9) k <;> rfl
theorem p_over {σ : Mem} {t k : Nat} (hk : k < 32) : F_Town_isOver σ t (nI k) = if bt (σ t 11) k then 1 else 0 := by
  unfold F_Town_isOver
  rw [tb_eq _ hk]
  cases bt (σ t 11) k <;> rfl
theorem b_sing {q i : Nat} (hq : q < 32) (hi : i < 32) : bt ((1 : Int32) <<< (nI q &&& 31)) i = decide (i = q) := by
  rw [b_shl q hq 1 hi]
  by_cases h : q ≤ i
  · rw [b_1 (i - q) (by omega), decide_eq_true h, Bool.true_and]
    by_cases h2 : i = q
    · rw [decide_eq_true h2, decide_eq_true (by omega)]
    · rw [decide_eq_false h2, decide_eq_false (by omega)]
  · rw [decide_eq_false h, Bool.false_and, decide_eq_false (by omega)]
theorem b_put {x : Int32} {q i : Nat} (hq : q < 32) (hi : i < 32) : bt (x ||| ((1 : Int32) <<< (nI q &&& 31))) i = (bt x i || decide (i = q)) := by rw [b_or, b_sing hq hi]
theorem b_not {x : Int32} {i : Nat} (hi : i < 32) : bt (x ^^^ (-1)) i = !bt x i := by rw [b_xor, b_m1 i hi]; cases bt x i <;> rfl
/-- a number without bits from n on -/
theorem b_small {x : Int32} {n : Nat} (h : ∀ i, n ≤ i → i < 32 → bt x i = false) : ∃ m, m < 2 ^ n ∧ m < 2 ^ 32 ∧ x = nI m := by
  refine ⟨x.toBitVec.toNat, Nat.lt_pow_two_of_testBit _ fun i hi => ?_, x.toBitVec.isLt, Int32.toBitVec_inj.mp (by show _ = BitVec.ofNat 32 _; simp)⟩
  by_cases h2 : i < 32
  · exact h i hi h2
  · exact b_big (x := x) (by omega)
theorem b_nI {m i : Nat} (hm : m < 2 ^ 32) : bt (nI m) i = m.testBit i := by
  show (BitVec.ofNat 32 m).getLsbD i = _
  rw [BitVec.getLsbD_ofNat]
  by_cases h : i < 32
  · simp [h]
  · simp [h]
    exact Nat.testBit_lt_two_pow (Nat.lt_of_lt_of_le hm (Nat.pow_le_pow_right (by decide) (by omega)))
/-- the set of those below n for whom c holds -/
def sOf (c : Nat → Bool) (n : Nat) : Int32 := itr (fun k s => if c k then s ||| ((1 : Int32) <<< (nI k &&& 31)) else s) n 0
theorem sOf_bt (c : Nat → Bool) : ∀ {n i : Nat}, n ≤ 32 → i < 32 → bt (sOf c n) i = (decide (i < n) && c i) := by
  intro n
  induction n with
  | zero => intro i _ _; show bt 0 i = _; rw [b_0]; rfl
  | succ n ih =>
    intro i hn hi
    show bt (if c n then sOf c n ||| _ else sOf c n) i = _
    by_cases hc : c n = true
    · rw [if_pos hc, b_put (by omega) hi, ih (by omega) hi]
      by_cases h1 : i = n
      · subst h1
        rw [hc]; simp
      · rw [decide_eq_false h1, Bool.or_false]
        by_cases h2 : i < n
        · rw [decide_eq_true h2, decide_eq_true (by omega)]
        · rw [decide_eq_false h2, decide_eq_false (by omega)]
    · rw [if_neg hc, ih (by omega) hi]
      by_cases h1 : i = n
      · subst h1
        cases h3 : c i
        · simp
        · exact absurd h3 hc
      · by_cases h2 : i < n
        · rw [decide_eq_true h2, decide_eq_true (by omega)]
        · rw [decide_eq_false h2, decide_eq_false (by omega)]
theorem sOf_congr {c d : Nat → Bool} {n : Nat} (h : ∀ k, k < n → c k = d k) : sOf c n = sOf d n := by
  unfold sOf
  exact itr_congr fun k hk => by rw [h k hk]
theorem sOf_small (c : Nat → Bool) {n : Nat} (hn : n ≤ 8) : ∃ m, m < 256 ∧ sOf c n = nI m := by
  obtain ⟨m, h1, -, h2⟩ := b_small (x := sOf c n) (n := n) (fun i hi h => by rw [sOf_bt c (by omega) h, decide_eq_false (by omega)]; rfl)
  exact ⟨m, Nat.lt_of_lt_of_le h1 (Nat.pow_le_pow_right (by decide) hn), h2⟩
def z0 : Mem := fun _ _ => 0
theorem bits256 : ∀ m, m < 256 → F_M_bits z0 (nI m) = F_Int_bitCount_0f7a4 z0 (nI m) := by decide +kernel
theorem bits_eq {σ σ' : Mem} {x : Int32} (h : ∃ m, m < 256 ∧ x = nI m) : F_M_bits σ' x = F_Int_bitCount_0f7a4 σ x := by
  obtain ⟨m, hm, rfl⟩ := h
  exact bits256 m hm
theorem cnt256 : ∀ m, m < 256 → ∃ n, n ≤ 8 ∧ F_Int_bitCount_0f7a4 z0 (nI m) = nI n := by
  have h : ∀ m, m < 256 → (List.range 9).any (fun n => decide (F_Int_bitCount_0f7a4 z0 (nI m) = nI n)) = true := by decide +kernel
  intro m hm
  obtain ⟨n, h1, h2⟩ := List.any_eq_true.mp (h m hm)
  exact ⟨n, by have := List.mem_range.mp h1; omega, of_decide_eq_true h2⟩
theorem if10 {X : Type} (b : Bool) (x y : X) : (if (if b = true then (1 : Int32) else 0) = 0 then x else y) = if b = true then y else x := by cases b <;> rfl
theorem if11 {X : Type} (b : Bool) (x y : X) : (if (if b = true then (1 : Int32) else 0) = 1 then x else y) = if b = true then x else y := by cases b <;> rfl

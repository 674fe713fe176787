-- PURE STAGE: any call
theorem INV.next {k : Nat} {σ : Mem} (h : INV k σ) : INV (k + 1) σ := by
  obtain ⟨g, P, M, C, hg⟩ := h
  exact ⟨g, P, M, C, hg.to (Nat.le_succ k) (fun _ _ _ => rfl) (fun _ _ _ => rfl)⟩
set_option maxRecDepth 10000 in
theorem step_all {k : Nat} {σ : Mem} (hk : k < 600) (h : INV k σ) (o a1 a2 a3 a4 a5 : Int32) : ∃ σ', stepF o a1 a2 a3 a4 a5 σ = some σ' ∧ INV (k + 1) σ' := by
  unfold stepF
  by_cases c0 : o = 0
  · rw [if_pos c0]
    exact op0 h a1 a2 a3 a4 a5
  rw [if_neg c0]
  by_cases c1 : o = 1
  · rw [if_pos c1]
    exact op1 h a1 a2 a3 a4 a5
  rw [if_neg c1]
  by_cases c2 : o = 2
  · rw [if_pos c2]
    exact op2 h a1 a2 a3 a4 a5
  rw [if_neg c2]
  by_cases c3 : o = 3
  · rw [if_pos c3]
    exact op3 h a1 a2 a3 a4 a5
  rw [if_neg c3]
  by_cases c4 : o = 4
  · rw [if_pos c4]
    exact op4 h a1 a2 a3 a4 a5
  rw [if_neg c4]
  by_cases c5 : o = 5
  · rw [if_pos c5]
    exact op5 h a1 a2 a3 a4 a5
  rw [if_neg c5]
  by_cases c6 : o = 6
  · rw [if_pos c6]
    exact op6 h a1 a2 a3 a4 a5
  rw [if_neg c6]
  by_cases c7 : o = 7
  · rw [if_pos c7]
    exact op7 h a1 a2 a3 a4 a5
  rw [if_neg c7]
  by_cases c8 : o = 8
  · rw [if_pos c8]
    exact op8 h a1 a2 a3 a4 a5
  rw [if_neg c8]
  by_cases c9 : o = 9
  · rw [if_pos c9]
    exact op9 h a1 a2 a3 a4 a5
  rw [if_neg c9]
  by_cases c10 : o = 10
  · rw [if_pos c10]
    exact op10 h a1 a2 a3 a4 a5
  rw [if_neg c10]
  by_cases c11 : o = 11
  · rw [if_pos c11]
    exact op11 h a1 a2 a3 a4 a5
  rw [if_neg c11]
  by_cases c12 : o = 12
  · rw [if_pos c12]
    exact op12 h a1 a2 a3 a4 a5
  rw [if_neg c12]
  by_cases c13 : o = 13
  · rw [if_pos c13]
    exact op13 h a1 a2 a3 a4 a5
  rw [if_neg c13]
  by_cases c14 : o = 14
  · rw [if_pos c14]
    exact op14 h hk a1 a2 a3 a4 a5
  rw [if_neg c14]
  by_cases c15 : o = 15
  · rw [if_pos c15]
    exact op15 h a1 a2 a3 a4 a5
  rw [if_neg c15]
  by_cases c16 : o = 16
  · rw [if_pos c16]
    exact op16 h a1 a2 a3 a4 a5
  rw [if_neg c16]
  by_cases c17 : o = 17
  · rw [if_pos c17]
    exact op17 h a1 a2 a3 a4 a5
  rw [if_neg c17]
  by_cases c18 : o = 18
  · rw [if_pos c18]
    exact op18 h a1 a2 a3 a4 a5
  rw [if_neg c18]
  by_cases c19 : o = 19
  · rw [if_pos c19]
    exact op19 h a1 a2 a3 a4 a5
  rw [if_neg c19]
  by_cases c20 : o = 20
  · rw [if_pos c20]
    exact op20 h a1 a2 a3 a4 a5
  rw [if_neg c20]
  by_cases c21 : o = 21
  · rw [if_pos c21]
    exact op21 h a1 a2 a3 a4 a5
  rw [if_neg c21]
  by_cases c22 : o = 22
  · rw [if_pos c22]
    exact op22 h a1 a2 a3 a4 a5
  rw [if_neg c22]
  by_cases c23 : o = 23
  · rw [if_pos c23]
    exact op23 h a1 a2 a3 a4 a5
  rw [if_neg c23]
  by_cases c24 : o = 24
  · rw [if_pos c24]
    exact op24 h a1 a2 a3 a4 a5
  rw [if_neg c24]
  by_cases c25 : o = 25
  · rw [if_pos c25]
    exact op25 h a1 a2 a3 a4 a5
  rw [if_neg c25]
  by_cases c26 : o = 26
  · rw [if_pos c26]
    exact op26 h a1 a2 a3 a4 a5
  rw [if_neg c26]
  by_cases c27 : o = 27
  · rw [if_pos c27]
    exact op27 h a1 a2 a3 a4 a5
  rw [if_neg c27]
  by_cases c28 : o = 28
  · rw [if_pos c28]
    exact op28 h a1 a2 a3 a4 a5
  rw [if_neg c28]
  by_cases c29 : o = 29
  · rw [if_pos c29]
    exact op29 h a1 a2 a3 a4 a5
  rw [if_neg c29]
  by_cases c30 : o = 30
  · rw [if_pos c30]
    exact op30 h a1 a2 a3 a4 a5
  rw [if_neg c30]
  by_cases c31 : o = 31
  · rw [if_pos c31]
    exact op31 h a1 a2 a3 a4 a5
  rw [if_neg c31]
  by_cases c32 : o = 32
  · rw [if_pos c32]
    exact op32 h a1 a2 a3 a4 a5
  rw [if_neg c32]
  by_cases c33 : o = 33
  · rw [if_pos c33]
    exact op33 h a1 a2 a3 a4 a5
  rw [if_neg c33]
  by_cases c34 : o = 34
  · rw [if_pos c34]
    exact op34 h a1 a2 a3 a4 a5
  rw [if_neg c34]
  by_cases c35 : o = 35
  · rw [if_pos c35]
    exact op35 h hk a1 a2 a3 a4 a5
  rw [if_neg c35]
  by_cases c36 : o = 36
  · rw [if_pos c36]
    exact op36 h hk a1 a2 a3 a4 a5
  rw [if_neg c36]
  by_cases c37 : o = 37
  · rw [if_pos c37]
    exact op37 h a1 a2 a3 a4 a5
  rw [if_neg c37]
  by_cases c38 : o = 38
  · rw [if_pos c38]
    exact op38 h a1 a2 a3 a4 a5
  rw [if_neg c38]
  by_cases c39 : o = 39
  · rw [if_pos c39]
    exact op39 h a1 a2 a3 a4 a5
  rw [if_neg c39]
  by_cases c40 : o = 40
  · rw [if_pos c40]
    exact op40 h a1 a2 a3 a4 a5
  rw [if_neg c40]
  by_cases c41 : o = 41
  · rw [if_pos c41]
    exact op41 h a1 a2 a3 a4 a5
  rw [if_neg c41]
  by_cases c42 : o = 42
  · rw [if_pos c42]
    exact op42 h a1 a2 a3 a4 a5
  rw [if_neg c42]
  by_cases c43 : o = 43
  · rw [if_pos c43]
    exact op43 h a1 a2 a3 a4 a5
  rw [if_neg c43]
  exact ⟨σ, rfl, h.next⟩

-- PURE STAGE: the law's text: codes and their value, class and reference side by side
/-- what a code stands for, as the reference has it -/
def vS (s : Mem) (c : Int32) : Int32 := if c = 1000 then s 339 0 else if c = 1001 then s 339 1 else if c = 1002 then s 339 2 else if c = 1003 then s 339 3 else if c = 1004 then s 339 4 else if c = 1005 then s 339 5 else if c = 1006 then (if 0 < s 339 3 then 1 else 0) else if c = 1007 then s 333 15 &&& 1 else c
def isb (x : Int32) : Prop := x = 0 ∨ x = 1
def VG (v : Int32 → Int32) : Prop := isb (v 1006) ∧ isb (v 1007)
def stp (v : Int32 → Int32) (c : Int32) (S : List Int32) : Option (List Int32) := if c < 1008 then (if S.length < 64 then some (v c :: S) else none) else match S with
  | [] => none
  | a :: R => if c = 1013 then some ((1 - a) :: R) else match R with
    | [] => none
    | e :: R2 => some (F_Law_joined z0 c e a :: R2)
def rnC (v : Int32 → Int32) : List Int32 → List Int32 → Option (List Int32)
  | [], S => some S
  | c :: cs, S => obind (stp v c S) fun S1 => rnC v cs S1
theorem rnC_app {v : Int32 → Int32} : ∀ (c1 c2 S : List Int32), rnC v (c1 ++ c2) S = obind (rnC v c1 S) fun S1 => rnC v c2 S1 := by
  intro c1
  induction c1 with
  | nil => intro c2 S; rfl
  | cons c c1 ih =>
    intro c2 S
    show obind (stp v c S) (fun S1 => rnC v (c1 ++ c2) S1) = obind (obind (stp v c S) fun S1 => rnC v c1 S1) fun S1 => rnC v c2 S1
    cases stp v c S with
    | none => rfl
    | some S1 => exact ih c2 S1
theorem rnC_to {v : Int32 → Int32} {c1 c2 S S1 S2 : List Int32} (h1 : rnC v c1 S = some S1) (h2 : rnC v c2 S1 = some S2) : rnC v (c1 ++ c2) S = some S2 := by
  rw [rnC_app, h1, ob_s, h2]
theorem rnC_push {v : Int32 → Int32} {c : Int32} {S : List Int32} (hc : c < 1008) (hS : S.length < 64) : rnC v [c] S = some (v c :: S) := by
  show obind (stp v c S) (fun S1 => some S1) = _
  unfold stp
  rw [if_pos hc, if_pos hS, ob_s]
theorem rnC_not {v : Int32 → Int32} {a : Int32} {S : List Int32} : rnC v [1013] (a :: S) = some ((1 - a) :: S) := by
  show obind (stp v 1013 (a :: S)) (fun S1 => some S1) = _
  unfold stp
  rw [if_neg (by decide)]
  rfl
theorem rnC_join {v : Int32 → Int32} {c e a : Int32} {S : List Int32} (hc : ¬ c < 1008) (hn : c ≠ 1013) : rnC v [c] (a :: e :: S) = some (F_Law_joined z0 c e a :: S) := by
  show obind (stp v c (a :: e :: S)) (fun S1 => some S1) = _
  unfold stp
  rw [if_neg hc]
  dsimp only
  rw [if_neg hn, ob_s]
/-- the codes of the draft -/
def LWd (cs : List Int32) (σ : Mem) : Prop := σ 85 4 = nI cs.length ∧ ∀ k, k < cs.length → σ 90 k = cs.getD k 0
theorem LWd.add {cs : List Int32} {σ : Mem} (h : LWd cs σ) (hl : cs.length < 400) (c : Int32) : LWd (cs ++ [c]) (F_Law_addCode σ 85 c) ∧ ∀ q j, (q ≠ 85 ∨ j ≠ 4) → q ≠ 90 → F_Law_addCode σ 85 c q j = σ q j := by
  have e : F_Law_addCode σ 85 c = up (up σ 90 cs.length c) 85 4 (nI (cs.length + 1)) := by
    unfold F_Law_addCode
    rw [h.1, if_neg (nI_pos (by omega)), if_pos (show nI cs.length < 400 from nI_lt (b := 400) hl (by omega)), bind_T, bind_T, p_cl (by omega), up_d (by omega), h.1, nI_1]
  rw [e]
  refine ⟨⟨by rw [up_s, List.length_append]; rfl, fun k hk => ?_⟩, fun q j h1 h2 => by rw [up_d (by omega), up_d (by omega)]⟩
  rw [List.length_append] at hk
  have hk : k < cs.length + 1 := hk
  rw [up_d (by omega)]
  by_cases ek : k = cs.length
  · subst ek
    rw [up_s]
    simp [List.getD]
  · rw [up_d (by omega), h.2 k (by omega)]
    have : k < cs.length := by omega
    simp [List.getD, List.getElem?_append_left this]
theorem LWd.to {cs : List Int32} {σ σ1 : Mem} (h : LWd cs σ) (e : ∀ q j, (q ≠ 78 ∨ j < 7 ∨ 11 < j) → σ1 q j = σ q j) : LWd cs σ1 := ⟨(e 85 4 (by omega)).trans h.1, fun k hk => (e 90 k (by omega)).trans (h.2 k hk)⟩
theorem CTk.to {t : Nat} {b : Nat → Nat} {n T i : Nat} {σ σ1 : Mem} (h : CTk t b n T i σ) (e : ∀ q j, t ≤ q → q ≤ t + 6 → σ1 q j = σ q j) : CTk t b n T i σ1 := by
  obtain ⟨⟨⟨a1, a2, a3, a4⟩, ⟨b1, b2⟩, h3, h4, h5⟩, h6, h7, h8, h9⟩ := h
  refine ⟨⟨⟨a1, (e t 6 (by omega) (by omega)).trans a2, fun j hj => (e _ j (by omega) (by omega)).trans (a3 j hj), a4⟩, ⟨(e t 5 (by omega) (by omega)).trans b1, fun u hu => ?_⟩, h3, h4, h5⟩, ⟨(e t 7 (by omega) (by omega)).trans h6.1, (e t 12 (by omega) (by omega)).trans h6.2⟩, (e t 9 (by omega) (by omega)).trans h7, fun hi => ?_, fun hi => ?_⟩
  · obtain ⟨w1, w2, w3, w4, w5⟩ := b2 u hu
    exact ⟨w1, (e _ u (by omega) (by omega)).trans w2, (e _ u (by omega) (by omega)).trans w3, (e _ u (by omega) (by omega)).trans w4, (e _ u (by omega) (by omega)).trans w5⟩
  · obtain ⟨w1, w2, w3⟩ := h8 hi
    exact ⟨(e t 8 (by omega) (by omega)).trans w1, (e t 10 (by omega) (by omega)).trans w2, (e t 11 (by omega) (by omega)).trans w3⟩
  · obtain ⟨w1, w2, w3⟩ := h9 hi
    exact ⟨(e t 8 (by omega) (by omega)).trans w1, (e t 10 (by omega) (by omega)).trans w2, (e t 11 (by omega) (by omega)).trans w3⟩
/-- the class, before a thing of the law's text, with codes so far -/
def CLw (b : Nat → Nat) (n T i : Nat) (cs : List Int32) (σ : Mem) : Prop := CTk 78 b n T i σ ∧ LWd cs σ
def FC (σ σ1 : Mem) : Prop := ∀ q j, (q ≠ 78 ∨ j < 7 ∨ 12 < j) → (q ≠ 85 ∨ j ≠ 4) → q ≠ 90 → σ1 q j = σ q j
theorem FC.rfl' {σ : Mem} : FC σ σ := fun _ _ _ _ _ => rfl
theorem FC.trans {σ σ1 σ2 : Mem} (h1 : FC σ σ1) (h2 : FC σ1 σ2) : FC σ σ2 := fun q j a1 a2 a3 => (h2 q j a1 a2 a3).trans (h1 q j a1 a2 a3)
/-- the reference, at the same thing -/
def SN (b : Nat → Nat) (n T i d : Nat) (s : Mem) : Prop := ∃ a, RP b n a s ∧ skF b n a = posI b n i ∧ s 333 12 = -1 ∧ s 333 13 = nI d
def FR (s s1 : Mem) : Prop := ∀ q j, (q ≠ 333 ∨ (j ≠ 11 ∧ j ≠ 12 ∧ j ≠ 13)) → s1 q j = s q j
theorem FR.rfl' {σ : Mem} : FR σ σ := fun _ _ _ => rfl
theorem FR.trans {σ σ1 σ2 : Mem} (h1 : FR σ σ1) (h2 : FR σ1 σ2) : FR σ σ2 := fun q j a1 => (h2 q j a1).trans (h1 q j a1)
theorem FR.up {s : Mem} {j : Nat} {v : Int32} (h : j = 11 ∨ j = 12 ∨ j = 13) : FR s (up s 333 j v) := fun q k hk => up_d (by omega)
theorem FR.vs {s s1 : Mem} (h : FR s s1) : vS s1 = vS s := by
  funext c
  unfold vS
  rw [h 339 0 (by omega), h 339 1 (by omega), h 339 2 (by omega), h 339 3 (by omega), h 339 4 (by omega), h 339 5 (by omega), h 333 15 (by omega)]
/-- the reference, after a fault -/
def FNt (b : Nat → Nat) (n w K : Nat) (s : Mem) : Prop := s 333 12 = nI w ∧ w ≤ n ∧ ∃ a, a ≤ n + K ∧ s 333 11 = nI a ∧ RP b n 0 (up s 333 11 (nI 0))
theorem FNt.ne {b : Nat → Nat} {n w K : Nat} {s : Mem} (h : FNt b n w K s) : s 333 12 ≠ -1 := by
  obtain ⟨h1, h2, a, -, -, h3⟩ := h
  rw [h1]
  exact m1_ne w (by have := h3.1; omega)
theorem FNt.mono {b : Nat → Nat} {n w K K' : Nat} {s : Mem} (h : FNt b n w K s) (hK : K ≤ K') : FNt b n w K' s := by
  obtain ⟨h1, h2, a, h3, h4⟩ := h
  exact ⟨h1, h2, a, by omega, h4⟩
theorem RP.any {b : Nat → Nat} {n a : Nat} {s s1 : Mem} (h : RP b n a s) {a' : Nat} (ha : a' ≤ n) (e : FR s s1) (e11 : s1 333 11 = nI a') : RP b n a' s1 := by
  obtain ⟨h1, h2, h3, h4, h5, h6⟩ := h
  exact ⟨h1, ha, (e 333 10 (by omega)).trans h3, e11, h5, h6.to (e 333 9 (by omega)) (fun j => e 338 j (by omega)) (fun j _ _ => e 334 j (by omega)) h1⟩
theorem SN.flt {b : Nat → Nat} {n T i d K : Nat} {s : Mem} (h : SN b n T i d s) {s1 : Mem} {w a : Nat} (hw : w ≤ n) (ha : a ≤ n + K) (e : FR s s1) (e11 : s1 333 11 = nI a) (e12 : s1 333 12 = nI w) : FNt b n w K s1 := by
  obtain ⟨a0, h1, -, -, -⟩ := h
  exact ⟨e12, hw, a, ha, e11, h1.any (Nat.zero_le n) (e.trans (FR.up (by omega))) up_s⟩
section LPS
variable {b : Nat → Nat} {n T i d : Nat} {σ s : Mem} {cs : List Int32}
theorem SN.sy (h : SN b n T i d s) (hc : CTk 78 b n T i σ) : ∃ a, SY 78 b n T i a σ s := by
  obtain ⟨a, h1, h2, h3, h4⟩ := h
  exact ⟨a, hc, h1, h2, h3⟩
theorem SN.at_ (h : SN b n T i d s) {i' a' : Nat} (ha : a' ≤ n) (e : skF b n a' = posI b n i') : SN b n T i' d (up s 333 11 (nI a')) := by
  obtain ⟨a, h1, h2, h3, h4⟩ := h
  exact ⟨a', h1.at_ ha, e, by rw [up_d (by omega)]; exact h3, by rw [up_d (by omega)]; exact h4⟩
theorem SN.here (h : SN b n T i d s) (hc : CTk 78 b n T i σ) : SN b n T i d (up s 333 11 (nI (posI b n i))) := by
  obtain ⟨a, hs⟩ := h.sy hc
  have := skF_sk (b := b) hs.2.1.2.1
  rw [hs.2.2.1] at this
  exact h.at_ hc.pos.1 this
theorem SN.nxt (h : SN b n T i d s) (hc : CTk 78 b n T i σ) (hi : i < T) : SN b n T (i + 1) d (up s 333 11 (nI (stF b n (posI b n i)))) := h.at_ (stF_is (hc.pos.2.mpr hi)).2 rfl
/-- a word or sign where the class sees one -/
theorem sn_says (h : SN b n T i d s) (hc : CTk 78 b n T i σ) {v : Nat} (hv : v < 22) :
    (σ 78 8 = nI v → F_M_says s v = some (up s 333 11 (nI (stF b n (posI b n i))), 1)) ∧
    (σ 78 8 ≠ nI v → F_M_says s v = some (up s 333 11 (nI (posI b n i)), 0)) := by
  obtain ⟨a, hs⟩ := h.sy hc
  exact sy_says hs hv
theorem sn_sign (h : SN b n T i d s) (hc : CTk 78 b n T i σ) {k : Nat} (hk : k < 6) :
    F_M_isSign s (nI (signs.getD k 0)) = some (up s 333 11 (nI (posI b n i)), if σ 78 8 = nI (22 + k) then 1 else 0) ∧ (σ 78 8 = nI (22 + k) → i < T ∧ stF b n (posI b n i) = posI b n i + 1) := by
  obtain ⟨a, hs⟩ := h.sy hc
  exact sy_sign hs hk
theorem CTk.lt (hc : CTk 78 b n T i σ) {v : Nat} (hv : v < 28) (e : σ 78 8 = nI v) : i < T := hc.pos.2.mp ((hc.kind (v := v) hv).mp e).1
/-- the class goes on -/
theorem CLw.next (h : CLw b n T i cs σ) (hi : i < T) : ∃ σ1, F_Text_advance σ 78 = some σ1 ∧ CLw b n T (i + 1) cs σ1 ∧ FC σ σ1 := by
  obtain ⟨⟨h1, h2, h3, h4, h5⟩, h7, -⟩ := h.1
  obtain ⟨σ1, e1, e2, e3⟩ := c_adv (i := i + 1) h1 h2 h3 h4 (by omega) (by rw [h7.1, nI_1]) h7.2
  exact ⟨σ1, e1, ⟨e2, h.2.to e3⟩, fun q j a1 a2 a3 => e3 q j (by omega)⟩
theorem CLw.add (h : CLw b n T i cs σ) (hl : cs.length < 400) (c : Int32) : CLw b n T i (cs ++ [c]) (F_Law_addCode σ 85 c) ∧ FC σ (F_Law_addCode σ 85 c) := by
  obtain ⟨e1, e2⟩ := h.2.add hl c
  exact ⟨⟨h.1.to fun q j h1 h2 => e2 q j (by omega) (by omega), e1⟩, fun q j a1 a2 a3 => e2 q j a2 a3⟩
theorem addCode_fr (σ : Mem) (c : Int32) : FC σ (F_Law_addCode σ 85 c) ∧ F_Law_addCode σ 85 c 78 12 = σ 78 12 := by
  have e : ∀ q j, (q ≠ 85 ∨ j ≠ 4) → q ≠ 90 → F_Law_addCode σ 85 c q j = σ q j := fun q j h1 h2 => by
    unfold F_Law_addCode
    split
    · rfl
    · split
      · rw [bind_T, bind_T, up_d (by omega), up_d (by omega)]
      · rfl
  exact ⟨fun q j a1 a2 a3 => e q j a2 a3, e 78 12 (by omega) (by omega)⟩
theorem FC.ref {σ : Mem} {v : Int32} : FC σ (up σ 78 12 v) := fun q j a1 a2 a3 => up_d (by omega)
theorem CLw.in31 (h : CLw b n T i cs σ) : inb (σ 78 8) 31 = true := by
  obtain ⟨k, hk, ek⟩ := h.1.in31
  rw [ek]
  exact p_inb hk (by decide)
end LPS

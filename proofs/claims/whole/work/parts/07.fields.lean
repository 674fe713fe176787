section FIELDS
variable {p : Program} {l : Launch} {e : Env} {R : Room} {s : State} {m : MethodId} {args : Array Value} {below : List Frame} {meth : Method} {c : Code} {Γ : Gm} {D : va_G} {s0 : State} {cells slots : Nat} {Q : State → Prop} {own : String} {cc : ByteArray} {nL : Nat} {σ : Mem} {pc : Nat} {lv : List (Option Value)} {st : List Value} {Pst : Option Value → Mem → Prop}
theorem ge_Row_cells (X : Cx p l s m args meth c Γ D s0 own cc nL) {idx : Nat} {r n : Nat} (hr9 : isRow r n) (hl : Cond.fieldLink own idx RX6 "cells" "[I" ∈ lwG) (hd : decode cc pc = .ok (.getfield idx, 3)) (kk : E p l e R s m args below meth c Γ D cells slots Q σ (pc + 3) lv (.ref (Γ.1 + (r + 1)) :: st)) : E p l e R s m args below meth c Γ D cells slots Q σ pc lv (.ref (Γ.1 + r) :: st) :=
  e_getf X (k := 0) (ent_lt hr9.1) (ent_at hr9.1 _) (rfl : vCl[6]? = some (RX6, TX6, 1)) uin_X6 (by decide) hl (Or.inl rfl) rfl hd kk
end FIELDS

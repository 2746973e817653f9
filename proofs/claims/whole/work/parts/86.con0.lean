/-! ===== constructors: rows ===== -/
def wsc (y : MethodName) (b : ByteArray) : List Cond := .code y b 1 none :: tb
theorem gi {Ts : List Cond} {y : MethodName} {b : ByteArray} (hT : ∀ w ∈ tb, w ∈ Ts) (hc : (Cond.code y b 1 none) ∈ tb) : GoodIn Ts (wsc y b) := fun w hw => by
  have h2 : w ∈ tb := by
    rcases List.mem_cons.mp hw with rfl | h
    · exact hc
    · exact h
  exact ⟨hT w h2, good_of_word (tb_good h2)⟩
section CN
variable {p : Program} {l : Launch} {e : Env} {R : Room} {s : State} {m : MethodId} {args : Array Value} {below : List Frame} {meth : Method} {c : Code} {cells slots : Nat} {Q : State → Prop} {cc : ByteArray}
theorem va_newG {D : va_G} {cl : List vw_C} {tys : List (ClassId × FieldType)} {ws : va_W} {H0 H : Heap} {locs : List Loc} {A : Nat → Prop} {pc : Nat} {ls : Array Slot} {rest : List Value} (hexec : p.tables.exec = Jvm.exec) (hb : c.code = cc) {atype : ArrayType} (harr : (Cond.arrayClass (newarray.typeOf atype)).before args s = true) {ty : FieldType} (hty : newarray.typeOf atype = ty) (hno : ∀ C, ty ≠ .object C) (hK : va_K D cl tys s) (hP : va_P D cl ws H) (hD : va_D A ws) (hS : va_S A H0 H locs) (hA : ∀ q : Nat, H0.size ≤ q → A q) {t0 : Nat} {cG : ClassId} (ht : tys[t0]? = some (cG, ty))
    {n : Int32} {N' : Nat} {a0 : vp_A} (ha : ∀ cA : ClassId, vp_cell cA a0 = arrV cA N' (fun _ => defaultValue ty)) (hn : ¬ n < 0) (hN : n.toNatClampNeg = N') (hbytes : N' * componentBytes ty ≤ 536870912) (hcells : cells + 1 ≤ R.cells) (hslots : slots + N' ≤ R.slots) (hdg : decode cc pc = .ok (.newarray atype, 2))
    (kk : ∀ (q : Nat) (H1 : Heap), va_P D cl (ws ++ [(q, .inl (cG, a0))]) H1 → va_D A (ws ++ [(q, .inl (cG, a0))]) → va_S A H0 H1 locs → W p l e R s m args below meth c H1 locs (cells + 1) (slots + N') Q (F0 m (pc + 2) ls (.ref q :: rest))) : W p l e R s m args below meth c H locs cells slots Q (F0 m pc ls (.int n :: rest)) := by
  refine va_newa hexec hb harr hty hK hP hD hS hA ha hn hN hbytes hcells hslots hdg (fun q cA H1 hK1 hP1 hD1 hS1 => ?_)
  have e1 : va_RA s cA ty := (hK1.2 tys.length (cA, ty) (by simp)).2
  have e2 : va_RA s cG ty := (hK.2 t0 (cG, ty) ht).2
  have ec : cA = cG := by
    cases ty <;> first | exact absurd rfl (hno _) | (simp only [va_RA] at e1 e2; rw [e1] at e2; exact Option.some.inj e2)
  subst ec
  exact kk q H1 hP1 hD1 hS1
end CN

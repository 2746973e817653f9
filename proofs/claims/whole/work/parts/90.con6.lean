/-! ===== a new row put into a field of the object that is made ===== -/
section CS
variable {p : Program} {l : Launch} {e : Env} {R : Room} {s : State} {m : MethodId} {args : Array Value} {below : List Frame} {meth : Method} {c : Code} {cells slots : Nat} {Q : State → Prop} {cc : ByteArray} {D : va_G} {cl : List vw_C} {tys : List (ClassId × FieldType)} {rest : va_W} {H0 H : Heap} {locs : List Loc} {A : Nat → Prop} {pc h0 : Nat} {ls : Array Slot} {fs : List Value} {own C : String} {T : u_T} {N ci index : Nat} {Ts : List Cond}
theorem st_put (hexec : p.tables.exec = Jvm.exec) (hb : c.code = cc) (hts : ∀ w ∈ Ts, w.before args s = true) (hin : ∀ w ∈ u_ws C T N, w ∈ Ts) (ty0 : Nat → FieldType) (hty : ∀ k, k < N → parseFieldDescriptor (T k).2.2.1 = some (ty0 k)) (hnm : ∀ a, a < N → ∀ b, b < N → a ≠ b → (T a).2.1 ≠ (T b).2.1) (hown : s.vm.findClass own = some m.cls) (hK : va_K D cl tys s) (hP : va_P D cl ((h0, .inr (ci, fs)) :: rest) H) (hD : va_D A ((h0, .inr (ci, fs)) :: rest)) (hS : va_S A H0 H locs) (hc : cl[ci]? = some (C, T, N)) (k : Nat) (hk : k < N) (hlink : (Cond.fieldLink own index (T k).1 (T k).2.1 (T k).2.2.1).before args s = true) (hfin : (T k).2.2.2 = false) {ty : FieldType} {v : Value} (hd : parseFieldDescriptor (T k).2.2.1 = some ty) (hn : narrow ty v = v) (hfit : fits ty v = true) (hl : k < fs.length)
    (hdg : decode cc pc = .ok (.putfield index, 3)) (kk : ∀ (H1 : Heap) (locs1 : List Loc), va_P D cl ((h0, .inr (ci, fs.set k v)) :: rest) H1 → va_D A ((h0, .inr (ci, fs.set k v)) :: rest) → va_S A H0 H1 locs1 → W p l e R s m args below meth c H1 locs1 cells slots Q (F0 m (pc + 3) ls [])) : W p l e R s m args below meth c H locs cells slots Q (F0 m pc ls [v, .ref h0]) :=
  va_put hexec hb hts hin ty0 hty hnm hown hK hP hD hS 0 rfl hc k hk hlink (fun _ h9 => h9) hfin hd hn hfit hl hdg (fun H1 locs1 hP1 hD1 hS1 => kk H1 locs1 hP1 hD1 hS1)
theorem st_arr (hexec : p.tables.exec = Jvm.exec) (hb : c.code = cc) {atype : ArrayType} (harr : (Cond.arrayClass (newarray.typeOf atype)).before args s = true) {ty : FieldType} (hta : newarray.typeOf atype = ty) (hno : ∀ C, ty ≠ .object C) (hts : ∀ w ∈ Ts, w.before args s = true) (hin : ∀ w ∈ u_ws C T N, w ∈ Ts) (ty0 : Nat → FieldType) (hty : ∀ k, k < N → parseFieldDescriptor (T k).2.2.1 = some (ty0 k)) (hnm : ∀ a, a < N → ∀ b, b < N → a ≠ b → (T a).2.1 ≠ (T b).2.1) (hown : s.vm.findClass own = some m.cls) (hK : va_K D cl tys s) (hP : va_P D cl ((h0, .inr (ci, fs)) :: rest) H) (hD : va_D A ((h0, .inr (ci, fs)) :: rest)) (hS : va_S A H0 H locs) (hA : ∀ q : Nat, H0.size ≤ q → A q) {t0 : Nat} {cG : ClassId} (ht : tys[t0]? = some (cG, ty))
    {n : Int32} {N' : Nat} {a0 : vp_A} (ha : ∀ cA : ClassId, vp_cell cA a0 = arrV cA N' (fun _ => defaultValue ty)) (hn : ¬ n < 0) (hN : n.toNatClampNeg = N') (hbytes : N' * componentBytes ty ≤ 536870912) (hcells : cells + 1 ≤ R.cells) (hslots : slots + N' ≤ R.slots) (hdg : decode cc pc = .ok (.newarray atype, 2))
    (hc : cl[ci]? = some (C, T, N)) (k : Nat) (hk : k < N) (hlink : (Cond.fieldLink own index (T k).1 (T k).2.1 (T k).2.2.1).before args s = true) (hfin : (T k).2.2.2 = true) (hin2 : meth.name = "<init>") (hdecl : (T k).1 = own) (hd : parseFieldDescriptor (T k).2.2.1 = some (.array ty)) (hl : k < fs.length) (hdg2 : decode cc (pc + 2) = .ok (.putfield index, 3))
    (kk : ∀ (q : Nat) (H1 : Heap) (locs1 : List Loc), va_P D cl ((h0, .inr (ci, fs.set k (.ref q))) :: (rest ++ [(q, .inl (cG, a0))])) H1 → va_D A ((h0, .inr (ci, fs.set k (.ref q))) :: (rest ++ [(q, .inl (cG, a0))])) → va_S A H0 H1 locs1 → W p l e R s m args below meth c H1 locs1 (cells + 1) (slots + N') Q (F0 m (pc + 2 + 3) ls [])) : W p l e R s m args below meth c H locs cells slots Q (F0 m pc ls [.int n, .ref h0]) := by
  refine va_newG hexec hb harr hta hno hK hP hD hS hA ht ha hn hN hbytes hcells hslots hdg (fun q H1 hP1 hD1 hS1 => ?_)
  refine va_putF (v := .ref q) (ty := .array ty) hexec hb hts hin ty0 hty hnm hown hK hP1 hD1 hS1 0 rfl hc k hk hlink (fun _ h9 => h9) hfin hin2 hdecl hd rfl rfl hl hdg2 (fun H2 locs2 hP2 hD2 hS2 => ?_)
  exact kk q H2 locs2 hP2 hD2 hS2
end CS
/-! ===== TinkerTailorModel() ===== -/
def wdX6 (G : ClassId × (ClassId × ClassId)) (a : Nat → Nat) : va_W := [(a 0, .inr (6, [.int 0, .int 0, .int 0, .int 2, .int 3, .int 0, .ref (a 1), .ref (a 2), .ref (a 3), .ref (a 4), .ref (a 5), .ref (a 6), .int 0, .ref (a 7), .ref (a 8), .ref (a 9), .int 0, .int 0, .int 0, .null, .ref (a 10), .int 0, .int 0, .int 0, .int 0, .ref (a 11), .ref (a 12), .ref (a 13), .ref (a 14), .ref (a 15), .ref (a 16), .int 0, .ref (a 17), .ref (a 18), .ref (a 19), .ref (a 20), .ref (a 21), .ref (a 22), .ref (a 23), .int 0, .ref (a 24), .ref (a 25), .ref (a 26), .int 0, .int 0]))] ++ [(a 1, .inl (G.1, 4, .inl fun _ => 0)), (a 2, .inl (G.1, 4, .inl fun _ => 0)), (a 3, .inl (G.1, 4, .inl fun _ => 0)), (a 4, .inl (G.1, 4, .inl fun _ => 0)), (a 5, .inl (G.1, 4, .inl fun _ => 0)), (a 6, .inl (G.1, 4, .inl fun _ => 0)), (a 7, .inl (G.1, 7, .inl fun _ => 0)), (a 8, .inl (G.1, 35, .inl fun _ => 0)), (a 9, .inl (G.1, 35, .inl fun _ => 0)), (a 10, .inl (G.1, 96, .inl fun _ => 0)), (a 11, .inl (G.1, 49, .inl fun _ => 0)), (a 12, .inl (G.1, 49, .inl fun _ => 0)), (a 13, .inl (G.1, 196, .inl fun _ => 0)), (a 14, .inl (G.1, 8, .inl fun _ => 0)), (a 15, .inl (G.1, 8, .inl fun _ => 0)), (a 16, .inl (G.1, 8, .inl fun _ => 0)), (a 17, .inl (G.2.1, 61, .inr (.inl fun _ => 0))), (a 18, .inl (G.2.1, 61, .inr (.inl fun _ => 0))), (a 19, .inl (G.2.2, 14884, .inl fun _ => 0)), (a 20, .inl (G.1, 21, .inl fun _ => 0)), (a 21, .inl (G.1, 397, .inl fun _ => 0)), (a 22, .inl (G.1, 397, .inl fun _ => 0)), (a 23, .inl (G.1, 4, .inl fun _ => 0)), (a 24, .inl (G.2.2, 28561, .inl fun _ => 0)), (a 25, .inl (G.1, 7442, .inl fun _ => 0)), (a 26, .inl (G.1, 12, .inl fun _ => 0))]
theorem dn_X6_0 : decode cX6_init 0 = .ok (.aload_n 0, 1) := by decide +kernel
theorem dn_X6_1 : decode cX6_init 1 = .ok (.invokespecial 1, 3) := by decide +kernel
theorem dn_X6_4 : decode cX6_init 4 = .ok (.aload_n 0, 1) := by decide +kernel
theorem dn_X6_5 : decode cX6_init 5 = .ok (.iconst 2, 1) := by decide +kernel
theorem dn_X6_6 : decode cX6_init 6 = .ok (.putfield 7, 3) := by decide +kernel
theorem dn_X6_9 : decode cX6_init 9 = .ok (.aload_n 0, 1) := by decide +kernel
theorem dn_X6_10 : decode cX6_init 10 = .ok (.iconst 3, 1) := by decide +kernel
theorem dn_X6_11 : decode cX6_init 11 = .ok (.putfield 13, 3) := by decide +kernel
theorem dn_X6_14 : decode cX6_init 14 = .ok (.aload_n 0, 1) := by decide +kernel
theorem dn_X6_15 : decode cX6_init 15 = .ok (.iconst 4, 1) := by decide +kernel
theorem dn_X6_16 : decode cX6_init 16 = .ok (.newarray .int, 2) := by decide +kernel
theorem dn_X6_18 : decode cX6_init 18 = .ok (.putfield 16, 3) := by decide +kernel
theorem dn_X6_21 : decode cX6_init 21 = .ok (.aload_n 0, 1) := by decide +kernel
theorem dn_X6_22 : decode cX6_init 22 = .ok (.iconst 4, 1) := by decide +kernel
theorem dn_X6_23 : decode cX6_init 23 = .ok (.newarray .int, 2) := by decide +kernel
theorem dn_X6_25 : decode cX6_init 25 = .ok (.putfield 20, 3) := by decide +kernel
theorem dn_X6_28 : decode cX6_init 28 = .ok (.aload_n 0, 1) := by decide +kernel
theorem dn_X6_29 : decode cX6_init 29 = .ok (.iconst 4, 1) := by decide +kernel
theorem dn_X6_30 : decode cX6_init 30 = .ok (.newarray .int, 2) := by decide +kernel
theorem dn_X6_32 : decode cX6_init 32 = .ok (.putfield 23, 3) := by decide +kernel
theorem dn_X6_35 : decode cX6_init 35 = .ok (.aload_n 0, 1) := by decide +kernel
theorem dn_X6_36 : decode cX6_init 36 = .ok (.iconst 4, 1) := by decide +kernel
theorem dn_X6_37 : decode cX6_init 37 = .ok (.newarray .int, 2) := by decide +kernel
theorem dn_X6_39 : decode cX6_init 39 = .ok (.putfield 26, 3) := by decide +kernel
theorem dn_X6_42 : decode cX6_init 42 = .ok (.aload_n 0, 1) := by decide +kernel
theorem dn_X6_43 : decode cX6_init 43 = .ok (.iconst 4, 1) := by decide +kernel
theorem dn_X6_44 : decode cX6_init 44 = .ok (.newarray .int, 2) := by decide +kernel
theorem dn_X6_46 : decode cX6_init 46 = .ok (.putfield 29, 3) := by decide +kernel
theorem dn_X6_49 : decode cX6_init 49 = .ok (.aload_n 0, 1) := by decide +kernel
theorem dn_X6_50 : decode cX6_init 50 = .ok (.iconst 4, 1) := by decide +kernel
theorem dn_X6_51 : decode cX6_init 51 = .ok (.newarray .int, 2) := by decide +kernel
theorem dn_X6_53 : decode cX6_init 53 = .ok (.putfield 32, 3) := by decide +kernel
theorem dn_X6_56 : decode cX6_init 56 = .ok (.aload_n 0, 1) := by decide +kernel
theorem dn_X6_57 : decode cX6_init 57 = .ok (.bipush 7, 2) := by decide +kernel
theorem dn_X6_59 : decode cX6_init 59 = .ok (.newarray .int, 2) := by decide +kernel
theorem dn_X6_61 : decode cX6_init 61 = .ok (.putfield 35, 3) := by decide +kernel
theorem dn_X6_64 : decode cX6_init 64 = .ok (.aload_n 0, 1) := by decide +kernel
theorem dn_X6_65 : decode cX6_init 65 = .ok (.bipush 35, 2) := by decide +kernel
theorem dn_X6_67 : decode cX6_init 67 = .ok (.newarray .int, 2) := by decide +kernel
theorem dn_X6_69 : decode cX6_init 69 = .ok (.putfield 38, 3) := by decide +kernel
theorem dn_X6_72 : decode cX6_init 72 = .ok (.aload_n 0, 1) := by decide +kernel
theorem dn_X6_73 : decode cX6_init 73 = .ok (.bipush 35, 2) := by decide +kernel
theorem dn_X6_75 : decode cX6_init 75 = .ok (.newarray .int, 2) := by decide +kernel
theorem dn_X6_77 : decode cX6_init 77 = .ok (.putfield 41, 3) := by decide +kernel
theorem dn_X6_80 : decode cX6_init 80 = .ok (.aload_n 0, 1) := by decide +kernel
theorem dn_X6_81 : decode cX6_init 81 = .ok (.bipush 96, 2) := by decide +kernel
theorem dn_X6_83 : decode cX6_init 83 = .ok (.newarray .int, 2) := by decide +kernel
theorem dn_X6_85 : decode cX6_init 85 = .ok (.putfield 44, 3) := by decide +kernel
theorem dn_X6_88 : decode cX6_init 88 = .ok (.aload_n 0, 1) := by decide +kernel
theorem dn_X6_89 : decode cX6_init 89 = .ok (.bipush 49, 2) := by decide +kernel
theorem dn_X6_91 : decode cX6_init 91 = .ok (.newarray .int, 2) := by decide +kernel
theorem dn_X6_93 : decode cX6_init 93 = .ok (.putfield 47, 3) := by decide +kernel
theorem dn_X6_96 : decode cX6_init 96 = .ok (.aload_n 0, 1) := by decide +kernel
theorem dn_X6_97 : decode cX6_init 97 = .ok (.bipush 49, 2) := by decide +kernel
theorem dn_X6_99 : decode cX6_init 99 = .ok (.newarray .int, 2) := by decide +kernel
theorem dn_X6_101 : decode cX6_init 101 = .ok (.putfield 50, 3) := by decide +kernel
theorem dn_X6_104 : decode cX6_init 104 = .ok (.aload_n 0, 1) := by decide +kernel
theorem dn_X6_105 : decode cX6_init 105 = .ok (.sipush 196, 3) := by decide +kernel
theorem dn_X6_108 : decode cX6_init 108 = .ok (.newarray .int, 2) := by decide +kernel
theorem dn_X6_110 : decode cX6_init 110 = .ok (.putfield 53, 3) := by decide +kernel
theorem dn_X6_113 : decode cX6_init 113 = .ok (.aload_n 0, 1) := by decide +kernel
theorem dn_X6_114 : decode cX6_init 114 = .ok (.bipush 8, 2) := by decide +kernel
theorem dn_X6_116 : decode cX6_init 116 = .ok (.newarray .int, 2) := by decide +kernel
theorem dn_X6_118 : decode cX6_init 118 = .ok (.putfield 56, 3) := by decide +kernel
theorem dn_X6_121 : decode cX6_init 121 = .ok (.aload_n 0, 1) := by decide +kernel
theorem dn_X6_122 : decode cX6_init 122 = .ok (.bipush 8, 2) := by decide +kernel
theorem dn_X6_124 : decode cX6_init 124 = .ok (.newarray .int, 2) := by decide +kernel
theorem dn_X6_126 : decode cX6_init 126 = .ok (.putfield 59, 3) := by decide +kernel
theorem dn_X6_129 : decode cX6_init 129 = .ok (.aload_n 0, 1) := by decide +kernel
theorem dn_X6_130 : decode cX6_init 130 = .ok (.bipush 8, 2) := by decide +kernel
theorem dn_X6_132 : decode cX6_init 132 = .ok (.newarray .int, 2) := by decide +kernel
theorem dn_X6_134 : decode cX6_init 134 = .ok (.putfield 62, 3) := by decide +kernel
theorem dn_X6_137 : decode cX6_init 137 = .ok (.aload_n 0, 1) := by decide +kernel
theorem dn_X6_138 : decode cX6_init 138 = .ok (.bipush 61, 2) := by decide +kernel
theorem dn_X6_140 : decode cX6_init 140 = .ok (.newarray .long, 2) := by decide +kernel
theorem dn_X6_142 : decode cX6_init 142 = .ok (.putfield 65, 3) := by decide +kernel
theorem dn_X6_145 : decode cX6_init 145 = .ok (.aload_n 0, 1) := by decide +kernel
theorem dn_X6_146 : decode cX6_init 146 = .ok (.bipush 61, 2) := by decide +kernel
theorem dn_X6_148 : decode cX6_init 148 = .ok (.newarray .long, 2) := by decide +kernel
theorem dn_X6_150 : decode cX6_init 150 = .ok (.putfield 69, 3) := by decide +kernel
theorem dn_X6_153 : decode cX6_init 153 = .ok (.aload_n 0, 1) := by decide +kernel
theorem dn_X6_154 : decode cX6_init 154 = .ok (.sipush 14884, 3) := by decide +kernel
theorem dn_X6_157 : decode cX6_init 157 = .ok (.newarray .boolean, 2) := by decide +kernel
theorem dn_X6_159 : decode cX6_init 159 = .ok (.putfield 72, 3) := by decide +kernel
theorem dn_X6_162 : decode cX6_init 162 = .ok (.aload_n 0, 1) := by decide +kernel
theorem dn_X6_163 : decode cX6_init 163 = .ok (.bipush 21, 2) := by decide +kernel
theorem dn_X6_165 : decode cX6_init 165 = .ok (.newarray .int, 2) := by decide +kernel
theorem dn_X6_167 : decode cX6_init 167 = .ok (.putfield 76, 3) := by decide +kernel
theorem dn_X6_170 : decode cX6_init 170 = .ok (.aload_n 0, 1) := by decide +kernel
theorem dn_X6_171 : decode cX6_init 171 = .ok (.sipush 397, 3) := by decide +kernel
theorem dn_X6_174 : decode cX6_init 174 = .ok (.newarray .int, 2) := by decide +kernel
theorem dn_X6_176 : decode cX6_init 176 = .ok (.putfield 79, 3) := by decide +kernel
theorem dn_X6_179 : decode cX6_init 179 = .ok (.aload_n 0, 1) := by decide +kernel
theorem dn_X6_180 : decode cX6_init 180 = .ok (.sipush 397, 3) := by decide +kernel
theorem dn_X6_183 : decode cX6_init 183 = .ok (.newarray .int, 2) := by decide +kernel
theorem dn_X6_185 : decode cX6_init 185 = .ok (.putfield 82, 3) := by decide +kernel
theorem dn_X6_188 : decode cX6_init 188 = .ok (.aload_n 0, 1) := by decide +kernel
theorem dn_X6_189 : decode cX6_init 189 = .ok (.iconst 4, 1) := by decide +kernel
theorem dn_X6_190 : decode cX6_init 190 = .ok (.newarray .int, 2) := by decide +kernel
theorem dn_X6_192 : decode cX6_init 192 = .ok (.putfield 85, 3) := by decide +kernel
theorem dn_X6_195 : decode cX6_init 195 = .ok (.aload_n 0, 1) := by decide +kernel
theorem dn_X6_196 : decode cX6_init 196 = .ok (.sipush 28561, 3) := by decide +kernel
theorem dn_X6_199 : decode cX6_init 199 = .ok (.newarray .boolean, 2) := by decide +kernel
theorem dn_X6_201 : decode cX6_init 201 = .ok (.putfield 88, 3) := by decide +kernel
theorem dn_X6_204 : decode cX6_init 204 = .ok (.aload_n 0, 1) := by decide +kernel
theorem dn_X6_205 : decode cX6_init 205 = .ok (.sipush 7442, 3) := by decide +kernel
theorem dn_X6_208 : decode cX6_init 208 = .ok (.newarray .int, 2) := by decide +kernel
theorem dn_X6_210 : decode cX6_init 210 = .ok (.putfield 91, 3) := by decide +kernel
theorem dn_X6_213 : decode cX6_init 213 = .ok (.aload_n 0, 1) := by decide +kernel
theorem dn_X6_214 : decode cX6_init 214 = .ok (.bipush 12, 2) := by decide +kernel
theorem dn_X6_216 : decode cX6_init 216 = .ok (.newarray .int, 2) := by decide +kernel
theorem dn_X6_218 : decode cX6_init 218 = .ok (.putfield 94, 3) := by decide +kernel
theorem dn_X6_221 : decode cX6_init 221 = .ok (.aload_n 0, 1) := by decide +kernel
theorem dn_X6_222 : decode cX6_init 222 = .ok (.iconst 0, 1) := by decide +kernel
theorem dn_X6_223 : decode cX6_init 223 = .ok (.putfield 97, 3) := by decide +kernel
theorem dn_X6_226 : decode cX6_init 226 = .ok (.return_, 1) := by decide +kernel
theorem kn_X6 : (Cond.code yX6_init cX6_init 1 none) ∈ tb := (tb_mem (pos := 872) (by decide +kernel) (by decide +kernel))
theorem in_X6 : ∀ w ∈ u_ws RX6 TX6 45, w ∈ tb := tb_sub inX6 (by decide +kernel)
def wzX6 (h0 : Nat) : va_W := [(h0, .inr (6, [.int 0, .int 0, .int 0, .int 0, .int 0, .int 0, .null, .null, .null, .null, .null, .null, .int 0, .null, .null, .null, .int 0, .int 0, .int 0, .null, .null, .int 0, .int 0, .int 0, .int 0, .null, .null, .null, .null, .null, .null, .int 0, .null, .null, .null, .null, .null, .null, .null, .int 0, .null, .null, .null, .int 0, .int 0]))]
set_option maxHeartbeats 4000000 in
set_option maxRecDepth 100000 in
theorem cn_X6 (l : Launch) (dC : Nat → ClassId) (dI : Nat → Nat → Nat) (G : ClassId × (ClassId × ClassId)) (h0 sz : Nat) : Met l yX6_init (wsc yX6_init cX6_init) ({ frames := 1, cells := 26, slots := 52355, locals := 12 }) (va_Pc [.ref h0] (fun U => U.heap.size = sz ∧ va_P (dC, dI) vwCl (wzX6 h0) U.heap ∧ va_K (dC, dI) vwCl (tys G) U ∧ va_D (fun _ => True) (wzX6 h0))) (va_Qv (fun a : Nat → Nat => a 0 = h0) (fun a t => va_P (dC, dI) vwCl (wdX6 G a) t.heap ∧ va_K (dC, dI) vwCl (tys G) t ∧ va_D (va_A (wzX6 h0) sz) (wdX6 G a)) (va_A (wzX6 h0) sz)) 26 52355 (va_A (wzX6 h0) sz) := by
  refine Met.ofW (cc := cX6_init) (maxL := 1) (ret := none) (by decide) rfl ?_
  intro p e s m args below meth c s₁ B hml hv
  obtain ⟨rfl, hsz, hP, hK, hD0⟩ := hv
  have hx := B.exec
  have hb := B.bytes
  have hr := B.returns
  have hts : ∀ w ∈ tb, w.before ([Value.ref h0].toArray) s = true := fun w hw => atoms_spec (ws := wsc yX6_init cX6_init) B.pre w (List.mem_cons_of_mem _ hw)
  have hown : s.vm.findClass RX6 = some m.cls := findClass_of_methodNamed B.named
  have hin : meth.name = "<init>" := (name_of_methodNamed B.named B.method).1
  subst hsz
  have hD := hD0.self (sz := s.heap.size)
  generalize hAe : va_A (wzX6 h0) s.heap.size = A at hD ⊢
  have hA : ∀ q : Nat, s.heap.size ≤ q → A q := fun q h => by rw [← hAe]; exact Or.inr h
  have hS : va_S A s.heap s.heap [] := va_S.rf
  have hP : va_P (dC, dI) vwCl ((h0, .inr (6, [.int 0, .int 0, .int 0, .int 0, .int 0, .int 0, .null, .null, .null, .null, .null, .null, .int 0, .null, .null, .null, .int 0, .int 0, .int 0, .null, .null, .int 0, .int 0, .int 0, .int 0, .null, .null, .null, .null, .null, .null, .int 0, .null, .null, .null, .null, .null, .null, .null, .int 0, .null, .null, .null, .int 0, .int 0])) :: []) s.heap := hP
  have hD : va_D A ((h0, .inr (6, [.int 0, .int 0, .int 0, .int 0, .int 0, .int 0, .null, .null, .null, .null, .null, .null, .int 0, .null, .null, .null, .int 0, .int 0, .int 0, .null, .null, .int 0, .int 0, .int 0, .int 0, .null, .null, .null, .null, .null, .null, .int 0, .null, .null, .null, .null, .null, .null, .null, .int 0, .null, .null, .null, .int 0, .int 0])) :: []) := hD
  have hl := lv_entry ([.ref h0]) (n := 1) (Nat.le_of_ble_eq_true rfl)
  rw [lg_entry_eq]
  generalize (lg_sl ([.ref h0]) ++ List.replicate (1 - (lg_sl ([.ref h0])).length) Slot.unset).toArray = ls at hl ⊢
  have hl : lv_has ls 1 [(0, .ref h0)] := hl
  refine lv_aload_n hx hb dn_X6_0 rfl (lv_at hl 0 rfl) ?_
  refine W.objInit hx hb hown (hts (.methodLink RX6 1 objectInit) (tb_mem (pos := 873) (by decide +kernel) (by decide +kernel))) (hts (.instanceMethod objectInit) (tb_mem (pos := 138) (by decide +kernel) (by decide +kernel))) (hts (.code objectInit ⟨#[0xb1]⟩ 1 none) (tb_mem (pos := 139) (by decide +kernel) (by decide +kernel))) rfl (by rw [hml]; exact hl.1) rfl dn_X6_1 (Nat.le_of_ble_eq_true rfl) (Nat.le_of_ble_eq_true rfl) ?_
  refine W.eq (g2 := F0 m 4 ls []) rfl ?_
  refine lv_aload_n hx hb dn_X6_4 rfl (lv_at hl 0 rfl) ?_
  refine lv_iconst (v := 2) hx hb dn_X6_5 (by decide) ?_
  refine st_put (D := (dC, dI)) (ci := 6) (v := .int 2) (ty := .int) (C := RX6) (T := TX6) (N := 45) hx hb hts in_X6 tyX6 tyX6_ok nmX6 hown hK hP hD hS rfl 3 (by decide) (hts (.fieldLink RX6 7 "TinkerTailorModel" "bunch" "I") (tb_mem (pos := 877) (by decide +kernel) (by decide +kernel))) rfl (by decide +kernel) rfl rfl (by simp only [List.length_set, List.length_cons, List.length_nil]; decide) dn_X6_6 (fun H locs hP hD hS => ?_)
  refine lv_aload_n hx hb dn_X6_9 rfl (lv_at hl 0 rfl) ?_
  refine lv_iconst (v := 3) hx hb dn_X6_10 (by decide) ?_
  refine st_put (D := (dC, dI)) (ci := 6) (v := .int 3) (ty := .int) (C := RX6) (T := TX6) (N := 45) hx hb hts in_X6 tyX6 tyX6_ok nmX6 hown hK hP hD hS rfl 4 (by decide) (hts (.fieldLink RX6 13 "TinkerTailorModel" "most" "I") (tb_mem (pos := 878) (by decide +kernel) (by decide +kernel))) rfl (by decide +kernel) rfl rfl (by simp only [List.length_set, List.length_cons, List.length_nil]; decide) dn_X6_11 (fun H locs hP hD hS => ?_)
  refine lv_aload_n hx hb dn_X6_14 rfl (lv_at hl 0 rfl) ?_
  refine lv_iconst (v := 4) hx hb dn_X6_15 (by decide) ?_
  refine st_arr (D := (dC, dI)) (ci := 6) (C := RX6) (T := TX6) (N := 45) (a0 := (4, .inl fun _ => 0)) (t0 := 0) (atype := .int) hx hb (hts (.arrayClass .int) kw_int) rfl (by intro C h; cases h) hts in_X6 tyX6 tyX6_ok nmX6 hown hK hP hD hS hA rfl (fun _ => rfl) (by decide) (by decide) (Nat.le_of_ble_eq_true rfl) (Nat.le_of_ble_eq_true rfl) (Nat.le_of_ble_eq_true rfl) dn_X6_16 rfl 6 (by decide) (hts (.fieldLink RX6 16 "TinkerTailorModel" "lengths" "[I") (tb_mem (pos := 880) (by decide +kernel) (by decide +kernel))) rfl hin rfl (by decide +kernel) (by simp only [List.length_set, List.length_cons, List.length_nil]; decide) dn_X6_18 (fun q1 H locs hP hD hS => ?_)
  refine W.widen (k := 1) (n := 4) (Nat.le_of_ble_eq_true rfl) (Nat.le_of_ble_eq_true rfl) ?_
  refine lv_aload_n hx hb dn_X6_21 rfl (lv_at hl 0 rfl) ?_
  refine lv_iconst (v := 4) hx hb dn_X6_22 (by decide) ?_
  refine st_arr (D := (dC, dI)) (ci := 6) (C := RX6) (T := TX6) (N := 45) (a0 := (4, .inl fun _ => 0)) (t0 := 0) (atype := .int) hx hb (hts (.arrayClass .int) kw_int) rfl (by intro C h; cases h) hts in_X6 tyX6 tyX6_ok nmX6 hown hK hP hD hS hA rfl (fun _ => rfl) (by decide) (by decide) (Nat.le_of_ble_eq_true rfl) (Nat.le_of_ble_eq_true rfl) (Nat.le_of_ble_eq_true rfl) dn_X6_23 rfl 7 (by decide) (hts (.fieldLink RX6 20 "TinkerTailorModel" "begins" "[I") (tb_mem (pos := 881) (by decide +kernel) (by decide +kernel))) rfl hin rfl (by decide +kernel) (by simp only [List.length_set, List.length_cons, List.length_nil]; decide) dn_X6_25 (fun q2 H locs hP hD hS => ?_)
  refine W.widen (k := 2) (n := 8) (Nat.le_of_ble_eq_true rfl) (Nat.le_of_ble_eq_true rfl) ?_
  refine lv_aload_n hx hb dn_X6_28 rfl (lv_at hl 0 rfl) ?_
  refine lv_iconst (v := 4) hx hb dn_X6_29 (by decide) ?_
  refine st_arr (D := (dC, dI)) (ci := 6) (C := RX6) (T := TX6) (N := 45) (a0 := (4, .inl fun _ => 0)) (t0 := 0) (atype := .int) hx hb (hts (.arrayClass .int) kw_int) rfl (by intro C h; cases h) hts in_X6 tyX6 tyX6_ok nmX6 hown hK hP hD hS hA rfl (fun _ => rfl) (by decide) (by decide) (Nat.le_of_ble_eq_true rfl) (Nat.le_of_ble_eq_true rfl) (Nat.le_of_ble_eq_true rfl) dn_X6_30 rfl 8 (by decide) (hts (.fieldLink RX6 23 "TinkerTailorModel" "kinds" "[I") (tb_mem (pos := 882) (by decide +kernel) (by decide +kernel))) rfl hin rfl (by decide +kernel) (by simp only [List.length_set, List.length_cons, List.length_nil]; decide) dn_X6_32 (fun q3 H locs hP hD hS => ?_)
  refine W.widen (k := 3) (n := 12) (Nat.le_of_ble_eq_true rfl) (Nat.le_of_ble_eq_true rfl) ?_
  refine lv_aload_n hx hb dn_X6_35 rfl (lv_at hl 0 rfl) ?_
  refine lv_iconst (v := 4) hx hb dn_X6_36 (by decide) ?_
  refine st_arr (D := (dC, dI)) (ci := 6) (C := RX6) (T := TX6) (N := 45) (a0 := (4, .inl fun _ => 0)) (t0 := 0) (atype := .int) hx hb (hts (.arrayClass .int) kw_int) rfl (by intro C h; cases h) hts in_X6 tyX6 tyX6_ok nmX6 hown hK hP hD hS hA rfl (fun _ => rfl) (by decide) (by decide) (Nat.le_of_ble_eq_true rfl) (Nat.le_of_ble_eq_true rfl) (Nat.le_of_ble_eq_true rfl) dn_X6_37 rfl 9 (by decide) (hts (.fieldLink RX6 26 "TinkerTailorModel" "figures" "[I") (tb_mem (pos := 883) (by decide +kernel) (by decide +kernel))) rfl hin rfl (by decide +kernel) (by simp only [List.length_set, List.length_cons, List.length_nil]; decide) dn_X6_39 (fun q4 H locs hP hD hS => ?_)
  refine W.widen (k := 4) (n := 16) (Nat.le_of_ble_eq_true rfl) (Nat.le_of_ble_eq_true rfl) ?_
  refine lv_aload_n hx hb dn_X6_42 rfl (lv_at hl 0 rfl) ?_
  refine lv_iconst (v := 4) hx hb dn_X6_43 (by decide) ?_
  refine st_arr (D := (dC, dI)) (ci := 6) (C := RX6) (T := TX6) (N := 45) (a0 := (4, .inl fun _ => 0)) (t0 := 0) (atype := .int) hx hb (hts (.arrayClass .int) kw_int) rfl (by intro C h; cases h) hts in_X6 tyX6 tyX6_ok nmX6 hown hK hP hD hS hA rfl (fun _ => rfl) (by decide) (by decide) (Nat.le_of_ble_eq_true rfl) (Nat.le_of_ble_eq_true rfl) (Nat.le_of_ble_eq_true rfl) dn_X6_44 rfl 10 (by decide) (hts (.fieldLink RX6 29 "TinkerTailorModel" "wishes" "[I") (tb_mem (pos := 884) (by decide +kernel) (by decide +kernel))) rfl hin rfl (by decide +kernel) (by simp only [List.length_set, List.length_cons, List.length_nil]; decide) dn_X6_46 (fun q5 H locs hP hD hS => ?_)
  refine W.widen (k := 5) (n := 20) (Nat.le_of_ble_eq_true rfl) (Nat.le_of_ble_eq_true rfl) ?_
  refine lv_aload_n hx hb dn_X6_49 rfl (lv_at hl 0 rfl) ?_
  refine lv_iconst (v := 4) hx hb dn_X6_50 (by decide) ?_
  refine st_arr (D := (dC, dI)) (ci := 6) (C := RX6) (T := TX6) (N := 45) (a0 := (4, .inl fun _ => 0)) (t0 := 0) (atype := .int) hx hb (hts (.arrayClass .int) kw_int) rfl (by intro C h; cases h) hts in_X6 tyX6 tyX6_ok nmX6 hown hK hP hD hS hA rfl (fun _ => rfl) (by decide) (by decide) (Nat.le_of_ble_eq_true rfl) (Nat.le_of_ble_eq_true rfl) (Nat.le_of_ble_eq_true rfl) dn_X6_51 rfl 11 (by decide) (hts (.fieldLink RX6 32 "TinkerTailorModel" "stones" "[I") (tb_mem (pos := 885) (by decide +kernel) (by decide +kernel))) rfl hin rfl (by decide +kernel) (by simp only [List.length_set, List.length_cons, List.length_nil]; decide) dn_X6_53 (fun q6 H locs hP hD hS => ?_)
  refine W.widen (k := 6) (n := 24) (Nat.le_of_ble_eq_true rfl) (Nat.le_of_ble_eq_true rfl) ?_
  refine lv_aload_n hx hb dn_X6_56 rfl (lv_at hl 0 rfl) ?_
  refine lv_bipush (v := 7) hx hb dn_X6_57 (by decide) ?_
  refine st_arr (D := (dC, dI)) (ci := 6) (C := RX6) (T := TX6) (N := 45) (a0 := (7, .inl fun _ => 0)) (t0 := 0) (atype := .int) hx hb (hts (.arrayClass .int) kw_int) rfl (by intro C h; cases h) hts in_X6 tyX6 tyX6_ok nmX6 hown hK hP hD hS hA rfl (fun _ => rfl) (by decide) (by decide) (Nat.le_of_ble_eq_true rfl) (Nat.le_of_ble_eq_true rfl) (Nat.le_of_ble_eq_true rfl) dn_X6_59 rfl 13 (by decide) (hts (.fieldLink RX6 35 "TinkerTailorModel" "refusals" "[I") (tb_mem (pos := 887) (by decide +kernel) (by decide +kernel))) rfl hin rfl (by decide +kernel) (by simp only [List.length_set, List.length_cons, List.length_nil]; decide) dn_X6_61 (fun q7 H locs hP hD hS => ?_)
  refine W.widen (k := 7) (n := 31) (Nat.le_of_ble_eq_true rfl) (Nat.le_of_ble_eq_true rfl) ?_
  refine lv_aload_n hx hb dn_X6_64 rfl (lv_at hl 0 rfl) ?_
  refine lv_bipush (v := 35) hx hb dn_X6_65 (by decide) ?_
  refine st_arr (D := (dC, dI)) (ci := 6) (C := RX6) (T := TX6) (N := 45) (a0 := (35, .inl fun _ => 0)) (t0 := 0) (atype := .int) hx hb (hts (.arrayClass .int) kw_int) rfl (by intro C h; cases h) hts in_X6 tyX6 tyX6_ok nmX6 hown hK hP hD hS hA rfl (fun _ => rfl) (by decide) (by decide) (Nat.le_of_ble_eq_true rfl) (Nat.le_of_ble_eq_true rfl) (Nat.le_of_ble_eq_true rfl) dn_X6_67 rfl 14 (by decide) (hts (.fieldLink RX6 38 "TinkerTailorModel" "kept" "[I") (tb_mem (pos := 888) (by decide +kernel) (by decide +kernel))) rfl hin rfl (by decide +kernel) (by simp only [List.length_set, List.length_cons, List.length_nil]; decide) dn_X6_69 (fun q8 H locs hP hD hS => ?_)
  refine W.widen (k := 8) (n := 66) (Nat.le_of_ble_eq_true rfl) (Nat.le_of_ble_eq_true rfl) ?_
  refine lv_aload_n hx hb dn_X6_72 rfl (lv_at hl 0 rfl) ?_
  refine lv_bipush (v := 35) hx hb dn_X6_73 (by decide) ?_
  refine st_arr (D := (dC, dI)) (ci := 6) (C := RX6) (T := TX6) (N := 45) (a0 := (35, .inl fun _ => 0)) (t0 := 0) (atype := .int) hx hb (hts (.arrayClass .int) kw_int) rfl (by intro C h; cases h) hts in_X6 tyX6 tyX6_ok nmX6 hown hK hP hD hS hA rfl (fun _ => rfl) (by decide) (by decide) (Nat.le_of_ble_eq_true rfl) (Nat.le_of_ble_eq_true rfl) (Nat.le_of_ble_eq_true rfl) dn_X6_75 rfl 15 (by decide) (hts (.fieldLink RX6 41 "TinkerTailorModel" "imaged" "[I") (tb_mem (pos := 889) (by decide +kernel) (by decide +kernel))) rfl hin rfl (by decide +kernel) (by simp only [List.length_set, List.length_cons, List.length_nil]; decide) dn_X6_77 (fun q9 H locs hP hD hS => ?_)
  refine W.widen (k := 9) (n := 101) (Nat.le_of_ble_eq_true rfl) (Nat.le_of_ble_eq_true rfl) ?_
  refine lv_aload_n hx hb dn_X6_80 rfl (lv_at hl 0 rfl) ?_
  refine lv_bipush (v := 96) hx hb dn_X6_81 (by decide) ?_
  refine st_arr (D := (dC, dI)) (ci := 6) (C := RX6) (T := TX6) (N := 45) (a0 := (96, .inl fun _ => 0)) (t0 := 0) (atype := .int) hx hb (hts (.arrayClass .int) kw_int) rfl (by intro C h; cases h) hts in_X6 tyX6 tyX6_ok nmX6 hown hK hP hD hS hA rfl (fun _ => rfl) (by decide) (by decide) (Nat.le_of_ble_eq_true rfl) (Nat.le_of_ble_eq_true rfl) (Nat.le_of_ble_eq_true rfl) dn_X6_83 rfl 20 (by decide) (hts (.fieldLink RX6 44 "TinkerTailorModel" "letters" "[I") (tb_mem (pos := 894) (by decide +kernel) (by decide +kernel))) rfl hin rfl (by decide +kernel) (by simp only [List.length_set, List.length_cons, List.length_nil]; decide) dn_X6_85 (fun q10 H locs hP hD hS => ?_)
  refine W.widen (k := 10) (n := 197) (Nat.le_of_ble_eq_true rfl) (Nat.le_of_ble_eq_true rfl) ?_
  refine lv_aload_n hx hb dn_X6_88 rfl (lv_at hl 0 rfl) ?_
  refine lv_bipush (v := 49) hx hb dn_X6_89 (by decide) ?_
  refine st_arr (D := (dC, dI)) (ci := 6) (C := RX6) (T := TX6) (N := 45) (a0 := (49, .inl fun _ => 0)) (t0 := 0) (atype := .int) hx hb (hts (.arrayClass .int) kw_int) rfl (by intro C h; cases h) hts in_X6 tyX6 tyX6_ok nmX6 hown hK hP hD hS hA rfl (fun _ => rfl) (by decide) (by decide) (Nat.le_of_ble_eq_true rfl) (Nat.le_of_ble_eq_true rfl) (Nat.le_of_ble_eq_true rfl) dn_X6_91 rfl 25 (by decide) (hts (.fieldLink RX6 47 "TinkerTailorModel" "placeIn" "[I") (tb_mem (pos := 899) (by decide +kernel) (by decide +kernel))) rfl hin rfl (by decide +kernel) (by simp only [List.length_set, List.length_cons, List.length_nil]; decide) dn_X6_93 (fun q11 H locs hP hD hS => ?_)
  refine W.widen (k := 11) (n := 246) (Nat.le_of_ble_eq_true rfl) (Nat.le_of_ble_eq_true rfl) ?_
  refine lv_aload_n hx hb dn_X6_96 rfl (lv_at hl 0 rfl) ?_
  refine lv_bipush (v := 49) hx hb dn_X6_97 (by decide) ?_
  refine st_arr (D := (dC, dI)) (ci := 6) (C := RX6) (T := TX6) (N := 45) (a0 := (49, .inl fun _ => 0)) (t0 := 0) (atype := .int) hx hb (hts (.arrayClass .int) kw_int) rfl (by intro C h; cases h) hts in_X6 tyX6 tyX6_ok nmX6 hown hK hP hD hS hA rfl (fun _ => rfl) (by decide) (by decide) (Nat.le_of_ble_eq_true rfl) (Nat.le_of_ble_eq_true rfl) (Nat.le_of_ble_eq_true rfl) dn_X6_99 rfl 26 (by decide) (hts (.fieldLink RX6 50 "TinkerTailorModel" "letterOf" "[I") (tb_mem (pos := 900) (by decide +kernel) (by decide +kernel))) rfl hin rfl (by decide +kernel) (by simp only [List.length_set, List.length_cons, List.length_nil]; decide) dn_X6_101 (fun q12 H locs hP hD hS => ?_)
  refine W.widen (k := 12) (n := 295) (Nat.le_of_ble_eq_true rfl) (Nat.le_of_ble_eq_true rfl) ?_
  refine lv_aload_n hx hb dn_X6_104 rfl (lv_at hl 0 rfl) ?_
  refine lv_sipush (v := 196) hx hb dn_X6_105 (by decide) ?_
  refine st_arr (D := (dC, dI)) (ci := 6) (C := RX6) (T := TX6) (N := 45) (a0 := (196, .inl fun _ => 0)) (t0 := 0) (atype := .int) hx hb (hts (.arrayClass .int) kw_int) rfl (by intro C h; cases h) hts in_X6 tyX6 tyX6_ok nmX6 hown hK hP hD hS hA rfl (fun _ => rfl) (by decide) (by decide) (Nat.le_of_ble_eq_true rfl) (Nat.le_of_ble_eq_true rfl) (Nat.le_of_ble_eq_true rfl) dn_X6_108 rfl 27 (by decide) (hts (.fieldLink RX6 53 "TinkerTailorModel" "told" "[I") (tb_mem (pos := 901) (by decide +kernel) (by decide +kernel))) rfl hin rfl (by decide +kernel) (by simp only [List.length_set, List.length_cons, List.length_nil]; decide) dn_X6_110 (fun q13 H locs hP hD hS => ?_)
  refine W.widen (k := 13) (n := 491) (Nat.le_of_ble_eq_true rfl) (Nat.le_of_ble_eq_true rfl) ?_
  refine lv_aload_n hx hb dn_X6_113 rfl (lv_at hl 0 rfl) ?_
  refine lv_bipush (v := 8) hx hb dn_X6_114 (by decide) ?_
  refine st_arr (D := (dC, dI)) (ci := 6) (C := RX6) (T := TX6) (N := 45) (a0 := (8, .inl fun _ => 0)) (t0 := 0) (atype := .int) hx hb (hts (.arrayClass .int) kw_int) rfl (by intro C h; cases h) hts in_X6 tyX6 tyX6_ok nmX6 hown hK hP hD hS hA rfl (fun _ => rfl) (by decide) (by decide) (Nat.le_of_ble_eq_true rfl) (Nat.le_of_ble_eq_true rfl) (Nat.le_of_ble_eq_true rfl) dn_X6_116 rfl 28 (by decide) (hts (.fieldLink RX6 56 "TinkerTailorModel" "backWho" "[I") (tb_mem (pos := 902) (by decide +kernel) (by decide +kernel))) rfl hin rfl (by decide +kernel) (by simp only [List.length_set, List.length_cons, List.length_nil]; decide) dn_X6_118 (fun q14 H locs hP hD hS => ?_)
  refine W.widen (k := 14) (n := 499) (Nat.le_of_ble_eq_true rfl) (Nat.le_of_ble_eq_true rfl) ?_
  refine lv_aload_n hx hb dn_X6_121 rfl (lv_at hl 0 rfl) ?_
  refine lv_bipush (v := 8) hx hb dn_X6_122 (by decide) ?_
  refine st_arr (D := (dC, dI)) (ci := 6) (C := RX6) (T := TX6) (N := 45) (a0 := (8, .inl fun _ => 0)) (t0 := 0) (atype := .int) hx hb (hts (.arrayClass .int) kw_int) rfl (by intro C h; cases h) hts in_X6 tyX6 tyX6_ok nmX6 hown hK hP hD hS hA rfl (fun _ => rfl) (by decide) (by decide) (Nat.le_of_ble_eq_true rfl) (Nat.le_of_ble_eq_true rfl) (Nat.le_of_ble_eq_true rfl) dn_X6_124 rfl 29 (by decide) (hts (.fieldLink RX6 59 "TinkerTailorModel" "backStones" "[I") (tb_mem (pos := 903) (by decide +kernel) (by decide +kernel))) rfl hin rfl (by decide +kernel) (by simp only [List.length_set, List.length_cons, List.length_nil]; decide) dn_X6_126 (fun q15 H locs hP hD hS => ?_)
  refine W.widen (k := 15) (n := 507) (Nat.le_of_ble_eq_true rfl) (Nat.le_of_ble_eq_true rfl) ?_
  refine lv_aload_n hx hb dn_X6_129 rfl (lv_at hl 0 rfl) ?_
  refine lv_bipush (v := 8) hx hb dn_X6_130 (by decide) ?_
  refine st_arr (D := (dC, dI)) (ci := 6) (C := RX6) (T := TX6) (N := 45) (a0 := (8, .inl fun _ => 0)) (t0 := 0) (atype := .int) hx hb (hts (.arrayClass .int) kw_int) rfl (by intro C h; cases h) hts in_X6 tyX6 tyX6_ok nmX6 hown hK hP hD hS hA rfl (fun _ => rfl) (by decide) (by decide) (Nat.le_of_ble_eq_true rfl) (Nat.le_of_ble_eq_true rfl) (Nat.le_of_ble_eq_true rfl) dn_X6_132 rfl 30 (by decide) (hts (.fieldLink RX6 62 "TinkerTailorModel" "backFruits" "[I") (tb_mem (pos := 904) (by decide +kernel) (by decide +kernel))) rfl hin rfl (by decide +kernel) (by simp only [List.length_set, List.length_cons, List.length_nil]; decide) dn_X6_134 (fun q16 H locs hP hD hS => ?_)
  refine W.widen (k := 16) (n := 515) (Nat.le_of_ble_eq_true rfl) (Nat.le_of_ble_eq_true rfl) ?_
  refine lv_aload_n hx hb dn_X6_137 rfl (lv_at hl 0 rfl) ?_
  refine lv_bipush (v := 61) hx hb dn_X6_138 (by decide) ?_
  refine st_arr (D := (dC, dI)) (ci := 6) (C := RX6) (T := TX6) (N := 45) (a0 := (61, .inr (.inl fun _ => 0))) (t0 := 1) (atype := .long) hx hb (hts (.arrayClass .long) kw_long) rfl (by intro C h; cases h) hts in_X6 tyX6 tyX6_ok nmX6 hown hK hP hD hS hA rfl (fun _ => rfl) (by decide) (by decide) (Nat.le_of_ble_eq_true rfl) (Nat.le_of_ble_eq_true rfl) (Nat.le_of_ble_eq_true rfl) dn_X6_140 rfl 32 (by decide) (hts (.fieldLink RX6 65 "TinkerTailorModel" "ways" "[J") (tb_mem (pos := 906) (by decide +kernel) (by decide +kernel))) rfl hin rfl (by decide +kernel) (by simp only [List.length_set, List.length_cons, List.length_nil]; decide) dn_X6_142 (fun q17 H locs hP hD hS => ?_)
  refine W.widen (k := 17) (n := 576) (Nat.le_of_ble_eq_true rfl) (Nat.le_of_ble_eq_true rfl) ?_
  refine lv_aload_n hx hb dn_X6_145 rfl (lv_at hl 0 rfl) ?_
  refine lv_bipush (v := 61) hx hb dn_X6_146 (by decide) ?_
  refine st_arr (D := (dC, dI)) (ci := 6) (C := RX6) (T := TX6) (N := 45) (a0 := (61, .inr (.inl fun _ => 0))) (t0 := 1) (atype := .long) hx hb (hts (.arrayClass .long) kw_long) rfl (by intro C h; cases h) hts in_X6 tyX6 tyX6_ok nmX6 hown hK hP hD hS hA rfl (fun _ => rfl) (by decide) (by decide) (Nat.le_of_ble_eq_true rfl) (Nat.le_of_ble_eq_true rfl) (Nat.le_of_ble_eq_true rfl) dn_X6_148 rfl 33 (by decide) (hts (.fieldLink RX6 69 "TinkerTailorModel" "waysThen" "[J") (tb_mem (pos := 907) (by decide +kernel) (by decide +kernel))) rfl hin rfl (by decide +kernel) (by simp only [List.length_set, List.length_cons, List.length_nil]; decide) dn_X6_150 (fun q18 H locs hP hD hS => ?_)
  refine W.widen (k := 18) (n := 637) (Nat.le_of_ble_eq_true rfl) (Nat.le_of_ble_eq_true rfl) ?_
  refine lv_aload_n hx hb dn_X6_153 rfl (lv_at hl 0 rfl) ?_
  refine lv_sipush (v := 14884) hx hb dn_X6_154 (by decide) ?_
  refine st_arr (D := (dC, dI)) (ci := 6) (C := RX6) (T := TX6) (N := 45) (a0 := (14884, .inl fun _ => 0)) (t0 := 2) (atype := .boolean) hx hb (hts (.arrayClass .boolean) kw_boolean) rfl (by intro C h; cases h) hts in_X6 tyX6 tyX6_ok nmX6 hown hK hP hD hS hA rfl (fun _ => rfl) (by decide) (by decide) (Nat.le_of_ble_eq_true rfl) (Nat.le_of_ble_eq_true rfl) (Nat.le_of_ble_eq_true rfl) dn_X6_157 rfl 34 (by decide) (hts (.fieldLink RX6 72 "TinkerTailorModel" "surely" "[Z") (tb_mem (pos := 908) (by decide +kernel) (by decide +kernel))) rfl hin rfl (by decide +kernel) (by simp only [List.length_set, List.length_cons, List.length_nil]; decide) dn_X6_159 (fun q19 H locs hP hD hS => ?_)
  refine W.widen (k := 19) (n := 15521) (Nat.le_of_ble_eq_true rfl) (Nat.le_of_ble_eq_true rfl) ?_
  refine lv_aload_n hx hb dn_X6_162 rfl (lv_at hl 0 rfl) ?_
  refine lv_bipush (v := 21) hx hb dn_X6_163 (by decide) ?_
  refine st_arr (D := (dC, dI)) (ci := 6) (C := RX6) (T := TX6) (N := 45) (a0 := (21, .inl fun _ => 0)) (t0 := 0) (atype := .int) hx hb (hts (.arrayClass .int) kw_int) rfl (by intro C h; cases h) hts in_X6 tyX6 tyX6_ok nmX6 hown hK hP hD hS hA rfl (fun _ => rfl) (by decide) (by decide) (Nat.le_of_ble_eq_true rfl) (Nat.le_of_ble_eq_true rfl) (Nat.le_of_ble_eq_true rfl) dn_X6_165 rfl 35 (by decide) (hts (.fieldLink RX6 76 "TinkerTailorModel" "choose" "[I") (tb_mem (pos := 909) (by decide +kernel) (by decide +kernel))) rfl hin rfl (by decide +kernel) (by simp only [List.length_set, List.length_cons, List.length_nil]; decide) dn_X6_167 (fun q20 H locs hP hD hS => ?_)
  refine W.widen (k := 20) (n := 15542) (Nat.le_of_ble_eq_true rfl) (Nat.le_of_ble_eq_true rfl) ?_
  refine lv_aload_n hx hb dn_X6_170 rfl (lv_at hl 0 rfl) ?_
  refine lv_sipush (v := 397) hx hb dn_X6_171 (by decide) ?_
  refine st_arr (D := (dC, dI)) (ci := 6) (C := RX6) (T := TX6) (N := 45) (a0 := (397, .inl fun _ => 0)) (t0 := 0) (atype := .int) hx hb (hts (.arrayClass .int) kw_int) rfl (by intro C h; cases h) hts in_X6 tyX6 tyX6_ok nmX6 hown hK hP hD hS hA rfl (fun _ => rfl) (by decide) (by decide) (Nat.le_of_ble_eq_true rfl) (Nat.le_of_ble_eq_true rfl) (Nat.le_of_ble_eq_true rfl) dn_X6_174 rfl 36 (by decide) (hts (.fieldLink RX6 79 "TinkerTailorModel" "given" "[I") (tb_mem (pos := 910) (by decide +kernel) (by decide +kernel))) rfl hin rfl (by decide +kernel) (by simp only [List.length_set, List.length_cons, List.length_nil]; decide) dn_X6_176 (fun q21 H locs hP hD hS => ?_)
  refine W.widen (k := 21) (n := 15939) (Nat.le_of_ble_eq_true rfl) (Nat.le_of_ble_eq_true rfl) ?_
  refine lv_aload_n hx hb dn_X6_179 rfl (lv_at hl 0 rfl) ?_
  refine lv_sipush (v := 397) hx hb dn_X6_180 (by decide) ?_
  refine st_arr (D := (dC, dI)) (ci := 6) (C := RX6) (T := TX6) (N := 45) (a0 := (397, .inl fun _ => 0)) (t0 := 0) (atype := .int) hx hb (hts (.arrayClass .int) kw_int) rfl (by intro C h; cases h) hts in_X6 tyX6 tyX6_ok nmX6 hown hK hP hD hS hA rfl (fun _ => rfl) (by decide) (by decide) (Nat.le_of_ble_eq_true rfl) (Nat.le_of_ble_eq_true rfl) (Nat.le_of_ble_eq_true rfl) dn_X6_183 rfl 37 (by decide) (hts (.fieldLink RX6 82 "TinkerTailorModel" "givenThen" "[I") (tb_mem (pos := 911) (by decide +kernel) (by decide +kernel))) rfl hin rfl (by decide +kernel) (by simp only [List.length_set, List.length_cons, List.length_nil]; decide) dn_X6_185 (fun q22 H locs hP hD hS => ?_)
  refine W.widen (k := 22) (n := 16336) (Nat.le_of_ble_eq_true rfl) (Nat.le_of_ble_eq_true rfl) ?_
  refine lv_aload_n hx hb dn_X6_188 rfl (lv_at hl 0 rfl) ?_
  refine lv_iconst (v := 4) hx hb dn_X6_189 (by decide) ?_
  refine st_arr (D := (dC, dI)) (ci := 6) (C := RX6) (T := TX6) (N := 45) (a0 := (4, .inl fun _ => 0)) (t0 := 0) (atype := .int) hx hb (hts (.arrayClass .int) kw_int) rfl (by intro C h; cases h) hts in_X6 tyX6 tyX6_ok nmX6 hown hK hP hD hS hA rfl (fun _ => rfl) (by decide) (by decide) (Nat.le_of_ble_eq_true rfl) (Nat.le_of_ble_eq_true rfl) (Nat.le_of_ble_eq_true rfl) dn_X6_190 rfl 38 (by decide) (hts (.fieldLink RX6 85 "TinkerTailorModel" "piles" "[I") (tb_mem (pos := 912) (by decide +kernel) (by decide +kernel))) rfl hin rfl (by decide +kernel) (by simp only [List.length_set, List.length_cons, List.length_nil]; decide) dn_X6_192 (fun q23 H locs hP hD hS => ?_)
  refine W.widen (k := 23) (n := 16340) (Nat.le_of_ble_eq_true rfl) (Nat.le_of_ble_eq_true rfl) ?_
  refine lv_aload_n hx hb dn_X6_195 rfl (lv_at hl 0 rfl) ?_
  refine lv_sipush (v := 28561) hx hb dn_X6_196 (by decide) ?_
  refine st_arr (D := (dC, dI)) (ci := 6) (C := RX6) (T := TX6) (N := 45) (a0 := (28561, .inl fun _ => 0)) (t0 := 2) (atype := .boolean) hx hb (hts (.arrayClass .boolean) kw_boolean) rfl (by intro C h; cases h) hts in_X6 tyX6 tyX6_ok nmX6 hown hK hP hD hS hA rfl (fun _ => rfl) (by decide) (by decide) (Nat.le_of_ble_eq_true rfl) (Nat.le_of_ble_eq_true rfl) (Nat.le_of_ble_eq_true rfl) dn_X6_199 rfl 40 (by decide) (hts (.fieldLink RX6 88 "TinkerTailorModel" "winsBy" "[Z") (tb_mem (pos := 914) (by decide +kernel) (by decide +kernel))) rfl hin rfl (by decide +kernel) (by simp only [List.length_set, List.length_cons, List.length_nil]; decide) dn_X6_201 (fun q24 H locs hP hD hS => ?_)
  refine W.widen (k := 24) (n := 44901) (Nat.le_of_ble_eq_true rfl) (Nat.le_of_ble_eq_true rfl) ?_
  refine lv_aload_n hx hb dn_X6_204 rfl (lv_at hl 0 rfl) ?_
  refine lv_sipush (v := 7442) hx hb dn_X6_205 (by decide) ?_
  refine st_arr (D := (dC, dI)) (ci := 6) (C := RX6) (T := TX6) (N := 45) (a0 := (7442, .inl fun _ => 0)) (t0 := 0) (atype := .int) hx hb (hts (.arrayClass .int) kw_int) rfl (by intro C h; cases h) hts in_X6 tyX6 tyX6_ok nmX6 hown hK hP hD hS hA rfl (fun _ => rfl) (by decide) (by decide) (Nat.le_of_ble_eq_true rfl) (Nat.le_of_ble_eq_true rfl) (Nat.le_of_ble_eq_true rfl) dn_X6_208 rfl 41 (by decide) (hts (.fieldLink RX6 91 "TinkerTailorModel" "ends" "[I") (tb_mem (pos := 915) (by decide +kernel) (by decide +kernel))) rfl hin rfl (by decide +kernel) (by simp only [List.length_set, List.length_cons, List.length_nil]; decide) dn_X6_210 (fun q25 H locs hP hD hS => ?_)
  refine W.widen (k := 25) (n := 52343) (Nat.le_of_ble_eq_true rfl) (Nat.le_of_ble_eq_true rfl) ?_
  refine lv_aload_n hx hb dn_X6_213 rfl (lv_at hl 0 rfl) ?_
  refine lv_bipush (v := 12) hx hb dn_X6_214 (by decide) ?_
  refine st_arr (D := (dC, dI)) (ci := 6) (C := RX6) (T := TX6) (N := 45) (a0 := (12, .inl fun _ => 0)) (t0 := 0) (atype := .int) hx hb (hts (.arrayClass .int) kw_int) rfl (by intro C h; cases h) hts in_X6 tyX6 tyX6_ok nmX6 hown hK hP hD hS hA rfl (fun _ => rfl) (by decide) (by decide) (Nat.le_of_ble_eq_true rfl) (Nat.le_of_ble_eq_true rfl) (Nat.le_of_ble_eq_true rfl) dn_X6_216 rfl 42 (by decide) (hts (.fieldLink RX6 94 "TinkerTailorModel" "row" "[I") (tb_mem (pos := 916) (by decide +kernel) (by decide +kernel))) rfl hin rfl (by decide +kernel) (by simp only [List.length_set, List.length_cons, List.length_nil]; decide) dn_X6_218 (fun q26 H locs hP hD hS => ?_)
  refine W.widen (k := 26) (n := 52355) (Nat.le_of_ble_eq_true rfl) (Nat.le_of_ble_eq_true rfl) ?_
  refine lv_aload_n hx hb dn_X6_221 rfl (lv_at hl 0 rfl) ?_
  refine lv_iconst (v := 0) hx hb dn_X6_222 (by decide) ?_
  refine st_put (D := (dC, dI)) (ci := 6) (v := .int 0) (ty := .int) (C := RX6) (T := TX6) (N := 45) hx hb hts in_X6 tyX6 tyX6_ok nmX6 hown hK hP hD hS rfl 12 (by decide) (hts (.fieldLink RX6 97 "TinkerTailorModel" "thrown" "I") (tb_mem (pos := 886) (by decide +kernel) (by decide +kernel))) rfl (by decide +kernel) rfl rfl (by simp only [List.length_set, List.length_cons, List.length_nil]; decide) dn_X6_223 (fun H locs hP hD hS => ?_)
  exact W.vret hx hb hr (fun t ht hW => ⟨⟨fun k => [h0, q1, q2, q3, q4, q5, q6, q7, q8, q9, q10, q11, q12, q13, q14, q15, q16, q17, q18, q19, q20, q21, q22, q23, q24, q25, q26].getD k 0, rfl, rfl, by rw [ht]; exact hP, va_K.moved hW.alike hK, hD⟩, hS.F ht⟩) hS.2.2 dn_X6_226

/-! ===== the abstract cells as cells of the machine ===== -/
def cv (ad : Nat → Nat) : AV → Value
  | .inl z => .int (Int32.ofInt z)
  | .inr (.inl z) => .long (Int64.ofInt z)
  | .inr (.inr none) => .null
  | .inr (.inr (some k)) => .ref (ad k)
def vOK : AV → Prop
  | .inl z => inI z
  | .inr (.inl z) => inL z
  | .inr (.inr _) => True
def hOK (h : AH) : Prop := (∀ k j, inI (h.1 k j)) ∧ ∀ k j, inL (h.2.1 k j)
theorem hOK.upI {h : AH} (hh : hOK h) {z : Int} (hz : inI z) (k : Nat) (j : Int) : hOK (upI h k j z) := by
  refine ⟨fun k' j' => ?_, hh.2⟩
  show inI (if k' = k ∧ j' = j then z else h.1 k' j')
  split
  · exact hz
  · exact hh.1 _ _
theorem hOK.upL {h : AH} (hh : hOK h) {z : Int} (hz : inL z) (k : Nat) (j : Int) : hOK (upL h k j z) := by
  refine ⟨hh.1, fun k' j' => ?_⟩
  show inL (if k' = k ∧ j' = j then z else h.2.1 k' j')
  split
  · exact hz
  · exact hh.2 _ _
theorem hOK.upR {h : AH} (hh : hOK h) (k : Nat) (j : Int) (r : Option Nat) : hOK (upR h k j r) := hh
theorem hOK.cpI {h : AH} (hh : hOK h) (a : Nat) (sp : Int) (b : Nat) (dp n : Int) : hOK (cpI h a sp b dp n) := by
  refine ⟨fun k' j' => ?_, hh.2⟩
  show inI (if k' = b ∧ dp ≤ j' ∧ j' < dp + n then h.1 a (sp + (j' - dp)) else h.1 k' j')
  split <;> exact hh.1 _ _
/-- the fields: 0 a number, 1 a final reference to the cell so far behind, 2 a reference that changes -/
def fdT : List (List (Nat × Nat)) := [
  [(0, 0), (1, 1), (1, 2), (0, 0), (1, 3), (1, 4), (1, 5), (1, 6), (0, 0), (0, 0), (0, 0), (0, 0), (0, 0), (1, 7)],
  [(1, 1)],
  [(1, 1), (0, 0)],
  [(1, 1), (1, 2), (1, 3), (0, 0)],
  [(1, 1), (1, 2)],
  [(1, 1), (1, 9), (1, 17), (0, 0), (1, 25), (1, 27), (1, 31), (0, 0), (1, 32), (1, 33), (1, 35)],
  [(0, 0), (0, 0), (0, 0), (0, 0), (0, 0), (0, 0), (1, 1), (1, 2), (1, 3), (1, 4), (1, 5), (1, 6), (0, 0), (1, 7), (1, 8), (1, 9), (0, 0), (0, 0), (0, 0), (2, 0), (1, 10), (0, 0), (0, 0), (0, 0), (0, 0), (1, 11), (1, 12), (1, 13), (1, 14), (1, 15), (1, 16), (0, 0), (1, 17), (1, 18), (1, 19), (1, 20), (1, 21), (1, 22), (1, 23), (0, 0), (1, 24), (1, 25), (1, 26), (0, 0), (0, 0)]]
def fdK (c j : Nat) : Nat × Nat := (fdT.getD c []).getD j (9, 0)
def cN (c : Nat) : Nat := (fdT.getD c []).length
def fv (ad : Nat → Nat) (h : AH) (k c j : Nat) : Value := match fdK c j with
  | (0, _) => .int (Int32.ofInt (h.1 k (j : Int)))
  | (1, o) => .ref (ad (k + o))
  | _ => cv ad (.inr (.inr (h.2.2 k (j : Int))))
def cellE (ad : Nat → Nat) (G : ClassId × (ClassId × ClassId)) (h : AH) (k : Nat) : va_E := match (shA k).1 with
  | 10 => .inl (G.1, (shA k).2, .inl (fun j => Int32.ofInt (h.1 k (j : Int))))
  | 11 => .inl (G.2.1, (shA k).2, .inr (.inl (fun j => Int64.ofInt (h.2.1 k (j : Int)))))
  | 12 => .inl (G.2.2, (shA k).2, .inl (fun j => Int32.ofInt (h.1 k (j : Int))))
  | c => .inr (c, (List.range (cN c)).map (fun j => fv ad h k c j))
def wl (ad : Nat → Nat) (G : ClassId × (ClassId × ClassId)) (h : AH) : va_W := (List.range 65).map (fun k => (ad k, cellE ad G h k))
theorem wl_get {ad : Nat → Nat} {G : ClassId × (ClassId × ClassId)} {h : AH} {k : Nat} (hk : k < 65) : (wl ad G h)[k]? = some (ad k, cellE ad G h k) := by
  unfold wl
  rw [List.getElem?_map, List.getElem?_range hk]
  rfl
theorem map_set {α : Type} {n j : Nat} {f f' : Nat → α} (hf : ∀ i, i ≠ j → f' i = f i) : ((List.range n).map f).set j (f' j) = (List.range n).map f' := by
  apply List.ext_getElem?
  intro i
  rw [List.getElem?_set, List.getElem?_map, List.getElem?_map]
  by_cases hij : j = i
  · subst hij
    simp only [List.length_map, List.length_range, if_true]
    by_cases hn : j < n
    · rw [List.getElem?_range hn]; simp [hn]
    · rw [List.getElem?_eq_none (by simp; omega)]; simp [hn]
  · rw [if_neg hij]
    by_cases hn : i < n
    · rw [List.getElem?_range hn]; simp [hf i (Ne.symm hij)]
    · rw [List.getElem?_eq_none (by simp; omega)]; rfl
theorem wl_set {ad : Nat → Nat} {G : ClassId × (ClassId × ClassId)} {h h' : AH} {k : Nat} (hf : ∀ i, i ≠ k → cellE ad G h' i = cellE ad G h i) : (wl ad G h).set k (ad k, cellE ad G h' k) = wl ad G h' :=
  map_set (f := fun k => (ad k, cellE ad G h k)) (f' := fun k => (ad k, cellE ad G h' k)) (fun i hi => by rw [hf i hi])
theorem fv_congr {ad : Nat → Nat} {h h' : AH} {k c j : Nat} (h1 : h'.1 k (j : Int) = h.1 k (j : Int)) (h3 : h'.2.2 k (j : Int) = h.2.2 k (j : Int)) : fv ad h' k c j = fv ad h k c j := by
  unfold fv
  rw [h1, h3]
theorem cellE_congr {ad : Nat → Nat} {G : ClassId × (ClassId × ClassId)} {h h' : AH} {k : Nat} (h1 : h'.1 k = h.1 k) (h2 : h'.2.1 k = h.2.1 k) (h3 : h'.2.2 k = h.2.2 k) : cellE ad G h' k = cellE ad G h k := by
  unfold cellE
  simp only [h1, h2, fv, h3]
theorem shA_lt {k c : Nat} (h : (shA k).1 = c) (hc : c < 13) : k < 65 := by
  unfold shA at h
  by_cases h1 : k < 100
  · rw [if_pos h1] at h
    by_cases h2 : k < 65
    · exact h2
    · rw [List.getElem?_eq_none (show shT.length ≤ k from by show 65 ≤ k; omega)] at h
      simp at h
      omega
  · rw [if_neg h1] at h
    by_cases h2 : 200 ≤ k ∧ k < 206
    · rw [if_pos h2] at h; simp at h; omega
    · rw [if_neg h2] at h
      by_cases h3 : 220 ≤ k ∧ k < 226
      · rw [if_pos h3] at h; simp at h; omega
      · rw [if_neg h3] at h
        by_cases h4 : k = 300
        · rw [if_pos h4] at h; simp at h; omega
        · rw [if_neg h4] at h; simp at h; omega
theorem cell10 {ad : Nat → Nat} {G : ClassId × (ClassId × ClassId)} {h : AH} {k : Nat} (hs : (shA k).1 = 10) : cellE ad G h k = .inl (G.1, (shA k).2, .inl (fun j => Int32.ofInt (h.1 k (j : Int)))) := by
  unfold cellE; rw [hs]; rfl
theorem cell11 {ad : Nat → Nat} {G : ClassId × (ClassId × ClassId)} {h : AH} {k : Nat} (hs : (shA k).1 = 11) : cellE ad G h k = .inl (G.2.1, (shA k).2, .inr (.inl (fun j => Int64.ofInt (h.2.1 k (j : Int))))) := by
  unfold cellE; rw [hs]; rfl
theorem cell12 {ad : Nat → Nat} {G : ClassId × (ClassId × ClassId)} {h : AH} {k : Nat} (hs : (shA k).1 = 12) : cellE ad G h k = .inl (G.2.2, (shA k).2, .inl (fun j => Int32.ofInt (h.1 k (j : Int)))) := by
  unfold cellE; rw [hs]; rfl
theorem cellO {ad : Nat → Nat} {G : ClassId × (ClassId × ClassId)} {h : AH} {k c : Nat} (hs : (shA k).1 = c) (hc : c < 7) : cellE ad G h k = .inr (c, (List.range (cN c)).map (fun j => fv ad h k c j)) := by
  unfold cellE; rw [hs]
  split
  · omega
  · omega
  · omega
  · rfl
theorem fld_get {ad : Nat → Nat} {h : AH} {k c j : Nat} (hj : j < cN c) : ((List.range (cN c)).map (fun j => fv ad h k c j))[j]? = some (fv ad h k c j) := by
  rw [List.getElem?_map, List.getElem?_range hj]; rfl
theorem upI_ne {h : AH} {k i : Nat} {j z : Int} (hi : i ≠ k) : (upI h k j z).1 i = h.1 i := by
  funext j'
  show (if i = k ∧ j' = j then z else h.1 i j') = _
  rw [if_neg (fun q => hi q.1)]
theorem upI_nej {h : AH} {k : Nat} {j j' z : Int} (hi : j' ≠ j) : (upI h k j z).1 k j' = h.1 k j' := by
  show (if k = k ∧ j' = j then z else h.1 k j') = _
  rw [if_neg (fun q => hi q.2)]
theorem upI_at {h : AH} {k : Nat} {j z : Int} : (upI h k j z).1 k j = z := by
  show (if k = k ∧ j = j then z else h.1 k j) = _
  rw [if_pos ⟨rfl, rfl⟩]
theorem wl_upI {ad : Nat → Nat} {G : ClassId × (ClassId × ClassId)} {h : AH} {k c j : Nat} {z : Int} (hs : (shA k).1 = c) (hc : c < 7) (hj : (fdK c j).1 = 0) : (wl ad G h).set k (ad k, .inr (c, ((List.range (cN c)).map (fun j => fv ad h k c j)).set j (.int (Int32.ofInt z)))) = wl ad G (upI h k (j : Int) z) := by
  rw [← wl_set (h := h) (h' := upI h k (j : Int) z) (k := k) (fun i hi => cellE_congr (upI_ne hi) rfl rfl), cellO hs hc]
  congr 3
  have e : fv ad (upI h k (j : Int) z) k c j = .int (Int32.ofInt z) := by
    unfold fv
    split
    · rw [upI_at]
    · next o ho => rw [ho] at hj; simp at hj
    · next h0 h1 => 
      exfalso
      exact h0 (fdK c j).2 (by rw [← hj])
  congr 1
  rw [← e]
  exact map_set (j := j) (f := fun i => fv ad h k c i) (f' := fun i => fv ad (upI h k (j : Int) z) k c i) (fun i hi => fv_congr (upI_nej (j := (j : Int)) (j' := (i : Int)) (by omega)) rfl)
theorem upR_ne {h : AH} {k i : Nat} {j : Int} {r : Option Nat} (hi : i ≠ k) : (upR h k j r).2.2 i = h.2.2 i := by
  funext j'
  show (if i = k ∧ j' = j then r else h.2.2 i j') = _
  rw [if_neg (fun q => hi q.1)]
theorem upR_nej {h : AH} {k : Nat} {j j' : Int} {r : Option Nat} (hi : j' ≠ j) : (upR h k j r).2.2 k j' = h.2.2 k j' := by
  show (if k = k ∧ j' = j then r else h.2.2 k j') = _
  rw [if_neg (fun q => hi q.2)]
theorem upR_at {h : AH} {k : Nat} {j : Int} {r : Option Nat} : (upR h k j r).2.2 k j = r := by
  show (if k = k ∧ j = j then r else h.2.2 k j) = _
  rw [if_pos ⟨rfl, rfl⟩]
theorem upL_ne {h : AH} {k i : Nat} {j z : Int} (hi : i ≠ k) : (upL h k j z).2.1 i = h.2.1 i := by
  funext j'
  show (if i = k ∧ j' = j then z else h.2.1 i j') = _
  rw [if_neg (fun q => hi q.1)]
theorem upL_nej {h : AH} {k : Nat} {j j' z : Int} (hi : j' ≠ j) : (upL h k j z).2.1 k j' = h.2.1 k j' := by
  show (if k = k ∧ j' = j then z else h.2.1 k j') = _
  rw [if_neg (fun q => hi q.2)]
theorem upL_at {h : AH} {k : Nat} {j z : Int} : (upL h k j z).2.1 k j = z := by
  show (if k = k ∧ j = j then z else h.2.1 k j) = _
  rw [if_pos ⟨rfl, rfl⟩]
theorem wl_upR {ad : Nat → Nat} {G : ClassId × (ClassId × ClassId)} {h : AH} {k c j : Nat} {r : Option Nat} (hs : (shA k).1 = c) (hc : c < 7) (hj : (fdK c j).1 = 2) : (wl ad G h).set k (ad k, .inr (c, ((List.range (cN c)).map (fun j => fv ad h k c j)).set j (cv ad (.inr (.inr r))))) = wl ad G (upR h k (j : Int) r) := by
  rw [← wl_set (h := h) (h' := upR h k (j : Int) r) (k := k) (fun i hi => cellE_congr rfl rfl (upR_ne hi)), cellO hs hc]
  congr 3
  have e : fv ad (upR h k (j : Int) r) k c j = cv ad (.inr (.inr r)) := by
    unfold fv
    split
    · next o ho => rw [ho] at hj; simp at hj
    · next o ho => rw [ho] at hj; simp at hj
    · rw [upR_at]
  rw [← e]
  congr 1
  exact map_set (j := j) (f := fun i => fv ad h k c i) (f' := fun i => fv ad (upR h k (j : Int) r) k c i) (fun i hi => fv_congr rfl (upR_nej (j := (j : Int)) (j' := (i : Int)) (by omega)))
theorem tn_clamp {i : Int} (hi : inI i) : (Int32.ofInt i).toNatClampNeg = i.toNat := by
  rw [Int32.toNatClampNeg, am_t hi]
theorem upd_eq {f : Nat → Int → Int} {k : Nat} {i z : Int} (h0 : 0 ≤ i) (hi : inI i) : upd (fun j => Int32.ofInt (f k (j : Int))) (Int32.ofInt i).toNatClampNeg (Int32.ofInt z) = fun j : Nat => Int32.ofInt (if k = k ∧ (j : Int) = i then z else f k (j : Int)) := by
  funext j
  rw [tn_clamp hi]
  by_cases hj : j = i.toNat
  · rw [hj, pk_us, if_pos ⟨rfl, by omega⟩]
  · rw [pk_un hj, if_neg (fun q => hj (by omega))]
theorem updL_eq {f : Nat → Int → Int} {k : Nat} {i z : Int} (h0 : 0 ≤ i) (hi : inI i) : vp_updL (fun j => Int64.ofInt (f k (j : Int))) (Int32.ofInt i).toNatClampNeg (Int64.ofInt z) = fun j : Nat => Int64.ofInt (if k = k ∧ (j : Int) = i then z else f k (j : Int)) := by
  funext j
  rw [tn_clamp hi]
  by_cases hj : j = i.toNat
  · rw [hj, pk_uLs, if_pos ⟨rfl, by omega⟩]
  · rw [pk_uLn hj, if_neg (fun q => hj (by omega))]
theorem wl_ai {ad : Nat → Nat} {G : ClassId × (ClassId × ClassId)} {h : AH} {k : Nat} {i z : Int} (hs : (shA k).1 = 10) (h0 : 0 ≤ i) (hi : inI i) : (wl ad G h).set k (ad k, .inl (G.1, (shA k).2, .inl (upd (fun j => Int32.ofInt (h.1 k (j : Int))) (Int32.ofInt i).toNatClampNeg (Int32.ofInt z)))) = wl ad G (upI h k i z) := by
  rw [← wl_set (h := h) (h' := upI h k i z) (k := k) (fun i hi => cellE_congr (upI_ne hi) rfl rfl), cell10 hs, upd_eq (f := h.1) h0 hi]
  rfl
theorem wl_az {ad : Nat → Nat} {G : ClassId × (ClassId × ClassId)} {h : AH} {k : Nat} {i z : Int} (hs : (shA k).1 = 12) (h0 : 0 ≤ i) (hi : inI i) : (wl ad G h).set k (ad k, .inl (G.2.2, (shA k).2, .inl (upd (fun j => Int32.ofInt (h.1 k (j : Int))) (Int32.ofInt i).toNatClampNeg (Int32.ofInt z)))) = wl ad G (upI h k i z) := by
  rw [← wl_set (h := h) (h' := upI h k i z) (k := k) (fun i hi => cellE_congr (upI_ne hi) rfl rfl), cell12 hs, upd_eq (f := h.1) h0 hi]
  rfl
theorem wl_al {ad : Nat → Nat} {G : ClassId × (ClassId × ClassId)} {h : AH} {k : Nat} {i z : Int} (hs : (shA k).1 = 11) (h0 : 0 ≤ i) (hi : inI i) : (wl ad G h).set k (ad k, .inl (G.2.1, (shA k).2, .inr (.inl (vp_updL (fun j => Int64.ofInt (h.2.1 k (j : Int))) (Int32.ofInt i).toNatClampNeg (Int64.ofInt z))))) = wl ad G (upL h k i z) := by
  rw [← wl_set (h := h) (h' := upL h k i z) (k := k) (fun i hi => cellE_congr rfl (upL_ne hi) rfl), cell11 hs, updL_eq (f := h.2.1) h0 hi]
  rfl
theorem wl_cp {ad : Nat → Nat} {G : ClassId × (ClassId × ClassId)} {h : AH} {a b : Nat} {sp dp n : Int} (hs : (shA b).1 = 10) (h1 : 0 ≤ sp) (h2 : 0 ≤ dp) (h3 : 0 ≤ n) : (wl ad G h).set b (ad b, .inl (G.1, (shA b).2, .inl (va_cpy (fun j => Int32.ofInt (h.1 a (j : Int))) (fun j => Int32.ofInt (h.1 b (j : Int))) sp.toNat dp.toNat n.toNat))) = wl ad G (cpI h a sp b dp n) := by
  have hne : ∀ i, i ≠ b → (cpI h a sp b dp n).1 i = h.1 i := fun i hi => by
    funext j'
    show (if i = b ∧ dp ≤ j' ∧ j' < dp + n then h.1 a (sp + (j' - dp)) else h.1 i j') = _
    rw [if_neg (fun q => hi q.1)]
  rw [← wl_set (h := h) (h' := cpI h a sp b dp n) (k := b) (fun i hi => cellE_congr (hne i hi) rfl rfl), cell10 hs]
  have e : va_cpy (fun j => Int32.ofInt (h.1 a (j : Int))) (fun j => Int32.ofInt (h.1 b (j : Int))) sp.toNat dp.toNat n.toNat = fun j : Nat => Int32.ofInt ((cpI h a sp b dp n).1 b (j : Int)) := by
    funext j
    show (if dp.toNat ≤ j ∧ j < dp.toNat + n.toNat then Int32.ofInt (h.1 a ((sp.toNat + (j - dp.toNat) : Nat) : Int)) else Int32.ofInt (h.1 b (j : Int))) = Int32.ofInt (if b = b ∧ dp ≤ (j : Int) ∧ (j : Int) < dp + n then h.1 a (sp + ((j : Int) - dp)) else h.1 b (j : Int))
    by_cases hj : dp.toNat ≤ j ∧ j < dp.toNat + n.toNat
    · rw [if_pos hj, if_pos ⟨rfl, by omega, by omega⟩, show ((sp.toNat + (j - dp.toNat) : Nat) : Int) = sp + ((j : Int) - dp) from by omega]
    · rw [if_neg hj, if_neg (fun q => hj (by omega))]
  rw [e]
theorem vp_inO {i : Int} {n : Nat} (hi : inI i) (h0 : 0 ≤ i) (h1 : i < (n : Int)) : vp_in (Int32.ofInt i) n := vp_in_iff.mpr ⟨by rw [am_t hi]; exact h0, by rw [am_t hi]; exact h1⟩
theorem rd_eq {f : Nat → Int → Int} {k : Nat} {i : Int} (h0 : 0 ≤ i) (hi : inI i) : f k (((Int32.ofInt i).toNatClampNeg : Nat) : Int) = f k i := by
  rw [tn_clamp hi, Int.toNat_of_nonneg h0]
/-! locals -/
def LH (ad : Nat → Nat) (ls : Array Slot) (nL : Nat) (L : LL) : Prop := ls.size = nL ∧ lv_wf ls ∧ ∀ (i : Nat) (v : AV), L[i]? = some (some v) → ls[i]? = some (.val (cv ad v))
def lvOf (ad : Nat → Nat) (L : LL) : List (Nat × Value) := (List.range L.length).filterMap (fun i => match L[i]? with
  | some (some v) => some (i, cv ad v)
  | _ => none)
theorem lvOf_mem {ad : Nat → Nat} {L : LL} {i : Nat} {v : AV} (h : L[i]? = some (some v)) : (i, cv ad v) ∈ lvOf ad L :=
  List.mem_filterMap.mpr ⟨i, List.mem_range.mpr (List.getElem?_eq_some_iff.mp h).1, by simp only [h]⟩
theorem LH.has {ad : Nat → Nat} {ls : Array Slot} {nL : Nat} {L : LL} (h : LH ad ls nL L) : lv_has ls nL (lvOf ad L) := by
  refine ⟨h.1, h.2.1, fun q hq => ?_⟩
  obtain ⟨i, hi, h1⟩ := List.mem_filterMap.mp hq
  revert h1
  split
  · next v hv => intro h1; cases h1; exact h.2.2 i v hv
  · intro h1; cases h1
theorem cat_cv {ad : Nat → Nat} (v : AV) : (cv ad v).category = catA v := by
  match v with
  | .inl z => rfl
  | .inr (.inl z) => rfl
  | .inr (.inr none) => rfl
  | .inr (.inr (some k)) => rfl
theorem setL_get : ∀ (L : LL) (n : Nat) (v : AV) (i : Nat) (w : AV), (setL L n v)[i]? = some (some w) → (i = n ∧ w = v) ∨ (i ≠ n ∧ L[i]? = some (some w) ∧ (i + 1 = n → catA w = 1))
  | [], n, v, i, w, h => by simp [setL] at h
  | x :: L, 0, v, i, w, h => by
    cases i with
    | zero => simp [setL] at h; exact Or.inl ⟨rfl, h.symm⟩
    | succ i => simp [setL] at h; exact Or.inr ⟨by omega, by simpa using h, fun q => by omega⟩
  | x :: L, 1, v, i, w, h => by
    cases i with
    | zero =>
      simp only [setL, List.getElem?_cons_zero, Option.some.injEq] at h
      split at h
      · cases h
      · next hn =>
        subst h
        refine Or.inr ⟨by omega, rfl, fun _ => ?_⟩
        match w with
        | .inl z => rfl
        | .inr (.inl z) => simp [isLg] at hn
        | .inr (.inr r) => rfl
    | succ i =>
      simp only [setL, List.getElem?_cons_succ] at h
      rcases setL_get L 0 v i w h with ⟨a, b⟩ | ⟨a, b, c⟩
      · exact Or.inl ⟨by omega, b⟩
      · exact Or.inr ⟨by omega, by simpa using b, fun q => by omega⟩
  | x :: L, n + 2, v, i, w, h => by
    cases i with
    | zero =>
      simp only [setL, List.getElem?_cons_zero] at h
      exact Or.inr ⟨by omega, by simpa using h, fun q => by omega⟩
    | succ i =>
      simp only [setL, List.getElem?_cons_succ] at h
      rcases setL_get L (n + 1) v i w h with ⟨a, b⟩ | ⟨a, b, c⟩
      · exact Or.inl ⟨by omega, b⟩
      · exact Or.inr ⟨by omega, by simpa using b, fun q => c (by omega)⟩
theorem setL2_get : ∀ (L : LL) (n : Nat) (v : AV) (i : Nat) (w : AV), (setL2 L n v)[i]? = some (some w) → (i = n ∧ w = v) ∨ (i ≠ n ∧ i ≠ n + 1 ∧ L[i]? = some (some w) ∧ (i + 1 = n → catA w = 1))
  | [], n, v, i, w, h => by simp [setL2] at h
  | [x], 0, v, i, w, h => by
    cases i with
    | zero => simp [setL2] at h; exact Or.inl ⟨rfl, h.symm⟩
    | succ i => simp [setL2] at h
  | x :: y :: L, 0, v, i, w, h => by
    match i with
    | 0 => simp [setL2] at h; exact Or.inl ⟨rfl, h.symm⟩
    | 1 => simp [setL2] at h
    | i + 2 => simp [setL2] at h; exact Or.inr ⟨by omega, by omega, by simpa using h, fun q => by omega⟩
  | x :: L, 1, v, i, w, h => by
    cases i with
    | zero =>
      simp only [setL2, List.getElem?_cons_zero, Option.some.injEq] at h
      split at h
      · cases h
      · next hn =>
        subst h
        refine Or.inr ⟨by omega, by omega, rfl, fun _ => ?_⟩
        match w with
        | .inl z => rfl
        | .inr (.inl z) => simp [isLg] at hn
        | .inr (.inr r) => rfl
    | succ i =>
      simp only [setL2, List.getElem?_cons_succ] at h
      rcases setL2_get L 0 v i w h with ⟨a, b⟩ | ⟨a, a2, b, c⟩
      · exact Or.inl ⟨by omega, b⟩
      · exact Or.inr ⟨by omega, by omega, by simpa using b, fun q => by omega⟩
  | x :: L, n + 2, v, i, w, h => by
    cases i with
    | zero =>
      simp only [setL2, List.getElem?_cons_zero] at h
      exact Or.inr ⟨by omega, by omega, by simpa using h, fun q => by omega⟩
    | succ i =>
      simp only [setL2, List.getElem?_cons_succ] at h
      rcases setL2_get L (n + 1) v i w h with ⟨a, b⟩ | ⟨a, a2, b, c⟩
      · exact Or.inl ⟨by omega, b⟩
      · exact Or.inr ⟨by omega, by omega, by simpa using b, fun q => c (by omega)⟩
theorem LH.set {ad : Nat → Nat} {ls ls' : Array Slot} {nL n : Nat} {L : LL} {v : AV} (h : lv_has ls' nL ((n, cv ad v) :: (lvOf ad L).filter (fun q => !(q.1 == n) && !(q.1 + 1 == n && q.2.category == 2)))) : LH ad ls' nL (setL L n v) := by
  refine ⟨h.1, h.2.1, fun i w hw => ?_⟩
  rcases setL_get L n v i w hw with ⟨a, b⟩ | ⟨a, b, c⟩
  · subst a; subst b
    exact h.2.2 _ List.mem_cons_self
  · refine h.2.2 (i, cv ad w) (List.mem_cons_of_mem _ (List.mem_filter.mpr ⟨lvOf_mem b, ?_⟩))
    by_cases hc : i + 1 = n
    · have h2 := c hc
      simp [a, cat_cv, h2]
    · simp [a, hc]
theorem LH.set2 {ad : Nat → Nat} {ls ls' : Array Slot} {nL n : Nat} {L : LL} {v : AV} (h : lv_has ls' nL ((n, cv ad v) :: (lvOf ad L).filter (fun q => !(q.1 == n) && (!(q.1 == n + 1) && !(q.1 + 1 == n && q.2.category == 2))))) : LH ad ls' nL (setL2 L n v) := by
  refine ⟨h.1, h.2.1, fun i w hw => ?_⟩
  rcases setL2_get L n v i w hw with ⟨a, b⟩ | ⟨a, a2, b, c⟩
  · subst a; subst b
    exact h.2.2 _ List.mem_cons_self
  · refine h.2.2 (i, cv ad w) (List.mem_cons_of_mem _ (List.mem_filter.mpr ⟨lvOf_mem b, ?_⟩))
    by_cases hc : i + 1 = n
    · have h2 := c hc
      simp [a, a2, cat_cv, h2]
    · simp [a, a2, hc]
theorem maskL_get : ∀ (bs : List Bool) (L : LL) (i : Nat) (w : AV), (maskL bs L)[i]? = some (some w) → L[i]? = some (some w)
  | [], L, i, w, h => by simp [maskL] at h
  | b :: bs, [], i, w, h => by
    cases i with
    | zero => simp [maskL] at h
    | succ i =>
      simp only [maskL, List.getElem?_cons_succ] at h
      exact absurd (maskL_get bs [] i w h) (by simp)
  | b :: bs, x :: L, i, w, h => by
    cases i with
    | zero =>
      simp only [maskL, List.getElem?_cons_zero, Option.some.injEq] at h
      split at h
      · subst h; rfl
      · cases h
    | succ i =>
      simp only [maskL, List.getElem?_cons_succ] at h
      simpa using maskL_get bs L i w h
theorem LH.mask {ad : Nat → Nat} {ls : Array Slot} {nL : Nat} {L : LL} (h : LH ad ls nL L) (bs : List Bool) : LH ad ls nL (maskL bs L) := ⟨h.1, h.2.1, fun i v hv => h.2.2 i v (maskL_get bs L i v hv)⟩
theorem entL_get {ad : Nat → Nat} : ∀ (vs : List AV) (i : Nat) (w : AV) (j : Nat), (entL vs)[i]? = some (some w) → (j + i, cv ad w) ∈ lv_args j (vs.map (cv ad))
  | [], i, w, j, h => by simp [entL] at h
  | .inr (.inl z) :: vs, i, w, j, h => by
    match i with
    | 0 => simp [entL] at h; subst h; exact List.mem_cons_self
    | 1 => simp [entL] at h
    | i + 2 =>
      simp only [entL, List.getElem?_cons_succ] at h
      have := entL_get (ad := ad) vs i w (j + 2) h
      refine List.mem_cons_of_mem _ ?_
      rw [if_pos (show (cv ad (.inr (.inl z))).category = 2 from rfl), show j + (i + 2) = j + 2 + i from by omega]
      exact this
  | .inl z :: vs, i, w, j, h => by
    match i with
    | 0 => simp [entL] at h; subst h; exact List.mem_cons_self
    | i + 1 =>
      simp only [entL, List.getElem?_cons_succ] at h
      have := entL_get (ad := ad) vs i w (j + 1) h
      refine List.mem_cons_of_mem _ ?_
      rw [if_neg (by rw [cat_cv]; show ¬ 1 = 2; decide), show j + (i + 1) = j + 1 + i from by omega]
      exact this
  | .inr (.inr r) :: vs, i, w, j, h => by
    match i with
    | 0 => simp [entL] at h; subst h; exact List.mem_cons_self
    | i + 1 =>
      simp only [entL, List.getElem?_cons_succ] at h
      have := entL_get (ad := ad) vs i w (j + 1) h
      refine List.mem_cons_of_mem _ ?_
      rw [if_neg (by rw [cat_cv]; show ¬ 1 = 2; decide), show j + (i + 1) = j + 1 + i from by omega]
      exact this
theorem entL_len {ad : Nat → Nat} : ∀ (vs : List AV), (lg_sl (vs.map (cv ad))).length = (entL vs).length
  | [] => rfl
  | .inr (.inl z) :: vs => by
    have := entL_len (ad := ad) vs
    simp only [List.map_cons, lg_sl, List.flatMap_cons, List.length_append] at this ⊢
    rw [if_pos (show (cv ad (.inr (.inl z))).category = 2 from rfl)]
    simp only [entL, List.length_cons]
    rw [← this]
    simp [lg_sl]; omega
  | .inl z :: vs => by
    have := entL_len (ad := ad) vs
    simp only [List.map_cons, lg_sl, List.flatMap_cons, List.length_append] at this ⊢
    rw [if_neg (by rw [cat_cv]; show ¬ 1 = 2; decide)]
    simp only [entL, List.length_cons]
    rw [← this]
    simp [lg_sl]; omega
  | .inr (.inr r) :: vs => by
    have := entL_len (ad := ad) vs
    simp only [List.map_cons, lg_sl, List.flatMap_cons, List.length_append] at this ⊢
    rw [if_neg (by rw [cat_cv]; show ¬ 1 = 2; decide)]
    simp only [entL, List.length_cons]
    rw [← this]
    simp [lg_sl]; omega
theorem LH.entry {ad : Nat → Nat} {vs : List AV} {n : Nat} (h : (entL vs).length ≤ n) : LH ad ((lg_sl (vs.map (cv ad)) ++ List.replicate (n - (lg_sl (vs.map (cv ad))).length) Slot.unset).toArray) n (entL vs) := by
  have h1 := lv_entry (vs.map (cv ad)) (n := n) (by rw [entL_len]; exact h)
  refine ⟨h1.1, h1.2.1, fun i v hv => ?_⟩
  have := h1.2.2 _ (entL_get (ad := ad) vs i v 0 hv)
  simpa using this
theorem entL_mem : ∀ (vs : List AV) (i : Nat) (w : AV), (entL vs)[i]? = some (some w) → w ∈ vs
  | [], i, w, h => by simp [entL] at h
  | .inr (.inl z) :: vs, i, w, h => by
    match i with
    | 0 => simp [entL] at h; subst h; exact List.mem_cons_self
    | 1 => simp [entL] at h
    | i + 2 =>
      simp only [entL, List.getElem?_cons_succ] at h
      exact List.mem_cons_of_mem _ (entL_mem vs i w h)
  | .inl z :: vs, i, w, h => by
    match i with
    | 0 => simp [entL] at h; subst h; exact List.mem_cons_self
    | i + 1 =>
      simp only [entL, List.getElem?_cons_succ] at h
      exact List.mem_cons_of_mem _ (entL_mem vs i w h)
  | .inr (.inr r) :: vs, i, w, h => by
    match i with
    | 0 => simp [entL] at h; subst h; exact List.mem_cons_self
    | i + 1 =>
      simp only [entL, List.getElem?_cons_succ] at h
      exact List.mem_cons_of_mem _ (entL_mem vs i w h)

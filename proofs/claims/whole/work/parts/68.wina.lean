/-! ===== wins: which rests lose ===== -/
def alN (p : Nat → Bool) : Nat → Bool
  | 0 => true
  | n + 1 => alN p n && p n
def exN (p : Nat → Bool) : Nat → Bool
  | 0 => false
  | n + 1 => exN p n || p n
theorem alN_t {p : Nat → Bool} : ∀ {n : Nat}, alN p n = true → ∀ i, i < n → p i = true := by
  intro n
  induction n with
  | zero => intro _ i hi; omega
  | succ n ih =>
    intro h i hi
    rw [alN, Bool.and_eq_true] at h
    by_cases c : i = n
    · rw [c]; exact h.2
    · exact ih h.1 i (by omega)
theorem exN_t {p : Nat → Bool} : ∀ {n : Nat}, exN p n = true → ∃ i, i < n ∧ p i = true := by
  intro n
  induction n with
  | zero => intro h; cases h
  | succ n ih =>
    intro h
    rw [exN, Bool.or_eq_true] at h
    rcases h with h | h
    · obtain ⟨i, a, b⟩ := ih h
      exact ⟨i, by omega, b⟩
    · exact ⟨n, by omega, h⟩
def lz (a b c d : Nat) (ll : Bool) : Bool := Nat.beq (Nat.xor (Nat.xor (Nat.xor (Nat.xor 0 a) b) c) d) (cond (ll && ((((true && Nat.ble a 1) && Nat.ble b 1) && Nat.ble c 1) && Nat.ble d 1)) 1 0)
def ckA (a b c d : Nat) (ll : Bool) : Bool := !(lz a b c d ll) || (alN (fun v => Nat.beq v a || !(lz v b c d ll)) 7 && (alN (fun v => Nat.beq v b || !(lz a v c d ll)) 7 && (alN (fun v => Nat.beq v c || !(lz a b v d ll)) 7 && alN (fun v => Nat.beq v d || !(lz a b c v ll)) 7)))
def ckB (a b c d : Nat) (ll : Bool) : Bool := lz a b c d ll || ((Nat.beq a 0 && (Nat.beq b 0 && (Nat.beq c 0 && Nat.beq d 0))) || (exN (fun v => lz v b c d ll) a || (exN (fun v => lz a v c d ll) b || (exN (fun v => lz a b v d ll) c || exN (fun v => lz a b c v ll) d))))
theorem ckA_v : alN (fun a => alN (fun b => alN (fun c => alN (fun d => ckA a b c d true && ckA a b c d false) 7) 7) 7) 7 = true := by decide +kernel
theorem ckB_v : alN (fun a => alN (fun b => alN (fun c => alN (fun d => ckB a b c d true && ckB a b c d false) 7) 7) 7) 7 = true := by decide +kernel
theorem ckA_t {a b c d : Nat} (ha : a < 7) (hb : b < 7) (hc : c < 7) (hd : d < 7) (ll : Bool) : ckA a b c d ll = true := by
  have h := alN_t (alN_t (alN_t (alN_t ckA_v a ha) b hb) c hc) d hd
  rw [Bool.and_eq_true] at h
  cases ll
  · exact h.2
  · exact h.1
theorem ckB_t {a b c d : Nat} (ha : a < 7) (hb : b < 7) (hc : c < 7) (hd : d < 7) (ll : Bool) : ckB a b c d ll = true := by
  have h := alN_t (alN_t (alN_t (alN_t ckB_v a ha) b hb) c hc) d hd
  rw [Bool.and_eq_true] at h
  cases ll
  · exact h.2
  · exact h.1
theorem lzA {a b c d : Nat} {ll : Bool} (ha : a < 7) (hb : b < 7) (hc : c < 7) (hd : d < 7) (h : lz a b c d ll = true) : (∀ v, v < 7 → ¬ v = a → lz v b c d ll = false) ∧ (∀ v, v < 7 → ¬ v = b → lz a v c d ll = false) ∧ (∀ v, v < 7 → ¬ v = c → lz a b v d ll = false) ∧ (∀ v, v < 7 → ¬ v = d → lz a b c v ll = false) := by
  have k := ckA_t ha hb hc hd ll
  rw [ckA, h, Bool.not_true, Bool.false_or, Bool.and_eq_true, Bool.and_eq_true, Bool.and_eq_true] at k
  have f : ∀ {x v : Nat} {q : Bool}, (Nat.beq v x || !q) = true → ¬ v = x → q = false := by
    intro x v q hq hv
    rw [Bool.or_eq_true] at hq
    rcases hq with hq | hq
    · exact absurd (Nat.eq_of_beq_eq_true hq) hv
    · simpa using hq
  exact ⟨fun v hv nv => f (alN_t k.1 v hv) nv, fun v hv nv => f (alN_t k.2.1 v hv) nv, fun v hv nv => f (alN_t k.2.2.1 v hv) nv, fun v hv nv => f (alN_t k.2.2.2 v hv) nv⟩
theorem lzB {a b c d : Nat} {ll : Bool} (ha : a < 7) (hb : b < 7) (hc : c < 7) (hd : d < 7) (h : lz a b c d ll = false) (nz : ¬ (a = 0 ∧ b = 0 ∧ c = 0 ∧ d = 0)) : (∃ v, v < a ∧ lz v b c d ll = true) ∨ (∃ v, v < b ∧ lz a v c d ll = true) ∨ (∃ v, v < c ∧ lz a b v d ll = true) ∨ (∃ v, v < d ∧ lz a b c v ll = true) := by
  have k := ckB_t ha hb hc hd ll
  rw [ckB, h, Bool.false_or, Bool.or_eq_true, Bool.or_eq_true, Bool.or_eq_true, Bool.or_eq_true] at k
  rcases k with k | k | k | k | k
  · rw [Bool.and_eq_true, Bool.and_eq_true, Bool.and_eq_true] at k
    exact absurd ⟨Nat.eq_of_beq_eq_true k.1, Nat.eq_of_beq_eq_true k.2.1, Nat.eq_of_beq_eq_true k.2.2.1, Nat.eq_of_beq_eq_true k.2.2.2⟩ nz
  · exact Or.inl (exN_t k)
  · exact Or.inr (Or.inl (exN_t k))
  · exact Or.inr (Or.inr (Or.inl (exN_t k)))
  · exact Or.inr (Or.inr (Or.inr (exN_t k)))
def rr (mo x : Int) : Nat := (x % (mo + 1)).toNat
theorem rr_b {mo : Int} (m1 : 1 ≤ mo) (m6 : mo ≤ 6) (x : Int) : rr mo x < 7 ∧ ((rr mo x : Nat) : Int) = x % (mo + 1) := by
  have := emod_r (a := x) (b := mo + 1) (by omega)
  unfold rr
  omega
def loH (mo : Int) (ll : Bool) (f : Int → Int) : Bool := lz (rr mo (f 0)) (rr mo (f 1)) (rr mo (f 2)) (rr mo (f 3)) ll
/-- the rest that a number's taking leaves -/
theorem rr_m {mo x t : Int} (m1 : 1 ≤ mo) (m6 : mo ≤ 6) (t1 : 1 ≤ t) (tm : t ≤ mo) : ¬ rr mo (x - t) = rr mo x := by
  intro c
  have h1 := (rr_b m1 m6 x).2
  have h2 := (rr_b m1 m6 (x - t)).2
  rw [c, h1, Int.emod_eq_emod_iff_emod_sub_eq_zero, show x - (x - t) = t by omega, Int.emod_eq_of_lt (by omega) (by omega)] at h2
  omega
theorem rr_s {mo x : Int} {v : Nat} (m1 : 1 ≤ mo) (m6 : mo ≤ 6) (hv : v < rr mo x) : rr mo (x - ((rr mo x : Nat) - (v : Nat) : Int)) = v := by
  have h1 := (rr_b m1 m6 x).2
  have hm := emod_r (a := x) (b := mo + 1) (by omega)
  have e : x - ((rr mo x : Nat) - (v : Nat) : Int) = (mo + 1) * (x / (mo + 1)) + v := by
    have := Int.mul_ediv_add_emod x (mo + 1)
    omega
  rw [e]
  unfold rr at *
  rw [Int.mul_add_emod_self_left, Int.emod_eq_of_lt (by omega) (by omega)]
  omega
def pw (p : Int) : Int := if p = 0 then 1 else if p = 1 then 13 else if p = 2 then 169 else 2197
def dgI (s p : Int) : Int := s / pw p % 13
def lgM (mo s p t : Int) : Prop := 0 ≤ p ∧ p < 4 ∧ 1 ≤ t ∧ t ≤ mo ∧ t ≤ dgI s p
theorem dg_v (s : Int) : dgI s 0 = s / 1 % 13 ∧ dgI s 1 = s / 13 % 13 ∧ dgI s 2 = s / 169 % 13 ∧ dgI s 3 = s / 2197 % 13 := ⟨rfl, rfl, rfl, rfl⟩
theorem dg_mv {s : Int} (s0 : 0 ≤ s) (s1 : s < 28561) : (∀ t, 0 ≤ t → t ≤ dgI s 0 → (dgI (s - t * pw 0) 0 = dgI s 0 - t ∧ dgI (s - t * pw 0) 1 = dgI s 1 ∧ dgI (s - t * pw 0) 2 = dgI s 2 ∧ dgI (s - t * pw 0) 3 = dgI s 3)) ∧ (∀ t, 0 ≤ t → t ≤ dgI s 1 → (dgI (s - t * pw 1) 0 = dgI s 0 ∧ dgI (s - t * pw 1) 1 = dgI s 1 - t ∧ dgI (s - t * pw 1) 2 = dgI s 2 ∧ dgI (s - t * pw 1) 3 = dgI s 3)) ∧ (∀ t, 0 ≤ t → t ≤ dgI s 2 → (dgI (s - t * pw 2) 0 = dgI s 0 ∧ dgI (s - t * pw 2) 1 = dgI s 1 ∧ dgI (s - t * pw 2) 2 = dgI s 2 - t ∧ dgI (s - t * pw 2) 3 = dgI s 3)) ∧ (∀ t, 0 ≤ t → t ≤ dgI s 3 → (dgI (s - t * pw 3) 0 = dgI s 0 ∧ dgI (s - t * pw 3) 1 = dgI s 1 ∧ dgI (s - t * pw 3) 2 = dgI s 2 ∧ dgI (s - t * pw 3) 3 = dgI s 3 - t)) := by
  have p0 : pw 0 = 1 := rfl
  have p1 : pw 1 = 13 := rfl
  have p2 : pw 2 = 169 := rfl
  have p3 : pw 3 = 2197 := rfl
  unfold dgI
  rw [p0, p1, p2, p3]
  refine ⟨fun t t0 t1 => ?_, fun t t0 t1 => ?_, fun t t0 t1 => ?_, fun t t0 t1 => ?_⟩ <;> refine ⟨?_, ?_, ?_, ?_⟩ <;> omega
theorem dg_b (s p : Int) : 0 ≤ dgI s p ∧ dgI s p < 13 := emod_r (by decide)
def loS (mo : Int) (ll : Bool) (s : Int) : Bool := loH mo ll (dgI s)
theorem four {p : Int} (h0 : 0 ≤ p) (h4 : p < 4) : p = 0 ∨ p = 1 ∨ p = 2 ∨ p = 3 := by omega
theorem loS_step {mo s : Int} {ll so an : Bool} (m1 : 1 ≤ mo) (m6 : mo ≤ 6) (s0 : 0 ≤ s) (s1 : s < 28561) (h1 : so = true → ∃ p t, lgM mo s p t ∧ loS mo ll (s - t * pw p) = true) (h2 : ∀ p t, lgM mo s p t → loS mo ll (s - t * pw p) = true → so = true) (h3 : an = true → ∃ p t, lgM mo s p t) (h4 : ∀ p t, lgM mo s p t → an = true) : (if an = true then so else ll) = !(loS mo ll s) := by
  obtain ⟨v0, v1, v2, v3⟩ := dg_mv s0 s1
  have rb := fun x => (rr_b m1 m6 x).1
  have rv := fun x => (rr_b m1 m6 x).2
  have q0 : ∀ t, 0 ≤ t → t ≤ dgI s 0 → loS mo ll (s - t * pw 0) = lz (rr mo (dgI s 0 - t)) (rr mo (dgI s 1)) (rr mo (dgI s 2)) (rr mo (dgI s 3)) ll := fun t a b => by
    have w := v0 t a b
    rw [loS, loH, w.1, w.2.1, w.2.2.1, w.2.2.2]
  have q1 : ∀ t, 0 ≤ t → t ≤ dgI s 1 → loS mo ll (s - t * pw 1) = lz (rr mo (dgI s 0)) (rr mo (dgI s 1 - t)) (rr mo (dgI s 2)) (rr mo (dgI s 3)) ll := fun t a b => by
    have w := v1 t a b
    rw [loS, loH, w.1, w.2.1, w.2.2.1, w.2.2.2]
  have q2 : ∀ t, 0 ≤ t → t ≤ dgI s 2 → loS mo ll (s - t * pw 2) = lz (rr mo (dgI s 0)) (rr mo (dgI s 1)) (rr mo (dgI s 2 - t)) (rr mo (dgI s 3)) ll := fun t a b => by
    have w := v2 t a b
    rw [loS, loH, w.1, w.2.1, w.2.2.1, w.2.2.2]
  have q3 : ∀ t, 0 ≤ t → t ≤ dgI s 3 → loS mo ll (s - t * pw 3) = lz (rr mo (dgI s 0)) (rr mo (dgI s 1)) (rr mo (dgI s 2)) (rr mo (dgI s 3 - t)) ll := fun t a b => by
    have w := v3 t a b
    rw [loS, loH, w.1, w.2.1, w.2.2.1, w.2.2.2]
  have es : loS mo ll s = lz (rr mo (dgI s 0)) (rr mo (dgI s 1)) (rr mo (dgI s 2)) (rr mo (dgI s 3)) ll := rfl
  cases hL : loS mo ll s with
  | true =>
    rw [es] at hL
    have A := lzA (rb _) (rb _) (rb _) (rb _) hL
    have nso : so = false := by
      cases c : so with
      | false => rfl
      | true =>
        obtain ⟨p, t, ⟨p0, p4, t1, tm, td⟩, hl⟩ := h1 c
        rcases four p0 p4 with rfl | rfl | rfl | rfl
        · rw [q0 t (by omega) td, A.1 _ (rb _) (rr_m m1 m6 t1 tm)] at hl; cases hl
        · rw [q1 t (by omega) td, A.2.1 _ (rb _) (rr_m m1 m6 t1 tm)] at hl; cases hl
        · rw [q2 t (by omega) td, A.2.2.1 _ (rb _) (rr_m m1 m6 t1 tm)] at hl; cases hl
        · rw [q3 t (by omega) td, A.2.2.2 _ (rb _) (rr_m m1 m6 t1 tm)] at hl; cases hl
    by_cases ca : an = true
    · rw [if_pos ca, nso]; rfl
    · rw [if_neg ca]
      have z : ∀ p, 0 ≤ p → p < 4 → dgI s p = 0 := fun p a b => by
        have := dg_b s p
        by_cases c : dgI s p = 0
        · exact c
        · exact absurd (h4 p 1 ⟨a, b, by decide, m1, by omega⟩) ca
      rw [z 0 (by decide) (by decide), z 1 (by decide) (by decide), z 2 (by decide) (by decide), z 3 (by decide) (by decide), show rr mo 0 = 0 by rw [rr, Int.zero_emod]; rfl] at hL
      cases ll with
      | false => rfl
      | true => exact absurd hL (by decide)
  | false =>
    have yes : ∀ p t, lgM mo s p t → loS mo ll (s - t * pw p) = true → (if an = true then so else ll) = !false := by
      intro p t hl hw
      rw [if_pos (h4 p t hl), h2 p t hl hw]; rfl
    rw [es] at hL
    have le : ∀ x v, v < rr mo x → 0 ≤ x → 1 ≤ ((rr mo x : Nat) - (v : Nat) : Int) ∧ ((rr mo x : Nat) - (v : Nat) : Int) ≤ mo ∧ ((rr mo x : Nat) - (v : Nat) : Int) ≤ x := by
      intro x v hv x0
      have h1 := rv x
      have h2 := emod_r (a := x) (b := mo + 1) (by omega)
      have h3 := Int.mul_ediv_add_emod x (mo + 1)
      have h4 : 0 ≤ (mo + 1) * (x / (mo + 1)) := Int.mul_nonneg (by omega) (Int.ediv_nonneg x0 (by omega))
      omega
    by_cases nz : rr mo (dgI s 0) = 0 ∧ rr mo (dgI s 1) = 0 ∧ rr mo (dgI s 2) = 0 ∧ rr mo (dgI s 3) = 0
    · rw [nz.1, nz.2.1, nz.2.2.1, nz.2.2.2] at hL
      have lt : ll = true := by
        cases ll with
        | true => rfl
        | false => exact absurd hL (by decide)
      by_cases ca : an = true
      · obtain ⟨p, t, p0, p4, t1, tm, td⟩ := h3 ca
        have mm : ∀ x, 1 ≤ x → rr mo x = 0 → mo ≤ x ∧ rr mo (x - mo) = 1 := by
          intro x x1 hx
          have h1 := rv x
          rw [hx] at h1
          have h2 := Int.mul_ediv_add_emod x (mo + 1)
          rw [← h1] at h2
          have h3 : mo + 1 ≤ x := by
            have : (mo + 1) ∣ x := Int.dvd_of_emod_eq_zero h1.symm
            exact Int.le_of_dvd (by omega) this
          refine ⟨by omega, ?_⟩
          have e : x - mo = 1 + (mo + 1) * (x / (mo + 1) - 1) := by
            rw [Int.mul_sub]
            omega
          unfold rr
          rw [e, Int.add_mul_emod_self_left, Int.emod_eq_of_lt (by decide) (by omega)]
          rfl
        rcases four p0 p4 with rfl | rfl | rfl | rfl
        · have w := mm _ (by omega) nz.1
          refine yes 0 mo ⟨by decide, by decide, m1, Int.le_refl _, w.1⟩ ?_
          rw [q0 mo (by omega) w.1, w.2, nz.2.1, nz.2.2.1, nz.2.2.2, lt]; decide
        · have w := mm _ (by omega) nz.2.1
          refine yes 1 mo ⟨by decide, by decide, m1, Int.le_refl _, w.1⟩ ?_
          rw [q1 mo (by omega) w.1, w.2, nz.1, nz.2.2.1, nz.2.2.2, lt]; decide
        · have w := mm _ (by omega) nz.2.2.1
          refine yes 2 mo ⟨by decide, by decide, m1, Int.le_refl _, w.1⟩ ?_
          rw [q2 mo (by omega) w.1, w.2, nz.1, nz.2.1, nz.2.2.2, lt]; decide
        · have w := mm _ (by omega) nz.2.2.2
          refine yes 3 mo ⟨by decide, by decide, m1, Int.le_refl _, w.1⟩ ?_
          rw [q3 mo (by omega) w.1, w.2, nz.1, nz.2.1, nz.2.2.1, lt]; decide
      · rw [if_neg ca, lt]; rfl
    · rcases lzB (rb _) (rb _) (rb _) (rb _) hL nz with ⟨v, hv, hl⟩ | ⟨v, hv, hl⟩ | ⟨v, hv, hl⟩ | ⟨v, hv, hl⟩
      · have w := le _ v hv (dg_b s 0).1
        refine yes 0 _ ⟨by decide, by decide, w.1, w.2.1, w.2.2⟩ ?_
        rw [q0 _ (by omega) w.2.2, rr_s m1 m6 hv]; exact hl
      · have w := le _ v hv (dg_b s 1).1
        refine yes 1 _ ⟨by decide, by decide, w.1, w.2.1, w.2.2⟩ ?_
        rw [q1 _ (by omega) w.2.2, rr_s m1 m6 hv]; exact hl
      · have w := le _ v hv (dg_b s 2).1
        refine yes 2 _ ⟨by decide, by decide, w.1, w.2.1, w.2.2⟩ ?_
        rw [q2 _ (by omega) w.2.2, rr_s m1 m6 hv]; exact hl
      · have w := le _ v hv (dg_b s 3).1
        refine yes 3 _ ⟨by decide, by decide, w.1, w.2.1, w.2.2⟩ ?_
        rw [q3 _ (by omega) w.2.2, rr_s m1 m6 hv]; exact hl

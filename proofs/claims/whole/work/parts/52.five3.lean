def dgt (q c k : Nat) : Nat := c / q ^ (5 - k) % q
theorem dgt_lt {q c k : Nat} (h : 0 < q) : dgt q c k < q := Nat.mod_lt _ h
theorem dg_s {q c v i : Nat} (hi : 0 < i) (h5 : i ≤ 5) (h : v = c / q ^ (5 - i)) : v / q = c / q ^ (5 - (i - 1)) := by
  rw [h, Nat.div_div_eq_div_mul, ← Nat.pow_succ, show (5 - i).succ = 5 - (i - 1) by omega]
theorem dg_le {q c i : Nat} : c / q ^ i ≤ c := Nat.div_le_self _ _
def en6 (q : Nat) (v : Nat → Nat) : Nat → Nat
  | 0 => 0
  | n + 1 => en6 q v n * q + v n
theorem en6_lt {q : Nat} {v : Nat → Nat} : ∀ n, (∀ k, k < n → v k < q) → en6 q v n < q ^ n
  | 0, _ => Nat.one_pos
  | n + 1, h => by
    have ih := en6_lt n (fun k hk => h k (by omega))
    have hv := h n (Nat.lt_succ_self n)
    rw [en6, Nat.pow_succ]
    calc en6 q v n * q + v n < en6 q v n * q + q := by omega
      _ = (en6 q v n + 1) * q := by rw [Nat.add_mul, Nat.one_mul]
      _ ≤ q ^ n * q := Nat.mul_le_mul_right q ih
theorem en6_div {q m : Nat} {v : Nat → Nat} : ∀ j, (∀ k, k < m + j → v k < q) → en6 q v (m + j) / q ^ j = en6 q v m
  | 0, _ => by rw [Nat.pow_zero, Nat.div_one]; rfl
  | j + 1, h => by
    have hv := h (m + j) (by omega)
    have q0 : 0 < q := by omega
    rw [show m + (j + 1) = (m + j) + 1 from rfl, en6, Nat.pow_succ, Nat.mul_comm (q ^ j) q, ← Nat.div_div_eq_div_mul, Nat.mul_comm (en6 q v (m + j)) q, Nat.mul_add_div q0, Nat.div_eq_of_lt hv, Nat.add_zero]
    exact en6_div j (fun k hk => h k (by omega))
theorem dgt_en {q k : Nat} {v : Nat → Nat} (h : ∀ k, k < 6 → v k < q) (hk : k < 6) : dgt q (en6 q v 6) k = v k := by
  have e := en6_div (q := q) (m := k + 1) (v := v) (5 - k) (fun j hj => h j (by omega))
  rw [show k + 1 + (5 - k) = 6 by omega] at e
  rw [dgt, e, en6, Nat.mul_comm, Nat.mul_add_mod, Nat.mod_eq_of_lt (h k hk)]
theorem R_sl6 {R : Type} (I : Lean.Grind.CommRing R) (x0 x1 x2 x3 x4 x5 y0 y1 y2 y3 y4 y5 c : R) : (x0 * c) * y0 + (x1 * c) * y1 + (x2 * c) * y2 + (x3 * c) * y3 + (x4 * c) * y4 + (x5 * c) * y5 = (x0 * y0 + x1 * y1 + x2 * y2 + x3 * y3 + x4 * y4 + x5 * y5) * c := by grind
theorem sm6_sl {q c : Nat} {x y : Nat → Nat} (hq : q ∈ qs) (hx : lt6 q x) (hy : lt6 q y) (hc : c < q) : sm6 q (fun k => fmul q (x k) c) y = fmul q (sm6 q x y) c := congrArg Subtype.val (R_sl6 (fqR hq) ⟨x 0, hx 0 (by decide)⟩ ⟨x 1, hx 1 (by decide)⟩ ⟨x 2, hx 2 (by decide)⟩ ⟨x 3, hx 3 (by decide)⟩ ⟨x 4, hx 4 (by decide)⟩ ⟨x 5, hx 5 (by decide)⟩ ⟨y 0, hy 0 (by decide)⟩ ⟨y 1, hy 1 (by decide)⟩ ⟨y 2, hy 2 (by decide)⟩ ⟨y 3, hy 3 (by decide)⟩ ⟨y 4, hy 4 (by decide)⟩ ⟨y 5, hy 5 (by decide)⟩ ⟨c, hc⟩)
theorem F_d1 : ∀ q ∈ qs, ∀ a, a < q → fdiv q a 1 = a ∧ fmul q a (finv q a) = (if a = 0 then 0 else 1) := by decide +kernel
theorem tld1 {q k : Nat} {y : Nat → Nat} (hq : q ∈ qs) (hy : lt6 q y) (h : hdf y 6 = 1) (hk : k < 6) : tldq q y k = y k := by
  rw [← set_tld hq hy (by rw [h]; decide) hk, h]
  exact (F_d1 q hq _ (hy k hk)).1
theorem hdf_tld {q : Nat} {y : Nat → Nat} (hq : q ∈ qs) (hy : lt6 q y) (h : ¬ hdf y 6 = 0) : hdf (tldq q y) 6 = 1 := by
  have hl := hdf_lt (q := q) (f := y) (n := 6) (by have := qs_le hq; omega) hy
  have hi := finv_lt hq hl
  have hi0 := (F_z q hq 0 (by have := qs_le hq; omega) _ hl).2 h
  have e : hdf (tldq q y) 6 = hdf (fun k => fmul q (finv q (hdf y 6)) (y k)) 6 := hdf_congr (fun t ht => by
    rw [← set_tld hq hy h ht, fdiv, F_comm hq (hy t ht) hi])
  rw [e, hdf_sc hq hi hi0 hy, F_comm hq hi hl, (F_d1 q hq _ hl).2, if_neg h]
theorem thr_tld {q : Nat} {S : Nat → Bool} {y : Nat → Nat} (hq : q ∈ qs) (h : sol6 q S y) : thrS q S (tldq q y) := fun t ht s => by
  have hl := hdf_lt (q := q) (f := y) (n := 6) (by have := qs_le hq; omega) h.1
  have e : crv q (tldq q y) t = crv q (fun k => fmul q (y k) (finv q (hdf y 6))) t := sm6_congr (fun k hk => by rw [← set_tld hq h.1 h.2.2 hk, fdiv])
  have e2 : crv q (fun k => fmul q (y k) (finv q (hdf y 6))) t = fmul q (crv q y t) (finv q (hdf y 6)) := sm6_sl hq h.1 (trm6 hq ht) (finv_lt hq hl)
  rw [e, e2, h.2.1 t ht s, F_0 hq (finv_lt hq hl)]
/-- the number whose digits are the curve's -/
noncomputable def thrC (q : Nat) (S : Nat → Bool) : Nat := en6 q (thrV q S) 6
def pasB (q : Nat) (S : Nat → Bool) (c : Nat) : Bool := allB (fun t => !S t || (crv q (dgt q c) t == 0)) (nn q)
def oneB (q c : Nat) : Bool := decide (hdf (dgt q c) 6 = 1)
theorem pas_iff {q c : Nat} {S : Nat → Bool} : pasB q S c = true ↔ thrS q S (dgt q c) := by
  rw [pasB, allB_iff]
  constructor
  · intro w t ht s
    have := w t ht
    rw [s] at this
    simpa using this
  · intro w t ht
    cases s : S t
    · rfl
    · rw [w t ht s]; rfl
theorem thrV_lt {q : Nat} {S : Nat → Bool} (hq : q ∈ qs) (h : fiv q S) : lt6 q (thrV q S) := fun k hk => tld_lt hq hk (thr_sol hq h).1
theorem thrC_ok {q : Nat} {S : Nat → Bool} (hq : q ∈ qs) (h : fiv q S) : thrC q S < 531441 ∧ oneB q (thrC q S) = true ∧ pasB q S (thrC q S) = true := by
  have hs := thr_sol hq h
  have hl := thrV_lt hq h
  have e : ∀ k, k < 6 → dgt q (thrC q S) k = thrV q S k := fun k hk => dgt_en hl hk
  refine ⟨?_, ?_, pas_iff.mpr (fun t ht s => ?_)⟩
  · have h1 := en6_lt (q := q) (v := thrV q S) 6 hl
    have h2 : q ^ 6 ≤ 9 ^ 6 := Nat.pow_le_pow_left (qs_le hq).2 6
    rw [thrC]; exact Nat.lt_of_lt_of_le h1 h2
  · rw [oneB, decide_eq_true_iff, hdf_congr e]; exact hdf_tld hq hs.1 hs.2.2
  · have e2 : crv q (dgt q (thrC q S)) t = crv q (tldq q (thrY q S)) t := sm6_congr e
    rw [e2]; exact thr_tld hq hs t ht s
theorem thrC_u {q c k : Nat} {S : Nat → Bool} (hq : q ∈ qs) (h : fiv q S) (h1 : oneB q c = true) (h2 : pasB q S c = true) (hk : k < 6) : dgt q c k = thrV q S k := by
  have q0 : 0 < q := by have := qs_le hq; omega
  have h1 := of_decide_eq_true h1
  have hl : lt6 q (dgt q c) := fun k _ => dgt_lt q0
  rw [← tld1 hq hl h1 hk]
  exact thr_V hq h ⟨hl, pas_iff.mp h2, by rw [h1]; decide⟩ hk
theorem thrC_pos {q : Nat} {S : Nat → Bool} (hq : q ∈ qs) (h : fiv q S) : 1 ≤ thrC q S := by
  rcases Nat.eq_zero_or_pos (thrC q S) with z | z
  · have := (thrC_ok hq h).2.1
    rw [z] at this
    have e : hdf (dgt q 0) 6 = hdf (fun _ => 0) 6 := hdf_congr (fun t _ => by rw [dgt, Nat.zero_div, Nat.zero_mod])
    rw [oneB, e] at this
    exact absurd this (by decide)
  · exact z
theorem u6_dg {q c : Nat} : ∀ k, k < 6 → u6 (dgt q c 0) (dgt q c 1) (dgt q c 2) (dgt q c 3) (dgt q c 4) (dgt q c 5) k = dgt q c k := all6 rfl rfl rfl rfl rfl rfl
theorem crv_dg {q c t : Nat} : crv q (u6 (dgt q c 0) (dgt q c 1) (dgt q c 2) (dgt q c 3) (dgt q c 4) (dgt q c 5)) t = crv q (dgt q c) t := sm6_congr u6_dg
theorem fl_f {y b A P : Bool} (h : y = (b && A)) (z : y = false) : false = (b && (A && P)) := by
  rw [z] at h; cases b <;> cases A <;> first | rfl | cases h
theorem fl_0 {b A : Bool} {P : Prop} {I : Decidable P} (z : ¬ P) : false = (b && (A && decide P)) := by
  rw [decide_eq_false z]; cases b <;> cases A <;> rfl
theorem fl_1 {y b A : Bool} {P : Prop} {I : Decidable P} (h : y = (b && A)) (z : y = true) (p : P) : true = (b && (A && decide P)) := by
  rw [decide_eq_true p, Bool.and_true, ← h, z]

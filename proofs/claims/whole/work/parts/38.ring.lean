def FQ (q : Nat) : Type := {x : Nat // x < q}
def fq0 {q : Nat} (hq : q ∈ qs) : FQ q := ⟨0, by have := qs_le hq; omega⟩
def fq1 {q : Nat} (hq : q ∈ qs) : FQ q := ⟨1, by have := qs_le hq; omega⟩
def fqa {q : Nat} (hq : q ∈ qs) (a b : FQ q) : FQ q := ⟨fadd q a.1 b.1, fadd_lt hq a.2 b.2⟩
def fqm {q : Nat} (hq : q ∈ qs) (a b : FQ q) : FQ q := ⟨fmul q a.1 b.1, fmul_lt hq a.2 b.2⟩
def fqn {q : Nat} (hq : q ∈ qs) (a : FQ q) : FQ q := ⟨fneg q a.1, fneg_lt hq a.2⟩
def fqs {q : Nat} (hq : q ∈ qs) (a b : FQ q) : FQ q := ⟨fsub q a.1 b.1, fsub_lt hq a.2 b.2⟩
def fqN {q : Nat} (hq : q ∈ qs) : Nat → FQ q
  | 0 => fq0 hq
  | 1 => fq1 hq
  | n + 2 => fqa hq (fqN hq (n + 1)) (fq1 hq)
def fqZ {q : Nat} (hq : q ∈ qs) : Int → FQ q
  | .ofNat n => fqN hq n
  | .negSucc n => fqn hq (fqN hq (n + 1))
def fqP {q : Nat} (hq : q ∈ qs) (a : FQ q) : Nat → FQ q
  | 0 => fq1 hq
  | n + 1 => fqm hq (fqP hq a n) a
theorem F_n1 : ∀ q ∈ qs, ∀ a, a < q → fadd q (fneg q a) a = 0 ∧ fneg q (fneg q a) = a ∧ fneg q 0 = 0 := by decide +kernel
theorem F_n2 : ∀ q ∈ qs, ∀ a, a < q → ∀ b, b < q → fmul q (fneg q a) b = fneg q (fmul q a b) := by decide +kernel
theorem fqN_s {q : Nat} (hq : q ∈ qs) : ∀ n, fqN hq (n + 1) = fqa hq (fqN hq n) (fq1 hq)
  | 0 => Subtype.ext (by
    have h1 : 1 < q := by have := qs_le hq; omega
    exact ((F_t1 q hq 1 h1).2.2.2.1).symm)
  | _ + 1 => rfl
theorem fqZ_n {q : Nat} (hq : q ∈ qs) : ∀ i : Int, fqZ hq (-i) = fqn hq (fqZ hq i)
  | .ofNat 0 => Subtype.ext ((F_n1 q hq 0 (by have := qs_le hq; omega)).2.2.symm)
  | .ofNat (n + 1) => rfl
  | .negSucc n => Subtype.ext ((F_n1 q hq _ (fqN hq (n + 1)).2).2.1.symm)
def fqR {q : Nat} (hq : q ∈ qs) : Lean.Grind.CommRing (FQ q) where
  add := fqa hq
  mul := fqm hq
  natCast := ⟨fqN hq⟩
  ofNat := fun n => ⟨fqN hq n⟩
  nsmul := ⟨fun n a => fqm hq (fqN hq n) a⟩
  npow := ⟨fqP hq⟩
  add_zero := fun a => Subtype.ext (F_t1 q hq _ a.2).2.2.1
  add_comm := fun a b => Subtype.ext (F_t2 q hq _ a.2 _ b.2).2.2.1
  add_assoc := fun a b c => Subtype.ext (F_t3 q hq _ a.2 _ b.2 _ c.2).1
  mul_assoc := fun a b c => Subtype.ext (F_t3 q hq _ a.2 _ b.2 _ c.2).2.1
  mul_one := fun a => Subtype.ext (F_t1 q hq _ a.2).2.2.2.2.1
  one_mul := fun a => Subtype.ext (F_t1 q hq _ a.2).2.2.2.2.2.1
  left_distrib := fun a b c => Subtype.ext (F_t3 q hq _ a.2 _ b.2 _ c.2).2.2
  right_distrib := fun a b c => Subtype.ext (F_rd hq a.2 b.2 c.2)
  zero_mul := fun a => Subtype.ext (F_t1 q hq _ a.2).2.2.2.2.2.2.2.1
  mul_zero := fun a => Subtype.ext (F_t1 q hq _ a.2).2.2.2.2.2.2.1
  mul_comm := fun a b => Subtype.ext (F_t2 q hq _ a.2 _ b.2).2.2.2
  pow_zero := fun _ => rfl
  pow_succ := fun _ _ => rfl
  ofNat_succ := fqN_s hq
  ofNat_eq_natCast := fun _ => rfl
  nsmul_eq_natCast_mul := fun _ _ => rfl
  neg := fqn hq
  sub := fqs hq
  intCast := ⟨fqZ hq⟩
  zsmul := ⟨fun i a => fqm hq (fqZ hq i) a⟩
  neg_add_cancel := fun a => Subtype.ext (F_n1 q hq _ a.2).1
  sub_eq_add_neg := fun _ _ => rfl
  neg_zsmul := fun i a => Subtype.ext (by
    show fmul q (fqZ hq (-i)).1 a.1 = fneg q (fmul q (fqZ hq i).1 a.1)
    rw [fqZ_n]; exact F_n2 q hq _ (fqZ hq i).2 _ a.2)
  zsmul_natCast_eq_nsmul := fun _ _ => rfl
  intCast_ofNat := fun _ => rfl
  intCast_neg := fqZ_n hq
/-- the cofactors of a column, and a row of three with them -/
theorem R_adj0 {R : Type} (I : Lean.Grind.CommRing R) (m0 m1 m2 m3 m4 m5 m6 m7 m8 x y z : R) : (m4 * m8 - m5 * m7) * (m0 * x + m1 * y + m2 * z) + (m7 * m2 - m8 * m1) * (m3 * x + m4 * y + m5 * z) + (m1 * m5 - m2 * m4) * (m6 * x + m7 * y + m8 * z) = (m0 * (m4 * m8 - m5 * m7) + m1 * (m5 * m6 - m3 * m8) + m2 * (m3 * m7 - m4 * m6)) * x := by grind
theorem R_adj1 {R : Type} (I : Lean.Grind.CommRing R) (m0 m1 m2 m3 m4 m5 m6 m7 m8 x y z : R) : (m5 * m6 - m3 * m8) * (m0 * x + m1 * y + m2 * z) + (m8 * m0 - m6 * m2) * (m3 * x + m4 * y + m5 * z) + (m2 * m3 - m0 * m5) * (m6 * x + m7 * y + m8 * z) = (m0 * (m4 * m8 - m5 * m7) + m1 * (m5 * m6 - m3 * m8) + m2 * (m3 * m7 - m4 * m6)) * y := by grind
theorem R_adj2 {R : Type} (I : Lean.Grind.CommRing R) (m0 m1 m2 m3 m4 m5 m6 m7 m8 x y z : R) : (m3 * m7 - m4 * m6) * (m0 * x + m1 * y + m2 * z) + (m6 * m1 - m7 * m0) * (m3 * x + m4 * y + m5 * z) + (m0 * m4 - m1 * m3) * (m6 * x + m7 * y + m8 * z) = (m0 * (m4 * m8 - m5 * m7) + m1 * (m5 * m6 - m3 * m8) + m2 * (m3 * m7 - m4 * m6)) * z := by grind

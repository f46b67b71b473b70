theorem nx_and (a b : Nat) : nI a &&& nI b = nI (a &&& b) := by
  apply Int32.toBitVec_inj.1
  show BitVec.ofNat 32 a &&& BitVec.ofNat 32 b = BitVec.ofNat 32 (a &&& b)
  apply BitVec.eq_of_getLsbD_eq
  intro i hi
  simp [hi]
theorem nx_xor (a b : Nat) : nI a ^^^ nI b = nI (a ^^^ b) := by
  apply Int32.toBitVec_inj.1
  show BitVec.ofNat 32 a ^^^ BitVec.ofNat 32 b = BitVec.ofNat 32 (a ^^^ b)
  apply BitVec.eq_of_getLsbD_eq
  intro i hi
  simp [hi]
theorem s_l : ∀ n, n < 32 → ((nI n &&& 31).toBitVec.smod 32).toNat = n := by decide +kernel
theorem nx_shr {x p : Nat} (hx : x < 2 ^ 31) (hp : p < 32) : nI x >>> (nI p &&& 31) = nI (x / 2 ^ p) := pk_shrN hx _ p (s_l p hp)
theorem nx_shl1 {a : Nat} (h : a < 2 ^ 30) : nI a <<< (nI 1 &&& 31) = nI (a * 2) := pk_shlN _ 1 (by decide) (by omega)
theorem mk_1a : ∀ q ∈ qs, ∀ a, a < q → ∀ b, b < q → (q = 4 ∨ q = 8 → a ^^^ b = fadd q a b) := by decide +kernel
theorem mk_1b : ∀ q ∈ qs, ∀ a, a < q → ∀ b, b < q → (q = 9 → (a + b) % 3 + 3 * ((a / 3 + b / 3) % 3) = fadd q a b) := by decide +kernel
theorem mk_1c : ∀ q ∈ qs, ∀ a, a < q → ∀ b, b < q → (q = 4 ∨ q = 8 ∨ q = 9 ∨ fadd q a b = if a + b < q then a + b else a + b - q) := by decide +kernel
theorem mk_1 {q a b : Nat} (hq : q ∈ qs) (ha : a < q) (hb : b < q) (h4 : ¬ q = 4) (h8 : ¬ q = 8) (h9 : ¬ q = 9) : fadd q a b = if a + b < q then a + b else a + b - q := (((mk_1c q hq a ha b hb).resolve_left h4).resolve_left h8).resolve_left h9
/-- the loop of bitProduct, pure: the product so far, the row shifted -/
def bpS (q v a : Nat) : Nat → Nat
  | 0 => a
  | k + 1 => if bpS q v a k * 2 &&& q = 0 then bpS q v a k * 2 else (bpS q v a k * 2) ^^^ v
def bpP (q v a b : Nat) : Nat → Nat
  | 0 => 0
  | k + 1 => if (b / 2 ^ k) &&& 1 = 0 then bpP q v a b k else bpP q v a b k ^^^ bpS q v a k
def okv (q v : Nat) : Prop := (q = 4 ∧ v = 7) ∨ (q = 8 ∧ v = 11)
theorem bp_4 : ∀ a, a < 4 → ∀ b, b < 4 → bpP 4 7 a b 3 = fmul 4 a b ∧ ∀ k, k < 4 → bpS 4 7 a k < 16 ∧ bpP 4 7 a b k < 16 := by decide +kernel
theorem bp_8 : ∀ a, a < 8 → ∀ b, b < 8 → bpP 8 11 a b 3 = fmul 8 a b ∧ ∀ k, k < 4 → bpS 8 11 a k < 16 ∧ bpP 8 11 a b k < 16 := by decide +kernel
theorem bp_lt {q v a b k : Nat} (h : okv q v) (ha : a < q) (hb : b < q) (hk : k < 4) : bpS q v a k < 16 ∧ bpP q v a b k < 16 := by
  rcases h with ⟨rfl, rfl⟩ | ⟨rfl, rfl⟩
  · exact (bp_4 a ha b hb).2 k hk
  · exact (bp_8 a ha b hb).2 k hk
theorem bp_end {q v a b : Nat} (h : okv q v) (ha : a < q) (hb : b < q) : bpP q v a b 3 = fmul q a b := by
  rcases h with ⟨rfl, rfl⟩ | ⟨rfl, rfl⟩
  · exact (bp_4 a ha b hb).1
  · exact (bp_8 a ha b hb).1
theorem mk_2a : ∀ q ∈ qs, ∀ a, a < q → fmul q a 0 = 0 := by decide +kernel
theorem mk_2b : ∀ q ∈ qs, ∀ a, a < q → ∀ b, b < q → (q = 9 → (a * b + 2 * (a / 3) * (b / 3)) % 3 + 3 * ((a * (b / 3) + a / 3 * b) % 3) = fmul q a b) := by decide +kernel
theorem mk_2c : ∀ q ∈ qs, ∀ a, a < q → ∀ b, b + 1 < q → (q = 4 ∨ q = 8 ∨ q = 9 ∨ fadd q (fmul q a b) a = fmul q a (b + 1)) := by
  intro q hq a ha b hb
  exact (by decide +kernel : ∀ q ∈ qs, ∀ a, a < q → ∀ b, b < q - 1 → (q = 4 ∨ q = 8 ∨ q = 9 ∨ fadd q (fmul q a b) a = fmul q a (b + 1))) q hq a ha b (by omega)
theorem mk_2 {q a b : Nat} (hq : q ∈ qs) (ha : a < q) (hb : b + 1 < q) (h4 : ¬ q = 4) (h8 : ¬ q = 8) (h9 : ¬ q = 9) : fadd q (fmul q a b) a = fmul q a (b + 1) := (((mk_2c q hq a ha b hb).resolve_left h4).resolve_left h8).resolve_left h9
theorem mk_u : ∀ q ∈ qs, ∀ a, a < q → ∀ b, b < q → (fadd q a b = 0 ↔ b = fneg q a) ∧ (¬ a = 0 → (fmul q a b = 1 ↔ b = finv q a)) ∧ (fmul q a b = 1 → ¬ a = 0) := by decide +kernel
/-- the tables up to row a, place b -/
def FP (q a b : Nat) (sm pr op iv : Nat → Nat) : Prop := (∀ x y, x < q → y < q → (x < a ∨ x = a ∧ y < b) → sm (x * 9 + y) = fadd q x y ∧ pr (x * 9 + y) = fmul q x y) ∧ (∀ x y, x < q → y < q → (x < a ∨ x = a ∧ y < b) → fadd q x y = 0 → op x = y) ∧ (∀ x y, x < q → y < q → (x < a ∨ x = a ∧ y < b) → fmul q x y = 1 → iv x = y)
theorem FP_0 {q : Nat} {sm pr op iv : Nat → Nat} : FP q 0 0 sm pr op iv := ⟨fun x y _ _ h => by omega, fun x y _ _ h => by omega, fun x y _ _ h => by omega⟩
theorem FP_row {q a : Nat} {sm pr op iv : Nat → Nat} (h : FP q a q sm pr op iv) : FP q (a + 1) 0 sm pr op iv := ⟨fun x y hx hy z => h.1 x y hx hy (by omega), fun x y hx hy z => h.2.1 x y hx hy (by omega), fun x y hx hy z => h.2.2 x y hx hy (by omega)⟩
theorem FP_step {q a b : Nat} {sm pr op iv op' iv' : Nat → Nat} (hq : q ∈ qs) (ha : a < q) (hb : b < q) (h : FP q a b sm pr op iv) (h1 : (fadd q a b = 0 ∧ op' = upN op a b) ∨ (¬ fadd q a b = 0 ∧ op' = op)) (h2 : (fmul q a b = 1 ∧ iv' = upN iv a b) ∨ (¬ fmul q a b = 1 ∧ iv' = iv)) : FP q a (b + 1) (upN sm (a * 9 + b) (fadd q a b)) (upN pr (a * 9 + b) (fmul q a b)) op' iv' := by
  have hq2 := qs_le hq
  refine ⟨fun x y hx hy z => ?_, fun x y hx hy z e => ?_, fun x y hx hy z e => ?_⟩
  · by_cases hxy : x = a ∧ y = b
    · rw [hxy.1, hxy.2, upN_s, upN_s]; exact ⟨rfl, rfl⟩
    · rw [upN_n (by omega), upN_n (by omega)]; exact h.1 x y hx hy (by omega)
  · by_cases hxy : x = a ∧ y = b
    · rcases h1 with ⟨e1, rfl⟩ | ⟨e1, rfl⟩
      · rw [hxy.1, hxy.2, upN_s]
      · rw [hxy.1, hxy.2] at e; exact absurd e e1
    · rcases h1 with ⟨e1, rfl⟩ | ⟨e1, rfl⟩
      · by_cases hxa : x = a
        · have u1 := (mk_u q hq x hx y hy).1.mp e
          rw [hxa] at u1
          have u2 := (mk_u q hq a ha b hb).1.mp e1
          exact absurd ⟨hxa, u1.trans u2.symm⟩ hxy
        · rw [upN_n hxa]; exact h.2.1 x y hx hy (by omega) e
      · exact h.2.1 x y hx hy (by omega) e
  · by_cases hxy : x = a ∧ y = b
    · rcases h2 with ⟨e1, rfl⟩ | ⟨e1, rfl⟩
      · rw [hxy.1, hxy.2, upN_s]
      · rw [hxy.1, hxy.2] at e; exact absurd e e1
    · rcases h2 with ⟨e1, rfl⟩ | ⟨e1, rfl⟩
      · by_cases hxa : x = a
        · have u0 := (mk_u q hq x hx y hy).2.2 e
          have u1 := ((mk_u q hq x hx y hy).2.1 u0).mp e
          rw [hxa] at u1 u0
          have u2 := ((mk_u q hq a ha b hb).2.1 u0).mp e1
          exact absurd ⟨hxa, u1.trans u2.symm⟩ hxy
        · rw [upN_n hxa]; exact h.2.2 x y hx hy (by omega) e
      · exact h.2.2 x y hx hy (by omega) e
theorem FP_end {q : Nat} {sm pr op iv : Nat → Nat} (hq : q ∈ qs) (h : FP q q 0 sm pr op iv) : FOK q sm pr op iv := by
  refine ⟨hq, fun a b ha hb => (h.1 a b ha hb (Or.inl ha)).1, fun a b ha hb => (h.1 a b ha hb (Or.inl ha)).2, fun a ha => ?_, fun a ha h0 => ?_⟩
  · exact h.2.1 a _ ha (fneg_lt hq ha) (Or.inl ha) ((mk_u q hq a ha _ (fneg_lt hq ha)).1.mpr rfl)
  · exact h.2.2 a _ ha (finv_lt hq ha) (Or.inl ha) (((mk_u q hq a ha _ (finv_lt hq ha)).2.1 h0).mpr rfl)

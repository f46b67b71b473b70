theorem nx_shlk {a k : Nat} (hk : k < 32) (h : a * 2 ^ k < 2 ^ 32) : nI a <<< (nI k &&& 31) = nI (a * 2 ^ k) := pk_shlN _ k (s_l k hk) h
def tm1 (a b : Nat) : Nat → Nat
  | 0 => 0
  | k + 1 => if (b / 2 ^ k) &&& 1 = 1 then tm1 a b k ^^^ (a * 2 ^ k) else tm1 a b k
def tm2 (v p : Nat) : Nat → Nat
  | 0 => p
  | m + 1 => if (tm2 v p m / 2 ^ (2 * v - 2 - m)) &&& 1 = 1 then tm2 v p m ^^^ 2 ^ (2 * v - 2 - m) ^^^ (3 * 2 ^ (2 * v - 2 - m - v)) else tm2 v p m
def okw (q v : Nat) : Prop := (q = 4 ∧ v = 2) ∨ (q = 8 ∧ v = 3)
theorem tm_4 : ∀ a, a < 4 → ∀ b, b < 4 → tm2 2 (tm1 a b 2) 1 = fmul 4 a b ∧ (∀ k, k < 4 → tm1 a b k < 64) ∧ ∀ m, m < 3 → tm2 2 (tm1 a b 2) m < 64 := by decide +kernel
theorem tm_8 : ∀ a, a < 8 → ∀ b, b < 8 → tm2 3 (tm1 a b 3) 2 = fmul 8 a b ∧ (∀ k, k < 4 → tm1 a b k < 64) ∧ ∀ m, m < 3 → tm2 3 (tm1 a b 3) m < 64 := by decide +kernel
theorem tm_lt1 {q v a b k : Nat} (h : okw q v) (ha : a < q) (hb : b < q) (hk : k < 4) : tm1 a b k < 64 := by
  rcases h with ⟨rfl, rfl⟩ | ⟨rfl, rfl⟩
  · exact (tm_4 a ha b hb).2.1 k hk
  · exact (tm_8 a ha b hb).2.1 k hk
theorem tm_lt2 {q v a b m : Nat} (h : okw q v) (ha : a < q) (hb : b < q) (hm : m < 3) : tm2 v (tm1 a b v) m < 64 := by
  rcases h with ⟨rfl, rfl⟩ | ⟨rfl, rfl⟩
  · exact (tm_4 a ha b hb).2.2 m hm
  · exact (tm_8 a ha b hb).2.2 m hm
theorem tm_end {q v a b : Nat} (h : okw q v) (ha : a < q) (hb : b < q) : tm2 v (tm1 a b v) (v - 1) = fmul q a b := by
  rcases h with ⟨rfl, rfl⟩ | ⟨rfl, rfl⟩
  · exact (tm_4 a ha b hb).1
  · exact (tm_8 a ha b hb).1
theorem okw_le {q v : Nat} (h : okw q v) : 2 ≤ v ∧ v ≤ 3 ∧ q ≤ 8 := by rcases h with ⟨rfl, rfl⟩ | ⟨rfl, rfl⟩ <;> decide
theorem tm_s1 {v p k x : Nat} (hv : 1 ≤ v) (hk : v ≤ k) (hk2 : k ≤ 2 * v - 2) (hx : x = tm2 v p (2 * v - 2 - k)) : (x / 2 ^ k &&& 1 = 1 → x ^^^ 2 ^ k ^^^ (3 * 2 ^ (k - v)) = tm2 v p (2 * v - 2 - (k - 1))) ∧ (¬ x / 2 ^ k &&& 1 = 1 → x = tm2 v p (2 * v - 2 - (k - 1))) := by
  rw [show 2 * v - 2 - (k - 1) = (2 * v - 2 - k) + 1 by omega, tm2, ← hx, show 2 * v - 2 - (2 * v - 2 - k) = k by omega]
  exact ⟨fun h => by rw [if_pos h], fun h => by rw [if_neg h]⟩
theorem sO_1 : ∀ q ∈ qs, ∀ a, a < q → ∀ b, b < q → (q = 9 → (a % 3 + b % 3) % 3 + 3 * ((a / 3 + b / 3) % 3) = fadd q a b) := by decide +kernel
theorem sO_2c : ∀ q ∈ qs, ∀ a, a < q → ∀ b, b < q → (q = 4 ∨ q = 8 ∨ q = 9 ∨ (a + b) % q = fadd q a b) := by decide +kernel
theorem sO_2 {q a b : Nat} (hq : q ∈ qs) (ha : a < q) (hb : b < q) (h4 : ¬ q = 4) (h8 : ¬ q = 8) (h9 : ¬ q = 9) : (a + b) % q = fadd q a b := (((sO_2c q hq a ha b hb).resolve_left h4).resolve_left h8).resolve_left h9
theorem pO_1 : ∀ q ∈ qs, ∀ a, a < q → ∀ b, b < q → (q = 9 → (a % 3 * (b % 3) + 2 * (a / 3) * (b / 3)) % 3 + 3 * ((a % 3 * (b / 3) + a / 3 * (b % 3)) % 3) = fmul q a b) := by decide +kernel
theorem pO_2c : ∀ q ∈ qs, ∀ a, a < q → ∀ b, b < q → (q = 4 ∨ q = 8 ∨ q = 9 ∨ a * b % q = fmul q a b) := by decide +kernel
theorem pO_2 {q a b : Nat} (hq : q ∈ qs) (ha : a < q) (hb : b < q) (h4 : ¬ q = 4) (h8 : ¬ q = 8) (h9 : ¬ q = 9) : a * b % q = fmul q a b := (((pO_2c q hq a ha b hb).resolve_left h4).resolve_left h8).resolve_left h9
def SPK (q a b : Nat) (su po : Nat → Nat) : Prop := ∀ x y, x < q → y < q → (x < a ∨ x = a ∧ y < b) → su (9 * x + y) = fadd q x y ∧ po (9 * x + y) = fmul q x y
theorem SPK_0 {q : Nat} {su po : Nat → Nat} : SPK q 0 0 su po := fun x y _ _ h => by omega
theorem SPK_row {q a : Nat} {su po : Nat → Nat} (h : SPK q a q su po) : SPK q (a + 1) 0 su po := fun x y hx hy z => h x y hx hy (by omega)
theorem SPK_s {q a b : Nat} {su po : Nat → Nat} (hq : q ≤ 9) (ha : a < q) (hb : b < q) (h : SPK q a b su po) : SPK q a (b + 1) (upN su (9 * a + b) (fadd q a b)) (upN po (9 * a + b) (fmul q a b)) := fun x y hx hy z => by
  by_cases hxy : x = a ∧ y = b
  · rw [hxy.1, hxy.2, upN_s, upN_s]; exact ⟨rfl, rfl⟩
  · rw [upN_n (by omega), upN_n (by omega)]; exact h x y hx hy (by omega)
def vld (q k : Nat) : Bool := k / (q * q) == 1 || (k / (q * q) == 0 && k / q % q == 1) || (k / (q * q) == 0 && k / q % q == 0 && k % q == 1)
theorem vld_tB : ∀ q ∈ qs, ∀ k, k < q * q * q → (!vld q k || (pt q (cnt (vld q) k) 0 == k / (q * q) && pt q (cnt (vld q) k) 1 == k / q % q && pt q (cnt (vld q) k) 2 == k % q && decide (cnt (vld q) k < nn q))) = true := by decide +kernel
theorem vld_t {q k : Nat} (hq : q ∈ qs) (hk : k < q * q * q) (h : vld q k = true) : pt q (cnt (vld q) k) 0 = k / (q * q) ∧ pt q (cnt (vld q) k) 1 = k / q % q ∧ pt q (cnt (vld q) k) 2 = k % q ∧ cnt (vld q) k < nn q := by
  have h1 := vld_tB q hq k hk
  rw [h] at h1
  simp only [Bool.not_true, Bool.false_or, Bool.and_eq_true, beq_iff_eq, decide_eq_true_eq] at h1
  exact ⟨h1.1.1.1, h1.1.1.2, h1.1.2, h1.2⟩
theorem vld_n : ∀ q ∈ qs, cnt (vld q) (q * q * q) = nn q ∧ cnt (vld q) 1 = 0 ∧ q * q * q ≤ 729 ∧ 1 ≤ q * q * q := by decide +kernel
theorem vld_1 {q k : Nat} (h : k / (q * q) = 1) : vld q k = true := by rw [vld, h]; rfl
theorem vld_2 {q k : Nat} (h : k / (q * q) = 0) (h1 : k / q % q = 1) : vld q k = true := by rw [vld, h, h1]; rfl
theorem vld_3 {q k : Nat} (h : k / (q * q) = 0) (h1 : k / q % q = 0) (h2 : k % q = 1) : vld q k = true := by rw [vld, h, h1, h2]; rfl
theorem vld_f {q k : Nat} (h : ¬ k / (q * q) = 1) (h1 : ¬ k / (q * q) = 0 ∨ (¬ k / q % q = 1 ∧ (¬ k / q % q = 0 ∨ ¬ k % q = 1))) : vld q k = false := by
  rw [vld, beq_eq_false_iff_ne.mpr h]
  rcases h1 with h1 | ⟨h1, h2 | h2⟩
  · rw [beq_eq_false_iff_ne.mpr h1]; rfl
  · rw [beq_eq_false_iff_ne.mpr h1, beq_eq_false_iff_ne.mpr h2]; simp
  · rw [beq_eq_false_iff_ne.mpr h1, beq_eq_false_iff_ne.mpr h2]; simp
def XK (q n : Nat) (xs ys zs : Nat → Nat) : Prop := ∀ i, i < n → xs i = pt q i 0 ∧ ys i = pt q i 1 ∧ zs i = pt q i 2
theorem XK_s {q n a b c : Nat} {xs ys zs : Nat → Nat} (h : XK q n xs ys zs) (h0 : pt q n 0 = a) (h1 : pt q n 1 = b) (h2 : pt q n 2 = c) : XK q (n + 1) (upN xs n a) (upN ys n b) (upN zs n c) := fun i hi => by
  by_cases z : i = n
  · rw [z, upN_s, upN_s, upN_s]; exact ⟨h0.symm, h1.symm, h2.symm⟩
  · rw [upN_n z, upN_n z, upN_n z]; exact h i (by omega)
theorem cnt_st {P : Nat → Bool} {n : Nat} (h : P n = true) : cnt P (n + 1) = cnt P n + 1 := by rw [cnt, h]; rfl
theorem cnt_sf {P : Nat → Bool} {n : Nat} (h : P n = false) : cnt P (n + 1) = cnt P n := by rw [cnt, h]; rfl
theorem exQ_no {x : Int32} (h2 : ¬ x = nI 2) (h3 : ¬ x = nI 3) (h4 : ¬ x = nI 4) (h5 : ¬ x = nI 5) (h7 : ¬ x = nI 7) (h8 : ¬ x = nI 8) (h9 : ¬ x = nI 9) : exQ x = false := by
  refine Bool.eq_false_iff.mpr (fun z => ?_)
  obtain ⟨j, hj, e⟩ := exQ_of z
  have : j = 2 ∨ j = 3 ∨ j = 4 ∨ j = 5 ∨ j = 7 ∨ j = 8 ∨ j = 9 := by simpa [qs] using hj
  rcases this with rfl | rfl | rfl | rfl | rfl | rfl | rfl
  · exact h2 e
  · exact h3 e
  · exact h4 e
  · exact h5 e
  · exact h7 e
  · exact h8 e
  · exact h9 e

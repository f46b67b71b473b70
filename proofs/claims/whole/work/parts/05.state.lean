/-- what the number's tables hold -/
def FOK (q : Nat) (sm pr op iv : Nat → Nat) : Prop := q ∈ qs ∧ (∀ a b, a < q → b < q → sm (a * 9 + b) = fadd q a b) ∧ (∀ a b, a < q → b < q → pr (a * 9 + b) = fmul q a b) ∧ (∀ a, a < q → op a = fneg q a) ∧ (∀ a, a < q → ¬ a = 0 → iv a = finv q a)
def TOK (q : Nat) (tr : Nat → Nat) : Prop := ∀ i k, i < nn q → k < 3 → tr (3 * i + k) = pt q i k
/-- point k on line l, by rising numbers -/
def rowL (q l : Nat) : List Nat := (List.range (nn q)).filter (fun p => onq q p l)
def rowq (q l k : Nat) : Nat := (rowL q l).getD k 0
def ROK (q : Nat) (ro : Nat → Nat) : Prop := ∀ l k, l < nn q → k ≤ q → ro (l * 10 + k) = rowq q l k
def inB (x : Int32) (n : Nat) : Bool := decide (0 ≤ x.toInt ∧ x.toInt < n)
theorem inB_lt {x : Int32} {n : Nat} (h : x < 0) : inB x n = false := by
  rw [Int32.lt_iff_toInt_lt, Int32.toInt_zero] at h
  exact decide_eq_false (by omega)
theorem inB_ge {x : Int32} {n : Nat} (hn : n < 2 ^ 31) (h : nI n ≤ x) : inB x n = false := by
  rw [Int32.le_iff_toInt_le, nI_toInt hn] at h
  exact decide_eq_false (by omega)
theorem inB_in {x : Int32} {n : Nat} (hn : n < 2 ^ 31) (h1 : ¬ x < 0) (h2 : ¬ nI n ≤ x) : inB x n = true := by
  rw [Int32.lt_iff_toInt_lt, Int32.toInt_zero] at h1
  rw [Int32.le_iff_toInt_le, nI_toInt hn] at h2
  exact decide_eq_true (by omega)
theorem inB_of {x : Int32} {n : Nat} (hn : n < 2 ^ 31) (h : inB x n = true) : ∃ j, j < n ∧ x = nI j := by
  have h := of_decide_eq_true h
  refine ⟨x.toInt.toNat, by omega, Int32.toInt_inj.mp ?_⟩
  rw [nI_toInt (by omega)]
  omega
def frq (q i j k r : Nat) : Bool := !(vdet q (pt q i) (pt q j) (pt q k) == 0) && !(vdet q (pt q i) (pt q j) (pt q r) == 0) && !(vdet q (pt q i) (pt q k) (pt q r) == 0) && !(vdet q (pt q j) (pt q k) (pt q r) == 0)
def nmZ (q x y z : Nat) : Int32 := if ¬ x = 0 ∨ ¬ y = 0 ∨ ¬ z = 0 then nI (nmb q x y z) else (-3)
/-- how many below n -/
def cnt (S : Nat → Bool) : Nat → Nat
  | 0 => 0
  | n + 1 => cnt S n + (S n).toNat
theorem cnt_le (S : Nat → Bool) : ∀ n, cnt S n ≤ n
  | 0 => Nat.le_refl 0
  | n + 1 => by
    have h := cnt_le S n
    rw [cnt]
    cases S n <;> simp <;> omega
/-- the k-th that is so, or -1 -/
def pickZ (S : Nat → Bool) : Nat → Int32 → Int32
  | 0, _ => -1
  | n + 1, k => if S n = true ∧ nI (cnt S n) = k then nI n else pickZ S n k
theorem pick_none {S : Nat → Bool} {k : Int32} : ∀ {n i : Nat}, i = n → (∀ j, j < i → S j = true → ¬ nI (cnt S j) = k) → Value.int (-1) = .int (pickZ S n k)
  | 0, i, _, _ => rfl
  | n + 1, i, hi, h => by
    rw [pickZ, if_neg (fun q => h n (by omega) q.1 q.2)]
    exact pick_none rfl (fun j hj => h j (by omega))
theorem cnt_mono (S : Nat → Bool) : ∀ {i n : Nat}, i ≤ n → cnt S i ≤ cnt S n
  | i, 0, h => by rw [show i = 0 by omega]; exact Nat.le_refl _
  | i, n + 1, h => by
    rcases Nat.lt_or_ge i (n + 1) with q | q
    · have := cnt_mono S (show i ≤ n by omega)
      rw [cnt.eq_2]; omega
    · rw [show i = n + 1 by omega]; exact Nat.le_refl _
theorem pick_some {S : Nat → Bool} {k : Int32} {i : Nat} : ∀ {n : Nat}, n < 2 ^ 31 → (∀ j, j < i → S j = true → ¬ nI (cnt S j) = k) → i < n → S i = true → nI (cnt S i) = k → Value.int (nI i) = .int (pickZ S n k)
  | 0, _, _, h, _, _ => absurd h (Nat.not_lt_zero _)
  | n + 1, hn, h, hi, hS, hk => by
    rcases Nat.lt_or_ge i n with q | q
    · rw [pickZ, if_neg]
      · exact pick_some (by omega) h q hS hk
      · intro z
        have h1 : cnt S (i + 1) ≤ cnt S n := cnt_mono S q
        have h2 : nI (cnt S n) = nI (cnt S i) := z.2.trans hk.symm
        have h3 := cnt_le S n
        have h4 := cnt_le S i
        rw [nI_eq (by omega) (by omega)] at h2
        rw [cnt, hS] at h1
        simp at h1
        omega
    · rw [show n = i by omega, pickZ, if_pos ⟨hS, hk⟩]
def secq (q : Nat) (ol : Nat → Nat) (p : Nat) : Nat := cnt (fun t => decide (2 ≤ ol (rowq q p t))) (q + 1)
theorem row_tab : ∀ q ∈ qs, ∀ l, l < nn q → (rowL q l).length = q + 1 := by decide +kernel
theorem rowq_lt {q l k : Nat} (h : q ∈ qs) (hl : l < nn q) (hk : k ≤ q) : rowq q l k < nn q := by
  have h1 : k < (rowL q l).length := by rw [row_tab q h l hl]; omega
  rw [rowq, List.getD_eq_getElem?_getD, List.getElem?_eq_getElem h1]
  have h2 : (rowL q l)[k] ∈ (List.range (nn q)).filter (fun p => onq q p l) := List.getElem_mem h1
  exact List.mem_range.mp (List.mem_filter.mp h2).1

/-- what the reference's tables hold -/
def MOK (q : Nat) (su po xs ys zs : Nat → Nat) : Prop := q ∈ qs ∧ (∀ a b, a < q → b < q → su (9 * a + b) = fadd q a b) ∧ (∀ a b, a < q → b < q → po (9 * a + b) = fmul q a b) ∧ (∀ i, i < nn q → xs i = pt q i 0 ∧ ys i = pt q i 1 ∧ zs i = pt q i 2)
def inR (x : Int32) (lo hi : Nat) : Bool := decide ((lo : Int) ≤ x.toInt ∧ x.toInt ≤ hi)
theorem inR_lo {x : Int32} {lo hi : Nat} (hn : lo < 2 ^ 31) (h : x < nI lo) : inR x lo hi = false := by
  rw [Int32.lt_iff_toInt_lt, nI_toInt hn] at h
  exact decide_eq_false (by omega)
theorem inR_hi {x : Int32} {lo hi : Nat} (hn : hi < 2 ^ 31) (h : nI hi < x) : inR x lo hi = false := by
  rw [Int32.lt_iff_toInt_lt, nI_toInt hn] at h
  exact decide_eq_false (by omega)
theorem inR_in {x : Int32} {lo hi : Nat} (h0 : lo < 2 ^ 31) (hn : hi < 2 ^ 31) (h1 : ¬ x < nI lo) (h2 : ¬ nI hi < x) : inR x lo hi = true := by
  rw [Int32.lt_iff_toInt_lt, nI_toInt h0] at h1
  rw [Int32.lt_iff_toInt_lt, nI_toInt hn] at h2
  exact decide_eq_true (by omega)
theorem inR_B {x : Int32} {n : Nat} (h : 1 ≤ n) : inR x 0 (n - 1) = inB x n := by
  rw [inR, inB]
  exact decide_eq_decide.mpr (by omega)
def th3 (a b c k : Nat) : Nat := if k = 0 then a else if k = 1 then b else c
theorem F_less : ∀ q ∈ qs, ∀ a, a < q → ∀ b, b < q → ∀ i, i < q → (fadd q i b = a ↔ i = fsub q a b) := by decide +kernel
theorem F_by : ∀ q ∈ qs, ∀ a, a < q → ∀ b, b < q → ¬ b = 0 → ∀ i, i < q → (fmul q i b = a ↔ i = fdiv q a b) := by decide +kernel
/-- the line of two points -/
def joinq (q i j : Nat) : Nat := nmb q (vcr q (pt q i) (pt q j) 0) (vcr q (pt q i) (pt q j) 1) (vcr q (pt q i) (pt q j) 2)
def rowP (q i : Nat) : List Nat := (List.range (nn q)).filter (fun l => onq q i l)
theorem join_tab : ∀ q ∈ qs, ∀ i, i < nn q → ∀ j, j < nn q → ¬ i = j → (rowP q i).filter (fun l => onq q j l) = [joinq q i j] := by decide +kernel
theorem join_ok {q i j : Nat} (h : q ∈ qs) (hi : i < nn q) (hj : j < nn q) (hne : ¬ i = j) : joinq q i j < nn q ∧ onq q i (joinq q i j) = true ∧ onq q j (joinq q i j) = true ∧ ∀ l, l < nn q → onq q i l = true → onq q j l = true → l = joinq q i j := by
  have e := join_tab q h i hi j hj hne
  have hm : joinq q i j ∈ (rowP q i).filter (fun l => onq q j l) := by rw [e]; exact List.mem_singleton.mpr rfl
  rw [List.mem_filter, rowP, List.mem_filter, List.mem_range] at hm
  refine ⟨hm.1.1, hm.1.2, hm.2, fun l hl h1 h2 => ?_⟩
  have hl2 : l ∈ (rowP q i).filter (fun l => onq q j l) := by
    rw [List.mem_filter, rowP, List.mem_filter, List.mem_range]
    exact ⟨⟨hl, h1⟩, h2⟩
  rw [e] at hl2
  exact List.mem_singleton.mp hl2
def metq (q : Nat) (S : Nat → Bool) (l : Nat) : Nat := cnt (fun t => S t && onq q t l) (nn q)
def allB (P : Nat → Bool) : Nat → Bool
  | 0 => true
  | n + 1 => allB P n && P n
theorem allB_f {P : Nat → Bool} : ∀ {i n : Nat}, i ≤ n → allB P i = false → allB P n = false
  | i, 0, h, e => by rw [show i = 0 by omega] at e; exact e
  | i, n + 1, h, e => by
    rcases Nat.lt_or_ge i (n + 1) with z | z
    · rw [allB, allB_f (show i ≤ n by omega) e]; rfl
    · rw [show n + 1 = i by omega]; exact e
theorem allB_iff {P : Nat → Bool} : ∀ {n : Nat}, allB P n = true ↔ ∀ t, t < n → P t = true
  | 0 => ⟨fun _ t h => absurd h (Nat.not_lt_zero t), fun _ => rfl⟩
  | n + 1 => by
    rw [allB, Bool.and_eq_true, allB_iff]
    exact ⟨fun h t ht => (Nat.lt_succ_iff_lt_or_eq.mp ht).elim (h.1 t) (fun z => by rw [z]; exact h.2), fun h => ⟨fun t ht => h t (by omega), h n (by omega)⟩⟩
def arcq (q : Nat) (S : Nat → Bool) : Bool := allB (fun t => decide (metq q S t < 3)) (nn q)
def blkq (q : Nat) (S : Nat → Bool) : Bool := allB (fun t => decide (0 < metq q S t)) (nn q)

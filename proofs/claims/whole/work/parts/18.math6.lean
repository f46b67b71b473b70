def MPK (q : Nat) (mm : Nat → Nat) : Prop := ∀ k, k < 9 → mm k < q
/-- number i of where a point goes -/
def mpt (q : Nat) (mm : Nat → Nat) (p i : Nat) : Nat := vdot q (fun k => mm (3 * i + k)) (pt q p)
theorem mpt_lt {q p i : Nat} {mm : Nat → Nat} (hq : q ∈ qs) (hm : MPK q mm) (hp : p < nn q) (hi : i < 3) : mpt q mm p i < q := vdot_lt hq (fun k hk => hm _ (by omega)) (ptv hq hp)
def imgZ (q : Nat) (mm : Nat → Nat) (p : Nat) : Int32 := nmZ q (mpt q mm p 0) (mpt q mm p 1) (mpt q mm p 2)
def cofq (q : Nat) (mm : Nat → Nat) (i j : Nat) : Nat := fcw q (mm (3 * ((i + 1) % 3) + (j + 1) % 3)) (mm (3 * ((i + 1) % 3) + (j + 2) % 3)) (mm (3 * ((i + 2) % 3) + (j + 1) % 3)) (mm (3 * ((i + 2) % 3) + (j + 2) % 3))
theorem cofq_lt {q i j : Nat} {mm : Nat → Nat} (hq : q ∈ qs) (hm : MPK q mm) : cofq q mm i j < q := fcw_lt hq (hm _ (by omega)) (hm _ (by omega)) (hm _ (by omega)) (hm _ (by omega))
def detq (q : Nat) (mm : Nat → Nat) : Nat := vdot q mm (cofq q mm 0)
theorem detq_lt {q : Nat} {mm : Nat → Nat} (hq : q ∈ qs) (hm : MPK q mm) : detq q mm < q := vdot_lt hq (fun k hk => hm k (by omega)) (fun _ _ => cofq_lt hq hm)
def fixq (q : Nat) (mm : Nat → Nat) : Nat := cnt (fun t => decide (imgZ q mm t = nI t)) (nn q)
theorem nmb_tab : ∀ q ∈ qs, ∀ x, x < q → ∀ y, y < q → ∀ z, z < q → nmb q x y z < nn q := by decide +kernel
theorem img_cases {q p : Nat} {mm : Nat → Nat} (hq : q ∈ qs) (hm : MPK q mm) (hp : p < nn q) (h : ¬ imgZ q mm p = (-3)) : ∃ j, j < nn q ∧ imgZ q mm p = nI j := by
  rw [imgZ, nmZ] at h ⊢
  split at h
  · rename_i z
    rw [if_pos z]
    exact ⟨_, nmb_tab q hq _ (mpt_lt hq hm hp (by decide)) _ (mpt_lt hq hm hp (by decide)) _ (mpt_lt hq hm hp (by decide)), rfl⟩
  · exact absurd rfl h
/-- where the set goes -/
def movq (q : Nat) (mm : Nat → Nat) (S : Nat → Bool) (t : Nat) : Bool := anyB (fun p => S p && decide (imgZ q mm p = nI t)) (nn q)
/-- the first that is not 0, of n -/
def hdf (f : Nat → Nat) : Nat → Nat
  | 0 => 0
  | n + 1 => if hdf f n = 0 then f n else hdf f n
def tldq (q : Nat) (f : Nat → Nat) (k : Nat) : Nat := if hdf f (k + 1) = 0 then f k else fdiv q (f k) (hdf f (k + 1))
theorem hdf_congr {f g : Nat → Nat} : ∀ {n : Nat}, (∀ t, t < n → f t = g t) → hdf f n = hdf g n
  | 0, _ => rfl
  | n + 1, h => by rw [hdf, hdf, hdf_congr (fun t ht => h t (by omega)), h n (by omega)]
theorem tld_congr {q k n : Nat} {f g : Nat → Nat} (hk : k < n) (h : ∀ t, t < n → f t = g t) : tldq q f k = tldq q g k := by
  rw [tldq, tldq, hdf_congr (fun t ht => h t (by omega)), h k hk]
theorem hdf_lt {q : Nat} {f : Nat → Nat} (hq : 0 < q) : ∀ {n : Nat}, (∀ t, t < n → f t < q) → hdf f n < q
  | 0, _ => hq
  | n + 1, h => by
    rw [hdf]; split
    · exact h n (by omega)
    · exact hdf_lt hq (fun t ht => h t (by omega))
theorem tld_lt {q k n : Nat} {f : Nat → Nat} (hq : q ∈ qs) (hk : k < n) (h : ∀ t, t < n → f t < q) : tldq q f k < q := by
  have := (qs_le hq).1
  rw [tldq]; split
  · exact h k hk
  · exact fdiv_lt hq (h k hk) (hdf_lt (by omega) (fun t ht => h t (by omega)))
def imq (q : Nat) (mm : Nat → Nat) (p : Nat) : Nat := nmb q (mpt q mm p 0) (mpt q mm p 1) (mpt q mm p 2)
def itI (q : Nat) (mm : Nat → Nat) : Nat → Nat → Nat
  | 0, p => p
  | k + 1, p => imq q mm (itI q mm k p)
def lastq (q : Nat) : Nat := nmb q 1 1 1
def FXq (q : Nat) (mm : Nat → Nat) (k : Nat) : Prop := itI q mm k 0 = 0 ∧ itI q mm k 1 = 1 ∧ itI q mm k (1 + q) = 1 + q ∧ itI q mm k (lastq q) = lastq q
theorem inB_nI {a n : Nat} (ha : a < n) (hn : n < 2 ^ 31) : inB (nI a) n = true := by
  rw [inB, nI_toInt (by omega)]
  exact decide_eq_true (by omega)
theorem four_in {a b g d n : Nat} (ha : a < n) (hb : b < n) (hg : g < n) (hd : d < n) (hn : n < 2 ^ 31) : ¬ (inB (nI a) n && inB (nI b) n && inB (nI g) n && inB (nI d) n) = false := by
  rw [inB_nI ha hn, inB_nI hb hn, inB_nI hg hn, inB_nI hd hn]; decide
theorem last_tab : ∀ q ∈ qs, nmZ q 1 1 1 = nI (lastq q) ∧ lastq q < nn q ∧ 1 + q < nn q := by decide +kernel
def mulq (q : Nat) (a b : Nat → Nat) (k : Nat) : Nat := vdot q (fun t => a (3 * (k / 3) + t)) (fun t => b (3 * t + k % 3))
theorem all9 {P : Nat → Prop} (h0 : P 0) (h1 : P 1) (h2 : P 2) (h3 : P 3) (h4 : P 4) (h5 : P 5) (h6 : P 6) (h7 : P 7) (h8 : P 8) : ∀ k, k < 9 → P k
  | 0, _ => h0 | 1, _ => h1 | 2, _ => h2 | 3, _ => h3 | 4, _ => h4 | 5, _ => h5 | 6, _ => h6 | 7, _ => h7 | 8, _ => h8
  | k + 9, h => absurd h (by omega)
/-- the columns a, b, c, so often -/
def colq (q : Nat) (fa fb fc a b c : Nat) (k : Nat) : Nat := fmul q (if k % 3 = 0 then fa else if k % 3 = 1 then fb else fc) (pt q (if k % 3 = 0 then a else if k % 3 = 1 then b else c) (k / 3))
theorem per_end {q u N : Nat} {mm : Nat → Nat} (h4 : ∀ k, 0 < k → k < N → ¬ FXq q mm k) (hu : u < N) (h0 : 0 < u + 1) (h : FXq q mm (u + 1)) : u + 1 = N := by
  rcases Nat.lt_or_ge (u + 1) N with z | z
  · exact absurd h (h4 (u + 1) h0 z)
  · omega
theorem per_go {q u N : Nat} {mm : Nat → Nat} (h3 : FXq q mm N) (hu : u < N) (h : ¬ FXq q mm (u + 1)) : u + 1 < N := by
  rcases Nat.lt_or_ge (u + 1) N with z | z
  · exact z
  · exact absurd (by rw [show u + 1 = N by omega]; exact h3) h
theorem m3_ne {t : Nat} (h : t < 2 ^ 31) : ¬ (-3 : Int32) = nI t := fun z => by
  have h1 := congrArg Int32.toInt z
  rw [nI_toInt h] at h1
  have h2 : (-3 : Int32).toInt = -3 := by decide
  omega
theorem up_any {G : Nat → Bool} {j t : Nat} (hj : j < 2 ^ 31) (ht : t < 2 ^ 31) : upB G j true t = (G t || (true && decide (nI j = nI t))) := by
  by_cases h : t = j
  · rw [h, upB_s, decide_eq_true rfl]; simp
  · rw [upB_n h, decide_eq_false (fun z => h ((nI_eq hj ht).mp z).symm)]; simp
theorem go_lt {q a b c : Nat} (hq : q ∈ qs) (ha : a < q) (hb : b < q) (hc : c < q) : fadd q (fadd q (fadd q 0 a) b) c < q := by rw [fadd_0l hq ha]; exact fadd_lt hq (fadd_lt hq ha hb) hc
theorem go_eq {q a b c : Nat} (hq : q ∈ qs) (ha : a < q) : fadd q (fadd q (fadd q 0 a) b) c = fadd q (fadd q a b) c := by rw [fadd_0l hq ha]

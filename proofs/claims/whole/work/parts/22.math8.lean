def nv (x : Int32) : Nat := x.toInt.toNat
theorem nv_nI {j : Nat} (h : j < 2 ^ 31) : nv (nI j) = j := by rw [nv, nI_toInt h]; rfl
theorem toInt_nI {x : Int32} {k : Nat} (hk : k < 2 ^ 31) (h : x.toInt = (k : Int)) : x = nI k := Int32.toInt_inj.mp (by rw [nI_toInt hk]; exact h)
theorem inR_l0 {x : Int32} {hi : Nat} (h : x < 0) : inR x 0 hi = false := inR_lo (by decide) (by rw [nI_0]; exact h)
theorem inR_ok {x : Int32} {hi : Nat} (hn : hi < 2 ^ 31) (h1 : ¬ x < 0) (h2 : ¬ nI hi < x) : inR x 0 hi = true := inR_in (by decide) hn (by rw [nI_0]; exact h1) h2
theorem inR_ok2 {x : Int32} {hi : Nat} (hn : hi < 2 ^ 31) (h1 : ¬ x < 0) (h2 : x ≤ nI hi) : inR x 0 hi = true := inR_ok hn h1 (fun z => by rw [Int32.lt_iff_toInt_lt] at z; rw [Int32.le_iff_toInt_le] at h2; omega)
theorem inR_no2 {x : Int32} {lo hi : Nat} (hn : hi < 2 ^ 31) (h2 : ¬ x ≤ nI hi) : inR x lo hi = false := inR_hi hn (by rw [Int32.lt_iff_toInt_lt]; rw [Int32.le_iff_toInt_le] at h2; omega)
theorem inR_of {x : Int32} {lo hi : Nat} (hn : hi < 2 ^ 31) (h : inR x lo hi = true) : ∃ j, lo ≤ j ∧ j ≤ hi ∧ x = nI j := by
  have h := of_decide_eq_true h
  refine ⟨x.toInt.toNat, by omega, by omega, Int32.toInt_inj.mp ?_⟩
  rw [nI_toInt (by omega)]
  omega
theorem inB_nI_eq {j n : Nat} (hj : j < 2 ^ 31) : inB (nI j) n = decide (j < n) := by
  rw [inB, nI_toInt hj]; exact decide_eq_decide.mpr (by omega)
theorem bool_nf {b : Bool} (h : b = true) : ¬ b = false := by rw [h]; decide
def recZ (q : Nat) (h a b : Int32) : Int32 := if inR h 0 3 = false then -2 else if inB a q = false then -2 else if inB b q = false then -2 else if h = nI 0 then nI (fadd q (nv a) (nv b)) else if h = nI 1 then nI (fsub q (nv a) (nv b)) else if h = nI 2 then nI (fmul q (nv a) (nv b)) else if b = nI 0 then -3 else nI (fdiv q (nv a) (nv b))
def triZ (q : Nat) (x k : Int32) : Int32 := if inB x (nn q) = false then -2 else if inR k 0 2 = false then -2 else nI (pt q (nv x) (nv k))
def numZ (q : Nat) (a b c : Int32) : Int32 := if inB a q = false then -2 else if inB b q = false then -2 else if inB c q = false then -2 else nmZ q (nv a) (nv b) (nv c)
def onZ (q : Nat) (a b : Int32) : Int32 := if inB a (nn q) = false then -2 else if inB b (nn q) = false then -2 else nI (onq q (nv a) (nv b)).toNat
def joiZ (q : Nat) (a b : Int32) : Int32 := if inB a (nn q) = false then -2 else if inB b (nn q) = false then -2 else if a = b then -2 else nI (joinq q (nv a) (nv b))
def rowZ (q : Nat) (x k : Int32) : Int32 := if inB x (nn q) = false then -2 else if inR k 0 q = false then -1 else nI (rowq q (nv x) (nv k))
def putZ (q : Nat) (S : Nat → Bool) (x : Int32) : Int32 := if inB x (nn q) = false then -2 else nI (S (nv x)).toNat
def putS (q : Nat) (S : Nat → Bool) (x : Int32) (b : Bool) : Nat → Bool := if inB x (nn q) = false then S else upB S (nv x) b
def exQ (x : Int32) : Bool := inR x 2 9 && !decide (x = nI 6)
theorem exQ_of {x : Int32} (h : exQ x = true) : ∃ j, j ∈ qs ∧ x = nI j := by
  rw [exQ, Bool.and_eq_true] at h
  obtain ⟨j, h1, h2, rfl⟩ := inR_of (by decide) h.1
  refine ⟨j, ?_, rfl⟩
  have h3 : ¬ j = 6 := fun z => by rw [z] at h; exact absurd h.2 (by decide)
  have : j = 2 ∨ j = 3 ∨ j = 4 ∨ j = 5 ∨ j = 7 ∨ j = 8 ∨ j = 9 := by omega
  rcases this with rfl | rfl | rfl | rfl | rfl | rfl | rfl <;> decide
def jnum_tab : Prop := ∀ q ∈ qs, ∀ i, i < nn q → ∀ j, j < nn q → ¬ i = j → ¬ (vcr q (pt q i) (pt q j) 0 = 0 ∧ vcr q (pt q i) (pt q j) 1 = 0 ∧ vcr q (pt q i) (pt q j) 2 = 0)
theorem jnum : jnum_tab := by unfold jnum_tab; decide +kernel
/-- number k of a curve at a point; the curve there -/
def trm (q p k : Nat) : Nat := if k = 0 then fmul q (pt q p 0) (pt q p 0) else if k = 1 then fmul q (pt q p 1) (pt q p 1) else if k = 2 then fmul q (pt q p 2) (pt q p 2) else if k = 3 then fmul q (pt q p 1) (pt q p 2) else if k = 4 then fmul q (pt q p 0) (pt q p 2) else fmul q (pt q p 0) (pt q p 1)
theorem trm_lt {q p k : Nat} (hq : q ∈ qs) (hp : p < nn q) : trm q p k < q := by
  have h0 := pt_lt hq hp (show 0 < 3 by decide)
  have h1 := pt_lt hq hp (show 1 < 3 by decide)
  have h2 := pt_lt hq hp (show 2 < 3 by decide)
  rw [trm]; repeat' split
  all_goals exact fmul_lt hq (by assumption) (by assumption)
def sm6 (q : Nat) (u v : Nat → Nat) : Nat := fadd q (fadd q (fadd q (fadd q (fadd q (fmul q (u 0) (v 0)) (fmul q (u 1) (v 1))) (fmul q (u 2) (v 2))) (fmul q (u 3) (v 3))) (fmul q (u 4) (v 4))) (fmul q (u 5) (v 5))
def crv (q : Nat) (u : Nat → Nat) (p : Nat) : Nat := sm6 q u (trm q p)
theorem sm6_0 {q a b c d e f : Nat} (hq : q ∈ qs) (ha : a < q) : fadd q (fadd q (fadd q (fadd q (fadd q (fadd q 0 a) b) c) d) e) f = fadd q (fadd q (fadd q (fadd q (fadd q a b) c) d) e) f := by rw [fadd_0l hq ha]
theorem pick_congr {S G : Nat → Bool} : ∀ {n : Nat} {k : Int32}, (∀ t, t < n → S t = G t) → pickZ S n k = pickZ G n k
  | 0, _, _ => rfl
  | n + 1, k, h => by rw [pickZ, pickZ, h n (by omega), cnt_congr (fun t ht => h t (by omega)), pick_congr (fun t ht => h t (by omega))]
/-- by which number the ratio is told, and it -/
def rti (q i j : Nat) : Nat := if ¬ vcr q (pt q i) (pt q j) 0 = 0 then 0 else if ¬ vcr q (pt q i) (pt q j) 1 = 0 then 1 else 2
theorem rti_0 {q i j : Nat} (h : ¬ vcr q (pt q i) (pt q j) 0 = 0) : rti q i j = 0 := by rw [rti, if_pos h]
theorem rti_1 {q i j : Nat} (h : vcr q (pt q i) (pt q j) 0 = 0) (h1 : ¬ vcr q (pt q i) (pt q j) 1 = 0) : rti q i j = 1 := by rw [rti, if_neg (fun z => z h), if_pos h1]
theorem rti_2 {q i j : Nat} (h : vcr q (pt q i) (pt q j) 0 = 0) (h1 : vcr q (pt q i) (pt q j) 1 = 0) : rti q i j = 2 := by rw [rti, if_neg (fun z => z h), if_neg (fun z => z h1)]
def ratk (q i j k r n : Nat) : Nat := if fmul q (vcr q (pt q i) (pt q r) n) (vcr q (pt q k) (pt q j) n) = 0 then q else fdiv q (fmul q (vcr q (pt q r) (pt q j) n) (vcr q (pt q i) (pt q k) n)) (fmul q (vcr q (pt q i) (pt q r) n) (vcr q (pt q k) (pt q j) n))
def ratq (q i j k r : Nat) : Nat := ratk q i j k r (rti q i j)
def greZ (q : Nat) (S : Nat → Bool) (k : Int32) : Int32 := if 5 < q then -2 else if arcq q S = false then -1 else if k = -1 then nI (cnt (grq q S (nn q)) (nn q)) else pickZ (grq q S (nn q)) (nn q) k
def isZ (q : Nat) (S : Nat → Bool) (x : Int32) : Int32 := if x = nI 0 then nI (arcq q S).toNat else if x = nI 1 then nI (arcq q S && decide (newq q S = 0)).toNat else if x = nI 2 then nI (blkq q S).toNat else if x = nI 3 then nI (decide (cnt (cloq q S) (nn q) = cnt S (nn q))).toNat else -2
def couZ (q : Nat) (S : Nat → Bool) (w : Nat) (ln : Nat → Nat) (x : Int32) : Int32 := if x = nI 0 then nI q else if x = nI 1 then nI (nn q) else if x = nI 2 then nI (cnt S (nn q)) else if x = nI 3 then nI (spaq q S) else if x = nI 4 then nI (cnt (cloq q S) (nn q)) else if x = nI 5 then nI (newq q S) else if x = nI 6 then nI w else if x = nI 7 then nI (sumq (fun t => pcn (ln t)) w) else -2
theorem sw_ne {x : Int32} {lo hi : Int} {k : Nat} (h : x.toInt < lo ∨ hi < x.toInt) (hk : lo ≤ (nI k).toInt ∧ (nI k).toInt ≤ hi) : ¬ x = nI k := fun z => by rw [z] at h; omega
theorem inR_in9 {x : Int32} (h1 : ¬ x < nI 1) (h2 : x ≤ nI 13) : inR x 1 13 = true := inR_in (by decide) (by decide) h1 (fun z => by rw [Int32.lt_iff_toInt_lt] at z; rw [Int32.le_iff_toInt_le] at h2; omega)
def tabZ (w : Nat) (x : Int32) : Int32 := if inR x 1 13 = false then -2 else nI w
def tabP (w : Nat) (ln : Nat → Nat) (x : Int32) (w3 : Nat) (ln3 : Nat → Nat) : Prop := (inR x 1 13 = false ∧ w3 = w ∧ ln3 = ln) ∨ (inR x 1 13 = true ∧ w3 = nv x ∧ ∀ t, t < 13 → ln3 t = 0)
theorem tabP_no {w : Nat} {ln : Nat → Nat} {x : Int32} (h : inR x 1 13 = false) : tabP w ln x w ln := Or.inl ⟨h, rfl, rfl⟩
theorem tabP_yes {w w3 : Nat} {ln ln3 : Nat → Nat} {x : Int32} (h : inR x 1 13 = true) (h1 : w3 = nv x) (h2 : ∀ t, t < 13 → ln3 t = 0) : tabP w ln x w3 ln3 := Or.inr ⟨h, h1, h2⟩
def marZ (w : Nat) (ln : Nat → Nat) (a b : Int32) : Int32 := if inB a w = false then -2 else if inB b w = false then -2 else nI (tbl ln (nv a) (nv b)).toNat
def marL (w : Nat) (ln : Nat → Nat) (a b : Int32) (on : Bool) : Nat → Nat := if inB a w = false then ln else if inB b w = false then ln else upN ln (nv a) (smk (ln (nv a)) (nv b) on)
def tolZ (q : Nat) : Int32 := if 3 < q then -2 else nI (nn q)
def tolP (q w : Nat) (ln : Nat → Nat) (w3 : Nat) (ln3 : Nat → Nat) : Prop := (3 < q ∧ w3 = w ∧ ln3 = ln) ∨ (q ≤ 3 ∧ w3 = nn q ∧ LNK ln3 ∧ (∀ t j, t < nn q → j < nn q → tbl ln3 t j = onq q j t) ∧ (∀ t j, t < 13 → j < 13 → ¬ (t < nn q ∧ j < nn q) → tbl ln3 t j = false))
theorem tolP_no {q w : Nat} {ln : Nat → Nat} (h : 3 < q) : tolP q w ln w ln := Or.inl ⟨h, rfl, rfl⟩
theorem tolP_yes {q w : Nat} {ln ln3 : Nat → Nat} (h : q ≤ 3) (h1 : LNK ln3 ∧ (∀ t j, t < nn q → j < nn q → tbl ln3 t j = onq q j t) ∧ (∀ t j, t < 13 → j < 13 → ¬ (t < nn q ∧ j < nn q) → tbl ln3 t j = false)) : tolP q w ln (nn q) ln3 := Or.inr ⟨h, rfl, h1⟩
def imaZ (q : Nat) (mm : Nat → Nat) (x : Int32) : Int32 := if inB x (nn q) = false then -2 else imgZ q mm (nv x)
def entZ (q : Nat) (mm : Nat → Nat) (k x : Int32) : Int32 := if inR k 0 8 = false then -2 else if inB x q = false then -2 else nI (mm (nv k))
def entM (q : Nat) (mm : Nat → Nat) (k x : Int32) : Nat → Nat := if inR k 0 8 = false then mm else if inB x q = false then mm else upN mm (nv k) (nv x)
def invZ (q : Nat) (mm : Nat → Nat) : Int32 := if detq q mm = 0 then -3 else nI 1
def invM (q : Nat) (mm : Nat → Nat) (t : Nat) : Nat := if detq q mm = 0 then mm t else tldq q (fun k => cofq q mm (k % 3) (k / 3)) t
theorem and4 {a b c d : Bool} (h : (a && b && c && d) = true) : a = true ∧ b = true ∧ c = true ∧ d = true := by
  revert h; cases a <;> cases b <;> cases c <;> cases d <;> decide
def in4 (n : Nat) (a b c d : Int32) : Bool := inB a n && inB b n && inB c n && inB d n
/-- the columns that take the frame's points to a .. d -/
def frc (q a b c d : Nat) : Nat → Nat := colq q (vdet q (pt q d) (pt q b) (pt q c)) (vdet q (pt q a) (pt q d) (pt q c)) (vdet q (pt q a) (pt q b) (pt q d)) a b c
def fraZ (q : Nat) (a b c d : Int32) : Int32 := if (inB a (nn q) && inB b (nn q) && inB c (nn q) && inB d (nn q)) = false then -2 else if frq q (nv a) (nv b) (nv c) (nv d) = false then -1 else nI 1
def fraM (q : Nat) (mm : Nat → Nat) (a b c d : Int32) (t : Nat) : Nat := if (inB a (nn q) && inB b (nn q) && inB c (nn q) && inB d (nn q)) = false then mm t else if frq q (nv a) (nv b) (nv c) (nv d) = false then mm t else tldq q (frc q (nv a) (nv b) (nv c) (nv d)) t
def behZ (q : Nat) (mm : Nat → Nat) (a b c d : Int32) : Int32 := if (inB a (nn q) && inB b (nn q) && inB c (nn q) && inB d (nn q)) = false then -2 else if frq q (nv a) (nv b) (nv c) (nv d) = false then -1 else if detq q mm = 0 then -3 else nI 1
def behM (q : Nat) (mm : Nat → Nat) (a b c d : Int32) (t : Nat) : Nat := if (inB a (nn q) && inB b (nn q) && inB c (nn q) && inB d (nn q)) = false then mm t else if frq q (nv a) (nv b) (nv c) (nv d) = false then mm t else if detq q mm = 0 then mm t else tldq q (mulq q mm (tldq q (frc q (nv a) (nv b) (nv c) (nv d)))) t
theorem ite3 {k x y z n : Nat} (hx : x < n) (hy : y < n) (hz : z < n) : (if k % 3 = 0 then x else if k % 3 = 1 then y else z) < n := by
  split
  · exact hx
  · split
    · exact hy
    · exact hz
theorem col_lt {q a b c d t : Nat} (hq : q ∈ qs) (ha : a < nn q) (hb : b < nn q) (hc : c < nn q) (hd : d < nn q) (ht : t < 9) : frc q a b c d t < q := by
  have v1 := vdet_lt hq (ptv hq hd) (ptv hq hb) (ptv hq hc)
  have v2 := vdet_lt hq (ptv hq ha) (ptv hq hd) (ptv hq hc)
  have v3 := vdet_lt hq (ptv hq ha) (ptv hq hb) (ptv hq hd)
  rw [frc, colq]
  exact fmul_lt hq (ite3 v1 v2 v3) (pt_lt hq (ite3 ha hb hc) (by omega))
theorem mul_congr {q : Nat} {mm f g : Nat → Nat} (h : ∀ t, t < 9 → f t = g t) : ∀ t, t < 9 → mulq q mm f t = mulq q mm g t := fun t ht => by
  rw [mulq, mulq, vdot, vdot, h _ (by omega), h _ (by omega), h _ (by omega)]
def rtoZ (q : Nat) (a b c d : Int32) : Int32 := if (inB a (nn q) && inB b (nn q) && inB c (nn q) && inB d (nn q)) = false then -2 else if nv a = nv b ∨ nv a = nv c ∨ nv b = nv c ∨ ¬ vdet q (pt q (nv a)) (pt q (nv b)) (pt q (nv c)) = 0 ∨ ¬ vdet q (pt q (nv a)) (pt q (nv b)) (pt q (nv d)) = 0 then -1 else nI (ratq q (nv a) (nv b) (nv c) (nv d))

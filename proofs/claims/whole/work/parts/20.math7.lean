theorem nx_or (a b : Nat) : nI a ||| nI b = nI (a ||| b) := by
  apply Int32.toBitVec_inj.1
  show BitVec.ofNat 32 a ||| BitVec.ofNat 32 b = BitVec.ofNat 32 (a ||| b)
  apply BitVec.eq_of_getLsbD_eq
  intro i hi
  simp [hi]
theorem nx_bit1 {p : Nat} (hp : p < 13) : nI 1 <<< (nI p &&& 31) = nI (2 ^ p) := by
  have h : 2 ^ p ≤ 2 ^ 13 := Nat.pow_le_pow_right (by decide) (by omega)
  have := pk_shlN (n := 1) (nI p &&& 31) p (s_l p (by omega)) (by omega)
  rw [this, Nat.one_mul]
theorem tb_1 {x p : Nat} : ((x / 2 ^ p) &&& 1) = 1 ↔ x.testBit p = true := by
  rw [Nat.and_one_is_mod, Nat.testBit_eq_decide_div_mod_eq, decide_eq_true_eq]
theorem pw_le {p : Nat} (hp : p < 13) : 2 ^ p < 8192 := Nat.pow_lt_pow_right (by decide) hp
theorem tb_8191 : ∀ i, i < 13 → (8191 : Nat).testBit i = true := by decide
theorem nx_clr {x p : Nat} (hx : x < 8192) (hp : p < 13) : nI x &&& (nI (2 ^ p) ^^^ (-1)) = nI (x &&& (8191 ^^^ 2 ^ p)) := by
  apply Int32.toBitVec_inj.1
  show BitVec.ofNat 32 x &&& (BitVec.ofNat 32 (2 ^ p) ^^^ (-1 : Int32).toBitVec) = BitVec.ofNat 32 (x &&& (8191 ^^^ 2 ^ p))
  apply BitVec.eq_of_getLsbD_eq
  intro i hi
  have h1 : ∀ i, i < 32 → ((-1 : Int32).toBitVec).getLsbD i = true := by decide
  rw [BitVec.getLsbD_and, BitVec.getLsbD_xor, h1 i hi]
  simp only [BitVec.getLsbD_ofNat, hi, decide_true, Bool.true_and, Nat.testBit_and, Nat.testBit_xor]
  rcases Nat.lt_or_ge i 13 with z | z
  · rw [tb_8191 i z]; cases (2 ^ p).testBit i <;> simp
  · rw [Nat.testBit_lt_two_pow (Nat.lt_of_lt_of_le hx (Nat.pow_le_pow_right (n := 2) (i := 13) (by decide) z))]; simp
/-- a line's row of bits with one put in or out -/
def smk (x p : Nat) (b : Bool) : Nat := if b = true then x ||| 2 ^ p else x &&& (8191 ^^^ 2 ^ p)
theorem smk_lt {x p : Nat} {b : Bool} (hx : x < 8192) (hp : p < 13) : smk x p b < 8192 := by
  rw [smk]; split
  · exact Nat.or_lt_two_pow (n := 13) hx (pw_le hp)
  · exact Nat.lt_of_le_of_lt Nat.and_le_left hx
theorem smk_tb {x p j : Nat} {b : Bool} (hp : p < 13) (hj : j < 13) : (smk x p b).testBit j = if j = p then b else x.testBit j := by
  rw [smk]
  cases b
  · rw [if_neg (by decide), Nat.testBit_and, Nat.testBit_xor, tb_8191 j hj, Nat.testBit_two_pow]
    by_cases h : j = p
    · rw [if_pos h, decide_eq_true h.symm]; simp
    · rw [if_neg h, decide_eq_false (fun z => h z.symm)]; simp
  · rw [if_pos rfl, Nat.testBit_or, Nat.testBit_two_pow]
    by_cases h : j = p
    · rw [if_pos h, decide_eq_true h.symm]; simp
    · rw [if_neg h, decide_eq_false (fun z => h z.symm)]; simp
def bcR (x : Int32) : Int32 :=
  let z1 := x - ((x.toUInt32 >>> ((nI 1).toUInt32 &&& Int32.toUInt32 31)).toInt32 &&& (1431655765 : Int32))
  let z2 := (z1 &&& (858993459 : Int32)) + ((z1.toUInt32 >>> ((nI 2).toUInt32 &&& Int32.toUInt32 31)).toInt32 &&& (858993459 : Int32))
  let z3 := (z2 + (z2.toUInt32 >>> ((nI 4).toUInt32 &&& Int32.toUInt32 31)).toInt32) &&& (252645135 : Int32)
  let z4 := z3 + (z3.toUInt32 >>> ((nI 8).toUInt32 &&& Int32.toUInt32 31)).toInt32
  let z5 := z4 + (z4.toUInt32 >>> ((nI 16).toUInt32 &&& Int32.toUInt32 31)).toInt32
  z5 &&& nI 63
def pcn (x : Nat) : Nat := cnt (fun i => x.testBit i) 13
theorem bcR_tab : ∀ a, a < 64 → ∀ b, b < 128 → bcR (nI (128 * a + b)) = nI (pcn (128 * a + b)) := by decide +kernel
theorem bcR_eq {x : Nat} (h : x < 8192) : bcR (nI x) = nI (pcn x) := by
  have := bcR_tab (x / 128) (by omega) (x % 128) (by omega)
  rwa [Nat.div_add_mod] at this
theorem pcn_le (x : Nat) : pcn x ≤ 13 := cnt_le _ _
def sumq (f : Nat → Nat) : Nat → Nat
  | 0 => 0
  | n + 1 => sumq f n + f n
theorem sumq_le {f : Nat → Nat} (h : ∀ t, f t ≤ 13) : ∀ n, sumq f n ≤ 13 * n
  | 0 => Nat.le_refl 0
  | n + 1 => by
    have h1 := sumq_le h n
    have h2 := h n
    rw [sumq]; omega
def LNK (ln : Nat → Nat) : Prop := ∀ l, l < 13 → ln l < 8192
def tbl (ln : Nat → Nat) (l p : Nat) : Bool := (ln l).testBit p
theorem both_iff {x a b : Nat} : (x &&& (2 ^ a ||| 2 ^ b)) = (2 ^ a ||| 2 ^ b) ↔ (x.testBit a && x.testBit b) = true := by
  rw [Bool.and_eq_true]
  constructor
  · intro h
    constructor
    · have h1 := congrArg (fun z => z.testBit a) h
      simp only [Nat.testBit_and, Nat.testBit_or, Nat.testBit_two_pow] at h1
      simpa using h1
    · have h1 := congrArg (fun z => z.testBit b) h
      simp only [Nat.testBit_and, Nat.testBit_or, Nat.testBit_two_pow] at h1
      simpa using h1
  · intro h
    apply Nat.eq_of_testBit_eq
    intro i
    simp only [Nat.testBit_and, Nat.testBit_or, Nat.testBit_two_pow]
    by_cases h1 : a = i
    · subst h1; simp [h.1]
    · by_cases h2 : b = i
      · subst h2; simp [h.2]
      · simp [h1, h2]
/-- the first below n that is so -/
def fstT (P : Nat → Bool) : Nat → Option Nat
  | 0 => none
  | n + 1 => match fstT P n with
    | some x => some x
    | none => if P n = true then some n else none
theorem fst_none {P : Nat → Bool} : ∀ {n : Nat}, (∀ t, t < n → P t = false) → fstT P n = none
  | 0, _ => rfl
  | n + 1, h => by
    rw [fstT, fst_none (fun t ht => h t (by omega))]
    simp [h n (by omega)]
theorem fst_some {P : Nat → Bool} {t : Nat} : ∀ {n : Nat}, (∀ j, j < t → P j = false) → P t = true → t < n → fstT P n = some t
  | 0, _, _, h => absurd h (Nat.not_lt_zero t)
  | n + 1, h, hP, ht => by
    rcases Nat.lt_or_ge t n with z | z
    · rw [fstT, fst_some h hP z]
    · have : t = n := by omega
      subst this
      rw [fstT, fst_none h]
      simp [hP]
/-- two lines a < b, two points a < b, as one number -/
def badL (ln : Nat → Nat) (w t : Nat) : Bool := decide (t / 13 < t % 13 ∧ t % 13 < w) && decide (¬ pcn (ln (t / 13) &&& ln (t % 13)) = 1)
def badP (ln : Nat → Nat) (w t : Nat) : Bool := decide (t / 13 < t % 13 ∧ t % 13 < w) && decide (¬ cnt (fun l => tbl ln l (t / 13) && tbl ln l (t % 13)) w = 1)
def frm (ln : Nat → Nat) (w a b c d : Nat) : Bool := allB (fun l => decide (pcn (ln l &&& (2 ^ a ||| 2 ^ b ||| 2 ^ c ||| 2 ^ d)) ≤ 2)) w
noncomputable def hasF (ln : Nat → Nat) (w : Nat) : Bool := @decide (∃ a b c d, a < b ∧ b < c ∧ c < d ∧ d < w ∧ frm ln w a b c d = true) (Classical.propDecidable _)
noncomputable def flaN (ln : Nat → Nat) (w n : Nat) : Nat := match fstT (badL ln w) n with
  | some t => 1000 + 20 * (t / 13) + t % 13
  | none => match fstT (badP ln w) n with
    | some t => 2000 + 20 * (t / 13) + t % 13
    | none => if hasF ln w = true then 0 else 3000
theorem flaN_L {ln : Nat → Nat} {w n a b : Nat} (hb : b < 13) (h : fstT (badL ln w) n = some (a * 13 + b)) : Value.int (nI (1000 + 20 * a + b)) = .int (nI (flaN ln w n)) := by
  rw [flaN, h]; simp only []; rw [show (a * 13 + b) / 13 = a by omega, show (a * 13 + b) % 13 = b by omega]
theorem flaN_P {ln : Nat → Nat} {w n a b : Nat} (hb : b < 13) (h0 : fstT (badL ln w) n = none) (h : fstT (badP ln w) n = some (a * 13 + b)) : Value.int (nI (2000 + 20 * a + b)) = .int (nI (flaN ln w n)) := by
  rw [flaN, h0]; simp only []; rw [h]; simp only []; rw [show (a * 13 + b) / 13 = a by omega, show (a * 13 + b) % 13 = b by omega]
theorem flaN_F {ln : Nat → Nat} {w n : Nat} (h0 : fstT (badL ln w) n = none) (h : fstT (badP ln w) n = none) (hf : hasF ln w = true) : Value.int (nI 0) = .int (nI (flaN ln w n)) := by
  rw [flaN, h0]; simp only []; rw [h]; simp only []; rw [if_pos hf]
theorem flaN_N {ln : Nat → Nat} {w n : Nat} (h0 : fstT (badL ln w) n = none) (h : fstT (badP ln w) n = none) (hf : hasF ln w = false) : Value.int (nI 3000) = .int (nI (flaN ln w n)) := by
  rw [flaN, h0]; simp only []; rw [h]; simp only []; rw [if_neg (by rw [hf]; decide)]
theorem badL_no {ln : Nat → Nat} {w t : Nat} (h : ¬ (t / 13 < t % 13 ∧ t % 13 < w)) : badL ln w t = false := by rw [badL, decide_eq_false h]; rfl
theorem badP_no {ln : Nat → Nat} {w t : Nat} (h : ¬ (t / 13 < t % 13 ∧ t % 13 < w)) : badP ln w t = false := by rw [badP, decide_eq_false h]; rfl
theorem badL_at {ln : Nat → Nat} {w a b : Nat} (h : a < b) (hb : b < w) (hw : w ≤ 13) : badL ln w (a * 13 + b) = decide (¬ pcn (ln a &&& ln b) = 1) := by
  rw [badL, show (a * 13 + b) / 13 = a by omega, show (a * 13 + b) % 13 = b by omega, decide_eq_true ⟨h, hb⟩]; rfl
theorem badP_at {ln : Nat → Nat} {w a b : Nat} (h : a < b) (hb : b < w) (hw : w ≤ 13) : badP ln w (a * 13 + b) = decide (¬ cnt (fun l => tbl ln l a && tbl ln l b) w = 1) := by
  rw [badP, show (a * 13 + b) / 13 = a by omega, show (a * 13 + b) % 13 = b by omega, decide_eq_true ⟨h, hb⟩]; rfl
theorem hasF_no {ln : Nat → Nat} {w : Nat} (h : ∀ a b c d, a < w → a < b → b < c → c < d → d < w → frm ln w a b c d = false) : hasF ln w = false :=
  @decide_eq_false _ (Classical.propDecidable _) (fun ⟨a, b, c, d, h1, h2, h3, h4, h5⟩ => by rw [h a b c d (by omega) h1 h2 h3 h4] at h5; cases h5)
theorem hasF_yes {ln : Nat → Nat} {w a b c d : Nat} (h1 : a < b) (h2 : b < c) (h3 : c < d) (h4 : d < w) (h5 : frm ln w a b c d = true) : hasF ln w = true :=
  @decide_eq_true _ (Classical.propDecidable _) ⟨a, b, c, d, h1, h2, h3, h4, h5⟩
theorem nI_min {a b : Nat} (ha : a < 2 ^ 31) (hb : b < 2 ^ 31) : (if nI b < nI a then nI b else nI a) = nI (Nmin a b) := by
  rw [Nmin]
  by_cases h : b < a
  · rw [if_pos ((nI_ltI hb ha).mpr h), if_neg (show ¬ a ≤ b by omega)]
  · rw [if_neg (fun z => h ((nI_ltI hb ha).mp z)), if_pos (show a ≤ b by omega)]
theorem tp_step {q i g t j : Nat} {n1 : Nat → Nat} (hi : i < 13) (hg : g < 13) (ht : t < 13) (hj : j < 13) (h : ∀ t j, t < 13 → j < 13 → tbl n1 t j = (decide (t < i ∧ j < nn q ∨ t = i ∧ j < g) && onq q j t)) : tbl (upN n1 i (smk (n1 i) g (onq q g i))) t j = (decide (t < i ∧ j < nn q ∨ t = i ∧ j < g + 1) && onq q j t) := by
  rw [tbl]
  by_cases z : t = i
  · subst z
    rw [upN_s, smk_tb hg hj]
    by_cases y : j = g
    · subst y; rw [if_pos rfl, decide_eq_true (by omega)]; rfl
    · rw [if_neg y]
      refine (h t j ht hj).trans (congrArg (fun z => z && onq q j t) (decide_eq_decide.mpr (by omega)))
  · rw [upN_n z]
    exact (h t j ht hj).trans (congrArg (fun z => z && onq q j t) (decide_eq_decide.mpr (by omega)))

def TRl (ln : Nat → Nat) (mk : Nat → Bool) : Prop := ∀ l p, l < 13 → p < 13 → mk (13 * l + p) = tbl ln l p
def bitW (ln : Nat → Nat) (w : Nat) : Prop := ∀ l p, l < 13 → p < 13 → ¬ (l < w ∧ p < w) → tbl ln l p = false
theorem cnt_add {P : Nat → Bool} {n : Nat} : ∀ m, cnt P (n + m) = cnt P n + cnt (fun i => P (n + i)) m
  | 0 => rfl
  | m + 1 => by
    show cnt P (n + m) + (P (n + m)).toNat = _
    rw [cnt_add m, cnt]; omega
theorem marks_k {ln : Nat → Nat} {mk : Nat → Bool} (h : TRl ln mk) : ∀ k, k ≤ 13 → cnt mk (13 * k) = sumq (fun t => pcn (ln t)) k
  | 0, _ => rfl
  | k + 1, hk => by
    rw [Nat.mul_succ, cnt_add, marks_k h k (by omega), sumq, pcn]
    exact congrArg _ (cnt_congr (fun t ht => h k t (by omega) ht))
theorem sum_zero {f : Nat → Nat} {w : Nat} : ∀ m, (∀ t, w ≤ t → t < w + m → f t = 0) → sumq f (w + m) = sumq f w
  | 0, _ => rfl
  | m + 1, h => by
    show sumq f (w + m) + f (w + m) = _
    rw [sum_zero m (fun t h1 h2 => h t h1 (by omega)), h (w + m) (by omega) (by omega)]; rfl
theorem marks_eq {ln : Nat → Nat} {mk : Nat → Bool} {w : Nat} (h : TRl ln mk) (hb : bitW ln w) (hw : w ≤ 13) : cnt mk 169 = sumq (fun t => pcn (ln t)) w := by
  have h1 := marks_k h 13 (Nat.le_refl _)
  have h2 := sum_zero (f := fun t => pcn (ln t)) (w := w) (13 - w) (fun t h1 h2 => cnt_0.mpr (fun i hi => hb t i (by omega) hi (by omega)))
  rw [show w + (13 - w) = 13 by omega] at h2
  rw [← h2, ← h1]
def marK (w : Nat) (mk : Nat → Bool) (a b : Int32) (on : Bool) : Nat → Bool := if inB a w = false then mk else if inB b w = false then mk else upB mk (13 * nv a + nv b) on
def tabK (w : Nat) (mk : Nat → Bool) (x : Int32) (w3 : Nat) (mk3 : Nat → Bool) : Prop := (inR x 1 13 = false ∧ w3 = w ∧ mk3 = mk) ∨ (inR x 1 13 = true ∧ w3 = nv x ∧ ∀ t, t < 169 → mk3 t = false)
theorem tabK_no {w : Nat} {mk : Nat → Bool} {x : Int32} (h : inR x 1 13 = false) : tabK w mk x w mk := Or.inl ⟨h, rfl, rfl⟩
theorem tabK_yes {w w3 : Nat} {mk mk3 : Nat → Bool} {x : Int32} (h : inR x 1 13 = true) (h1 : w3 = nv x) (h2 : ∀ t, t < 169 → mk3 t = false) : tabK w mk x w3 mk3 := Or.inr ⟨h, h1, h2⟩
def tolK (q w : Nat) (mk : Nat → Bool) (w3 : Nat) (mk3 : Nat → Bool) : Prop := (3 < q ∧ w3 = w ∧ mk3 = mk) ∨ (q ≤ 3 ∧ w3 = nn q ∧ ∀ l p, l < 13 → p < 13 → mk3 (13 * l + p) = (decide (l < nn q ∧ p < nn q) && onq q p l))
def togq (ln : Nat → Nat) (w i j : Nat) (b : Bool) : Nat := if b = true then cnt (fun t => tbl ln i t && tbl ln j t) w else cnt (fun t => tbl ln t i && tbl ln t j) w
theorem cnt_w {P : Nat → Bool} {w : Nat} : ∀ m, (∀ t, w ≤ t → t < w + m → P t = false) → cnt P (w + m) = cnt P w
  | 0, _ => rfl
  | m + 1, h => by
    show cnt P (w + m) + (P (w + m)).toNat = _
    rw [cnt_w m (fun t h1 h2 => h t h1 (by omega)), h (w + m) (by omega) (by omega)]; rfl
theorem tog_L {ln : Nat → Nat} {w i j : Nat} (hb : bitW ln w) (hw : w ≤ 13) (hi : i < 13) : pcn (ln i &&& ln j) = togq ln w i j true := by
  rw [togq, if_pos rfl, pcn, ← cnt_w (w := w) (13 - w) (fun t h1 h2 => by
    have := hb i t hi (by omega) (by omega)
    rw [this]; rfl), show w + (13 - w) = 13 by omega]
  exact cnt_congr (fun t _ => Nat.testBit_and _ _ _)
def badB (ln : Nat → Nat) (w : Nat) (b : Bool) (t : Nat) : Bool := decide (t / 13 < t % 13 ∧ t % 13 < w) && decide (¬ togq ln w (t / 13) (t % 13) b = 1)
theorem badB_no {ln : Nat → Nat} {w t : Nat} {b : Bool} (h : ¬ (t / 13 < t % 13 ∧ t % 13 < w)) : badB ln w b t = false := by rw [badB, decide_eq_false h]; rfl
theorem badB_at {ln : Nat → Nat} {w a c : Nat} {b : Bool} (h : a < c) (hc : c < w) (hw : w ≤ 13) : badB ln w b (a * 13 + c) = decide (¬ togq ln w a c b = 1) := by
  rw [badB, show (a * 13 + c) / 13 = a by omega, show (a * 13 + c) % 13 = c by omega, decide_eq_true ⟨h, hc⟩]; rfl
theorem badB_L {ln : Nat → Nat} {w : Nat} (hb : bitW ln w) (hw : w ≤ 13) : badB ln w true = badL ln w := by
  funext t
  rw [badB, badL]
  by_cases h : t / 13 < t % 13 ∧ t % 13 < w
  · rw [tog_L hb hw (by omega)]
  · rw [decide_eq_false h]; rfl
theorem badB_P {ln : Nat → Nat} {w : Nat} : badB ln w false = badP ln w := by
  funext t
  rw [badB, badP, togq, if_neg (by decide)]
def flv (b : Bool) (o : Option Nat) : Nat := match o with
  | none => 0
  | some t => (if b = true then 1000 else 2000) + 20 * (t / 13) + t % 13
theorem flv_0 {b : Bool} {o : Option Nat} : flv b o = 0 ↔ o = none := by
  cases o with
  | none => exact ⟨fun _ => rfl, fun _ => rfl⟩
  | some t =>
    constructor
    · intro h; rw [flv] at h; split at h <;> omega
    · intro h; cases h
theorem fst_s {P : Nat → Bool} {n : Nat} : fstT P (n + 1) = match fstT P n with
    | some x => some x
    | none => if P n = true then some n else none := rfl
theorem fst_no {P : Nat → Bool} {n : Nat} (h : P n = false) : fstT P (n + 1) = fstT P n := by
  rw [fst_s]; cases fstT P n <;> simp [h]
theorem fst_skip {P : Nat → Bool} {n : Nat} : ∀ m, (∀ t, n ≤ t → t < n + m → P t = false) → fstT P (n + m) = fstT P n
  | 0, _ => rfl
  | m + 1, h => by
    show fstT P (n + m + 1) = _
    rw [fst_no (h (n + m) (by omega) (by omega)), fst_skip m (fun t h1 h2 => h t h1 (by omega))]
theorem fst_skip2 {P : Nat → Bool} {n k : Nat} (hk : n ≤ k) (h : ∀ t, n ≤ t → t < k → P t = false) : fstT P k = fstT P n := by
  have := fst_skip (P := P) (n := n) (k - n) (fun t h1 h2 => h t h1 (by omega))
  rwa [show n + (k - n) = k by omega] at this
theorem flv_go {P : Nat → Bool} {b : Bool} {n f : Nat} (h : f = flv b (fstT P n)) (h1 : f ≠ 0 ∨ P n = false) : f = flv b (fstT P (n + 1)) := by
  rcases h1 with h1 | h1
  · rw [fst_s]
    cases e : fstT P n with
    | none => rw [e] at h; exact absurd h h1
    | some x => rw [e] at h; exact h
  · rw [fst_no h1]; exact h
theorem flv_hit {P : Nat → Bool} {b : Bool} {a c f : Nat} (hc : c < 13) (h : f = flv b (fstT P (a * 13 + c))) (h0 : f = 0) (hP : P (a * 13 + c) = true) : (if b = true then 1000 else 2000) + 20 * a + c = flv b (fstT P (a * 13 + c + 1)) := by
  have e := flv_0.mp (h.symm.trans h0)
  rw [fst_s, e]
  simp only [hP, if_true, flv]
  rw [show (a * 13 + c) / 13 = a by omega, show (a * 13 + c) % 13 = c by omega]
def lin3 (ln : Nat → Nat) (w a b c : Nat) : Bool := anyB (fun l => tbl ln l a && tbl ln l b && tbl ln l c) w
theorem pcn_four {x a b c d : Nat} (h1 : a < b) (h2 : b < c) (h3 : c < d) (h4 : d < 13) : pcn (x &&& (2 ^ a ||| 2 ^ b ||| 2 ^ c ||| 2 ^ d)) = (x.testBit a).toNat + (x.testBit b).toNat + (x.testBit c).toNat + (x.testBit d).toNat := by
  have e : pcn (x &&& (2 ^ a ||| 2 ^ b ||| 2 ^ c ||| 2 ^ d)) = cnt (fun t => upB (upB (upB (upB (fun _ => false) a true) b true) c true) d true t && x.testBit t) 13 := cnt_congr (fun t _ => by
    simp only [Nat.testBit_and, Nat.testBit_or, Nat.testBit_two_pow, upB]
    by_cases z1 : t = d
    · subst z1; simp
    · by_cases z2 : t = c
      · subst z2; simp [z1]
      · by_cases z3 : t = b
        · subst z3; simp [z1, z2]
        · by_cases z4 : t = a
          · subst z4; simp [z1, z2, z3]
          · simp [z1, z2, z3, z4, Ne.symm z1, Ne.symm z2, Ne.symm z3, Ne.symm z4])
  rw [e, cnt_up (by rw [upB_n (by omega), upB_n (by omega), upB_n (by omega)]), cnt_up (by rw [upB_n (by omega), upB_n (by omega)]), cnt_up (by rw [upB_n (by omega)]), cnt_up rfl, if_pos (by omega), if_pos (by omega), if_pos (by omega), if_pos (by omega)]
  have : cnt (fun t => (fun _ => false) t && x.testBit t) 13 = 0 := cnt_0.mpr (fun t _ => rfl)
  rw [this]; omega
theorem frm_eq {ln : Nat → Nat} {w a b c d : Nat} (h1 : a < b) (h2 : b < c) (h3 : c < d) (h4 : d < 13) : frm ln w a b c d = (!lin3 ln w a b c && !lin3 ln w a b d && !lin3 ln w a c d && !lin3 ln w b c d) := by
  rw [Bool.eq_iff_iff, frm, allB_iff]
  simp only [Bool.and_eq_true, Bool.not_eq_true', lin3, anyB_f]
  constructor
  · intro h
    refine ⟨⟨⟨fun l hl => ?_, fun l hl => ?_⟩, fun l hl => ?_⟩, fun l hl => ?_⟩
    all_goals
      have h5 := of_decide_eq_true (h l hl)
      rw [pcn_four h1 h2 h3 h4] at h5
      revert h5
      simp only [tbl]
      cases (ln l).testBit a <;> cases (ln l).testBit b <;> cases (ln l).testBit c <;> cases (ln l).testBit d <;> decide
  · intro h l hl
    have e1 := h.1.1.1 l hl
    have e2 := h.1.1.2 l hl
    have e3 := h.1.2 l hl
    have e4 := h.2 l hl
    rw [pcn_four h1 h2 h3 h4]
    revert e1 e2 e3 e4
    simp only [tbl]
    cases (ln l).testBit a <;> cases (ln l).testBit b <;> cases (ln l).testBit c <;> cases (ln l).testBit d <;> decide
theorem flaN_0 {ln : Nat → Nat} {w n f : Nat} (h : f = flv true (fstT (badL ln w) n)) (h1 : ¬ f = 0) : Value.int (nI f) = .int (nI (flaN ln w n)) := by
  rw [flaN]
  cases e : fstT (badL ln w) n with
  | none => rw [e] at h; exact absurd h h1
  | some t => rw [e] at h; rw [h]; rfl
theorem flaN_1 {ln : Nat → Nat} {w n f : Nat} (h0 : flv true (fstT (badL ln w) n) = 0) (h : f = flv false (fstT (badP ln w) n)) (h1 : ¬ f = 0) : Value.int (nI f) = .int (nI (flaN ln w n)) := by
  rw [flaN, flv_0.mp h0]
  simp only []
  cases e : fstT (badP ln w) n with
  | none => rw [e] at h; exact absurd h h1
  | some t => rw [e] at h; rw [h]; rfl
theorem togq_le {ln : Nat → Nat} {w i j : Nat} {b : Bool} : togq ln w i j b ≤ w := by
  rw [togq]; split <;> exact cnt_le _ _
theorem fstT_lt {P : Nat → Bool} : ∀ {n t : Nat}, fstT P n = some t → t < n
  | 0, _, h => by cases h
  | n + 1, t, h => by
    rw [fst_s] at h
    cases e : fstT P n with
    | none =>
      rw [e] at h
      simp only [] at h
      split at h
      · cases h; exact Nat.lt_succ_self n
      · cases h
    | some x => rw [e] at h; cases h; exact Nat.lt_succ_of_lt (fstT_lt e)
theorem flv_lt {b : Bool} {P : Nat → Bool} : flv b (fstT P 169) < 2 ^ 31 := by
  generalize hn : 169 = n
  cases e : fstT P n with
  | none => exact (by decide : 0 < 2 ^ 31)
  | some t =>
    have := fstT_lt e
    rw [flv]
    split <;> omega
theorem tolk_step {q i g l p : Nat} {m1 : Nat → Bool} (hi : i < 13) (hg : g < 13) (hl : l < 13) (hp : p < 13) (h : ∀ l p, l < 13 → p < 13 → m1 (13 * l + p) = (decide (l < i ∧ p < nn q ∨ l = i ∧ p < g) && onq q p l)) : upB m1 (13 * i + g) (onq q g i) (13 * l + p) = (decide (l < i ∧ p < nn q ∨ l = i ∧ p < g + 1) && onq q p l) := by
  by_cases z : l = i ∧ p = g
  · rw [z.1, z.2, upB_s, decide_eq_true (by omega)]; rfl
  · rw [upB_n (by omega), h l p hl hp]
    exact congrArg (fun z => z && onq q p l) (decide_eq_decide.mpr (by omega))

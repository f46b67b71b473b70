def u6 (a b c d e f : Nat) (k : Nat) : Nat := if k = 0 then a else if k = 1 then b else if k = 2 then c else if k = 3 then d else if k = 4 then e else f
def bad6 (q : Nat) (a b c d e f : Int32) : Bool := !(inB a q && inB b q && inB c q && inB d q && inB e q && inB f q)
theorem bad6_of {q : Nat} {a b c d e f : Int32} (h : inB a q = false ∨ inB b q = false ∨ inB c q = false ∨ inB d q = false ∨ inB e q = false ∨ inB f q = false) : bad6 q a b c d e f = true := by
  rw [bad6]
  rcases h with h | h | h | h | h | h <;> rw [h] <;> simp
def zer6 (a b c d e f : Int32) : Prop := nv a = 0 ∧ nv b = 0 ∧ nv c = 0 ∧ nv d = 0 ∧ nv e = 0 ∧ nv f = 0
def cur6 (q : Nat) (a b c d e f : Int32) (t : Nat) : Bool := crv q (u6 (nv a) (nv b) (nv c) (nv d) (nv e) (nv f)) t == 0
noncomputable def curZ (q : Nat) (a b c d e f : Int32) : Int32 := if bad6 q a b c d e f = true then -2 else @ite _ (zer6 a b c d e f) (Classical.propDecidable _) (-3) (nI (cnt (cur6 q a b c d e f) (nn q)))
noncomputable def curS (q : Nat) (S : Nat → Bool) (a b c d e f : Int32) : Nat → Bool := if bad6 q a b c d e f = true then S else @ite _ (zer6 a b c d e f) (Classical.propDecidable _) S (cur6 q a b c d e f)
theorem curZ_b {q : Nat} {a b c d e f : Int32} (h : bad6 q a b c d e f = true) : some (Value.int (-2)) = some (.int (curZ q a b c d e f)) := by rw [curZ, if_pos h]
theorem curS_b {q : Nat} {S : Nat → Bool} {a b c d e f : Int32} (h : bad6 q a b c d e f = true) : eqN (nn q) S (curS q S a b c d e f) := by rw [curS, if_pos h]; exact fun _ _ => rfl
theorem curZ_z {q : Nat} {a b c d e f : Int32} (h : bad6 q a b c d e f = false) (hz : zer6 a b c d e f) : some (Value.int (-3)) = some (.int (curZ q a b c d e f)) := by rw [curZ, if_neg (by rw [h]; decide), if_pos hz]
theorem curS_z {q : Nat} {S : Nat → Bool} {a b c d e f : Int32} (h : bad6 q a b c d e f = false) (hz : zer6 a b c d e f) : eqN (nn q) S (curS q S a b c d e f) := by rw [curS, if_neg (by rw [h]; decide), if_pos hz]; exact fun _ _ => rfl
theorem curS_g {q : Nat} {S S3 : Nat → Bool} {a b c d e f : Int32} (h : bad6 q a b c d e f = false) (hz : ¬ zer6 a b c d e f) (hs : eqN (nn q) S3 (cur6 q a b c d e f)) : eqN (nn q) S3 (curS q S a b c d e f) := by rw [curS, if_neg (by rw [h]; decide), if_neg hz]; exact hs
theorem curZ_g {q : Nat} {S3 : Nat → Bool} {a b c d e f : Int32} (h : bad6 q a b c d e f = false) (hz : ¬ zer6 a b c d e f) (hs : eqN (nn q) S3 (cur6 q a b c d e f)) : some (Value.int (nI (cnt S3 (nn q)))) = some (.int (curZ q a b c d e f)) := by rw [curZ, if_neg (by rw [h]; decide), if_neg hz, cnt_congr hs]
theorem u6_lt {q a b c d e f k : Nat} (ha : a < q) (hb : b < q) (hc : c < q) (hd : d < q) (he : e < q) (hf : f < q) : u6 a b c d e f k < q := by
  rw [u6]; repeat' split
  all_goals assumption
theorem sm6_congr {q : Nat} {u v w : Nat → Nat} (h : ∀ k, k < 6 → u k = v k) : sm6 q u w = sm6 q v w := by
  rw [sm6, sm6, h 0 (by decide), h 1 (by decide), h 2 (by decide), h 3 (by decide), h 4 (by decide), h 5 (by decide)]
theorem all6 {P : Nat → Prop} (h0 : P 0) (h1 : P 1) (h2 : P 2) (h3 : P 3) (h4 : P 4) (h5 : P 5) : ∀ k, k < 6 → P k
  | 0, _ => h0 | 1, _ => h1 | 2, _ => h2 | 3, _ => h3 | 4, _ => h4 | 5, _ => h5
  | k + 6, h => absurd h (by omega)
def begZ (q : Nat) (x : Int32) : Int32 := if exQ x = false then -2 else nI q
theorem crv_lt {q t : Nat} {u : Nat → Nat} (hq : q ∈ qs) (hu : ∀ k, k < 6 → u k < q) (ht : t < nn q) : crv q u t < q := by
  rw [crv, sm6]
  exact fadd_lt hq (fadd_lt hq (fadd_lt hq (fadd_lt hq (fadd_lt hq (fmul_lt hq (hu 0 (by decide)) (trm_lt hq ht)) (fmul_lt hq (hu 1 (by decide)) (trm_lt hq ht))) (fmul_lt hq (hu 2 (by decide)) (trm_lt hq ht))) (fmul_lt hq (hu 3 (by decide)) (trm_lt hq ht))) (fmul_lt hq (hu 4 (by decide)) (trm_lt hq ht))) (fmul_lt hq (hu 5 (by decide)) (trm_lt hq ht))

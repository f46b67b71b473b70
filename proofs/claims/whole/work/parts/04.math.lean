def qs : List Nat := [2, 3, 4, 5, 7, 8, 9]
def tAdd (q : Nat) : Nat := if q = 2 then 68719476752 else if q = 3 then 1218370552582636207866384 else if q = 4 then 94434899134181108932491746274718224 else if q = 5 then 4572990810454575848007626284217218242870866358800 else if q = 7 then 9297542639348527552236800780813204282305034793674391590767343505021088272 else if q = 8 then 138145339583879096428209328452192441095485204611018773672575787500798694099453751824 else if q = 9 then 8986690708024339884259668388453865091868182506470258411551265922896781674643265104972283578167824 else 0
def tMul (q : Nat) : Nat := if q = 2 then 1099511627776 else if q = 3 then 1360041547102741705261056 else if q = 4 then 2757109631905114177050704042595975168 else if q = 5 then 1662743562050394122922425072219743642211886039040 else if q = 7 then 2010278533274547585798409916595081907546577359384113947133585970195070976 else if q = 8 then 6359748845871107534148503226590670280548494996483042196734067610529206322563693674496 else if q = 9 then 12992295474418726299168584010125499800446975643965808714274855111902658395364003326119775607717888 else 0
def tNeg (q : Nat) : Nat := if q = 2 then 16 else if q = 3 then 288 else if q = 4 then 12816 else if q = 5 then 74560 else if q = 7 then 19088736 else if q = 8 then 1985229328 else if q = 9 then 18580267296 else 0
def tInv (q : Nat) : Nat := if q = 2 then 16 else if q = 3 then 528 else if q = 4 then 8976 else if q = 5 then 271120 else if q = 7 then 103961616 else if q = 8 then 1126655248 else if q = 9 then 32267133456 else 0
def fadd (q a b : Nat) : Nat := (tAdd q >>> (4 * (a * 9 + b))) % 16
def fmul (q a b : Nat) : Nat := (tMul q >>> (4 * (a * 9 + b))) % 16
def fneg (q a : Nat) : Nat := (tNeg q >>> (4 * a)) % 16
def finv (q a : Nat) : Nat := (tInv q >>> (4 * a)) % 16
def fsub (q a b : Nat) : Nat := fadd q a (fneg q b)
def fdiv (q a b : Nat) : Nat := fmul q a (finv q b)
theorem qs_le {q : Nat} (h : q ∈ qs) : 2 ≤ q ∧ q ≤ 9 := (by decide : ∀ q ∈ qs, 2 ≤ q ∧ q ≤ 9) q h
theorem F_t1 : ∀ q ∈ qs, ∀ a, a < q → fneg q a < q ∧ finv q a < q ∧ fadd q a 0 = a ∧ fadd q 0 a = a ∧ fmul q a 1 = a ∧ fmul q 1 a = a ∧ fmul q a 0 = 0 ∧ fmul q 0 a = 0 ∧ fadd q a (fneg q a) = 0 ∧ (¬ a = 0 → fmul q a (finv q a) = 1) := by decide +kernel
theorem F_t2 : ∀ q ∈ qs, ∀ a, a < q → ∀ b, b < q → fadd q a b < q ∧ fmul q a b < q ∧ fadd q a b = fadd q b a ∧ fmul q a b = fmul q b a := by decide +kernel
theorem F_t3 : ∀ q ∈ qs, ∀ a, a < q → ∀ b, b < q → ∀ c, c < q → fadd q (fadd q a b) c = fadd q a (fadd q b c) ∧ fmul q (fmul q a b) c = fmul q a (fmul q b c) ∧ fmul q a (fadd q b c) = fadd q (fmul q a b) (fmul q a c) := by decide +kernel
theorem fadd_lt {q a b : Nat} (h : q ∈ qs) (ha : a < q) (hb : b < q) : fadd q a b < q := (F_t2 q h a ha b hb).1
theorem fmul_lt {q a b : Nat} (h : q ∈ qs) (ha : a < q) (hb : b < q) : fmul q a b < q := (F_t2 q h a ha b hb).2.1
theorem fneg_lt {q a : Nat} (h : q ∈ qs) (ha : a < q) : fneg q a < q := (F_t1 q h a ha).1
theorem finv_lt {q a : Nat} (h : q ∈ qs) (ha : a < q) : finv q a < q := (F_t1 q h a ha).2.1
theorem fsub_lt {q a b : Nat} (h : q ∈ qs) (ha : a < q) (hb : b < q) : fsub q a b < q := fadd_lt h ha (fneg_lt h hb)
theorem fdiv_lt {q a b : Nat} (h : q ∈ qs) (ha : a < q) (hb : b < q) : fdiv q a b < q := fmul_lt h ha (finv_lt h hb)
theorem fadd_0l {q a : Nat} (h : q ∈ qs) (ha : a < q) : fadd q 0 a = a := (F_t1 q h a ha).2.2.2.1
/-- how many points -/
def nn (q : Nat) : Nat := q * q + q + 1
theorem nn_le {q : Nat} (h : q ∈ qs) : 7 ≤ nn q ∧ nn q ≤ 91 ∧ nn q = q * q + q + 1 := (by decide : ∀ q ∈ qs, 7 ≤ nn q ∧ nn q ≤ 91 ∧ nn q = q * q + q + 1) q h
/-- number k of point p -/
def pt (q p k : Nat) : Nat := if p = 0 then (if k = 2 then 1 else 0) else if p ≤ q then (if k = 0 then 0 else if k = 1 then 1 else p - 1) else (if k = 0 then 1 else if k = 1 then (p - 1 - q) / q else (p - 1 - q) % q)
theorem pt_tab : ∀ q ∈ qs, ∀ p, p < nn q → ∀ k, k < 3 → pt q p k < q := by decide +kernel
theorem pt_lt {q p k : Nat} (h : q ∈ qs) (hp : p < nn q) (hk : k < 3) : pt q p k < q := pt_tab q h p hp k hk
def vdot (q : Nat) (u v : Nat → Nat) : Nat := fadd q (fadd q (fmul q (u 0) (v 0)) (fmul q (u 1) (v 1))) (fmul q (u 2) (v 2))
/-- a d - b c -/
def fcw (q a b c d : Nat) : Nat := fsub q (fmul q a d) (fmul q b c)
def vcr (q : Nat) (u v : Nat → Nat) (k : Nat) : Nat := fcw q (u ((k + 1) % 3)) (u ((k + 2) % 3)) (v ((k + 1) % 3)) (v ((k + 2) % 3))
def vdet (q : Nat) (u v z : Nat → Nat) : Nat := vdot q u (vcr q v z)
def onq (q p l : Nat) : Bool := vdot q (pt q p) (pt q l) == 0
theorem fcw_lt {q a b c d : Nat} (h : q ∈ qs) (ha : a < q) (hb : b < q) (hc : c < q) (hd : d < q) : fcw q a b c d < q := fsub_lt h (fmul_lt h ha hd) (fmul_lt h hb hc)
theorem vdot_lt {q : Nat} {u v : Nat → Nat} (h : q ∈ qs) (hu : ∀ k, k < 3 → u k < q) (hv : ∀ k, k < 3 → v k < q) : vdot q u v < q := fadd_lt h (fadd_lt h (fmul_lt h (hu 0 (by decide)) (hv 0 (by decide))) (fmul_lt h (hu 1 (by decide)) (hv 1 (by decide)))) (fmul_lt h (hu 2 (by decide)) (hv 2 (by decide)))
theorem vcr_lt {q k : Nat} {u v : Nat → Nat} (h : q ∈ qs) (hu : ∀ k, k < 3 → u k < q) (hv : ∀ k, k < 3 → v k < q) : vcr q u v k < q := fcw_lt h (hu _ (Nat.mod_lt _ (by decide))) (hu _ (Nat.mod_lt _ (by decide))) (hv _ (Nat.mod_lt _ (by decide))) (hv _ (Nat.mod_lt _ (by decide)))
theorem vdet_lt {q : Nat} {u v z : Nat → Nat} (h : q ∈ qs) (hu : ∀ k, k < 3 → u k < q) (hv : ∀ k, k < 3 → v k < q) (hz : ∀ k, k < 3 → z k < q) : vdet q u v z < q := vdot_lt h hu (fun _ _ => vcr_lt h hv hz)
theorem ptv {q p : Nat} (h : q ∈ qs) (hp : p < nn q) : ∀ k, k < 3 → pt q p k < q := fun _ hk => pt_lt h hp hk
/-- the number of a triple that is not 0, 0, 0 -/
def nmb (q x y z : Nat) : Nat := if x ≠ 0 then 1 + q + fdiv q y x * q + fdiv q z x else if y ≠ 0 then 1 + fdiv q z y else 0

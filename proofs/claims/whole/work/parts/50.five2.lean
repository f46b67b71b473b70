/-- the first row from r on that has a number in column c -/
def fpZ (mx : Nat → Nat) (c : Nat) : Nat → Nat → Int32
  | 0, _ => -1
  | n + 1, r => if mx (r * 6 + c) = 0 then fpZ mx c n (r + 1) else nI r
theorem nI_ne1 {j : Nat} (h : j < 2 ^ 31) : ¬ nI j = -1 := fun z => by
  have e := congrArg Int32.toInt z
  rw [nI_toInt h, show (-1 : Int32).toInt = -1 from rfl] at e
  omega
theorem fpZ_spec {mx : Nat → Nat} {c : Nat} : ∀ (n r : Nat), (fpZ mx c n r = -1 ∧ ∀ j, r ≤ j → j < r + n → mx (j * 6 + c) = 0) ∨ ∃ j, r ≤ j ∧ j < r + n ∧ ¬ mx (j * 6 + c) = 0 ∧ fpZ mx c n r = nI j
  | 0, r => Or.inl ⟨rfl, fun j h1 h2 => absurd h2 (by omega)⟩
  | n + 1, r => by
    rw [fpZ]
    by_cases z : mx (r * 6 + c) = 0
    · rw [if_pos z]
      rcases fpZ_spec n (r + 1) with h | ⟨j, h1, h2, h3, h4⟩
      · refine Or.inl ⟨h.1, fun j h1 h2 => ?_⟩
        by_cases y : j = r
        · rw [y]; exact z
        · exact h.2 j (by omega) (by omega)
      · exact Or.inr ⟨j, by omega, by omega, h3, h4⟩
    · rw [if_neg z]; exact Or.inr ⟨r, Nat.le_refl r, by omega, z, rfl⟩
theorem fpZ_no {mx : Nat → Nat} {c n r : Nat} (h5 : r + n < 2 ^ 31) (h : fpZ mx c n r = -1) : ∀ j, r ≤ j → j < r + n → mx (j * 6 + c) = 0 := by
  rcases fpZ_spec (mx := mx) (c := c) n r with z | ⟨j, h1, h2, h3, h4⟩
  · exact z.2
  · rw [h4] at h; exact absurd h (nI_ne1 (by omega))
theorem fpZ_yes {mx : Nat → Nat} {c n r : Nat} (h : ¬ fpZ mx c n r = -1) : ∃ j, r ≤ j ∧ j < r + n ∧ ¬ mx (j * 6 + c) = 0 ∧ fpZ mx c n r = nI j := by
  rcases fpZ_spec (mx := mx) (c := c) n r with z | z
  · exact absurd z.1 h
  · exact z
theorem fpZ_s0 {mx : Nat → Nat} {c r : Nat} (hr : r < 5) (h : mx (r * 6 + c) = 0) : fpZ mx c (5 - r) r = fpZ mx c (5 - (r + 1)) (r + 1) := by
  rw [show 5 - r = (5 - (r + 1)) + 1 by omega, fpZ, if_pos h]
theorem fpZ_s1 {mx : Nat → Nat} {c r : Nat} (hr : r < 5) (h : ¬ mx (r * 6 + c) = 0) : fpZ mx c (5 - r) r = nI r := by
  rw [show 5 - r = (5 - (r + 1)) + 1 by omega, fpZ, if_neg h]
theorem fpZ_e {mx : Nat → Nat} {c r : Nat} (hr : 5 ≤ r) : fpZ mx c (5 - r) r = -1 := by
  rw [show 5 - r = 0 by omega]; rfl
def half (mx my : Nat → Nat) (i : Nat) (m : Nat → Nat) : Prop := ∀ r k, r < 5 → k < 6 → m (r * 6 + k) = if k < i then my (r * 6 + k) else mx (r * 6 + k)
theorem half_0 {mx my : Nat → Nat} : half mx my 0 mx := fun r k _ _ => by rw [if_neg (Nat.not_lt_zero k)]
theorem half_e {mx my m : Nat → Nat} {i : Nat} (h : half mx my i m) (hi : 6 ≤ i) : ∀ r k, r < 5 → k < 6 → m (r * 6 + k) = my (r * 6 + k) := fun r k hr hk => by rw [h r k hr hk, if_pos (by omega)]
theorem half_at {mx my m : Nat → Nat} {i r : Nat} (h : half mx my i m) (hr : r < 5) (hi : i < 6) : m (r * 6 + i) = mx (r * 6 + i) := by rw [h r i hr hi, if_neg (Nat.lt_irrefl i)]
/-- one column more -/
theorem half_s {mx my m m' : Nat → Nat} {i : Nat} (h : half mx my i m) (h1 : ∀ r k, r < 5 → k < 6 → ¬ k = i → m' (r * 6 + k) = m (r * 6 + k)) (h2 : ∀ r, r < 5 → m' (r * 6 + i) = my (r * 6 + i)) : half mx my (i + 1) m' := fun r k hr hk => by
  by_cases z : k = i
  · rw [z, if_pos (Nat.lt_succ_self i)]; exact h2 r hr
  · rw [h1 r k hr hk z, h r k hr hk]
    by_cases y : k < i
    · rw [if_pos y, if_pos (by omega)]
    · rw [if_neg y, if_neg (by omega)]
theorem sw_step {mx m : Nat → Nat} {a b i : Nat} (ha : a < 5) (hb : b < 5) (hi : i < 6) (h : half mx (swF mx a b) i m) : half mx (swF mx a b) (i + 1) (upN (upN m (a * 6 + i) (m (b * 6 + i))) (b * 6 + i) (m (a * 6 + i))) := by
  refine half_s h (fun r k hr hk z => by rw [upN_n (by omega), upN_n (by omega)]) (fun r hr => ?_)
  rw [swF_at hi, sw]
  by_cases z : r = b
  · rw [z, upN_s, half_at h ha hi]
    by_cases y : b = a
    · rw [if_pos y, y]
    · rw [if_neg y, if_pos rfl]
  · rw [upN_n (by omega)]
    by_cases y : r = a
    · rw [if_pos y, y, upN_s, half_at h hb hi]
    · rw [if_neg y, if_neg z, upN_n (by omega), half_at h hr hi]
theorem sc_step {q hd a i : Nat} {mx m : Nat → Nat} (ha : a < 5) (hi : i < 6) (h : half mx (scF q mx a hd) i m) : half mx (scF q mx a hd) (i + 1) (upN m (a * 6 + i) (fdiv q (mx (a * 6 + i)) hd)) := by
  refine half_s h (fun r k hr hk z => by rw [upN_n (by omega)]) (fun r hr => ?_)
  rw [scF_at hi]
  by_cases z : r = a
  · rw [if_pos z, z, upN_s]
  · rw [if_neg z, upN_n (by omega), half_at h hr hi]
theorem tk_step {q f j a i : Nat} {mx m : Nat → Nat} (hj : j < 5) (hi : i < 6) (h : half mx (tkF q mx j a f) i m) : half mx (tkF q mx j a f) (i + 1) (upN m (j * 6 + i) (fsub q (mx (j * 6 + i)) (fmul q f (mx (a * 6 + i))))) := by
  refine half_s h (fun r k hr hk z => by rw [upN_n (by omega)]) (fun r hr => ?_)
  rw [tkF_at hi]
  by_cases z : r = j
  · rw [if_pos z, z, upN_s]
  · rw [if_neg z, upN_n (by omega), half_at h hr hi]
/-- the same numbers in the matrix -/
def eqM (m my : Nat → Nat) : Prop := ∀ r k, r < 5 → k < 6 → m (r * 6 + k) = my (r * 6 + k)
theorem cl_skip {q a c i : Nat} {mx m : Nat → Nat} (z : i = a) (h : eqM m (clR q mx a c i)) : eqM m (clR q mx a c (i + 1)) := by
  rw [clR, if_pos z]; exact h
theorem cl_step {q a c i : Nat} {mx m m' : Nat → Nat} (hi : i < 5) (ha : a < 5) (hc : c < 6) (z : ¬ i = a) (h : eqM m (clR q mx a c i)) (h' : eqM m' (tkF q m i a (m (i * 6 + c)))) : eqM m' (clR q mx a c (i + 1)) := fun r k hr hk => by
  rw [clR, if_neg z, h' r k hr hk, tkF_at hk, tkF_at hk, h r k hr hk, h a k ha hk, h i c hi hc]
theorem eqM_ok {q : Nat} {m my : Nat → Nat} (h : eqM m my) (hk : okM q my) : okM q m := fun r k hr h6 => by rw [h r k hr h6]; exact hk r k hr h6
def lsM (q : Nat) (S : Nat → Bool) (i : Nat) (m : Nat → Nat) : Prop := ∀ r k, r < i → k < 6 → m (r * 6 + k) = trm q (mbr q S r) k
theorem ls_step {q i : Nat} {S : Nat → Bool} {m : Nat → Nat} (h : lsM q S i m) : lsM q S (i + 1) (upN (upN (upN (upN (upN (upN m (i * 6 + 0) (trm q (mbr q S i) 0)) (i * 6 + 1) (trm q (mbr q S i) 1)) (i * 6 + 2) (trm q (mbr q S i) 2)) (i * 6 + 3) (trm q (mbr q S i) 3)) (i * 6 + 4) (trm q (mbr q S i) 4)) (i * 6 + 5) (trm q (mbr q S i) 5)) := fun r k hr hk => by
  rcases Nat.lt_succ_iff_lt_or_eq.mp hr with z | z
  · rw [upN_n (by omega), upN_n (by omega), upN_n (by omega), upN_n (by omega), upN_n (by omega), upN_n (by omega)]; exact h r k z hk
  · subst z
    revert k
    refine all6 ?_ ?_ ?_ ?_ ?_ ?_
    · rw [upN_n (by omega), upN_n (by omega), upN_n (by omega), upN_n (by omega), upN_n (by omega), upN_s]
    · rw [upN_n (by omega), upN_n (by omega), upN_n (by omega), upN_n (by omega), upN_s]
    · rw [upN_n (by omega), upN_n (by omega), upN_n (by omega), upN_s]
    · rw [upN_n (by omega), upN_n (by omega), upN_s]
    · rw [upN_n (by omega), upN_s]
    · rw [upN_s]
def fivB (q : Nat) (S : Nat → Bool) : Bool := decide (cnt S (nn q) = 5) && allB (fun l => decide (metq q S l < 4)) (nn q)
theorem fivB_iff {q : Nat} {S : Nat → Bool} : fivB q S = true ↔ fiv q S := by
  rw [fivB, Bool.and_eq_true, decide_eq_true_iff, allB_iff, fiv]
  exact ⟨fun h => ⟨h.1, fun l hl => by have := of_decide_eq_true (h.2 l hl); omega⟩, fun h => ⟨h.1, fun l hl => decide_eq_true (by have := h.2 l hl; omega)⟩⟩
theorem fiv_mx {q : Nat} {S : Nat → Bool} : fiv q S ↔ cnt S (nn q) = 5 ∧ mxq (metq q S) (nn q) ≤ 3 := by
  rw [fiv, mxq_le]
noncomputable def thrZ (q : Nat) (S : Nat → Bool) (k : Int32) : Int32 := if inR k 0 5 = false then -2 else if fivB q S = false then -1 else nI (thrV q S (nv k))
theorem fiv_no {q : Nat} {S : Nat → Bool} (h : ¬ fiv q S) : fivB q S = false := by
  cases e : fivB q S
  · rfl
  · exact absurd (fivB_iff.mp e) h
theorem hdf_of {f : Nat → Nat} {k n : Nat} (hk : k < n) (h : ¬ f k = 0) : ¬ hdf f n = 0 := fun z => h (hdf_0 z k hk)
theorem JG_fin {q rk co fr : Nat} {Z : (Nat → Nat) → Prop} {mx pv : Nat → Nat} (hq : q ∈ qs) (h : JG q Z mx pv rk co fr) (e : co = 6) : JG q Z mx pv 5 6 fr := by
  subst e
  have h8 := (JG_end hq h).1
  subst h8
  exact h
theorem clR_congr {q a c fd : Nat} {mx m : Nat → Nat} (hq : q ∈ qs) (ha : a < 5) (hc : c < 6) (h : eqM m (swF mx a fd)) : eqM (clR q m a c 5) (clR q (swF mx a fd) a c 5) := fun r k hr hk => by
  by_cases z : r = a
  · rw [z, (cl_at hk hc 5).1, (cl_at hk hc 5).1, h a k ha hk, h a c ha hc]
  · rw [(cl_at hk hc 5).2 r z, (cl_at hk hc 5).2 r z, h r k hr hk, h r c hr hc, h a k ha hk, h a c ha hc]

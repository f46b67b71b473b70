def TPK (q k : Nat) (tr : Nat → Nat) : Prop := ∀ i j, i < k → j < 3 → tr (3 * i + j) = pt q i j
theorem TPK_step {q k x y z : Nat} {tr : Nat → Nat} (h : TPK q k tr) (h0 : x = pt q k 0) (h1 : y = pt q k 1) (h2 : z = pt q k 2) : TPK q (k + 1) (upN (upN (upN tr (3 * k) x) (3 * k + 1) y) (3 * k + 2) z) := by
  intro i j hi hj
  rcases Nat.lt_succ_iff_lt_or_eq.mp hi with a | a
  · rw [upN_n (by omega), upN_n (by omega), upN_n (by omega)]; exact h i j a hj
  · subst a
    match j, hj with
    | 0, _ => rw [upN_n (by omega), upN_n (by omega), Nat.add_zero, upN_s, h0]
    | 1, _ => rw [upN_n (by omega), upN_s, h1]
    | 2, _ => rw [upN_s, h2]
theorem TPK_0 {q : Nat} {tr : Nat → Nat} : TPK q 0 tr := fun i _ h => absurd h (Nat.not_lt_zero i)
theorem pt_0 (q : Nat) : 0 = pt q 0 0 ∧ 0 = pt q 0 1 ∧ 1 = pt q 0 2 := ⟨rfl, rfl, rfl⟩
theorem pt_mid {q z : Nat} (h : z < q) : 0 = pt q (1 + z) 0 ∧ 1 = pt q (1 + z) 1 ∧ z = pt q (1 + z) 2 := by
  have h1 : ¬ 1 + z = 0 := by omega
  have h2 : 1 + z ≤ q := by omega
  simp [pt, h1, h2]
theorem pt_hi {q y z : Nat} (hz : z < q) : 1 = pt q (1 + q + y * q + z) 0 ∧ y = pt q (1 + q + y * q + z) 1 ∧ z = pt q (1 + q + y * q + z) 2 := by
  have h1 : ¬ 1 + q + y * q + z = 0 := by omega
  have h2 : ¬ 1 + q + y * q + z ≤ q := by omega
  have h3 : 1 + q + y * q + z - 1 - q = z + q * y := by rw [Nat.mul_comm q y]; omega
  have hq : 0 < q := by omega
  have e : ∀ k, pt q (1 + q + y * q + z) k = if k = 0 then 1 else if k = 1 then (z + q * y) / q else (z + q * y) % q := fun k => by rw [pt, if_neg h1, if_neg h2, h3]
  refine ⟨by rw [e]; rfl, ?_, ?_⟩
  · rw [e, if_neg (by decide), if_pos rfl, Nat.add_mul_div_left _ _ hq, Nat.div_eq_of_lt hz, Nat.zero_add]
  · rw [e, if_neg (by decide), if_neg (by decide), Nat.add_mul_mod_self_left, Nat.mod_eq_of_lt hz]
theorem yz_lt {q y z : Nat} (hy : y < q) (hz : z < q) : y * q + z < q * q := by
  have : (y + 1) * q ≤ q * q := Nat.mul_le_mul_right q hy
  rw [Nat.succ_mul] at this
  omega
/-- the points on a line below block j -/
def rowK (q l j : Nat) : List Nat := (List.range (1 + j * q)).filter (fun p => onq q p l)
theorem rowK_0 : ∀ q ∈ qs, ∀ l, l < nn q → rowK q l 0 = if pt q l 2 = 0 then [0] else [] := by decide +kernel
theorem rowK_s : ∀ q ∈ qs, ∀ l, l < nn q → ∀ j, j < q + 1 → rowK q l (j + 1) = rowK q l j ++ (if ¬ pt q l 2 = 0 then [1 + j * q + fdiv q (fneg q (vdot q (pt q l) (pt q (1 + j * q)))) (pt q l 2)] else if vdot q (pt q l) (pt q (1 + j * q)) = 0 then (List.range q).map (fun z => 1 + j * q + z) else []) := by decide +kernel
theorem rowK_len : ∀ q ∈ qs, ∀ l, l < nn q → ∀ j, j < q + 2 → (rowK q l j).length ≤ q + 1 := by decide +kernel
theorem rowK_end {q l : Nat} : rowK q l (q + 1) = rowL q l := by
  rw [rowK, rowL, nn, show 1 + (q + 1) * q = q * q + q + 1 by rw [Nat.succ_mul]; omega]
def RowP (ro : Nat → Nat) (b : Nat) (L : List Nat) : Prop := ∀ t, t < L.length → ro (b + t) = L.getD t 0
theorem RowP_0 {ro : Nat → Nat} {b : Nat} : RowP ro b [] := fun t h => absurd h (Nat.not_lt_zero t)
theorem RowP_snoc {ro : Nat → Nat} {b x : Nat} {L : List Nat} (h : RowP ro b L) (v : Nat) (hx : x = b + L.length) : RowP (upN ro x v) b (L ++ [v]) := by
  intro t ht
  rw [List.length_append, List.length_singleton] at ht
  rw [List.getD_eq_getElem?_getD]
  rcases Nat.lt_or_ge t L.length with a | a
  · rw [upN_n (by omega), h t a, List.getElem?_append_left a, List.getD_eq_getElem?_getD]
  · have : t = L.length := by omega
    subst this
    rw [hx, upN_s, List.getElem?_append_right (Nat.le_refl _), Nat.sub_self]
    rfl
def RowF (ro ro0 : Nat → Nat) (b : Nat) : Prop := ∀ j, (j < b ∨ b + 10 ≤ j) → ro j = ro0 j
theorem RowF_up {ro ro0 : Nat → Nat} {b x v : Nat} (h : RowF ro ro0 b) (h1 : b ≤ x) (h2 : x < b + 10) : RowF (upN ro x v) ro0 b := fun j hj => by
  rw [upN_n (by omega)]; exact h j hj
def ROKk (q k : Nat) (ro : Nat → Nat) : Prop := ∀ l t, l < k → t ≤ q → ro (l * 10 + t) = rowq q l t
theorem ROKk_step {q k : Nat} {ro ro' : Nat → Nat} (hq : q ≤ 9) (h : ROKk q k ro) (h1 : ∀ t, t ≤ q → ro' (k * 10 + t) = rowq q k t) (h2 : RowF ro' ro (k * 10)) : ROKk q (k + 1) ro' := by
  intro l t hl ht
  rcases Nat.lt_succ_iff_lt_or_eq.mp hl with a | a
  · rw [h2 _ (by omega)]; exact h l t a ht
  · subst a; exact h1 t ht
/-- counting along a row -/
theorem cnt_filter (P : Nat → Bool) : ∀ n, cnt P n = ((List.range n).filter P).length
  | 0 => rfl
  | n + 1 => by
    rw [cnt, cnt_filter P n, List.range_succ, List.filter_append, List.length_append]
    cases h : P n <;> simp [h]
theorem cnt_take (S : Nat → Bool) (L : List Nat) : ∀ k, k ≤ L.length → cnt (fun t => S (L.getD t 0)) k = ((L.take k).filter S).length
  | 0, _ => by simp [cnt]
  | k + 1, h => by
    have hk : k < L.length := h
    rw [cnt, cnt_take S L k (by omega), List.take_succ, List.filter_append, List.length_append, List.getD_eq_getElem?_getD, List.getElem?_eq_getElem hk]
    simp only [Option.getD_some, Option.toList_some]
    cases hS : S L[k] <;> simp [hS]
theorem tal_met {q l : Nat} (S : Nat → Bool) (hq : q ∈ qs) (hl : l < nn q) : cnt (fun t => S (rowq q l t)) (q + 1) = metq q S l := by
  have e := row_tab q hq l hl
  have h1 := cnt_take S (rowL q l) (q + 1) (by omega)
  rw [List.take_of_length_le (by omega)] at h1
  rw [metq, cnt_filter (fun t => S t && onq q t l) (nn q)]
  refine h1.trans ?_
  rw [rowL, List.filter_filter]
theorem cnt_congr {P R : Nat → Bool} : ∀ {n : Nat}, (∀ t, t < n → P t = R t) → cnt P n = cnt R n
  | 0, _ => rfl
  | n + 1, h => by rw [cnt, cnt, cnt_congr (fun t ht => h t (by omega)), h n (by omega)]
theorem secq_congr {q p : Nat} {f g : Nat → Nat} (hq : q ∈ qs) (hp : p < nn q) (h : ∀ l, l < nn q → f l = g l) : secq q f p = secq q g p :=
  cnt_congr (fun t ht => by rw [h _ (rowq_lt hq hp (by omega))])

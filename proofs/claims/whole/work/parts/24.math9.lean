def fs3 (x y z : Nat) : Nat := if ¬ x = 0 then x else if ¬ y = 0 then y else z
theorem nmb_okB : ∀ q ∈ qs, ∀ x, x < q → ∀ y, y < q → ∀ z, z < q → ((x == 0 && y == 0 && z == 0) || (pt q (nmb q x y z) 0 == fdiv q x (fs3 x y z) && pt q (nmb q x y z) 1 == fdiv q y (fs3 x y z) && pt q (nmb q x y z) 2 == fdiv q z (fs3 x y z))) = true := by decide +kernel
theorem nmb_ok (q : Nat) (hq : q ∈ qs) (x : Nat) (hx : x < q) (y : Nat) (hy : y < q) (z : Nat) (hz : z < q) : (x = 0 ∧ y = 0 ∧ z = 0) ∨ (pt q (nmb q x y z) 0 = fdiv q x (fs3 x y z) ∧ pt q (nmb q x y z) 1 = fdiv q y (fs3 x y z) ∧ pt q (nmb q x y z) 2 = fdiv q z (fs3 x y z)) := by
  have h := nmb_okB q hq x hx y hy z hz
  simp only [Bool.or_eq_true, Bool.and_eq_true, beq_iff_eq] at h
  rcases h with h | h
  · exact Or.inl ⟨h.1.1, h.1.2, h.2⟩
  · exact Or.inr ⟨h.1.1, h.1.2, h.2⟩
theorem pt_inj : ∀ q ∈ qs, ∀ i, i < nn q → ∀ j, j < nn q → (pt q i 0 = pt q j 0 ∧ pt q i 1 = pt q j 1 ∧ pt q i 2 = pt q j 2) → i = j := by decide +kernel
theorem nmb_spec {q x y z : Nat} (hq : q ∈ qs) (hx : x < q) (hy : y < q) (hz : z < q) (h : ¬ (x = 0 ∧ y = 0 ∧ z = 0)) {f : Nat} (hf : f = fs3 x y z) : pt q (nmb q x y z) 0 = fdiv q x f ∧ pt q (nmb q x y z) 1 = fdiv q y f ∧ pt q (nmb q x y z) 2 = fdiv q z f := by
  rw [hf]; exact (nmb_ok q hq x hx y hy z hz).resolve_left h
theorem fs3_1 {x y z : Nat} (h : ¬ x = 0) : x = fs3 x y z := by rw [fs3, if_pos h]
theorem fs3_2 {x y z : Nat} (h : x = 0) (h1 : ¬ y = 0) : y = fs3 x y z := by rw [fs3, if_neg (fun k => k h), if_pos h1]
theorem fs3_3 {x y z : Nat} (h : x = 0) (h1 : y = 0) : z = fs3 x y z := by rw [fs3, if_neg (fun k => k h), if_neg (fun k => k h1)]
theorem th3_pt {q i k : Nat} (hk : k < 3) : th3 (pt q i 0) (pt q i 1) (pt q i 2) k = pt q i k := by
  match k, hk with
  | 0, _ => rfl
  | 1, _ => rfl
  | 2, _ => rfl
theorem pick_filter {P : Nat → Bool} {j : Nat} : ∀ n, n < 2 ^ 31 → j < ((List.range n).filter P).length → pickZ P n (nI j) = nI (((List.range n).filter P).getD j 0)
  | 0, _, h => absurd h (Nat.not_lt_zero j)
  | n + 1, hn, h => by
    have hc := cnt_filter P n
    have hl := cnt_le P n
    rw [pickZ]
    rw [List.range_succ, List.filter_append] at h ⊢
    rcases Nat.lt_or_ge j ((List.range n).filter P).length with z | z
    · rw [if_neg (fun y => by
        have y2 := (nI_eq (by omega) (by omega)).mp y.2
        omega), pick_filter n (by omega) z, List.getD_eq_getElem?_getD, List.getD_eq_getElem?_getD, List.getElem?_append_left z]
    · cases hP : P n
      · simp [hP] at h; omega
      · have hj : j = ((List.range n).filter P).length := by simp [hP] at h; omega
        rw [if_pos ⟨rfl, by rw [hc, hj]⟩, List.getD_eq_getElem?_getD, List.getElem?_append_right z, hj, Nat.sub_self]
        simp [hP]
theorem cnt_lt {P : Nat → Bool} {t n : Nat} (h : t < n) (hP : P t = true) : cnt P t < cnt P n := by
  have h1 : cnt P (t + 1) ≤ cnt P n := cnt_mono P h
  rw [cnt, hP] at h1
  simp at h1
  omega
theorem onq_row {q l : Nat} {k : Int32} (hq : q ∈ qs) (hl : l < nn q) : pickZ (fun t => onq q t l) (nn q) k = if inR k 0 q = false then -1 else nI (rowq q l (nv k)) := by
  have hn := nn_le hq
  have hq2 := qs_le hq
  have hlen := row_tab q hq l hl
  cases hk : inR k 0 q
  · rw [if_pos rfl]
    have := pick_none (S := fun t => onq q t l) (k := k) (n := nn q) (i := nn q) rfl (fun j hj hS z => by
      have h1 := cnt_lt (P := fun t => onq q t l) hj hS
      rw [cnt_filter _ (nn q)] at h1
      have h2 : cnt (fun t => onq q t l) j < q + 1 := by rw [← hlen]; exact h1
      have h3 := of_decide_eq_false hk
      rw [← z, nI_toInt (by omega)] at h3
      omega)
    exact (Value.int.inj this).symm
  · rw [if_neg (by decide)]
    obtain ⟨j, _, hj, rfl⟩ := inR_of (by omega) hk
    rw [nv_nI (by omega)]
    exact pick_filter (nn q) (by omega) (show j < (rowL q l).length by omega)
theorem det_1 : ∀ q ∈ qs, ∀ a, a < q → ∀ b, b < q → ∀ x, x < q → ∀ y, y < q → fsub q a (fmul q b (fsub q x y)) = fadd q a (fmul q b (fsub q y x)) := by decide +kernel
theorem det_eq {q : Nat} {mm : Nat → Nat} (hq : q ∈ qs) (hm : MPK q mm) : fadd q (fsub q (fmul q (mm 0) (fcw q (mm 4) (mm 5) (mm 7) (mm 8))) (fmul q (mm 1) (fcw q (mm 3) (mm 5) (mm 6) (mm 8)))) (fmul q (mm 2) (fcw q (mm 3) (mm 4) (mm 6) (mm 7))) = detq q mm := by
  have h : ∀ k, k < 9 → mm k < q := hm
  rw [show fcw q (mm 3) (mm 5) (mm 6) (mm 8) = fsub q (fmul q (mm 3) (mm 8)) (fmul q (mm 5) (mm 6)) from rfl, det_1 q hq _ (fmul_lt hq (h 0 (by decide)) (fcw_lt hq (h 4 (by decide)) (h 5 (by decide)) (h 7 (by decide)) (h 8 (by decide)))) _ (h 1 (by decide)) _ (fmul_lt hq (h 3 (by decide)) (h 8 (by decide))) _ (fmul_lt hq (h 5 (by decide)) (h 6 (by decide)))]
  rfl
theorem nmZ_nneg {q x y z : Nat} (hq : q ∈ qs) (hx : x < q) (hy : y < q) (hz : z < q) (h : ¬ nmZ q x y z = -3) : ¬ nmZ q x y z < 0 := by
  rw [nmZ] at h ⊢
  split
  · have := nmb_tab q hq x hx y hy z hz
    have := nn_le hq
    exact nI_pos (by omega)
  · rename_i w; rw [if_neg w] at h; exact absurd rfl h
theorem img_neg {q p : Nat} {mm : Nat → Nat} (hq : q ∈ qs) (hm : MPK q mm) (hp : p < nn q) (h : imgZ q mm p < 0) : imgZ q mm p = -3 := by
  by_cases z : imgZ q mm p = -3
  · exact z
  · obtain ⟨j, hj, e⟩ := img_cases hq hm hp z
    rw [e] at h
    have := nn_le hq
    exact absurd h (nI_pos (by omega))
theorem img_pos {q p : Nat} {mm : Nat → Nat} (hq : q ∈ qs) (hm : MPK q mm) (hp : p < nn q) (h : ¬ imgZ q mm p < 0) : ∃ j, j < nn q ∧ imgZ q mm p = nI j := img_cases hq hm hp (fun z => h (by rw [z]; decide))

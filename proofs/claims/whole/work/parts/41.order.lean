set_option maxHeartbeats 4000000 in
theorem R_ch0 {R : Type} (I : Lean.Grind.CommRing R) (m0 m1 m2 m3 m4 m5 m6 m7 m8 x y z : R) : (m0 * (m0 * (m0 * x + m1 * y + m2 * z) + m1 * (m3 * x + m4 * y + m5 * z) + m2 * (m6 * x + m7 * y + m8 * z)) + m1 * (m3 * (m0 * x + m1 * y + m2 * z) + m4 * (m3 * x + m4 * y + m5 * z) + m5 * (m6 * x + m7 * y + m8 * z)) + m2 * (m6 * (m0 * x + m1 * y + m2 * z) + m7 * (m3 * x + m4 * y + m5 * z) + m8 * (m6 * x + m7 * y + m8 * z))) = (m0 + m4 + m8) * (m0 * (m0 * x + m1 * y + m2 * z) + m1 * (m3 * x + m4 * y + m5 * z) + m2 * (m6 * x + m7 * y + m8 * z)) - ((m0 * m4 - m1 * m3) + (m0 * m8 - m2 * m6) + (m4 * m8 - m5 * m7)) * (m0 * x + m1 * y + m2 * z) + (m0 * (m4 * m8 - m5 * m7) + m1 * (m5 * m6 - m3 * m8) + m2 * (m3 * m7 - m4 * m6)) * x := by grind
set_option maxHeartbeats 4000000 in
theorem R_ch1 {R : Type} (I : Lean.Grind.CommRing R) (m0 m1 m2 m3 m4 m5 m6 m7 m8 x y z : R) : (m3 * (m0 * (m0 * x + m1 * y + m2 * z) + m1 * (m3 * x + m4 * y + m5 * z) + m2 * (m6 * x + m7 * y + m8 * z)) + m4 * (m3 * (m0 * x + m1 * y + m2 * z) + m4 * (m3 * x + m4 * y + m5 * z) + m5 * (m6 * x + m7 * y + m8 * z)) + m5 * (m6 * (m0 * x + m1 * y + m2 * z) + m7 * (m3 * x + m4 * y + m5 * z) + m8 * (m6 * x + m7 * y + m8 * z))) = (m0 + m4 + m8) * (m3 * (m0 * x + m1 * y + m2 * z) + m4 * (m3 * x + m4 * y + m5 * z) + m5 * (m6 * x + m7 * y + m8 * z)) - ((m0 * m4 - m1 * m3) + (m0 * m8 - m2 * m6) + (m4 * m8 - m5 * m7)) * (m3 * x + m4 * y + m5 * z) + (m0 * (m4 * m8 - m5 * m7) + m1 * (m5 * m6 - m3 * m8) + m2 * (m3 * m7 - m4 * m6)) * y := by grind
set_option maxHeartbeats 4000000 in
theorem R_ch2 {R : Type} (I : Lean.Grind.CommRing R) (m0 m1 m2 m3 m4 m5 m6 m7 m8 x y z : R) : (m6 * (m0 * (m0 * x + m1 * y + m2 * z) + m1 * (m3 * x + m4 * y + m5 * z) + m2 * (m6 * x + m7 * y + m8 * z)) + m7 * (m3 * (m0 * x + m1 * y + m2 * z) + m4 * (m3 * x + m4 * y + m5 * z) + m5 * (m6 * x + m7 * y + m8 * z)) + m8 * (m6 * (m0 * x + m1 * y + m2 * z) + m7 * (m3 * x + m4 * y + m5 * z) + m8 * (m6 * x + m7 * y + m8 * z))) = (m0 + m4 + m8) * (m6 * (m0 * x + m1 * y + m2 * z) + m7 * (m3 * x + m4 * y + m5 * z) + m8 * (m6 * x + m7 * y + m8 * z)) - ((m0 * m4 - m1 * m3) + (m0 * m8 - m2 * m6) + (m4 * m8 - m5 * m7)) * (m6 * x + m7 * y + m8 * z) + (m0 * (m4 * m8 - m5 * m7) + m1 * (m5 * m6 - m3 * m8) + m2 * (m3 * m7 - m4 * m6)) * z := by grind
def trq (q : Nat) (mm : Nat → Nat) : Nat := fadd q (fadd q (mm 0) (mm 4)) (mm 8)
def miq (q : Nat) (mm : Nat → Nat) : Nat := fadd q (fadd q (fsub q (fmul q (mm 0) (mm 4)) (fmul q (mm 1) (mm 3))) (fsub q (fmul q (mm 0) (mm 8)) (fmul q (mm 2) (mm 6)))) (fsub q (fmul q (mm 4) (mm 8)) (fmul q (mm 5) (mm 7)))
set_option maxHeartbeats 4000000 in
theorem v_ch {q : Nat} {mm v : Nat → Nat} (hq : q ∈ qs) (hm : MPK q mm) (hv : ltv q v) : ∀ i, i < 3 → mvv q mm (mvv q mm (mvv q mm v)) i = fadd q (fsub q (fmul q (trq q mm) (mvv q mm (mvv q mm v) i)) (fmul q (miq q mm) (mvv q mm v i))) (fmul q (detq q mm) (v i))
  | 0, _ => congrArg Subtype.val (R_ch0 (fqR hq) ⟨mm 0, hm 0 (by decide)⟩ ⟨mm 1, hm 1 (by decide)⟩ ⟨mm 2, hm 2 (by decide)⟩ ⟨mm 3, hm 3 (by decide)⟩ ⟨mm 4, hm 4 (by decide)⟩ ⟨mm 5, hm 5 (by decide)⟩ ⟨mm 6, hm 6 (by decide)⟩ ⟨mm 7, hm 7 (by decide)⟩ ⟨mm 8, hm 8 (by decide)⟩ ⟨v 0, hv 0 (by decide)⟩ ⟨v 1, hv 1 (by decide)⟩ ⟨v 2, hv 2 (by decide)⟩)
  | 1, _ => congrArg Subtype.val (R_ch1 (fqR hq) ⟨mm 0, hm 0 (by decide)⟩ ⟨mm 1, hm 1 (by decide)⟩ ⟨mm 2, hm 2 (by decide)⟩ ⟨mm 3, hm 3 (by decide)⟩ ⟨mm 4, hm 4 (by decide)⟩ ⟨mm 5, hm 5 (by decide)⟩ ⟨mm 6, hm 6 (by decide)⟩ ⟨mm 7, hm 7 (by decide)⟩ ⟨mm 8, hm 8 (by decide)⟩ ⟨v 0, hv 0 (by decide)⟩ ⟨v 1, hv 1 (by decide)⟩ ⟨v 2, hv 2 (by decide)⟩)
  | 2, _ => congrArg Subtype.val (R_ch2 (fqR hq) ⟨mm 0, hm 0 (by decide)⟩ ⟨mm 1, hm 1 (by decide)⟩ ⟨mm 2, hm 2 (by decide)⟩ ⟨mm 3, hm 3 (by decide)⟩ ⟨mm 4, hm 4 (by decide)⟩ ⟨mm 5, hm 5 (by decide)⟩ ⟨mm 6, hm 6 (by decide)⟩ ⟨mm 7, hm 7 (by decide)⟩ ⟨mm 8, hm 8 (by decide)⟩ ⟨v 0, hv 0 (by decide)⟩ ⟨v 1, hv 1 (by decide)⟩ ⟨v 2, hv 2 (by decide)⟩)
  | j + 3, h => absurd h (by omega)
def forc (v : Nat) (f : Nat → Bool) : Bool := match v with
  | 0 => f 0 | 1 => f 1 | 2 => f 2 | 3 => f 3 | 4 => f 4 | 5 => f 5 | 6 => f 6 | 7 => f 7 | 8 => f 8 | _ => false
theorem forc_t {v : Nat} {f : Nat → Bool} (h : forc v f = true) : f v = true := by
  unfold forc at h; split at h
  all_goals first | exact h | cases h
def cyS (q t s d : Nat) : Nat → Nat → Nat → Nat → Bool
  | 0, _, _, _ => false
  | f + 1, x, y, z => forc (fmul q d z) (fun x1 => forc (fsub q x (fmul q s z)) (fun y1 => forc (fadd q y (fmul q t z)) (fun z1 => (y1 == 0 && z1 == 0) || cyS q t s d f x1 y1 z1)))
theorem nmb_sc : ∀ q ∈ qs, ∀ c, c < q → ∀ x, x < q → ∀ y, y < q → ∀ z, z < q → (c = 0 ∨ nmb q (fmul q c x) (fmul q c y) (fmul q c z) = nmb q x y z) := by decide +kernel
theorem nmb_pt : ∀ q ∈ qs, ∀ i, i < nn q → nmb q (pt q i 0) (pt q i 1) (pt q i 2) = i := by decide +kernel
theorem pt_e : ∀ q ∈ qs, ∀ s, s < q → ∀ t, t < q → ∀ u, u < q → cmb q (1 + q) 1 0 s t u 0 = s ∧ cmb q (1 + q) 1 0 s t u 1 = t ∧ cmb q (1 + q) 1 0 s t u 2 = u := by decide +kernel
theorem pt_l : ∀ q ∈ qs, pt q (lastq q) 0 = 1 ∧ pt q (lastq q) 1 = 1 ∧ pt q (lastq q) 2 = 1 := by decide +kernel
theorem cy_tab : ∀ q ∈ qs, ∀ t, t < q → ∀ s, s < q → ∀ d, d < q → (d = 0 ∨ cyS q t s d (nn q) 1 0 0 = true) := by decide +kernel

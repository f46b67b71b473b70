/-- six numbers of a field -/
def lt6 (q : Nat) (x : Nat → Nat) : Prop := ∀ k, k < 6 → x k < q
theorem sm6_cr {q : Nat} {u v w : Nat → Nat} (h : ∀ k, k < 6 → u k = v k) : sm6 q w u = sm6 q w v := by
  rw [sm6, sm6, h 0 (by decide), h 1 (by decide), h 2 (by decide), h 3 (by decide), h 4 (by decide), h 5 (by decide)]
theorem sm6_lt {q : Nat} {x y : Nat → Nat} (hq : q ∈ qs) (hx : lt6 q x) (hy : lt6 q y) : sm6 q x y < q := by
  rw [sm6]
  exact fadd_lt hq (fadd_lt hq (fadd_lt hq (fadd_lt hq (fadd_lt hq (fmul_lt hq (hx 0 (by decide)) (hy 0 (by decide))) (fmul_lt hq (hx 1 (by decide)) (hy 1 (by decide)))) (fmul_lt hq (hx 2 (by decide)) (hy 2 (by decide)))) (fmul_lt hq (hx 3 (by decide)) (hy 3 (by decide)))) (fmul_lt hq (hx 4 (by decide)) (hy 4 (by decide)))) (fmul_lt hq (hx 5 (by decide)) (hy 5 (by decide)))
theorem sm6_z {q : Nat} {x y : Nat → Nat} (hq : q ∈ qs) (hx : lt6 q x) (h : ∀ k, k < 6 → y k = 0) : sm6 q x y = 0 := by
  have z2 := F_a0 (a := 0) hq (by have := qs_le hq; omega)
  rw [sm6, h 0 (by decide), h 1 (by decide), h 2 (by decide), h 3 (by decide), h 4 (by decide), h 5 (by decide), F_m0 hq (hx 0 (by decide)), F_m0 hq (hx 1 (by decide)), F_m0 hq (hx 2 (by decide)), F_m0 hq (hx 3 (by decide)), F_m0 hq (hx 4 (by decide)), F_m0 hq (hx 5 (by decide)), z2, z2, z2, z2, z2]
theorem R_sc6 {R : Type} (I : Lean.Grind.CommRing R) (x0 x1 x2 x3 x4 x5 y0 y1 y2 y3 y4 y5 c : R) : x0 * (y0 * c) + x1 * (y1 * c) + x2 * (y2 * c) + x3 * (y3 * c) + x4 * (y4 * c) + x5 * (y5 * c) = (x0 * y0 + x1 * y1 + x2 * y2 + x3 * y3 + x4 * y4 + x5 * y5) * c := by grind
theorem R_tk6 {R : Type} (I : Lean.Grind.CommRing R) (x0 x1 x2 x3 x4 x5 y0 y1 y2 y3 y4 y5 z0 z1 z2 z3 z4 z5 f : R) : x0 * (y0 - f * z0) + x1 * (y1 - f * z1) + x2 * (y2 - f * z2) + x3 * (y3 - f * z3) + x4 * (y4 - f * z4) + x5 * (y5 - f * z5) = (x0 * y0 + x1 * y1 + x2 * y2 + x3 * y3 + x4 * y4 + x5 * y5) - f * (x0 * z0 + x1 * z1 + x2 * z2 + x3 * z3 + x4 * z4 + x5 * z5) := by grind
theorem R_ad6 {R : Type} (I : Lean.Grind.CommRing R) (x0 x1 x2 x3 x4 x5 y0 y1 y2 y3 y4 y5 z0 z1 z2 z3 z4 z5 f : R) : (x0 + f * z0) * y0 + (x1 + f * z1) * y1 + (x2 + f * z2) * y2 + (x3 + f * z3) * y3 + (x4 + f * z4) * y4 + (x5 + f * z5) * y5 = (x0 * y0 + x1 * y1 + x2 * y2 + x3 * y3 + x4 * y4 + x5 * y5) + f * (z0 * y0 + z1 * y1 + z2 * y2 + z3 * y3 + z4 * y4 + z5 * y5) := by grind
theorem R_up6_0 {R : Type} (I : Lean.Grind.CommRing R) (x0 x1 x2 x3 x4 x5 y0 y1 y2 y3 y4 y5 : R) : x0 * y0 + x1 * y1 + x2 * y2 + x3 * y3 + x4 * y4 + x5 * y5 = x0 * y0 + (x0 * 0 + x1 * y1 + x2 * y2 + x3 * y3 + x4 * y4 + x5 * y5) := by grind
theorem R_up6_1 {R : Type} (I : Lean.Grind.CommRing R) (x0 x1 x2 x3 x4 x5 y0 y1 y2 y3 y4 y5 : R) : x0 * y0 + x1 * y1 + x2 * y2 + x3 * y3 + x4 * y4 + x5 * y5 = x1 * y1 + (x0 * y0 + x1 * 0 + x2 * y2 + x3 * y3 + x4 * y4 + x5 * y5) := by grind
theorem R_up6_2 {R : Type} (I : Lean.Grind.CommRing R) (x0 x1 x2 x3 x4 x5 y0 y1 y2 y3 y4 y5 : R) : x0 * y0 + x1 * y1 + x2 * y2 + x3 * y3 + x4 * y4 + x5 * y5 = x2 * y2 + (x0 * y0 + x1 * y1 + x2 * 0 + x3 * y3 + x4 * y4 + x5 * y5) := by grind
theorem R_up6_3 {R : Type} (I : Lean.Grind.CommRing R) (x0 x1 x2 x3 x4 x5 y0 y1 y2 y3 y4 y5 : R) : x0 * y0 + x1 * y1 + x2 * y2 + x3 * y3 + x4 * y4 + x5 * y5 = x3 * y3 + (x0 * y0 + x1 * y1 + x2 * y2 + x3 * 0 + x4 * y4 + x5 * y5) := by grind
theorem R_up6_4 {R : Type} (I : Lean.Grind.CommRing R) (x0 x1 x2 x3 x4 x5 y0 y1 y2 y3 y4 y5 : R) : x0 * y0 + x1 * y1 + x2 * y2 + x3 * y3 + x4 * y4 + x5 * y5 = x4 * y4 + (x0 * y0 + x1 * y1 + x2 * y2 + x3 * y3 + x4 * 0 + x5 * y5) := by grind
theorem R_up6_5 {R : Type} (I : Lean.Grind.CommRing R) (x0 x1 x2 x3 x4 x5 y0 y1 y2 y3 y4 y5 : R) : x0 * y0 + x1 * y1 + x2 * y2 + x3 * y3 + x4 * y4 + x5 * y5 = x5 * y5 + (x0 * y0 + x1 * y1 + x2 * y2 + x3 * y3 + x4 * y4 + x5 * 0) := by grind
theorem sm6_sc {q c : Nat} {x y : Nat → Nat} (hq : q ∈ qs) (hx : lt6 q x) (hy : lt6 q y) (hc : c < q) : sm6 q x (fun k => fmul q (y k) c) = fmul q (sm6 q x y) c := congrArg Subtype.val (R_sc6 (fqR hq) ⟨x 0, hx 0 (by decide)⟩ ⟨x 1, hx 1 (by decide)⟩ ⟨x 2, hx 2 (by decide)⟩ ⟨x 3, hx 3 (by decide)⟩ ⟨x 4, hx 4 (by decide)⟩ ⟨x 5, hx 5 (by decide)⟩ ⟨y 0, hy 0 (by decide)⟩ ⟨y 1, hy 1 (by decide)⟩ ⟨y 2, hy 2 (by decide)⟩ ⟨y 3, hy 3 (by decide)⟩ ⟨y 4, hy 4 (by decide)⟩ ⟨y 5, hy 5 (by decide)⟩ ⟨c, hc⟩)
theorem sm6_tk {q f : Nat} {x y z : Nat → Nat} (hq : q ∈ qs) (hx : lt6 q x) (hy : lt6 q y) (hz : lt6 q z) (hf : f < q) : sm6 q x (fun k => fsub q (y k) (fmul q f (z k))) = fsub q (sm6 q x y) (fmul q f (sm6 q x z)) := congrArg Subtype.val (R_tk6 (fqR hq) ⟨x 0, hx 0 (by decide)⟩ ⟨x 1, hx 1 (by decide)⟩ ⟨x 2, hx 2 (by decide)⟩ ⟨x 3, hx 3 (by decide)⟩ ⟨x 4, hx 4 (by decide)⟩ ⟨x 5, hx 5 (by decide)⟩ ⟨y 0, hy 0 (by decide)⟩ ⟨y 1, hy 1 (by decide)⟩ ⟨y 2, hy 2 (by decide)⟩ ⟨y 3, hy 3 (by decide)⟩ ⟨y 4, hy 4 (by decide)⟩ ⟨y 5, hy 5 (by decide)⟩ ⟨z 0, hz 0 (by decide)⟩ ⟨z 1, hz 1 (by decide)⟩ ⟨z 2, hz 2 (by decide)⟩ ⟨z 3, hz 3 (by decide)⟩ ⟨z 4, hz 4 (by decide)⟩ ⟨z 5, hz 5 (by decide)⟩ ⟨f, hf⟩)
theorem sm6_ad {q f : Nat} {x y z : Nat → Nat} (hq : q ∈ qs) (hx : lt6 q x) (hy : lt6 q y) (hz : lt6 q z) (hf : f < q) : sm6 q (fun k => fadd q (x k) (fmul q f (z k))) y = fadd q (sm6 q x y) (fmul q f (sm6 q z y)) := congrArg Subtype.val (R_ad6 (fqR hq) ⟨x 0, hx 0 (by decide)⟩ ⟨x 1, hx 1 (by decide)⟩ ⟨x 2, hx 2 (by decide)⟩ ⟨x 3, hx 3 (by decide)⟩ ⟨x 4, hx 4 (by decide)⟩ ⟨x 5, hx 5 (by decide)⟩ ⟨y 0, hy 0 (by decide)⟩ ⟨y 1, hy 1 (by decide)⟩ ⟨y 2, hy 2 (by decide)⟩ ⟨y 3, hy 3 (by decide)⟩ ⟨y 4, hy 4 (by decide)⟩ ⟨y 5, hy 5 (by decide)⟩ ⟨z 0, hz 0 (by decide)⟩ ⟨z 1, hz 1 (by decide)⟩ ⟨z 2, hz 2 (by decide)⟩ ⟨z 3, hz 3 (by decide)⟩ ⟨z 4, hz 4 (by decide)⟩ ⟨z 5, hz 5 (by decide)⟩ ⟨f, hf⟩)
theorem sm6_up {q : Nat} {x y : Nat → Nat} (hq : q ∈ qs) (hx : lt6 q x) (hy : lt6 q y) : ∀ a, a < 6 → sm6 q x y = fadd q (fmul q (x a) (y a)) (sm6 q x (upN y a 0))
  | 0, _ => congrArg Subtype.val (R_up6_0 (fqR hq) ⟨x 0, hx 0 (by decide)⟩ ⟨x 1, hx 1 (by decide)⟩ ⟨x 2, hx 2 (by decide)⟩ ⟨x 3, hx 3 (by decide)⟩ ⟨x 4, hx 4 (by decide)⟩ ⟨x 5, hx 5 (by decide)⟩ ⟨y 0, hy 0 (by decide)⟩ ⟨y 1, hy 1 (by decide)⟩ ⟨y 2, hy 2 (by decide)⟩ ⟨y 3, hy 3 (by decide)⟩ ⟨y 4, hy 4 (by decide)⟩ ⟨y 5, hy 5 (by decide)⟩)
  | 1, _ => congrArg Subtype.val (R_up6_1 (fqR hq) ⟨x 0, hx 0 (by decide)⟩ ⟨x 1, hx 1 (by decide)⟩ ⟨x 2, hx 2 (by decide)⟩ ⟨x 3, hx 3 (by decide)⟩ ⟨x 4, hx 4 (by decide)⟩ ⟨x 5, hx 5 (by decide)⟩ ⟨y 0, hy 0 (by decide)⟩ ⟨y 1, hy 1 (by decide)⟩ ⟨y 2, hy 2 (by decide)⟩ ⟨y 3, hy 3 (by decide)⟩ ⟨y 4, hy 4 (by decide)⟩ ⟨y 5, hy 5 (by decide)⟩)
  | 2, _ => congrArg Subtype.val (R_up6_2 (fqR hq) ⟨x 0, hx 0 (by decide)⟩ ⟨x 1, hx 1 (by decide)⟩ ⟨x 2, hx 2 (by decide)⟩ ⟨x 3, hx 3 (by decide)⟩ ⟨x 4, hx 4 (by decide)⟩ ⟨x 5, hx 5 (by decide)⟩ ⟨y 0, hy 0 (by decide)⟩ ⟨y 1, hy 1 (by decide)⟩ ⟨y 2, hy 2 (by decide)⟩ ⟨y 3, hy 3 (by decide)⟩ ⟨y 4, hy 4 (by decide)⟩ ⟨y 5, hy 5 (by decide)⟩)
  | 3, _ => congrArg Subtype.val (R_up6_3 (fqR hq) ⟨x 0, hx 0 (by decide)⟩ ⟨x 1, hx 1 (by decide)⟩ ⟨x 2, hx 2 (by decide)⟩ ⟨x 3, hx 3 (by decide)⟩ ⟨x 4, hx 4 (by decide)⟩ ⟨x 5, hx 5 (by decide)⟩ ⟨y 0, hy 0 (by decide)⟩ ⟨y 1, hy 1 (by decide)⟩ ⟨y 2, hy 2 (by decide)⟩ ⟨y 3, hy 3 (by decide)⟩ ⟨y 4, hy 4 (by decide)⟩ ⟨y 5, hy 5 (by decide)⟩)
  | 4, _ => congrArg Subtype.val (R_up6_4 (fqR hq) ⟨x 0, hx 0 (by decide)⟩ ⟨x 1, hx 1 (by decide)⟩ ⟨x 2, hx 2 (by decide)⟩ ⟨x 3, hx 3 (by decide)⟩ ⟨x 4, hx 4 (by decide)⟩ ⟨x 5, hx 5 (by decide)⟩ ⟨y 0, hy 0 (by decide)⟩ ⟨y 1, hy 1 (by decide)⟩ ⟨y 2, hy 2 (by decide)⟩ ⟨y 3, hy 3 (by decide)⟩ ⟨y 4, hy 4 (by decide)⟩ ⟨y 5, hy 5 (by decide)⟩)
  | 5, _ => congrArg Subtype.val (R_up6_5 (fqR hq) ⟨x 0, hx 0 (by decide)⟩ ⟨x 1, hx 1 (by decide)⟩ ⟨x 2, hx 2 (by decide)⟩ ⟨x 3, hx 3 (by decide)⟩ ⟨x 4, hx 4 (by decide)⟩ ⟨x 5, hx 5 (by decide)⟩ ⟨y 0, hy 0 (by decide)⟩ ⟨y 1, hy 1 (by decide)⟩ ⟨y 2, hy 2 (by decide)⟩ ⟨y 3, hy 3 (by decide)⟩ ⟨y 4, hy 4 (by decide)⟩ ⟨y 5, hy 5 (by decide)⟩)
  | a + 6, h => absurd h (by omega)
theorem R_lnp {R : Type} (I : Lean.Grind.CommRing R) (x0 x1 x2 l0 l1 l2 m0 m1 m2 : R) : (l0 * m0) * (x0 * x0) + (l1 * m1) * (x1 * x1) + (l2 * m2) * (x2 * x2) + (l1 * m2 + l2 * m1) * (x1 * x2) + (l0 * m2 + l2 * m0) * (x0 * x2) + (l0 * m1 + l1 * m0) * (x0 * x1) = (x0 * l0 + x1 * l1 + x2 * l2) * (x0 * m0 + x1 * m1 + x2 * m2) := by grind
def apM (q : Nat) (mx x : Nat → Nat) (r : Nat) : Nat := sm6 q x (fun k => mx (r * 6 + k))
def okM (q : Nat) (mx : Nat → Nat) : Prop := ∀ r k, r < 5 → k < 6 → mx (r * 6 + k) < q
theorem okM.row {q r : Nat} {mx : Nat → Nat} (h : okM q mx) (hr : r < 5) : lt6 q (fun k => mx (r * 6 + k)) := fun k hk => h r k hr hk
theorem apM_lt {q r : Nat} {mx x : Nat → Nat} (hq : q ∈ qs) (h : okM q mx) (hx : lt6 q x) (hr : r < 5) : apM q mx x r < q := sm6_lt hq hx (h.row hr)
theorem ap_congr {q r : Nat} {mx my x : Nat → Nat} (h : ∀ k, k < 6 → mx (r * 6 + k) = my (r * 6 + k)) : apM q mx x r = apM q my x r := sm6_cr h
/-- what a matrix keeps through its steps: its solutions, and that it reaches all -/
def KS (q : Nat) (Z : (Nat → Nat) → Prop) (mx : Nat → Nat) : Prop := okM q mx ∧ (∀ x, lt6 q x → ((∀ r, r < 5 → apM q mx x r = 0) ↔ Z x)) ∧ (∀ v : Nat → Nat, (∀ r, r < 5 → v r < q) → ∃ x, lt6 q x ∧ ∀ r, r < 5 → apM q mx x r = v r)
theorem KS_congr {q : Nat} {Z : (Nat → Nat) → Prop} {mx my : Nat → Nat} (h : ∀ r k, r < 5 → k < 6 → my (r * 6 + k) = mx (r * 6 + k)) (hK : KS q Z mx) : KS q Z my := by
  have e : ∀ x r, r < 5 → apM q my x r = apM q mx x r := fun x r hr => ap_congr (fun k hk => h r k hr hk)
  refine ⟨fun r k hr hk => by rw [h r k hr hk]; exact hK.1 r k hr hk, fun x hx => ?_, fun v hv => ?_⟩
  · rw [← hK.2.1 x hx]
    exact ⟨fun w r hr => by rw [← e x r hr]; exact w r hr, fun w r hr => by rw [e x r hr]; exact w r hr⟩
  · obtain ⟨x, hx, w⟩ := hK.2.2 v hv
    exact ⟨x, hx, fun r hr => by rw [e x r hr]; exact w r hr⟩
theorem i6 {r k : Nat} (hk : k < 6) : (r * 6 + k) / 6 = r ∧ (r * 6 + k) % 6 = k := by omega
def sw (a b r : Nat) : Nat := if r = a then b else if r = b then a else r
theorem sw_lt {a b r : Nat} (ha : a < 5) (hb : b < 5) (hr : r < 5) : sw a b r < 5 := by
  rw [sw]; repeat' split
  all_goals assumption
theorem sw_ge {a b r : Nat} (hb : a ≤ b) (hr : a ≤ r) : a ≤ sw a b r := by
  rw [sw]; repeat' split
  all_goals omega
theorem sw_sw {a b r : Nat} : sw a b (sw a b r) = r := by
  rw [sw, sw]
  by_cases h1 : r = a
  · rw [if_pos h1]
    by_cases h2 : b = a
    · rw [if_pos h2]; omega
    · rw [if_neg h2, if_pos rfl]; omega
  · rw [if_neg h1]
    by_cases h2 : r = b
    · rw [if_pos h2, if_pos rfl]; omega
    · rw [if_neg h2, if_neg h1, if_neg h2]
def swF (mx : Nat → Nat) (a b j : Nat) : Nat := mx (sw a b (j / 6) * 6 + j % 6)
theorem swF_at {mx : Nat → Nat} {a b r k : Nat} (hk : k < 6) : swF mx a b (r * 6 + k) = mx (sw a b r * 6 + k) := by
  rw [swF, (i6 hk).1, (i6 hk).2]
theorem KS_sw {q a b : Nat} {Z : (Nat → Nat) → Prop} {mx : Nat → Nat} (ha : a < 5) (hb : b < 5) (hK : KS q Z mx) : KS q Z (swF mx a b) := by
  have e : ∀ x r, apM q (swF mx a b) x r = apM q mx x (sw a b r) := fun x r => sm6_cr (fun k hk => swF_at hk)
  refine ⟨fun r k hr hk => by rw [swF_at hk]; exact hK.1 _ k (sw_lt ha hb hr) hk, fun x hx => ?_, fun v hv => ?_⟩
  · rw [← hK.2.1 x hx]
    refine ⟨fun w r hr => ?_, fun w r hr => by rw [e]; exact w _ (sw_lt ha hb hr)⟩
    have := w (sw a b r) (sw_lt ha hb hr)
    rw [e, sw_sw] at this; exact this
  · obtain ⟨x, hx, w⟩ := hK.2.2 (fun r => v (sw a b r)) (fun r hr => hv _ (sw_lt ha hb hr))
    exact ⟨x, hx, fun r hr => by rw [e, w _ (sw_lt ha hb hr)]; exact congrArg v sw_sw⟩
def scF (q : Nat) (mx : Nat → Nat) (a h j : Nat) : Nat := if j / 6 = a then fdiv q (mx j) h else mx j
theorem scF_at {q : Nat} {mx : Nat → Nat} {a h r k : Nat} (hk : k < 6) : scF q mx a h (r * 6 + k) = if r = a then fdiv q (mx (r * 6 + k)) h else mx (r * 6 + k) := by
  rw [scF, (i6 hk).1]
theorem F_di : ∀ q ∈ qs, ∀ h, h < q → ∀ v, v < q → (h = 0 ∨ (fmul q (fmul q v h) (finv q h) = v ∧ fdiv q h h = 1)) := by decide +kernel
theorem KS_sc {q a h : Nat} {Z : (Nat → Nat) → Prop} {mx : Nat → Nat} (hq : q ∈ qs) (ha : a < 5) (hh : h < q) (h0 : ¬ h = 0) (hK : KS q Z mx) : KS q Z (scF q mx a h) := by
  have hi := finv_lt hq hh
  have hi0 := (F_z q hq 0 (by have := qs_le hq; omega) _ hh).2 h0
  have e0 : ∀ x, lt6 q x → apM q (scF q mx a h) x a = fmul q (apM q mx x a) (finv q h) := fun x hx => by
    rw [apM, apM, ← sm6_sc hq hx (hK.1.row ha) hi]
    exact sm6_cr (fun k hk => by rw [scF_at hk, if_pos rfl]; rfl)
  have e1 : ∀ x r, ¬ r = a → apM q (scF q mx a h) x r = apM q mx x r := fun x r hr => sm6_cr (fun k hk => by rw [scF_at hk, if_neg hr])
  refine ⟨fun r k hr hk => ?_, fun x hx => ?_, fun v hv => ?_⟩
  · rw [scF_at hk]; split
    · exact fdiv_lt hq (hK.1 r k hr hk) hh
    · exact hK.1 r k hr hk
  · rw [← hK.2.1 x hx]
    constructor
    · intro w r hr
      have := w r hr
      by_cases z : r = a
      · rw [z, e0 x hx] at this
        rw [z]
        exact ((F_z q hq _ (apM_lt hq hK.1 hx ha) _ hi).1.mp this).resolve_right hi0
      · rw [e1 x r z] at this; exact this
    · intro w r hr
      by_cases z : r = a
      · rw [z, e0 x hx, w a ha, F_0 hq hi]
      · rw [e1 x r z]; exact w r hr
  · obtain ⟨x, hx, w⟩ := hK.2.2 (upN v a (fmul q (v a) h)) (fun r hr => by
      by_cases z : r = a
      · rw [z, upN_s]; exact fmul_lt hq (hv a ha) hh
      · rw [upN_n z]; exact hv r hr)
    refine ⟨x, hx, fun r hr => ?_⟩
    by_cases z : r = a
    · rw [z, e0 x hx, w a ha, upN_s]; exact ((F_di q hq h hh _ (hv a ha)).resolve_left h0).1
    · rw [e1 x r z, w r hr, upN_n z]
def tkF (q : Nat) (mx : Nat → Nat) (r a f j : Nat) : Nat := if j / 6 = r then fsub q (mx j) (fmul q f (mx (a * 6 + j % 6))) else mx j
theorem tkF_at {q : Nat} {mx : Nat → Nat} {i a f r k : Nat} (hk : k < 6) : tkF q mx i a f (r * 6 + k) = if r = i then fsub q (mx (r * 6 + k)) (fmul q f (mx (a * 6 + k))) else mx (r * 6 + k) := by
  rw [tkF, (i6 hk).1, (i6 hk).2]
theorem F_ts : ∀ q ∈ qs, ∀ u, u < q → ∀ v, v < q → (fsub q u (fmul q v 0) = u ∧ fsub q (fadd q u v) v = u ∧ fsub q u (fmul q u 1) = 0) := by decide +kernel
theorem KS_tk {q i a f : Nat} {Z : (Nat → Nat) → Prop} {mx : Nat → Nat} (hq : q ∈ qs) (hi : i < 5) (ha : a < 5) (hia : ¬ i = a) (hf : f < q) (hK : KS q Z mx) : KS q Z (tkF q mx i a f) := by
  have e0 : ∀ x, lt6 q x → apM q (tkF q mx i a f) x i = fsub q (apM q mx x i) (fmul q f (apM q mx x a)) := fun x hx => by
    rw [apM, apM, apM, ← sm6_tk hq hx (hK.1.row hi) (hK.1.row ha) hf]
    exact sm6_cr (fun k hk => by rw [tkF_at hk, if_pos rfl])
  have e1 : ∀ x r, ¬ r = i → apM q (tkF q mx i a f) x r = apM q mx x r := fun x r hr => sm6_cr (fun k hk => by rw [tkF_at hk, if_neg hr])
  have hai : ¬ a = i := fun z => hia z.symm
  refine ⟨fun r k hr hk => ?_, fun x hx => ?_, fun v hv => ?_⟩
  · rw [tkF_at hk]; split
    · exact fsub_lt hq (hK.1 r k hr hk) (fmul_lt hq hf (hK.1 a k ha hk))
    · exact hK.1 r k hr hk
  · rw [← hK.2.1 x hx]
    constructor
    · intro w r hr
      have wa := w a ha
      rw [e1 x a hai] at wa
      have := w r hr
      by_cases z : r = i
      · rw [z, e0 x hx, wa, (F_ts q hq _ (apM_lt hq hK.1 hx hi) _ hf).1] at this
        rw [z]; exact this
      · rw [e1 x r z] at this; exact this
    · intro w r hr
      by_cases z : r = i
      · rw [z, e0 x hx, w a ha, (F_ts q hq _ (apM_lt hq hK.1 hx hi) _ hf).1]; exact w i hi
      · rw [e1 x r z]; exact w r hr
  · obtain ⟨x, hx, w⟩ := hK.2.2 (upN v i (fadd q (v i) (fmul q f (v a)))) (fun r hr => by
      by_cases z : r = i
      · rw [z, upN_s]; exact fadd_lt hq (hv i hi) (fmul_lt hq hf (hv a ha))
      · rw [upN_n z]; exact hv r hr)
    refine ⟨x, hx, fun r hr => ?_⟩
    by_cases z : r = i
    · rw [z, e0 x hx, w i hi, w a ha, upN_s, upN_n hai]; exact (F_ts q hq _ (hv i hi) _ (fmul_lt hq hf (hv a ha))).2.1
    · rw [e1 x r z, w r hr, upN_n z]
/-- a column cleared, row for row -/
def clR (q : Nat) (mx : Nat → Nat) (a c : Nat) : Nat → Nat → Nat
  | 0 => scF q mx a (mx (a * 6 + c))
  | i + 1 => if i = a then clR q mx a c i else tkF q (clR q mx a c i) i a (clR q mx a c i (i * 6 + c))
theorem KS_cl {q a c : Nat} {Z : (Nat → Nat) → Prop} {mx : Nat → Nat} (hq : q ∈ qs) (ha : a < 5) (hc : c < 6) (h0 : ¬ mx (a * 6 + c) = 0) (hK : KS q Z mx) : ∀ i, i ≤ 5 → KS q Z (clR q mx a c i)
  | 0, _ => KS_sc hq ha (hK.1 a c ha hc) h0 hK
  | i + 1, hi => by
    have ih := KS_cl hq ha hc h0 hK i (by omega)
    rw [clR]; split
    · exact ih
    · rename_i z; exact KS_tk hq (by omega) ha z (ih.1 i c (by omega) hc) ih
theorem cl_at {q a c k : Nat} {mx : Nat → Nat} (hk : k < 6) (hc : c < 6) : ∀ i, (clR q mx a c i (a * 6 + k) = fdiv q (mx (a * 6 + k)) (mx (a * 6 + c))) ∧ ∀ r, ¬ r = a → clR q mx a c i (r * 6 + k) = if r < i then fsub q (mx (r * 6 + k)) (fmul q (mx (r * 6 + c)) (fdiv q (mx (a * 6 + k)) (mx (a * 6 + c)))) else mx (r * 6 + k)
  | 0 => ⟨by rw [clR, scF_at hk, if_pos rfl], fun r hr => by rw [clR, scF_at hk, if_neg hr, if_neg (Nat.not_lt_zero r)]⟩
  | i + 1 => by
    have ih := cl_at (q := q) (a := a) (mx := mx) hk hc i
    have ihc := cl_at (q := q) (a := a) (mx := mx) hc hc i
    rw [clR]
    by_cases z : i = a
    · rw [if_pos z]
      refine ⟨ih.1, fun r hr => ?_⟩
      rw [ih.2 r hr]
      by_cases y : r < i
      · rw [if_pos y, if_pos (by omega)]
      · rw [if_neg y, if_neg (by omega)]
    · rw [if_neg z]
      refine ⟨by rw [tkF_at hk, if_neg (fun y => z y.symm)]; exact ih.1, fun r hr => ?_⟩
      rw [tkF_at hk]
      by_cases y : r = i
      · rw [if_pos y, if_pos (by omega), ih.1, y, ih.2 i z, ihc.2 i z, if_neg (Nat.lt_irrefl i), if_neg (Nat.lt_irrefl i)]
      · rw [if_neg y, ih.2 r hr]
        by_cases x : r < i
        · rw [if_pos x, if_pos (by omega)]
        · rw [if_neg x, if_neg (by omega)]
/-- how far the reduction is -/
def JG (q : Nat) (Z : (Nat → Nat) → Prop) (mx pv : Nat → Nat) (rk col fr : Nat) : Prop := KS q Z mx ∧ rk ≤ 5 ∧ (∀ j, j < rk → pv j < col ∧ ∀ r, r < 5 → mx (r * 6 + pv j) = if r = j then 1 else 0) ∧ (∀ k r, k < col → rk ≤ r → r < 5 → mx (r * 6 + k) = 0) ∧ ((col = rk ∧ ∀ k, k < col → ∃ j, j < rk ∧ pv j = k) ∨ (rk < col ∧ fr < col ∧ (∀ j, j < rk → ¬ pv j = fr) ∧ (col = rk + 1 → ∀ k, k < col → ¬ k = fr → ∃ j, j < rk ∧ pv j = k)))
theorem JG_0 {q fr : Nat} {Z : (Nat → Nat) → Prop} {mx pv : Nat → Nat} (h : KS q Z mx) : JG q Z mx pv 0 0 fr :=
  ⟨h, by decide, fun j hj => absurd hj (Nat.not_lt_zero j), fun k _ hk => absurd hk (Nat.not_lt_zero k), Or.inl ⟨rfl, fun k hk => absurd hk (Nat.not_lt_zero k)⟩⟩
theorem JG_no {q rk col fr : Nat} {Z : (Nat → Nat) → Prop} {mx pv : Nat → Nat} (h : JG q Z mx pv rk col fr) (h0 : ∀ r, rk ≤ r → r < 5 → mx (r * 6 + col) = 0) : JG q Z mx pv rk (col + 1) col := by
  refine ⟨h.1, h.2.1, fun j hj => ⟨Nat.lt_succ_of_lt (h.2.2.1 j hj).1, (h.2.2.1 j hj).2⟩, fun k r hk h1 h2 => ?_, Or.inr ⟨?_, Nat.lt_succ_self col, fun j hj z => ?_, fun e k hk z => ?_⟩⟩
  · rcases Nat.lt_succ_iff_lt_or_eq.mp hk with y | y
    · exact h.2.2.2.1 k r y h1 h2
    · rw [y]; exact h0 r h1 h2
  · rcases h.2.2.2.2 with y | y <;> omega
  · have := (h.2.2.1 j hj).1; omega
  · rcases h.2.2.2.2 with y | y
    · exact y.2 k (by omega)
    · exact absurd y.1 (by omega)
theorem JG_yes {q rk col fr fd : Nat} {Z : (Nat → Nat) → Prop} {mx pv : Nat → Nat} (hq : q ∈ qs) (h : JG q Z mx pv rk col fr) (hc : col < 6) (h1 : rk ≤ fd) (h2 : fd < 5) (h0 : ¬ mx (fd * 6 + col) = 0) : JG q Z (clR q (swF mx rk fd) rk col 5) (upN pv rk col) (rk + 1) (col + 1) fr := by
  have hr : rk < 5 := by omega
  have hs := KS_sw hr h2 h.1
  have hh : swF mx rk fd (rk * 6 + col) = mx (fd * 6 + col) := by rw [swF_at hc, sw, if_pos rfl]
  have h0' : ¬ swF mx rk fd (rk * 6 + col) = 0 := by rw [hh]; exact h0
  have hlt := hs.1 rk col hr hc
  have hswc : ∀ r, r < 5 → rk ≤ r → rk ≤ sw rk fd r := fun r _ h5 => sw_ge h1 h5
  have hlow : ∀ k, k < col → k < 6 → swF mx rk fd (rk * 6 + k) = 0 := fun k hk hk6 => by
    rw [swF_at hk6, sw, if_pos rfl]; exact h.2.2.2.1 k fd hk h1 h2
  have hz : ∀ v, v < q → fsub q v (fmul q v 1) = 0 := fun v hv => (F_ts q hq v hv v hv).2.2
  have q0 : 0 < q := by have := qs_le hq; omega
  have hd0 : fdiv q 0 (swF mx rk fd (rk * 6 + col)) = 0 := F_0 hq (finv_lt hq hlt)
  -- a column in which the row of the head is 0 stays
  have hst : ∀ k r, k < col → r < 5 → clR q (swF mx rk fd) rk col 5 (r * 6 + k) = swF mx rk fd (r * 6 + k) := fun k r hk h5 => by
    have hk6 : k < 6 := by omega
    have c0 := cl_at (q := q) (a := rk) (mx := swF mx rk fd) hk6 hc 5
    by_cases z : r = rk
    · rw [z, c0.1, hlow k hk hk6, hd0]
    · rw [c0.2 r z, if_pos h5, hlow k hk hk6, hd0, (F_ts q hq _ (hs.1 r k h5 hk6) _ (hs.1 r col h5 hc)).1]
  refine ⟨KS_cl hq hr hc h0' hs 5 (Nat.le_refl 5), hr, fun j hj => ?_, fun k r hk h3 h4 => ?_, ?_⟩
  · rcases Nat.lt_succ_iff_lt_or_eq.mp hj with y | y
    · rw [upN_n (by omega)]
      have hp := h.2.2.1 j y
      refine ⟨Nat.lt_succ_of_lt hp.1, fun r h5 => ?_⟩
      rw [hst _ r hp.1 h5, swF_at (by omega)]
      rw [hp.2 _ (sw_lt hr h2 h5)]
      by_cases z : r = j
      · have e : sw rk fd j = j := by rw [sw, if_neg (show ¬ j = rk by omega), if_neg (show ¬ j = fd by omega)]
        rw [if_pos z, z, e, if_pos rfl]
      · rw [if_neg z, if_neg (fun e => ?_)]
        rw [sw] at e
        split at e
        · omega
        · split at e <;> omega
    · rw [y, upN_s]
      refine ⟨Nat.lt_succ_self col, fun r h5 => ?_⟩
      have c0 := cl_at (q := q) (a := rk) (mx := swF mx rk fd) hc hc 5
      have hone : fdiv q (swF mx rk fd (rk * 6 + col)) (swF mx rk fd (rk * 6 + col)) = 1 := ((F_di q hq _ hlt 0 q0).resolve_left h0').2
      by_cases z : r = rk
      · rw [if_pos z, z, c0.1, hone]
      · rw [if_neg z, c0.2 r z, if_pos h5, hone]; exact hz _ (hs.1 r col h5 hc)
  · rcases Nat.lt_succ_iff_lt_or_eq.mp hk with y | y
    · rw [hst k r y h4, swF_at (by omega)]
      exact h.2.2.2.1 k _ y (hswc r h4 (by omega)) (sw_lt hr h2 h4)
    · have c0 := cl_at (q := q) (a := rk) (mx := swF mx rk fd) hc hc 5
      have hone : fdiv q (swF mx rk fd (rk * 6 + col)) (swF mx rk fd (rk * 6 + col)) = 1 := ((F_di q hq _ hlt 0 q0).resolve_left h0').2
      rw [y, c0.2 r (by omega), if_pos h4, hone]; exact hz _ (hs.1 r col h4 hc)
  · have hold : ∀ k, (∃ j, j < rk ∧ pv j = k) → ∃ j, j < rk + 1 ∧ upN pv rk col j = k := fun k ⟨j, hj, e⟩ => ⟨j, by omega, by rw [upN_n (by omega)]; exact e⟩
    rcases h.2.2.2.2 with y | y
    · refine Or.inl ⟨by omega, fun k hk => ?_⟩
      rcases Nat.lt_succ_iff_lt_or_eq.mp hk with x | x
      · exact hold k (y.2 k x)
      · exact ⟨rk, Nat.lt_succ_self rk, by rw [upN_s, x]⟩
    · refine Or.inr ⟨by omega, by omega, fun j hj => ?_, fun e k hk z => ?_⟩
      · rcases Nat.lt_succ_iff_lt_or_eq.mp hj with x | x
        · rw [upN_n (by omega)]; exact y.2.2.1 j x
        · rw [x, upN_s]; omega
      · rcases Nat.lt_succ_iff_lt_or_eq.mp hk with x | x
        · exact hold k (y.2.2.2 (by omega) k x z)
        · exact ⟨rk, Nat.lt_succ_self rk, by rw [upN_s, x]⟩
theorem JG_congr {q rk col fr : Nat} {Z : (Nat → Nat) → Prop} {mx my pv pw : Nat → Nat} (hc : col ≤ 6) (hm : ∀ r k, r < 5 → k < 6 → my (r * 6 + k) = mx (r * 6 + k)) (hp : ∀ j, j < rk → pw j = pv j) (h : JG q Z mx pv rk col fr) : JG q Z my pw rk col fr := by
  refine ⟨KS_congr hm h.1, h.2.1, fun j hj => ?_, fun k r hk h1 h2 => by rw [hm r k h2 (by omega)]; exact h.2.2.2.1 k r hk h1 h2, ?_⟩
  · have := h.2.2.1 j hj
    rw [hp j hj]
    exact ⟨this.1, fun r hr => by rw [hm r _ hr (by omega)]; exact this.2 r hr⟩
  · have hold : ∀ k, (∃ j, j < rk ∧ pv j = k) → ∃ j, j < rk ∧ pw j = k := fun k ⟨j, hj, e⟩ => ⟨j, hj, by rw [hp j hj]; exact e⟩
    rcases h.2.2.2.2 with y | y
    · exact Or.inl ⟨y.1, fun k hk => hold k (y.2 k hk)⟩
    · exact Or.inr ⟨y.1, y.2.1, fun j hj => by rw [hp j hj]; exact y.2.2.1 j hj, fun e k hk z => hold k (y.2.2.2 e k hk z)⟩
theorem JG_ex {q : Nat} {Z : (Nat → Nat) → Prop} {mx : Nat → Nat} (hq : q ∈ qs) (h : KS q Z mx) : ∀ col, col ≤ 6 → ∃ my pv rk fr, JG q Z my pv rk col fr
  | 0, _ => ⟨mx, fun _ => 0, 0, 0, JG_0 h⟩
  | col + 1, hc => by
    obtain ⟨my, pv, rk, fr, hJ⟩ := JG_ex hq h col (by omega)
    rcases Classical.em (∃ fd, rk ≤ fd ∧ fd < 5 ∧ ¬ my (fd * 6 + col) = 0) with z | z
    · obtain ⟨fd, h1, h2, h0⟩ := z
      exact ⟨_, _, _, _, JG_yes hq hJ (by omega) h1 h2 h0⟩
    · exact ⟨_, _, _, _, JG_no hJ (fun r h1 h2 => Classical.byContradiction (fun y => z ⟨r, h1, h2, y⟩))⟩
/-- the end of it -/
theorem JG_end {q rk fr : Nat} {Z : (Nat → Nat) → Prop} {mx pv : Nat → Nat} (hq : q ∈ qs) (h : JG q Z mx pv rk 6 fr) : rk = 5 ∧ fr < 6 ∧ (∀ j, j < 5 → ¬ pv j = fr) ∧ (∀ j, j < 5 → pv j < 6) ∧ (∀ i j, i < 5 → j < 5 → pv i = pv j → i = j) ∧ ∀ k, k < 6 → ¬ k = fr → ∃ j, j < 5 ∧ pv j = k := by
  have h5 : rk = 5 := by
    rcases Nat.lt_or_ge rk 5 with z | z
    · obtain ⟨x, hx, w⟩ := h.1.2.2 (fun _ => 1) (fun _ _ => by have := qs_le hq; omega)
      have := w rk z
      rw [apM, sm6_z hq hx (fun k hk => h.2.2.2.1 k rk hk (Nat.le_refl _) z)] at this
      exact absurd this (by decide)
    · have := h.2.1; omega
  subst h5
  have hy := h.2.2.2.2.resolve_left (fun z => absurd z.1 (by decide))
  refine ⟨rfl, hy.2.1, hy.2.2.1, fun j hj => (h.2.2.1 j hj).1, fun i j hi hj e => ?_, hy.2.2.2 rfl⟩
  have h1 := (h.2.2.1 i hi).2 i hi
  rw [e, (h.2.2.1 j hj).2 i hi, if_pos rfl] at h1
  by_cases z : i = j
  · exact z
  · rw [if_neg z] at h1; exact absurd h1 (by decide)
theorem F_eg : ∀ q ∈ qs, ∀ a, a < q → ∀ b, b < q → ∀ c, c < q → ((fadd q (fmul q a b) (fadd q (fmul q c 1) 0) = 0 ↔ c = fmul q a (fneg q b)) ∧ fmul q a 1 = a ∧ fmul q 1 a = a) := by decide +kernel
/-- the numbers that are read off: the one solution, but for a factor -/
theorem JG_sol {q rk fr : Nat} {Z : (Nat → Nat) → Prop} {mx pv nb : Nat → Nat} (hq : q ∈ qs) (h : JG q Z mx pv rk 6 fr) (h1 : nb fr = 1) (h2 : ∀ j, j < 5 → nb (pv j) = fneg q (mx (j * 6 + fr))) : lt6 q nb ∧ Z nb ∧ ∀ y, lt6 q y → Z y → ∀ k, k < 6 → y k = fmul q (y fr) (nb k) := by
  obtain ⟨rfl, e1, e2, e3, e4, e5⟩ := JG_end hq h
  have q1 : 1 < q := by have := qs_le hq; omega
  have hnb : lt6 q nb := fun k hk => by
    by_cases z : k = fr
    · rw [z, h1]; exact q1
    · obtain ⟨j, hj, e⟩ := e5 k hk z
      rw [← e, h2 j hj]; exact fneg_lt hq (h.1.1 j fr hj e1)
  have hap : ∀ y, lt6 q y → ∀ r, r < 5 → apM q mx y r = fadd q (fmul q (y fr) (mx (r * 6 + fr))) (fadd q (fmul q (y (pv r)) 1) 0) := fun y hy r hr => by
    have hrow := h.1.1.row hr
    have hrow2 : lt6 q (upN (fun k => mx (r * 6 + k)) fr 0) := fun k hk => by
      by_cases z : k = fr
      · rw [z, upN_s]; omega
      · rw [upN_n z]; exact hrow k hk
    rw [apM, sm6_up hq hy hrow fr e1, sm6_up hq hy hrow2 (pv r) (e3 r hr), upN_n (e2 r hr), sm6_z hq hy (fun k hk => ?_)]
    · show fadd q (fmul q (y fr) (mx (r * 6 + fr))) (fadd q (fmul q (y (pv r)) (mx (r * 6 + pv r))) 0) = _
      rw [(h.2.2.1 r hr).2 r hr, if_pos rfl]
    · by_cases z : k = pv r
      · rw [z, upN_s]
      · rw [upN_n z]
        by_cases y : k = fr
        · rw [y, upN_s]
        · rw [upN_n y]
          obtain ⟨j, hj, e⟩ := e5 k hk y
          show mx (r * 6 + k) = 0
          rw [← e, (h.2.2.1 j hj).2 r hr, if_neg (fun x => z (by rw [← e, x]))]
  refine ⟨hnb, (h.1.2.1 nb hnb).mp (fun r hr => ?_), fun y hy hZ k hk => ?_⟩
  · rw [hap nb hnb r hr, (F_eg q hq _ (hnb fr e1) _ (h.1.1 r fr hr e1) _ (hnb _ (e3 r hr))).1, h1, h2 r hr]
    exact ((F_eg q hq _ (fneg_lt hq (h.1.1 r fr hr e1)) 0 (by omega) 0 (by omega)).2.2).symm
  · by_cases z : k = fr
    · rw [z, h1, (F_eg q hq _ (hy fr e1) 0 (by omega) 0 (by omega)).2.1]
    · obtain ⟨j, hj, e⟩ := e5 k hk z
      have w := (h.1.2.1 y hy).mpr hZ j hj
      rw [hap y hy j hj, (F_eg q hq _ (hy fr e1) _ (h.1.1 j fr hj e1) _ (hy _ (e3 j hj))).1] at w
      rw [← e, w, h2 j hj]

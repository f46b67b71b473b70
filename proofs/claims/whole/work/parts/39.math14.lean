theorem pt_ne : ∀ q ∈ qs, ∀ i, i < nn q → ¬ (pt q i 0 = 0 ∧ pt q i 1 = 0 ∧ pt q i 2 = 0) := by decide +kernel
/-- what a map of determinant not 0 does to a triple that is not 0, 0, 0 -/
def mvv (q : Nat) (mm v : Nat → Nat) (i : Nat) : Nat := vdot q (fun k => mm (3 * i + k)) v
theorem v_adj {q : Nat} {mm v : Nat → Nat} (hq : q ∈ qs) (hm : MPK q mm) (hv : ltv q v) : ∀ j, j < 3 → fadd q (fadd q (fmul q (cofq q mm 0 j) (mvv q mm v 0)) (fmul q (cofq q mm 1 j) (mvv q mm v 1))) (fmul q (cofq q mm 2 j) (mvv q mm v 2)) = fmul q (detq q mm) (v j)
  | 0, _ => congrArg Subtype.val (R_adj0 (fqR hq) ⟨mm 0, hm 0 (by decide)⟩ ⟨mm 1, hm 1 (by decide)⟩ ⟨mm 2, hm 2 (by decide)⟩ ⟨mm 3, hm 3 (by decide)⟩ ⟨mm 4, hm 4 (by decide)⟩ ⟨mm 5, hm 5 (by decide)⟩ ⟨mm 6, hm 6 (by decide)⟩ ⟨mm 7, hm 7 (by decide)⟩ ⟨mm 8, hm 8 (by decide)⟩ ⟨v 0, hv 0 (by decide)⟩ ⟨v 1, hv 1 (by decide)⟩ ⟨v 2, hv 2 (by decide)⟩)
  | 1, _ => congrArg Subtype.val (R_adj1 (fqR hq) ⟨mm 0, hm 0 (by decide)⟩ ⟨mm 1, hm 1 (by decide)⟩ ⟨mm 2, hm 2 (by decide)⟩ ⟨mm 3, hm 3 (by decide)⟩ ⟨mm 4, hm 4 (by decide)⟩ ⟨mm 5, hm 5 (by decide)⟩ ⟨mm 6, hm 6 (by decide)⟩ ⟨mm 7, hm 7 (by decide)⟩ ⟨mm 8, hm 8 (by decide)⟩ ⟨v 0, hv 0 (by decide)⟩ ⟨v 1, hv 1 (by decide)⟩ ⟨v 2, hv 2 (by decide)⟩)
  | 2, _ => congrArg Subtype.val (R_adj2 (fqR hq) ⟨mm 0, hm 0 (by decide)⟩ ⟨mm 1, hm 1 (by decide)⟩ ⟨mm 2, hm 2 (by decide)⟩ ⟨mm 3, hm 3 (by decide)⟩ ⟨mm 4, hm 4 (by decide)⟩ ⟨mm 5, hm 5 (by decide)⟩ ⟨mm 6, hm 6 (by decide)⟩ ⟨mm 7, hm 7 (by decide)⟩ ⟨mm 8, hm 8 (by decide)⟩ ⟨v 0, hv 0 (by decide)⟩ ⟨v 1, hv 1 (by decide)⟩ ⟨v 2, hv 2 (by decide)⟩)
  | j + 3, h => absurd h (by omega)
theorem v_inj {q : Nat} {mm v : Nat → Nat} (hq : q ∈ qs) (hm : MPK q mm) (hv : ltv q v) (hd : ¬ detq q mm = 0) (h0 : mvv q mm v 0 = 0) (h1 : mvv q mm v 1 = 0) (h2 : mvv q mm v 2 = 0) : ∀ j, j < 3 → v j = 0 := fun j hj => by
  have e := v_adj hq hm hv j hj
  have z := F_m0 (a := 0) hq (by have := qs_le hq; omega)
  have z2 := F_a0 (a := 0) hq (by have := qs_le hq; omega)
  rw [h0, h1, h2, F_m0 hq (cofq_lt hq hm), F_m0 hq (cofq_lt hq hm), F_m0 hq (cofq_lt hq hm), z2, z2] at e
  exact ((F_z q hq _ (detq_lt hq hm) _ (hv j hj)).1.mp e.symm).resolve_left hd
theorem mpt_ne {q d : Nat} {mm : Nat → Nat} (hq : q ∈ qs) (hm : MPK q mm) (hd : d < nn q) (h : ¬ detq q mm = 0) : ¬ (mpt q mm d 0 = 0 ∧ mpt q mm d 1 = 0 ∧ mpt q mm d 2 = 0) := fun z =>
  have e := v_inj hq hm (ptv hq hd) h z.1 z.2.1 z.2.2
  pt_ne q hq d hd ⟨e 0 (by decide), e 1 (by decide), e 2 (by decide)⟩
theorem colq_lt {q s t u a b c k : Nat} (hq : q ∈ qs) (hs : s < q) (ht : t < q) (hu : u < q) (ha : a < nn q) (hb : b < nn q) (hc : c < nn q) (hk : k < 9) : colq q s t u a b c k < q := by
  rw [colq]; exact fmul_lt hq (ite3 hs ht hu) (pt_lt hq (ite3 ha hb hc) (by omega))
theorem col_sum {q a b c d s t u : Nat} (h : sol3 q a b c d s t u) : ∀ j, j < 3 → pt q d j = vadd q (vadd q (fun j => colq q s t u a b c (3 * j)) (fun j => colq q s t u a b c (3 * j + 1))) (fun j => colq q s t u a b c (3 * j + 2)) j
  | 0, _ => (h 0 (by decide)).symm
  | 1, _ => (h 1 (by decide)).symm
  | 2, _ => (h 2 (by decide)).symm
  | j + 3, h => absurd h (by omega)
theorem frm_ne {q a b c d s t u : Nat} (hq : q ∈ qs) (hd : d < nn q) (h : sol3 q a b c d s t u) : ¬ hdf (colq q s t u a b c) 9 = 0 := fun z => by
  have e := hdf_0 z
  have z2 := F_a0 (a := 0) hq (by have := qs_le hq; omega)
  have w : ∀ j, j < 3 → pt q d j = 0 := fun j hj => by
    rw [col_sum h j hj, vadd, vadd, e _ (by omega), e _ (by omega), e _ (by omega), z2, z2]
  exact pt_ne q hq d hd ⟨w 0 (by decide), w 1 (by decide), w 2 (by decide)⟩
theorem frq_v {q a b c d : Nat} (h : frq q a b c d = true) : ¬ vdet q (pt q a) (pt q b) (pt q c) = 0 := fun z => by
  rw [frq, z] at h; revert h; simp
theorem frm_tld {q a b c d s t u k : Nat} (hq : q ∈ qs) (ha : a < nn q) (hb : b < nn q) (hc : c < nn q) (hs : s < q) (ht : t < q) (hu : u < q) (h : sol3 q a b c d s t u) (hf : ¬ vdet q (pt q a) (pt q b) (pt q c) = 0) (hk : k < 9) : tldq q (colq q s t u a b c) k = tldq q (frc q a b c d) k := by
  rw [tld_congr hk (cramer hq ha hb hc hs ht hu h)]
  exact (tld_sc hq (vdet_lt hq (ptv hq ha) (ptv hq hb) (ptv hq hc)) hf (fun k hk => colq_lt hq hs ht hu ha hb hc hk) hk).symm
theorem mulq_lt {q k : Nat} {mm f : Nat → Nat} (hq : q ∈ qs) (hm : MPK q mm) (hf : MPK q f) (hk : k < 9) : mulq q mm f k < q := by
  rw [mulq]; exact vdot_lt hq (fun t ht => hm _ (by omega)) (fun t ht => hf _ (by omega))
theorem mul_sc {q g k : Nat} {mm f : Nat → Nat} (hq : q ∈ qs) (hm : MPK q mm) (hf : MPK q f) (hg : g < q) (hk : k < 9) : mulq q mm (fun t => fmul q g (f t)) k = fmul q g (mulq q mm f k) := by
  rw [mulq, mulq]
  exact dot_sr (x := fun t => f (3 * t + k % 3)) hq hg (fun t ht => hf _ (by omega)) (fun t ht => hm _ (by omega))
theorem beh_ne {q a b c d s t u : Nat} {mm : Nat → Nat} (hq : q ∈ qs) (hm : MPK q mm) (ha : a < nn q) (hb : b < nn q) (hc : c < nn q) (hd : d < nn q) (hs : s < q) (ht : t < q) (hu : u < q) (h : sol3 q a b c d s t u) (hD : ¬ detq q mm = 0) : ¬ hdf (mulq q mm (colq q s t u a b c)) 9 = 0 := fun z => by
  have e := hdf_0 z
  have hC : MPK q (colq q s t u a b c) := fun k hk => colq_lt hq hs ht hu ha hb hc hk
  have z2 := F_a0 (a := 0) hq (by have := qs_le hq; omega)
  have w : ∀ i, i < 3 → mpt q mm d i = 0 := fun i hi => by
    have l0 : ltv q (fun j => colq q s t u a b c (3 * j)) := fun j hj => hC _ (by omega)
    have l1 : ltv q (fun j => colq q s t u a b c (3 * j + 1)) := fun j hj => hC _ (by omega)
    have l2 : ltv q (fun j => colq q s t u a b c (3 * j + 2)) := fun j hj => hC _ (by omega)
    have lm : ltv q (fun k => mm (3 * i + k)) := fun j hj => hm _ (by omega)
    rw [mpt, dot_cr (col_sum h), dot_ar hq (vadd_lt hq l0 l1) l2 lm, dot_ar hq l0 l1 lm]
    have m0 := e (3 * i) (by omega)
    have m1 := e (3 * i + 1) (by omega)
    have m2 := e (3 * i + 2) (by omega)
    rw [mulq, show 3 * i / 3 = i by omega, show 3 * i % 3 = 0 by omega] at m0
    rw [mulq, show (3 * i + 1) / 3 = i by omega, show (3 * i + 1) % 3 = 1 by omega] at m1
    rw [mulq, show (3 * i + 2) / 3 = i by omega, show (3 * i + 2) % 3 = 2 by omega] at m2
    have m0 : vdot q (fun k => mm (3 * i + k)) (fun j => colq q s t u a b c (3 * j)) = 0 := m0
    rw [m0, m1, m2, z2, z2]
  exact mpt_ne hq hm hd hD ⟨w 0 (by decide), w 1 (by decide), w 2 (by decide)⟩
theorem beh_tld {q a b c d s t u k : Nat} {mm : Nat → Nat} (hq : q ∈ qs) (hm : MPK q mm) (ha : a < nn q) (hb : b < nn q) (hc : c < nn q) (hd : d < nn q) (hs : s < q) (ht : t < q) (hu : u < q) (h : sol3 q a b c d s t u) (hf : ¬ vdet q (pt q a) (pt q b) (pt q c) = 0) (hk : k < 9) : tldq q (mulq q mm (colq q s t u a b c)) k = tldq q (mulq q mm (tldq q (frc q a b c d))) k := by
  have hC : MPK q (colq q s t u a b c) := fun k hk => colq_lt hq hs ht hu ha hb hc hk
  have h0 := frm_ne hq hd h
  have hl := hdf_lt (q := q) (f := colq q s t u a b c) (n := 9) (by have := qs_le hq; omega) hC
  have hi := finv_lt hq hl
  have hi0 := (F_z q hq 0 (by have := qs_le hq; omega) _ hl).2 h0
  have e : ∀ k, k < 9 → tldq q (frc q a b c d) k = fmul q (finv q (hdf (colq q s t u a b c) 9)) (colq q s t u a b c k) := fun k hk => by
    rw [← frm_tld hq ha hb hc hs ht hu h hf hk, ← set_tld hq hC h0 hk, fdiv, F_comm hq (hC k hk) hi]
  rw [tld_congr hk (fun k hk => (mul_congr e k hk).trans (mul_sc hq hm hC hi hk))]
  exact (tld_sc hq hi hi0 (fun k hk => mulq_lt hq hm hC hk) hk).symm
theorem R_gr00 {R : Type} (I : Lean.Grind.CommRing R) (a0 a1 a2 b0 b1 b2 d0 d1 d2 : R) (h : a0 * (b1 * d2 - b2 * d1) + a1 * (b2 * d0 - b0 * d2) + a2 * (b0 * d1 - b1 * d0) = 0) : d0 * (a1 * b2 - a2 * b1) = (d1 * b2 - d2 * b1) * a0 + (a1 * d2 - a2 * d1) * b0 := by grind
theorem R_gr01 {R : Type} (I : Lean.Grind.CommRing R) (a0 a1 a2 b0 b1 b2 d0 d1 d2 : R) (h : a0 * (b1 * d2 - b2 * d1) + a1 * (b2 * d0 - b0 * d2) + a2 * (b0 * d1 - b1 * d0) = 0) : d0 * (a2 * b0 - a0 * b2) = (d2 * b0 - d0 * b2) * a0 + (a2 * d0 - a0 * d2) * b0 := by grind
theorem R_gr02 {R : Type} (I : Lean.Grind.CommRing R) (a0 a1 a2 b0 b1 b2 d0 d1 d2 : R) (h : a0 * (b1 * d2 - b2 * d1) + a1 * (b2 * d0 - b0 * d2) + a2 * (b0 * d1 - b1 * d0) = 0) : d0 * (a0 * b1 - a1 * b0) = (d0 * b1 - d1 * b0) * a0 + (a0 * d1 - a1 * d0) * b0 := by grind
theorem R_gr10 {R : Type} (I : Lean.Grind.CommRing R) (a0 a1 a2 b0 b1 b2 d0 d1 d2 : R) (h : a0 * (b1 * d2 - b2 * d1) + a1 * (b2 * d0 - b0 * d2) + a2 * (b0 * d1 - b1 * d0) = 0) : d1 * (a1 * b2 - a2 * b1) = (d1 * b2 - d2 * b1) * a1 + (a1 * d2 - a2 * d1) * b1 := by grind
theorem R_gr11 {R : Type} (I : Lean.Grind.CommRing R) (a0 a1 a2 b0 b1 b2 d0 d1 d2 : R) (h : a0 * (b1 * d2 - b2 * d1) + a1 * (b2 * d0 - b0 * d2) + a2 * (b0 * d1 - b1 * d0) = 0) : d1 * (a2 * b0 - a0 * b2) = (d2 * b0 - d0 * b2) * a1 + (a2 * d0 - a0 * d2) * b1 := by grind
theorem R_gr12 {R : Type} (I : Lean.Grind.CommRing R) (a0 a1 a2 b0 b1 b2 d0 d1 d2 : R) (h : a0 * (b1 * d2 - b2 * d1) + a1 * (b2 * d0 - b0 * d2) + a2 * (b0 * d1 - b1 * d0) = 0) : d1 * (a0 * b1 - a1 * b0) = (d0 * b1 - d1 * b0) * a1 + (a0 * d1 - a1 * d0) * b1 := by grind
theorem R_gr20 {R : Type} (I : Lean.Grind.CommRing R) (a0 a1 a2 b0 b1 b2 d0 d1 d2 : R) (h : a0 * (b1 * d2 - b2 * d1) + a1 * (b2 * d0 - b0 * d2) + a2 * (b0 * d1 - b1 * d0) = 0) : d2 * (a1 * b2 - a2 * b1) = (d1 * b2 - d2 * b1) * a2 + (a1 * d2 - a2 * d1) * b2 := by grind
theorem R_gr21 {R : Type} (I : Lean.Grind.CommRing R) (a0 a1 a2 b0 b1 b2 d0 d1 d2 : R) (h : a0 * (b1 * d2 - b2 * d1) + a1 * (b2 * d0 - b0 * d2) + a2 * (b0 * d1 - b1 * d0) = 0) : d2 * (a2 * b0 - a0 * b2) = (d2 * b0 - d0 * b2) * a2 + (a2 * d0 - a0 * d2) * b2 := by grind
theorem R_gr22 {R : Type} (I : Lean.Grind.CommRing R) (a0 a1 a2 b0 b1 b2 d0 d1 d2 : R) (h : a0 * (b1 * d2 - b2 * d1) + a1 * (b2 * d0 - b0 * d2) + a2 * (b0 * d1 - b1 * d0) = 0) : d2 * (a0 * b1 - a1 * b0) = (d0 * b1 - d1 * b0) * a2 + (a0 * d1 - a1 * d0) * b2 := by grind
theorem v_gr {q : Nat} {a b d : Nat → Nat} (hq : q ∈ qs) (ha : ltv q a) (hb : ltv q b) (hd : ltv q d) (h : vdet q a b d = 0) : ∀ j, j < 3 → ∀ k, k < 3 → fmul q (d j) (vcr q a b k) = fadd q (fmul q (vcr q d b k) (a j)) (fmul q (vcr q a d k) (b j))
  | 0, _, 0, _ => congrArg Subtype.val (R_gr00 (fqR hq) ⟨a 0, ha 0 (by decide)⟩ ⟨a 1, ha 1 (by decide)⟩ ⟨a 2, ha 2 (by decide)⟩ ⟨b 0, hb 0 (by decide)⟩ ⟨b 1, hb 1 (by decide)⟩ ⟨b 2, hb 2 (by decide)⟩ ⟨d 0, hd 0 (by decide)⟩ ⟨d 1, hd 1 (by decide)⟩ ⟨d 2, hd 2 (by decide)⟩ (Subtype.ext h))
  | 0, _, 1, _ => congrArg Subtype.val (R_gr01 (fqR hq) ⟨a 0, ha 0 (by decide)⟩ ⟨a 1, ha 1 (by decide)⟩ ⟨a 2, ha 2 (by decide)⟩ ⟨b 0, hb 0 (by decide)⟩ ⟨b 1, hb 1 (by decide)⟩ ⟨b 2, hb 2 (by decide)⟩ ⟨d 0, hd 0 (by decide)⟩ ⟨d 1, hd 1 (by decide)⟩ ⟨d 2, hd 2 (by decide)⟩ (Subtype.ext h))
  | 0, _, 2, _ => congrArg Subtype.val (R_gr02 (fqR hq) ⟨a 0, ha 0 (by decide)⟩ ⟨a 1, ha 1 (by decide)⟩ ⟨a 2, ha 2 (by decide)⟩ ⟨b 0, hb 0 (by decide)⟩ ⟨b 1, hb 1 (by decide)⟩ ⟨b 2, hb 2 (by decide)⟩ ⟨d 0, hd 0 (by decide)⟩ ⟨d 1, hd 1 (by decide)⟩ ⟨d 2, hd 2 (by decide)⟩ (Subtype.ext h))
  | 1, _, 0, _ => congrArg Subtype.val (R_gr10 (fqR hq) ⟨a 0, ha 0 (by decide)⟩ ⟨a 1, ha 1 (by decide)⟩ ⟨a 2, ha 2 (by decide)⟩ ⟨b 0, hb 0 (by decide)⟩ ⟨b 1, hb 1 (by decide)⟩ ⟨b 2, hb 2 (by decide)⟩ ⟨d 0, hd 0 (by decide)⟩ ⟨d 1, hd 1 (by decide)⟩ ⟨d 2, hd 2 (by decide)⟩ (Subtype.ext h))
  | 1, _, 1, _ => congrArg Subtype.val (R_gr11 (fqR hq) ⟨a 0, ha 0 (by decide)⟩ ⟨a 1, ha 1 (by decide)⟩ ⟨a 2, ha 2 (by decide)⟩ ⟨b 0, hb 0 (by decide)⟩ ⟨b 1, hb 1 (by decide)⟩ ⟨b 2, hb 2 (by decide)⟩ ⟨d 0, hd 0 (by decide)⟩ ⟨d 1, hd 1 (by decide)⟩ ⟨d 2, hd 2 (by decide)⟩ (Subtype.ext h))
  | 1, _, 2, _ => congrArg Subtype.val (R_gr12 (fqR hq) ⟨a 0, ha 0 (by decide)⟩ ⟨a 1, ha 1 (by decide)⟩ ⟨a 2, ha 2 (by decide)⟩ ⟨b 0, hb 0 (by decide)⟩ ⟨b 1, hb 1 (by decide)⟩ ⟨b 2, hb 2 (by decide)⟩ ⟨d 0, hd 0 (by decide)⟩ ⟨d 1, hd 1 (by decide)⟩ ⟨d 2, hd 2 (by decide)⟩ (Subtype.ext h))
  | 2, _, 0, _ => congrArg Subtype.val (R_gr20 (fqR hq) ⟨a 0, ha 0 (by decide)⟩ ⟨a 1, ha 1 (by decide)⟩ ⟨a 2, ha 2 (by decide)⟩ ⟨b 0, hb 0 (by decide)⟩ ⟨b 1, hb 1 (by decide)⟩ ⟨b 2, hb 2 (by decide)⟩ ⟨d 0, hd 0 (by decide)⟩ ⟨d 1, hd 1 (by decide)⟩ ⟨d 2, hd 2 (by decide)⟩ (Subtype.ext h))
  | 2, _, 1, _ => congrArg Subtype.val (R_gr21 (fqR hq) ⟨a 0, ha 0 (by decide)⟩ ⟨a 1, ha 1 (by decide)⟩ ⟨a 2, ha 2 (by decide)⟩ ⟨b 0, hb 0 (by decide)⟩ ⟨b 1, hb 1 (by decide)⟩ ⟨b 2, hb 2 (by decide)⟩ ⟨d 0, hd 0 (by decide)⟩ ⟨d 1, hd 1 (by decide)⟩ ⟨d 2, hd 2 (by decide)⟩ (Subtype.ext h))
  | 2, _, 2, _ => congrArg Subtype.val (R_gr22 (fqR hq) ⟨a 0, ha 0 (by decide)⟩ ⟨a 1, ha 1 (by decide)⟩ ⟨a 2, ha 2 (by decide)⟩ ⟨b 0, hb 0 (by decide)⟩ ⟨b 1, hb 1 (by decide)⟩ ⟨b 2, hb 2 (by decide)⟩ ⟨d 0, hd 0 (by decide)⟩ ⟨d 1, hd 1 (by decide)⟩ ⟨d 2, hd 2 (by decide)⟩ (Subtype.ext h))
  | j + 3, h, _, _ => absurd h (by omega)
  | _, _, k + 3, h => absurd h (by omega)
theorem R_cr1 {R : Type} (I : Lean.Grind.CommRing R) (a1 a2 b1 b2 u v : R) : a1 * (u * a2 + v * b2) - a2 * (u * a1 + v * b1) = v * (a1 * b2 - a2 * b1) := by grind
theorem R_cr2 {R : Type} (I : Lean.Grind.CommRing R) (a1 a2 b1 b2 u v : R) : (u * a1 + v * b1) * b2 - (u * a2 + v * b2) * b1 = u * (a1 * b2 - a2 * b1) := by grind
theorem R_sv {R : Type} (I : Lean.Grind.CommRing R) (s v x : R) : (s * x) * (v * x) = (x * x) * (s * v) := by grind
theorem R_cyc {R : Type} (I : Lean.Grind.CommRing R) (a0 a1 a2 b0 b1 b2 d0 d1 d2 : R) : a0 * (b1 * d2 - b2 * d1) + a1 * (b2 * d0 - b0 * d2) + a2 * (b0 * d1 - b1 * d0) = d0 * (a1 * b2 - a2 * b1) + d1 * (a2 * b0 - a0 * b2) + d2 * (a0 * b1 - a1 * b0) := by grind
theorem v_cyc {q : Nat} {a b d : Nat → Nat} (hq : q ∈ qs) (ha : ltv q a) (hb : ltv q b) (hd : ltv q d) : vdet q a b d = vdet q d a b := congrArg Subtype.val (R_cyc (fqR hq) ⟨a 0, ha 0 (by decide)⟩ ⟨a 1, ha 1 (by decide)⟩ ⟨a 2, ha 2 (by decide)⟩ ⟨b 0, hb 0 (by decide)⟩ ⟨b 1, hb 1 (by decide)⟩ ⟨b 2, hb 2 (by decide)⟩ ⟨d 0, hd 0 (by decide)⟩ ⟨d 1, hd 1 (by decide)⟩ ⟨d 2, hd 2 (by decide)⟩)
/-- c is u a + v b -/
def sol2 (q a b c u v : Nat) : Prop := ∀ k, k < 3 → fadd q (fmul q u (pt q a k)) (fmul q v (pt q b k)) = pt q c k
theorem s2_1 {q a b c u v k : Nat} (hq : q ∈ qs) (ha : a < nn q) (hb : b < nn q) (hu : u < q) (hv : v < q) (h : sol2 q a b c u v) : vcr q (pt q a) (pt q c) k = fmul q v (vcr q (pt q a) (pt q b) k) := by
  have h1 := Nat.mod_lt (k + 1) (show 0 < 3 by decide); have h2 := Nat.mod_lt (k + 2) (show 0 < 3 by decide)
  rw [vcr, ← h _ h1, ← h _ h2]
  exact congrArg Subtype.val (R_cr1 (fqR hq) ⟨_, pt_lt hq ha h1⟩ ⟨_, pt_lt hq ha h2⟩ ⟨_, pt_lt hq hb h1⟩ ⟨_, pt_lt hq hb h2⟩ ⟨u, hu⟩ ⟨v, hv⟩)
theorem s2_2 {q a b c u v k : Nat} (hq : q ∈ qs) (ha : a < nn q) (hb : b < nn q) (hu : u < q) (hv : v < q) (h : sol2 q a b c u v) : vcr q (pt q c) (pt q b) k = fmul q u (vcr q (pt q a) (pt q b) k) := by
  have h1 := Nat.mod_lt (k + 1) (show 0 < 3 by decide); have h2 := Nat.mod_lt (k + 2) (show 0 < 3 by decide)
  rw [vcr, ← h _ h1, ← h _ h2]
  exact congrArg Subtype.val (R_cr2 (fqR hq) ⟨_, pt_lt hq ha h1⟩ ⟨_, pt_lt hq ha h2⟩ ⟨_, pt_lt hq hb h1⟩ ⟨_, pt_lt hq hb h2⟩ ⟨u, hu⟩ ⟨v, hv⟩)
theorem rti_ne {q a b : Nat} (hq : q ∈ qs) (ha : a < nn q) (hb : b < nn q) (h : ¬ a = b) : rti q a b < 3 ∧ ¬ vcr q (pt q a) (pt q b) (rti q a b) = 0 := by
  have := jnum q hq a ha b hb h
  rw [rti]
  split
  · exact ⟨by decide, by assumption⟩
  · split
    · exact ⟨by decide, by assumption⟩
    · exact ⟨by decide, fun z => this ⟨by omega, by omega, z⟩⟩
theorem F_dm : ∀ q ∈ qs, ∀ a, a < q → ∀ b, b < q → ∀ x, x < q → (x = 0 ∨ ¬ fmul q a x = b ∨ a = fmul q (finv q x) b) := by decide +kernel
theorem F_md : ∀ q ∈ qs, ∀ x, x < q → (x = 0 ∨ fmul q (finv q x) x = 1) := by decide +kernel
theorem R_s2 {R : Type} (I : Lean.Grind.CommRing R) (y x d s a t b : R) (h : y * x = 1) (e : d * x = s * a + t * b) : (y * s) * a + (y * t) * b = d := by grind
/-- a point on the line of two is a sum -/
theorem s2_ex {q a b d : Nat} (hq : q ∈ qs) (ha : a < nn q) (hb : b < nn q) (hd : d < nn q) (h : ¬ a = b) (h0 : vdet q (pt q a) (pt q b) (pt q d) = 0) : ∃ s t, s < q ∧ t < q ∧ sol2 q a b d s t := by
  have hr := rti_ne hq ha hb h
  have hx : vcr q (pt q a) (pt q b) (rti q a b) < q := vcr_lt hq (ptv hq ha) (ptv hq hb)
  have hs : vcr q (pt q d) (pt q b) (rti q a b) < q := vcr_lt hq (ptv hq hd) (ptv hq hb)
  have ht : vcr q (pt q a) (pt q d) (rti q a b) < q := vcr_lt hq (ptv hq ha) (ptv hq hd)
  have hy := (F_md q hq _ hx).resolve_left hr.2
  exact ⟨fmul q (finv q (vcr q (pt q a) (pt q b) (rti q a b))) (vcr q (pt q d) (pt q b) (rti q a b)), fmul q (finv q (vcr q (pt q a) (pt q b) (rti q a b))) (vcr q (pt q a) (pt q d) (rti q a b)), fmul_lt hq (finv_lt hq hx) hs, fmul_lt hq (finv_lt hq hx) ht, fun k hk => congrArg Subtype.val (R_s2 (fqR hq) ⟨_, finv_lt hq hx⟩ ⟨_, hx⟩ ⟨_, pt_lt hq hd hk⟩ ⟨_, hs⟩ ⟨_, pt_lt hq ha hk⟩ ⟨_, ht⟩ ⟨_, pt_lt hq hb hk⟩ (Subtype.ext hy) (Subtype.ext (v_gr hq (ptv hq ha) (ptv hq hb) (ptv hq hd) h0 k hk _ hr.1)))⟩
theorem pt_mul : ∀ q ∈ qs, ∀ i, i < nn q → ∀ j, j < nn q → ∀ v, v < q → (i = j ∨ ¬ pt q i 0 = fmul q v (pt q j 0) ∨ ¬ pt q i 1 = fmul q v (pt q j 1) ∨ ¬ pt q i 2 = fmul q v (pt q j 2)) := by decide +kernel
theorem s2_u {q a b c u v : Nat} (hq : q ∈ qs) (ha : a < nn q) (hb : b < nn q) (hc : c < nn q) (hv : v < q) (hcb : ¬ b = c) (h : sol2 q a b c u v) : ¬ u = 0 := fun z => by
  subst z
  have e : ∀ k, k < 3 → pt q c k = fmul q v (pt q b k) := fun k hk => by
    rw [← h k hk, F_0 hq (pt_lt hq ha hk), fadd_0l hq (fmul_lt hq hv (pt_lt hq hb hk))]
  rcases pt_mul q hq c hc b hb v hv with z | z | z | z
  · exact hcb z.symm
  · exact z (e 0 (by decide))
  · exact z (e 1 (by decide))
  · exact z (e 2 (by decide))
/-- the ratio by the sums -/
theorem rat_eq {q a b c d u v s t : Nat} (hq : q ∈ qs) (ha : a < nn q) (hb : b < nn q) (hc : c < nn q) (hu : u < q) (hv : v < q) (hs : s < q) (ht : t < q) (hab : ¬ a = b) (hcb : ¬ b = c) (h1 : sol2 q a b c u v) (h2 : sol2 q a b d s t) : ratq q a b c d = if t = 0 then q else fdiv q (fmul q s v) (fmul q t u) := by
  have hr := rti_ne hq ha hb hab
  have hx : vcr q (pt q a) (pt q b) (rti q a b) < q := vcr_lt hq (ptv hq ha) (ptv hq hb)
  have hu0 := s2_u hq ha hb hc hv hcb h1
  rw [ratq, ratk, s2_1 hq ha hb hs ht h2, s2_2 hq ha hb hu hv h1, s2_2 hq ha hb hs ht h2, s2_1 hq ha hb hu hv h1]
  generalize vcr q (pt q a) (pt q b) (rti q a b) = x at hr hx
  have hxx : ¬ fmul q x x = 0 := fun z => ((F_z q hq x hx x hx).1.mp z).elim hr.2 hr.2
  have e1 : fmul q (fmul q t x) (fmul q u x) = fmul q (fmul q x x) (fmul q t u) := congrArg Subtype.val (R_sv (fqR hq) ⟨t, ht⟩ ⟨u, hu⟩ ⟨x, hx⟩)
  have e2 : fmul q (fmul q s x) (fmul q v x) = fmul q (fmul q x x) (fmul q s v) := congrArg Subtype.val (R_sv (fqR hq) ⟨s, hs⟩ ⟨v, hv⟩ ⟨x, hx⟩)
  rw [e1, e2]
  by_cases z : t = 0
  · subst z
    rw [if_pos rfl, F_0 hq hu, if_pos (F_m0 hq (fmul_lt hq hx hx))]
  · have htu : ¬ fmul q t u = 0 := fun y => ((F_z q hq t ht u hu).1.mp y).elim z hu0
    rw [if_neg z, if_neg (fun y => ((F_z q hq _ (fmul_lt hq hx hx) _ (fmul_lt hq ht hu)).1.mp y).elim hxx htu)]
    exact ((F_sc q hq _ (fmul_lt hq hx hx) _ (fmul_lt hq hs hv) _ (fmul_lt hq ht hu)).resolve_left hxx).resolve_left htu
theorem on_dt {q a b c : Nat} (hq : q ∈ qs) (ha : a < nn q) (hb : b < nn q) (hc : c < nn q) (h : ¬ a = b) : onq q c (joinq q a b) = true ↔ vdet q (pt q a) (pt q b) (pt q c) = 0 := by
  rw [on_det hq hc ha hb h, v_cyc hq (ptv hq ha) (ptv hq hb) (ptv hq hc)]
def sol2B (q c a b s t : Nat) : Bool := fadd q (fmul q s (pt q a 0)) (fmul q t (pt q b 0)) == pt q c 0 && fadd q (fmul q s (pt q a 1)) (fmul q t (pt q b 1)) == pt q c 1 && fadd q (fmul q s (pt q a 2)) (fmul q t (pt q b 2)) == pt q c 2
theorem sol2B_iff {q c a b s t : Nat} : sol2B q c a b s t = true ↔ sol2 q a b c s t := by
  rw [sol2B, Bool.and_eq_true, Bool.and_eq_true, beq_iff_eq, beq_iff_eq, beq_iff_eq]
  exact ⟨fun h k hk => by
    match k, hk with
    | 0, _ => exact h.1.1
    | 1, _ => exact h.1.2
    | 2, _ => exact h.2, fun h => ⟨⟨h 0 (by decide), h 1 (by decide)⟩, h 2 (by decide)⟩⟩
/-- the last of n that is a sum -/
def lsN (q c a b : Nat) : Nat → Nat
  | 0 => 0
  | n + 1 => if sol2B q c a b (n / q) (n % q) = true then n else lsN q c a b n
theorem lsN_lt {q c a b : Nat} : ∀ {n : Nat}, 0 < n → lsN q c a b n < n
  | 1, _ => by rw [lsN]; split <;> exact Nat.zero_lt_one
  | n + 2, _ => by
    rw [lsN]; split
    · omega
    · have := lsN_lt (q := q) (c := c) (a := a) (b := b) (n := n + 1) (by omega); omega
theorem lsN_ok {q c a b : Nat} : ∀ {n : Nat}, (∃ k, k < n ∧ sol2B q c a b (k / q) (k % q) = true) → sol2B q c a b (lsN q c a b n / q) (lsN q c a b n % q) = true
  | 0, ⟨k, hk, _⟩ => absurd hk (Nat.not_lt_zero k)
  | n + 1, ⟨k, hk, h⟩ => by
    rw [lsN]
    by_cases z : sol2B q c a b (n / q) (n % q) = true
    · rw [if_pos z]; exact z
    · rw [if_neg z]
      refine lsN_ok ⟨k, ?_, h⟩
      rcases Nat.lt_succ_iff_lt_or_eq.mp hk with y | y
      · exact y
      · rw [y] at h; exact absurd h z
theorem ls_spec {q a b d : Nat} (hq : q ∈ qs) (ha : a < nn q) (hb : b < nn q) (hd : d < nn q) (h : ¬ a = b) (h0 : vdet q (pt q a) (pt q b) (pt q d) = 0) : lsN q d a b (q * q) / q < q ∧ lsN q d a b (q * q) % q < q ∧ sol2 q a b d (lsN q d a b (q * q) / q) (lsN q d a b (q * q) % q) := by
  obtain ⟨s, t, hs, ht, e⟩ := s2_ex hq ha hb hd h h0
  have hq0 : 0 < q := by omega
  have hl := lsN_lt (q := q) (c := d) (a := a) (b := b) (Nat.mul_pos hq0 hq0)
  refine ⟨Nat.div_lt_of_lt_mul hl, Nat.mod_lt _ hq0, sol2B_iff.mp (lsN_ok ⟨s * q + t, yz_lt hs ht, ?_⟩)⟩
  rw [Nat.mul_comm s q, Nat.mul_add_div hq0, Nat.div_eq_of_lt ht, Nat.add_zero, Nat.mul_add_mod, Nat.mod_eq_of_lt ht]
  exact sol2B_iff.mpr e

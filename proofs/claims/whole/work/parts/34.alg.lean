theorem F_add4 : ∀ q ∈ qs, ∀ a, a < q → ∀ b, b < q → ∀ c, c < q → ∀ d, d < q → fadd q (fadd q a b) (fadd q c d) = fadd q (fadd q a c) (fadd q b d) := by decide +kernel
theorem F_rd {q a b c : Nat} (hq : q ∈ qs) (ha : a < q) (hb : b < q) (hc : c < q) : fmul q (fadd q a b) c = fadd q (fmul q a c) (fmul q b c) := by
  rw [F_comm hq (fadd_lt hq ha hb) hc, (F_t3 q hq c hc a ha b hb).2.2, F_comm hq hc ha, F_comm hq hc hb]
theorem F_ld {q a b c : Nat} (hq : q ∈ qs) (ha : a < q) (hb : b < q) (hc : c < q) : fmul q a (fadd q b c) = fadd q (fmul q a b) (fmul q a c) := (F_t3 q hq a ha b hb c hc).2.2
theorem F_ma {q a b c : Nat} (hq : q ∈ qs) (ha : a < q) (hb : b < q) (hc : c < q) : fmul q (fmul q a b) c = fmul q a (fmul q b c) := (F_t3 q hq a ha b hb c hc).2.1
def ltv (q : Nat) (u : Nat → Nat) : Prop := ∀ k, k < 3 → u k < q
theorem lin_add {q : Nat} {x y w : Nat → Nat} (hq : q ∈ qs) (hx : ltv q x) (hy : ltv q y) (hw : ltv q w) : vdot q (fun k => fadd q (x k) (y k)) w = fadd q (vdot q x w) (vdot q y w) := by
  have a0 := hx 0 (by decide); have a1 := hx 1 (by decide); have a2 := hx 2 (by decide)
  have b0 := hy 0 (by decide); have b1 := hy 1 (by decide); have b2 := hy 2 (by decide)
  have c0 := hw 0 (by decide); have c1 := hw 1 (by decide); have c2 := hw 2 (by decide)
  rw [vdot, vdot, vdot, F_rd hq a0 b0 c0, F_rd hq a1 b1 c1, F_rd hq a2 b2 c2,
    F_add4 q hq _ (fmul_lt hq a0 c0) _ (fmul_lt hq b0 c0) _ (fmul_lt hq a1 c1) _ (fmul_lt hq b1 c1),
    F_add4 q hq _ (fadd_lt hq (fmul_lt hq a0 c0) (fmul_lt hq a1 c1)) _ (fadd_lt hq (fmul_lt hq b0 c0) (fmul_lt hq b1 c1)) _ (fmul_lt hq a2 c2) _ (fmul_lt hq b2 c2)]
theorem lin_mul {q s : Nat} {x w : Nat → Nat} (hq : q ∈ qs) (hs : s < q) (hx : ltv q x) (hw : ltv q w) : vdot q (fun k => fmul q s (x k)) w = fmul q s (vdot q x w) := by
  have a0 := hx 0 (by decide); have a1 := hx 1 (by decide); have a2 := hx 2 (by decide)
  have c0 := hw 0 (by decide); have c1 := hw 1 (by decide); have c2 := hw 2 (by decide)
  rw [vdot, vdot, F_ma hq hs a0 c0, F_ma hq hs a1 c1, F_ma hq hs a2 c2, F_ld hq hs (fadd_lt hq (fmul_lt hq a0 c0) (fmul_lt hq a1 c1)) (fmul_lt hq a2 c2), F_ld hq hs (fmul_lt hq a0 c0) (fmul_lt hq a1 c1)]
theorem dot_com {q : Nat} {x y : Nat → Nat} (hq : q ∈ qs) (hx : ltv q x) (hy : ltv q y) : vdot q x y = vdot q y x := by
  rw [vdot, vdot, F_comm hq (hx 0 (by decide)) (hy 0 (by decide)), F_comm hq (hx 1 (by decide)) (hy 1 (by decide)), F_comm hq (hx 2 (by decide)) (hy 2 (by decide))]
theorem ortho : ∀ q ∈ qs, ∀ i, i < nn q → ∀ j, j < nn q → vdot q (pt q i) (vcr q (pt q i) (pt q j)) = 0 ∧ vdot q (pt q j) (vcr q (pt q i) (pt q j)) = 0 ∧ vdet q (pt q i) (pt q j) (pt q j) = 0 := by decide +kernel
theorem on_ex : ∀ q ∈ qs, ∀ i, i < nn q → onq q i (rowq q i 0) = true := by decide +kernel
theorem F_z : ∀ q ∈ qs, ∀ a, a < q → ∀ b, b < q → (fmul q a b = 0 ↔ (a = 0 ∨ b = 0)) ∧ (¬ b = 0 → ¬ finv q b = 0) := by decide +kernel
theorem dot_congr {q : Nat} {x y w : Nat → Nat} (h : ∀ k, k < 3 → x k = y k) : vdot q x w = vdot q y w := by rw [vdot, vdot, h 0 (by decide), h 1 (by decide), h 2 (by decide)]
/-- the line of two points, as the cross product over a number -/
theorem join_pt {q i j : Nat} (hq : q ∈ qs) (hi : i < nn q) (hj : j < nn q) (h : ¬ i = j) : ∃ g, g < q ∧ ¬ g = 0 ∧ ∀ k, k < 3 → pt q (joinq q i j) k = fmul q g (vcr q (pt q i) (pt q j) k) := by
  have hv : ∀ k, vcr q (pt q i) (pt q j) k < q := fun k => vcr_lt hq (ptv hq hi) (ptv hq hj)
  have hn := jnum q hq i hi j hj h
  have hs := nmb_spec hq (hv 0) (hv 1) (hv 2) hn rfl
  have hf : fs3 (vcr q (pt q i) (pt q j) 0) (vcr q (pt q i) (pt q j) 1) (vcr q (pt q i) (pt q j) 2) < q ∧ ¬ fs3 (vcr q (pt q i) (pt q j) 0) (vcr q (pt q i) (pt q j) 1) (vcr q (pt q i) (pt q j) 2) = 0 := by
    rw [fs3]
    split
    · exact ⟨hv 0, by assumption⟩
    · split
      · exact ⟨hv 1, by assumption⟩
      · exact ⟨hv 2, fun z => hn ⟨by omega, by omega, z⟩⟩
  refine ⟨finv q (fs3 (vcr q (pt q i) (pt q j) 0) (vcr q (pt q i) (pt q j) 1) (vcr q (pt q i) (pt q j) 2)), finv_lt hq hf.1, (F_z q hq 0 (by have := qs_le hq; omega) _ hf.1).2 hf.2, ?_⟩
  intro k hk
  match k, hk with
  | 0, _ => exact hs.1.trans (F_comm hq (hv 0) (finv_lt hq hf.1))
  | 1, _ => exact hs.2.1.trans (F_comm hq (hv 1) (finv_lt hq hf.1))
  | 2, _ => exact hs.2.2.trans (F_comm hq (hv 2) (finv_lt hq hf.1))
theorem on_det {q i j k : Nat} (hq : q ∈ qs) (hi : i < nn q) (hj : j < nn q) (hk : k < nn q) (h : ¬ j = k) : onq q i (joinq q j k) = true ↔ vdet q (pt q i) (pt q j) (pt q k) = 0 := by
  obtain ⟨g, hg, hg0, e⟩ := join_pt hq hj hk h
  have hv : ltv q (vcr q (pt q j) (pt q k)) := fun t _ => vcr_lt hq (ptv hq hj) (ptv hq hk)
  have hL := (join_ok hq hj hk h).1
  have h1 : vdot q (pt q i) (pt q (joinq q j k)) = fmul q g (vdet q (pt q i) (pt q j) (pt q k)) := by
    rw [dot_com hq (ptv hq hi) (ptv hq hL), dot_congr e, lin_mul hq hg hv (ptv hq hi), dot_com hq hv (ptv hq hi)]; rfl
  rw [onq, beq_iff_eq, h1, (F_z q hq g hg _ (vdet_lt hq (ptv hq hi) (ptv hq hj) (ptv hq hk))).1]
  exact ⟨fun z => z.resolve_left hg0, fun z => Or.inr z⟩
def lineq (q i j k : Nat) : Bool := anyB (fun l => onq q i l && onq q j l && onq q k l) (nn q)
theorem anyB_t {P : Nat → Bool} {n t : Nat} (ht : t < n) (h : P t = true) : anyB P n = true := by
  cases e : anyB P n
  · rw [anyB_f.mp e t ht] at h; cases h
  · rfl
theorem line_det {q i j k : Nat} (hq : q ∈ qs) (hi : i < nn q) (hj : j < nn q) (hk : k < nn q) : lineq q i j k = (vdet q (pt q i) (pt q j) (pt q k) == 0) := by
  have hn := nn_le hq
  have hq2 := qs_le hq
  by_cases h : j = k
  · subst h
    rw [(ortho q hq i hi j hj).2.2]
    by_cases h2 : i = j
    · subst h2
      have := on_ex q hq i hi
      exact anyB_t (rowq_lt hq hi (Nat.zero_le q)) (by rw [this]; rfl)
    · have := join_ok hq hi hj h2
      exact anyB_t this.1 (by rw [this.2.1, this.2.2.1]; rfl)
  · have hJ := join_ok hq hj hk h
    cases e : onq q i (joinq q j k)
    · rw [beq_eq_false_iff_ne.mpr (fun z => by rw [(on_det hq hi hj hk h).mpr z] at e; cases e)]
      refine anyB_f.mpr (fun l hl => ?_)
      cases e1 : onq q j l
      · simp
      · cases e2 : onq q k l
        · simp
        · rw [hJ.2.2.2 l hl e1 e2, e]; rfl
    · rw [beq_iff_eq.mpr ((on_det hq hi hj hk h).mp e)]
      exact anyB_t hJ.1 (by rw [e, hJ.2.1, hJ.2.2.1]; rfl)
/-- the first that is not 0 stays -/
theorem hdf_st {f : Nat → Nat} {k : Nat} (h : ¬ hdf f k = 0) : ∀ m, hdf f (k + m) = hdf f k
  | 0 => rfl
  | m + 1 => by
    show (if hdf f (k + m) = 0 then f (k + m) else hdf f (k + m)) = _
    rw [hdf_st h m, if_neg h]
theorem hdf_0 {f : Nat → Nat} : ∀ {n : Nat}, hdf f n = 0 → ∀ t, t < n → f t = 0
  | 0, _, t, ht => absurd ht (Nat.not_lt_zero t)
  | n + 1, h, t, ht => by
    rw [hdf] at h
    by_cases z : hdf f n = 0
    · rw [if_pos z] at h
      rcases Nat.lt_succ_iff_lt_or_eq.mp ht with a | a
      · exact hdf_0 z t a
      · rw [a]; exact h
    · rw [if_neg z] at h; exact absurd h z
theorem F_0 {q a : Nat} (hq : q ∈ qs) (ha : a < q) : fmul q 0 a = 0 := (F_t1 q hq a ha).2.2.2.2.2.2.2.1
theorem set_tld {q t n : Nat} {f : Nat → Nat} (hq : q ∈ qs) (hf : ∀ k, k < n → f k < q) (h : ¬ hdf f n = 0) (ht : t < n) : fdiv q (f t) (hdf f n) = tldq q f t := by
  rw [tldq]
  by_cases z : hdf f (t + 1) = 0
  · rw [if_pos z, hdf_0 z t (Nat.lt_succ_self t), fdiv, F_0 hq (finv_lt hq (hdf_lt (by have := qs_le hq; omega) hf))]
  · have := hdf_st z (n - (t + 1))
    rw [show t + 1 + (n - (t + 1)) = n by omega] at this
    rw [if_neg z, this]
theorem F_sc : ∀ q ∈ qs, ∀ c, c < q → ∀ a, a < q → ∀ b, b < q → (c = 0 ∨ b = 0 ∨ fdiv q (fmul q c a) (fmul q c b) = fdiv q a b) := by decide +kernel
theorem hdf_sc {q c : Nat} {f : Nat → Nat} (hq : q ∈ qs) (hc : c < q) (h0 : ¬ c = 0) : ∀ {n : Nat}, (∀ k, k < n → f k < q) → hdf (fun k => fmul q c (f k)) n = fmul q c (hdf f n)
  | 0, _ => by
    show 0 = fmul q c 0
    exact (F_t1 q hq c hc).2.2.2.2.2.2.1.symm
  | n + 1, h => by
    have hn := hdf_lt (q := q) (by have := qs_le hq; omega) (fun t ht => h t (Nat.lt_succ_of_lt ht) : ∀ t, t < n → f t < q)
    rw [hdf, hdf, hdf_sc hq hc h0 (fun k hk => h k (by omega))]
    by_cases z : hdf f n = 0
    · rw [if_pos z, z, if_pos (F_t1 q hq c hc).2.2.2.2.2.2.1]
    · rw [if_neg z, if_neg (fun y => ((F_z q hq c hc _ hn).1.mp y).elim h0 z)]
/-- a multiple is told alike -/
theorem tld_sc {q c t n : Nat} {f : Nat → Nat} (hq : q ∈ qs) (hc : c < q) (h0 : ¬ c = 0) (hf : ∀ k, k < n → f k < q) (ht : t < n) : tldq q (fun k => fmul q c (f k)) t = tldq q f t := by
  have hf1 : ∀ k, k < t + 1 → f k < q := fun k hk => hf k (by omega)
  have hn := hdf_lt (q := q) (by have := qs_le hq; omega) hf1
  rw [tldq, tldq, hdf_sc hq hc h0 hf1]
  by_cases z : hdf f (t + 1) = 0
  · have e := hdf_0 z t (Nat.lt_succ_self t)
    rw [if_pos z, z, if_pos (F_t1 q hq c hc).2.2.2.2.2.2.1, e]
    exact (F_t1 q hq c hc).2.2.2.2.2.2.1
  · rw [if_neg z, if_neg (fun y => ((F_z q hq c hc _ hn).1.mp y).elim h0 z)]
    exact ((F_sc q hq c hc _ (hf t ht) _ hn).resolve_left h0).resolve_left z
theorem det_cof {q : Nat} {mm : Nat → Nat} (hq : q ∈ qs) (hm : MPK q mm) (h : ¬ detq q mm = 0) : ¬ hdf (fun k => cofq q mm (k % 3) (k / 3)) 9 = 0 := fun z => h (by
  have e := hdf_0 z
  have e0 : cofq q mm 0 0 = 0 := e 0 (by decide)
  have e1 : cofq q mm 0 1 = 0 := e 3 (by decide)
  have e2 : cofq q mm 0 2 = 0 := e 6 (by decide)
  have t := F_t1 q hq
  rw [detq, vdot, e0, e1, e2, (t _ (hm 0 (by decide))).2.2.2.2.2.2.1, (t _ (hm 1 (by decide))).2.2.2.2.2.2.1, (t _ (hm 2 (by decide))).2.2.2.2.2.2.1]
  have := (t 0 (by have := qs_le hq; omega)).2.2.1
  rw [this, this])

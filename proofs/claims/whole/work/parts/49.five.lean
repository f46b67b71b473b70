/-- the points of a set, in their order -/
def mbr (q : Nat) (S : Nat → Bool) (r : Nat) : Nat := ((List.range (nn q)).filter S).getD r 0
theorem mbr_at {q r : Nat} {S : Nat → Bool} (h : r < cnt S (nn q)) : ∃ hr : r < ((List.range (nn q)).filter S).length, mbr q S r = ((List.range (nn q)).filter S)[r] := by
  have hr : r < ((List.range (nn q)).filter S).length := by rw [← cnt_filter]; exact h
  exact ⟨hr, by rw [mbr, List.getD_eq_getElem?_getD, List.getElem?_eq_getElem hr]; rfl⟩
theorem mbr_in {q r : Nat} {S : Nat → Bool} (h : r < cnt S (nn q)) : mbr q S r < nn q ∧ S (mbr q S r) = true := by
  obtain ⟨hr, e⟩ := mbr_at h
  have hm := List.getElem_mem hr
  rw [← e, List.mem_filter, List.mem_range] at hm
  exact hm
theorem mbr_ex {q t : Nat} {S : Nat → Bool} (ht : t < nn q) (h : S t = true) : ∃ r, r < cnt S (nn q) ∧ mbr q S r = t := by
  have hm : t ∈ (List.range (nn q)).filter S := List.mem_filter.mpr ⟨List.mem_range.mpr ht, h⟩
  obtain ⟨r, hr, e⟩ := List.getElem_of_mem hm
  have h1 : r < cnt S (nn q) := by rw [cnt_filter]; exact hr
  obtain ⟨_, e2⟩ := mbr_at h1
  exact ⟨r, h1, e2.trans e⟩
theorem mbr_lt {q i j : Nat} {S : Nat → Bool} (hj : j < cnt S (nn q)) (h : i < j) : mbr q S i < mbr q S j := by
  obtain ⟨h1, e1⟩ := mbr_at (Nat.lt_trans h hj)
  obtain ⟨h2, e2⟩ := mbr_at hj
  have hn : ((List.range (nn q)).filter S).Pairwise (· < ·) := List.Pairwise.filter _ List.pairwise_lt_range
  rw [e1, e2]
  exact List.pairwise_iff_getElem.mp hn i j h1 h2 h
theorem mbr_inj {q i j : Nat} {S : Nat → Bool} (hi : i < cnt S (nn q)) (hj : j < cnt S (nn q)) (e : mbr q S i = mbr q S j) : i = j := by
  rcases Nat.lt_trichotomy i j with h | h | h
  · have := mbr_lt hj h; omega
  · exact h
  · have := mbr_lt hi h; omega
theorem mbr_pick {q r : Nat} {S : Nat → Bool} (hq : q ∈ qs) (h : r < cnt S (nn q)) : pickZ S (nn q) (nI r) = nI (mbr q S r) := by
  have := nn_le hq
  exact pick_filter (nn q) (by omega) (by rw [← cnt_filter]; exact h)
theorem cnt_dn {P : Nat → Bool} {p n : Nat} (hp : p < n) (h : P p = true) : cnt P n = cnt (upB P p false) n + 1 := by
  rw [← cnt_up1 (G := upB P p false) hp upB_s]
  exact (cnt_congr (fun k _ => by
    by_cases z : k = p
    · rw [z, upB_s, h]
    · rw [upB_n z, upB_n z])).symm
theorem cnt4 {P : Nat → Bool} {a b c d n : Nat} (ha : a < n) (hb : b < n) (hc : c < n) (hd : d < n) (h1 : P a = true) (h2 : P b = true) (h3 : P c = true) (h4 : P d = true) (n1 : ¬ b = a) (n2 : ¬ c = a) (n3 : ¬ d = a) (n4 : ¬ c = b) (n5 : ¬ d = b) (n6 : ¬ d = c) : 4 ≤ cnt P n := by
  rw [cnt_dn ha h1, cnt_dn (P := upB P a false) hb (by rw [upB_n n1]; exact h2), cnt_dn (P := upB (upB P a false) b false) hc (by rw [upB_n n4, upB_n n2]; exact h3), cnt_dn (P := upB (upB (upB P a false) b false) c false) hd (by rw [upB_n n6, upB_n n5, upB_n n3]; exact h4)]
  omega
theorem ln_eq {q l m x y : Nat} (hq : q ∈ qs) (hl : l < nn q) (hm : m < nn q) (hx : x < nn q) (hy : y < nn q) (h : ¬ x = y) (h1 : onq q x l = true) (h2 : onq q y l = true) (h3 : onq q x m = true) (h4 : onq q y m = true) : l = m :=
  ((join_ok hq hx hy h).2.2.2 l hl h1 h2).trans ((join_ok hq hx hy h).2.2.2 m hm h3 h4).symm
/-- a pair of lines as a curve -/
def lnp (q l m : Nat) : Nat → Nat := u6 (fmul q (pt q l 0) (pt q m 0)) (fmul q (pt q l 1) (pt q m 1)) (fmul q (pt q l 2) (pt q m 2)) (fadd q (fmul q (pt q l 1) (pt q m 2)) (fmul q (pt q l 2) (pt q m 1))) (fadd q (fmul q (pt q l 0) (pt q m 2)) (fmul q (pt q l 2) (pt q m 0))) (fadd q (fmul q (pt q l 0) (pt q m 1)) (fmul q (pt q l 1) (pt q m 0)))
theorem lnp_lt {q l m : Nat} (hq : q ∈ qs) (hl : l < nn q) (hm : m < nn q) : lt6 q (lnp q l m) := fun k _ => by
  have a := fun i (h : i < 3) => pt_lt hq hl h
  have b := fun i (h : i < 3) => pt_lt hq hm h
  exact u6_lt (fmul_lt hq (a 0 (by decide)) (b 0 (by decide))) (fmul_lt hq (a 1 (by decide)) (b 1 (by decide))) (fmul_lt hq (a 2 (by decide)) (b 2 (by decide))) (fadd_lt hq (fmul_lt hq (a 1 (by decide)) (b 2 (by decide))) (fmul_lt hq (a 2 (by decide)) (b 1 (by decide)))) (fadd_lt hq (fmul_lt hq (a 0 (by decide)) (b 2 (by decide))) (fmul_lt hq (a 2 (by decide)) (b 0 (by decide)))) (fadd_lt hq (fmul_lt hq (a 0 (by decide)) (b 1 (by decide))) (fmul_lt hq (a 1 (by decide)) (b 0 (by decide))))
theorem lnp_v {q l m p : Nat} (hq : q ∈ qs) (hp : p < nn q) (hl : l < nn q) (hm : m < nn q) : crv q (lnp q l m) p = fmul q (vdot q (pt q p) (pt q l)) (vdot q (pt q p) (pt q m)) := congrArg Subtype.val (R_lnp (fqR hq) ⟨pt q p 0, pt_lt hq hp (by decide)⟩ ⟨pt q p 1, pt_lt hq hp (by decide)⟩ ⟨pt q p 2, pt_lt hq hp (by decide)⟩ ⟨pt q l 0, pt_lt hq hl (by decide)⟩ ⟨pt q l 1, pt_lt hq hl (by decide)⟩ ⟨pt q l 2, pt_lt hq hl (by decide)⟩ ⟨pt q m 0, pt_lt hq hm (by decide)⟩ ⟨pt q m 1, pt_lt hq hm (by decide)⟩ ⟨pt q m 2, pt_lt hq hm (by decide)⟩)
theorem on_z {q p l : Nat} : onq q p l = true ↔ vdot q (pt q p) (pt q l) = 0 := by rw [onq, beq_iff_eq]
theorem lnp_z {q l m p : Nat} (hq : q ∈ qs) (hp : p < nn q) (hl : l < nn q) (hm : m < nn q) : crv q (lnp q l m) p = 0 ↔ (onq q p l = true ∨ onq q p m = true) := by
  rw [lnp_v hq hp hl hm, on_z, on_z]
  exact (F_z q hq _ (vdot_lt hq (ptv hq hp) (ptv hq hl)) _ (vdot_lt hq (ptv hq hp) (ptv hq hm))).1
/-- a curve through four that leaves out the fifth -/
theorem pair5 {q a b c d p : Nat} {S : Nat → Bool} (hq : q ∈ qs) (h3 : ∀ l, l < nn q → metq q S l ≤ 3) (ha : a < nn q) (hb : b < nn q) (hc : c < nn q) (hd : d < nn q) (hp : p < nn q) (sa : S a = true) (sb : S b = true) (sc : S c = true) (sd : S d = true) (sp : S p = true) (ab : ¬ a = b) (ac : ¬ a = c) (ad : ¬ a = d) (ap : ¬ a = p) (bc : ¬ b = c) (bd : ¬ b = d) (bp : ¬ b = p) (cd : ¬ c = d) (cp : ¬ c = p) (dp : ¬ d = p) : ∃ x, lt6 q x ∧ crv q x a = 0 ∧ crv q x b = 0 ∧ crv q x c = 0 ∧ crv q x d = 0 ∧ ¬ crv q x p = 0 := by
  have four : ∀ l x y z w, l < nn q → x < nn q → y < nn q → z < nn q → w < nn q → S x = true → S y = true → S z = true → S w = true → ¬ y = x → ¬ z = x → ¬ w = x → ¬ z = y → ¬ w = y → ¬ w = z → onq q x l = true → onq q y l = true → onq q z l = true → onq q w l = true → False := fun l x y z w hl hx hy hz hw s1 s2 s3 s4 n1 n2 n3 n4 n5 n6 o1 o2 o3 o4 => by
    have := cnt4 (P := fun t => S t && onq q t l) hx hy hz hw (by rw [s1, o1]; rfl) (by rw [s2, o2]; rfl) (by rw [s3, o3]; rfl) (by rw [s4, o4]; rfl) n1 n2 n3 n4 n5 n6
    have h := h3 l hl
    rw [metq] at h; omega
  have jab := join_ok hq ha hb ab
  have jcd := join_ok hq hc hd cd
  have jac := join_ok hq ha hc ac
  have jbd := join_ok hq hb hd bd
  have ne : ∀ {x y : Nat}, ¬ x = y → ¬ y = x := fun h z => h z.symm
  rcases Classical.em (onq q p (joinq q a b) = true ∨ onq q p (joinq q c d) = true) with z | z
  · refine ⟨lnp q (joinq q a c) (joinq q b d), lnp_lt hq jac.1 jbd.1, (lnp_z hq ha jac.1 jbd.1).mpr (Or.inl jac.2.1), (lnp_z hq hb jac.1 jbd.1).mpr (Or.inr jbd.2.1), (lnp_z hq hc jac.1 jbd.1).mpr (Or.inl jac.2.2.1), (lnp_z hq hd jac.1 jbd.1).mpr (Or.inr jbd.2.2.1), fun y => ?_⟩
    rcases z with z | z <;> rcases (lnp_z hq hp jac.1 jbd.1).mp y with y | y
    · have e := ln_eq hq jac.1 jab.1 ha hp ap jac.2.1 y jab.2.1 z
      have oc := jac.2.2.1; rw [e] at oc
      exact four _ a b c p jab.1 ha hb hc hp sa sb sc sp (ne ab) (ne ac) (ne ap) (ne bc) (ne bp) (ne cp) jab.2.1 jab.2.2.1 oc z
    · have e := ln_eq hq jbd.1 jab.1 hb hp bp jbd.2.1 y jab.2.2.1 z
      have od := jbd.2.2.1; rw [e] at od
      exact four _ a b d p jab.1 ha hb hd hp sa sb sd sp (ne ab) (ne ad) (ne ap) (ne bd) (ne bp) (ne dp) jab.2.1 jab.2.2.1 od z
    · have e := ln_eq hq jac.1 jcd.1 hc hp cp jac.2.2.1 y jcd.2.1 z
      have oa := jac.2.1; rw [e] at oa
      exact four _ a c d p jcd.1 ha hc hd hp sa sc sd sp (ne ac) (ne ad) (ne ap) (ne cd) (ne cp) (ne dp) oa jcd.2.1 jcd.2.2.1 z
    · have e := ln_eq hq jbd.1 jcd.1 hd hp dp jbd.2.2.1 y jcd.2.2.1 z
      have ob := jbd.2.1; rw [e] at ob
      exact four _ b c d p jcd.1 hb hc hd hp sb sc sd sp (ne bc) (ne bd) (ne bp) (ne cd) (ne cp) (ne dp) ob jcd.2.1 jcd.2.2.1 z
  · exact ⟨lnp q (joinq q a b) (joinq q c d), lnp_lt hq jab.1 jcd.1, (lnp_z hq ha jab.1 jcd.1).mpr (Or.inl jab.2.1), (lnp_z hq hb jab.1 jcd.1).mpr (Or.inl jab.2.2.1), (lnp_z hq hc jab.1 jcd.1).mpr (Or.inr jcd.2.1), (lnp_z hq hd jab.1 jcd.1).mpr (Or.inr jcd.2.2.1), fun y => z ((lnp_z hq hp jab.1 jcd.1).mp y)⟩
/-- five points, no four of them on a line -/
def fiv (q : Nat) (S : Nat → Bool) : Prop := cnt S (nn q) = 5 ∧ ∀ l, l < nn q → metq q S l ≤ 3
theorem one5 {q : Nat} {S : Nat → Bool} (hq : q ∈ qs) (h : fiv q S) {a b c d p : Nat} (ha : a < 5) (hb : b < 5) (hc : c < 5) (hd : d < 5) (hp : p < 5) (ab : ¬ a = b) (ac : ¬ a = c) (ad : ¬ a = d) (ap : ¬ a = p) (bc : ¬ b = c) (bd : ¬ b = d) (bp : ¬ b = p) (cd : ¬ c = d) (cp : ¬ c = p) (dp : ¬ d = p) (hcov : ∀ s, s < 5 → ¬ s = p → s = a ∨ s = b ∨ s = c ∨ s = d) : ∃ x, lt6 q x ∧ ¬ crv q x (mbr q S p) = 0 ∧ ∀ s, s < 5 → ¬ s = p → crv q x (mbr q S s) = 0 := by
  have hm : ∀ r, r < 5 → r < cnt S (nn q) := fun r hr => by rw [h.1]; exact hr
  have mi := fun r (hr : r < 5) => mbr_in (hm r hr)
  have mn : ∀ {i j : Nat}, i < 5 → j < 5 → ¬ i = j → ¬ mbr q S i = mbr q S j := fun hi hj n e => n (mbr_inj (hm _ hi) (hm _ hj) e)
  obtain ⟨x, hx, e1, e2, e3, e4, e5⟩ := pair5 hq h.2 (mi a ha).1 (mi b hb).1 (mi c hc).1 (mi d hd).1 (mi p hp).1 (mi a ha).2 (mi b hb).2 (mi c hc).2 (mi d hd).2 (mi p hp).2 (mn ha hb ab) (mn ha hc ac) (mn ha hd ad) (mn ha hp ap) (mn hb hc bc) (mn hb hd bd) (mn hb hp bp) (mn hc hd cd) (mn hc hp cp) (mn hd hp dp)
  refine ⟨x, hx, e5, fun s hs n => ?_⟩
  rcases hcov s hs n with z | z | z | z
  · rw [z]; exact e1
  · rw [z]; exact e2
  · rw [z]; exact e3
  · rw [z]; exact e4
theorem one5_all {q : Nat} {S : Nat → Bool} (hq : q ∈ qs) (h : fiv q S) : ∀ p, p < 5 → ∃ x, lt6 q x ∧ ¬ crv q x (mbr q S p) = 0 ∧ ∀ s, s < 5 → ¬ s = p → crv q x (mbr q S s) = 0
  | 0, _ => one5 (a := 1) (b := 2) (c := 3) (d := 4) hq h (by decide) (by decide) (by decide) (by decide) (by decide) (by decide) (by decide) (by decide) (by decide) (by decide) (by decide) (by decide) (by decide) (by decide) (by decide) (fun s _ _ => by omega)
  | 1, _ => one5 (a := 0) (b := 2) (c := 3) (d := 4) hq h (by decide) (by decide) (by decide) (by decide) (by decide) (by decide) (by decide) (by decide) (by decide) (by decide) (by decide) (by decide) (by decide) (by decide) (by decide) (fun s _ _ => by omega)
  | 2, _ => one5 (a := 0) (b := 1) (c := 3) (d := 4) hq h (by decide) (by decide) (by decide) (by decide) (by decide) (by decide) (by decide) (by decide) (by decide) (by decide) (by decide) (by decide) (by decide) (by decide) (by decide) (fun s _ _ => by omega)
  | 3, _ => one5 (a := 0) (b := 1) (c := 2) (d := 4) hq h (by decide) (by decide) (by decide) (by decide) (by decide) (by decide) (by decide) (by decide) (by decide) (by decide) (by decide) (by decide) (by decide) (by decide) (by decide) (fun s _ _ => by omega)
  | 4, _ => one5 (a := 0) (b := 1) (c := 2) (d := 3) hq h (by decide) (by decide) (by decide) (by decide) (by decide) (by decide) (by decide) (by decide) (by decide) (by decide) (by decide) (by decide) (by decide) (by decide) (by decide) (fun s _ _ => by omega)
  | p + 5, h => absurd h (by omega)
theorem F_dv : ∀ q ∈ qs, ∀ v, v < q → ∀ w, w < q → (w = 0 ∨ fmul q (fdiv q v w) w = v) := by decide +kernel
/-- a curve through all points of the set -/
def thrS (q : Nat) (S : Nat → Bool) (x : Nat → Nat) : Prop := ∀ t, t < nn q → S t = true → crv q x t = 0
theorem trm6 {q p : Nat} (hq : q ∈ qs) (hp : p < nn q) : lt6 q (trm q p) := fun _ _ => trm_lt hq hp
theorem sur5 {q : Nat} {S : Nat → Bool} {v : Nat → Nat} (hq : q ∈ qs) (h : fiv q S) (hv : ∀ r, r < 5 → v r < q) : ∀ i, i ≤ 5 → ∃ x, lt6 q x ∧ (∀ r, r < i → crv q x (mbr q S r) = v r) ∧ ∀ r, i ≤ r → r < 5 → crv q x (mbr q S r) = 0
  | 0, _ => by
    have q0 : 0 < q := by have := qs_le hq; omega
    refine ⟨fun _ => 0, fun _ _ => q0, fun r hr => absurd hr (Nat.not_lt_zero r), fun r _ hr => ?_⟩
    have hm := mbr_in (q := q) (S := S) (r := r) (by rw [h.1]; exact hr)
    have z2 := F_a0 (a := 0) hq q0
    rw [crv, sm6, F_0 hq (trm_lt hq hm.1), F_0 hq (trm_lt hq hm.1), F_0 hq (trm_lt hq hm.1), F_0 hq (trm_lt hq hm.1), F_0 hq (trm_lt hq hm.1), F_0 hq (trm_lt hq hm.1), z2, z2, z2, z2, z2]
  | i + 1, hi => by
    obtain ⟨x, hx, h1, h2⟩ := sur5 hq h hv i (by omega)
    obtain ⟨y, hy, y1, y2⟩ := one5_all hq h i (by omega)
    have hm := fun r (hr : r < 5) => mbr_in (q := q) (S := S) (r := r) (by rw [h.1]; exact hr)
    have hw := crv_lt hq hy (hm i (by omega)).1
    have hs := fdiv_lt hq (hv i (by omega)) hw
    have hc : ∀ r, r < 5 → crv q (fun k => fadd q (x k) (fmul q (fdiv q (v i) (crv q y (mbr q S i))) (y k))) (mbr q S r) = fadd q (crv q x (mbr q S r)) (fmul q (fdiv q (v i) (crv q y (mbr q S i))) (crv q y (mbr q S r))) := fun r hr => sm6_ad hq hx (trm6 hq (hm r hr).1) hy hs
    refine ⟨_, fun k hk => fadd_lt hq (hx k hk) (fmul_lt hq hs (hy k hk)), fun r hr => ?_, fun r hr h5 => ?_⟩
    · rw [hc r (by omega)]
      rcases Nat.lt_succ_iff_lt_or_eq.mp hr with z | z
      · rw [y2 r (by omega) (by omega), F_m0 hq hs, F_a0 hq (crv_lt hq hx (hm r (by omega)).1)]; exact h1 r z
      · rw [z, h2 i (Nat.le_refl i) (by omega), fadd_0l hq (fmul_lt hq hs hw)]
        exact (F_dv q hq _ (hv i (by omega)) _ hw).resolve_left y1
    · rw [hc r h5, y2 r h5 (by omega), F_m0 hq hs, F_a0 hq (crv_lt hq hx (hm r h5).1)]; exact h2 r (by omega) h5
theorem KS_thr {q : Nat} {S : Nat → Bool} {mx : Nat → Nat} (hq : q ∈ qs) (h : fiv q S) (hm : ∀ r k, r < 5 → k < 6 → mx (r * 6 + k) = trm q (mbr q S r) k) : KS q (thrS q S) mx := by
  have hi := fun r (hr : r < 5) => mbr_in (q := q) (S := S) (r := r) (by rw [h.1]; exact hr)
  have e : ∀ x r, r < 5 → apM q mx x r = crv q x (mbr q S r) := fun x r hr => sm6_cr (fun k hk => hm r k hr hk)
  refine ⟨fun r k hr hk => by rw [hm r k hr hk]; exact trm_lt hq (hi r hr).1, fun x hx => ⟨fun w t ht s => ?_, fun w r hr => ?_⟩, fun v hv => ?_⟩
  · obtain ⟨r, hr, z⟩ := mbr_ex ht s
    rw [h.1] at hr
    rw [← z, ← e x r hr]; exact w r hr
  · rw [e x r hr]; exact w _ (hi r hr).1 (hi r hr).2
  · obtain ⟨x, hx, w, _⟩ := sur5 hq h hv 5 (Nat.le_refl 5)
    exact ⟨x, hx, fun r hr => by rw [e x r hr]; exact w r hr⟩
def sol6 (q : Nat) (S : Nat → Bool) (y : Nat → Nat) : Prop := lt6 q y ∧ thrS q S y ∧ ¬ hdf y 6 = 0
/-- but for a factor there is one -/
theorem thr_one {q : Nat} {S : Nat → Bool} (hq : q ∈ qs) (h : fiv q S) : ∃ x, sol6 q S x ∧ ∀ y, sol6 q S y → ∀ k, k < 6 → tldq q y k = tldq q x k := by
  have hK : KS q (thrS q S) (fun j => trm q (mbr q S (j / 6)) (j % 6)) := KS_thr hq h (fun r k _ hk => by rw [(i6 hk).1, (i6 hk).2])
  obtain ⟨my, pv, rk, fr, hJ⟩ := JG_ex hq hK 6 (Nat.le_refl 6)
  obtain ⟨nb, b1, b2⟩ : ∃ nb : Nat → Nat, nb fr = 1 ∧ ∀ j, j < 5 → nb (pv j) = fneg q (my (j * 6 + fr)) := by
    have E := JG_end hq hJ
    have hx : ∀ n, n ≤ 5 → ∃ nb : Nat → Nat, nb fr = 1 ∧ ∀ j, j < n → nb (pv j) = fneg q (my (j * 6 + fr)) := fun n => by
      induction n with
      | zero => exact fun _ => ⟨fun _ => 1, rfl, fun j hj => absurd hj (Nat.not_lt_zero j)⟩
      | succ n ih =>
        intro hn
        obtain ⟨nb, b1, b2⟩ := ih (by omega)
        refine ⟨upN nb (pv n) (fneg q (my (n * 6 + fr))), by rw [upN_n (fun z => E.2.2.1 n (by omega) z.symm)]; exact b1, fun j hj => ?_⟩
        rcases Nat.lt_succ_iff_lt_or_eq.mp hj with z | z
        · rw [upN_n (fun y => by have := E.2.2.2.2.1 j n (by omega) (by omega) y; omega)]; exact b2 j z
        · rw [z, upN_s]
    exact hx 5 (Nat.le_refl 5)
  have E := JG_end hq hJ
  obtain ⟨c1, c2, c3⟩ := JG_sol hq hJ b1 b2
  have hne : ¬ hdf nb 6 = 0 := fun z => by
    have := hdf_0 z fr E.2.1
    rw [b1] at this; exact absurd this (by decide)
  refine ⟨nb, ⟨c1, c2, hne⟩, fun y hy k hk => ?_⟩
  have e := c3 y hy.1 hy.2.1
  have hf : ¬ y fr = 0 := fun z => hy.2.2 (by
    have : hdf y 6 = hdf (fun _ => 0) 6 := hdf_congr (fun t ht => by rw [e t ht, z, F_0 hq (c1 t ht)])
    rw [this]; rfl)
  rw [tld_congr hk e]
  exact tld_sc hq (hy.1 fr E.2.1) hf c1 hk
noncomputable def thrY (q : Nat) (S : Nat → Bool) : Nat → Nat := Classical.epsilon (sol6 q S)
noncomputable def thrV (q : Nat) (S : Nat → Bool) (k : Nat) : Nat := tldq q (thrY q S) k
theorem thr_V {q k : Nat} {y : Nat → Nat} {S : Nat → Bool} (hq : q ∈ qs) (h : fiv q S) (hy : sol6 q S y) (hk : k < 6) : tldq q y k = thrV q S k := by
  obtain ⟨x, _, u⟩ := thr_one hq h
  have hs : sol6 q S (thrY q S) := Classical.epsilon_spec ⟨y, hy⟩
  rw [thrV, u y hy k hk, u _ hs k hk]
theorem thr_sol {q : Nat} {S : Nat → Bool} (hq : q ∈ qs) (h : fiv q S) : sol6 q S (thrY q S) := by
  obtain ⟨x, hx, _⟩ := thr_one hq h
  exact Classical.epsilon_spec ⟨x, hx⟩

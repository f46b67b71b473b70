theorem mvv_lt {q : Nat} {mm v : Nat → Nat} (hq : q ∈ qs) (hm : MPK q mm) (hv : ltv q v) : ltv q (mvv q mm v) := fun i hi => vdot_lt hq (fun k hk => hm _ (by omega)) hv
theorem mvv_cg {q i : Nat} {mm v w : Nat → Nat} (h : ∀ k, k < 3 → v k = w k) : mvv q mm v i = mvv q mm w i := dot_cr h
theorem mvv_ad {q i : Nat} {mm v w : Nat → Nat} (hq : q ∈ qs) (hm : MPK q mm) (hv : ltv q v) (hw : ltv q w) (hi : i < 3) : mvv q mm (vadd q v w) i = fadd q (mvv q mm v i) (mvv q mm w i) := dot_ar hq hv hw (fun k hk => hm _ (by omega))
theorem mvv_sm {q i s : Nat} {mm v : Nat → Nat} (hq : q ∈ qs) (hm : MPK q mm) (hs : s < q) (hv : ltv q v) (hi : i < 3) : mvv q mm (vsm q s v) i = fmul q s (mvv q mm v i) := dot_sr hq hs hv (fun k hk => hm _ (by omega))
/-- so often -/
def itV (q : Nat) (mm : Nat → Nat) : Nat → (Nat → Nat) → Nat → Nat
  | 0, v => v
  | k + 1, v => mvv q mm (itV q mm k v)
theorem itV_lt {q : Nat} {mm v : Nat → Nat} (hq : q ∈ qs) (hm : MPK q mm) (hv : ltv q v) : ∀ k, ltv q (itV q mm k v)
  | 0 => hv
  | k + 1 => mvv_lt hq hm (itV_lt hq hm hv k)
def nz3 (v : Nat → Nat) : Prop := ¬ (v 0 = 0 ∧ v 1 = 0 ∧ v 2 = 0)
theorem itV_nz {q : Nat} {mm v : Nat → Nat} (hq : q ∈ qs) (hm : MPK q mm) (hd : ¬ detq q mm = 0) (hv : ltv q v) (h : nz3 v) : ∀ k, nz3 (itV q mm k v)
  | 0 => h
  | k + 1 => fun z => by
    have e := v_inj hq hm (itV_lt hq hm hv k) hd z.1 z.2.1 z.2.2
    exact itV_nz hq hm hd hv h k ⟨e 0 (by decide), e 1 (by decide), e 2 (by decide)⟩
theorem itV_cg {q : Nat} {mm v w : Nat → Nat} (h : ∀ k, k < 3 → v k = w k) : ∀ k i, i < 3 → itV q mm k v i = itV q mm k w i
  | 0, i, hi => h i hi
  | k + 1, _, _ => mvv_cg (itV_cg h k)
theorem itV_ad {q : Nat} {mm v w : Nat → Nat} (hq : q ∈ qs) (hm : MPK q mm) (hv : ltv q v) (hw : ltv q w) : ∀ k i, i < 3 → itV q mm k (vadd q v w) i = fadd q (itV q mm k v i) (itV q mm k w i)
  | 0, _, _ => rfl
  | k + 1, _, hi => (mvv_cg (itV_ad hq hm hv hw k)).trans (mvv_ad hq hm (itV_lt hq hm hv k) (itV_lt hq hm hw k) hi)
theorem itV_sm {q s : Nat} {mm v : Nat → Nat} (hq : q ∈ qs) (hm : MPK q mm) (hs : s < q) (hv : ltv q v) : ∀ k i, i < 3 → itV q mm k (vsm q s v) i = fmul q s (itV q mm k v i)
  | 0, _, _ => rfl
  | k + 1, _, hi => (mvv_cg (itV_sm hq hm hs hv k)).trans (mvv_sm hq hm hs (itV_lt hq hm hv k) hi)
def nmv (q : Nat) (v : Nat → Nat) : Nat := nmb q (v 0) (v 1) (v 2)
theorem nmv_sc {q c : Nat} {v w : Nat → Nat} (hq : q ∈ qs) (hc : c < q) (h0 : ¬ c = 0) (hv : ltv q v) (h : ∀ k, k < 3 → w k = fmul q c (v k)) : nmv q w = nmv q v := by
  rw [nmv, nmv, h 0 (by decide), h 1 (by decide), h 2 (by decide)]
  exact (nmb_sc q hq c hc _ (hv 0 (by decide)) _ (hv 1 (by decide)) _ (hv 2 (by decide))).resolve_left h0
theorem pt_nmv {q : Nat} {v : Nat → Nat} (hq : q ∈ qs) (hv : ltv q v) (hn : nz3 v) : ∃ g, g < q ∧ ¬ g = 0 ∧ ∀ k, k < 3 → pt q (nmv q v) k = fmul q g (v k) := by
  have h0 := hv 0 (by decide); have h1 := hv 1 (by decide); have h2 := hv 2 (by decide)
  have hs := nmb_spec hq h0 h1 h2 hn rfl
  have hf : fs3 (v 0) (v 1) (v 2) < q ∧ ¬ fs3 (v 0) (v 1) (v 2) = 0 := by
    rw [fs3]
    split
    · exact ⟨h0, by assumption⟩
    · split
      · exact ⟨h1, by assumption⟩
      · exact ⟨h2, fun z => hn ⟨by omega, by omega, z⟩⟩
  refine ⟨finv q (fs3 (v 0) (v 1) (v 2)), finv_lt hq hf.1, (F_z q hq 0 (by have := qs_le hq; omega) _ hf.1).2 hf.2, ?_⟩
  intro k hk
  match k, hk with
  | 0, _ => exact hs.1.trans (F_comm hq h0 (finv_lt hq hf.1))
  | 1, _ => exact hs.2.1.trans (F_comm hq h1 (finv_lt hq hf.1))
  | 2, _ => exact hs.2.2.trans (F_comm hq h2 (finv_lt hq hf.1))
theorem imq_lt {q p : Nat} {mm : Nat → Nat} (hq : q ∈ qs) (hm : MPK q mm) (hp : p < nn q) : imq q mm p < nn q := nmb_tab q hq _ (mpt_lt hq hm hp (by decide)) _ (mpt_lt hq hm hp (by decide)) _ (mpt_lt hq hm hp (by decide))
theorem itI_lt {q p : Nat} {mm : Nat → Nat} (hq : q ∈ qs) (hm : MPK q mm) (hp : p < nn q) : ∀ k, itI q mm k p < nn q
  | 0 => hp
  | k + 1 => imq_lt hq hm (itI_lt hq hm hp k)
theorem pt_nz {q p : Nat} (hq : q ∈ qs) (hp : p < nn q) : nz3 (pt q p) := pt_ne q hq p hp
/-- the points go as their triples -/
theorem itI_V {q p : Nat} {mm : Nat → Nat} (hq : q ∈ qs) (hm : MPK q mm) (hd : ¬ detq q mm = 0) (hp : p < nn q) : ∀ k, itI q mm k p = nmv q (itV q mm k (pt q p))
  | 0 => (nmb_pt q hq p hp).symm
  | k + 1 => by
    have hv := itV_lt hq hm (ptv hq hp) k
    obtain ⟨g, hg, hg0, e⟩ := pt_nmv hq hv (itV_nz hq hm hd (ptv hq hp) (pt_nz hq hp) k)
    show nmv q (mvv q mm (pt q (itI q mm k p))) = nmv q (mvv q mm (itV q mm k (pt q p)))
    rw [itI_V hq hm hd hp k]
    exact nmv_sc hq hg hg0 (mvv_lt hq hm hv) (fun i hi => (mvv_cg e).trans (mvv_sm hq hm hg hv hi))
theorem fix_V {q p k : Nat} {mm : Nat → Nat} (hq : q ∈ qs) (hm : MPK q mm) (hd : ¬ detq q mm = 0) (hp : p < nn q) (h : itI q mm k p = p) : ∃ c, c < q ∧ ∀ i, i < 3 → itV q mm k (pt q p) i = fmul q c (pt q p i) := by
  have hv := itV_lt hq hm (ptv hq hp) k
  obtain ⟨g, hg, hg0, e⟩ := pt_nmv hq hv (itV_nz hq hm hd (ptv hq hp) (pt_nz hq hp) k)
  rw [← itI_V hq hm hd hp k, h] at e
  exact ⟨finv q g, finv_lt hq hg, fun i hi => ((F_dm q hq _ (hv i hi) _ (pt_lt hq hp hi) g hg).resolve_left hg0).resolve_left (fun z => z (by rw [e i hi]; exact F_comm hq (hv i hi) hg))⟩
theorem V_fix {q p k c : Nat} {mm : Nat → Nat} (hq : q ∈ qs) (hm : MPK q mm) (hd : ¬ detq q mm = 0) (hp : p < nn q) (hc : c < q) (h : ∀ i, i < 3 → itV q mm k (pt q p) i = fmul q c (pt q p i)) : itI q mm k p = p := by
  have h0 : ¬ c = 0 := fun z => itV_nz hq hm hd (ptv hq hp) (pt_nz hq hp) k (by
    rw [z] at h
    exact ⟨(h 0 (by decide)).trans (F_0 hq (pt_lt hq hp (by decide))), (h 1 (by decide)).trans (F_0 hq (pt_lt hq hp (by decide))), (h 2 (by decide)).trans (F_0 hq (pt_lt hq hp (by decide)))⟩)
  rw [itI_V hq hm hd hp k, nmv_sc hq hc h0 (ptv hq hp) h]
  exact nmb_pt q hq p hp
/-- what leaves the frame's points where they are is a multiple -/
theorem fx_V {q k : Nat} {mm : Nat → Nat} (hq : q ∈ qs) (hm : MPK q mm) (hd : ¬ detq q mm = 0) (h : FXq q mm k) : ∃ c, c < q ∧ ∀ v, ltv q v → ∀ i, i < 3 → itV q mm k v i = fmul q c (v i) := by
  have hlq := last_tab q hq
  have hn := nn_le hq
  have hq1 : 1 < q := by have := qs_le hq; omega
  obtain ⟨c3, h3, e3⟩ := fix_V hq hm hd (by omega) h.1
  obtain ⟨c2, h2, e2⟩ := fix_V hq hm hd (by omega) h.2.1
  obtain ⟨c1, h1, e1⟩ := fix_V hq hm hd hlq.2.2 h.2.2.1
  obtain ⟨c, hc, e⟩ := fix_V hq hm hd hlq.2.1 h.2.2.2
  have p0 : ltv q (pt q 0) := ptv hq (by omega)
  have p1 : ltv q (pt q 1) := ptv hq (by omega)
  have p2 : ltv q (pt q (1 + q)) := ptv hq hlq.2.2
  have key : ∀ v, ltv q v → itV q mm k v 0 = fmul q c1 (v 0) ∧ itV q mm k v 1 = fmul q c2 (v 1) ∧ itV q mm k v 2 = fmul q c3 (v 2) := fun v hv => by
    have hv0 := hv 0 (by decide); have hv1 := hv 1 (by decide); have hv2 := hv 2 (by decide)
    have f := pt_e q hq _ hv0 _ hv1 _ hv2
    have ev : ∀ i, i < 3 → v i = cmb q (1 + q) 1 0 (v 0) (v 1) (v 2) i := fun i hi => by
      match i, hi with
      | 0, _ => exact f.1.symm
      | 1, _ => exact f.2.1.symm
      | 2, _ => exact f.2.2.symm
    have l1 := vsm_lt hq hv0 p2; have l2 := vsm_lt hq hv1 p1; have l3 := vsm_lt hq hv2 p0
    have w : ∀ i, i < 3 → itV q mm k v i = cmb q (1 + q) 1 0 (fmul q c1 (v 0)) (fmul q c2 (v 1)) (fmul q c3 (v 2)) i := fun i hi => by
      rw [itV_cg ev k i hi, cmb, itV_ad hq hm (vadd_lt hq l1 l2) l3 k i hi, itV_ad hq hm l1 l2 k i hi, itV_sm hq hm hv0 p2 k i hi, itV_sm hq hm hv1 p1 k i hi, itV_sm hq hm hv2 p0 k i hi, e1 i hi, e2 i hi, e3 i hi, cmb, vadd, vadd, vsm, vsm, vsm, ← F_ma hq hv0 h1 (p2 i hi), ← F_ma hq hv1 h2 (p1 i hi), ← F_ma hq hv2 h3 (p0 i hi), F_comm hq hv0 h1, F_comm hq hv1 h2, F_comm hq hv2 h3]
    have g := pt_e q hq _ (fmul_lt hq h1 hv0) _ (fmul_lt hq h2 hv1) _ (fmul_lt hq h3 hv2)
    exact ⟨(w 0 (by decide)).trans g.1, (w 1 (by decide)).trans g.2.1, (w 2 (by decide)).trans g.2.2⟩
  have kl := key _ (ptv hq hlq.2.1)
  have pl := pt_l q hq
  have m1 : ∀ a, a < q → fmul q a 1 = a := fun a ha => (F_t1 q hq a ha).2.2.2.2.1
  rw [e 0 (by decide), e 1 (by decide), e 2 (by decide), pl.1, pl.2.1, pl.2.2, m1 c hc, m1 c1 h1, m1 c2 h2, m1 c3 h3] at kl
  refine ⟨c, hc, fun v hv i hi => ?_⟩
  have := key v hv
  match i, hi with
  | 0, _ => rw [kl.1]; exact this.1
  | 1, _ => rw [kl.2.1]; exact this.2.1
  | 2, _ => rw [kl.2.2]; exact this.2.2
theorem fx_all {q k : Nat} {mm : Nat → Nat} (hq : q ∈ qs) (hm : MPK q mm) (hd : ¬ detq q mm = 0) (h : FXq q mm k) : ∀ t, t < nn q → itI q mm k t = t := fun t ht => by
  obtain ⟨c, hc, e⟩ := fx_V hq hm hd h
  exact V_fix hq hm hd ht hc (e _ (ptv hq ht))
theorem all_fx {q k : Nat} {mm : Nat → Nat} (hq : q ∈ qs) (h : ∀ t, t < nn q → itI q mm k t = t) : FXq q mm k := by
  have hlq := last_tab q hq
  have hn := nn_le hq
  exact ⟨h 0 (by omega), h 1 (by omega), h _ hlq.2.2, h _ hlq.2.1⟩
/-- the powers by the first three: how the three numbers go on -/
def cst (q t s d : Nat) (p : Nat × Nat × Nat) : Nat × Nat × Nat := (fmul q d p.2.2, fsub q p.1 (fmul q s p.2.2), fadd q p.2.1 (fmul q t p.2.2))
def itc (q t s d : Nat) : Nat → Nat × Nat × Nat → Nat × Nat × Nat
  | 0, p => p
  | k + 1, p => itc q t s d k (cst q t s d p)
theorem itc_s {q t s d : Nat} : ∀ k p, itc q t s d (k + 1) p = cst q t s d (itc q t s d k p)
  | 0, _ => rfl
  | k + 1, p => itc_s k (cst q t s d p)
theorem cyS_ok {q t s d : Nat} : ∀ f x y z, cyS q t s d f x y z = true → ∃ k, k < f ∧ (itc q t s d (k + 1) (x, y, z)).2.1 = 0 ∧ (itc q t s d (k + 1) (x, y, z)).2.2 = 0
  | 0, _, _, _, h => by cases h
  | f + 1, x, y, z, h => by
    have h1 := forc_t (forc_t (forc_t h))
    rw [Bool.or_eq_true, Bool.and_eq_true, beq_iff_eq, beq_iff_eq] at h1
    rcases h1 with h1 | h1
    · exact ⟨0, Nat.succ_pos f, h1⟩
    · obtain ⟨k, hk, e⟩ := cyS_ok f _ _ _ h1
      exact ⟨k + 1, Nat.succ_lt_succ hk, e⟩
theorem R_cy {R : Type} (I : Lean.Grind.CommRing R) (x y z t s d a b c e : R) (h : e = t * c - s * b + d * a) : x * b + y * c + z * e = (d * z) * a + (x - s * z) * b + (y + t * z) * c := by grind
theorem N_cy {q x y z t s d a b c e : Nat} (hq : q ∈ qs) (hx : x < q) (hy : y < q) (hz : z < q) (ht : t < q) (hs : s < q) (hd : d < q) (ha : a < q) (hb : b < q) (hc : c < q) (he : e < q) (h : e = fadd q (fsub q (fmul q t c) (fmul q s b)) (fmul q d a)) : fadd q (fadd q (fmul q x b) (fmul q y c)) (fmul q z e) = fadd q (fadd q (fmul q (fmul q d z) a) (fmul q (fsub q x (fmul q s z)) b)) (fmul q (fadd q y (fmul q t z)) c) := congrArg Subtype.val (R_cy (fqR hq) ⟨x, hx⟩ ⟨y, hy⟩ ⟨z, hz⟩ ⟨t, ht⟩ ⟨s, hs⟩ ⟨d, hd⟩ ⟨a, ha⟩ ⟨b, hb⟩ ⟨c, hc⟩ ⟨e, he⟩ (Subtype.ext h))
theorem trq_lt {q : Nat} {mm : Nat → Nat} (hq : q ∈ qs) (hm : MPK q mm) : trq q mm < q := fadd_lt hq (fadd_lt hq (hm 0 (by decide)) (hm 4 (by decide))) (hm 8 (by decide))
theorem miq_lt {q : Nat} {mm : Nat → Nat} (hq : q ∈ qs) (hm : MPK q mm) : miq q mm < q := fadd_lt hq (fadd_lt hq (fsub_lt hq (fmul_lt hq (hm 0 (by decide)) (hm 4 (by decide))) (fmul_lt hq (hm 1 (by decide)) (hm 3 (by decide)))) (fsub_lt hq (fmul_lt hq (hm 0 (by decide)) (hm 8 (by decide))) (fmul_lt hq (hm 2 (by decide)) (hm 6 (by decide))))) (fsub_lt hq (fmul_lt hq (hm 4 (by decide)) (hm 8 (by decide))) (fmul_lt hq (hm 5 (by decide)) (hm 7 (by decide))))
theorem itc_lt {q t s d : Nat} (hq : q ∈ qs) (ht : t < q) (hs : s < q) (hd : d < q) : ∀ k, (itc q t s d k (1, 0, 0)).1 < q ∧ (itc q t s d k (1, 0, 0)).2.1 < q ∧ (itc q t s d k (1, 0, 0)).2.2 < q
  | 0 => by have := qs_le hq; exact ⟨show 1 < q by omega, show 0 < q by omega, show 0 < q by omega⟩
  | k + 1 => by
    have h := itc_lt hq ht hs hd k
    rw [itc_s]
    exact ⟨fmul_lt hq hd h.2.2, fsub_lt hq h.1 (fmul_lt hq hs h.2.2), fadd_lt hq h.2.1 (fmul_lt hq ht h.2.2)⟩
theorem it_c {q : Nat} {mm v : Nat → Nat} (hq : q ∈ qs) (hm : MPK q mm) (hv : ltv q v) : ∀ k i, i < 3 → itV q mm k v i = vadd q (vadd q (vsm q (itc q (trq q mm) (miq q mm) (detq q mm) k (1, 0, 0)).1 v) (vsm q (itc q (trq q mm) (miq q mm) (detq q mm) k (1, 0, 0)).2.1 (mvv q mm v))) (vsm q (itc q (trq q mm) (miq q mm) (detq q mm) k (1, 0, 0)).2.2 (mvv q mm (mvv q mm v))) i
  | 0, i, hi => by
    have hb := mvv_lt hq hm hv; have hc := mvv_lt hq hm hb
    show v i = fadd q (fadd q (fmul q 1 (v i)) (fmul q 0 (mvv q mm v i))) (fmul q 0 (mvv q mm (mvv q mm v) i))
    rw [F_0 hq (hb i hi), F_0 hq (hc i hi), (F_t1 q hq _ (hv i hi)).2.2.2.2.2.1, F_a0 hq (hv i hi), F_a0 hq (hv i hi)]
  | k + 1, i, hi => by
    have hb := mvv_lt hq hm hv; have hc := mvv_lt hq hm hb; have he := mvv_lt hq hm hc
    have hl := itc_lt hq (trq_lt hq hm) (miq_lt hq hm) (detq_lt hq hm) k
    have e1 : itV q mm (k + 1) v i = _ := mvv_cg (it_c hq hm hv k)
    have l1 := vsm_lt hq hl.1 hv; have l2 := vsm_lt hq hl.2.1 hb; have l3 := vsm_lt hq hl.2.2 hc
    rw [mvv_ad hq hm (vadd_lt hq l1 l2) l3 hi, mvv_ad hq hm l1 l2 hi, mvv_sm hq hm hl.1 hv hi, mvv_sm hq hm hl.2.1 hb hi, mvv_sm hq hm hl.2.2 hc hi] at e1
    rw [e1, itc_s]
    exact N_cy hq hl.1 hl.2.1 hl.2.2 (trq_lt hq hm) (miq_lt hq hm) (detq_lt hq hm) (hv i hi) (hb i hi) (hc i hi) (he i hi) (v_ch hq hm hv i hi)
/-- within nn q times all is as it was -/
theorem ord_ex {q : Nat} {mm : Nat → Nat} (hq : q ∈ qs) (hm : MPK q mm) (hd : ¬ detq q mm = 0) : ∃ k, 0 < k ∧ k ≤ nn q ∧ FXq q mm k := by
  obtain ⟨k, hk, h1, h2⟩ := cyS_ok _ _ _ _ ((cy_tab q hq _ (trq_lt hq hm) _ (miq_lt hq hm) _ (detq_lt hq hm)).resolve_left hd)
  have hl := itc_lt hq (trq_lt hq hm) (miq_lt hq hm) (detq_lt hq hm) (k + 1)
  refine ⟨k + 1, Nat.succ_pos k, hk, all_fx hq (fun t ht => V_fix hq hm hd ht hl.1 (fun i hi => ?_))⟩
  have hv := ptv hq ht; have hb := mvv_lt hq hm hv; have hc := mvv_lt hq hm hb
  rw [it_c hq hm hv (k + 1) i hi, vadd, vadd, vsm, vsm, vsm, h1, h2, F_0 hq (hb i hi), F_0 hq (hc i hi), F_a0 hq (fmul_lt hq hl.1 (hv i hi)), F_a0 hq (fmul_lt hq hl.1 (hv i hi))]
theorem least {P : Nat → Prop} : ∀ n, (∃ k, 0 < k ∧ k ≤ n ∧ P k) → ∃ m, 0 < m ∧ m ≤ n ∧ P m ∧ ∀ k, 0 < k → k < m → ¬ P k
  | 0, ⟨k, h0, h1, _⟩ => absurd h0 (by omega)
  | n + 1, ⟨k, h0, h1, h2⟩ => by
    by_cases z : ∃ k, 0 < k ∧ k ≤ n ∧ P k
    · obtain ⟨m, a, b, c, d⟩ := least n z
      exact ⟨m, a, Nat.le_succ_of_le b, c, d⟩
    · exact ⟨k, h0, h1, h2, fun j a b c => z ⟨j, a, by omega, c⟩⟩
noncomputable def ordq (q : Nat) (mm : Nat → Nat) : Nat := Classical.epsilon (fun m => 0 < m ∧ m ≤ nn q ∧ FXq q mm m ∧ ∀ k, 0 < k → k < m → ¬ FXq q mm k)
theorem ord_spec {q : Nat} {mm : Nat → Nat} (hq : q ∈ qs) (hm : MPK q mm) (hd : ¬ detq q mm = 0) : 0 < ordq q mm ∧ ordq q mm ≤ nn q ∧ FXq q mm (ordq q mm) ∧ ∀ k, 0 < k → k < ordq q mm → ¬ FXq q mm k := Classical.epsilon_spec (least (nn q) (ord_ex hq hm hd))
noncomputable def ordZ (q : Nat) (mm : Nat → Nat) : Int32 := if detq q mm = 0 then -3 else nI (ordq q mm)
theorem img_im {q : Nat} {mm : Nat → Nat} (hq : q ∈ qs) (hm : MPK q mm) (hd : ¬ detq q mm = 0) : ∀ t, t < nn q → imgZ q mm t = nI (imq q mm t) ∧ imq q mm t < nn q := fun t ht => by
  refine ⟨?_, imq_lt hq hm ht⟩
  have := mpt_ne hq hm ht hd
  rw [imgZ, nmZ, if_pos (by omega)]; rfl
theorem ms_t {a n : Nat} (h : 2 * a + (!false).toNat < n + 1) : 2 * a + (!true).toNat < n := by
  have e : (!false).toNat = 1 := rfl
  have e2 : (!true).toNat = 0 := rfl
  omega
theorem ms_f {a b n : Nat} (h : 2 * a + (!false).toNat < n + 1) (hb : b < a) : 2 * b + (!false).toNat < n := by
  have e : (!false).toNat = 1 := rfl
  omega

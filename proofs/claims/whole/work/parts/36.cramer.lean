theorem F_sub4 : ∀ q ∈ qs, ∀ a, a < q → ∀ b, b < q → ∀ c, c < q → ∀ d, d < q → fsub q (fadd q a b) (fadd q c d) = fadd q (fsub q a c) (fsub q b d) := by decide +kernel
theorem F_sms : ∀ q ∈ qs, ∀ s, s < q → ∀ a, a < q → ∀ b, b < q → fsub q (fmul q s a) (fmul q s b) = fmul q s (fsub q a b) := by decide +kernel
theorem F_lc : ∀ q ∈ qs, ∀ s, s < q → ∀ a, a < q → ∀ b, b < q → fmul q a (fmul q s b) = fmul q s (fmul q a b) := by decide +kernel
def vadd (q : Nat) (x y : Nat → Nat) (k : Nat) : Nat := fadd q (x k) (y k)
def vsm (q s : Nat) (x : Nat → Nat) (k : Nat) : Nat := fmul q s (x k)
theorem vadd_lt {q : Nat} {x y : Nat → Nat} (hq : q ∈ qs) (hx : ltv q x) (hy : ltv q y) : ltv q (vadd q x y) := fun k hk => fadd_lt hq (hx k hk) (hy k hk)
theorem vsm_lt {q s : Nat} {x : Nat → Nat} (hq : q ∈ qs) (hs : s < q) (hx : ltv q x) : ltv q (vsm q s x) := fun k hk => fmul_lt hq hs (hx k hk)
theorem cr_lt {q : Nat} {x y : Nat → Nat} (hq : q ∈ qs) (hx : ltv q x) (hy : ltv q y) : ltv q (vcr q x y) := fun _ _ => vcr_lt hq hx hy
/-- the cross product is linear on both sides -/
theorem cr_al {q k : Nat} {x y w : Nat → Nat} (hq : q ∈ qs) (hx : ltv q x) (hy : ltv q y) (hw : ltv q w) : vcr q (vadd q x y) w k = fadd q (vcr q x w k) (vcr q y w k) := by
  have h1 := Nat.mod_lt (k + 1) (show 0 < 3 by decide); have h2 := Nat.mod_lt (k + 2) (show 0 < 3 by decide)
  rw [vcr, vcr, vcr, fcw, fcw, fcw, vadd, vadd, F_rd hq (hx _ h1) (hy _ h1) (hw _ h2), F_rd hq (hx _ h2) (hy _ h2) (hw _ h1)]
  exact F_sub4 q hq _ (fmul_lt hq (hx _ h1) (hw _ h2)) _ (fmul_lt hq (hy _ h1) (hw _ h2)) _ (fmul_lt hq (hx _ h2) (hw _ h1)) _ (fmul_lt hq (hy _ h2) (hw _ h1))
theorem cr_sl {q s k : Nat} {x w : Nat → Nat} (hq : q ∈ qs) (hs : s < q) (hx : ltv q x) (hw : ltv q w) : vcr q (vsm q s x) w k = fmul q s (vcr q x w k) := by
  have h1 := Nat.mod_lt (k + 1) (show 0 < 3 by decide); have h2 := Nat.mod_lt (k + 2) (show 0 < 3 by decide)
  rw [vcr, vcr, fcw, fcw, vsm, vsm, F_ma hq hs (hx _ h1) (hw _ h2), F_ma hq hs (hx _ h2) (hw _ h1)]
  exact F_sms q hq s hs _ (fmul_lt hq (hx _ h1) (hw _ h2)) _ (fmul_lt hq (hx _ h2) (hw _ h1))
theorem cr_ar {q k : Nat} {x y w : Nat → Nat} (hq : q ∈ qs) (hx : ltv q x) (hy : ltv q y) (hw : ltv q w) : vcr q w (vadd q x y) k = fadd q (vcr q w x k) (vcr q w y k) := by
  have h1 := Nat.mod_lt (k + 1) (show 0 < 3 by decide); have h2 := Nat.mod_lt (k + 2) (show 0 < 3 by decide)
  rw [vcr, vcr, vcr, fcw, fcw, fcw, vadd, vadd, F_ld hq (hw _ h1) (hx _ h2) (hy _ h2), F_ld hq (hw _ h2) (hx _ h1) (hy _ h1)]
  exact F_sub4 q hq _ (fmul_lt hq (hw _ h1) (hx _ h2)) _ (fmul_lt hq (hw _ h1) (hy _ h2)) _ (fmul_lt hq (hw _ h2) (hx _ h1)) _ (fmul_lt hq (hw _ h2) (hy _ h1))
theorem cr_sr {q s k : Nat} {x w : Nat → Nat} (hq : q ∈ qs) (hs : s < q) (hx : ltv q x) (hw : ltv q w) : vcr q w (vsm q s x) k = fmul q s (vcr q w x k) := by
  have h1 := Nat.mod_lt (k + 1) (show 0 < 3 by decide); have h2 := Nat.mod_lt (k + 2) (show 0 < 3 by decide)
  rw [vcr, vcr, fcw, fcw, vsm, vsm, F_lc q hq s hs _ (hw _ h1) _ (hx _ h2), F_lc q hq s hs _ (hw _ h2) _ (hx _ h1)]
  exact F_sms q hq s hs _ (fmul_lt hq (hw _ h1) (hx _ h2)) _ (fmul_lt hq (hw _ h2) (hx _ h1))
theorem dot_ar {q : Nat} {x y w : Nat → Nat} (hq : q ∈ qs) (hx : ltv q x) (hy : ltv q y) (hw : ltv q w) : vdot q w (vadd q x y) = fadd q (vdot q w x) (vdot q w y) := by
  rw [dot_com hq hw (vadd_lt hq hx hy), dot_com hq hw hx, dot_com hq hw hy]; exact lin_add hq hx hy hw
theorem dot_sr {q s : Nat} {x w : Nat → Nat} (hq : q ∈ qs) (hs : s < q) (hx : ltv q x) (hw : ltv q w) : vdot q w (vsm q s x) = fmul q s (vdot q w x) := by
  rw [dot_com hq hw (vsm_lt hq hs hx), dot_com hq hw hx]; exact lin_mul hq hs hx hw
theorem dot_cr {q : Nat} {x y w : Nat → Nat} (h : ∀ k, k < 3 → x k = y k) : vdot q w x = vdot q w y := by rw [vdot, vdot, h 0 (by decide), h 1 (by decide), h 2 (by decide)]
theorem cr_cl {q k : Nat} {x y w : Nat → Nat} (h : ∀ k, k < 3 → x k = y k) : vcr q x w k = vcr q y w k := by
  rw [vcr, vcr, h _ (Nat.mod_lt _ (by decide)), h _ (Nat.mod_lt _ (by decide))]
theorem cr_cr {q k : Nat} {x y w : Nat → Nat} (h : ∀ k, k < 3 → x k = y k) : vcr q w x k = vcr q w y k := by
  rw [vcr, vcr, h _ (Nat.mod_lt _ (by decide)), h _ (Nat.mod_lt _ (by decide))]
theorem cr_self : ∀ q ∈ qs, ∀ i, i < nn q → vcr q (pt q i) (pt q i) 0 = 0 ∧ vcr q (pt q i) (pt q i) 1 = 0 ∧ vcr q (pt q i) (pt q i) 2 = 0 := by decide +kernel
/-- d is s a + t b + u c -/
def sol3 (q a b c d s t u : Nat) : Prop := ∀ k, k < 3 → fadd q (fadd q (fmul q s (pt q a k)) (fmul q t (pt q b k))) (fmul q u (pt q c k)) = pt q d k
def cmb (q a b c s t u : Nat) : Nat → Nat := vadd q (vadd q (vsm q s (pt q a)) (vsm q t (pt q b))) (vsm q u (pt q c))
theorem cmb_lt {q a b c s t u : Nat} (hq : q ∈ qs) (ha : a < nn q) (hb : b < nn q) (hc : c < nn q) (hs : s < q) (ht : t < q) (hu : u < q) : ltv q (cmb q a b c s t u) := vadd_lt hq (vadd_lt hq (vsm_lt hq hs (ptv hq ha)) (vsm_lt hq ht (ptv hq hb))) (vsm_lt hq hu (ptv hq hc))
theorem dot_cmb {q a b c s t u : Nat} {w : Nat → Nat} (hq : q ∈ qs) (ha : a < nn q) (hb : b < nn q) (hc : c < nn q) (hs : s < q) (ht : t < q) (hu : u < q) (hw : ltv q w) : vdot q (cmb q a b c s t u) w = fadd q (fadd q (fmul q s (vdot q (pt q a) w)) (fmul q t (vdot q (pt q b) w))) (fmul q u (vdot q (pt q c) w)) := by
  have h1 := vsm_lt hq hs (ptv hq ha); have h2 := vsm_lt hq ht (ptv hq hb); have h3 := vsm_lt hq hu (ptv hq hc)
  have e1 : vdot q (cmb q a b c s t u) w = fadd q (vdot q (vadd q (vsm q s (pt q a)) (vsm q t (pt q b))) w) (vdot q (vsm q u (pt q c)) w) := lin_add hq (vadd_lt hq h1 h2) h3 hw
  have e2 : vdot q (vadd q (vsm q s (pt q a)) (vsm q t (pt q b))) w = fadd q (vdot q (vsm q s (pt q a)) w) (vdot q (vsm q t (pt q b)) w) := lin_add hq h1 h2 hw
  have e3 : vdot q (vsm q s (pt q a)) w = fmul q s (vdot q (pt q a) w) := lin_mul hq hs (ptv hq ha) hw
  have e4 : vdot q (vsm q t (pt q b)) w = fmul q t (vdot q (pt q b) w) := lin_mul hq ht (ptv hq hb) hw
  have e5 : vdot q (vsm q u (pt q c)) w = fmul q u (vdot q (pt q c) w) := lin_mul hq hu (ptv hq hc) hw
  rw [e1, e2, e3, e4, e5]
theorem F_m0 {q a : Nat} (hq : q ∈ qs) (ha : a < q) : fmul q a 0 = 0 := (F_t1 q hq a ha).2.2.2.2.2.2.1
theorem F_a0 {q a : Nat} (hq : q ∈ qs) (ha : a < q) : fadd q a 0 = a := (F_t1 q hq a ha).2.2.1
/-- s by the first line, t and u by the others -/
theorem cmb_s {q a b c s t u : Nat} (hq : q ∈ qs) (ha : a < nn q) (hb : b < nn q) (hc : c < nn q) (hs : s < q) (ht : t < q) (hu : u < q) : vdot q (cmb q a b c s t u) (vcr q (pt q b) (pt q c)) = fmul q s (vdet q (pt q a) (pt q b) (pt q c)) := by
  have hv := vdet_lt hq (ptv hq ha) (ptv hq hb) (ptv hq hc)
  have o := ortho q hq b hb c hc
  rw [dot_cmb hq ha hb hc hs ht hu (cr_lt hq (ptv hq hb) (ptv hq hc)), o.1, o.2.1, F_m0 hq ht, F_m0 hq hu]
  show fadd q (fadd q (fmul q s (vdet q (pt q a) (pt q b) (pt q c))) 0) 0 = _
  rw [F_a0 hq (fmul_lt hq hs hv), F_a0 hq (fmul_lt hq hs hv)]
theorem cmb_t {q a b c s t u : Nat} (hq : q ∈ qs) (ha : a < nn q) (hb : b < nn q) (hc : c < nn q) (hs : s < q) (ht : t < q) (hu : u < q) : vdot q (pt q a) (vcr q (cmb q a b c s t u) (pt q c)) = fmul q t (vdet q (pt q a) (pt q b) (pt q c)) := by
  have pa := ptv hq ha; have pb := ptv hq hb; have pc := ptv hq hc
  have h1 := vsm_lt hq hs pa; have h2 := vsm_lt hq ht pb; have h3 := vsm_lt hq hu pc
  have hv := vdet_lt hq pa pb pc
  have e : ∀ k, k < 3 → vcr q (cmb q a b c s t u) (pt q c) k = vadd q (vadd q (vsm q s (vcr q (pt q a) (pt q c))) (vsm q t (vcr q (pt q b) (pt q c)))) (vsm q u (vcr q (pt q c) (pt q c))) k := fun k _ => by
    rw [cmb, cr_al hq (vadd_lt hq h1 h2) h3 pc, cr_al hq h1 h2 pc, cr_sl hq hs pa pc, cr_sl hq ht pb pc, cr_sl hq hu pc pc]; rfl
  have la := vsm_lt hq hs (cr_lt hq pa pc); have lb := vsm_lt hq ht (cr_lt hq pb pc); have lc := vsm_lt hq hu (cr_lt hq pc pc)
  have z : vdot q (pt q a) (vcr q (pt q c) (pt q c)) = 0 := (ortho q hq a ha c hc).2.2
  rw [dot_cr e, dot_ar hq (vadd_lt hq la lb) lc pa, dot_ar hq la lb pa, dot_sr hq hs (cr_lt hq pa pc) pa, dot_sr hq ht (cr_lt hq pb pc) pa, dot_sr hq hu (cr_lt hq pc pc) pa, (ortho q hq a ha c hc).1, z, F_m0 hq hs, F_m0 hq hu]
  show fadd q (fadd q 0 (fmul q t (vdet q (pt q a) (pt q b) (pt q c)))) 0 = _
  rw [fadd_0l hq (fmul_lt hq ht hv), F_a0 hq (fmul_lt hq ht hv)]
theorem cmb_u {q a b c s t u : Nat} (hq : q ∈ qs) (ha : a < nn q) (hb : b < nn q) (hc : c < nn q) (hs : s < q) (ht : t < q) (hu : u < q) : vdot q (pt q a) (vcr q (pt q b) (cmb q a b c s t u)) = fmul q u (vdet q (pt q a) (pt q b) (pt q c)) := by
  have pa := ptv hq ha; have pb := ptv hq hb; have pc := ptv hq hc
  have h1 := vsm_lt hq hs pa; have h2 := vsm_lt hq ht pb; have h3 := vsm_lt hq hu pc
  have hv := vdet_lt hq pa pb pc
  have e : ∀ k, k < 3 → vcr q (pt q b) (cmb q a b c s t u) k = vadd q (vadd q (vsm q s (vcr q (pt q b) (pt q a))) (vsm q t (vcr q (pt q b) (pt q b)))) (vsm q u (vcr q (pt q b) (pt q c))) k := fun k _ => by
    rw [cmb, cr_ar hq (vadd_lt hq h1 h2) h3 pb, cr_ar hq h1 h2 pb, cr_sr hq hs pa pb, cr_sr hq ht pb pb, cr_sr hq hu pc pb]; rfl
  have la := vsm_lt hq hs (cr_lt hq pb pa); have lb := vsm_lt hq ht (cr_lt hq pb pb); have lc := vsm_lt hq hu (cr_lt hq pb pc)
  have z : vdot q (pt q a) (vcr q (pt q b) (pt q b)) = 0 := (ortho q hq a ha b hb).2.2
  rw [dot_cr e, dot_ar hq (vadd_lt hq la lb) lc pa, dot_ar hq la lb pa, dot_sr hq hs (cr_lt hq pb pa) pa, dot_sr hq ht (cr_lt hq pb pb) pa, dot_sr hq hu (cr_lt hq pb pc) pa, (ortho q hq b hb a ha).2.1, z, F_m0 hq hs, F_m0 hq ht]
  show fadd q (fadd q 0 0) (fmul q u (vdet q (pt q a) (pt q b) (pt q c))) = _
  rw [fadd_0l hq (by have := qs_le hq; omega), fadd_0l hq (fmul_lt hq hu hv)]
/-- Cramer: the columns of the class are those of the reference, so often -/
theorem cramer {q a b c d s t u : Nat} (hq : q ∈ qs) (ha : a < nn q) (hb : b < nn q) (hc : c < nn q) (hs : s < q) (ht : t < q) (hu : u < q) (h : sol3 q a b c d s t u) : ∀ k, k < 9 → frc q a b c d k = fmul q (vdet q (pt q a) (pt q b) (pt q c)) (colq q s t u a b c k) := by
  have hv := vdet_lt hq (ptv hq ha) (ptv hq hb) (ptv hq hc)
  have e : ∀ k, k < 3 → pt q d k = cmb q a b c s t u k := fun k hk => (h k hk).symm
  have e1 : vdet q (pt q d) (pt q b) (pt q c) = fmul q s (vdet q (pt q a) (pt q b) (pt q c)) := (dot_congr e).trans (cmb_s hq ha hb hc hs ht hu)
  have e2 : vdet q (pt q a) (pt q d) (pt q c) = fmul q t (vdet q (pt q a) (pt q b) (pt q c)) := (dot_cr (fun k _ => cr_cl e)).trans (cmb_t hq ha hb hc hs ht hu)
  have e3 : vdet q (pt q a) (pt q b) (pt q d) = fmul q u (vdet q (pt q a) (pt q b) (pt q c)) := (dot_cr (fun k _ => cr_cr e)).trans (cmb_u hq ha hb hc hs ht hu)
  intro k hk
  have key : ∀ x y, x < q → y < q → fmul q (fmul q x (vdet q (pt q a) (pt q b) (pt q c))) y = fmul q (vdet q (pt q a) (pt q b) (pt q c)) (fmul q x y) := fun x y hx hy => by
    rw [F_comm hq hx hv, F_ma hq hv hx hy]
  rw [frc, colq, colq, e1, e2, e3]
  have h3 : k % 3 = 0 ∨ k % 3 = 1 ∨ k % 3 = 2 := by omega
  rcases h3 with z | z | z <;> rw [z]
  · exact key s _ hs (pt_lt hq ha (by omega))
  · exact key t _ ht (pt_lt hq hb (by omega))
  · exact key u _ hu (pt_lt hq hc (by omega))
/-- what hits and never twice hits all -/
theorem pigeon {n : Nat} {f : Nat → Nat} (h1 : ∀ x, x < n → f x < n) (h2 : ∀ x y, x < n → y < n → f x = f y → x = y) : ∀ y, y < n → ∃ x, x < n ∧ f x = y := by
  have hx : ∀ m, m ≤ n → ∃ G : Nat → Bool, cnt G n = m ∧ ∀ y, y < n → (G y = true ↔ ∃ x, x < m ∧ f x = y) := fun m => by
    induction m with
    | zero => exact fun _ => ⟨fun _ => false, cnt_0.mpr (fun _ _ => rfl), fun y _ => ⟨(fun h => absurd h Bool.false_ne_true), (fun ⟨x, hx, _⟩ => absurd hx (Nat.not_lt_zero x))⟩⟩
    | succ m ih =>
      intro hm
      obtain ⟨G, g1, g2⟩ := ih (by omega)
      have hn : G (f m) = false := by
        cases e : G (f m)
        · rfl
        · obtain ⟨x, hx, ex⟩ := (g2 _ (h1 m (by omega))).mp e
          have := h2 x m (by omega) (by omega) ex
          omega
      refine ⟨upB G (f m) true, ?_, fun y hy => ?_⟩
      · have := cnt_up (f := fun _ => true) (n := n) hn
        rw [if_pos (h1 m (by omega))] at this
        have e1 : cnt (fun t => upB G (f m) true t && true) n = cnt (upB G (f m) true) n := cnt_congr (fun t _ => Bool.and_true _)
        have e2 : cnt (fun t => G t && true) n = cnt G n := cnt_congr (fun t _ => Bool.and_true _)
        rw [e1, e2, g1] at this
        exact this
      · by_cases z : y = f m
        · rw [z, upB_s]; exact ⟨fun _ => ⟨m, Nat.lt_succ_self m, rfl⟩, fun _ => rfl⟩
        · rw [upB_n z, g2 y hy]
          exact ⟨fun ⟨x, hx, e⟩ => ⟨x, by omega, e⟩, fun ⟨x, hx, e⟩ => ⟨x, (by
            rcases Nat.lt_succ_iff_lt_or_eq.mp hx with a | a
            · exact a
            · rw [a] at e; exact absurd e.symm z), e⟩⟩
  obtain ⟨G, g1, g2⟩ := hx n (Nat.le_refl n)
  intro y hy
  exact (g2 y hy).mp (cnt_all.mp g1 y hy)
theorem F_can : ∀ q ∈ qs, ∀ d, d < q → ∀ a, a < q → ∀ b, b < q → (d = 0 ∨ ¬ fmul q a d = fmul q b d ∨ a = b) := by decide +kernel
def enc (q x y z : Nat) : Nat := x * (q * q) + y * q + z
theorem enc_lt {q x y z : Nat} (hx : x < q) (hy : y < q) (hz : z < q) : enc q x y z < q * q * q := by
  have h1 : (x + 1) * (q * q) ≤ q * (q * q) := Nat.mul_le_mul_right _ hx
  have h2 := yz_lt hy hz
  rw [Nat.succ_mul] at h1
  rw [enc, Nat.mul_assoc]
  omega
theorem enc_d {q x y z : Nat} (hx : x < q) (hy : y < q) (hz : z < q) : enc q x y z / (q * q) = x ∧ enc q x y z / q % q = y ∧ enc q x y z % q = z := by
  have h2 := yz_lt hy hz
  have hq : 0 < q := by omega
  have hqq : 0 < q * q := Nat.mul_pos hq hq
  have e1 : enc q x y z = (y * q + z) + (q * q) * x := by rw [enc, Nat.mul_comm x]; omega
  have e2 : enc q x y z = z + q * (x * q + y) := by
    have a1 : x * (q * q) = q * (x * q) := by rw [Nat.mul_comm q (x * q), Nat.mul_assoc]
    have a2 : y * q = q * y := Nat.mul_comm y q
    rw [enc, Nat.mul_add]; omega
  refine ⟨?_, ?_, ?_⟩
  · rw [e1, Nat.add_mul_div_left _ _ hqq, Nat.div_eq_of_lt h2, Nat.zero_add]
  · rw [e2, Nat.add_mul_div_left _ _ hq, Nat.div_eq_of_lt hz, Nat.zero_add, Nat.add_comm, Nat.add_mul_mod_self_right, Nat.mod_eq_of_lt hy]
  · rw [e2, Nat.add_mul_mod_self_left, Nat.mod_eq_of_lt hz]
theorem dec_e {q k : Nat} (hq : 0 < q) : enc q (k / (q * q)) (k / q % q) (k % q) = k := by
  have h1 := Nat.div_add_mod k q
  have h2 := Nat.div_add_mod (k / q) q
  rw [Nat.div_div_eq_div_mul] at h2
  rw [enc]
  have e3 : q * (k / q) = q * (q * (k / (q * q))) + q * (k / q % q) := by rw [← Nat.mul_add, h2]
  have e4 : k / (q * q) * (q * q) = q * (q * (k / (q * q))) := by rw [Nat.mul_comm, Nat.mul_assoc]
  have e5 : k / q % q * q = q * (k / q % q) := Nat.mul_comm _ _
  omega
theorem sol_ex {q a b c d : Nat} (hq : q ∈ qs) (ha : a < nn q) (hb : b < nn q) (hc : c < nn q) (hd : d < nn q) (h : ¬ vdet q (pt q a) (pt q b) (pt q c) = 0) : ∃ s t u, s < q ∧ t < q ∧ u < q ∧ sol3 q a b c d s t u := by
  have hq0 : 0 < q := by have := qs_le hq; omega
  have hqq : 0 < q * q := Nat.mul_pos hq0 hq0
  have hv := vdet_lt hq (ptv hq ha) (ptv hq hb) (ptv hq hc)
  have b1 : ∀ k, k < q * q * q → k / (q * q) < q := fun k hk => Nat.div_lt_of_lt_mul hk
  have b2 : ∀ k, k / q % q < q := fun k => Nat.mod_lt _ hq0
  have b3 : ∀ k, k % q < q := fun k => Nat.mod_lt _ hq0
  have cl : ∀ k, k < q * q * q → ltv q (cmb q a b c (k / (q * q)) (k / q % q) (k % q)) := fun k hk => cmb_lt hq ha hb hc (b1 k hk) (b2 k) (b3 k)
  obtain ⟨x, hx, e⟩ := pigeon (n := q * q * q) (f := fun k => enc q (cmb q a b c (k / (q * q)) (k / q % q) (k % q) 0) (cmb q a b c (k / (q * q)) (k / q % q) (k % q) 1) (cmb q a b c (k / (q * q)) (k / q % q) (k % q) 2)) (fun k hk => enc_lt (cl k hk 0 (by decide)) (cl k hk 1 (by decide)) (cl k hk 2 (by decide))) (fun k j hk hj e => by
    have d1 := enc_d (cl k hk 0 (by decide)) (cl k hk 1 (by decide)) (cl k hk 2 (by decide))
    have d2 := enc_d (cl j hj 0 (by decide)) (cl j hj 1 (by decide)) (cl j hj 2 (by decide))
    have e : enc q _ _ _ = enc q _ _ _ := e
    rw [e] at d1
    have ee : ∀ i, i < 3 → cmb q a b c (k / (q * q)) (k / q % q) (k % q) i = cmb q a b c (j / (q * q)) (j / q % q) (j % q) i := fun i hi => by
      match i, hi with
      | 0, _ => exact d1.1.symm.trans d2.1
      | 1, _ => exact d1.2.1.symm.trans d2.2.1
      | 2, _ => exact d1.2.2.symm.trans d2.2.2
    have f1 : fmul q (k / (q * q)) _ = fmul q (j / (q * q)) _ := (cmb_s hq ha hb hc (b1 k hk) (b2 k) (b3 k)).symm.trans ((dot_congr ee).trans (cmb_s hq ha hb hc (b1 j hj) (b2 j) (b3 j)))
    have f2 : fmul q (k / q % q) _ = fmul q (j / q % q) _ := (cmb_t hq ha hb hc (b1 k hk) (b2 k) (b3 k)).symm.trans ((dot_cr (fun i _ => cr_cl ee)).trans (cmb_t hq ha hb hc (b1 j hj) (b2 j) (b3 j)))
    have f3 : fmul q (k % q) _ = fmul q (j % q) _ := (cmb_u hq ha hb hc (b1 k hk) (b2 k) (b3 k)).symm.trans ((dot_cr (fun i _ => cr_cr ee)).trans (cmb_u hq ha hb hc (b1 j hj) (b2 j) (b3 j)))
    have can : ∀ x y, x < q → y < q → fmul q x (vdet q (pt q a) (pt q b) (pt q c)) = fmul q y (vdet q (pt q a) (pt q b) (pt q c)) → x = y := fun x y hx hy e => ((F_can q hq _ hv x hx y hy).resolve_left h).resolve_left (fun z => z e)
    rw [← dec_e (k := k) hq0, ← dec_e (k := j) hq0, can _ _ (b1 k hk) (b1 j hj) f1, can _ _ (b2 k) (b2 j) f2, can _ _ (b3 k) (b3 j) f3]) (enc q (pt q d 0) (pt q d 1) (pt q d 2)) (enc_lt (pt_lt hq hd (by decide)) (pt_lt hq hd (by decide)) (pt_lt hq hd (by decide)))
  have d1 := enc_d (cl x hx 0 (by decide)) (cl x hx 1 (by decide)) (cl x hx 2 (by decide))
  have d2 := enc_d (pt_lt hq hd (show 0 < 3 by decide)) (pt_lt hq hd (show 1 < 3 by decide)) (pt_lt hq hd (show 2 < 3 by decide))
  have e : enc q _ _ _ = enc q _ _ _ := e
  rw [e] at d1
  refine ⟨_, _, _, b1 x hx, b2 x, b3 x, fun i hi => ?_⟩
  match i, hi with
  | 0, _ => exact d1.1.symm.trans d2.1
  | 1, _ => exact d1.2.1.symm.trans d2.2.1
  | 2, _ => exact d1.2.2.symm.trans d2.2.2
/-- a solution as one number -/
def solK (q a b c d k : Nat) : Prop := sol3 q a b c d (k / (q * q)) (k / q % q) (k % q)
theorem sol_K {q a b c d : Nat} (hq : q ∈ qs) (ha : a < nn q) (hb : b < nn q) (hc : c < nn q) (hd : d < nn q) (h : ¬ vdet q (pt q a) (pt q b) (pt q c) = 0) : ∃ k, k < q * q * q ∧ solK q a b c d k := by
  obtain ⟨s, t, u, hs, ht, hu, e⟩ := sol_ex hq ha hb hc hd h
  have d1 := enc_d hs ht hu
  exact ⟨enc q s t u, enc_lt hs ht hu, by rw [solK, d1.1, d1.2.1, d1.2.2]; exact e⟩
theorem sol_no {q a b c d k : Nat} (i : Nat) (hi : i < 3) (h : ¬ fadd q (fadd q (fmul q (k / (q * q)) (pt q a i)) (fmul q (k / q % q) (pt q b i))) (fmul q (k % q) (pt q c i)) = pt q d i) : ¬ solK q a b c d k := fun z => h (z i hi)
theorem sol_yes {q a b c d k : Nat} (h0 : fadd q (fadd q (fmul q (k / (q * q)) (pt q a 0)) (fmul q (k / q % q) (pt q b 0))) (fmul q (k % q) (pt q c 0)) = pt q d 0) (h1 : fadd q (fadd q (fmul q (k / (q * q)) (pt q a 1)) (fmul q (k / q % q) (pt q b 1))) (fmul q (k % q) (pt q c 1)) = pt q d 1) (h2 : fadd q (fadd q (fmul q (k / (q * q)) (pt q a 2)) (fmul q (k / q % q) (pt q b 2))) (fmul q (k % q) (pt q c 2)) = pt q d 2) : solK q a b c d k := fun i hi => by
  match i, hi with
  | 0, _ => exact h0
  | 1, _ => exact h1
  | 2, _ => exact h2

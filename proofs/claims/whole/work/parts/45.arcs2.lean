/-- a point that can come -/
def fitq (q : Nat) (G : Nat → Bool) (p : Nat) : Bool := !G p && decide (secq q (metq q G) p = 0)
theorem fit_iff {q p : Nat} {G : Nat → Bool} (hq : q ∈ qs) (hp : p < nn q) : fitq q G p = true ↔ G p = false ∧ ∀ l, l < nn q → onq q p l = true → metq q G l < 2 := by
  rw [fitq, Bool.and_eq_true, Bool.not_eq_true', decide_eq_true_iff, sec_zero hq hp]
theorem fit_congr {q p : Nat} {G K : Nat → Bool} (hq : q ∈ qs) (hp : p < nn q) (h : eqN (nn q) G K) : fitq q G p = fitq q K p := by
  rw [fitq, fitq, h p hp, sec_congr hq hp h]
theorem fit_sub {q p : Nat} {G K : Nat → Bool} (hq : q ∈ qs) (hp : p < nn q) (h : subN (nn q) G K) (hf : fitq q K p = true) : fitq q G p = true := by
  rw [fit_iff hq hp] at hf ⊢
  refine ⟨?_, fun l hl ho => Nat.lt_of_le_of_lt (met_sub h) (hf.2 l hl ho)⟩
  cases e : G p
  · rfl
  · rw [h p hp e] at hf; cases hf.1
theorem arc_iff {q : Nat} {G : Nat → Bool} : arcq q G = true ↔ ∀ l, l < nn q → metq q G l < 3 := by
  rw [arcq, allB_iff]
  exact ⟨fun h l hl => of_decide_eq_true (h l hl), fun h l hl => decide_eq_true (h l hl)⟩
theorem arc_sub {q : Nat} {G K : Nat → Bool} (h : subN (nn q) G K) (ha : arcq q K = true) : arcq q G = true :=
  arc_iff.mpr (fun l hl => Nat.lt_of_le_of_lt (met_sub h) (arc_iff.mp ha l hl))
theorem arc_congr {q : Nat} {G K : Nat → Bool} (h : eqN (nn q) G K) (ha : arcq q K = true) : arcq q G = true := arc_sub (fun t ht hg => by rw [← h t ht]; exact hg) ha
theorem arc_fit {q p : Nat} {G : Nat → Bool} (hq : q ∈ qs) (hp : p < nn q) (ha : arcq q G = true) (h : fitq q G p = true) : arcq q (upB G p true) = true := by
  rw [fitq, Bool.and_eq_true, Bool.not_eq_true'] at h
  rw [new_eq hq hp ha h.1, h.2]
theorem mem_fit {q r : Nat} {G T : Nat → Bool} (hq : q ∈ qs) (hr : r < nn q) (hT : arcq q T = true) (hs : subN (nn q) G T) (h1 : T r = true) (h0 : G r = false) : fitq q G r = true := by
  rw [fit_iff hq hr]
  refine ⟨h0, fun l hl ho => ?_⟩
  have h2 : subN (nn q) (upB G r true) T := fun t ht hg => by
    by_cases z : t = r
    · rw [z]; exact h1
    · rw [upB_n z] at hg; exact hs t ht hg
  have h3 := Nat.lt_of_le_of_lt (met_sub (l := l) h2) (arc_iff.mp hT l hl)
  rw [met_up hr h0, ho] at h3
  simp at h3; omega
theorem cnt_pos {P : Nat → Bool} {t n : Nat} (ht : t < n) (h : P t = true) : 0 < cnt P n := by
  have := cnt_lt ht h; omega
theorem fit_add {q p r : Nat} {G : Nat → Bool} (hq : q ∈ qs) (hp : p < nn q) (hr : r < nn q) (h0 : G p = false) : fitq q (upB G p true) r = true ↔ fitq q G r = true ∧ ¬ p = r ∧ ∀ t, t < nn q → G t = true → onq q r (joinq q t p) = false := by
  rw [fit_iff hq hr, fit_iff hq hr]
  constructor
  · rintro ⟨h1, h2⟩
    have hne : ¬ p = r := fun z => by rw [z, upB_s] at h1; cases h1
    rw [upB_n (fun z => hne z.symm)] at h1
    refine ⟨⟨h1, fun l hl ho => ?_⟩, hne, fun t ht hg => ?_⟩
    · have := h2 l hl ho
      rw [met_up hp h0] at this; omega
    · have htp : ¬ t = p := fun z => by rw [z, h0] at hg; cases hg
      have hj := join_ok hq ht hp htp
      cases e : onq q r (joinq q t p)
      · rfl
      · have := h2 _ hj.1 e
        rw [met_up hp h0, hj.2.2.1] at this
        have h3 : 0 < metq q G (joinq q t p) := cnt_pos ht (by rw [hg, hj.2.1]; rfl)
        simp at this; omega
  · rintro ⟨⟨h1, h2⟩, hne, h3⟩
    refine ⟨by rw [upB_n (fun z => hne z.symm)]; exact h1, fun l hl ho => ?_⟩
    rw [met_up hp h0]
    have h4 := h2 l hl ho
    cases e : onq q p l
    · simp; omega
    · have h5 : metq q G l = 0 := cnt_0.mpr (fun t ht => by
        cases e1 : G t
        · rfl
        · cases e2 : onq q t l
          · rfl
          · have htp : ¬ t = p := fun z => by rw [z, h0] at e1; cases e1
            have hj := (join_ok hq ht hp htp).2.2.2 l hl e2 e
            have := h3 t ht e1
            rw [← hj, ho] at this; cases this)
      rw [h5]; decide
theorem lmO_bit {q p r : Nat} : ∀ (ts : List Nat) (al : Nat), Nat.testBit (lmO q p ts al) r = (Nat.testBit al r && ts.all (fun t => !(Nat.testBit (LMt q t p) r)))
  | [], al => by simp [lmO]
  | t :: ts, al => by
    rw [lmO, lmO_bit ts, Nat.testBit_xor, Nat.testBit_and, List.all_cons]
    cases Nat.testBit al r <;> cases Nat.testBit (LMt q t p) r <;> simp
theorem bit_off {al f r : Nat} : Nat.testBit (al ^^^ (al &&& 2 ^ f)) r = (Nat.testBit al r && !(decide (f = r))) := by
  rw [Nat.testBit_xor, Nat.testBit_and, Nat.testBit_two_pow]
  cases Nat.testBit al r <;> cases decide (f = r) <;> rfl
def pfx (T : Nat → Bool) (f t : Nat) : Bool := T t && decide (f ≤ t)
theorem pfx_sub {T : Nat → Bool} {f n : Nat} : subN n (pfx T f) T := fun t _ h => by
  rw [pfx, Bool.and_eq_true] at h; exact h.1
theorem pfx_no {T : Nat → Bool} {f t : Nat} (h : t < f) : pfx T f t = false := by
  rw [pfx, decide_eq_false (by omega), Bool.and_false]
theorem pfx_t {T : Nat → Bool} {f n : Nat} (h : T f = true) : eqN n (pfx T f) (upB (pfx T (f + 1)) f true) := fun t _ => by
  by_cases z : t = f
  · rw [z, upB_s, pfx, h, decide_eq_true (Nat.le_refl f)]; rfl
  · rw [upB_n z, pfx, pfx]
    by_cases y : f ≤ t
    · rw [decide_eq_true y, decide_eq_true (by omega)]
    · rw [decide_eq_false y, decide_eq_false (by omega)]
theorem pfx_f {T : Nat → Bool} {f n : Nat} (h : T f = false) : eqN n (pfx T f) (pfx T (f + 1)) := fun t _ => by
  by_cases z : t = f
  · rw [z, pfx, pfx, h]; rfl
  · rw [pfx, pfx]
    by_cases y : f ≤ t
    · rw [decide_eq_true y, decide_eq_true (by omega)]
    · rw [decide_eq_false y, decide_eq_false (by omega)]
theorem cnt_up1 {G : Nat → Bool} {p n : Nat} (hp : p < n) (h : G p = false) : cnt (upB G p true) n = cnt G n + 1 := by
  have := cnt_up (f := fun _ => true) (n := n) h
  rw [if_pos hp] at this
  have e1 : cnt (fun t => upB G p true t && true) n = cnt (upB G p true) n := cnt_congr (fun t _ => Bool.and_true _)
  have e2 : cnt (fun t => G t && true) n = cnt G n := cnt_congr (fun t _ => Bool.and_true _)
  rw [e1, e2] at this
  exact this
def arcC (q : Nat) (T : Nat → Bool) : Prop := cnt T (nn q) ≤ Mx q ∧ (cnt T (nn q) < Mx q → ∃ p, p < nn q ∧ fitq q T p = true)
theorem arcC_of {q al sz : Nat} {G T : Nat → Bool} (hq : q ∈ qs) (h : eqN (nn q) G T) (h1 : ∀ r, r < nn q → Nat.testBit al r = fitq q G r) (h2 : ∀ r, nn q ≤ r → Nat.testBit al r = false) (h3 : sz = cnt G (nn q)) (h4 : nodB (Mx q) al sz = true) : arcC q T := by
  rw [nodB, Bool.and_eq_true, Bool.or_eq_true] at h4
  have e : sz = cnt T (nn q) := by rw [h3]; exact cnt_congr h
  have h5 := Nat.le_of_ble_eq_true h4.1
  refine ⟨by omega, fun z => ?_⟩
  rcases h4.2 with y | y
  · have := Nat.le_of_ble_eq_true y; omega
  · have h6 : ¬ al = 0 := fun x => by rw [x] at y; cases y
    obtain ⟨r, hr⟩ := Nat.exists_testBit_of_ne_zero h6
    rcases Nat.lt_or_ge r (nn q) with a | a
    · exact ⟨r, a, by rw [← fit_congr hq a h, ← h1 r a]; exact hr⟩
    · rw [h2 r a] at hr; cases hr
theorem chk_ok {q : Nat} {T : Nat → Bool} (hq : q ∈ qs) (ha : q ∈ qa) (hT : arcq q T = true) : ∀ (f al : Nat) (ts : List Nat) (sz : Nat), f ≤ nn q → (∀ r, r < nn q → Nat.testBit al r = fitq q (pfx T f) r) → (∀ r, nn q ≤ r → Nat.testBit al r = false) → (∀ t, t ∈ ts ↔ t < nn q ∧ pfx T f t = true) → sz = cnt (pfx T f) (nn q) → nodB (Mx q) al sz = true → chkA q (Mx q) f al ts sz = true → arcC q T
  | 0, al, ts, sz, _, h1, h2, _, h4, h5, _ => arcC_of hq (fun t _ => by rw [pfx, decide_eq_true (Nat.zero_le t), Bool.and_true]) h1 h2 h4 h5
  | f + 1, al, ts, sz, hf, h1, h2, h3, h4, h5, h6 => by
    have hfn : f < nn q := by omega
    have h6 : (Nat.beq (al % 2 ^ (f + 1)) 0 || ((!(Nat.testBit al f) || (nodB (Mx q) (lmO q f ts (al ^^^ (al &&& 2 ^ f))) (sz + 1) && chkA q (Mx q) f (lmO q f ts (al ^^^ (al &&& 2 ^ f))) (f :: ts) (sz + 1))) && chkA q (Mx q) f al ts sz)) = true := h6
    rw [Bool.or_eq_true, Bool.and_eq_true] at h6
    rcases h6 with h6 | h6
    · refine arcC_of hq (fun t ht => ?_) h1 h2 h4 h5
      rw [pfx]
      by_cases z : f + 1 ≤ t
      · rw [decide_eq_true z, Bool.and_true]
      · rw [decide_eq_false z, Bool.and_false]
        cases e : T t
        · rfl
        · have h7 := mem_fit hq ht hT pfx_sub e (pfx_no (T := T) (f := f + 1) (by omega))
          have h8 := Nat.testBit_mod_two_pow al (f + 1) t
          rw [Nat.eq_of_beq_eq_true h6, Nat.zero_testBit, decide_eq_true (by omega), h1 t ht, h7] at h8
          cases h8
    · cases e : T f
      · exact chk_ok hq ha hT f al ts sz (by omega) (fun r hr => by rw [h1 r hr]; exact (fit_congr hq hr (pfx_f e)).symm) h2 (fun t => by
          rw [h3 t]
          exact ⟨fun y => ⟨y.1, by rw [pfx_f e t y.1]; exact y.2⟩, fun y => ⟨y.1, by rw [← pfx_f e t y.1]; exact y.2⟩⟩) (by rw [h4]; exact (cnt_congr (pfx_f e)).symm) h5 h6.2
      · have hp0 : pfx T (f + 1) f = false := pfx_no (Nat.lt_succ_self f)
        have hfit := mem_fit hq hfn hT pfx_sub e hp0
        have h7 := h6.1
        rw [h1 f hfn, hfit] at h7
        have h7 : (nodB (Mx q) (lmO q f ts (al ^^^ (al &&& 2 ^ f))) (sz + 1) && chkA q (Mx q) f (lmO q f ts (al ^^^ (al &&& 2 ^ f))) (f :: ts) (sz + 1)) = true := h7
        rw [Bool.and_eq_true] at h7
        have hpt : eqN (nn q) (pfx T f) (upB (pfx T (f + 1)) f true) := pfx_t e
        refine chk_ok hq ha hT f _ (f :: ts) (sz + 1) (by omega) (fun r hr => ?_) (fun r hr => ?_) (fun t => ?_) ?_ h7.1 h7.2
        · rw [fit_congr hq hr hpt, Bool.eq_iff_iff, fit_add hq hfn hr hp0, lmO_bit, bit_off, h1 r hr, Bool.and_eq_true, Bool.and_eq_true, Bool.not_eq_true', decide_eq_false_iff_not, List.all_eq_true, and_assoc]
          refine and_congr_right (fun _ => and_congr_right (fun hne => ?_))
          constructor
          · intro w t ht hg
            have htf : ¬ t = f := fun z => by rw [z, hp0] at hg; cases hg
            have w1 := w t ((h3 t).mpr ⟨ht, hg⟩)
            rw [((lm_tab q ha t ht f hfn).resolve_left htf) r hr, Bool.not_eq_true'] at w1
            exact w1
          · intro w t ht
            have hg := (h3 t).mp ht
            have htf : ¬ t = f := fun z => by rw [z, hp0] at hg; cases hg.2
            rw [((lm_tab q ha t hg.1 f hfn).resolve_left htf) r hr, w t hg.1 hg.2]; rfl
        · rw [lmO_bit, bit_off, h2 r hr]; rfl
        · rw [List.mem_cons, h3 t]
          constructor
          · rintro (y | y)
            · rw [y]; exact ⟨hfn, by rw [hpt f hfn, upB_s]⟩
            · refine ⟨y.1, ?_⟩
              have htf : ¬ t = f := fun z => by rw [z, hp0] at y; cases y.2
              rw [hpt t y.1, upB_n htf]; exact y.2
          · intro y
            by_cases z : t = f
            · exact Or.inl z
            · refine Or.inr ⟨y.1, ?_⟩
              have y2 := y.2
              rw [hpt t y.1, upB_n z] at y2; exact y2
        · rw [h4, cnt_congr hpt, cnt_up1 hfn hp0]
theorem chk_tab : ∀ q ∈ qa, nodB (Mx q) (2 ^ nn q - 1) 0 = true ∧ q ∈ qs := by decide +kernel
theorem chk_tabA {q : Nat} (h : q ∈ qa) : chkA q (Mx q) (nn q) (2 ^ nn q - 1) [] 0 = true := by
  have h1 : q = 2 ∨ q = 3 ∨ q = 4 ∨ q = 5 := by simpa [qa] using h
  rcases h1 with rfl | rfl | rfl | rfl
  · exact chk_tab2
  · exact chk_tab3
  · exact chk_tab4
  · exact chk_tab5
theorem arc_all {q : Nat} {T : Nat → Bool} (ha : q ∈ qa) (hT : arcq q T = true) : arcC q T := by
  have h := chk_tab q ha
  refine chk_ok h.2 ha hT (nn q) (2 ^ nn q - 1) [] 0 (Nat.le_refl _) (fun r hr => ?_) (fun r hr => ?_) (fun t => ?_) ?_ h.1 (chk_tabA ha)
  · rw [Nat.testBit_two_pow_sub_one, decide_eq_true hr]
    refine ((fit_iff h.2 hr).mpr ⟨pfx_no hr, fun l _ _ => ?_⟩).symm
    have : metq q (pfx T (nn q)) l = 0 := cnt_0.mpr (fun t ht => by rw [pfx_no ht]; rfl)
    omega
  · rw [Nat.testBit_two_pow_sub_one, decide_eq_false (by omega)]
  · exact ⟨fun z => (by cases z), fun z => (by rw [pfx_no z.1] at z; cases z.2)⟩
  · exact (cnt_0.mpr (fun t ht => pfx_no ht)).symm
/-- the greedy arc -/
theorem gr_arc {q : Nat} {S : Nat → Bool} (hq : q ∈ qs) (ha : arcq q S = true) : ∀ k, k ≤ nn q → arcq q (grq q S k) = true
  | 0, _ => ha
  | k + 1, hk => by
    have ih := gr_arc hq ha k (by omega)
    rw [grq]
    split
    · rename_i z
      exact arc_fit hq (by omega) ih (by rw [fitq, z.1, z.2]; rfl)
    · exact ih
theorem gr_s1 {q k : Nat} {S : Nat → Bool} (h : fitq q (grq q S k) k = true) : grq q S (k + 1) = upB (grq q S k) k true := by
  rw [fitq, Bool.and_eq_true, Bool.not_eq_true', decide_eq_true_iff] at h
  rw [grq, if_pos h]
theorem gr_s0 {q k : Nat} {S : Nat → Bool} (h : fitq q (grq q S k) k = false) : grq q S (k + 1) = grq q S k := by
  rw [grq, if_neg (fun z => by rw [fitq, z.1, z.2] at h; cases h)]
theorem gr_sub1 {q k : Nat} {S : Nat → Bool} : subN (nn q) (grq q S k) (grq q S (k + 1)) := fun t ht h => by
  cases e : fitq q (grq q S k) k
  · rw [gr_s0 e]; exact h
  · rw [gr_s1 e]; exact up_sub t ht h
theorem gr_sub {q k : Nat} {S : Nat → Bool} : ∀ j, subN (nn q) (grq q S k) (grq q S (k + j))
  | 0 => fun _ _ h => h
  | j + 1 => fun t ht h => gr_sub1 t ht (gr_sub j t ht h)
theorem gr_full {q p : Nat} {S : Nat → Bool} (hq : q ∈ qs) (hp : p < nn q) : fitq q (grq q S (nn q)) p = false := by
  cases e : fitq q (grq q S (nn q)) p
  · rfl
  · have h1 : subN (nn q) (grq q S (p + 1)) (grq q S (nn q)) := by
      have := gr_sub (q := q) (S := S) (k := p + 1) (nn q - (p + 1))
      rw [show p + 1 + (nn q - (p + 1)) = nn q by omega] at this; exact this
    have h2 := fit_sub hq hp h1 e
    cases e1 : fitq q (grq q S p) p
    · rw [gr_s0 e1, e1] at h2; cases h2
    · rw [gr_s1 e1, fitq, upB_s] at h2; cases h2
theorem gr_max {q : Nat} {S T : Nat → Bool} (ha : q ∈ qa) (hS : arcq q S = true) (hT : arcq q T = true) : cnt T (nn q) ≤ cnt (grq q S (nn q)) (nn q) := by
  have hq := (chk_tab q ha).2
  have h1 := arc_all ha (gr_arc hq hS (nn q) (Nat.le_refl _))
  have h2 := arc_all ha hT
  rcases Nat.lt_or_ge (cnt (grq q S (nn q)) (nn q)) (Mx q) with z | z
  · obtain ⟨p, hp, e⟩ := h1.2 z
    rw [gr_full hq hp] at e; cases e
  · exact Nat.le_trans h2.1 z

theorem fit_all {q p : Nat} {G : Nat → Bool} (hq : q ∈ qs) (hp : p < nn q) (h : G p = false) : fitq q G p = allB (fun l => !onq q p l || decide (metq q G l < 2)) (nn q) := by
  rw [Bool.eq_iff_iff, fit_iff hq hp, allB_iff]
  constructor
  · intro w l hl
    cases e : onq q p l
    · rfl
    · rw [decide_eq_true (w.2 l hl e)]; rfl
  · intro w
    refine ⟨h, fun l hl e => ?_⟩
    have := w l hl
    rw [e] at this
    simpa using this
def inP (pl : Nat → Nat) : Nat → Nat → Bool
  | 0, _ => false
  | n + 1, t => inP pl n t || decide (pl n = t)
theorem inP_congr {pl pm : Nat → Nat} : ∀ {n : Nat}, (∀ j, j < n → pl j = pm j) → ∀ t, inP pl n t = inP pm n t
  | 0, _, _ => rfl
  | n + 1, h, t => by rw [inP, inP, inP_congr (fun j hj => h j (by omega)) t, h n (Nat.lt_succ_self n)]
theorem inP_no {pl : Nat → Nat} {t : Nat} : ∀ {n : Nat}, (∀ j, j < n → ¬ pl j = t) → inP pl n t = false
  | 0, _ => rfl
  | n + 1, h => by rw [inP, inP_no (fun j hj => h j (by omega)), decide_eq_false (h n (Nat.lt_succ_self n))]; rfl
def sP (q : Nat) (pl : Nat → Nat) : Nat → Nat
  | 0 => 0
  | n + 1 => sP q pl n + (2 ^ (nn q - pl n) - 1)
theorem sP_congr {q : Nat} {pl pm : Nat → Nat} : ∀ {n : Nat}, (∀ j, j < n → pl j = pm j) → sP q pl n = sP q pm n
  | 0, _ => rfl
  | n + 1, h => by rw [sP, sP, sP_congr (fun j hj => h j (by omega)), h n (Nat.lt_succ_self n)]
/-- how far the search is -/
def pot (q : Nat) (pl : Nat → Nat) (tp p : Nat) : Nat := 2 ^ (nn q - p + 1) + sP q pl tp
theorem pot_skip {q tp p : Nat} {pl : Nat → Nat} : pot q pl tp (p + 1) ≤ pot q pl tp p :=
  Nat.add_le_add_right (Nat.pow_le_pow_right (by decide) (by omega)) _
theorem pot_push {q tp p : Nat} {pl : Nat → Nat} (hp : p < nn q) : pot q (upN pl tp p) (tp + 1) (p + 1) < pot q pl tp p := by
  rw [pot, pot, sP, upN_s, sP_congr (pm := pl) (fun j hj => upN_n (by omega)), show nn q - (p + 1) + 1 = nn q - p by omega, Nat.pow_succ]
  have := Nat.two_pow_pos (nn q - p)
  omega
theorem pot_pop {q tp p : Nat} {pl : Nat → Nat} (ht : 0 < tp) (h : pl (tp - 1) < nn q) (hp : p = nn q) : pot q pl (tp - 1) (pl (tp - 1) + 1) < pot q pl tp p := by
  obtain ⟨t, rfl⟩ : ∃ t, tp = t + 1 := ⟨tp - 1, by omega⟩
  rw [Nat.add_sub_cancel] at h ⊢
  rw [pot, pot, sP, hp, Nat.sub_self, show nn q - (pl t + 1) + 1 = nn q - pl t by omega]
  have := Nat.two_pow_pos (nn q - pl t)
  omega
/-- the search: what stands -/
def GI (q : Nat) (S : Nat → Bool) (pl : Nat → Nat) (td : Nat → Bool) (tp p : Nat) : Prop := p ≤ nn q ∧ (∀ j, j < tp → pl j < p ∧ S (pl j) = false) ∧ (∀ i j, i < j → j < tp → pl i < pl j) ∧ (∀ t, t < nn q → td t = (S t || inP pl tp t)) ∧ arcq q td = true ∧ cnt td (nn q) = cnt S (nn q) + tp
theorem GI_le {q tp p : Nat} {S td : Nat → Bool} {pl : Nat → Nat} (h : GI q S pl td tp p) : tp ≤ nn q := by
  have := h.2.2.2.2.2; have := cnt_le td (nn q); omega
theorem GI_0 {q : Nat} {S td : Nat → Bool} {pl : Nat → Nat} (h : arcq q S = true) (e : ∀ t, t < nn q → td t = S t) : GI q S pl td 0 0 :=
  ⟨Nat.zero_le _, fun j hj => absurd hj (Nat.not_lt_zero j), fun _ j _ hj => absurd hj (Nat.not_lt_zero j), fun t ht => by rw [e t ht, inP, Bool.or_false], arc_congr e h, cnt_congr e⟩
theorem GI_skip {q tp p : Nat} {S td : Nat → Bool} {pl : Nat → Nat} (h : GI q S pl td tp p) (hp : p < nn q) : GI q S pl td tp (p + 1) :=
  ⟨hp, fun j hj => ⟨Nat.lt_succ_of_lt (h.2.1 j hj).1, (h.2.1 j hj).2⟩, h.2.2.1, h.2.2.2.1, h.2.2.2.2.1, h.2.2.2.2.2⟩
theorem GI_push {q tp p : Nat} {S td : Nat → Bool} {pl : Nat → Nat} (hq : q ∈ qs) (h : GI q S pl td tp p) (hp : p < nn q) (hf : fitq q td p = true) : GI q S (upN pl tp p) (upB td p true) (tp + 1) (p + 1) := by
  have h0 := ((fit_iff hq hp).mp hf).1
  have hS : S p = false := by
    have := h.2.2.2.1 p hp
    rw [h0] at this
    cases e : S p
    · rfl
    · rw [e] at this; cases this
  have hpl : ∀ j, j < tp → upN pl tp p j = pl j := fun j hj => upN_n (by omega)
  refine ⟨hp, fun j hj => ?_, fun i j hij hj => ?_, fun t ht => ?_, arc_fit hq hp h.2.2.2.2.1 hf, ?_⟩
  · rcases Nat.lt_succ_iff_lt_or_eq.mp hj with z | z
    · rw [hpl j z]; exact ⟨Nat.lt_succ_of_lt (h.2.1 j z).1, (h.2.1 j z).2⟩
    · rw [z, upN_s]; exact ⟨Nat.lt_succ_self p, hS⟩
  · rcases Nat.lt_succ_iff_lt_or_eq.mp hj with z | z
    · rw [hpl i (by omega), hpl j z]; exact h.2.2.1 i j hij z
    · rw [z, upN_s, hpl i (by omega)]; exact (h.2.1 i (by omega)).1
  · rw [inP, upN_s, inP_congr hpl]
    by_cases z : t = p
    · rw [z, upB_s, decide_eq_true rfl, Bool.or_true, Bool.or_true]
    · rw [upB_n z, decide_eq_false (fun y => z y.symm), Bool.or_false]; exact h.2.2.2.1 t ht
  · rw [cnt_up1 hp h0, h.2.2.2.2.2]; omega
theorem GI_pop {q tp p : Nat} {S td : Nat → Bool} {pl : Nat → Nat} (h : GI q S pl td tp p) (ht : 0 < tp) : pl (tp - 1) < nn q ∧ GI q S pl (upB td (pl (tp - 1)) false) (tp - 1) (pl (tp - 1) + 1) := by
  obtain ⟨t, rfl⟩ : ∃ t, tp = t + 1 := ⟨tp - 1, by omega⟩
  rw [Nat.add_sub_cancel]
  have h1 := h.2.1 t (Nat.lt_succ_self t)
  have hn : pl t < nn q := Nat.lt_of_lt_of_le h1.1 h.1
  have hno : ∀ j, j < t → ¬ pl j = pl t := fun j hj e => by have := h.2.2.1 j t hj (Nat.lt_succ_self t); omega
  have hd : td (pl t) = true := by rw [h.2.2.2.1 _ hn, inP, decide_eq_true rfl, Bool.or_true, Bool.or_true]
  have hsub : subN (nn q) (upB td (pl t) false) td := fun k _ e => by
    by_cases z : k = pl t
    · rw [z, upB_s] at e; cases e
    · rw [upB_n z] at e; exact e
  refine ⟨hn, hn, fun j hj => ⟨Nat.lt_succ_of_lt (h.2.2.1 j t hj (Nat.lt_succ_self t)), (h.2.1 j (by omega)).2⟩, fun i j hij hj => h.2.2.1 i j hij (by omega), fun k hk => ?_, arc_sub hsub h.2.2.2.2.1, ?_⟩
  · by_cases z : k = pl t
    · rw [z, upB_s, h1.2, inP_no hno]; rfl
    · have e := h.2.2.2.1 k hk
      rw [inP, decide_eq_false (fun y => z y.symm), Bool.or_false] at e
      rw [upB_n z]; exact e
  · have e1 : cnt (upB (upB td (pl t) false) (pl t) true) (nn q) = cnt td (nn q) := cnt_congr (fun k _ => by
      by_cases z : k = pl t
      · rw [z, upB_s, hd]
      · rw [upB_n z, upB_n z])
    rw [cnt_up1 hn upB_s, h.2.2.2.2.2] at e1
    omega
/-- the first arc that is whole is the greedy one -/
def GP (q : Nat) (S be td : Nat → Bool) (mo tp p : Nat) : Prop := (mo = tp ∧ eqN (nn q) be td ∧ eqN (nn q) td (grq q S p)) ∨ (eqN (nn q) be (grq q S (nn q)) ∧ cnt S (nn q) + mo = cnt (grq q S (nn q)) (nn q))
theorem GP_skip {q mo tp p : Nat} {S be td : Nat → Bool} (hq : q ∈ qs) (h : GP q S be td mo tp p) (hp : p < nn q) (hf : fitq q td p = false) : GP q S be td mo tp (p + 1) := by
  rcases h with h | h
  · refine Or.inl ⟨h.1, h.2.1, ?_⟩
    rw [gr_s0 (by rw [← fit_congr hq hp h.2.2]; exact hf)]; exact h.2.2
  · exact Or.inr h
theorem GP_push1 {q mo tp p : Nat} {S be bf td : Nat → Bool} {pl : Nat → Nat} (ha : q ∈ qa) (hS : arcq q S = true) (hI : GI q S pl td tp p) (h : GP q S be td mo tp p) (hp : p < nn q) (hf : fitq q td p = true) (hm : mo < tp + 1) (hb : ∀ t, t < nn q → bf t = upB td p true t) : GP q S bf (upB td p true) (tp + 1) (tp + 1) (p + 1) := by
  have hq := (chk_tab q ha).2
  rcases h with h | h
  · refine Or.inl ⟨rfl, hb, ?_⟩
    rw [gr_s1 (by rw [← fit_congr hq hp h.2.2]; exact hf)]
    intro t ht
    by_cases z : t = p
    · rw [z, upB_s, upB_s]
    · rw [upB_n z, upB_n z]; exact h.2.2 t ht
  · have h1 := GI_push hq hI hp hf
    have h2 := gr_max ha hS h1.2.2.2.2.1
    rw [h1.2.2.2.2.2] at h2
    omega
theorem GP_push0 {q mo tp p : Nat} {S be td : Nat → Bool} (h : GP q S be td mo tp p) (hm : tp + 1 ≤ mo) : GP q S be (upB td p true) mo (tp + 1) (p + 1) := by
  rcases h with h | h
  · exact absurd h.1 (by omega)
  · exact Or.inr h
theorem GP_end {q mo tp p : Nat} {S be td : Nat → Bool} {pl : Nat → Nat} (hI : GI q S pl td tp p) (h : GP q S be td mo tp p) (hp : p = nn q) : eqN (nn q) be (grq q S (nn q)) ∧ cnt S (nn q) + mo = cnt (grq q S (nn q)) (nn q) := by
  rcases h with h | h
  · have e : eqN (nn q) td (grq q S (nn q)) := by rw [← hp] at h ⊢; exact h.2.2
    exact ⟨fun t ht => (h.2.1 t ht).trans (e t ht), by rw [h.1, ← hI.2.2.2.2.2]; exact cnt_congr e⟩
  · exact h
theorem qa_of {q : Nat} (hq : q ∈ qs) (h : q ≤ 5) : q ∈ qa := by
  revert h; revert q; decide

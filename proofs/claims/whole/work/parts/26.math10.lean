theorem upB_back {S : Nat → Bool} {i : Nat} {a b : Bool} (h : S i = b) : upB (upB S i a) i b = S := by
  funext t
  by_cases z : t = i
  · rw [z, upB_s, h]
  · rw [upB_n z, upB_n z]
theorem upB_same {S : Nat → Bool} {i : Nat} {b : Bool} (h : S i = b) : upB S i b = S := by
  funext t
  by_cases z : t = i
  · rw [z, upB_s, h]
  · rw [upB_n z]
theorem F_comm {q a b : Nat} (hq : q ∈ qs) (ha : a < q) (hb : b < q) : fmul q a b = fmul q b a := (F_t2 q hq a ha b hb).2.2.2
theorem on_sym {q i j : Nat} (hq : q ∈ qs) (hi : i < nn q) (hj : j < nn q) : onq q i j = onq q j i := by
  have h := ptv hq hi
  have g := ptv hq hj
  rw [onq, onq, vdot, vdot, F_comm hq (h 0 (by decide)) (g 0 (by decide)), F_comm hq (h 1 (by decide)) (g 1 (by decide)), F_comm hq (h 2 (by decide)) (g 2 (by decide))]
theorem cnt_up {S f : Nat → Bool} {p : Nat} (h : S p = false) : ∀ {n : Nat}, cnt (fun t => upB S p true t && f t) n = cnt (fun t => S t && f t) n + (if p < n then (f p).toNat else 0)
  | 0 => rfl
  | n + 1 => by
    rw [cnt, cnt, cnt_up h]
    by_cases z : n = p
    · subst z
      rw [upB_s, h, if_neg (Nat.lt_irrefl n), if_pos (Nat.lt_succ_self n)]
      simp
    · rw [upB_n z]
      by_cases y : p < n
      · rw [if_pos y, if_pos (by omega)]; omega
      · rw [if_neg y, if_neg (by omega)]; omega
theorem met_up {q p l : Nat} {S : Nat → Bool} (hp : p < nn q) (h : S p = false) : metq q (upB S p true) l = metq q S l + (onq q p l).toNat := by
  rw [metq, metq, cnt_up h, if_pos hp]
theorem met_dn {q p l : Nat} {S : Nat → Bool} (hp : p < nn q) (h : S p = true) : metq q S l = metq q (upB S p false) l + (onq q p l).toNat := by
  have := met_up (q := q) (l := l) (S := upB S p false) hp upB_s
  rwa [upB_back h] at this
theorem cnt_all {P : Nat → Bool} : ∀ {n : Nat}, cnt P n = n ↔ ∀ t, t < n → P t = true
  | 0 => ⟨fun _ t h => absurd h (Nat.not_lt_zero t), fun _ => rfl⟩
  | n + 1 => by
    have ih := cnt_all (P := P) (n := n)
    have hl := cnt_le P n
    rw [cnt]
    constructor
    · intro h t ht
      have h1 : (P n).toNat ≤ 1 := by cases P n <;> decide
      rcases Nat.lt_succ_iff_lt_or_eq.mp ht with a | a
      · exact ih.mp (by omega) t a
      · subst a; exact bt_n.mp (by omega)
    · intro h
      have h1 := ih.mpr (fun t ht => h t (by omega))
      rw [h n (by omega), h1]; rfl
/-- the lines through a point: all of them by rowq -/
theorem row_all {q p : Nat} {P : Nat → Prop} (hq : q ∈ qs) (hp : p < nn q) : (∀ t, t < q + 1 → P (rowq q p t)) ↔ ∀ l, l < nn q → onq q l p = true → P l := by
  have hlen := row_tab q hq p hp
  constructor
  · intro h l hl ho
    have hm : l ∈ rowL q p := List.mem_filter.mpr ⟨List.mem_range.mpr hl, ho⟩
    obtain ⟨i, hi, e⟩ := List.getElem_of_mem hm
    have := h i (by omega)
    rw [rowq, List.getD_eq_getElem?_getD, List.getElem?_eq_getElem hi, Option.getD_some, e] at this
    exact this
  · intro h t ht
    have h1 : t < (rowL q p).length := by omega
    have h2 : (rowL q p)[t] ∈ (List.range (nn q)).filter (fun l => onq q l p) := List.getElem_mem h1
    have h3 := List.mem_filter.mp h2
    rw [rowq, List.getD_eq_getElem?_getD, List.getElem?_eq_getElem h1, Option.getD_some]
    exact h _ (List.mem_range.mp h3.1) h3.2
theorem sec_full {q p : Nat} {f : Nat → Nat} (hq : q ∈ qs) (hp : p < nn q) : secq q f p = q + 1 ↔ ∀ l, l < nn q → onq q p l = true → 2 ≤ f l := by
  rw [secq, cnt_all, ← (show (∀ l, l < nn q → onq q l p = true → 2 ≤ f l) ↔ (∀ l, l < nn q → onq q p l = true → 2 ≤ f l) from ⟨fun h l hl ho => h l hl (by rw [on_sym hq hl hp]; exact ho), fun h l hl ho => h l hl (by rw [on_sym hq hp hl]; exact ho)⟩), ← row_all (P := fun l => 2 ≤ f l) hq hp]
  exact ⟨fun h t ht => of_decide_eq_true (h t ht), fun h t ht => decide_eq_true (h t ht)⟩
theorem sec_zero {q p : Nat} {f : Nat → Nat} (hq : q ∈ qs) (hp : p < nn q) : secq q f p = 0 ↔ ∀ l, l < nn q → onq q p l = true → f l < 2 := by
  rw [secq, cnt_0, ← (show (∀ l, l < nn q → onq q l p = true → f l < 2) ↔ (∀ l, l < nn q → onq q p l = true → f l < 2) from ⟨fun h l hl ho => h l hl (by rw [on_sym hq hl hp]; exact ho), fun h l hl ho => h l hl (by rw [on_sym hq hp hl]; exact ho)⟩), ← row_all (P := fun l => f l < 2) hq hp]
  exact ⟨fun h t ht => by have := of_decide_eq_false (h t ht); omega, fun h t ht => decide_eq_false (by have := h t ht; omega)⟩
theorem spa_eq {q p : Nat} {S : Nat → Bool} (hq : q ∈ qs) (hp : p < nn q) (hb : blkq q S = true) (hS : S p = true) : blkq q (upB S p false) = decide (secq q (metq q S) p = q + 1) := by
  have hb := allB_iff.mp hb
  by_cases h : secq q (metq q S) p = q + 1
  · rw [decide_eq_true h, blkq, allB_iff]
    intro l hl
    have h1 := of_decide_eq_true (hb l hl)
    have h2 := met_dn (l := l) hp hS
    refine decide_eq_true ?_
    cases ho : onq q p l
    · rw [ho] at h2; simp at h2; omega
    · have h3 := (sec_full hq hp).mp h l hl ho
      rw [ho] at h2; simp at h2; omega
  · rw [decide_eq_false h]
    refine Bool.eq_false_iff.mpr (fun z => h ((sec_full hq hp).mpr (fun l hl ho => ?_)))
    have h1 := of_decide_eq_true (allB_iff.mp z l hl)
    have h2 := met_dn (l := l) hp hS
    rw [ho] at h2; simp at h2; omega
theorem new_eq {q p : Nat} {S : Nat → Bool} (hq : q ∈ qs) (hp : p < nn q) (hb : arcq q S = true) (hS : S p = false) : arcq q (upB S p true) = decide (secq q (metq q S) p = 0) := by
  have hb := allB_iff.mp hb
  by_cases h : secq q (metq q S) p = 0
  · rw [decide_eq_true h, arcq, allB_iff]
    intro l hl
    have h1 := of_decide_eq_true (hb l hl)
    have h2 := met_up (l := l) hp hS
    refine decide_eq_true ?_
    cases ho : onq q p l
    · rw [ho] at h2; simp at h2; omega
    · have h3 := (sec_zero hq hp).mp h l hl ho
      rw [ho] at h2; simp at h2; omega
  · rw [decide_eq_false h]
    refine Bool.eq_false_iff.mpr (fun z => h ((sec_zero hq hp).mpr (fun l hl ho => ?_)))
    have h1 := of_decide_eq_true (allB_iff.mp z l hl)
    have h2 := met_up (l := l) hp hS
    rw [ho] at h2; simp at h2; omega
/-- closed under joins and meets -/
def clsd (q : Nat) (C : Nat → Bool) : Prop := ∀ l k, l < nn q → k < l → 1 < metq q C l → 1 < metq q C k → C (joinq q l k) = true
def subN (n : Nat) (G K : Nat → Bool) : Prop := ∀ t, t < n → G t = true → K t = true
theorem cnt_sub {G K : Nat → Bool} : ∀ {n : Nat}, subN n G K → cnt G n ≤ cnt K n
  | 0, _ => Nat.le_refl 0
  | n + 1, h => by
    have h1 := cnt_sub (n := n) (fun t ht => h t (by omega))
    have h2 := h n (by omega)
    rw [cnt, cnt]
    cases hg : G n
    · simp; omega
    · rw [h2 hg]; simp; exact h1
theorem met_sub {q l : Nat} {G K : Nat → Bool} (h : subN (nn q) G K) : metq q G l ≤ metq q K l := cnt_sub (fun t ht hg => by
  rw [Bool.and_eq_true] at hg ⊢
  exact ⟨h t ht hg.1, hg.2⟩)
theorem cnt_two {P : Nat → Bool} : ∀ {n : Nat}, 2 ≤ cnt P n → ∃ a b, a < b ∧ b < n ∧ P a = true ∧ P b = true
  | 0, h => absurd h (by rw [cnt]; omega)
  | n + 1, h => by
    rw [cnt] at h
    rcases Nat.lt_or_ge (cnt P n) 2 with z | z
    · cases hp : P n
      · rw [hp] at h; simp at h; omega
      · have h1 : ¬ cnt P n = 0 := by rw [hp] at h; simp at h; omega
        have h2 : ∃ t, t < n ∧ P t = true := Classical.byContradiction (fun y => h1 (cnt_0.mpr (fun t ht => by
          cases e : P t
          · rfl
          · exact absurd ⟨t, ht, e⟩ y)))
        obtain ⟨t, ht, e⟩ := h2
        exact ⟨t, n, ht, Nat.lt_succ_self n, e, hp⟩
    · obtain ⟨a, b, h1, h2, h3, h4⟩ := cnt_two z
      exact ⟨a, b, h1, by omega, h3, h4⟩
theorem rowq_inj : ∀ q ∈ qs, ∀ p, p < nn q → ∀ b, b < q + 1 → ∀ a, a < b → rowq q p a < rowq q p b := by decide +kernel
theorem rowq_on {q p t : Nat} (hq : q ∈ qs) (hp : p < nn q) (ht : t < q + 1) : onq q (rowq q p t) p = true := (row_all (P := fun l => onq q l p = true) hq hp).mpr (fun _ _ h => h) t ht
theorem join_sw {q l k : Nat} (hq : q ∈ qs) (hl : l < nn q) (hk : k < nn q) (h : ¬ l = k) {p : Nat} (hp : p < nn q) (h1 : onq q l p = true) (h2 : onq q k p = true) : joinq q l k = p := ((join_ok hq hl hk h).2.2.2 p hp h1 h2).symm
/-- a point where two lines meet that have two each -/
theorem sec_two {q p : Nat} {f : Nat → Nat} (hq : q ∈ qs) (hp : p < nn q) : 2 ≤ secq q f p ↔ ∃ l k, l < nn q ∧ k < l ∧ joinq q l k = p ∧ 1 < f l ∧ 1 < f k := by
  constructor
  · intro h
    obtain ⟨a, b, h1, h2, h3, h4⟩ := cnt_two h
    have hr := rowq_inj q hq p hp b h2 a h1
    have hb := rowq_lt hq hp (show b ≤ q by omega)
    have ha := rowq_lt hq hp (show a ≤ q by omega)
    exact ⟨rowq q p b, rowq q p a, hb, hr, join_sw hq hb ha (by omega) hp (rowq_on hq hp h2) (rowq_on hq hp (by omega)), of_decide_eq_true h4, of_decide_eq_true h3⟩
  · rintro ⟨l, k, hl, hk, hj, h1, h2⟩
    have ho := join_ok hq hl (show k < nn q by omega) (show ¬ l = k by omega)
    rw [hj] at ho
    refine Classical.byContradiction (fun z => ?_)
    -- two places of the row
    have hx : ∀ x, x < nn q → onq q x p = true → ∃ t, t < q + 1 ∧ rowq q p t = x := fun x hx ox => Classical.byContradiction (fun y => by
      exact (row_all (P := fun l => ¬ l = x) hq hp).mp (fun t ht e => y ⟨t, ht, e⟩) x hx ox rfl)
    obtain ⟨a, ha, ea⟩ := hx l hl ho.2.1
    obtain ⟨b, hb, eb⟩ := hx k (by omega) ho.2.2.1
    have hab : ¬ a = b := fun e => by rw [e, eb] at ea; omega
    have hPa : decide (2 ≤ f (rowq q p a)) = true := by rw [ea]; exact decide_eq_true h1
    have hPb : decide (2 ≤ f (rowq q p b)) = true := by rw [eb]; exact decide_eq_true h2
    have key : ∀ x y, x < y → y < q + 1 → decide (2 ≤ f (rowq q p x)) = true → decide (2 ≤ f (rowq q p y)) = true → 2 ≤ secq q f p := fun x y hxy hy h3 h4 => by
      have e1 := cnt_lt (P := fun t => decide (2 ≤ f (rowq q p t))) hxy h3
      have e2 := cnt_lt (P := fun t => decide (2 ≤ f (rowq q p t))) hy h4
      rw [secq]; omega
    rcases Nat.lt_or_ge a b with y | y
    · exact z (key a b y hb hPa hPb)
    · exact z (key b a (by omega) ha hPb hPa)
theorem clsd_iff {q : Nat} {C : Nat → Bool} (hq : q ∈ qs) : clsd q C ↔ eqN (nn q) (stpC q C) C := by
  constructor
  · intro h t ht
    rw [stpC]
    cases hc : C t
    · rw [Bool.false_or]
      refine decide_eq_false (fun z => ?_)
      obtain ⟨l, k, h1, h2, h3, h4, h5⟩ := (sec_two hq ht).mp z
      have := h l k h1 h2 h4 h5
      rw [h3, hc] at this; cases this
    · rfl
  · intro h l k hl hk h1 h2
    have hp := (join_ok hq hl (show k < nn q by omega) (show ¬ l = k by omega)).1
    have h3 := h _ hp
    rw [stpC, decide_eq_true ((sec_two hq hp).mpr ⟨l, k, hl, hk, rfl, h1, h2⟩), Bool.or_true] at h3
    exact h3.symm
theorem it_grow {q : Nat} {S : Nat → Bool} (hq : q ∈ qs) : ∀ k, (∃ j, j < k ∧ eqN (nn q) (itC q S (j + 1)) (itC q S j)) ∨ k ≤ cnt (itC q S k) (nn q)
  | 0 => Or.inr (Nat.zero_le _)
  | k + 1 => by
    rcases it_grow hq k with ⟨j, hj, e⟩ | h
    · exact Or.inl ⟨j, by omega, e⟩
    · by_cases e : eqN (nn q) (itC q S (k + 1)) (itC q S k)
      · exact Or.inl ⟨k, by omega, e⟩
      · refine Or.inr ?_
        have hs : subN (nn q) (itC q S k) (itC q S (k + 1)) := fun t _ ht => by
          show stpC q (itC q S k) t = true
          rw [stpC, ht]; rfl
        obtain ⟨t, ht, e1, e2⟩ : ∃ t, t < nn q ∧ itC q S k t = false ∧ itC q S (k + 1) t = true := Classical.byContradiction (fun y => e (fun t ht => by
          cases e1 : itC q S k t
          · cases e2 : itC q S (k + 1) t
            · rfl
            · exact absurd ⟨t, ht, e1, e2⟩ y
          · exact hs t ht e1))
        have h3 := cnt_strict hs ht e1 e2
        omega
where cnt_strict {G K : Nat → Bool} {t : Nat} : ∀ {n : Nat}, subN n G K → t < n → G t = false → K t = true → cnt G n < cnt K n
  | 0, _, h, _, _ => absurd h (Nat.not_lt_zero t)
  | n + 1, h, ht, e1, e2 => by
    have hs : subN n G K := fun t ht => h t (by omega)
    rw [cnt, cnt]
    rcases Nat.lt_succ_iff_lt_or_eq.mp ht with a | a
    · have h1 := cnt_strict hs a e1 e2
      have h2 := h n (by omega)
      cases hg : G n
      · simp; omega
      · rw [h2 hg]; simp; exact h1
    · subst a
      have h1 := cnt_sub hs
      rw [e1, e2]; simp; omega
theorem clo_fix {q : Nat} {S : Nat → Bool} (hq : q ∈ qs) : eqN (nn q) (stpC q (cloq q S)) (cloq q S) := by
  rcases it_grow (S := S) hq (nn q) with ⟨j, hj, e⟩ | h
  · have h1 := it_stab hq e (nn q - j)
    have h2 := it_stab hq e (nn q - j + 1)
    rw [show j + (nn q - j) = nn q by omega] at h1
    rw [show j + (nn q - j + 1) = nn q + 1 by omega] at h2
    exact h2.tr h1.sy
  · have h1 := cnt_le (itC q S (nn q)) (nn q)
    have h2 := cnt_all.mp (show cnt (itC q S (nn q)) (nn q) = nn q by omega)
    intro t ht
    rw [stpC, cloq, h2 t ht]; rfl
theorem clo_sub {q : Nat} {S : Nat → Bool} : ∀ k, subN (nn q) S (itC q S k)
  | 0 => fun _ _ h => h
  | k + 1 => fun t ht h => by
    show stpC q (itC q S k) t = true
    rw [stpC, clo_sub k t ht h]; rfl
theorem clo_min {q : Nat} {S C : Nat → Bool} (hq : q ∈ qs) (h1 : subN (nn q) S C) (hc : clsd q C) : ∀ k, subN (nn q) (itC q S k) C
  | 0 => h1
  | k + 1 => fun t ht h => by
    have ih := clo_min hq h1 hc k
    have h : stpC q (itC q S k) t = true := h
    rw [stpC, Bool.or_eq_true] at h
    rcases h with h | h
    · exact ih t ht h
    · obtain ⟨l, m, hl, hm, e, a, b⟩ := (sec_two hq ht).mp (of_decide_eq_true h)
      have a2 := met_sub (l := l) ih
      have b2 := met_sub (l := m) ih
      rw [← e]; exact hc l m hl hm (by omega) (by omega)
theorem clo_eq {q : Nat} {S C : Nat → Bool} (hq : q ∈ qs) (h1 : subN (nn q) S C) (h2 : subN (nn q) C (cloq q S)) (hc : clsd q C) : eqN (nn q) C (cloq q S) := fun t ht => by
  cases e : C t
  · cases e2 : cloq q S t
    · rfl
    · have := clo_min hq h1 hc (nn q) t ht e2
      rw [e] at this; cases this
  · exact (h2 t ht e).symm
theorem clo_add {q l k : Nat} {S C : Nat → Bool} (hq : q ∈ qs) (h2 : subN (nn q) C (cloq q S)) (hl : l < nn q) (hk : k < l) (a : 1 < metq q C l) (b : 1 < metq q C k) : subN (nn q) (upB C (joinq q l k) true) (cloq q S) := fun t ht h => by
  have a2 := met_sub (l := l) h2
  have b2 := met_sub (l := k) h2
  by_cases z : t = joinq q l k
  · rw [z]; exact (clsd_iff hq).mpr (clo_fix hq) l k hl hk (by omega) (by omega)
  · rw [upB_n z] at h; exact h2 t ht h
def clM (b : Bool) (C : Nat → Bool) (n : Nat) : Nat := if b = true then n - cnt C n + 1 else 0
theorem up_sub {n p : Nat} {C : Nat → Bool} : subN n C (upB C p true) := fun t _ h => by
  by_cases z : t = p
  · rw [z, upB_s]
  · rw [upB_n z]; exact h
theorem clM_lt {b y : Bool} {C C1 : Nat → Bool} {n N : Nat} (hN : clM b C n < N + 1) (hb : b = true) (h : y = true → cnt C n < cnt C1 n) : clM y C1 n < N := by
  have h1 := cnt_le C n
  have h2 := cnt_le C1 n
  rw [clM, if_pos hb] at hN
  rw [clM]
  cases y
  · rw [if_neg (by decide)]; omega
  · rw [if_pos rfl]; have := h rfl; omega

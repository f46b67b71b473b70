def Nmax (a b : Nat) : Nat := if a < b then b else a
def Nmin (a b : Nat) : Nat := if a ≤ b then a else b
theorem nI_max {a b : Nat} (ha : a < 2 ^ 31) (hb : b < 2 ^ 31) : (if nI a < nI b then nI b else nI a) = nI (Nmax a b) := by
  rw [Nmax]
  by_cases h : a < b
  · rw [if_pos h, if_pos ((nI_ltI ha hb).mpr h)]
  · rw [if_neg h, if_neg (fun z => h ((nI_ltI ha hb).mp z))]
def mxq (f : Nat → Nat) : Nat → Nat
  | 0 => 0
  | n + 1 => Nmax (mxq f n) (f n)
theorem mxq_le {f : Nat → Nat} {b : Nat} : ∀ {n : Nat}, mxq f n ≤ b ↔ ∀ t, t < n → f t ≤ b
  | 0 => ⟨fun _ t h => absurd h (Nat.not_lt_zero t), fun _ => Nat.zero_le b⟩
  | n + 1 => by
    have ih := mxq_le (f := f) (b := b) (n := n)
    rw [mxq, Nmax]
    constructor
    · intro h t ht
      rcases Nat.lt_succ_iff_lt_or_eq.mp ht with a | a
      · exact ih.mp (by split at h <;> omega) t a
      · subst a; split at h <;> omega
    · intro h
      have h1 := ih.mpr (fun t ht => h t (by omega))
      have h2 := h n (by omega)
      split <;> omega
theorem mxq_congr {f g : Nat → Nat} : ∀ {n : Nat}, (∀ t, t < n → f t = g t) → mxq f n = mxq g n
  | 0, _ => rfl
  | n + 1, h => by rw [mxq, mxq, mxq_congr (fun t ht => h t (by omega)), h n (by omega)]
theorem arc_mx {q : Nat} {S : Nat → Bool} : arcq q S = decide (mxq (metq q S) (nn q) ≤ 2) := by
  by_cases h : mxq (metq q S) (nn q) ≤ 2
  · rw [decide_eq_true h, arcq, allB_iff]
    exact fun t ht => decide_eq_true (by have := mxq_le.mp h t ht; omega)
  · rw [decide_eq_false h]
    refine Bool.eq_false_iff.mpr (fun z => h (mxq_le.mpr (fun t ht => ?_)))
    have := of_decide_eq_true (allB_iff.mp z t ht)
    omega
/-- how many lines have just k -/
def linq (q : Nat) (S : Nat → Bool) (k : Int32) : Nat := cnt (fun t => decide (nI (metq q S t) = k)) (nn q)
theorem cnt_0 {P : Nat → Bool} : ∀ {n : Nat}, cnt P n = 0 ↔ ∀ t, t < n → P t = false
  | 0 => ⟨fun _ t h => absurd h (Nat.not_lt_zero t), fun _ => rfl⟩
  | n + 1 => by
    have ih := cnt_0 (P := P) (n := n)
    rw [cnt]
    constructor
    · intro h t ht
      rcases Nat.lt_succ_iff_lt_or_eq.mp ht with a | a
      · exact ih.mp (by omega) t a
      · subst a; exact bt_0.mp (by omega)
    · intro h
      have h1 := ih.mpr (fun t ht => h t (by omega))
      have h2 := bt_0.mpr (h n (by omega))
      omega
theorem metq_le (q : Nat) (S : Nat → Bool) (l : Nat) : metq q S l ≤ nn q := cnt_le _ _
theorem blk_lin {q : Nat} {S : Nat → Bool} (hq : q ∈ qs) : blkq q S = decide (linq q S (nI 0) = 0) := by
  have hn := nn_le hq
  have e : ∀ t, nI (metq q S t) = nI 0 ↔ metq q S t = 0 := fun t => by
    have := metq_le q S t
    exact nI_eq (by omega) (by decide)
  by_cases h : linq q S (nI 0) = 0
  · rw [decide_eq_true h, blkq, allB_iff]
    intro t ht
    have h1 := of_decide_eq_false (cnt_0.mp h t ht)
    rw [e] at h1
    exact decide_eq_true (by omega)
  · rw [decide_eq_false h]
    refine Bool.eq_false_iff.mpr (fun z => h (cnt_0.mpr (fun t ht => ?_)))
    have := of_decide_eq_true (allB_iff.mp z t ht)
    exact decide_eq_false (by rw [e]; omega)
def spaq (q : Nat) (S : Nat → Bool) : Nat := if blkq q S = true then cnt (fun t => S t && decide (secq q (metq q S) t = q + 1)) (nn q) else 0
def newq (q : Nat) (S : Nat → Bool) : Nat := if arcq q S = true then cnt (fun t => !S t && decide (secq q (metq q S) t = 0)) (nn q) else 0
def eqN (n : Nat) (G K : Nat → Bool) : Prop := ∀ t, t < n → G t = K t
theorem eqN.sy {n : Nat} {G K : Nat → Bool} (h : eqN n G K) : eqN n K G := fun t ht => (h t ht).symm
theorem eqN.tr {n : Nat} {G K L : Nat → Bool} (h : eqN n G K) (h2 : eqN n K L) : eqN n G L := fun t ht => (h t ht).trans (h2 t ht)
theorem met_congr {q l : Nat} {G K : Nat → Bool} (h : eqN (nn q) G K) : metq q G l = metq q K l := cnt_congr (fun t ht => by rw [h t ht])
theorem sec_congr {q p : Nat} {G K : Nat → Bool} (hq : q ∈ qs) (hp : p < nn q) (h : eqN (nn q) G K) : secq q (metq q G) p = secq q (metq q K) p := secq_congr hq hp (fun l _ => met_congr h)
def anyB (P : Nat → Bool) : Nat → Bool
  | 0 => false
  | n + 1 => anyB P n || P n
theorem anyB_f {P : Nat → Bool} : ∀ {n : Nat}, anyB P n = false ↔ ∀ t, t < n → P t = false
  | 0 => ⟨fun _ t h => absurd h (Nat.not_lt_zero t), fun _ => rfl⟩
  | n + 1 => by
    rw [anyB, Bool.or_eq_false_iff, anyB_f]
    exact ⟨fun h t ht => (Nat.lt_succ_iff_lt_or_eq.mp ht).elim (h.1 t) (fun z => by rw [z]; exact h.2), fun h => ⟨fun t ht => h t (by omega), h n (by omega)⟩⟩
/-- one round, and many, of what joins and meets lead to -/
def stpC (q : Nat) (G : Nat → Bool) : Nat → Bool := fun t => G t || decide (2 ≤ secq q (metq q G) t)
def itC (q : Nat) (S : Nat → Bool) : Nat → Nat → Bool
  | 0 => S
  | k + 1 => stpC q (itC q S k)
def cloq (q : Nat) (S : Nat → Bool) : Nat → Bool := itC q S (nn q)
theorem stp_congr {q : Nat} {G K : Nat → Bool} (hq : q ∈ qs) (h : eqN (nn q) G K) : eqN (nn q) (stpC q G) (stpC q K) := fun t ht => by rw [stpC, stpC, h t ht, sec_congr hq ht h]
theorem it_stab {q i : Nat} {S : Nat → Bool} (hq : q ∈ qs) (h : eqN (nn q) (itC q S (i + 1)) (itC q S i)) : ∀ j, eqN (nn q) (itC q S (i + j)) (itC q S i)
  | 0 => fun _ _ => rfl
  | j + 1 => (stp_congr hq (it_stab hq h j)).tr h
/-- the greedy arc -/
def grq (q : Nat) (S : Nat → Bool) : Nat → Nat → Bool
  | 0 => S
  | k + 1 => if grq q S k k = false ∧ secq q (metq q (grq q S k)) k = 0 then upB (grq q S k) k true else grq q S k
theorem up_congr {n k : Nat} {b : Bool} {G K : Nat → Bool} (h : eqN n G K) : eqN n (upB G k b) (upB K k b) := fun t ht => by
  by_cases z : t = k
  · rw [z, upB_s, upB_s]
  · rw [upB_n z, upB_n z]; exact h t ht
theorem spaq_le {q : Nat} {S : Nat → Bool} : spaq q S ≤ nn q := by
  rw [spaq]; split
  · exact cnt_le _ _
  · exact Nat.zero_le _
theorem newq_le {q : Nat} {S : Nat → Bool} : newq q S ≤ nn q := by
  rw [newq]; split
  · exact cnt_le _ _
  · exact Nat.zero_le _
/-- a round that brought nothing -/
theorem close_no {q i : Nat} {S G : Nat → Bool} {o : Nat → Nat} {b : Bool} (hq : q ∈ qs) (he : eqN (nn q) G (itC q S i)) (ho : ∀ t, t < nn q → o t = metq q G t) (hb : b = anyB (fun t => !G t && decide (2 ≤ secq q o t)) (nn q)) (h : b = false) : eqN (nn q) (itC q S (i + 1)) (itC q S i) := by
  have h1 := anyB_f.mp (hb.symm.trans h)
  intro t ht
  have h2 := h1 t ht
  show stpC q (itC q S i) t = itC q S i t
  rw [stpC, ← sec_congr hq ht he, ← secq_congr hq ht ho, ← he t ht]
  cases hg : G t
  · rw [hg] at h2; simpa using h2
  · rfl

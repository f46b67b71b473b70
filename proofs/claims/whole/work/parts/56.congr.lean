theorem met_fun {q : Nat} {S T : Nat → Bool} (h : eqN (nn q) S T) : metq q S = metq q T := by
  funext l
  exact cnt_congr (fun t ht => by rw [h t ht])
theorem lin_congr {q : Nat} {S T : Nat → Bool} {k : Int32} (h : eqN (nn q) S T) : linq q S k = linq q T k := by rw [linq, linq, met_fun h]
theorem arq_congr {q : Nat} {S T : Nat → Bool} (h : eqN (nn q) S T) : arcq q S = arcq q T := by rw [arcq, arcq, met_fun h]
theorem blk_congr {q : Nat} {S T : Nat → Bool} (h : eqN (nn q) S T) : blkq q S = blkq q T := by rw [blkq, blkq, met_fun h]
theorem spa_congr {q : Nat} {S T : Nat → Bool} (h : eqN (nn q) S T) : spaq q S = spaq q T := by
  rw [spaq, spaq, blk_congr h, met_fun h, cnt_congr (fun t ht => by rw [h t ht])]
theorem new_congr {q : Nat} {S T : Nat → Bool} (h : eqN (nn q) S T) : newq q S = newq q T := by
  rw [newq, newq, arq_congr h, met_fun h, cnt_congr (fun t ht => by rw [h t ht])]
theorem it_congr {q : Nat} {S T : Nat → Bool} (hq : q ∈ qs) (h : eqN (nn q) S T) : ∀ k, eqN (nn q) (itC q S k) (itC q T k)
  | 0 => h
  | k + 1 => stp_congr hq (it_congr hq h k)
theorem clo_congr {q : Nat} {S T : Nat → Bool} (hq : q ∈ qs) (h : eqN (nn q) S T) : eqN (nn q) (cloq q S) (cloq q T) := it_congr hq h (nn q)
theorem gr_congr {q : Nat} {S T : Nat → Bool} (h : eqN (nn q) S T) : ∀ k, k ≤ nn q → eqN (nn q) (grq q S k) (grq q T k)
  | 0, _ => h
  | k + 1, hk => by
    have ih := gr_congr h k (by omega)
    rw [grq, grq, met_fun ih, ih k (by omega)]
    split
    · exact up_congr ih
    · exact ih
theorem gre_congr {q : Nat} {S T : Nat → Bool} {k : Int32} (h : eqN (nn q) S T) : greZ q S k = greZ q T k := by
  have e := gr_congr h (nn q) (Nat.le_refl _)
  rw [greZ, greZ, arq_congr h, cnt_congr e, pick_congr e]
theorem is_congr {q : Nat} {S T : Nat → Bool} {x : Int32} (hq : q ∈ qs) (h : eqN (nn q) S T) : isZ q S x = isZ q T x := by
  rw [isZ, isZ, arq_congr h, new_congr h, blk_congr h, cnt_congr (clo_congr hq h), cnt_congr h]
theorem cou_congr {q w : Nat} {S T : Nat → Bool} {ln : Nat → Nat} {x : Int32} (hq : q ∈ qs) (h : eqN (nn q) S T) : couZ q S w ln x = couZ q T w ln x := by
  rw [couZ, couZ, cnt_congr h, spa_congr h, cnt_congr (clo_congr hq h), new_congr h]
theorem clp_congr {q : Nat} {S T : Nat → Bool} {k : Int32} (hq : q ∈ qs) (h : eqN (nn q) S T) : pickZ (cloq q S) (nn q) k = pickZ (cloq q T) (nn q) k := pick_congr (clo_congr hq h)
theorem any_congr {P R : Nat → Bool} : ∀ {n : Nat}, (∀ t, t < n → P t = R t) → anyB P n = anyB R n
  | 0, _ => rfl
  | n + 1, h => by rw [anyB, anyB, any_congr (fun t ht => h t (by omega)), h n (Nat.lt_succ_self n)]
theorem mov_fun {q : Nat} {mm : Nat → Nat} {S T : Nat → Bool} (h : eqN (nn q) S T) : movq q mm S = movq q mm T := by
  funext t
  exact any_congr (fun p hp => by rw [h p hp])
theorem sol_fun {q : Nat} {S T : Nat → Bool} (h : eqN (nn q) S T) : sol6 q S = sol6 q T := by
  funext y
  refine propext ⟨fun w => ⟨w.1, fun t ht s => w.2.1 t ht (by rw [h t ht]; exact s), w.2.2⟩, fun w => ⟨w.1, fun t ht s => w.2.1 t ht (by rw [← h t ht]; exact s), w.2.2⟩⟩
theorem thr_congr {q : Nat} {S T : Nat → Bool} {k : Int32} (h : eqN (nn q) S T) : thrZ q S k = thrZ q T k := by
  rw [thrZ, thrZ, fivB, fivB, cnt_congr h, met_fun h, thrV, thrV, thrY, thrY, sol_fun h]
theorem putZ_congr {q : Nat} {S T : Nat → Bool} {x : Int32} (h : eqN (nn q) S T) : putZ q S x = putZ q T x := by
  rw [putZ, putZ]
  cases e : inB x (nn q)
  · rfl
  · have : nv x < nn q := by
      have := of_decide_eq_true e
      rw [nv]; omega
    rw [h _ this]
theorem putS_congr {q : Nat} {S T : Nat → Bool} {x : Int32} {b : Bool} (h : eqN (nn q) S T) : eqN (nn q) (putS q S x b) (putS q T x b) := by
  rw [putS, putS]
  split
  · exact h
  · exact up_congr h
theorem curS_congr {q : Nat} {S T : Nat → Bool} {a b c d e f : Int32} (h : eqN (nn q) S T) : eqN (nn q) (curS q S a b c d e f) (curS q T a b c d e f) := by
  rw [curS, curS]
  split
  · exact h
  · split
    · exact h
    · exact fun _ _ => rfl
theorem eqN_two {n : Nat} {S T A B : Nat → Bool} (h1 : eqN n S A) (h2 : eqN n T B) (h : eqN n A B) : eqN n S T := fun t ht => ((h1 t ht).trans (h t ht)).trans (h2 t ht).symm
/-- numbers of the maps stay numbers -/
theorem ent_lt {q : Nat} {mm : Nat → Nat} {k x : Int32} (h : MPK q mm) : MPK q (entM q mm k x) := by
  rw [entM]
  split
  · exact h
  · split
    · exact h
    · rename_i h1 h2
      intro t ht
      by_cases z : t = nv k
      · rw [z, upN_s]
        have h3 : inB x q = true := by cases e : inB x q <;> first | rfl | exact absurd e h2
        have := of_decide_eq_true h3
        rw [nv]; omega
      · rw [upN_n z]; exact h t ht
theorem inv_lt {q : Nat} {mm : Nat → Nat} (hq : q ∈ qs) (h : MPK q mm) : MPK q (invM q mm) := fun t ht => by
  rw [invM]
  split
  · exact h t ht
  · exact tld_lt hq ht (fun k _ => cofq_lt hq h)
theorem inB_nv {x : Int32} {n : Nat} (h : inB x n = true) : nv x < n := by
  have := of_decide_eq_true h
  rw [nv]; omega
theorem frc_lt {q a b c d k : Nat} (hq : q ∈ qs) (ha : a < nn q) (hb : b < nn q) (hc : c < nn q) (hd : d < nn q) (hk : k < 9) : frc q a b c d k < q :=
  colq_lt hq (vdet_lt hq (ptv hq hd) (ptv hq hb) (ptv hq hc)) (vdet_lt hq (ptv hq ha) (ptv hq hd) (ptv hq hc)) (vdet_lt hq (ptv hq ha) (ptv hq hb) (ptv hq hd)) ha hb hc hk
theorem in4_nv {n : Nat} {a b c d : Int32} (h : ¬ (inB a n && inB b n && inB c n && inB d n) = false) : nv a < n ∧ nv b < n ∧ nv c < n ∧ nv d < n := by
  have h : (inB a n && inB b n && inB c n && inB d n) = true := by
    cases e : (inB a n && inB b n && inB c n && inB d n) <;> first | rfl | exact absurd e h
  rw [Bool.and_eq_true, Bool.and_eq_true, Bool.and_eq_true] at h
  exact ⟨inB_nv h.1.1.1, inB_nv h.1.1.2, inB_nv h.1.2, inB_nv h.2⟩
theorem fra_lt {q : Nat} {mm : Nat → Nat} {a b c d : Int32} (hq : q ∈ qs) (h : MPK q mm) : MPK q (fraM q mm a b c d) := fun t ht => by
  rw [fraM]
  split
  · exact h t ht
  · rename_i h1
    have h2 := in4_nv h1
    split
    · exact h t ht
    · exact tld_lt hq ht (fun k hk => frc_lt hq h2.1 h2.2.1 h2.2.2.1 h2.2.2.2 hk)
theorem beh_lt {q : Nat} {mm : Nat → Nat} {a b c d : Int32} (hq : q ∈ qs) (h : MPK q mm) : MPK q (behM q mm a b c d) := fun t ht => by
  rw [behM]
  split
  · exact h t ht
  · rename_i h1
    have h2 := in4_nv h1
    split
    · exact h t ht
    · split
      · exact h t ht
      · exact tld_lt hq ht (fun k hk => mulq_lt hq h (fun j hj => tld_lt hq hj (fun k hk => frc_lt hq h2.1 h2.2.1 h2.2.2.1 h2.2.2.2 hk)) hk)
/-- the tables stay the same -/
def TB (w : Nat) (ln : Nat → Nat) (mk : Nat → Bool) : Prop := TRl ln mk ∧ bitW ln w ∧ LNK ln ∧ 1 ≤ w ∧ w ≤ 13
theorem tbl_0 {ln : Nat → Nat} {l p : Nat} (h : ln l = 0) : tbl ln l p = false := by rw [tbl, h, Nat.zero_testBit]
theorem TB_tab {w w3 w4 : Nat} {ln ln3 : Nat → Nat} {mk mk3 : Nat → Bool} {x : Int32} (h : TB w ln mk) (h1 : tabP w ln x w3 ln3) (h2 : tabK w mk x w4 mk3) : w4 = w3 ∧ TB w3 ln3 mk3 := by
  rcases h1 with ⟨a1, rfl, rfl⟩ | ⟨a1, a2, a3⟩
  · rcases h2 with ⟨b1, rfl, rfl⟩ | ⟨b1, _⟩
    · exact ⟨rfl, h⟩
    · rw [a1] at b1; cases b1
  · rcases h2 with ⟨b1, _⟩ | ⟨b1, b2, b3⟩
    · rw [a1] at b1; cases b1
    · have hr := of_decide_eq_true a1
      refine ⟨b2.trans a2.symm, fun l p hl hp => ?_, fun l p hl _ _ => tbl_0 (a3 l hl), fun l hl => by rw [a3 l hl]; decide, ?_, ?_⟩
      · rw [b3 _ (by omega), tbl_0 (a3 l hl)]
      · rw [a2, nv]; omega
      · rw [a2, nv]; omega
theorem TB_mar {w : Nat} {ln : Nat → Nat} {mk : Nat → Bool} {a b : Int32} {on : Bool} (h : TB w ln mk) : TB w (marL w ln a b on) (marK w mk a b on) := by
  rw [marL, marK]
  split
  · exact h
  · split
    · exact h
    · rename_i h1 h2
      have ha : nv a < w := inB_nv (by cases e : inB a w <;> first | rfl | exact absurd e h1)
      have hb : nv b < w := inB_nv (by cases e : inB b w <;> first | rfl | exact absurd e h2)
      obtain ⟨t1, t2, t3, t4, t5⟩ := h
      have hb13 : nv b < 13 := by omega
      have key : ∀ l p, l < 13 → p < 13 → tbl (upN ln (nv a) (smk (ln (nv a)) (nv b) on)) l p = if l = nv a ∧ p = nv b then on else tbl ln l p := fun l p hl hp => by
        rw [tbl, tbl]
        by_cases z : l = nv a
        · rw [z, upN_s, smk_tb hb13 hp]
          by_cases y : p = nv b
          · rw [if_pos y, if_pos ⟨rfl, y⟩]
          · rw [if_neg y, if_neg (fun x => y x.2)]
        · rw [upN_n z, if_neg (fun x => z x.1)]
      refine ⟨fun l p hl hp => ?_, fun l p hl hp hn => ?_, fun l hl => ?_, t4, t5⟩
      · rw [key l p hl hp]
        by_cases z : l = nv a ∧ p = nv b
        · rw [if_pos z, z.1, z.2, upB_s]
        · rw [if_neg z, upB_n (by omega)]; exact t1 l p hl hp
      · rw [key l p hl hp, if_neg (fun x => hn ⟨by omega, by omega⟩)]; exact t2 l p hl hp hn
      · by_cases z : l = nv a
        · rw [z, upN_s]; exact smk_lt (t3 _ (by omega)) hb13
        · rw [upN_n z]; exact t3 l hl
theorem TB_tol {q w w3 w4 : Nat} {ln ln3 : Nat → Nat} {mk mk3 : Nat → Bool} (hq : q ∈ qs) (h : TB w ln mk) (h1 : tolP q w ln w3 ln3) (h2 : tolK q w mk w4 mk3) : w4 = w3 ∧ TB w3 ln3 mk3 := by
  rcases h1 with ⟨a1, rfl, rfl⟩ | ⟨a1, a2, a3, a4, a5⟩
  · rcases h2 with ⟨b1, rfl, rfl⟩ | ⟨b1, _⟩
    · exact ⟨rfl, h⟩
    · omega
  · rcases h2 with ⟨b1, _⟩ | ⟨b1, b2, b3⟩
    · omega
    · have h13 : nn q ≤ 13 := by
        have h9 : q * q ≤ 3 * 3 := Nat.mul_le_mul a1 a1
        rw [nn]; omega
      refine ⟨b2.trans a2.symm, fun l p hl hp => ?_, fun l p hl hp hn => a5 l p hl hp (by rw [← a2]; exact hn), a3, ?_, ?_⟩
      · rw [b3 l p hl hp]
        by_cases z : l < nn q ∧ p < nn q
        · rw [decide_eq_true z, a4 l p z.1 z.2]; rfl
        · rw [decide_eq_false z, a5 l p hl hp z]; rfl
      · rw [a2, nn]; omega
      · rw [a2]; exact h13
theorem id_lt {q : Nat} {mm : Nat → Nat} (hq : q ∈ qs) (h : ∀ t, t < 9 → mm t = if t % 4 = 0 then 1 else 0) : MPK q mm := fun t ht => by
  have := qs_le hq
  rw [h t ht]; split <;> omega

set_option maxHeartbeats 4000000 in
set_option maxRecDepth 100000 in
theorem law_loop {p : Program} {e : Env} {s : State} {m : MethodId} {below : List Frame} {meth : Method} {c : Code} (l : Launch) {b L : Nat} {xs : Nat → Int32} (D : va_G) (cI cZ : ClassId) (ad md : Nat → Nat) (A : Nat → Prop) (hA : ∀ q : Nat, s.heap.size ≤ q → A q) (hbA : ¬ A b) (hL : L ≤ 448) (C0 : lw_At p s m meth c b L xs) (hK : va_K D vwCl (tyG cI cZ) s) (hN : NW s) (hA2 : ∀ q : Nat, A q → s.heap.size ≤ q) : ∀ (N i : Nat) (ls : Array Slot) (H : Heap) (locs : List Loc), L + 7 - i < N → i ≤ L → LI D cI cZ ad md A s H locs → lv_has ls 4 [(0, .ref b), (1, .ref (ad 26)), (2, .ref (md 0)), (3, .int (nI i))] → LG p l e s m b below meth c H locs 18 ls [] := by
  obtain ⟨hx, hb, hr, hml, hown, hts0, hX, hbl, hlocks, hgv⟩ := id C0
  intro N
  induction N with
  | zero => intro i ls H locs hn; exact absurd hn (Nat.not_lt_zero _)
  | succ N ih =>
    intro i ls H locs hn hiL hI hl
    have hS : va_S A s.heap H locs := by
      obtain ⟨_, _, _, _, _, _, _, _, _, _, _, _, _, _, _, _, _, _, _, _, _, _, _, _, _, _, _, _, _, _, _, _, _, _, _, _, _, _, _, _, hS⟩ := hI
      exact hS
    refine lv_iload_n hx hb dL_law_18 rfl (lv_at hl 3 rfl) ?_
    refine lv_aload_n hx hb dL_law_19 rfl (lv_at hl 0 rfl) ?_
    refine va_slen hx hb hX hbl hbA hS dL_law_20 ?_
    refine lv_bipush (v := nI 7) hx hb dL_law_21 (by decide) ?_
    refine lv_isub hx hb dL_law_23 ?_
    refine lv_icmp_gt (tgt := 1088) hx hb dL_law_24 (by decide) (fun _ => ?_) (fun c24 => ?_)
    · refine lv_iconst (v := 1) hx hb dL_law_1088 (by decide) ?_
      refine va_forget (fun q hq => hA2 _ (hS.2.2 q hq)) ?_
      exact lw_ret hx hb hr hlocks dL_law_1089
    · have hi : i + 7 ≤ L := lw_go hL (by omega) c24
      have next : ∀ (H : Heap) (locs : List Loc), LI D cI cZ ad md A s H locs → LG p l e s m b below meth c H locs 1082 ls [] := fun H locs hI => by
        refine lv_iinc (v := nI (i + 7)) (lv' := [(3, .int (nI (i + 7))), (0, .ref b), (1, .ref (ad 26)), (2, .ref (md 0))]) hx hb dL_law_1082 hl (k := 3) rfl (nI_add i 7) (by decide) rfl (fun ls hl => ?_)
        refine lv_goto (tgt := 18) hx hb dL_law_1085 (by decide) ?_
        exact ih (i + 7) ls H locs (by omega) hi hI (lv_sub hl [1, 2, 3, 0] rfl)
      refine lv_aload_n hx hb dL_law_27 rfl (lv_at hl 0 rfl) ?_
      refine lv_iload_n hx hb dL_law_28 rfl (lv_at hl 3 rfl) ?_
      refine nv_sld hx hb hX hbl hbA hS (show i < L by omega) hL dL_law_29 ?_
      refine lv_bipush (v := nI 31) hx hb dL_law_30 (by decide) ?_
      refine lv_iand hx hb dL_law_32 ?_
      refine lv_topi (fun z ez => ?_)
      rcases (show z.toInt = 0 ∨ z.toInt = 1 ∨ z.toInt = 2 ∨ z.toInt = 3 ∨ z.toInt = 4 ∨ z.toInt = 5 ∨ z.toInt = 6 ∨ z.toInt = 7 ∨ z.toInt = 8 ∨ z.toInt = 9 ∨ z.toInt = 10 ∨ z.toInt = 11 ∨ z.toInt = 12 ∨ z.toInt = 13 ∨ z.toInt = 14 ∨ z.toInt = 15 ∨ z.toInt = 16 ∨ z.toInt = 17 ∨ z.toInt = 18 ∨ z.toInt = 19 ∨ z.toInt = 20 ∨ z.toInt = 21 ∨ z.toInt = 22 ∨ z.toInt = 23 ∨ z.toInt = 24 ∨ z.toInt = 25 ∨ z.toInt = 26 ∨ z.toInt = 27 ∨ z.toInt = 28 ∨ z.toInt = 29 ∨ (z.toInt < 0 ∨ 29 < z.toInt) by omega) with sw | sw | sw | sw | sw | sw | sw | sw | sw | sw | sw | sw | sw | sw | sw | sw | sw | sw | sw | sw | sw | sw | sw | sw | sw | sw | sw | sw | sw | sw | sw
      · refine lv_tableIn (tgt := 168) hx hb dL_law_33 (by omega) (by omega) (by rw [sw]; rfl) (by decide) ?_
        exact lawc_0 l D cI cZ ad md A hA hbA hL C0 hK hN hi hl hI next
      · refine lv_tableIn (tgt := 191) hx hb dL_law_33 (by omega) (by omega) (by rw [sw]; rfl) (by decide) ?_
        exact lawc_1 l D cI cZ ad md A hA hbA hL C0 hK hN hi hl hI next
      · refine lv_tableIn (tgt := 234) hx hb dL_law_33 (by omega) (by omega) (by rw [sw]; rfl) (by decide) ?_
        exact lawc_2 l D cI cZ ad md A hA hbA hL C0 hK hN hi hl hI next
      · refine lv_tableIn (tgt := 267) hx hb dL_law_33 (by omega) (by omega) (by rw [sw]; rfl) (by decide) ?_
        exact lawc_3 l D cI cZ ad md A hA hbA hL C0 hK hN hi hl hI next
      · refine lv_tableIn (tgt := 310) hx hb dL_law_33 (by omega) (by omega) (by rw [sw]; rfl) (by decide) ?_
        exact lawc_4 l D cI cZ ad md A hA hbA hL C0 hK hN hi hl hI next
      · refine lv_tableIn (tgt := 343) hx hb dL_law_33 (by omega) (by omega) (by rw [sw]; rfl) (by decide) ?_
        exact lawc_5 l D cI cZ ad md A hA hbA hL C0 hK hN hi hl hI next
      · refine lv_tableIn (tgt := 376) hx hb dL_law_33 (by omega) (by omega) (by rw [sw]; rfl) (by decide) ?_
        exact lawc_6 l D cI cZ ad md A hA hbA hL C0 hK hN hi hl hI next
      · refine lv_tableIn (tgt := 409) hx hb dL_law_33 (by omega) (by omega) (by rw [sw]; rfl) (by decide) ?_
        exact lawc_7 l D cI cZ ad md A hA hbA hL C0 hK hN hi hl hI next
      · refine lv_tableIn (tgt := 458) hx hb dL_law_33 (by omega) (by omega) (by rw [sw]; rfl) (by decide) ?_
        exact lawc_8 l D cI cZ ad md A hA hbA hL C0 hK hN hi hl hI next
      · refine lv_tableIn (tgt := 481) hx hb dL_law_33 (by omega) (by omega) (by rw [sw]; rfl) (by decide) ?_
        exact lawc_9 l D cI cZ ad md A hA hbA hL C0 hK hN hi hl hI next
      · refine lv_tableIn (tgt := 504) hx hb dL_law_33 (by omega) (by omega) (by rw [sw]; rfl) (by decide) ?_
        exact lawc_10 l D cI cZ ad md A hA hbA hL C0 hK hN hi hl hI next
      · refine lv_tableIn (tgt := 527) hx hb dL_law_33 (by omega) (by omega) (by rw [sw]; rfl) (by decide) ?_
        exact lawc_11 l D cI cZ ad md A hA hbA hL C0 hK hN hi hl hI next
      · refine lv_tableIn (tgt := 550) hx hb dL_law_33 (by omega) (by omega) (by rw [sw]; rfl) (by decide) ?_
        exact lawc_12 l D cI cZ ad md A hA hbA hL C0 hK hN hi hl hI next
      · refine lv_tableIn (tgt := 573) hx hb dL_law_33 (by omega) (by omega) (by rw [sw]; rfl) (by decide) ?_
        exact lawc_13 l D cI cZ ad md A hA hbA hL C0 hK hN hi hl hI next
      · refine lv_tableIn (tgt := 596) hx hb dL_law_33 (by omega) (by omega) (by rw [sw]; rfl) (by decide) ?_
        exact lawc_14 l D cI cZ ad md A hA hbA hL C0 hK hN hi hl hI next
      · refine lv_tableIn (tgt := 671) hx hb dL_law_33 (by omega) (by omega) (by rw [sw]; rfl) (by decide) ?_
        exact lawc_15 l D cI cZ ad md A hA hbA hL C0 hK hN hi hl hI next
      · refine lv_tableIn (tgt := 694) hx hb dL_law_33 (by omega) (by omega) (by rw [sw]; rfl) (by decide) ?_
        exact lawc_16 l D cI cZ ad md A hA hbA hL C0 hK hN hi hl hI next
      · refine lv_tableIn (tgt := 727) hx hb dL_law_33 (by omega) (by omega) (by rw [sw]; rfl) (by decide) ?_
        exact lawc_17 l D cI cZ ad md A hA hbA hL C0 hK hN hi hl hI next
      · refine lv_tableIn (tgt := 740) hx hb dL_law_33 (by omega) (by omega) (by rw [sw]; rfl) (by decide) ?_
        exact lawc_18 l D cI cZ ad md A hA hbA hL C0 hK hN hi hl hI next
      · refine lv_tableIn (tgt := 763) hx hb dL_law_33 (by omega) (by omega) (by rw [sw]; rfl) (by decide) ?_
        exact lawc_19 l D cI cZ ad md A hA hbA hL C0 hK hN hi hl hI next
      · refine lv_tableIn (tgt := 776) hx hb dL_law_33 (by omega) (by omega) (by rw [sw]; rfl) (by decide) ?_
        exact lawc_20 l D cI cZ ad md A hA hbA hL C0 hK hN hi hl hI next
      · refine lv_tableIn (tgt := 789) hx hb dL_law_33 (by omega) (by omega) (by rw [sw]; rfl) (by decide) ?_
        exact lawc_21 l D cI cZ ad md A hA hbA hL C0 hK hN hi hl hI next
      · refine lv_tableIn (tgt := 802) hx hb dL_law_33 (by omega) (by omega) (by rw [sw]; rfl) (by decide) ?_
        exact lawc_22 l D cI cZ ad md A hA hbA hL C0 hK hN hi hl hI next
      · refine lv_tableIn (tgt := 815) hx hb dL_law_33 (by omega) (by omega) (by rw [sw]; rfl) (by decide) ?_
        exact lawc_23 l D cI cZ ad md A hA hbA hL C0 hK hN hi hl hI next
      · refine lv_tableIn (tgt := 868) hx hb dL_law_33 (by omega) (by omega) (by rw [sw]; rfl) (by decide) ?_
        exact lawc_24 l D cI cZ ad md A hA hbA hL C0 hK hN hi hl hI next
      · refine lv_tableIn (tgt := 921) hx hb dL_law_33 (by omega) (by omega) (by rw [sw]; rfl) (by decide) ?_
        exact lawc_25 l D cI cZ ad md A hA hbA hL C0 hK hN hi hl hI next
      · refine lv_tableIn (tgt := 974) hx hb dL_law_33 (by omega) (by omega) (by rw [sw]; rfl) (by decide) ?_
        exact lawc_26 l D cI cZ ad md A hA hbA hL C0 hK hN hi hl hI next
      · refine lv_tableIn (tgt := 997) hx hb dL_law_33 (by omega) (by omega) (by rw [sw]; rfl) (by decide) ?_
        exact lawc_27 l D cI cZ ad md A hA hbA hL C0 hK hN hi hl hI next
      · refine lv_tableIn (tgt := 1056) hx hb dL_law_33 (by omega) (by omega) (by rw [sw]; rfl) (by decide) ?_
        exact lawc_28 l D cI cZ ad md A hA hbA hL C0 hK hN hi hl hI next
      · refine lv_tableIn (tgt := 1069) hx hb dL_law_33 (by omega) (by omega) (by rw [sw]; rfl) (by decide) ?_
        exact lawc_29 l D cI cZ ad md A hA hbA hL C0 hK hN hi hl hI next
      · refine lv_tableOut (tgt := 1082) hx hb dL_law_33 sw (by decide) ?_
        exact next H locs hI
theorem nw_in : ∀ w ∈ nwL, w ∈ lw_tbl := by decide +kernel
set_option maxHeartbeats 4000000 in
set_option maxRecDepth 100000 in
/-- THE LAW, from its entry -/
theorem whole_start {p : Program} {e : Env} {s : State} {m : MethodId} {below : List Frame} {meth : Method} {c : Code} (l : Launch) {b L : Nat} {xs : Nat → Int32} (hL : L ≤ 448) (C0 : lw_At p s m meth c b L xs) : W p l e room_1 s m #[Value.ref b] below meth c s.heap [] 0 0 (lw_Z below #[Value.ref b] s) (entryFrame m ([Value.ref b] : List Value).toArray 4) := by
  obtain ⟨hx, hb, hr, hml, hown, hts0, hX, hbl, hlocks, hgv⟩ := id C0
  have hts := fun w h => hts0 w (wsL_law_in w h)
  obtain ⟨A, hAe⟩ : ∃ A : Nat → Prop, A = (fun q : Nat => s.heap.size ≤ q) := ⟨_, rfl⟩
  have hA : ∀ q : Nat, s.heap.size ≤ q → A q := fun q h => by rw [hAe]; exact h
  have hbA : ¬ A b := by rw [hAe]; exact Nat.not_le.mpr hbl
  obtain ⟨c0, iS0, hKn0⟩ := u_known (C := RX0) (T := TX0) (N := 5) (n := 5) hts0 inX0 (hts0 (.instantiable RX0 5) (by decide +kernel))
  obtain ⟨c1, iS1, hKn1⟩ := u_known (C := RX1) (T := TX1) (N := 5) (n := 5) hts0 inX1 (hts0 (.instantiable RX1 5) (by decide +kernel))
  obtain ⟨c2, iS2, hKn2⟩ := u_known (C := RX2) (T := TX2) (N := 5) (n := 5) hts0 inX2 (hts0 (.instantiable RX2 5) (by decide +kernel))
  obtain ⟨c3, iS3, hKn3⟩ := u_known (C := RX3) (T := TX3) (N := 4) (n := 4) hts0 inX3 (hts0 (.instantiable RX3 4) (by decide +kernel))
  obtain ⟨c4, iS4, hKn4⟩ := u_known (C := RX4) (T := TX4) (N := 4) (n := 4) hts0 inX4 (hts0 (.instantiable RX4 4) (by decide +kernel))
  obtain ⟨c5, iS5, hKn5⟩ := u_known (C := RX5) (T := TX5) (N := 2) (n := 2) hts0 inX5 (hts0 (.instantiable RX5 2) (by decide +kernel))
  obtain ⟨c6, iS6, hKn6⟩ := u_known (C := RX6) (T := TX6) (N := 7) (n := 7) hts0 inX6 (hts0 (.instantiable RX6 7) (by decide +kernel))
  obtain ⟨c7, iS7, hKn7⟩ := u_known (C := RX7) (T := TX7) (N := 20) (n := 20) hts0 inX7 (hts0 (.instantiable RX7 20) (by decide +kernel))
  obtain ⟨D, hKc⟩ : ∃ D : va_G, ∀ (k : Nat) (q : vw_C), vwCl[k]? = some q → u_Kn s q.1 q.2.1 q.2.2 (D.1 k) (D.2 k) := by
    refine ⟨(fun k => if k = 0 then c0 else if k = 1 then c1 else if k = 2 then c2 else if k = 3 then c3 else if k = 4 then c4 else if k = 5 then c5 else if k = 6 then c6 else c7, fun k => if k = 0 then iS0 else if k = 1 then iS1 else if k = 2 then iS2 else if k = 3 then iS3 else if k = 4 then iS4 else if k = 5 then iS5 else if k = 6 then iS6 else iS7), ?_⟩
    intro k q hq
    match k, hq with
    | 0, hq => cases hq; exact hKn0
    | 1, hq => cases hq; exact hKn1
    | 2, hq => cases hq; exact hKn2
    | 3, hq => cases hq; exact hKn3
    | 4, hq => cases hq; exact hKn4
    | 5, hq => cases hq; exact hKn5
    | 6, hq => cases hq; exact hKn6
    | 7, hq => cases hq; exact hKn7
    | k + 8, hq => simp [vwCl] at hq
  obtain ⟨cI, kI, compI, f1, f2, f3⟩ := Cond.arrayClass_spec (hts0 (.arrayClass .int) (by decide +kernel))
  obtain ⟨cZ, kZ, compZ, g1, g2, g3⟩ := Cond.arrayClass_spec (hts0 (.arrayClass .boolean) (by decide +kernel))
  have hK : va_K D vwCl (tyG cI cZ) s := by
    refine ⟨hKc, fun k q h => ?_⟩
    match k, h with
    | 0, h => cases h; exact ⟨fun n z => ⟨fun k h => (by cases h), kI, f2, compI, f3⟩, f1⟩
    | 1, h => cases h; exact ⟨fun n z => ⟨fun k h => (by cases h), kZ, g2, compZ, g3⟩, g1⟩
    | k + 2, h => simp [tyG] at h
  have hN : NW s := fun w hw => va_Nw.of (nest_on (nwL_nest w hw)) (hts0 w (nw_in w hw))
  have hS : va_S A s.heap s.heap [] := va_S.rf
  have hP : va_P D vwCl [] s.heap := fun k q h => by simp at h
  have hD : va_D A [] := ⟨fun i j p q h => by simp at h, fun k q h => by simp at h⟩
  have hl := lv_entry ([.ref b]) (n := 4) (Nat.le_of_ble_eq_true rfl)
  rw [lg_entry_eq]
  generalize (lg_sl ([.ref b]) ++ List.replicate (4 - (lg_sl ([.ref b])).length) Slot.unset).toArray = ls at hl ⊢
  have hl : lv_has ls 4 [(0, .ref b)] := hl
  refine va_new (ci := 6) (fs := [.null, .null, .null, .null, .null, .null, .null]) (C := RX6) (T := TX6) (N := 7) hx hb hts0 inX6 tyX6 tyX6_ok hown (hts0 (.classLink RL 7 RX6) (by decide +kernel)) (hts0 (.instantiable RX6 7) (by decide +kernel)) (hts0 (.initialized RX6) (by decide +kernel)) hK hP hD hS hA rfl (fun j hj => by rcases (show j = 0 ∨ j = 1 ∨ j = 2 ∨ j = 3 ∨ j = 4 ∨ j = 5 ∨ j = 6 by omega) with rfl | rfl | rfl | rfl | rfl | rfl | rfl <;> rfl) (Nat.le_of_ble_eq_true rfl) (Nat.le_of_ble_eq_true rfl) dL_law_0 (fun h0 H hP hD hS => ?_)
  have hP : va_P D vwCl [(h0, .inr (6, [.null, .null, .null, .null, .null, .null, .null]))] H := hP
  have hD : va_D A [(h0, .inr (6, [.null, .null, .null, .null, .null, .null, .null]))] := hD
  refine lv_dup hx hb dL_law_3 rfl ?_
  refine ctI_I (As := []) (rest := [.ref h0]) (wr := []) ⟨hx, hb, hml, hown, hts⟩ (c_X6_init l D cI cZ h0) (cwI 0 hts gL_law_X6_init rfl rfl rfl (hts0 (.initialized RX6) (by decide +kernel)) (hts0 (.methodLink RL 9 yX6_init) (by decide +kernel)) (hts0 (.instanceMethod yX6_init) (by decide +kernel)) rfl (by decide +kernel) ⟨(Nat.le_of_ble_eq_true rfl), (Nat.le_of_ble_eq_true rfl)⟩) hK hN hP hD hS hA [0] [] rfl rfl rfl (by decide) (by decide) (by decide) rfl hl.1 rfl (Nat.le_of_ble_eq_true rfl) ⟨(Nat.le_of_ble_eq_true rfl), (Nat.le_of_ble_eq_true rfl)⟩ dL_law_4 (fun u H locs hu4 hP hD hS => ?_)
  obtain ⟨b0, b1, b2, b3, b4, b5, b6, b7, b8, b9, b10, b11, b12, b13, b14, b15, b16, b17, b18, b19, b20, b21, b22, b23, b24, b25, sm, pr, op, iv, tr, ro, mm, fm⟩ := u
  try dsimp only at hu4
  have hP : va_P D vwCl [(b0, .inr (1, [.int (nI 2), .ref b1, .ref b2, .ref b3, .ref b4])), (b1, .inl (cI, 81, .inl (nF sm))), (b2, .inl (cI, 81, .inl (nF pr))), (b3, .inl (cI, 9, .inl (nF op))), (b4, .inl (cI, 9, .inl (nF iv))), (b5, .inr (3, [.ref b0, .int (nI (nn 2)), .ref b6, .ref b7])), (b6, .inl (cI, 273, .inl (nF tr))), (b7, .inl (cI, 910, .inl (nF ro))), (b8, .inr (4, [.ref b5, .ref b9, .ref b10, .ref b11])), (b9, .inl (cZ, 91, .inl (bF (fun _ => false)))), (b10, .inl (cZ, 91, .inl (bF (fun _ => false)))), (b11, .inl (cI, 91, .inl (nF (fun _ => 0)))), (b12, .inr (0, [.ref b5, .ref b0, .ref b13, .ref b14, .ref b15])), (b13, .inl (cI, 6, .inl (nF (fun _ => 0)))), (b14, .inl (cI, 30, .inl (nF (fun _ => 0)))), (b15, .inl (cI, 5, .inl (nF (fun _ => 0)))), (b16, .inr (2, [.ref b5, .ref b0, .ref b17, .ref b18, .ref b19])), (b17, .inl (cI, 9, .inl (nF mm))), (b18, .inl (cI, 9, .inl (nF (fun _ => 0)))), (b19, .inl (cZ, 91, .inl (bF (fun _ => false)))), (b20, .inr (2, [.ref b5, .ref b0, .ref b21, .ref b22, .ref b23])), (b21, .inl (cI, 9, .inl (nF fm))), (b22, .inl (cI, 9, .inl (nF (fun _ => 0)))), (b23, .inl (cZ, 91, .inl (bF (fun _ => false)))), (b24, .inr (5, [.int (nI 1), .ref b25])), (b25, .inl (cI, 13, .inl (nF (fun _ => 0)))), (h0, .inr (6, [.ref b0, .ref b5, .ref b8, .ref b12, .ref b16, .ref b20, .ref b24]))] H := hP
  have hD : va_D A [(b0, .inr (1, [.int (nI 2), .ref b1, .ref b2, .ref b3, .ref b4])), (b1, .inl (cI, 81, .inl (nF sm))), (b2, .inl (cI, 81, .inl (nF pr))), (b3, .inl (cI, 9, .inl (nF op))), (b4, .inl (cI, 9, .inl (nF iv))), (b5, .inr (3, [.ref b0, .int (nI (nn 2)), .ref b6, .ref b7])), (b6, .inl (cI, 273, .inl (nF tr))), (b7, .inl (cI, 910, .inl (nF ro))), (b8, .inr (4, [.ref b5, .ref b9, .ref b10, .ref b11])), (b9, .inl (cZ, 91, .inl (bF (fun _ => false)))), (b10, .inl (cZ, 91, .inl (bF (fun _ => false)))), (b11, .inl (cI, 91, .inl (nF (fun _ => 0)))), (b12, .inr (0, [.ref b5, .ref b0, .ref b13, .ref b14, .ref b15])), (b13, .inl (cI, 6, .inl (nF (fun _ => 0)))), (b14, .inl (cI, 30, .inl (nF (fun _ => 0)))), (b15, .inl (cI, 5, .inl (nF (fun _ => 0)))), (b16, .inr (2, [.ref b5, .ref b0, .ref b17, .ref b18, .ref b19])), (b17, .inl (cI, 9, .inl (nF mm))), (b18, .inl (cI, 9, .inl (nF (fun _ => 0)))), (b19, .inl (cZ, 91, .inl (bF (fun _ => false)))), (b20, .inr (2, [.ref b5, .ref b0, .ref b21, .ref b22, .ref b23])), (b21, .inl (cI, 9, .inl (nF fm))), (b22, .inl (cI, 9, .inl (nF (fun _ => 0)))), (b23, .inl (cZ, 91, .inl (bF (fun _ => false)))), (b24, .inr (5, [.int (nI 1), .ref b25])), (b25, .inl (cI, 13, .inl (nF (fun _ => 0)))), (h0, .inr (6, [.ref b0, .ref b5, .ref b8, .ref b12, .ref b16, .ref b20, .ref b24]))] := hD
  refine lv_astore_n (lv' := [(1, .ref h0), (0, .ref b)]) hx hb dL_law_7 rfl hl (by decide) rfl (fun ls hl => ?_)
  refine va_new (ci := 7) (fs := [.int (nI 0), .int (nI 0), .null, .null, .null, .null, .null, .null, .null, .null, .null, .null, .null, .null, .null, .null, .null, .null, .int (nI 0), .null]) (C := RX7) (T := TX7) (N := 20) hx hb hts0 inX7 tyX7 tyX7_ok hown (hts0 (.classLink RL 10 RX7) (by decide +kernel)) (hts0 (.instantiable RX7 20) (by decide +kernel)) (hts0 (.initialized RX7) (by decide +kernel)) hK hP hD hS hA rfl (fun j hj => by rcases (show j = 0 ∨ j = 1 ∨ j = 2 ∨ j = 3 ∨ j = 4 ∨ j = 5 ∨ j = 6 ∨ j = 7 ∨ j = 8 ∨ j = 9 ∨ j = 10 ∨ j = 11 ∨ j = 12 ∨ j = 13 ∨ j = 14 ∨ j = 15 ∨ j = 16 ∨ j = 17 ∨ j = 18 ∨ j = 19 by omega) with rfl | rfl | rfl | rfl | rfl | rfl | rfl | rfl | rfl | rfl | rfl | rfl | rfl | rfl | rfl | rfl | rfl | rfl | rfl | rfl <;> rfl) (Nat.le_of_ble_eq_true rfl) (Nat.le_of_ble_eq_true rfl) dL_law_8 (fun g0 H hP hD hS => ?_)
  have hP : va_P D vwCl [(b0, .inr (1, [.int (nI 2), .ref b1, .ref b2, .ref b3, .ref b4])), (b1, .inl (cI, 81, .inl (nF sm))), (b2, .inl (cI, 81, .inl (nF pr))), (b3, .inl (cI, 9, .inl (nF op))), (b4, .inl (cI, 9, .inl (nF iv))), (b5, .inr (3, [.ref b0, .int (nI (nn 2)), .ref b6, .ref b7])), (b6, .inl (cI, 273, .inl (nF tr))), (b7, .inl (cI, 910, .inl (nF ro))), (b8, .inr (4, [.ref b5, .ref b9, .ref b10, .ref b11])), (b9, .inl (cZ, 91, .inl (bF (fun _ => false)))), (b10, .inl (cZ, 91, .inl (bF (fun _ => false)))), (b11, .inl (cI, 91, .inl (nF (fun _ => 0)))), (b12, .inr (0, [.ref b5, .ref b0, .ref b13, .ref b14, .ref b15])), (b13, .inl (cI, 6, .inl (nF (fun _ => 0)))), (b14, .inl (cI, 30, .inl (nF (fun _ => 0)))), (b15, .inl (cI, 5, .inl (nF (fun _ => 0)))), (b16, .inr (2, [.ref b5, .ref b0, .ref b17, .ref b18, .ref b19])), (b17, .inl (cI, 9, .inl (nF mm))), (b18, .inl (cI, 9, .inl (nF (fun _ => 0)))), (b19, .inl (cZ, 91, .inl (bF (fun _ => false)))), (b20, .inr (2, [.ref b5, .ref b0, .ref b21, .ref b22, .ref b23])), (b21, .inl (cI, 9, .inl (nF fm))), (b22, .inl (cI, 9, .inl (nF (fun _ => 0)))), (b23, .inl (cZ, 91, .inl (bF (fun _ => false)))), (b24, .inr (5, [.int (nI 1), .ref b25])), (b25, .inl (cI, 13, .inl (nF (fun _ => 0)))), (h0, .inr (6, [.ref b0, .ref b5, .ref b8, .ref b12, .ref b16, .ref b20, .ref b24])), (g0, .inr (7, [.int (nI 0), .int (nI 0), .null, .null, .null, .null, .null, .null, .null, .null, .null, .null, .null, .null, .null, .null, .null, .null, .int (nI 0), .null]))] H := hP
  have hD : va_D A [(b0, .inr (1, [.int (nI 2), .ref b1, .ref b2, .ref b3, .ref b4])), (b1, .inl (cI, 81, .inl (nF sm))), (b2, .inl (cI, 81, .inl (nF pr))), (b3, .inl (cI, 9, .inl (nF op))), (b4, .inl (cI, 9, .inl (nF iv))), (b5, .inr (3, [.ref b0, .int (nI (nn 2)), .ref b6, .ref b7])), (b6, .inl (cI, 273, .inl (nF tr))), (b7, .inl (cI, 910, .inl (nF ro))), (b8, .inr (4, [.ref b5, .ref b9, .ref b10, .ref b11])), (b9, .inl (cZ, 91, .inl (bF (fun _ => false)))), (b10, .inl (cZ, 91, .inl (bF (fun _ => false)))), (b11, .inl (cI, 91, .inl (nF (fun _ => 0)))), (b12, .inr (0, [.ref b5, .ref b0, .ref b13, .ref b14, .ref b15])), (b13, .inl (cI, 6, .inl (nF (fun _ => 0)))), (b14, .inl (cI, 30, .inl (nF (fun _ => 0)))), (b15, .inl (cI, 5, .inl (nF (fun _ => 0)))), (b16, .inr (2, [.ref b5, .ref b0, .ref b17, .ref b18, .ref b19])), (b17, .inl (cI, 9, .inl (nF mm))), (b18, .inl (cI, 9, .inl (nF (fun _ => 0)))), (b19, .inl (cZ, 91, .inl (bF (fun _ => false)))), (b20, .inr (2, [.ref b5, .ref b0, .ref b21, .ref b22, .ref b23])), (b21, .inl (cI, 9, .inl (nF fm))), (b22, .inl (cI, 9, .inl (nF (fun _ => 0)))), (b23, .inl (cZ, 91, .inl (bF (fun _ => false)))), (b24, .inr (5, [.int (nI 1), .ref b25])), (b25, .inl (cI, 13, .inl (nF (fun _ => 0)))), (h0, .inr (6, [.ref b0, .ref b5, .ref b8, .ref b12, .ref b16, .ref b20, .ref b24])), (g0, .inr (7, [.int (nI 0), .int (nI 0), .null, .null, .null, .null, .null, .null, .null, .null, .null, .null, .null, .null, .null, .null, .null, .null, .int (nI 0), .null]))] := hD
  refine lv_dup hx hb dL_law_11 rfl ?_
  refine ctI_I (As := []) (rest := [.ref g0]) (wr := [(b0, .inr (1, [.int (nI 2), .ref b1, .ref b2, .ref b3, .ref b4])), (b1, .inl (cI, 81, .inl (nF sm))), (b2, .inl (cI, 81, .inl (nF pr))), (b3, .inl (cI, 9, .inl (nF op))), (b4, .inl (cI, 9, .inl (nF iv))), (b5, .inr (3, [.ref b0, .int (nI (nn 2)), .ref b6, .ref b7])), (b6, .inl (cI, 273, .inl (nF tr))), (b7, .inl (cI, 910, .inl (nF ro))), (b8, .inr (4, [.ref b5, .ref b9, .ref b10, .ref b11])), (b9, .inl (cZ, 91, .inl (bF (fun _ => false)))), (b10, .inl (cZ, 91, .inl (bF (fun _ => false)))), (b11, .inl (cI, 91, .inl (nF (fun _ => 0)))), (b12, .inr (0, [.ref b5, .ref b0, .ref b13, .ref b14, .ref b15])), (b13, .inl (cI, 6, .inl (nF (fun _ => 0)))), (b14, .inl (cI, 30, .inl (nF (fun _ => 0)))), (b15, .inl (cI, 5, .inl (nF (fun _ => 0)))), (b16, .inr (2, [.ref b5, .ref b0, .ref b17, .ref b18, .ref b19])), (b17, .inl (cI, 9, .inl (nF mm))), (b18, .inl (cI, 9, .inl (nF (fun _ => 0)))), (b19, .inl (cZ, 91, .inl (bF (fun _ => false)))), (b20, .inr (2, [.ref b5, .ref b0, .ref b21, .ref b22, .ref b23])), (b21, .inl (cI, 9, .inl (nF fm))), (b22, .inl (cI, 9, .inl (nF (fun _ => 0)))), (b23, .inl (cZ, 91, .inl (bF (fun _ => false)))), (b24, .inr (5, [.int (nI 1), .ref b25])), (b25, .inl (cI, 13, .inl (nF (fun _ => 0)))), (h0, .inr (6, [.ref b0, .ref b5, .ref b8, .ref b12, .ref b16, .ref b20, .ref b24]))]) ⟨hx, hb, hml, hown, hts⟩ (c_X7_init l D cI cZ g0) (cwI 0 hts gL_law_X7_init rfl rfl rfl (hts0 (.initialized RX7) (by decide +kernel)) (hts0 (.methodLink RL 12 yX7_init) (by decide +kernel)) (hts0 (.instanceMethod yX7_init) (by decide +kernel)) rfl (by decide +kernel) ⟨(Nat.le_of_ble_eq_true rfl), (Nat.le_of_ble_eq_true rfl)⟩) hK hN hP hD hS hA [27] [0, 1, 2, 3, 4, 5, 6, 7, 8, 9, 10, 11, 12, 13, 14, 15, 16, 17, 18, 19, 20, 21, 22, 23, 24, 25, 26] rfl rfl rfl (by decide) (by decide) (by decide) rfl hl.1 rfl (Nat.le_of_ble_eq_true rfl) ⟨(Nat.le_of_ble_eq_true rfl), (Nat.le_of_ble_eq_true rfl)⟩ dL_law_12 (fun u H locs hu12 hP hD hS => ?_)
  obtain ⟨e1, e2, e3, e4, e5, e6, e7, e8, e9, e10, e11, e12, e13, e14, e15, e16, e17, su, po, px, py, pz, T, mp⟩ := u
  try dsimp only at hu12
  have hP : va_P D vwCl [(b0, .inr (1, [.int (nI 2), .ref b1, .ref b2, .ref b3, .ref b4])), (b1, .inl (cI, 81, .inl (nF sm))), (b2, .inl (cI, 81, .inl (nF pr))), (b3, .inl (cI, 9, .inl (nF op))), (b4, .inl (cI, 9, .inl (nF iv))), (b5, .inr (3, [.ref b0, .int (nI (nn 2)), .ref b6, .ref b7])), (b6, .inl (cI, 273, .inl (nF tr))), (b7, .inl (cI, 910, .inl (nF ro))), (b8, .inr (4, [.ref b5, .ref b9, .ref b10, .ref b11])), (b9, .inl (cZ, 91, .inl (bF (fun _ => false)))), (b10, .inl (cZ, 91, .inl (bF (fun _ => false)))), (b11, .inl (cI, 91, .inl (nF (fun _ => 0)))), (b12, .inr (0, [.ref b5, .ref b0, .ref b13, .ref b14, .ref b15])), (b13, .inl (cI, 6, .inl (nF (fun _ => 0)))), (b14, .inl (cI, 30, .inl (nF (fun _ => 0)))), (b15, .inl (cI, 5, .inl (nF (fun _ => 0)))), (b16, .inr (2, [.ref b5, .ref b0, .ref b17, .ref b18, .ref b19])), (b17, .inl (cI, 9, .inl (nF mm))), (b18, .inl (cI, 9, .inl (nF (fun _ => 0)))), (b19, .inl (cZ, 91, .inl (bF (fun _ => false)))), (b20, .inr (2, [.ref b5, .ref b0, .ref b21, .ref b22, .ref b23])), (b21, .inl (cI, 9, .inl (nF fm))), (b22, .inl (cI, 9, .inl (nF (fun _ => 0)))), (b23, .inl (cZ, 91, .inl (bF (fun _ => false)))), (b24, .inr (5, [.int (nI 1), .ref b25])), (b25, .inl (cI, 13, .inl (nF (fun _ => 0)))), (h0, .inr (6, [.ref b0, .ref b5, .ref b8, .ref b12, .ref b16, .ref b20, .ref b24])), (g0, .inr (7, [.int (nI 2), .int (nI (nn 2)), .ref e1, .ref e2, .ref e3, .ref e4, .ref e5, .ref e6, .ref e7, .ref e8, .ref e9, .ref e10, .ref e11, .ref e12, .ref e13, .ref e14, .ref e15, .ref e16, .int (nI 1), .ref e17])), (e1, .inl (cI, 81, .inl (nF su))), (e2, .inl (cI, 81, .inl (nF po))), (e3, .inl (cI, 91, .inl (nF px))), (e4, .inl (cI, 91, .inl (nF py))), (e5, .inl (cI, 91, .inl (nF pz))), (e6, .inl (cZ, 91, .inl (bF T))), (e7, .inl (cI, 9, .inl (nF mp))), (e8, .inl (cZ, 91, .inl (bF (fun _ => false)))), (e9, .inl (cZ, 91, .inl (bF (fun _ => false)))), (e10, .inl (cZ, 91, .inl (bF (fun _ => false)))), (e11, .inl (cI, 92, .inl (nF (fun _ => 0)))), (e12, .inl (cI, 91, .inl (nF (fun _ => 0)))), (e13, .inl (cI, 91, .inl (nF (fun _ => 0)))), (e14, .inl (cI, 9, .inl (nF (fun _ => 0)))), (e15, .inl (cZ, 91, .inl (bF (fun _ => false)))), (e16, .inl (cI, 9, .inl (nF (fun _ => 0)))), (e17, .inl (cZ, 169, .inl (bF (fun _ => false))))] H := hP
  have hD : va_D A [(b0, .inr (1, [.int (nI 2), .ref b1, .ref b2, .ref b3, .ref b4])), (b1, .inl (cI, 81, .inl (nF sm))), (b2, .inl (cI, 81, .inl (nF pr))), (b3, .inl (cI, 9, .inl (nF op))), (b4, .inl (cI, 9, .inl (nF iv))), (b5, .inr (3, [.ref b0, .int (nI (nn 2)), .ref b6, .ref b7])), (b6, .inl (cI, 273, .inl (nF tr))), (b7, .inl (cI, 910, .inl (nF ro))), (b8, .inr (4, [.ref b5, .ref b9, .ref b10, .ref b11])), (b9, .inl (cZ, 91, .inl (bF (fun _ => false)))), (b10, .inl (cZ, 91, .inl (bF (fun _ => false)))), (b11, .inl (cI, 91, .inl (nF (fun _ => 0)))), (b12, .inr (0, [.ref b5, .ref b0, .ref b13, .ref b14, .ref b15])), (b13, .inl (cI, 6, .inl (nF (fun _ => 0)))), (b14, .inl (cI, 30, .inl (nF (fun _ => 0)))), (b15, .inl (cI, 5, .inl (nF (fun _ => 0)))), (b16, .inr (2, [.ref b5, .ref b0, .ref b17, .ref b18, .ref b19])), (b17, .inl (cI, 9, .inl (nF mm))), (b18, .inl (cI, 9, .inl (nF (fun _ => 0)))), (b19, .inl (cZ, 91, .inl (bF (fun _ => false)))), (b20, .inr (2, [.ref b5, .ref b0, .ref b21, .ref b22, .ref b23])), (b21, .inl (cI, 9, .inl (nF fm))), (b22, .inl (cI, 9, .inl (nF (fun _ => 0)))), (b23, .inl (cZ, 91, .inl (bF (fun _ => false)))), (b24, .inr (5, [.int (nI 1), .ref b25])), (b25, .inl (cI, 13, .inl (nF (fun _ => 0)))), (h0, .inr (6, [.ref b0, .ref b5, .ref b8, .ref b12, .ref b16, .ref b20, .ref b24])), (g0, .inr (7, [.int (nI 2), .int (nI (nn 2)), .ref e1, .ref e2, .ref e3, .ref e4, .ref e5, .ref e6, .ref e7, .ref e8, .ref e9, .ref e10, .ref e11, .ref e12, .ref e13, .ref e14, .ref e15, .ref e16, .int (nI 1), .ref e17])), (e1, .inl (cI, 81, .inl (nF su))), (e2, .inl (cI, 81, .inl (nF po))), (e3, .inl (cI, 91, .inl (nF px))), (e4, .inl (cI, 91, .inl (nF py))), (e5, .inl (cI, 91, .inl (nF pz))), (e6, .inl (cZ, 91, .inl (bF T))), (e7, .inl (cI, 9, .inl (nF mp))), (e8, .inl (cZ, 91, .inl (bF (fun _ => false)))), (e9, .inl (cZ, 91, .inl (bF (fun _ => false)))), (e10, .inl (cZ, 91, .inl (bF (fun _ => false)))), (e11, .inl (cI, 92, .inl (nF (fun _ => 0)))), (e12, .inl (cI, 91, .inl (nF (fun _ => 0)))), (e13, .inl (cI, 91, .inl (nF (fun _ => 0)))), (e14, .inl (cI, 9, .inl (nF (fun _ => 0)))), (e15, .inl (cZ, 91, .inl (bF (fun _ => false)))), (e16, .inl (cI, 9, .inl (nF (fun _ => 0)))), (e17, .inl (cZ, 169, .inl (bF (fun _ => false))))] := hD
  refine lv_astore_n (lv' := [(2, .ref g0), (1, .ref h0), (0, .ref b)]) hx hb dL_law_15 rfl hl (by decide) rfl (fun ls hl => ?_)
  refine lv_iconst (v := nI 0) hx hb dL_law_16 (by decide) ?_
  refine lv_istore_n (lv' := [(3, .int (nI 0)), (2, .ref g0), (1, .ref h0), (0, .ref b)]) hx hb dL_law_17 rfl hl (by decide) rfl (fun ls hl => ?_)
  refine W.widen (k := 45) (n := 3325) (Nat.le_of_ble_eq_true rfl) (Nat.le_of_ble_eq_true rfl) ?_
  have hm9 : ∀ t, t < 9 → mp t = mm t := fun t ht => by rw [hu12.2.2 t ht, hu4.2.2.2 t ht]
  have hP := hP.sub [0, 1, 2, 3, 4, 5, 6, 7, 8, 9, 10, 11, 12, 13, 14, 15, 16, 17, 18, 19, 20, 21, 22, 23, 24, 25, 26, 27, 28, 29, 30, 31, 32, 33, 34, 35, 36, 37, 38, 39, 40, 41, 42, 43, 44] rfl
  have hD := hD.sub (ws' := [(b0, .inr (1, [.int (nI 2), .ref b1, .ref b2, .ref b3, .ref b4])), (b1, .inl (cI, 81, .inl (nF sm))), (b2, .inl (cI, 81, .inl (nF pr))), (b3, .inl (cI, 9, .inl (nF op))), (b4, .inl (cI, 9, .inl (nF iv))), (b5, .inr (3, [.ref b0, .int (nI (nn 2)), .ref b6, .ref b7])), (b6, .inl (cI, 273, .inl (nF tr))), (b7, .inl (cI, 910, .inl (nF ro))), (b8, .inr (4, [.ref b5, .ref b9, .ref b10, .ref b11])), (b9, .inl (cZ, 91, .inl (bF (fun _ => false)))), (b10, .inl (cZ, 91, .inl (bF (fun _ => false)))), (b11, .inl (cI, 91, .inl (nF (fun _ => 0)))), (b12, .inr (0, [.ref b5, .ref b0, .ref b13, .ref b14, .ref b15])), (b13, .inl (cI, 6, .inl (nF (fun _ => 0)))), (b14, .inl (cI, 30, .inl (nF (fun _ => 0)))), (b15, .inl (cI, 5, .inl (nF (fun _ => 0)))), (b16, .inr (2, [.ref b5, .ref b0, .ref b17, .ref b18, .ref b19])), (b17, .inl (cI, 9, .inl (nF mm))), (b18, .inl (cI, 9, .inl (nF (fun _ => 0)))), (b19, .inl (cZ, 91, .inl (bF (fun _ => false)))), (b20, .inr (2, [.ref b5, .ref b0, .ref b21, .ref b22, .ref b23])), (b21, .inl (cI, 9, .inl (nF fm))), (b22, .inl (cI, 9, .inl (nF (fun _ => 0)))), (b23, .inl (cZ, 91, .inl (bF (fun _ => false)))), (b24, .inr (5, [.int (nI 1), .ref b25])), (b25, .inl (cI, 13, .inl (nF (fun _ => 0)))), (h0, .inr (6, [.ref b0, .ref b5, .ref b8, .ref b12, .ref b16, .ref b20, .ref b24])), (g0, .inr (7, [.int (nI 2), .int (nI (nn 2)), .ref e1, .ref e2, .ref e3, .ref e4, .ref e5, .ref e6, .ref e7, .ref e8, .ref e9, .ref e10, .ref e11, .ref e12, .ref e13, .ref e14, .ref e15, .ref e16, .int (nI 1), .ref e17])), (e1, .inl (cI, 81, .inl (nF su))), (e2, .inl (cI, 81, .inl (nF po))), (e3, .inl (cI, 91, .inl (nF px))), (e4, .inl (cI, 91, .inl (nF py))), (e5, .inl (cI, 91, .inl (nF pz))), (e6, .inl (cZ, 91, .inl (bF T))), (e7, .inl (cI, 9, .inl (nF mp))), (e8, .inl (cZ, 91, .inl (bF (fun _ => false)))), (e9, .inl (cZ, 91, .inl (bF (fun _ => false)))), (e10, .inl (cZ, 91, .inl (bF (fun _ => false)))), (e11, .inl (cI, 92, .inl (nF (fun _ => 0)))), (e12, .inl (cI, 91, .inl (nF (fun _ => 0)))), (e13, .inl (cI, 91, .inl (nF (fun _ => 0)))), (e14, .inl (cI, 9, .inl (nF (fun _ => 0)))), (e15, .inl (cZ, 91, .inl (bF (fun _ => false)))), (e16, .inl (cI, 9, .inl (nF (fun _ => 0)))), (e17, .inl (cZ, 169, .inl (bF (fun _ => false))))]) [0, 1, 2, 3, 4, 5, 6, 7, 8, 9, 10, 11, 12, 13, 14, 15, 16, 17, 18, 19, 20, 21, 22, 23, 24, 25, 26, 27, 28, 29, 30, 31, 32, 33, 34, 35, 36, 37, 38, 39, 40, 41, 42, 43, 44] (by decide) rfl
  have hP := va_P_set (ws := [(b0, .inr (1, [.int (nI 2), .ref b1, .ref b2, .ref b3, .ref b4])), (b1, .inl (cI, 81, .inl (nF sm))), (b2, .inl (cI, 81, .inl (nF pr))), (b3, .inl (cI, 9, .inl (nF op))), (b4, .inl (cI, 9, .inl (nF iv))), (b5, .inr (3, [.ref b0, .int (nI (nn 2)), .ref b6, .ref b7])), (b6, .inl (cI, 273, .inl (nF tr))), (b7, .inl (cI, 910, .inl (nF ro))), (b8, .inr (4, [.ref b5, .ref b9, .ref b10, .ref b11])), (b9, .inl (cZ, 91, .inl (bF (fun _ => false)))), (b10, .inl (cZ, 91, .inl (bF (fun _ => false)))), (b11, .inl (cI, 91, .inl (nF (fun _ => 0)))), (b12, .inr (0, [.ref b5, .ref b0, .ref b13, .ref b14, .ref b15])), (b13, .inl (cI, 6, .inl (nF (fun _ => 0)))), (b14, .inl (cI, 30, .inl (nF (fun _ => 0)))), (b15, .inl (cI, 5, .inl (nF (fun _ => 0)))), (b16, .inr (2, [.ref b5, .ref b0, .ref b17, .ref b18, .ref b19])), (b17, .inl (cI, 9, .inl (nF mm))), (b18, .inl (cI, 9, .inl (nF (fun _ => 0)))), (b19, .inl (cZ, 91, .inl (bF (fun _ => false)))), (b20, .inr (2, [.ref b5, .ref b0, .ref b21, .ref b22, .ref b23])), (b21, .inl (cI, 9, .inl (nF fm))), (b22, .inl (cI, 9, .inl (nF (fun _ => 0)))), (b23, .inl (cZ, 91, .inl (bF (fun _ => false)))), (b24, .inr (5, [.int (nI 1), .ref b25])), (b25, .inl (cI, 13, .inl (nF (fun _ => 0)))), (h0, .inr (6, [.ref b0, .ref b5, .ref b8, .ref b12, .ref b16, .ref b20, .ref b24])), (g0, .inr (7, [.int (nI 2), .int (nI (nn 2)), .ref e1, .ref e2, .ref e3, .ref e4, .ref e5, .ref e6, .ref e7, .ref e8, .ref e9, .ref e10, .ref e11, .ref e12, .ref e13, .ref e14, .ref e15, .ref e16, .int (nI 1), .ref e17])), (e1, .inl (cI, 81, .inl (nF su))), (e2, .inl (cI, 81, .inl (nF po))), (e3, .inl (cI, 91, .inl (nF px))), (e4, .inl (cI, 91, .inl (nF py))), (e5, .inl (cI, 91, .inl (nF pz))), (e6, .inl (cZ, 91, .inl (bF T))), (e7, .inl (cI, 9, .inl (nF mp))), (e8, .inl (cZ, 91, .inl (bF (fun _ => false)))), (e9, .inl (cZ, 91, .inl (bF (fun _ => false)))), (e10, .inl (cZ, 91, .inl (bF (fun _ => false)))), (e11, .inl (cI, 92, .inl (nF (fun _ => 0)))), (e12, .inl (cI, 91, .inl (nF (fun _ => 0)))), (e13, .inl (cI, 91, .inl (nF (fun _ => 0)))), (e14, .inl (cI, 9, .inl (nF (fun _ => 0)))), (e15, .inl (cZ, 91, .inl (bF (fun _ => false)))), (e16, .inl (cI, 9, .inl (nF (fun _ => 0)))), (e17, .inl (cZ, 169, .inl (bF (fun _ => false))))]) hP 34 rfl hm9
  have hD := va_D_set hD 34 (e' := .inl (cI, 9, .inl (nF mm))) rfl
  refine law_loop l D cI cZ (adL [b0, b1, b2, b3, b4, b5, b6, b7, b8, b9, b10, b11, b12, b13, b14, b15, b16, b17, b18, b19, b20, b21, b22, b23, b24, b25, h0]) (adL [g0, e1, e2, e3, e4, e5, e6, e7, e8, e9, e10, e11, e12, e13, e14, e15, e16, e17]) A hA hbA hL C0 hK hN (fun q h => by rw [hAe] at h; exact h) (L + 8) 0 ls _ _ (by omega) (Nat.zero_le L) ⟨2, sm, pr, op, iv, tr, ro, (fun _ => false), (fun _ => false), (fun _ => 0), (fun _ => 0), (fun _ => 0), (fun _ => 0), mm, (fun _ => 0), (fun _ => false), fm, (fun _ => 0), (fun _ => false), 1, (fun _ => 0), su, po, px, py, pz, T, (fun _ => false), (fun _ => false), (fun _ => false), (fun _ => 0), (fun _ => 0), (fun _ => 0), (fun _ => 0), (fun _ => false), (fun _ => 0), (fun _ => false), ⟨hu4.1, hu4.2.1, hu4.2.2.1, hu12.1, (fun t ht => (hu12.2.1 t (Nat.lt_of_lt_of_le ht (by decide))).symm), (id_lt (by decide) hu4.2.2.2), ⟨fun l p _ _ => by rw [tbl_0 rfl], fun l p _ _ _ => tbl_0 rfl, fun l _ => (show 0 < 8192 by decide), by decide, by decide⟩⟩, hP, hD, hS⟩ (lv_sub hl [3, 2, 1, 0] rfl)
-- ===== YOUR PART ENDS =====
set_option maxHeartbeats 4000000 in
theorem lw_walk (l : Launch) (b : Addr) (xs : List Int32) : MetFree l x (headSpec (Jvm.Cond.code x code maxLocals ret :: tables_1) room_1) (lw_P b xs) (fun _ _ _ _ _ => True) lw_Q := by
  refine MetFree.of_bodyS (code := code) (maxLocals := maxLocals) (ret := ret) (by decide) ?_ ?_
  · intro args s m h hn
    obtain ⟨meth, c, h1, h2, h3, h4, h5, h6, -, -⟩ := Cond.code_spec hn (atoms_spec (ws := Jvm.Cond.code x code maxLocals ret :: tables_1) h _ List.mem_cons_self)
    exact ⟨meth, c, h1, h2, h3, h4, h5, h6⟩
  · intro p e s m args below meth c s₁ B hml0 hP _
    obtain ⟨rfl, hx, hbd, hgv⟩ := hP
    obtain ⟨scr, harrAt, hlist, hof, hsmall⟩ := hx
    obtain ⟨hcb, hkn, -, -⟩ := State.arrayAt?_spec harrAt
    have hown : s.vm.findClass R_law = some m.cls := findClass_of_methodNamed B.named
    have hts0 : ∀ c ∈ (Jvm.Cond.code x code maxLocals ret :: tables_1), c.before #[Value.ref b] s = true := atoms_spec (ws := Jvm.Cond.code x code maxLocals ret :: tables_1) B.pre
    have hts : ∀ w ∈ lw_tbl, w.before #[Value.ref b] s = true := k2_hts_sels lw_privs (fun w hw => hts0 w (List.mem_cons_of_mem _ hw)) lw_privs_ok
    have hml : c.maxLocals = 4 := B.maxLocals_eq (hts0 _ List.mem_cons_self)
    have X₀ : Stand p l e room_1 s m #[Value.ref b] below meth c s₁ [] 0 0 := Stand.of_body B
    have hh0 : s₁.heap = s.heap := by rw [B.state]; rfl
    have hsz : scr.slots.size = xs.length := by rw [← Array.length_toList, hlist, List.length_map]
    have hval : ∀ j : Nat, j < xs.length → scr.slots[j]? = some (.int (xs.getD j 0)) := fun j hj => by
      rw [← Array.getElem?_toList, hlist]
      simp [hj]
    have hbl : b < s.heap.size := (Array.getElem?_eq_some_iff.mp hcb).1
    have hX : va_X b xs.length (fun j => xs.getD j 0) s s.heap := ⟨scr, hcb, hof, hkn, hsz, hval⟩
    have K : W p l e room_1 s m #[Value.ref b] below meth c s₁.heap [] 0 0 (lw_Z below #[Value.ref b] s) (entryFrame m ([Value.ref b] : List Value).toArray 4) := by
      rw [hh0]
      exact whole_start l hbd ⟨B.exec, B.bytes, B.returns, hml, hown, hts, hX, hbl, B.notSynchronized, hgv⟩
    obtain ⟨t, a1, o, b1, b2, b3⟩ := K s₁ rfl X₀
    exact ⟨t, o, a1, b1, b2, b3⟩
theorem lw_pre_spec {args : Array Value} {s : State} (h : (Jvm.Cond.and given_1 narrow_1).before args s = true) (hr : rest_1_c.before args s = true) : ∃ (b : Addr) (xs : List Int32), lw_P b xs args s := by
  have hs := flat_of_before _ h
  have hq := flat_of_before _ hr
  have hc : (Cond.count 1).before args s = true := hs _ (by decide +kernel)
  have harr : (Cond.arrayOf (.arg 0) .int).before args s = true := hs _ (by decide +kernel)
  have hle : (Cond.le (.length (.arg 0)) (.int 448)).before args s = true := hs _ (by decide +kernel)
  have hlen : (Cond.isInt (.length (.arg 0))).before args s = true := hq _ (by decide +kernel)
  have hall : (Cond.all (.arg 0) (.isInt (.elem (.arg 0) (.index 0)))).before args s = true := hq _ (by decide +kernel)
  obtain ⟨b, xs, hb, hx⟩ := State.ints_of_pre rfl harr hlen hall
  have hsm : xs.length < 2 ^ 31 := hx.choose_spec.2.2.2
  have hev : (Term.length (.arg 0)).eval args s none [] s = some (.int xs.length.toInt32) := hx.length_eval hb
  have hv := Cond.le_ints hev (show (Term.int 448).eval args s none [] s = some (.int 448) from rfl)
  have hd : xs.length.toInt32 ≤ 448 := by
    simpa [Cond.before, Cond.holds, hv] using hle
  have hN : xs.length ≤ 448 := (Int32.ofNat_le_ofNat hsm (by decide)).mp (show Int32.ofNat xs.length ≤ Int32.ofNat 448 from hd)
  exact ⟨b, xs, Cond.one_arg hc (show args[0]? = some (.ref b) from hb), hx, hN, h⟩
theorem lw_comes (l : Launch) : Comes l x (Jvm.Cond.code x code maxLocals ret :: tables_1) room_1 (fun tb e args s => Calls_1 tb e args s ∧ rest_1 tb e args s ∧ Pre_1 tb e args s)
    (fun _ _ args s o t => lw_Q args s o t) := by
  intro p e ha hc hk s m args below hf hfit hheap happ hpre
  obtain ⟨b, xs, hP⟩ := lw_pre_spec hpre.2.2 hpre.2.1
  obtain ⟨k, o, h1, h2, h3, hQ⟩ := lw_walk l b xs p e ha hc hk s m args below hf ((Spec.applies_iff_loose hf).mp happ).1 hP trivial
  exact ⟨k, o, h1, h2, h3, hQ⟩
theorem lw_frame {s t : State} {o : Outcome} {args : Array Value} (h : Framed s o t [] 45 3325) :
    Framed s o t (fieldLocs frame_1_writes args s ++ arrayLocs frame_1_arrays args s ++ staticLocs frame_1_statics s) 45 3325 := h
theorem lw_limb (L : Cond) (hL : ∀ (args : Array Value) (s t : State), L.after args s (.returned (some (.int 1))) t = true) :
    ArmFor flags0 classFile x code maxLocals ret World_1 tables_1 room_1 Calls_1 rest_1 Pre_1
      (fun tb e a s o t => postC L tb e a s o t ∧ Framed s o t (fieldLocs frame_1_writes a s ++ arrayLocs frame_1_arrays a s ++ staticLocs frame_1_statics s) 45 3325) := by
  intro l _ _ _ p e ha hc hk s m args below hf hfit hheap happ hpre
  obtain ⟨k, o, h1, h2, h3, rfl, hF⟩ := lw_comes l p e ha hc hk s m args below hf hfit hheap happ hpre
  exact ⟨k, _, h1, h2, h3, hL args s _, lw_frame hF⟩
theorem i_vc : Claimed_1_1 ∧ Claimed_1_2 := ⟨lw_limb limb_1_1 (fun args s t => by simp [limb_1_1, Cond.after, Cond.holds, Cond.value]), lw_limb limb_1_2 (fun args s t => Cond.after_iff.mpr (by
  first | (rw [show limb_1_2 = Cond.eq .result (.int 1) from rfl, Cond.eq_ints (x := 1) (y := 1) rfl rfl]; simp; done) | (simp [limb_1_2, Cond.value, Term.eval]; done)))⟩

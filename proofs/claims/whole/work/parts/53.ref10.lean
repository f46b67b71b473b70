set_option maxHeartbeats 4000000 in
set_option maxRecDepth 100000 in
theorem c_X7_digit (l : Launch) (D : va_G) (cI cZ : ClassId) (md : Nat → Nat) (q : Nat) (w : Nat) (su : Nat → Nat) (po : Nat → Nat) (xs : Nat → Nat) (ys : Nat → Nat) (zs : Nat → Nat) (hM : MOK q su po xs ys zs) (g : Nat) (k : Nat) (k_1 : k < 6) (k_2 : g < 2 ^ 31) : CtR l yX7_digit wsX7_digit { frames := 0, cells := 0, slots := 0, locals := 0 } D (tyG cI cZ) [.ref (md 0), .int (nI g), .int (nI k)] [(md 0, .inr (7, [.int (nI q), .int (nI (nn q)), .ref (md 1), .ref (md 2), .ref (md 3), .ref (md 4), .ref (md 5), .ref (md 6), .ref (md 7), .ref (md 8), .ref (md 9), .ref (md 10), .ref (md 11), .ref (md 12), .ref (md 13), .ref (md 14), .ref (md 15), .ref (md 16), .int (nI w), .ref (md 17)])), (md 1, .inl (cI, 81, .inl (nF su))), (md 2, .inl (cI, 81, .inl (nF po))), (md 3, .inl (cI, 91, .inl (nF xs))), (md 4, .inl (cI, 91, .inl (nF ys))), (md 5, .inl (cI, 91, .inl (nF zs)))] (.int (nI (dgt q g k))) := by
  refine Met.ofW (cc := cX7_digit) (maxL := 5) (ret := some .int) (by decide) rfl ?_
  intro p e s m args below meth c s₁ B hml hv
  obtain ⟨rfl, hP, hK, hN⟩ := hv
  have hx := B.exec
  have hb := B.bytes
  have hr := B.returns
  have hts := atoms_spec (ws := wsX7_digit) B.pre
  have hown : s.vm.findClass RX7 = some m.cls := findClass_of_methodNamed B.named
  have hlocks := B.notSynchronized
  have hf74 := hts (.fieldLink RX7 74 "FinitePlanesModel" "q" "I") (by decide +kernel)
  have hiX7 : ∀ w ∈ u_ws RX7 TX7 20, w ∈ wsX7_digit := by decide +kernel
  have hl := lv_entry ([.ref (md 0), .int (nI g), .int (nI k)]) (n := 5) (Nat.le_of_ble_eq_true rfl)
  rw [lg_entry_eq]
  generalize (lg_sl ([.ref (md 0), .int (nI g), .int (nI k)]) ++ List.replicate (5 - (lg_sl ([.ref (md 0), .int (nI g), .int (nI k)])).length) Slot.unset).toArray = ls at hl ⊢
  have hl : lv_has ls 5 [(0, .ref (md 0)), (1, .int (nI g)), (2, .int (nI k))] := hl
  have hq2 := qs_le hM.1
  have hn2 := nn_le hM.1
  refine lv_iload_n hx hb dX7_digit_0 rfl (lv_at hl 1 rfl) ?_
  refine lv_istore_n (lv' := [(3, .int (nI g)), (0, .ref (md 0)), (1, .int (nI g)), (2, .int (nI k))]) hx hb dX7_digit_1 rfl hl (by decide) rfl (fun ls hl => ?_)
  refine lv_iconst (v := nI 5) hx hb dX7_digit_2 (by decide) ?_
  refine lv_istore (lv' := [(4, .int (nI 5)), (3, .int (nI g)), (0, .ref (md 0)), (1, .int (nI g)), (2, .int (nI k))]) hx hb dX7_digit_3 hl (by decide) rfl (fun ls hl => ?_)
  have L5 : ∀ (N5 : Nat) (v : Nat) (i : Nat) (ls : Array Slot), i - k < N5 → (i ≤ 5) → (k ≤ i) → (v = g / q ^ (5 - i)) → lv_has ls 5 [(0, .ref (md 0)), (1, .int (nI g)), (2, .int (nI k)), (3, .int (nI v)), (4, .int (nI i))] → WR p l e wsX7_digit { frames := 0, cells := 0, slots := 0, locals := 0 } s m [.ref (md 0), .int (nI g), .int (nI k)] below meth c (.int (nI (dgt q g k))) 5 ls [] := by
    intro N5
    induction N5 with
    | zero => intro v i ls hN; exact absurd hN (Nat.not_lt_zero _)
    | succ N5 ih5 =>
      intro v i ls hN5 k_i k_l k_v hl
      have hv9 : v ≤ g := by rw [k_v]; exact dg_le
      refine lv_iload hx hb dX7_digit_5 (lv_at hl 4 rfl) ?_
      refine lv_iload_n hx hb dX7_digit_7 rfl (lv_at hl 2 rfl) ?_
      refine nv_icmp_le (tgt := 24) hx hb (by omega) (by omega) dX7_digit_8 (by decide) (fun c8 => ?_) (fun c8 => ?_)
      · refine lv_iload_n hx hb dX7_digit_24 rfl (lv_at hl 3 rfl) ?_
        refine lv_aload_n hx hb dX7_digit_25 rfl (lv_at hl 0 rfl) ?_
        refine va_get (D := D) (ci := 7) (v := .int (nI q)) (C := RX7) (T := TX7) (N := 20) hx hb hts hiX7 hown hK hP 0 rfl rfl 0 (by decide) hf74 (fun _ h9 => h9) rfl dX7_digit_26 ?_
        refine nv_remE (r := v % q) hx hb (by omega) (by omega) (by omega) rfl dX7_digit_29 ?_
        exact ctR_ret (v := (nI (v % q))) hx hb hr rfl dX7_digit_30 hlocks (by rw [k_v, show i = k by omega]; rfl)
      · refine lv_iload_n hx hb dX7_digit_11 rfl (lv_at hl 3 rfl) ?_
        refine lv_aload_n hx hb dX7_digit_12 rfl (lv_at hl 0 rfl) ?_
        refine va_get (D := D) (ci := 7) (v := .int (nI q)) (C := RX7) (T := TX7) (N := 20) hx hb hts hiX7 hown hK hP 0 rfl rfl 0 (by decide) hf74 (fun _ h9 => h9) rfl dX7_digit_13 ?_
        refine nv_divE (r := v / q) hx hb (by omega) (by omega) (by omega) rfl dX7_digit_16 ?_
        refine lv_istore_n (lv' := [(3, .int (nI (v / q))), (0, .ref (md 0)), (1, .int (nI g)), (2, .int (nI k)), (4, .int (nI i))]) hx hb dX7_digit_17 rfl hl (by decide) rfl (fun ls hl => ?_)
        refine lv_iinc (v := nI (i - 1)) (lv' := [(4, .int (nI (i - 1))), (3, .int (nI (v / q))), (0, .ref (md 0)), (1, .int (nI g)), (2, .int (nI k))]) hx hb dX7_digit_18 hl (k := 4) rfl (nI_dec (by omega)) (by decide) rfl (fun ls hl => ?_)
        refine lv_goto (tgt := 5) hx hb dX7_digit_21 (by decide) ?_
        exact ih5 (v / q) (i - 1) ls (by omega) (by omega) (by omega) (dg_s (by omega) k_i k_v) (lv_sub hl [2, 3, 4, 1, 0] rfl)
  exact L5 (5 - k + 1) g 5 ls (by omega) (by decide) (by omega) (by rw [Nat.sub_self, Nat.pow_zero, Nat.div_one]) (lv_sub hl [2, 3, 4, 1, 0] rfl)

set_option maxHeartbeats 4000000 in
set_option maxRecDepth 100000 in
theorem c_X7_isFirstOne (l : Launch) (D : va_G) (cI cZ : ClassId) (md : Nat → Nat) (q : Nat) (w : Nat) (su : Nat → Nat) (po : Nat → Nat) (xs : Nat → Nat) (ys : Nat → Nat) (zs : Nat → Nat) (hM : MOK q su po xs ys zs) (g : Nat) (k_g : g < 2 ^ 31) : CtR l yX7_isFirstOne wsX7_isFirstOne { frames := 1, cells := 0, slots := 0, locals := 24 } D (tyG cI cZ) [.ref (md 0), .int (nI g)] [(md 0, .inr (7, [.int (nI q), .int (nI (nn q)), .ref (md 1), .ref (md 2), .ref (md 3), .ref (md 4), .ref (md 5), .ref (md 6), .ref (md 7), .ref (md 8), .ref (md 9), .ref (md 10), .ref (md 11), .ref (md 12), .ref (md 13), .ref (md 14), .ref (md 15), .ref (md 16), .int (nI w), .ref (md 17)])), (md 1, .inl (cI, 81, .inl (nF su))), (md 2, .inl (cI, 81, .inl (nF po))), (md 3, .inl (cI, 91, .inl (nF xs))), (md 4, .inl (cI, 91, .inl (nF ys))), (md 5, .inl (cI, 91, .inl (nF zs)))] (.int (nI (oneB q g).toNat)) := by
  refine Met.ofW (cc := cX7_isFirstOne) (maxL := 4) (ret := some .boolean) (by decide) rfl ?_
  intro p e s m args below meth c s₁ B hml hv
  obtain ⟨rfl, hP, hK, hN⟩ := hv
  have hx := B.exec
  have hb := B.bytes
  have hr := B.returns
  have hts := atoms_spec (ws := wsX7_isFirstOne) B.pre
  have hown : s.vm.findClass RX7 = some m.cls := findClass_of_methodNamed B.named
  have hlocks := B.notSynchronized
  have hl := lv_entry ([.ref (md 0), .int (nI g)]) (n := 4) (Nat.le_of_ble_eq_true rfl)
  rw [lg_entry_eq]
  generalize (lg_sl ([.ref (md 0), .int (nI g)]) ++ List.replicate (4 - (lg_sl ([.ref (md 0), .int (nI g)])).length) Slot.unset).toArray = ls at hl ⊢
  have hl : lv_has ls 4 [(0, .ref (md 0)), (1, .int (nI g))] := hl
  have hq2 := qs_le hM.1
  have hn2 := nn_le hM.1
  refine lv_iconst (v := nI 0) hx hb dX7_isFirstOne_0 (by decide) ?_
  refine lv_istore_n (lv' := [(2, .int (nI 0)), (0, .ref (md 0)), (1, .int (nI g))]) hx hb dX7_isFirstOne_1 rfl hl (by decide) rfl (fun ls hl => ?_)
  refine lv_iconst (v := nI 0) hx hb dX7_isFirstOne_2 (by decide) ?_
  refine lv_istore_n (lv' := [(3, .int (nI 0)), (2, .int (nI 0)), (0, .ref (md 0)), (1, .int (nI g))]) hx hb dX7_isFirstOne_3 rfl hl (by decide) rfl (fun ls hl => ?_)
  have L4 : ∀ (N4 : Nat) (x : Nat) (i : Nat) (ls : Array Slot), 6 - i < N4 → (i ≤ 6) → (x = hdf (dgt q g) i) → lv_has ls 4 [(0, .ref (md 0)), (1, .int (nI g)), (2, .int (nI x)), (3, .int (nI i))] → WR p l e wsX7_isFirstOne { frames := 1, cells := 0, slots := 0, locals := 24 } s m [.ref (md 0), .int (nI g)] below meth c (.int (nI (oneB q g).toNat)) 4 ls [] := by
    intro N4
    induction N4 with
    | zero => intro x i ls hN; exact absurd hN (Nat.not_lt_zero _)
    | succ N4 ih4 =>
      intro x i ls hN4 k_i k_x hl
      have hx9 : x < q := by rw [k_x]; exact hdf_lt (by omega) (fun t _ => dgt_lt (by omega))
      refine lv_iload_n hx hb dX7_isFirstOne_4 rfl (lv_at hl 3 rfl) ?_
      refine lv_bipush (v := nI 6) hx hb dX7_isFirstOne_5 (by decide) ?_
      refine nv_icmp_ge (tgt := 31) hx hb (by omega) (by decide) dX7_isFirstOne_7 (by decide) (fun c7 => ?_) (fun c7 => ?_)
      · have hi6 : i = 6 := by omega
        subst hi6
        refine lv_iload_n hx hb dX7_isFirstOne_31 rfl (lv_at hl 2 rfl) ?_
        refine lv_iconst (v := nI 1) hx hb dX7_isFirstOne_32 (by decide) ?_
        refine nv_icmp_ne (tgt := 40) hx hb (by omega) (by decide) dX7_isFirstOne_33 (by decide) (fun c33 => ?_) (fun c33 => ?_)
        · refine lv_iconst (v := nI 0) hx hb dX7_isFirstOne_40 (by decide) ?_
          exact ctR_ret (v := (nI 0)) hx hb hr (nar_bool false) dX7_isFirstOne_41 hlocks (by rw [oneB, ← k_x, decide_eq_false c33]; rfl)
        · refine lv_iconst (v := nI 1) hx hb dX7_isFirstOne_36 (by decide) ?_
          refine lv_goto (tgt := 41) hx hb dX7_isFirstOne_37 (by decide) ?_
          exact ctR_ret (v := (nI 1)) hx hb hr (nar_bool true) dX7_isFirstOne_41 hlocks (by rw [oneB, ← k_x, decide_eq_true c33]; rfl)
      · refine lv_iload_n hx hb dX7_isFirstOne_10 rfl (lv_at hl 2 rfl) ?_
        refine nv_if_ne (tgt := 23) hx hb (by omega) dX7_isFirstOne_11 (by decide) (fun c11 => ?_) (fun c11 => ?_)
        · refine lv_iload_n hx hb dX7_isFirstOne_23 rfl (lv_at hl 2 rfl) ?_
          refine lv_istore_n (lv' := [(2, .int (nI x)), (0, .ref (md 0)), (1, .int (nI g)), (3, .int (nI i))]) hx hb dX7_isFirstOne_24 rfl hl (by decide) rfl (fun ls hl => ?_)
          refine lv_iinc (v := nI (i + 1)) (lv' := [(3, .int (nI (i + 1))), (2, .int (nI x)), (0, .ref (md 0)), (1, .int (nI g))]) hx hb dX7_isFirstOne_25 hl (k := 3) rfl (nI_inc i) (by decide) rfl (fun ls hl => ?_)
          refine lv_goto (tgt := 4) hx hb dX7_isFirstOne_28 (by decide) ?_
          exact ih4 x (i + 1) ls (by omega) (by omega) (by rw [hdf, ← k_x, if_neg c11]) (lv_sub hl [2, 3, 1, 0] rfl)
        · refine lv_aload_n hx hb dX7_isFirstOne_14 rfl (lv_at hl 0 rfl) ?_
          refine lv_iload_n hx hb dX7_isFirstOne_15 rfl (lv_at hl 1 rfl) ?_
          refine lv_iload_n hx hb dX7_isFirstOne_16 rfl (lv_at hl 3 rfl) ?_
          refine ctR_V (As := [.int (nI g), .int (nI i)]) (rest := []) (r := .int (nI (dgt q g i))) ⟨hx, hb, hml, hown, hts⟩ (c_X7_digit l D cI cZ md q w su po xs ys zs hM g i (by omega) k_g) (cwV 2 hts gX7_isFirstOne_X7_digit rfl rfl rfl hdV_X7_digit ⟨Nat.le_of_ble_eq_true rfl, Nat.le_of_ble_eq_true rfl⟩) hK hN hP [0, 1, 2, 3, 4, 5] rfl 0 7 rfl rfl rfl hl.1 rfl (Nat.le_of_ble_eq_true rfl) ⟨Nat.zero_le _, Nat.zero_le _⟩ dX7_isFirstOne_17 ?_
          have hh_1 : dgt q g i < q := dgt_lt (by omega)
          refine lv_goto (tgt := 24) hx hb dX7_isFirstOne_20 (by decide) ?_
          refine lv_istore_n (lv' := [(2, .int (nI (dgt q g i))), (0, .ref (md 0)), (1, .int (nI g)), (3, .int (nI i))]) hx hb dX7_isFirstOne_24 rfl hl (by decide) rfl (fun ls hl => ?_)
          refine lv_iinc (v := nI (i + 1)) (lv' := [(3, .int (nI (i + 1))), (2, .int (nI (dgt q g i))), (0, .ref (md 0)), (1, .int (nI g))]) hx hb dX7_isFirstOne_25 hl (k := 3) rfl (nI_inc i) (by decide) rfl (fun ls hl => ?_)
          refine lv_goto (tgt := 4) hx hb dX7_isFirstOne_28 (by decide) ?_
          exact ih4 (dgt q g i) (i + 1) ls (by omega) (by omega) (by rw [hdf, ← k_x, if_pos c11]) (lv_sub hl [2, 3, 1, 0] rfl)
  exact L4 (6 - 0 + 1) 0 0 ls (by omega) (Nat.zero_le _) rfl (lv_sub hl [2, 3, 1, 0] rfl)

set_option maxHeartbeats 4000000 in
set_option maxRecDepth 100000 in
theorem c_X7_isThrough (l : Launch) (D : va_G) (cI cZ : ClassId) (md : Nat → Nat) (q : Nat) (w : Nat) (su : Nat → Nat) (po : Nat → Nat) (xs : Nat → Nat) (ys : Nat → Nat) (zs : Nat → Nat) (hM : MOK q su po xs ys zs) (S : Nat → Bool) (g : Nat) (k_g : g < 2 ^ 31) : CtR l yX7_isThrough wsX7_isThrough { frames := 2, cells := 0, slots := 0, locals := 53 } D (tyG cI cZ) [.ref (md 0), .int (nI g)] [(md 0, .inr (7, [.int (nI q), .int (nI (nn q)), .ref (md 1), .ref (md 2), .ref (md 3), .ref (md 4), .ref (md 5), .ref (md 6), .ref (md 7), .ref (md 8), .ref (md 9), .ref (md 10), .ref (md 11), .ref (md 12), .ref (md 13), .ref (md 14), .ref (md 15), .ref (md 16), .int (nI w), .ref (md 17)])), (md 1, .inl (cI, 81, .inl (nF su))), (md 2, .inl (cI, 81, .inl (nF po))), (md 3, .inl (cI, 91, .inl (nF xs))), (md 4, .inl (cI, 91, .inl (nF ys))), (md 5, .inl (cI, 91, .inl (nF zs))), (md 6, .inl (cZ, 91, .inl (bF S)))] (.int (nI (pasB q S g).toNat)) := by
  refine Met.ofW (cc := cX7_isThrough) (maxL := 4) (ret := some .boolean) (by decide) rfl ?_
  intro p e s m args below meth c s₁ B hml hv
  obtain ⟨rfl, hP, hK, hN⟩ := hv
  have hx := B.exec
  have hb := B.bytes
  have hr := B.returns
  have hts := atoms_spec (ws := wsX7_isThrough) B.pre
  have hown : s.vm.findClass RX7 = some m.cls := findClass_of_methodNamed B.named
  have hlocks := B.notSynchronized
  have hf25 := hts (.fieldLink RX7 25 "FinitePlanesModel" "isIn" "[Z") (by decide +kernel)
  have hf83 := hts (.fieldLink RX7 83 "FinitePlanesModel" "n" "I") (by decide +kernel)
  have hiX7 : ∀ w ∈ u_ws RX7 TX7 20, w ∈ wsX7_isThrough := by decide +kernel
  have hl := lv_entry ([.ref (md 0), .int (nI g)]) (n := 4) (Nat.le_of_ble_eq_true rfl)
  rw [lg_entry_eq]
  generalize (lg_sl ([.ref (md 0), .int (nI g)]) ++ List.replicate (4 - (lg_sl ([.ref (md 0), .int (nI g)])).length) Slot.unset).toArray = ls at hl ⊢
  have hl : lv_has ls 4 [(0, .ref (md 0)), (1, .int (nI g))] := hl
  have hq2 := qs_le hM.1
  have hn2 := nn_le hM.1
  refine lv_iconst (v := nI 1) hx hb dX7_isThrough_0 (by decide) ?_
  refine lv_istore_n (lv' := [(2, .int (nI 1)), (0, .ref (md 0)), (1, .int (nI g))]) hx hb dX7_isThrough_1 rfl hl (by decide) rfl (fun ls hl => ?_)
  refine lv_iconst (v := nI 0) hx hb dX7_isThrough_2 (by decide) ?_
  refine lv_istore_n (lv' := [(3, .int (nI 0)), (2, .int (nI 1)), (0, .ref (md 0)), (1, .int (nI g))]) hx hb dX7_isThrough_3 rfl hl (by decide) rfl (fun ls hl => ?_)
  have L4 : ∀ (N4 : Nat) (y : Bool) (j : Nat) (ls : Array Slot), nn q - j < N4 → (j ≤ nn q) → (y = allB (fun t => !S t || (crv q (dgt q g) t == 0)) j) → lv_has ls 4 [(0, .ref (md 0)), (1, .int (nI g)), (2, .int (nI (y).toNat)), (3, .int (nI j))] → WR p l e wsX7_isThrough { frames := 2, cells := 0, slots := 0, locals := 53 } s m [.ref (md 0), .int (nI g)] below meth c (.int (nI (pasB q S g).toNat)) 4 ls [] := by
    intro N4
    induction N4 with
    | zero => intro y j ls hN; exact absurd hN (Nat.not_lt_zero _)
    | succ N4 ih4 =>
      intro y j ls hN4 k_j k_a hl
      refine lv_iload_n hx hb dX7_isThrough_4 rfl (lv_at hl 3 rfl) ?_
      refine lv_aload_n hx hb dX7_isThrough_5 rfl (lv_at hl 0 rfl) ?_
      refine va_get (D := D) (ci := 7) (v := .int (nI (nn q))) (C := RX7) (T := TX7) (N := 20) hx hb hts hiX7 hown hK hP 0 rfl rfl 1 (by decide) hf83 (fun _ h9 => h9) rfl dX7_isThrough_6 ?_
      refine nv_icmp_ge (tgt := 81) hx hb (by omega) (by omega) dX7_isThrough_9 (by decide) (fun c9 => ?_) (fun c9 => ?_)
      · refine lv_iload_n hx hb dX7_isThrough_81 rfl (lv_at hl 2 rfl) ?_
        exact ctR_ret (v := (nI (y).toNat)) hx hb hr (nar_bool y) dX7_isThrough_82 hlocks (by rw [pasB, k_a, show j = nn q by omega])
      · refine lv_iload_n hx hb dX7_isThrough_12 rfl (lv_at hl 2 rfl) ?_
        refine nv_ifb_eq (tgt := 81) hx hb dX7_isThrough_13 (by decide) (fun c13 => ?_) (fun c13 => ?_)
        · refine lv_iload_n hx hb dX7_isThrough_81 rfl (lv_at hl 2 rfl) ?_
          exact ctR_ret (v := (nI (y).toNat)) hx hb hr (nar_bool y) dX7_isThrough_82 hlocks (by rw [pasB, allB_f k_j (k_a.symm.trans c13), c13])
        · refine lv_aload_n hx hb dX7_isThrough_16 rfl (lv_at hl 0 rfl) ?_
          refine va_get (D := D) (ci := 7) (v := .ref (md 6)) (C := RX7) (T := TX7) (N := 20) hx hb hts hiX7 hown hK hP 0 rfl rfl 7 (by decide) hf25 (fun _ h9 => h9) rfl dX7_isThrough_17 ?_
          refine lv_iload_n hx hb dX7_isThrough_20 rfl (lv_at hl 3 rfl) ?_
          refine nv_zald hx hb hK hP 6 1 rfl rfl (by omega) (by decide) dX7_isThrough_21 ?_
          refine nv_ifb_eq (tgt := 69) hx hb dX7_isThrough_22 (by decide) (fun c22 => ?_) (fun c22 => ?_)
          · refine lv_iconst (v := nI 1) hx hb dX7_isThrough_69 (by decide) ?_
            refine lv_goto (tgt := 74) hx hb dX7_isThrough_70 (by decide) ?_
            refine lv_istore_n (lv' := [(2, .int (nI 1)), (0, .ref (md 0)), (1, .int (nI g)), (3, .int (nI j))]) hx hb dX7_isThrough_74 rfl hl (by decide) rfl (fun ls hl => ?_)
            refine lv_iinc (v := nI (j + 1)) (lv' := [(3, .int (nI (j + 1))), (2, .int (nI 1)), (0, .ref (md 0)), (1, .int (nI g))]) hx hb dX7_isThrough_75 hl (k := 3) rfl (nI_inc j) (by decide) rfl (fun ls hl => ?_)
            refine lv_goto (tgt := 4) hx hb dX7_isThrough_78 (by decide) ?_
            exact ih4 true (j + 1) ls (by omega) (by omega) (by rw [allB, ← k_a, c13, c22]; rfl) (lv_sub hl [2, 3, 1, 0] rfl)
          · refine lv_aload_n hx hb dX7_isThrough_25 rfl (lv_at hl 0 rfl) ?_
            refine lv_aload_n hx hb dX7_isThrough_26 rfl (lv_at hl 0 rfl) ?_
            refine lv_iload_n hx hb dX7_isThrough_27 rfl (lv_at hl 1 rfl) ?_
            refine lv_iconst (v := nI 0) hx hb dX7_isThrough_28 (by decide) ?_
            refine ctR_V (As := [.int (nI g), .int (nI 0)]) (rest := [.ref (md 0)]) (r := .int (nI (dgt q g 0))) ⟨hx, hb, hml, hown, hts⟩ (c_X7_digit l D cI cZ md q w su po xs ys zs hM g 0 (by decide) k_g) (cwV 2 hts gX7_isThrough_X7_digit rfl rfl rfl hdV_X7_digit ⟨Nat.le_of_ble_eq_true rfl, Nat.le_of_ble_eq_true rfl⟩) hK hN hP [0, 1, 2, 3, 4, 5] rfl 0 7 rfl rfl rfl hl.1 rfl (Nat.le_of_ble_eq_true rfl) ⟨Nat.zero_le _, Nat.zero_le _⟩ dX7_isThrough_29 ?_
            have hh_1 : dgt q g 0 < q := dgt_lt (by omega)
            refine lv_aload_n hx hb dX7_isThrough_32 rfl (lv_at hl 0 rfl) ?_
            refine lv_iload_n hx hb dX7_isThrough_33 rfl (lv_at hl 1 rfl) ?_
            refine lv_iconst (v := nI 1) hx hb dX7_isThrough_34 (by decide) ?_
            refine ctR_V (As := [.int (nI g), .int (nI 1)]) (rest := [.int (nI (dgt q g 0)), .ref (md 0)]) (r := .int (nI (dgt q g 1))) ⟨hx, hb, hml, hown, hts⟩ (c_X7_digit l D cI cZ md q w su po xs ys zs hM g 1 (by decide) k_g) (cwV 2 hts gX7_isThrough_X7_digit rfl rfl rfl hdV_X7_digit ⟨Nat.le_of_ble_eq_true rfl, Nat.le_of_ble_eq_true rfl⟩) hK hN hP [0, 1, 2, 3, 4, 5] rfl 0 7 rfl rfl rfl hl.1 rfl (Nat.le_of_ble_eq_true rfl) ⟨Nat.zero_le _, Nat.zero_le _⟩ dX7_isThrough_35 ?_
            have hh_2 : dgt q g 1 < q := dgt_lt (by omega)
            refine lv_aload_n hx hb dX7_isThrough_38 rfl (lv_at hl 0 rfl) ?_
            refine lv_iload_n hx hb dX7_isThrough_39 rfl (lv_at hl 1 rfl) ?_
            refine lv_iconst (v := nI 2) hx hb dX7_isThrough_40 (by decide) ?_
            refine ctR_V (As := [.int (nI g), .int (nI 2)]) (rest := [.int (nI (dgt q g 1)), .int (nI (dgt q g 0)), .ref (md 0)]) (r := .int (nI (dgt q g 2))) ⟨hx, hb, hml, hown, hts⟩ (c_X7_digit l D cI cZ md q w su po xs ys zs hM g 2 (by decide) k_g) (cwV 2 hts gX7_isThrough_X7_digit rfl rfl rfl hdV_X7_digit ⟨Nat.le_of_ble_eq_true rfl, Nat.le_of_ble_eq_true rfl⟩) hK hN hP [0, 1, 2, 3, 4, 5] rfl 0 7 rfl rfl rfl hl.1 rfl (Nat.le_of_ble_eq_true rfl) ⟨Nat.zero_le _, Nat.zero_le _⟩ dX7_isThrough_41 ?_
            have hh_3 : dgt q g 2 < q := dgt_lt (by omega)
            refine lv_aload_n hx hb dX7_isThrough_44 rfl (lv_at hl 0 rfl) ?_
            refine lv_iload_n hx hb dX7_isThrough_45 rfl (lv_at hl 1 rfl) ?_
            refine lv_iconst (v := nI 3) hx hb dX7_isThrough_46 (by decide) ?_
            refine ctR_V (As := [.int (nI g), .int (nI 3)]) (rest := [.int (nI (dgt q g 2)), .int (nI (dgt q g 1)), .int (nI (dgt q g 0)), .ref (md 0)]) (r := .int (nI (dgt q g 3))) ⟨hx, hb, hml, hown, hts⟩ (c_X7_digit l D cI cZ md q w su po xs ys zs hM g 3 (by decide) k_g) (cwV 2 hts gX7_isThrough_X7_digit rfl rfl rfl hdV_X7_digit ⟨Nat.le_of_ble_eq_true rfl, Nat.le_of_ble_eq_true rfl⟩) hK hN hP [0, 1, 2, 3, 4, 5] rfl 0 7 rfl rfl rfl hl.1 rfl (Nat.le_of_ble_eq_true rfl) ⟨Nat.zero_le _, Nat.zero_le _⟩ dX7_isThrough_47 ?_
            have hh_4 : dgt q g 3 < q := dgt_lt (by omega)
            refine lv_aload_n hx hb dX7_isThrough_50 rfl (lv_at hl 0 rfl) ?_
            refine lv_iload_n hx hb dX7_isThrough_51 rfl (lv_at hl 1 rfl) ?_
            refine lv_iconst (v := nI 4) hx hb dX7_isThrough_52 (by decide) ?_
            refine ctR_V (As := [.int (nI g), .int (nI 4)]) (rest := [.int (nI (dgt q g 3)), .int (nI (dgt q g 2)), .int (nI (dgt q g 1)), .int (nI (dgt q g 0)), .ref (md 0)]) (r := .int (nI (dgt q g 4))) ⟨hx, hb, hml, hown, hts⟩ (c_X7_digit l D cI cZ md q w su po xs ys zs hM g 4 (by decide) k_g) (cwV 2 hts gX7_isThrough_X7_digit rfl rfl rfl hdV_X7_digit ⟨Nat.le_of_ble_eq_true rfl, Nat.le_of_ble_eq_true rfl⟩) hK hN hP [0, 1, 2, 3, 4, 5] rfl 0 7 rfl rfl rfl hl.1 rfl (Nat.le_of_ble_eq_true rfl) ⟨Nat.zero_le _, Nat.zero_le _⟩ dX7_isThrough_53 ?_
            have hh_5 : dgt q g 4 < q := dgt_lt (by omega)
            refine lv_aload_n hx hb dX7_isThrough_56 rfl (lv_at hl 0 rfl) ?_
            refine lv_iload_n hx hb dX7_isThrough_57 rfl (lv_at hl 1 rfl) ?_
            refine lv_iconst (v := nI 5) hx hb dX7_isThrough_58 (by decide) ?_
            refine ctR_V (As := [.int (nI g), .int (nI 5)]) (rest := [.int (nI (dgt q g 4)), .int (nI (dgt q g 3)), .int (nI (dgt q g 2)), .int (nI (dgt q g 1)), .int (nI (dgt q g 0)), .ref (md 0)]) (r := .int (nI (dgt q g 5))) ⟨hx, hb, hml, hown, hts⟩ (c_X7_digit l D cI cZ md q w su po xs ys zs hM g 5 (by decide) k_g) (cwV 2 hts gX7_isThrough_X7_digit rfl rfl rfl hdV_X7_digit ⟨Nat.le_of_ble_eq_true rfl, Nat.le_of_ble_eq_true rfl⟩) hK hN hP [0, 1, 2, 3, 4, 5] rfl 0 7 rfl rfl rfl hl.1 rfl (Nat.le_of_ble_eq_true rfl) ⟨Nat.zero_le _, Nat.zero_le _⟩ dX7_isThrough_59 ?_
            have hh_6 : dgt q g 5 < q := dgt_lt (by omega)
            refine lv_iload_n hx hb dX7_isThrough_62 rfl (lv_at hl 3 rfl) ?_
            refine ctR_V (As := [.int (nI (dgt q g 0)), .int (nI (dgt q g 1)), .int (nI (dgt q g 2)), .int (nI (dgt q g 3)), .int (nI (dgt q g 4)), .int (nI (dgt q g 5)), .int (nI j)]) (rest := []) (r := .int (nI (crv q (u6 (dgt q g 0) (dgt q g 1) (dgt q g 2) (dgt q g 3) (dgt q g 4) (dgt q g 5)) j))) ⟨hx, hb, hml, hown, hts⟩ (c_X7_valueOf l D cI cZ md q w su po xs ys zs hM (dgt q g 0) (dgt q g 1) (dgt q g 2) (dgt q g 3) (dgt q g 4) (dgt q g 5) j (by omega) (by omega) (by omega) (by omega) (by omega) (by omega) (by omega)) (cwV 7 hts gX7_isThrough_X7_valueOf rfl rfl rfl hdV_X7_valueOf ⟨Nat.le_of_ble_eq_true rfl, Nat.le_of_ble_eq_true rfl⟩) hK hN hP [0, 1, 2, 3, 4, 5] rfl 0 7 rfl rfl rfl hl.1 rfl (Nat.le_of_ble_eq_true rfl) ⟨Nat.zero_le _, Nat.zero_le _⟩ dX7_isThrough_63 ?_
            refine nv_top (v' := .int (nI (crv q (dgt q g) j))) (by rw [crv_dg]) ?_
            refine nv_if_ne (tgt := 73) hx hb (Nat.lt_of_lt_of_le (crv_lt hM.1 (fun k _ => dgt_lt (by omega)) c9) (by omega)) dX7_isThrough_66 (by decide) (fun c66 => ?_) (fun c66 => ?_)
            · refine lv_iconst (v := nI 0) hx hb dX7_isThrough_73 (by decide) ?_
              refine lv_istore_n (lv' := [(2, .int (nI 0)), (0, .ref (md 0)), (1, .int (nI g)), (3, .int (nI j))]) hx hb dX7_isThrough_74 rfl hl (by decide) rfl (fun ls hl => ?_)
              refine lv_iinc (v := nI (j + 1)) (lv' := [(3, .int (nI (j + 1))), (2, .int (nI 0)), (0, .ref (md 0)), (1, .int (nI g))]) hx hb dX7_isThrough_75 hl (k := 3) rfl (nI_inc j) (by decide) rfl (fun ls hl => ?_)
              refine lv_goto (tgt := 4) hx hb dX7_isThrough_78 (by decide) ?_
              exact ih4 false (j + 1) ls (by omega) (by omega) (by rw [allB, c22, beq_eq_false_iff_ne.mpr c66]; exact (Bool.and_false _).symm) (lv_sub hl [2, 3, 1, 0] rfl)
            · refine lv_iconst (v := nI 1) hx hb dX7_isThrough_69 (by decide) ?_
              refine lv_goto (tgt := 74) hx hb dX7_isThrough_70 (by decide) ?_
              refine lv_istore_n (lv' := [(2, .int (nI 1)), (0, .ref (md 0)), (1, .int (nI g)), (3, .int (nI j))]) hx hb dX7_isThrough_74 rfl hl (by decide) rfl (fun ls hl => ?_)
              refine lv_iinc (v := nI (j + 1)) (lv' := [(3, .int (nI (j + 1))), (2, .int (nI 1)), (0, .ref (md 0)), (1, .int (nI g))]) hx hb dX7_isThrough_75 hl (k := 3) rfl (nI_inc j) (by decide) rfl (fun ls hl => ?_)
              refine lv_goto (tgt := 4) hx hb dX7_isThrough_78 (by decide) ?_
              exact ih4 true (j + 1) ls (by omega) (by omega) (by rw [allB, ← k_a, c13, beq_iff_eq.mpr c66, Bool.or_true]; rfl) (lv_sub hl [2, 3, 1, 0] rfl)
  exact L4 (nn q - 0 + 1) true 0 ls (by omega) (Nat.zero_le _) rfl (lv_sub hl [2, 3, 1, 0] rfl)

set_option maxHeartbeats 4000000 in
set_option maxRecDepth 100000 in
theorem c_X7_through (l : Launch) (D : va_G) (cI cZ : ClassId) (md : Nat → Nat) (q : Nat) (w : Nat) (su : Nat → Nat) (po : Nat → Nat) (xs : Nat → Nat) (ys : Nat → Nat) (zs : Nat → Nat) (hM : MOK q su po xs ys zs) (S : Nat → Bool) (k : Int32) : CtR l yX7_through wsX7_through { frames := 3, cells := 0, slots := 0, locals := 76 } D (tyG cI cZ) [.ref (md 0), .int k] [(md 0, .inr (7, [.int (nI q), .int (nI (nn q)), .ref (md 1), .ref (md 2), .ref (md 3), .ref (md 4), .ref (md 5), .ref (md 6), .ref (md 7), .ref (md 8), .ref (md 9), .ref (md 10), .ref (md 11), .ref (md 12), .ref (md 13), .ref (md 14), .ref (md 15), .ref (md 16), .int (nI w), .ref (md 17)])), (md 1, .inl (cI, 81, .inl (nF su))), (md 2, .inl (cI, 81, .inl (nF po))), (md 3, .inl (cI, 91, .inl (nF xs))), (md 4, .inl (cI, 91, .inl (nF ys))), (md 5, .inl (cI, 91, .inl (nF zs))), (md 6, .inl (cZ, 91, .inl (bF S)))] (.int (thrZ q S k)) := by
  refine Met.ofW (cc := cX7_through) (maxL := 4) (ret := some .int) (by decide) rfl ?_
  intro p e s m args below meth c s₁ B hml hv
  obtain ⟨rfl, hP, hK, hN⟩ := hv
  have hx := B.exec
  have hb := B.bytes
  have hr := B.returns
  have hts := atoms_spec (ws := wsX7_through) B.pre
  have hown : s.vm.findClass RX7 = some m.cls := findClass_of_methodNamed B.named
  have hlocks := B.notSynchronized
  have hf25 := hts (.fieldLink RX7 25 "FinitePlanesModel" "isIn" "[Z") (by decide +kernel)
  have hf83 := hts (.fieldLink RX7 83 "FinitePlanesModel" "n" "I") (by decide +kernel)
  have hiX7 : ∀ w ∈ u_ws RX7 TX7 20, w ∈ wsX7_through := by decide +kernel
  have hl := lv_entry ([.ref (md 0), .int k]) (n := 4) (Nat.le_of_ble_eq_true rfl)
  rw [lg_entry_eq]
  generalize (lg_sl ([.ref (md 0), .int k]) ++ List.replicate (4 - (lg_sl ([.ref (md 0), .int k])).length) Slot.unset).toArray = ls at hl ⊢
  have hl : lv_has ls 4 [(0, .ref (md 0)), (1, .int k)] := hl
  have hq2 := qs_le hM.1
  have hn2 := nn_le hM.1
  refine lv_iload_n hx hb dX7_through_0 rfl (lv_at hl 1 rfl) ?_
  refine lv_iconst (v := nI 0) hx hb dX7_through_1 (by decide) ?_
  refine lv_iconst (v := nI 5) hx hb dX7_through_2 (by decide) ?_
  refine ctR_S (As := [.int k, .int (nI 0), .int (nI 5)]) (rest := []) (r := .int (nI (inR k 0 5).toNat)) ⟨hx, hb, hml, hown, hts⟩ (c_X7_isFrom l D cI cZ k 0 5 (by omega) (by omega)) (va_cwS 3 hts gX7_through_X7_isFrom rfl rfl rfl hdS_X7_isFrom ⟨Nat.le_of_ble_eq_true rfl, Nat.le_of_ble_eq_true rfl⟩) hK hN hP [] rfl rfl hl.1 rfl (Nat.le_of_ble_eq_true rfl) ⟨Nat.zero_le _, Nat.zero_le _⟩ dX7_through_3 ?_
  refine nv_ifb_ne (tgt := 12) hx hb dX7_through_6 (by decide) (fun c6 => ?_) (fun c6 => ?_)
  · have hk9 := c6
    obtain ⟨j, hj1, hj, rfl⟩ := inR_of (by omega) c6
    refine lv_aload_n hx hb dX7_through_12 rfl (lv_at hl 0 rfl) ?_
    refine lv_aload_n hx hb dX7_through_13 rfl (lv_at hl 0 rfl) ?_
    refine va_get (D := D) (ci := 7) (v := .ref (md 6)) (C := RX7) (T := TX7) (N := 20) hx hb hts hiX7 hown hK hP 0 rfl rfl 7 (by decide) hf25 (fun _ h9 => h9) rfl dX7_through_14 ?_
    refine ctR_V (As := [.ref (md 6)]) (rest := []) (r := .int (nI (cnt S (nn q)))) ⟨hx, hb, hml, hown, hts⟩ (c_X7_sizeOf l D cI cZ md q w su po xs ys zs hM (md 6) S) (cwV 1 hts gX7_through_X7_sizeOf rfl rfl rfl hdV_X7_sizeOf ⟨Nat.le_of_ble_eq_true rfl, Nat.le_of_ble_eq_true rfl⟩) hK hN hP [0, 1, 2, 3, 4, 5, 6] rfl 0 7 rfl rfl rfl hl.1 rfl (Nat.le_of_ble_eq_true rfl) ⟨Nat.zero_le _, Nat.zero_le _⟩ dX7_through_17 ?_
    have hh_1 : cnt S (nn q) ≤ nn q := cnt_le _ _
    refine lv_iconst (v := nI 5) hx hb dX7_through_20 (by decide) ?_
    refine nv_icmp_ne (tgt := 28) hx hb (by omega) (by decide) dX7_through_21 (by decide) (fun c21 => ?_) (fun c21 => ?_)
    · refine lv_iconst (v := nI 0) hx hb dX7_through_28 (by decide) ?_
      refine lv_istore_n (lv' := [(2, .int (nI 0)), (0, .ref (md 0)), (1, .int (nI j))]) hx hb dX7_through_29 rfl hl (by decide) rfl (fun ls hl => ?_)
      refine lv_iconst (v := nI 0) hx hb dX7_through_30 (by decide) ?_
      refine lv_istore_n (lv' := [(3, .int (nI 0)), (2, .int (nI 0)), (0, .ref (md 0)), (1, .int (nI j))]) hx hb dX7_through_31 rfl hl (by decide) rfl (fun ls hl => ?_)
      have L32 : ∀ (N32 : Nat) (y : Bool) (i : Nat) (ls : Array Slot), nn q - i < N32 → (i ≤ nn q) → (y = (decide (cnt S (nn q) = 5) && allB (fun l => decide (metq q S l < 4)) i)) → lv_has ls 4 [(0, .ref (md 0)), (1, .int (nI j)), (2, .int (nI (y).toNat)), (3, .int (nI i))] → WR p l e wsX7_through { frames := 3, cells := 0, slots := 0, locals := 76 } s m [.ref (md 0), .int (nI j)] below meth c (.int (thrZ q S (nI j))) 32 ls [] := by
        intro N32
        induction N32 with
        | zero => intro y i ls hN; exact absurd hN (Nat.not_lt_zero _)
        | succ N32 ih32 =>
          intro y i ls hN32 k_i k_y hl
          refine lv_iload_n hx hb dX7_through_32 rfl (lv_at hl 3 rfl) ?_
          refine lv_aload_n hx hb dX7_through_33 rfl (lv_at hl 0 rfl) ?_
          refine va_get (D := D) (ci := 7) (v := .int (nI (nn q))) (C := RX7) (T := TX7) (N := 20) hx hb hts hiX7 hown hK hP 0 rfl rfl 1 (by decide) hf83 (fun _ h9 => h9) rfl dX7_through_34 ?_
          refine nv_icmp_ge (tgt := 69) hx hb (by omega) (by omega) dX7_through_37 (by decide) (fun c37 => ?_) (fun c37 => ?_)
          · have hi9 : i = nn q := by omega
            subst hi9
            have k_y : y = fivB q S := k_y
            refine lv_iload_n hx hb dX7_through_69 rfl (lv_at hl 2 rfl) ?_
            refine nv_ifb_ne (tgt := 75) hx hb dX7_through_70 (by decide) (fun c70 => ?_) (fun c70 => ?_)
            · have h5 : fiv q S := fivB_iff.mp (k_y.symm.trans c70)
              have hC := thrC_ok hM.1 h5
              have hC1 := hC.1
              refine lv_iconst (v := nI 1) hx hb dX7_through_75 (by decide) ?_
              refine lv_istore_n (lv' := [(3, .int (nI 1)), (0, .ref (md 0)), (1, .int (nI j)), (2, .int (nI (y).toNat))]) hx hb dX7_through_76 rfl hl (by decide) rfl (fun ls hl => ?_)
              have L77 : ∀ (N77 : Nat) (f : Nat) (ls : Array Slot), thrC q S - f < N77 → (1 ≤ f) → (f ≤ thrC q S) → lv_has ls 4 [(0, .ref (md 0)), (1, .int (nI j)), (3, .int (nI f))] → WR p l e wsX7_through { frames := 3, cells := 0, slots := 0, locals := 76 } s m [.ref (md 0), .int (nI j)] below meth c (.int (thrZ q S (nI j))) 77 ls [] := by
                intro N77
                induction N77 with
                | zero => intro f ls hN; exact absurd hN (Nat.not_lt_zero _)
                | succ N77 ih77 =>
                  intro f ls hN77 k_1 k_f hl
                  refine lv_aload_n hx hb dX7_through_77 rfl (lv_at hl 0 rfl) ?_
                  refine lv_iload_n hx hb dX7_through_78 rfl (lv_at hl 2 rfl) ?_
                  refine ctR_V (As := [.int (nI f)]) (rest := []) (r := .int (nI (oneB q f).toNat)) ⟨hx, hb, hml, hown, hts⟩ (c_X7_isFirstOne l D cI cZ md q w su po xs ys zs hM f (by omega)) (cwV 1 hts gX7_through_X7_isFirstOne rfl rfl rfl hdV_X7_isFirstOne ⟨Nat.le_of_ble_eq_true rfl, Nat.le_of_ble_eq_true rfl⟩) hK hN hP [0, 1, 2, 3, 4, 5] rfl 0 7 rfl rfl rfl hl.1 rfl (Nat.le_of_ble_eq_true rfl) ⟨Nat.zero_le _, Nat.zero_le _⟩ dX7_through_79 ?_
                  refine nv_ifb_eq (tgt := 93) hx hb dX7_through_82 (by decide) (fun c82 => ?_) (fun c82 => ?_)
                  · have hf1 : f + 1 ≤ thrC q S := by
                      have : ¬ f = thrC q S := fun z => by rw [z, hC.2.1] at c82; cases c82
                      omega
                    refine lv_iinc (v := nI (f + 1)) (lv' := [(3, .int (nI (f + 1))), (0, .ref (md 0)), (1, .int (nI j))]) hx hb dX7_through_93 hl (k := 2) rfl (nI_inc f) (by decide) rfl (fun ls hl => ?_)
                    refine lv_goto (tgt := 77) hx hb dX7_through_96 (by decide) ?_
                    exact ih77 (f + 1) ls (by omega) (by omega) hf1 (lv_sub hl [1, 2, 0] rfl)
                  · refine lv_aload_n hx hb dX7_through_85 rfl (lv_at hl 0 rfl) ?_
                    refine lv_iload_n hx hb dX7_through_86 rfl (lv_at hl 2 rfl) ?_
                    refine ctR_V (As := [.int (nI f)]) (rest := []) (r := .int (nI (pasB q S f).toNat)) ⟨hx, hb, hml, hown, hts⟩ (c_X7_isThrough l D cI cZ md q w su po xs ys zs hM S f (by omega)) (cwV 1 hts gX7_through_X7_isThrough rfl rfl rfl hdV_X7_isThrough ⟨Nat.le_of_ble_eq_true rfl, Nat.le_of_ble_eq_true rfl⟩) hK hN hP [0, 1, 2, 3, 4, 5, 6] rfl 0 7 rfl rfl rfl hl.1 rfl (Nat.le_of_ble_eq_true rfl) ⟨Nat.zero_le _, Nat.zero_le _⟩ dX7_through_87 ?_
                    refine nv_ifb_ne (tgt := 99) hx hb dX7_through_90 (by decide) (fun c90 => ?_) (fun c90 => ?_)
                    · refine lv_aload_n hx hb dX7_through_99 rfl (lv_at hl 0 rfl) ?_
                      refine lv_iload_n hx hb dX7_through_100 rfl (lv_at hl 2 rfl) ?_
                      refine lv_iload_n hx hb dX7_through_101 rfl (lv_at hl 1 rfl) ?_
                      refine ctR_V (As := [.int (nI f), .int (nI j)]) (rest := []) (r := .int (nI (dgt q f j))) ⟨hx, hb, hml, hown, hts⟩ (c_X7_digit l D cI cZ md q w su po xs ys zs hM f j (by omega) (by omega)) (cwV 2 hts gX7_through_X7_digit rfl rfl rfl hdV_X7_digit ⟨Nat.le_of_ble_eq_true rfl, Nat.le_of_ble_eq_true rfl⟩) hK hN hP [0, 1, 2, 3, 4, 5] rfl 0 7 rfl rfl rfl hl.1 rfl (Nat.le_of_ble_eq_true rfl) ⟨Nat.zero_le _, Nat.zero_le _⟩ dX7_through_102 ?_
                      have hh_2 : dgt q f j < q := dgt_lt (by omega)
                      exact ctR_ret (v := (nI (dgt q f j))) hx hb hr rfl dX7_through_105 hlocks (by rw [thrZ, if_neg (bool_nf hk9), if_neg (bool_nf (k_y.symm.trans c70)), nv_nI (by omega), thrC_u hM.1 h5 c82 c90 (by omega)])
                    · have hf2 : f + 1 ≤ thrC q S := by
                        have : ¬ f = thrC q S := fun z => by rw [z, hC.2.2] at c90; cases c90
                        omega
                      refine lv_iinc (v := nI (f + 1)) (lv' := [(3, .int (nI (f + 1))), (0, .ref (md 0)), (1, .int (nI j))]) hx hb dX7_through_93 hl (k := 2) rfl (nI_inc f) (by decide) rfl (fun ls hl => ?_)
                      refine lv_goto (tgt := 77) hx hb dX7_through_96 (by decide) ?_
                      exact ih77 (f + 1) ls (by omega) (by omega) hf2 (lv_sub hl [1, 2, 0] rfl)
              exact L77 (thrC q S - 1 + 1) 1 ls (by omega) (Nat.le_refl 1) (thrC_pos hM.1 h5) (lv_sub hl [1, 2, 0] rfl)
            · refine lv_iconst (v := (-1)) hx hb dX7_through_73 (by decide) ?_
              exact ctR_ret (v := (-1)) hx hb hr rfl dX7_through_74 hlocks (by rw [thrZ, if_neg (bool_nf hk9), if_pos (k_y.symm.trans c70)])
          · refine lv_iload_n hx hb dX7_through_40 rfl (lv_at hl 2 rfl) ?_
            refine nv_ifb_eq (tgt := 61) hx hb dX7_through_41 (by decide) (fun c41 => ?_) (fun c41 => ?_)
            · refine lv_iconst (v := nI 0) hx hb dX7_through_61 (by decide) ?_
              refine lv_istore_n (lv' := [(2, .int (nI 0)), (0, .ref (md 0)), (1, .int (nI j)), (3, .int (nI i))]) hx hb dX7_through_62 rfl hl (by decide) rfl (fun ls hl => ?_)
              refine lv_iinc (v := nI (i + 1)) (lv' := [(3, .int (nI (i + 1))), (2, .int (nI 0)), (0, .ref (md 0)), (1, .int (nI j))]) hx hb dX7_through_63 hl (k := 3) rfl (nI_inc i) (by decide) rfl (fun ls hl => ?_)
              refine lv_goto (tgt := 32) hx hb dX7_through_66 (by decide) ?_
              exact ih32 false (i + 1) ls (by omega) (by omega) (fl_f k_y c41) (lv_sub hl [2, 3, 1, 0] rfl)
            · refine lv_aload_n hx hb dX7_through_44 rfl (lv_at hl 0 rfl) ?_
              refine lv_aload_n hx hb dX7_through_45 rfl (lv_at hl 0 rfl) ?_
              refine va_get (D := D) (ci := 7) (v := .ref (md 6)) (C := RX7) (T := TX7) (N := 20) hx hb hts hiX7 hown hK hP 0 rfl rfl 7 (by decide) hf25 (fun _ h9 => h9) rfl dX7_through_46 ?_
              refine lv_iload_n hx hb dX7_through_49 rfl (lv_at hl 3 rfl) ?_
              refine ctR_V (As := [.ref (md 6), .int (nI i)]) (rest := []) (r := .int (nI (metq q S i))) ⟨hx, hb, hml, hown, hts⟩ (c_X7_met l D cI cZ md q w su po xs ys zs hM (md 6) S i (by omega)) (cwV 2 hts gX7_through_X7_met rfl rfl rfl hdV_X7_met ⟨Nat.le_of_ble_eq_true rfl, Nat.le_of_ble_eq_true rfl⟩) hK hN hP [0, 1, 2, 3, 4, 5, 6] rfl 0 7 rfl rfl rfl hl.1 rfl (Nat.le_of_ble_eq_true rfl) ⟨Nat.zero_le _, Nat.zero_le _⟩ dX7_through_50 ?_
              have hh_3 : metq q S i ≤ nn q := cnt_le _ _
              refine lv_iconst (v := nI 4) hx hb dX7_through_53 (by decide) ?_
              refine nv_icmp_ge (tgt := 61) hx hb (by omega) (by decide) dX7_through_54 (by decide) (fun c54 => ?_) (fun c54 => ?_)
              · refine lv_iconst (v := nI 0) hx hb dX7_through_61 (by decide) ?_
                refine lv_istore_n (lv' := [(2, .int (nI 0)), (0, .ref (md 0)), (1, .int (nI j)), (3, .int (nI i))]) hx hb dX7_through_62 rfl hl (by decide) rfl (fun ls hl => ?_)
                refine lv_iinc (v := nI (i + 1)) (lv' := [(3, .int (nI (i + 1))), (2, .int (nI 0)), (0, .ref (md 0)), (1, .int (nI j))]) hx hb dX7_through_63 hl (k := 3) rfl (nI_inc i) (by decide) rfl (fun ls hl => ?_)
                refine lv_goto (tgt := 32) hx hb dX7_through_66 (by decide) ?_
                exact ih32 false (i + 1) ls (by omega) (by omega) (fl_0 (by omega)) (lv_sub hl [2, 3, 1, 0] rfl)
              · refine lv_iconst (v := nI 1) hx hb dX7_through_57 (by decide) ?_
                refine lv_goto (tgt := 62) hx hb dX7_through_58 (by decide) ?_
                refine lv_istore_n (lv' := [(2, .int (nI 1)), (0, .ref (md 0)), (1, .int (nI j)), (3, .int (nI i))]) hx hb dX7_through_62 rfl hl (by decide) rfl (fun ls hl => ?_)
                refine lv_iinc (v := nI (i + 1)) (lv' := [(3, .int (nI (i + 1))), (2, .int (nI 1)), (0, .ref (md 0)), (1, .int (nI j))]) hx hb dX7_through_63 hl (k := 3) rfl (nI_inc i) (by decide) rfl (fun ls hl => ?_)
                refine lv_goto (tgt := 32) hx hb dX7_through_66 (by decide) ?_
                exact ih32 true (i + 1) ls (by omega) (by omega) (fl_1 k_y c41 c54) (lv_sub hl [2, 3, 1, 0] rfl)
      exact L32 (nn q - 0 + 1) false 0 ls (by omega) (Nat.zero_le _) (by first | (rw [decide_eq_false c21]; rfl) | (rw [decide_eq_true c21]; rfl)) (lv_sub hl [2, 3, 1, 0] rfl)
    · refine lv_iconst (v := nI 1) hx hb dX7_through_24 (by decide) ?_
      refine lv_goto (tgt := 29) hx hb dX7_through_25 (by decide) ?_
      refine lv_istore_n (lv' := [(2, .int (nI 1)), (0, .ref (md 0)), (1, .int (nI j))]) hx hb dX7_through_29 rfl hl (by decide) rfl (fun ls hl => ?_)
      refine lv_iconst (v := nI 0) hx hb dX7_through_30 (by decide) ?_
      refine lv_istore_n (lv' := [(3, .int (nI 0)), (2, .int (nI 1)), (0, .ref (md 0)), (1, .int (nI j))]) hx hb dX7_through_31 rfl hl (by decide) rfl (fun ls hl => ?_)
      have L32 : ∀ (N32 : Nat) (y : Bool) (i : Nat) (ls : Array Slot), nn q - i < N32 → (i ≤ nn q) → (y = (decide (cnt S (nn q) = 5) && allB (fun l => decide (metq q S l < 4)) i)) → lv_has ls 4 [(0, .ref (md 0)), (1, .int (nI j)), (2, .int (nI (y).toNat)), (3, .int (nI i))] → WR p l e wsX7_through { frames := 3, cells := 0, slots := 0, locals := 76 } s m [.ref (md 0), .int (nI j)] below meth c (.int (thrZ q S (nI j))) 32 ls [] := by
        intro N32
        induction N32 with
        | zero => intro y i ls hN; exact absurd hN (Nat.not_lt_zero _)
        | succ N32 ih32 =>
          intro y i ls hN32 k_i k_y hl
          refine lv_iload_n hx hb dX7_through_32 rfl (lv_at hl 3 rfl) ?_
          refine lv_aload_n hx hb dX7_through_33 rfl (lv_at hl 0 rfl) ?_
          refine va_get (D := D) (ci := 7) (v := .int (nI (nn q))) (C := RX7) (T := TX7) (N := 20) hx hb hts hiX7 hown hK hP 0 rfl rfl 1 (by decide) hf83 (fun _ h9 => h9) rfl dX7_through_34 ?_
          refine nv_icmp_ge (tgt := 69) hx hb (by omega) (by omega) dX7_through_37 (by decide) (fun c37 => ?_) (fun c37 => ?_)
          · have hi9 : i = nn q := by omega
            subst hi9
            have k_y : y = fivB q S := k_y
            refine lv_iload_n hx hb dX7_through_69 rfl (lv_at hl 2 rfl) ?_
            refine nv_ifb_ne (tgt := 75) hx hb dX7_through_70 (by decide) (fun c70 => ?_) (fun c70 => ?_)
            · have h5 : fiv q S := fivB_iff.mp (k_y.symm.trans c70)
              have hC := thrC_ok hM.1 h5
              have hC1 := hC.1
              refine lv_iconst (v := nI 1) hx hb dX7_through_75 (by decide) ?_
              refine lv_istore_n (lv' := [(3, .int (nI 1)), (0, .ref (md 0)), (1, .int (nI j)), (2, .int (nI (y).toNat))]) hx hb dX7_through_76 rfl hl (by decide) rfl (fun ls hl => ?_)
              have L77 : ∀ (N77 : Nat) (f : Nat) (ls : Array Slot), thrC q S - f < N77 → (1 ≤ f) → (f ≤ thrC q S) → lv_has ls 4 [(0, .ref (md 0)), (1, .int (nI j)), (3, .int (nI f))] → WR p l e wsX7_through { frames := 3, cells := 0, slots := 0, locals := 76 } s m [.ref (md 0), .int (nI j)] below meth c (.int (thrZ q S (nI j))) 77 ls [] := by
                intro N77
                induction N77 with
                | zero => intro f ls hN; exact absurd hN (Nat.not_lt_zero _)
                | succ N77 ih77 =>
                  intro f ls hN77 k_1 k_f hl
                  refine lv_aload_n hx hb dX7_through_77 rfl (lv_at hl 0 rfl) ?_
                  refine lv_iload_n hx hb dX7_through_78 rfl (lv_at hl 2 rfl) ?_
                  refine ctR_V (As := [.int (nI f)]) (rest := []) (r := .int (nI (oneB q f).toNat)) ⟨hx, hb, hml, hown, hts⟩ (c_X7_isFirstOne l D cI cZ md q w su po xs ys zs hM f (by omega)) (cwV 1 hts gX7_through_X7_isFirstOne rfl rfl rfl hdV_X7_isFirstOne ⟨Nat.le_of_ble_eq_true rfl, Nat.le_of_ble_eq_true rfl⟩) hK hN hP [0, 1, 2, 3, 4, 5] rfl 0 7 rfl rfl rfl hl.1 rfl (Nat.le_of_ble_eq_true rfl) ⟨Nat.zero_le _, Nat.zero_le _⟩ dX7_through_79 ?_
                  refine nv_ifb_eq (tgt := 93) hx hb dX7_through_82 (by decide) (fun c82 => ?_) (fun c82 => ?_)
                  · have hf1 : f + 1 ≤ thrC q S := by
                      have : ¬ f = thrC q S := fun z => by rw [z, hC.2.1] at c82; cases c82
                      omega
                    refine lv_iinc (v := nI (f + 1)) (lv' := [(3, .int (nI (f + 1))), (0, .ref (md 0)), (1, .int (nI j))]) hx hb dX7_through_93 hl (k := 2) rfl (nI_inc f) (by decide) rfl (fun ls hl => ?_)
                    refine lv_goto (tgt := 77) hx hb dX7_through_96 (by decide) ?_
                    exact ih77 (f + 1) ls (by omega) (by omega) hf1 (lv_sub hl [1, 2, 0] rfl)
                  · refine lv_aload_n hx hb dX7_through_85 rfl (lv_at hl 0 rfl) ?_
                    refine lv_iload_n hx hb dX7_through_86 rfl (lv_at hl 2 rfl) ?_
                    refine ctR_V (As := [.int (nI f)]) (rest := []) (r := .int (nI (pasB q S f).toNat)) ⟨hx, hb, hml, hown, hts⟩ (c_X7_isThrough l D cI cZ md q w su po xs ys zs hM S f (by omega)) (cwV 1 hts gX7_through_X7_isThrough rfl rfl rfl hdV_X7_isThrough ⟨Nat.le_of_ble_eq_true rfl, Nat.le_of_ble_eq_true rfl⟩) hK hN hP [0, 1, 2, 3, 4, 5, 6] rfl 0 7 rfl rfl rfl hl.1 rfl (Nat.le_of_ble_eq_true rfl) ⟨Nat.zero_le _, Nat.zero_le _⟩ dX7_through_87 ?_
                    refine nv_ifb_ne (tgt := 99) hx hb dX7_through_90 (by decide) (fun c90 => ?_) (fun c90 => ?_)
                    · refine lv_aload_n hx hb dX7_through_99 rfl (lv_at hl 0 rfl) ?_
                      refine lv_iload_n hx hb dX7_through_100 rfl (lv_at hl 2 rfl) ?_
                      refine lv_iload_n hx hb dX7_through_101 rfl (lv_at hl 1 rfl) ?_
                      refine ctR_V (As := [.int (nI f), .int (nI j)]) (rest := []) (r := .int (nI (dgt q f j))) ⟨hx, hb, hml, hown, hts⟩ (c_X7_digit l D cI cZ md q w su po xs ys zs hM f j (by omega) (by omega)) (cwV 2 hts gX7_through_X7_digit rfl rfl rfl hdV_X7_digit ⟨Nat.le_of_ble_eq_true rfl, Nat.le_of_ble_eq_true rfl⟩) hK hN hP [0, 1, 2, 3, 4, 5] rfl 0 7 rfl rfl rfl hl.1 rfl (Nat.le_of_ble_eq_true rfl) ⟨Nat.zero_le _, Nat.zero_le _⟩ dX7_through_102 ?_
                      have hh_4 : dgt q f j < q := dgt_lt (by omega)
                      exact ctR_ret (v := (nI (dgt q f j))) hx hb hr rfl dX7_through_105 hlocks (by rw [thrZ, if_neg (bool_nf hk9), if_neg (bool_nf (k_y.symm.trans c70)), nv_nI (by omega), thrC_u hM.1 h5 c82 c90 (by omega)])
                    · have hf2 : f + 1 ≤ thrC q S := by
                        have : ¬ f = thrC q S := fun z => by rw [z, hC.2.2] at c90; cases c90
                        omega
                      refine lv_iinc (v := nI (f + 1)) (lv' := [(3, .int (nI (f + 1))), (0, .ref (md 0)), (1, .int (nI j))]) hx hb dX7_through_93 hl (k := 2) rfl (nI_inc f) (by decide) rfl (fun ls hl => ?_)
                      refine lv_goto (tgt := 77) hx hb dX7_through_96 (by decide) ?_
                      exact ih77 (f + 1) ls (by omega) (by omega) hf2 (lv_sub hl [1, 2, 0] rfl)
              exact L77 (thrC q S - 1 + 1) 1 ls (by omega) (Nat.le_refl 1) (thrC_pos hM.1 h5) (lv_sub hl [1, 2, 0] rfl)
            · refine lv_iconst (v := (-1)) hx hb dX7_through_73 (by decide) ?_
              exact ctR_ret (v := (-1)) hx hb hr rfl dX7_through_74 hlocks (by rw [thrZ, if_neg (bool_nf hk9), if_pos (k_y.symm.trans c70)])
          · refine lv_iload_n hx hb dX7_through_40 rfl (lv_at hl 2 rfl) ?_
            refine nv_ifb_eq (tgt := 61) hx hb dX7_through_41 (by decide) (fun c41 => ?_) (fun c41 => ?_)
            · refine lv_iconst (v := nI 0) hx hb dX7_through_61 (by decide) ?_
              refine lv_istore_n (lv' := [(2, .int (nI 0)), (0, .ref (md 0)), (1, .int (nI j)), (3, .int (nI i))]) hx hb dX7_through_62 rfl hl (by decide) rfl (fun ls hl => ?_)
              refine lv_iinc (v := nI (i + 1)) (lv' := [(3, .int (nI (i + 1))), (2, .int (nI 0)), (0, .ref (md 0)), (1, .int (nI j))]) hx hb dX7_through_63 hl (k := 3) rfl (nI_inc i) (by decide) rfl (fun ls hl => ?_)
              refine lv_goto (tgt := 32) hx hb dX7_through_66 (by decide) ?_
              exact ih32 false (i + 1) ls (by omega) (by omega) (fl_f k_y c41) (lv_sub hl [2, 3, 1, 0] rfl)
            · refine lv_aload_n hx hb dX7_through_44 rfl (lv_at hl 0 rfl) ?_
              refine lv_aload_n hx hb dX7_through_45 rfl (lv_at hl 0 rfl) ?_
              refine va_get (D := D) (ci := 7) (v := .ref (md 6)) (C := RX7) (T := TX7) (N := 20) hx hb hts hiX7 hown hK hP 0 rfl rfl 7 (by decide) hf25 (fun _ h9 => h9) rfl dX7_through_46 ?_
              refine lv_iload_n hx hb dX7_through_49 rfl (lv_at hl 3 rfl) ?_
              refine ctR_V (As := [.ref (md 6), .int (nI i)]) (rest := []) (r := .int (nI (metq q S i))) ⟨hx, hb, hml, hown, hts⟩ (c_X7_met l D cI cZ md q w su po xs ys zs hM (md 6) S i (by omega)) (cwV 2 hts gX7_through_X7_met rfl rfl rfl hdV_X7_met ⟨Nat.le_of_ble_eq_true rfl, Nat.le_of_ble_eq_true rfl⟩) hK hN hP [0, 1, 2, 3, 4, 5, 6] rfl 0 7 rfl rfl rfl hl.1 rfl (Nat.le_of_ble_eq_true rfl) ⟨Nat.zero_le _, Nat.zero_le _⟩ dX7_through_50 ?_
              have hh_5 : metq q S i ≤ nn q := cnt_le _ _
              refine lv_iconst (v := nI 4) hx hb dX7_through_53 (by decide) ?_
              refine nv_icmp_ge (tgt := 61) hx hb (by omega) (by decide) dX7_through_54 (by decide) (fun c54 => ?_) (fun c54 => ?_)
              · refine lv_iconst (v := nI 0) hx hb dX7_through_61 (by decide) ?_
                refine lv_istore_n (lv' := [(2, .int (nI 0)), (0, .ref (md 0)), (1, .int (nI j)), (3, .int (nI i))]) hx hb dX7_through_62 rfl hl (by decide) rfl (fun ls hl => ?_)
                refine lv_iinc (v := nI (i + 1)) (lv' := [(3, .int (nI (i + 1))), (2, .int (nI 0)), (0, .ref (md 0)), (1, .int (nI j))]) hx hb dX7_through_63 hl (k := 3) rfl (nI_inc i) (by decide) rfl (fun ls hl => ?_)
                refine lv_goto (tgt := 32) hx hb dX7_through_66 (by decide) ?_
                exact ih32 false (i + 1) ls (by omega) (by omega) (fl_0 (by omega)) (lv_sub hl [2, 3, 1, 0] rfl)
              · refine lv_iconst (v := nI 1) hx hb dX7_through_57 (by decide) ?_
                refine lv_goto (tgt := 62) hx hb dX7_through_58 (by decide) ?_
                refine lv_istore_n (lv' := [(2, .int (nI 1)), (0, .ref (md 0)), (1, .int (nI j)), (3, .int (nI i))]) hx hb dX7_through_62 rfl hl (by decide) rfl (fun ls hl => ?_)
                refine lv_iinc (v := nI (i + 1)) (lv' := [(3, .int (nI (i + 1))), (2, .int (nI 1)), (0, .ref (md 0)), (1, .int (nI j))]) hx hb dX7_through_63 hl (k := 3) rfl (nI_inc i) (by decide) rfl (fun ls hl => ?_)
                refine lv_goto (tgt := 32) hx hb dX7_through_66 (by decide) ?_
                exact ih32 true (i + 1) ls (by omega) (by omega) (fl_1 k_y c41 c54) (lv_sub hl [2, 3, 1, 0] rfl)
      exact L32 (nn q - 0 + 1) true 0 ls (by omega) (Nat.zero_le _) (by first | (rw [decide_eq_false c21]; rfl) | (rw [decide_eq_true c21]; rfl)) (lv_sub hl [2, 3, 1, 0] rfl)
  · refine lv_bipush (v := (-2)) hx hb dX7_through_9 (by decide) ?_
    exact ctR_ret (v := (-2)) hx hb hr rfl dX7_through_11 hlocks (by rw [thrZ, if_pos c6])

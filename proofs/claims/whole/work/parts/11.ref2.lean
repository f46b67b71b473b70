set_option maxHeartbeats 4000000 in
set_option maxRecDepth 100000 in
theorem c_X7_isOn (l : Launch) (D : va_G) (cI cZ : ClassId) (md : Nat → Nat) (q : Nat) (w : Nat) (su : Nat → Nat) (po : Nat → Nat) (xs : Nat → Nat) (ys : Nat → Nat) (zs : Nat → Nat) (hM : MOK q su po xs ys zs) (i : Nat) (j : Nat) (k_1 : i < nn q) (k_2 : j < nn q) : CtR l yX7_isOn wsX7_isOn { frames := 1, cells := 0, slots := 0, locals := 22 } D (tyG cI cZ) [.ref (md 0), .int (nI i), .int (nI j)] [(md 0, .inr (7, [.int (nI q), .int (nI (nn q)), .ref (md 1), .ref (md 2), .ref (md 3), .ref (md 4), .ref (md 5), .ref (md 6), .ref (md 7), .ref (md 8), .ref (md 9), .ref (md 10), .ref (md 11), .ref (md 12), .ref (md 13), .ref (md 14), .ref (md 15), .ref (md 16), .int (nI w), .ref (md 17)])), (md 1, .inl (cI, 81, .inl (nF su))), (md 2, .inl (cI, 81, .inl (nF po))), (md 3, .inl (cI, 91, .inl (nF xs))), (md 4, .inl (cI, 91, .inl (nF ys))), (md 5, .inl (cI, 91, .inl (nF zs)))] (.int (nI (onq q i j).toNat)) := by
  refine Met.ofW (cc := cX7_isOn) (maxL := 3) (ret := some .boolean) (by decide) rfl ?_
  intro p e s m args below meth c s₁ B hml hv
  obtain ⟨rfl, hP, hK, hN⟩ := hv
  have hx := B.exec
  have hb := B.bytes
  have hr := B.returns
  have hts := atoms_spec (ws := wsX7_isOn) B.pre
  have hown : s.vm.findClass RX7 = some m.cls := findClass_of_methodNamed B.named
  have hlocks := B.notSynchronized
  have hf16 := hts (.fieldLink RX7 16 "FinitePlanesModel" "xs" "[I") (by decide +kernel)
  have hf19 := hts (.fieldLink RX7 19 "FinitePlanesModel" "ys" "[I") (by decide +kernel)
  have hf22 := hts (.fieldLink RX7 22 "FinitePlanesModel" "zs" "[I") (by decide +kernel)
  have hiX7 : ∀ w ∈ u_ws RX7 TX7 20, w ∈ wsX7_isOn := by decide +kernel
  have hl := lv_entry ([.ref (md 0), .int (nI i), .int (nI j)]) (n := 3) (Nat.le_of_ble_eq_true rfl)
  rw [lg_entry_eq]
  generalize (lg_sl ([.ref (md 0), .int (nI i), .int (nI j)]) ++ List.replicate (3 - (lg_sl ([.ref (md 0), .int (nI i), .int (nI j)])).length) Slot.unset).toArray = ls at hl ⊢
  have hl : lv_has ls 3 [(0, .ref (md 0)), (1, .int (nI i)), (2, .int (nI j))] := hl
  have hq2 := qs_le hM.1
  have hn2 := nn_le hM.1
  refine lv_aload_n hx hb dX7_isOn_0 rfl (lv_at hl 0 rfl) ?_
  refine lv_aload_n hx hb dX7_isOn_1 rfl (lv_at hl 0 rfl) ?_
  refine lv_aload_n hx hb dX7_isOn_2 rfl (lv_at hl 0 rfl) ?_
  refine lv_aload_n hx hb dX7_isOn_3 rfl (lv_at hl 0 rfl) ?_
  refine va_get (D := D) (ci := 7) (v := .ref (md 3)) (C := RX7) (T := TX7) (N := 20) hx hb hts hiX7 hown hK hP 0 rfl rfl 4 (by decide) hf16 (fun _ h9 => h9) rfl dX7_isOn_4 ?_
  refine lv_iload_n hx hb dX7_isOn_7 rfl (lv_at hl 1 rfl) ?_
  refine nv_iald hx hb hK hP 3 0 rfl rfl (by omega) (by decide) dX7_isOn_8 ?_
  refine nv_top (v' := .int (nI (pt q i 0))) (by rw [(hM.2.2.2 i (by omega)).1]) ?_
  refine lv_aload_n hx hb dX7_isOn_9 rfl (lv_at hl 0 rfl) ?_
  refine va_get (D := D) (ci := 7) (v := .ref (md 3)) (C := RX7) (T := TX7) (N := 20) hx hb hts hiX7 hown hK hP 0 rfl rfl 4 (by decide) hf16 (fun _ h9 => h9) rfl dX7_isOn_10 ?_
  refine lv_iload_n hx hb dX7_isOn_13 rfl (lv_at hl 2 rfl) ?_
  refine nv_iald hx hb hK hP 3 0 rfl rfl (by omega) (by decide) dX7_isOn_14 ?_
  refine nv_top (v' := .int (nI (pt q j 0))) (by rw [(hM.2.2.2 j (by omega)).1]) ?_
  have p0i := pt_lt (k := 0) hM.1 k_1 (by decide)
  have p1i := pt_lt (k := 1) hM.1 k_1 (by decide)
  have p2i := pt_lt (k := 2) hM.1 k_1 (by decide)
  have p0j := pt_lt (k := 0) hM.1 k_2 (by decide)
  have p1j := pt_lt (k := 1) hM.1 k_2 (by decide)
  have p2j := pt_lt (k := 2) hM.1 k_2 (by decide)
  refine ctR_V (As := [.int (nI (pt q i 0)), .int (nI (pt q j 0))]) (rest := [.ref (md 0), .ref (md 0)]) (r := .int (nI (fmul q (pt q i 0) (pt q j 0)))) ⟨hx, hb, hml, hown, hts⟩ (c_X7_times l D cI cZ md q w su po xs ys zs hM (pt q i 0) (pt q j 0) (by omega) (by omega)) (cwV 2 hts gX7_isOn_X7_times rfl rfl rfl hdV_X7_times ⟨Nat.le_of_ble_eq_true rfl, Nat.le_of_ble_eq_true rfl⟩) hK hN hP [0, 1, 2, 3, 4, 5] rfl 0 7 rfl rfl rfl hl.1 rfl (Nat.le_of_ble_eq_true rfl) ⟨Nat.zero_le _, Nat.zero_le _⟩ dX7_isOn_15 ?_
  have hh_1 : fmul q (pt q i 0) (pt q j 0) < q := fmul_lt hM.1 (by omega) (by omega)
  refine lv_aload_n hx hb dX7_isOn_18 rfl (lv_at hl 0 rfl) ?_
  refine lv_aload_n hx hb dX7_isOn_19 rfl (lv_at hl 0 rfl) ?_
  refine va_get (D := D) (ci := 7) (v := .ref (md 4)) (C := RX7) (T := TX7) (N := 20) hx hb hts hiX7 hown hK hP 0 rfl rfl 5 (by decide) hf19 (fun _ h9 => h9) rfl dX7_isOn_20 ?_
  refine lv_iload_n hx hb dX7_isOn_23 rfl (lv_at hl 1 rfl) ?_
  refine nv_iald hx hb hK hP 4 0 rfl rfl (by omega) (by decide) dX7_isOn_24 ?_
  refine nv_top (v' := .int (nI (pt q i 1))) (by rw [(hM.2.2.2 i (by omega)).2.1]) ?_
  refine lv_aload_n hx hb dX7_isOn_25 rfl (lv_at hl 0 rfl) ?_
  refine va_get (D := D) (ci := 7) (v := .ref (md 4)) (C := RX7) (T := TX7) (N := 20) hx hb hts hiX7 hown hK hP 0 rfl rfl 5 (by decide) hf19 (fun _ h9 => h9) rfl dX7_isOn_26 ?_
  refine lv_iload_n hx hb dX7_isOn_29 rfl (lv_at hl 2 rfl) ?_
  refine nv_iald hx hb hK hP 4 0 rfl rfl (by omega) (by decide) dX7_isOn_30 ?_
  refine nv_top (v' := .int (nI (pt q j 1))) (by rw [(hM.2.2.2 j (by omega)).2.1]) ?_
  refine ctR_V (As := [.int (nI (pt q i 1)), .int (nI (pt q j 1))]) (rest := [.int (nI (fmul q (pt q i 0) (pt q j 0))), .ref (md 0), .ref (md 0)]) (r := .int (nI (fmul q (pt q i 1) (pt q j 1)))) ⟨hx, hb, hml, hown, hts⟩ (c_X7_times l D cI cZ md q w su po xs ys zs hM (pt q i 1) (pt q j 1) (by omega) (by omega)) (cwV 2 hts gX7_isOn_X7_times rfl rfl rfl hdV_X7_times ⟨Nat.le_of_ble_eq_true rfl, Nat.le_of_ble_eq_true rfl⟩) hK hN hP [0, 1, 2, 3, 4, 5] rfl 0 7 rfl rfl rfl hl.1 rfl (Nat.le_of_ble_eq_true rfl) ⟨Nat.zero_le _, Nat.zero_le _⟩ dX7_isOn_31 ?_
  have hh_2 : fmul q (pt q i 1) (pt q j 1) < q := fmul_lt hM.1 (by omega) (by omega)
  refine ctR_V (As := [.int (nI (fmul q (pt q i 0) (pt q j 0))), .int (nI (fmul q (pt q i 1) (pt q j 1)))]) (rest := [.ref (md 0)]) (r := .int (nI (fadd q (fmul q (pt q i 0) (pt q j 0)) (fmul q (pt q i 1) (pt q j 1))))) ⟨hx, hb, hml, hown, hts⟩ (c_X7_add l D cI cZ md q w su po xs ys zs hM (fmul q (pt q i 0) (pt q j 0)) (fmul q (pt q i 1) (pt q j 1)) (by omega) (by omega)) (cwV 2 hts gX7_isOn_X7_add rfl rfl rfl hdV_X7_add ⟨Nat.le_of_ble_eq_true rfl, Nat.le_of_ble_eq_true rfl⟩) hK hN hP [0, 1, 2, 3, 4, 5] rfl 0 7 rfl rfl rfl hl.1 rfl (Nat.le_of_ble_eq_true rfl) ⟨Nat.zero_le _, Nat.zero_le _⟩ dX7_isOn_34 ?_
  have hh_3 : fadd q (fmul q (pt q i 0) (pt q j 0)) (fmul q (pt q i 1) (pt q j 1)) < q := fadd_lt hM.1 (by omega) (by omega)
  refine lv_aload_n hx hb dX7_isOn_37 rfl (lv_at hl 0 rfl) ?_
  refine lv_aload_n hx hb dX7_isOn_38 rfl (lv_at hl 0 rfl) ?_
  refine va_get (D := D) (ci := 7) (v := .ref (md 5)) (C := RX7) (T := TX7) (N := 20) hx hb hts hiX7 hown hK hP 0 rfl rfl 6 (by decide) hf22 (fun _ h9 => h9) rfl dX7_isOn_39 ?_
  refine lv_iload_n hx hb dX7_isOn_42 rfl (lv_at hl 1 rfl) ?_
  refine nv_iald hx hb hK hP 5 0 rfl rfl (by omega) (by decide) dX7_isOn_43 ?_
  refine nv_top (v' := .int (nI (pt q i 2))) (by rw [(hM.2.2.2 i (by omega)).2.2]) ?_
  refine lv_aload_n hx hb dX7_isOn_44 rfl (lv_at hl 0 rfl) ?_
  refine va_get (D := D) (ci := 7) (v := .ref (md 5)) (C := RX7) (T := TX7) (N := 20) hx hb hts hiX7 hown hK hP 0 rfl rfl 6 (by decide) hf22 (fun _ h9 => h9) rfl dX7_isOn_45 ?_
  refine lv_iload_n hx hb dX7_isOn_48 rfl (lv_at hl 2 rfl) ?_
  refine nv_iald hx hb hK hP 5 0 rfl rfl (by omega) (by decide) dX7_isOn_49 ?_
  refine nv_top (v' := .int (nI (pt q j 2))) (by rw [(hM.2.2.2 j (by omega)).2.2]) ?_
  refine ctR_V (As := [.int (nI (pt q i 2)), .int (nI (pt q j 2))]) (rest := [.int (nI (fadd q (fmul q (pt q i 0) (pt q j 0)) (fmul q (pt q i 1) (pt q j 1)))), .ref (md 0)]) (r := .int (nI (fmul q (pt q i 2) (pt q j 2)))) ⟨hx, hb, hml, hown, hts⟩ (c_X7_times l D cI cZ md q w su po xs ys zs hM (pt q i 2) (pt q j 2) (by omega) (by omega)) (cwV 2 hts gX7_isOn_X7_times rfl rfl rfl hdV_X7_times ⟨Nat.le_of_ble_eq_true rfl, Nat.le_of_ble_eq_true rfl⟩) hK hN hP [0, 1, 2, 3, 4, 5] rfl 0 7 rfl rfl rfl hl.1 rfl (Nat.le_of_ble_eq_true rfl) ⟨Nat.zero_le _, Nat.zero_le _⟩ dX7_isOn_50 ?_
  have hh_4 : fmul q (pt q i 2) (pt q j 2) < q := fmul_lt hM.1 (by omega) (by omega)
  refine ctR_V (As := [.int (nI (fadd q (fmul q (pt q i 0) (pt q j 0)) (fmul q (pt q i 1) (pt q j 1)))), .int (nI (fmul q (pt q i 2) (pt q j 2)))]) (rest := []) (r := .int (nI (fadd q (fadd q (fmul q (pt q i 0) (pt q j 0)) (fmul q (pt q i 1) (pt q j 1))) (fmul q (pt q i 2) (pt q j 2))))) ⟨hx, hb, hml, hown, hts⟩ (c_X7_add l D cI cZ md q w su po xs ys zs hM (fadd q (fmul q (pt q i 0) (pt q j 0)) (fmul q (pt q i 1) (pt q j 1))) (fmul q (pt q i 2) (pt q j 2)) (by omega) (by omega)) (cwV 2 hts gX7_isOn_X7_add rfl rfl rfl hdV_X7_add ⟨Nat.le_of_ble_eq_true rfl, Nat.le_of_ble_eq_true rfl⟩) hK hN hP [0, 1, 2, 3, 4, 5] rfl 0 7 rfl rfl rfl hl.1 rfl (Nat.le_of_ble_eq_true rfl) ⟨Nat.zero_le _, Nat.zero_le _⟩ dX7_isOn_53 ?_
  have hh_5 : fadd q (fadd q (fmul q (pt q i 0) (pt q j 0)) (fmul q (pt q i 1) (pt q j 1))) (fmul q (pt q i 2) (pt q j 2)) < q := fadd_lt hM.1 (by omega) (by omega)
  refine nv_if_ne (tgt := 63) hx hb (by omega) dX7_isOn_56 (by decide) (fun c56 => ?_) (fun c56 => ?_)
  · refine lv_iconst (v := nI 0) hx hb dX7_isOn_63 (by decide) ?_
    exact ctR_ret (v := (nI 0)) hx hb hr (nar_bool false) dX7_isOn_64 hlocks (by rw [onq, vdot, beq_eq_false_iff_ne.mpr c56]; rfl)
  · refine lv_iconst (v := nI 1) hx hb dX7_isOn_59 (by decide) ?_
    refine lv_goto (tgt := 64) hx hb dX7_isOn_60 (by decide) ?_
    exact ctR_ret (v := (nI 1)) hx hb hr (nar_bool true) dX7_isOn_64 hlocks (by rw [onq, vdot, c56]; rfl)

set_option maxHeartbeats 4000000 in
set_option maxRecDepth 100000 in
theorem c_X7_joinOf (l : Launch) (D : va_G) (cI cZ : ClassId) (md : Nat → Nat) (q : Nat) (w : Nat) (su : Nat → Nat) (po : Nat → Nat) (xs : Nat → Nat) (ys : Nat → Nat) (zs : Nat → Nat) (hM : MOK q su po xs ys zs) (i : Nat) (j : Nat) (k_1 : i < nn q) (k_2 : j < nn q) (k_3 : ¬ i = j) : CtR l yX7_joinOf wsX7_joinOf { frames := 2, cells := 0, slots := 0, locals := 44 } D (tyG cI cZ) [.ref (md 0), .int (nI i), .int (nI j)] [(md 0, .inr (7, [.int (nI q), .int (nI (nn q)), .ref (md 1), .ref (md 2), .ref (md 3), .ref (md 4), .ref (md 5), .ref (md 6), .ref (md 7), .ref (md 8), .ref (md 9), .ref (md 10), .ref (md 11), .ref (md 12), .ref (md 13), .ref (md 14), .ref (md 15), .ref (md 16), .int (nI w), .ref (md 17)])), (md 1, .inl (cI, 81, .inl (nF su))), (md 2, .inl (cI, 81, .inl (nF po))), (md 3, .inl (cI, 91, .inl (nF xs))), (md 4, .inl (cI, 91, .inl (nF ys))), (md 5, .inl (cI, 91, .inl (nF zs)))] (.int (nI (joinq q i j))) := by
  refine Met.ofW (cc := cX7_joinOf) (maxL := 4) (ret := some .int) (by decide) rfl ?_
  intro p e s m args below meth c s₁ B hml hv
  obtain ⟨rfl, hP, hK, hN⟩ := hv
  have hx := B.exec
  have hb := B.bytes
  have hr := B.returns
  have hts := atoms_spec (ws := wsX7_joinOf) B.pre
  have hown : s.vm.findClass RX7 = some m.cls := findClass_of_methodNamed B.named
  have hlocks := B.notSynchronized
  have hl := lv_entry ([.ref (md 0), .int (nI i), .int (nI j)]) (n := 4) (Nat.le_of_ble_eq_true rfl)
  rw [lg_entry_eq]
  generalize (lg_sl ([.ref (md 0), .int (nI i), .int (nI j)]) ++ List.replicate (4 - (lg_sl ([.ref (md 0), .int (nI i), .int (nI j)])).length) Slot.unset).toArray = ls at hl ⊢
  have hl : lv_has ls 4 [(0, .ref (md 0)), (1, .int (nI i)), (2, .int (nI j))] := hl
  have hq2 := qs_le hM.1
  have hn2 := nn_le hM.1
  refine lv_iconst (v := nI 0) hx hb dX7_joinOf_0 (by decide) ?_
  refine lv_istore_n (lv' := [(3, .int (nI 0)), (0, .ref (md 0)), (1, .int (nI i)), (2, .int (nI j))]) hx hb dX7_joinOf_1 rfl hl (by decide) rfl (fun ls hl => ?_)
  have L2 : ∀ (N2 : Nat) (t : Nat) (ls : Array Slot), joinq q i j - t < N2 → (t ≤ joinq q i j) → lv_has ls 4 [(0, .ref (md 0)), (1, .int (nI i)), (2, .int (nI j)), (3, .int (nI t))] → WR p l e wsX7_joinOf { frames := 2, cells := 0, slots := 0, locals := 44 } s m [.ref (md 0), .int (nI i), .int (nI j)] below meth c (.int (nI (joinq q i j))) 2 ls [] := by
    intro N2
    induction N2 with
    | zero => intro t ls hN; exact absurd hN (Nat.not_lt_zero _)
    | succ N2 ih2 =>
      intro t ls hN2 k_i hl
      have hj := join_ok hM.1 k_1 k_2 k_3
      have hj1 := hj.1
      refine lv_aload_n hx hb dX7_joinOf_2 rfl (lv_at hl 0 rfl) ?_
      refine lv_iload_n hx hb dX7_joinOf_3 rfl (lv_at hl 1 rfl) ?_
      refine lv_iload_n hx hb dX7_joinOf_4 rfl (lv_at hl 3 rfl) ?_
      refine ctR_V (As := [.int (nI i), .int (nI t)]) (rest := []) (r := .int (nI (onq q i t).toNat)) ⟨hx, hb, hml, hown, hts⟩ (c_X7_isOn l D cI cZ md q w su po xs ys zs hM i t (by omega) (by omega)) (cwV 2 hts gX7_joinOf_X7_isOn rfl rfl rfl hdV_X7_isOn ⟨Nat.le_of_ble_eq_true rfl, Nat.le_of_ble_eq_true rfl⟩) hK hN hP [0, 1, 2, 3, 4, 5] rfl 0 7 rfl rfl rfl hl.1 rfl (Nat.le_of_ble_eq_true rfl) ⟨Nat.zero_le _, Nat.zero_le _⟩ dX7_joinOf_5 ?_
      refine nv_ifb_eq (tgt := 20) hx hb dX7_joinOf_8 (by decide) (fun c8 => ?_) (fun c8 => ?_)
      · have h9 : ¬ t = joinq q i j := fun z => by rw [z, hj.2.1] at c8; cases c8
        have hi : t + 1 ≤ joinq q i j := by omega
        refine lv_iinc (v := nI (t + 1)) (lv' := [(3, .int (nI (t + 1))), (0, .ref (md 0)), (1, .int (nI i)), (2, .int (nI j))]) hx hb dX7_joinOf_20 hl (k := 3) rfl (nI_inc t) (by decide) rfl (fun ls hl => ?_)
        refine lv_goto (tgt := 2) hx hb dX7_joinOf_23 (by decide) ?_
        exact ih2 (t + 1) ls (by omega) hi (lv_sub hl [1, 2, 3, 0] rfl)
      · refine lv_aload_n hx hb dX7_joinOf_11 rfl (lv_at hl 0 rfl) ?_
        refine lv_iload_n hx hb dX7_joinOf_12 rfl (lv_at hl 2 rfl) ?_
        refine lv_iload_n hx hb dX7_joinOf_13 rfl (lv_at hl 3 rfl) ?_
        refine ctR_V (As := [.int (nI j), .int (nI t)]) (rest := []) (r := .int (nI (onq q j t).toNat)) ⟨hx, hb, hml, hown, hts⟩ (c_X7_isOn l D cI cZ md q w su po xs ys zs hM j t (by omega) (by omega)) (cwV 2 hts gX7_joinOf_X7_isOn rfl rfl rfl hdV_X7_isOn ⟨Nat.le_of_ble_eq_true rfl, Nat.le_of_ble_eq_true rfl⟩) hK hN hP [0, 1, 2, 3, 4, 5] rfl 0 7 rfl rfl rfl hl.1 rfl (Nat.le_of_ble_eq_true rfl) ⟨Nat.zero_le _, Nat.zero_le _⟩ dX7_joinOf_14 ?_
        refine nv_ifb_ne (tgt := 26) hx hb dX7_joinOf_17 (by decide) (fun c17 => ?_) (fun c17 => ?_)
        · refine lv_iload_n hx hb dX7_joinOf_26 rfl (lv_at hl 3 rfl) ?_
          exact ctR_ret (v := (nI t)) hx hb hr rfl dX7_joinOf_27 hlocks (by rw [hj.2.2.2 t (by omega) c8 c17])
        · have h9 : ¬ t = joinq q i j := fun z => by rw [z, hj.2.2.1] at c17; cases c17
          have hi : t + 1 ≤ joinq q i j := by omega
          refine lv_iinc (v := nI (t + 1)) (lv' := [(3, .int (nI (t + 1))), (0, .ref (md 0)), (1, .int (nI i)), (2, .int (nI j))]) hx hb dX7_joinOf_20 hl (k := 3) rfl (nI_inc t) (by decide) rfl (fun ls hl => ?_)
          refine lv_goto (tgt := 2) hx hb dX7_joinOf_23 (by decide) ?_
          exact ih2 (t + 1) ls (by omega) hi (lv_sub hl [1, 2, 3, 0] rfl)
  exact L2 (joinq q i j - 0 + 1) 0 ls (by omega) (Nat.zero_le _) (lv_sub hl [1, 2, 3, 0] rfl)

set_option maxHeartbeats 4000000 in
set_option maxRecDepth 100000 in
theorem c_X7_sizeOf (l : Launch) (D : va_G) (cI cZ : ClassId) (md : Nat → Nat) (q : Nat) (w : Nat) (su : Nat → Nat) (po : Nat → Nat) (xs : Nat → Nat) (ys : Nat → Nat) (zs : Nat → Nat) (hM : MOK q su po xs ys zs) (aS : Nat) (S : Nat → Bool) : CtR l yX7_sizeOf wsX7_sizeOf { frames := 0, cells := 0, slots := 0, locals := 0 } D (tyG cI cZ) [.ref (md 0), .ref aS] [(md 0, .inr (7, [.int (nI q), .int (nI (nn q)), .ref (md 1), .ref (md 2), .ref (md 3), .ref (md 4), .ref (md 5), .ref (md 6), .ref (md 7), .ref (md 8), .ref (md 9), .ref (md 10), .ref (md 11), .ref (md 12), .ref (md 13), .ref (md 14), .ref (md 15), .ref (md 16), .int (nI w), .ref (md 17)])), (md 1, .inl (cI, 81, .inl (nF su))), (md 2, .inl (cI, 81, .inl (nF po))), (md 3, .inl (cI, 91, .inl (nF xs))), (md 4, .inl (cI, 91, .inl (nF ys))), (md 5, .inl (cI, 91, .inl (nF zs))), (aS, .inl (cZ, 91, .inl (bF S)))] (.int (nI (cnt S (nn q)))) := by
  refine Met.ofW (cc := cX7_sizeOf) (maxL := 4) (ret := some .int) (by decide) rfl ?_
  intro p e s m args below meth c s₁ B hml hv
  obtain ⟨rfl, hP, hK, hN⟩ := hv
  have hx := B.exec
  have hb := B.bytes
  have hr := B.returns
  have hts := atoms_spec (ws := wsX7_sizeOf) B.pre
  have hown : s.vm.findClass RX7 = some m.cls := findClass_of_methodNamed B.named
  have hlocks := B.notSynchronized
  have hf83 := hts (.fieldLink RX7 83 "FinitePlanesModel" "n" "I") (by decide +kernel)
  have hiX7 : ∀ w ∈ u_ws RX7 TX7 20, w ∈ wsX7_sizeOf := by decide +kernel
  have hl := lv_entry ([.ref (md 0), .ref aS]) (n := 4) (Nat.le_of_ble_eq_true rfl)
  rw [lg_entry_eq]
  generalize (lg_sl ([.ref (md 0), .ref aS]) ++ List.replicate (4 - (lg_sl ([.ref (md 0), .ref aS])).length) Slot.unset).toArray = ls at hl ⊢
  have hl : lv_has ls 4 [(0, .ref (md 0)), (1, .ref aS)] := hl
  have hq2 := qs_le hM.1
  have hn2 := nn_le hM.1
  refine lv_iconst (v := nI 0) hx hb dX7_sizeOf_0 (by decide) ?_
  refine lv_istore_n (lv' := [(2, .int (nI 0)), (0, .ref (md 0)), (1, .ref aS)]) hx hb dX7_sizeOf_1 rfl hl (by decide) rfl (fun ls hl => ?_)
  refine lv_iconst (v := nI 0) hx hb dX7_sizeOf_2 (by decide) ?_
  refine lv_istore_n (lv' := [(3, .int (nI 0)), (2, .int (nI 0)), (0, .ref (md 0)), (1, .ref aS)]) hx hb dX7_sizeOf_3 rfl hl (by decide) rfl (fun ls hl => ?_)
  have L4 : ∀ (N4 : Nat) (i : Nat) (x : Nat) (ls : Array Slot), nn q - i < N4 → (i ≤ nn q) → (x = cnt S i) → lv_has ls 4 [(0, .ref (md 0)), (1, .ref aS), (2, .int (nI x)), (3, .int (nI i))] → WR p l e wsX7_sizeOf { frames := 0, cells := 0, slots := 0, locals := 0 } s m [.ref (md 0), .ref aS] below meth c (.int (nI (cnt S (nn q)))) 4 ls [] := by
    intro N4
    induction N4 with
    | zero => intro i x ls hN; exact absurd hN (Nat.not_lt_zero _)
    | succ N4 ih4 =>
      intro i x ls hN4 k_i k_x hl
      have hc := cnt_le S i
      refine lv_iload_n hx hb dX7_sizeOf_4 rfl (lv_at hl 3 rfl) ?_
      refine lv_aload_n hx hb dX7_sizeOf_5 rfl (lv_at hl 0 rfl) ?_
      refine va_get (D := D) (ci := 7) (v := .int (nI (nn q))) (C := RX7) (T := TX7) (N := 20) hx hb hts hiX7 hown hK hP 0 rfl rfl 1 (by decide) hf83 (fun _ h9 => h9) rfl dX7_sizeOf_6 ?_
      refine nv_icmp_ge (tgt := 32) hx hb (by omega) (by omega) dX7_sizeOf_9 (by decide) (fun c9 => ?_) (fun c9 => ?_)
      · refine lv_iload_n hx hb dX7_sizeOf_32 rfl (lv_at hl 2 rfl) ?_
        exact ctR_ret (v := (nI x)) hx hb hr rfl dX7_sizeOf_33 hlocks (by rw [k_x, show i = nn q by omega])
      · refine lv_aload_n hx hb dX7_sizeOf_12 rfl (lv_at hl 1 rfl) ?_
        refine lv_iload_n hx hb dX7_sizeOf_13 rfl (lv_at hl 3 rfl) ?_
        refine nv_zald hx hb hK hP 6 1 rfl rfl (by omega) (by decide) dX7_sizeOf_14 ?_
        refine nv_ifb_eq (tgt := 24) hx hb dX7_sizeOf_15 (by decide) (fun c15 => ?_) (fun c15 => ?_)
        · refine lv_iload_n hx hb dX7_sizeOf_24 rfl (lv_at hl 2 rfl) ?_
          refine lv_istore_n (lv' := [(2, .int (nI x)), (0, .ref (md 0)), (1, .ref aS), (3, .int (nI i))]) hx hb dX7_sizeOf_25 rfl hl (by decide) rfl (fun ls hl => ?_)
          refine lv_iinc (v := nI (i + 1)) (lv' := [(3, .int (nI (i + 1))), (2, .int (nI x)), (0, .ref (md 0)), (1, .ref aS)]) hx hb dX7_sizeOf_26 hl (k := 3) rfl (nI_inc i) (by decide) rfl (fun ls hl => ?_)
          refine lv_goto (tgt := 4) hx hb dX7_sizeOf_29 (by decide) ?_
          exact ih4 (i + 1) x ls (by omega) (by omega) (by rw [cnt, c15, k_x]; rfl) (lv_sub hl [2, 3, 1, 0] rfl)
        · refine lv_iload_n hx hb dX7_sizeOf_18 rfl (lv_at hl 2 rfl) ?_
          refine lv_iconst (v := nI 1) hx hb dX7_sizeOf_19 (by decide) ?_
          refine nv_addE (r := x + 1) hx hb rfl dX7_sizeOf_20 ?_
          refine lv_goto (tgt := 25) hx hb dX7_sizeOf_21 (by decide) ?_
          refine lv_istore_n (lv' := [(2, .int (nI (x + 1))), (0, .ref (md 0)), (1, .ref aS), (3, .int (nI i))]) hx hb dX7_sizeOf_25 rfl hl (by decide) rfl (fun ls hl => ?_)
          refine lv_iinc (v := nI (i + 1)) (lv' := [(3, .int (nI (i + 1))), (2, .int (nI (x + 1))), (0, .ref (md 0)), (1, .ref aS)]) hx hb dX7_sizeOf_26 hl (k := 3) rfl (nI_inc i) (by decide) rfl (fun ls hl => ?_)
          refine lv_goto (tgt := 4) hx hb dX7_sizeOf_29 (by decide) ?_
          exact ih4 (i + 1) (x + 1) ls (by omega) (by omega) (by rw [cnt, c15, k_x]; rfl) (lv_sub hl [2, 3, 1, 0] rfl)
  exact L4 (nn q - 0 + 1) 0 0 ls (by omega) (by omega) rfl (lv_sub hl [2, 3, 1, 0] rfl)

set_option maxHeartbeats 4000000 in
set_option maxRecDepth 100000 in
theorem c_X7_memberOf (l : Launch) (D : va_G) (cI cZ : ClassId) (md : Nat → Nat) (q : Nat) (w : Nat) (su : Nat → Nat) (po : Nat → Nat) (xs : Nat → Nat) (ys : Nat → Nat) (zs : Nat → Nat) (hM : MOK q su po xs ys zs) (aS : Nat) (S : Nat → Bool) (k : Int32) : CtR l yX7_memberOf wsX7_memberOf { frames := 0, cells := 0, slots := 0, locals := 0 } D (tyG cI cZ) [.ref (md 0), .ref aS, .int k] [(md 0, .inr (7, [.int (nI q), .int (nI (nn q)), .ref (md 1), .ref (md 2), .ref (md 3), .ref (md 4), .ref (md 5), .ref (md 6), .ref (md 7), .ref (md 8), .ref (md 9), .ref (md 10), .ref (md 11), .ref (md 12), .ref (md 13), .ref (md 14), .ref (md 15), .ref (md 16), .int (nI w), .ref (md 17)])), (md 1, .inl (cI, 81, .inl (nF su))), (md 2, .inl (cI, 81, .inl (nF po))), (md 3, .inl (cI, 91, .inl (nF xs))), (md 4, .inl (cI, 91, .inl (nF ys))), (md 5, .inl (cI, 91, .inl (nF zs))), (aS, .inl (cZ, 91, .inl (bF S)))] (.int (pickZ S (nn q) k)) := by
  refine Met.ofW (cc := cX7_memberOf) (maxL := 6) (ret := some .int) (by decide) rfl ?_
  intro p e s m args below meth c s₁ B hml hv
  obtain ⟨rfl, hP, hK, hN⟩ := hv
  have hx := B.exec
  have hb := B.bytes
  have hr := B.returns
  have hts := atoms_spec (ws := wsX7_memberOf) B.pre
  have hown : s.vm.findClass RX7 = some m.cls := findClass_of_methodNamed B.named
  have hlocks := B.notSynchronized
  have hf83 := hts (.fieldLink RX7 83 "FinitePlanesModel" "n" "I") (by decide +kernel)
  have hiX7 : ∀ w ∈ u_ws RX7 TX7 20, w ∈ wsX7_memberOf := by decide +kernel
  have hl := lv_entry ([.ref (md 0), .ref aS, .int k]) (n := 6) (Nat.le_of_ble_eq_true rfl)
  rw [lg_entry_eq]
  generalize (lg_sl ([.ref (md 0), .ref aS, .int k]) ++ List.replicate (6 - (lg_sl ([.ref (md 0), .ref aS, .int k])).length) Slot.unset).toArray = ls at hl ⊢
  have hl : lv_has ls 6 [(0, .ref (md 0)), (1, .ref aS), (2, .int k)] := hl
  have hq2 := qs_le hM.1
  have hn2 := nn_le hM.1
  refine lv_iconst (v := nI 0) hx hb dX7_memberOf_0 (by decide) ?_
  refine lv_istore_n (lv' := [(3, .int (nI 0)), (0, .ref (md 0)), (1, .ref aS), (2, .int k)]) hx hb dX7_memberOf_1 rfl hl (by decide) rfl (fun ls hl => ?_)
  refine lv_iconst (v := (-1)) hx hb dX7_memberOf_2 (by decide) ?_
  refine lv_istore (lv' := [(4, .int (-1)), (3, .int (nI 0)), (0, .ref (md 0)), (1, .ref aS), (2, .int k)]) hx hb dX7_memberOf_3 hl (by decide) rfl (fun ls hl => ?_)
  refine lv_iconst (v := nI 0) hx hb dX7_memberOf_5 (by decide) ?_
  refine lv_istore (lv' := [(5, .int (nI 0)), (4, .int (-1)), (3, .int (nI 0)), (0, .ref (md 0)), (1, .ref aS), (2, .int k)]) hx hb dX7_memberOf_6 hl (by decide) rfl (fun ls hl => ?_)
  have L8 : ∀ (N8 : Nat) (i : Nat) (x : Nat) (y : Int32) (ls : Array Slot), nn q - i < N8 → (i ≤ nn q) → (x = cnt S i) → (y = pickZ S i k) → lv_has ls 6 [(0, .ref (md 0)), (1, .ref aS), (2, .int k), (3, .int (nI x)), (4, .int y), (5, .int (nI i))] → WR p l e wsX7_memberOf { frames := 0, cells := 0, slots := 0, locals := 0 } s m [.ref (md 0), .ref aS, .int k] below meth c (.int (pickZ S (nn q) k)) 8 ls [] := by
    intro N8
    induction N8 with
    | zero => intro i x y ls hN; exact absurd hN (Nat.not_lt_zero _)
    | succ N8 ih8 =>
      intro i x y ls hN8 k_i k_x k_y hl
      have hc := cnt_le S i
      refine lv_iload hx hb dX7_memberOf_8 (lv_at hl 5 rfl) ?_
      refine lv_aload_n hx hb dX7_memberOf_10 rfl (lv_at hl 0 rfl) ?_
      refine va_get (D := D) (ci := 7) (v := .int (nI (nn q))) (C := RX7) (T := TX7) (N := 20) hx hb hts hiX7 hown hK hP 0 rfl rfl 1 (by decide) hf83 (fun _ h9 => h9) rfl dX7_memberOf_11 ?_
      refine nv_icmp_ge (tgt := 47) hx hb (by omega) (by omega) dX7_memberOf_14 (by decide) (fun c14 => ?_) (fun c14 => ?_)
      · refine lv_iload hx hb dX7_memberOf_47 (lv_at hl 4 rfl) ?_
        exact ctR_ret (v := y) hx hb hr rfl dX7_memberOf_49 hlocks (by rw [k_y, show i = nn q by omega])
      · refine lv_aload_n hx hb dX7_memberOf_17 rfl (lv_at hl 1 rfl) ?_
        refine lv_iload hx hb dX7_memberOf_18 (lv_at hl 5 rfl) ?_
        refine nv_zald hx hb hK hP 6 1 rfl rfl (by omega) (by decide) dX7_memberOf_20 ?_
        refine nv_ifb_eq (tgt := 41) hx hb dX7_memberOf_21 (by decide) (fun c21 => ?_) (fun c21 => ?_)
        · refine lv_iinc (v := nI (i + 1)) (lv' := [(5, .int (nI (i + 1))), (0, .ref (md 0)), (1, .ref aS), (2, .int k), (3, .int (nI x)), (4, .int y)]) hx hb dX7_memberOf_41 hl (k := 5) rfl (nI_inc i) (by decide) rfl (fun ls hl => ?_)
          refine lv_goto (tgt := 8) hx hb dX7_memberOf_44 (by decide) ?_
          exact ih8 (i + 1) x y ls (by omega) (by omega) (by rw [cnt, c21, k_x]; rfl) (by rw [pickZ, if_neg (fun z => by rw [c21] at z; cases z.1), k_y]) (lv_sub hl [1, 2, 3, 4, 5, 0] rfl)
        · refine lv_iload_n hx hb dX7_memberOf_24 rfl (lv_at hl 3 rfl) ?_
          refine lv_iload_n hx hb dX7_memberOf_25 rfl (lv_at hl 2 rfl) ?_
          refine lv_icmp_ne (tgt := 34) hx hb dX7_memberOf_26 (by decide) (fun c26 => ?_) (fun c26 => ?_)
          · refine lv_iload hx hb dX7_memberOf_34 (lv_at hl 4 rfl) ?_
            refine lv_istore (lv' := [(4, .int y), (0, .ref (md 0)), (1, .ref aS), (2, .int k), (3, .int (nI x)), (5, .int (nI i))]) hx hb dX7_memberOf_36 hl (by decide) rfl (fun ls hl => ?_)
            refine lv_iinc (v := nI (x + 1)) (lv' := [(3, .int (nI (x + 1))), (4, .int y), (0, .ref (md 0)), (1, .ref aS), (2, .int k), (5, .int (nI i))]) hx hb dX7_memberOf_38 hl (k := 4) rfl (nI_inc x) (by decide) rfl (fun ls hl => ?_)
            refine lv_iinc (v := nI (i + 1)) (lv' := [(5, .int (nI (i + 1))), (3, .int (nI (x + 1))), (4, .int y), (0, .ref (md 0)), (1, .ref aS), (2, .int k)]) hx hb dX7_memberOf_41 hl (k := 5) rfl (nI_inc i) (by decide) rfl (fun ls hl => ?_)
            refine lv_goto (tgt := 8) hx hb dX7_memberOf_44 (by decide) ?_
            exact ih8 (i + 1) (x + 1) y ls (by omega) (by omega) (by rw [cnt, c21, k_x]; rfl) (by rw [pickZ, if_neg (fun z => c26 (by rw [k_x]; exact z.2)), k_y]) (lv_sub hl [3, 4, 5, 1, 2, 0] rfl)
          · refine lv_iload hx hb dX7_memberOf_29 (lv_at hl 5 rfl) ?_
            refine lv_goto (tgt := 36) hx hb dX7_memberOf_31 (by decide) ?_
            refine lv_istore (lv' := [(4, .int (nI i)), (0, .ref (md 0)), (1, .ref aS), (2, .int k), (3, .int (nI x)), (5, .int (nI i))]) hx hb dX7_memberOf_36 hl (by decide) rfl (fun ls hl => ?_)
            refine lv_iinc (v := nI (x + 1)) (lv' := [(3, .int (nI (x + 1))), (4, .int (nI i)), (0, .ref (md 0)), (1, .ref aS), (2, .int k), (5, .int (nI i))]) hx hb dX7_memberOf_38 hl (k := 4) rfl (nI_inc x) (by decide) rfl (fun ls hl => ?_)
            refine lv_iinc (v := nI (i + 1)) (lv' := [(5, .int (nI (i + 1))), (3, .int (nI (x + 1))), (4, .int (nI i)), (0, .ref (md 0)), (1, .ref aS), (2, .int k)]) hx hb dX7_memberOf_41 hl (k := 5) rfl (nI_inc i) (by decide) rfl (fun ls hl => ?_)
            refine lv_goto (tgt := 8) hx hb dX7_memberOf_44 (by decide) ?_
            exact ih8 (i + 1) (x + 1) (nI i) ls (by omega) (by omega) (by rw [cnt, c21, k_x]; rfl) (by rw [pickZ, if_pos ⟨c21, by rw [← k_x]; exact c26⟩]) (lv_sub hl [3, 4, 5, 1, 2, 0] rfl)
  exact L8 (nn q - 0 + 1) 0 0 (-1) ls (by omega) (by omega) rfl rfl (lv_sub hl [3, 4, 5, 2, 1, 0] rfl)

set_option maxHeartbeats 4000000 in
set_option maxRecDepth 100000 in
theorem c_X7_met (l : Launch) (D : va_G) (cI cZ : ClassId) (md : Nat → Nat) (q : Nat) (w : Nat) (su : Nat → Nat) (po : Nat → Nat) (xs : Nat → Nat) (ys : Nat → Nat) (zs : Nat → Nat) (hM : MOK q su po xs ys zs) (aS : Nat) (S : Nat → Bool) (j : Nat) (k_1 : j < nn q) : CtR l yX7_met wsX7_met { frames := 2, cells := 0, slots := 0, locals := 44 } D (tyG cI cZ) [.ref (md 0), .ref aS, .int (nI j)] [(md 0, .inr (7, [.int (nI q), .int (nI (nn q)), .ref (md 1), .ref (md 2), .ref (md 3), .ref (md 4), .ref (md 5), .ref (md 6), .ref (md 7), .ref (md 8), .ref (md 9), .ref (md 10), .ref (md 11), .ref (md 12), .ref (md 13), .ref (md 14), .ref (md 15), .ref (md 16), .int (nI w), .ref (md 17)])), (md 1, .inl (cI, 81, .inl (nF su))), (md 2, .inl (cI, 81, .inl (nF po))), (md 3, .inl (cI, 91, .inl (nF xs))), (md 4, .inl (cI, 91, .inl (nF ys))), (md 5, .inl (cI, 91, .inl (nF zs))), (aS, .inl (cZ, 91, .inl (bF S)))] (.int (nI (metq q S j))) := by
  refine Met.ofW (cc := cX7_met) (maxL := 5) (ret := some .int) (by decide) rfl ?_
  intro p e s m args below meth c s₁ B hml hv
  obtain ⟨rfl, hP, hK, hN⟩ := hv
  have hx := B.exec
  have hb := B.bytes
  have hr := B.returns
  have hts := atoms_spec (ws := wsX7_met) B.pre
  have hown : s.vm.findClass RX7 = some m.cls := findClass_of_methodNamed B.named
  have hlocks := B.notSynchronized
  have hf83 := hts (.fieldLink RX7 83 "FinitePlanesModel" "n" "I") (by decide +kernel)
  have hiX7 : ∀ w ∈ u_ws RX7 TX7 20, w ∈ wsX7_met := by decide +kernel
  have hl := lv_entry ([.ref (md 0), .ref aS, .int (nI j)]) (n := 5) (Nat.le_of_ble_eq_true rfl)
  rw [lg_entry_eq]
  generalize (lg_sl ([.ref (md 0), .ref aS, .int (nI j)]) ++ List.replicate (5 - (lg_sl ([.ref (md 0), .ref aS, .int (nI j)])).length) Slot.unset).toArray = ls at hl ⊢
  have hl : lv_has ls 5 [(0, .ref (md 0)), (1, .ref aS), (2, .int (nI j))] := hl
  have hq2 := qs_le hM.1
  have hn2 := nn_le hM.1
  refine lv_iconst (v := nI 0) hx hb dX7_met_0 (by decide) ?_
  refine lv_istore_n (lv' := [(3, .int (nI 0)), (0, .ref (md 0)), (1, .ref aS), (2, .int (nI j))]) hx hb dX7_met_1 rfl hl (by decide) rfl (fun ls hl => ?_)
  refine lv_iconst (v := nI 0) hx hb dX7_met_2 (by decide) ?_
  refine lv_istore (lv' := [(4, .int (nI 0)), (3, .int (nI 0)), (0, .ref (md 0)), (1, .ref aS), (2, .int (nI j))]) hx hb dX7_met_3 hl (by decide) rfl (fun ls hl => ?_)
  have L5 : ∀ (N5 : Nat) (i : Nat) (x : Nat) (ls : Array Slot), nn q - i < N5 → (i ≤ nn q) → (x = cnt (fun t => S t && onq q t j) i) → lv_has ls 5 [(0, .ref (md 0)), (1, .ref aS), (2, .int (nI j)), (3, .int (nI x)), (4, .int (nI i))] → WR p l e wsX7_met { frames := 2, cells := 0, slots := 0, locals := 44 } s m [.ref (md 0), .ref aS, .int (nI j)] below meth c (.int (nI (metq q S j))) 5 ls [] := by
    intro N5
    induction N5 with
    | zero => intro i x ls hN; exact absurd hN (Nat.not_lt_zero _)
    | succ N5 ih5 =>
      intro i x ls hN5 k_i k_x hl
      have hc := cnt_le (fun t => S t && onq q t j) i
      refine lv_iload hx hb dX7_met_5 (lv_at hl 4 rfl) ?_
      refine lv_aload_n hx hb dX7_met_7 rfl (lv_at hl 0 rfl) ?_
      refine va_get (D := D) (ci := 7) (v := .int (nI (nn q))) (C := RX7) (T := TX7) (N := 20) hx hb hts hiX7 hown hK hP 0 rfl rfl 1 (by decide) hf83 (fun _ h9 => h9) rfl dX7_met_8 ?_
      refine nv_icmp_ge (tgt := 45) hx hb (by omega) (by omega) dX7_met_11 (by decide) (fun c11 => ?_) (fun c11 => ?_)
      · refine lv_iload_n hx hb dX7_met_45 rfl (lv_at hl 3 rfl) ?_
        exact ctR_ret (v := (nI x)) hx hb hr rfl dX7_met_46 hlocks (by rw [k_x, show i = nn q by omega]; rfl)
      · refine lv_aload_n hx hb dX7_met_14 rfl (lv_at hl 1 rfl) ?_
        refine lv_iload hx hb dX7_met_15 (lv_at hl 4 rfl) ?_
        refine nv_zald hx hb hK hP 6 1 rfl rfl (by omega) (by decide) dX7_met_17 ?_
        refine nv_ifb_eq (tgt := 37) hx hb dX7_met_18 (by decide) (fun c18 => ?_) (fun c18 => ?_)
        · refine lv_iload_n hx hb dX7_met_37 rfl (lv_at hl 3 rfl) ?_
          refine lv_istore_n (lv' := [(3, .int (nI x)), (0, .ref (md 0)), (1, .ref aS), (2, .int (nI j)), (4, .int (nI i))]) hx hb dX7_met_38 rfl hl (by decide) rfl (fun ls hl => ?_)
          refine lv_iinc (v := nI (i + 1)) (lv' := [(4, .int (nI (i + 1))), (3, .int (nI x)), (0, .ref (md 0)), (1, .ref aS), (2, .int (nI j))]) hx hb dX7_met_39 hl (k := 4) rfl (nI_inc i) (by decide) rfl (fun ls hl => ?_)
          refine lv_goto (tgt := 5) hx hb dX7_met_42 (by decide) ?_
          exact ih5 (i + 1) x ls (by omega) (by omega) (by rw [cnt, c18, k_x]; rfl) (lv_sub hl [2, 3, 4, 1, 0] rfl)
        · refine lv_aload_n hx hb dX7_met_21 rfl (lv_at hl 0 rfl) ?_
          refine lv_iload hx hb dX7_met_22 (lv_at hl 4 rfl) ?_
          refine lv_iload_n hx hb dX7_met_24 rfl (lv_at hl 2 rfl) ?_
          refine ctR_V (As := [.int (nI i), .int (nI j)]) (rest := []) (r := .int (nI (onq q i j).toNat)) ⟨hx, hb, hml, hown, hts⟩ (c_X7_isOn l D cI cZ md q w su po xs ys zs hM i j (by omega) (by omega)) (cwV 2 hts gX7_met_X7_isOn rfl rfl rfl hdV_X7_isOn ⟨Nat.le_of_ble_eq_true rfl, Nat.le_of_ble_eq_true rfl⟩) hK hN hP [0, 1, 2, 3, 4, 5] rfl 0 7 rfl rfl rfl hl.1 rfl (Nat.le_of_ble_eq_true rfl) ⟨Nat.zero_le _, Nat.zero_le _⟩ dX7_met_25 ?_
          refine nv_ifb_eq (tgt := 37) hx hb dX7_met_28 (by decide) (fun c28 => ?_) (fun c28 => ?_)
          · refine lv_iload_n hx hb dX7_met_37 rfl (lv_at hl 3 rfl) ?_
            refine lv_istore_n (lv' := [(3, .int (nI x)), (0, .ref (md 0)), (1, .ref aS), (2, .int (nI j)), (4, .int (nI i))]) hx hb dX7_met_38 rfl hl (by decide) rfl (fun ls hl => ?_)
            refine lv_iinc (v := nI (i + 1)) (lv' := [(4, .int (nI (i + 1))), (3, .int (nI x)), (0, .ref (md 0)), (1, .ref aS), (2, .int (nI j))]) hx hb dX7_met_39 hl (k := 4) rfl (nI_inc i) (by decide) rfl (fun ls hl => ?_)
            refine lv_goto (tgt := 5) hx hb dX7_met_42 (by decide) ?_
            exact ih5 (i + 1) x ls (by omega) (by omega) (by rw [cnt, c18, c28, k_x]; rfl) (lv_sub hl [2, 3, 4, 1, 0] rfl)
          · refine lv_iload_n hx hb dX7_met_31 rfl (lv_at hl 3 rfl) ?_
            refine lv_iconst (v := nI 1) hx hb dX7_met_32 (by decide) ?_
            refine nv_addE (r := x + 1) hx hb rfl dX7_met_33 ?_
            refine lv_goto (tgt := 38) hx hb dX7_met_34 (by decide) ?_
            refine lv_istore_n (lv' := [(3, .int (nI (x + 1))), (0, .ref (md 0)), (1, .ref aS), (2, .int (nI j)), (4, .int (nI i))]) hx hb dX7_met_38 rfl hl (by decide) rfl (fun ls hl => ?_)
            refine lv_iinc (v := nI (i + 1)) (lv' := [(4, .int (nI (i + 1))), (3, .int (nI (x + 1))), (0, .ref (md 0)), (1, .ref aS), (2, .int (nI j))]) hx hb dX7_met_39 hl (k := 4) rfl (nI_inc i) (by decide) rfl (fun ls hl => ?_)
            refine lv_goto (tgt := 5) hx hb dX7_met_42 (by decide) ?_
            exact ih5 (i + 1) (x + 1) ls (by omega) (by omega) (by rw [cnt, c18, c28, k_x]; rfl) (lv_sub hl [2, 3, 4, 1, 0] rfl)
  exact L5 (nn q - 0 + 1) 0 0 ls (by omega) (by omega) rfl (lv_sub hl [2, 3, 4, 1, 0] rfl)

set_option maxHeartbeats 4000000 in
set_option maxRecDepth 100000 in
theorem c_X7_isArc (l : Launch) (D : va_G) (cI cZ : ClassId) (md : Nat → Nat) (q : Nat) (w : Nat) (su : Nat → Nat) (po : Nat → Nat) (xs : Nat → Nat) (ys : Nat → Nat) (zs : Nat → Nat) (hM : MOK q su po xs ys zs) (aS : Nat) (S : Nat → Bool) : CtR l yX7_isArc wsX7_isArc { frames := 3, cells := 0, slots := 0, locals := 68 } D (tyG cI cZ) [.ref (md 0), .ref aS] [(md 0, .inr (7, [.int (nI q), .int (nI (nn q)), .ref (md 1), .ref (md 2), .ref (md 3), .ref (md 4), .ref (md 5), .ref (md 6), .ref (md 7), .ref (md 8), .ref (md 9), .ref (md 10), .ref (md 11), .ref (md 12), .ref (md 13), .ref (md 14), .ref (md 15), .ref (md 16), .int (nI w), .ref (md 17)])), (md 1, .inl (cI, 81, .inl (nF su))), (md 2, .inl (cI, 81, .inl (nF po))), (md 3, .inl (cI, 91, .inl (nF xs))), (md 4, .inl (cI, 91, .inl (nF ys))), (md 5, .inl (cI, 91, .inl (nF zs))), (aS, .inl (cZ, 91, .inl (bF S)))] (.int (nI (arcq q S).toNat)) := by
  refine Met.ofW (cc := cX7_isArc) (maxL := 4) (ret := some .boolean) (by decide) rfl ?_
  intro p e s m args below meth c s₁ B hml hv
  obtain ⟨rfl, hP, hK, hN⟩ := hv
  have hx := B.exec
  have hb := B.bytes
  have hr := B.returns
  have hts := atoms_spec (ws := wsX7_isArc) B.pre
  have hown : s.vm.findClass RX7 = some m.cls := findClass_of_methodNamed B.named
  have hlocks := B.notSynchronized
  have hf83 := hts (.fieldLink RX7 83 "FinitePlanesModel" "n" "I") (by decide +kernel)
  have hiX7 : ∀ w ∈ u_ws RX7 TX7 20, w ∈ wsX7_isArc := by decide +kernel
  have hl := lv_entry ([.ref (md 0), .ref aS]) (n := 4) (Nat.le_of_ble_eq_true rfl)
  rw [lg_entry_eq]
  generalize (lg_sl ([.ref (md 0), .ref aS]) ++ List.replicate (4 - (lg_sl ([.ref (md 0), .ref aS])).length) Slot.unset).toArray = ls at hl ⊢
  have hl : lv_has ls 4 [(0, .ref (md 0)), (1, .ref aS)] := hl
  have hq2 := qs_le hM.1
  have hn2 := nn_le hM.1
  refine lv_iconst (v := nI 1) hx hb dX7_isArc_0 (by decide) ?_
  refine lv_istore_n (lv' := [(2, .int (nI 1)), (0, .ref (md 0)), (1, .ref aS)]) hx hb dX7_isArc_1 rfl hl (by decide) rfl (fun ls hl => ?_)
  refine lv_iconst (v := nI 0) hx hb dX7_isArc_2 (by decide) ?_
  refine lv_istore_n (lv' := [(3, .int (nI 0)), (2, .int (nI 1)), (0, .ref (md 0)), (1, .ref aS)]) hx hb dX7_isArc_3 rfl hl (by decide) rfl (fun ls hl => ?_)
  have L4 : ∀ (N4 : Nat) (i : Nat) (y : Bool) (ls : Array Slot), nn q - i < N4 → (i ≤ nn q) → (y = allB (fun t => decide (metq q S t < 3)) i) → lv_has ls 4 [(0, .ref (md 0)), (1, .ref aS), (2, .int (nI (y).toNat)), (3, .int (nI i))] → WR p l e wsX7_isArc { frames := 3, cells := 0, slots := 0, locals := 68 } s m [.ref (md 0), .ref aS] below meth c (.int (nI (arcq q S).toNat)) 4 ls [] := by
    intro N4
    induction N4 with
    | zero => intro i y ls hN; exact absurd hN (Nat.not_lt_zero _)
    | succ N4 ih4 =>
      intro i y ls hN4 k_i k_y hl
      refine lv_iload_n hx hb dX7_isArc_4 rfl (lv_at hl 3 rfl) ?_
      refine lv_aload_n hx hb dX7_isArc_5 rfl (lv_at hl 0 rfl) ?_
      refine va_get (D := D) (ci := 7) (v := .int (nI (nn q))) (C := RX7) (T := TX7) (N := 20) hx hb hts hiX7 hown hK hP 0 rfl rfl 1 (by decide) hf83 (fun _ h9 => h9) rfl dX7_isArc_6 ?_
      refine nv_icmp_ge (tgt := 38) hx hb (by omega) (by omega) dX7_isArc_9 (by decide) (fun c9 => ?_) (fun c9 => ?_)
      · refine lv_iload_n hx hb dX7_isArc_38 rfl (lv_at hl 2 rfl) ?_
        exact ctR_ret (v := (nI (y).toNat)) hx hb hr (nar_bool y) dX7_isArc_39 hlocks (by rw [k_y, show i = nn q by omega]; rfl)
      · refine lv_iload_n hx hb dX7_isArc_12 rfl (lv_at hl 2 rfl) ?_
        refine nv_ifb_eq (tgt := 38) hx hb dX7_isArc_13 (by decide) (fun c13 => ?_) (fun c13 => ?_)
        · refine lv_iload_n hx hb dX7_isArc_38 rfl (lv_at hl 2 rfl) ?_
          exact ctR_ret (v := (nI (y).toNat)) hx hb hr (nar_bool y) dX7_isArc_39 hlocks (by rw [arcq, allB_f k_i (k_y.symm.trans c13), c13])
        · refine lv_aload_n hx hb dX7_isArc_16 rfl (lv_at hl 0 rfl) ?_
          refine lv_aload_n hx hb dX7_isArc_17 rfl (lv_at hl 1 rfl) ?_
          refine lv_iload_n hx hb dX7_isArc_18 rfl (lv_at hl 3 rfl) ?_
          refine ctR_V (As := [.ref aS, .int (nI i)]) (rest := []) (r := .int (nI (metq q S i))) ⟨hx, hb, hml, hown, hts⟩ (c_X7_met l D cI cZ md q w su po xs ys zs hM aS S i (by omega)) (cwV 2 hts gX7_isArc_X7_met rfl rfl rfl hdV_X7_met ⟨Nat.le_of_ble_eq_true rfl, Nat.le_of_ble_eq_true rfl⟩) hK hN hP [0, 1, 2, 3, 4, 5, 6] rfl 0 7 rfl rfl rfl hl.1 rfl (Nat.le_of_ble_eq_true rfl) ⟨Nat.zero_le _, Nat.zero_le _⟩ dX7_isArc_19 ?_
          have hh_1 : metq q S i ≤ nn q := cnt_le _ _
          refine lv_iconst (v := nI 3) hx hb dX7_isArc_22 (by decide) ?_
          refine nv_icmp_ge (tgt := 30) hx hb (by omega) (by decide) dX7_isArc_23 (by decide) (fun c23 => ?_) (fun c23 => ?_)
          · refine lv_iconst (v := nI 0) hx hb dX7_isArc_30 (by decide) ?_
            refine lv_istore_n (lv' := [(2, .int (nI 0)), (0, .ref (md 0)), (1, .ref aS), (3, .int (nI i))]) hx hb dX7_isArc_31 rfl hl (by decide) rfl (fun ls hl => ?_)
            refine lv_iinc (v := nI (i + 1)) (lv' := [(3, .int (nI (i + 1))), (2, .int (nI 0)), (0, .ref (md 0)), (1, .ref aS)]) hx hb dX7_isArc_32 hl (k := 3) rfl (nI_inc i) (by decide) rfl (fun ls hl => ?_)
            refine lv_goto (tgt := 4) hx hb dX7_isArc_35 (by decide) ?_
            exact ih4 (i + 1) false ls (by omega) (by omega) (by rw [allB, decide_eq_false (by omega), Bool.and_false]) (lv_sub hl [2, 3, 1, 0] rfl)
          · refine lv_iconst (v := nI 1) hx hb dX7_isArc_26 (by decide) ?_
            refine lv_goto (tgt := 31) hx hb dX7_isArc_27 (by decide) ?_
            refine lv_istore_n (lv' := [(2, .int (nI 1)), (0, .ref (md 0)), (1, .ref aS), (3, .int (nI i))]) hx hb dX7_isArc_31 rfl hl (by decide) rfl (fun ls hl => ?_)
            refine lv_iinc (v := nI (i + 1)) (lv' := [(3, .int (nI (i + 1))), (2, .int (nI 1)), (0, .ref (md 0)), (1, .ref aS)]) hx hb dX7_isArc_32 hl (k := 3) rfl (nI_inc i) (by decide) rfl (fun ls hl => ?_)
            refine lv_goto (tgt := 4) hx hb dX7_isArc_35 (by decide) ?_
            exact ih4 (i + 1) true ls (by omega) (by omega) (by rw [allB, decide_eq_true c23, ← k_y, c13]; rfl) (lv_sub hl [2, 3, 1, 0] rfl)
  exact L4 (nn q - 0 + 1) 0 true ls (by omega) (by omega) rfl (lv_sub hl [2, 3, 1, 0] rfl)

set_option maxHeartbeats 4000000 in
set_option maxRecDepth 100000 in
theorem c_X7_isBlocking (l : Launch) (D : va_G) (cI cZ : ClassId) (md : Nat → Nat) (q : Nat) (w : Nat) (su : Nat → Nat) (po : Nat → Nat) (xs : Nat → Nat) (ys : Nat → Nat) (zs : Nat → Nat) (hM : MOK q su po xs ys zs) (S : Nat → Bool) : CtR l yX7_isBlocking wsX7_isBlocking { frames := 3, cells := 0, slots := 0, locals := 68 } D (tyG cI cZ) [.ref (md 0)] [(md 0, .inr (7, [.int (nI q), .int (nI (nn q)), .ref (md 1), .ref (md 2), .ref (md 3), .ref (md 4), .ref (md 5), .ref (md 6), .ref (md 7), .ref (md 8), .ref (md 9), .ref (md 10), .ref (md 11), .ref (md 12), .ref (md 13), .ref (md 14), .ref (md 15), .ref (md 16), .int (nI w), .ref (md 17)])), (md 1, .inl (cI, 81, .inl (nF su))), (md 2, .inl (cI, 81, .inl (nF po))), (md 3, .inl (cI, 91, .inl (nF xs))), (md 4, .inl (cI, 91, .inl (nF ys))), (md 5, .inl (cI, 91, .inl (nF zs))), (md 6, .inl (cZ, 91, .inl (bF S)))] (.int (nI (blkq q S).toNat)) := by
  refine Met.ofW (cc := cX7_isBlocking) (maxL := 3) (ret := some .boolean) (by decide) rfl ?_
  intro p e s m args below meth c s₁ B hml hv
  obtain ⟨rfl, hP, hK, hN⟩ := hv
  have hx := B.exec
  have hb := B.bytes
  have hr := B.returns
  have hts := atoms_spec (ws := wsX7_isBlocking) B.pre
  have hown : s.vm.findClass RX7 = some m.cls := findClass_of_methodNamed B.named
  have hlocks := B.notSynchronized
  have hf25 := hts (.fieldLink RX7 25 "FinitePlanesModel" "isIn" "[Z") (by decide +kernel)
  have hf83 := hts (.fieldLink RX7 83 "FinitePlanesModel" "n" "I") (by decide +kernel)
  have hiX7 : ∀ w ∈ u_ws RX7 TX7 20, w ∈ wsX7_isBlocking := by decide +kernel
  have hl := lv_entry ([.ref (md 0)]) (n := 3) (Nat.le_of_ble_eq_true rfl)
  rw [lg_entry_eq]
  generalize (lg_sl ([.ref (md 0)]) ++ List.replicate (3 - (lg_sl ([.ref (md 0)])).length) Slot.unset).toArray = ls at hl ⊢
  have hl : lv_has ls 3 [(0, .ref (md 0))] := hl
  have hq2 := qs_le hM.1
  have hn2 := nn_le hM.1
  refine lv_iconst (v := nI 1) hx hb dX7_isBlocking_0 (by decide) ?_
  refine lv_istore_n (lv' := [(1, .int (nI 1)), (0, .ref (md 0))]) hx hb dX7_isBlocking_1 rfl hl (by decide) rfl (fun ls hl => ?_)
  refine lv_iconst (v := nI 0) hx hb dX7_isBlocking_2 (by decide) ?_
  refine lv_istore_n (lv' := [(2, .int (nI 0)), (1, .int (nI 1)), (0, .ref (md 0))]) hx hb dX7_isBlocking_3 rfl hl (by decide) rfl (fun ls hl => ?_)
  have L4 : ∀ (N4 : Nat) (i : Nat) (y : Bool) (ls : Array Slot), nn q - i < N4 → (i ≤ nn q) → (y = allB (fun t => decide (0 < metq q S t)) i) → lv_has ls 3 [(0, .ref (md 0)), (1, .int (nI (y).toNat)), (2, .int (nI i))] → WR p l e wsX7_isBlocking { frames := 3, cells := 0, slots := 0, locals := 68 } s m [.ref (md 0)] below meth c (.int (nI (blkq q S).toNat)) 4 ls [] := by
    intro N4
    induction N4 with
    | zero => intro i y ls hN; exact absurd hN (Nat.not_lt_zero _)
    | succ N4 ih4 =>
      intro i y ls hN4 k_i k_y hl
      refine lv_iload_n hx hb dX7_isBlocking_4 rfl (lv_at hl 2 rfl) ?_
      refine lv_aload_n hx hb dX7_isBlocking_5 rfl (lv_at hl 0 rfl) ?_
      refine va_get (D := D) (ci := 7) (v := .int (nI (nn q))) (C := RX7) (T := TX7) (N := 20) hx hb hts hiX7 hown hK hP 0 rfl rfl 1 (by decide) hf83 (fun _ h9 => h9) rfl dX7_isBlocking_6 ?_
      refine nv_icmp_ge (tgt := 40) hx hb (by omega) (by omega) dX7_isBlocking_9 (by decide) (fun c9 => ?_) (fun c9 => ?_)
      · refine lv_iload_n hx hb dX7_isBlocking_40 rfl (lv_at hl 1 rfl) ?_
        exact ctR_ret (v := (nI (y).toNat)) hx hb hr (nar_bool y) dX7_isBlocking_41 hlocks (by rw [k_y, show i = nn q by omega]; rfl)
      · refine lv_iload_n hx hb dX7_isBlocking_12 rfl (lv_at hl 1 rfl) ?_
        refine nv_ifb_eq (tgt := 40) hx hb dX7_isBlocking_13 (by decide) (fun c13 => ?_) (fun c13 => ?_)
        · refine lv_iload_n hx hb dX7_isBlocking_40 rfl (lv_at hl 1 rfl) ?_
          exact ctR_ret (v := (nI (y).toNat)) hx hb hr (nar_bool y) dX7_isBlocking_41 hlocks (by rw [blkq, allB_f k_i (k_y.symm.trans c13), c13])
        · refine lv_aload_n hx hb dX7_isBlocking_16 rfl (lv_at hl 0 rfl) ?_
          refine lv_aload_n hx hb dX7_isBlocking_17 rfl (lv_at hl 0 rfl) ?_
          refine va_get (D := D) (ci := 7) (v := .ref (md 6)) (C := RX7) (T := TX7) (N := 20) hx hb hts hiX7 hown hK hP 0 rfl rfl 7 (by decide) hf25 (fun _ h9 => h9) rfl dX7_isBlocking_18 ?_
          refine lv_iload_n hx hb dX7_isBlocking_21 rfl (lv_at hl 2 rfl) ?_
          refine ctR_V (As := [.ref (md 6), .int (nI i)]) (rest := []) (r := .int (nI (metq q S i))) ⟨hx, hb, hml, hown, hts⟩ (c_X7_met l D cI cZ md q w su po xs ys zs hM (md 6) S i (by omega)) (cwV 2 hts gX7_isBlocking_X7_met rfl rfl rfl hdV_X7_met ⟨Nat.le_of_ble_eq_true rfl, Nat.le_of_ble_eq_true rfl⟩) hK hN hP [0, 1, 2, 3, 4, 5, 6] rfl 0 7 rfl rfl rfl hl.1 rfl (Nat.le_of_ble_eq_true rfl) ⟨Nat.zero_le _, Nat.zero_le _⟩ dX7_isBlocking_22 ?_
          have hh_1 : metq q S i ≤ nn q := cnt_le _ _
          refine nv_if_le (tgt := 32) hx hb (by omega) dX7_isBlocking_25 (by decide) (fun c25 => ?_) (fun c25 => ?_)
          · refine lv_iconst (v := nI 0) hx hb dX7_isBlocking_32 (by decide) ?_
            refine lv_istore_n (lv' := [(1, .int (nI 0)), (0, .ref (md 0)), (2, .int (nI i))]) hx hb dX7_isBlocking_33 rfl hl (by decide) rfl (fun ls hl => ?_)
            refine lv_iinc (v := nI (i + 1)) (lv' := [(2, .int (nI (i + 1))), (1, .int (nI 0)), (0, .ref (md 0))]) hx hb dX7_isBlocking_34 hl (k := 2) rfl (nI_inc i) (by decide) rfl (fun ls hl => ?_)
            refine lv_goto (tgt := 4) hx hb dX7_isBlocking_37 (by decide) ?_
            exact ih4 (i + 1) false ls (by omega) (by omega) (by rw [allB, decide_eq_false (by omega), Bool.and_false]) (lv_sub hl [2, 1, 0] rfl)
          · refine lv_iconst (v := nI 1) hx hb dX7_isBlocking_28 (by decide) ?_
            refine lv_goto (tgt := 33) hx hb dX7_isBlocking_29 (by decide) ?_
            refine lv_istore_n (lv' := [(1, .int (nI 1)), (0, .ref (md 0)), (2, .int (nI i))]) hx hb dX7_isBlocking_33 rfl hl (by decide) rfl (fun ls hl => ?_)
            refine lv_iinc (v := nI (i + 1)) (lv' := [(2, .int (nI (i + 1))), (1, .int (nI 1)), (0, .ref (md 0))]) hx hb dX7_isBlocking_34 hl (k := 2) rfl (nI_inc i) (by decide) rfl (fun ls hl => ?_)
            refine lv_goto (tgt := 4) hx hb dX7_isBlocking_37 (by decide) ?_
            exact ih4 (i + 1) true ls (by omega) (by omega) (by rw [allB, decide_eq_true c25, ← k_y, c13]; rfl) (lv_sub hl [2, 1, 0] rfl)
  exact L4 (nn q - 0 + 1) 0 true ls (by omega) (by omega) rfl (lv_sub hl [2, 1, 0] rfl)

set_option maxHeartbeats 4000000 in
set_option maxRecDepth 100000 in
theorem c_X7_minor (l : Launch) (D : va_G) (cI cZ : ClassId) (md : Nat → Nat) (q : Nat) (w : Nat) (su : Nat → Nat) (po : Nat → Nat) (xs : Nat → Nat) (ys : Nat → Nat) (zs : Nat → Nat) (hM : MOK q su po xs ys zs) (a : Nat) (b : Nat) (g3 : Nat) (g4 : Nat) (k_1 : a < q) (k_2 : b < q) (k_3 : g3 < q) (k_4 : g4 < q) : CtR l yX7_minor wsX7_minor { frames := 2, cells := 0, slots := 0, locals := 45 } D (tyG cI cZ) [.ref (md 0), .int (nI a), .int (nI b), .int (nI g3), .int (nI g4)] [(md 0, .inr (7, [.int (nI q), .int (nI (nn q)), .ref (md 1), .ref (md 2), .ref (md 3), .ref (md 4), .ref (md 5), .ref (md 6), .ref (md 7), .ref (md 8), .ref (md 9), .ref (md 10), .ref (md 11), .ref (md 12), .ref (md 13), .ref (md 14), .ref (md 15), .ref (md 16), .int (nI w), .ref (md 17)])), (md 1, .inl (cI, 81, .inl (nF su))), (md 2, .inl (cI, 81, .inl (nF po))), (md 3, .inl (cI, 91, .inl (nF xs))), (md 4, .inl (cI, 91, .inl (nF ys))), (md 5, .inl (cI, 91, .inl (nF zs)))] (.int (nI (fcw q a b g3 g4))) := by
  refine Met.ofW (cc := cX7_minor) (maxL := 5) (ret := some .int) (by decide) rfl ?_
  intro p e s m args below meth c s₁ B hml hv
  obtain ⟨rfl, hP, hK, hN⟩ := hv
  have hx := B.exec
  have hb := B.bytes
  have hr := B.returns
  have hts := atoms_spec (ws := wsX7_minor) B.pre
  have hown : s.vm.findClass RX7 = some m.cls := findClass_of_methodNamed B.named
  have hlocks := B.notSynchronized
  have hl := lv_entry ([.ref (md 0), .int (nI a), .int (nI b), .int (nI g3), .int (nI g4)]) (n := 5) (Nat.le_of_ble_eq_true rfl)
  rw [lg_entry_eq]
  generalize (lg_sl ([.ref (md 0), .int (nI a), .int (nI b), .int (nI g3), .int (nI g4)]) ++ List.replicate (5 - (lg_sl ([.ref (md 0), .int (nI a), .int (nI b), .int (nI g3), .int (nI g4)])).length) Slot.unset).toArray = ls at hl ⊢
  have hl : lv_has ls 5 [(0, .ref (md 0)), (1, .int (nI a)), (2, .int (nI b)), (3, .int (nI g3)), (4, .int (nI g4))] := hl
  have hq2 := qs_le hM.1
  have hn2 := nn_le hM.1
  refine lv_aload_n hx hb dX7_minor_0 rfl (lv_at hl 0 rfl) ?_
  refine lv_aload_n hx hb dX7_minor_1 rfl (lv_at hl 0 rfl) ?_
  refine lv_iload_n hx hb dX7_minor_2 rfl (lv_at hl 1 rfl) ?_
  refine lv_iload hx hb dX7_minor_3 (lv_at hl 4 rfl) ?_
  refine ctR_V (As := [.int (nI a), .int (nI g4)]) (rest := [.ref (md 0)]) (r := .int (nI (fmul q a g4))) ⟨hx, hb, hml, hown, hts⟩ (c_X7_times l D cI cZ md q w su po xs ys zs hM a g4 (by omega) (by omega)) (cwV 2 hts gX7_minor_X7_times rfl rfl rfl hdV_X7_times ⟨Nat.le_of_ble_eq_true rfl, Nat.le_of_ble_eq_true rfl⟩) hK hN hP [0, 1, 2, 3, 4, 5] rfl 0 7 rfl rfl rfl hl.1 rfl (Nat.le_of_ble_eq_true rfl) ⟨Nat.zero_le _, Nat.zero_le _⟩ dX7_minor_5 ?_
  have hh_1 : fmul q a g4 < q := fmul_lt hM.1 (by omega) (by omega)
  refine lv_aload_n hx hb dX7_minor_8 rfl (lv_at hl 0 rfl) ?_
  refine lv_iload_n hx hb dX7_minor_9 rfl (lv_at hl 2 rfl) ?_
  refine lv_iload_n hx hb dX7_minor_10 rfl (lv_at hl 3 rfl) ?_
  refine ctR_V (As := [.int (nI b), .int (nI g3)]) (rest := [.int (nI (fmul q a g4)), .ref (md 0)]) (r := .int (nI (fmul q b g3))) ⟨hx, hb, hml, hown, hts⟩ (c_X7_times l D cI cZ md q w su po xs ys zs hM b g3 (by omega) (by omega)) (cwV 2 hts gX7_minor_X7_times rfl rfl rfl hdV_X7_times ⟨Nat.le_of_ble_eq_true rfl, Nat.le_of_ble_eq_true rfl⟩) hK hN hP [0, 1, 2, 3, 4, 5] rfl 0 7 rfl rfl rfl hl.1 rfl (Nat.le_of_ble_eq_true rfl) ⟨Nat.zero_le _, Nat.zero_le _⟩ dX7_minor_11 ?_
  have hh_2 : fmul q b g3 < q := fmul_lt hM.1 (by omega) (by omega)
  refine ctR_V (As := [.int (nI (fmul q a g4)), .int (nI (fmul q b g3))]) (rest := []) (r := .int (nI (fsub q (fmul q a g4) (fmul q b g3)))) ⟨hx, hb, hml, hown, hts⟩ (c_X7_less l D cI cZ md q w su po xs ys zs hM (fmul q a g4) (fmul q b g3) (by omega) (by omega)) (cwV 2 hts gX7_minor_X7_less rfl rfl rfl hdV_X7_less ⟨Nat.le_of_ble_eq_true rfl, Nat.le_of_ble_eq_true rfl⟩) hK hN hP [0, 1, 2, 3, 4, 5] rfl 0 7 rfl rfl rfl hl.1 rfl (Nat.le_of_ble_eq_true rfl) ⟨Nat.zero_le _, Nat.zero_le _⟩ dX7_minor_14 ?_
  have hh_3 : fsub q (fmul q a g4) (fmul q b g3) < q := fsub_lt hM.1 (by omega) (by omega)
  exact ctR_ret (v := (nI (fsub q (fmul q a g4) (fmul q b g3)))) hx hb hr rfl dX7_minor_17 hlocks rfl

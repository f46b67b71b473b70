set_option maxHeartbeats 4000000 in
set_option maxRecDepth 100000 in
theorem c_X1_plus (l : Launch) (D : va_G) (cI cZ : ClassId) (ad : Nat → Nat) (q : Nat) (sm : Nat → Nat) (pr : Nat → Nat) (op : Nat → Nat) (iv : Nat → Nat) (hF : FOK q sm pr op iv) (a : Nat) (b : Nat) (k_1 : a < q) (k_2 : b < q) : CtR l yX1_plus wsX1_plus { frames := 0, cells := 0, slots := 0, locals := 0 } D (tyG cI cZ) [.ref (ad 0), .int (nI a), .int (nI b)] [(ad 0, .inr (1, [.int (nI q), .ref (ad 1), .ref (ad 2), .ref (ad 3), .ref (ad 4)])), (ad 1, .inl (cI, 81, .inl (nF sm))), (ad 2, .inl (cI, 81, .inl (nF pr))), (ad 3, .inl (cI, 9, .inl (nF op))), (ad 4, .inl (cI, 9, .inl (nF iv)))] (.int (nI (fadd q a b))) := by
  refine Met.ofW (cc := cX1_plus) (maxL := 3) (ret := some .int) (by decide) rfl ?_
  intro p e s m args below meth c s₁ B hml hv
  obtain ⟨rfl, hP, hK, hN⟩ := hv
  have hx := B.exec
  have hb := B.bytes
  have hr := B.returns
  have hts := atoms_spec (ws := wsX1_plus) B.pre
  have hown : s.vm.findClass RX1 = some m.cls := findClass_of_methodNamed B.named
  have hlocks := B.notSynchronized
  have hf9 := hts (.fieldLink RX1 9 "FinitePlanes$Field" "sums" "[I") (by decide +kernel)
  have hiX1 : ∀ w ∈ u_ws RX1 TX1 5, w ∈ wsX1_plus := by decide +kernel
  have hl := lv_entry ([.ref (ad 0), .int (nI a), .int (nI b)]) (n := 3) (Nat.le_of_ble_eq_true rfl)
  rw [lg_entry_eq]
  generalize (lg_sl ([.ref (ad 0), .int (nI a), .int (nI b)]) ++ List.replicate (3 - (lg_sl ([.ref (ad 0), .int (nI a), .int (nI b)])).length) Slot.unset).toArray = ls at hl ⊢
  have hl : lv_has ls 3 [(0, .ref (ad 0)), (1, .int (nI a)), (2, .int (nI b))] := hl
  have hq2 := qs_le hF.1
  have hn2 := nn_le hF.1
  refine lv_aload_n hx hb dX1_plus_0 rfl (lv_at hl 0 rfl) ?_
  refine va_get (D := D) (ci := 1) (v := .ref (ad 1)) (C := RX1) (T := TX1) (N := 5) hx hb hts hiX1 hown hK hP 0 rfl rfl 1 (by decide) hf9 (fun _ h9 => h9) rfl dX1_plus_1 ?_
  refine lv_iload_n hx hb dX1_plus_4 rfl (lv_at hl 1 rfl) ?_
  refine lv_bipush (v := nI 9) hx hb dX1_plus_5 (by decide) ?_
  refine nv_mulE (r := a * 9) hx hb rfl dX1_plus_7 ?_
  refine lv_iload_n hx hb dX1_plus_8 rfl (lv_at hl 2 rfl) ?_
  refine nv_addE (r := (a * 9) + b) hx hb rfl dX1_plus_9 ?_
  refine nv_iald hx hb hK hP 1 0 rfl rfl (by omega) (by decide) dX1_plus_10 ?_
  exact ctR_ret (v := (nI (sm ((a * 9) + b)))) hx hb hr rfl dX1_plus_11 hlocks (by rw [hF.2.1 a b k_1 k_2])

set_option maxHeartbeats 4000000 in
set_option maxRecDepth 100000 in
theorem c_X1_times (l : Launch) (D : va_G) (cI cZ : ClassId) (ad : Nat → Nat) (q : Nat) (sm : Nat → Nat) (pr : Nat → Nat) (op : Nat → Nat) (iv : Nat → Nat) (hF : FOK q sm pr op iv) (a : Nat) (b : Nat) (k_1 : a < q) (k_2 : b < q) : CtR l yX1_times wsX1_times { frames := 0, cells := 0, slots := 0, locals := 0 } D (tyG cI cZ) [.ref (ad 0), .int (nI a), .int (nI b)] [(ad 0, .inr (1, [.int (nI q), .ref (ad 1), .ref (ad 2), .ref (ad 3), .ref (ad 4)])), (ad 1, .inl (cI, 81, .inl (nF sm))), (ad 2, .inl (cI, 81, .inl (nF pr))), (ad 3, .inl (cI, 9, .inl (nF op))), (ad 4, .inl (cI, 9, .inl (nF iv)))] (.int (nI (fmul q a b))) := by
  refine Met.ofW (cc := cX1_times) (maxL := 3) (ret := some .int) (by decide) rfl ?_
  intro p e s m args below meth c s₁ B hml hv
  obtain ⟨rfl, hP, hK, hN⟩ := hv
  have hx := B.exec
  have hb := B.bytes
  have hr := B.returns
  have hts := atoms_spec (ws := wsX1_times) B.pre
  have hown : s.vm.findClass RX1 = some m.cls := findClass_of_methodNamed B.named
  have hlocks := B.notSynchronized
  have hf15 := hts (.fieldLink RX1 15 "FinitePlanes$Field" "products" "[I") (by decide +kernel)
  have hiX1 : ∀ w ∈ u_ws RX1 TX1 5, w ∈ wsX1_times := by decide +kernel
  have hl := lv_entry ([.ref (ad 0), .int (nI a), .int (nI b)]) (n := 3) (Nat.le_of_ble_eq_true rfl)
  rw [lg_entry_eq]
  generalize (lg_sl ([.ref (ad 0), .int (nI a), .int (nI b)]) ++ List.replicate (3 - (lg_sl ([.ref (ad 0), .int (nI a), .int (nI b)])).length) Slot.unset).toArray = ls at hl ⊢
  have hl : lv_has ls 3 [(0, .ref (ad 0)), (1, .int (nI a)), (2, .int (nI b))] := hl
  have hq2 := qs_le hF.1
  have hn2 := nn_le hF.1
  refine lv_aload_n hx hb dX1_times_0 rfl (lv_at hl 0 rfl) ?_
  refine va_get (D := D) (ci := 1) (v := .ref (ad 2)) (C := RX1) (T := TX1) (N := 5) hx hb hts hiX1 hown hK hP 0 rfl rfl 2 (by decide) hf15 (fun _ h9 => h9) rfl dX1_times_1 ?_
  refine lv_iload_n hx hb dX1_times_4 rfl (lv_at hl 1 rfl) ?_
  refine lv_bipush (v := nI 9) hx hb dX1_times_5 (by decide) ?_
  refine nv_mulE (r := a * 9) hx hb rfl dX1_times_7 ?_
  refine lv_iload_n hx hb dX1_times_8 rfl (lv_at hl 2 rfl) ?_
  refine nv_addE (r := (a * 9) + b) hx hb rfl dX1_times_9 ?_
  refine nv_iald hx hb hK hP 2 0 rfl rfl (by omega) (by decide) dX1_times_10 ?_
  exact ctR_ret (v := (nI (pr ((a * 9) + b)))) hx hb hr rfl dX1_times_11 hlocks (by rw [hF.2.2.1 a b k_1 k_2])

set_option maxHeartbeats 4000000 in
set_option maxRecDepth 100000 in
theorem c_X1_opposite (l : Launch) (D : va_G) (cI cZ : ClassId) (ad : Nat → Nat) (q : Nat) (sm : Nat → Nat) (pr : Nat → Nat) (op : Nat → Nat) (iv : Nat → Nat) (hF : FOK q sm pr op iv) (a : Nat) (k_1 : a < q) : CtR l yX1_opposite wsX1_opposite { frames := 0, cells := 0, slots := 0, locals := 0 } D (tyG cI cZ) [.ref (ad 0), .int (nI a)] [(ad 0, .inr (1, [.int (nI q), .ref (ad 1), .ref (ad 2), .ref (ad 3), .ref (ad 4)])), (ad 1, .inl (cI, 81, .inl (nF sm))), (ad 2, .inl (cI, 81, .inl (nF pr))), (ad 3, .inl (cI, 9, .inl (nF op))), (ad 4, .inl (cI, 9, .inl (nF iv)))] (.int (nI (fneg q a))) := by
  refine Met.ofW (cc := cX1_opposite) (maxL := 2) (ret := some .int) (by decide) rfl ?_
  intro p e s m args below meth c s₁ B hml hv
  obtain ⟨rfl, hP, hK, hN⟩ := hv
  have hx := B.exec
  have hb := B.bytes
  have hr := B.returns
  have hts := atoms_spec (ws := wsX1_opposite) B.pre
  have hown : s.vm.findClass RX1 = some m.cls := findClass_of_methodNamed B.named
  have hlocks := B.notSynchronized
  have hf18 := hts (.fieldLink RX1 18 "FinitePlanes$Field" "opposites" "[I") (by decide +kernel)
  have hiX1 : ∀ w ∈ u_ws RX1 TX1 5, w ∈ wsX1_opposite := by decide +kernel
  have hl := lv_entry ([.ref (ad 0), .int (nI a)]) (n := 2) (Nat.le_of_ble_eq_true rfl)
  rw [lg_entry_eq]
  generalize (lg_sl ([.ref (ad 0), .int (nI a)]) ++ List.replicate (2 - (lg_sl ([.ref (ad 0), .int (nI a)])).length) Slot.unset).toArray = ls at hl ⊢
  have hl : lv_has ls 2 [(0, .ref (ad 0)), (1, .int (nI a))] := hl
  have hq2 := qs_le hF.1
  have hn2 := nn_le hF.1
  refine lv_aload_n hx hb dX1_opposite_0 rfl (lv_at hl 0 rfl) ?_
  refine va_get (D := D) (ci := 1) (v := .ref (ad 3)) (C := RX1) (T := TX1) (N := 5) hx hb hts hiX1 hown hK hP 0 rfl rfl 3 (by decide) hf18 (fun _ h9 => h9) rfl dX1_opposite_1 ?_
  refine lv_iload_n hx hb dX1_opposite_4 rfl (lv_at hl 1 rfl) ?_
  refine nv_iald hx hb hK hP 3 0 rfl rfl (by omega) (by decide) dX1_opposite_5 ?_
  exact ctR_ret (v := (nI (op a))) hx hb hr rfl dX1_opposite_6 hlocks (by rw [hF.2.2.2.1 a k_1])

set_option maxHeartbeats 4000000 in
set_option maxRecDepth 100000 in
theorem c_X1_minus (l : Launch) (D : va_G) (cI cZ : ClassId) (ad : Nat → Nat) (q : Nat) (sm : Nat → Nat) (pr : Nat → Nat) (op : Nat → Nat) (iv : Nat → Nat) (hF : FOK q sm pr op iv) (a : Nat) (b : Nat) (k_1 : a < q) (k_2 : b < q) : CtR l yX1_minus wsX1_minus { frames := 0, cells := 0, slots := 0, locals := 0 } D (tyG cI cZ) [.ref (ad 0), .int (nI a), .int (nI b)] [(ad 0, .inr (1, [.int (nI q), .ref (ad 1), .ref (ad 2), .ref (ad 3), .ref (ad 4)])), (ad 1, .inl (cI, 81, .inl (nF sm))), (ad 2, .inl (cI, 81, .inl (nF pr))), (ad 3, .inl (cI, 9, .inl (nF op))), (ad 4, .inl (cI, 9, .inl (nF iv)))] (.int (nI (fsub q a b))) := by
  refine Met.ofW (cc := cX1_minus) (maxL := 3) (ret := some .int) (by decide) rfl ?_
  intro p e s m args below meth c s₁ B hml hv
  obtain ⟨rfl, hP, hK, hN⟩ := hv
  have hx := B.exec
  have hb := B.bytes
  have hr := B.returns
  have hts := atoms_spec (ws := wsX1_minus) B.pre
  have hown : s.vm.findClass RX1 = some m.cls := findClass_of_methodNamed B.named
  have hlocks := B.notSynchronized
  have hf9 := hts (.fieldLink RX1 9 "FinitePlanes$Field" "sums" "[I") (by decide +kernel)
  have hf18 := hts (.fieldLink RX1 18 "FinitePlanes$Field" "opposites" "[I") (by decide +kernel)
  have hiX1 : ∀ w ∈ u_ws RX1 TX1 5, w ∈ wsX1_minus := by decide +kernel
  have hl := lv_entry ([.ref (ad 0), .int (nI a), .int (nI b)]) (n := 3) (Nat.le_of_ble_eq_true rfl)
  rw [lg_entry_eq]
  generalize (lg_sl ([.ref (ad 0), .int (nI a), .int (nI b)]) ++ List.replicate (3 - (lg_sl ([.ref (ad 0), .int (nI a), .int (nI b)])).length) Slot.unset).toArray = ls at hl ⊢
  have hl : lv_has ls 3 [(0, .ref (ad 0)), (1, .int (nI a)), (2, .int (nI b))] := hl
  have hq2 := qs_le hF.1
  have hn2 := nn_le hF.1
  refine lv_aload_n hx hb dX1_minus_0 rfl (lv_at hl 0 rfl) ?_
  refine va_get (D := D) (ci := 1) (v := .ref (ad 1)) (C := RX1) (T := TX1) (N := 5) hx hb hts hiX1 hown hK hP 0 rfl rfl 1 (by decide) hf9 (fun _ h9 => h9) rfl dX1_minus_1 ?_
  refine lv_iload_n hx hb dX1_minus_4 rfl (lv_at hl 1 rfl) ?_
  refine lv_bipush (v := nI 9) hx hb dX1_minus_5 (by decide) ?_
  refine nv_mulE (r := a * 9) hx hb rfl dX1_minus_7 ?_
  refine lv_aload_n hx hb dX1_minus_8 rfl (lv_at hl 0 rfl) ?_
  refine va_get (D := D) (ci := 1) (v := .ref (ad 3)) (C := RX1) (T := TX1) (N := 5) hx hb hts hiX1 hown hK hP 0 rfl rfl 3 (by decide) hf18 (fun _ h9 => h9) rfl dX1_minus_9 ?_
  refine lv_iload_n hx hb dX1_minus_12 rfl (lv_at hl 2 rfl) ?_
  refine nv_iald hx hb hK hP 3 0 rfl rfl (by omega) (by decide) dX1_minus_13 ?_
  refine nv_top (v' := .int (nI (fneg q b))) (by rw [hF.2.2.2.1 b k_2]) ?_
  have hn3 := fneg_lt hF.1 k_2
  refine nv_addE (r := (a * 9) + (fneg q b)) hx hb rfl dX1_minus_14 ?_
  refine nv_iald hx hb hK hP 1 0 rfl rfl (by omega) (by decide) dX1_minus_15 ?_
  exact ctR_ret (v := (nI (sm ((a * 9) + (fneg q b))))) hx hb hr rfl dX1_minus_16 hlocks (by rw [hF.2.1 a _ k_1 hn3]; rfl)

set_option maxHeartbeats 4000000 in
set_option maxRecDepth 100000 in
theorem c_X1_over (l : Launch) (D : va_G) (cI cZ : ClassId) (ad : Nat → Nat) (q : Nat) (sm : Nat → Nat) (pr : Nat → Nat) (op : Nat → Nat) (iv : Nat → Nat) (hF : FOK q sm pr op iv) (a : Nat) (b : Nat) (k_1 : a < q) (k_2 : b < q) (k_3 : ¬ b = 0) : CtR l yX1_over wsX1_over { frames := 0, cells := 0, slots := 0, locals := 0 } D (tyG cI cZ) [.ref (ad 0), .int (nI a), .int (nI b)] [(ad 0, .inr (1, [.int (nI q), .ref (ad 1), .ref (ad 2), .ref (ad 3), .ref (ad 4)])), (ad 1, .inl (cI, 81, .inl (nF sm))), (ad 2, .inl (cI, 81, .inl (nF pr))), (ad 3, .inl (cI, 9, .inl (nF op))), (ad 4, .inl (cI, 9, .inl (nF iv)))] (.int (nI (fdiv q a b))) := by
  refine Met.ofW (cc := cX1_over) (maxL := 3) (ret := some .int) (by decide) rfl ?_
  intro p e s m args below meth c s₁ B hml hv
  obtain ⟨rfl, hP, hK, hN⟩ := hv
  have hx := B.exec
  have hb := B.bytes
  have hr := B.returns
  have hts := atoms_spec (ws := wsX1_over) B.pre
  have hown : s.vm.findClass RX1 = some m.cls := findClass_of_methodNamed B.named
  have hlocks := B.notSynchronized
  have hf15 := hts (.fieldLink RX1 15 "FinitePlanes$Field" "products" "[I") (by decide +kernel)
  have hf21 := hts (.fieldLink RX1 21 "FinitePlanes$Field" "inverses" "[I") (by decide +kernel)
  have hiX1 : ∀ w ∈ u_ws RX1 TX1 5, w ∈ wsX1_over := by decide +kernel
  have hl := lv_entry ([.ref (ad 0), .int (nI a), .int (nI b)]) (n := 3) (Nat.le_of_ble_eq_true rfl)
  rw [lg_entry_eq]
  generalize (lg_sl ([.ref (ad 0), .int (nI a), .int (nI b)]) ++ List.replicate (3 - (lg_sl ([.ref (ad 0), .int (nI a), .int (nI b)])).length) Slot.unset).toArray = ls at hl ⊢
  have hl : lv_has ls 3 [(0, .ref (ad 0)), (1, .int (nI a)), (2, .int (nI b))] := hl
  have hq2 := qs_le hF.1
  have hn2 := nn_le hF.1
  refine lv_aload_n hx hb dX1_over_0 rfl (lv_at hl 0 rfl) ?_
  refine va_get (D := D) (ci := 1) (v := .ref (ad 2)) (C := RX1) (T := TX1) (N := 5) hx hb hts hiX1 hown hK hP 0 rfl rfl 2 (by decide) hf15 (fun _ h9 => h9) rfl dX1_over_1 ?_
  refine lv_iload_n hx hb dX1_over_4 rfl (lv_at hl 1 rfl) ?_
  refine lv_bipush (v := nI 9) hx hb dX1_over_5 (by decide) ?_
  refine nv_mulE (r := a * 9) hx hb rfl dX1_over_7 ?_
  refine lv_aload_n hx hb dX1_over_8 rfl (lv_at hl 0 rfl) ?_
  refine va_get (D := D) (ci := 1) (v := .ref (ad 4)) (C := RX1) (T := TX1) (N := 5) hx hb hts hiX1 hown hK hP 0 rfl rfl 4 (by decide) hf21 (fun _ h9 => h9) rfl dX1_over_9 ?_
  refine lv_iload_n hx hb dX1_over_12 rfl (lv_at hl 2 rfl) ?_
  refine nv_iald hx hb hK hP 4 0 rfl rfl (by omega) (by decide) dX1_over_13 ?_
  refine nv_top (v' := .int (nI (finv q b))) (by rw [hF.2.2.2.2 b k_2 k_3]) ?_
  have hn3 := finv_lt hF.1 k_2
  refine nv_addE (r := (a * 9) + (finv q b)) hx hb rfl dX1_over_14 ?_
  refine nv_iald hx hb hK hP 2 0 rfl rfl (by omega) (by decide) dX1_over_15 ?_
  exact ctR_ret (v := (nI (pr ((a * 9) + (finv q b))))) hx hb hr rfl dX1_over_16 hlocks (by rw [hF.2.2.1 a _ k_1 hn3]; rfl)

set_option maxHeartbeats 4000000 in
set_option maxRecDepth 100000 in
theorem c_X1_crosswise (l : Launch) (D : va_G) (cI cZ : ClassId) (ad : Nat → Nat) (q : Nat) (sm : Nat → Nat) (pr : Nat → Nat) (op : Nat → Nat) (iv : Nat → Nat) (hF : FOK q sm pr op iv) (a : Nat) (b : Nat) (g3 : Nat) (g4 : Nat) (k_1 : a < q) (k_2 : b < q) (k_3 : g3 < q) (k_4 : g4 < q) : CtR l yX1_crosswise wsX1_crosswise { frames := 1, cells := 0, slots := 0, locals := 22 } D (tyG cI cZ) [.ref (ad 0), .int (nI a), .int (nI b), .int (nI g3), .int (nI g4)] [(ad 0, .inr (1, [.int (nI q), .ref (ad 1), .ref (ad 2), .ref (ad 3), .ref (ad 4)])), (ad 1, .inl (cI, 81, .inl (nF sm))), (ad 2, .inl (cI, 81, .inl (nF pr))), (ad 3, .inl (cI, 9, .inl (nF op))), (ad 4, .inl (cI, 9, .inl (nF iv)))] (.int (nI (fcw q a b g3 g4))) := by
  refine Met.ofW (cc := cX1_crosswise) (maxL := 5) (ret := some .int) (by decide) rfl ?_
  intro p e s m args below meth c s₁ B hml hv
  obtain ⟨rfl, hP, hK, hN⟩ := hv
  have hx := B.exec
  have hb := B.bytes
  have hr := B.returns
  have hts := atoms_spec (ws := wsX1_crosswise) B.pre
  have hown : s.vm.findClass RX1 = some m.cls := findClass_of_methodNamed B.named
  have hlocks := B.notSynchronized
  have hl := lv_entry ([.ref (ad 0), .int (nI a), .int (nI b), .int (nI g3), .int (nI g4)]) (n := 5) (Nat.le_of_ble_eq_true rfl)
  rw [lg_entry_eq]
  generalize (lg_sl ([.ref (ad 0), .int (nI a), .int (nI b), .int (nI g3), .int (nI g4)]) ++ List.replicate (5 - (lg_sl ([.ref (ad 0), .int (nI a), .int (nI b), .int (nI g3), .int (nI g4)])).length) Slot.unset).toArray = ls at hl ⊢
  have hl : lv_has ls 5 [(0, .ref (ad 0)), (1, .int (nI a)), (2, .int (nI b)), (3, .int (nI g3)), (4, .int (nI g4))] := hl
  have hq2 := qs_le hF.1
  have hn2 := nn_le hF.1
  refine lv_aload_n hx hb dX1_crosswise_0 rfl (lv_at hl 0 rfl) ?_
  refine lv_aload_n hx hb dX1_crosswise_1 rfl (lv_at hl 0 rfl) ?_
  refine lv_iload_n hx hb dX1_crosswise_2 rfl (lv_at hl 1 rfl) ?_
  refine lv_iload hx hb dX1_crosswise_3 (lv_at hl 4 rfl) ?_
  refine ctR_V (As := [.int (nI a), .int (nI g4)]) (rest := [.ref (ad 0)]) (r := .int (nI (fmul q a g4))) ⟨hx, hb, hml, hown, hts⟩ (c_X1_times l D cI cZ ad q sm pr op iv hF a g4 (by omega) (by omega)) (cwV 2 hts gX1_crosswise_X1_times rfl rfl rfl hdV_X1_times ⟨Nat.le_of_ble_eq_true rfl, Nat.le_of_ble_eq_true rfl⟩) hK hN hP [0, 1, 2, 3, 4] rfl 0 1 rfl rfl rfl hl.1 rfl (Nat.le_of_ble_eq_true rfl) ⟨Nat.zero_le _, Nat.zero_le _⟩ dX1_crosswise_5 ?_
  have hh_1 : fmul q a g4 < q := fmul_lt hF.1 (by omega) (by omega)
  refine lv_aload_n hx hb dX1_crosswise_8 rfl (lv_at hl 0 rfl) ?_
  refine lv_iload_n hx hb dX1_crosswise_9 rfl (lv_at hl 2 rfl) ?_
  refine lv_iload_n hx hb dX1_crosswise_10 rfl (lv_at hl 3 rfl) ?_
  refine ctR_V (As := [.int (nI b), .int (nI g3)]) (rest := [.int (nI (fmul q a g4)), .ref (ad 0)]) (r := .int (nI (fmul q b g3))) ⟨hx, hb, hml, hown, hts⟩ (c_X1_times l D cI cZ ad q sm pr op iv hF b g3 (by omega) (by omega)) (cwV 2 hts gX1_crosswise_X1_times rfl rfl rfl hdV_X1_times ⟨Nat.le_of_ble_eq_true rfl, Nat.le_of_ble_eq_true rfl⟩) hK hN hP [0, 1, 2, 3, 4] rfl 0 1 rfl rfl rfl hl.1 rfl (Nat.le_of_ble_eq_true rfl) ⟨Nat.zero_le _, Nat.zero_le _⟩ dX1_crosswise_11 ?_
  have hh_2 : fmul q b g3 < q := fmul_lt hF.1 (by omega) (by omega)
  refine ctR_V (As := [.int (nI (fmul q a g4)), .int (nI (fmul q b g3))]) (rest := []) (r := .int (nI (fsub q (fmul q a g4) (fmul q b g3)))) ⟨hx, hb, hml, hown, hts⟩ (c_X1_minus l D cI cZ ad q sm pr op iv hF (fmul q a g4) (fmul q b g3) (by omega) (by omega)) (cwV 2 hts gX1_crosswise_X1_minus rfl rfl rfl hdV_X1_minus ⟨Nat.le_of_ble_eq_true rfl, Nat.le_of_ble_eq_true rfl⟩) hK hN hP [0, 1, 2, 3, 4] rfl 0 1 rfl rfl rfl hl.1 rfl (Nat.le_of_ble_eq_true rfl) ⟨Nat.zero_le _, Nat.zero_le _⟩ dX1_crosswise_14 ?_
  have hh_3 : fsub q (fmul q a g4) (fmul q b g3) < q := fsub_lt hF.1 (by omega) (by omega)
  exact ctR_ret (v := (nI (fsub q (fmul q a g4) (fmul q b g3)))) hx hb hr rfl dX1_crosswise_17 hlocks rfl

set_option maxHeartbeats 4000000 in
set_option maxRecDepth 100000 in
theorem c_X1_has (l : Launch) (D : va_G) (cI cZ : ClassId) (ad : Nat → Nat) (q : Nat) (sm : Nat → Nat) (pr : Nat → Nat) (op : Nat → Nat) (iv : Nat → Nat) (hF : FOK q sm pr op iv) (x : Int32) : CtR l yX1_has wsX1_has { frames := 0, cells := 0, slots := 0, locals := 0 } D (tyG cI cZ) [.ref (ad 0), .int x] [(ad 0, .inr (1, [.int (nI q), .ref (ad 1), .ref (ad 2), .ref (ad 3), .ref (ad 4)])), (ad 1, .inl (cI, 81, .inl (nF sm))), (ad 2, .inl (cI, 81, .inl (nF pr))), (ad 3, .inl (cI, 9, .inl (nF op))), (ad 4, .inl (cI, 9, .inl (nF iv)))] (.int (nI (inB x q).toNat)) := by
  refine Met.ofW (cc := cX1_has) (maxL := 2) (ret := some .boolean) (by decide) rfl ?_
  intro p e s m args below meth c s₁ B hml hv
  obtain ⟨rfl, hP, hK, hN⟩ := hv
  have hx := B.exec
  have hb := B.bytes
  have hr := B.returns
  have hts := atoms_spec (ws := wsX1_has) B.pre
  have hown : s.vm.findClass RX1 = some m.cls := findClass_of_methodNamed B.named
  have hlocks := B.notSynchronized
  have hf28 := hts (.fieldLink RX1 28 "FinitePlanes$Field" "q" "I") (by decide +kernel)
  have hiX1 : ∀ w ∈ u_ws RX1 TX1 5, w ∈ wsX1_has := by decide +kernel
  have hl := lv_entry ([.ref (ad 0), .int x]) (n := 2) (Nat.le_of_ble_eq_true rfl)
  rw [lg_entry_eq]
  generalize (lg_sl ([.ref (ad 0), .int x]) ++ List.replicate (2 - (lg_sl ([.ref (ad 0), .int x])).length) Slot.unset).toArray = ls at hl ⊢
  have hl : lv_has ls 2 [(0, .ref (ad 0)), (1, .int x)] := hl
  have hq2 := qs_le hF.1
  have hn2 := nn_le hF.1
  refine lv_iload_n hx hb dX1_has_0 rfl (lv_at hl 1 rfl) ?_
  refine lv_if_lt (tgt := 16) hx hb dX1_has_1 (by decide) (fun c1 => ?_) (fun c1 => ?_)
  · refine lv_iconst (v := nI 0) hx hb dX1_has_16 (by decide) ?_
    exact ctR_ret (v := (nI 0)) hx hb hr (nar_bool false) dX1_has_17 hlocks (by rw [inB_lt c1]; rfl)
  · refine lv_iload_n hx hb dX1_has_4 rfl (lv_at hl 1 rfl) ?_
    refine lv_aload_n hx hb dX1_has_5 rfl (lv_at hl 0 rfl) ?_
    refine va_get (D := D) (ci := 1) (v := .int (nI q)) (C := RX1) (T := TX1) (N := 5) hx hb hts hiX1 hown hK hP 0 rfl rfl 0 (by decide) hf28 (fun _ h9 => h9) rfl dX1_has_6 ?_
    refine lv_icmp_ge (tgt := 16) hx hb dX1_has_9 (by decide) (fun c9 => ?_) (fun c9 => ?_)
    · refine lv_iconst (v := nI 0) hx hb dX1_has_16 (by decide) ?_
      exact ctR_ret (v := (nI 0)) hx hb hr (nar_bool false) dX1_has_17 hlocks (by rw [inB_ge (by omega) c9]; rfl)
    · refine lv_iconst (v := nI 1) hx hb dX1_has_12 (by decide) ?_
      refine lv_goto (tgt := 17) hx hb dX1_has_13 (by decide) ?_
      exact ctR_ret (v := (nI 1)) hx hb hr (nar_bool true) dX1_has_17 hlocks (by rw [inB_in (by omega) c1 c9]; rfl)

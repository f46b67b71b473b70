set_option maxHeartbeats 4000000 in
set_option maxRecDepth 100000 in
theorem c_X0_choose (l : Launch) (D : va_G) (cI cZ : ClassId) (ad : Nat → Nat) (nb : Nat → Nat) (a : Nat) (b : Nat) (g : Nat) (d : Nat) (f1 : Nat) (f2 : Nat) : CtW (S := Unit) l yX0_choose wsX0_choose { frames := 0, cells := 0, slots := 0, locals := 0 } D (tyG cI cZ) [.ref (ad 12), .int (nI a), .int (nI b), .int (nI g), .int (nI d), .int (nI f1), .int (nI f2)] [(ad 12, .inr (0, [.ref (ad 5), .ref (ad 0), .ref (ad 13), .ref (ad 14), .ref (ad 15)])), (ad 13, .inl (cI, 6, .inl (nF nb)))] (fun (_ : Unit) => True) (fun (_ : Unit) => none) (fun (_ : Unit) => [(ad 12, .inr (0, [.ref (ad 5), .ref (ad 0), .ref (ad 13), .ref (ad 14), .ref (ad 15)])), (ad 13, .inl (cI, 6, .inl (nF (upN (upN (upN (upN (upN (upN nb 0 a) 1 b) 2 g) 3 d) 4 f1) 5 f2))))]) := by
  intro sz; refine Met.ofW (cc := cX0_choose) (maxL := 7) (ret := none) (by decide) rfl ?_
  intro p e s m args below meth c s₁ B hml hv
  obtain ⟨rfl, hsz, hP, hK, hD0, hN⟩ := hv
  have hx := B.exec
  have hb := B.bytes
  have hr := B.returns
  have hts := atoms_spec (ws := wsX0_choose) B.pre
  have hown : s.vm.findClass RX0 = some m.cls := findClass_of_methodNamed B.named
  have hlocks := B.notSynchronized
  subst hsz
  have hD := hD0.self (sz := s.heap.size)
  generalize hAe : va_A [(ad 12, .inr (0, [.ref (ad 5), .ref (ad 0), .ref (ad 13), .ref (ad 14), .ref (ad 15)])), (ad 13, .inl (cI, 6, .inl (nF nb)))] s.heap.size = A at hD ⊢
  have hA : ∀ q : Nat, s.heap.size ≤ q → A q := fun q h => by rw [← hAe]; exact Or.inr h
  have hS : va_S A s.heap s.heap [] := va_S.rf
  have hP : va_P D vwCl [(ad 12, .inr (0, [.ref (ad 5), .ref (ad 0), .ref (ad 13), .ref (ad 14), .ref (ad 15)])), (ad 13, .inl (cI, 6, .inl (nF nb)))] s.heap := hP
  have hf9 := hts (.fieldLink RX0 9 "FinitePlanes$Conic" "numbers" "[I") (by decide +kernel)
  have hiX0 : ∀ w ∈ u_ws RX0 TX0 5, w ∈ wsX0_choose := by decide +kernel
  have hl := lv_entry ([.ref (ad 12), .int (nI a), .int (nI b), .int (nI g), .int (nI d), .int (nI f1), .int (nI f2)]) (n := 7) (Nat.le_of_ble_eq_true rfl)
  rw [lg_entry_eq]
  generalize (lg_sl ([.ref (ad 12), .int (nI a), .int (nI b), .int (nI g), .int (nI d), .int (nI f1), .int (nI f2)]) ++ List.replicate (7 - (lg_sl ([.ref (ad 12), .int (nI a), .int (nI b), .int (nI g), .int (nI d), .int (nI f1), .int (nI f2)])).length) Slot.unset).toArray = ls at hl ⊢
  have hl : lv_has ls 7 [(0, .ref (ad 12)), (1, .int (nI a)), (2, .int (nI b)), (3, .int (nI g)), (4, .int (nI d)), (5, .int (nI f1)), (6, .int (nI f2))] := hl
  refine lv_aload_n hx hb dX0_choose_0 rfl (lv_at hl 0 rfl) ?_
  refine va_get (D := D) (ci := 0) (v := .ref (ad 13)) (C := RX0) (T := TX0) (N := 5) hx hb hts hiX0 hown hK hP 0 rfl rfl 2 (by decide) hf9 (fun _ h9 => h9) rfl dX0_choose_1 ?_
  refine lv_iconst (v := nI 0) hx hb dX0_choose_4 (by decide) ?_
  refine lv_iload_n hx hb dX0_choose_5 rfl (lv_at hl 1 rfl) ?_
  refine nv_iast hx hb hK hP hD hS 1 0 rfl rfl (by omega) (by decide) dX0_choose_6 (fun H locs hP hD hS => ?_)
  have hP : va_P D vwCl [(ad 12, .inr (0, [.ref (ad 5), .ref (ad 0), .ref (ad 13), .ref (ad 14), .ref (ad 15)])), (ad 13, .inl (cI, 6, .inl (nF (upN nb 0 a))))] H := hP
  have hD : va_D A [(ad 12, .inr (0, [.ref (ad 5), .ref (ad 0), .ref (ad 13), .ref (ad 14), .ref (ad 15)])), (ad 13, .inl (cI, 6, .inl (nF (upN nb 0 a))))] := hD
  refine lv_aload_n hx hb dX0_choose_7 rfl (lv_at hl 0 rfl) ?_
  refine va_get (D := D) (ci := 0) (v := .ref (ad 13)) (C := RX0) (T := TX0) (N := 5) hx hb hts hiX0 hown hK hP 0 rfl rfl 2 (by decide) hf9 (fun _ h9 => h9) rfl dX0_choose_8 ?_
  refine lv_iconst (v := nI 1) hx hb dX0_choose_11 (by decide) ?_
  refine lv_iload_n hx hb dX0_choose_12 rfl (lv_at hl 2 rfl) ?_
  refine nv_iast hx hb hK hP hD hS 1 0 rfl rfl (by omega) (by decide) dX0_choose_13 (fun H locs hP hD hS => ?_)
  have hP : va_P D vwCl [(ad 12, .inr (0, [.ref (ad 5), .ref (ad 0), .ref (ad 13), .ref (ad 14), .ref (ad 15)])), (ad 13, .inl (cI, 6, .inl (nF (upN (upN nb 0 a) 1 b))))] H := hP
  have hD : va_D A [(ad 12, .inr (0, [.ref (ad 5), .ref (ad 0), .ref (ad 13), .ref (ad 14), .ref (ad 15)])), (ad 13, .inl (cI, 6, .inl (nF (upN (upN nb 0 a) 1 b))))] := hD
  refine lv_aload_n hx hb dX0_choose_14 rfl (lv_at hl 0 rfl) ?_
  refine va_get (D := D) (ci := 0) (v := .ref (ad 13)) (C := RX0) (T := TX0) (N := 5) hx hb hts hiX0 hown hK hP 0 rfl rfl 2 (by decide) hf9 (fun _ h9 => h9) rfl dX0_choose_15 ?_
  refine lv_iconst (v := nI 2) hx hb dX0_choose_18 (by decide) ?_
  refine lv_iload_n hx hb dX0_choose_19 rfl (lv_at hl 3 rfl) ?_
  refine nv_iast hx hb hK hP hD hS 1 0 rfl rfl (by omega) (by decide) dX0_choose_20 (fun H locs hP hD hS => ?_)
  have hP : va_P D vwCl [(ad 12, .inr (0, [.ref (ad 5), .ref (ad 0), .ref (ad 13), .ref (ad 14), .ref (ad 15)])), (ad 13, .inl (cI, 6, .inl (nF (upN (upN (upN nb 0 a) 1 b) 2 g))))] H := hP
  have hD : va_D A [(ad 12, .inr (0, [.ref (ad 5), .ref (ad 0), .ref (ad 13), .ref (ad 14), .ref (ad 15)])), (ad 13, .inl (cI, 6, .inl (nF (upN (upN (upN nb 0 a) 1 b) 2 g))))] := hD
  refine lv_aload_n hx hb dX0_choose_21 rfl (lv_at hl 0 rfl) ?_
  refine va_get (D := D) (ci := 0) (v := .ref (ad 13)) (C := RX0) (T := TX0) (N := 5) hx hb hts hiX0 hown hK hP 0 rfl rfl 2 (by decide) hf9 (fun _ h9 => h9) rfl dX0_choose_22 ?_
  refine lv_iconst (v := nI 3) hx hb dX0_choose_25 (by decide) ?_
  refine lv_iload hx hb dX0_choose_26 (lv_at hl 4 rfl) ?_
  refine nv_iast hx hb hK hP hD hS 1 0 rfl rfl (by omega) (by decide) dX0_choose_28 (fun H locs hP hD hS => ?_)
  have hP : va_P D vwCl [(ad 12, .inr (0, [.ref (ad 5), .ref (ad 0), .ref (ad 13), .ref (ad 14), .ref (ad 15)])), (ad 13, .inl (cI, 6, .inl (nF (upN (upN (upN (upN nb 0 a) 1 b) 2 g) 3 d))))] H := hP
  have hD : va_D A [(ad 12, .inr (0, [.ref (ad 5), .ref (ad 0), .ref (ad 13), .ref (ad 14), .ref (ad 15)])), (ad 13, .inl (cI, 6, .inl (nF (upN (upN (upN (upN nb 0 a) 1 b) 2 g) 3 d))))] := hD
  refine lv_aload_n hx hb dX0_choose_29 rfl (lv_at hl 0 rfl) ?_
  refine va_get (D := D) (ci := 0) (v := .ref (ad 13)) (C := RX0) (T := TX0) (N := 5) hx hb hts hiX0 hown hK hP 0 rfl rfl 2 (by decide) hf9 (fun _ h9 => h9) rfl dX0_choose_30 ?_
  refine lv_iconst (v := nI 4) hx hb dX0_choose_33 (by decide) ?_
  refine lv_iload hx hb dX0_choose_34 (lv_at hl 5 rfl) ?_
  refine nv_iast hx hb hK hP hD hS 1 0 rfl rfl (by omega) (by decide) dX0_choose_36 (fun H locs hP hD hS => ?_)
  have hP : va_P D vwCl [(ad 12, .inr (0, [.ref (ad 5), .ref (ad 0), .ref (ad 13), .ref (ad 14), .ref (ad 15)])), (ad 13, .inl (cI, 6, .inl (nF (upN (upN (upN (upN (upN nb 0 a) 1 b) 2 g) 3 d) 4 f1))))] H := hP
  have hD : va_D A [(ad 12, .inr (0, [.ref (ad 5), .ref (ad 0), .ref (ad 13), .ref (ad 14), .ref (ad 15)])), (ad 13, .inl (cI, 6, .inl (nF (upN (upN (upN (upN (upN nb 0 a) 1 b) 2 g) 3 d) 4 f1))))] := hD
  refine lv_aload_n hx hb dX0_choose_37 rfl (lv_at hl 0 rfl) ?_
  refine va_get (D := D) (ci := 0) (v := .ref (ad 13)) (C := RX0) (T := TX0) (N := 5) hx hb hts hiX0 hown hK hP 0 rfl rfl 2 (by decide) hf9 (fun _ h9 => h9) rfl dX0_choose_38 ?_
  refine lv_iconst (v := nI 5) hx hb dX0_choose_41 (by decide) ?_
  refine lv_iload hx hb dX0_choose_42 (lv_at hl 6 rfl) ?_
  refine nv_iast hx hb hK hP hD hS 1 0 rfl rfl (by omega) (by decide) dX0_choose_44 (fun H locs hP hD hS => ?_)
  have hP : va_P D vwCl [(ad 12, .inr (0, [.ref (ad 5), .ref (ad 0), .ref (ad 13), .ref (ad 14), .ref (ad 15)])), (ad 13, .inl (cI, 6, .inl (nF (upN (upN (upN (upN (upN (upN nb 0 a) 1 b) 2 g) 3 d) 4 f1) 5 f2))))] H := hP
  have hD : va_D A [(ad 12, .inr (0, [.ref (ad 5), .ref (ad 0), .ref (ad 13), .ref (ad 14), .ref (ad 15)])), (ad 13, .inl (cI, 6, .inl (nF (upN (upN (upN (upN (upN (upN nb 0 a) 1 b) 2 g) 3 d) 4 f1) 5 f2))))] := hD
  exact ctW_retV () hx hb hr dX0_choose_45 hlocks hS hP hD trivial rfl

set_option maxHeartbeats 4000000 in
set_option maxRecDepth 100000 in
theorem c_X0_term_0 (l : Launch) (D : va_G) (cI cZ : ClassId) (ad : Nat → Nat) (q : Nat) (sm : Nat → Nat) (pr : Nat → Nat) (op : Nat → Nat) (iv : Nat → Nat) (hF : FOK q sm pr op iv) (tr : Nat → Nat) (ro : Nat → Nat) (hT : TOK q tr) (i : Nat) (k_1 : i < nn q) : CtR l yX0_term wsX0_term { frames := 1, cells := 0, slots := 0, locals := 22 } D (tyG cI cZ) [.ref (ad 12), .int (nI i), .int (nI 0)] [(ad 0, .inr (1, [.int (nI q), .ref (ad 1), .ref (ad 2), .ref (ad 3), .ref (ad 4)])), (ad 1, .inl (cI, 81, .inl (nF sm))), (ad 2, .inl (cI, 81, .inl (nF pr))), (ad 3, .inl (cI, 9, .inl (nF op))), (ad 4, .inl (cI, 9, .inl (nF iv))), (ad 5, .inr (3, [.ref (ad 0), .int (nI (nn q)), .ref (ad 6), .ref (ad 7)])), (ad 6, .inl (cI, 273, .inl (nF tr))), (ad 7, .inl (cI, 910, .inl (nF ro))), (ad 12, .inr (0, [.ref (ad 5), .ref (ad 0), .ref (ad 13), .ref (ad 14), .ref (ad 15)]))] (.int (nI (trm q i 0))) := by
  refine Met.ofW (cc := cX0_term) (maxL := 6) (ret := some .int) (by decide) rfl ?_
  intro p e s m args below meth c s₁ B hml hv
  obtain ⟨rfl, hP, hK, hN⟩ := hv
  have hx := B.exec
  have hb := B.bytes
  have hr := B.returns
  have hts := atoms_spec (ws := wsX0_term) B.pre
  have hown : s.vm.findClass RX0 = some m.cls := findClass_of_methodNamed B.named
  have hlocks := B.notSynchronized
  have hf21 := hts (.fieldLink RX0 21 "FinitePlanes$Conic" "plane" "LFinitePlanes$Plane;") (by decide +kernel)
  have hf31 := hts (.fieldLink RX0 31 "FinitePlanes$Conic" "field" "LFinitePlanes$Field;") (by decide +kernel)
  have hiX0 : ∀ w ∈ u_ws RX0 TX0 5, w ∈ wsX0_term := by decide +kernel
  have hl := lv_entry ([.ref (ad 12), .int (nI i), .int (nI 0)]) (n := 6) (Nat.le_of_ble_eq_true rfl)
  rw [lg_entry_eq]
  generalize (lg_sl ([.ref (ad 12), .int (nI i), .int (nI 0)]) ++ List.replicate (6 - (lg_sl ([.ref (ad 12), .int (nI i), .int (nI 0)])).length) Slot.unset).toArray = ls at hl ⊢
  have hl : lv_has ls 6 [(0, .ref (ad 12)), (1, .int (nI i)), (2, .int (nI 0))] := hl
  have hq2 := qs_le hF.1
  have hn2 := nn_le hF.1
  refine lv_aload_n hx hb dX0_term_0 rfl (lv_at hl 0 rfl) ?_
  refine va_get (D := D) (ci := 0) (v := .ref (ad 5)) (C := RX0) (T := TX0) (N := 5) hx hb hts hiX0 hown hK hP 8 rfl rfl 0 (by decide) hf21 (fun _ h9 => h9) rfl dX0_term_1 ?_
  refine lv_iload_n hx hb dX0_term_4 rfl (lv_at hl 1 rfl) ?_
  refine lv_iconst (v := nI 0) hx hb dX0_term_5 (by decide) ?_
  refine ctR_V (As := [.int (nI i), .int (nI 0)]) (rest := []) (r := .int (nI (pt q i 0))) ⟨hx, hb, hml, hown, hts⟩ (c_X3_part l D cI cZ ad q sm pr op iv hF tr ro hT i 0 (by omega) (by omega)) (cwV 2 hts gX0_term_X3_part rfl rfl rfl hdV_X3_part ⟨Nat.le_of_ble_eq_true rfl, Nat.le_of_ble_eq_true rfl⟩) hK hN hP [0, 1, 2, 3, 4, 5, 6, 7] rfl 5 3 rfl rfl rfl hl.1 rfl (Nat.le_of_ble_eq_true rfl) ⟨Nat.zero_le _, Nat.zero_le _⟩ dX0_term_6 ?_
  have hh_1 : pt q i 0 < q := pt_lt hF.1 (by omega) (by omega)
  refine lv_istore_n (lv' := [(3, .int (nI (pt q i 0))), (0, .ref (ad 12)), (1, .int (nI i)), (2, .int (nI 0))]) hx hb dX0_term_9 rfl hl (by decide) rfl (fun ls hl => ?_)
  refine lv_aload_n hx hb dX0_term_10 rfl (lv_at hl 1 rfl) ?_
  refine va_get (D := D) (ci := 0) (v := .ref (ad 5)) (C := RX0) (T := TX0) (N := 5) hx hb hts hiX0 hown hK hP 8 rfl rfl 0 (by decide) hf21 (fun _ h9 => h9) rfl dX0_term_11 ?_
  refine lv_iload_n hx hb dX0_term_14 rfl (lv_at hl 2 rfl) ?_
  refine lv_iconst (v := nI 1) hx hb dX0_term_15 (by decide) ?_
  refine ctR_V (As := [.int (nI i), .int (nI 1)]) (rest := []) (r := .int (nI (pt q i 1))) ⟨hx, hb, hml, hown, hts⟩ (c_X3_part l D cI cZ ad q sm pr op iv hF tr ro hT i 1 (by omega) (by omega)) (cwV 2 hts gX0_term_X3_part rfl rfl rfl hdV_X3_part ⟨Nat.le_of_ble_eq_true rfl, Nat.le_of_ble_eq_true rfl⟩) hK hN hP [0, 1, 2, 3, 4, 5, 6, 7] rfl 5 3 rfl rfl rfl hl.1 rfl (Nat.le_of_ble_eq_true rfl) ⟨Nat.zero_le _, Nat.zero_le _⟩ dX0_term_16 ?_
  have hh_2 : pt q i 1 < q := pt_lt hF.1 (by omega) (by omega)
  refine lv_istore (lv' := [(4, .int (nI (pt q i 1))), (3, .int (nI (pt q i 0))), (0, .ref (ad 12)), (1, .int (nI i)), (2, .int (nI 0))]) hx hb dX0_term_19 hl (by decide) rfl (fun ls hl => ?_)
  refine lv_aload_n hx hb dX0_term_21 rfl (lv_at hl 2 rfl) ?_
  refine va_get (D := D) (ci := 0) (v := .ref (ad 5)) (C := RX0) (T := TX0) (N := 5) hx hb hts hiX0 hown hK hP 8 rfl rfl 0 (by decide) hf21 (fun _ h9 => h9) rfl dX0_term_22 ?_
  refine lv_iload_n hx hb dX0_term_25 rfl (lv_at hl 3 rfl) ?_
  refine lv_iconst (v := nI 2) hx hb dX0_term_26 (by decide) ?_
  refine ctR_V (As := [.int (nI i), .int (nI 2)]) (rest := []) (r := .int (nI (pt q i 2))) ⟨hx, hb, hml, hown, hts⟩ (c_X3_part l D cI cZ ad q sm pr op iv hF tr ro hT i 2 (by omega) (by omega)) (cwV 2 hts gX0_term_X3_part rfl rfl rfl hdV_X3_part ⟨Nat.le_of_ble_eq_true rfl, Nat.le_of_ble_eq_true rfl⟩) hK hN hP [0, 1, 2, 3, 4, 5, 6, 7] rfl 5 3 rfl rfl rfl hl.1 rfl (Nat.le_of_ble_eq_true rfl) ⟨Nat.zero_le _, Nat.zero_le _⟩ dX0_term_27 ?_
  have hh_3 : pt q i 2 < q := pt_lt hF.1 (by omega) (by omega)
  refine lv_istore (lv' := [(5, .int (nI (pt q i 2))), (4, .int (nI (pt q i 1))), (3, .int (nI (pt q i 0))), (0, .ref (ad 12)), (1, .int (nI i)), (2, .int (nI 0))]) hx hb dX0_term_30 hl (by decide) rfl (fun ls hl => ?_)
  refine lv_iload_n hx hb dX0_term_32 rfl (lv_at hl 5 rfl) ?_
  refine lv_tableIn (tgt := 68) hx hb dX0_term_33 (by decide) (by decide) (by rfl) (by decide) ?_
  refine lv_aload_n hx hb dX0_term_68 rfl (lv_at hl 3 rfl) ?_
  refine va_get (D := D) (ci := 0) (v := .ref (ad 0)) (C := RX0) (T := TX0) (N := 5) hx hb hts hiX0 hown hK hP 8 rfl rfl 1 (by decide) hf31 (fun _ h9 => h9) rfl dX0_term_69 ?_
  refine lv_iload_n hx hb dX0_term_72 rfl (lv_at hl 2 rfl) ?_
  refine lv_iload_n hx hb dX0_term_73 rfl (lv_at hl 2 rfl) ?_
  refine ctR_V (As := [.int (nI (pt q i 0)), .int (nI (pt q i 0))]) (rest := []) (r := .int (nI (fmul q (pt q i 0) (pt q i 0)))) ⟨hx, hb, hml, hown, hts⟩ (c_X1_times l D cI cZ ad q sm pr op iv hF (pt q i 0) (pt q i 0) (by omega) (by omega)) (cwV 2 hts gX0_term_X1_times rfl rfl rfl hdV_X1_times ⟨Nat.le_of_ble_eq_true rfl, Nat.le_of_ble_eq_true rfl⟩) hK hN hP [0, 1, 2, 3, 4] rfl 0 1 rfl rfl rfl hl.1 rfl (Nat.le_of_ble_eq_true rfl) ⟨Nat.zero_le _, Nat.zero_le _⟩ dX0_term_74 ?_
  have hh_4 : fmul q (pt q i 0) (pt q i 0) < q := fmul_lt hF.1 (by omega) (by omega)
  exact ctR_ret (v := (nI (fmul q (pt q i 0) (pt q i 0)))) hx hb hr rfl dX0_term_77 hlocks rfl

set_option maxHeartbeats 4000000 in
set_option maxRecDepth 100000 in
theorem c_X0_term_1 (l : Launch) (D : va_G) (cI cZ : ClassId) (ad : Nat → Nat) (q : Nat) (sm : Nat → Nat) (pr : Nat → Nat) (op : Nat → Nat) (iv : Nat → Nat) (hF : FOK q sm pr op iv) (tr : Nat → Nat) (ro : Nat → Nat) (hT : TOK q tr) (i : Nat) (k_1 : i < nn q) : CtR l yX0_term wsX0_term { frames := 1, cells := 0, slots := 0, locals := 22 } D (tyG cI cZ) [.ref (ad 12), .int (nI i), .int (nI 1)] [(ad 0, .inr (1, [.int (nI q), .ref (ad 1), .ref (ad 2), .ref (ad 3), .ref (ad 4)])), (ad 1, .inl (cI, 81, .inl (nF sm))), (ad 2, .inl (cI, 81, .inl (nF pr))), (ad 3, .inl (cI, 9, .inl (nF op))), (ad 4, .inl (cI, 9, .inl (nF iv))), (ad 5, .inr (3, [.ref (ad 0), .int (nI (nn q)), .ref (ad 6), .ref (ad 7)])), (ad 6, .inl (cI, 273, .inl (nF tr))), (ad 7, .inl (cI, 910, .inl (nF ro))), (ad 12, .inr (0, [.ref (ad 5), .ref (ad 0), .ref (ad 13), .ref (ad 14), .ref (ad 15)]))] (.int (nI (trm q i 1))) := by
  refine Met.ofW (cc := cX0_term) (maxL := 6) (ret := some .int) (by decide) rfl ?_
  intro p e s m args below meth c s₁ B hml hv
  obtain ⟨rfl, hP, hK, hN⟩ := hv
  have hx := B.exec
  have hb := B.bytes
  have hr := B.returns
  have hts := atoms_spec (ws := wsX0_term) B.pre
  have hown : s.vm.findClass RX0 = some m.cls := findClass_of_methodNamed B.named
  have hlocks := B.notSynchronized
  have hf21 := hts (.fieldLink RX0 21 "FinitePlanes$Conic" "plane" "LFinitePlanes$Plane;") (by decide +kernel)
  have hf31 := hts (.fieldLink RX0 31 "FinitePlanes$Conic" "field" "LFinitePlanes$Field;") (by decide +kernel)
  have hiX0 : ∀ w ∈ u_ws RX0 TX0 5, w ∈ wsX0_term := by decide +kernel
  have hl := lv_entry ([.ref (ad 12), .int (nI i), .int (nI 1)]) (n := 6) (Nat.le_of_ble_eq_true rfl)
  rw [lg_entry_eq]
  generalize (lg_sl ([.ref (ad 12), .int (nI i), .int (nI 1)]) ++ List.replicate (6 - (lg_sl ([.ref (ad 12), .int (nI i), .int (nI 1)])).length) Slot.unset).toArray = ls at hl ⊢
  have hl : lv_has ls 6 [(0, .ref (ad 12)), (1, .int (nI i)), (2, .int (nI 1))] := hl
  have hq2 := qs_le hF.1
  have hn2 := nn_le hF.1
  refine lv_aload_n hx hb dX0_term_0 rfl (lv_at hl 0 rfl) ?_
  refine va_get (D := D) (ci := 0) (v := .ref (ad 5)) (C := RX0) (T := TX0) (N := 5) hx hb hts hiX0 hown hK hP 8 rfl rfl 0 (by decide) hf21 (fun _ h9 => h9) rfl dX0_term_1 ?_
  refine lv_iload_n hx hb dX0_term_4 rfl (lv_at hl 1 rfl) ?_
  refine lv_iconst (v := nI 0) hx hb dX0_term_5 (by decide) ?_
  refine ctR_V (As := [.int (nI i), .int (nI 0)]) (rest := []) (r := .int (nI (pt q i 0))) ⟨hx, hb, hml, hown, hts⟩ (c_X3_part l D cI cZ ad q sm pr op iv hF tr ro hT i 0 (by omega) (by omega)) (cwV 2 hts gX0_term_X3_part rfl rfl rfl hdV_X3_part ⟨Nat.le_of_ble_eq_true rfl, Nat.le_of_ble_eq_true rfl⟩) hK hN hP [0, 1, 2, 3, 4, 5, 6, 7] rfl 5 3 rfl rfl rfl hl.1 rfl (Nat.le_of_ble_eq_true rfl) ⟨Nat.zero_le _, Nat.zero_le _⟩ dX0_term_6 ?_
  have hh_1 : pt q i 0 < q := pt_lt hF.1 (by omega) (by omega)
  refine lv_istore_n (lv' := [(3, .int (nI (pt q i 0))), (0, .ref (ad 12)), (1, .int (nI i)), (2, .int (nI 1))]) hx hb dX0_term_9 rfl hl (by decide) rfl (fun ls hl => ?_)
  refine lv_aload_n hx hb dX0_term_10 rfl (lv_at hl 1 rfl) ?_
  refine va_get (D := D) (ci := 0) (v := .ref (ad 5)) (C := RX0) (T := TX0) (N := 5) hx hb hts hiX0 hown hK hP 8 rfl rfl 0 (by decide) hf21 (fun _ h9 => h9) rfl dX0_term_11 ?_
  refine lv_iload_n hx hb dX0_term_14 rfl (lv_at hl 2 rfl) ?_
  refine lv_iconst (v := nI 1) hx hb dX0_term_15 (by decide) ?_
  refine ctR_V (As := [.int (nI i), .int (nI 1)]) (rest := []) (r := .int (nI (pt q i 1))) ⟨hx, hb, hml, hown, hts⟩ (c_X3_part l D cI cZ ad q sm pr op iv hF tr ro hT i 1 (by omega) (by omega)) (cwV 2 hts gX0_term_X3_part rfl rfl rfl hdV_X3_part ⟨Nat.le_of_ble_eq_true rfl, Nat.le_of_ble_eq_true rfl⟩) hK hN hP [0, 1, 2, 3, 4, 5, 6, 7] rfl 5 3 rfl rfl rfl hl.1 rfl (Nat.le_of_ble_eq_true rfl) ⟨Nat.zero_le _, Nat.zero_le _⟩ dX0_term_16 ?_
  have hh_2 : pt q i 1 < q := pt_lt hF.1 (by omega) (by omega)
  refine lv_istore (lv' := [(4, .int (nI (pt q i 1))), (3, .int (nI (pt q i 0))), (0, .ref (ad 12)), (1, .int (nI i)), (2, .int (nI 1))]) hx hb dX0_term_19 hl (by decide) rfl (fun ls hl => ?_)
  refine lv_aload_n hx hb dX0_term_21 rfl (lv_at hl 2 rfl) ?_
  refine va_get (D := D) (ci := 0) (v := .ref (ad 5)) (C := RX0) (T := TX0) (N := 5) hx hb hts hiX0 hown hK hP 8 rfl rfl 0 (by decide) hf21 (fun _ h9 => h9) rfl dX0_term_22 ?_
  refine lv_iload_n hx hb dX0_term_25 rfl (lv_at hl 3 rfl) ?_
  refine lv_iconst (v := nI 2) hx hb dX0_term_26 (by decide) ?_
  refine ctR_V (As := [.int (nI i), .int (nI 2)]) (rest := []) (r := .int (nI (pt q i 2))) ⟨hx, hb, hml, hown, hts⟩ (c_X3_part l D cI cZ ad q sm pr op iv hF tr ro hT i 2 (by omega) (by omega)) (cwV 2 hts gX0_term_X3_part rfl rfl rfl hdV_X3_part ⟨Nat.le_of_ble_eq_true rfl, Nat.le_of_ble_eq_true rfl⟩) hK hN hP [0, 1, 2, 3, 4, 5, 6, 7] rfl 5 3 rfl rfl rfl hl.1 rfl (Nat.le_of_ble_eq_true rfl) ⟨Nat.zero_le _, Nat.zero_le _⟩ dX0_term_27 ?_
  have hh_3 : pt q i 2 < q := pt_lt hF.1 (by omega) (by omega)
  refine lv_istore (lv' := [(5, .int (nI (pt q i 2))), (4, .int (nI (pt q i 1))), (3, .int (nI (pt q i 0))), (0, .ref (ad 12)), (1, .int (nI i)), (2, .int (nI 1))]) hx hb dX0_term_30 hl (by decide) rfl (fun ls hl => ?_)
  refine lv_iload_n hx hb dX0_term_32 rfl (lv_at hl 5 rfl) ?_
  refine lv_tableIn (tgt := 78) hx hb dX0_term_33 (by decide) (by decide) (by rfl) (by decide) ?_
  refine lv_aload_n hx hb dX0_term_78 rfl (lv_at hl 3 rfl) ?_
  refine va_get (D := D) (ci := 0) (v := .ref (ad 0)) (C := RX0) (T := TX0) (N := 5) hx hb hts hiX0 hown hK hP 8 rfl rfl 1 (by decide) hf31 (fun _ h9 => h9) rfl dX0_term_79 ?_
  refine lv_iload hx hb dX0_term_82 (lv_at hl 1 rfl) ?_
  refine lv_iload hx hb dX0_term_84 (lv_at hl 1 rfl) ?_
  refine ctR_V (As := [.int (nI (pt q i 1)), .int (nI (pt q i 1))]) (rest := []) (r := .int (nI (fmul q (pt q i 1) (pt q i 1)))) ⟨hx, hb, hml, hown, hts⟩ (c_X1_times l D cI cZ ad q sm pr op iv hF (pt q i 1) (pt q i 1) (by omega) (by omega)) (cwV 2 hts gX0_term_X1_times rfl rfl rfl hdV_X1_times ⟨Nat.le_of_ble_eq_true rfl, Nat.le_of_ble_eq_true rfl⟩) hK hN hP [0, 1, 2, 3, 4] rfl 0 1 rfl rfl rfl hl.1 rfl (Nat.le_of_ble_eq_true rfl) ⟨Nat.zero_le _, Nat.zero_le _⟩ dX0_term_86 ?_
  have hh_4 : fmul q (pt q i 1) (pt q i 1) < q := fmul_lt hF.1 (by omega) (by omega)
  exact ctR_ret (v := (nI (fmul q (pt q i 1) (pt q i 1)))) hx hb hr rfl dX0_term_89 hlocks rfl

set_option maxHeartbeats 4000000 in
set_option maxRecDepth 100000 in
theorem c_X0_term_2 (l : Launch) (D : va_G) (cI cZ : ClassId) (ad : Nat → Nat) (q : Nat) (sm : Nat → Nat) (pr : Nat → Nat) (op : Nat → Nat) (iv : Nat → Nat) (hF : FOK q sm pr op iv) (tr : Nat → Nat) (ro : Nat → Nat) (hT : TOK q tr) (i : Nat) (k_1 : i < nn q) : CtR l yX0_term wsX0_term { frames := 1, cells := 0, slots := 0, locals := 22 } D (tyG cI cZ) [.ref (ad 12), .int (nI i), .int (nI 2)] [(ad 0, .inr (1, [.int (nI q), .ref (ad 1), .ref (ad 2), .ref (ad 3), .ref (ad 4)])), (ad 1, .inl (cI, 81, .inl (nF sm))), (ad 2, .inl (cI, 81, .inl (nF pr))), (ad 3, .inl (cI, 9, .inl (nF op))), (ad 4, .inl (cI, 9, .inl (nF iv))), (ad 5, .inr (3, [.ref (ad 0), .int (nI (nn q)), .ref (ad 6), .ref (ad 7)])), (ad 6, .inl (cI, 273, .inl (nF tr))), (ad 7, .inl (cI, 910, .inl (nF ro))), (ad 12, .inr (0, [.ref (ad 5), .ref (ad 0), .ref (ad 13), .ref (ad 14), .ref (ad 15)]))] (.int (nI (trm q i 2))) := by
  refine Met.ofW (cc := cX0_term) (maxL := 6) (ret := some .int) (by decide) rfl ?_
  intro p e s m args below meth c s₁ B hml hv
  obtain ⟨rfl, hP, hK, hN⟩ := hv
  have hx := B.exec
  have hb := B.bytes
  have hr := B.returns
  have hts := atoms_spec (ws := wsX0_term) B.pre
  have hown : s.vm.findClass RX0 = some m.cls := findClass_of_methodNamed B.named
  have hlocks := B.notSynchronized
  have hf21 := hts (.fieldLink RX0 21 "FinitePlanes$Conic" "plane" "LFinitePlanes$Plane;") (by decide +kernel)
  have hf31 := hts (.fieldLink RX0 31 "FinitePlanes$Conic" "field" "LFinitePlanes$Field;") (by decide +kernel)
  have hiX0 : ∀ w ∈ u_ws RX0 TX0 5, w ∈ wsX0_term := by decide +kernel
  have hl := lv_entry ([.ref (ad 12), .int (nI i), .int (nI 2)]) (n := 6) (Nat.le_of_ble_eq_true rfl)
  rw [lg_entry_eq]
  generalize (lg_sl ([.ref (ad 12), .int (nI i), .int (nI 2)]) ++ List.replicate (6 - (lg_sl ([.ref (ad 12), .int (nI i), .int (nI 2)])).length) Slot.unset).toArray = ls at hl ⊢
  have hl : lv_has ls 6 [(0, .ref (ad 12)), (1, .int (nI i)), (2, .int (nI 2))] := hl
  have hq2 := qs_le hF.1
  have hn2 := nn_le hF.1
  refine lv_aload_n hx hb dX0_term_0 rfl (lv_at hl 0 rfl) ?_
  refine va_get (D := D) (ci := 0) (v := .ref (ad 5)) (C := RX0) (T := TX0) (N := 5) hx hb hts hiX0 hown hK hP 8 rfl rfl 0 (by decide) hf21 (fun _ h9 => h9) rfl dX0_term_1 ?_
  refine lv_iload_n hx hb dX0_term_4 rfl (lv_at hl 1 rfl) ?_
  refine lv_iconst (v := nI 0) hx hb dX0_term_5 (by decide) ?_
  refine ctR_V (As := [.int (nI i), .int (nI 0)]) (rest := []) (r := .int (nI (pt q i 0))) ⟨hx, hb, hml, hown, hts⟩ (c_X3_part l D cI cZ ad q sm pr op iv hF tr ro hT i 0 (by omega) (by omega)) (cwV 2 hts gX0_term_X3_part rfl rfl rfl hdV_X3_part ⟨Nat.le_of_ble_eq_true rfl, Nat.le_of_ble_eq_true rfl⟩) hK hN hP [0, 1, 2, 3, 4, 5, 6, 7] rfl 5 3 rfl rfl rfl hl.1 rfl (Nat.le_of_ble_eq_true rfl) ⟨Nat.zero_le _, Nat.zero_le _⟩ dX0_term_6 ?_
  have hh_1 : pt q i 0 < q := pt_lt hF.1 (by omega) (by omega)
  refine lv_istore_n (lv' := [(3, .int (nI (pt q i 0))), (0, .ref (ad 12)), (1, .int (nI i)), (2, .int (nI 2))]) hx hb dX0_term_9 rfl hl (by decide) rfl (fun ls hl => ?_)
  refine lv_aload_n hx hb dX0_term_10 rfl (lv_at hl 1 rfl) ?_
  refine va_get (D := D) (ci := 0) (v := .ref (ad 5)) (C := RX0) (T := TX0) (N := 5) hx hb hts hiX0 hown hK hP 8 rfl rfl 0 (by decide) hf21 (fun _ h9 => h9) rfl dX0_term_11 ?_
  refine lv_iload_n hx hb dX0_term_14 rfl (lv_at hl 2 rfl) ?_
  refine lv_iconst (v := nI 1) hx hb dX0_term_15 (by decide) ?_
  refine ctR_V (As := [.int (nI i), .int (nI 1)]) (rest := []) (r := .int (nI (pt q i 1))) ⟨hx, hb, hml, hown, hts⟩ (c_X3_part l D cI cZ ad q sm pr op iv hF tr ro hT i 1 (by omega) (by omega)) (cwV 2 hts gX0_term_X3_part rfl rfl rfl hdV_X3_part ⟨Nat.le_of_ble_eq_true rfl, Nat.le_of_ble_eq_true rfl⟩) hK hN hP [0, 1, 2, 3, 4, 5, 6, 7] rfl 5 3 rfl rfl rfl hl.1 rfl (Nat.le_of_ble_eq_true rfl) ⟨Nat.zero_le _, Nat.zero_le _⟩ dX0_term_16 ?_
  have hh_2 : pt q i 1 < q := pt_lt hF.1 (by omega) (by omega)
  refine lv_istore (lv' := [(4, .int (nI (pt q i 1))), (3, .int (nI (pt q i 0))), (0, .ref (ad 12)), (1, .int (nI i)), (2, .int (nI 2))]) hx hb dX0_term_19 hl (by decide) rfl (fun ls hl => ?_)
  refine lv_aload_n hx hb dX0_term_21 rfl (lv_at hl 2 rfl) ?_
  refine va_get (D := D) (ci := 0) (v := .ref (ad 5)) (C := RX0) (T := TX0) (N := 5) hx hb hts hiX0 hown hK hP 8 rfl rfl 0 (by decide) hf21 (fun _ h9 => h9) rfl dX0_term_22 ?_
  refine lv_iload_n hx hb dX0_term_25 rfl (lv_at hl 3 rfl) ?_
  refine lv_iconst (v := nI 2) hx hb dX0_term_26 (by decide) ?_
  refine ctR_V (As := [.int (nI i), .int (nI 2)]) (rest := []) (r := .int (nI (pt q i 2))) ⟨hx, hb, hml, hown, hts⟩ (c_X3_part l D cI cZ ad q sm pr op iv hF tr ro hT i 2 (by omega) (by omega)) (cwV 2 hts gX0_term_X3_part rfl rfl rfl hdV_X3_part ⟨Nat.le_of_ble_eq_true rfl, Nat.le_of_ble_eq_true rfl⟩) hK hN hP [0, 1, 2, 3, 4, 5, 6, 7] rfl 5 3 rfl rfl rfl hl.1 rfl (Nat.le_of_ble_eq_true rfl) ⟨Nat.zero_le _, Nat.zero_le _⟩ dX0_term_27 ?_
  have hh_3 : pt q i 2 < q := pt_lt hF.1 (by omega) (by omega)
  refine lv_istore (lv' := [(5, .int (nI (pt q i 2))), (4, .int (nI (pt q i 1))), (3, .int (nI (pt q i 0))), (0, .ref (ad 12)), (1, .int (nI i)), (2, .int (nI 2))]) hx hb dX0_term_30 hl (by decide) rfl (fun ls hl => ?_)
  refine lv_iload_n hx hb dX0_term_32 rfl (lv_at hl 5 rfl) ?_
  refine lv_tableIn (tgt := 90) hx hb dX0_term_33 (by decide) (by decide) (by rfl) (by decide) ?_
  refine lv_aload_n hx hb dX0_term_90 rfl (lv_at hl 3 rfl) ?_
  refine va_get (D := D) (ci := 0) (v := .ref (ad 0)) (C := RX0) (T := TX0) (N := 5) hx hb hts hiX0 hown hK hP 8 rfl rfl 1 (by decide) hf31 (fun _ h9 => h9) rfl dX0_term_91 ?_
  refine lv_iload hx hb dX0_term_94 (lv_at hl 0 rfl) ?_
  refine lv_iload hx hb dX0_term_96 (lv_at hl 0 rfl) ?_
  refine ctR_V (As := [.int (nI (pt q i 2)), .int (nI (pt q i 2))]) (rest := []) (r := .int (nI (fmul q (pt q i 2) (pt q i 2)))) ⟨hx, hb, hml, hown, hts⟩ (c_X1_times l D cI cZ ad q sm pr op iv hF (pt q i 2) (pt q i 2) (by omega) (by omega)) (cwV 2 hts gX0_term_X1_times rfl rfl rfl hdV_X1_times ⟨Nat.le_of_ble_eq_true rfl, Nat.le_of_ble_eq_true rfl⟩) hK hN hP [0, 1, 2, 3, 4] rfl 0 1 rfl rfl rfl hl.1 rfl (Nat.le_of_ble_eq_true rfl) ⟨Nat.zero_le _, Nat.zero_le _⟩ dX0_term_98 ?_
  have hh_4 : fmul q (pt q i 2) (pt q i 2) < q := fmul_lt hF.1 (by omega) (by omega)
  exact ctR_ret (v := (nI (fmul q (pt q i 2) (pt q i 2)))) hx hb hr rfl dX0_term_101 hlocks rfl

set_option maxHeartbeats 4000000 in
set_option maxRecDepth 100000 in
theorem c_X0_term_3 (l : Launch) (D : va_G) (cI cZ : ClassId) (ad : Nat → Nat) (q : Nat) (sm : Nat → Nat) (pr : Nat → Nat) (op : Nat → Nat) (iv : Nat → Nat) (hF : FOK q sm pr op iv) (tr : Nat → Nat) (ro : Nat → Nat) (hT : TOK q tr) (i : Nat) (k_1 : i < nn q) : CtR l yX0_term wsX0_term { frames := 1, cells := 0, slots := 0, locals := 22 } D (tyG cI cZ) [.ref (ad 12), .int (nI i), .int (nI 3)] [(ad 0, .inr (1, [.int (nI q), .ref (ad 1), .ref (ad 2), .ref (ad 3), .ref (ad 4)])), (ad 1, .inl (cI, 81, .inl (nF sm))), (ad 2, .inl (cI, 81, .inl (nF pr))), (ad 3, .inl (cI, 9, .inl (nF op))), (ad 4, .inl (cI, 9, .inl (nF iv))), (ad 5, .inr (3, [.ref (ad 0), .int (nI (nn q)), .ref (ad 6), .ref (ad 7)])), (ad 6, .inl (cI, 273, .inl (nF tr))), (ad 7, .inl (cI, 910, .inl (nF ro))), (ad 12, .inr (0, [.ref (ad 5), .ref (ad 0), .ref (ad 13), .ref (ad 14), .ref (ad 15)]))] (.int (nI (trm q i 3))) := by
  refine Met.ofW (cc := cX0_term) (maxL := 6) (ret := some .int) (by decide) rfl ?_
  intro p e s m args below meth c s₁ B hml hv
  obtain ⟨rfl, hP, hK, hN⟩ := hv
  have hx := B.exec
  have hb := B.bytes
  have hr := B.returns
  have hts := atoms_spec (ws := wsX0_term) B.pre
  have hown : s.vm.findClass RX0 = some m.cls := findClass_of_methodNamed B.named
  have hlocks := B.notSynchronized
  have hf21 := hts (.fieldLink RX0 21 "FinitePlanes$Conic" "plane" "LFinitePlanes$Plane;") (by decide +kernel)
  have hf31 := hts (.fieldLink RX0 31 "FinitePlanes$Conic" "field" "LFinitePlanes$Field;") (by decide +kernel)
  have hiX0 : ∀ w ∈ u_ws RX0 TX0 5, w ∈ wsX0_term := by decide +kernel
  have hl := lv_entry ([.ref (ad 12), .int (nI i), .int (nI 3)]) (n := 6) (Nat.le_of_ble_eq_true rfl)
  rw [lg_entry_eq]
  generalize (lg_sl ([.ref (ad 12), .int (nI i), .int (nI 3)]) ++ List.replicate (6 - (lg_sl ([.ref (ad 12), .int (nI i), .int (nI 3)])).length) Slot.unset).toArray = ls at hl ⊢
  have hl : lv_has ls 6 [(0, .ref (ad 12)), (1, .int (nI i)), (2, .int (nI 3))] := hl
  have hq2 := qs_le hF.1
  have hn2 := nn_le hF.1
  refine lv_aload_n hx hb dX0_term_0 rfl (lv_at hl 0 rfl) ?_
  refine va_get (D := D) (ci := 0) (v := .ref (ad 5)) (C := RX0) (T := TX0) (N := 5) hx hb hts hiX0 hown hK hP 8 rfl rfl 0 (by decide) hf21 (fun _ h9 => h9) rfl dX0_term_1 ?_
  refine lv_iload_n hx hb dX0_term_4 rfl (lv_at hl 1 rfl) ?_
  refine lv_iconst (v := nI 0) hx hb dX0_term_5 (by decide) ?_
  refine ctR_V (As := [.int (nI i), .int (nI 0)]) (rest := []) (r := .int (nI (pt q i 0))) ⟨hx, hb, hml, hown, hts⟩ (c_X3_part l D cI cZ ad q sm pr op iv hF tr ro hT i 0 (by omega) (by omega)) (cwV 2 hts gX0_term_X3_part rfl rfl rfl hdV_X3_part ⟨Nat.le_of_ble_eq_true rfl, Nat.le_of_ble_eq_true rfl⟩) hK hN hP [0, 1, 2, 3, 4, 5, 6, 7] rfl 5 3 rfl rfl rfl hl.1 rfl (Nat.le_of_ble_eq_true rfl) ⟨Nat.zero_le _, Nat.zero_le _⟩ dX0_term_6 ?_
  have hh_1 : pt q i 0 < q := pt_lt hF.1 (by omega) (by omega)
  refine lv_istore_n (lv' := [(3, .int (nI (pt q i 0))), (0, .ref (ad 12)), (1, .int (nI i)), (2, .int (nI 3))]) hx hb dX0_term_9 rfl hl (by decide) rfl (fun ls hl => ?_)
  refine lv_aload_n hx hb dX0_term_10 rfl (lv_at hl 1 rfl) ?_
  refine va_get (D := D) (ci := 0) (v := .ref (ad 5)) (C := RX0) (T := TX0) (N := 5) hx hb hts hiX0 hown hK hP 8 rfl rfl 0 (by decide) hf21 (fun _ h9 => h9) rfl dX0_term_11 ?_
  refine lv_iload_n hx hb dX0_term_14 rfl (lv_at hl 2 rfl) ?_
  refine lv_iconst (v := nI 1) hx hb dX0_term_15 (by decide) ?_
  refine ctR_V (As := [.int (nI i), .int (nI 1)]) (rest := []) (r := .int (nI (pt q i 1))) ⟨hx, hb, hml, hown, hts⟩ (c_X3_part l D cI cZ ad q sm pr op iv hF tr ro hT i 1 (by omega) (by omega)) (cwV 2 hts gX0_term_X3_part rfl rfl rfl hdV_X3_part ⟨Nat.le_of_ble_eq_true rfl, Nat.le_of_ble_eq_true rfl⟩) hK hN hP [0, 1, 2, 3, 4, 5, 6, 7] rfl 5 3 rfl rfl rfl hl.1 rfl (Nat.le_of_ble_eq_true rfl) ⟨Nat.zero_le _, Nat.zero_le _⟩ dX0_term_16 ?_
  have hh_2 : pt q i 1 < q := pt_lt hF.1 (by omega) (by omega)
  refine lv_istore (lv' := [(4, .int (nI (pt q i 1))), (3, .int (nI (pt q i 0))), (0, .ref (ad 12)), (1, .int (nI i)), (2, .int (nI 3))]) hx hb dX0_term_19 hl (by decide) rfl (fun ls hl => ?_)
  refine lv_aload_n hx hb dX0_term_21 rfl (lv_at hl 2 rfl) ?_
  refine va_get (D := D) (ci := 0) (v := .ref (ad 5)) (C := RX0) (T := TX0) (N := 5) hx hb hts hiX0 hown hK hP 8 rfl rfl 0 (by decide) hf21 (fun _ h9 => h9) rfl dX0_term_22 ?_
  refine lv_iload_n hx hb dX0_term_25 rfl (lv_at hl 3 rfl) ?_
  refine lv_iconst (v := nI 2) hx hb dX0_term_26 (by decide) ?_
  refine ctR_V (As := [.int (nI i), .int (nI 2)]) (rest := []) (r := .int (nI (pt q i 2))) ⟨hx, hb, hml, hown, hts⟩ (c_X3_part l D cI cZ ad q sm pr op iv hF tr ro hT i 2 (by omega) (by omega)) (cwV 2 hts gX0_term_X3_part rfl rfl rfl hdV_X3_part ⟨Nat.le_of_ble_eq_true rfl, Nat.le_of_ble_eq_true rfl⟩) hK hN hP [0, 1, 2, 3, 4, 5, 6, 7] rfl 5 3 rfl rfl rfl hl.1 rfl (Nat.le_of_ble_eq_true rfl) ⟨Nat.zero_le _, Nat.zero_le _⟩ dX0_term_27 ?_
  have hh_3 : pt q i 2 < q := pt_lt hF.1 (by omega) (by omega)
  refine lv_istore (lv' := [(5, .int (nI (pt q i 2))), (4, .int (nI (pt q i 1))), (3, .int (nI (pt q i 0))), (0, .ref (ad 12)), (1, .int (nI i)), (2, .int (nI 3))]) hx hb dX0_term_30 hl (by decide) rfl (fun ls hl => ?_)
  refine lv_iload_n hx hb dX0_term_32 rfl (lv_at hl 5 rfl) ?_
  refine lv_tableIn (tgt := 102) hx hb dX0_term_33 (by decide) (by decide) (by rfl) (by decide) ?_
  refine lv_aload_n hx hb dX0_term_102 rfl (lv_at hl 3 rfl) ?_
  refine va_get (D := D) (ci := 0) (v := .ref (ad 0)) (C := RX0) (T := TX0) (N := 5) hx hb hts hiX0 hown hK hP 8 rfl rfl 1 (by decide) hf31 (fun _ h9 => h9) rfl dX0_term_103 ?_
  refine lv_iload hx hb dX0_term_106 (lv_at hl 1 rfl) ?_
  refine lv_iload hx hb dX0_term_108 (lv_at hl 0 rfl) ?_
  refine ctR_V (As := [.int (nI (pt q i 1)), .int (nI (pt q i 2))]) (rest := []) (r := .int (nI (fmul q (pt q i 1) (pt q i 2)))) ⟨hx, hb, hml, hown, hts⟩ (c_X1_times l D cI cZ ad q sm pr op iv hF (pt q i 1) (pt q i 2) (by omega) (by omega)) (cwV 2 hts gX0_term_X1_times rfl rfl rfl hdV_X1_times ⟨Nat.le_of_ble_eq_true rfl, Nat.le_of_ble_eq_true rfl⟩) hK hN hP [0, 1, 2, 3, 4] rfl 0 1 rfl rfl rfl hl.1 rfl (Nat.le_of_ble_eq_true rfl) ⟨Nat.zero_le _, Nat.zero_le _⟩ dX0_term_110 ?_
  have hh_4 : fmul q (pt q i 1) (pt q i 2) < q := fmul_lt hF.1 (by omega) (by omega)
  exact ctR_ret (v := (nI (fmul q (pt q i 1) (pt q i 2)))) hx hb hr rfl dX0_term_113 hlocks rfl

set_option maxHeartbeats 4000000 in
set_option maxRecDepth 100000 in
theorem c_X0_term_4 (l : Launch) (D : va_G) (cI cZ : ClassId) (ad : Nat → Nat) (q : Nat) (sm : Nat → Nat) (pr : Nat → Nat) (op : Nat → Nat) (iv : Nat → Nat) (hF : FOK q sm pr op iv) (tr : Nat → Nat) (ro : Nat → Nat) (hT : TOK q tr) (i : Nat) (k_1 : i < nn q) : CtR l yX0_term wsX0_term { frames := 1, cells := 0, slots := 0, locals := 22 } D (tyG cI cZ) [.ref (ad 12), .int (nI i), .int (nI 4)] [(ad 0, .inr (1, [.int (nI q), .ref (ad 1), .ref (ad 2), .ref (ad 3), .ref (ad 4)])), (ad 1, .inl (cI, 81, .inl (nF sm))), (ad 2, .inl (cI, 81, .inl (nF pr))), (ad 3, .inl (cI, 9, .inl (nF op))), (ad 4, .inl (cI, 9, .inl (nF iv))), (ad 5, .inr (3, [.ref (ad 0), .int (nI (nn q)), .ref (ad 6), .ref (ad 7)])), (ad 6, .inl (cI, 273, .inl (nF tr))), (ad 7, .inl (cI, 910, .inl (nF ro))), (ad 12, .inr (0, [.ref (ad 5), .ref (ad 0), .ref (ad 13), .ref (ad 14), .ref (ad 15)]))] (.int (nI (trm q i 4))) := by
  refine Met.ofW (cc := cX0_term) (maxL := 6) (ret := some .int) (by decide) rfl ?_
  intro p e s m args below meth c s₁ B hml hv
  obtain ⟨rfl, hP, hK, hN⟩ := hv
  have hx := B.exec
  have hb := B.bytes
  have hr := B.returns
  have hts := atoms_spec (ws := wsX0_term) B.pre
  have hown : s.vm.findClass RX0 = some m.cls := findClass_of_methodNamed B.named
  have hlocks := B.notSynchronized
  have hf21 := hts (.fieldLink RX0 21 "FinitePlanes$Conic" "plane" "LFinitePlanes$Plane;") (by decide +kernel)
  have hf31 := hts (.fieldLink RX0 31 "FinitePlanes$Conic" "field" "LFinitePlanes$Field;") (by decide +kernel)
  have hiX0 : ∀ w ∈ u_ws RX0 TX0 5, w ∈ wsX0_term := by decide +kernel
  have hl := lv_entry ([.ref (ad 12), .int (nI i), .int (nI 4)]) (n := 6) (Nat.le_of_ble_eq_true rfl)
  rw [lg_entry_eq]
  generalize (lg_sl ([.ref (ad 12), .int (nI i), .int (nI 4)]) ++ List.replicate (6 - (lg_sl ([.ref (ad 12), .int (nI i), .int (nI 4)])).length) Slot.unset).toArray = ls at hl ⊢
  have hl : lv_has ls 6 [(0, .ref (ad 12)), (1, .int (nI i)), (2, .int (nI 4))] := hl
  have hq2 := qs_le hF.1
  have hn2 := nn_le hF.1
  refine lv_aload_n hx hb dX0_term_0 rfl (lv_at hl 0 rfl) ?_
  refine va_get (D := D) (ci := 0) (v := .ref (ad 5)) (C := RX0) (T := TX0) (N := 5) hx hb hts hiX0 hown hK hP 8 rfl rfl 0 (by decide) hf21 (fun _ h9 => h9) rfl dX0_term_1 ?_
  refine lv_iload_n hx hb dX0_term_4 rfl (lv_at hl 1 rfl) ?_
  refine lv_iconst (v := nI 0) hx hb dX0_term_5 (by decide) ?_
  refine ctR_V (As := [.int (nI i), .int (nI 0)]) (rest := []) (r := .int (nI (pt q i 0))) ⟨hx, hb, hml, hown, hts⟩ (c_X3_part l D cI cZ ad q sm pr op iv hF tr ro hT i 0 (by omega) (by omega)) (cwV 2 hts gX0_term_X3_part rfl rfl rfl hdV_X3_part ⟨Nat.le_of_ble_eq_true rfl, Nat.le_of_ble_eq_true rfl⟩) hK hN hP [0, 1, 2, 3, 4, 5, 6, 7] rfl 5 3 rfl rfl rfl hl.1 rfl (Nat.le_of_ble_eq_true rfl) ⟨Nat.zero_le _, Nat.zero_le _⟩ dX0_term_6 ?_
  have hh_1 : pt q i 0 < q := pt_lt hF.1 (by omega) (by omega)
  refine lv_istore_n (lv' := [(3, .int (nI (pt q i 0))), (0, .ref (ad 12)), (1, .int (nI i)), (2, .int (nI 4))]) hx hb dX0_term_9 rfl hl (by decide) rfl (fun ls hl => ?_)
  refine lv_aload_n hx hb dX0_term_10 rfl (lv_at hl 1 rfl) ?_
  refine va_get (D := D) (ci := 0) (v := .ref (ad 5)) (C := RX0) (T := TX0) (N := 5) hx hb hts hiX0 hown hK hP 8 rfl rfl 0 (by decide) hf21 (fun _ h9 => h9) rfl dX0_term_11 ?_
  refine lv_iload_n hx hb dX0_term_14 rfl (lv_at hl 2 rfl) ?_
  refine lv_iconst (v := nI 1) hx hb dX0_term_15 (by decide) ?_
  refine ctR_V (As := [.int (nI i), .int (nI 1)]) (rest := []) (r := .int (nI (pt q i 1))) ⟨hx, hb, hml, hown, hts⟩ (c_X3_part l D cI cZ ad q sm pr op iv hF tr ro hT i 1 (by omega) (by omega)) (cwV 2 hts gX0_term_X3_part rfl rfl rfl hdV_X3_part ⟨Nat.le_of_ble_eq_true rfl, Nat.le_of_ble_eq_true rfl⟩) hK hN hP [0, 1, 2, 3, 4, 5, 6, 7] rfl 5 3 rfl rfl rfl hl.1 rfl (Nat.le_of_ble_eq_true rfl) ⟨Nat.zero_le _, Nat.zero_le _⟩ dX0_term_16 ?_
  have hh_2 : pt q i 1 < q := pt_lt hF.1 (by omega) (by omega)
  refine lv_istore (lv' := [(4, .int (nI (pt q i 1))), (3, .int (nI (pt q i 0))), (0, .ref (ad 12)), (1, .int (nI i)), (2, .int (nI 4))]) hx hb dX0_term_19 hl (by decide) rfl (fun ls hl => ?_)
  refine lv_aload_n hx hb dX0_term_21 rfl (lv_at hl 2 rfl) ?_
  refine va_get (D := D) (ci := 0) (v := .ref (ad 5)) (C := RX0) (T := TX0) (N := 5) hx hb hts hiX0 hown hK hP 8 rfl rfl 0 (by decide) hf21 (fun _ h9 => h9) rfl dX0_term_22 ?_
  refine lv_iload_n hx hb dX0_term_25 rfl (lv_at hl 3 rfl) ?_
  refine lv_iconst (v := nI 2) hx hb dX0_term_26 (by decide) ?_
  refine ctR_V (As := [.int (nI i), .int (nI 2)]) (rest := []) (r := .int (nI (pt q i 2))) ⟨hx, hb, hml, hown, hts⟩ (c_X3_part l D cI cZ ad q sm pr op iv hF tr ro hT i 2 (by omega) (by omega)) (cwV 2 hts gX0_term_X3_part rfl rfl rfl hdV_X3_part ⟨Nat.le_of_ble_eq_true rfl, Nat.le_of_ble_eq_true rfl⟩) hK hN hP [0, 1, 2, 3, 4, 5, 6, 7] rfl 5 3 rfl rfl rfl hl.1 rfl (Nat.le_of_ble_eq_true rfl) ⟨Nat.zero_le _, Nat.zero_le _⟩ dX0_term_27 ?_
  have hh_3 : pt q i 2 < q := pt_lt hF.1 (by omega) (by omega)
  refine lv_istore (lv' := [(5, .int (nI (pt q i 2))), (4, .int (nI (pt q i 1))), (3, .int (nI (pt q i 0))), (0, .ref (ad 12)), (1, .int (nI i)), (2, .int (nI 4))]) hx hb dX0_term_30 hl (by decide) rfl (fun ls hl => ?_)
  refine lv_iload_n hx hb dX0_term_32 rfl (lv_at hl 5 rfl) ?_
  refine lv_tableIn (tgt := 114) hx hb dX0_term_33 (by decide) (by decide) (by rfl) (by decide) ?_
  refine lv_aload_n hx hb dX0_term_114 rfl (lv_at hl 3 rfl) ?_
  refine va_get (D := D) (ci := 0) (v := .ref (ad 0)) (C := RX0) (T := TX0) (N := 5) hx hb hts hiX0 hown hK hP 8 rfl rfl 1 (by decide) hf31 (fun _ h9 => h9) rfl dX0_term_115 ?_
  refine lv_iload_n hx hb dX0_term_118 rfl (lv_at hl 2 rfl) ?_
  refine lv_iload hx hb dX0_term_119 (lv_at hl 0 rfl) ?_
  refine ctR_V (As := [.int (nI (pt q i 0)), .int (nI (pt q i 2))]) (rest := []) (r := .int (nI (fmul q (pt q i 0) (pt q i 2)))) ⟨hx, hb, hml, hown, hts⟩ (c_X1_times l D cI cZ ad q sm pr op iv hF (pt q i 0) (pt q i 2) (by omega) (by omega)) (cwV 2 hts gX0_term_X1_times rfl rfl rfl hdV_X1_times ⟨Nat.le_of_ble_eq_true rfl, Nat.le_of_ble_eq_true rfl⟩) hK hN hP [0, 1, 2, 3, 4] rfl 0 1 rfl rfl rfl hl.1 rfl (Nat.le_of_ble_eq_true rfl) ⟨Nat.zero_le _, Nat.zero_le _⟩ dX0_term_121 ?_
  have hh_4 : fmul q (pt q i 0) (pt q i 2) < q := fmul_lt hF.1 (by omega) (by omega)
  exact ctR_ret (v := (nI (fmul q (pt q i 0) (pt q i 2)))) hx hb hr rfl dX0_term_124 hlocks rfl

set_option maxHeartbeats 4000000 in
set_option maxRecDepth 100000 in
theorem c_X0_term_5 (l : Launch) (D : va_G) (cI cZ : ClassId) (ad : Nat → Nat) (q : Nat) (sm : Nat → Nat) (pr : Nat → Nat) (op : Nat → Nat) (iv : Nat → Nat) (hF : FOK q sm pr op iv) (tr : Nat → Nat) (ro : Nat → Nat) (hT : TOK q tr) (i : Nat) (k_1 : i < nn q) : CtR l yX0_term wsX0_term { frames := 1, cells := 0, slots := 0, locals := 22 } D (tyG cI cZ) [.ref (ad 12), .int (nI i), .int (nI 5)] [(ad 0, .inr (1, [.int (nI q), .ref (ad 1), .ref (ad 2), .ref (ad 3), .ref (ad 4)])), (ad 1, .inl (cI, 81, .inl (nF sm))), (ad 2, .inl (cI, 81, .inl (nF pr))), (ad 3, .inl (cI, 9, .inl (nF op))), (ad 4, .inl (cI, 9, .inl (nF iv))), (ad 5, .inr (3, [.ref (ad 0), .int (nI (nn q)), .ref (ad 6), .ref (ad 7)])), (ad 6, .inl (cI, 273, .inl (nF tr))), (ad 7, .inl (cI, 910, .inl (nF ro))), (ad 12, .inr (0, [.ref (ad 5), .ref (ad 0), .ref (ad 13), .ref (ad 14), .ref (ad 15)]))] (.int (nI (trm q i 5))) := by
  refine Met.ofW (cc := cX0_term) (maxL := 6) (ret := some .int) (by decide) rfl ?_
  intro p e s m args below meth c s₁ B hml hv
  obtain ⟨rfl, hP, hK, hN⟩ := hv
  have hx := B.exec
  have hb := B.bytes
  have hr := B.returns
  have hts := atoms_spec (ws := wsX0_term) B.pre
  have hown : s.vm.findClass RX0 = some m.cls := findClass_of_methodNamed B.named
  have hlocks := B.notSynchronized
  have hf21 := hts (.fieldLink RX0 21 "FinitePlanes$Conic" "plane" "LFinitePlanes$Plane;") (by decide +kernel)
  have hf31 := hts (.fieldLink RX0 31 "FinitePlanes$Conic" "field" "LFinitePlanes$Field;") (by decide +kernel)
  have hiX0 : ∀ w ∈ u_ws RX0 TX0 5, w ∈ wsX0_term := by decide +kernel
  have hl := lv_entry ([.ref (ad 12), .int (nI i), .int (nI 5)]) (n := 6) (Nat.le_of_ble_eq_true rfl)
  rw [lg_entry_eq]
  generalize (lg_sl ([.ref (ad 12), .int (nI i), .int (nI 5)]) ++ List.replicate (6 - (lg_sl ([.ref (ad 12), .int (nI i), .int (nI 5)])).length) Slot.unset).toArray = ls at hl ⊢
  have hl : lv_has ls 6 [(0, .ref (ad 12)), (1, .int (nI i)), (2, .int (nI 5))] := hl
  have hq2 := qs_le hF.1
  have hn2 := nn_le hF.1
  refine lv_aload_n hx hb dX0_term_0 rfl (lv_at hl 0 rfl) ?_
  refine va_get (D := D) (ci := 0) (v := .ref (ad 5)) (C := RX0) (T := TX0) (N := 5) hx hb hts hiX0 hown hK hP 8 rfl rfl 0 (by decide) hf21 (fun _ h9 => h9) rfl dX0_term_1 ?_
  refine lv_iload_n hx hb dX0_term_4 rfl (lv_at hl 1 rfl) ?_
  refine lv_iconst (v := nI 0) hx hb dX0_term_5 (by decide) ?_
  refine ctR_V (As := [.int (nI i), .int (nI 0)]) (rest := []) (r := .int (nI (pt q i 0))) ⟨hx, hb, hml, hown, hts⟩ (c_X3_part l D cI cZ ad q sm pr op iv hF tr ro hT i 0 (by omega) (by omega)) (cwV 2 hts gX0_term_X3_part rfl rfl rfl hdV_X3_part ⟨Nat.le_of_ble_eq_true rfl, Nat.le_of_ble_eq_true rfl⟩) hK hN hP [0, 1, 2, 3, 4, 5, 6, 7] rfl 5 3 rfl rfl rfl hl.1 rfl (Nat.le_of_ble_eq_true rfl) ⟨Nat.zero_le _, Nat.zero_le _⟩ dX0_term_6 ?_
  have hh_1 : pt q i 0 < q := pt_lt hF.1 (by omega) (by omega)
  refine lv_istore_n (lv' := [(3, .int (nI (pt q i 0))), (0, .ref (ad 12)), (1, .int (nI i)), (2, .int (nI 5))]) hx hb dX0_term_9 rfl hl (by decide) rfl (fun ls hl => ?_)
  refine lv_aload_n hx hb dX0_term_10 rfl (lv_at hl 1 rfl) ?_
  refine va_get (D := D) (ci := 0) (v := .ref (ad 5)) (C := RX0) (T := TX0) (N := 5) hx hb hts hiX0 hown hK hP 8 rfl rfl 0 (by decide) hf21 (fun _ h9 => h9) rfl dX0_term_11 ?_
  refine lv_iload_n hx hb dX0_term_14 rfl (lv_at hl 2 rfl) ?_
  refine lv_iconst (v := nI 1) hx hb dX0_term_15 (by decide) ?_
  refine ctR_V (As := [.int (nI i), .int (nI 1)]) (rest := []) (r := .int (nI (pt q i 1))) ⟨hx, hb, hml, hown, hts⟩ (c_X3_part l D cI cZ ad q sm pr op iv hF tr ro hT i 1 (by omega) (by omega)) (cwV 2 hts gX0_term_X3_part rfl rfl rfl hdV_X3_part ⟨Nat.le_of_ble_eq_true rfl, Nat.le_of_ble_eq_true rfl⟩) hK hN hP [0, 1, 2, 3, 4, 5, 6, 7] rfl 5 3 rfl rfl rfl hl.1 rfl (Nat.le_of_ble_eq_true rfl) ⟨Nat.zero_le _, Nat.zero_le _⟩ dX0_term_16 ?_
  have hh_2 : pt q i 1 < q := pt_lt hF.1 (by omega) (by omega)
  refine lv_istore (lv' := [(4, .int (nI (pt q i 1))), (3, .int (nI (pt q i 0))), (0, .ref (ad 12)), (1, .int (nI i)), (2, .int (nI 5))]) hx hb dX0_term_19 hl (by decide) rfl (fun ls hl => ?_)
  refine lv_aload_n hx hb dX0_term_21 rfl (lv_at hl 2 rfl) ?_
  refine va_get (D := D) (ci := 0) (v := .ref (ad 5)) (C := RX0) (T := TX0) (N := 5) hx hb hts hiX0 hown hK hP 8 rfl rfl 0 (by decide) hf21 (fun _ h9 => h9) rfl dX0_term_22 ?_
  refine lv_iload_n hx hb dX0_term_25 rfl (lv_at hl 3 rfl) ?_
  refine lv_iconst (v := nI 2) hx hb dX0_term_26 (by decide) ?_
  refine ctR_V (As := [.int (nI i), .int (nI 2)]) (rest := []) (r := .int (nI (pt q i 2))) ⟨hx, hb, hml, hown, hts⟩ (c_X3_part l D cI cZ ad q sm pr op iv hF tr ro hT i 2 (by omega) (by omega)) (cwV 2 hts gX0_term_X3_part rfl rfl rfl hdV_X3_part ⟨Nat.le_of_ble_eq_true rfl, Nat.le_of_ble_eq_true rfl⟩) hK hN hP [0, 1, 2, 3, 4, 5, 6, 7] rfl 5 3 rfl rfl rfl hl.1 rfl (Nat.le_of_ble_eq_true rfl) ⟨Nat.zero_le _, Nat.zero_le _⟩ dX0_term_27 ?_
  have hh_3 : pt q i 2 < q := pt_lt hF.1 (by omega) (by omega)
  refine lv_istore (lv' := [(5, .int (nI (pt q i 2))), (4, .int (nI (pt q i 1))), (3, .int (nI (pt q i 0))), (0, .ref (ad 12)), (1, .int (nI i)), (2, .int (nI 5))]) hx hb dX0_term_30 hl (by decide) rfl (fun ls hl => ?_)
  refine lv_iload_n hx hb dX0_term_32 rfl (lv_at hl 5 rfl) ?_
  refine lv_tableOut (tgt := 125) hx hb dX0_term_33 (by decide) (by decide) ?_
  refine lv_aload_n hx hb dX0_term_125 rfl (lv_at hl 3 rfl) ?_
  refine va_get (D := D) (ci := 0) (v := .ref (ad 0)) (C := RX0) (T := TX0) (N := 5) hx hb hts hiX0 hown hK hP 8 rfl rfl 1 (by decide) hf31 (fun _ h9 => h9) rfl dX0_term_126 ?_
  refine lv_iload_n hx hb dX0_term_129 rfl (lv_at hl 2 rfl) ?_
  refine lv_iload hx hb dX0_term_130 (lv_at hl 1 rfl) ?_
  refine ctR_V (As := [.int (nI (pt q i 0)), .int (nI (pt q i 1))]) (rest := []) (r := .int (nI (fmul q (pt q i 0) (pt q i 1)))) ⟨hx, hb, hml, hown, hts⟩ (c_X1_times l D cI cZ ad q sm pr op iv hF (pt q i 0) (pt q i 1) (by omega) (by omega)) (cwV 2 hts gX0_term_X1_times rfl rfl rfl hdV_X1_times ⟨Nat.le_of_ble_eq_true rfl, Nat.le_of_ble_eq_true rfl⟩) hK hN hP [0, 1, 2, 3, 4] rfl 0 1 rfl rfl rfl hl.1 rfl (Nat.le_of_ble_eq_true rfl) ⟨Nat.zero_le _, Nat.zero_le _⟩ dX0_term_132 ?_
  have hh_4 : fmul q (pt q i 0) (pt q i 1) < q := fmul_lt hF.1 (by omega) (by omega)
  exact ctR_ret (v := (nI (fmul q (pt q i 0) (pt q i 1)))) hx hb hr rfl dX0_term_135 hlocks rfl

set_option maxHeartbeats 4000000 in
set_option maxRecDepth 100000 in
theorem c_X0_copyPointsTo (l : Launch) (D : va_G) (cI cZ : ClassId) (ad : Nat → Nat) (q : Nat) (sm : Nat → Nat) (pr : Nat → Nat) (op : Nat → Nat) (iv : Nat → Nat) (hF : FOK q sm pr op iv) (tr : Nat → Nat) (ro : Nat → Nat) (hT : TOK q tr) (nb : Nat → Nat) (mx : Nat → Nat) (pv : Nat → Nat) (aS : Nat) (S : Nat → Bool) (k_n : ∀ t, t < 6 → nb t < q) : CtW (S := (Nat → Bool)) l yX0_copyPointsTo wsX0_copyPointsTo { frames := 2, cells := 0, slots := 0, locals := 47 } D (tyG cI cZ) [.ref (ad 12), .ref aS] [(ad 0, .inr (1, [.int (nI q), .ref (ad 1), .ref (ad 2), .ref (ad 3), .ref (ad 4)])), (ad 1, .inl (cI, 81, .inl (nF sm))), (ad 2, .inl (cI, 81, .inl (nF pr))), (ad 3, .inl (cI, 9, .inl (nF op))), (ad 4, .inl (cI, 9, .inl (nF iv))), (ad 5, .inr (3, [.ref (ad 0), .int (nI (nn q)), .ref (ad 6), .ref (ad 7)])), (ad 6, .inl (cI, 273, .inl (nF tr))), (ad 7, .inl (cI, 910, .inl (nF ro))), (ad 12, .inr (0, [.ref (ad 5), .ref (ad 0), .ref (ad 13), .ref (ad 14), .ref (ad 15)])), (ad 13, .inl (cI, 6, .inl (nF nb))), (aS, .inl (cZ, 91, .inl (bF S)))] (fun (S3 : Nat → Bool) => ∀ t, t < nn q → S3 t = (crv q nb t == 0)) (fun (S3 : Nat → Bool) => none) (fun (S3 : Nat → Bool) => [(ad 0, .inr (1, [.int (nI q), .ref (ad 1), .ref (ad 2), .ref (ad 3), .ref (ad 4)])), (ad 1, .inl (cI, 81, .inl (nF sm))), (ad 2, .inl (cI, 81, .inl (nF pr))), (ad 3, .inl (cI, 9, .inl (nF op))), (ad 4, .inl (cI, 9, .inl (nF iv))), (ad 5, .inr (3, [.ref (ad 0), .int (nI (nn q)), .ref (ad 6), .ref (ad 7)])), (ad 6, .inl (cI, 273, .inl (nF tr))), (ad 7, .inl (cI, 910, .inl (nF ro))), (ad 12, .inr (0, [.ref (ad 5), .ref (ad 0), .ref (ad 13), .ref (ad 14), .ref (ad 15)])), (ad 13, .inl (cI, 6, .inl (nF nb))), (aS, .inl (cZ, 91, .inl (bF S3)))]) := by
  intro sz; refine Met.ofW (cc := cX0_copyPointsTo) (maxL := 5) (ret := none) (by decide) rfl ?_
  intro p e s m args below meth c s₁ B hml hv
  obtain ⟨rfl, hsz, hP, hK, hD0, hN⟩ := hv
  have hx := B.exec
  have hb := B.bytes
  have hr := B.returns
  have hts := atoms_spec (ws := wsX0_copyPointsTo) B.pre
  have hown : s.vm.findClass RX0 = some m.cls := findClass_of_methodNamed B.named
  have hlocks := B.notSynchronized
  subst hsz
  have hD := hD0.self (sz := s.heap.size)
  generalize hAe : va_A [(ad 0, .inr (1, [.int (nI q), .ref (ad 1), .ref (ad 2), .ref (ad 3), .ref (ad 4)])), (ad 1, .inl (cI, 81, .inl (nF sm))), (ad 2, .inl (cI, 81, .inl (nF pr))), (ad 3, .inl (cI, 9, .inl (nF op))), (ad 4, .inl (cI, 9, .inl (nF iv))), (ad 5, .inr (3, [.ref (ad 0), .int (nI (nn q)), .ref (ad 6), .ref (ad 7)])), (ad 6, .inl (cI, 273, .inl (nF tr))), (ad 7, .inl (cI, 910, .inl (nF ro))), (ad 12, .inr (0, [.ref (ad 5), .ref (ad 0), .ref (ad 13), .ref (ad 14), .ref (ad 15)])), (ad 13, .inl (cI, 6, .inl (nF nb))), (aS, .inl (cZ, 91, .inl (bF S)))] s.heap.size = A at hD ⊢
  have hA : ∀ q : Nat, s.heap.size ≤ q → A q := fun q h => by rw [← hAe]; exact Or.inr h
  have hS : va_S A s.heap s.heap [] := va_S.rf
  have hP : va_P D vwCl [(ad 0, .inr (1, [.int (nI q), .ref (ad 1), .ref (ad 2), .ref (ad 3), .ref (ad 4)])), (ad 1, .inl (cI, 81, .inl (nF sm))), (ad 2, .inl (cI, 81, .inl (nF pr))), (ad 3, .inl (cI, 9, .inl (nF op))), (ad 4, .inl (cI, 9, .inl (nF iv))), (ad 5, .inr (3, [.ref (ad 0), .int (nI (nn q)), .ref (ad 6), .ref (ad 7)])), (ad 6, .inl (cI, 273, .inl (nF tr))), (ad 7, .inl (cI, 910, .inl (nF ro))), (ad 12, .inr (0, [.ref (ad 5), .ref (ad 0), .ref (ad 13), .ref (ad 14), .ref (ad 15)])), (ad 13, .inl (cI, 6, .inl (nF nb))), (aS, .inl (cZ, 91, .inl (bF S)))] s.heap := hP
  have hf9 := hts (.fieldLink RX0 9 "FinitePlanes$Conic" "numbers" "[I") (by decide +kernel)
  have hf21 := hts (.fieldLink RX0 21 "FinitePlanes$Conic" "plane" "LFinitePlanes$Plane;") (by decide +kernel)
  have hf31 := hts (.fieldLink RX0 31 "FinitePlanes$Conic" "field" "LFinitePlanes$Field;") (by decide +kernel)
  have hf41 := hN.use (w := .fieldLinkNest RX0 41 "FinitePlanes$Plane" "n" "I" "FinitePlanes") (by decide +kernel) (A := [.ref (ad 12), .ref aS].toArray)
  have hiX0 : ∀ w ∈ u_ws RX0 TX0 5, w ∈ wsX0_copyPointsTo := by decide +kernel
  have hiX3 : ∀ w ∈ u_ws RX3 TX3 4, w ∈ wsX0_copyPointsTo := by decide +kernel
  have hl := lv_entry ([.ref (ad 12), .ref aS]) (n := 5) (Nat.le_of_ble_eq_true rfl)
  rw [lg_entry_eq]
  generalize (lg_sl ([.ref (ad 12), .ref aS]) ++ List.replicate (5 - (lg_sl ([.ref (ad 12), .ref aS])).length) Slot.unset).toArray = ls at hl ⊢
  have hl : lv_has ls 5 [(0, .ref (ad 12)), (1, .ref aS)] := hl
  have hq2 := qs_le hF.1
  have hn2 := nn_le hF.1
  refine lv_iconst (v := nI 0) hx hb dX0_copyPointsTo_0 (by decide) ?_
  refine lv_istore_n (lv' := [(2, .int (nI 0)), (0, .ref (ad 12)), (1, .ref aS)]) hx hb dX0_copyPointsTo_1 rfl hl (by decide) rfl (fun ls hl => ?_)
  have n0 := k_n 0 (by decide)
  have n1 := k_n 1 (by decide)
  have n2 := k_n 2 (by decide)
  have n3 := k_n 3 (by decide)
  have n4 := k_n 4 (by decide)
  have n5 := k_n 5 (by decide)
  have L2 : ∀ (N2 : Nat) (i : Nat) (S1 : Nat → Bool) (ls : Array Slot) (H : Heap) (locs : List Loc), nn q - i < N2 → (i ≤ nn q) → (∀ t, t < i → S1 t = (crv q nb t == 0)) → lv_has ls 5 [(0, .ref (ad 12)), (1, .ref aS), (2, .int (nI i))] → va_P D vwCl [(ad 0, .inr (1, [.int (nI q), .ref (ad 1), .ref (ad 2), .ref (ad 3), .ref (ad 4)])), (ad 1, .inl (cI, 81, .inl (nF sm))), (ad 2, .inl (cI, 81, .inl (nF pr))), (ad 3, .inl (cI, 9, .inl (nF op))), (ad 4, .inl (cI, 9, .inl (nF iv))), (ad 5, .inr (3, [.ref (ad 0), .int (nI (nn q)), .ref (ad 6), .ref (ad 7)])), (ad 6, .inl (cI, 273, .inl (nF tr))), (ad 7, .inl (cI, 910, .inl (nF ro))), (ad 12, .inr (0, [.ref (ad 5), .ref (ad 0), .ref (ad 13), .ref (ad 14), .ref (ad 15)])), (ad 13, .inl (cI, 6, .inl (nF nb))), (aS, .inl (cZ, 91, .inl (bF S1)))] H → va_D A [(ad 0, .inr (1, [.int (nI q), .ref (ad 1), .ref (ad 2), .ref (ad 3), .ref (ad 4)])), (ad 1, .inl (cI, 81, .inl (nF sm))), (ad 2, .inl (cI, 81, .inl (nF pr))), (ad 3, .inl (cI, 9, .inl (nF op))), (ad 4, .inl (cI, 9, .inl (nF iv))), (ad 5, .inr (3, [.ref (ad 0), .int (nI (nn q)), .ref (ad 6), .ref (ad 7)])), (ad 6, .inl (cI, 273, .inl (nF tr))), (ad 7, .inl (cI, 910, .inl (nF ro))), (ad 12, .inr (0, [.ref (ad 5), .ref (ad 0), .ref (ad 13), .ref (ad 14), .ref (ad 15)])), (ad 13, .inl (cI, 6, .inl (nF nb))), (aS, .inl (cZ, 91, .inl (bF S1)))] → va_S A s.heap H locs → WG p l e wsX0_copyPointsTo { frames := 2, cells := 0, slots := 0, locals := 47 } s m [.ref (ad 12), .ref aS] below meth c H locs (CQ (S := (Nat → Bool)) D (fun (S3 : Nat → Bool) => ∀ t, t < nn q → S3 t = (crv q nb t == 0)) (fun (S3 : Nat → Bool) => none) (fun (S3 : Nat → Bool) => [(ad 0, .inr (1, [.int (nI q), .ref (ad 1), .ref (ad 2), .ref (ad 3), .ref (ad 4)])), (ad 1, .inl (cI, 81, .inl (nF sm))), (ad 2, .inl (cI, 81, .inl (nF pr))), (ad 3, .inl (cI, 9, .inl (nF op))), (ad 4, .inl (cI, 9, .inl (nF iv))), (ad 5, .inr (3, [.ref (ad 0), .int (nI (nn q)), .ref (ad 6), .ref (ad 7)])), (ad 6, .inl (cI, 273, .inl (nF tr))), (ad 7, .inl (cI, 910, .inl (nF ro))), (ad 12, .inr (0, [.ref (ad 5), .ref (ad 0), .ref (ad 13), .ref (ad 14), .ref (ad 15)])), (ad 13, .inl (cI, 6, .inl (nF nb))), (aS, .inl (cZ, 91, .inl (bF S3)))]) A) A 2 ls [] := by
    intro N2
    induction N2 with
    | zero => intro i S1 ls H locs hN; exact absurd hN (Nat.not_lt_zero _)
    | succ N2 ih2 =>
      intro i S1 ls H locs hN2 k_i k_s hl hP hD hS
      have n0 := k_n 0 (by decide)
      have n1 := k_n 1 (by decide)
      have n2 := k_n 2 (by decide)
      have n3 := k_n 3 (by decide)
      have n4 := k_n 4 (by decide)
      have n5 := k_n 5 (by decide)
      refine lv_iload_n hx hb dX0_copyPointsTo_2 rfl (lv_at hl 2 rfl) ?_
      refine lv_aload_n hx hb dX0_copyPointsTo_3 rfl (lv_at hl 0 rfl) ?_
      refine va_get (D := D) (ci := 0) (v := .ref (ad 5)) (C := RX0) (T := TX0) (N := 5) hx hb hts hiX0 hown hK hP 8 rfl rfl 0 (by decide) hf21 (fun _ h9 => h9) rfl dX0_copyPointsTo_4 ?_
      refine va_getN (D := D) (ci := 3) (v := .int (nI (nn q))) (C := RX3) (T := TX3) (N := 4) hx hb hts hiX3 hown hK hP 5 rfl rfl 1 (by decide) hf41 (fun _ h9 => h9) rfl dX0_copyPointsTo_7 ?_
      refine nv_icmp_ge (tgt := 79) hx hb (by omega) (by omega) dX0_copyPointsTo_10 (by decide) (fun c10 => ?_) (fun c10 => ?_)
      · exact ctW_retV S1 hx hb hr dX0_copyPointsTo_79 hlocks hS hP hD (fun t ht => k_s t (by omega)) rfl
      · refine lv_iconst (v := nI 0) hx hb dX0_copyPointsTo_13 (by decide) ?_
        refine lv_istore_n (lv' := [(3, .int (nI 0)), (0, .ref (ad 12)), (1, .ref aS), (2, .int (nI i))]) hx hb dX0_copyPointsTo_14 rfl hl (by decide) rfl (fun ls hl => ?_)
        refine lv_iconst (v := nI 0) hx hb dX0_copyPointsTo_15 (by decide) ?_
        refine lv_istore (lv' := [(4, .int (nI 0)), (3, .int (nI 0)), (0, .ref (ad 12)), (1, .ref aS), (2, .int (nI i))]) hx hb dX0_copyPointsTo_16 hl (by decide) rfl (fun ls hl => ?_)
        refine lv_iload hx hb dX0_copyPointsTo_18 (lv_at hl 0 rfl) ?_
        refine lv_bipush (v := nI 6) hx hb dX0_copyPointsTo_20 (by decide) ?_
        refine nv_icmp_ge (tgt := 61) hx hb (by decide) (by decide) dX0_copyPointsTo_22 (by decide) (fun c22 => absurd c22 (by omega)) (fun c22 => ?_)
        refine lv_aload_n hx hb dX0_copyPointsTo_25 rfl (lv_at hl 2 rfl) ?_
        refine va_get (D := D) (ci := 0) (v := .ref (ad 0)) (C := RX0) (T := TX0) (N := 5) hx hb hts hiX0 hown hK hP 8 rfl rfl 1 (by decide) hf31 (fun _ h9 => h9) rfl dX0_copyPointsTo_26 ?_
        refine lv_iload_n hx hb dX0_copyPointsTo_29 rfl (lv_at hl 1 rfl) ?_
        refine lv_aload_n hx hb dX0_copyPointsTo_30 rfl (lv_at hl 2 rfl) ?_
        refine va_get (D := D) (ci := 0) (v := .ref (ad 0)) (C := RX0) (T := TX0) (N := 5) hx hb hts hiX0 hown hK hP 8 rfl rfl 1 (by decide) hf31 (fun _ h9 => h9) rfl dX0_copyPointsTo_31 ?_
        refine lv_aload_n hx hb dX0_copyPointsTo_34 rfl (lv_at hl 2 rfl) ?_
        refine va_get (D := D) (ci := 0) (v := .ref (ad 13)) (C := RX0) (T := TX0) (N := 5) hx hb hts hiX0 hown hK hP 8 rfl rfl 2 (by decide) hf9 (fun _ h9 => h9) rfl dX0_copyPointsTo_35 ?_
        refine lv_iload hx hb dX0_copyPointsTo_38 (lv_at hl 0 rfl) ?_
        refine nv_iald hx hb hK hP 9 0 rfl rfl (by omega) (by decide) dX0_copyPointsTo_40 ?_
        refine lv_aload_n hx hb dX0_copyPointsTo_41 rfl (lv_at hl 2 rfl) ?_
        refine lv_iload_n hx hb dX0_copyPointsTo_42 rfl (lv_at hl 4 rfl) ?_
        refine lv_iload hx hb dX0_copyPointsTo_43 (lv_at hl 0 rfl) ?_
        refine ctR_V (As := [.int (nI i), .int (nI 0)]) (rest := [.int (nI (nb 0)), .ref (ad 0), .int (nI 0), .ref (ad 0)]) (r := .int (nI (trm q i 0))) ⟨hx, hb, hml, hown, hts⟩ (c_X0_term_0 l D cI cZ ad q sm pr op iv hF tr ro hT i (by omega)) (cwV 2 hts gX0_copyPointsTo_X0_term rfl rfl rfl hdV_X0_term ⟨Nat.le_of_ble_eq_true rfl, Nat.le_of_ble_eq_true rfl⟩) hK hN hP [0, 1, 2, 3, 4, 5, 6, 7, 8] rfl 8 0 rfl rfl rfl hl.1 rfl (Nat.le_of_ble_eq_true rfl) ⟨Nat.zero_le _, Nat.zero_le _⟩ dX0_copyPointsTo_45 ?_
        have hh_1 : trm q i 0 < q := trm_lt hF.1 (by omega)
        refine ctR_V (As := [.int (nI (nb 0)), .int (nI (trm q i 0))]) (rest := [.int (nI 0), .ref (ad 0)]) (r := .int (nI (fmul q (nb 0) (trm q i 0)))) ⟨hx, hb, hml, hown, hts⟩ (c_X1_times l D cI cZ ad q sm pr op iv hF (nb 0) (trm q i 0) (by omega) (by omega)) (cwV 2 hts gX0_copyPointsTo_X1_times rfl rfl rfl hdV_X1_times ⟨Nat.le_of_ble_eq_true rfl, Nat.le_of_ble_eq_true rfl⟩) hK hN hP [0, 1, 2, 3, 4] rfl 0 1 rfl rfl rfl hl.1 rfl (Nat.le_of_ble_eq_true rfl) ⟨Nat.zero_le _, Nat.zero_le _⟩ dX0_copyPointsTo_48 ?_
        have hh_2 : fmul q (nb 0) (trm q i 0) < q := fmul_lt hF.1 (by omega) (by omega)
        refine ctR_V (As := [.int (nI 0), .int (nI (fmul q (nb 0) (trm q i 0)))]) (rest := []) (r := .int (nI (fadd q 0 (fmul q (nb 0) (trm q i 0))))) ⟨hx, hb, hml, hown, hts⟩ (c_X1_plus l D cI cZ ad q sm pr op iv hF 0 (fmul q (nb 0) (trm q i 0)) (by omega) (by omega)) (cwV 2 hts gX0_copyPointsTo_X1_plus rfl rfl rfl hdV_X1_plus ⟨Nat.le_of_ble_eq_true rfl, Nat.le_of_ble_eq_true rfl⟩) hK hN hP [0, 1, 2, 3, 4] rfl 0 1 rfl rfl rfl hl.1 rfl (Nat.le_of_ble_eq_true rfl) ⟨Nat.zero_le _, Nat.zero_le _⟩ dX0_copyPointsTo_51 ?_
        have hh_3 : fadd q 0 (fmul q (nb 0) (trm q i 0)) < q := fadd_lt hF.1 (by omega) (by omega)
        refine lv_istore_n (lv' := [(3, .int (nI (fadd q 0 (fmul q (nb 0) (trm q i 0))))), (4, .int (nI 0)), (0, .ref (ad 12)), (1, .ref aS), (2, .int (nI i))]) hx hb dX0_copyPointsTo_54 rfl hl (by decide) rfl (fun ls hl => ?_)
        refine lv_iinc (v := nI 1) (lv' := [(4, .int (nI 1)), (3, .int (nI (fadd q 0 (fmul q (nb 0) (trm q i 0))))), (0, .ref (ad 12)), (1, .ref aS), (2, .int (nI i))]) hx hb dX0_copyPointsTo_55 hl (k := 1) rfl (nI_inc 0) (by decide) rfl (fun ls hl => ?_)
        refine lv_goto (tgt := 18) hx hb dX0_copyPointsTo_58 (by decide) ?_
        refine lv_iload hx hb dX0_copyPointsTo_18 (lv_at hl 0 rfl) ?_
        refine lv_bipush (v := nI 6) hx hb dX0_copyPointsTo_20 (by decide) ?_
        refine nv_icmp_ge (tgt := 61) hx hb (by decide) (by decide) dX0_copyPointsTo_22 (by decide) (fun c22 => absurd c22 (by omega)) (fun c22 => ?_)
        refine lv_aload_n hx hb dX0_copyPointsTo_25 rfl (lv_at hl 2 rfl) ?_
        refine va_get (D := D) (ci := 0) (v := .ref (ad 0)) (C := RX0) (T := TX0) (N := 5) hx hb hts hiX0 hown hK hP 8 rfl rfl 1 (by decide) hf31 (fun _ h9 => h9) rfl dX0_copyPointsTo_26 ?_
        refine lv_iload_n hx hb dX0_copyPointsTo_29 rfl (lv_at hl 1 rfl) ?_
        refine lv_aload_n hx hb dX0_copyPointsTo_30 rfl (lv_at hl 2 rfl) ?_
        refine va_get (D := D) (ci := 0) (v := .ref (ad 0)) (C := RX0) (T := TX0) (N := 5) hx hb hts hiX0 hown hK hP 8 rfl rfl 1 (by decide) hf31 (fun _ h9 => h9) rfl dX0_copyPointsTo_31 ?_
        refine lv_aload_n hx hb dX0_copyPointsTo_34 rfl (lv_at hl 2 rfl) ?_
        refine va_get (D := D) (ci := 0) (v := .ref (ad 13)) (C := RX0) (T := TX0) (N := 5) hx hb hts hiX0 hown hK hP 8 rfl rfl 2 (by decide) hf9 (fun _ h9 => h9) rfl dX0_copyPointsTo_35 ?_
        refine lv_iload hx hb dX0_copyPointsTo_38 (lv_at hl 0 rfl) ?_
        refine nv_iald hx hb hK hP 9 0 rfl rfl (by omega) (by decide) dX0_copyPointsTo_40 ?_
        refine lv_aload_n hx hb dX0_copyPointsTo_41 rfl (lv_at hl 2 rfl) ?_
        refine lv_iload_n hx hb dX0_copyPointsTo_42 rfl (lv_at hl 4 rfl) ?_
        refine lv_iload hx hb dX0_copyPointsTo_43 (lv_at hl 0 rfl) ?_
        refine ctR_V (As := [.int (nI i), .int (nI 1)]) (rest := [.int (nI (nb 1)), .ref (ad 0), .int (nI (fadd q 0 (fmul q (nb 0) (trm q i 0)))), .ref (ad 0)]) (r := .int (nI (trm q i 1))) ⟨hx, hb, hml, hown, hts⟩ (c_X0_term_1 l D cI cZ ad q sm pr op iv hF tr ro hT i (by omega)) (cwV 2 hts gX0_copyPointsTo_X0_term rfl rfl rfl hdV_X0_term ⟨Nat.le_of_ble_eq_true rfl, Nat.le_of_ble_eq_true rfl⟩) hK hN hP [0, 1, 2, 3, 4, 5, 6, 7, 8] rfl 8 0 rfl rfl rfl hl.1 rfl (Nat.le_of_ble_eq_true rfl) ⟨Nat.zero_le _, Nat.zero_le _⟩ dX0_copyPointsTo_45 ?_
        have hh_4 : trm q i 1 < q := trm_lt hF.1 (by omega)
        refine ctR_V (As := [.int (nI (nb 1)), .int (nI (trm q i 1))]) (rest := [.int (nI (fadd q 0 (fmul q (nb 0) (trm q i 0)))), .ref (ad 0)]) (r := .int (nI (fmul q (nb 1) (trm q i 1)))) ⟨hx, hb, hml, hown, hts⟩ (c_X1_times l D cI cZ ad q sm pr op iv hF (nb 1) (trm q i 1) (by omega) (by omega)) (cwV 2 hts gX0_copyPointsTo_X1_times rfl rfl rfl hdV_X1_times ⟨Nat.le_of_ble_eq_true rfl, Nat.le_of_ble_eq_true rfl⟩) hK hN hP [0, 1, 2, 3, 4] rfl 0 1 rfl rfl rfl hl.1 rfl (Nat.le_of_ble_eq_true rfl) ⟨Nat.zero_le _, Nat.zero_le _⟩ dX0_copyPointsTo_48 ?_
        have hh_5 : fmul q (nb 1) (trm q i 1) < q := fmul_lt hF.1 (by omega) (by omega)
        refine ctR_V (As := [.int (nI (fadd q 0 (fmul q (nb 0) (trm q i 0)))), .int (nI (fmul q (nb 1) (trm q i 1)))]) (rest := []) (r := .int (nI (fadd q (fadd q 0 (fmul q (nb 0) (trm q i 0))) (fmul q (nb 1) (trm q i 1))))) ⟨hx, hb, hml, hown, hts⟩ (c_X1_plus l D cI cZ ad q sm pr op iv hF (fadd q 0 (fmul q (nb 0) (trm q i 0))) (fmul q (nb 1) (trm q i 1)) (by omega) (by omega)) (cwV 2 hts gX0_copyPointsTo_X1_plus rfl rfl rfl hdV_X1_plus ⟨Nat.le_of_ble_eq_true rfl, Nat.le_of_ble_eq_true rfl⟩) hK hN hP [0, 1, 2, 3, 4] rfl 0 1 rfl rfl rfl hl.1 rfl (Nat.le_of_ble_eq_true rfl) ⟨Nat.zero_le _, Nat.zero_le _⟩ dX0_copyPointsTo_51 ?_
        have hh_6 : fadd q (fadd q 0 (fmul q (nb 0) (trm q i 0))) (fmul q (nb 1) (trm q i 1)) < q := fadd_lt hF.1 (by omega) (by omega)
        refine lv_istore_n (lv' := [(3, .int (nI (fadd q (fadd q 0 (fmul q (nb 0) (trm q i 0))) (fmul q (nb 1) (trm q i 1))))), (4, .int (nI 1)), (0, .ref (ad 12)), (1, .ref aS), (2, .int (nI i))]) hx hb dX0_copyPointsTo_54 rfl hl (by decide) rfl (fun ls hl => ?_)
        refine lv_iinc (v := nI 2) (lv' := [(4, .int (nI 2)), (3, .int (nI (fadd q (fadd q 0 (fmul q (nb 0) (trm q i 0))) (fmul q (nb 1) (trm q i 1))))), (0, .ref (ad 12)), (1, .ref aS), (2, .int (nI i))]) hx hb dX0_copyPointsTo_55 hl (k := 1) rfl (nI_inc 1) (by decide) rfl (fun ls hl => ?_)
        refine lv_goto (tgt := 18) hx hb dX0_copyPointsTo_58 (by decide) ?_
        refine lv_iload hx hb dX0_copyPointsTo_18 (lv_at hl 0 rfl) ?_
        refine lv_bipush (v := nI 6) hx hb dX0_copyPointsTo_20 (by decide) ?_
        refine nv_icmp_ge (tgt := 61) hx hb (by decide) (by decide) dX0_copyPointsTo_22 (by decide) (fun c22 => absurd c22 (by omega)) (fun c22 => ?_)
        refine lv_aload_n hx hb dX0_copyPointsTo_25 rfl (lv_at hl 2 rfl) ?_
        refine va_get (D := D) (ci := 0) (v := .ref (ad 0)) (C := RX0) (T := TX0) (N := 5) hx hb hts hiX0 hown hK hP 8 rfl rfl 1 (by decide) hf31 (fun _ h9 => h9) rfl dX0_copyPointsTo_26 ?_
        refine lv_iload_n hx hb dX0_copyPointsTo_29 rfl (lv_at hl 1 rfl) ?_
        refine lv_aload_n hx hb dX0_copyPointsTo_30 rfl (lv_at hl 2 rfl) ?_
        refine va_get (D := D) (ci := 0) (v := .ref (ad 0)) (C := RX0) (T := TX0) (N := 5) hx hb hts hiX0 hown hK hP 8 rfl rfl 1 (by decide) hf31 (fun _ h9 => h9) rfl dX0_copyPointsTo_31 ?_
        refine lv_aload_n hx hb dX0_copyPointsTo_34 rfl (lv_at hl 2 rfl) ?_
        refine va_get (D := D) (ci := 0) (v := .ref (ad 13)) (C := RX0) (T := TX0) (N := 5) hx hb hts hiX0 hown hK hP 8 rfl rfl 2 (by decide) hf9 (fun _ h9 => h9) rfl dX0_copyPointsTo_35 ?_
        refine lv_iload hx hb dX0_copyPointsTo_38 (lv_at hl 0 rfl) ?_
        refine nv_iald hx hb hK hP 9 0 rfl rfl (by omega) (by decide) dX0_copyPointsTo_40 ?_
        refine lv_aload_n hx hb dX0_copyPointsTo_41 rfl (lv_at hl 2 rfl) ?_
        refine lv_iload_n hx hb dX0_copyPointsTo_42 rfl (lv_at hl 4 rfl) ?_
        refine lv_iload hx hb dX0_copyPointsTo_43 (lv_at hl 0 rfl) ?_
        refine ctR_V (As := [.int (nI i), .int (nI 2)]) (rest := [.int (nI (nb 2)), .ref (ad 0), .int (nI (fadd q (fadd q 0 (fmul q (nb 0) (trm q i 0))) (fmul q (nb 1) (trm q i 1)))), .ref (ad 0)]) (r := .int (nI (trm q i 2))) ⟨hx, hb, hml, hown, hts⟩ (c_X0_term_2 l D cI cZ ad q sm pr op iv hF tr ro hT i (by omega)) (cwV 2 hts gX0_copyPointsTo_X0_term rfl rfl rfl hdV_X0_term ⟨Nat.le_of_ble_eq_true rfl, Nat.le_of_ble_eq_true rfl⟩) hK hN hP [0, 1, 2, 3, 4, 5, 6, 7, 8] rfl 8 0 rfl rfl rfl hl.1 rfl (Nat.le_of_ble_eq_true rfl) ⟨Nat.zero_le _, Nat.zero_le _⟩ dX0_copyPointsTo_45 ?_
        have hh_7 : trm q i 2 < q := trm_lt hF.1 (by omega)
        refine ctR_V (As := [.int (nI (nb 2)), .int (nI (trm q i 2))]) (rest := [.int (nI (fadd q (fadd q 0 (fmul q (nb 0) (trm q i 0))) (fmul q (nb 1) (trm q i 1)))), .ref (ad 0)]) (r := .int (nI (fmul q (nb 2) (trm q i 2)))) ⟨hx, hb, hml, hown, hts⟩ (c_X1_times l D cI cZ ad q sm pr op iv hF (nb 2) (trm q i 2) (by omega) (by omega)) (cwV 2 hts gX0_copyPointsTo_X1_times rfl rfl rfl hdV_X1_times ⟨Nat.le_of_ble_eq_true rfl, Nat.le_of_ble_eq_true rfl⟩) hK hN hP [0, 1, 2, 3, 4] rfl 0 1 rfl rfl rfl hl.1 rfl (Nat.le_of_ble_eq_true rfl) ⟨Nat.zero_le _, Nat.zero_le _⟩ dX0_copyPointsTo_48 ?_
        have hh_8 : fmul q (nb 2) (trm q i 2) < q := fmul_lt hF.1 (by omega) (by omega)
        refine ctR_V (As := [.int (nI (fadd q (fadd q 0 (fmul q (nb 0) (trm q i 0))) (fmul q (nb 1) (trm q i 1)))), .int (nI (fmul q (nb 2) (trm q i 2)))]) (rest := []) (r := .int (nI (fadd q (fadd q (fadd q 0 (fmul q (nb 0) (trm q i 0))) (fmul q (nb 1) (trm q i 1))) (fmul q (nb 2) (trm q i 2))))) ⟨hx, hb, hml, hown, hts⟩ (c_X1_plus l D cI cZ ad q sm pr op iv hF (fadd q (fadd q 0 (fmul q (nb 0) (trm q i 0))) (fmul q (nb 1) (trm q i 1))) (fmul q (nb 2) (trm q i 2)) (by omega) (by omega)) (cwV 2 hts gX0_copyPointsTo_X1_plus rfl rfl rfl hdV_X1_plus ⟨Nat.le_of_ble_eq_true rfl, Nat.le_of_ble_eq_true rfl⟩) hK hN hP [0, 1, 2, 3, 4] rfl 0 1 rfl rfl rfl hl.1 rfl (Nat.le_of_ble_eq_true rfl) ⟨Nat.zero_le _, Nat.zero_le _⟩ dX0_copyPointsTo_51 ?_
        have hh_9 : fadd q (fadd q (fadd q 0 (fmul q (nb 0) (trm q i 0))) (fmul q (nb 1) (trm q i 1))) (fmul q (nb 2) (trm q i 2)) < q := fadd_lt hF.1 (by omega) (by omega)
        refine lv_istore_n (lv' := [(3, .int (nI (fadd q (fadd q (fadd q 0 (fmul q (nb 0) (trm q i 0))) (fmul q (nb 1) (trm q i 1))) (fmul q (nb 2) (trm q i 2))))), (4, .int (nI 2)), (0, .ref (ad 12)), (1, .ref aS), (2, .int (nI i))]) hx hb dX0_copyPointsTo_54 rfl hl (by decide) rfl (fun ls hl => ?_)
        refine lv_iinc (v := nI 3) (lv' := [(4, .int (nI 3)), (3, .int (nI (fadd q (fadd q (fadd q 0 (fmul q (nb 0) (trm q i 0))) (fmul q (nb 1) (trm q i 1))) (fmul q (nb 2) (trm q i 2))))), (0, .ref (ad 12)), (1, .ref aS), (2, .int (nI i))]) hx hb dX0_copyPointsTo_55 hl (k := 1) rfl (nI_inc 2) (by decide) rfl (fun ls hl => ?_)
        refine lv_goto (tgt := 18) hx hb dX0_copyPointsTo_58 (by decide) ?_
        refine lv_iload hx hb dX0_copyPointsTo_18 (lv_at hl 0 rfl) ?_
        refine lv_bipush (v := nI 6) hx hb dX0_copyPointsTo_20 (by decide) ?_
        refine nv_icmp_ge (tgt := 61) hx hb (by decide) (by decide) dX0_copyPointsTo_22 (by decide) (fun c22 => absurd c22 (by omega)) (fun c22 => ?_)
        refine lv_aload_n hx hb dX0_copyPointsTo_25 rfl (lv_at hl 2 rfl) ?_
        refine va_get (D := D) (ci := 0) (v := .ref (ad 0)) (C := RX0) (T := TX0) (N := 5) hx hb hts hiX0 hown hK hP 8 rfl rfl 1 (by decide) hf31 (fun _ h9 => h9) rfl dX0_copyPointsTo_26 ?_
        refine lv_iload_n hx hb dX0_copyPointsTo_29 rfl (lv_at hl 1 rfl) ?_
        refine lv_aload_n hx hb dX0_copyPointsTo_30 rfl (lv_at hl 2 rfl) ?_
        refine va_get (D := D) (ci := 0) (v := .ref (ad 0)) (C := RX0) (T := TX0) (N := 5) hx hb hts hiX0 hown hK hP 8 rfl rfl 1 (by decide) hf31 (fun _ h9 => h9) rfl dX0_copyPointsTo_31 ?_
        refine lv_aload_n hx hb dX0_copyPointsTo_34 rfl (lv_at hl 2 rfl) ?_
        refine va_get (D := D) (ci := 0) (v := .ref (ad 13)) (C := RX0) (T := TX0) (N := 5) hx hb hts hiX0 hown hK hP 8 rfl rfl 2 (by decide) hf9 (fun _ h9 => h9) rfl dX0_copyPointsTo_35 ?_
        refine lv_iload hx hb dX0_copyPointsTo_38 (lv_at hl 0 rfl) ?_
        refine nv_iald hx hb hK hP 9 0 rfl rfl (by omega) (by decide) dX0_copyPointsTo_40 ?_
        refine lv_aload_n hx hb dX0_copyPointsTo_41 rfl (lv_at hl 2 rfl) ?_
        refine lv_iload_n hx hb dX0_copyPointsTo_42 rfl (lv_at hl 4 rfl) ?_
        refine lv_iload hx hb dX0_copyPointsTo_43 (lv_at hl 0 rfl) ?_
        refine ctR_V (As := [.int (nI i), .int (nI 3)]) (rest := [.int (nI (nb 3)), .ref (ad 0), .int (nI (fadd q (fadd q (fadd q 0 (fmul q (nb 0) (trm q i 0))) (fmul q (nb 1) (trm q i 1))) (fmul q (nb 2) (trm q i 2)))), .ref (ad 0)]) (r := .int (nI (trm q i 3))) ⟨hx, hb, hml, hown, hts⟩ (c_X0_term_3 l D cI cZ ad q sm pr op iv hF tr ro hT i (by omega)) (cwV 2 hts gX0_copyPointsTo_X0_term rfl rfl rfl hdV_X0_term ⟨Nat.le_of_ble_eq_true rfl, Nat.le_of_ble_eq_true rfl⟩) hK hN hP [0, 1, 2, 3, 4, 5, 6, 7, 8] rfl 8 0 rfl rfl rfl hl.1 rfl (Nat.le_of_ble_eq_true rfl) ⟨Nat.zero_le _, Nat.zero_le _⟩ dX0_copyPointsTo_45 ?_
        have hh_10 : trm q i 3 < q := trm_lt hF.1 (by omega)
        refine ctR_V (As := [.int (nI (nb 3)), .int (nI (trm q i 3))]) (rest := [.int (nI (fadd q (fadd q (fadd q 0 (fmul q (nb 0) (trm q i 0))) (fmul q (nb 1) (trm q i 1))) (fmul q (nb 2) (trm q i 2)))), .ref (ad 0)]) (r := .int (nI (fmul q (nb 3) (trm q i 3)))) ⟨hx, hb, hml, hown, hts⟩ (c_X1_times l D cI cZ ad q sm pr op iv hF (nb 3) (trm q i 3) (by omega) (by omega)) (cwV 2 hts gX0_copyPointsTo_X1_times rfl rfl rfl hdV_X1_times ⟨Nat.le_of_ble_eq_true rfl, Nat.le_of_ble_eq_true rfl⟩) hK hN hP [0, 1, 2, 3, 4] rfl 0 1 rfl rfl rfl hl.1 rfl (Nat.le_of_ble_eq_true rfl) ⟨Nat.zero_le _, Nat.zero_le _⟩ dX0_copyPointsTo_48 ?_
        have hh_11 : fmul q (nb 3) (trm q i 3) < q := fmul_lt hF.1 (by omega) (by omega)
        refine ctR_V (As := [.int (nI (fadd q (fadd q (fadd q 0 (fmul q (nb 0) (trm q i 0))) (fmul q (nb 1) (trm q i 1))) (fmul q (nb 2) (trm q i 2)))), .int (nI (fmul q (nb 3) (trm q i 3)))]) (rest := []) (r := .int (nI (fadd q (fadd q (fadd q (fadd q 0 (fmul q (nb 0) (trm q i 0))) (fmul q (nb 1) (trm q i 1))) (fmul q (nb 2) (trm q i 2))) (fmul q (nb 3) (trm q i 3))))) ⟨hx, hb, hml, hown, hts⟩ (c_X1_plus l D cI cZ ad q sm pr op iv hF (fadd q (fadd q (fadd q 0 (fmul q (nb 0) (trm q i 0))) (fmul q (nb 1) (trm q i 1))) (fmul q (nb 2) (trm q i 2))) (fmul q (nb 3) (trm q i 3)) (by omega) (by omega)) (cwV 2 hts gX0_copyPointsTo_X1_plus rfl rfl rfl hdV_X1_plus ⟨Nat.le_of_ble_eq_true rfl, Nat.le_of_ble_eq_true rfl⟩) hK hN hP [0, 1, 2, 3, 4] rfl 0 1 rfl rfl rfl hl.1 rfl (Nat.le_of_ble_eq_true rfl) ⟨Nat.zero_le _, Nat.zero_le _⟩ dX0_copyPointsTo_51 ?_
        have hh_12 : fadd q (fadd q (fadd q (fadd q 0 (fmul q (nb 0) (trm q i 0))) (fmul q (nb 1) (trm q i 1))) (fmul q (nb 2) (trm q i 2))) (fmul q (nb 3) (trm q i 3)) < q := fadd_lt hF.1 (by omega) (by omega)
        refine lv_istore_n (lv' := [(3, .int (nI (fadd q (fadd q (fadd q (fadd q 0 (fmul q (nb 0) (trm q i 0))) (fmul q (nb 1) (trm q i 1))) (fmul q (nb 2) (trm q i 2))) (fmul q (nb 3) (trm q i 3))))), (4, .int (nI 3)), (0, .ref (ad 12)), (1, .ref aS), (2, .int (nI i))]) hx hb dX0_copyPointsTo_54 rfl hl (by decide) rfl (fun ls hl => ?_)
        refine lv_iinc (v := nI 4) (lv' := [(4, .int (nI 4)), (3, .int (nI (fadd q (fadd q (fadd q (fadd q 0 (fmul q (nb 0) (trm q i 0))) (fmul q (nb 1) (trm q i 1))) (fmul q (nb 2) (trm q i 2))) (fmul q (nb 3) (trm q i 3))))), (0, .ref (ad 12)), (1, .ref aS), (2, .int (nI i))]) hx hb dX0_copyPointsTo_55 hl (k := 1) rfl (nI_inc 3) (by decide) rfl (fun ls hl => ?_)
        refine lv_goto (tgt := 18) hx hb dX0_copyPointsTo_58 (by decide) ?_
        refine lv_iload hx hb dX0_copyPointsTo_18 (lv_at hl 0 rfl) ?_
        refine lv_bipush (v := nI 6) hx hb dX0_copyPointsTo_20 (by decide) ?_
        refine nv_icmp_ge (tgt := 61) hx hb (by decide) (by decide) dX0_copyPointsTo_22 (by decide) (fun c22 => absurd c22 (by omega)) (fun c22 => ?_)
        refine lv_aload_n hx hb dX0_copyPointsTo_25 rfl (lv_at hl 2 rfl) ?_
        refine va_get (D := D) (ci := 0) (v := .ref (ad 0)) (C := RX0) (T := TX0) (N := 5) hx hb hts hiX0 hown hK hP 8 rfl rfl 1 (by decide) hf31 (fun _ h9 => h9) rfl dX0_copyPointsTo_26 ?_
        refine lv_iload_n hx hb dX0_copyPointsTo_29 rfl (lv_at hl 1 rfl) ?_
        refine lv_aload_n hx hb dX0_copyPointsTo_30 rfl (lv_at hl 2 rfl) ?_
        refine va_get (D := D) (ci := 0) (v := .ref (ad 0)) (C := RX0) (T := TX0) (N := 5) hx hb hts hiX0 hown hK hP 8 rfl rfl 1 (by decide) hf31 (fun _ h9 => h9) rfl dX0_copyPointsTo_31 ?_
        refine lv_aload_n hx hb dX0_copyPointsTo_34 rfl (lv_at hl 2 rfl) ?_
        refine va_get (D := D) (ci := 0) (v := .ref (ad 13)) (C := RX0) (T := TX0) (N := 5) hx hb hts hiX0 hown hK hP 8 rfl rfl 2 (by decide) hf9 (fun _ h9 => h9) rfl dX0_copyPointsTo_35 ?_
        refine lv_iload hx hb dX0_copyPointsTo_38 (lv_at hl 0 rfl) ?_
        refine nv_iald hx hb hK hP 9 0 rfl rfl (by omega) (by decide) dX0_copyPointsTo_40 ?_
        refine lv_aload_n hx hb dX0_copyPointsTo_41 rfl (lv_at hl 2 rfl) ?_
        refine lv_iload_n hx hb dX0_copyPointsTo_42 rfl (lv_at hl 4 rfl) ?_
        refine lv_iload hx hb dX0_copyPointsTo_43 (lv_at hl 0 rfl) ?_
        refine ctR_V (As := [.int (nI i), .int (nI 4)]) (rest := [.int (nI (nb 4)), .ref (ad 0), .int (nI (fadd q (fadd q (fadd q (fadd q 0 (fmul q (nb 0) (trm q i 0))) (fmul q (nb 1) (trm q i 1))) (fmul q (nb 2) (trm q i 2))) (fmul q (nb 3) (trm q i 3)))), .ref (ad 0)]) (r := .int (nI (trm q i 4))) ⟨hx, hb, hml, hown, hts⟩ (c_X0_term_4 l D cI cZ ad q sm pr op iv hF tr ro hT i (by omega)) (cwV 2 hts gX0_copyPointsTo_X0_term rfl rfl rfl hdV_X0_term ⟨Nat.le_of_ble_eq_true rfl, Nat.le_of_ble_eq_true rfl⟩) hK hN hP [0, 1, 2, 3, 4, 5, 6, 7, 8] rfl 8 0 rfl rfl rfl hl.1 rfl (Nat.le_of_ble_eq_true rfl) ⟨Nat.zero_le _, Nat.zero_le _⟩ dX0_copyPointsTo_45 ?_
        have hh_13 : trm q i 4 < q := trm_lt hF.1 (by omega)
        refine ctR_V (As := [.int (nI (nb 4)), .int (nI (trm q i 4))]) (rest := [.int (nI (fadd q (fadd q (fadd q (fadd q 0 (fmul q (nb 0) (trm q i 0))) (fmul q (nb 1) (trm q i 1))) (fmul q (nb 2) (trm q i 2))) (fmul q (nb 3) (trm q i 3)))), .ref (ad 0)]) (r := .int (nI (fmul q (nb 4) (trm q i 4)))) ⟨hx, hb, hml, hown, hts⟩ (c_X1_times l D cI cZ ad q sm pr op iv hF (nb 4) (trm q i 4) (by omega) (by omega)) (cwV 2 hts gX0_copyPointsTo_X1_times rfl rfl rfl hdV_X1_times ⟨Nat.le_of_ble_eq_true rfl, Nat.le_of_ble_eq_true rfl⟩) hK hN hP [0, 1, 2, 3, 4] rfl 0 1 rfl rfl rfl hl.1 rfl (Nat.le_of_ble_eq_true rfl) ⟨Nat.zero_le _, Nat.zero_le _⟩ dX0_copyPointsTo_48 ?_
        have hh_14 : fmul q (nb 4) (trm q i 4) < q := fmul_lt hF.1 (by omega) (by omega)
        refine ctR_V (As := [.int (nI (fadd q (fadd q (fadd q (fadd q 0 (fmul q (nb 0) (trm q i 0))) (fmul q (nb 1) (trm q i 1))) (fmul q (nb 2) (trm q i 2))) (fmul q (nb 3) (trm q i 3)))), .int (nI (fmul q (nb 4) (trm q i 4)))]) (rest := []) (r := .int (nI (fadd q (fadd q (fadd q (fadd q (fadd q 0 (fmul q (nb 0) (trm q i 0))) (fmul q (nb 1) (trm q i 1))) (fmul q (nb 2) (trm q i 2))) (fmul q (nb 3) (trm q i 3))) (fmul q (nb 4) (trm q i 4))))) ⟨hx, hb, hml, hown, hts⟩ (c_X1_plus l D cI cZ ad q sm pr op iv hF (fadd q (fadd q (fadd q (fadd q 0 (fmul q (nb 0) (trm q i 0))) (fmul q (nb 1) (trm q i 1))) (fmul q (nb 2) (trm q i 2))) (fmul q (nb 3) (trm q i 3))) (fmul q (nb 4) (trm q i 4)) (by omega) (by omega)) (cwV 2 hts gX0_copyPointsTo_X1_plus rfl rfl rfl hdV_X1_plus ⟨Nat.le_of_ble_eq_true rfl, Nat.le_of_ble_eq_true rfl⟩) hK hN hP [0, 1, 2, 3, 4] rfl 0 1 rfl rfl rfl hl.1 rfl (Nat.le_of_ble_eq_true rfl) ⟨Nat.zero_le _, Nat.zero_le _⟩ dX0_copyPointsTo_51 ?_
        have hh_15 : fadd q (fadd q (fadd q (fadd q (fadd q 0 (fmul q (nb 0) (trm q i 0))) (fmul q (nb 1) (trm q i 1))) (fmul q (nb 2) (trm q i 2))) (fmul q (nb 3) (trm q i 3))) (fmul q (nb 4) (trm q i 4)) < q := fadd_lt hF.1 (by omega) (by omega)
        refine lv_istore_n (lv' := [(3, .int (nI (fadd q (fadd q (fadd q (fadd q (fadd q 0 (fmul q (nb 0) (trm q i 0))) (fmul q (nb 1) (trm q i 1))) (fmul q (nb 2) (trm q i 2))) (fmul q (nb 3) (trm q i 3))) (fmul q (nb 4) (trm q i 4))))), (4, .int (nI 4)), (0, .ref (ad 12)), (1, .ref aS), (2, .int (nI i))]) hx hb dX0_copyPointsTo_54 rfl hl (by decide) rfl (fun ls hl => ?_)
        refine lv_iinc (v := nI 5) (lv' := [(4, .int (nI 5)), (3, .int (nI (fadd q (fadd q (fadd q (fadd q (fadd q 0 (fmul q (nb 0) (trm q i 0))) (fmul q (nb 1) (trm q i 1))) (fmul q (nb 2) (trm q i 2))) (fmul q (nb 3) (trm q i 3))) (fmul q (nb 4) (trm q i 4))))), (0, .ref (ad 12)), (1, .ref aS), (2, .int (nI i))]) hx hb dX0_copyPointsTo_55 hl (k := 1) rfl (nI_inc 4) (by decide) rfl (fun ls hl => ?_)
        refine lv_goto (tgt := 18) hx hb dX0_copyPointsTo_58 (by decide) ?_
        refine lv_iload hx hb dX0_copyPointsTo_18 (lv_at hl 0 rfl) ?_
        refine lv_bipush (v := nI 6) hx hb dX0_copyPointsTo_20 (by decide) ?_
        refine nv_icmp_ge (tgt := 61) hx hb (by decide) (by decide) dX0_copyPointsTo_22 (by decide) (fun c22 => absurd c22 (by omega)) (fun c22 => ?_)
        refine lv_aload_n hx hb dX0_copyPointsTo_25 rfl (lv_at hl 2 rfl) ?_
        refine va_get (D := D) (ci := 0) (v := .ref (ad 0)) (C := RX0) (T := TX0) (N := 5) hx hb hts hiX0 hown hK hP 8 rfl rfl 1 (by decide) hf31 (fun _ h9 => h9) rfl dX0_copyPointsTo_26 ?_
        refine lv_iload_n hx hb dX0_copyPointsTo_29 rfl (lv_at hl 1 rfl) ?_
        refine lv_aload_n hx hb dX0_copyPointsTo_30 rfl (lv_at hl 2 rfl) ?_
        refine va_get (D := D) (ci := 0) (v := .ref (ad 0)) (C := RX0) (T := TX0) (N := 5) hx hb hts hiX0 hown hK hP 8 rfl rfl 1 (by decide) hf31 (fun _ h9 => h9) rfl dX0_copyPointsTo_31 ?_
        refine lv_aload_n hx hb dX0_copyPointsTo_34 rfl (lv_at hl 2 rfl) ?_
        refine va_get (D := D) (ci := 0) (v := .ref (ad 13)) (C := RX0) (T := TX0) (N := 5) hx hb hts hiX0 hown hK hP 8 rfl rfl 2 (by decide) hf9 (fun _ h9 => h9) rfl dX0_copyPointsTo_35 ?_
        refine lv_iload hx hb dX0_copyPointsTo_38 (lv_at hl 0 rfl) ?_
        refine nv_iald hx hb hK hP 9 0 rfl rfl (by omega) (by decide) dX0_copyPointsTo_40 ?_
        refine lv_aload_n hx hb dX0_copyPointsTo_41 rfl (lv_at hl 2 rfl) ?_
        refine lv_iload_n hx hb dX0_copyPointsTo_42 rfl (lv_at hl 4 rfl) ?_
        refine lv_iload hx hb dX0_copyPointsTo_43 (lv_at hl 0 rfl) ?_
        refine ctR_V (As := [.int (nI i), .int (nI 5)]) (rest := [.int (nI (nb 5)), .ref (ad 0), .int (nI (fadd q (fadd q (fadd q (fadd q (fadd q 0 (fmul q (nb 0) (trm q i 0))) (fmul q (nb 1) (trm q i 1))) (fmul q (nb 2) (trm q i 2))) (fmul q (nb 3) (trm q i 3))) (fmul q (nb 4) (trm q i 4)))), .ref (ad 0)]) (r := .int (nI (trm q i 5))) ⟨hx, hb, hml, hown, hts⟩ (c_X0_term_5 l D cI cZ ad q sm pr op iv hF tr ro hT i (by omega)) (cwV 2 hts gX0_copyPointsTo_X0_term rfl rfl rfl hdV_X0_term ⟨Nat.le_of_ble_eq_true rfl, Nat.le_of_ble_eq_true rfl⟩) hK hN hP [0, 1, 2, 3, 4, 5, 6, 7, 8] rfl 8 0 rfl rfl rfl hl.1 rfl (Nat.le_of_ble_eq_true rfl) ⟨Nat.zero_le _, Nat.zero_le _⟩ dX0_copyPointsTo_45 ?_
        have hh_16 : trm q i 5 < q := trm_lt hF.1 (by omega)
        refine ctR_V (As := [.int (nI (nb 5)), .int (nI (trm q i 5))]) (rest := [.int (nI (fadd q (fadd q (fadd q (fadd q (fadd q 0 (fmul q (nb 0) (trm q i 0))) (fmul q (nb 1) (trm q i 1))) (fmul q (nb 2) (trm q i 2))) (fmul q (nb 3) (trm q i 3))) (fmul q (nb 4) (trm q i 4)))), .ref (ad 0)]) (r := .int (nI (fmul q (nb 5) (trm q i 5)))) ⟨hx, hb, hml, hown, hts⟩ (c_X1_times l D cI cZ ad q sm pr op iv hF (nb 5) (trm q i 5) (by omega) (by omega)) (cwV 2 hts gX0_copyPointsTo_X1_times rfl rfl rfl hdV_X1_times ⟨Nat.le_of_ble_eq_true rfl, Nat.le_of_ble_eq_true rfl⟩) hK hN hP [0, 1, 2, 3, 4] rfl 0 1 rfl rfl rfl hl.1 rfl (Nat.le_of_ble_eq_true rfl) ⟨Nat.zero_le _, Nat.zero_le _⟩ dX0_copyPointsTo_48 ?_
        have hh_17 : fmul q (nb 5) (trm q i 5) < q := fmul_lt hF.1 (by omega) (by omega)
        refine ctR_V (As := [.int (nI (fadd q (fadd q (fadd q (fadd q (fadd q 0 (fmul q (nb 0) (trm q i 0))) (fmul q (nb 1) (trm q i 1))) (fmul q (nb 2) (trm q i 2))) (fmul q (nb 3) (trm q i 3))) (fmul q (nb 4) (trm q i 4)))), .int (nI (fmul q (nb 5) (trm q i 5)))]) (rest := []) (r := .int (nI (fadd q (fadd q (fadd q (fadd q (fadd q (fadd q 0 (fmul q (nb 0) (trm q i 0))) (fmul q (nb 1) (trm q i 1))) (fmul q (nb 2) (trm q i 2))) (fmul q (nb 3) (trm q i 3))) (fmul q (nb 4) (trm q i 4))) (fmul q (nb 5) (trm q i 5))))) ⟨hx, hb, hml, hown, hts⟩ (c_X1_plus l D cI cZ ad q sm pr op iv hF (fadd q (fadd q (fadd q (fadd q (fadd q 0 (fmul q (nb 0) (trm q i 0))) (fmul q (nb 1) (trm q i 1))) (fmul q (nb 2) (trm q i 2))) (fmul q (nb 3) (trm q i 3))) (fmul q (nb 4) (trm q i 4))) (fmul q (nb 5) (trm q i 5)) (by omega) (by omega)) (cwV 2 hts gX0_copyPointsTo_X1_plus rfl rfl rfl hdV_X1_plus ⟨Nat.le_of_ble_eq_true rfl, Nat.le_of_ble_eq_true rfl⟩) hK hN hP [0, 1, 2, 3, 4] rfl 0 1 rfl rfl rfl hl.1 rfl (Nat.le_of_ble_eq_true rfl) ⟨Nat.zero_le _, Nat.zero_le _⟩ dX0_copyPointsTo_51 ?_
        have hh_18 : fadd q (fadd q (fadd q (fadd q (fadd q (fadd q 0 (fmul q (nb 0) (trm q i 0))) (fmul q (nb 1) (trm q i 1))) (fmul q (nb 2) (trm q i 2))) (fmul q (nb 3) (trm q i 3))) (fmul q (nb 4) (trm q i 4))) (fmul q (nb 5) (trm q i 5)) < q := fadd_lt hF.1 (by omega) (by omega)
        refine lv_istore_n (lv' := [(3, .int (nI (fadd q (fadd q (fadd q (fadd q (fadd q (fadd q 0 (fmul q (nb 0) (trm q i 0))) (fmul q (nb 1) (trm q i 1))) (fmul q (nb 2) (trm q i 2))) (fmul q (nb 3) (trm q i 3))) (fmul q (nb 4) (trm q i 4))) (fmul q (nb 5) (trm q i 5))))), (4, .int (nI 5)), (0, .ref (ad 12)), (1, .ref aS), (2, .int (nI i))]) hx hb dX0_copyPointsTo_54 rfl hl (by decide) rfl (fun ls hl => ?_)
        refine lv_iinc (v := nI 6) (lv' := [(4, .int (nI 6)), (3, .int (nI (fadd q (fadd q (fadd q (fadd q (fadd q (fadd q 0 (fmul q (nb 0) (trm q i 0))) (fmul q (nb 1) (trm q i 1))) (fmul q (nb 2) (trm q i 2))) (fmul q (nb 3) (trm q i 3))) (fmul q (nb 4) (trm q i 4))) (fmul q (nb 5) (trm q i 5))))), (0, .ref (ad 12)), (1, .ref aS), (2, .int (nI i))]) hx hb dX0_copyPointsTo_55 hl (k := 1) rfl (nI_inc 5) (by decide) rfl (fun ls hl => ?_)
        refine lv_goto (tgt := 18) hx hb dX0_copyPointsTo_58 (by decide) ?_
        refine lv_iload hx hb dX0_copyPointsTo_18 (lv_at hl 0 rfl) ?_
        refine lv_bipush (v := nI 6) hx hb dX0_copyPointsTo_20 (by decide) ?_
        refine nv_icmp_ge (tgt := 61) hx hb (by decide) (by decide) dX0_copyPointsTo_22 (by decide) (fun c22 => ?_) (fun c22 => absurd c22 (by omega))
        refine lv_aload_n hx hb dX0_copyPointsTo_61 rfl (lv_at hl 3 rfl) ?_
        refine lv_iload_n hx hb dX0_copyPointsTo_62 rfl (lv_at hl 4 rfl) ?_
        refine lv_iload_n hx hb dX0_copyPointsTo_63 rfl (lv_at hl 1 rfl) ?_
        refine nv_top (v' := .int (nI (crv q nb i))) (congrArg (fun t => Value.int (nI t)) (by have h9 := sm6_0 (b := fmul q (nb 1) (trm q i 1)) (c := fmul q (nb 2) (trm q i 2)) (d := fmul q (nb 3) (trm q i 3)) (e := fmul q (nb 4) (trm q i 4)) (f := fmul q (nb 5) (trm q i 5)) hF.1 (fmul_lt hF.1 n0 (trm_lt (k := 0) hF.1 c10)); exact h9)) ?_
        refine nv_if_ne (tgt := 71) hx hb (Nat.lt_of_lt_of_le (show crv q nb i < q from by rw [crv, sm6]; exact fadd_lt hF.1 (fadd_lt hF.1 (fadd_lt hF.1 (fadd_lt hF.1 (fadd_lt hF.1 (fmul_lt hF.1 n0 (trm_lt hF.1 c10)) (fmul_lt hF.1 n1 (trm_lt hF.1 c10))) (fmul_lt hF.1 n2 (trm_lt hF.1 c10))) (fmul_lt hF.1 n3 (trm_lt hF.1 c10))) (fmul_lt hF.1 n4 (trm_lt hF.1 c10))) (fmul_lt hF.1 n5 (trm_lt hF.1 c10))) (by omega)) dX0_copyPointsTo_64 (by decide) (fun c64 => ?_) (fun c64 => ?_)
        · refine lv_iconst (v := nI 0) hx hb dX0_copyPointsTo_71 (by decide) ?_
          refine nv_zast hx hb hK hP hD hS 10 1 rfl rfl false (by omega) (by decide) dX0_copyPointsTo_72 (fun H locs hP hD hS => ?_)
          have hP : va_P D vwCl [(ad 0, .inr (1, [.int (nI q), .ref (ad 1), .ref (ad 2), .ref (ad 3), .ref (ad 4)])), (ad 1, .inl (cI, 81, .inl (nF sm))), (ad 2, .inl (cI, 81, .inl (nF pr))), (ad 3, .inl (cI, 9, .inl (nF op))), (ad 4, .inl (cI, 9, .inl (nF iv))), (ad 5, .inr (3, [.ref (ad 0), .int (nI (nn q)), .ref (ad 6), .ref (ad 7)])), (ad 6, .inl (cI, 273, .inl (nF tr))), (ad 7, .inl (cI, 910, .inl (nF ro))), (ad 12, .inr (0, [.ref (ad 5), .ref (ad 0), .ref (ad 13), .ref (ad 14), .ref (ad 15)])), (ad 13, .inl (cI, 6, .inl (nF nb))), (aS, .inl (cZ, 91, .inl (bF (upB S1 i false))))] H := hP
          have hD : va_D A [(ad 0, .inr (1, [.int (nI q), .ref (ad 1), .ref (ad 2), .ref (ad 3), .ref (ad 4)])), (ad 1, .inl (cI, 81, .inl (nF sm))), (ad 2, .inl (cI, 81, .inl (nF pr))), (ad 3, .inl (cI, 9, .inl (nF op))), (ad 4, .inl (cI, 9, .inl (nF iv))), (ad 5, .inr (3, [.ref (ad 0), .int (nI (nn q)), .ref (ad 6), .ref (ad 7)])), (ad 6, .inl (cI, 273, .inl (nF tr))), (ad 7, .inl (cI, 910, .inl (nF ro))), (ad 12, .inr (0, [.ref (ad 5), .ref (ad 0), .ref (ad 13), .ref (ad 14), .ref (ad 15)])), (ad 13, .inl (cI, 6, .inl (nF nb))), (aS, .inl (cZ, 91, .inl (bF (upB S1 i false))))] := hD
          refine lv_iinc (v := nI (i + 1)) (lv' := [(2, .int (nI (i + 1))), (4, .int (nI 6)), (3, .int (nI (fadd q (fadd q (fadd q (fadd q (fadd q (fadd q 0 (fmul q (nb 0) (trm q i 0))) (fmul q (nb 1) (trm q i 1))) (fmul q (nb 2) (trm q i 2))) (fmul q (nb 3) (trm q i 3))) (fmul q (nb 4) (trm q i 4))) (fmul q (nb 5) (trm q i 5))))), (0, .ref (ad 12)), (1, .ref aS)]) hx hb dX0_copyPointsTo_73 hl (k := 4) rfl (nI_inc i) (by decide) rfl (fun ls hl => ?_)
          refine lv_goto (tgt := 2) hx hb dX0_copyPointsTo_76 (by decide) ?_
          have n0 := k_n 0 (by decide)
          have n1 := k_n 1 (by decide)
          have n2 := k_n 2 (by decide)
          have n3 := k_n 3 (by decide)
          have n4 := k_n 4 (by decide)
          have n5 := k_n 5 (by decide)
          exact ih2 (i + 1) (upB S1 i false) ls _ _ (by omega) (by omega) (fun t ht => (Nat.lt_succ_iff_lt_or_eq.mp ht).elim (fun h => by rw [upB_n (by omega)]; exact k_s t h) (fun h => by rw [h, upB_s]; exact (beq_eq_false_iff_ne.mpr c64).symm)) (lv_sub hl [3, 4, 0] rfl) hP hD hS
        · refine lv_iconst (v := nI 1) hx hb dX0_copyPointsTo_67 (by decide) ?_
          refine lv_goto (tgt := 72) hx hb dX0_copyPointsTo_68 (by decide) ?_
          refine nv_zast hx hb hK hP hD hS 10 1 rfl rfl true (by omega) (by decide) dX0_copyPointsTo_72 (fun H locs hP hD hS => ?_)
          have hP : va_P D vwCl [(ad 0, .inr (1, [.int (nI q), .ref (ad 1), .ref (ad 2), .ref (ad 3), .ref (ad 4)])), (ad 1, .inl (cI, 81, .inl (nF sm))), (ad 2, .inl (cI, 81, .inl (nF pr))), (ad 3, .inl (cI, 9, .inl (nF op))), (ad 4, .inl (cI, 9, .inl (nF iv))), (ad 5, .inr (3, [.ref (ad 0), .int (nI (nn q)), .ref (ad 6), .ref (ad 7)])), (ad 6, .inl (cI, 273, .inl (nF tr))), (ad 7, .inl (cI, 910, .inl (nF ro))), (ad 12, .inr (0, [.ref (ad 5), .ref (ad 0), .ref (ad 13), .ref (ad 14), .ref (ad 15)])), (ad 13, .inl (cI, 6, .inl (nF nb))), (aS, .inl (cZ, 91, .inl (bF (upB S1 i true))))] H := hP
          have hD : va_D A [(ad 0, .inr (1, [.int (nI q), .ref (ad 1), .ref (ad 2), .ref (ad 3), .ref (ad 4)])), (ad 1, .inl (cI, 81, .inl (nF sm))), (ad 2, .inl (cI, 81, .inl (nF pr))), (ad 3, .inl (cI, 9, .inl (nF op))), (ad 4, .inl (cI, 9, .inl (nF iv))), (ad 5, .inr (3, [.ref (ad 0), .int (nI (nn q)), .ref (ad 6), .ref (ad 7)])), (ad 6, .inl (cI, 273, .inl (nF tr))), (ad 7, .inl (cI, 910, .inl (nF ro))), (ad 12, .inr (0, [.ref (ad 5), .ref (ad 0), .ref (ad 13), .ref (ad 14), .ref (ad 15)])), (ad 13, .inl (cI, 6, .inl (nF nb))), (aS, .inl (cZ, 91, .inl (bF (upB S1 i true))))] := hD
          refine lv_iinc (v := nI (i + 1)) (lv' := [(2, .int (nI (i + 1))), (4, .int (nI 6)), (3, .int (nI (fadd q (fadd q (fadd q (fadd q (fadd q (fadd q 0 (fmul q (nb 0) (trm q i 0))) (fmul q (nb 1) (trm q i 1))) (fmul q (nb 2) (trm q i 2))) (fmul q (nb 3) (trm q i 3))) (fmul q (nb 4) (trm q i 4))) (fmul q (nb 5) (trm q i 5))))), (0, .ref (ad 12)), (1, .ref aS)]) hx hb dX0_copyPointsTo_73 hl (k := 4) rfl (nI_inc i) (by decide) rfl (fun ls hl => ?_)
          refine lv_goto (tgt := 2) hx hb dX0_copyPointsTo_76 (by decide) ?_
          have n0 := k_n 0 (by decide)
          have n1 := k_n 1 (by decide)
          have n2 := k_n 2 (by decide)
          have n3 := k_n 3 (by decide)
          have n4 := k_n 4 (by decide)
          have n5 := k_n 5 (by decide)
          exact ih2 (i + 1) (upB S1 i true) ls _ _ (by omega) (by omega) (fun t ht => (Nat.lt_succ_iff_lt_or_eq.mp ht).elim (fun h => by rw [upB_n (by omega)]; exact k_s t h) (fun h => by rw [h, upB_s]; exact (beq_iff_eq.mpr c64).symm)) (lv_sub hl [3, 4, 0] rfl) hP hD hS
  exact L2 (nn q - 0 + 1) 0 S ls _ _ (by omega) (Nat.zero_le _) (fun t h => absurd h (Nat.not_lt_zero t)) (lv_sub hl [1, 2, 0] rfl) hP hD hS

set_option maxHeartbeats 4000000 in
set_option maxRecDepth 100000 in
theorem c_X6_curve (l : Launch) (D : va_G) (cI cZ : ClassId) (ad : Nat → Nat) (q : Nat) (sm : Nat → Nat) (pr : Nat → Nat) (op : Nat → Nat) (iv : Nat → Nat) (hF : FOK q sm pr op iv) (tr : Nat → Nat) (ro : Nat → Nat) (hT : TOK q tr) (hR : ROK q ro) (S : Nat → Bool) (gr : Nat → Bool) (ol : Nat → Nat) (nb : Nat → Nat) (mx : Nat → Nat) (pv : Nat → Nat) (xa : Int32) (xb : Int32) (xc : Int32) (xd : Int32) (xe : Int32) (xf : Int32) : CtW (S := (Nat → Bool) × (Nat → Nat)) l yX6_curve wsX6_curve { frames := 3, cells := 0, slots := 0, locals := 71 } D (tyG cI cZ) [.ref (ad 26), .int xa, .int xb, .int xc, .int xd, .int xe, .int xf] [(ad 0, .inr (1, [.int (nI q), .ref (ad 1), .ref (ad 2), .ref (ad 3), .ref (ad 4)])), (ad 1, .inl (cI, 81, .inl (nF sm))), (ad 2, .inl (cI, 81, .inl (nF pr))), (ad 3, .inl (cI, 9, .inl (nF op))), (ad 4, .inl (cI, 9, .inl (nF iv))), (ad 5, .inr (3, [.ref (ad 0), .int (nI (nn q)), .ref (ad 6), .ref (ad 7)])), (ad 6, .inl (cI, 273, .inl (nF tr))), (ad 7, .inl (cI, 910, .inl (nF ro))), (ad 8, .inr (4, [.ref (ad 5), .ref (ad 9), .ref (ad 10), .ref (ad 11)])), (ad 9, .inl (cZ, 91, .inl (bF S))), (ad 10, .inl (cZ, 91, .inl (bF gr))), (ad 11, .inl (cI, 91, .inl (nF ol))), (ad 12, .inr (0, [.ref (ad 5), .ref (ad 0), .ref (ad 13), .ref (ad 14), .ref (ad 15)])), (ad 13, .inl (cI, 6, .inl (nF nb))), (ad 14, .inl (cI, 30, .inl (nF mx))), (ad 15, .inl (cI, 5, .inl (nF pv))), (ad 26, .inr (6, [.ref (ad 0), .ref (ad 5), .ref (ad 8), .ref (ad 12), .ref (ad 16), .ref (ad 20), .ref (ad 24)]))] (fun u => (fun (S3 : Nat → Bool) (nb3 : Nat → Nat) => eqN (nn q) S3 (curS q S xa xb xc xd xe xf)) u.1 u.2) (fun u => (fun (S3 : Nat → Bool) (nb3 : Nat → Nat) => some (.int (curZ q xa xb xc xd xe xf))) u.1 u.2) (fun u => (fun (S3 : Nat → Bool) (nb3 : Nat → Nat) => [(ad 0, .inr (1, [.int (nI q), .ref (ad 1), .ref (ad 2), .ref (ad 3), .ref (ad 4)])), (ad 1, .inl (cI, 81, .inl (nF sm))), (ad 2, .inl (cI, 81, .inl (nF pr))), (ad 3, .inl (cI, 9, .inl (nF op))), (ad 4, .inl (cI, 9, .inl (nF iv))), (ad 5, .inr (3, [.ref (ad 0), .int (nI (nn q)), .ref (ad 6), .ref (ad 7)])), (ad 6, .inl (cI, 273, .inl (nF tr))), (ad 7, .inl (cI, 910, .inl (nF ro))), (ad 8, .inr (4, [.ref (ad 5), .ref (ad 9), .ref (ad 10), .ref (ad 11)])), (ad 9, .inl (cZ, 91, .inl (bF S3))), (ad 10, .inl (cZ, 91, .inl (bF gr))), (ad 11, .inl (cI, 91, .inl (nF ol))), (ad 12, .inr (0, [.ref (ad 5), .ref (ad 0), .ref (ad 13), .ref (ad 14), .ref (ad 15)])), (ad 13, .inl (cI, 6, .inl (nF nb3))), (ad 14, .inl (cI, 30, .inl (nF mx))), (ad 15, .inl (cI, 5, .inl (nF pv))), (ad 26, .inr (6, [.ref (ad 0), .ref (ad 5), .ref (ad 8), .ref (ad 12), .ref (ad 16), .ref (ad 20), .ref (ad 24)]))]) u.1 u.2) := by
  intro sz; refine Met.ofW (cc := cX6_curve) (maxL := 7) (ret := some .int) (by decide) rfl ?_
  intro p e s m args below meth c s₁ B hml hv
  obtain ⟨rfl, hsz, hP, hK, hD0, hN⟩ := hv
  have hx := B.exec
  have hb := B.bytes
  have hr := B.returns
  have hts := atoms_spec (ws := wsX6_curve) B.pre
  have hown : s.vm.findClass RX6 = some m.cls := findClass_of_methodNamed B.named
  have hlocks := B.notSynchronized
  subst hsz
  have hD := hD0.self (sz := s.heap.size)
  generalize hAe : va_A [(ad 0, .inr (1, [.int (nI q), .ref (ad 1), .ref (ad 2), .ref (ad 3), .ref (ad 4)])), (ad 1, .inl (cI, 81, .inl (nF sm))), (ad 2, .inl (cI, 81, .inl (nF pr))), (ad 3, .inl (cI, 9, .inl (nF op))), (ad 4, .inl (cI, 9, .inl (nF iv))), (ad 5, .inr (3, [.ref (ad 0), .int (nI (nn q)), .ref (ad 6), .ref (ad 7)])), (ad 6, .inl (cI, 273, .inl (nF tr))), (ad 7, .inl (cI, 910, .inl (nF ro))), (ad 8, .inr (4, [.ref (ad 5), .ref (ad 9), .ref (ad 10), .ref (ad 11)])), (ad 9, .inl (cZ, 91, .inl (bF S))), (ad 10, .inl (cZ, 91, .inl (bF gr))), (ad 11, .inl (cI, 91, .inl (nF ol))), (ad 12, .inr (0, [.ref (ad 5), .ref (ad 0), .ref (ad 13), .ref (ad 14), .ref (ad 15)])), (ad 13, .inl (cI, 6, .inl (nF nb))), (ad 14, .inl (cI, 30, .inl (nF mx))), (ad 15, .inl (cI, 5, .inl (nF pv))), (ad 26, .inr (6, [.ref (ad 0), .ref (ad 5), .ref (ad 8), .ref (ad 12), .ref (ad 16), .ref (ad 20), .ref (ad 24)]))] s.heap.size = A at hD ⊢
  have hA : ∀ q : Nat, s.heap.size ≤ q → A q := fun q h => by rw [← hAe]; exact Or.inr h
  have hS : va_S A s.heap s.heap [] := va_S.rf
  have hP : va_P D vwCl [(ad 0, .inr (1, [.int (nI q), .ref (ad 1), .ref (ad 2), .ref (ad 3), .ref (ad 4)])), (ad 1, .inl (cI, 81, .inl (nF sm))), (ad 2, .inl (cI, 81, .inl (nF pr))), (ad 3, .inl (cI, 9, .inl (nF op))), (ad 4, .inl (cI, 9, .inl (nF iv))), (ad 5, .inr (3, [.ref (ad 0), .int (nI (nn q)), .ref (ad 6), .ref (ad 7)])), (ad 6, .inl (cI, 273, .inl (nF tr))), (ad 7, .inl (cI, 910, .inl (nF ro))), (ad 8, .inr (4, [.ref (ad 5), .ref (ad 9), .ref (ad 10), .ref (ad 11)])), (ad 9, .inl (cZ, 91, .inl (bF S))), (ad 10, .inl (cZ, 91, .inl (bF gr))), (ad 11, .inl (cI, 91, .inl (nF ol))), (ad 12, .inr (0, [.ref (ad 5), .ref (ad 0), .ref (ad 13), .ref (ad 14), .ref (ad 15)])), (ad 13, .inl (cI, 6, .inl (nF nb))), (ad 14, .inl (cI, 30, .inl (nF mx))), (ad 15, .inl (cI, 5, .inl (nF pv))), (ad 26, .inr (6, [.ref (ad 0), .ref (ad 5), .ref (ad 8), .ref (ad 12), .ref (ad 16), .ref (ad 20), .ref (ad 24)]))] s.heap := hP
  have hf10 := hts (.fieldLink RX6 10 "FinitePlanes" "field" "LFinitePlanes$Field;") (by decide +kernel)
  have hf21 := hts (.fieldLink RX6 21 "FinitePlanes" "plane" "LFinitePlanes$Plane;") (by decide +kernel)
  have hf30 := hts (.fieldLink RX6 30 "FinitePlanes" "set" "LFinitePlanes$PointSet;") (by decide +kernel)
  have hf37 := hts (.fieldLink RX6 37 "FinitePlanes" "conic" "LFinitePlanes$Conic;") (by decide +kernel)
  have hf116 := hN.use (w := .fieldLinkNest RX6 116 "FinitePlanes$PointSet" "in" "[Z" "FinitePlanes") (by decide +kernel) (A := [.ref (ad 26), .int xa, .int xb, .int xc, .int xd, .int xe, .int xf].toArray)
  have hiX4 : ∀ w ∈ u_ws RX4 TX4 4, w ∈ wsX6_curve := by decide +kernel
  have hiX6 : ∀ w ∈ u_ws RX6 TX6 7, w ∈ wsX6_curve := by decide +kernel
  have hl := lv_entry ([.ref (ad 26), .int xa, .int xb, .int xc, .int xd, .int xe, .int xf]) (n := 7) (Nat.le_of_ble_eq_true rfl)
  rw [lg_entry_eq]
  generalize (lg_sl ([.ref (ad 26), .int xa, .int xb, .int xc, .int xd, .int xe, .int xf]) ++ List.replicate (7 - (lg_sl ([.ref (ad 26), .int xa, .int xb, .int xc, .int xd, .int xe, .int xf])).length) Slot.unset).toArray = ls at hl ⊢
  have hl : lv_has ls 7 [(0, .ref (ad 26)), (1, .int xa), (2, .int xb), (3, .int xc), (4, .int xd), (5, .int xe), (6, .int xf)] := hl
  have hq2 := qs_le hF.1
  have hn2 := nn_le hF.1
  refine lv_aload_n hx hb dX6_curve_0 rfl (lv_at hl 0 rfl) ?_
  refine va_get (D := D) (ci := 6) (v := .ref (ad 0)) (C := RX6) (T := TX6) (N := 7) hx hb hts hiX6 hown hK hP 16 rfl rfl 0 (by decide) hf10 (fun _ h9 => h9) rfl dX6_curve_1 ?_
  refine lv_iload_n hx hb dX6_curve_4 rfl (lv_at hl 1 rfl) ?_
  refine ctR_V (As := [.int xa]) (rest := []) (r := .int (nI (inB xa q).toNat)) ⟨hx, hb, hml, hown, hts⟩ (c_X1_has l D cI cZ ad q sm pr op iv hF xa) (cwV 1 hts gX6_curve_X1_has rfl rfl rfl hdV_X1_has ⟨Nat.le_of_ble_eq_true rfl, Nat.le_of_ble_eq_true rfl⟩) hK hN hP [0, 1, 2, 3, 4] rfl 0 1 rfl rfl rfl hl.1 rfl (Nat.le_of_ble_eq_true rfl) ⟨Nat.zero_le _, Nat.zero_le _⟩ dX6_curve_5 ?_
  refine nv_ifb_eq (tgt := 69) hx hb dX6_curve_8 (by decide) (fun c8 => ?_) (fun c8 => ?_)
  · refine lv_bipush (v := (-2)) hx hb dX6_curve_69 (by decide) ?_
    exact ctW_retI (v := (-2)) (S, nb) hx hb hr rfl dX6_curve_71 hlocks hS hP hD (by dsimp only; exact (curS_b (bad6_of (Or.inl c8)))) (curZ_b (bad6_of (Or.inl c8)))
  · refine lv_aload_n hx hb dX6_curve_11 rfl (lv_at hl 0 rfl) ?_
    refine va_get (D := D) (ci := 6) (v := .ref (ad 0)) (C := RX6) (T := TX6) (N := 7) hx hb hts hiX6 hown hK hP 16 rfl rfl 0 (by decide) hf10 (fun _ h9 => h9) rfl dX6_curve_12 ?_
    refine lv_iload_n hx hb dX6_curve_15 rfl (lv_at hl 2 rfl) ?_
    refine ctR_V (As := [.int xb]) (rest := []) (r := .int (nI (inB xb q).toNat)) ⟨hx, hb, hml, hown, hts⟩ (c_X1_has l D cI cZ ad q sm pr op iv hF xb) (cwV 1 hts gX6_curve_X1_has rfl rfl rfl hdV_X1_has ⟨Nat.le_of_ble_eq_true rfl, Nat.le_of_ble_eq_true rfl⟩) hK hN hP [0, 1, 2, 3, 4] rfl 0 1 rfl rfl rfl hl.1 rfl (Nat.le_of_ble_eq_true rfl) ⟨Nat.zero_le _, Nat.zero_le _⟩ dX6_curve_16 ?_
    refine nv_ifb_eq (tgt := 69) hx hb dX6_curve_19 (by decide) (fun c19 => ?_) (fun c19 => ?_)
    · refine lv_bipush (v := (-2)) hx hb dX6_curve_69 (by decide) ?_
      exact ctW_retI (v := (-2)) (S, nb) hx hb hr rfl dX6_curve_71 hlocks hS hP hD (by dsimp only; exact (curS_b (bad6_of (Or.inr (Or.inl c19))))) (curZ_b (bad6_of (Or.inr (Or.inl c19))))
    · refine lv_aload_n hx hb dX6_curve_22 rfl (lv_at hl 0 rfl) ?_
      refine va_get (D := D) (ci := 6) (v := .ref (ad 0)) (C := RX6) (T := TX6) (N := 7) hx hb hts hiX6 hown hK hP 16 rfl rfl 0 (by decide) hf10 (fun _ h9 => h9) rfl dX6_curve_23 ?_
      refine lv_iload_n hx hb dX6_curve_26 rfl (lv_at hl 3 rfl) ?_
      refine ctR_V (As := [.int xc]) (rest := []) (r := .int (nI (inB xc q).toNat)) ⟨hx, hb, hml, hown, hts⟩ (c_X1_has l D cI cZ ad q sm pr op iv hF xc) (cwV 1 hts gX6_curve_X1_has rfl rfl rfl hdV_X1_has ⟨Nat.le_of_ble_eq_true rfl, Nat.le_of_ble_eq_true rfl⟩) hK hN hP [0, 1, 2, 3, 4] rfl 0 1 rfl rfl rfl hl.1 rfl (Nat.le_of_ble_eq_true rfl) ⟨Nat.zero_le _, Nat.zero_le _⟩ dX6_curve_27 ?_
      refine nv_ifb_eq (tgt := 69) hx hb dX6_curve_30 (by decide) (fun c30 => ?_) (fun c30 => ?_)
      · refine lv_bipush (v := (-2)) hx hb dX6_curve_69 (by decide) ?_
        exact ctW_retI (v := (-2)) (S, nb) hx hb hr rfl dX6_curve_71 hlocks hS hP hD (by dsimp only; exact (curS_b (bad6_of (Or.inr (Or.inr (Or.inl c30)))))) (curZ_b (bad6_of (Or.inr (Or.inr (Or.inl c30)))))
      · refine lv_aload_n hx hb dX6_curve_33 rfl (lv_at hl 0 rfl) ?_
        refine va_get (D := D) (ci := 6) (v := .ref (ad 0)) (C := RX6) (T := TX6) (N := 7) hx hb hts hiX6 hown hK hP 16 rfl rfl 0 (by decide) hf10 (fun _ h9 => h9) rfl dX6_curve_34 ?_
        refine lv_iload hx hb dX6_curve_37 (lv_at hl 4 rfl) ?_
        refine ctR_V (As := [.int xd]) (rest := []) (r := .int (nI (inB xd q).toNat)) ⟨hx, hb, hml, hown, hts⟩ (c_X1_has l D cI cZ ad q sm pr op iv hF xd) (cwV 1 hts gX6_curve_X1_has rfl rfl rfl hdV_X1_has ⟨Nat.le_of_ble_eq_true rfl, Nat.le_of_ble_eq_true rfl⟩) hK hN hP [0, 1, 2, 3, 4] rfl 0 1 rfl rfl rfl hl.1 rfl (Nat.le_of_ble_eq_true rfl) ⟨Nat.zero_le _, Nat.zero_le _⟩ dX6_curve_39 ?_
        refine nv_ifb_eq (tgt := 69) hx hb dX6_curve_42 (by decide) (fun c42 => ?_) (fun c42 => ?_)
        · refine lv_bipush (v := (-2)) hx hb dX6_curve_69 (by decide) ?_
          exact ctW_retI (v := (-2)) (S, nb) hx hb hr rfl dX6_curve_71 hlocks hS hP hD (by dsimp only; exact (curS_b (bad6_of (Or.inr (Or.inr (Or.inr (Or.inl c42))))))) (curZ_b (bad6_of (Or.inr (Or.inr (Or.inr (Or.inl c42))))))
        · refine lv_aload_n hx hb dX6_curve_45 rfl (lv_at hl 0 rfl) ?_
          refine va_get (D := D) (ci := 6) (v := .ref (ad 0)) (C := RX6) (T := TX6) (N := 7) hx hb hts hiX6 hown hK hP 16 rfl rfl 0 (by decide) hf10 (fun _ h9 => h9) rfl dX6_curve_46 ?_
          refine lv_iload hx hb dX6_curve_49 (lv_at hl 5 rfl) ?_
          refine ctR_V (As := [.int xe]) (rest := []) (r := .int (nI (inB xe q).toNat)) ⟨hx, hb, hml, hown, hts⟩ (c_X1_has l D cI cZ ad q sm pr op iv hF xe) (cwV 1 hts gX6_curve_X1_has rfl rfl rfl hdV_X1_has ⟨Nat.le_of_ble_eq_true rfl, Nat.le_of_ble_eq_true rfl⟩) hK hN hP [0, 1, 2, 3, 4] rfl 0 1 rfl rfl rfl hl.1 rfl (Nat.le_of_ble_eq_true rfl) ⟨Nat.zero_le _, Nat.zero_le _⟩ dX6_curve_51 ?_
          refine nv_ifb_eq (tgt := 69) hx hb dX6_curve_54 (by decide) (fun c54 => ?_) (fun c54 => ?_)
          · refine lv_bipush (v := (-2)) hx hb dX6_curve_69 (by decide) ?_
            exact ctW_retI (v := (-2)) (S, nb) hx hb hr rfl dX6_curve_71 hlocks hS hP hD (by dsimp only; exact (curS_b (bad6_of (Or.inr (Or.inr (Or.inr (Or.inr (Or.inl c54)))))))) (curZ_b (bad6_of (Or.inr (Or.inr (Or.inr (Or.inr (Or.inl c54)))))))
          · refine lv_aload_n hx hb dX6_curve_57 rfl (lv_at hl 0 rfl) ?_
            refine va_get (D := D) (ci := 6) (v := .ref (ad 0)) (C := RX6) (T := TX6) (N := 7) hx hb hts hiX6 hown hK hP 16 rfl rfl 0 (by decide) hf10 (fun _ h9 => h9) rfl dX6_curve_58 ?_
            refine lv_iload hx hb dX6_curve_61 (lv_at hl 6 rfl) ?_
            refine ctR_V (As := [.int xf]) (rest := []) (r := .int (nI (inB xf q).toNat)) ⟨hx, hb, hml, hown, hts⟩ (c_X1_has l D cI cZ ad q sm pr op iv hF xf) (cwV 1 hts gX6_curve_X1_has rfl rfl rfl hdV_X1_has ⟨Nat.le_of_ble_eq_true rfl, Nat.le_of_ble_eq_true rfl⟩) hK hN hP [0, 1, 2, 3, 4] rfl 0 1 rfl rfl rfl hl.1 rfl (Nat.le_of_ble_eq_true rfl) ⟨Nat.zero_le _, Nat.zero_le _⟩ dX6_curve_63 ?_
            refine nv_ifb_ne (tgt := 72) hx hb dX6_curve_66 (by decide) (fun c66 => ?_) (fun c66 => ?_)
            · have hb6 : bad6 q xa xb xc xd xe xf = false := by simp [bad6, c8, c19, c30, c42, c54, c66]
              obtain ⟨ja, hja, rfl⟩ := inB_of (by omega) c8
              obtain ⟨jb, hjb, rfl⟩ := inB_of (by omega) c19
              obtain ⟨jc, hjc, rfl⟩ := inB_of (by omega) c30
              obtain ⟨jd, hjd, rfl⟩ := inB_of (by omega) c42
              obtain ⟨je, hje, rfl⟩ := inB_of (by omega) c54
              obtain ⟨jf, hjf, rfl⟩ := inB_of (by omega) c66
              refine lv_iload_n hx hb dX6_curve_72 rfl (lv_at hl 1 rfl) ?_
              refine nv_if_ne (tgt := 102) hx hb (by omega) dX6_curve_73 (by decide) (fun c73 => ?_) (fun c73 => ?_)
              · have hnz : ¬ zer6 (nI ja) (nI jb) (nI jc) (nI jd) (nI je) (nI jf) := fun z => by
                  rw [zer6, nv_nI (show ja < 2 ^ 31 by omega), nv_nI (show jb < 2 ^ 31 by omega), nv_nI (show jc < 2 ^ 31 by omega), nv_nI (show jd < 2 ^ 31 by omega), nv_nI (show je < 2 ^ 31 by omega), nv_nI (show jf < 2 ^ 31 by omega)] at z
                  omega
                refine lv_aload_n hx hb dX6_curve_102 rfl (lv_at hl 0 rfl) ?_
                refine va_get (D := D) (ci := 6) (v := .ref (ad 12)) (C := RX6) (T := TX6) (N := 7) hx hb hts hiX6 hown hK hP 16 rfl rfl 3 (by decide) hf37 (fun _ h9 => h9) rfl dX6_curve_103 ?_
                refine lv_iload_n hx hb dX6_curve_106 rfl (lv_at hl 1 rfl) ?_
                refine lv_iload_n hx hb dX6_curve_107 rfl (lv_at hl 2 rfl) ?_
                refine lv_iload_n hx hb dX6_curve_108 rfl (lv_at hl 3 rfl) ?_
                refine lv_iload hx hb dX6_curve_109 (lv_at hl 4 rfl) ?_
                refine lv_iload hx hb dX6_curve_111 (lv_at hl 5 rfl) ?_
                refine lv_iload hx hb dX6_curve_113 (lv_at hl 6 rfl) ?_
                refine ctW_V (As := [.int (nI ja), .int (nI jb), .int (nI jc), .int (nI jd), .int (nI je), .int (nI jf)]) (rest := []) (wr := [(ad 0, .inr (1, [.int (nI q), .ref (ad 1), .ref (ad 2), .ref (ad 3), .ref (ad 4)])), (ad 1, .inl (cI, 81, .inl (nF sm))), (ad 2, .inl (cI, 81, .inl (nF pr))), (ad 3, .inl (cI, 9, .inl (nF op))), (ad 4, .inl (cI, 9, .inl (nF iv))), (ad 5, .inr (3, [.ref (ad 0), .int (nI (nn q)), .ref (ad 6), .ref (ad 7)])), (ad 6, .inl (cI, 273, .inl (nF tr))), (ad 7, .inl (cI, 910, .inl (nF ro))), (ad 8, .inr (4, [.ref (ad 5), .ref (ad 9), .ref (ad 10), .ref (ad 11)])), (ad 9, .inl (cZ, 91, .inl (bF S))), (ad 10, .inl (cZ, 91, .inl (bF gr))), (ad 11, .inl (cI, 91, .inl (nF ol))), (ad 14, .inl (cI, 30, .inl (nF mx))), (ad 15, .inl (cI, 5, .inl (nF pv))), (ad 26, .inr (6, [.ref (ad 0), .ref (ad 5), .ref (ad 8), .ref (ad 12), .ref (ad 16), .ref (ad 20), .ref (ad 24)]))]) ⟨hx, hb, hml, hown, hts⟩ (c_X0_choose l D cI cZ ad nb ja jb jc jd je jf) (cwV 6 hts gX6_curve_X0_choose rfl rfl rfl hdV_X0_choose ⟨Nat.le_of_ble_eq_true rfl, Nat.le_of_ble_eq_true rfl⟩) hK hN hP hD hS hA [12, 13] [0, 1, 2, 3, 4, 5, 6, 7, 8, 9, 10, 11, 14, 15, 16] rfl rfl rfl (by decide) (by decide) (by decide) 12 0 rfl rfl rfl hl.1 rfl (Nat.le_of_ble_eq_true rfl) ⟨Nat.zero_le _, Nat.zero_le _⟩ dX6_curve_115 (fun _ H locs hu115 hP hD hS => ?_)
                try dsimp only at hu115
                have hP : va_P D vwCl [(ad 0, .inr (1, [.int (nI q), .ref (ad 1), .ref (ad 2), .ref (ad 3), .ref (ad 4)])), (ad 1, .inl (cI, 81, .inl (nF sm))), (ad 2, .inl (cI, 81, .inl (nF pr))), (ad 3, .inl (cI, 9, .inl (nF op))), (ad 4, .inl (cI, 9, .inl (nF iv))), (ad 5, .inr (3, [.ref (ad 0), .int (nI (nn q)), .ref (ad 6), .ref (ad 7)])), (ad 6, .inl (cI, 273, .inl (nF tr))), (ad 7, .inl (cI, 910, .inl (nF ro))), (ad 8, .inr (4, [.ref (ad 5), .ref (ad 9), .ref (ad 10), .ref (ad 11)])), (ad 9, .inl (cZ, 91, .inl (bF S))), (ad 10, .inl (cZ, 91, .inl (bF gr))), (ad 11, .inl (cI, 91, .inl (nF ol))), (ad 12, .inr (0, [.ref (ad 5), .ref (ad 0), .ref (ad 13), .ref (ad 14), .ref (ad 15)])), (ad 13, .inl (cI, 6, .inl (nF (upN (upN (upN (upN (upN (upN nb 0 ja) 1 jb) 2 jc) 3 jd) 4 je) 5 jf)))), (ad 14, .inl (cI, 30, .inl (nF mx))), (ad 15, .inl (cI, 5, .inl (nF pv))), (ad 26, .inr (6, [.ref (ad 0), .ref (ad 5), .ref (ad 8), .ref (ad 12), .ref (ad 16), .ref (ad 20), .ref (ad 24)]))] H := hP.sub [0, 1, 2, 3, 4, 5, 6, 7, 8, 9, 10, 11, 15, 16, 12, 13, 14] rfl
                have hD : va_D A [(ad 0, .inr (1, [.int (nI q), .ref (ad 1), .ref (ad 2), .ref (ad 3), .ref (ad 4)])), (ad 1, .inl (cI, 81, .inl (nF sm))), (ad 2, .inl (cI, 81, .inl (nF pr))), (ad 3, .inl (cI, 9, .inl (nF op))), (ad 4, .inl (cI, 9, .inl (nF iv))), (ad 5, .inr (3, [.ref (ad 0), .int (nI (nn q)), .ref (ad 6), .ref (ad 7)])), (ad 6, .inl (cI, 273, .inl (nF tr))), (ad 7, .inl (cI, 910, .inl (nF ro))), (ad 8, .inr (4, [.ref (ad 5), .ref (ad 9), .ref (ad 10), .ref (ad 11)])), (ad 9, .inl (cZ, 91, .inl (bF S))), (ad 10, .inl (cZ, 91, .inl (bF gr))), (ad 11, .inl (cI, 91, .inl (nF ol))), (ad 12, .inr (0, [.ref (ad 5), .ref (ad 0), .ref (ad 13), .ref (ad 14), .ref (ad 15)])), (ad 13, .inl (cI, 6, .inl (nF (upN (upN (upN (upN (upN (upN nb 0 ja) 1 jb) 2 jc) 3 jd) 4 je) 5 jf)))), (ad 14, .inl (cI, 30, .inl (nF mx))), (ad 15, .inl (cI, 5, .inl (nF pv))), (ad 26, .inr (6, [.ref (ad 0), .ref (ad 5), .ref (ad 8), .ref (ad 12), .ref (ad 16), .ref (ad 20), .ref (ad 24)]))] := hD.sub [0, 1, 2, 3, 4, 5, 6, 7, 8, 9, 10, 11, 15, 16, 12, 13, 14] (by decide) rfl
                refine W.eq (g2 := F0 m 118 ls []) rfl ?_
                refine lv_aload_n hx hb dX6_curve_118 rfl (lv_at hl 0 rfl) ?_
                refine va_get (D := D) (ci := 6) (v := .ref (ad 12)) (C := RX6) (T := TX6) (N := 7) hx hb hts hiX6 hown hK hP 16 rfl rfl 3 (by decide) hf37 (fun _ h9 => h9) rfl dX6_curve_119 ?_
                refine lv_aload_n hx hb dX6_curve_122 rfl (lv_at hl 0 rfl) ?_
                refine va_get (D := D) (ci := 6) (v := .ref (ad 8)) (C := RX6) (T := TX6) (N := 7) hx hb hts hiX6 hown hK hP 16 rfl rfl 2 (by decide) hf30 (fun _ h9 => h9) rfl dX6_curve_123 ?_
                refine va_getN (D := D) (ci := 4) (v := .ref (ad 9)) (C := RX4) (T := TX4) (N := 4) hx hb hts hiX4 hown hK hP 8 rfl rfl 1 (by decide) hf116 (fun _ h9 => h9) rfl dX6_curve_126 ?_
                refine ctW_V (As := [.ref (ad 9)]) (rest := []) (wr := [(ad 8, .inr (4, [.ref (ad 5), .ref (ad 9), .ref (ad 10), .ref (ad 11)])), (ad 10, .inl (cZ, 91, .inl (bF gr))), (ad 11, .inl (cI, 91, .inl (nF ol))), (ad 14, .inl (cI, 30, .inl (nF mx))), (ad 15, .inl (cI, 5, .inl (nF pv))), (ad 26, .inr (6, [.ref (ad 0), .ref (ad 5), .ref (ad 8), .ref (ad 12), .ref (ad 16), .ref (ad 20), .ref (ad 24)]))]) ⟨hx, hb, hml, hown, hts⟩ (c_X0_copyPointsTo l D cI cZ ad q sm pr op iv hF tr ro hT (upN (upN (upN (upN (upN (upN nb 0 ja) 1 jb) 2 jc) 3 jd) 4 je) 5 jf) mx pv (ad 9) S (all6 hja hjb hjc hjd hje hjf)) (cwV 1 hts gX6_curve_X0_copyPointsTo rfl rfl rfl hdV_X0_copyPointsTo ⟨Nat.le_of_ble_eq_true rfl, Nat.le_of_ble_eq_true rfl⟩) hK hN hP hD hS hA [0, 1, 2, 3, 4, 5, 6, 7, 12, 13, 9] [8, 10, 11, 14, 15, 16] rfl rfl rfl (by decide) (by decide) (by decide) 12 0 rfl rfl rfl hl.1 rfl (Nat.le_of_ble_eq_true rfl) ⟨Nat.zero_le _, Nat.zero_le _⟩ dX6_curve_129 (fun S_1 H locs hu129 hP hD hS => ?_)
                try dsimp only at hu129
                have hP : va_P D vwCl [(ad 0, .inr (1, [.int (nI q), .ref (ad 1), .ref (ad 2), .ref (ad 3), .ref (ad 4)])), (ad 1, .inl (cI, 81, .inl (nF sm))), (ad 2, .inl (cI, 81, .inl (nF pr))), (ad 3, .inl (cI, 9, .inl (nF op))), (ad 4, .inl (cI, 9, .inl (nF iv))), (ad 5, .inr (3, [.ref (ad 0), .int (nI (nn q)), .ref (ad 6), .ref (ad 7)])), (ad 6, .inl (cI, 273, .inl (nF tr))), (ad 7, .inl (cI, 910, .inl (nF ro))), (ad 8, .inr (4, [.ref (ad 5), .ref (ad 9), .ref (ad 10), .ref (ad 11)])), (ad 9, .inl (cZ, 91, .inl (bF S_1))), (ad 10, .inl (cZ, 91, .inl (bF gr))), (ad 11, .inl (cI, 91, .inl (nF ol))), (ad 12, .inr (0, [.ref (ad 5), .ref (ad 0), .ref (ad 13), .ref (ad 14), .ref (ad 15)])), (ad 13, .inl (cI, 6, .inl (nF (upN (upN (upN (upN (upN (upN nb 0 ja) 1 jb) 2 jc) 3 jd) 4 je) 5 jf)))), (ad 14, .inl (cI, 30, .inl (nF mx))), (ad 15, .inl (cI, 5, .inl (nF pv))), (ad 26, .inr (6, [.ref (ad 0), .ref (ad 5), .ref (ad 8), .ref (ad 12), .ref (ad 16), .ref (ad 20), .ref (ad 24)]))] H := hP.sub [6, 7, 8, 9, 10, 11, 12, 13, 0, 16, 1, 2, 14, 15, 3, 4, 5] rfl
                have hD : va_D A [(ad 0, .inr (1, [.int (nI q), .ref (ad 1), .ref (ad 2), .ref (ad 3), .ref (ad 4)])), (ad 1, .inl (cI, 81, .inl (nF sm))), (ad 2, .inl (cI, 81, .inl (nF pr))), (ad 3, .inl (cI, 9, .inl (nF op))), (ad 4, .inl (cI, 9, .inl (nF iv))), (ad 5, .inr (3, [.ref (ad 0), .int (nI (nn q)), .ref (ad 6), .ref (ad 7)])), (ad 6, .inl (cI, 273, .inl (nF tr))), (ad 7, .inl (cI, 910, .inl (nF ro))), (ad 8, .inr (4, [.ref (ad 5), .ref (ad 9), .ref (ad 10), .ref (ad 11)])), (ad 9, .inl (cZ, 91, .inl (bF S_1))), (ad 10, .inl (cZ, 91, .inl (bF gr))), (ad 11, .inl (cI, 91, .inl (nF ol))), (ad 12, .inr (0, [.ref (ad 5), .ref (ad 0), .ref (ad 13), .ref (ad 14), .ref (ad 15)])), (ad 13, .inl (cI, 6, .inl (nF (upN (upN (upN (upN (upN (upN nb 0 ja) 1 jb) 2 jc) 3 jd) 4 je) 5 jf)))), (ad 14, .inl (cI, 30, .inl (nF mx))), (ad 15, .inl (cI, 5, .inl (nF pv))), (ad 26, .inr (6, [.ref (ad 0), .ref (ad 5), .ref (ad 8), .ref (ad 12), .ref (ad 16), .ref (ad 20), .ref (ad 24)]))] := hD.sub [6, 7, 8, 9, 10, 11, 12, 13, 0, 16, 1, 2, 14, 15, 3, 4, 5] (by decide) rfl
                refine W.eq (g2 := F0 m 132 ls []) rfl ?_
                have hev : eqN (nn q) S_1 (cur6 q (nI ja) (nI jb) (nI jc) (nI jd) (nI je) (nI jf)) := fun t ht => by rw [hu129 t ht, cur6, nv_nI (show ja < 2 ^ 31 by omega), nv_nI (show jb < 2 ^ 31 by omega), nv_nI (show jc < 2 ^ 31 by omega), nv_nI (show jd < 2 ^ 31 by omega), nv_nI (show je < 2 ^ 31 by omega), nv_nI (show jf < 2 ^ 31 by omega)]; rfl
                refine lv_aload_n hx hb dX6_curve_132 rfl (lv_at hl 0 rfl) ?_
                refine va_get (D := D) (ci := 6) (v := .ref (ad 5)) (C := RX6) (T := TX6) (N := 7) hx hb hts hiX6 hown hK hP 16 rfl rfl 1 (by decide) hf21 (fun _ h9 => h9) rfl dX6_curve_133 ?_
                refine lv_aload_n hx hb dX6_curve_136 rfl (lv_at hl 0 rfl) ?_
                refine va_get (D := D) (ci := 6) (v := .ref (ad 8)) (C := RX6) (T := TX6) (N := 7) hx hb hts hiX6 hown hK hP 16 rfl rfl 2 (by decide) hf30 (fun _ h9 => h9) rfl dX6_curve_137 ?_
                refine va_getN (D := D) (ci := 4) (v := .ref (ad 9)) (C := RX4) (T := TX4) (N := 4) hx hb hts hiX4 hown hK hP 8 rfl rfl 1 (by decide) hf116 (fun _ h9 => h9) rfl dX6_curve_140 ?_
                refine ctR_V (As := [.ref (ad 9)]) (rest := []) (r := .int (nI (cnt S_1 (nn q)))) ⟨hx, hb, hml, hown, hts⟩ (c_X3_sizeOf l D cI cZ ad q sm pr op iv hF tr ro hT (ad 9) S_1) (cwV 1 hts gX6_curve_X3_sizeOf rfl rfl rfl hdV_X3_sizeOf ⟨Nat.le_of_ble_eq_true rfl, Nat.le_of_ble_eq_true rfl⟩) hK hN hP [0, 1, 2, 3, 4, 5, 6, 7, 9] rfl 5 3 rfl rfl rfl hl.1 rfl (Nat.le_of_ble_eq_true rfl) ⟨Nat.zero_le _, Nat.zero_le _⟩ dX6_curve_143 ?_
                have hh_2 : cnt S_1 (nn q) ≤ nn q := cnt_le _ _
                exact ctW_retI (v := (nI (cnt S_1 (nn q)))) (S_1, (upN (upN (upN (upN (upN (upN nb 0 ja) 1 jb) 2 jc) 3 jd) 4 je) 5 jf)) hx hb hr rfl dX6_curve_146 hlocks hS hP hD (by dsimp only; exact (curS_g hb6 hnz hev)) (curZ_g hb6 hnz hev)
              · refine lv_iload_n hx hb dX6_curve_76 rfl (lv_at hl 2 rfl) ?_
                refine nv_if_ne (tgt := 102) hx hb (by omega) dX6_curve_77 (by decide) (fun c77 => ?_) (fun c77 => ?_)
                · have hnz : ¬ zer6 (nI ja) (nI jb) (nI jc) (nI jd) (nI je) (nI jf) := fun z => by
                    rw [zer6, nv_nI (show ja < 2 ^ 31 by omega), nv_nI (show jb < 2 ^ 31 by omega), nv_nI (show jc < 2 ^ 31 by omega), nv_nI (show jd < 2 ^ 31 by omega), nv_nI (show je < 2 ^ 31 by omega), nv_nI (show jf < 2 ^ 31 by omega)] at z
                    omega
                  refine lv_aload_n hx hb dX6_curve_102 rfl (lv_at hl 0 rfl) ?_
                  refine va_get (D := D) (ci := 6) (v := .ref (ad 12)) (C := RX6) (T := TX6) (N := 7) hx hb hts hiX6 hown hK hP 16 rfl rfl 3 (by decide) hf37 (fun _ h9 => h9) rfl dX6_curve_103 ?_
                  refine lv_iload_n hx hb dX6_curve_106 rfl (lv_at hl 1 rfl) ?_
                  refine lv_iload_n hx hb dX6_curve_107 rfl (lv_at hl 2 rfl) ?_
                  refine lv_iload_n hx hb dX6_curve_108 rfl (lv_at hl 3 rfl) ?_
                  refine lv_iload hx hb dX6_curve_109 (lv_at hl 4 rfl) ?_
                  refine lv_iload hx hb dX6_curve_111 (lv_at hl 5 rfl) ?_
                  refine lv_iload hx hb dX6_curve_113 (lv_at hl 6 rfl) ?_
                  refine ctW_V (As := [.int (nI ja), .int (nI jb), .int (nI jc), .int (nI jd), .int (nI je), .int (nI jf)]) (rest := []) (wr := [(ad 0, .inr (1, [.int (nI q), .ref (ad 1), .ref (ad 2), .ref (ad 3), .ref (ad 4)])), (ad 1, .inl (cI, 81, .inl (nF sm))), (ad 2, .inl (cI, 81, .inl (nF pr))), (ad 3, .inl (cI, 9, .inl (nF op))), (ad 4, .inl (cI, 9, .inl (nF iv))), (ad 5, .inr (3, [.ref (ad 0), .int (nI (nn q)), .ref (ad 6), .ref (ad 7)])), (ad 6, .inl (cI, 273, .inl (nF tr))), (ad 7, .inl (cI, 910, .inl (nF ro))), (ad 8, .inr (4, [.ref (ad 5), .ref (ad 9), .ref (ad 10), .ref (ad 11)])), (ad 9, .inl (cZ, 91, .inl (bF S))), (ad 10, .inl (cZ, 91, .inl (bF gr))), (ad 11, .inl (cI, 91, .inl (nF ol))), (ad 14, .inl (cI, 30, .inl (nF mx))), (ad 15, .inl (cI, 5, .inl (nF pv))), (ad 26, .inr (6, [.ref (ad 0), .ref (ad 5), .ref (ad 8), .ref (ad 12), .ref (ad 16), .ref (ad 20), .ref (ad 24)]))]) ⟨hx, hb, hml, hown, hts⟩ (c_X0_choose l D cI cZ ad nb ja jb jc jd je jf) (cwV 6 hts gX6_curve_X0_choose rfl rfl rfl hdV_X0_choose ⟨Nat.le_of_ble_eq_true rfl, Nat.le_of_ble_eq_true rfl⟩) hK hN hP hD hS hA [12, 13] [0, 1, 2, 3, 4, 5, 6, 7, 8, 9, 10, 11, 14, 15, 16] rfl rfl rfl (by decide) (by decide) (by decide) 12 0 rfl rfl rfl hl.1 rfl (Nat.le_of_ble_eq_true rfl) ⟨Nat.zero_le _, Nat.zero_le _⟩ dX6_curve_115 (fun _ H locs hu115 hP hD hS => ?_)
                  try dsimp only at hu115
                  have hP : va_P D vwCl [(ad 0, .inr (1, [.int (nI q), .ref (ad 1), .ref (ad 2), .ref (ad 3), .ref (ad 4)])), (ad 1, .inl (cI, 81, .inl (nF sm))), (ad 2, .inl (cI, 81, .inl (nF pr))), (ad 3, .inl (cI, 9, .inl (nF op))), (ad 4, .inl (cI, 9, .inl (nF iv))), (ad 5, .inr (3, [.ref (ad 0), .int (nI (nn q)), .ref (ad 6), .ref (ad 7)])), (ad 6, .inl (cI, 273, .inl (nF tr))), (ad 7, .inl (cI, 910, .inl (nF ro))), (ad 8, .inr (4, [.ref (ad 5), .ref (ad 9), .ref (ad 10), .ref (ad 11)])), (ad 9, .inl (cZ, 91, .inl (bF S))), (ad 10, .inl (cZ, 91, .inl (bF gr))), (ad 11, .inl (cI, 91, .inl (nF ol))), (ad 12, .inr (0, [.ref (ad 5), .ref (ad 0), .ref (ad 13), .ref (ad 14), .ref (ad 15)])), (ad 13, .inl (cI, 6, .inl (nF (upN (upN (upN (upN (upN (upN nb 0 ja) 1 jb) 2 jc) 3 jd) 4 je) 5 jf)))), (ad 14, .inl (cI, 30, .inl (nF mx))), (ad 15, .inl (cI, 5, .inl (nF pv))), (ad 26, .inr (6, [.ref (ad 0), .ref (ad 5), .ref (ad 8), .ref (ad 12), .ref (ad 16), .ref (ad 20), .ref (ad 24)]))] H := hP.sub [0, 1, 2, 3, 4, 5, 6, 7, 8, 9, 10, 11, 15, 16, 12, 13, 14] rfl
                  have hD : va_D A [(ad 0, .inr (1, [.int (nI q), .ref (ad 1), .ref (ad 2), .ref (ad 3), .ref (ad 4)])), (ad 1, .inl (cI, 81, .inl (nF sm))), (ad 2, .inl (cI, 81, .inl (nF pr))), (ad 3, .inl (cI, 9, .inl (nF op))), (ad 4, .inl (cI, 9, .inl (nF iv))), (ad 5, .inr (3, [.ref (ad 0), .int (nI (nn q)), .ref (ad 6), .ref (ad 7)])), (ad 6, .inl (cI, 273, .inl (nF tr))), (ad 7, .inl (cI, 910, .inl (nF ro))), (ad 8, .inr (4, [.ref (ad 5), .ref (ad 9), .ref (ad 10), .ref (ad 11)])), (ad 9, .inl (cZ, 91, .inl (bF S))), (ad 10, .inl (cZ, 91, .inl (bF gr))), (ad 11, .inl (cI, 91, .inl (nF ol))), (ad 12, .inr (0, [.ref (ad 5), .ref (ad 0), .ref (ad 13), .ref (ad 14), .ref (ad 15)])), (ad 13, .inl (cI, 6, .inl (nF (upN (upN (upN (upN (upN (upN nb 0 ja) 1 jb) 2 jc) 3 jd) 4 je) 5 jf)))), (ad 14, .inl (cI, 30, .inl (nF mx))), (ad 15, .inl (cI, 5, .inl (nF pv))), (ad 26, .inr (6, [.ref (ad 0), .ref (ad 5), .ref (ad 8), .ref (ad 12), .ref (ad 16), .ref (ad 20), .ref (ad 24)]))] := hD.sub [0, 1, 2, 3, 4, 5, 6, 7, 8, 9, 10, 11, 15, 16, 12, 13, 14] (by decide) rfl
                  refine W.eq (g2 := F0 m 118 ls []) rfl ?_
                  refine lv_aload_n hx hb dX6_curve_118 rfl (lv_at hl 0 rfl) ?_
                  refine va_get (D := D) (ci := 6) (v := .ref (ad 12)) (C := RX6) (T := TX6) (N := 7) hx hb hts hiX6 hown hK hP 16 rfl rfl 3 (by decide) hf37 (fun _ h9 => h9) rfl dX6_curve_119 ?_
                  refine lv_aload_n hx hb dX6_curve_122 rfl (lv_at hl 0 rfl) ?_
                  refine va_get (D := D) (ci := 6) (v := .ref (ad 8)) (C := RX6) (T := TX6) (N := 7) hx hb hts hiX6 hown hK hP 16 rfl rfl 2 (by decide) hf30 (fun _ h9 => h9) rfl dX6_curve_123 ?_
                  refine va_getN (D := D) (ci := 4) (v := .ref (ad 9)) (C := RX4) (T := TX4) (N := 4) hx hb hts hiX4 hown hK hP 8 rfl rfl 1 (by decide) hf116 (fun _ h9 => h9) rfl dX6_curve_126 ?_
                  refine ctW_V (As := [.ref (ad 9)]) (rest := []) (wr := [(ad 8, .inr (4, [.ref (ad 5), .ref (ad 9), .ref (ad 10), .ref (ad 11)])), (ad 10, .inl (cZ, 91, .inl (bF gr))), (ad 11, .inl (cI, 91, .inl (nF ol))), (ad 14, .inl (cI, 30, .inl (nF mx))), (ad 15, .inl (cI, 5, .inl (nF pv))), (ad 26, .inr (6, [.ref (ad 0), .ref (ad 5), .ref (ad 8), .ref (ad 12), .ref (ad 16), .ref (ad 20), .ref (ad 24)]))]) ⟨hx, hb, hml, hown, hts⟩ (c_X0_copyPointsTo l D cI cZ ad q sm pr op iv hF tr ro hT (upN (upN (upN (upN (upN (upN nb 0 ja) 1 jb) 2 jc) 3 jd) 4 je) 5 jf) mx pv (ad 9) S (all6 hja hjb hjc hjd hje hjf)) (cwV 1 hts gX6_curve_X0_copyPointsTo rfl rfl rfl hdV_X0_copyPointsTo ⟨Nat.le_of_ble_eq_true rfl, Nat.le_of_ble_eq_true rfl⟩) hK hN hP hD hS hA [0, 1, 2, 3, 4, 5, 6, 7, 12, 13, 9] [8, 10, 11, 14, 15, 16] rfl rfl rfl (by decide) (by decide) (by decide) 12 0 rfl rfl rfl hl.1 rfl (Nat.le_of_ble_eq_true rfl) ⟨Nat.zero_le _, Nat.zero_le _⟩ dX6_curve_129 (fun S_3 H locs hu129 hP hD hS => ?_)
                  try dsimp only at hu129
                  have hP : va_P D vwCl [(ad 0, .inr (1, [.int (nI q), .ref (ad 1), .ref (ad 2), .ref (ad 3), .ref (ad 4)])), (ad 1, .inl (cI, 81, .inl (nF sm))), (ad 2, .inl (cI, 81, .inl (nF pr))), (ad 3, .inl (cI, 9, .inl (nF op))), (ad 4, .inl (cI, 9, .inl (nF iv))), (ad 5, .inr (3, [.ref (ad 0), .int (nI (nn q)), .ref (ad 6), .ref (ad 7)])), (ad 6, .inl (cI, 273, .inl (nF tr))), (ad 7, .inl (cI, 910, .inl (nF ro))), (ad 8, .inr (4, [.ref (ad 5), .ref (ad 9), .ref (ad 10), .ref (ad 11)])), (ad 9, .inl (cZ, 91, .inl (bF S_3))), (ad 10, .inl (cZ, 91, .inl (bF gr))), (ad 11, .inl (cI, 91, .inl (nF ol))), (ad 12, .inr (0, [.ref (ad 5), .ref (ad 0), .ref (ad 13), .ref (ad 14), .ref (ad 15)])), (ad 13, .inl (cI, 6, .inl (nF (upN (upN (upN (upN (upN (upN nb 0 ja) 1 jb) 2 jc) 3 jd) 4 je) 5 jf)))), (ad 14, .inl (cI, 30, .inl (nF mx))), (ad 15, .inl (cI, 5, .inl (nF pv))), (ad 26, .inr (6, [.ref (ad 0), .ref (ad 5), .ref (ad 8), .ref (ad 12), .ref (ad 16), .ref (ad 20), .ref (ad 24)]))] H := hP.sub [6, 7, 8, 9, 10, 11, 12, 13, 0, 16, 1, 2, 14, 15, 3, 4, 5] rfl
                  have hD : va_D A [(ad 0, .inr (1, [.int (nI q), .ref (ad 1), .ref (ad 2), .ref (ad 3), .ref (ad 4)])), (ad 1, .inl (cI, 81, .inl (nF sm))), (ad 2, .inl (cI, 81, .inl (nF pr))), (ad 3, .inl (cI, 9, .inl (nF op))), (ad 4, .inl (cI, 9, .inl (nF iv))), (ad 5, .inr (3, [.ref (ad 0), .int (nI (nn q)), .ref (ad 6), .ref (ad 7)])), (ad 6, .inl (cI, 273, .inl (nF tr))), (ad 7, .inl (cI, 910, .inl (nF ro))), (ad 8, .inr (4, [.ref (ad 5), .ref (ad 9), .ref (ad 10), .ref (ad 11)])), (ad 9, .inl (cZ, 91, .inl (bF S_3))), (ad 10, .inl (cZ, 91, .inl (bF gr))), (ad 11, .inl (cI, 91, .inl (nF ol))), (ad 12, .inr (0, [.ref (ad 5), .ref (ad 0), .ref (ad 13), .ref (ad 14), .ref (ad 15)])), (ad 13, .inl (cI, 6, .inl (nF (upN (upN (upN (upN (upN (upN nb 0 ja) 1 jb) 2 jc) 3 jd) 4 je) 5 jf)))), (ad 14, .inl (cI, 30, .inl (nF mx))), (ad 15, .inl (cI, 5, .inl (nF pv))), (ad 26, .inr (6, [.ref (ad 0), .ref (ad 5), .ref (ad 8), .ref (ad 12), .ref (ad 16), .ref (ad 20), .ref (ad 24)]))] := hD.sub [6, 7, 8, 9, 10, 11, 12, 13, 0, 16, 1, 2, 14, 15, 3, 4, 5] (by decide) rfl
                  refine W.eq (g2 := F0 m 132 ls []) rfl ?_
                  have hev : eqN (nn q) S_3 (cur6 q (nI ja) (nI jb) (nI jc) (nI jd) (nI je) (nI jf)) := fun t ht => by rw [hu129 t ht, cur6, nv_nI (show ja < 2 ^ 31 by omega), nv_nI (show jb < 2 ^ 31 by omega), nv_nI (show jc < 2 ^ 31 by omega), nv_nI (show jd < 2 ^ 31 by omega), nv_nI (show je < 2 ^ 31 by omega), nv_nI (show jf < 2 ^ 31 by omega)]; rfl
                  refine lv_aload_n hx hb dX6_curve_132 rfl (lv_at hl 0 rfl) ?_
                  refine va_get (D := D) (ci := 6) (v := .ref (ad 5)) (C := RX6) (T := TX6) (N := 7) hx hb hts hiX6 hown hK hP 16 rfl rfl 1 (by decide) hf21 (fun _ h9 => h9) rfl dX6_curve_133 ?_
                  refine lv_aload_n hx hb dX6_curve_136 rfl (lv_at hl 0 rfl) ?_
                  refine va_get (D := D) (ci := 6) (v := .ref (ad 8)) (C := RX6) (T := TX6) (N := 7) hx hb hts hiX6 hown hK hP 16 rfl rfl 2 (by decide) hf30 (fun _ h9 => h9) rfl dX6_curve_137 ?_
                  refine va_getN (D := D) (ci := 4) (v := .ref (ad 9)) (C := RX4) (T := TX4) (N := 4) hx hb hts hiX4 hown hK hP 8 rfl rfl 1 (by decide) hf116 (fun _ h9 => h9) rfl dX6_curve_140 ?_
                  refine ctR_V (As := [.ref (ad 9)]) (rest := []) (r := .int (nI (cnt S_3 (nn q)))) ⟨hx, hb, hml, hown, hts⟩ (c_X3_sizeOf l D cI cZ ad q sm pr op iv hF tr ro hT (ad 9) S_3) (cwV 1 hts gX6_curve_X3_sizeOf rfl rfl rfl hdV_X3_sizeOf ⟨Nat.le_of_ble_eq_true rfl, Nat.le_of_ble_eq_true rfl⟩) hK hN hP [0, 1, 2, 3, 4, 5, 6, 7, 9] rfl 5 3 rfl rfl rfl hl.1 rfl (Nat.le_of_ble_eq_true rfl) ⟨Nat.zero_le _, Nat.zero_le _⟩ dX6_curve_143 ?_
                  have hh_4 : cnt S_3 (nn q) ≤ nn q := cnt_le _ _
                  exact ctW_retI (v := (nI (cnt S_3 (nn q)))) (S_3, (upN (upN (upN (upN (upN (upN nb 0 ja) 1 jb) 2 jc) 3 jd) 4 je) 5 jf)) hx hb hr rfl dX6_curve_146 hlocks hS hP hD (by dsimp only; exact (curS_g hb6 hnz hev)) (curZ_g hb6 hnz hev)
                · refine lv_iload_n hx hb dX6_curve_80 rfl (lv_at hl 3 rfl) ?_
                  refine nv_if_ne (tgt := 102) hx hb (by omega) dX6_curve_81 (by decide) (fun c81 => ?_) (fun c81 => ?_)
                  · have hnz : ¬ zer6 (nI ja) (nI jb) (nI jc) (nI jd) (nI je) (nI jf) := fun z => by
                      rw [zer6, nv_nI (show ja < 2 ^ 31 by omega), nv_nI (show jb < 2 ^ 31 by omega), nv_nI (show jc < 2 ^ 31 by omega), nv_nI (show jd < 2 ^ 31 by omega), nv_nI (show je < 2 ^ 31 by omega), nv_nI (show jf < 2 ^ 31 by omega)] at z
                      omega
                    refine lv_aload_n hx hb dX6_curve_102 rfl (lv_at hl 0 rfl) ?_
                    refine va_get (D := D) (ci := 6) (v := .ref (ad 12)) (C := RX6) (T := TX6) (N := 7) hx hb hts hiX6 hown hK hP 16 rfl rfl 3 (by decide) hf37 (fun _ h9 => h9) rfl dX6_curve_103 ?_
                    refine lv_iload_n hx hb dX6_curve_106 rfl (lv_at hl 1 rfl) ?_
                    refine lv_iload_n hx hb dX6_curve_107 rfl (lv_at hl 2 rfl) ?_
                    refine lv_iload_n hx hb dX6_curve_108 rfl (lv_at hl 3 rfl) ?_
                    refine lv_iload hx hb dX6_curve_109 (lv_at hl 4 rfl) ?_
                    refine lv_iload hx hb dX6_curve_111 (lv_at hl 5 rfl) ?_
                    refine lv_iload hx hb dX6_curve_113 (lv_at hl 6 rfl) ?_
                    refine ctW_V (As := [.int (nI ja), .int (nI jb), .int (nI jc), .int (nI jd), .int (nI je), .int (nI jf)]) (rest := []) (wr := [(ad 0, .inr (1, [.int (nI q), .ref (ad 1), .ref (ad 2), .ref (ad 3), .ref (ad 4)])), (ad 1, .inl (cI, 81, .inl (nF sm))), (ad 2, .inl (cI, 81, .inl (nF pr))), (ad 3, .inl (cI, 9, .inl (nF op))), (ad 4, .inl (cI, 9, .inl (nF iv))), (ad 5, .inr (3, [.ref (ad 0), .int (nI (nn q)), .ref (ad 6), .ref (ad 7)])), (ad 6, .inl (cI, 273, .inl (nF tr))), (ad 7, .inl (cI, 910, .inl (nF ro))), (ad 8, .inr (4, [.ref (ad 5), .ref (ad 9), .ref (ad 10), .ref (ad 11)])), (ad 9, .inl (cZ, 91, .inl (bF S))), (ad 10, .inl (cZ, 91, .inl (bF gr))), (ad 11, .inl (cI, 91, .inl (nF ol))), (ad 14, .inl (cI, 30, .inl (nF mx))), (ad 15, .inl (cI, 5, .inl (nF pv))), (ad 26, .inr (6, [.ref (ad 0), .ref (ad 5), .ref (ad 8), .ref (ad 12), .ref (ad 16), .ref (ad 20), .ref (ad 24)]))]) ⟨hx, hb, hml, hown, hts⟩ (c_X0_choose l D cI cZ ad nb ja jb jc jd je jf) (cwV 6 hts gX6_curve_X0_choose rfl rfl rfl hdV_X0_choose ⟨Nat.le_of_ble_eq_true rfl, Nat.le_of_ble_eq_true rfl⟩) hK hN hP hD hS hA [12, 13] [0, 1, 2, 3, 4, 5, 6, 7, 8, 9, 10, 11, 14, 15, 16] rfl rfl rfl (by decide) (by decide) (by decide) 12 0 rfl rfl rfl hl.1 rfl (Nat.le_of_ble_eq_true rfl) ⟨Nat.zero_le _, Nat.zero_le _⟩ dX6_curve_115 (fun _ H locs hu115 hP hD hS => ?_)
                    try dsimp only at hu115
                    have hP : va_P D vwCl [(ad 0, .inr (1, [.int (nI q), .ref (ad 1), .ref (ad 2), .ref (ad 3), .ref (ad 4)])), (ad 1, .inl (cI, 81, .inl (nF sm))), (ad 2, .inl (cI, 81, .inl (nF pr))), (ad 3, .inl (cI, 9, .inl (nF op))), (ad 4, .inl (cI, 9, .inl (nF iv))), (ad 5, .inr (3, [.ref (ad 0), .int (nI (nn q)), .ref (ad 6), .ref (ad 7)])), (ad 6, .inl (cI, 273, .inl (nF tr))), (ad 7, .inl (cI, 910, .inl (nF ro))), (ad 8, .inr (4, [.ref (ad 5), .ref (ad 9), .ref (ad 10), .ref (ad 11)])), (ad 9, .inl (cZ, 91, .inl (bF S))), (ad 10, .inl (cZ, 91, .inl (bF gr))), (ad 11, .inl (cI, 91, .inl (nF ol))), (ad 12, .inr (0, [.ref (ad 5), .ref (ad 0), .ref (ad 13), .ref (ad 14), .ref (ad 15)])), (ad 13, .inl (cI, 6, .inl (nF (upN (upN (upN (upN (upN (upN nb 0 ja) 1 jb) 2 jc) 3 jd) 4 je) 5 jf)))), (ad 14, .inl (cI, 30, .inl (nF mx))), (ad 15, .inl (cI, 5, .inl (nF pv))), (ad 26, .inr (6, [.ref (ad 0), .ref (ad 5), .ref (ad 8), .ref (ad 12), .ref (ad 16), .ref (ad 20), .ref (ad 24)]))] H := hP.sub [0, 1, 2, 3, 4, 5, 6, 7, 8, 9, 10, 11, 15, 16, 12, 13, 14] rfl
                    have hD : va_D A [(ad 0, .inr (1, [.int (nI q), .ref (ad 1), .ref (ad 2), .ref (ad 3), .ref (ad 4)])), (ad 1, .inl (cI, 81, .inl (nF sm))), (ad 2, .inl (cI, 81, .inl (nF pr))), (ad 3, .inl (cI, 9, .inl (nF op))), (ad 4, .inl (cI, 9, .inl (nF iv))), (ad 5, .inr (3, [.ref (ad 0), .int (nI (nn q)), .ref (ad 6), .ref (ad 7)])), (ad 6, .inl (cI, 273, .inl (nF tr))), (ad 7, .inl (cI, 910, .inl (nF ro))), (ad 8, .inr (4, [.ref (ad 5), .ref (ad 9), .ref (ad 10), .ref (ad 11)])), (ad 9, .inl (cZ, 91, .inl (bF S))), (ad 10, .inl (cZ, 91, .inl (bF gr))), (ad 11, .inl (cI, 91, .inl (nF ol))), (ad 12, .inr (0, [.ref (ad 5), .ref (ad 0), .ref (ad 13), .ref (ad 14), .ref (ad 15)])), (ad 13, .inl (cI, 6, .inl (nF (upN (upN (upN (upN (upN (upN nb 0 ja) 1 jb) 2 jc) 3 jd) 4 je) 5 jf)))), (ad 14, .inl (cI, 30, .inl (nF mx))), (ad 15, .inl (cI, 5, .inl (nF pv))), (ad 26, .inr (6, [.ref (ad 0), .ref (ad 5), .ref (ad 8), .ref (ad 12), .ref (ad 16), .ref (ad 20), .ref (ad 24)]))] := hD.sub [0, 1, 2, 3, 4, 5, 6, 7, 8, 9, 10, 11, 15, 16, 12, 13, 14] (by decide) rfl
                    refine W.eq (g2 := F0 m 118 ls []) rfl ?_
                    refine lv_aload_n hx hb dX6_curve_118 rfl (lv_at hl 0 rfl) ?_
                    refine va_get (D := D) (ci := 6) (v := .ref (ad 12)) (C := RX6) (T := TX6) (N := 7) hx hb hts hiX6 hown hK hP 16 rfl rfl 3 (by decide) hf37 (fun _ h9 => h9) rfl dX6_curve_119 ?_
                    refine lv_aload_n hx hb dX6_curve_122 rfl (lv_at hl 0 rfl) ?_
                    refine va_get (D := D) (ci := 6) (v := .ref (ad 8)) (C := RX6) (T := TX6) (N := 7) hx hb hts hiX6 hown hK hP 16 rfl rfl 2 (by decide) hf30 (fun _ h9 => h9) rfl dX6_curve_123 ?_
                    refine va_getN (D := D) (ci := 4) (v := .ref (ad 9)) (C := RX4) (T := TX4) (N := 4) hx hb hts hiX4 hown hK hP 8 rfl rfl 1 (by decide) hf116 (fun _ h9 => h9) rfl dX6_curve_126 ?_
                    refine ctW_V (As := [.ref (ad 9)]) (rest := []) (wr := [(ad 8, .inr (4, [.ref (ad 5), .ref (ad 9), .ref (ad 10), .ref (ad 11)])), (ad 10, .inl (cZ, 91, .inl (bF gr))), (ad 11, .inl (cI, 91, .inl (nF ol))), (ad 14, .inl (cI, 30, .inl (nF mx))), (ad 15, .inl (cI, 5, .inl (nF pv))), (ad 26, .inr (6, [.ref (ad 0), .ref (ad 5), .ref (ad 8), .ref (ad 12), .ref (ad 16), .ref (ad 20), .ref (ad 24)]))]) ⟨hx, hb, hml, hown, hts⟩ (c_X0_copyPointsTo l D cI cZ ad q sm pr op iv hF tr ro hT (upN (upN (upN (upN (upN (upN nb 0 ja) 1 jb) 2 jc) 3 jd) 4 je) 5 jf) mx pv (ad 9) S (all6 hja hjb hjc hjd hje hjf)) (cwV 1 hts gX6_curve_X0_copyPointsTo rfl rfl rfl hdV_X0_copyPointsTo ⟨Nat.le_of_ble_eq_true rfl, Nat.le_of_ble_eq_true rfl⟩) hK hN hP hD hS hA [0, 1, 2, 3, 4, 5, 6, 7, 12, 13, 9] [8, 10, 11, 14, 15, 16] rfl rfl rfl (by decide) (by decide) (by decide) 12 0 rfl rfl rfl hl.1 rfl (Nat.le_of_ble_eq_true rfl) ⟨Nat.zero_le _, Nat.zero_le _⟩ dX6_curve_129 (fun S_5 H locs hu129 hP hD hS => ?_)
                    try dsimp only at hu129
                    have hP : va_P D vwCl [(ad 0, .inr (1, [.int (nI q), .ref (ad 1), .ref (ad 2), .ref (ad 3), .ref (ad 4)])), (ad 1, .inl (cI, 81, .inl (nF sm))), (ad 2, .inl (cI, 81, .inl (nF pr))), (ad 3, .inl (cI, 9, .inl (nF op))), (ad 4, .inl (cI, 9, .inl (nF iv))), (ad 5, .inr (3, [.ref (ad 0), .int (nI (nn q)), .ref (ad 6), .ref (ad 7)])), (ad 6, .inl (cI, 273, .inl (nF tr))), (ad 7, .inl (cI, 910, .inl (nF ro))), (ad 8, .inr (4, [.ref (ad 5), .ref (ad 9), .ref (ad 10), .ref (ad 11)])), (ad 9, .inl (cZ, 91, .inl (bF S_5))), (ad 10, .inl (cZ, 91, .inl (bF gr))), (ad 11, .inl (cI, 91, .inl (nF ol))), (ad 12, .inr (0, [.ref (ad 5), .ref (ad 0), .ref (ad 13), .ref (ad 14), .ref (ad 15)])), (ad 13, .inl (cI, 6, .inl (nF (upN (upN (upN (upN (upN (upN nb 0 ja) 1 jb) 2 jc) 3 jd) 4 je) 5 jf)))), (ad 14, .inl (cI, 30, .inl (nF mx))), (ad 15, .inl (cI, 5, .inl (nF pv))), (ad 26, .inr (6, [.ref (ad 0), .ref (ad 5), .ref (ad 8), .ref (ad 12), .ref (ad 16), .ref (ad 20), .ref (ad 24)]))] H := hP.sub [6, 7, 8, 9, 10, 11, 12, 13, 0, 16, 1, 2, 14, 15, 3, 4, 5] rfl
                    have hD : va_D A [(ad 0, .inr (1, [.int (nI q), .ref (ad 1), .ref (ad 2), .ref (ad 3), .ref (ad 4)])), (ad 1, .inl (cI, 81, .inl (nF sm))), (ad 2, .inl (cI, 81, .inl (nF pr))), (ad 3, .inl (cI, 9, .inl (nF op))), (ad 4, .inl (cI, 9, .inl (nF iv))), (ad 5, .inr (3, [.ref (ad 0), .int (nI (nn q)), .ref (ad 6), .ref (ad 7)])), (ad 6, .inl (cI, 273, .inl (nF tr))), (ad 7, .inl (cI, 910, .inl (nF ro))), (ad 8, .inr (4, [.ref (ad 5), .ref (ad 9), .ref (ad 10), .ref (ad 11)])), (ad 9, .inl (cZ, 91, .inl (bF S_5))), (ad 10, .inl (cZ, 91, .inl (bF gr))), (ad 11, .inl (cI, 91, .inl (nF ol))), (ad 12, .inr (0, [.ref (ad 5), .ref (ad 0), .ref (ad 13), .ref (ad 14), .ref (ad 15)])), (ad 13, .inl (cI, 6, .inl (nF (upN (upN (upN (upN (upN (upN nb 0 ja) 1 jb) 2 jc) 3 jd) 4 je) 5 jf)))), (ad 14, .inl (cI, 30, .inl (nF mx))), (ad 15, .inl (cI, 5, .inl (nF pv))), (ad 26, .inr (6, [.ref (ad 0), .ref (ad 5), .ref (ad 8), .ref (ad 12), .ref (ad 16), .ref (ad 20), .ref (ad 24)]))] := hD.sub [6, 7, 8, 9, 10, 11, 12, 13, 0, 16, 1, 2, 14, 15, 3, 4, 5] (by decide) rfl
                    refine W.eq (g2 := F0 m 132 ls []) rfl ?_
                    have hev : eqN (nn q) S_5 (cur6 q (nI ja) (nI jb) (nI jc) (nI jd) (nI je) (nI jf)) := fun t ht => by rw [hu129 t ht, cur6, nv_nI (show ja < 2 ^ 31 by omega), nv_nI (show jb < 2 ^ 31 by omega), nv_nI (show jc < 2 ^ 31 by omega), nv_nI (show jd < 2 ^ 31 by omega), nv_nI (show je < 2 ^ 31 by omega), nv_nI (show jf < 2 ^ 31 by omega)]; rfl
                    refine lv_aload_n hx hb dX6_curve_132 rfl (lv_at hl 0 rfl) ?_
                    refine va_get (D := D) (ci := 6) (v := .ref (ad 5)) (C := RX6) (T := TX6) (N := 7) hx hb hts hiX6 hown hK hP 16 rfl rfl 1 (by decide) hf21 (fun _ h9 => h9) rfl dX6_curve_133 ?_
                    refine lv_aload_n hx hb dX6_curve_136 rfl (lv_at hl 0 rfl) ?_
                    refine va_get (D := D) (ci := 6) (v := .ref (ad 8)) (C := RX6) (T := TX6) (N := 7) hx hb hts hiX6 hown hK hP 16 rfl rfl 2 (by decide) hf30 (fun _ h9 => h9) rfl dX6_curve_137 ?_
                    refine va_getN (D := D) (ci := 4) (v := .ref (ad 9)) (C := RX4) (T := TX4) (N := 4) hx hb hts hiX4 hown hK hP 8 rfl rfl 1 (by decide) hf116 (fun _ h9 => h9) rfl dX6_curve_140 ?_
                    refine ctR_V (As := [.ref (ad 9)]) (rest := []) (r := .int (nI (cnt S_5 (nn q)))) ⟨hx, hb, hml, hown, hts⟩ (c_X3_sizeOf l D cI cZ ad q sm pr op iv hF tr ro hT (ad 9) S_5) (cwV 1 hts gX6_curve_X3_sizeOf rfl rfl rfl hdV_X3_sizeOf ⟨Nat.le_of_ble_eq_true rfl, Nat.le_of_ble_eq_true rfl⟩) hK hN hP [0, 1, 2, 3, 4, 5, 6, 7, 9] rfl 5 3 rfl rfl rfl hl.1 rfl (Nat.le_of_ble_eq_true rfl) ⟨Nat.zero_le _, Nat.zero_le _⟩ dX6_curve_143 ?_
                    have hh_6 : cnt S_5 (nn q) ≤ nn q := cnt_le _ _
                    exact ctW_retI (v := (nI (cnt S_5 (nn q)))) (S_5, (upN (upN (upN (upN (upN (upN nb 0 ja) 1 jb) 2 jc) 3 jd) 4 je) 5 jf)) hx hb hr rfl dX6_curve_146 hlocks hS hP hD (by dsimp only; exact (curS_g hb6 hnz hev)) (curZ_g hb6 hnz hev)
                  · refine lv_iload hx hb dX6_curve_84 (lv_at hl 4 rfl) ?_
                    refine nv_if_ne (tgt := 102) hx hb (by omega) dX6_curve_86 (by decide) (fun c86 => ?_) (fun c86 => ?_)
                    · have hnz : ¬ zer6 (nI ja) (nI jb) (nI jc) (nI jd) (nI je) (nI jf) := fun z => by
                        rw [zer6, nv_nI (show ja < 2 ^ 31 by omega), nv_nI (show jb < 2 ^ 31 by omega), nv_nI (show jc < 2 ^ 31 by omega), nv_nI (show jd < 2 ^ 31 by omega), nv_nI (show je < 2 ^ 31 by omega), nv_nI (show jf < 2 ^ 31 by omega)] at z
                        omega
                      refine lv_aload_n hx hb dX6_curve_102 rfl (lv_at hl 0 rfl) ?_
                      refine va_get (D := D) (ci := 6) (v := .ref (ad 12)) (C := RX6) (T := TX6) (N := 7) hx hb hts hiX6 hown hK hP 16 rfl rfl 3 (by decide) hf37 (fun _ h9 => h9) rfl dX6_curve_103 ?_
                      refine lv_iload_n hx hb dX6_curve_106 rfl (lv_at hl 1 rfl) ?_
                      refine lv_iload_n hx hb dX6_curve_107 rfl (lv_at hl 2 rfl) ?_
                      refine lv_iload_n hx hb dX6_curve_108 rfl (lv_at hl 3 rfl) ?_
                      refine lv_iload hx hb dX6_curve_109 (lv_at hl 4 rfl) ?_
                      refine lv_iload hx hb dX6_curve_111 (lv_at hl 5 rfl) ?_
                      refine lv_iload hx hb dX6_curve_113 (lv_at hl 6 rfl) ?_
                      refine ctW_V (As := [.int (nI ja), .int (nI jb), .int (nI jc), .int (nI jd), .int (nI je), .int (nI jf)]) (rest := []) (wr := [(ad 0, .inr (1, [.int (nI q), .ref (ad 1), .ref (ad 2), .ref (ad 3), .ref (ad 4)])), (ad 1, .inl (cI, 81, .inl (nF sm))), (ad 2, .inl (cI, 81, .inl (nF pr))), (ad 3, .inl (cI, 9, .inl (nF op))), (ad 4, .inl (cI, 9, .inl (nF iv))), (ad 5, .inr (3, [.ref (ad 0), .int (nI (nn q)), .ref (ad 6), .ref (ad 7)])), (ad 6, .inl (cI, 273, .inl (nF tr))), (ad 7, .inl (cI, 910, .inl (nF ro))), (ad 8, .inr (4, [.ref (ad 5), .ref (ad 9), .ref (ad 10), .ref (ad 11)])), (ad 9, .inl (cZ, 91, .inl (bF S))), (ad 10, .inl (cZ, 91, .inl (bF gr))), (ad 11, .inl (cI, 91, .inl (nF ol))), (ad 14, .inl (cI, 30, .inl (nF mx))), (ad 15, .inl (cI, 5, .inl (nF pv))), (ad 26, .inr (6, [.ref (ad 0), .ref (ad 5), .ref (ad 8), .ref (ad 12), .ref (ad 16), .ref (ad 20), .ref (ad 24)]))]) ⟨hx, hb, hml, hown, hts⟩ (c_X0_choose l D cI cZ ad nb ja jb jc jd je jf) (cwV 6 hts gX6_curve_X0_choose rfl rfl rfl hdV_X0_choose ⟨Nat.le_of_ble_eq_true rfl, Nat.le_of_ble_eq_true rfl⟩) hK hN hP hD hS hA [12, 13] [0, 1, 2, 3, 4, 5, 6, 7, 8, 9, 10, 11, 14, 15, 16] rfl rfl rfl (by decide) (by decide) (by decide) 12 0 rfl rfl rfl hl.1 rfl (Nat.le_of_ble_eq_true rfl) ⟨Nat.zero_le _, Nat.zero_le _⟩ dX6_curve_115 (fun _ H locs hu115 hP hD hS => ?_)
                      try dsimp only at hu115
                      have hP : va_P D vwCl [(ad 0, .inr (1, [.int (nI q), .ref (ad 1), .ref (ad 2), .ref (ad 3), .ref (ad 4)])), (ad 1, .inl (cI, 81, .inl (nF sm))), (ad 2, .inl (cI, 81, .inl (nF pr))), (ad 3, .inl (cI, 9, .inl (nF op))), (ad 4, .inl (cI, 9, .inl (nF iv))), (ad 5, .inr (3, [.ref (ad 0), .int (nI (nn q)), .ref (ad 6), .ref (ad 7)])), (ad 6, .inl (cI, 273, .inl (nF tr))), (ad 7, .inl (cI, 910, .inl (nF ro))), (ad 8, .inr (4, [.ref (ad 5), .ref (ad 9), .ref (ad 10), .ref (ad 11)])), (ad 9, .inl (cZ, 91, .inl (bF S))), (ad 10, .inl (cZ, 91, .inl (bF gr))), (ad 11, .inl (cI, 91, .inl (nF ol))), (ad 12, .inr (0, [.ref (ad 5), .ref (ad 0), .ref (ad 13), .ref (ad 14), .ref (ad 15)])), (ad 13, .inl (cI, 6, .inl (nF (upN (upN (upN (upN (upN (upN nb 0 ja) 1 jb) 2 jc) 3 jd) 4 je) 5 jf)))), (ad 14, .inl (cI, 30, .inl (nF mx))), (ad 15, .inl (cI, 5, .inl (nF pv))), (ad 26, .inr (6, [.ref (ad 0), .ref (ad 5), .ref (ad 8), .ref (ad 12), .ref (ad 16), .ref (ad 20), .ref (ad 24)]))] H := hP.sub [0, 1, 2, 3, 4, 5, 6, 7, 8, 9, 10, 11, 15, 16, 12, 13, 14] rfl
                      have hD : va_D A [(ad 0, .inr (1, [.int (nI q), .ref (ad 1), .ref (ad 2), .ref (ad 3), .ref (ad 4)])), (ad 1, .inl (cI, 81, .inl (nF sm))), (ad 2, .inl (cI, 81, .inl (nF pr))), (ad 3, .inl (cI, 9, .inl (nF op))), (ad 4, .inl (cI, 9, .inl (nF iv))), (ad 5, .inr (3, [.ref (ad 0), .int (nI (nn q)), .ref (ad 6), .ref (ad 7)])), (ad 6, .inl (cI, 273, .inl (nF tr))), (ad 7, .inl (cI, 910, .inl (nF ro))), (ad 8, .inr (4, [.ref (ad 5), .ref (ad 9), .ref (ad 10), .ref (ad 11)])), (ad 9, .inl (cZ, 91, .inl (bF S))), (ad 10, .inl (cZ, 91, .inl (bF gr))), (ad 11, .inl (cI, 91, .inl (nF ol))), (ad 12, .inr (0, [.ref (ad 5), .ref (ad 0), .ref (ad 13), .ref (ad 14), .ref (ad 15)])), (ad 13, .inl (cI, 6, .inl (nF (upN (upN (upN (upN (upN (upN nb 0 ja) 1 jb) 2 jc) 3 jd) 4 je) 5 jf)))), (ad 14, .inl (cI, 30, .inl (nF mx))), (ad 15, .inl (cI, 5, .inl (nF pv))), (ad 26, .inr (6, [.ref (ad 0), .ref (ad 5), .ref (ad 8), .ref (ad 12), .ref (ad 16), .ref (ad 20), .ref (ad 24)]))] := hD.sub [0, 1, 2, 3, 4, 5, 6, 7, 8, 9, 10, 11, 15, 16, 12, 13, 14] (by decide) rfl
                      refine W.eq (g2 := F0 m 118 ls []) rfl ?_
                      refine lv_aload_n hx hb dX6_curve_118 rfl (lv_at hl 0 rfl) ?_
                      refine va_get (D := D) (ci := 6) (v := .ref (ad 12)) (C := RX6) (T := TX6) (N := 7) hx hb hts hiX6 hown hK hP 16 rfl rfl 3 (by decide) hf37 (fun _ h9 => h9) rfl dX6_curve_119 ?_
                      refine lv_aload_n hx hb dX6_curve_122 rfl (lv_at hl 0 rfl) ?_
                      refine va_get (D := D) (ci := 6) (v := .ref (ad 8)) (C := RX6) (T := TX6) (N := 7) hx hb hts hiX6 hown hK hP 16 rfl rfl 2 (by decide) hf30 (fun _ h9 => h9) rfl dX6_curve_123 ?_
                      refine va_getN (D := D) (ci := 4) (v := .ref (ad 9)) (C := RX4) (T := TX4) (N := 4) hx hb hts hiX4 hown hK hP 8 rfl rfl 1 (by decide) hf116 (fun _ h9 => h9) rfl dX6_curve_126 ?_
                      refine ctW_V (As := [.ref (ad 9)]) (rest := []) (wr := [(ad 8, .inr (4, [.ref (ad 5), .ref (ad 9), .ref (ad 10), .ref (ad 11)])), (ad 10, .inl (cZ, 91, .inl (bF gr))), (ad 11, .inl (cI, 91, .inl (nF ol))), (ad 14, .inl (cI, 30, .inl (nF mx))), (ad 15, .inl (cI, 5, .inl (nF pv))), (ad 26, .inr (6, [.ref (ad 0), .ref (ad 5), .ref (ad 8), .ref (ad 12), .ref (ad 16), .ref (ad 20), .ref (ad 24)]))]) ⟨hx, hb, hml, hown, hts⟩ (c_X0_copyPointsTo l D cI cZ ad q sm pr op iv hF tr ro hT (upN (upN (upN (upN (upN (upN nb 0 ja) 1 jb) 2 jc) 3 jd) 4 je) 5 jf) mx pv (ad 9) S (all6 hja hjb hjc hjd hje hjf)) (cwV 1 hts gX6_curve_X0_copyPointsTo rfl rfl rfl hdV_X0_copyPointsTo ⟨Nat.le_of_ble_eq_true rfl, Nat.le_of_ble_eq_true rfl⟩) hK hN hP hD hS hA [0, 1, 2, 3, 4, 5, 6, 7, 12, 13, 9] [8, 10, 11, 14, 15, 16] rfl rfl rfl (by decide) (by decide) (by decide) 12 0 rfl rfl rfl hl.1 rfl (Nat.le_of_ble_eq_true rfl) ⟨Nat.zero_le _, Nat.zero_le _⟩ dX6_curve_129 (fun S_7 H locs hu129 hP hD hS => ?_)
                      try dsimp only at hu129
                      have hP : va_P D vwCl [(ad 0, .inr (1, [.int (nI q), .ref (ad 1), .ref (ad 2), .ref (ad 3), .ref (ad 4)])), (ad 1, .inl (cI, 81, .inl (nF sm))), (ad 2, .inl (cI, 81, .inl (nF pr))), (ad 3, .inl (cI, 9, .inl (nF op))), (ad 4, .inl (cI, 9, .inl (nF iv))), (ad 5, .inr (3, [.ref (ad 0), .int (nI (nn q)), .ref (ad 6), .ref (ad 7)])), (ad 6, .inl (cI, 273, .inl (nF tr))), (ad 7, .inl (cI, 910, .inl (nF ro))), (ad 8, .inr (4, [.ref (ad 5), .ref (ad 9), .ref (ad 10), .ref (ad 11)])), (ad 9, .inl (cZ, 91, .inl (bF S_7))), (ad 10, .inl (cZ, 91, .inl (bF gr))), (ad 11, .inl (cI, 91, .inl (nF ol))), (ad 12, .inr (0, [.ref (ad 5), .ref (ad 0), .ref (ad 13), .ref (ad 14), .ref (ad 15)])), (ad 13, .inl (cI, 6, .inl (nF (upN (upN (upN (upN (upN (upN nb 0 ja) 1 jb) 2 jc) 3 jd) 4 je) 5 jf)))), (ad 14, .inl (cI, 30, .inl (nF mx))), (ad 15, .inl (cI, 5, .inl (nF pv))), (ad 26, .inr (6, [.ref (ad 0), .ref (ad 5), .ref (ad 8), .ref (ad 12), .ref (ad 16), .ref (ad 20), .ref (ad 24)]))] H := hP.sub [6, 7, 8, 9, 10, 11, 12, 13, 0, 16, 1, 2, 14, 15, 3, 4, 5] rfl
                      have hD : va_D A [(ad 0, .inr (1, [.int (nI q), .ref (ad 1), .ref (ad 2), .ref (ad 3), .ref (ad 4)])), (ad 1, .inl (cI, 81, .inl (nF sm))), (ad 2, .inl (cI, 81, .inl (nF pr))), (ad 3, .inl (cI, 9, .inl (nF op))), (ad 4, .inl (cI, 9, .inl (nF iv))), (ad 5, .inr (3, [.ref (ad 0), .int (nI (nn q)), .ref (ad 6), .ref (ad 7)])), (ad 6, .inl (cI, 273, .inl (nF tr))), (ad 7, .inl (cI, 910, .inl (nF ro))), (ad 8, .inr (4, [.ref (ad 5), .ref (ad 9), .ref (ad 10), .ref (ad 11)])), (ad 9, .inl (cZ, 91, .inl (bF S_7))), (ad 10, .inl (cZ, 91, .inl (bF gr))), (ad 11, .inl (cI, 91, .inl (nF ol))), (ad 12, .inr (0, [.ref (ad 5), .ref (ad 0), .ref (ad 13), .ref (ad 14), .ref (ad 15)])), (ad 13, .inl (cI, 6, .inl (nF (upN (upN (upN (upN (upN (upN nb 0 ja) 1 jb) 2 jc) 3 jd) 4 je) 5 jf)))), (ad 14, .inl (cI, 30, .inl (nF mx))), (ad 15, .inl (cI, 5, .inl (nF pv))), (ad 26, .inr (6, [.ref (ad 0), .ref (ad 5), .ref (ad 8), .ref (ad 12), .ref (ad 16), .ref (ad 20), .ref (ad 24)]))] := hD.sub [6, 7, 8, 9, 10, 11, 12, 13, 0, 16, 1, 2, 14, 15, 3, 4, 5] (by decide) rfl
                      refine W.eq (g2 := F0 m 132 ls []) rfl ?_
                      have hev : eqN (nn q) S_7 (cur6 q (nI ja) (nI jb) (nI jc) (nI jd) (nI je) (nI jf)) := fun t ht => by rw [hu129 t ht, cur6, nv_nI (show ja < 2 ^ 31 by omega), nv_nI (show jb < 2 ^ 31 by omega), nv_nI (show jc < 2 ^ 31 by omega), nv_nI (show jd < 2 ^ 31 by omega), nv_nI (show je < 2 ^ 31 by omega), nv_nI (show jf < 2 ^ 31 by omega)]; rfl
                      refine lv_aload_n hx hb dX6_curve_132 rfl (lv_at hl 0 rfl) ?_
                      refine va_get (D := D) (ci := 6) (v := .ref (ad 5)) (C := RX6) (T := TX6) (N := 7) hx hb hts hiX6 hown hK hP 16 rfl rfl 1 (by decide) hf21 (fun _ h9 => h9) rfl dX6_curve_133 ?_
                      refine lv_aload_n hx hb dX6_curve_136 rfl (lv_at hl 0 rfl) ?_
                      refine va_get (D := D) (ci := 6) (v := .ref (ad 8)) (C := RX6) (T := TX6) (N := 7) hx hb hts hiX6 hown hK hP 16 rfl rfl 2 (by decide) hf30 (fun _ h9 => h9) rfl dX6_curve_137 ?_
                      refine va_getN (D := D) (ci := 4) (v := .ref (ad 9)) (C := RX4) (T := TX4) (N := 4) hx hb hts hiX4 hown hK hP 8 rfl rfl 1 (by decide) hf116 (fun _ h9 => h9) rfl dX6_curve_140 ?_
                      refine ctR_V (As := [.ref (ad 9)]) (rest := []) (r := .int (nI (cnt S_7 (nn q)))) ⟨hx, hb, hml, hown, hts⟩ (c_X3_sizeOf l D cI cZ ad q sm pr op iv hF tr ro hT (ad 9) S_7) (cwV 1 hts gX6_curve_X3_sizeOf rfl rfl rfl hdV_X3_sizeOf ⟨Nat.le_of_ble_eq_true rfl, Nat.le_of_ble_eq_true rfl⟩) hK hN hP [0, 1, 2, 3, 4, 5, 6, 7, 9] rfl 5 3 rfl rfl rfl hl.1 rfl (Nat.le_of_ble_eq_true rfl) ⟨Nat.zero_le _, Nat.zero_le _⟩ dX6_curve_143 ?_
                      have hh_8 : cnt S_7 (nn q) ≤ nn q := cnt_le _ _
                      exact ctW_retI (v := (nI (cnt S_7 (nn q)))) (S_7, (upN (upN (upN (upN (upN (upN nb 0 ja) 1 jb) 2 jc) 3 jd) 4 je) 5 jf)) hx hb hr rfl dX6_curve_146 hlocks hS hP hD (by dsimp only; exact (curS_g hb6 hnz hev)) (curZ_g hb6 hnz hev)
                    · refine lv_iload hx hb dX6_curve_89 (lv_at hl 5 rfl) ?_
                      refine nv_if_ne (tgt := 102) hx hb (by omega) dX6_curve_91 (by decide) (fun c91 => ?_) (fun c91 => ?_)
                      · have hnz : ¬ zer6 (nI ja) (nI jb) (nI jc) (nI jd) (nI je) (nI jf) := fun z => by
                          rw [zer6, nv_nI (show ja < 2 ^ 31 by omega), nv_nI (show jb < 2 ^ 31 by omega), nv_nI (show jc < 2 ^ 31 by omega), nv_nI (show jd < 2 ^ 31 by omega), nv_nI (show je < 2 ^ 31 by omega), nv_nI (show jf < 2 ^ 31 by omega)] at z
                          omega
                        refine lv_aload_n hx hb dX6_curve_102 rfl (lv_at hl 0 rfl) ?_
                        refine va_get (D := D) (ci := 6) (v := .ref (ad 12)) (C := RX6) (T := TX6) (N := 7) hx hb hts hiX6 hown hK hP 16 rfl rfl 3 (by decide) hf37 (fun _ h9 => h9) rfl dX6_curve_103 ?_
                        refine lv_iload_n hx hb dX6_curve_106 rfl (lv_at hl 1 rfl) ?_
                        refine lv_iload_n hx hb dX6_curve_107 rfl (lv_at hl 2 rfl) ?_
                        refine lv_iload_n hx hb dX6_curve_108 rfl (lv_at hl 3 rfl) ?_
                        refine lv_iload hx hb dX6_curve_109 (lv_at hl 4 rfl) ?_
                        refine lv_iload hx hb dX6_curve_111 (lv_at hl 5 rfl) ?_
                        refine lv_iload hx hb dX6_curve_113 (lv_at hl 6 rfl) ?_
                        refine ctW_V (As := [.int (nI ja), .int (nI jb), .int (nI jc), .int (nI jd), .int (nI je), .int (nI jf)]) (rest := []) (wr := [(ad 0, .inr (1, [.int (nI q), .ref (ad 1), .ref (ad 2), .ref (ad 3), .ref (ad 4)])), (ad 1, .inl (cI, 81, .inl (nF sm))), (ad 2, .inl (cI, 81, .inl (nF pr))), (ad 3, .inl (cI, 9, .inl (nF op))), (ad 4, .inl (cI, 9, .inl (nF iv))), (ad 5, .inr (3, [.ref (ad 0), .int (nI (nn q)), .ref (ad 6), .ref (ad 7)])), (ad 6, .inl (cI, 273, .inl (nF tr))), (ad 7, .inl (cI, 910, .inl (nF ro))), (ad 8, .inr (4, [.ref (ad 5), .ref (ad 9), .ref (ad 10), .ref (ad 11)])), (ad 9, .inl (cZ, 91, .inl (bF S))), (ad 10, .inl (cZ, 91, .inl (bF gr))), (ad 11, .inl (cI, 91, .inl (nF ol))), (ad 14, .inl (cI, 30, .inl (nF mx))), (ad 15, .inl (cI, 5, .inl (nF pv))), (ad 26, .inr (6, [.ref (ad 0), .ref (ad 5), .ref (ad 8), .ref (ad 12), .ref (ad 16), .ref (ad 20), .ref (ad 24)]))]) ⟨hx, hb, hml, hown, hts⟩ (c_X0_choose l D cI cZ ad nb ja jb jc jd je jf) (cwV 6 hts gX6_curve_X0_choose rfl rfl rfl hdV_X0_choose ⟨Nat.le_of_ble_eq_true rfl, Nat.le_of_ble_eq_true rfl⟩) hK hN hP hD hS hA [12, 13] [0, 1, 2, 3, 4, 5, 6, 7, 8, 9, 10, 11, 14, 15, 16] rfl rfl rfl (by decide) (by decide) (by decide) 12 0 rfl rfl rfl hl.1 rfl (Nat.le_of_ble_eq_true rfl) ⟨Nat.zero_le _, Nat.zero_le _⟩ dX6_curve_115 (fun _ H locs hu115 hP hD hS => ?_)
                        try dsimp only at hu115
                        have hP : va_P D vwCl [(ad 0, .inr (1, [.int (nI q), .ref (ad 1), .ref (ad 2), .ref (ad 3), .ref (ad 4)])), (ad 1, .inl (cI, 81, .inl (nF sm))), (ad 2, .inl (cI, 81, .inl (nF pr))), (ad 3, .inl (cI, 9, .inl (nF op))), (ad 4, .inl (cI, 9, .inl (nF iv))), (ad 5, .inr (3, [.ref (ad 0), .int (nI (nn q)), .ref (ad 6), .ref (ad 7)])), (ad 6, .inl (cI, 273, .inl (nF tr))), (ad 7, .inl (cI, 910, .inl (nF ro))), (ad 8, .inr (4, [.ref (ad 5), .ref (ad 9), .ref (ad 10), .ref (ad 11)])), (ad 9, .inl (cZ, 91, .inl (bF S))), (ad 10, .inl (cZ, 91, .inl (bF gr))), (ad 11, .inl (cI, 91, .inl (nF ol))), (ad 12, .inr (0, [.ref (ad 5), .ref (ad 0), .ref (ad 13), .ref (ad 14), .ref (ad 15)])), (ad 13, .inl (cI, 6, .inl (nF (upN (upN (upN (upN (upN (upN nb 0 ja) 1 jb) 2 jc) 3 jd) 4 je) 5 jf)))), (ad 14, .inl (cI, 30, .inl (nF mx))), (ad 15, .inl (cI, 5, .inl (nF pv))), (ad 26, .inr (6, [.ref (ad 0), .ref (ad 5), .ref (ad 8), .ref (ad 12), .ref (ad 16), .ref (ad 20), .ref (ad 24)]))] H := hP.sub [0, 1, 2, 3, 4, 5, 6, 7, 8, 9, 10, 11, 15, 16, 12, 13, 14] rfl
                        have hD : va_D A [(ad 0, .inr (1, [.int (nI q), .ref (ad 1), .ref (ad 2), .ref (ad 3), .ref (ad 4)])), (ad 1, .inl (cI, 81, .inl (nF sm))), (ad 2, .inl (cI, 81, .inl (nF pr))), (ad 3, .inl (cI, 9, .inl (nF op))), (ad 4, .inl (cI, 9, .inl (nF iv))), (ad 5, .inr (3, [.ref (ad 0), .int (nI (nn q)), .ref (ad 6), .ref (ad 7)])), (ad 6, .inl (cI, 273, .inl (nF tr))), (ad 7, .inl (cI, 910, .inl (nF ro))), (ad 8, .inr (4, [.ref (ad 5), .ref (ad 9), .ref (ad 10), .ref (ad 11)])), (ad 9, .inl (cZ, 91, .inl (bF S))), (ad 10, .inl (cZ, 91, .inl (bF gr))), (ad 11, .inl (cI, 91, .inl (nF ol))), (ad 12, .inr (0, [.ref (ad 5), .ref (ad 0), .ref (ad 13), .ref (ad 14), .ref (ad 15)])), (ad 13, .inl (cI, 6, .inl (nF (upN (upN (upN (upN (upN (upN nb 0 ja) 1 jb) 2 jc) 3 jd) 4 je) 5 jf)))), (ad 14, .inl (cI, 30, .inl (nF mx))), (ad 15, .inl (cI, 5, .inl (nF pv))), (ad 26, .inr (6, [.ref (ad 0), .ref (ad 5), .ref (ad 8), .ref (ad 12), .ref (ad 16), .ref (ad 20), .ref (ad 24)]))] := hD.sub [0, 1, 2, 3, 4, 5, 6, 7, 8, 9, 10, 11, 15, 16, 12, 13, 14] (by decide) rfl
                        refine W.eq (g2 := F0 m 118 ls []) rfl ?_
                        refine lv_aload_n hx hb dX6_curve_118 rfl (lv_at hl 0 rfl) ?_
                        refine va_get (D := D) (ci := 6) (v := .ref (ad 12)) (C := RX6) (T := TX6) (N := 7) hx hb hts hiX6 hown hK hP 16 rfl rfl 3 (by decide) hf37 (fun _ h9 => h9) rfl dX6_curve_119 ?_
                        refine lv_aload_n hx hb dX6_curve_122 rfl (lv_at hl 0 rfl) ?_
                        refine va_get (D := D) (ci := 6) (v := .ref (ad 8)) (C := RX6) (T := TX6) (N := 7) hx hb hts hiX6 hown hK hP 16 rfl rfl 2 (by decide) hf30 (fun _ h9 => h9) rfl dX6_curve_123 ?_
                        refine va_getN (D := D) (ci := 4) (v := .ref (ad 9)) (C := RX4) (T := TX4) (N := 4) hx hb hts hiX4 hown hK hP 8 rfl rfl 1 (by decide) hf116 (fun _ h9 => h9) rfl dX6_curve_126 ?_
                        refine ctW_V (As := [.ref (ad 9)]) (rest := []) (wr := [(ad 8, .inr (4, [.ref (ad 5), .ref (ad 9), .ref (ad 10), .ref (ad 11)])), (ad 10, .inl (cZ, 91, .inl (bF gr))), (ad 11, .inl (cI, 91, .inl (nF ol))), (ad 14, .inl (cI, 30, .inl (nF mx))), (ad 15, .inl (cI, 5, .inl (nF pv))), (ad 26, .inr (6, [.ref (ad 0), .ref (ad 5), .ref (ad 8), .ref (ad 12), .ref (ad 16), .ref (ad 20), .ref (ad 24)]))]) ⟨hx, hb, hml, hown, hts⟩ (c_X0_copyPointsTo l D cI cZ ad q sm pr op iv hF tr ro hT (upN (upN (upN (upN (upN (upN nb 0 ja) 1 jb) 2 jc) 3 jd) 4 je) 5 jf) mx pv (ad 9) S (all6 hja hjb hjc hjd hje hjf)) (cwV 1 hts gX6_curve_X0_copyPointsTo rfl rfl rfl hdV_X0_copyPointsTo ⟨Nat.le_of_ble_eq_true rfl, Nat.le_of_ble_eq_true rfl⟩) hK hN hP hD hS hA [0, 1, 2, 3, 4, 5, 6, 7, 12, 13, 9] [8, 10, 11, 14, 15, 16] rfl rfl rfl (by decide) (by decide) (by decide) 12 0 rfl rfl rfl hl.1 rfl (Nat.le_of_ble_eq_true rfl) ⟨Nat.zero_le _, Nat.zero_le _⟩ dX6_curve_129 (fun S_9 H locs hu129 hP hD hS => ?_)
                        try dsimp only at hu129
                        have hP : va_P D vwCl [(ad 0, .inr (1, [.int (nI q), .ref (ad 1), .ref (ad 2), .ref (ad 3), .ref (ad 4)])), (ad 1, .inl (cI, 81, .inl (nF sm))), (ad 2, .inl (cI, 81, .inl (nF pr))), (ad 3, .inl (cI, 9, .inl (nF op))), (ad 4, .inl (cI, 9, .inl (nF iv))), (ad 5, .inr (3, [.ref (ad 0), .int (nI (nn q)), .ref (ad 6), .ref (ad 7)])), (ad 6, .inl (cI, 273, .inl (nF tr))), (ad 7, .inl (cI, 910, .inl (nF ro))), (ad 8, .inr (4, [.ref (ad 5), .ref (ad 9), .ref (ad 10), .ref (ad 11)])), (ad 9, .inl (cZ, 91, .inl (bF S_9))), (ad 10, .inl (cZ, 91, .inl (bF gr))), (ad 11, .inl (cI, 91, .inl (nF ol))), (ad 12, .inr (0, [.ref (ad 5), .ref (ad 0), .ref (ad 13), .ref (ad 14), .ref (ad 15)])), (ad 13, .inl (cI, 6, .inl (nF (upN (upN (upN (upN (upN (upN nb 0 ja) 1 jb) 2 jc) 3 jd) 4 je) 5 jf)))), (ad 14, .inl (cI, 30, .inl (nF mx))), (ad 15, .inl (cI, 5, .inl (nF pv))), (ad 26, .inr (6, [.ref (ad 0), .ref (ad 5), .ref (ad 8), .ref (ad 12), .ref (ad 16), .ref (ad 20), .ref (ad 24)]))] H := hP.sub [6, 7, 8, 9, 10, 11, 12, 13, 0, 16, 1, 2, 14, 15, 3, 4, 5] rfl
                        have hD : va_D A [(ad 0, .inr (1, [.int (nI q), .ref (ad 1), .ref (ad 2), .ref (ad 3), .ref (ad 4)])), (ad 1, .inl (cI, 81, .inl (nF sm))), (ad 2, .inl (cI, 81, .inl (nF pr))), (ad 3, .inl (cI, 9, .inl (nF op))), (ad 4, .inl (cI, 9, .inl (nF iv))), (ad 5, .inr (3, [.ref (ad 0), .int (nI (nn q)), .ref (ad 6), .ref (ad 7)])), (ad 6, .inl (cI, 273, .inl (nF tr))), (ad 7, .inl (cI, 910, .inl (nF ro))), (ad 8, .inr (4, [.ref (ad 5), .ref (ad 9), .ref (ad 10), .ref (ad 11)])), (ad 9, .inl (cZ, 91, .inl (bF S_9))), (ad 10, .inl (cZ, 91, .inl (bF gr))), (ad 11, .inl (cI, 91, .inl (nF ol))), (ad 12, .inr (0, [.ref (ad 5), .ref (ad 0), .ref (ad 13), .ref (ad 14), .ref (ad 15)])), (ad 13, .inl (cI, 6, .inl (nF (upN (upN (upN (upN (upN (upN nb 0 ja) 1 jb) 2 jc) 3 jd) 4 je) 5 jf)))), (ad 14, .inl (cI, 30, .inl (nF mx))), (ad 15, .inl (cI, 5, .inl (nF pv))), (ad 26, .inr (6, [.ref (ad 0), .ref (ad 5), .ref (ad 8), .ref (ad 12), .ref (ad 16), .ref (ad 20), .ref (ad 24)]))] := hD.sub [6, 7, 8, 9, 10, 11, 12, 13, 0, 16, 1, 2, 14, 15, 3, 4, 5] (by decide) rfl
                        refine W.eq (g2 := F0 m 132 ls []) rfl ?_
                        have hev : eqN (nn q) S_9 (cur6 q (nI ja) (nI jb) (nI jc) (nI jd) (nI je) (nI jf)) := fun t ht => by rw [hu129 t ht, cur6, nv_nI (show ja < 2 ^ 31 by omega), nv_nI (show jb < 2 ^ 31 by omega), nv_nI (show jc < 2 ^ 31 by omega), nv_nI (show jd < 2 ^ 31 by omega), nv_nI (show je < 2 ^ 31 by omega), nv_nI (show jf < 2 ^ 31 by omega)]; rfl
                        refine lv_aload_n hx hb dX6_curve_132 rfl (lv_at hl 0 rfl) ?_
                        refine va_get (D := D) (ci := 6) (v := .ref (ad 5)) (C := RX6) (T := TX6) (N := 7) hx hb hts hiX6 hown hK hP 16 rfl rfl 1 (by decide) hf21 (fun _ h9 => h9) rfl dX6_curve_133 ?_
                        refine lv_aload_n hx hb dX6_curve_136 rfl (lv_at hl 0 rfl) ?_
                        refine va_get (D := D) (ci := 6) (v := .ref (ad 8)) (C := RX6) (T := TX6) (N := 7) hx hb hts hiX6 hown hK hP 16 rfl rfl 2 (by decide) hf30 (fun _ h9 => h9) rfl dX6_curve_137 ?_
                        refine va_getN (D := D) (ci := 4) (v := .ref (ad 9)) (C := RX4) (T := TX4) (N := 4) hx hb hts hiX4 hown hK hP 8 rfl rfl 1 (by decide) hf116 (fun _ h9 => h9) rfl dX6_curve_140 ?_
                        refine ctR_V (As := [.ref (ad 9)]) (rest := []) (r := .int (nI (cnt S_9 (nn q)))) ⟨hx, hb, hml, hown, hts⟩ (c_X3_sizeOf l D cI cZ ad q sm pr op iv hF tr ro hT (ad 9) S_9) (cwV 1 hts gX6_curve_X3_sizeOf rfl rfl rfl hdV_X3_sizeOf ⟨Nat.le_of_ble_eq_true rfl, Nat.le_of_ble_eq_true rfl⟩) hK hN hP [0, 1, 2, 3, 4, 5, 6, 7, 9] rfl 5 3 rfl rfl rfl hl.1 rfl (Nat.le_of_ble_eq_true rfl) ⟨Nat.zero_le _, Nat.zero_le _⟩ dX6_curve_143 ?_
                        have hh_10 : cnt S_9 (nn q) ≤ nn q := cnt_le _ _
                        exact ctW_retI (v := (nI (cnt S_9 (nn q)))) (S_9, (upN (upN (upN (upN (upN (upN nb 0 ja) 1 jb) 2 jc) 3 jd) 4 je) 5 jf)) hx hb hr rfl dX6_curve_146 hlocks hS hP hD (by dsimp only; exact (curS_g hb6 hnz hev)) (curZ_g hb6 hnz hev)
                      · refine lv_iload hx hb dX6_curve_94 (lv_at hl 6 rfl) ?_
                        refine nv_if_ne (tgt := 102) hx hb (by omega) dX6_curve_96 (by decide) (fun c96 => ?_) (fun c96 => ?_)
                        · have hnz : ¬ zer6 (nI ja) (nI jb) (nI jc) (nI jd) (nI je) (nI jf) := fun z => by
                            rw [zer6, nv_nI (show ja < 2 ^ 31 by omega), nv_nI (show jb < 2 ^ 31 by omega), nv_nI (show jc < 2 ^ 31 by omega), nv_nI (show jd < 2 ^ 31 by omega), nv_nI (show je < 2 ^ 31 by omega), nv_nI (show jf < 2 ^ 31 by omega)] at z
                            omega
                          refine lv_aload_n hx hb dX6_curve_102 rfl (lv_at hl 0 rfl) ?_
                          refine va_get (D := D) (ci := 6) (v := .ref (ad 12)) (C := RX6) (T := TX6) (N := 7) hx hb hts hiX6 hown hK hP 16 rfl rfl 3 (by decide) hf37 (fun _ h9 => h9) rfl dX6_curve_103 ?_
                          refine lv_iload_n hx hb dX6_curve_106 rfl (lv_at hl 1 rfl) ?_
                          refine lv_iload_n hx hb dX6_curve_107 rfl (lv_at hl 2 rfl) ?_
                          refine lv_iload_n hx hb dX6_curve_108 rfl (lv_at hl 3 rfl) ?_
                          refine lv_iload hx hb dX6_curve_109 (lv_at hl 4 rfl) ?_
                          refine lv_iload hx hb dX6_curve_111 (lv_at hl 5 rfl) ?_
                          refine lv_iload hx hb dX6_curve_113 (lv_at hl 6 rfl) ?_
                          refine ctW_V (As := [.int (nI ja), .int (nI jb), .int (nI jc), .int (nI jd), .int (nI je), .int (nI jf)]) (rest := []) (wr := [(ad 0, .inr (1, [.int (nI q), .ref (ad 1), .ref (ad 2), .ref (ad 3), .ref (ad 4)])), (ad 1, .inl (cI, 81, .inl (nF sm))), (ad 2, .inl (cI, 81, .inl (nF pr))), (ad 3, .inl (cI, 9, .inl (nF op))), (ad 4, .inl (cI, 9, .inl (nF iv))), (ad 5, .inr (3, [.ref (ad 0), .int (nI (nn q)), .ref (ad 6), .ref (ad 7)])), (ad 6, .inl (cI, 273, .inl (nF tr))), (ad 7, .inl (cI, 910, .inl (nF ro))), (ad 8, .inr (4, [.ref (ad 5), .ref (ad 9), .ref (ad 10), .ref (ad 11)])), (ad 9, .inl (cZ, 91, .inl (bF S))), (ad 10, .inl (cZ, 91, .inl (bF gr))), (ad 11, .inl (cI, 91, .inl (nF ol))), (ad 14, .inl (cI, 30, .inl (nF mx))), (ad 15, .inl (cI, 5, .inl (nF pv))), (ad 26, .inr (6, [.ref (ad 0), .ref (ad 5), .ref (ad 8), .ref (ad 12), .ref (ad 16), .ref (ad 20), .ref (ad 24)]))]) ⟨hx, hb, hml, hown, hts⟩ (c_X0_choose l D cI cZ ad nb ja jb jc jd je jf) (cwV 6 hts gX6_curve_X0_choose rfl rfl rfl hdV_X0_choose ⟨Nat.le_of_ble_eq_true rfl, Nat.le_of_ble_eq_true rfl⟩) hK hN hP hD hS hA [12, 13] [0, 1, 2, 3, 4, 5, 6, 7, 8, 9, 10, 11, 14, 15, 16] rfl rfl rfl (by decide) (by decide) (by decide) 12 0 rfl rfl rfl hl.1 rfl (Nat.le_of_ble_eq_true rfl) ⟨Nat.zero_le _, Nat.zero_le _⟩ dX6_curve_115 (fun _ H locs hu115 hP hD hS => ?_)
                          try dsimp only at hu115
                          have hP : va_P D vwCl [(ad 0, .inr (1, [.int (nI q), .ref (ad 1), .ref (ad 2), .ref (ad 3), .ref (ad 4)])), (ad 1, .inl (cI, 81, .inl (nF sm))), (ad 2, .inl (cI, 81, .inl (nF pr))), (ad 3, .inl (cI, 9, .inl (nF op))), (ad 4, .inl (cI, 9, .inl (nF iv))), (ad 5, .inr (3, [.ref (ad 0), .int (nI (nn q)), .ref (ad 6), .ref (ad 7)])), (ad 6, .inl (cI, 273, .inl (nF tr))), (ad 7, .inl (cI, 910, .inl (nF ro))), (ad 8, .inr (4, [.ref (ad 5), .ref (ad 9), .ref (ad 10), .ref (ad 11)])), (ad 9, .inl (cZ, 91, .inl (bF S))), (ad 10, .inl (cZ, 91, .inl (bF gr))), (ad 11, .inl (cI, 91, .inl (nF ol))), (ad 12, .inr (0, [.ref (ad 5), .ref (ad 0), .ref (ad 13), .ref (ad 14), .ref (ad 15)])), (ad 13, .inl (cI, 6, .inl (nF (upN (upN (upN (upN (upN (upN nb 0 ja) 1 jb) 2 jc) 3 jd) 4 je) 5 jf)))), (ad 14, .inl (cI, 30, .inl (nF mx))), (ad 15, .inl (cI, 5, .inl (nF pv))), (ad 26, .inr (6, [.ref (ad 0), .ref (ad 5), .ref (ad 8), .ref (ad 12), .ref (ad 16), .ref (ad 20), .ref (ad 24)]))] H := hP.sub [0, 1, 2, 3, 4, 5, 6, 7, 8, 9, 10, 11, 15, 16, 12, 13, 14] rfl
                          have hD : va_D A [(ad 0, .inr (1, [.int (nI q), .ref (ad 1), .ref (ad 2), .ref (ad 3), .ref (ad 4)])), (ad 1, .inl (cI, 81, .inl (nF sm))), (ad 2, .inl (cI, 81, .inl (nF pr))), (ad 3, .inl (cI, 9, .inl (nF op))), (ad 4, .inl (cI, 9, .inl (nF iv))), (ad 5, .inr (3, [.ref (ad 0), .int (nI (nn q)), .ref (ad 6), .ref (ad 7)])), (ad 6, .inl (cI, 273, .inl (nF tr))), (ad 7, .inl (cI, 910, .inl (nF ro))), (ad 8, .inr (4, [.ref (ad 5), .ref (ad 9), .ref (ad 10), .ref (ad 11)])), (ad 9, .inl (cZ, 91, .inl (bF S))), (ad 10, .inl (cZ, 91, .inl (bF gr))), (ad 11, .inl (cI, 91, .inl (nF ol))), (ad 12, .inr (0, [.ref (ad 5), .ref (ad 0), .ref (ad 13), .ref (ad 14), .ref (ad 15)])), (ad 13, .inl (cI, 6, .inl (nF (upN (upN (upN (upN (upN (upN nb 0 ja) 1 jb) 2 jc) 3 jd) 4 je) 5 jf)))), (ad 14, .inl (cI, 30, .inl (nF mx))), (ad 15, .inl (cI, 5, .inl (nF pv))), (ad 26, .inr (6, [.ref (ad 0), .ref (ad 5), .ref (ad 8), .ref (ad 12), .ref (ad 16), .ref (ad 20), .ref (ad 24)]))] := hD.sub [0, 1, 2, 3, 4, 5, 6, 7, 8, 9, 10, 11, 15, 16, 12, 13, 14] (by decide) rfl
                          refine W.eq (g2 := F0 m 118 ls []) rfl ?_
                          refine lv_aload_n hx hb dX6_curve_118 rfl (lv_at hl 0 rfl) ?_
                          refine va_get (D := D) (ci := 6) (v := .ref (ad 12)) (C := RX6) (T := TX6) (N := 7) hx hb hts hiX6 hown hK hP 16 rfl rfl 3 (by decide) hf37 (fun _ h9 => h9) rfl dX6_curve_119 ?_
                          refine lv_aload_n hx hb dX6_curve_122 rfl (lv_at hl 0 rfl) ?_
                          refine va_get (D := D) (ci := 6) (v := .ref (ad 8)) (C := RX6) (T := TX6) (N := 7) hx hb hts hiX6 hown hK hP 16 rfl rfl 2 (by decide) hf30 (fun _ h9 => h9) rfl dX6_curve_123 ?_
                          refine va_getN (D := D) (ci := 4) (v := .ref (ad 9)) (C := RX4) (T := TX4) (N := 4) hx hb hts hiX4 hown hK hP 8 rfl rfl 1 (by decide) hf116 (fun _ h9 => h9) rfl dX6_curve_126 ?_
                          refine ctW_V (As := [.ref (ad 9)]) (rest := []) (wr := [(ad 8, .inr (4, [.ref (ad 5), .ref (ad 9), .ref (ad 10), .ref (ad 11)])), (ad 10, .inl (cZ, 91, .inl (bF gr))), (ad 11, .inl (cI, 91, .inl (nF ol))), (ad 14, .inl (cI, 30, .inl (nF mx))), (ad 15, .inl (cI, 5, .inl (nF pv))), (ad 26, .inr (6, [.ref (ad 0), .ref (ad 5), .ref (ad 8), .ref (ad 12), .ref (ad 16), .ref (ad 20), .ref (ad 24)]))]) ⟨hx, hb, hml, hown, hts⟩ (c_X0_copyPointsTo l D cI cZ ad q sm pr op iv hF tr ro hT (upN (upN (upN (upN (upN (upN nb 0 ja) 1 jb) 2 jc) 3 jd) 4 je) 5 jf) mx pv (ad 9) S (all6 hja hjb hjc hjd hje hjf)) (cwV 1 hts gX6_curve_X0_copyPointsTo rfl rfl rfl hdV_X0_copyPointsTo ⟨Nat.le_of_ble_eq_true rfl, Nat.le_of_ble_eq_true rfl⟩) hK hN hP hD hS hA [0, 1, 2, 3, 4, 5, 6, 7, 12, 13, 9] [8, 10, 11, 14, 15, 16] rfl rfl rfl (by decide) (by decide) (by decide) 12 0 rfl rfl rfl hl.1 rfl (Nat.le_of_ble_eq_true rfl) ⟨Nat.zero_le _, Nat.zero_le _⟩ dX6_curve_129 (fun S_11 H locs hu129 hP hD hS => ?_)
                          try dsimp only at hu129
                          have hP : va_P D vwCl [(ad 0, .inr (1, [.int (nI q), .ref (ad 1), .ref (ad 2), .ref (ad 3), .ref (ad 4)])), (ad 1, .inl (cI, 81, .inl (nF sm))), (ad 2, .inl (cI, 81, .inl (nF pr))), (ad 3, .inl (cI, 9, .inl (nF op))), (ad 4, .inl (cI, 9, .inl (nF iv))), (ad 5, .inr (3, [.ref (ad 0), .int (nI (nn q)), .ref (ad 6), .ref (ad 7)])), (ad 6, .inl (cI, 273, .inl (nF tr))), (ad 7, .inl (cI, 910, .inl (nF ro))), (ad 8, .inr (4, [.ref (ad 5), .ref (ad 9), .ref (ad 10), .ref (ad 11)])), (ad 9, .inl (cZ, 91, .inl (bF S_11))), (ad 10, .inl (cZ, 91, .inl (bF gr))), (ad 11, .inl (cI, 91, .inl (nF ol))), (ad 12, .inr (0, [.ref (ad 5), .ref (ad 0), .ref (ad 13), .ref (ad 14), .ref (ad 15)])), (ad 13, .inl (cI, 6, .inl (nF (upN (upN (upN (upN (upN (upN nb 0 ja) 1 jb) 2 jc) 3 jd) 4 je) 5 jf)))), (ad 14, .inl (cI, 30, .inl (nF mx))), (ad 15, .inl (cI, 5, .inl (nF pv))), (ad 26, .inr (6, [.ref (ad 0), .ref (ad 5), .ref (ad 8), .ref (ad 12), .ref (ad 16), .ref (ad 20), .ref (ad 24)]))] H := hP.sub [6, 7, 8, 9, 10, 11, 12, 13, 0, 16, 1, 2, 14, 15, 3, 4, 5] rfl
                          have hD : va_D A [(ad 0, .inr (1, [.int (nI q), .ref (ad 1), .ref (ad 2), .ref (ad 3), .ref (ad 4)])), (ad 1, .inl (cI, 81, .inl (nF sm))), (ad 2, .inl (cI, 81, .inl (nF pr))), (ad 3, .inl (cI, 9, .inl (nF op))), (ad 4, .inl (cI, 9, .inl (nF iv))), (ad 5, .inr (3, [.ref (ad 0), .int (nI (nn q)), .ref (ad 6), .ref (ad 7)])), (ad 6, .inl (cI, 273, .inl (nF tr))), (ad 7, .inl (cI, 910, .inl (nF ro))), (ad 8, .inr (4, [.ref (ad 5), .ref (ad 9), .ref (ad 10), .ref (ad 11)])), (ad 9, .inl (cZ, 91, .inl (bF S_11))), (ad 10, .inl (cZ, 91, .inl (bF gr))), (ad 11, .inl (cI, 91, .inl (nF ol))), (ad 12, .inr (0, [.ref (ad 5), .ref (ad 0), .ref (ad 13), .ref (ad 14), .ref (ad 15)])), (ad 13, .inl (cI, 6, .inl (nF (upN (upN (upN (upN (upN (upN nb 0 ja) 1 jb) 2 jc) 3 jd) 4 je) 5 jf)))), (ad 14, .inl (cI, 30, .inl (nF mx))), (ad 15, .inl (cI, 5, .inl (nF pv))), (ad 26, .inr (6, [.ref (ad 0), .ref (ad 5), .ref (ad 8), .ref (ad 12), .ref (ad 16), .ref (ad 20), .ref (ad 24)]))] := hD.sub [6, 7, 8, 9, 10, 11, 12, 13, 0, 16, 1, 2, 14, 15, 3, 4, 5] (by decide) rfl
                          refine W.eq (g2 := F0 m 132 ls []) rfl ?_
                          have hev : eqN (nn q) S_11 (cur6 q (nI ja) (nI jb) (nI jc) (nI jd) (nI je) (nI jf)) := fun t ht => by rw [hu129 t ht, cur6, nv_nI (show ja < 2 ^ 31 by omega), nv_nI (show jb < 2 ^ 31 by omega), nv_nI (show jc < 2 ^ 31 by omega), nv_nI (show jd < 2 ^ 31 by omega), nv_nI (show je < 2 ^ 31 by omega), nv_nI (show jf < 2 ^ 31 by omega)]; rfl
                          refine lv_aload_n hx hb dX6_curve_132 rfl (lv_at hl 0 rfl) ?_
                          refine va_get (D := D) (ci := 6) (v := .ref (ad 5)) (C := RX6) (T := TX6) (N := 7) hx hb hts hiX6 hown hK hP 16 rfl rfl 1 (by decide) hf21 (fun _ h9 => h9) rfl dX6_curve_133 ?_
                          refine lv_aload_n hx hb dX6_curve_136 rfl (lv_at hl 0 rfl) ?_
                          refine va_get (D := D) (ci := 6) (v := .ref (ad 8)) (C := RX6) (T := TX6) (N := 7) hx hb hts hiX6 hown hK hP 16 rfl rfl 2 (by decide) hf30 (fun _ h9 => h9) rfl dX6_curve_137 ?_
                          refine va_getN (D := D) (ci := 4) (v := .ref (ad 9)) (C := RX4) (T := TX4) (N := 4) hx hb hts hiX4 hown hK hP 8 rfl rfl 1 (by decide) hf116 (fun _ h9 => h9) rfl dX6_curve_140 ?_
                          refine ctR_V (As := [.ref (ad 9)]) (rest := []) (r := .int (nI (cnt S_11 (nn q)))) ⟨hx, hb, hml, hown, hts⟩ (c_X3_sizeOf l D cI cZ ad q sm pr op iv hF tr ro hT (ad 9) S_11) (cwV 1 hts gX6_curve_X3_sizeOf rfl rfl rfl hdV_X3_sizeOf ⟨Nat.le_of_ble_eq_true rfl, Nat.le_of_ble_eq_true rfl⟩) hK hN hP [0, 1, 2, 3, 4, 5, 6, 7, 9] rfl 5 3 rfl rfl rfl hl.1 rfl (Nat.le_of_ble_eq_true rfl) ⟨Nat.zero_le _, Nat.zero_le _⟩ dX6_curve_143 ?_
                          have hh_12 : cnt S_11 (nn q) ≤ nn q := cnt_le _ _
                          exact ctW_retI (v := (nI (cnt S_11 (nn q)))) (S_11, (upN (upN (upN (upN (upN (upN nb 0 ja) 1 jb) 2 jc) 3 jd) 4 je) 5 jf)) hx hb hr rfl dX6_curve_146 hlocks hS hP hD (by dsimp only; exact (curS_g hb6 hnz hev)) (curZ_g hb6 hnz hev)
                        · refine lv_bipush (v := (-3)) hx hb dX6_curve_99 (by decide) ?_
                          exact ctW_retI (v := (-3)) (S, nb) hx hb hr rfl dX6_curve_101 hlocks hS hP hD (by dsimp only; exact (curS_z hb6 ⟨(by rw [nv_nI (by omega)]; exact c73), (by rw [nv_nI (by omega)]; exact c77), (by rw [nv_nI (by omega)]; exact c81), (by rw [nv_nI (by omega)]; exact c86), (by rw [nv_nI (by omega)]; exact c91), (by rw [nv_nI (by omega)]; exact c96)⟩)) (curZ_z hb6 ⟨(by rw [nv_nI (by omega)]; exact c73), (by rw [nv_nI (by omega)]; exact c77), (by rw [nv_nI (by omega)]; exact c81), (by rw [nv_nI (by omega)]; exact c86), (by rw [nv_nI (by omega)]; exact c91), (by rw [nv_nI (by omega)]; exact c96)⟩)
            · refine lv_bipush (v := (-2)) hx hb dX6_curve_69 (by decide) ?_
              exact ctW_retI (v := (-2)) (S, nb) hx hb hr rfl dX6_curve_71 hlocks hS hP hD (by dsimp only; exact (curS_b (bad6_of (Or.inr (Or.inr (Or.inr (Or.inr (Or.inr (c66))))))))) (curZ_b (bad6_of (Or.inr (Or.inr (Or.inr (Or.inr (Or.inr (c66))))))))

set_option maxHeartbeats 4000000 in
set_option maxRecDepth 100000 in
theorem c_X7_valueOf (l : Launch) (D : va_G) (cI cZ : ClassId) (md : Nat → Nat) (q : Nat) (w : Nat) (su : Nat → Nat) (po : Nat → Nat) (xs : Nat → Nat) (ys : Nat → Nat) (zs : Nat → Nat) (hM : MOK q su po xs ys zs) (a : Nat) (b : Nat) (g : Nat) (d : Nat) (f1 : Nat) (f2 : Nat) (i : Nat) (k_1 : a < q) (k_2 : b < q) (k_3 : g < q) (k_4 : d < q) (k_5 : f1 < q) (k_6 : f2 < q) (k_7 : i < nn q) : CtR l yX7_valueOf wsX7_valueOf { frames := 1, cells := 0, slots := 0, locals := 22 } D (tyG cI cZ) [.ref (md 0), .int (nI a), .int (nI b), .int (nI g), .int (nI d), .int (nI f1), .int (nI f2), .int (nI i)] [(md 0, .inr (7, [.int (nI q), .int (nI (nn q)), .ref (md 1), .ref (md 2), .ref (md 3), .ref (md 4), .ref (md 5), .ref (md 6), .ref (md 7), .ref (md 8), .ref (md 9), .ref (md 10), .ref (md 11), .ref (md 12), .ref (md 13), .ref (md 14), .ref (md 15), .ref (md 16), .int (nI w), .ref (md 17)])), (md 1, .inl (cI, 81, .inl (nF su))), (md 2, .inl (cI, 81, .inl (nF po))), (md 3, .inl (cI, 91, .inl (nF xs))), (md 4, .inl (cI, 91, .inl (nF ys))), (md 5, .inl (cI, 91, .inl (nF zs)))] (.int (nI (crv q (u6 a b g d f1 f2) i))) := by
  refine Met.ofW (cc := cX7_valueOf) (maxL := 12) (ret := some .int) (by decide) rfl ?_
  intro p e s m args below meth c s₁ B hml hv
  obtain ⟨rfl, hP, hK, hN⟩ := hv
  have hx := B.exec
  have hb := B.bytes
  have hr := B.returns
  have hts := atoms_spec (ws := wsX7_valueOf) B.pre
  have hown : s.vm.findClass RX7 = some m.cls := findClass_of_methodNamed B.named
  have hlocks := B.notSynchronized
  have hf16 := hts (.fieldLink RX7 16 "FinitePlanesModel" "xs" "[I") (by decide +kernel)
  have hf19 := hts (.fieldLink RX7 19 "FinitePlanesModel" "ys" "[I") (by decide +kernel)
  have hf22 := hts (.fieldLink RX7 22 "FinitePlanesModel" "zs" "[I") (by decide +kernel)
  have hiX7 : ∀ w ∈ u_ws RX7 TX7 20, w ∈ wsX7_valueOf := by decide +kernel
  have hl := lv_entry ([.ref (md 0), .int (nI a), .int (nI b), .int (nI g), .int (nI d), .int (nI f1), .int (nI f2), .int (nI i)]) (n := 12) (Nat.le_of_ble_eq_true rfl)
  rw [lg_entry_eq]
  generalize (lg_sl ([.ref (md 0), .int (nI a), .int (nI b), .int (nI g), .int (nI d), .int (nI f1), .int (nI f2), .int (nI i)]) ++ List.replicate (12 - (lg_sl ([.ref (md 0), .int (nI a), .int (nI b), .int (nI g), .int (nI d), .int (nI f1), .int (nI f2), .int (nI i)])).length) Slot.unset).toArray = ls at hl ⊢
  have hl : lv_has ls 12 [(0, .ref (md 0)), (1, .int (nI a)), (2, .int (nI b)), (3, .int (nI g)), (4, .int (nI d)), (5, .int (nI f1)), (6, .int (nI f2)), (7, .int (nI i))] := hl
  have hq2 := qs_le hM.1
  have hn2 := nn_le hM.1
  have p0 := pt_lt (k := 0) hM.1 k_7 (by decide)
  have p1 := pt_lt (k := 1) hM.1 k_7 (by decide)
  have p2 := pt_lt (k := 2) hM.1 k_7 (by decide)
  refine lv_aload_n hx hb dX7_valueOf_0 rfl (lv_at hl 0 rfl) ?_
  refine va_get (D := D) (ci := 7) (v := .ref (md 3)) (C := RX7) (T := TX7) (N := 20) hx hb hts hiX7 hown hK hP 0 rfl rfl 4 (by decide) hf16 (fun _ h9 => h9) rfl dX7_valueOf_1 ?_
  refine lv_iload hx hb dX7_valueOf_4 (lv_at hl 7 rfl) ?_
  refine nv_iald hx hb hK hP 3 0 rfl rfl (by omega) (by decide) dX7_valueOf_6 ?_
  refine nv_top (v' := .int (nI (pt q i 0))) (by rw [(hM.2.2.2 i (by omega)).1]) ?_
  refine lv_istore (lv' := [(8, .int (nI (pt q i 0))), (0, .ref (md 0)), (1, .int (nI a)), (2, .int (nI b)), (3, .int (nI g)), (4, .int (nI d)), (5, .int (nI f1)), (6, .int (nI f2)), (7, .int (nI i))]) hx hb dX7_valueOf_7 hl (by decide) rfl (fun ls hl => ?_)
  refine lv_aload_n hx hb dX7_valueOf_9 rfl (lv_at hl 1 rfl) ?_
  refine va_get (D := D) (ci := 7) (v := .ref (md 4)) (C := RX7) (T := TX7) (N := 20) hx hb hts hiX7 hown hK hP 0 rfl rfl 5 (by decide) hf19 (fun _ h9 => h9) rfl dX7_valueOf_10 ?_
  refine lv_iload hx hb dX7_valueOf_13 (lv_at hl 8 rfl) ?_
  refine nv_iald hx hb hK hP 4 0 rfl rfl (by omega) (by decide) dX7_valueOf_15 ?_
  refine nv_top (v' := .int (nI (pt q i 1))) (by rw [(hM.2.2.2 i (by omega)).2.1]) ?_
  refine lv_istore (lv' := [(9, .int (nI (pt q i 1))), (8, .int (nI (pt q i 0))), (0, .ref (md 0)), (1, .int (nI a)), (2, .int (nI b)), (3, .int (nI g)), (4, .int (nI d)), (5, .int (nI f1)), (6, .int (nI f2)), (7, .int (nI i))]) hx hb dX7_valueOf_16 hl (by decide) rfl (fun ls hl => ?_)
  refine lv_aload_n hx hb dX7_valueOf_18 rfl (lv_at hl 2 rfl) ?_
  refine va_get (D := D) (ci := 7) (v := .ref (md 5)) (C := RX7) (T := TX7) (N := 20) hx hb hts hiX7 hown hK hP 0 rfl rfl 6 (by decide) hf22 (fun _ h9 => h9) rfl dX7_valueOf_19 ?_
  refine lv_iload hx hb dX7_valueOf_22 (lv_at hl 9 rfl) ?_
  refine nv_iald hx hb hK hP 5 0 rfl rfl (by omega) (by decide) dX7_valueOf_24 ?_
  refine nv_top (v' := .int (nI (pt q i 2))) (by rw [(hM.2.2.2 i (by omega)).2.2]) ?_
  refine lv_istore (lv' := [(10, .int (nI (pt q i 2))), (9, .int (nI (pt q i 1))), (8, .int (nI (pt q i 0))), (0, .ref (md 0)), (1, .int (nI a)), (2, .int (nI b)), (3, .int (nI g)), (4, .int (nI d)), (5, .int (nI f1)), (6, .int (nI f2)), (7, .int (nI i))]) hx hb dX7_valueOf_25 hl (by decide) rfl (fun ls hl => ?_)
  refine lv_aload_n hx hb dX7_valueOf_27 rfl (lv_at hl 3 rfl) ?_
  refine lv_aload_n hx hb dX7_valueOf_28 rfl (lv_at hl 3 rfl) ?_
  refine lv_iload_n hx hb dX7_valueOf_29 rfl (lv_at hl 4 rfl) ?_
  refine lv_aload_n hx hb dX7_valueOf_30 rfl (lv_at hl 3 rfl) ?_
  refine lv_iload hx hb dX7_valueOf_31 (lv_at hl 2 rfl) ?_
  refine lv_iload hx hb dX7_valueOf_33 (lv_at hl 2 rfl) ?_
  refine ctR_V (As := [.int (nI (pt q i 0)), .int (nI (pt q i 0))]) (rest := [.int (nI a), .ref (md 0), .ref (md 0)]) (r := .int (nI (fmul q (pt q i 0) (pt q i 0)))) ⟨hx, hb, hml, hown, hts⟩ (c_X7_times l D cI cZ md q w su po xs ys zs hM (pt q i 0) (pt q i 0) (by omega) (by omega)) (cwV 2 hts gX7_valueOf_X7_times rfl rfl rfl hdV_X7_times ⟨Nat.le_of_ble_eq_true rfl, Nat.le_of_ble_eq_true rfl⟩) hK hN hP [0, 1, 2, 3, 4, 5] rfl 0 7 rfl rfl rfl hl.1 rfl (Nat.le_of_ble_eq_true rfl) ⟨Nat.zero_le _, Nat.zero_le _⟩ dX7_valueOf_35 ?_
  have hh_1 : fmul q (pt q i 0) (pt q i 0) < q := fmul_lt hM.1 (by omega) (by omega)
  refine ctR_V (As := [.int (nI a), .int (nI (fmul q (pt q i 0) (pt q i 0)))]) (rest := [.ref (md 0)]) (r := .int (nI (fmul q a (fmul q (pt q i 0) (pt q i 0))))) ⟨hx, hb, hml, hown, hts⟩ (c_X7_times l D cI cZ md q w su po xs ys zs hM a (fmul q (pt q i 0) (pt q i 0)) (by omega) (by omega)) (cwV 2 hts gX7_valueOf_X7_times rfl rfl rfl hdV_X7_times ⟨Nat.le_of_ble_eq_true rfl, Nat.le_of_ble_eq_true rfl⟩) hK hN hP [0, 1, 2, 3, 4, 5] rfl 0 7 rfl rfl rfl hl.1 rfl (Nat.le_of_ble_eq_true rfl) ⟨Nat.zero_le _, Nat.zero_le _⟩ dX7_valueOf_38 ?_
  have hh_2 : fmul q a (fmul q (pt q i 0) (pt q i 0)) < q := fmul_lt hM.1 (by omega) (by omega)
  refine lv_aload_n hx hb dX7_valueOf_41 rfl (lv_at hl 3 rfl) ?_
  refine lv_iload_n hx hb dX7_valueOf_42 rfl (lv_at hl 5 rfl) ?_
  refine lv_aload_n hx hb dX7_valueOf_43 rfl (lv_at hl 3 rfl) ?_
  refine lv_iload hx hb dX7_valueOf_44 (lv_at hl 1 rfl) ?_
  refine lv_iload hx hb dX7_valueOf_46 (lv_at hl 1 rfl) ?_
  refine ctR_V (As := [.int (nI (pt q i 1)), .int (nI (pt q i 1))]) (rest := [.int (nI b), .ref (md 0), .int (nI (fmul q a (fmul q (pt q i 0) (pt q i 0)))), .ref (md 0)]) (r := .int (nI (fmul q (pt q i 1) (pt q i 1)))) ⟨hx, hb, hml, hown, hts⟩ (c_X7_times l D cI cZ md q w su po xs ys zs hM (pt q i 1) (pt q i 1) (by omega) (by omega)) (cwV 2 hts gX7_valueOf_X7_times rfl rfl rfl hdV_X7_times ⟨Nat.le_of_ble_eq_true rfl, Nat.le_of_ble_eq_true rfl⟩) hK hN hP [0, 1, 2, 3, 4, 5] rfl 0 7 rfl rfl rfl hl.1 rfl (Nat.le_of_ble_eq_true rfl) ⟨Nat.zero_le _, Nat.zero_le _⟩ dX7_valueOf_48 ?_
  have hh_3 : fmul q (pt q i 1) (pt q i 1) < q := fmul_lt hM.1 (by omega) (by omega)
  refine ctR_V (As := [.int (nI b), .int (nI (fmul q (pt q i 1) (pt q i 1)))]) (rest := [.int (nI (fmul q a (fmul q (pt q i 0) (pt q i 0)))), .ref (md 0)]) (r := .int (nI (fmul q b (fmul q (pt q i 1) (pt q i 1))))) ⟨hx, hb, hml, hown, hts⟩ (c_X7_times l D cI cZ md q w su po xs ys zs hM b (fmul q (pt q i 1) (pt q i 1)) (by omega) (by omega)) (cwV 2 hts gX7_valueOf_X7_times rfl rfl rfl hdV_X7_times ⟨Nat.le_of_ble_eq_true rfl, Nat.le_of_ble_eq_true rfl⟩) hK hN hP [0, 1, 2, 3, 4, 5] rfl 0 7 rfl rfl rfl hl.1 rfl (Nat.le_of_ble_eq_true rfl) ⟨Nat.zero_le _, Nat.zero_le _⟩ dX7_valueOf_51 ?_
  have hh_4 : fmul q b (fmul q (pt q i 1) (pt q i 1)) < q := fmul_lt hM.1 (by omega) (by omega)
  refine ctR_V (As := [.int (nI (fmul q a (fmul q (pt q i 0) (pt q i 0)))), .int (nI (fmul q b (fmul q (pt q i 1) (pt q i 1))))]) (rest := []) (r := .int (nI (fadd q (fmul q a (fmul q (pt q i 0) (pt q i 0))) (fmul q b (fmul q (pt q i 1) (pt q i 1)))))) ⟨hx, hb, hml, hown, hts⟩ (c_X7_add l D cI cZ md q w su po xs ys zs hM (fmul q a (fmul q (pt q i 0) (pt q i 0))) (fmul q b (fmul q (pt q i 1) (pt q i 1))) (by omega) (by omega)) (cwV 2 hts gX7_valueOf_X7_add rfl rfl rfl hdV_X7_add ⟨Nat.le_of_ble_eq_true rfl, Nat.le_of_ble_eq_true rfl⟩) hK hN hP [0, 1, 2, 3, 4, 5] rfl 0 7 rfl rfl rfl hl.1 rfl (Nat.le_of_ble_eq_true rfl) ⟨Nat.zero_le _, Nat.zero_le _⟩ dX7_valueOf_54 ?_
  have hh_5 : fadd q (fmul q a (fmul q (pt q i 0) (pt q i 0))) (fmul q b (fmul q (pt q i 1) (pt q i 1))) < q := fadd_lt hM.1 (by omega) (by omega)
  refine lv_istore (lv' := [(11, .int (nI (fadd q (fmul q a (fmul q (pt q i 0) (pt q i 0))) (fmul q b (fmul q (pt q i 1) (pt q i 1)))))), (10, .int (nI (pt q i 2))), (9, .int (nI (pt q i 1))), (8, .int (nI (pt q i 0))), (0, .ref (md 0)), (1, .int (nI a)), (2, .int (nI b)), (3, .int (nI g)), (4, .int (nI d)), (5, .int (nI f1)), (6, .int (nI f2)), (7, .int (nI i))]) hx hb dX7_valueOf_57 hl (by decide) rfl (fun ls hl => ?_)
  refine lv_aload_n hx hb dX7_valueOf_59 rfl (lv_at hl 4 rfl) ?_
  refine lv_iload hx hb dX7_valueOf_60 (lv_at hl 0 rfl) ?_
  refine lv_aload_n hx hb dX7_valueOf_62 rfl (lv_at hl 4 rfl) ?_
  refine lv_iload_n hx hb dX7_valueOf_63 rfl (lv_at hl 7 rfl) ?_
  refine lv_aload_n hx hb dX7_valueOf_64 rfl (lv_at hl 4 rfl) ?_
  refine lv_iload hx hb dX7_valueOf_65 (lv_at hl 1 rfl) ?_
  refine lv_iload hx hb dX7_valueOf_67 (lv_at hl 1 rfl) ?_
  refine ctR_V (As := [.int (nI (pt q i 2)), .int (nI (pt q i 2))]) (rest := [.int (nI g), .ref (md 0), .int (nI (fadd q (fmul q a (fmul q (pt q i 0) (pt q i 0))) (fmul q b (fmul q (pt q i 1) (pt q i 1))))), .ref (md 0)]) (r := .int (nI (fmul q (pt q i 2) (pt q i 2)))) ⟨hx, hb, hml, hown, hts⟩ (c_X7_times l D cI cZ md q w su po xs ys zs hM (pt q i 2) (pt q i 2) (by omega) (by omega)) (cwV 2 hts gX7_valueOf_X7_times rfl rfl rfl hdV_X7_times ⟨Nat.le_of_ble_eq_true rfl, Nat.le_of_ble_eq_true rfl⟩) hK hN hP [0, 1, 2, 3, 4, 5] rfl 0 7 rfl rfl rfl hl.1 rfl (Nat.le_of_ble_eq_true rfl) ⟨Nat.zero_le _, Nat.zero_le _⟩ dX7_valueOf_69 ?_
  have hh_6 : fmul q (pt q i 2) (pt q i 2) < q := fmul_lt hM.1 (by omega) (by omega)
  refine ctR_V (As := [.int (nI g), .int (nI (fmul q (pt q i 2) (pt q i 2)))]) (rest := [.int (nI (fadd q (fmul q a (fmul q (pt q i 0) (pt q i 0))) (fmul q b (fmul q (pt q i 1) (pt q i 1))))), .ref (md 0)]) (r := .int (nI (fmul q g (fmul q (pt q i 2) (pt q i 2))))) ⟨hx, hb, hml, hown, hts⟩ (c_X7_times l D cI cZ md q w su po xs ys zs hM g (fmul q (pt q i 2) (pt q i 2)) (by omega) (by omega)) (cwV 2 hts gX7_valueOf_X7_times rfl rfl rfl hdV_X7_times ⟨Nat.le_of_ble_eq_true rfl, Nat.le_of_ble_eq_true rfl⟩) hK hN hP [0, 1, 2, 3, 4, 5] rfl 0 7 rfl rfl rfl hl.1 rfl (Nat.le_of_ble_eq_true rfl) ⟨Nat.zero_le _, Nat.zero_le _⟩ dX7_valueOf_72 ?_
  have hh_7 : fmul q g (fmul q (pt q i 2) (pt q i 2)) < q := fmul_lt hM.1 (by omega) (by omega)
  refine ctR_V (As := [.int (nI (fadd q (fmul q a (fmul q (pt q i 0) (pt q i 0))) (fmul q b (fmul q (pt q i 1) (pt q i 1))))), .int (nI (fmul q g (fmul q (pt q i 2) (pt q i 2))))]) (rest := []) (r := .int (nI (fadd q (fadd q (fmul q a (fmul q (pt q i 0) (pt q i 0))) (fmul q b (fmul q (pt q i 1) (pt q i 1)))) (fmul q g (fmul q (pt q i 2) (pt q i 2)))))) ⟨hx, hb, hml, hown, hts⟩ (c_X7_add l D cI cZ md q w su po xs ys zs hM (fadd q (fmul q a (fmul q (pt q i 0) (pt q i 0))) (fmul q b (fmul q (pt q i 1) (pt q i 1)))) (fmul q g (fmul q (pt q i 2) (pt q i 2))) (by omega) (by omega)) (cwV 2 hts gX7_valueOf_X7_add rfl rfl rfl hdV_X7_add ⟨Nat.le_of_ble_eq_true rfl, Nat.le_of_ble_eq_true rfl⟩) hK hN hP [0, 1, 2, 3, 4, 5] rfl 0 7 rfl rfl rfl hl.1 rfl (Nat.le_of_ble_eq_true rfl) ⟨Nat.zero_le _, Nat.zero_le _⟩ dX7_valueOf_75 ?_
  have hh_8 : fadd q (fadd q (fmul q a (fmul q (pt q i 0) (pt q i 0))) (fmul q b (fmul q (pt q i 1) (pt q i 1)))) (fmul q g (fmul q (pt q i 2) (pt q i 2))) < q := fadd_lt hM.1 (by omega) (by omega)
  refine lv_istore (lv' := [(11, .int (nI (fadd q (fadd q (fmul q a (fmul q (pt q i 0) (pt q i 0))) (fmul q b (fmul q (pt q i 1) (pt q i 1)))) (fmul q g (fmul q (pt q i 2) (pt q i 2)))))), (10, .int (nI (pt q i 2))), (9, .int (nI (pt q i 1))), (8, .int (nI (pt q i 0))), (0, .ref (md 0)), (1, .int (nI a)), (2, .int (nI b)), (3, .int (nI g)), (4, .int (nI d)), (5, .int (nI f1)), (6, .int (nI f2)), (7, .int (nI i))]) hx hb dX7_valueOf_78 hl (by decide) rfl (fun ls hl => ?_)
  refine lv_aload_n hx hb dX7_valueOf_80 rfl (lv_at hl 4 rfl) ?_
  refine lv_iload hx hb dX7_valueOf_81 (lv_at hl 0 rfl) ?_
  refine lv_aload_n hx hb dX7_valueOf_83 rfl (lv_at hl 4 rfl) ?_
  refine lv_iload hx hb dX7_valueOf_84 (lv_at hl 8 rfl) ?_
  refine lv_aload_n hx hb dX7_valueOf_86 rfl (lv_at hl 4 rfl) ?_
  refine lv_iload hx hb dX7_valueOf_87 (lv_at hl 2 rfl) ?_
  refine lv_iload hx hb dX7_valueOf_89 (lv_at hl 1 rfl) ?_
  refine ctR_V (As := [.int (nI (pt q i 1)), .int (nI (pt q i 2))]) (rest := [.int (nI d), .ref (md 0), .int (nI (fadd q (fadd q (fmul q a (fmul q (pt q i 0) (pt q i 0))) (fmul q b (fmul q (pt q i 1) (pt q i 1)))) (fmul q g (fmul q (pt q i 2) (pt q i 2))))), .ref (md 0)]) (r := .int (nI (fmul q (pt q i 1) (pt q i 2)))) ⟨hx, hb, hml, hown, hts⟩ (c_X7_times l D cI cZ md q w su po xs ys zs hM (pt q i 1) (pt q i 2) (by omega) (by omega)) (cwV 2 hts gX7_valueOf_X7_times rfl rfl rfl hdV_X7_times ⟨Nat.le_of_ble_eq_true rfl, Nat.le_of_ble_eq_true rfl⟩) hK hN hP [0, 1, 2, 3, 4, 5] rfl 0 7 rfl rfl rfl hl.1 rfl (Nat.le_of_ble_eq_true rfl) ⟨Nat.zero_le _, Nat.zero_le _⟩ dX7_valueOf_91 ?_
  have hh_9 : fmul q (pt q i 1) (pt q i 2) < q := fmul_lt hM.1 (by omega) (by omega)
  refine ctR_V (As := [.int (nI d), .int (nI (fmul q (pt q i 1) (pt q i 2)))]) (rest := [.int (nI (fadd q (fadd q (fmul q a (fmul q (pt q i 0) (pt q i 0))) (fmul q b (fmul q (pt q i 1) (pt q i 1)))) (fmul q g (fmul q (pt q i 2) (pt q i 2))))), .ref (md 0)]) (r := .int (nI (fmul q d (fmul q (pt q i 1) (pt q i 2))))) ⟨hx, hb, hml, hown, hts⟩ (c_X7_times l D cI cZ md q w su po xs ys zs hM d (fmul q (pt q i 1) (pt q i 2)) (by omega) (by omega)) (cwV 2 hts gX7_valueOf_X7_times rfl rfl rfl hdV_X7_times ⟨Nat.le_of_ble_eq_true rfl, Nat.le_of_ble_eq_true rfl⟩) hK hN hP [0, 1, 2, 3, 4, 5] rfl 0 7 rfl rfl rfl hl.1 rfl (Nat.le_of_ble_eq_true rfl) ⟨Nat.zero_le _, Nat.zero_le _⟩ dX7_valueOf_94 ?_
  have hh_10 : fmul q d (fmul q (pt q i 1) (pt q i 2)) < q := fmul_lt hM.1 (by omega) (by omega)
  refine ctR_V (As := [.int (nI (fadd q (fadd q (fmul q a (fmul q (pt q i 0) (pt q i 0))) (fmul q b (fmul q (pt q i 1) (pt q i 1)))) (fmul q g (fmul q (pt q i 2) (pt q i 2))))), .int (nI (fmul q d (fmul q (pt q i 1) (pt q i 2))))]) (rest := []) (r := .int (nI (fadd q (fadd q (fadd q (fmul q a (fmul q (pt q i 0) (pt q i 0))) (fmul q b (fmul q (pt q i 1) (pt q i 1)))) (fmul q g (fmul q (pt q i 2) (pt q i 2)))) (fmul q d (fmul q (pt q i 1) (pt q i 2)))))) ⟨hx, hb, hml, hown, hts⟩ (c_X7_add l D cI cZ md q w su po xs ys zs hM (fadd q (fadd q (fmul q a (fmul q (pt q i 0) (pt q i 0))) (fmul q b (fmul q (pt q i 1) (pt q i 1)))) (fmul q g (fmul q (pt q i 2) (pt q i 2)))) (fmul q d (fmul q (pt q i 1) (pt q i 2))) (by omega) (by omega)) (cwV 2 hts gX7_valueOf_X7_add rfl rfl rfl hdV_X7_add ⟨Nat.le_of_ble_eq_true rfl, Nat.le_of_ble_eq_true rfl⟩) hK hN hP [0, 1, 2, 3, 4, 5] rfl 0 7 rfl rfl rfl hl.1 rfl (Nat.le_of_ble_eq_true rfl) ⟨Nat.zero_le _, Nat.zero_le _⟩ dX7_valueOf_97 ?_
  have hh_11 : fadd q (fadd q (fadd q (fmul q a (fmul q (pt q i 0) (pt q i 0))) (fmul q b (fmul q (pt q i 1) (pt q i 1)))) (fmul q g (fmul q (pt q i 2) (pt q i 2)))) (fmul q d (fmul q (pt q i 1) (pt q i 2))) < q := fadd_lt hM.1 (by omega) (by omega)
  refine lv_istore (lv' := [(11, .int (nI (fadd q (fadd q (fadd q (fmul q a (fmul q (pt q i 0) (pt q i 0))) (fmul q b (fmul q (pt q i 1) (pt q i 1)))) (fmul q g (fmul q (pt q i 2) (pt q i 2)))) (fmul q d (fmul q (pt q i 1) (pt q i 2)))))), (10, .int (nI (pt q i 2))), (9, .int (nI (pt q i 1))), (8, .int (nI (pt q i 0))), (0, .ref (md 0)), (1, .int (nI a)), (2, .int (nI b)), (3, .int (nI g)), (4, .int (nI d)), (5, .int (nI f1)), (6, .int (nI f2)), (7, .int (nI i))]) hx hb dX7_valueOf_100 hl (by decide) rfl (fun ls hl => ?_)
  refine lv_aload_n hx hb dX7_valueOf_102 rfl (lv_at hl 4 rfl) ?_
  refine lv_iload hx hb dX7_valueOf_103 (lv_at hl 0 rfl) ?_
  refine lv_aload_n hx hb dX7_valueOf_105 rfl (lv_at hl 4 rfl) ?_
  refine lv_iload hx hb dX7_valueOf_106 (lv_at hl 9 rfl) ?_
  refine lv_aload_n hx hb dX7_valueOf_108 rfl (lv_at hl 4 rfl) ?_
  refine lv_iload hx hb dX7_valueOf_109 (lv_at hl 3 rfl) ?_
  refine lv_iload hx hb dX7_valueOf_111 (lv_at hl 1 rfl) ?_
  refine ctR_V (As := [.int (nI (pt q i 0)), .int (nI (pt q i 2))]) (rest := [.int (nI f1), .ref (md 0), .int (nI (fadd q (fadd q (fadd q (fmul q a (fmul q (pt q i 0) (pt q i 0))) (fmul q b (fmul q (pt q i 1) (pt q i 1)))) (fmul q g (fmul q (pt q i 2) (pt q i 2)))) (fmul q d (fmul q (pt q i 1) (pt q i 2))))), .ref (md 0)]) (r := .int (nI (fmul q (pt q i 0) (pt q i 2)))) ⟨hx, hb, hml, hown, hts⟩ (c_X7_times l D cI cZ md q w su po xs ys zs hM (pt q i 0) (pt q i 2) (by omega) (by omega)) (cwV 2 hts gX7_valueOf_X7_times rfl rfl rfl hdV_X7_times ⟨Nat.le_of_ble_eq_true rfl, Nat.le_of_ble_eq_true rfl⟩) hK hN hP [0, 1, 2, 3, 4, 5] rfl 0 7 rfl rfl rfl hl.1 rfl (Nat.le_of_ble_eq_true rfl) ⟨Nat.zero_le _, Nat.zero_le _⟩ dX7_valueOf_113 ?_
  have hh_12 : fmul q (pt q i 0) (pt q i 2) < q := fmul_lt hM.1 (by omega) (by omega)
  refine ctR_V (As := [.int (nI f1), .int (nI (fmul q (pt q i 0) (pt q i 2)))]) (rest := [.int (nI (fadd q (fadd q (fadd q (fmul q a (fmul q (pt q i 0) (pt q i 0))) (fmul q b (fmul q (pt q i 1) (pt q i 1)))) (fmul q g (fmul q (pt q i 2) (pt q i 2)))) (fmul q d (fmul q (pt q i 1) (pt q i 2))))), .ref (md 0)]) (r := .int (nI (fmul q f1 (fmul q (pt q i 0) (pt q i 2))))) ⟨hx, hb, hml, hown, hts⟩ (c_X7_times l D cI cZ md q w su po xs ys zs hM f1 (fmul q (pt q i 0) (pt q i 2)) (by omega) (by omega)) (cwV 2 hts gX7_valueOf_X7_times rfl rfl rfl hdV_X7_times ⟨Nat.le_of_ble_eq_true rfl, Nat.le_of_ble_eq_true rfl⟩) hK hN hP [0, 1, 2, 3, 4, 5] rfl 0 7 rfl rfl rfl hl.1 rfl (Nat.le_of_ble_eq_true rfl) ⟨Nat.zero_le _, Nat.zero_le _⟩ dX7_valueOf_116 ?_
  have hh_13 : fmul q f1 (fmul q (pt q i 0) (pt q i 2)) < q := fmul_lt hM.1 (by omega) (by omega)
  refine ctR_V (As := [.int (nI (fadd q (fadd q (fadd q (fmul q a (fmul q (pt q i 0) (pt q i 0))) (fmul q b (fmul q (pt q i 1) (pt q i 1)))) (fmul q g (fmul q (pt q i 2) (pt q i 2)))) (fmul q d (fmul q (pt q i 1) (pt q i 2))))), .int (nI (fmul q f1 (fmul q (pt q i 0) (pt q i 2))))]) (rest := []) (r := .int (nI (fadd q (fadd q (fadd q (fadd q (fmul q a (fmul q (pt q i 0) (pt q i 0))) (fmul q b (fmul q (pt q i 1) (pt q i 1)))) (fmul q g (fmul q (pt q i 2) (pt q i 2)))) (fmul q d (fmul q (pt q i 1) (pt q i 2)))) (fmul q f1 (fmul q (pt q i 0) (pt q i 2)))))) ⟨hx, hb, hml, hown, hts⟩ (c_X7_add l D cI cZ md q w su po xs ys zs hM (fadd q (fadd q (fadd q (fmul q a (fmul q (pt q i 0) (pt q i 0))) (fmul q b (fmul q (pt q i 1) (pt q i 1)))) (fmul q g (fmul q (pt q i 2) (pt q i 2)))) (fmul q d (fmul q (pt q i 1) (pt q i 2)))) (fmul q f1 (fmul q (pt q i 0) (pt q i 2))) (by omega) (by omega)) (cwV 2 hts gX7_valueOf_X7_add rfl rfl rfl hdV_X7_add ⟨Nat.le_of_ble_eq_true rfl, Nat.le_of_ble_eq_true rfl⟩) hK hN hP [0, 1, 2, 3, 4, 5] rfl 0 7 rfl rfl rfl hl.1 rfl (Nat.le_of_ble_eq_true rfl) ⟨Nat.zero_le _, Nat.zero_le _⟩ dX7_valueOf_119 ?_
  have hh_14 : fadd q (fadd q (fadd q (fadd q (fmul q a (fmul q (pt q i 0) (pt q i 0))) (fmul q b (fmul q (pt q i 1) (pt q i 1)))) (fmul q g (fmul q (pt q i 2) (pt q i 2)))) (fmul q d (fmul q (pt q i 1) (pt q i 2)))) (fmul q f1 (fmul q (pt q i 0) (pt q i 2))) < q := fadd_lt hM.1 (by omega) (by omega)
  refine lv_istore (lv' := [(11, .int (nI (fadd q (fadd q (fadd q (fadd q (fmul q a (fmul q (pt q i 0) (pt q i 0))) (fmul q b (fmul q (pt q i 1) (pt q i 1)))) (fmul q g (fmul q (pt q i 2) (pt q i 2)))) (fmul q d (fmul q (pt q i 1) (pt q i 2)))) (fmul q f1 (fmul q (pt q i 0) (pt q i 2)))))), (10, .int (nI (pt q i 2))), (9, .int (nI (pt q i 1))), (8, .int (nI (pt q i 0))), (0, .ref (md 0)), (1, .int (nI a)), (2, .int (nI b)), (3, .int (nI g)), (4, .int (nI d)), (5, .int (nI f1)), (6, .int (nI f2)), (7, .int (nI i))]) hx hb dX7_valueOf_122 hl (by decide) rfl (fun ls hl => ?_)
  refine lv_aload_n hx hb dX7_valueOf_124 rfl (lv_at hl 4 rfl) ?_
  refine lv_iload hx hb dX7_valueOf_125 (lv_at hl 0 rfl) ?_
  refine lv_aload_n hx hb dX7_valueOf_127 rfl (lv_at hl 4 rfl) ?_
  refine lv_iload hx hb dX7_valueOf_128 (lv_at hl 10 rfl) ?_
  refine lv_aload_n hx hb dX7_valueOf_130 rfl (lv_at hl 4 rfl) ?_
  refine lv_iload hx hb dX7_valueOf_131 (lv_at hl 3 rfl) ?_
  refine lv_iload hx hb dX7_valueOf_133 (lv_at hl 2 rfl) ?_
  refine ctR_V (As := [.int (nI (pt q i 0)), .int (nI (pt q i 1))]) (rest := [.int (nI f2), .ref (md 0), .int (nI (fadd q (fadd q (fadd q (fadd q (fmul q a (fmul q (pt q i 0) (pt q i 0))) (fmul q b (fmul q (pt q i 1) (pt q i 1)))) (fmul q g (fmul q (pt q i 2) (pt q i 2)))) (fmul q d (fmul q (pt q i 1) (pt q i 2)))) (fmul q f1 (fmul q (pt q i 0) (pt q i 2))))), .ref (md 0)]) (r := .int (nI (fmul q (pt q i 0) (pt q i 1)))) ⟨hx, hb, hml, hown, hts⟩ (c_X7_times l D cI cZ md q w su po xs ys zs hM (pt q i 0) (pt q i 1) (by omega) (by omega)) (cwV 2 hts gX7_valueOf_X7_times rfl rfl rfl hdV_X7_times ⟨Nat.le_of_ble_eq_true rfl, Nat.le_of_ble_eq_true rfl⟩) hK hN hP [0, 1, 2, 3, 4, 5] rfl 0 7 rfl rfl rfl hl.1 rfl (Nat.le_of_ble_eq_true rfl) ⟨Nat.zero_le _, Nat.zero_le _⟩ dX7_valueOf_135 ?_
  have hh_15 : fmul q (pt q i 0) (pt q i 1) < q := fmul_lt hM.1 (by omega) (by omega)
  refine ctR_V (As := [.int (nI f2), .int (nI (fmul q (pt q i 0) (pt q i 1)))]) (rest := [.int (nI (fadd q (fadd q (fadd q (fadd q (fmul q a (fmul q (pt q i 0) (pt q i 0))) (fmul q b (fmul q (pt q i 1) (pt q i 1)))) (fmul q g (fmul q (pt q i 2) (pt q i 2)))) (fmul q d (fmul q (pt q i 1) (pt q i 2)))) (fmul q f1 (fmul q (pt q i 0) (pt q i 2))))), .ref (md 0)]) (r := .int (nI (fmul q f2 (fmul q (pt q i 0) (pt q i 1))))) ⟨hx, hb, hml, hown, hts⟩ (c_X7_times l D cI cZ md q w su po xs ys zs hM f2 (fmul q (pt q i 0) (pt q i 1)) (by omega) (by omega)) (cwV 2 hts gX7_valueOf_X7_times rfl rfl rfl hdV_X7_times ⟨Nat.le_of_ble_eq_true rfl, Nat.le_of_ble_eq_true rfl⟩) hK hN hP [0, 1, 2, 3, 4, 5] rfl 0 7 rfl rfl rfl hl.1 rfl (Nat.le_of_ble_eq_true rfl) ⟨Nat.zero_le _, Nat.zero_le _⟩ dX7_valueOf_138 ?_
  have hh_16 : fmul q f2 (fmul q (pt q i 0) (pt q i 1)) < q := fmul_lt hM.1 (by omega) (by omega)
  refine ctR_V (As := [.int (nI (fadd q (fadd q (fadd q (fadd q (fmul q a (fmul q (pt q i 0) (pt q i 0))) (fmul q b (fmul q (pt q i 1) (pt q i 1)))) (fmul q g (fmul q (pt q i 2) (pt q i 2)))) (fmul q d (fmul q (pt q i 1) (pt q i 2)))) (fmul q f1 (fmul q (pt q i 0) (pt q i 2))))), .int (nI (fmul q f2 (fmul q (pt q i 0) (pt q i 1))))]) (rest := []) (r := .int (nI (fadd q (fadd q (fadd q (fadd q (fadd q (fmul q a (fmul q (pt q i 0) (pt q i 0))) (fmul q b (fmul q (pt q i 1) (pt q i 1)))) (fmul q g (fmul q (pt q i 2) (pt q i 2)))) (fmul q d (fmul q (pt q i 1) (pt q i 2)))) (fmul q f1 (fmul q (pt q i 0) (pt q i 2)))) (fmul q f2 (fmul q (pt q i 0) (pt q i 1)))))) ⟨hx, hb, hml, hown, hts⟩ (c_X7_add l D cI cZ md q w su po xs ys zs hM (fadd q (fadd q (fadd q (fadd q (fmul q a (fmul q (pt q i 0) (pt q i 0))) (fmul q b (fmul q (pt q i 1) (pt q i 1)))) (fmul q g (fmul q (pt q i 2) (pt q i 2)))) (fmul q d (fmul q (pt q i 1) (pt q i 2)))) (fmul q f1 (fmul q (pt q i 0) (pt q i 2)))) (fmul q f2 (fmul q (pt q i 0) (pt q i 1))) (by omega) (by omega)) (cwV 2 hts gX7_valueOf_X7_add rfl rfl rfl hdV_X7_add ⟨Nat.le_of_ble_eq_true rfl, Nat.le_of_ble_eq_true rfl⟩) hK hN hP [0, 1, 2, 3, 4, 5] rfl 0 7 rfl rfl rfl hl.1 rfl (Nat.le_of_ble_eq_true rfl) ⟨Nat.zero_le _, Nat.zero_le _⟩ dX7_valueOf_141 ?_
  have hh_17 : fadd q (fadd q (fadd q (fadd q (fadd q (fmul q a (fmul q (pt q i 0) (pt q i 0))) (fmul q b (fmul q (pt q i 1) (pt q i 1)))) (fmul q g (fmul q (pt q i 2) (pt q i 2)))) (fmul q d (fmul q (pt q i 1) (pt q i 2)))) (fmul q f1 (fmul q (pt q i 0) (pt q i 2)))) (fmul q f2 (fmul q (pt q i 0) (pt q i 1))) < q := fadd_lt hM.1 (by omega) (by omega)
  exact ctR_ret (v := (nI (fadd q (fadd q (fadd q (fadd q (fadd q (fmul q a (fmul q (pt q i 0) (pt q i 0))) (fmul q b (fmul q (pt q i 1) (pt q i 1)))) (fmul q g (fmul q (pt q i 2) (pt q i 2)))) (fmul q d (fmul q (pt q i 1) (pt q i 2)))) (fmul q f1 (fmul q (pt q i 0) (pt q i 2)))) (fmul q f2 (fmul q (pt q i 0) (pt q i 1)))))) hx hb hr rfl dX7_valueOf_144 hlocks rfl

set_option maxHeartbeats 4000000 in
set_option maxRecDepth 100000 in
theorem c_X7_curve (l : Launch) (D : va_G) (cI cZ : ClassId) (md : Nat → Nat) (q : Nat) (w : Nat) (su : Nat → Nat) (po : Nat → Nat) (xs : Nat → Nat) (ys : Nat → Nat) (zs : Nat → Nat) (hM : MOK q su po xs ys zs) (S : Nat → Bool) (xa : Int32) (xb : Int32) (xc : Int32) (xd : Int32) (xe : Int32) (xf : Int32) : CtW (S := (Nat → Bool)) l yX7_curve wsX7_curve { frames := 2, cells := 0, slots := 0, locals := 53 } D (tyG cI cZ) [.ref (md 0), .int xa, .int xb, .int xc, .int xd, .int xe, .int xf] [(md 0, .inr (7, [.int (nI q), .int (nI (nn q)), .ref (md 1), .ref (md 2), .ref (md 3), .ref (md 4), .ref (md 5), .ref (md 6), .ref (md 7), .ref (md 8), .ref (md 9), .ref (md 10), .ref (md 11), .ref (md 12), .ref (md 13), .ref (md 14), .ref (md 15), .ref (md 16), .int (nI w), .ref (md 17)])), (md 1, .inl (cI, 81, .inl (nF su))), (md 2, .inl (cI, 81, .inl (nF po))), (md 3, .inl (cI, 91, .inl (nF xs))), (md 4, .inl (cI, 91, .inl (nF ys))), (md 5, .inl (cI, 91, .inl (nF zs))), (md 6, .inl (cZ, 91, .inl (bF S)))] (fun (S3 : Nat → Bool) => eqN (nn q) S3 (curS q S xa xb xc xd xe xf)) (fun (S3 : Nat → Bool) => some (.int (curZ q xa xb xc xd xe xf))) (fun (S3 : Nat → Bool) => [(md 0, .inr (7, [.int (nI q), .int (nI (nn q)), .ref (md 1), .ref (md 2), .ref (md 3), .ref (md 4), .ref (md 5), .ref (md 6), .ref (md 7), .ref (md 8), .ref (md 9), .ref (md 10), .ref (md 11), .ref (md 12), .ref (md 13), .ref (md 14), .ref (md 15), .ref (md 16), .int (nI w), .ref (md 17)])), (md 1, .inl (cI, 81, .inl (nF su))), (md 2, .inl (cI, 81, .inl (nF po))), (md 3, .inl (cI, 91, .inl (nF xs))), (md 4, .inl (cI, 91, .inl (nF ys))), (md 5, .inl (cI, 91, .inl (nF zs))), (md 6, .inl (cZ, 91, .inl (bF S3)))]) := by
  intro sz; refine Met.ofW (cc := cX7_curve) (maxL := 8) (ret := some .int) (by decide) rfl ?_
  intro p e s m args below meth c s₁ B hml hv
  obtain ⟨rfl, hsz, hP, hK, hD0, hN⟩ := hv
  have hx := B.exec
  have hb := B.bytes
  have hr := B.returns
  have hts := atoms_spec (ws := wsX7_curve) B.pre
  have hown : s.vm.findClass RX7 = some m.cls := findClass_of_methodNamed B.named
  have hlocks := B.notSynchronized
  subst hsz
  have hD := hD0.self (sz := s.heap.size)
  generalize hAe : va_A [(md 0, .inr (7, [.int (nI q), .int (nI (nn q)), .ref (md 1), .ref (md 2), .ref (md 3), .ref (md 4), .ref (md 5), .ref (md 6), .ref (md 7), .ref (md 8), .ref (md 9), .ref (md 10), .ref (md 11), .ref (md 12), .ref (md 13), .ref (md 14), .ref (md 15), .ref (md 16), .int (nI w), .ref (md 17)])), (md 1, .inl (cI, 81, .inl (nF su))), (md 2, .inl (cI, 81, .inl (nF po))), (md 3, .inl (cI, 91, .inl (nF xs))), (md 4, .inl (cI, 91, .inl (nF ys))), (md 5, .inl (cI, 91, .inl (nF zs))), (md 6, .inl (cZ, 91, .inl (bF S)))] s.heap.size = A at hD ⊢
  have hA : ∀ q : Nat, s.heap.size ≤ q → A q := fun q h => by rw [← hAe]; exact Or.inr h
  have hS : va_S A s.heap s.heap [] := va_S.rf
  have hP : va_P D vwCl [(md 0, .inr (7, [.int (nI q), .int (nI (nn q)), .ref (md 1), .ref (md 2), .ref (md 3), .ref (md 4), .ref (md 5), .ref (md 6), .ref (md 7), .ref (md 8), .ref (md 9), .ref (md 10), .ref (md 11), .ref (md 12), .ref (md 13), .ref (md 14), .ref (md 15), .ref (md 16), .int (nI w), .ref (md 17)])), (md 1, .inl (cI, 81, .inl (nF su))), (md 2, .inl (cI, 81, .inl (nF po))), (md 3, .inl (cI, 91, .inl (nF xs))), (md 4, .inl (cI, 91, .inl (nF ys))), (md 5, .inl (cI, 91, .inl (nF zs))), (md 6, .inl (cZ, 91, .inl (bF S)))] s.heap := hP
  have hf25 := hts (.fieldLink RX7 25 "FinitePlanesModel" "isIn" "[Z") (by decide +kernel)
  have hf83 := hts (.fieldLink RX7 83 "FinitePlanesModel" "n" "I") (by decide +kernel)
  have hiX7 : ∀ w ∈ u_ws RX7 TX7 20, w ∈ wsX7_curve := by decide +kernel
  have hl := lv_entry ([.ref (md 0), .int xa, .int xb, .int xc, .int xd, .int xe, .int xf]) (n := 8) (Nat.le_of_ble_eq_true rfl)
  rw [lg_entry_eq]
  generalize (lg_sl ([.ref (md 0), .int xa, .int xb, .int xc, .int xd, .int xe, .int xf]) ++ List.replicate (8 - (lg_sl ([.ref (md 0), .int xa, .int xb, .int xc, .int xd, .int xe, .int xf])).length) Slot.unset).toArray = ls at hl ⊢
  have hl : lv_has ls 8 [(0, .ref (md 0)), (1, .int xa), (2, .int xb), (3, .int xc), (4, .int xd), (5, .int xe), (6, .int xf)] := hl
  have hq2 := qs_le hM.1
  have hn2 := nn_le hM.1
  refine lv_aload_n hx hb dX7_curve_0 rfl (lv_at hl 0 rfl) ?_
  refine lv_iload_n hx hb dX7_curve_1 rfl (lv_at hl 1 rfl) ?_
  refine ctR_V (As := [.int xa]) (rest := []) (r := .int (nI (inB xa q).toNat)) ⟨hx, hb, hml, hown, hts⟩ (c_X7_isNumber l D cI cZ md q w su po xs ys zs hM xa) (cwV 1 hts gX7_curve_X7_isNumber rfl rfl rfl hdV_X7_isNumber ⟨Nat.le_of_ble_eq_true rfl, Nat.le_of_ble_eq_true rfl⟩) hK hN hP [0, 1, 2, 3, 4, 5] rfl 0 7 rfl rfl rfl hl.1 rfl (Nat.le_of_ble_eq_true rfl) ⟨Nat.zero_le _, Nat.zero_le _⟩ dX7_curve_2 ?_
  refine nv_ifb_eq (tgt := 51) hx hb dX7_curve_5 (by decide) (fun c5 => ?_) (fun c5 => ?_)
  · refine lv_bipush (v := (-2)) hx hb dX7_curve_51 (by decide) ?_
    exact ctW_retI (v := (-2)) S hx hb hr rfl dX7_curve_53 hlocks hS hP hD (curS_b (bad6_of (Or.inl c5))) (curZ_b (bad6_of (Or.inl c5)))
  · refine lv_aload_n hx hb dX7_curve_8 rfl (lv_at hl 0 rfl) ?_
    refine lv_iload_n hx hb dX7_curve_9 rfl (lv_at hl 2 rfl) ?_
    refine ctR_V (As := [.int xb]) (rest := []) (r := .int (nI (inB xb q).toNat)) ⟨hx, hb, hml, hown, hts⟩ (c_X7_isNumber l D cI cZ md q w su po xs ys zs hM xb) (cwV 1 hts gX7_curve_X7_isNumber rfl rfl rfl hdV_X7_isNumber ⟨Nat.le_of_ble_eq_true rfl, Nat.le_of_ble_eq_true rfl⟩) hK hN hP [0, 1, 2, 3, 4, 5] rfl 0 7 rfl rfl rfl hl.1 rfl (Nat.le_of_ble_eq_true rfl) ⟨Nat.zero_le _, Nat.zero_le _⟩ dX7_curve_10 ?_
    refine nv_ifb_eq (tgt := 51) hx hb dX7_curve_13 (by decide) (fun c13 => ?_) (fun c13 => ?_)
    · refine lv_bipush (v := (-2)) hx hb dX7_curve_51 (by decide) ?_
      exact ctW_retI (v := (-2)) S hx hb hr rfl dX7_curve_53 hlocks hS hP hD (curS_b (bad6_of (Or.inr (Or.inl c13)))) (curZ_b (bad6_of (Or.inr (Or.inl c13))))
    · refine lv_aload_n hx hb dX7_curve_16 rfl (lv_at hl 0 rfl) ?_
      refine lv_iload_n hx hb dX7_curve_17 rfl (lv_at hl 3 rfl) ?_
      refine ctR_V (As := [.int xc]) (rest := []) (r := .int (nI (inB xc q).toNat)) ⟨hx, hb, hml, hown, hts⟩ (c_X7_isNumber l D cI cZ md q w su po xs ys zs hM xc) (cwV 1 hts gX7_curve_X7_isNumber rfl rfl rfl hdV_X7_isNumber ⟨Nat.le_of_ble_eq_true rfl, Nat.le_of_ble_eq_true rfl⟩) hK hN hP [0, 1, 2, 3, 4, 5] rfl 0 7 rfl rfl rfl hl.1 rfl (Nat.le_of_ble_eq_true rfl) ⟨Nat.zero_le _, Nat.zero_le _⟩ dX7_curve_18 ?_
      refine nv_ifb_eq (tgt := 51) hx hb dX7_curve_21 (by decide) (fun c21 => ?_) (fun c21 => ?_)
      · refine lv_bipush (v := (-2)) hx hb dX7_curve_51 (by decide) ?_
        exact ctW_retI (v := (-2)) S hx hb hr rfl dX7_curve_53 hlocks hS hP hD (curS_b (bad6_of (Or.inr (Or.inr (Or.inl c21))))) (curZ_b (bad6_of (Or.inr (Or.inr (Or.inl c21)))))
      · refine lv_aload_n hx hb dX7_curve_24 rfl (lv_at hl 0 rfl) ?_
        refine lv_iload hx hb dX7_curve_25 (lv_at hl 4 rfl) ?_
        refine ctR_V (As := [.int xd]) (rest := []) (r := .int (nI (inB xd q).toNat)) ⟨hx, hb, hml, hown, hts⟩ (c_X7_isNumber l D cI cZ md q w su po xs ys zs hM xd) (cwV 1 hts gX7_curve_X7_isNumber rfl rfl rfl hdV_X7_isNumber ⟨Nat.le_of_ble_eq_true rfl, Nat.le_of_ble_eq_true rfl⟩) hK hN hP [0, 1, 2, 3, 4, 5] rfl 0 7 rfl rfl rfl hl.1 rfl (Nat.le_of_ble_eq_true rfl) ⟨Nat.zero_le _, Nat.zero_le _⟩ dX7_curve_27 ?_
        refine nv_ifb_eq (tgt := 51) hx hb dX7_curve_30 (by decide) (fun c30 => ?_) (fun c30 => ?_)
        · refine lv_bipush (v := (-2)) hx hb dX7_curve_51 (by decide) ?_
          exact ctW_retI (v := (-2)) S hx hb hr rfl dX7_curve_53 hlocks hS hP hD (curS_b (bad6_of (Or.inr (Or.inr (Or.inr (Or.inl c30)))))) (curZ_b (bad6_of (Or.inr (Or.inr (Or.inr (Or.inl c30))))))
        · refine lv_aload_n hx hb dX7_curve_33 rfl (lv_at hl 0 rfl) ?_
          refine lv_iload hx hb dX7_curve_34 (lv_at hl 5 rfl) ?_
          refine ctR_V (As := [.int xe]) (rest := []) (r := .int (nI (inB xe q).toNat)) ⟨hx, hb, hml, hown, hts⟩ (c_X7_isNumber l D cI cZ md q w su po xs ys zs hM xe) (cwV 1 hts gX7_curve_X7_isNumber rfl rfl rfl hdV_X7_isNumber ⟨Nat.le_of_ble_eq_true rfl, Nat.le_of_ble_eq_true rfl⟩) hK hN hP [0, 1, 2, 3, 4, 5] rfl 0 7 rfl rfl rfl hl.1 rfl (Nat.le_of_ble_eq_true rfl) ⟨Nat.zero_le _, Nat.zero_le _⟩ dX7_curve_36 ?_
          refine nv_ifb_eq (tgt := 51) hx hb dX7_curve_39 (by decide) (fun c39 => ?_) (fun c39 => ?_)
          · refine lv_bipush (v := (-2)) hx hb dX7_curve_51 (by decide) ?_
            exact ctW_retI (v := (-2)) S hx hb hr rfl dX7_curve_53 hlocks hS hP hD (curS_b (bad6_of (Or.inr (Or.inr (Or.inr (Or.inr (Or.inl c39))))))) (curZ_b (bad6_of (Or.inr (Or.inr (Or.inr (Or.inr (Or.inl c39)))))))
          · refine lv_aload_n hx hb dX7_curve_42 rfl (lv_at hl 0 rfl) ?_
            refine lv_iload hx hb dX7_curve_43 (lv_at hl 6 rfl) ?_
            refine ctR_V (As := [.int xf]) (rest := []) (r := .int (nI (inB xf q).toNat)) ⟨hx, hb, hml, hown, hts⟩ (c_X7_isNumber l D cI cZ md q w su po xs ys zs hM xf) (cwV 1 hts gX7_curve_X7_isNumber rfl rfl rfl hdV_X7_isNumber ⟨Nat.le_of_ble_eq_true rfl, Nat.le_of_ble_eq_true rfl⟩) hK hN hP [0, 1, 2, 3, 4, 5] rfl 0 7 rfl rfl rfl hl.1 rfl (Nat.le_of_ble_eq_true rfl) ⟨Nat.zero_le _, Nat.zero_le _⟩ dX7_curve_45 ?_
            refine nv_ifb_ne (tgt := 54) hx hb dX7_curve_48 (by decide) (fun c48 => ?_) (fun c48 => ?_)
            · have hb6 : bad6 q xa xb xc xd xe xf = false := by simp [bad6, c5, c13, c21, c30, c39, c48]
              obtain ⟨ja, hja, rfl⟩ := inB_of (by omega) c5
              obtain ⟨jb, hjb, rfl⟩ := inB_of (by omega) c13
              obtain ⟨jc, hjc, rfl⟩ := inB_of (by omega) c21
              obtain ⟨jd, hjd, rfl⟩ := inB_of (by omega) c30
              obtain ⟨je, hje, rfl⟩ := inB_of (by omega) c39
              obtain ⟨jf, hjf, rfl⟩ := inB_of (by omega) c48
              refine lv_iload_n hx hb dX7_curve_54 rfl (lv_at hl 1 rfl) ?_
              refine lv_iload_n hx hb dX7_curve_55 rfl (lv_at hl 2 rfl) ?_
              refine nv_addE (r := ja + jb) hx hb rfl dX7_curve_56 ?_
              refine lv_iload_n hx hb dX7_curve_57 rfl (lv_at hl 3 rfl) ?_
              refine nv_addE (r := (ja + jb) + jc) hx hb rfl dX7_curve_58 ?_
              refine lv_iload hx hb dX7_curve_59 (lv_at hl 4 rfl) ?_
              refine nv_addE (r := ((ja + jb) + jc) + jd) hx hb rfl dX7_curve_61 ?_
              refine lv_iload hx hb dX7_curve_62 (lv_at hl 5 rfl) ?_
              refine nv_addE (r := (((ja + jb) + jc) + jd) + je) hx hb rfl dX7_curve_64 ?_
              refine lv_iload hx hb dX7_curve_65 (lv_at hl 6 rfl) ?_
              refine nv_addE (r := ((((ja + jb) + jc) + jd) + je) + jf) hx hb rfl dX7_curve_67 ?_
              refine nv_if_ne (tgt := 74) hx hb (by omega) dX7_curve_68 (by decide) (fun c68 => ?_) (fun c68 => ?_)
              · have hnz : ¬ zer6 (nI ja) (nI jb) (nI jc) (nI jd) (nI je) (nI jf) := fun z => by
                  rw [zer6, nv_nI (show ja < 2 ^ 31 by omega), nv_nI (show jb < 2 ^ 31 by omega), nv_nI (show jc < 2 ^ 31 by omega), nv_nI (show jd < 2 ^ 31 by omega), nv_nI (show je < 2 ^ 31 by omega), nv_nI (show jf < 2 ^ 31 by omega)] at z
                  omega
                refine lv_iconst (v := nI 0) hx hb dX7_curve_74 (by decide) ?_
                refine lv_istore (lv' := [(7, .int (nI 0)), (0, .ref (md 0)), (1, .int (nI ja)), (2, .int (nI jb)), (3, .int (nI jc)), (4, .int (nI jd)), (5, .int (nI je)), (6, .int (nI jf))]) hx hb dX7_curve_75 hl (by decide) rfl (fun ls hl => ?_)
                have L77 : ∀ (N77 : Nat) (i : Nat) (S1 : Nat → Bool) (ls : Array Slot) (H : Heap) (locs : List Loc), nn q - i < N77 → (i ≤ nn q) → (∀ t, t < i → S1 t = (crv q (u6 ja jb jc jd je jf) t == 0)) → lv_has ls 8 [(0, .ref (md 0)), (1, .int (nI ja)), (2, .int (nI jb)), (3, .int (nI jc)), (4, .int (nI jd)), (5, .int (nI je)), (6, .int (nI jf)), (7, .int (nI i))] → va_P D vwCl [(md 0, .inr (7, [.int (nI q), .int (nI (nn q)), .ref (md 1), .ref (md 2), .ref (md 3), .ref (md 4), .ref (md 5), .ref (md 6), .ref (md 7), .ref (md 8), .ref (md 9), .ref (md 10), .ref (md 11), .ref (md 12), .ref (md 13), .ref (md 14), .ref (md 15), .ref (md 16), .int (nI w), .ref (md 17)])), (md 1, .inl (cI, 81, .inl (nF su))), (md 2, .inl (cI, 81, .inl (nF po))), (md 3, .inl (cI, 91, .inl (nF xs))), (md 4, .inl (cI, 91, .inl (nF ys))), (md 5, .inl (cI, 91, .inl (nF zs))), (md 6, .inl (cZ, 91, .inl (bF S1)))] H → va_D A [(md 0, .inr (7, [.int (nI q), .int (nI (nn q)), .ref (md 1), .ref (md 2), .ref (md 3), .ref (md 4), .ref (md 5), .ref (md 6), .ref (md 7), .ref (md 8), .ref (md 9), .ref (md 10), .ref (md 11), .ref (md 12), .ref (md 13), .ref (md 14), .ref (md 15), .ref (md 16), .int (nI w), .ref (md 17)])), (md 1, .inl (cI, 81, .inl (nF su))), (md 2, .inl (cI, 81, .inl (nF po))), (md 3, .inl (cI, 91, .inl (nF xs))), (md 4, .inl (cI, 91, .inl (nF ys))), (md 5, .inl (cI, 91, .inl (nF zs))), (md 6, .inl (cZ, 91, .inl (bF S1)))] → va_S A s.heap H locs → WG p l e wsX7_curve { frames := 2, cells := 0, slots := 0, locals := 53 } s m [.ref (md 0), .int (nI ja), .int (nI jb), .int (nI jc), .int (nI jd), .int (nI je), .int (nI jf)] below meth c H locs (CQ (S := (Nat → Bool)) D (fun (S3 : Nat → Bool) => eqN (nn q) S3 (curS q S (nI ja) (nI jb) (nI jc) (nI jd) (nI je) (nI jf))) (fun (S3 : Nat → Bool) => some (.int (curZ q (nI ja) (nI jb) (nI jc) (nI jd) (nI je) (nI jf)))) (fun (S3 : Nat → Bool) => [(md 0, .inr (7, [.int (nI q), .int (nI (nn q)), .ref (md 1), .ref (md 2), .ref (md 3), .ref (md 4), .ref (md 5), .ref (md 6), .ref (md 7), .ref (md 8), .ref (md 9), .ref (md 10), .ref (md 11), .ref (md 12), .ref (md 13), .ref (md 14), .ref (md 15), .ref (md 16), .int (nI w), .ref (md 17)])), (md 1, .inl (cI, 81, .inl (nF su))), (md 2, .inl (cI, 81, .inl (nF po))), (md 3, .inl (cI, 91, .inl (nF xs))), (md 4, .inl (cI, 91, .inl (nF ys))), (md 5, .inl (cI, 91, .inl (nF zs))), (md 6, .inl (cZ, 91, .inl (bF S3)))]) A) A 77 ls [] := by
                  intro N77
                  induction N77 with
                  | zero => intro i S1 ls H locs hN; exact absurd hN (Nat.not_lt_zero _)
                  | succ N77 ih77 =>
                    intro i S1 ls H locs hN77 k_i k_s hl hP hD hS
                    refine lv_iload hx hb dX7_curve_77 (lv_at hl 7 rfl) ?_
                    refine lv_aload_n hx hb dX7_curve_79 rfl (lv_at hl 0 rfl) ?_
                    refine va_get (D := D) (ci := 7) (v := .int (nI (nn q))) (C := RX7) (T := TX7) (N := 20) hx hb hts hiX7 hown hK hP 0 rfl rfl 1 (by decide) hf83 (fun _ h9 => h9) rfl dX7_curve_80 ?_
                    refine nv_icmp_ge (tgt := 122) hx hb (by omega) (by omega) dX7_curve_83 (by decide) (fun c83 => ?_) (fun c83 => ?_)
                    · have hev : eqN (nn q) S1 (cur6 q (nI ja) (nI jb) (nI jc) (nI jd) (nI je) (nI jf)) := fun t ht => by rw [k_s t (by omega), cur6, nv_nI (show ja < 2 ^ 31 by omega), nv_nI (show jb < 2 ^ 31 by omega), nv_nI (show jc < 2 ^ 31 by omega), nv_nI (show jd < 2 ^ 31 by omega), nv_nI (show je < 2 ^ 31 by omega), nv_nI (show jf < 2 ^ 31 by omega)]
                      refine lv_aload_n hx hb dX7_curve_122 rfl (lv_at hl 0 rfl) ?_
                      refine lv_aload_n hx hb dX7_curve_123 rfl (lv_at hl 0 rfl) ?_
                      refine va_get (D := D) (ci := 7) (v := .ref (md 6)) (C := RX7) (T := TX7) (N := 20) hx hb hts hiX7 hown hK hP 0 rfl rfl 7 (by decide) hf25 (fun _ h9 => h9) rfl dX7_curve_124 ?_
                      refine ctR_V (As := [.ref (md 6)]) (rest := []) (r := .int (nI (cnt S1 (nn q)))) ⟨hx, hb, hml, hown, hts⟩ (c_X7_sizeOf l D cI cZ md q w su po xs ys zs hM (md 6) S1) (cwV 1 hts gX7_curve_X7_sizeOf rfl rfl rfl hdV_X7_sizeOf ⟨Nat.le_of_ble_eq_true rfl, Nat.le_of_ble_eq_true rfl⟩) hK hN hP [0, 1, 2, 3, 4, 5, 6] rfl 0 7 rfl rfl rfl hl.1 rfl (Nat.le_of_ble_eq_true rfl) ⟨Nat.zero_le _, Nat.zero_le _⟩ dX7_curve_127 ?_
                      have hh_1 : cnt S1 (nn q) ≤ nn q := cnt_le _ _
                      exact ctW_retI (v := (nI (cnt S1 (nn q)))) S1 hx hb hr rfl dX7_curve_130 hlocks hS hP hD (curS_g hb6 hnz hev) (curZ_g hb6 hnz hev)
                    · refine lv_aload_n hx hb dX7_curve_86 rfl (lv_at hl 0 rfl) ?_
                      refine va_get (D := D) (ci := 7) (v := .ref (md 6)) (C := RX7) (T := TX7) (N := 20) hx hb hts hiX7 hown hK hP 0 rfl rfl 7 (by decide) hf25 (fun _ h9 => h9) rfl dX7_curve_87 ?_
                      refine lv_iload hx hb dX7_curve_90 (lv_at hl 7 rfl) ?_
                      refine lv_aload_n hx hb dX7_curve_92 rfl (lv_at hl 0 rfl) ?_
                      refine lv_iload_n hx hb dX7_curve_93 rfl (lv_at hl 1 rfl) ?_
                      refine lv_iload_n hx hb dX7_curve_94 rfl (lv_at hl 2 rfl) ?_
                      refine lv_iload_n hx hb dX7_curve_95 rfl (lv_at hl 3 rfl) ?_
                      refine lv_iload hx hb dX7_curve_96 (lv_at hl 4 rfl) ?_
                      refine lv_iload hx hb dX7_curve_98 (lv_at hl 5 rfl) ?_
                      refine lv_iload hx hb dX7_curve_100 (lv_at hl 6 rfl) ?_
                      refine lv_iload hx hb dX7_curve_102 (lv_at hl 7 rfl) ?_
                      refine ctR_V (As := [.int (nI ja), .int (nI jb), .int (nI jc), .int (nI jd), .int (nI je), .int (nI jf), .int (nI i)]) (rest := [.int (nI i), .ref (md 6)]) (r := .int (nI (crv q (u6 ja jb jc jd je jf) i))) ⟨hx, hb, hml, hown, hts⟩ (c_X7_valueOf l D cI cZ md q w su po xs ys zs hM ja jb jc jd je jf i (by omega) (by omega) (by omega) (by omega) (by omega) (by omega) (by omega)) (cwV 7 hts gX7_curve_X7_valueOf rfl rfl rfl hdV_X7_valueOf ⟨Nat.le_of_ble_eq_true rfl, Nat.le_of_ble_eq_true rfl⟩) hK hN hP [0, 1, 2, 3, 4, 5] rfl 0 7 rfl rfl rfl hl.1 rfl (Nat.le_of_ble_eq_true rfl) ⟨Nat.zero_le _, Nat.zero_le _⟩ dX7_curve_104 ?_
                      refine nv_if_ne (tgt := 114) hx hb (Nat.lt_of_lt_of_le (crv_lt hM.1 (fun k _ => u6_lt hja hjb hjc hjd hje hjf) c83) (by omega)) dX7_curve_107 (by decide) (fun c107 => ?_) (fun c107 => ?_)
                      · refine lv_iconst (v := nI 0) hx hb dX7_curve_114 (by decide) ?_
                        refine nv_zast hx hb hK hP hD hS 6 1 rfl rfl false (by omega) (by decide) dX7_curve_115 (fun H locs hP hD hS => ?_)
                        have hP : va_P D vwCl [(md 0, .inr (7, [.int (nI q), .int (nI (nn q)), .ref (md 1), .ref (md 2), .ref (md 3), .ref (md 4), .ref (md 5), .ref (md 6), .ref (md 7), .ref (md 8), .ref (md 9), .ref (md 10), .ref (md 11), .ref (md 12), .ref (md 13), .ref (md 14), .ref (md 15), .ref (md 16), .int (nI w), .ref (md 17)])), (md 1, .inl (cI, 81, .inl (nF su))), (md 2, .inl (cI, 81, .inl (nF po))), (md 3, .inl (cI, 91, .inl (nF xs))), (md 4, .inl (cI, 91, .inl (nF ys))), (md 5, .inl (cI, 91, .inl (nF zs))), (md 6, .inl (cZ, 91, .inl (bF (upB S1 i false))))] H := hP
                        have hD : va_D A [(md 0, .inr (7, [.int (nI q), .int (nI (nn q)), .ref (md 1), .ref (md 2), .ref (md 3), .ref (md 4), .ref (md 5), .ref (md 6), .ref (md 7), .ref (md 8), .ref (md 9), .ref (md 10), .ref (md 11), .ref (md 12), .ref (md 13), .ref (md 14), .ref (md 15), .ref (md 16), .int (nI w), .ref (md 17)])), (md 1, .inl (cI, 81, .inl (nF su))), (md 2, .inl (cI, 81, .inl (nF po))), (md 3, .inl (cI, 91, .inl (nF xs))), (md 4, .inl (cI, 91, .inl (nF ys))), (md 5, .inl (cI, 91, .inl (nF zs))), (md 6, .inl (cZ, 91, .inl (bF (upB S1 i false))))] := hD
                        refine lv_iinc (v := nI (i + 1)) (lv' := [(7, .int (nI (i + 1))), (0, .ref (md 0)), (1, .int (nI ja)), (2, .int (nI jb)), (3, .int (nI jc)), (4, .int (nI jd)), (5, .int (nI je)), (6, .int (nI jf))]) hx hb dX7_curve_116 hl (k := 7) rfl (nI_inc i) (by decide) rfl (fun ls hl => ?_)
                        refine lv_goto (tgt := 77) hx hb dX7_curve_119 (by decide) ?_
                        exact ih77 (i + 1) (upB S1 i false) ls _ _ (by omega) (by omega) (fun t ht => (Nat.lt_succ_iff_lt_or_eq.mp ht).elim (fun h => by rw [upB_n (by omega)]; exact k_s t h) (fun h => by rw [h, upB_s]; exact (beq_eq_false_iff_ne.mpr c107).symm)) (lv_sub hl [1, 2, 3, 4, 5, 6, 7, 0] rfl) hP hD hS
                      · refine lv_iconst (v := nI 1) hx hb dX7_curve_110 (by decide) ?_
                        refine lv_goto (tgt := 115) hx hb dX7_curve_111 (by decide) ?_
                        refine nv_zast hx hb hK hP hD hS 6 1 rfl rfl true (by omega) (by decide) dX7_curve_115 (fun H locs hP hD hS => ?_)
                        have hP : va_P D vwCl [(md 0, .inr (7, [.int (nI q), .int (nI (nn q)), .ref (md 1), .ref (md 2), .ref (md 3), .ref (md 4), .ref (md 5), .ref (md 6), .ref (md 7), .ref (md 8), .ref (md 9), .ref (md 10), .ref (md 11), .ref (md 12), .ref (md 13), .ref (md 14), .ref (md 15), .ref (md 16), .int (nI w), .ref (md 17)])), (md 1, .inl (cI, 81, .inl (nF su))), (md 2, .inl (cI, 81, .inl (nF po))), (md 3, .inl (cI, 91, .inl (nF xs))), (md 4, .inl (cI, 91, .inl (nF ys))), (md 5, .inl (cI, 91, .inl (nF zs))), (md 6, .inl (cZ, 91, .inl (bF (upB S1 i true))))] H := hP
                        have hD : va_D A [(md 0, .inr (7, [.int (nI q), .int (nI (nn q)), .ref (md 1), .ref (md 2), .ref (md 3), .ref (md 4), .ref (md 5), .ref (md 6), .ref (md 7), .ref (md 8), .ref (md 9), .ref (md 10), .ref (md 11), .ref (md 12), .ref (md 13), .ref (md 14), .ref (md 15), .ref (md 16), .int (nI w), .ref (md 17)])), (md 1, .inl (cI, 81, .inl (nF su))), (md 2, .inl (cI, 81, .inl (nF po))), (md 3, .inl (cI, 91, .inl (nF xs))), (md 4, .inl (cI, 91, .inl (nF ys))), (md 5, .inl (cI, 91, .inl (nF zs))), (md 6, .inl (cZ, 91, .inl (bF (upB S1 i true))))] := hD
                        refine lv_iinc (v := nI (i + 1)) (lv' := [(7, .int (nI (i + 1))), (0, .ref (md 0)), (1, .int (nI ja)), (2, .int (nI jb)), (3, .int (nI jc)), (4, .int (nI jd)), (5, .int (nI je)), (6, .int (nI jf))]) hx hb dX7_curve_116 hl (k := 7) rfl (nI_inc i) (by decide) rfl (fun ls hl => ?_)
                        refine lv_goto (tgt := 77) hx hb dX7_curve_119 (by decide) ?_
                        exact ih77 (i + 1) (upB S1 i true) ls _ _ (by omega) (by omega) (fun t ht => (Nat.lt_succ_iff_lt_or_eq.mp ht).elim (fun h => by rw [upB_n (by omega)]; exact k_s t h) (fun h => by rw [h, upB_s]; exact (beq_iff_eq.mpr c107).symm)) (lv_sub hl [1, 2, 3, 4, 5, 6, 7, 0] rfl) hP hD hS
                exact L77 (nn q - 0 + 1) 0 S ls _ _ (by omega) (Nat.zero_le _) (fun t h => absurd h (Nat.not_lt_zero t)) (lv_sub hl [1, 2, 3, 4, 5, 6, 7, 0] rfl) hP hD hS
              · refine lv_bipush (v := (-3)) hx hb dX7_curve_71 (by decide) ?_
                exact ctW_retI (v := (-3)) S hx hb hr rfl dX7_curve_73 hlocks hS hP hD (curS_z hb6 ⟨(by rw [nv_nI (by omega)]; omega), (by rw [nv_nI (by omega)]; omega), (by rw [nv_nI (by omega)]; omega), (by rw [nv_nI (by omega)]; omega), (by rw [nv_nI (by omega)]; omega), (by rw [nv_nI (by omega)]; omega)⟩) (curZ_z hb6 ⟨(by rw [nv_nI (by omega)]; omega), (by rw [nv_nI (by omega)]; omega), (by rw [nv_nI (by omega)]; omega), (by rw [nv_nI (by omega)]; omega), (by rw [nv_nI (by omega)]; omega), (by rw [nv_nI (by omega)]; omega)⟩)
            · refine lv_bipush (v := (-2)) hx hb dX7_curve_51 (by decide) ?_
              exact ctW_retI (v := (-2)) S hx hb hr rfl dX7_curve_53 hlocks hS hP hD (curS_b (bad6_of (Or.inr (Or.inr (Or.inr (Or.inr (Or.inr (c48)))))))) (curZ_b (bad6_of (Or.inr (Or.inr (Or.inr (Or.inr (Or.inr (c48))))))))

set_option maxHeartbeats 4000000 in
set_option maxRecDepth 100000 in
theorem c_X6_begin (l : Launch) (D : va_G) (cI cZ : ClassId) (ad : Nat → Nat) (q : Nat) (sm : Nat → Nat) (pr : Nat → Nat) (op : Nat → Nat) (iv : Nat → Nat) (hF : FOK q sm pr op iv) (tr : Nat → Nat) (ro : Nat → Nat) (hT : TOK q tr) (hR : ROK q ro) (S : Nat → Bool) (gr : Nat → Bool) (ol : Nat → Nat) (mm : Nat → Nat) (me : Nat → Nat) (rc : Nat → Bool) (x1 : Int32) : CtW (S := (Nat) × (Nat → Nat) × (Nat → Nat) × (Nat → Nat) × (Nat → Nat) × (Nat → Nat) × (Nat → Nat) × (Nat → Bool) × (Nat → Nat)) l yX6_begin wsX6_begin { frames := 4, cells := 0, slots := 0, locals := 96 } D (tyG cI cZ) [.ref (ad 26), .int x1] [(ad 0, .inr (1, [.int (nI q), .ref (ad 1), .ref (ad 2), .ref (ad 3), .ref (ad 4)])), (ad 1, .inl (cI, 81, .inl (nF sm))), (ad 2, .inl (cI, 81, .inl (nF pr))), (ad 3, .inl (cI, 9, .inl (nF op))), (ad 4, .inl (cI, 9, .inl (nF iv))), (ad 5, .inr (3, [.ref (ad 0), .int (nI (nn q)), .ref (ad 6), .ref (ad 7)])), (ad 6, .inl (cI, 273, .inl (nF tr))), (ad 7, .inl (cI, 910, .inl (nF ro))), (ad 8, .inr (4, [.ref (ad 5), .ref (ad 9), .ref (ad 10), .ref (ad 11)])), (ad 9, .inl (cZ, 91, .inl (bF S))), (ad 10, .inl (cZ, 91, .inl (bF gr))), (ad 11, .inl (cI, 91, .inl (nF ol))), (ad 16, .inr (2, [.ref (ad 5), .ref (ad 0), .ref (ad 17), .ref (ad 18), .ref (ad 19)])), (ad 17, .inl (cI, 9, .inl (nF mm))), (ad 18, .inl (cI, 9, .inl (nF me))), (ad 19, .inl (cZ, 91, .inl (bF rc))), (ad 26, .inr (6, [.ref (ad 0), .ref (ad 5), .ref (ad 8), .ref (ad 12), .ref (ad 16), .ref (ad 20), .ref (ad 24)]))] (fun u => (fun (q3 : Nat) (sm3 : Nat → Nat) (pr3 : Nat → Nat) (op3 : Nat → Nat) (iv3 : Nat → Nat) (tr3 : Nat → Nat) (ro3 : Nat → Nat) (S3 : Nat → Bool) (mm3 : Nat → Nat) => (exQ x1 = false ∧ q3 = q ∧ FOK q3 sm3 pr3 op3 iv3 ∧ TOK q3 tr3 ∧ ROK q3 ro3 ∧ S3 = S ∧ mm3 = mm) ∨ (exQ x1 = true ∧ q3 = nv x1 ∧ FOK q3 sm3 pr3 op3 iv3 ∧ TOK q3 tr3 ∧ ROK q3 ro3 ∧ (∀ t, t < 91 → S3 t = false) ∧ (∀ t, t < 9 → mm3 t = if t % 4 = 0 then 1 else 0))) u.1 u.2.1 u.2.2.1 u.2.2.2.1 u.2.2.2.2.1 u.2.2.2.2.2.1 u.2.2.2.2.2.2.1 u.2.2.2.2.2.2.2.1 u.2.2.2.2.2.2.2.2) (fun u => (fun (q3 : Nat) (sm3 : Nat → Nat) (pr3 : Nat → Nat) (op3 : Nat → Nat) (iv3 : Nat → Nat) (tr3 : Nat → Nat) (ro3 : Nat → Nat) (S3 : Nat → Bool) (mm3 : Nat → Nat) => some (.int (begZ q x1))) u.1 u.2.1 u.2.2.1 u.2.2.2.1 u.2.2.2.2.1 u.2.2.2.2.2.1 u.2.2.2.2.2.2.1 u.2.2.2.2.2.2.2.1 u.2.2.2.2.2.2.2.2) (fun u => (fun (q3 : Nat) (sm3 : Nat → Nat) (pr3 : Nat → Nat) (op3 : Nat → Nat) (iv3 : Nat → Nat) (tr3 : Nat → Nat) (ro3 : Nat → Nat) (S3 : Nat → Bool) (mm3 : Nat → Nat) => [(ad 0, .inr (1, [.int (nI q3), .ref (ad 1), .ref (ad 2), .ref (ad 3), .ref (ad 4)])), (ad 1, .inl (cI, 81, .inl (nF sm3))), (ad 2, .inl (cI, 81, .inl (nF pr3))), (ad 3, .inl (cI, 9, .inl (nF op3))), (ad 4, .inl (cI, 9, .inl (nF iv3))), (ad 5, .inr (3, [.ref (ad 0), .int (nI (nn q3)), .ref (ad 6), .ref (ad 7)])), (ad 6, .inl (cI, 273, .inl (nF tr3))), (ad 7, .inl (cI, 910, .inl (nF ro3))), (ad 8, .inr (4, [.ref (ad 5), .ref (ad 9), .ref (ad 10), .ref (ad 11)])), (ad 9, .inl (cZ, 91, .inl (bF S3))), (ad 10, .inl (cZ, 91, .inl (bF gr))), (ad 11, .inl (cI, 91, .inl (nF ol))), (ad 16, .inr (2, [.ref (ad 5), .ref (ad 0), .ref (ad 17), .ref (ad 18), .ref (ad 19)])), (ad 17, .inl (cI, 9, .inl (nF mm3))), (ad 18, .inl (cI, 9, .inl (nF me))), (ad 19, .inl (cZ, 91, .inl (bF rc))), (ad 26, .inr (6, [.ref (ad 0), .ref (ad 5), .ref (ad 8), .ref (ad 12), .ref (ad 16), .ref (ad 20), .ref (ad 24)]))]) u.1 u.2.1 u.2.2.1 u.2.2.2.1 u.2.2.2.2.1 u.2.2.2.2.2.1 u.2.2.2.2.2.2.1 u.2.2.2.2.2.2.2.1 u.2.2.2.2.2.2.2.2) := by
  intro sz; refine Met.ofW (cc := cX6_begin) (maxL := 3) (ret := some .int) (by decide) rfl ?_
  intro p e s m args below meth c s₁ B hml hv
  obtain ⟨rfl, hsz, hP, hK, hD0, hN⟩ := hv
  have hx := B.exec
  have hb := B.bytes
  have hr := B.returns
  have hts := atoms_spec (ws := wsX6_begin) B.pre
  have hown : s.vm.findClass RX6 = some m.cls := findClass_of_methodNamed B.named
  have hlocks := B.notSynchronized
  subst hsz
  have hD := hD0.self (sz := s.heap.size)
  generalize hAe : va_A [(ad 0, .inr (1, [.int (nI q), .ref (ad 1), .ref (ad 2), .ref (ad 3), .ref (ad 4)])), (ad 1, .inl (cI, 81, .inl (nF sm))), (ad 2, .inl (cI, 81, .inl (nF pr))), (ad 3, .inl (cI, 9, .inl (nF op))), (ad 4, .inl (cI, 9, .inl (nF iv))), (ad 5, .inr (3, [.ref (ad 0), .int (nI (nn q)), .ref (ad 6), .ref (ad 7)])), (ad 6, .inl (cI, 273, .inl (nF tr))), (ad 7, .inl (cI, 910, .inl (nF ro))), (ad 8, .inr (4, [.ref (ad 5), .ref (ad 9), .ref (ad 10), .ref (ad 11)])), (ad 9, .inl (cZ, 91, .inl (bF S))), (ad 10, .inl (cZ, 91, .inl (bF gr))), (ad 11, .inl (cI, 91, .inl (nF ol))), (ad 16, .inr (2, [.ref (ad 5), .ref (ad 0), .ref (ad 17), .ref (ad 18), .ref (ad 19)])), (ad 17, .inl (cI, 9, .inl (nF mm))), (ad 18, .inl (cI, 9, .inl (nF me))), (ad 19, .inl (cZ, 91, .inl (bF rc))), (ad 26, .inr (6, [.ref (ad 0), .ref (ad 5), .ref (ad 8), .ref (ad 12), .ref (ad 16), .ref (ad 20), .ref (ad 24)]))] s.heap.size = A at hD ⊢
  have hA : ∀ q : Nat, s.heap.size ≤ q → A q := fun q h => by rw [← hAe]; exact Or.inr h
  have hS : va_S A s.heap s.heap [] := va_S.rf
  have hP : va_P D vwCl [(ad 0, .inr (1, [.int (nI q), .ref (ad 1), .ref (ad 2), .ref (ad 3), .ref (ad 4)])), (ad 1, .inl (cI, 81, .inl (nF sm))), (ad 2, .inl (cI, 81, .inl (nF pr))), (ad 3, .inl (cI, 9, .inl (nF op))), (ad 4, .inl (cI, 9, .inl (nF iv))), (ad 5, .inr (3, [.ref (ad 0), .int (nI (nn q)), .ref (ad 6), .ref (ad 7)])), (ad 6, .inl (cI, 273, .inl (nF tr))), (ad 7, .inl (cI, 910, .inl (nF ro))), (ad 8, .inr (4, [.ref (ad 5), .ref (ad 9), .ref (ad 10), .ref (ad 11)])), (ad 9, .inl (cZ, 91, .inl (bF S))), (ad 10, .inl (cZ, 91, .inl (bF gr))), (ad 11, .inl (cI, 91, .inl (nF ol))), (ad 16, .inr (2, [.ref (ad 5), .ref (ad 0), .ref (ad 17), .ref (ad 18), .ref (ad 19)])), (ad 17, .inl (cI, 9, .inl (nF mm))), (ad 18, .inl (cI, 9, .inl (nF me))), (ad 19, .inl (cZ, 91, .inl (bF rc))), (ad 26, .inr (6, [.ref (ad 0), .ref (ad 5), .ref (ad 8), .ref (ad 12), .ref (ad 16), .ref (ad 20), .ref (ad 24)]))] s.heap := hP
  have hf10 := hts (.fieldLink RX6 10 "FinitePlanes" "field" "LFinitePlanes$Field;") (by decide +kernel)
  have hf21 := hts (.fieldLink RX6 21 "FinitePlanes" "plane" "LFinitePlanes$Plane;") (by decide +kernel)
  have hf30 := hts (.fieldLink RX6 30 "FinitePlanes" "set" "LFinitePlanes$PointSet;") (by decide +kernel)
  have hf44 := hts (.fieldLink RX6 44 "FinitePlanes" "map" "LFinitePlanes$Mapping;") (by decide +kernel)
  have hf62 := hN.use (w := .fieldLinkNest RX6 62 "FinitePlanes$Field" "q" "I" "FinitePlanes") (by decide +kernel) (A := [.ref (ad 26), .int x1].toArray)
  have hiX1 : ∀ w ∈ u_ws RX1 TX1 5, w ∈ wsX6_begin := by decide +kernel
  have hiX6 : ∀ w ∈ u_ws RX6 TX6 7, w ∈ wsX6_begin := by decide +kernel
  have hl := lv_entry ([.ref (ad 26), .int x1]) (n := 3) (Nat.le_of_ble_eq_true rfl)
  rw [lg_entry_eq]
  generalize (lg_sl ([.ref (ad 26), .int x1]) ++ List.replicate (3 - (lg_sl ([.ref (ad 26), .int x1])).length) Slot.unset).toArray = ls at hl ⊢
  have hl : lv_has ls 3 [(0, .ref (ad 26)), (1, .int x1)] := hl
  have hq2 := qs_le hF.1
  have hn2 := nn_le hF.1
  refine lv_iload_n hx hb dX6_begin_0 rfl (lv_at hl 1 rfl) ?_
  refine ctR_S (As := [.int x1]) (rest := []) (r := .int (nI (exQ x1).toNat)) ⟨hx, hb, hml, hown, hts⟩ (c_X1_exists l D cI cZ x1) (va_cwS 1 hts gX6_begin_X1_exists rfl rfl rfl hdS_X1_exists ⟨Nat.le_of_ble_eq_true rfl, Nat.le_of_ble_eq_true rfl⟩) hK hN hP [] rfl rfl hl.1 rfl (Nat.le_of_ble_eq_true rfl) ⟨Nat.zero_le _, Nat.zero_le _⟩ dX6_begin_1 ?_
  refine nv_ifb_ne (tgt := 10) hx hb dX6_begin_4 (by decide) (fun c4 => ?_) (fun c4 => ?_)
  · have h9 := c4
    obtain ⟨j, hj, rfl⟩ := exQ_of c4
    refine lv_aload_n hx hb dX6_begin_10 rfl (lv_at hl 0 rfl) ?_
    refine va_get (D := D) (ci := 6) (v := .ref (ad 0)) (C := RX6) (T := TX6) (N := 7) hx hb hts hiX6 hown hK hP 16 rfl rfl 0 (by decide) hf10 (fun _ h9 => h9) rfl dX6_begin_11 ?_
    refine va_getN (D := D) (ci := 1) (v := .int (nI q)) (C := RX1) (T := TX1) (N := 5) hx hb hts hiX1 hown hK hP 0 rfl rfl 0 (by decide) hf62 (fun _ h9 => h9) rfl dX6_begin_14 ?_
    refine lv_istore_n (lv' := [(2, .int (nI q)), (0, .ref (ad 26)), (1, .int (nI j))]) hx hb dX6_begin_17 rfl hl (by decide) rfl (fun ls hl => ?_)
    refine lv_aload_n hx hb dX6_begin_18 rfl (lv_at hl 1 rfl) ?_
    refine va_get (D := D) (ci := 6) (v := .ref (ad 0)) (C := RX6) (T := TX6) (N := 7) hx hb hts hiX6 hown hK hP 16 rfl rfl 0 (by decide) hf10 (fun _ h9 => h9) rfl dX6_begin_19 ?_
    refine lv_iload_n hx hb dX6_begin_22 rfl (lv_at hl 2 rfl) ?_
    refine ctW_V (As := [.int (nI j)]) (rest := []) (wr := [(ad 5, .inr (3, [.ref (ad 0), .int (nI (nn q)), .ref (ad 6), .ref (ad 7)])), (ad 6, .inl (cI, 273, .inl (nF tr))), (ad 7, .inl (cI, 910, .inl (nF ro))), (ad 8, .inr (4, [.ref (ad 5), .ref (ad 9), .ref (ad 10), .ref (ad 11)])), (ad 9, .inl (cZ, 91, .inl (bF S))), (ad 10, .inl (cZ, 91, .inl (bF gr))), (ad 11, .inl (cI, 91, .inl (nF ol))), (ad 16, .inr (2, [.ref (ad 5), .ref (ad 0), .ref (ad 17), .ref (ad 18), .ref (ad 19)])), (ad 17, .inl (cI, 9, .inl (nF mm))), (ad 18, .inl (cI, 9, .inl (nF me))), (ad 19, .inl (cZ, 91, .inl (bF rc))), (ad 26, .inr (6, [.ref (ad 0), .ref (ad 5), .ref (ad 8), .ref (ad 12), .ref (ad 16), .ref (ad 20), .ref (ad 24)]))]) ⟨hx, hb, hml, hown, hts⟩ (c_X1_build l D cI cZ ad q sm pr op iv j hj) (cwV 1 hts gX6_begin_X1_build rfl rfl rfl hdV_X1_build ⟨Nat.le_of_ble_eq_true rfl, Nat.le_of_ble_eq_true rfl⟩) hK hN hP hD hS hA [0, 1, 2, 3, 4] [5, 6, 7, 8, 9, 10, 11, 12, 13, 14, 15, 16] rfl rfl rfl (by decide) (by decide) (by decide) 0 1 rfl rfl rfl hl.1 rfl (Nat.le_of_ble_eq_true rfl) ⟨Nat.zero_le _, Nat.zero_le _⟩ dX6_begin_23 (fun u H locs hu23 hP hD hS => ?_)
    obtain ⟨sm_1, pr_2, op_3, iv_4⟩ := u
    try dsimp only at hu23
    have hP : va_P D vwCl [(ad 0, .inr (1, [.int (nI j), .ref (ad 1), .ref (ad 2), .ref (ad 3), .ref (ad 4)])), (ad 1, .inl (cI, 81, .inl (nF sm_1))), (ad 2, .inl (cI, 81, .inl (nF pr_2))), (ad 3, .inl (cI, 9, .inl (nF op_3))), (ad 4, .inl (cI, 9, .inl (nF iv_4))), (ad 5, .inr (3, [.ref (ad 0), .int (nI (nn q)), .ref (ad 6), .ref (ad 7)])), (ad 6, .inl (cI, 273, .inl (nF tr))), (ad 7, .inl (cI, 910, .inl (nF ro))), (ad 8, .inr (4, [.ref (ad 5), .ref (ad 9), .ref (ad 10), .ref (ad 11)])), (ad 9, .inl (cZ, 91, .inl (bF S))), (ad 10, .inl (cZ, 91, .inl (bF gr))), (ad 11, .inl (cI, 91, .inl (nF ol))), (ad 16, .inr (2, [.ref (ad 5), .ref (ad 0), .ref (ad 17), .ref (ad 18), .ref (ad 19)])), (ad 17, .inl (cI, 9, .inl (nF mm))), (ad 18, .inl (cI, 9, .inl (nF me))), (ad 19, .inl (cZ, 91, .inl (bF rc))), (ad 26, .inr (6, [.ref (ad 0), .ref (ad 5), .ref (ad 8), .ref (ad 12), .ref (ad 16), .ref (ad 20), .ref (ad 24)]))] H := hP.sub [12, 13, 14, 15, 16, 0, 1, 2, 3, 4, 5, 6, 7, 8, 9, 10, 11] rfl
    have hD : va_D A [(ad 0, .inr (1, [.int (nI j), .ref (ad 1), .ref (ad 2), .ref (ad 3), .ref (ad 4)])), (ad 1, .inl (cI, 81, .inl (nF sm_1))), (ad 2, .inl (cI, 81, .inl (nF pr_2))), (ad 3, .inl (cI, 9, .inl (nF op_3))), (ad 4, .inl (cI, 9, .inl (nF iv_4))), (ad 5, .inr (3, [.ref (ad 0), .int (nI (nn q)), .ref (ad 6), .ref (ad 7)])), (ad 6, .inl (cI, 273, .inl (nF tr))), (ad 7, .inl (cI, 910, .inl (nF ro))), (ad 8, .inr (4, [.ref (ad 5), .ref (ad 9), .ref (ad 10), .ref (ad 11)])), (ad 9, .inl (cZ, 91, .inl (bF S))), (ad 10, .inl (cZ, 91, .inl (bF gr))), (ad 11, .inl (cI, 91, .inl (nF ol))), (ad 16, .inr (2, [.ref (ad 5), .ref (ad 0), .ref (ad 17), .ref (ad 18), .ref (ad 19)])), (ad 17, .inl (cI, 9, .inl (nF mm))), (ad 18, .inl (cI, 9, .inl (nF me))), (ad 19, .inl (cZ, 91, .inl (bF rc))), (ad 26, .inr (6, [.ref (ad 0), .ref (ad 5), .ref (ad 8), .ref (ad 12), .ref (ad 16), .ref (ad 20), .ref (ad 24)]))] := hD.sub [12, 13, 14, 15, 16, 0, 1, 2, 3, 4, 5, 6, 7, 8, 9, 10, 11] (by decide) rfl
    refine W.eq (g2 := F0 m 26 ls []) rfl ?_
    refine lv_aload_n hx hb dX6_begin_26 rfl (lv_at hl 1 rfl) ?_
    refine va_get (D := D) (ci := 6) (v := .ref (ad 5)) (C := RX6) (T := TX6) (N := 7) hx hb hts hiX6 hown hK hP 16 rfl rfl 1 (by decide) hf21 (fun _ h9 => h9) rfl dX6_begin_27 ?_
    refine ctW_V (As := []) (rest := []) (wr := [(ad 8, .inr (4, [.ref (ad 5), .ref (ad 9), .ref (ad 10), .ref (ad 11)])), (ad 9, .inl (cZ, 91, .inl (bF S))), (ad 10, .inl (cZ, 91, .inl (bF gr))), (ad 11, .inl (cI, 91, .inl (nF ol))), (ad 16, .inr (2, [.ref (ad 5), .ref (ad 0), .ref (ad 17), .ref (ad 18), .ref (ad 19)])), (ad 17, .inl (cI, 9, .inl (nF mm))), (ad 18, .inl (cI, 9, .inl (nF me))), (ad 19, .inl (cZ, 91, .inl (bF rc))), (ad 26, .inr (6, [.ref (ad 0), .ref (ad 5), .ref (ad 8), .ref (ad 12), .ref (ad 16), .ref (ad 20), .ref (ad 24)]))]) ⟨hx, hb, hml, hown, hts⟩ (c_X3_build l D cI cZ ad j sm_1 pr_2 op_3 iv_4 hu23 (nn q) tr ro) (cwV 0 hts gX6_begin_X3_build rfl rfl rfl hdV_X3_build ⟨Nat.le_of_ble_eq_true rfl, Nat.le_of_ble_eq_true rfl⟩) hK hN hP hD hS hA [0, 1, 2, 3, 4, 5, 6, 7] [8, 9, 10, 11, 12, 13, 14, 15, 16] rfl rfl rfl (by decide) (by decide) (by decide) 5 3 rfl rfl rfl hl.1 rfl (Nat.le_of_ble_eq_true rfl) ⟨Nat.zero_le _, Nat.zero_le _⟩ dX6_begin_30 (fun u H locs hu30 hP hD hS => ?_)
    obtain ⟨tr_5, ro_6⟩ := u
    try dsimp only at hu30
    have hP : va_P D vwCl [(ad 0, .inr (1, [.int (nI j), .ref (ad 1), .ref (ad 2), .ref (ad 3), .ref (ad 4)])), (ad 1, .inl (cI, 81, .inl (nF sm_1))), (ad 2, .inl (cI, 81, .inl (nF pr_2))), (ad 3, .inl (cI, 9, .inl (nF op_3))), (ad 4, .inl (cI, 9, .inl (nF iv_4))), (ad 5, .inr (3, [.ref (ad 0), .int (nI (nn j)), .ref (ad 6), .ref (ad 7)])), (ad 6, .inl (cI, 273, .inl (nF tr_5))), (ad 7, .inl (cI, 910, .inl (nF ro_6))), (ad 8, .inr (4, [.ref (ad 5), .ref (ad 9), .ref (ad 10), .ref (ad 11)])), (ad 9, .inl (cZ, 91, .inl (bF S))), (ad 10, .inl (cZ, 91, .inl (bF gr))), (ad 11, .inl (cI, 91, .inl (nF ol))), (ad 16, .inr (2, [.ref (ad 5), .ref (ad 0), .ref (ad 17), .ref (ad 18), .ref (ad 19)])), (ad 17, .inl (cI, 9, .inl (nF mm))), (ad 18, .inl (cI, 9, .inl (nF me))), (ad 19, .inl (cZ, 91, .inl (bF rc))), (ad 26, .inr (6, [.ref (ad 0), .ref (ad 5), .ref (ad 8), .ref (ad 12), .ref (ad 16), .ref (ad 20), .ref (ad 24)]))] H := hP.sub [9, 10, 11, 12, 13, 14, 15, 16, 0, 1, 2, 3, 4, 5, 6, 7, 8] rfl
    have hD : va_D A [(ad 0, .inr (1, [.int (nI j), .ref (ad 1), .ref (ad 2), .ref (ad 3), .ref (ad 4)])), (ad 1, .inl (cI, 81, .inl (nF sm_1))), (ad 2, .inl (cI, 81, .inl (nF pr_2))), (ad 3, .inl (cI, 9, .inl (nF op_3))), (ad 4, .inl (cI, 9, .inl (nF iv_4))), (ad 5, .inr (3, [.ref (ad 0), .int (nI (nn j)), .ref (ad 6), .ref (ad 7)])), (ad 6, .inl (cI, 273, .inl (nF tr_5))), (ad 7, .inl (cI, 910, .inl (nF ro_6))), (ad 8, .inr (4, [.ref (ad 5), .ref (ad 9), .ref (ad 10), .ref (ad 11)])), (ad 9, .inl (cZ, 91, .inl (bF S))), (ad 10, .inl (cZ, 91, .inl (bF gr))), (ad 11, .inl (cI, 91, .inl (nF ol))), (ad 16, .inr (2, [.ref (ad 5), .ref (ad 0), .ref (ad 17), .ref (ad 18), .ref (ad 19)])), (ad 17, .inl (cI, 9, .inl (nF mm))), (ad 18, .inl (cI, 9, .inl (nF me))), (ad 19, .inl (cZ, 91, .inl (bF rc))), (ad 26, .inr (6, [.ref (ad 0), .ref (ad 5), .ref (ad 8), .ref (ad 12), .ref (ad 16), .ref (ad 20), .ref (ad 24)]))] := hD.sub [9, 10, 11, 12, 13, 14, 15, 16, 0, 1, 2, 3, 4, 5, 6, 7, 8] (by decide) rfl
    refine W.eq (g2 := F0 m 33 ls []) rfl ?_
    refine lv_aload_n hx hb dX6_begin_33 rfl (lv_at hl 1 rfl) ?_
    refine va_get (D := D) (ci := 6) (v := .ref (ad 8)) (C := RX6) (T := TX6) (N := 7) hx hb hts hiX6 hown hK hP 16 rfl rfl 2 (by decide) hf30 (fun _ h9 => h9) rfl dX6_begin_34 ?_
    refine ctW_V (As := []) (rest := []) (wr := [(ad 0, .inr (1, [.int (nI j), .ref (ad 1), .ref (ad 2), .ref (ad 3), .ref (ad 4)])), (ad 1, .inl (cI, 81, .inl (nF sm_1))), (ad 2, .inl (cI, 81, .inl (nF pr_2))), (ad 3, .inl (cI, 9, .inl (nF op_3))), (ad 4, .inl (cI, 9, .inl (nF iv_4))), (ad 5, .inr (3, [.ref (ad 0), .int (nI (nn j)), .ref (ad 6), .ref (ad 7)])), (ad 6, .inl (cI, 273, .inl (nF tr_5))), (ad 7, .inl (cI, 910, .inl (nF ro_6))), (ad 10, .inl (cZ, 91, .inl (bF gr))), (ad 11, .inl (cI, 91, .inl (nF ol))), (ad 16, .inr (2, [.ref (ad 5), .ref (ad 0), .ref (ad 17), .ref (ad 18), .ref (ad 19)])), (ad 17, .inl (cI, 9, .inl (nF mm))), (ad 18, .inl (cI, 9, .inl (nF me))), (ad 19, .inl (cZ, 91, .inl (bF rc))), (ad 26, .inr (6, [.ref (ad 0), .ref (ad 5), .ref (ad 8), .ref (ad 12), .ref (ad 16), .ref (ad 20), .ref (ad 24)]))]) ⟨hx, hb, hml, hown, hts⟩ (c_X4_clear l D cI cZ ad S) (cwV 0 hts gX6_begin_X4_clear rfl rfl rfl hdV_X4_clear ⟨Nat.le_of_ble_eq_true rfl, Nat.le_of_ble_eq_true rfl⟩) hK hN hP hD hS hA [8, 9] [0, 1, 2, 3, 4, 5, 6, 7, 10, 11, 12, 13, 14, 15, 16] rfl rfl rfl (by decide) (by decide) (by decide) 8 4 rfl rfl rfl hl.1 rfl (Nat.le_of_ble_eq_true rfl) ⟨Nat.zero_le _, Nat.zero_le _⟩ dX6_begin_37 (fun S_7 H locs hu37 hP hD hS => ?_)
    try dsimp only at hu37
    have hP : va_P D vwCl [(ad 0, .inr (1, [.int (nI j), .ref (ad 1), .ref (ad 2), .ref (ad 3), .ref (ad 4)])), (ad 1, .inl (cI, 81, .inl (nF sm_1))), (ad 2, .inl (cI, 81, .inl (nF pr_2))), (ad 3, .inl (cI, 9, .inl (nF op_3))), (ad 4, .inl (cI, 9, .inl (nF iv_4))), (ad 5, .inr (3, [.ref (ad 0), .int (nI (nn j)), .ref (ad 6), .ref (ad 7)])), (ad 6, .inl (cI, 273, .inl (nF tr_5))), (ad 7, .inl (cI, 910, .inl (nF ro_6))), (ad 8, .inr (4, [.ref (ad 5), .ref (ad 9), .ref (ad 10), .ref (ad 11)])), (ad 9, .inl (cZ, 91, .inl (bF S_7))), (ad 10, .inl (cZ, 91, .inl (bF gr))), (ad 11, .inl (cI, 91, .inl (nF ol))), (ad 16, .inr (2, [.ref (ad 5), .ref (ad 0), .ref (ad 17), .ref (ad 18), .ref (ad 19)])), (ad 17, .inl (cI, 9, .inl (nF mm))), (ad 18, .inl (cI, 9, .inl (nF me))), (ad 19, .inl (cZ, 91, .inl (bF rc))), (ad 26, .inr (6, [.ref (ad 0), .ref (ad 5), .ref (ad 8), .ref (ad 12), .ref (ad 16), .ref (ad 20), .ref (ad 24)]))] H := hP.sub [0, 1, 2, 3, 4, 5, 6, 7, 15, 16, 8, 9, 10, 11, 12, 13, 14] rfl
    have hD : va_D A [(ad 0, .inr (1, [.int (nI j), .ref (ad 1), .ref (ad 2), .ref (ad 3), .ref (ad 4)])), (ad 1, .inl (cI, 81, .inl (nF sm_1))), (ad 2, .inl (cI, 81, .inl (nF pr_2))), (ad 3, .inl (cI, 9, .inl (nF op_3))), (ad 4, .inl (cI, 9, .inl (nF iv_4))), (ad 5, .inr (3, [.ref (ad 0), .int (nI (nn j)), .ref (ad 6), .ref (ad 7)])), (ad 6, .inl (cI, 273, .inl (nF tr_5))), (ad 7, .inl (cI, 910, .inl (nF ro_6))), (ad 8, .inr (4, [.ref (ad 5), .ref (ad 9), .ref (ad 10), .ref (ad 11)])), (ad 9, .inl (cZ, 91, .inl (bF S_7))), (ad 10, .inl (cZ, 91, .inl (bF gr))), (ad 11, .inl (cI, 91, .inl (nF ol))), (ad 16, .inr (2, [.ref (ad 5), .ref (ad 0), .ref (ad 17), .ref (ad 18), .ref (ad 19)])), (ad 17, .inl (cI, 9, .inl (nF mm))), (ad 18, .inl (cI, 9, .inl (nF me))), (ad 19, .inl (cZ, 91, .inl (bF rc))), (ad 26, .inr (6, [.ref (ad 0), .ref (ad 5), .ref (ad 8), .ref (ad 12), .ref (ad 16), .ref (ad 20), .ref (ad 24)]))] := hD.sub [0, 1, 2, 3, 4, 5, 6, 7, 15, 16, 8, 9, 10, 11, 12, 13, 14] (by decide) rfl
    refine W.eq (g2 := F0 m 40 ls []) rfl ?_
    refine lv_aload_n hx hb dX6_begin_40 rfl (lv_at hl 1 rfl) ?_
    refine va_get (D := D) (ci := 6) (v := .ref (ad 16)) (C := RX6) (T := TX6) (N := 7) hx hb hts hiX6 hown hK hP 16 rfl rfl 4 (by decide) hf44 (fun _ h9 => h9) rfl dX6_begin_41 ?_
    refine ctW_V (As := []) (rest := []) (wr := [(ad 0, .inr (1, [.int (nI j), .ref (ad 1), .ref (ad 2), .ref (ad 3), .ref (ad 4)])), (ad 1, .inl (cI, 81, .inl (nF sm_1))), (ad 2, .inl (cI, 81, .inl (nF pr_2))), (ad 3, .inl (cI, 9, .inl (nF op_3))), (ad 4, .inl (cI, 9, .inl (nF iv_4))), (ad 5, .inr (3, [.ref (ad 0), .int (nI (nn j)), .ref (ad 6), .ref (ad 7)])), (ad 6, .inl (cI, 273, .inl (nF tr_5))), (ad 7, .inl (cI, 910, .inl (nF ro_6))), (ad 8, .inr (4, [.ref (ad 5), .ref (ad 9), .ref (ad 10), .ref (ad 11)])), (ad 9, .inl (cZ, 91, .inl (bF S_7))), (ad 10, .inl (cZ, 91, .inl (bF gr))), (ad 11, .inl (cI, 91, .inl (nF ol))), (ad 18, .inl (cI, 9, .inl (nF me))), (ad 19, .inl (cZ, 91, .inl (bF rc))), (ad 26, .inr (6, [.ref (ad 0), .ref (ad 5), .ref (ad 8), .ref (ad 12), .ref (ad 16), .ref (ad 20), .ref (ad 24)]))]) ⟨hx, hb, hml, hown, hts⟩ (c_X2_reset l D cI cZ ad (fun k => ad (16 + k)) mm) (cwV 0 hts gX6_begin_X2_reset rfl rfl rfl hdV_X2_reset ⟨Nat.le_of_ble_eq_true rfl, Nat.le_of_ble_eq_true rfl⟩) hK hN hP hD hS hA [12, 13] [0, 1, 2, 3, 4, 5, 6, 7, 8, 9, 10, 11, 14, 15, 16] rfl rfl rfl (by decide) (by decide) (by decide) 12 2 rfl rfl rfl hl.1 rfl (Nat.le_of_ble_eq_true rfl) ⟨Nat.zero_le _, Nat.zero_le _⟩ dX6_begin_44 (fun mm_8 H locs hu44 hP hD hS => ?_)
    try dsimp only at hu44
    have hP : va_P D vwCl [(ad 0, .inr (1, [.int (nI j), .ref (ad 1), .ref (ad 2), .ref (ad 3), .ref (ad 4)])), (ad 1, .inl (cI, 81, .inl (nF sm_1))), (ad 2, .inl (cI, 81, .inl (nF pr_2))), (ad 3, .inl (cI, 9, .inl (nF op_3))), (ad 4, .inl (cI, 9, .inl (nF iv_4))), (ad 5, .inr (3, [.ref (ad 0), .int (nI (nn j)), .ref (ad 6), .ref (ad 7)])), (ad 6, .inl (cI, 273, .inl (nF tr_5))), (ad 7, .inl (cI, 910, .inl (nF ro_6))), (ad 8, .inr (4, [.ref (ad 5), .ref (ad 9), .ref (ad 10), .ref (ad 11)])), (ad 9, .inl (cZ, 91, .inl (bF S_7))), (ad 10, .inl (cZ, 91, .inl (bF gr))), (ad 11, .inl (cI, 91, .inl (nF ol))), (ad 16, .inr (2, [.ref (ad 5), .ref (ad 0), .ref (ad 17), .ref (ad 18), .ref (ad 19)])), (ad 17, .inl (cI, 9, .inl (nF mm_8))), (ad 18, .inl (cI, 9, .inl (nF me))), (ad 19, .inl (cZ, 91, .inl (bF rc))), (ad 26, .inr (6, [.ref (ad 0), .ref (ad 5), .ref (ad 8), .ref (ad 12), .ref (ad 16), .ref (ad 20), .ref (ad 24)]))] H := hP.sub [0, 1, 2, 3, 4, 5, 6, 7, 8, 9, 10, 11, 15, 16, 12, 13, 14] rfl
    have hD : va_D A [(ad 0, .inr (1, [.int (nI j), .ref (ad 1), .ref (ad 2), .ref (ad 3), .ref (ad 4)])), (ad 1, .inl (cI, 81, .inl (nF sm_1))), (ad 2, .inl (cI, 81, .inl (nF pr_2))), (ad 3, .inl (cI, 9, .inl (nF op_3))), (ad 4, .inl (cI, 9, .inl (nF iv_4))), (ad 5, .inr (3, [.ref (ad 0), .int (nI (nn j)), .ref (ad 6), .ref (ad 7)])), (ad 6, .inl (cI, 273, .inl (nF tr_5))), (ad 7, .inl (cI, 910, .inl (nF ro_6))), (ad 8, .inr (4, [.ref (ad 5), .ref (ad 9), .ref (ad 10), .ref (ad 11)])), (ad 9, .inl (cZ, 91, .inl (bF S_7))), (ad 10, .inl (cZ, 91, .inl (bF gr))), (ad 11, .inl (cI, 91, .inl (nF ol))), (ad 16, .inr (2, [.ref (ad 5), .ref (ad 0), .ref (ad 17), .ref (ad 18), .ref (ad 19)])), (ad 17, .inl (cI, 9, .inl (nF mm_8))), (ad 18, .inl (cI, 9, .inl (nF me))), (ad 19, .inl (cZ, 91, .inl (bF rc))), (ad 26, .inr (6, [.ref (ad 0), .ref (ad 5), .ref (ad 8), .ref (ad 12), .ref (ad 16), .ref (ad 20), .ref (ad 24)]))] := hD.sub [0, 1, 2, 3, 4, 5, 6, 7, 8, 9, 10, 11, 15, 16, 12, 13, 14] (by decide) rfl
    refine W.eq (g2 := F0 m 47 ls []) rfl ?_
    refine lv_iload_n hx hb dX6_begin_47 rfl (lv_at hl 0 rfl) ?_
    exact ctW_retI (v := (nI q)) (j, sm_1, pr_2, op_3, iv_4, tr_5, ro_6, S_7, mm_8) hx hb hr rfl dX6_begin_48 hlocks hS hP hD (by dsimp only; exact (Or.inr ⟨h9, (nv_nI (by have := qs_le hj; omega)).symm, hu23, hu30.1, hu30.2, hu37, hu44⟩)) (by rw [begZ, if_neg (bool_nf h9)])
  · refine lv_bipush (v := (-2)) hx hb dX6_begin_7 (by decide) ?_
    exact ctW_retI (v := (-2)) (q, sm, pr, op, iv, tr, ro, S, mm) hx hb hr rfl dX6_begin_9 hlocks hS hP hD (by dsimp only; exact (Or.inl ⟨c4, rfl, hF, hT, hR, rfl, rfl⟩)) (by rw [begZ, if_pos c4])

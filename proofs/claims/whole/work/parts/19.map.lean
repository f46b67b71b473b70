set_option maxHeartbeats 4000000 in
set_option maxRecDepth 100000 in
theorem c_X2_cofactor (l : Launch) (D : va_G) (cI cZ : ClassId) (ad : Nat → Nat) (q : Nat) (sm : Nat → Nat) (pr : Nat → Nat) (op : Nat → Nat) (iv : Nat → Nat) (hF : FOK q sm pr op iv) (tr : Nat → Nat) (ro : Nat → Nat) (hT : TOK q tr) (bd : Nat → Nat) (mm : Nat → Nat) (me : Nat → Nat) (rc : Nat → Bool) (k_m : MPK q mm) (i : Nat) (j : Nat) (k_1 : i < 3) (k_2 : j < 3) : CtR l yX2_cofactor wsX2_cofactor { frames := 2, cells := 0, slots := 0, locals := 46 } D (tyG cI cZ) [.ref (bd 0), .int (nI i), .int (nI j)] [(ad 0, .inr (1, [.int (nI q), .ref (ad 1), .ref (ad 2), .ref (ad 3), .ref (ad 4)])), (ad 1, .inl (cI, 81, .inl (nF sm))), (ad 2, .inl (cI, 81, .inl (nF pr))), (ad 3, .inl (cI, 9, .inl (nF op))), (ad 4, .inl (cI, 9, .inl (nF iv))), (ad 5, .inr (3, [.ref (ad 0), .int (nI (nn q)), .ref (ad 6), .ref (ad 7)])), (ad 6, .inl (cI, 273, .inl (nF tr))), (ad 7, .inl (cI, 910, .inl (nF ro))), (bd 0, .inr (2, [.ref (ad 5), .ref (ad 0), .ref (bd 1), .ref (bd 2), .ref (bd 3)])), (bd 1, .inl (cI, 9, .inl (nF mm))), (bd 2, .inl (cI, 9, .inl (nF me))), (bd 3, .inl (cZ, 91, .inl (bF rc)))] (.int (nI (cofq q mm i j))) := by
  refine Met.ofW (cc := cX2_cofactor) (maxL := 7) (ret := some .int) (by decide) rfl ?_
  intro p e s m args below meth c s₁ B hml hv
  obtain ⟨rfl, hP, hK, hN⟩ := hv
  have hx := B.exec
  have hb := B.bytes
  have hr := B.returns
  have hts := atoms_spec (ws := wsX2_cofactor) B.pre
  have hown : s.vm.findClass RX2 = some m.cls := findClass_of_methodNamed B.named
  have hlocks := B.notSynchronized
  have hf9 := hts (.fieldLink RX2 9 "FinitePlanes$Mapping" "m" "[I") (by decide +kernel)
  have hf32 := hts (.fieldLink RX2 32 "FinitePlanes$Mapping" "field" "LFinitePlanes$Field;") (by decide +kernel)
  have hiX2 : ∀ w ∈ u_ws RX2 TX2 5, w ∈ wsX2_cofactor := by decide +kernel
  have hl := lv_entry ([.ref (bd 0), .int (nI i), .int (nI j)]) (n := 7) (Nat.le_of_ble_eq_true rfl)
  rw [lg_entry_eq]
  generalize (lg_sl ([.ref (bd 0), .int (nI i), .int (nI j)]) ++ List.replicate (7 - (lg_sl ([.ref (bd 0), .int (nI i), .int (nI j)])).length) Slot.unset).toArray = ls at hl ⊢
  have hl : lv_has ls 7 [(0, .ref (bd 0)), (1, .int (nI i)), (2, .int (nI j))] := hl
  have hq2 := qs_le hF.1
  have hn2 := nn_le hF.1
  refine lv_iconst (v := nI 3) hx hb dX2_cofactor_0 (by decide) ?_
  refine lv_iload_n hx hb dX2_cofactor_1 rfl (lv_at hl 1 rfl) ?_
  refine lv_iconst (v := nI 1) hx hb dX2_cofactor_2 (by decide) ?_
  refine nv_addE (r := i + 1) hx hb rfl dX2_cofactor_3 ?_
  refine lv_iconst (v := nI 3) hx hb dX2_cofactor_4 (by decide) ?_
  refine nv_remE (r := (i + 1) % 3) hx hb (by omega) (by decide) (by decide) rfl dX2_cofactor_5 ?_
  refine nv_mulE (r := 3 * ((i + 1) % 3)) hx hb rfl dX2_cofactor_6 ?_
  refine lv_istore_n (lv' := [(3, .int (nI (3 * ((i + 1) % 3)))), (0, .ref (bd 0)), (1, .int (nI i)), (2, .int (nI j))]) hx hb dX2_cofactor_7 rfl hl (by decide) rfl (fun ls hl => ?_)
  refine lv_iconst (v := nI 3) hx hb dX2_cofactor_8 (by decide) ?_
  refine lv_iload_n hx hb dX2_cofactor_9 rfl (lv_at hl 2 rfl) ?_
  refine lv_iconst (v := nI 2) hx hb dX2_cofactor_10 (by decide) ?_
  refine nv_addE (r := i + 2) hx hb rfl dX2_cofactor_11 ?_
  refine lv_iconst (v := nI 3) hx hb dX2_cofactor_12 (by decide) ?_
  refine nv_remE (r := (i + 2) % 3) hx hb (by omega) (by decide) (by decide) rfl dX2_cofactor_13 ?_
  refine nv_mulE (r := 3 * ((i + 2) % 3)) hx hb rfl dX2_cofactor_14 ?_
  refine lv_istore (lv' := [(4, .int (nI (3 * ((i + 2) % 3)))), (3, .int (nI (3 * ((i + 1) % 3)))), (0, .ref (bd 0)), (1, .int (nI i)), (2, .int (nI j))]) hx hb dX2_cofactor_15 hl (by decide) rfl (fun ls hl => ?_)
  refine lv_iload_n hx hb dX2_cofactor_17 rfl (lv_at hl 4 rfl) ?_
  refine lv_iconst (v := nI 1) hx hb dX2_cofactor_18 (by decide) ?_
  refine nv_addE (r := j + 1) hx hb rfl dX2_cofactor_19 ?_
  refine lv_iconst (v := nI 3) hx hb dX2_cofactor_20 (by decide) ?_
  refine nv_remE (r := (j + 1) % 3) hx hb (by omega) (by decide) (by decide) rfl dX2_cofactor_21 ?_
  refine lv_istore (lv' := [(5, .int (nI ((j + 1) % 3))), (4, .int (nI (3 * ((i + 2) % 3)))), (3, .int (nI (3 * ((i + 1) % 3)))), (0, .ref (bd 0)), (1, .int (nI i)), (2, .int (nI j))]) hx hb dX2_cofactor_22 hl (by decide) rfl (fun ls hl => ?_)
  refine lv_iload_n hx hb dX2_cofactor_24 rfl (lv_at hl 5 rfl) ?_
  refine lv_iconst (v := nI 2) hx hb dX2_cofactor_25 (by decide) ?_
  refine nv_addE (r := j + 2) hx hb rfl dX2_cofactor_26 ?_
  refine lv_iconst (v := nI 3) hx hb dX2_cofactor_27 (by decide) ?_
  refine nv_remE (r := (j + 2) % 3) hx hb (by omega) (by decide) (by decide) rfl dX2_cofactor_28 ?_
  refine lv_istore (lv' := [(6, .int (nI ((j + 2) % 3))), (5, .int (nI ((j + 1) % 3))), (4, .int (nI (3 * ((i + 2) % 3)))), (3, .int (nI (3 * ((i + 1) % 3)))), (0, .ref (bd 0)), (1, .int (nI i)), (2, .int (nI j))]) hx hb dX2_cofactor_29 hl (by decide) rfl (fun ls hl => ?_)
  have v1 := k_m (3 * ((i + 1) % 3) + (j + 1) % 3) (by omega)
  have v2 := k_m (3 * ((i + 1) % 3) + (j + 2) % 3) (by omega)
  have v3 := k_m (3 * ((i + 2) % 3) + (j + 1) % 3) (by omega)
  have v4 := k_m (3 * ((i + 2) % 3) + (j + 2) % 3) (by omega)
  refine lv_aload_n hx hb dX2_cofactor_31 rfl (lv_at hl 4 rfl) ?_
  refine va_get (D := D) (ci := 2) (v := .ref (ad 0)) (C := RX2) (T := TX2) (N := 5) hx hb hts hiX2 hown hK hP 8 rfl rfl 1 (by decide) hf32 (fun _ h9 => h9) rfl dX2_cofactor_32 ?_
  refine lv_aload_n hx hb dX2_cofactor_35 rfl (lv_at hl 4 rfl) ?_
  refine va_get (D := D) (ci := 2) (v := .ref (bd 1)) (C := RX2) (T := TX2) (N := 5) hx hb hts hiX2 hown hK hP 8 rfl rfl 2 (by decide) hf9 (fun _ h9 => h9) rfl dX2_cofactor_36 ?_
  refine lv_iload_n hx hb dX2_cofactor_39 rfl (lv_at hl 3 rfl) ?_
  refine lv_iload hx hb dX2_cofactor_40 (lv_at hl 1 rfl) ?_
  refine nv_addE (r := (3 * ((i + 1) % 3)) + ((j + 1) % 3)) hx hb rfl dX2_cofactor_42 ?_
  refine nv_iald hx hb hK hP 9 0 rfl rfl (by omega) (by decide) dX2_cofactor_43 ?_
  refine lv_aload_n hx hb dX2_cofactor_44 rfl (lv_at hl 4 rfl) ?_
  refine va_get (D := D) (ci := 2) (v := .ref (bd 1)) (C := RX2) (T := TX2) (N := 5) hx hb hts hiX2 hown hK hP 8 rfl rfl 2 (by decide) hf9 (fun _ h9 => h9) rfl dX2_cofactor_45 ?_
  refine lv_iload_n hx hb dX2_cofactor_48 rfl (lv_at hl 3 rfl) ?_
  refine lv_iload hx hb dX2_cofactor_49 (lv_at hl 0 rfl) ?_
  refine nv_addE (r := (3 * ((i + 1) % 3)) + ((j + 2) % 3)) hx hb rfl dX2_cofactor_51 ?_
  refine nv_iald hx hb hK hP 9 0 rfl rfl (by omega) (by decide) dX2_cofactor_52 ?_
  refine lv_aload_n hx hb dX2_cofactor_53 rfl (lv_at hl 4 rfl) ?_
  refine va_get (D := D) (ci := 2) (v := .ref (bd 1)) (C := RX2) (T := TX2) (N := 5) hx hb hts hiX2 hown hK hP 8 rfl rfl 2 (by decide) hf9 (fun _ h9 => h9) rfl dX2_cofactor_54 ?_
  refine lv_iload hx hb dX2_cofactor_57 (lv_at hl 2 rfl) ?_
  refine lv_iload hx hb dX2_cofactor_59 (lv_at hl 1 rfl) ?_
  refine nv_addE (r := (3 * ((i + 2) % 3)) + ((j + 1) % 3)) hx hb rfl dX2_cofactor_61 ?_
  refine nv_iald hx hb hK hP 9 0 rfl rfl (by omega) (by decide) dX2_cofactor_62 ?_
  refine lv_aload_n hx hb dX2_cofactor_63 rfl (lv_at hl 4 rfl) ?_
  refine va_get (D := D) (ci := 2) (v := .ref (bd 1)) (C := RX2) (T := TX2) (N := 5) hx hb hts hiX2 hown hK hP 8 rfl rfl 2 (by decide) hf9 (fun _ h9 => h9) rfl dX2_cofactor_64 ?_
  refine lv_iload hx hb dX2_cofactor_67 (lv_at hl 2 rfl) ?_
  refine lv_iload hx hb dX2_cofactor_69 (lv_at hl 0 rfl) ?_
  refine nv_addE (r := (3 * ((i + 2) % 3)) + ((j + 2) % 3)) hx hb rfl dX2_cofactor_71 ?_
  refine nv_iald hx hb hK hP 9 0 rfl rfl (by omega) (by decide) dX2_cofactor_72 ?_
  refine ctR_V (As := [.int (nI (mm ((3 * ((i + 1) % 3)) + ((j + 1) % 3)))), .int (nI (mm ((3 * ((i + 1) % 3)) + ((j + 2) % 3)))), .int (nI (mm ((3 * ((i + 2) % 3)) + ((j + 1) % 3)))), .int (nI (mm ((3 * ((i + 2) % 3)) + ((j + 2) % 3))))]) (rest := []) (r := .int (nI (fcw q (mm ((3 * ((i + 1) % 3)) + ((j + 1) % 3))) (mm ((3 * ((i + 1) % 3)) + ((j + 2) % 3))) (mm ((3 * ((i + 2) % 3)) + ((j + 1) % 3))) (mm ((3 * ((i + 2) % 3)) + ((j + 2) % 3)))))) ⟨hx, hb, hml, hown, hts⟩ (c_X1_crosswise l D cI cZ ad q sm pr op iv hF (mm ((3 * ((i + 1) % 3)) + ((j + 1) % 3))) (mm ((3 * ((i + 1) % 3)) + ((j + 2) % 3))) (mm ((3 * ((i + 2) % 3)) + ((j + 1) % 3))) (mm ((3 * ((i + 2) % 3)) + ((j + 2) % 3))) (by omega) (by omega) (by omega) (by omega)) (cwV 4 hts gX2_cofactor_X1_crosswise rfl rfl rfl hdV_X1_crosswise ⟨Nat.le_of_ble_eq_true rfl, Nat.le_of_ble_eq_true rfl⟩) hK hN hP [0, 1, 2, 3, 4] rfl 0 1 rfl rfl rfl hl.1 rfl (Nat.le_of_ble_eq_true rfl) ⟨Nat.zero_le _, Nat.zero_le _⟩ dX2_cofactor_73 ?_
  have hh_1 : fcw q (mm ((3 * ((i + 1) % 3)) + ((j + 1) % 3))) (mm ((3 * ((i + 1) % 3)) + ((j + 2) % 3))) (mm ((3 * ((i + 2) % 3)) + ((j + 1) % 3))) (mm ((3 * ((i + 2) % 3)) + ((j + 2) % 3))) < q := fcw_lt hF.1 (by omega) (by omega) (by omega) (by omega)
  exact ctR_ret (v := (nI (fcw q (mm ((3 * ((i + 1) % 3)) + ((j + 1) % 3))) (mm ((3 * ((i + 1) % 3)) + ((j + 2) % 3))) (mm ((3 * ((i + 2) % 3)) + ((j + 1) % 3))) (mm ((3 * ((i + 2) % 3)) + ((j + 2) % 3)))))) hx hb hr rfl dX2_cofactor_76 hlocks rfl

set_option maxHeartbeats 4000000 in
set_option maxRecDepth 100000 in
theorem c_X2_det (l : Launch) (D : va_G) (cI cZ : ClassId) (ad : Nat → Nat) (q : Nat) (sm : Nat → Nat) (pr : Nat → Nat) (op : Nat → Nat) (iv : Nat → Nat) (hF : FOK q sm pr op iv) (tr : Nat → Nat) (ro : Nat → Nat) (hT : TOK q tr) (bd : Nat → Nat) (mm : Nat → Nat) (me : Nat → Nat) (rc : Nat → Bool) (k_m : MPK q mm) : CtR l yX2_det wsX2_det { frames := 3, cells := 0, slots := 0, locals := 72 } D (tyG cI cZ) [.ref (bd 0)] [(ad 0, .inr (1, [.int (nI q), .ref (ad 1), .ref (ad 2), .ref (ad 3), .ref (ad 4)])), (ad 1, .inl (cI, 81, .inl (nF sm))), (ad 2, .inl (cI, 81, .inl (nF pr))), (ad 3, .inl (cI, 9, .inl (nF op))), (ad 4, .inl (cI, 9, .inl (nF iv))), (ad 5, .inr (3, [.ref (ad 0), .int (nI (nn q)), .ref (ad 6), .ref (ad 7)])), (ad 6, .inl (cI, 273, .inl (nF tr))), (ad 7, .inl (cI, 910, .inl (nF ro))), (bd 0, .inr (2, [.ref (ad 5), .ref (ad 0), .ref (bd 1), .ref (bd 2), .ref (bd 3)])), (bd 1, .inl (cI, 9, .inl (nF mm))), (bd 2, .inl (cI, 9, .inl (nF me))), (bd 3, .inl (cZ, 91, .inl (bF rc)))] (.int (nI (detq q mm))) := by
  refine Met.ofW (cc := cX2_det) (maxL := 3) (ret := some .int) (by decide) rfl ?_
  intro p e s m args below meth c s₁ B hml hv
  obtain ⟨rfl, hP, hK, hN⟩ := hv
  have hx := B.exec
  have hb := B.bytes
  have hr := B.returns
  have hts := atoms_spec (ws := wsX2_det) B.pre
  have hown : s.vm.findClass RX2 = some m.cls := findClass_of_methodNamed B.named
  have hlocks := B.notSynchronized
  have hf9 := hts (.fieldLink RX2 9 "FinitePlanes$Mapping" "m" "[I") (by decide +kernel)
  have hf32 := hts (.fieldLink RX2 32 "FinitePlanes$Mapping" "field" "LFinitePlanes$Field;") (by decide +kernel)
  have hiX2 : ∀ w ∈ u_ws RX2 TX2 5, w ∈ wsX2_det := by decide +kernel
  have hl := lv_entry ([.ref (bd 0)]) (n := 3) (Nat.le_of_ble_eq_true rfl)
  rw [lg_entry_eq]
  generalize (lg_sl ([.ref (bd 0)]) ++ List.replicate (3 - (lg_sl ([.ref (bd 0)])).length) Slot.unset).toArray = ls at hl ⊢
  have hl : lv_has ls 3 [(0, .ref (bd 0))] := hl
  have hq2 := qs_le hF.1
  have hn2 := nn_le hF.1
  refine lv_iconst (v := nI 0) hx hb dX2_det_0 (by decide) ?_
  refine lv_istore_n (lv' := [(1, .int (nI 0)), (0, .ref (bd 0))]) hx hb dX2_det_1 rfl hl (by decide) rfl (fun ls hl => ?_)
  refine lv_iconst (v := nI 0) hx hb dX2_det_2 (by decide) ?_
  refine lv_istore_n (lv' := [(2, .int (nI 0)), (1, .int (nI 0)), (0, .ref (bd 0))]) hx hb dX2_det_3 rfl hl (by decide) rfl (fun ls hl => ?_)
  have w0 := k_m 0 (by omega)
  have w1 := k_m 1 (by omega)
  have w2 := k_m 2 (by omega)
  refine lv_iload_n hx hb dX2_det_4 rfl (lv_at hl 0 rfl) ?_
  refine lv_iconst (v := nI 3) hx hb dX2_det_5 (by decide) ?_
  refine nv_icmp_ge (tgt := 43) hx hb (by decide) (by decide) dX2_det_6 (by decide) (fun c6 => absurd c6 (by omega)) (fun c6 => ?_)
  refine lv_aload_n hx hb dX2_det_9 rfl (lv_at hl 2 rfl) ?_
  refine va_get (D := D) (ci := 2) (v := .ref (ad 0)) (C := RX2) (T := TX2) (N := 5) hx hb hts hiX2 hown hK hP 8 rfl rfl 1 (by decide) hf32 (fun _ h9 => h9) rfl dX2_det_10 ?_
  refine lv_iload_n hx hb dX2_det_13 rfl (lv_at hl 1 rfl) ?_
  refine lv_aload_n hx hb dX2_det_14 rfl (lv_at hl 2 rfl) ?_
  refine va_get (D := D) (ci := 2) (v := .ref (ad 0)) (C := RX2) (T := TX2) (N := 5) hx hb hts hiX2 hown hK hP 8 rfl rfl 1 (by decide) hf32 (fun _ h9 => h9) rfl dX2_det_15 ?_
  refine lv_aload_n hx hb dX2_det_18 rfl (lv_at hl 2 rfl) ?_
  refine va_get (D := D) (ci := 2) (v := .ref (bd 1)) (C := RX2) (T := TX2) (N := 5) hx hb hts hiX2 hown hK hP 8 rfl rfl 2 (by decide) hf9 (fun _ h9 => h9) rfl dX2_det_19 ?_
  refine lv_iload_n hx hb dX2_det_22 rfl (lv_at hl 0 rfl) ?_
  refine nv_iald hx hb hK hP 9 0 rfl rfl (by omega) (by decide) dX2_det_23 ?_
  refine lv_aload_n hx hb dX2_det_24 rfl (lv_at hl 2 rfl) ?_
  refine lv_iconst (v := nI 0) hx hb dX2_det_25 (by decide) ?_
  refine lv_iload_n hx hb dX2_det_26 rfl (lv_at hl 0 rfl) ?_
  refine ctR_V (As := [.int (nI 0), .int (nI 0)]) (rest := [.int (nI (mm 0)), .ref (ad 0), .int (nI 0), .ref (ad 0)]) (r := .int (nI (cofq q mm 0 0))) ⟨hx, hb, hml, hown, hts⟩ (c_X2_cofactor l D cI cZ ad q sm pr op iv hF tr ro hT bd mm me rc k_m 0 0 (by omega) (by omega)) (cwV 2 hts gX2_det_X2_cofactor rfl rfl rfl hdV_X2_cofactor ⟨Nat.le_of_ble_eq_true rfl, Nat.le_of_ble_eq_true rfl⟩) hK hN hP [0, 1, 2, 3, 4, 5, 6, 7, 8, 9, 10, 11] rfl 8 2 rfl rfl rfl hl.1 rfl (Nat.le_of_ble_eq_true rfl) ⟨Nat.zero_le _, Nat.zero_le _⟩ dX2_det_27 ?_
  have hh_1 : cofq q mm 0 0 < q := cofq_lt hF.1 k_m
  refine ctR_V (As := [.int (nI (mm 0)), .int (nI (cofq q mm 0 0))]) (rest := [.int (nI 0), .ref (ad 0)]) (r := .int (nI (fmul q (mm 0) (cofq q mm 0 0)))) ⟨hx, hb, hml, hown, hts⟩ (c_X1_times l D cI cZ ad q sm pr op iv hF (mm 0) (cofq q mm 0 0) (by omega) (by omega)) (cwV 2 hts gX2_det_X1_times rfl rfl rfl hdV_X1_times ⟨Nat.le_of_ble_eq_true rfl, Nat.le_of_ble_eq_true rfl⟩) hK hN hP [0, 1, 2, 3, 4] rfl 0 1 rfl rfl rfl hl.1 rfl (Nat.le_of_ble_eq_true rfl) ⟨Nat.zero_le _, Nat.zero_le _⟩ dX2_det_30 ?_
  have hh_2 : fmul q (mm 0) (cofq q mm 0 0) < q := fmul_lt hF.1 (by omega) (by omega)
  refine ctR_V (As := [.int (nI 0), .int (nI (fmul q (mm 0) (cofq q mm 0 0)))]) (rest := []) (r := .int (nI (fadd q 0 (fmul q (mm 0) (cofq q mm 0 0))))) ⟨hx, hb, hml, hown, hts⟩ (c_X1_plus l D cI cZ ad q sm pr op iv hF 0 (fmul q (mm 0) (cofq q mm 0 0)) (by omega) (by omega)) (cwV 2 hts gX2_det_X1_plus rfl rfl rfl hdV_X1_plus ⟨Nat.le_of_ble_eq_true rfl, Nat.le_of_ble_eq_true rfl⟩) hK hN hP [0, 1, 2, 3, 4] rfl 0 1 rfl rfl rfl hl.1 rfl (Nat.le_of_ble_eq_true rfl) ⟨Nat.zero_le _, Nat.zero_le _⟩ dX2_det_33 ?_
  have hh_3 : fadd q 0 (fmul q (mm 0) (cofq q mm 0 0)) < q := fadd_lt hF.1 (by omega) (by omega)
  refine lv_istore_n (lv' := [(1, .int (nI (fadd q 0 (fmul q (mm 0) (cofq q mm 0 0))))), (2, .int (nI 0)), (0, .ref (bd 0))]) hx hb dX2_det_36 rfl hl (by decide) rfl (fun ls hl => ?_)
  refine lv_iinc (v := nI 1) (lv' := [(2, .int (nI 1)), (1, .int (nI (fadd q 0 (fmul q (mm 0) (cofq q mm 0 0))))), (0, .ref (bd 0))]) hx hb dX2_det_37 hl (k := 1) rfl (nI_inc 0) (by decide) rfl (fun ls hl => ?_)
  refine lv_goto (tgt := 4) hx hb dX2_det_40 (by decide) ?_
  have w0 := k_m 0 (by omega)
  have w1 := k_m 1 (by omega)
  have w2 := k_m 2 (by omega)
  refine lv_iload_n hx hb dX2_det_4 rfl (lv_at hl 0 rfl) ?_
  refine lv_iconst (v := nI 3) hx hb dX2_det_5 (by decide) ?_
  refine nv_icmp_ge (tgt := 43) hx hb (by decide) (by decide) dX2_det_6 (by decide) (fun c6 => absurd c6 (by omega)) (fun c6 => ?_)
  refine lv_aload_n hx hb dX2_det_9 rfl (lv_at hl 2 rfl) ?_
  refine va_get (D := D) (ci := 2) (v := .ref (ad 0)) (C := RX2) (T := TX2) (N := 5) hx hb hts hiX2 hown hK hP 8 rfl rfl 1 (by decide) hf32 (fun _ h9 => h9) rfl dX2_det_10 ?_
  refine lv_iload_n hx hb dX2_det_13 rfl (lv_at hl 1 rfl) ?_
  refine lv_aload_n hx hb dX2_det_14 rfl (lv_at hl 2 rfl) ?_
  refine va_get (D := D) (ci := 2) (v := .ref (ad 0)) (C := RX2) (T := TX2) (N := 5) hx hb hts hiX2 hown hK hP 8 rfl rfl 1 (by decide) hf32 (fun _ h9 => h9) rfl dX2_det_15 ?_
  refine lv_aload_n hx hb dX2_det_18 rfl (lv_at hl 2 rfl) ?_
  refine va_get (D := D) (ci := 2) (v := .ref (bd 1)) (C := RX2) (T := TX2) (N := 5) hx hb hts hiX2 hown hK hP 8 rfl rfl 2 (by decide) hf9 (fun _ h9 => h9) rfl dX2_det_19 ?_
  refine lv_iload_n hx hb dX2_det_22 rfl (lv_at hl 0 rfl) ?_
  refine nv_iald hx hb hK hP 9 0 rfl rfl (by omega) (by decide) dX2_det_23 ?_
  refine lv_aload_n hx hb dX2_det_24 rfl (lv_at hl 2 rfl) ?_
  refine lv_iconst (v := nI 0) hx hb dX2_det_25 (by decide) ?_
  refine lv_iload_n hx hb dX2_det_26 rfl (lv_at hl 0 rfl) ?_
  refine ctR_V (As := [.int (nI 0), .int (nI 1)]) (rest := [.int (nI (mm 1)), .ref (ad 0), .int (nI (fadd q 0 (fmul q (mm 0) (cofq q mm 0 0)))), .ref (ad 0)]) (r := .int (nI (cofq q mm 0 1))) ⟨hx, hb, hml, hown, hts⟩ (c_X2_cofactor l D cI cZ ad q sm pr op iv hF tr ro hT bd mm me rc k_m 0 1 (by omega) (by omega)) (cwV 2 hts gX2_det_X2_cofactor rfl rfl rfl hdV_X2_cofactor ⟨Nat.le_of_ble_eq_true rfl, Nat.le_of_ble_eq_true rfl⟩) hK hN hP [0, 1, 2, 3, 4, 5, 6, 7, 8, 9, 10, 11] rfl 8 2 rfl rfl rfl hl.1 rfl (Nat.le_of_ble_eq_true rfl) ⟨Nat.zero_le _, Nat.zero_le _⟩ dX2_det_27 ?_
  have hh_4 : cofq q mm 0 1 < q := cofq_lt hF.1 k_m
  refine ctR_V (As := [.int (nI (mm 1)), .int (nI (cofq q mm 0 1))]) (rest := [.int (nI (fadd q 0 (fmul q (mm 0) (cofq q mm 0 0)))), .ref (ad 0)]) (r := .int (nI (fmul q (mm 1) (cofq q mm 0 1)))) ⟨hx, hb, hml, hown, hts⟩ (c_X1_times l D cI cZ ad q sm pr op iv hF (mm 1) (cofq q mm 0 1) (by omega) (by omega)) (cwV 2 hts gX2_det_X1_times rfl rfl rfl hdV_X1_times ⟨Nat.le_of_ble_eq_true rfl, Nat.le_of_ble_eq_true rfl⟩) hK hN hP [0, 1, 2, 3, 4] rfl 0 1 rfl rfl rfl hl.1 rfl (Nat.le_of_ble_eq_true rfl) ⟨Nat.zero_le _, Nat.zero_le _⟩ dX2_det_30 ?_
  have hh_5 : fmul q (mm 1) (cofq q mm 0 1) < q := fmul_lt hF.1 (by omega) (by omega)
  refine ctR_V (As := [.int (nI (fadd q 0 (fmul q (mm 0) (cofq q mm 0 0)))), .int (nI (fmul q (mm 1) (cofq q mm 0 1)))]) (rest := []) (r := .int (nI (fadd q (fadd q 0 (fmul q (mm 0) (cofq q mm 0 0))) (fmul q (mm 1) (cofq q mm 0 1))))) ⟨hx, hb, hml, hown, hts⟩ (c_X1_plus l D cI cZ ad q sm pr op iv hF (fadd q 0 (fmul q (mm 0) (cofq q mm 0 0))) (fmul q (mm 1) (cofq q mm 0 1)) (by omega) (by omega)) (cwV 2 hts gX2_det_X1_plus rfl rfl rfl hdV_X1_plus ⟨Nat.le_of_ble_eq_true rfl, Nat.le_of_ble_eq_true rfl⟩) hK hN hP [0, 1, 2, 3, 4] rfl 0 1 rfl rfl rfl hl.1 rfl (Nat.le_of_ble_eq_true rfl) ⟨Nat.zero_le _, Nat.zero_le _⟩ dX2_det_33 ?_
  have hh_6 : fadd q (fadd q 0 (fmul q (mm 0) (cofq q mm 0 0))) (fmul q (mm 1) (cofq q mm 0 1)) < q := fadd_lt hF.1 (by omega) (by omega)
  refine lv_istore_n (lv' := [(1, .int (nI (fadd q (fadd q 0 (fmul q (mm 0) (cofq q mm 0 0))) (fmul q (mm 1) (cofq q mm 0 1))))), (2, .int (nI 1)), (0, .ref (bd 0))]) hx hb dX2_det_36 rfl hl (by decide) rfl (fun ls hl => ?_)
  refine lv_iinc (v := nI 2) (lv' := [(2, .int (nI 2)), (1, .int (nI (fadd q (fadd q 0 (fmul q (mm 0) (cofq q mm 0 0))) (fmul q (mm 1) (cofq q mm 0 1))))), (0, .ref (bd 0))]) hx hb dX2_det_37 hl (k := 1) rfl (nI_inc 1) (by decide) rfl (fun ls hl => ?_)
  refine lv_goto (tgt := 4) hx hb dX2_det_40 (by decide) ?_
  have w0 := k_m 0 (by omega)
  have w1 := k_m 1 (by omega)
  have w2 := k_m 2 (by omega)
  refine lv_iload_n hx hb dX2_det_4 rfl (lv_at hl 0 rfl) ?_
  refine lv_iconst (v := nI 3) hx hb dX2_det_5 (by decide) ?_
  refine nv_icmp_ge (tgt := 43) hx hb (by decide) (by decide) dX2_det_6 (by decide) (fun c6 => absurd c6 (by omega)) (fun c6 => ?_)
  refine lv_aload_n hx hb dX2_det_9 rfl (lv_at hl 2 rfl) ?_
  refine va_get (D := D) (ci := 2) (v := .ref (ad 0)) (C := RX2) (T := TX2) (N := 5) hx hb hts hiX2 hown hK hP 8 rfl rfl 1 (by decide) hf32 (fun _ h9 => h9) rfl dX2_det_10 ?_
  refine lv_iload_n hx hb dX2_det_13 rfl (lv_at hl 1 rfl) ?_
  refine lv_aload_n hx hb dX2_det_14 rfl (lv_at hl 2 rfl) ?_
  refine va_get (D := D) (ci := 2) (v := .ref (ad 0)) (C := RX2) (T := TX2) (N := 5) hx hb hts hiX2 hown hK hP 8 rfl rfl 1 (by decide) hf32 (fun _ h9 => h9) rfl dX2_det_15 ?_
  refine lv_aload_n hx hb dX2_det_18 rfl (lv_at hl 2 rfl) ?_
  refine va_get (D := D) (ci := 2) (v := .ref (bd 1)) (C := RX2) (T := TX2) (N := 5) hx hb hts hiX2 hown hK hP 8 rfl rfl 2 (by decide) hf9 (fun _ h9 => h9) rfl dX2_det_19 ?_
  refine lv_iload_n hx hb dX2_det_22 rfl (lv_at hl 0 rfl) ?_
  refine nv_iald hx hb hK hP 9 0 rfl rfl (by omega) (by decide) dX2_det_23 ?_
  refine lv_aload_n hx hb dX2_det_24 rfl (lv_at hl 2 rfl) ?_
  refine lv_iconst (v := nI 0) hx hb dX2_det_25 (by decide) ?_
  refine lv_iload_n hx hb dX2_det_26 rfl (lv_at hl 0 rfl) ?_
  refine ctR_V (As := [.int (nI 0), .int (nI 2)]) (rest := [.int (nI (mm 2)), .ref (ad 0), .int (nI (fadd q (fadd q 0 (fmul q (mm 0) (cofq q mm 0 0))) (fmul q (mm 1) (cofq q mm 0 1)))), .ref (ad 0)]) (r := .int (nI (cofq q mm 0 2))) ⟨hx, hb, hml, hown, hts⟩ (c_X2_cofactor l D cI cZ ad q sm pr op iv hF tr ro hT bd mm me rc k_m 0 2 (by omega) (by omega)) (cwV 2 hts gX2_det_X2_cofactor rfl rfl rfl hdV_X2_cofactor ⟨Nat.le_of_ble_eq_true rfl, Nat.le_of_ble_eq_true rfl⟩) hK hN hP [0, 1, 2, 3, 4, 5, 6, 7, 8, 9, 10, 11] rfl 8 2 rfl rfl rfl hl.1 rfl (Nat.le_of_ble_eq_true rfl) ⟨Nat.zero_le _, Nat.zero_le _⟩ dX2_det_27 ?_
  have hh_7 : cofq q mm 0 2 < q := cofq_lt hF.1 k_m
  refine ctR_V (As := [.int (nI (mm 2)), .int (nI (cofq q mm 0 2))]) (rest := [.int (nI (fadd q (fadd q 0 (fmul q (mm 0) (cofq q mm 0 0))) (fmul q (mm 1) (cofq q mm 0 1)))), .ref (ad 0)]) (r := .int (nI (fmul q (mm 2) (cofq q mm 0 2)))) ⟨hx, hb, hml, hown, hts⟩ (c_X1_times l D cI cZ ad q sm pr op iv hF (mm 2) (cofq q mm 0 2) (by omega) (by omega)) (cwV 2 hts gX2_det_X1_times rfl rfl rfl hdV_X1_times ⟨Nat.le_of_ble_eq_true rfl, Nat.le_of_ble_eq_true rfl⟩) hK hN hP [0, 1, 2, 3, 4] rfl 0 1 rfl rfl rfl hl.1 rfl (Nat.le_of_ble_eq_true rfl) ⟨Nat.zero_le _, Nat.zero_le _⟩ dX2_det_30 ?_
  have hh_8 : fmul q (mm 2) (cofq q mm 0 2) < q := fmul_lt hF.1 (by omega) (by omega)
  refine ctR_V (As := [.int (nI (fadd q (fadd q 0 (fmul q (mm 0) (cofq q mm 0 0))) (fmul q (mm 1) (cofq q mm 0 1)))), .int (nI (fmul q (mm 2) (cofq q mm 0 2)))]) (rest := []) (r := .int (nI (fadd q (fadd q (fadd q 0 (fmul q (mm 0) (cofq q mm 0 0))) (fmul q (mm 1) (cofq q mm 0 1))) (fmul q (mm 2) (cofq q mm 0 2))))) ⟨hx, hb, hml, hown, hts⟩ (c_X1_plus l D cI cZ ad q sm pr op iv hF (fadd q (fadd q 0 (fmul q (mm 0) (cofq q mm 0 0))) (fmul q (mm 1) (cofq q mm 0 1))) (fmul q (mm 2) (cofq q mm 0 2)) (by omega) (by omega)) (cwV 2 hts gX2_det_X1_plus rfl rfl rfl hdV_X1_plus ⟨Nat.le_of_ble_eq_true rfl, Nat.le_of_ble_eq_true rfl⟩) hK hN hP [0, 1, 2, 3, 4] rfl 0 1 rfl rfl rfl hl.1 rfl (Nat.le_of_ble_eq_true rfl) ⟨Nat.zero_le _, Nat.zero_le _⟩ dX2_det_33 ?_
  have hh_9 : fadd q (fadd q (fadd q 0 (fmul q (mm 0) (cofq q mm 0 0))) (fmul q (mm 1) (cofq q mm 0 1))) (fmul q (mm 2) (cofq q mm 0 2)) < q := fadd_lt hF.1 (by omega) (by omega)
  refine lv_istore_n (lv' := [(1, .int (nI (fadd q (fadd q (fadd q 0 (fmul q (mm 0) (cofq q mm 0 0))) (fmul q (mm 1) (cofq q mm 0 1))) (fmul q (mm 2) (cofq q mm 0 2))))), (2, .int (nI 2)), (0, .ref (bd 0))]) hx hb dX2_det_36 rfl hl (by decide) rfl (fun ls hl => ?_)
  refine lv_iinc (v := nI 3) (lv' := [(2, .int (nI 3)), (1, .int (nI (fadd q (fadd q (fadd q 0 (fmul q (mm 0) (cofq q mm 0 0))) (fmul q (mm 1) (cofq q mm 0 1))) (fmul q (mm 2) (cofq q mm 0 2))))), (0, .ref (bd 0))]) hx hb dX2_det_37 hl (k := 1) rfl (nI_inc 2) (by decide) rfl (fun ls hl => ?_)
  refine lv_goto (tgt := 4) hx hb dX2_det_40 (by decide) ?_
  have w0 := k_m 0 (by omega)
  have w1 := k_m 1 (by omega)
  have w2 := k_m 2 (by omega)
  refine lv_iload_n hx hb dX2_det_4 rfl (lv_at hl 0 rfl) ?_
  refine lv_iconst (v := nI 3) hx hb dX2_det_5 (by decide) ?_
  refine nv_icmp_ge (tgt := 43) hx hb (by decide) (by decide) dX2_det_6 (by decide) (fun c6 => ?_) (fun c6 => absurd c6 (by omega))
  refine lv_iload_n hx hb dX2_det_43 rfl (lv_at hl 1 rfl) ?_
  exact ctR_ret (v := (nI (fadd q (fadd q (fadd q 0 (fmul q (mm 0) (cofq q mm 0 0))) (fmul q (mm 1) (cofq q mm 0 1))) (fmul q (mm 2) (cofq q mm 0 2))))) hx hb hr rfl dX2_det_44 hlocks (by rw [fadd_0l hF.1 (by omega)]; rfl)

set_option maxHeartbeats 4000000 in
set_option maxRecDepth 100000 in
theorem c_X2_imagePart (l : Launch) (D : va_G) (cI cZ : ClassId) (ad : Nat → Nat) (q : Nat) (sm : Nat → Nat) (pr : Nat → Nat) (op : Nat → Nat) (iv : Nat → Nat) (hF : FOK q sm pr op iv) (tr : Nat → Nat) (ro : Nat → Nat) (hT : TOK q tr) (bd : Nat → Nat) (mm : Nat → Nat) (me : Nat → Nat) (rc : Nat → Bool) (k_m : MPK q mm) (i : Nat) (j : Nat) (k_1 : i < nn q) (k_2 : j < 3) : CtR l yX2_imagePart wsX2_imagePart { frames := 1, cells := 0, slots := 0, locals := 22 } D (tyG cI cZ) [.ref (bd 0), .int (nI i), .int (nI j)] [(ad 0, .inr (1, [.int (nI q), .ref (ad 1), .ref (ad 2), .ref (ad 3), .ref (ad 4)])), (ad 1, .inl (cI, 81, .inl (nF sm))), (ad 2, .inl (cI, 81, .inl (nF pr))), (ad 3, .inl (cI, 9, .inl (nF op))), (ad 4, .inl (cI, 9, .inl (nF iv))), (ad 5, .inr (3, [.ref (ad 0), .int (nI (nn q)), .ref (ad 6), .ref (ad 7)])), (ad 6, .inl (cI, 273, .inl (nF tr))), (ad 7, .inl (cI, 910, .inl (nF ro))), (bd 0, .inr (2, [.ref (ad 5), .ref (ad 0), .ref (bd 1), .ref (bd 2), .ref (bd 3)])), (bd 1, .inl (cI, 9, .inl (nF mm))), (bd 2, .inl (cI, 9, .inl (nF me))), (bd 3, .inl (cZ, 91, .inl (bF rc)))] (.int (nI (mpt q mm i j))) := by
  refine Met.ofW (cc := cX2_imagePart) (maxL := 5) (ret := some .int) (by decide) rfl ?_
  intro p e s m args below meth c s₁ B hml hv
  obtain ⟨rfl, hP, hK, hN⟩ := hv
  have hx := B.exec
  have hb := B.bytes
  have hr := B.returns
  have hts := atoms_spec (ws := wsX2_imagePart) B.pre
  have hown : s.vm.findClass RX2 = some m.cls := findClass_of_methodNamed B.named
  have hlocks := B.notSynchronized
  have hf9 := hts (.fieldLink RX2 9 "FinitePlanes$Mapping" "m" "[I") (by decide +kernel)
  have hf22 := hts (.fieldLink RX2 22 "FinitePlanes$Mapping" "plane" "LFinitePlanes$Plane;") (by decide +kernel)
  have hf32 := hts (.fieldLink RX2 32 "FinitePlanes$Mapping" "field" "LFinitePlanes$Field;") (by decide +kernel)
  have hiX2 : ∀ w ∈ u_ws RX2 TX2 5, w ∈ wsX2_imagePart := by decide +kernel
  have hl := lv_entry ([.ref (bd 0), .int (nI i), .int (nI j)]) (n := 5) (Nat.le_of_ble_eq_true rfl)
  rw [lg_entry_eq]
  generalize (lg_sl ([.ref (bd 0), .int (nI i), .int (nI j)]) ++ List.replicate (5 - (lg_sl ([.ref (bd 0), .int (nI i), .int (nI j)])).length) Slot.unset).toArray = ls at hl ⊢
  have hl : lv_has ls 5 [(0, .ref (bd 0)), (1, .int (nI i)), (2, .int (nI j))] := hl
  have hq2 := qs_le hF.1
  have hn2 := nn_le hF.1
  refine lv_iconst (v := nI 0) hx hb dX2_imagePart_0 (by decide) ?_
  refine lv_istore_n (lv' := [(3, .int (nI 0)), (0, .ref (bd 0)), (1, .int (nI i)), (2, .int (nI j))]) hx hb dX2_imagePart_1 rfl hl (by decide) rfl (fun ls hl => ?_)
  refine lv_iconst (v := nI 0) hx hb dX2_imagePart_2 (by decide) ?_
  refine lv_istore (lv' := [(4, .int (nI 0)), (3, .int (nI 0)), (0, .ref (bd 0)), (1, .int (nI i)), (2, .int (nI j))]) hx hb dX2_imagePart_3 hl (by decide) rfl (fun ls hl => ?_)
  have w0 := k_m (3 * j + 0) (by omega)
  have w1 := k_m (3 * j + 1) (by omega)
  have w2 := k_m (3 * j + 2) (by omega)
  refine lv_iload hx hb dX2_imagePart_5 (lv_at hl 0 rfl) ?_
  refine lv_iconst (v := nI 3) hx hb dX2_imagePart_7 (by decide) ?_
  refine nv_icmp_ge (tgt := 54) hx hb (by decide) (by decide) dX2_imagePart_8 (by decide) (fun c8 => absurd c8 (by omega)) (fun c8 => ?_)
  refine lv_aload_n hx hb dX2_imagePart_11 rfl (lv_at hl 2 rfl) ?_
  refine va_get (D := D) (ci := 2) (v := .ref (ad 0)) (C := RX2) (T := TX2) (N := 5) hx hb hts hiX2 hown hK hP 8 rfl rfl 1 (by decide) hf32 (fun _ h9 => h9) rfl dX2_imagePart_12 ?_
  refine lv_iload_n hx hb dX2_imagePart_15 rfl (lv_at hl 1 rfl) ?_
  refine lv_aload_n hx hb dX2_imagePart_16 rfl (lv_at hl 2 rfl) ?_
  refine va_get (D := D) (ci := 2) (v := .ref (ad 0)) (C := RX2) (T := TX2) (N := 5) hx hb hts hiX2 hown hK hP 8 rfl rfl 1 (by decide) hf32 (fun _ h9 => h9) rfl dX2_imagePart_17 ?_
  refine lv_aload_n hx hb dX2_imagePart_20 rfl (lv_at hl 2 rfl) ?_
  refine va_get (D := D) (ci := 2) (v := .ref (bd 1)) (C := RX2) (T := TX2) (N := 5) hx hb hts hiX2 hown hK hP 8 rfl rfl 2 (by decide) hf9 (fun _ h9 => h9) rfl dX2_imagePart_21 ?_
  refine lv_iconst (v := nI 3) hx hb dX2_imagePart_24 (by decide) ?_
  refine lv_iload_n hx hb dX2_imagePart_25 rfl (lv_at hl 4 rfl) ?_
  refine nv_mulE (r := 3 * j) hx hb rfl dX2_imagePart_26 ?_
  refine lv_iload hx hb dX2_imagePart_27 (lv_at hl 0 rfl) ?_
  refine nv_addE (r := (3 * j) + 0) hx hb rfl dX2_imagePart_29 ?_
  refine nv_iald hx hb hK hP 9 0 rfl rfl (by omega) (by decide) dX2_imagePart_30 ?_
  refine lv_aload_n hx hb dX2_imagePart_31 rfl (lv_at hl 2 rfl) ?_
  refine va_get (D := D) (ci := 2) (v := .ref (ad 5)) (C := RX2) (T := TX2) (N := 5) hx hb hts hiX2 hown hK hP 8 rfl rfl 0 (by decide) hf22 (fun _ h9 => h9) rfl dX2_imagePart_32 ?_
  refine lv_iload_n hx hb dX2_imagePart_35 rfl (lv_at hl 3 rfl) ?_
  refine lv_iload hx hb dX2_imagePart_36 (lv_at hl 0 rfl) ?_
  refine ctR_V (As := [.int (nI i), .int (nI 0)]) (rest := [.int (nI (mm ((3 * j) + 0))), .ref (ad 0), .int (nI 0), .ref (ad 0)]) (r := .int (nI (pt q i 0))) ⟨hx, hb, hml, hown, hts⟩ (c_X3_part l D cI cZ ad q sm pr op iv hF tr ro hT i 0 (by omega) (by omega)) (cwV 2 hts gX2_imagePart_X3_part rfl rfl rfl hdV_X3_part ⟨Nat.le_of_ble_eq_true rfl, Nat.le_of_ble_eq_true rfl⟩) hK hN hP [0, 1, 2, 3, 4, 5, 6, 7] rfl 5 3 rfl rfl rfl hl.1 rfl (Nat.le_of_ble_eq_true rfl) ⟨Nat.zero_le _, Nat.zero_le _⟩ dX2_imagePart_38 ?_
  have hh_1 : pt q i 0 < q := pt_lt hF.1 (by omega) (by omega)
  refine ctR_V (As := [.int (nI (mm ((3 * j) + 0))), .int (nI (pt q i 0))]) (rest := [.int (nI 0), .ref (ad 0)]) (r := .int (nI (fmul q (mm ((3 * j) + 0)) (pt q i 0)))) ⟨hx, hb, hml, hown, hts⟩ (c_X1_times l D cI cZ ad q sm pr op iv hF (mm ((3 * j) + 0)) (pt q i 0) (by omega) (by omega)) (cwV 2 hts gX2_imagePart_X1_times rfl rfl rfl hdV_X1_times ⟨Nat.le_of_ble_eq_true rfl, Nat.le_of_ble_eq_true rfl⟩) hK hN hP [0, 1, 2, 3, 4] rfl 0 1 rfl rfl rfl hl.1 rfl (Nat.le_of_ble_eq_true rfl) ⟨Nat.zero_le _, Nat.zero_le _⟩ dX2_imagePart_41 ?_
  have hh_2 : fmul q (mm ((3 * j) + 0)) (pt q i 0) < q := fmul_lt hF.1 (by omega) (by omega)
  refine ctR_V (As := [.int (nI 0), .int (nI (fmul q (mm ((3 * j) + 0)) (pt q i 0)))]) (rest := []) (r := .int (nI (fadd q 0 (fmul q (mm ((3 * j) + 0)) (pt q i 0))))) ⟨hx, hb, hml, hown, hts⟩ (c_X1_plus l D cI cZ ad q sm pr op iv hF 0 (fmul q (mm ((3 * j) + 0)) (pt q i 0)) (by omega) (by omega)) (cwV 2 hts gX2_imagePart_X1_plus rfl rfl rfl hdV_X1_plus ⟨Nat.le_of_ble_eq_true rfl, Nat.le_of_ble_eq_true rfl⟩) hK hN hP [0, 1, 2, 3, 4] rfl 0 1 rfl rfl rfl hl.1 rfl (Nat.le_of_ble_eq_true rfl) ⟨Nat.zero_le _, Nat.zero_le _⟩ dX2_imagePart_44 ?_
  have hh_3 : fadd q 0 (fmul q (mm ((3 * j) + 0)) (pt q i 0)) < q := fadd_lt hF.1 (by omega) (by omega)
  refine lv_istore_n (lv' := [(3, .int (nI (fadd q 0 (fmul q (mm ((3 * j) + 0)) (pt q i 0))))), (4, .int (nI 0)), (0, .ref (bd 0)), (1, .int (nI i)), (2, .int (nI j))]) hx hb dX2_imagePart_47 rfl hl (by decide) rfl (fun ls hl => ?_)
  refine lv_iinc (v := nI 1) (lv' := [(4, .int (nI 1)), (3, .int (nI (fadd q 0 (fmul q (mm ((3 * j) + 0)) (pt q i 0))))), (0, .ref (bd 0)), (1, .int (nI i)), (2, .int (nI j))]) hx hb dX2_imagePart_48 hl (k := 1) rfl (nI_inc 0) (by decide) rfl (fun ls hl => ?_)
  refine lv_goto (tgt := 5) hx hb dX2_imagePart_51 (by decide) ?_
  have w0 := k_m (3 * j + 0) (by omega)
  have w1 := k_m (3 * j + 1) (by omega)
  have w2 := k_m (3 * j + 2) (by omega)
  refine lv_iload hx hb dX2_imagePart_5 (lv_at hl 0 rfl) ?_
  refine lv_iconst (v := nI 3) hx hb dX2_imagePart_7 (by decide) ?_
  refine nv_icmp_ge (tgt := 54) hx hb (by decide) (by decide) dX2_imagePart_8 (by decide) (fun c8 => absurd c8 (by omega)) (fun c8 => ?_)
  refine lv_aload_n hx hb dX2_imagePart_11 rfl (lv_at hl 2 rfl) ?_
  refine va_get (D := D) (ci := 2) (v := .ref (ad 0)) (C := RX2) (T := TX2) (N := 5) hx hb hts hiX2 hown hK hP 8 rfl rfl 1 (by decide) hf32 (fun _ h9 => h9) rfl dX2_imagePart_12 ?_
  refine lv_iload_n hx hb dX2_imagePart_15 rfl (lv_at hl 1 rfl) ?_
  refine lv_aload_n hx hb dX2_imagePart_16 rfl (lv_at hl 2 rfl) ?_
  refine va_get (D := D) (ci := 2) (v := .ref (ad 0)) (C := RX2) (T := TX2) (N := 5) hx hb hts hiX2 hown hK hP 8 rfl rfl 1 (by decide) hf32 (fun _ h9 => h9) rfl dX2_imagePart_17 ?_
  refine lv_aload_n hx hb dX2_imagePart_20 rfl (lv_at hl 2 rfl) ?_
  refine va_get (D := D) (ci := 2) (v := .ref (bd 1)) (C := RX2) (T := TX2) (N := 5) hx hb hts hiX2 hown hK hP 8 rfl rfl 2 (by decide) hf9 (fun _ h9 => h9) rfl dX2_imagePart_21 ?_
  refine lv_iconst (v := nI 3) hx hb dX2_imagePart_24 (by decide) ?_
  refine lv_iload_n hx hb dX2_imagePart_25 rfl (lv_at hl 4 rfl) ?_
  refine nv_mulE (r := 3 * j) hx hb rfl dX2_imagePart_26 ?_
  refine lv_iload hx hb dX2_imagePart_27 (lv_at hl 0 rfl) ?_
  refine nv_addE (r := (3 * j) + 1) hx hb rfl dX2_imagePart_29 ?_
  refine nv_iald hx hb hK hP 9 0 rfl rfl (by omega) (by decide) dX2_imagePart_30 ?_
  refine lv_aload_n hx hb dX2_imagePart_31 rfl (lv_at hl 2 rfl) ?_
  refine va_get (D := D) (ci := 2) (v := .ref (ad 5)) (C := RX2) (T := TX2) (N := 5) hx hb hts hiX2 hown hK hP 8 rfl rfl 0 (by decide) hf22 (fun _ h9 => h9) rfl dX2_imagePart_32 ?_
  refine lv_iload_n hx hb dX2_imagePart_35 rfl (lv_at hl 3 rfl) ?_
  refine lv_iload hx hb dX2_imagePart_36 (lv_at hl 0 rfl) ?_
  refine ctR_V (As := [.int (nI i), .int (nI 1)]) (rest := [.int (nI (mm ((3 * j) + 1))), .ref (ad 0), .int (nI (fadd q 0 (fmul q (mm ((3 * j) + 0)) (pt q i 0)))), .ref (ad 0)]) (r := .int (nI (pt q i 1))) ⟨hx, hb, hml, hown, hts⟩ (c_X3_part l D cI cZ ad q sm pr op iv hF tr ro hT i 1 (by omega) (by omega)) (cwV 2 hts gX2_imagePart_X3_part rfl rfl rfl hdV_X3_part ⟨Nat.le_of_ble_eq_true rfl, Nat.le_of_ble_eq_true rfl⟩) hK hN hP [0, 1, 2, 3, 4, 5, 6, 7] rfl 5 3 rfl rfl rfl hl.1 rfl (Nat.le_of_ble_eq_true rfl) ⟨Nat.zero_le _, Nat.zero_le _⟩ dX2_imagePart_38 ?_
  have hh_4 : pt q i 1 < q := pt_lt hF.1 (by omega) (by omega)
  refine ctR_V (As := [.int (nI (mm ((3 * j) + 1))), .int (nI (pt q i 1))]) (rest := [.int (nI (fadd q 0 (fmul q (mm ((3 * j) + 0)) (pt q i 0)))), .ref (ad 0)]) (r := .int (nI (fmul q (mm ((3 * j) + 1)) (pt q i 1)))) ⟨hx, hb, hml, hown, hts⟩ (c_X1_times l D cI cZ ad q sm pr op iv hF (mm ((3 * j) + 1)) (pt q i 1) (by omega) (by omega)) (cwV 2 hts gX2_imagePart_X1_times rfl rfl rfl hdV_X1_times ⟨Nat.le_of_ble_eq_true rfl, Nat.le_of_ble_eq_true rfl⟩) hK hN hP [0, 1, 2, 3, 4] rfl 0 1 rfl rfl rfl hl.1 rfl (Nat.le_of_ble_eq_true rfl) ⟨Nat.zero_le _, Nat.zero_le _⟩ dX2_imagePart_41 ?_
  have hh_5 : fmul q (mm ((3 * j) + 1)) (pt q i 1) < q := fmul_lt hF.1 (by omega) (by omega)
  refine ctR_V (As := [.int (nI (fadd q 0 (fmul q (mm ((3 * j) + 0)) (pt q i 0)))), .int (nI (fmul q (mm ((3 * j) + 1)) (pt q i 1)))]) (rest := []) (r := .int (nI (fadd q (fadd q 0 (fmul q (mm ((3 * j) + 0)) (pt q i 0))) (fmul q (mm ((3 * j) + 1)) (pt q i 1))))) ⟨hx, hb, hml, hown, hts⟩ (c_X1_plus l D cI cZ ad q sm pr op iv hF (fadd q 0 (fmul q (mm ((3 * j) + 0)) (pt q i 0))) (fmul q (mm ((3 * j) + 1)) (pt q i 1)) (by omega) (by omega)) (cwV 2 hts gX2_imagePart_X1_plus rfl rfl rfl hdV_X1_plus ⟨Nat.le_of_ble_eq_true rfl, Nat.le_of_ble_eq_true rfl⟩) hK hN hP [0, 1, 2, 3, 4] rfl 0 1 rfl rfl rfl hl.1 rfl (Nat.le_of_ble_eq_true rfl) ⟨Nat.zero_le _, Nat.zero_le _⟩ dX2_imagePart_44 ?_
  have hh_6 : fadd q (fadd q 0 (fmul q (mm ((3 * j) + 0)) (pt q i 0))) (fmul q (mm ((3 * j) + 1)) (pt q i 1)) < q := fadd_lt hF.1 (by omega) (by omega)
  refine lv_istore_n (lv' := [(3, .int (nI (fadd q (fadd q 0 (fmul q (mm ((3 * j) + 0)) (pt q i 0))) (fmul q (mm ((3 * j) + 1)) (pt q i 1))))), (4, .int (nI 1)), (0, .ref (bd 0)), (1, .int (nI i)), (2, .int (nI j))]) hx hb dX2_imagePart_47 rfl hl (by decide) rfl (fun ls hl => ?_)
  refine lv_iinc (v := nI 2) (lv' := [(4, .int (nI 2)), (3, .int (nI (fadd q (fadd q 0 (fmul q (mm ((3 * j) + 0)) (pt q i 0))) (fmul q (mm ((3 * j) + 1)) (pt q i 1))))), (0, .ref (bd 0)), (1, .int (nI i)), (2, .int (nI j))]) hx hb dX2_imagePart_48 hl (k := 1) rfl (nI_inc 1) (by decide) rfl (fun ls hl => ?_)
  refine lv_goto (tgt := 5) hx hb dX2_imagePart_51 (by decide) ?_
  have w0 := k_m (3 * j + 0) (by omega)
  have w1 := k_m (3 * j + 1) (by omega)
  have w2 := k_m (3 * j + 2) (by omega)
  refine lv_iload hx hb dX2_imagePart_5 (lv_at hl 0 rfl) ?_
  refine lv_iconst (v := nI 3) hx hb dX2_imagePart_7 (by decide) ?_
  refine nv_icmp_ge (tgt := 54) hx hb (by decide) (by decide) dX2_imagePart_8 (by decide) (fun c8 => absurd c8 (by omega)) (fun c8 => ?_)
  refine lv_aload_n hx hb dX2_imagePart_11 rfl (lv_at hl 2 rfl) ?_
  refine va_get (D := D) (ci := 2) (v := .ref (ad 0)) (C := RX2) (T := TX2) (N := 5) hx hb hts hiX2 hown hK hP 8 rfl rfl 1 (by decide) hf32 (fun _ h9 => h9) rfl dX2_imagePart_12 ?_
  refine lv_iload_n hx hb dX2_imagePart_15 rfl (lv_at hl 1 rfl) ?_
  refine lv_aload_n hx hb dX2_imagePart_16 rfl (lv_at hl 2 rfl) ?_
  refine va_get (D := D) (ci := 2) (v := .ref (ad 0)) (C := RX2) (T := TX2) (N := 5) hx hb hts hiX2 hown hK hP 8 rfl rfl 1 (by decide) hf32 (fun _ h9 => h9) rfl dX2_imagePart_17 ?_
  refine lv_aload_n hx hb dX2_imagePart_20 rfl (lv_at hl 2 rfl) ?_
  refine va_get (D := D) (ci := 2) (v := .ref (bd 1)) (C := RX2) (T := TX2) (N := 5) hx hb hts hiX2 hown hK hP 8 rfl rfl 2 (by decide) hf9 (fun _ h9 => h9) rfl dX2_imagePart_21 ?_
  refine lv_iconst (v := nI 3) hx hb dX2_imagePart_24 (by decide) ?_
  refine lv_iload_n hx hb dX2_imagePart_25 rfl (lv_at hl 4 rfl) ?_
  refine nv_mulE (r := 3 * j) hx hb rfl dX2_imagePart_26 ?_
  refine lv_iload hx hb dX2_imagePart_27 (lv_at hl 0 rfl) ?_
  refine nv_addE (r := (3 * j) + 2) hx hb rfl dX2_imagePart_29 ?_
  refine nv_iald hx hb hK hP 9 0 rfl rfl (by omega) (by decide) dX2_imagePart_30 ?_
  refine lv_aload_n hx hb dX2_imagePart_31 rfl (lv_at hl 2 rfl) ?_
  refine va_get (D := D) (ci := 2) (v := .ref (ad 5)) (C := RX2) (T := TX2) (N := 5) hx hb hts hiX2 hown hK hP 8 rfl rfl 0 (by decide) hf22 (fun _ h9 => h9) rfl dX2_imagePart_32 ?_
  refine lv_iload_n hx hb dX2_imagePart_35 rfl (lv_at hl 3 rfl) ?_
  refine lv_iload hx hb dX2_imagePart_36 (lv_at hl 0 rfl) ?_
  refine ctR_V (As := [.int (nI i), .int (nI 2)]) (rest := [.int (nI (mm ((3 * j) + 2))), .ref (ad 0), .int (nI (fadd q (fadd q 0 (fmul q (mm ((3 * j) + 0)) (pt q i 0))) (fmul q (mm ((3 * j) + 1)) (pt q i 1)))), .ref (ad 0)]) (r := .int (nI (pt q i 2))) ⟨hx, hb, hml, hown, hts⟩ (c_X3_part l D cI cZ ad q sm pr op iv hF tr ro hT i 2 (by omega) (by omega)) (cwV 2 hts gX2_imagePart_X3_part rfl rfl rfl hdV_X3_part ⟨Nat.le_of_ble_eq_true rfl, Nat.le_of_ble_eq_true rfl⟩) hK hN hP [0, 1, 2, 3, 4, 5, 6, 7] rfl 5 3 rfl rfl rfl hl.1 rfl (Nat.le_of_ble_eq_true rfl) ⟨Nat.zero_le _, Nat.zero_le _⟩ dX2_imagePart_38 ?_
  have hh_7 : pt q i 2 < q := pt_lt hF.1 (by omega) (by omega)
  refine ctR_V (As := [.int (nI (mm ((3 * j) + 2))), .int (nI (pt q i 2))]) (rest := [.int (nI (fadd q (fadd q 0 (fmul q (mm ((3 * j) + 0)) (pt q i 0))) (fmul q (mm ((3 * j) + 1)) (pt q i 1)))), .ref (ad 0)]) (r := .int (nI (fmul q (mm ((3 * j) + 2)) (pt q i 2)))) ⟨hx, hb, hml, hown, hts⟩ (c_X1_times l D cI cZ ad q sm pr op iv hF (mm ((3 * j) + 2)) (pt q i 2) (by omega) (by omega)) (cwV 2 hts gX2_imagePart_X1_times rfl rfl rfl hdV_X1_times ⟨Nat.le_of_ble_eq_true rfl, Nat.le_of_ble_eq_true rfl⟩) hK hN hP [0, 1, 2, 3, 4] rfl 0 1 rfl rfl rfl hl.1 rfl (Nat.le_of_ble_eq_true rfl) ⟨Nat.zero_le _, Nat.zero_le _⟩ dX2_imagePart_41 ?_
  have hh_8 : fmul q (mm ((3 * j) + 2)) (pt q i 2) < q := fmul_lt hF.1 (by omega) (by omega)
  refine ctR_V (As := [.int (nI (fadd q (fadd q 0 (fmul q (mm ((3 * j) + 0)) (pt q i 0))) (fmul q (mm ((3 * j) + 1)) (pt q i 1)))), .int (nI (fmul q (mm ((3 * j) + 2)) (pt q i 2)))]) (rest := []) (r := .int (nI (fadd q (fadd q (fadd q 0 (fmul q (mm ((3 * j) + 0)) (pt q i 0))) (fmul q (mm ((3 * j) + 1)) (pt q i 1))) (fmul q (mm ((3 * j) + 2)) (pt q i 2))))) ⟨hx, hb, hml, hown, hts⟩ (c_X1_plus l D cI cZ ad q sm pr op iv hF (fadd q (fadd q 0 (fmul q (mm ((3 * j) + 0)) (pt q i 0))) (fmul q (mm ((3 * j) + 1)) (pt q i 1))) (fmul q (mm ((3 * j) + 2)) (pt q i 2)) (by omega) (by omega)) (cwV 2 hts gX2_imagePart_X1_plus rfl rfl rfl hdV_X1_plus ⟨Nat.le_of_ble_eq_true rfl, Nat.le_of_ble_eq_true rfl⟩) hK hN hP [0, 1, 2, 3, 4] rfl 0 1 rfl rfl rfl hl.1 rfl (Nat.le_of_ble_eq_true rfl) ⟨Nat.zero_le _, Nat.zero_le _⟩ dX2_imagePart_44 ?_
  have hh_9 : fadd q (fadd q (fadd q 0 (fmul q (mm ((3 * j) + 0)) (pt q i 0))) (fmul q (mm ((3 * j) + 1)) (pt q i 1))) (fmul q (mm ((3 * j) + 2)) (pt q i 2)) < q := fadd_lt hF.1 (by omega) (by omega)
  refine lv_istore_n (lv' := [(3, .int (nI (fadd q (fadd q (fadd q 0 (fmul q (mm ((3 * j) + 0)) (pt q i 0))) (fmul q (mm ((3 * j) + 1)) (pt q i 1))) (fmul q (mm ((3 * j) + 2)) (pt q i 2))))), (4, .int (nI 2)), (0, .ref (bd 0)), (1, .int (nI i)), (2, .int (nI j))]) hx hb dX2_imagePart_47 rfl hl (by decide) rfl (fun ls hl => ?_)
  refine lv_iinc (v := nI 3) (lv' := [(4, .int (nI 3)), (3, .int (nI (fadd q (fadd q (fadd q 0 (fmul q (mm ((3 * j) + 0)) (pt q i 0))) (fmul q (mm ((3 * j) + 1)) (pt q i 1))) (fmul q (mm ((3 * j) + 2)) (pt q i 2))))), (0, .ref (bd 0)), (1, .int (nI i)), (2, .int (nI j))]) hx hb dX2_imagePart_48 hl (k := 1) rfl (nI_inc 2) (by decide) rfl (fun ls hl => ?_)
  refine lv_goto (tgt := 5) hx hb dX2_imagePart_51 (by decide) ?_
  have w0 := k_m (3 * j + 0) (by omega)
  have w1 := k_m (3 * j + 1) (by omega)
  have w2 := k_m (3 * j + 2) (by omega)
  refine lv_iload hx hb dX2_imagePart_5 (lv_at hl 0 rfl) ?_
  refine lv_iconst (v := nI 3) hx hb dX2_imagePart_7 (by decide) ?_
  refine nv_icmp_ge (tgt := 54) hx hb (by decide) (by decide) dX2_imagePart_8 (by decide) (fun c8 => ?_) (fun c8 => absurd c8 (by omega))
  refine lv_iload_n hx hb dX2_imagePart_54 rfl (lv_at hl 1 rfl) ?_
  exact ctR_ret (v := (nI (fadd q (fadd q (fadd q 0 (fmul q (mm ((3 * j) + 0)) (pt q i 0))) (fmul q (mm ((3 * j) + 1)) (pt q i 1))) (fmul q (mm ((3 * j) + 2)) (pt q i 2))))) hx hb hr rfl dX2_imagePart_55 hlocks (by rw [fadd_0l hF.1 (by omega)]; rfl)

set_option maxHeartbeats 4000000 in
set_option maxRecDepth 100000 in
theorem c_X2_goesTo (l : Launch) (D : va_G) (cI cZ : ClassId) (ad : Nat → Nat) (q : Nat) (sm : Nat → Nat) (pr : Nat → Nat) (op : Nat → Nat) (iv : Nat → Nat) (hF : FOK q sm pr op iv) (tr : Nat → Nat) (ro : Nat → Nat) (hT : TOK q tr) (bd : Nat → Nat) (mm : Nat → Nat) (me : Nat → Nat) (rc : Nat → Bool) (k_m : MPK q mm) (i : Nat) (k_1 : i < nn q) : CtR l yX2_goesTo wsX2_goesTo { frames := 2, cells := 0, slots := 0, locals := 46 } D (tyG cI cZ) [.ref (bd 0), .int (nI i)] [(ad 0, .inr (1, [.int (nI q), .ref (ad 1), .ref (ad 2), .ref (ad 3), .ref (ad 4)])), (ad 1, .inl (cI, 81, .inl (nF sm))), (ad 2, .inl (cI, 81, .inl (nF pr))), (ad 3, .inl (cI, 9, .inl (nF op))), (ad 4, .inl (cI, 9, .inl (nF iv))), (ad 5, .inr (3, [.ref (ad 0), .int (nI (nn q)), .ref (ad 6), .ref (ad 7)])), (ad 6, .inl (cI, 273, .inl (nF tr))), (ad 7, .inl (cI, 910, .inl (nF ro))), (bd 0, .inr (2, [.ref (ad 5), .ref (ad 0), .ref (bd 1), .ref (bd 2), .ref (bd 3)])), (bd 1, .inl (cI, 9, .inl (nF mm))), (bd 2, .inl (cI, 9, .inl (nF me))), (bd 3, .inl (cZ, 91, .inl (bF rc)))] (.int (imgZ q mm i)) := by
  refine Met.ofW (cc := cX2_goesTo) (maxL := 2) (ret := some .int) (by decide) rfl ?_
  intro p e s m args below meth c s₁ B hml hv
  obtain ⟨rfl, hP, hK, hN⟩ := hv
  have hx := B.exec
  have hb := B.bytes
  have hr := B.returns
  have hts := atoms_spec (ws := wsX2_goesTo) B.pre
  have hown : s.vm.findClass RX2 = some m.cls := findClass_of_methodNamed B.named
  have hlocks := B.notSynchronized
  have hf22 := hts (.fieldLink RX2 22 "FinitePlanes$Mapping" "plane" "LFinitePlanes$Plane;") (by decide +kernel)
  have hiX2 : ∀ w ∈ u_ws RX2 TX2 5, w ∈ wsX2_goesTo := by decide +kernel
  have hl := lv_entry ([.ref (bd 0), .int (nI i)]) (n := 2) (Nat.le_of_ble_eq_true rfl)
  rw [lg_entry_eq]
  generalize (lg_sl ([.ref (bd 0), .int (nI i)]) ++ List.replicate (2 - (lg_sl ([.ref (bd 0), .int (nI i)])).length) Slot.unset).toArray = ls at hl ⊢
  have hl : lv_has ls 2 [(0, .ref (bd 0)), (1, .int (nI i))] := hl
  have hq2 := qs_le hF.1
  have hn2 := nn_le hF.1
  refine lv_aload_n hx hb dX2_goesTo_0 rfl (lv_at hl 0 rfl) ?_
  refine va_get (D := D) (ci := 2) (v := .ref (ad 5)) (C := RX2) (T := TX2) (N := 5) hx hb hts hiX2 hown hK hP 8 rfl rfl 0 (by decide) hf22 (fun _ h9 => h9) rfl dX2_goesTo_1 ?_
  refine lv_aload_n hx hb dX2_goesTo_4 rfl (lv_at hl 0 rfl) ?_
  refine lv_iload_n hx hb dX2_goesTo_5 rfl (lv_at hl 1 rfl) ?_
  refine lv_iconst (v := nI 0) hx hb dX2_goesTo_6 (by decide) ?_
  refine ctR_V (As := [.int (nI i), .int (nI 0)]) (rest := [.ref (ad 5)]) (r := .int (nI (mpt q mm i 0))) ⟨hx, hb, hml, hown, hts⟩ (c_X2_imagePart l D cI cZ ad q sm pr op iv hF tr ro hT bd mm me rc k_m i 0 (by omega) (by omega)) (cwV 2 hts gX2_goesTo_X2_imagePart rfl rfl rfl hdV_X2_imagePart ⟨Nat.le_of_ble_eq_true rfl, Nat.le_of_ble_eq_true rfl⟩) hK hN hP [0, 1, 2, 3, 4, 5, 6, 7, 8, 9, 10, 11] rfl 8 2 rfl rfl rfl hl.1 rfl (Nat.le_of_ble_eq_true rfl) ⟨Nat.zero_le _, Nat.zero_le _⟩ dX2_goesTo_7 ?_
  have hh_1 : mpt q mm i 0 < q := mpt_lt hF.1 k_m (by omega) (by omega)
  refine lv_aload_n hx hb dX2_goesTo_10 rfl (lv_at hl 0 rfl) ?_
  refine lv_iload_n hx hb dX2_goesTo_11 rfl (lv_at hl 1 rfl) ?_
  refine lv_iconst (v := nI 1) hx hb dX2_goesTo_12 (by decide) ?_
  refine ctR_V (As := [.int (nI i), .int (nI 1)]) (rest := [.int (nI (mpt q mm i 0)), .ref (ad 5)]) (r := .int (nI (mpt q mm i 1))) ⟨hx, hb, hml, hown, hts⟩ (c_X2_imagePart l D cI cZ ad q sm pr op iv hF tr ro hT bd mm me rc k_m i 1 (by omega) (by omega)) (cwV 2 hts gX2_goesTo_X2_imagePart rfl rfl rfl hdV_X2_imagePart ⟨Nat.le_of_ble_eq_true rfl, Nat.le_of_ble_eq_true rfl⟩) hK hN hP [0, 1, 2, 3, 4, 5, 6, 7, 8, 9, 10, 11] rfl 8 2 rfl rfl rfl hl.1 rfl (Nat.le_of_ble_eq_true rfl) ⟨Nat.zero_le _, Nat.zero_le _⟩ dX2_goesTo_13 ?_
  have hh_2 : mpt q mm i 1 < q := mpt_lt hF.1 k_m (by omega) (by omega)
  refine lv_aload_n hx hb dX2_goesTo_16 rfl (lv_at hl 0 rfl) ?_
  refine lv_iload_n hx hb dX2_goesTo_17 rfl (lv_at hl 1 rfl) ?_
  refine lv_iconst (v := nI 2) hx hb dX2_goesTo_18 (by decide) ?_
  refine ctR_V (As := [.int (nI i), .int (nI 2)]) (rest := [.int (nI (mpt q mm i 1)), .int (nI (mpt q mm i 0)), .ref (ad 5)]) (r := .int (nI (mpt q mm i 2))) ⟨hx, hb, hml, hown, hts⟩ (c_X2_imagePart l D cI cZ ad q sm pr op iv hF tr ro hT bd mm me rc k_m i 2 (by omega) (by omega)) (cwV 2 hts gX2_goesTo_X2_imagePart rfl rfl rfl hdV_X2_imagePart ⟨Nat.le_of_ble_eq_true rfl, Nat.le_of_ble_eq_true rfl⟩) hK hN hP [0, 1, 2, 3, 4, 5, 6, 7, 8, 9, 10, 11] rfl 8 2 rfl rfl rfl hl.1 rfl (Nat.le_of_ble_eq_true rfl) ⟨Nat.zero_le _, Nat.zero_le _⟩ dX2_goesTo_19 ?_
  have hh_3 : mpt q mm i 2 < q := mpt_lt hF.1 k_m (by omega) (by omega)
  refine ctR_V (As := [.int (nI (mpt q mm i 0)), .int (nI (mpt q mm i 1)), .int (nI (mpt q mm i 2))]) (rest := []) (r := .int (nmZ q (mpt q mm i 0) (mpt q mm i 1) (mpt q mm i 2))) ⟨hx, hb, hml, hown, hts⟩ (c_X3_numberOf l D cI cZ ad q sm pr op iv hF tr ro hT (mpt q mm i 0) (mpt q mm i 1) (mpt q mm i 2) (by omega) (by omega) (by omega)) (cwV 3 hts gX2_goesTo_X3_numberOf rfl rfl rfl hdV_X3_numberOf ⟨Nat.le_of_ble_eq_true rfl, Nat.le_of_ble_eq_true rfl⟩) hK hN hP [0, 1, 2, 3, 4, 5, 6, 7] rfl 5 3 rfl rfl rfl hl.1 rfl (Nat.le_of_ble_eq_true rfl) ⟨Nat.zero_le _, Nat.zero_le _⟩ dX2_goesTo_22 ?_
  exact ctR_ret (v := (nmZ q (mpt q mm i 0) (mpt q mm i 1) (mpt q mm i 2))) hx hb hr rfl dX2_goesTo_25 hlocks rfl

set_option maxHeartbeats 4000000 in
set_option maxRecDepth 100000 in
theorem c_X2_fixedPoints (l : Launch) (D : va_G) (cI cZ : ClassId) (ad : Nat → Nat) (q : Nat) (sm : Nat → Nat) (pr : Nat → Nat) (op : Nat → Nat) (iv : Nat → Nat) (hF : FOK q sm pr op iv) (tr : Nat → Nat) (ro : Nat → Nat) (hT : TOK q tr) (bd : Nat → Nat) (mm : Nat → Nat) (me : Nat → Nat) (rc : Nat → Bool) (k_m : MPK q mm) : CtR l yX2_fixedPoints wsX2_fixedPoints { frames := 3, cells := 0, slots := 0, locals := 67 } D (tyG cI cZ) [.ref (bd 0)] [(ad 0, .inr (1, [.int (nI q), .ref (ad 1), .ref (ad 2), .ref (ad 3), .ref (ad 4)])), (ad 1, .inl (cI, 81, .inl (nF sm))), (ad 2, .inl (cI, 81, .inl (nF pr))), (ad 3, .inl (cI, 9, .inl (nF op))), (ad 4, .inl (cI, 9, .inl (nF iv))), (ad 5, .inr (3, [.ref (ad 0), .int (nI (nn q)), .ref (ad 6), .ref (ad 7)])), (ad 6, .inl (cI, 273, .inl (nF tr))), (ad 7, .inl (cI, 910, .inl (nF ro))), (bd 0, .inr (2, [.ref (ad 5), .ref (ad 0), .ref (bd 1), .ref (bd 2), .ref (bd 3)])), (bd 1, .inl (cI, 9, .inl (nF mm))), (bd 2, .inl (cI, 9, .inl (nF me))), (bd 3, .inl (cZ, 91, .inl (bF rc)))] (.int (nI (fixq q mm))) := by
  refine Met.ofW (cc := cX2_fixedPoints) (maxL := 3) (ret := some .int) (by decide) rfl ?_
  intro p e s m args below meth c s₁ B hml hv
  obtain ⟨rfl, hP, hK, hN⟩ := hv
  have hx := B.exec
  have hb := B.bytes
  have hr := B.returns
  have hts := atoms_spec (ws := wsX2_fixedPoints) B.pre
  have hown : s.vm.findClass RX2 = some m.cls := findClass_of_methodNamed B.named
  have hlocks := B.notSynchronized
  have hf22 := hts (.fieldLink RX2 22 "FinitePlanes$Mapping" "plane" "LFinitePlanes$Plane;") (by decide +kernel)
  have hf66 := hN.use (w := .fieldLinkNest RX2 66 "FinitePlanes$Plane" "n" "I" "FinitePlanes") (by decide +kernel) (A := [.ref (bd 0)].toArray)
  have hiX2 : ∀ w ∈ u_ws RX2 TX2 5, w ∈ wsX2_fixedPoints := by decide +kernel
  have hiX3 : ∀ w ∈ u_ws RX3 TX3 4, w ∈ wsX2_fixedPoints := by decide +kernel
  have hl := lv_entry ([.ref (bd 0)]) (n := 3) (Nat.le_of_ble_eq_true rfl)
  rw [lg_entry_eq]
  generalize (lg_sl ([.ref (bd 0)]) ++ List.replicate (3 - (lg_sl ([.ref (bd 0)])).length) Slot.unset).toArray = ls at hl ⊢
  have hl : lv_has ls 3 [(0, .ref (bd 0))] := hl
  have hq2 := qs_le hF.1
  have hn2 := nn_le hF.1
  refine lv_iconst (v := nI 0) hx hb dX2_fixedPoints_0 (by decide) ?_
  refine lv_istore_n (lv' := [(1, .int (nI 0)), (0, .ref (bd 0))]) hx hb dX2_fixedPoints_1 rfl hl (by decide) rfl (fun ls hl => ?_)
  refine lv_iconst (v := nI 0) hx hb dX2_fixedPoints_2 (by decide) ?_
  refine lv_istore_n (lv' := [(2, .int (nI 0)), (1, .int (nI 0)), (0, .ref (bd 0))]) hx hb dX2_fixedPoints_3 rfl hl (by decide) rfl (fun ls hl => ?_)
  have L4 : ∀ (N4 : Nat) (i : Nat) (x : Nat) (ls : Array Slot), nn q - i < N4 → (i ≤ nn q) → (x = cnt (fun t => decide (imgZ q mm t = nI t)) i) → lv_has ls 3 [(0, .ref (bd 0)), (1, .int (nI x)), (2, .int (nI i))] → WR p l e wsX2_fixedPoints { frames := 3, cells := 0, slots := 0, locals := 67 } s m [.ref (bd 0)] below meth c (.int (nI (fixq q mm))) 4 ls [] := by
    intro N4
    induction N4 with
    | zero => intro i x ls hN; exact absurd hN (Nat.not_lt_zero _)
    | succ N4 ih4 =>
      intro i x ls hN4 k_i k_x hl
      have hc := cnt_le (fun t => decide (imgZ q mm t = nI t)) i
      refine lv_iload_n hx hb dX2_fixedPoints_4 rfl (lv_at hl 2 rfl) ?_
      refine lv_aload_n hx hb dX2_fixedPoints_5 rfl (lv_at hl 0 rfl) ?_
      refine va_get (D := D) (ci := 2) (v := .ref (ad 5)) (C := RX2) (T := TX2) (N := 5) hx hb hts hiX2 hown hK hP 8 rfl rfl 0 (by decide) hf22 (fun _ h9 => h9) rfl dX2_fixedPoints_6 ?_
      refine va_getN (D := D) (ci := 3) (v := .int (nI (nn q))) (C := RX3) (T := TX3) (N := 4) hx hb hts hiX3 hown hK hP 5 rfl rfl 1 (by decide) hf66 (fun _ h9 => h9) rfl dX2_fixedPoints_9 ?_
      refine nv_icmp_ge (tgt := 33) hx hb (by omega) (by omega) dX2_fixedPoints_12 (by decide) (fun c12 => ?_) (fun c12 => ?_)
      · refine lv_iload_n hx hb dX2_fixedPoints_33 rfl (lv_at hl 1 rfl) ?_
        exact ctR_ret (v := (nI x)) hx hb hr rfl dX2_fixedPoints_34 hlocks (by rw [k_x, show i = nn q by omega]; rfl)
      · refine lv_aload_n hx hb dX2_fixedPoints_15 rfl (lv_at hl 0 rfl) ?_
        refine lv_iload_n hx hb dX2_fixedPoints_16 rfl (lv_at hl 2 rfl) ?_
        refine ctR_V (As := [.int (nI i)]) (rest := []) (r := .int (imgZ q mm i)) ⟨hx, hb, hml, hown, hts⟩ (c_X2_goesTo l D cI cZ ad q sm pr op iv hF tr ro hT bd mm me rc k_m i (by omega)) (cwV 1 hts gX2_fixedPoints_X2_goesTo rfl rfl rfl hdV_X2_goesTo ⟨Nat.le_of_ble_eq_true rfl, Nat.le_of_ble_eq_true rfl⟩) hK hN hP [0, 1, 2, 3, 4, 5, 6, 7, 8, 9, 10, 11] rfl 8 2 rfl rfl rfl hl.1 rfl (Nat.le_of_ble_eq_true rfl) ⟨Nat.zero_le _, Nat.zero_le _⟩ dX2_fixedPoints_17 ?_
        refine lv_iload_n hx hb dX2_fixedPoints_20 rfl (lv_at hl 2 rfl) ?_
        refine lv_icmp_ne (tgt := 27) hx hb dX2_fixedPoints_21 (by decide) (fun c21 => ?_) (fun c21 => ?_)
        · refine lv_iinc (v := nI (i + 1)) (lv' := [(2, .int (nI (i + 1))), (0, .ref (bd 0)), (1, .int (nI x))]) hx hb dX2_fixedPoints_27 hl (k := 2) rfl (nI_inc i) (by decide) rfl (fun ls hl => ?_)
          refine lv_goto (tgt := 4) hx hb dX2_fixedPoints_30 (by decide) ?_
          exact ih4 (i + 1) x ls (by omega) (by omega) (by rw [cnt, decide_eq_false c21, k_x]; rfl) (lv_sub hl [1, 2, 0] rfl)
        · refine lv_iinc (v := nI (x + 1)) (lv' := [(1, .int (nI (x + 1))), (0, .ref (bd 0)), (2, .int (nI i))]) hx hb dX2_fixedPoints_24 hl (k := 1) rfl (nI_inc x) (by decide) rfl (fun ls hl => ?_)
          refine lv_iinc (v := nI (i + 1)) (lv' := [(2, .int (nI (i + 1))), (1, .int (nI (x + 1))), (0, .ref (bd 0))]) hx hb dX2_fixedPoints_27 hl (k := 2) rfl (nI_inc i) (by decide) rfl (fun ls hl => ?_)
          refine lv_goto (tgt := 4) hx hb dX2_fixedPoints_30 (by decide) ?_
          exact ih4 (i + 1) (x + 1) ls (by omega) (by omega) (by rw [cnt, decide_eq_true c21, k_x]; rfl) (lv_sub hl [2, 1, 0] rfl)
  exact L4 (nn q - 0 + 1) 0 0 ls (by omega) (Nat.zero_le _) rfl (lv_sub hl [2, 1, 0] rfl)

set_option maxHeartbeats 4000000 in
set_option maxRecDepth 100000 in
theorem c_X2_period (l : Launch) (D : va_G) (cI cZ : ClassId) (ad : Nat → Nat) (q : Nat) (sm : Nat → Nat) (pr : Nat → Nat) (op : Nat → Nat) (iv : Nat → Nat) (hF : FOK q sm pr op iv) (tr : Nat → Nat) (ro : Nat → Nat) (hT : TOK q tr) (bd : Nat → Nat) (mm : Nat → Nat) (me : Nat → Nat) (rc : Nat → Bool) (k_m : MPK q mm) (N : Nat) (k_1 : 0 < N) (k_2 : N ≤ nn q) (k_3 : FXq q mm N) (k_4 : ∀ k, 0 < k → k < N → ¬ FXq q mm k) (k_5 : ∀ t, t < nn q → imgZ q mm t = nI (imq q mm t) ∧ imq q mm t < nn q) : CtR l yX2_period wsX2_period { frames := 3, cells := 0, slots := 0, locals := 67 } D (tyG cI cZ) [.ref (bd 0)] [(ad 0, .inr (1, [.int (nI q), .ref (ad 1), .ref (ad 2), .ref (ad 3), .ref (ad 4)])), (ad 1, .inl (cI, 81, .inl (nF sm))), (ad 2, .inl (cI, 81, .inl (nF pr))), (ad 3, .inl (cI, 9, .inl (nF op))), (ad 4, .inl (cI, 9, .inl (nF iv))), (ad 5, .inr (3, [.ref (ad 0), .int (nI (nn q)), .ref (ad 6), .ref (ad 7)])), (ad 6, .inl (cI, 273, .inl (nF tr))), (ad 7, .inl (cI, 910, .inl (nF ro))), (bd 0, .inr (2, [.ref (ad 5), .ref (ad 0), .ref (bd 1), .ref (bd 2), .ref (bd 3)])), (bd 1, .inl (cI, 9, .inl (nF mm))), (bd 2, .inl (cI, 9, .inl (nF me))), (bd 3, .inl (cZ, 91, .inl (bF rc)))] (.int (nI N)) := by
  refine Met.ofW (cc := cX2_period) (maxL := 7) (ret := some .int) (by decide) rfl ?_
  intro p e s m args below meth c s₁ B hml hv
  obtain ⟨rfl, hP, hK, hN⟩ := hv
  have hx := B.exec
  have hb := B.bytes
  have hr := B.returns
  have hts := atoms_spec (ws := wsX2_period) B.pre
  have hown : s.vm.findClass RX2 = some m.cls := findClass_of_methodNamed B.named
  have hlocks := B.notSynchronized
  have hf22 := hts (.fieldLink RX2 22 "FinitePlanes$Mapping" "plane" "LFinitePlanes$Plane;") (by decide +kernel)
  have hf32 := hts (.fieldLink RX2 32 "FinitePlanes$Mapping" "field" "LFinitePlanes$Field;") (by decide +kernel)
  have hf62 := hN.use (w := .fieldLinkNest RX2 62 "FinitePlanes$Field" "q" "I" "FinitePlanes") (by decide +kernel) (A := [.ref (bd 0)].toArray)
  have hf66 := hN.use (w := .fieldLinkNest RX2 66 "FinitePlanes$Plane" "n" "I" "FinitePlanes") (by decide +kernel) (A := [.ref (bd 0)].toArray)
  have hiX1 : ∀ w ∈ u_ws RX1 TX1 5, w ∈ wsX2_period := by decide +kernel
  have hiX2 : ∀ w ∈ u_ws RX2 TX2 5, w ∈ wsX2_period := by decide +kernel
  have hiX3 : ∀ w ∈ u_ws RX3 TX3 4, w ∈ wsX2_period := by decide +kernel
  have hl := lv_entry ([.ref (bd 0)]) (n := 7) (Nat.le_of_ble_eq_true rfl)
  rw [lg_entry_eq]
  generalize (lg_sl ([.ref (bd 0)]) ++ List.replicate (7 - (lg_sl ([.ref (bd 0)])).length) Slot.unset).toArray = ls at hl ⊢
  have hl : lv_has ls 7 [(0, .ref (bd 0))] := hl
  have hq2 := qs_le hF.1
  have hn2 := nn_le hF.1
  have hlq := last_tab q hF.1
  refine lv_aload_n hx hb dX2_period_0 rfl (lv_at hl 0 rfl) ?_
  refine va_get (D := D) (ci := 2) (v := .ref (ad 5)) (C := RX2) (T := TX2) (N := 5) hx hb hts hiX2 hown hK hP 8 rfl rfl 0 (by decide) hf22 (fun _ h9 => h9) rfl dX2_period_1 ?_
  refine lv_iconst (v := nI 1) hx hb dX2_period_4 (by decide) ?_
  refine lv_iconst (v := nI 1) hx hb dX2_period_5 (by decide) ?_
  refine lv_iconst (v := nI 1) hx hb dX2_period_6 (by decide) ?_
  refine ctR_V (As := [.int (nI 1), .int (nI 1), .int (nI 1)]) (rest := []) (r := .int (nmZ q 1 1 1)) ⟨hx, hb, hml, hown, hts⟩ (c_X3_numberOf l D cI cZ ad q sm pr op iv hF tr ro hT 1 1 1 (by omega) (by omega) (by omega)) (cwV 3 hts gX2_period_X3_numberOf rfl rfl rfl hdV_X3_numberOf ⟨Nat.le_of_ble_eq_true rfl, Nat.le_of_ble_eq_true rfl⟩) hK hN hP [0, 1, 2, 3, 4, 5, 6, 7] rfl 5 3 rfl rfl rfl hl.1 rfl (Nat.le_of_ble_eq_true rfl) ⟨Nat.zero_le _, Nat.zero_le _⟩ dX2_period_7 ?_
  refine nv_top (v' := .int (nI (lastq q))) (congrArg Value.int (last_tab q hF.1).1) ?_
  refine lv_istore_n (lv' := [(1, .int (nI (lastq q))), (0, .ref (bd 0))]) hx hb dX2_period_10 rfl hl (by decide) rfl (fun ls hl => ?_)
  refine lv_iconst (v := nI 0) hx hb dX2_period_11 (by decide) ?_
  refine lv_istore_n (lv' := [(2, .int (nI 0)), (1, .int (nI (lastq q))), (0, .ref (bd 0))]) hx hb dX2_period_12 rfl hl (by decide) rfl (fun ls hl => ?_)
  refine lv_iconst (v := nI 1) hx hb dX2_period_13 (by decide) ?_
  refine lv_istore_n (lv' := [(3, .int (nI 1)), (2, .int (nI 0)), (1, .int (nI (lastq q))), (0, .ref (bd 0))]) hx hb dX2_period_14 rfl hl (by decide) rfl (fun ls hl => ?_)
  refine lv_iconst (v := nI 1) hx hb dX2_period_15 (by decide) ?_
  refine lv_aload_n hx hb dX2_period_16 rfl (lv_at hl 3 rfl) ?_
  refine va_get (D := D) (ci := 2) (v := .ref (ad 0)) (C := RX2) (T := TX2) (N := 5) hx hb hts hiX2 hown hK hP 8 rfl rfl 1 (by decide) hf32 (fun _ h9 => h9) rfl dX2_period_17 ?_
  refine va_getN (D := D) (ci := 1) (v := .int (nI q)) (C := RX1) (T := TX1) (N := 5) hx hb hts hiX1 hown hK hP 0 rfl rfl 0 (by decide) hf62 (fun _ h9 => h9) rfl dX2_period_20 ?_
  refine nv_addE (r := 1 + q) hx hb rfl dX2_period_23 ?_
  refine lv_istore (lv' := [(4, .int (nI (1 + q))), (3, .int (nI 1)), (2, .int (nI 0)), (1, .int (nI (lastq q))), (0, .ref (bd 0))]) hx hb dX2_period_24 hl (by decide) rfl (fun ls hl => ?_)
  refine lv_iload_n hx hb dX2_period_26 rfl (lv_at hl 3 rfl) ?_
  refine lv_istore (lv' := [(5, .int (nI (lastq q))), (4, .int (nI (1 + q))), (3, .int (nI 1)), (2, .int (nI 0)), (1, .int (nI (lastq q))), (0, .ref (bd 0))]) hx hb dX2_period_27 hl (by decide) rfl (fun ls hl => ?_)
  refine lv_iconst (v := nI 1) hx hb dX2_period_29 (by decide) ?_
  refine lv_istore (lv' := [(6, .int (nI 1)), (5, .int (nI (lastq q))), (4, .int (nI (1 + q))), (3, .int (nI 1)), (2, .int (nI 0)), (1, .int (nI (lastq q))), (0, .ref (bd 0))]) hx hb dX2_period_30 hl (by decide) rfl (fun ls hl => ?_)
  have L32 : ∀ (N32 : Nat) (a1 : Nat) (a2 : Nat) (a3 : Nat) (a4 : Nat) (u : Nat) (ls : Array Slot), N - u < N32 → (u < N) → (a1 = itI q mm u 0) → (a2 = itI q mm u 1) → (a3 = itI q mm u (1 + q)) → (a4 = itI q mm u (lastq q)) → (a1 < nn q) → (a2 < nn q) → (a3 < nn q) → (a4 < nn q) → lv_has ls 7 [(0, .ref (bd 0)), (1, .int (nI (lastq q))), (2, .int (nI a1)), (3, .int (nI a2)), (4, .int (nI a3)), (5, .int (nI a4)), (6, .int (nI (u + 1)))] → WR p l e wsX2_period { frames := 3, cells := 0, slots := 0, locals := 67 } s m [.ref (bd 0)] below meth c (.int (nI N)) 32 ls [] := by
    intro N32
    induction N32 with
    | zero => intro a1 a2 a3 a4 u ls hN; exact absurd hN (Nat.not_lt_zero _)
    | succ N32 ih32 =>
      intro a1 a2 a3 a4 u ls hN32 k_u e1 e2 e3 e4 b1 b2 b3 b4 hl
      refine lv_iload hx hb dX2_period_32 (lv_at hl 6 rfl) ?_
      refine lv_aload_n hx hb dX2_period_34 rfl (lv_at hl 0 rfl) ?_
      refine va_get (D := D) (ci := 2) (v := .ref (ad 5)) (C := RX2) (T := TX2) (N := 5) hx hb hts hiX2 hown hK hP 8 rfl rfl 0 (by decide) hf22 (fun _ h9 => h9) rfl dX2_period_35 ?_
      refine va_getN (D := D) (ci := 3) (v := .int (nI (nn q))) (C := RX3) (T := TX3) (N := 4) hx hb hts hiX3 hown hK hP 5 rfl rfl 1 (by decide) hf66 (fun _ h9 => h9) rfl dX2_period_38 ?_
      refine nv_icmp_gt (tgt := 129) hx hb (by omega) (by omega) dX2_period_41 (by decide) (fun c41 => absurd c41 (by omega)) (fun c41 => ?_)
      refine lv_aload_n hx hb dX2_period_44 rfl (lv_at hl 0 rfl) ?_
      refine lv_iload_n hx hb dX2_period_45 rfl (lv_at hl 2 rfl) ?_
      refine ctR_V (As := [.int (nI a1)]) (rest := []) (r := .int (imgZ q mm a1)) ⟨hx, hb, hml, hown, hts⟩ (c_X2_goesTo l D cI cZ ad q sm pr op iv hF tr ro hT bd mm me rc k_m a1 (by omega)) (cwV 1 hts gX2_period_X2_goesTo rfl rfl rfl hdV_X2_goesTo ⟨Nat.le_of_ble_eq_true rfl, Nat.le_of_ble_eq_true rfl⟩) hK hN hP [0, 1, 2, 3, 4, 5, 6, 7, 8, 9, 10, 11] rfl 8 2 rfl rfl rfl hl.1 rfl (Nat.le_of_ble_eq_true rfl) ⟨Nat.zero_le _, Nat.zero_le _⟩ dX2_period_46 ?_
      refine nv_top (v' := .int (nI (imq q mm a1))) (congrArg Value.int (k_5 a1 (by omega)).1) ?_
      refine lv_istore_n (lv' := [(2, .int (nI (imq q mm a1))), (0, .ref (bd 0)), (1, .int (nI (lastq q))), (3, .int (nI a2)), (4, .int (nI a3)), (5, .int (nI a4)), (6, .int (nI (u + 1)))]) hx hb dX2_period_49 rfl hl (by decide) rfl (fun ls hl => ?_)
      refine lv_aload_n hx hb dX2_period_50 rfl (lv_at hl 1 rfl) ?_
      refine lv_iload_n hx hb dX2_period_51 rfl (lv_at hl 3 rfl) ?_
      refine ctR_V (As := [.int (nI a2)]) (rest := []) (r := .int (imgZ q mm a2)) ⟨hx, hb, hml, hown, hts⟩ (c_X2_goesTo l D cI cZ ad q sm pr op iv hF tr ro hT bd mm me rc k_m a2 (by omega)) (cwV 1 hts gX2_period_X2_goesTo rfl rfl rfl hdV_X2_goesTo ⟨Nat.le_of_ble_eq_true rfl, Nat.le_of_ble_eq_true rfl⟩) hK hN hP [0, 1, 2, 3, 4, 5, 6, 7, 8, 9, 10, 11] rfl 8 2 rfl rfl rfl hl.1 rfl (Nat.le_of_ble_eq_true rfl) ⟨Nat.zero_le _, Nat.zero_le _⟩ dX2_period_52 ?_
      refine nv_top (v' := .int (nI (imq q mm a2))) (congrArg Value.int (k_5 a2 (by omega)).1) ?_
      refine lv_istore_n (lv' := [(3, .int (nI (imq q mm a2))), (2, .int (nI (imq q mm a1))), (0, .ref (bd 0)), (1, .int (nI (lastq q))), (4, .int (nI a3)), (5, .int (nI a4)), (6, .int (nI (u + 1)))]) hx hb dX2_period_55 rfl hl (by decide) rfl (fun ls hl => ?_)
      refine lv_aload_n hx hb dX2_period_56 rfl (lv_at hl 2 rfl) ?_
      refine lv_iload hx hb dX2_period_57 (lv_at hl 4 rfl) ?_
      refine ctR_V (As := [.int (nI a3)]) (rest := []) (r := .int (imgZ q mm a3)) ⟨hx, hb, hml, hown, hts⟩ (c_X2_goesTo l D cI cZ ad q sm pr op iv hF tr ro hT bd mm me rc k_m a3 (by omega)) (cwV 1 hts gX2_period_X2_goesTo rfl rfl rfl hdV_X2_goesTo ⟨Nat.le_of_ble_eq_true rfl, Nat.le_of_ble_eq_true rfl⟩) hK hN hP [0, 1, 2, 3, 4, 5, 6, 7, 8, 9, 10, 11] rfl 8 2 rfl rfl rfl hl.1 rfl (Nat.le_of_ble_eq_true rfl) ⟨Nat.zero_le _, Nat.zero_le _⟩ dX2_period_59 ?_
      refine nv_top (v' := .int (nI (imq q mm a3))) (congrArg Value.int (k_5 a3 (by omega)).1) ?_
      refine lv_istore (lv' := [(4, .int (nI (imq q mm a3))), (3, .int (nI (imq q mm a2))), (2, .int (nI (imq q mm a1))), (0, .ref (bd 0)), (1, .int (nI (lastq q))), (5, .int (nI a4)), (6, .int (nI (u + 1)))]) hx hb dX2_period_62 hl (by decide) rfl (fun ls hl => ?_)
      refine lv_aload_n hx hb dX2_period_64 rfl (lv_at hl 3 rfl) ?_
      refine lv_iload hx hb dX2_period_65 (lv_at hl 5 rfl) ?_
      refine ctR_V (As := [.int (nI a4)]) (rest := []) (r := .int (imgZ q mm a4)) ⟨hx, hb, hml, hown, hts⟩ (c_X2_goesTo l D cI cZ ad q sm pr op iv hF tr ro hT bd mm me rc k_m a4 (by omega)) (cwV 1 hts gX2_period_X2_goesTo rfl rfl rfl hdV_X2_goesTo ⟨Nat.le_of_ble_eq_true rfl, Nat.le_of_ble_eq_true rfl⟩) hK hN hP [0, 1, 2, 3, 4, 5, 6, 7, 8, 9, 10, 11] rfl 8 2 rfl rfl rfl hl.1 rfl (Nat.le_of_ble_eq_true rfl) ⟨Nat.zero_le _, Nat.zero_le _⟩ dX2_period_67 ?_
      refine nv_top (v' := .int (nI (imq q mm a4))) (congrArg Value.int (k_5 a4 (by omega)).1) ?_
      refine lv_istore (lv' := [(5, .int (nI (imq q mm a4))), (4, .int (nI (imq q mm a3))), (3, .int (nI (imq q mm a2))), (2, .int (nI (imq q mm a1))), (0, .ref (bd 0)), (1, .int (nI (lastq q))), (6, .int (nI (u + 1)))]) hx hb dX2_period_70 hl (by decide) rfl (fun ls hl => ?_)
      have z1 := (k_5 a1 (by omega)).2
      have z2 := (k_5 a2 (by omega)).2
      have z3 := (k_5 a3 (by omega)).2
      have z4 := (k_5 a4 (by omega)).2
      refine lv_iload_n hx hb dX2_period_72 rfl (lv_at hl 3 rfl) ?_
      refine nv_if_ne (tgt := 104) hx hb (by omega) dX2_period_73 (by decide) (fun c73 => ?_) (fun c73 => ?_)
      · refine lv_aload_n hx hb dX2_period_104 rfl (lv_at hl 4 rfl) ?_
        refine va_get (D := D) (ci := 2) (v := .ref (ad 5)) (C := RX2) (T := TX2) (N := 5) hx hb hts hiX2 hown hK hP 8 rfl rfl 0 (by decide) hf22 (fun _ h9 => h9) rfl dX2_period_105 ?_
        refine lv_iload_n hx hb dX2_period_108 rfl (lv_at hl 3 rfl) ?_
        refine lv_iload_n hx hb dX2_period_109 rfl (lv_at hl 2 rfl) ?_
        refine lv_iload hx hb dX2_period_110 (lv_at hl 1 rfl) ?_
        refine lv_iload hx hb dX2_period_112 (lv_at hl 0 rfl) ?_
        refine ctR_V (As := [.int (nI (imq q mm a1)), .int (nI (imq q mm a2)), .int (nI (imq q mm a3)), .int (nI (imq q mm a4))]) (rest := []) (r := .int (nI (inB (nI (imq q mm a1)) (nn q) && inB (nI (imq q mm a2)) (nn q) && inB (nI (imq q mm a3)) (nn q) && inB (nI (imq q mm a4)) (nn q)).toNat)) ⟨hx, hb, hml, hown, hts⟩ (c_X3_hasFour l D cI cZ ad q sm pr op iv hF tr ro hT (nI (imq q mm a1)) (nI (imq q mm a2)) (nI (imq q mm a3)) (nI (imq q mm a4))) (cwV 4 hts gX2_period_X3_hasFour rfl rfl rfl hdV_X3_hasFour ⟨Nat.le_of_ble_eq_true rfl, Nat.le_of_ble_eq_true rfl⟩) hK hN hP [0, 1, 2, 3, 4, 5, 6, 7] rfl 5 3 rfl rfl rfl hl.1 rfl (Nat.le_of_ble_eq_true rfl) ⟨Nat.zero_le _, Nat.zero_le _⟩ dX2_period_114 ?_
        refine nv_ifb_ne (tgt := 123) hx hb dX2_period_117 (by decide) (fun c117 => ?_) (fun c117 => absurd c117 (four_in z1 z2 z3 z4 (by omega)))
        refine lv_iinc (v := nI (u + 1 + 1)) (lv' := [(6, .int (nI (u + 1 + 1))), (5, .int (nI (imq q mm a4))), (4, .int (nI (imq q mm a3))), (3, .int (nI (imq q mm a2))), (2, .int (nI (imq q mm a1))), (0, .ref (bd 0)), (1, .int (nI (lastq q)))]) hx hb dX2_period_123 hl (k := 6) rfl (nI_inc (u + 1)) (by decide) rfl (fun ls hl => ?_)
        refine lv_goto (tgt := 32) hx hb dX2_period_126 (by decide) ?_
        exact ih32 (imq q mm a1) (imq q mm a2) (imq q mm a3) (imq q mm a4) (u + 1) ls (by omega) (per_go k_3 k_u (fun z => c73 (by rw [e1]; exact z.1))) (by rw [itI, ← e1]) (by rw [itI, ← e2]) (by rw [itI, ← e3]) (by rw [itI, ← e4]) z1 z2 z3 z4 (lv_sub hl [5, 6, 4, 3, 2, 1, 0] rfl)
      · refine lv_iload_n hx hb dX2_period_76 rfl (lv_at hl 2 rfl) ?_
        refine lv_iconst (v := nI 1) hx hb dX2_period_77 (by decide) ?_
        refine nv_icmp_ne (tgt := 104) hx hb (by omega) (by decide) dX2_period_78 (by decide) (fun c78 => ?_) (fun c78 => ?_)
        · refine lv_aload_n hx hb dX2_period_104 rfl (lv_at hl 4 rfl) ?_
          refine va_get (D := D) (ci := 2) (v := .ref (ad 5)) (C := RX2) (T := TX2) (N := 5) hx hb hts hiX2 hown hK hP 8 rfl rfl 0 (by decide) hf22 (fun _ h9 => h9) rfl dX2_period_105 ?_
          refine lv_iload_n hx hb dX2_period_108 rfl (lv_at hl 3 rfl) ?_
          refine lv_iload_n hx hb dX2_period_109 rfl (lv_at hl 2 rfl) ?_
          refine lv_iload hx hb dX2_period_110 (lv_at hl 1 rfl) ?_
          refine lv_iload hx hb dX2_period_112 (lv_at hl 0 rfl) ?_
          refine ctR_V (As := [.int (nI (imq q mm a1)), .int (nI (imq q mm a2)), .int (nI (imq q mm a3)), .int (nI (imq q mm a4))]) (rest := []) (r := .int (nI (inB (nI (imq q mm a1)) (nn q) && inB (nI (imq q mm a2)) (nn q) && inB (nI (imq q mm a3)) (nn q) && inB (nI (imq q mm a4)) (nn q)).toNat)) ⟨hx, hb, hml, hown, hts⟩ (c_X3_hasFour l D cI cZ ad q sm pr op iv hF tr ro hT (nI (imq q mm a1)) (nI (imq q mm a2)) (nI (imq q mm a3)) (nI (imq q mm a4))) (cwV 4 hts gX2_period_X3_hasFour rfl rfl rfl hdV_X3_hasFour ⟨Nat.le_of_ble_eq_true rfl, Nat.le_of_ble_eq_true rfl⟩) hK hN hP [0, 1, 2, 3, 4, 5, 6, 7] rfl 5 3 rfl rfl rfl hl.1 rfl (Nat.le_of_ble_eq_true rfl) ⟨Nat.zero_le _, Nat.zero_le _⟩ dX2_period_114 ?_
          refine nv_ifb_ne (tgt := 123) hx hb dX2_period_117 (by decide) (fun c117 => ?_) (fun c117 => absurd c117 (four_in z1 z2 z3 z4 (by omega)))
          refine lv_iinc (v := nI (u + 1 + 1)) (lv' := [(6, .int (nI (u + 1 + 1))), (5, .int (nI (imq q mm a4))), (4, .int (nI (imq q mm a3))), (3, .int (nI (imq q mm a2))), (2, .int (nI (imq q mm a1))), (0, .ref (bd 0)), (1, .int (nI (lastq q)))]) hx hb dX2_period_123 hl (k := 6) rfl (nI_inc (u + 1)) (by decide) rfl (fun ls hl => ?_)
          refine lv_goto (tgt := 32) hx hb dX2_period_126 (by decide) ?_
          exact ih32 (imq q mm a1) (imq q mm a2) (imq q mm a3) (imq q mm a4) (u + 1) ls (by omega) (per_go k_3 k_u (fun z => c78 (by rw [e2]; exact z.2.1))) (by rw [itI, ← e1]) (by rw [itI, ← e2]) (by rw [itI, ← e3]) (by rw [itI, ← e4]) z1 z2 z3 z4 (lv_sub hl [5, 6, 4, 3, 2, 1, 0] rfl)
        · refine lv_iload hx hb dX2_period_81 (lv_at hl 1 rfl) ?_
          refine lv_iconst (v := nI 1) hx hb dX2_period_83 (by decide) ?_
          refine lv_aload_n hx hb dX2_period_84 rfl (lv_at hl 4 rfl) ?_
          refine va_get (D := D) (ci := 2) (v := .ref (ad 0)) (C := RX2) (T := TX2) (N := 5) hx hb hts hiX2 hown hK hP 8 rfl rfl 1 (by decide) hf32 (fun _ h9 => h9) rfl dX2_period_85 ?_
          refine va_getN (D := D) (ci := 1) (v := .int (nI q)) (C := RX1) (T := TX1) (N := 5) hx hb hts hiX1 hown hK hP 0 rfl rfl 0 (by decide) hf62 (fun _ h9 => h9) rfl dX2_period_88 ?_
          refine nv_addE (r := 1 + q) hx hb rfl dX2_period_91 ?_
          refine nv_icmp_ne (tgt := 104) hx hb (by omega) (by omega) dX2_period_92 (by decide) (fun c92 => ?_) (fun c92 => ?_)
          · refine lv_aload_n hx hb dX2_period_104 rfl (lv_at hl 4 rfl) ?_
            refine va_get (D := D) (ci := 2) (v := .ref (ad 5)) (C := RX2) (T := TX2) (N := 5) hx hb hts hiX2 hown hK hP 8 rfl rfl 0 (by decide) hf22 (fun _ h9 => h9) rfl dX2_period_105 ?_
            refine lv_iload_n hx hb dX2_period_108 rfl (lv_at hl 3 rfl) ?_
            refine lv_iload_n hx hb dX2_period_109 rfl (lv_at hl 2 rfl) ?_
            refine lv_iload hx hb dX2_period_110 (lv_at hl 1 rfl) ?_
            refine lv_iload hx hb dX2_period_112 (lv_at hl 0 rfl) ?_
            refine ctR_V (As := [.int (nI (imq q mm a1)), .int (nI (imq q mm a2)), .int (nI (imq q mm a3)), .int (nI (imq q mm a4))]) (rest := []) (r := .int (nI (inB (nI (imq q mm a1)) (nn q) && inB (nI (imq q mm a2)) (nn q) && inB (nI (imq q mm a3)) (nn q) && inB (nI (imq q mm a4)) (nn q)).toNat)) ⟨hx, hb, hml, hown, hts⟩ (c_X3_hasFour l D cI cZ ad q sm pr op iv hF tr ro hT (nI (imq q mm a1)) (nI (imq q mm a2)) (nI (imq q mm a3)) (nI (imq q mm a4))) (cwV 4 hts gX2_period_X3_hasFour rfl rfl rfl hdV_X3_hasFour ⟨Nat.le_of_ble_eq_true rfl, Nat.le_of_ble_eq_true rfl⟩) hK hN hP [0, 1, 2, 3, 4, 5, 6, 7] rfl 5 3 rfl rfl rfl hl.1 rfl (Nat.le_of_ble_eq_true rfl) ⟨Nat.zero_le _, Nat.zero_le _⟩ dX2_period_114 ?_
            refine nv_ifb_ne (tgt := 123) hx hb dX2_period_117 (by decide) (fun c117 => ?_) (fun c117 => absurd c117 (four_in z1 z2 z3 z4 (by omega)))
            refine lv_iinc (v := nI (u + 1 + 1)) (lv' := [(6, .int (nI (u + 1 + 1))), (5, .int (nI (imq q mm a4))), (4, .int (nI (imq q mm a3))), (3, .int (nI (imq q mm a2))), (2, .int (nI (imq q mm a1))), (0, .ref (bd 0)), (1, .int (nI (lastq q)))]) hx hb dX2_period_123 hl (k := 6) rfl (nI_inc (u + 1)) (by decide) rfl (fun ls hl => ?_)
            refine lv_goto (tgt := 32) hx hb dX2_period_126 (by decide) ?_
            exact ih32 (imq q mm a1) (imq q mm a2) (imq q mm a3) (imq q mm a4) (u + 1) ls (by omega) (per_go k_3 k_u (fun z => c92 (by rw [e3]; exact z.2.2.1))) (by rw [itI, ← e1]) (by rw [itI, ← e2]) (by rw [itI, ← e3]) (by rw [itI, ← e4]) z1 z2 z3 z4 (lv_sub hl [5, 6, 4, 3, 2, 1, 0] rfl)
          · refine lv_iload hx hb dX2_period_95 (lv_at hl 0 rfl) ?_
            refine lv_iload_n hx hb dX2_period_97 rfl (lv_at hl 5 rfl) ?_
            refine nv_icmp_ne (tgt := 104) hx hb (by omega) (by omega) dX2_period_98 (by decide) (fun c98 => ?_) (fun c98 => ?_)
            · refine lv_aload_n hx hb dX2_period_104 rfl (lv_at hl 4 rfl) ?_
              refine va_get (D := D) (ci := 2) (v := .ref (ad 5)) (C := RX2) (T := TX2) (N := 5) hx hb hts hiX2 hown hK hP 8 rfl rfl 0 (by decide) hf22 (fun _ h9 => h9) rfl dX2_period_105 ?_
              refine lv_iload_n hx hb dX2_period_108 rfl (lv_at hl 3 rfl) ?_
              refine lv_iload_n hx hb dX2_period_109 rfl (lv_at hl 2 rfl) ?_
              refine lv_iload hx hb dX2_period_110 (lv_at hl 1 rfl) ?_
              refine lv_iload hx hb dX2_period_112 (lv_at hl 0 rfl) ?_
              refine ctR_V (As := [.int (nI (imq q mm a1)), .int (nI (imq q mm a2)), .int (nI (imq q mm a3)), .int (nI (imq q mm a4))]) (rest := []) (r := .int (nI (inB (nI (imq q mm a1)) (nn q) && inB (nI (imq q mm a2)) (nn q) && inB (nI (imq q mm a3)) (nn q) && inB (nI (imq q mm a4)) (nn q)).toNat)) ⟨hx, hb, hml, hown, hts⟩ (c_X3_hasFour l D cI cZ ad q sm pr op iv hF tr ro hT (nI (imq q mm a1)) (nI (imq q mm a2)) (nI (imq q mm a3)) (nI (imq q mm a4))) (cwV 4 hts gX2_period_X3_hasFour rfl rfl rfl hdV_X3_hasFour ⟨Nat.le_of_ble_eq_true rfl, Nat.le_of_ble_eq_true rfl⟩) hK hN hP [0, 1, 2, 3, 4, 5, 6, 7] rfl 5 3 rfl rfl rfl hl.1 rfl (Nat.le_of_ble_eq_true rfl) ⟨Nat.zero_le _, Nat.zero_le _⟩ dX2_period_114 ?_
              refine nv_ifb_ne (tgt := 123) hx hb dX2_period_117 (by decide) (fun c117 => ?_) (fun c117 => absurd c117 (four_in z1 z2 z3 z4 (by omega)))
              refine lv_iinc (v := nI (u + 1 + 1)) (lv' := [(6, .int (nI (u + 1 + 1))), (5, .int (nI (imq q mm a4))), (4, .int (nI (imq q mm a3))), (3, .int (nI (imq q mm a2))), (2, .int (nI (imq q mm a1))), (0, .ref (bd 0)), (1, .int (nI (lastq q)))]) hx hb dX2_period_123 hl (k := 6) rfl (nI_inc (u + 1)) (by decide) rfl (fun ls hl => ?_)
              refine lv_goto (tgt := 32) hx hb dX2_period_126 (by decide) ?_
              exact ih32 (imq q mm a1) (imq q mm a2) (imq q mm a3) (imq q mm a4) (u + 1) ls (by omega) (per_go k_3 k_u (fun z => c98 (by rw [e4]; exact z.2.2.2))) (by rw [itI, ← e1]) (by rw [itI, ← e2]) (by rw [itI, ← e3]) (by rw [itI, ← e4]) z1 z2 z3 z4 (lv_sub hl [5, 6, 4, 3, 2, 1, 0] rfl)
            · refine lv_iload hx hb dX2_period_101 (lv_at hl 6 rfl) ?_
              exact ctR_ret (v := (nI (u + 1))) hx hb hr rfl dX2_period_103 hlocks (by rw [show u + 1 = N by exact per_end k_4 k_u (Nat.succ_pos u) ⟨by rw [itI, ← e1]; exact c73, by rw [itI, ← e2]; exact c78, by rw [itI, ← e3]; exact c92, by rw [itI, ← e4]; exact c98⟩])
  exact L32 (N - 0 + 1) 0 1 (1 + q) (lastq q) 0 ls (by omega) k_1 rfl rfl rfl rfl (by omega) (by omega) (by omega) (by omega) (lv_sub hl [6, 5, 4, 3, 2, 1, 0] rfl)

set_option maxHeartbeats 4000000 in
set_option maxRecDepth 100000 in
theorem c_X6_scaleToTold_9 (l : Launch) (D : va_G) (cI cZ : ClassId) (ad : Nat → Nat) (q : Nat) (sm : Nat → Nat) (pr : Nat → Nat) (op : Nat → Nat) (iv : Nat → Nat) (hF : FOK q sm pr op iv) (aN : Nat) (nb : Nat → Nat) (k_n : ∀ t, t < 9 → nb t < q) : CtW (S := (Nat → Nat)) l yX6_scaleToTold wsX6_scaleToTold { frames := 1, cells := 0, slots := 0, locals := 22 } D (tyG cI cZ) [.ref (ad 0), .ref aN] [(ad 0, .inr (1, [.int (nI q), .ref (ad 1), .ref (ad 2), .ref (ad 3), .ref (ad 4)])), (ad 1, .inl (cI, 81, .inl (nF sm))), (ad 2, .inl (cI, 81, .inl (nF pr))), (ad 3, .inl (cI, 9, .inl (nF op))), (ad 4, .inl (cI, 9, .inl (nF iv))), (aN, .inl (cI, 9, .inl (nF nb)))] (fun (nb3 : Nat → Nat) => ∀ t, t < 9 → nb3 t = tldq q nb t) (fun (nb3 : Nat → Nat) => none) (fun (nb3 : Nat → Nat) => [(ad 0, .inr (1, [.int (nI q), .ref (ad 1), .ref (ad 2), .ref (ad 3), .ref (ad 4)])), (ad 1, .inl (cI, 81, .inl (nF sm))), (ad 2, .inl (cI, 81, .inl (nF pr))), (ad 3, .inl (cI, 9, .inl (nF op))), (ad 4, .inl (cI, 9, .inl (nF iv))), (aN, .inl (cI, 9, .inl (nF nb3)))]) := by
  intro sz; refine Met.ofW (cc := cX6_scaleToTold) (maxL := 4) (ret := none) (by decide) rfl ?_
  intro p e s m args below meth c s₁ B hml hv
  obtain ⟨rfl, hsz, hP, hK, hD0, hN⟩ := hv
  have hx := B.exec
  have hb := B.bytes
  have hr := B.returns
  have hts := atoms_spec (ws := wsX6_scaleToTold) B.pre
  have hown : s.vm.findClass RX6 = some m.cls := findClass_of_methodNamed B.named
  have hlocks := B.notSynchronized
  subst hsz
  have hD := hD0.self (sz := s.heap.size)
  generalize hAe : va_A [(ad 0, .inr (1, [.int (nI q), .ref (ad 1), .ref (ad 2), .ref (ad 3), .ref (ad 4)])), (ad 1, .inl (cI, 81, .inl (nF sm))), (ad 2, .inl (cI, 81, .inl (nF pr))), (ad 3, .inl (cI, 9, .inl (nF op))), (ad 4, .inl (cI, 9, .inl (nF iv))), (aN, .inl (cI, 9, .inl (nF nb)))] s.heap.size = A at hD ⊢
  have hA : ∀ q : Nat, s.heap.size ≤ q → A q := fun q h => by rw [← hAe]; exact Or.inr h
  have hS : va_S A s.heap s.heap [] := va_S.rf
  have hP : va_P D vwCl [(ad 0, .inr (1, [.int (nI q), .ref (ad 1), .ref (ad 2), .ref (ad 3), .ref (ad 4)])), (ad 1, .inl (cI, 81, .inl (nF sm))), (ad 2, .inl (cI, 81, .inl (nF pr))), (ad 3, .inl (cI, 9, .inl (nF op))), (ad 4, .inl (cI, 9, .inl (nF iv))), (aN, .inl (cI, 9, .inl (nF nb)))] s.heap := hP
  have hl := lv_entry ([.ref (ad 0), .ref aN]) (n := 4) (Nat.le_of_ble_eq_true rfl)
  rw [lg_entry_eq]
  generalize (lg_sl ([.ref (ad 0), .ref aN]) ++ List.replicate (4 - (lg_sl ([.ref (ad 0), .ref aN])).length) Slot.unset).toArray = ls at hl ⊢
  have hl : lv_has ls 4 [(0, .ref (ad 0)), (1, .ref aN)] := hl
  have hq2 := qs_le hF.1
  have hn2 := nn_le hF.1
  refine lv_iconst (v := nI 0) hx hb dX6_scaleToTold_0 (by decide) ?_
  refine lv_istore_n (lv' := [(2, .int (nI 0)), (0, .ref (ad 0)), (1, .ref aN)]) hx hb dX6_scaleToTold_1 rfl hl (by decide) rfl (fun ls hl => ?_)
  refine lv_iconst (v := nI 0) hx hb dX6_scaleToTold_2 (by decide) ?_
  refine lv_istore_n (lv' := [(3, .int (nI 0)), (2, .int (nI 0)), (0, .ref (ad 0)), (1, .ref aN)]) hx hb dX6_scaleToTold_3 rfl hl (by decide) rfl (fun ls hl => ?_)
  have L4 : ∀ (N4 : Nat) (x : Nat) (i : Nat) (n1 : Nat → Nat) (ls : Array Slot) (H : Heap) (locs : List Loc), 9 - i < N4 → (i ≤ 9) → (x = hdf nb i) → (∀ t, t < i → n1 t = tldq q nb t) → (∀ t, i ≤ t → n1 t = nb t) → lv_has ls 4 [(0, .ref (ad 0)), (1, .ref aN), (2, .int (nI x)), (3, .int (nI i))] → va_P D vwCl [(ad 0, .inr (1, [.int (nI q), .ref (ad 1), .ref (ad 2), .ref (ad 3), .ref (ad 4)])), (ad 1, .inl (cI, 81, .inl (nF sm))), (ad 2, .inl (cI, 81, .inl (nF pr))), (ad 3, .inl (cI, 9, .inl (nF op))), (ad 4, .inl (cI, 9, .inl (nF iv))), (aN, .inl (cI, 9, .inl (nF n1)))] H → va_D A [(ad 0, .inr (1, [.int (nI q), .ref (ad 1), .ref (ad 2), .ref (ad 3), .ref (ad 4)])), (ad 1, .inl (cI, 81, .inl (nF sm))), (ad 2, .inl (cI, 81, .inl (nF pr))), (ad 3, .inl (cI, 9, .inl (nF op))), (ad 4, .inl (cI, 9, .inl (nF iv))), (aN, .inl (cI, 9, .inl (nF n1)))] → va_S A s.heap H locs → WG p l e wsX6_scaleToTold { frames := 1, cells := 0, slots := 0, locals := 22 } s m [.ref (ad 0), .ref aN] below meth c H locs (CQ (S := (Nat → Nat)) D (fun (nb3 : Nat → Nat) => ∀ t, t < 9 → nb3 t = tldq q nb t) (fun (nb3 : Nat → Nat) => none) (fun (nb3 : Nat → Nat) => [(ad 0, .inr (1, [.int (nI q), .ref (ad 1), .ref (ad 2), .ref (ad 3), .ref (ad 4)])), (ad 1, .inl (cI, 81, .inl (nF sm))), (ad 2, .inl (cI, 81, .inl (nF pr))), (ad 3, .inl (cI, 9, .inl (nF op))), (ad 4, .inl (cI, 9, .inl (nF iv))), (aN, .inl (cI, 9, .inl (nF nb3)))]) A) A 4 ls [] := by
    intro N4
    induction N4 with
    | zero => intro x i n1 ls H locs hN; exact absurd hN (Nat.not_lt_zero _)
    | succ N4 ih4 =>
      intro x i n1 ls H locs hN4 k_i k_x k_d k_h hl hP hD hS
      have hx9 : x < q := by rw [k_x]; exact hdf_lt (by omega) (fun t ht => k_n t (by omega))
      have hc9 := k_h i (Nat.le_refl i)
      refine lv_iload_n hx hb dX6_scaleToTold_4 rfl (lv_at hl 3 rfl) ?_
      refine lv_aload_n hx hb dX6_scaleToTold_5 rfl (lv_at hl 1 rfl) ?_
      refine va_alen (v := nI 9) hx hb hK hP 5 0 rfl rfl rfl dX6_scaleToTold_6 ?_
      refine nv_icmp_ge (tgt := 39) hx hb (by omega) (by decide) dX6_scaleToTold_7 (by decide) (fun c7 => ?_) (fun c7 => ?_)
      · exact ctW_retV n1 hx hb hr dX6_scaleToTold_39 hlocks hS hP hD (fun t ht => k_d t (by omega)) rfl
      · have hn9 : n1 i < q := by rw [hc9]; exact k_n i (by omega)
        refine lv_iload_n hx hb dX6_scaleToTold_10 rfl (lv_at hl 2 rfl) ?_
        refine nv_if_ne (tgt := 18) hx hb (by omega) dX6_scaleToTold_11 (by decide) (fun c11 => ?_) (fun c11 => ?_)
        · refine lv_iload_n hx hb dX6_scaleToTold_18 rfl (lv_at hl 2 rfl) ?_
          refine nv_if_eq (tgt := 33) hx hb (by omega) dX6_scaleToTold_19 (by decide) (fun c19 => ?_) (fun c19 => ?_)
          · refine lv_iinc (v := nI (i + 1)) (lv' := [(3, .int (nI (i + 1))), (0, .ref (ad 0)), (1, .ref aN), (2, .int (nI x))]) hx hb dX6_scaleToTold_33 hl (k := 3) rfl (nI_inc i) (by decide) rfl (fun ls hl => ?_)
            refine lv_goto (tgt := 4) hx hb dX6_scaleToTold_36 (by decide) ?_
            exact ih4 x (i + 1) n1 ls _ _ (by omega) (by omega) (absurd c19 c11) (absurd c19 c11) (absurd c19 c11) (lv_sub hl [1, 2, 3, 0] rfl) hP hD hS
          · refine lv_aload_n hx hb dX6_scaleToTold_22 rfl (lv_at hl 1 rfl) ?_
            refine lv_iload_n hx hb dX6_scaleToTold_23 rfl (lv_at hl 3 rfl) ?_
            refine lv_aload_n hx hb dX6_scaleToTold_24 rfl (lv_at hl 0 rfl) ?_
            refine lv_aload_n hx hb dX6_scaleToTold_25 rfl (lv_at hl 1 rfl) ?_
            refine lv_iload_n hx hb dX6_scaleToTold_26 rfl (lv_at hl 3 rfl) ?_
            refine nv_iald hx hb hK hP 5 0 rfl rfl (by omega) (by decide) dX6_scaleToTold_27 ?_
            refine lv_iload_n hx hb dX6_scaleToTold_28 rfl (lv_at hl 2 rfl) ?_
            refine ctR_V (As := [.int (nI (n1 i)), .int (nI x)]) (rest := [.int (nI i), .ref aN]) (r := .int (nI (fdiv q (n1 i) x))) ⟨hx, hb, hml, hown, hts⟩ (c_X1_over l D cI cZ ad q sm pr op iv hF (n1 i) x (by omega) (by omega) (by omega)) (cwV 2 hts gX6_scaleToTold_X1_over rfl rfl rfl hdV_X1_over ⟨Nat.le_of_ble_eq_true rfl, Nat.le_of_ble_eq_true rfl⟩) hK hN hP [0, 1, 2, 3, 4] rfl 0 1 rfl rfl rfl hl.1 rfl (Nat.le_of_ble_eq_true rfl) ⟨Nat.zero_le _, Nat.zero_le _⟩ dX6_scaleToTold_29 ?_
            have hh_1 : fdiv q (n1 i) x < q := fdiv_lt hF.1 (by omega) (by omega)
            refine nv_iast hx hb hK hP hD hS 5 0 rfl rfl (by omega) (by decide) dX6_scaleToTold_32 (fun H locs hP hD hS => ?_)
            have hP : va_P D vwCl [(ad 0, .inr (1, [.int (nI q), .ref (ad 1), .ref (ad 2), .ref (ad 3), .ref (ad 4)])), (ad 1, .inl (cI, 81, .inl (nF sm))), (ad 2, .inl (cI, 81, .inl (nF pr))), (ad 3, .inl (cI, 9, .inl (nF op))), (ad 4, .inl (cI, 9, .inl (nF iv))), (aN, .inl (cI, 9, .inl (nF (upN n1 i (fdiv q (n1 i) x)))))] H := hP
            have hD : va_D A [(ad 0, .inr (1, [.int (nI q), .ref (ad 1), .ref (ad 2), .ref (ad 3), .ref (ad 4)])), (ad 1, .inl (cI, 81, .inl (nF sm))), (ad 2, .inl (cI, 81, .inl (nF pr))), (ad 3, .inl (cI, 9, .inl (nF op))), (ad 4, .inl (cI, 9, .inl (nF iv))), (aN, .inl (cI, 9, .inl (nF (upN n1 i (fdiv q (n1 i) x)))))] := hD
            refine lv_iinc (v := nI (i + 1)) (lv' := [(3, .int (nI (i + 1))), (0, .ref (ad 0)), (1, .ref aN), (2, .int (nI x))]) hx hb dX6_scaleToTold_33 hl (k := 3) rfl (nI_inc i) (by decide) rfl (fun ls hl => ?_)
            refine lv_goto (tgt := 4) hx hb dX6_scaleToTold_36 (by decide) ?_
            exact ih4 x (i + 1) (upN n1 i (fdiv q (n1 i) x)) ls _ _ (by omega) (by omega) (by rw [hdf, ← k_x, if_neg c11]) (fun t ht => (Nat.lt_succ_iff_lt_or_eq.mp ht).elim (fun h => by rw [upN_n (by omega)]; exact k_d t h) (fun h => by rw [h, upN_s, tldq, hdf, ← k_x, if_neg c11, if_neg c11, hc9])) (fun t ht => by rw [upN_n (by omega)]; exact k_h t (by omega)) (lv_sub hl [1, 2, 3, 0] rfl) hP hD hS
        · refine lv_aload_n hx hb dX6_scaleToTold_14 rfl (lv_at hl 1 rfl) ?_
          refine lv_iload_n hx hb dX6_scaleToTold_15 rfl (lv_at hl 3 rfl) ?_
          refine nv_iald hx hb hK hP 5 0 rfl rfl (by omega) (by decide) dX6_scaleToTold_16 ?_
          refine lv_istore_n (lv' := [(2, .int (nI (n1 i))), (0, .ref (ad 0)), (1, .ref aN), (3, .int (nI i))]) hx hb dX6_scaleToTold_17 rfl hl (by decide) rfl (fun ls hl => ?_)
          refine lv_iload_n hx hb dX6_scaleToTold_18 rfl (lv_at hl 0 rfl) ?_
          refine nv_if_eq (tgt := 33) hx hb (by omega) dX6_scaleToTold_19 (by decide) (fun c19 => ?_) (fun c19 => ?_)
          · refine lv_iinc (v := nI (i + 1)) (lv' := [(3, .int (nI (i + 1))), (2, .int (nI (n1 i))), (0, .ref (ad 0)), (1, .ref aN)]) hx hb dX6_scaleToTold_33 hl (k := 3) rfl (nI_inc i) (by decide) rfl (fun ls hl => ?_)
            refine lv_goto (tgt := 4) hx hb dX6_scaleToTold_36 (by decide) ?_
            exact ih4 (n1 i) (i + 1) n1 ls _ _ (by omega) (by omega) (by rw [hdf, ← k_x, if_pos c11, hc9]) (fun t ht => (Nat.lt_succ_iff_lt_or_eq.mp ht).elim (k_d t) (fun h => by rw [h, tldq, hdf, ← k_x, if_pos c11, ← hc9, if_pos c19])) (fun t ht => k_h t (by omega)) (lv_sub hl [2, 3, 1, 0] rfl) hP hD hS
          · refine lv_aload_n hx hb dX6_scaleToTold_22 rfl (lv_at hl 2 rfl) ?_
            refine lv_iload_n hx hb dX6_scaleToTold_23 rfl (lv_at hl 3 rfl) ?_
            refine lv_aload_n hx hb dX6_scaleToTold_24 rfl (lv_at hl 1 rfl) ?_
            refine lv_aload_n hx hb dX6_scaleToTold_25 rfl (lv_at hl 2 rfl) ?_
            refine lv_iload_n hx hb dX6_scaleToTold_26 rfl (lv_at hl 3 rfl) ?_
            refine nv_iald hx hb hK hP 5 0 rfl rfl (by omega) (by decide) dX6_scaleToTold_27 ?_
            refine lv_iload_n hx hb dX6_scaleToTold_28 rfl (lv_at hl 0 rfl) ?_
            refine ctR_V (As := [.int (nI (n1 i)), .int (nI (n1 i))]) (rest := [.int (nI i), .ref aN]) (r := .int (nI (fdiv q (n1 i) (n1 i)))) ⟨hx, hb, hml, hown, hts⟩ (c_X1_over l D cI cZ ad q sm pr op iv hF (n1 i) (n1 i) (by omega) (by omega) (by omega)) (cwV 2 hts gX6_scaleToTold_X1_over rfl rfl rfl hdV_X1_over ⟨Nat.le_of_ble_eq_true rfl, Nat.le_of_ble_eq_true rfl⟩) hK hN hP [0, 1, 2, 3, 4] rfl 0 1 rfl rfl rfl hl.1 rfl (Nat.le_of_ble_eq_true rfl) ⟨Nat.zero_le _, Nat.zero_le _⟩ dX6_scaleToTold_29 ?_
            have hh_2 : fdiv q (n1 i) (n1 i) < q := fdiv_lt hF.1 (by omega) (by omega)
            refine nv_iast hx hb hK hP hD hS 5 0 rfl rfl (by omega) (by decide) dX6_scaleToTold_32 (fun H locs hP hD hS => ?_)
            have hP : va_P D vwCl [(ad 0, .inr (1, [.int (nI q), .ref (ad 1), .ref (ad 2), .ref (ad 3), .ref (ad 4)])), (ad 1, .inl (cI, 81, .inl (nF sm))), (ad 2, .inl (cI, 81, .inl (nF pr))), (ad 3, .inl (cI, 9, .inl (nF op))), (ad 4, .inl (cI, 9, .inl (nF iv))), (aN, .inl (cI, 9, .inl (nF (upN n1 i (fdiv q (n1 i) (n1 i))))))] H := hP
            have hD : va_D A [(ad 0, .inr (1, [.int (nI q), .ref (ad 1), .ref (ad 2), .ref (ad 3), .ref (ad 4)])), (ad 1, .inl (cI, 81, .inl (nF sm))), (ad 2, .inl (cI, 81, .inl (nF pr))), (ad 3, .inl (cI, 9, .inl (nF op))), (ad 4, .inl (cI, 9, .inl (nF iv))), (aN, .inl (cI, 9, .inl (nF (upN n1 i (fdiv q (n1 i) (n1 i))))))] := hD
            refine lv_iinc (v := nI (i + 1)) (lv' := [(3, .int (nI (i + 1))), (2, .int (nI (n1 i))), (0, .ref (ad 0)), (1, .ref aN)]) hx hb dX6_scaleToTold_33 hl (k := 3) rfl (nI_inc i) (by decide) rfl (fun ls hl => ?_)
            refine lv_goto (tgt := 4) hx hb dX6_scaleToTold_36 (by decide) ?_
            exact ih4 (n1 i) (i + 1) (upN n1 i (fdiv q (n1 i) (n1 i))) ls _ _ (by omega) (by omega) (by rw [hdf, ← k_x, if_pos c11, hc9]) (fun t ht => (Nat.lt_succ_iff_lt_or_eq.mp ht).elim (fun h => by rw [upN_n (by omega)]; exact k_d t h) (fun h => by rw [h, upN_s, tldq, hdf, ← k_x, if_pos c11, ← hc9, if_neg c19])) (fun t ht => by rw [upN_n (by omega)]; exact k_h t (by omega)) (lv_sub hl [2, 3, 1, 0] rfl) hP hD hS
  exact L4 (9 - 0 + 1) 0 0 nb ls _ _ (by omega) (Nat.zero_le _) rfl (fun t h => absurd h (Nat.not_lt_zero t)) (fun _ _ => rfl) (lv_sub hl [2, 3, 1, 0] rfl) hP hD hS

set_option maxHeartbeats 4000000 in
set_option maxRecDepth 100000 in
theorem c_X6_scaleToTold_6 (l : Launch) (D : va_G) (cI cZ : ClassId) (ad : Nat → Nat) (q : Nat) (sm : Nat → Nat) (pr : Nat → Nat) (op : Nat → Nat) (iv : Nat → Nat) (hF : FOK q sm pr op iv) (aN : Nat) (nb : Nat → Nat) (k_n : ∀ t, t < 6 → nb t < q) : CtW (S := (Nat → Nat)) l yX6_scaleToTold wsX6_scaleToTold { frames := 1, cells := 0, slots := 0, locals := 22 } D (tyG cI cZ) [.ref (ad 0), .ref aN] [(ad 0, .inr (1, [.int (nI q), .ref (ad 1), .ref (ad 2), .ref (ad 3), .ref (ad 4)])), (ad 1, .inl (cI, 81, .inl (nF sm))), (ad 2, .inl (cI, 81, .inl (nF pr))), (ad 3, .inl (cI, 9, .inl (nF op))), (ad 4, .inl (cI, 9, .inl (nF iv))), (aN, .inl (cI, 6, .inl (nF nb)))] (fun (nb3 : Nat → Nat) => ∀ t, t < 6 → nb3 t = tldq q nb t) (fun (nb3 : Nat → Nat) => none) (fun (nb3 : Nat → Nat) => [(ad 0, .inr (1, [.int (nI q), .ref (ad 1), .ref (ad 2), .ref (ad 3), .ref (ad 4)])), (ad 1, .inl (cI, 81, .inl (nF sm))), (ad 2, .inl (cI, 81, .inl (nF pr))), (ad 3, .inl (cI, 9, .inl (nF op))), (ad 4, .inl (cI, 9, .inl (nF iv))), (aN, .inl (cI, 6, .inl (nF nb3)))]) := by
  intro sz; refine Met.ofW (cc := cX6_scaleToTold) (maxL := 4) (ret := none) (by decide) rfl ?_
  intro p e s m args below meth c s₁ B hml hv
  obtain ⟨rfl, hsz, hP, hK, hD0, hN⟩ := hv
  have hx := B.exec
  have hb := B.bytes
  have hr := B.returns
  have hts := atoms_spec (ws := wsX6_scaleToTold) B.pre
  have hown : s.vm.findClass RX6 = some m.cls := findClass_of_methodNamed B.named
  have hlocks := B.notSynchronized
  subst hsz
  have hD := hD0.self (sz := s.heap.size)
  generalize hAe : va_A [(ad 0, .inr (1, [.int (nI q), .ref (ad 1), .ref (ad 2), .ref (ad 3), .ref (ad 4)])), (ad 1, .inl (cI, 81, .inl (nF sm))), (ad 2, .inl (cI, 81, .inl (nF pr))), (ad 3, .inl (cI, 9, .inl (nF op))), (ad 4, .inl (cI, 9, .inl (nF iv))), (aN, .inl (cI, 6, .inl (nF nb)))] s.heap.size = A at hD ⊢
  have hA : ∀ q : Nat, s.heap.size ≤ q → A q := fun q h => by rw [← hAe]; exact Or.inr h
  have hS : va_S A s.heap s.heap [] := va_S.rf
  have hP : va_P D vwCl [(ad 0, .inr (1, [.int (nI q), .ref (ad 1), .ref (ad 2), .ref (ad 3), .ref (ad 4)])), (ad 1, .inl (cI, 81, .inl (nF sm))), (ad 2, .inl (cI, 81, .inl (nF pr))), (ad 3, .inl (cI, 9, .inl (nF op))), (ad 4, .inl (cI, 9, .inl (nF iv))), (aN, .inl (cI, 6, .inl (nF nb)))] s.heap := hP
  have hl := lv_entry ([.ref (ad 0), .ref aN]) (n := 4) (Nat.le_of_ble_eq_true rfl)
  rw [lg_entry_eq]
  generalize (lg_sl ([.ref (ad 0), .ref aN]) ++ List.replicate (4 - (lg_sl ([.ref (ad 0), .ref aN])).length) Slot.unset).toArray = ls at hl ⊢
  have hl : lv_has ls 4 [(0, .ref (ad 0)), (1, .ref aN)] := hl
  have hq2 := qs_le hF.1
  have hn2 := nn_le hF.1
  refine lv_iconst (v := nI 0) hx hb dX6_scaleToTold_0 (by decide) ?_
  refine lv_istore_n (lv' := [(2, .int (nI 0)), (0, .ref (ad 0)), (1, .ref aN)]) hx hb dX6_scaleToTold_1 rfl hl (by decide) rfl (fun ls hl => ?_)
  refine lv_iconst (v := nI 0) hx hb dX6_scaleToTold_2 (by decide) ?_
  refine lv_istore_n (lv' := [(3, .int (nI 0)), (2, .int (nI 0)), (0, .ref (ad 0)), (1, .ref aN)]) hx hb dX6_scaleToTold_3 rfl hl (by decide) rfl (fun ls hl => ?_)
  have L4 : ∀ (N4 : Nat) (x : Nat) (i : Nat) (n1 : Nat → Nat) (ls : Array Slot) (H : Heap) (locs : List Loc), 6 - i < N4 → (i ≤ 6) → (x = hdf nb i) → (∀ t, t < i → n1 t = tldq q nb t) → (∀ t, i ≤ t → n1 t = nb t) → lv_has ls 4 [(0, .ref (ad 0)), (1, .ref aN), (2, .int (nI x)), (3, .int (nI i))] → va_P D vwCl [(ad 0, .inr (1, [.int (nI q), .ref (ad 1), .ref (ad 2), .ref (ad 3), .ref (ad 4)])), (ad 1, .inl (cI, 81, .inl (nF sm))), (ad 2, .inl (cI, 81, .inl (nF pr))), (ad 3, .inl (cI, 9, .inl (nF op))), (ad 4, .inl (cI, 9, .inl (nF iv))), (aN, .inl (cI, 6, .inl (nF n1)))] H → va_D A [(ad 0, .inr (1, [.int (nI q), .ref (ad 1), .ref (ad 2), .ref (ad 3), .ref (ad 4)])), (ad 1, .inl (cI, 81, .inl (nF sm))), (ad 2, .inl (cI, 81, .inl (nF pr))), (ad 3, .inl (cI, 9, .inl (nF op))), (ad 4, .inl (cI, 9, .inl (nF iv))), (aN, .inl (cI, 6, .inl (nF n1)))] → va_S A s.heap H locs → WG p l e wsX6_scaleToTold { frames := 1, cells := 0, slots := 0, locals := 22 } s m [.ref (ad 0), .ref aN] below meth c H locs (CQ (S := (Nat → Nat)) D (fun (nb3 : Nat → Nat) => ∀ t, t < 6 → nb3 t = tldq q nb t) (fun (nb3 : Nat → Nat) => none) (fun (nb3 : Nat → Nat) => [(ad 0, .inr (1, [.int (nI q), .ref (ad 1), .ref (ad 2), .ref (ad 3), .ref (ad 4)])), (ad 1, .inl (cI, 81, .inl (nF sm))), (ad 2, .inl (cI, 81, .inl (nF pr))), (ad 3, .inl (cI, 9, .inl (nF op))), (ad 4, .inl (cI, 9, .inl (nF iv))), (aN, .inl (cI, 6, .inl (nF nb3)))]) A) A 4 ls [] := by
    intro N4
    induction N4 with
    | zero => intro x i n1 ls H locs hN; exact absurd hN (Nat.not_lt_zero _)
    | succ N4 ih4 =>
      intro x i n1 ls H locs hN4 k_i k_x k_d k_h hl hP hD hS
      have hx9 : x < q := by rw [k_x]; exact hdf_lt (by omega) (fun t ht => k_n t (by omega))
      have hc9 := k_h i (Nat.le_refl i)
      refine lv_iload_n hx hb dX6_scaleToTold_4 rfl (lv_at hl 3 rfl) ?_
      refine lv_aload_n hx hb dX6_scaleToTold_5 rfl (lv_at hl 1 rfl) ?_
      refine va_alen (v := nI 6) hx hb hK hP 5 0 rfl rfl rfl dX6_scaleToTold_6 ?_
      refine nv_icmp_ge (tgt := 39) hx hb (by omega) (by decide) dX6_scaleToTold_7 (by decide) (fun c7 => ?_) (fun c7 => ?_)
      · exact ctW_retV n1 hx hb hr dX6_scaleToTold_39 hlocks hS hP hD (fun t ht => k_d t (by omega)) rfl
      · have hn9 : n1 i < q := by rw [hc9]; exact k_n i (by omega)
        refine lv_iload_n hx hb dX6_scaleToTold_10 rfl (lv_at hl 2 rfl) ?_
        refine nv_if_ne (tgt := 18) hx hb (by omega) dX6_scaleToTold_11 (by decide) (fun c11 => ?_) (fun c11 => ?_)
        · refine lv_iload_n hx hb dX6_scaleToTold_18 rfl (lv_at hl 2 rfl) ?_
          refine nv_if_eq (tgt := 33) hx hb (by omega) dX6_scaleToTold_19 (by decide) (fun c19 => ?_) (fun c19 => ?_)
          · refine lv_iinc (v := nI (i + 1)) (lv' := [(3, .int (nI (i + 1))), (0, .ref (ad 0)), (1, .ref aN), (2, .int (nI x))]) hx hb dX6_scaleToTold_33 hl (k := 3) rfl (nI_inc i) (by decide) rfl (fun ls hl => ?_)
            refine lv_goto (tgt := 4) hx hb dX6_scaleToTold_36 (by decide) ?_
            exact ih4 x (i + 1) n1 ls _ _ (by omega) (by omega) (absurd c19 c11) (absurd c19 c11) (absurd c19 c11) (lv_sub hl [1, 2, 3, 0] rfl) hP hD hS
          · refine lv_aload_n hx hb dX6_scaleToTold_22 rfl (lv_at hl 1 rfl) ?_
            refine lv_iload_n hx hb dX6_scaleToTold_23 rfl (lv_at hl 3 rfl) ?_
            refine lv_aload_n hx hb dX6_scaleToTold_24 rfl (lv_at hl 0 rfl) ?_
            refine lv_aload_n hx hb dX6_scaleToTold_25 rfl (lv_at hl 1 rfl) ?_
            refine lv_iload_n hx hb dX6_scaleToTold_26 rfl (lv_at hl 3 rfl) ?_
            refine nv_iald hx hb hK hP 5 0 rfl rfl (by omega) (by decide) dX6_scaleToTold_27 ?_
            refine lv_iload_n hx hb dX6_scaleToTold_28 rfl (lv_at hl 2 rfl) ?_
            refine ctR_V (As := [.int (nI (n1 i)), .int (nI x)]) (rest := [.int (nI i), .ref aN]) (r := .int (nI (fdiv q (n1 i) x))) ⟨hx, hb, hml, hown, hts⟩ (c_X1_over l D cI cZ ad q sm pr op iv hF (n1 i) x (by omega) (by omega) (by omega)) (cwV 2 hts gX6_scaleToTold_X1_over rfl rfl rfl hdV_X1_over ⟨Nat.le_of_ble_eq_true rfl, Nat.le_of_ble_eq_true rfl⟩) hK hN hP [0, 1, 2, 3, 4] rfl 0 1 rfl rfl rfl hl.1 rfl (Nat.le_of_ble_eq_true rfl) ⟨Nat.zero_le _, Nat.zero_le _⟩ dX6_scaleToTold_29 ?_
            have hh_1 : fdiv q (n1 i) x < q := fdiv_lt hF.1 (by omega) (by omega)
            refine nv_iast hx hb hK hP hD hS 5 0 rfl rfl (by omega) (by decide) dX6_scaleToTold_32 (fun H locs hP hD hS => ?_)
            have hP : va_P D vwCl [(ad 0, .inr (1, [.int (nI q), .ref (ad 1), .ref (ad 2), .ref (ad 3), .ref (ad 4)])), (ad 1, .inl (cI, 81, .inl (nF sm))), (ad 2, .inl (cI, 81, .inl (nF pr))), (ad 3, .inl (cI, 9, .inl (nF op))), (ad 4, .inl (cI, 9, .inl (nF iv))), (aN, .inl (cI, 6, .inl (nF (upN n1 i (fdiv q (n1 i) x)))))] H := hP
            have hD : va_D A [(ad 0, .inr (1, [.int (nI q), .ref (ad 1), .ref (ad 2), .ref (ad 3), .ref (ad 4)])), (ad 1, .inl (cI, 81, .inl (nF sm))), (ad 2, .inl (cI, 81, .inl (nF pr))), (ad 3, .inl (cI, 9, .inl (nF op))), (ad 4, .inl (cI, 9, .inl (nF iv))), (aN, .inl (cI, 6, .inl (nF (upN n1 i (fdiv q (n1 i) x)))))] := hD
            refine lv_iinc (v := nI (i + 1)) (lv' := [(3, .int (nI (i + 1))), (0, .ref (ad 0)), (1, .ref aN), (2, .int (nI x))]) hx hb dX6_scaleToTold_33 hl (k := 3) rfl (nI_inc i) (by decide) rfl (fun ls hl => ?_)
            refine lv_goto (tgt := 4) hx hb dX6_scaleToTold_36 (by decide) ?_
            exact ih4 x (i + 1) (upN n1 i (fdiv q (n1 i) x)) ls _ _ (by omega) (by omega) (by rw [hdf, ← k_x, if_neg c11]) (fun t ht => (Nat.lt_succ_iff_lt_or_eq.mp ht).elim (fun h => by rw [upN_n (by omega)]; exact k_d t h) (fun h => by rw [h, upN_s, tldq, hdf, ← k_x, if_neg c11, if_neg c11, hc9])) (fun t ht => by rw [upN_n (by omega)]; exact k_h t (by omega)) (lv_sub hl [1, 2, 3, 0] rfl) hP hD hS
        · refine lv_aload_n hx hb dX6_scaleToTold_14 rfl (lv_at hl 1 rfl) ?_
          refine lv_iload_n hx hb dX6_scaleToTold_15 rfl (lv_at hl 3 rfl) ?_
          refine nv_iald hx hb hK hP 5 0 rfl rfl (by omega) (by decide) dX6_scaleToTold_16 ?_
          refine lv_istore_n (lv' := [(2, .int (nI (n1 i))), (0, .ref (ad 0)), (1, .ref aN), (3, .int (nI i))]) hx hb dX6_scaleToTold_17 rfl hl (by decide) rfl (fun ls hl => ?_)
          refine lv_iload_n hx hb dX6_scaleToTold_18 rfl (lv_at hl 0 rfl) ?_
          refine nv_if_eq (tgt := 33) hx hb (by omega) dX6_scaleToTold_19 (by decide) (fun c19 => ?_) (fun c19 => ?_)
          · refine lv_iinc (v := nI (i + 1)) (lv' := [(3, .int (nI (i + 1))), (2, .int (nI (n1 i))), (0, .ref (ad 0)), (1, .ref aN)]) hx hb dX6_scaleToTold_33 hl (k := 3) rfl (nI_inc i) (by decide) rfl (fun ls hl => ?_)
            refine lv_goto (tgt := 4) hx hb dX6_scaleToTold_36 (by decide) ?_
            exact ih4 (n1 i) (i + 1) n1 ls _ _ (by omega) (by omega) (by rw [hdf, ← k_x, if_pos c11, hc9]) (fun t ht => (Nat.lt_succ_iff_lt_or_eq.mp ht).elim (k_d t) (fun h => by rw [h, tldq, hdf, ← k_x, if_pos c11, ← hc9, if_pos c19])) (fun t ht => k_h t (by omega)) (lv_sub hl [2, 3, 1, 0] rfl) hP hD hS
          · refine lv_aload_n hx hb dX6_scaleToTold_22 rfl (lv_at hl 2 rfl) ?_
            refine lv_iload_n hx hb dX6_scaleToTold_23 rfl (lv_at hl 3 rfl) ?_
            refine lv_aload_n hx hb dX6_scaleToTold_24 rfl (lv_at hl 1 rfl) ?_
            refine lv_aload_n hx hb dX6_scaleToTold_25 rfl (lv_at hl 2 rfl) ?_
            refine lv_iload_n hx hb dX6_scaleToTold_26 rfl (lv_at hl 3 rfl) ?_
            refine nv_iald hx hb hK hP 5 0 rfl rfl (by omega) (by decide) dX6_scaleToTold_27 ?_
            refine lv_iload_n hx hb dX6_scaleToTold_28 rfl (lv_at hl 0 rfl) ?_
            refine ctR_V (As := [.int (nI (n1 i)), .int (nI (n1 i))]) (rest := [.int (nI i), .ref aN]) (r := .int (nI (fdiv q (n1 i) (n1 i)))) ⟨hx, hb, hml, hown, hts⟩ (c_X1_over l D cI cZ ad q sm pr op iv hF (n1 i) (n1 i) (by omega) (by omega) (by omega)) (cwV 2 hts gX6_scaleToTold_X1_over rfl rfl rfl hdV_X1_over ⟨Nat.le_of_ble_eq_true rfl, Nat.le_of_ble_eq_true rfl⟩) hK hN hP [0, 1, 2, 3, 4] rfl 0 1 rfl rfl rfl hl.1 rfl (Nat.le_of_ble_eq_true rfl) ⟨Nat.zero_le _, Nat.zero_le _⟩ dX6_scaleToTold_29 ?_
            have hh_2 : fdiv q (n1 i) (n1 i) < q := fdiv_lt hF.1 (by omega) (by omega)
            refine nv_iast hx hb hK hP hD hS 5 0 rfl rfl (by omega) (by decide) dX6_scaleToTold_32 (fun H locs hP hD hS => ?_)
            have hP : va_P D vwCl [(ad 0, .inr (1, [.int (nI q), .ref (ad 1), .ref (ad 2), .ref (ad 3), .ref (ad 4)])), (ad 1, .inl (cI, 81, .inl (nF sm))), (ad 2, .inl (cI, 81, .inl (nF pr))), (ad 3, .inl (cI, 9, .inl (nF op))), (ad 4, .inl (cI, 9, .inl (nF iv))), (aN, .inl (cI, 6, .inl (nF (upN n1 i (fdiv q (n1 i) (n1 i))))))] H := hP
            have hD : va_D A [(ad 0, .inr (1, [.int (nI q), .ref (ad 1), .ref (ad 2), .ref (ad 3), .ref (ad 4)])), (ad 1, .inl (cI, 81, .inl (nF sm))), (ad 2, .inl (cI, 81, .inl (nF pr))), (ad 3, .inl (cI, 9, .inl (nF op))), (ad 4, .inl (cI, 9, .inl (nF iv))), (aN, .inl (cI, 6, .inl (nF (upN n1 i (fdiv q (n1 i) (n1 i))))))] := hD
            refine lv_iinc (v := nI (i + 1)) (lv' := [(3, .int (nI (i + 1))), (2, .int (nI (n1 i))), (0, .ref (ad 0)), (1, .ref aN)]) hx hb dX6_scaleToTold_33 hl (k := 3) rfl (nI_inc i) (by decide) rfl (fun ls hl => ?_)
            refine lv_goto (tgt := 4) hx hb dX6_scaleToTold_36 (by decide) ?_
            exact ih4 (n1 i) (i + 1) (upN n1 i (fdiv q (n1 i) (n1 i))) ls _ _ (by omega) (by omega) (by rw [hdf, ← k_x, if_pos c11, hc9]) (fun t ht => (Nat.lt_succ_iff_lt_or_eq.mp ht).elim (fun h => by rw [upN_n (by omega)]; exact k_d t h) (fun h => by rw [h, upN_s, tldq, hdf, ← k_x, if_pos c11, ← hc9, if_neg c19])) (fun t ht => by rw [upN_n (by omega)]; exact k_h t (by omega)) (lv_sub hl [2, 3, 1, 0] rfl) hP hD hS
  exact L4 (6 - 0 + 1) 0 0 nb ls _ _ (by omega) (Nat.zero_le _) rfl (fun t h => absurd h (Nat.not_lt_zero t)) (fun _ _ => rfl) (lv_sub hl [2, 3, 1, 0] rfl) hP hD hS

set_option maxHeartbeats 4000000 in
set_option maxRecDepth 100000 in
theorem c_X2_reset (l : Launch) (D : va_G) (cI cZ : ClassId) (ad : Nat → Nat) (bd : Nat → Nat) (mm : Nat → Nat) : CtW (S := (Nat → Nat)) l yX2_reset wsX2_reset { frames := 0, cells := 0, slots := 0, locals := 0 } D (tyG cI cZ) [.ref (bd 0)] [(bd 0, .inr (2, [.ref (ad 5), .ref (ad 0), .ref (bd 1), .ref (bd 2), .ref (bd 3)])), (bd 1, .inl (cI, 9, .inl (nF mm)))] (fun (mm3 : Nat → Nat) => ∀ t, t < 9 → mm3 t = if t % 4 = 0 then 1 else 0) (fun (mm3 : Nat → Nat) => none) (fun (mm3 : Nat → Nat) => [(bd 0, .inr (2, [.ref (ad 5), .ref (ad 0), .ref (bd 1), .ref (bd 2), .ref (bd 3)])), (bd 1, .inl (cI, 9, .inl (nF mm3)))]) := by
  intro sz; refine Met.ofW (cc := cX2_reset) (maxL := 2) (ret := none) (by decide) rfl ?_
  intro p e s m args below meth c s₁ B hml hv
  obtain ⟨rfl, hsz, hP, hK, hD0, hN⟩ := hv
  have hx := B.exec
  have hb := B.bytes
  have hr := B.returns
  have hts := atoms_spec (ws := wsX2_reset) B.pre
  have hown : s.vm.findClass RX2 = some m.cls := findClass_of_methodNamed B.named
  have hlocks := B.notSynchronized
  subst hsz
  have hD := hD0.self (sz := s.heap.size)
  generalize hAe : va_A [(bd 0, .inr (2, [.ref (ad 5), .ref (ad 0), .ref (bd 1), .ref (bd 2), .ref (bd 3)])), (bd 1, .inl (cI, 9, .inl (nF mm)))] s.heap.size = A at hD ⊢
  have hA : ∀ q : Nat, s.heap.size ≤ q → A q := fun q h => by rw [← hAe]; exact Or.inr h
  have hS : va_S A s.heap s.heap [] := va_S.rf
  have hP : va_P D vwCl [(bd 0, .inr (2, [.ref (ad 5), .ref (ad 0), .ref (bd 1), .ref (bd 2), .ref (bd 3)])), (bd 1, .inl (cI, 9, .inl (nF mm)))] s.heap := hP
  have hf9 := hts (.fieldLink RX2 9 "FinitePlanes$Mapping" "m" "[I") (by decide +kernel)
  have hiX2 : ∀ w ∈ u_ws RX2 TX2 5, w ∈ wsX2_reset := by decide +kernel
  have hl := lv_entry ([.ref (bd 0)]) (n := 2) (Nat.le_of_ble_eq_true rfl)
  rw [lg_entry_eq]
  generalize (lg_sl ([.ref (bd 0)]) ++ List.replicate (2 - (lg_sl ([.ref (bd 0)])).length) Slot.unset).toArray = ls at hl ⊢
  have hl : lv_has ls 2 [(0, .ref (bd 0))] := hl
  refine lv_iconst (v := nI 0) hx hb dX2_reset_0 (by decide) ?_
  refine lv_istore_n (lv' := [(1, .int (nI 0)), (0, .ref (bd 0))]) hx hb dX2_reset_1 rfl hl (by decide) rfl (fun ls hl => ?_)
  have L2 : ∀ (N2 : Nat) (i : Nat) (n1 : Nat → Nat) (ls : Array Slot) (H : Heap) (locs : List Loc), 9 - i < N2 → (i ≤ 9) → (∀ t, t < i → n1 t = if t % 4 = 0 then 1 else 0) → lv_has ls 2 [(0, .ref (bd 0)), (1, .int (nI i))] → va_P D vwCl [(bd 0, .inr (2, [.ref (ad 5), .ref (ad 0), .ref (bd 1), .ref (bd 2), .ref (bd 3)])), (bd 1, .inl (cI, 9, .inl (nF n1)))] H → va_D A [(bd 0, .inr (2, [.ref (ad 5), .ref (ad 0), .ref (bd 1), .ref (bd 2), .ref (bd 3)])), (bd 1, .inl (cI, 9, .inl (nF n1)))] → va_S A s.heap H locs → WG p l e wsX2_reset { frames := 0, cells := 0, slots := 0, locals := 0 } s m [.ref (bd 0)] below meth c H locs (CQ (S := (Nat → Nat)) D (fun (mm3 : Nat → Nat) => ∀ t, t < 9 → mm3 t = if t % 4 = 0 then 1 else 0) (fun (mm3 : Nat → Nat) => none) (fun (mm3 : Nat → Nat) => [(bd 0, .inr (2, [.ref (ad 5), .ref (ad 0), .ref (bd 1), .ref (bd 2), .ref (bd 3)])), (bd 1, .inl (cI, 9, .inl (nF mm3)))]) A) A 2 ls [] := by
    intro N2
    induction N2 with
    | zero => intro i n1 ls H locs hN; exact absurd hN (Nat.not_lt_zero _)
    | succ N2 ih2 =>
      intro i n1 ls H locs hN2 k_i k_s hl hP hD hS
      refine lv_iload_n hx hb dX2_reset_2 rfl (lv_at hl 1 rfl) ?_
      refine lv_bipush (v := nI 9) hx hb dX2_reset_3 (by decide) ?_
      refine nv_icmp_ge (tgt := 31) hx hb (by omega) (by decide) dX2_reset_5 (by decide) (fun c5 => ?_) (fun c5 => ?_)
      · exact ctW_retV n1 hx hb hr dX2_reset_31 hlocks hS hP hD (fun t ht => k_s t (by omega)) rfl
      · refine lv_aload_n hx hb dX2_reset_8 rfl (lv_at hl 0 rfl) ?_
        refine va_get (D := D) (ci := 2) (v := .ref (bd 1)) (C := RX2) (T := TX2) (N := 5) hx hb hts hiX2 hown hK hP 0 rfl rfl 2 (by decide) hf9 (fun _ h9 => h9) rfl dX2_reset_9 ?_
        refine lv_iload_n hx hb dX2_reset_12 rfl (lv_at hl 1 rfl) ?_
        refine lv_iload_n hx hb dX2_reset_13 rfl (lv_at hl 1 rfl) ?_
        refine lv_iconst (v := nI 4) hx hb dX2_reset_14 (by decide) ?_
        refine nv_remE (r := i % 4) hx hb (by omega) (by decide) (by decide) rfl dX2_reset_15 ?_
        refine nv_if_ne (tgt := 23) hx hb (by omega) dX2_reset_16 (by decide) (fun c16 => ?_) (fun c16 => ?_)
        · refine lv_iconst (v := nI 0) hx hb dX2_reset_23 (by decide) ?_
          refine nv_iast hx hb hK hP hD hS 1 0 rfl rfl (by omega) (by decide) dX2_reset_24 (fun H locs hP hD hS => ?_)
          have hP : va_P D vwCl [(bd 0, .inr (2, [.ref (ad 5), .ref (ad 0), .ref (bd 1), .ref (bd 2), .ref (bd 3)])), (bd 1, .inl (cI, 9, .inl (nF (upN n1 i 0))))] H := hP
          have hD : va_D A [(bd 0, .inr (2, [.ref (ad 5), .ref (ad 0), .ref (bd 1), .ref (bd 2), .ref (bd 3)])), (bd 1, .inl (cI, 9, .inl (nF (upN n1 i 0))))] := hD
          refine lv_iinc (v := nI (i + 1)) (lv' := [(1, .int (nI (i + 1))), (0, .ref (bd 0))]) hx hb dX2_reset_25 hl (k := 1) rfl (nI_inc i) (by decide) rfl (fun ls hl => ?_)
          refine lv_goto (tgt := 2) hx hb dX2_reset_28 (by decide) ?_
          exact ih2 (i + 1) (upN n1 i 0) ls _ _ (by omega) (by omega) (fun t ht => (Nat.lt_succ_iff_lt_or_eq.mp ht).elim (fun h => by rw [upN_n (by omega)]; exact k_s t h) (fun h => by rw [h, upN_s, if_neg c16])) (lv_sub hl [1, 0] rfl) hP hD hS
        · refine lv_iconst (v := nI 1) hx hb dX2_reset_19 (by decide) ?_
          refine lv_goto (tgt := 24) hx hb dX2_reset_20 (by decide) ?_
          refine nv_iast hx hb hK hP hD hS 1 0 rfl rfl (by omega) (by decide) dX2_reset_24 (fun H locs hP hD hS => ?_)
          have hP : va_P D vwCl [(bd 0, .inr (2, [.ref (ad 5), .ref (ad 0), .ref (bd 1), .ref (bd 2), .ref (bd 3)])), (bd 1, .inl (cI, 9, .inl (nF (upN n1 i 1))))] H := hP
          have hD : va_D A [(bd 0, .inr (2, [.ref (ad 5), .ref (ad 0), .ref (bd 1), .ref (bd 2), .ref (bd 3)])), (bd 1, .inl (cI, 9, .inl (nF (upN n1 i 1))))] := hD
          refine lv_iinc (v := nI (i + 1)) (lv' := [(1, .int (nI (i + 1))), (0, .ref (bd 0))]) hx hb dX2_reset_25 hl (k := 1) rfl (nI_inc i) (by decide) rfl (fun ls hl => ?_)
          refine lv_goto (tgt := 2) hx hb dX2_reset_28 (by decide) ?_
          exact ih2 (i + 1) (upN n1 i 1) ls _ _ (by omega) (by omega) (fun t ht => (Nat.lt_succ_iff_lt_or_eq.mp ht).elim (fun h => by rw [upN_n (by omega)]; exact k_s t h) (fun h => by rw [h, upN_s, if_pos c16])) (lv_sub hl [1, 0] rfl) hP hD hS
  exact L2 (9 - 0 + 1) 0 mm ls _ _ (by omega) (Nat.zero_le _) (fun t h => absurd h (Nat.not_lt_zero t)) (lv_sub hl [1, 0] rfl) hP hD hS

set_option maxHeartbeats 4000000 in
set_option maxRecDepth 100000 in
theorem c_X2_takeMade (l : Launch) (D : va_G) (cI cZ : ClassId) (ad : Nat → Nat) (q : Nat) (sm : Nat → Nat) (pr : Nat → Nat) (op : Nat → Nat) (iv : Nat → Nat) (hF : FOK q sm pr op iv) (bd : Nat → Nat) (mm : Nat → Nat) (me : Nat → Nat) (k_n : ∀ t, t < 9 → me t < q) : CtW (S := (Nat → Nat)) l yX2_takeMade wsX2_takeMade { frames := 2, cells := 0, slots := 0, locals := 45 } D (tyG cI cZ) [.ref (bd 0)] [(ad 0, .inr (1, [.int (nI q), .ref (ad 1), .ref (ad 2), .ref (ad 3), .ref (ad 4)])), (ad 1, .inl (cI, 81, .inl (nF sm))), (ad 2, .inl (cI, 81, .inl (nF pr))), (ad 3, .inl (cI, 9, .inl (nF op))), (ad 4, .inl (cI, 9, .inl (nF iv))), (bd 0, .inr (2, [.ref (ad 5), .ref (ad 0), .ref (bd 1), .ref (bd 2), .ref (bd 3)])), (bd 1, .inl (cI, 9, .inl (nF mm))), (bd 2, .inl (cI, 9, .inl (nF me)))] (fun (mm3 : Nat → Nat) => ∀ t, t < 9 → mm3 t = tldq q me t) (fun (mm3 : Nat → Nat) => none) (fun (mm3 : Nat → Nat) => [(ad 0, .inr (1, [.int (nI q), .ref (ad 1), .ref (ad 2), .ref (ad 3), .ref (ad 4)])), (ad 1, .inl (cI, 81, .inl (nF sm))), (ad 2, .inl (cI, 81, .inl (nF pr))), (ad 3, .inl (cI, 9, .inl (nF op))), (ad 4, .inl (cI, 9, .inl (nF iv))), (bd 0, .inr (2, [.ref (ad 5), .ref (ad 0), .ref (bd 1), .ref (bd 2), .ref (bd 3)])), (bd 1, .inl (cI, 9, .inl (nF mm3))), (bd 2, .inl (cI, 9, .inl (nF me)))]) := by
  intro sz; refine Met.ofW (cc := cX2_takeMade) (maxL := 2) (ret := none) (by decide) rfl ?_
  intro p e s m args below meth c s₁ B hml hv
  obtain ⟨rfl, hsz, hP, hK, hD0, hN⟩ := hv
  have hx := B.exec
  have hb := B.bytes
  have hr := B.returns
  have hts := atoms_spec (ws := wsX2_takeMade) B.pre
  have hown : s.vm.findClass RX2 = some m.cls := findClass_of_methodNamed B.named
  have hlocks := B.notSynchronized
  subst hsz
  have hD := hD0.self (sz := s.heap.size)
  generalize hAe : va_A [(ad 0, .inr (1, [.int (nI q), .ref (ad 1), .ref (ad 2), .ref (ad 3), .ref (ad 4)])), (ad 1, .inl (cI, 81, .inl (nF sm))), (ad 2, .inl (cI, 81, .inl (nF pr))), (ad 3, .inl (cI, 9, .inl (nF op))), (ad 4, .inl (cI, 9, .inl (nF iv))), (bd 0, .inr (2, [.ref (ad 5), .ref (ad 0), .ref (bd 1), .ref (bd 2), .ref (bd 3)])), (bd 1, .inl (cI, 9, .inl (nF mm))), (bd 2, .inl (cI, 9, .inl (nF me)))] s.heap.size = A at hD ⊢
  have hA : ∀ q : Nat, s.heap.size ≤ q → A q := fun q h => by rw [← hAe]; exact Or.inr h
  have hS : va_S A s.heap s.heap [] := va_S.rf
  have hP : va_P D vwCl [(ad 0, .inr (1, [.int (nI q), .ref (ad 1), .ref (ad 2), .ref (ad 3), .ref (ad 4)])), (ad 1, .inl (cI, 81, .inl (nF sm))), (ad 2, .inl (cI, 81, .inl (nF pr))), (ad 3, .inl (cI, 9, .inl (nF op))), (ad 4, .inl (cI, 9, .inl (nF iv))), (bd 0, .inr (2, [.ref (ad 5), .ref (ad 0), .ref (bd 1), .ref (bd 2), .ref (bd 3)])), (bd 1, .inl (cI, 9, .inl (nF mm))), (bd 2, .inl (cI, 9, .inl (nF me)))] s.heap := hP
  have hf9 := hts (.fieldLink RX2 9 "FinitePlanes$Mapping" "m" "[I") (by decide +kernel)
  have hf15 := hts (.fieldLink RX2 15 "FinitePlanes$Mapping" "made" "[I") (by decide +kernel)
  have hf32 := hts (.fieldLink RX2 32 "FinitePlanes$Mapping" "field" "LFinitePlanes$Field;") (by decide +kernel)
  have hiX2 : ∀ w ∈ u_ws RX2 TX2 5, w ∈ wsX2_takeMade := by decide +kernel
  have hl := lv_entry ([.ref (bd 0)]) (n := 2) (Nat.le_of_ble_eq_true rfl)
  rw [lg_entry_eq]
  generalize (lg_sl ([.ref (bd 0)]) ++ List.replicate (2 - (lg_sl ([.ref (bd 0)])).length) Slot.unset).toArray = ls at hl ⊢
  have hl : lv_has ls 2 [(0, .ref (bd 0))] := hl
  have hq2 := qs_le hF.1
  have hn2 := nn_le hF.1
  refine lv_iconst (v := nI 0) hx hb dX2_takeMade_0 (by decide) ?_
  refine lv_istore_n (lv' := [(1, .int (nI 0)), (0, .ref (bd 0))]) hx hb dX2_takeMade_1 rfl hl (by decide) rfl (fun ls hl => ?_)
  have L2 : ∀ (N2 : Nat) (i : Nat) (n1 : Nat → Nat) (ls : Array Slot) (H : Heap) (locs : List Loc), 9 - i < N2 → (i ≤ 9) → (∀ t, t < i → n1 t = me t) → lv_has ls 2 [(0, .ref (bd 0)), (1, .int (nI i))] → va_P D vwCl [(ad 0, .inr (1, [.int (nI q), .ref (ad 1), .ref (ad 2), .ref (ad 3), .ref (ad 4)])), (ad 1, .inl (cI, 81, .inl (nF sm))), (ad 2, .inl (cI, 81, .inl (nF pr))), (ad 3, .inl (cI, 9, .inl (nF op))), (ad 4, .inl (cI, 9, .inl (nF iv))), (bd 0, .inr (2, [.ref (ad 5), .ref (ad 0), .ref (bd 1), .ref (bd 2), .ref (bd 3)])), (bd 1, .inl (cI, 9, .inl (nF n1))), (bd 2, .inl (cI, 9, .inl (nF me)))] H → va_D A [(ad 0, .inr (1, [.int (nI q), .ref (ad 1), .ref (ad 2), .ref (ad 3), .ref (ad 4)])), (ad 1, .inl (cI, 81, .inl (nF sm))), (ad 2, .inl (cI, 81, .inl (nF pr))), (ad 3, .inl (cI, 9, .inl (nF op))), (ad 4, .inl (cI, 9, .inl (nF iv))), (bd 0, .inr (2, [.ref (ad 5), .ref (ad 0), .ref (bd 1), .ref (bd 2), .ref (bd 3)])), (bd 1, .inl (cI, 9, .inl (nF n1))), (bd 2, .inl (cI, 9, .inl (nF me)))] → va_S A s.heap H locs → WG p l e wsX2_takeMade { frames := 2, cells := 0, slots := 0, locals := 45 } s m [.ref (bd 0)] below meth c H locs (CQ (S := (Nat → Nat)) D (fun (mm3 : Nat → Nat) => ∀ t, t < 9 → mm3 t = tldq q me t) (fun (mm3 : Nat → Nat) => none) (fun (mm3 : Nat → Nat) => [(ad 0, .inr (1, [.int (nI q), .ref (ad 1), .ref (ad 2), .ref (ad 3), .ref (ad 4)])), (ad 1, .inl (cI, 81, .inl (nF sm))), (ad 2, .inl (cI, 81, .inl (nF pr))), (ad 3, .inl (cI, 9, .inl (nF op))), (ad 4, .inl (cI, 9, .inl (nF iv))), (bd 0, .inr (2, [.ref (ad 5), .ref (ad 0), .ref (bd 1), .ref (bd 2), .ref (bd 3)])), (bd 1, .inl (cI, 9, .inl (nF mm3))), (bd 2, .inl (cI, 9, .inl (nF me)))]) A) A 2 ls [] := by
    intro N2
    induction N2 with
    | zero => intro i n1 ls H locs hN; exact absurd hN (Nat.not_lt_zero _)
    | succ N2 ih2 =>
      intro i n1 ls H locs hN2 k_i k_s hl hP hD hS
      refine lv_iload_n hx hb dX2_takeMade_2 rfl (lv_at hl 1 rfl) ?_
      refine lv_bipush (v := nI 9) hx hb dX2_takeMade_3 (by decide) ?_
      refine nv_icmp_ge (tgt := 26) hx hb (by omega) (by decide) dX2_takeMade_5 (by decide) (fun c5 => ?_) (fun c5 => ?_)
      · refine lv_aload_n hx hb dX2_takeMade_26 rfl (lv_at hl 0 rfl) ?_
        refine va_get (D := D) (ci := 2) (v := .ref (ad 0)) (C := RX2) (T := TX2) (N := 5) hx hb hts hiX2 hown hK hP 5 rfl rfl 1 (by decide) hf32 (fun _ h9 => h9) rfl dX2_takeMade_27 ?_
        refine lv_aload_n hx hb dX2_takeMade_30 rfl (lv_at hl 0 rfl) ?_
        refine va_get (D := D) (ci := 2) (v := .ref (bd 1)) (C := RX2) (T := TX2) (N := 5) hx hb hts hiX2 hown hK hP 5 rfl rfl 2 (by decide) hf9 (fun _ h9 => h9) rfl dX2_takeMade_31 ?_
        refine ctW_SN (As := [.ref (ad 0), .ref (bd 1)]) (rest := []) (wr := [(bd 0, .inr (2, [.ref (ad 5), .ref (ad 0), .ref (bd 1), .ref (bd 2), .ref (bd 3)])), (bd 2, .inl (cI, 9, .inl (nF me)))]) ⟨hx, hb, hml, hown, hts⟩ (c_X6_scaleToTold_9 l D cI cZ ad q sm pr op iv hF (bd 1) n1 (fun t ht => by rw [k_s t (by omega)]; exact k_n t ht)) ⟨va_cnB 2 hts gX2_takeMade_X6_scaleToTold_n87 rfl rfl rfl (hN _ (by decide +kernel) : va_Nw (.methodLinkNest RX2 87 yX6_scaleToTold "FinitePlanes") s) (hts (.initialized RX6) (by decide +kernel)) hdS_X6_scaleToTold ⟨Nat.le_of_ble_eq_true rfl, Nat.le_of_ble_eq_true rfl⟩, hts (.static yX6_scaleToTold) (by decide +kernel), trivial⟩ hK hN hP hD hS hA [0, 1, 2, 3, 4, 6] [5, 7] rfl rfl rfl (by decide) (by decide) (by decide) rfl hl.1 rfl (Nat.le_of_ble_eq_true rfl) ⟨Nat.zero_le _, Nat.zero_le _⟩ dX2_takeMade_34 (fun nb_1 H locs hu34 hP hD hS => ?_)
        try dsimp only at hu34
        have hP : va_P D vwCl [(ad 0, .inr (1, [.int (nI q), .ref (ad 1), .ref (ad 2), .ref (ad 3), .ref (ad 4)])), (ad 1, .inl (cI, 81, .inl (nF sm))), (ad 2, .inl (cI, 81, .inl (nF pr))), (ad 3, .inl (cI, 9, .inl (nF op))), (ad 4, .inl (cI, 9, .inl (nF iv))), (bd 0, .inr (2, [.ref (ad 5), .ref (ad 0), .ref (bd 1), .ref (bd 2), .ref (bd 3)])), (bd 1, .inl (cI, 9, .inl (nF nb_1))), (bd 2, .inl (cI, 9, .inl (nF me)))] H := hP.sub [2, 3, 4, 5, 6, 0, 7, 1] rfl
        have hD : va_D A [(ad 0, .inr (1, [.int (nI q), .ref (ad 1), .ref (ad 2), .ref (ad 3), .ref (ad 4)])), (ad 1, .inl (cI, 81, .inl (nF sm))), (ad 2, .inl (cI, 81, .inl (nF pr))), (ad 3, .inl (cI, 9, .inl (nF op))), (ad 4, .inl (cI, 9, .inl (nF iv))), (bd 0, .inr (2, [.ref (ad 5), .ref (ad 0), .ref (bd 1), .ref (bd 2), .ref (bd 3)])), (bd 1, .inl (cI, 9, .inl (nF nb_1))), (bd 2, .inl (cI, 9, .inl (nF me)))] := hD.sub [2, 3, 4, 5, 6, 0, 7, 1] (by decide) rfl
        refine W.eq (g2 := F0 m 37 ls []) rfl ?_
        exact ctW_retV nb_1 hx hb hr dX2_takeMade_37 hlocks hS hP hD (fun t ht => by rw [hu34 t ht]; exact tld_congr ht (fun t ht => k_s t (by omega))) rfl
      · refine lv_aload_n hx hb dX2_takeMade_8 rfl (lv_at hl 0 rfl) ?_
        refine va_get (D := D) (ci := 2) (v := .ref (bd 1)) (C := RX2) (T := TX2) (N := 5) hx hb hts hiX2 hown hK hP 5 rfl rfl 2 (by decide) hf9 (fun _ h9 => h9) rfl dX2_takeMade_9 ?_
        refine lv_iload_n hx hb dX2_takeMade_12 rfl (lv_at hl 1 rfl) ?_
        refine lv_aload_n hx hb dX2_takeMade_13 rfl (lv_at hl 0 rfl) ?_
        refine va_get (D := D) (ci := 2) (v := .ref (bd 2)) (C := RX2) (T := TX2) (N := 5) hx hb hts hiX2 hown hK hP 5 rfl rfl 3 (by decide) hf15 (fun _ h9 => h9) rfl dX2_takeMade_14 ?_
        refine lv_iload_n hx hb dX2_takeMade_17 rfl (lv_at hl 1 rfl) ?_
        refine nv_iald hx hb hK hP 7 0 rfl rfl (by omega) (by decide) dX2_takeMade_18 ?_
        refine nv_iast hx hb hK hP hD hS 6 0 rfl rfl (by omega) (by decide) dX2_takeMade_19 (fun H locs hP hD hS => ?_)
        have hP : va_P D vwCl [(ad 0, .inr (1, [.int (nI q), .ref (ad 1), .ref (ad 2), .ref (ad 3), .ref (ad 4)])), (ad 1, .inl (cI, 81, .inl (nF sm))), (ad 2, .inl (cI, 81, .inl (nF pr))), (ad 3, .inl (cI, 9, .inl (nF op))), (ad 4, .inl (cI, 9, .inl (nF iv))), (bd 0, .inr (2, [.ref (ad 5), .ref (ad 0), .ref (bd 1), .ref (bd 2), .ref (bd 3)])), (bd 1, .inl (cI, 9, .inl (nF (upN n1 i (me i))))), (bd 2, .inl (cI, 9, .inl (nF me)))] H := hP
        have hD : va_D A [(ad 0, .inr (1, [.int (nI q), .ref (ad 1), .ref (ad 2), .ref (ad 3), .ref (ad 4)])), (ad 1, .inl (cI, 81, .inl (nF sm))), (ad 2, .inl (cI, 81, .inl (nF pr))), (ad 3, .inl (cI, 9, .inl (nF op))), (ad 4, .inl (cI, 9, .inl (nF iv))), (bd 0, .inr (2, [.ref (ad 5), .ref (ad 0), .ref (bd 1), .ref (bd 2), .ref (bd 3)])), (bd 1, .inl (cI, 9, .inl (nF (upN n1 i (me i))))), (bd 2, .inl (cI, 9, .inl (nF me)))] := hD
        refine lv_iinc (v := nI (i + 1)) (lv' := [(1, .int (nI (i + 1))), (0, .ref (bd 0))]) hx hb dX2_takeMade_20 hl (k := 1) rfl (nI_inc i) (by decide) rfl (fun ls hl => ?_)
        refine lv_goto (tgt := 2) hx hb dX2_takeMade_23 (by decide) ?_
        exact ih2 (i + 1) (upN n1 i (me i)) ls _ _ (by omega) (by omega) (fun t ht => (Nat.lt_succ_iff_lt_or_eq.mp ht).elim (fun h => by rw [upN_n (by omega)]; exact k_s t h) (fun h => by rw [h, upN_s])) (lv_sub hl [1, 0] rfl) hP hD hS
  exact L2 (9 - 0 + 1) 0 mm ls _ _ (by omega) (Nat.zero_le _) (fun t h => absurd h (Nat.not_lt_zero t)) (lv_sub hl [1, 0] rfl) hP hD hS

set_option maxHeartbeats 4000000 in
set_option maxRecDepth 100000 in
theorem c_X2_turnBack (l : Launch) (D : va_G) (cI cZ : ClassId) (ad : Nat → Nat) (q : Nat) (sm : Nat → Nat) (pr : Nat → Nat) (op : Nat → Nat) (iv : Nat → Nat) (hF : FOK q sm pr op iv) (tr : Nat → Nat) (ro : Nat → Nat) (hT : TOK q tr) (bd : Nat → Nat) (mm : Nat → Nat) (me : Nat → Nat) (rc : Nat → Bool) (k_m : MPK q mm) : CtW (S := (Nat → Nat) × (Nat → Nat)) l yX2_turnBack wsX2_turnBack { frames := 3, cells := 0, slots := 0, locals := 72 } D (tyG cI cZ) [.ref (bd 0)] [(ad 0, .inr (1, [.int (nI q), .ref (ad 1), .ref (ad 2), .ref (ad 3), .ref (ad 4)])), (ad 1, .inl (cI, 81, .inl (nF sm))), (ad 2, .inl (cI, 81, .inl (nF pr))), (ad 3, .inl (cI, 9, .inl (nF op))), (ad 4, .inl (cI, 9, .inl (nF iv))), (ad 5, .inr (3, [.ref (ad 0), .int (nI (nn q)), .ref (ad 6), .ref (ad 7)])), (ad 6, .inl (cI, 273, .inl (nF tr))), (ad 7, .inl (cI, 910, .inl (nF ro))), (bd 0, .inr (2, [.ref (ad 5), .ref (ad 0), .ref (bd 1), .ref (bd 2), .ref (bd 3)])), (bd 1, .inl (cI, 9, .inl (nF mm))), (bd 2, .inl (cI, 9, .inl (nF me))), (bd 3, .inl (cZ, 91, .inl (bF rc)))] (fun u => (fun (mm3 : Nat → Nat) (me3 : Nat → Nat) => ∀ t, t < 9 → mm3 t = tldq q (fun k => cofq q mm (k % 3) (k / 3)) t) u.1 u.2) (fun u => (fun (mm3 : Nat → Nat) (me3 : Nat → Nat) => none) u.1 u.2) (fun u => (fun (mm3 : Nat → Nat) (me3 : Nat → Nat) => [(ad 0, .inr (1, [.int (nI q), .ref (ad 1), .ref (ad 2), .ref (ad 3), .ref (ad 4)])), (ad 1, .inl (cI, 81, .inl (nF sm))), (ad 2, .inl (cI, 81, .inl (nF pr))), (ad 3, .inl (cI, 9, .inl (nF op))), (ad 4, .inl (cI, 9, .inl (nF iv))), (ad 5, .inr (3, [.ref (ad 0), .int (nI (nn q)), .ref (ad 6), .ref (ad 7)])), (ad 6, .inl (cI, 273, .inl (nF tr))), (ad 7, .inl (cI, 910, .inl (nF ro))), (bd 0, .inr (2, [.ref (ad 5), .ref (ad 0), .ref (bd 1), .ref (bd 2), .ref (bd 3)])), (bd 1, .inl (cI, 9, .inl (nF mm3))), (bd 2, .inl (cI, 9, .inl (nF me3))), (bd 3, .inl (cZ, 91, .inl (bF rc)))]) u.1 u.2) := by
  intro sz; refine Met.ofW (cc := cX2_turnBack) (maxL := 3) (ret := none) (by decide) rfl ?_
  intro p e s m args below meth c s₁ B hml hv
  obtain ⟨rfl, hsz, hP, hK, hD0, hN⟩ := hv
  have hx := B.exec
  have hb := B.bytes
  have hr := B.returns
  have hts := atoms_spec (ws := wsX2_turnBack) B.pre
  have hown : s.vm.findClass RX2 = some m.cls := findClass_of_methodNamed B.named
  have hlocks := B.notSynchronized
  subst hsz
  have hD := hD0.self (sz := s.heap.size)
  generalize hAe : va_A [(ad 0, .inr (1, [.int (nI q), .ref (ad 1), .ref (ad 2), .ref (ad 3), .ref (ad 4)])), (ad 1, .inl (cI, 81, .inl (nF sm))), (ad 2, .inl (cI, 81, .inl (nF pr))), (ad 3, .inl (cI, 9, .inl (nF op))), (ad 4, .inl (cI, 9, .inl (nF iv))), (ad 5, .inr (3, [.ref (ad 0), .int (nI (nn q)), .ref (ad 6), .ref (ad 7)])), (ad 6, .inl (cI, 273, .inl (nF tr))), (ad 7, .inl (cI, 910, .inl (nF ro))), (bd 0, .inr (2, [.ref (ad 5), .ref (ad 0), .ref (bd 1), .ref (bd 2), .ref (bd 3)])), (bd 1, .inl (cI, 9, .inl (nF mm))), (bd 2, .inl (cI, 9, .inl (nF me))), (bd 3, .inl (cZ, 91, .inl (bF rc)))] s.heap.size = A at hD ⊢
  have hA : ∀ q : Nat, s.heap.size ≤ q → A q := fun q h => by rw [← hAe]; exact Or.inr h
  have hS : va_S A s.heap s.heap [] := va_S.rf
  have hP : va_P D vwCl [(ad 0, .inr (1, [.int (nI q), .ref (ad 1), .ref (ad 2), .ref (ad 3), .ref (ad 4)])), (ad 1, .inl (cI, 81, .inl (nF sm))), (ad 2, .inl (cI, 81, .inl (nF pr))), (ad 3, .inl (cI, 9, .inl (nF op))), (ad 4, .inl (cI, 9, .inl (nF iv))), (ad 5, .inr (3, [.ref (ad 0), .int (nI (nn q)), .ref (ad 6), .ref (ad 7)])), (ad 6, .inl (cI, 273, .inl (nF tr))), (ad 7, .inl (cI, 910, .inl (nF ro))), (bd 0, .inr (2, [.ref (ad 5), .ref (ad 0), .ref (bd 1), .ref (bd 2), .ref (bd 3)])), (bd 1, .inl (cI, 9, .inl (nF mm))), (bd 2, .inl (cI, 9, .inl (nF me))), (bd 3, .inl (cZ, 91, .inl (bF rc)))] s.heap := hP
  have hf15 := hts (.fieldLink RX2 15 "FinitePlanes$Mapping" "made" "[I") (by decide +kernel)
  have hiX2 : ∀ w ∈ u_ws RX2 TX2 5, w ∈ wsX2_turnBack := by decide +kernel
  have hl := lv_entry ([.ref (bd 0)]) (n := 3) (Nat.le_of_ble_eq_true rfl)
  rw [lg_entry_eq]
  generalize (lg_sl ([.ref (bd 0)]) ++ List.replicate (3 - (lg_sl ([.ref (bd 0)])).length) Slot.unset).toArray = ls at hl ⊢
  have hl : lv_has ls 3 [(0, .ref (bd 0))] := hl
  have hq2 := qs_le hF.1
  have hn2 := nn_le hF.1
  refine lv_iconst (v := nI 0) hx hb dX2_turnBack_0 (by decide) ?_
  refine lv_istore_n (lv' := [(1, .int (nI 0)), (0, .ref (bd 0))]) hx hb dX2_turnBack_1 rfl hl (by decide) rfl (fun ls hl => ?_)
  refine lv_iload_n hx hb dX2_turnBack_2 rfl (lv_at hl 0 rfl) ?_
  refine lv_iconst (v := nI 3) hx hb dX2_turnBack_3 (by decide) ?_
  refine nv_icmp_ge (tgt := 42) hx hb (by decide) (by decide) dX2_turnBack_4 (by decide) (fun c4 => absurd c4 (by omega)) (fun c4 => ?_)
  refine lv_iconst (v := nI 0) hx hb dX2_turnBack_7 (by decide) ?_
  refine lv_istore_n (lv' := [(2, .int (nI 0)), (1, .int (nI 0)), (0, .ref (bd 0))]) hx hb dX2_turnBack_8 rfl hl (by decide) rfl (fun ls hl => ?_)
  refine lv_iload_n hx hb dX2_turnBack_9 rfl (lv_at hl 0 rfl) ?_
  refine lv_iconst (v := nI 3) hx hb dX2_turnBack_10 (by decide) ?_
  refine nv_icmp_ge (tgt := 36) hx hb (by decide) (by decide) dX2_turnBack_11 (by decide) (fun c11 => absurd c11 (by omega)) (fun c11 => ?_)
  refine lv_aload_n hx hb dX2_turnBack_14 rfl (lv_at hl 2 rfl) ?_
  refine va_get (D := D) (ci := 2) (v := .ref (bd 2)) (C := RX2) (T := TX2) (N := 5) hx hb hts hiX2 hown hK hP 8 rfl rfl 3 (by decide) hf15 (fun _ h9 => h9) rfl dX2_turnBack_15 ?_
  refine lv_iconst (v := nI 3) hx hb dX2_turnBack_18 (by decide) ?_
  refine lv_iload_n hx hb dX2_turnBack_19 rfl (lv_at hl 0 rfl) ?_
  refine nv_mulE (r := 0) hx hb rfl dX2_turnBack_20 ?_
  refine lv_iload_n hx hb dX2_turnBack_21 rfl (lv_at hl 1 rfl) ?_
  refine nv_addE (r := 0) hx hb rfl dX2_turnBack_22 ?_
  refine lv_aload_n hx hb dX2_turnBack_23 rfl (lv_at hl 2 rfl) ?_
  refine lv_iload_n hx hb dX2_turnBack_24 rfl (lv_at hl 1 rfl) ?_
  refine lv_iload_n hx hb dX2_turnBack_25 rfl (lv_at hl 0 rfl) ?_
  refine ctR_V (As := [.int (nI 0), .int (nI 0)]) (rest := [.int (nI 0), .ref (bd 2)]) (r := .int (nI (cofq q mm 0 0))) ⟨hx, hb, hml, hown, hts⟩ (c_X2_cofactor l D cI cZ ad q sm pr op iv hF tr ro hT bd mm me rc k_m 0 0 (by omega) (by omega)) (cwV 2 hts gX2_turnBack_X2_cofactor rfl rfl rfl hdV_X2_cofactor ⟨Nat.le_of_ble_eq_true rfl, Nat.le_of_ble_eq_true rfl⟩) hK hN hP [0, 1, 2, 3, 4, 5, 6, 7, 8, 9, 10, 11] rfl 8 2 rfl rfl rfl hl.1 rfl (Nat.le_of_ble_eq_true rfl) ⟨Nat.zero_le _, Nat.zero_le _⟩ dX2_turnBack_26 ?_
  have hh_1 : cofq q mm 0 0 < q := cofq_lt hF.1 k_m
  refine nv_iast hx hb hK hP hD hS 10 0 rfl rfl (by omega) (by decide) dX2_turnBack_29 (fun H locs hP hD hS => ?_)
  have hP : va_P D vwCl [(ad 0, .inr (1, [.int (nI q), .ref (ad 1), .ref (ad 2), .ref (ad 3), .ref (ad 4)])), (ad 1, .inl (cI, 81, .inl (nF sm))), (ad 2, .inl (cI, 81, .inl (nF pr))), (ad 3, .inl (cI, 9, .inl (nF op))), (ad 4, .inl (cI, 9, .inl (nF iv))), (ad 5, .inr (3, [.ref (ad 0), .int (nI (nn q)), .ref (ad 6), .ref (ad 7)])), (ad 6, .inl (cI, 273, .inl (nF tr))), (ad 7, .inl (cI, 910, .inl (nF ro))), (bd 0, .inr (2, [.ref (ad 5), .ref (ad 0), .ref (bd 1), .ref (bd 2), .ref (bd 3)])), (bd 1, .inl (cI, 9, .inl (nF mm))), (bd 2, .inl (cI, 9, .inl (nF (upN me 0 (cofq q mm 0 0))))), (bd 3, .inl (cZ, 91, .inl (bF rc)))] H := hP
  have hD : va_D A [(ad 0, .inr (1, [.int (nI q), .ref (ad 1), .ref (ad 2), .ref (ad 3), .ref (ad 4)])), (ad 1, .inl (cI, 81, .inl (nF sm))), (ad 2, .inl (cI, 81, .inl (nF pr))), (ad 3, .inl (cI, 9, .inl (nF op))), (ad 4, .inl (cI, 9, .inl (nF iv))), (ad 5, .inr (3, [.ref (ad 0), .int (nI (nn q)), .ref (ad 6), .ref (ad 7)])), (ad 6, .inl (cI, 273, .inl (nF tr))), (ad 7, .inl (cI, 910, .inl (nF ro))), (bd 0, .inr (2, [.ref (ad 5), .ref (ad 0), .ref (bd 1), .ref (bd 2), .ref (bd 3)])), (bd 1, .inl (cI, 9, .inl (nF mm))), (bd 2, .inl (cI, 9, .inl (nF (upN me 0 (cofq q mm 0 0))))), (bd 3, .inl (cZ, 91, .inl (bF rc)))] := hD
  refine lv_iinc (v := nI 1) (lv' := [(2, .int (nI 1)), (1, .int (nI 0)), (0, .ref (bd 0))]) hx hb dX2_turnBack_30 hl (k := 0) rfl (nI_inc 0) (by decide) rfl (fun ls hl => ?_)
  refine lv_goto (tgt := 9) hx hb dX2_turnBack_33 (by decide) ?_
  refine lv_iload_n hx hb dX2_turnBack_9 rfl (lv_at hl 0 rfl) ?_
  refine lv_iconst (v := nI 3) hx hb dX2_turnBack_10 (by decide) ?_
  refine nv_icmp_ge (tgt := 36) hx hb (by decide) (by decide) dX2_turnBack_11 (by decide) (fun c11 => absurd c11 (by omega)) (fun c11 => ?_)
  refine lv_aload_n hx hb dX2_turnBack_14 rfl (lv_at hl 2 rfl) ?_
  refine va_get (D := D) (ci := 2) (v := .ref (bd 2)) (C := RX2) (T := TX2) (N := 5) hx hb hts hiX2 hown hK hP 8 rfl rfl 3 (by decide) hf15 (fun _ h9 => h9) rfl dX2_turnBack_15 ?_
  refine lv_iconst (v := nI 3) hx hb dX2_turnBack_18 (by decide) ?_
  refine lv_iload_n hx hb dX2_turnBack_19 rfl (lv_at hl 0 rfl) ?_
  refine nv_mulE (r := 3) hx hb rfl dX2_turnBack_20 ?_
  refine lv_iload_n hx hb dX2_turnBack_21 rfl (lv_at hl 1 rfl) ?_
  refine nv_addE (r := 3) hx hb rfl dX2_turnBack_22 ?_
  refine lv_aload_n hx hb dX2_turnBack_23 rfl (lv_at hl 2 rfl) ?_
  refine lv_iload_n hx hb dX2_turnBack_24 rfl (lv_at hl 1 rfl) ?_
  refine lv_iload_n hx hb dX2_turnBack_25 rfl (lv_at hl 0 rfl) ?_
  refine ctR_V (As := [.int (nI 0), .int (nI 1)]) (rest := [.int (nI 3), .ref (bd 2)]) (r := .int (nI (cofq q mm 0 1))) ⟨hx, hb, hml, hown, hts⟩ (c_X2_cofactor l D cI cZ ad q sm pr op iv hF tr ro hT bd mm (upN me 0 (cofq q mm 0 0)) rc k_m 0 1 (by omega) (by omega)) (cwV 2 hts gX2_turnBack_X2_cofactor rfl rfl rfl hdV_X2_cofactor ⟨Nat.le_of_ble_eq_true rfl, Nat.le_of_ble_eq_true rfl⟩) hK hN hP [0, 1, 2, 3, 4, 5, 6, 7, 8, 9, 10, 11] rfl 8 2 rfl rfl rfl hl.1 rfl (Nat.le_of_ble_eq_true rfl) ⟨Nat.zero_le _, Nat.zero_le _⟩ dX2_turnBack_26 ?_
  have hh_2 : cofq q mm 0 1 < q := cofq_lt hF.1 k_m
  refine nv_iast hx hb hK hP hD hS 10 0 rfl rfl (by omega) (by decide) dX2_turnBack_29 (fun H locs hP hD hS => ?_)
  have hP : va_P D vwCl [(ad 0, .inr (1, [.int (nI q), .ref (ad 1), .ref (ad 2), .ref (ad 3), .ref (ad 4)])), (ad 1, .inl (cI, 81, .inl (nF sm))), (ad 2, .inl (cI, 81, .inl (nF pr))), (ad 3, .inl (cI, 9, .inl (nF op))), (ad 4, .inl (cI, 9, .inl (nF iv))), (ad 5, .inr (3, [.ref (ad 0), .int (nI (nn q)), .ref (ad 6), .ref (ad 7)])), (ad 6, .inl (cI, 273, .inl (nF tr))), (ad 7, .inl (cI, 910, .inl (nF ro))), (bd 0, .inr (2, [.ref (ad 5), .ref (ad 0), .ref (bd 1), .ref (bd 2), .ref (bd 3)])), (bd 1, .inl (cI, 9, .inl (nF mm))), (bd 2, .inl (cI, 9, .inl (nF (upN (upN me 0 (cofq q mm 0 0)) 3 (cofq q mm 0 1))))), (bd 3, .inl (cZ, 91, .inl (bF rc)))] H := hP
  have hD : va_D A [(ad 0, .inr (1, [.int (nI q), .ref (ad 1), .ref (ad 2), .ref (ad 3), .ref (ad 4)])), (ad 1, .inl (cI, 81, .inl (nF sm))), (ad 2, .inl (cI, 81, .inl (nF pr))), (ad 3, .inl (cI, 9, .inl (nF op))), (ad 4, .inl (cI, 9, .inl (nF iv))), (ad 5, .inr (3, [.ref (ad 0), .int (nI (nn q)), .ref (ad 6), .ref (ad 7)])), (ad 6, .inl (cI, 273, .inl (nF tr))), (ad 7, .inl (cI, 910, .inl (nF ro))), (bd 0, .inr (2, [.ref (ad 5), .ref (ad 0), .ref (bd 1), .ref (bd 2), .ref (bd 3)])), (bd 1, .inl (cI, 9, .inl (nF mm))), (bd 2, .inl (cI, 9, .inl (nF (upN (upN me 0 (cofq q mm 0 0)) 3 (cofq q mm 0 1))))), (bd 3, .inl (cZ, 91, .inl (bF rc)))] := hD
  refine lv_iinc (v := nI 2) (lv' := [(2, .int (nI 2)), (1, .int (nI 0)), (0, .ref (bd 0))]) hx hb dX2_turnBack_30 hl (k := 0) rfl (nI_inc 1) (by decide) rfl (fun ls hl => ?_)
  refine lv_goto (tgt := 9) hx hb dX2_turnBack_33 (by decide) ?_
  refine lv_iload_n hx hb dX2_turnBack_9 rfl (lv_at hl 0 rfl) ?_
  refine lv_iconst (v := nI 3) hx hb dX2_turnBack_10 (by decide) ?_
  refine nv_icmp_ge (tgt := 36) hx hb (by decide) (by decide) dX2_turnBack_11 (by decide) (fun c11 => absurd c11 (by omega)) (fun c11 => ?_)
  refine lv_aload_n hx hb dX2_turnBack_14 rfl (lv_at hl 2 rfl) ?_
  refine va_get (D := D) (ci := 2) (v := .ref (bd 2)) (C := RX2) (T := TX2) (N := 5) hx hb hts hiX2 hown hK hP 8 rfl rfl 3 (by decide) hf15 (fun _ h9 => h9) rfl dX2_turnBack_15 ?_
  refine lv_iconst (v := nI 3) hx hb dX2_turnBack_18 (by decide) ?_
  refine lv_iload_n hx hb dX2_turnBack_19 rfl (lv_at hl 0 rfl) ?_
  refine nv_mulE (r := 6) hx hb rfl dX2_turnBack_20 ?_
  refine lv_iload_n hx hb dX2_turnBack_21 rfl (lv_at hl 1 rfl) ?_
  refine nv_addE (r := 6) hx hb rfl dX2_turnBack_22 ?_
  refine lv_aload_n hx hb dX2_turnBack_23 rfl (lv_at hl 2 rfl) ?_
  refine lv_iload_n hx hb dX2_turnBack_24 rfl (lv_at hl 1 rfl) ?_
  refine lv_iload_n hx hb dX2_turnBack_25 rfl (lv_at hl 0 rfl) ?_
  refine ctR_V (As := [.int (nI 0), .int (nI 2)]) (rest := [.int (nI 6), .ref (bd 2)]) (r := .int (nI (cofq q mm 0 2))) ⟨hx, hb, hml, hown, hts⟩ (c_X2_cofactor l D cI cZ ad q sm pr op iv hF tr ro hT bd mm (upN (upN me 0 (cofq q mm 0 0)) 3 (cofq q mm 0 1)) rc k_m 0 2 (by omega) (by omega)) (cwV 2 hts gX2_turnBack_X2_cofactor rfl rfl rfl hdV_X2_cofactor ⟨Nat.le_of_ble_eq_true rfl, Nat.le_of_ble_eq_true rfl⟩) hK hN hP [0, 1, 2, 3, 4, 5, 6, 7, 8, 9, 10, 11] rfl 8 2 rfl rfl rfl hl.1 rfl (Nat.le_of_ble_eq_true rfl) ⟨Nat.zero_le _, Nat.zero_le _⟩ dX2_turnBack_26 ?_
  have hh_3 : cofq q mm 0 2 < q := cofq_lt hF.1 k_m
  refine nv_iast hx hb hK hP hD hS 10 0 rfl rfl (by omega) (by decide) dX2_turnBack_29 (fun H locs hP hD hS => ?_)
  have hP : va_P D vwCl [(ad 0, .inr (1, [.int (nI q), .ref (ad 1), .ref (ad 2), .ref (ad 3), .ref (ad 4)])), (ad 1, .inl (cI, 81, .inl (nF sm))), (ad 2, .inl (cI, 81, .inl (nF pr))), (ad 3, .inl (cI, 9, .inl (nF op))), (ad 4, .inl (cI, 9, .inl (nF iv))), (ad 5, .inr (3, [.ref (ad 0), .int (nI (nn q)), .ref (ad 6), .ref (ad 7)])), (ad 6, .inl (cI, 273, .inl (nF tr))), (ad 7, .inl (cI, 910, .inl (nF ro))), (bd 0, .inr (2, [.ref (ad 5), .ref (ad 0), .ref (bd 1), .ref (bd 2), .ref (bd 3)])), (bd 1, .inl (cI, 9, .inl (nF mm))), (bd 2, .inl (cI, 9, .inl (nF (upN (upN (upN me 0 (cofq q mm 0 0)) 3 (cofq q mm 0 1)) 6 (cofq q mm 0 2))))), (bd 3, .inl (cZ, 91, .inl (bF rc)))] H := hP
  have hD : va_D A [(ad 0, .inr (1, [.int (nI q), .ref (ad 1), .ref (ad 2), .ref (ad 3), .ref (ad 4)])), (ad 1, .inl (cI, 81, .inl (nF sm))), (ad 2, .inl (cI, 81, .inl (nF pr))), (ad 3, .inl (cI, 9, .inl (nF op))), (ad 4, .inl (cI, 9, .inl (nF iv))), (ad 5, .inr (3, [.ref (ad 0), .int (nI (nn q)), .ref (ad 6), .ref (ad 7)])), (ad 6, .inl (cI, 273, .inl (nF tr))), (ad 7, .inl (cI, 910, .inl (nF ro))), (bd 0, .inr (2, [.ref (ad 5), .ref (ad 0), .ref (bd 1), .ref (bd 2), .ref (bd 3)])), (bd 1, .inl (cI, 9, .inl (nF mm))), (bd 2, .inl (cI, 9, .inl (nF (upN (upN (upN me 0 (cofq q mm 0 0)) 3 (cofq q mm 0 1)) 6 (cofq q mm 0 2))))), (bd 3, .inl (cZ, 91, .inl (bF rc)))] := hD
  refine lv_iinc (v := nI 3) (lv' := [(2, .int (nI 3)), (1, .int (nI 0)), (0, .ref (bd 0))]) hx hb dX2_turnBack_30 hl (k := 0) rfl (nI_inc 2) (by decide) rfl (fun ls hl => ?_)
  refine lv_goto (tgt := 9) hx hb dX2_turnBack_33 (by decide) ?_
  refine lv_iload_n hx hb dX2_turnBack_9 rfl (lv_at hl 0 rfl) ?_
  refine lv_iconst (v := nI 3) hx hb dX2_turnBack_10 (by decide) ?_
  refine nv_icmp_ge (tgt := 36) hx hb (by decide) (by decide) dX2_turnBack_11 (by decide) (fun c11 => ?_) (fun c11 => absurd c11 (by omega))
  refine lv_iinc (v := nI 1) (lv' := [(1, .int (nI 1)), (2, .int (nI 3)), (0, .ref (bd 0))]) hx hb dX2_turnBack_36 hl (k := 1) rfl (nI_inc 0) (by decide) rfl (fun ls hl => ?_)
  refine lv_goto (tgt := 2) hx hb dX2_turnBack_39 (by decide) ?_
  refine lv_iload_n hx hb dX2_turnBack_2 rfl (lv_at hl 0 rfl) ?_
  refine lv_iconst (v := nI 3) hx hb dX2_turnBack_3 (by decide) ?_
  refine nv_icmp_ge (tgt := 42) hx hb (by decide) (by decide) dX2_turnBack_4 (by decide) (fun c4 => absurd c4 (by omega)) (fun c4 => ?_)
  refine lv_iconst (v := nI 0) hx hb dX2_turnBack_7 (by decide) ?_
  refine lv_istore_n (lv' := [(2, .int (nI 0)), (1, .int (nI 1)), (0, .ref (bd 0))]) hx hb dX2_turnBack_8 rfl hl (by decide) rfl (fun ls hl => ?_)
  refine lv_iload_n hx hb dX2_turnBack_9 rfl (lv_at hl 0 rfl) ?_
  refine lv_iconst (v := nI 3) hx hb dX2_turnBack_10 (by decide) ?_
  refine nv_icmp_ge (tgt := 36) hx hb (by decide) (by decide) dX2_turnBack_11 (by decide) (fun c11 => absurd c11 (by omega)) (fun c11 => ?_)
  refine lv_aload_n hx hb dX2_turnBack_14 rfl (lv_at hl 2 rfl) ?_
  refine va_get (D := D) (ci := 2) (v := .ref (bd 2)) (C := RX2) (T := TX2) (N := 5) hx hb hts hiX2 hown hK hP 8 rfl rfl 3 (by decide) hf15 (fun _ h9 => h9) rfl dX2_turnBack_15 ?_
  refine lv_iconst (v := nI 3) hx hb dX2_turnBack_18 (by decide) ?_
  refine lv_iload_n hx hb dX2_turnBack_19 rfl (lv_at hl 0 rfl) ?_
  refine nv_mulE (r := 0) hx hb rfl dX2_turnBack_20 ?_
  refine lv_iload_n hx hb dX2_turnBack_21 rfl (lv_at hl 1 rfl) ?_
  refine nv_addE (r := 1) hx hb rfl dX2_turnBack_22 ?_
  refine lv_aload_n hx hb dX2_turnBack_23 rfl (lv_at hl 2 rfl) ?_
  refine lv_iload_n hx hb dX2_turnBack_24 rfl (lv_at hl 1 rfl) ?_
  refine lv_iload_n hx hb dX2_turnBack_25 rfl (lv_at hl 0 rfl) ?_
  refine ctR_V (As := [.int (nI 1), .int (nI 0)]) (rest := [.int (nI 1), .ref (bd 2)]) (r := .int (nI (cofq q mm 1 0))) ⟨hx, hb, hml, hown, hts⟩ (c_X2_cofactor l D cI cZ ad q sm pr op iv hF tr ro hT bd mm (upN (upN (upN me 0 (cofq q mm 0 0)) 3 (cofq q mm 0 1)) 6 (cofq q mm 0 2)) rc k_m 1 0 (by omega) (by omega)) (cwV 2 hts gX2_turnBack_X2_cofactor rfl rfl rfl hdV_X2_cofactor ⟨Nat.le_of_ble_eq_true rfl, Nat.le_of_ble_eq_true rfl⟩) hK hN hP [0, 1, 2, 3, 4, 5, 6, 7, 8, 9, 10, 11] rfl 8 2 rfl rfl rfl hl.1 rfl (Nat.le_of_ble_eq_true rfl) ⟨Nat.zero_le _, Nat.zero_le _⟩ dX2_turnBack_26 ?_
  have hh_4 : cofq q mm 1 0 < q := cofq_lt hF.1 k_m
  refine nv_iast hx hb hK hP hD hS 10 0 rfl rfl (by omega) (by decide) dX2_turnBack_29 (fun H locs hP hD hS => ?_)
  have hP : va_P D vwCl [(ad 0, .inr (1, [.int (nI q), .ref (ad 1), .ref (ad 2), .ref (ad 3), .ref (ad 4)])), (ad 1, .inl (cI, 81, .inl (nF sm))), (ad 2, .inl (cI, 81, .inl (nF pr))), (ad 3, .inl (cI, 9, .inl (nF op))), (ad 4, .inl (cI, 9, .inl (nF iv))), (ad 5, .inr (3, [.ref (ad 0), .int (nI (nn q)), .ref (ad 6), .ref (ad 7)])), (ad 6, .inl (cI, 273, .inl (nF tr))), (ad 7, .inl (cI, 910, .inl (nF ro))), (bd 0, .inr (2, [.ref (ad 5), .ref (ad 0), .ref (bd 1), .ref (bd 2), .ref (bd 3)])), (bd 1, .inl (cI, 9, .inl (nF mm))), (bd 2, .inl (cI, 9, .inl (nF (upN (upN (upN (upN me 0 (cofq q mm 0 0)) 3 (cofq q mm 0 1)) 6 (cofq q mm 0 2)) 1 (cofq q mm 1 0))))), (bd 3, .inl (cZ, 91, .inl (bF rc)))] H := hP
  have hD : va_D A [(ad 0, .inr (1, [.int (nI q), .ref (ad 1), .ref (ad 2), .ref (ad 3), .ref (ad 4)])), (ad 1, .inl (cI, 81, .inl (nF sm))), (ad 2, .inl (cI, 81, .inl (nF pr))), (ad 3, .inl (cI, 9, .inl (nF op))), (ad 4, .inl (cI, 9, .inl (nF iv))), (ad 5, .inr (3, [.ref (ad 0), .int (nI (nn q)), .ref (ad 6), .ref (ad 7)])), (ad 6, .inl (cI, 273, .inl (nF tr))), (ad 7, .inl (cI, 910, .inl (nF ro))), (bd 0, .inr (2, [.ref (ad 5), .ref (ad 0), .ref (bd 1), .ref (bd 2), .ref (bd 3)])), (bd 1, .inl (cI, 9, .inl (nF mm))), (bd 2, .inl (cI, 9, .inl (nF (upN (upN (upN (upN me 0 (cofq q mm 0 0)) 3 (cofq q mm 0 1)) 6 (cofq q mm 0 2)) 1 (cofq q mm 1 0))))), (bd 3, .inl (cZ, 91, .inl (bF rc)))] := hD
  refine lv_iinc (v := nI 1) (lv' := [(2, .int (nI 1)), (1, .int (nI 1)), (0, .ref (bd 0))]) hx hb dX2_turnBack_30 hl (k := 0) rfl (nI_inc 0) (by decide) rfl (fun ls hl => ?_)
  refine lv_goto (tgt := 9) hx hb dX2_turnBack_33 (by decide) ?_
  refine lv_iload_n hx hb dX2_turnBack_9 rfl (lv_at hl 0 rfl) ?_
  refine lv_iconst (v := nI 3) hx hb dX2_turnBack_10 (by decide) ?_
  refine nv_icmp_ge (tgt := 36) hx hb (by decide) (by decide) dX2_turnBack_11 (by decide) (fun c11 => absurd c11 (by omega)) (fun c11 => ?_)
  refine lv_aload_n hx hb dX2_turnBack_14 rfl (lv_at hl 2 rfl) ?_
  refine va_get (D := D) (ci := 2) (v := .ref (bd 2)) (C := RX2) (T := TX2) (N := 5) hx hb hts hiX2 hown hK hP 8 rfl rfl 3 (by decide) hf15 (fun _ h9 => h9) rfl dX2_turnBack_15 ?_
  refine lv_iconst (v := nI 3) hx hb dX2_turnBack_18 (by decide) ?_
  refine lv_iload_n hx hb dX2_turnBack_19 rfl (lv_at hl 0 rfl) ?_
  refine nv_mulE (r := 3) hx hb rfl dX2_turnBack_20 ?_
  refine lv_iload_n hx hb dX2_turnBack_21 rfl (lv_at hl 1 rfl) ?_
  refine nv_addE (r := 4) hx hb rfl dX2_turnBack_22 ?_
  refine lv_aload_n hx hb dX2_turnBack_23 rfl (lv_at hl 2 rfl) ?_
  refine lv_iload_n hx hb dX2_turnBack_24 rfl (lv_at hl 1 rfl) ?_
  refine lv_iload_n hx hb dX2_turnBack_25 rfl (lv_at hl 0 rfl) ?_
  refine ctR_V (As := [.int (nI 1), .int (nI 1)]) (rest := [.int (nI 4), .ref (bd 2)]) (r := .int (nI (cofq q mm 1 1))) ⟨hx, hb, hml, hown, hts⟩ (c_X2_cofactor l D cI cZ ad q sm pr op iv hF tr ro hT bd mm (upN (upN (upN (upN me 0 (cofq q mm 0 0)) 3 (cofq q mm 0 1)) 6 (cofq q mm 0 2)) 1 (cofq q mm 1 0)) rc k_m 1 1 (by omega) (by omega)) (cwV 2 hts gX2_turnBack_X2_cofactor rfl rfl rfl hdV_X2_cofactor ⟨Nat.le_of_ble_eq_true rfl, Nat.le_of_ble_eq_true rfl⟩) hK hN hP [0, 1, 2, 3, 4, 5, 6, 7, 8, 9, 10, 11] rfl 8 2 rfl rfl rfl hl.1 rfl (Nat.le_of_ble_eq_true rfl) ⟨Nat.zero_le _, Nat.zero_le _⟩ dX2_turnBack_26 ?_
  have hh_5 : cofq q mm 1 1 < q := cofq_lt hF.1 k_m
  refine nv_iast hx hb hK hP hD hS 10 0 rfl rfl (by omega) (by decide) dX2_turnBack_29 (fun H locs hP hD hS => ?_)
  have hP : va_P D vwCl [(ad 0, .inr (1, [.int (nI q), .ref (ad 1), .ref (ad 2), .ref (ad 3), .ref (ad 4)])), (ad 1, .inl (cI, 81, .inl (nF sm))), (ad 2, .inl (cI, 81, .inl (nF pr))), (ad 3, .inl (cI, 9, .inl (nF op))), (ad 4, .inl (cI, 9, .inl (nF iv))), (ad 5, .inr (3, [.ref (ad 0), .int (nI (nn q)), .ref (ad 6), .ref (ad 7)])), (ad 6, .inl (cI, 273, .inl (nF tr))), (ad 7, .inl (cI, 910, .inl (nF ro))), (bd 0, .inr (2, [.ref (ad 5), .ref (ad 0), .ref (bd 1), .ref (bd 2), .ref (bd 3)])), (bd 1, .inl (cI, 9, .inl (nF mm))), (bd 2, .inl (cI, 9, .inl (nF (upN (upN (upN (upN (upN me 0 (cofq q mm 0 0)) 3 (cofq q mm 0 1)) 6 (cofq q mm 0 2)) 1 (cofq q mm 1 0)) 4 (cofq q mm 1 1))))), (bd 3, .inl (cZ, 91, .inl (bF rc)))] H := hP
  have hD : va_D A [(ad 0, .inr (1, [.int (nI q), .ref (ad 1), .ref (ad 2), .ref (ad 3), .ref (ad 4)])), (ad 1, .inl (cI, 81, .inl (nF sm))), (ad 2, .inl (cI, 81, .inl (nF pr))), (ad 3, .inl (cI, 9, .inl (nF op))), (ad 4, .inl (cI, 9, .inl (nF iv))), (ad 5, .inr (3, [.ref (ad 0), .int (nI (nn q)), .ref (ad 6), .ref (ad 7)])), (ad 6, .inl (cI, 273, .inl (nF tr))), (ad 7, .inl (cI, 910, .inl (nF ro))), (bd 0, .inr (2, [.ref (ad 5), .ref (ad 0), .ref (bd 1), .ref (bd 2), .ref (bd 3)])), (bd 1, .inl (cI, 9, .inl (nF mm))), (bd 2, .inl (cI, 9, .inl (nF (upN (upN (upN (upN (upN me 0 (cofq q mm 0 0)) 3 (cofq q mm 0 1)) 6 (cofq q mm 0 2)) 1 (cofq q mm 1 0)) 4 (cofq q mm 1 1))))), (bd 3, .inl (cZ, 91, .inl (bF rc)))] := hD
  refine lv_iinc (v := nI 2) (lv' := [(2, .int (nI 2)), (1, .int (nI 1)), (0, .ref (bd 0))]) hx hb dX2_turnBack_30 hl (k := 0) rfl (nI_inc 1) (by decide) rfl (fun ls hl => ?_)
  refine lv_goto (tgt := 9) hx hb dX2_turnBack_33 (by decide) ?_
  refine lv_iload_n hx hb dX2_turnBack_9 rfl (lv_at hl 0 rfl) ?_
  refine lv_iconst (v := nI 3) hx hb dX2_turnBack_10 (by decide) ?_
  refine nv_icmp_ge (tgt := 36) hx hb (by decide) (by decide) dX2_turnBack_11 (by decide) (fun c11 => absurd c11 (by omega)) (fun c11 => ?_)
  refine lv_aload_n hx hb dX2_turnBack_14 rfl (lv_at hl 2 rfl) ?_
  refine va_get (D := D) (ci := 2) (v := .ref (bd 2)) (C := RX2) (T := TX2) (N := 5) hx hb hts hiX2 hown hK hP 8 rfl rfl 3 (by decide) hf15 (fun _ h9 => h9) rfl dX2_turnBack_15 ?_
  refine lv_iconst (v := nI 3) hx hb dX2_turnBack_18 (by decide) ?_
  refine lv_iload_n hx hb dX2_turnBack_19 rfl (lv_at hl 0 rfl) ?_
  refine nv_mulE (r := 6) hx hb rfl dX2_turnBack_20 ?_
  refine lv_iload_n hx hb dX2_turnBack_21 rfl (lv_at hl 1 rfl) ?_
  refine nv_addE (r := 7) hx hb rfl dX2_turnBack_22 ?_
  refine lv_aload_n hx hb dX2_turnBack_23 rfl (lv_at hl 2 rfl) ?_
  refine lv_iload_n hx hb dX2_turnBack_24 rfl (lv_at hl 1 rfl) ?_
  refine lv_iload_n hx hb dX2_turnBack_25 rfl (lv_at hl 0 rfl) ?_
  refine ctR_V (As := [.int (nI 1), .int (nI 2)]) (rest := [.int (nI 7), .ref (bd 2)]) (r := .int (nI (cofq q mm 1 2))) ⟨hx, hb, hml, hown, hts⟩ (c_X2_cofactor l D cI cZ ad q sm pr op iv hF tr ro hT bd mm (upN (upN (upN (upN (upN me 0 (cofq q mm 0 0)) 3 (cofq q mm 0 1)) 6 (cofq q mm 0 2)) 1 (cofq q mm 1 0)) 4 (cofq q mm 1 1)) rc k_m 1 2 (by omega) (by omega)) (cwV 2 hts gX2_turnBack_X2_cofactor rfl rfl rfl hdV_X2_cofactor ⟨Nat.le_of_ble_eq_true rfl, Nat.le_of_ble_eq_true rfl⟩) hK hN hP [0, 1, 2, 3, 4, 5, 6, 7, 8, 9, 10, 11] rfl 8 2 rfl rfl rfl hl.1 rfl (Nat.le_of_ble_eq_true rfl) ⟨Nat.zero_le _, Nat.zero_le _⟩ dX2_turnBack_26 ?_
  have hh_6 : cofq q mm 1 2 < q := cofq_lt hF.1 k_m
  refine nv_iast hx hb hK hP hD hS 10 0 rfl rfl (by omega) (by decide) dX2_turnBack_29 (fun H locs hP hD hS => ?_)
  have hP : va_P D vwCl [(ad 0, .inr (1, [.int (nI q), .ref (ad 1), .ref (ad 2), .ref (ad 3), .ref (ad 4)])), (ad 1, .inl (cI, 81, .inl (nF sm))), (ad 2, .inl (cI, 81, .inl (nF pr))), (ad 3, .inl (cI, 9, .inl (nF op))), (ad 4, .inl (cI, 9, .inl (nF iv))), (ad 5, .inr (3, [.ref (ad 0), .int (nI (nn q)), .ref (ad 6), .ref (ad 7)])), (ad 6, .inl (cI, 273, .inl (nF tr))), (ad 7, .inl (cI, 910, .inl (nF ro))), (bd 0, .inr (2, [.ref (ad 5), .ref (ad 0), .ref (bd 1), .ref (bd 2), .ref (bd 3)])), (bd 1, .inl (cI, 9, .inl (nF mm))), (bd 2, .inl (cI, 9, .inl (nF (upN (upN (upN (upN (upN (upN me 0 (cofq q mm 0 0)) 3 (cofq q mm 0 1)) 6 (cofq q mm 0 2)) 1 (cofq q mm 1 0)) 4 (cofq q mm 1 1)) 7 (cofq q mm 1 2))))), (bd 3, .inl (cZ, 91, .inl (bF rc)))] H := hP
  have hD : va_D A [(ad 0, .inr (1, [.int (nI q), .ref (ad 1), .ref (ad 2), .ref (ad 3), .ref (ad 4)])), (ad 1, .inl (cI, 81, .inl (nF sm))), (ad 2, .inl (cI, 81, .inl (nF pr))), (ad 3, .inl (cI, 9, .inl (nF op))), (ad 4, .inl (cI, 9, .inl (nF iv))), (ad 5, .inr (3, [.ref (ad 0), .int (nI (nn q)), .ref (ad 6), .ref (ad 7)])), (ad 6, .inl (cI, 273, .inl (nF tr))), (ad 7, .inl (cI, 910, .inl (nF ro))), (bd 0, .inr (2, [.ref (ad 5), .ref (ad 0), .ref (bd 1), .ref (bd 2), .ref (bd 3)])), (bd 1, .inl (cI, 9, .inl (nF mm))), (bd 2, .inl (cI, 9, .inl (nF (upN (upN (upN (upN (upN (upN me 0 (cofq q mm 0 0)) 3 (cofq q mm 0 1)) 6 (cofq q mm 0 2)) 1 (cofq q mm 1 0)) 4 (cofq q mm 1 1)) 7 (cofq q mm 1 2))))), (bd 3, .inl (cZ, 91, .inl (bF rc)))] := hD
  refine lv_iinc (v := nI 3) (lv' := [(2, .int (nI 3)), (1, .int (nI 1)), (0, .ref (bd 0))]) hx hb dX2_turnBack_30 hl (k := 0) rfl (nI_inc 2) (by decide) rfl (fun ls hl => ?_)
  refine lv_goto (tgt := 9) hx hb dX2_turnBack_33 (by decide) ?_
  refine lv_iload_n hx hb dX2_turnBack_9 rfl (lv_at hl 0 rfl) ?_
  refine lv_iconst (v := nI 3) hx hb dX2_turnBack_10 (by decide) ?_
  refine nv_icmp_ge (tgt := 36) hx hb (by decide) (by decide) dX2_turnBack_11 (by decide) (fun c11 => ?_) (fun c11 => absurd c11 (by omega))
  refine lv_iinc (v := nI 2) (lv' := [(1, .int (nI 2)), (2, .int (nI 3)), (0, .ref (bd 0))]) hx hb dX2_turnBack_36 hl (k := 1) rfl (nI_inc 1) (by decide) rfl (fun ls hl => ?_)
  refine lv_goto (tgt := 2) hx hb dX2_turnBack_39 (by decide) ?_
  refine lv_iload_n hx hb dX2_turnBack_2 rfl (lv_at hl 0 rfl) ?_
  refine lv_iconst (v := nI 3) hx hb dX2_turnBack_3 (by decide) ?_
  refine nv_icmp_ge (tgt := 42) hx hb (by decide) (by decide) dX2_turnBack_4 (by decide) (fun c4 => absurd c4 (by omega)) (fun c4 => ?_)
  refine lv_iconst (v := nI 0) hx hb dX2_turnBack_7 (by decide) ?_
  refine lv_istore_n (lv' := [(2, .int (nI 0)), (1, .int (nI 2)), (0, .ref (bd 0))]) hx hb dX2_turnBack_8 rfl hl (by decide) rfl (fun ls hl => ?_)
  refine lv_iload_n hx hb dX2_turnBack_9 rfl (lv_at hl 0 rfl) ?_
  refine lv_iconst (v := nI 3) hx hb dX2_turnBack_10 (by decide) ?_
  refine nv_icmp_ge (tgt := 36) hx hb (by decide) (by decide) dX2_turnBack_11 (by decide) (fun c11 => absurd c11 (by omega)) (fun c11 => ?_)
  refine lv_aload_n hx hb dX2_turnBack_14 rfl (lv_at hl 2 rfl) ?_
  refine va_get (D := D) (ci := 2) (v := .ref (bd 2)) (C := RX2) (T := TX2) (N := 5) hx hb hts hiX2 hown hK hP 8 rfl rfl 3 (by decide) hf15 (fun _ h9 => h9) rfl dX2_turnBack_15 ?_
  refine lv_iconst (v := nI 3) hx hb dX2_turnBack_18 (by decide) ?_
  refine lv_iload_n hx hb dX2_turnBack_19 rfl (lv_at hl 0 rfl) ?_
  refine nv_mulE (r := 0) hx hb rfl dX2_turnBack_20 ?_
  refine lv_iload_n hx hb dX2_turnBack_21 rfl (lv_at hl 1 rfl) ?_
  refine nv_addE (r := 2) hx hb rfl dX2_turnBack_22 ?_
  refine lv_aload_n hx hb dX2_turnBack_23 rfl (lv_at hl 2 rfl) ?_
  refine lv_iload_n hx hb dX2_turnBack_24 rfl (lv_at hl 1 rfl) ?_
  refine lv_iload_n hx hb dX2_turnBack_25 rfl (lv_at hl 0 rfl) ?_
  refine ctR_V (As := [.int (nI 2), .int (nI 0)]) (rest := [.int (nI 2), .ref (bd 2)]) (r := .int (nI (cofq q mm 2 0))) ⟨hx, hb, hml, hown, hts⟩ (c_X2_cofactor l D cI cZ ad q sm pr op iv hF tr ro hT bd mm (upN (upN (upN (upN (upN (upN me 0 (cofq q mm 0 0)) 3 (cofq q mm 0 1)) 6 (cofq q mm 0 2)) 1 (cofq q mm 1 0)) 4 (cofq q mm 1 1)) 7 (cofq q mm 1 2)) rc k_m 2 0 (by omega) (by omega)) (cwV 2 hts gX2_turnBack_X2_cofactor rfl rfl rfl hdV_X2_cofactor ⟨Nat.le_of_ble_eq_true rfl, Nat.le_of_ble_eq_true rfl⟩) hK hN hP [0, 1, 2, 3, 4, 5, 6, 7, 8, 9, 10, 11] rfl 8 2 rfl rfl rfl hl.1 rfl (Nat.le_of_ble_eq_true rfl) ⟨Nat.zero_le _, Nat.zero_le _⟩ dX2_turnBack_26 ?_
  have hh_7 : cofq q mm 2 0 < q := cofq_lt hF.1 k_m
  refine nv_iast hx hb hK hP hD hS 10 0 rfl rfl (by omega) (by decide) dX2_turnBack_29 (fun H locs hP hD hS => ?_)
  have hP : va_P D vwCl [(ad 0, .inr (1, [.int (nI q), .ref (ad 1), .ref (ad 2), .ref (ad 3), .ref (ad 4)])), (ad 1, .inl (cI, 81, .inl (nF sm))), (ad 2, .inl (cI, 81, .inl (nF pr))), (ad 3, .inl (cI, 9, .inl (nF op))), (ad 4, .inl (cI, 9, .inl (nF iv))), (ad 5, .inr (3, [.ref (ad 0), .int (nI (nn q)), .ref (ad 6), .ref (ad 7)])), (ad 6, .inl (cI, 273, .inl (nF tr))), (ad 7, .inl (cI, 910, .inl (nF ro))), (bd 0, .inr (2, [.ref (ad 5), .ref (ad 0), .ref (bd 1), .ref (bd 2), .ref (bd 3)])), (bd 1, .inl (cI, 9, .inl (nF mm))), (bd 2, .inl (cI, 9, .inl (nF (upN (upN (upN (upN (upN (upN (upN me 0 (cofq q mm 0 0)) 3 (cofq q mm 0 1)) 6 (cofq q mm 0 2)) 1 (cofq q mm 1 0)) 4 (cofq q mm 1 1)) 7 (cofq q mm 1 2)) 2 (cofq q mm 2 0))))), (bd 3, .inl (cZ, 91, .inl (bF rc)))] H := hP
  have hD : va_D A [(ad 0, .inr (1, [.int (nI q), .ref (ad 1), .ref (ad 2), .ref (ad 3), .ref (ad 4)])), (ad 1, .inl (cI, 81, .inl (nF sm))), (ad 2, .inl (cI, 81, .inl (nF pr))), (ad 3, .inl (cI, 9, .inl (nF op))), (ad 4, .inl (cI, 9, .inl (nF iv))), (ad 5, .inr (3, [.ref (ad 0), .int (nI (nn q)), .ref (ad 6), .ref (ad 7)])), (ad 6, .inl (cI, 273, .inl (nF tr))), (ad 7, .inl (cI, 910, .inl (nF ro))), (bd 0, .inr (2, [.ref (ad 5), .ref (ad 0), .ref (bd 1), .ref (bd 2), .ref (bd 3)])), (bd 1, .inl (cI, 9, .inl (nF mm))), (bd 2, .inl (cI, 9, .inl (nF (upN (upN (upN (upN (upN (upN (upN me 0 (cofq q mm 0 0)) 3 (cofq q mm 0 1)) 6 (cofq q mm 0 2)) 1 (cofq q mm 1 0)) 4 (cofq q mm 1 1)) 7 (cofq q mm 1 2)) 2 (cofq q mm 2 0))))), (bd 3, .inl (cZ, 91, .inl (bF rc)))] := hD
  refine lv_iinc (v := nI 1) (lv' := [(2, .int (nI 1)), (1, .int (nI 2)), (0, .ref (bd 0))]) hx hb dX2_turnBack_30 hl (k := 0) rfl (nI_inc 0) (by decide) rfl (fun ls hl => ?_)
  refine lv_goto (tgt := 9) hx hb dX2_turnBack_33 (by decide) ?_
  refine lv_iload_n hx hb dX2_turnBack_9 rfl (lv_at hl 0 rfl) ?_
  refine lv_iconst (v := nI 3) hx hb dX2_turnBack_10 (by decide) ?_
  refine nv_icmp_ge (tgt := 36) hx hb (by decide) (by decide) dX2_turnBack_11 (by decide) (fun c11 => absurd c11 (by omega)) (fun c11 => ?_)
  refine lv_aload_n hx hb dX2_turnBack_14 rfl (lv_at hl 2 rfl) ?_
  refine va_get (D := D) (ci := 2) (v := .ref (bd 2)) (C := RX2) (T := TX2) (N := 5) hx hb hts hiX2 hown hK hP 8 rfl rfl 3 (by decide) hf15 (fun _ h9 => h9) rfl dX2_turnBack_15 ?_
  refine lv_iconst (v := nI 3) hx hb dX2_turnBack_18 (by decide) ?_
  refine lv_iload_n hx hb dX2_turnBack_19 rfl (lv_at hl 0 rfl) ?_
  refine nv_mulE (r := 3) hx hb rfl dX2_turnBack_20 ?_
  refine lv_iload_n hx hb dX2_turnBack_21 rfl (lv_at hl 1 rfl) ?_
  refine nv_addE (r := 5) hx hb rfl dX2_turnBack_22 ?_
  refine lv_aload_n hx hb dX2_turnBack_23 rfl (lv_at hl 2 rfl) ?_
  refine lv_iload_n hx hb dX2_turnBack_24 rfl (lv_at hl 1 rfl) ?_
  refine lv_iload_n hx hb dX2_turnBack_25 rfl (lv_at hl 0 rfl) ?_
  refine ctR_V (As := [.int (nI 2), .int (nI 1)]) (rest := [.int (nI 5), .ref (bd 2)]) (r := .int (nI (cofq q mm 2 1))) ⟨hx, hb, hml, hown, hts⟩ (c_X2_cofactor l D cI cZ ad q sm pr op iv hF tr ro hT bd mm (upN (upN (upN (upN (upN (upN (upN me 0 (cofq q mm 0 0)) 3 (cofq q mm 0 1)) 6 (cofq q mm 0 2)) 1 (cofq q mm 1 0)) 4 (cofq q mm 1 1)) 7 (cofq q mm 1 2)) 2 (cofq q mm 2 0)) rc k_m 2 1 (by omega) (by omega)) (cwV 2 hts gX2_turnBack_X2_cofactor rfl rfl rfl hdV_X2_cofactor ⟨Nat.le_of_ble_eq_true rfl, Nat.le_of_ble_eq_true rfl⟩) hK hN hP [0, 1, 2, 3, 4, 5, 6, 7, 8, 9, 10, 11] rfl 8 2 rfl rfl rfl hl.1 rfl (Nat.le_of_ble_eq_true rfl) ⟨Nat.zero_le _, Nat.zero_le _⟩ dX2_turnBack_26 ?_
  have hh_8 : cofq q mm 2 1 < q := cofq_lt hF.1 k_m
  refine nv_iast hx hb hK hP hD hS 10 0 rfl rfl (by omega) (by decide) dX2_turnBack_29 (fun H locs hP hD hS => ?_)
  have hP : va_P D vwCl [(ad 0, .inr (1, [.int (nI q), .ref (ad 1), .ref (ad 2), .ref (ad 3), .ref (ad 4)])), (ad 1, .inl (cI, 81, .inl (nF sm))), (ad 2, .inl (cI, 81, .inl (nF pr))), (ad 3, .inl (cI, 9, .inl (nF op))), (ad 4, .inl (cI, 9, .inl (nF iv))), (ad 5, .inr (3, [.ref (ad 0), .int (nI (nn q)), .ref (ad 6), .ref (ad 7)])), (ad 6, .inl (cI, 273, .inl (nF tr))), (ad 7, .inl (cI, 910, .inl (nF ro))), (bd 0, .inr (2, [.ref (ad 5), .ref (ad 0), .ref (bd 1), .ref (bd 2), .ref (bd 3)])), (bd 1, .inl (cI, 9, .inl (nF mm))), (bd 2, .inl (cI, 9, .inl (nF (upN (upN (upN (upN (upN (upN (upN (upN me 0 (cofq q mm 0 0)) 3 (cofq q mm 0 1)) 6 (cofq q mm 0 2)) 1 (cofq q mm 1 0)) 4 (cofq q mm 1 1)) 7 (cofq q mm 1 2)) 2 (cofq q mm 2 0)) 5 (cofq q mm 2 1))))), (bd 3, .inl (cZ, 91, .inl (bF rc)))] H := hP
  have hD : va_D A [(ad 0, .inr (1, [.int (nI q), .ref (ad 1), .ref (ad 2), .ref (ad 3), .ref (ad 4)])), (ad 1, .inl (cI, 81, .inl (nF sm))), (ad 2, .inl (cI, 81, .inl (nF pr))), (ad 3, .inl (cI, 9, .inl (nF op))), (ad 4, .inl (cI, 9, .inl (nF iv))), (ad 5, .inr (3, [.ref (ad 0), .int (nI (nn q)), .ref (ad 6), .ref (ad 7)])), (ad 6, .inl (cI, 273, .inl (nF tr))), (ad 7, .inl (cI, 910, .inl (nF ro))), (bd 0, .inr (2, [.ref (ad 5), .ref (ad 0), .ref (bd 1), .ref (bd 2), .ref (bd 3)])), (bd 1, .inl (cI, 9, .inl (nF mm))), (bd 2, .inl (cI, 9, .inl (nF (upN (upN (upN (upN (upN (upN (upN (upN me 0 (cofq q mm 0 0)) 3 (cofq q mm 0 1)) 6 (cofq q mm 0 2)) 1 (cofq q mm 1 0)) 4 (cofq q mm 1 1)) 7 (cofq q mm 1 2)) 2 (cofq q mm 2 0)) 5 (cofq q mm 2 1))))), (bd 3, .inl (cZ, 91, .inl (bF rc)))] := hD
  refine lv_iinc (v := nI 2) (lv' := [(2, .int (nI 2)), (1, .int (nI 2)), (0, .ref (bd 0))]) hx hb dX2_turnBack_30 hl (k := 0) rfl (nI_inc 1) (by decide) rfl (fun ls hl => ?_)
  refine lv_goto (tgt := 9) hx hb dX2_turnBack_33 (by decide) ?_
  refine lv_iload_n hx hb dX2_turnBack_9 rfl (lv_at hl 0 rfl) ?_
  refine lv_iconst (v := nI 3) hx hb dX2_turnBack_10 (by decide) ?_
  refine nv_icmp_ge (tgt := 36) hx hb (by decide) (by decide) dX2_turnBack_11 (by decide) (fun c11 => absurd c11 (by omega)) (fun c11 => ?_)
  refine lv_aload_n hx hb dX2_turnBack_14 rfl (lv_at hl 2 rfl) ?_
  refine va_get (D := D) (ci := 2) (v := .ref (bd 2)) (C := RX2) (T := TX2) (N := 5) hx hb hts hiX2 hown hK hP 8 rfl rfl 3 (by decide) hf15 (fun _ h9 => h9) rfl dX2_turnBack_15 ?_
  refine lv_iconst (v := nI 3) hx hb dX2_turnBack_18 (by decide) ?_
  refine lv_iload_n hx hb dX2_turnBack_19 rfl (lv_at hl 0 rfl) ?_
  refine nv_mulE (r := 6) hx hb rfl dX2_turnBack_20 ?_
  refine lv_iload_n hx hb dX2_turnBack_21 rfl (lv_at hl 1 rfl) ?_
  refine nv_addE (r := 8) hx hb rfl dX2_turnBack_22 ?_
  refine lv_aload_n hx hb dX2_turnBack_23 rfl (lv_at hl 2 rfl) ?_
  refine lv_iload_n hx hb dX2_turnBack_24 rfl (lv_at hl 1 rfl) ?_
  refine lv_iload_n hx hb dX2_turnBack_25 rfl (lv_at hl 0 rfl) ?_
  refine ctR_V (As := [.int (nI 2), .int (nI 2)]) (rest := [.int (nI 8), .ref (bd 2)]) (r := .int (nI (cofq q mm 2 2))) ⟨hx, hb, hml, hown, hts⟩ (c_X2_cofactor l D cI cZ ad q sm pr op iv hF tr ro hT bd mm (upN (upN (upN (upN (upN (upN (upN (upN me 0 (cofq q mm 0 0)) 3 (cofq q mm 0 1)) 6 (cofq q mm 0 2)) 1 (cofq q mm 1 0)) 4 (cofq q mm 1 1)) 7 (cofq q mm 1 2)) 2 (cofq q mm 2 0)) 5 (cofq q mm 2 1)) rc k_m 2 2 (by omega) (by omega)) (cwV 2 hts gX2_turnBack_X2_cofactor rfl rfl rfl hdV_X2_cofactor ⟨Nat.le_of_ble_eq_true rfl, Nat.le_of_ble_eq_true rfl⟩) hK hN hP [0, 1, 2, 3, 4, 5, 6, 7, 8, 9, 10, 11] rfl 8 2 rfl rfl rfl hl.1 rfl (Nat.le_of_ble_eq_true rfl) ⟨Nat.zero_le _, Nat.zero_le _⟩ dX2_turnBack_26 ?_
  have hh_9 : cofq q mm 2 2 < q := cofq_lt hF.1 k_m
  refine nv_iast hx hb hK hP hD hS 10 0 rfl rfl (by omega) (by decide) dX2_turnBack_29 (fun H locs hP hD hS => ?_)
  have hP : va_P D vwCl [(ad 0, .inr (1, [.int (nI q), .ref (ad 1), .ref (ad 2), .ref (ad 3), .ref (ad 4)])), (ad 1, .inl (cI, 81, .inl (nF sm))), (ad 2, .inl (cI, 81, .inl (nF pr))), (ad 3, .inl (cI, 9, .inl (nF op))), (ad 4, .inl (cI, 9, .inl (nF iv))), (ad 5, .inr (3, [.ref (ad 0), .int (nI (nn q)), .ref (ad 6), .ref (ad 7)])), (ad 6, .inl (cI, 273, .inl (nF tr))), (ad 7, .inl (cI, 910, .inl (nF ro))), (bd 0, .inr (2, [.ref (ad 5), .ref (ad 0), .ref (bd 1), .ref (bd 2), .ref (bd 3)])), (bd 1, .inl (cI, 9, .inl (nF mm))), (bd 2, .inl (cI, 9, .inl (nF (upN (upN (upN (upN (upN (upN (upN (upN (upN me 0 (cofq q mm 0 0)) 3 (cofq q mm 0 1)) 6 (cofq q mm 0 2)) 1 (cofq q mm 1 0)) 4 (cofq q mm 1 1)) 7 (cofq q mm 1 2)) 2 (cofq q mm 2 0)) 5 (cofq q mm 2 1)) 8 (cofq q mm 2 2))))), (bd 3, .inl (cZ, 91, .inl (bF rc)))] H := hP
  have hD : va_D A [(ad 0, .inr (1, [.int (nI q), .ref (ad 1), .ref (ad 2), .ref (ad 3), .ref (ad 4)])), (ad 1, .inl (cI, 81, .inl (nF sm))), (ad 2, .inl (cI, 81, .inl (nF pr))), (ad 3, .inl (cI, 9, .inl (nF op))), (ad 4, .inl (cI, 9, .inl (nF iv))), (ad 5, .inr (3, [.ref (ad 0), .int (nI (nn q)), .ref (ad 6), .ref (ad 7)])), (ad 6, .inl (cI, 273, .inl (nF tr))), (ad 7, .inl (cI, 910, .inl (nF ro))), (bd 0, .inr (2, [.ref (ad 5), .ref (ad 0), .ref (bd 1), .ref (bd 2), .ref (bd 3)])), (bd 1, .inl (cI, 9, .inl (nF mm))), (bd 2, .inl (cI, 9, .inl (nF (upN (upN (upN (upN (upN (upN (upN (upN (upN me 0 (cofq q mm 0 0)) 3 (cofq q mm 0 1)) 6 (cofq q mm 0 2)) 1 (cofq q mm 1 0)) 4 (cofq q mm 1 1)) 7 (cofq q mm 1 2)) 2 (cofq q mm 2 0)) 5 (cofq q mm 2 1)) 8 (cofq q mm 2 2))))), (bd 3, .inl (cZ, 91, .inl (bF rc)))] := hD
  refine lv_iinc (v := nI 3) (lv' := [(2, .int (nI 3)), (1, .int (nI 2)), (0, .ref (bd 0))]) hx hb dX2_turnBack_30 hl (k := 0) rfl (nI_inc 2) (by decide) rfl (fun ls hl => ?_)
  refine lv_goto (tgt := 9) hx hb dX2_turnBack_33 (by decide) ?_
  refine lv_iload_n hx hb dX2_turnBack_9 rfl (lv_at hl 0 rfl) ?_
  refine lv_iconst (v := nI 3) hx hb dX2_turnBack_10 (by decide) ?_
  refine nv_icmp_ge (tgt := 36) hx hb (by decide) (by decide) dX2_turnBack_11 (by decide) (fun c11 => ?_) (fun c11 => absurd c11 (by omega))
  refine lv_iinc (v := nI 3) (lv' := [(1, .int (nI 3)), (2, .int (nI 3)), (0, .ref (bd 0))]) hx hb dX2_turnBack_36 hl (k := 1) rfl (nI_inc 2) (by decide) rfl (fun ls hl => ?_)
  refine lv_goto (tgt := 2) hx hb dX2_turnBack_39 (by decide) ?_
  refine lv_iload_n hx hb dX2_turnBack_2 rfl (lv_at hl 0 rfl) ?_
  refine lv_iconst (v := nI 3) hx hb dX2_turnBack_3 (by decide) ?_
  refine nv_icmp_ge (tgt := 42) hx hb (by decide) (by decide) dX2_turnBack_4 (by decide) (fun c4 => ?_) (fun c4 => absurd c4 (by omega))
  refine lv_aload_n hx hb dX2_turnBack_42 rfl (lv_at hl 2 rfl) ?_
  refine ctW_V (As := []) (rest := []) (wr := [(ad 5, .inr (3, [.ref (ad 0), .int (nI (nn q)), .ref (ad 6), .ref (ad 7)])), (ad 6, .inl (cI, 273, .inl (nF tr))), (ad 7, .inl (cI, 910, .inl (nF ro))), (bd 3, .inl (cZ, 91, .inl (bF rc)))]) ⟨hx, hb, hml, hown, hts⟩ (c_X2_takeMade l D cI cZ ad q sm pr op iv hF bd mm (upN (upN (upN (upN (upN (upN (upN (upN (upN me 0 (cofq q mm 0 0)) 3 (cofq q mm 0 1)) 6 (cofq q mm 0 2)) 1 (cofq q mm 1 0)) 4 (cofq q mm 1 1)) 7 (cofq q mm 1 2)) 2 (cofq q mm 2 0)) 5 (cofq q mm 2 1)) 8 (cofq q mm 2 2)) (all9 (cofq_lt hF.1 k_m) (cofq_lt hF.1 k_m) (cofq_lt hF.1 k_m) (cofq_lt hF.1 k_m) (cofq_lt hF.1 k_m) (cofq_lt hF.1 k_m) (cofq_lt hF.1 k_m) (cofq_lt hF.1 k_m) (cofq_lt hF.1 k_m))) (cwV 0 hts gX2_turnBack_X2_takeMade rfl rfl rfl hdV_X2_takeMade ⟨Nat.le_of_ble_eq_true rfl, Nat.le_of_ble_eq_true rfl⟩) hK hN hP hD hS hA [0, 1, 2, 3, 4, 8, 9, 10] [5, 6, 7, 11] rfl rfl rfl (by decide) (by decide) (by decide) 8 2 rfl rfl rfl hl.1 rfl (Nat.le_of_ble_eq_true rfl) ⟨Nat.zero_le _, Nat.zero_le _⟩ dX2_turnBack_43 (fun mm_10 H locs hu43 hP hD hS => ?_)
  try dsimp only at hu43
  have hP : va_P D vwCl [(ad 0, .inr (1, [.int (nI q), .ref (ad 1), .ref (ad 2), .ref (ad 3), .ref (ad 4)])), (ad 1, .inl (cI, 81, .inl (nF sm))), (ad 2, .inl (cI, 81, .inl (nF pr))), (ad 3, .inl (cI, 9, .inl (nF op))), (ad 4, .inl (cI, 9, .inl (nF iv))), (ad 5, .inr (3, [.ref (ad 0), .int (nI (nn q)), .ref (ad 6), .ref (ad 7)])), (ad 6, .inl (cI, 273, .inl (nF tr))), (ad 7, .inl (cI, 910, .inl (nF ro))), (bd 0, .inr (2, [.ref (ad 5), .ref (ad 0), .ref (bd 1), .ref (bd 2), .ref (bd 3)])), (bd 1, .inl (cI, 9, .inl (nF mm_10))), (bd 2, .inl (cI, 9, .inl (nF (upN (upN (upN (upN (upN (upN (upN (upN (upN me 0 (cofq q mm 0 0)) 3 (cofq q mm 0 1)) 6 (cofq q mm 0 2)) 1 (cofq q mm 1 0)) 4 (cofq q mm 1 1)) 7 (cofq q mm 1 2)) 2 (cofq q mm 2 0)) 5 (cofq q mm 2 1)) 8 (cofq q mm 2 2))))), (bd 3, .inl (cZ, 91, .inl (bF rc)))] H := hP.sub [4, 5, 6, 7, 8, 0, 1, 2, 9, 10, 11, 3] rfl
  have hD : va_D A [(ad 0, .inr (1, [.int (nI q), .ref (ad 1), .ref (ad 2), .ref (ad 3), .ref (ad 4)])), (ad 1, .inl (cI, 81, .inl (nF sm))), (ad 2, .inl (cI, 81, .inl (nF pr))), (ad 3, .inl (cI, 9, .inl (nF op))), (ad 4, .inl (cI, 9, .inl (nF iv))), (ad 5, .inr (3, [.ref (ad 0), .int (nI (nn q)), .ref (ad 6), .ref (ad 7)])), (ad 6, .inl (cI, 273, .inl (nF tr))), (ad 7, .inl (cI, 910, .inl (nF ro))), (bd 0, .inr (2, [.ref (ad 5), .ref (ad 0), .ref (bd 1), .ref (bd 2), .ref (bd 3)])), (bd 1, .inl (cI, 9, .inl (nF mm_10))), (bd 2, .inl (cI, 9, .inl (nF (upN (upN (upN (upN (upN (upN (upN (upN (upN me 0 (cofq q mm 0 0)) 3 (cofq q mm 0 1)) 6 (cofq q mm 0 2)) 1 (cofq q mm 1 0)) 4 (cofq q mm 1 1)) 7 (cofq q mm 1 2)) 2 (cofq q mm 2 0)) 5 (cofq q mm 2 1)) 8 (cofq q mm 2 2))))), (bd 3, .inl (cZ, 91, .inl (bF rc)))] := hD.sub [4, 5, 6, 7, 8, 0, 1, 2, 9, 10, 11, 3] (by decide) rfl
  refine W.eq (g2 := F0 m 46 ls []) rfl ?_
  exact ctW_retV (mm_10, (upN (upN (upN (upN (upN (upN (upN (upN (upN me 0 (cofq q mm 0 0)) 3 (cofq q mm 0 1)) 6 (cofq q mm 0 2)) 1 (cofq q mm 1 0)) 4 (cofq q mm 1 1)) 7 (cofq q mm 1 2)) 2 (cofq q mm 2 0)) 5 (cofq q mm 2 1)) 8 (cofq q mm 2 2))) hx hb hr dX2_turnBack_46 hlocks hS hP hD (by dsimp only; exact (fun t ht => by rw [hu43 t ht]; exact tld_congr ht (all9 rfl rfl rfl rfl rfl rfl rfl rfl rfl))) rfl

set_option maxHeartbeats 4000000 in
set_option maxRecDepth 100000 in
theorem c_X2_setColumn (l : Launch) (D : va_G) (cI cZ : ClassId) (ad : Nat → Nat) (q : Nat) (sm : Nat → Nat) (pr : Nat → Nat) (op : Nat → Nat) (iv : Nat → Nat) (hF : FOK q sm pr op iv) (tr : Nat → Nat) (ro : Nat → Nat) (hT : TOK q tr) (bd : Nat → Nat) (mm : Nat → Nat) (me : Nat → Nat) (rc : Nat → Bool) (j : Nat) (i : Nat) (f : Nat) (k_1 : j < 3) (k_2 : i < nn q) (k_3 : f < q) : CtW (S := Unit) l yX2_setColumn wsX2_setColumn { frames := 1, cells := 0, slots := 0, locals := 22 } D (tyG cI cZ) [.ref (bd 0), .int (nI j), .int (nI i), .int (nI f)] [(ad 0, .inr (1, [.int (nI q), .ref (ad 1), .ref (ad 2), .ref (ad 3), .ref (ad 4)])), (ad 1, .inl (cI, 81, .inl (nF sm))), (ad 2, .inl (cI, 81, .inl (nF pr))), (ad 3, .inl (cI, 9, .inl (nF op))), (ad 4, .inl (cI, 9, .inl (nF iv))), (ad 5, .inr (3, [.ref (ad 0), .int (nI (nn q)), .ref (ad 6), .ref (ad 7)])), (ad 6, .inl (cI, 273, .inl (nF tr))), (ad 7, .inl (cI, 910, .inl (nF ro))), (bd 0, .inr (2, [.ref (ad 5), .ref (ad 0), .ref (bd 1), .ref (bd 2), .ref (bd 3)])), (bd 1, .inl (cI, 9, .inl (nF mm))), (bd 2, .inl (cI, 9, .inl (nF me))), (bd 3, .inl (cZ, 91, .inl (bF rc)))] (fun (_ : Unit) => True) (fun (_ : Unit) => none) (fun (_ : Unit) => [(ad 0, .inr (1, [.int (nI q), .ref (ad 1), .ref (ad 2), .ref (ad 3), .ref (ad 4)])), (ad 1, .inl (cI, 81, .inl (nF sm))), (ad 2, .inl (cI, 81, .inl (nF pr))), (ad 3, .inl (cI, 9, .inl (nF op))), (ad 4, .inl (cI, 9, .inl (nF iv))), (ad 5, .inr (3, [.ref (ad 0), .int (nI (nn q)), .ref (ad 6), .ref (ad 7)])), (ad 6, .inl (cI, 273, .inl (nF tr))), (ad 7, .inl (cI, 910, .inl (nF ro))), (bd 0, .inr (2, [.ref (ad 5), .ref (ad 0), .ref (bd 1), .ref (bd 2), .ref (bd 3)])), (bd 1, .inl (cI, 9, .inl (nF mm))), (bd 2, .inl (cI, 9, .inl (nF (upN (upN (upN me (0 + j) (fmul q f (pt q i 0))) (3 + j) (fmul q f (pt q i 1))) (6 + j) (fmul q f (pt q i 2)))))), (bd 3, .inl (cZ, 91, .inl (bF rc)))]) := by
  intro sz; refine Met.ofW (cc := cX2_setColumn) (maxL := 5) (ret := none) (by decide) rfl ?_
  intro p e s m args below meth c s₁ B hml hv
  obtain ⟨rfl, hsz, hP, hK, hD0, hN⟩ := hv
  have hx := B.exec
  have hb := B.bytes
  have hr := B.returns
  have hts := atoms_spec (ws := wsX2_setColumn) B.pre
  have hown : s.vm.findClass RX2 = some m.cls := findClass_of_methodNamed B.named
  have hlocks := B.notSynchronized
  subst hsz
  have hD := hD0.self (sz := s.heap.size)
  generalize hAe : va_A [(ad 0, .inr (1, [.int (nI q), .ref (ad 1), .ref (ad 2), .ref (ad 3), .ref (ad 4)])), (ad 1, .inl (cI, 81, .inl (nF sm))), (ad 2, .inl (cI, 81, .inl (nF pr))), (ad 3, .inl (cI, 9, .inl (nF op))), (ad 4, .inl (cI, 9, .inl (nF iv))), (ad 5, .inr (3, [.ref (ad 0), .int (nI (nn q)), .ref (ad 6), .ref (ad 7)])), (ad 6, .inl (cI, 273, .inl (nF tr))), (ad 7, .inl (cI, 910, .inl (nF ro))), (bd 0, .inr (2, [.ref (ad 5), .ref (ad 0), .ref (bd 1), .ref (bd 2), .ref (bd 3)])), (bd 1, .inl (cI, 9, .inl (nF mm))), (bd 2, .inl (cI, 9, .inl (nF me))), (bd 3, .inl (cZ, 91, .inl (bF rc)))] s.heap.size = A at hD ⊢
  have hA : ∀ q : Nat, s.heap.size ≤ q → A q := fun q h => by rw [← hAe]; exact Or.inr h
  have hS : va_S A s.heap s.heap [] := va_S.rf
  have hP : va_P D vwCl [(ad 0, .inr (1, [.int (nI q), .ref (ad 1), .ref (ad 2), .ref (ad 3), .ref (ad 4)])), (ad 1, .inl (cI, 81, .inl (nF sm))), (ad 2, .inl (cI, 81, .inl (nF pr))), (ad 3, .inl (cI, 9, .inl (nF op))), (ad 4, .inl (cI, 9, .inl (nF iv))), (ad 5, .inr (3, [.ref (ad 0), .int (nI (nn q)), .ref (ad 6), .ref (ad 7)])), (ad 6, .inl (cI, 273, .inl (nF tr))), (ad 7, .inl (cI, 910, .inl (nF ro))), (bd 0, .inr (2, [.ref (ad 5), .ref (ad 0), .ref (bd 1), .ref (bd 2), .ref (bd 3)])), (bd 1, .inl (cI, 9, .inl (nF mm))), (bd 2, .inl (cI, 9, .inl (nF me))), (bd 3, .inl (cZ, 91, .inl (bF rc)))] s.heap := hP
  have hf15 := hts (.fieldLink RX2 15 "FinitePlanes$Mapping" "made" "[I") (by decide +kernel)
  have hf22 := hts (.fieldLink RX2 22 "FinitePlanes$Mapping" "plane" "LFinitePlanes$Plane;") (by decide +kernel)
  have hf32 := hts (.fieldLink RX2 32 "FinitePlanes$Mapping" "field" "LFinitePlanes$Field;") (by decide +kernel)
  have hiX2 : ∀ w ∈ u_ws RX2 TX2 5, w ∈ wsX2_setColumn := by decide +kernel
  have hl := lv_entry ([.ref (bd 0), .int (nI j), .int (nI i), .int (nI f)]) (n := 5) (Nat.le_of_ble_eq_true rfl)
  rw [lg_entry_eq]
  generalize (lg_sl ([.ref (bd 0), .int (nI j), .int (nI i), .int (nI f)]) ++ List.replicate (5 - (lg_sl ([.ref (bd 0), .int (nI j), .int (nI i), .int (nI f)])).length) Slot.unset).toArray = ls at hl ⊢
  have hl : lv_has ls 5 [(0, .ref (bd 0)), (1, .int (nI j)), (2, .int (nI i)), (3, .int (nI f))] := hl
  have hq2 := qs_le hF.1
  have hn2 := nn_le hF.1
  refine lv_iconst (v := nI 0) hx hb dX2_setColumn_0 (by decide) ?_
  refine lv_istore (lv' := [(4, .int (nI 0)), (0, .ref (bd 0)), (1, .int (nI j)), (2, .int (nI i)), (3, .int (nI f))]) hx hb dX2_setColumn_1 hl (by decide) rfl (fun ls hl => ?_)
  refine lv_iload hx hb dX2_setColumn_3 (lv_at hl 0 rfl) ?_
  refine lv_iconst (v := nI 3) hx hb dX2_setColumn_5 (by decide) ?_
  refine nv_icmp_ge (tgt := 44) hx hb (by decide) (by decide) dX2_setColumn_6 (by decide) (fun c6 => absurd c6 (by omega)) (fun c6 => ?_)
  refine lv_aload_n hx hb dX2_setColumn_9 rfl (lv_at hl 1 rfl) ?_
  refine va_get (D := D) (ci := 2) (v := .ref (bd 2)) (C := RX2) (T := TX2) (N := 5) hx hb hts hiX2 hown hK hP 8 rfl rfl 3 (by decide) hf15 (fun _ h9 => h9) rfl dX2_setColumn_10 ?_
  refine lv_iconst (v := nI 3) hx hb dX2_setColumn_13 (by decide) ?_
  refine lv_iload hx hb dX2_setColumn_14 (lv_at hl 0 rfl) ?_
  refine nv_mulE (r := 0) hx hb rfl dX2_setColumn_16 ?_
  refine lv_iload_n hx hb dX2_setColumn_17 rfl (lv_at hl 2 rfl) ?_
  refine nv_addE (r := 0 + j) hx hb rfl dX2_setColumn_18 ?_
  refine lv_aload_n hx hb dX2_setColumn_19 rfl (lv_at hl 1 rfl) ?_
  refine va_get (D := D) (ci := 2) (v := .ref (ad 0)) (C := RX2) (T := TX2) (N := 5) hx hb hts hiX2 hown hK hP 8 rfl rfl 1 (by decide) hf32 (fun _ h9 => h9) rfl dX2_setColumn_20 ?_
  refine lv_iload_n hx hb dX2_setColumn_23 rfl (lv_at hl 4 rfl) ?_
  refine lv_aload_n hx hb dX2_setColumn_24 rfl (lv_at hl 1 rfl) ?_
  refine va_get (D := D) (ci := 2) (v := .ref (ad 5)) (C := RX2) (T := TX2) (N := 5) hx hb hts hiX2 hown hK hP 8 rfl rfl 0 (by decide) hf22 (fun _ h9 => h9) rfl dX2_setColumn_25 ?_
  refine lv_iload_n hx hb dX2_setColumn_28 rfl (lv_at hl 3 rfl) ?_
  refine lv_iload hx hb dX2_setColumn_29 (lv_at hl 0 rfl) ?_
  refine ctR_V (As := [.int (nI i), .int (nI 0)]) (rest := [.int (nI f), .ref (ad 0), .int (nI (0 + j)), .ref (bd 2)]) (r := .int (nI (pt q i 0))) ⟨hx, hb, hml, hown, hts⟩ (c_X3_part l D cI cZ ad q sm pr op iv hF tr ro hT i 0 (by omega) (by omega)) (cwV 2 hts gX2_setColumn_X3_part rfl rfl rfl hdV_X3_part ⟨Nat.le_of_ble_eq_true rfl, Nat.le_of_ble_eq_true rfl⟩) hK hN hP [0, 1, 2, 3, 4, 5, 6, 7] rfl 5 3 rfl rfl rfl hl.1 rfl (Nat.le_of_ble_eq_true rfl) ⟨Nat.zero_le _, Nat.zero_le _⟩ dX2_setColumn_31 ?_
  have hh_1 : pt q i 0 < q := pt_lt hF.1 (by omega) (by omega)
  refine ctR_V (As := [.int (nI f), .int (nI (pt q i 0))]) (rest := [.int (nI (0 + j)), .ref (bd 2)]) (r := .int (nI (fmul q f (pt q i 0)))) ⟨hx, hb, hml, hown, hts⟩ (c_X1_times l D cI cZ ad q sm pr op iv hF f (pt q i 0) (by omega) (by omega)) (cwV 2 hts gX2_setColumn_X1_times rfl rfl rfl hdV_X1_times ⟨Nat.le_of_ble_eq_true rfl, Nat.le_of_ble_eq_true rfl⟩) hK hN hP [0, 1, 2, 3, 4] rfl 0 1 rfl rfl rfl hl.1 rfl (Nat.le_of_ble_eq_true rfl) ⟨Nat.zero_le _, Nat.zero_le _⟩ dX2_setColumn_34 ?_
  have hh_2 : fmul q f (pt q i 0) < q := fmul_lt hF.1 (by omega) (by omega)
  refine nv_iast hx hb hK hP hD hS 10 0 rfl rfl (by omega) (by decide) dX2_setColumn_37 (fun H locs hP hD hS => ?_)
  have hP : va_P D vwCl [(ad 0, .inr (1, [.int (nI q), .ref (ad 1), .ref (ad 2), .ref (ad 3), .ref (ad 4)])), (ad 1, .inl (cI, 81, .inl (nF sm))), (ad 2, .inl (cI, 81, .inl (nF pr))), (ad 3, .inl (cI, 9, .inl (nF op))), (ad 4, .inl (cI, 9, .inl (nF iv))), (ad 5, .inr (3, [.ref (ad 0), .int (nI (nn q)), .ref (ad 6), .ref (ad 7)])), (ad 6, .inl (cI, 273, .inl (nF tr))), (ad 7, .inl (cI, 910, .inl (nF ro))), (bd 0, .inr (2, [.ref (ad 5), .ref (ad 0), .ref (bd 1), .ref (bd 2), .ref (bd 3)])), (bd 1, .inl (cI, 9, .inl (nF mm))), (bd 2, .inl (cI, 9, .inl (nF (upN me (0 + j) (fmul q f (pt q i 0)))))), (bd 3, .inl (cZ, 91, .inl (bF rc)))] H := hP
  have hD : va_D A [(ad 0, .inr (1, [.int (nI q), .ref (ad 1), .ref (ad 2), .ref (ad 3), .ref (ad 4)])), (ad 1, .inl (cI, 81, .inl (nF sm))), (ad 2, .inl (cI, 81, .inl (nF pr))), (ad 3, .inl (cI, 9, .inl (nF op))), (ad 4, .inl (cI, 9, .inl (nF iv))), (ad 5, .inr (3, [.ref (ad 0), .int (nI (nn q)), .ref (ad 6), .ref (ad 7)])), (ad 6, .inl (cI, 273, .inl (nF tr))), (ad 7, .inl (cI, 910, .inl (nF ro))), (bd 0, .inr (2, [.ref (ad 5), .ref (ad 0), .ref (bd 1), .ref (bd 2), .ref (bd 3)])), (bd 1, .inl (cI, 9, .inl (nF mm))), (bd 2, .inl (cI, 9, .inl (nF (upN me (0 + j) (fmul q f (pt q i 0)))))), (bd 3, .inl (cZ, 91, .inl (bF rc)))] := hD
  refine lv_iinc (v := nI 1) (lv' := [(4, .int (nI 1)), (0, .ref (bd 0)), (1, .int (nI j)), (2, .int (nI i)), (3, .int (nI f))]) hx hb dX2_setColumn_38 hl (k := 0) rfl (nI_inc 0) (by decide) rfl (fun ls hl => ?_)
  refine lv_goto (tgt := 3) hx hb dX2_setColumn_41 (by decide) ?_
  refine lv_iload hx hb dX2_setColumn_3 (lv_at hl 0 rfl) ?_
  refine lv_iconst (v := nI 3) hx hb dX2_setColumn_5 (by decide) ?_
  refine nv_icmp_ge (tgt := 44) hx hb (by decide) (by decide) dX2_setColumn_6 (by decide) (fun c6 => absurd c6 (by omega)) (fun c6 => ?_)
  refine lv_aload_n hx hb dX2_setColumn_9 rfl (lv_at hl 1 rfl) ?_
  refine va_get (D := D) (ci := 2) (v := .ref (bd 2)) (C := RX2) (T := TX2) (N := 5) hx hb hts hiX2 hown hK hP 8 rfl rfl 3 (by decide) hf15 (fun _ h9 => h9) rfl dX2_setColumn_10 ?_
  refine lv_iconst (v := nI 3) hx hb dX2_setColumn_13 (by decide) ?_
  refine lv_iload hx hb dX2_setColumn_14 (lv_at hl 0 rfl) ?_
  refine nv_mulE (r := 3) hx hb rfl dX2_setColumn_16 ?_
  refine lv_iload_n hx hb dX2_setColumn_17 rfl (lv_at hl 2 rfl) ?_
  refine nv_addE (r := 3 + j) hx hb rfl dX2_setColumn_18 ?_
  refine lv_aload_n hx hb dX2_setColumn_19 rfl (lv_at hl 1 rfl) ?_
  refine va_get (D := D) (ci := 2) (v := .ref (ad 0)) (C := RX2) (T := TX2) (N := 5) hx hb hts hiX2 hown hK hP 8 rfl rfl 1 (by decide) hf32 (fun _ h9 => h9) rfl dX2_setColumn_20 ?_
  refine lv_iload_n hx hb dX2_setColumn_23 rfl (lv_at hl 4 rfl) ?_
  refine lv_aload_n hx hb dX2_setColumn_24 rfl (lv_at hl 1 rfl) ?_
  refine va_get (D := D) (ci := 2) (v := .ref (ad 5)) (C := RX2) (T := TX2) (N := 5) hx hb hts hiX2 hown hK hP 8 rfl rfl 0 (by decide) hf22 (fun _ h9 => h9) rfl dX2_setColumn_25 ?_
  refine lv_iload_n hx hb dX2_setColumn_28 rfl (lv_at hl 3 rfl) ?_
  refine lv_iload hx hb dX2_setColumn_29 (lv_at hl 0 rfl) ?_
  refine ctR_V (As := [.int (nI i), .int (nI 1)]) (rest := [.int (nI f), .ref (ad 0), .int (nI (3 + j)), .ref (bd 2)]) (r := .int (nI (pt q i 1))) ⟨hx, hb, hml, hown, hts⟩ (c_X3_part l D cI cZ ad q sm pr op iv hF tr ro hT i 1 (by omega) (by omega)) (cwV 2 hts gX2_setColumn_X3_part rfl rfl rfl hdV_X3_part ⟨Nat.le_of_ble_eq_true rfl, Nat.le_of_ble_eq_true rfl⟩) hK hN hP [0, 1, 2, 3, 4, 5, 6, 7] rfl 5 3 rfl rfl rfl hl.1 rfl (Nat.le_of_ble_eq_true rfl) ⟨Nat.zero_le _, Nat.zero_le _⟩ dX2_setColumn_31 ?_
  have hh_3 : pt q i 1 < q := pt_lt hF.1 (by omega) (by omega)
  refine ctR_V (As := [.int (nI f), .int (nI (pt q i 1))]) (rest := [.int (nI (3 + j)), .ref (bd 2)]) (r := .int (nI (fmul q f (pt q i 1)))) ⟨hx, hb, hml, hown, hts⟩ (c_X1_times l D cI cZ ad q sm pr op iv hF f (pt q i 1) (by omega) (by omega)) (cwV 2 hts gX2_setColumn_X1_times rfl rfl rfl hdV_X1_times ⟨Nat.le_of_ble_eq_true rfl, Nat.le_of_ble_eq_true rfl⟩) hK hN hP [0, 1, 2, 3, 4] rfl 0 1 rfl rfl rfl hl.1 rfl (Nat.le_of_ble_eq_true rfl) ⟨Nat.zero_le _, Nat.zero_le _⟩ dX2_setColumn_34 ?_
  have hh_4 : fmul q f (pt q i 1) < q := fmul_lt hF.1 (by omega) (by omega)
  refine nv_iast hx hb hK hP hD hS 10 0 rfl rfl (by omega) (by decide) dX2_setColumn_37 (fun H locs hP hD hS => ?_)
  have hP : va_P D vwCl [(ad 0, .inr (1, [.int (nI q), .ref (ad 1), .ref (ad 2), .ref (ad 3), .ref (ad 4)])), (ad 1, .inl (cI, 81, .inl (nF sm))), (ad 2, .inl (cI, 81, .inl (nF pr))), (ad 3, .inl (cI, 9, .inl (nF op))), (ad 4, .inl (cI, 9, .inl (nF iv))), (ad 5, .inr (3, [.ref (ad 0), .int (nI (nn q)), .ref (ad 6), .ref (ad 7)])), (ad 6, .inl (cI, 273, .inl (nF tr))), (ad 7, .inl (cI, 910, .inl (nF ro))), (bd 0, .inr (2, [.ref (ad 5), .ref (ad 0), .ref (bd 1), .ref (bd 2), .ref (bd 3)])), (bd 1, .inl (cI, 9, .inl (nF mm))), (bd 2, .inl (cI, 9, .inl (nF (upN (upN me (0 + j) (fmul q f (pt q i 0))) (3 + j) (fmul q f (pt q i 1)))))), (bd 3, .inl (cZ, 91, .inl (bF rc)))] H := hP
  have hD : va_D A [(ad 0, .inr (1, [.int (nI q), .ref (ad 1), .ref (ad 2), .ref (ad 3), .ref (ad 4)])), (ad 1, .inl (cI, 81, .inl (nF sm))), (ad 2, .inl (cI, 81, .inl (nF pr))), (ad 3, .inl (cI, 9, .inl (nF op))), (ad 4, .inl (cI, 9, .inl (nF iv))), (ad 5, .inr (3, [.ref (ad 0), .int (nI (nn q)), .ref (ad 6), .ref (ad 7)])), (ad 6, .inl (cI, 273, .inl (nF tr))), (ad 7, .inl (cI, 910, .inl (nF ro))), (bd 0, .inr (2, [.ref (ad 5), .ref (ad 0), .ref (bd 1), .ref (bd 2), .ref (bd 3)])), (bd 1, .inl (cI, 9, .inl (nF mm))), (bd 2, .inl (cI, 9, .inl (nF (upN (upN me (0 + j) (fmul q f (pt q i 0))) (3 + j) (fmul q f (pt q i 1)))))), (bd 3, .inl (cZ, 91, .inl (bF rc)))] := hD
  refine lv_iinc (v := nI 2) (lv' := [(4, .int (nI 2)), (0, .ref (bd 0)), (1, .int (nI j)), (2, .int (nI i)), (3, .int (nI f))]) hx hb dX2_setColumn_38 hl (k := 0) rfl (nI_inc 1) (by decide) rfl (fun ls hl => ?_)
  refine lv_goto (tgt := 3) hx hb dX2_setColumn_41 (by decide) ?_
  refine lv_iload hx hb dX2_setColumn_3 (lv_at hl 0 rfl) ?_
  refine lv_iconst (v := nI 3) hx hb dX2_setColumn_5 (by decide) ?_
  refine nv_icmp_ge (tgt := 44) hx hb (by decide) (by decide) dX2_setColumn_6 (by decide) (fun c6 => absurd c6 (by omega)) (fun c6 => ?_)
  refine lv_aload_n hx hb dX2_setColumn_9 rfl (lv_at hl 1 rfl) ?_
  refine va_get (D := D) (ci := 2) (v := .ref (bd 2)) (C := RX2) (T := TX2) (N := 5) hx hb hts hiX2 hown hK hP 8 rfl rfl 3 (by decide) hf15 (fun _ h9 => h9) rfl dX2_setColumn_10 ?_
  refine lv_iconst (v := nI 3) hx hb dX2_setColumn_13 (by decide) ?_
  refine lv_iload hx hb dX2_setColumn_14 (lv_at hl 0 rfl) ?_
  refine nv_mulE (r := 6) hx hb rfl dX2_setColumn_16 ?_
  refine lv_iload_n hx hb dX2_setColumn_17 rfl (lv_at hl 2 rfl) ?_
  refine nv_addE (r := 6 + j) hx hb rfl dX2_setColumn_18 ?_
  refine lv_aload_n hx hb dX2_setColumn_19 rfl (lv_at hl 1 rfl) ?_
  refine va_get (D := D) (ci := 2) (v := .ref (ad 0)) (C := RX2) (T := TX2) (N := 5) hx hb hts hiX2 hown hK hP 8 rfl rfl 1 (by decide) hf32 (fun _ h9 => h9) rfl dX2_setColumn_20 ?_
  refine lv_iload_n hx hb dX2_setColumn_23 rfl (lv_at hl 4 rfl) ?_
  refine lv_aload_n hx hb dX2_setColumn_24 rfl (lv_at hl 1 rfl) ?_
  refine va_get (D := D) (ci := 2) (v := .ref (ad 5)) (C := RX2) (T := TX2) (N := 5) hx hb hts hiX2 hown hK hP 8 rfl rfl 0 (by decide) hf22 (fun _ h9 => h9) rfl dX2_setColumn_25 ?_
  refine lv_iload_n hx hb dX2_setColumn_28 rfl (lv_at hl 3 rfl) ?_
  refine lv_iload hx hb dX2_setColumn_29 (lv_at hl 0 rfl) ?_
  refine ctR_V (As := [.int (nI i), .int (nI 2)]) (rest := [.int (nI f), .ref (ad 0), .int (nI (6 + j)), .ref (bd 2)]) (r := .int (nI (pt q i 2))) ⟨hx, hb, hml, hown, hts⟩ (c_X3_part l D cI cZ ad q sm pr op iv hF tr ro hT i 2 (by omega) (by omega)) (cwV 2 hts gX2_setColumn_X3_part rfl rfl rfl hdV_X3_part ⟨Nat.le_of_ble_eq_true rfl, Nat.le_of_ble_eq_true rfl⟩) hK hN hP [0, 1, 2, 3, 4, 5, 6, 7] rfl 5 3 rfl rfl rfl hl.1 rfl (Nat.le_of_ble_eq_true rfl) ⟨Nat.zero_le _, Nat.zero_le _⟩ dX2_setColumn_31 ?_
  have hh_5 : pt q i 2 < q := pt_lt hF.1 (by omega) (by omega)
  refine ctR_V (As := [.int (nI f), .int (nI (pt q i 2))]) (rest := [.int (nI (6 + j)), .ref (bd 2)]) (r := .int (nI (fmul q f (pt q i 2)))) ⟨hx, hb, hml, hown, hts⟩ (c_X1_times l D cI cZ ad q sm pr op iv hF f (pt q i 2) (by omega) (by omega)) (cwV 2 hts gX2_setColumn_X1_times rfl rfl rfl hdV_X1_times ⟨Nat.le_of_ble_eq_true rfl, Nat.le_of_ble_eq_true rfl⟩) hK hN hP [0, 1, 2, 3, 4] rfl 0 1 rfl rfl rfl hl.1 rfl (Nat.le_of_ble_eq_true rfl) ⟨Nat.zero_le _, Nat.zero_le _⟩ dX2_setColumn_34 ?_
  have hh_6 : fmul q f (pt q i 2) < q := fmul_lt hF.1 (by omega) (by omega)
  refine nv_iast hx hb hK hP hD hS 10 0 rfl rfl (by omega) (by decide) dX2_setColumn_37 (fun H locs hP hD hS => ?_)
  have hP : va_P D vwCl [(ad 0, .inr (1, [.int (nI q), .ref (ad 1), .ref (ad 2), .ref (ad 3), .ref (ad 4)])), (ad 1, .inl (cI, 81, .inl (nF sm))), (ad 2, .inl (cI, 81, .inl (nF pr))), (ad 3, .inl (cI, 9, .inl (nF op))), (ad 4, .inl (cI, 9, .inl (nF iv))), (ad 5, .inr (3, [.ref (ad 0), .int (nI (nn q)), .ref (ad 6), .ref (ad 7)])), (ad 6, .inl (cI, 273, .inl (nF tr))), (ad 7, .inl (cI, 910, .inl (nF ro))), (bd 0, .inr (2, [.ref (ad 5), .ref (ad 0), .ref (bd 1), .ref (bd 2), .ref (bd 3)])), (bd 1, .inl (cI, 9, .inl (nF mm))), (bd 2, .inl (cI, 9, .inl (nF (upN (upN (upN me (0 + j) (fmul q f (pt q i 0))) (3 + j) (fmul q f (pt q i 1))) (6 + j) (fmul q f (pt q i 2)))))), (bd 3, .inl (cZ, 91, .inl (bF rc)))] H := hP
  have hD : va_D A [(ad 0, .inr (1, [.int (nI q), .ref (ad 1), .ref (ad 2), .ref (ad 3), .ref (ad 4)])), (ad 1, .inl (cI, 81, .inl (nF sm))), (ad 2, .inl (cI, 81, .inl (nF pr))), (ad 3, .inl (cI, 9, .inl (nF op))), (ad 4, .inl (cI, 9, .inl (nF iv))), (ad 5, .inr (3, [.ref (ad 0), .int (nI (nn q)), .ref (ad 6), .ref (ad 7)])), (ad 6, .inl (cI, 273, .inl (nF tr))), (ad 7, .inl (cI, 910, .inl (nF ro))), (bd 0, .inr (2, [.ref (ad 5), .ref (ad 0), .ref (bd 1), .ref (bd 2), .ref (bd 3)])), (bd 1, .inl (cI, 9, .inl (nF mm))), (bd 2, .inl (cI, 9, .inl (nF (upN (upN (upN me (0 + j) (fmul q f (pt q i 0))) (3 + j) (fmul q f (pt q i 1))) (6 + j) (fmul q f (pt q i 2)))))), (bd 3, .inl (cZ, 91, .inl (bF rc)))] := hD
  refine lv_iinc (v := nI 3) (lv' := [(4, .int (nI 3)), (0, .ref (bd 0)), (1, .int (nI j)), (2, .int (nI i)), (3, .int (nI f))]) hx hb dX2_setColumn_38 hl (k := 0) rfl (nI_inc 2) (by decide) rfl (fun ls hl => ?_)
  refine lv_goto (tgt := 3) hx hb dX2_setColumn_41 (by decide) ?_
  refine lv_iload hx hb dX2_setColumn_3 (lv_at hl 0 rfl) ?_
  refine lv_iconst (v := nI 3) hx hb dX2_setColumn_5 (by decide) ?_
  refine nv_icmp_ge (tgt := 44) hx hb (by decide) (by decide) dX2_setColumn_6 (by decide) (fun c6 => ?_) (fun c6 => absurd c6 (by omega))
  exact ctW_retV () hx hb hr dX2_setColumn_44 hlocks hS hP hD trivial rfl

set_option maxHeartbeats 4000000 in
set_option maxRecDepth 100000 in
theorem c_X2_takeFrame (l : Launch) (D : va_G) (cI cZ : ClassId) (ad : Nat → Nat) (q : Nat) (sm : Nat → Nat) (pr : Nat → Nat) (op : Nat → Nat) (iv : Nat → Nat) (hF : FOK q sm pr op iv) (tr : Nat → Nat) (ro : Nat → Nat) (hT : TOK q tr) (bd : Nat → Nat) (mm : Nat → Nat) (me : Nat → Nat) (rc : Nat → Bool) (i : Nat) (j : Nat) (k : Nat) (r : Nat) (k_1 : i < nn q) (k_2 : j < nn q) (k_3 : k < nn q) (k_4 : r < nn q) : CtW (S := (Nat → Nat) × (Nat → Nat)) l yX2_takeFrame wsX2_takeFrame { frames := 4, cells := 0, slots := 0, locals := 96 } D (tyG cI cZ) [.ref (bd 0), .int (nI i), .int (nI j), .int (nI k), .int (nI r)] [(ad 0, .inr (1, [.int (nI q), .ref (ad 1), .ref (ad 2), .ref (ad 3), .ref (ad 4)])), (ad 1, .inl (cI, 81, .inl (nF sm))), (ad 2, .inl (cI, 81, .inl (nF pr))), (ad 3, .inl (cI, 9, .inl (nF op))), (ad 4, .inl (cI, 9, .inl (nF iv))), (ad 5, .inr (3, [.ref (ad 0), .int (nI (nn q)), .ref (ad 6), .ref (ad 7)])), (ad 6, .inl (cI, 273, .inl (nF tr))), (ad 7, .inl (cI, 910, .inl (nF ro))), (bd 0, .inr (2, [.ref (ad 5), .ref (ad 0), .ref (bd 1), .ref (bd 2), .ref (bd 3)])), (bd 1, .inl (cI, 9, .inl (nF mm))), (bd 2, .inl (cI, 9, .inl (nF me))), (bd 3, .inl (cZ, 91, .inl (bF rc)))] (fun u => (fun (mm3 : Nat → Nat) (me3 : Nat → Nat) => ∀ t, t < 9 → mm3 t = tldq q (colq q (vdet q (pt q r) (pt q j) (pt q k)) (vdet q (pt q i) (pt q r) (pt q k)) (vdet q (pt q i) (pt q j) (pt q r)) i j k) t) u.1 u.2) (fun u => (fun (mm3 : Nat → Nat) (me3 : Nat → Nat) => none) u.1 u.2) (fun u => (fun (mm3 : Nat → Nat) (me3 : Nat → Nat) => [(ad 0, .inr (1, [.int (nI q), .ref (ad 1), .ref (ad 2), .ref (ad 3), .ref (ad 4)])), (ad 1, .inl (cI, 81, .inl (nF sm))), (ad 2, .inl (cI, 81, .inl (nF pr))), (ad 3, .inl (cI, 9, .inl (nF op))), (ad 4, .inl (cI, 9, .inl (nF iv))), (ad 5, .inr (3, [.ref (ad 0), .int (nI (nn q)), .ref (ad 6), .ref (ad 7)])), (ad 6, .inl (cI, 273, .inl (nF tr))), (ad 7, .inl (cI, 910, .inl (nF ro))), (bd 0, .inr (2, [.ref (ad 5), .ref (ad 0), .ref (bd 1), .ref (bd 2), .ref (bd 3)])), (bd 1, .inl (cI, 9, .inl (nF mm3))), (bd 2, .inl (cI, 9, .inl (nF me3))), (bd 3, .inl (cZ, 91, .inl (bF rc)))]) u.1 u.2) := by
  intro sz; refine Met.ofW (cc := cX2_takeFrame) (maxL := 5) (ret := none) (by decide) rfl ?_
  intro p e s m args below meth c s₁ B hml hv
  obtain ⟨rfl, hsz, hP, hK, hD0, hN⟩ := hv
  have hx := B.exec
  have hb := B.bytes
  have hr := B.returns
  have hts := atoms_spec (ws := wsX2_takeFrame) B.pre
  have hown : s.vm.findClass RX2 = some m.cls := findClass_of_methodNamed B.named
  have hlocks := B.notSynchronized
  subst hsz
  have hD := hD0.self (sz := s.heap.size)
  generalize hAe : va_A [(ad 0, .inr (1, [.int (nI q), .ref (ad 1), .ref (ad 2), .ref (ad 3), .ref (ad 4)])), (ad 1, .inl (cI, 81, .inl (nF sm))), (ad 2, .inl (cI, 81, .inl (nF pr))), (ad 3, .inl (cI, 9, .inl (nF op))), (ad 4, .inl (cI, 9, .inl (nF iv))), (ad 5, .inr (3, [.ref (ad 0), .int (nI (nn q)), .ref (ad 6), .ref (ad 7)])), (ad 6, .inl (cI, 273, .inl (nF tr))), (ad 7, .inl (cI, 910, .inl (nF ro))), (bd 0, .inr (2, [.ref (ad 5), .ref (ad 0), .ref (bd 1), .ref (bd 2), .ref (bd 3)])), (bd 1, .inl (cI, 9, .inl (nF mm))), (bd 2, .inl (cI, 9, .inl (nF me))), (bd 3, .inl (cZ, 91, .inl (bF rc)))] s.heap.size = A at hD ⊢
  have hA : ∀ q : Nat, s.heap.size ≤ q → A q := fun q h => by rw [← hAe]; exact Or.inr h
  have hS : va_S A s.heap s.heap [] := va_S.rf
  have hP : va_P D vwCl [(ad 0, .inr (1, [.int (nI q), .ref (ad 1), .ref (ad 2), .ref (ad 3), .ref (ad 4)])), (ad 1, .inl (cI, 81, .inl (nF sm))), (ad 2, .inl (cI, 81, .inl (nF pr))), (ad 3, .inl (cI, 9, .inl (nF op))), (ad 4, .inl (cI, 9, .inl (nF iv))), (ad 5, .inr (3, [.ref (ad 0), .int (nI (nn q)), .ref (ad 6), .ref (ad 7)])), (ad 6, .inl (cI, 273, .inl (nF tr))), (ad 7, .inl (cI, 910, .inl (nF ro))), (bd 0, .inr (2, [.ref (ad 5), .ref (ad 0), .ref (bd 1), .ref (bd 2), .ref (bd 3)])), (bd 1, .inl (cI, 9, .inl (nF mm))), (bd 2, .inl (cI, 9, .inl (nF me))), (bd 3, .inl (cZ, 91, .inl (bF rc)))] s.heap := hP
  have hf22 := hts (.fieldLink RX2 22 "FinitePlanes$Mapping" "plane" "LFinitePlanes$Plane;") (by decide +kernel)
  have hiX2 : ∀ w ∈ u_ws RX2 TX2 5, w ∈ wsX2_takeFrame := by decide +kernel
  have hl := lv_entry ([.ref (bd 0), .int (nI i), .int (nI j), .int (nI k), .int (nI r)]) (n := 5) (Nat.le_of_ble_eq_true rfl)
  rw [lg_entry_eq]
  generalize (lg_sl ([.ref (bd 0), .int (nI i), .int (nI j), .int (nI k), .int (nI r)]) ++ List.replicate (5 - (lg_sl ([.ref (bd 0), .int (nI i), .int (nI j), .int (nI k), .int (nI r)])).length) Slot.unset).toArray = ls at hl ⊢
  have hl : lv_has ls 5 [(0, .ref (bd 0)), (1, .int (nI i)), (2, .int (nI j)), (3, .int (nI k)), (4, .int (nI r))] := hl
  have hq2 := qs_le hF.1
  have hn2 := nn_le hF.1
  refine lv_aload_n hx hb dX2_takeFrame_0 rfl (lv_at hl 0 rfl) ?_
  refine lv_iconst (v := nI 0) hx hb dX2_takeFrame_1 (by decide) ?_
  refine lv_iload_n hx hb dX2_takeFrame_2 rfl (lv_at hl 1 rfl) ?_
  refine lv_aload_n hx hb dX2_takeFrame_3 rfl (lv_at hl 0 rfl) ?_
  refine va_get (D := D) (ci := 2) (v := .ref (ad 5)) (C := RX2) (T := TX2) (N := 5) hx hb hts hiX2 hown hK hP 8 rfl rfl 0 (by decide) hf22 (fun _ h9 => h9) rfl dX2_takeFrame_4 ?_
  refine lv_iload hx hb dX2_takeFrame_7 (lv_at hl 4 rfl) ?_
  refine lv_iload_n hx hb dX2_takeFrame_9 rfl (lv_at hl 2 rfl) ?_
  refine lv_iload_n hx hb dX2_takeFrame_10 rfl (lv_at hl 3 rfl) ?_
  refine ctR_V (As := [.int (nI r), .int (nI j), .int (nI k)]) (rest := [.int (nI i), .int (nI 0), .ref (bd 0)]) (r := .int (nI (vdet q (pt q r) (pt q j) (pt q k)))) ⟨hx, hb, hml, hown, hts⟩ (c_X3_det l D cI cZ ad q sm pr op iv hF tr ro hT r j k (by omega) (by omega) (by omega)) (cwV 3 hts gX2_takeFrame_X3_det rfl rfl rfl hdV_X3_det ⟨Nat.le_of_ble_eq_true rfl, Nat.le_of_ble_eq_true rfl⟩) hK hN hP [0, 1, 2, 3, 4, 5, 6, 7] rfl 5 3 rfl rfl rfl hl.1 rfl (Nat.le_of_ble_eq_true rfl) ⟨Nat.zero_le _, Nat.zero_le _⟩ dX2_takeFrame_11 ?_
  have hh_1 : vdet q (pt q r) (pt q j) (pt q k) < q := vdet_lt hF.1 (ptv hF.1 (by omega)) (ptv hF.1 (by omega)) (ptv hF.1 (by omega))
  refine ctW_V (As := [.int (nI 0), .int (nI i), .int (nI (vdet q (pt q r) (pt q j) (pt q k)))]) (rest := []) (wr := []) ⟨hx, hb, hml, hown, hts⟩ (c_X2_setColumn l D cI cZ ad q sm pr op iv hF tr ro hT bd mm me rc 0 i (vdet q (pt q r) (pt q j) (pt q k)) (by omega) (by omega) (by omega)) (cwV 3 hts gX2_takeFrame_X2_setColumn rfl rfl rfl hdV_X2_setColumn ⟨Nat.le_of_ble_eq_true rfl, Nat.le_of_ble_eq_true rfl⟩) hK hN hP hD hS hA [0, 1, 2, 3, 4, 5, 6, 7, 8, 9, 10, 11] [] rfl rfl rfl (by decide) (by decide) (by decide) 8 2 rfl rfl rfl hl.1 rfl (Nat.le_of_ble_eq_true rfl) ⟨Nat.zero_le _, Nat.zero_le _⟩ dX2_takeFrame_14 (fun _ H locs hu14 hP hD hS => ?_)
  try dsimp only at hu14
  have hP : va_P D vwCl [(ad 0, .inr (1, [.int (nI q), .ref (ad 1), .ref (ad 2), .ref (ad 3), .ref (ad 4)])), (ad 1, .inl (cI, 81, .inl (nF sm))), (ad 2, .inl (cI, 81, .inl (nF pr))), (ad 3, .inl (cI, 9, .inl (nF op))), (ad 4, .inl (cI, 9, .inl (nF iv))), (ad 5, .inr (3, [.ref (ad 0), .int (nI (nn q)), .ref (ad 6), .ref (ad 7)])), (ad 6, .inl (cI, 273, .inl (nF tr))), (ad 7, .inl (cI, 910, .inl (nF ro))), (bd 0, .inr (2, [.ref (ad 5), .ref (ad 0), .ref (bd 1), .ref (bd 2), .ref (bd 3)])), (bd 1, .inl (cI, 9, .inl (nF mm))), (bd 2, .inl (cI, 9, .inl (nF (upN (upN (upN me (0 + 0) (fmul q (vdet q (pt q r) (pt q j) (pt q k)) (pt q i 0))) (3 + 0) (fmul q (vdet q (pt q r) (pt q j) (pt q k)) (pt q i 1))) (6 + 0) (fmul q (vdet q (pt q r) (pt q j) (pt q k)) (pt q i 2)))))), (bd 3, .inl (cZ, 91, .inl (bF rc)))] H := hP.sub [0, 1, 2, 3, 4, 5, 6, 7, 8, 9, 10, 11] rfl
  have hD : va_D A [(ad 0, .inr (1, [.int (nI q), .ref (ad 1), .ref (ad 2), .ref (ad 3), .ref (ad 4)])), (ad 1, .inl (cI, 81, .inl (nF sm))), (ad 2, .inl (cI, 81, .inl (nF pr))), (ad 3, .inl (cI, 9, .inl (nF op))), (ad 4, .inl (cI, 9, .inl (nF iv))), (ad 5, .inr (3, [.ref (ad 0), .int (nI (nn q)), .ref (ad 6), .ref (ad 7)])), (ad 6, .inl (cI, 273, .inl (nF tr))), (ad 7, .inl (cI, 910, .inl (nF ro))), (bd 0, .inr (2, [.ref (ad 5), .ref (ad 0), .ref (bd 1), .ref (bd 2), .ref (bd 3)])), (bd 1, .inl (cI, 9, .inl (nF mm))), (bd 2, .inl (cI, 9, .inl (nF (upN (upN (upN me (0 + 0) (fmul q (vdet q (pt q r) (pt q j) (pt q k)) (pt q i 0))) (3 + 0) (fmul q (vdet q (pt q r) (pt q j) (pt q k)) (pt q i 1))) (6 + 0) (fmul q (vdet q (pt q r) (pt q j) (pt q k)) (pt q i 2)))))), (bd 3, .inl (cZ, 91, .inl (bF rc)))] := hD.sub [0, 1, 2, 3, 4, 5, 6, 7, 8, 9, 10, 11] (by decide) rfl
  refine W.eq (g2 := F0 m 17 ls []) rfl ?_
  refine lv_aload_n hx hb dX2_takeFrame_17 rfl (lv_at hl 0 rfl) ?_
  refine lv_iconst (v := nI 1) hx hb dX2_takeFrame_18 (by decide) ?_
  refine lv_iload_n hx hb dX2_takeFrame_19 rfl (lv_at hl 2 rfl) ?_
  refine lv_aload_n hx hb dX2_takeFrame_20 rfl (lv_at hl 0 rfl) ?_
  refine va_get (D := D) (ci := 2) (v := .ref (ad 5)) (C := RX2) (T := TX2) (N := 5) hx hb hts hiX2 hown hK hP 8 rfl rfl 0 (by decide) hf22 (fun _ h9 => h9) rfl dX2_takeFrame_21 ?_
  refine lv_iload_n hx hb dX2_takeFrame_24 rfl (lv_at hl 1 rfl) ?_
  refine lv_iload hx hb dX2_takeFrame_25 (lv_at hl 4 rfl) ?_
  refine lv_iload_n hx hb dX2_takeFrame_27 rfl (lv_at hl 3 rfl) ?_
  refine ctR_V (As := [.int (nI i), .int (nI r), .int (nI k)]) (rest := [.int (nI j), .int (nI 1), .ref (bd 0)]) (r := .int (nI (vdet q (pt q i) (pt q r) (pt q k)))) ⟨hx, hb, hml, hown, hts⟩ (c_X3_det l D cI cZ ad q sm pr op iv hF tr ro hT i r k (by omega) (by omega) (by omega)) (cwV 3 hts gX2_takeFrame_X3_det rfl rfl rfl hdV_X3_det ⟨Nat.le_of_ble_eq_true rfl, Nat.le_of_ble_eq_true rfl⟩) hK hN hP [0, 1, 2, 3, 4, 5, 6, 7] rfl 5 3 rfl rfl rfl hl.1 rfl (Nat.le_of_ble_eq_true rfl) ⟨Nat.zero_le _, Nat.zero_le _⟩ dX2_takeFrame_28 ?_
  have hh_2 : vdet q (pt q i) (pt q r) (pt q k) < q := vdet_lt hF.1 (ptv hF.1 (by omega)) (ptv hF.1 (by omega)) (ptv hF.1 (by omega))
  refine ctW_V (As := [.int (nI 1), .int (nI j), .int (nI (vdet q (pt q i) (pt q r) (pt q k)))]) (rest := []) (wr := []) ⟨hx, hb, hml, hown, hts⟩ (c_X2_setColumn l D cI cZ ad q sm pr op iv hF tr ro hT bd mm (upN (upN (upN me (0 + 0) (fmul q (vdet q (pt q r) (pt q j) (pt q k)) (pt q i 0))) (3 + 0) (fmul q (vdet q (pt q r) (pt q j) (pt q k)) (pt q i 1))) (6 + 0) (fmul q (vdet q (pt q r) (pt q j) (pt q k)) (pt q i 2))) rc 1 j (vdet q (pt q i) (pt q r) (pt q k)) (by omega) (by omega) (by omega)) (cwV 3 hts gX2_takeFrame_X2_setColumn rfl rfl rfl hdV_X2_setColumn ⟨Nat.le_of_ble_eq_true rfl, Nat.le_of_ble_eq_true rfl⟩) hK hN hP hD hS hA [0, 1, 2, 3, 4, 5, 6, 7, 8, 9, 10, 11] [] rfl rfl rfl (by decide) (by decide) (by decide) 8 2 rfl rfl rfl hl.1 rfl (Nat.le_of_ble_eq_true rfl) ⟨Nat.zero_le _, Nat.zero_le _⟩ dX2_takeFrame_31 (fun _ H locs hu31 hP hD hS => ?_)
  try dsimp only at hu31
  have hP : va_P D vwCl [(ad 0, .inr (1, [.int (nI q), .ref (ad 1), .ref (ad 2), .ref (ad 3), .ref (ad 4)])), (ad 1, .inl (cI, 81, .inl (nF sm))), (ad 2, .inl (cI, 81, .inl (nF pr))), (ad 3, .inl (cI, 9, .inl (nF op))), (ad 4, .inl (cI, 9, .inl (nF iv))), (ad 5, .inr (3, [.ref (ad 0), .int (nI (nn q)), .ref (ad 6), .ref (ad 7)])), (ad 6, .inl (cI, 273, .inl (nF tr))), (ad 7, .inl (cI, 910, .inl (nF ro))), (bd 0, .inr (2, [.ref (ad 5), .ref (ad 0), .ref (bd 1), .ref (bd 2), .ref (bd 3)])), (bd 1, .inl (cI, 9, .inl (nF mm))), (bd 2, .inl (cI, 9, .inl (nF (upN (upN (upN (upN (upN (upN me (0 + 0) (fmul q (vdet q (pt q r) (pt q j) (pt q k)) (pt q i 0))) (3 + 0) (fmul q (vdet q (pt q r) (pt q j) (pt q k)) (pt q i 1))) (6 + 0) (fmul q (vdet q (pt q r) (pt q j) (pt q k)) (pt q i 2))) (0 + 1) (fmul q (vdet q (pt q i) (pt q r) (pt q k)) (pt q j 0))) (3 + 1) (fmul q (vdet q (pt q i) (pt q r) (pt q k)) (pt q j 1))) (6 + 1) (fmul q (vdet q (pt q i) (pt q r) (pt q k)) (pt q j 2)))))), (bd 3, .inl (cZ, 91, .inl (bF rc)))] H := hP.sub [0, 1, 2, 3, 4, 5, 6, 7, 8, 9, 10, 11] rfl
  have hD : va_D A [(ad 0, .inr (1, [.int (nI q), .ref (ad 1), .ref (ad 2), .ref (ad 3), .ref (ad 4)])), (ad 1, .inl (cI, 81, .inl (nF sm))), (ad 2, .inl (cI, 81, .inl (nF pr))), (ad 3, .inl (cI, 9, .inl (nF op))), (ad 4, .inl (cI, 9, .inl (nF iv))), (ad 5, .inr (3, [.ref (ad 0), .int (nI (nn q)), .ref (ad 6), .ref (ad 7)])), (ad 6, .inl (cI, 273, .inl (nF tr))), (ad 7, .inl (cI, 910, .inl (nF ro))), (bd 0, .inr (2, [.ref (ad 5), .ref (ad 0), .ref (bd 1), .ref (bd 2), .ref (bd 3)])), (bd 1, .inl (cI, 9, .inl (nF mm))), (bd 2, .inl (cI, 9, .inl (nF (upN (upN (upN (upN (upN (upN me (0 + 0) (fmul q (vdet q (pt q r) (pt q j) (pt q k)) (pt q i 0))) (3 + 0) (fmul q (vdet q (pt q r) (pt q j) (pt q k)) (pt q i 1))) (6 + 0) (fmul q (vdet q (pt q r) (pt q j) (pt q k)) (pt q i 2))) (0 + 1) (fmul q (vdet q (pt q i) (pt q r) (pt q k)) (pt q j 0))) (3 + 1) (fmul q (vdet q (pt q i) (pt q r) (pt q k)) (pt q j 1))) (6 + 1) (fmul q (vdet q (pt q i) (pt q r) (pt q k)) (pt q j 2)))))), (bd 3, .inl (cZ, 91, .inl (bF rc)))] := hD.sub [0, 1, 2, 3, 4, 5, 6, 7, 8, 9, 10, 11] (by decide) rfl
  refine W.eq (g2 := F0 m 34 ls []) rfl ?_
  refine lv_aload_n hx hb dX2_takeFrame_34 rfl (lv_at hl 0 rfl) ?_
  refine lv_iconst (v := nI 2) hx hb dX2_takeFrame_35 (by decide) ?_
  refine lv_iload_n hx hb dX2_takeFrame_36 rfl (lv_at hl 3 rfl) ?_
  refine lv_aload_n hx hb dX2_takeFrame_37 rfl (lv_at hl 0 rfl) ?_
  refine va_get (D := D) (ci := 2) (v := .ref (ad 5)) (C := RX2) (T := TX2) (N := 5) hx hb hts hiX2 hown hK hP 8 rfl rfl 0 (by decide) hf22 (fun _ h9 => h9) rfl dX2_takeFrame_38 ?_
  refine lv_iload_n hx hb dX2_takeFrame_41 rfl (lv_at hl 1 rfl) ?_
  refine lv_iload_n hx hb dX2_takeFrame_42 rfl (lv_at hl 2 rfl) ?_
  refine lv_iload hx hb dX2_takeFrame_43 (lv_at hl 4 rfl) ?_
  refine ctR_V (As := [.int (nI i), .int (nI j), .int (nI r)]) (rest := [.int (nI k), .int (nI 2), .ref (bd 0)]) (r := .int (nI (vdet q (pt q i) (pt q j) (pt q r)))) ⟨hx, hb, hml, hown, hts⟩ (c_X3_det l D cI cZ ad q sm pr op iv hF tr ro hT i j r (by omega) (by omega) (by omega)) (cwV 3 hts gX2_takeFrame_X3_det rfl rfl rfl hdV_X3_det ⟨Nat.le_of_ble_eq_true rfl, Nat.le_of_ble_eq_true rfl⟩) hK hN hP [0, 1, 2, 3, 4, 5, 6, 7] rfl 5 3 rfl rfl rfl hl.1 rfl (Nat.le_of_ble_eq_true rfl) ⟨Nat.zero_le _, Nat.zero_le _⟩ dX2_takeFrame_45 ?_
  have hh_3 : vdet q (pt q i) (pt q j) (pt q r) < q := vdet_lt hF.1 (ptv hF.1 (by omega)) (ptv hF.1 (by omega)) (ptv hF.1 (by omega))
  refine ctW_V (As := [.int (nI 2), .int (nI k), .int (nI (vdet q (pt q i) (pt q j) (pt q r)))]) (rest := []) (wr := []) ⟨hx, hb, hml, hown, hts⟩ (c_X2_setColumn l D cI cZ ad q sm pr op iv hF tr ro hT bd mm (upN (upN (upN (upN (upN (upN me (0 + 0) (fmul q (vdet q (pt q r) (pt q j) (pt q k)) (pt q i 0))) (3 + 0) (fmul q (vdet q (pt q r) (pt q j) (pt q k)) (pt q i 1))) (6 + 0) (fmul q (vdet q (pt q r) (pt q j) (pt q k)) (pt q i 2))) (0 + 1) (fmul q (vdet q (pt q i) (pt q r) (pt q k)) (pt q j 0))) (3 + 1) (fmul q (vdet q (pt q i) (pt q r) (pt q k)) (pt q j 1))) (6 + 1) (fmul q (vdet q (pt q i) (pt q r) (pt q k)) (pt q j 2))) rc 2 k (vdet q (pt q i) (pt q j) (pt q r)) (by omega) (by omega) (by omega)) (cwV 3 hts gX2_takeFrame_X2_setColumn rfl rfl rfl hdV_X2_setColumn ⟨Nat.le_of_ble_eq_true rfl, Nat.le_of_ble_eq_true rfl⟩) hK hN hP hD hS hA [0, 1, 2, 3, 4, 5, 6, 7, 8, 9, 10, 11] [] rfl rfl rfl (by decide) (by decide) (by decide) 8 2 rfl rfl rfl hl.1 rfl (Nat.le_of_ble_eq_true rfl) ⟨Nat.zero_le _, Nat.zero_le _⟩ dX2_takeFrame_48 (fun _ H locs hu48 hP hD hS => ?_)
  try dsimp only at hu48
  have hP : va_P D vwCl [(ad 0, .inr (1, [.int (nI q), .ref (ad 1), .ref (ad 2), .ref (ad 3), .ref (ad 4)])), (ad 1, .inl (cI, 81, .inl (nF sm))), (ad 2, .inl (cI, 81, .inl (nF pr))), (ad 3, .inl (cI, 9, .inl (nF op))), (ad 4, .inl (cI, 9, .inl (nF iv))), (ad 5, .inr (3, [.ref (ad 0), .int (nI (nn q)), .ref (ad 6), .ref (ad 7)])), (ad 6, .inl (cI, 273, .inl (nF tr))), (ad 7, .inl (cI, 910, .inl (nF ro))), (bd 0, .inr (2, [.ref (ad 5), .ref (ad 0), .ref (bd 1), .ref (bd 2), .ref (bd 3)])), (bd 1, .inl (cI, 9, .inl (nF mm))), (bd 2, .inl (cI, 9, .inl (nF (upN (upN (upN (upN (upN (upN (upN (upN (upN me (0 + 0) (fmul q (vdet q (pt q r) (pt q j) (pt q k)) (pt q i 0))) (3 + 0) (fmul q (vdet q (pt q r) (pt q j) (pt q k)) (pt q i 1))) (6 + 0) (fmul q (vdet q (pt q r) (pt q j) (pt q k)) (pt q i 2))) (0 + 1) (fmul q (vdet q (pt q i) (pt q r) (pt q k)) (pt q j 0))) (3 + 1) (fmul q (vdet q (pt q i) (pt q r) (pt q k)) (pt q j 1))) (6 + 1) (fmul q (vdet q (pt q i) (pt q r) (pt q k)) (pt q j 2))) (0 + 2) (fmul q (vdet q (pt q i) (pt q j) (pt q r)) (pt q k 0))) (3 + 2) (fmul q (vdet q (pt q i) (pt q j) (pt q r)) (pt q k 1))) (6 + 2) (fmul q (vdet q (pt q i) (pt q j) (pt q r)) (pt q k 2)))))), (bd 3, .inl (cZ, 91, .inl (bF rc)))] H := hP.sub [0, 1, 2, 3, 4, 5, 6, 7, 8, 9, 10, 11] rfl
  have hD : va_D A [(ad 0, .inr (1, [.int (nI q), .ref (ad 1), .ref (ad 2), .ref (ad 3), .ref (ad 4)])), (ad 1, .inl (cI, 81, .inl (nF sm))), (ad 2, .inl (cI, 81, .inl (nF pr))), (ad 3, .inl (cI, 9, .inl (nF op))), (ad 4, .inl (cI, 9, .inl (nF iv))), (ad 5, .inr (3, [.ref (ad 0), .int (nI (nn q)), .ref (ad 6), .ref (ad 7)])), (ad 6, .inl (cI, 273, .inl (nF tr))), (ad 7, .inl (cI, 910, .inl (nF ro))), (bd 0, .inr (2, [.ref (ad 5), .ref (ad 0), .ref (bd 1), .ref (bd 2), .ref (bd 3)])), (bd 1, .inl (cI, 9, .inl (nF mm))), (bd 2, .inl (cI, 9, .inl (nF (upN (upN (upN (upN (upN (upN (upN (upN (upN me (0 + 0) (fmul q (vdet q (pt q r) (pt q j) (pt q k)) (pt q i 0))) (3 + 0) (fmul q (vdet q (pt q r) (pt q j) (pt q k)) (pt q i 1))) (6 + 0) (fmul q (vdet q (pt q r) (pt q j) (pt q k)) (pt q i 2))) (0 + 1) (fmul q (vdet q (pt q i) (pt q r) (pt q k)) (pt q j 0))) (3 + 1) (fmul q (vdet q (pt q i) (pt q r) (pt q k)) (pt q j 1))) (6 + 1) (fmul q (vdet q (pt q i) (pt q r) (pt q k)) (pt q j 2))) (0 + 2) (fmul q (vdet q (pt q i) (pt q j) (pt q r)) (pt q k 0))) (3 + 2) (fmul q (vdet q (pt q i) (pt q j) (pt q r)) (pt q k 1))) (6 + 2) (fmul q (vdet q (pt q i) (pt q j) (pt q r)) (pt q k 2)))))), (bd 3, .inl (cZ, 91, .inl (bF rc)))] := hD.sub [0, 1, 2, 3, 4, 5, 6, 7, 8, 9, 10, 11] (by decide) rfl
  refine W.eq (g2 := F0 m 51 ls []) rfl ?_
  refine lv_aload_n hx hb dX2_takeFrame_51 rfl (lv_at hl 0 rfl) ?_
  refine ctW_V (As := []) (rest := []) (wr := [(ad 5, .inr (3, [.ref (ad 0), .int (nI (nn q)), .ref (ad 6), .ref (ad 7)])), (ad 6, .inl (cI, 273, .inl (nF tr))), (ad 7, .inl (cI, 910, .inl (nF ro))), (bd 3, .inl (cZ, 91, .inl (bF rc)))]) ⟨hx, hb, hml, hown, hts⟩ (c_X2_takeMade l D cI cZ ad q sm pr op iv hF bd mm (upN (upN (upN (upN (upN (upN (upN (upN (upN me (0 + 0) (fmul q (vdet q (pt q r) (pt q j) (pt q k)) (pt q i 0))) (3 + 0) (fmul q (vdet q (pt q r) (pt q j) (pt q k)) (pt q i 1))) (6 + 0) (fmul q (vdet q (pt q r) (pt q j) (pt q k)) (pt q i 2))) (0 + 1) (fmul q (vdet q (pt q i) (pt q r) (pt q k)) (pt q j 0))) (3 + 1) (fmul q (vdet q (pt q i) (pt q r) (pt q k)) (pt q j 1))) (6 + 1) (fmul q (vdet q (pt q i) (pt q r) (pt q k)) (pt q j 2))) (0 + 2) (fmul q (vdet q (pt q i) (pt q j) (pt q r)) (pt q k 0))) (3 + 2) (fmul q (vdet q (pt q i) (pt q j) (pt q r)) (pt q k 1))) (6 + 2) (fmul q (vdet q (pt q i) (pt q j) (pt q r)) (pt q k 2))) (all9 (fmul_lt hF.1 (by omega) (pt_lt hF.1 (by omega) (by decide))) (fmul_lt hF.1 (by omega) (pt_lt hF.1 (by omega) (by decide))) (fmul_lt hF.1 (by omega) (pt_lt hF.1 (by omega) (by decide))) (fmul_lt hF.1 (by omega) (pt_lt hF.1 (by omega) (by decide))) (fmul_lt hF.1 (by omega) (pt_lt hF.1 (by omega) (by decide))) (fmul_lt hF.1 (by omega) (pt_lt hF.1 (by omega) (by decide))) (fmul_lt hF.1 (by omega) (pt_lt hF.1 (by omega) (by decide))) (fmul_lt hF.1 (by omega) (pt_lt hF.1 (by omega) (by decide))) (fmul_lt hF.1 (by omega) (pt_lt hF.1 (by omega) (by decide))))) (cwV 0 hts gX2_takeFrame_X2_takeMade rfl rfl rfl hdV_X2_takeMade ⟨Nat.le_of_ble_eq_true rfl, Nat.le_of_ble_eq_true rfl⟩) hK hN hP hD hS hA [0, 1, 2, 3, 4, 8, 9, 10] [5, 6, 7, 11] rfl rfl rfl (by decide) (by decide) (by decide) 8 2 rfl rfl rfl hl.1 rfl (Nat.le_of_ble_eq_true rfl) ⟨Nat.zero_le _, Nat.zero_le _⟩ dX2_takeFrame_52 (fun mm_4 H locs hu52 hP hD hS => ?_)
  try dsimp only at hu52
  have hP : va_P D vwCl [(ad 0, .inr (1, [.int (nI q), .ref (ad 1), .ref (ad 2), .ref (ad 3), .ref (ad 4)])), (ad 1, .inl (cI, 81, .inl (nF sm))), (ad 2, .inl (cI, 81, .inl (nF pr))), (ad 3, .inl (cI, 9, .inl (nF op))), (ad 4, .inl (cI, 9, .inl (nF iv))), (ad 5, .inr (3, [.ref (ad 0), .int (nI (nn q)), .ref (ad 6), .ref (ad 7)])), (ad 6, .inl (cI, 273, .inl (nF tr))), (ad 7, .inl (cI, 910, .inl (nF ro))), (bd 0, .inr (2, [.ref (ad 5), .ref (ad 0), .ref (bd 1), .ref (bd 2), .ref (bd 3)])), (bd 1, .inl (cI, 9, .inl (nF mm_4))), (bd 2, .inl (cI, 9, .inl (nF (upN (upN (upN (upN (upN (upN (upN (upN (upN me (0 + 0) (fmul q (vdet q (pt q r) (pt q j) (pt q k)) (pt q i 0))) (3 + 0) (fmul q (vdet q (pt q r) (pt q j) (pt q k)) (pt q i 1))) (6 + 0) (fmul q (vdet q (pt q r) (pt q j) (pt q k)) (pt q i 2))) (0 + 1) (fmul q (vdet q (pt q i) (pt q r) (pt q k)) (pt q j 0))) (3 + 1) (fmul q (vdet q (pt q i) (pt q r) (pt q k)) (pt q j 1))) (6 + 1) (fmul q (vdet q (pt q i) (pt q r) (pt q k)) (pt q j 2))) (0 + 2) (fmul q (vdet q (pt q i) (pt q j) (pt q r)) (pt q k 0))) (3 + 2) (fmul q (vdet q (pt q i) (pt q j) (pt q r)) (pt q k 1))) (6 + 2) (fmul q (vdet q (pt q i) (pt q j) (pt q r)) (pt q k 2)))))), (bd 3, .inl (cZ, 91, .inl (bF rc)))] H := hP.sub [4, 5, 6, 7, 8, 0, 1, 2, 9, 10, 11, 3] rfl
  have hD : va_D A [(ad 0, .inr (1, [.int (nI q), .ref (ad 1), .ref (ad 2), .ref (ad 3), .ref (ad 4)])), (ad 1, .inl (cI, 81, .inl (nF sm))), (ad 2, .inl (cI, 81, .inl (nF pr))), (ad 3, .inl (cI, 9, .inl (nF op))), (ad 4, .inl (cI, 9, .inl (nF iv))), (ad 5, .inr (3, [.ref (ad 0), .int (nI (nn q)), .ref (ad 6), .ref (ad 7)])), (ad 6, .inl (cI, 273, .inl (nF tr))), (ad 7, .inl (cI, 910, .inl (nF ro))), (bd 0, .inr (2, [.ref (ad 5), .ref (ad 0), .ref (bd 1), .ref (bd 2), .ref (bd 3)])), (bd 1, .inl (cI, 9, .inl (nF mm_4))), (bd 2, .inl (cI, 9, .inl (nF (upN (upN (upN (upN (upN (upN (upN (upN (upN me (0 + 0) (fmul q (vdet q (pt q r) (pt q j) (pt q k)) (pt q i 0))) (3 + 0) (fmul q (vdet q (pt q r) (pt q j) (pt q k)) (pt q i 1))) (6 + 0) (fmul q (vdet q (pt q r) (pt q j) (pt q k)) (pt q i 2))) (0 + 1) (fmul q (vdet q (pt q i) (pt q r) (pt q k)) (pt q j 0))) (3 + 1) (fmul q (vdet q (pt q i) (pt q r) (pt q k)) (pt q j 1))) (6 + 1) (fmul q (vdet q (pt q i) (pt q r) (pt q k)) (pt q j 2))) (0 + 2) (fmul q (vdet q (pt q i) (pt q j) (pt q r)) (pt q k 0))) (3 + 2) (fmul q (vdet q (pt q i) (pt q j) (pt q r)) (pt q k 1))) (6 + 2) (fmul q (vdet q (pt q i) (pt q j) (pt q r)) (pt q k 2)))))), (bd 3, .inl (cZ, 91, .inl (bF rc)))] := hD.sub [4, 5, 6, 7, 8, 0, 1, 2, 9, 10, 11, 3] (by decide) rfl
  refine W.eq (g2 := F0 m 55 ls []) rfl ?_
  exact ctW_retV (mm_4, (upN (upN (upN (upN (upN (upN (upN (upN (upN me (0 + 0) (fmul q (vdet q (pt q r) (pt q j) (pt q k)) (pt q i 0))) (3 + 0) (fmul q (vdet q (pt q r) (pt q j) (pt q k)) (pt q i 1))) (6 + 0) (fmul q (vdet q (pt q r) (pt q j) (pt q k)) (pt q i 2))) (0 + 1) (fmul q (vdet q (pt q i) (pt q r) (pt q k)) (pt q j 0))) (3 + 1) (fmul q (vdet q (pt q i) (pt q r) (pt q k)) (pt q j 1))) (6 + 1) (fmul q (vdet q (pt q i) (pt q r) (pt q k)) (pt q j 2))) (0 + 2) (fmul q (vdet q (pt q i) (pt q j) (pt q r)) (pt q k 0))) (3 + 2) (fmul q (vdet q (pt q i) (pt q j) (pt q r)) (pt q k 1))) (6 + 2) (fmul q (vdet q (pt q i) (pt q j) (pt q r)) (pt q k 2)))) hx hb hr dX2_takeFrame_55 hlocks hS hP hD (by dsimp only; exact (fun t ht => by rw [hu52 t ht]; exact tld_congr ht (all9 rfl rfl rfl rfl rfl rfl rfl rfl rfl))) rfl

set_option maxHeartbeats 4000000 in
set_option maxRecDepth 100000 in
theorem c_X2_goBehind (l : Launch) (D : va_G) (cI cZ : ClassId) (ad : Nat → Nat) (q : Nat) (sm : Nat → Nat) (pr : Nat → Nat) (op : Nat → Nat) (iv : Nat → Nat) (hF : FOK q sm pr op iv) (tr : Nat → Nat) (ro : Nat → Nat) (hT : TOK q tr) (bd : Nat → Nat) (mm : Nat → Nat) (me : Nat → Nat) (rc : Nat → Bool) (ed : Nat → Nat) (fm : Nat → Nat) (k_m : MPK q mm) (k_f : MPK q fm) : CtW (S := (Nat → Nat) × (Nat → Nat)) l yX2_goBehind wsX2_goBehind { frames := 3, cells := 0, slots := 0, locals := 66 } D (tyG cI cZ) [.ref (bd 0), .ref (ed 0)] [(ad 0, .inr (1, [.int (nI q), .ref (ad 1), .ref (ad 2), .ref (ad 3), .ref (ad 4)])), (ad 1, .inl (cI, 81, .inl (nF sm))), (ad 2, .inl (cI, 81, .inl (nF pr))), (ad 3, .inl (cI, 9, .inl (nF op))), (ad 4, .inl (cI, 9, .inl (nF iv))), (ad 5, .inr (3, [.ref (ad 0), .int (nI (nn q)), .ref (ad 6), .ref (ad 7)])), (ad 6, .inl (cI, 273, .inl (nF tr))), (ad 7, .inl (cI, 910, .inl (nF ro))), (bd 0, .inr (2, [.ref (ad 5), .ref (ad 0), .ref (bd 1), .ref (bd 2), .ref (bd 3)])), (bd 1, .inl (cI, 9, .inl (nF mm))), (bd 2, .inl (cI, 9, .inl (nF me))), (bd 3, .inl (cZ, 91, .inl (bF rc))), (ed 0, .inr (2, [.ref (ad 5), .ref (ad 0), .ref (ed 1), .ref (ed 2), .ref (ed 3)])), (ed 1, .inl (cI, 9, .inl (nF fm)))] (fun u => (fun (mm3 : Nat → Nat) (me3 : Nat → Nat) => ∀ t, t < 9 → mm3 t = tldq q (mulq q mm fm) t) u.1 u.2) (fun u => (fun (mm3 : Nat → Nat) (me3 : Nat → Nat) => none) u.1 u.2) (fun u => (fun (mm3 : Nat → Nat) (me3 : Nat → Nat) => [(ad 0, .inr (1, [.int (nI q), .ref (ad 1), .ref (ad 2), .ref (ad 3), .ref (ad 4)])), (ad 1, .inl (cI, 81, .inl (nF sm))), (ad 2, .inl (cI, 81, .inl (nF pr))), (ad 3, .inl (cI, 9, .inl (nF op))), (ad 4, .inl (cI, 9, .inl (nF iv))), (ad 5, .inr (3, [.ref (ad 0), .int (nI (nn q)), .ref (ad 6), .ref (ad 7)])), (ad 6, .inl (cI, 273, .inl (nF tr))), (ad 7, .inl (cI, 910, .inl (nF ro))), (bd 0, .inr (2, [.ref (ad 5), .ref (ad 0), .ref (bd 1), .ref (bd 2), .ref (bd 3)])), (bd 1, .inl (cI, 9, .inl (nF mm3))), (bd 2, .inl (cI, 9, .inl (nF me3))), (bd 3, .inl (cZ, 91, .inl (bF rc))), (ed 0, .inr (2, [.ref (ad 5), .ref (ad 0), .ref (ed 1), .ref (ed 2), .ref (ed 3)])), (ed 1, .inl (cI, 9, .inl (nF fm)))]) u.1 u.2) := by
  intro sz; refine Met.ofW (cc := cX2_goBehind) (maxL := 6) (ret := none) (by decide) rfl ?_
  intro p e s m args below meth c s₁ B hml hv
  obtain ⟨rfl, hsz, hP, hK, hD0, hN⟩ := hv
  have hx := B.exec
  have hb := B.bytes
  have hr := B.returns
  have hts := atoms_spec (ws := wsX2_goBehind) B.pre
  have hown : s.vm.findClass RX2 = some m.cls := findClass_of_methodNamed B.named
  have hlocks := B.notSynchronized
  subst hsz
  have hD := hD0.self (sz := s.heap.size)
  generalize hAe : va_A [(ad 0, .inr (1, [.int (nI q), .ref (ad 1), .ref (ad 2), .ref (ad 3), .ref (ad 4)])), (ad 1, .inl (cI, 81, .inl (nF sm))), (ad 2, .inl (cI, 81, .inl (nF pr))), (ad 3, .inl (cI, 9, .inl (nF op))), (ad 4, .inl (cI, 9, .inl (nF iv))), (ad 5, .inr (3, [.ref (ad 0), .int (nI (nn q)), .ref (ad 6), .ref (ad 7)])), (ad 6, .inl (cI, 273, .inl (nF tr))), (ad 7, .inl (cI, 910, .inl (nF ro))), (bd 0, .inr (2, [.ref (ad 5), .ref (ad 0), .ref (bd 1), .ref (bd 2), .ref (bd 3)])), (bd 1, .inl (cI, 9, .inl (nF mm))), (bd 2, .inl (cI, 9, .inl (nF me))), (bd 3, .inl (cZ, 91, .inl (bF rc))), (ed 0, .inr (2, [.ref (ad 5), .ref (ad 0), .ref (ed 1), .ref (ed 2), .ref (ed 3)])), (ed 1, .inl (cI, 9, .inl (nF fm)))] s.heap.size = A at hD ⊢
  have hA : ∀ q : Nat, s.heap.size ≤ q → A q := fun q h => by rw [← hAe]; exact Or.inr h
  have hS : va_S A s.heap s.heap [] := va_S.rf
  have hP : va_P D vwCl [(ad 0, .inr (1, [.int (nI q), .ref (ad 1), .ref (ad 2), .ref (ad 3), .ref (ad 4)])), (ad 1, .inl (cI, 81, .inl (nF sm))), (ad 2, .inl (cI, 81, .inl (nF pr))), (ad 3, .inl (cI, 9, .inl (nF op))), (ad 4, .inl (cI, 9, .inl (nF iv))), (ad 5, .inr (3, [.ref (ad 0), .int (nI (nn q)), .ref (ad 6), .ref (ad 7)])), (ad 6, .inl (cI, 273, .inl (nF tr))), (ad 7, .inl (cI, 910, .inl (nF ro))), (bd 0, .inr (2, [.ref (ad 5), .ref (ad 0), .ref (bd 1), .ref (bd 2), .ref (bd 3)])), (bd 1, .inl (cI, 9, .inl (nF mm))), (bd 2, .inl (cI, 9, .inl (nF me))), (bd 3, .inl (cZ, 91, .inl (bF rc))), (ed 0, .inr (2, [.ref (ad 5), .ref (ad 0), .ref (ed 1), .ref (ed 2), .ref (ed 3)])), (ed 1, .inl (cI, 9, .inl (nF fm)))] s.heap := hP
  have hf9 := hts (.fieldLink RX2 9 "FinitePlanes$Mapping" "m" "[I") (by decide +kernel)
  have hf15 := hts (.fieldLink RX2 15 "FinitePlanes$Mapping" "made" "[I") (by decide +kernel)
  have hf32 := hts (.fieldLink RX2 32 "FinitePlanes$Mapping" "field" "LFinitePlanes$Field;") (by decide +kernel)
  have hiX2 : ∀ w ∈ u_ws RX2 TX2 5, w ∈ wsX2_goBehind := by decide +kernel
  have hl := lv_entry ([.ref (bd 0), .ref (ed 0)]) (n := 6) (Nat.le_of_ble_eq_true rfl)
  rw [lg_entry_eq]
  generalize (lg_sl ([.ref (bd 0), .ref (ed 0)]) ++ List.replicate (6 - (lg_sl ([.ref (bd 0), .ref (ed 0)])).length) Slot.unset).toArray = ls at hl ⊢
  have hl : lv_has ls 6 [(0, .ref (bd 0)), (1, .ref (ed 0))] := hl
  have hq2 := qs_le hF.1
  have hn2 := nn_le hF.1
  refine lv_iconst (v := nI 0) hx hb dX2_goBehind_0 (by decide) ?_
  refine lv_istore_n (lv' := [(2, .int (nI 0)), (0, .ref (bd 0)), (1, .ref (ed 0))]) hx hb dX2_goBehind_1 rfl hl (by decide) rfl (fun ls hl => ?_)
  have w0 := k_m 0 (by omega)
  have w1 := k_m 1 (by omega)
  have w2 := k_m 2 (by omega)
  have w3 := k_m 3 (by omega)
  have w4 := k_m 4 (by omega)
  have w5 := k_m 5 (by omega)
  have w6 := k_m 6 (by omega)
  have w7 := k_m 7 (by omega)
  have w8 := k_m 8 (by omega)
  have y0 := k_f 0 (by omega)
  have y1 := k_f 1 (by omega)
  have y2 := k_f 2 (by omega)
  have y3 := k_f 3 (by omega)
  have y4 := k_f 4 (by omega)
  have y5 := k_f 5 (by omega)
  have y6 := k_f 6 (by omega)
  have y7 := k_f 7 (by omega)
  have y8 := k_f 8 (by omega)
  refine lv_iload_n hx hb dX2_goBehind_2 rfl (lv_at hl 0 rfl) ?_
  refine lv_iconst (v := nI 3) hx hb dX2_goBehind_3 (by decide) ?_
  refine nv_icmp_ge (tgt := 96) hx hb (by decide) (by decide) dX2_goBehind_4 (by decide) (fun c4 => absurd c4 (by omega)) (fun c4 => ?_)
  refine lv_iconst (v := nI 0) hx hb dX2_goBehind_7 (by decide) ?_
  refine lv_istore_n (lv' := [(3, .int (nI 0)), (2, .int (nI 0)), (0, .ref (bd 0)), (1, .ref (ed 0))]) hx hb dX2_goBehind_8 rfl hl (by decide) rfl (fun ls hl => ?_)
  refine lv_iload_n hx hb dX2_goBehind_9 rfl (lv_at hl 0 rfl) ?_
  refine lv_iconst (v := nI 3) hx hb dX2_goBehind_10 (by decide) ?_
  refine nv_icmp_ge (tgt := 90) hx hb (by decide) (by decide) dX2_goBehind_11 (by decide) (fun c11 => absurd c11 (by omega)) (fun c11 => ?_)
  refine lv_iconst (v := nI 0) hx hb dX2_goBehind_14 (by decide) ?_
  refine lv_istore (lv' := [(4, .int (nI 0)), (3, .int (nI 0)), (2, .int (nI 0)), (0, .ref (bd 0)), (1, .ref (ed 0))]) hx hb dX2_goBehind_15 hl (by decide) rfl (fun ls hl => ?_)
  refine lv_iconst (v := nI 0) hx hb dX2_goBehind_17 (by decide) ?_
  refine lv_istore (lv' := [(5, .int (nI 0)), (4, .int (nI 0)), (3, .int (nI 0)), (2, .int (nI 0)), (0, .ref (bd 0)), (1, .ref (ed 0))]) hx hb dX2_goBehind_18 hl (by decide) rfl (fun ls hl => ?_)
  refine lv_iload hx hb dX2_goBehind_20 (lv_at hl 0 rfl) ?_
  refine lv_iconst (v := nI 3) hx hb dX2_goBehind_22 (by decide) ?_
  refine nv_icmp_ge (tgt := 72) hx hb (by decide) (by decide) dX2_goBehind_23 (by decide) (fun c23 => absurd c23 (by omega)) (fun c23 => ?_)
  refine lv_aload_n hx hb dX2_goBehind_26 rfl (lv_at hl 4 rfl) ?_
  refine va_get (D := D) (ci := 2) (v := .ref (ad 0)) (C := RX2) (T := TX2) (N := 5) hx hb hts hiX2 hown hK hP 8 rfl rfl 1 (by decide) hf32 (fun _ h9 => h9) rfl dX2_goBehind_27 ?_
  refine lv_iload hx hb dX2_goBehind_30 (lv_at hl 1 rfl) ?_
  refine lv_aload_n hx hb dX2_goBehind_32 rfl (lv_at hl 4 rfl) ?_
  refine va_get (D := D) (ci := 2) (v := .ref (ad 0)) (C := RX2) (T := TX2) (N := 5) hx hb hts hiX2 hown hK hP 8 rfl rfl 1 (by decide) hf32 (fun _ h9 => h9) rfl dX2_goBehind_33 ?_
  refine lv_aload_n hx hb dX2_goBehind_36 rfl (lv_at hl 4 rfl) ?_
  refine va_get (D := D) (ci := 2) (v := .ref (bd 1)) (C := RX2) (T := TX2) (N := 5) hx hb hts hiX2 hown hK hP 8 rfl rfl 2 (by decide) hf9 (fun _ h9 => h9) rfl dX2_goBehind_37 ?_
  refine lv_iconst (v := nI 3) hx hb dX2_goBehind_40 (by decide) ?_
  refine lv_iload_n hx hb dX2_goBehind_41 rfl (lv_at hl 3 rfl) ?_
  refine nv_mulE (r := 0) hx hb rfl dX2_goBehind_42 ?_
  refine lv_iload hx hb dX2_goBehind_43 (lv_at hl 0 rfl) ?_
  refine nv_addE (r := 0) hx hb rfl dX2_goBehind_45 ?_
  refine nv_iald hx hb hK hP 9 0 rfl rfl (by omega) (by decide) dX2_goBehind_46 ?_
  refine lv_aload_n hx hb dX2_goBehind_47 rfl (lv_at hl 5 rfl) ?_
  refine va_get (D := D) (ci := 2) (v := .ref (ed 1)) (C := RX2) (T := TX2) (N := 5) hx hb hts hiX2 hown hK hP 12 rfl rfl 2 (by decide) hf9 (fun _ h9 => h9) rfl dX2_goBehind_48 ?_
  refine lv_iconst (v := nI 3) hx hb dX2_goBehind_51 (by decide) ?_
  refine lv_iload hx hb dX2_goBehind_52 (lv_at hl 0 rfl) ?_
  refine nv_mulE (r := 0) hx hb rfl dX2_goBehind_54 ?_
  refine lv_iload_n hx hb dX2_goBehind_55 rfl (lv_at hl 2 rfl) ?_
  refine nv_addE (r := 0) hx hb rfl dX2_goBehind_56 ?_
  refine nv_iald hx hb hK hP 13 0 rfl rfl (by omega) (by decide) dX2_goBehind_57 ?_
  refine ctR_V (As := [.int (nI (mm 0)), .int (nI (fm 0))]) (rest := [.int (nI 0), .ref (ad 0)]) (r := .int (nI (fmul q (mm 0) (fm 0)))) ⟨hx, hb, hml, hown, hts⟩ (c_X1_times l D cI cZ ad q sm pr op iv hF (mm 0) (fm 0) (by omega) (by omega)) (cwV 2 hts gX2_goBehind_X1_times rfl rfl rfl hdV_X1_times ⟨Nat.le_of_ble_eq_true rfl, Nat.le_of_ble_eq_true rfl⟩) hK hN hP [0, 1, 2, 3, 4] rfl 0 1 rfl rfl rfl hl.1 rfl (Nat.le_of_ble_eq_true rfl) ⟨Nat.zero_le _, Nat.zero_le _⟩ dX2_goBehind_58 ?_
  have hh_1 : fmul q (mm 0) (fm 0) < q := fmul_lt hF.1 (by omega) (by omega)
  refine ctR_V (As := [.int (nI 0), .int (nI (fmul q (mm 0) (fm 0)))]) (rest := []) (r := .int (nI (fadd q 0 (fmul q (mm 0) (fm 0))))) ⟨hx, hb, hml, hown, hts⟩ (c_X1_plus l D cI cZ ad q sm pr op iv hF 0 (fmul q (mm 0) (fm 0)) (by omega) (by omega)) (cwV 2 hts gX2_goBehind_X1_plus rfl rfl rfl hdV_X1_plus ⟨Nat.le_of_ble_eq_true rfl, Nat.le_of_ble_eq_true rfl⟩) hK hN hP [0, 1, 2, 3, 4] rfl 0 1 rfl rfl rfl hl.1 rfl (Nat.le_of_ble_eq_true rfl) ⟨Nat.zero_le _, Nat.zero_le _⟩ dX2_goBehind_61 ?_
  have hh_2 : fadd q 0 (fmul q (mm 0) (fm 0)) < q := fadd_lt hF.1 (by omega) (by omega)
  refine lv_istore (lv' := [(4, .int (nI (fadd q 0 (fmul q (mm 0) (fm 0))))), (5, .int (nI 0)), (3, .int (nI 0)), (2, .int (nI 0)), (0, .ref (bd 0)), (1, .ref (ed 0))]) hx hb dX2_goBehind_64 hl (by decide) rfl (fun ls hl => ?_)
  refine lv_iinc (v := nI 1) (lv' := [(5, .int (nI 1)), (4, .int (nI (fadd q 0 (fmul q (mm 0) (fm 0))))), (3, .int (nI 0)), (2, .int (nI 0)), (0, .ref (bd 0)), (1, .ref (ed 0))]) hx hb dX2_goBehind_66 hl (k := 1) rfl (nI_inc 0) (by decide) rfl (fun ls hl => ?_)
  refine lv_goto (tgt := 20) hx hb dX2_goBehind_69 (by decide) ?_
  refine lv_iload hx hb dX2_goBehind_20 (lv_at hl 0 rfl) ?_
  refine lv_iconst (v := nI 3) hx hb dX2_goBehind_22 (by decide) ?_
  refine nv_icmp_ge (tgt := 72) hx hb (by decide) (by decide) dX2_goBehind_23 (by decide) (fun c23 => absurd c23 (by omega)) (fun c23 => ?_)
  refine lv_aload_n hx hb dX2_goBehind_26 rfl (lv_at hl 4 rfl) ?_
  refine va_get (D := D) (ci := 2) (v := .ref (ad 0)) (C := RX2) (T := TX2) (N := 5) hx hb hts hiX2 hown hK hP 8 rfl rfl 1 (by decide) hf32 (fun _ h9 => h9) rfl dX2_goBehind_27 ?_
  refine lv_iload hx hb dX2_goBehind_30 (lv_at hl 1 rfl) ?_
  refine lv_aload_n hx hb dX2_goBehind_32 rfl (lv_at hl 4 rfl) ?_
  refine va_get (D := D) (ci := 2) (v := .ref (ad 0)) (C := RX2) (T := TX2) (N := 5) hx hb hts hiX2 hown hK hP 8 rfl rfl 1 (by decide) hf32 (fun _ h9 => h9) rfl dX2_goBehind_33 ?_
  refine lv_aload_n hx hb dX2_goBehind_36 rfl (lv_at hl 4 rfl) ?_
  refine va_get (D := D) (ci := 2) (v := .ref (bd 1)) (C := RX2) (T := TX2) (N := 5) hx hb hts hiX2 hown hK hP 8 rfl rfl 2 (by decide) hf9 (fun _ h9 => h9) rfl dX2_goBehind_37 ?_
  refine lv_iconst (v := nI 3) hx hb dX2_goBehind_40 (by decide) ?_
  refine lv_iload_n hx hb dX2_goBehind_41 rfl (lv_at hl 3 rfl) ?_
  refine nv_mulE (r := 0) hx hb rfl dX2_goBehind_42 ?_
  refine lv_iload hx hb dX2_goBehind_43 (lv_at hl 0 rfl) ?_
  refine nv_addE (r := 1) hx hb rfl dX2_goBehind_45 ?_
  refine nv_iald hx hb hK hP 9 0 rfl rfl (by omega) (by decide) dX2_goBehind_46 ?_
  refine lv_aload_n hx hb dX2_goBehind_47 rfl (lv_at hl 5 rfl) ?_
  refine va_get (D := D) (ci := 2) (v := .ref (ed 1)) (C := RX2) (T := TX2) (N := 5) hx hb hts hiX2 hown hK hP 12 rfl rfl 2 (by decide) hf9 (fun _ h9 => h9) rfl dX2_goBehind_48 ?_
  refine lv_iconst (v := nI 3) hx hb dX2_goBehind_51 (by decide) ?_
  refine lv_iload hx hb dX2_goBehind_52 (lv_at hl 0 rfl) ?_
  refine nv_mulE (r := 3) hx hb rfl dX2_goBehind_54 ?_
  refine lv_iload_n hx hb dX2_goBehind_55 rfl (lv_at hl 2 rfl) ?_
  refine nv_addE (r := 3) hx hb rfl dX2_goBehind_56 ?_
  refine nv_iald hx hb hK hP 13 0 rfl rfl (by omega) (by decide) dX2_goBehind_57 ?_
  refine ctR_V (As := [.int (nI (mm 1)), .int (nI (fm 3))]) (rest := [.int (nI (fadd q 0 (fmul q (mm 0) (fm 0)))), .ref (ad 0)]) (r := .int (nI (fmul q (mm 1) (fm 3)))) ⟨hx, hb, hml, hown, hts⟩ (c_X1_times l D cI cZ ad q sm pr op iv hF (mm 1) (fm 3) (by omega) (by omega)) (cwV 2 hts gX2_goBehind_X1_times rfl rfl rfl hdV_X1_times ⟨Nat.le_of_ble_eq_true rfl, Nat.le_of_ble_eq_true rfl⟩) hK hN hP [0, 1, 2, 3, 4] rfl 0 1 rfl rfl rfl hl.1 rfl (Nat.le_of_ble_eq_true rfl) ⟨Nat.zero_le _, Nat.zero_le _⟩ dX2_goBehind_58 ?_
  have hh_3 : fmul q (mm 1) (fm 3) < q := fmul_lt hF.1 (by omega) (by omega)
  refine ctR_V (As := [.int (nI (fadd q 0 (fmul q (mm 0) (fm 0)))), .int (nI (fmul q (mm 1) (fm 3)))]) (rest := []) (r := .int (nI (fadd q (fadd q 0 (fmul q (mm 0) (fm 0))) (fmul q (mm 1) (fm 3))))) ⟨hx, hb, hml, hown, hts⟩ (c_X1_plus l D cI cZ ad q sm pr op iv hF (fadd q 0 (fmul q (mm 0) (fm 0))) (fmul q (mm 1) (fm 3)) (by omega) (by omega)) (cwV 2 hts gX2_goBehind_X1_plus rfl rfl rfl hdV_X1_plus ⟨Nat.le_of_ble_eq_true rfl, Nat.le_of_ble_eq_true rfl⟩) hK hN hP [0, 1, 2, 3, 4] rfl 0 1 rfl rfl rfl hl.1 rfl (Nat.le_of_ble_eq_true rfl) ⟨Nat.zero_le _, Nat.zero_le _⟩ dX2_goBehind_61 ?_
  have hh_4 : fadd q (fadd q 0 (fmul q (mm 0) (fm 0))) (fmul q (mm 1) (fm 3)) < q := fadd_lt hF.1 (by omega) (by omega)
  refine lv_istore (lv' := [(4, .int (nI (fadd q (fadd q 0 (fmul q (mm 0) (fm 0))) (fmul q (mm 1) (fm 3))))), (5, .int (nI 1)), (3, .int (nI 0)), (2, .int (nI 0)), (0, .ref (bd 0)), (1, .ref (ed 0))]) hx hb dX2_goBehind_64 hl (by decide) rfl (fun ls hl => ?_)
  refine lv_iinc (v := nI 2) (lv' := [(5, .int (nI 2)), (4, .int (nI (fadd q (fadd q 0 (fmul q (mm 0) (fm 0))) (fmul q (mm 1) (fm 3))))), (3, .int (nI 0)), (2, .int (nI 0)), (0, .ref (bd 0)), (1, .ref (ed 0))]) hx hb dX2_goBehind_66 hl (k := 1) rfl (nI_inc 1) (by decide) rfl (fun ls hl => ?_)
  refine lv_goto (tgt := 20) hx hb dX2_goBehind_69 (by decide) ?_
  refine lv_iload hx hb dX2_goBehind_20 (lv_at hl 0 rfl) ?_
  refine lv_iconst (v := nI 3) hx hb dX2_goBehind_22 (by decide) ?_
  refine nv_icmp_ge (tgt := 72) hx hb (by decide) (by decide) dX2_goBehind_23 (by decide) (fun c23 => absurd c23 (by omega)) (fun c23 => ?_)
  refine lv_aload_n hx hb dX2_goBehind_26 rfl (lv_at hl 4 rfl) ?_
  refine va_get (D := D) (ci := 2) (v := .ref (ad 0)) (C := RX2) (T := TX2) (N := 5) hx hb hts hiX2 hown hK hP 8 rfl rfl 1 (by decide) hf32 (fun _ h9 => h9) rfl dX2_goBehind_27 ?_
  refine lv_iload hx hb dX2_goBehind_30 (lv_at hl 1 rfl) ?_
  refine lv_aload_n hx hb dX2_goBehind_32 rfl (lv_at hl 4 rfl) ?_
  refine va_get (D := D) (ci := 2) (v := .ref (ad 0)) (C := RX2) (T := TX2) (N := 5) hx hb hts hiX2 hown hK hP 8 rfl rfl 1 (by decide) hf32 (fun _ h9 => h9) rfl dX2_goBehind_33 ?_
  refine lv_aload_n hx hb dX2_goBehind_36 rfl (lv_at hl 4 rfl) ?_
  refine va_get (D := D) (ci := 2) (v := .ref (bd 1)) (C := RX2) (T := TX2) (N := 5) hx hb hts hiX2 hown hK hP 8 rfl rfl 2 (by decide) hf9 (fun _ h9 => h9) rfl dX2_goBehind_37 ?_
  refine lv_iconst (v := nI 3) hx hb dX2_goBehind_40 (by decide) ?_
  refine lv_iload_n hx hb dX2_goBehind_41 rfl (lv_at hl 3 rfl) ?_
  refine nv_mulE (r := 0) hx hb rfl dX2_goBehind_42 ?_
  refine lv_iload hx hb dX2_goBehind_43 (lv_at hl 0 rfl) ?_
  refine nv_addE (r := 2) hx hb rfl dX2_goBehind_45 ?_
  refine nv_iald hx hb hK hP 9 0 rfl rfl (by omega) (by decide) dX2_goBehind_46 ?_
  refine lv_aload_n hx hb dX2_goBehind_47 rfl (lv_at hl 5 rfl) ?_
  refine va_get (D := D) (ci := 2) (v := .ref (ed 1)) (C := RX2) (T := TX2) (N := 5) hx hb hts hiX2 hown hK hP 12 rfl rfl 2 (by decide) hf9 (fun _ h9 => h9) rfl dX2_goBehind_48 ?_
  refine lv_iconst (v := nI 3) hx hb dX2_goBehind_51 (by decide) ?_
  refine lv_iload hx hb dX2_goBehind_52 (lv_at hl 0 rfl) ?_
  refine nv_mulE (r := 6) hx hb rfl dX2_goBehind_54 ?_
  refine lv_iload_n hx hb dX2_goBehind_55 rfl (lv_at hl 2 rfl) ?_
  refine nv_addE (r := 6) hx hb rfl dX2_goBehind_56 ?_
  refine nv_iald hx hb hK hP 13 0 rfl rfl (by omega) (by decide) dX2_goBehind_57 ?_
  refine ctR_V (As := [.int (nI (mm 2)), .int (nI (fm 6))]) (rest := [.int (nI (fadd q (fadd q 0 (fmul q (mm 0) (fm 0))) (fmul q (mm 1) (fm 3)))), .ref (ad 0)]) (r := .int (nI (fmul q (mm 2) (fm 6)))) ⟨hx, hb, hml, hown, hts⟩ (c_X1_times l D cI cZ ad q sm pr op iv hF (mm 2) (fm 6) (by omega) (by omega)) (cwV 2 hts gX2_goBehind_X1_times rfl rfl rfl hdV_X1_times ⟨Nat.le_of_ble_eq_true rfl, Nat.le_of_ble_eq_true rfl⟩) hK hN hP [0, 1, 2, 3, 4] rfl 0 1 rfl rfl rfl hl.1 rfl (Nat.le_of_ble_eq_true rfl) ⟨Nat.zero_le _, Nat.zero_le _⟩ dX2_goBehind_58 ?_
  have hh_5 : fmul q (mm 2) (fm 6) < q := fmul_lt hF.1 (by omega) (by omega)
  refine ctR_V (As := [.int (nI (fadd q (fadd q 0 (fmul q (mm 0) (fm 0))) (fmul q (mm 1) (fm 3)))), .int (nI (fmul q (mm 2) (fm 6)))]) (rest := []) (r := .int (nI (fadd q (fadd q (fadd q 0 (fmul q (mm 0) (fm 0))) (fmul q (mm 1) (fm 3))) (fmul q (mm 2) (fm 6))))) ⟨hx, hb, hml, hown, hts⟩ (c_X1_plus l D cI cZ ad q sm pr op iv hF (fadd q (fadd q 0 (fmul q (mm 0) (fm 0))) (fmul q (mm 1) (fm 3))) (fmul q (mm 2) (fm 6)) (by omega) (by omega)) (cwV 2 hts gX2_goBehind_X1_plus rfl rfl rfl hdV_X1_plus ⟨Nat.le_of_ble_eq_true rfl, Nat.le_of_ble_eq_true rfl⟩) hK hN hP [0, 1, 2, 3, 4] rfl 0 1 rfl rfl rfl hl.1 rfl (Nat.le_of_ble_eq_true rfl) ⟨Nat.zero_le _, Nat.zero_le _⟩ dX2_goBehind_61 ?_
  have hh_6 : fadd q (fadd q (fadd q 0 (fmul q (mm 0) (fm 0))) (fmul q (mm 1) (fm 3))) (fmul q (mm 2) (fm 6)) < q := fadd_lt hF.1 (by omega) (by omega)
  refine lv_istore (lv' := [(4, .int (nI (fadd q (fadd q (fadd q 0 (fmul q (mm 0) (fm 0))) (fmul q (mm 1) (fm 3))) (fmul q (mm 2) (fm 6))))), (5, .int (nI 2)), (3, .int (nI 0)), (2, .int (nI 0)), (0, .ref (bd 0)), (1, .ref (ed 0))]) hx hb dX2_goBehind_64 hl (by decide) rfl (fun ls hl => ?_)
  refine lv_iinc (v := nI 3) (lv' := [(5, .int (nI 3)), (4, .int (nI (fadd q (fadd q (fadd q 0 (fmul q (mm 0) (fm 0))) (fmul q (mm 1) (fm 3))) (fmul q (mm 2) (fm 6))))), (3, .int (nI 0)), (2, .int (nI 0)), (0, .ref (bd 0)), (1, .ref (ed 0))]) hx hb dX2_goBehind_66 hl (k := 1) rfl (nI_inc 2) (by decide) rfl (fun ls hl => ?_)
  refine lv_goto (tgt := 20) hx hb dX2_goBehind_69 (by decide) ?_
  refine lv_iload hx hb dX2_goBehind_20 (lv_at hl 0 rfl) ?_
  refine lv_iconst (v := nI 3) hx hb dX2_goBehind_22 (by decide) ?_
  refine nv_icmp_ge (tgt := 72) hx hb (by decide) (by decide) dX2_goBehind_23 (by decide) (fun c23 => ?_) (fun c23 => absurd c23 (by omega))
  refine lv_aload_n hx hb dX2_goBehind_72 rfl (lv_at hl 4 rfl) ?_
  refine va_get (D := D) (ci := 2) (v := .ref (bd 2)) (C := RX2) (T := TX2) (N := 5) hx hb hts hiX2 hown hK hP 8 rfl rfl 3 (by decide) hf15 (fun _ h9 => h9) rfl dX2_goBehind_73 ?_
  refine lv_iconst (v := nI 3) hx hb dX2_goBehind_76 (by decide) ?_
  refine lv_iload_n hx hb dX2_goBehind_77 rfl (lv_at hl 3 rfl) ?_
  refine nv_mulE (r := 0) hx hb rfl dX2_goBehind_78 ?_
  refine lv_iload_n hx hb dX2_goBehind_79 rfl (lv_at hl 2 rfl) ?_
  refine nv_addE (r := 0) hx hb rfl dX2_goBehind_80 ?_
  refine lv_iload hx hb dX2_goBehind_81 (lv_at hl 1 rfl) ?_
  refine nv_iast hx hb hK hP hD hS 10 0 rfl rfl (by omega) (by decide) dX2_goBehind_83 (fun H locs hP hD hS => ?_)
  have hP : va_P D vwCl [(ad 0, .inr (1, [.int (nI q), .ref (ad 1), .ref (ad 2), .ref (ad 3), .ref (ad 4)])), (ad 1, .inl (cI, 81, .inl (nF sm))), (ad 2, .inl (cI, 81, .inl (nF pr))), (ad 3, .inl (cI, 9, .inl (nF op))), (ad 4, .inl (cI, 9, .inl (nF iv))), (ad 5, .inr (3, [.ref (ad 0), .int (nI (nn q)), .ref (ad 6), .ref (ad 7)])), (ad 6, .inl (cI, 273, .inl (nF tr))), (ad 7, .inl (cI, 910, .inl (nF ro))), (bd 0, .inr (2, [.ref (ad 5), .ref (ad 0), .ref (bd 1), .ref (bd 2), .ref (bd 3)])), (bd 1, .inl (cI, 9, .inl (nF mm))), (bd 2, .inl (cI, 9, .inl (nF (upN me 0 (fadd q (fadd q (fadd q 0 (fmul q (mm 0) (fm 0))) (fmul q (mm 1) (fm 3))) (fmul q (mm 2) (fm 6))))))), (bd 3, .inl (cZ, 91, .inl (bF rc))), (ed 0, .inr (2, [.ref (ad 5), .ref (ad 0), .ref (ed 1), .ref (ed 2), .ref (ed 3)])), (ed 1, .inl (cI, 9, .inl (nF fm)))] H := hP
  have hD : va_D A [(ad 0, .inr (1, [.int (nI q), .ref (ad 1), .ref (ad 2), .ref (ad 3), .ref (ad 4)])), (ad 1, .inl (cI, 81, .inl (nF sm))), (ad 2, .inl (cI, 81, .inl (nF pr))), (ad 3, .inl (cI, 9, .inl (nF op))), (ad 4, .inl (cI, 9, .inl (nF iv))), (ad 5, .inr (3, [.ref (ad 0), .int (nI (nn q)), .ref (ad 6), .ref (ad 7)])), (ad 6, .inl (cI, 273, .inl (nF tr))), (ad 7, .inl (cI, 910, .inl (nF ro))), (bd 0, .inr (2, [.ref (ad 5), .ref (ad 0), .ref (bd 1), .ref (bd 2), .ref (bd 3)])), (bd 1, .inl (cI, 9, .inl (nF mm))), (bd 2, .inl (cI, 9, .inl (nF (upN me 0 (fadd q (fadd q (fadd q 0 (fmul q (mm 0) (fm 0))) (fmul q (mm 1) (fm 3))) (fmul q (mm 2) (fm 6))))))), (bd 3, .inl (cZ, 91, .inl (bF rc))), (ed 0, .inr (2, [.ref (ad 5), .ref (ad 0), .ref (ed 1), .ref (ed 2), .ref (ed 3)])), (ed 1, .inl (cI, 9, .inl (nF fm)))] := hD
  refine lv_iinc (v := nI 1) (lv' := [(3, .int (nI 1)), (5, .int (nI 3)), (4, .int (nI (fadd q (fadd q (fadd q 0 (fmul q (mm 0) (fm 0))) (fmul q (mm 1) (fm 3))) (fmul q (mm 2) (fm 6))))), (2, .int (nI 0)), (0, .ref (bd 0)), (1, .ref (ed 0))]) hx hb dX2_goBehind_84 hl (k := 2) rfl (nI_inc 0) (by decide) rfl (fun ls hl => ?_)
  refine lv_goto (tgt := 9) hx hb dX2_goBehind_87 (by decide) ?_
  refine lv_iload_n hx hb dX2_goBehind_9 rfl (lv_at hl 0 rfl) ?_
  refine lv_iconst (v := nI 3) hx hb dX2_goBehind_10 (by decide) ?_
  refine nv_icmp_ge (tgt := 90) hx hb (by decide) (by decide) dX2_goBehind_11 (by decide) (fun c11 => absurd c11 (by omega)) (fun c11 => ?_)
  refine lv_iconst (v := nI 0) hx hb dX2_goBehind_14 (by decide) ?_
  refine lv_istore (lv' := [(4, .int (nI 0)), (3, .int (nI 1)), (5, .int (nI 3)), (2, .int (nI 0)), (0, .ref (bd 0)), (1, .ref (ed 0))]) hx hb dX2_goBehind_15 hl (by decide) rfl (fun ls hl => ?_)
  refine lv_iconst (v := nI 0) hx hb dX2_goBehind_17 (by decide) ?_
  refine lv_istore (lv' := [(5, .int (nI 0)), (4, .int (nI 0)), (3, .int (nI 1)), (2, .int (nI 0)), (0, .ref (bd 0)), (1, .ref (ed 0))]) hx hb dX2_goBehind_18 hl (by decide) rfl (fun ls hl => ?_)
  refine lv_iload hx hb dX2_goBehind_20 (lv_at hl 0 rfl) ?_
  refine lv_iconst (v := nI 3) hx hb dX2_goBehind_22 (by decide) ?_
  refine nv_icmp_ge (tgt := 72) hx hb (by decide) (by decide) dX2_goBehind_23 (by decide) (fun c23 => absurd c23 (by omega)) (fun c23 => ?_)
  refine lv_aload_n hx hb dX2_goBehind_26 rfl (lv_at hl 4 rfl) ?_
  refine va_get (D := D) (ci := 2) (v := .ref (ad 0)) (C := RX2) (T := TX2) (N := 5) hx hb hts hiX2 hown hK hP 8 rfl rfl 1 (by decide) hf32 (fun _ h9 => h9) rfl dX2_goBehind_27 ?_
  refine lv_iload hx hb dX2_goBehind_30 (lv_at hl 1 rfl) ?_
  refine lv_aload_n hx hb dX2_goBehind_32 rfl (lv_at hl 4 rfl) ?_
  refine va_get (D := D) (ci := 2) (v := .ref (ad 0)) (C := RX2) (T := TX2) (N := 5) hx hb hts hiX2 hown hK hP 8 rfl rfl 1 (by decide) hf32 (fun _ h9 => h9) rfl dX2_goBehind_33 ?_
  refine lv_aload_n hx hb dX2_goBehind_36 rfl (lv_at hl 4 rfl) ?_
  refine va_get (D := D) (ci := 2) (v := .ref (bd 1)) (C := RX2) (T := TX2) (N := 5) hx hb hts hiX2 hown hK hP 8 rfl rfl 2 (by decide) hf9 (fun _ h9 => h9) rfl dX2_goBehind_37 ?_
  refine lv_iconst (v := nI 3) hx hb dX2_goBehind_40 (by decide) ?_
  refine lv_iload_n hx hb dX2_goBehind_41 rfl (lv_at hl 3 rfl) ?_
  refine nv_mulE (r := 0) hx hb rfl dX2_goBehind_42 ?_
  refine lv_iload hx hb dX2_goBehind_43 (lv_at hl 0 rfl) ?_
  refine nv_addE (r := 0) hx hb rfl dX2_goBehind_45 ?_
  refine nv_iald hx hb hK hP 9 0 rfl rfl (by omega) (by decide) dX2_goBehind_46 ?_
  refine lv_aload_n hx hb dX2_goBehind_47 rfl (lv_at hl 5 rfl) ?_
  refine va_get (D := D) (ci := 2) (v := .ref (ed 1)) (C := RX2) (T := TX2) (N := 5) hx hb hts hiX2 hown hK hP 12 rfl rfl 2 (by decide) hf9 (fun _ h9 => h9) rfl dX2_goBehind_48 ?_
  refine lv_iconst (v := nI 3) hx hb dX2_goBehind_51 (by decide) ?_
  refine lv_iload hx hb dX2_goBehind_52 (lv_at hl 0 rfl) ?_
  refine nv_mulE (r := 0) hx hb rfl dX2_goBehind_54 ?_
  refine lv_iload_n hx hb dX2_goBehind_55 rfl (lv_at hl 2 rfl) ?_
  refine nv_addE (r := 1) hx hb rfl dX2_goBehind_56 ?_
  refine nv_iald hx hb hK hP 13 0 rfl rfl (by omega) (by decide) dX2_goBehind_57 ?_
  refine ctR_V (As := [.int (nI (mm 0)), .int (nI (fm 1))]) (rest := [.int (nI 0), .ref (ad 0)]) (r := .int (nI (fmul q (mm 0) (fm 1)))) ⟨hx, hb, hml, hown, hts⟩ (c_X1_times l D cI cZ ad q sm pr op iv hF (mm 0) (fm 1) (by omega) (by omega)) (cwV 2 hts gX2_goBehind_X1_times rfl rfl rfl hdV_X1_times ⟨Nat.le_of_ble_eq_true rfl, Nat.le_of_ble_eq_true rfl⟩) hK hN hP [0, 1, 2, 3, 4] rfl 0 1 rfl rfl rfl hl.1 rfl (Nat.le_of_ble_eq_true rfl) ⟨Nat.zero_le _, Nat.zero_le _⟩ dX2_goBehind_58 ?_
  have hh_7 : fmul q (mm 0) (fm 1) < q := fmul_lt hF.1 (by omega) (by omega)
  refine ctR_V (As := [.int (nI 0), .int (nI (fmul q (mm 0) (fm 1)))]) (rest := []) (r := .int (nI (fadd q 0 (fmul q (mm 0) (fm 1))))) ⟨hx, hb, hml, hown, hts⟩ (c_X1_plus l D cI cZ ad q sm pr op iv hF 0 (fmul q (mm 0) (fm 1)) (by omega) (by omega)) (cwV 2 hts gX2_goBehind_X1_plus rfl rfl rfl hdV_X1_plus ⟨Nat.le_of_ble_eq_true rfl, Nat.le_of_ble_eq_true rfl⟩) hK hN hP [0, 1, 2, 3, 4] rfl 0 1 rfl rfl rfl hl.1 rfl (Nat.le_of_ble_eq_true rfl) ⟨Nat.zero_le _, Nat.zero_le _⟩ dX2_goBehind_61 ?_
  have hh_8 : fadd q 0 (fmul q (mm 0) (fm 1)) < q := fadd_lt hF.1 (by omega) (by omega)
  refine lv_istore (lv' := [(4, .int (nI (fadd q 0 (fmul q (mm 0) (fm 1))))), (5, .int (nI 0)), (3, .int (nI 1)), (2, .int (nI 0)), (0, .ref (bd 0)), (1, .ref (ed 0))]) hx hb dX2_goBehind_64 hl (by decide) rfl (fun ls hl => ?_)
  refine lv_iinc (v := nI 1) (lv' := [(5, .int (nI 1)), (4, .int (nI (fadd q 0 (fmul q (mm 0) (fm 1))))), (3, .int (nI 1)), (2, .int (nI 0)), (0, .ref (bd 0)), (1, .ref (ed 0))]) hx hb dX2_goBehind_66 hl (k := 1) rfl (nI_inc 0) (by decide) rfl (fun ls hl => ?_)
  refine lv_goto (tgt := 20) hx hb dX2_goBehind_69 (by decide) ?_
  refine lv_iload hx hb dX2_goBehind_20 (lv_at hl 0 rfl) ?_
  refine lv_iconst (v := nI 3) hx hb dX2_goBehind_22 (by decide) ?_
  refine nv_icmp_ge (tgt := 72) hx hb (by decide) (by decide) dX2_goBehind_23 (by decide) (fun c23 => absurd c23 (by omega)) (fun c23 => ?_)
  refine lv_aload_n hx hb dX2_goBehind_26 rfl (lv_at hl 4 rfl) ?_
  refine va_get (D := D) (ci := 2) (v := .ref (ad 0)) (C := RX2) (T := TX2) (N := 5) hx hb hts hiX2 hown hK hP 8 rfl rfl 1 (by decide) hf32 (fun _ h9 => h9) rfl dX2_goBehind_27 ?_
  refine lv_iload hx hb dX2_goBehind_30 (lv_at hl 1 rfl) ?_
  refine lv_aload_n hx hb dX2_goBehind_32 rfl (lv_at hl 4 rfl) ?_
  refine va_get (D := D) (ci := 2) (v := .ref (ad 0)) (C := RX2) (T := TX2) (N := 5) hx hb hts hiX2 hown hK hP 8 rfl rfl 1 (by decide) hf32 (fun _ h9 => h9) rfl dX2_goBehind_33 ?_
  refine lv_aload_n hx hb dX2_goBehind_36 rfl (lv_at hl 4 rfl) ?_
  refine va_get (D := D) (ci := 2) (v := .ref (bd 1)) (C := RX2) (T := TX2) (N := 5) hx hb hts hiX2 hown hK hP 8 rfl rfl 2 (by decide) hf9 (fun _ h9 => h9) rfl dX2_goBehind_37 ?_
  refine lv_iconst (v := nI 3) hx hb dX2_goBehind_40 (by decide) ?_
  refine lv_iload_n hx hb dX2_goBehind_41 rfl (lv_at hl 3 rfl) ?_
  refine nv_mulE (r := 0) hx hb rfl dX2_goBehind_42 ?_
  refine lv_iload hx hb dX2_goBehind_43 (lv_at hl 0 rfl) ?_
  refine nv_addE (r := 1) hx hb rfl dX2_goBehind_45 ?_
  refine nv_iald hx hb hK hP 9 0 rfl rfl (by omega) (by decide) dX2_goBehind_46 ?_
  refine lv_aload_n hx hb dX2_goBehind_47 rfl (lv_at hl 5 rfl) ?_
  refine va_get (D := D) (ci := 2) (v := .ref (ed 1)) (C := RX2) (T := TX2) (N := 5) hx hb hts hiX2 hown hK hP 12 rfl rfl 2 (by decide) hf9 (fun _ h9 => h9) rfl dX2_goBehind_48 ?_
  refine lv_iconst (v := nI 3) hx hb dX2_goBehind_51 (by decide) ?_
  refine lv_iload hx hb dX2_goBehind_52 (lv_at hl 0 rfl) ?_
  refine nv_mulE (r := 3) hx hb rfl dX2_goBehind_54 ?_
  refine lv_iload_n hx hb dX2_goBehind_55 rfl (lv_at hl 2 rfl) ?_
  refine nv_addE (r := 4) hx hb rfl dX2_goBehind_56 ?_
  refine nv_iald hx hb hK hP 13 0 rfl rfl (by omega) (by decide) dX2_goBehind_57 ?_
  refine ctR_V (As := [.int (nI (mm 1)), .int (nI (fm 4))]) (rest := [.int (nI (fadd q 0 (fmul q (mm 0) (fm 1)))), .ref (ad 0)]) (r := .int (nI (fmul q (mm 1) (fm 4)))) ⟨hx, hb, hml, hown, hts⟩ (c_X1_times l D cI cZ ad q sm pr op iv hF (mm 1) (fm 4) (by omega) (by omega)) (cwV 2 hts gX2_goBehind_X1_times rfl rfl rfl hdV_X1_times ⟨Nat.le_of_ble_eq_true rfl, Nat.le_of_ble_eq_true rfl⟩) hK hN hP [0, 1, 2, 3, 4] rfl 0 1 rfl rfl rfl hl.1 rfl (Nat.le_of_ble_eq_true rfl) ⟨Nat.zero_le _, Nat.zero_le _⟩ dX2_goBehind_58 ?_
  have hh_9 : fmul q (mm 1) (fm 4) < q := fmul_lt hF.1 (by omega) (by omega)
  refine ctR_V (As := [.int (nI (fadd q 0 (fmul q (mm 0) (fm 1)))), .int (nI (fmul q (mm 1) (fm 4)))]) (rest := []) (r := .int (nI (fadd q (fadd q 0 (fmul q (mm 0) (fm 1))) (fmul q (mm 1) (fm 4))))) ⟨hx, hb, hml, hown, hts⟩ (c_X1_plus l D cI cZ ad q sm pr op iv hF (fadd q 0 (fmul q (mm 0) (fm 1))) (fmul q (mm 1) (fm 4)) (by omega) (by omega)) (cwV 2 hts gX2_goBehind_X1_plus rfl rfl rfl hdV_X1_plus ⟨Nat.le_of_ble_eq_true rfl, Nat.le_of_ble_eq_true rfl⟩) hK hN hP [0, 1, 2, 3, 4] rfl 0 1 rfl rfl rfl hl.1 rfl (Nat.le_of_ble_eq_true rfl) ⟨Nat.zero_le _, Nat.zero_le _⟩ dX2_goBehind_61 ?_
  have hh_10 : fadd q (fadd q 0 (fmul q (mm 0) (fm 1))) (fmul q (mm 1) (fm 4)) < q := fadd_lt hF.1 (by omega) (by omega)
  refine lv_istore (lv' := [(4, .int (nI (fadd q (fadd q 0 (fmul q (mm 0) (fm 1))) (fmul q (mm 1) (fm 4))))), (5, .int (nI 1)), (3, .int (nI 1)), (2, .int (nI 0)), (0, .ref (bd 0)), (1, .ref (ed 0))]) hx hb dX2_goBehind_64 hl (by decide) rfl (fun ls hl => ?_)
  refine lv_iinc (v := nI 2) (lv' := [(5, .int (nI 2)), (4, .int (nI (fadd q (fadd q 0 (fmul q (mm 0) (fm 1))) (fmul q (mm 1) (fm 4))))), (3, .int (nI 1)), (2, .int (nI 0)), (0, .ref (bd 0)), (1, .ref (ed 0))]) hx hb dX2_goBehind_66 hl (k := 1) rfl (nI_inc 1) (by decide) rfl (fun ls hl => ?_)
  refine lv_goto (tgt := 20) hx hb dX2_goBehind_69 (by decide) ?_
  refine lv_iload hx hb dX2_goBehind_20 (lv_at hl 0 rfl) ?_
  refine lv_iconst (v := nI 3) hx hb dX2_goBehind_22 (by decide) ?_
  refine nv_icmp_ge (tgt := 72) hx hb (by decide) (by decide) dX2_goBehind_23 (by decide) (fun c23 => absurd c23 (by omega)) (fun c23 => ?_)
  refine lv_aload_n hx hb dX2_goBehind_26 rfl (lv_at hl 4 rfl) ?_
  refine va_get (D := D) (ci := 2) (v := .ref (ad 0)) (C := RX2) (T := TX2) (N := 5) hx hb hts hiX2 hown hK hP 8 rfl rfl 1 (by decide) hf32 (fun _ h9 => h9) rfl dX2_goBehind_27 ?_
  refine lv_iload hx hb dX2_goBehind_30 (lv_at hl 1 rfl) ?_
  refine lv_aload_n hx hb dX2_goBehind_32 rfl (lv_at hl 4 rfl) ?_
  refine va_get (D := D) (ci := 2) (v := .ref (ad 0)) (C := RX2) (T := TX2) (N := 5) hx hb hts hiX2 hown hK hP 8 rfl rfl 1 (by decide) hf32 (fun _ h9 => h9) rfl dX2_goBehind_33 ?_
  refine lv_aload_n hx hb dX2_goBehind_36 rfl (lv_at hl 4 rfl) ?_
  refine va_get (D := D) (ci := 2) (v := .ref (bd 1)) (C := RX2) (T := TX2) (N := 5) hx hb hts hiX2 hown hK hP 8 rfl rfl 2 (by decide) hf9 (fun _ h9 => h9) rfl dX2_goBehind_37 ?_
  refine lv_iconst (v := nI 3) hx hb dX2_goBehind_40 (by decide) ?_
  refine lv_iload_n hx hb dX2_goBehind_41 rfl (lv_at hl 3 rfl) ?_
  refine nv_mulE (r := 0) hx hb rfl dX2_goBehind_42 ?_
  refine lv_iload hx hb dX2_goBehind_43 (lv_at hl 0 rfl) ?_
  refine nv_addE (r := 2) hx hb rfl dX2_goBehind_45 ?_
  refine nv_iald hx hb hK hP 9 0 rfl rfl (by omega) (by decide) dX2_goBehind_46 ?_
  refine lv_aload_n hx hb dX2_goBehind_47 rfl (lv_at hl 5 rfl) ?_
  refine va_get (D := D) (ci := 2) (v := .ref (ed 1)) (C := RX2) (T := TX2) (N := 5) hx hb hts hiX2 hown hK hP 12 rfl rfl 2 (by decide) hf9 (fun _ h9 => h9) rfl dX2_goBehind_48 ?_
  refine lv_iconst (v := nI 3) hx hb dX2_goBehind_51 (by decide) ?_
  refine lv_iload hx hb dX2_goBehind_52 (lv_at hl 0 rfl) ?_
  refine nv_mulE (r := 6) hx hb rfl dX2_goBehind_54 ?_
  refine lv_iload_n hx hb dX2_goBehind_55 rfl (lv_at hl 2 rfl) ?_
  refine nv_addE (r := 7) hx hb rfl dX2_goBehind_56 ?_
  refine nv_iald hx hb hK hP 13 0 rfl rfl (by omega) (by decide) dX2_goBehind_57 ?_
  refine ctR_V (As := [.int (nI (mm 2)), .int (nI (fm 7))]) (rest := [.int (nI (fadd q (fadd q 0 (fmul q (mm 0) (fm 1))) (fmul q (mm 1) (fm 4)))), .ref (ad 0)]) (r := .int (nI (fmul q (mm 2) (fm 7)))) ⟨hx, hb, hml, hown, hts⟩ (c_X1_times l D cI cZ ad q sm pr op iv hF (mm 2) (fm 7) (by omega) (by omega)) (cwV 2 hts gX2_goBehind_X1_times rfl rfl rfl hdV_X1_times ⟨Nat.le_of_ble_eq_true rfl, Nat.le_of_ble_eq_true rfl⟩) hK hN hP [0, 1, 2, 3, 4] rfl 0 1 rfl rfl rfl hl.1 rfl (Nat.le_of_ble_eq_true rfl) ⟨Nat.zero_le _, Nat.zero_le _⟩ dX2_goBehind_58 ?_
  have hh_11 : fmul q (mm 2) (fm 7) < q := fmul_lt hF.1 (by omega) (by omega)
  refine ctR_V (As := [.int (nI (fadd q (fadd q 0 (fmul q (mm 0) (fm 1))) (fmul q (mm 1) (fm 4)))), .int (nI (fmul q (mm 2) (fm 7)))]) (rest := []) (r := .int (nI (fadd q (fadd q (fadd q 0 (fmul q (mm 0) (fm 1))) (fmul q (mm 1) (fm 4))) (fmul q (mm 2) (fm 7))))) ⟨hx, hb, hml, hown, hts⟩ (c_X1_plus l D cI cZ ad q sm pr op iv hF (fadd q (fadd q 0 (fmul q (mm 0) (fm 1))) (fmul q (mm 1) (fm 4))) (fmul q (mm 2) (fm 7)) (by omega) (by omega)) (cwV 2 hts gX2_goBehind_X1_plus rfl rfl rfl hdV_X1_plus ⟨Nat.le_of_ble_eq_true rfl, Nat.le_of_ble_eq_true rfl⟩) hK hN hP [0, 1, 2, 3, 4] rfl 0 1 rfl rfl rfl hl.1 rfl (Nat.le_of_ble_eq_true rfl) ⟨Nat.zero_le _, Nat.zero_le _⟩ dX2_goBehind_61 ?_
  have hh_12 : fadd q (fadd q (fadd q 0 (fmul q (mm 0) (fm 1))) (fmul q (mm 1) (fm 4))) (fmul q (mm 2) (fm 7)) < q := fadd_lt hF.1 (by omega) (by omega)
  refine lv_istore (lv' := [(4, .int (nI (fadd q (fadd q (fadd q 0 (fmul q (mm 0) (fm 1))) (fmul q (mm 1) (fm 4))) (fmul q (mm 2) (fm 7))))), (5, .int (nI 2)), (3, .int (nI 1)), (2, .int (nI 0)), (0, .ref (bd 0)), (1, .ref (ed 0))]) hx hb dX2_goBehind_64 hl (by decide) rfl (fun ls hl => ?_)
  refine lv_iinc (v := nI 3) (lv' := [(5, .int (nI 3)), (4, .int (nI (fadd q (fadd q (fadd q 0 (fmul q (mm 0) (fm 1))) (fmul q (mm 1) (fm 4))) (fmul q (mm 2) (fm 7))))), (3, .int (nI 1)), (2, .int (nI 0)), (0, .ref (bd 0)), (1, .ref (ed 0))]) hx hb dX2_goBehind_66 hl (k := 1) rfl (nI_inc 2) (by decide) rfl (fun ls hl => ?_)
  refine lv_goto (tgt := 20) hx hb dX2_goBehind_69 (by decide) ?_
  refine lv_iload hx hb dX2_goBehind_20 (lv_at hl 0 rfl) ?_
  refine lv_iconst (v := nI 3) hx hb dX2_goBehind_22 (by decide) ?_
  refine nv_icmp_ge (tgt := 72) hx hb (by decide) (by decide) dX2_goBehind_23 (by decide) (fun c23 => ?_) (fun c23 => absurd c23 (by omega))
  refine lv_aload_n hx hb dX2_goBehind_72 rfl (lv_at hl 4 rfl) ?_
  refine va_get (D := D) (ci := 2) (v := .ref (bd 2)) (C := RX2) (T := TX2) (N := 5) hx hb hts hiX2 hown hK hP 8 rfl rfl 3 (by decide) hf15 (fun _ h9 => h9) rfl dX2_goBehind_73 ?_
  refine lv_iconst (v := nI 3) hx hb dX2_goBehind_76 (by decide) ?_
  refine lv_iload_n hx hb dX2_goBehind_77 rfl (lv_at hl 3 rfl) ?_
  refine nv_mulE (r := 0) hx hb rfl dX2_goBehind_78 ?_
  refine lv_iload_n hx hb dX2_goBehind_79 rfl (lv_at hl 2 rfl) ?_
  refine nv_addE (r := 1) hx hb rfl dX2_goBehind_80 ?_
  refine lv_iload hx hb dX2_goBehind_81 (lv_at hl 1 rfl) ?_
  refine nv_iast hx hb hK hP hD hS 10 0 rfl rfl (by omega) (by decide) dX2_goBehind_83 (fun H locs hP hD hS => ?_)
  have hP : va_P D vwCl [(ad 0, .inr (1, [.int (nI q), .ref (ad 1), .ref (ad 2), .ref (ad 3), .ref (ad 4)])), (ad 1, .inl (cI, 81, .inl (nF sm))), (ad 2, .inl (cI, 81, .inl (nF pr))), (ad 3, .inl (cI, 9, .inl (nF op))), (ad 4, .inl (cI, 9, .inl (nF iv))), (ad 5, .inr (3, [.ref (ad 0), .int (nI (nn q)), .ref (ad 6), .ref (ad 7)])), (ad 6, .inl (cI, 273, .inl (nF tr))), (ad 7, .inl (cI, 910, .inl (nF ro))), (bd 0, .inr (2, [.ref (ad 5), .ref (ad 0), .ref (bd 1), .ref (bd 2), .ref (bd 3)])), (bd 1, .inl (cI, 9, .inl (nF mm))), (bd 2, .inl (cI, 9, .inl (nF (upN (upN me 0 (fadd q (fadd q (fadd q 0 (fmul q (mm 0) (fm 0))) (fmul q (mm 1) (fm 3))) (fmul q (mm 2) (fm 6)))) 1 (fadd q (fadd q (fadd q 0 (fmul q (mm 0) (fm 1))) (fmul q (mm 1) (fm 4))) (fmul q (mm 2) (fm 7))))))), (bd 3, .inl (cZ, 91, .inl (bF rc))), (ed 0, .inr (2, [.ref (ad 5), .ref (ad 0), .ref (ed 1), .ref (ed 2), .ref (ed 3)])), (ed 1, .inl (cI, 9, .inl (nF fm)))] H := hP
  have hD : va_D A [(ad 0, .inr (1, [.int (nI q), .ref (ad 1), .ref (ad 2), .ref (ad 3), .ref (ad 4)])), (ad 1, .inl (cI, 81, .inl (nF sm))), (ad 2, .inl (cI, 81, .inl (nF pr))), (ad 3, .inl (cI, 9, .inl (nF op))), (ad 4, .inl (cI, 9, .inl (nF iv))), (ad 5, .inr (3, [.ref (ad 0), .int (nI (nn q)), .ref (ad 6), .ref (ad 7)])), (ad 6, .inl (cI, 273, .inl (nF tr))), (ad 7, .inl (cI, 910, .inl (nF ro))), (bd 0, .inr (2, [.ref (ad 5), .ref (ad 0), .ref (bd 1), .ref (bd 2), .ref (bd 3)])), (bd 1, .inl (cI, 9, .inl (nF mm))), (bd 2, .inl (cI, 9, .inl (nF (upN (upN me 0 (fadd q (fadd q (fadd q 0 (fmul q (mm 0) (fm 0))) (fmul q (mm 1) (fm 3))) (fmul q (mm 2) (fm 6)))) 1 (fadd q (fadd q (fadd q 0 (fmul q (mm 0) (fm 1))) (fmul q (mm 1) (fm 4))) (fmul q (mm 2) (fm 7))))))), (bd 3, .inl (cZ, 91, .inl (bF rc))), (ed 0, .inr (2, [.ref (ad 5), .ref (ad 0), .ref (ed 1), .ref (ed 2), .ref (ed 3)])), (ed 1, .inl (cI, 9, .inl (nF fm)))] := hD
  refine lv_iinc (v := nI 2) (lv' := [(3, .int (nI 2)), (5, .int (nI 3)), (4, .int (nI (fadd q (fadd q (fadd q 0 (fmul q (mm 0) (fm 1))) (fmul q (mm 1) (fm 4))) (fmul q (mm 2) (fm 7))))), (2, .int (nI 0)), (0, .ref (bd 0)), (1, .ref (ed 0))]) hx hb dX2_goBehind_84 hl (k := 2) rfl (nI_inc 1) (by decide) rfl (fun ls hl => ?_)
  refine lv_goto (tgt := 9) hx hb dX2_goBehind_87 (by decide) ?_
  refine lv_iload_n hx hb dX2_goBehind_9 rfl (lv_at hl 0 rfl) ?_
  refine lv_iconst (v := nI 3) hx hb dX2_goBehind_10 (by decide) ?_
  refine nv_icmp_ge (tgt := 90) hx hb (by decide) (by decide) dX2_goBehind_11 (by decide) (fun c11 => absurd c11 (by omega)) (fun c11 => ?_)
  refine lv_iconst (v := nI 0) hx hb dX2_goBehind_14 (by decide) ?_
  refine lv_istore (lv' := [(4, .int (nI 0)), (3, .int (nI 2)), (5, .int (nI 3)), (2, .int (nI 0)), (0, .ref (bd 0)), (1, .ref (ed 0))]) hx hb dX2_goBehind_15 hl (by decide) rfl (fun ls hl => ?_)
  refine lv_iconst (v := nI 0) hx hb dX2_goBehind_17 (by decide) ?_
  refine lv_istore (lv' := [(5, .int (nI 0)), (4, .int (nI 0)), (3, .int (nI 2)), (2, .int (nI 0)), (0, .ref (bd 0)), (1, .ref (ed 0))]) hx hb dX2_goBehind_18 hl (by decide) rfl (fun ls hl => ?_)
  refine lv_iload hx hb dX2_goBehind_20 (lv_at hl 0 rfl) ?_
  refine lv_iconst (v := nI 3) hx hb dX2_goBehind_22 (by decide) ?_
  refine nv_icmp_ge (tgt := 72) hx hb (by decide) (by decide) dX2_goBehind_23 (by decide) (fun c23 => absurd c23 (by omega)) (fun c23 => ?_)
  refine lv_aload_n hx hb dX2_goBehind_26 rfl (lv_at hl 4 rfl) ?_
  refine va_get (D := D) (ci := 2) (v := .ref (ad 0)) (C := RX2) (T := TX2) (N := 5) hx hb hts hiX2 hown hK hP 8 rfl rfl 1 (by decide) hf32 (fun _ h9 => h9) rfl dX2_goBehind_27 ?_
  refine lv_iload hx hb dX2_goBehind_30 (lv_at hl 1 rfl) ?_
  refine lv_aload_n hx hb dX2_goBehind_32 rfl (lv_at hl 4 rfl) ?_
  refine va_get (D := D) (ci := 2) (v := .ref (ad 0)) (C := RX2) (T := TX2) (N := 5) hx hb hts hiX2 hown hK hP 8 rfl rfl 1 (by decide) hf32 (fun _ h9 => h9) rfl dX2_goBehind_33 ?_
  refine lv_aload_n hx hb dX2_goBehind_36 rfl (lv_at hl 4 rfl) ?_
  refine va_get (D := D) (ci := 2) (v := .ref (bd 1)) (C := RX2) (T := TX2) (N := 5) hx hb hts hiX2 hown hK hP 8 rfl rfl 2 (by decide) hf9 (fun _ h9 => h9) rfl dX2_goBehind_37 ?_
  refine lv_iconst (v := nI 3) hx hb dX2_goBehind_40 (by decide) ?_
  refine lv_iload_n hx hb dX2_goBehind_41 rfl (lv_at hl 3 rfl) ?_
  refine nv_mulE (r := 0) hx hb rfl dX2_goBehind_42 ?_
  refine lv_iload hx hb dX2_goBehind_43 (lv_at hl 0 rfl) ?_
  refine nv_addE (r := 0) hx hb rfl dX2_goBehind_45 ?_
  refine nv_iald hx hb hK hP 9 0 rfl rfl (by omega) (by decide) dX2_goBehind_46 ?_
  refine lv_aload_n hx hb dX2_goBehind_47 rfl (lv_at hl 5 rfl) ?_
  refine va_get (D := D) (ci := 2) (v := .ref (ed 1)) (C := RX2) (T := TX2) (N := 5) hx hb hts hiX2 hown hK hP 12 rfl rfl 2 (by decide) hf9 (fun _ h9 => h9) rfl dX2_goBehind_48 ?_
  refine lv_iconst (v := nI 3) hx hb dX2_goBehind_51 (by decide) ?_
  refine lv_iload hx hb dX2_goBehind_52 (lv_at hl 0 rfl) ?_
  refine nv_mulE (r := 0) hx hb rfl dX2_goBehind_54 ?_
  refine lv_iload_n hx hb dX2_goBehind_55 rfl (lv_at hl 2 rfl) ?_
  refine nv_addE (r := 2) hx hb rfl dX2_goBehind_56 ?_
  refine nv_iald hx hb hK hP 13 0 rfl rfl (by omega) (by decide) dX2_goBehind_57 ?_
  refine ctR_V (As := [.int (nI (mm 0)), .int (nI (fm 2))]) (rest := [.int (nI 0), .ref (ad 0)]) (r := .int (nI (fmul q (mm 0) (fm 2)))) ⟨hx, hb, hml, hown, hts⟩ (c_X1_times l D cI cZ ad q sm pr op iv hF (mm 0) (fm 2) (by omega) (by omega)) (cwV 2 hts gX2_goBehind_X1_times rfl rfl rfl hdV_X1_times ⟨Nat.le_of_ble_eq_true rfl, Nat.le_of_ble_eq_true rfl⟩) hK hN hP [0, 1, 2, 3, 4] rfl 0 1 rfl rfl rfl hl.1 rfl (Nat.le_of_ble_eq_true rfl) ⟨Nat.zero_le _, Nat.zero_le _⟩ dX2_goBehind_58 ?_
  have hh_13 : fmul q (mm 0) (fm 2) < q := fmul_lt hF.1 (by omega) (by omega)
  refine ctR_V (As := [.int (nI 0), .int (nI (fmul q (mm 0) (fm 2)))]) (rest := []) (r := .int (nI (fadd q 0 (fmul q (mm 0) (fm 2))))) ⟨hx, hb, hml, hown, hts⟩ (c_X1_plus l D cI cZ ad q sm pr op iv hF 0 (fmul q (mm 0) (fm 2)) (by omega) (by omega)) (cwV 2 hts gX2_goBehind_X1_plus rfl rfl rfl hdV_X1_plus ⟨Nat.le_of_ble_eq_true rfl, Nat.le_of_ble_eq_true rfl⟩) hK hN hP [0, 1, 2, 3, 4] rfl 0 1 rfl rfl rfl hl.1 rfl (Nat.le_of_ble_eq_true rfl) ⟨Nat.zero_le _, Nat.zero_le _⟩ dX2_goBehind_61 ?_
  have hh_14 : fadd q 0 (fmul q (mm 0) (fm 2)) < q := fadd_lt hF.1 (by omega) (by omega)
  refine lv_istore (lv' := [(4, .int (nI (fadd q 0 (fmul q (mm 0) (fm 2))))), (5, .int (nI 0)), (3, .int (nI 2)), (2, .int (nI 0)), (0, .ref (bd 0)), (1, .ref (ed 0))]) hx hb dX2_goBehind_64 hl (by decide) rfl (fun ls hl => ?_)
  refine lv_iinc (v := nI 1) (lv' := [(5, .int (nI 1)), (4, .int (nI (fadd q 0 (fmul q (mm 0) (fm 2))))), (3, .int (nI 2)), (2, .int (nI 0)), (0, .ref (bd 0)), (1, .ref (ed 0))]) hx hb dX2_goBehind_66 hl (k := 1) rfl (nI_inc 0) (by decide) rfl (fun ls hl => ?_)
  refine lv_goto (tgt := 20) hx hb dX2_goBehind_69 (by decide) ?_
  refine lv_iload hx hb dX2_goBehind_20 (lv_at hl 0 rfl) ?_
  refine lv_iconst (v := nI 3) hx hb dX2_goBehind_22 (by decide) ?_
  refine nv_icmp_ge (tgt := 72) hx hb (by decide) (by decide) dX2_goBehind_23 (by decide) (fun c23 => absurd c23 (by omega)) (fun c23 => ?_)
  refine lv_aload_n hx hb dX2_goBehind_26 rfl (lv_at hl 4 rfl) ?_
  refine va_get (D := D) (ci := 2) (v := .ref (ad 0)) (C := RX2) (T := TX2) (N := 5) hx hb hts hiX2 hown hK hP 8 rfl rfl 1 (by decide) hf32 (fun _ h9 => h9) rfl dX2_goBehind_27 ?_
  refine lv_iload hx hb dX2_goBehind_30 (lv_at hl 1 rfl) ?_
  refine lv_aload_n hx hb dX2_goBehind_32 rfl (lv_at hl 4 rfl) ?_
  refine va_get (D := D) (ci := 2) (v := .ref (ad 0)) (C := RX2) (T := TX2) (N := 5) hx hb hts hiX2 hown hK hP 8 rfl rfl 1 (by decide) hf32 (fun _ h9 => h9) rfl dX2_goBehind_33 ?_
  refine lv_aload_n hx hb dX2_goBehind_36 rfl (lv_at hl 4 rfl) ?_
  refine va_get (D := D) (ci := 2) (v := .ref (bd 1)) (C := RX2) (T := TX2) (N := 5) hx hb hts hiX2 hown hK hP 8 rfl rfl 2 (by decide) hf9 (fun _ h9 => h9) rfl dX2_goBehind_37 ?_
  refine lv_iconst (v := nI 3) hx hb dX2_goBehind_40 (by decide) ?_
  refine lv_iload_n hx hb dX2_goBehind_41 rfl (lv_at hl 3 rfl) ?_
  refine nv_mulE (r := 0) hx hb rfl dX2_goBehind_42 ?_
  refine lv_iload hx hb dX2_goBehind_43 (lv_at hl 0 rfl) ?_
  refine nv_addE (r := 1) hx hb rfl dX2_goBehind_45 ?_
  refine nv_iald hx hb hK hP 9 0 rfl rfl (by omega) (by decide) dX2_goBehind_46 ?_
  refine lv_aload_n hx hb dX2_goBehind_47 rfl (lv_at hl 5 rfl) ?_
  refine va_get (D := D) (ci := 2) (v := .ref (ed 1)) (C := RX2) (T := TX2) (N := 5) hx hb hts hiX2 hown hK hP 12 rfl rfl 2 (by decide) hf9 (fun _ h9 => h9) rfl dX2_goBehind_48 ?_
  refine lv_iconst (v := nI 3) hx hb dX2_goBehind_51 (by decide) ?_
  refine lv_iload hx hb dX2_goBehind_52 (lv_at hl 0 rfl) ?_
  refine nv_mulE (r := 3) hx hb rfl dX2_goBehind_54 ?_
  refine lv_iload_n hx hb dX2_goBehind_55 rfl (lv_at hl 2 rfl) ?_
  refine nv_addE (r := 5) hx hb rfl dX2_goBehind_56 ?_
  refine nv_iald hx hb hK hP 13 0 rfl rfl (by omega) (by decide) dX2_goBehind_57 ?_
  refine ctR_V (As := [.int (nI (mm 1)), .int (nI (fm 5))]) (rest := [.int (nI (fadd q 0 (fmul q (mm 0) (fm 2)))), .ref (ad 0)]) (r := .int (nI (fmul q (mm 1) (fm 5)))) ⟨hx, hb, hml, hown, hts⟩ (c_X1_times l D cI cZ ad q sm pr op iv hF (mm 1) (fm 5) (by omega) (by omega)) (cwV 2 hts gX2_goBehind_X1_times rfl rfl rfl hdV_X1_times ⟨Nat.le_of_ble_eq_true rfl, Nat.le_of_ble_eq_true rfl⟩) hK hN hP [0, 1, 2, 3, 4] rfl 0 1 rfl rfl rfl hl.1 rfl (Nat.le_of_ble_eq_true rfl) ⟨Nat.zero_le _, Nat.zero_le _⟩ dX2_goBehind_58 ?_
  have hh_15 : fmul q (mm 1) (fm 5) < q := fmul_lt hF.1 (by omega) (by omega)
  refine ctR_V (As := [.int (nI (fadd q 0 (fmul q (mm 0) (fm 2)))), .int (nI (fmul q (mm 1) (fm 5)))]) (rest := []) (r := .int (nI (fadd q (fadd q 0 (fmul q (mm 0) (fm 2))) (fmul q (mm 1) (fm 5))))) ⟨hx, hb, hml, hown, hts⟩ (c_X1_plus l D cI cZ ad q sm pr op iv hF (fadd q 0 (fmul q (mm 0) (fm 2))) (fmul q (mm 1) (fm 5)) (by omega) (by omega)) (cwV 2 hts gX2_goBehind_X1_plus rfl rfl rfl hdV_X1_plus ⟨Nat.le_of_ble_eq_true rfl, Nat.le_of_ble_eq_true rfl⟩) hK hN hP [0, 1, 2, 3, 4] rfl 0 1 rfl rfl rfl hl.1 rfl (Nat.le_of_ble_eq_true rfl) ⟨Nat.zero_le _, Nat.zero_le _⟩ dX2_goBehind_61 ?_
  have hh_16 : fadd q (fadd q 0 (fmul q (mm 0) (fm 2))) (fmul q (mm 1) (fm 5)) < q := fadd_lt hF.1 (by omega) (by omega)
  refine lv_istore (lv' := [(4, .int (nI (fadd q (fadd q 0 (fmul q (mm 0) (fm 2))) (fmul q (mm 1) (fm 5))))), (5, .int (nI 1)), (3, .int (nI 2)), (2, .int (nI 0)), (0, .ref (bd 0)), (1, .ref (ed 0))]) hx hb dX2_goBehind_64 hl (by decide) rfl (fun ls hl => ?_)
  refine lv_iinc (v := nI 2) (lv' := [(5, .int (nI 2)), (4, .int (nI (fadd q (fadd q 0 (fmul q (mm 0) (fm 2))) (fmul q (mm 1) (fm 5))))), (3, .int (nI 2)), (2, .int (nI 0)), (0, .ref (bd 0)), (1, .ref (ed 0))]) hx hb dX2_goBehind_66 hl (k := 1) rfl (nI_inc 1) (by decide) rfl (fun ls hl => ?_)
  refine lv_goto (tgt := 20) hx hb dX2_goBehind_69 (by decide) ?_
  refine lv_iload hx hb dX2_goBehind_20 (lv_at hl 0 rfl) ?_
  refine lv_iconst (v := nI 3) hx hb dX2_goBehind_22 (by decide) ?_
  refine nv_icmp_ge (tgt := 72) hx hb (by decide) (by decide) dX2_goBehind_23 (by decide) (fun c23 => absurd c23 (by omega)) (fun c23 => ?_)
  refine lv_aload_n hx hb dX2_goBehind_26 rfl (lv_at hl 4 rfl) ?_
  refine va_get (D := D) (ci := 2) (v := .ref (ad 0)) (C := RX2) (T := TX2) (N := 5) hx hb hts hiX2 hown hK hP 8 rfl rfl 1 (by decide) hf32 (fun _ h9 => h9) rfl dX2_goBehind_27 ?_
  refine lv_iload hx hb dX2_goBehind_30 (lv_at hl 1 rfl) ?_
  refine lv_aload_n hx hb dX2_goBehind_32 rfl (lv_at hl 4 rfl) ?_
  refine va_get (D := D) (ci := 2) (v := .ref (ad 0)) (C := RX2) (T := TX2) (N := 5) hx hb hts hiX2 hown hK hP 8 rfl rfl 1 (by decide) hf32 (fun _ h9 => h9) rfl dX2_goBehind_33 ?_
  refine lv_aload_n hx hb dX2_goBehind_36 rfl (lv_at hl 4 rfl) ?_
  refine va_get (D := D) (ci := 2) (v := .ref (bd 1)) (C := RX2) (T := TX2) (N := 5) hx hb hts hiX2 hown hK hP 8 rfl rfl 2 (by decide) hf9 (fun _ h9 => h9) rfl dX2_goBehind_37 ?_
  refine lv_iconst (v := nI 3) hx hb dX2_goBehind_40 (by decide) ?_
  refine lv_iload_n hx hb dX2_goBehind_41 rfl (lv_at hl 3 rfl) ?_
  refine nv_mulE (r := 0) hx hb rfl dX2_goBehind_42 ?_
  refine lv_iload hx hb dX2_goBehind_43 (lv_at hl 0 rfl) ?_
  refine nv_addE (r := 2) hx hb rfl dX2_goBehind_45 ?_
  refine nv_iald hx hb hK hP 9 0 rfl rfl (by omega) (by decide) dX2_goBehind_46 ?_
  refine lv_aload_n hx hb dX2_goBehind_47 rfl (lv_at hl 5 rfl) ?_
  refine va_get (D := D) (ci := 2) (v := .ref (ed 1)) (C := RX2) (T := TX2) (N := 5) hx hb hts hiX2 hown hK hP 12 rfl rfl 2 (by decide) hf9 (fun _ h9 => h9) rfl dX2_goBehind_48 ?_
  refine lv_iconst (v := nI 3) hx hb dX2_goBehind_51 (by decide) ?_
  refine lv_iload hx hb dX2_goBehind_52 (lv_at hl 0 rfl) ?_
  refine nv_mulE (r := 6) hx hb rfl dX2_goBehind_54 ?_
  refine lv_iload_n hx hb dX2_goBehind_55 rfl (lv_at hl 2 rfl) ?_
  refine nv_addE (r := 8) hx hb rfl dX2_goBehind_56 ?_
  refine nv_iald hx hb hK hP 13 0 rfl rfl (by omega) (by decide) dX2_goBehind_57 ?_
  refine ctR_V (As := [.int (nI (mm 2)), .int (nI (fm 8))]) (rest := [.int (nI (fadd q (fadd q 0 (fmul q (mm 0) (fm 2))) (fmul q (mm 1) (fm 5)))), .ref (ad 0)]) (r := .int (nI (fmul q (mm 2) (fm 8)))) ⟨hx, hb, hml, hown, hts⟩ (c_X1_times l D cI cZ ad q sm pr op iv hF (mm 2) (fm 8) (by omega) (by omega)) (cwV 2 hts gX2_goBehind_X1_times rfl rfl rfl hdV_X1_times ⟨Nat.le_of_ble_eq_true rfl, Nat.le_of_ble_eq_true rfl⟩) hK hN hP [0, 1, 2, 3, 4] rfl 0 1 rfl rfl rfl hl.1 rfl (Nat.le_of_ble_eq_true rfl) ⟨Nat.zero_le _, Nat.zero_le _⟩ dX2_goBehind_58 ?_
  have hh_17 : fmul q (mm 2) (fm 8) < q := fmul_lt hF.1 (by omega) (by omega)
  refine ctR_V (As := [.int (nI (fadd q (fadd q 0 (fmul q (mm 0) (fm 2))) (fmul q (mm 1) (fm 5)))), .int (nI (fmul q (mm 2) (fm 8)))]) (rest := []) (r := .int (nI (fadd q (fadd q (fadd q 0 (fmul q (mm 0) (fm 2))) (fmul q (mm 1) (fm 5))) (fmul q (mm 2) (fm 8))))) ⟨hx, hb, hml, hown, hts⟩ (c_X1_plus l D cI cZ ad q sm pr op iv hF (fadd q (fadd q 0 (fmul q (mm 0) (fm 2))) (fmul q (mm 1) (fm 5))) (fmul q (mm 2) (fm 8)) (by omega) (by omega)) (cwV 2 hts gX2_goBehind_X1_plus rfl rfl rfl hdV_X1_plus ⟨Nat.le_of_ble_eq_true rfl, Nat.le_of_ble_eq_true rfl⟩) hK hN hP [0, 1, 2, 3, 4] rfl 0 1 rfl rfl rfl hl.1 rfl (Nat.le_of_ble_eq_true rfl) ⟨Nat.zero_le _, Nat.zero_le _⟩ dX2_goBehind_61 ?_
  have hh_18 : fadd q (fadd q (fadd q 0 (fmul q (mm 0) (fm 2))) (fmul q (mm 1) (fm 5))) (fmul q (mm 2) (fm 8)) < q := fadd_lt hF.1 (by omega) (by omega)
  refine lv_istore (lv' := [(4, .int (nI (fadd q (fadd q (fadd q 0 (fmul q (mm 0) (fm 2))) (fmul q (mm 1) (fm 5))) (fmul q (mm 2) (fm 8))))), (5, .int (nI 2)), (3, .int (nI 2)), (2, .int (nI 0)), (0, .ref (bd 0)), (1, .ref (ed 0))]) hx hb dX2_goBehind_64 hl (by decide) rfl (fun ls hl => ?_)
  refine lv_iinc (v := nI 3) (lv' := [(5, .int (nI 3)), (4, .int (nI (fadd q (fadd q (fadd q 0 (fmul q (mm 0) (fm 2))) (fmul q (mm 1) (fm 5))) (fmul q (mm 2) (fm 8))))), (3, .int (nI 2)), (2, .int (nI 0)), (0, .ref (bd 0)), (1, .ref (ed 0))]) hx hb dX2_goBehind_66 hl (k := 1) rfl (nI_inc 2) (by decide) rfl (fun ls hl => ?_)
  refine lv_goto (tgt := 20) hx hb dX2_goBehind_69 (by decide) ?_
  refine lv_iload hx hb dX2_goBehind_20 (lv_at hl 0 rfl) ?_
  refine lv_iconst (v := nI 3) hx hb dX2_goBehind_22 (by decide) ?_
  refine nv_icmp_ge (tgt := 72) hx hb (by decide) (by decide) dX2_goBehind_23 (by decide) (fun c23 => ?_) (fun c23 => absurd c23 (by omega))
  refine lv_aload_n hx hb dX2_goBehind_72 rfl (lv_at hl 4 rfl) ?_
  refine va_get (D := D) (ci := 2) (v := .ref (bd 2)) (C := RX2) (T := TX2) (N := 5) hx hb hts hiX2 hown hK hP 8 rfl rfl 3 (by decide) hf15 (fun _ h9 => h9) rfl dX2_goBehind_73 ?_
  refine lv_iconst (v := nI 3) hx hb dX2_goBehind_76 (by decide) ?_
  refine lv_iload_n hx hb dX2_goBehind_77 rfl (lv_at hl 3 rfl) ?_
  refine nv_mulE (r := 0) hx hb rfl dX2_goBehind_78 ?_
  refine lv_iload_n hx hb dX2_goBehind_79 rfl (lv_at hl 2 rfl) ?_
  refine nv_addE (r := 2) hx hb rfl dX2_goBehind_80 ?_
  refine lv_iload hx hb dX2_goBehind_81 (lv_at hl 1 rfl) ?_
  refine nv_iast hx hb hK hP hD hS 10 0 rfl rfl (by omega) (by decide) dX2_goBehind_83 (fun H locs hP hD hS => ?_)
  have hP : va_P D vwCl [(ad 0, .inr (1, [.int (nI q), .ref (ad 1), .ref (ad 2), .ref (ad 3), .ref (ad 4)])), (ad 1, .inl (cI, 81, .inl (nF sm))), (ad 2, .inl (cI, 81, .inl (nF pr))), (ad 3, .inl (cI, 9, .inl (nF op))), (ad 4, .inl (cI, 9, .inl (nF iv))), (ad 5, .inr (3, [.ref (ad 0), .int (nI (nn q)), .ref (ad 6), .ref (ad 7)])), (ad 6, .inl (cI, 273, .inl (nF tr))), (ad 7, .inl (cI, 910, .inl (nF ro))), (bd 0, .inr (2, [.ref (ad 5), .ref (ad 0), .ref (bd 1), .ref (bd 2), .ref (bd 3)])), (bd 1, .inl (cI, 9, .inl (nF mm))), (bd 2, .inl (cI, 9, .inl (nF (upN (upN (upN me 0 (fadd q (fadd q (fadd q 0 (fmul q (mm 0) (fm 0))) (fmul q (mm 1) (fm 3))) (fmul q (mm 2) (fm 6)))) 1 (fadd q (fadd q (fadd q 0 (fmul q (mm 0) (fm 1))) (fmul q (mm 1) (fm 4))) (fmul q (mm 2) (fm 7)))) 2 (fadd q (fadd q (fadd q 0 (fmul q (mm 0) (fm 2))) (fmul q (mm 1) (fm 5))) (fmul q (mm 2) (fm 8))))))), (bd 3, .inl (cZ, 91, .inl (bF rc))), (ed 0, .inr (2, [.ref (ad 5), .ref (ad 0), .ref (ed 1), .ref (ed 2), .ref (ed 3)])), (ed 1, .inl (cI, 9, .inl (nF fm)))] H := hP
  have hD : va_D A [(ad 0, .inr (1, [.int (nI q), .ref (ad 1), .ref (ad 2), .ref (ad 3), .ref (ad 4)])), (ad 1, .inl (cI, 81, .inl (nF sm))), (ad 2, .inl (cI, 81, .inl (nF pr))), (ad 3, .inl (cI, 9, .inl (nF op))), (ad 4, .inl (cI, 9, .inl (nF iv))), (ad 5, .inr (3, [.ref (ad 0), .int (nI (nn q)), .ref (ad 6), .ref (ad 7)])), (ad 6, .inl (cI, 273, .inl (nF tr))), (ad 7, .inl (cI, 910, .inl (nF ro))), (bd 0, .inr (2, [.ref (ad 5), .ref (ad 0), .ref (bd 1), .ref (bd 2), .ref (bd 3)])), (bd 1, .inl (cI, 9, .inl (nF mm))), (bd 2, .inl (cI, 9, .inl (nF (upN (upN (upN me 0 (fadd q (fadd q (fadd q 0 (fmul q (mm 0) (fm 0))) (fmul q (mm 1) (fm 3))) (fmul q (mm 2) (fm 6)))) 1 (fadd q (fadd q (fadd q 0 (fmul q (mm 0) (fm 1))) (fmul q (mm 1) (fm 4))) (fmul q (mm 2) (fm 7)))) 2 (fadd q (fadd q (fadd q 0 (fmul q (mm 0) (fm 2))) (fmul q (mm 1) (fm 5))) (fmul q (mm 2) (fm 8))))))), (bd 3, .inl (cZ, 91, .inl (bF rc))), (ed 0, .inr (2, [.ref (ad 5), .ref (ad 0), .ref (ed 1), .ref (ed 2), .ref (ed 3)])), (ed 1, .inl (cI, 9, .inl (nF fm)))] := hD
  refine lv_iinc (v := nI 3) (lv' := [(3, .int (nI 3)), (5, .int (nI 3)), (4, .int (nI (fadd q (fadd q (fadd q 0 (fmul q (mm 0) (fm 2))) (fmul q (mm 1) (fm 5))) (fmul q (mm 2) (fm 8))))), (2, .int (nI 0)), (0, .ref (bd 0)), (1, .ref (ed 0))]) hx hb dX2_goBehind_84 hl (k := 2) rfl (nI_inc 2) (by decide) rfl (fun ls hl => ?_)
  refine lv_goto (tgt := 9) hx hb dX2_goBehind_87 (by decide) ?_
  refine lv_iload_n hx hb dX2_goBehind_9 rfl (lv_at hl 0 rfl) ?_
  refine lv_iconst (v := nI 3) hx hb dX2_goBehind_10 (by decide) ?_
  refine nv_icmp_ge (tgt := 90) hx hb (by decide) (by decide) dX2_goBehind_11 (by decide) (fun c11 => ?_) (fun c11 => absurd c11 (by omega))
  refine lv_iinc (v := nI 1) (lv' := [(2, .int (nI 1)), (3, .int (nI 3)), (5, .int (nI 3)), (4, .int (nI (fadd q (fadd q (fadd q 0 (fmul q (mm 0) (fm 2))) (fmul q (mm 1) (fm 5))) (fmul q (mm 2) (fm 8))))), (0, .ref (bd 0)), (1, .ref (ed 0))]) hx hb dX2_goBehind_90 hl (k := 3) rfl (nI_inc 0) (by decide) rfl (fun ls hl => ?_)
  refine lv_goto (tgt := 2) hx hb dX2_goBehind_93 (by decide) ?_
  have w0 := k_m 0 (by omega)
  have w1 := k_m 1 (by omega)
  have w2 := k_m 2 (by omega)
  have w3 := k_m 3 (by omega)
  have w4 := k_m 4 (by omega)
  have w5 := k_m 5 (by omega)
  have w6 := k_m 6 (by omega)
  have w7 := k_m 7 (by omega)
  have w8 := k_m 8 (by omega)
  have y0 := k_f 0 (by omega)
  have y1 := k_f 1 (by omega)
  have y2 := k_f 2 (by omega)
  have y3 := k_f 3 (by omega)
  have y4 := k_f 4 (by omega)
  have y5 := k_f 5 (by omega)
  have y6 := k_f 6 (by omega)
  have y7 := k_f 7 (by omega)
  have y8 := k_f 8 (by omega)
  refine lv_iload_n hx hb dX2_goBehind_2 rfl (lv_at hl 0 rfl) ?_
  refine lv_iconst (v := nI 3) hx hb dX2_goBehind_3 (by decide) ?_
  refine nv_icmp_ge (tgt := 96) hx hb (by decide) (by decide) dX2_goBehind_4 (by decide) (fun c4 => absurd c4 (by omega)) (fun c4 => ?_)
  refine lv_iconst (v := nI 0) hx hb dX2_goBehind_7 (by decide) ?_
  refine lv_istore_n (lv' := [(3, .int (nI 0)), (2, .int (nI 1)), (5, .int (nI 3)), (4, .int (nI (fadd q (fadd q (fadd q 0 (fmul q (mm 0) (fm 2))) (fmul q (mm 1) (fm 5))) (fmul q (mm 2) (fm 8))))), (0, .ref (bd 0)), (1, .ref (ed 0))]) hx hb dX2_goBehind_8 rfl hl (by decide) rfl (fun ls hl => ?_)
  refine lv_iload_n hx hb dX2_goBehind_9 rfl (lv_at hl 0 rfl) ?_
  refine lv_iconst (v := nI 3) hx hb dX2_goBehind_10 (by decide) ?_
  refine nv_icmp_ge (tgt := 90) hx hb (by decide) (by decide) dX2_goBehind_11 (by decide) (fun c11 => absurd c11 (by omega)) (fun c11 => ?_)
  refine lv_iconst (v := nI 0) hx hb dX2_goBehind_14 (by decide) ?_
  refine lv_istore (lv' := [(4, .int (nI 0)), (3, .int (nI 0)), (2, .int (nI 1)), (5, .int (nI 3)), (0, .ref (bd 0)), (1, .ref (ed 0))]) hx hb dX2_goBehind_15 hl (by decide) rfl (fun ls hl => ?_)
  refine lv_iconst (v := nI 0) hx hb dX2_goBehind_17 (by decide) ?_
  refine lv_istore (lv' := [(5, .int (nI 0)), (4, .int (nI 0)), (3, .int (nI 0)), (2, .int (nI 1)), (0, .ref (bd 0)), (1, .ref (ed 0))]) hx hb dX2_goBehind_18 hl (by decide) rfl (fun ls hl => ?_)
  refine lv_iload hx hb dX2_goBehind_20 (lv_at hl 0 rfl) ?_
  refine lv_iconst (v := nI 3) hx hb dX2_goBehind_22 (by decide) ?_
  refine nv_icmp_ge (tgt := 72) hx hb (by decide) (by decide) dX2_goBehind_23 (by decide) (fun c23 => absurd c23 (by omega)) (fun c23 => ?_)
  refine lv_aload_n hx hb dX2_goBehind_26 rfl (lv_at hl 4 rfl) ?_
  refine va_get (D := D) (ci := 2) (v := .ref (ad 0)) (C := RX2) (T := TX2) (N := 5) hx hb hts hiX2 hown hK hP 8 rfl rfl 1 (by decide) hf32 (fun _ h9 => h9) rfl dX2_goBehind_27 ?_
  refine lv_iload hx hb dX2_goBehind_30 (lv_at hl 1 rfl) ?_
  refine lv_aload_n hx hb dX2_goBehind_32 rfl (lv_at hl 4 rfl) ?_
  refine va_get (D := D) (ci := 2) (v := .ref (ad 0)) (C := RX2) (T := TX2) (N := 5) hx hb hts hiX2 hown hK hP 8 rfl rfl 1 (by decide) hf32 (fun _ h9 => h9) rfl dX2_goBehind_33 ?_
  refine lv_aload_n hx hb dX2_goBehind_36 rfl (lv_at hl 4 rfl) ?_
  refine va_get (D := D) (ci := 2) (v := .ref (bd 1)) (C := RX2) (T := TX2) (N := 5) hx hb hts hiX2 hown hK hP 8 rfl rfl 2 (by decide) hf9 (fun _ h9 => h9) rfl dX2_goBehind_37 ?_
  refine lv_iconst (v := nI 3) hx hb dX2_goBehind_40 (by decide) ?_
  refine lv_iload_n hx hb dX2_goBehind_41 rfl (lv_at hl 3 rfl) ?_
  refine nv_mulE (r := 3) hx hb rfl dX2_goBehind_42 ?_
  refine lv_iload hx hb dX2_goBehind_43 (lv_at hl 0 rfl) ?_
  refine nv_addE (r := 3) hx hb rfl dX2_goBehind_45 ?_
  refine nv_iald hx hb hK hP 9 0 rfl rfl (by omega) (by decide) dX2_goBehind_46 ?_
  refine lv_aload_n hx hb dX2_goBehind_47 rfl (lv_at hl 5 rfl) ?_
  refine va_get (D := D) (ci := 2) (v := .ref (ed 1)) (C := RX2) (T := TX2) (N := 5) hx hb hts hiX2 hown hK hP 12 rfl rfl 2 (by decide) hf9 (fun _ h9 => h9) rfl dX2_goBehind_48 ?_
  refine lv_iconst (v := nI 3) hx hb dX2_goBehind_51 (by decide) ?_
  refine lv_iload hx hb dX2_goBehind_52 (lv_at hl 0 rfl) ?_
  refine nv_mulE (r := 0) hx hb rfl dX2_goBehind_54 ?_
  refine lv_iload_n hx hb dX2_goBehind_55 rfl (lv_at hl 2 rfl) ?_
  refine nv_addE (r := 0) hx hb rfl dX2_goBehind_56 ?_
  refine nv_iald hx hb hK hP 13 0 rfl rfl (by omega) (by decide) dX2_goBehind_57 ?_
  refine ctR_V (As := [.int (nI (mm 3)), .int (nI (fm 0))]) (rest := [.int (nI 0), .ref (ad 0)]) (r := .int (nI (fmul q (mm 3) (fm 0)))) ⟨hx, hb, hml, hown, hts⟩ (c_X1_times l D cI cZ ad q sm pr op iv hF (mm 3) (fm 0) (by omega) (by omega)) (cwV 2 hts gX2_goBehind_X1_times rfl rfl rfl hdV_X1_times ⟨Nat.le_of_ble_eq_true rfl, Nat.le_of_ble_eq_true rfl⟩) hK hN hP [0, 1, 2, 3, 4] rfl 0 1 rfl rfl rfl hl.1 rfl (Nat.le_of_ble_eq_true rfl) ⟨Nat.zero_le _, Nat.zero_le _⟩ dX2_goBehind_58 ?_
  have hh_19 : fmul q (mm 3) (fm 0) < q := fmul_lt hF.1 (by omega) (by omega)
  refine ctR_V (As := [.int (nI 0), .int (nI (fmul q (mm 3) (fm 0)))]) (rest := []) (r := .int (nI (fadd q 0 (fmul q (mm 3) (fm 0))))) ⟨hx, hb, hml, hown, hts⟩ (c_X1_plus l D cI cZ ad q sm pr op iv hF 0 (fmul q (mm 3) (fm 0)) (by omega) (by omega)) (cwV 2 hts gX2_goBehind_X1_plus rfl rfl rfl hdV_X1_plus ⟨Nat.le_of_ble_eq_true rfl, Nat.le_of_ble_eq_true rfl⟩) hK hN hP [0, 1, 2, 3, 4] rfl 0 1 rfl rfl rfl hl.1 rfl (Nat.le_of_ble_eq_true rfl) ⟨Nat.zero_le _, Nat.zero_le _⟩ dX2_goBehind_61 ?_
  have hh_20 : fadd q 0 (fmul q (mm 3) (fm 0)) < q := fadd_lt hF.1 (by omega) (by omega)
  refine lv_istore (lv' := [(4, .int (nI (fadd q 0 (fmul q (mm 3) (fm 0))))), (5, .int (nI 0)), (3, .int (nI 0)), (2, .int (nI 1)), (0, .ref (bd 0)), (1, .ref (ed 0))]) hx hb dX2_goBehind_64 hl (by decide) rfl (fun ls hl => ?_)
  refine lv_iinc (v := nI 1) (lv' := [(5, .int (nI 1)), (4, .int (nI (fadd q 0 (fmul q (mm 3) (fm 0))))), (3, .int (nI 0)), (2, .int (nI 1)), (0, .ref (bd 0)), (1, .ref (ed 0))]) hx hb dX2_goBehind_66 hl (k := 1) rfl (nI_inc 0) (by decide) rfl (fun ls hl => ?_)
  refine lv_goto (tgt := 20) hx hb dX2_goBehind_69 (by decide) ?_
  refine lv_iload hx hb dX2_goBehind_20 (lv_at hl 0 rfl) ?_
  refine lv_iconst (v := nI 3) hx hb dX2_goBehind_22 (by decide) ?_
  refine nv_icmp_ge (tgt := 72) hx hb (by decide) (by decide) dX2_goBehind_23 (by decide) (fun c23 => absurd c23 (by omega)) (fun c23 => ?_)
  refine lv_aload_n hx hb dX2_goBehind_26 rfl (lv_at hl 4 rfl) ?_
  refine va_get (D := D) (ci := 2) (v := .ref (ad 0)) (C := RX2) (T := TX2) (N := 5) hx hb hts hiX2 hown hK hP 8 rfl rfl 1 (by decide) hf32 (fun _ h9 => h9) rfl dX2_goBehind_27 ?_
  refine lv_iload hx hb dX2_goBehind_30 (lv_at hl 1 rfl) ?_
  refine lv_aload_n hx hb dX2_goBehind_32 rfl (lv_at hl 4 rfl) ?_
  refine va_get (D := D) (ci := 2) (v := .ref (ad 0)) (C := RX2) (T := TX2) (N := 5) hx hb hts hiX2 hown hK hP 8 rfl rfl 1 (by decide) hf32 (fun _ h9 => h9) rfl dX2_goBehind_33 ?_
  refine lv_aload_n hx hb dX2_goBehind_36 rfl (lv_at hl 4 rfl) ?_
  refine va_get (D := D) (ci := 2) (v := .ref (bd 1)) (C := RX2) (T := TX2) (N := 5) hx hb hts hiX2 hown hK hP 8 rfl rfl 2 (by decide) hf9 (fun _ h9 => h9) rfl dX2_goBehind_37 ?_
  refine lv_iconst (v := nI 3) hx hb dX2_goBehind_40 (by decide) ?_
  refine lv_iload_n hx hb dX2_goBehind_41 rfl (lv_at hl 3 rfl) ?_
  refine nv_mulE (r := 3) hx hb rfl dX2_goBehind_42 ?_
  refine lv_iload hx hb dX2_goBehind_43 (lv_at hl 0 rfl) ?_
  refine nv_addE (r := 4) hx hb rfl dX2_goBehind_45 ?_
  refine nv_iald hx hb hK hP 9 0 rfl rfl (by omega) (by decide) dX2_goBehind_46 ?_
  refine lv_aload_n hx hb dX2_goBehind_47 rfl (lv_at hl 5 rfl) ?_
  refine va_get (D := D) (ci := 2) (v := .ref (ed 1)) (C := RX2) (T := TX2) (N := 5) hx hb hts hiX2 hown hK hP 12 rfl rfl 2 (by decide) hf9 (fun _ h9 => h9) rfl dX2_goBehind_48 ?_
  refine lv_iconst (v := nI 3) hx hb dX2_goBehind_51 (by decide) ?_
  refine lv_iload hx hb dX2_goBehind_52 (lv_at hl 0 rfl) ?_
  refine nv_mulE (r := 3) hx hb rfl dX2_goBehind_54 ?_
  refine lv_iload_n hx hb dX2_goBehind_55 rfl (lv_at hl 2 rfl) ?_
  refine nv_addE (r := 3) hx hb rfl dX2_goBehind_56 ?_
  refine nv_iald hx hb hK hP 13 0 rfl rfl (by omega) (by decide) dX2_goBehind_57 ?_
  refine ctR_V (As := [.int (nI (mm 4)), .int (nI (fm 3))]) (rest := [.int (nI (fadd q 0 (fmul q (mm 3) (fm 0)))), .ref (ad 0)]) (r := .int (nI (fmul q (mm 4) (fm 3)))) ⟨hx, hb, hml, hown, hts⟩ (c_X1_times l D cI cZ ad q sm pr op iv hF (mm 4) (fm 3) (by omega) (by omega)) (cwV 2 hts gX2_goBehind_X1_times rfl rfl rfl hdV_X1_times ⟨Nat.le_of_ble_eq_true rfl, Nat.le_of_ble_eq_true rfl⟩) hK hN hP [0, 1, 2, 3, 4] rfl 0 1 rfl rfl rfl hl.1 rfl (Nat.le_of_ble_eq_true rfl) ⟨Nat.zero_le _, Nat.zero_le _⟩ dX2_goBehind_58 ?_
  have hh_21 : fmul q (mm 4) (fm 3) < q := fmul_lt hF.1 (by omega) (by omega)
  refine ctR_V (As := [.int (nI (fadd q 0 (fmul q (mm 3) (fm 0)))), .int (nI (fmul q (mm 4) (fm 3)))]) (rest := []) (r := .int (nI (fadd q (fadd q 0 (fmul q (mm 3) (fm 0))) (fmul q (mm 4) (fm 3))))) ⟨hx, hb, hml, hown, hts⟩ (c_X1_plus l D cI cZ ad q sm pr op iv hF (fadd q 0 (fmul q (mm 3) (fm 0))) (fmul q (mm 4) (fm 3)) (by omega) (by omega)) (cwV 2 hts gX2_goBehind_X1_plus rfl rfl rfl hdV_X1_plus ⟨Nat.le_of_ble_eq_true rfl, Nat.le_of_ble_eq_true rfl⟩) hK hN hP [0, 1, 2, 3, 4] rfl 0 1 rfl rfl rfl hl.1 rfl (Nat.le_of_ble_eq_true rfl) ⟨Nat.zero_le _, Nat.zero_le _⟩ dX2_goBehind_61 ?_
  have hh_22 : fadd q (fadd q 0 (fmul q (mm 3) (fm 0))) (fmul q (mm 4) (fm 3)) < q := fadd_lt hF.1 (by omega) (by omega)
  refine lv_istore (lv' := [(4, .int (nI (fadd q (fadd q 0 (fmul q (mm 3) (fm 0))) (fmul q (mm 4) (fm 3))))), (5, .int (nI 1)), (3, .int (nI 0)), (2, .int (nI 1)), (0, .ref (bd 0)), (1, .ref (ed 0))]) hx hb dX2_goBehind_64 hl (by decide) rfl (fun ls hl => ?_)
  refine lv_iinc (v := nI 2) (lv' := [(5, .int (nI 2)), (4, .int (nI (fadd q (fadd q 0 (fmul q (mm 3) (fm 0))) (fmul q (mm 4) (fm 3))))), (3, .int (nI 0)), (2, .int (nI 1)), (0, .ref (bd 0)), (1, .ref (ed 0))]) hx hb dX2_goBehind_66 hl (k := 1) rfl (nI_inc 1) (by decide) rfl (fun ls hl => ?_)
  refine lv_goto (tgt := 20) hx hb dX2_goBehind_69 (by decide) ?_
  refine lv_iload hx hb dX2_goBehind_20 (lv_at hl 0 rfl) ?_
  refine lv_iconst (v := nI 3) hx hb dX2_goBehind_22 (by decide) ?_
  refine nv_icmp_ge (tgt := 72) hx hb (by decide) (by decide) dX2_goBehind_23 (by decide) (fun c23 => absurd c23 (by omega)) (fun c23 => ?_)
  refine lv_aload_n hx hb dX2_goBehind_26 rfl (lv_at hl 4 rfl) ?_
  refine va_get (D := D) (ci := 2) (v := .ref (ad 0)) (C := RX2) (T := TX2) (N := 5) hx hb hts hiX2 hown hK hP 8 rfl rfl 1 (by decide) hf32 (fun _ h9 => h9) rfl dX2_goBehind_27 ?_
  refine lv_iload hx hb dX2_goBehind_30 (lv_at hl 1 rfl) ?_
  refine lv_aload_n hx hb dX2_goBehind_32 rfl (lv_at hl 4 rfl) ?_
  refine va_get (D := D) (ci := 2) (v := .ref (ad 0)) (C := RX2) (T := TX2) (N := 5) hx hb hts hiX2 hown hK hP 8 rfl rfl 1 (by decide) hf32 (fun _ h9 => h9) rfl dX2_goBehind_33 ?_
  refine lv_aload_n hx hb dX2_goBehind_36 rfl (lv_at hl 4 rfl) ?_
  refine va_get (D := D) (ci := 2) (v := .ref (bd 1)) (C := RX2) (T := TX2) (N := 5) hx hb hts hiX2 hown hK hP 8 rfl rfl 2 (by decide) hf9 (fun _ h9 => h9) rfl dX2_goBehind_37 ?_
  refine lv_iconst (v := nI 3) hx hb dX2_goBehind_40 (by decide) ?_
  refine lv_iload_n hx hb dX2_goBehind_41 rfl (lv_at hl 3 rfl) ?_
  refine nv_mulE (r := 3) hx hb rfl dX2_goBehind_42 ?_
  refine lv_iload hx hb dX2_goBehind_43 (lv_at hl 0 rfl) ?_
  refine nv_addE (r := 5) hx hb rfl dX2_goBehind_45 ?_
  refine nv_iald hx hb hK hP 9 0 rfl rfl (by omega) (by decide) dX2_goBehind_46 ?_
  refine lv_aload_n hx hb dX2_goBehind_47 rfl (lv_at hl 5 rfl) ?_
  refine va_get (D := D) (ci := 2) (v := .ref (ed 1)) (C := RX2) (T := TX2) (N := 5) hx hb hts hiX2 hown hK hP 12 rfl rfl 2 (by decide) hf9 (fun _ h9 => h9) rfl dX2_goBehind_48 ?_
  refine lv_iconst (v := nI 3) hx hb dX2_goBehind_51 (by decide) ?_
  refine lv_iload hx hb dX2_goBehind_52 (lv_at hl 0 rfl) ?_
  refine nv_mulE (r := 6) hx hb rfl dX2_goBehind_54 ?_
  refine lv_iload_n hx hb dX2_goBehind_55 rfl (lv_at hl 2 rfl) ?_
  refine nv_addE (r := 6) hx hb rfl dX2_goBehind_56 ?_
  refine nv_iald hx hb hK hP 13 0 rfl rfl (by omega) (by decide) dX2_goBehind_57 ?_
  refine ctR_V (As := [.int (nI (mm 5)), .int (nI (fm 6))]) (rest := [.int (nI (fadd q (fadd q 0 (fmul q (mm 3) (fm 0))) (fmul q (mm 4) (fm 3)))), .ref (ad 0)]) (r := .int (nI (fmul q (mm 5) (fm 6)))) ⟨hx, hb, hml, hown, hts⟩ (c_X1_times l D cI cZ ad q sm pr op iv hF (mm 5) (fm 6) (by omega) (by omega)) (cwV 2 hts gX2_goBehind_X1_times rfl rfl rfl hdV_X1_times ⟨Nat.le_of_ble_eq_true rfl, Nat.le_of_ble_eq_true rfl⟩) hK hN hP [0, 1, 2, 3, 4] rfl 0 1 rfl rfl rfl hl.1 rfl (Nat.le_of_ble_eq_true rfl) ⟨Nat.zero_le _, Nat.zero_le _⟩ dX2_goBehind_58 ?_
  have hh_23 : fmul q (mm 5) (fm 6) < q := fmul_lt hF.1 (by omega) (by omega)
  refine ctR_V (As := [.int (nI (fadd q (fadd q 0 (fmul q (mm 3) (fm 0))) (fmul q (mm 4) (fm 3)))), .int (nI (fmul q (mm 5) (fm 6)))]) (rest := []) (r := .int (nI (fadd q (fadd q (fadd q 0 (fmul q (mm 3) (fm 0))) (fmul q (mm 4) (fm 3))) (fmul q (mm 5) (fm 6))))) ⟨hx, hb, hml, hown, hts⟩ (c_X1_plus l D cI cZ ad q sm pr op iv hF (fadd q (fadd q 0 (fmul q (mm 3) (fm 0))) (fmul q (mm 4) (fm 3))) (fmul q (mm 5) (fm 6)) (by omega) (by omega)) (cwV 2 hts gX2_goBehind_X1_plus rfl rfl rfl hdV_X1_plus ⟨Nat.le_of_ble_eq_true rfl, Nat.le_of_ble_eq_true rfl⟩) hK hN hP [0, 1, 2, 3, 4] rfl 0 1 rfl rfl rfl hl.1 rfl (Nat.le_of_ble_eq_true rfl) ⟨Nat.zero_le _, Nat.zero_le _⟩ dX2_goBehind_61 ?_
  have hh_24 : fadd q (fadd q (fadd q 0 (fmul q (mm 3) (fm 0))) (fmul q (mm 4) (fm 3))) (fmul q (mm 5) (fm 6)) < q := fadd_lt hF.1 (by omega) (by omega)
  refine lv_istore (lv' := [(4, .int (nI (fadd q (fadd q (fadd q 0 (fmul q (mm 3) (fm 0))) (fmul q (mm 4) (fm 3))) (fmul q (mm 5) (fm 6))))), (5, .int (nI 2)), (3, .int (nI 0)), (2, .int (nI 1)), (0, .ref (bd 0)), (1, .ref (ed 0))]) hx hb dX2_goBehind_64 hl (by decide) rfl (fun ls hl => ?_)
  refine lv_iinc (v := nI 3) (lv' := [(5, .int (nI 3)), (4, .int (nI (fadd q (fadd q (fadd q 0 (fmul q (mm 3) (fm 0))) (fmul q (mm 4) (fm 3))) (fmul q (mm 5) (fm 6))))), (3, .int (nI 0)), (2, .int (nI 1)), (0, .ref (bd 0)), (1, .ref (ed 0))]) hx hb dX2_goBehind_66 hl (k := 1) rfl (nI_inc 2) (by decide) rfl (fun ls hl => ?_)
  refine lv_goto (tgt := 20) hx hb dX2_goBehind_69 (by decide) ?_
  refine lv_iload hx hb dX2_goBehind_20 (lv_at hl 0 rfl) ?_
  refine lv_iconst (v := nI 3) hx hb dX2_goBehind_22 (by decide) ?_
  refine nv_icmp_ge (tgt := 72) hx hb (by decide) (by decide) dX2_goBehind_23 (by decide) (fun c23 => ?_) (fun c23 => absurd c23 (by omega))
  refine lv_aload_n hx hb dX2_goBehind_72 rfl (lv_at hl 4 rfl) ?_
  refine va_get (D := D) (ci := 2) (v := .ref (bd 2)) (C := RX2) (T := TX2) (N := 5) hx hb hts hiX2 hown hK hP 8 rfl rfl 3 (by decide) hf15 (fun _ h9 => h9) rfl dX2_goBehind_73 ?_
  refine lv_iconst (v := nI 3) hx hb dX2_goBehind_76 (by decide) ?_
  refine lv_iload_n hx hb dX2_goBehind_77 rfl (lv_at hl 3 rfl) ?_
  refine nv_mulE (r := 3) hx hb rfl dX2_goBehind_78 ?_
  refine lv_iload_n hx hb dX2_goBehind_79 rfl (lv_at hl 2 rfl) ?_
  refine nv_addE (r := 3) hx hb rfl dX2_goBehind_80 ?_
  refine lv_iload hx hb dX2_goBehind_81 (lv_at hl 1 rfl) ?_
  refine nv_iast hx hb hK hP hD hS 10 0 rfl rfl (by omega) (by decide) dX2_goBehind_83 (fun H locs hP hD hS => ?_)
  have hP : va_P D vwCl [(ad 0, .inr (1, [.int (nI q), .ref (ad 1), .ref (ad 2), .ref (ad 3), .ref (ad 4)])), (ad 1, .inl (cI, 81, .inl (nF sm))), (ad 2, .inl (cI, 81, .inl (nF pr))), (ad 3, .inl (cI, 9, .inl (nF op))), (ad 4, .inl (cI, 9, .inl (nF iv))), (ad 5, .inr (3, [.ref (ad 0), .int (nI (nn q)), .ref (ad 6), .ref (ad 7)])), (ad 6, .inl (cI, 273, .inl (nF tr))), (ad 7, .inl (cI, 910, .inl (nF ro))), (bd 0, .inr (2, [.ref (ad 5), .ref (ad 0), .ref (bd 1), .ref (bd 2), .ref (bd 3)])), (bd 1, .inl (cI, 9, .inl (nF mm))), (bd 2, .inl (cI, 9, .inl (nF (upN (upN (upN (upN me 0 (fadd q (fadd q (fadd q 0 (fmul q (mm 0) (fm 0))) (fmul q (mm 1) (fm 3))) (fmul q (mm 2) (fm 6)))) 1 (fadd q (fadd q (fadd q 0 (fmul q (mm 0) (fm 1))) (fmul q (mm 1) (fm 4))) (fmul q (mm 2) (fm 7)))) 2 (fadd q (fadd q (fadd q 0 (fmul q (mm 0) (fm 2))) (fmul q (mm 1) (fm 5))) (fmul q (mm 2) (fm 8)))) 3 (fadd q (fadd q (fadd q 0 (fmul q (mm 3) (fm 0))) (fmul q (mm 4) (fm 3))) (fmul q (mm 5) (fm 6))))))), (bd 3, .inl (cZ, 91, .inl (bF rc))), (ed 0, .inr (2, [.ref (ad 5), .ref (ad 0), .ref (ed 1), .ref (ed 2), .ref (ed 3)])), (ed 1, .inl (cI, 9, .inl (nF fm)))] H := hP
  have hD : va_D A [(ad 0, .inr (1, [.int (nI q), .ref (ad 1), .ref (ad 2), .ref (ad 3), .ref (ad 4)])), (ad 1, .inl (cI, 81, .inl (nF sm))), (ad 2, .inl (cI, 81, .inl (nF pr))), (ad 3, .inl (cI, 9, .inl (nF op))), (ad 4, .inl (cI, 9, .inl (nF iv))), (ad 5, .inr (3, [.ref (ad 0), .int (nI (nn q)), .ref (ad 6), .ref (ad 7)])), (ad 6, .inl (cI, 273, .inl (nF tr))), (ad 7, .inl (cI, 910, .inl (nF ro))), (bd 0, .inr (2, [.ref (ad 5), .ref (ad 0), .ref (bd 1), .ref (bd 2), .ref (bd 3)])), (bd 1, .inl (cI, 9, .inl (nF mm))), (bd 2, .inl (cI, 9, .inl (nF (upN (upN (upN (upN me 0 (fadd q (fadd q (fadd q 0 (fmul q (mm 0) (fm 0))) (fmul q (mm 1) (fm 3))) (fmul q (mm 2) (fm 6)))) 1 (fadd q (fadd q (fadd q 0 (fmul q (mm 0) (fm 1))) (fmul q (mm 1) (fm 4))) (fmul q (mm 2) (fm 7)))) 2 (fadd q (fadd q (fadd q 0 (fmul q (mm 0) (fm 2))) (fmul q (mm 1) (fm 5))) (fmul q (mm 2) (fm 8)))) 3 (fadd q (fadd q (fadd q 0 (fmul q (mm 3) (fm 0))) (fmul q (mm 4) (fm 3))) (fmul q (mm 5) (fm 6))))))), (bd 3, .inl (cZ, 91, .inl (bF rc))), (ed 0, .inr (2, [.ref (ad 5), .ref (ad 0), .ref (ed 1), .ref (ed 2), .ref (ed 3)])), (ed 1, .inl (cI, 9, .inl (nF fm)))] := hD
  refine lv_iinc (v := nI 1) (lv' := [(3, .int (nI 1)), (5, .int (nI 3)), (4, .int (nI (fadd q (fadd q (fadd q 0 (fmul q (mm 3) (fm 0))) (fmul q (mm 4) (fm 3))) (fmul q (mm 5) (fm 6))))), (2, .int (nI 1)), (0, .ref (bd 0)), (1, .ref (ed 0))]) hx hb dX2_goBehind_84 hl (k := 2) rfl (nI_inc 0) (by decide) rfl (fun ls hl => ?_)
  refine lv_goto (tgt := 9) hx hb dX2_goBehind_87 (by decide) ?_
  refine lv_iload_n hx hb dX2_goBehind_9 rfl (lv_at hl 0 rfl) ?_
  refine lv_iconst (v := nI 3) hx hb dX2_goBehind_10 (by decide) ?_
  refine nv_icmp_ge (tgt := 90) hx hb (by decide) (by decide) dX2_goBehind_11 (by decide) (fun c11 => absurd c11 (by omega)) (fun c11 => ?_)
  refine lv_iconst (v := nI 0) hx hb dX2_goBehind_14 (by decide) ?_
  refine lv_istore (lv' := [(4, .int (nI 0)), (3, .int (nI 1)), (5, .int (nI 3)), (2, .int (nI 1)), (0, .ref (bd 0)), (1, .ref (ed 0))]) hx hb dX2_goBehind_15 hl (by decide) rfl (fun ls hl => ?_)
  refine lv_iconst (v := nI 0) hx hb dX2_goBehind_17 (by decide) ?_
  refine lv_istore (lv' := [(5, .int (nI 0)), (4, .int (nI 0)), (3, .int (nI 1)), (2, .int (nI 1)), (0, .ref (bd 0)), (1, .ref (ed 0))]) hx hb dX2_goBehind_18 hl (by decide) rfl (fun ls hl => ?_)
  refine lv_iload hx hb dX2_goBehind_20 (lv_at hl 0 rfl) ?_
  refine lv_iconst (v := nI 3) hx hb dX2_goBehind_22 (by decide) ?_
  refine nv_icmp_ge (tgt := 72) hx hb (by decide) (by decide) dX2_goBehind_23 (by decide) (fun c23 => absurd c23 (by omega)) (fun c23 => ?_)
  refine lv_aload_n hx hb dX2_goBehind_26 rfl (lv_at hl 4 rfl) ?_
  refine va_get (D := D) (ci := 2) (v := .ref (ad 0)) (C := RX2) (T := TX2) (N := 5) hx hb hts hiX2 hown hK hP 8 rfl rfl 1 (by decide) hf32 (fun _ h9 => h9) rfl dX2_goBehind_27 ?_
  refine lv_iload hx hb dX2_goBehind_30 (lv_at hl 1 rfl) ?_
  refine lv_aload_n hx hb dX2_goBehind_32 rfl (lv_at hl 4 rfl) ?_
  refine va_get (D := D) (ci := 2) (v := .ref (ad 0)) (C := RX2) (T := TX2) (N := 5) hx hb hts hiX2 hown hK hP 8 rfl rfl 1 (by decide) hf32 (fun _ h9 => h9) rfl dX2_goBehind_33 ?_
  refine lv_aload_n hx hb dX2_goBehind_36 rfl (lv_at hl 4 rfl) ?_
  refine va_get (D := D) (ci := 2) (v := .ref (bd 1)) (C := RX2) (T := TX2) (N := 5) hx hb hts hiX2 hown hK hP 8 rfl rfl 2 (by decide) hf9 (fun _ h9 => h9) rfl dX2_goBehind_37 ?_
  refine lv_iconst (v := nI 3) hx hb dX2_goBehind_40 (by decide) ?_
  refine lv_iload_n hx hb dX2_goBehind_41 rfl (lv_at hl 3 rfl) ?_
  refine nv_mulE (r := 3) hx hb rfl dX2_goBehind_42 ?_
  refine lv_iload hx hb dX2_goBehind_43 (lv_at hl 0 rfl) ?_
  refine nv_addE (r := 3) hx hb rfl dX2_goBehind_45 ?_
  refine nv_iald hx hb hK hP 9 0 rfl rfl (by omega) (by decide) dX2_goBehind_46 ?_
  refine lv_aload_n hx hb dX2_goBehind_47 rfl (lv_at hl 5 rfl) ?_
  refine va_get (D := D) (ci := 2) (v := .ref (ed 1)) (C := RX2) (T := TX2) (N := 5) hx hb hts hiX2 hown hK hP 12 rfl rfl 2 (by decide) hf9 (fun _ h9 => h9) rfl dX2_goBehind_48 ?_
  refine lv_iconst (v := nI 3) hx hb dX2_goBehind_51 (by decide) ?_
  refine lv_iload hx hb dX2_goBehind_52 (lv_at hl 0 rfl) ?_
  refine nv_mulE (r := 0) hx hb rfl dX2_goBehind_54 ?_
  refine lv_iload_n hx hb dX2_goBehind_55 rfl (lv_at hl 2 rfl) ?_
  refine nv_addE (r := 1) hx hb rfl dX2_goBehind_56 ?_
  refine nv_iald hx hb hK hP 13 0 rfl rfl (by omega) (by decide) dX2_goBehind_57 ?_
  refine ctR_V (As := [.int (nI (mm 3)), .int (nI (fm 1))]) (rest := [.int (nI 0), .ref (ad 0)]) (r := .int (nI (fmul q (mm 3) (fm 1)))) ⟨hx, hb, hml, hown, hts⟩ (c_X1_times l D cI cZ ad q sm pr op iv hF (mm 3) (fm 1) (by omega) (by omega)) (cwV 2 hts gX2_goBehind_X1_times rfl rfl rfl hdV_X1_times ⟨Nat.le_of_ble_eq_true rfl, Nat.le_of_ble_eq_true rfl⟩) hK hN hP [0, 1, 2, 3, 4] rfl 0 1 rfl rfl rfl hl.1 rfl (Nat.le_of_ble_eq_true rfl) ⟨Nat.zero_le _, Nat.zero_le _⟩ dX2_goBehind_58 ?_
  have hh_25 : fmul q (mm 3) (fm 1) < q := fmul_lt hF.1 (by omega) (by omega)
  refine ctR_V (As := [.int (nI 0), .int (nI (fmul q (mm 3) (fm 1)))]) (rest := []) (r := .int (nI (fadd q 0 (fmul q (mm 3) (fm 1))))) ⟨hx, hb, hml, hown, hts⟩ (c_X1_plus l D cI cZ ad q sm pr op iv hF 0 (fmul q (mm 3) (fm 1)) (by omega) (by omega)) (cwV 2 hts gX2_goBehind_X1_plus rfl rfl rfl hdV_X1_plus ⟨Nat.le_of_ble_eq_true rfl, Nat.le_of_ble_eq_true rfl⟩) hK hN hP [0, 1, 2, 3, 4] rfl 0 1 rfl rfl rfl hl.1 rfl (Nat.le_of_ble_eq_true rfl) ⟨Nat.zero_le _, Nat.zero_le _⟩ dX2_goBehind_61 ?_
  have hh_26 : fadd q 0 (fmul q (mm 3) (fm 1)) < q := fadd_lt hF.1 (by omega) (by omega)
  refine lv_istore (lv' := [(4, .int (nI (fadd q 0 (fmul q (mm 3) (fm 1))))), (5, .int (nI 0)), (3, .int (nI 1)), (2, .int (nI 1)), (0, .ref (bd 0)), (1, .ref (ed 0))]) hx hb dX2_goBehind_64 hl (by decide) rfl (fun ls hl => ?_)
  refine lv_iinc (v := nI 1) (lv' := [(5, .int (nI 1)), (4, .int (nI (fadd q 0 (fmul q (mm 3) (fm 1))))), (3, .int (nI 1)), (2, .int (nI 1)), (0, .ref (bd 0)), (1, .ref (ed 0))]) hx hb dX2_goBehind_66 hl (k := 1) rfl (nI_inc 0) (by decide) rfl (fun ls hl => ?_)
  refine lv_goto (tgt := 20) hx hb dX2_goBehind_69 (by decide) ?_
  refine lv_iload hx hb dX2_goBehind_20 (lv_at hl 0 rfl) ?_
  refine lv_iconst (v := nI 3) hx hb dX2_goBehind_22 (by decide) ?_
  refine nv_icmp_ge (tgt := 72) hx hb (by decide) (by decide) dX2_goBehind_23 (by decide) (fun c23 => absurd c23 (by omega)) (fun c23 => ?_)
  refine lv_aload_n hx hb dX2_goBehind_26 rfl (lv_at hl 4 rfl) ?_
  refine va_get (D := D) (ci := 2) (v := .ref (ad 0)) (C := RX2) (T := TX2) (N := 5) hx hb hts hiX2 hown hK hP 8 rfl rfl 1 (by decide) hf32 (fun _ h9 => h9) rfl dX2_goBehind_27 ?_
  refine lv_iload hx hb dX2_goBehind_30 (lv_at hl 1 rfl) ?_
  refine lv_aload_n hx hb dX2_goBehind_32 rfl (lv_at hl 4 rfl) ?_
  refine va_get (D := D) (ci := 2) (v := .ref (ad 0)) (C := RX2) (T := TX2) (N := 5) hx hb hts hiX2 hown hK hP 8 rfl rfl 1 (by decide) hf32 (fun _ h9 => h9) rfl dX2_goBehind_33 ?_
  refine lv_aload_n hx hb dX2_goBehind_36 rfl (lv_at hl 4 rfl) ?_
  refine va_get (D := D) (ci := 2) (v := .ref (bd 1)) (C := RX2) (T := TX2) (N := 5) hx hb hts hiX2 hown hK hP 8 rfl rfl 2 (by decide) hf9 (fun _ h9 => h9) rfl dX2_goBehind_37 ?_
  refine lv_iconst (v := nI 3) hx hb dX2_goBehind_40 (by decide) ?_
  refine lv_iload_n hx hb dX2_goBehind_41 rfl (lv_at hl 3 rfl) ?_
  refine nv_mulE (r := 3) hx hb rfl dX2_goBehind_42 ?_
  refine lv_iload hx hb dX2_goBehind_43 (lv_at hl 0 rfl) ?_
  refine nv_addE (r := 4) hx hb rfl dX2_goBehind_45 ?_
  refine nv_iald hx hb hK hP 9 0 rfl rfl (by omega) (by decide) dX2_goBehind_46 ?_
  refine lv_aload_n hx hb dX2_goBehind_47 rfl (lv_at hl 5 rfl) ?_
  refine va_get (D := D) (ci := 2) (v := .ref (ed 1)) (C := RX2) (T := TX2) (N := 5) hx hb hts hiX2 hown hK hP 12 rfl rfl 2 (by decide) hf9 (fun _ h9 => h9) rfl dX2_goBehind_48 ?_
  refine lv_iconst (v := nI 3) hx hb dX2_goBehind_51 (by decide) ?_
  refine lv_iload hx hb dX2_goBehind_52 (lv_at hl 0 rfl) ?_
  refine nv_mulE (r := 3) hx hb rfl dX2_goBehind_54 ?_
  refine lv_iload_n hx hb dX2_goBehind_55 rfl (lv_at hl 2 rfl) ?_
  refine nv_addE (r := 4) hx hb rfl dX2_goBehind_56 ?_
  refine nv_iald hx hb hK hP 13 0 rfl rfl (by omega) (by decide) dX2_goBehind_57 ?_
  refine ctR_V (As := [.int (nI (mm 4)), .int (nI (fm 4))]) (rest := [.int (nI (fadd q 0 (fmul q (mm 3) (fm 1)))), .ref (ad 0)]) (r := .int (nI (fmul q (mm 4) (fm 4)))) ⟨hx, hb, hml, hown, hts⟩ (c_X1_times l D cI cZ ad q sm pr op iv hF (mm 4) (fm 4) (by omega) (by omega)) (cwV 2 hts gX2_goBehind_X1_times rfl rfl rfl hdV_X1_times ⟨Nat.le_of_ble_eq_true rfl, Nat.le_of_ble_eq_true rfl⟩) hK hN hP [0, 1, 2, 3, 4] rfl 0 1 rfl rfl rfl hl.1 rfl (Nat.le_of_ble_eq_true rfl) ⟨Nat.zero_le _, Nat.zero_le _⟩ dX2_goBehind_58 ?_
  have hh_27 : fmul q (mm 4) (fm 4) < q := fmul_lt hF.1 (by omega) (by omega)
  refine ctR_V (As := [.int (nI (fadd q 0 (fmul q (mm 3) (fm 1)))), .int (nI (fmul q (mm 4) (fm 4)))]) (rest := []) (r := .int (nI (fadd q (fadd q 0 (fmul q (mm 3) (fm 1))) (fmul q (mm 4) (fm 4))))) ⟨hx, hb, hml, hown, hts⟩ (c_X1_plus l D cI cZ ad q sm pr op iv hF (fadd q 0 (fmul q (mm 3) (fm 1))) (fmul q (mm 4) (fm 4)) (by omega) (by omega)) (cwV 2 hts gX2_goBehind_X1_plus rfl rfl rfl hdV_X1_plus ⟨Nat.le_of_ble_eq_true rfl, Nat.le_of_ble_eq_true rfl⟩) hK hN hP [0, 1, 2, 3, 4] rfl 0 1 rfl rfl rfl hl.1 rfl (Nat.le_of_ble_eq_true rfl) ⟨Nat.zero_le _, Nat.zero_le _⟩ dX2_goBehind_61 ?_
  have hh_28 : fadd q (fadd q 0 (fmul q (mm 3) (fm 1))) (fmul q (mm 4) (fm 4)) < q := fadd_lt hF.1 (by omega) (by omega)
  refine lv_istore (lv' := [(4, .int (nI (fadd q (fadd q 0 (fmul q (mm 3) (fm 1))) (fmul q (mm 4) (fm 4))))), (5, .int (nI 1)), (3, .int (nI 1)), (2, .int (nI 1)), (0, .ref (bd 0)), (1, .ref (ed 0))]) hx hb dX2_goBehind_64 hl (by decide) rfl (fun ls hl => ?_)
  refine lv_iinc (v := nI 2) (lv' := [(5, .int (nI 2)), (4, .int (nI (fadd q (fadd q 0 (fmul q (mm 3) (fm 1))) (fmul q (mm 4) (fm 4))))), (3, .int (nI 1)), (2, .int (nI 1)), (0, .ref (bd 0)), (1, .ref (ed 0))]) hx hb dX2_goBehind_66 hl (k := 1) rfl (nI_inc 1) (by decide) rfl (fun ls hl => ?_)
  refine lv_goto (tgt := 20) hx hb dX2_goBehind_69 (by decide) ?_
  refine lv_iload hx hb dX2_goBehind_20 (lv_at hl 0 rfl) ?_
  refine lv_iconst (v := nI 3) hx hb dX2_goBehind_22 (by decide) ?_
  refine nv_icmp_ge (tgt := 72) hx hb (by decide) (by decide) dX2_goBehind_23 (by decide) (fun c23 => absurd c23 (by omega)) (fun c23 => ?_)
  refine lv_aload_n hx hb dX2_goBehind_26 rfl (lv_at hl 4 rfl) ?_
  refine va_get (D := D) (ci := 2) (v := .ref (ad 0)) (C := RX2) (T := TX2) (N := 5) hx hb hts hiX2 hown hK hP 8 rfl rfl 1 (by decide) hf32 (fun _ h9 => h9) rfl dX2_goBehind_27 ?_
  refine lv_iload hx hb dX2_goBehind_30 (lv_at hl 1 rfl) ?_
  refine lv_aload_n hx hb dX2_goBehind_32 rfl (lv_at hl 4 rfl) ?_
  refine va_get (D := D) (ci := 2) (v := .ref (ad 0)) (C := RX2) (T := TX2) (N := 5) hx hb hts hiX2 hown hK hP 8 rfl rfl 1 (by decide) hf32 (fun _ h9 => h9) rfl dX2_goBehind_33 ?_
  refine lv_aload_n hx hb dX2_goBehind_36 rfl (lv_at hl 4 rfl) ?_
  refine va_get (D := D) (ci := 2) (v := .ref (bd 1)) (C := RX2) (T := TX2) (N := 5) hx hb hts hiX2 hown hK hP 8 rfl rfl 2 (by decide) hf9 (fun _ h9 => h9) rfl dX2_goBehind_37 ?_
  refine lv_iconst (v := nI 3) hx hb dX2_goBehind_40 (by decide) ?_
  refine lv_iload_n hx hb dX2_goBehind_41 rfl (lv_at hl 3 rfl) ?_
  refine nv_mulE (r := 3) hx hb rfl dX2_goBehind_42 ?_
  refine lv_iload hx hb dX2_goBehind_43 (lv_at hl 0 rfl) ?_
  refine nv_addE (r := 5) hx hb rfl dX2_goBehind_45 ?_
  refine nv_iald hx hb hK hP 9 0 rfl rfl (by omega) (by decide) dX2_goBehind_46 ?_
  refine lv_aload_n hx hb dX2_goBehind_47 rfl (lv_at hl 5 rfl) ?_
  refine va_get (D := D) (ci := 2) (v := .ref (ed 1)) (C := RX2) (T := TX2) (N := 5) hx hb hts hiX2 hown hK hP 12 rfl rfl 2 (by decide) hf9 (fun _ h9 => h9) rfl dX2_goBehind_48 ?_
  refine lv_iconst (v := nI 3) hx hb dX2_goBehind_51 (by decide) ?_
  refine lv_iload hx hb dX2_goBehind_52 (lv_at hl 0 rfl) ?_
  refine nv_mulE (r := 6) hx hb rfl dX2_goBehind_54 ?_
  refine lv_iload_n hx hb dX2_goBehind_55 rfl (lv_at hl 2 rfl) ?_
  refine nv_addE (r := 7) hx hb rfl dX2_goBehind_56 ?_
  refine nv_iald hx hb hK hP 13 0 rfl rfl (by omega) (by decide) dX2_goBehind_57 ?_
  refine ctR_V (As := [.int (nI (mm 5)), .int (nI (fm 7))]) (rest := [.int (nI (fadd q (fadd q 0 (fmul q (mm 3) (fm 1))) (fmul q (mm 4) (fm 4)))), .ref (ad 0)]) (r := .int (nI (fmul q (mm 5) (fm 7)))) ⟨hx, hb, hml, hown, hts⟩ (c_X1_times l D cI cZ ad q sm pr op iv hF (mm 5) (fm 7) (by omega) (by omega)) (cwV 2 hts gX2_goBehind_X1_times rfl rfl rfl hdV_X1_times ⟨Nat.le_of_ble_eq_true rfl, Nat.le_of_ble_eq_true rfl⟩) hK hN hP [0, 1, 2, 3, 4] rfl 0 1 rfl rfl rfl hl.1 rfl (Nat.le_of_ble_eq_true rfl) ⟨Nat.zero_le _, Nat.zero_le _⟩ dX2_goBehind_58 ?_
  have hh_29 : fmul q (mm 5) (fm 7) < q := fmul_lt hF.1 (by omega) (by omega)
  refine ctR_V (As := [.int (nI (fadd q (fadd q 0 (fmul q (mm 3) (fm 1))) (fmul q (mm 4) (fm 4)))), .int (nI (fmul q (mm 5) (fm 7)))]) (rest := []) (r := .int (nI (fadd q (fadd q (fadd q 0 (fmul q (mm 3) (fm 1))) (fmul q (mm 4) (fm 4))) (fmul q (mm 5) (fm 7))))) ⟨hx, hb, hml, hown, hts⟩ (c_X1_plus l D cI cZ ad q sm pr op iv hF (fadd q (fadd q 0 (fmul q (mm 3) (fm 1))) (fmul q (mm 4) (fm 4))) (fmul q (mm 5) (fm 7)) (by omega) (by omega)) (cwV 2 hts gX2_goBehind_X1_plus rfl rfl rfl hdV_X1_plus ⟨Nat.le_of_ble_eq_true rfl, Nat.le_of_ble_eq_true rfl⟩) hK hN hP [0, 1, 2, 3, 4] rfl 0 1 rfl rfl rfl hl.1 rfl (Nat.le_of_ble_eq_true rfl) ⟨Nat.zero_le _, Nat.zero_le _⟩ dX2_goBehind_61 ?_
  have hh_30 : fadd q (fadd q (fadd q 0 (fmul q (mm 3) (fm 1))) (fmul q (mm 4) (fm 4))) (fmul q (mm 5) (fm 7)) < q := fadd_lt hF.1 (by omega) (by omega)
  refine lv_istore (lv' := [(4, .int (nI (fadd q (fadd q (fadd q 0 (fmul q (mm 3) (fm 1))) (fmul q (mm 4) (fm 4))) (fmul q (mm 5) (fm 7))))), (5, .int (nI 2)), (3, .int (nI 1)), (2, .int (nI 1)), (0, .ref (bd 0)), (1, .ref (ed 0))]) hx hb dX2_goBehind_64 hl (by decide) rfl (fun ls hl => ?_)
  refine lv_iinc (v := nI 3) (lv' := [(5, .int (nI 3)), (4, .int (nI (fadd q (fadd q (fadd q 0 (fmul q (mm 3) (fm 1))) (fmul q (mm 4) (fm 4))) (fmul q (mm 5) (fm 7))))), (3, .int (nI 1)), (2, .int (nI 1)), (0, .ref (bd 0)), (1, .ref (ed 0))]) hx hb dX2_goBehind_66 hl (k := 1) rfl (nI_inc 2) (by decide) rfl (fun ls hl => ?_)
  refine lv_goto (tgt := 20) hx hb dX2_goBehind_69 (by decide) ?_
  refine lv_iload hx hb dX2_goBehind_20 (lv_at hl 0 rfl) ?_
  refine lv_iconst (v := nI 3) hx hb dX2_goBehind_22 (by decide) ?_
  refine nv_icmp_ge (tgt := 72) hx hb (by decide) (by decide) dX2_goBehind_23 (by decide) (fun c23 => ?_) (fun c23 => absurd c23 (by omega))
  refine lv_aload_n hx hb dX2_goBehind_72 rfl (lv_at hl 4 rfl) ?_
  refine va_get (D := D) (ci := 2) (v := .ref (bd 2)) (C := RX2) (T := TX2) (N := 5) hx hb hts hiX2 hown hK hP 8 rfl rfl 3 (by decide) hf15 (fun _ h9 => h9) rfl dX2_goBehind_73 ?_
  refine lv_iconst (v := nI 3) hx hb dX2_goBehind_76 (by decide) ?_
  refine lv_iload_n hx hb dX2_goBehind_77 rfl (lv_at hl 3 rfl) ?_
  refine nv_mulE (r := 3) hx hb rfl dX2_goBehind_78 ?_
  refine lv_iload_n hx hb dX2_goBehind_79 rfl (lv_at hl 2 rfl) ?_
  refine nv_addE (r := 4) hx hb rfl dX2_goBehind_80 ?_
  refine lv_iload hx hb dX2_goBehind_81 (lv_at hl 1 rfl) ?_
  refine nv_iast hx hb hK hP hD hS 10 0 rfl rfl (by omega) (by decide) dX2_goBehind_83 (fun H locs hP hD hS => ?_)
  have hP : va_P D vwCl [(ad 0, .inr (1, [.int (nI q), .ref (ad 1), .ref (ad 2), .ref (ad 3), .ref (ad 4)])), (ad 1, .inl (cI, 81, .inl (nF sm))), (ad 2, .inl (cI, 81, .inl (nF pr))), (ad 3, .inl (cI, 9, .inl (nF op))), (ad 4, .inl (cI, 9, .inl (nF iv))), (ad 5, .inr (3, [.ref (ad 0), .int (nI (nn q)), .ref (ad 6), .ref (ad 7)])), (ad 6, .inl (cI, 273, .inl (nF tr))), (ad 7, .inl (cI, 910, .inl (nF ro))), (bd 0, .inr (2, [.ref (ad 5), .ref (ad 0), .ref (bd 1), .ref (bd 2), .ref (bd 3)])), (bd 1, .inl (cI, 9, .inl (nF mm))), (bd 2, .inl (cI, 9, .inl (nF (upN (upN (upN (upN (upN me 0 (fadd q (fadd q (fadd q 0 (fmul q (mm 0) (fm 0))) (fmul q (mm 1) (fm 3))) (fmul q (mm 2) (fm 6)))) 1 (fadd q (fadd q (fadd q 0 (fmul q (mm 0) (fm 1))) (fmul q (mm 1) (fm 4))) (fmul q (mm 2) (fm 7)))) 2 (fadd q (fadd q (fadd q 0 (fmul q (mm 0) (fm 2))) (fmul q (mm 1) (fm 5))) (fmul q (mm 2) (fm 8)))) 3 (fadd q (fadd q (fadd q 0 (fmul q (mm 3) (fm 0))) (fmul q (mm 4) (fm 3))) (fmul q (mm 5) (fm 6)))) 4 (fadd q (fadd q (fadd q 0 (fmul q (mm 3) (fm 1))) (fmul q (mm 4) (fm 4))) (fmul q (mm 5) (fm 7))))))), (bd 3, .inl (cZ, 91, .inl (bF rc))), (ed 0, .inr (2, [.ref (ad 5), .ref (ad 0), .ref (ed 1), .ref (ed 2), .ref (ed 3)])), (ed 1, .inl (cI, 9, .inl (nF fm)))] H := hP
  have hD : va_D A [(ad 0, .inr (1, [.int (nI q), .ref (ad 1), .ref (ad 2), .ref (ad 3), .ref (ad 4)])), (ad 1, .inl (cI, 81, .inl (nF sm))), (ad 2, .inl (cI, 81, .inl (nF pr))), (ad 3, .inl (cI, 9, .inl (nF op))), (ad 4, .inl (cI, 9, .inl (nF iv))), (ad 5, .inr (3, [.ref (ad 0), .int (nI (nn q)), .ref (ad 6), .ref (ad 7)])), (ad 6, .inl (cI, 273, .inl (nF tr))), (ad 7, .inl (cI, 910, .inl (nF ro))), (bd 0, .inr (2, [.ref (ad 5), .ref (ad 0), .ref (bd 1), .ref (bd 2), .ref (bd 3)])), (bd 1, .inl (cI, 9, .inl (nF mm))), (bd 2, .inl (cI, 9, .inl (nF (upN (upN (upN (upN (upN me 0 (fadd q (fadd q (fadd q 0 (fmul q (mm 0) (fm 0))) (fmul q (mm 1) (fm 3))) (fmul q (mm 2) (fm 6)))) 1 (fadd q (fadd q (fadd q 0 (fmul q (mm 0) (fm 1))) (fmul q (mm 1) (fm 4))) (fmul q (mm 2) (fm 7)))) 2 (fadd q (fadd q (fadd q 0 (fmul q (mm 0) (fm 2))) (fmul q (mm 1) (fm 5))) (fmul q (mm 2) (fm 8)))) 3 (fadd q (fadd q (fadd q 0 (fmul q (mm 3) (fm 0))) (fmul q (mm 4) (fm 3))) (fmul q (mm 5) (fm 6)))) 4 (fadd q (fadd q (fadd q 0 (fmul q (mm 3) (fm 1))) (fmul q (mm 4) (fm 4))) (fmul q (mm 5) (fm 7))))))), (bd 3, .inl (cZ, 91, .inl (bF rc))), (ed 0, .inr (2, [.ref (ad 5), .ref (ad 0), .ref (ed 1), .ref (ed 2), .ref (ed 3)])), (ed 1, .inl (cI, 9, .inl (nF fm)))] := hD
  refine lv_iinc (v := nI 2) (lv' := [(3, .int (nI 2)), (5, .int (nI 3)), (4, .int (nI (fadd q (fadd q (fadd q 0 (fmul q (mm 3) (fm 1))) (fmul q (mm 4) (fm 4))) (fmul q (mm 5) (fm 7))))), (2, .int (nI 1)), (0, .ref (bd 0)), (1, .ref (ed 0))]) hx hb dX2_goBehind_84 hl (k := 2) rfl (nI_inc 1) (by decide) rfl (fun ls hl => ?_)
  refine lv_goto (tgt := 9) hx hb dX2_goBehind_87 (by decide) ?_
  refine lv_iload_n hx hb dX2_goBehind_9 rfl (lv_at hl 0 rfl) ?_
  refine lv_iconst (v := nI 3) hx hb dX2_goBehind_10 (by decide) ?_
  refine nv_icmp_ge (tgt := 90) hx hb (by decide) (by decide) dX2_goBehind_11 (by decide) (fun c11 => absurd c11 (by omega)) (fun c11 => ?_)
  refine lv_iconst (v := nI 0) hx hb dX2_goBehind_14 (by decide) ?_
  refine lv_istore (lv' := [(4, .int (nI 0)), (3, .int (nI 2)), (5, .int (nI 3)), (2, .int (nI 1)), (0, .ref (bd 0)), (1, .ref (ed 0))]) hx hb dX2_goBehind_15 hl (by decide) rfl (fun ls hl => ?_)
  refine lv_iconst (v := nI 0) hx hb dX2_goBehind_17 (by decide) ?_
  refine lv_istore (lv' := [(5, .int (nI 0)), (4, .int (nI 0)), (3, .int (nI 2)), (2, .int (nI 1)), (0, .ref (bd 0)), (1, .ref (ed 0))]) hx hb dX2_goBehind_18 hl (by decide) rfl (fun ls hl => ?_)
  refine lv_iload hx hb dX2_goBehind_20 (lv_at hl 0 rfl) ?_
  refine lv_iconst (v := nI 3) hx hb dX2_goBehind_22 (by decide) ?_
  refine nv_icmp_ge (tgt := 72) hx hb (by decide) (by decide) dX2_goBehind_23 (by decide) (fun c23 => absurd c23 (by omega)) (fun c23 => ?_)
  refine lv_aload_n hx hb dX2_goBehind_26 rfl (lv_at hl 4 rfl) ?_
  refine va_get (D := D) (ci := 2) (v := .ref (ad 0)) (C := RX2) (T := TX2) (N := 5) hx hb hts hiX2 hown hK hP 8 rfl rfl 1 (by decide) hf32 (fun _ h9 => h9) rfl dX2_goBehind_27 ?_
  refine lv_iload hx hb dX2_goBehind_30 (lv_at hl 1 rfl) ?_
  refine lv_aload_n hx hb dX2_goBehind_32 rfl (lv_at hl 4 rfl) ?_
  refine va_get (D := D) (ci := 2) (v := .ref (ad 0)) (C := RX2) (T := TX2) (N := 5) hx hb hts hiX2 hown hK hP 8 rfl rfl 1 (by decide) hf32 (fun _ h9 => h9) rfl dX2_goBehind_33 ?_
  refine lv_aload_n hx hb dX2_goBehind_36 rfl (lv_at hl 4 rfl) ?_
  refine va_get (D := D) (ci := 2) (v := .ref (bd 1)) (C := RX2) (T := TX2) (N := 5) hx hb hts hiX2 hown hK hP 8 rfl rfl 2 (by decide) hf9 (fun _ h9 => h9) rfl dX2_goBehind_37 ?_
  refine lv_iconst (v := nI 3) hx hb dX2_goBehind_40 (by decide) ?_
  refine lv_iload_n hx hb dX2_goBehind_41 rfl (lv_at hl 3 rfl) ?_
  refine nv_mulE (r := 3) hx hb rfl dX2_goBehind_42 ?_
  refine lv_iload hx hb dX2_goBehind_43 (lv_at hl 0 rfl) ?_
  refine nv_addE (r := 3) hx hb rfl dX2_goBehind_45 ?_
  refine nv_iald hx hb hK hP 9 0 rfl rfl (by omega) (by decide) dX2_goBehind_46 ?_
  refine lv_aload_n hx hb dX2_goBehind_47 rfl (lv_at hl 5 rfl) ?_
  refine va_get (D := D) (ci := 2) (v := .ref (ed 1)) (C := RX2) (T := TX2) (N := 5) hx hb hts hiX2 hown hK hP 12 rfl rfl 2 (by decide) hf9 (fun _ h9 => h9) rfl dX2_goBehind_48 ?_
  refine lv_iconst (v := nI 3) hx hb dX2_goBehind_51 (by decide) ?_
  refine lv_iload hx hb dX2_goBehind_52 (lv_at hl 0 rfl) ?_
  refine nv_mulE (r := 0) hx hb rfl dX2_goBehind_54 ?_
  refine lv_iload_n hx hb dX2_goBehind_55 rfl (lv_at hl 2 rfl) ?_
  refine nv_addE (r := 2) hx hb rfl dX2_goBehind_56 ?_
  refine nv_iald hx hb hK hP 13 0 rfl rfl (by omega) (by decide) dX2_goBehind_57 ?_
  refine ctR_V (As := [.int (nI (mm 3)), .int (nI (fm 2))]) (rest := [.int (nI 0), .ref (ad 0)]) (r := .int (nI (fmul q (mm 3) (fm 2)))) ⟨hx, hb, hml, hown, hts⟩ (c_X1_times l D cI cZ ad q sm pr op iv hF (mm 3) (fm 2) (by omega) (by omega)) (cwV 2 hts gX2_goBehind_X1_times rfl rfl rfl hdV_X1_times ⟨Nat.le_of_ble_eq_true rfl, Nat.le_of_ble_eq_true rfl⟩) hK hN hP [0, 1, 2, 3, 4] rfl 0 1 rfl rfl rfl hl.1 rfl (Nat.le_of_ble_eq_true rfl) ⟨Nat.zero_le _, Nat.zero_le _⟩ dX2_goBehind_58 ?_
  have hh_31 : fmul q (mm 3) (fm 2) < q := fmul_lt hF.1 (by omega) (by omega)
  refine ctR_V (As := [.int (nI 0), .int (nI (fmul q (mm 3) (fm 2)))]) (rest := []) (r := .int (nI (fadd q 0 (fmul q (mm 3) (fm 2))))) ⟨hx, hb, hml, hown, hts⟩ (c_X1_plus l D cI cZ ad q sm pr op iv hF 0 (fmul q (mm 3) (fm 2)) (by omega) (by omega)) (cwV 2 hts gX2_goBehind_X1_plus rfl rfl rfl hdV_X1_plus ⟨Nat.le_of_ble_eq_true rfl, Nat.le_of_ble_eq_true rfl⟩) hK hN hP [0, 1, 2, 3, 4] rfl 0 1 rfl rfl rfl hl.1 rfl (Nat.le_of_ble_eq_true rfl) ⟨Nat.zero_le _, Nat.zero_le _⟩ dX2_goBehind_61 ?_
  have hh_32 : fadd q 0 (fmul q (mm 3) (fm 2)) < q := fadd_lt hF.1 (by omega) (by omega)
  refine lv_istore (lv' := [(4, .int (nI (fadd q 0 (fmul q (mm 3) (fm 2))))), (5, .int (nI 0)), (3, .int (nI 2)), (2, .int (nI 1)), (0, .ref (bd 0)), (1, .ref (ed 0))]) hx hb dX2_goBehind_64 hl (by decide) rfl (fun ls hl => ?_)
  refine lv_iinc (v := nI 1) (lv' := [(5, .int (nI 1)), (4, .int (nI (fadd q 0 (fmul q (mm 3) (fm 2))))), (3, .int (nI 2)), (2, .int (nI 1)), (0, .ref (bd 0)), (1, .ref (ed 0))]) hx hb dX2_goBehind_66 hl (k := 1) rfl (nI_inc 0) (by decide) rfl (fun ls hl => ?_)
  refine lv_goto (tgt := 20) hx hb dX2_goBehind_69 (by decide) ?_
  refine lv_iload hx hb dX2_goBehind_20 (lv_at hl 0 rfl) ?_
  refine lv_iconst (v := nI 3) hx hb dX2_goBehind_22 (by decide) ?_
  refine nv_icmp_ge (tgt := 72) hx hb (by decide) (by decide) dX2_goBehind_23 (by decide) (fun c23 => absurd c23 (by omega)) (fun c23 => ?_)
  refine lv_aload_n hx hb dX2_goBehind_26 rfl (lv_at hl 4 rfl) ?_
  refine va_get (D := D) (ci := 2) (v := .ref (ad 0)) (C := RX2) (T := TX2) (N := 5) hx hb hts hiX2 hown hK hP 8 rfl rfl 1 (by decide) hf32 (fun _ h9 => h9) rfl dX2_goBehind_27 ?_
  refine lv_iload hx hb dX2_goBehind_30 (lv_at hl 1 rfl) ?_
  refine lv_aload_n hx hb dX2_goBehind_32 rfl (lv_at hl 4 rfl) ?_
  refine va_get (D := D) (ci := 2) (v := .ref (ad 0)) (C := RX2) (T := TX2) (N := 5) hx hb hts hiX2 hown hK hP 8 rfl rfl 1 (by decide) hf32 (fun _ h9 => h9) rfl dX2_goBehind_33 ?_
  refine lv_aload_n hx hb dX2_goBehind_36 rfl (lv_at hl 4 rfl) ?_
  refine va_get (D := D) (ci := 2) (v := .ref (bd 1)) (C := RX2) (T := TX2) (N := 5) hx hb hts hiX2 hown hK hP 8 rfl rfl 2 (by decide) hf9 (fun _ h9 => h9) rfl dX2_goBehind_37 ?_
  refine lv_iconst (v := nI 3) hx hb dX2_goBehind_40 (by decide) ?_
  refine lv_iload_n hx hb dX2_goBehind_41 rfl (lv_at hl 3 rfl) ?_
  refine nv_mulE (r := 3) hx hb rfl dX2_goBehind_42 ?_
  refine lv_iload hx hb dX2_goBehind_43 (lv_at hl 0 rfl) ?_
  refine nv_addE (r := 4) hx hb rfl dX2_goBehind_45 ?_
  refine nv_iald hx hb hK hP 9 0 rfl rfl (by omega) (by decide) dX2_goBehind_46 ?_
  refine lv_aload_n hx hb dX2_goBehind_47 rfl (lv_at hl 5 rfl) ?_
  refine va_get (D := D) (ci := 2) (v := .ref (ed 1)) (C := RX2) (T := TX2) (N := 5) hx hb hts hiX2 hown hK hP 12 rfl rfl 2 (by decide) hf9 (fun _ h9 => h9) rfl dX2_goBehind_48 ?_
  refine lv_iconst (v := nI 3) hx hb dX2_goBehind_51 (by decide) ?_
  refine lv_iload hx hb dX2_goBehind_52 (lv_at hl 0 rfl) ?_
  refine nv_mulE (r := 3) hx hb rfl dX2_goBehind_54 ?_
  refine lv_iload_n hx hb dX2_goBehind_55 rfl (lv_at hl 2 rfl) ?_
  refine nv_addE (r := 5) hx hb rfl dX2_goBehind_56 ?_
  refine nv_iald hx hb hK hP 13 0 rfl rfl (by omega) (by decide) dX2_goBehind_57 ?_
  refine ctR_V (As := [.int (nI (mm 4)), .int (nI (fm 5))]) (rest := [.int (nI (fadd q 0 (fmul q (mm 3) (fm 2)))), .ref (ad 0)]) (r := .int (nI (fmul q (mm 4) (fm 5)))) ⟨hx, hb, hml, hown, hts⟩ (c_X1_times l D cI cZ ad q sm pr op iv hF (mm 4) (fm 5) (by omega) (by omega)) (cwV 2 hts gX2_goBehind_X1_times rfl rfl rfl hdV_X1_times ⟨Nat.le_of_ble_eq_true rfl, Nat.le_of_ble_eq_true rfl⟩) hK hN hP [0, 1, 2, 3, 4] rfl 0 1 rfl rfl rfl hl.1 rfl (Nat.le_of_ble_eq_true rfl) ⟨Nat.zero_le _, Nat.zero_le _⟩ dX2_goBehind_58 ?_
  have hh_33 : fmul q (mm 4) (fm 5) < q := fmul_lt hF.1 (by omega) (by omega)
  refine ctR_V (As := [.int (nI (fadd q 0 (fmul q (mm 3) (fm 2)))), .int (nI (fmul q (mm 4) (fm 5)))]) (rest := []) (r := .int (nI (fadd q (fadd q 0 (fmul q (mm 3) (fm 2))) (fmul q (mm 4) (fm 5))))) ⟨hx, hb, hml, hown, hts⟩ (c_X1_plus l D cI cZ ad q sm pr op iv hF (fadd q 0 (fmul q (mm 3) (fm 2))) (fmul q (mm 4) (fm 5)) (by omega) (by omega)) (cwV 2 hts gX2_goBehind_X1_plus rfl rfl rfl hdV_X1_plus ⟨Nat.le_of_ble_eq_true rfl, Nat.le_of_ble_eq_true rfl⟩) hK hN hP [0, 1, 2, 3, 4] rfl 0 1 rfl rfl rfl hl.1 rfl (Nat.le_of_ble_eq_true rfl) ⟨Nat.zero_le _, Nat.zero_le _⟩ dX2_goBehind_61 ?_
  have hh_34 : fadd q (fadd q 0 (fmul q (mm 3) (fm 2))) (fmul q (mm 4) (fm 5)) < q := fadd_lt hF.1 (by omega) (by omega)
  refine lv_istore (lv' := [(4, .int (nI (fadd q (fadd q 0 (fmul q (mm 3) (fm 2))) (fmul q (mm 4) (fm 5))))), (5, .int (nI 1)), (3, .int (nI 2)), (2, .int (nI 1)), (0, .ref (bd 0)), (1, .ref (ed 0))]) hx hb dX2_goBehind_64 hl (by decide) rfl (fun ls hl => ?_)
  refine lv_iinc (v := nI 2) (lv' := [(5, .int (nI 2)), (4, .int (nI (fadd q (fadd q 0 (fmul q (mm 3) (fm 2))) (fmul q (mm 4) (fm 5))))), (3, .int (nI 2)), (2, .int (nI 1)), (0, .ref (bd 0)), (1, .ref (ed 0))]) hx hb dX2_goBehind_66 hl (k := 1) rfl (nI_inc 1) (by decide) rfl (fun ls hl => ?_)
  refine lv_goto (tgt := 20) hx hb dX2_goBehind_69 (by decide) ?_
  refine lv_iload hx hb dX2_goBehind_20 (lv_at hl 0 rfl) ?_
  refine lv_iconst (v := nI 3) hx hb dX2_goBehind_22 (by decide) ?_
  refine nv_icmp_ge (tgt := 72) hx hb (by decide) (by decide) dX2_goBehind_23 (by decide) (fun c23 => absurd c23 (by omega)) (fun c23 => ?_)
  refine lv_aload_n hx hb dX2_goBehind_26 rfl (lv_at hl 4 rfl) ?_
  refine va_get (D := D) (ci := 2) (v := .ref (ad 0)) (C := RX2) (T := TX2) (N := 5) hx hb hts hiX2 hown hK hP 8 rfl rfl 1 (by decide) hf32 (fun _ h9 => h9) rfl dX2_goBehind_27 ?_
  refine lv_iload hx hb dX2_goBehind_30 (lv_at hl 1 rfl) ?_
  refine lv_aload_n hx hb dX2_goBehind_32 rfl (lv_at hl 4 rfl) ?_
  refine va_get (D := D) (ci := 2) (v := .ref (ad 0)) (C := RX2) (T := TX2) (N := 5) hx hb hts hiX2 hown hK hP 8 rfl rfl 1 (by decide) hf32 (fun _ h9 => h9) rfl dX2_goBehind_33 ?_
  refine lv_aload_n hx hb dX2_goBehind_36 rfl (lv_at hl 4 rfl) ?_
  refine va_get (D := D) (ci := 2) (v := .ref (bd 1)) (C := RX2) (T := TX2) (N := 5) hx hb hts hiX2 hown hK hP 8 rfl rfl 2 (by decide) hf9 (fun _ h9 => h9) rfl dX2_goBehind_37 ?_
  refine lv_iconst (v := nI 3) hx hb dX2_goBehind_40 (by decide) ?_
  refine lv_iload_n hx hb dX2_goBehind_41 rfl (lv_at hl 3 rfl) ?_
  refine nv_mulE (r := 3) hx hb rfl dX2_goBehind_42 ?_
  refine lv_iload hx hb dX2_goBehind_43 (lv_at hl 0 rfl) ?_
  refine nv_addE (r := 5) hx hb rfl dX2_goBehind_45 ?_
  refine nv_iald hx hb hK hP 9 0 rfl rfl (by omega) (by decide) dX2_goBehind_46 ?_
  refine lv_aload_n hx hb dX2_goBehind_47 rfl (lv_at hl 5 rfl) ?_
  refine va_get (D := D) (ci := 2) (v := .ref (ed 1)) (C := RX2) (T := TX2) (N := 5) hx hb hts hiX2 hown hK hP 12 rfl rfl 2 (by decide) hf9 (fun _ h9 => h9) rfl dX2_goBehind_48 ?_
  refine lv_iconst (v := nI 3) hx hb dX2_goBehind_51 (by decide) ?_
  refine lv_iload hx hb dX2_goBehind_52 (lv_at hl 0 rfl) ?_
  refine nv_mulE (r := 6) hx hb rfl dX2_goBehind_54 ?_
  refine lv_iload_n hx hb dX2_goBehind_55 rfl (lv_at hl 2 rfl) ?_
  refine nv_addE (r := 8) hx hb rfl dX2_goBehind_56 ?_
  refine nv_iald hx hb hK hP 13 0 rfl rfl (by omega) (by decide) dX2_goBehind_57 ?_
  refine ctR_V (As := [.int (nI (mm 5)), .int (nI (fm 8))]) (rest := [.int (nI (fadd q (fadd q 0 (fmul q (mm 3) (fm 2))) (fmul q (mm 4) (fm 5)))), .ref (ad 0)]) (r := .int (nI (fmul q (mm 5) (fm 8)))) ⟨hx, hb, hml, hown, hts⟩ (c_X1_times l D cI cZ ad q sm pr op iv hF (mm 5) (fm 8) (by omega) (by omega)) (cwV 2 hts gX2_goBehind_X1_times rfl rfl rfl hdV_X1_times ⟨Nat.le_of_ble_eq_true rfl, Nat.le_of_ble_eq_true rfl⟩) hK hN hP [0, 1, 2, 3, 4] rfl 0 1 rfl rfl rfl hl.1 rfl (Nat.le_of_ble_eq_true rfl) ⟨Nat.zero_le _, Nat.zero_le _⟩ dX2_goBehind_58 ?_
  have hh_35 : fmul q (mm 5) (fm 8) < q := fmul_lt hF.1 (by omega) (by omega)
  refine ctR_V (As := [.int (nI (fadd q (fadd q 0 (fmul q (mm 3) (fm 2))) (fmul q (mm 4) (fm 5)))), .int (nI (fmul q (mm 5) (fm 8)))]) (rest := []) (r := .int (nI (fadd q (fadd q (fadd q 0 (fmul q (mm 3) (fm 2))) (fmul q (mm 4) (fm 5))) (fmul q (mm 5) (fm 8))))) ⟨hx, hb, hml, hown, hts⟩ (c_X1_plus l D cI cZ ad q sm pr op iv hF (fadd q (fadd q 0 (fmul q (mm 3) (fm 2))) (fmul q (mm 4) (fm 5))) (fmul q (mm 5) (fm 8)) (by omega) (by omega)) (cwV 2 hts gX2_goBehind_X1_plus rfl rfl rfl hdV_X1_plus ⟨Nat.le_of_ble_eq_true rfl, Nat.le_of_ble_eq_true rfl⟩) hK hN hP [0, 1, 2, 3, 4] rfl 0 1 rfl rfl rfl hl.1 rfl (Nat.le_of_ble_eq_true rfl) ⟨Nat.zero_le _, Nat.zero_le _⟩ dX2_goBehind_61 ?_
  have hh_36 : fadd q (fadd q (fadd q 0 (fmul q (mm 3) (fm 2))) (fmul q (mm 4) (fm 5))) (fmul q (mm 5) (fm 8)) < q := fadd_lt hF.1 (by omega) (by omega)
  refine lv_istore (lv' := [(4, .int (nI (fadd q (fadd q (fadd q 0 (fmul q (mm 3) (fm 2))) (fmul q (mm 4) (fm 5))) (fmul q (mm 5) (fm 8))))), (5, .int (nI 2)), (3, .int (nI 2)), (2, .int (nI 1)), (0, .ref (bd 0)), (1, .ref (ed 0))]) hx hb dX2_goBehind_64 hl (by decide) rfl (fun ls hl => ?_)
  refine lv_iinc (v := nI 3) (lv' := [(5, .int (nI 3)), (4, .int (nI (fadd q (fadd q (fadd q 0 (fmul q (mm 3) (fm 2))) (fmul q (mm 4) (fm 5))) (fmul q (mm 5) (fm 8))))), (3, .int (nI 2)), (2, .int (nI 1)), (0, .ref (bd 0)), (1, .ref (ed 0))]) hx hb dX2_goBehind_66 hl (k := 1) rfl (nI_inc 2) (by decide) rfl (fun ls hl => ?_)
  refine lv_goto (tgt := 20) hx hb dX2_goBehind_69 (by decide) ?_
  refine lv_iload hx hb dX2_goBehind_20 (lv_at hl 0 rfl) ?_
  refine lv_iconst (v := nI 3) hx hb dX2_goBehind_22 (by decide) ?_
  refine nv_icmp_ge (tgt := 72) hx hb (by decide) (by decide) dX2_goBehind_23 (by decide) (fun c23 => ?_) (fun c23 => absurd c23 (by omega))
  refine lv_aload_n hx hb dX2_goBehind_72 rfl (lv_at hl 4 rfl) ?_
  refine va_get (D := D) (ci := 2) (v := .ref (bd 2)) (C := RX2) (T := TX2) (N := 5) hx hb hts hiX2 hown hK hP 8 rfl rfl 3 (by decide) hf15 (fun _ h9 => h9) rfl dX2_goBehind_73 ?_
  refine lv_iconst (v := nI 3) hx hb dX2_goBehind_76 (by decide) ?_
  refine lv_iload_n hx hb dX2_goBehind_77 rfl (lv_at hl 3 rfl) ?_
  refine nv_mulE (r := 3) hx hb rfl dX2_goBehind_78 ?_
  refine lv_iload_n hx hb dX2_goBehind_79 rfl (lv_at hl 2 rfl) ?_
  refine nv_addE (r := 5) hx hb rfl dX2_goBehind_80 ?_
  refine lv_iload hx hb dX2_goBehind_81 (lv_at hl 1 rfl) ?_
  refine nv_iast hx hb hK hP hD hS 10 0 rfl rfl (by omega) (by decide) dX2_goBehind_83 (fun H locs hP hD hS => ?_)
  have hP : va_P D vwCl [(ad 0, .inr (1, [.int (nI q), .ref (ad 1), .ref (ad 2), .ref (ad 3), .ref (ad 4)])), (ad 1, .inl (cI, 81, .inl (nF sm))), (ad 2, .inl (cI, 81, .inl (nF pr))), (ad 3, .inl (cI, 9, .inl (nF op))), (ad 4, .inl (cI, 9, .inl (nF iv))), (ad 5, .inr (3, [.ref (ad 0), .int (nI (nn q)), .ref (ad 6), .ref (ad 7)])), (ad 6, .inl (cI, 273, .inl (nF tr))), (ad 7, .inl (cI, 910, .inl (nF ro))), (bd 0, .inr (2, [.ref (ad 5), .ref (ad 0), .ref (bd 1), .ref (bd 2), .ref (bd 3)])), (bd 1, .inl (cI, 9, .inl (nF mm))), (bd 2, .inl (cI, 9, .inl (nF (upN (upN (upN (upN (upN (upN me 0 (fadd q (fadd q (fadd q 0 (fmul q (mm 0) (fm 0))) (fmul q (mm 1) (fm 3))) (fmul q (mm 2) (fm 6)))) 1 (fadd q (fadd q (fadd q 0 (fmul q (mm 0) (fm 1))) (fmul q (mm 1) (fm 4))) (fmul q (mm 2) (fm 7)))) 2 (fadd q (fadd q (fadd q 0 (fmul q (mm 0) (fm 2))) (fmul q (mm 1) (fm 5))) (fmul q (mm 2) (fm 8)))) 3 (fadd q (fadd q (fadd q 0 (fmul q (mm 3) (fm 0))) (fmul q (mm 4) (fm 3))) (fmul q (mm 5) (fm 6)))) 4 (fadd q (fadd q (fadd q 0 (fmul q (mm 3) (fm 1))) (fmul q (mm 4) (fm 4))) (fmul q (mm 5) (fm 7)))) 5 (fadd q (fadd q (fadd q 0 (fmul q (mm 3) (fm 2))) (fmul q (mm 4) (fm 5))) (fmul q (mm 5) (fm 8))))))), (bd 3, .inl (cZ, 91, .inl (bF rc))), (ed 0, .inr (2, [.ref (ad 5), .ref (ad 0), .ref (ed 1), .ref (ed 2), .ref (ed 3)])), (ed 1, .inl (cI, 9, .inl (nF fm)))] H := hP
  have hD : va_D A [(ad 0, .inr (1, [.int (nI q), .ref (ad 1), .ref (ad 2), .ref (ad 3), .ref (ad 4)])), (ad 1, .inl (cI, 81, .inl (nF sm))), (ad 2, .inl (cI, 81, .inl (nF pr))), (ad 3, .inl (cI, 9, .inl (nF op))), (ad 4, .inl (cI, 9, .inl (nF iv))), (ad 5, .inr (3, [.ref (ad 0), .int (nI (nn q)), .ref (ad 6), .ref (ad 7)])), (ad 6, .inl (cI, 273, .inl (nF tr))), (ad 7, .inl (cI, 910, .inl (nF ro))), (bd 0, .inr (2, [.ref (ad 5), .ref (ad 0), .ref (bd 1), .ref (bd 2), .ref (bd 3)])), (bd 1, .inl (cI, 9, .inl (nF mm))), (bd 2, .inl (cI, 9, .inl (nF (upN (upN (upN (upN (upN (upN me 0 (fadd q (fadd q (fadd q 0 (fmul q (mm 0) (fm 0))) (fmul q (mm 1) (fm 3))) (fmul q (mm 2) (fm 6)))) 1 (fadd q (fadd q (fadd q 0 (fmul q (mm 0) (fm 1))) (fmul q (mm 1) (fm 4))) (fmul q (mm 2) (fm 7)))) 2 (fadd q (fadd q (fadd q 0 (fmul q (mm 0) (fm 2))) (fmul q (mm 1) (fm 5))) (fmul q (mm 2) (fm 8)))) 3 (fadd q (fadd q (fadd q 0 (fmul q (mm 3) (fm 0))) (fmul q (mm 4) (fm 3))) (fmul q (mm 5) (fm 6)))) 4 (fadd q (fadd q (fadd q 0 (fmul q (mm 3) (fm 1))) (fmul q (mm 4) (fm 4))) (fmul q (mm 5) (fm 7)))) 5 (fadd q (fadd q (fadd q 0 (fmul q (mm 3) (fm 2))) (fmul q (mm 4) (fm 5))) (fmul q (mm 5) (fm 8))))))), (bd 3, .inl (cZ, 91, .inl (bF rc))), (ed 0, .inr (2, [.ref (ad 5), .ref (ad 0), .ref (ed 1), .ref (ed 2), .ref (ed 3)])), (ed 1, .inl (cI, 9, .inl (nF fm)))] := hD
  refine lv_iinc (v := nI 3) (lv' := [(3, .int (nI 3)), (5, .int (nI 3)), (4, .int (nI (fadd q (fadd q (fadd q 0 (fmul q (mm 3) (fm 2))) (fmul q (mm 4) (fm 5))) (fmul q (mm 5) (fm 8))))), (2, .int (nI 1)), (0, .ref (bd 0)), (1, .ref (ed 0))]) hx hb dX2_goBehind_84 hl (k := 2) rfl (nI_inc 2) (by decide) rfl (fun ls hl => ?_)
  refine lv_goto (tgt := 9) hx hb dX2_goBehind_87 (by decide) ?_
  refine lv_iload_n hx hb dX2_goBehind_9 rfl (lv_at hl 0 rfl) ?_
  refine lv_iconst (v := nI 3) hx hb dX2_goBehind_10 (by decide) ?_
  refine nv_icmp_ge (tgt := 90) hx hb (by decide) (by decide) dX2_goBehind_11 (by decide) (fun c11 => ?_) (fun c11 => absurd c11 (by omega))
  refine lv_iinc (v := nI 2) (lv' := [(2, .int (nI 2)), (3, .int (nI 3)), (5, .int (nI 3)), (4, .int (nI (fadd q (fadd q (fadd q 0 (fmul q (mm 3) (fm 2))) (fmul q (mm 4) (fm 5))) (fmul q (mm 5) (fm 8))))), (0, .ref (bd 0)), (1, .ref (ed 0))]) hx hb dX2_goBehind_90 hl (k := 3) rfl (nI_inc 1) (by decide) rfl (fun ls hl => ?_)
  refine lv_goto (tgt := 2) hx hb dX2_goBehind_93 (by decide) ?_
  have w0 := k_m 0 (by omega)
  have w1 := k_m 1 (by omega)
  have w2 := k_m 2 (by omega)
  have w3 := k_m 3 (by omega)
  have w4 := k_m 4 (by omega)
  have w5 := k_m 5 (by omega)
  have w6 := k_m 6 (by omega)
  have w7 := k_m 7 (by omega)
  have w8 := k_m 8 (by omega)
  have y0 := k_f 0 (by omega)
  have y1 := k_f 1 (by omega)
  have y2 := k_f 2 (by omega)
  have y3 := k_f 3 (by omega)
  have y4 := k_f 4 (by omega)
  have y5 := k_f 5 (by omega)
  have y6 := k_f 6 (by omega)
  have y7 := k_f 7 (by omega)
  have y8 := k_f 8 (by omega)
  refine lv_iload_n hx hb dX2_goBehind_2 rfl (lv_at hl 0 rfl) ?_
  refine lv_iconst (v := nI 3) hx hb dX2_goBehind_3 (by decide) ?_
  refine nv_icmp_ge (tgt := 96) hx hb (by decide) (by decide) dX2_goBehind_4 (by decide) (fun c4 => absurd c4 (by omega)) (fun c4 => ?_)
  refine lv_iconst (v := nI 0) hx hb dX2_goBehind_7 (by decide) ?_
  refine lv_istore_n (lv' := [(3, .int (nI 0)), (2, .int (nI 2)), (5, .int (nI 3)), (4, .int (nI (fadd q (fadd q (fadd q 0 (fmul q (mm 3) (fm 2))) (fmul q (mm 4) (fm 5))) (fmul q (mm 5) (fm 8))))), (0, .ref (bd 0)), (1, .ref (ed 0))]) hx hb dX2_goBehind_8 rfl hl (by decide) rfl (fun ls hl => ?_)
  refine lv_iload_n hx hb dX2_goBehind_9 rfl (lv_at hl 0 rfl) ?_
  refine lv_iconst (v := nI 3) hx hb dX2_goBehind_10 (by decide) ?_
  refine nv_icmp_ge (tgt := 90) hx hb (by decide) (by decide) dX2_goBehind_11 (by decide) (fun c11 => absurd c11 (by omega)) (fun c11 => ?_)
  refine lv_iconst (v := nI 0) hx hb dX2_goBehind_14 (by decide) ?_
  refine lv_istore (lv' := [(4, .int (nI 0)), (3, .int (nI 0)), (2, .int (nI 2)), (5, .int (nI 3)), (0, .ref (bd 0)), (1, .ref (ed 0))]) hx hb dX2_goBehind_15 hl (by decide) rfl (fun ls hl => ?_)
  refine lv_iconst (v := nI 0) hx hb dX2_goBehind_17 (by decide) ?_
  refine lv_istore (lv' := [(5, .int (nI 0)), (4, .int (nI 0)), (3, .int (nI 0)), (2, .int (nI 2)), (0, .ref (bd 0)), (1, .ref (ed 0))]) hx hb dX2_goBehind_18 hl (by decide) rfl (fun ls hl => ?_)
  refine lv_iload hx hb dX2_goBehind_20 (lv_at hl 0 rfl) ?_
  refine lv_iconst (v := nI 3) hx hb dX2_goBehind_22 (by decide) ?_
  refine nv_icmp_ge (tgt := 72) hx hb (by decide) (by decide) dX2_goBehind_23 (by decide) (fun c23 => absurd c23 (by omega)) (fun c23 => ?_)
  refine lv_aload_n hx hb dX2_goBehind_26 rfl (lv_at hl 4 rfl) ?_
  refine va_get (D := D) (ci := 2) (v := .ref (ad 0)) (C := RX2) (T := TX2) (N := 5) hx hb hts hiX2 hown hK hP 8 rfl rfl 1 (by decide) hf32 (fun _ h9 => h9) rfl dX2_goBehind_27 ?_
  refine lv_iload hx hb dX2_goBehind_30 (lv_at hl 1 rfl) ?_
  refine lv_aload_n hx hb dX2_goBehind_32 rfl (lv_at hl 4 rfl) ?_
  refine va_get (D := D) (ci := 2) (v := .ref (ad 0)) (C := RX2) (T := TX2) (N := 5) hx hb hts hiX2 hown hK hP 8 rfl rfl 1 (by decide) hf32 (fun _ h9 => h9) rfl dX2_goBehind_33 ?_
  refine lv_aload_n hx hb dX2_goBehind_36 rfl (lv_at hl 4 rfl) ?_
  refine va_get (D := D) (ci := 2) (v := .ref (bd 1)) (C := RX2) (T := TX2) (N := 5) hx hb hts hiX2 hown hK hP 8 rfl rfl 2 (by decide) hf9 (fun _ h9 => h9) rfl dX2_goBehind_37 ?_
  refine lv_iconst (v := nI 3) hx hb dX2_goBehind_40 (by decide) ?_
  refine lv_iload_n hx hb dX2_goBehind_41 rfl (lv_at hl 3 rfl) ?_
  refine nv_mulE (r := 6) hx hb rfl dX2_goBehind_42 ?_
  refine lv_iload hx hb dX2_goBehind_43 (lv_at hl 0 rfl) ?_
  refine nv_addE (r := 6) hx hb rfl dX2_goBehind_45 ?_
  refine nv_iald hx hb hK hP 9 0 rfl rfl (by omega) (by decide) dX2_goBehind_46 ?_
  refine lv_aload_n hx hb dX2_goBehind_47 rfl (lv_at hl 5 rfl) ?_
  refine va_get (D := D) (ci := 2) (v := .ref (ed 1)) (C := RX2) (T := TX2) (N := 5) hx hb hts hiX2 hown hK hP 12 rfl rfl 2 (by decide) hf9 (fun _ h9 => h9) rfl dX2_goBehind_48 ?_
  refine lv_iconst (v := nI 3) hx hb dX2_goBehind_51 (by decide) ?_
  refine lv_iload hx hb dX2_goBehind_52 (lv_at hl 0 rfl) ?_
  refine nv_mulE (r := 0) hx hb rfl dX2_goBehind_54 ?_
  refine lv_iload_n hx hb dX2_goBehind_55 rfl (lv_at hl 2 rfl) ?_
  refine nv_addE (r := 0) hx hb rfl dX2_goBehind_56 ?_
  refine nv_iald hx hb hK hP 13 0 rfl rfl (by omega) (by decide) dX2_goBehind_57 ?_
  refine ctR_V (As := [.int (nI (mm 6)), .int (nI (fm 0))]) (rest := [.int (nI 0), .ref (ad 0)]) (r := .int (nI (fmul q (mm 6) (fm 0)))) ⟨hx, hb, hml, hown, hts⟩ (c_X1_times l D cI cZ ad q sm pr op iv hF (mm 6) (fm 0) (by omega) (by omega)) (cwV 2 hts gX2_goBehind_X1_times rfl rfl rfl hdV_X1_times ⟨Nat.le_of_ble_eq_true rfl, Nat.le_of_ble_eq_true rfl⟩) hK hN hP [0, 1, 2, 3, 4] rfl 0 1 rfl rfl rfl hl.1 rfl (Nat.le_of_ble_eq_true rfl) ⟨Nat.zero_le _, Nat.zero_le _⟩ dX2_goBehind_58 ?_
  have hh_37 : fmul q (mm 6) (fm 0) < q := fmul_lt hF.1 (by omega) (by omega)
  refine ctR_V (As := [.int (nI 0), .int (nI (fmul q (mm 6) (fm 0)))]) (rest := []) (r := .int (nI (fadd q 0 (fmul q (mm 6) (fm 0))))) ⟨hx, hb, hml, hown, hts⟩ (c_X1_plus l D cI cZ ad q sm pr op iv hF 0 (fmul q (mm 6) (fm 0)) (by omega) (by omega)) (cwV 2 hts gX2_goBehind_X1_plus rfl rfl rfl hdV_X1_plus ⟨Nat.le_of_ble_eq_true rfl, Nat.le_of_ble_eq_true rfl⟩) hK hN hP [0, 1, 2, 3, 4] rfl 0 1 rfl rfl rfl hl.1 rfl (Nat.le_of_ble_eq_true rfl) ⟨Nat.zero_le _, Nat.zero_le _⟩ dX2_goBehind_61 ?_
  have hh_38 : fadd q 0 (fmul q (mm 6) (fm 0)) < q := fadd_lt hF.1 (by omega) (by omega)
  refine lv_istore (lv' := [(4, .int (nI (fadd q 0 (fmul q (mm 6) (fm 0))))), (5, .int (nI 0)), (3, .int (nI 0)), (2, .int (nI 2)), (0, .ref (bd 0)), (1, .ref (ed 0))]) hx hb dX2_goBehind_64 hl (by decide) rfl (fun ls hl => ?_)
  refine lv_iinc (v := nI 1) (lv' := [(5, .int (nI 1)), (4, .int (nI (fadd q 0 (fmul q (mm 6) (fm 0))))), (3, .int (nI 0)), (2, .int (nI 2)), (0, .ref (bd 0)), (1, .ref (ed 0))]) hx hb dX2_goBehind_66 hl (k := 1) rfl (nI_inc 0) (by decide) rfl (fun ls hl => ?_)
  refine lv_goto (tgt := 20) hx hb dX2_goBehind_69 (by decide) ?_
  refine lv_iload hx hb dX2_goBehind_20 (lv_at hl 0 rfl) ?_
  refine lv_iconst (v := nI 3) hx hb dX2_goBehind_22 (by decide) ?_
  refine nv_icmp_ge (tgt := 72) hx hb (by decide) (by decide) dX2_goBehind_23 (by decide) (fun c23 => absurd c23 (by omega)) (fun c23 => ?_)
  refine lv_aload_n hx hb dX2_goBehind_26 rfl (lv_at hl 4 rfl) ?_
  refine va_get (D := D) (ci := 2) (v := .ref (ad 0)) (C := RX2) (T := TX2) (N := 5) hx hb hts hiX2 hown hK hP 8 rfl rfl 1 (by decide) hf32 (fun _ h9 => h9) rfl dX2_goBehind_27 ?_
  refine lv_iload hx hb dX2_goBehind_30 (lv_at hl 1 rfl) ?_
  refine lv_aload_n hx hb dX2_goBehind_32 rfl (lv_at hl 4 rfl) ?_
  refine va_get (D := D) (ci := 2) (v := .ref (ad 0)) (C := RX2) (T := TX2) (N := 5) hx hb hts hiX2 hown hK hP 8 rfl rfl 1 (by decide) hf32 (fun _ h9 => h9) rfl dX2_goBehind_33 ?_
  refine lv_aload_n hx hb dX2_goBehind_36 rfl (lv_at hl 4 rfl) ?_
  refine va_get (D := D) (ci := 2) (v := .ref (bd 1)) (C := RX2) (T := TX2) (N := 5) hx hb hts hiX2 hown hK hP 8 rfl rfl 2 (by decide) hf9 (fun _ h9 => h9) rfl dX2_goBehind_37 ?_
  refine lv_iconst (v := nI 3) hx hb dX2_goBehind_40 (by decide) ?_
  refine lv_iload_n hx hb dX2_goBehind_41 rfl (lv_at hl 3 rfl) ?_
  refine nv_mulE (r := 6) hx hb rfl dX2_goBehind_42 ?_
  refine lv_iload hx hb dX2_goBehind_43 (lv_at hl 0 rfl) ?_
  refine nv_addE (r := 7) hx hb rfl dX2_goBehind_45 ?_
  refine nv_iald hx hb hK hP 9 0 rfl rfl (by omega) (by decide) dX2_goBehind_46 ?_
  refine lv_aload_n hx hb dX2_goBehind_47 rfl (lv_at hl 5 rfl) ?_
  refine va_get (D := D) (ci := 2) (v := .ref (ed 1)) (C := RX2) (T := TX2) (N := 5) hx hb hts hiX2 hown hK hP 12 rfl rfl 2 (by decide) hf9 (fun _ h9 => h9) rfl dX2_goBehind_48 ?_
  refine lv_iconst (v := nI 3) hx hb dX2_goBehind_51 (by decide) ?_
  refine lv_iload hx hb dX2_goBehind_52 (lv_at hl 0 rfl) ?_
  refine nv_mulE (r := 3) hx hb rfl dX2_goBehind_54 ?_
  refine lv_iload_n hx hb dX2_goBehind_55 rfl (lv_at hl 2 rfl) ?_
  refine nv_addE (r := 3) hx hb rfl dX2_goBehind_56 ?_
  refine nv_iald hx hb hK hP 13 0 rfl rfl (by omega) (by decide) dX2_goBehind_57 ?_
  refine ctR_V (As := [.int (nI (mm 7)), .int (nI (fm 3))]) (rest := [.int (nI (fadd q 0 (fmul q (mm 6) (fm 0)))), .ref (ad 0)]) (r := .int (nI (fmul q (mm 7) (fm 3)))) ⟨hx, hb, hml, hown, hts⟩ (c_X1_times l D cI cZ ad q sm pr op iv hF (mm 7) (fm 3) (by omega) (by omega)) (cwV 2 hts gX2_goBehind_X1_times rfl rfl rfl hdV_X1_times ⟨Nat.le_of_ble_eq_true rfl, Nat.le_of_ble_eq_true rfl⟩) hK hN hP [0, 1, 2, 3, 4] rfl 0 1 rfl rfl rfl hl.1 rfl (Nat.le_of_ble_eq_true rfl) ⟨Nat.zero_le _, Nat.zero_le _⟩ dX2_goBehind_58 ?_
  have hh_39 : fmul q (mm 7) (fm 3) < q := fmul_lt hF.1 (by omega) (by omega)
  refine ctR_V (As := [.int (nI (fadd q 0 (fmul q (mm 6) (fm 0)))), .int (nI (fmul q (mm 7) (fm 3)))]) (rest := []) (r := .int (nI (fadd q (fadd q 0 (fmul q (mm 6) (fm 0))) (fmul q (mm 7) (fm 3))))) ⟨hx, hb, hml, hown, hts⟩ (c_X1_plus l D cI cZ ad q sm pr op iv hF (fadd q 0 (fmul q (mm 6) (fm 0))) (fmul q (mm 7) (fm 3)) (by omega) (by omega)) (cwV 2 hts gX2_goBehind_X1_plus rfl rfl rfl hdV_X1_plus ⟨Nat.le_of_ble_eq_true rfl, Nat.le_of_ble_eq_true rfl⟩) hK hN hP [0, 1, 2, 3, 4] rfl 0 1 rfl rfl rfl hl.1 rfl (Nat.le_of_ble_eq_true rfl) ⟨Nat.zero_le _, Nat.zero_le _⟩ dX2_goBehind_61 ?_
  have hh_40 : fadd q (fadd q 0 (fmul q (mm 6) (fm 0))) (fmul q (mm 7) (fm 3)) < q := fadd_lt hF.1 (by omega) (by omega)
  refine lv_istore (lv' := [(4, .int (nI (fadd q (fadd q 0 (fmul q (mm 6) (fm 0))) (fmul q (mm 7) (fm 3))))), (5, .int (nI 1)), (3, .int (nI 0)), (2, .int (nI 2)), (0, .ref (bd 0)), (1, .ref (ed 0))]) hx hb dX2_goBehind_64 hl (by decide) rfl (fun ls hl => ?_)
  refine lv_iinc (v := nI 2) (lv' := [(5, .int (nI 2)), (4, .int (nI (fadd q (fadd q 0 (fmul q (mm 6) (fm 0))) (fmul q (mm 7) (fm 3))))), (3, .int (nI 0)), (2, .int (nI 2)), (0, .ref (bd 0)), (1, .ref (ed 0))]) hx hb dX2_goBehind_66 hl (k := 1) rfl (nI_inc 1) (by decide) rfl (fun ls hl => ?_)
  refine lv_goto (tgt := 20) hx hb dX2_goBehind_69 (by decide) ?_
  refine lv_iload hx hb dX2_goBehind_20 (lv_at hl 0 rfl) ?_
  refine lv_iconst (v := nI 3) hx hb dX2_goBehind_22 (by decide) ?_
  refine nv_icmp_ge (tgt := 72) hx hb (by decide) (by decide) dX2_goBehind_23 (by decide) (fun c23 => absurd c23 (by omega)) (fun c23 => ?_)
  refine lv_aload_n hx hb dX2_goBehind_26 rfl (lv_at hl 4 rfl) ?_
  refine va_get (D := D) (ci := 2) (v := .ref (ad 0)) (C := RX2) (T := TX2) (N := 5) hx hb hts hiX2 hown hK hP 8 rfl rfl 1 (by decide) hf32 (fun _ h9 => h9) rfl dX2_goBehind_27 ?_
  refine lv_iload hx hb dX2_goBehind_30 (lv_at hl 1 rfl) ?_
  refine lv_aload_n hx hb dX2_goBehind_32 rfl (lv_at hl 4 rfl) ?_
  refine va_get (D := D) (ci := 2) (v := .ref (ad 0)) (C := RX2) (T := TX2) (N := 5) hx hb hts hiX2 hown hK hP 8 rfl rfl 1 (by decide) hf32 (fun _ h9 => h9) rfl dX2_goBehind_33 ?_
  refine lv_aload_n hx hb dX2_goBehind_36 rfl (lv_at hl 4 rfl) ?_
  refine va_get (D := D) (ci := 2) (v := .ref (bd 1)) (C := RX2) (T := TX2) (N := 5) hx hb hts hiX2 hown hK hP 8 rfl rfl 2 (by decide) hf9 (fun _ h9 => h9) rfl dX2_goBehind_37 ?_
  refine lv_iconst (v := nI 3) hx hb dX2_goBehind_40 (by decide) ?_
  refine lv_iload_n hx hb dX2_goBehind_41 rfl (lv_at hl 3 rfl) ?_
  refine nv_mulE (r := 6) hx hb rfl dX2_goBehind_42 ?_
  refine lv_iload hx hb dX2_goBehind_43 (lv_at hl 0 rfl) ?_
  refine nv_addE (r := 8) hx hb rfl dX2_goBehind_45 ?_
  refine nv_iald hx hb hK hP 9 0 rfl rfl (by omega) (by decide) dX2_goBehind_46 ?_
  refine lv_aload_n hx hb dX2_goBehind_47 rfl (lv_at hl 5 rfl) ?_
  refine va_get (D := D) (ci := 2) (v := .ref (ed 1)) (C := RX2) (T := TX2) (N := 5) hx hb hts hiX2 hown hK hP 12 rfl rfl 2 (by decide) hf9 (fun _ h9 => h9) rfl dX2_goBehind_48 ?_
  refine lv_iconst (v := nI 3) hx hb dX2_goBehind_51 (by decide) ?_
  refine lv_iload hx hb dX2_goBehind_52 (lv_at hl 0 rfl) ?_
  refine nv_mulE (r := 6) hx hb rfl dX2_goBehind_54 ?_
  refine lv_iload_n hx hb dX2_goBehind_55 rfl (lv_at hl 2 rfl) ?_
  refine nv_addE (r := 6) hx hb rfl dX2_goBehind_56 ?_
  refine nv_iald hx hb hK hP 13 0 rfl rfl (by omega) (by decide) dX2_goBehind_57 ?_
  refine ctR_V (As := [.int (nI (mm 8)), .int (nI (fm 6))]) (rest := [.int (nI (fadd q (fadd q 0 (fmul q (mm 6) (fm 0))) (fmul q (mm 7) (fm 3)))), .ref (ad 0)]) (r := .int (nI (fmul q (mm 8) (fm 6)))) ⟨hx, hb, hml, hown, hts⟩ (c_X1_times l D cI cZ ad q sm pr op iv hF (mm 8) (fm 6) (by omega) (by omega)) (cwV 2 hts gX2_goBehind_X1_times rfl rfl rfl hdV_X1_times ⟨Nat.le_of_ble_eq_true rfl, Nat.le_of_ble_eq_true rfl⟩) hK hN hP [0, 1, 2, 3, 4] rfl 0 1 rfl rfl rfl hl.1 rfl (Nat.le_of_ble_eq_true rfl) ⟨Nat.zero_le _, Nat.zero_le _⟩ dX2_goBehind_58 ?_
  have hh_41 : fmul q (mm 8) (fm 6) < q := fmul_lt hF.1 (by omega) (by omega)
  refine ctR_V (As := [.int (nI (fadd q (fadd q 0 (fmul q (mm 6) (fm 0))) (fmul q (mm 7) (fm 3)))), .int (nI (fmul q (mm 8) (fm 6)))]) (rest := []) (r := .int (nI (fadd q (fadd q (fadd q 0 (fmul q (mm 6) (fm 0))) (fmul q (mm 7) (fm 3))) (fmul q (mm 8) (fm 6))))) ⟨hx, hb, hml, hown, hts⟩ (c_X1_plus l D cI cZ ad q sm pr op iv hF (fadd q (fadd q 0 (fmul q (mm 6) (fm 0))) (fmul q (mm 7) (fm 3))) (fmul q (mm 8) (fm 6)) (by omega) (by omega)) (cwV 2 hts gX2_goBehind_X1_plus rfl rfl rfl hdV_X1_plus ⟨Nat.le_of_ble_eq_true rfl, Nat.le_of_ble_eq_true rfl⟩) hK hN hP [0, 1, 2, 3, 4] rfl 0 1 rfl rfl rfl hl.1 rfl (Nat.le_of_ble_eq_true rfl) ⟨Nat.zero_le _, Nat.zero_le _⟩ dX2_goBehind_61 ?_
  have hh_42 : fadd q (fadd q (fadd q 0 (fmul q (mm 6) (fm 0))) (fmul q (mm 7) (fm 3))) (fmul q (mm 8) (fm 6)) < q := fadd_lt hF.1 (by omega) (by omega)
  refine lv_istore (lv' := [(4, .int (nI (fadd q (fadd q (fadd q 0 (fmul q (mm 6) (fm 0))) (fmul q (mm 7) (fm 3))) (fmul q (mm 8) (fm 6))))), (5, .int (nI 2)), (3, .int (nI 0)), (2, .int (nI 2)), (0, .ref (bd 0)), (1, .ref (ed 0))]) hx hb dX2_goBehind_64 hl (by decide) rfl (fun ls hl => ?_)
  refine lv_iinc (v := nI 3) (lv' := [(5, .int (nI 3)), (4, .int (nI (fadd q (fadd q (fadd q 0 (fmul q (mm 6) (fm 0))) (fmul q (mm 7) (fm 3))) (fmul q (mm 8) (fm 6))))), (3, .int (nI 0)), (2, .int (nI 2)), (0, .ref (bd 0)), (1, .ref (ed 0))]) hx hb dX2_goBehind_66 hl (k := 1) rfl (nI_inc 2) (by decide) rfl (fun ls hl => ?_)
  refine lv_goto (tgt := 20) hx hb dX2_goBehind_69 (by decide) ?_
  refine lv_iload hx hb dX2_goBehind_20 (lv_at hl 0 rfl) ?_
  refine lv_iconst (v := nI 3) hx hb dX2_goBehind_22 (by decide) ?_
  refine nv_icmp_ge (tgt := 72) hx hb (by decide) (by decide) dX2_goBehind_23 (by decide) (fun c23 => ?_) (fun c23 => absurd c23 (by omega))
  refine lv_aload_n hx hb dX2_goBehind_72 rfl (lv_at hl 4 rfl) ?_
  refine va_get (D := D) (ci := 2) (v := .ref (bd 2)) (C := RX2) (T := TX2) (N := 5) hx hb hts hiX2 hown hK hP 8 rfl rfl 3 (by decide) hf15 (fun _ h9 => h9) rfl dX2_goBehind_73 ?_
  refine lv_iconst (v := nI 3) hx hb dX2_goBehind_76 (by decide) ?_
  refine lv_iload_n hx hb dX2_goBehind_77 rfl (lv_at hl 3 rfl) ?_
  refine nv_mulE (r := 6) hx hb rfl dX2_goBehind_78 ?_
  refine lv_iload_n hx hb dX2_goBehind_79 rfl (lv_at hl 2 rfl) ?_
  refine nv_addE (r := 6) hx hb rfl dX2_goBehind_80 ?_
  refine lv_iload hx hb dX2_goBehind_81 (lv_at hl 1 rfl) ?_
  refine nv_iast hx hb hK hP hD hS 10 0 rfl rfl (by omega) (by decide) dX2_goBehind_83 (fun H locs hP hD hS => ?_)
  have hP : va_P D vwCl [(ad 0, .inr (1, [.int (nI q), .ref (ad 1), .ref (ad 2), .ref (ad 3), .ref (ad 4)])), (ad 1, .inl (cI, 81, .inl (nF sm))), (ad 2, .inl (cI, 81, .inl (nF pr))), (ad 3, .inl (cI, 9, .inl (nF op))), (ad 4, .inl (cI, 9, .inl (nF iv))), (ad 5, .inr (3, [.ref (ad 0), .int (nI (nn q)), .ref (ad 6), .ref (ad 7)])), (ad 6, .inl (cI, 273, .inl (nF tr))), (ad 7, .inl (cI, 910, .inl (nF ro))), (bd 0, .inr (2, [.ref (ad 5), .ref (ad 0), .ref (bd 1), .ref (bd 2), .ref (bd 3)])), (bd 1, .inl (cI, 9, .inl (nF mm))), (bd 2, .inl (cI, 9, .inl (nF (upN (upN (upN (upN (upN (upN (upN me 0 (fadd q (fadd q (fadd q 0 (fmul q (mm 0) (fm 0))) (fmul q (mm 1) (fm 3))) (fmul q (mm 2) (fm 6)))) 1 (fadd q (fadd q (fadd q 0 (fmul q (mm 0) (fm 1))) (fmul q (mm 1) (fm 4))) (fmul q (mm 2) (fm 7)))) 2 (fadd q (fadd q (fadd q 0 (fmul q (mm 0) (fm 2))) (fmul q (mm 1) (fm 5))) (fmul q (mm 2) (fm 8)))) 3 (fadd q (fadd q (fadd q 0 (fmul q (mm 3) (fm 0))) (fmul q (mm 4) (fm 3))) (fmul q (mm 5) (fm 6)))) 4 (fadd q (fadd q (fadd q 0 (fmul q (mm 3) (fm 1))) (fmul q (mm 4) (fm 4))) (fmul q (mm 5) (fm 7)))) 5 (fadd q (fadd q (fadd q 0 (fmul q (mm 3) (fm 2))) (fmul q (mm 4) (fm 5))) (fmul q (mm 5) (fm 8)))) 6 (fadd q (fadd q (fadd q 0 (fmul q (mm 6) (fm 0))) (fmul q (mm 7) (fm 3))) (fmul q (mm 8) (fm 6))))))), (bd 3, .inl (cZ, 91, .inl (bF rc))), (ed 0, .inr (2, [.ref (ad 5), .ref (ad 0), .ref (ed 1), .ref (ed 2), .ref (ed 3)])), (ed 1, .inl (cI, 9, .inl (nF fm)))] H := hP
  have hD : va_D A [(ad 0, .inr (1, [.int (nI q), .ref (ad 1), .ref (ad 2), .ref (ad 3), .ref (ad 4)])), (ad 1, .inl (cI, 81, .inl (nF sm))), (ad 2, .inl (cI, 81, .inl (nF pr))), (ad 3, .inl (cI, 9, .inl (nF op))), (ad 4, .inl (cI, 9, .inl (nF iv))), (ad 5, .inr (3, [.ref (ad 0), .int (nI (nn q)), .ref (ad 6), .ref (ad 7)])), (ad 6, .inl (cI, 273, .inl (nF tr))), (ad 7, .inl (cI, 910, .inl (nF ro))), (bd 0, .inr (2, [.ref (ad 5), .ref (ad 0), .ref (bd 1), .ref (bd 2), .ref (bd 3)])), (bd 1, .inl (cI, 9, .inl (nF mm))), (bd 2, .inl (cI, 9, .inl (nF (upN (upN (upN (upN (upN (upN (upN me 0 (fadd q (fadd q (fadd q 0 (fmul q (mm 0) (fm 0))) (fmul q (mm 1) (fm 3))) (fmul q (mm 2) (fm 6)))) 1 (fadd q (fadd q (fadd q 0 (fmul q (mm 0) (fm 1))) (fmul q (mm 1) (fm 4))) (fmul q (mm 2) (fm 7)))) 2 (fadd q (fadd q (fadd q 0 (fmul q (mm 0) (fm 2))) (fmul q (mm 1) (fm 5))) (fmul q (mm 2) (fm 8)))) 3 (fadd q (fadd q (fadd q 0 (fmul q (mm 3) (fm 0))) (fmul q (mm 4) (fm 3))) (fmul q (mm 5) (fm 6)))) 4 (fadd q (fadd q (fadd q 0 (fmul q (mm 3) (fm 1))) (fmul q (mm 4) (fm 4))) (fmul q (mm 5) (fm 7)))) 5 (fadd q (fadd q (fadd q 0 (fmul q (mm 3) (fm 2))) (fmul q (mm 4) (fm 5))) (fmul q (mm 5) (fm 8)))) 6 (fadd q (fadd q (fadd q 0 (fmul q (mm 6) (fm 0))) (fmul q (mm 7) (fm 3))) (fmul q (mm 8) (fm 6))))))), (bd 3, .inl (cZ, 91, .inl (bF rc))), (ed 0, .inr (2, [.ref (ad 5), .ref (ad 0), .ref (ed 1), .ref (ed 2), .ref (ed 3)])), (ed 1, .inl (cI, 9, .inl (nF fm)))] := hD
  refine lv_iinc (v := nI 1) (lv' := [(3, .int (nI 1)), (5, .int (nI 3)), (4, .int (nI (fadd q (fadd q (fadd q 0 (fmul q (mm 6) (fm 0))) (fmul q (mm 7) (fm 3))) (fmul q (mm 8) (fm 6))))), (2, .int (nI 2)), (0, .ref (bd 0)), (1, .ref (ed 0))]) hx hb dX2_goBehind_84 hl (k := 2) rfl (nI_inc 0) (by decide) rfl (fun ls hl => ?_)
  refine lv_goto (tgt := 9) hx hb dX2_goBehind_87 (by decide) ?_
  refine lv_iload_n hx hb dX2_goBehind_9 rfl (lv_at hl 0 rfl) ?_
  refine lv_iconst (v := nI 3) hx hb dX2_goBehind_10 (by decide) ?_
  refine nv_icmp_ge (tgt := 90) hx hb (by decide) (by decide) dX2_goBehind_11 (by decide) (fun c11 => absurd c11 (by omega)) (fun c11 => ?_)
  refine lv_iconst (v := nI 0) hx hb dX2_goBehind_14 (by decide) ?_
  refine lv_istore (lv' := [(4, .int (nI 0)), (3, .int (nI 1)), (5, .int (nI 3)), (2, .int (nI 2)), (0, .ref (bd 0)), (1, .ref (ed 0))]) hx hb dX2_goBehind_15 hl (by decide) rfl (fun ls hl => ?_)
  refine lv_iconst (v := nI 0) hx hb dX2_goBehind_17 (by decide) ?_
  refine lv_istore (lv' := [(5, .int (nI 0)), (4, .int (nI 0)), (3, .int (nI 1)), (2, .int (nI 2)), (0, .ref (bd 0)), (1, .ref (ed 0))]) hx hb dX2_goBehind_18 hl (by decide) rfl (fun ls hl => ?_)
  refine lv_iload hx hb dX2_goBehind_20 (lv_at hl 0 rfl) ?_
  refine lv_iconst (v := nI 3) hx hb dX2_goBehind_22 (by decide) ?_
  refine nv_icmp_ge (tgt := 72) hx hb (by decide) (by decide) dX2_goBehind_23 (by decide) (fun c23 => absurd c23 (by omega)) (fun c23 => ?_)
  refine lv_aload_n hx hb dX2_goBehind_26 rfl (lv_at hl 4 rfl) ?_
  refine va_get (D := D) (ci := 2) (v := .ref (ad 0)) (C := RX2) (T := TX2) (N := 5) hx hb hts hiX2 hown hK hP 8 rfl rfl 1 (by decide) hf32 (fun _ h9 => h9) rfl dX2_goBehind_27 ?_
  refine lv_iload hx hb dX2_goBehind_30 (lv_at hl 1 rfl) ?_
  refine lv_aload_n hx hb dX2_goBehind_32 rfl (lv_at hl 4 rfl) ?_
  refine va_get (D := D) (ci := 2) (v := .ref (ad 0)) (C := RX2) (T := TX2) (N := 5) hx hb hts hiX2 hown hK hP 8 rfl rfl 1 (by decide) hf32 (fun _ h9 => h9) rfl dX2_goBehind_33 ?_
  refine lv_aload_n hx hb dX2_goBehind_36 rfl (lv_at hl 4 rfl) ?_
  refine va_get (D := D) (ci := 2) (v := .ref (bd 1)) (C := RX2) (T := TX2) (N := 5) hx hb hts hiX2 hown hK hP 8 rfl rfl 2 (by decide) hf9 (fun _ h9 => h9) rfl dX2_goBehind_37 ?_
  refine lv_iconst (v := nI 3) hx hb dX2_goBehind_40 (by decide) ?_
  refine lv_iload_n hx hb dX2_goBehind_41 rfl (lv_at hl 3 rfl) ?_
  refine nv_mulE (r := 6) hx hb rfl dX2_goBehind_42 ?_
  refine lv_iload hx hb dX2_goBehind_43 (lv_at hl 0 rfl) ?_
  refine nv_addE (r := 6) hx hb rfl dX2_goBehind_45 ?_
  refine nv_iald hx hb hK hP 9 0 rfl rfl (by omega) (by decide) dX2_goBehind_46 ?_
  refine lv_aload_n hx hb dX2_goBehind_47 rfl (lv_at hl 5 rfl) ?_
  refine va_get (D := D) (ci := 2) (v := .ref (ed 1)) (C := RX2) (T := TX2) (N := 5) hx hb hts hiX2 hown hK hP 12 rfl rfl 2 (by decide) hf9 (fun _ h9 => h9) rfl dX2_goBehind_48 ?_
  refine lv_iconst (v := nI 3) hx hb dX2_goBehind_51 (by decide) ?_
  refine lv_iload hx hb dX2_goBehind_52 (lv_at hl 0 rfl) ?_
  refine nv_mulE (r := 0) hx hb rfl dX2_goBehind_54 ?_
  refine lv_iload_n hx hb dX2_goBehind_55 rfl (lv_at hl 2 rfl) ?_
  refine nv_addE (r := 1) hx hb rfl dX2_goBehind_56 ?_
  refine nv_iald hx hb hK hP 13 0 rfl rfl (by omega) (by decide) dX2_goBehind_57 ?_
  refine ctR_V (As := [.int (nI (mm 6)), .int (nI (fm 1))]) (rest := [.int (nI 0), .ref (ad 0)]) (r := .int (nI (fmul q (mm 6) (fm 1)))) ⟨hx, hb, hml, hown, hts⟩ (c_X1_times l D cI cZ ad q sm pr op iv hF (mm 6) (fm 1) (by omega) (by omega)) (cwV 2 hts gX2_goBehind_X1_times rfl rfl rfl hdV_X1_times ⟨Nat.le_of_ble_eq_true rfl, Nat.le_of_ble_eq_true rfl⟩) hK hN hP [0, 1, 2, 3, 4] rfl 0 1 rfl rfl rfl hl.1 rfl (Nat.le_of_ble_eq_true rfl) ⟨Nat.zero_le _, Nat.zero_le _⟩ dX2_goBehind_58 ?_
  have hh_43 : fmul q (mm 6) (fm 1) < q := fmul_lt hF.1 (by omega) (by omega)
  refine ctR_V (As := [.int (nI 0), .int (nI (fmul q (mm 6) (fm 1)))]) (rest := []) (r := .int (nI (fadd q 0 (fmul q (mm 6) (fm 1))))) ⟨hx, hb, hml, hown, hts⟩ (c_X1_plus l D cI cZ ad q sm pr op iv hF 0 (fmul q (mm 6) (fm 1)) (by omega) (by omega)) (cwV 2 hts gX2_goBehind_X1_plus rfl rfl rfl hdV_X1_plus ⟨Nat.le_of_ble_eq_true rfl, Nat.le_of_ble_eq_true rfl⟩) hK hN hP [0, 1, 2, 3, 4] rfl 0 1 rfl rfl rfl hl.1 rfl (Nat.le_of_ble_eq_true rfl) ⟨Nat.zero_le _, Nat.zero_le _⟩ dX2_goBehind_61 ?_
  have hh_44 : fadd q 0 (fmul q (mm 6) (fm 1)) < q := fadd_lt hF.1 (by omega) (by omega)
  refine lv_istore (lv' := [(4, .int (nI (fadd q 0 (fmul q (mm 6) (fm 1))))), (5, .int (nI 0)), (3, .int (nI 1)), (2, .int (nI 2)), (0, .ref (bd 0)), (1, .ref (ed 0))]) hx hb dX2_goBehind_64 hl (by decide) rfl (fun ls hl => ?_)
  refine lv_iinc (v := nI 1) (lv' := [(5, .int (nI 1)), (4, .int (nI (fadd q 0 (fmul q (mm 6) (fm 1))))), (3, .int (nI 1)), (2, .int (nI 2)), (0, .ref (bd 0)), (1, .ref (ed 0))]) hx hb dX2_goBehind_66 hl (k := 1) rfl (nI_inc 0) (by decide) rfl (fun ls hl => ?_)
  refine lv_goto (tgt := 20) hx hb dX2_goBehind_69 (by decide) ?_
  refine lv_iload hx hb dX2_goBehind_20 (lv_at hl 0 rfl) ?_
  refine lv_iconst (v := nI 3) hx hb dX2_goBehind_22 (by decide) ?_
  refine nv_icmp_ge (tgt := 72) hx hb (by decide) (by decide) dX2_goBehind_23 (by decide) (fun c23 => absurd c23 (by omega)) (fun c23 => ?_)
  refine lv_aload_n hx hb dX2_goBehind_26 rfl (lv_at hl 4 rfl) ?_
  refine va_get (D := D) (ci := 2) (v := .ref (ad 0)) (C := RX2) (T := TX2) (N := 5) hx hb hts hiX2 hown hK hP 8 rfl rfl 1 (by decide) hf32 (fun _ h9 => h9) rfl dX2_goBehind_27 ?_
  refine lv_iload hx hb dX2_goBehind_30 (lv_at hl 1 rfl) ?_
  refine lv_aload_n hx hb dX2_goBehind_32 rfl (lv_at hl 4 rfl) ?_
  refine va_get (D := D) (ci := 2) (v := .ref (ad 0)) (C := RX2) (T := TX2) (N := 5) hx hb hts hiX2 hown hK hP 8 rfl rfl 1 (by decide) hf32 (fun _ h9 => h9) rfl dX2_goBehind_33 ?_
  refine lv_aload_n hx hb dX2_goBehind_36 rfl (lv_at hl 4 rfl) ?_
  refine va_get (D := D) (ci := 2) (v := .ref (bd 1)) (C := RX2) (T := TX2) (N := 5) hx hb hts hiX2 hown hK hP 8 rfl rfl 2 (by decide) hf9 (fun _ h9 => h9) rfl dX2_goBehind_37 ?_
  refine lv_iconst (v := nI 3) hx hb dX2_goBehind_40 (by decide) ?_
  refine lv_iload_n hx hb dX2_goBehind_41 rfl (lv_at hl 3 rfl) ?_
  refine nv_mulE (r := 6) hx hb rfl dX2_goBehind_42 ?_
  refine lv_iload hx hb dX2_goBehind_43 (lv_at hl 0 rfl) ?_
  refine nv_addE (r := 7) hx hb rfl dX2_goBehind_45 ?_
  refine nv_iald hx hb hK hP 9 0 rfl rfl (by omega) (by decide) dX2_goBehind_46 ?_
  refine lv_aload_n hx hb dX2_goBehind_47 rfl (lv_at hl 5 rfl) ?_
  refine va_get (D := D) (ci := 2) (v := .ref (ed 1)) (C := RX2) (T := TX2) (N := 5) hx hb hts hiX2 hown hK hP 12 rfl rfl 2 (by decide) hf9 (fun _ h9 => h9) rfl dX2_goBehind_48 ?_
  refine lv_iconst (v := nI 3) hx hb dX2_goBehind_51 (by decide) ?_
  refine lv_iload hx hb dX2_goBehind_52 (lv_at hl 0 rfl) ?_
  refine nv_mulE (r := 3) hx hb rfl dX2_goBehind_54 ?_
  refine lv_iload_n hx hb dX2_goBehind_55 rfl (lv_at hl 2 rfl) ?_
  refine nv_addE (r := 4) hx hb rfl dX2_goBehind_56 ?_
  refine nv_iald hx hb hK hP 13 0 rfl rfl (by omega) (by decide) dX2_goBehind_57 ?_
  refine ctR_V (As := [.int (nI (mm 7)), .int (nI (fm 4))]) (rest := [.int (nI (fadd q 0 (fmul q (mm 6) (fm 1)))), .ref (ad 0)]) (r := .int (nI (fmul q (mm 7) (fm 4)))) ⟨hx, hb, hml, hown, hts⟩ (c_X1_times l D cI cZ ad q sm pr op iv hF (mm 7) (fm 4) (by omega) (by omega)) (cwV 2 hts gX2_goBehind_X1_times rfl rfl rfl hdV_X1_times ⟨Nat.le_of_ble_eq_true rfl, Nat.le_of_ble_eq_true rfl⟩) hK hN hP [0, 1, 2, 3, 4] rfl 0 1 rfl rfl rfl hl.1 rfl (Nat.le_of_ble_eq_true rfl) ⟨Nat.zero_le _, Nat.zero_le _⟩ dX2_goBehind_58 ?_
  have hh_45 : fmul q (mm 7) (fm 4) < q := fmul_lt hF.1 (by omega) (by omega)
  refine ctR_V (As := [.int (nI (fadd q 0 (fmul q (mm 6) (fm 1)))), .int (nI (fmul q (mm 7) (fm 4)))]) (rest := []) (r := .int (nI (fadd q (fadd q 0 (fmul q (mm 6) (fm 1))) (fmul q (mm 7) (fm 4))))) ⟨hx, hb, hml, hown, hts⟩ (c_X1_plus l D cI cZ ad q sm pr op iv hF (fadd q 0 (fmul q (mm 6) (fm 1))) (fmul q (mm 7) (fm 4)) (by omega) (by omega)) (cwV 2 hts gX2_goBehind_X1_plus rfl rfl rfl hdV_X1_plus ⟨Nat.le_of_ble_eq_true rfl, Nat.le_of_ble_eq_true rfl⟩) hK hN hP [0, 1, 2, 3, 4] rfl 0 1 rfl rfl rfl hl.1 rfl (Nat.le_of_ble_eq_true rfl) ⟨Nat.zero_le _, Nat.zero_le _⟩ dX2_goBehind_61 ?_
  have hh_46 : fadd q (fadd q 0 (fmul q (mm 6) (fm 1))) (fmul q (mm 7) (fm 4)) < q := fadd_lt hF.1 (by omega) (by omega)
  refine lv_istore (lv' := [(4, .int (nI (fadd q (fadd q 0 (fmul q (mm 6) (fm 1))) (fmul q (mm 7) (fm 4))))), (5, .int (nI 1)), (3, .int (nI 1)), (2, .int (nI 2)), (0, .ref (bd 0)), (1, .ref (ed 0))]) hx hb dX2_goBehind_64 hl (by decide) rfl (fun ls hl => ?_)
  refine lv_iinc (v := nI 2) (lv' := [(5, .int (nI 2)), (4, .int (nI (fadd q (fadd q 0 (fmul q (mm 6) (fm 1))) (fmul q (mm 7) (fm 4))))), (3, .int (nI 1)), (2, .int (nI 2)), (0, .ref (bd 0)), (1, .ref (ed 0))]) hx hb dX2_goBehind_66 hl (k := 1) rfl (nI_inc 1) (by decide) rfl (fun ls hl => ?_)
  refine lv_goto (tgt := 20) hx hb dX2_goBehind_69 (by decide) ?_
  refine lv_iload hx hb dX2_goBehind_20 (lv_at hl 0 rfl) ?_
  refine lv_iconst (v := nI 3) hx hb dX2_goBehind_22 (by decide) ?_
  refine nv_icmp_ge (tgt := 72) hx hb (by decide) (by decide) dX2_goBehind_23 (by decide) (fun c23 => absurd c23 (by omega)) (fun c23 => ?_)
  refine lv_aload_n hx hb dX2_goBehind_26 rfl (lv_at hl 4 rfl) ?_
  refine va_get (D := D) (ci := 2) (v := .ref (ad 0)) (C := RX2) (T := TX2) (N := 5) hx hb hts hiX2 hown hK hP 8 rfl rfl 1 (by decide) hf32 (fun _ h9 => h9) rfl dX2_goBehind_27 ?_
  refine lv_iload hx hb dX2_goBehind_30 (lv_at hl 1 rfl) ?_
  refine lv_aload_n hx hb dX2_goBehind_32 rfl (lv_at hl 4 rfl) ?_
  refine va_get (D := D) (ci := 2) (v := .ref (ad 0)) (C := RX2) (T := TX2) (N := 5) hx hb hts hiX2 hown hK hP 8 rfl rfl 1 (by decide) hf32 (fun _ h9 => h9) rfl dX2_goBehind_33 ?_
  refine lv_aload_n hx hb dX2_goBehind_36 rfl (lv_at hl 4 rfl) ?_
  refine va_get (D := D) (ci := 2) (v := .ref (bd 1)) (C := RX2) (T := TX2) (N := 5) hx hb hts hiX2 hown hK hP 8 rfl rfl 2 (by decide) hf9 (fun _ h9 => h9) rfl dX2_goBehind_37 ?_
  refine lv_iconst (v := nI 3) hx hb dX2_goBehind_40 (by decide) ?_
  refine lv_iload_n hx hb dX2_goBehind_41 rfl (lv_at hl 3 rfl) ?_
  refine nv_mulE (r := 6) hx hb rfl dX2_goBehind_42 ?_
  refine lv_iload hx hb dX2_goBehind_43 (lv_at hl 0 rfl) ?_
  refine nv_addE (r := 8) hx hb rfl dX2_goBehind_45 ?_
  refine nv_iald hx hb hK hP 9 0 rfl rfl (by omega) (by decide) dX2_goBehind_46 ?_
  refine lv_aload_n hx hb dX2_goBehind_47 rfl (lv_at hl 5 rfl) ?_
  refine va_get (D := D) (ci := 2) (v := .ref (ed 1)) (C := RX2) (T := TX2) (N := 5) hx hb hts hiX2 hown hK hP 12 rfl rfl 2 (by decide) hf9 (fun _ h9 => h9) rfl dX2_goBehind_48 ?_
  refine lv_iconst (v := nI 3) hx hb dX2_goBehind_51 (by decide) ?_
  refine lv_iload hx hb dX2_goBehind_52 (lv_at hl 0 rfl) ?_
  refine nv_mulE (r := 6) hx hb rfl dX2_goBehind_54 ?_
  refine lv_iload_n hx hb dX2_goBehind_55 rfl (lv_at hl 2 rfl) ?_
  refine nv_addE (r := 7) hx hb rfl dX2_goBehind_56 ?_
  refine nv_iald hx hb hK hP 13 0 rfl rfl (by omega) (by decide) dX2_goBehind_57 ?_
  refine ctR_V (As := [.int (nI (mm 8)), .int (nI (fm 7))]) (rest := [.int (nI (fadd q (fadd q 0 (fmul q (mm 6) (fm 1))) (fmul q (mm 7) (fm 4)))), .ref (ad 0)]) (r := .int (nI (fmul q (mm 8) (fm 7)))) ⟨hx, hb, hml, hown, hts⟩ (c_X1_times l D cI cZ ad q sm pr op iv hF (mm 8) (fm 7) (by omega) (by omega)) (cwV 2 hts gX2_goBehind_X1_times rfl rfl rfl hdV_X1_times ⟨Nat.le_of_ble_eq_true rfl, Nat.le_of_ble_eq_true rfl⟩) hK hN hP [0, 1, 2, 3, 4] rfl 0 1 rfl rfl rfl hl.1 rfl (Nat.le_of_ble_eq_true rfl) ⟨Nat.zero_le _, Nat.zero_le _⟩ dX2_goBehind_58 ?_
  have hh_47 : fmul q (mm 8) (fm 7) < q := fmul_lt hF.1 (by omega) (by omega)
  refine ctR_V (As := [.int (nI (fadd q (fadd q 0 (fmul q (mm 6) (fm 1))) (fmul q (mm 7) (fm 4)))), .int (nI (fmul q (mm 8) (fm 7)))]) (rest := []) (r := .int (nI (fadd q (fadd q (fadd q 0 (fmul q (mm 6) (fm 1))) (fmul q (mm 7) (fm 4))) (fmul q (mm 8) (fm 7))))) ⟨hx, hb, hml, hown, hts⟩ (c_X1_plus l D cI cZ ad q sm pr op iv hF (fadd q (fadd q 0 (fmul q (mm 6) (fm 1))) (fmul q (mm 7) (fm 4))) (fmul q (mm 8) (fm 7)) (by omega) (by omega)) (cwV 2 hts gX2_goBehind_X1_plus rfl rfl rfl hdV_X1_plus ⟨Nat.le_of_ble_eq_true rfl, Nat.le_of_ble_eq_true rfl⟩) hK hN hP [0, 1, 2, 3, 4] rfl 0 1 rfl rfl rfl hl.1 rfl (Nat.le_of_ble_eq_true rfl) ⟨Nat.zero_le _, Nat.zero_le _⟩ dX2_goBehind_61 ?_
  have hh_48 : fadd q (fadd q (fadd q 0 (fmul q (mm 6) (fm 1))) (fmul q (mm 7) (fm 4))) (fmul q (mm 8) (fm 7)) < q := fadd_lt hF.1 (by omega) (by omega)
  refine lv_istore (lv' := [(4, .int (nI (fadd q (fadd q (fadd q 0 (fmul q (mm 6) (fm 1))) (fmul q (mm 7) (fm 4))) (fmul q (mm 8) (fm 7))))), (5, .int (nI 2)), (3, .int (nI 1)), (2, .int (nI 2)), (0, .ref (bd 0)), (1, .ref (ed 0))]) hx hb dX2_goBehind_64 hl (by decide) rfl (fun ls hl => ?_)
  refine lv_iinc (v := nI 3) (lv' := [(5, .int (nI 3)), (4, .int (nI (fadd q (fadd q (fadd q 0 (fmul q (mm 6) (fm 1))) (fmul q (mm 7) (fm 4))) (fmul q (mm 8) (fm 7))))), (3, .int (nI 1)), (2, .int (nI 2)), (0, .ref (bd 0)), (1, .ref (ed 0))]) hx hb dX2_goBehind_66 hl (k := 1) rfl (nI_inc 2) (by decide) rfl (fun ls hl => ?_)
  refine lv_goto (tgt := 20) hx hb dX2_goBehind_69 (by decide) ?_
  refine lv_iload hx hb dX2_goBehind_20 (lv_at hl 0 rfl) ?_
  refine lv_iconst (v := nI 3) hx hb dX2_goBehind_22 (by decide) ?_
  refine nv_icmp_ge (tgt := 72) hx hb (by decide) (by decide) dX2_goBehind_23 (by decide) (fun c23 => ?_) (fun c23 => absurd c23 (by omega))
  refine lv_aload_n hx hb dX2_goBehind_72 rfl (lv_at hl 4 rfl) ?_
  refine va_get (D := D) (ci := 2) (v := .ref (bd 2)) (C := RX2) (T := TX2) (N := 5) hx hb hts hiX2 hown hK hP 8 rfl rfl 3 (by decide) hf15 (fun _ h9 => h9) rfl dX2_goBehind_73 ?_
  refine lv_iconst (v := nI 3) hx hb dX2_goBehind_76 (by decide) ?_
  refine lv_iload_n hx hb dX2_goBehind_77 rfl (lv_at hl 3 rfl) ?_
  refine nv_mulE (r := 6) hx hb rfl dX2_goBehind_78 ?_
  refine lv_iload_n hx hb dX2_goBehind_79 rfl (lv_at hl 2 rfl) ?_
  refine nv_addE (r := 7) hx hb rfl dX2_goBehind_80 ?_
  refine lv_iload hx hb dX2_goBehind_81 (lv_at hl 1 rfl) ?_
  refine nv_iast hx hb hK hP hD hS 10 0 rfl rfl (by omega) (by decide) dX2_goBehind_83 (fun H locs hP hD hS => ?_)
  have hP : va_P D vwCl [(ad 0, .inr (1, [.int (nI q), .ref (ad 1), .ref (ad 2), .ref (ad 3), .ref (ad 4)])), (ad 1, .inl (cI, 81, .inl (nF sm))), (ad 2, .inl (cI, 81, .inl (nF pr))), (ad 3, .inl (cI, 9, .inl (nF op))), (ad 4, .inl (cI, 9, .inl (nF iv))), (ad 5, .inr (3, [.ref (ad 0), .int (nI (nn q)), .ref (ad 6), .ref (ad 7)])), (ad 6, .inl (cI, 273, .inl (nF tr))), (ad 7, .inl (cI, 910, .inl (nF ro))), (bd 0, .inr (2, [.ref (ad 5), .ref (ad 0), .ref (bd 1), .ref (bd 2), .ref (bd 3)])), (bd 1, .inl (cI, 9, .inl (nF mm))), (bd 2, .inl (cI, 9, .inl (nF (upN (upN (upN (upN (upN (upN (upN (upN me 0 (fadd q (fadd q (fadd q 0 (fmul q (mm 0) (fm 0))) (fmul q (mm 1) (fm 3))) (fmul q (mm 2) (fm 6)))) 1 (fadd q (fadd q (fadd q 0 (fmul q (mm 0) (fm 1))) (fmul q (mm 1) (fm 4))) (fmul q (mm 2) (fm 7)))) 2 (fadd q (fadd q (fadd q 0 (fmul q (mm 0) (fm 2))) (fmul q (mm 1) (fm 5))) (fmul q (mm 2) (fm 8)))) 3 (fadd q (fadd q (fadd q 0 (fmul q (mm 3) (fm 0))) (fmul q (mm 4) (fm 3))) (fmul q (mm 5) (fm 6)))) 4 (fadd q (fadd q (fadd q 0 (fmul q (mm 3) (fm 1))) (fmul q (mm 4) (fm 4))) (fmul q (mm 5) (fm 7)))) 5 (fadd q (fadd q (fadd q 0 (fmul q (mm 3) (fm 2))) (fmul q (mm 4) (fm 5))) (fmul q (mm 5) (fm 8)))) 6 (fadd q (fadd q (fadd q 0 (fmul q (mm 6) (fm 0))) (fmul q (mm 7) (fm 3))) (fmul q (mm 8) (fm 6)))) 7 (fadd q (fadd q (fadd q 0 (fmul q (mm 6) (fm 1))) (fmul q (mm 7) (fm 4))) (fmul q (mm 8) (fm 7))))))), (bd 3, .inl (cZ, 91, .inl (bF rc))), (ed 0, .inr (2, [.ref (ad 5), .ref (ad 0), .ref (ed 1), .ref (ed 2), .ref (ed 3)])), (ed 1, .inl (cI, 9, .inl (nF fm)))] H := hP
  have hD : va_D A [(ad 0, .inr (1, [.int (nI q), .ref (ad 1), .ref (ad 2), .ref (ad 3), .ref (ad 4)])), (ad 1, .inl (cI, 81, .inl (nF sm))), (ad 2, .inl (cI, 81, .inl (nF pr))), (ad 3, .inl (cI, 9, .inl (nF op))), (ad 4, .inl (cI, 9, .inl (nF iv))), (ad 5, .inr (3, [.ref (ad 0), .int (nI (nn q)), .ref (ad 6), .ref (ad 7)])), (ad 6, .inl (cI, 273, .inl (nF tr))), (ad 7, .inl (cI, 910, .inl (nF ro))), (bd 0, .inr (2, [.ref (ad 5), .ref (ad 0), .ref (bd 1), .ref (bd 2), .ref (bd 3)])), (bd 1, .inl (cI, 9, .inl (nF mm))), (bd 2, .inl (cI, 9, .inl (nF (upN (upN (upN (upN (upN (upN (upN (upN me 0 (fadd q (fadd q (fadd q 0 (fmul q (mm 0) (fm 0))) (fmul q (mm 1) (fm 3))) (fmul q (mm 2) (fm 6)))) 1 (fadd q (fadd q (fadd q 0 (fmul q (mm 0) (fm 1))) (fmul q (mm 1) (fm 4))) (fmul q (mm 2) (fm 7)))) 2 (fadd q (fadd q (fadd q 0 (fmul q (mm 0) (fm 2))) (fmul q (mm 1) (fm 5))) (fmul q (mm 2) (fm 8)))) 3 (fadd q (fadd q (fadd q 0 (fmul q (mm 3) (fm 0))) (fmul q (mm 4) (fm 3))) (fmul q (mm 5) (fm 6)))) 4 (fadd q (fadd q (fadd q 0 (fmul q (mm 3) (fm 1))) (fmul q (mm 4) (fm 4))) (fmul q (mm 5) (fm 7)))) 5 (fadd q (fadd q (fadd q 0 (fmul q (mm 3) (fm 2))) (fmul q (mm 4) (fm 5))) (fmul q (mm 5) (fm 8)))) 6 (fadd q (fadd q (fadd q 0 (fmul q (mm 6) (fm 0))) (fmul q (mm 7) (fm 3))) (fmul q (mm 8) (fm 6)))) 7 (fadd q (fadd q (fadd q 0 (fmul q (mm 6) (fm 1))) (fmul q (mm 7) (fm 4))) (fmul q (mm 8) (fm 7))))))), (bd 3, .inl (cZ, 91, .inl (bF rc))), (ed 0, .inr (2, [.ref (ad 5), .ref (ad 0), .ref (ed 1), .ref (ed 2), .ref (ed 3)])), (ed 1, .inl (cI, 9, .inl (nF fm)))] := hD
  refine lv_iinc (v := nI 2) (lv' := [(3, .int (nI 2)), (5, .int (nI 3)), (4, .int (nI (fadd q (fadd q (fadd q 0 (fmul q (mm 6) (fm 1))) (fmul q (mm 7) (fm 4))) (fmul q (mm 8) (fm 7))))), (2, .int (nI 2)), (0, .ref (bd 0)), (1, .ref (ed 0))]) hx hb dX2_goBehind_84 hl (k := 2) rfl (nI_inc 1) (by decide) rfl (fun ls hl => ?_)
  refine lv_goto (tgt := 9) hx hb dX2_goBehind_87 (by decide) ?_
  refine lv_iload_n hx hb dX2_goBehind_9 rfl (lv_at hl 0 rfl) ?_
  refine lv_iconst (v := nI 3) hx hb dX2_goBehind_10 (by decide) ?_
  refine nv_icmp_ge (tgt := 90) hx hb (by decide) (by decide) dX2_goBehind_11 (by decide) (fun c11 => absurd c11 (by omega)) (fun c11 => ?_)
  refine lv_iconst (v := nI 0) hx hb dX2_goBehind_14 (by decide) ?_
  refine lv_istore (lv' := [(4, .int (nI 0)), (3, .int (nI 2)), (5, .int (nI 3)), (2, .int (nI 2)), (0, .ref (bd 0)), (1, .ref (ed 0))]) hx hb dX2_goBehind_15 hl (by decide) rfl (fun ls hl => ?_)
  refine lv_iconst (v := nI 0) hx hb dX2_goBehind_17 (by decide) ?_
  refine lv_istore (lv' := [(5, .int (nI 0)), (4, .int (nI 0)), (3, .int (nI 2)), (2, .int (nI 2)), (0, .ref (bd 0)), (1, .ref (ed 0))]) hx hb dX2_goBehind_18 hl (by decide) rfl (fun ls hl => ?_)
  refine lv_iload hx hb dX2_goBehind_20 (lv_at hl 0 rfl) ?_
  refine lv_iconst (v := nI 3) hx hb dX2_goBehind_22 (by decide) ?_
  refine nv_icmp_ge (tgt := 72) hx hb (by decide) (by decide) dX2_goBehind_23 (by decide) (fun c23 => absurd c23 (by omega)) (fun c23 => ?_)
  refine lv_aload_n hx hb dX2_goBehind_26 rfl (lv_at hl 4 rfl) ?_
  refine va_get (D := D) (ci := 2) (v := .ref (ad 0)) (C := RX2) (T := TX2) (N := 5) hx hb hts hiX2 hown hK hP 8 rfl rfl 1 (by decide) hf32 (fun _ h9 => h9) rfl dX2_goBehind_27 ?_
  refine lv_iload hx hb dX2_goBehind_30 (lv_at hl 1 rfl) ?_
  refine lv_aload_n hx hb dX2_goBehind_32 rfl (lv_at hl 4 rfl) ?_
  refine va_get (D := D) (ci := 2) (v := .ref (ad 0)) (C := RX2) (T := TX2) (N := 5) hx hb hts hiX2 hown hK hP 8 rfl rfl 1 (by decide) hf32 (fun _ h9 => h9) rfl dX2_goBehind_33 ?_
  refine lv_aload_n hx hb dX2_goBehind_36 rfl (lv_at hl 4 rfl) ?_
  refine va_get (D := D) (ci := 2) (v := .ref (bd 1)) (C := RX2) (T := TX2) (N := 5) hx hb hts hiX2 hown hK hP 8 rfl rfl 2 (by decide) hf9 (fun _ h9 => h9) rfl dX2_goBehind_37 ?_
  refine lv_iconst (v := nI 3) hx hb dX2_goBehind_40 (by decide) ?_
  refine lv_iload_n hx hb dX2_goBehind_41 rfl (lv_at hl 3 rfl) ?_
  refine nv_mulE (r := 6) hx hb rfl dX2_goBehind_42 ?_
  refine lv_iload hx hb dX2_goBehind_43 (lv_at hl 0 rfl) ?_
  refine nv_addE (r := 6) hx hb rfl dX2_goBehind_45 ?_
  refine nv_iald hx hb hK hP 9 0 rfl rfl (by omega) (by decide) dX2_goBehind_46 ?_
  refine lv_aload_n hx hb dX2_goBehind_47 rfl (lv_at hl 5 rfl) ?_
  refine va_get (D := D) (ci := 2) (v := .ref (ed 1)) (C := RX2) (T := TX2) (N := 5) hx hb hts hiX2 hown hK hP 12 rfl rfl 2 (by decide) hf9 (fun _ h9 => h9) rfl dX2_goBehind_48 ?_
  refine lv_iconst (v := nI 3) hx hb dX2_goBehind_51 (by decide) ?_
  refine lv_iload hx hb dX2_goBehind_52 (lv_at hl 0 rfl) ?_
  refine nv_mulE (r := 0) hx hb rfl dX2_goBehind_54 ?_
  refine lv_iload_n hx hb dX2_goBehind_55 rfl (lv_at hl 2 rfl) ?_
  refine nv_addE (r := 2) hx hb rfl dX2_goBehind_56 ?_
  refine nv_iald hx hb hK hP 13 0 rfl rfl (by omega) (by decide) dX2_goBehind_57 ?_
  refine ctR_V (As := [.int (nI (mm 6)), .int (nI (fm 2))]) (rest := [.int (nI 0), .ref (ad 0)]) (r := .int (nI (fmul q (mm 6) (fm 2)))) ⟨hx, hb, hml, hown, hts⟩ (c_X1_times l D cI cZ ad q sm pr op iv hF (mm 6) (fm 2) (by omega) (by omega)) (cwV 2 hts gX2_goBehind_X1_times rfl rfl rfl hdV_X1_times ⟨Nat.le_of_ble_eq_true rfl, Nat.le_of_ble_eq_true rfl⟩) hK hN hP [0, 1, 2, 3, 4] rfl 0 1 rfl rfl rfl hl.1 rfl (Nat.le_of_ble_eq_true rfl) ⟨Nat.zero_le _, Nat.zero_le _⟩ dX2_goBehind_58 ?_
  have hh_49 : fmul q (mm 6) (fm 2) < q := fmul_lt hF.1 (by omega) (by omega)
  refine ctR_V (As := [.int (nI 0), .int (nI (fmul q (mm 6) (fm 2)))]) (rest := []) (r := .int (nI (fadd q 0 (fmul q (mm 6) (fm 2))))) ⟨hx, hb, hml, hown, hts⟩ (c_X1_plus l D cI cZ ad q sm pr op iv hF 0 (fmul q (mm 6) (fm 2)) (by omega) (by omega)) (cwV 2 hts gX2_goBehind_X1_plus rfl rfl rfl hdV_X1_plus ⟨Nat.le_of_ble_eq_true rfl, Nat.le_of_ble_eq_true rfl⟩) hK hN hP [0, 1, 2, 3, 4] rfl 0 1 rfl rfl rfl hl.1 rfl (Nat.le_of_ble_eq_true rfl) ⟨Nat.zero_le _, Nat.zero_le _⟩ dX2_goBehind_61 ?_
  have hh_50 : fadd q 0 (fmul q (mm 6) (fm 2)) < q := fadd_lt hF.1 (by omega) (by omega)
  refine lv_istore (lv' := [(4, .int (nI (fadd q 0 (fmul q (mm 6) (fm 2))))), (5, .int (nI 0)), (3, .int (nI 2)), (2, .int (nI 2)), (0, .ref (bd 0)), (1, .ref (ed 0))]) hx hb dX2_goBehind_64 hl (by decide) rfl (fun ls hl => ?_)
  refine lv_iinc (v := nI 1) (lv' := [(5, .int (nI 1)), (4, .int (nI (fadd q 0 (fmul q (mm 6) (fm 2))))), (3, .int (nI 2)), (2, .int (nI 2)), (0, .ref (bd 0)), (1, .ref (ed 0))]) hx hb dX2_goBehind_66 hl (k := 1) rfl (nI_inc 0) (by decide) rfl (fun ls hl => ?_)
  refine lv_goto (tgt := 20) hx hb dX2_goBehind_69 (by decide) ?_
  refine lv_iload hx hb dX2_goBehind_20 (lv_at hl 0 rfl) ?_
  refine lv_iconst (v := nI 3) hx hb dX2_goBehind_22 (by decide) ?_
  refine nv_icmp_ge (tgt := 72) hx hb (by decide) (by decide) dX2_goBehind_23 (by decide) (fun c23 => absurd c23 (by omega)) (fun c23 => ?_)
  refine lv_aload_n hx hb dX2_goBehind_26 rfl (lv_at hl 4 rfl) ?_
  refine va_get (D := D) (ci := 2) (v := .ref (ad 0)) (C := RX2) (T := TX2) (N := 5) hx hb hts hiX2 hown hK hP 8 rfl rfl 1 (by decide) hf32 (fun _ h9 => h9) rfl dX2_goBehind_27 ?_
  refine lv_iload hx hb dX2_goBehind_30 (lv_at hl 1 rfl) ?_
  refine lv_aload_n hx hb dX2_goBehind_32 rfl (lv_at hl 4 rfl) ?_
  refine va_get (D := D) (ci := 2) (v := .ref (ad 0)) (C := RX2) (T := TX2) (N := 5) hx hb hts hiX2 hown hK hP 8 rfl rfl 1 (by decide) hf32 (fun _ h9 => h9) rfl dX2_goBehind_33 ?_
  refine lv_aload_n hx hb dX2_goBehind_36 rfl (lv_at hl 4 rfl) ?_
  refine va_get (D := D) (ci := 2) (v := .ref (bd 1)) (C := RX2) (T := TX2) (N := 5) hx hb hts hiX2 hown hK hP 8 rfl rfl 2 (by decide) hf9 (fun _ h9 => h9) rfl dX2_goBehind_37 ?_
  refine lv_iconst (v := nI 3) hx hb dX2_goBehind_40 (by decide) ?_
  refine lv_iload_n hx hb dX2_goBehind_41 rfl (lv_at hl 3 rfl) ?_
  refine nv_mulE (r := 6) hx hb rfl dX2_goBehind_42 ?_
  refine lv_iload hx hb dX2_goBehind_43 (lv_at hl 0 rfl) ?_
  refine nv_addE (r := 7) hx hb rfl dX2_goBehind_45 ?_
  refine nv_iald hx hb hK hP 9 0 rfl rfl (by omega) (by decide) dX2_goBehind_46 ?_
  refine lv_aload_n hx hb dX2_goBehind_47 rfl (lv_at hl 5 rfl) ?_
  refine va_get (D := D) (ci := 2) (v := .ref (ed 1)) (C := RX2) (T := TX2) (N := 5) hx hb hts hiX2 hown hK hP 12 rfl rfl 2 (by decide) hf9 (fun _ h9 => h9) rfl dX2_goBehind_48 ?_
  refine lv_iconst (v := nI 3) hx hb dX2_goBehind_51 (by decide) ?_
  refine lv_iload hx hb dX2_goBehind_52 (lv_at hl 0 rfl) ?_
  refine nv_mulE (r := 3) hx hb rfl dX2_goBehind_54 ?_
  refine lv_iload_n hx hb dX2_goBehind_55 rfl (lv_at hl 2 rfl) ?_
  refine nv_addE (r := 5) hx hb rfl dX2_goBehind_56 ?_
  refine nv_iald hx hb hK hP 13 0 rfl rfl (by omega) (by decide) dX2_goBehind_57 ?_
  refine ctR_V (As := [.int (nI (mm 7)), .int (nI (fm 5))]) (rest := [.int (nI (fadd q 0 (fmul q (mm 6) (fm 2)))), .ref (ad 0)]) (r := .int (nI (fmul q (mm 7) (fm 5)))) ⟨hx, hb, hml, hown, hts⟩ (c_X1_times l D cI cZ ad q sm pr op iv hF (mm 7) (fm 5) (by omega) (by omega)) (cwV 2 hts gX2_goBehind_X1_times rfl rfl rfl hdV_X1_times ⟨Nat.le_of_ble_eq_true rfl, Nat.le_of_ble_eq_true rfl⟩) hK hN hP [0, 1, 2, 3, 4] rfl 0 1 rfl rfl rfl hl.1 rfl (Nat.le_of_ble_eq_true rfl) ⟨Nat.zero_le _, Nat.zero_le _⟩ dX2_goBehind_58 ?_
  have hh_51 : fmul q (mm 7) (fm 5) < q := fmul_lt hF.1 (by omega) (by omega)
  refine ctR_V (As := [.int (nI (fadd q 0 (fmul q (mm 6) (fm 2)))), .int (nI (fmul q (mm 7) (fm 5)))]) (rest := []) (r := .int (nI (fadd q (fadd q 0 (fmul q (mm 6) (fm 2))) (fmul q (mm 7) (fm 5))))) ⟨hx, hb, hml, hown, hts⟩ (c_X1_plus l D cI cZ ad q sm pr op iv hF (fadd q 0 (fmul q (mm 6) (fm 2))) (fmul q (mm 7) (fm 5)) (by omega) (by omega)) (cwV 2 hts gX2_goBehind_X1_plus rfl rfl rfl hdV_X1_plus ⟨Nat.le_of_ble_eq_true rfl, Nat.le_of_ble_eq_true rfl⟩) hK hN hP [0, 1, 2, 3, 4] rfl 0 1 rfl rfl rfl hl.1 rfl (Nat.le_of_ble_eq_true rfl) ⟨Nat.zero_le _, Nat.zero_le _⟩ dX2_goBehind_61 ?_
  have hh_52 : fadd q (fadd q 0 (fmul q (mm 6) (fm 2))) (fmul q (mm 7) (fm 5)) < q := fadd_lt hF.1 (by omega) (by omega)
  refine lv_istore (lv' := [(4, .int (nI (fadd q (fadd q 0 (fmul q (mm 6) (fm 2))) (fmul q (mm 7) (fm 5))))), (5, .int (nI 1)), (3, .int (nI 2)), (2, .int (nI 2)), (0, .ref (bd 0)), (1, .ref (ed 0))]) hx hb dX2_goBehind_64 hl (by decide) rfl (fun ls hl => ?_)
  refine lv_iinc (v := nI 2) (lv' := [(5, .int (nI 2)), (4, .int (nI (fadd q (fadd q 0 (fmul q (mm 6) (fm 2))) (fmul q (mm 7) (fm 5))))), (3, .int (nI 2)), (2, .int (nI 2)), (0, .ref (bd 0)), (1, .ref (ed 0))]) hx hb dX2_goBehind_66 hl (k := 1) rfl (nI_inc 1) (by decide) rfl (fun ls hl => ?_)
  refine lv_goto (tgt := 20) hx hb dX2_goBehind_69 (by decide) ?_
  refine lv_iload hx hb dX2_goBehind_20 (lv_at hl 0 rfl) ?_
  refine lv_iconst (v := nI 3) hx hb dX2_goBehind_22 (by decide) ?_
  refine nv_icmp_ge (tgt := 72) hx hb (by decide) (by decide) dX2_goBehind_23 (by decide) (fun c23 => absurd c23 (by omega)) (fun c23 => ?_)
  refine lv_aload_n hx hb dX2_goBehind_26 rfl (lv_at hl 4 rfl) ?_
  refine va_get (D := D) (ci := 2) (v := .ref (ad 0)) (C := RX2) (T := TX2) (N := 5) hx hb hts hiX2 hown hK hP 8 rfl rfl 1 (by decide) hf32 (fun _ h9 => h9) rfl dX2_goBehind_27 ?_
  refine lv_iload hx hb dX2_goBehind_30 (lv_at hl 1 rfl) ?_
  refine lv_aload_n hx hb dX2_goBehind_32 rfl (lv_at hl 4 rfl) ?_
  refine va_get (D := D) (ci := 2) (v := .ref (ad 0)) (C := RX2) (T := TX2) (N := 5) hx hb hts hiX2 hown hK hP 8 rfl rfl 1 (by decide) hf32 (fun _ h9 => h9) rfl dX2_goBehind_33 ?_
  refine lv_aload_n hx hb dX2_goBehind_36 rfl (lv_at hl 4 rfl) ?_
  refine va_get (D := D) (ci := 2) (v := .ref (bd 1)) (C := RX2) (T := TX2) (N := 5) hx hb hts hiX2 hown hK hP 8 rfl rfl 2 (by decide) hf9 (fun _ h9 => h9) rfl dX2_goBehind_37 ?_
  refine lv_iconst (v := nI 3) hx hb dX2_goBehind_40 (by decide) ?_
  refine lv_iload_n hx hb dX2_goBehind_41 rfl (lv_at hl 3 rfl) ?_
  refine nv_mulE (r := 6) hx hb rfl dX2_goBehind_42 ?_
  refine lv_iload hx hb dX2_goBehind_43 (lv_at hl 0 rfl) ?_
  refine nv_addE (r := 8) hx hb rfl dX2_goBehind_45 ?_
  refine nv_iald hx hb hK hP 9 0 rfl rfl (by omega) (by decide) dX2_goBehind_46 ?_
  refine lv_aload_n hx hb dX2_goBehind_47 rfl (lv_at hl 5 rfl) ?_
  refine va_get (D := D) (ci := 2) (v := .ref (ed 1)) (C := RX2) (T := TX2) (N := 5) hx hb hts hiX2 hown hK hP 12 rfl rfl 2 (by decide) hf9 (fun _ h9 => h9) rfl dX2_goBehind_48 ?_
  refine lv_iconst (v := nI 3) hx hb dX2_goBehind_51 (by decide) ?_
  refine lv_iload hx hb dX2_goBehind_52 (lv_at hl 0 rfl) ?_
  refine nv_mulE (r := 6) hx hb rfl dX2_goBehind_54 ?_
  refine lv_iload_n hx hb dX2_goBehind_55 rfl (lv_at hl 2 rfl) ?_
  refine nv_addE (r := 8) hx hb rfl dX2_goBehind_56 ?_
  refine nv_iald hx hb hK hP 13 0 rfl rfl (by omega) (by decide) dX2_goBehind_57 ?_
  refine ctR_V (As := [.int (nI (mm 8)), .int (nI (fm 8))]) (rest := [.int (nI (fadd q (fadd q 0 (fmul q (mm 6) (fm 2))) (fmul q (mm 7) (fm 5)))), .ref (ad 0)]) (r := .int (nI (fmul q (mm 8) (fm 8)))) ⟨hx, hb, hml, hown, hts⟩ (c_X1_times l D cI cZ ad q sm pr op iv hF (mm 8) (fm 8) (by omega) (by omega)) (cwV 2 hts gX2_goBehind_X1_times rfl rfl rfl hdV_X1_times ⟨Nat.le_of_ble_eq_true rfl, Nat.le_of_ble_eq_true rfl⟩) hK hN hP [0, 1, 2, 3, 4] rfl 0 1 rfl rfl rfl hl.1 rfl (Nat.le_of_ble_eq_true rfl) ⟨Nat.zero_le _, Nat.zero_le _⟩ dX2_goBehind_58 ?_
  have hh_53 : fmul q (mm 8) (fm 8) < q := fmul_lt hF.1 (by omega) (by omega)
  refine ctR_V (As := [.int (nI (fadd q (fadd q 0 (fmul q (mm 6) (fm 2))) (fmul q (mm 7) (fm 5)))), .int (nI (fmul q (mm 8) (fm 8)))]) (rest := []) (r := .int (nI (fadd q (fadd q (fadd q 0 (fmul q (mm 6) (fm 2))) (fmul q (mm 7) (fm 5))) (fmul q (mm 8) (fm 8))))) ⟨hx, hb, hml, hown, hts⟩ (c_X1_plus l D cI cZ ad q sm pr op iv hF (fadd q (fadd q 0 (fmul q (mm 6) (fm 2))) (fmul q (mm 7) (fm 5))) (fmul q (mm 8) (fm 8)) (by omega) (by omega)) (cwV 2 hts gX2_goBehind_X1_plus rfl rfl rfl hdV_X1_plus ⟨Nat.le_of_ble_eq_true rfl, Nat.le_of_ble_eq_true rfl⟩) hK hN hP [0, 1, 2, 3, 4] rfl 0 1 rfl rfl rfl hl.1 rfl (Nat.le_of_ble_eq_true rfl) ⟨Nat.zero_le _, Nat.zero_le _⟩ dX2_goBehind_61 ?_
  have hh_54 : fadd q (fadd q (fadd q 0 (fmul q (mm 6) (fm 2))) (fmul q (mm 7) (fm 5))) (fmul q (mm 8) (fm 8)) < q := fadd_lt hF.1 (by omega) (by omega)
  refine lv_istore (lv' := [(4, .int (nI (fadd q (fadd q (fadd q 0 (fmul q (mm 6) (fm 2))) (fmul q (mm 7) (fm 5))) (fmul q (mm 8) (fm 8))))), (5, .int (nI 2)), (3, .int (nI 2)), (2, .int (nI 2)), (0, .ref (bd 0)), (1, .ref (ed 0))]) hx hb dX2_goBehind_64 hl (by decide) rfl (fun ls hl => ?_)
  refine lv_iinc (v := nI 3) (lv' := [(5, .int (nI 3)), (4, .int (nI (fadd q (fadd q (fadd q 0 (fmul q (mm 6) (fm 2))) (fmul q (mm 7) (fm 5))) (fmul q (mm 8) (fm 8))))), (3, .int (nI 2)), (2, .int (nI 2)), (0, .ref (bd 0)), (1, .ref (ed 0))]) hx hb dX2_goBehind_66 hl (k := 1) rfl (nI_inc 2) (by decide) rfl (fun ls hl => ?_)
  refine lv_goto (tgt := 20) hx hb dX2_goBehind_69 (by decide) ?_
  refine lv_iload hx hb dX2_goBehind_20 (lv_at hl 0 rfl) ?_
  refine lv_iconst (v := nI 3) hx hb dX2_goBehind_22 (by decide) ?_
  refine nv_icmp_ge (tgt := 72) hx hb (by decide) (by decide) dX2_goBehind_23 (by decide) (fun c23 => ?_) (fun c23 => absurd c23 (by omega))
  refine lv_aload_n hx hb dX2_goBehind_72 rfl (lv_at hl 4 rfl) ?_
  refine va_get (D := D) (ci := 2) (v := .ref (bd 2)) (C := RX2) (T := TX2) (N := 5) hx hb hts hiX2 hown hK hP 8 rfl rfl 3 (by decide) hf15 (fun _ h9 => h9) rfl dX2_goBehind_73 ?_
  refine lv_iconst (v := nI 3) hx hb dX2_goBehind_76 (by decide) ?_
  refine lv_iload_n hx hb dX2_goBehind_77 rfl (lv_at hl 3 rfl) ?_
  refine nv_mulE (r := 6) hx hb rfl dX2_goBehind_78 ?_
  refine lv_iload_n hx hb dX2_goBehind_79 rfl (lv_at hl 2 rfl) ?_
  refine nv_addE (r := 8) hx hb rfl dX2_goBehind_80 ?_
  refine lv_iload hx hb dX2_goBehind_81 (lv_at hl 1 rfl) ?_
  refine nv_iast hx hb hK hP hD hS 10 0 rfl rfl (by omega) (by decide) dX2_goBehind_83 (fun H locs hP hD hS => ?_)
  have hP : va_P D vwCl [(ad 0, .inr (1, [.int (nI q), .ref (ad 1), .ref (ad 2), .ref (ad 3), .ref (ad 4)])), (ad 1, .inl (cI, 81, .inl (nF sm))), (ad 2, .inl (cI, 81, .inl (nF pr))), (ad 3, .inl (cI, 9, .inl (nF op))), (ad 4, .inl (cI, 9, .inl (nF iv))), (ad 5, .inr (3, [.ref (ad 0), .int (nI (nn q)), .ref (ad 6), .ref (ad 7)])), (ad 6, .inl (cI, 273, .inl (nF tr))), (ad 7, .inl (cI, 910, .inl (nF ro))), (bd 0, .inr (2, [.ref (ad 5), .ref (ad 0), .ref (bd 1), .ref (bd 2), .ref (bd 3)])), (bd 1, .inl (cI, 9, .inl (nF mm))), (bd 2, .inl (cI, 9, .inl (nF (upN (upN (upN (upN (upN (upN (upN (upN (upN me 0 (fadd q (fadd q (fadd q 0 (fmul q (mm 0) (fm 0))) (fmul q (mm 1) (fm 3))) (fmul q (mm 2) (fm 6)))) 1 (fadd q (fadd q (fadd q 0 (fmul q (mm 0) (fm 1))) (fmul q (mm 1) (fm 4))) (fmul q (mm 2) (fm 7)))) 2 (fadd q (fadd q (fadd q 0 (fmul q (mm 0) (fm 2))) (fmul q (mm 1) (fm 5))) (fmul q (mm 2) (fm 8)))) 3 (fadd q (fadd q (fadd q 0 (fmul q (mm 3) (fm 0))) (fmul q (mm 4) (fm 3))) (fmul q (mm 5) (fm 6)))) 4 (fadd q (fadd q (fadd q 0 (fmul q (mm 3) (fm 1))) (fmul q (mm 4) (fm 4))) (fmul q (mm 5) (fm 7)))) 5 (fadd q (fadd q (fadd q 0 (fmul q (mm 3) (fm 2))) (fmul q (mm 4) (fm 5))) (fmul q (mm 5) (fm 8)))) 6 (fadd q (fadd q (fadd q 0 (fmul q (mm 6) (fm 0))) (fmul q (mm 7) (fm 3))) (fmul q (mm 8) (fm 6)))) 7 (fadd q (fadd q (fadd q 0 (fmul q (mm 6) (fm 1))) (fmul q (mm 7) (fm 4))) (fmul q (mm 8) (fm 7)))) 8 (fadd q (fadd q (fadd q 0 (fmul q (mm 6) (fm 2))) (fmul q (mm 7) (fm 5))) (fmul q (mm 8) (fm 8))))))), (bd 3, .inl (cZ, 91, .inl (bF rc))), (ed 0, .inr (2, [.ref (ad 5), .ref (ad 0), .ref (ed 1), .ref (ed 2), .ref (ed 3)])), (ed 1, .inl (cI, 9, .inl (nF fm)))] H := hP
  have hD : va_D A [(ad 0, .inr (1, [.int (nI q), .ref (ad 1), .ref (ad 2), .ref (ad 3), .ref (ad 4)])), (ad 1, .inl (cI, 81, .inl (nF sm))), (ad 2, .inl (cI, 81, .inl (nF pr))), (ad 3, .inl (cI, 9, .inl (nF op))), (ad 4, .inl (cI, 9, .inl (nF iv))), (ad 5, .inr (3, [.ref (ad 0), .int (nI (nn q)), .ref (ad 6), .ref (ad 7)])), (ad 6, .inl (cI, 273, .inl (nF tr))), (ad 7, .inl (cI, 910, .inl (nF ro))), (bd 0, .inr (2, [.ref (ad 5), .ref (ad 0), .ref (bd 1), .ref (bd 2), .ref (bd 3)])), (bd 1, .inl (cI, 9, .inl (nF mm))), (bd 2, .inl (cI, 9, .inl (nF (upN (upN (upN (upN (upN (upN (upN (upN (upN me 0 (fadd q (fadd q (fadd q 0 (fmul q (mm 0) (fm 0))) (fmul q (mm 1) (fm 3))) (fmul q (mm 2) (fm 6)))) 1 (fadd q (fadd q (fadd q 0 (fmul q (mm 0) (fm 1))) (fmul q (mm 1) (fm 4))) (fmul q (mm 2) (fm 7)))) 2 (fadd q (fadd q (fadd q 0 (fmul q (mm 0) (fm 2))) (fmul q (mm 1) (fm 5))) (fmul q (mm 2) (fm 8)))) 3 (fadd q (fadd q (fadd q 0 (fmul q (mm 3) (fm 0))) (fmul q (mm 4) (fm 3))) (fmul q (mm 5) (fm 6)))) 4 (fadd q (fadd q (fadd q 0 (fmul q (mm 3) (fm 1))) (fmul q (mm 4) (fm 4))) (fmul q (mm 5) (fm 7)))) 5 (fadd q (fadd q (fadd q 0 (fmul q (mm 3) (fm 2))) (fmul q (mm 4) (fm 5))) (fmul q (mm 5) (fm 8)))) 6 (fadd q (fadd q (fadd q 0 (fmul q (mm 6) (fm 0))) (fmul q (mm 7) (fm 3))) (fmul q (mm 8) (fm 6)))) 7 (fadd q (fadd q (fadd q 0 (fmul q (mm 6) (fm 1))) (fmul q (mm 7) (fm 4))) (fmul q (mm 8) (fm 7)))) 8 (fadd q (fadd q (fadd q 0 (fmul q (mm 6) (fm 2))) (fmul q (mm 7) (fm 5))) (fmul q (mm 8) (fm 8))))))), (bd 3, .inl (cZ, 91, .inl (bF rc))), (ed 0, .inr (2, [.ref (ad 5), .ref (ad 0), .ref (ed 1), .ref (ed 2), .ref (ed 3)])), (ed 1, .inl (cI, 9, .inl (nF fm)))] := hD
  refine lv_iinc (v := nI 3) (lv' := [(3, .int (nI 3)), (5, .int (nI 3)), (4, .int (nI (fadd q (fadd q (fadd q 0 (fmul q (mm 6) (fm 2))) (fmul q (mm 7) (fm 5))) (fmul q (mm 8) (fm 8))))), (2, .int (nI 2)), (0, .ref (bd 0)), (1, .ref (ed 0))]) hx hb dX2_goBehind_84 hl (k := 2) rfl (nI_inc 2) (by decide) rfl (fun ls hl => ?_)
  refine lv_goto (tgt := 9) hx hb dX2_goBehind_87 (by decide) ?_
  refine lv_iload_n hx hb dX2_goBehind_9 rfl (lv_at hl 0 rfl) ?_
  refine lv_iconst (v := nI 3) hx hb dX2_goBehind_10 (by decide) ?_
  refine nv_icmp_ge (tgt := 90) hx hb (by decide) (by decide) dX2_goBehind_11 (by decide) (fun c11 => ?_) (fun c11 => absurd c11 (by omega))
  refine lv_iinc (v := nI 3) (lv' := [(2, .int (nI 3)), (3, .int (nI 3)), (5, .int (nI 3)), (4, .int (nI (fadd q (fadd q (fadd q 0 (fmul q (mm 6) (fm 2))) (fmul q (mm 7) (fm 5))) (fmul q (mm 8) (fm 8))))), (0, .ref (bd 0)), (1, .ref (ed 0))]) hx hb dX2_goBehind_90 hl (k := 3) rfl (nI_inc 2) (by decide) rfl (fun ls hl => ?_)
  refine lv_goto (tgt := 2) hx hb dX2_goBehind_93 (by decide) ?_
  have w0 := k_m 0 (by omega)
  have w1 := k_m 1 (by omega)
  have w2 := k_m 2 (by omega)
  have w3 := k_m 3 (by omega)
  have w4 := k_m 4 (by omega)
  have w5 := k_m 5 (by omega)
  have w6 := k_m 6 (by omega)
  have w7 := k_m 7 (by omega)
  have w8 := k_m 8 (by omega)
  have y0 := k_f 0 (by omega)
  have y1 := k_f 1 (by omega)
  have y2 := k_f 2 (by omega)
  have y3 := k_f 3 (by omega)
  have y4 := k_f 4 (by omega)
  have y5 := k_f 5 (by omega)
  have y6 := k_f 6 (by omega)
  have y7 := k_f 7 (by omega)
  have y8 := k_f 8 (by omega)
  refine lv_iload_n hx hb dX2_goBehind_2 rfl (lv_at hl 0 rfl) ?_
  refine lv_iconst (v := nI 3) hx hb dX2_goBehind_3 (by decide) ?_
  refine nv_icmp_ge (tgt := 96) hx hb (by decide) (by decide) dX2_goBehind_4 (by decide) (fun c4 => ?_) (fun c4 => absurd c4 (by omega))
  refine lv_aload_n hx hb dX2_goBehind_96 rfl (lv_at hl 4 rfl) ?_
  refine ctW_V (As := []) (rest := []) (wr := [(ad 5, .inr (3, [.ref (ad 0), .int (nI (nn q)), .ref (ad 6), .ref (ad 7)])), (ad 6, .inl (cI, 273, .inl (nF tr))), (ad 7, .inl (cI, 910, .inl (nF ro))), (bd 3, .inl (cZ, 91, .inl (bF rc))), (ed 0, .inr (2, [.ref (ad 5), .ref (ad 0), .ref (ed 1), .ref (ed 2), .ref (ed 3)])), (ed 1, .inl (cI, 9, .inl (nF fm)))]) ⟨hx, hb, hml, hown, hts⟩ (c_X2_takeMade l D cI cZ ad q sm pr op iv hF bd mm (upN (upN (upN (upN (upN (upN (upN (upN (upN me 0 (fadd q (fadd q (fadd q 0 (fmul q (mm 0) (fm 0))) (fmul q (mm 1) (fm 3))) (fmul q (mm 2) (fm 6)))) 1 (fadd q (fadd q (fadd q 0 (fmul q (mm 0) (fm 1))) (fmul q (mm 1) (fm 4))) (fmul q (mm 2) (fm 7)))) 2 (fadd q (fadd q (fadd q 0 (fmul q (mm 0) (fm 2))) (fmul q (mm 1) (fm 5))) (fmul q (mm 2) (fm 8)))) 3 (fadd q (fadd q (fadd q 0 (fmul q (mm 3) (fm 0))) (fmul q (mm 4) (fm 3))) (fmul q (mm 5) (fm 6)))) 4 (fadd q (fadd q (fadd q 0 (fmul q (mm 3) (fm 1))) (fmul q (mm 4) (fm 4))) (fmul q (mm 5) (fm 7)))) 5 (fadd q (fadd q (fadd q 0 (fmul q (mm 3) (fm 2))) (fmul q (mm 4) (fm 5))) (fmul q (mm 5) (fm 8)))) 6 (fadd q (fadd q (fadd q 0 (fmul q (mm 6) (fm 0))) (fmul q (mm 7) (fm 3))) (fmul q (mm 8) (fm 6)))) 7 (fadd q (fadd q (fadd q 0 (fmul q (mm 6) (fm 1))) (fmul q (mm 7) (fm 4))) (fmul q (mm 8) (fm 7)))) 8 (fadd q (fadd q (fadd q 0 (fmul q (mm 6) (fm 2))) (fmul q (mm 7) (fm 5))) (fmul q (mm 8) (fm 8)))) (all9 (go_lt hF.1 (by omega) (by omega) (by omega)) (go_lt hF.1 (by omega) (by omega) (by omega)) (go_lt hF.1 (by omega) (by omega) (by omega)) (go_lt hF.1 (by omega) (by omega) (by omega)) (go_lt hF.1 (by omega) (by omega) (by omega)) (go_lt hF.1 (by omega) (by omega) (by omega)) (go_lt hF.1 (by omega) (by omega) (by omega)) (go_lt hF.1 (by omega) (by omega) (by omega)) (go_lt hF.1 (by omega) (by omega) (by omega)))) (cwV 0 hts gX2_goBehind_X2_takeMade rfl rfl rfl hdV_X2_takeMade ⟨Nat.le_of_ble_eq_true rfl, Nat.le_of_ble_eq_true rfl⟩) hK hN hP hD hS hA [0, 1, 2, 3, 4, 8, 9, 10] [5, 6, 7, 11, 12, 13] rfl rfl rfl (by decide) (by decide) (by decide) 8 2 rfl rfl rfl hl.1 rfl (Nat.le_of_ble_eq_true rfl) ⟨Nat.zero_le _, Nat.zero_le _⟩ dX2_goBehind_97 (fun mm_55 H locs hu97 hP hD hS => ?_)
  try dsimp only at hu97
  have hP : va_P D vwCl [(ad 0, .inr (1, [.int (nI q), .ref (ad 1), .ref (ad 2), .ref (ad 3), .ref (ad 4)])), (ad 1, .inl (cI, 81, .inl (nF sm))), (ad 2, .inl (cI, 81, .inl (nF pr))), (ad 3, .inl (cI, 9, .inl (nF op))), (ad 4, .inl (cI, 9, .inl (nF iv))), (ad 5, .inr (3, [.ref (ad 0), .int (nI (nn q)), .ref (ad 6), .ref (ad 7)])), (ad 6, .inl (cI, 273, .inl (nF tr))), (ad 7, .inl (cI, 910, .inl (nF ro))), (bd 0, .inr (2, [.ref (ad 5), .ref (ad 0), .ref (bd 1), .ref (bd 2), .ref (bd 3)])), (bd 1, .inl (cI, 9, .inl (nF mm_55))), (bd 2, .inl (cI, 9, .inl (nF (upN (upN (upN (upN (upN (upN (upN (upN (upN me 0 (fadd q (fadd q (fadd q 0 (fmul q (mm 0) (fm 0))) (fmul q (mm 1) (fm 3))) (fmul q (mm 2) (fm 6)))) 1 (fadd q (fadd q (fadd q 0 (fmul q (mm 0) (fm 1))) (fmul q (mm 1) (fm 4))) (fmul q (mm 2) (fm 7)))) 2 (fadd q (fadd q (fadd q 0 (fmul q (mm 0) (fm 2))) (fmul q (mm 1) (fm 5))) (fmul q (mm 2) (fm 8)))) 3 (fadd q (fadd q (fadd q 0 (fmul q (mm 3) (fm 0))) (fmul q (mm 4) (fm 3))) (fmul q (mm 5) (fm 6)))) 4 (fadd q (fadd q (fadd q 0 (fmul q (mm 3) (fm 1))) (fmul q (mm 4) (fm 4))) (fmul q (mm 5) (fm 7)))) 5 (fadd q (fadd q (fadd q 0 (fmul q (mm 3) (fm 2))) (fmul q (mm 4) (fm 5))) (fmul q (mm 5) (fm 8)))) 6 (fadd q (fadd q (fadd q 0 (fmul q (mm 6) (fm 0))) (fmul q (mm 7) (fm 3))) (fmul q (mm 8) (fm 6)))) 7 (fadd q (fadd q (fadd q 0 (fmul q (mm 6) (fm 1))) (fmul q (mm 7) (fm 4))) (fmul q (mm 8) (fm 7)))) 8 (fadd q (fadd q (fadd q 0 (fmul q (mm 6) (fm 2))) (fmul q (mm 7) (fm 5))) (fmul q (mm 8) (fm 8))))))), (bd 3, .inl (cZ, 91, .inl (bF rc))), (ed 0, .inr (2, [.ref (ad 5), .ref (ad 0), .ref (ed 1), .ref (ed 2), .ref (ed 3)])), (ed 1, .inl (cI, 9, .inl (nF fm)))] H := hP.sub [6, 7, 8, 9, 10, 0, 1, 2, 11, 12, 13, 3, 4, 5] rfl
  have hD : va_D A [(ad 0, .inr (1, [.int (nI q), .ref (ad 1), .ref (ad 2), .ref (ad 3), .ref (ad 4)])), (ad 1, .inl (cI, 81, .inl (nF sm))), (ad 2, .inl (cI, 81, .inl (nF pr))), (ad 3, .inl (cI, 9, .inl (nF op))), (ad 4, .inl (cI, 9, .inl (nF iv))), (ad 5, .inr (3, [.ref (ad 0), .int (nI (nn q)), .ref (ad 6), .ref (ad 7)])), (ad 6, .inl (cI, 273, .inl (nF tr))), (ad 7, .inl (cI, 910, .inl (nF ro))), (bd 0, .inr (2, [.ref (ad 5), .ref (ad 0), .ref (bd 1), .ref (bd 2), .ref (bd 3)])), (bd 1, .inl (cI, 9, .inl (nF mm_55))), (bd 2, .inl (cI, 9, .inl (nF (upN (upN (upN (upN (upN (upN (upN (upN (upN me 0 (fadd q (fadd q (fadd q 0 (fmul q (mm 0) (fm 0))) (fmul q (mm 1) (fm 3))) (fmul q (mm 2) (fm 6)))) 1 (fadd q (fadd q (fadd q 0 (fmul q (mm 0) (fm 1))) (fmul q (mm 1) (fm 4))) (fmul q (mm 2) (fm 7)))) 2 (fadd q (fadd q (fadd q 0 (fmul q (mm 0) (fm 2))) (fmul q (mm 1) (fm 5))) (fmul q (mm 2) (fm 8)))) 3 (fadd q (fadd q (fadd q 0 (fmul q (mm 3) (fm 0))) (fmul q (mm 4) (fm 3))) (fmul q (mm 5) (fm 6)))) 4 (fadd q (fadd q (fadd q 0 (fmul q (mm 3) (fm 1))) (fmul q (mm 4) (fm 4))) (fmul q (mm 5) (fm 7)))) 5 (fadd q (fadd q (fadd q 0 (fmul q (mm 3) (fm 2))) (fmul q (mm 4) (fm 5))) (fmul q (mm 5) (fm 8)))) 6 (fadd q (fadd q (fadd q 0 (fmul q (mm 6) (fm 0))) (fmul q (mm 7) (fm 3))) (fmul q (mm 8) (fm 6)))) 7 (fadd q (fadd q (fadd q 0 (fmul q (mm 6) (fm 1))) (fmul q (mm 7) (fm 4))) (fmul q (mm 8) (fm 7)))) 8 (fadd q (fadd q (fadd q 0 (fmul q (mm 6) (fm 2))) (fmul q (mm 7) (fm 5))) (fmul q (mm 8) (fm 8))))))), (bd 3, .inl (cZ, 91, .inl (bF rc))), (ed 0, .inr (2, [.ref (ad 5), .ref (ad 0), .ref (ed 1), .ref (ed 2), .ref (ed 3)])), (ed 1, .inl (cI, 9, .inl (nF fm)))] := hD.sub [6, 7, 8, 9, 10, 0, 1, 2, 11, 12, 13, 3, 4, 5] (by decide) rfl
  refine W.eq (g2 := F0 m 100 ls []) rfl ?_
  exact ctW_retV (mm_55, (upN (upN (upN (upN (upN (upN (upN (upN (upN me 0 (fadd q (fadd q (fadd q 0 (fmul q (mm 0) (fm 0))) (fmul q (mm 1) (fm 3))) (fmul q (mm 2) (fm 6)))) 1 (fadd q (fadd q (fadd q 0 (fmul q (mm 0) (fm 1))) (fmul q (mm 1) (fm 4))) (fmul q (mm 2) (fm 7)))) 2 (fadd q (fadd q (fadd q 0 (fmul q (mm 0) (fm 2))) (fmul q (mm 1) (fm 5))) (fmul q (mm 2) (fm 8)))) 3 (fadd q (fadd q (fadd q 0 (fmul q (mm 3) (fm 0))) (fmul q (mm 4) (fm 3))) (fmul q (mm 5) (fm 6)))) 4 (fadd q (fadd q (fadd q 0 (fmul q (mm 3) (fm 1))) (fmul q (mm 4) (fm 4))) (fmul q (mm 5) (fm 7)))) 5 (fadd q (fadd q (fadd q 0 (fmul q (mm 3) (fm 2))) (fmul q (mm 4) (fm 5))) (fmul q (mm 5) (fm 8)))) 6 (fadd q (fadd q (fadd q 0 (fmul q (mm 6) (fm 0))) (fmul q (mm 7) (fm 3))) (fmul q (mm 8) (fm 6)))) 7 (fadd q (fadd q (fadd q 0 (fmul q (mm 6) (fm 1))) (fmul q (mm 7) (fm 4))) (fmul q (mm 8) (fm 7)))) 8 (fadd q (fadd q (fadd q 0 (fmul q (mm 6) (fm 2))) (fmul q (mm 7) (fm 5))) (fmul q (mm 8) (fm 8))))) hx hb hr dX2_goBehind_100 hlocks hS hP hD (by dsimp only; exact (fun t ht => by rw [hu97 t ht]; exact tld_congr ht (all9 (go_eq hF.1 (by omega)) (go_eq hF.1 (by omega)) (go_eq hF.1 (by omega)) (go_eq hF.1 (by omega)) (go_eq hF.1 (by omega)) (go_eq hF.1 (by omega)) (go_eq hF.1 (by omega)) (go_eq hF.1 (by omega)) (go_eq hF.1 (by omega))))) rfl

set_option maxHeartbeats 4000000 in
set_option maxRecDepth 100000 in
theorem c_X2_carry (l : Launch) (D : va_G) (cI cZ : ClassId) (ad : Nat → Nat) (q : Nat) (sm : Nat → Nat) (pr : Nat → Nat) (op : Nat → Nat) (iv : Nat → Nat) (hF : FOK q sm pr op iv) (tr : Nat → Nat) (ro : Nat → Nat) (hT : TOK q tr) (bd : Nat → Nat) (mm : Nat → Nat) (me : Nat → Nat) (rc : Nat → Bool) (aS : Nat) (S : Nat → Bool) (k_m : MPK q mm) : CtW (S := (Nat → Bool) × (Nat → Bool)) l yX2_carry wsX2_carry { frames := 3, cells := 0, slots := 0, locals := 67 } D (tyG cI cZ) [.ref (bd 0), .ref aS] [(ad 0, .inr (1, [.int (nI q), .ref (ad 1), .ref (ad 2), .ref (ad 3), .ref (ad 4)])), (ad 1, .inl (cI, 81, .inl (nF sm))), (ad 2, .inl (cI, 81, .inl (nF pr))), (ad 3, .inl (cI, 9, .inl (nF op))), (ad 4, .inl (cI, 9, .inl (nF iv))), (ad 5, .inr (3, [.ref (ad 0), .int (nI (nn q)), .ref (ad 6), .ref (ad 7)])), (ad 6, .inl (cI, 273, .inl (nF tr))), (ad 7, .inl (cI, 910, .inl (nF ro))), (bd 0, .inr (2, [.ref (ad 5), .ref (ad 0), .ref (bd 1), .ref (bd 2), .ref (bd 3)])), (bd 1, .inl (cI, 9, .inl (nF mm))), (bd 2, .inl (cI, 9, .inl (nF me))), (bd 3, .inl (cZ, 91, .inl (bF rc))), (aS, .inl (cZ, 91, .inl (bF S)))] (fun u => (fun (rc3 : Nat → Bool) (S3 : Nat → Bool) => ∀ t, t < nn q → S3 t = movq q mm S t) u.1 u.2) (fun u => (fun (rc3 : Nat → Bool) (S3 : Nat → Bool) => none) u.1 u.2) (fun u => (fun (rc3 : Nat → Bool) (S3 : Nat → Bool) => [(ad 0, .inr (1, [.int (nI q), .ref (ad 1), .ref (ad 2), .ref (ad 3), .ref (ad 4)])), (ad 1, .inl (cI, 81, .inl (nF sm))), (ad 2, .inl (cI, 81, .inl (nF pr))), (ad 3, .inl (cI, 9, .inl (nF op))), (ad 4, .inl (cI, 9, .inl (nF iv))), (ad 5, .inr (3, [.ref (ad 0), .int (nI (nn q)), .ref (ad 6), .ref (ad 7)])), (ad 6, .inl (cI, 273, .inl (nF tr))), (ad 7, .inl (cI, 910, .inl (nF ro))), (bd 0, .inr (2, [.ref (ad 5), .ref (ad 0), .ref (bd 1), .ref (bd 2), .ref (bd 3)])), (bd 1, .inl (cI, 9, .inl (nF mm))), (bd 2, .inl (cI, 9, .inl (nF me))), (bd 3, .inl (cZ, 91, .inl (bF rc3))), (aS, .inl (cZ, 91, .inl (bF S3)))]) u.1 u.2) := by
  intro sz; refine Met.ofW (cc := cX2_carry) (maxL := 4) (ret := none) (by decide) rfl ?_
  intro p e s m args below meth c s₁ B hml hv
  obtain ⟨rfl, hsz, hP, hK, hD0, hN⟩ := hv
  have hx := B.exec
  have hb := B.bytes
  have hr := B.returns
  have hts := atoms_spec (ws := wsX2_carry) B.pre
  have hown : s.vm.findClass RX2 = some m.cls := findClass_of_methodNamed B.named
  have hlocks := B.notSynchronized
  subst hsz
  have hD := hD0.self (sz := s.heap.size)
  generalize hAe : va_A [(ad 0, .inr (1, [.int (nI q), .ref (ad 1), .ref (ad 2), .ref (ad 3), .ref (ad 4)])), (ad 1, .inl (cI, 81, .inl (nF sm))), (ad 2, .inl (cI, 81, .inl (nF pr))), (ad 3, .inl (cI, 9, .inl (nF op))), (ad 4, .inl (cI, 9, .inl (nF iv))), (ad 5, .inr (3, [.ref (ad 0), .int (nI (nn q)), .ref (ad 6), .ref (ad 7)])), (ad 6, .inl (cI, 273, .inl (nF tr))), (ad 7, .inl (cI, 910, .inl (nF ro))), (bd 0, .inr (2, [.ref (ad 5), .ref (ad 0), .ref (bd 1), .ref (bd 2), .ref (bd 3)])), (bd 1, .inl (cI, 9, .inl (nF mm))), (bd 2, .inl (cI, 9, .inl (nF me))), (bd 3, .inl (cZ, 91, .inl (bF rc))), (aS, .inl (cZ, 91, .inl (bF S)))] s.heap.size = A at hD ⊢
  have hA : ∀ q : Nat, s.heap.size ≤ q → A q := fun q h => by rw [← hAe]; exact Or.inr h
  have hS : va_S A s.heap s.heap [] := va_S.rf
  have hP : va_P D vwCl [(ad 0, .inr (1, [.int (nI q), .ref (ad 1), .ref (ad 2), .ref (ad 3), .ref (ad 4)])), (ad 1, .inl (cI, 81, .inl (nF sm))), (ad 2, .inl (cI, 81, .inl (nF pr))), (ad 3, .inl (cI, 9, .inl (nF op))), (ad 4, .inl (cI, 9, .inl (nF iv))), (ad 5, .inr (3, [.ref (ad 0), .int (nI (nn q)), .ref (ad 6), .ref (ad 7)])), (ad 6, .inl (cI, 273, .inl (nF tr))), (ad 7, .inl (cI, 910, .inl (nF ro))), (bd 0, .inr (2, [.ref (ad 5), .ref (ad 0), .ref (bd 1), .ref (bd 2), .ref (bd 3)])), (bd 1, .inl (cI, 9, .inl (nF mm))), (bd 2, .inl (cI, 9, .inl (nF me))), (bd 3, .inl (cZ, 91, .inl (bF rc))), (aS, .inl (cZ, 91, .inl (bF S)))] s.heap := hP
  have hf18 := hts (.fieldLink RX2 18 "FinitePlanes$Mapping" "reached" "[Z") (by decide +kernel)
  have hf22 := hts (.fieldLink RX2 22 "FinitePlanes$Mapping" "plane" "LFinitePlanes$Plane;") (by decide +kernel)
  have hf66 := hN.use (w := .fieldLinkNest RX2 66 "FinitePlanes$Plane" "n" "I" "FinitePlanes") (by decide +kernel) (A := [.ref (bd 0), .ref aS].toArray)
  have hiX2 : ∀ w ∈ u_ws RX2 TX2 5, w ∈ wsX2_carry := by decide +kernel
  have hiX3 : ∀ w ∈ u_ws RX3 TX3 4, w ∈ wsX2_carry := by decide +kernel
  have hl := lv_entry ([.ref (bd 0), .ref aS]) (n := 4) (Nat.le_of_ble_eq_true rfl)
  rw [lg_entry_eq]
  generalize (lg_sl ([.ref (bd 0), .ref aS]) ++ List.replicate (4 - (lg_sl ([.ref (bd 0), .ref aS])).length) Slot.unset).toArray = ls at hl ⊢
  have hl : lv_has ls 4 [(0, .ref (bd 0)), (1, .ref aS)] := hl
  have hq2 := qs_le hF.1
  have hn2 := nn_le hF.1
  refine lv_iconst (v := nI 0) hx hb dX2_carry_0 (by decide) ?_
  refine lv_istore_n (lv' := [(2, .int (nI 0)), (0, .ref (bd 0)), (1, .ref aS)]) hx hb dX2_carry_1 rfl hl (by decide) rfl (fun ls hl => ?_)
  have L2 : ∀ (N2 : Nat) (i : Nat) (r1 : Nat → Bool) (ls : Array Slot) (H : Heap) (locs : List Loc), nn q - i < N2 → (i ≤ nn q) → (∀ t, t < i → r1 t = false) → lv_has ls 4 [(0, .ref (bd 0)), (1, .ref aS), (2, .int (nI i))] → va_P D vwCl [(ad 0, .inr (1, [.int (nI q), .ref (ad 1), .ref (ad 2), .ref (ad 3), .ref (ad 4)])), (ad 1, .inl (cI, 81, .inl (nF sm))), (ad 2, .inl (cI, 81, .inl (nF pr))), (ad 3, .inl (cI, 9, .inl (nF op))), (ad 4, .inl (cI, 9, .inl (nF iv))), (ad 5, .inr (3, [.ref (ad 0), .int (nI (nn q)), .ref (ad 6), .ref (ad 7)])), (ad 6, .inl (cI, 273, .inl (nF tr))), (ad 7, .inl (cI, 910, .inl (nF ro))), (bd 0, .inr (2, [.ref (ad 5), .ref (ad 0), .ref (bd 1), .ref (bd 2), .ref (bd 3)])), (bd 1, .inl (cI, 9, .inl (nF mm))), (bd 2, .inl (cI, 9, .inl (nF me))), (bd 3, .inl (cZ, 91, .inl (bF r1))), (aS, .inl (cZ, 91, .inl (bF S)))] H → va_D A [(ad 0, .inr (1, [.int (nI q), .ref (ad 1), .ref (ad 2), .ref (ad 3), .ref (ad 4)])), (ad 1, .inl (cI, 81, .inl (nF sm))), (ad 2, .inl (cI, 81, .inl (nF pr))), (ad 3, .inl (cI, 9, .inl (nF op))), (ad 4, .inl (cI, 9, .inl (nF iv))), (ad 5, .inr (3, [.ref (ad 0), .int (nI (nn q)), .ref (ad 6), .ref (ad 7)])), (ad 6, .inl (cI, 273, .inl (nF tr))), (ad 7, .inl (cI, 910, .inl (nF ro))), (bd 0, .inr (2, [.ref (ad 5), .ref (ad 0), .ref (bd 1), .ref (bd 2), .ref (bd 3)])), (bd 1, .inl (cI, 9, .inl (nF mm))), (bd 2, .inl (cI, 9, .inl (nF me))), (bd 3, .inl (cZ, 91, .inl (bF r1))), (aS, .inl (cZ, 91, .inl (bF S)))] → va_S A s.heap H locs → WG p l e wsX2_carry { frames := 3, cells := 0, slots := 0, locals := 67 } s m [.ref (bd 0), .ref aS] below meth c H locs (CQ (S := (Nat → Bool) × (Nat → Bool)) D (fun u => (fun (rc3 : Nat → Bool) (S3 : Nat → Bool) => ∀ t, t < nn q → S3 t = movq q mm S t) u.1 u.2) (fun u => (fun (rc3 : Nat → Bool) (S3 : Nat → Bool) => none) u.1 u.2) (fun u => (fun (rc3 : Nat → Bool) (S3 : Nat → Bool) => [(ad 0, .inr (1, [.int (nI q), .ref (ad 1), .ref (ad 2), .ref (ad 3), .ref (ad 4)])), (ad 1, .inl (cI, 81, .inl (nF sm))), (ad 2, .inl (cI, 81, .inl (nF pr))), (ad 3, .inl (cI, 9, .inl (nF op))), (ad 4, .inl (cI, 9, .inl (nF iv))), (ad 5, .inr (3, [.ref (ad 0), .int (nI (nn q)), .ref (ad 6), .ref (ad 7)])), (ad 6, .inl (cI, 273, .inl (nF tr))), (ad 7, .inl (cI, 910, .inl (nF ro))), (bd 0, .inr (2, [.ref (ad 5), .ref (ad 0), .ref (bd 1), .ref (bd 2), .ref (bd 3)])), (bd 1, .inl (cI, 9, .inl (nF mm))), (bd 2, .inl (cI, 9, .inl (nF me))), (bd 3, .inl (cZ, 91, .inl (bF rc3))), (aS, .inl (cZ, 91, .inl (bF S3)))]) u.1 u.2) A) A 2 ls [] := by
    intro N2
    induction N2 with
    | zero => intro i r1 ls H locs hN; exact absurd hN (Nat.not_lt_zero _)
    | succ N2 ih2 =>
      intro i r1 ls H locs hN2 k_i k_r hl hP hD hS
      refine lv_iload_n hx hb dX2_carry_2 rfl (lv_at hl 2 rfl) ?_
      refine lv_aload_n hx hb dX2_carry_3 rfl (lv_at hl 0 rfl) ?_
      refine va_get (D := D) (ci := 2) (v := .ref (ad 5)) (C := RX2) (T := TX2) (N := 5) hx hb hts hiX2 hown hK hP 8 rfl rfl 0 (by decide) hf22 (fun _ h9 => h9) rfl dX2_carry_4 ?_
      refine va_getN (D := D) (ci := 3) (v := .int (nI (nn q))) (C := RX3) (T := TX3) (N := 4) hx hb hts hiX3 hown hK hP 5 rfl rfl 1 (by decide) hf66 (fun _ h9 => h9) rfl dX2_carry_7 ?_
      refine nv_icmp_ge (tgt := 26) hx hb (by omega) (by omega) dX2_carry_10 (by decide) (fun c10 => ?_) (fun c10 => ?_)
      · refine lv_iconst (v := nI 0) hx hb dX2_carry_26 (by decide) ?_
        refine lv_istore_n (lv' := [(2, .int (nI 0)), (0, .ref (bd 0)), (1, .ref aS)]) hx hb dX2_carry_27 rfl hl (by decide) rfl (fun ls hl => ?_)
        have L28 : ∀ (N28 : Nat) (g : Nat) (r2 : Nat → Bool) (ls : Array Slot) (H : Heap) (locs : List Loc), nn q - g < N28 → (g ≤ nn q) → (∀ t, t < nn q → r2 t = anyB (fun p => S p && decide (imgZ q mm p = nI t)) g) → lv_has ls 4 [(0, .ref (bd 0)), (1, .ref aS), (2, .int (nI g))] → va_P D vwCl [(ad 0, .inr (1, [.int (nI q), .ref (ad 1), .ref (ad 2), .ref (ad 3), .ref (ad 4)])), (ad 1, .inl (cI, 81, .inl (nF sm))), (ad 2, .inl (cI, 81, .inl (nF pr))), (ad 3, .inl (cI, 9, .inl (nF op))), (ad 4, .inl (cI, 9, .inl (nF iv))), (ad 5, .inr (3, [.ref (ad 0), .int (nI (nn q)), .ref (ad 6), .ref (ad 7)])), (ad 6, .inl (cI, 273, .inl (nF tr))), (ad 7, .inl (cI, 910, .inl (nF ro))), (bd 0, .inr (2, [.ref (ad 5), .ref (ad 0), .ref (bd 1), .ref (bd 2), .ref (bd 3)])), (bd 1, .inl (cI, 9, .inl (nF mm))), (bd 2, .inl (cI, 9, .inl (nF me))), (bd 3, .inl (cZ, 91, .inl (bF r2))), (aS, .inl (cZ, 91, .inl (bF S)))] H → va_D A [(ad 0, .inr (1, [.int (nI q), .ref (ad 1), .ref (ad 2), .ref (ad 3), .ref (ad 4)])), (ad 1, .inl (cI, 81, .inl (nF sm))), (ad 2, .inl (cI, 81, .inl (nF pr))), (ad 3, .inl (cI, 9, .inl (nF op))), (ad 4, .inl (cI, 9, .inl (nF iv))), (ad 5, .inr (3, [.ref (ad 0), .int (nI (nn q)), .ref (ad 6), .ref (ad 7)])), (ad 6, .inl (cI, 273, .inl (nF tr))), (ad 7, .inl (cI, 910, .inl (nF ro))), (bd 0, .inr (2, [.ref (ad 5), .ref (ad 0), .ref (bd 1), .ref (bd 2), .ref (bd 3)])), (bd 1, .inl (cI, 9, .inl (nF mm))), (bd 2, .inl (cI, 9, .inl (nF me))), (bd 3, .inl (cZ, 91, .inl (bF r2))), (aS, .inl (cZ, 91, .inl (bF S)))] → va_S A s.heap H locs → WG p l e wsX2_carry { frames := 3, cells := 0, slots := 0, locals := 67 } s m [.ref (bd 0), .ref aS] below meth c H locs (CQ (S := (Nat → Bool) × (Nat → Bool)) D (fun u => (fun (rc3 : Nat → Bool) (S3 : Nat → Bool) => ∀ t, t < nn q → S3 t = movq q mm S t) u.1 u.2) (fun u => (fun (rc3 : Nat → Bool) (S3 : Nat → Bool) => none) u.1 u.2) (fun u => (fun (rc3 : Nat → Bool) (S3 : Nat → Bool) => [(ad 0, .inr (1, [.int (nI q), .ref (ad 1), .ref (ad 2), .ref (ad 3), .ref (ad 4)])), (ad 1, .inl (cI, 81, .inl (nF sm))), (ad 2, .inl (cI, 81, .inl (nF pr))), (ad 3, .inl (cI, 9, .inl (nF op))), (ad 4, .inl (cI, 9, .inl (nF iv))), (ad 5, .inr (3, [.ref (ad 0), .int (nI (nn q)), .ref (ad 6), .ref (ad 7)])), (ad 6, .inl (cI, 273, .inl (nF tr))), (ad 7, .inl (cI, 910, .inl (nF ro))), (bd 0, .inr (2, [.ref (ad 5), .ref (ad 0), .ref (bd 1), .ref (bd 2), .ref (bd 3)])), (bd 1, .inl (cI, 9, .inl (nF mm))), (bd 2, .inl (cI, 9, .inl (nF me))), (bd 3, .inl (cZ, 91, .inl (bF rc3))), (aS, .inl (cZ, 91, .inl (bF S3)))]) u.1 u.2) A) A 28 ls [] := by
          intro N28
          induction N28 with
          | zero => intro g r2 ls H locs hN; exact absurd hN (Nat.not_lt_zero _)
          | succ N28 ih28 =>
            intro g r2 ls H locs hN28 k_g k_s hl hP hD hS
            refine lv_iload_n hx hb dX2_carry_28 rfl (lv_at hl 2 rfl) ?_
            refine lv_aload_n hx hb dX2_carry_29 rfl (lv_at hl 0 rfl) ?_
            refine va_get (D := D) (ci := 2) (v := .ref (ad 5)) (C := RX2) (T := TX2) (N := 5) hx hb hts hiX2 hown hK hP 8 rfl rfl 0 (by decide) hf22 (fun _ h9 => h9) rfl dX2_carry_30 ?_
            refine va_getN (D := D) (ci := 3) (v := .int (nI (nn q))) (C := RX3) (T := TX3) (N := 4) hx hb hts hiX3 hown hK hP 5 rfl rfl 1 (by decide) hf66 (fun _ h9 => h9) rfl dX2_carry_33 ?_
            refine nv_icmp_ge (tgt := 75) hx hb (by omega) (by omega) dX2_carry_36 (by decide) (fun c36 => ?_) (fun c36 => ?_)
            · refine lv_iconst (v := nI 0) hx hb dX2_carry_75 (by decide) ?_
              refine lv_istore_n (lv' := [(2, .int (nI 0)), (0, .ref (bd 0)), (1, .ref aS)]) hx hb dX2_carry_76 rfl hl (by decide) rfl (fun ls hl => ?_)
              have L77 : ∀ (N77 : Nat) (h : Nat) (S1 : Nat → Bool) (ls : Array Slot) (H : Heap) (locs : List Loc), nn q - h < N77 → (h ≤ nn q) → (∀ t, t < h → S1 t = r2 t) → lv_has ls 4 [(0, .ref (bd 0)), (1, .ref aS), (2, .int (nI h))] → va_P D vwCl [(ad 0, .inr (1, [.int (nI q), .ref (ad 1), .ref (ad 2), .ref (ad 3), .ref (ad 4)])), (ad 1, .inl (cI, 81, .inl (nF sm))), (ad 2, .inl (cI, 81, .inl (nF pr))), (ad 3, .inl (cI, 9, .inl (nF op))), (ad 4, .inl (cI, 9, .inl (nF iv))), (ad 5, .inr (3, [.ref (ad 0), .int (nI (nn q)), .ref (ad 6), .ref (ad 7)])), (ad 6, .inl (cI, 273, .inl (nF tr))), (ad 7, .inl (cI, 910, .inl (nF ro))), (bd 0, .inr (2, [.ref (ad 5), .ref (ad 0), .ref (bd 1), .ref (bd 2), .ref (bd 3)])), (bd 1, .inl (cI, 9, .inl (nF mm))), (bd 2, .inl (cI, 9, .inl (nF me))), (bd 3, .inl (cZ, 91, .inl (bF r2))), (aS, .inl (cZ, 91, .inl (bF S1)))] H → va_D A [(ad 0, .inr (1, [.int (nI q), .ref (ad 1), .ref (ad 2), .ref (ad 3), .ref (ad 4)])), (ad 1, .inl (cI, 81, .inl (nF sm))), (ad 2, .inl (cI, 81, .inl (nF pr))), (ad 3, .inl (cI, 9, .inl (nF op))), (ad 4, .inl (cI, 9, .inl (nF iv))), (ad 5, .inr (3, [.ref (ad 0), .int (nI (nn q)), .ref (ad 6), .ref (ad 7)])), (ad 6, .inl (cI, 273, .inl (nF tr))), (ad 7, .inl (cI, 910, .inl (nF ro))), (bd 0, .inr (2, [.ref (ad 5), .ref (ad 0), .ref (bd 1), .ref (bd 2), .ref (bd 3)])), (bd 1, .inl (cI, 9, .inl (nF mm))), (bd 2, .inl (cI, 9, .inl (nF me))), (bd 3, .inl (cZ, 91, .inl (bF r2))), (aS, .inl (cZ, 91, .inl (bF S1)))] → va_S A s.heap H locs → WG p l e wsX2_carry { frames := 3, cells := 0, slots := 0, locals := 67 } s m [.ref (bd 0), .ref aS] below meth c H locs (CQ (S := (Nat → Bool) × (Nat → Bool)) D (fun u => (fun (rc3 : Nat → Bool) (S3 : Nat → Bool) => ∀ t, t < nn q → S3 t = movq q mm S t) u.1 u.2) (fun u => (fun (rc3 : Nat → Bool) (S3 : Nat → Bool) => none) u.1 u.2) (fun u => (fun (rc3 : Nat → Bool) (S3 : Nat → Bool) => [(ad 0, .inr (1, [.int (nI q), .ref (ad 1), .ref (ad 2), .ref (ad 3), .ref (ad 4)])), (ad 1, .inl (cI, 81, .inl (nF sm))), (ad 2, .inl (cI, 81, .inl (nF pr))), (ad 3, .inl (cI, 9, .inl (nF op))), (ad 4, .inl (cI, 9, .inl (nF iv))), (ad 5, .inr (3, [.ref (ad 0), .int (nI (nn q)), .ref (ad 6), .ref (ad 7)])), (ad 6, .inl (cI, 273, .inl (nF tr))), (ad 7, .inl (cI, 910, .inl (nF ro))), (bd 0, .inr (2, [.ref (ad 5), .ref (ad 0), .ref (bd 1), .ref (bd 2), .ref (bd 3)])), (bd 1, .inl (cI, 9, .inl (nF mm))), (bd 2, .inl (cI, 9, .inl (nF me))), (bd 3, .inl (cZ, 91, .inl (bF rc3))), (aS, .inl (cZ, 91, .inl (bF S3)))]) u.1 u.2) A) A 77 ls [] := by
                intro N77
                induction N77 with
                | zero => intro h S1 ls H locs hN; exact absurd hN (Nat.not_lt_zero _)
                | succ N77 ih77 =>
                  intro h S1 ls H locs hN77 k_h k_t hl hP hD hS
                  refine lv_iload_n hx hb dX2_carry_77 rfl (lv_at hl 2 rfl) ?_
                  refine lv_aload_n hx hb dX2_carry_78 rfl (lv_at hl 0 rfl) ?_
                  refine va_get (D := D) (ci := 2) (v := .ref (ad 5)) (C := RX2) (T := TX2) (N := 5) hx hb hts hiX2 hown hK hP 8 rfl rfl 0 (by decide) hf22 (fun _ h9 => h9) rfl dX2_carry_79 ?_
                  refine va_getN (D := D) (ci := 3) (v := .int (nI (nn q))) (C := RX3) (T := TX3) (N := 4) hx hb hts hiX3 hown hK hP 5 rfl rfl 1 (by decide) hf66 (fun _ h9 => h9) rfl dX2_carry_82 ?_
                  refine nv_icmp_ge (tgt := 103) hx hb (by omega) (by omega) dX2_carry_85 (by decide) (fun c85 => ?_) (fun c85 => ?_)
                  · exact ctW_retV (r2, S1) hx hb hr dX2_carry_103 hlocks hS hP hD (by dsimp only; exact (fun t ht => by rw [k_t t (by omega), k_s t ht, show g = nn q by omega]; rfl)) rfl
                  · refine lv_aload_n hx hb dX2_carry_88 rfl (lv_at hl 1 rfl) ?_
                    refine lv_iload_n hx hb dX2_carry_89 rfl (lv_at hl 2 rfl) ?_
                    refine lv_aload_n hx hb dX2_carry_90 rfl (lv_at hl 0 rfl) ?_
                    refine va_get (D := D) (ci := 2) (v := .ref (bd 3)) (C := RX2) (T := TX2) (N := 5) hx hb hts hiX2 hown hK hP 8 rfl rfl 4 (by decide) hf18 (fun _ h9 => h9) rfl dX2_carry_91 ?_
                    refine lv_iload_n hx hb dX2_carry_94 rfl (lv_at hl 2 rfl) ?_
                    refine nv_zald hx hb hK hP 11 1 rfl rfl (by omega) (by decide) dX2_carry_95 ?_
                    refine nv_zast hx hb hK hP hD hS 12 1 rfl rfl (r2 h) (by omega) (by decide) dX2_carry_96 (fun H locs hP hD hS => ?_)
                    have hP : va_P D vwCl [(ad 0, .inr (1, [.int (nI q), .ref (ad 1), .ref (ad 2), .ref (ad 3), .ref (ad 4)])), (ad 1, .inl (cI, 81, .inl (nF sm))), (ad 2, .inl (cI, 81, .inl (nF pr))), (ad 3, .inl (cI, 9, .inl (nF op))), (ad 4, .inl (cI, 9, .inl (nF iv))), (ad 5, .inr (3, [.ref (ad 0), .int (nI (nn q)), .ref (ad 6), .ref (ad 7)])), (ad 6, .inl (cI, 273, .inl (nF tr))), (ad 7, .inl (cI, 910, .inl (nF ro))), (bd 0, .inr (2, [.ref (ad 5), .ref (ad 0), .ref (bd 1), .ref (bd 2), .ref (bd 3)])), (bd 1, .inl (cI, 9, .inl (nF mm))), (bd 2, .inl (cI, 9, .inl (nF me))), (bd 3, .inl (cZ, 91, .inl (bF r2))), (aS, .inl (cZ, 91, .inl (bF (upB S1 h (r2 h)))))] H := hP
                    have hD : va_D A [(ad 0, .inr (1, [.int (nI q), .ref (ad 1), .ref (ad 2), .ref (ad 3), .ref (ad 4)])), (ad 1, .inl (cI, 81, .inl (nF sm))), (ad 2, .inl (cI, 81, .inl (nF pr))), (ad 3, .inl (cI, 9, .inl (nF op))), (ad 4, .inl (cI, 9, .inl (nF iv))), (ad 5, .inr (3, [.ref (ad 0), .int (nI (nn q)), .ref (ad 6), .ref (ad 7)])), (ad 6, .inl (cI, 273, .inl (nF tr))), (ad 7, .inl (cI, 910, .inl (nF ro))), (bd 0, .inr (2, [.ref (ad 5), .ref (ad 0), .ref (bd 1), .ref (bd 2), .ref (bd 3)])), (bd 1, .inl (cI, 9, .inl (nF mm))), (bd 2, .inl (cI, 9, .inl (nF me))), (bd 3, .inl (cZ, 91, .inl (bF r2))), (aS, .inl (cZ, 91, .inl (bF (upB S1 h (r2 h)))))] := hD
                    refine lv_iinc (v := nI (h + 1)) (lv' := [(2, .int (nI (h + 1))), (0, .ref (bd 0)), (1, .ref aS)]) hx hb dX2_carry_97 hl (k := 2) rfl (nI_inc h) (by decide) rfl (fun ls hl => ?_)
                    refine lv_goto (tgt := 77) hx hb dX2_carry_100 (by decide) ?_
                    exact ih77 (h + 1) (upB S1 h (r2 h)) ls _ _ (by omega) (by omega) (fun t ht => (Nat.lt_succ_iff_lt_or_eq.mp ht).elim (fun h => by rw [upB_n (by omega)]; exact k_t t h) (fun h => by rw [h, upB_s])) (lv_sub hl [1, 2, 0] rfl) hP hD hS
              exact L77 (nn q - 0 + 1) 0 S ls _ _ (by omega) (Nat.zero_le _) (fun t h => absurd h (Nat.not_lt_zero t)) (lv_sub hl [1, 2, 0] rfl) hP hD hS
            · refine lv_aload_n hx hb dX2_carry_39 rfl (lv_at hl 1 rfl) ?_
              refine lv_iload_n hx hb dX2_carry_40 rfl (lv_at hl 2 rfl) ?_
              refine nv_zald hx hb hK hP 12 1 rfl rfl (by omega) (by decide) dX2_carry_41 ?_
              refine nv_ifb_eq (tgt := 53) hx hb dX2_carry_42 (by decide) (fun c42 => ?_) (fun c42 => ?_)
              · refine lv_bipush (v := (-3)) hx hb dX2_carry_53 (by decide) ?_
                refine lv_istore_n (lv' := [(3, .int (-3)), (0, .ref (bd 0)), (1, .ref aS), (2, .int (nI g))]) hx hb dX2_carry_55 rfl hl (by decide) rfl (fun ls hl => ?_)
                refine lv_iload_n hx hb dX2_carry_56 rfl (lv_at hl 0 rfl) ?_
                refine lv_bipush (v := (-3)) hx hb dX2_carry_57 (by decide) ?_
                refine lv_icmp_eq (tgt := 69) hx hb dX2_carry_59 (by decide) (fun _ => ?_) (fun h => absurd rfl h)
                refine lv_iinc (v := nI (g + 1)) (lv' := [(2, .int (nI (g + 1))), (3, .int (-3)), (0, .ref (bd 0)), (1, .ref aS)]) hx hb dX2_carry_69 hl (k := 3) rfl (nI_inc g) (by decide) rfl (fun ls hl => ?_)
                refine lv_goto (tgt := 28) hx hb dX2_carry_72 (by decide) ?_
                exact ih28 (g + 1) r2 ls _ _ (by omega) (by omega) (fun t ht => by rw [anyB, c42, k_s t ht]; simp) (lv_sub hl [2, 3, 0] rfl) hP hD hS
              · refine lv_aload_n hx hb dX2_carry_45 rfl (lv_at hl 0 rfl) ?_
                refine lv_iload_n hx hb dX2_carry_46 rfl (lv_at hl 2 rfl) ?_
                refine ctR_V (As := [.int (nI g)]) (rest := []) (r := .int (imgZ q mm g)) ⟨hx, hb, hml, hown, hts⟩ (c_X2_goesTo l D cI cZ ad q sm pr op iv hF tr ro hT bd mm me r2 k_m g (by omega)) (cwV 1 hts gX2_carry_X2_goesTo rfl rfl rfl hdV_X2_goesTo ⟨Nat.le_of_ble_eq_true rfl, Nat.le_of_ble_eq_true rfl⟩) hK hN hP [0, 1, 2, 3, 4, 5, 6, 7, 8, 9, 10, 11] rfl 8 2 rfl rfl rfl hl.1 rfl (Nat.le_of_ble_eq_true rfl) ⟨Nat.zero_le _, Nat.zero_le _⟩ dX2_carry_47 ?_
                refine lv_goto (tgt := 55) hx hb dX2_carry_50 (by decide) ?_
                refine lv_istore_n (lv' := [(3, .int (imgZ q mm g)), (0, .ref (bd 0)), (1, .ref aS), (2, .int (nI g))]) hx hb dX2_carry_55 rfl hl (by decide) rfl (fun ls hl => ?_)
                refine lv_iload_n hx hb dX2_carry_56 rfl (lv_at hl 0 rfl) ?_
                refine lv_bipush (v := (-3)) hx hb dX2_carry_57 (by decide) ?_
                refine lv_icmp_eq (tgt := 69) hx hb dX2_carry_59 (by decide) (fun c59 => ?_) (fun c59 => ?_)
                · refine lv_iinc (v := nI (g + 1)) (lv' := [(2, .int (nI (g + 1))), (3, .int (imgZ q mm g)), (0, .ref (bd 0)), (1, .ref aS)]) hx hb dX2_carry_69 hl (k := 3) rfl (nI_inc g) (by decide) rfl (fun ls hl => ?_)
                  refine lv_goto (tgt := 28) hx hb dX2_carry_72 (by decide) ?_
                  exact ih28 (g + 1) r2 ls _ _ (by omega) (by omega) (fun t ht => by rw [anyB, c59, k_s t ht, decide_eq_false (m3_ne (by omega)), Bool.and_false, Bool.or_false]) (lv_sub hl [2, 3, 0] rfl) hP hD hS
                · obtain ⟨j, hj, ej⟩ := img_cases hF.1 k_m (by omega) c59
                  refine lv_aload_n hx hb dX2_carry_62 rfl (lv_at hl 1 rfl) ?_
                  refine va_get (D := D) (ci := 2) (v := .ref (bd 3)) (C := RX2) (T := TX2) (N := 5) hx hb hts hiX2 hown hK hP 8 rfl rfl 4 (by decide) hf18 (fun _ h9 => h9) rfl dX2_carry_63 ?_
                  refine lv_iload_n hx hb dX2_carry_66 rfl (lv_at hl 0 rfl) ?_
                  refine nv_top (v' := .int (nI j)) (congrArg Value.int ej) ?_
                  refine lv_iconst (v := nI 1) hx hb dX2_carry_67 (by decide) ?_
                  refine nv_zast hx hb hK hP hD hS 11 1 rfl rfl true (by omega) (by decide) dX2_carry_68 (fun H locs hP hD hS => ?_)
                  have hP : va_P D vwCl [(ad 0, .inr (1, [.int (nI q), .ref (ad 1), .ref (ad 2), .ref (ad 3), .ref (ad 4)])), (ad 1, .inl (cI, 81, .inl (nF sm))), (ad 2, .inl (cI, 81, .inl (nF pr))), (ad 3, .inl (cI, 9, .inl (nF op))), (ad 4, .inl (cI, 9, .inl (nF iv))), (ad 5, .inr (3, [.ref (ad 0), .int (nI (nn q)), .ref (ad 6), .ref (ad 7)])), (ad 6, .inl (cI, 273, .inl (nF tr))), (ad 7, .inl (cI, 910, .inl (nF ro))), (bd 0, .inr (2, [.ref (ad 5), .ref (ad 0), .ref (bd 1), .ref (bd 2), .ref (bd 3)])), (bd 1, .inl (cI, 9, .inl (nF mm))), (bd 2, .inl (cI, 9, .inl (nF me))), (bd 3, .inl (cZ, 91, .inl (bF (upB r2 j true)))), (aS, .inl (cZ, 91, .inl (bF S)))] H := hP
                  have hD : va_D A [(ad 0, .inr (1, [.int (nI q), .ref (ad 1), .ref (ad 2), .ref (ad 3), .ref (ad 4)])), (ad 1, .inl (cI, 81, .inl (nF sm))), (ad 2, .inl (cI, 81, .inl (nF pr))), (ad 3, .inl (cI, 9, .inl (nF op))), (ad 4, .inl (cI, 9, .inl (nF iv))), (ad 5, .inr (3, [.ref (ad 0), .int (nI (nn q)), .ref (ad 6), .ref (ad 7)])), (ad 6, .inl (cI, 273, .inl (nF tr))), (ad 7, .inl (cI, 910, .inl (nF ro))), (bd 0, .inr (2, [.ref (ad 5), .ref (ad 0), .ref (bd 1), .ref (bd 2), .ref (bd 3)])), (bd 1, .inl (cI, 9, .inl (nF mm))), (bd 2, .inl (cI, 9, .inl (nF me))), (bd 3, .inl (cZ, 91, .inl (bF (upB r2 j true)))), (aS, .inl (cZ, 91, .inl (bF S)))] := hD
                  refine lv_iinc (v := nI (g + 1)) (lv' := [(2, .int (nI (g + 1))), (3, .int (imgZ q mm g)), (0, .ref (bd 0)), (1, .ref aS)]) hx hb dX2_carry_69 hl (k := 3) rfl (nI_inc g) (by decide) rfl (fun ls hl => ?_)
                  refine lv_goto (tgt := 28) hx hb dX2_carry_72 (by decide) ?_
                  exact ih28 (g + 1) (upB r2 j true) ls _ _ (by omega) (by omega) (fun t ht => by rw [anyB, c42, ej, ← k_s t ht]; exact up_any (by omega) (by omega)) (lv_sub hl [2, 3, 0] rfl) hP hD hS
        exact L28 (nn q - 0 + 1) 0 r1 ls _ _ (by omega) (Nat.zero_le _) (fun t ht => k_r t (by omega)) (lv_sub hl [1, 2, 0] rfl) hP hD hS
      · refine lv_aload_n hx hb dX2_carry_13 rfl (lv_at hl 0 rfl) ?_
        refine va_get (D := D) (ci := 2) (v := .ref (bd 3)) (C := RX2) (T := TX2) (N := 5) hx hb hts hiX2 hown hK hP 8 rfl rfl 4 (by decide) hf18 (fun _ h9 => h9) rfl dX2_carry_14 ?_
        refine lv_iload_n hx hb dX2_carry_17 rfl (lv_at hl 2 rfl) ?_
        refine lv_iconst (v := nI 0) hx hb dX2_carry_18 (by decide) ?_
        refine nv_zast hx hb hK hP hD hS 11 1 rfl rfl false (by omega) (by decide) dX2_carry_19 (fun H locs hP hD hS => ?_)
        have hP : va_P D vwCl [(ad 0, .inr (1, [.int (nI q), .ref (ad 1), .ref (ad 2), .ref (ad 3), .ref (ad 4)])), (ad 1, .inl (cI, 81, .inl (nF sm))), (ad 2, .inl (cI, 81, .inl (nF pr))), (ad 3, .inl (cI, 9, .inl (nF op))), (ad 4, .inl (cI, 9, .inl (nF iv))), (ad 5, .inr (3, [.ref (ad 0), .int (nI (nn q)), .ref (ad 6), .ref (ad 7)])), (ad 6, .inl (cI, 273, .inl (nF tr))), (ad 7, .inl (cI, 910, .inl (nF ro))), (bd 0, .inr (2, [.ref (ad 5), .ref (ad 0), .ref (bd 1), .ref (bd 2), .ref (bd 3)])), (bd 1, .inl (cI, 9, .inl (nF mm))), (bd 2, .inl (cI, 9, .inl (nF me))), (bd 3, .inl (cZ, 91, .inl (bF (upB r1 i false)))), (aS, .inl (cZ, 91, .inl (bF S)))] H := hP
        have hD : va_D A [(ad 0, .inr (1, [.int (nI q), .ref (ad 1), .ref (ad 2), .ref (ad 3), .ref (ad 4)])), (ad 1, .inl (cI, 81, .inl (nF sm))), (ad 2, .inl (cI, 81, .inl (nF pr))), (ad 3, .inl (cI, 9, .inl (nF op))), (ad 4, .inl (cI, 9, .inl (nF iv))), (ad 5, .inr (3, [.ref (ad 0), .int (nI (nn q)), .ref (ad 6), .ref (ad 7)])), (ad 6, .inl (cI, 273, .inl (nF tr))), (ad 7, .inl (cI, 910, .inl (nF ro))), (bd 0, .inr (2, [.ref (ad 5), .ref (ad 0), .ref (bd 1), .ref (bd 2), .ref (bd 3)])), (bd 1, .inl (cI, 9, .inl (nF mm))), (bd 2, .inl (cI, 9, .inl (nF me))), (bd 3, .inl (cZ, 91, .inl (bF (upB r1 i false)))), (aS, .inl (cZ, 91, .inl (bF S)))] := hD
        refine lv_iinc (v := nI (i + 1)) (lv' := [(2, .int (nI (i + 1))), (0, .ref (bd 0)), (1, .ref aS)]) hx hb dX2_carry_20 hl (k := 2) rfl (nI_inc i) (by decide) rfl (fun ls hl => ?_)
        refine lv_goto (tgt := 2) hx hb dX2_carry_23 (by decide) ?_
        exact ih2 (i + 1) (upB r1 i false) ls _ _ (by omega) (by omega) (fun t ht => (Nat.lt_succ_iff_lt_or_eq.mp ht).elim (fun h => by rw [upB_n (by omega)]; exact k_r t h) (fun h => by rw [h, upB_s])) (lv_sub hl [1, 2, 0] rfl) hP hD hS
  exact L2 (nn q - 0 + 1) 0 rc ls _ _ (by omega) (Nat.zero_le _) (fun t h => absurd h (Nat.not_lt_zero t)) (lv_sub hl [1, 2, 0] rfl) hP hD hS

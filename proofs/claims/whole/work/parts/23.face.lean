set_option maxHeartbeats 4000000 in
set_option maxRecDepth 100000 in
theorem c_X6_bit (l : Launch) (D : va_G) (cI cZ : ClassId) (b : Bool) : CtR l yX6_bit wsX6_bit { frames := 0, cells := 0, slots := 0, locals := 0 } D (tyG cI cZ) [.int (nI (b).toNat)] [] (.int (nI ((b).toNat))) := by
  refine Met.ofW (cc := cX6_bit) (maxL := 1) (ret := some .int) (by decide) rfl ?_
  intro p e s m args below meth c s₁ B hml hv
  obtain ⟨rfl, hP, hK, hN⟩ := hv
  have hx := B.exec
  have hb := B.bytes
  have hr := B.returns
  have hts := atoms_spec (ws := wsX6_bit) B.pre
  have hown : s.vm.findClass RX6 = some m.cls := findClass_of_methodNamed B.named
  have hlocks := B.notSynchronized
  have hl := lv_entry ([.int (nI (b).toNat)]) (n := 1) (Nat.le_of_ble_eq_true rfl)
  rw [lg_entry_eq]
  generalize (lg_sl ([.int (nI (b).toNat)]) ++ List.replicate (1 - (lg_sl ([.int (nI (b).toNat)])).length) Slot.unset).toArray = ls at hl ⊢
  have hl : lv_has ls 1 [(0, .int (nI (b).toNat))] := hl
  refine lv_iload_n hx hb dX6_bit_0 rfl (lv_at hl 0 rfl) ?_
  refine nv_ifb_eq (tgt := 8) hx hb dX6_bit_1 (by decide) (fun c1 => ?_) (fun c1 => ?_)
  · refine lv_iconst (v := nI 0) hx hb dX6_bit_8 (by decide) ?_
    exact ctR_ret (v := (nI 0)) hx hb hr rfl dX6_bit_9 hlocks (by rw [c1]; rfl)
  · refine lv_iconst (v := nI 1) hx hb dX6_bit_4 (by decide) ?_
    refine lv_goto (tgt := 9) hx hb dX6_bit_5 (by decide) ?_
    exact ctR_ret (v := (nI 1)) hx hb hr rfl dX6_bit_9 hlocks (by rw [c1]; rfl)

set_option maxHeartbeats 4000000 in
set_option maxRecDepth 100000 in
theorem c_X1_exists (l : Launch) (D : va_G) (cI cZ : ClassId) (x : Int32) : CtR l yX1_exists wsX1_exists { frames := 0, cells := 0, slots := 0, locals := 0 } D (tyG cI cZ) [.int x] [] (.int (nI (exQ x).toNat)) := by
  refine Met.ofW (cc := cX1_exists) (maxL := 1) (ret := some .boolean) (by decide) rfl ?_
  intro p e s m args below meth c s₁ B hml hv
  obtain ⟨rfl, hP, hK, hN⟩ := hv
  have hx := B.exec
  have hb := B.bytes
  have hr := B.returns
  have hts := atoms_spec (ws := wsX1_exists) B.pre
  have hown : s.vm.findClass RX1 = some m.cls := findClass_of_methodNamed B.named
  have hlocks := B.notSynchronized
  have hl := lv_entry ([.int x]) (n := 1) (Nat.le_of_ble_eq_true rfl)
  rw [lg_entry_eq]
  generalize (lg_sl ([.int x]) ++ List.replicate (1 - (lg_sl ([.int x])).length) Slot.unset).toArray = ls at hl ⊢
  have hl : lv_has ls 1 [(0, .int x)] := hl
  refine lv_iload_n hx hb dX1_exists_0 rfl (lv_at hl 0 rfl) ?_
  refine lv_iconst (v := nI 2) hx hb dX1_exists_1 (by decide) ?_
  refine lv_icmp_lt (tgt := 21) hx hb dX1_exists_2 (by decide) (fun c2 => ?_) (fun c2 => ?_)
  · refine lv_iconst (v := nI 0) hx hb dX1_exists_21 (by decide) ?_
    exact ctR_ret (v := (nI 0)) hx hb hr (nar_bool false) dX1_exists_22 hlocks (by rw [exQ, inR_lo (by decide) c2]; rfl)
  · refine lv_iload_n hx hb dX1_exists_5 rfl (lv_at hl 0 rfl) ?_
    refine lv_bipush (v := nI 9) hx hb dX1_exists_6 (by decide) ?_
    refine lv_icmp_gt (tgt := 21) hx hb dX1_exists_8 (by decide) (fun c8 => ?_) (fun c8 => ?_)
    · refine lv_iconst (v := nI 0) hx hb dX1_exists_21 (by decide) ?_
      exact ctR_ret (v := (nI 0)) hx hb hr (nar_bool false) dX1_exists_22 hlocks (by rw [exQ, inR_hi (by decide) c8]; rfl)
    · refine lv_iload_n hx hb dX1_exists_11 rfl (lv_at hl 0 rfl) ?_
      refine lv_bipush (v := nI 6) hx hb dX1_exists_12 (by decide) ?_
      refine lv_icmp_eq (tgt := 21) hx hb dX1_exists_14 (by decide) (fun c14 => ?_) (fun c14 => ?_)
      · refine lv_iconst (v := nI 0) hx hb dX1_exists_21 (by decide) ?_
        exact ctR_ret (v := (nI 0)) hx hb hr (nar_bool false) dX1_exists_22 hlocks (by rw [exQ, decide_eq_true c14]; simp)
      · refine lv_iconst (v := nI 1) hx hb dX1_exists_17 (by decide) ?_
        refine lv_goto (tgt := 22) hx hb dX1_exists_18 (by decide) ?_
        exact ctR_ret (v := (nI 1)) hx hb hr (nar_bool true) dX1_exists_22 hlocks (by rw [exQ, inR_in (by decide) (by decide) c2 c8, decide_eq_false c14]; rfl)

set_option maxHeartbeats 4000000 in
set_option maxRecDepth 100000 in
theorem c_X3_ratioOf (l : Launch) (D : va_G) (cI cZ : ClassId) (ad : Nat → Nat) (q : Nat) (sm : Nat → Nat) (pr : Nat → Nat) (op : Nat → Nat) (iv : Nat → Nat) (hF : FOK q sm pr op iv) (tr : Nat → Nat) (ro : Nat → Nat) (hT : TOK q tr) (i : Nat) (j : Nat) (k : Nat) (r : Nat) (k_1 : i < nn q) (k_2 : j < nn q) (k_3 : k < nn q) (k_4 : r < nn q) : CtR l yX3_ratioOf wsX3_ratioOf { frames := 3, cells := 0, slots := 0, locals := 71 } D (tyG cI cZ) [.ref (ad 5), .int (nI i), .int (nI j), .int (nI k), .int (nI r)] [(ad 0, .inr (1, [.int (nI q), .ref (ad 1), .ref (ad 2), .ref (ad 3), .ref (ad 4)])), (ad 1, .inl (cI, 81, .inl (nF sm))), (ad 2, .inl (cI, 81, .inl (nF pr))), (ad 3, .inl (cI, 9, .inl (nF op))), (ad 4, .inl (cI, 9, .inl (nF iv))), (ad 5, .inr (3, [.ref (ad 0), .int (nI (nn q)), .ref (ad 6), .ref (ad 7)])), (ad 6, .inl (cI, 273, .inl (nF tr))), (ad 7, .inl (cI, 910, .inl (nF ro)))] (.int (nI (ratq q i j k r))) := by
  refine Met.ofW (cc := cX3_ratioOf) (maxL := 7) (ret := some .int) (by decide) rfl ?_
  intro p e s m args below meth c s₁ B hml hv
  obtain ⟨rfl, hP, hK, hN⟩ := hv
  have hx := B.exec
  have hb := B.bytes
  have hr := B.returns
  have hts := atoms_spec (ws := wsX3_ratioOf) B.pre
  have hown : s.vm.findClass RX3 = some m.cls := findClass_of_methodNamed B.named
  have hlocks := B.notSynchronized
  have hf18 := hts (.fieldLink RX3 18 "FinitePlanes$Plane" "field" "LFinitePlanes$Field;") (by decide +kernel)
  have hf25 := hN.use (w := .fieldLinkNest RX3 25 "FinitePlanes$Field" "q" "I" "FinitePlanes") (by decide +kernel) (A := [.ref (ad 5), .int (nI i), .int (nI j), .int (nI k), .int (nI r)].toArray)
  have hiX1 : ∀ w ∈ u_ws RX1 TX1 5, w ∈ wsX3_ratioOf := by decide +kernel
  have hiX3 : ∀ w ∈ u_ws RX3 TX3 4, w ∈ wsX3_ratioOf := by decide +kernel
  have hl := lv_entry ([.ref (ad 5), .int (nI i), .int (nI j), .int (nI k), .int (nI r)]) (n := 7) (Nat.le_of_ble_eq_true rfl)
  rw [lg_entry_eq]
  generalize (lg_sl ([.ref (ad 5), .int (nI i), .int (nI j), .int (nI k), .int (nI r)]) ++ List.replicate (7 - (lg_sl ([.ref (ad 5), .int (nI i), .int (nI j), .int (nI k), .int (nI r)])).length) Slot.unset).toArray = ls at hl ⊢
  have hl : lv_has ls 7 [(0, .ref (ad 5)), (1, .int (nI i)), (2, .int (nI j)), (3, .int (nI k)), (4, .int (nI r))] := hl
  have hq2 := qs_le hF.1
  have hn2 := nn_le hF.1
  refine lv_aload_n hx hb dX3_ratioOf_0 rfl (lv_at hl 0 rfl) ?_
  refine lv_iload_n hx hb dX3_ratioOf_1 rfl (lv_at hl 1 rfl) ?_
  refine lv_iload_n hx hb dX3_ratioOf_2 rfl (lv_at hl 2 rfl) ?_
  refine lv_iconst (v := nI 0) hx hb dX3_ratioOf_3 (by decide) ?_
  refine ctR_V (As := [.int (nI i), .int (nI j), .int (nI 0)]) (rest := []) (r := .int (nI (vcr q (pt q i) (pt q j) 0))) ⟨hx, hb, hml, hown, hts⟩ (c_X3_cross l D cI cZ ad q sm pr op iv hF tr ro hT i j 0 (by omega) (by omega) (by omega)) (cwV 3 hts gX3_ratioOf_X3_cross rfl rfl rfl hdV_X3_cross ⟨Nat.le_of_ble_eq_true rfl, Nat.le_of_ble_eq_true rfl⟩) hK hN hP [0, 1, 2, 3, 4, 5, 6, 7] rfl 5 3 rfl rfl rfl hl.1 rfl (Nat.le_of_ble_eq_true rfl) ⟨Nat.zero_le _, Nat.zero_le _⟩ dX3_ratioOf_4 ?_
  have hh_1 : vcr q (pt q i) (pt q j) 0 < q := vcr_lt hF.1 (ptv hF.1 (by omega)) (ptv hF.1 (by omega))
  refine nv_if_eq (tgt := 14) hx hb (by omega) dX3_ratioOf_7 (by decide) (fun c7 => ?_) (fun c7 => ?_)
  · refine lv_aload_n hx hb dX3_ratioOf_14 rfl (lv_at hl 0 rfl) ?_
    refine lv_iload_n hx hb dX3_ratioOf_15 rfl (lv_at hl 1 rfl) ?_
    refine lv_iload_n hx hb dX3_ratioOf_16 rfl (lv_at hl 2 rfl) ?_
    refine lv_iconst (v := nI 1) hx hb dX3_ratioOf_17 (by decide) ?_
    refine ctR_V (As := [.int (nI i), .int (nI j), .int (nI 1)]) (rest := []) (r := .int (nI (vcr q (pt q i) (pt q j) 1))) ⟨hx, hb, hml, hown, hts⟩ (c_X3_cross l D cI cZ ad q sm pr op iv hF tr ro hT i j 1 (by omega) (by omega) (by omega)) (cwV 3 hts gX3_ratioOf_X3_cross rfl rfl rfl hdV_X3_cross ⟨Nat.le_of_ble_eq_true rfl, Nat.le_of_ble_eq_true rfl⟩) hK hN hP [0, 1, 2, 3, 4, 5, 6, 7] rfl 5 3 rfl rfl rfl hl.1 rfl (Nat.le_of_ble_eq_true rfl) ⟨Nat.zero_le _, Nat.zero_le _⟩ dX3_ratioOf_18 ?_
    have hh_2 : vcr q (pt q i) (pt q j) 1 < q := vcr_lt hF.1 (ptv hF.1 (by omega)) (ptv hF.1 (by omega))
    refine nv_if_eq (tgt := 28) hx hb (by omega) dX3_ratioOf_21 (by decide) (fun c21 => ?_) (fun c21 => ?_)
    · refine lv_iconst (v := nI 2) hx hb dX3_ratioOf_28 (by decide) ?_
      refine lv_istore (lv' := [(5, .int (nI 2)), (0, .ref (ad 5)), (1, .int (nI i)), (2, .int (nI j)), (3, .int (nI k)), (4, .int (nI r))]) hx hb dX3_ratioOf_29 hl (by decide) rfl (fun ls hl => ?_)
      refine lv_aload_n hx hb dX3_ratioOf_31 rfl (lv_at hl 1 rfl) ?_
      refine va_get (D := D) (ci := 3) (v := .ref (ad 0)) (C := RX3) (T := TX3) (N := 4) hx hb hts hiX3 hown hK hP 5 rfl rfl 0 (by decide) hf18 (fun _ h9 => h9) rfl dX3_ratioOf_32 ?_
      refine lv_aload_n hx hb dX3_ratioOf_35 rfl (lv_at hl 1 rfl) ?_
      refine lv_iload_n hx hb dX3_ratioOf_36 rfl (lv_at hl 2 rfl) ?_
      refine lv_iload hx hb dX3_ratioOf_37 (lv_at hl 5 rfl) ?_
      refine lv_iload hx hb dX3_ratioOf_39 (lv_at hl 0 rfl) ?_
      refine ctR_V (As := [.int (nI i), .int (nI r), .int (nI 2)]) (rest := [.ref (ad 0)]) (r := .int (nI (vcr q (pt q i) (pt q r) 2))) ⟨hx, hb, hml, hown, hts⟩ (c_X3_cross l D cI cZ ad q sm pr op iv hF tr ro hT i r 2 (by omega) (by omega) (by omega)) (cwV 3 hts gX3_ratioOf_X3_cross rfl rfl rfl hdV_X3_cross ⟨Nat.le_of_ble_eq_true rfl, Nat.le_of_ble_eq_true rfl⟩) hK hN hP [0, 1, 2, 3, 4, 5, 6, 7] rfl 5 3 rfl rfl rfl hl.1 rfl (Nat.le_of_ble_eq_true rfl) ⟨Nat.zero_le _, Nat.zero_le _⟩ dX3_ratioOf_41 ?_
      have hh_3 : vcr q (pt q i) (pt q r) 2 < q := vcr_lt hF.1 (ptv hF.1 (by omega)) (ptv hF.1 (by omega))
      refine lv_aload_n hx hb dX3_ratioOf_44 rfl (lv_at hl 1 rfl) ?_
      refine lv_iload_n hx hb dX3_ratioOf_45 rfl (lv_at hl 4 rfl) ?_
      refine lv_iload_n hx hb dX3_ratioOf_46 rfl (lv_at hl 3 rfl) ?_
      refine lv_iload hx hb dX3_ratioOf_47 (lv_at hl 0 rfl) ?_
      refine ctR_V (As := [.int (nI k), .int (nI j), .int (nI 2)]) (rest := [.int (nI (vcr q (pt q i) (pt q r) 2)), .ref (ad 0)]) (r := .int (nI (vcr q (pt q k) (pt q j) 2))) ⟨hx, hb, hml, hown, hts⟩ (c_X3_cross l D cI cZ ad q sm pr op iv hF tr ro hT k j 2 (by omega) (by omega) (by omega)) (cwV 3 hts gX3_ratioOf_X3_cross rfl rfl rfl hdV_X3_cross ⟨Nat.le_of_ble_eq_true rfl, Nat.le_of_ble_eq_true rfl⟩) hK hN hP [0, 1, 2, 3, 4, 5, 6, 7] rfl 5 3 rfl rfl rfl hl.1 rfl (Nat.le_of_ble_eq_true rfl) ⟨Nat.zero_le _, Nat.zero_le _⟩ dX3_ratioOf_49 ?_
      have hh_4 : vcr q (pt q k) (pt q j) 2 < q := vcr_lt hF.1 (ptv hF.1 (by omega)) (ptv hF.1 (by omega))
      refine ctR_V (As := [.int (nI (vcr q (pt q i) (pt q r) 2)), .int (nI (vcr q (pt q k) (pt q j) 2))]) (rest := []) (r := .int (nI (fmul q (vcr q (pt q i) (pt q r) 2) (vcr q (pt q k) (pt q j) 2)))) ⟨hx, hb, hml, hown, hts⟩ (c_X1_times l D cI cZ ad q sm pr op iv hF (vcr q (pt q i) (pt q r) 2) (vcr q (pt q k) (pt q j) 2) (by omega) (by omega)) (cwV 2 hts gX3_ratioOf_X1_times rfl rfl rfl hdV_X1_times ⟨Nat.le_of_ble_eq_true rfl, Nat.le_of_ble_eq_true rfl⟩) hK hN hP [0, 1, 2, 3, 4] rfl 0 1 rfl rfl rfl hl.1 rfl (Nat.le_of_ble_eq_true rfl) ⟨Nat.zero_le _, Nat.zero_le _⟩ dX3_ratioOf_52 ?_
      have hh_5 : fmul q (vcr q (pt q i) (pt q r) 2) (vcr q (pt q k) (pt q j) 2) < q := fmul_lt hF.1 (by omega) (by omega)
      refine lv_istore (lv' := [(6, .int (nI (fmul q (vcr q (pt q i) (pt q r) 2) (vcr q (pt q k) (pt q j) 2)))), (5, .int (nI 2)), (0, .ref (ad 5)), (1, .int (nI i)), (2, .int (nI j)), (3, .int (nI k)), (4, .int (nI r))]) hx hb dX3_ratioOf_55 hl (by decide) rfl (fun ls hl => ?_)
      refine lv_iload hx hb dX3_ratioOf_57 (lv_at hl 0 rfl) ?_
      refine nv_if_ne (tgt := 70) hx hb (by omega) dX3_ratioOf_59 (by decide) (fun c59 => ?_) (fun c59 => ?_)
      · refine lv_aload_n hx hb dX3_ratioOf_70 rfl (lv_at hl 2 rfl) ?_
        refine va_get (D := D) (ci := 3) (v := .ref (ad 0)) (C := RX3) (T := TX3) (N := 4) hx hb hts hiX3 hown hK hP 5 rfl rfl 0 (by decide) hf18 (fun _ h9 => h9) rfl dX3_ratioOf_71 ?_
        refine lv_aload_n hx hb dX3_ratioOf_74 rfl (lv_at hl 2 rfl) ?_
        refine va_get (D := D) (ci := 3) (v := .ref (ad 0)) (C := RX3) (T := TX3) (N := 4) hx hb hts hiX3 hown hK hP 5 rfl rfl 0 (by decide) hf18 (fun _ h9 => h9) rfl dX3_ratioOf_75 ?_
        refine lv_aload_n hx hb dX3_ratioOf_78 rfl (lv_at hl 2 rfl) ?_
        refine lv_iload hx hb dX3_ratioOf_79 (lv_at hl 6 rfl) ?_
        refine lv_iload_n hx hb dX3_ratioOf_81 rfl (lv_at hl 4 rfl) ?_
        refine lv_iload hx hb dX3_ratioOf_82 (lv_at hl 1 rfl) ?_
        refine ctR_V (As := [.int (nI r), .int (nI j), .int (nI 2)]) (rest := [.ref (ad 0), .ref (ad 0)]) (r := .int (nI (vcr q (pt q r) (pt q j) 2))) ⟨hx, hb, hml, hown, hts⟩ (c_X3_cross l D cI cZ ad q sm pr op iv hF tr ro hT r j 2 (by omega) (by omega) (by omega)) (cwV 3 hts gX3_ratioOf_X3_cross rfl rfl rfl hdV_X3_cross ⟨Nat.le_of_ble_eq_true rfl, Nat.le_of_ble_eq_true rfl⟩) hK hN hP [0, 1, 2, 3, 4, 5, 6, 7] rfl 5 3 rfl rfl rfl hl.1 rfl (Nat.le_of_ble_eq_true rfl) ⟨Nat.zero_le _, Nat.zero_le _⟩ dX3_ratioOf_84 ?_
        have hh_6 : vcr q (pt q r) (pt q j) 2 < q := vcr_lt hF.1 (ptv hF.1 (by omega)) (ptv hF.1 (by omega))
        refine lv_aload_n hx hb dX3_ratioOf_87 rfl (lv_at hl 2 rfl) ?_
        refine lv_iload_n hx hb dX3_ratioOf_88 rfl (lv_at hl 3 rfl) ?_
        refine lv_iload_n hx hb dX3_ratioOf_89 rfl (lv_at hl 5 rfl) ?_
        refine lv_iload hx hb dX3_ratioOf_90 (lv_at hl 1 rfl) ?_
        refine ctR_V (As := [.int (nI i), .int (nI k), .int (nI 2)]) (rest := [.int (nI (vcr q (pt q r) (pt q j) 2)), .ref (ad 0), .ref (ad 0)]) (r := .int (nI (vcr q (pt q i) (pt q k) 2))) ⟨hx, hb, hml, hown, hts⟩ (c_X3_cross l D cI cZ ad q sm pr op iv hF tr ro hT i k 2 (by omega) (by omega) (by omega)) (cwV 3 hts gX3_ratioOf_X3_cross rfl rfl rfl hdV_X3_cross ⟨Nat.le_of_ble_eq_true rfl, Nat.le_of_ble_eq_true rfl⟩) hK hN hP [0, 1, 2, 3, 4, 5, 6, 7] rfl 5 3 rfl rfl rfl hl.1 rfl (Nat.le_of_ble_eq_true rfl) ⟨Nat.zero_le _, Nat.zero_le _⟩ dX3_ratioOf_92 ?_
        have hh_7 : vcr q (pt q i) (pt q k) 2 < q := vcr_lt hF.1 (ptv hF.1 (by omega)) (ptv hF.1 (by omega))
        refine ctR_V (As := [.int (nI (vcr q (pt q r) (pt q j) 2)), .int (nI (vcr q (pt q i) (pt q k) 2))]) (rest := [.ref (ad 0)]) (r := .int (nI (fmul q (vcr q (pt q r) (pt q j) 2) (vcr q (pt q i) (pt q k) 2)))) ⟨hx, hb, hml, hown, hts⟩ (c_X1_times l D cI cZ ad q sm pr op iv hF (vcr q (pt q r) (pt q j) 2) (vcr q (pt q i) (pt q k) 2) (by omega) (by omega)) (cwV 2 hts gX3_ratioOf_X1_times rfl rfl rfl hdV_X1_times ⟨Nat.le_of_ble_eq_true rfl, Nat.le_of_ble_eq_true rfl⟩) hK hN hP [0, 1, 2, 3, 4] rfl 0 1 rfl rfl rfl hl.1 rfl (Nat.le_of_ble_eq_true rfl) ⟨Nat.zero_le _, Nat.zero_le _⟩ dX3_ratioOf_95 ?_
        have hh_8 : fmul q (vcr q (pt q r) (pt q j) 2) (vcr q (pt q i) (pt q k) 2) < q := fmul_lt hF.1 (by omega) (by omega)
        refine lv_iload hx hb dX3_ratioOf_98 (lv_at hl 0 rfl) ?_
        refine ctR_V (As := [.int (nI (fmul q (vcr q (pt q r) (pt q j) 2) (vcr q (pt q i) (pt q k) 2))), .int (nI (fmul q (vcr q (pt q i) (pt q r) 2) (vcr q (pt q k) (pt q j) 2)))]) (rest := []) (r := .int (nI (fdiv q (fmul q (vcr q (pt q r) (pt q j) 2) (vcr q (pt q i) (pt q k) 2)) (fmul q (vcr q (pt q i) (pt q r) 2) (vcr q (pt q k) (pt q j) 2))))) ⟨hx, hb, hml, hown, hts⟩ (c_X1_over l D cI cZ ad q sm pr op iv hF (fmul q (vcr q (pt q r) (pt q j) 2) (vcr q (pt q i) (pt q k) 2)) (fmul q (vcr q (pt q i) (pt q r) 2) (vcr q (pt q k) (pt q j) 2)) (by omega) (by omega) (by omega)) (cwV 2 hts gX3_ratioOf_X1_over rfl rfl rfl hdV_X1_over ⟨Nat.le_of_ble_eq_true rfl, Nat.le_of_ble_eq_true rfl⟩) hK hN hP [0, 1, 2, 3, 4] rfl 0 1 rfl rfl rfl hl.1 rfl (Nat.le_of_ble_eq_true rfl) ⟨Nat.zero_le _, Nat.zero_le _⟩ dX3_ratioOf_100 ?_
        have hh_9 : fdiv q (fmul q (vcr q (pt q r) (pt q j) 2) (vcr q (pt q i) (pt q k) 2)) (fmul q (vcr q (pt q i) (pt q r) 2) (vcr q (pt q k) (pt q j) 2)) < q := fdiv_lt hF.1 (by omega) (by omega)
        exact ctR_ret (v := (nI (fdiv q (fmul q (vcr q (pt q r) (pt q j) 2) (vcr q (pt q i) (pt q k) 2)) (fmul q (vcr q (pt q i) (pt q r) 2) (vcr q (pt q k) (pt q j) 2))))) hx hb hr rfl dX3_ratioOf_103 hlocks (by rw [ratq, rti_2 c7 c21, ratk, if_neg c59])
      · refine lv_aload_n hx hb dX3_ratioOf_62 rfl (lv_at hl 2 rfl) ?_
        refine va_get (D := D) (ci := 3) (v := .ref (ad 0)) (C := RX3) (T := TX3) (N := 4) hx hb hts hiX3 hown hK hP 5 rfl rfl 0 (by decide) hf18 (fun _ h9 => h9) rfl dX3_ratioOf_63 ?_
        refine va_getN (D := D) (ci := 1) (v := .int (nI q)) (C := RX1) (T := TX1) (N := 5) hx hb hts hiX1 hown hK hP 0 rfl rfl 0 (by decide) hf25 (fun _ h9 => h9) rfl dX3_ratioOf_66 ?_
        exact ctR_ret (v := (nI q)) hx hb hr rfl dX3_ratioOf_69 hlocks (by rw [ratq, rti_2 c7 c21, ratk, if_pos c59])
    · refine lv_iconst (v := nI 1) hx hb dX3_ratioOf_24 (by decide) ?_
      refine lv_goto (tgt := 29) hx hb dX3_ratioOf_25 (by decide) ?_
      refine lv_istore (lv' := [(5, .int (nI 1)), (0, .ref (ad 5)), (1, .int (nI i)), (2, .int (nI j)), (3, .int (nI k)), (4, .int (nI r))]) hx hb dX3_ratioOf_29 hl (by decide) rfl (fun ls hl => ?_)
      refine lv_aload_n hx hb dX3_ratioOf_31 rfl (lv_at hl 1 rfl) ?_
      refine va_get (D := D) (ci := 3) (v := .ref (ad 0)) (C := RX3) (T := TX3) (N := 4) hx hb hts hiX3 hown hK hP 5 rfl rfl 0 (by decide) hf18 (fun _ h9 => h9) rfl dX3_ratioOf_32 ?_
      refine lv_aload_n hx hb dX3_ratioOf_35 rfl (lv_at hl 1 rfl) ?_
      refine lv_iload_n hx hb dX3_ratioOf_36 rfl (lv_at hl 2 rfl) ?_
      refine lv_iload hx hb dX3_ratioOf_37 (lv_at hl 5 rfl) ?_
      refine lv_iload hx hb dX3_ratioOf_39 (lv_at hl 0 rfl) ?_
      refine ctR_V (As := [.int (nI i), .int (nI r), .int (nI 1)]) (rest := [.ref (ad 0)]) (r := .int (nI (vcr q (pt q i) (pt q r) 1))) ⟨hx, hb, hml, hown, hts⟩ (c_X3_cross l D cI cZ ad q sm pr op iv hF tr ro hT i r 1 (by omega) (by omega) (by omega)) (cwV 3 hts gX3_ratioOf_X3_cross rfl rfl rfl hdV_X3_cross ⟨Nat.le_of_ble_eq_true rfl, Nat.le_of_ble_eq_true rfl⟩) hK hN hP [0, 1, 2, 3, 4, 5, 6, 7] rfl 5 3 rfl rfl rfl hl.1 rfl (Nat.le_of_ble_eq_true rfl) ⟨Nat.zero_le _, Nat.zero_le _⟩ dX3_ratioOf_41 ?_
      have hh_10 : vcr q (pt q i) (pt q r) 1 < q := vcr_lt hF.1 (ptv hF.1 (by omega)) (ptv hF.1 (by omega))
      refine lv_aload_n hx hb dX3_ratioOf_44 rfl (lv_at hl 1 rfl) ?_
      refine lv_iload_n hx hb dX3_ratioOf_45 rfl (lv_at hl 4 rfl) ?_
      refine lv_iload_n hx hb dX3_ratioOf_46 rfl (lv_at hl 3 rfl) ?_
      refine lv_iload hx hb dX3_ratioOf_47 (lv_at hl 0 rfl) ?_
      refine ctR_V (As := [.int (nI k), .int (nI j), .int (nI 1)]) (rest := [.int (nI (vcr q (pt q i) (pt q r) 1)), .ref (ad 0)]) (r := .int (nI (vcr q (pt q k) (pt q j) 1))) ⟨hx, hb, hml, hown, hts⟩ (c_X3_cross l D cI cZ ad q sm pr op iv hF tr ro hT k j 1 (by omega) (by omega) (by omega)) (cwV 3 hts gX3_ratioOf_X3_cross rfl rfl rfl hdV_X3_cross ⟨Nat.le_of_ble_eq_true rfl, Nat.le_of_ble_eq_true rfl⟩) hK hN hP [0, 1, 2, 3, 4, 5, 6, 7] rfl 5 3 rfl rfl rfl hl.1 rfl (Nat.le_of_ble_eq_true rfl) ⟨Nat.zero_le _, Nat.zero_le _⟩ dX3_ratioOf_49 ?_
      have hh_11 : vcr q (pt q k) (pt q j) 1 < q := vcr_lt hF.1 (ptv hF.1 (by omega)) (ptv hF.1 (by omega))
      refine ctR_V (As := [.int (nI (vcr q (pt q i) (pt q r) 1)), .int (nI (vcr q (pt q k) (pt q j) 1))]) (rest := []) (r := .int (nI (fmul q (vcr q (pt q i) (pt q r) 1) (vcr q (pt q k) (pt q j) 1)))) ⟨hx, hb, hml, hown, hts⟩ (c_X1_times l D cI cZ ad q sm pr op iv hF (vcr q (pt q i) (pt q r) 1) (vcr q (pt q k) (pt q j) 1) (by omega) (by omega)) (cwV 2 hts gX3_ratioOf_X1_times rfl rfl rfl hdV_X1_times ⟨Nat.le_of_ble_eq_true rfl, Nat.le_of_ble_eq_true rfl⟩) hK hN hP [0, 1, 2, 3, 4] rfl 0 1 rfl rfl rfl hl.1 rfl (Nat.le_of_ble_eq_true rfl) ⟨Nat.zero_le _, Nat.zero_le _⟩ dX3_ratioOf_52 ?_
      have hh_12 : fmul q (vcr q (pt q i) (pt q r) 1) (vcr q (pt q k) (pt q j) 1) < q := fmul_lt hF.1 (by omega) (by omega)
      refine lv_istore (lv' := [(6, .int (nI (fmul q (vcr q (pt q i) (pt q r) 1) (vcr q (pt q k) (pt q j) 1)))), (5, .int (nI 1)), (0, .ref (ad 5)), (1, .int (nI i)), (2, .int (nI j)), (3, .int (nI k)), (4, .int (nI r))]) hx hb dX3_ratioOf_55 hl (by decide) rfl (fun ls hl => ?_)
      refine lv_iload hx hb dX3_ratioOf_57 (lv_at hl 0 rfl) ?_
      refine nv_if_ne (tgt := 70) hx hb (by omega) dX3_ratioOf_59 (by decide) (fun c59 => ?_) (fun c59 => ?_)
      · refine lv_aload_n hx hb dX3_ratioOf_70 rfl (lv_at hl 2 rfl) ?_
        refine va_get (D := D) (ci := 3) (v := .ref (ad 0)) (C := RX3) (T := TX3) (N := 4) hx hb hts hiX3 hown hK hP 5 rfl rfl 0 (by decide) hf18 (fun _ h9 => h9) rfl dX3_ratioOf_71 ?_
        refine lv_aload_n hx hb dX3_ratioOf_74 rfl (lv_at hl 2 rfl) ?_
        refine va_get (D := D) (ci := 3) (v := .ref (ad 0)) (C := RX3) (T := TX3) (N := 4) hx hb hts hiX3 hown hK hP 5 rfl rfl 0 (by decide) hf18 (fun _ h9 => h9) rfl dX3_ratioOf_75 ?_
        refine lv_aload_n hx hb dX3_ratioOf_78 rfl (lv_at hl 2 rfl) ?_
        refine lv_iload hx hb dX3_ratioOf_79 (lv_at hl 6 rfl) ?_
        refine lv_iload_n hx hb dX3_ratioOf_81 rfl (lv_at hl 4 rfl) ?_
        refine lv_iload hx hb dX3_ratioOf_82 (lv_at hl 1 rfl) ?_
        refine ctR_V (As := [.int (nI r), .int (nI j), .int (nI 1)]) (rest := [.ref (ad 0), .ref (ad 0)]) (r := .int (nI (vcr q (pt q r) (pt q j) 1))) ⟨hx, hb, hml, hown, hts⟩ (c_X3_cross l D cI cZ ad q sm pr op iv hF tr ro hT r j 1 (by omega) (by omega) (by omega)) (cwV 3 hts gX3_ratioOf_X3_cross rfl rfl rfl hdV_X3_cross ⟨Nat.le_of_ble_eq_true rfl, Nat.le_of_ble_eq_true rfl⟩) hK hN hP [0, 1, 2, 3, 4, 5, 6, 7] rfl 5 3 rfl rfl rfl hl.1 rfl (Nat.le_of_ble_eq_true rfl) ⟨Nat.zero_le _, Nat.zero_le _⟩ dX3_ratioOf_84 ?_
        have hh_13 : vcr q (pt q r) (pt q j) 1 < q := vcr_lt hF.1 (ptv hF.1 (by omega)) (ptv hF.1 (by omega))
        refine lv_aload_n hx hb dX3_ratioOf_87 rfl (lv_at hl 2 rfl) ?_
        refine lv_iload_n hx hb dX3_ratioOf_88 rfl (lv_at hl 3 rfl) ?_
        refine lv_iload_n hx hb dX3_ratioOf_89 rfl (lv_at hl 5 rfl) ?_
        refine lv_iload hx hb dX3_ratioOf_90 (lv_at hl 1 rfl) ?_
        refine ctR_V (As := [.int (nI i), .int (nI k), .int (nI 1)]) (rest := [.int (nI (vcr q (pt q r) (pt q j) 1)), .ref (ad 0), .ref (ad 0)]) (r := .int (nI (vcr q (pt q i) (pt q k) 1))) ⟨hx, hb, hml, hown, hts⟩ (c_X3_cross l D cI cZ ad q sm pr op iv hF tr ro hT i k 1 (by omega) (by omega) (by omega)) (cwV 3 hts gX3_ratioOf_X3_cross rfl rfl rfl hdV_X3_cross ⟨Nat.le_of_ble_eq_true rfl, Nat.le_of_ble_eq_true rfl⟩) hK hN hP [0, 1, 2, 3, 4, 5, 6, 7] rfl 5 3 rfl rfl rfl hl.1 rfl (Nat.le_of_ble_eq_true rfl) ⟨Nat.zero_le _, Nat.zero_le _⟩ dX3_ratioOf_92 ?_
        have hh_14 : vcr q (pt q i) (pt q k) 1 < q := vcr_lt hF.1 (ptv hF.1 (by omega)) (ptv hF.1 (by omega))
        refine ctR_V (As := [.int (nI (vcr q (pt q r) (pt q j) 1)), .int (nI (vcr q (pt q i) (pt q k) 1))]) (rest := [.ref (ad 0)]) (r := .int (nI (fmul q (vcr q (pt q r) (pt q j) 1) (vcr q (pt q i) (pt q k) 1)))) ⟨hx, hb, hml, hown, hts⟩ (c_X1_times l D cI cZ ad q sm pr op iv hF (vcr q (pt q r) (pt q j) 1) (vcr q (pt q i) (pt q k) 1) (by omega) (by omega)) (cwV 2 hts gX3_ratioOf_X1_times rfl rfl rfl hdV_X1_times ⟨Nat.le_of_ble_eq_true rfl, Nat.le_of_ble_eq_true rfl⟩) hK hN hP [0, 1, 2, 3, 4] rfl 0 1 rfl rfl rfl hl.1 rfl (Nat.le_of_ble_eq_true rfl) ⟨Nat.zero_le _, Nat.zero_le _⟩ dX3_ratioOf_95 ?_
        have hh_15 : fmul q (vcr q (pt q r) (pt q j) 1) (vcr q (pt q i) (pt q k) 1) < q := fmul_lt hF.1 (by omega) (by omega)
        refine lv_iload hx hb dX3_ratioOf_98 (lv_at hl 0 rfl) ?_
        refine ctR_V (As := [.int (nI (fmul q (vcr q (pt q r) (pt q j) 1) (vcr q (pt q i) (pt q k) 1))), .int (nI (fmul q (vcr q (pt q i) (pt q r) 1) (vcr q (pt q k) (pt q j) 1)))]) (rest := []) (r := .int (nI (fdiv q (fmul q (vcr q (pt q r) (pt q j) 1) (vcr q (pt q i) (pt q k) 1)) (fmul q (vcr q (pt q i) (pt q r) 1) (vcr q (pt q k) (pt q j) 1))))) ⟨hx, hb, hml, hown, hts⟩ (c_X1_over l D cI cZ ad q sm pr op iv hF (fmul q (vcr q (pt q r) (pt q j) 1) (vcr q (pt q i) (pt q k) 1)) (fmul q (vcr q (pt q i) (pt q r) 1) (vcr q (pt q k) (pt q j) 1)) (by omega) (by omega) (by omega)) (cwV 2 hts gX3_ratioOf_X1_over rfl rfl rfl hdV_X1_over ⟨Nat.le_of_ble_eq_true rfl, Nat.le_of_ble_eq_true rfl⟩) hK hN hP [0, 1, 2, 3, 4] rfl 0 1 rfl rfl rfl hl.1 rfl (Nat.le_of_ble_eq_true rfl) ⟨Nat.zero_le _, Nat.zero_le _⟩ dX3_ratioOf_100 ?_
        have hh_16 : fdiv q (fmul q (vcr q (pt q r) (pt q j) 1) (vcr q (pt q i) (pt q k) 1)) (fmul q (vcr q (pt q i) (pt q r) 1) (vcr q (pt q k) (pt q j) 1)) < q := fdiv_lt hF.1 (by omega) (by omega)
        exact ctR_ret (v := (nI (fdiv q (fmul q (vcr q (pt q r) (pt q j) 1) (vcr q (pt q i) (pt q k) 1)) (fmul q (vcr q (pt q i) (pt q r) 1) (vcr q (pt q k) (pt q j) 1))))) hx hb hr rfl dX3_ratioOf_103 hlocks (by rw [ratq, rti_1 c7 c21, ratk, if_neg c59])
      · refine lv_aload_n hx hb dX3_ratioOf_62 rfl (lv_at hl 2 rfl) ?_
        refine va_get (D := D) (ci := 3) (v := .ref (ad 0)) (C := RX3) (T := TX3) (N := 4) hx hb hts hiX3 hown hK hP 5 rfl rfl 0 (by decide) hf18 (fun _ h9 => h9) rfl dX3_ratioOf_63 ?_
        refine va_getN (D := D) (ci := 1) (v := .int (nI q)) (C := RX1) (T := TX1) (N := 5) hx hb hts hiX1 hown hK hP 0 rfl rfl 0 (by decide) hf25 (fun _ h9 => h9) rfl dX3_ratioOf_66 ?_
        exact ctR_ret (v := (nI q)) hx hb hr rfl dX3_ratioOf_69 hlocks (by rw [ratq, rti_1 c7 c21, ratk, if_pos c59])
  · refine lv_iconst (v := nI 0) hx hb dX3_ratioOf_10 (by decide) ?_
    refine lv_goto (tgt := 29) hx hb dX3_ratioOf_11 (by decide) ?_
    refine lv_istore (lv' := [(5, .int (nI 0)), (0, .ref (ad 5)), (1, .int (nI i)), (2, .int (nI j)), (3, .int (nI k)), (4, .int (nI r))]) hx hb dX3_ratioOf_29 hl (by decide) rfl (fun ls hl => ?_)
    refine lv_aload_n hx hb dX3_ratioOf_31 rfl (lv_at hl 1 rfl) ?_
    refine va_get (D := D) (ci := 3) (v := .ref (ad 0)) (C := RX3) (T := TX3) (N := 4) hx hb hts hiX3 hown hK hP 5 rfl rfl 0 (by decide) hf18 (fun _ h9 => h9) rfl dX3_ratioOf_32 ?_
    refine lv_aload_n hx hb dX3_ratioOf_35 rfl (lv_at hl 1 rfl) ?_
    refine lv_iload_n hx hb dX3_ratioOf_36 rfl (lv_at hl 2 rfl) ?_
    refine lv_iload hx hb dX3_ratioOf_37 (lv_at hl 5 rfl) ?_
    refine lv_iload hx hb dX3_ratioOf_39 (lv_at hl 0 rfl) ?_
    refine ctR_V (As := [.int (nI i), .int (nI r), .int (nI 0)]) (rest := [.ref (ad 0)]) (r := .int (nI (vcr q (pt q i) (pt q r) 0))) ⟨hx, hb, hml, hown, hts⟩ (c_X3_cross l D cI cZ ad q sm pr op iv hF tr ro hT i r 0 (by omega) (by omega) (by omega)) (cwV 3 hts gX3_ratioOf_X3_cross rfl rfl rfl hdV_X3_cross ⟨Nat.le_of_ble_eq_true rfl, Nat.le_of_ble_eq_true rfl⟩) hK hN hP [0, 1, 2, 3, 4, 5, 6, 7] rfl 5 3 rfl rfl rfl hl.1 rfl (Nat.le_of_ble_eq_true rfl) ⟨Nat.zero_le _, Nat.zero_le _⟩ dX3_ratioOf_41 ?_
    have hh_17 : vcr q (pt q i) (pt q r) 0 < q := vcr_lt hF.1 (ptv hF.1 (by omega)) (ptv hF.1 (by omega))
    refine lv_aload_n hx hb dX3_ratioOf_44 rfl (lv_at hl 1 rfl) ?_
    refine lv_iload_n hx hb dX3_ratioOf_45 rfl (lv_at hl 4 rfl) ?_
    refine lv_iload_n hx hb dX3_ratioOf_46 rfl (lv_at hl 3 rfl) ?_
    refine lv_iload hx hb dX3_ratioOf_47 (lv_at hl 0 rfl) ?_
    refine ctR_V (As := [.int (nI k), .int (nI j), .int (nI 0)]) (rest := [.int (nI (vcr q (pt q i) (pt q r) 0)), .ref (ad 0)]) (r := .int (nI (vcr q (pt q k) (pt q j) 0))) ⟨hx, hb, hml, hown, hts⟩ (c_X3_cross l D cI cZ ad q sm pr op iv hF tr ro hT k j 0 (by omega) (by omega) (by omega)) (cwV 3 hts gX3_ratioOf_X3_cross rfl rfl rfl hdV_X3_cross ⟨Nat.le_of_ble_eq_true rfl, Nat.le_of_ble_eq_true rfl⟩) hK hN hP [0, 1, 2, 3, 4, 5, 6, 7] rfl 5 3 rfl rfl rfl hl.1 rfl (Nat.le_of_ble_eq_true rfl) ⟨Nat.zero_le _, Nat.zero_le _⟩ dX3_ratioOf_49 ?_
    have hh_18 : vcr q (pt q k) (pt q j) 0 < q := vcr_lt hF.1 (ptv hF.1 (by omega)) (ptv hF.1 (by omega))
    refine ctR_V (As := [.int (nI (vcr q (pt q i) (pt q r) 0)), .int (nI (vcr q (pt q k) (pt q j) 0))]) (rest := []) (r := .int (nI (fmul q (vcr q (pt q i) (pt q r) 0) (vcr q (pt q k) (pt q j) 0)))) ⟨hx, hb, hml, hown, hts⟩ (c_X1_times l D cI cZ ad q sm pr op iv hF (vcr q (pt q i) (pt q r) 0) (vcr q (pt q k) (pt q j) 0) (by omega) (by omega)) (cwV 2 hts gX3_ratioOf_X1_times rfl rfl rfl hdV_X1_times ⟨Nat.le_of_ble_eq_true rfl, Nat.le_of_ble_eq_true rfl⟩) hK hN hP [0, 1, 2, 3, 4] rfl 0 1 rfl rfl rfl hl.1 rfl (Nat.le_of_ble_eq_true rfl) ⟨Nat.zero_le _, Nat.zero_le _⟩ dX3_ratioOf_52 ?_
    have hh_19 : fmul q (vcr q (pt q i) (pt q r) 0) (vcr q (pt q k) (pt q j) 0) < q := fmul_lt hF.1 (by omega) (by omega)
    refine lv_istore (lv' := [(6, .int (nI (fmul q (vcr q (pt q i) (pt q r) 0) (vcr q (pt q k) (pt q j) 0)))), (5, .int (nI 0)), (0, .ref (ad 5)), (1, .int (nI i)), (2, .int (nI j)), (3, .int (nI k)), (4, .int (nI r))]) hx hb dX3_ratioOf_55 hl (by decide) rfl (fun ls hl => ?_)
    refine lv_iload hx hb dX3_ratioOf_57 (lv_at hl 0 rfl) ?_
    refine nv_if_ne (tgt := 70) hx hb (by omega) dX3_ratioOf_59 (by decide) (fun c59 => ?_) (fun c59 => ?_)
    · refine lv_aload_n hx hb dX3_ratioOf_70 rfl (lv_at hl 2 rfl) ?_
      refine va_get (D := D) (ci := 3) (v := .ref (ad 0)) (C := RX3) (T := TX3) (N := 4) hx hb hts hiX3 hown hK hP 5 rfl rfl 0 (by decide) hf18 (fun _ h9 => h9) rfl dX3_ratioOf_71 ?_
      refine lv_aload_n hx hb dX3_ratioOf_74 rfl (lv_at hl 2 rfl) ?_
      refine va_get (D := D) (ci := 3) (v := .ref (ad 0)) (C := RX3) (T := TX3) (N := 4) hx hb hts hiX3 hown hK hP 5 rfl rfl 0 (by decide) hf18 (fun _ h9 => h9) rfl dX3_ratioOf_75 ?_
      refine lv_aload_n hx hb dX3_ratioOf_78 rfl (lv_at hl 2 rfl) ?_
      refine lv_iload hx hb dX3_ratioOf_79 (lv_at hl 6 rfl) ?_
      refine lv_iload_n hx hb dX3_ratioOf_81 rfl (lv_at hl 4 rfl) ?_
      refine lv_iload hx hb dX3_ratioOf_82 (lv_at hl 1 rfl) ?_
      refine ctR_V (As := [.int (nI r), .int (nI j), .int (nI 0)]) (rest := [.ref (ad 0), .ref (ad 0)]) (r := .int (nI (vcr q (pt q r) (pt q j) 0))) ⟨hx, hb, hml, hown, hts⟩ (c_X3_cross l D cI cZ ad q sm pr op iv hF tr ro hT r j 0 (by omega) (by omega) (by omega)) (cwV 3 hts gX3_ratioOf_X3_cross rfl rfl rfl hdV_X3_cross ⟨Nat.le_of_ble_eq_true rfl, Nat.le_of_ble_eq_true rfl⟩) hK hN hP [0, 1, 2, 3, 4, 5, 6, 7] rfl 5 3 rfl rfl rfl hl.1 rfl (Nat.le_of_ble_eq_true rfl) ⟨Nat.zero_le _, Nat.zero_le _⟩ dX3_ratioOf_84 ?_
      have hh_20 : vcr q (pt q r) (pt q j) 0 < q := vcr_lt hF.1 (ptv hF.1 (by omega)) (ptv hF.1 (by omega))
      refine lv_aload_n hx hb dX3_ratioOf_87 rfl (lv_at hl 2 rfl) ?_
      refine lv_iload_n hx hb dX3_ratioOf_88 rfl (lv_at hl 3 rfl) ?_
      refine lv_iload_n hx hb dX3_ratioOf_89 rfl (lv_at hl 5 rfl) ?_
      refine lv_iload hx hb dX3_ratioOf_90 (lv_at hl 1 rfl) ?_
      refine ctR_V (As := [.int (nI i), .int (nI k), .int (nI 0)]) (rest := [.int (nI (vcr q (pt q r) (pt q j) 0)), .ref (ad 0), .ref (ad 0)]) (r := .int (nI (vcr q (pt q i) (pt q k) 0))) ⟨hx, hb, hml, hown, hts⟩ (c_X3_cross l D cI cZ ad q sm pr op iv hF tr ro hT i k 0 (by omega) (by omega) (by omega)) (cwV 3 hts gX3_ratioOf_X3_cross rfl rfl rfl hdV_X3_cross ⟨Nat.le_of_ble_eq_true rfl, Nat.le_of_ble_eq_true rfl⟩) hK hN hP [0, 1, 2, 3, 4, 5, 6, 7] rfl 5 3 rfl rfl rfl hl.1 rfl (Nat.le_of_ble_eq_true rfl) ⟨Nat.zero_le _, Nat.zero_le _⟩ dX3_ratioOf_92 ?_
      have hh_21 : vcr q (pt q i) (pt q k) 0 < q := vcr_lt hF.1 (ptv hF.1 (by omega)) (ptv hF.1 (by omega))
      refine ctR_V (As := [.int (nI (vcr q (pt q r) (pt q j) 0)), .int (nI (vcr q (pt q i) (pt q k) 0))]) (rest := [.ref (ad 0)]) (r := .int (nI (fmul q (vcr q (pt q r) (pt q j) 0) (vcr q (pt q i) (pt q k) 0)))) ⟨hx, hb, hml, hown, hts⟩ (c_X1_times l D cI cZ ad q sm pr op iv hF (vcr q (pt q r) (pt q j) 0) (vcr q (pt q i) (pt q k) 0) (by omega) (by omega)) (cwV 2 hts gX3_ratioOf_X1_times rfl rfl rfl hdV_X1_times ⟨Nat.le_of_ble_eq_true rfl, Nat.le_of_ble_eq_true rfl⟩) hK hN hP [0, 1, 2, 3, 4] rfl 0 1 rfl rfl rfl hl.1 rfl (Nat.le_of_ble_eq_true rfl) ⟨Nat.zero_le _, Nat.zero_le _⟩ dX3_ratioOf_95 ?_
      have hh_22 : fmul q (vcr q (pt q r) (pt q j) 0) (vcr q (pt q i) (pt q k) 0) < q := fmul_lt hF.1 (by omega) (by omega)
      refine lv_iload hx hb dX3_ratioOf_98 (lv_at hl 0 rfl) ?_
      refine ctR_V (As := [.int (nI (fmul q (vcr q (pt q r) (pt q j) 0) (vcr q (pt q i) (pt q k) 0))), .int (nI (fmul q (vcr q (pt q i) (pt q r) 0) (vcr q (pt q k) (pt q j) 0)))]) (rest := []) (r := .int (nI (fdiv q (fmul q (vcr q (pt q r) (pt q j) 0) (vcr q (pt q i) (pt q k) 0)) (fmul q (vcr q (pt q i) (pt q r) 0) (vcr q (pt q k) (pt q j) 0))))) ⟨hx, hb, hml, hown, hts⟩ (c_X1_over l D cI cZ ad q sm pr op iv hF (fmul q (vcr q (pt q r) (pt q j) 0) (vcr q (pt q i) (pt q k) 0)) (fmul q (vcr q (pt q i) (pt q r) 0) (vcr q (pt q k) (pt q j) 0)) (by omega) (by omega) (by omega)) (cwV 2 hts gX3_ratioOf_X1_over rfl rfl rfl hdV_X1_over ⟨Nat.le_of_ble_eq_true rfl, Nat.le_of_ble_eq_true rfl⟩) hK hN hP [0, 1, 2, 3, 4] rfl 0 1 rfl rfl rfl hl.1 rfl (Nat.le_of_ble_eq_true rfl) ⟨Nat.zero_le _, Nat.zero_le _⟩ dX3_ratioOf_100 ?_
      have hh_23 : fdiv q (fmul q (vcr q (pt q r) (pt q j) 0) (vcr q (pt q i) (pt q k) 0)) (fmul q (vcr q (pt q i) (pt q r) 0) (vcr q (pt q k) (pt q j) 0)) < q := fdiv_lt hF.1 (by omega) (by omega)
      exact ctR_ret (v := (nI (fdiv q (fmul q (vcr q (pt q r) (pt q j) 0) (vcr q (pt q i) (pt q k) 0)) (fmul q (vcr q (pt q i) (pt q r) 0) (vcr q (pt q k) (pt q j) 0))))) hx hb hr rfl dX3_ratioOf_103 hlocks (by rw [ratq, rti_0 c7, ratk, if_neg c59])
    · refine lv_aload_n hx hb dX3_ratioOf_62 rfl (lv_at hl 2 rfl) ?_
      refine va_get (D := D) (ci := 3) (v := .ref (ad 0)) (C := RX3) (T := TX3) (N := 4) hx hb hts hiX3 hown hK hP 5 rfl rfl 0 (by decide) hf18 (fun _ h9 => h9) rfl dX3_ratioOf_63 ?_
      refine va_getN (D := D) (ci := 1) (v := .int (nI q)) (C := RX1) (T := TX1) (N := 5) hx hb hts hiX1 hown hK hP 0 rfl rfl 0 (by decide) hf25 (fun _ h9 => h9) rfl dX3_ratioOf_66 ?_
      exact ctR_ret (v := (nI q)) hx hb hr rfl dX3_ratioOf_69 hlocks (by rw [ratq, rti_0 c7, ratk, if_pos c59])

set_option maxHeartbeats 4000000 in
set_option maxRecDepth 100000 in
theorem c_X6_reckon (l : Launch) (D : va_G) (cI cZ : ClassId) (ad : Nat → Nat) (q : Nat) (sm : Nat → Nat) (pr : Nat → Nat) (op : Nat → Nat) (iv : Nat → Nat) (hF : FOK q sm pr op iv) (hw : Int32) (xa : Int32) (xb : Int32) : CtR l yX6_reckon wsX6_reckon { frames := 1, cells := 0, slots := 0, locals := 22 } D (tyG cI cZ) [.ref (ad 26), .int hw, .int xa, .int xb] [(ad 0, .inr (1, [.int (nI q), .ref (ad 1), .ref (ad 2), .ref (ad 3), .ref (ad 4)])), (ad 1, .inl (cI, 81, .inl (nF sm))), (ad 2, .inl (cI, 81, .inl (nF pr))), (ad 3, .inl (cI, 9, .inl (nF op))), (ad 4, .inl (cI, 9, .inl (nF iv))), (ad 26, .inr (6, [.ref (ad 0), .ref (ad 5), .ref (ad 8), .ref (ad 12), .ref (ad 16), .ref (ad 20), .ref (ad 24)]))] (.int (recZ q hw xa xb)) := by
  refine Met.ofW (cc := cX6_reckon) (maxL := 4) (ret := some .int) (by decide) rfl ?_
  intro p e s m args below meth c s₁ B hml hv
  obtain ⟨rfl, hP, hK, hN⟩ := hv
  have hx := B.exec
  have hb := B.bytes
  have hr := B.returns
  have hts := atoms_spec (ws := wsX6_reckon) B.pre
  have hown : s.vm.findClass RX6 = some m.cls := findClass_of_methodNamed B.named
  have hlocks := B.notSynchronized
  have hf10 := hts (.fieldLink RX6 10 "FinitePlanes" "field" "LFinitePlanes$Field;") (by decide +kernel)
  have hiX6 : ∀ w ∈ u_ws RX6 TX6 7, w ∈ wsX6_reckon := by decide +kernel
  have hl := lv_entry ([.ref (ad 26), .int hw, .int xa, .int xb]) (n := 4) (Nat.le_of_ble_eq_true rfl)
  rw [lg_entry_eq]
  generalize (lg_sl ([.ref (ad 26), .int hw, .int xa, .int xb]) ++ List.replicate (4 - (lg_sl ([.ref (ad 26), .int hw, .int xa, .int xb])).length) Slot.unset).toArray = ls at hl ⊢
  have hl : lv_has ls 4 [(0, .ref (ad 26)), (1, .int hw), (2, .int xa), (3, .int xb)] := hl
  have hq2 := qs_le hF.1
  have hn2 := nn_le hF.1
  refine lv_iload_n hx hb dX6_reckon_0 rfl (lv_at hl 1 rfl) ?_
  refine lv_if_lt (tgt := 31) hx hb dX6_reckon_1 (by decide) (fun c1 => ?_) (fun c1 => ?_)
  · refine lv_bipush (v := (-2)) hx hb dX6_reckon_31 (by decide) ?_
    exact ctR_ret (v := (-2)) hx hb hr rfl dX6_reckon_33 hlocks (by rw [recZ, if_pos (inR_l0 c1)])
  · refine lv_iload_n hx hb dX6_reckon_4 rfl (lv_at hl 1 rfl) ?_
    refine lv_iconst (v := nI 3) hx hb dX6_reckon_5 (by decide) ?_
    refine lv_icmp_gt (tgt := 31) hx hb dX6_reckon_6 (by decide) (fun c6 => ?_) (fun c6 => ?_)
    · refine lv_bipush (v := (-2)) hx hb dX6_reckon_31 (by decide) ?_
      exact ctR_ret (v := (-2)) hx hb hr rfl dX6_reckon_33 hlocks (by rw [recZ, if_pos (inR_hi (by decide) c6)])
    · refine lv_aload_n hx hb dX6_reckon_9 rfl (lv_at hl 0 rfl) ?_
      refine va_get (D := D) (ci := 6) (v := .ref (ad 0)) (C := RX6) (T := TX6) (N := 7) hx hb hts hiX6 hown hK hP 5 rfl rfl 0 (by decide) hf10 (fun _ h9 => h9) rfl dX6_reckon_10 ?_
      refine lv_iload_n hx hb dX6_reckon_13 rfl (lv_at hl 2 rfl) ?_
      refine ctR_V (As := [.int xa]) (rest := []) (r := .int (nI (inB xa q).toNat)) ⟨hx, hb, hml, hown, hts⟩ (c_X1_has l D cI cZ ad q sm pr op iv hF xa) (cwV 1 hts gX6_reckon_X1_has rfl rfl rfl hdV_X1_has ⟨Nat.le_of_ble_eq_true rfl, Nat.le_of_ble_eq_true rfl⟩) hK hN hP [0, 1, 2, 3, 4] rfl 0 1 rfl rfl rfl hl.1 rfl (Nat.le_of_ble_eq_true rfl) ⟨Nat.zero_le _, Nat.zero_le _⟩ dX6_reckon_14 ?_
      refine nv_ifb_eq (tgt := 31) hx hb dX6_reckon_17 (by decide) (fun c17 => ?_) (fun c17 => ?_)
      · refine lv_bipush (v := (-2)) hx hb dX6_reckon_31 (by decide) ?_
        exact ctR_ret (v := (-2)) hx hb hr rfl dX6_reckon_33 hlocks (by rw [recZ, if_neg (bool_nf (inR_ok (by decide) c1 c6)), if_pos c17])
      · refine lv_aload_n hx hb dX6_reckon_20 rfl (lv_at hl 0 rfl) ?_
        refine va_get (D := D) (ci := 6) (v := .ref (ad 0)) (C := RX6) (T := TX6) (N := 7) hx hb hts hiX6 hown hK hP 5 rfl rfl 0 (by decide) hf10 (fun _ h9 => h9) rfl dX6_reckon_21 ?_
        refine lv_iload_n hx hb dX6_reckon_24 rfl (lv_at hl 3 rfl) ?_
        refine ctR_V (As := [.int xb]) (rest := []) (r := .int (nI (inB xb q).toNat)) ⟨hx, hb, hml, hown, hts⟩ (c_X1_has l D cI cZ ad q sm pr op iv hF xb) (cwV 1 hts gX6_reckon_X1_has rfl rfl rfl hdV_X1_has ⟨Nat.le_of_ble_eq_true rfl, Nat.le_of_ble_eq_true rfl⟩) hK hN hP [0, 1, 2, 3, 4] rfl 0 1 rfl rfl rfl hl.1 rfl (Nat.le_of_ble_eq_true rfl) ⟨Nat.zero_le _, Nat.zero_le _⟩ dX6_reckon_25 ?_
        refine nv_ifb_ne (tgt := 34) hx hb dX6_reckon_28 (by decide) (fun c28 => ?_) (fun c28 => ?_)
        · have hi3 := inR_ok (hi := 3) (by decide) c1 c6
          have hia := c17
          have hib := c28
          obtain ⟨ja, hja, rfl⟩ := inB_of (by omega) c17
          obtain ⟨jb, hjb, rfl⟩ := inB_of (by omega) c28
          refine lv_iload_n hx hb dX6_reckon_34 rfl (lv_at hl 1 rfl) ?_
          rcases (show (hw).toInt = 0 ∨ (hw).toInt = 1 ∨ (hw).toInt = 2 ∨ ((hw).toInt < 0 ∨ 2 < (hw).toInt) by omega) with sw | sw | sw | sw
          · refine lv_tableIn (tgt := 60) hx hb dX6_reckon_35 (by omega) (by omega) (by rw [sw]; rfl) (by decide) ?_
            obtain rfl : hw = nI 0 := toInt_nI (by decide) sw
            refine lv_aload_n hx hb dX6_reckon_60 rfl (lv_at hl 0 rfl) ?_
            refine va_get (D := D) (ci := 6) (v := .ref (ad 0)) (C := RX6) (T := TX6) (N := 7) hx hb hts hiX6 hown hK hP 5 rfl rfl 0 (by decide) hf10 (fun _ h9 => h9) rfl dX6_reckon_61 ?_
            refine lv_iload_n hx hb dX6_reckon_64 rfl (lv_at hl 2 rfl) ?_
            refine lv_iload_n hx hb dX6_reckon_65 rfl (lv_at hl 3 rfl) ?_
            refine ctR_V (As := [.int (nI ja), .int (nI jb)]) (rest := []) (r := .int (nI (fadd q ja jb))) ⟨hx, hb, hml, hown, hts⟩ (c_X1_plus l D cI cZ ad q sm pr op iv hF ja jb (by omega) (by omega)) (cwV 2 hts gX6_reckon_X1_plus rfl rfl rfl hdV_X1_plus ⟨Nat.le_of_ble_eq_true rfl, Nat.le_of_ble_eq_true rfl⟩) hK hN hP [0, 1, 2, 3, 4] rfl 0 1 rfl rfl rfl hl.1 rfl (Nat.le_of_ble_eq_true rfl) ⟨Nat.zero_le _, Nat.zero_le _⟩ dX6_reckon_66 ?_
            have hh_1 : fadd q ja jb < q := fadd_lt hF.1 (by omega) (by omega)
            exact ctR_ret (v := (nI (fadd q ja jb))) hx hb hr rfl dX6_reckon_69 hlocks (by rw [recZ, if_neg (bool_nf hi3), if_neg (bool_nf hia), if_neg (bool_nf hib), if_pos rfl, nv_nI (by omega), nv_nI (by omega)])
          · refine lv_tableIn (tgt := 70) hx hb dX6_reckon_35 (by omega) (by omega) (by rw [sw]; rfl) (by decide) ?_
            obtain rfl : hw = nI 1 := toInt_nI (by decide) sw
            refine lv_aload_n hx hb dX6_reckon_70 rfl (lv_at hl 0 rfl) ?_
            refine va_get (D := D) (ci := 6) (v := .ref (ad 0)) (C := RX6) (T := TX6) (N := 7) hx hb hts hiX6 hown hK hP 5 rfl rfl 0 (by decide) hf10 (fun _ h9 => h9) rfl dX6_reckon_71 ?_
            refine lv_iload_n hx hb dX6_reckon_74 rfl (lv_at hl 2 rfl) ?_
            refine lv_iload_n hx hb dX6_reckon_75 rfl (lv_at hl 3 rfl) ?_
            refine ctR_V (As := [.int (nI ja), .int (nI jb)]) (rest := []) (r := .int (nI (fsub q ja jb))) ⟨hx, hb, hml, hown, hts⟩ (c_X1_minus l D cI cZ ad q sm pr op iv hF ja jb (by omega) (by omega)) (cwV 2 hts gX6_reckon_X1_minus rfl rfl rfl hdV_X1_minus ⟨Nat.le_of_ble_eq_true rfl, Nat.le_of_ble_eq_true rfl⟩) hK hN hP [0, 1, 2, 3, 4] rfl 0 1 rfl rfl rfl hl.1 rfl (Nat.le_of_ble_eq_true rfl) ⟨Nat.zero_le _, Nat.zero_le _⟩ dX6_reckon_76 ?_
            have hh_2 : fsub q ja jb < q := fsub_lt hF.1 (by omega) (by omega)
            exact ctR_ret (v := (nI (fsub q ja jb))) hx hb hr rfl dX6_reckon_79 hlocks (by rw [recZ, if_neg (bool_nf hi3), if_neg (bool_nf hia), if_neg (bool_nf hib), if_neg (by decide), if_pos rfl, nv_nI (by omega), nv_nI (by omega)])
          · refine lv_tableIn (tgt := 80) hx hb dX6_reckon_35 (by omega) (by omega) (by rw [sw]; rfl) (by decide) ?_
            obtain rfl : hw = nI 2 := toInt_nI (by decide) sw
            refine lv_aload_n hx hb dX6_reckon_80 rfl (lv_at hl 0 rfl) ?_
            refine va_get (D := D) (ci := 6) (v := .ref (ad 0)) (C := RX6) (T := TX6) (N := 7) hx hb hts hiX6 hown hK hP 5 rfl rfl 0 (by decide) hf10 (fun _ h9 => h9) rfl dX6_reckon_81 ?_
            refine lv_iload_n hx hb dX6_reckon_84 rfl (lv_at hl 2 rfl) ?_
            refine lv_iload_n hx hb dX6_reckon_85 rfl (lv_at hl 3 rfl) ?_
            refine ctR_V (As := [.int (nI ja), .int (nI jb)]) (rest := []) (r := .int (nI (fmul q ja jb))) ⟨hx, hb, hml, hown, hts⟩ (c_X1_times l D cI cZ ad q sm pr op iv hF ja jb (by omega) (by omega)) (cwV 2 hts gX6_reckon_X1_times rfl rfl rfl hdV_X1_times ⟨Nat.le_of_ble_eq_true rfl, Nat.le_of_ble_eq_true rfl⟩) hK hN hP [0, 1, 2, 3, 4] rfl 0 1 rfl rfl rfl hl.1 rfl (Nat.le_of_ble_eq_true rfl) ⟨Nat.zero_le _, Nat.zero_le _⟩ dX6_reckon_86 ?_
            have hh_3 : fmul q ja jb < q := fmul_lt hF.1 (by omega) (by omega)
            exact ctR_ret (v := (nI (fmul q ja jb))) hx hb hr rfl dX6_reckon_89 hlocks (by rw [recZ, if_neg (bool_nf hi3), if_neg (bool_nf hia), if_neg (bool_nf hib), if_neg (by decide), if_neg (by decide), if_pos rfl, nv_nI (by omega), nv_nI (by omega)])
          · refine lv_tableOut (tgt := 90) hx hb dX6_reckon_35 sw (by decide) ?_
            have hn0 : ¬ hw = nI 0 := fun z => by rw [z] at sw; exact absurd sw (by decide)
            have hn1 : ¬ hw = nI 1 := fun z => by rw [z] at sw; exact absurd sw (by decide)
            have hn2 : ¬ hw = nI 2 := fun z => by rw [z] at sw; exact absurd sw (by decide)
            refine lv_iload_n hx hb dX6_reckon_90 rfl (lv_at hl 3 rfl) ?_
            refine nv_if_ne (tgt := 99) hx hb (by omega) dX6_reckon_91 (by decide) (fun c91 => ?_) (fun c91 => ?_)
            · refine lv_aload_n hx hb dX6_reckon_99 rfl (lv_at hl 0 rfl) ?_
              refine va_get (D := D) (ci := 6) (v := .ref (ad 0)) (C := RX6) (T := TX6) (N := 7) hx hb hts hiX6 hown hK hP 5 rfl rfl 0 (by decide) hf10 (fun _ h9 => h9) rfl dX6_reckon_100 ?_
              refine lv_iload_n hx hb dX6_reckon_103 rfl (lv_at hl 2 rfl) ?_
              refine lv_iload_n hx hb dX6_reckon_104 rfl (lv_at hl 3 rfl) ?_
              refine ctR_V (As := [.int (nI ja), .int (nI jb)]) (rest := []) (r := .int (nI (fdiv q ja jb))) ⟨hx, hb, hml, hown, hts⟩ (c_X1_over l D cI cZ ad q sm pr op iv hF ja jb (by omega) (by omega) c91) (cwV 2 hts gX6_reckon_X1_over rfl rfl rfl hdV_X1_over ⟨Nat.le_of_ble_eq_true rfl, Nat.le_of_ble_eq_true rfl⟩) hK hN hP [0, 1, 2, 3, 4] rfl 0 1 rfl rfl rfl hl.1 rfl (Nat.le_of_ble_eq_true rfl) ⟨Nat.zero_le _, Nat.zero_le _⟩ dX6_reckon_105 ?_
              have hh_4 : fdiv q ja jb < q := fdiv_lt hF.1 (by omega) (by omega)
              exact ctR_ret (v := (nI (fdiv q ja jb))) hx hb hr rfl dX6_reckon_108 hlocks (by rw [recZ, if_neg (bool_nf hi3), if_neg (bool_nf hia), if_neg (bool_nf hib), if_neg hn0, if_neg hn1, if_neg hn2, if_neg (fun z => c91 ((nI_eq (by omega) (by decide)).mp z)), nv_nI (by omega), nv_nI (by omega)])
            · refine lv_bipush (v := (-3)) hx hb dX6_reckon_94 (by decide) ?_
              refine lv_goto (tgt := 108) hx hb dX6_reckon_96 (by decide) ?_
              exact ctR_ret (v := (-3)) hx hb hr rfl dX6_reckon_108 hlocks (by rw [recZ, if_neg (bool_nf hi3), if_neg (bool_nf hia), if_neg (bool_nf hib), if_neg hn0, if_neg hn1, if_neg hn2, if_pos (by rw [c91])])
        · refine lv_bipush (v := (-2)) hx hb dX6_reckon_31 (by decide) ?_
          exact ctR_ret (v := (-2)) hx hb hr rfl dX6_reckon_33 hlocks (by rw [recZ, if_neg (bool_nf (inR_ok (by decide) c1 c6)), if_neg (bool_nf c17), if_pos c28])

set_option maxHeartbeats 4000000 in
set_option maxRecDepth 100000 in
theorem c_X6_triple (l : Launch) (D : va_G) (cI cZ : ClassId) (ad : Nat → Nat) (q : Nat) (sm : Nat → Nat) (pr : Nat → Nat) (op : Nat → Nat) (iv : Nat → Nat) (hF : FOK q sm pr op iv) (tr : Nat → Nat) (ro : Nat → Nat) (hT : TOK q tr) (x : Int32) (k : Int32) : CtR l yX6_triple wsX6_triple { frames := 1, cells := 0, slots := 0, locals := 22 } D (tyG cI cZ) [.ref (ad 26), .int x, .int k] [(ad 0, .inr (1, [.int (nI q), .ref (ad 1), .ref (ad 2), .ref (ad 3), .ref (ad 4)])), (ad 1, .inl (cI, 81, .inl (nF sm))), (ad 2, .inl (cI, 81, .inl (nF pr))), (ad 3, .inl (cI, 9, .inl (nF op))), (ad 4, .inl (cI, 9, .inl (nF iv))), (ad 5, .inr (3, [.ref (ad 0), .int (nI (nn q)), .ref (ad 6), .ref (ad 7)])), (ad 6, .inl (cI, 273, .inl (nF tr))), (ad 7, .inl (cI, 910, .inl (nF ro))), (ad 26, .inr (6, [.ref (ad 0), .ref (ad 5), .ref (ad 8), .ref (ad 12), .ref (ad 16), .ref (ad 20), .ref (ad 24)]))] (.int (triZ q x k)) := by
  refine Met.ofW (cc := cX6_triple) (maxL := 3) (ret := some .int) (by decide) rfl ?_
  intro p e s m args below meth c s₁ B hml hv
  obtain ⟨rfl, hP, hK, hN⟩ := hv
  have hx := B.exec
  have hb := B.bytes
  have hr := B.returns
  have hts := atoms_spec (ws := wsX6_triple) B.pre
  have hown : s.vm.findClass RX6 = some m.cls := findClass_of_methodNamed B.named
  have hlocks := B.notSynchronized
  have hf21 := hts (.fieldLink RX6 21 "FinitePlanes" "plane" "LFinitePlanes$Plane;") (by decide +kernel)
  have hiX6 : ∀ w ∈ u_ws RX6 TX6 7, w ∈ wsX6_triple := by decide +kernel
  have hl := lv_entry ([.ref (ad 26), .int x, .int k]) (n := 3) (Nat.le_of_ble_eq_true rfl)
  rw [lg_entry_eq]
  generalize (lg_sl ([.ref (ad 26), .int x, .int k]) ++ List.replicate (3 - (lg_sl ([.ref (ad 26), .int x, .int k])).length) Slot.unset).toArray = ls at hl ⊢
  have hl : lv_has ls 3 [(0, .ref (ad 26)), (1, .int x), (2, .int k)] := hl
  have hq2 := qs_le hF.1
  have hn2 := nn_le hF.1
  refine lv_aload_n hx hb dX6_triple_0 rfl (lv_at hl 0 rfl) ?_
  refine va_get (D := D) (ci := 6) (v := .ref (ad 5)) (C := RX6) (T := TX6) (N := 7) hx hb hts hiX6 hown hK hP 8 rfl rfl 1 (by decide) hf21 (fun _ h9 => h9) rfl dX6_triple_1 ?_
  refine lv_iload_n hx hb dX6_triple_4 rfl (lv_at hl 1 rfl) ?_
  refine ctR_V (As := [.int x]) (rest := []) (r := .int (nI (inB x (nn q)).toNat)) ⟨hx, hb, hml, hown, hts⟩ (c_X3_has l D cI cZ ad q sm pr op iv hF tr ro hT x) (cwV 1 hts gX6_triple_X3_has rfl rfl rfl hdV_X3_has ⟨Nat.le_of_ble_eq_true rfl, Nat.le_of_ble_eq_true rfl⟩) hK hN hP [0, 1, 2, 3, 4, 5, 6, 7] rfl 5 3 rfl rfl rfl hl.1 rfl (Nat.le_of_ble_eq_true rfl) ⟨Nat.zero_le _, Nat.zero_le _⟩ dX6_triple_5 ?_
  refine nv_ifb_eq (tgt := 20) hx hb dX6_triple_8 (by decide) (fun c8 => ?_) (fun c8 => ?_)
  · refine lv_bipush (v := (-2)) hx hb dX6_triple_20 (by decide) ?_
    exact ctR_ret (v := (-2)) hx hb hr rfl dX6_triple_22 hlocks (by rw [triZ, if_pos c8])
  · refine lv_iload_n hx hb dX6_triple_11 rfl (lv_at hl 2 rfl) ?_
    refine lv_if_lt (tgt := 20) hx hb dX6_triple_12 (by decide) (fun c12 => ?_) (fun c12 => ?_)
    · refine lv_bipush (v := (-2)) hx hb dX6_triple_20 (by decide) ?_
      exact ctR_ret (v := (-2)) hx hb hr rfl dX6_triple_22 hlocks (by rw [triZ, if_neg (bool_nf c8), if_pos (inR_l0 c12)])
    · refine lv_iload_n hx hb dX6_triple_15 rfl (lv_at hl 2 rfl) ?_
      refine lv_iconst (v := nI 2) hx hb dX6_triple_16 (by decide) ?_
      refine lv_icmp_le (tgt := 23) hx hb dX6_triple_17 (by decide) (fun c17 => ?_) (fun c17 => ?_)
      · have hk9 := inR_ok2 (hi := 2) (by decide) c12 c17
        have hx9 := c8
        obtain ⟨i, hi, rfl⟩ := inB_of (by omega) c8
        obtain ⟨j, hj1, hj, rfl⟩ := inR_of (by decide) hk9
        refine lv_aload_n hx hb dX6_triple_23 rfl (lv_at hl 0 rfl) ?_
        refine va_get (D := D) (ci := 6) (v := .ref (ad 5)) (C := RX6) (T := TX6) (N := 7) hx hb hts hiX6 hown hK hP 8 rfl rfl 1 (by decide) hf21 (fun _ h9 => h9) rfl dX6_triple_24 ?_
        refine lv_iload_n hx hb dX6_triple_27 rfl (lv_at hl 1 rfl) ?_
        refine lv_iload_n hx hb dX6_triple_28 rfl (lv_at hl 2 rfl) ?_
        refine ctR_V (As := [.int (nI i), .int (nI j)]) (rest := []) (r := .int (nI (pt q i j))) ⟨hx, hb, hml, hown, hts⟩ (c_X3_part l D cI cZ ad q sm pr op iv hF tr ro hT i j (by omega) (by omega)) (cwV 2 hts gX6_triple_X3_part rfl rfl rfl hdV_X3_part ⟨Nat.le_of_ble_eq_true rfl, Nat.le_of_ble_eq_true rfl⟩) hK hN hP [0, 1, 2, 3, 4, 5, 6, 7] rfl 5 3 rfl rfl rfl hl.1 rfl (Nat.le_of_ble_eq_true rfl) ⟨Nat.zero_le _, Nat.zero_le _⟩ dX6_triple_29 ?_
        have hh_1 : pt q i j < q := pt_lt hF.1 (by omega) (by omega)
        exact ctR_ret (v := (nI (pt q i j))) hx hb hr rfl dX6_triple_32 hlocks (by rw [triZ, if_neg (bool_nf hx9), if_neg (bool_nf hk9), nv_nI (by omega), nv_nI (by omega)])
      · refine lv_bipush (v := (-2)) hx hb dX6_triple_20 (by decide) ?_
        exact ctR_ret (v := (-2)) hx hb hr rfl dX6_triple_22 hlocks (by rw [triZ, if_neg (bool_nf c8), if_pos (inR_no2 (by decide) c17)])

set_option maxHeartbeats 4000000 in
set_option maxRecDepth 100000 in
theorem c_X6_number (l : Launch) (D : va_G) (cI cZ : ClassId) (ad : Nat → Nat) (q : Nat) (sm : Nat → Nat) (pr : Nat → Nat) (op : Nat → Nat) (iv : Nat → Nat) (hF : FOK q sm pr op iv) (tr : Nat → Nat) (ro : Nat → Nat) (hT : TOK q tr) (xa : Int32) (xb : Int32) (xc : Int32) : CtR l yX6_number wsX6_number { frames := 2, cells := 0, slots := 0, locals := 46 } D (tyG cI cZ) [.ref (ad 26), .int xa, .int xb, .int xc] [(ad 0, .inr (1, [.int (nI q), .ref (ad 1), .ref (ad 2), .ref (ad 3), .ref (ad 4)])), (ad 1, .inl (cI, 81, .inl (nF sm))), (ad 2, .inl (cI, 81, .inl (nF pr))), (ad 3, .inl (cI, 9, .inl (nF op))), (ad 4, .inl (cI, 9, .inl (nF iv))), (ad 5, .inr (3, [.ref (ad 0), .int (nI (nn q)), .ref (ad 6), .ref (ad 7)])), (ad 6, .inl (cI, 273, .inl (nF tr))), (ad 7, .inl (cI, 910, .inl (nF ro))), (ad 26, .inr (6, [.ref (ad 0), .ref (ad 5), .ref (ad 8), .ref (ad 12), .ref (ad 16), .ref (ad 20), .ref (ad 24)]))] (.int (numZ q xa xb xc)) := by
  refine Met.ofW (cc := cX6_number) (maxL := 4) (ret := some .int) (by decide) rfl ?_
  intro p e s m args below meth c s₁ B hml hv
  obtain ⟨rfl, hP, hK, hN⟩ := hv
  have hx := B.exec
  have hb := B.bytes
  have hr := B.returns
  have hts := atoms_spec (ws := wsX6_number) B.pre
  have hown : s.vm.findClass RX6 = some m.cls := findClass_of_methodNamed B.named
  have hlocks := B.notSynchronized
  have hf10 := hts (.fieldLink RX6 10 "FinitePlanes" "field" "LFinitePlanes$Field;") (by decide +kernel)
  have hf21 := hts (.fieldLink RX6 21 "FinitePlanes" "plane" "LFinitePlanes$Plane;") (by decide +kernel)
  have hiX6 : ∀ w ∈ u_ws RX6 TX6 7, w ∈ wsX6_number := by decide +kernel
  have hl := lv_entry ([.ref (ad 26), .int xa, .int xb, .int xc]) (n := 4) (Nat.le_of_ble_eq_true rfl)
  rw [lg_entry_eq]
  generalize (lg_sl ([.ref (ad 26), .int xa, .int xb, .int xc]) ++ List.replicate (4 - (lg_sl ([.ref (ad 26), .int xa, .int xb, .int xc])).length) Slot.unset).toArray = ls at hl ⊢
  have hl : lv_has ls 4 [(0, .ref (ad 26)), (1, .int xa), (2, .int xb), (3, .int xc)] := hl
  have hq2 := qs_le hF.1
  have hn2 := nn_le hF.1
  refine lv_aload_n hx hb dX6_number_0 rfl (lv_at hl 0 rfl) ?_
  refine va_get (D := D) (ci := 6) (v := .ref (ad 0)) (C := RX6) (T := TX6) (N := 7) hx hb hts hiX6 hown hK hP 8 rfl rfl 0 (by decide) hf10 (fun _ h9 => h9) rfl dX6_number_1 ?_
  refine lv_iload_n hx hb dX6_number_4 rfl (lv_at hl 1 rfl) ?_
  refine ctR_V (As := [.int xa]) (rest := []) (r := .int (nI (inB xa q).toNat)) ⟨hx, hb, hml, hown, hts⟩ (c_X1_has l D cI cZ ad q sm pr op iv hF xa) (cwV 1 hts gX6_number_X1_has rfl rfl rfl hdV_X1_has ⟨Nat.le_of_ble_eq_true rfl, Nat.le_of_ble_eq_true rfl⟩) hK hN hP [0, 1, 2, 3, 4] rfl 0 1 rfl rfl rfl hl.1 rfl (Nat.le_of_ble_eq_true rfl) ⟨Nat.zero_le _, Nat.zero_le _⟩ dX6_number_5 ?_
  refine nv_ifb_eq (tgt := 33) hx hb dX6_number_8 (by decide) (fun c8 => ?_) (fun c8 => ?_)
  · refine lv_bipush (v := (-2)) hx hb dX6_number_33 (by decide) ?_
    exact ctR_ret (v := (-2)) hx hb hr rfl dX6_number_35 hlocks (by rw [numZ, if_pos c8])
  · refine lv_aload_n hx hb dX6_number_11 rfl (lv_at hl 0 rfl) ?_
    refine va_get (D := D) (ci := 6) (v := .ref (ad 0)) (C := RX6) (T := TX6) (N := 7) hx hb hts hiX6 hown hK hP 8 rfl rfl 0 (by decide) hf10 (fun _ h9 => h9) rfl dX6_number_12 ?_
    refine lv_iload_n hx hb dX6_number_15 rfl (lv_at hl 2 rfl) ?_
    refine ctR_V (As := [.int xb]) (rest := []) (r := .int (nI (inB xb q).toNat)) ⟨hx, hb, hml, hown, hts⟩ (c_X1_has l D cI cZ ad q sm pr op iv hF xb) (cwV 1 hts gX6_number_X1_has rfl rfl rfl hdV_X1_has ⟨Nat.le_of_ble_eq_true rfl, Nat.le_of_ble_eq_true rfl⟩) hK hN hP [0, 1, 2, 3, 4] rfl 0 1 rfl rfl rfl hl.1 rfl (Nat.le_of_ble_eq_true rfl) ⟨Nat.zero_le _, Nat.zero_le _⟩ dX6_number_16 ?_
    refine nv_ifb_eq (tgt := 33) hx hb dX6_number_19 (by decide) (fun c19 => ?_) (fun c19 => ?_)
    · refine lv_bipush (v := (-2)) hx hb dX6_number_33 (by decide) ?_
      exact ctR_ret (v := (-2)) hx hb hr rfl dX6_number_35 hlocks (by rw [numZ, if_neg (bool_nf c8), if_pos c19])
    · refine lv_aload_n hx hb dX6_number_22 rfl (lv_at hl 0 rfl) ?_
      refine va_get (D := D) (ci := 6) (v := .ref (ad 0)) (C := RX6) (T := TX6) (N := 7) hx hb hts hiX6 hown hK hP 8 rfl rfl 0 (by decide) hf10 (fun _ h9 => h9) rfl dX6_number_23 ?_
      refine lv_iload_n hx hb dX6_number_26 rfl (lv_at hl 3 rfl) ?_
      refine ctR_V (As := [.int xc]) (rest := []) (r := .int (nI (inB xc q).toNat)) ⟨hx, hb, hml, hown, hts⟩ (c_X1_has l D cI cZ ad q sm pr op iv hF xc) (cwV 1 hts gX6_number_X1_has rfl rfl rfl hdV_X1_has ⟨Nat.le_of_ble_eq_true rfl, Nat.le_of_ble_eq_true rfl⟩) hK hN hP [0, 1, 2, 3, 4] rfl 0 1 rfl rfl rfl hl.1 rfl (Nat.le_of_ble_eq_true rfl) ⟨Nat.zero_le _, Nat.zero_le _⟩ dX6_number_27 ?_
      refine nv_ifb_ne (tgt := 36) hx hb dX6_number_30 (by decide) (fun c30 => ?_) (fun c30 => ?_)
      · have h1 := c8
        have h2 := c19
        have h3 := c30
        obtain ⟨ja, hja, rfl⟩ := inB_of (by omega) c8
        obtain ⟨jb, hjb, rfl⟩ := inB_of (by omega) c19
        obtain ⟨jc, hjc, rfl⟩ := inB_of (by omega) c30
        refine lv_aload_n hx hb dX6_number_36 rfl (lv_at hl 0 rfl) ?_
        refine va_get (D := D) (ci := 6) (v := .ref (ad 5)) (C := RX6) (T := TX6) (N := 7) hx hb hts hiX6 hown hK hP 8 rfl rfl 1 (by decide) hf21 (fun _ h9 => h9) rfl dX6_number_37 ?_
        refine lv_iload_n hx hb dX6_number_40 rfl (lv_at hl 1 rfl) ?_
        refine lv_iload_n hx hb dX6_number_41 rfl (lv_at hl 2 rfl) ?_
        refine lv_iload_n hx hb dX6_number_42 rfl (lv_at hl 3 rfl) ?_
        refine ctR_V (As := [.int (nI ja), .int (nI jb), .int (nI jc)]) (rest := []) (r := .int (nmZ q ja jb jc)) ⟨hx, hb, hml, hown, hts⟩ (c_X3_numberOf l D cI cZ ad q sm pr op iv hF tr ro hT ja jb jc (by omega) (by omega) (by omega)) (cwV 3 hts gX6_number_X3_numberOf rfl rfl rfl hdV_X3_numberOf ⟨Nat.le_of_ble_eq_true rfl, Nat.le_of_ble_eq_true rfl⟩) hK hN hP [0, 1, 2, 3, 4, 5, 6, 7] rfl 5 3 rfl rfl rfl hl.1 rfl (Nat.le_of_ble_eq_true rfl) ⟨Nat.zero_le _, Nat.zero_le _⟩ dX6_number_43 ?_
        exact ctR_ret (v := (nmZ q ja jb jc)) hx hb hr rfl dX6_number_46 hlocks (by rw [numZ, if_neg (bool_nf h1), if_neg (bool_nf h2), if_neg (bool_nf h3), nv_nI (by omega), nv_nI (by omega), nv_nI (by omega)])
      · refine lv_bipush (v := (-2)) hx hb dX6_number_33 (by decide) ?_
        exact ctR_ret (v := (-2)) hx hb hr rfl dX6_number_35 hlocks (by rw [numZ, if_neg (bool_nf c8), if_neg (bool_nf c19), if_pos c30])

set_option maxHeartbeats 4000000 in
set_option maxRecDepth 100000 in
theorem c_X6_on (l : Launch) (D : va_G) (cI cZ : ClassId) (ad : Nat → Nat) (q : Nat) (sm : Nat → Nat) (pr : Nat → Nat) (op : Nat → Nat) (iv : Nat → Nat) (hF : FOK q sm pr op iv) (tr : Nat → Nat) (ro : Nat → Nat) (hT : TOK q tr) (xa : Int32) (xb : Int32) : CtR l yX6_on wsX6_on { frames := 3, cells := 0, slots := 0, locals := 68 } D (tyG cI cZ) [.ref (ad 26), .int xa, .int xb] [(ad 0, .inr (1, [.int (nI q), .ref (ad 1), .ref (ad 2), .ref (ad 3), .ref (ad 4)])), (ad 1, .inl (cI, 81, .inl (nF sm))), (ad 2, .inl (cI, 81, .inl (nF pr))), (ad 3, .inl (cI, 9, .inl (nF op))), (ad 4, .inl (cI, 9, .inl (nF iv))), (ad 5, .inr (3, [.ref (ad 0), .int (nI (nn q)), .ref (ad 6), .ref (ad 7)])), (ad 6, .inl (cI, 273, .inl (nF tr))), (ad 7, .inl (cI, 910, .inl (nF ro))), (ad 26, .inr (6, [.ref (ad 0), .ref (ad 5), .ref (ad 8), .ref (ad 12), .ref (ad 16), .ref (ad 20), .ref (ad 24)]))] (.int (onZ q xa xb)) := by
  refine Met.ofW (cc := cX6_on) (maxL := 3) (ret := some .int) (by decide) rfl ?_
  intro p e s m args below meth c s₁ B hml hv
  obtain ⟨rfl, hP, hK, hN⟩ := hv
  have hx := B.exec
  have hb := B.bytes
  have hr := B.returns
  have hts := atoms_spec (ws := wsX6_on) B.pre
  have hown : s.vm.findClass RX6 = some m.cls := findClass_of_methodNamed B.named
  have hlocks := B.notSynchronized
  have hf21 := hts (.fieldLink RX6 21 "FinitePlanes" "plane" "LFinitePlanes$Plane;") (by decide +kernel)
  have hiX6 : ∀ w ∈ u_ws RX6 TX6 7, w ∈ wsX6_on := by decide +kernel
  have hl := lv_entry ([.ref (ad 26), .int xa, .int xb]) (n := 3) (Nat.le_of_ble_eq_true rfl)
  rw [lg_entry_eq]
  generalize (lg_sl ([.ref (ad 26), .int xa, .int xb]) ++ List.replicate (3 - (lg_sl ([.ref (ad 26), .int xa, .int xb])).length) Slot.unset).toArray = ls at hl ⊢
  have hl : lv_has ls 3 [(0, .ref (ad 26)), (1, .int xa), (2, .int xb)] := hl
  have hq2 := qs_le hF.1
  have hn2 := nn_le hF.1
  refine lv_aload_n hx hb dX6_on_0 rfl (lv_at hl 0 rfl) ?_
  refine va_get (D := D) (ci := 6) (v := .ref (ad 5)) (C := RX6) (T := TX6) (N := 7) hx hb hts hiX6 hown hK hP 8 rfl rfl 1 (by decide) hf21 (fun _ h9 => h9) rfl dX6_on_1 ?_
  refine lv_iload_n hx hb dX6_on_4 rfl (lv_at hl 1 rfl) ?_
  refine ctR_V (As := [.int xa]) (rest := []) (r := .int (nI (inB xa (nn q)).toNat)) ⟨hx, hb, hml, hown, hts⟩ (c_X3_has l D cI cZ ad q sm pr op iv hF tr ro hT xa) (cwV 1 hts gX6_on_X3_has rfl rfl rfl hdV_X3_has ⟨Nat.le_of_ble_eq_true rfl, Nat.le_of_ble_eq_true rfl⟩) hK hN hP [0, 1, 2, 3, 4, 5, 6, 7] rfl 5 3 rfl rfl rfl hl.1 rfl (Nat.le_of_ble_eq_true rfl) ⟨Nat.zero_le _, Nat.zero_le _⟩ dX6_on_5 ?_
  refine nv_ifb_eq (tgt := 22) hx hb dX6_on_8 (by decide) (fun c8 => ?_) (fun c8 => ?_)
  · refine lv_bipush (v := (-2)) hx hb dX6_on_22 (by decide) ?_
    exact ctR_ret (v := (-2)) hx hb hr rfl dX6_on_24 hlocks (by rw [onZ, if_pos c8])
  · refine lv_aload_n hx hb dX6_on_11 rfl (lv_at hl 0 rfl) ?_
    refine va_get (D := D) (ci := 6) (v := .ref (ad 5)) (C := RX6) (T := TX6) (N := 7) hx hb hts hiX6 hown hK hP 8 rfl rfl 1 (by decide) hf21 (fun _ h9 => h9) rfl dX6_on_12 ?_
    refine lv_iload_n hx hb dX6_on_15 rfl (lv_at hl 2 rfl) ?_
    refine ctR_V (As := [.int xb]) (rest := []) (r := .int (nI (inB xb (nn q)).toNat)) ⟨hx, hb, hml, hown, hts⟩ (c_X3_has l D cI cZ ad q sm pr op iv hF tr ro hT xb) (cwV 1 hts gX6_on_X3_has rfl rfl rfl hdV_X3_has ⟨Nat.le_of_ble_eq_true rfl, Nat.le_of_ble_eq_true rfl⟩) hK hN hP [0, 1, 2, 3, 4, 5, 6, 7] rfl 5 3 rfl rfl rfl hl.1 rfl (Nat.le_of_ble_eq_true rfl) ⟨Nat.zero_le _, Nat.zero_le _⟩ dX6_on_16 ?_
    refine nv_ifb_ne (tgt := 25) hx hb dX6_on_19 (by decide) (fun c19 => ?_) (fun c19 => ?_)
    · have h1 := c8
      have h2 := c19
      obtain ⟨ja, hja, rfl⟩ := inB_of (by omega) c8
      obtain ⟨jb, hjb, rfl⟩ := inB_of (by omega) c19
      refine lv_aload_n hx hb dX6_on_25 rfl (lv_at hl 0 rfl) ?_
      refine va_get (D := D) (ci := 6) (v := .ref (ad 5)) (C := RX6) (T := TX6) (N := 7) hx hb hts hiX6 hown hK hP 8 rfl rfl 1 (by decide) hf21 (fun _ h9 => h9) rfl dX6_on_26 ?_
      refine lv_iload_n hx hb dX6_on_29 rfl (lv_at hl 1 rfl) ?_
      refine lv_iload_n hx hb dX6_on_30 rfl (lv_at hl 2 rfl) ?_
      refine ctR_V (As := [.int (nI ja), .int (nI jb)]) (rest := []) (r := .int (nI (onq q ja jb).toNat)) ⟨hx, hb, hml, hown, hts⟩ (c_X3_isOn l D cI cZ ad q sm pr op iv hF tr ro hT ja jb (by omega) (by omega)) (cwV 2 hts gX6_on_X3_isOn rfl rfl rfl hdV_X3_isOn ⟨Nat.le_of_ble_eq_true rfl, Nat.le_of_ble_eq_true rfl⟩) hK hN hP [0, 1, 2, 3, 4, 5, 6, 7] rfl 5 3 rfl rfl rfl hl.1 rfl (Nat.le_of_ble_eq_true rfl) ⟨Nat.zero_le _, Nat.zero_le _⟩ dX6_on_31 ?_
      refine ctR_S (As := [.int (nI (onq q ja jb).toNat)]) (rest := []) (r := .int (nI (((onq q ja jb)).toNat))) ⟨hx, hb, hml, hown, hts⟩ (c_X6_bit l D cI cZ (onq q ja jb)) (va_cwS 1 hts gX6_on_X6_bit rfl rfl rfl hdS_X6_bit ⟨Nat.le_of_ble_eq_true rfl, Nat.le_of_ble_eq_true rfl⟩) hK hN hP [] rfl rfl hl.1 rfl (Nat.le_of_ble_eq_true rfl) ⟨Nat.zero_le _, Nat.zero_le _⟩ dX6_on_34 ?_
      exact ctR_ret (v := (nI (((onq q ja jb)).toNat))) hx hb hr rfl dX6_on_37 hlocks (by rw [onZ, if_neg (bool_nf h1), if_neg (bool_nf h2), nv_nI (by omega), nv_nI (by omega)])
    · refine lv_bipush (v := (-2)) hx hb dX6_on_22 (by decide) ?_
      exact ctR_ret (v := (-2)) hx hb hr rfl dX6_on_24 hlocks (by rw [onZ, if_neg (bool_nf c8), if_pos c19])

set_option maxHeartbeats 4000000 in
set_option maxRecDepth 100000 in
theorem c_X6_join (l : Launch) (D : va_G) (cI cZ : ClassId) (ad : Nat → Nat) (q : Nat) (sm : Nat → Nat) (pr : Nat → Nat) (op : Nat → Nat) (iv : Nat → Nat) (hF : FOK q sm pr op iv) (tr : Nat → Nat) (ro : Nat → Nat) (hT : TOK q tr) (xa : Int32) (xb : Int32) : CtR l yX6_join wsX6_join { frames := 3, cells := 0, slots := 0, locals := 71 } D (tyG cI cZ) [.ref (ad 26), .int xa, .int xb] [(ad 0, .inr (1, [.int (nI q), .ref (ad 1), .ref (ad 2), .ref (ad 3), .ref (ad 4)])), (ad 1, .inl (cI, 81, .inl (nF sm))), (ad 2, .inl (cI, 81, .inl (nF pr))), (ad 3, .inl (cI, 9, .inl (nF op))), (ad 4, .inl (cI, 9, .inl (nF iv))), (ad 5, .inr (3, [.ref (ad 0), .int (nI (nn q)), .ref (ad 6), .ref (ad 7)])), (ad 6, .inl (cI, 273, .inl (nF tr))), (ad 7, .inl (cI, 910, .inl (nF ro))), (ad 26, .inr (6, [.ref (ad 0), .ref (ad 5), .ref (ad 8), .ref (ad 12), .ref (ad 16), .ref (ad 20), .ref (ad 24)]))] (.int (joiZ q xa xb)) := by
  refine Met.ofW (cc := cX6_join) (maxL := 3) (ret := some .int) (by decide) rfl ?_
  intro p e s m args below meth c s₁ B hml hv
  obtain ⟨rfl, hP, hK, hN⟩ := hv
  have hx := B.exec
  have hb := B.bytes
  have hr := B.returns
  have hts := atoms_spec (ws := wsX6_join) B.pre
  have hown : s.vm.findClass RX6 = some m.cls := findClass_of_methodNamed B.named
  have hlocks := B.notSynchronized
  have hf21 := hts (.fieldLink RX6 21 "FinitePlanes" "plane" "LFinitePlanes$Plane;") (by decide +kernel)
  have hiX6 : ∀ w ∈ u_ws RX6 TX6 7, w ∈ wsX6_join := by decide +kernel
  have hl := lv_entry ([.ref (ad 26), .int xa, .int xb]) (n := 3) (Nat.le_of_ble_eq_true rfl)
  rw [lg_entry_eq]
  generalize (lg_sl ([.ref (ad 26), .int xa, .int xb]) ++ List.replicate (3 - (lg_sl ([.ref (ad 26), .int xa, .int xb])).length) Slot.unset).toArray = ls at hl ⊢
  have hl : lv_has ls 3 [(0, .ref (ad 26)), (1, .int xa), (2, .int xb)] := hl
  have hq2 := qs_le hF.1
  have hn2 := nn_le hF.1
  refine lv_aload_n hx hb dX6_join_0 rfl (lv_at hl 0 rfl) ?_
  refine va_get (D := D) (ci := 6) (v := .ref (ad 5)) (C := RX6) (T := TX6) (N := 7) hx hb hts hiX6 hown hK hP 8 rfl rfl 1 (by decide) hf21 (fun _ h9 => h9) rfl dX6_join_1 ?_
  refine lv_iload_n hx hb dX6_join_4 rfl (lv_at hl 1 rfl) ?_
  refine ctR_V (As := [.int xa]) (rest := []) (r := .int (nI (inB xa (nn q)).toNat)) ⟨hx, hb, hml, hown, hts⟩ (c_X3_has l D cI cZ ad q sm pr op iv hF tr ro hT xa) (cwV 1 hts gX6_join_X3_has rfl rfl rfl hdV_X3_has ⟨Nat.le_of_ble_eq_true rfl, Nat.le_of_ble_eq_true rfl⟩) hK hN hP [0, 1, 2, 3, 4, 5, 6, 7] rfl 5 3 rfl rfl rfl hl.1 rfl (Nat.le_of_ble_eq_true rfl) ⟨Nat.zero_le _, Nat.zero_le _⟩ dX6_join_5 ?_
  refine nv_ifb_eq (tgt := 27) hx hb dX6_join_8 (by decide) (fun c8 => ?_) (fun c8 => ?_)
  · refine lv_bipush (v := (-2)) hx hb dX6_join_27 (by decide) ?_
    exact ctR_ret (v := (-2)) hx hb hr rfl dX6_join_29 hlocks (by rw [joiZ, if_pos c8])
  · refine lv_aload_n hx hb dX6_join_11 rfl (lv_at hl 0 rfl) ?_
    refine va_get (D := D) (ci := 6) (v := .ref (ad 5)) (C := RX6) (T := TX6) (N := 7) hx hb hts hiX6 hown hK hP 8 rfl rfl 1 (by decide) hf21 (fun _ h9 => h9) rfl dX6_join_12 ?_
    refine lv_iload_n hx hb dX6_join_15 rfl (lv_at hl 2 rfl) ?_
    refine ctR_V (As := [.int xb]) (rest := []) (r := .int (nI (inB xb (nn q)).toNat)) ⟨hx, hb, hml, hown, hts⟩ (c_X3_has l D cI cZ ad q sm pr op iv hF tr ro hT xb) (cwV 1 hts gX6_join_X3_has rfl rfl rfl hdV_X3_has ⟨Nat.le_of_ble_eq_true rfl, Nat.le_of_ble_eq_true rfl⟩) hK hN hP [0, 1, 2, 3, 4, 5, 6, 7] rfl 5 3 rfl rfl rfl hl.1 rfl (Nat.le_of_ble_eq_true rfl) ⟨Nat.zero_le _, Nat.zero_le _⟩ dX6_join_16 ?_
    refine nv_ifb_eq (tgt := 27) hx hb dX6_join_19 (by decide) (fun c19 => ?_) (fun c19 => ?_)
    · refine lv_bipush (v := (-2)) hx hb dX6_join_27 (by decide) ?_
      exact ctR_ret (v := (-2)) hx hb hr rfl dX6_join_29 hlocks (by rw [joiZ, if_neg (bool_nf c8), if_pos c19])
    · refine lv_iload_n hx hb dX6_join_22 rfl (lv_at hl 1 rfl) ?_
      refine lv_iload_n hx hb dX6_join_23 rfl (lv_at hl 2 rfl) ?_
      refine lv_icmp_ne (tgt := 30) hx hb dX6_join_24 (by decide) (fun c24 => ?_) (fun c24 => ?_)
      · have h1 := c8
        have h2 := c19
        obtain ⟨ja, hja, rfl⟩ := inB_of (by omega) c8
        obtain ⟨jb, hjb, rfl⟩ := inB_of (by omega) c19
        have hne : ¬ ja = jb := fun z => c24 (by rw [z])
        have hcr := jnum q hF.1 ja hja jb hjb hne
        refine lv_aload_n hx hb dX6_join_30 rfl (lv_at hl 0 rfl) ?_
        refine va_get (D := D) (ci := 6) (v := .ref (ad 5)) (C := RX6) (T := TX6) (N := 7) hx hb hts hiX6 hown hK hP 8 rfl rfl 1 (by decide) hf21 (fun _ h9 => h9) rfl dX6_join_31 ?_
        refine lv_aload_n hx hb dX6_join_34 rfl (lv_at hl 0 rfl) ?_
        refine va_get (D := D) (ci := 6) (v := .ref (ad 5)) (C := RX6) (T := TX6) (N := 7) hx hb hts hiX6 hown hK hP 8 rfl rfl 1 (by decide) hf21 (fun _ h9 => h9) rfl dX6_join_35 ?_
        refine lv_iload_n hx hb dX6_join_38 rfl (lv_at hl 1 rfl) ?_
        refine lv_iload_n hx hb dX6_join_39 rfl (lv_at hl 2 rfl) ?_
        refine lv_iconst (v := nI 0) hx hb dX6_join_40 (by decide) ?_
        refine ctR_V (As := [.int (nI ja), .int (nI jb), .int (nI 0)]) (rest := [.ref (ad 5)]) (r := .int (nI (vcr q (pt q ja) (pt q jb) 0))) ⟨hx, hb, hml, hown, hts⟩ (c_X3_cross l D cI cZ ad q sm pr op iv hF tr ro hT ja jb 0 (by omega) (by omega) (by omega)) (cwV 3 hts gX6_join_X3_cross rfl rfl rfl hdV_X3_cross ⟨Nat.le_of_ble_eq_true rfl, Nat.le_of_ble_eq_true rfl⟩) hK hN hP [0, 1, 2, 3, 4, 5, 6, 7] rfl 5 3 rfl rfl rfl hl.1 rfl (Nat.le_of_ble_eq_true rfl) ⟨Nat.zero_le _, Nat.zero_le _⟩ dX6_join_41 ?_
        have hh_1 : vcr q (pt q ja) (pt q jb) 0 < q := vcr_lt hF.1 (ptv hF.1 (by omega)) (ptv hF.1 (by omega))
        refine lv_aload_n hx hb dX6_join_44 rfl (lv_at hl 0 rfl) ?_
        refine va_get (D := D) (ci := 6) (v := .ref (ad 5)) (C := RX6) (T := TX6) (N := 7) hx hb hts hiX6 hown hK hP 8 rfl rfl 1 (by decide) hf21 (fun _ h9 => h9) rfl dX6_join_45 ?_
        refine lv_iload_n hx hb dX6_join_48 rfl (lv_at hl 1 rfl) ?_
        refine lv_iload_n hx hb dX6_join_49 rfl (lv_at hl 2 rfl) ?_
        refine lv_iconst (v := nI 1) hx hb dX6_join_50 (by decide) ?_
        refine ctR_V (As := [.int (nI ja), .int (nI jb), .int (nI 1)]) (rest := [.int (nI (vcr q (pt q ja) (pt q jb) 0)), .ref (ad 5)]) (r := .int (nI (vcr q (pt q ja) (pt q jb) 1))) ⟨hx, hb, hml, hown, hts⟩ (c_X3_cross l D cI cZ ad q sm pr op iv hF tr ro hT ja jb 1 (by omega) (by omega) (by omega)) (cwV 3 hts gX6_join_X3_cross rfl rfl rfl hdV_X3_cross ⟨Nat.le_of_ble_eq_true rfl, Nat.le_of_ble_eq_true rfl⟩) hK hN hP [0, 1, 2, 3, 4, 5, 6, 7] rfl 5 3 rfl rfl rfl hl.1 rfl (Nat.le_of_ble_eq_true rfl) ⟨Nat.zero_le _, Nat.zero_le _⟩ dX6_join_51 ?_
        have hh_2 : vcr q (pt q ja) (pt q jb) 1 < q := vcr_lt hF.1 (ptv hF.1 (by omega)) (ptv hF.1 (by omega))
        refine lv_aload_n hx hb dX6_join_54 rfl (lv_at hl 0 rfl) ?_
        refine va_get (D := D) (ci := 6) (v := .ref (ad 5)) (C := RX6) (T := TX6) (N := 7) hx hb hts hiX6 hown hK hP 8 rfl rfl 1 (by decide) hf21 (fun _ h9 => h9) rfl dX6_join_55 ?_
        refine lv_iload_n hx hb dX6_join_58 rfl (lv_at hl 1 rfl) ?_
        refine lv_iload_n hx hb dX6_join_59 rfl (lv_at hl 2 rfl) ?_
        refine lv_iconst (v := nI 2) hx hb dX6_join_60 (by decide) ?_
        refine ctR_V (As := [.int (nI ja), .int (nI jb), .int (nI 2)]) (rest := [.int (nI (vcr q (pt q ja) (pt q jb) 1)), .int (nI (vcr q (pt q ja) (pt q jb) 0)), .ref (ad 5)]) (r := .int (nI (vcr q (pt q ja) (pt q jb) 2))) ⟨hx, hb, hml, hown, hts⟩ (c_X3_cross l D cI cZ ad q sm pr op iv hF tr ro hT ja jb 2 (by omega) (by omega) (by omega)) (cwV 3 hts gX6_join_X3_cross rfl rfl rfl hdV_X3_cross ⟨Nat.le_of_ble_eq_true rfl, Nat.le_of_ble_eq_true rfl⟩) hK hN hP [0, 1, 2, 3, 4, 5, 6, 7] rfl 5 3 rfl rfl rfl hl.1 rfl (Nat.le_of_ble_eq_true rfl) ⟨Nat.zero_le _, Nat.zero_le _⟩ dX6_join_61 ?_
        have hh_3 : vcr q (pt q ja) (pt q jb) 2 < q := vcr_lt hF.1 (ptv hF.1 (by omega)) (ptv hF.1 (by omega))
        refine ctR_V (As := [.int (nI (vcr q (pt q ja) (pt q jb) 0)), .int (nI (vcr q (pt q ja) (pt q jb) 1)), .int (nI (vcr q (pt q ja) (pt q jb) 2))]) (rest := []) (r := .int (nmZ q (vcr q (pt q ja) (pt q jb) 0) (vcr q (pt q ja) (pt q jb) 1) (vcr q (pt q ja) (pt q jb) 2))) ⟨hx, hb, hml, hown, hts⟩ (c_X3_numberOf l D cI cZ ad q sm pr op iv hF tr ro hT (vcr q (pt q ja) (pt q jb) 0) (vcr q (pt q ja) (pt q jb) 1) (vcr q (pt q ja) (pt q jb) 2) (by omega) (by omega) (by omega)) (cwV 3 hts gX6_join_X3_numberOf rfl rfl rfl hdV_X3_numberOf ⟨Nat.le_of_ble_eq_true rfl, Nat.le_of_ble_eq_true rfl⟩) hK hN hP [0, 1, 2, 3, 4, 5, 6, 7] rfl 5 3 rfl rfl rfl hl.1 rfl (Nat.le_of_ble_eq_true rfl) ⟨Nat.zero_le _, Nat.zero_le _⟩ dX6_join_64 ?_
        exact ctR_ret (v := (nmZ q (vcr q (pt q ja) (pt q jb) 0) (vcr q (pt q ja) (pt q jb) 1) (vcr q (pt q ja) (pt q jb) 2))) hx hb hr rfl dX6_join_67 hlocks (by rw [joiZ, if_neg (bool_nf h1), if_neg (bool_nf h2), if_neg c24, nv_nI (by omega), nv_nI (by omega), nmZ, if_pos (by omega)]; rfl)
      · refine lv_bipush (v := (-2)) hx hb dX6_join_27 (by decide) ?_
        exact ctR_ret (v := (-2)) hx hb hr rfl dX6_join_29 hlocks (by rw [joiZ, if_neg (bool_nf c8), if_neg (bool_nf c19), if_pos c24])

set_option maxHeartbeats 4000000 in
set_option maxRecDepth 100000 in
theorem c_X6_row (l : Launch) (D : va_G) (cI cZ : ClassId) (ad : Nat → Nat) (q : Nat) (sm : Nat → Nat) (pr : Nat → Nat) (op : Nat → Nat) (iv : Nat → Nat) (hF : FOK q sm pr op iv) (tr : Nat → Nat) (ro : Nat → Nat) (hT : TOK q tr) (hR : ROK q ro) (x : Int32) (k : Int32) : CtR l yX6_row wsX6_row { frames := 1, cells := 0, slots := 0, locals := 22 } D (tyG cI cZ) [.ref (ad 26), .int x, .int k] [(ad 0, .inr (1, [.int (nI q), .ref (ad 1), .ref (ad 2), .ref (ad 3), .ref (ad 4)])), (ad 1, .inl (cI, 81, .inl (nF sm))), (ad 2, .inl (cI, 81, .inl (nF pr))), (ad 3, .inl (cI, 9, .inl (nF op))), (ad 4, .inl (cI, 9, .inl (nF iv))), (ad 5, .inr (3, [.ref (ad 0), .int (nI (nn q)), .ref (ad 6), .ref (ad 7)])), (ad 6, .inl (cI, 273, .inl (nF tr))), (ad 7, .inl (cI, 910, .inl (nF ro))), (ad 26, .inr (6, [.ref (ad 0), .ref (ad 5), .ref (ad 8), .ref (ad 12), .ref (ad 16), .ref (ad 20), .ref (ad 24)]))] (.int (rowZ q x k)) := by
  refine Met.ofW (cc := cX6_row) (maxL := 3) (ret := some .int) (by decide) rfl ?_
  intro p e s m args below meth c s₁ B hml hv
  obtain ⟨rfl, hP, hK, hN⟩ := hv
  have hx := B.exec
  have hb := B.bytes
  have hr := B.returns
  have hts := atoms_spec (ws := wsX6_row) B.pre
  have hown : s.vm.findClass RX6 = some m.cls := findClass_of_methodNamed B.named
  have hlocks := B.notSynchronized
  have hf10 := hts (.fieldLink RX6 10 "FinitePlanes" "field" "LFinitePlanes$Field;") (by decide +kernel)
  have hf21 := hts (.fieldLink RX6 21 "FinitePlanes" "plane" "LFinitePlanes$Plane;") (by decide +kernel)
  have hf62 := hN.use (w := .fieldLinkNest RX6 62 "FinitePlanes$Field" "q" "I" "FinitePlanes") (by decide +kernel) (A := [.ref (ad 26), .int x, .int k].toArray)
  have hiX1 : ∀ w ∈ u_ws RX1 TX1 5, w ∈ wsX6_row := by decide +kernel
  have hiX6 : ∀ w ∈ u_ws RX6 TX6 7, w ∈ wsX6_row := by decide +kernel
  have hl := lv_entry ([.ref (ad 26), .int x, .int k]) (n := 3) (Nat.le_of_ble_eq_true rfl)
  rw [lg_entry_eq]
  generalize (lg_sl ([.ref (ad 26), .int x, .int k]) ++ List.replicate (3 - (lg_sl ([.ref (ad 26), .int x, .int k])).length) Slot.unset).toArray = ls at hl ⊢
  have hl : lv_has ls 3 [(0, .ref (ad 26)), (1, .int x), (2, .int k)] := hl
  have hq2 := qs_le hF.1
  have hn2 := nn_le hF.1
  refine lv_aload_n hx hb dX6_row_0 rfl (lv_at hl 0 rfl) ?_
  refine va_get (D := D) (ci := 6) (v := .ref (ad 5)) (C := RX6) (T := TX6) (N := 7) hx hb hts hiX6 hown hK hP 8 rfl rfl 1 (by decide) hf21 (fun _ h9 => h9) rfl dX6_row_1 ?_
  refine lv_iload_n hx hb dX6_row_4 rfl (lv_at hl 1 rfl) ?_
  refine ctR_V (As := [.int x]) (rest := []) (r := .int (nI (inB x (nn q)).toNat)) ⟨hx, hb, hml, hown, hts⟩ (c_X3_has l D cI cZ ad q sm pr op iv hF tr ro hT x) (cwV 1 hts gX6_row_X3_has rfl rfl rfl hdV_X3_has ⟨Nat.le_of_ble_eq_true rfl, Nat.le_of_ble_eq_true rfl⟩) hK hN hP [0, 1, 2, 3, 4, 5, 6, 7] rfl 5 3 rfl rfl rfl hl.1 rfl (Nat.le_of_ble_eq_true rfl) ⟨Nat.zero_le _, Nat.zero_le _⟩ dX6_row_5 ?_
  refine nv_ifb_ne (tgt := 14) hx hb dX6_row_8 (by decide) (fun c8 => ?_) (fun c8 => ?_)
  · have h1 := c8
    obtain ⟨i, hi, rfl⟩ := inB_of (by omega) c8
    refine lv_iload_n hx hb dX6_row_14 rfl (lv_at hl 2 rfl) ?_
    refine lv_if_lt (tgt := 29) hx hb dX6_row_15 (by decide) (fun c15 => ?_) (fun c15 => ?_)
    · refine lv_iconst (v := (-1)) hx hb dX6_row_29 (by decide) ?_
      refine lv_goto (tgt := 42) hx hb dX6_row_30 (by decide) ?_
      exact ctR_ret (v := (-1)) hx hb hr rfl dX6_row_42 hlocks (by rw [rowZ, if_neg (bool_nf h1), if_pos (inR_l0 c15)])
    · refine lv_iload_n hx hb dX6_row_18 rfl (lv_at hl 2 rfl) ?_
      refine lv_aload_n hx hb dX6_row_19 rfl (lv_at hl 0 rfl) ?_
      refine va_get (D := D) (ci := 6) (v := .ref (ad 0)) (C := RX6) (T := TX6) (N := 7) hx hb hts hiX6 hown hK hP 8 rfl rfl 0 (by decide) hf10 (fun _ h9 => h9) rfl dX6_row_20 ?_
      refine va_getN (D := D) (ci := 1) (v := .int (nI q)) (C := RX1) (T := TX1) (N := 5) hx hb hts hiX1 hown hK hP 0 rfl rfl 0 (by decide) hf62 (fun _ h9 => h9) rfl dX6_row_23 ?_
      refine lv_icmp_le (tgt := 33) hx hb dX6_row_26 (by decide) (fun c26 => ?_) (fun c26 => ?_)
      · have hk9 := inR_ok2 (hi := q) (by omega) c15 c26
        obtain ⟨j, hj1, hj, rfl⟩ := inR_of (by omega) hk9
        refine lv_aload_n hx hb dX6_row_33 rfl (lv_at hl 0 rfl) ?_
        refine va_get (D := D) (ci := 6) (v := .ref (ad 5)) (C := RX6) (T := TX6) (N := 7) hx hb hts hiX6 hown hK hP 8 rfl rfl 1 (by decide) hf21 (fun _ h9 => h9) rfl dX6_row_34 ?_
        refine lv_iload_n hx hb dX6_row_37 rfl (lv_at hl 1 rfl) ?_
        refine lv_iload_n hx hb dX6_row_38 rfl (lv_at hl 2 rfl) ?_
        refine ctR_V (As := [.int (nI i), .int (nI j)]) (rest := []) (r := .int (nI (rowq q i j))) ⟨hx, hb, hml, hown, hts⟩ (c_X3_onRow l D cI cZ ad q sm pr op iv hF tr ro hT hR i j (by omega) (by omega)) (cwV 2 hts gX6_row_X3_onRow rfl rfl rfl hdV_X3_onRow ⟨Nat.le_of_ble_eq_true rfl, Nat.le_of_ble_eq_true rfl⟩) hK hN hP [0, 1, 2, 3, 4, 5, 6, 7] rfl 5 3 rfl rfl rfl hl.1 rfl (Nat.le_of_ble_eq_true rfl) ⟨Nat.zero_le _, Nat.zero_le _⟩ dX6_row_39 ?_
        have hh_1 : rowq q i j < nn q := rowq_lt hF.1 (by omega) (by omega)
        exact ctR_ret (v := (nI (rowq q i j))) hx hb hr rfl dX6_row_42 hlocks (by rw [rowZ, if_neg (bool_nf h1), if_neg (bool_nf hk9), nv_nI (by omega), nv_nI (by omega)])
      · refine lv_iconst (v := (-1)) hx hb dX6_row_29 (by decide) ?_
        refine lv_goto (tgt := 42) hx hb dX6_row_30 (by decide) ?_
        exact ctR_ret (v := (-1)) hx hb hr rfl dX6_row_42 hlocks (by rw [rowZ, if_neg (bool_nf h1), if_pos (inR_no2 (by omega) c26)])
  · refine lv_bipush (v := (-2)) hx hb dX6_row_11 (by decide) ?_
    exact ctR_ret (v := (-2)) hx hb hr rfl dX6_row_13 hlocks (by rw [rowZ, if_pos c8])

set_option maxHeartbeats 4000000 in
set_option maxRecDepth 100000 in
theorem c_X6_put (l : Launch) (D : va_G) (cI cZ : ClassId) (ad : Nat → Nat) (q : Nat) (sm : Nat → Nat) (pr : Nat → Nat) (op : Nat → Nat) (iv : Nat → Nat) (hF : FOK q sm pr op iv) (tr : Nat → Nat) (ro : Nat → Nat) (hT : TOK q tr) (hR : ROK q ro) (S : Nat → Bool) (gr : Nat → Bool) (ol : Nat → Nat) (x : Int32) (b : Bool) : CtW (S := (Nat → Bool)) l yX6_put wsX6_put { frames := 1, cells := 0, slots := 0, locals := 21 } D (tyG cI cZ) [.ref (ad 26), .int x, .int (nI (b).toNat)] [(ad 0, .inr (1, [.int (nI q), .ref (ad 1), .ref (ad 2), .ref (ad 3), .ref (ad 4)])), (ad 1, .inl (cI, 81, .inl (nF sm))), (ad 2, .inl (cI, 81, .inl (nF pr))), (ad 3, .inl (cI, 9, .inl (nF op))), (ad 4, .inl (cI, 9, .inl (nF iv))), (ad 5, .inr (3, [.ref (ad 0), .int (nI (nn q)), .ref (ad 6), .ref (ad 7)])), (ad 6, .inl (cI, 273, .inl (nF tr))), (ad 7, .inl (cI, 910, .inl (nF ro))), (ad 8, .inr (4, [.ref (ad 5), .ref (ad 9), .ref (ad 10), .ref (ad 11)])), (ad 9, .inl (cZ, 91, .inl (bF S))), (ad 10, .inl (cZ, 91, .inl (bF gr))), (ad 11, .inl (cI, 91, .inl (nF ol))), (ad 26, .inr (6, [.ref (ad 0), .ref (ad 5), .ref (ad 8), .ref (ad 12), .ref (ad 16), .ref (ad 20), .ref (ad 24)]))] (fun (S3 : Nat → Bool) => S3 = putS q S x b) (fun (S3 : Nat → Bool) => some (.int (putZ q S x))) (fun (S3 : Nat → Bool) => [(ad 0, .inr (1, [.int (nI q), .ref (ad 1), .ref (ad 2), .ref (ad 3), .ref (ad 4)])), (ad 1, .inl (cI, 81, .inl (nF sm))), (ad 2, .inl (cI, 81, .inl (nF pr))), (ad 3, .inl (cI, 9, .inl (nF op))), (ad 4, .inl (cI, 9, .inl (nF iv))), (ad 5, .inr (3, [.ref (ad 0), .int (nI (nn q)), .ref (ad 6), .ref (ad 7)])), (ad 6, .inl (cI, 273, .inl (nF tr))), (ad 7, .inl (cI, 910, .inl (nF ro))), (ad 8, .inr (4, [.ref (ad 5), .ref (ad 9), .ref (ad 10), .ref (ad 11)])), (ad 9, .inl (cZ, 91, .inl (bF S3))), (ad 10, .inl (cZ, 91, .inl (bF gr))), (ad 11, .inl (cI, 91, .inl (nF ol))), (ad 26, .inr (6, [.ref (ad 0), .ref (ad 5), .ref (ad 8), .ref (ad 12), .ref (ad 16), .ref (ad 20), .ref (ad 24)]))]) := by
  intro sz; refine Met.ofW (cc := cX6_put) (maxL := 4) (ret := some .int) (by decide) rfl ?_
  intro p e s m args below meth c s₁ B hml hv
  obtain ⟨rfl, hsz, hP, hK, hD0, hN⟩ := hv
  have hx := B.exec
  have hb := B.bytes
  have hr := B.returns
  have hts := atoms_spec (ws := wsX6_put) B.pre
  have hown : s.vm.findClass RX6 = some m.cls := findClass_of_methodNamed B.named
  have hlocks := B.notSynchronized
  subst hsz
  have hD := hD0.self (sz := s.heap.size)
  generalize hAe : va_A [(ad 0, .inr (1, [.int (nI q), .ref (ad 1), .ref (ad 2), .ref (ad 3), .ref (ad 4)])), (ad 1, .inl (cI, 81, .inl (nF sm))), (ad 2, .inl (cI, 81, .inl (nF pr))), (ad 3, .inl (cI, 9, .inl (nF op))), (ad 4, .inl (cI, 9, .inl (nF iv))), (ad 5, .inr (3, [.ref (ad 0), .int (nI (nn q)), .ref (ad 6), .ref (ad 7)])), (ad 6, .inl (cI, 273, .inl (nF tr))), (ad 7, .inl (cI, 910, .inl (nF ro))), (ad 8, .inr (4, [.ref (ad 5), .ref (ad 9), .ref (ad 10), .ref (ad 11)])), (ad 9, .inl (cZ, 91, .inl (bF S))), (ad 10, .inl (cZ, 91, .inl (bF gr))), (ad 11, .inl (cI, 91, .inl (nF ol))), (ad 26, .inr (6, [.ref (ad 0), .ref (ad 5), .ref (ad 8), .ref (ad 12), .ref (ad 16), .ref (ad 20), .ref (ad 24)]))] s.heap.size = A at hD ⊢
  have hA : ∀ q : Nat, s.heap.size ≤ q → A q := fun q h => by rw [← hAe]; exact Or.inr h
  have hS : va_S A s.heap s.heap [] := va_S.rf
  have hP : va_P D vwCl [(ad 0, .inr (1, [.int (nI q), .ref (ad 1), .ref (ad 2), .ref (ad 3), .ref (ad 4)])), (ad 1, .inl (cI, 81, .inl (nF sm))), (ad 2, .inl (cI, 81, .inl (nF pr))), (ad 3, .inl (cI, 9, .inl (nF op))), (ad 4, .inl (cI, 9, .inl (nF iv))), (ad 5, .inr (3, [.ref (ad 0), .int (nI (nn q)), .ref (ad 6), .ref (ad 7)])), (ad 6, .inl (cI, 273, .inl (nF tr))), (ad 7, .inl (cI, 910, .inl (nF ro))), (ad 8, .inr (4, [.ref (ad 5), .ref (ad 9), .ref (ad 10), .ref (ad 11)])), (ad 9, .inl (cZ, 91, .inl (bF S))), (ad 10, .inl (cZ, 91, .inl (bF gr))), (ad 11, .inl (cI, 91, .inl (nF ol))), (ad 26, .inr (6, [.ref (ad 0), .ref (ad 5), .ref (ad 8), .ref (ad 12), .ref (ad 16), .ref (ad 20), .ref (ad 24)]))] s.heap := hP
  have hf21 := hts (.fieldLink RX6 21 "FinitePlanes" "plane" "LFinitePlanes$Plane;") (by decide +kernel)
  have hf30 := hts (.fieldLink RX6 30 "FinitePlanes" "set" "LFinitePlanes$PointSet;") (by decide +kernel)
  have hf116 := hN.use (w := .fieldLinkNest RX6 116 "FinitePlanes$PointSet" "in" "[Z" "FinitePlanes") (by decide +kernel) (A := [.ref (ad 26), .int x, .int (nI (b).toNat)].toArray)
  have hiX4 : ∀ w ∈ u_ws RX4 TX4 4, w ∈ wsX6_put := by decide +kernel
  have hiX6 : ∀ w ∈ u_ws RX6 TX6 7, w ∈ wsX6_put := by decide +kernel
  have hl := lv_entry ([.ref (ad 26), .int x, .int (nI (b).toNat)]) (n := 4) (Nat.le_of_ble_eq_true rfl)
  rw [lg_entry_eq]
  generalize (lg_sl ([.ref (ad 26), .int x, .int (nI (b).toNat)]) ++ List.replicate (4 - (lg_sl ([.ref (ad 26), .int x, .int (nI (b).toNat)])).length) Slot.unset).toArray = ls at hl ⊢
  have hl : lv_has ls 4 [(0, .ref (ad 26)), (1, .int x), (2, .int (nI (b).toNat))] := hl
  have hq2 := qs_le hF.1
  have hn2 := nn_le hF.1
  refine lv_aload_n hx hb dX6_put_0 rfl (lv_at hl 0 rfl) ?_
  refine va_get (D := D) (ci := 6) (v := .ref (ad 5)) (C := RX6) (T := TX6) (N := 7) hx hb hts hiX6 hown hK hP 12 rfl rfl 1 (by decide) hf21 (fun _ h9 => h9) rfl dX6_put_1 ?_
  refine lv_iload_n hx hb dX6_put_4 rfl (lv_at hl 1 rfl) ?_
  refine ctR_V (As := [.int x]) (rest := []) (r := .int (nI (inB x (nn q)).toNat)) ⟨hx, hb, hml, hown, hts⟩ (c_X3_has l D cI cZ ad q sm pr op iv hF tr ro hT x) (cwV 1 hts gX6_put_X3_has rfl rfl rfl hdV_X3_has ⟨Nat.le_of_ble_eq_true rfl, Nat.le_of_ble_eq_true rfl⟩) hK hN hP [0, 1, 2, 3, 4, 5, 6, 7] rfl 5 3 rfl rfl rfl hl.1 rfl (Nat.le_of_ble_eq_true rfl) ⟨Nat.zero_le _, Nat.zero_le _⟩ dX6_put_5 ?_
  refine nv_ifb_ne (tgt := 14) hx hb dX6_put_8 (by decide) (fun c8 => ?_) (fun c8 => ?_)
  · have h1 := c8
    obtain ⟨i, hi, rfl⟩ := inB_of (by omega) c8
    refine lv_aload_n hx hb dX6_put_14 rfl (lv_at hl 0 rfl) ?_
    refine va_get (D := D) (ci := 6) (v := .ref (ad 8)) (C := RX6) (T := TX6) (N := 7) hx hb hts hiX6 hown hK hP 12 rfl rfl 2 (by decide) hf30 (fun _ h9 => h9) rfl dX6_put_15 ?_
    refine va_getN (D := D) (ci := 4) (v := .ref (ad 9)) (C := RX4) (T := TX4) (N := 4) hx hb hts hiX4 hown hK hP 8 rfl rfl 1 (by decide) hf116 (fun _ h9 => h9) rfl dX6_put_18 ?_
    refine lv_iload_n hx hb dX6_put_21 rfl (lv_at hl 1 rfl) ?_
    refine nv_zald hx hb hK hP 9 1 rfl rfl (by omega) (by decide) dX6_put_22 ?_
    refine ctR_S (As := [.int (nI (S i).toNat)]) (rest := []) (r := .int (nI (((S i)).toNat))) ⟨hx, hb, hml, hown, hts⟩ (c_X6_bit l D cI cZ (S i)) (va_cwS 1 hts gX6_put_X6_bit rfl rfl rfl hdS_X6_bit ⟨Nat.le_of_ble_eq_true rfl, Nat.le_of_ble_eq_true rfl⟩) hK hN hP [] rfl rfl hl.1 rfl (Nat.le_of_ble_eq_true rfl) ⟨Nat.zero_le _, Nat.zero_le _⟩ dX6_put_23 ?_
    refine lv_istore_n (lv' := [(3, .int (nI (((S i)).toNat))), (0, .ref (ad 26)), (1, .int (nI i)), (2, .int (nI (b).toNat))]) hx hb dX6_put_26 rfl hl (by decide) rfl (fun ls hl => ?_)
    refine lv_aload_n hx hb dX6_put_27 rfl (lv_at hl 1 rfl) ?_
    refine va_get (D := D) (ci := 6) (v := .ref (ad 8)) (C := RX6) (T := TX6) (N := 7) hx hb hts hiX6 hown hK hP 12 rfl rfl 2 (by decide) hf30 (fun _ h9 => h9) rfl dX6_put_28 ?_
    refine va_getN (D := D) (ci := 4) (v := .ref (ad 9)) (C := RX4) (T := TX4) (N := 4) hx hb hts hiX4 hown hK hP 8 rfl rfl 1 (by decide) hf116 (fun _ h9 => h9) rfl dX6_put_31 ?_
    refine lv_iload_n hx hb dX6_put_34 rfl (lv_at hl 2 rfl) ?_
    refine lv_iload_n hx hb dX6_put_35 rfl (lv_at hl 3 rfl) ?_
    refine nv_zast hx hb hK hP hD hS 9 1 rfl rfl b (by omega) (by decide) dX6_put_36 (fun H locs hP hD hS => ?_)
    have hP : va_P D vwCl [(ad 0, .inr (1, [.int (nI q), .ref (ad 1), .ref (ad 2), .ref (ad 3), .ref (ad 4)])), (ad 1, .inl (cI, 81, .inl (nF sm))), (ad 2, .inl (cI, 81, .inl (nF pr))), (ad 3, .inl (cI, 9, .inl (nF op))), (ad 4, .inl (cI, 9, .inl (nF iv))), (ad 5, .inr (3, [.ref (ad 0), .int (nI (nn q)), .ref (ad 6), .ref (ad 7)])), (ad 6, .inl (cI, 273, .inl (nF tr))), (ad 7, .inl (cI, 910, .inl (nF ro))), (ad 8, .inr (4, [.ref (ad 5), .ref (ad 9), .ref (ad 10), .ref (ad 11)])), (ad 9, .inl (cZ, 91, .inl (bF (upB S i b)))), (ad 10, .inl (cZ, 91, .inl (bF gr))), (ad 11, .inl (cI, 91, .inl (nF ol))), (ad 26, .inr (6, [.ref (ad 0), .ref (ad 5), .ref (ad 8), .ref (ad 12), .ref (ad 16), .ref (ad 20), .ref (ad 24)]))] H := hP
    have hD : va_D A [(ad 0, .inr (1, [.int (nI q), .ref (ad 1), .ref (ad 2), .ref (ad 3), .ref (ad 4)])), (ad 1, .inl (cI, 81, .inl (nF sm))), (ad 2, .inl (cI, 81, .inl (nF pr))), (ad 3, .inl (cI, 9, .inl (nF op))), (ad 4, .inl (cI, 9, .inl (nF iv))), (ad 5, .inr (3, [.ref (ad 0), .int (nI (nn q)), .ref (ad 6), .ref (ad 7)])), (ad 6, .inl (cI, 273, .inl (nF tr))), (ad 7, .inl (cI, 910, .inl (nF ro))), (ad 8, .inr (4, [.ref (ad 5), .ref (ad 9), .ref (ad 10), .ref (ad 11)])), (ad 9, .inl (cZ, 91, .inl (bF (upB S i b)))), (ad 10, .inl (cZ, 91, .inl (bF gr))), (ad 11, .inl (cI, 91, .inl (nF ol))), (ad 26, .inr (6, [.ref (ad 0), .ref (ad 5), .ref (ad 8), .ref (ad 12), .ref (ad 16), .ref (ad 20), .ref (ad 24)]))] := hD
    refine lv_iload_n hx hb dX6_put_37 rfl (lv_at hl 0 rfl) ?_
    exact ctW_retI (v := (nI (((S i)).toNat))) (upB S i b) hx hb hr rfl dX6_put_38 hlocks hS hP hD (by rw [putS, if_neg (bool_nf h1), nv_nI (by omega)]) (by rw [putZ, if_neg (bool_nf h1), nv_nI (by omega)])
  · refine lv_bipush (v := (-2)) hx hb dX6_put_11 (by decide) ?_
    exact ctW_retI (v := (-2)) S hx hb hr rfl dX6_put_13 hlocks hS hP hD (by rw [putS, if_pos c8]) (by rw [putZ, if_pos c8])

set_option maxHeartbeats 4000000 in
set_option maxRecDepth 100000 in
theorem c_X6_member (l : Launch) (D : va_G) (cI cZ : ClassId) (ad : Nat → Nat) (q : Nat) (sm : Nat → Nat) (pr : Nat → Nat) (op : Nat → Nat) (iv : Nat → Nat) (hF : FOK q sm pr op iv) (tr : Nat → Nat) (ro : Nat → Nat) (hT : TOK q tr) (hR : ROK q ro) (S : Nat → Bool) (gr : Nat → Bool) (ol : Nat → Nat) (k : Int32) : CtR l yX6_member wsX6_member { frames := 1, cells := 0, slots := 0, locals := 24 } D (tyG cI cZ) [.ref (ad 26), .int k] [(ad 0, .inr (1, [.int (nI q), .ref (ad 1), .ref (ad 2), .ref (ad 3), .ref (ad 4)])), (ad 1, .inl (cI, 81, .inl (nF sm))), (ad 2, .inl (cI, 81, .inl (nF pr))), (ad 3, .inl (cI, 9, .inl (nF op))), (ad 4, .inl (cI, 9, .inl (nF iv))), (ad 5, .inr (3, [.ref (ad 0), .int (nI (nn q)), .ref (ad 6), .ref (ad 7)])), (ad 6, .inl (cI, 273, .inl (nF tr))), (ad 7, .inl (cI, 910, .inl (nF ro))), (ad 8, .inr (4, [.ref (ad 5), .ref (ad 9), .ref (ad 10), .ref (ad 11)])), (ad 9, .inl (cZ, 91, .inl (bF S))), (ad 10, .inl (cZ, 91, .inl (bF gr))), (ad 11, .inl (cI, 91, .inl (nF ol))), (ad 26, .inr (6, [.ref (ad 0), .ref (ad 5), .ref (ad 8), .ref (ad 12), .ref (ad 16), .ref (ad 20), .ref (ad 24)]))] (.int (pickZ S (nn q) k)) := by
  refine Met.ofW (cc := cX6_member) (maxL := 2) (ret := some .int) (by decide) rfl ?_
  intro p e s m args below meth c s₁ B hml hv
  obtain ⟨rfl, hP, hK, hN⟩ := hv
  have hx := B.exec
  have hb := B.bytes
  have hr := B.returns
  have hts := atoms_spec (ws := wsX6_member) B.pre
  have hown : s.vm.findClass RX6 = some m.cls := findClass_of_methodNamed B.named
  have hlocks := B.notSynchronized
  have hf21 := hts (.fieldLink RX6 21 "FinitePlanes" "plane" "LFinitePlanes$Plane;") (by decide +kernel)
  have hf30 := hts (.fieldLink RX6 30 "FinitePlanes" "set" "LFinitePlanes$PointSet;") (by decide +kernel)
  have hf116 := hN.use (w := .fieldLinkNest RX6 116 "FinitePlanes$PointSet" "in" "[Z" "FinitePlanes") (by decide +kernel) (A := [.ref (ad 26), .int k].toArray)
  have hiX4 : ∀ w ∈ u_ws RX4 TX4 4, w ∈ wsX6_member := by decide +kernel
  have hiX6 : ∀ w ∈ u_ws RX6 TX6 7, w ∈ wsX6_member := by decide +kernel
  have hl := lv_entry ([.ref (ad 26), .int k]) (n := 2) (Nat.le_of_ble_eq_true rfl)
  rw [lg_entry_eq]
  generalize (lg_sl ([.ref (ad 26), .int k]) ++ List.replicate (2 - (lg_sl ([.ref (ad 26), .int k])).length) Slot.unset).toArray = ls at hl ⊢
  have hl : lv_has ls 2 [(0, .ref (ad 26)), (1, .int k)] := hl
  have hq2 := qs_le hF.1
  have hn2 := nn_le hF.1
  refine lv_aload_n hx hb dX6_member_0 rfl (lv_at hl 0 rfl) ?_
  refine va_get (D := D) (ci := 6) (v := .ref (ad 5)) (C := RX6) (T := TX6) (N := 7) hx hb hts hiX6 hown hK hP 12 rfl rfl 1 (by decide) hf21 (fun _ h9 => h9) rfl dX6_member_1 ?_
  refine lv_aload_n hx hb dX6_member_4 rfl (lv_at hl 0 rfl) ?_
  refine va_get (D := D) (ci := 6) (v := .ref (ad 8)) (C := RX6) (T := TX6) (N := 7) hx hb hts hiX6 hown hK hP 12 rfl rfl 2 (by decide) hf30 (fun _ h9 => h9) rfl dX6_member_5 ?_
  refine va_getN (D := D) (ci := 4) (v := .ref (ad 9)) (C := RX4) (T := TX4) (N := 4) hx hb hts hiX4 hown hK hP 8 rfl rfl 1 (by decide) hf116 (fun _ h9 => h9) rfl dX6_member_8 ?_
  refine lv_iload_n hx hb dX6_member_11 rfl (lv_at hl 1 rfl) ?_
  refine ctR_V (As := [.ref (ad 9), .int k]) (rest := []) (r := .int (pickZ S (nn q) k)) ⟨hx, hb, hml, hown, hts⟩ (c_X3_pick l D cI cZ ad q sm pr op iv hF tr ro hT (ad 9) S k) (cwV 2 hts gX6_member_X3_pick rfl rfl rfl hdV_X3_pick ⟨Nat.le_of_ble_eq_true rfl, Nat.le_of_ble_eq_true rfl⟩) hK hN hP [0, 1, 2, 3, 4, 5, 6, 7, 9] rfl 5 3 rfl rfl rfl hl.1 rfl (Nat.le_of_ble_eq_true rfl) ⟨Nat.zero_le _, Nat.zero_le _⟩ dX6_member_12 ?_
  exact ctR_ret (v := (pickZ S (nn q) k)) hx hb hr rfl dX6_member_15 hlocks rfl

set_option maxHeartbeats 4000000 in
set_option maxRecDepth 100000 in
theorem c_X6_meets (l : Launch) (D : va_G) (cI cZ : ClassId) (ad : Nat → Nat) (q : Nat) (sm : Nat → Nat) (pr : Nat → Nat) (op : Nat → Nat) (iv : Nat → Nat) (hF : FOK q sm pr op iv) (tr : Nat → Nat) (ro : Nat → Nat) (hT : TOK q tr) (hR : ROK q ro) (S : Nat → Bool) (gr : Nat → Bool) (ol : Nat → Nat) (k : Int32) : CtW (S := (Nat → Bool) × (Nat → Nat)) l yX6_meets wsX6_meets { frames := 3, cells := 0, slots := 0, locals := 70 } D (tyG cI cZ) [.ref (ad 26), .int k] [(ad 0, .inr (1, [.int (nI q), .ref (ad 1), .ref (ad 2), .ref (ad 3), .ref (ad 4)])), (ad 1, .inl (cI, 81, .inl (nF sm))), (ad 2, .inl (cI, 81, .inl (nF pr))), (ad 3, .inl (cI, 9, .inl (nF op))), (ad 4, .inl (cI, 9, .inl (nF iv))), (ad 5, .inr (3, [.ref (ad 0), .int (nI (nn q)), .ref (ad 6), .ref (ad 7)])), (ad 6, .inl (cI, 273, .inl (nF tr))), (ad 7, .inl (cI, 910, .inl (nF ro))), (ad 8, .inr (4, [.ref (ad 5), .ref (ad 9), .ref (ad 10), .ref (ad 11)])), (ad 9, .inl (cZ, 91, .inl (bF S))), (ad 10, .inl (cZ, 91, .inl (bF gr))), (ad 11, .inl (cI, 91, .inl (nF ol))), (ad 26, .inr (6, [.ref (ad 0), .ref (ad 5), .ref (ad 8), .ref (ad 12), .ref (ad 16), .ref (ad 20), .ref (ad 24)]))] (fun u => (fun (gr3 : Nat → Bool) (ol3 : Nat → Nat) => True) u.1 u.2) (fun u => (fun (gr3 : Nat → Bool) (ol3 : Nat → Nat) => some (.int (nI (linq q S k)))) u.1 u.2) (fun u => (fun (gr3 : Nat → Bool) (ol3 : Nat → Nat) => [(ad 0, .inr (1, [.int (nI q), .ref (ad 1), .ref (ad 2), .ref (ad 3), .ref (ad 4)])), (ad 1, .inl (cI, 81, .inl (nF sm))), (ad 2, .inl (cI, 81, .inl (nF pr))), (ad 3, .inl (cI, 9, .inl (nF op))), (ad 4, .inl (cI, 9, .inl (nF iv))), (ad 5, .inr (3, [.ref (ad 0), .int (nI (nn q)), .ref (ad 6), .ref (ad 7)])), (ad 6, .inl (cI, 273, .inl (nF tr))), (ad 7, .inl (cI, 910, .inl (nF ro))), (ad 8, .inr (4, [.ref (ad 5), .ref (ad 9), .ref (ad 10), .ref (ad 11)])), (ad 9, .inl (cZ, 91, .inl (bF S))), (ad 10, .inl (cZ, 91, .inl (bF gr3))), (ad 11, .inl (cI, 91, .inl (nF ol3))), (ad 26, .inr (6, [.ref (ad 0), .ref (ad 5), .ref (ad 8), .ref (ad 12), .ref (ad 16), .ref (ad 20), .ref (ad 24)]))]) u.1 u.2) := by
  intro sz; refine Met.ofW (cc := cX6_meets) (maxL := 2) (ret := some .int) (by decide) rfl ?_
  intro p e s m args below meth c s₁ B hml hv
  obtain ⟨rfl, hsz, hP, hK, hD0, hN⟩ := hv
  have hx := B.exec
  have hb := B.bytes
  have hr := B.returns
  have hts := atoms_spec (ws := wsX6_meets) B.pre
  have hown : s.vm.findClass RX6 = some m.cls := findClass_of_methodNamed B.named
  have hlocks := B.notSynchronized
  subst hsz
  have hD := hD0.self (sz := s.heap.size)
  generalize hAe : va_A [(ad 0, .inr (1, [.int (nI q), .ref (ad 1), .ref (ad 2), .ref (ad 3), .ref (ad 4)])), (ad 1, .inl (cI, 81, .inl (nF sm))), (ad 2, .inl (cI, 81, .inl (nF pr))), (ad 3, .inl (cI, 9, .inl (nF op))), (ad 4, .inl (cI, 9, .inl (nF iv))), (ad 5, .inr (3, [.ref (ad 0), .int (nI (nn q)), .ref (ad 6), .ref (ad 7)])), (ad 6, .inl (cI, 273, .inl (nF tr))), (ad 7, .inl (cI, 910, .inl (nF ro))), (ad 8, .inr (4, [.ref (ad 5), .ref (ad 9), .ref (ad 10), .ref (ad 11)])), (ad 9, .inl (cZ, 91, .inl (bF S))), (ad 10, .inl (cZ, 91, .inl (bF gr))), (ad 11, .inl (cI, 91, .inl (nF ol))), (ad 26, .inr (6, [.ref (ad 0), .ref (ad 5), .ref (ad 8), .ref (ad 12), .ref (ad 16), .ref (ad 20), .ref (ad 24)]))] s.heap.size = A at hD ⊢
  have hA : ∀ q : Nat, s.heap.size ≤ q → A q := fun q h => by rw [← hAe]; exact Or.inr h
  have hS : va_S A s.heap s.heap [] := va_S.rf
  have hP : va_P D vwCl [(ad 0, .inr (1, [.int (nI q), .ref (ad 1), .ref (ad 2), .ref (ad 3), .ref (ad 4)])), (ad 1, .inl (cI, 81, .inl (nF sm))), (ad 2, .inl (cI, 81, .inl (nF pr))), (ad 3, .inl (cI, 9, .inl (nF op))), (ad 4, .inl (cI, 9, .inl (nF iv))), (ad 5, .inr (3, [.ref (ad 0), .int (nI (nn q)), .ref (ad 6), .ref (ad 7)])), (ad 6, .inl (cI, 273, .inl (nF tr))), (ad 7, .inl (cI, 910, .inl (nF ro))), (ad 8, .inr (4, [.ref (ad 5), .ref (ad 9), .ref (ad 10), .ref (ad 11)])), (ad 9, .inl (cZ, 91, .inl (bF S))), (ad 10, .inl (cZ, 91, .inl (bF gr))), (ad 11, .inl (cI, 91, .inl (nF ol))), (ad 26, .inr (6, [.ref (ad 0), .ref (ad 5), .ref (ad 8), .ref (ad 12), .ref (ad 16), .ref (ad 20), .ref (ad 24)]))] s.heap := hP
  have hf30 := hts (.fieldLink RX6 30 "FinitePlanes" "set" "LFinitePlanes$PointSet;") (by decide +kernel)
  have hiX6 : ∀ w ∈ u_ws RX6 TX6 7, w ∈ wsX6_meets := by decide +kernel
  have hl := lv_entry ([.ref (ad 26), .int k]) (n := 2) (Nat.le_of_ble_eq_true rfl)
  rw [lg_entry_eq]
  generalize (lg_sl ([.ref (ad 26), .int k]) ++ List.replicate (2 - (lg_sl ([.ref (ad 26), .int k])).length) Slot.unset).toArray = ls at hl ⊢
  have hl : lv_has ls 2 [(0, .ref (ad 26)), (1, .int k)] := hl
  have hq2 := qs_le hF.1
  have hn2 := nn_le hF.1
  refine lv_aload_n hx hb dX6_meets_0 rfl (lv_at hl 0 rfl) ?_
  refine va_get (D := D) (ci := 6) (v := .ref (ad 8)) (C := RX6) (T := TX6) (N := 7) hx hb hts hiX6 hown hK hP 12 rfl rfl 2 (by decide) hf30 (fun _ h9 => h9) rfl dX6_meets_1 ?_
  refine lv_iload_n hx hb dX6_meets_4 rfl (lv_at hl 1 rfl) ?_
  refine ctW_V (As := [.int k]) (rest := []) (wr := [(ad 26, .inr (6, [.ref (ad 0), .ref (ad 5), .ref (ad 8), .ref (ad 12), .ref (ad 16), .ref (ad 20), .ref (ad 24)]))]) ⟨hx, hb, hml, hown, hts⟩ (c_X4_linesWith l D cI cZ ad q sm pr op iv hF tr ro hT hR S gr ol k) (cwV 1 hts gX6_meets_X4_linesWith rfl rfl rfl hdV_X4_linesWith ⟨Nat.le_of_ble_eq_true rfl, Nat.le_of_ble_eq_true rfl⟩) hK hN hP hD hS hA [0, 1, 2, 3, 4, 5, 6, 7, 8, 9, 10, 11] [12] rfl rfl rfl (by decide) (by decide) (by decide) 8 4 rfl rfl rfl hl.1 rfl (Nat.le_of_ble_eq_true rfl) ⟨Nat.zero_le _, Nat.zero_le _⟩ dX6_meets_5 (fun ol_1 H locs hu5 hP hD hS => ?_)
  try dsimp only at hu5
  have hP : va_P D vwCl [(ad 0, .inr (1, [.int (nI q), .ref (ad 1), .ref (ad 2), .ref (ad 3), .ref (ad 4)])), (ad 1, .inl (cI, 81, .inl (nF sm))), (ad 2, .inl (cI, 81, .inl (nF pr))), (ad 3, .inl (cI, 9, .inl (nF op))), (ad 4, .inl (cI, 9, .inl (nF iv))), (ad 5, .inr (3, [.ref (ad 0), .int (nI (nn q)), .ref (ad 6), .ref (ad 7)])), (ad 6, .inl (cI, 273, .inl (nF tr))), (ad 7, .inl (cI, 910, .inl (nF ro))), (ad 8, .inr (4, [.ref (ad 5), .ref (ad 9), .ref (ad 10), .ref (ad 11)])), (ad 9, .inl (cZ, 91, .inl (bF S))), (ad 10, .inl (cZ, 91, .inl (bF gr))), (ad 11, .inl (cI, 91, .inl (nF ol_1))), (ad 26, .inr (6, [.ref (ad 0), .ref (ad 5), .ref (ad 8), .ref (ad 12), .ref (ad 16), .ref (ad 20), .ref (ad 24)]))] H := hP.sub [1, 2, 3, 4, 5, 6, 7, 8, 9, 10, 11, 12, 0] rfl
  have hD : va_D A [(ad 0, .inr (1, [.int (nI q), .ref (ad 1), .ref (ad 2), .ref (ad 3), .ref (ad 4)])), (ad 1, .inl (cI, 81, .inl (nF sm))), (ad 2, .inl (cI, 81, .inl (nF pr))), (ad 3, .inl (cI, 9, .inl (nF op))), (ad 4, .inl (cI, 9, .inl (nF iv))), (ad 5, .inr (3, [.ref (ad 0), .int (nI (nn q)), .ref (ad 6), .ref (ad 7)])), (ad 6, .inl (cI, 273, .inl (nF tr))), (ad 7, .inl (cI, 910, .inl (nF ro))), (ad 8, .inr (4, [.ref (ad 5), .ref (ad 9), .ref (ad 10), .ref (ad 11)])), (ad 9, .inl (cZ, 91, .inl (bF S))), (ad 10, .inl (cZ, 91, .inl (bF gr))), (ad 11, .inl (cI, 91, .inl (nF ol_1))), (ad 26, .inr (6, [.ref (ad 0), .ref (ad 5), .ref (ad 8), .ref (ad 12), .ref (ad 16), .ref (ad 20), .ref (ad 24)]))] := hD.sub [1, 2, 3, 4, 5, 6, 7, 8, 9, 10, 11, 12, 0] (by decide) rfl
  refine W.eq (g2 := F0 m 8 ls [.int (nI (linq q S k))]) rfl ?_
  have hh_2 : linq q S k ≤ nn q := cnt_le _ _
  exact ctW_retI (v := (nI (linq q S k))) (gr, ol_1) hx hb hr rfl dX6_meets_8 hlocks hS hP hD trivial rfl

set_option maxHeartbeats 4000000 in
set_option maxRecDepth 100000 in
theorem c_X6_closure (l : Launch) (D : va_G) (cI cZ : ClassId) (ad : Nat → Nat) (q : Nat) (sm : Nat → Nat) (pr : Nat → Nat) (op : Nat → Nat) (iv : Nat → Nat) (hF : FOK q sm pr op iv) (tr : Nat → Nat) (ro : Nat → Nat) (hT : TOK q tr) (hR : ROK q ro) (S : Nat → Bool) (gr : Nat → Bool) (ol : Nat → Nat) (k : Int32) : CtW (S := (Nat → Bool) × (Nat → Nat)) l yX6_closure wsX6_closure { frames := 4, cells := 0, slots := 0, locals := 90 } D (tyG cI cZ) [.ref (ad 26), .int k] [(ad 0, .inr (1, [.int (nI q), .ref (ad 1), .ref (ad 2), .ref (ad 3), .ref (ad 4)])), (ad 1, .inl (cI, 81, .inl (nF sm))), (ad 2, .inl (cI, 81, .inl (nF pr))), (ad 3, .inl (cI, 9, .inl (nF op))), (ad 4, .inl (cI, 9, .inl (nF iv))), (ad 5, .inr (3, [.ref (ad 0), .int (nI (nn q)), .ref (ad 6), .ref (ad 7)])), (ad 6, .inl (cI, 273, .inl (nF tr))), (ad 7, .inl (cI, 910, .inl (nF ro))), (ad 8, .inr (4, [.ref (ad 5), .ref (ad 9), .ref (ad 10), .ref (ad 11)])), (ad 9, .inl (cZ, 91, .inl (bF S))), (ad 10, .inl (cZ, 91, .inl (bF gr))), (ad 11, .inl (cI, 91, .inl (nF ol))), (ad 26, .inr (6, [.ref (ad 0), .ref (ad 5), .ref (ad 8), .ref (ad 12), .ref (ad 16), .ref (ad 20), .ref (ad 24)]))] (fun u => (fun (gr3 : Nat → Bool) (ol3 : Nat → Nat) => True) u.1 u.2) (fun u => (fun (gr3 : Nat → Bool) (ol3 : Nat → Nat) => some (.int (pickZ (cloq q S) (nn q) k))) u.1 u.2) (fun u => (fun (gr3 : Nat → Bool) (ol3 : Nat → Nat) => [(ad 0, .inr (1, [.int (nI q), .ref (ad 1), .ref (ad 2), .ref (ad 3), .ref (ad 4)])), (ad 1, .inl (cI, 81, .inl (nF sm))), (ad 2, .inl (cI, 81, .inl (nF pr))), (ad 3, .inl (cI, 9, .inl (nF op))), (ad 4, .inl (cI, 9, .inl (nF iv))), (ad 5, .inr (3, [.ref (ad 0), .int (nI (nn q)), .ref (ad 6), .ref (ad 7)])), (ad 6, .inl (cI, 273, .inl (nF tr))), (ad 7, .inl (cI, 910, .inl (nF ro))), (ad 8, .inr (4, [.ref (ad 5), .ref (ad 9), .ref (ad 10), .ref (ad 11)])), (ad 9, .inl (cZ, 91, .inl (bF S))), (ad 10, .inl (cZ, 91, .inl (bF gr3))), (ad 11, .inl (cI, 91, .inl (nF ol3))), (ad 26, .inr (6, [.ref (ad 0), .ref (ad 5), .ref (ad 8), .ref (ad 12), .ref (ad 16), .ref (ad 20), .ref (ad 24)]))]) u.1 u.2) := by
  intro sz; refine Met.ofW (cc := cX6_closure) (maxL := 2) (ret := some .int) (by decide) rfl ?_
  intro p e s m args below meth c s₁ B hml hv
  obtain ⟨rfl, hsz, hP, hK, hD0, hN⟩ := hv
  have hx := B.exec
  have hb := B.bytes
  have hr := B.returns
  have hts := atoms_spec (ws := wsX6_closure) B.pre
  have hown : s.vm.findClass RX6 = some m.cls := findClass_of_methodNamed B.named
  have hlocks := B.notSynchronized
  subst hsz
  have hD := hD0.self (sz := s.heap.size)
  generalize hAe : va_A [(ad 0, .inr (1, [.int (nI q), .ref (ad 1), .ref (ad 2), .ref (ad 3), .ref (ad 4)])), (ad 1, .inl (cI, 81, .inl (nF sm))), (ad 2, .inl (cI, 81, .inl (nF pr))), (ad 3, .inl (cI, 9, .inl (nF op))), (ad 4, .inl (cI, 9, .inl (nF iv))), (ad 5, .inr (3, [.ref (ad 0), .int (nI (nn q)), .ref (ad 6), .ref (ad 7)])), (ad 6, .inl (cI, 273, .inl (nF tr))), (ad 7, .inl (cI, 910, .inl (nF ro))), (ad 8, .inr (4, [.ref (ad 5), .ref (ad 9), .ref (ad 10), .ref (ad 11)])), (ad 9, .inl (cZ, 91, .inl (bF S))), (ad 10, .inl (cZ, 91, .inl (bF gr))), (ad 11, .inl (cI, 91, .inl (nF ol))), (ad 26, .inr (6, [.ref (ad 0), .ref (ad 5), .ref (ad 8), .ref (ad 12), .ref (ad 16), .ref (ad 20), .ref (ad 24)]))] s.heap.size = A at hD ⊢
  have hA : ∀ q : Nat, s.heap.size ≤ q → A q := fun q h => by rw [← hAe]; exact Or.inr h
  have hS : va_S A s.heap s.heap [] := va_S.rf
  have hP : va_P D vwCl [(ad 0, .inr (1, [.int (nI q), .ref (ad 1), .ref (ad 2), .ref (ad 3), .ref (ad 4)])), (ad 1, .inl (cI, 81, .inl (nF sm))), (ad 2, .inl (cI, 81, .inl (nF pr))), (ad 3, .inl (cI, 9, .inl (nF op))), (ad 4, .inl (cI, 9, .inl (nF iv))), (ad 5, .inr (3, [.ref (ad 0), .int (nI (nn q)), .ref (ad 6), .ref (ad 7)])), (ad 6, .inl (cI, 273, .inl (nF tr))), (ad 7, .inl (cI, 910, .inl (nF ro))), (ad 8, .inr (4, [.ref (ad 5), .ref (ad 9), .ref (ad 10), .ref (ad 11)])), (ad 9, .inl (cZ, 91, .inl (bF S))), (ad 10, .inl (cZ, 91, .inl (bF gr))), (ad 11, .inl (cI, 91, .inl (nF ol))), (ad 26, .inr (6, [.ref (ad 0), .ref (ad 5), .ref (ad 8), .ref (ad 12), .ref (ad 16), .ref (ad 20), .ref (ad 24)]))] s.heap := hP
  have hf21 := hts (.fieldLink RX6 21 "FinitePlanes" "plane" "LFinitePlanes$Plane;") (by decide +kernel)
  have hf30 := hts (.fieldLink RX6 30 "FinitePlanes" "set" "LFinitePlanes$PointSet;") (by decide +kernel)
  have hiX6 : ∀ w ∈ u_ws RX6 TX6 7, w ∈ wsX6_closure := by decide +kernel
  have hl := lv_entry ([.ref (ad 26), .int k]) (n := 2) (Nat.le_of_ble_eq_true rfl)
  rw [lg_entry_eq]
  generalize (lg_sl ([.ref (ad 26), .int k]) ++ List.replicate (2 - (lg_sl ([.ref (ad 26), .int k])).length) Slot.unset).toArray = ls at hl ⊢
  have hl : lv_has ls 2 [(0, .ref (ad 26)), (1, .int k)] := hl
  have hq2 := qs_le hF.1
  have hn2 := nn_le hF.1
  refine lv_aload_n hx hb dX6_closure_0 rfl (lv_at hl 0 rfl) ?_
  refine va_get (D := D) (ci := 6) (v := .ref (ad 5)) (C := RX6) (T := TX6) (N := 7) hx hb hts hiX6 hown hK hP 12 rfl rfl 1 (by decide) hf21 (fun _ h9 => h9) rfl dX6_closure_1 ?_
  refine lv_aload_n hx hb dX6_closure_4 rfl (lv_at hl 0 rfl) ?_
  refine va_get (D := D) (ci := 6) (v := .ref (ad 8)) (C := RX6) (T := TX6) (N := 7) hx hb hts hiX6 hown hK hP 12 rfl rfl 2 (by decide) hf30 (fun _ h9 => h9) rfl dX6_closure_5 ?_
  refine ctW_V (As := []) (rest := [.ref (ad 5)]) (wr := [(ad 26, .inr (6, [.ref (ad 0), .ref (ad 5), .ref (ad 8), .ref (ad 12), .ref (ad 16), .ref (ad 20), .ref (ad 24)]))]) ⟨hx, hb, hml, hown, hts⟩ (c_X4_close l D cI cZ ad q sm pr op iv hF tr ro hT hR S gr ol) (cwV 0 hts gX6_closure_X4_close rfl rfl rfl hdV_X4_close ⟨Nat.le_of_ble_eq_true rfl, Nat.le_of_ble_eq_true rfl⟩) hK hN hP hD hS hA [0, 1, 2, 3, 4, 5, 6, 7, 8, 9, 10, 11] [12] rfl rfl rfl (by decide) (by decide) (by decide) 8 4 rfl rfl rfl hl.1 rfl (Nat.le_of_ble_eq_true rfl) ⟨Nat.zero_le _, Nat.zero_le _⟩ dX6_closure_8 (fun u H locs hu8 hP hD hS => ?_)
  obtain ⟨gr_1, ol_2⟩ := u
  try dsimp only at hu8
  have hP : va_P D vwCl [(ad 0, .inr (1, [.int (nI q), .ref (ad 1), .ref (ad 2), .ref (ad 3), .ref (ad 4)])), (ad 1, .inl (cI, 81, .inl (nF sm))), (ad 2, .inl (cI, 81, .inl (nF pr))), (ad 3, .inl (cI, 9, .inl (nF op))), (ad 4, .inl (cI, 9, .inl (nF iv))), (ad 5, .inr (3, [.ref (ad 0), .int (nI (nn q)), .ref (ad 6), .ref (ad 7)])), (ad 6, .inl (cI, 273, .inl (nF tr))), (ad 7, .inl (cI, 910, .inl (nF ro))), (ad 8, .inr (4, [.ref (ad 5), .ref (ad 9), .ref (ad 10), .ref (ad 11)])), (ad 9, .inl (cZ, 91, .inl (bF S))), (ad 10, .inl (cZ, 91, .inl (bF gr_1))), (ad 11, .inl (cI, 91, .inl (nF ol_2))), (ad 26, .inr (6, [.ref (ad 0), .ref (ad 5), .ref (ad 8), .ref (ad 12), .ref (ad 16), .ref (ad 20), .ref (ad 24)]))] H := hP.sub [1, 2, 3, 4, 5, 6, 7, 8, 9, 10, 11, 12, 0] rfl
  have hD : va_D A [(ad 0, .inr (1, [.int (nI q), .ref (ad 1), .ref (ad 2), .ref (ad 3), .ref (ad 4)])), (ad 1, .inl (cI, 81, .inl (nF sm))), (ad 2, .inl (cI, 81, .inl (nF pr))), (ad 3, .inl (cI, 9, .inl (nF op))), (ad 4, .inl (cI, 9, .inl (nF iv))), (ad 5, .inr (3, [.ref (ad 0), .int (nI (nn q)), .ref (ad 6), .ref (ad 7)])), (ad 6, .inl (cI, 273, .inl (nF tr))), (ad 7, .inl (cI, 910, .inl (nF ro))), (ad 8, .inr (4, [.ref (ad 5), .ref (ad 9), .ref (ad 10), .ref (ad 11)])), (ad 9, .inl (cZ, 91, .inl (bF S))), (ad 10, .inl (cZ, 91, .inl (bF gr_1))), (ad 11, .inl (cI, 91, .inl (nF ol_2))), (ad 26, .inr (6, [.ref (ad 0), .ref (ad 5), .ref (ad 8), .ref (ad 12), .ref (ad 16), .ref (ad 20), .ref (ad 24)]))] := hD.sub [1, 2, 3, 4, 5, 6, 7, 8, 9, 10, 11, 12, 0] (by decide) rfl
  refine W.eq (g2 := F0 m 11 ls [.ref (ad 10), .ref (ad 5)]) rfl ?_
  refine lv_iload_n hx hb dX6_closure_11 rfl (lv_at hl 1 rfl) ?_
  refine ctR_V (As := [.ref (ad 10), .int k]) (rest := []) (r := .int (pickZ gr_1 (nn q) k)) ⟨hx, hb, hml, hown, hts⟩ (c_X3_pick l D cI cZ ad q sm pr op iv hF tr ro hT (ad 10) gr_1 k) (cwV 2 hts gX6_closure_X3_pick rfl rfl rfl hdV_X3_pick ⟨Nat.le_of_ble_eq_true rfl, Nat.le_of_ble_eq_true rfl⟩) hK hN hP [0, 1, 2, 3, 4, 5, 6, 7, 10] rfl 5 3 rfl rfl rfl hl.1 rfl (Nat.le_of_ble_eq_true rfl) ⟨Nat.zero_le _, Nat.zero_le _⟩ dX6_closure_12 ?_
  exact ctW_retI (v := (pickZ gr_1 (nn q) k)) (gr_1, ol_2) hx hb hr rfl dX6_closure_15 hlocks hS hP hD trivial (by rw [pick_congr hu8])

set_option maxHeartbeats 4000000 in
set_option maxRecDepth 100000 in
theorem c_X6_greatest (l : Launch) (D : va_G) (cI cZ : ClassId) (ad : Nat → Nat) (q : Nat) (sm : Nat → Nat) (pr : Nat → Nat) (op : Nat → Nat) (iv : Nat → Nat) (hF : FOK q sm pr op iv) (tr : Nat → Nat) (ro : Nat → Nat) (hT : TOK q tr) (hR : ROK q ro) (S : Nat → Bool) (gr : Nat → Bool) (ol : Nat → Nat) (k : Int32) : CtW (S := (Nat → Bool) × (Nat → Nat)) l yX6_greatest wsX6_greatest { frames := 4, cells := 0, slots := 0, locals := 89 } D (tyG cI cZ) [.ref (ad 26), .int k] [(ad 0, .inr (1, [.int (nI q), .ref (ad 1), .ref (ad 2), .ref (ad 3), .ref (ad 4)])), (ad 1, .inl (cI, 81, .inl (nF sm))), (ad 2, .inl (cI, 81, .inl (nF pr))), (ad 3, .inl (cI, 9, .inl (nF op))), (ad 4, .inl (cI, 9, .inl (nF iv))), (ad 5, .inr (3, [.ref (ad 0), .int (nI (nn q)), .ref (ad 6), .ref (ad 7)])), (ad 6, .inl (cI, 273, .inl (nF tr))), (ad 7, .inl (cI, 910, .inl (nF ro))), (ad 8, .inr (4, [.ref (ad 5), .ref (ad 9), .ref (ad 10), .ref (ad 11)])), (ad 9, .inl (cZ, 91, .inl (bF S))), (ad 10, .inl (cZ, 91, .inl (bF gr))), (ad 11, .inl (cI, 91, .inl (nF ol))), (ad 26, .inr (6, [.ref (ad 0), .ref (ad 5), .ref (ad 8), .ref (ad 12), .ref (ad 16), .ref (ad 20), .ref (ad 24)]))] (fun u => (fun (gr3 : Nat → Bool) (ol3 : Nat → Nat) => True) u.1 u.2) (fun u => (fun (gr3 : Nat → Bool) (ol3 : Nat → Nat) => some (.int (greZ q S k))) u.1 u.2) (fun u => (fun (gr3 : Nat → Bool) (ol3 : Nat → Nat) => [(ad 0, .inr (1, [.int (nI q), .ref (ad 1), .ref (ad 2), .ref (ad 3), .ref (ad 4)])), (ad 1, .inl (cI, 81, .inl (nF sm))), (ad 2, .inl (cI, 81, .inl (nF pr))), (ad 3, .inl (cI, 9, .inl (nF op))), (ad 4, .inl (cI, 9, .inl (nF iv))), (ad 5, .inr (3, [.ref (ad 0), .int (nI (nn q)), .ref (ad 6), .ref (ad 7)])), (ad 6, .inl (cI, 273, .inl (nF tr))), (ad 7, .inl (cI, 910, .inl (nF ro))), (ad 8, .inr (4, [.ref (ad 5), .ref (ad 9), .ref (ad 10), .ref (ad 11)])), (ad 9, .inl (cZ, 91, .inl (bF S))), (ad 10, .inl (cZ, 91, .inl (bF gr3))), (ad 11, .inl (cI, 91, .inl (nF ol3))), (ad 26, .inr (6, [.ref (ad 0), .ref (ad 5), .ref (ad 8), .ref (ad 12), .ref (ad 16), .ref (ad 20), .ref (ad 24)]))]) u.1 u.2) := by
  intro sz; refine Met.ofW (cc := cX6_greatest) (maxL := 3) (ret := some .int) (by decide) rfl ?_
  intro p e s m args below meth c s₁ B hml hv
  obtain ⟨rfl, hsz, hP, hK, hD0, hN⟩ := hv
  have hx := B.exec
  have hb := B.bytes
  have hr := B.returns
  have hts := atoms_spec (ws := wsX6_greatest) B.pre
  have hown : s.vm.findClass RX6 = some m.cls := findClass_of_methodNamed B.named
  have hlocks := B.notSynchronized
  subst hsz
  have hD := hD0.self (sz := s.heap.size)
  generalize hAe : va_A [(ad 0, .inr (1, [.int (nI q), .ref (ad 1), .ref (ad 2), .ref (ad 3), .ref (ad 4)])), (ad 1, .inl (cI, 81, .inl (nF sm))), (ad 2, .inl (cI, 81, .inl (nF pr))), (ad 3, .inl (cI, 9, .inl (nF op))), (ad 4, .inl (cI, 9, .inl (nF iv))), (ad 5, .inr (3, [.ref (ad 0), .int (nI (nn q)), .ref (ad 6), .ref (ad 7)])), (ad 6, .inl (cI, 273, .inl (nF tr))), (ad 7, .inl (cI, 910, .inl (nF ro))), (ad 8, .inr (4, [.ref (ad 5), .ref (ad 9), .ref (ad 10), .ref (ad 11)])), (ad 9, .inl (cZ, 91, .inl (bF S))), (ad 10, .inl (cZ, 91, .inl (bF gr))), (ad 11, .inl (cI, 91, .inl (nF ol))), (ad 26, .inr (6, [.ref (ad 0), .ref (ad 5), .ref (ad 8), .ref (ad 12), .ref (ad 16), .ref (ad 20), .ref (ad 24)]))] s.heap.size = A at hD ⊢
  have hA : ∀ q : Nat, s.heap.size ≤ q → A q := fun q h => by rw [← hAe]; exact Or.inr h
  have hS : va_S A s.heap s.heap [] := va_S.rf
  have hP : va_P D vwCl [(ad 0, .inr (1, [.int (nI q), .ref (ad 1), .ref (ad 2), .ref (ad 3), .ref (ad 4)])), (ad 1, .inl (cI, 81, .inl (nF sm))), (ad 2, .inl (cI, 81, .inl (nF pr))), (ad 3, .inl (cI, 9, .inl (nF op))), (ad 4, .inl (cI, 9, .inl (nF iv))), (ad 5, .inr (3, [.ref (ad 0), .int (nI (nn q)), .ref (ad 6), .ref (ad 7)])), (ad 6, .inl (cI, 273, .inl (nF tr))), (ad 7, .inl (cI, 910, .inl (nF ro))), (ad 8, .inr (4, [.ref (ad 5), .ref (ad 9), .ref (ad 10), .ref (ad 11)])), (ad 9, .inl (cZ, 91, .inl (bF S))), (ad 10, .inl (cZ, 91, .inl (bF gr))), (ad 11, .inl (cI, 91, .inl (nF ol))), (ad 26, .inr (6, [.ref (ad 0), .ref (ad 5), .ref (ad 8), .ref (ad 12), .ref (ad 16), .ref (ad 20), .ref (ad 24)]))] s.heap := hP
  have hf10 := hts (.fieldLink RX6 10 "FinitePlanes" "field" "LFinitePlanes$Field;") (by decide +kernel)
  have hf21 := hts (.fieldLink RX6 21 "FinitePlanes" "plane" "LFinitePlanes$Plane;") (by decide +kernel)
  have hf30 := hts (.fieldLink RX6 30 "FinitePlanes" "set" "LFinitePlanes$PointSet;") (by decide +kernel)
  have hf62 := hN.use (w := .fieldLinkNest RX6 62 "FinitePlanes$Field" "q" "I" "FinitePlanes") (by decide +kernel) (A := [.ref (ad 26), .int k].toArray)
  have hiX1 : ∀ w ∈ u_ws RX1 TX1 5, w ∈ wsX6_greatest := by decide +kernel
  have hiX6 : ∀ w ∈ u_ws RX6 TX6 7, w ∈ wsX6_greatest := by decide +kernel
  have hl := lv_entry ([.ref (ad 26), .int k]) (n := 3) (Nat.le_of_ble_eq_true rfl)
  rw [lg_entry_eq]
  generalize (lg_sl ([.ref (ad 26), .int k]) ++ List.replicate (3 - (lg_sl ([.ref (ad 26), .int k])).length) Slot.unset).toArray = ls at hl ⊢
  have hl : lv_has ls 3 [(0, .ref (ad 26)), (1, .int k)] := hl
  have hq2 := qs_le hF.1
  have hn2 := nn_le hF.1
  refine lv_aload_n hx hb dX6_greatest_0 rfl (lv_at hl 0 rfl) ?_
  refine va_get (D := D) (ci := 6) (v := .ref (ad 0)) (C := RX6) (T := TX6) (N := 7) hx hb hts hiX6 hown hK hP 12 rfl rfl 0 (by decide) hf10 (fun _ h9 => h9) rfl dX6_greatest_1 ?_
  refine va_getN (D := D) (ci := 1) (v := .int (nI q)) (C := RX1) (T := TX1) (N := 5) hx hb hts hiX1 hown hK hP 0 rfl rfl 0 (by decide) hf62 (fun _ h9 => h9) rfl dX6_greatest_4 ?_
  refine lv_iconst (v := nI 5) hx hb dX6_greatest_7 (by decide) ?_
  refine nv_icmp_le (tgt := 14) hx hb (by omega) (by decide) dX6_greatest_8 (by decide) (fun c8 => ?_) (fun c8 => ?_)
  · refine lv_aload_n hx hb dX6_greatest_14 rfl (lv_at hl 0 rfl) ?_
    refine va_get (D := D) (ci := 6) (v := .ref (ad 8)) (C := RX6) (T := TX6) (N := 7) hx hb hts hiX6 hown hK hP 12 rfl rfl 2 (by decide) hf30 (fun _ h9 => h9) rfl dX6_greatest_15 ?_
    refine ctW_V (As := []) (rest := []) (wr := [(ad 26, .inr (6, [.ref (ad 0), .ref (ad 5), .ref (ad 8), .ref (ad 12), .ref (ad 16), .ref (ad 20), .ref (ad 24)]))]) ⟨hx, hb, hml, hown, hts⟩ (c_X4_isArc l D cI cZ ad q sm pr op iv hF tr ro hT hR S gr ol) (cwV 0 hts gX6_greatest_X4_isArc rfl rfl rfl hdV_X4_isArc ⟨Nat.le_of_ble_eq_true rfl, Nat.le_of_ble_eq_true rfl⟩) hK hN hP hD hS hA [0, 1, 2, 3, 4, 5, 6, 7, 8, 9, 10, 11] [12] rfl rfl rfl (by decide) (by decide) (by decide) 8 4 rfl rfl rfl hl.1 rfl (Nat.le_of_ble_eq_true rfl) ⟨Nat.zero_le _, Nat.zero_le _⟩ dX6_greatest_18 (fun ol_1 H locs hu18 hP hD hS => ?_)
    try dsimp only at hu18
    have hP : va_P D vwCl [(ad 0, .inr (1, [.int (nI q), .ref (ad 1), .ref (ad 2), .ref (ad 3), .ref (ad 4)])), (ad 1, .inl (cI, 81, .inl (nF sm))), (ad 2, .inl (cI, 81, .inl (nF pr))), (ad 3, .inl (cI, 9, .inl (nF op))), (ad 4, .inl (cI, 9, .inl (nF iv))), (ad 5, .inr (3, [.ref (ad 0), .int (nI (nn q)), .ref (ad 6), .ref (ad 7)])), (ad 6, .inl (cI, 273, .inl (nF tr))), (ad 7, .inl (cI, 910, .inl (nF ro))), (ad 8, .inr (4, [.ref (ad 5), .ref (ad 9), .ref (ad 10), .ref (ad 11)])), (ad 9, .inl (cZ, 91, .inl (bF S))), (ad 10, .inl (cZ, 91, .inl (bF gr))), (ad 11, .inl (cI, 91, .inl (nF ol_1))), (ad 26, .inr (6, [.ref (ad 0), .ref (ad 5), .ref (ad 8), .ref (ad 12), .ref (ad 16), .ref (ad 20), .ref (ad 24)]))] H := hP.sub [1, 2, 3, 4, 5, 6, 7, 8, 9, 10, 11, 12, 0] rfl
    have hD : va_D A [(ad 0, .inr (1, [.int (nI q), .ref (ad 1), .ref (ad 2), .ref (ad 3), .ref (ad 4)])), (ad 1, .inl (cI, 81, .inl (nF sm))), (ad 2, .inl (cI, 81, .inl (nF pr))), (ad 3, .inl (cI, 9, .inl (nF op))), (ad 4, .inl (cI, 9, .inl (nF iv))), (ad 5, .inr (3, [.ref (ad 0), .int (nI (nn q)), .ref (ad 6), .ref (ad 7)])), (ad 6, .inl (cI, 273, .inl (nF tr))), (ad 7, .inl (cI, 910, .inl (nF ro))), (ad 8, .inr (4, [.ref (ad 5), .ref (ad 9), .ref (ad 10), .ref (ad 11)])), (ad 9, .inl (cZ, 91, .inl (bF S))), (ad 10, .inl (cZ, 91, .inl (bF gr))), (ad 11, .inl (cI, 91, .inl (nF ol_1))), (ad 26, .inr (6, [.ref (ad 0), .ref (ad 5), .ref (ad 8), .ref (ad 12), .ref (ad 16), .ref (ad 20), .ref (ad 24)]))] := hD.sub [1, 2, 3, 4, 5, 6, 7, 8, 9, 10, 11, 12, 0] (by decide) rfl
    refine W.eq (g2 := F0 m 21 ls [.int (nI (arcq q S).toNat)]) rfl ?_
    refine nv_ifb_ne (tgt := 26) hx hb dX6_greatest_21 (by decide) (fun c21 => ?_) (fun c21 => ?_)
    · refine lv_aload_n hx hb dX6_greatest_26 rfl (lv_at hl 0 rfl) ?_
      refine va_get (D := D) (ci := 6) (v := .ref (ad 8)) (C := RX6) (T := TX6) (N := 7) hx hb hts hiX6 hown hK hP 12 rfl rfl 2 (by decide) hf30 (fun _ h9 => h9) rfl dX6_greatest_27 ?_
      refine ctW_V (As := []) (rest := []) (wr := [(ad 26, .inr (6, [.ref (ad 0), .ref (ad 5), .ref (ad 8), .ref (ad 12), .ref (ad 16), .ref (ad 20), .ref (ad 24)]))]) ⟨hx, hb, hml, hown, hts⟩ (c_X4_growArc l D cI cZ ad q sm pr op iv hF tr ro hT hR S gr ol_1) (cwV 0 hts gX6_greatest_X4_growArc rfl rfl rfl hdV_X4_growArc ⟨Nat.le_of_ble_eq_true rfl, Nat.le_of_ble_eq_true rfl⟩) hK hN hP hD hS hA [0, 1, 2, 3, 4, 5, 6, 7, 8, 9, 10, 11] [12] rfl rfl rfl (by decide) (by decide) (by decide) 8 4 rfl rfl rfl hl.1 rfl (Nat.le_of_ble_eq_true rfl) ⟨Nat.zero_le _, Nat.zero_le _⟩ dX6_greatest_30 (fun u H locs hu30 hP hD hS => ?_)
      obtain ⟨gr_2, ol_3⟩ := u
      try dsimp only at hu30
      have hP : va_P D vwCl [(ad 0, .inr (1, [.int (nI q), .ref (ad 1), .ref (ad 2), .ref (ad 3), .ref (ad 4)])), (ad 1, .inl (cI, 81, .inl (nF sm))), (ad 2, .inl (cI, 81, .inl (nF pr))), (ad 3, .inl (cI, 9, .inl (nF op))), (ad 4, .inl (cI, 9, .inl (nF iv))), (ad 5, .inr (3, [.ref (ad 0), .int (nI (nn q)), .ref (ad 6), .ref (ad 7)])), (ad 6, .inl (cI, 273, .inl (nF tr))), (ad 7, .inl (cI, 910, .inl (nF ro))), (ad 8, .inr (4, [.ref (ad 5), .ref (ad 9), .ref (ad 10), .ref (ad 11)])), (ad 9, .inl (cZ, 91, .inl (bF S))), (ad 10, .inl (cZ, 91, .inl (bF gr_2))), (ad 11, .inl (cI, 91, .inl (nF ol_3))), (ad 26, .inr (6, [.ref (ad 0), .ref (ad 5), .ref (ad 8), .ref (ad 12), .ref (ad 16), .ref (ad 20), .ref (ad 24)]))] H := hP.sub [1, 2, 3, 4, 5, 6, 7, 8, 9, 10, 11, 12, 0] rfl
      have hD : va_D A [(ad 0, .inr (1, [.int (nI q), .ref (ad 1), .ref (ad 2), .ref (ad 3), .ref (ad 4)])), (ad 1, .inl (cI, 81, .inl (nF sm))), (ad 2, .inl (cI, 81, .inl (nF pr))), (ad 3, .inl (cI, 9, .inl (nF op))), (ad 4, .inl (cI, 9, .inl (nF iv))), (ad 5, .inr (3, [.ref (ad 0), .int (nI (nn q)), .ref (ad 6), .ref (ad 7)])), (ad 6, .inl (cI, 273, .inl (nF tr))), (ad 7, .inl (cI, 910, .inl (nF ro))), (ad 8, .inr (4, [.ref (ad 5), .ref (ad 9), .ref (ad 10), .ref (ad 11)])), (ad 9, .inl (cZ, 91, .inl (bF S))), (ad 10, .inl (cZ, 91, .inl (bF gr_2))), (ad 11, .inl (cI, 91, .inl (nF ol_3))), (ad 26, .inr (6, [.ref (ad 0), .ref (ad 5), .ref (ad 8), .ref (ad 12), .ref (ad 16), .ref (ad 20), .ref (ad 24)]))] := hD.sub [1, 2, 3, 4, 5, 6, 7, 8, 9, 10, 11, 12, 0] (by decide) rfl
      refine W.eq (g2 := F0 m 33 ls [.ref (ad 10)]) rfl ?_
      refine lv_astore_n (lv' := [(2, .ref (ad 10)), (0, .ref (ad 26)), (1, .int k)]) hx hb dX6_greatest_33 rfl hl (by decide) rfl (fun ls hl => ?_)
      refine lv_iload_n hx hb dX6_greatest_34 rfl (lv_at hl 2 rfl) ?_
      refine lv_iconst (v := (-1)) hx hb dX6_greatest_35 (by decide) ?_
      refine lv_icmp_ne (tgt := 50) hx hb dX6_greatest_36 (by decide) (fun c36 => ?_) (fun c36 => ?_)
      · refine lv_aload_n hx hb dX6_greatest_50 rfl (lv_at hl 1 rfl) ?_
        refine va_get (D := D) (ci := 6) (v := .ref (ad 5)) (C := RX6) (T := TX6) (N := 7) hx hb hts hiX6 hown hK hP 12 rfl rfl 1 (by decide) hf21 (fun _ h9 => h9) rfl dX6_greatest_51 ?_
        refine lv_aload_n hx hb dX6_greatest_54 rfl (lv_at hl 0 rfl) ?_
        refine lv_iload_n hx hb dX6_greatest_55 rfl (lv_at hl 2 rfl) ?_
        refine ctR_V (As := [.ref (ad 10), .int k]) (rest := []) (r := .int (pickZ gr_2 (nn q) k)) ⟨hx, hb, hml, hown, hts⟩ (c_X3_pick l D cI cZ ad q sm pr op iv hF tr ro hT (ad 10) gr_2 k) (cwV 2 hts gX6_greatest_X3_pick rfl rfl rfl hdV_X3_pick ⟨Nat.le_of_ble_eq_true rfl, Nat.le_of_ble_eq_true rfl⟩) hK hN hP [0, 1, 2, 3, 4, 5, 6, 7, 10] rfl 5 3 rfl rfl rfl hl.1 rfl (Nat.le_of_ble_eq_true rfl) ⟨Nat.zero_le _, Nat.zero_le _⟩ dX6_greatest_56 ?_
        exact ctW_retI (v := (pickZ gr_2 (nn q) k)) (gr_2, ol_3) hx hb hr rfl dX6_greatest_59 hlocks hS hP hD trivial (by first | (rw [greZ, if_neg (by omega), if_neg (bool_nf c21), if_neg c36, pick_congr hu30]) | (rw [greZ, if_neg (by omega), if_neg (bool_nf c21), if_pos c36, cnt_congr hu30]))
      · refine lv_aload_n hx hb dX6_greatest_39 rfl (lv_at hl 1 rfl) ?_
        refine va_get (D := D) (ci := 6) (v := .ref (ad 5)) (C := RX6) (T := TX6) (N := 7) hx hb hts hiX6 hown hK hP 12 rfl rfl 1 (by decide) hf21 (fun _ h9 => h9) rfl dX6_greatest_40 ?_
        refine lv_aload_n hx hb dX6_greatest_43 rfl (lv_at hl 0 rfl) ?_
        refine ctR_V (As := [.ref (ad 10)]) (rest := []) (r := .int (nI (cnt gr_2 (nn q)))) ⟨hx, hb, hml, hown, hts⟩ (c_X3_sizeOf l D cI cZ ad q sm pr op iv hF tr ro hT (ad 10) gr_2) (cwV 1 hts gX6_greatest_X3_sizeOf rfl rfl rfl hdV_X3_sizeOf ⟨Nat.le_of_ble_eq_true rfl, Nat.le_of_ble_eq_true rfl⟩) hK hN hP [0, 1, 2, 3, 4, 5, 6, 7, 10] rfl 5 3 rfl rfl rfl hl.1 rfl (Nat.le_of_ble_eq_true rfl) ⟨Nat.zero_le _, Nat.zero_le _⟩ dX6_greatest_44 ?_
        have hh_4 : cnt gr_2 (nn q) ≤ nn q := cnt_le _ _
        refine lv_goto (tgt := 59) hx hb dX6_greatest_47 (by decide) ?_
        exact ctW_retI (v := (nI (cnt gr_2 (nn q)))) (gr_2, ol_3) hx hb hr rfl dX6_greatest_59 hlocks hS hP hD trivial (by first | (rw [greZ, if_neg (by omega), if_neg (bool_nf c21), if_neg c36, pick_congr hu30]) | (rw [greZ, if_neg (by omega), if_neg (bool_nf c21), if_pos c36, cnt_congr hu30]))
    · refine lv_iconst (v := (-1)) hx hb dX6_greatest_24 (by decide) ?_
      exact ctW_retI (v := (-1)) (gr, ol_1) hx hb hr rfl dX6_greatest_25 hlocks hS hP hD trivial (by rw [greZ, if_neg (by omega), if_pos c21])
  · refine lv_bipush (v := (-2)) hx hb dX6_greatest_11 (by decide) ?_
    exact ctW_retI (v := (-2)) (gr, ol) hx hb hr rfl dX6_greatest_13 hlocks hS hP hD trivial (by rw [greZ, if_pos c8])

set_option maxHeartbeats 4000000 in
set_option maxRecDepth 100000 in
theorem c_X6_is (l : Launch) (D : va_G) (cI cZ : ClassId) (ad : Nat → Nat) (q : Nat) (sm : Nat → Nat) (pr : Nat → Nat) (op : Nat → Nat) (iv : Nat → Nat) (hF : FOK q sm pr op iv) (tr : Nat → Nat) (ro : Nat → Nat) (hT : TOK q tr) (hR : ROK q ro) (S : Nat → Bool) (gr : Nat → Bool) (ol : Nat → Nat) (x : Int32) : CtW (S := (Nat → Bool) × (Nat → Nat)) l yX6_is wsX6_is { frames := 5, cells := 0, slots := 0, locals := 111 } D (tyG cI cZ) [.ref (ad 26), .int x] [(ad 0, .inr (1, [.int (nI q), .ref (ad 1), .ref (ad 2), .ref (ad 3), .ref (ad 4)])), (ad 1, .inl (cI, 81, .inl (nF sm))), (ad 2, .inl (cI, 81, .inl (nF pr))), (ad 3, .inl (cI, 9, .inl (nF op))), (ad 4, .inl (cI, 9, .inl (nF iv))), (ad 5, .inr (3, [.ref (ad 0), .int (nI (nn q)), .ref (ad 6), .ref (ad 7)])), (ad 6, .inl (cI, 273, .inl (nF tr))), (ad 7, .inl (cI, 910, .inl (nF ro))), (ad 8, .inr (4, [.ref (ad 5), .ref (ad 9), .ref (ad 10), .ref (ad 11)])), (ad 9, .inl (cZ, 91, .inl (bF S))), (ad 10, .inl (cZ, 91, .inl (bF gr))), (ad 11, .inl (cI, 91, .inl (nF ol))), (ad 26, .inr (6, [.ref (ad 0), .ref (ad 5), .ref (ad 8), .ref (ad 12), .ref (ad 16), .ref (ad 20), .ref (ad 24)]))] (fun u => (fun (gr3 : Nat → Bool) (ol3 : Nat → Nat) => True) u.1 u.2) (fun u => (fun (gr3 : Nat → Bool) (ol3 : Nat → Nat) => some (.int (isZ q S x))) u.1 u.2) (fun u => (fun (gr3 : Nat → Bool) (ol3 : Nat → Nat) => [(ad 0, .inr (1, [.int (nI q), .ref (ad 1), .ref (ad 2), .ref (ad 3), .ref (ad 4)])), (ad 1, .inl (cI, 81, .inl (nF sm))), (ad 2, .inl (cI, 81, .inl (nF pr))), (ad 3, .inl (cI, 9, .inl (nF op))), (ad 4, .inl (cI, 9, .inl (nF iv))), (ad 5, .inr (3, [.ref (ad 0), .int (nI (nn q)), .ref (ad 6), .ref (ad 7)])), (ad 6, .inl (cI, 273, .inl (nF tr))), (ad 7, .inl (cI, 910, .inl (nF ro))), (ad 8, .inr (4, [.ref (ad 5), .ref (ad 9), .ref (ad 10), .ref (ad 11)])), (ad 9, .inl (cZ, 91, .inl (bF S))), (ad 10, .inl (cZ, 91, .inl (bF gr3))), (ad 11, .inl (cI, 91, .inl (nF ol3))), (ad 26, .inr (6, [.ref (ad 0), .ref (ad 5), .ref (ad 8), .ref (ad 12), .ref (ad 16), .ref (ad 20), .ref (ad 24)]))]) u.1 u.2) := by
  intro sz; refine Met.ofW (cc := cX6_is) (maxL := 2) (ret := some .int) (by decide) rfl ?_
  intro p e s m args below meth c s₁ B hml hv
  obtain ⟨rfl, hsz, hP, hK, hD0, hN⟩ := hv
  have hx := B.exec
  have hb := B.bytes
  have hr := B.returns
  have hts := atoms_spec (ws := wsX6_is) B.pre
  have hown : s.vm.findClass RX6 = some m.cls := findClass_of_methodNamed B.named
  have hlocks := B.notSynchronized
  subst hsz
  have hD := hD0.self (sz := s.heap.size)
  generalize hAe : va_A [(ad 0, .inr (1, [.int (nI q), .ref (ad 1), .ref (ad 2), .ref (ad 3), .ref (ad 4)])), (ad 1, .inl (cI, 81, .inl (nF sm))), (ad 2, .inl (cI, 81, .inl (nF pr))), (ad 3, .inl (cI, 9, .inl (nF op))), (ad 4, .inl (cI, 9, .inl (nF iv))), (ad 5, .inr (3, [.ref (ad 0), .int (nI (nn q)), .ref (ad 6), .ref (ad 7)])), (ad 6, .inl (cI, 273, .inl (nF tr))), (ad 7, .inl (cI, 910, .inl (nF ro))), (ad 8, .inr (4, [.ref (ad 5), .ref (ad 9), .ref (ad 10), .ref (ad 11)])), (ad 9, .inl (cZ, 91, .inl (bF S))), (ad 10, .inl (cZ, 91, .inl (bF gr))), (ad 11, .inl (cI, 91, .inl (nF ol))), (ad 26, .inr (6, [.ref (ad 0), .ref (ad 5), .ref (ad 8), .ref (ad 12), .ref (ad 16), .ref (ad 20), .ref (ad 24)]))] s.heap.size = A at hD ⊢
  have hA : ∀ q : Nat, s.heap.size ≤ q → A q := fun q h => by rw [← hAe]; exact Or.inr h
  have hS : va_S A s.heap s.heap [] := va_S.rf
  have hP : va_P D vwCl [(ad 0, .inr (1, [.int (nI q), .ref (ad 1), .ref (ad 2), .ref (ad 3), .ref (ad 4)])), (ad 1, .inl (cI, 81, .inl (nF sm))), (ad 2, .inl (cI, 81, .inl (nF pr))), (ad 3, .inl (cI, 9, .inl (nF op))), (ad 4, .inl (cI, 9, .inl (nF iv))), (ad 5, .inr (3, [.ref (ad 0), .int (nI (nn q)), .ref (ad 6), .ref (ad 7)])), (ad 6, .inl (cI, 273, .inl (nF tr))), (ad 7, .inl (cI, 910, .inl (nF ro))), (ad 8, .inr (4, [.ref (ad 5), .ref (ad 9), .ref (ad 10), .ref (ad 11)])), (ad 9, .inl (cZ, 91, .inl (bF S))), (ad 10, .inl (cZ, 91, .inl (bF gr))), (ad 11, .inl (cI, 91, .inl (nF ol))), (ad 26, .inr (6, [.ref (ad 0), .ref (ad 5), .ref (ad 8), .ref (ad 12), .ref (ad 16), .ref (ad 20), .ref (ad 24)]))] s.heap := hP
  have hf21 := hts (.fieldLink RX6 21 "FinitePlanes" "plane" "LFinitePlanes$Plane;") (by decide +kernel)
  have hf30 := hts (.fieldLink RX6 30 "FinitePlanes" "set" "LFinitePlanes$PointSet;") (by decide +kernel)
  have hf116 := hN.use (w := .fieldLinkNest RX6 116 "FinitePlanes$PointSet" "in" "[Z" "FinitePlanes") (by decide +kernel) (A := [.ref (ad 26), .int x].toArray)
  have hiX4 : ∀ w ∈ u_ws RX4 TX4 4, w ∈ wsX6_is := by decide +kernel
  have hiX6 : ∀ w ∈ u_ws RX6 TX6 7, w ∈ wsX6_is := by decide +kernel
  have hl := lv_entry ([.ref (ad 26), .int x]) (n := 2) (Nat.le_of_ble_eq_true rfl)
  rw [lg_entry_eq]
  generalize (lg_sl ([.ref (ad 26), .int x]) ++ List.replicate (2 - (lg_sl ([.ref (ad 26), .int x])).length) Slot.unset).toArray = ls at hl ⊢
  have hl : lv_has ls 2 [(0, .ref (ad 26)), (1, .int x)] := hl
  have hq2 := qs_le hF.1
  have hn2 := nn_le hF.1
  refine lv_iload_n hx hb dX6_is_0 rfl (lv_at hl 1 rfl) ?_
  rcases (show (x).toInt = 0 ∨ (x).toInt = 1 ∨ (x).toInt = 2 ∨ (x).toInt = 3 ∨ ((x).toInt < 0 ∨ 3 < (x).toInt) by omega) with sw | sw | sw | sw | sw
  · refine lv_tableIn (tgt := 32) hx hb dX6_is_1 (by omega) (by omega) (by rw [sw]; rfl) (by decide) ?_
    obtain rfl : x = nI 0 := toInt_nI (by decide) sw
    refine lv_aload_n hx hb dX6_is_32 rfl (lv_at hl 0 rfl) ?_
    refine va_get (D := D) (ci := 6) (v := .ref (ad 8)) (C := RX6) (T := TX6) (N := 7) hx hb hts hiX6 hown hK hP 12 rfl rfl 2 (by decide) hf30 (fun _ h9 => h9) rfl dX6_is_33 ?_
    refine ctW_V (As := []) (rest := []) (wr := [(ad 26, .inr (6, [.ref (ad 0), .ref (ad 5), .ref (ad 8), .ref (ad 12), .ref (ad 16), .ref (ad 20), .ref (ad 24)]))]) ⟨hx, hb, hml, hown, hts⟩ (c_X4_isArc l D cI cZ ad q sm pr op iv hF tr ro hT hR S gr ol) (cwV 0 hts gX6_is_X4_isArc rfl rfl rfl hdV_X4_isArc ⟨Nat.le_of_ble_eq_true rfl, Nat.le_of_ble_eq_true rfl⟩) hK hN hP hD hS hA [0, 1, 2, 3, 4, 5, 6, 7, 8, 9, 10, 11] [12] rfl rfl rfl (by decide) (by decide) (by decide) 8 4 rfl rfl rfl hl.1 rfl (Nat.le_of_ble_eq_true rfl) ⟨Nat.zero_le _, Nat.zero_le _⟩ dX6_is_36 (fun ol_1 H locs hu36 hP hD hS => ?_)
    try dsimp only at hu36
    have hP : va_P D vwCl [(ad 0, .inr (1, [.int (nI q), .ref (ad 1), .ref (ad 2), .ref (ad 3), .ref (ad 4)])), (ad 1, .inl (cI, 81, .inl (nF sm))), (ad 2, .inl (cI, 81, .inl (nF pr))), (ad 3, .inl (cI, 9, .inl (nF op))), (ad 4, .inl (cI, 9, .inl (nF iv))), (ad 5, .inr (3, [.ref (ad 0), .int (nI (nn q)), .ref (ad 6), .ref (ad 7)])), (ad 6, .inl (cI, 273, .inl (nF tr))), (ad 7, .inl (cI, 910, .inl (nF ro))), (ad 8, .inr (4, [.ref (ad 5), .ref (ad 9), .ref (ad 10), .ref (ad 11)])), (ad 9, .inl (cZ, 91, .inl (bF S))), (ad 10, .inl (cZ, 91, .inl (bF gr))), (ad 11, .inl (cI, 91, .inl (nF ol_1))), (ad 26, .inr (6, [.ref (ad 0), .ref (ad 5), .ref (ad 8), .ref (ad 12), .ref (ad 16), .ref (ad 20), .ref (ad 24)]))] H := hP.sub [1, 2, 3, 4, 5, 6, 7, 8, 9, 10, 11, 12, 0] rfl
    have hD : va_D A [(ad 0, .inr (1, [.int (nI q), .ref (ad 1), .ref (ad 2), .ref (ad 3), .ref (ad 4)])), (ad 1, .inl (cI, 81, .inl (nF sm))), (ad 2, .inl (cI, 81, .inl (nF pr))), (ad 3, .inl (cI, 9, .inl (nF op))), (ad 4, .inl (cI, 9, .inl (nF iv))), (ad 5, .inr (3, [.ref (ad 0), .int (nI (nn q)), .ref (ad 6), .ref (ad 7)])), (ad 6, .inl (cI, 273, .inl (nF tr))), (ad 7, .inl (cI, 910, .inl (nF ro))), (ad 8, .inr (4, [.ref (ad 5), .ref (ad 9), .ref (ad 10), .ref (ad 11)])), (ad 9, .inl (cZ, 91, .inl (bF S))), (ad 10, .inl (cZ, 91, .inl (bF gr))), (ad 11, .inl (cI, 91, .inl (nF ol_1))), (ad 26, .inr (6, [.ref (ad 0), .ref (ad 5), .ref (ad 8), .ref (ad 12), .ref (ad 16), .ref (ad 20), .ref (ad 24)]))] := hD.sub [1, 2, 3, 4, 5, 6, 7, 8, 9, 10, 11, 12, 0] (by decide) rfl
    refine W.eq (g2 := F0 m 39 ls [.int (nI (arcq q S).toNat)]) rfl ?_
    refine ctR_S (As := [.int (nI (arcq q S).toNat)]) (rest := []) (r := .int (nI (((arcq q S)).toNat))) ⟨hx, hb, hml, hown, hts⟩ (c_X6_bit l D cI cZ (arcq q S)) (va_cwS 1 hts gX6_is_X6_bit rfl rfl rfl hdS_X6_bit ⟨Nat.le_of_ble_eq_true rfl, Nat.le_of_ble_eq_true rfl⟩) hK hN hP [] rfl rfl hl.1 rfl (Nat.le_of_ble_eq_true rfl) ⟨Nat.zero_le _, Nat.zero_le _⟩ dX6_is_39 ?_
    exact ctW_retI (v := (nI (((arcq q S)).toNat))) (gr, ol_1) hx hb hr rfl dX6_is_42 hlocks hS hP hD trivial (by rw [isZ, if_pos rfl])
  · refine lv_tableIn (tgt := 43) hx hb dX6_is_1 (by omega) (by omega) (by rw [sw]; rfl) (by decide) ?_
    obtain rfl : x = nI 1 := toInt_nI (by decide) sw
    refine lv_aload_n hx hb dX6_is_43 rfl (lv_at hl 0 rfl) ?_
    refine va_get (D := D) (ci := 6) (v := .ref (ad 8)) (C := RX6) (T := TX6) (N := 7) hx hb hts hiX6 hown hK hP 12 rfl rfl 2 (by decide) hf30 (fun _ h9 => h9) rfl dX6_is_44 ?_
    refine ctW_V (As := []) (rest := []) (wr := [(ad 26, .inr (6, [.ref (ad 0), .ref (ad 5), .ref (ad 8), .ref (ad 12), .ref (ad 16), .ref (ad 20), .ref (ad 24)]))]) ⟨hx, hb, hml, hown, hts⟩ (c_X4_isArc l D cI cZ ad q sm pr op iv hF tr ro hT hR S gr ol) (cwV 0 hts gX6_is_X4_isArc rfl rfl rfl hdV_X4_isArc ⟨Nat.le_of_ble_eq_true rfl, Nat.le_of_ble_eq_true rfl⟩) hK hN hP hD hS hA [0, 1, 2, 3, 4, 5, 6, 7, 8, 9, 10, 11] [12] rfl rfl rfl (by decide) (by decide) (by decide) 8 4 rfl rfl rfl hl.1 rfl (Nat.le_of_ble_eq_true rfl) ⟨Nat.zero_le _, Nat.zero_le _⟩ dX6_is_47 (fun ol_2 H locs hu47 hP hD hS => ?_)
    try dsimp only at hu47
    have hP : va_P D vwCl [(ad 0, .inr (1, [.int (nI q), .ref (ad 1), .ref (ad 2), .ref (ad 3), .ref (ad 4)])), (ad 1, .inl (cI, 81, .inl (nF sm))), (ad 2, .inl (cI, 81, .inl (nF pr))), (ad 3, .inl (cI, 9, .inl (nF op))), (ad 4, .inl (cI, 9, .inl (nF iv))), (ad 5, .inr (3, [.ref (ad 0), .int (nI (nn q)), .ref (ad 6), .ref (ad 7)])), (ad 6, .inl (cI, 273, .inl (nF tr))), (ad 7, .inl (cI, 910, .inl (nF ro))), (ad 8, .inr (4, [.ref (ad 5), .ref (ad 9), .ref (ad 10), .ref (ad 11)])), (ad 9, .inl (cZ, 91, .inl (bF S))), (ad 10, .inl (cZ, 91, .inl (bF gr))), (ad 11, .inl (cI, 91, .inl (nF ol_2))), (ad 26, .inr (6, [.ref (ad 0), .ref (ad 5), .ref (ad 8), .ref (ad 12), .ref (ad 16), .ref (ad 20), .ref (ad 24)]))] H := hP.sub [1, 2, 3, 4, 5, 6, 7, 8, 9, 10, 11, 12, 0] rfl
    have hD : va_D A [(ad 0, .inr (1, [.int (nI q), .ref (ad 1), .ref (ad 2), .ref (ad 3), .ref (ad 4)])), (ad 1, .inl (cI, 81, .inl (nF sm))), (ad 2, .inl (cI, 81, .inl (nF pr))), (ad 3, .inl (cI, 9, .inl (nF op))), (ad 4, .inl (cI, 9, .inl (nF iv))), (ad 5, .inr (3, [.ref (ad 0), .int (nI (nn q)), .ref (ad 6), .ref (ad 7)])), (ad 6, .inl (cI, 273, .inl (nF tr))), (ad 7, .inl (cI, 910, .inl (nF ro))), (ad 8, .inr (4, [.ref (ad 5), .ref (ad 9), .ref (ad 10), .ref (ad 11)])), (ad 9, .inl (cZ, 91, .inl (bF S))), (ad 10, .inl (cZ, 91, .inl (bF gr))), (ad 11, .inl (cI, 91, .inl (nF ol_2))), (ad 26, .inr (6, [.ref (ad 0), .ref (ad 5), .ref (ad 8), .ref (ad 12), .ref (ad 16), .ref (ad 20), .ref (ad 24)]))] := hD.sub [1, 2, 3, 4, 5, 6, 7, 8, 9, 10, 11, 12, 0] (by decide) rfl
    refine W.eq (g2 := F0 m 50 ls [.int (nI (arcq q S).toNat)]) rfl ?_
    refine nv_ifb_eq (tgt := 67) hx hb dX6_is_50 (by decide) (fun c50 => ?_) (fun c50 => ?_)
    · refine lv_iconst (v := nI 0) hx hb dX6_is_67 (by decide) ?_
      refine ctR_S (As := [.int (nI 0)]) (rest := []) (r := .int (nI ((false).toNat))) ⟨hx, hb, hml, hown, hts⟩ (c_X6_bit l D cI cZ false) (va_cwS 1 hts gX6_is_X6_bit rfl rfl rfl hdS_X6_bit ⟨Nat.le_of_ble_eq_true rfl, Nat.le_of_ble_eq_true rfl⟩) hK hN hP [] rfl rfl hl.1 rfl (Nat.le_of_ble_eq_true rfl) ⟨Nat.zero_le _, Nat.zero_le _⟩ dX6_is_68 ?_
      exact ctW_retI (v := (nI ((false).toNat))) (gr, ol_2) hx hb hr rfl dX6_is_71 hlocks hS hP hD trivial (by first | (rw [isZ, if_neg (by decide), if_pos rfl, c50]; rfl) | (rw [isZ, if_neg (by decide), if_pos rfl, c50]; done) | (rw [isZ, if_neg (by decide), if_pos rfl, decide_eq_false c60, Bool.and_false]; rfl) | (rw [isZ, if_neg (by decide), if_pos rfl, decide_eq_false c60, Bool.and_false]; done) | (rw [isZ, if_neg (by decide), if_pos rfl, c50, decide_eq_true c60]; rfl) | (rw [isZ, if_neg (by decide), if_pos rfl, c50, decide_eq_true c60]; done))
    · refine lv_aload_n hx hb dX6_is_53 rfl (lv_at hl 0 rfl) ?_
      refine va_get (D := D) (ci := 6) (v := .ref (ad 8)) (C := RX6) (T := TX6) (N := 7) hx hb hts hiX6 hown hK hP 12 rfl rfl 2 (by decide) hf30 (fun _ h9 => h9) rfl dX6_is_54 ?_
      refine ctW_V (As := []) (rest := []) (wr := [(ad 26, .inr (6, [.ref (ad 0), .ref (ad 5), .ref (ad 8), .ref (ad 12), .ref (ad 16), .ref (ad 20), .ref (ad 24)]))]) ⟨hx, hb, hml, hown, hts⟩ (c_X4_arcNewcomers l D cI cZ ad q sm pr op iv hF tr ro hT hR S gr ol_2) (cwV 0 hts gX6_is_X4_arcNewcomers rfl rfl rfl hdV_X4_arcNewcomers ⟨Nat.le_of_ble_eq_true rfl, Nat.le_of_ble_eq_true rfl⟩) hK hN hP hD hS hA [0, 1, 2, 3, 4, 5, 6, 7, 8, 9, 10, 11] [12] rfl rfl rfl (by decide) (by decide) (by decide) 8 4 rfl rfl rfl hl.1 rfl (Nat.le_of_ble_eq_true rfl) ⟨Nat.zero_le _, Nat.zero_le _⟩ dX6_is_57 (fun ol_3 H locs hu57 hP hD hS => ?_)
      try dsimp only at hu57
      have hP : va_P D vwCl [(ad 0, .inr (1, [.int (nI q), .ref (ad 1), .ref (ad 2), .ref (ad 3), .ref (ad 4)])), (ad 1, .inl (cI, 81, .inl (nF sm))), (ad 2, .inl (cI, 81, .inl (nF pr))), (ad 3, .inl (cI, 9, .inl (nF op))), (ad 4, .inl (cI, 9, .inl (nF iv))), (ad 5, .inr (3, [.ref (ad 0), .int (nI (nn q)), .ref (ad 6), .ref (ad 7)])), (ad 6, .inl (cI, 273, .inl (nF tr))), (ad 7, .inl (cI, 910, .inl (nF ro))), (ad 8, .inr (4, [.ref (ad 5), .ref (ad 9), .ref (ad 10), .ref (ad 11)])), (ad 9, .inl (cZ, 91, .inl (bF S))), (ad 10, .inl (cZ, 91, .inl (bF gr))), (ad 11, .inl (cI, 91, .inl (nF ol_3))), (ad 26, .inr (6, [.ref (ad 0), .ref (ad 5), .ref (ad 8), .ref (ad 12), .ref (ad 16), .ref (ad 20), .ref (ad 24)]))] H := hP.sub [1, 2, 3, 4, 5, 6, 7, 8, 9, 10, 11, 12, 0] rfl
      have hD : va_D A [(ad 0, .inr (1, [.int (nI q), .ref (ad 1), .ref (ad 2), .ref (ad 3), .ref (ad 4)])), (ad 1, .inl (cI, 81, .inl (nF sm))), (ad 2, .inl (cI, 81, .inl (nF pr))), (ad 3, .inl (cI, 9, .inl (nF op))), (ad 4, .inl (cI, 9, .inl (nF iv))), (ad 5, .inr (3, [.ref (ad 0), .int (nI (nn q)), .ref (ad 6), .ref (ad 7)])), (ad 6, .inl (cI, 273, .inl (nF tr))), (ad 7, .inl (cI, 910, .inl (nF ro))), (ad 8, .inr (4, [.ref (ad 5), .ref (ad 9), .ref (ad 10), .ref (ad 11)])), (ad 9, .inl (cZ, 91, .inl (bF S))), (ad 10, .inl (cZ, 91, .inl (bF gr))), (ad 11, .inl (cI, 91, .inl (nF ol_3))), (ad 26, .inr (6, [.ref (ad 0), .ref (ad 5), .ref (ad 8), .ref (ad 12), .ref (ad 16), .ref (ad 20), .ref (ad 24)]))] := hD.sub [1, 2, 3, 4, 5, 6, 7, 8, 9, 10, 11, 12, 0] (by decide) rfl
      refine W.eq (g2 := F0 m 60 ls [.int (nI (newq q S))]) rfl ?_
      have hh_4 : newq q S ≤ nn q := newq_le
      refine nv_if_ne (tgt := 67) hx hb (by omega) dX6_is_60 (by decide) (fun c60 => ?_) (fun c60 => ?_)
      · refine lv_iconst (v := nI 0) hx hb dX6_is_67 (by decide) ?_
        refine ctR_S (As := [.int (nI 0)]) (rest := []) (r := .int (nI ((false).toNat))) ⟨hx, hb, hml, hown, hts⟩ (c_X6_bit l D cI cZ false) (va_cwS 1 hts gX6_is_X6_bit rfl rfl rfl hdS_X6_bit ⟨Nat.le_of_ble_eq_true rfl, Nat.le_of_ble_eq_true rfl⟩) hK hN hP [] rfl rfl hl.1 rfl (Nat.le_of_ble_eq_true rfl) ⟨Nat.zero_le _, Nat.zero_le _⟩ dX6_is_68 ?_
        exact ctW_retI (v := (nI ((false).toNat))) (gr, ol_3) hx hb hr rfl dX6_is_71 hlocks hS hP hD trivial (by first | (rw [isZ, if_neg (by decide), if_pos rfl, c50]; rfl) | (rw [isZ, if_neg (by decide), if_pos rfl, c50]; done) | (rw [isZ, if_neg (by decide), if_pos rfl, decide_eq_false c60, Bool.and_false]; rfl) | (rw [isZ, if_neg (by decide), if_pos rfl, decide_eq_false c60, Bool.and_false]; done) | (rw [isZ, if_neg (by decide), if_pos rfl, c50, decide_eq_true c60]; rfl) | (rw [isZ, if_neg (by decide), if_pos rfl, c50, decide_eq_true c60]; done))
      · refine lv_iconst (v := nI 1) hx hb dX6_is_63 (by decide) ?_
        refine lv_goto (tgt := 68) hx hb dX6_is_64 (by decide) ?_
        refine ctR_S (As := [.int (nI 1)]) (rest := []) (r := .int (nI ((true).toNat))) ⟨hx, hb, hml, hown, hts⟩ (c_X6_bit l D cI cZ true) (va_cwS 1 hts gX6_is_X6_bit rfl rfl rfl hdS_X6_bit ⟨Nat.le_of_ble_eq_true rfl, Nat.le_of_ble_eq_true rfl⟩) hK hN hP [] rfl rfl hl.1 rfl (Nat.le_of_ble_eq_true rfl) ⟨Nat.zero_le _, Nat.zero_le _⟩ dX6_is_68 ?_
        exact ctW_retI (v := (nI ((true).toNat))) (gr, ol_3) hx hb hr rfl dX6_is_71 hlocks hS hP hD trivial (by first | (rw [isZ, if_neg (by decide), if_pos rfl, c50]; rfl) | (rw [isZ, if_neg (by decide), if_pos rfl, c50]; done) | (rw [isZ, if_neg (by decide), if_pos rfl, decide_eq_false c60, Bool.and_false]; rfl) | (rw [isZ, if_neg (by decide), if_pos rfl, decide_eq_false c60, Bool.and_false]; done) | (rw [isZ, if_neg (by decide), if_pos rfl, c50, decide_eq_true c60]; rfl) | (rw [isZ, if_neg (by decide), if_pos rfl, c50, decide_eq_true c60]; done))
  · refine lv_tableIn (tgt := 72) hx hb dX6_is_1 (by omega) (by omega) (by rw [sw]; rfl) (by decide) ?_
    obtain rfl : x = nI 2 := toInt_nI (by decide) sw
    refine lv_aload_n hx hb dX6_is_72 rfl (lv_at hl 0 rfl) ?_
    refine va_get (D := D) (ci := 6) (v := .ref (ad 8)) (C := RX6) (T := TX6) (N := 7) hx hb hts hiX6 hown hK hP 12 rfl rfl 2 (by decide) hf30 (fun _ h9 => h9) rfl dX6_is_73 ?_
    refine ctW_V (As := []) (rest := []) (wr := [(ad 26, .inr (6, [.ref (ad 0), .ref (ad 5), .ref (ad 8), .ref (ad 12), .ref (ad 16), .ref (ad 20), .ref (ad 24)]))]) ⟨hx, hb, hml, hown, hts⟩ (c_X4_blocks l D cI cZ ad q sm pr op iv hF tr ro hT hR S gr ol) (cwV 0 hts gX6_is_X4_blocks rfl rfl rfl hdV_X4_blocks ⟨Nat.le_of_ble_eq_true rfl, Nat.le_of_ble_eq_true rfl⟩) hK hN hP hD hS hA [0, 1, 2, 3, 4, 5, 6, 7, 8, 9, 10, 11] [12] rfl rfl rfl (by decide) (by decide) (by decide) 8 4 rfl rfl rfl hl.1 rfl (Nat.le_of_ble_eq_true rfl) ⟨Nat.zero_le _, Nat.zero_le _⟩ dX6_is_76 (fun ol_5 H locs hu76 hP hD hS => ?_)
    try dsimp only at hu76
    have hP : va_P D vwCl [(ad 0, .inr (1, [.int (nI q), .ref (ad 1), .ref (ad 2), .ref (ad 3), .ref (ad 4)])), (ad 1, .inl (cI, 81, .inl (nF sm))), (ad 2, .inl (cI, 81, .inl (nF pr))), (ad 3, .inl (cI, 9, .inl (nF op))), (ad 4, .inl (cI, 9, .inl (nF iv))), (ad 5, .inr (3, [.ref (ad 0), .int (nI (nn q)), .ref (ad 6), .ref (ad 7)])), (ad 6, .inl (cI, 273, .inl (nF tr))), (ad 7, .inl (cI, 910, .inl (nF ro))), (ad 8, .inr (4, [.ref (ad 5), .ref (ad 9), .ref (ad 10), .ref (ad 11)])), (ad 9, .inl (cZ, 91, .inl (bF S))), (ad 10, .inl (cZ, 91, .inl (bF gr))), (ad 11, .inl (cI, 91, .inl (nF ol_5))), (ad 26, .inr (6, [.ref (ad 0), .ref (ad 5), .ref (ad 8), .ref (ad 12), .ref (ad 16), .ref (ad 20), .ref (ad 24)]))] H := hP.sub [1, 2, 3, 4, 5, 6, 7, 8, 9, 10, 11, 12, 0] rfl
    have hD : va_D A [(ad 0, .inr (1, [.int (nI q), .ref (ad 1), .ref (ad 2), .ref (ad 3), .ref (ad 4)])), (ad 1, .inl (cI, 81, .inl (nF sm))), (ad 2, .inl (cI, 81, .inl (nF pr))), (ad 3, .inl (cI, 9, .inl (nF op))), (ad 4, .inl (cI, 9, .inl (nF iv))), (ad 5, .inr (3, [.ref (ad 0), .int (nI (nn q)), .ref (ad 6), .ref (ad 7)])), (ad 6, .inl (cI, 273, .inl (nF tr))), (ad 7, .inl (cI, 910, .inl (nF ro))), (ad 8, .inr (4, [.ref (ad 5), .ref (ad 9), .ref (ad 10), .ref (ad 11)])), (ad 9, .inl (cZ, 91, .inl (bF S))), (ad 10, .inl (cZ, 91, .inl (bF gr))), (ad 11, .inl (cI, 91, .inl (nF ol_5))), (ad 26, .inr (6, [.ref (ad 0), .ref (ad 5), .ref (ad 8), .ref (ad 12), .ref (ad 16), .ref (ad 20), .ref (ad 24)]))] := hD.sub [1, 2, 3, 4, 5, 6, 7, 8, 9, 10, 11, 12, 0] (by decide) rfl
    refine W.eq (g2 := F0 m 79 ls [.int (nI (blkq q S).toNat)]) rfl ?_
    refine ctR_S (As := [.int (nI (blkq q S).toNat)]) (rest := []) (r := .int (nI (((blkq q S)).toNat))) ⟨hx, hb, hml, hown, hts⟩ (c_X6_bit l D cI cZ (blkq q S)) (va_cwS 1 hts gX6_is_X6_bit rfl rfl rfl hdS_X6_bit ⟨Nat.le_of_ble_eq_true rfl, Nat.le_of_ble_eq_true rfl⟩) hK hN hP [] rfl rfl hl.1 rfl (Nat.le_of_ble_eq_true rfl) ⟨Nat.zero_le _, Nat.zero_le _⟩ dX6_is_79 ?_
    exact ctW_retI (v := (nI (((blkq q S)).toNat))) (gr, ol_5) hx hb hr rfl dX6_is_82 hlocks hS hP hD trivial (by rw [isZ, if_neg (by decide), if_neg (by decide), if_pos rfl])
  · refine lv_tableIn (tgt := 83) hx hb dX6_is_1 (by omega) (by omega) (by rw [sw]; rfl) (by decide) ?_
    obtain rfl : x = nI 3 := toInt_nI (by decide) sw
    refine lv_aload_n hx hb dX6_is_83 rfl (lv_at hl 0 rfl) ?_
    refine va_get (D := D) (ci := 6) (v := .ref (ad 5)) (C := RX6) (T := TX6) (N := 7) hx hb hts hiX6 hown hK hP 12 rfl rfl 1 (by decide) hf21 (fun _ h9 => h9) rfl dX6_is_84 ?_
    refine lv_aload_n hx hb dX6_is_87 rfl (lv_at hl 0 rfl) ?_
    refine va_get (D := D) (ci := 6) (v := .ref (ad 8)) (C := RX6) (T := TX6) (N := 7) hx hb hts hiX6 hown hK hP 12 rfl rfl 2 (by decide) hf30 (fun _ h9 => h9) rfl dX6_is_88 ?_
    refine ctW_V (As := []) (rest := [.ref (ad 5)]) (wr := [(ad 26, .inr (6, [.ref (ad 0), .ref (ad 5), .ref (ad 8), .ref (ad 12), .ref (ad 16), .ref (ad 20), .ref (ad 24)]))]) ⟨hx, hb, hml, hown, hts⟩ (c_X4_close l D cI cZ ad q sm pr op iv hF tr ro hT hR S gr ol) (cwV 0 hts gX6_is_X4_close rfl rfl rfl hdV_X4_close ⟨Nat.le_of_ble_eq_true rfl, Nat.le_of_ble_eq_true rfl⟩) hK hN hP hD hS hA [0, 1, 2, 3, 4, 5, 6, 7, 8, 9, 10, 11] [12] rfl rfl rfl (by decide) (by decide) (by decide) 8 4 rfl rfl rfl hl.1 rfl (Nat.le_of_ble_eq_true rfl) ⟨Nat.zero_le _, Nat.zero_le _⟩ dX6_is_91 (fun u H locs hu91 hP hD hS => ?_)
    obtain ⟨gr_6, ol_7⟩ := u
    try dsimp only at hu91
    have hP : va_P D vwCl [(ad 0, .inr (1, [.int (nI q), .ref (ad 1), .ref (ad 2), .ref (ad 3), .ref (ad 4)])), (ad 1, .inl (cI, 81, .inl (nF sm))), (ad 2, .inl (cI, 81, .inl (nF pr))), (ad 3, .inl (cI, 9, .inl (nF op))), (ad 4, .inl (cI, 9, .inl (nF iv))), (ad 5, .inr (3, [.ref (ad 0), .int (nI (nn q)), .ref (ad 6), .ref (ad 7)])), (ad 6, .inl (cI, 273, .inl (nF tr))), (ad 7, .inl (cI, 910, .inl (nF ro))), (ad 8, .inr (4, [.ref (ad 5), .ref (ad 9), .ref (ad 10), .ref (ad 11)])), (ad 9, .inl (cZ, 91, .inl (bF S))), (ad 10, .inl (cZ, 91, .inl (bF gr_6))), (ad 11, .inl (cI, 91, .inl (nF ol_7))), (ad 26, .inr (6, [.ref (ad 0), .ref (ad 5), .ref (ad 8), .ref (ad 12), .ref (ad 16), .ref (ad 20), .ref (ad 24)]))] H := hP.sub [1, 2, 3, 4, 5, 6, 7, 8, 9, 10, 11, 12, 0] rfl
    have hD : va_D A [(ad 0, .inr (1, [.int (nI q), .ref (ad 1), .ref (ad 2), .ref (ad 3), .ref (ad 4)])), (ad 1, .inl (cI, 81, .inl (nF sm))), (ad 2, .inl (cI, 81, .inl (nF pr))), (ad 3, .inl (cI, 9, .inl (nF op))), (ad 4, .inl (cI, 9, .inl (nF iv))), (ad 5, .inr (3, [.ref (ad 0), .int (nI (nn q)), .ref (ad 6), .ref (ad 7)])), (ad 6, .inl (cI, 273, .inl (nF tr))), (ad 7, .inl (cI, 910, .inl (nF ro))), (ad 8, .inr (4, [.ref (ad 5), .ref (ad 9), .ref (ad 10), .ref (ad 11)])), (ad 9, .inl (cZ, 91, .inl (bF S))), (ad 10, .inl (cZ, 91, .inl (bF gr_6))), (ad 11, .inl (cI, 91, .inl (nF ol_7))), (ad 26, .inr (6, [.ref (ad 0), .ref (ad 5), .ref (ad 8), .ref (ad 12), .ref (ad 16), .ref (ad 20), .ref (ad 24)]))] := hD.sub [1, 2, 3, 4, 5, 6, 7, 8, 9, 10, 11, 12, 0] (by decide) rfl
    refine W.eq (g2 := F0 m 94 ls [.ref (ad 10), .ref (ad 5)]) rfl ?_
    refine ctR_V (As := [.ref (ad 10)]) (rest := []) (r := .int (nI (cnt gr_6 (nn q)))) ⟨hx, hb, hml, hown, hts⟩ (c_X3_sizeOf l D cI cZ ad q sm pr op iv hF tr ro hT (ad 10) gr_6) (cwV 1 hts gX6_is_X3_sizeOf rfl rfl rfl hdV_X3_sizeOf ⟨Nat.le_of_ble_eq_true rfl, Nat.le_of_ble_eq_true rfl⟩) hK hN hP [0, 1, 2, 3, 4, 5, 6, 7, 10] rfl 5 3 rfl rfl rfl hl.1 rfl (Nat.le_of_ble_eq_true rfl) ⟨Nat.zero_le _, Nat.zero_le _⟩ dX6_is_94 ?_
    have hh_8 : cnt gr_6 (nn q) ≤ nn q := cnt_le _ _
    refine nv_top (v' := .int (nI (cnt (cloq q S) (nn q)))) (by rw [cnt_congr hu91]) ?_
    have hz9 := cnt_le (cloq q S) (nn q)
    refine lv_aload_n hx hb dX6_is_97 rfl (lv_at hl 0 rfl) ?_
    refine va_get (D := D) (ci := 6) (v := .ref (ad 5)) (C := RX6) (T := TX6) (N := 7) hx hb hts hiX6 hown hK hP 12 rfl rfl 1 (by decide) hf21 (fun _ h9 => h9) rfl dX6_is_98 ?_
    refine lv_aload_n hx hb dX6_is_101 rfl (lv_at hl 0 rfl) ?_
    refine va_get (D := D) (ci := 6) (v := .ref (ad 8)) (C := RX6) (T := TX6) (N := 7) hx hb hts hiX6 hown hK hP 12 rfl rfl 2 (by decide) hf30 (fun _ h9 => h9) rfl dX6_is_102 ?_
    refine va_getN (D := D) (ci := 4) (v := .ref (ad 9)) (C := RX4) (T := TX4) (N := 4) hx hb hts hiX4 hown hK hP 8 rfl rfl 1 (by decide) hf116 (fun _ h9 => h9) rfl dX6_is_105 ?_
    refine ctR_V (As := [.ref (ad 9)]) (rest := [.int (nI (cnt (cloq q S) (nn q)))]) (r := .int (nI (cnt S (nn q)))) ⟨hx, hb, hml, hown, hts⟩ (c_X3_sizeOf l D cI cZ ad q sm pr op iv hF tr ro hT (ad 9) S) (cwV 1 hts gX6_is_X3_sizeOf rfl rfl rfl hdV_X3_sizeOf ⟨Nat.le_of_ble_eq_true rfl, Nat.le_of_ble_eq_true rfl⟩) hK hN hP [0, 1, 2, 3, 4, 5, 6, 7, 9] rfl 5 3 rfl rfl rfl hl.1 rfl (Nat.le_of_ble_eq_true rfl) ⟨Nat.zero_le _, Nat.zero_le _⟩ dX6_is_108 ?_
    have hh_9 : cnt S (nn q) ≤ nn q := cnt_le _ _
    refine nv_icmp_ne (tgt := 118) hx hb (by omega) (by omega) dX6_is_111 (by decide) (fun c111 => ?_) (fun c111 => ?_)
    · refine lv_iconst (v := nI 0) hx hb dX6_is_118 (by decide) ?_
      refine ctR_S (As := [.int (nI 0)]) (rest := []) (r := .int (nI ((false).toNat))) ⟨hx, hb, hml, hown, hts⟩ (c_X6_bit l D cI cZ false) (va_cwS 1 hts gX6_is_X6_bit rfl rfl rfl hdS_X6_bit ⟨Nat.le_of_ble_eq_true rfl, Nat.le_of_ble_eq_true rfl⟩) hK hN hP [] rfl rfl hl.1 rfl (Nat.le_of_ble_eq_true rfl) ⟨Nat.zero_le _, Nat.zero_le _⟩ dX6_is_119 ?_
      exact ctW_retI (v := (nI ((false).toNat))) (gr_6, ol_7) hx hb hr rfl dX6_is_122 hlocks hS hP hD trivial (by first | (rw [isZ, if_neg (by decide), if_neg (by decide), if_neg (by decide), if_pos rfl, decide_eq_false c111]; rfl) | (rw [isZ, if_neg (by decide), if_neg (by decide), if_neg (by decide), if_pos rfl, decide_eq_false c111]; done) | (rw [isZ, if_neg (by decide), if_neg (by decide), if_neg (by decide), if_pos rfl, decide_eq_true c111]; rfl) | (rw [isZ, if_neg (by decide), if_neg (by decide), if_neg (by decide), if_pos rfl, decide_eq_true c111]; done))
    · refine lv_iconst (v := nI 1) hx hb dX6_is_114 (by decide) ?_
      refine lv_goto (tgt := 119) hx hb dX6_is_115 (by decide) ?_
      refine ctR_S (As := [.int (nI 1)]) (rest := []) (r := .int (nI ((true).toNat))) ⟨hx, hb, hml, hown, hts⟩ (c_X6_bit l D cI cZ true) (va_cwS 1 hts gX6_is_X6_bit rfl rfl rfl hdS_X6_bit ⟨Nat.le_of_ble_eq_true rfl, Nat.le_of_ble_eq_true rfl⟩) hK hN hP [] rfl rfl hl.1 rfl (Nat.le_of_ble_eq_true rfl) ⟨Nat.zero_le _, Nat.zero_le _⟩ dX6_is_119 ?_
      exact ctW_retI (v := (nI ((true).toNat))) (gr_6, ol_7) hx hb hr rfl dX6_is_122 hlocks hS hP hD trivial (by first | (rw [isZ, if_neg (by decide), if_neg (by decide), if_neg (by decide), if_pos rfl, decide_eq_false c111]; rfl) | (rw [isZ, if_neg (by decide), if_neg (by decide), if_neg (by decide), if_pos rfl, decide_eq_false c111]; done) | (rw [isZ, if_neg (by decide), if_neg (by decide), if_neg (by decide), if_pos rfl, decide_eq_true c111]; rfl) | (rw [isZ, if_neg (by decide), if_neg (by decide), if_neg (by decide), if_pos rfl, decide_eq_true c111]; done))
  · refine lv_tableOut (tgt := 123) hx hb dX6_is_1 sw (by decide) ?_
    refine lv_bipush (v := (-2)) hx hb dX6_is_123 (by decide) ?_
    exact ctW_retI (v := (-2)) (gr, ol) hx hb hr rfl dX6_is_125 hlocks hS hP hD trivial (by rw [isZ, if_neg (sw_ne sw (by decide)), if_neg (sw_ne sw (by decide)), if_neg (sw_ne sw (by decide)), if_neg (sw_ne sw (by decide))])

set_option maxHeartbeats 4000000 in
set_option maxRecDepth 100000 in
theorem c_X6_count (l : Launch) (D : va_G) (cI cZ : ClassId) (ad : Nat → Nat) (q : Nat) (sm : Nat → Nat) (pr : Nat → Nat) (op : Nat → Nat) (iv : Nat → Nat) (hF : FOK q sm pr op iv) (tr : Nat → Nat) (ro : Nat → Nat) (hT : TOK q tr) (hR : ROK q ro) (S : Nat → Bool) (gr : Nat → Bool) (ol : Nat → Nat) (w : Nat) (ln : Nat → Nat) (k_w : w ≤ 13) (k_l : LNK ln) (x : Int32) : CtW (S := (Nat → Bool) × (Nat → Nat)) l yX6_count wsX6_count { frames := 5, cells := 0, slots := 0, locals := 112 } D (tyG cI cZ) [.ref (ad 26), .int x] [(ad 0, .inr (1, [.int (nI q), .ref (ad 1), .ref (ad 2), .ref (ad 3), .ref (ad 4)])), (ad 1, .inl (cI, 81, .inl (nF sm))), (ad 2, .inl (cI, 81, .inl (nF pr))), (ad 3, .inl (cI, 9, .inl (nF op))), (ad 4, .inl (cI, 9, .inl (nF iv))), (ad 5, .inr (3, [.ref (ad 0), .int (nI (nn q)), .ref (ad 6), .ref (ad 7)])), (ad 6, .inl (cI, 273, .inl (nF tr))), (ad 7, .inl (cI, 910, .inl (nF ro))), (ad 8, .inr (4, [.ref (ad 5), .ref (ad 9), .ref (ad 10), .ref (ad 11)])), (ad 9, .inl (cZ, 91, .inl (bF S))), (ad 10, .inl (cZ, 91, .inl (bF gr))), (ad 11, .inl (cI, 91, .inl (nF ol))), (ad 24, .inr (5, [.int (nI w), .ref (ad 25)])), (ad 25, .inl (cI, 13, .inl (nF ln))), (ad 26, .inr (6, [.ref (ad 0), .ref (ad 5), .ref (ad 8), .ref (ad 12), .ref (ad 16), .ref (ad 20), .ref (ad 24)]))] (fun u => (fun (gr3 : Nat → Bool) (ol3 : Nat → Nat) => True) u.1 u.2) (fun u => (fun (gr3 : Nat → Bool) (ol3 : Nat → Nat) => some (.int (couZ q S w ln x))) u.1 u.2) (fun u => (fun (gr3 : Nat → Bool) (ol3 : Nat → Nat) => [(ad 0, .inr (1, [.int (nI q), .ref (ad 1), .ref (ad 2), .ref (ad 3), .ref (ad 4)])), (ad 1, .inl (cI, 81, .inl (nF sm))), (ad 2, .inl (cI, 81, .inl (nF pr))), (ad 3, .inl (cI, 9, .inl (nF op))), (ad 4, .inl (cI, 9, .inl (nF iv))), (ad 5, .inr (3, [.ref (ad 0), .int (nI (nn q)), .ref (ad 6), .ref (ad 7)])), (ad 6, .inl (cI, 273, .inl (nF tr))), (ad 7, .inl (cI, 910, .inl (nF ro))), (ad 8, .inr (4, [.ref (ad 5), .ref (ad 9), .ref (ad 10), .ref (ad 11)])), (ad 9, .inl (cZ, 91, .inl (bF S))), (ad 10, .inl (cZ, 91, .inl (bF gr3))), (ad 11, .inl (cI, 91, .inl (nF ol3))), (ad 24, .inr (5, [.int (nI w), .ref (ad 25)])), (ad 25, .inl (cI, 13, .inl (nF ln))), (ad 26, .inr (6, [.ref (ad 0), .ref (ad 5), .ref (ad 8), .ref (ad 12), .ref (ad 16), .ref (ad 20), .ref (ad 24)]))]) u.1 u.2) := by
  intro sz; refine Met.ofW (cc := cX6_count) (maxL := 2) (ret := some .int) (by decide) rfl ?_
  intro p e s m args below meth c s₁ B hml hv
  obtain ⟨rfl, hsz, hP, hK, hD0, hN⟩ := hv
  have hx := B.exec
  have hb := B.bytes
  have hr := B.returns
  have hts := atoms_spec (ws := wsX6_count) B.pre
  have hown : s.vm.findClass RX6 = some m.cls := findClass_of_methodNamed B.named
  have hlocks := B.notSynchronized
  subst hsz
  have hD := hD0.self (sz := s.heap.size)
  generalize hAe : va_A [(ad 0, .inr (1, [.int (nI q), .ref (ad 1), .ref (ad 2), .ref (ad 3), .ref (ad 4)])), (ad 1, .inl (cI, 81, .inl (nF sm))), (ad 2, .inl (cI, 81, .inl (nF pr))), (ad 3, .inl (cI, 9, .inl (nF op))), (ad 4, .inl (cI, 9, .inl (nF iv))), (ad 5, .inr (3, [.ref (ad 0), .int (nI (nn q)), .ref (ad 6), .ref (ad 7)])), (ad 6, .inl (cI, 273, .inl (nF tr))), (ad 7, .inl (cI, 910, .inl (nF ro))), (ad 8, .inr (4, [.ref (ad 5), .ref (ad 9), .ref (ad 10), .ref (ad 11)])), (ad 9, .inl (cZ, 91, .inl (bF S))), (ad 10, .inl (cZ, 91, .inl (bF gr))), (ad 11, .inl (cI, 91, .inl (nF ol))), (ad 24, .inr (5, [.int (nI w), .ref (ad 25)])), (ad 25, .inl (cI, 13, .inl (nF ln))), (ad 26, .inr (6, [.ref (ad 0), .ref (ad 5), .ref (ad 8), .ref (ad 12), .ref (ad 16), .ref (ad 20), .ref (ad 24)]))] s.heap.size = A at hD ⊢
  have hA : ∀ q : Nat, s.heap.size ≤ q → A q := fun q h => by rw [← hAe]; exact Or.inr h
  have hS : va_S A s.heap s.heap [] := va_S.rf
  have hP : va_P D vwCl [(ad 0, .inr (1, [.int (nI q), .ref (ad 1), .ref (ad 2), .ref (ad 3), .ref (ad 4)])), (ad 1, .inl (cI, 81, .inl (nF sm))), (ad 2, .inl (cI, 81, .inl (nF pr))), (ad 3, .inl (cI, 9, .inl (nF op))), (ad 4, .inl (cI, 9, .inl (nF iv))), (ad 5, .inr (3, [.ref (ad 0), .int (nI (nn q)), .ref (ad 6), .ref (ad 7)])), (ad 6, .inl (cI, 273, .inl (nF tr))), (ad 7, .inl (cI, 910, .inl (nF ro))), (ad 8, .inr (4, [.ref (ad 5), .ref (ad 9), .ref (ad 10), .ref (ad 11)])), (ad 9, .inl (cZ, 91, .inl (bF S))), (ad 10, .inl (cZ, 91, .inl (bF gr))), (ad 11, .inl (cI, 91, .inl (nF ol))), (ad 24, .inr (5, [.int (nI w), .ref (ad 25)])), (ad 25, .inl (cI, 13, .inl (nF ln))), (ad 26, .inr (6, [.ref (ad 0), .ref (ad 5), .ref (ad 8), .ref (ad 12), .ref (ad 16), .ref (ad 20), .ref (ad 24)]))] s.heap := hP
  have hf10 := hts (.fieldLink RX6 10 "FinitePlanes" "field" "LFinitePlanes$Field;") (by decide +kernel)
  have hf21 := hts (.fieldLink RX6 21 "FinitePlanes" "plane" "LFinitePlanes$Plane;") (by decide +kernel)
  have hf30 := hts (.fieldLink RX6 30 "FinitePlanes" "set" "LFinitePlanes$PointSet;") (by decide +kernel)
  have hf54 := hts (.fieldLink RX6 54 "FinitePlanes" "table" "LFinitePlanes$Table;") (by decide +kernel)
  have hf62 := hN.use (w := .fieldLinkNest RX6 62 "FinitePlanes$Field" "q" "I" "FinitePlanes") (by decide +kernel) (A := [.ref (ad 26), .int x].toArray)
  have hf116 := hN.use (w := .fieldLinkNest RX6 116 "FinitePlanes$PointSet" "in" "[Z" "FinitePlanes") (by decide +kernel) (A := [.ref (ad 26), .int x].toArray)
  have hf124 := hN.use (w := .fieldLinkNest RX6 124 "FinitePlanes$Plane" "n" "I" "FinitePlanes") (by decide +kernel) (A := [.ref (ad 26), .int x].toArray)
  have hf142 := hN.use (w := .fieldLinkNest RX6 142 "FinitePlanes$Table" "w" "I" "FinitePlanes") (by decide +kernel) (A := [.ref (ad 26), .int x].toArray)
  have hiX1 : ∀ w ∈ u_ws RX1 TX1 5, w ∈ wsX6_count := by decide +kernel
  have hiX3 : ∀ w ∈ u_ws RX3 TX3 4, w ∈ wsX6_count := by decide +kernel
  have hiX4 : ∀ w ∈ u_ws RX4 TX4 4, w ∈ wsX6_count := by decide +kernel
  have hiX5 : ∀ w ∈ u_ws RX5 TX5 2, w ∈ wsX6_count := by decide +kernel
  have hiX6 : ∀ w ∈ u_ws RX6 TX6 7, w ∈ wsX6_count := by decide +kernel
  have hl := lv_entry ([.ref (ad 26), .int x]) (n := 2) (Nat.le_of_ble_eq_true rfl)
  rw [lg_entry_eq]
  generalize (lg_sl ([.ref (ad 26), .int x]) ++ List.replicate (2 - (lg_sl ([.ref (ad 26), .int x])).length) Slot.unset).toArray = ls at hl ⊢
  have hl : lv_has ls 2 [(0, .ref (ad 26)), (1, .int x)] := hl
  have hq2 := qs_le hF.1
  have hn2 := nn_le hF.1
  refine lv_iload_n hx hb dX6_count_0 rfl (lv_at hl 1 rfl) ?_
  rcases (show (x).toInt = 0 ∨ (x).toInt = 1 ∨ (x).toInt = 2 ∨ (x).toInt = 3 ∨ (x).toInt = 4 ∨ (x).toInt = 5 ∨ (x).toInt = 6 ∨ (x).toInt = 7 ∨ ((x).toInt < 0 ∨ 7 < (x).toInt) by omega) with sw | sw | sw | sw | sw | sw | sw | sw | sw
  · refine lv_tableIn (tgt := 48) hx hb dX6_count_1 (by omega) (by omega) (by rw [sw]; rfl) (by decide) ?_
    obtain rfl : x = nI 0 := toInt_nI (by decide) sw
    refine lv_aload_n hx hb dX6_count_48 rfl (lv_at hl 0 rfl) ?_
    refine va_get (D := D) (ci := 6) (v := .ref (ad 0)) (C := RX6) (T := TX6) (N := 7) hx hb hts hiX6 hown hK hP 14 rfl rfl 0 (by decide) hf10 (fun _ h9 => h9) rfl dX6_count_49 ?_
    refine va_getN (D := D) (ci := 1) (v := .int (nI q)) (C := RX1) (T := TX1) (N := 5) hx hb hts hiX1 hown hK hP 0 rfl rfl 0 (by decide) hf62 (fun _ h9 => h9) rfl dX6_count_52 ?_
    exact ctW_retI (v := (nI q)) (gr, ol) hx hb hr rfl dX6_count_55 hlocks hS hP hD trivial (by rw [couZ, if_pos rfl])
  · refine lv_tableIn (tgt := 56) hx hb dX6_count_1 (by omega) (by omega) (by rw [sw]; rfl) (by decide) ?_
    obtain rfl : x = nI 1 := toInt_nI (by decide) sw
    refine lv_aload_n hx hb dX6_count_56 rfl (lv_at hl 0 rfl) ?_
    refine va_get (D := D) (ci := 6) (v := .ref (ad 5)) (C := RX6) (T := TX6) (N := 7) hx hb hts hiX6 hown hK hP 14 rfl rfl 1 (by decide) hf21 (fun _ h9 => h9) rfl dX6_count_57 ?_
    refine va_getN (D := D) (ci := 3) (v := .int (nI (nn q))) (C := RX3) (T := TX3) (N := 4) hx hb hts hiX3 hown hK hP 5 rfl rfl 1 (by decide) hf124 (fun _ h9 => h9) rfl dX6_count_60 ?_
    exact ctW_retI (v := (nI (nn q))) (gr, ol) hx hb hr rfl dX6_count_63 hlocks hS hP hD trivial (by rw [couZ, if_neg (by decide), if_pos rfl])
  · refine lv_tableIn (tgt := 64) hx hb dX6_count_1 (by omega) (by omega) (by rw [sw]; rfl) (by decide) ?_
    obtain rfl : x = nI 2 := toInt_nI (by decide) sw
    refine lv_aload_n hx hb dX6_count_64 rfl (lv_at hl 0 rfl) ?_
    refine va_get (D := D) (ci := 6) (v := .ref (ad 5)) (C := RX6) (T := TX6) (N := 7) hx hb hts hiX6 hown hK hP 14 rfl rfl 1 (by decide) hf21 (fun _ h9 => h9) rfl dX6_count_65 ?_
    refine lv_aload_n hx hb dX6_count_68 rfl (lv_at hl 0 rfl) ?_
    refine va_get (D := D) (ci := 6) (v := .ref (ad 8)) (C := RX6) (T := TX6) (N := 7) hx hb hts hiX6 hown hK hP 14 rfl rfl 2 (by decide) hf30 (fun _ h9 => h9) rfl dX6_count_69 ?_
    refine va_getN (D := D) (ci := 4) (v := .ref (ad 9)) (C := RX4) (T := TX4) (N := 4) hx hb hts hiX4 hown hK hP 8 rfl rfl 1 (by decide) hf116 (fun _ h9 => h9) rfl dX6_count_72 ?_
    refine ctR_V (As := [.ref (ad 9)]) (rest := []) (r := .int (nI (cnt S (nn q)))) ⟨hx, hb, hml, hown, hts⟩ (c_X3_sizeOf l D cI cZ ad q sm pr op iv hF tr ro hT (ad 9) S) (cwV 1 hts gX6_count_X3_sizeOf rfl rfl rfl hdV_X3_sizeOf ⟨Nat.le_of_ble_eq_true rfl, Nat.le_of_ble_eq_true rfl⟩) hK hN hP [0, 1, 2, 3, 4, 5, 6, 7, 9] rfl 5 3 rfl rfl rfl hl.1 rfl (Nat.le_of_ble_eq_true rfl) ⟨Nat.zero_le _, Nat.zero_le _⟩ dX6_count_75 ?_
    have hh_1 : cnt S (nn q) ≤ nn q := cnt_le _ _
    exact ctW_retI (v := (nI (cnt S (nn q)))) (gr, ol) hx hb hr rfl dX6_count_78 hlocks hS hP hD trivial (by rw [couZ, if_neg (by decide), if_neg (by decide), if_pos rfl])
  · refine lv_tableIn (tgt := 79) hx hb dX6_count_1 (by omega) (by omega) (by rw [sw]; rfl) (by decide) ?_
    obtain rfl : x = nI 3 := toInt_nI (by decide) sw
    refine lv_aload_n hx hb dX6_count_79 rfl (lv_at hl 0 rfl) ?_
    refine va_get (D := D) (ci := 6) (v := .ref (ad 8)) (C := RX6) (T := TX6) (N := 7) hx hb hts hiX6 hown hK hP 14 rfl rfl 2 (by decide) hf30 (fun _ h9 => h9) rfl dX6_count_80 ?_
    refine ctW_V (As := []) (rest := []) (wr := [(ad 24, .inr (5, [.int (nI w), .ref (ad 25)])), (ad 25, .inl (cI, 13, .inl (nF ln))), (ad 26, .inr (6, [.ref (ad 0), .ref (ad 5), .ref (ad 8), .ref (ad 12), .ref (ad 16), .ref (ad 20), .ref (ad 24)]))]) ⟨hx, hb, hml, hown, hts⟩ (c_X4_spares l D cI cZ ad q sm pr op iv hF tr ro hT hR S gr ol) (cwV 0 hts gX6_count_X4_spares rfl rfl rfl hdV_X4_spares ⟨Nat.le_of_ble_eq_true rfl, Nat.le_of_ble_eq_true rfl⟩) hK hN hP hD hS hA [0, 1, 2, 3, 4, 5, 6, 7, 8, 9, 10, 11] [12, 13, 14] rfl rfl rfl (by decide) (by decide) (by decide) 8 4 rfl rfl rfl hl.1 rfl (Nat.le_of_ble_eq_true rfl) ⟨Nat.zero_le _, Nat.zero_le _⟩ dX6_count_83 (fun ol_2 H locs hu83 hP hD hS => ?_)
    try dsimp only at hu83
    have hP : va_P D vwCl [(ad 0, .inr (1, [.int (nI q), .ref (ad 1), .ref (ad 2), .ref (ad 3), .ref (ad 4)])), (ad 1, .inl (cI, 81, .inl (nF sm))), (ad 2, .inl (cI, 81, .inl (nF pr))), (ad 3, .inl (cI, 9, .inl (nF op))), (ad 4, .inl (cI, 9, .inl (nF iv))), (ad 5, .inr (3, [.ref (ad 0), .int (nI (nn q)), .ref (ad 6), .ref (ad 7)])), (ad 6, .inl (cI, 273, .inl (nF tr))), (ad 7, .inl (cI, 910, .inl (nF ro))), (ad 8, .inr (4, [.ref (ad 5), .ref (ad 9), .ref (ad 10), .ref (ad 11)])), (ad 9, .inl (cZ, 91, .inl (bF S))), (ad 10, .inl (cZ, 91, .inl (bF gr))), (ad 11, .inl (cI, 91, .inl (nF ol_2))), (ad 24, .inr (5, [.int (nI w), .ref (ad 25)])), (ad 25, .inl (cI, 13, .inl (nF ln))), (ad 26, .inr (6, [.ref (ad 0), .ref (ad 5), .ref (ad 8), .ref (ad 12), .ref (ad 16), .ref (ad 20), .ref (ad 24)]))] H := hP.sub [3, 4, 5, 6, 7, 8, 9, 10, 11, 12, 13, 14, 0, 1, 2] rfl
    have hD : va_D A [(ad 0, .inr (1, [.int (nI q), .ref (ad 1), .ref (ad 2), .ref (ad 3), .ref (ad 4)])), (ad 1, .inl (cI, 81, .inl (nF sm))), (ad 2, .inl (cI, 81, .inl (nF pr))), (ad 3, .inl (cI, 9, .inl (nF op))), (ad 4, .inl (cI, 9, .inl (nF iv))), (ad 5, .inr (3, [.ref (ad 0), .int (nI (nn q)), .ref (ad 6), .ref (ad 7)])), (ad 6, .inl (cI, 273, .inl (nF tr))), (ad 7, .inl (cI, 910, .inl (nF ro))), (ad 8, .inr (4, [.ref (ad 5), .ref (ad 9), .ref (ad 10), .ref (ad 11)])), (ad 9, .inl (cZ, 91, .inl (bF S))), (ad 10, .inl (cZ, 91, .inl (bF gr))), (ad 11, .inl (cI, 91, .inl (nF ol_2))), (ad 24, .inr (5, [.int (nI w), .ref (ad 25)])), (ad 25, .inl (cI, 13, .inl (nF ln))), (ad 26, .inr (6, [.ref (ad 0), .ref (ad 5), .ref (ad 8), .ref (ad 12), .ref (ad 16), .ref (ad 20), .ref (ad 24)]))] := hD.sub [3, 4, 5, 6, 7, 8, 9, 10, 11, 12, 13, 14, 0, 1, 2] (by decide) rfl
    refine W.eq (g2 := F0 m 86 ls [.int (nI (spaq q S))]) rfl ?_
    have hh_3 : spaq q S ≤ nn q := spaq_le
    exact ctW_retI (v := (nI (spaq q S))) (gr, ol_2) hx hb hr rfl dX6_count_86 hlocks hS hP hD trivial (by rw [couZ, if_neg (by decide), if_neg (by decide), if_neg (by decide), if_pos rfl])
  · refine lv_tableIn (tgt := 87) hx hb dX6_count_1 (by omega) (by omega) (by rw [sw]; rfl) (by decide) ?_
    obtain rfl : x = nI 4 := toInt_nI (by decide) sw
    refine lv_aload_n hx hb dX6_count_87 rfl (lv_at hl 0 rfl) ?_
    refine va_get (D := D) (ci := 6) (v := .ref (ad 5)) (C := RX6) (T := TX6) (N := 7) hx hb hts hiX6 hown hK hP 14 rfl rfl 1 (by decide) hf21 (fun _ h9 => h9) rfl dX6_count_88 ?_
    refine lv_aload_n hx hb dX6_count_91 rfl (lv_at hl 0 rfl) ?_
    refine va_get (D := D) (ci := 6) (v := .ref (ad 8)) (C := RX6) (T := TX6) (N := 7) hx hb hts hiX6 hown hK hP 14 rfl rfl 2 (by decide) hf30 (fun _ h9 => h9) rfl dX6_count_92 ?_
    refine ctW_V (As := []) (rest := [.ref (ad 5)]) (wr := [(ad 24, .inr (5, [.int (nI w), .ref (ad 25)])), (ad 25, .inl (cI, 13, .inl (nF ln))), (ad 26, .inr (6, [.ref (ad 0), .ref (ad 5), .ref (ad 8), .ref (ad 12), .ref (ad 16), .ref (ad 20), .ref (ad 24)]))]) ⟨hx, hb, hml, hown, hts⟩ (c_X4_close l D cI cZ ad q sm pr op iv hF tr ro hT hR S gr ol) (cwV 0 hts gX6_count_X4_close rfl rfl rfl hdV_X4_close ⟨Nat.le_of_ble_eq_true rfl, Nat.le_of_ble_eq_true rfl⟩) hK hN hP hD hS hA [0, 1, 2, 3, 4, 5, 6, 7, 8, 9, 10, 11] [12, 13, 14] rfl rfl rfl (by decide) (by decide) (by decide) 8 4 rfl rfl rfl hl.1 rfl (Nat.le_of_ble_eq_true rfl) ⟨Nat.zero_le _, Nat.zero_le _⟩ dX6_count_95 (fun u H locs hu95 hP hD hS => ?_)
    obtain ⟨gr_4, ol_5⟩ := u
    try dsimp only at hu95
    have hP : va_P D vwCl [(ad 0, .inr (1, [.int (nI q), .ref (ad 1), .ref (ad 2), .ref (ad 3), .ref (ad 4)])), (ad 1, .inl (cI, 81, .inl (nF sm))), (ad 2, .inl (cI, 81, .inl (nF pr))), (ad 3, .inl (cI, 9, .inl (nF op))), (ad 4, .inl (cI, 9, .inl (nF iv))), (ad 5, .inr (3, [.ref (ad 0), .int (nI (nn q)), .ref (ad 6), .ref (ad 7)])), (ad 6, .inl (cI, 273, .inl (nF tr))), (ad 7, .inl (cI, 910, .inl (nF ro))), (ad 8, .inr (4, [.ref (ad 5), .ref (ad 9), .ref (ad 10), .ref (ad 11)])), (ad 9, .inl (cZ, 91, .inl (bF S))), (ad 10, .inl (cZ, 91, .inl (bF gr_4))), (ad 11, .inl (cI, 91, .inl (nF ol_5))), (ad 24, .inr (5, [.int (nI w), .ref (ad 25)])), (ad 25, .inl (cI, 13, .inl (nF ln))), (ad 26, .inr (6, [.ref (ad 0), .ref (ad 5), .ref (ad 8), .ref (ad 12), .ref (ad 16), .ref (ad 20), .ref (ad 24)]))] H := hP.sub [3, 4, 5, 6, 7, 8, 9, 10, 11, 12, 13, 14, 0, 1, 2] rfl
    have hD : va_D A [(ad 0, .inr (1, [.int (nI q), .ref (ad 1), .ref (ad 2), .ref (ad 3), .ref (ad 4)])), (ad 1, .inl (cI, 81, .inl (nF sm))), (ad 2, .inl (cI, 81, .inl (nF pr))), (ad 3, .inl (cI, 9, .inl (nF op))), (ad 4, .inl (cI, 9, .inl (nF iv))), (ad 5, .inr (3, [.ref (ad 0), .int (nI (nn q)), .ref (ad 6), .ref (ad 7)])), (ad 6, .inl (cI, 273, .inl (nF tr))), (ad 7, .inl (cI, 910, .inl (nF ro))), (ad 8, .inr (4, [.ref (ad 5), .ref (ad 9), .ref (ad 10), .ref (ad 11)])), (ad 9, .inl (cZ, 91, .inl (bF S))), (ad 10, .inl (cZ, 91, .inl (bF gr_4))), (ad 11, .inl (cI, 91, .inl (nF ol_5))), (ad 24, .inr (5, [.int (nI w), .ref (ad 25)])), (ad 25, .inl (cI, 13, .inl (nF ln))), (ad 26, .inr (6, [.ref (ad 0), .ref (ad 5), .ref (ad 8), .ref (ad 12), .ref (ad 16), .ref (ad 20), .ref (ad 24)]))] := hD.sub [3, 4, 5, 6, 7, 8, 9, 10, 11, 12, 13, 14, 0, 1, 2] (by decide) rfl
    refine W.eq (g2 := F0 m 98 ls [.ref (ad 10), .ref (ad 5)]) rfl ?_
    refine ctR_V (As := [.ref (ad 10)]) (rest := []) (r := .int (nI (cnt gr_4 (nn q)))) ⟨hx, hb, hml, hown, hts⟩ (c_X3_sizeOf l D cI cZ ad q sm pr op iv hF tr ro hT (ad 10) gr_4) (cwV 1 hts gX6_count_X3_sizeOf rfl rfl rfl hdV_X3_sizeOf ⟨Nat.le_of_ble_eq_true rfl, Nat.le_of_ble_eq_true rfl⟩) hK hN hP [0, 1, 2, 3, 4, 5, 6, 7, 10] rfl 5 3 rfl rfl rfl hl.1 rfl (Nat.le_of_ble_eq_true rfl) ⟨Nat.zero_le _, Nat.zero_le _⟩ dX6_count_98 ?_
    have hh_6 : cnt gr_4 (nn q) ≤ nn q := cnt_le _ _
    exact ctW_retI (v := (nI (cnt gr_4 (nn q)))) (gr_4, ol_5) hx hb hr rfl dX6_count_101 hlocks hS hP hD trivial (by rw [couZ, if_neg (by decide), if_neg (by decide), if_neg (by decide), if_neg (by decide), if_pos rfl, cnt_congr hu95])
  · refine lv_tableIn (tgt := 102) hx hb dX6_count_1 (by omega) (by omega) (by rw [sw]; rfl) (by decide) ?_
    obtain rfl : x = nI 5 := toInt_nI (by decide) sw
    refine lv_aload_n hx hb dX6_count_102 rfl (lv_at hl 0 rfl) ?_
    refine va_get (D := D) (ci := 6) (v := .ref (ad 8)) (C := RX6) (T := TX6) (N := 7) hx hb hts hiX6 hown hK hP 14 rfl rfl 2 (by decide) hf30 (fun _ h9 => h9) rfl dX6_count_103 ?_
    refine ctW_V (As := []) (rest := []) (wr := [(ad 24, .inr (5, [.int (nI w), .ref (ad 25)])), (ad 25, .inl (cI, 13, .inl (nF ln))), (ad 26, .inr (6, [.ref (ad 0), .ref (ad 5), .ref (ad 8), .ref (ad 12), .ref (ad 16), .ref (ad 20), .ref (ad 24)]))]) ⟨hx, hb, hml, hown, hts⟩ (c_X4_arcNewcomers l D cI cZ ad q sm pr op iv hF tr ro hT hR S gr ol) (cwV 0 hts gX6_count_X4_arcNewcomers rfl rfl rfl hdV_X4_arcNewcomers ⟨Nat.le_of_ble_eq_true rfl, Nat.le_of_ble_eq_true rfl⟩) hK hN hP hD hS hA [0, 1, 2, 3, 4, 5, 6, 7, 8, 9, 10, 11] [12, 13, 14] rfl rfl rfl (by decide) (by decide) (by decide) 8 4 rfl rfl rfl hl.1 rfl (Nat.le_of_ble_eq_true rfl) ⟨Nat.zero_le _, Nat.zero_le _⟩ dX6_count_106 (fun ol_7 H locs hu106 hP hD hS => ?_)
    try dsimp only at hu106
    have hP : va_P D vwCl [(ad 0, .inr (1, [.int (nI q), .ref (ad 1), .ref (ad 2), .ref (ad 3), .ref (ad 4)])), (ad 1, .inl (cI, 81, .inl (nF sm))), (ad 2, .inl (cI, 81, .inl (nF pr))), (ad 3, .inl (cI, 9, .inl (nF op))), (ad 4, .inl (cI, 9, .inl (nF iv))), (ad 5, .inr (3, [.ref (ad 0), .int (nI (nn q)), .ref (ad 6), .ref (ad 7)])), (ad 6, .inl (cI, 273, .inl (nF tr))), (ad 7, .inl (cI, 910, .inl (nF ro))), (ad 8, .inr (4, [.ref (ad 5), .ref (ad 9), .ref (ad 10), .ref (ad 11)])), (ad 9, .inl (cZ, 91, .inl (bF S))), (ad 10, .inl (cZ, 91, .inl (bF gr))), (ad 11, .inl (cI, 91, .inl (nF ol_7))), (ad 24, .inr (5, [.int (nI w), .ref (ad 25)])), (ad 25, .inl (cI, 13, .inl (nF ln))), (ad 26, .inr (6, [.ref (ad 0), .ref (ad 5), .ref (ad 8), .ref (ad 12), .ref (ad 16), .ref (ad 20), .ref (ad 24)]))] H := hP.sub [3, 4, 5, 6, 7, 8, 9, 10, 11, 12, 13, 14, 0, 1, 2] rfl
    have hD : va_D A [(ad 0, .inr (1, [.int (nI q), .ref (ad 1), .ref (ad 2), .ref (ad 3), .ref (ad 4)])), (ad 1, .inl (cI, 81, .inl (nF sm))), (ad 2, .inl (cI, 81, .inl (nF pr))), (ad 3, .inl (cI, 9, .inl (nF op))), (ad 4, .inl (cI, 9, .inl (nF iv))), (ad 5, .inr (3, [.ref (ad 0), .int (nI (nn q)), .ref (ad 6), .ref (ad 7)])), (ad 6, .inl (cI, 273, .inl (nF tr))), (ad 7, .inl (cI, 910, .inl (nF ro))), (ad 8, .inr (4, [.ref (ad 5), .ref (ad 9), .ref (ad 10), .ref (ad 11)])), (ad 9, .inl (cZ, 91, .inl (bF S))), (ad 10, .inl (cZ, 91, .inl (bF gr))), (ad 11, .inl (cI, 91, .inl (nF ol_7))), (ad 24, .inr (5, [.int (nI w), .ref (ad 25)])), (ad 25, .inl (cI, 13, .inl (nF ln))), (ad 26, .inr (6, [.ref (ad 0), .ref (ad 5), .ref (ad 8), .ref (ad 12), .ref (ad 16), .ref (ad 20), .ref (ad 24)]))] := hD.sub [3, 4, 5, 6, 7, 8, 9, 10, 11, 12, 13, 14, 0, 1, 2] (by decide) rfl
    refine W.eq (g2 := F0 m 109 ls [.int (nI (newq q S))]) rfl ?_
    have hh_8 : newq q S ≤ nn q := newq_le
    exact ctW_retI (v := (nI (newq q S))) (gr, ol_7) hx hb hr rfl dX6_count_109 hlocks hS hP hD trivial (by rw [couZ, if_neg (by decide), if_neg (by decide), if_neg (by decide), if_neg (by decide), if_neg (by decide), if_pos rfl])
  · refine lv_tableIn (tgt := 110) hx hb dX6_count_1 (by omega) (by omega) (by rw [sw]; rfl) (by decide) ?_
    obtain rfl : x = nI 6 := toInt_nI (by decide) sw
    refine lv_aload_n hx hb dX6_count_110 rfl (lv_at hl 0 rfl) ?_
    refine va_get (D := D) (ci := 6) (v := .ref (ad 24)) (C := RX6) (T := TX6) (N := 7) hx hb hts hiX6 hown hK hP 14 rfl rfl 6 (by decide) hf54 (fun _ h9 => h9) rfl dX6_count_111 ?_
    refine va_getN (D := D) (ci := 5) (v := .int (nI w)) (C := RX5) (T := TX5) (N := 2) hx hb hts hiX5 hown hK hP 12 rfl rfl 0 (by decide) hf142 (fun _ h9 => h9) rfl dX6_count_114 ?_
    exact ctW_retI (v := (nI w)) (gr, ol) hx hb hr rfl dX6_count_117 hlocks hS hP hD trivial (by rw [couZ, if_neg (by decide), if_neg (by decide), if_neg (by decide), if_neg (by decide), if_neg (by decide), if_neg (by decide), if_pos rfl])
  · refine lv_tableIn (tgt := 118) hx hb dX6_count_1 (by omega) (by omega) (by rw [sw]; rfl) (by decide) ?_
    obtain rfl : x = nI 7 := toInt_nI (by decide) sw
    refine lv_aload_n hx hb dX6_count_118 rfl (lv_at hl 0 rfl) ?_
    refine va_get (D := D) (ci := 6) (v := .ref (ad 24)) (C := RX6) (T := TX6) (N := 7) hx hb hts hiX6 hown hK hP 14 rfl rfl 6 (by decide) hf54 (fun _ h9 => h9) rfl dX6_count_119 ?_
    refine ctR_V (As := []) (rest := []) (r := .int (nI (sumq (fun t => pcn (ln t)) w))) ⟨hx, hb, hml, hown, hts⟩ (c_X5_marks l D cI cZ ad w ln k_w k_l) (cwV 0 hts gX6_count_X5_marks rfl rfl rfl hdV_X5_marks ⟨Nat.le_of_ble_eq_true rfl, Nat.le_of_ble_eq_true rfl⟩) hK hN hP [12, 13] rfl 12 5 rfl rfl rfl hl.1 rfl (Nat.le_of_ble_eq_true rfl) ⟨Nat.zero_le _, Nat.zero_le _⟩ dX6_count_122 ?_
    have hh_9 : sumq (fun t => pcn (ln t)) w ≤ 13 * w := sumq_le (fun t => pcn_le _) _
    exact ctW_retI (v := (nI (sumq (fun t => pcn (ln t)) w))) (gr, ol) hx hb hr rfl dX6_count_125 hlocks hS hP hD trivial (by rw [couZ, if_neg (by decide), if_neg (by decide), if_neg (by decide), if_neg (by decide), if_neg (by decide), if_neg (by decide), if_neg (by decide), if_pos rfl])
  · refine lv_tableOut (tgt := 126) hx hb dX6_count_1 sw (by decide) ?_
    refine lv_bipush (v := (-2)) hx hb dX6_count_126 (by decide) ?_
    exact ctW_retI (v := (-2)) (gr, ol) hx hb hr rfl dX6_count_128 hlocks hS hP hD trivial (by rw [couZ, if_neg (sw_ne sw (by decide)), if_neg (sw_ne sw (by decide)), if_neg (sw_ne sw (by decide)), if_neg (sw_ne sw (by decide)), if_neg (sw_ne sw (by decide)), if_neg (sw_ne sw (by decide)), if_neg (sw_ne sw (by decide)), if_neg (sw_ne sw (by decide))])

set_option maxHeartbeats 4000000 in
set_option maxRecDepth 100000 in
theorem c_X6_table (l : Launch) (D : va_G) (cI cZ : ClassId) (ad : Nat → Nat) (w : Nat) (ln : Nat → Nat) (k_w : w ≤ 13) (k_l : LNK ln) (x : Int32) : CtW (S := (Nat) × (Nat → Nat)) l yX6_table wsX6_table { frames := 1, cells := 0, slots := 0, locals := 22 } D (tyG cI cZ) [.ref (ad 26), .int x] [(ad 24, .inr (5, [.int (nI w), .ref (ad 25)])), (ad 25, .inl (cI, 13, .inl (nF ln))), (ad 26, .inr (6, [.ref (ad 0), .ref (ad 5), .ref (ad 8), .ref (ad 12), .ref (ad 16), .ref (ad 20), .ref (ad 24)]))] (fun u => (fun (w3 : Nat) (ln3 : Nat → Nat) => tabP w ln x w3 ln3) u.1 u.2) (fun u => (fun (w3 : Nat) (ln3 : Nat → Nat) => some (.int (tabZ w x))) u.1 u.2) (fun u => (fun (w3 : Nat) (ln3 : Nat → Nat) => [(ad 24, .inr (5, [.int (nI w3), .ref (ad 25)])), (ad 25, .inl (cI, 13, .inl (nF ln3))), (ad 26, .inr (6, [.ref (ad 0), .ref (ad 5), .ref (ad 8), .ref (ad 12), .ref (ad 16), .ref (ad 20), .ref (ad 24)]))]) u.1 u.2) := by
  intro sz; refine Met.ofW (cc := cX6_table) (maxL := 3) (ret := some .int) (by decide) rfl ?_
  intro p e s m args below meth c s₁ B hml hv
  obtain ⟨rfl, hsz, hP, hK, hD0, hN⟩ := hv
  have hx := B.exec
  have hb := B.bytes
  have hr := B.returns
  have hts := atoms_spec (ws := wsX6_table) B.pre
  have hown : s.vm.findClass RX6 = some m.cls := findClass_of_methodNamed B.named
  have hlocks := B.notSynchronized
  subst hsz
  have hD := hD0.self (sz := s.heap.size)
  generalize hAe : va_A [(ad 24, .inr (5, [.int (nI w), .ref (ad 25)])), (ad 25, .inl (cI, 13, .inl (nF ln))), (ad 26, .inr (6, [.ref (ad 0), .ref (ad 5), .ref (ad 8), .ref (ad 12), .ref (ad 16), .ref (ad 20), .ref (ad 24)]))] s.heap.size = A at hD ⊢
  have hA : ∀ q : Nat, s.heap.size ≤ q → A q := fun q h => by rw [← hAe]; exact Or.inr h
  have hS : va_S A s.heap s.heap [] := va_S.rf
  have hP : va_P D vwCl [(ad 24, .inr (5, [.int (nI w), .ref (ad 25)])), (ad 25, .inl (cI, 13, .inl (nF ln))), (ad 26, .inr (6, [.ref (ad 0), .ref (ad 5), .ref (ad 8), .ref (ad 12), .ref (ad 16), .ref (ad 20), .ref (ad 24)]))] s.heap := hP
  have hf54 := hts (.fieldLink RX6 54 "FinitePlanes" "table" "LFinitePlanes$Table;") (by decide +kernel)
  have hf142 := hN.use (w := .fieldLinkNest RX6 142 "FinitePlanes$Table" "w" "I" "FinitePlanes") (by decide +kernel) (A := [.ref (ad 26), .int x].toArray)
  have hiX5 : ∀ w ∈ u_ws RX5 TX5 2, w ∈ wsX6_table := by decide +kernel
  have hiX6 : ∀ w ∈ u_ws RX6 TX6 7, w ∈ wsX6_table := by decide +kernel
  have hl := lv_entry ([.ref (ad 26), .int x]) (n := 3) (Nat.le_of_ble_eq_true rfl)
  rw [lg_entry_eq]
  generalize (lg_sl ([.ref (ad 26), .int x]) ++ List.replicate (3 - (lg_sl ([.ref (ad 26), .int x])).length) Slot.unset).toArray = ls at hl ⊢
  have hl : lv_has ls 3 [(0, .ref (ad 26)), (1, .int x)] := hl
  refine lv_iload_n hx hb dX6_table_0 rfl (lv_at hl 1 rfl) ?_
  refine lv_iconst (v := nI 1) hx hb dX6_table_1 (by decide) ?_
  refine lv_icmp_lt (tgt := 11) hx hb dX6_table_2 (by decide) (fun c2 => ?_) (fun c2 => ?_)
  · refine lv_bipush (v := (-2)) hx hb dX6_table_11 (by decide) ?_
    exact ctW_retI (v := (-2)) (w, ln) hx hb hr rfl dX6_table_13 hlocks hS hP hD (by dsimp only; exact (by first | exact tabP_no (inR_lo (by decide) c2) | exact tabP_no (inR_no2 (by decide) c8))) (by first | rw [tabZ, if_pos (inR_lo (by decide) c2)] | rw [tabZ, if_pos (inR_no2 (by decide) c8)])
  · refine lv_iload_n hx hb dX6_table_5 rfl (lv_at hl 1 rfl) ?_
    refine lv_bipush (v := nI 13) hx hb dX6_table_6 (by decide) ?_
    refine lv_icmp_le (tgt := 14) hx hb dX6_table_8 (by decide) (fun c8 => ?_) (fun c8 => ?_)
    · have h9 := inR_in9 c2 c8
      obtain ⟨j, hj1, hj, rfl⟩ := inR_of (by decide) h9
      refine lv_aload_n hx hb dX6_table_14 rfl (lv_at hl 0 rfl) ?_
      refine va_get (D := D) (ci := 6) (v := .ref (ad 24)) (C := RX6) (T := TX6) (N := 7) hx hb hts hiX6 hown hK hP 2 rfl rfl 6 (by decide) hf54 (fun _ h9 => h9) rfl dX6_table_15 ?_
      refine va_getN (D := D) (ci := 5) (v := .int (nI w)) (C := RX5) (T := TX5) (N := 2) hx hb hts hiX5 hown hK hP 0 rfl rfl 0 (by decide) hf142 (fun _ h9 => h9) rfl dX6_table_18 ?_
      refine lv_istore_n (lv' := [(2, .int (nI w)), (0, .ref (ad 26)), (1, .int (nI j))]) hx hb dX6_table_21 rfl hl (by decide) rfl (fun ls hl => ?_)
      refine lv_aload_n hx hb dX6_table_22 rfl (lv_at hl 1 rfl) ?_
      refine va_get (D := D) (ci := 6) (v := .ref (ad 24)) (C := RX6) (T := TX6) (N := 7) hx hb hts hiX6 hown hK hP 2 rfl rfl 6 (by decide) hf54 (fun _ h9 => h9) rfl dX6_table_23 ?_
      refine lv_iload_n hx hb dX6_table_26 rfl (lv_at hl 2 rfl) ?_
      refine ctW_V (As := [.int (nI j)]) (rest := []) (wr := [(ad 26, .inr (6, [.ref (ad 0), .ref (ad 5), .ref (ad 8), .ref (ad 12), .ref (ad 16), .ref (ad 20), .ref (ad 24)]))]) ⟨hx, hb, hml, hown, hts⟩ (c_X5_empty l D cI cZ ad w ln j) (cwV 1 hts gX6_table_X5_empty rfl rfl rfl hdV_X5_empty ⟨Nat.le_of_ble_eq_true rfl, Nat.le_of_ble_eq_true rfl⟩) hK hN hP hD hS hA [0, 1] [2] rfl rfl rfl (by decide) (by decide) (by decide) 0 5 rfl rfl rfl hl.1 rfl (Nat.le_of_ble_eq_true rfl) ⟨Nat.zero_le _, Nat.zero_le _⟩ dX6_table_27 (fun ln_1 H locs hu27 hP hD hS => ?_)
      try dsimp only at hu27
      have hP : va_P D vwCl [(ad 24, .inr (5, [.int (nI j), .ref (ad 25)])), (ad 25, .inl (cI, 13, .inl (nF ln_1))), (ad 26, .inr (6, [.ref (ad 0), .ref (ad 5), .ref (ad 8), .ref (ad 12), .ref (ad 16), .ref (ad 20), .ref (ad 24)]))] H := hP.sub [1, 2, 0] rfl
      have hD : va_D A [(ad 24, .inr (5, [.int (nI j), .ref (ad 25)])), (ad 25, .inl (cI, 13, .inl (nF ln_1))), (ad 26, .inr (6, [.ref (ad 0), .ref (ad 5), .ref (ad 8), .ref (ad 12), .ref (ad 16), .ref (ad 20), .ref (ad 24)]))] := hD.sub [1, 2, 0] (by decide) rfl
      refine W.eq (g2 := F0 m 30 ls []) rfl ?_
      refine lv_iload_n hx hb dX6_table_30 rfl (lv_at hl 0 rfl) ?_
      exact ctW_retI (v := (nI w)) (j, ln_1) hx hb hr rfl dX6_table_31 hlocks hS hP hD (by dsimp only; exact (tabP_yes h9 (nv_nI (by omega)).symm hu27)) (by rw [tabZ, if_neg (bool_nf h9)])
    · refine lv_bipush (v := (-2)) hx hb dX6_table_11 (by decide) ?_
      exact ctW_retI (v := (-2)) (w, ln) hx hb hr rfl dX6_table_13 hlocks hS hP hD (by dsimp only; exact (by first | exact tabP_no (inR_lo (by decide) c2) | exact tabP_no (inR_no2 (by decide) c8))) (by first | rw [tabZ, if_pos (inR_lo (by decide) c2)] | rw [tabZ, if_pos (inR_no2 (by decide) c8)])

set_option maxHeartbeats 4000000 in
set_option maxRecDepth 100000 in
theorem c_X6_mark (l : Launch) (D : va_G) (cI cZ : ClassId) (ad : Nat → Nat) (w : Nat) (ln : Nat → Nat) (k_w : w ≤ 13) (k_l : LNK ln) (xa : Int32) (xb : Int32) (b : Bool) : CtW (S := (Nat → Nat)) l yX6_mark wsX6_mark { frames := 1, cells := 0, slots := 0, locals := 23 } D (tyG cI cZ) [.ref (ad 26), .int xa, .int xb, .int (nI (b).toNat)] [(ad 24, .inr (5, [.int (nI w), .ref (ad 25)])), (ad 25, .inl (cI, 13, .inl (nF ln))), (ad 26, .inr (6, [.ref (ad 0), .ref (ad 5), .ref (ad 8), .ref (ad 12), .ref (ad 16), .ref (ad 20), .ref (ad 24)]))] (fun (ln3 : Nat → Nat) => ln3 = marL w ln xa xb b) (fun (ln3 : Nat → Nat) => some (.int (marZ w ln xa xb))) (fun (ln3 : Nat → Nat) => [(ad 24, .inr (5, [.int (nI w), .ref (ad 25)])), (ad 25, .inl (cI, 13, .inl (nF ln3))), (ad 26, .inr (6, [.ref (ad 0), .ref (ad 5), .ref (ad 8), .ref (ad 12), .ref (ad 16), .ref (ad 20), .ref (ad 24)]))]) := by
  intro sz; refine Met.ofW (cc := cX6_mark) (maxL := 5) (ret := some .int) (by decide) rfl ?_
  intro p e s m args below meth c s₁ B hml hv
  obtain ⟨rfl, hsz, hP, hK, hD0, hN⟩ := hv
  have hx := B.exec
  have hb := B.bytes
  have hr := B.returns
  have hts := atoms_spec (ws := wsX6_mark) B.pre
  have hown : s.vm.findClass RX6 = some m.cls := findClass_of_methodNamed B.named
  have hlocks := B.notSynchronized
  subst hsz
  have hD := hD0.self (sz := s.heap.size)
  generalize hAe : va_A [(ad 24, .inr (5, [.int (nI w), .ref (ad 25)])), (ad 25, .inl (cI, 13, .inl (nF ln))), (ad 26, .inr (6, [.ref (ad 0), .ref (ad 5), .ref (ad 8), .ref (ad 12), .ref (ad 16), .ref (ad 20), .ref (ad 24)]))] s.heap.size = A at hD ⊢
  have hA : ∀ q : Nat, s.heap.size ≤ q → A q := fun q h => by rw [← hAe]; exact Or.inr h
  have hS : va_S A s.heap s.heap [] := va_S.rf
  have hP : va_P D vwCl [(ad 24, .inr (5, [.int (nI w), .ref (ad 25)])), (ad 25, .inl (cI, 13, .inl (nF ln))), (ad 26, .inr (6, [.ref (ad 0), .ref (ad 5), .ref (ad 8), .ref (ad 12), .ref (ad 16), .ref (ad 20), .ref (ad 24)]))] s.heap := hP
  have hf54 := hts (.fieldLink RX6 54 "FinitePlanes" "table" "LFinitePlanes$Table;") (by decide +kernel)
  have hiX6 : ∀ w ∈ u_ws RX6 TX6 7, w ∈ wsX6_mark := by decide +kernel
  have hl := lv_entry ([.ref (ad 26), .int xa, .int xb, .int (nI (b).toNat)]) (n := 5) (Nat.le_of_ble_eq_true rfl)
  rw [lg_entry_eq]
  generalize (lg_sl ([.ref (ad 26), .int xa, .int xb, .int (nI (b).toNat)]) ++ List.replicate (5 - (lg_sl ([.ref (ad 26), .int xa, .int xb, .int (nI (b).toNat)])).length) Slot.unset).toArray = ls at hl ⊢
  have hl : lv_has ls 5 [(0, .ref (ad 26)), (1, .int xa), (2, .int xb), (3, .int (nI (b).toNat))] := hl
  refine lv_aload_n hx hb dX6_mark_0 rfl (lv_at hl 0 rfl) ?_
  refine va_get (D := D) (ci := 6) (v := .ref (ad 24)) (C := RX6) (T := TX6) (N := 7) hx hb hts hiX6 hown hK hP 2 rfl rfl 6 (by decide) hf54 (fun _ h9 => h9) rfl dX6_mark_1 ?_
  refine lv_iload_n hx hb dX6_mark_4 rfl (lv_at hl 1 rfl) ?_
  refine ctR_V (As := [.int xa]) (rest := []) (r := .int (nI (inB xa w).toNat)) ⟨hx, hb, hml, hown, hts⟩ (c_X5_has l D cI cZ ad w ln k_w xa) (cwV 1 hts gX6_mark_X5_has rfl rfl rfl hdV_X5_has ⟨Nat.le_of_ble_eq_true rfl, Nat.le_of_ble_eq_true rfl⟩) hK hN hP [0, 1] rfl 0 5 rfl rfl rfl hl.1 rfl (Nat.le_of_ble_eq_true rfl) ⟨Nat.zero_le _, Nat.zero_le _⟩ dX6_mark_5 ?_
  refine nv_ifb_eq (tgt := 22) hx hb dX6_mark_8 (by decide) (fun c8 => ?_) (fun c8 => ?_)
  · refine lv_bipush (v := (-2)) hx hb dX6_mark_22 (by decide) ?_
    exact ctW_retI (v := (-2)) ln hx hb hr rfl dX6_mark_24 hlocks hS hP hD (by first | rw [marL, if_pos c8] | rw [marL, if_neg (bool_nf c8), if_pos c19]) (by first | rw [marZ, if_pos c8] | rw [marZ, if_neg (bool_nf c8), if_pos c19])
  · refine lv_aload_n hx hb dX6_mark_11 rfl (lv_at hl 0 rfl) ?_
    refine va_get (D := D) (ci := 6) (v := .ref (ad 24)) (C := RX6) (T := TX6) (N := 7) hx hb hts hiX6 hown hK hP 2 rfl rfl 6 (by decide) hf54 (fun _ h9 => h9) rfl dX6_mark_12 ?_
    refine lv_iload_n hx hb dX6_mark_15 rfl (lv_at hl 2 rfl) ?_
    refine ctR_V (As := [.int xb]) (rest := []) (r := .int (nI (inB xb w).toNat)) ⟨hx, hb, hml, hown, hts⟩ (c_X5_has l D cI cZ ad w ln k_w xb) (cwV 1 hts gX6_mark_X5_has rfl rfl rfl hdV_X5_has ⟨Nat.le_of_ble_eq_true rfl, Nat.le_of_ble_eq_true rfl⟩) hK hN hP [0, 1] rfl 0 5 rfl rfl rfl hl.1 rfl (Nat.le_of_ble_eq_true rfl) ⟨Nat.zero_le _, Nat.zero_le _⟩ dX6_mark_16 ?_
    refine nv_ifb_ne (tgt := 25) hx hb dX6_mark_19 (by decide) (fun c19 => ?_) (fun c19 => ?_)
    · have h1 := c8
      have h2 := c19
      obtain ⟨ja, hja, rfl⟩ := inB_of (by omega) c8
      obtain ⟨jb, hjb, rfl⟩ := inB_of (by omega) c19
      refine lv_aload_n hx hb dX6_mark_25 rfl (lv_at hl 0 rfl) ?_
      refine va_get (D := D) (ci := 6) (v := .ref (ad 24)) (C := RX6) (T := TX6) (N := 7) hx hb hts hiX6 hown hK hP 2 rfl rfl 6 (by decide) hf54 (fun _ h9 => h9) rfl dX6_mark_26 ?_
      refine lv_iload_n hx hb dX6_mark_29 rfl (lv_at hl 1 rfl) ?_
      refine lv_iload_n hx hb dX6_mark_30 rfl (lv_at hl 2 rfl) ?_
      refine ctR_V (As := [.int (nI ja), .int (nI jb)]) (rest := []) (r := .int (nI (tbl ln ja jb).toNat)) ⟨hx, hb, hml, hown, hts⟩ (c_X5_isMarked l D cI cZ ad w ln k_w k_l ja jb (by omega) (by omega)) (cwV 2 hts gX6_mark_X5_isMarked rfl rfl rfl hdV_X5_isMarked ⟨Nat.le_of_ble_eq_true rfl, Nat.le_of_ble_eq_true rfl⟩) hK hN hP [0, 1] rfl 0 5 rfl rfl rfl hl.1 rfl (Nat.le_of_ble_eq_true rfl) ⟨Nat.zero_le _, Nat.zero_le _⟩ dX6_mark_31 ?_
      refine ctR_S (As := [.int (nI (tbl ln ja jb).toNat)]) (rest := []) (r := .int (nI (((tbl ln ja jb)).toNat))) ⟨hx, hb, hml, hown, hts⟩ (c_X6_bit l D cI cZ (tbl ln ja jb)) (va_cwS 1 hts gX6_mark_X6_bit rfl rfl rfl hdS_X6_bit ⟨Nat.le_of_ble_eq_true rfl, Nat.le_of_ble_eq_true rfl⟩) hK hN hP [] rfl rfl hl.1 rfl (Nat.le_of_ble_eq_true rfl) ⟨Nat.zero_le _, Nat.zero_le _⟩ dX6_mark_34 ?_
      refine lv_istore (lv' := [(4, .int (nI (((tbl ln ja jb)).toNat))), (0, .ref (ad 26)), (1, .int (nI ja)), (2, .int (nI jb)), (3, .int (nI (b).toNat))]) hx hb dX6_mark_37 hl (by decide) rfl (fun ls hl => ?_)
      refine lv_aload_n hx hb dX6_mark_39 rfl (lv_at hl 1 rfl) ?_
      refine va_get (D := D) (ci := 6) (v := .ref (ad 24)) (C := RX6) (T := TX6) (N := 7) hx hb hts hiX6 hown hK hP 2 rfl rfl 6 (by decide) hf54 (fun _ h9 => h9) rfl dX6_mark_40 ?_
      refine lv_iload_n hx hb dX6_mark_43 rfl (lv_at hl 2 rfl) ?_
      refine lv_iload_n hx hb dX6_mark_44 rfl (lv_at hl 3 rfl) ?_
      refine lv_iload_n hx hb dX6_mark_45 rfl (lv_at hl 4 rfl) ?_
      refine ctW_V (As := [.int (nI ja), .int (nI jb), .int (nI (b).toNat)]) (rest := []) (wr := [(ad 26, .inr (6, [.ref (ad 0), .ref (ad 5), .ref (ad 8), .ref (ad 12), .ref (ad 16), .ref (ad 20), .ref (ad 24)]))]) ⟨hx, hb, hml, hown, hts⟩ (c_X5_setMark l D cI cZ ad w ln k_w k_l ja jb (by omega) (by omega) b) (cwV 3 hts gX6_mark_X5_setMark rfl rfl rfl hdV_X5_setMark ⟨Nat.le_of_ble_eq_true rfl, Nat.le_of_ble_eq_true rfl⟩) hK hN hP hD hS hA [0, 1] [2] rfl rfl rfl (by decide) (by decide) (by decide) 0 5 rfl rfl rfl hl.1 rfl (Nat.le_of_ble_eq_true rfl) ⟨Nat.zero_le _, Nat.zero_le _⟩ dX6_mark_46 (fun _ H locs hu46 hP hD hS => ?_)
      try dsimp only at hu46
      have hP : va_P D vwCl [(ad 24, .inr (5, [.int (nI w), .ref (ad 25)])), (ad 25, .inl (cI, 13, .inl (nF (upN ln ja (smk (ln ja) jb b))))), (ad 26, .inr (6, [.ref (ad 0), .ref (ad 5), .ref (ad 8), .ref (ad 12), .ref (ad 16), .ref (ad 20), .ref (ad 24)]))] H := hP.sub [1, 2, 0] rfl
      have hD : va_D A [(ad 24, .inr (5, [.int (nI w), .ref (ad 25)])), (ad 25, .inl (cI, 13, .inl (nF (upN ln ja (smk (ln ja) jb b))))), (ad 26, .inr (6, [.ref (ad 0), .ref (ad 5), .ref (ad 8), .ref (ad 12), .ref (ad 16), .ref (ad 20), .ref (ad 24)]))] := hD.sub [1, 2, 0] (by decide) rfl
      refine W.eq (g2 := F0 m 49 ls []) rfl ?_
      refine lv_iload hx hb dX6_mark_49 (lv_at hl 0 rfl) ?_
      exact ctW_retI (v := (nI (((tbl ln ja jb)).toNat))) (upN ln ja (smk (ln ja) jb b)) hx hb hr rfl dX6_mark_51 hlocks hS hP hD (by rw [marL, if_neg (bool_nf h1), if_neg (bool_nf h2), nv_nI (by omega), nv_nI (by omega)]) (by rw [marZ, if_neg (bool_nf h1), if_neg (bool_nf h2), nv_nI (by omega), nv_nI (by omega)])
    · refine lv_bipush (v := (-2)) hx hb dX6_mark_22 (by decide) ?_
      exact ctW_retI (v := (-2)) ln hx hb hr rfl dX6_mark_24 hlocks hS hP hD (by first | rw [marL, if_pos c8] | rw [marL, if_neg (bool_nf c8), if_pos c19]) (by first | rw [marZ, if_pos c8] | rw [marZ, if_neg (bool_nf c8), if_pos c19])

set_option maxHeartbeats 4000000 in
set_option maxRecDepth 100000 in
theorem c_X6_flaw (l : Launch) (D : va_G) (cI cZ : ClassId) (ad : Nat → Nat) (w : Nat) (ln : Nat → Nat) (k_w : w ≤ 13) (k_l : LNK ln) : CtR l yX6_flaw wsX6_flaw { frames := 4, cells := 0, slots := 0, locals := 88 } D (tyG cI cZ) [.ref (ad 26)] [(ad 24, .inr (5, [.int (nI w), .ref (ad 25)])), (ad 25, .inl (cI, 13, .inl (nF ln))), (ad 26, .inr (6, [.ref (ad 0), .ref (ad 5), .ref (ad 8), .ref (ad 12), .ref (ad 16), .ref (ad 20), .ref (ad 24)]))] (.int (nI (flaN ln w 169))) := by
  refine Met.ofW (cc := cX6_flaw) (maxL := 1) (ret := some .int) (by decide) rfl ?_
  intro p e s m args below meth c s₁ B hml hv
  obtain ⟨rfl, hP, hK, hN⟩ := hv
  have hx := B.exec
  have hb := B.bytes
  have hr := B.returns
  have hts := atoms_spec (ws := wsX6_flaw) B.pre
  have hown : s.vm.findClass RX6 = some m.cls := findClass_of_methodNamed B.named
  have hlocks := B.notSynchronized
  have hf54 := hts (.fieldLink RX6 54 "FinitePlanes" "table" "LFinitePlanes$Table;") (by decide +kernel)
  have hiX6 : ∀ w ∈ u_ws RX6 TX6 7, w ∈ wsX6_flaw := by decide +kernel
  have hl := lv_entry ([.ref (ad 26)]) (n := 1) (Nat.le_of_ble_eq_true rfl)
  rw [lg_entry_eq]
  generalize (lg_sl ([.ref (ad 26)]) ++ List.replicate (1 - (lg_sl ([.ref (ad 26)])).length) Slot.unset).toArray = ls at hl ⊢
  have hl : lv_has ls 1 [(0, .ref (ad 26))] := hl
  refine lv_aload_n hx hb dX6_flaw_0 rfl (lv_at hl 0 rfl) ?_
  refine va_get (D := D) (ci := 6) (v := .ref (ad 24)) (C := RX6) (T := TX6) (N := 7) hx hb hts hiX6 hown hK hP 2 rfl rfl 6 (by decide) hf54 (fun _ h9 => h9) rfl dX6_flaw_1 ?_
  refine ctR_V (As := []) (rest := []) (r := .int (nI (flaN ln w 169))) ⟨hx, hb, hml, hown, hts⟩ (c_X5_firstFlaw l D cI cZ ad w ln k_w k_l) (cwV 0 hts gX6_flaw_X5_firstFlaw rfl rfl rfl hdV_X5_firstFlaw ⟨Nat.le_of_ble_eq_true rfl, Nat.le_of_ble_eq_true rfl⟩) hK hN hP [0, 1] rfl 0 5 rfl rfl rfl hl.1 rfl (Nat.le_of_ble_eq_true rfl) ⟨Nat.zero_le _, Nat.zero_le _⟩ dX6_flaw_4 ?_
  exact ctR_ret (v := (nI (flaN ln w 169))) hx hb hr rfl dX6_flaw_7 hlocks rfl

set_option maxHeartbeats 4000000 in
set_option maxRecDepth 100000 in
theorem c_X6_told (l : Launch) (D : va_G) (cI cZ : ClassId) (ad : Nat → Nat) (q : Nat) (sm : Nat → Nat) (pr : Nat → Nat) (op : Nat → Nat) (iv : Nat → Nat) (hF : FOK q sm pr op iv) (tr : Nat → Nat) (ro : Nat → Nat) (hT : TOK q tr) (w : Nat) (ln : Nat → Nat) : CtW (S := (Nat) × (Nat → Nat)) l yX6_told wsX6_told { frames := 4, cells := 0, slots := 0, locals := 91 } D (tyG cI cZ) [.ref (ad 26)] [(ad 0, .inr (1, [.int (nI q), .ref (ad 1), .ref (ad 2), .ref (ad 3), .ref (ad 4)])), (ad 1, .inl (cI, 81, .inl (nF sm))), (ad 2, .inl (cI, 81, .inl (nF pr))), (ad 3, .inl (cI, 9, .inl (nF op))), (ad 4, .inl (cI, 9, .inl (nF iv))), (ad 5, .inr (3, [.ref (ad 0), .int (nI (nn q)), .ref (ad 6), .ref (ad 7)])), (ad 6, .inl (cI, 273, .inl (nF tr))), (ad 7, .inl (cI, 910, .inl (nF ro))), (ad 24, .inr (5, [.int (nI w), .ref (ad 25)])), (ad 25, .inl (cI, 13, .inl (nF ln))), (ad 26, .inr (6, [.ref (ad 0), .ref (ad 5), .ref (ad 8), .ref (ad 12), .ref (ad 16), .ref (ad 20), .ref (ad 24)]))] (fun u => (fun (w3 : Nat) (ln3 : Nat → Nat) => tolP q w ln w3 ln3) u.1 u.2) (fun u => (fun (w3 : Nat) (ln3 : Nat → Nat) => some (.int (tolZ q))) u.1 u.2) (fun u => (fun (w3 : Nat) (ln3 : Nat → Nat) => [(ad 0, .inr (1, [.int (nI q), .ref (ad 1), .ref (ad 2), .ref (ad 3), .ref (ad 4)])), (ad 1, .inl (cI, 81, .inl (nF sm))), (ad 2, .inl (cI, 81, .inl (nF pr))), (ad 3, .inl (cI, 9, .inl (nF op))), (ad 4, .inl (cI, 9, .inl (nF iv))), (ad 5, .inr (3, [.ref (ad 0), .int (nI (nn q)), .ref (ad 6), .ref (ad 7)])), (ad 6, .inl (cI, 273, .inl (nF tr))), (ad 7, .inl (cI, 910, .inl (nF ro))), (ad 24, .inr (5, [.int (nI w3), .ref (ad 25)])), (ad 25, .inl (cI, 13, .inl (nF ln3))), (ad 26, .inr (6, [.ref (ad 0), .ref (ad 5), .ref (ad 8), .ref (ad 12), .ref (ad 16), .ref (ad 20), .ref (ad 24)]))]) u.1 u.2) := by
  intro sz; refine Met.ofW (cc := cX6_told) (maxL := 1) (ret := some .int) (by decide) rfl ?_
  intro p e s m args below meth c s₁ B hml hv
  obtain ⟨rfl, hsz, hP, hK, hD0, hN⟩ := hv
  have hx := B.exec
  have hb := B.bytes
  have hr := B.returns
  have hts := atoms_spec (ws := wsX6_told) B.pre
  have hown : s.vm.findClass RX6 = some m.cls := findClass_of_methodNamed B.named
  have hlocks := B.notSynchronized
  subst hsz
  have hD := hD0.self (sz := s.heap.size)
  generalize hAe : va_A [(ad 0, .inr (1, [.int (nI q), .ref (ad 1), .ref (ad 2), .ref (ad 3), .ref (ad 4)])), (ad 1, .inl (cI, 81, .inl (nF sm))), (ad 2, .inl (cI, 81, .inl (nF pr))), (ad 3, .inl (cI, 9, .inl (nF op))), (ad 4, .inl (cI, 9, .inl (nF iv))), (ad 5, .inr (3, [.ref (ad 0), .int (nI (nn q)), .ref (ad 6), .ref (ad 7)])), (ad 6, .inl (cI, 273, .inl (nF tr))), (ad 7, .inl (cI, 910, .inl (nF ro))), (ad 24, .inr (5, [.int (nI w), .ref (ad 25)])), (ad 25, .inl (cI, 13, .inl (nF ln))), (ad 26, .inr (6, [.ref (ad 0), .ref (ad 5), .ref (ad 8), .ref (ad 12), .ref (ad 16), .ref (ad 20), .ref (ad 24)]))] s.heap.size = A at hD ⊢
  have hA : ∀ q : Nat, s.heap.size ≤ q → A q := fun q h => by rw [← hAe]; exact Or.inr h
  have hS : va_S A s.heap s.heap [] := va_S.rf
  have hP : va_P D vwCl [(ad 0, .inr (1, [.int (nI q), .ref (ad 1), .ref (ad 2), .ref (ad 3), .ref (ad 4)])), (ad 1, .inl (cI, 81, .inl (nF sm))), (ad 2, .inl (cI, 81, .inl (nF pr))), (ad 3, .inl (cI, 9, .inl (nF op))), (ad 4, .inl (cI, 9, .inl (nF iv))), (ad 5, .inr (3, [.ref (ad 0), .int (nI (nn q)), .ref (ad 6), .ref (ad 7)])), (ad 6, .inl (cI, 273, .inl (nF tr))), (ad 7, .inl (cI, 910, .inl (nF ro))), (ad 24, .inr (5, [.int (nI w), .ref (ad 25)])), (ad 25, .inl (cI, 13, .inl (nF ln))), (ad 26, .inr (6, [.ref (ad 0), .ref (ad 5), .ref (ad 8), .ref (ad 12), .ref (ad 16), .ref (ad 20), .ref (ad 24)]))] s.heap := hP
  have hf10 := hts (.fieldLink RX6 10 "FinitePlanes" "field" "LFinitePlanes$Field;") (by decide +kernel)
  have hf21 := hts (.fieldLink RX6 21 "FinitePlanes" "plane" "LFinitePlanes$Plane;") (by decide +kernel)
  have hf54 := hts (.fieldLink RX6 54 "FinitePlanes" "table" "LFinitePlanes$Table;") (by decide +kernel)
  have hf62 := hN.use (w := .fieldLinkNest RX6 62 "FinitePlanes$Field" "q" "I" "FinitePlanes") (by decide +kernel) (A := [.ref (ad 26)].toArray)
  have hf142 := hN.use (w := .fieldLinkNest RX6 142 "FinitePlanes$Table" "w" "I" "FinitePlanes") (by decide +kernel) (A := [.ref (ad 26)].toArray)
  have hiX1 : ∀ w ∈ u_ws RX1 TX1 5, w ∈ wsX6_told := by decide +kernel
  have hiX5 : ∀ w ∈ u_ws RX5 TX5 2, w ∈ wsX6_told := by decide +kernel
  have hiX6 : ∀ w ∈ u_ws RX6 TX6 7, w ∈ wsX6_told := by decide +kernel
  have hl := lv_entry ([.ref (ad 26)]) (n := 1) (Nat.le_of_ble_eq_true rfl)
  rw [lg_entry_eq]
  generalize (lg_sl ([.ref (ad 26)]) ++ List.replicate (1 - (lg_sl ([.ref (ad 26)])).length) Slot.unset).toArray = ls at hl ⊢
  have hl : lv_has ls 1 [(0, .ref (ad 26))] := hl
  have hq2 := qs_le hF.1
  have hn2 := nn_le hF.1
  refine lv_aload_n hx hb dX6_told_0 rfl (lv_at hl 0 rfl) ?_
  refine va_get (D := D) (ci := 6) (v := .ref (ad 0)) (C := RX6) (T := TX6) (N := 7) hx hb hts hiX6 hown hK hP 10 rfl rfl 0 (by decide) hf10 (fun _ h9 => h9) rfl dX6_told_1 ?_
  refine va_getN (D := D) (ci := 1) (v := .int (nI q)) (C := RX1) (T := TX1) (N := 5) hx hb hts hiX1 hown hK hP 0 rfl rfl 0 (by decide) hf62 (fun _ h9 => h9) rfl dX6_told_4 ?_
  refine lv_iconst (v := nI 3) hx hb dX6_told_7 (by decide) ?_
  refine nv_icmp_le (tgt := 14) hx hb (by omega) (by decide) dX6_told_8 (by decide) (fun c8 => ?_) (fun c8 => ?_)
  · refine lv_aload_n hx hb dX6_told_14 rfl (lv_at hl 0 rfl) ?_
    refine va_get (D := D) (ci := 6) (v := .ref (ad 24)) (C := RX6) (T := TX6) (N := 7) hx hb hts hiX6 hown hK hP 10 rfl rfl 6 (by decide) hf54 (fun _ h9 => h9) rfl dX6_told_15 ?_
    refine lv_aload_n hx hb dX6_told_18 rfl (lv_at hl 0 rfl) ?_
    refine va_get (D := D) (ci := 6) (v := .ref (ad 5)) (C := RX6) (T := TX6) (N := 7) hx hb hts hiX6 hown hK hP 10 rfl rfl 1 (by decide) hf21 (fun _ h9 => h9) rfl dX6_told_19 ?_
    refine ctW_V (As := [.ref (ad 5)]) (rest := []) (wr := [(ad 26, .inr (6, [.ref (ad 0), .ref (ad 5), .ref (ad 8), .ref (ad 12), .ref (ad 16), .ref (ad 20), .ref (ad 24)]))]) ⟨hx, hb, hml, hown, hts⟩ (c_X5_takePlane l D cI cZ ad q sm pr op iv hF tr ro hT w ln c8) (cwV 1 hts gX6_told_X5_takePlane rfl rfl rfl hdV_X5_takePlane ⟨Nat.le_of_ble_eq_true rfl, Nat.le_of_ble_eq_true rfl⟩) hK hN hP hD hS hA [0, 1, 2, 3, 4, 5, 6, 7, 8, 9] [10] rfl rfl rfl (by decide) (by decide) (by decide) 8 5 rfl rfl rfl hl.1 rfl (Nat.le_of_ble_eq_true rfl) ⟨Nat.zero_le _, Nat.zero_le _⟩ dX6_told_22 (fun ln_1 H locs hu22 hP hD hS => ?_)
    try dsimp only at hu22
    have hP : va_P D vwCl [(ad 0, .inr (1, [.int (nI q), .ref (ad 1), .ref (ad 2), .ref (ad 3), .ref (ad 4)])), (ad 1, .inl (cI, 81, .inl (nF sm))), (ad 2, .inl (cI, 81, .inl (nF pr))), (ad 3, .inl (cI, 9, .inl (nF op))), (ad 4, .inl (cI, 9, .inl (nF iv))), (ad 5, .inr (3, [.ref (ad 0), .int (nI (nn q)), .ref (ad 6), .ref (ad 7)])), (ad 6, .inl (cI, 273, .inl (nF tr))), (ad 7, .inl (cI, 910, .inl (nF ro))), (ad 24, .inr (5, [.int (nI (nn q)), .ref (ad 25)])), (ad 25, .inl (cI, 13, .inl (nF ln_1))), (ad 26, .inr (6, [.ref (ad 0), .ref (ad 5), .ref (ad 8), .ref (ad 12), .ref (ad 16), .ref (ad 20), .ref (ad 24)]))] H := hP.sub [1, 2, 3, 4, 5, 6, 7, 8, 9, 10, 0] rfl
    have hD : va_D A [(ad 0, .inr (1, [.int (nI q), .ref (ad 1), .ref (ad 2), .ref (ad 3), .ref (ad 4)])), (ad 1, .inl (cI, 81, .inl (nF sm))), (ad 2, .inl (cI, 81, .inl (nF pr))), (ad 3, .inl (cI, 9, .inl (nF op))), (ad 4, .inl (cI, 9, .inl (nF iv))), (ad 5, .inr (3, [.ref (ad 0), .int (nI (nn q)), .ref (ad 6), .ref (ad 7)])), (ad 6, .inl (cI, 273, .inl (nF tr))), (ad 7, .inl (cI, 910, .inl (nF ro))), (ad 24, .inr (5, [.int (nI (nn q)), .ref (ad 25)])), (ad 25, .inl (cI, 13, .inl (nF ln_1))), (ad 26, .inr (6, [.ref (ad 0), .ref (ad 5), .ref (ad 8), .ref (ad 12), .ref (ad 16), .ref (ad 20), .ref (ad 24)]))] := hD.sub [1, 2, 3, 4, 5, 6, 7, 8, 9, 10, 0] (by decide) rfl
    refine W.eq (g2 := F0 m 25 ls []) rfl ?_
    refine lv_aload_n hx hb dX6_told_25 rfl (lv_at hl 0 rfl) ?_
    refine va_get (D := D) (ci := 6) (v := .ref (ad 24)) (C := RX6) (T := TX6) (N := 7) hx hb hts hiX6 hown hK hP 10 rfl rfl 6 (by decide) hf54 (fun _ h9 => h9) rfl dX6_told_26 ?_
    refine va_getN (D := D) (ci := 5) (v := .int (nI (nn q))) (C := RX5) (T := TX5) (N := 2) hx hb hts hiX5 hown hK hP 8 rfl rfl 0 (by decide) hf142 (fun _ h9 => h9) rfl dX6_told_29 ?_
    exact ctW_retI (v := (nI (nn q))) (nn q, ln_1) hx hb hr rfl dX6_told_32 hlocks hS hP hD (by dsimp only; exact (tolP_yes c8 hu22)) (by rw [tolZ, if_neg (by omega)])
  · refine lv_bipush (v := (-2)) hx hb dX6_told_11 (by decide) ?_
    exact ctW_retI (v := (-2)) (w, ln) hx hb hr rfl dX6_told_13 hlocks hS hP hD (by dsimp only; exact (tolP_no c8)) (by rw [tolZ, if_pos c8])

set_option maxHeartbeats 4000000 in
set_option maxRecDepth 100000 in
theorem c_X6_determinant (l : Launch) (D : va_G) (cI cZ : ClassId) (ad : Nat → Nat) (q : Nat) (sm : Nat → Nat) (pr : Nat → Nat) (op : Nat → Nat) (iv : Nat → Nat) (hF : FOK q sm pr op iv) (tr : Nat → Nat) (ro : Nat → Nat) (hT : TOK q tr) (mm : Nat → Nat) (me : Nat → Nat) (rc : Nat → Bool) (k_m : MPK q mm) : CtR l yX6_determinant wsX6_determinant { frames := 4, cells := 0, slots := 0, locals := 94 } D (tyG cI cZ) [.ref (ad 26)] [(ad 0, .inr (1, [.int (nI q), .ref (ad 1), .ref (ad 2), .ref (ad 3), .ref (ad 4)])), (ad 1, .inl (cI, 81, .inl (nF sm))), (ad 2, .inl (cI, 81, .inl (nF pr))), (ad 3, .inl (cI, 9, .inl (nF op))), (ad 4, .inl (cI, 9, .inl (nF iv))), (ad 5, .inr (3, [.ref (ad 0), .int (nI (nn q)), .ref (ad 6), .ref (ad 7)])), (ad 6, .inl (cI, 273, .inl (nF tr))), (ad 7, .inl (cI, 910, .inl (nF ro))), (ad 16, .inr (2, [.ref (ad 5), .ref (ad 0), .ref (ad 17), .ref (ad 18), .ref (ad 19)])), (ad 17, .inl (cI, 9, .inl (nF mm))), (ad 18, .inl (cI, 9, .inl (nF me))), (ad 19, .inl (cZ, 91, .inl (bF rc))), (ad 26, .inr (6, [.ref (ad 0), .ref (ad 5), .ref (ad 8), .ref (ad 12), .ref (ad 16), .ref (ad 20), .ref (ad 24)]))] (.int (nI (detq q mm))) := by
  refine Met.ofW (cc := cX6_determinant) (maxL := 1) (ret := some .int) (by decide) rfl ?_
  intro p e s m args below meth c s₁ B hml hv
  obtain ⟨rfl, hP, hK, hN⟩ := hv
  have hx := B.exec
  have hb := B.bytes
  have hr := B.returns
  have hts := atoms_spec (ws := wsX6_determinant) B.pre
  have hown : s.vm.findClass RX6 = some m.cls := findClass_of_methodNamed B.named
  have hlocks := B.notSynchronized
  have hf44 := hts (.fieldLink RX6 44 "FinitePlanes" "map" "LFinitePlanes$Mapping;") (by decide +kernel)
  have hiX6 : ∀ w ∈ u_ws RX6 TX6 7, w ∈ wsX6_determinant := by decide +kernel
  have hl := lv_entry ([.ref (ad 26)]) (n := 1) (Nat.le_of_ble_eq_true rfl)
  rw [lg_entry_eq]
  generalize (lg_sl ([.ref (ad 26)]) ++ List.replicate (1 - (lg_sl ([.ref (ad 26)])).length) Slot.unset).toArray = ls at hl ⊢
  have hl : lv_has ls 1 [(0, .ref (ad 26))] := hl
  have hq2 := qs_le hF.1
  have hn2 := nn_le hF.1
  refine lv_aload_n hx hb dX6_determinant_0 rfl (lv_at hl 0 rfl) ?_
  refine va_get (D := D) (ci := 6) (v := .ref (ad 16)) (C := RX6) (T := TX6) (N := 7) hx hb hts hiX6 hown hK hP 12 rfl rfl 4 (by decide) hf44 (fun _ h9 => h9) rfl dX6_determinant_1 ?_
  refine ctR_V (As := []) (rest := []) (r := .int (nI (detq q mm))) ⟨hx, hb, hml, hown, hts⟩ (c_X2_det l D cI cZ ad q sm pr op iv hF tr ro hT (fun k => ad (16 + k)) mm me rc k_m) (cwV 0 hts gX6_determinant_X2_det rfl rfl rfl hdV_X2_det ⟨Nat.le_of_ble_eq_true rfl, Nat.le_of_ble_eq_true rfl⟩) hK hN hP [0, 1, 2, 3, 4, 5, 6, 7, 8, 9, 10, 11] rfl 8 2 rfl rfl rfl hl.1 rfl (Nat.le_of_ble_eq_true rfl) ⟨Nat.zero_le _, Nat.zero_le _⟩ dX6_determinant_4 ?_
  have hh_1 : detq q mm < q := detq_lt hF.1 k_m
  exact ctR_ret (v := (nI (detq q mm))) hx hb hr rfl dX6_determinant_7 hlocks rfl

set_option maxHeartbeats 4000000 in
set_option maxRecDepth 100000 in
theorem c_X6_fixed (l : Launch) (D : va_G) (cI cZ : ClassId) (ad : Nat → Nat) (q : Nat) (sm : Nat → Nat) (pr : Nat → Nat) (op : Nat → Nat) (iv : Nat → Nat) (hF : FOK q sm pr op iv) (tr : Nat → Nat) (ro : Nat → Nat) (hT : TOK q tr) (mm : Nat → Nat) (me : Nat → Nat) (rc : Nat → Bool) (k_m : MPK q mm) : CtR l yX6_fixed wsX6_fixed { frames := 4, cells := 0, slots := 0, locals := 89 } D (tyG cI cZ) [.ref (ad 26)] [(ad 0, .inr (1, [.int (nI q), .ref (ad 1), .ref (ad 2), .ref (ad 3), .ref (ad 4)])), (ad 1, .inl (cI, 81, .inl (nF sm))), (ad 2, .inl (cI, 81, .inl (nF pr))), (ad 3, .inl (cI, 9, .inl (nF op))), (ad 4, .inl (cI, 9, .inl (nF iv))), (ad 5, .inr (3, [.ref (ad 0), .int (nI (nn q)), .ref (ad 6), .ref (ad 7)])), (ad 6, .inl (cI, 273, .inl (nF tr))), (ad 7, .inl (cI, 910, .inl (nF ro))), (ad 16, .inr (2, [.ref (ad 5), .ref (ad 0), .ref (ad 17), .ref (ad 18), .ref (ad 19)])), (ad 17, .inl (cI, 9, .inl (nF mm))), (ad 18, .inl (cI, 9, .inl (nF me))), (ad 19, .inl (cZ, 91, .inl (bF rc))), (ad 26, .inr (6, [.ref (ad 0), .ref (ad 5), .ref (ad 8), .ref (ad 12), .ref (ad 16), .ref (ad 20), .ref (ad 24)]))] (.int (nI (fixq q mm))) := by
  refine Met.ofW (cc := cX6_fixed) (maxL := 1) (ret := some .int) (by decide) rfl ?_
  intro p e s m args below meth c s₁ B hml hv
  obtain ⟨rfl, hP, hK, hN⟩ := hv
  have hx := B.exec
  have hb := B.bytes
  have hr := B.returns
  have hts := atoms_spec (ws := wsX6_fixed) B.pre
  have hown : s.vm.findClass RX6 = some m.cls := findClass_of_methodNamed B.named
  have hlocks := B.notSynchronized
  have hf44 := hts (.fieldLink RX6 44 "FinitePlanes" "map" "LFinitePlanes$Mapping;") (by decide +kernel)
  have hiX6 : ∀ w ∈ u_ws RX6 TX6 7, w ∈ wsX6_fixed := by decide +kernel
  have hl := lv_entry ([.ref (ad 26)]) (n := 1) (Nat.le_of_ble_eq_true rfl)
  rw [lg_entry_eq]
  generalize (lg_sl ([.ref (ad 26)]) ++ List.replicate (1 - (lg_sl ([.ref (ad 26)])).length) Slot.unset).toArray = ls at hl ⊢
  have hl : lv_has ls 1 [(0, .ref (ad 26))] := hl
  have hq2 := qs_le hF.1
  have hn2 := nn_le hF.1
  refine lv_aload_n hx hb dX6_fixed_0 rfl (lv_at hl 0 rfl) ?_
  refine va_get (D := D) (ci := 6) (v := .ref (ad 16)) (C := RX6) (T := TX6) (N := 7) hx hb hts hiX6 hown hK hP 12 rfl rfl 4 (by decide) hf44 (fun _ h9 => h9) rfl dX6_fixed_1 ?_
  refine ctR_V (As := []) (rest := []) (r := .int (nI (fixq q mm))) ⟨hx, hb, hml, hown, hts⟩ (c_X2_fixedPoints l D cI cZ ad q sm pr op iv hF tr ro hT (fun k => ad (16 + k)) mm me rc k_m) (cwV 0 hts gX6_fixed_X2_fixedPoints rfl rfl rfl hdV_X2_fixedPoints ⟨Nat.le_of_ble_eq_true rfl, Nat.le_of_ble_eq_true rfl⟩) hK hN hP [0, 1, 2, 3, 4, 5, 6, 7, 8, 9, 10, 11] rfl 8 2 rfl rfl rfl hl.1 rfl (Nat.le_of_ble_eq_true rfl) ⟨Nat.zero_le _, Nat.zero_le _⟩ dX6_fixed_4 ?_
  have hh_1 : fixq q mm ≤ nn q := cnt_le _ _
  exact ctR_ret (v := (nI (fixq q mm))) hx hb hr rfl dX6_fixed_7 hlocks rfl

set_option maxHeartbeats 4000000 in
set_option maxRecDepth 100000 in
theorem c_X6_image (l : Launch) (D : va_G) (cI cZ : ClassId) (ad : Nat → Nat) (q : Nat) (sm : Nat → Nat) (pr : Nat → Nat) (op : Nat → Nat) (iv : Nat → Nat) (hF : FOK q sm pr op iv) (tr : Nat → Nat) (ro : Nat → Nat) (hT : TOK q tr) (mm : Nat → Nat) (me : Nat → Nat) (rc : Nat → Bool) (k_m : MPK q mm) (x : Int32) : CtR l yX6_image wsX6_image { frames := 3, cells := 0, slots := 0, locals := 67 } D (tyG cI cZ) [.ref (ad 26), .int x] [(ad 0, .inr (1, [.int (nI q), .ref (ad 1), .ref (ad 2), .ref (ad 3), .ref (ad 4)])), (ad 1, .inl (cI, 81, .inl (nF sm))), (ad 2, .inl (cI, 81, .inl (nF pr))), (ad 3, .inl (cI, 9, .inl (nF op))), (ad 4, .inl (cI, 9, .inl (nF iv))), (ad 5, .inr (3, [.ref (ad 0), .int (nI (nn q)), .ref (ad 6), .ref (ad 7)])), (ad 6, .inl (cI, 273, .inl (nF tr))), (ad 7, .inl (cI, 910, .inl (nF ro))), (ad 16, .inr (2, [.ref (ad 5), .ref (ad 0), .ref (ad 17), .ref (ad 18), .ref (ad 19)])), (ad 17, .inl (cI, 9, .inl (nF mm))), (ad 18, .inl (cI, 9, .inl (nF me))), (ad 19, .inl (cZ, 91, .inl (bF rc))), (ad 26, .inr (6, [.ref (ad 0), .ref (ad 5), .ref (ad 8), .ref (ad 12), .ref (ad 16), .ref (ad 20), .ref (ad 24)]))] (.int (imaZ q mm x)) := by
  refine Met.ofW (cc := cX6_image) (maxL := 2) (ret := some .int) (by decide) rfl ?_
  intro p e s m args below meth c s₁ B hml hv
  obtain ⟨rfl, hP, hK, hN⟩ := hv
  have hx := B.exec
  have hb := B.bytes
  have hr := B.returns
  have hts := atoms_spec (ws := wsX6_image) B.pre
  have hown : s.vm.findClass RX6 = some m.cls := findClass_of_methodNamed B.named
  have hlocks := B.notSynchronized
  have hf21 := hts (.fieldLink RX6 21 "FinitePlanes" "plane" "LFinitePlanes$Plane;") (by decide +kernel)
  have hf44 := hts (.fieldLink RX6 44 "FinitePlanes" "map" "LFinitePlanes$Mapping;") (by decide +kernel)
  have hiX6 : ∀ w ∈ u_ws RX6 TX6 7, w ∈ wsX6_image := by decide +kernel
  have hl := lv_entry ([.ref (ad 26), .int x]) (n := 2) (Nat.le_of_ble_eq_true rfl)
  rw [lg_entry_eq]
  generalize (lg_sl ([.ref (ad 26), .int x]) ++ List.replicate (2 - (lg_sl ([.ref (ad 26), .int x])).length) Slot.unset).toArray = ls at hl ⊢
  have hl : lv_has ls 2 [(0, .ref (ad 26)), (1, .int x)] := hl
  have hq2 := qs_le hF.1
  have hn2 := nn_le hF.1
  refine lv_aload_n hx hb dX6_image_0 rfl (lv_at hl 0 rfl) ?_
  refine va_get (D := D) (ci := 6) (v := .ref (ad 5)) (C := RX6) (T := TX6) (N := 7) hx hb hts hiX6 hown hK hP 12 rfl rfl 1 (by decide) hf21 (fun _ h9 => h9) rfl dX6_image_1 ?_
  refine lv_iload_n hx hb dX6_image_4 rfl (lv_at hl 1 rfl) ?_
  refine ctR_V (As := [.int x]) (rest := []) (r := .int (nI (inB x (nn q)).toNat)) ⟨hx, hb, hml, hown, hts⟩ (c_X3_has l D cI cZ ad q sm pr op iv hF tr ro hT x) (cwV 1 hts gX6_image_X3_has rfl rfl rfl hdV_X3_has ⟨Nat.le_of_ble_eq_true rfl, Nat.le_of_ble_eq_true rfl⟩) hK hN hP [0, 1, 2, 3, 4, 5, 6, 7] rfl 5 3 rfl rfl rfl hl.1 rfl (Nat.le_of_ble_eq_true rfl) ⟨Nat.zero_le _, Nat.zero_le _⟩ dX6_image_5 ?_
  refine nv_ifb_eq (tgt := 22) hx hb dX6_image_8 (by decide) (fun c8 => ?_) (fun c8 => ?_)
  · refine lv_bipush (v := (-2)) hx hb dX6_image_22 (by decide) ?_
    exact ctR_ret (v := (-2)) hx hb hr rfl dX6_image_24 hlocks (by rw [imaZ, if_pos c8])
  · have h1 := c8
    obtain ⟨i, hi, rfl⟩ := inB_of (by omega) c8
    refine lv_aload_n hx hb dX6_image_11 rfl (lv_at hl 0 rfl) ?_
    refine va_get (D := D) (ci := 6) (v := .ref (ad 16)) (C := RX6) (T := TX6) (N := 7) hx hb hts hiX6 hown hK hP 12 rfl rfl 4 (by decide) hf44 (fun _ h9 => h9) rfl dX6_image_12 ?_
    refine lv_iload_n hx hb dX6_image_15 rfl (lv_at hl 1 rfl) ?_
    refine ctR_V (As := [.int (nI i)]) (rest := []) (r := .int (imgZ q mm i)) ⟨hx, hb, hml, hown, hts⟩ (c_X2_goesTo l D cI cZ ad q sm pr op iv hF tr ro hT (fun k => ad (16 + k)) mm me rc k_m i (by omega)) (cwV 1 hts gX6_image_X2_goesTo rfl rfl rfl hdV_X2_goesTo ⟨Nat.le_of_ble_eq_true rfl, Nat.le_of_ble_eq_true rfl⟩) hK hN hP [0, 1, 2, 3, 4, 5, 6, 7, 8, 9, 10, 11] rfl 8 2 rfl rfl rfl hl.1 rfl (Nat.le_of_ble_eq_true rfl) ⟨Nat.zero_le _, Nat.zero_le _⟩ dX6_image_16 ?_
    refine lv_goto (tgt := 24) hx hb dX6_image_19 (by decide) ?_
    exact ctR_ret (v := (imgZ q mm i)) hx hb hr rfl dX6_image_24 hlocks (by rw [imaZ, if_neg (bool_nf h1), nv_nI (by omega)])

set_option maxHeartbeats 4000000 in
set_option maxRecDepth 100000 in
theorem c_X6_entry (l : Launch) (D : va_G) (cI cZ : ClassId) (ad : Nat → Nat) (q : Nat) (sm : Nat → Nat) (pr : Nat → Nat) (op : Nat → Nat) (iv : Nat → Nat) (hF : FOK q sm pr op iv) (tr : Nat → Nat) (ro : Nat → Nat) (hT : TOK q tr) (mm : Nat → Nat) (me : Nat → Nat) (rc : Nat → Bool) (k_m : MPK q mm) (k : Int32) (x : Int32) : CtW (S := (Nat → Nat)) l yX6_entry wsX6_entry { frames := 1, cells := 0, slots := 0, locals := 21 } D (tyG cI cZ) [.ref (ad 26), .int k, .int x] [(ad 0, .inr (1, [.int (nI q), .ref (ad 1), .ref (ad 2), .ref (ad 3), .ref (ad 4)])), (ad 1, .inl (cI, 81, .inl (nF sm))), (ad 2, .inl (cI, 81, .inl (nF pr))), (ad 3, .inl (cI, 9, .inl (nF op))), (ad 4, .inl (cI, 9, .inl (nF iv))), (ad 5, .inr (3, [.ref (ad 0), .int (nI (nn q)), .ref (ad 6), .ref (ad 7)])), (ad 6, .inl (cI, 273, .inl (nF tr))), (ad 7, .inl (cI, 910, .inl (nF ro))), (ad 16, .inr (2, [.ref (ad 5), .ref (ad 0), .ref (ad 17), .ref (ad 18), .ref (ad 19)])), (ad 17, .inl (cI, 9, .inl (nF mm))), (ad 18, .inl (cI, 9, .inl (nF me))), (ad 19, .inl (cZ, 91, .inl (bF rc))), (ad 26, .inr (6, [.ref (ad 0), .ref (ad 5), .ref (ad 8), .ref (ad 12), .ref (ad 16), .ref (ad 20), .ref (ad 24)]))] (fun (mm3 : Nat → Nat) => mm3 = entM q mm k x) (fun (mm3 : Nat → Nat) => some (.int (entZ q mm k x))) (fun (mm3 : Nat → Nat) => [(ad 0, .inr (1, [.int (nI q), .ref (ad 1), .ref (ad 2), .ref (ad 3), .ref (ad 4)])), (ad 1, .inl (cI, 81, .inl (nF sm))), (ad 2, .inl (cI, 81, .inl (nF pr))), (ad 3, .inl (cI, 9, .inl (nF op))), (ad 4, .inl (cI, 9, .inl (nF iv))), (ad 5, .inr (3, [.ref (ad 0), .int (nI (nn q)), .ref (ad 6), .ref (ad 7)])), (ad 6, .inl (cI, 273, .inl (nF tr))), (ad 7, .inl (cI, 910, .inl (nF ro))), (ad 16, .inr (2, [.ref (ad 5), .ref (ad 0), .ref (ad 17), .ref (ad 18), .ref (ad 19)])), (ad 17, .inl (cI, 9, .inl (nF mm3))), (ad 18, .inl (cI, 9, .inl (nF me))), (ad 19, .inl (cZ, 91, .inl (bF rc))), (ad 26, .inr (6, [.ref (ad 0), .ref (ad 5), .ref (ad 8), .ref (ad 12), .ref (ad 16), .ref (ad 20), .ref (ad 24)]))]) := by
  intro sz; refine Met.ofW (cc := cX6_entry) (maxL := 4) (ret := some .int) (by decide) rfl ?_
  intro p e s m args below meth c s₁ B hml hv
  obtain ⟨rfl, hsz, hP, hK, hD0, hN⟩ := hv
  have hx := B.exec
  have hb := B.bytes
  have hr := B.returns
  have hts := atoms_spec (ws := wsX6_entry) B.pre
  have hown : s.vm.findClass RX6 = some m.cls := findClass_of_methodNamed B.named
  have hlocks := B.notSynchronized
  subst hsz
  have hD := hD0.self (sz := s.heap.size)
  generalize hAe : va_A [(ad 0, .inr (1, [.int (nI q), .ref (ad 1), .ref (ad 2), .ref (ad 3), .ref (ad 4)])), (ad 1, .inl (cI, 81, .inl (nF sm))), (ad 2, .inl (cI, 81, .inl (nF pr))), (ad 3, .inl (cI, 9, .inl (nF op))), (ad 4, .inl (cI, 9, .inl (nF iv))), (ad 5, .inr (3, [.ref (ad 0), .int (nI (nn q)), .ref (ad 6), .ref (ad 7)])), (ad 6, .inl (cI, 273, .inl (nF tr))), (ad 7, .inl (cI, 910, .inl (nF ro))), (ad 16, .inr (2, [.ref (ad 5), .ref (ad 0), .ref (ad 17), .ref (ad 18), .ref (ad 19)])), (ad 17, .inl (cI, 9, .inl (nF mm))), (ad 18, .inl (cI, 9, .inl (nF me))), (ad 19, .inl (cZ, 91, .inl (bF rc))), (ad 26, .inr (6, [.ref (ad 0), .ref (ad 5), .ref (ad 8), .ref (ad 12), .ref (ad 16), .ref (ad 20), .ref (ad 24)]))] s.heap.size = A at hD ⊢
  have hA : ∀ q : Nat, s.heap.size ≤ q → A q := fun q h => by rw [← hAe]; exact Or.inr h
  have hS : va_S A s.heap s.heap [] := va_S.rf
  have hP : va_P D vwCl [(ad 0, .inr (1, [.int (nI q), .ref (ad 1), .ref (ad 2), .ref (ad 3), .ref (ad 4)])), (ad 1, .inl (cI, 81, .inl (nF sm))), (ad 2, .inl (cI, 81, .inl (nF pr))), (ad 3, .inl (cI, 9, .inl (nF op))), (ad 4, .inl (cI, 9, .inl (nF iv))), (ad 5, .inr (3, [.ref (ad 0), .int (nI (nn q)), .ref (ad 6), .ref (ad 7)])), (ad 6, .inl (cI, 273, .inl (nF tr))), (ad 7, .inl (cI, 910, .inl (nF ro))), (ad 16, .inr (2, [.ref (ad 5), .ref (ad 0), .ref (ad 17), .ref (ad 18), .ref (ad 19)])), (ad 17, .inl (cI, 9, .inl (nF mm))), (ad 18, .inl (cI, 9, .inl (nF me))), (ad 19, .inl (cZ, 91, .inl (bF rc))), (ad 26, .inr (6, [.ref (ad 0), .ref (ad 5), .ref (ad 8), .ref (ad 12), .ref (ad 16), .ref (ad 20), .ref (ad 24)]))] s.heap := hP
  have hf10 := hts (.fieldLink RX6 10 "FinitePlanes" "field" "LFinitePlanes$Field;") (by decide +kernel)
  have hf44 := hts (.fieldLink RX6 44 "FinitePlanes" "map" "LFinitePlanes$Mapping;") (by decide +kernel)
  have hf180 := hN.use (w := .fieldLinkNest RX6 180 "FinitePlanes$Mapping" "m" "[I" "FinitePlanes") (by decide +kernel) (A := [.ref (ad 26), .int k, .int x].toArray)
  have hiX2 : ∀ w ∈ u_ws RX2 TX2 5, w ∈ wsX6_entry := by decide +kernel
  have hiX6 : ∀ w ∈ u_ws RX6 TX6 7, w ∈ wsX6_entry := by decide +kernel
  have hl := lv_entry ([.ref (ad 26), .int k, .int x]) (n := 4) (Nat.le_of_ble_eq_true rfl)
  rw [lg_entry_eq]
  generalize (lg_sl ([.ref (ad 26), .int k, .int x]) ++ List.replicate (4 - (lg_sl ([.ref (ad 26), .int k, .int x])).length) Slot.unset).toArray = ls at hl ⊢
  have hl : lv_has ls 4 [(0, .ref (ad 26)), (1, .int k), (2, .int x)] := hl
  have hq2 := qs_le hF.1
  have hn2 := nn_le hF.1
  refine lv_iload_n hx hb dX6_entry_0 rfl (lv_at hl 1 rfl) ?_
  refine lv_if_lt (tgt := 21) hx hb dX6_entry_1 (by decide) (fun c1 => ?_) (fun c1 => ?_)
  · refine lv_bipush (v := (-2)) hx hb dX6_entry_21 (by decide) ?_
    exact ctW_retI (v := (-2)) mm hx hb hr rfl dX6_entry_23 hlocks hS hP hD (by first | rw [entM, if_pos (inR_l0 c1)] | rw [entM, if_pos (inR_hi (by decide) c7)] | rw [entM, if_neg (bool_nf (inR_ok (by decide) c1 c7)), if_pos c18]) (by first | rw [entZ, if_pos (inR_l0 c1)] | rw [entZ, if_pos (inR_hi (by decide) c7)] | rw [entZ, if_neg (bool_nf (inR_ok (by decide) c1 c7)), if_pos c18])
  · refine lv_iload_n hx hb dX6_entry_4 rfl (lv_at hl 1 rfl) ?_
    refine lv_bipush (v := nI 8) hx hb dX6_entry_5 (by decide) ?_
    refine lv_icmp_gt (tgt := 21) hx hb dX6_entry_7 (by decide) (fun c7 => ?_) (fun c7 => ?_)
    · refine lv_bipush (v := (-2)) hx hb dX6_entry_21 (by decide) ?_
      exact ctW_retI (v := (-2)) mm hx hb hr rfl dX6_entry_23 hlocks hS hP hD (by first | rw [entM, if_pos (inR_l0 c1)] | rw [entM, if_pos (inR_hi (by decide) c7)] | rw [entM, if_neg (bool_nf (inR_ok (by decide) c1 c7)), if_pos c18]) (by first | rw [entZ, if_pos (inR_l0 c1)] | rw [entZ, if_pos (inR_hi (by decide) c7)] | rw [entZ, if_neg (bool_nf (inR_ok (by decide) c1 c7)), if_pos c18])
    · refine lv_aload_n hx hb dX6_entry_10 rfl (lv_at hl 0 rfl) ?_
      refine va_get (D := D) (ci := 6) (v := .ref (ad 0)) (C := RX6) (T := TX6) (N := 7) hx hb hts hiX6 hown hK hP 12 rfl rfl 0 (by decide) hf10 (fun _ h9 => h9) rfl dX6_entry_11 ?_
      refine lv_iload_n hx hb dX6_entry_14 rfl (lv_at hl 2 rfl) ?_
      refine ctR_V (As := [.int x]) (rest := []) (r := .int (nI (inB x q).toNat)) ⟨hx, hb, hml, hown, hts⟩ (c_X1_has l D cI cZ ad q sm pr op iv hF x) (cwV 1 hts gX6_entry_X1_has rfl rfl rfl hdV_X1_has ⟨Nat.le_of_ble_eq_true rfl, Nat.le_of_ble_eq_true rfl⟩) hK hN hP [0, 1, 2, 3, 4] rfl 0 1 rfl rfl rfl hl.1 rfl (Nat.le_of_ble_eq_true rfl) ⟨Nat.zero_le _, Nat.zero_le _⟩ dX6_entry_15 ?_
      refine nv_ifb_ne (tgt := 24) hx hb dX6_entry_18 (by decide) (fun c18 => ?_) (fun c18 => ?_)
      · have h1 := inR_ok (hi := 8) (by decide) c1 c7
        have h2 := c18
        obtain ⟨i, hi0, hi, rfl⟩ := inR_of (by decide) h1
        obtain ⟨j, hj, rfl⟩ := inB_of (by omega) c18
        refine lv_aload_n hx hb dX6_entry_24 rfl (lv_at hl 0 rfl) ?_
        refine va_get (D := D) (ci := 6) (v := .ref (ad 16)) (C := RX6) (T := TX6) (N := 7) hx hb hts hiX6 hown hK hP 12 rfl rfl 4 (by decide) hf44 (fun _ h9 => h9) rfl dX6_entry_25 ?_
        refine va_getN (D := D) (ci := 2) (v := .ref (ad 17)) (C := RX2) (T := TX2) (N := 5) hx hb hts hiX2 hown hK hP 8 rfl rfl 2 (by decide) hf180 (fun _ h9 => h9) rfl dX6_entry_28 ?_
        refine lv_iload_n hx hb dX6_entry_31 rfl (lv_at hl 1 rfl) ?_
        refine nv_iald hx hb hK hP 9 0 rfl rfl (by omega) (by decide) dX6_entry_32 ?_
        refine lv_istore_n (lv' := [(3, .int (nI (mm i))), (0, .ref (ad 26)), (1, .int (nI i)), (2, .int (nI j))]) hx hb dX6_entry_33 rfl hl (by decide) rfl (fun ls hl => ?_)
        refine lv_aload_n hx hb dX6_entry_34 rfl (lv_at hl 1 rfl) ?_
        refine va_get (D := D) (ci := 6) (v := .ref (ad 16)) (C := RX6) (T := TX6) (N := 7) hx hb hts hiX6 hown hK hP 12 rfl rfl 4 (by decide) hf44 (fun _ h9 => h9) rfl dX6_entry_35 ?_
        refine va_getN (D := D) (ci := 2) (v := .ref (ad 17)) (C := RX2) (T := TX2) (N := 5) hx hb hts hiX2 hown hK hP 8 rfl rfl 2 (by decide) hf180 (fun _ h9 => h9) rfl dX6_entry_38 ?_
        refine lv_iload_n hx hb dX6_entry_41 rfl (lv_at hl 2 rfl) ?_
        refine lv_iload_n hx hb dX6_entry_42 rfl (lv_at hl 3 rfl) ?_
        refine nv_iast hx hb hK hP hD hS 9 0 rfl rfl (by omega) (by decide) dX6_entry_43 (fun H locs hP hD hS => ?_)
        have hP : va_P D vwCl [(ad 0, .inr (1, [.int (nI q), .ref (ad 1), .ref (ad 2), .ref (ad 3), .ref (ad 4)])), (ad 1, .inl (cI, 81, .inl (nF sm))), (ad 2, .inl (cI, 81, .inl (nF pr))), (ad 3, .inl (cI, 9, .inl (nF op))), (ad 4, .inl (cI, 9, .inl (nF iv))), (ad 5, .inr (3, [.ref (ad 0), .int (nI (nn q)), .ref (ad 6), .ref (ad 7)])), (ad 6, .inl (cI, 273, .inl (nF tr))), (ad 7, .inl (cI, 910, .inl (nF ro))), (ad 16, .inr (2, [.ref (ad 5), .ref (ad 0), .ref (ad 17), .ref (ad 18), .ref (ad 19)])), (ad 17, .inl (cI, 9, .inl (nF (upN mm i j)))), (ad 18, .inl (cI, 9, .inl (nF me))), (ad 19, .inl (cZ, 91, .inl (bF rc))), (ad 26, .inr (6, [.ref (ad 0), .ref (ad 5), .ref (ad 8), .ref (ad 12), .ref (ad 16), .ref (ad 20), .ref (ad 24)]))] H := hP
        have hD : va_D A [(ad 0, .inr (1, [.int (nI q), .ref (ad 1), .ref (ad 2), .ref (ad 3), .ref (ad 4)])), (ad 1, .inl (cI, 81, .inl (nF sm))), (ad 2, .inl (cI, 81, .inl (nF pr))), (ad 3, .inl (cI, 9, .inl (nF op))), (ad 4, .inl (cI, 9, .inl (nF iv))), (ad 5, .inr (3, [.ref (ad 0), .int (nI (nn q)), .ref (ad 6), .ref (ad 7)])), (ad 6, .inl (cI, 273, .inl (nF tr))), (ad 7, .inl (cI, 910, .inl (nF ro))), (ad 16, .inr (2, [.ref (ad 5), .ref (ad 0), .ref (ad 17), .ref (ad 18), .ref (ad 19)])), (ad 17, .inl (cI, 9, .inl (nF (upN mm i j)))), (ad 18, .inl (cI, 9, .inl (nF me))), (ad 19, .inl (cZ, 91, .inl (bF rc))), (ad 26, .inr (6, [.ref (ad 0), .ref (ad 5), .ref (ad 8), .ref (ad 12), .ref (ad 16), .ref (ad 20), .ref (ad 24)]))] := hD
        refine lv_iload_n hx hb dX6_entry_44 rfl (lv_at hl 0 rfl) ?_
        exact ctW_retI (v := (nI (mm i))) (upN mm i j) hx hb hr rfl dX6_entry_45 hlocks hS hP hD (by rw [entM, if_neg (bool_nf h1), if_neg (bool_nf h2), nv_nI (by omega), nv_nI (by omega)]) (by rw [entZ, if_neg (bool_nf h1), if_neg (bool_nf h2), nv_nI (by omega)])
      · refine lv_bipush (v := (-2)) hx hb dX6_entry_21 (by decide) ?_
        exact ctW_retI (v := (-2)) mm hx hb hr rfl dX6_entry_23 hlocks hS hP hD (by first | rw [entM, if_pos (inR_l0 c1)] | rw [entM, if_pos (inR_hi (by decide) c7)] | rw [entM, if_neg (bool_nf (inR_ok (by decide) c1 c7)), if_pos c18]) (by first | rw [entZ, if_pos (inR_l0 c1)] | rw [entZ, if_pos (inR_hi (by decide) c7)] | rw [entZ, if_neg (bool_nf (inR_ok (by decide) c1 c7)), if_pos c18])

set_option maxHeartbeats 4000000 in
set_option maxRecDepth 100000 in
theorem c_X6_invert (l : Launch) (D : va_G) (cI cZ : ClassId) (ad : Nat → Nat) (q : Nat) (sm : Nat → Nat) (pr : Nat → Nat) (op : Nat → Nat) (iv : Nat → Nat) (hF : FOK q sm pr op iv) (tr : Nat → Nat) (ro : Nat → Nat) (hT : TOK q tr) (mm : Nat → Nat) (me : Nat → Nat) (rc : Nat → Bool) (k_m : MPK q mm) : CtW (S := (Nat → Nat) × (Nat → Nat)) l yX6_invert wsX6_invert { frames := 4, cells := 0, slots := 0, locals := 94 } D (tyG cI cZ) [.ref (ad 26)] [(ad 0, .inr (1, [.int (nI q), .ref (ad 1), .ref (ad 2), .ref (ad 3), .ref (ad 4)])), (ad 1, .inl (cI, 81, .inl (nF sm))), (ad 2, .inl (cI, 81, .inl (nF pr))), (ad 3, .inl (cI, 9, .inl (nF op))), (ad 4, .inl (cI, 9, .inl (nF iv))), (ad 5, .inr (3, [.ref (ad 0), .int (nI (nn q)), .ref (ad 6), .ref (ad 7)])), (ad 6, .inl (cI, 273, .inl (nF tr))), (ad 7, .inl (cI, 910, .inl (nF ro))), (ad 16, .inr (2, [.ref (ad 5), .ref (ad 0), .ref (ad 17), .ref (ad 18), .ref (ad 19)])), (ad 17, .inl (cI, 9, .inl (nF mm))), (ad 18, .inl (cI, 9, .inl (nF me))), (ad 19, .inl (cZ, 91, .inl (bF rc))), (ad 26, .inr (6, [.ref (ad 0), .ref (ad 5), .ref (ad 8), .ref (ad 12), .ref (ad 16), .ref (ad 20), .ref (ad 24)]))] (fun u => (fun (mm3 : Nat → Nat) (me3 : Nat → Nat) => ∀ t, t < 9 → mm3 t = invM q mm t) u.1 u.2) (fun u => (fun (mm3 : Nat → Nat) (me3 : Nat → Nat) => some (.int (invZ q mm))) u.1 u.2) (fun u => (fun (mm3 : Nat → Nat) (me3 : Nat → Nat) => [(ad 0, .inr (1, [.int (nI q), .ref (ad 1), .ref (ad 2), .ref (ad 3), .ref (ad 4)])), (ad 1, .inl (cI, 81, .inl (nF sm))), (ad 2, .inl (cI, 81, .inl (nF pr))), (ad 3, .inl (cI, 9, .inl (nF op))), (ad 4, .inl (cI, 9, .inl (nF iv))), (ad 5, .inr (3, [.ref (ad 0), .int (nI (nn q)), .ref (ad 6), .ref (ad 7)])), (ad 6, .inl (cI, 273, .inl (nF tr))), (ad 7, .inl (cI, 910, .inl (nF ro))), (ad 16, .inr (2, [.ref (ad 5), .ref (ad 0), .ref (ad 17), .ref (ad 18), .ref (ad 19)])), (ad 17, .inl (cI, 9, .inl (nF mm3))), (ad 18, .inl (cI, 9, .inl (nF me3))), (ad 19, .inl (cZ, 91, .inl (bF rc))), (ad 26, .inr (6, [.ref (ad 0), .ref (ad 5), .ref (ad 8), .ref (ad 12), .ref (ad 16), .ref (ad 20), .ref (ad 24)]))]) u.1 u.2) := by
  intro sz; refine Met.ofW (cc := cX6_invert) (maxL := 1) (ret := some .int) (by decide) rfl ?_
  intro p e s m args below meth c s₁ B hml hv
  obtain ⟨rfl, hsz, hP, hK, hD0, hN⟩ := hv
  have hx := B.exec
  have hb := B.bytes
  have hr := B.returns
  have hts := atoms_spec (ws := wsX6_invert) B.pre
  have hown : s.vm.findClass RX6 = some m.cls := findClass_of_methodNamed B.named
  have hlocks := B.notSynchronized
  subst hsz
  have hD := hD0.self (sz := s.heap.size)
  generalize hAe : va_A [(ad 0, .inr (1, [.int (nI q), .ref (ad 1), .ref (ad 2), .ref (ad 3), .ref (ad 4)])), (ad 1, .inl (cI, 81, .inl (nF sm))), (ad 2, .inl (cI, 81, .inl (nF pr))), (ad 3, .inl (cI, 9, .inl (nF op))), (ad 4, .inl (cI, 9, .inl (nF iv))), (ad 5, .inr (3, [.ref (ad 0), .int (nI (nn q)), .ref (ad 6), .ref (ad 7)])), (ad 6, .inl (cI, 273, .inl (nF tr))), (ad 7, .inl (cI, 910, .inl (nF ro))), (ad 16, .inr (2, [.ref (ad 5), .ref (ad 0), .ref (ad 17), .ref (ad 18), .ref (ad 19)])), (ad 17, .inl (cI, 9, .inl (nF mm))), (ad 18, .inl (cI, 9, .inl (nF me))), (ad 19, .inl (cZ, 91, .inl (bF rc))), (ad 26, .inr (6, [.ref (ad 0), .ref (ad 5), .ref (ad 8), .ref (ad 12), .ref (ad 16), .ref (ad 20), .ref (ad 24)]))] s.heap.size = A at hD ⊢
  have hA : ∀ q : Nat, s.heap.size ≤ q → A q := fun q h => by rw [← hAe]; exact Or.inr h
  have hS : va_S A s.heap s.heap [] := va_S.rf
  have hP : va_P D vwCl [(ad 0, .inr (1, [.int (nI q), .ref (ad 1), .ref (ad 2), .ref (ad 3), .ref (ad 4)])), (ad 1, .inl (cI, 81, .inl (nF sm))), (ad 2, .inl (cI, 81, .inl (nF pr))), (ad 3, .inl (cI, 9, .inl (nF op))), (ad 4, .inl (cI, 9, .inl (nF iv))), (ad 5, .inr (3, [.ref (ad 0), .int (nI (nn q)), .ref (ad 6), .ref (ad 7)])), (ad 6, .inl (cI, 273, .inl (nF tr))), (ad 7, .inl (cI, 910, .inl (nF ro))), (ad 16, .inr (2, [.ref (ad 5), .ref (ad 0), .ref (ad 17), .ref (ad 18), .ref (ad 19)])), (ad 17, .inl (cI, 9, .inl (nF mm))), (ad 18, .inl (cI, 9, .inl (nF me))), (ad 19, .inl (cZ, 91, .inl (bF rc))), (ad 26, .inr (6, [.ref (ad 0), .ref (ad 5), .ref (ad 8), .ref (ad 12), .ref (ad 16), .ref (ad 20), .ref (ad 24)]))] s.heap := hP
  have hf44 := hts (.fieldLink RX6 44 "FinitePlanes" "map" "LFinitePlanes$Mapping;") (by decide +kernel)
  have hiX6 : ∀ w ∈ u_ws RX6 TX6 7, w ∈ wsX6_invert := by decide +kernel
  have hl := lv_entry ([.ref (ad 26)]) (n := 1) (Nat.le_of_ble_eq_true rfl)
  rw [lg_entry_eq]
  generalize (lg_sl ([.ref (ad 26)]) ++ List.replicate (1 - (lg_sl ([.ref (ad 26)])).length) Slot.unset).toArray = ls at hl ⊢
  have hl : lv_has ls 1 [(0, .ref (ad 26))] := hl
  have hq2 := qs_le hF.1
  have hn2 := nn_le hF.1
  refine lv_aload_n hx hb dX6_invert_0 rfl (lv_at hl 0 rfl) ?_
  refine va_get (D := D) (ci := 6) (v := .ref (ad 16)) (C := RX6) (T := TX6) (N := 7) hx hb hts hiX6 hown hK hP 12 rfl rfl 4 (by decide) hf44 (fun _ h9 => h9) rfl dX6_invert_1 ?_
  refine ctR_V (As := []) (rest := []) (r := .int (nI (detq q mm))) ⟨hx, hb, hml, hown, hts⟩ (c_X2_det l D cI cZ ad q sm pr op iv hF tr ro hT (fun k => ad (16 + k)) mm me rc k_m) (cwV 0 hts gX6_invert_X2_det rfl rfl rfl hdV_X2_det ⟨Nat.le_of_ble_eq_true rfl, Nat.le_of_ble_eq_true rfl⟩) hK hN hP [0, 1, 2, 3, 4, 5, 6, 7, 8, 9, 10, 11] rfl 8 2 rfl rfl rfl hl.1 rfl (Nat.le_of_ble_eq_true rfl) ⟨Nat.zero_le _, Nat.zero_le _⟩ dX6_invert_4 ?_
  have hh_1 : detq q mm < q := detq_lt hF.1 k_m
  refine nv_if_ne (tgt := 13) hx hb (by omega) dX6_invert_7 (by decide) (fun c7 => ?_) (fun c7 => ?_)
  · refine lv_aload_n hx hb dX6_invert_13 rfl (lv_at hl 0 rfl) ?_
    refine va_get (D := D) (ci := 6) (v := .ref (ad 16)) (C := RX6) (T := TX6) (N := 7) hx hb hts hiX6 hown hK hP 12 rfl rfl 4 (by decide) hf44 (fun _ h9 => h9) rfl dX6_invert_14 ?_
    refine ctW_V (As := []) (rest := []) (wr := [(ad 26, .inr (6, [.ref (ad 0), .ref (ad 5), .ref (ad 8), .ref (ad 12), .ref (ad 16), .ref (ad 20), .ref (ad 24)]))]) ⟨hx, hb, hml, hown, hts⟩ (c_X2_turnBack l D cI cZ ad q sm pr op iv hF tr ro hT (fun k => ad (16 + k)) mm me rc k_m) (cwV 0 hts gX6_invert_X2_turnBack rfl rfl rfl hdV_X2_turnBack ⟨Nat.le_of_ble_eq_true rfl, Nat.le_of_ble_eq_true rfl⟩) hK hN hP hD hS hA [0, 1, 2, 3, 4, 5, 6, 7, 8, 9, 10, 11] [12] rfl rfl rfl (by decide) (by decide) (by decide) 8 2 rfl rfl rfl hl.1 rfl (Nat.le_of_ble_eq_true rfl) ⟨Nat.zero_le _, Nat.zero_le _⟩ dX6_invert_17 (fun u H locs hu17 hP hD hS => ?_)
    obtain ⟨mm_2, me_3⟩ := u
    try dsimp only at hu17
    have hP : va_P D vwCl [(ad 0, .inr (1, [.int (nI q), .ref (ad 1), .ref (ad 2), .ref (ad 3), .ref (ad 4)])), (ad 1, .inl (cI, 81, .inl (nF sm))), (ad 2, .inl (cI, 81, .inl (nF pr))), (ad 3, .inl (cI, 9, .inl (nF op))), (ad 4, .inl (cI, 9, .inl (nF iv))), (ad 5, .inr (3, [.ref (ad 0), .int (nI (nn q)), .ref (ad 6), .ref (ad 7)])), (ad 6, .inl (cI, 273, .inl (nF tr))), (ad 7, .inl (cI, 910, .inl (nF ro))), (ad 16, .inr (2, [.ref (ad 5), .ref (ad 0), .ref (ad 17), .ref (ad 18), .ref (ad 19)])), (ad 17, .inl (cI, 9, .inl (nF mm_2))), (ad 18, .inl (cI, 9, .inl (nF me_3))), (ad 19, .inl (cZ, 91, .inl (bF rc))), (ad 26, .inr (6, [.ref (ad 0), .ref (ad 5), .ref (ad 8), .ref (ad 12), .ref (ad 16), .ref (ad 20), .ref (ad 24)]))] H := hP.sub [1, 2, 3, 4, 5, 6, 7, 8, 9, 10, 11, 12, 0] rfl
    have hD : va_D A [(ad 0, .inr (1, [.int (nI q), .ref (ad 1), .ref (ad 2), .ref (ad 3), .ref (ad 4)])), (ad 1, .inl (cI, 81, .inl (nF sm))), (ad 2, .inl (cI, 81, .inl (nF pr))), (ad 3, .inl (cI, 9, .inl (nF op))), (ad 4, .inl (cI, 9, .inl (nF iv))), (ad 5, .inr (3, [.ref (ad 0), .int (nI (nn q)), .ref (ad 6), .ref (ad 7)])), (ad 6, .inl (cI, 273, .inl (nF tr))), (ad 7, .inl (cI, 910, .inl (nF ro))), (ad 16, .inr (2, [.ref (ad 5), .ref (ad 0), .ref (ad 17), .ref (ad 18), .ref (ad 19)])), (ad 17, .inl (cI, 9, .inl (nF mm_2))), (ad 18, .inl (cI, 9, .inl (nF me_3))), (ad 19, .inl (cZ, 91, .inl (bF rc))), (ad 26, .inr (6, [.ref (ad 0), .ref (ad 5), .ref (ad 8), .ref (ad 12), .ref (ad 16), .ref (ad 20), .ref (ad 24)]))] := hD.sub [1, 2, 3, 4, 5, 6, 7, 8, 9, 10, 11, 12, 0] (by decide) rfl
    refine W.eq (g2 := F0 m 20 ls []) rfl ?_
    refine lv_iconst (v := nI 1) hx hb dX6_invert_20 (by decide) ?_
    exact ctW_retI (v := (nI 1)) (mm_2, me_3) hx hb hr rfl dX6_invert_21 hlocks hS hP hD (by dsimp only; exact (fun t ht => by rw [invM, if_neg c7]; exact hu17 t ht)) (by rw [invZ, if_neg c7])
  · refine lv_bipush (v := (-3)) hx hb dX6_invert_10 (by decide) ?_
    exact ctW_retI (v := (-3)) (mm, me) hx hb hr rfl dX6_invert_12 hlocks hS hP hD (by dsimp only; exact (fun t _ => by rw [invM, if_pos c7])) (by rw [invZ, if_pos c7])

set_option maxHeartbeats 4000000 in
set_option maxRecDepth 100000 in
theorem c_X6_move (l : Launch) (D : va_G) (cI cZ : ClassId) (ad : Nat → Nat) (q : Nat) (sm : Nat → Nat) (pr : Nat → Nat) (op : Nat → Nat) (iv : Nat → Nat) (hF : FOK q sm pr op iv) (tr : Nat → Nat) (ro : Nat → Nat) (hT : TOK q tr) (hR : ROK q ro) (S : Nat → Bool) (gr : Nat → Bool) (ol : Nat → Nat) (mm : Nat → Nat) (me : Nat → Nat) (rc : Nat → Bool) (k_m : MPK q mm) : CtW (S := (Nat → Bool) × (Nat → Bool)) l yX6_move wsX6_move { frames := 4, cells := 0, slots := 0, locals := 90 } D (tyG cI cZ) [.ref (ad 26)] [(ad 0, .inr (1, [.int (nI q), .ref (ad 1), .ref (ad 2), .ref (ad 3), .ref (ad 4)])), (ad 1, .inl (cI, 81, .inl (nF sm))), (ad 2, .inl (cI, 81, .inl (nF pr))), (ad 3, .inl (cI, 9, .inl (nF op))), (ad 4, .inl (cI, 9, .inl (nF iv))), (ad 5, .inr (3, [.ref (ad 0), .int (nI (nn q)), .ref (ad 6), .ref (ad 7)])), (ad 6, .inl (cI, 273, .inl (nF tr))), (ad 7, .inl (cI, 910, .inl (nF ro))), (ad 8, .inr (4, [.ref (ad 5), .ref (ad 9), .ref (ad 10), .ref (ad 11)])), (ad 9, .inl (cZ, 91, .inl (bF S))), (ad 10, .inl (cZ, 91, .inl (bF gr))), (ad 11, .inl (cI, 91, .inl (nF ol))), (ad 16, .inr (2, [.ref (ad 5), .ref (ad 0), .ref (ad 17), .ref (ad 18), .ref (ad 19)])), (ad 17, .inl (cI, 9, .inl (nF mm))), (ad 18, .inl (cI, 9, .inl (nF me))), (ad 19, .inl (cZ, 91, .inl (bF rc))), (ad 26, .inr (6, [.ref (ad 0), .ref (ad 5), .ref (ad 8), .ref (ad 12), .ref (ad 16), .ref (ad 20), .ref (ad 24)]))] (fun u => (fun (S3 : Nat → Bool) (rc3 : Nat → Bool) => eqN (nn q) S3 (movq q mm S)) u.1 u.2) (fun u => (fun (S3 : Nat → Bool) (rc3 : Nat → Bool) => some (.int (nI (cnt (movq q mm S) (nn q))))) u.1 u.2) (fun u => (fun (S3 : Nat → Bool) (rc3 : Nat → Bool) => [(ad 0, .inr (1, [.int (nI q), .ref (ad 1), .ref (ad 2), .ref (ad 3), .ref (ad 4)])), (ad 1, .inl (cI, 81, .inl (nF sm))), (ad 2, .inl (cI, 81, .inl (nF pr))), (ad 3, .inl (cI, 9, .inl (nF op))), (ad 4, .inl (cI, 9, .inl (nF iv))), (ad 5, .inr (3, [.ref (ad 0), .int (nI (nn q)), .ref (ad 6), .ref (ad 7)])), (ad 6, .inl (cI, 273, .inl (nF tr))), (ad 7, .inl (cI, 910, .inl (nF ro))), (ad 8, .inr (4, [.ref (ad 5), .ref (ad 9), .ref (ad 10), .ref (ad 11)])), (ad 9, .inl (cZ, 91, .inl (bF S3))), (ad 10, .inl (cZ, 91, .inl (bF gr))), (ad 11, .inl (cI, 91, .inl (nF ol))), (ad 16, .inr (2, [.ref (ad 5), .ref (ad 0), .ref (ad 17), .ref (ad 18), .ref (ad 19)])), (ad 17, .inl (cI, 9, .inl (nF mm))), (ad 18, .inl (cI, 9, .inl (nF me))), (ad 19, .inl (cZ, 91, .inl (bF rc3))), (ad 26, .inr (6, [.ref (ad 0), .ref (ad 5), .ref (ad 8), .ref (ad 12), .ref (ad 16), .ref (ad 20), .ref (ad 24)]))]) u.1 u.2) := by
  intro sz; refine Met.ofW (cc := cX6_move) (maxL := 1) (ret := some .int) (by decide) rfl ?_
  intro p e s m args below meth c s₁ B hml hv
  obtain ⟨rfl, hsz, hP, hK, hD0, hN⟩ := hv
  have hx := B.exec
  have hb := B.bytes
  have hr := B.returns
  have hts := atoms_spec (ws := wsX6_move) B.pre
  have hown : s.vm.findClass RX6 = some m.cls := findClass_of_methodNamed B.named
  have hlocks := B.notSynchronized
  subst hsz
  have hD := hD0.self (sz := s.heap.size)
  generalize hAe : va_A [(ad 0, .inr (1, [.int (nI q), .ref (ad 1), .ref (ad 2), .ref (ad 3), .ref (ad 4)])), (ad 1, .inl (cI, 81, .inl (nF sm))), (ad 2, .inl (cI, 81, .inl (nF pr))), (ad 3, .inl (cI, 9, .inl (nF op))), (ad 4, .inl (cI, 9, .inl (nF iv))), (ad 5, .inr (3, [.ref (ad 0), .int (nI (nn q)), .ref (ad 6), .ref (ad 7)])), (ad 6, .inl (cI, 273, .inl (nF tr))), (ad 7, .inl (cI, 910, .inl (nF ro))), (ad 8, .inr (4, [.ref (ad 5), .ref (ad 9), .ref (ad 10), .ref (ad 11)])), (ad 9, .inl (cZ, 91, .inl (bF S))), (ad 10, .inl (cZ, 91, .inl (bF gr))), (ad 11, .inl (cI, 91, .inl (nF ol))), (ad 16, .inr (2, [.ref (ad 5), .ref (ad 0), .ref (ad 17), .ref (ad 18), .ref (ad 19)])), (ad 17, .inl (cI, 9, .inl (nF mm))), (ad 18, .inl (cI, 9, .inl (nF me))), (ad 19, .inl (cZ, 91, .inl (bF rc))), (ad 26, .inr (6, [.ref (ad 0), .ref (ad 5), .ref (ad 8), .ref (ad 12), .ref (ad 16), .ref (ad 20), .ref (ad 24)]))] s.heap.size = A at hD ⊢
  have hA : ∀ q : Nat, s.heap.size ≤ q → A q := fun q h => by rw [← hAe]; exact Or.inr h
  have hS : va_S A s.heap s.heap [] := va_S.rf
  have hP : va_P D vwCl [(ad 0, .inr (1, [.int (nI q), .ref (ad 1), .ref (ad 2), .ref (ad 3), .ref (ad 4)])), (ad 1, .inl (cI, 81, .inl (nF sm))), (ad 2, .inl (cI, 81, .inl (nF pr))), (ad 3, .inl (cI, 9, .inl (nF op))), (ad 4, .inl (cI, 9, .inl (nF iv))), (ad 5, .inr (3, [.ref (ad 0), .int (nI (nn q)), .ref (ad 6), .ref (ad 7)])), (ad 6, .inl (cI, 273, .inl (nF tr))), (ad 7, .inl (cI, 910, .inl (nF ro))), (ad 8, .inr (4, [.ref (ad 5), .ref (ad 9), .ref (ad 10), .ref (ad 11)])), (ad 9, .inl (cZ, 91, .inl (bF S))), (ad 10, .inl (cZ, 91, .inl (bF gr))), (ad 11, .inl (cI, 91, .inl (nF ol))), (ad 16, .inr (2, [.ref (ad 5), .ref (ad 0), .ref (ad 17), .ref (ad 18), .ref (ad 19)])), (ad 17, .inl (cI, 9, .inl (nF mm))), (ad 18, .inl (cI, 9, .inl (nF me))), (ad 19, .inl (cZ, 91, .inl (bF rc))), (ad 26, .inr (6, [.ref (ad 0), .ref (ad 5), .ref (ad 8), .ref (ad 12), .ref (ad 16), .ref (ad 20), .ref (ad 24)]))] s.heap := hP
  have hf21 := hts (.fieldLink RX6 21 "FinitePlanes" "plane" "LFinitePlanes$Plane;") (by decide +kernel)
  have hf30 := hts (.fieldLink RX6 30 "FinitePlanes" "set" "LFinitePlanes$PointSet;") (by decide +kernel)
  have hf44 := hts (.fieldLink RX6 44 "FinitePlanes" "map" "LFinitePlanes$Mapping;") (by decide +kernel)
  have hf116 := hN.use (w := .fieldLinkNest RX6 116 "FinitePlanes$PointSet" "in" "[Z" "FinitePlanes") (by decide +kernel) (A := [.ref (ad 26)].toArray)
  have hiX4 : ∀ w ∈ u_ws RX4 TX4 4, w ∈ wsX6_move := by decide +kernel
  have hiX6 : ∀ w ∈ u_ws RX6 TX6 7, w ∈ wsX6_move := by decide +kernel
  have hl := lv_entry ([.ref (ad 26)]) (n := 1) (Nat.le_of_ble_eq_true rfl)
  rw [lg_entry_eq]
  generalize (lg_sl ([.ref (ad 26)]) ++ List.replicate (1 - (lg_sl ([.ref (ad 26)])).length) Slot.unset).toArray = ls at hl ⊢
  have hl : lv_has ls 1 [(0, .ref (ad 26))] := hl
  have hq2 := qs_le hF.1
  have hn2 := nn_le hF.1
  refine lv_aload_n hx hb dX6_move_0 rfl (lv_at hl 0 rfl) ?_
  refine va_get (D := D) (ci := 6) (v := .ref (ad 16)) (C := RX6) (T := TX6) (N := 7) hx hb hts hiX6 hown hK hP 16 rfl rfl 4 (by decide) hf44 (fun _ h9 => h9) rfl dX6_move_1 ?_
  refine lv_aload_n hx hb dX6_move_4 rfl (lv_at hl 0 rfl) ?_
  refine va_get (D := D) (ci := 6) (v := .ref (ad 8)) (C := RX6) (T := TX6) (N := 7) hx hb hts hiX6 hown hK hP 16 rfl rfl 2 (by decide) hf30 (fun _ h9 => h9) rfl dX6_move_5 ?_
  refine va_getN (D := D) (ci := 4) (v := .ref (ad 9)) (C := RX4) (T := TX4) (N := 4) hx hb hts hiX4 hown hK hP 8 rfl rfl 1 (by decide) hf116 (fun _ h9 => h9) rfl dX6_move_8 ?_
  refine ctW_V (As := [.ref (ad 9)]) (rest := []) (wr := [(ad 8, .inr (4, [.ref (ad 5), .ref (ad 9), .ref (ad 10), .ref (ad 11)])), (ad 10, .inl (cZ, 91, .inl (bF gr))), (ad 11, .inl (cI, 91, .inl (nF ol))), (ad 26, .inr (6, [.ref (ad 0), .ref (ad 5), .ref (ad 8), .ref (ad 12), .ref (ad 16), .ref (ad 20), .ref (ad 24)]))]) ⟨hx, hb, hml, hown, hts⟩ (c_X2_carry l D cI cZ ad q sm pr op iv hF tr ro hT (fun k => ad (16 + k)) mm me rc (ad 9) S k_m) (cwV 1 hts gX6_move_X2_carry rfl rfl rfl hdV_X2_carry ⟨Nat.le_of_ble_eq_true rfl, Nat.le_of_ble_eq_true rfl⟩) hK hN hP hD hS hA [0, 1, 2, 3, 4, 5, 6, 7, 12, 13, 14, 15, 9] [8, 10, 11, 16] rfl rfl rfl (by decide) (by decide) (by decide) 12 2 rfl rfl rfl hl.1 rfl (Nat.le_of_ble_eq_true rfl) ⟨Nat.zero_le _, Nat.zero_le _⟩ dX6_move_11 (fun u H locs hu11 hP hD hS => ?_)
  obtain ⟨rc_1, S_2⟩ := u
  try dsimp only at hu11
  have hP : va_P D vwCl [(ad 0, .inr (1, [.int (nI q), .ref (ad 1), .ref (ad 2), .ref (ad 3), .ref (ad 4)])), (ad 1, .inl (cI, 81, .inl (nF sm))), (ad 2, .inl (cI, 81, .inl (nF pr))), (ad 3, .inl (cI, 9, .inl (nF op))), (ad 4, .inl (cI, 9, .inl (nF iv))), (ad 5, .inr (3, [.ref (ad 0), .int (nI (nn q)), .ref (ad 6), .ref (ad 7)])), (ad 6, .inl (cI, 273, .inl (nF tr))), (ad 7, .inl (cI, 910, .inl (nF ro))), (ad 8, .inr (4, [.ref (ad 5), .ref (ad 9), .ref (ad 10), .ref (ad 11)])), (ad 9, .inl (cZ, 91, .inl (bF S_2))), (ad 10, .inl (cZ, 91, .inl (bF gr))), (ad 11, .inl (cI, 91, .inl (nF ol))), (ad 16, .inr (2, [.ref (ad 5), .ref (ad 0), .ref (ad 17), .ref (ad 18), .ref (ad 19)])), (ad 17, .inl (cI, 9, .inl (nF mm))), (ad 18, .inl (cI, 9, .inl (nF me))), (ad 19, .inl (cZ, 91, .inl (bF rc_1))), (ad 26, .inr (6, [.ref (ad 0), .ref (ad 5), .ref (ad 8), .ref (ad 12), .ref (ad 16), .ref (ad 20), .ref (ad 24)]))] H := hP.sub [4, 5, 6, 7, 8, 9, 10, 11, 0, 16, 1, 2, 12, 13, 14, 15, 3] rfl
  have hD : va_D A [(ad 0, .inr (1, [.int (nI q), .ref (ad 1), .ref (ad 2), .ref (ad 3), .ref (ad 4)])), (ad 1, .inl (cI, 81, .inl (nF sm))), (ad 2, .inl (cI, 81, .inl (nF pr))), (ad 3, .inl (cI, 9, .inl (nF op))), (ad 4, .inl (cI, 9, .inl (nF iv))), (ad 5, .inr (3, [.ref (ad 0), .int (nI (nn q)), .ref (ad 6), .ref (ad 7)])), (ad 6, .inl (cI, 273, .inl (nF tr))), (ad 7, .inl (cI, 910, .inl (nF ro))), (ad 8, .inr (4, [.ref (ad 5), .ref (ad 9), .ref (ad 10), .ref (ad 11)])), (ad 9, .inl (cZ, 91, .inl (bF S_2))), (ad 10, .inl (cZ, 91, .inl (bF gr))), (ad 11, .inl (cI, 91, .inl (nF ol))), (ad 16, .inr (2, [.ref (ad 5), .ref (ad 0), .ref (ad 17), .ref (ad 18), .ref (ad 19)])), (ad 17, .inl (cI, 9, .inl (nF mm))), (ad 18, .inl (cI, 9, .inl (nF me))), (ad 19, .inl (cZ, 91, .inl (bF rc_1))), (ad 26, .inr (6, [.ref (ad 0), .ref (ad 5), .ref (ad 8), .ref (ad 12), .ref (ad 16), .ref (ad 20), .ref (ad 24)]))] := hD.sub [4, 5, 6, 7, 8, 9, 10, 11, 0, 16, 1, 2, 12, 13, 14, 15, 3] (by decide) rfl
  refine W.eq (g2 := F0 m 14 ls []) rfl ?_
  refine lv_aload_n hx hb dX6_move_14 rfl (lv_at hl 0 rfl) ?_
  refine va_get (D := D) (ci := 6) (v := .ref (ad 5)) (C := RX6) (T := TX6) (N := 7) hx hb hts hiX6 hown hK hP 16 rfl rfl 1 (by decide) hf21 (fun _ h9 => h9) rfl dX6_move_15 ?_
  refine lv_aload_n hx hb dX6_move_18 rfl (lv_at hl 0 rfl) ?_
  refine va_get (D := D) (ci := 6) (v := .ref (ad 8)) (C := RX6) (T := TX6) (N := 7) hx hb hts hiX6 hown hK hP 16 rfl rfl 2 (by decide) hf30 (fun _ h9 => h9) rfl dX6_move_19 ?_
  refine va_getN (D := D) (ci := 4) (v := .ref (ad 9)) (C := RX4) (T := TX4) (N := 4) hx hb hts hiX4 hown hK hP 8 rfl rfl 1 (by decide) hf116 (fun _ h9 => h9) rfl dX6_move_22 ?_
  refine ctR_V (As := [.ref (ad 9)]) (rest := []) (r := .int (nI (cnt S_2 (nn q)))) ⟨hx, hb, hml, hown, hts⟩ (c_X3_sizeOf l D cI cZ ad q sm pr op iv hF tr ro hT (ad 9) S_2) (cwV 1 hts gX6_move_X3_sizeOf rfl rfl rfl hdV_X3_sizeOf ⟨Nat.le_of_ble_eq_true rfl, Nat.le_of_ble_eq_true rfl⟩) hK hN hP [0, 1, 2, 3, 4, 5, 6, 7, 9] rfl 5 3 rfl rfl rfl hl.1 rfl (Nat.le_of_ble_eq_true rfl) ⟨Nat.zero_le _, Nat.zero_le _⟩ dX6_move_25 ?_
  have hh_3 : cnt S_2 (nn q) ≤ nn q := cnt_le _ _
  exact ctW_retI (v := (nI (cnt S_2 (nn q)))) (S_2, rc_1) hx hb hr rfl dX6_move_28 hlocks hS hP hD (by dsimp only; exact hu11) (by rw [cnt_congr hu11])

set_option maxHeartbeats 4000000 in
set_option maxRecDepth 100000 in
theorem c_X6_frame (l : Launch) (D : va_G) (cI cZ : ClassId) (ad : Nat → Nat) (q : Nat) (sm : Nat → Nat) (pr : Nat → Nat) (op : Nat → Nat) (iv : Nat → Nat) (hF : FOK q sm pr op iv) (tr : Nat → Nat) (ro : Nat → Nat) (hT : TOK q tr) (mm : Nat → Nat) (me : Nat → Nat) (rc : Nat → Bool) (k_m : MPK q mm) (xa : Int32) (xb : Int32) (xc : Int32) (xd : Int32) : CtW (S := (Nat → Nat) × (Nat → Nat)) l yX6_frame wsX6_frame { frames := 5, cells := 0, slots := 0, locals := 120 } D (tyG cI cZ) [.ref (ad 26), .int xa, .int xb, .int xc, .int xd] [(ad 0, .inr (1, [.int (nI q), .ref (ad 1), .ref (ad 2), .ref (ad 3), .ref (ad 4)])), (ad 1, .inl (cI, 81, .inl (nF sm))), (ad 2, .inl (cI, 81, .inl (nF pr))), (ad 3, .inl (cI, 9, .inl (nF op))), (ad 4, .inl (cI, 9, .inl (nF iv))), (ad 5, .inr (3, [.ref (ad 0), .int (nI (nn q)), .ref (ad 6), .ref (ad 7)])), (ad 6, .inl (cI, 273, .inl (nF tr))), (ad 7, .inl (cI, 910, .inl (nF ro))), (ad 16, .inr (2, [.ref (ad 5), .ref (ad 0), .ref (ad 17), .ref (ad 18), .ref (ad 19)])), (ad 17, .inl (cI, 9, .inl (nF mm))), (ad 18, .inl (cI, 9, .inl (nF me))), (ad 19, .inl (cZ, 91, .inl (bF rc))), (ad 26, .inr (6, [.ref (ad 0), .ref (ad 5), .ref (ad 8), .ref (ad 12), .ref (ad 16), .ref (ad 20), .ref (ad 24)]))] (fun u => (fun (mm3 : Nat → Nat) (me3 : Nat → Nat) => ∀ t, t < 9 → mm3 t = fraM q mm xa xb xc xd t) u.1 u.2) (fun u => (fun (mm3 : Nat → Nat) (me3 : Nat → Nat) => some (.int (fraZ q xa xb xc xd))) u.1 u.2) (fun u => (fun (mm3 : Nat → Nat) (me3 : Nat → Nat) => [(ad 0, .inr (1, [.int (nI q), .ref (ad 1), .ref (ad 2), .ref (ad 3), .ref (ad 4)])), (ad 1, .inl (cI, 81, .inl (nF sm))), (ad 2, .inl (cI, 81, .inl (nF pr))), (ad 3, .inl (cI, 9, .inl (nF op))), (ad 4, .inl (cI, 9, .inl (nF iv))), (ad 5, .inr (3, [.ref (ad 0), .int (nI (nn q)), .ref (ad 6), .ref (ad 7)])), (ad 6, .inl (cI, 273, .inl (nF tr))), (ad 7, .inl (cI, 910, .inl (nF ro))), (ad 16, .inr (2, [.ref (ad 5), .ref (ad 0), .ref (ad 17), .ref (ad 18), .ref (ad 19)])), (ad 17, .inl (cI, 9, .inl (nF mm3))), (ad 18, .inl (cI, 9, .inl (nF me3))), (ad 19, .inl (cZ, 91, .inl (bF rc))), (ad 26, .inr (6, [.ref (ad 0), .ref (ad 5), .ref (ad 8), .ref (ad 12), .ref (ad 16), .ref (ad 20), .ref (ad 24)]))]) u.1 u.2) := by
  intro sz; refine Met.ofW (cc := cX6_frame) (maxL := 5) (ret := some .int) (by decide) rfl ?_
  intro p e s m args below meth c s₁ B hml hv
  obtain ⟨rfl, hsz, hP, hK, hD0, hN⟩ := hv
  have hx := B.exec
  have hb := B.bytes
  have hr := B.returns
  have hts := atoms_spec (ws := wsX6_frame) B.pre
  have hown : s.vm.findClass RX6 = some m.cls := findClass_of_methodNamed B.named
  have hlocks := B.notSynchronized
  subst hsz
  have hD := hD0.self (sz := s.heap.size)
  generalize hAe : va_A [(ad 0, .inr (1, [.int (nI q), .ref (ad 1), .ref (ad 2), .ref (ad 3), .ref (ad 4)])), (ad 1, .inl (cI, 81, .inl (nF sm))), (ad 2, .inl (cI, 81, .inl (nF pr))), (ad 3, .inl (cI, 9, .inl (nF op))), (ad 4, .inl (cI, 9, .inl (nF iv))), (ad 5, .inr (3, [.ref (ad 0), .int (nI (nn q)), .ref (ad 6), .ref (ad 7)])), (ad 6, .inl (cI, 273, .inl (nF tr))), (ad 7, .inl (cI, 910, .inl (nF ro))), (ad 16, .inr (2, [.ref (ad 5), .ref (ad 0), .ref (ad 17), .ref (ad 18), .ref (ad 19)])), (ad 17, .inl (cI, 9, .inl (nF mm))), (ad 18, .inl (cI, 9, .inl (nF me))), (ad 19, .inl (cZ, 91, .inl (bF rc))), (ad 26, .inr (6, [.ref (ad 0), .ref (ad 5), .ref (ad 8), .ref (ad 12), .ref (ad 16), .ref (ad 20), .ref (ad 24)]))] s.heap.size = A at hD ⊢
  have hA : ∀ q : Nat, s.heap.size ≤ q → A q := fun q h => by rw [← hAe]; exact Or.inr h
  have hS : va_S A s.heap s.heap [] := va_S.rf
  have hP : va_P D vwCl [(ad 0, .inr (1, [.int (nI q), .ref (ad 1), .ref (ad 2), .ref (ad 3), .ref (ad 4)])), (ad 1, .inl (cI, 81, .inl (nF sm))), (ad 2, .inl (cI, 81, .inl (nF pr))), (ad 3, .inl (cI, 9, .inl (nF op))), (ad 4, .inl (cI, 9, .inl (nF iv))), (ad 5, .inr (3, [.ref (ad 0), .int (nI (nn q)), .ref (ad 6), .ref (ad 7)])), (ad 6, .inl (cI, 273, .inl (nF tr))), (ad 7, .inl (cI, 910, .inl (nF ro))), (ad 16, .inr (2, [.ref (ad 5), .ref (ad 0), .ref (ad 17), .ref (ad 18), .ref (ad 19)])), (ad 17, .inl (cI, 9, .inl (nF mm))), (ad 18, .inl (cI, 9, .inl (nF me))), (ad 19, .inl (cZ, 91, .inl (bF rc))), (ad 26, .inr (6, [.ref (ad 0), .ref (ad 5), .ref (ad 8), .ref (ad 12), .ref (ad 16), .ref (ad 20), .ref (ad 24)]))] s.heap := hP
  have hf21 := hts (.fieldLink RX6 21 "FinitePlanes" "plane" "LFinitePlanes$Plane;") (by decide +kernel)
  have hf44 := hts (.fieldLink RX6 44 "FinitePlanes" "map" "LFinitePlanes$Mapping;") (by decide +kernel)
  have hiX6 : ∀ w ∈ u_ws RX6 TX6 7, w ∈ wsX6_frame := by decide +kernel
  have hl := lv_entry ([.ref (ad 26), .int xa, .int xb, .int xc, .int xd]) (n := 5) (Nat.le_of_ble_eq_true rfl)
  rw [lg_entry_eq]
  generalize (lg_sl ([.ref (ad 26), .int xa, .int xb, .int xc, .int xd]) ++ List.replicate (5 - (lg_sl ([.ref (ad 26), .int xa, .int xb, .int xc, .int xd])).length) Slot.unset).toArray = ls at hl ⊢
  have hl : lv_has ls 5 [(0, .ref (ad 26)), (1, .int xa), (2, .int xb), (3, .int xc), (4, .int xd)] := hl
  have hq2 := qs_le hF.1
  have hn2 := nn_le hF.1
  refine lv_aload_n hx hb dX6_frame_0 rfl (lv_at hl 0 rfl) ?_
  refine va_get (D := D) (ci := 6) (v := .ref (ad 5)) (C := RX6) (T := TX6) (N := 7) hx hb hts hiX6 hown hK hP 12 rfl rfl 1 (by decide) hf21 (fun _ h9 => h9) rfl dX6_frame_1 ?_
  refine lv_iload_n hx hb dX6_frame_4 rfl (lv_at hl 1 rfl) ?_
  refine lv_iload_n hx hb dX6_frame_5 rfl (lv_at hl 2 rfl) ?_
  refine lv_iload_n hx hb dX6_frame_6 rfl (lv_at hl 3 rfl) ?_
  refine lv_iload hx hb dX6_frame_7 (lv_at hl 4 rfl) ?_
  refine ctR_V (As := [.int xa, .int xb, .int xc, .int xd]) (rest := []) (r := .int (nI (inB xa (nn q) && inB xb (nn q) && inB xc (nn q) && inB xd (nn q)).toNat)) ⟨hx, hb, hml, hown, hts⟩ (c_X3_hasFour l D cI cZ ad q sm pr op iv hF tr ro hT xa xb xc xd) (cwV 4 hts gX6_frame_X3_hasFour rfl rfl rfl hdV_X3_hasFour ⟨Nat.le_of_ble_eq_true rfl, Nat.le_of_ble_eq_true rfl⟩) hK hN hP [0, 1, 2, 3, 4, 5, 6, 7] rfl 5 3 rfl rfl rfl hl.1 rfl (Nat.le_of_ble_eq_true rfl) ⟨Nat.zero_le _, Nat.zero_le _⟩ dX6_frame_9 ?_
  refine nv_ifb_ne (tgt := 18) hx hb dX6_frame_12 (by decide) (fun c12 => ?_) (fun c12 => ?_)
  · have h1 := c12
    have h4 := and4 c12
    obtain ⟨ja, hja, rfl⟩ := inB_of (by omega) h4.1
    obtain ⟨jb, hjb, rfl⟩ := inB_of (by omega) h4.2.1
    obtain ⟨jc, hjc, rfl⟩ := inB_of (by omega) h4.2.2.1
    obtain ⟨jd, hjd, rfl⟩ := inB_of (by omega) h4.2.2.2
    refine lv_aload_n hx hb dX6_frame_18 rfl (lv_at hl 0 rfl) ?_
    refine va_get (D := D) (ci := 6) (v := .ref (ad 5)) (C := RX6) (T := TX6) (N := 7) hx hb hts hiX6 hown hK hP 12 rfl rfl 1 (by decide) hf21 (fun _ h9 => h9) rfl dX6_frame_19 ?_
    refine lv_iload_n hx hb dX6_frame_22 rfl (lv_at hl 1 rfl) ?_
    refine lv_iload_n hx hb dX6_frame_23 rfl (lv_at hl 2 rfl) ?_
    refine lv_iload_n hx hb dX6_frame_24 rfl (lv_at hl 3 rfl) ?_
    refine lv_iload hx hb dX6_frame_25 (lv_at hl 4 rfl) ?_
    refine ctR_V (As := [.int (nI ja), .int (nI jb), .int (nI jc), .int (nI jd)]) (rest := []) (r := .int (nI (frq q ja jb jc jd).toNat)) ⟨hx, hb, hml, hown, hts⟩ (c_X3_isFrame l D cI cZ ad q sm pr op iv hF tr ro hT ja jb jc jd (by omega) (by omega) (by omega) (by omega)) (cwV 4 hts gX6_frame_X3_isFrame rfl rfl rfl hdV_X3_isFrame ⟨Nat.le_of_ble_eq_true rfl, Nat.le_of_ble_eq_true rfl⟩) hK hN hP [0, 1, 2, 3, 4, 5, 6, 7] rfl 5 3 rfl rfl rfl hl.1 rfl (Nat.le_of_ble_eq_true rfl) ⟨Nat.zero_le _, Nat.zero_le _⟩ dX6_frame_27 ?_
    refine nv_ifb_ne (tgt := 35) hx hb dX6_frame_30 (by decide) (fun c30 => ?_) (fun c30 => ?_)
    · refine lv_aload_n hx hb dX6_frame_35 rfl (lv_at hl 0 rfl) ?_
      refine va_get (D := D) (ci := 6) (v := .ref (ad 16)) (C := RX6) (T := TX6) (N := 7) hx hb hts hiX6 hown hK hP 12 rfl rfl 4 (by decide) hf44 (fun _ h9 => h9) rfl dX6_frame_36 ?_
      refine lv_iload_n hx hb dX6_frame_39 rfl (lv_at hl 1 rfl) ?_
      refine lv_iload_n hx hb dX6_frame_40 rfl (lv_at hl 2 rfl) ?_
      refine lv_iload_n hx hb dX6_frame_41 rfl (lv_at hl 3 rfl) ?_
      refine lv_iload hx hb dX6_frame_42 (lv_at hl 4 rfl) ?_
      refine ctW_V (As := [.int (nI ja), .int (nI jb), .int (nI jc), .int (nI jd)]) (rest := []) (wr := [(ad 26, .inr (6, [.ref (ad 0), .ref (ad 5), .ref (ad 8), .ref (ad 12), .ref (ad 16), .ref (ad 20), .ref (ad 24)]))]) ⟨hx, hb, hml, hown, hts⟩ (c_X2_takeFrame l D cI cZ ad q sm pr op iv hF tr ro hT (fun k => ad (16 + k)) mm me rc ja jb jc jd (by omega) (by omega) (by omega) (by omega)) (cwV 4 hts gX6_frame_X2_takeFrame rfl rfl rfl hdV_X2_takeFrame ⟨Nat.le_of_ble_eq_true rfl, Nat.le_of_ble_eq_true rfl⟩) hK hN hP hD hS hA [0, 1, 2, 3, 4, 5, 6, 7, 8, 9, 10, 11] [12] rfl rfl rfl (by decide) (by decide) (by decide) 8 2 rfl rfl rfl hl.1 rfl (Nat.le_of_ble_eq_true rfl) ⟨Nat.zero_le _, Nat.zero_le _⟩ dX6_frame_44 (fun u H locs hu44 hP hD hS => ?_)
      obtain ⟨mm_1, me_2⟩ := u
      try dsimp only at hu44
      have hP : va_P D vwCl [(ad 0, .inr (1, [.int (nI q), .ref (ad 1), .ref (ad 2), .ref (ad 3), .ref (ad 4)])), (ad 1, .inl (cI, 81, .inl (nF sm))), (ad 2, .inl (cI, 81, .inl (nF pr))), (ad 3, .inl (cI, 9, .inl (nF op))), (ad 4, .inl (cI, 9, .inl (nF iv))), (ad 5, .inr (3, [.ref (ad 0), .int (nI (nn q)), .ref (ad 6), .ref (ad 7)])), (ad 6, .inl (cI, 273, .inl (nF tr))), (ad 7, .inl (cI, 910, .inl (nF ro))), (ad 16, .inr (2, [.ref (ad 5), .ref (ad 0), .ref (ad 17), .ref (ad 18), .ref (ad 19)])), (ad 17, .inl (cI, 9, .inl (nF mm_1))), (ad 18, .inl (cI, 9, .inl (nF me_2))), (ad 19, .inl (cZ, 91, .inl (bF rc))), (ad 26, .inr (6, [.ref (ad 0), .ref (ad 5), .ref (ad 8), .ref (ad 12), .ref (ad 16), .ref (ad 20), .ref (ad 24)]))] H := hP.sub [1, 2, 3, 4, 5, 6, 7, 8, 9, 10, 11, 12, 0] rfl
      have hD : va_D A [(ad 0, .inr (1, [.int (nI q), .ref (ad 1), .ref (ad 2), .ref (ad 3), .ref (ad 4)])), (ad 1, .inl (cI, 81, .inl (nF sm))), (ad 2, .inl (cI, 81, .inl (nF pr))), (ad 3, .inl (cI, 9, .inl (nF op))), (ad 4, .inl (cI, 9, .inl (nF iv))), (ad 5, .inr (3, [.ref (ad 0), .int (nI (nn q)), .ref (ad 6), .ref (ad 7)])), (ad 6, .inl (cI, 273, .inl (nF tr))), (ad 7, .inl (cI, 910, .inl (nF ro))), (ad 16, .inr (2, [.ref (ad 5), .ref (ad 0), .ref (ad 17), .ref (ad 18), .ref (ad 19)])), (ad 17, .inl (cI, 9, .inl (nF mm_1))), (ad 18, .inl (cI, 9, .inl (nF me_2))), (ad 19, .inl (cZ, 91, .inl (bF rc))), (ad 26, .inr (6, [.ref (ad 0), .ref (ad 5), .ref (ad 8), .ref (ad 12), .ref (ad 16), .ref (ad 20), .ref (ad 24)]))] := hD.sub [1, 2, 3, 4, 5, 6, 7, 8, 9, 10, 11, 12, 0] (by decide) rfl
      refine W.eq (g2 := F0 m 47 ls []) rfl ?_
      refine lv_iconst (v := nI 1) hx hb dX6_frame_47 (by decide) ?_
      exact ctW_retI (v := (nI 1)) (mm_1, me_2) hx hb hr rfl dX6_frame_48 hlocks hS hP hD (by dsimp only; exact (fun t ht => by rw [fraM, if_neg (bool_nf h1), nv_nI (show ja < 2 ^ 31 by omega), nv_nI (show jb < 2 ^ 31 by omega), nv_nI (show jc < 2 ^ 31 by omega), nv_nI (show jd < 2 ^ 31 by omega), if_neg (bool_nf c30)]; exact hu44 t ht)) (by rw [fraZ, if_neg (bool_nf h1), nv_nI (show ja < 2 ^ 31 by omega), nv_nI (show jb < 2 ^ 31 by omega), nv_nI (show jc < 2 ^ 31 by omega), nv_nI (show jd < 2 ^ 31 by omega), if_neg (bool_nf c30)])
    · refine lv_iconst (v := (-1)) hx hb dX6_frame_33 (by decide) ?_
      exact ctW_retI (v := (-1)) (mm, me) hx hb hr rfl dX6_frame_34 hlocks hS hP hD (by dsimp only; exact (fun t _ => by rw [fraM, if_neg (bool_nf h1), nv_nI (show ja < 2 ^ 31 by omega), nv_nI (show jb < 2 ^ 31 by omega), nv_nI (show jc < 2 ^ 31 by omega), nv_nI (show jd < 2 ^ 31 by omega), if_pos c30])) (by rw [fraZ, if_neg (bool_nf h1), nv_nI (show ja < 2 ^ 31 by omega), nv_nI (show jb < 2 ^ 31 by omega), nv_nI (show jc < 2 ^ 31 by omega), nv_nI (show jd < 2 ^ 31 by omega), if_pos c30])
  · refine lv_bipush (v := (-2)) hx hb dX6_frame_15 (by decide) ?_
    exact ctW_retI (v := (-2)) (mm, me) hx hb hr rfl dX6_frame_17 hlocks hS hP hD (by dsimp only; exact (fun t _ => by rw [fraM, if_pos c12])) (by rw [fraZ, if_pos c12])

set_option maxHeartbeats 4000000 in
set_option maxRecDepth 100000 in
theorem c_X6_behind (l : Launch) (D : va_G) (cI cZ : ClassId) (ad : Nat → Nat) (q : Nat) (sm : Nat → Nat) (pr : Nat → Nat) (op : Nat → Nat) (iv : Nat → Nat) (hF : FOK q sm pr op iv) (tr : Nat → Nat) (ro : Nat → Nat) (hT : TOK q tr) (mm : Nat → Nat) (me : Nat → Nat) (rc : Nat → Bool) (k_m : MPK q mm) (fm : Nat → Nat) (fe : Nat → Nat) (fr : Nat → Bool) (xa : Int32) (xb : Int32) (xc : Int32) (xd : Int32) : CtW (S := (Nat → Nat) × (Nat → Nat) × (Nat → Nat) × (Nat → Nat)) l yX6_behind wsX6_behind { frames := 5, cells := 0, slots := 0, locals := 120 } D (tyG cI cZ) [.ref (ad 26), .int xa, .int xb, .int xc, .int xd] [(ad 0, .inr (1, [.int (nI q), .ref (ad 1), .ref (ad 2), .ref (ad 3), .ref (ad 4)])), (ad 1, .inl (cI, 81, .inl (nF sm))), (ad 2, .inl (cI, 81, .inl (nF pr))), (ad 3, .inl (cI, 9, .inl (nF op))), (ad 4, .inl (cI, 9, .inl (nF iv))), (ad 5, .inr (3, [.ref (ad 0), .int (nI (nn q)), .ref (ad 6), .ref (ad 7)])), (ad 6, .inl (cI, 273, .inl (nF tr))), (ad 7, .inl (cI, 910, .inl (nF ro))), (ad 16, .inr (2, [.ref (ad 5), .ref (ad 0), .ref (ad 17), .ref (ad 18), .ref (ad 19)])), (ad 17, .inl (cI, 9, .inl (nF mm))), (ad 18, .inl (cI, 9, .inl (nF me))), (ad 19, .inl (cZ, 91, .inl (bF rc))), (ad 20, .inr (2, [.ref (ad 5), .ref (ad 0), .ref (ad 21), .ref (ad 22), .ref (ad 23)])), (ad 21, .inl (cI, 9, .inl (nF fm))), (ad 22, .inl (cI, 9, .inl (nF fe))), (ad 23, .inl (cZ, 91, .inl (bF fr))), (ad 26, .inr (6, [.ref (ad 0), .ref (ad 5), .ref (ad 8), .ref (ad 12), .ref (ad 16), .ref (ad 20), .ref (ad 24)]))] (fun u => (fun (mm3 : Nat → Nat) (me3 : Nat → Nat) (fm3 : Nat → Nat) (fe3 : Nat → Nat) => ∀ t, t < 9 → mm3 t = behM q mm xa xb xc xd t) u.1 u.2.1 u.2.2.1 u.2.2.2) (fun u => (fun (mm3 : Nat → Nat) (me3 : Nat → Nat) (fm3 : Nat → Nat) (fe3 : Nat → Nat) => some (.int (behZ q mm xa xb xc xd))) u.1 u.2.1 u.2.2.1 u.2.2.2) (fun u => (fun (mm3 : Nat → Nat) (me3 : Nat → Nat) (fm3 : Nat → Nat) (fe3 : Nat → Nat) => [(ad 0, .inr (1, [.int (nI q), .ref (ad 1), .ref (ad 2), .ref (ad 3), .ref (ad 4)])), (ad 1, .inl (cI, 81, .inl (nF sm))), (ad 2, .inl (cI, 81, .inl (nF pr))), (ad 3, .inl (cI, 9, .inl (nF op))), (ad 4, .inl (cI, 9, .inl (nF iv))), (ad 5, .inr (3, [.ref (ad 0), .int (nI (nn q)), .ref (ad 6), .ref (ad 7)])), (ad 6, .inl (cI, 273, .inl (nF tr))), (ad 7, .inl (cI, 910, .inl (nF ro))), (ad 16, .inr (2, [.ref (ad 5), .ref (ad 0), .ref (ad 17), .ref (ad 18), .ref (ad 19)])), (ad 17, .inl (cI, 9, .inl (nF mm3))), (ad 18, .inl (cI, 9, .inl (nF me3))), (ad 19, .inl (cZ, 91, .inl (bF rc))), (ad 20, .inr (2, [.ref (ad 5), .ref (ad 0), .ref (ad 21), .ref (ad 22), .ref (ad 23)])), (ad 21, .inl (cI, 9, .inl (nF fm3))), (ad 22, .inl (cI, 9, .inl (nF fe3))), (ad 23, .inl (cZ, 91, .inl (bF fr))), (ad 26, .inr (6, [.ref (ad 0), .ref (ad 5), .ref (ad 8), .ref (ad 12), .ref (ad 16), .ref (ad 20), .ref (ad 24)]))]) u.1 u.2.1 u.2.2.1 u.2.2.2) := by
  intro sz; refine Met.ofW (cc := cX6_behind) (maxL := 5) (ret := some .int) (by decide) rfl ?_
  intro p e s m args below meth c s₁ B hml hv
  obtain ⟨rfl, hsz, hP, hK, hD0, hN⟩ := hv
  have hx := B.exec
  have hb := B.bytes
  have hr := B.returns
  have hts := atoms_spec (ws := wsX6_behind) B.pre
  have hown : s.vm.findClass RX6 = some m.cls := findClass_of_methodNamed B.named
  have hlocks := B.notSynchronized
  subst hsz
  have hD := hD0.self (sz := s.heap.size)
  generalize hAe : va_A [(ad 0, .inr (1, [.int (nI q), .ref (ad 1), .ref (ad 2), .ref (ad 3), .ref (ad 4)])), (ad 1, .inl (cI, 81, .inl (nF sm))), (ad 2, .inl (cI, 81, .inl (nF pr))), (ad 3, .inl (cI, 9, .inl (nF op))), (ad 4, .inl (cI, 9, .inl (nF iv))), (ad 5, .inr (3, [.ref (ad 0), .int (nI (nn q)), .ref (ad 6), .ref (ad 7)])), (ad 6, .inl (cI, 273, .inl (nF tr))), (ad 7, .inl (cI, 910, .inl (nF ro))), (ad 16, .inr (2, [.ref (ad 5), .ref (ad 0), .ref (ad 17), .ref (ad 18), .ref (ad 19)])), (ad 17, .inl (cI, 9, .inl (nF mm))), (ad 18, .inl (cI, 9, .inl (nF me))), (ad 19, .inl (cZ, 91, .inl (bF rc))), (ad 20, .inr (2, [.ref (ad 5), .ref (ad 0), .ref (ad 21), .ref (ad 22), .ref (ad 23)])), (ad 21, .inl (cI, 9, .inl (nF fm))), (ad 22, .inl (cI, 9, .inl (nF fe))), (ad 23, .inl (cZ, 91, .inl (bF fr))), (ad 26, .inr (6, [.ref (ad 0), .ref (ad 5), .ref (ad 8), .ref (ad 12), .ref (ad 16), .ref (ad 20), .ref (ad 24)]))] s.heap.size = A at hD ⊢
  have hA : ∀ q : Nat, s.heap.size ≤ q → A q := fun q h => by rw [← hAe]; exact Or.inr h
  have hS : va_S A s.heap s.heap [] := va_S.rf
  have hP : va_P D vwCl [(ad 0, .inr (1, [.int (nI q), .ref (ad 1), .ref (ad 2), .ref (ad 3), .ref (ad 4)])), (ad 1, .inl (cI, 81, .inl (nF sm))), (ad 2, .inl (cI, 81, .inl (nF pr))), (ad 3, .inl (cI, 9, .inl (nF op))), (ad 4, .inl (cI, 9, .inl (nF iv))), (ad 5, .inr (3, [.ref (ad 0), .int (nI (nn q)), .ref (ad 6), .ref (ad 7)])), (ad 6, .inl (cI, 273, .inl (nF tr))), (ad 7, .inl (cI, 910, .inl (nF ro))), (ad 16, .inr (2, [.ref (ad 5), .ref (ad 0), .ref (ad 17), .ref (ad 18), .ref (ad 19)])), (ad 17, .inl (cI, 9, .inl (nF mm))), (ad 18, .inl (cI, 9, .inl (nF me))), (ad 19, .inl (cZ, 91, .inl (bF rc))), (ad 20, .inr (2, [.ref (ad 5), .ref (ad 0), .ref (ad 21), .ref (ad 22), .ref (ad 23)])), (ad 21, .inl (cI, 9, .inl (nF fm))), (ad 22, .inl (cI, 9, .inl (nF fe))), (ad 23, .inl (cZ, 91, .inl (bF fr))), (ad 26, .inr (6, [.ref (ad 0), .ref (ad 5), .ref (ad 8), .ref (ad 12), .ref (ad 16), .ref (ad 20), .ref (ad 24)]))] s.heap := hP
  have hf21 := hts (.fieldLink RX6 21 "FinitePlanes" "plane" "LFinitePlanes$Plane;") (by decide +kernel)
  have hf44 := hts (.fieldLink RX6 44 "FinitePlanes" "map" "LFinitePlanes$Mapping;") (by decide +kernel)
  have hf48 := hts (.fieldLink RX6 48 "FinitePlanes" "framing" "LFinitePlanes$Mapping;") (by decide +kernel)
  have hiX6 : ∀ w ∈ u_ws RX6 TX6 7, w ∈ wsX6_behind := by decide +kernel
  have hl := lv_entry ([.ref (ad 26), .int xa, .int xb, .int xc, .int xd]) (n := 5) (Nat.le_of_ble_eq_true rfl)
  rw [lg_entry_eq]
  generalize (lg_sl ([.ref (ad 26), .int xa, .int xb, .int xc, .int xd]) ++ List.replicate (5 - (lg_sl ([.ref (ad 26), .int xa, .int xb, .int xc, .int xd])).length) Slot.unset).toArray = ls at hl ⊢
  have hl : lv_has ls 5 [(0, .ref (ad 26)), (1, .int xa), (2, .int xb), (3, .int xc), (4, .int xd)] := hl
  have hq2 := qs_le hF.1
  have hn2 := nn_le hF.1
  refine lv_aload_n hx hb dX6_behind_0 rfl (lv_at hl 0 rfl) ?_
  refine va_get (D := D) (ci := 6) (v := .ref (ad 5)) (C := RX6) (T := TX6) (N := 7) hx hb hts hiX6 hown hK hP 16 rfl rfl 1 (by decide) hf21 (fun _ h9 => h9) rfl dX6_behind_1 ?_
  refine lv_iload_n hx hb dX6_behind_4 rfl (lv_at hl 1 rfl) ?_
  refine lv_iload_n hx hb dX6_behind_5 rfl (lv_at hl 2 rfl) ?_
  refine lv_iload_n hx hb dX6_behind_6 rfl (lv_at hl 3 rfl) ?_
  refine lv_iload hx hb dX6_behind_7 (lv_at hl 4 rfl) ?_
  refine ctR_V (As := [.int xa, .int xb, .int xc, .int xd]) (rest := []) (r := .int (nI (inB xa (nn q) && inB xb (nn q) && inB xc (nn q) && inB xd (nn q)).toNat)) ⟨hx, hb, hml, hown, hts⟩ (c_X3_hasFour l D cI cZ ad q sm pr op iv hF tr ro hT xa xb xc xd) (cwV 4 hts gX6_behind_X3_hasFour rfl rfl rfl hdV_X3_hasFour ⟨Nat.le_of_ble_eq_true rfl, Nat.le_of_ble_eq_true rfl⟩) hK hN hP [0, 1, 2, 3, 4, 5, 6, 7] rfl 5 3 rfl rfl rfl hl.1 rfl (Nat.le_of_ble_eq_true rfl) ⟨Nat.zero_le _, Nat.zero_le _⟩ dX6_behind_9 ?_
  refine nv_ifb_ne (tgt := 18) hx hb dX6_behind_12 (by decide) (fun c12 => ?_) (fun c12 => ?_)
  · have h1 := c12
    have h4 := and4 c12
    obtain ⟨ja, hja, rfl⟩ := inB_of (by omega) h4.1
    obtain ⟨jb, hjb, rfl⟩ := inB_of (by omega) h4.2.1
    obtain ⟨jc, hjc, rfl⟩ := inB_of (by omega) h4.2.2.1
    obtain ⟨jd, hjd, rfl⟩ := inB_of (by omega) h4.2.2.2
    refine lv_aload_n hx hb dX6_behind_18 rfl (lv_at hl 0 rfl) ?_
    refine va_get (D := D) (ci := 6) (v := .ref (ad 5)) (C := RX6) (T := TX6) (N := 7) hx hb hts hiX6 hown hK hP 16 rfl rfl 1 (by decide) hf21 (fun _ h9 => h9) rfl dX6_behind_19 ?_
    refine lv_iload_n hx hb dX6_behind_22 rfl (lv_at hl 1 rfl) ?_
    refine lv_iload_n hx hb dX6_behind_23 rfl (lv_at hl 2 rfl) ?_
    refine lv_iload_n hx hb dX6_behind_24 rfl (lv_at hl 3 rfl) ?_
    refine lv_iload hx hb dX6_behind_25 (lv_at hl 4 rfl) ?_
    refine ctR_V (As := [.int (nI ja), .int (nI jb), .int (nI jc), .int (nI jd)]) (rest := []) (r := .int (nI (frq q ja jb jc jd).toNat)) ⟨hx, hb, hml, hown, hts⟩ (c_X3_isFrame l D cI cZ ad q sm pr op iv hF tr ro hT ja jb jc jd (by omega) (by omega) (by omega) (by omega)) (cwV 4 hts gX6_behind_X3_isFrame rfl rfl rfl hdV_X3_isFrame ⟨Nat.le_of_ble_eq_true rfl, Nat.le_of_ble_eq_true rfl⟩) hK hN hP [0, 1, 2, 3, 4, 5, 6, 7] rfl 5 3 rfl rfl rfl hl.1 rfl (Nat.le_of_ble_eq_true rfl) ⟨Nat.zero_le _, Nat.zero_le _⟩ dX6_behind_27 ?_
    refine nv_ifb_ne (tgt := 35) hx hb dX6_behind_30 (by decide) (fun c30 => ?_) (fun c30 => ?_)
    · refine lv_aload_n hx hb dX6_behind_35 rfl (lv_at hl 0 rfl) ?_
      refine va_get (D := D) (ci := 6) (v := .ref (ad 16)) (C := RX6) (T := TX6) (N := 7) hx hb hts hiX6 hown hK hP 16 rfl rfl 4 (by decide) hf44 (fun _ h9 => h9) rfl dX6_behind_36 ?_
      refine ctR_V (As := []) (rest := []) (r := .int (nI (detq q mm))) ⟨hx, hb, hml, hown, hts⟩ (c_X2_det l D cI cZ ad q sm pr op iv hF tr ro hT (fun k => ad (16 + k)) mm me rc k_m) (cwV 0 hts gX6_behind_X2_det rfl rfl rfl hdV_X2_det ⟨Nat.le_of_ble_eq_true rfl, Nat.le_of_ble_eq_true rfl⟩) hK hN hP [0, 1, 2, 3, 4, 5, 6, 7, 8, 9, 10, 11] rfl 8 2 rfl rfl rfl hl.1 rfl (Nat.le_of_ble_eq_true rfl) ⟨Nat.zero_le _, Nat.zero_le _⟩ dX6_behind_39 ?_
      have hh_1 : detq q mm < q := detq_lt hF.1 k_m
      refine nv_if_ne (tgt := 48) hx hb (by omega) dX6_behind_42 (by decide) (fun c42 => ?_) (fun c42 => ?_)
      · refine lv_aload_n hx hb dX6_behind_48 rfl (lv_at hl 0 rfl) ?_
        refine va_get (D := D) (ci := 6) (v := .ref (ad 20)) (C := RX6) (T := TX6) (N := 7) hx hb hts hiX6 hown hK hP 16 rfl rfl 5 (by decide) hf48 (fun _ h9 => h9) rfl dX6_behind_49 ?_
        refine lv_iload_n hx hb dX6_behind_52 rfl (lv_at hl 1 rfl) ?_
        refine lv_iload_n hx hb dX6_behind_53 rfl (lv_at hl 2 rfl) ?_
        refine lv_iload_n hx hb dX6_behind_54 rfl (lv_at hl 3 rfl) ?_
        refine lv_iload hx hb dX6_behind_55 (lv_at hl 4 rfl) ?_
        refine ctW_V (As := [.int (nI ja), .int (nI jb), .int (nI jc), .int (nI jd)]) (rest := []) (wr := [(ad 16, .inr (2, [.ref (ad 5), .ref (ad 0), .ref (ad 17), .ref (ad 18), .ref (ad 19)])), (ad 17, .inl (cI, 9, .inl (nF mm))), (ad 18, .inl (cI, 9, .inl (nF me))), (ad 19, .inl (cZ, 91, .inl (bF rc))), (ad 26, .inr (6, [.ref (ad 0), .ref (ad 5), .ref (ad 8), .ref (ad 12), .ref (ad 16), .ref (ad 20), .ref (ad 24)]))]) ⟨hx, hb, hml, hown, hts⟩ (c_X2_takeFrame l D cI cZ ad q sm pr op iv hF tr ro hT (fun k => ad (20 + k)) fm fe fr ja jb jc jd (by omega) (by omega) (by omega) (by omega)) (cwV 4 hts gX6_behind_X2_takeFrame rfl rfl rfl hdV_X2_takeFrame ⟨Nat.le_of_ble_eq_true rfl, Nat.le_of_ble_eq_true rfl⟩) hK hN hP hD hS hA [0, 1, 2, 3, 4, 5, 6, 7, 12, 13, 14, 15] [8, 9, 10, 11, 16] rfl rfl rfl (by decide) (by decide) (by decide) 12 2 rfl rfl rfl hl.1 rfl (Nat.le_of_ble_eq_true rfl) ⟨Nat.zero_le _, Nat.zero_le _⟩ dX6_behind_57 (fun u H locs hu57 hP hD hS => ?_)
        obtain ⟨mm_2, me_3⟩ := u
        try dsimp only at hu57
        have hP : va_P D vwCl [(ad 0, .inr (1, [.int (nI q), .ref (ad 1), .ref (ad 2), .ref (ad 3), .ref (ad 4)])), (ad 1, .inl (cI, 81, .inl (nF sm))), (ad 2, .inl (cI, 81, .inl (nF pr))), (ad 3, .inl (cI, 9, .inl (nF op))), (ad 4, .inl (cI, 9, .inl (nF iv))), (ad 5, .inr (3, [.ref (ad 0), .int (nI (nn q)), .ref (ad 6), .ref (ad 7)])), (ad 6, .inl (cI, 273, .inl (nF tr))), (ad 7, .inl (cI, 910, .inl (nF ro))), (ad 16, .inr (2, [.ref (ad 5), .ref (ad 0), .ref (ad 17), .ref (ad 18), .ref (ad 19)])), (ad 17, .inl (cI, 9, .inl (nF mm))), (ad 18, .inl (cI, 9, .inl (nF me))), (ad 19, .inl (cZ, 91, .inl (bF rc))), (ad 20, .inr (2, [.ref (ad 5), .ref (ad 0), .ref (ad 21), .ref (ad 22), .ref (ad 23)])), (ad 21, .inl (cI, 9, .inl (nF mm_2))), (ad 22, .inl (cI, 9, .inl (nF me_3))), (ad 23, .inl (cZ, 91, .inl (bF fr))), (ad 26, .inr (6, [.ref (ad 0), .ref (ad 5), .ref (ad 8), .ref (ad 12), .ref (ad 16), .ref (ad 20), .ref (ad 24)]))] H := hP.sub [5, 6, 7, 8, 9, 10, 11, 12, 0, 1, 2, 3, 13, 14, 15, 16, 4] rfl
        have hD : va_D A [(ad 0, .inr (1, [.int (nI q), .ref (ad 1), .ref (ad 2), .ref (ad 3), .ref (ad 4)])), (ad 1, .inl (cI, 81, .inl (nF sm))), (ad 2, .inl (cI, 81, .inl (nF pr))), (ad 3, .inl (cI, 9, .inl (nF op))), (ad 4, .inl (cI, 9, .inl (nF iv))), (ad 5, .inr (3, [.ref (ad 0), .int (nI (nn q)), .ref (ad 6), .ref (ad 7)])), (ad 6, .inl (cI, 273, .inl (nF tr))), (ad 7, .inl (cI, 910, .inl (nF ro))), (ad 16, .inr (2, [.ref (ad 5), .ref (ad 0), .ref (ad 17), .ref (ad 18), .ref (ad 19)])), (ad 17, .inl (cI, 9, .inl (nF mm))), (ad 18, .inl (cI, 9, .inl (nF me))), (ad 19, .inl (cZ, 91, .inl (bF rc))), (ad 20, .inr (2, [.ref (ad 5), .ref (ad 0), .ref (ad 21), .ref (ad 22), .ref (ad 23)])), (ad 21, .inl (cI, 9, .inl (nF mm_2))), (ad 22, .inl (cI, 9, .inl (nF me_3))), (ad 23, .inl (cZ, 91, .inl (bF fr))), (ad 26, .inr (6, [.ref (ad 0), .ref (ad 5), .ref (ad 8), .ref (ad 12), .ref (ad 16), .ref (ad 20), .ref (ad 24)]))] := hD.sub [5, 6, 7, 8, 9, 10, 11, 12, 0, 1, 2, 3, 13, 14, 15, 16, 4] (by decide) rfl
        refine W.eq (g2 := F0 m 60 ls []) rfl ?_
        refine lv_aload_n hx hb dX6_behind_60 rfl (lv_at hl 0 rfl) ?_
        refine va_get (D := D) (ci := 6) (v := .ref (ad 16)) (C := RX6) (T := TX6) (N := 7) hx hb hts hiX6 hown hK hP 16 rfl rfl 4 (by decide) hf44 (fun _ h9 => h9) rfl dX6_behind_61 ?_
        refine lv_aload_n hx hb dX6_behind_64 rfl (lv_at hl 0 rfl) ?_
        refine va_get (D := D) (ci := 6) (v := .ref (ad 20)) (C := RX6) (T := TX6) (N := 7) hx hb hts hiX6 hown hK hP 16 rfl rfl 5 (by decide) hf48 (fun _ h9 => h9) rfl dX6_behind_65 ?_
        refine ctW_V (As := [.ref (ad 20)]) (rest := []) (wr := [(ad 22, .inl (cI, 9, .inl (nF me_3))), (ad 23, .inl (cZ, 91, .inl (bF fr))), (ad 26, .inr (6, [.ref (ad 0), .ref (ad 5), .ref (ad 8), .ref (ad 12), .ref (ad 16), .ref (ad 20), .ref (ad 24)]))]) ⟨hx, hb, hml, hown, hts⟩ (c_X2_goBehind l D cI cZ ad q sm pr op iv hF tr ro hT (fun k => ad (16 + k)) mm me rc (fun k => ad (20 + k)) mm_2 k_m (fun t ht => by rw [hu57 t ht]; exact tld_lt hF.1 ht (fun t ht => col_lt hF.1 hja hjb hjc hjd ht))) (cwV 1 hts gX6_behind_X2_goBehind rfl rfl rfl hdV_X2_goBehind ⟨Nat.le_of_ble_eq_true rfl, Nat.le_of_ble_eq_true rfl⟩) hK hN hP hD hS hA [0, 1, 2, 3, 4, 5, 6, 7, 8, 9, 10, 11, 12, 13] [14, 15, 16] rfl rfl rfl (by decide) (by decide) (by decide) 8 2 rfl rfl rfl hl.1 rfl (Nat.le_of_ble_eq_true rfl) ⟨Nat.zero_le _, Nat.zero_le _⟩ dX6_behind_68 (fun u H locs hu68 hP hD hS => ?_)
        obtain ⟨mm_4, me_5⟩ := u
        try dsimp only at hu68
        have hP : va_P D vwCl [(ad 0, .inr (1, [.int (nI q), .ref (ad 1), .ref (ad 2), .ref (ad 3), .ref (ad 4)])), (ad 1, .inl (cI, 81, .inl (nF sm))), (ad 2, .inl (cI, 81, .inl (nF pr))), (ad 3, .inl (cI, 9, .inl (nF op))), (ad 4, .inl (cI, 9, .inl (nF iv))), (ad 5, .inr (3, [.ref (ad 0), .int (nI (nn q)), .ref (ad 6), .ref (ad 7)])), (ad 6, .inl (cI, 273, .inl (nF tr))), (ad 7, .inl (cI, 910, .inl (nF ro))), (ad 16, .inr (2, [.ref (ad 5), .ref (ad 0), .ref (ad 17), .ref (ad 18), .ref (ad 19)])), (ad 17, .inl (cI, 9, .inl (nF mm_4))), (ad 18, .inl (cI, 9, .inl (nF me_5))), (ad 19, .inl (cZ, 91, .inl (bF rc))), (ad 20, .inr (2, [.ref (ad 5), .ref (ad 0), .ref (ad 21), .ref (ad 22), .ref (ad 23)])), (ad 21, .inl (cI, 9, .inl (nF mm_2))), (ad 22, .inl (cI, 9, .inl (nF me_3))), (ad 23, .inl (cZ, 91, .inl (bF fr))), (ad 26, .inr (6, [.ref (ad 0), .ref (ad 5), .ref (ad 8), .ref (ad 12), .ref (ad 16), .ref (ad 20), .ref (ad 24)]))] H := hP.sub [3, 4, 5, 6, 7, 8, 9, 10, 11, 12, 13, 14, 15, 16, 0, 1, 2] rfl
        have hD : va_D A [(ad 0, .inr (1, [.int (nI q), .ref (ad 1), .ref (ad 2), .ref (ad 3), .ref (ad 4)])), (ad 1, .inl (cI, 81, .inl (nF sm))), (ad 2, .inl (cI, 81, .inl (nF pr))), (ad 3, .inl (cI, 9, .inl (nF op))), (ad 4, .inl (cI, 9, .inl (nF iv))), (ad 5, .inr (3, [.ref (ad 0), .int (nI (nn q)), .ref (ad 6), .ref (ad 7)])), (ad 6, .inl (cI, 273, .inl (nF tr))), (ad 7, .inl (cI, 910, .inl (nF ro))), (ad 16, .inr (2, [.ref (ad 5), .ref (ad 0), .ref (ad 17), .ref (ad 18), .ref (ad 19)])), (ad 17, .inl (cI, 9, .inl (nF mm_4))), (ad 18, .inl (cI, 9, .inl (nF me_5))), (ad 19, .inl (cZ, 91, .inl (bF rc))), (ad 20, .inr (2, [.ref (ad 5), .ref (ad 0), .ref (ad 21), .ref (ad 22), .ref (ad 23)])), (ad 21, .inl (cI, 9, .inl (nF mm_2))), (ad 22, .inl (cI, 9, .inl (nF me_3))), (ad 23, .inl (cZ, 91, .inl (bF fr))), (ad 26, .inr (6, [.ref (ad 0), .ref (ad 5), .ref (ad 8), .ref (ad 12), .ref (ad 16), .ref (ad 20), .ref (ad 24)]))] := hD.sub [3, 4, 5, 6, 7, 8, 9, 10, 11, 12, 13, 14, 15, 16, 0, 1, 2] (by decide) rfl
        refine W.eq (g2 := F0 m 71 ls []) rfl ?_
        refine lv_iconst (v := nI 1) hx hb dX6_behind_71 (by decide) ?_
        exact ctW_retI (v := (nI 1)) (mm_4, me_5, mm_2, me_3) hx hb hr rfl dX6_behind_72 hlocks hS hP hD (by dsimp only; exact (fun t ht => by rw [behM, if_neg (bool_nf h1), nv_nI (show ja < 2 ^ 31 by omega), nv_nI (show jb < 2 ^ 31 by omega), nv_nI (show jc < 2 ^ 31 by omega), nv_nI (show jd < 2 ^ 31 by omega), if_neg (bool_nf c30), if_neg c42, hu68 t ht]; exact tld_congr ht (mul_congr (fun t ht => hu57 t ht)))) (by rw [behZ, if_neg (bool_nf h1), nv_nI (show ja < 2 ^ 31 by omega), nv_nI (show jb < 2 ^ 31 by omega), nv_nI (show jc < 2 ^ 31 by omega), nv_nI (show jd < 2 ^ 31 by omega), if_neg (bool_nf c30), if_neg c42])
      · refine lv_bipush (v := (-3)) hx hb dX6_behind_45 (by decide) ?_
        exact ctW_retI (v := (-3)) (mm, me, fm, fe) hx hb hr rfl dX6_behind_47 hlocks hS hP hD (by dsimp only; exact (fun t _ => by rw [behM, if_neg (bool_nf h1), nv_nI (show ja < 2 ^ 31 by omega), nv_nI (show jb < 2 ^ 31 by omega), nv_nI (show jc < 2 ^ 31 by omega), nv_nI (show jd < 2 ^ 31 by omega), if_neg (bool_nf c30), if_pos c42])) (by rw [behZ, if_neg (bool_nf h1), nv_nI (show ja < 2 ^ 31 by omega), nv_nI (show jb < 2 ^ 31 by omega), nv_nI (show jc < 2 ^ 31 by omega), nv_nI (show jd < 2 ^ 31 by omega), if_neg (bool_nf c30), if_pos c42])
    · refine lv_iconst (v := (-1)) hx hb dX6_behind_33 (by decide) ?_
      exact ctW_retI (v := (-1)) (mm, me, fm, fe) hx hb hr rfl dX6_behind_34 hlocks hS hP hD (by dsimp only; exact (fun t _ => by rw [behM, if_neg (bool_nf h1), nv_nI (show ja < 2 ^ 31 by omega), nv_nI (show jb < 2 ^ 31 by omega), nv_nI (show jc < 2 ^ 31 by omega), nv_nI (show jd < 2 ^ 31 by omega), if_pos c30])) (by rw [behZ, if_neg (bool_nf h1), nv_nI (show ja < 2 ^ 31 by omega), nv_nI (show jb < 2 ^ 31 by omega), nv_nI (show jc < 2 ^ 31 by omega), nv_nI (show jd < 2 ^ 31 by omega), if_pos c30])
  · refine lv_bipush (v := (-2)) hx hb dX6_behind_15 (by decide) ?_
    exact ctW_retI (v := (-2)) (mm, me, fm, fe) hx hb hr rfl dX6_behind_17 hlocks hS hP hD (by dsimp only; exact (fun t _ => by rw [behM, if_pos c12])) (by rw [behZ, if_pos c12])

set_option maxHeartbeats 4000000 in
set_option maxRecDepth 100000 in
theorem c_X6_ratio (l : Launch) (D : va_G) (cI cZ : ClassId) (ad : Nat → Nat) (q : Nat) (sm : Nat → Nat) (pr : Nat → Nat) (op : Nat → Nat) (iv : Nat → Nat) (hF : FOK q sm pr op iv) (tr : Nat → Nat) (ro : Nat → Nat) (hT : TOK q tr) (xa : Int32) (xb : Int32) (xc : Int32) (xd : Int32) : CtR l yX6_ratio wsX6_ratio { frames := 4, cells := 0, slots := 0, locals := 97 } D (tyG cI cZ) [.ref (ad 26), .int xa, .int xb, .int xc, .int xd] [(ad 0, .inr (1, [.int (nI q), .ref (ad 1), .ref (ad 2), .ref (ad 3), .ref (ad 4)])), (ad 1, .inl (cI, 81, .inl (nF sm))), (ad 2, .inl (cI, 81, .inl (nF pr))), (ad 3, .inl (cI, 9, .inl (nF op))), (ad 4, .inl (cI, 9, .inl (nF iv))), (ad 5, .inr (3, [.ref (ad 0), .int (nI (nn q)), .ref (ad 6), .ref (ad 7)])), (ad 6, .inl (cI, 273, .inl (nF tr))), (ad 7, .inl (cI, 910, .inl (nF ro))), (ad 26, .inr (6, [.ref (ad 0), .ref (ad 5), .ref (ad 8), .ref (ad 12), .ref (ad 16), .ref (ad 20), .ref (ad 24)]))] (.int (rtoZ q xa xb xc xd)) := by
  refine Met.ofW (cc := cX6_ratio) (maxL := 5) (ret := some .int) (by decide) rfl ?_
  intro p e s m args below meth c s₁ B hml hv
  obtain ⟨rfl, hP, hK, hN⟩ := hv
  have hx := B.exec
  have hb := B.bytes
  have hr := B.returns
  have hts := atoms_spec (ws := wsX6_ratio) B.pre
  have hown : s.vm.findClass RX6 = some m.cls := findClass_of_methodNamed B.named
  have hlocks := B.notSynchronized
  have hf21 := hts (.fieldLink RX6 21 "FinitePlanes" "plane" "LFinitePlanes$Plane;") (by decide +kernel)
  have hiX6 : ∀ w ∈ u_ws RX6 TX6 7, w ∈ wsX6_ratio := by decide +kernel
  have hl := lv_entry ([.ref (ad 26), .int xa, .int xb, .int xc, .int xd]) (n := 5) (Nat.le_of_ble_eq_true rfl)
  rw [lg_entry_eq]
  generalize (lg_sl ([.ref (ad 26), .int xa, .int xb, .int xc, .int xd]) ++ List.replicate (5 - (lg_sl ([.ref (ad 26), .int xa, .int xb, .int xc, .int xd])).length) Slot.unset).toArray = ls at hl ⊢
  have hl : lv_has ls 5 [(0, .ref (ad 26)), (1, .int xa), (2, .int xb), (3, .int xc), (4, .int xd)] := hl
  have hq2 := qs_le hF.1
  have hn2 := nn_le hF.1
  refine lv_aload_n hx hb dX6_ratio_0 rfl (lv_at hl 0 rfl) ?_
  refine va_get (D := D) (ci := 6) (v := .ref (ad 5)) (C := RX6) (T := TX6) (N := 7) hx hb hts hiX6 hown hK hP 8 rfl rfl 1 (by decide) hf21 (fun _ h9 => h9) rfl dX6_ratio_1 ?_
  refine lv_iload_n hx hb dX6_ratio_4 rfl (lv_at hl 1 rfl) ?_
  refine lv_iload_n hx hb dX6_ratio_5 rfl (lv_at hl 2 rfl) ?_
  refine lv_iload_n hx hb dX6_ratio_6 rfl (lv_at hl 3 rfl) ?_
  refine lv_iload hx hb dX6_ratio_7 (lv_at hl 4 rfl) ?_
  refine ctR_V (As := [.int xa, .int xb, .int xc, .int xd]) (rest := []) (r := .int (nI (inB xa (nn q) && inB xb (nn q) && inB xc (nn q) && inB xd (nn q)).toNat)) ⟨hx, hb, hml, hown, hts⟩ (c_X3_hasFour l D cI cZ ad q sm pr op iv hF tr ro hT xa xb xc xd) (cwV 4 hts gX6_ratio_X3_hasFour rfl rfl rfl hdV_X3_hasFour ⟨Nat.le_of_ble_eq_true rfl, Nat.le_of_ble_eq_true rfl⟩) hK hN hP [0, 1, 2, 3, 4, 5, 6, 7] rfl 5 3 rfl rfl rfl hl.1 rfl (Nat.le_of_ble_eq_true rfl) ⟨Nat.zero_le _, Nat.zero_le _⟩ dX6_ratio_9 ?_
  refine nv_ifb_ne (tgt := 18) hx hb dX6_ratio_12 (by decide) (fun c12 => ?_) (fun c12 => ?_)
  · have h1 := c12
    have h4 := and4 c12
    obtain ⟨ja, hja, rfl⟩ := inB_of (by omega) h4.1
    obtain ⟨jb, hjb, rfl⟩ := inB_of (by omega) h4.2.1
    obtain ⟨jc, hjc, rfl⟩ := inB_of (by omega) h4.2.2.1
    obtain ⟨jd, hjd, rfl⟩ := inB_of (by omega) h4.2.2.2
    refine lv_iload_n hx hb dX6_ratio_18 rfl (lv_at hl 1 rfl) ?_
    refine lv_iload_n hx hb dX6_ratio_19 rfl (lv_at hl 2 rfl) ?_
    refine nv_icmp_eq (tgt := 60) hx hb (by omega) (by omega) dX6_ratio_20 (by decide) (fun c20 => ?_) (fun c20 => ?_)
    · refine lv_iconst (v := (-1)) hx hb dX6_ratio_60 (by decide) ?_
      exact ctR_ret (v := (-1)) hx hb hr rfl dX6_ratio_61 hlocks (by rw [rtoZ, if_neg (bool_nf h1), nv_nI (show ja < 2 ^ 31 by omega), nv_nI (show jb < 2 ^ 31 by omega), nv_nI (show jc < 2 ^ 31 by omega), nv_nI (show jd < 2 ^ 31 by omega), if_pos (Or.inl c20)])
    · refine lv_iload_n hx hb dX6_ratio_23 rfl (lv_at hl 1 rfl) ?_
      refine lv_iload_n hx hb dX6_ratio_24 rfl (lv_at hl 3 rfl) ?_
      refine nv_icmp_eq (tgt := 60) hx hb (by omega) (by omega) dX6_ratio_25 (by decide) (fun c25 => ?_) (fun c25 => ?_)
      · refine lv_iconst (v := (-1)) hx hb dX6_ratio_60 (by decide) ?_
        exact ctR_ret (v := (-1)) hx hb hr rfl dX6_ratio_61 hlocks (by rw [rtoZ, if_neg (bool_nf h1), nv_nI (show ja < 2 ^ 31 by omega), nv_nI (show jb < 2 ^ 31 by omega), nv_nI (show jc < 2 ^ 31 by omega), nv_nI (show jd < 2 ^ 31 by omega), if_pos (Or.inr (Or.inl c25))])
      · refine lv_iload_n hx hb dX6_ratio_28 rfl (lv_at hl 2 rfl) ?_
        refine lv_iload_n hx hb dX6_ratio_29 rfl (lv_at hl 3 rfl) ?_
        refine nv_icmp_eq (tgt := 60) hx hb (by omega) (by omega) dX6_ratio_30 (by decide) (fun c30 => ?_) (fun c30 => ?_)
        · refine lv_iconst (v := (-1)) hx hb dX6_ratio_60 (by decide) ?_
          exact ctR_ret (v := (-1)) hx hb hr rfl dX6_ratio_61 hlocks (by rw [rtoZ, if_neg (bool_nf h1), nv_nI (show ja < 2 ^ 31 by omega), nv_nI (show jb < 2 ^ 31 by omega), nv_nI (show jc < 2 ^ 31 by omega), nv_nI (show jd < 2 ^ 31 by omega), if_pos (Or.inr (Or.inr (Or.inl c30)))])
        · refine lv_aload_n hx hb dX6_ratio_33 rfl (lv_at hl 0 rfl) ?_
          refine va_get (D := D) (ci := 6) (v := .ref (ad 5)) (C := RX6) (T := TX6) (N := 7) hx hb hts hiX6 hown hK hP 8 rfl rfl 1 (by decide) hf21 (fun _ h9 => h9) rfl dX6_ratio_34 ?_
          refine lv_iload_n hx hb dX6_ratio_37 rfl (lv_at hl 1 rfl) ?_
          refine lv_iload_n hx hb dX6_ratio_38 rfl (lv_at hl 2 rfl) ?_
          refine lv_iload_n hx hb dX6_ratio_39 rfl (lv_at hl 3 rfl) ?_
          refine ctR_V (As := [.int (nI ja), .int (nI jb), .int (nI jc)]) (rest := []) (r := .int (nI (vdet q (pt q ja) (pt q jb) (pt q jc)))) ⟨hx, hb, hml, hown, hts⟩ (c_X3_det l D cI cZ ad q sm pr op iv hF tr ro hT ja jb jc (by omega) (by omega) (by omega)) (cwV 3 hts gX6_ratio_X3_det rfl rfl rfl hdV_X3_det ⟨Nat.le_of_ble_eq_true rfl, Nat.le_of_ble_eq_true rfl⟩) hK hN hP [0, 1, 2, 3, 4, 5, 6, 7] rfl 5 3 rfl rfl rfl hl.1 rfl (Nat.le_of_ble_eq_true rfl) ⟨Nat.zero_le _, Nat.zero_le _⟩ dX6_ratio_40 ?_
          have hh_1 : vdet q (pt q ja) (pt q jb) (pt q jc) < q := vdet_lt hF.1 (ptv hF.1 (by omega)) (ptv hF.1 (by omega)) (ptv hF.1 (by omega))
          refine nv_if_ne (tgt := 60) hx hb (by omega) dX6_ratio_43 (by decide) (fun c43 => ?_) (fun c43 => ?_)
          · refine lv_iconst (v := (-1)) hx hb dX6_ratio_60 (by decide) ?_
            exact ctR_ret (v := (-1)) hx hb hr rfl dX6_ratio_61 hlocks (by rw [rtoZ, if_neg (bool_nf h1), nv_nI (show ja < 2 ^ 31 by omega), nv_nI (show jb < 2 ^ 31 by omega), nv_nI (show jc < 2 ^ 31 by omega), nv_nI (show jd < 2 ^ 31 by omega), if_pos (Or.inr (Or.inr (Or.inr (Or.inl c43))))])
          · refine lv_aload_n hx hb dX6_ratio_46 rfl (lv_at hl 0 rfl) ?_
            refine va_get (D := D) (ci := 6) (v := .ref (ad 5)) (C := RX6) (T := TX6) (N := 7) hx hb hts hiX6 hown hK hP 8 rfl rfl 1 (by decide) hf21 (fun _ h9 => h9) rfl dX6_ratio_47 ?_
            refine lv_iload_n hx hb dX6_ratio_50 rfl (lv_at hl 1 rfl) ?_
            refine lv_iload_n hx hb dX6_ratio_51 rfl (lv_at hl 2 rfl) ?_
            refine lv_iload hx hb dX6_ratio_52 (lv_at hl 4 rfl) ?_
            refine ctR_V (As := [.int (nI ja), .int (nI jb), .int (nI jd)]) (rest := []) (r := .int (nI (vdet q (pt q ja) (pt q jb) (pt q jd)))) ⟨hx, hb, hml, hown, hts⟩ (c_X3_det l D cI cZ ad q sm pr op iv hF tr ro hT ja jb jd (by omega) (by omega) (by omega)) (cwV 3 hts gX6_ratio_X3_det rfl rfl rfl hdV_X3_det ⟨Nat.le_of_ble_eq_true rfl, Nat.le_of_ble_eq_true rfl⟩) hK hN hP [0, 1, 2, 3, 4, 5, 6, 7] rfl 5 3 rfl rfl rfl hl.1 rfl (Nat.le_of_ble_eq_true rfl) ⟨Nat.zero_le _, Nat.zero_le _⟩ dX6_ratio_54 ?_
            have hh_2 : vdet q (pt q ja) (pt q jb) (pt q jd) < q := vdet_lt hF.1 (ptv hF.1 (by omega)) (ptv hF.1 (by omega)) (ptv hF.1 (by omega))
            refine nv_if_eq (tgt := 62) hx hb (by omega) dX6_ratio_57 (by decide) (fun c57 => ?_) (fun c57 => ?_)
            · refine lv_aload_n hx hb dX6_ratio_62 rfl (lv_at hl 0 rfl) ?_
              refine va_get (D := D) (ci := 6) (v := .ref (ad 5)) (C := RX6) (T := TX6) (N := 7) hx hb hts hiX6 hown hK hP 8 rfl rfl 1 (by decide) hf21 (fun _ h9 => h9) rfl dX6_ratio_63 ?_
              refine lv_iload_n hx hb dX6_ratio_66 rfl (lv_at hl 1 rfl) ?_
              refine lv_iload_n hx hb dX6_ratio_67 rfl (lv_at hl 2 rfl) ?_
              refine lv_iload_n hx hb dX6_ratio_68 rfl (lv_at hl 3 rfl) ?_
              refine lv_iload hx hb dX6_ratio_69 (lv_at hl 4 rfl) ?_
              refine ctR_V (As := [.int (nI ja), .int (nI jb), .int (nI jc), .int (nI jd)]) (rest := []) (r := .int (nI (ratq q ja jb jc jd))) ⟨hx, hb, hml, hown, hts⟩ (c_X3_ratioOf l D cI cZ ad q sm pr op iv hF tr ro hT ja jb jc jd (by omega) (by omega) (by omega) (by omega)) (cwV 4 hts gX6_ratio_X3_ratioOf rfl rfl rfl hdV_X3_ratioOf ⟨Nat.le_of_ble_eq_true rfl, Nat.le_of_ble_eq_true rfl⟩) hK hN hP [0, 1, 2, 3, 4, 5, 6, 7] rfl 5 3 rfl rfl rfl hl.1 rfl (Nat.le_of_ble_eq_true rfl) ⟨Nat.zero_le _, Nat.zero_le _⟩ dX6_ratio_71 ?_
              exact ctR_ret (v := (nI (ratq q ja jb jc jd))) hx hb hr rfl dX6_ratio_74 hlocks (by rw [rtoZ, if_neg (bool_nf h1), nv_nI (show ja < 2 ^ 31 by omega), nv_nI (show jb < 2 ^ 31 by omega), nv_nI (show jc < 2 ^ 31 by omega), nv_nI (show jd < 2 ^ 31 by omega), if_neg (fun z => by omega)])
            · refine lv_iconst (v := (-1)) hx hb dX6_ratio_60 (by decide) ?_
              exact ctR_ret (v := (-1)) hx hb hr rfl dX6_ratio_61 hlocks (by rw [rtoZ, if_neg (bool_nf h1), nv_nI (show ja < 2 ^ 31 by omega), nv_nI (show jb < 2 ^ 31 by omega), nv_nI (show jc < 2 ^ 31 by omega), nv_nI (show jd < 2 ^ 31 by omega), if_pos (Or.inr (Or.inr (Or.inr (Or.inr c57))))])
  · refine lv_bipush (v := (-2)) hx hb dX6_ratio_15 (by decide) ?_
    exact ctR_ret (v := (-2)) hx hb hr rfl dX6_ratio_17 hlocks (by rw [rtoZ, if_pos c12])

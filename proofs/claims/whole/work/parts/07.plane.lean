set_option maxHeartbeats 4000000 in
set_option maxRecDepth 100000 in
theorem c_X3_has (l : Launch) (D : va_G) (cI cZ : ClassId) (ad : Nat → Nat) (q : Nat) (sm : Nat → Nat) (pr : Nat → Nat) (op : Nat → Nat) (iv : Nat → Nat) (hF : FOK q sm pr op iv) (tr : Nat → Nat) (ro : Nat → Nat) (hT : TOK q tr) (x : Int32) : CtR l yX3_has wsX3_has { frames := 0, cells := 0, slots := 0, locals := 0 } D (tyG cI cZ) [.ref (ad 5), .int x] [(ad 0, .inr (1, [.int (nI q), .ref (ad 1), .ref (ad 2), .ref (ad 3), .ref (ad 4)])), (ad 1, .inl (cI, 81, .inl (nF sm))), (ad 2, .inl (cI, 81, .inl (nF pr))), (ad 3, .inl (cI, 9, .inl (nF op))), (ad 4, .inl (cI, 9, .inl (nF iv))), (ad 5, .inr (3, [.ref (ad 0), .int (nI (nn q)), .ref (ad 6), .ref (ad 7)])), (ad 6, .inl (cI, 273, .inl (nF tr))), (ad 7, .inl (cI, 910, .inl (nF ro)))] (.int (nI (inB x (nn q)).toNat)) := by
  refine Met.ofW (cc := cX3_has) (maxL := 2) (ret := some .boolean) (by decide) rfl ?_
  intro p e s m args below meth c s₁ B hml hv
  obtain ⟨rfl, hP, hK, hN⟩ := hv
  have hx := B.exec
  have hb := B.bytes
  have hr := B.returns
  have hts := atoms_spec (ws := wsX3_has) B.pre
  have hown : s.vm.findClass RX3 = some m.cls := findClass_of_methodNamed B.named
  have hlocks := B.notSynchronized
  have hf31 := hts (.fieldLink RX3 31 "FinitePlanes$Plane" "n" "I") (by decide +kernel)
  have hiX3 : ∀ w ∈ u_ws RX3 TX3 4, w ∈ wsX3_has := by decide +kernel
  have hl := lv_entry ([.ref (ad 5), .int x]) (n := 2) (Nat.le_of_ble_eq_true rfl)
  rw [lg_entry_eq]
  generalize (lg_sl ([.ref (ad 5), .int x]) ++ List.replicate (2 - (lg_sl ([.ref (ad 5), .int x])).length) Slot.unset).toArray = ls at hl ⊢
  have hl : lv_has ls 2 [(0, .ref (ad 5)), (1, .int x)] := hl
  have hq2 := qs_le hF.1
  have hn2 := nn_le hF.1
  refine lv_iload_n hx hb dX3_has_0 rfl (lv_at hl 1 rfl) ?_
  refine lv_if_lt (tgt := 16) hx hb dX3_has_1 (by decide) (fun c1 => ?_) (fun c1 => ?_)
  · refine lv_iconst (v := nI 0) hx hb dX3_has_16 (by decide) ?_
    exact ctR_ret (v := (nI 0)) hx hb hr (nar_bool false) dX3_has_17 hlocks (by rw [inB_lt c1]; rfl)
  · refine lv_iload_n hx hb dX3_has_4 rfl (lv_at hl 1 rfl) ?_
    refine lv_aload_n hx hb dX3_has_5 rfl (lv_at hl 0 rfl) ?_
    refine va_get (D := D) (ci := 3) (v := .int (nI (nn q))) (C := RX3) (T := TX3) (N := 4) hx hb hts hiX3 hown hK hP 5 rfl rfl 1 (by decide) hf31 (fun _ h9 => h9) rfl dX3_has_6 ?_
    refine lv_icmp_ge (tgt := 16) hx hb dX3_has_9 (by decide) (fun c9 => ?_) (fun c9 => ?_)
    · refine lv_iconst (v := nI 0) hx hb dX3_has_16 (by decide) ?_
      exact ctR_ret (v := (nI 0)) hx hb hr (nar_bool false) dX3_has_17 hlocks (by rw [inB_ge (by omega) c9]; rfl)
    · refine lv_iconst (v := nI 1) hx hb dX3_has_12 (by decide) ?_
      refine lv_goto (tgt := 17) hx hb dX3_has_13 (by decide) ?_
      exact ctR_ret (v := (nI 1)) hx hb hr (nar_bool true) dX3_has_17 hlocks (by rw [inB_in (by omega) c1 c9]; rfl)

set_option maxHeartbeats 4000000 in
set_option maxRecDepth 100000 in
theorem c_X3_hasFour (l : Launch) (D : va_G) (cI cZ : ClassId) (ad : Nat → Nat) (q : Nat) (sm : Nat → Nat) (pr : Nat → Nat) (op : Nat → Nat) (iv : Nat → Nat) (hF : FOK q sm pr op iv) (tr : Nat → Nat) (ro : Nat → Nat) (hT : TOK q tr) (xa : Int32) (xb : Int32) (xc : Int32) (xd : Int32) : CtR l yX3_hasFour wsX3_hasFour { frames := 1, cells := 0, slots := 0, locals := 21 } D (tyG cI cZ) [.ref (ad 5), .int xa, .int xb, .int xc, .int xd] [(ad 0, .inr (1, [.int (nI q), .ref (ad 1), .ref (ad 2), .ref (ad 3), .ref (ad 4)])), (ad 1, .inl (cI, 81, .inl (nF sm))), (ad 2, .inl (cI, 81, .inl (nF pr))), (ad 3, .inl (cI, 9, .inl (nF op))), (ad 4, .inl (cI, 9, .inl (nF iv))), (ad 5, .inr (3, [.ref (ad 0), .int (nI (nn q)), .ref (ad 6), .ref (ad 7)])), (ad 6, .inl (cI, 273, .inl (nF tr))), (ad 7, .inl (cI, 910, .inl (nF ro)))] (.int (nI (inB xa (nn q) && inB xb (nn q) && inB xc (nn q) && inB xd (nn q)).toNat)) := by
  refine Met.ofW (cc := cX3_hasFour) (maxL := 5) (ret := some .boolean) (by decide) rfl ?_
  intro p e s m args below meth c s₁ B hml hv
  obtain ⟨rfl, hP, hK, hN⟩ := hv
  have hx := B.exec
  have hb := B.bytes
  have hr := B.returns
  have hts := atoms_spec (ws := wsX3_hasFour) B.pre
  have hown : s.vm.findClass RX3 = some m.cls := findClass_of_methodNamed B.named
  have hlocks := B.notSynchronized
  have hl := lv_entry ([.ref (ad 5), .int xa, .int xb, .int xc, .int xd]) (n := 5) (Nat.le_of_ble_eq_true rfl)
  rw [lg_entry_eq]
  generalize (lg_sl ([.ref (ad 5), .int xa, .int xb, .int xc, .int xd]) ++ List.replicate (5 - (lg_sl ([.ref (ad 5), .int xa, .int xb, .int xc, .int xd])).length) Slot.unset).toArray = ls at hl ⊢
  have hl : lv_has ls 5 [(0, .ref (ad 5)), (1, .int xa), (2, .int xb), (3, .int xc), (4, .int xd)] := hl
  have hq2 := qs_le hF.1
  have hn2 := nn_le hF.1
  refine lv_aload_n hx hb dX3_hasFour_0 rfl (lv_at hl 0 rfl) ?_
  refine lv_iload_n hx hb dX3_hasFour_1 rfl (lv_at hl 1 rfl) ?_
  refine ctR_V (As := [.int xa]) (rest := []) (r := .int (nI (inB xa (nn q)).toNat)) ⟨hx, hb, hml, hown, hts⟩ (c_X3_has l D cI cZ ad q sm pr op iv hF tr ro hT xa) (cwV 1 hts gX3_hasFour_X3_has rfl rfl rfl hdV_X3_has ⟨Nat.le_of_ble_eq_true rfl, Nat.le_of_ble_eq_true rfl⟩) hK hN hP [0, 1, 2, 3, 4, 5, 6, 7] rfl 5 3 rfl rfl rfl hl.1 rfl (Nat.le_of_ble_eq_true rfl) ⟨Nat.zero_le _, Nat.zero_le _⟩ dX3_hasFour_2 ?_
  refine nv_ifb_eq (tgt := 37) hx hb dX3_hasFour_5 (by decide) (fun c5 => ?_) (fun c5 => ?_)
  · refine lv_iconst (v := nI 0) hx hb dX3_hasFour_37 (by decide) ?_
    exact ctR_ret (v := (nI 0)) hx hb hr (nar_bool false) dX3_hasFour_38 hlocks (by simp [c5])
  · refine lv_aload_n hx hb dX3_hasFour_8 rfl (lv_at hl 0 rfl) ?_
    refine lv_iload_n hx hb dX3_hasFour_9 rfl (lv_at hl 2 rfl) ?_
    refine ctR_V (As := [.int xb]) (rest := []) (r := .int (nI (inB xb (nn q)).toNat)) ⟨hx, hb, hml, hown, hts⟩ (c_X3_has l D cI cZ ad q sm pr op iv hF tr ro hT xb) (cwV 1 hts gX3_hasFour_X3_has rfl rfl rfl hdV_X3_has ⟨Nat.le_of_ble_eq_true rfl, Nat.le_of_ble_eq_true rfl⟩) hK hN hP [0, 1, 2, 3, 4, 5, 6, 7] rfl 5 3 rfl rfl rfl hl.1 rfl (Nat.le_of_ble_eq_true rfl) ⟨Nat.zero_le _, Nat.zero_le _⟩ dX3_hasFour_10 ?_
    refine nv_ifb_eq (tgt := 37) hx hb dX3_hasFour_13 (by decide) (fun c13 => ?_) (fun c13 => ?_)
    · refine lv_iconst (v := nI 0) hx hb dX3_hasFour_37 (by decide) ?_
      exact ctR_ret (v := (nI 0)) hx hb hr (nar_bool false) dX3_hasFour_38 hlocks (by simp [c13])
    · refine lv_aload_n hx hb dX3_hasFour_16 rfl (lv_at hl 0 rfl) ?_
      refine lv_iload_n hx hb dX3_hasFour_17 rfl (lv_at hl 3 rfl) ?_
      refine ctR_V (As := [.int xc]) (rest := []) (r := .int (nI (inB xc (nn q)).toNat)) ⟨hx, hb, hml, hown, hts⟩ (c_X3_has l D cI cZ ad q sm pr op iv hF tr ro hT xc) (cwV 1 hts gX3_hasFour_X3_has rfl rfl rfl hdV_X3_has ⟨Nat.le_of_ble_eq_true rfl, Nat.le_of_ble_eq_true rfl⟩) hK hN hP [0, 1, 2, 3, 4, 5, 6, 7] rfl 5 3 rfl rfl rfl hl.1 rfl (Nat.le_of_ble_eq_true rfl) ⟨Nat.zero_le _, Nat.zero_le _⟩ dX3_hasFour_18 ?_
      refine nv_ifb_eq (tgt := 37) hx hb dX3_hasFour_21 (by decide) (fun c21 => ?_) (fun c21 => ?_)
      · refine lv_iconst (v := nI 0) hx hb dX3_hasFour_37 (by decide) ?_
        exact ctR_ret (v := (nI 0)) hx hb hr (nar_bool false) dX3_hasFour_38 hlocks (by simp [c21])
      · refine lv_aload_n hx hb dX3_hasFour_24 rfl (lv_at hl 0 rfl) ?_
        refine lv_iload hx hb dX3_hasFour_25 (lv_at hl 4 rfl) ?_
        refine ctR_V (As := [.int xd]) (rest := []) (r := .int (nI (inB xd (nn q)).toNat)) ⟨hx, hb, hml, hown, hts⟩ (c_X3_has l D cI cZ ad q sm pr op iv hF tr ro hT xd) (cwV 1 hts gX3_hasFour_X3_has rfl rfl rfl hdV_X3_has ⟨Nat.le_of_ble_eq_true rfl, Nat.le_of_ble_eq_true rfl⟩) hK hN hP [0, 1, 2, 3, 4, 5, 6, 7] rfl 5 3 rfl rfl rfl hl.1 rfl (Nat.le_of_ble_eq_true rfl) ⟨Nat.zero_le _, Nat.zero_le _⟩ dX3_hasFour_27 ?_
        refine nv_ifb_eq (tgt := 37) hx hb dX3_hasFour_30 (by decide) (fun c30 => ?_) (fun c30 => ?_)
        · refine lv_iconst (v := nI 0) hx hb dX3_hasFour_37 (by decide) ?_
          exact ctR_ret (v := (nI 0)) hx hb hr (nar_bool false) dX3_hasFour_38 hlocks (by simp [c30])
        · refine lv_iconst (v := nI 1) hx hb dX3_hasFour_33 (by decide) ?_
          refine lv_goto (tgt := 38) hx hb dX3_hasFour_34 (by decide) ?_
          exact ctR_ret (v := (nI 1)) hx hb hr (nar_bool true) dX3_hasFour_38 hlocks (by simp [c5, c13, c21, c30])

set_option maxHeartbeats 4000000 in
set_option maxRecDepth 100000 in
theorem c_X3_part (l : Launch) (D : va_G) (cI cZ : ClassId) (ad : Nat → Nat) (q : Nat) (sm : Nat → Nat) (pr : Nat → Nat) (op : Nat → Nat) (iv : Nat → Nat) (hF : FOK q sm pr op iv) (tr : Nat → Nat) (ro : Nat → Nat) (hT : TOK q tr) (i : Nat) (k : Nat) (k_1 : i < nn q) (k_2 : k < 3) : CtR l yX3_part wsX3_part { frames := 0, cells := 0, slots := 0, locals := 0 } D (tyG cI cZ) [.ref (ad 5), .int (nI i), .int (nI k)] [(ad 0, .inr (1, [.int (nI q), .ref (ad 1), .ref (ad 2), .ref (ad 3), .ref (ad 4)])), (ad 1, .inl (cI, 81, .inl (nF sm))), (ad 2, .inl (cI, 81, .inl (nF pr))), (ad 3, .inl (cI, 9, .inl (nF op))), (ad 4, .inl (cI, 9, .inl (nF iv))), (ad 5, .inr (3, [.ref (ad 0), .int (nI (nn q)), .ref (ad 6), .ref (ad 7)])), (ad 6, .inl (cI, 273, .inl (nF tr))), (ad 7, .inl (cI, 910, .inl (nF ro)))] (.int (nI (pt q i k))) := by
  refine Met.ofW (cc := cX3_part) (maxL := 3) (ret := some .int) (by decide) rfl ?_
  intro p e s m args below meth c s₁ B hml hv
  obtain ⟨rfl, hP, hK, hN⟩ := hv
  have hx := B.exec
  have hb := B.bytes
  have hr := B.returns
  have hts := atoms_spec (ws := wsX3_part) B.pre
  have hown : s.vm.findClass RX3 = some m.cls := findClass_of_methodNamed B.named
  have hlocks := B.notSynchronized
  have hf9 := hts (.fieldLink RX3 9 "FinitePlanes$Plane" "triples" "[I") (by decide +kernel)
  have hiX3 : ∀ w ∈ u_ws RX3 TX3 4, w ∈ wsX3_part := by decide +kernel
  have hl := lv_entry ([.ref (ad 5), .int (nI i), .int (nI k)]) (n := 3) (Nat.le_of_ble_eq_true rfl)
  rw [lg_entry_eq]
  generalize (lg_sl ([.ref (ad 5), .int (nI i), .int (nI k)]) ++ List.replicate (3 - (lg_sl ([.ref (ad 5), .int (nI i), .int (nI k)])).length) Slot.unset).toArray = ls at hl ⊢
  have hl : lv_has ls 3 [(0, .ref (ad 5)), (1, .int (nI i)), (2, .int (nI k))] := hl
  have hq2 := qs_le hF.1
  have hn2 := nn_le hF.1
  refine lv_aload_n hx hb dX3_part_0 rfl (lv_at hl 0 rfl) ?_
  refine va_get (D := D) (ci := 3) (v := .ref (ad 6)) (C := RX3) (T := TX3) (N := 4) hx hb hts hiX3 hown hK hP 5 rfl rfl 2 (by decide) hf9 (fun _ h9 => h9) rfl dX3_part_1 ?_
  refine lv_iconst (v := nI 3) hx hb dX3_part_4 (by decide) ?_
  refine lv_iload_n hx hb dX3_part_5 rfl (lv_at hl 1 rfl) ?_
  refine nv_mulE (r := 3 * i) hx hb rfl dX3_part_6 ?_
  refine lv_iload_n hx hb dX3_part_7 rfl (lv_at hl 2 rfl) ?_
  refine nv_addE (r := (3 * i) + k) hx hb rfl dX3_part_8 ?_
  refine nv_iald hx hb hK hP 6 0 rfl rfl (by omega) (by decide) dX3_part_9 ?_
  exact ctR_ret (v := (nI (tr ((3 * i) + k)))) hx hb hr rfl dX3_part_10 hlocks (by rw [hT i k k_1 k_2])

set_option maxHeartbeats 4000000 in
set_option maxRecDepth 100000 in
theorem c_X3_onRow (l : Launch) (D : va_G) (cI cZ : ClassId) (ad : Nat → Nat) (q : Nat) (sm : Nat → Nat) (pr : Nat → Nat) (op : Nat → Nat) (iv : Nat → Nat) (hF : FOK q sm pr op iv) (tr : Nat → Nat) (ro : Nat → Nat) (hT : TOK q tr) (hR : ROK q ro) (i : Nat) (k : Nat) (k_1 : i < nn q) (k_2 : k ≤ q) : CtR l yX3_onRow wsX3_onRow { frames := 0, cells := 0, slots := 0, locals := 0 } D (tyG cI cZ) [.ref (ad 5), .int (nI i), .int (nI k)] [(ad 0, .inr (1, [.int (nI q), .ref (ad 1), .ref (ad 2), .ref (ad 3), .ref (ad 4)])), (ad 1, .inl (cI, 81, .inl (nF sm))), (ad 2, .inl (cI, 81, .inl (nF pr))), (ad 3, .inl (cI, 9, .inl (nF op))), (ad 4, .inl (cI, 9, .inl (nF iv))), (ad 5, .inr (3, [.ref (ad 0), .int (nI (nn q)), .ref (ad 6), .ref (ad 7)])), (ad 6, .inl (cI, 273, .inl (nF tr))), (ad 7, .inl (cI, 910, .inl (nF ro)))] (.int (nI (rowq q i k))) := by
  refine Met.ofW (cc := cX3_onRow) (maxL := 3) (ret := some .int) (by decide) rfl ?_
  intro p e s m args below meth c s₁ B hml hv
  obtain ⟨rfl, hP, hK, hN⟩ := hv
  have hx := B.exec
  have hb := B.bytes
  have hr := B.returns
  have hts := atoms_spec (ws := wsX3_onRow) B.pre
  have hown : s.vm.findClass RX3 = some m.cls := findClass_of_methodNamed B.named
  have hlocks := B.notSynchronized
  have hf15 := hts (.fieldLink RX3 15 "FinitePlanes$Plane" "rows" "[I") (by decide +kernel)
  have hiX3 : ∀ w ∈ u_ws RX3 TX3 4, w ∈ wsX3_onRow := by decide +kernel
  have hl := lv_entry ([.ref (ad 5), .int (nI i), .int (nI k)]) (n := 3) (Nat.le_of_ble_eq_true rfl)
  rw [lg_entry_eq]
  generalize (lg_sl ([.ref (ad 5), .int (nI i), .int (nI k)]) ++ List.replicate (3 - (lg_sl ([.ref (ad 5), .int (nI i), .int (nI k)])).length) Slot.unset).toArray = ls at hl ⊢
  have hl : lv_has ls 3 [(0, .ref (ad 5)), (1, .int (nI i)), (2, .int (nI k))] := hl
  have hq2 := qs_le hF.1
  have hn2 := nn_le hF.1
  refine lv_aload_n hx hb dX3_onRow_0 rfl (lv_at hl 0 rfl) ?_
  refine va_get (D := D) (ci := 3) (v := .ref (ad 7)) (C := RX3) (T := TX3) (N := 4) hx hb hts hiX3 hown hK hP 5 rfl rfl 3 (by decide) hf15 (fun _ h9 => h9) rfl dX3_onRow_1 ?_
  refine lv_iload_n hx hb dX3_onRow_4 rfl (lv_at hl 1 rfl) ?_
  refine lv_bipush (v := nI 10) hx hb dX3_onRow_5 (by decide) ?_
  refine nv_mulE (r := i * 10) hx hb rfl dX3_onRow_7 ?_
  refine lv_iload_n hx hb dX3_onRow_8 rfl (lv_at hl 2 rfl) ?_
  refine nv_addE (r := (i * 10) + k) hx hb rfl dX3_onRow_9 ?_
  refine nv_iald hx hb hK hP 7 0 rfl rfl (by omega) (by decide) dX3_onRow_10 ?_
  exact ctR_ret (v := (nI (ro ((i * 10) + k)))) hx hb hr rfl dX3_onRow_11 hlocks (by rw [hR i k k_1 k_2])

set_option maxHeartbeats 4000000 in
set_option maxRecDepth 100000 in
theorem c_X3_dot (l : Launch) (D : va_G) (cI cZ : ClassId) (ad : Nat → Nat) (q : Nat) (sm : Nat → Nat) (pr : Nat → Nat) (op : Nat → Nat) (iv : Nat → Nat) (hF : FOK q sm pr op iv) (tr : Nat → Nat) (ro : Nat → Nat) (hT : TOK q tr) (i : Nat) (j : Nat) (k_1 : i < nn q) (k_2 : j < nn q) : CtR l yX3_dot wsX3_dot { frames := 1, cells := 0, slots := 0, locals := 22 } D (tyG cI cZ) [.ref (ad 5), .int (nI i), .int (nI j)] [(ad 0, .inr (1, [.int (nI q), .ref (ad 1), .ref (ad 2), .ref (ad 3), .ref (ad 4)])), (ad 1, .inl (cI, 81, .inl (nF sm))), (ad 2, .inl (cI, 81, .inl (nF pr))), (ad 3, .inl (cI, 9, .inl (nF op))), (ad 4, .inl (cI, 9, .inl (nF iv))), (ad 5, .inr (3, [.ref (ad 0), .int (nI (nn q)), .ref (ad 6), .ref (ad 7)])), (ad 6, .inl (cI, 273, .inl (nF tr))), (ad 7, .inl (cI, 910, .inl (nF ro)))] (.int (nI (vdot q (pt q i) (pt q j)))) := by
  refine Met.ofW (cc := cX3_dot) (maxL := 5) (ret := some .int) (by decide) rfl ?_
  intro p e s m args below meth c s₁ B hml hv
  obtain ⟨rfl, hP, hK, hN⟩ := hv
  have hx := B.exec
  have hb := B.bytes
  have hr := B.returns
  have hts := atoms_spec (ws := wsX3_dot) B.pre
  have hown : s.vm.findClass RX3 = some m.cls := findClass_of_methodNamed B.named
  have hlocks := B.notSynchronized
  have hf18 := hts (.fieldLink RX3 18 "FinitePlanes$Plane" "field" "LFinitePlanes$Field;") (by decide +kernel)
  have hiX3 : ∀ w ∈ u_ws RX3 TX3 4, w ∈ wsX3_dot := by decide +kernel
  have hl := lv_entry ([.ref (ad 5), .int (nI i), .int (nI j)]) (n := 5) (Nat.le_of_ble_eq_true rfl)
  rw [lg_entry_eq]
  generalize (lg_sl ([.ref (ad 5), .int (nI i), .int (nI j)]) ++ List.replicate (5 - (lg_sl ([.ref (ad 5), .int (nI i), .int (nI j)])).length) Slot.unset).toArray = ls at hl ⊢
  have hl : lv_has ls 5 [(0, .ref (ad 5)), (1, .int (nI i)), (2, .int (nI j))] := hl
  have hq2 := qs_le hF.1
  have hn2 := nn_le hF.1
  refine lv_iconst (v := nI 0) hx hb dX3_dot_0 (by decide) ?_
  refine lv_istore_n (lv' := [(3, .int (nI 0)), (0, .ref (ad 5)), (1, .int (nI i)), (2, .int (nI j))]) hx hb dX3_dot_1 rfl hl (by decide) rfl (fun ls hl => ?_)
  refine lv_iconst (v := nI 0) hx hb dX3_dot_2 (by decide) ?_
  refine lv_istore (lv' := [(4, .int (nI 0)), (3, .int (nI 0)), (0, .ref (ad 5)), (1, .int (nI i)), (2, .int (nI j))]) hx hb dX3_dot_3 hl (by decide) rfl (fun ls hl => ?_)
  refine lv_iload hx hb dX3_dot_5 (lv_at hl 0 rfl) ?_
  refine lv_iconst (v := nI 3) hx hb dX3_dot_7 (by decide) ?_
  refine nv_icmp_ge (tgt := 47) hx hb (by decide) (by decide) dX3_dot_8 (by decide) (fun c8 => absurd c8 (by omega)) (fun c8 => ?_)
  refine lv_aload_n hx hb dX3_dot_11 rfl (lv_at hl 2 rfl) ?_
  refine va_get (D := D) (ci := 3) (v := .ref (ad 0)) (C := RX3) (T := TX3) (N := 4) hx hb hts hiX3 hown hK hP 5 rfl rfl 0 (by decide) hf18 (fun _ h9 => h9) rfl dX3_dot_12 ?_
  refine lv_iload_n hx hb dX3_dot_15 rfl (lv_at hl 1 rfl) ?_
  refine lv_aload_n hx hb dX3_dot_16 rfl (lv_at hl 2 rfl) ?_
  refine va_get (D := D) (ci := 3) (v := .ref (ad 0)) (C := RX3) (T := TX3) (N := 4) hx hb hts hiX3 hown hK hP 5 rfl rfl 0 (by decide) hf18 (fun _ h9 => h9) rfl dX3_dot_17 ?_
  refine lv_aload_n hx hb dX3_dot_20 rfl (lv_at hl 2 rfl) ?_
  refine lv_iload_n hx hb dX3_dot_21 rfl (lv_at hl 3 rfl) ?_
  refine lv_iload hx hb dX3_dot_22 (lv_at hl 0 rfl) ?_
  refine ctR_V (As := [.int (nI i), .int (nI 0)]) (rest := [.ref (ad 0), .int (nI 0), .ref (ad 0)]) (r := .int (nI (pt q i 0))) ⟨hx, hb, hml, hown, hts⟩ (c_X3_part l D cI cZ ad q sm pr op iv hF tr ro hT i 0 (by omega) (by omega)) (cwV 2 hts gX3_dot_X3_part rfl rfl rfl hdV_X3_part ⟨Nat.le_of_ble_eq_true rfl, Nat.le_of_ble_eq_true rfl⟩) hK hN hP [0, 1, 2, 3, 4, 5, 6, 7] rfl 5 3 rfl rfl rfl hl.1 rfl (Nat.le_of_ble_eq_true rfl) ⟨Nat.zero_le _, Nat.zero_le _⟩ dX3_dot_24 ?_
  have hh_1 : pt q i 0 < q := pt_lt hF.1 (by omega) (by omega)
  refine lv_aload_n hx hb dX3_dot_27 rfl (lv_at hl 2 rfl) ?_
  refine lv_iload_n hx hb dX3_dot_28 rfl (lv_at hl 4 rfl) ?_
  refine lv_iload hx hb dX3_dot_29 (lv_at hl 0 rfl) ?_
  refine ctR_V (As := [.int (nI j), .int (nI 0)]) (rest := [.int (nI (pt q i 0)), .ref (ad 0), .int (nI 0), .ref (ad 0)]) (r := .int (nI (pt q j 0))) ⟨hx, hb, hml, hown, hts⟩ (c_X3_part l D cI cZ ad q sm pr op iv hF tr ro hT j 0 (by omega) (by omega)) (cwV 2 hts gX3_dot_X3_part rfl rfl rfl hdV_X3_part ⟨Nat.le_of_ble_eq_true rfl, Nat.le_of_ble_eq_true rfl⟩) hK hN hP [0, 1, 2, 3, 4, 5, 6, 7] rfl 5 3 rfl rfl rfl hl.1 rfl (Nat.le_of_ble_eq_true rfl) ⟨Nat.zero_le _, Nat.zero_le _⟩ dX3_dot_31 ?_
  have hh_2 : pt q j 0 < q := pt_lt hF.1 (by omega) (by omega)
  refine ctR_V (As := [.int (nI (pt q i 0)), .int (nI (pt q j 0))]) (rest := [.int (nI 0), .ref (ad 0)]) (r := .int (nI (fmul q (pt q i 0) (pt q j 0)))) ⟨hx, hb, hml, hown, hts⟩ (c_X1_times l D cI cZ ad q sm pr op iv hF (pt q i 0) (pt q j 0) (by omega) (by omega)) (cwV 2 hts gX3_dot_X1_times rfl rfl rfl hdV_X1_times ⟨Nat.le_of_ble_eq_true rfl, Nat.le_of_ble_eq_true rfl⟩) hK hN hP [0, 1, 2, 3, 4] rfl 0 1 rfl rfl rfl hl.1 rfl (Nat.le_of_ble_eq_true rfl) ⟨Nat.zero_le _, Nat.zero_le _⟩ dX3_dot_34 ?_
  have hh_3 : fmul q (pt q i 0) (pt q j 0) < q := fmul_lt hF.1 (by omega) (by omega)
  refine ctR_V (As := [.int (nI 0), .int (nI (fmul q (pt q i 0) (pt q j 0)))]) (rest := []) (r := .int (nI (fadd q 0 (fmul q (pt q i 0) (pt q j 0))))) ⟨hx, hb, hml, hown, hts⟩ (c_X1_plus l D cI cZ ad q sm pr op iv hF 0 (fmul q (pt q i 0) (pt q j 0)) (by omega) (by omega)) (cwV 2 hts gX3_dot_X1_plus rfl rfl rfl hdV_X1_plus ⟨Nat.le_of_ble_eq_true rfl, Nat.le_of_ble_eq_true rfl⟩) hK hN hP [0, 1, 2, 3, 4] rfl 0 1 rfl rfl rfl hl.1 rfl (Nat.le_of_ble_eq_true rfl) ⟨Nat.zero_le _, Nat.zero_le _⟩ dX3_dot_37 ?_
  have hh_4 : fadd q 0 (fmul q (pt q i 0) (pt q j 0)) < q := fadd_lt hF.1 (by omega) (by omega)
  refine lv_istore_n (lv' := [(3, .int (nI (fadd q 0 (fmul q (pt q i 0) (pt q j 0))))), (4, .int (nI 0)), (0, .ref (ad 5)), (1, .int (nI i)), (2, .int (nI j))]) hx hb dX3_dot_40 rfl hl (by decide) rfl (fun ls hl => ?_)
  refine lv_iinc (v := nI 1) (lv' := [(4, .int (nI 1)), (3, .int (nI (fadd q 0 (fmul q (pt q i 0) (pt q j 0))))), (0, .ref (ad 5)), (1, .int (nI i)), (2, .int (nI j))]) hx hb dX3_dot_41 hl (k := 1) rfl (nI_inc 0) (by decide) rfl (fun ls hl => ?_)
  refine lv_goto (tgt := 5) hx hb dX3_dot_44 (by decide) ?_
  refine lv_iload hx hb dX3_dot_5 (lv_at hl 0 rfl) ?_
  refine lv_iconst (v := nI 3) hx hb dX3_dot_7 (by decide) ?_
  refine nv_icmp_ge (tgt := 47) hx hb (by decide) (by decide) dX3_dot_8 (by decide) (fun c8 => absurd c8 (by omega)) (fun c8 => ?_)
  refine lv_aload_n hx hb dX3_dot_11 rfl (lv_at hl 2 rfl) ?_
  refine va_get (D := D) (ci := 3) (v := .ref (ad 0)) (C := RX3) (T := TX3) (N := 4) hx hb hts hiX3 hown hK hP 5 rfl rfl 0 (by decide) hf18 (fun _ h9 => h9) rfl dX3_dot_12 ?_
  refine lv_iload_n hx hb dX3_dot_15 rfl (lv_at hl 1 rfl) ?_
  refine lv_aload_n hx hb dX3_dot_16 rfl (lv_at hl 2 rfl) ?_
  refine va_get (D := D) (ci := 3) (v := .ref (ad 0)) (C := RX3) (T := TX3) (N := 4) hx hb hts hiX3 hown hK hP 5 rfl rfl 0 (by decide) hf18 (fun _ h9 => h9) rfl dX3_dot_17 ?_
  refine lv_aload_n hx hb dX3_dot_20 rfl (lv_at hl 2 rfl) ?_
  refine lv_iload_n hx hb dX3_dot_21 rfl (lv_at hl 3 rfl) ?_
  refine lv_iload hx hb dX3_dot_22 (lv_at hl 0 rfl) ?_
  refine ctR_V (As := [.int (nI i), .int (nI 1)]) (rest := [.ref (ad 0), .int (nI (fadd q 0 (fmul q (pt q i 0) (pt q j 0)))), .ref (ad 0)]) (r := .int (nI (pt q i 1))) ⟨hx, hb, hml, hown, hts⟩ (c_X3_part l D cI cZ ad q sm pr op iv hF tr ro hT i 1 (by omega) (by omega)) (cwV 2 hts gX3_dot_X3_part rfl rfl rfl hdV_X3_part ⟨Nat.le_of_ble_eq_true rfl, Nat.le_of_ble_eq_true rfl⟩) hK hN hP [0, 1, 2, 3, 4, 5, 6, 7] rfl 5 3 rfl rfl rfl hl.1 rfl (Nat.le_of_ble_eq_true rfl) ⟨Nat.zero_le _, Nat.zero_le _⟩ dX3_dot_24 ?_
  have hh_5 : pt q i 1 < q := pt_lt hF.1 (by omega) (by omega)
  refine lv_aload_n hx hb dX3_dot_27 rfl (lv_at hl 2 rfl) ?_
  refine lv_iload_n hx hb dX3_dot_28 rfl (lv_at hl 4 rfl) ?_
  refine lv_iload hx hb dX3_dot_29 (lv_at hl 0 rfl) ?_
  refine ctR_V (As := [.int (nI j), .int (nI 1)]) (rest := [.int (nI (pt q i 1)), .ref (ad 0), .int (nI (fadd q 0 (fmul q (pt q i 0) (pt q j 0)))), .ref (ad 0)]) (r := .int (nI (pt q j 1))) ⟨hx, hb, hml, hown, hts⟩ (c_X3_part l D cI cZ ad q sm pr op iv hF tr ro hT j 1 (by omega) (by omega)) (cwV 2 hts gX3_dot_X3_part rfl rfl rfl hdV_X3_part ⟨Nat.le_of_ble_eq_true rfl, Nat.le_of_ble_eq_true rfl⟩) hK hN hP [0, 1, 2, 3, 4, 5, 6, 7] rfl 5 3 rfl rfl rfl hl.1 rfl (Nat.le_of_ble_eq_true rfl) ⟨Nat.zero_le _, Nat.zero_le _⟩ dX3_dot_31 ?_
  have hh_6 : pt q j 1 < q := pt_lt hF.1 (by omega) (by omega)
  refine ctR_V (As := [.int (nI (pt q i 1)), .int (nI (pt q j 1))]) (rest := [.int (nI (fadd q 0 (fmul q (pt q i 0) (pt q j 0)))), .ref (ad 0)]) (r := .int (nI (fmul q (pt q i 1) (pt q j 1)))) ⟨hx, hb, hml, hown, hts⟩ (c_X1_times l D cI cZ ad q sm pr op iv hF (pt q i 1) (pt q j 1) (by omega) (by omega)) (cwV 2 hts gX3_dot_X1_times rfl rfl rfl hdV_X1_times ⟨Nat.le_of_ble_eq_true rfl, Nat.le_of_ble_eq_true rfl⟩) hK hN hP [0, 1, 2, 3, 4] rfl 0 1 rfl rfl rfl hl.1 rfl (Nat.le_of_ble_eq_true rfl) ⟨Nat.zero_le _, Nat.zero_le _⟩ dX3_dot_34 ?_
  have hh_7 : fmul q (pt q i 1) (pt q j 1) < q := fmul_lt hF.1 (by omega) (by omega)
  refine ctR_V (As := [.int (nI (fadd q 0 (fmul q (pt q i 0) (pt q j 0)))), .int (nI (fmul q (pt q i 1) (pt q j 1)))]) (rest := []) (r := .int (nI (fadd q (fadd q 0 (fmul q (pt q i 0) (pt q j 0))) (fmul q (pt q i 1) (pt q j 1))))) ⟨hx, hb, hml, hown, hts⟩ (c_X1_plus l D cI cZ ad q sm pr op iv hF (fadd q 0 (fmul q (pt q i 0) (pt q j 0))) (fmul q (pt q i 1) (pt q j 1)) (by omega) (by omega)) (cwV 2 hts gX3_dot_X1_plus rfl rfl rfl hdV_X1_plus ⟨Nat.le_of_ble_eq_true rfl, Nat.le_of_ble_eq_true rfl⟩) hK hN hP [0, 1, 2, 3, 4] rfl 0 1 rfl rfl rfl hl.1 rfl (Nat.le_of_ble_eq_true rfl) ⟨Nat.zero_le _, Nat.zero_le _⟩ dX3_dot_37 ?_
  have hh_8 : fadd q (fadd q 0 (fmul q (pt q i 0) (pt q j 0))) (fmul q (pt q i 1) (pt q j 1)) < q := fadd_lt hF.1 (by omega) (by omega)
  refine lv_istore_n (lv' := [(3, .int (nI (fadd q (fadd q 0 (fmul q (pt q i 0) (pt q j 0))) (fmul q (pt q i 1) (pt q j 1))))), (4, .int (nI 1)), (0, .ref (ad 5)), (1, .int (nI i)), (2, .int (nI j))]) hx hb dX3_dot_40 rfl hl (by decide) rfl (fun ls hl => ?_)
  refine lv_iinc (v := nI 2) (lv' := [(4, .int (nI 2)), (3, .int (nI (fadd q (fadd q 0 (fmul q (pt q i 0) (pt q j 0))) (fmul q (pt q i 1) (pt q j 1))))), (0, .ref (ad 5)), (1, .int (nI i)), (2, .int (nI j))]) hx hb dX3_dot_41 hl (k := 1) rfl (nI_inc 1) (by decide) rfl (fun ls hl => ?_)
  refine lv_goto (tgt := 5) hx hb dX3_dot_44 (by decide) ?_
  refine lv_iload hx hb dX3_dot_5 (lv_at hl 0 rfl) ?_
  refine lv_iconst (v := nI 3) hx hb dX3_dot_7 (by decide) ?_
  refine nv_icmp_ge (tgt := 47) hx hb (by decide) (by decide) dX3_dot_8 (by decide) (fun c8 => absurd c8 (by omega)) (fun c8 => ?_)
  refine lv_aload_n hx hb dX3_dot_11 rfl (lv_at hl 2 rfl) ?_
  refine va_get (D := D) (ci := 3) (v := .ref (ad 0)) (C := RX3) (T := TX3) (N := 4) hx hb hts hiX3 hown hK hP 5 rfl rfl 0 (by decide) hf18 (fun _ h9 => h9) rfl dX3_dot_12 ?_
  refine lv_iload_n hx hb dX3_dot_15 rfl (lv_at hl 1 rfl) ?_
  refine lv_aload_n hx hb dX3_dot_16 rfl (lv_at hl 2 rfl) ?_
  refine va_get (D := D) (ci := 3) (v := .ref (ad 0)) (C := RX3) (T := TX3) (N := 4) hx hb hts hiX3 hown hK hP 5 rfl rfl 0 (by decide) hf18 (fun _ h9 => h9) rfl dX3_dot_17 ?_
  refine lv_aload_n hx hb dX3_dot_20 rfl (lv_at hl 2 rfl) ?_
  refine lv_iload_n hx hb dX3_dot_21 rfl (lv_at hl 3 rfl) ?_
  refine lv_iload hx hb dX3_dot_22 (lv_at hl 0 rfl) ?_
  refine ctR_V (As := [.int (nI i), .int (nI 2)]) (rest := [.ref (ad 0), .int (nI (fadd q (fadd q 0 (fmul q (pt q i 0) (pt q j 0))) (fmul q (pt q i 1) (pt q j 1)))), .ref (ad 0)]) (r := .int (nI (pt q i 2))) ⟨hx, hb, hml, hown, hts⟩ (c_X3_part l D cI cZ ad q sm pr op iv hF tr ro hT i 2 (by omega) (by omega)) (cwV 2 hts gX3_dot_X3_part rfl rfl rfl hdV_X3_part ⟨Nat.le_of_ble_eq_true rfl, Nat.le_of_ble_eq_true rfl⟩) hK hN hP [0, 1, 2, 3, 4, 5, 6, 7] rfl 5 3 rfl rfl rfl hl.1 rfl (Nat.le_of_ble_eq_true rfl) ⟨Nat.zero_le _, Nat.zero_le _⟩ dX3_dot_24 ?_
  have hh_9 : pt q i 2 < q := pt_lt hF.1 (by omega) (by omega)
  refine lv_aload_n hx hb dX3_dot_27 rfl (lv_at hl 2 rfl) ?_
  refine lv_iload_n hx hb dX3_dot_28 rfl (lv_at hl 4 rfl) ?_
  refine lv_iload hx hb dX3_dot_29 (lv_at hl 0 rfl) ?_
  refine ctR_V (As := [.int (nI j), .int (nI 2)]) (rest := [.int (nI (pt q i 2)), .ref (ad 0), .int (nI (fadd q (fadd q 0 (fmul q (pt q i 0) (pt q j 0))) (fmul q (pt q i 1) (pt q j 1)))), .ref (ad 0)]) (r := .int (nI (pt q j 2))) ⟨hx, hb, hml, hown, hts⟩ (c_X3_part l D cI cZ ad q sm pr op iv hF tr ro hT j 2 (by omega) (by omega)) (cwV 2 hts gX3_dot_X3_part rfl rfl rfl hdV_X3_part ⟨Nat.le_of_ble_eq_true rfl, Nat.le_of_ble_eq_true rfl⟩) hK hN hP [0, 1, 2, 3, 4, 5, 6, 7] rfl 5 3 rfl rfl rfl hl.1 rfl (Nat.le_of_ble_eq_true rfl) ⟨Nat.zero_le _, Nat.zero_le _⟩ dX3_dot_31 ?_
  have hh_10 : pt q j 2 < q := pt_lt hF.1 (by omega) (by omega)
  refine ctR_V (As := [.int (nI (pt q i 2)), .int (nI (pt q j 2))]) (rest := [.int (nI (fadd q (fadd q 0 (fmul q (pt q i 0) (pt q j 0))) (fmul q (pt q i 1) (pt q j 1)))), .ref (ad 0)]) (r := .int (nI (fmul q (pt q i 2) (pt q j 2)))) ⟨hx, hb, hml, hown, hts⟩ (c_X1_times l D cI cZ ad q sm pr op iv hF (pt q i 2) (pt q j 2) (by omega) (by omega)) (cwV 2 hts gX3_dot_X1_times rfl rfl rfl hdV_X1_times ⟨Nat.le_of_ble_eq_true rfl, Nat.le_of_ble_eq_true rfl⟩) hK hN hP [0, 1, 2, 3, 4] rfl 0 1 rfl rfl rfl hl.1 rfl (Nat.le_of_ble_eq_true rfl) ⟨Nat.zero_le _, Nat.zero_le _⟩ dX3_dot_34 ?_
  have hh_11 : fmul q (pt q i 2) (pt q j 2) < q := fmul_lt hF.1 (by omega) (by omega)
  refine ctR_V (As := [.int (nI (fadd q (fadd q 0 (fmul q (pt q i 0) (pt q j 0))) (fmul q (pt q i 1) (pt q j 1)))), .int (nI (fmul q (pt q i 2) (pt q j 2)))]) (rest := []) (r := .int (nI (fadd q (fadd q (fadd q 0 (fmul q (pt q i 0) (pt q j 0))) (fmul q (pt q i 1) (pt q j 1))) (fmul q (pt q i 2) (pt q j 2))))) ⟨hx, hb, hml, hown, hts⟩ (c_X1_plus l D cI cZ ad q sm pr op iv hF (fadd q (fadd q 0 (fmul q (pt q i 0) (pt q j 0))) (fmul q (pt q i 1) (pt q j 1))) (fmul q (pt q i 2) (pt q j 2)) (by omega) (by omega)) (cwV 2 hts gX3_dot_X1_plus rfl rfl rfl hdV_X1_plus ⟨Nat.le_of_ble_eq_true rfl, Nat.le_of_ble_eq_true rfl⟩) hK hN hP [0, 1, 2, 3, 4] rfl 0 1 rfl rfl rfl hl.1 rfl (Nat.le_of_ble_eq_true rfl) ⟨Nat.zero_le _, Nat.zero_le _⟩ dX3_dot_37 ?_
  have hh_12 : fadd q (fadd q (fadd q 0 (fmul q (pt q i 0) (pt q j 0))) (fmul q (pt q i 1) (pt q j 1))) (fmul q (pt q i 2) (pt q j 2)) < q := fadd_lt hF.1 (by omega) (by omega)
  refine lv_istore_n (lv' := [(3, .int (nI (fadd q (fadd q (fadd q 0 (fmul q (pt q i 0) (pt q j 0))) (fmul q (pt q i 1) (pt q j 1))) (fmul q (pt q i 2) (pt q j 2))))), (4, .int (nI 2)), (0, .ref (ad 5)), (1, .int (nI i)), (2, .int (nI j))]) hx hb dX3_dot_40 rfl hl (by decide) rfl (fun ls hl => ?_)
  refine lv_iinc (v := nI 3) (lv' := [(4, .int (nI 3)), (3, .int (nI (fadd q (fadd q (fadd q 0 (fmul q (pt q i 0) (pt q j 0))) (fmul q (pt q i 1) (pt q j 1))) (fmul q (pt q i 2) (pt q j 2))))), (0, .ref (ad 5)), (1, .int (nI i)), (2, .int (nI j))]) hx hb dX3_dot_41 hl (k := 1) rfl (nI_inc 2) (by decide) rfl (fun ls hl => ?_)
  refine lv_goto (tgt := 5) hx hb dX3_dot_44 (by decide) ?_
  refine lv_iload hx hb dX3_dot_5 (lv_at hl 0 rfl) ?_
  refine lv_iconst (v := nI 3) hx hb dX3_dot_7 (by decide) ?_
  refine nv_icmp_ge (tgt := 47) hx hb (by decide) (by decide) dX3_dot_8 (by decide) (fun c8 => ?_) (fun c8 => absurd c8 (by omega))
  refine lv_iload_n hx hb dX3_dot_47 rfl (lv_at hl 1 rfl) ?_
  exact ctR_ret (v := (nI (fadd q (fadd q (fadd q 0 (fmul q (pt q i 0) (pt q j 0))) (fmul q (pt q i 1) (pt q j 1))) (fmul q (pt q i 2) (pt q j 2))))) hx hb hr rfl dX3_dot_48 hlocks (by rw [fadd_0l hF.1 (by omega)]; rfl)

set_option maxHeartbeats 4000000 in
set_option maxRecDepth 100000 in
theorem c_X3_isOn (l : Launch) (D : va_G) (cI cZ : ClassId) (ad : Nat → Nat) (q : Nat) (sm : Nat → Nat) (pr : Nat → Nat) (op : Nat → Nat) (iv : Nat → Nat) (hF : FOK q sm pr op iv) (tr : Nat → Nat) (ro : Nat → Nat) (hT : TOK q tr) (i : Nat) (j : Nat) (k_1 : i < nn q) (k_2 : j < nn q) : CtR l yX3_isOn wsX3_isOn { frames := 2, cells := 0, slots := 0, locals := 46 } D (tyG cI cZ) [.ref (ad 5), .int (nI i), .int (nI j)] [(ad 0, .inr (1, [.int (nI q), .ref (ad 1), .ref (ad 2), .ref (ad 3), .ref (ad 4)])), (ad 1, .inl (cI, 81, .inl (nF sm))), (ad 2, .inl (cI, 81, .inl (nF pr))), (ad 3, .inl (cI, 9, .inl (nF op))), (ad 4, .inl (cI, 9, .inl (nF iv))), (ad 5, .inr (3, [.ref (ad 0), .int (nI (nn q)), .ref (ad 6), .ref (ad 7)])), (ad 6, .inl (cI, 273, .inl (nF tr))), (ad 7, .inl (cI, 910, .inl (nF ro)))] (.int (nI (onq q i j).toNat)) := by
  refine Met.ofW (cc := cX3_isOn) (maxL := 3) (ret := some .boolean) (by decide) rfl ?_
  intro p e s m args below meth c s₁ B hml hv
  obtain ⟨rfl, hP, hK, hN⟩ := hv
  have hx := B.exec
  have hb := B.bytes
  have hr := B.returns
  have hts := atoms_spec (ws := wsX3_isOn) B.pre
  have hown : s.vm.findClass RX3 = some m.cls := findClass_of_methodNamed B.named
  have hlocks := B.notSynchronized
  have hl := lv_entry ([.ref (ad 5), .int (nI i), .int (nI j)]) (n := 3) (Nat.le_of_ble_eq_true rfl)
  rw [lg_entry_eq]
  generalize (lg_sl ([.ref (ad 5), .int (nI i), .int (nI j)]) ++ List.replicate (3 - (lg_sl ([.ref (ad 5), .int (nI i), .int (nI j)])).length) Slot.unset).toArray = ls at hl ⊢
  have hl : lv_has ls 3 [(0, .ref (ad 5)), (1, .int (nI i)), (2, .int (nI j))] := hl
  have hq2 := qs_le hF.1
  have hn2 := nn_le hF.1
  refine lv_aload_n hx hb dX3_isOn_0 rfl (lv_at hl 0 rfl) ?_
  refine lv_iload_n hx hb dX3_isOn_1 rfl (lv_at hl 1 rfl) ?_
  refine lv_iload_n hx hb dX3_isOn_2 rfl (lv_at hl 2 rfl) ?_
  refine ctR_V (As := [.int (nI i), .int (nI j)]) (rest := []) (r := .int (nI (vdot q (pt q i) (pt q j)))) ⟨hx, hb, hml, hown, hts⟩ (c_X3_dot l D cI cZ ad q sm pr op iv hF tr ro hT i j (by omega) (by omega)) (cwV 2 hts gX3_isOn_X3_dot rfl rfl rfl hdV_X3_dot ⟨Nat.le_of_ble_eq_true rfl, Nat.le_of_ble_eq_true rfl⟩) hK hN hP [0, 1, 2, 3, 4, 5, 6, 7] rfl 5 3 rfl rfl rfl hl.1 rfl (Nat.le_of_ble_eq_true rfl) ⟨Nat.zero_le _, Nat.zero_le _⟩ dX3_isOn_3 ?_
  have hh_1 : vdot q (pt q i) (pt q j) < q := vdot_lt hF.1 (ptv hF.1 (by omega)) (ptv hF.1 (by omega))
  refine nv_if_ne (tgt := 13) hx hb (by omega) dX3_isOn_6 (by decide) (fun c6 => ?_) (fun c6 => ?_)
  · refine lv_iconst (v := nI 0) hx hb dX3_isOn_13 (by decide) ?_
    exact ctR_ret (v := (nI 0)) hx hb hr (nar_bool false) dX3_isOn_14 hlocks (by rw [onq, beq_eq_false_iff_ne.mpr c6]; rfl)
  · refine lv_iconst (v := nI 1) hx hb dX3_isOn_9 (by decide) ?_
    refine lv_goto (tgt := 14) hx hb dX3_isOn_10 (by decide) ?_
    exact ctR_ret (v := (nI 1)) hx hb hr (nar_bool true) dX3_isOn_14 hlocks (by rw [onq, c6]; rfl)

set_option maxHeartbeats 4000000 in
set_option maxRecDepth 100000 in
theorem c_X3_cross (l : Launch) (D : va_G) (cI cZ : ClassId) (ad : Nat → Nat) (q : Nat) (sm : Nat → Nat) (pr : Nat → Nat) (op : Nat → Nat) (iv : Nat → Nat) (hF : FOK q sm pr op iv) (tr : Nat → Nat) (ro : Nat → Nat) (hT : TOK q tr) (i : Nat) (j : Nat) (k : Nat) (k_1 : i < nn q) (k_2 : j < nn q) (k_3 : k < 3) : CtR l yX3_cross wsX3_cross { frames := 2, cells := 0, slots := 0, locals := 46 } D (tyG cI cZ) [.ref (ad 5), .int (nI i), .int (nI j), .int (nI k)] [(ad 0, .inr (1, [.int (nI q), .ref (ad 1), .ref (ad 2), .ref (ad 3), .ref (ad 4)])), (ad 1, .inl (cI, 81, .inl (nF sm))), (ad 2, .inl (cI, 81, .inl (nF pr))), (ad 3, .inl (cI, 9, .inl (nF op))), (ad 4, .inl (cI, 9, .inl (nF iv))), (ad 5, .inr (3, [.ref (ad 0), .int (nI (nn q)), .ref (ad 6), .ref (ad 7)])), (ad 6, .inl (cI, 273, .inl (nF tr))), (ad 7, .inl (cI, 910, .inl (nF ro)))] (.int (nI (vcr q (pt q i) (pt q j) k))) := by
  refine Met.ofW (cc := cX3_cross) (maxL := 6) (ret := some .int) (by decide) rfl ?_
  intro p e s m args below meth c s₁ B hml hv
  obtain ⟨rfl, hP, hK, hN⟩ := hv
  have hx := B.exec
  have hb := B.bytes
  have hr := B.returns
  have hts := atoms_spec (ws := wsX3_cross) B.pre
  have hown : s.vm.findClass RX3 = some m.cls := findClass_of_methodNamed B.named
  have hlocks := B.notSynchronized
  have hf18 := hts (.fieldLink RX3 18 "FinitePlanes$Plane" "field" "LFinitePlanes$Field;") (by decide +kernel)
  have hiX3 : ∀ w ∈ u_ws RX3 TX3 4, w ∈ wsX3_cross := by decide +kernel
  have hl := lv_entry ([.ref (ad 5), .int (nI i), .int (nI j), .int (nI k)]) (n := 6) (Nat.le_of_ble_eq_true rfl)
  rw [lg_entry_eq]
  generalize (lg_sl ([.ref (ad 5), .int (nI i), .int (nI j), .int (nI k)]) ++ List.replicate (6 - (lg_sl ([.ref (ad 5), .int (nI i), .int (nI j), .int (nI k)])).length) Slot.unset).toArray = ls at hl ⊢
  have hl : lv_has ls 6 [(0, .ref (ad 5)), (1, .int (nI i)), (2, .int (nI j)), (3, .int (nI k))] := hl
  have hq2 := qs_le hF.1
  have hn2 := nn_le hF.1
  refine lv_iload_n hx hb dX3_cross_0 rfl (lv_at hl 3 rfl) ?_
  refine lv_iconst (v := nI 1) hx hb dX3_cross_1 (by decide) ?_
  refine nv_addE (r := k + 1) hx hb rfl dX3_cross_2 ?_
  refine lv_iconst (v := nI 3) hx hb dX3_cross_3 (by decide) ?_
  refine nv_remE (r := (k + 1) % 3) hx hb (by omega) (by decide) (by decide) rfl dX3_cross_4 ?_
  refine lv_istore (lv' := [(4, .int (nI ((k + 1) % 3))), (0, .ref (ad 5)), (1, .int (nI i)), (2, .int (nI j)), (3, .int (nI k))]) hx hb dX3_cross_5 hl (by decide) rfl (fun ls hl => ?_)
  refine lv_iload_n hx hb dX3_cross_7 rfl (lv_at hl 4 rfl) ?_
  refine lv_iconst (v := nI 2) hx hb dX3_cross_8 (by decide) ?_
  refine nv_addE (r := k + 2) hx hb rfl dX3_cross_9 ?_
  refine lv_iconst (v := nI 3) hx hb dX3_cross_10 (by decide) ?_
  refine nv_remE (r := (k + 2) % 3) hx hb (by omega) (by decide) (by decide) rfl dX3_cross_11 ?_
  refine lv_istore (lv' := [(5, .int (nI ((k + 2) % 3))), (4, .int (nI ((k + 1) % 3))), (0, .ref (ad 5)), (1, .int (nI i)), (2, .int (nI j)), (3, .int (nI k))]) hx hb dX3_cross_12 hl (by decide) rfl (fun ls hl => ?_)
  refine lv_aload_n hx hb dX3_cross_14 rfl (lv_at hl 2 rfl) ?_
  refine va_get (D := D) (ci := 3) (v := .ref (ad 0)) (C := RX3) (T := TX3) (N := 4) hx hb hts hiX3 hown hK hP 5 rfl rfl 0 (by decide) hf18 (fun _ h9 => h9) rfl dX3_cross_15 ?_
  refine lv_aload_n hx hb dX3_cross_18 rfl (lv_at hl 2 rfl) ?_
  refine lv_iload_n hx hb dX3_cross_19 rfl (lv_at hl 3 rfl) ?_
  refine lv_iload hx hb dX3_cross_20 (lv_at hl 1 rfl) ?_
  refine ctR_V (As := [.int (nI i), .int (nI ((k + 1) % 3))]) (rest := [.ref (ad 0)]) (r := .int (nI (pt q i ((k + 1) % 3)))) ⟨hx, hb, hml, hown, hts⟩ (c_X3_part l D cI cZ ad q sm pr op iv hF tr ro hT i ((k + 1) % 3) (by omega) (by omega)) (cwV 2 hts gX3_cross_X3_part rfl rfl rfl hdV_X3_part ⟨Nat.le_of_ble_eq_true rfl, Nat.le_of_ble_eq_true rfl⟩) hK hN hP [0, 1, 2, 3, 4, 5, 6, 7] rfl 5 3 rfl rfl rfl hl.1 rfl (Nat.le_of_ble_eq_true rfl) ⟨Nat.zero_le _, Nat.zero_le _⟩ dX3_cross_22 ?_
  have hh_1 : pt q i ((k + 1) % 3) < q := pt_lt hF.1 (by omega) (by omega)
  refine lv_aload_n hx hb dX3_cross_25 rfl (lv_at hl 2 rfl) ?_
  refine lv_iload_n hx hb dX3_cross_26 rfl (lv_at hl 3 rfl) ?_
  refine lv_iload hx hb dX3_cross_27 (lv_at hl 0 rfl) ?_
  refine ctR_V (As := [.int (nI i), .int (nI ((k + 2) % 3))]) (rest := [.int (nI (pt q i ((k + 1) % 3))), .ref (ad 0)]) (r := .int (nI (pt q i ((k + 2) % 3)))) ⟨hx, hb, hml, hown, hts⟩ (c_X3_part l D cI cZ ad q sm pr op iv hF tr ro hT i ((k + 2) % 3) (by omega) (by omega)) (cwV 2 hts gX3_cross_X3_part rfl rfl rfl hdV_X3_part ⟨Nat.le_of_ble_eq_true rfl, Nat.le_of_ble_eq_true rfl⟩) hK hN hP [0, 1, 2, 3, 4, 5, 6, 7] rfl 5 3 rfl rfl rfl hl.1 rfl (Nat.le_of_ble_eq_true rfl) ⟨Nat.zero_le _, Nat.zero_le _⟩ dX3_cross_29 ?_
  have hh_2 : pt q i ((k + 2) % 3) < q := pt_lt hF.1 (by omega) (by omega)
  refine lv_aload_n hx hb dX3_cross_32 rfl (lv_at hl 2 rfl) ?_
  refine lv_iload_n hx hb dX3_cross_33 rfl (lv_at hl 4 rfl) ?_
  refine lv_iload hx hb dX3_cross_34 (lv_at hl 1 rfl) ?_
  refine ctR_V (As := [.int (nI j), .int (nI ((k + 1) % 3))]) (rest := [.int (nI (pt q i ((k + 2) % 3))), .int (nI (pt q i ((k + 1) % 3))), .ref (ad 0)]) (r := .int (nI (pt q j ((k + 1) % 3)))) ⟨hx, hb, hml, hown, hts⟩ (c_X3_part l D cI cZ ad q sm pr op iv hF tr ro hT j ((k + 1) % 3) (by omega) (by omega)) (cwV 2 hts gX3_cross_X3_part rfl rfl rfl hdV_X3_part ⟨Nat.le_of_ble_eq_true rfl, Nat.le_of_ble_eq_true rfl⟩) hK hN hP [0, 1, 2, 3, 4, 5, 6, 7] rfl 5 3 rfl rfl rfl hl.1 rfl (Nat.le_of_ble_eq_true rfl) ⟨Nat.zero_le _, Nat.zero_le _⟩ dX3_cross_36 ?_
  have hh_3 : pt q j ((k + 1) % 3) < q := pt_lt hF.1 (by omega) (by omega)
  refine lv_aload_n hx hb dX3_cross_39 rfl (lv_at hl 2 rfl) ?_
  refine lv_iload_n hx hb dX3_cross_40 rfl (lv_at hl 4 rfl) ?_
  refine lv_iload hx hb dX3_cross_41 (lv_at hl 0 rfl) ?_
  refine ctR_V (As := [.int (nI j), .int (nI ((k + 2) % 3))]) (rest := [.int (nI (pt q j ((k + 1) % 3))), .int (nI (pt q i ((k + 2) % 3))), .int (nI (pt q i ((k + 1) % 3))), .ref (ad 0)]) (r := .int (nI (pt q j ((k + 2) % 3)))) ⟨hx, hb, hml, hown, hts⟩ (c_X3_part l D cI cZ ad q sm pr op iv hF tr ro hT j ((k + 2) % 3) (by omega) (by omega)) (cwV 2 hts gX3_cross_X3_part rfl rfl rfl hdV_X3_part ⟨Nat.le_of_ble_eq_true rfl, Nat.le_of_ble_eq_true rfl⟩) hK hN hP [0, 1, 2, 3, 4, 5, 6, 7] rfl 5 3 rfl rfl rfl hl.1 rfl (Nat.le_of_ble_eq_true rfl) ⟨Nat.zero_le _, Nat.zero_le _⟩ dX3_cross_43 ?_
  have hh_4 : pt q j ((k + 2) % 3) < q := pt_lt hF.1 (by omega) (by omega)
  refine ctR_V (As := [.int (nI (pt q i ((k + 1) % 3))), .int (nI (pt q i ((k + 2) % 3))), .int (nI (pt q j ((k + 1) % 3))), .int (nI (pt q j ((k + 2) % 3)))]) (rest := []) (r := .int (nI (fcw q (pt q i ((k + 1) % 3)) (pt q i ((k + 2) % 3)) (pt q j ((k + 1) % 3)) (pt q j ((k + 2) % 3))))) ⟨hx, hb, hml, hown, hts⟩ (c_X1_crosswise l D cI cZ ad q sm pr op iv hF (pt q i ((k + 1) % 3)) (pt q i ((k + 2) % 3)) (pt q j ((k + 1) % 3)) (pt q j ((k + 2) % 3)) (by omega) (by omega) (by omega) (by omega)) (cwV 4 hts gX3_cross_X1_crosswise rfl rfl rfl hdV_X1_crosswise ⟨Nat.le_of_ble_eq_true rfl, Nat.le_of_ble_eq_true rfl⟩) hK hN hP [0, 1, 2, 3, 4] rfl 0 1 rfl rfl rfl hl.1 rfl (Nat.le_of_ble_eq_true rfl) ⟨Nat.zero_le _, Nat.zero_le _⟩ dX3_cross_46 ?_
  have hh_5 : fcw q (pt q i ((k + 1) % 3)) (pt q i ((k + 2) % 3)) (pt q j ((k + 1) % 3)) (pt q j ((k + 2) % 3)) < q := fcw_lt hF.1 (by omega) (by omega) (by omega) (by omega)
  exact ctR_ret (v := (nI (fcw q (pt q i ((k + 1) % 3)) (pt q i ((k + 2) % 3)) (pt q j ((k + 1) % 3)) (pt q j ((k + 2) % 3))))) hx hb hr rfl dX3_cross_49 hlocks rfl

set_option maxHeartbeats 4000000 in
set_option maxRecDepth 100000 in
theorem c_X3_det (l : Launch) (D : va_G) (cI cZ : ClassId) (ad : Nat → Nat) (q : Nat) (sm : Nat → Nat) (pr : Nat → Nat) (op : Nat → Nat) (iv : Nat → Nat) (hF : FOK q sm pr op iv) (tr : Nat → Nat) (ro : Nat → Nat) (hT : TOK q tr) (i : Nat) (j : Nat) (k : Nat) (k_1 : i < nn q) (k_2 : j < nn q) (k_3 : k < nn q) : CtR l yX3_det wsX3_det { frames := 3, cells := 0, slots := 0, locals := 71 } D (tyG cI cZ) [.ref (ad 5), .int (nI i), .int (nI j), .int (nI k)] [(ad 0, .inr (1, [.int (nI q), .ref (ad 1), .ref (ad 2), .ref (ad 3), .ref (ad 4)])), (ad 1, .inl (cI, 81, .inl (nF sm))), (ad 2, .inl (cI, 81, .inl (nF pr))), (ad 3, .inl (cI, 9, .inl (nF op))), (ad 4, .inl (cI, 9, .inl (nF iv))), (ad 5, .inr (3, [.ref (ad 0), .int (nI (nn q)), .ref (ad 6), .ref (ad 7)])), (ad 6, .inl (cI, 273, .inl (nF tr))), (ad 7, .inl (cI, 910, .inl (nF ro)))] (.int (nI (vdet q (pt q i) (pt q j) (pt q k)))) := by
  refine Met.ofW (cc := cX3_det) (maxL := 6) (ret := some .int) (by decide) rfl ?_
  intro p e s m args below meth c s₁ B hml hv
  obtain ⟨rfl, hP, hK, hN⟩ := hv
  have hx := B.exec
  have hb := B.bytes
  have hr := B.returns
  have hts := atoms_spec (ws := wsX3_det) B.pre
  have hown : s.vm.findClass RX3 = some m.cls := findClass_of_methodNamed B.named
  have hlocks := B.notSynchronized
  have hf18 := hts (.fieldLink RX3 18 "FinitePlanes$Plane" "field" "LFinitePlanes$Field;") (by decide +kernel)
  have hiX3 : ∀ w ∈ u_ws RX3 TX3 4, w ∈ wsX3_det := by decide +kernel
  have hl := lv_entry ([.ref (ad 5), .int (nI i), .int (nI j), .int (nI k)]) (n := 6) (Nat.le_of_ble_eq_true rfl)
  rw [lg_entry_eq]
  generalize (lg_sl ([.ref (ad 5), .int (nI i), .int (nI j), .int (nI k)]) ++ List.replicate (6 - (lg_sl ([.ref (ad 5), .int (nI i), .int (nI j), .int (nI k)])).length) Slot.unset).toArray = ls at hl ⊢
  have hl : lv_has ls 6 [(0, .ref (ad 5)), (1, .int (nI i)), (2, .int (nI j)), (3, .int (nI k))] := hl
  have hq2 := qs_le hF.1
  have hn2 := nn_le hF.1
  refine lv_iconst (v := nI 0) hx hb dX3_det_0 (by decide) ?_
  refine lv_istore (lv' := [(4, .int (nI 0)), (0, .ref (ad 5)), (1, .int (nI i)), (2, .int (nI j)), (3, .int (nI k))]) hx hb dX3_det_1 hl (by decide) rfl (fun ls hl => ?_)
  refine lv_iconst (v := nI 0) hx hb dX3_det_3 (by decide) ?_
  refine lv_istore (lv' := [(5, .int (nI 0)), (4, .int (nI 0)), (0, .ref (ad 5)), (1, .int (nI i)), (2, .int (nI j)), (3, .int (nI k))]) hx hb dX3_det_4 hl (by decide) rfl (fun ls hl => ?_)
  refine lv_iload hx hb dX3_det_6 (lv_at hl 0 rfl) ?_
  refine lv_iconst (v := nI 3) hx hb dX3_det_8 (by decide) ?_
  refine nv_icmp_ge (tgt := 51) hx hb (by decide) (by decide) dX3_det_9 (by decide) (fun c9 => absurd c9 (by omega)) (fun c9 => ?_)
  refine lv_aload_n hx hb dX3_det_12 rfl (lv_at hl 2 rfl) ?_
  refine va_get (D := D) (ci := 3) (v := .ref (ad 0)) (C := RX3) (T := TX3) (N := 4) hx hb hts hiX3 hown hK hP 5 rfl rfl 0 (by decide) hf18 (fun _ h9 => h9) rfl dX3_det_13 ?_
  refine lv_iload hx hb dX3_det_16 (lv_at hl 1 rfl) ?_
  refine lv_aload_n hx hb dX3_det_18 rfl (lv_at hl 2 rfl) ?_
  refine va_get (D := D) (ci := 3) (v := .ref (ad 0)) (C := RX3) (T := TX3) (N := 4) hx hb hts hiX3 hown hK hP 5 rfl rfl 0 (by decide) hf18 (fun _ h9 => h9) rfl dX3_det_19 ?_
  refine lv_aload_n hx hb dX3_det_22 rfl (lv_at hl 2 rfl) ?_
  refine lv_iload_n hx hb dX3_det_23 rfl (lv_at hl 3 rfl) ?_
  refine lv_iload hx hb dX3_det_24 (lv_at hl 0 rfl) ?_
  refine ctR_V (As := [.int (nI i), .int (nI 0)]) (rest := [.ref (ad 0), .int (nI 0), .ref (ad 0)]) (r := .int (nI (pt q i 0))) ⟨hx, hb, hml, hown, hts⟩ (c_X3_part l D cI cZ ad q sm pr op iv hF tr ro hT i 0 (by omega) (by omega)) (cwV 2 hts gX3_det_X3_part rfl rfl rfl hdV_X3_part ⟨Nat.le_of_ble_eq_true rfl, Nat.le_of_ble_eq_true rfl⟩) hK hN hP [0, 1, 2, 3, 4, 5, 6, 7] rfl 5 3 rfl rfl rfl hl.1 rfl (Nat.le_of_ble_eq_true rfl) ⟨Nat.zero_le _, Nat.zero_le _⟩ dX3_det_26 ?_
  have hh_1 : pt q i 0 < q := pt_lt hF.1 (by omega) (by omega)
  refine lv_aload_n hx hb dX3_det_29 rfl (lv_at hl 2 rfl) ?_
  refine lv_iload_n hx hb dX3_det_30 rfl (lv_at hl 4 rfl) ?_
  refine lv_iload_n hx hb dX3_det_31 rfl (lv_at hl 5 rfl) ?_
  refine lv_iload hx hb dX3_det_32 (lv_at hl 0 rfl) ?_
  refine ctR_V (As := [.int (nI j), .int (nI k), .int (nI 0)]) (rest := [.int (nI (pt q i 0)), .ref (ad 0), .int (nI 0), .ref (ad 0)]) (r := .int (nI (vcr q (pt q j) (pt q k) 0))) ⟨hx, hb, hml, hown, hts⟩ (c_X3_cross l D cI cZ ad q sm pr op iv hF tr ro hT j k 0 (by omega) (by omega) (by omega)) (cwV 3 hts gX3_det_X3_cross rfl rfl rfl hdV_X3_cross ⟨Nat.le_of_ble_eq_true rfl, Nat.le_of_ble_eq_true rfl⟩) hK hN hP [0, 1, 2, 3, 4, 5, 6, 7] rfl 5 3 rfl rfl rfl hl.1 rfl (Nat.le_of_ble_eq_true rfl) ⟨Nat.zero_le _, Nat.zero_le _⟩ dX3_det_34 ?_
  have hh_2 : vcr q (pt q j) (pt q k) 0 < q := vcr_lt hF.1 (ptv hF.1 (by omega)) (ptv hF.1 (by omega))
  refine ctR_V (As := [.int (nI (pt q i 0)), .int (nI (vcr q (pt q j) (pt q k) 0))]) (rest := [.int (nI 0), .ref (ad 0)]) (r := .int (nI (fmul q (pt q i 0) (vcr q (pt q j) (pt q k) 0)))) ⟨hx, hb, hml, hown, hts⟩ (c_X1_times l D cI cZ ad q sm pr op iv hF (pt q i 0) (vcr q (pt q j) (pt q k) 0) (by omega) (by omega)) (cwV 2 hts gX3_det_X1_times rfl rfl rfl hdV_X1_times ⟨Nat.le_of_ble_eq_true rfl, Nat.le_of_ble_eq_true rfl⟩) hK hN hP [0, 1, 2, 3, 4] rfl 0 1 rfl rfl rfl hl.1 rfl (Nat.le_of_ble_eq_true rfl) ⟨Nat.zero_le _, Nat.zero_le _⟩ dX3_det_37 ?_
  have hh_3 : fmul q (pt q i 0) (vcr q (pt q j) (pt q k) 0) < q := fmul_lt hF.1 (by omega) (by omega)
  refine ctR_V (As := [.int (nI 0), .int (nI (fmul q (pt q i 0) (vcr q (pt q j) (pt q k) 0)))]) (rest := []) (r := .int (nI (fadd q 0 (fmul q (pt q i 0) (vcr q (pt q j) (pt q k) 0))))) ⟨hx, hb, hml, hown, hts⟩ (c_X1_plus l D cI cZ ad q sm pr op iv hF 0 (fmul q (pt q i 0) (vcr q (pt q j) (pt q k) 0)) (by omega) (by omega)) (cwV 2 hts gX3_det_X1_plus rfl rfl rfl hdV_X1_plus ⟨Nat.le_of_ble_eq_true rfl, Nat.le_of_ble_eq_true rfl⟩) hK hN hP [0, 1, 2, 3, 4] rfl 0 1 rfl rfl rfl hl.1 rfl (Nat.le_of_ble_eq_true rfl) ⟨Nat.zero_le _, Nat.zero_le _⟩ dX3_det_40 ?_
  have hh_4 : fadd q 0 (fmul q (pt q i 0) (vcr q (pt q j) (pt q k) 0)) < q := fadd_lt hF.1 (by omega) (by omega)
  refine lv_istore (lv' := [(4, .int (nI (fadd q 0 (fmul q (pt q i 0) (vcr q (pt q j) (pt q k) 0))))), (5, .int (nI 0)), (0, .ref (ad 5)), (1, .int (nI i)), (2, .int (nI j)), (3, .int (nI k))]) hx hb dX3_det_43 hl (by decide) rfl (fun ls hl => ?_)
  refine lv_iinc (v := nI 1) (lv' := [(5, .int (nI 1)), (4, .int (nI (fadd q 0 (fmul q (pt q i 0) (vcr q (pt q j) (pt q k) 0))))), (0, .ref (ad 5)), (1, .int (nI i)), (2, .int (nI j)), (3, .int (nI k))]) hx hb dX3_det_45 hl (k := 1) rfl (nI_inc 0) (by decide) rfl (fun ls hl => ?_)
  refine lv_goto (tgt := 6) hx hb dX3_det_48 (by decide) ?_
  refine lv_iload hx hb dX3_det_6 (lv_at hl 0 rfl) ?_
  refine lv_iconst (v := nI 3) hx hb dX3_det_8 (by decide) ?_
  refine nv_icmp_ge (tgt := 51) hx hb (by decide) (by decide) dX3_det_9 (by decide) (fun c9 => absurd c9 (by omega)) (fun c9 => ?_)
  refine lv_aload_n hx hb dX3_det_12 rfl (lv_at hl 2 rfl) ?_
  refine va_get (D := D) (ci := 3) (v := .ref (ad 0)) (C := RX3) (T := TX3) (N := 4) hx hb hts hiX3 hown hK hP 5 rfl rfl 0 (by decide) hf18 (fun _ h9 => h9) rfl dX3_det_13 ?_
  refine lv_iload hx hb dX3_det_16 (lv_at hl 1 rfl) ?_
  refine lv_aload_n hx hb dX3_det_18 rfl (lv_at hl 2 rfl) ?_
  refine va_get (D := D) (ci := 3) (v := .ref (ad 0)) (C := RX3) (T := TX3) (N := 4) hx hb hts hiX3 hown hK hP 5 rfl rfl 0 (by decide) hf18 (fun _ h9 => h9) rfl dX3_det_19 ?_
  refine lv_aload_n hx hb dX3_det_22 rfl (lv_at hl 2 rfl) ?_
  refine lv_iload_n hx hb dX3_det_23 rfl (lv_at hl 3 rfl) ?_
  refine lv_iload hx hb dX3_det_24 (lv_at hl 0 rfl) ?_
  refine ctR_V (As := [.int (nI i), .int (nI 1)]) (rest := [.ref (ad 0), .int (nI (fadd q 0 (fmul q (pt q i 0) (vcr q (pt q j) (pt q k) 0)))), .ref (ad 0)]) (r := .int (nI (pt q i 1))) ⟨hx, hb, hml, hown, hts⟩ (c_X3_part l D cI cZ ad q sm pr op iv hF tr ro hT i 1 (by omega) (by omega)) (cwV 2 hts gX3_det_X3_part rfl rfl rfl hdV_X3_part ⟨Nat.le_of_ble_eq_true rfl, Nat.le_of_ble_eq_true rfl⟩) hK hN hP [0, 1, 2, 3, 4, 5, 6, 7] rfl 5 3 rfl rfl rfl hl.1 rfl (Nat.le_of_ble_eq_true rfl) ⟨Nat.zero_le _, Nat.zero_le _⟩ dX3_det_26 ?_
  have hh_5 : pt q i 1 < q := pt_lt hF.1 (by omega) (by omega)
  refine lv_aload_n hx hb dX3_det_29 rfl (lv_at hl 2 rfl) ?_
  refine lv_iload_n hx hb dX3_det_30 rfl (lv_at hl 4 rfl) ?_
  refine lv_iload_n hx hb dX3_det_31 rfl (lv_at hl 5 rfl) ?_
  refine lv_iload hx hb dX3_det_32 (lv_at hl 0 rfl) ?_
  refine ctR_V (As := [.int (nI j), .int (nI k), .int (nI 1)]) (rest := [.int (nI (pt q i 1)), .ref (ad 0), .int (nI (fadd q 0 (fmul q (pt q i 0) (vcr q (pt q j) (pt q k) 0)))), .ref (ad 0)]) (r := .int (nI (vcr q (pt q j) (pt q k) 1))) ⟨hx, hb, hml, hown, hts⟩ (c_X3_cross l D cI cZ ad q sm pr op iv hF tr ro hT j k 1 (by omega) (by omega) (by omega)) (cwV 3 hts gX3_det_X3_cross rfl rfl rfl hdV_X3_cross ⟨Nat.le_of_ble_eq_true rfl, Nat.le_of_ble_eq_true rfl⟩) hK hN hP [0, 1, 2, 3, 4, 5, 6, 7] rfl 5 3 rfl rfl rfl hl.1 rfl (Nat.le_of_ble_eq_true rfl) ⟨Nat.zero_le _, Nat.zero_le _⟩ dX3_det_34 ?_
  have hh_6 : vcr q (pt q j) (pt q k) 1 < q := vcr_lt hF.1 (ptv hF.1 (by omega)) (ptv hF.1 (by omega))
  refine ctR_V (As := [.int (nI (pt q i 1)), .int (nI (vcr q (pt q j) (pt q k) 1))]) (rest := [.int (nI (fadd q 0 (fmul q (pt q i 0) (vcr q (pt q j) (pt q k) 0)))), .ref (ad 0)]) (r := .int (nI (fmul q (pt q i 1) (vcr q (pt q j) (pt q k) 1)))) ⟨hx, hb, hml, hown, hts⟩ (c_X1_times l D cI cZ ad q sm pr op iv hF (pt q i 1) (vcr q (pt q j) (pt q k) 1) (by omega) (by omega)) (cwV 2 hts gX3_det_X1_times rfl rfl rfl hdV_X1_times ⟨Nat.le_of_ble_eq_true rfl, Nat.le_of_ble_eq_true rfl⟩) hK hN hP [0, 1, 2, 3, 4] rfl 0 1 rfl rfl rfl hl.1 rfl (Nat.le_of_ble_eq_true rfl) ⟨Nat.zero_le _, Nat.zero_le _⟩ dX3_det_37 ?_
  have hh_7 : fmul q (pt q i 1) (vcr q (pt q j) (pt q k) 1) < q := fmul_lt hF.1 (by omega) (by omega)
  refine ctR_V (As := [.int (nI (fadd q 0 (fmul q (pt q i 0) (vcr q (pt q j) (pt q k) 0)))), .int (nI (fmul q (pt q i 1) (vcr q (pt q j) (pt q k) 1)))]) (rest := []) (r := .int (nI (fadd q (fadd q 0 (fmul q (pt q i 0) (vcr q (pt q j) (pt q k) 0))) (fmul q (pt q i 1) (vcr q (pt q j) (pt q k) 1))))) ⟨hx, hb, hml, hown, hts⟩ (c_X1_plus l D cI cZ ad q sm pr op iv hF (fadd q 0 (fmul q (pt q i 0) (vcr q (pt q j) (pt q k) 0))) (fmul q (pt q i 1) (vcr q (pt q j) (pt q k) 1)) (by omega) (by omega)) (cwV 2 hts gX3_det_X1_plus rfl rfl rfl hdV_X1_plus ⟨Nat.le_of_ble_eq_true rfl, Nat.le_of_ble_eq_true rfl⟩) hK hN hP [0, 1, 2, 3, 4] rfl 0 1 rfl rfl rfl hl.1 rfl (Nat.le_of_ble_eq_true rfl) ⟨Nat.zero_le _, Nat.zero_le _⟩ dX3_det_40 ?_
  have hh_8 : fadd q (fadd q 0 (fmul q (pt q i 0) (vcr q (pt q j) (pt q k) 0))) (fmul q (pt q i 1) (vcr q (pt q j) (pt q k) 1)) < q := fadd_lt hF.1 (by omega) (by omega)
  refine lv_istore (lv' := [(4, .int (nI (fadd q (fadd q 0 (fmul q (pt q i 0) (vcr q (pt q j) (pt q k) 0))) (fmul q (pt q i 1) (vcr q (pt q j) (pt q k) 1))))), (5, .int (nI 1)), (0, .ref (ad 5)), (1, .int (nI i)), (2, .int (nI j)), (3, .int (nI k))]) hx hb dX3_det_43 hl (by decide) rfl (fun ls hl => ?_)
  refine lv_iinc (v := nI 2) (lv' := [(5, .int (nI 2)), (4, .int (nI (fadd q (fadd q 0 (fmul q (pt q i 0) (vcr q (pt q j) (pt q k) 0))) (fmul q (pt q i 1) (vcr q (pt q j) (pt q k) 1))))), (0, .ref (ad 5)), (1, .int (nI i)), (2, .int (nI j)), (3, .int (nI k))]) hx hb dX3_det_45 hl (k := 1) rfl (nI_inc 1) (by decide) rfl (fun ls hl => ?_)
  refine lv_goto (tgt := 6) hx hb dX3_det_48 (by decide) ?_
  refine lv_iload hx hb dX3_det_6 (lv_at hl 0 rfl) ?_
  refine lv_iconst (v := nI 3) hx hb dX3_det_8 (by decide) ?_
  refine nv_icmp_ge (tgt := 51) hx hb (by decide) (by decide) dX3_det_9 (by decide) (fun c9 => absurd c9 (by omega)) (fun c9 => ?_)
  refine lv_aload_n hx hb dX3_det_12 rfl (lv_at hl 2 rfl) ?_
  refine va_get (D := D) (ci := 3) (v := .ref (ad 0)) (C := RX3) (T := TX3) (N := 4) hx hb hts hiX3 hown hK hP 5 rfl rfl 0 (by decide) hf18 (fun _ h9 => h9) rfl dX3_det_13 ?_
  refine lv_iload hx hb dX3_det_16 (lv_at hl 1 rfl) ?_
  refine lv_aload_n hx hb dX3_det_18 rfl (lv_at hl 2 rfl) ?_
  refine va_get (D := D) (ci := 3) (v := .ref (ad 0)) (C := RX3) (T := TX3) (N := 4) hx hb hts hiX3 hown hK hP 5 rfl rfl 0 (by decide) hf18 (fun _ h9 => h9) rfl dX3_det_19 ?_
  refine lv_aload_n hx hb dX3_det_22 rfl (lv_at hl 2 rfl) ?_
  refine lv_iload_n hx hb dX3_det_23 rfl (lv_at hl 3 rfl) ?_
  refine lv_iload hx hb dX3_det_24 (lv_at hl 0 rfl) ?_
  refine ctR_V (As := [.int (nI i), .int (nI 2)]) (rest := [.ref (ad 0), .int (nI (fadd q (fadd q 0 (fmul q (pt q i 0) (vcr q (pt q j) (pt q k) 0))) (fmul q (pt q i 1) (vcr q (pt q j) (pt q k) 1)))), .ref (ad 0)]) (r := .int (nI (pt q i 2))) ⟨hx, hb, hml, hown, hts⟩ (c_X3_part l D cI cZ ad q sm pr op iv hF tr ro hT i 2 (by omega) (by omega)) (cwV 2 hts gX3_det_X3_part rfl rfl rfl hdV_X3_part ⟨Nat.le_of_ble_eq_true rfl, Nat.le_of_ble_eq_true rfl⟩) hK hN hP [0, 1, 2, 3, 4, 5, 6, 7] rfl 5 3 rfl rfl rfl hl.1 rfl (Nat.le_of_ble_eq_true rfl) ⟨Nat.zero_le _, Nat.zero_le _⟩ dX3_det_26 ?_
  have hh_9 : pt q i 2 < q := pt_lt hF.1 (by omega) (by omega)
  refine lv_aload_n hx hb dX3_det_29 rfl (lv_at hl 2 rfl) ?_
  refine lv_iload_n hx hb dX3_det_30 rfl (lv_at hl 4 rfl) ?_
  refine lv_iload_n hx hb dX3_det_31 rfl (lv_at hl 5 rfl) ?_
  refine lv_iload hx hb dX3_det_32 (lv_at hl 0 rfl) ?_
  refine ctR_V (As := [.int (nI j), .int (nI k), .int (nI 2)]) (rest := [.int (nI (pt q i 2)), .ref (ad 0), .int (nI (fadd q (fadd q 0 (fmul q (pt q i 0) (vcr q (pt q j) (pt q k) 0))) (fmul q (pt q i 1) (vcr q (pt q j) (pt q k) 1)))), .ref (ad 0)]) (r := .int (nI (vcr q (pt q j) (pt q k) 2))) ⟨hx, hb, hml, hown, hts⟩ (c_X3_cross l D cI cZ ad q sm pr op iv hF tr ro hT j k 2 (by omega) (by omega) (by omega)) (cwV 3 hts gX3_det_X3_cross rfl rfl rfl hdV_X3_cross ⟨Nat.le_of_ble_eq_true rfl, Nat.le_of_ble_eq_true rfl⟩) hK hN hP [0, 1, 2, 3, 4, 5, 6, 7] rfl 5 3 rfl rfl rfl hl.1 rfl (Nat.le_of_ble_eq_true rfl) ⟨Nat.zero_le _, Nat.zero_le _⟩ dX3_det_34 ?_
  have hh_10 : vcr q (pt q j) (pt q k) 2 < q := vcr_lt hF.1 (ptv hF.1 (by omega)) (ptv hF.1 (by omega))
  refine ctR_V (As := [.int (nI (pt q i 2)), .int (nI (vcr q (pt q j) (pt q k) 2))]) (rest := [.int (nI (fadd q (fadd q 0 (fmul q (pt q i 0) (vcr q (pt q j) (pt q k) 0))) (fmul q (pt q i 1) (vcr q (pt q j) (pt q k) 1)))), .ref (ad 0)]) (r := .int (nI (fmul q (pt q i 2) (vcr q (pt q j) (pt q k) 2)))) ⟨hx, hb, hml, hown, hts⟩ (c_X1_times l D cI cZ ad q sm pr op iv hF (pt q i 2) (vcr q (pt q j) (pt q k) 2) (by omega) (by omega)) (cwV 2 hts gX3_det_X1_times rfl rfl rfl hdV_X1_times ⟨Nat.le_of_ble_eq_true rfl, Nat.le_of_ble_eq_true rfl⟩) hK hN hP [0, 1, 2, 3, 4] rfl 0 1 rfl rfl rfl hl.1 rfl (Nat.le_of_ble_eq_true rfl) ⟨Nat.zero_le _, Nat.zero_le _⟩ dX3_det_37 ?_
  have hh_11 : fmul q (pt q i 2) (vcr q (pt q j) (pt q k) 2) < q := fmul_lt hF.1 (by omega) (by omega)
  refine ctR_V (As := [.int (nI (fadd q (fadd q 0 (fmul q (pt q i 0) (vcr q (pt q j) (pt q k) 0))) (fmul q (pt q i 1) (vcr q (pt q j) (pt q k) 1)))), .int (nI (fmul q (pt q i 2) (vcr q (pt q j) (pt q k) 2)))]) (rest := []) (r := .int (nI (fadd q (fadd q (fadd q 0 (fmul q (pt q i 0) (vcr q (pt q j) (pt q k) 0))) (fmul q (pt q i 1) (vcr q (pt q j) (pt q k) 1))) (fmul q (pt q i 2) (vcr q (pt q j) (pt q k) 2))))) ⟨hx, hb, hml, hown, hts⟩ (c_X1_plus l D cI cZ ad q sm pr op iv hF (fadd q (fadd q 0 (fmul q (pt q i 0) (vcr q (pt q j) (pt q k) 0))) (fmul q (pt q i 1) (vcr q (pt q j) (pt q k) 1))) (fmul q (pt q i 2) (vcr q (pt q j) (pt q k) 2)) (by omega) (by omega)) (cwV 2 hts gX3_det_X1_plus rfl rfl rfl hdV_X1_plus ⟨Nat.le_of_ble_eq_true rfl, Nat.le_of_ble_eq_true rfl⟩) hK hN hP [0, 1, 2, 3, 4] rfl 0 1 rfl rfl rfl hl.1 rfl (Nat.le_of_ble_eq_true rfl) ⟨Nat.zero_le _, Nat.zero_le _⟩ dX3_det_40 ?_
  have hh_12 : fadd q (fadd q (fadd q 0 (fmul q (pt q i 0) (vcr q (pt q j) (pt q k) 0))) (fmul q (pt q i 1) (vcr q (pt q j) (pt q k) 1))) (fmul q (pt q i 2) (vcr q (pt q j) (pt q k) 2)) < q := fadd_lt hF.1 (by omega) (by omega)
  refine lv_istore (lv' := [(4, .int (nI (fadd q (fadd q (fadd q 0 (fmul q (pt q i 0) (vcr q (pt q j) (pt q k) 0))) (fmul q (pt q i 1) (vcr q (pt q j) (pt q k) 1))) (fmul q (pt q i 2) (vcr q (pt q j) (pt q k) 2))))), (5, .int (nI 2)), (0, .ref (ad 5)), (1, .int (nI i)), (2, .int (nI j)), (3, .int (nI k))]) hx hb dX3_det_43 hl (by decide) rfl (fun ls hl => ?_)
  refine lv_iinc (v := nI 3) (lv' := [(5, .int (nI 3)), (4, .int (nI (fadd q (fadd q (fadd q 0 (fmul q (pt q i 0) (vcr q (pt q j) (pt q k) 0))) (fmul q (pt q i 1) (vcr q (pt q j) (pt q k) 1))) (fmul q (pt q i 2) (vcr q (pt q j) (pt q k) 2))))), (0, .ref (ad 5)), (1, .int (nI i)), (2, .int (nI j)), (3, .int (nI k))]) hx hb dX3_det_45 hl (k := 1) rfl (nI_inc 2) (by decide) rfl (fun ls hl => ?_)
  refine lv_goto (tgt := 6) hx hb dX3_det_48 (by decide) ?_
  refine lv_iload hx hb dX3_det_6 (lv_at hl 0 rfl) ?_
  refine lv_iconst (v := nI 3) hx hb dX3_det_8 (by decide) ?_
  refine nv_icmp_ge (tgt := 51) hx hb (by decide) (by decide) dX3_det_9 (by decide) (fun c9 => ?_) (fun c9 => absurd c9 (by omega))
  refine lv_iload hx hb dX3_det_51 (lv_at hl 1 rfl) ?_
  exact ctR_ret (v := (nI (fadd q (fadd q (fadd q 0 (fmul q (pt q i 0) (vcr q (pt q j) (pt q k) 0))) (fmul q (pt q i 1) (vcr q (pt q j) (pt q k) 1))) (fmul q (pt q i 2) (vcr q (pt q j) (pt q k) 2))))) hx hb hr rfl dX3_det_53 hlocks (by rw [fadd_0l hF.1 (by omega)]; rfl)

set_option maxHeartbeats 4000000 in
set_option maxRecDepth 100000 in
theorem c_X3_isFrame (l : Launch) (D : va_G) (cI cZ : ClassId) (ad : Nat → Nat) (q : Nat) (sm : Nat → Nat) (pr : Nat → Nat) (op : Nat → Nat) (iv : Nat → Nat) (hF : FOK q sm pr op iv) (tr : Nat → Nat) (ro : Nat → Nat) (hT : TOK q tr) (i : Nat) (j : Nat) (k : Nat) (r : Nat) (k_1 : i < nn q) (k_2 : j < nn q) (k_3 : k < nn q) (k_4 : r < nn q) : CtR l yX3_isFrame wsX3_isFrame { frames := 4, cells := 0, slots := 0, locals := 96 } D (tyG cI cZ) [.ref (ad 5), .int (nI i), .int (nI j), .int (nI k), .int (nI r)] [(ad 0, .inr (1, [.int (nI q), .ref (ad 1), .ref (ad 2), .ref (ad 3), .ref (ad 4)])), (ad 1, .inl (cI, 81, .inl (nF sm))), (ad 2, .inl (cI, 81, .inl (nF pr))), (ad 3, .inl (cI, 9, .inl (nF op))), (ad 4, .inl (cI, 9, .inl (nF iv))), (ad 5, .inr (3, [.ref (ad 0), .int (nI (nn q)), .ref (ad 6), .ref (ad 7)])), (ad 6, .inl (cI, 273, .inl (nF tr))), (ad 7, .inl (cI, 910, .inl (nF ro)))] (.int (nI (frq q i j k r).toNat)) := by
  refine Met.ofW (cc := cX3_isFrame) (maxL := 5) (ret := some .boolean) (by decide) rfl ?_
  intro p e s m args below meth c s₁ B hml hv
  obtain ⟨rfl, hP, hK, hN⟩ := hv
  have hx := B.exec
  have hb := B.bytes
  have hr := B.returns
  have hts := atoms_spec (ws := wsX3_isFrame) B.pre
  have hown : s.vm.findClass RX3 = some m.cls := findClass_of_methodNamed B.named
  have hlocks := B.notSynchronized
  have hl := lv_entry ([.ref (ad 5), .int (nI i), .int (nI j), .int (nI k), .int (nI r)]) (n := 5) (Nat.le_of_ble_eq_true rfl)
  rw [lg_entry_eq]
  generalize (lg_sl ([.ref (ad 5), .int (nI i), .int (nI j), .int (nI k), .int (nI r)]) ++ List.replicate (5 - (lg_sl ([.ref (ad 5), .int (nI i), .int (nI j), .int (nI k), .int (nI r)])).length) Slot.unset).toArray = ls at hl ⊢
  have hl : lv_has ls 5 [(0, .ref (ad 5)), (1, .int (nI i)), (2, .int (nI j)), (3, .int (nI k)), (4, .int (nI r))] := hl
  have hq2 := qs_le hF.1
  have hn2 := nn_le hF.1
  refine lv_aload_n hx hb dX3_isFrame_0 rfl (lv_at hl 0 rfl) ?_
  refine lv_iload_n hx hb dX3_isFrame_1 rfl (lv_at hl 1 rfl) ?_
  refine lv_iload_n hx hb dX3_isFrame_2 rfl (lv_at hl 2 rfl) ?_
  refine lv_iload_n hx hb dX3_isFrame_3 rfl (lv_at hl 3 rfl) ?_
  refine ctR_V (As := [.int (nI i), .int (nI j), .int (nI k)]) (rest := []) (r := .int (nI (vdet q (pt q i) (pt q j) (pt q k)))) ⟨hx, hb, hml, hown, hts⟩ (c_X3_det l D cI cZ ad q sm pr op iv hF tr ro hT i j k (by omega) (by omega) (by omega)) (cwV 3 hts gX3_isFrame_X3_det rfl rfl rfl hdV_X3_det ⟨Nat.le_of_ble_eq_true rfl, Nat.le_of_ble_eq_true rfl⟩) hK hN hP [0, 1, 2, 3, 4, 5, 6, 7] rfl 5 3 rfl rfl rfl hl.1 rfl (Nat.le_of_ble_eq_true rfl) ⟨Nat.zero_le _, Nat.zero_le _⟩ dX3_isFrame_4 ?_
  have hh_1 : vdet q (pt q i) (pt q j) (pt q k) < q := vdet_lt hF.1 (ptv hF.1 (by omega)) (ptv hF.1 (by omega)) (ptv hF.1 (by omega))
  refine nv_if_eq (tgt := 47) hx hb (by omega) dX3_isFrame_7 (by decide) (fun c7 => ?_) (fun c7 => ?_)
  · refine lv_iconst (v := nI 0) hx hb dX3_isFrame_47 (by decide) ?_
    exact ctR_ret (v := (nI 0)) hx hb hr (nar_bool false) dX3_isFrame_48 hlocks (by simp [frq, c7])
  · refine lv_aload_n hx hb dX3_isFrame_10 rfl (lv_at hl 0 rfl) ?_
    refine lv_iload_n hx hb dX3_isFrame_11 rfl (lv_at hl 1 rfl) ?_
    refine lv_iload_n hx hb dX3_isFrame_12 rfl (lv_at hl 2 rfl) ?_
    refine lv_iload hx hb dX3_isFrame_13 (lv_at hl 4 rfl) ?_
    refine ctR_V (As := [.int (nI i), .int (nI j), .int (nI r)]) (rest := []) (r := .int (nI (vdet q (pt q i) (pt q j) (pt q r)))) ⟨hx, hb, hml, hown, hts⟩ (c_X3_det l D cI cZ ad q sm pr op iv hF tr ro hT i j r (by omega) (by omega) (by omega)) (cwV 3 hts gX3_isFrame_X3_det rfl rfl rfl hdV_X3_det ⟨Nat.le_of_ble_eq_true rfl, Nat.le_of_ble_eq_true rfl⟩) hK hN hP [0, 1, 2, 3, 4, 5, 6, 7] rfl 5 3 rfl rfl rfl hl.1 rfl (Nat.le_of_ble_eq_true rfl) ⟨Nat.zero_le _, Nat.zero_le _⟩ dX3_isFrame_15 ?_
    have hh_2 : vdet q (pt q i) (pt q j) (pt q r) < q := vdet_lt hF.1 (ptv hF.1 (by omega)) (ptv hF.1 (by omega)) (ptv hF.1 (by omega))
    refine nv_if_eq (tgt := 47) hx hb (by omega) dX3_isFrame_18 (by decide) (fun c18 => ?_) (fun c18 => ?_)
    · refine lv_iconst (v := nI 0) hx hb dX3_isFrame_47 (by decide) ?_
      exact ctR_ret (v := (nI 0)) hx hb hr (nar_bool false) dX3_isFrame_48 hlocks (by simp [frq, c18])
    · refine lv_aload_n hx hb dX3_isFrame_21 rfl (lv_at hl 0 rfl) ?_
      refine lv_iload_n hx hb dX3_isFrame_22 rfl (lv_at hl 1 rfl) ?_
      refine lv_iload_n hx hb dX3_isFrame_23 rfl (lv_at hl 3 rfl) ?_
      refine lv_iload hx hb dX3_isFrame_24 (lv_at hl 4 rfl) ?_
      refine ctR_V (As := [.int (nI i), .int (nI k), .int (nI r)]) (rest := []) (r := .int (nI (vdet q (pt q i) (pt q k) (pt q r)))) ⟨hx, hb, hml, hown, hts⟩ (c_X3_det l D cI cZ ad q sm pr op iv hF tr ro hT i k r (by omega) (by omega) (by omega)) (cwV 3 hts gX3_isFrame_X3_det rfl rfl rfl hdV_X3_det ⟨Nat.le_of_ble_eq_true rfl, Nat.le_of_ble_eq_true rfl⟩) hK hN hP [0, 1, 2, 3, 4, 5, 6, 7] rfl 5 3 rfl rfl rfl hl.1 rfl (Nat.le_of_ble_eq_true rfl) ⟨Nat.zero_le _, Nat.zero_le _⟩ dX3_isFrame_26 ?_
      have hh_3 : vdet q (pt q i) (pt q k) (pt q r) < q := vdet_lt hF.1 (ptv hF.1 (by omega)) (ptv hF.1 (by omega)) (ptv hF.1 (by omega))
      refine nv_if_eq (tgt := 47) hx hb (by omega) dX3_isFrame_29 (by decide) (fun c29 => ?_) (fun c29 => ?_)
      · refine lv_iconst (v := nI 0) hx hb dX3_isFrame_47 (by decide) ?_
        exact ctR_ret (v := (nI 0)) hx hb hr (nar_bool false) dX3_isFrame_48 hlocks (by simp [frq, c29])
      · refine lv_aload_n hx hb dX3_isFrame_32 rfl (lv_at hl 0 rfl) ?_
        refine lv_iload_n hx hb dX3_isFrame_33 rfl (lv_at hl 2 rfl) ?_
        refine lv_iload_n hx hb dX3_isFrame_34 rfl (lv_at hl 3 rfl) ?_
        refine lv_iload hx hb dX3_isFrame_35 (lv_at hl 4 rfl) ?_
        refine ctR_V (As := [.int (nI j), .int (nI k), .int (nI r)]) (rest := []) (r := .int (nI (vdet q (pt q j) (pt q k) (pt q r)))) ⟨hx, hb, hml, hown, hts⟩ (c_X3_det l D cI cZ ad q sm pr op iv hF tr ro hT j k r (by omega) (by omega) (by omega)) (cwV 3 hts gX3_isFrame_X3_det rfl rfl rfl hdV_X3_det ⟨Nat.le_of_ble_eq_true rfl, Nat.le_of_ble_eq_true rfl⟩) hK hN hP [0, 1, 2, 3, 4, 5, 6, 7] rfl 5 3 rfl rfl rfl hl.1 rfl (Nat.le_of_ble_eq_true rfl) ⟨Nat.zero_le _, Nat.zero_le _⟩ dX3_isFrame_37 ?_
        have hh_4 : vdet q (pt q j) (pt q k) (pt q r) < q := vdet_lt hF.1 (ptv hF.1 (by omega)) (ptv hF.1 (by omega)) (ptv hF.1 (by omega))
        refine nv_if_eq (tgt := 47) hx hb (by omega) dX3_isFrame_40 (by decide) (fun c40 => ?_) (fun c40 => ?_)
        · refine lv_iconst (v := nI 0) hx hb dX3_isFrame_47 (by decide) ?_
          exact ctR_ret (v := (nI 0)) hx hb hr (nar_bool false) dX3_isFrame_48 hlocks (by simp [frq, c40])
        · refine lv_iconst (v := nI 1) hx hb dX3_isFrame_43 (by decide) ?_
          refine lv_goto (tgt := 48) hx hb dX3_isFrame_44 (by decide) ?_
          exact ctR_ret (v := (nI 1)) hx hb hr (nar_bool true) dX3_isFrame_48 hlocks (by rw [frq, beq_eq_false_iff_ne.mpr c7, beq_eq_false_iff_ne.mpr c18, beq_eq_false_iff_ne.mpr c29, beq_eq_false_iff_ne.mpr c40]; rfl)

set_option maxHeartbeats 4000000 in
set_option maxRecDepth 100000 in
theorem c_X3_numberOf (l : Launch) (D : va_G) (cI cZ : ClassId) (ad : Nat → Nat) (q : Nat) (sm : Nat → Nat) (pr : Nat → Nat) (op : Nat → Nat) (iv : Nat → Nat) (hF : FOK q sm pr op iv) (tr : Nat → Nat) (ro : Nat → Nat) (hT : TOK q tr) (a : Nat) (b : Nat) (g3 : Nat) (k_1 : a < q) (k_2 : b < q) (k_3 : g3 < q) : CtR l yX3_numberOf wsX3_numberOf { frames := 1, cells := 0, slots := 0, locals := 22 } D (tyG cI cZ) [.ref (ad 5), .int (nI a), .int (nI b), .int (nI g3)] [(ad 0, .inr (1, [.int (nI q), .ref (ad 1), .ref (ad 2), .ref (ad 3), .ref (ad 4)])), (ad 1, .inl (cI, 81, .inl (nF sm))), (ad 2, .inl (cI, 81, .inl (nF pr))), (ad 3, .inl (cI, 9, .inl (nF op))), (ad 4, .inl (cI, 9, .inl (nF iv))), (ad 5, .inr (3, [.ref (ad 0), .int (nI (nn q)), .ref (ad 6), .ref (ad 7)])), (ad 6, .inl (cI, 273, .inl (nF tr))), (ad 7, .inl (cI, 910, .inl (nF ro)))] (.int (nmZ q a b g3)) := by
  refine Met.ofW (cc := cX3_numberOf) (maxL := 5) (ret := some .int) (by decide) rfl ?_
  intro p e s m args below meth c s₁ B hml hv
  obtain ⟨rfl, hP, hK, hN⟩ := hv
  have hx := B.exec
  have hb := B.bytes
  have hr := B.returns
  have hts := atoms_spec (ws := wsX3_numberOf) B.pre
  have hown : s.vm.findClass RX3 = some m.cls := findClass_of_methodNamed B.named
  have hlocks := B.notSynchronized
  have hf18 := hts (.fieldLink RX3 18 "FinitePlanes$Plane" "field" "LFinitePlanes$Field;") (by decide +kernel)
  have hf25 := hN.use (w := .fieldLinkNest RX3 25 "FinitePlanes$Field" "q" "I" "FinitePlanes") (by decide +kernel) (A := [.ref (ad 5), .int (nI a), .int (nI b), .int (nI g3)].toArray)
  have hiX1 : ∀ w ∈ u_ws RX1 TX1 5, w ∈ wsX3_numberOf := by decide +kernel
  have hiX3 : ∀ w ∈ u_ws RX3 TX3 4, w ∈ wsX3_numberOf := by decide +kernel
  have hl := lv_entry ([.ref (ad 5), .int (nI a), .int (nI b), .int (nI g3)]) (n := 5) (Nat.le_of_ble_eq_true rfl)
  rw [lg_entry_eq]
  generalize (lg_sl ([.ref (ad 5), .int (nI a), .int (nI b), .int (nI g3)]) ++ List.replicate (5 - (lg_sl ([.ref (ad 5), .int (nI a), .int (nI b), .int (nI g3)])).length) Slot.unset).toArray = ls at hl ⊢
  have hl : lv_has ls 5 [(0, .ref (ad 5)), (1, .int (nI a)), (2, .int (nI b)), (3, .int (nI g3))] := hl
  have hq2 := qs_le hF.1
  have hn2 := nn_le hF.1
  refine lv_aload_n hx hb dX3_numberOf_0 rfl (lv_at hl 0 rfl) ?_
  refine va_get (D := D) (ci := 3) (v := .ref (ad 0)) (C := RX3) (T := TX3) (N := 4) hx hb hts hiX3 hown hK hP 5 rfl rfl 0 (by decide) hf18 (fun _ h9 => h9) rfl dX3_numberOf_1 ?_
  refine va_getN (D := D) (ci := 1) (v := .int (nI q)) (C := RX1) (T := TX1) (N := 5) hx hb hts hiX1 hown hK hP 0 rfl rfl 0 (by decide) hf25 (fun _ h9 => h9) rfl dX3_numberOf_4 ?_
  refine lv_istore (lv' := [(4, .int (nI q)), (0, .ref (ad 5)), (1, .int (nI a)), (2, .int (nI b)), (3, .int (nI g3))]) hx hb dX3_numberOf_7 hl (by decide) rfl (fun ls hl => ?_)
  refine lv_iload_n hx hb dX3_numberOf_9 rfl (lv_at hl 2 rfl) ?_
  refine nv_if_eq (tgt := 41) hx hb (by omega) dX3_numberOf_10 (by decide) (fun c10 => ?_) (fun c10 => ?_)
  · refine lv_iload_n hx hb dX3_numberOf_41 rfl (lv_at hl 3 rfl) ?_
    refine nv_if_eq (tgt := 57) hx hb (by omega) dX3_numberOf_42 (by decide) (fun c42 => ?_) (fun c42 => ?_)
    · refine lv_iload_n hx hb dX3_numberOf_57 rfl (lv_at hl 4 rfl) ?_
      refine nv_if_eq (tgt := 65) hx hb (by omega) dX3_numberOf_58 (by decide) (fun c58 => ?_) (fun c58 => ?_)
      · refine lv_bipush (v := (-3)) hx hb dX3_numberOf_65 (by decide) ?_
        exact ctR_ret (v := (-3)) hx hb hr rfl dX3_numberOf_67 hlocks (by rw [nmZ, if_neg (by omega)])
      · refine lv_iconst (v := nI 0) hx hb dX3_numberOf_61 (by decide) ?_
        refine lv_goto (tgt := 67) hx hb dX3_numberOf_62 (by decide) ?_
        exact ctR_ret (v := (nI 0)) hx hb hr rfl dX3_numberOf_67 hlocks (by rw [nmZ, if_pos (by omega), nmb, if_neg (by omega), if_neg (by omega)])
    · refine lv_iconst (v := nI 1) hx hb dX3_numberOf_45 (by decide) ?_
      refine lv_aload_n hx hb dX3_numberOf_46 rfl (lv_at hl 1 rfl) ?_
      refine va_get (D := D) (ci := 3) (v := .ref (ad 0)) (C := RX3) (T := TX3) (N := 4) hx hb hts hiX3 hown hK hP 5 rfl rfl 0 (by decide) hf18 (fun _ h9 => h9) rfl dX3_numberOf_47 ?_
      refine lv_iload_n hx hb dX3_numberOf_50 rfl (lv_at hl 4 rfl) ?_
      refine lv_iload_n hx hb dX3_numberOf_51 rfl (lv_at hl 3 rfl) ?_
      refine ctR_V (As := [.int (nI g3), .int (nI b)]) (rest := [.int (nI 1)]) (r := .int (nI (fdiv q g3 b))) ⟨hx, hb, hml, hown, hts⟩ (c_X1_over l D cI cZ ad q sm pr op iv hF g3 b (by omega) (by omega) (by omega)) (cwV 2 hts gX3_numberOf_X1_over rfl rfl rfl hdV_X1_over ⟨Nat.le_of_ble_eq_true rfl, Nat.le_of_ble_eq_true rfl⟩) hK hN hP [0, 1, 2, 3, 4] rfl 0 1 rfl rfl rfl hl.1 rfl (Nat.le_of_ble_eq_true rfl) ⟨Nat.zero_le _, Nat.zero_le _⟩ dX3_numberOf_52 ?_
      have hh_1 : fdiv q g3 b < q := fdiv_lt hF.1 (by omega) (by omega)
      refine nv_addE (r := 1 + (fdiv q g3 b)) hx hb rfl dX3_numberOf_55 ?_
      exact ctR_ret (v := (nI (1 + (fdiv q g3 b)))) hx hb hr rfl dX3_numberOf_56 hlocks (by rw [nmZ, if_pos (by omega), nmb, if_neg (by omega), if_pos c42])
  · refine lv_iconst (v := nI 1) hx hb dX3_numberOf_13 (by decide) ?_
    refine lv_iload hx hb dX3_numberOf_14 (lv_at hl 0 rfl) ?_
    refine nv_addE (r := 1 + q) hx hb rfl dX3_numberOf_16 ?_
    refine lv_aload_n hx hb dX3_numberOf_17 rfl (lv_at hl 1 rfl) ?_
    refine va_get (D := D) (ci := 3) (v := .ref (ad 0)) (C := RX3) (T := TX3) (N := 4) hx hb hts hiX3 hown hK hP 5 rfl rfl 0 (by decide) hf18 (fun _ h9 => h9) rfl dX3_numberOf_18 ?_
    refine lv_iload_n hx hb dX3_numberOf_21 rfl (lv_at hl 3 rfl) ?_
    refine lv_iload_n hx hb dX3_numberOf_22 rfl (lv_at hl 2 rfl) ?_
    refine ctR_V (As := [.int (nI b), .int (nI a)]) (rest := [.int (nI (1 + q))]) (r := .int (nI (fdiv q b a))) ⟨hx, hb, hml, hown, hts⟩ (c_X1_over l D cI cZ ad q sm pr op iv hF b a (by omega) (by omega) (by omega)) (cwV 2 hts gX3_numberOf_X1_over rfl rfl rfl hdV_X1_over ⟨Nat.le_of_ble_eq_true rfl, Nat.le_of_ble_eq_true rfl⟩) hK hN hP [0, 1, 2, 3, 4] rfl 0 1 rfl rfl rfl hl.1 rfl (Nat.le_of_ble_eq_true rfl) ⟨Nat.zero_le _, Nat.zero_le _⟩ dX3_numberOf_23 ?_
    have hh_2 : fdiv q b a < q := fdiv_lt hF.1 (by omega) (by omega)
    refine lv_iload hx hb dX3_numberOf_26 (lv_at hl 0 rfl) ?_
    refine nv_mulE (r := (fdiv q b a) * q) hx hb rfl dX3_numberOf_28 ?_
    refine nv_addE (r := (1 + q) + ((fdiv q b a) * q)) hx hb rfl dX3_numberOf_29 ?_
    refine lv_aload_n hx hb dX3_numberOf_30 rfl (lv_at hl 1 rfl) ?_
    refine va_get (D := D) (ci := 3) (v := .ref (ad 0)) (C := RX3) (T := TX3) (N := 4) hx hb hts hiX3 hown hK hP 5 rfl rfl 0 (by decide) hf18 (fun _ h9 => h9) rfl dX3_numberOf_31 ?_
    refine lv_iload_n hx hb dX3_numberOf_34 rfl (lv_at hl 4 rfl) ?_
    refine lv_iload_n hx hb dX3_numberOf_35 rfl (lv_at hl 2 rfl) ?_
    refine ctR_V (As := [.int (nI g3), .int (nI a)]) (rest := [.int (nI ((1 + q) + ((fdiv q b a) * q)))]) (r := .int (nI (fdiv q g3 a))) ⟨hx, hb, hml, hown, hts⟩ (c_X1_over l D cI cZ ad q sm pr op iv hF g3 a (by omega) (by omega) (by omega)) (cwV 2 hts gX3_numberOf_X1_over rfl rfl rfl hdV_X1_over ⟨Nat.le_of_ble_eq_true rfl, Nat.le_of_ble_eq_true rfl⟩) hK hN hP [0, 1, 2, 3, 4] rfl 0 1 rfl rfl rfl hl.1 rfl (Nat.le_of_ble_eq_true rfl) ⟨Nat.zero_le _, Nat.zero_le _⟩ dX3_numberOf_36 ?_
    have hh_3 : fdiv q g3 a < q := fdiv_lt hF.1 (by omega) (by omega)
    refine nv_addE (r := ((1 + q) + ((fdiv q b a) * q)) + (fdiv q g3 a)) hx hb rfl dX3_numberOf_39 ?_
    exact ctR_ret (v := (nI (((1 + q) + ((fdiv q b a) * q)) + (fdiv q g3 a)))) hx hb hr rfl dX3_numberOf_40 hlocks (by rw [nmZ, if_pos (by omega), nmb, if_pos c10])

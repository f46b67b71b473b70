set_option maxHeartbeats 4000000 in
set_option maxRecDepth 100000 in
theorem c_X7_pointOf (l : Launch) (D : va_G) (cI cZ : ClassId) (md : Nat → Nat) (q : Nat) (w : Nat) (su : Nat → Nat) (po : Nat → Nat) (xs : Nat → Nat) (ys : Nat → Nat) (zs : Nat → Nat) (hM : MOK q su po xs ys zs) (x : Nat) (y : Nat) (z : Nat) (k_1 : x < q) (k_2 : y < q) (k_3 : z < q) (k_4 : ¬ (x = 0 ∧ y = 0 ∧ z = 0)) : CtR l yX7_pointOf wsX7_pointOf { frames := 2, cells := 0, slots := 0, locals := 45 } D (tyG cI cZ) [.ref (md 0), .int (nI x), .int (nI y), .int (nI z)] [(md 0, .inr (7, [.int (nI q), .int (nI (nn q)), .ref (md 1), .ref (md 2), .ref (md 3), .ref (md 4), .ref (md 5), .ref (md 6), .ref (md 7), .ref (md 8), .ref (md 9), .ref (md 10), .ref (md 11), .ref (md 12), .ref (md 13), .ref (md 14), .ref (md 15), .ref (md 16), .int (nI w), .ref (md 17)])), (md 1, .inl (cI, 81, .inl (nF su))), (md 2, .inl (cI, 81, .inl (nF po))), (md 3, .inl (cI, 91, .inl (nF xs))), (md 4, .inl (cI, 91, .inl (nF ys))), (md 5, .inl (cI, 91, .inl (nF zs)))] (.int (nI (nmb q x y z))) := by
  refine Met.ofW (cc := cX7_pointOf) (maxL := 9) (ret := some .int) (by decide) rfl ?_
  intro p e s m args below meth c s₁ B hml hv
  obtain ⟨rfl, hP, hK, hN⟩ := hv
  have hx := B.exec
  have hb := B.bytes
  have hr := B.returns
  have hts := atoms_spec (ws := wsX7_pointOf) B.pre
  have hown : s.vm.findClass RX7 = some m.cls := findClass_of_methodNamed B.named
  have hlocks := B.notSynchronized
  have hf16 := hts (.fieldLink RX7 16 "FinitePlanesModel" "xs" "[I") (by decide +kernel)
  have hf19 := hts (.fieldLink RX7 19 "FinitePlanesModel" "ys" "[I") (by decide +kernel)
  have hf22 := hts (.fieldLink RX7 22 "FinitePlanesModel" "zs" "[I") (by decide +kernel)
  have hiX7 : ∀ w ∈ u_ws RX7 TX7 20, w ∈ wsX7_pointOf := by decide +kernel
  have hl := lv_entry ([.ref (md 0), .int (nI x), .int (nI y), .int (nI z)]) (n := 9) (Nat.le_of_ble_eq_true rfl)
  rw [lg_entry_eq]
  generalize (lg_sl ([.ref (md 0), .int (nI x), .int (nI y), .int (nI z)]) ++ List.replicate (9 - (lg_sl ([.ref (md 0), .int (nI x), .int (nI y), .int (nI z)])).length) Slot.unset).toArray = ls at hl ⊢
  have hl : lv_has ls 9 [(0, .ref (md 0)), (1, .int (nI x)), (2, .int (nI y)), (3, .int (nI z))] := hl
  have hq2 := qs_le hM.1
  have hn2 := nn_le hM.1
  refine lv_iload_n hx hb dX7_pointOf_0 rfl (lv_at hl 1 rfl) ?_
  refine nv_if_eq (tgt := 8) hx hb (by omega) dX7_pointOf_1 (by decide) (fun c1 => ?_) (fun c1 => ?_)
  · refine lv_iload_n hx hb dX7_pointOf_8 rfl (lv_at hl 2 rfl) ?_
    refine nv_if_eq (tgt := 16) hx hb (by omega) dX7_pointOf_9 (by decide) (fun c9 => ?_) (fun c9 => ?_)
    · refine lv_iload_n hx hb dX7_pointOf_16 rfl (lv_at hl 3 rfl) ?_
      refine lv_istore (lv' := [(4, .int (nI z)), (0, .ref (md 0)), (1, .int (nI x)), (2, .int (nI y)), (3, .int (nI z))]) hx hb dX7_pointOf_17 hl (by decide) rfl (fun ls hl => ?_)
      have hnb := nmb_tab q hM.1 x k_1 y k_2 z k_3
      refine lv_aload_n hx hb dX7_pointOf_19 rfl (lv_at hl 1 rfl) ?_
      refine lv_iload_n hx hb dX7_pointOf_20 rfl (lv_at hl 2 rfl) ?_
      refine lv_iload hx hb dX7_pointOf_21 (lv_at hl 0 rfl) ?_
      refine ctR_V (As := [.int (nI x), .int (nI z)]) (rest := []) (r := .int (nI (fdiv q x z))) ⟨hx, hb, hml, hown, hts⟩ (c_X7_by l D cI cZ md q w su po xs ys zs hM x z (by omega) (by omega) (by omega)) (cwV 2 hts gX7_pointOf_X7_by rfl rfl rfl hdV_X7_by ⟨Nat.le_of_ble_eq_true rfl, Nat.le_of_ble_eq_true rfl⟩) hK hN hP [0, 1, 2, 3, 4, 5] rfl 0 7 rfl rfl rfl hl.1 rfl (Nat.le_of_ble_eq_true rfl) ⟨Nat.zero_le _, Nat.zero_le _⟩ dX7_pointOf_23 ?_
      have hh_1 : fdiv q x z < q := fdiv_lt hM.1 (by omega) (by omega)
      refine lv_istore (lv' := [(5, .int (nI (fdiv q x z))), (4, .int (nI z)), (0, .ref (md 0)), (1, .int (nI x)), (2, .int (nI y)), (3, .int (nI z))]) hx hb dX7_pointOf_26 hl (by decide) rfl (fun ls hl => ?_)
      refine lv_aload_n hx hb dX7_pointOf_28 rfl (lv_at hl 2 rfl) ?_
      refine lv_iload_n hx hb dX7_pointOf_29 rfl (lv_at hl 4 rfl) ?_
      refine lv_iload hx hb dX7_pointOf_30 (lv_at hl 1 rfl) ?_
      refine ctR_V (As := [.int (nI y), .int (nI z)]) (rest := []) (r := .int (nI (fdiv q y z))) ⟨hx, hb, hml, hown, hts⟩ (c_X7_by l D cI cZ md q w su po xs ys zs hM y z (by omega) (by omega) (by omega)) (cwV 2 hts gX7_pointOf_X7_by rfl rfl rfl hdV_X7_by ⟨Nat.le_of_ble_eq_true rfl, Nat.le_of_ble_eq_true rfl⟩) hK hN hP [0, 1, 2, 3, 4, 5] rfl 0 7 rfl rfl rfl hl.1 rfl (Nat.le_of_ble_eq_true rfl) ⟨Nat.zero_le _, Nat.zero_le _⟩ dX7_pointOf_32 ?_
      have hh_2 : fdiv q y z < q := fdiv_lt hM.1 (by omega) (by omega)
      refine lv_istore (lv' := [(6, .int (nI (fdiv q y z))), (5, .int (nI (fdiv q x z))), (4, .int (nI z)), (0, .ref (md 0)), (1, .int (nI x)), (2, .int (nI y)), (3, .int (nI z))]) hx hb dX7_pointOf_35 hl (by decide) rfl (fun ls hl => ?_)
      refine lv_aload_n hx hb dX7_pointOf_37 rfl (lv_at hl 3 rfl) ?_
      refine lv_iload_n hx hb dX7_pointOf_38 rfl (lv_at hl 6 rfl) ?_
      refine lv_iload hx hb dX7_pointOf_39 (lv_at hl 2 rfl) ?_
      refine ctR_V (As := [.int (nI z), .int (nI z)]) (rest := []) (r := .int (nI (fdiv q z z))) ⟨hx, hb, hml, hown, hts⟩ (c_X7_by l D cI cZ md q w su po xs ys zs hM z z (by omega) (by omega) (by omega)) (cwV 2 hts gX7_pointOf_X7_by rfl rfl rfl hdV_X7_by ⟨Nat.le_of_ble_eq_true rfl, Nat.le_of_ble_eq_true rfl⟩) hK hN hP [0, 1, 2, 3, 4, 5] rfl 0 7 rfl rfl rfl hl.1 rfl (Nat.le_of_ble_eq_true rfl) ⟨Nat.zero_le _, Nat.zero_le _⟩ dX7_pointOf_41 ?_
      have hh_3 : fdiv q z z < q := fdiv_lt hM.1 (by omega) (by omega)
      refine lv_istore (lv' := [(7, .int (nI (fdiv q z z))), (6, .int (nI (fdiv q y z))), (5, .int (nI (fdiv q x z))), (4, .int (nI z)), (0, .ref (md 0)), (1, .int (nI x)), (2, .int (nI y)), (3, .int (nI z))]) hx hb dX7_pointOf_44 hl (by decide) rfl (fun ls hl => ?_)
      have hsp := nmb_spec hM.1 k_1 k_2 k_3 k_4 (by first | exact fs3_1 c1 | exact fs3_2 c1 c9 | exact fs3_3 c1 c9)
      refine lv_iconst (v := nI 0) hx hb dX7_pointOf_46 (by decide) ?_
      refine lv_istore (lv' := [(8, .int (nI 0)), (7, .int (nI (fdiv q z z))), (6, .int (nI (fdiv q y z))), (5, .int (nI (fdiv q x z))), (4, .int (nI z)), (0, .ref (md 0)), (1, .int (nI x)), (2, .int (nI y)), (3, .int (nI z))]) hx hb dX7_pointOf_47 hl (by decide) rfl (fun ls hl => ?_)
      have L49 : ∀ (N49 : Nat) (i : Nat) (ls : Array Slot), nmb q x y z - i < N49 → (i ≤ nmb q x y z) → lv_has ls 9 [(0, .ref (md 0)), (1, .int (nI x)), (2, .int (nI y)), (3, .int (nI z)), (4, .int (nI z)), (5, .int (nI (fdiv q x z))), (6, .int (nI (fdiv q y z))), (7, .int (nI (fdiv q z z))), (8, .int (nI i))] → WR p l e wsX7_pointOf { frames := 2, cells := 0, slots := 0, locals := 45 } s m [.ref (md 0), .int (nI x), .int (nI y), .int (nI z)] below meth c (.int (nI (nmb q x y z))) 49 ls [] := by
        intro N49
        induction N49 with
        | zero => intro i ls hN; exact absurd hN (Nat.not_lt_zero _)
        | succ N49 ih49 =>
          intro i ls hN49 k_i hl
          have hp0 := pt_lt (k := 0) hM.1 (show i < nn q by omega) (by decide)
          have hp1 := pt_lt (k := 1) hM.1 (show i < nn q by omega) (by decide)
          have hp2 := pt_lt (k := 2) hM.1 (show i < nn q by omega) (by decide)
          refine lv_aload_n hx hb dX7_pointOf_49 rfl (lv_at hl 0 rfl) ?_
          refine va_get (D := D) (ci := 7) (v := .ref (md 3)) (C := RX7) (T := TX7) (N := 20) hx hb hts hiX7 hown hK hP 0 rfl rfl 4 (by decide) hf16 (fun _ h9 => h9) rfl dX7_pointOf_50 ?_
          refine lv_iload hx hb dX7_pointOf_53 (lv_at hl 8 rfl) ?_
          refine nv_iald hx hb hK hP 3 0 rfl rfl (by omega) (by decide) dX7_pointOf_55 ?_
          refine nv_top (v' := .int (nI (pt q i 0))) (by rw [(hM.2.2.2 i (by omega)).1]) ?_
          refine lv_iload hx hb dX7_pointOf_56 (lv_at hl 5 rfl) ?_
          refine nv_icmp_ne (tgt := 85) hx hb (by omega) (by omega) dX7_pointOf_58 (by decide) (fun c58 => ?_) (fun c58 => ?_)
          · have hi : i + 1 ≤ nmb q x y z := by
              have h9 : ¬ i = nmb q x y z := fun z9 => c58 (by rw [z9]; exact hsp.1)
              omega
            refine lv_iinc (v := nI (i + 1)) (lv' := [(8, .int (nI (i + 1))), (0, .ref (md 0)), (1, .int (nI x)), (2, .int (nI y)), (3, .int (nI z)), (4, .int (nI z)), (5, .int (nI (fdiv q x z))), (6, .int (nI (fdiv q y z))), (7, .int (nI (fdiv q z z)))]) hx hb dX7_pointOf_85 hl (k := 8) rfl (nI_inc i) (by decide) rfl (fun ls hl => ?_)
            refine lv_goto (tgt := 49) hx hb dX7_pointOf_88 (by decide) ?_
            exact ih49 (i + 1) ls (by omega) hi (lv_sub hl [1, 2, 3, 4, 5, 6, 7, 8, 0] rfl)
          · refine lv_aload_n hx hb dX7_pointOf_61 rfl (lv_at hl 0 rfl) ?_
            refine va_get (D := D) (ci := 7) (v := .ref (md 4)) (C := RX7) (T := TX7) (N := 20) hx hb hts hiX7 hown hK hP 0 rfl rfl 5 (by decide) hf19 (fun _ h9 => h9) rfl dX7_pointOf_62 ?_
            refine lv_iload hx hb dX7_pointOf_65 (lv_at hl 8 rfl) ?_
            refine nv_iald hx hb hK hP 4 0 rfl rfl (by omega) (by decide) dX7_pointOf_67 ?_
            refine nv_top (v' := .int (nI (pt q i 1))) (by rw [(hM.2.2.2 i (by omega)).2.1]) ?_
            refine lv_iload hx hb dX7_pointOf_68 (lv_at hl 6 rfl) ?_
            refine nv_icmp_ne (tgt := 85) hx hb (by omega) (by omega) dX7_pointOf_70 (by decide) (fun c70 => ?_) (fun c70 => ?_)
            · have hi : i + 1 ≤ nmb q x y z := by
                have h9 : ¬ i = nmb q x y z := fun z9 => c70 (by rw [z9]; exact hsp.2.1)
                omega
              refine lv_iinc (v := nI (i + 1)) (lv' := [(8, .int (nI (i + 1))), (0, .ref (md 0)), (1, .int (nI x)), (2, .int (nI y)), (3, .int (nI z)), (4, .int (nI z)), (5, .int (nI (fdiv q x z))), (6, .int (nI (fdiv q y z))), (7, .int (nI (fdiv q z z)))]) hx hb dX7_pointOf_85 hl (k := 8) rfl (nI_inc i) (by decide) rfl (fun ls hl => ?_)
              refine lv_goto (tgt := 49) hx hb dX7_pointOf_88 (by decide) ?_
              exact ih49 (i + 1) ls (by omega) hi (lv_sub hl [1, 2, 3, 4, 5, 6, 7, 8, 0] rfl)
            · refine lv_aload_n hx hb dX7_pointOf_73 rfl (lv_at hl 0 rfl) ?_
              refine va_get (D := D) (ci := 7) (v := .ref (md 5)) (C := RX7) (T := TX7) (N := 20) hx hb hts hiX7 hown hK hP 0 rfl rfl 6 (by decide) hf22 (fun _ h9 => h9) rfl dX7_pointOf_74 ?_
              refine lv_iload hx hb dX7_pointOf_77 (lv_at hl 8 rfl) ?_
              refine nv_iald hx hb hK hP 5 0 rfl rfl (by omega) (by decide) dX7_pointOf_79 ?_
              refine nv_top (v' := .int (nI (pt q i 2))) (by rw [(hM.2.2.2 i (by omega)).2.2]) ?_
              refine lv_iload hx hb dX7_pointOf_80 (lv_at hl 7 rfl) ?_
              refine nv_icmp_eq (tgt := 91) hx hb (by omega) (by omega) dX7_pointOf_82 (by decide) (fun c82 => ?_) (fun c82 => ?_)
              · refine lv_iload hx hb dX7_pointOf_91 (lv_at hl 8 rfl) ?_
                exact ctR_ret (v := (nI i)) hx hb hr rfl dX7_pointOf_93 hlocks (by rw [pt_inj q hM.1 i (by omega) _ hnb ⟨c58.trans hsp.1.symm, c70.trans hsp.2.1.symm, c82.trans hsp.2.2.symm⟩])
              · have hi : i + 1 ≤ nmb q x y z := by
                  have h9 : ¬ i = nmb q x y z := fun z9 => c82 (by rw [z9]; exact hsp.2.2)
                  omega
                refine lv_iinc (v := nI (i + 1)) (lv' := [(8, .int (nI (i + 1))), (0, .ref (md 0)), (1, .int (nI x)), (2, .int (nI y)), (3, .int (nI z)), (4, .int (nI z)), (5, .int (nI (fdiv q x z))), (6, .int (nI (fdiv q y z))), (7, .int (nI (fdiv q z z)))]) hx hb dX7_pointOf_85 hl (k := 8) rfl (nI_inc i) (by decide) rfl (fun ls hl => ?_)
                refine lv_goto (tgt := 49) hx hb dX7_pointOf_88 (by decide) ?_
                exact ih49 (i + 1) ls (by omega) hi (lv_sub hl [1, 2, 3, 4, 5, 6, 7, 8, 0] rfl)
      exact L49 (nmb q x y z - 0 + 1) 0 ls (by omega) (Nat.zero_le _) (lv_sub hl [5, 6, 7, 8, 4, 3, 2, 1, 0] rfl)
    · refine lv_iload_n hx hb dX7_pointOf_12 rfl (lv_at hl 2 rfl) ?_
      refine lv_goto (tgt := 17) hx hb dX7_pointOf_13 (by decide) ?_
      refine lv_istore (lv' := [(4, .int (nI y)), (0, .ref (md 0)), (1, .int (nI x)), (2, .int (nI y)), (3, .int (nI z))]) hx hb dX7_pointOf_17 hl (by decide) rfl (fun ls hl => ?_)
      have hnb := nmb_tab q hM.1 x k_1 y k_2 z k_3
      refine lv_aload_n hx hb dX7_pointOf_19 rfl (lv_at hl 1 rfl) ?_
      refine lv_iload_n hx hb dX7_pointOf_20 rfl (lv_at hl 2 rfl) ?_
      refine lv_iload hx hb dX7_pointOf_21 (lv_at hl 0 rfl) ?_
      refine ctR_V (As := [.int (nI x), .int (nI y)]) (rest := []) (r := .int (nI (fdiv q x y))) ⟨hx, hb, hml, hown, hts⟩ (c_X7_by l D cI cZ md q w su po xs ys zs hM x y (by omega) (by omega) (by omega)) (cwV 2 hts gX7_pointOf_X7_by rfl rfl rfl hdV_X7_by ⟨Nat.le_of_ble_eq_true rfl, Nat.le_of_ble_eq_true rfl⟩) hK hN hP [0, 1, 2, 3, 4, 5] rfl 0 7 rfl rfl rfl hl.1 rfl (Nat.le_of_ble_eq_true rfl) ⟨Nat.zero_le _, Nat.zero_le _⟩ dX7_pointOf_23 ?_
      have hh_4 : fdiv q x y < q := fdiv_lt hM.1 (by omega) (by omega)
      refine lv_istore (lv' := [(5, .int (nI (fdiv q x y))), (4, .int (nI y)), (0, .ref (md 0)), (1, .int (nI x)), (2, .int (nI y)), (3, .int (nI z))]) hx hb dX7_pointOf_26 hl (by decide) rfl (fun ls hl => ?_)
      refine lv_aload_n hx hb dX7_pointOf_28 rfl (lv_at hl 2 rfl) ?_
      refine lv_iload_n hx hb dX7_pointOf_29 rfl (lv_at hl 4 rfl) ?_
      refine lv_iload hx hb dX7_pointOf_30 (lv_at hl 1 rfl) ?_
      refine ctR_V (As := [.int (nI y), .int (nI y)]) (rest := []) (r := .int (nI (fdiv q y y))) ⟨hx, hb, hml, hown, hts⟩ (c_X7_by l D cI cZ md q w su po xs ys zs hM y y (by omega) (by omega) (by omega)) (cwV 2 hts gX7_pointOf_X7_by rfl rfl rfl hdV_X7_by ⟨Nat.le_of_ble_eq_true rfl, Nat.le_of_ble_eq_true rfl⟩) hK hN hP [0, 1, 2, 3, 4, 5] rfl 0 7 rfl rfl rfl hl.1 rfl (Nat.le_of_ble_eq_true rfl) ⟨Nat.zero_le _, Nat.zero_le _⟩ dX7_pointOf_32 ?_
      have hh_5 : fdiv q y y < q := fdiv_lt hM.1 (by omega) (by omega)
      refine lv_istore (lv' := [(6, .int (nI (fdiv q y y))), (5, .int (nI (fdiv q x y))), (4, .int (nI y)), (0, .ref (md 0)), (1, .int (nI x)), (2, .int (nI y)), (3, .int (nI z))]) hx hb dX7_pointOf_35 hl (by decide) rfl (fun ls hl => ?_)
      refine lv_aload_n hx hb dX7_pointOf_37 rfl (lv_at hl 3 rfl) ?_
      refine lv_iload_n hx hb dX7_pointOf_38 rfl (lv_at hl 6 rfl) ?_
      refine lv_iload hx hb dX7_pointOf_39 (lv_at hl 2 rfl) ?_
      refine ctR_V (As := [.int (nI z), .int (nI y)]) (rest := []) (r := .int (nI (fdiv q z y))) ⟨hx, hb, hml, hown, hts⟩ (c_X7_by l D cI cZ md q w su po xs ys zs hM z y (by omega) (by omega) (by omega)) (cwV 2 hts gX7_pointOf_X7_by rfl rfl rfl hdV_X7_by ⟨Nat.le_of_ble_eq_true rfl, Nat.le_of_ble_eq_true rfl⟩) hK hN hP [0, 1, 2, 3, 4, 5] rfl 0 7 rfl rfl rfl hl.1 rfl (Nat.le_of_ble_eq_true rfl) ⟨Nat.zero_le _, Nat.zero_le _⟩ dX7_pointOf_41 ?_
      have hh_6 : fdiv q z y < q := fdiv_lt hM.1 (by omega) (by omega)
      refine lv_istore (lv' := [(7, .int (nI (fdiv q z y))), (6, .int (nI (fdiv q y y))), (5, .int (nI (fdiv q x y))), (4, .int (nI y)), (0, .ref (md 0)), (1, .int (nI x)), (2, .int (nI y)), (3, .int (nI z))]) hx hb dX7_pointOf_44 hl (by decide) rfl (fun ls hl => ?_)
      have hsp := nmb_spec hM.1 k_1 k_2 k_3 k_4 (by first | exact fs3_1 c1 | exact fs3_2 c1 c9 | exact fs3_3 c1 c9)
      refine lv_iconst (v := nI 0) hx hb dX7_pointOf_46 (by decide) ?_
      refine lv_istore (lv' := [(8, .int (nI 0)), (7, .int (nI (fdiv q z y))), (6, .int (nI (fdiv q y y))), (5, .int (nI (fdiv q x y))), (4, .int (nI y)), (0, .ref (md 0)), (1, .int (nI x)), (2, .int (nI y)), (3, .int (nI z))]) hx hb dX7_pointOf_47 hl (by decide) rfl (fun ls hl => ?_)
      have L49 : ∀ (N49 : Nat) (i : Nat) (ls : Array Slot), nmb q x y z - i < N49 → (i ≤ nmb q x y z) → lv_has ls 9 [(0, .ref (md 0)), (1, .int (nI x)), (2, .int (nI y)), (3, .int (nI z)), (4, .int (nI y)), (5, .int (nI (fdiv q x y))), (6, .int (nI (fdiv q y y))), (7, .int (nI (fdiv q z y))), (8, .int (nI i))] → WR p l e wsX7_pointOf { frames := 2, cells := 0, slots := 0, locals := 45 } s m [.ref (md 0), .int (nI x), .int (nI y), .int (nI z)] below meth c (.int (nI (nmb q x y z))) 49 ls [] := by
        intro N49
        induction N49 with
        | zero => intro i ls hN; exact absurd hN (Nat.not_lt_zero _)
        | succ N49 ih49 =>
          intro i ls hN49 k_i hl
          have hp0 := pt_lt (k := 0) hM.1 (show i < nn q by omega) (by decide)
          have hp1 := pt_lt (k := 1) hM.1 (show i < nn q by omega) (by decide)
          have hp2 := pt_lt (k := 2) hM.1 (show i < nn q by omega) (by decide)
          refine lv_aload_n hx hb dX7_pointOf_49 rfl (lv_at hl 0 rfl) ?_
          refine va_get (D := D) (ci := 7) (v := .ref (md 3)) (C := RX7) (T := TX7) (N := 20) hx hb hts hiX7 hown hK hP 0 rfl rfl 4 (by decide) hf16 (fun _ h9 => h9) rfl dX7_pointOf_50 ?_
          refine lv_iload hx hb dX7_pointOf_53 (lv_at hl 8 rfl) ?_
          refine nv_iald hx hb hK hP 3 0 rfl rfl (by omega) (by decide) dX7_pointOf_55 ?_
          refine nv_top (v' := .int (nI (pt q i 0))) (by rw [(hM.2.2.2 i (by omega)).1]) ?_
          refine lv_iload hx hb dX7_pointOf_56 (lv_at hl 5 rfl) ?_
          refine nv_icmp_ne (tgt := 85) hx hb (by omega) (by omega) dX7_pointOf_58 (by decide) (fun c58 => ?_) (fun c58 => ?_)
          · have hi : i + 1 ≤ nmb q x y z := by
              have h9 : ¬ i = nmb q x y z := fun z9 => c58 (by rw [z9]; exact hsp.1)
              omega
            refine lv_iinc (v := nI (i + 1)) (lv' := [(8, .int (nI (i + 1))), (0, .ref (md 0)), (1, .int (nI x)), (2, .int (nI y)), (3, .int (nI z)), (4, .int (nI y)), (5, .int (nI (fdiv q x y))), (6, .int (nI (fdiv q y y))), (7, .int (nI (fdiv q z y)))]) hx hb dX7_pointOf_85 hl (k := 8) rfl (nI_inc i) (by decide) rfl (fun ls hl => ?_)
            refine lv_goto (tgt := 49) hx hb dX7_pointOf_88 (by decide) ?_
            exact ih49 (i + 1) ls (by omega) hi (lv_sub hl [1, 2, 3, 4, 5, 6, 7, 8, 0] rfl)
          · refine lv_aload_n hx hb dX7_pointOf_61 rfl (lv_at hl 0 rfl) ?_
            refine va_get (D := D) (ci := 7) (v := .ref (md 4)) (C := RX7) (T := TX7) (N := 20) hx hb hts hiX7 hown hK hP 0 rfl rfl 5 (by decide) hf19 (fun _ h9 => h9) rfl dX7_pointOf_62 ?_
            refine lv_iload hx hb dX7_pointOf_65 (lv_at hl 8 rfl) ?_
            refine nv_iald hx hb hK hP 4 0 rfl rfl (by omega) (by decide) dX7_pointOf_67 ?_
            refine nv_top (v' := .int (nI (pt q i 1))) (by rw [(hM.2.2.2 i (by omega)).2.1]) ?_
            refine lv_iload hx hb dX7_pointOf_68 (lv_at hl 6 rfl) ?_
            refine nv_icmp_ne (tgt := 85) hx hb (by omega) (by omega) dX7_pointOf_70 (by decide) (fun c70 => ?_) (fun c70 => ?_)
            · have hi : i + 1 ≤ nmb q x y z := by
                have h9 : ¬ i = nmb q x y z := fun z9 => c70 (by rw [z9]; exact hsp.2.1)
                omega
              refine lv_iinc (v := nI (i + 1)) (lv' := [(8, .int (nI (i + 1))), (0, .ref (md 0)), (1, .int (nI x)), (2, .int (nI y)), (3, .int (nI z)), (4, .int (nI y)), (5, .int (nI (fdiv q x y))), (6, .int (nI (fdiv q y y))), (7, .int (nI (fdiv q z y)))]) hx hb dX7_pointOf_85 hl (k := 8) rfl (nI_inc i) (by decide) rfl (fun ls hl => ?_)
              refine lv_goto (tgt := 49) hx hb dX7_pointOf_88 (by decide) ?_
              exact ih49 (i + 1) ls (by omega) hi (lv_sub hl [1, 2, 3, 4, 5, 6, 7, 8, 0] rfl)
            · refine lv_aload_n hx hb dX7_pointOf_73 rfl (lv_at hl 0 rfl) ?_
              refine va_get (D := D) (ci := 7) (v := .ref (md 5)) (C := RX7) (T := TX7) (N := 20) hx hb hts hiX7 hown hK hP 0 rfl rfl 6 (by decide) hf22 (fun _ h9 => h9) rfl dX7_pointOf_74 ?_
              refine lv_iload hx hb dX7_pointOf_77 (lv_at hl 8 rfl) ?_
              refine nv_iald hx hb hK hP 5 0 rfl rfl (by omega) (by decide) dX7_pointOf_79 ?_
              refine nv_top (v' := .int (nI (pt q i 2))) (by rw [(hM.2.2.2 i (by omega)).2.2]) ?_
              refine lv_iload hx hb dX7_pointOf_80 (lv_at hl 7 rfl) ?_
              refine nv_icmp_eq (tgt := 91) hx hb (by omega) (by omega) dX7_pointOf_82 (by decide) (fun c82 => ?_) (fun c82 => ?_)
              · refine lv_iload hx hb dX7_pointOf_91 (lv_at hl 8 rfl) ?_
                exact ctR_ret (v := (nI i)) hx hb hr rfl dX7_pointOf_93 hlocks (by rw [pt_inj q hM.1 i (by omega) _ hnb ⟨c58.trans hsp.1.symm, c70.trans hsp.2.1.symm, c82.trans hsp.2.2.symm⟩])
              · have hi : i + 1 ≤ nmb q x y z := by
                  have h9 : ¬ i = nmb q x y z := fun z9 => c82 (by rw [z9]; exact hsp.2.2)
                  omega
                refine lv_iinc (v := nI (i + 1)) (lv' := [(8, .int (nI (i + 1))), (0, .ref (md 0)), (1, .int (nI x)), (2, .int (nI y)), (3, .int (nI z)), (4, .int (nI y)), (5, .int (nI (fdiv q x y))), (6, .int (nI (fdiv q y y))), (7, .int (nI (fdiv q z y)))]) hx hb dX7_pointOf_85 hl (k := 8) rfl (nI_inc i) (by decide) rfl (fun ls hl => ?_)
                refine lv_goto (tgt := 49) hx hb dX7_pointOf_88 (by decide) ?_
                exact ih49 (i + 1) ls (by omega) hi (lv_sub hl [1, 2, 3, 4, 5, 6, 7, 8, 0] rfl)
      exact L49 (nmb q x y z - 0 + 1) 0 ls (by omega) (Nat.zero_le _) (lv_sub hl [5, 6, 7, 8, 4, 3, 2, 1, 0] rfl)
  · refine lv_iload_n hx hb dX7_pointOf_4 rfl (lv_at hl 1 rfl) ?_
    refine lv_goto (tgt := 17) hx hb dX7_pointOf_5 (by decide) ?_
    refine lv_istore (lv' := [(4, .int (nI x)), (0, .ref (md 0)), (1, .int (nI x)), (2, .int (nI y)), (3, .int (nI z))]) hx hb dX7_pointOf_17 hl (by decide) rfl (fun ls hl => ?_)
    have hnb := nmb_tab q hM.1 x k_1 y k_2 z k_3
    refine lv_aload_n hx hb dX7_pointOf_19 rfl (lv_at hl 1 rfl) ?_
    refine lv_iload_n hx hb dX7_pointOf_20 rfl (lv_at hl 2 rfl) ?_
    refine lv_iload hx hb dX7_pointOf_21 (lv_at hl 0 rfl) ?_
    refine ctR_V (As := [.int (nI x), .int (nI x)]) (rest := []) (r := .int (nI (fdiv q x x))) ⟨hx, hb, hml, hown, hts⟩ (c_X7_by l D cI cZ md q w su po xs ys zs hM x x (by omega) (by omega) (by omega)) (cwV 2 hts gX7_pointOf_X7_by rfl rfl rfl hdV_X7_by ⟨Nat.le_of_ble_eq_true rfl, Nat.le_of_ble_eq_true rfl⟩) hK hN hP [0, 1, 2, 3, 4, 5] rfl 0 7 rfl rfl rfl hl.1 rfl (Nat.le_of_ble_eq_true rfl) ⟨Nat.zero_le _, Nat.zero_le _⟩ dX7_pointOf_23 ?_
    have hh_7 : fdiv q x x < q := fdiv_lt hM.1 (by omega) (by omega)
    refine lv_istore (lv' := [(5, .int (nI (fdiv q x x))), (4, .int (nI x)), (0, .ref (md 0)), (1, .int (nI x)), (2, .int (nI y)), (3, .int (nI z))]) hx hb dX7_pointOf_26 hl (by decide) rfl (fun ls hl => ?_)
    refine lv_aload_n hx hb dX7_pointOf_28 rfl (lv_at hl 2 rfl) ?_
    refine lv_iload_n hx hb dX7_pointOf_29 rfl (lv_at hl 4 rfl) ?_
    refine lv_iload hx hb dX7_pointOf_30 (lv_at hl 1 rfl) ?_
    refine ctR_V (As := [.int (nI y), .int (nI x)]) (rest := []) (r := .int (nI (fdiv q y x))) ⟨hx, hb, hml, hown, hts⟩ (c_X7_by l D cI cZ md q w su po xs ys zs hM y x (by omega) (by omega) (by omega)) (cwV 2 hts gX7_pointOf_X7_by rfl rfl rfl hdV_X7_by ⟨Nat.le_of_ble_eq_true rfl, Nat.le_of_ble_eq_true rfl⟩) hK hN hP [0, 1, 2, 3, 4, 5] rfl 0 7 rfl rfl rfl hl.1 rfl (Nat.le_of_ble_eq_true rfl) ⟨Nat.zero_le _, Nat.zero_le _⟩ dX7_pointOf_32 ?_
    have hh_8 : fdiv q y x < q := fdiv_lt hM.1 (by omega) (by omega)
    refine lv_istore (lv' := [(6, .int (nI (fdiv q y x))), (5, .int (nI (fdiv q x x))), (4, .int (nI x)), (0, .ref (md 0)), (1, .int (nI x)), (2, .int (nI y)), (3, .int (nI z))]) hx hb dX7_pointOf_35 hl (by decide) rfl (fun ls hl => ?_)
    refine lv_aload_n hx hb dX7_pointOf_37 rfl (lv_at hl 3 rfl) ?_
    refine lv_iload_n hx hb dX7_pointOf_38 rfl (lv_at hl 6 rfl) ?_
    refine lv_iload hx hb dX7_pointOf_39 (lv_at hl 2 rfl) ?_
    refine ctR_V (As := [.int (nI z), .int (nI x)]) (rest := []) (r := .int (nI (fdiv q z x))) ⟨hx, hb, hml, hown, hts⟩ (c_X7_by l D cI cZ md q w su po xs ys zs hM z x (by omega) (by omega) (by omega)) (cwV 2 hts gX7_pointOf_X7_by rfl rfl rfl hdV_X7_by ⟨Nat.le_of_ble_eq_true rfl, Nat.le_of_ble_eq_true rfl⟩) hK hN hP [0, 1, 2, 3, 4, 5] rfl 0 7 rfl rfl rfl hl.1 rfl (Nat.le_of_ble_eq_true rfl) ⟨Nat.zero_le _, Nat.zero_le _⟩ dX7_pointOf_41 ?_
    have hh_9 : fdiv q z x < q := fdiv_lt hM.1 (by omega) (by omega)
    refine lv_istore (lv' := [(7, .int (nI (fdiv q z x))), (6, .int (nI (fdiv q y x))), (5, .int (nI (fdiv q x x))), (4, .int (nI x)), (0, .ref (md 0)), (1, .int (nI x)), (2, .int (nI y)), (3, .int (nI z))]) hx hb dX7_pointOf_44 hl (by decide) rfl (fun ls hl => ?_)
    have hsp := nmb_spec hM.1 k_1 k_2 k_3 k_4 (by first | exact fs3_1 c1 | exact fs3_2 c1 c9 | exact fs3_3 c1 c9)
    refine lv_iconst (v := nI 0) hx hb dX7_pointOf_46 (by decide) ?_
    refine lv_istore (lv' := [(8, .int (nI 0)), (7, .int (nI (fdiv q z x))), (6, .int (nI (fdiv q y x))), (5, .int (nI (fdiv q x x))), (4, .int (nI x)), (0, .ref (md 0)), (1, .int (nI x)), (2, .int (nI y)), (3, .int (nI z))]) hx hb dX7_pointOf_47 hl (by decide) rfl (fun ls hl => ?_)
    have L49 : ∀ (N49 : Nat) (i : Nat) (ls : Array Slot), nmb q x y z - i < N49 → (i ≤ nmb q x y z) → lv_has ls 9 [(0, .ref (md 0)), (1, .int (nI x)), (2, .int (nI y)), (3, .int (nI z)), (4, .int (nI x)), (5, .int (nI (fdiv q x x))), (6, .int (nI (fdiv q y x))), (7, .int (nI (fdiv q z x))), (8, .int (nI i))] → WR p l e wsX7_pointOf { frames := 2, cells := 0, slots := 0, locals := 45 } s m [.ref (md 0), .int (nI x), .int (nI y), .int (nI z)] below meth c (.int (nI (nmb q x y z))) 49 ls [] := by
      intro N49
      induction N49 with
      | zero => intro i ls hN; exact absurd hN (Nat.not_lt_zero _)
      | succ N49 ih49 =>
        intro i ls hN49 k_i hl
        have hp0 := pt_lt (k := 0) hM.1 (show i < nn q by omega) (by decide)
        have hp1 := pt_lt (k := 1) hM.1 (show i < nn q by omega) (by decide)
        have hp2 := pt_lt (k := 2) hM.1 (show i < nn q by omega) (by decide)
        refine lv_aload_n hx hb dX7_pointOf_49 rfl (lv_at hl 0 rfl) ?_
        refine va_get (D := D) (ci := 7) (v := .ref (md 3)) (C := RX7) (T := TX7) (N := 20) hx hb hts hiX7 hown hK hP 0 rfl rfl 4 (by decide) hf16 (fun _ h9 => h9) rfl dX7_pointOf_50 ?_
        refine lv_iload hx hb dX7_pointOf_53 (lv_at hl 8 rfl) ?_
        refine nv_iald hx hb hK hP 3 0 rfl rfl (by omega) (by decide) dX7_pointOf_55 ?_
        refine nv_top (v' := .int (nI (pt q i 0))) (by rw [(hM.2.2.2 i (by omega)).1]) ?_
        refine lv_iload hx hb dX7_pointOf_56 (lv_at hl 5 rfl) ?_
        refine nv_icmp_ne (tgt := 85) hx hb (by omega) (by omega) dX7_pointOf_58 (by decide) (fun c58 => ?_) (fun c58 => ?_)
        · have hi : i + 1 ≤ nmb q x y z := by
            have h9 : ¬ i = nmb q x y z := fun z9 => c58 (by rw [z9]; exact hsp.1)
            omega
          refine lv_iinc (v := nI (i + 1)) (lv' := [(8, .int (nI (i + 1))), (0, .ref (md 0)), (1, .int (nI x)), (2, .int (nI y)), (3, .int (nI z)), (4, .int (nI x)), (5, .int (nI (fdiv q x x))), (6, .int (nI (fdiv q y x))), (7, .int (nI (fdiv q z x)))]) hx hb dX7_pointOf_85 hl (k := 8) rfl (nI_inc i) (by decide) rfl (fun ls hl => ?_)
          refine lv_goto (tgt := 49) hx hb dX7_pointOf_88 (by decide) ?_
          exact ih49 (i + 1) ls (by omega) hi (lv_sub hl [1, 2, 3, 4, 5, 6, 7, 8, 0] rfl)
        · refine lv_aload_n hx hb dX7_pointOf_61 rfl (lv_at hl 0 rfl) ?_
          refine va_get (D := D) (ci := 7) (v := .ref (md 4)) (C := RX7) (T := TX7) (N := 20) hx hb hts hiX7 hown hK hP 0 rfl rfl 5 (by decide) hf19 (fun _ h9 => h9) rfl dX7_pointOf_62 ?_
          refine lv_iload hx hb dX7_pointOf_65 (lv_at hl 8 rfl) ?_
          refine nv_iald hx hb hK hP 4 0 rfl rfl (by omega) (by decide) dX7_pointOf_67 ?_
          refine nv_top (v' := .int (nI (pt q i 1))) (by rw [(hM.2.2.2 i (by omega)).2.1]) ?_
          refine lv_iload hx hb dX7_pointOf_68 (lv_at hl 6 rfl) ?_
          refine nv_icmp_ne (tgt := 85) hx hb (by omega) (by omega) dX7_pointOf_70 (by decide) (fun c70 => ?_) (fun c70 => ?_)
          · have hi : i + 1 ≤ nmb q x y z := by
              have h9 : ¬ i = nmb q x y z := fun z9 => c70 (by rw [z9]; exact hsp.2.1)
              omega
            refine lv_iinc (v := nI (i + 1)) (lv' := [(8, .int (nI (i + 1))), (0, .ref (md 0)), (1, .int (nI x)), (2, .int (nI y)), (3, .int (nI z)), (4, .int (nI x)), (5, .int (nI (fdiv q x x))), (6, .int (nI (fdiv q y x))), (7, .int (nI (fdiv q z x)))]) hx hb dX7_pointOf_85 hl (k := 8) rfl (nI_inc i) (by decide) rfl (fun ls hl => ?_)
            refine lv_goto (tgt := 49) hx hb dX7_pointOf_88 (by decide) ?_
            exact ih49 (i + 1) ls (by omega) hi (lv_sub hl [1, 2, 3, 4, 5, 6, 7, 8, 0] rfl)
          · refine lv_aload_n hx hb dX7_pointOf_73 rfl (lv_at hl 0 rfl) ?_
            refine va_get (D := D) (ci := 7) (v := .ref (md 5)) (C := RX7) (T := TX7) (N := 20) hx hb hts hiX7 hown hK hP 0 rfl rfl 6 (by decide) hf22 (fun _ h9 => h9) rfl dX7_pointOf_74 ?_
            refine lv_iload hx hb dX7_pointOf_77 (lv_at hl 8 rfl) ?_
            refine nv_iald hx hb hK hP 5 0 rfl rfl (by omega) (by decide) dX7_pointOf_79 ?_
            refine nv_top (v' := .int (nI (pt q i 2))) (by rw [(hM.2.2.2 i (by omega)).2.2]) ?_
            refine lv_iload hx hb dX7_pointOf_80 (lv_at hl 7 rfl) ?_
            refine nv_icmp_eq (tgt := 91) hx hb (by omega) (by omega) dX7_pointOf_82 (by decide) (fun c82 => ?_) (fun c82 => ?_)
            · refine lv_iload hx hb dX7_pointOf_91 (lv_at hl 8 rfl) ?_
              exact ctR_ret (v := (nI i)) hx hb hr rfl dX7_pointOf_93 hlocks (by rw [pt_inj q hM.1 i (by omega) _ hnb ⟨c58.trans hsp.1.symm, c70.trans hsp.2.1.symm, c82.trans hsp.2.2.symm⟩])
            · have hi : i + 1 ≤ nmb q x y z := by
                have h9 : ¬ i = nmb q x y z := fun z9 => c82 (by rw [z9]; exact hsp.2.2)
                omega
              refine lv_iinc (v := nI (i + 1)) (lv' := [(8, .int (nI (i + 1))), (0, .ref (md 0)), (1, .int (nI x)), (2, .int (nI y)), (3, .int (nI z)), (4, .int (nI x)), (5, .int (nI (fdiv q x x))), (6, .int (nI (fdiv q y x))), (7, .int (nI (fdiv q z x)))]) hx hb dX7_pointOf_85 hl (k := 8) rfl (nI_inc i) (by decide) rfl (fun ls hl => ?_)
              refine lv_goto (tgt := 49) hx hb dX7_pointOf_88 (by decide) ?_
              exact ih49 (i + 1) ls (by omega) hi (lv_sub hl [1, 2, 3, 4, 5, 6, 7, 8, 0] rfl)
    exact L49 (nmb q x y z - 0 + 1) 0 ls (by omega) (Nat.zero_le _) (lv_sub hl [5, 6, 7, 8, 4, 3, 2, 1, 0] rfl)

set_option maxHeartbeats 4000000 in
set_option maxRecDepth 100000 in
theorem c_X7_reckon (l : Launch) (D : va_G) (cI cZ : ClassId) (md : Nat → Nat) (q : Nat) (w : Nat) (su : Nat → Nat) (po : Nat → Nat) (xs : Nat → Nat) (ys : Nat → Nat) (zs : Nat → Nat) (hM : MOK q su po xs ys zs) (hw : Int32) (xa : Int32) (xb : Int32) : CtR l yX7_reckon wsX7_reckon { frames := 2, cells := 0, slots := 0, locals := 45 } D (tyG cI cZ) [.ref (md 0), .int hw, .int xa, .int xb] [(md 0, .inr (7, [.int (nI q), .int (nI (nn q)), .ref (md 1), .ref (md 2), .ref (md 3), .ref (md 4), .ref (md 5), .ref (md 6), .ref (md 7), .ref (md 8), .ref (md 9), .ref (md 10), .ref (md 11), .ref (md 12), .ref (md 13), .ref (md 14), .ref (md 15), .ref (md 16), .int (nI w), .ref (md 17)])), (md 1, .inl (cI, 81, .inl (nF su))), (md 2, .inl (cI, 81, .inl (nF po))), (md 3, .inl (cI, 91, .inl (nF xs))), (md 4, .inl (cI, 91, .inl (nF ys))), (md 5, .inl (cI, 91, .inl (nF zs)))] (.int (recZ q hw xa xb)) := by
  refine Met.ofW (cc := cX7_reckon) (maxL := 4) (ret := some .int) (by decide) rfl ?_
  intro p e s m args below meth c s₁ B hml hv
  obtain ⟨rfl, hP, hK, hN⟩ := hv
  have hx := B.exec
  have hb := B.bytes
  have hr := B.returns
  have hts := atoms_spec (ws := wsX7_reckon) B.pre
  have hown : s.vm.findClass RX7 = some m.cls := findClass_of_methodNamed B.named
  have hlocks := B.notSynchronized
  have hl := lv_entry ([.ref (md 0), .int hw, .int xa, .int xb]) (n := 4) (Nat.le_of_ble_eq_true rfl)
  rw [lg_entry_eq]
  generalize (lg_sl ([.ref (md 0), .int hw, .int xa, .int xb]) ++ List.replicate (4 - (lg_sl ([.ref (md 0), .int hw, .int xa, .int xb])).length) Slot.unset).toArray = ls at hl ⊢
  have hl : lv_has ls 4 [(0, .ref (md 0)), (1, .int hw), (2, .int xa), (3, .int xb)] := hl
  have hq2 := qs_le hM.1
  have hn2 := nn_le hM.1
  refine lv_iload_n hx hb dX7_reckon_0 rfl (lv_at hl 1 rfl) ?_
  refine lv_iconst (v := nI 0) hx hb dX7_reckon_1 (by decide) ?_
  refine lv_iconst (v := nI 3) hx hb dX7_reckon_2 (by decide) ?_
  refine ctR_S (As := [.int hw, .int (nI 0), .int (nI 3)]) (rest := []) (r := .int (nI (inR hw 0 3).toNat)) ⟨hx, hb, hml, hown, hts⟩ (c_X7_isFrom l D cI cZ hw 0 3 (by omega) (by omega)) (va_cwS 3 hts gX7_reckon_X7_isFrom rfl rfl rfl hdS_X7_isFrom ⟨Nat.le_of_ble_eq_true rfl, Nat.le_of_ble_eq_true rfl⟩) hK hN hP [] rfl rfl hl.1 rfl (Nat.le_of_ble_eq_true rfl) ⟨Nat.zero_le _, Nat.zero_le _⟩ dX7_reckon_3 ?_
  refine nv_ifb_eq (tgt := 25) hx hb dX7_reckon_6 (by decide) (fun c6 => ?_) (fun c6 => ?_)
  · refine lv_bipush (v := (-2)) hx hb dX7_reckon_25 (by decide) ?_
    exact ctR_ret (v := (-2)) hx hb hr rfl dX7_reckon_27 hlocks (by rw [recZ, if_pos c6])
  · refine lv_aload_n hx hb dX7_reckon_9 rfl (lv_at hl 0 rfl) ?_
    refine lv_iload_n hx hb dX7_reckon_10 rfl (lv_at hl 2 rfl) ?_
    refine ctR_V (As := [.int xa]) (rest := []) (r := .int (nI (inB xa q).toNat)) ⟨hx, hb, hml, hown, hts⟩ (c_X7_isNumber l D cI cZ md q w su po xs ys zs hM xa) (cwV 1 hts gX7_reckon_X7_isNumber rfl rfl rfl hdV_X7_isNumber ⟨Nat.le_of_ble_eq_true rfl, Nat.le_of_ble_eq_true rfl⟩) hK hN hP [0, 1, 2, 3, 4, 5] rfl 0 7 rfl rfl rfl hl.1 rfl (Nat.le_of_ble_eq_true rfl) ⟨Nat.zero_le _, Nat.zero_le _⟩ dX7_reckon_11 ?_
    refine nv_ifb_eq (tgt := 25) hx hb dX7_reckon_14 (by decide) (fun c14 => ?_) (fun c14 => ?_)
    · refine lv_bipush (v := (-2)) hx hb dX7_reckon_25 (by decide) ?_
      exact ctR_ret (v := (-2)) hx hb hr rfl dX7_reckon_27 hlocks (by rw [recZ, if_neg (bool_nf c6), if_pos c14])
    · refine lv_aload_n hx hb dX7_reckon_17 rfl (lv_at hl 0 rfl) ?_
      refine lv_iload_n hx hb dX7_reckon_18 rfl (lv_at hl 3 rfl) ?_
      refine ctR_V (As := [.int xb]) (rest := []) (r := .int (nI (inB xb q).toNat)) ⟨hx, hb, hml, hown, hts⟩ (c_X7_isNumber l D cI cZ md q w su po xs ys zs hM xb) (cwV 1 hts gX7_reckon_X7_isNumber rfl rfl rfl hdV_X7_isNumber ⟨Nat.le_of_ble_eq_true rfl, Nat.le_of_ble_eq_true rfl⟩) hK hN hP [0, 1, 2, 3, 4, 5] rfl 0 7 rfl rfl rfl hl.1 rfl (Nat.le_of_ble_eq_true rfl) ⟨Nat.zero_le _, Nat.zero_le _⟩ dX7_reckon_19 ?_
      refine nv_ifb_ne (tgt := 28) hx hb dX7_reckon_22 (by decide) (fun c22 => ?_) (fun c22 => ?_)
      · have hi3 := c6
        have hia := c14
        have hib := c22
        obtain ⟨ja, hja, rfl⟩ := inB_of (by omega) c14
        obtain ⟨jb, hjb, rfl⟩ := inB_of (by omega) c22
        refine lv_iload_n hx hb dX7_reckon_28 rfl (lv_at hl 1 rfl) ?_
        rcases (show (hw).toInt = 0 ∨ (hw).toInt = 1 ∨ (hw).toInt = 2 ∨ ((hw).toInt < 0 ∨ 2 < (hw).toInt) by omega) with sw | sw | sw | sw
        · refine lv_tableIn (tgt := 56) hx hb dX7_reckon_29 (by omega) (by omega) (by rw [sw]; rfl) (by decide) ?_
          obtain rfl : hw = nI 0 := toInt_nI (by decide) sw
          refine lv_aload_n hx hb dX7_reckon_56 rfl (lv_at hl 0 rfl) ?_
          refine lv_iload_n hx hb dX7_reckon_57 rfl (lv_at hl 2 rfl) ?_
          refine lv_iload_n hx hb dX7_reckon_58 rfl (lv_at hl 3 rfl) ?_
          refine ctR_V (As := [.int (nI ja), .int (nI jb)]) (rest := []) (r := .int (nI (fadd q ja jb))) ⟨hx, hb, hml, hown, hts⟩ (c_X7_add l D cI cZ md q w su po xs ys zs hM ja jb (by omega) (by omega)) (cwV 2 hts gX7_reckon_X7_add rfl rfl rfl hdV_X7_add ⟨Nat.le_of_ble_eq_true rfl, Nat.le_of_ble_eq_true rfl⟩) hK hN hP [0, 1, 2, 3, 4, 5] rfl 0 7 rfl rfl rfl hl.1 rfl (Nat.le_of_ble_eq_true rfl) ⟨Nat.zero_le _, Nat.zero_le _⟩ dX7_reckon_59 ?_
          have hh_1 : fadd q ja jb < q := fadd_lt hM.1 (by omega) (by omega)
          exact ctR_ret (v := (nI (fadd q ja jb))) hx hb hr rfl dX7_reckon_62 hlocks (by rw [recZ, if_neg (bool_nf hi3), if_neg (bool_nf hia), if_neg (bool_nf hib), if_pos rfl, nv_nI (by omega), nv_nI (by omega)])
        · refine lv_tableIn (tgt := 63) hx hb dX7_reckon_29 (by omega) (by omega) (by rw [sw]; rfl) (by decide) ?_
          obtain rfl : hw = nI 1 := toInt_nI (by decide) sw
          refine lv_aload_n hx hb dX7_reckon_63 rfl (lv_at hl 0 rfl) ?_
          refine lv_iload_n hx hb dX7_reckon_64 rfl (lv_at hl 2 rfl) ?_
          refine lv_iload_n hx hb dX7_reckon_65 rfl (lv_at hl 3 rfl) ?_
          refine ctR_V (As := [.int (nI ja), .int (nI jb)]) (rest := []) (r := .int (nI (fsub q ja jb))) ⟨hx, hb, hml, hown, hts⟩ (c_X7_less l D cI cZ md q w su po xs ys zs hM ja jb (by omega) (by omega)) (cwV 2 hts gX7_reckon_X7_less rfl rfl rfl hdV_X7_less ⟨Nat.le_of_ble_eq_true rfl, Nat.le_of_ble_eq_true rfl⟩) hK hN hP [0, 1, 2, 3, 4, 5] rfl 0 7 rfl rfl rfl hl.1 rfl (Nat.le_of_ble_eq_true rfl) ⟨Nat.zero_le _, Nat.zero_le _⟩ dX7_reckon_66 ?_
          have hh_2 : fsub q ja jb < q := fsub_lt hM.1 (by omega) (by omega)
          exact ctR_ret (v := (nI (fsub q ja jb))) hx hb hr rfl dX7_reckon_69 hlocks (by rw [recZ, if_neg (bool_nf hi3), if_neg (bool_nf hia), if_neg (bool_nf hib), if_neg (by decide), if_pos rfl, nv_nI (by omega), nv_nI (by omega)])
        · refine lv_tableIn (tgt := 70) hx hb dX7_reckon_29 (by omega) (by omega) (by rw [sw]; rfl) (by decide) ?_
          obtain rfl : hw = nI 2 := toInt_nI (by decide) sw
          refine lv_aload_n hx hb dX7_reckon_70 rfl (lv_at hl 0 rfl) ?_
          refine lv_iload_n hx hb dX7_reckon_71 rfl (lv_at hl 2 rfl) ?_
          refine lv_iload_n hx hb dX7_reckon_72 rfl (lv_at hl 3 rfl) ?_
          refine ctR_V (As := [.int (nI ja), .int (nI jb)]) (rest := []) (r := .int (nI (fmul q ja jb))) ⟨hx, hb, hml, hown, hts⟩ (c_X7_times l D cI cZ md q w su po xs ys zs hM ja jb (by omega) (by omega)) (cwV 2 hts gX7_reckon_X7_times rfl rfl rfl hdV_X7_times ⟨Nat.le_of_ble_eq_true rfl, Nat.le_of_ble_eq_true rfl⟩) hK hN hP [0, 1, 2, 3, 4, 5] rfl 0 7 rfl rfl rfl hl.1 rfl (Nat.le_of_ble_eq_true rfl) ⟨Nat.zero_le _, Nat.zero_le _⟩ dX7_reckon_73 ?_
          have hh_3 : fmul q ja jb < q := fmul_lt hM.1 (by omega) (by omega)
          exact ctR_ret (v := (nI (fmul q ja jb))) hx hb hr rfl dX7_reckon_76 hlocks (by rw [recZ, if_neg (bool_nf hi3), if_neg (bool_nf hia), if_neg (bool_nf hib), if_neg (by decide), if_neg (by decide), if_pos rfl, nv_nI (by omega), nv_nI (by omega)])
        · refine lv_tableOut (tgt := 77) hx hb dX7_reckon_29 sw (by decide) ?_
          have hn0 : ¬ hw = nI 0 := sw_ne sw (by decide)
          have hn1 : ¬ hw = nI 1 := sw_ne sw (by decide)
          have hn2 : ¬ hw = nI 2 := sw_ne sw (by decide)
          refine lv_iload_n hx hb dX7_reckon_77 rfl (lv_at hl 3 rfl) ?_
          refine nv_if_ne (tgt := 86) hx hb (by omega) dX7_reckon_78 (by decide) (fun c78 => ?_) (fun c78 => ?_)
          · refine lv_aload_n hx hb dX7_reckon_86 rfl (lv_at hl 0 rfl) ?_
            refine lv_iload_n hx hb dX7_reckon_87 rfl (lv_at hl 2 rfl) ?_
            refine lv_iload_n hx hb dX7_reckon_88 rfl (lv_at hl 3 rfl) ?_
            refine ctR_V (As := [.int (nI ja), .int (nI jb)]) (rest := []) (r := .int (nI (fdiv q ja jb))) ⟨hx, hb, hml, hown, hts⟩ (c_X7_by l D cI cZ md q w su po xs ys zs hM ja jb (by omega) (by omega) c78) (cwV 2 hts gX7_reckon_X7_by rfl rfl rfl hdV_X7_by ⟨Nat.le_of_ble_eq_true rfl, Nat.le_of_ble_eq_true rfl⟩) hK hN hP [0, 1, 2, 3, 4, 5] rfl 0 7 rfl rfl rfl hl.1 rfl (Nat.le_of_ble_eq_true rfl) ⟨Nat.zero_le _, Nat.zero_le _⟩ dX7_reckon_89 ?_
            have hh_4 : fdiv q ja jb < q := fdiv_lt hM.1 (by omega) (by omega)
            exact ctR_ret (v := (nI (fdiv q ja jb))) hx hb hr rfl dX7_reckon_92 hlocks (by rw [recZ, if_neg (bool_nf hi3), if_neg (bool_nf hia), if_neg (bool_nf hib), if_neg hn0, if_neg hn1, if_neg hn2, if_neg (fun z => c78 ((nI_eq (by omega) (by decide)).mp z)), nv_nI (by omega), nv_nI (by omega)])
          · refine lv_bipush (v := (-3)) hx hb dX7_reckon_81 (by decide) ?_
            refine lv_goto (tgt := 92) hx hb dX7_reckon_83 (by decide) ?_
            exact ctR_ret (v := (-3)) hx hb hr rfl dX7_reckon_92 hlocks (by rw [recZ, if_neg (bool_nf hi3), if_neg (bool_nf hia), if_neg (bool_nf hib), if_neg hn0, if_neg hn1, if_neg hn2, if_pos (by rw [c78])])
      · refine lv_bipush (v := (-2)) hx hb dX7_reckon_25 (by decide) ?_
        exact ctR_ret (v := (-2)) hx hb hr rfl dX7_reckon_27 hlocks (by rw [recZ, if_neg (bool_nf c6), if_neg (bool_nf c14), if_pos c22])

set_option maxHeartbeats 4000000 in
set_option maxRecDepth 100000 in
theorem c_X7_triple (l : Launch) (D : va_G) (cI cZ : ClassId) (md : Nat → Nat) (q : Nat) (w : Nat) (su : Nat → Nat) (po : Nat → Nat) (xs : Nat → Nat) (ys : Nat → Nat) (zs : Nat → Nat) (hM : MOK q su po xs ys zs) (x : Int32) (k : Int32) : CtR l yX7_triple wsX7_triple { frames := 2, cells := 0, slots := 0, locals := 43 } D (tyG cI cZ) [.ref (md 0), .int x, .int k] [(md 0, .inr (7, [.int (nI q), .int (nI (nn q)), .ref (md 1), .ref (md 2), .ref (md 3), .ref (md 4), .ref (md 5), .ref (md 6), .ref (md 7), .ref (md 8), .ref (md 9), .ref (md 10), .ref (md 11), .ref (md 12), .ref (md 13), .ref (md 14), .ref (md 15), .ref (md 16), .int (nI w), .ref (md 17)])), (md 1, .inl (cI, 81, .inl (nF su))), (md 2, .inl (cI, 81, .inl (nF po))), (md 3, .inl (cI, 91, .inl (nF xs))), (md 4, .inl (cI, 91, .inl (nF ys))), (md 5, .inl (cI, 91, .inl (nF zs)))] (.int (triZ q x k)) := by
  refine Met.ofW (cc := cX7_triple) (maxL := 3) (ret := some .int) (by decide) rfl ?_
  intro p e s m args below meth c s₁ B hml hv
  obtain ⟨rfl, hP, hK, hN⟩ := hv
  have hx := B.exec
  have hb := B.bytes
  have hr := B.returns
  have hts := atoms_spec (ws := wsX7_triple) B.pre
  have hown : s.vm.findClass RX7 = some m.cls := findClass_of_methodNamed B.named
  have hlocks := B.notSynchronized
  have hf16 := hts (.fieldLink RX7 16 "FinitePlanesModel" "xs" "[I") (by decide +kernel)
  have hf19 := hts (.fieldLink RX7 19 "FinitePlanesModel" "ys" "[I") (by decide +kernel)
  have hf22 := hts (.fieldLink RX7 22 "FinitePlanesModel" "zs" "[I") (by decide +kernel)
  have hiX7 : ∀ w ∈ u_ws RX7 TX7 20, w ∈ wsX7_triple := by decide +kernel
  have hl := lv_entry ([.ref (md 0), .int x, .int k]) (n := 3) (Nat.le_of_ble_eq_true rfl)
  rw [lg_entry_eq]
  generalize (lg_sl ([.ref (md 0), .int x, .int k]) ++ List.replicate (3 - (lg_sl ([.ref (md 0), .int x, .int k])).length) Slot.unset).toArray = ls at hl ⊢
  have hl : lv_has ls 3 [(0, .ref (md 0)), (1, .int x), (2, .int k)] := hl
  have hq2 := qs_le hM.1
  have hn2 := nn_le hM.1
  refine lv_aload_n hx hb dX7_triple_0 rfl (lv_at hl 0 rfl) ?_
  refine lv_iload_n hx hb dX7_triple_1 rfl (lv_at hl 1 rfl) ?_
  refine ctR_V (As := [.int x]) (rest := []) (r := .int (nI (inB x (nn q)).toNat)) ⟨hx, hb, hml, hown, hts⟩ (c_X7_isPoint l D cI cZ md q w su po xs ys zs hM x) (cwV 1 hts gX7_triple_X7_isPoint rfl rfl rfl hdV_X7_isPoint ⟨Nat.le_of_ble_eq_true rfl, Nat.le_of_ble_eq_true rfl⟩) hK hN hP [0, 1, 2, 3, 4, 5] rfl 0 7 rfl rfl rfl hl.1 rfl (Nat.le_of_ble_eq_true rfl) ⟨Nat.zero_le _, Nat.zero_le _⟩ dX7_triple_2 ?_
  refine nv_ifb_eq (tgt := 42) hx hb dX7_triple_5 (by decide) (fun c5 => ?_) (fun c5 => ?_)
  · refine lv_bipush (v := (-2)) hx hb dX7_triple_42 (by decide) ?_
    exact ctR_ret (v := (-2)) hx hb hr rfl dX7_triple_44 hlocks (by rw [triZ, if_pos c5])
  · refine lv_iload_n hx hb dX7_triple_8 rfl (lv_at hl 2 rfl) ?_
    refine lv_iconst (v := nI 0) hx hb dX7_triple_9 (by decide) ?_
    refine lv_iconst (v := nI 2) hx hb dX7_triple_10 (by decide) ?_
    refine ctR_S (As := [.int k, .int (nI 0), .int (nI 2)]) (rest := []) (r := .int (nI (inR k 0 2).toNat)) ⟨hx, hb, hml, hown, hts⟩ (c_X7_isFrom l D cI cZ k 0 2 (by omega) (by omega)) (va_cwS 3 hts gX7_triple_X7_isFrom rfl rfl rfl hdS_X7_isFrom ⟨Nat.le_of_ble_eq_true rfl, Nat.le_of_ble_eq_true rfl⟩) hK hN hP [] rfl rfl hl.1 rfl (Nat.le_of_ble_eq_true rfl) ⟨Nat.zero_le _, Nat.zero_le _⟩ dX7_triple_11 ?_
    refine nv_ifb_eq (tgt := 42) hx hb dX7_triple_14 (by decide) (fun c14 => ?_) (fun c14 => ?_)
    · refine lv_bipush (v := (-2)) hx hb dX7_triple_42 (by decide) ?_
      exact ctR_ret (v := (-2)) hx hb hr rfl dX7_triple_44 hlocks (by rw [triZ, if_neg (bool_nf c5), if_pos c14])
    · have h1 := c5
      have h2 := c14
      obtain ⟨i, hi, rfl⟩ := inB_of (by omega) c5
      obtain ⟨j, hj1, hj, rfl⟩ := inR_of (by decide) c14
      refine lv_aload_n hx hb dX7_triple_17 rfl (lv_at hl 0 rfl) ?_
      refine va_get (D := D) (ci := 7) (v := .ref (md 3)) (C := RX7) (T := TX7) (N := 20) hx hb hts hiX7 hown hK hP 0 rfl rfl 4 (by decide) hf16 (fun _ h9 => h9) rfl dX7_triple_18 ?_
      refine lv_iload_n hx hb dX7_triple_21 rfl (lv_at hl 1 rfl) ?_
      refine nv_iald hx hb hK hP 3 0 rfl rfl (by omega) (by decide) dX7_triple_22 ?_
      refine nv_top (v' := .int (nI (pt q i 0))) (by rw [(hM.2.2.2 i (by omega)).1]) ?_
      refine lv_aload_n hx hb dX7_triple_23 rfl (lv_at hl 0 rfl) ?_
      refine va_get (D := D) (ci := 7) (v := .ref (md 4)) (C := RX7) (T := TX7) (N := 20) hx hb hts hiX7 hown hK hP 0 rfl rfl 5 (by decide) hf19 (fun _ h9 => h9) rfl dX7_triple_24 ?_
      refine lv_iload_n hx hb dX7_triple_27 rfl (lv_at hl 1 rfl) ?_
      refine nv_iald hx hb hK hP 4 0 rfl rfl (by omega) (by decide) dX7_triple_28 ?_
      refine nv_top (v' := .int (nI (pt q i 1))) (by rw [(hM.2.2.2 i (by omega)).2.1]) ?_
      refine lv_aload_n hx hb dX7_triple_29 rfl (lv_at hl 0 rfl) ?_
      refine va_get (D := D) (ci := 7) (v := .ref (md 5)) (C := RX7) (T := TX7) (N := 20) hx hb hts hiX7 hown hK hP 0 rfl rfl 6 (by decide) hf22 (fun _ h9 => h9) rfl dX7_triple_30 ?_
      refine lv_iload_n hx hb dX7_triple_33 rfl (lv_at hl 1 rfl) ?_
      refine nv_iald hx hb hK hP 5 0 rfl rfl (by omega) (by decide) dX7_triple_34 ?_
      refine nv_top (v' := .int (nI (pt q i 2))) (by rw [(hM.2.2.2 i (by omega)).2.2]) ?_
      refine lv_iload_n hx hb dX7_triple_35 rfl (lv_at hl 2 rfl) ?_
      refine ctR_S (As := [.int (nI (pt q i 0)), .int (nI (pt q i 1)), .int (nI (pt q i 2)), .int (nI j)]) (rest := []) (r := .int (nI (th3 (pt q i 0) (pt q i 1) (pt q i 2) j))) ⟨hx, hb, hml, hown, hts⟩ (c_X7_three l D cI cZ (pt q i 0) (pt q i 1) (pt q i 2) j (by omega)) (va_cwS 4 hts gX7_triple_X7_three rfl rfl rfl hdS_X7_three ⟨Nat.le_of_ble_eq_true rfl, Nat.le_of_ble_eq_true rfl⟩) hK hN hP [] rfl rfl hl.1 rfl (Nat.le_of_ble_eq_true rfl) ⟨Nat.zero_le _, Nat.zero_le _⟩ dX7_triple_36 ?_
      refine lv_goto (tgt := 44) hx hb dX7_triple_39 (by decide) ?_
      exact ctR_ret (v := (nI (th3 (pt q i 0) (pt q i 1) (pt q i 2) j))) hx hb hr rfl dX7_triple_44 hlocks (by rw [triZ, if_neg (bool_nf h1), if_neg (bool_nf h2), nv_nI (by omega), nv_nI (by omega), th3_pt (by omega)])

set_option maxHeartbeats 4000000 in
set_option maxRecDepth 100000 in
theorem c_X7_number (l : Launch) (D : va_G) (cI cZ : ClassId) (md : Nat → Nat) (q : Nat) (w : Nat) (su : Nat → Nat) (po : Nat → Nat) (xs : Nat → Nat) (ys : Nat → Nat) (zs : Nat → Nat) (hM : MOK q su po xs ys zs) (xa : Int32) (xb : Int32) (xc : Int32) : CtR l yX7_number wsX7_number { frames := 3, cells := 0, slots := 0, locals := 73 } D (tyG cI cZ) [.ref (md 0), .int xa, .int xb, .int xc] [(md 0, .inr (7, [.int (nI q), .int (nI (nn q)), .ref (md 1), .ref (md 2), .ref (md 3), .ref (md 4), .ref (md 5), .ref (md 6), .ref (md 7), .ref (md 8), .ref (md 9), .ref (md 10), .ref (md 11), .ref (md 12), .ref (md 13), .ref (md 14), .ref (md 15), .ref (md 16), .int (nI w), .ref (md 17)])), (md 1, .inl (cI, 81, .inl (nF su))), (md 2, .inl (cI, 81, .inl (nF po))), (md 3, .inl (cI, 91, .inl (nF xs))), (md 4, .inl (cI, 91, .inl (nF ys))), (md 5, .inl (cI, 91, .inl (nF zs)))] (.int (numZ q xa xb xc)) := by
  refine Met.ofW (cc := cX7_number) (maxL := 4) (ret := some .int) (by decide) rfl ?_
  intro p e s m args below meth c s₁ B hml hv
  obtain ⟨rfl, hP, hK, hN⟩ := hv
  have hx := B.exec
  have hb := B.bytes
  have hr := B.returns
  have hts := atoms_spec (ws := wsX7_number) B.pre
  have hown : s.vm.findClass RX7 = some m.cls := findClass_of_methodNamed B.named
  have hlocks := B.notSynchronized
  have hl := lv_entry ([.ref (md 0), .int xa, .int xb, .int xc]) (n := 4) (Nat.le_of_ble_eq_true rfl)
  rw [lg_entry_eq]
  generalize (lg_sl ([.ref (md 0), .int xa, .int xb, .int xc]) ++ List.replicate (4 - (lg_sl ([.ref (md 0), .int xa, .int xb, .int xc])).length) Slot.unset).toArray = ls at hl ⊢
  have hl : lv_has ls 4 [(0, .ref (md 0)), (1, .int xa), (2, .int xb), (3, .int xc)] := hl
  have hq2 := qs_le hM.1
  have hn2 := nn_le hM.1
  refine lv_aload_n hx hb dX7_number_0 rfl (lv_at hl 0 rfl) ?_
  refine lv_iload_n hx hb dX7_number_1 rfl (lv_at hl 1 rfl) ?_
  refine ctR_V (As := [.int xa]) (rest := []) (r := .int (nI (inB xa q).toNat)) ⟨hx, hb, hml, hown, hts⟩ (c_X7_isNumber l D cI cZ md q w su po xs ys zs hM xa) (cwV 1 hts gX7_number_X7_isNumber rfl rfl rfl hdV_X7_isNumber ⟨Nat.le_of_ble_eq_true rfl, Nat.le_of_ble_eq_true rfl⟩) hK hN hP [0, 1, 2, 3, 4, 5] rfl 0 7 rfl rfl rfl hl.1 rfl (Nat.le_of_ble_eq_true rfl) ⟨Nat.zero_le _, Nat.zero_le _⟩ dX7_number_2 ?_
  refine nv_ifb_eq (tgt := 24) hx hb dX7_number_5 (by decide) (fun c5 => ?_) (fun c5 => ?_)
  · refine lv_bipush (v := (-2)) hx hb dX7_number_24 (by decide) ?_
    exact ctR_ret (v := (-2)) hx hb hr rfl dX7_number_26 hlocks (by rw [numZ, if_pos c5])
  · refine lv_aload_n hx hb dX7_number_8 rfl (lv_at hl 0 rfl) ?_
    refine lv_iload_n hx hb dX7_number_9 rfl (lv_at hl 2 rfl) ?_
    refine ctR_V (As := [.int xb]) (rest := []) (r := .int (nI (inB xb q).toNat)) ⟨hx, hb, hml, hown, hts⟩ (c_X7_isNumber l D cI cZ md q w su po xs ys zs hM xb) (cwV 1 hts gX7_number_X7_isNumber rfl rfl rfl hdV_X7_isNumber ⟨Nat.le_of_ble_eq_true rfl, Nat.le_of_ble_eq_true rfl⟩) hK hN hP [0, 1, 2, 3, 4, 5] rfl 0 7 rfl rfl rfl hl.1 rfl (Nat.le_of_ble_eq_true rfl) ⟨Nat.zero_le _, Nat.zero_le _⟩ dX7_number_10 ?_
    refine nv_ifb_eq (tgt := 24) hx hb dX7_number_13 (by decide) (fun c13 => ?_) (fun c13 => ?_)
    · refine lv_bipush (v := (-2)) hx hb dX7_number_24 (by decide) ?_
      exact ctR_ret (v := (-2)) hx hb hr rfl dX7_number_26 hlocks (by rw [numZ, if_neg (bool_nf c5), if_pos c13])
    · refine lv_aload_n hx hb dX7_number_16 rfl (lv_at hl 0 rfl) ?_
      refine lv_iload_n hx hb dX7_number_17 rfl (lv_at hl 3 rfl) ?_
      refine ctR_V (As := [.int xc]) (rest := []) (r := .int (nI (inB xc q).toNat)) ⟨hx, hb, hml, hown, hts⟩ (c_X7_isNumber l D cI cZ md q w su po xs ys zs hM xc) (cwV 1 hts gX7_number_X7_isNumber rfl rfl rfl hdV_X7_isNumber ⟨Nat.le_of_ble_eq_true rfl, Nat.le_of_ble_eq_true rfl⟩) hK hN hP [0, 1, 2, 3, 4, 5] rfl 0 7 rfl rfl rfl hl.1 rfl (Nat.le_of_ble_eq_true rfl) ⟨Nat.zero_le _, Nat.zero_le _⟩ dX7_number_18 ?_
      refine nv_ifb_ne (tgt := 27) hx hb dX7_number_21 (by decide) (fun c21 => ?_) (fun c21 => ?_)
      · have h1 := c5
        have h2 := c13
        have h3 := c21
        obtain ⟨ja, hja, rfl⟩ := inB_of (by omega) c5
        obtain ⟨jb, hjb, rfl⟩ := inB_of (by omega) c13
        obtain ⟨jc, hjc, rfl⟩ := inB_of (by omega) c21
        refine lv_iload_n hx hb dX7_number_27 rfl (lv_at hl 1 rfl) ?_
        refine nv_if_ne (tgt := 44) hx hb (by omega) dX7_number_28 (by decide) (fun c28 => ?_) (fun c28 => ?_)
        · refine lv_aload_n hx hb dX7_number_44 rfl (lv_at hl 0 rfl) ?_
          refine lv_iload_n hx hb dX7_number_45 rfl (lv_at hl 1 rfl) ?_
          refine lv_iload_n hx hb dX7_number_46 rfl (lv_at hl 2 rfl) ?_
          refine lv_iload_n hx hb dX7_number_47 rfl (lv_at hl 3 rfl) ?_
          refine ctR_V (As := [.int (nI ja), .int (nI jb), .int (nI jc)]) (rest := []) (r := .int (nI (nmb q ja jb jc))) ⟨hx, hb, hml, hown, hts⟩ (c_X7_pointOf l D cI cZ md q w su po xs ys zs hM ja jb jc (by omega) (by omega) (by omega) (by omega)) (cwV 3 hts gX7_number_X7_pointOf rfl rfl rfl hdV_X7_pointOf ⟨Nat.le_of_ble_eq_true rfl, Nat.le_of_ble_eq_true rfl⟩) hK hN hP [0, 1, 2, 3, 4, 5] rfl 0 7 rfl rfl rfl hl.1 rfl (Nat.le_of_ble_eq_true rfl) ⟨Nat.zero_le _, Nat.zero_le _⟩ dX7_number_48 ?_
          have hh_1 : nmb q ja jb jc < nn q := nmb_tab q hM.1 _ (by omega) _ (by omega) _ (by omega)
          exact ctR_ret (v := (nI (nmb q ja jb jc))) hx hb hr rfl dX7_number_51 hlocks (by rw [numZ, if_neg (bool_nf h1), if_neg (bool_nf h2), if_neg (bool_nf h3), nv_nI (by omega), nv_nI (by omega), nv_nI (by omega), nmZ, if_pos (by omega)])
        · refine lv_iload_n hx hb dX7_number_31 rfl (lv_at hl 2 rfl) ?_
          refine nv_if_ne (tgt := 44) hx hb (by omega) dX7_number_32 (by decide) (fun c32 => ?_) (fun c32 => ?_)
          · refine lv_aload_n hx hb dX7_number_44 rfl (lv_at hl 0 rfl) ?_
            refine lv_iload_n hx hb dX7_number_45 rfl (lv_at hl 1 rfl) ?_
            refine lv_iload_n hx hb dX7_number_46 rfl (lv_at hl 2 rfl) ?_
            refine lv_iload_n hx hb dX7_number_47 rfl (lv_at hl 3 rfl) ?_
            refine ctR_V (As := [.int (nI ja), .int (nI jb), .int (nI jc)]) (rest := []) (r := .int (nI (nmb q ja jb jc))) ⟨hx, hb, hml, hown, hts⟩ (c_X7_pointOf l D cI cZ md q w su po xs ys zs hM ja jb jc (by omega) (by omega) (by omega) (by omega)) (cwV 3 hts gX7_number_X7_pointOf rfl rfl rfl hdV_X7_pointOf ⟨Nat.le_of_ble_eq_true rfl, Nat.le_of_ble_eq_true rfl⟩) hK hN hP [0, 1, 2, 3, 4, 5] rfl 0 7 rfl rfl rfl hl.1 rfl (Nat.le_of_ble_eq_true rfl) ⟨Nat.zero_le _, Nat.zero_le _⟩ dX7_number_48 ?_
            have hh_2 : nmb q ja jb jc < nn q := nmb_tab q hM.1 _ (by omega) _ (by omega) _ (by omega)
            exact ctR_ret (v := (nI (nmb q ja jb jc))) hx hb hr rfl dX7_number_51 hlocks (by rw [numZ, if_neg (bool_nf h1), if_neg (bool_nf h2), if_neg (bool_nf h3), nv_nI (by omega), nv_nI (by omega), nv_nI (by omega), nmZ, if_pos (by omega)])
          · refine lv_iload_n hx hb dX7_number_35 rfl (lv_at hl 3 rfl) ?_
            refine nv_if_ne (tgt := 44) hx hb (by omega) dX7_number_36 (by decide) (fun c36 => ?_) (fun c36 => ?_)
            · refine lv_aload_n hx hb dX7_number_44 rfl (lv_at hl 0 rfl) ?_
              refine lv_iload_n hx hb dX7_number_45 rfl (lv_at hl 1 rfl) ?_
              refine lv_iload_n hx hb dX7_number_46 rfl (lv_at hl 2 rfl) ?_
              refine lv_iload_n hx hb dX7_number_47 rfl (lv_at hl 3 rfl) ?_
              refine ctR_V (As := [.int (nI ja), .int (nI jb), .int (nI jc)]) (rest := []) (r := .int (nI (nmb q ja jb jc))) ⟨hx, hb, hml, hown, hts⟩ (c_X7_pointOf l D cI cZ md q w su po xs ys zs hM ja jb jc (by omega) (by omega) (by omega) (by omega)) (cwV 3 hts gX7_number_X7_pointOf rfl rfl rfl hdV_X7_pointOf ⟨Nat.le_of_ble_eq_true rfl, Nat.le_of_ble_eq_true rfl⟩) hK hN hP [0, 1, 2, 3, 4, 5] rfl 0 7 rfl rfl rfl hl.1 rfl (Nat.le_of_ble_eq_true rfl) ⟨Nat.zero_le _, Nat.zero_le _⟩ dX7_number_48 ?_
              have hh_3 : nmb q ja jb jc < nn q := nmb_tab q hM.1 _ (by omega) _ (by omega) _ (by omega)
              exact ctR_ret (v := (nI (nmb q ja jb jc))) hx hb hr rfl dX7_number_51 hlocks (by rw [numZ, if_neg (bool_nf h1), if_neg (bool_nf h2), if_neg (bool_nf h3), nv_nI (by omega), nv_nI (by omega), nv_nI (by omega), nmZ, if_pos (by omega)])
            · refine lv_bipush (v := (-3)) hx hb dX7_number_39 (by decide) ?_
              refine lv_goto (tgt := 51) hx hb dX7_number_41 (by decide) ?_
              exact ctR_ret (v := (-3)) hx hb hr rfl dX7_number_51 hlocks (by rw [numZ, if_neg (bool_nf h1), if_neg (bool_nf h2), if_neg (bool_nf h3), nv_nI (by omega), nv_nI (by omega), nv_nI (by omega), nmZ, if_neg (by omega)])
      · refine lv_bipush (v := (-2)) hx hb dX7_number_24 (by decide) ?_
        exact ctR_ret (v := (-2)) hx hb hr rfl dX7_number_26 hlocks (by rw [numZ, if_neg (bool_nf c5), if_neg (bool_nf c13), if_pos c21])

set_option maxHeartbeats 4000000 in
set_option maxRecDepth 100000 in
theorem c_X7_on (l : Launch) (D : va_G) (cI cZ : ClassId) (md : Nat → Nat) (q : Nat) (w : Nat) (su : Nat → Nat) (po : Nat → Nat) (xs : Nat → Nat) (ys : Nat → Nat) (zs : Nat → Nat) (hM : MOK q su po xs ys zs) (xa : Int32) (xb : Int32) : CtR l yX7_on wsX7_on { frames := 2, cells := 0, slots := 0, locals := 44 } D (tyG cI cZ) [.ref (md 0), .int xa, .int xb] [(md 0, .inr (7, [.int (nI q), .int (nI (nn q)), .ref (md 1), .ref (md 2), .ref (md 3), .ref (md 4), .ref (md 5), .ref (md 6), .ref (md 7), .ref (md 8), .ref (md 9), .ref (md 10), .ref (md 11), .ref (md 12), .ref (md 13), .ref (md 14), .ref (md 15), .ref (md 16), .int (nI w), .ref (md 17)])), (md 1, .inl (cI, 81, .inl (nF su))), (md 2, .inl (cI, 81, .inl (nF po))), (md 3, .inl (cI, 91, .inl (nF xs))), (md 4, .inl (cI, 91, .inl (nF ys))), (md 5, .inl (cI, 91, .inl (nF zs)))] (.int (onZ q xa xb)) := by
  refine Met.ofW (cc := cX7_on) (maxL := 3) (ret := some .int) (by decide) rfl ?_
  intro p e s m args below meth c s₁ B hml hv
  obtain ⟨rfl, hP, hK, hN⟩ := hv
  have hx := B.exec
  have hb := B.bytes
  have hr := B.returns
  have hts := atoms_spec (ws := wsX7_on) B.pre
  have hown : s.vm.findClass RX7 = some m.cls := findClass_of_methodNamed B.named
  have hlocks := B.notSynchronized
  have hl := lv_entry ([.ref (md 0), .int xa, .int xb]) (n := 3) (Nat.le_of_ble_eq_true rfl)
  rw [lg_entry_eq]
  generalize (lg_sl ([.ref (md 0), .int xa, .int xb]) ++ List.replicate (3 - (lg_sl ([.ref (md 0), .int xa, .int xb])).length) Slot.unset).toArray = ls at hl ⊢
  have hl : lv_has ls 3 [(0, .ref (md 0)), (1, .int xa), (2, .int xb)] := hl
  have hq2 := qs_le hM.1
  have hn2 := nn_le hM.1
  refine lv_aload_n hx hb dX7_on_0 rfl (lv_at hl 0 rfl) ?_
  refine lv_iload_n hx hb dX7_on_1 rfl (lv_at hl 1 rfl) ?_
  refine ctR_V (As := [.int xa]) (rest := []) (r := .int (nI (inB xa (nn q)).toNat)) ⟨hx, hb, hml, hown, hts⟩ (c_X7_isPoint l D cI cZ md q w su po xs ys zs hM xa) (cwV 1 hts gX7_on_X7_isPoint rfl rfl rfl hdV_X7_isPoint ⟨Nat.le_of_ble_eq_true rfl, Nat.le_of_ble_eq_true rfl⟩) hK hN hP [0, 1, 2, 3, 4, 5] rfl 0 7 rfl rfl rfl hl.1 rfl (Nat.le_of_ble_eq_true rfl) ⟨Nat.zero_le _, Nat.zero_le _⟩ dX7_on_2 ?_
  refine nv_ifb_eq (tgt := 33) hx hb dX7_on_5 (by decide) (fun c5 => ?_) (fun c5 => ?_)
  · refine lv_bipush (v := (-2)) hx hb dX7_on_33 (by decide) ?_
    exact ctR_ret (v := (-2)) hx hb hr rfl dX7_on_35 hlocks (by rw [onZ, if_pos c5])
  · refine lv_aload_n hx hb dX7_on_8 rfl (lv_at hl 0 rfl) ?_
    refine lv_iload_n hx hb dX7_on_9 rfl (lv_at hl 2 rfl) ?_
    refine ctR_V (As := [.int xb]) (rest := []) (r := .int (nI (inB xb (nn q)).toNat)) ⟨hx, hb, hml, hown, hts⟩ (c_X7_isPoint l D cI cZ md q w su po xs ys zs hM xb) (cwV 1 hts gX7_on_X7_isPoint rfl rfl rfl hdV_X7_isPoint ⟨Nat.le_of_ble_eq_true rfl, Nat.le_of_ble_eq_true rfl⟩) hK hN hP [0, 1, 2, 3, 4, 5] rfl 0 7 rfl rfl rfl hl.1 rfl (Nat.le_of_ble_eq_true rfl) ⟨Nat.zero_le _, Nat.zero_le _⟩ dX7_on_10 ?_
    refine nv_ifb_eq (tgt := 33) hx hb dX7_on_13 (by decide) (fun c13 => ?_) (fun c13 => ?_)
    · refine lv_bipush (v := (-2)) hx hb dX7_on_33 (by decide) ?_
      exact ctR_ret (v := (-2)) hx hb hr rfl dX7_on_35 hlocks (by rw [onZ, if_neg (bool_nf c5), if_pos c13])
    · have h1 := c5
      have h2 := c13
      obtain ⟨ja, hja, rfl⟩ := inB_of (by omega) c5
      obtain ⟨jb, hjb, rfl⟩ := inB_of (by omega) c13
      refine lv_aload_n hx hb dX7_on_16 rfl (lv_at hl 0 rfl) ?_
      refine lv_iload_n hx hb dX7_on_17 rfl (lv_at hl 1 rfl) ?_
      refine lv_iload_n hx hb dX7_on_18 rfl (lv_at hl 2 rfl) ?_
      refine ctR_V (As := [.int (nI ja), .int (nI jb)]) (rest := []) (r := .int (nI (onq q ja jb).toNat)) ⟨hx, hb, hml, hown, hts⟩ (c_X7_isOn l D cI cZ md q w su po xs ys zs hM ja jb (by omega) (by omega)) (cwV 2 hts gX7_on_X7_isOn rfl rfl rfl hdV_X7_isOn ⟨Nat.le_of_ble_eq_true rfl, Nat.le_of_ble_eq_true rfl⟩) hK hN hP [0, 1, 2, 3, 4, 5] rfl 0 7 rfl rfl rfl hl.1 rfl (Nat.le_of_ble_eq_true rfl) ⟨Nat.zero_le _, Nat.zero_le _⟩ dX7_on_19 ?_
      refine nv_ifb_eq (tgt := 29) hx hb dX7_on_22 (by decide) (fun c22 => ?_) (fun c22 => ?_)
      · refine lv_iconst (v := nI 0) hx hb dX7_on_29 (by decide) ?_
        refine lv_goto (tgt := 35) hx hb dX7_on_30 (by decide) ?_
        exact ctR_ret (v := (nI 0)) hx hb hr rfl dX7_on_35 hlocks (by rw [onZ, if_neg (bool_nf h1), if_neg (bool_nf h2), nv_nI (by omega), nv_nI (by omega), c22]; rfl)
      · refine lv_iconst (v := nI 1) hx hb dX7_on_25 (by decide) ?_
        refine lv_goto (tgt := 35) hx hb dX7_on_26 (by decide) ?_
        exact ctR_ret (v := (nI 1)) hx hb hr rfl dX7_on_35 hlocks (by rw [onZ, if_neg (bool_nf h1), if_neg (bool_nf h2), nv_nI (by omega), nv_nI (by omega), c22]; rfl)

set_option maxHeartbeats 4000000 in
set_option maxRecDepth 100000 in
theorem c_X7_join (l : Launch) (D : va_G) (cI cZ : ClassId) (md : Nat → Nat) (q : Nat) (w : Nat) (su : Nat → Nat) (po : Nat → Nat) (xs : Nat → Nat) (ys : Nat → Nat) (zs : Nat → Nat) (hM : MOK q su po xs ys zs) (xa : Int32) (xb : Int32) : CtR l yX7_join wsX7_join { frames := 3, cells := 0, slots := 0, locals := 67 } D (tyG cI cZ) [.ref (md 0), .int xa, .int xb] [(md 0, .inr (7, [.int (nI q), .int (nI (nn q)), .ref (md 1), .ref (md 2), .ref (md 3), .ref (md 4), .ref (md 5), .ref (md 6), .ref (md 7), .ref (md 8), .ref (md 9), .ref (md 10), .ref (md 11), .ref (md 12), .ref (md 13), .ref (md 14), .ref (md 15), .ref (md 16), .int (nI w), .ref (md 17)])), (md 1, .inl (cI, 81, .inl (nF su))), (md 2, .inl (cI, 81, .inl (nF po))), (md 3, .inl (cI, 91, .inl (nF xs))), (md 4, .inl (cI, 91, .inl (nF ys))), (md 5, .inl (cI, 91, .inl (nF zs)))] (.int (joiZ q xa xb)) := by
  refine Met.ofW (cc := cX7_join) (maxL := 3) (ret := some .int) (by decide) rfl ?_
  intro p e s m args below meth c s₁ B hml hv
  obtain ⟨rfl, hP, hK, hN⟩ := hv
  have hx := B.exec
  have hb := B.bytes
  have hr := B.returns
  have hts := atoms_spec (ws := wsX7_join) B.pre
  have hown : s.vm.findClass RX7 = some m.cls := findClass_of_methodNamed B.named
  have hlocks := B.notSynchronized
  have hl := lv_entry ([.ref (md 0), .int xa, .int xb]) (n := 3) (Nat.le_of_ble_eq_true rfl)
  rw [lg_entry_eq]
  generalize (lg_sl ([.ref (md 0), .int xa, .int xb]) ++ List.replicate (3 - (lg_sl ([.ref (md 0), .int xa, .int xb])).length) Slot.unset).toArray = ls at hl ⊢
  have hl : lv_has ls 3 [(0, .ref (md 0)), (1, .int xa), (2, .int xb)] := hl
  have hq2 := qs_le hM.1
  have hn2 := nn_le hM.1
  refine lv_aload_n hx hb dX7_join_0 rfl (lv_at hl 0 rfl) ?_
  refine lv_iload_n hx hb dX7_join_1 rfl (lv_at hl 1 rfl) ?_
  refine ctR_V (As := [.int xa]) (rest := []) (r := .int (nI (inB xa (nn q)).toNat)) ⟨hx, hb, hml, hown, hts⟩ (c_X7_isPoint l D cI cZ md q w su po xs ys zs hM xa) (cwV 1 hts gX7_join_X7_isPoint rfl rfl rfl hdV_X7_isPoint ⟨Nat.le_of_ble_eq_true rfl, Nat.le_of_ble_eq_true rfl⟩) hK hN hP [0, 1, 2, 3, 4, 5] rfl 0 7 rfl rfl rfl hl.1 rfl (Nat.le_of_ble_eq_true rfl) ⟨Nat.zero_le _, Nat.zero_le _⟩ dX7_join_2 ?_
  refine nv_ifb_eq (tgt := 30) hx hb dX7_join_5 (by decide) (fun c5 => ?_) (fun c5 => ?_)
  · refine lv_bipush (v := (-2)) hx hb dX7_join_30 (by decide) ?_
    exact ctR_ret (v := (-2)) hx hb hr rfl dX7_join_32 hlocks (by rw [joiZ, if_pos c5])
  · refine lv_aload_n hx hb dX7_join_8 rfl (lv_at hl 0 rfl) ?_
    refine lv_iload_n hx hb dX7_join_9 rfl (lv_at hl 2 rfl) ?_
    refine ctR_V (As := [.int xb]) (rest := []) (r := .int (nI (inB xb (nn q)).toNat)) ⟨hx, hb, hml, hown, hts⟩ (c_X7_isPoint l D cI cZ md q w su po xs ys zs hM xb) (cwV 1 hts gX7_join_X7_isPoint rfl rfl rfl hdV_X7_isPoint ⟨Nat.le_of_ble_eq_true rfl, Nat.le_of_ble_eq_true rfl⟩) hK hN hP [0, 1, 2, 3, 4, 5] rfl 0 7 rfl rfl rfl hl.1 rfl (Nat.le_of_ble_eq_true rfl) ⟨Nat.zero_le _, Nat.zero_le _⟩ dX7_join_10 ?_
    refine nv_ifb_eq (tgt := 30) hx hb dX7_join_13 (by decide) (fun c13 => ?_) (fun c13 => ?_)
    · refine lv_bipush (v := (-2)) hx hb dX7_join_30 (by decide) ?_
      exact ctR_ret (v := (-2)) hx hb hr rfl dX7_join_32 hlocks (by rw [joiZ, if_neg (bool_nf c5), if_pos c13])
    · refine lv_iload_n hx hb dX7_join_16 rfl (lv_at hl 1 rfl) ?_
      refine lv_iload_n hx hb dX7_join_17 rfl (lv_at hl 2 rfl) ?_
      refine lv_icmp_eq (tgt := 30) hx hb dX7_join_18 (by decide) (fun c18 => ?_) (fun c18 => ?_)
      · refine lv_bipush (v := (-2)) hx hb dX7_join_30 (by decide) ?_
        exact ctR_ret (v := (-2)) hx hb hr rfl dX7_join_32 hlocks (by rw [joiZ, if_neg (bool_nf c5), if_neg (bool_nf c13), if_pos c18])
      · have h1 := c5
        have h2 := c13
        obtain ⟨ja, hja, rfl⟩ := inB_of (by omega) c5
        obtain ⟨jb, hjb, rfl⟩ := inB_of (by omega) c13
        have hne : ¬ ja = jb := fun z => c18 (by rw [z])
        refine lv_aload_n hx hb dX7_join_21 rfl (lv_at hl 0 rfl) ?_
        refine lv_iload_n hx hb dX7_join_22 rfl (lv_at hl 1 rfl) ?_
        refine lv_iload_n hx hb dX7_join_23 rfl (lv_at hl 2 rfl) ?_
        refine ctR_V (As := [.int (nI ja), .int (nI jb)]) (rest := []) (r := .int (nI (joinq q ja jb))) ⟨hx, hb, hml, hown, hts⟩ (c_X7_joinOf l D cI cZ md q w su po xs ys zs hM ja jb (by omega) (by omega) hne) (cwV 2 hts gX7_join_X7_joinOf rfl rfl rfl hdV_X7_joinOf ⟨Nat.le_of_ble_eq_true rfl, Nat.le_of_ble_eq_true rfl⟩) hK hN hP [0, 1, 2, 3, 4, 5] rfl 0 7 rfl rfl rfl hl.1 rfl (Nat.le_of_ble_eq_true rfl) ⟨Nat.zero_le _, Nat.zero_le _⟩ dX7_join_24 ?_
        have hh_1 : joinq q ja jb < nn q := (join_ok hM.1 (by omega) (by omega) (by omega)).1
        refine lv_goto (tgt := 32) hx hb dX7_join_27 (by decide) ?_
        exact ctR_ret (v := (nI (joinq q ja jb))) hx hb hr rfl dX7_join_32 hlocks (by rw [joiZ, if_neg (bool_nf h1), if_neg (bool_nf h2), if_neg c18, nv_nI (by omega), nv_nI (by omega)])

set_option maxHeartbeats 4000000 in
set_option maxRecDepth 100000 in
theorem c_X7_row (l : Launch) (D : va_G) (cI cZ : ClassId) (md : Nat → Nat) (q : Nat) (w : Nat) (su : Nat → Nat) (po : Nat → Nat) (xs : Nat → Nat) (ys : Nat → Nat) (zs : Nat → Nat) (hM : MOK q su po xs ys zs) (x : Int32) (k : Int32) : CtR l yX7_row wsX7_row { frames := 2, cells := 0, slots := 0, locals := 44 } D (tyG cI cZ) [.ref (md 0), .int x, .int k] [(md 0, .inr (7, [.int (nI q), .int (nI (nn q)), .ref (md 1), .ref (md 2), .ref (md 3), .ref (md 4), .ref (md 5), .ref (md 6), .ref (md 7), .ref (md 8), .ref (md 9), .ref (md 10), .ref (md 11), .ref (md 12), .ref (md 13), .ref (md 14), .ref (md 15), .ref (md 16), .int (nI w), .ref (md 17)])), (md 1, .inl (cI, 81, .inl (nF su))), (md 2, .inl (cI, 81, .inl (nF po))), (md 3, .inl (cI, 91, .inl (nF xs))), (md 4, .inl (cI, 91, .inl (nF ys))), (md 5, .inl (cI, 91, .inl (nF zs)))] (.int (rowZ q x k)) := by
  refine Met.ofW (cc := cX7_row) (maxL := 6) (ret := some .int) (by decide) rfl ?_
  intro p e s m args below meth c s₁ B hml hv
  obtain ⟨rfl, hP, hK, hN⟩ := hv
  have hx := B.exec
  have hb := B.bytes
  have hr := B.returns
  have hts := atoms_spec (ws := wsX7_row) B.pre
  have hown : s.vm.findClass RX7 = some m.cls := findClass_of_methodNamed B.named
  have hlocks := B.notSynchronized
  have hf83 := hts (.fieldLink RX7 83 "FinitePlanesModel" "n" "I") (by decide +kernel)
  have hiX7 : ∀ w ∈ u_ws RX7 TX7 20, w ∈ wsX7_row := by decide +kernel
  have hl := lv_entry ([.ref (md 0), .int x, .int k]) (n := 6) (Nat.le_of_ble_eq_true rfl)
  rw [lg_entry_eq]
  generalize (lg_sl ([.ref (md 0), .int x, .int k]) ++ List.replicate (6 - (lg_sl ([.ref (md 0), .int x, .int k])).length) Slot.unset).toArray = ls at hl ⊢
  have hl : lv_has ls 6 [(0, .ref (md 0)), (1, .int x), (2, .int k)] := hl
  have hq2 := qs_le hM.1
  have hn2 := nn_le hM.1
  refine lv_aload_n hx hb dX7_row_0 rfl (lv_at hl 0 rfl) ?_
  refine lv_iload_n hx hb dX7_row_1 rfl (lv_at hl 1 rfl) ?_
  refine ctR_V (As := [.int x]) (rest := []) (r := .int (nI (inB x (nn q)).toNat)) ⟨hx, hb, hml, hown, hts⟩ (c_X7_isPoint l D cI cZ md q w su po xs ys zs hM x) (cwV 1 hts gX7_row_X7_isPoint rfl rfl rfl hdV_X7_isPoint ⟨Nat.le_of_ble_eq_true rfl, Nat.le_of_ble_eq_true rfl⟩) hK hN hP [0, 1, 2, 3, 4, 5] rfl 0 7 rfl rfl rfl hl.1 rfl (Nat.le_of_ble_eq_true rfl) ⟨Nat.zero_le _, Nat.zero_le _⟩ dX7_row_2 ?_
  refine nv_ifb_ne (tgt := 11) hx hb dX7_row_5 (by decide) (fun c5 => ?_) (fun c5 => ?_)
  · have h1 := c5
    obtain ⟨j, hj, rfl⟩ := inB_of (by omega) c5
    refine lv_iconst (v := nI 0) hx hb dX7_row_11 (by decide) ?_
    refine lv_istore_n (lv' := [(3, .int (nI 0)), (0, .ref (md 0)), (1, .int (nI j)), (2, .int k)]) hx hb dX7_row_12 rfl hl (by decide) rfl (fun ls hl => ?_)
    refine lv_iconst (v := (-1)) hx hb dX7_row_13 (by decide) ?_
    refine lv_istore (lv' := [(4, .int (-1)), (3, .int (nI 0)), (0, .ref (md 0)), (1, .int (nI j)), (2, .int k)]) hx hb dX7_row_14 hl (by decide) rfl (fun ls hl => ?_)
    refine lv_iconst (v := nI 0) hx hb dX7_row_16 (by decide) ?_
    refine lv_istore (lv' := [(5, .int (nI 0)), (4, .int (-1)), (3, .int (nI 0)), (0, .ref (md 0)), (1, .int (nI j)), (2, .int k)]) hx hb dX7_row_17 hl (by decide) rfl (fun ls hl => ?_)
    have L19 : ∀ (N19 : Nat) (i : Nat) (x1 : Nat) (y : Int32) (ls : Array Slot), nn q - i < N19 → (i ≤ nn q) → (x1 = cnt (fun t => onq q t j) i) → (y = pickZ (fun t => onq q t j) i k) → lv_has ls 6 [(0, .ref (md 0)), (1, .int (nI j)), (2, .int k), (3, .int (nI x1)), (4, .int y), (5, .int (nI i))] → WR p l e wsX7_row { frames := 2, cells := 0, slots := 0, locals := 44 } s m [.ref (md 0), .int (nI j), .int k] below meth c (.int (rowZ q (nI j) k)) 19 ls [] := by
      intro N19
      induction N19 with
      | zero => intro i x1 y ls hN; exact absurd hN (Nat.not_lt_zero _)
      | succ N19 ih19 =>
        intro i x1 y ls hN19 k_i k_x k_y hl
        have hc := cnt_le (fun t => onq q t j) i
        refine lv_iload hx hb dX7_row_19 (lv_at hl 5 rfl) ?_
        refine lv_aload_n hx hb dX7_row_21 rfl (lv_at hl 0 rfl) ?_
        refine va_get (D := D) (ci := 7) (v := .int (nI (nn q))) (C := RX7) (T := TX7) (N := 20) hx hb hts hiX7 hown hK hP 0 rfl rfl 1 (by decide) hf83 (fun _ h9 => h9) rfl dX7_row_22 ?_
        refine nv_icmp_ge (tgt := 61) hx hb (by omega) (by omega) dX7_row_25 (by decide) (fun c25 => ?_) (fun c25 => ?_)
        · refine lv_iload hx hb dX7_row_61 (lv_at hl 4 rfl) ?_
          exact ctR_ret (v := y) hx hb hr rfl dX7_row_63 hlocks (by rw [rowZ, if_neg (bool_nf h1), nv_nI (by omega), ← onq_row hM.1 hj, k_y, show i = nn q by omega])
        · refine lv_aload_n hx hb dX7_row_28 rfl (lv_at hl 0 rfl) ?_
          refine lv_iload hx hb dX7_row_29 (lv_at hl 5 rfl) ?_
          refine lv_iload_n hx hb dX7_row_31 rfl (lv_at hl 1 rfl) ?_
          refine ctR_V (As := [.int (nI i), .int (nI j)]) (rest := []) (r := .int (nI (onq q i j).toNat)) ⟨hx, hb, hml, hown, hts⟩ (c_X7_isOn l D cI cZ md q w su po xs ys zs hM i j (by omega) (by omega)) (cwV 2 hts gX7_row_X7_isOn rfl rfl rfl hdV_X7_isOn ⟨Nat.le_of_ble_eq_true rfl, Nat.le_of_ble_eq_true rfl⟩) hK hN hP [0, 1, 2, 3, 4, 5] rfl 0 7 rfl rfl rfl hl.1 rfl (Nat.le_of_ble_eq_true rfl) ⟨Nat.zero_le _, Nat.zero_le _⟩ dX7_row_32 ?_
          refine nv_ifb_eq (tgt := 55) hx hb dX7_row_35 (by decide) (fun c35 => ?_) (fun c35 => ?_)
          · refine lv_iinc (v := nI (i + 1)) (lv' := [(5, .int (nI (i + 1))), (0, .ref (md 0)), (1, .int (nI j)), (2, .int k), (3, .int (nI x1)), (4, .int y)]) hx hb dX7_row_55 hl (k := 5) rfl (nI_inc i) (by decide) rfl (fun ls hl => ?_)
            refine lv_goto (tgt := 19) hx hb dX7_row_58 (by decide) ?_
            exact ih19 (i + 1) x1 y ls (by omega) (by omega) (by rw [cnt, c35, k_x]; rfl) (by rw [pickZ, if_neg (fun z => by rw [c35] at z; cases z.1), k_y]) (lv_sub hl [1, 2, 3, 4, 5, 0] rfl)
          · refine lv_iload_n hx hb dX7_row_38 rfl (lv_at hl 3 rfl) ?_
            refine lv_iload_n hx hb dX7_row_39 rfl (lv_at hl 2 rfl) ?_
            refine lv_icmp_ne (tgt := 48) hx hb dX7_row_40 (by decide) (fun c40 => ?_) (fun c40 => ?_)
            · refine lv_iload hx hb dX7_row_48 (lv_at hl 4 rfl) ?_
              refine lv_istore (lv' := [(4, .int y), (0, .ref (md 0)), (1, .int (nI j)), (2, .int k), (3, .int (nI x1)), (5, .int (nI i))]) hx hb dX7_row_50 hl (by decide) rfl (fun ls hl => ?_)
              refine lv_iinc (v := nI (x1 + 1)) (lv' := [(3, .int (nI (x1 + 1))), (4, .int y), (0, .ref (md 0)), (1, .int (nI j)), (2, .int k), (5, .int (nI i))]) hx hb dX7_row_52 hl (k := 4) rfl (nI_inc x1) (by decide) rfl (fun ls hl => ?_)
              refine lv_iinc (v := nI (i + 1)) (lv' := [(5, .int (nI (i + 1))), (3, .int (nI (x1 + 1))), (4, .int y), (0, .ref (md 0)), (1, .int (nI j)), (2, .int k)]) hx hb dX7_row_55 hl (k := 5) rfl (nI_inc i) (by decide) rfl (fun ls hl => ?_)
              refine lv_goto (tgt := 19) hx hb dX7_row_58 (by decide) ?_
              exact ih19 (i + 1) (x1 + 1) y ls (by omega) (by omega) (by rw [cnt, c35, k_x]; rfl) (by rw [pickZ, if_neg (fun z => c40 (by rw [k_x]; exact z.2)), k_y]) (lv_sub hl [3, 4, 5, 1, 2, 0] rfl)
            · refine lv_iload hx hb dX7_row_43 (lv_at hl 5 rfl) ?_
              refine lv_goto (tgt := 50) hx hb dX7_row_45 (by decide) ?_
              refine lv_istore (lv' := [(4, .int (nI i)), (0, .ref (md 0)), (1, .int (nI j)), (2, .int k), (3, .int (nI x1)), (5, .int (nI i))]) hx hb dX7_row_50 hl (by decide) rfl (fun ls hl => ?_)
              refine lv_iinc (v := nI (x1 + 1)) (lv' := [(3, .int (nI (x1 + 1))), (4, .int (nI i)), (0, .ref (md 0)), (1, .int (nI j)), (2, .int k), (5, .int (nI i))]) hx hb dX7_row_52 hl (k := 4) rfl (nI_inc x1) (by decide) rfl (fun ls hl => ?_)
              refine lv_iinc (v := nI (i + 1)) (lv' := [(5, .int (nI (i + 1))), (3, .int (nI (x1 + 1))), (4, .int (nI i)), (0, .ref (md 0)), (1, .int (nI j)), (2, .int k)]) hx hb dX7_row_55 hl (k := 5) rfl (nI_inc i) (by decide) rfl (fun ls hl => ?_)
              refine lv_goto (tgt := 19) hx hb dX7_row_58 (by decide) ?_
              exact ih19 (i + 1) (x1 + 1) (nI i) ls (by omega) (by omega) (by rw [cnt, c35, k_x]; rfl) (by rw [pickZ, if_pos ⟨c35, by rw [← k_x]; exact c40⟩]) (lv_sub hl [3, 4, 5, 1, 2, 0] rfl)
    exact L19 (nn q - 0 + 1) 0 0 (-1) ls (by omega) (Nat.zero_le _) rfl rfl (lv_sub hl [3, 4, 5, 2, 1, 0] rfl)
  · refine lv_bipush (v := (-2)) hx hb dX7_row_8 (by decide) ?_
    exact ctR_ret (v := (-2)) hx hb hr rfl dX7_row_10 hlocks (by rw [rowZ, if_pos c5])

set_option maxHeartbeats 4000000 in
set_option maxRecDepth 100000 in
theorem c_X7_put (l : Launch) (D : va_G) (cI cZ : ClassId) (md : Nat → Nat) (q : Nat) (w : Nat) (su : Nat → Nat) (po : Nat → Nat) (xs : Nat → Nat) (ys : Nat → Nat) (zs : Nat → Nat) (hM : MOK q su po xs ys zs) (S : Nat → Bool) (x : Int32) (b : Bool) : CtW (S := (Nat → Bool)) l yX7_put wsX7_put { frames := 2, cells := 0, slots := 0, locals := 43 } D (tyG cI cZ) [.ref (md 0), .int x, .int (nI (b).toNat)] [(md 0, .inr (7, [.int (nI q), .int (nI (nn q)), .ref (md 1), .ref (md 2), .ref (md 3), .ref (md 4), .ref (md 5), .ref (md 6), .ref (md 7), .ref (md 8), .ref (md 9), .ref (md 10), .ref (md 11), .ref (md 12), .ref (md 13), .ref (md 14), .ref (md 15), .ref (md 16), .int (nI w), .ref (md 17)])), (md 1, .inl (cI, 81, .inl (nF su))), (md 2, .inl (cI, 81, .inl (nF po))), (md 3, .inl (cI, 91, .inl (nF xs))), (md 4, .inl (cI, 91, .inl (nF ys))), (md 5, .inl (cI, 91, .inl (nF zs))), (md 6, .inl (cZ, 91, .inl (bF S)))] (fun (S3 : Nat → Bool) => S3 = putS q S x b) (fun (S3 : Nat → Bool) => some (.int (putZ q S x))) (fun (S3 : Nat → Bool) => [(md 0, .inr (7, [.int (nI q), .int (nI (nn q)), .ref (md 1), .ref (md 2), .ref (md 3), .ref (md 4), .ref (md 5), .ref (md 6), .ref (md 7), .ref (md 8), .ref (md 9), .ref (md 10), .ref (md 11), .ref (md 12), .ref (md 13), .ref (md 14), .ref (md 15), .ref (md 16), .int (nI w), .ref (md 17)])), (md 1, .inl (cI, 81, .inl (nF su))), (md 2, .inl (cI, 81, .inl (nF po))), (md 3, .inl (cI, 91, .inl (nF xs))), (md 4, .inl (cI, 91, .inl (nF ys))), (md 5, .inl (cI, 91, .inl (nF zs))), (md 6, .inl (cZ, 91, .inl (bF S3)))]) := by
  intro sz; refine Met.ofW (cc := cX7_put) (maxL := 4) (ret := some .int) (by decide) rfl ?_
  intro p e s m args below meth c s₁ B hml hv
  obtain ⟨rfl, hsz, hP, hK, hD0, hN⟩ := hv
  have hx := B.exec
  have hb := B.bytes
  have hr := B.returns
  have hts := atoms_spec (ws := wsX7_put) B.pre
  have hown : s.vm.findClass RX7 = some m.cls := findClass_of_methodNamed B.named
  have hlocks := B.notSynchronized
  subst hsz
  have hD := hD0.self (sz := s.heap.size)
  generalize hAe : va_A [(md 0, .inr (7, [.int (nI q), .int (nI (nn q)), .ref (md 1), .ref (md 2), .ref (md 3), .ref (md 4), .ref (md 5), .ref (md 6), .ref (md 7), .ref (md 8), .ref (md 9), .ref (md 10), .ref (md 11), .ref (md 12), .ref (md 13), .ref (md 14), .ref (md 15), .ref (md 16), .int (nI w), .ref (md 17)])), (md 1, .inl (cI, 81, .inl (nF su))), (md 2, .inl (cI, 81, .inl (nF po))), (md 3, .inl (cI, 91, .inl (nF xs))), (md 4, .inl (cI, 91, .inl (nF ys))), (md 5, .inl (cI, 91, .inl (nF zs))), (md 6, .inl (cZ, 91, .inl (bF S)))] s.heap.size = A at hD ⊢
  have hA : ∀ q : Nat, s.heap.size ≤ q → A q := fun q h => by rw [← hAe]; exact Or.inr h
  have hS : va_S A s.heap s.heap [] := va_S.rf
  have hP : va_P D vwCl [(md 0, .inr (7, [.int (nI q), .int (nI (nn q)), .ref (md 1), .ref (md 2), .ref (md 3), .ref (md 4), .ref (md 5), .ref (md 6), .ref (md 7), .ref (md 8), .ref (md 9), .ref (md 10), .ref (md 11), .ref (md 12), .ref (md 13), .ref (md 14), .ref (md 15), .ref (md 16), .int (nI w), .ref (md 17)])), (md 1, .inl (cI, 81, .inl (nF su))), (md 2, .inl (cI, 81, .inl (nF po))), (md 3, .inl (cI, 91, .inl (nF xs))), (md 4, .inl (cI, 91, .inl (nF ys))), (md 5, .inl (cI, 91, .inl (nF zs))), (md 6, .inl (cZ, 91, .inl (bF S)))] s.heap := hP
  have hf25 := hts (.fieldLink RX7 25 "FinitePlanesModel" "isIn" "[Z") (by decide +kernel)
  have hiX7 : ∀ w ∈ u_ws RX7 TX7 20, w ∈ wsX7_put := by decide +kernel
  have hl := lv_entry ([.ref (md 0), .int x, .int (nI (b).toNat)]) (n := 4) (Nat.le_of_ble_eq_true rfl)
  rw [lg_entry_eq]
  generalize (lg_sl ([.ref (md 0), .int x, .int (nI (b).toNat)]) ++ List.replicate (4 - (lg_sl ([.ref (md 0), .int x, .int (nI (b).toNat)])).length) Slot.unset).toArray = ls at hl ⊢
  have hl : lv_has ls 4 [(0, .ref (md 0)), (1, .int x), (2, .int (nI (b).toNat))] := hl
  have hq2 := qs_le hM.1
  have hn2 := nn_le hM.1
  refine lv_aload_n hx hb dX7_put_0 rfl (lv_at hl 0 rfl) ?_
  refine lv_iload_n hx hb dX7_put_1 rfl (lv_at hl 1 rfl) ?_
  refine ctR_V (As := [.int x]) (rest := []) (r := .int (nI (inB x (nn q)).toNat)) ⟨hx, hb, hml, hown, hts⟩ (c_X7_isPoint l D cI cZ md q w su po xs ys zs hM x) (cwV 1 hts gX7_put_X7_isPoint rfl rfl rfl hdV_X7_isPoint ⟨Nat.le_of_ble_eq_true rfl, Nat.le_of_ble_eq_true rfl⟩) hK hN hP [0, 1, 2, 3, 4, 5] rfl 0 7 rfl rfl rfl hl.1 rfl (Nat.le_of_ble_eq_true rfl) ⟨Nat.zero_le _, Nat.zero_le _⟩ dX7_put_2 ?_
  refine nv_ifb_ne (tgt := 11) hx hb dX7_put_5 (by decide) (fun c5 => ?_) (fun c5 => ?_)
  · have h1 := c5
    obtain ⟨i, hi, rfl⟩ := inB_of (by omega) c5
    refine lv_aload_n hx hb dX7_put_11 rfl (lv_at hl 0 rfl) ?_
    refine va_get (D := D) (ci := 7) (v := .ref (md 6)) (C := RX7) (T := TX7) (N := 20) hx hb hts hiX7 hown hK hP 0 rfl rfl 7 (by decide) hf25 (fun _ h9 => h9) rfl dX7_put_12 ?_
    refine lv_iload_n hx hb dX7_put_15 rfl (lv_at hl 1 rfl) ?_
    refine nv_zald hx hb hK hP 6 1 rfl rfl (by omega) (by decide) dX7_put_16 ?_
    refine nv_ifb_eq (tgt := 24) hx hb dX7_put_17 (by decide) (fun c17 => ?_) (fun c17 => ?_)
    · refine lv_iconst (v := nI 0) hx hb dX7_put_24 (by decide) ?_
      refine lv_istore_n (lv' := [(3, .int (nI 0)), (0, .ref (md 0)), (1, .int (nI i)), (2, .int (nI (b).toNat))]) hx hb dX7_put_25 rfl hl (by decide) rfl (fun ls hl => ?_)
      refine lv_aload_n hx hb dX7_put_26 rfl (lv_at hl 1 rfl) ?_
      refine va_get (D := D) (ci := 7) (v := .ref (md 6)) (C := RX7) (T := TX7) (N := 20) hx hb hts hiX7 hown hK hP 0 rfl rfl 7 (by decide) hf25 (fun _ h9 => h9) rfl dX7_put_27 ?_
      refine lv_iload_n hx hb dX7_put_30 rfl (lv_at hl 2 rfl) ?_
      refine lv_iload_n hx hb dX7_put_31 rfl (lv_at hl 3 rfl) ?_
      refine nv_zast hx hb hK hP hD hS 6 1 rfl rfl b (by omega) (by decide) dX7_put_32 (fun H locs hP hD hS => ?_)
      have hP : va_P D vwCl [(md 0, .inr (7, [.int (nI q), .int (nI (nn q)), .ref (md 1), .ref (md 2), .ref (md 3), .ref (md 4), .ref (md 5), .ref (md 6), .ref (md 7), .ref (md 8), .ref (md 9), .ref (md 10), .ref (md 11), .ref (md 12), .ref (md 13), .ref (md 14), .ref (md 15), .ref (md 16), .int (nI w), .ref (md 17)])), (md 1, .inl (cI, 81, .inl (nF su))), (md 2, .inl (cI, 81, .inl (nF po))), (md 3, .inl (cI, 91, .inl (nF xs))), (md 4, .inl (cI, 91, .inl (nF ys))), (md 5, .inl (cI, 91, .inl (nF zs))), (md 6, .inl (cZ, 91, .inl (bF (upB S i b))))] H := hP
      have hD : va_D A [(md 0, .inr (7, [.int (nI q), .int (nI (nn q)), .ref (md 1), .ref (md 2), .ref (md 3), .ref (md 4), .ref (md 5), .ref (md 6), .ref (md 7), .ref (md 8), .ref (md 9), .ref (md 10), .ref (md 11), .ref (md 12), .ref (md 13), .ref (md 14), .ref (md 15), .ref (md 16), .int (nI w), .ref (md 17)])), (md 1, .inl (cI, 81, .inl (nF su))), (md 2, .inl (cI, 81, .inl (nF po))), (md 3, .inl (cI, 91, .inl (nF xs))), (md 4, .inl (cI, 91, .inl (nF ys))), (md 5, .inl (cI, 91, .inl (nF zs))), (md 6, .inl (cZ, 91, .inl (bF (upB S i b))))] := hD
      refine lv_iload_n hx hb dX7_put_33 rfl (lv_at hl 0 rfl) ?_
      exact ctW_retI (v := (nI 0)) (upB S i b) hx hb hr rfl dX7_put_34 hlocks hS hP hD (by rw [putS, if_neg (bool_nf h1), nv_nI (by omega)]) (by rw [putZ, if_neg (bool_nf h1), nv_nI (by omega), c17]; rfl)
    · refine lv_iconst (v := nI 1) hx hb dX7_put_20 (by decide) ?_
      refine lv_goto (tgt := 25) hx hb dX7_put_21 (by decide) ?_
      refine lv_istore_n (lv' := [(3, .int (nI 1)), (0, .ref (md 0)), (1, .int (nI i)), (2, .int (nI (b).toNat))]) hx hb dX7_put_25 rfl hl (by decide) rfl (fun ls hl => ?_)
      refine lv_aload_n hx hb dX7_put_26 rfl (lv_at hl 1 rfl) ?_
      refine va_get (D := D) (ci := 7) (v := .ref (md 6)) (C := RX7) (T := TX7) (N := 20) hx hb hts hiX7 hown hK hP 0 rfl rfl 7 (by decide) hf25 (fun _ h9 => h9) rfl dX7_put_27 ?_
      refine lv_iload_n hx hb dX7_put_30 rfl (lv_at hl 2 rfl) ?_
      refine lv_iload_n hx hb dX7_put_31 rfl (lv_at hl 3 rfl) ?_
      refine nv_zast hx hb hK hP hD hS 6 1 rfl rfl b (by omega) (by decide) dX7_put_32 (fun H locs hP hD hS => ?_)
      have hP : va_P D vwCl [(md 0, .inr (7, [.int (nI q), .int (nI (nn q)), .ref (md 1), .ref (md 2), .ref (md 3), .ref (md 4), .ref (md 5), .ref (md 6), .ref (md 7), .ref (md 8), .ref (md 9), .ref (md 10), .ref (md 11), .ref (md 12), .ref (md 13), .ref (md 14), .ref (md 15), .ref (md 16), .int (nI w), .ref (md 17)])), (md 1, .inl (cI, 81, .inl (nF su))), (md 2, .inl (cI, 81, .inl (nF po))), (md 3, .inl (cI, 91, .inl (nF xs))), (md 4, .inl (cI, 91, .inl (nF ys))), (md 5, .inl (cI, 91, .inl (nF zs))), (md 6, .inl (cZ, 91, .inl (bF (upB S i b))))] H := hP
      have hD : va_D A [(md 0, .inr (7, [.int (nI q), .int (nI (nn q)), .ref (md 1), .ref (md 2), .ref (md 3), .ref (md 4), .ref (md 5), .ref (md 6), .ref (md 7), .ref (md 8), .ref (md 9), .ref (md 10), .ref (md 11), .ref (md 12), .ref (md 13), .ref (md 14), .ref (md 15), .ref (md 16), .int (nI w), .ref (md 17)])), (md 1, .inl (cI, 81, .inl (nF su))), (md 2, .inl (cI, 81, .inl (nF po))), (md 3, .inl (cI, 91, .inl (nF xs))), (md 4, .inl (cI, 91, .inl (nF ys))), (md 5, .inl (cI, 91, .inl (nF zs))), (md 6, .inl (cZ, 91, .inl (bF (upB S i b))))] := hD
      refine lv_iload_n hx hb dX7_put_33 rfl (lv_at hl 0 rfl) ?_
      exact ctW_retI (v := (nI 1)) (upB S i b) hx hb hr rfl dX7_put_34 hlocks hS hP hD (by rw [putS, if_neg (bool_nf h1), nv_nI (by omega)]) (by rw [putZ, if_neg (bool_nf h1), nv_nI (by omega), c17]; rfl)
  · refine lv_bipush (v := (-2)) hx hb dX7_put_8 (by decide) ?_
    exact ctW_retI (v := (-2)) S hx hb hr rfl dX7_put_10 hlocks hS hP hD (by rw [putS, if_pos c5]) (by rw [putZ, if_pos c5])

set_option maxHeartbeats 4000000 in
set_option maxRecDepth 100000 in
theorem c_X7_member (l : Launch) (D : va_G) (cI cZ : ClassId) (md : Nat → Nat) (q : Nat) (w : Nat) (su : Nat → Nat) (po : Nat → Nat) (xs : Nat → Nat) (ys : Nat → Nat) (zs : Nat → Nat) (hM : MOK q su po xs ys zs) (S : Nat → Bool) (k : Int32) : CtR l yX7_member wsX7_member { frames := 1, cells := 0, slots := 0, locals := 25 } D (tyG cI cZ) [.ref (md 0), .int k] [(md 0, .inr (7, [.int (nI q), .int (nI (nn q)), .ref (md 1), .ref (md 2), .ref (md 3), .ref (md 4), .ref (md 5), .ref (md 6), .ref (md 7), .ref (md 8), .ref (md 9), .ref (md 10), .ref (md 11), .ref (md 12), .ref (md 13), .ref (md 14), .ref (md 15), .ref (md 16), .int (nI w), .ref (md 17)])), (md 1, .inl (cI, 81, .inl (nF su))), (md 2, .inl (cI, 81, .inl (nF po))), (md 3, .inl (cI, 91, .inl (nF xs))), (md 4, .inl (cI, 91, .inl (nF ys))), (md 5, .inl (cI, 91, .inl (nF zs))), (md 6, .inl (cZ, 91, .inl (bF S)))] (.int (pickZ S (nn q) k)) := by
  refine Met.ofW (cc := cX7_member) (maxL := 2) (ret := some .int) (by decide) rfl ?_
  intro p e s m args below meth c s₁ B hml hv
  obtain ⟨rfl, hP, hK, hN⟩ := hv
  have hx := B.exec
  have hb := B.bytes
  have hr := B.returns
  have hts := atoms_spec (ws := wsX7_member) B.pre
  have hown : s.vm.findClass RX7 = some m.cls := findClass_of_methodNamed B.named
  have hlocks := B.notSynchronized
  have hf25 := hts (.fieldLink RX7 25 "FinitePlanesModel" "isIn" "[Z") (by decide +kernel)
  have hiX7 : ∀ w ∈ u_ws RX7 TX7 20, w ∈ wsX7_member := by decide +kernel
  have hl := lv_entry ([.ref (md 0), .int k]) (n := 2) (Nat.le_of_ble_eq_true rfl)
  rw [lg_entry_eq]
  generalize (lg_sl ([.ref (md 0), .int k]) ++ List.replicate (2 - (lg_sl ([.ref (md 0), .int k])).length) Slot.unset).toArray = ls at hl ⊢
  have hl : lv_has ls 2 [(0, .ref (md 0)), (1, .int k)] := hl
  have hq2 := qs_le hM.1
  have hn2 := nn_le hM.1
  refine lv_aload_n hx hb dX7_member_0 rfl (lv_at hl 0 rfl) ?_
  refine lv_aload_n hx hb dX7_member_1 rfl (lv_at hl 0 rfl) ?_
  refine va_get (D := D) (ci := 7) (v := .ref (md 6)) (C := RX7) (T := TX7) (N := 20) hx hb hts hiX7 hown hK hP 0 rfl rfl 7 (by decide) hf25 (fun _ h9 => h9) rfl dX7_member_2 ?_
  refine lv_iload_n hx hb dX7_member_5 rfl (lv_at hl 1 rfl) ?_
  refine ctR_V (As := [.ref (md 6), .int k]) (rest := []) (r := .int (pickZ S (nn q) k)) ⟨hx, hb, hml, hown, hts⟩ (c_X7_memberOf l D cI cZ md q w su po xs ys zs hM (md 6) S k) (cwV 2 hts gX7_member_X7_memberOf rfl rfl rfl hdV_X7_memberOf ⟨Nat.le_of_ble_eq_true rfl, Nat.le_of_ble_eq_true rfl⟩) hK hN hP [0, 1, 2, 3, 4, 5, 6] rfl 0 7 rfl rfl rfl hl.1 rfl (Nat.le_of_ble_eq_true rfl) ⟨Nat.zero_le _, Nat.zero_le _⟩ dX7_member_6 ?_
  exact ctR_ret (v := (pickZ S (nn q) k)) hx hb hr rfl dX7_member_9 hlocks rfl

set_option maxHeartbeats 4000000 in
set_option maxRecDepth 100000 in
theorem c_X7_meets (l : Launch) (D : va_G) (cI cZ : ClassId) (md : Nat → Nat) (q : Nat) (w : Nat) (su : Nat → Nat) (po : Nat → Nat) (xs : Nat → Nat) (ys : Nat → Nat) (zs : Nat → Nat) (hM : MOK q su po xs ys zs) (S : Nat → Bool) (k : Int32) : CtR l yX7_meets wsX7_meets { frames := 3, cells := 0, slots := 0, locals := 68 } D (tyG cI cZ) [.ref (md 0), .int k] [(md 0, .inr (7, [.int (nI q), .int (nI (nn q)), .ref (md 1), .ref (md 2), .ref (md 3), .ref (md 4), .ref (md 5), .ref (md 6), .ref (md 7), .ref (md 8), .ref (md 9), .ref (md 10), .ref (md 11), .ref (md 12), .ref (md 13), .ref (md 14), .ref (md 15), .ref (md 16), .int (nI w), .ref (md 17)])), (md 1, .inl (cI, 81, .inl (nF su))), (md 2, .inl (cI, 81, .inl (nF po))), (md 3, .inl (cI, 91, .inl (nF xs))), (md 4, .inl (cI, 91, .inl (nF ys))), (md 5, .inl (cI, 91, .inl (nF zs))), (md 6, .inl (cZ, 91, .inl (bF S)))] (.int (nI (linq q S k))) := by
  refine Met.ofW (cc := cX7_meets) (maxL := 4) (ret := some .int) (by decide) rfl ?_
  intro p e s m args below meth c s₁ B hml hv
  obtain ⟨rfl, hP, hK, hN⟩ := hv
  have hx := B.exec
  have hb := B.bytes
  have hr := B.returns
  have hts := atoms_spec (ws := wsX7_meets) B.pre
  have hown : s.vm.findClass RX7 = some m.cls := findClass_of_methodNamed B.named
  have hlocks := B.notSynchronized
  have hf25 := hts (.fieldLink RX7 25 "FinitePlanesModel" "isIn" "[Z") (by decide +kernel)
  have hf83 := hts (.fieldLink RX7 83 "FinitePlanesModel" "n" "I") (by decide +kernel)
  have hiX7 : ∀ w ∈ u_ws RX7 TX7 20, w ∈ wsX7_meets := by decide +kernel
  have hl := lv_entry ([.ref (md 0), .int k]) (n := 4) (Nat.le_of_ble_eq_true rfl)
  rw [lg_entry_eq]
  generalize (lg_sl ([.ref (md 0), .int k]) ++ List.replicate (4 - (lg_sl ([.ref (md 0), .int k])).length) Slot.unset).toArray = ls at hl ⊢
  have hl : lv_has ls 4 [(0, .ref (md 0)), (1, .int k)] := hl
  have hq2 := qs_le hM.1
  have hn2 := nn_le hM.1
  refine lv_iconst (v := nI 0) hx hb dX7_meets_0 (by decide) ?_
  refine lv_istore_n (lv' := [(2, .int (nI 0)), (0, .ref (md 0)), (1, .int k)]) hx hb dX7_meets_1 rfl hl (by decide) rfl (fun ls hl => ?_)
  refine lv_iconst (v := nI 0) hx hb dX7_meets_2 (by decide) ?_
  refine lv_istore_n (lv' := [(3, .int (nI 0)), (2, .int (nI 0)), (0, .ref (md 0)), (1, .int k)]) hx hb dX7_meets_3 rfl hl (by decide) rfl (fun ls hl => ?_)
  have L4 : ∀ (N4 : Nat) (i : Nat) (x : Nat) (ls : Array Slot), nn q - i < N4 → (i ≤ nn q) → (x = cnt (fun t => decide (nI (metq q S t) = k)) i) → lv_has ls 4 [(0, .ref (md 0)), (1, .int k), (2, .int (nI x)), (3, .int (nI i))] → WR p l e wsX7_meets { frames := 3, cells := 0, slots := 0, locals := 68 } s m [.ref (md 0), .int k] below meth c (.int (nI (linq q S k))) 4 ls [] := by
    intro N4
    induction N4 with
    | zero => intro i x ls hN; exact absurd hN (Nat.not_lt_zero _)
    | succ N4 ih4 =>
      intro i x ls hN4 k_i k_x hl
      have hc := cnt_le (fun t => decide (nI (metq q S t) = k)) i
      refine lv_iload_n hx hb dX7_meets_4 rfl (lv_at hl 3 rfl) ?_
      refine lv_aload_n hx hb dX7_meets_5 rfl (lv_at hl 0 rfl) ?_
      refine va_get (D := D) (ci := 7) (v := .int (nI (nn q))) (C := RX7) (T := TX7) (N := 20) hx hb hts hiX7 hown hK hP 0 rfl rfl 1 (by decide) hf83 (fun _ h9 => h9) rfl dX7_meets_6 ?_
      refine nv_icmp_ge (tgt := 39) hx hb (by omega) (by omega) dX7_meets_9 (by decide) (fun c9 => ?_) (fun c9 => ?_)
      · refine lv_iload_n hx hb dX7_meets_39 rfl (lv_at hl 2 rfl) ?_
        exact ctR_ret (v := (nI x)) hx hb hr rfl dX7_meets_40 hlocks (by rw [k_x, show i = nn q by omega]; rfl)
      · refine lv_aload_n hx hb dX7_meets_12 rfl (lv_at hl 0 rfl) ?_
        refine lv_aload_n hx hb dX7_meets_13 rfl (lv_at hl 0 rfl) ?_
        refine va_get (D := D) (ci := 7) (v := .ref (md 6)) (C := RX7) (T := TX7) (N := 20) hx hb hts hiX7 hown hK hP 0 rfl rfl 7 (by decide) hf25 (fun _ h9 => h9) rfl dX7_meets_14 ?_
        refine lv_iload_n hx hb dX7_meets_17 rfl (lv_at hl 3 rfl) ?_
        refine ctR_V (As := [.ref (md 6), .int (nI i)]) (rest := []) (r := .int (nI (metq q S i))) ⟨hx, hb, hml, hown, hts⟩ (c_X7_met l D cI cZ md q w su po xs ys zs hM (md 6) S i (by omega)) (cwV 2 hts gX7_meets_X7_met rfl rfl rfl hdV_X7_met ⟨Nat.le_of_ble_eq_true rfl, Nat.le_of_ble_eq_true rfl⟩) hK hN hP [0, 1, 2, 3, 4, 5, 6] rfl 0 7 rfl rfl rfl hl.1 rfl (Nat.le_of_ble_eq_true rfl) ⟨Nat.zero_le _, Nat.zero_le _⟩ dX7_meets_18 ?_
        have hh_1 : metq q S i ≤ nn q := cnt_le _ _
        refine lv_iload_n hx hb dX7_meets_21 rfl (lv_at hl 1 rfl) ?_
        refine lv_icmp_ne (tgt := 31) hx hb dX7_meets_22 (by decide) (fun c22 => ?_) (fun c22 => ?_)
        · refine lv_iload_n hx hb dX7_meets_31 rfl (lv_at hl 2 rfl) ?_
          refine lv_istore_n (lv' := [(2, .int (nI x)), (0, .ref (md 0)), (1, .int k), (3, .int (nI i))]) hx hb dX7_meets_32 rfl hl (by decide) rfl (fun ls hl => ?_)
          refine lv_iinc (v := nI (i + 1)) (lv' := [(3, .int (nI (i + 1))), (2, .int (nI x)), (0, .ref (md 0)), (1, .int k)]) hx hb dX7_meets_33 hl (k := 3) rfl (nI_inc i) (by decide) rfl (fun ls hl => ?_)
          refine lv_goto (tgt := 4) hx hb dX7_meets_36 (by decide) ?_
          exact ih4 (i + 1) x ls (by omega) (by omega) (by rw [cnt, decide_eq_false c22, k_x]; rfl) (lv_sub hl [2, 3, 1, 0] rfl)
        · refine lv_iload_n hx hb dX7_meets_25 rfl (lv_at hl 2 rfl) ?_
          refine lv_iconst (v := nI 1) hx hb dX7_meets_26 (by decide) ?_
          refine nv_addE (r := x + 1) hx hb rfl dX7_meets_27 ?_
          refine lv_goto (tgt := 32) hx hb dX7_meets_28 (by decide) ?_
          refine lv_istore_n (lv' := [(2, .int (nI (x + 1))), (0, .ref (md 0)), (1, .int k), (3, .int (nI i))]) hx hb dX7_meets_32 rfl hl (by decide) rfl (fun ls hl => ?_)
          refine lv_iinc (v := nI (i + 1)) (lv' := [(3, .int (nI (i + 1))), (2, .int (nI (x + 1))), (0, .ref (md 0)), (1, .int k)]) hx hb dX7_meets_33 hl (k := 3) rfl (nI_inc i) (by decide) rfl (fun ls hl => ?_)
          refine lv_goto (tgt := 4) hx hb dX7_meets_36 (by decide) ?_
          exact ih4 (i + 1) (x + 1) ls (by omega) (by omega) (by rw [cnt, decide_eq_true c22, k_x]; rfl) (lv_sub hl [2, 3, 1, 0] rfl)
  exact L4 (nn q - 0 + 1) 0 0 ls (by omega) (Nat.zero_le _) rfl (lv_sub hl [2, 3, 1, 0] rfl)

set_option maxHeartbeats 4000000 in
set_option maxRecDepth 100000 in
theorem c_X7_rowOf (l : Launch) (D : va_G) (cI cZ : ClassId) (md : Nat → Nat) (q : Nat) (w : Nat) (su : Nat → Nat) (po : Nat → Nat) (xs : Nat → Nat) (ys : Nat → Nat) (zs : Nat → Nat) (hM : MOK q su po xs ys zs) (mp : Nat → Nat) (k_m : MPK q mp) (k : Nat) (x : Nat) (y : Nat) (z : Nat) (k_0 : k < 7) (k_1 : x < q) (k_2 : y < q) (k_3 : z < q) : CtR l yX7_rowOf wsX7_rowOf { frames := 1, cells := 0, slots := 0, locals := 22 } D (tyG cI cZ) [.ref (md 0), .int (nI k), .int (nI x), .int (nI y), .int (nI z)] [(md 0, .inr (7, [.int (nI q), .int (nI (nn q)), .ref (md 1), .ref (md 2), .ref (md 3), .ref (md 4), .ref (md 5), .ref (md 6), .ref (md 7), .ref (md 8), .ref (md 9), .ref (md 10), .ref (md 11), .ref (md 12), .ref (md 13), .ref (md 14), .ref (md 15), .ref (md 16), .int (nI w), .ref (md 17)])), (md 1, .inl (cI, 81, .inl (nF su))), (md 2, .inl (cI, 81, .inl (nF po))), (md 3, .inl (cI, 91, .inl (nF xs))), (md 4, .inl (cI, 91, .inl (nF ys))), (md 5, .inl (cI, 91, .inl (nF zs))), (md 7, .inl (cI, 9, .inl (nF mp)))] (.int (nI (fadd q (fadd q (fmul q (mp k) x) (fmul q (mp (k + 1)) y)) (fmul q (mp (k + 2)) z)))) := by
  refine Met.ofW (cc := cX7_rowOf) (maxL := 5) (ret := some .int) (by decide) rfl ?_
  intro p e s m args below meth c s₁ B hml hv
  obtain ⟨rfl, hP, hK, hN⟩ := hv
  have hx := B.exec
  have hb := B.bytes
  have hr := B.returns
  have hts := atoms_spec (ws := wsX7_rowOf) B.pre
  have hown : s.vm.findClass RX7 = some m.cls := findClass_of_methodNamed B.named
  have hlocks := B.notSynchronized
  have hf29 := hts (.fieldLink RX7 29 "FinitePlanesModel" "map" "[I") (by decide +kernel)
  have hiX7 : ∀ w ∈ u_ws RX7 TX7 20, w ∈ wsX7_rowOf := by decide +kernel
  have hl := lv_entry ([.ref (md 0), .int (nI k), .int (nI x), .int (nI y), .int (nI z)]) (n := 5) (Nat.le_of_ble_eq_true rfl)
  rw [lg_entry_eq]
  generalize (lg_sl ([.ref (md 0), .int (nI k), .int (nI x), .int (nI y), .int (nI z)]) ++ List.replicate (5 - (lg_sl ([.ref (md 0), .int (nI k), .int (nI x), .int (nI y), .int (nI z)])).length) Slot.unset).toArray = ls at hl ⊢
  have hl : lv_has ls 5 [(0, .ref (md 0)), (1, .int (nI k)), (2, .int (nI x)), (3, .int (nI y)), (4, .int (nI z))] := hl
  have hq2 := qs_le hM.1
  have hn2 := nn_le hM.1
  have v0 := k_m k (by omega)
  have v1 := k_m (k + 1) (by omega)
  have v2 := k_m (k + 2) (by omega)
  refine lv_aload_n hx hb dX7_rowOf_0 rfl (lv_at hl 0 rfl) ?_
  refine lv_aload_n hx hb dX7_rowOf_1 rfl (lv_at hl 0 rfl) ?_
  refine lv_aload_n hx hb dX7_rowOf_2 rfl (lv_at hl 0 rfl) ?_
  refine lv_aload_n hx hb dX7_rowOf_3 rfl (lv_at hl 0 rfl) ?_
  refine va_get (D := D) (ci := 7) (v := .ref (md 7)) (C := RX7) (T := TX7) (N := 20) hx hb hts hiX7 hown hK hP 0 rfl rfl 8 (by decide) hf29 (fun _ h9 => h9) rfl dX7_rowOf_4 ?_
  refine lv_iload_n hx hb dX7_rowOf_7 rfl (lv_at hl 1 rfl) ?_
  refine nv_iald hx hb hK hP 6 0 rfl rfl (by omega) (by decide) dX7_rowOf_8 ?_
  refine lv_iload_n hx hb dX7_rowOf_9 rfl (lv_at hl 2 rfl) ?_
  refine ctR_V (As := [.int (nI (mp k)), .int (nI x)]) (rest := [.ref (md 0), .ref (md 0)]) (r := .int (nI (fmul q (mp k) x))) ⟨hx, hb, hml, hown, hts⟩ (c_X7_times l D cI cZ md q w su po xs ys zs hM (mp k) x (by omega) (by omega)) (cwV 2 hts gX7_rowOf_X7_times rfl rfl rfl hdV_X7_times ⟨Nat.le_of_ble_eq_true rfl, Nat.le_of_ble_eq_true rfl⟩) hK hN hP [0, 1, 2, 3, 4, 5] rfl 0 7 rfl rfl rfl hl.1 rfl (Nat.le_of_ble_eq_true rfl) ⟨Nat.zero_le _, Nat.zero_le _⟩ dX7_rowOf_10 ?_
  have hh_1 : fmul q (mp k) x < q := fmul_lt hM.1 (by omega) (by omega)
  refine lv_aload_n hx hb dX7_rowOf_13 rfl (lv_at hl 0 rfl) ?_
  refine lv_aload_n hx hb dX7_rowOf_14 rfl (lv_at hl 0 rfl) ?_
  refine va_get (D := D) (ci := 7) (v := .ref (md 7)) (C := RX7) (T := TX7) (N := 20) hx hb hts hiX7 hown hK hP 0 rfl rfl 8 (by decide) hf29 (fun _ h9 => h9) rfl dX7_rowOf_15 ?_
  refine lv_iload_n hx hb dX7_rowOf_18 rfl (lv_at hl 1 rfl) ?_
  refine lv_iconst (v := nI 1) hx hb dX7_rowOf_19 (by decide) ?_
  refine nv_addE (r := k + 1) hx hb rfl dX7_rowOf_20 ?_
  refine nv_iald hx hb hK hP 6 0 rfl rfl (by omega) (by decide) dX7_rowOf_21 ?_
  refine lv_iload_n hx hb dX7_rowOf_22 rfl (lv_at hl 3 rfl) ?_
  refine ctR_V (As := [.int (nI (mp (k + 1))), .int (nI y)]) (rest := [.int (nI (fmul q (mp k) x)), .ref (md 0), .ref (md 0)]) (r := .int (nI (fmul q (mp (k + 1)) y))) ⟨hx, hb, hml, hown, hts⟩ (c_X7_times l D cI cZ md q w su po xs ys zs hM (mp (k + 1)) y (by omega) (by omega)) (cwV 2 hts gX7_rowOf_X7_times rfl rfl rfl hdV_X7_times ⟨Nat.le_of_ble_eq_true rfl, Nat.le_of_ble_eq_true rfl⟩) hK hN hP [0, 1, 2, 3, 4, 5] rfl 0 7 rfl rfl rfl hl.1 rfl (Nat.le_of_ble_eq_true rfl) ⟨Nat.zero_le _, Nat.zero_le _⟩ dX7_rowOf_23 ?_
  have hh_2 : fmul q (mp (k + 1)) y < q := fmul_lt hM.1 (by omega) (by omega)
  refine ctR_V (As := [.int (nI (fmul q (mp k) x)), .int (nI (fmul q (mp (k + 1)) y))]) (rest := [.ref (md 0)]) (r := .int (nI (fadd q (fmul q (mp k) x) (fmul q (mp (k + 1)) y)))) ⟨hx, hb, hml, hown, hts⟩ (c_X7_add l D cI cZ md q w su po xs ys zs hM (fmul q (mp k) x) (fmul q (mp (k + 1)) y) (by omega) (by omega)) (cwV 2 hts gX7_rowOf_X7_add rfl rfl rfl hdV_X7_add ⟨Nat.le_of_ble_eq_true rfl, Nat.le_of_ble_eq_true rfl⟩) hK hN hP [0, 1, 2, 3, 4, 5] rfl 0 7 rfl rfl rfl hl.1 rfl (Nat.le_of_ble_eq_true rfl) ⟨Nat.zero_le _, Nat.zero_le _⟩ dX7_rowOf_26 ?_
  have hh_3 : fadd q (fmul q (mp k) x) (fmul q (mp (k + 1)) y) < q := fadd_lt hM.1 (by omega) (by omega)
  refine lv_aload_n hx hb dX7_rowOf_29 rfl (lv_at hl 0 rfl) ?_
  refine lv_aload_n hx hb dX7_rowOf_30 rfl (lv_at hl 0 rfl) ?_
  refine va_get (D := D) (ci := 7) (v := .ref (md 7)) (C := RX7) (T := TX7) (N := 20) hx hb hts hiX7 hown hK hP 0 rfl rfl 8 (by decide) hf29 (fun _ h9 => h9) rfl dX7_rowOf_31 ?_
  refine lv_iload_n hx hb dX7_rowOf_34 rfl (lv_at hl 1 rfl) ?_
  refine lv_iconst (v := nI 2) hx hb dX7_rowOf_35 (by decide) ?_
  refine nv_addE (r := k + 2) hx hb rfl dX7_rowOf_36 ?_
  refine nv_iald hx hb hK hP 6 0 rfl rfl (by omega) (by decide) dX7_rowOf_37 ?_
  refine lv_iload hx hb dX7_rowOf_38 (lv_at hl 4 rfl) ?_
  refine ctR_V (As := [.int (nI (mp (k + 2))), .int (nI z)]) (rest := [.int (nI (fadd q (fmul q (mp k) x) (fmul q (mp (k + 1)) y))), .ref (md 0)]) (r := .int (nI (fmul q (mp (k + 2)) z))) ⟨hx, hb, hml, hown, hts⟩ (c_X7_times l D cI cZ md q w su po xs ys zs hM (mp (k + 2)) z (by omega) (by omega)) (cwV 2 hts gX7_rowOf_X7_times rfl rfl rfl hdV_X7_times ⟨Nat.le_of_ble_eq_true rfl, Nat.le_of_ble_eq_true rfl⟩) hK hN hP [0, 1, 2, 3, 4, 5] rfl 0 7 rfl rfl rfl hl.1 rfl (Nat.le_of_ble_eq_true rfl) ⟨Nat.zero_le _, Nat.zero_le _⟩ dX7_rowOf_40 ?_
  have hh_4 : fmul q (mp (k + 2)) z < q := fmul_lt hM.1 (by omega) (by omega)
  refine ctR_V (As := [.int (nI (fadd q (fmul q (mp k) x) (fmul q (mp (k + 1)) y))), .int (nI (fmul q (mp (k + 2)) z))]) (rest := []) (r := .int (nI (fadd q (fadd q (fmul q (mp k) x) (fmul q (mp (k + 1)) y)) (fmul q (mp (k + 2)) z)))) ⟨hx, hb, hml, hown, hts⟩ (c_X7_add l D cI cZ md q w su po xs ys zs hM (fadd q (fmul q (mp k) x) (fmul q (mp (k + 1)) y)) (fmul q (mp (k + 2)) z) (by omega) (by omega)) (cwV 2 hts gX7_rowOf_X7_add rfl rfl rfl hdV_X7_add ⟨Nat.le_of_ble_eq_true rfl, Nat.le_of_ble_eq_true rfl⟩) hK hN hP [0, 1, 2, 3, 4, 5] rfl 0 7 rfl rfl rfl hl.1 rfl (Nat.le_of_ble_eq_true rfl) ⟨Nat.zero_le _, Nat.zero_le _⟩ dX7_rowOf_43 ?_
  have hh_5 : fadd q (fadd q (fmul q (mp k) x) (fmul q (mp (k + 1)) y)) (fmul q (mp (k + 2)) z) < q := fadd_lt hM.1 (by omega) (by omega)
  exact ctR_ret (v := (nI (fadd q (fadd q (fmul q (mp k) x) (fmul q (mp (k + 1)) y)) (fmul q (mp (k + 2)) z)))) hx hb hr rfl dX7_rowOf_46 hlocks rfl

set_option maxHeartbeats 4000000 in
set_option maxRecDepth 100000 in
theorem c_X7_imageOf (l : Launch) (D : va_G) (cI cZ : ClassId) (md : Nat → Nat) (q : Nat) (w : Nat) (su : Nat → Nat) (po : Nat → Nat) (xs : Nat → Nat) (ys : Nat → Nat) (zs : Nat → Nat) (hM : MOK q su po xs ys zs) (mp : Nat → Nat) (k_m : MPK q mp) (i : Nat) (k_1 : i < nn q) : CtR l yX7_imageOf wsX7_imageOf { frames := 3, cells := 0, slots := 0, locals := 73 } D (tyG cI cZ) [.ref (md 0), .int (nI i)] [(md 0, .inr (7, [.int (nI q), .int (nI (nn q)), .ref (md 1), .ref (md 2), .ref (md 3), .ref (md 4), .ref (md 5), .ref (md 6), .ref (md 7), .ref (md 8), .ref (md 9), .ref (md 10), .ref (md 11), .ref (md 12), .ref (md 13), .ref (md 14), .ref (md 15), .ref (md 16), .int (nI w), .ref (md 17)])), (md 1, .inl (cI, 81, .inl (nF su))), (md 2, .inl (cI, 81, .inl (nF po))), (md 3, .inl (cI, 91, .inl (nF xs))), (md 4, .inl (cI, 91, .inl (nF ys))), (md 5, .inl (cI, 91, .inl (nF zs))), (md 7, .inl (cI, 9, .inl (nF mp)))] (.int (imgZ q mp i)) := by
  refine Met.ofW (cc := cX7_imageOf) (maxL := 5) (ret := some .int) (by decide) rfl ?_
  intro p e s m args below meth c s₁ B hml hv
  obtain ⟨rfl, hP, hK, hN⟩ := hv
  have hx := B.exec
  have hb := B.bytes
  have hr := B.returns
  have hts := atoms_spec (ws := wsX7_imageOf) B.pre
  have hown : s.vm.findClass RX7 = some m.cls := findClass_of_methodNamed B.named
  have hlocks := B.notSynchronized
  have hf16 := hts (.fieldLink RX7 16 "FinitePlanesModel" "xs" "[I") (by decide +kernel)
  have hf19 := hts (.fieldLink RX7 19 "FinitePlanesModel" "ys" "[I") (by decide +kernel)
  have hf22 := hts (.fieldLink RX7 22 "FinitePlanesModel" "zs" "[I") (by decide +kernel)
  have hiX7 : ∀ w ∈ u_ws RX7 TX7 20, w ∈ wsX7_imageOf := by decide +kernel
  have hl := lv_entry ([.ref (md 0), .int (nI i)]) (n := 5) (Nat.le_of_ble_eq_true rfl)
  rw [lg_entry_eq]
  generalize (lg_sl ([.ref (md 0), .int (nI i)]) ++ List.replicate (5 - (lg_sl ([.ref (md 0), .int (nI i)])).length) Slot.unset).toArray = ls at hl ⊢
  have hl : lv_has ls 5 [(0, .ref (md 0)), (1, .int (nI i))] := hl
  have hq2 := qs_le hM.1
  have hn2 := nn_le hM.1
  have p0 := pt_lt (k := 0) hM.1 k_1 (by decide)
  have p1 := pt_lt (k := 1) hM.1 k_1 (by decide)
  have p2 := pt_lt (k := 2) hM.1 k_1 (by decide)
  refine lv_aload_n hx hb dX7_imageOf_0 rfl (lv_at hl 0 rfl) ?_
  refine lv_iconst (v := nI 0) hx hb dX7_imageOf_1 (by decide) ?_
  refine lv_aload_n hx hb dX7_imageOf_2 rfl (lv_at hl 0 rfl) ?_
  refine va_get (D := D) (ci := 7) (v := .ref (md 3)) (C := RX7) (T := TX7) (N := 20) hx hb hts hiX7 hown hK hP 0 rfl rfl 4 (by decide) hf16 (fun _ h9 => h9) rfl dX7_imageOf_3 ?_
  refine lv_iload_n hx hb dX7_imageOf_6 rfl (lv_at hl 1 rfl) ?_
  refine nv_iald hx hb hK hP 3 0 rfl rfl (by omega) (by decide) dX7_imageOf_7 ?_
  refine nv_top (v' := .int (nI (pt q i 0))) (by rw [(hM.2.2.2 i (by omega)).1]) ?_
  refine lv_aload_n hx hb dX7_imageOf_8 rfl (lv_at hl 0 rfl) ?_
  refine va_get (D := D) (ci := 7) (v := .ref (md 4)) (C := RX7) (T := TX7) (N := 20) hx hb hts hiX7 hown hK hP 0 rfl rfl 5 (by decide) hf19 (fun _ h9 => h9) rfl dX7_imageOf_9 ?_
  refine lv_iload_n hx hb dX7_imageOf_12 rfl (lv_at hl 1 rfl) ?_
  refine nv_iald hx hb hK hP 4 0 rfl rfl (by omega) (by decide) dX7_imageOf_13 ?_
  refine nv_top (v' := .int (nI (pt q i 1))) (by rw [(hM.2.2.2 i (by omega)).2.1]) ?_
  refine lv_aload_n hx hb dX7_imageOf_14 rfl (lv_at hl 0 rfl) ?_
  refine va_get (D := D) (ci := 7) (v := .ref (md 5)) (C := RX7) (T := TX7) (N := 20) hx hb hts hiX7 hown hK hP 0 rfl rfl 6 (by decide) hf22 (fun _ h9 => h9) rfl dX7_imageOf_15 ?_
  refine lv_iload_n hx hb dX7_imageOf_18 rfl (lv_at hl 1 rfl) ?_
  refine nv_iald hx hb hK hP 5 0 rfl rfl (by omega) (by decide) dX7_imageOf_19 ?_
  refine nv_top (v' := .int (nI (pt q i 2))) (by rw [(hM.2.2.2 i (by omega)).2.2]) ?_
  refine ctR_V (As := [.int (nI 0), .int (nI (pt q i 0)), .int (nI (pt q i 1)), .int (nI (pt q i 2))]) (rest := []) (r := .int (nI (fadd q (fadd q (fmul q (mp 0) (pt q i 0)) (fmul q (mp (0 + 1)) (pt q i 1))) (fmul q (mp (0 + 2)) (pt q i 2))))) ⟨hx, hb, hml, hown, hts⟩ (c_X7_rowOf l D cI cZ md q w su po xs ys zs hM mp k_m 0 (pt q i 0) (pt q i 1) (pt q i 2) (by omega) (by omega) (by omega) (by omega)) (cwV 4 hts gX7_imageOf_X7_rowOf rfl rfl rfl hdV_X7_rowOf ⟨Nat.le_of_ble_eq_true rfl, Nat.le_of_ble_eq_true rfl⟩) hK hN hP [0, 1, 2, 3, 4, 5, 6] rfl 0 7 rfl rfl rfl hl.1 rfl (Nat.le_of_ble_eq_true rfl) ⟨Nat.zero_le _, Nat.zero_le _⟩ dX7_imageOf_20 ?_
  have hh_1 : fadd q (fadd q (fmul q (mp 0) (pt q i 0)) (fmul q (mp (0 + 1)) (pt q i 1))) (fmul q (mp (0 + 2)) (pt q i 2)) < q := fadd_lt hM.1 (fadd_lt hM.1 (fmul_lt hM.1 (k_m _ (by omega)) (by omega)) (fmul_lt hM.1 (k_m _ (by omega)) (by omega))) (fmul_lt hM.1 (k_m _ (by omega)) (by omega))
  refine nv_top (v' := .int (nI (mpt q mp i 0))) rfl ?_
  have hm0 := mpt_lt (i := 0) hM.1 k_m k_1 (by decide)
  refine lv_istore_n (lv' := [(2, .int (nI (mpt q mp i 0))), (0, .ref (md 0)), (1, .int (nI i))]) hx hb dX7_imageOf_23 rfl hl (by decide) rfl (fun ls hl => ?_)
  refine lv_aload_n hx hb dX7_imageOf_24 rfl (lv_at hl 1 rfl) ?_
  refine lv_iconst (v := nI 3) hx hb dX7_imageOf_25 (by decide) ?_
  refine lv_aload_n hx hb dX7_imageOf_26 rfl (lv_at hl 1 rfl) ?_
  refine va_get (D := D) (ci := 7) (v := .ref (md 3)) (C := RX7) (T := TX7) (N := 20) hx hb hts hiX7 hown hK hP 0 rfl rfl 4 (by decide) hf16 (fun _ h9 => h9) rfl dX7_imageOf_27 ?_
  refine lv_iload_n hx hb dX7_imageOf_30 rfl (lv_at hl 2 rfl) ?_
  refine nv_iald hx hb hK hP 3 0 rfl rfl (by omega) (by decide) dX7_imageOf_31 ?_
  refine nv_top (v' := .int (nI (pt q i 0))) (by rw [(hM.2.2.2 i (by omega)).1]) ?_
  refine lv_aload_n hx hb dX7_imageOf_32 rfl (lv_at hl 1 rfl) ?_
  refine va_get (D := D) (ci := 7) (v := .ref (md 4)) (C := RX7) (T := TX7) (N := 20) hx hb hts hiX7 hown hK hP 0 rfl rfl 5 (by decide) hf19 (fun _ h9 => h9) rfl dX7_imageOf_33 ?_
  refine lv_iload_n hx hb dX7_imageOf_36 rfl (lv_at hl 2 rfl) ?_
  refine nv_iald hx hb hK hP 4 0 rfl rfl (by omega) (by decide) dX7_imageOf_37 ?_
  refine nv_top (v' := .int (nI (pt q i 1))) (by rw [(hM.2.2.2 i (by omega)).2.1]) ?_
  refine lv_aload_n hx hb dX7_imageOf_38 rfl (lv_at hl 1 rfl) ?_
  refine va_get (D := D) (ci := 7) (v := .ref (md 5)) (C := RX7) (T := TX7) (N := 20) hx hb hts hiX7 hown hK hP 0 rfl rfl 6 (by decide) hf22 (fun _ h9 => h9) rfl dX7_imageOf_39 ?_
  refine lv_iload_n hx hb dX7_imageOf_42 rfl (lv_at hl 2 rfl) ?_
  refine nv_iald hx hb hK hP 5 0 rfl rfl (by omega) (by decide) dX7_imageOf_43 ?_
  refine nv_top (v' := .int (nI (pt q i 2))) (by rw [(hM.2.2.2 i (by omega)).2.2]) ?_
  refine ctR_V (As := [.int (nI 3), .int (nI (pt q i 0)), .int (nI (pt q i 1)), .int (nI (pt q i 2))]) (rest := []) (r := .int (nI (fadd q (fadd q (fmul q (mp 3) (pt q i 0)) (fmul q (mp (3 + 1)) (pt q i 1))) (fmul q (mp (3 + 2)) (pt q i 2))))) ⟨hx, hb, hml, hown, hts⟩ (c_X7_rowOf l D cI cZ md q w su po xs ys zs hM mp k_m 3 (pt q i 0) (pt q i 1) (pt q i 2) (by omega) (by omega) (by omega) (by omega)) (cwV 4 hts gX7_imageOf_X7_rowOf rfl rfl rfl hdV_X7_rowOf ⟨Nat.le_of_ble_eq_true rfl, Nat.le_of_ble_eq_true rfl⟩) hK hN hP [0, 1, 2, 3, 4, 5, 6] rfl 0 7 rfl rfl rfl hl.1 rfl (Nat.le_of_ble_eq_true rfl) ⟨Nat.zero_le _, Nat.zero_le _⟩ dX7_imageOf_44 ?_
  have hh_2 : fadd q (fadd q (fmul q (mp 3) (pt q i 0)) (fmul q (mp (3 + 1)) (pt q i 1))) (fmul q (mp (3 + 2)) (pt q i 2)) < q := fadd_lt hM.1 (fadd_lt hM.1 (fmul_lt hM.1 (k_m _ (by omega)) (by omega)) (fmul_lt hM.1 (k_m _ (by omega)) (by omega))) (fmul_lt hM.1 (k_m _ (by omega)) (by omega))
  refine nv_top (v' := .int (nI (mpt q mp i 1))) rfl ?_
  have hm1 := mpt_lt (i := 1) hM.1 k_m k_1 (by decide)
  refine lv_istore_n (lv' := [(3, .int (nI (mpt q mp i 1))), (2, .int (nI (mpt q mp i 0))), (0, .ref (md 0)), (1, .int (nI i))]) hx hb dX7_imageOf_47 rfl hl (by decide) rfl (fun ls hl => ?_)
  refine lv_aload_n hx hb dX7_imageOf_48 rfl (lv_at hl 2 rfl) ?_
  refine lv_bipush (v := nI 6) hx hb dX7_imageOf_49 (by decide) ?_
  refine lv_aload_n hx hb dX7_imageOf_51 rfl (lv_at hl 2 rfl) ?_
  refine va_get (D := D) (ci := 7) (v := .ref (md 3)) (C := RX7) (T := TX7) (N := 20) hx hb hts hiX7 hown hK hP 0 rfl rfl 4 (by decide) hf16 (fun _ h9 => h9) rfl dX7_imageOf_52 ?_
  refine lv_iload_n hx hb dX7_imageOf_55 rfl (lv_at hl 3 rfl) ?_
  refine nv_iald hx hb hK hP 3 0 rfl rfl (by omega) (by decide) dX7_imageOf_56 ?_
  refine nv_top (v' := .int (nI (pt q i 0))) (by rw [(hM.2.2.2 i (by omega)).1]) ?_
  refine lv_aload_n hx hb dX7_imageOf_57 rfl (lv_at hl 2 rfl) ?_
  refine va_get (D := D) (ci := 7) (v := .ref (md 4)) (C := RX7) (T := TX7) (N := 20) hx hb hts hiX7 hown hK hP 0 rfl rfl 5 (by decide) hf19 (fun _ h9 => h9) rfl dX7_imageOf_58 ?_
  refine lv_iload_n hx hb dX7_imageOf_61 rfl (lv_at hl 3 rfl) ?_
  refine nv_iald hx hb hK hP 4 0 rfl rfl (by omega) (by decide) dX7_imageOf_62 ?_
  refine nv_top (v' := .int (nI (pt q i 1))) (by rw [(hM.2.2.2 i (by omega)).2.1]) ?_
  refine lv_aload_n hx hb dX7_imageOf_63 rfl (lv_at hl 2 rfl) ?_
  refine va_get (D := D) (ci := 7) (v := .ref (md 5)) (C := RX7) (T := TX7) (N := 20) hx hb hts hiX7 hown hK hP 0 rfl rfl 6 (by decide) hf22 (fun _ h9 => h9) rfl dX7_imageOf_64 ?_
  refine lv_iload_n hx hb dX7_imageOf_67 rfl (lv_at hl 3 rfl) ?_
  refine nv_iald hx hb hK hP 5 0 rfl rfl (by omega) (by decide) dX7_imageOf_68 ?_
  refine nv_top (v' := .int (nI (pt q i 2))) (by rw [(hM.2.2.2 i (by omega)).2.2]) ?_
  refine ctR_V (As := [.int (nI 6), .int (nI (pt q i 0)), .int (nI (pt q i 1)), .int (nI (pt q i 2))]) (rest := []) (r := .int (nI (fadd q (fadd q (fmul q (mp 6) (pt q i 0)) (fmul q (mp (6 + 1)) (pt q i 1))) (fmul q (mp (6 + 2)) (pt q i 2))))) ⟨hx, hb, hml, hown, hts⟩ (c_X7_rowOf l D cI cZ md q w su po xs ys zs hM mp k_m 6 (pt q i 0) (pt q i 1) (pt q i 2) (by omega) (by omega) (by omega) (by omega)) (cwV 4 hts gX7_imageOf_X7_rowOf rfl rfl rfl hdV_X7_rowOf ⟨Nat.le_of_ble_eq_true rfl, Nat.le_of_ble_eq_true rfl⟩) hK hN hP [0, 1, 2, 3, 4, 5, 6] rfl 0 7 rfl rfl rfl hl.1 rfl (Nat.le_of_ble_eq_true rfl) ⟨Nat.zero_le _, Nat.zero_le _⟩ dX7_imageOf_69 ?_
  have hh_3 : fadd q (fadd q (fmul q (mp 6) (pt q i 0)) (fmul q (mp (6 + 1)) (pt q i 1))) (fmul q (mp (6 + 2)) (pt q i 2)) < q := fadd_lt hM.1 (fadd_lt hM.1 (fmul_lt hM.1 (k_m _ (by omega)) (by omega)) (fmul_lt hM.1 (k_m _ (by omega)) (by omega))) (fmul_lt hM.1 (k_m _ (by omega)) (by omega))
  refine nv_top (v' := .int (nI (mpt q mp i 2))) rfl ?_
  have hm2 := mpt_lt (i := 2) hM.1 k_m k_1 (by decide)
  refine lv_istore (lv' := [(4, .int (nI (mpt q mp i 2))), (3, .int (nI (mpt q mp i 1))), (2, .int (nI (mpt q mp i 0))), (0, .ref (md 0)), (1, .int (nI i))]) hx hb dX7_imageOf_72 hl (by decide) rfl (fun ls hl => ?_)
  refine lv_iload_n hx hb dX7_imageOf_74 rfl (lv_at hl 2 rfl) ?_
  refine nv_if_ne (tgt := 92) hx hb (by omega) dX7_imageOf_75 (by decide) (fun c75 => ?_) (fun c75 => ?_)
  · refine lv_aload_n hx hb dX7_imageOf_92 rfl (lv_at hl 3 rfl) ?_
    refine lv_iload_n hx hb dX7_imageOf_93 rfl (lv_at hl 2 rfl) ?_
    refine lv_iload_n hx hb dX7_imageOf_94 rfl (lv_at hl 1 rfl) ?_
    refine lv_iload hx hb dX7_imageOf_95 (lv_at hl 0 rfl) ?_
    refine ctR_V (As := [.int (nI (mpt q mp i 0)), .int (nI (mpt q mp i 1)), .int (nI (mpt q mp i 2))]) (rest := []) (r := .int (nI (nmb q (mpt q mp i 0) (mpt q mp i 1) (mpt q mp i 2)))) ⟨hx, hb, hml, hown, hts⟩ (c_X7_pointOf l D cI cZ md q w su po xs ys zs hM (mpt q mp i 0) (mpt q mp i 1) (mpt q mp i 2) (by omega) (by omega) (by omega) (by omega)) (cwV 3 hts gX7_imageOf_X7_pointOf rfl rfl rfl hdV_X7_pointOf ⟨Nat.le_of_ble_eq_true rfl, Nat.le_of_ble_eq_true rfl⟩) hK hN hP [0, 1, 2, 3, 4, 5] rfl 0 7 rfl rfl rfl hl.1 rfl (Nat.le_of_ble_eq_true rfl) ⟨Nat.zero_le _, Nat.zero_le _⟩ dX7_imageOf_97 ?_
    have hh_4 : nmb q (mpt q mp i 0) (mpt q mp i 1) (mpt q mp i 2) < nn q := nmb_tab q hM.1 _ (by omega) _ (by omega) _ (by omega)
    exact ctR_ret (v := (nI (nmb q (mpt q mp i 0) (mpt q mp i 1) (mpt q mp i 2)))) hx hb hr rfl dX7_imageOf_100 hlocks (by rw [imgZ, nmZ, if_pos (by omega)])
  · refine lv_iload_n hx hb dX7_imageOf_78 rfl (lv_at hl 1 rfl) ?_
    refine nv_if_ne (tgt := 92) hx hb (by omega) dX7_imageOf_79 (by decide) (fun c79 => ?_) (fun c79 => ?_)
    · refine lv_aload_n hx hb dX7_imageOf_92 rfl (lv_at hl 3 rfl) ?_
      refine lv_iload_n hx hb dX7_imageOf_93 rfl (lv_at hl 2 rfl) ?_
      refine lv_iload_n hx hb dX7_imageOf_94 rfl (lv_at hl 1 rfl) ?_
      refine lv_iload hx hb dX7_imageOf_95 (lv_at hl 0 rfl) ?_
      refine ctR_V (As := [.int (nI (mpt q mp i 0)), .int (nI (mpt q mp i 1)), .int (nI (mpt q mp i 2))]) (rest := []) (r := .int (nI (nmb q (mpt q mp i 0) (mpt q mp i 1) (mpt q mp i 2)))) ⟨hx, hb, hml, hown, hts⟩ (c_X7_pointOf l D cI cZ md q w su po xs ys zs hM (mpt q mp i 0) (mpt q mp i 1) (mpt q mp i 2) (by omega) (by omega) (by omega) (by omega)) (cwV 3 hts gX7_imageOf_X7_pointOf rfl rfl rfl hdV_X7_pointOf ⟨Nat.le_of_ble_eq_true rfl, Nat.le_of_ble_eq_true rfl⟩) hK hN hP [0, 1, 2, 3, 4, 5] rfl 0 7 rfl rfl rfl hl.1 rfl (Nat.le_of_ble_eq_true rfl) ⟨Nat.zero_le _, Nat.zero_le _⟩ dX7_imageOf_97 ?_
      have hh_5 : nmb q (mpt q mp i 0) (mpt q mp i 1) (mpt q mp i 2) < nn q := nmb_tab q hM.1 _ (by omega) _ (by omega) _ (by omega)
      exact ctR_ret (v := (nI (nmb q (mpt q mp i 0) (mpt q mp i 1) (mpt q mp i 2)))) hx hb hr rfl dX7_imageOf_100 hlocks (by rw [imgZ, nmZ, if_pos (by omega)])
    · refine lv_iload hx hb dX7_imageOf_82 (lv_at hl 0 rfl) ?_
      refine nv_if_ne (tgt := 92) hx hb (by omega) dX7_imageOf_84 (by decide) (fun c84 => ?_) (fun c84 => ?_)
      · refine lv_aload_n hx hb dX7_imageOf_92 rfl (lv_at hl 3 rfl) ?_
        refine lv_iload_n hx hb dX7_imageOf_93 rfl (lv_at hl 2 rfl) ?_
        refine lv_iload_n hx hb dX7_imageOf_94 rfl (lv_at hl 1 rfl) ?_
        refine lv_iload hx hb dX7_imageOf_95 (lv_at hl 0 rfl) ?_
        refine ctR_V (As := [.int (nI (mpt q mp i 0)), .int (nI (mpt q mp i 1)), .int (nI (mpt q mp i 2))]) (rest := []) (r := .int (nI (nmb q (mpt q mp i 0) (mpt q mp i 1) (mpt q mp i 2)))) ⟨hx, hb, hml, hown, hts⟩ (c_X7_pointOf l D cI cZ md q w su po xs ys zs hM (mpt q mp i 0) (mpt q mp i 1) (mpt q mp i 2) (by omega) (by omega) (by omega) (by omega)) (cwV 3 hts gX7_imageOf_X7_pointOf rfl rfl rfl hdV_X7_pointOf ⟨Nat.le_of_ble_eq_true rfl, Nat.le_of_ble_eq_true rfl⟩) hK hN hP [0, 1, 2, 3, 4, 5] rfl 0 7 rfl rfl rfl hl.1 rfl (Nat.le_of_ble_eq_true rfl) ⟨Nat.zero_le _, Nat.zero_le _⟩ dX7_imageOf_97 ?_
        have hh_6 : nmb q (mpt q mp i 0) (mpt q mp i 1) (mpt q mp i 2) < nn q := nmb_tab q hM.1 _ (by omega) _ (by omega) _ (by omega)
        exact ctR_ret (v := (nI (nmb q (mpt q mp i 0) (mpt q mp i 1) (mpt q mp i 2)))) hx hb hr rfl dX7_imageOf_100 hlocks (by rw [imgZ, nmZ, if_pos (by omega)])
      · refine lv_bipush (v := (-3)) hx hb dX7_imageOf_87 (by decide) ?_
        refine lv_goto (tgt := 100) hx hb dX7_imageOf_89 (by decide) ?_
        exact ctR_ret (v := (-3)) hx hb hr rfl dX7_imageOf_100 hlocks (by rw [imgZ, nmZ, if_neg (by omega)])

set_option maxHeartbeats 4000000 in
set_option maxRecDepth 100000 in
theorem c_X7_image (l : Launch) (D : va_G) (cI cZ : ClassId) (md : Nat → Nat) (q : Nat) (w : Nat) (su : Nat → Nat) (po : Nat → Nat) (xs : Nat → Nat) (ys : Nat → Nat) (zs : Nat → Nat) (hM : MOK q su po xs ys zs) (mp : Nat → Nat) (k_m : MPK q mp) (x : Int32) : CtR l yX7_image wsX7_image { frames := 4, cells := 0, slots := 0, locals := 97 } D (tyG cI cZ) [.ref (md 0), .int x] [(md 0, .inr (7, [.int (nI q), .int (nI (nn q)), .ref (md 1), .ref (md 2), .ref (md 3), .ref (md 4), .ref (md 5), .ref (md 6), .ref (md 7), .ref (md 8), .ref (md 9), .ref (md 10), .ref (md 11), .ref (md 12), .ref (md 13), .ref (md 14), .ref (md 15), .ref (md 16), .int (nI w), .ref (md 17)])), (md 1, .inl (cI, 81, .inl (nF su))), (md 2, .inl (cI, 81, .inl (nF po))), (md 3, .inl (cI, 91, .inl (nF xs))), (md 4, .inl (cI, 91, .inl (nF ys))), (md 5, .inl (cI, 91, .inl (nF zs))), (md 7, .inl (cI, 9, .inl (nF mp)))] (.int (imaZ q mp x)) := by
  refine Met.ofW (cc := cX7_image) (maxL := 2) (ret := some .int) (by decide) rfl ?_
  intro p e s m args below meth c s₁ B hml hv
  obtain ⟨rfl, hP, hK, hN⟩ := hv
  have hx := B.exec
  have hb := B.bytes
  have hr := B.returns
  have hts := atoms_spec (ws := wsX7_image) B.pre
  have hown : s.vm.findClass RX7 = some m.cls := findClass_of_methodNamed B.named
  have hlocks := B.notSynchronized
  have hl := lv_entry ([.ref (md 0), .int x]) (n := 2) (Nat.le_of_ble_eq_true rfl)
  rw [lg_entry_eq]
  generalize (lg_sl ([.ref (md 0), .int x]) ++ List.replicate (2 - (lg_sl ([.ref (md 0), .int x])).length) Slot.unset).toArray = ls at hl ⊢
  have hl : lv_has ls 2 [(0, .ref (md 0)), (1, .int x)] := hl
  have hq2 := qs_le hM.1
  have hn2 := nn_le hM.1
  refine lv_aload_n hx hb dX7_image_0 rfl (lv_at hl 0 rfl) ?_
  refine lv_iload_n hx hb dX7_image_1 rfl (lv_at hl 1 rfl) ?_
  refine ctR_V (As := [.int x]) (rest := []) (r := .int (nI (inB x (nn q)).toNat)) ⟨hx, hb, hml, hown, hts⟩ (c_X7_isPoint l D cI cZ md q w su po xs ys zs hM x) (cwV 1 hts gX7_image_X7_isPoint rfl rfl rfl hdV_X7_isPoint ⟨Nat.le_of_ble_eq_true rfl, Nat.le_of_ble_eq_true rfl⟩) hK hN hP [0, 1, 2, 3, 4, 5] rfl 0 7 rfl rfl rfl hl.1 rfl (Nat.le_of_ble_eq_true rfl) ⟨Nat.zero_le _, Nat.zero_le _⟩ dX7_image_2 ?_
  refine nv_ifb_eq (tgt := 16) hx hb dX7_image_5 (by decide) (fun c5 => ?_) (fun c5 => ?_)
  · refine lv_bipush (v := (-2)) hx hb dX7_image_16 (by decide) ?_
    exact ctR_ret (v := (-2)) hx hb hr rfl dX7_image_18 hlocks (by rw [imaZ, if_pos c5])
  · have h1 := c5
    obtain ⟨i, hi, rfl⟩ := inB_of (by omega) c5
    refine lv_aload_n hx hb dX7_image_8 rfl (lv_at hl 0 rfl) ?_
    refine lv_iload_n hx hb dX7_image_9 rfl (lv_at hl 1 rfl) ?_
    refine ctR_V (As := [.int (nI i)]) (rest := []) (r := .int (imgZ q mp i)) ⟨hx, hb, hml, hown, hts⟩ (c_X7_imageOf l D cI cZ md q w su po xs ys zs hM mp k_m i (by omega)) (cwV 1 hts gX7_image_X7_imageOf rfl rfl rfl hdV_X7_imageOf ⟨Nat.le_of_ble_eq_true rfl, Nat.le_of_ble_eq_true rfl⟩) hK hN hP [0, 1, 2, 3, 4, 5, 6] rfl 0 7 rfl rfl rfl hl.1 rfl (Nat.le_of_ble_eq_true rfl) ⟨Nat.zero_le _, Nat.zero_le _⟩ dX7_image_10 ?_
    refine lv_goto (tgt := 18) hx hb dX7_image_13 (by decide) ?_
    exact ctR_ret (v := (imgZ q mp i)) hx hb hr rfl dX7_image_18 hlocks (by rw [imaZ, if_neg (bool_nf h1), nv_nI (by omega)])

set_option maxHeartbeats 4000000 in
set_option maxRecDepth 100000 in
theorem c_X7_determinant (l : Launch) (D : va_G) (cI cZ : ClassId) (md : Nat → Nat) (q : Nat) (w : Nat) (su : Nat → Nat) (po : Nat → Nat) (xs : Nat → Nat) (ys : Nat → Nat) (zs : Nat → Nat) (hM : MOK q su po xs ys zs) (mp : Nat → Nat) (k_m : MPK q mp) : CtR l yX7_determinant wsX7_determinant { frames := 3, cells := 0, slots := 0, locals := 69 } D (tyG cI cZ) [.ref (md 0)] [(md 0, .inr (7, [.int (nI q), .int (nI (nn q)), .ref (md 1), .ref (md 2), .ref (md 3), .ref (md 4), .ref (md 5), .ref (md 6), .ref (md 7), .ref (md 8), .ref (md 9), .ref (md 10), .ref (md 11), .ref (md 12), .ref (md 13), .ref (md 14), .ref (md 15), .ref (md 16), .int (nI w), .ref (md 17)])), (md 1, .inl (cI, 81, .inl (nF su))), (md 2, .inl (cI, 81, .inl (nF po))), (md 3, .inl (cI, 91, .inl (nF xs))), (md 4, .inl (cI, 91, .inl (nF ys))), (md 5, .inl (cI, 91, .inl (nF zs))), (md 7, .inl (cI, 9, .inl (nF mp)))] (.int (nI (detq q mp))) := by
  refine Met.ofW (cc := cX7_determinant) (maxL := 4) (ret := some .int) (by decide) rfl ?_
  intro p e s m args below meth c s₁ B hml hv
  obtain ⟨rfl, hP, hK, hN⟩ := hv
  have hx := B.exec
  have hb := B.bytes
  have hr := B.returns
  have hts := atoms_spec (ws := wsX7_determinant) B.pre
  have hown : s.vm.findClass RX7 = some m.cls := findClass_of_methodNamed B.named
  have hlocks := B.notSynchronized
  have hf29 := hts (.fieldLink RX7 29 "FinitePlanesModel" "map" "[I") (by decide +kernel)
  have hiX7 : ∀ w ∈ u_ws RX7 TX7 20, w ∈ wsX7_determinant := by decide +kernel
  have hl := lv_entry ([.ref (md 0)]) (n := 4) (Nat.le_of_ble_eq_true rfl)
  rw [lg_entry_eq]
  generalize (lg_sl ([.ref (md 0)]) ++ List.replicate (4 - (lg_sl ([.ref (md 0)])).length) Slot.unset).toArray = ls at hl ⊢
  have hl : lv_has ls 4 [(0, .ref (md 0))] := hl
  have hq2 := qs_le hM.1
  have hn2 := nn_le hM.1
  have w0 := k_m 0 (by omega)
  have w1 := k_m 1 (by omega)
  have w2 := k_m 2 (by omega)
  have w3 := k_m 3 (by omega)
  have w4 := k_m 4 (by omega)
  have w5 := k_m 5 (by omega)
  have w6 := k_m 6 (by omega)
  have w7 := k_m 7 (by omega)
  have w8 := k_m 8 (by omega)
  refine lv_aload_n hx hb dX7_determinant_0 rfl (lv_at hl 0 rfl) ?_
  refine lv_aload_n hx hb dX7_determinant_1 rfl (lv_at hl 0 rfl) ?_
  refine va_get (D := D) (ci := 7) (v := .ref (md 7)) (C := RX7) (T := TX7) (N := 20) hx hb hts hiX7 hown hK hP 0 rfl rfl 8 (by decide) hf29 (fun _ h9 => h9) rfl dX7_determinant_2 ?_
  refine lv_iconst (v := nI 0) hx hb dX7_determinant_5 (by decide) ?_
  refine nv_iald hx hb hK hP 6 0 rfl rfl (by omega) (by decide) dX7_determinant_6 ?_
  refine lv_aload_n hx hb dX7_determinant_7 rfl (lv_at hl 0 rfl) ?_
  refine lv_aload_n hx hb dX7_determinant_8 rfl (lv_at hl 0 rfl) ?_
  refine va_get (D := D) (ci := 7) (v := .ref (md 7)) (C := RX7) (T := TX7) (N := 20) hx hb hts hiX7 hown hK hP 0 rfl rfl 8 (by decide) hf29 (fun _ h9 => h9) rfl dX7_determinant_9 ?_
  refine lv_iconst (v := nI 4) hx hb dX7_determinant_12 (by decide) ?_
  refine nv_iald hx hb hK hP 6 0 rfl rfl (by omega) (by decide) dX7_determinant_13 ?_
  refine lv_aload_n hx hb dX7_determinant_14 rfl (lv_at hl 0 rfl) ?_
  refine va_get (D := D) (ci := 7) (v := .ref (md 7)) (C := RX7) (T := TX7) (N := 20) hx hb hts hiX7 hown hK hP 0 rfl rfl 8 (by decide) hf29 (fun _ h9 => h9) rfl dX7_determinant_15 ?_
  refine lv_iconst (v := nI 5) hx hb dX7_determinant_18 (by decide) ?_
  refine nv_iald hx hb hK hP 6 0 rfl rfl (by omega) (by decide) dX7_determinant_19 ?_
  refine lv_aload_n hx hb dX7_determinant_20 rfl (lv_at hl 0 rfl) ?_
  refine va_get (D := D) (ci := 7) (v := .ref (md 7)) (C := RX7) (T := TX7) (N := 20) hx hb hts hiX7 hown hK hP 0 rfl rfl 8 (by decide) hf29 (fun _ h9 => h9) rfl dX7_determinant_21 ?_
  refine lv_bipush (v := nI 7) hx hb dX7_determinant_24 (by decide) ?_
  refine nv_iald hx hb hK hP 6 0 rfl rfl (by omega) (by decide) dX7_determinant_26 ?_
  refine lv_aload_n hx hb dX7_determinant_27 rfl (lv_at hl 0 rfl) ?_
  refine va_get (D := D) (ci := 7) (v := .ref (md 7)) (C := RX7) (T := TX7) (N := 20) hx hb hts hiX7 hown hK hP 0 rfl rfl 8 (by decide) hf29 (fun _ h9 => h9) rfl dX7_determinant_28 ?_
  refine lv_bipush (v := nI 8) hx hb dX7_determinant_31 (by decide) ?_
  refine nv_iald hx hb hK hP 6 0 rfl rfl (by omega) (by decide) dX7_determinant_33 ?_
  refine ctR_V (As := [.int (nI (mp 4)), .int (nI (mp 5)), .int (nI (mp 7)), .int (nI (mp 8))]) (rest := [.int (nI (mp 0)), .ref (md 0)]) (r := .int (nI (fcw q (mp 4) (mp 5) (mp 7) (mp 8)))) ⟨hx, hb, hml, hown, hts⟩ (c_X7_minor l D cI cZ md q w su po xs ys zs hM (mp 4) (mp 5) (mp 7) (mp 8) (by omega) (by omega) (by omega) (by omega)) (cwV 4 hts gX7_determinant_X7_minor rfl rfl rfl hdV_X7_minor ⟨Nat.le_of_ble_eq_true rfl, Nat.le_of_ble_eq_true rfl⟩) hK hN hP [0, 1, 2, 3, 4, 5] rfl 0 7 rfl rfl rfl hl.1 rfl (Nat.le_of_ble_eq_true rfl) ⟨Nat.zero_le _, Nat.zero_le _⟩ dX7_determinant_34 ?_
  have hh_1 : fcw q (mp 4) (mp 5) (mp 7) (mp 8) < q := fcw_lt hM.1 (by omega) (by omega) (by omega) (by omega)
  refine ctR_V (As := [.int (nI (mp 0)), .int (nI (fcw q (mp 4) (mp 5) (mp 7) (mp 8)))]) (rest := []) (r := .int (nI (fmul q (mp 0) (fcw q (mp 4) (mp 5) (mp 7) (mp 8))))) ⟨hx, hb, hml, hown, hts⟩ (c_X7_times l D cI cZ md q w su po xs ys zs hM (mp 0) (fcw q (mp 4) (mp 5) (mp 7) (mp 8)) (by omega) (by omega)) (cwV 2 hts gX7_determinant_X7_times rfl rfl rfl hdV_X7_times ⟨Nat.le_of_ble_eq_true rfl, Nat.le_of_ble_eq_true rfl⟩) hK hN hP [0, 1, 2, 3, 4, 5] rfl 0 7 rfl rfl rfl hl.1 rfl (Nat.le_of_ble_eq_true rfl) ⟨Nat.zero_le _, Nat.zero_le _⟩ dX7_determinant_37 ?_
  have hh_2 : fmul q (mp 0) (fcw q (mp 4) (mp 5) (mp 7) (mp 8)) < q := fmul_lt hM.1 (by omega) (by omega)
  refine lv_istore_n (lv' := [(1, .int (nI (fmul q (mp 0) (fcw q (mp 4) (mp 5) (mp 7) (mp 8))))), (0, .ref (md 0))]) hx hb dX7_determinant_40 rfl hl (by decide) rfl (fun ls hl => ?_)
  refine lv_aload_n hx hb dX7_determinant_41 rfl (lv_at hl 1 rfl) ?_
  refine lv_aload_n hx hb dX7_determinant_42 rfl (lv_at hl 1 rfl) ?_
  refine va_get (D := D) (ci := 7) (v := .ref (md 7)) (C := RX7) (T := TX7) (N := 20) hx hb hts hiX7 hown hK hP 0 rfl rfl 8 (by decide) hf29 (fun _ h9 => h9) rfl dX7_determinant_43 ?_
  refine lv_iconst (v := nI 1) hx hb dX7_determinant_46 (by decide) ?_
  refine nv_iald hx hb hK hP 6 0 rfl rfl (by omega) (by decide) dX7_determinant_47 ?_
  refine lv_aload_n hx hb dX7_determinant_48 rfl (lv_at hl 1 rfl) ?_
  refine lv_aload_n hx hb dX7_determinant_49 rfl (lv_at hl 1 rfl) ?_
  refine va_get (D := D) (ci := 7) (v := .ref (md 7)) (C := RX7) (T := TX7) (N := 20) hx hb hts hiX7 hown hK hP 0 rfl rfl 8 (by decide) hf29 (fun _ h9 => h9) rfl dX7_determinant_50 ?_
  refine lv_iconst (v := nI 3) hx hb dX7_determinant_53 (by decide) ?_
  refine nv_iald hx hb hK hP 6 0 rfl rfl (by omega) (by decide) dX7_determinant_54 ?_
  refine lv_aload_n hx hb dX7_determinant_55 rfl (lv_at hl 1 rfl) ?_
  refine va_get (D := D) (ci := 7) (v := .ref (md 7)) (C := RX7) (T := TX7) (N := 20) hx hb hts hiX7 hown hK hP 0 rfl rfl 8 (by decide) hf29 (fun _ h9 => h9) rfl dX7_determinant_56 ?_
  refine lv_iconst (v := nI 5) hx hb dX7_determinant_59 (by decide) ?_
  refine nv_iald hx hb hK hP 6 0 rfl rfl (by omega) (by decide) dX7_determinant_60 ?_
  refine lv_aload_n hx hb dX7_determinant_61 rfl (lv_at hl 1 rfl) ?_
  refine va_get (D := D) (ci := 7) (v := .ref (md 7)) (C := RX7) (T := TX7) (N := 20) hx hb hts hiX7 hown hK hP 0 rfl rfl 8 (by decide) hf29 (fun _ h9 => h9) rfl dX7_determinant_62 ?_
  refine lv_bipush (v := nI 6) hx hb dX7_determinant_65 (by decide) ?_
  refine nv_iald hx hb hK hP 6 0 rfl rfl (by omega) (by decide) dX7_determinant_67 ?_
  refine lv_aload_n hx hb dX7_determinant_68 rfl (lv_at hl 1 rfl) ?_
  refine va_get (D := D) (ci := 7) (v := .ref (md 7)) (C := RX7) (T := TX7) (N := 20) hx hb hts hiX7 hown hK hP 0 rfl rfl 8 (by decide) hf29 (fun _ h9 => h9) rfl dX7_determinant_69 ?_
  refine lv_bipush (v := nI 8) hx hb dX7_determinant_72 (by decide) ?_
  refine nv_iald hx hb hK hP 6 0 rfl rfl (by omega) (by decide) dX7_determinant_74 ?_
  refine ctR_V (As := [.int (nI (mp 3)), .int (nI (mp 5)), .int (nI (mp 6)), .int (nI (mp 8))]) (rest := [.int (nI (mp 1)), .ref (md 0)]) (r := .int (nI (fcw q (mp 3) (mp 5) (mp 6) (mp 8)))) ⟨hx, hb, hml, hown, hts⟩ (c_X7_minor l D cI cZ md q w su po xs ys zs hM (mp 3) (mp 5) (mp 6) (mp 8) (by omega) (by omega) (by omega) (by omega)) (cwV 4 hts gX7_determinant_X7_minor rfl rfl rfl hdV_X7_minor ⟨Nat.le_of_ble_eq_true rfl, Nat.le_of_ble_eq_true rfl⟩) hK hN hP [0, 1, 2, 3, 4, 5] rfl 0 7 rfl rfl rfl hl.1 rfl (Nat.le_of_ble_eq_true rfl) ⟨Nat.zero_le _, Nat.zero_le _⟩ dX7_determinant_75 ?_
  have hh_3 : fcw q (mp 3) (mp 5) (mp 6) (mp 8) < q := fcw_lt hM.1 (by omega) (by omega) (by omega) (by omega)
  refine ctR_V (As := [.int (nI (mp 1)), .int (nI (fcw q (mp 3) (mp 5) (mp 6) (mp 8)))]) (rest := []) (r := .int (nI (fmul q (mp 1) (fcw q (mp 3) (mp 5) (mp 6) (mp 8))))) ⟨hx, hb, hml, hown, hts⟩ (c_X7_times l D cI cZ md q w su po xs ys zs hM (mp 1) (fcw q (mp 3) (mp 5) (mp 6) (mp 8)) (by omega) (by omega)) (cwV 2 hts gX7_determinant_X7_times rfl rfl rfl hdV_X7_times ⟨Nat.le_of_ble_eq_true rfl, Nat.le_of_ble_eq_true rfl⟩) hK hN hP [0, 1, 2, 3, 4, 5] rfl 0 7 rfl rfl rfl hl.1 rfl (Nat.le_of_ble_eq_true rfl) ⟨Nat.zero_le _, Nat.zero_le _⟩ dX7_determinant_78 ?_
  have hh_4 : fmul q (mp 1) (fcw q (mp 3) (mp 5) (mp 6) (mp 8)) < q := fmul_lt hM.1 (by omega) (by omega)
  refine lv_istore_n (lv' := [(2, .int (nI (fmul q (mp 1) (fcw q (mp 3) (mp 5) (mp 6) (mp 8))))), (1, .int (nI (fmul q (mp 0) (fcw q (mp 4) (mp 5) (mp 7) (mp 8))))), (0, .ref (md 0))]) hx hb dX7_determinant_81 rfl hl (by decide) rfl (fun ls hl => ?_)
  refine lv_aload_n hx hb dX7_determinant_82 rfl (lv_at hl 2 rfl) ?_
  refine lv_aload_n hx hb dX7_determinant_83 rfl (lv_at hl 2 rfl) ?_
  refine va_get (D := D) (ci := 7) (v := .ref (md 7)) (C := RX7) (T := TX7) (N := 20) hx hb hts hiX7 hown hK hP 0 rfl rfl 8 (by decide) hf29 (fun _ h9 => h9) rfl dX7_determinant_84 ?_
  refine lv_iconst (v := nI 2) hx hb dX7_determinant_87 (by decide) ?_
  refine nv_iald hx hb hK hP 6 0 rfl rfl (by omega) (by decide) dX7_determinant_88 ?_
  refine lv_aload_n hx hb dX7_determinant_89 rfl (lv_at hl 2 rfl) ?_
  refine lv_aload_n hx hb dX7_determinant_90 rfl (lv_at hl 2 rfl) ?_
  refine va_get (D := D) (ci := 7) (v := .ref (md 7)) (C := RX7) (T := TX7) (N := 20) hx hb hts hiX7 hown hK hP 0 rfl rfl 8 (by decide) hf29 (fun _ h9 => h9) rfl dX7_determinant_91 ?_
  refine lv_iconst (v := nI 3) hx hb dX7_determinant_94 (by decide) ?_
  refine nv_iald hx hb hK hP 6 0 rfl rfl (by omega) (by decide) dX7_determinant_95 ?_
  refine lv_aload_n hx hb dX7_determinant_96 rfl (lv_at hl 2 rfl) ?_
  refine va_get (D := D) (ci := 7) (v := .ref (md 7)) (C := RX7) (T := TX7) (N := 20) hx hb hts hiX7 hown hK hP 0 rfl rfl 8 (by decide) hf29 (fun _ h9 => h9) rfl dX7_determinant_97 ?_
  refine lv_iconst (v := nI 4) hx hb dX7_determinant_100 (by decide) ?_
  refine nv_iald hx hb hK hP 6 0 rfl rfl (by omega) (by decide) dX7_determinant_101 ?_
  refine lv_aload_n hx hb dX7_determinant_102 rfl (lv_at hl 2 rfl) ?_
  refine va_get (D := D) (ci := 7) (v := .ref (md 7)) (C := RX7) (T := TX7) (N := 20) hx hb hts hiX7 hown hK hP 0 rfl rfl 8 (by decide) hf29 (fun _ h9 => h9) rfl dX7_determinant_103 ?_
  refine lv_bipush (v := nI 6) hx hb dX7_determinant_106 (by decide) ?_
  refine nv_iald hx hb hK hP 6 0 rfl rfl (by omega) (by decide) dX7_determinant_108 ?_
  refine lv_aload_n hx hb dX7_determinant_109 rfl (lv_at hl 2 rfl) ?_
  refine va_get (D := D) (ci := 7) (v := .ref (md 7)) (C := RX7) (T := TX7) (N := 20) hx hb hts hiX7 hown hK hP 0 rfl rfl 8 (by decide) hf29 (fun _ h9 => h9) rfl dX7_determinant_110 ?_
  refine lv_bipush (v := nI 7) hx hb dX7_determinant_113 (by decide) ?_
  refine nv_iald hx hb hK hP 6 0 rfl rfl (by omega) (by decide) dX7_determinant_115 ?_
  refine ctR_V (As := [.int (nI (mp 3)), .int (nI (mp 4)), .int (nI (mp 6)), .int (nI (mp 7))]) (rest := [.int (nI (mp 2)), .ref (md 0)]) (r := .int (nI (fcw q (mp 3) (mp 4) (mp 6) (mp 7)))) ⟨hx, hb, hml, hown, hts⟩ (c_X7_minor l D cI cZ md q w su po xs ys zs hM (mp 3) (mp 4) (mp 6) (mp 7) (by omega) (by omega) (by omega) (by omega)) (cwV 4 hts gX7_determinant_X7_minor rfl rfl rfl hdV_X7_minor ⟨Nat.le_of_ble_eq_true rfl, Nat.le_of_ble_eq_true rfl⟩) hK hN hP [0, 1, 2, 3, 4, 5] rfl 0 7 rfl rfl rfl hl.1 rfl (Nat.le_of_ble_eq_true rfl) ⟨Nat.zero_le _, Nat.zero_le _⟩ dX7_determinant_116 ?_
  have hh_5 : fcw q (mp 3) (mp 4) (mp 6) (mp 7) < q := fcw_lt hM.1 (by omega) (by omega) (by omega) (by omega)
  refine ctR_V (As := [.int (nI (mp 2)), .int (nI (fcw q (mp 3) (mp 4) (mp 6) (mp 7)))]) (rest := []) (r := .int (nI (fmul q (mp 2) (fcw q (mp 3) (mp 4) (mp 6) (mp 7))))) ⟨hx, hb, hml, hown, hts⟩ (c_X7_times l D cI cZ md q w su po xs ys zs hM (mp 2) (fcw q (mp 3) (mp 4) (mp 6) (mp 7)) (by omega) (by omega)) (cwV 2 hts gX7_determinant_X7_times rfl rfl rfl hdV_X7_times ⟨Nat.le_of_ble_eq_true rfl, Nat.le_of_ble_eq_true rfl⟩) hK hN hP [0, 1, 2, 3, 4, 5] rfl 0 7 rfl rfl rfl hl.1 rfl (Nat.le_of_ble_eq_true rfl) ⟨Nat.zero_le _, Nat.zero_le _⟩ dX7_determinant_119 ?_
  have hh_6 : fmul q (mp 2) (fcw q (mp 3) (mp 4) (mp 6) (mp 7)) < q := fmul_lt hM.1 (by omega) (by omega)
  refine lv_istore_n (lv' := [(3, .int (nI (fmul q (mp 2) (fcw q (mp 3) (mp 4) (mp 6) (mp 7))))), (2, .int (nI (fmul q (mp 1) (fcw q (mp 3) (mp 5) (mp 6) (mp 8))))), (1, .int (nI (fmul q (mp 0) (fcw q (mp 4) (mp 5) (mp 7) (mp 8))))), (0, .ref (md 0))]) hx hb dX7_determinant_122 rfl hl (by decide) rfl (fun ls hl => ?_)
  refine lv_aload_n hx hb dX7_determinant_123 rfl (lv_at hl 3 rfl) ?_
  refine lv_aload_n hx hb dX7_determinant_124 rfl (lv_at hl 3 rfl) ?_
  refine lv_iload_n hx hb dX7_determinant_125 rfl (lv_at hl 2 rfl) ?_
  refine lv_iload_n hx hb dX7_determinant_126 rfl (lv_at hl 1 rfl) ?_
  refine ctR_V (As := [.int (nI (fmul q (mp 0) (fcw q (mp 4) (mp 5) (mp 7) (mp 8)))), .int (nI (fmul q (mp 1) (fcw q (mp 3) (mp 5) (mp 6) (mp 8))))]) (rest := [.ref (md 0)]) (r := .int (nI (fsub q (fmul q (mp 0) (fcw q (mp 4) (mp 5) (mp 7) (mp 8))) (fmul q (mp 1) (fcw q (mp 3) (mp 5) (mp 6) (mp 8)))))) ⟨hx, hb, hml, hown, hts⟩ (c_X7_less l D cI cZ md q w su po xs ys zs hM (fmul q (mp 0) (fcw q (mp 4) (mp 5) (mp 7) (mp 8))) (fmul q (mp 1) (fcw q (mp 3) (mp 5) (mp 6) (mp 8))) (by omega) (by omega)) (cwV 2 hts gX7_determinant_X7_less rfl rfl rfl hdV_X7_less ⟨Nat.le_of_ble_eq_true rfl, Nat.le_of_ble_eq_true rfl⟩) hK hN hP [0, 1, 2, 3, 4, 5] rfl 0 7 rfl rfl rfl hl.1 rfl (Nat.le_of_ble_eq_true rfl) ⟨Nat.zero_le _, Nat.zero_le _⟩ dX7_determinant_127 ?_
  have hh_7 : fsub q (fmul q (mp 0) (fcw q (mp 4) (mp 5) (mp 7) (mp 8))) (fmul q (mp 1) (fcw q (mp 3) (mp 5) (mp 6) (mp 8))) < q := fsub_lt hM.1 (by omega) (by omega)
  refine lv_iload_n hx hb dX7_determinant_130 rfl (lv_at hl 0 rfl) ?_
  refine ctR_V (As := [.int (nI (fsub q (fmul q (mp 0) (fcw q (mp 4) (mp 5) (mp 7) (mp 8))) (fmul q (mp 1) (fcw q (mp 3) (mp 5) (mp 6) (mp 8))))), .int (nI (fmul q (mp 2) (fcw q (mp 3) (mp 4) (mp 6) (mp 7))))]) (rest := []) (r := .int (nI (fadd q (fsub q (fmul q (mp 0) (fcw q (mp 4) (mp 5) (mp 7) (mp 8))) (fmul q (mp 1) (fcw q (mp 3) (mp 5) (mp 6) (mp 8)))) (fmul q (mp 2) (fcw q (mp 3) (mp 4) (mp 6) (mp 7)))))) ⟨hx, hb, hml, hown, hts⟩ (c_X7_add l D cI cZ md q w su po xs ys zs hM (fsub q (fmul q (mp 0) (fcw q (mp 4) (mp 5) (mp 7) (mp 8))) (fmul q (mp 1) (fcw q (mp 3) (mp 5) (mp 6) (mp 8)))) (fmul q (mp 2) (fcw q (mp 3) (mp 4) (mp 6) (mp 7))) (by omega) (by omega)) (cwV 2 hts gX7_determinant_X7_add rfl rfl rfl hdV_X7_add ⟨Nat.le_of_ble_eq_true rfl, Nat.le_of_ble_eq_true rfl⟩) hK hN hP [0, 1, 2, 3, 4, 5] rfl 0 7 rfl rfl rfl hl.1 rfl (Nat.le_of_ble_eq_true rfl) ⟨Nat.zero_le _, Nat.zero_le _⟩ dX7_determinant_131 ?_
  have hh_8 : fadd q (fsub q (fmul q (mp 0) (fcw q (mp 4) (mp 5) (mp 7) (mp 8))) (fmul q (mp 1) (fcw q (mp 3) (mp 5) (mp 6) (mp 8)))) (fmul q (mp 2) (fcw q (mp 3) (mp 4) (mp 6) (mp 7))) < q := fadd_lt hM.1 (by omega) (by omega)
  exact ctR_ret (v := (nI (fadd q (fsub q (fmul q (mp 0) (fcw q (mp 4) (mp 5) (mp 7) (mp 8))) (fmul q (mp 1) (fcw q (mp 3) (mp 5) (mp 6) (mp 8)))) (fmul q (mp 2) (fcw q (mp 3) (mp 4) (mp 6) (mp 7)))))) hx hb hr rfl dX7_determinant_134 hlocks (by rw [det_eq hM.1 k_m])

set_option maxHeartbeats 4000000 in
set_option maxRecDepth 100000 in
theorem c_X7_fixed (l : Launch) (D : va_G) (cI cZ : ClassId) (md : Nat → Nat) (q : Nat) (w : Nat) (su : Nat → Nat) (po : Nat → Nat) (xs : Nat → Nat) (ys : Nat → Nat) (zs : Nat → Nat) (hM : MOK q su po xs ys zs) (mp : Nat → Nat) (k_m : MPK q mp) : CtR l yX7_fixed wsX7_fixed { frames := 4, cells := 0, slots := 0, locals := 97 } D (tyG cI cZ) [.ref (md 0)] [(md 0, .inr (7, [.int (nI q), .int (nI (nn q)), .ref (md 1), .ref (md 2), .ref (md 3), .ref (md 4), .ref (md 5), .ref (md 6), .ref (md 7), .ref (md 8), .ref (md 9), .ref (md 10), .ref (md 11), .ref (md 12), .ref (md 13), .ref (md 14), .ref (md 15), .ref (md 16), .int (nI w), .ref (md 17)])), (md 1, .inl (cI, 81, .inl (nF su))), (md 2, .inl (cI, 81, .inl (nF po))), (md 3, .inl (cI, 91, .inl (nF xs))), (md 4, .inl (cI, 91, .inl (nF ys))), (md 5, .inl (cI, 91, .inl (nF zs))), (md 7, .inl (cI, 9, .inl (nF mp)))] (.int (nI (fixq q mp))) := by
  refine Met.ofW (cc := cX7_fixed) (maxL := 3) (ret := some .int) (by decide) rfl ?_
  intro p e s m args below meth c s₁ B hml hv
  obtain ⟨rfl, hP, hK, hN⟩ := hv
  have hx := B.exec
  have hb := B.bytes
  have hr := B.returns
  have hts := atoms_spec (ws := wsX7_fixed) B.pre
  have hown : s.vm.findClass RX7 = some m.cls := findClass_of_methodNamed B.named
  have hlocks := B.notSynchronized
  have hf83 := hts (.fieldLink RX7 83 "FinitePlanesModel" "n" "I") (by decide +kernel)
  have hiX7 : ∀ w ∈ u_ws RX7 TX7 20, w ∈ wsX7_fixed := by decide +kernel
  have hl := lv_entry ([.ref (md 0)]) (n := 3) (Nat.le_of_ble_eq_true rfl)
  rw [lg_entry_eq]
  generalize (lg_sl ([.ref (md 0)]) ++ List.replicate (3 - (lg_sl ([.ref (md 0)])).length) Slot.unset).toArray = ls at hl ⊢
  have hl : lv_has ls 3 [(0, .ref (md 0))] := hl
  have hq2 := qs_le hM.1
  have hn2 := nn_le hM.1
  refine lv_iconst (v := nI 0) hx hb dX7_fixed_0 (by decide) ?_
  refine lv_istore_n (lv' := [(1, .int (nI 0)), (0, .ref (md 0))]) hx hb dX7_fixed_1 rfl hl (by decide) rfl (fun ls hl => ?_)
  refine lv_iconst (v := nI 0) hx hb dX7_fixed_2 (by decide) ?_
  refine lv_istore_n (lv' := [(2, .int (nI 0)), (1, .int (nI 0)), (0, .ref (md 0))]) hx hb dX7_fixed_3 rfl hl (by decide) rfl (fun ls hl => ?_)
  have L4 : ∀ (N4 : Nat) (i : Nat) (x : Nat) (ls : Array Slot), nn q - i < N4 → (i ≤ nn q) → (x = cnt (fun t => decide (imgZ q mp t = nI t)) i) → lv_has ls 3 [(0, .ref (md 0)), (1, .int (nI x)), (2, .int (nI i))] → WR p l e wsX7_fixed { frames := 4, cells := 0, slots := 0, locals := 97 } s m [.ref (md 0)] below meth c (.int (nI (fixq q mp))) 4 ls [] := by
    intro N4
    induction N4 with
    | zero => intro i x ls hN; exact absurd hN (Nat.not_lt_zero _)
    | succ N4 ih4 =>
      intro i x ls hN4 k_i k_x hl
      have hc := cnt_le (fun t => decide (imgZ q mp t = nI t)) i
      refine lv_iload_n hx hb dX7_fixed_4 rfl (lv_at hl 2 rfl) ?_
      refine lv_aload_n hx hb dX7_fixed_5 rfl (lv_at hl 0 rfl) ?_
      refine va_get (D := D) (ci := 7) (v := .int (nI (nn q))) (C := RX7) (T := TX7) (N := 20) hx hb hts hiX7 hown hK hP 0 rfl rfl 1 (by decide) hf83 (fun _ h9 => h9) rfl dX7_fixed_6 ?_
      refine nv_icmp_ge (tgt := 35) hx hb (by omega) (by omega) dX7_fixed_9 (by decide) (fun c9 => ?_) (fun c9 => ?_)
      · refine lv_iload_n hx hb dX7_fixed_35 rfl (lv_at hl 1 rfl) ?_
        exact ctR_ret (v := (nI x)) hx hb hr rfl dX7_fixed_36 hlocks (by rw [k_x, show i = nn q by omega]; rfl)
      · refine lv_aload_n hx hb dX7_fixed_12 rfl (lv_at hl 0 rfl) ?_
        refine lv_iload_n hx hb dX7_fixed_13 rfl (lv_at hl 2 rfl) ?_
        refine ctR_V (As := [.int (nI i)]) (rest := []) (r := .int (imgZ q mp i)) ⟨hx, hb, hml, hown, hts⟩ (c_X7_imageOf l D cI cZ md q w su po xs ys zs hM mp k_m i (by omega)) (cwV 1 hts gX7_fixed_X7_imageOf rfl rfl rfl hdV_X7_imageOf ⟨Nat.le_of_ble_eq_true rfl, Nat.le_of_ble_eq_true rfl⟩) hK hN hP [0, 1, 2, 3, 4, 5, 6] rfl 0 7 rfl rfl rfl hl.1 rfl (Nat.le_of_ble_eq_true rfl) ⟨Nat.zero_le _, Nat.zero_le _⟩ dX7_fixed_14 ?_
        refine lv_iload_n hx hb dX7_fixed_17 rfl (lv_at hl 2 rfl) ?_
        refine lv_icmp_ne (tgt := 27) hx hb dX7_fixed_18 (by decide) (fun c18 => ?_) (fun c18 => ?_)
        · refine lv_iload_n hx hb dX7_fixed_27 rfl (lv_at hl 1 rfl) ?_
          refine lv_istore_n (lv' := [(1, .int (nI x)), (0, .ref (md 0)), (2, .int (nI i))]) hx hb dX7_fixed_28 rfl hl (by decide) rfl (fun ls hl => ?_)
          refine lv_iinc (v := nI (i + 1)) (lv' := [(2, .int (nI (i + 1))), (1, .int (nI x)), (0, .ref (md 0))]) hx hb dX7_fixed_29 hl (k := 2) rfl (nI_inc i) (by decide) rfl (fun ls hl => ?_)
          refine lv_goto (tgt := 4) hx hb dX7_fixed_32 (by decide) ?_
          exact ih4 (i + 1) x ls (by omega) (by omega) (by rw [cnt, decide_eq_false c18, k_x]; rfl) (lv_sub hl [2, 1, 0] rfl)
        · refine lv_iload_n hx hb dX7_fixed_21 rfl (lv_at hl 1 rfl) ?_
          refine lv_iconst (v := nI 1) hx hb dX7_fixed_22 (by decide) ?_
          refine nv_addE (r := x + 1) hx hb rfl dX7_fixed_23 ?_
          refine lv_goto (tgt := 28) hx hb dX7_fixed_24 (by decide) ?_
          refine lv_istore_n (lv' := [(1, .int (nI (x + 1))), (0, .ref (md 0)), (2, .int (nI i))]) hx hb dX7_fixed_28 rfl hl (by decide) rfl (fun ls hl => ?_)
          refine lv_iinc (v := nI (i + 1)) (lv' := [(2, .int (nI (i + 1))), (1, .int (nI (x + 1))), (0, .ref (md 0))]) hx hb dX7_fixed_29 hl (k := 2) rfl (nI_inc i) (by decide) rfl (fun ls hl => ?_)
          refine lv_goto (tgt := 4) hx hb dX7_fixed_32 (by decide) ?_
          exact ih4 (i + 1) (x + 1) ls (by omega) (by omega) (by rw [cnt, decide_eq_true c18, k_x]; rfl) (lv_sub hl [2, 1, 0] rfl)
  exact L4 (nn q - 0 + 1) 0 0 ls (by omega) (Nat.zero_le _) rfl (lv_sub hl [2, 1, 0] rfl)

set_option maxHeartbeats 4000000 in
set_option maxRecDepth 100000 in
theorem c_X7_entry (l : Launch) (D : va_G) (cI cZ : ClassId) (md : Nat → Nat) (q : Nat) (w : Nat) (su : Nat → Nat) (po : Nat → Nat) (xs : Nat → Nat) (ys : Nat → Nat) (zs : Nat → Nat) (hM : MOK q su po xs ys zs) (mp : Nat → Nat) (k_m : MPK q mp) (k : Int32) (x : Int32) : CtW (S := (Nat → Nat)) l yX7_entry wsX7_entry { frames := 2, cells := 0, slots := 0, locals := 43 } D (tyG cI cZ) [.ref (md 0), .int k, .int x] [(md 0, .inr (7, [.int (nI q), .int (nI (nn q)), .ref (md 1), .ref (md 2), .ref (md 3), .ref (md 4), .ref (md 5), .ref (md 6), .ref (md 7), .ref (md 8), .ref (md 9), .ref (md 10), .ref (md 11), .ref (md 12), .ref (md 13), .ref (md 14), .ref (md 15), .ref (md 16), .int (nI w), .ref (md 17)])), (md 1, .inl (cI, 81, .inl (nF su))), (md 2, .inl (cI, 81, .inl (nF po))), (md 3, .inl (cI, 91, .inl (nF xs))), (md 4, .inl (cI, 91, .inl (nF ys))), (md 5, .inl (cI, 91, .inl (nF zs))), (md 7, .inl (cI, 9, .inl (nF mp)))] (fun (mp3 : Nat → Nat) => mp3 = entM q mp k x) (fun (mp3 : Nat → Nat) => some (.int (entZ q mp k x))) (fun (mp3 : Nat → Nat) => [(md 0, .inr (7, [.int (nI q), .int (nI (nn q)), .ref (md 1), .ref (md 2), .ref (md 3), .ref (md 4), .ref (md 5), .ref (md 6), .ref (md 7), .ref (md 8), .ref (md 9), .ref (md 10), .ref (md 11), .ref (md 12), .ref (md 13), .ref (md 14), .ref (md 15), .ref (md 16), .int (nI w), .ref (md 17)])), (md 1, .inl (cI, 81, .inl (nF su))), (md 2, .inl (cI, 81, .inl (nF po))), (md 3, .inl (cI, 91, .inl (nF xs))), (md 4, .inl (cI, 91, .inl (nF ys))), (md 5, .inl (cI, 91, .inl (nF zs))), (md 7, .inl (cI, 9, .inl (nF mp3)))]) := by
  intro sz; refine Met.ofW (cc := cX7_entry) (maxL := 4) (ret := some .int) (by decide) rfl ?_
  intro p e s m args below meth c s₁ B hml hv
  obtain ⟨rfl, hsz, hP, hK, hD0, hN⟩ := hv
  have hx := B.exec
  have hb := B.bytes
  have hr := B.returns
  have hts := atoms_spec (ws := wsX7_entry) B.pre
  have hown : s.vm.findClass RX7 = some m.cls := findClass_of_methodNamed B.named
  have hlocks := B.notSynchronized
  subst hsz
  have hD := hD0.self (sz := s.heap.size)
  generalize hAe : va_A [(md 0, .inr (7, [.int (nI q), .int (nI (nn q)), .ref (md 1), .ref (md 2), .ref (md 3), .ref (md 4), .ref (md 5), .ref (md 6), .ref (md 7), .ref (md 8), .ref (md 9), .ref (md 10), .ref (md 11), .ref (md 12), .ref (md 13), .ref (md 14), .ref (md 15), .ref (md 16), .int (nI w), .ref (md 17)])), (md 1, .inl (cI, 81, .inl (nF su))), (md 2, .inl (cI, 81, .inl (nF po))), (md 3, .inl (cI, 91, .inl (nF xs))), (md 4, .inl (cI, 91, .inl (nF ys))), (md 5, .inl (cI, 91, .inl (nF zs))), (md 7, .inl (cI, 9, .inl (nF mp)))] s.heap.size = A at hD ⊢
  have hA : ∀ q : Nat, s.heap.size ≤ q → A q := fun q h => by rw [← hAe]; exact Or.inr h
  have hS : va_S A s.heap s.heap [] := va_S.rf
  have hP : va_P D vwCl [(md 0, .inr (7, [.int (nI q), .int (nI (nn q)), .ref (md 1), .ref (md 2), .ref (md 3), .ref (md 4), .ref (md 5), .ref (md 6), .ref (md 7), .ref (md 8), .ref (md 9), .ref (md 10), .ref (md 11), .ref (md 12), .ref (md 13), .ref (md 14), .ref (md 15), .ref (md 16), .int (nI w), .ref (md 17)])), (md 1, .inl (cI, 81, .inl (nF su))), (md 2, .inl (cI, 81, .inl (nF po))), (md 3, .inl (cI, 91, .inl (nF xs))), (md 4, .inl (cI, 91, .inl (nF ys))), (md 5, .inl (cI, 91, .inl (nF zs))), (md 7, .inl (cI, 9, .inl (nF mp)))] s.heap := hP
  have hf29 := hts (.fieldLink RX7 29 "FinitePlanesModel" "map" "[I") (by decide +kernel)
  have hiX7 : ∀ w ∈ u_ws RX7 TX7 20, w ∈ wsX7_entry := by decide +kernel
  have hl := lv_entry ([.ref (md 0), .int k, .int x]) (n := 4) (Nat.le_of_ble_eq_true rfl)
  rw [lg_entry_eq]
  generalize (lg_sl ([.ref (md 0), .int k, .int x]) ++ List.replicate (4 - (lg_sl ([.ref (md 0), .int k, .int x])).length) Slot.unset).toArray = ls at hl ⊢
  have hl : lv_has ls 4 [(0, .ref (md 0)), (1, .int k), (2, .int x)] := hl
  have hq2 := qs_le hM.1
  have hn2 := nn_le hM.1
  refine lv_iload_n hx hb dX7_entry_0 rfl (lv_at hl 1 rfl) ?_
  refine lv_iconst (v := nI 0) hx hb dX7_entry_1 (by decide) ?_
  refine lv_bipush (v := nI 8) hx hb dX7_entry_2 (by decide) ?_
  refine ctR_S (As := [.int k, .int (nI 0), .int (nI 8)]) (rest := []) (r := .int (nI (inR k 0 8).toNat)) ⟨hx, hb, hml, hown, hts⟩ (c_X7_isFrom l D cI cZ k 0 8 (by omega) (by omega)) (va_cwS 3 hts gX7_entry_X7_isFrom rfl rfl rfl hdS_X7_isFrom ⟨Nat.le_of_ble_eq_true rfl, Nat.le_of_ble_eq_true rfl⟩) hK hN hP [] rfl rfl hl.1 rfl (Nat.le_of_ble_eq_true rfl) ⟨Nat.zero_le _, Nat.zero_le _⟩ dX7_entry_4 ?_
  refine nv_ifb_eq (tgt := 18) hx hb dX7_entry_7 (by decide) (fun c7 => ?_) (fun c7 => ?_)
  · refine lv_bipush (v := (-2)) hx hb dX7_entry_18 (by decide) ?_
    exact ctW_retI (v := (-2)) mp hx hb hr rfl dX7_entry_20 hlocks hS hP hD (by first | rw [entM, if_pos c7] | rw [entM, if_neg (bool_nf c7), if_pos c15]) (by first | rw [entZ, if_pos c7] | rw [entZ, if_neg (bool_nf c7), if_pos c15])
  · refine lv_aload_n hx hb dX7_entry_10 rfl (lv_at hl 0 rfl) ?_
    refine lv_iload_n hx hb dX7_entry_11 rfl (lv_at hl 2 rfl) ?_
    refine ctR_V (As := [.int x]) (rest := []) (r := .int (nI (inB x q).toNat)) ⟨hx, hb, hml, hown, hts⟩ (c_X7_isNumber l D cI cZ md q w su po xs ys zs hM x) (cwV 1 hts gX7_entry_X7_isNumber rfl rfl rfl hdV_X7_isNumber ⟨Nat.le_of_ble_eq_true rfl, Nat.le_of_ble_eq_true rfl⟩) hK hN hP [0, 1, 2, 3, 4, 5] rfl 0 7 rfl rfl rfl hl.1 rfl (Nat.le_of_ble_eq_true rfl) ⟨Nat.zero_le _, Nat.zero_le _⟩ dX7_entry_12 ?_
    refine nv_ifb_ne (tgt := 21) hx hb dX7_entry_15 (by decide) (fun c15 => ?_) (fun c15 => ?_)
    · have h1 := c7
      have h2 := c15
      obtain ⟨i, hi0, hi, rfl⟩ := inR_of (by decide) c7
      obtain ⟨j, hj, rfl⟩ := inB_of (by omega) c15
      refine lv_aload_n hx hb dX7_entry_21 rfl (lv_at hl 0 rfl) ?_
      refine va_get (D := D) (ci := 7) (v := .ref (md 7)) (C := RX7) (T := TX7) (N := 20) hx hb hts hiX7 hown hK hP 0 rfl rfl 8 (by decide) hf29 (fun _ h9 => h9) rfl dX7_entry_22 ?_
      refine lv_iload_n hx hb dX7_entry_25 rfl (lv_at hl 1 rfl) ?_
      refine nv_iald hx hb hK hP 6 0 rfl rfl (by omega) (by decide) dX7_entry_26 ?_
      refine lv_istore_n (lv' := [(3, .int (nI (mp i))), (0, .ref (md 0)), (1, .int (nI i)), (2, .int (nI j))]) hx hb dX7_entry_27 rfl hl (by decide) rfl (fun ls hl => ?_)
      refine lv_aload_n hx hb dX7_entry_28 rfl (lv_at hl 1 rfl) ?_
      refine va_get (D := D) (ci := 7) (v := .ref (md 7)) (C := RX7) (T := TX7) (N := 20) hx hb hts hiX7 hown hK hP 0 rfl rfl 8 (by decide) hf29 (fun _ h9 => h9) rfl dX7_entry_29 ?_
      refine lv_iload_n hx hb dX7_entry_32 rfl (lv_at hl 2 rfl) ?_
      refine lv_iload_n hx hb dX7_entry_33 rfl (lv_at hl 3 rfl) ?_
      refine nv_iast hx hb hK hP hD hS 6 0 rfl rfl (by omega) (by decide) dX7_entry_34 (fun H locs hP hD hS => ?_)
      have hP : va_P D vwCl [(md 0, .inr (7, [.int (nI q), .int (nI (nn q)), .ref (md 1), .ref (md 2), .ref (md 3), .ref (md 4), .ref (md 5), .ref (md 6), .ref (md 7), .ref (md 8), .ref (md 9), .ref (md 10), .ref (md 11), .ref (md 12), .ref (md 13), .ref (md 14), .ref (md 15), .ref (md 16), .int (nI w), .ref (md 17)])), (md 1, .inl (cI, 81, .inl (nF su))), (md 2, .inl (cI, 81, .inl (nF po))), (md 3, .inl (cI, 91, .inl (nF xs))), (md 4, .inl (cI, 91, .inl (nF ys))), (md 5, .inl (cI, 91, .inl (nF zs))), (md 7, .inl (cI, 9, .inl (nF (upN mp i j))))] H := hP
      have hD : va_D A [(md 0, .inr (7, [.int (nI q), .int (nI (nn q)), .ref (md 1), .ref (md 2), .ref (md 3), .ref (md 4), .ref (md 5), .ref (md 6), .ref (md 7), .ref (md 8), .ref (md 9), .ref (md 10), .ref (md 11), .ref (md 12), .ref (md 13), .ref (md 14), .ref (md 15), .ref (md 16), .int (nI w), .ref (md 17)])), (md 1, .inl (cI, 81, .inl (nF su))), (md 2, .inl (cI, 81, .inl (nF po))), (md 3, .inl (cI, 91, .inl (nF xs))), (md 4, .inl (cI, 91, .inl (nF ys))), (md 5, .inl (cI, 91, .inl (nF zs))), (md 7, .inl (cI, 9, .inl (nF (upN mp i j))))] := hD
      refine lv_iload_n hx hb dX7_entry_35 rfl (lv_at hl 0 rfl) ?_
      exact ctW_retI (v := (nI (mp i))) (upN mp i j) hx hb hr rfl dX7_entry_36 hlocks hS hP hD (by rw [entM, if_neg (bool_nf h1), if_neg (bool_nf h2), nv_nI (by omega), nv_nI (by omega)]) (by rw [entZ, if_neg (bool_nf h1), if_neg (bool_nf h2), nv_nI (by omega)])
    · refine lv_bipush (v := (-2)) hx hb dX7_entry_18 (by decide) ?_
      exact ctW_retI (v := (-2)) mp hx hb hr rfl dX7_entry_20 hlocks hS hP hD (by first | rw [entM, if_pos c7] | rw [entM, if_neg (bool_nf c7), if_pos c15]) (by first | rw [entZ, if_pos c7] | rw [entZ, if_neg (bool_nf c7), if_pos c15])

set_option maxHeartbeats 4000000 in
set_option maxRecDepth 100000 in
theorem c_X7_move (l : Launch) (D : va_G) (cI cZ : ClassId) (md : Nat → Nat) (q : Nat) (w : Nat) (su : Nat → Nat) (po : Nat → Nat) (xs : Nat → Nat) (ys : Nat → Nat) (zs : Nat → Nat) (hM : MOK q su po xs ys zs) (S : Nat → Bool) (mv : Nat → Bool) (mp : Nat → Nat) (k_m : MPK q mp) : CtW (S := (Nat → Bool) × (Nat → Bool)) l yX7_move wsX7_move { frames := 4, cells := 0, slots := 0, locals := 97 } D (tyG cI cZ) [.ref (md 0)] [(md 0, .inr (7, [.int (nI q), .int (nI (nn q)), .ref (md 1), .ref (md 2), .ref (md 3), .ref (md 4), .ref (md 5), .ref (md 6), .ref (md 7), .ref (md 8), .ref (md 9), .ref (md 10), .ref (md 11), .ref (md 12), .ref (md 13), .ref (md 14), .ref (md 15), .ref (md 16), .int (nI w), .ref (md 17)])), (md 1, .inl (cI, 81, .inl (nF su))), (md 2, .inl (cI, 81, .inl (nF po))), (md 3, .inl (cI, 91, .inl (nF xs))), (md 4, .inl (cI, 91, .inl (nF ys))), (md 5, .inl (cI, 91, .inl (nF zs))), (md 6, .inl (cZ, 91, .inl (bF S))), (md 7, .inl (cI, 9, .inl (nF mp))), (md 15, .inl (cZ, 91, .inl (bF mv)))] (fun u => (fun (S3 : Nat → Bool) (mv3 : Nat → Bool) => eqN (nn q) S3 (movq q mp S)) u.1 u.2) (fun u => (fun (S3 : Nat → Bool) (mv3 : Nat → Bool) => some (.int (nI (cnt (movq q mp S) (nn q))))) u.1 u.2) (fun u => (fun (S3 : Nat → Bool) (mv3 : Nat → Bool) => [(md 0, .inr (7, [.int (nI q), .int (nI (nn q)), .ref (md 1), .ref (md 2), .ref (md 3), .ref (md 4), .ref (md 5), .ref (md 6), .ref (md 7), .ref (md 8), .ref (md 9), .ref (md 10), .ref (md 11), .ref (md 12), .ref (md 13), .ref (md 14), .ref (md 15), .ref (md 16), .int (nI w), .ref (md 17)])), (md 1, .inl (cI, 81, .inl (nF su))), (md 2, .inl (cI, 81, .inl (nF po))), (md 3, .inl (cI, 91, .inl (nF xs))), (md 4, .inl (cI, 91, .inl (nF ys))), (md 5, .inl (cI, 91, .inl (nF zs))), (md 6, .inl (cZ, 91, .inl (bF S3))), (md 7, .inl (cI, 9, .inl (nF mp))), (md 15, .inl (cZ, 91, .inl (bF mv3)))]) u.1 u.2) := by
  intro sz; refine Met.ofW (cc := cX7_move) (maxL := 3) (ret := some .int) (by decide) rfl ?_
  intro p e s m args below meth c s₁ B hml hv
  obtain ⟨rfl, hsz, hP, hK, hD0, hN⟩ := hv
  have hx := B.exec
  have hb := B.bytes
  have hr := B.returns
  have hts := atoms_spec (ws := wsX7_move) B.pre
  have hown : s.vm.findClass RX7 = some m.cls := findClass_of_methodNamed B.named
  have hlocks := B.notSynchronized
  subst hsz
  have hD := hD0.self (sz := s.heap.size)
  generalize hAe : va_A [(md 0, .inr (7, [.int (nI q), .int (nI (nn q)), .ref (md 1), .ref (md 2), .ref (md 3), .ref (md 4), .ref (md 5), .ref (md 6), .ref (md 7), .ref (md 8), .ref (md 9), .ref (md 10), .ref (md 11), .ref (md 12), .ref (md 13), .ref (md 14), .ref (md 15), .ref (md 16), .int (nI w), .ref (md 17)])), (md 1, .inl (cI, 81, .inl (nF su))), (md 2, .inl (cI, 81, .inl (nF po))), (md 3, .inl (cI, 91, .inl (nF xs))), (md 4, .inl (cI, 91, .inl (nF ys))), (md 5, .inl (cI, 91, .inl (nF zs))), (md 6, .inl (cZ, 91, .inl (bF S))), (md 7, .inl (cI, 9, .inl (nF mp))), (md 15, .inl (cZ, 91, .inl (bF mv)))] s.heap.size = A at hD ⊢
  have hA : ∀ q : Nat, s.heap.size ≤ q → A q := fun q h => by rw [← hAe]; exact Or.inr h
  have hS : va_S A s.heap s.heap [] := va_S.rf
  have hP : va_P D vwCl [(md 0, .inr (7, [.int (nI q), .int (nI (nn q)), .ref (md 1), .ref (md 2), .ref (md 3), .ref (md 4), .ref (md 5), .ref (md 6), .ref (md 7), .ref (md 8), .ref (md 9), .ref (md 10), .ref (md 11), .ref (md 12), .ref (md 13), .ref (md 14), .ref (md 15), .ref (md 16), .int (nI w), .ref (md 17)])), (md 1, .inl (cI, 81, .inl (nF su))), (md 2, .inl (cI, 81, .inl (nF po))), (md 3, .inl (cI, 91, .inl (nF xs))), (md 4, .inl (cI, 91, .inl (nF ys))), (md 5, .inl (cI, 91, .inl (nF zs))), (md 6, .inl (cZ, 91, .inl (bF S))), (md 7, .inl (cI, 9, .inl (nF mp))), (md 15, .inl (cZ, 91, .inl (bF mv)))] s.heap := hP
  have hf25 := hts (.fieldLink RX7 25 "FinitePlanesModel" "isIn" "[Z") (by decide +kernel)
  have hf53 := hts (.fieldLink RX7 53 "FinitePlanesModel" "moved" "[Z") (by decide +kernel)
  have hf83 := hts (.fieldLink RX7 83 "FinitePlanesModel" "n" "I") (by decide +kernel)
  have hiX7 : ∀ w ∈ u_ws RX7 TX7 20, w ∈ wsX7_move := by decide +kernel
  have hl := lv_entry ([.ref (md 0)]) (n := 3) (Nat.le_of_ble_eq_true rfl)
  rw [lg_entry_eq]
  generalize (lg_sl ([.ref (md 0)]) ++ List.replicate (3 - (lg_sl ([.ref (md 0)])).length) Slot.unset).toArray = ls at hl ⊢
  have hl : lv_has ls 3 [(0, .ref (md 0))] := hl
  have hq2 := qs_le hM.1
  have hn2 := nn_le hM.1
  refine lv_iconst (v := nI 0) hx hb dX7_move_0 (by decide) ?_
  refine lv_istore_n (lv' := [(1, .int (nI 0)), (0, .ref (md 0))]) hx hb dX7_move_1 rfl hl (by decide) rfl (fun ls hl => ?_)
  have L2 : ∀ (N2 : Nat) (i : Nat) (r1 : Nat → Bool) (ls : Array Slot) (H : Heap) (locs : List Loc), nn q - i < N2 → (i ≤ nn q) → (∀ t, t < i → r1 t = false) → lv_has ls 3 [(0, .ref (md 0)), (1, .int (nI i))] → va_P D vwCl [(md 0, .inr (7, [.int (nI q), .int (nI (nn q)), .ref (md 1), .ref (md 2), .ref (md 3), .ref (md 4), .ref (md 5), .ref (md 6), .ref (md 7), .ref (md 8), .ref (md 9), .ref (md 10), .ref (md 11), .ref (md 12), .ref (md 13), .ref (md 14), .ref (md 15), .ref (md 16), .int (nI w), .ref (md 17)])), (md 1, .inl (cI, 81, .inl (nF su))), (md 2, .inl (cI, 81, .inl (nF po))), (md 3, .inl (cI, 91, .inl (nF xs))), (md 4, .inl (cI, 91, .inl (nF ys))), (md 5, .inl (cI, 91, .inl (nF zs))), (md 6, .inl (cZ, 91, .inl (bF S))), (md 7, .inl (cI, 9, .inl (nF mp))), (md 15, .inl (cZ, 91, .inl (bF r1)))] H → va_D A [(md 0, .inr (7, [.int (nI q), .int (nI (nn q)), .ref (md 1), .ref (md 2), .ref (md 3), .ref (md 4), .ref (md 5), .ref (md 6), .ref (md 7), .ref (md 8), .ref (md 9), .ref (md 10), .ref (md 11), .ref (md 12), .ref (md 13), .ref (md 14), .ref (md 15), .ref (md 16), .int (nI w), .ref (md 17)])), (md 1, .inl (cI, 81, .inl (nF su))), (md 2, .inl (cI, 81, .inl (nF po))), (md 3, .inl (cI, 91, .inl (nF xs))), (md 4, .inl (cI, 91, .inl (nF ys))), (md 5, .inl (cI, 91, .inl (nF zs))), (md 6, .inl (cZ, 91, .inl (bF S))), (md 7, .inl (cI, 9, .inl (nF mp))), (md 15, .inl (cZ, 91, .inl (bF r1)))] → va_S A s.heap H locs → WG p l e wsX7_move { frames := 4, cells := 0, slots := 0, locals := 97 } s m [.ref (md 0)] below meth c H locs (CQ (S := (Nat → Bool) × (Nat → Bool)) D (fun u => (fun (S3 : Nat → Bool) (mv3 : Nat → Bool) => eqN (nn q) S3 (movq q mp S)) u.1 u.2) (fun u => (fun (S3 : Nat → Bool) (mv3 : Nat → Bool) => some (.int (nI (cnt (movq q mp S) (nn q))))) u.1 u.2) (fun u => (fun (S3 : Nat → Bool) (mv3 : Nat → Bool) => [(md 0, .inr (7, [.int (nI q), .int (nI (nn q)), .ref (md 1), .ref (md 2), .ref (md 3), .ref (md 4), .ref (md 5), .ref (md 6), .ref (md 7), .ref (md 8), .ref (md 9), .ref (md 10), .ref (md 11), .ref (md 12), .ref (md 13), .ref (md 14), .ref (md 15), .ref (md 16), .int (nI w), .ref (md 17)])), (md 1, .inl (cI, 81, .inl (nF su))), (md 2, .inl (cI, 81, .inl (nF po))), (md 3, .inl (cI, 91, .inl (nF xs))), (md 4, .inl (cI, 91, .inl (nF ys))), (md 5, .inl (cI, 91, .inl (nF zs))), (md 6, .inl (cZ, 91, .inl (bF S3))), (md 7, .inl (cI, 9, .inl (nF mp))), (md 15, .inl (cZ, 91, .inl (bF mv3)))]) u.1 u.2) A) A 2 ls [] := by
    intro N2
    induction N2 with
    | zero => intro i r1 ls H locs hN; exact absurd hN (Nat.not_lt_zero _)
    | succ N2 ih2 =>
      intro i r1 ls H locs hN2 k_i k_r hl hP hD hS
      refine lv_iload_n hx hb dX7_move_2 rfl (lv_at hl 1 rfl) ?_
      refine lv_aload_n hx hb dX7_move_3 rfl (lv_at hl 0 rfl) ?_
      refine va_get (D := D) (ci := 7) (v := .int (nI (nn q))) (C := RX7) (T := TX7) (N := 20) hx hb hts hiX7 hown hK hP 0 rfl rfl 1 (by decide) hf83 (fun _ h9 => h9) rfl dX7_move_4 ?_
      refine nv_icmp_ge (tgt := 23) hx hb (by omega) (by omega) dX7_move_7 (by decide) (fun c7 => ?_) (fun c7 => ?_)
      · refine lv_iconst (v := nI 0) hx hb dX7_move_23 (by decide) ?_
        refine lv_istore_n (lv' := [(1, .int (nI 0)), (0, .ref (md 0))]) hx hb dX7_move_24 rfl hl (by decide) rfl (fun ls hl => ?_)
        have L25 : ∀ (N25 : Nat) (g : Nat) (r2 : Nat → Bool) (ls : Array Slot) (H : Heap) (locs : List Loc), nn q - g < N25 → (g ≤ nn q) → (∀ t, t < nn q → r2 t = anyB (fun p => S p && decide (imgZ q mp p = nI t)) g) → lv_has ls 3 [(0, .ref (md 0)), (1, .int (nI g))] → va_P D vwCl [(md 0, .inr (7, [.int (nI q), .int (nI (nn q)), .ref (md 1), .ref (md 2), .ref (md 3), .ref (md 4), .ref (md 5), .ref (md 6), .ref (md 7), .ref (md 8), .ref (md 9), .ref (md 10), .ref (md 11), .ref (md 12), .ref (md 13), .ref (md 14), .ref (md 15), .ref (md 16), .int (nI w), .ref (md 17)])), (md 1, .inl (cI, 81, .inl (nF su))), (md 2, .inl (cI, 81, .inl (nF po))), (md 3, .inl (cI, 91, .inl (nF xs))), (md 4, .inl (cI, 91, .inl (nF ys))), (md 5, .inl (cI, 91, .inl (nF zs))), (md 6, .inl (cZ, 91, .inl (bF S))), (md 7, .inl (cI, 9, .inl (nF mp))), (md 15, .inl (cZ, 91, .inl (bF r2)))] H → va_D A [(md 0, .inr (7, [.int (nI q), .int (nI (nn q)), .ref (md 1), .ref (md 2), .ref (md 3), .ref (md 4), .ref (md 5), .ref (md 6), .ref (md 7), .ref (md 8), .ref (md 9), .ref (md 10), .ref (md 11), .ref (md 12), .ref (md 13), .ref (md 14), .ref (md 15), .ref (md 16), .int (nI w), .ref (md 17)])), (md 1, .inl (cI, 81, .inl (nF su))), (md 2, .inl (cI, 81, .inl (nF po))), (md 3, .inl (cI, 91, .inl (nF xs))), (md 4, .inl (cI, 91, .inl (nF ys))), (md 5, .inl (cI, 91, .inl (nF zs))), (md 6, .inl (cZ, 91, .inl (bF S))), (md 7, .inl (cI, 9, .inl (nF mp))), (md 15, .inl (cZ, 91, .inl (bF r2)))] → va_S A s.heap H locs → WG p l e wsX7_move { frames := 4, cells := 0, slots := 0, locals := 97 } s m [.ref (md 0)] below meth c H locs (CQ (S := (Nat → Bool) × (Nat → Bool)) D (fun u => (fun (S3 : Nat → Bool) (mv3 : Nat → Bool) => eqN (nn q) S3 (movq q mp S)) u.1 u.2) (fun u => (fun (S3 : Nat → Bool) (mv3 : Nat → Bool) => some (.int (nI (cnt (movq q mp S) (nn q))))) u.1 u.2) (fun u => (fun (S3 : Nat → Bool) (mv3 : Nat → Bool) => [(md 0, .inr (7, [.int (nI q), .int (nI (nn q)), .ref (md 1), .ref (md 2), .ref (md 3), .ref (md 4), .ref (md 5), .ref (md 6), .ref (md 7), .ref (md 8), .ref (md 9), .ref (md 10), .ref (md 11), .ref (md 12), .ref (md 13), .ref (md 14), .ref (md 15), .ref (md 16), .int (nI w), .ref (md 17)])), (md 1, .inl (cI, 81, .inl (nF su))), (md 2, .inl (cI, 81, .inl (nF po))), (md 3, .inl (cI, 91, .inl (nF xs))), (md 4, .inl (cI, 91, .inl (nF ys))), (md 5, .inl (cI, 91, .inl (nF zs))), (md 6, .inl (cZ, 91, .inl (bF S3))), (md 7, .inl (cI, 9, .inl (nF mp))), (md 15, .inl (cZ, 91, .inl (bF mv3)))]) u.1 u.2) A) A 25 ls [] := by
          intro N25
          induction N25 with
          | zero => intro g r2 ls H locs hN; exact absurd hN (Nat.not_lt_zero _)
          | succ N25 ih25 =>
            intro g r2 ls H locs hN25 k_g k_s hl hP hD hS
            refine lv_iload_n hx hb dX7_move_25 rfl (lv_at hl 1 rfl) ?_
            refine lv_aload_n hx hb dX7_move_26 rfl (lv_at hl 0 rfl) ?_
            refine va_get (D := D) (ci := 7) (v := .int (nI (nn q))) (C := RX7) (T := TX7) (N := 20) hx hb hts hiX7 hown hK hP 0 rfl rfl 1 (by decide) hf83 (fun _ h9 => h9) rfl dX7_move_27 ?_
            refine nv_icmp_ge (tgt := 70) hx hb (by omega) (by omega) dX7_move_30 (by decide) (fun c30 => ?_) (fun c30 => ?_)
            · refine lv_iconst (v := nI 0) hx hb dX7_move_70 (by decide) ?_
              refine lv_istore_n (lv' := [(1, .int (nI 0)), (0, .ref (md 0))]) hx hb dX7_move_71 rfl hl (by decide) rfl (fun ls hl => ?_)
              have L72 : ∀ (N72 : Nat) (h : Nat) (S1 : Nat → Bool) (ls : Array Slot) (H : Heap) (locs : List Loc), nn q - h < N72 → (h ≤ nn q) → (∀ t, t < h → S1 t = r2 t) → lv_has ls 3 [(0, .ref (md 0)), (1, .int (nI h))] → va_P D vwCl [(md 0, .inr (7, [.int (nI q), .int (nI (nn q)), .ref (md 1), .ref (md 2), .ref (md 3), .ref (md 4), .ref (md 5), .ref (md 6), .ref (md 7), .ref (md 8), .ref (md 9), .ref (md 10), .ref (md 11), .ref (md 12), .ref (md 13), .ref (md 14), .ref (md 15), .ref (md 16), .int (nI w), .ref (md 17)])), (md 1, .inl (cI, 81, .inl (nF su))), (md 2, .inl (cI, 81, .inl (nF po))), (md 3, .inl (cI, 91, .inl (nF xs))), (md 4, .inl (cI, 91, .inl (nF ys))), (md 5, .inl (cI, 91, .inl (nF zs))), (md 6, .inl (cZ, 91, .inl (bF S1))), (md 7, .inl (cI, 9, .inl (nF mp))), (md 15, .inl (cZ, 91, .inl (bF r2)))] H → va_D A [(md 0, .inr (7, [.int (nI q), .int (nI (nn q)), .ref (md 1), .ref (md 2), .ref (md 3), .ref (md 4), .ref (md 5), .ref (md 6), .ref (md 7), .ref (md 8), .ref (md 9), .ref (md 10), .ref (md 11), .ref (md 12), .ref (md 13), .ref (md 14), .ref (md 15), .ref (md 16), .int (nI w), .ref (md 17)])), (md 1, .inl (cI, 81, .inl (nF su))), (md 2, .inl (cI, 81, .inl (nF po))), (md 3, .inl (cI, 91, .inl (nF xs))), (md 4, .inl (cI, 91, .inl (nF ys))), (md 5, .inl (cI, 91, .inl (nF zs))), (md 6, .inl (cZ, 91, .inl (bF S1))), (md 7, .inl (cI, 9, .inl (nF mp))), (md 15, .inl (cZ, 91, .inl (bF r2)))] → va_S A s.heap H locs → WG p l e wsX7_move { frames := 4, cells := 0, slots := 0, locals := 97 } s m [.ref (md 0)] below meth c H locs (CQ (S := (Nat → Bool) × (Nat → Bool)) D (fun u => (fun (S3 : Nat → Bool) (mv3 : Nat → Bool) => eqN (nn q) S3 (movq q mp S)) u.1 u.2) (fun u => (fun (S3 : Nat → Bool) (mv3 : Nat → Bool) => some (.int (nI (cnt (movq q mp S) (nn q))))) u.1 u.2) (fun u => (fun (S3 : Nat → Bool) (mv3 : Nat → Bool) => [(md 0, .inr (7, [.int (nI q), .int (nI (nn q)), .ref (md 1), .ref (md 2), .ref (md 3), .ref (md 4), .ref (md 5), .ref (md 6), .ref (md 7), .ref (md 8), .ref (md 9), .ref (md 10), .ref (md 11), .ref (md 12), .ref (md 13), .ref (md 14), .ref (md 15), .ref (md 16), .int (nI w), .ref (md 17)])), (md 1, .inl (cI, 81, .inl (nF su))), (md 2, .inl (cI, 81, .inl (nF po))), (md 3, .inl (cI, 91, .inl (nF xs))), (md 4, .inl (cI, 91, .inl (nF ys))), (md 5, .inl (cI, 91, .inl (nF zs))), (md 6, .inl (cZ, 91, .inl (bF S3))), (md 7, .inl (cI, 9, .inl (nF mp))), (md 15, .inl (cZ, 91, .inl (bF mv3)))]) u.1 u.2) A) A 72 ls [] := by
                intro N72
                induction N72 with
                | zero => intro h S1 ls H locs hN; exact absurd hN (Nat.not_lt_zero _)
                | succ N72 ih72 =>
                  intro h S1 ls H locs hN72 k_h k_t hl hP hD hS
                  refine lv_iload_n hx hb dX7_move_72 rfl (lv_at hl 1 rfl) ?_
                  refine lv_aload_n hx hb dX7_move_73 rfl (lv_at hl 0 rfl) ?_
                  refine va_get (D := D) (ci := 7) (v := .int (nI (nn q))) (C := RX7) (T := TX7) (N := 20) hx hb hts hiX7 hown hK hP 0 rfl rfl 1 (by decide) hf83 (fun _ h9 => h9) rfl dX7_move_74 ?_
                  refine nv_icmp_ge (tgt := 98) hx hb (by omega) (by omega) dX7_move_77 (by decide) (fun c77 => ?_) (fun c77 => ?_)
                  · have hmv : eqN (nn q) S1 (movq q mp S) := fun t ht => by rw [k_t t (by omega), k_s t ht, show g = nn q by omega]; rfl
                    refine lv_aload_n hx hb dX7_move_98 rfl (lv_at hl 0 rfl) ?_
                    refine lv_aload_n hx hb dX7_move_99 rfl (lv_at hl 0 rfl) ?_
                    refine va_get (D := D) (ci := 7) (v := .ref (md 6)) (C := RX7) (T := TX7) (N := 20) hx hb hts hiX7 hown hK hP 0 rfl rfl 7 (by decide) hf25 (fun _ h9 => h9) rfl dX7_move_100 ?_
                    refine ctR_V (As := [.ref (md 6)]) (rest := []) (r := .int (nI (cnt S1 (nn q)))) ⟨hx, hb, hml, hown, hts⟩ (c_X7_sizeOf l D cI cZ md q w su po xs ys zs hM (md 6) S1) (cwV 1 hts gX7_move_X7_sizeOf rfl rfl rfl hdV_X7_sizeOf ⟨Nat.le_of_ble_eq_true rfl, Nat.le_of_ble_eq_true rfl⟩) hK hN hP [0, 1, 2, 3, 4, 5, 6] rfl 0 7 rfl rfl rfl hl.1 rfl (Nat.le_of_ble_eq_true rfl) ⟨Nat.zero_le _, Nat.zero_le _⟩ dX7_move_103 ?_
                    have hh_1 : cnt S1 (nn q) ≤ nn q := cnt_le _ _
                    exact ctW_retI (v := (nI (cnt S1 (nn q)))) (S1, r2) hx hb hr rfl dX7_move_106 hlocks hS hP hD (by dsimp only; exact hmv) (by rw [cnt_congr hmv])
                  · refine lv_aload_n hx hb dX7_move_80 rfl (lv_at hl 0 rfl) ?_
                    refine va_get (D := D) (ci := 7) (v := .ref (md 6)) (C := RX7) (T := TX7) (N := 20) hx hb hts hiX7 hown hK hP 0 rfl rfl 7 (by decide) hf25 (fun _ h9 => h9) rfl dX7_move_81 ?_
                    refine lv_iload_n hx hb dX7_move_84 rfl (lv_at hl 1 rfl) ?_
                    refine lv_aload_n hx hb dX7_move_85 rfl (lv_at hl 0 rfl) ?_
                    refine va_get (D := D) (ci := 7) (v := .ref (md 15)) (C := RX7) (T := TX7) (N := 20) hx hb hts hiX7 hown hK hP 0 rfl rfl 16 (by decide) hf53 (fun _ h9 => h9) rfl dX7_move_86 ?_
                    refine lv_iload_n hx hb dX7_move_89 rfl (lv_at hl 1 rfl) ?_
                    refine nv_zald hx hb hK hP 8 1 rfl rfl (by omega) (by decide) dX7_move_90 ?_
                    refine nv_zast hx hb hK hP hD hS 6 1 rfl rfl (r2 h) (by omega) (by decide) dX7_move_91 (fun H locs hP hD hS => ?_)
                    have hP : va_P D vwCl [(md 0, .inr (7, [.int (nI q), .int (nI (nn q)), .ref (md 1), .ref (md 2), .ref (md 3), .ref (md 4), .ref (md 5), .ref (md 6), .ref (md 7), .ref (md 8), .ref (md 9), .ref (md 10), .ref (md 11), .ref (md 12), .ref (md 13), .ref (md 14), .ref (md 15), .ref (md 16), .int (nI w), .ref (md 17)])), (md 1, .inl (cI, 81, .inl (nF su))), (md 2, .inl (cI, 81, .inl (nF po))), (md 3, .inl (cI, 91, .inl (nF xs))), (md 4, .inl (cI, 91, .inl (nF ys))), (md 5, .inl (cI, 91, .inl (nF zs))), (md 6, .inl (cZ, 91, .inl (bF (upB S1 h (r2 h))))), (md 7, .inl (cI, 9, .inl (nF mp))), (md 15, .inl (cZ, 91, .inl (bF r2)))] H := hP
                    have hD : va_D A [(md 0, .inr (7, [.int (nI q), .int (nI (nn q)), .ref (md 1), .ref (md 2), .ref (md 3), .ref (md 4), .ref (md 5), .ref (md 6), .ref (md 7), .ref (md 8), .ref (md 9), .ref (md 10), .ref (md 11), .ref (md 12), .ref (md 13), .ref (md 14), .ref (md 15), .ref (md 16), .int (nI w), .ref (md 17)])), (md 1, .inl (cI, 81, .inl (nF su))), (md 2, .inl (cI, 81, .inl (nF po))), (md 3, .inl (cI, 91, .inl (nF xs))), (md 4, .inl (cI, 91, .inl (nF ys))), (md 5, .inl (cI, 91, .inl (nF zs))), (md 6, .inl (cZ, 91, .inl (bF (upB S1 h (r2 h))))), (md 7, .inl (cI, 9, .inl (nF mp))), (md 15, .inl (cZ, 91, .inl (bF r2)))] := hD
                    refine lv_iinc (v := nI (h + 1)) (lv' := [(1, .int (nI (h + 1))), (0, .ref (md 0))]) hx hb dX7_move_92 hl (k := 1) rfl (nI_inc h) (by decide) rfl (fun ls hl => ?_)
                    refine lv_goto (tgt := 72) hx hb dX7_move_95 (by decide) ?_
                    exact ih72 (h + 1) (upB S1 h (r2 h)) ls _ _ (by omega) (by omega) (fun t ht => (Nat.lt_succ_iff_lt_or_eq.mp ht).elim (fun h => by rw [upB_n (by omega)]; exact k_t t h) (fun h => by rw [h, upB_s])) (lv_sub hl [1, 0] rfl) hP hD hS
              exact L72 (nn q - 0 + 1) 0 S ls _ _ (by omega) (Nat.zero_le _) (fun t h => absurd h (Nat.not_lt_zero t)) (lv_sub hl [1, 0] rfl) hP hD hS
            · refine lv_aload_n hx hb dX7_move_33 rfl (lv_at hl 0 rfl) ?_
              refine va_get (D := D) (ci := 7) (v := .ref (md 6)) (C := RX7) (T := TX7) (N := 20) hx hb hts hiX7 hown hK hP 0 rfl rfl 7 (by decide) hf25 (fun _ h9 => h9) rfl dX7_move_34 ?_
              refine lv_iload_n hx hb dX7_move_37 rfl (lv_at hl 1 rfl) ?_
              refine nv_zald hx hb hK hP 6 1 rfl rfl (by omega) (by decide) dX7_move_38 ?_
              refine nv_ifb_eq (tgt := 50) hx hb dX7_move_39 (by decide) (fun c39 => ?_) (fun c39 => ?_)
              · refine lv_bipush (v := (-3)) hx hb dX7_move_50 (by decide) ?_
                refine lv_istore_n (lv' := [(2, .int (-3)), (0, .ref (md 0)), (1, .int (nI g))]) hx hb dX7_move_52 rfl hl (by decide) rfl (fun ls hl => ?_)
                refine lv_iload_n hx hb dX7_move_53 rfl (lv_at hl 0 rfl) ?_
                refine lv_if_lt (tgt := 64) hx hb dX7_move_54 (by decide) (fun _ => ?_) (fun h => absurd (by decide) h)
                refine lv_iinc (v := nI (g + 1)) (lv' := [(1, .int (nI (g + 1))), (2, .int (-3)), (0, .ref (md 0))]) hx hb dX7_move_64 hl (k := 2) rfl (nI_inc g) (by decide) rfl (fun ls hl => ?_)
                refine lv_goto (tgt := 25) hx hb dX7_move_67 (by decide) ?_
                exact ih25 (g + 1) r2 ls _ _ (by omega) (by omega) (fun t ht => by rw [anyB, c39, k_s t ht]; simp) (lv_sub hl [2, 0] rfl) hP hD hS
              · refine lv_aload_n hx hb dX7_move_42 rfl (lv_at hl 0 rfl) ?_
                refine lv_iload_n hx hb dX7_move_43 rfl (lv_at hl 1 rfl) ?_
                refine ctR_V (As := [.int (nI g)]) (rest := []) (r := .int (imgZ q mp g)) ⟨hx, hb, hml, hown, hts⟩ (c_X7_imageOf l D cI cZ md q w su po xs ys zs hM mp k_m g (by omega)) (cwV 1 hts gX7_move_X7_imageOf rfl rfl rfl hdV_X7_imageOf ⟨Nat.le_of_ble_eq_true rfl, Nat.le_of_ble_eq_true rfl⟩) hK hN hP [0, 1, 2, 3, 4, 5, 7] rfl 0 7 rfl rfl rfl hl.1 rfl (Nat.le_of_ble_eq_true rfl) ⟨Nat.zero_le _, Nat.zero_le _⟩ dX7_move_44 ?_
                refine lv_goto (tgt := 52) hx hb dX7_move_47 (by decide) ?_
                refine lv_istore_n (lv' := [(2, .int (imgZ q mp g)), (0, .ref (md 0)), (1, .int (nI g))]) hx hb dX7_move_52 rfl hl (by decide) rfl (fun ls hl => ?_)
                refine lv_iload_n hx hb dX7_move_53 rfl (lv_at hl 0 rfl) ?_
                refine lv_if_lt (tgt := 64) hx hb dX7_move_54 (by decide) (fun c54 => ?_) (fun c54 => ?_)
                · refine lv_iinc (v := nI (g + 1)) (lv' := [(1, .int (nI (g + 1))), (2, .int (imgZ q mp g)), (0, .ref (md 0))]) hx hb dX7_move_64 hl (k := 2) rfl (nI_inc g) (by decide) rfl (fun ls hl => ?_)
                  refine lv_goto (tgt := 25) hx hb dX7_move_67 (by decide) ?_
                  exact ih25 (g + 1) r2 ls _ _ (by omega) (by omega) (fun t ht => by rw [anyB, img_neg hM.1 k_m (by omega) c54, k_s t ht, decide_eq_false (m3_ne (by omega)), Bool.and_false, Bool.or_false]) (lv_sub hl [2, 0] rfl) hP hD hS
                · obtain ⟨j, hj, ej⟩ := img_pos hM.1 k_m (by omega) c54
                  refine lv_aload_n hx hb dX7_move_57 rfl (lv_at hl 1 rfl) ?_
                  refine va_get (D := D) (ci := 7) (v := .ref (md 15)) (C := RX7) (T := TX7) (N := 20) hx hb hts hiX7 hown hK hP 0 rfl rfl 16 (by decide) hf53 (fun _ h9 => h9) rfl dX7_move_58 ?_
                  refine lv_iload_n hx hb dX7_move_61 rfl (lv_at hl 0 rfl) ?_
                  refine nv_top (v' := .int (nI j)) (congrArg Value.int ej) ?_
                  refine lv_iconst (v := nI 1) hx hb dX7_move_62 (by decide) ?_
                  refine nv_zast hx hb hK hP hD hS 8 1 rfl rfl true (by omega) (by decide) dX7_move_63 (fun H locs hP hD hS => ?_)
                  have hP : va_P D vwCl [(md 0, .inr (7, [.int (nI q), .int (nI (nn q)), .ref (md 1), .ref (md 2), .ref (md 3), .ref (md 4), .ref (md 5), .ref (md 6), .ref (md 7), .ref (md 8), .ref (md 9), .ref (md 10), .ref (md 11), .ref (md 12), .ref (md 13), .ref (md 14), .ref (md 15), .ref (md 16), .int (nI w), .ref (md 17)])), (md 1, .inl (cI, 81, .inl (nF su))), (md 2, .inl (cI, 81, .inl (nF po))), (md 3, .inl (cI, 91, .inl (nF xs))), (md 4, .inl (cI, 91, .inl (nF ys))), (md 5, .inl (cI, 91, .inl (nF zs))), (md 6, .inl (cZ, 91, .inl (bF S))), (md 7, .inl (cI, 9, .inl (nF mp))), (md 15, .inl (cZ, 91, .inl (bF (upB r2 j true))))] H := hP
                  have hD : va_D A [(md 0, .inr (7, [.int (nI q), .int (nI (nn q)), .ref (md 1), .ref (md 2), .ref (md 3), .ref (md 4), .ref (md 5), .ref (md 6), .ref (md 7), .ref (md 8), .ref (md 9), .ref (md 10), .ref (md 11), .ref (md 12), .ref (md 13), .ref (md 14), .ref (md 15), .ref (md 16), .int (nI w), .ref (md 17)])), (md 1, .inl (cI, 81, .inl (nF su))), (md 2, .inl (cI, 81, .inl (nF po))), (md 3, .inl (cI, 91, .inl (nF xs))), (md 4, .inl (cI, 91, .inl (nF ys))), (md 5, .inl (cI, 91, .inl (nF zs))), (md 6, .inl (cZ, 91, .inl (bF S))), (md 7, .inl (cI, 9, .inl (nF mp))), (md 15, .inl (cZ, 91, .inl (bF (upB r2 j true))))] := hD
                  refine lv_iinc (v := nI (g + 1)) (lv' := [(1, .int (nI (g + 1))), (2, .int (imgZ q mp g)), (0, .ref (md 0))]) hx hb dX7_move_64 hl (k := 2) rfl (nI_inc g) (by decide) rfl (fun ls hl => ?_)
                  refine lv_goto (tgt := 25) hx hb dX7_move_67 (by decide) ?_
                  exact ih25 (g + 1) (upB r2 j true) ls _ _ (by omega) (by omega) (fun t ht => by rw [anyB, c39, ej, ← k_s t ht]; exact up_any (by omega) (by omega)) (lv_sub hl [2, 0] rfl) hP hD hS
        exact L25 (nn q - 0 + 1) 0 r1 ls _ _ (by omega) (Nat.zero_le _) (fun t ht => k_r t (by omega)) (lv_sub hl [1, 0] rfl) hP hD hS
      · refine lv_aload_n hx hb dX7_move_10 rfl (lv_at hl 0 rfl) ?_
        refine va_get (D := D) (ci := 7) (v := .ref (md 15)) (C := RX7) (T := TX7) (N := 20) hx hb hts hiX7 hown hK hP 0 rfl rfl 16 (by decide) hf53 (fun _ h9 => h9) rfl dX7_move_11 ?_
        refine lv_iload_n hx hb dX7_move_14 rfl (lv_at hl 1 rfl) ?_
        refine lv_iconst (v := nI 0) hx hb dX7_move_15 (by decide) ?_
        refine nv_zast hx hb hK hP hD hS 8 1 rfl rfl false (by omega) (by decide) dX7_move_16 (fun H locs hP hD hS => ?_)
        have hP : va_P D vwCl [(md 0, .inr (7, [.int (nI q), .int (nI (nn q)), .ref (md 1), .ref (md 2), .ref (md 3), .ref (md 4), .ref (md 5), .ref (md 6), .ref (md 7), .ref (md 8), .ref (md 9), .ref (md 10), .ref (md 11), .ref (md 12), .ref (md 13), .ref (md 14), .ref (md 15), .ref (md 16), .int (nI w), .ref (md 17)])), (md 1, .inl (cI, 81, .inl (nF su))), (md 2, .inl (cI, 81, .inl (nF po))), (md 3, .inl (cI, 91, .inl (nF xs))), (md 4, .inl (cI, 91, .inl (nF ys))), (md 5, .inl (cI, 91, .inl (nF zs))), (md 6, .inl (cZ, 91, .inl (bF S))), (md 7, .inl (cI, 9, .inl (nF mp))), (md 15, .inl (cZ, 91, .inl (bF (upB r1 i false))))] H := hP
        have hD : va_D A [(md 0, .inr (7, [.int (nI q), .int (nI (nn q)), .ref (md 1), .ref (md 2), .ref (md 3), .ref (md 4), .ref (md 5), .ref (md 6), .ref (md 7), .ref (md 8), .ref (md 9), .ref (md 10), .ref (md 11), .ref (md 12), .ref (md 13), .ref (md 14), .ref (md 15), .ref (md 16), .int (nI w), .ref (md 17)])), (md 1, .inl (cI, 81, .inl (nF su))), (md 2, .inl (cI, 81, .inl (nF po))), (md 3, .inl (cI, 91, .inl (nF xs))), (md 4, .inl (cI, 91, .inl (nF ys))), (md 5, .inl (cI, 91, .inl (nF zs))), (md 6, .inl (cZ, 91, .inl (bF S))), (md 7, .inl (cI, 9, .inl (nF mp))), (md 15, .inl (cZ, 91, .inl (bF (upB r1 i false))))] := hD
        refine lv_iinc (v := nI (i + 1)) (lv' := [(1, .int (nI (i + 1))), (0, .ref (md 0))]) hx hb dX7_move_17 hl (k := 1) rfl (nI_inc i) (by decide) rfl (fun ls hl => ?_)
        refine lv_goto (tgt := 2) hx hb dX7_move_20 (by decide) ?_
        exact ih2 (i + 1) (upB r1 i false) ls _ _ (by omega) (by omega) (fun t ht => (Nat.lt_succ_iff_lt_or_eq.mp ht).elim (fun h => by rw [upB_n (by omega)]; exact k_r t h) (fun h => by rw [h, upB_s])) (lv_sub hl [1, 0] rfl) hP hD hS
  exact L2 (nn q - 0 + 1) 0 mv ls _ _ (by omega) (Nat.zero_le _) (fun t h => absurd h (Nat.not_lt_zero t)) (lv_sub hl [1, 0] rfl) hP hD hS

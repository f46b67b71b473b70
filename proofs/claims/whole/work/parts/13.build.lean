set_option maxHeartbeats 4000000 in
set_option maxRecDepth 100000 in
theorem c_X1_makeSum (l : Launch) (D : va_G) (cI cZ : ClassId) (ad : Nat → Nat) (q : Nat) (sm : Nat → Nat) (pr : Nat → Nat) (op : Nat → Nat) (iv : Nat → Nat) (hq : q ∈ qs) (a : Nat) (b : Nat) (k_1 : a < q) (k_2 : b < q) : CtR l yX1_makeSum wsX1_makeSum { frames := 0, cells := 0, slots := 0, locals := 0 } D (tyG cI cZ) [.ref (ad 0), .int (nI a), .int (nI b)] [(ad 0, .inr (1, [.int (nI q), .ref (ad 1), .ref (ad 2), .ref (ad 3), .ref (ad 4)])), (ad 1, .inl (cI, 81, .inl (nF sm))), (ad 2, .inl (cI, 81, .inl (nF pr))), (ad 3, .inl (cI, 9, .inl (nF op))), (ad 4, .inl (cI, 9, .inl (nF iv)))] (.int (nI (fadd q a b))) := by
  refine Met.ofW (cc := cX1_makeSum) (maxL := 4) (ret := some .int) (by decide) rfl ?_
  intro p e s m args below meth c s₁ B hml hv
  obtain ⟨rfl, hP, hK, hN⟩ := hv
  have hx := B.exec
  have hb := B.bytes
  have hr := B.returns
  have hts := atoms_spec (ws := wsX1_makeSum) B.pre
  have hown : s.vm.findClass RX1 = some m.cls := findClass_of_methodNamed B.named
  have hlocks := B.notSynchronized
  have hf28 := hts (.fieldLink RX1 28 "FinitePlanes$Field" "q" "I") (by decide +kernel)
  have hiX1 : ∀ w ∈ u_ws RX1 TX1 5, w ∈ wsX1_makeSum := by decide +kernel
  have hl := lv_entry ([.ref (ad 0), .int (nI a), .int (nI b)]) (n := 4) (Nat.le_of_ble_eq_true rfl)
  rw [lg_entry_eq]
  generalize (lg_sl ([.ref (ad 0), .int (nI a), .int (nI b)]) ++ List.replicate (4 - (lg_sl ([.ref (ad 0), .int (nI a), .int (nI b)])).length) Slot.unset).toArray = ls at hl ⊢
  have hl : lv_has ls 4 [(0, .ref (ad 0)), (1, .int (nI a)), (2, .int (nI b))] := hl
  have hq2 := qs_le hq
  refine lv_aload_n hx hb dX1_makeSum_0 rfl (lv_at hl 0 rfl) ?_
  refine va_get (D := D) (ci := 1) (v := .int (nI q)) (C := RX1) (T := TX1) (N := 5) hx hb hts hiX1 hown hK hP 0 rfl rfl 0 (by decide) hf28 (fun _ h9 => h9) rfl dX1_makeSum_1 ?_
  refine lv_iconst (v := nI 4) hx hb dX1_makeSum_4 (by decide) ?_
  refine nv_icmp_eq (tgt := 17) hx hb (by omega) (by decide) dX1_makeSum_5 (by decide) (fun c5 => ?_) (fun c5 => ?_)
  · refine lv_iload_n hx hb dX1_makeSum_17 rfl (lv_at hl 1 rfl) ?_
    refine lv_iload_n hx hb dX1_makeSum_18 rfl (lv_at hl 2 rfl) ?_
    refine lv_ixor hx hb dX1_makeSum_19 ?_
    refine nv_top (v' := .int (nI (a ^^^ b))) (congrArg Value.int (nx_xor a b)) ?_
    exact ctR_ret (v := (nI (a ^^^ b))) hx hb hr rfl dX1_makeSum_20 hlocks (by rw [mk_1a q hq a k_1 b k_2 (Or.inl c5)])
  · refine lv_aload_n hx hb dX1_makeSum_8 rfl (lv_at hl 0 rfl) ?_
    refine va_get (D := D) (ci := 1) (v := .int (nI q)) (C := RX1) (T := TX1) (N := 5) hx hb hts hiX1 hown hK hP 0 rfl rfl 0 (by decide) hf28 (fun _ h9 => h9) rfl dX1_makeSum_9 ?_
    refine lv_bipush (v := nI 8) hx hb dX1_makeSum_12 (by decide) ?_
    refine nv_icmp_ne (tgt := 21) hx hb (by omega) (by decide) dX1_makeSum_14 (by decide) (fun c14 => ?_) (fun c14 => ?_)
    · refine lv_aload_n hx hb dX1_makeSum_21 rfl (lv_at hl 0 rfl) ?_
      refine va_get (D := D) (ci := 1) (v := .int (nI q)) (C := RX1) (T := TX1) (N := 5) hx hb hts hiX1 hown hK hP 0 rfl rfl 0 (by decide) hf28 (fun _ h9 => h9) rfl dX1_makeSum_22 ?_
      refine lv_bipush (v := nI 9) hx hb dX1_makeSum_25 (by decide) ?_
      refine nv_icmp_ne (tgt := 48) hx hb (by omega) (by decide) dX1_makeSum_27 (by decide) (fun c27 => ?_) (fun c27 => ?_)
      · refine lv_iload_n hx hb dX1_makeSum_48 rfl (lv_at hl 1 rfl) ?_
        refine lv_iload_n hx hb dX1_makeSum_49 rfl (lv_at hl 2 rfl) ?_
        refine nv_addE (r := a + b) hx hb rfl dX1_makeSum_50 ?_
        refine lv_istore_n (lv' := [(3, .int (nI (a + b))), (0, .ref (ad 0)), (1, .int (nI a)), (2, .int (nI b))]) hx hb dX1_makeSum_51 rfl hl (by decide) rfl (fun ls hl => ?_)
        refine lv_iload_n hx hb dX1_makeSum_52 rfl (lv_at hl 0 rfl) ?_
        refine lv_aload_n hx hb dX1_makeSum_53 rfl (lv_at hl 1 rfl) ?_
        refine va_get (D := D) (ci := 1) (v := .int (nI q)) (C := RX1) (T := TX1) (N := 5) hx hb hts hiX1 hown hK hP 0 rfl rfl 0 (by decide) hf28 (fun _ h9 => h9) rfl dX1_makeSum_54 ?_
        refine nv_icmp_ge (tgt := 64) hx hb (by omega) (by omega) dX1_makeSum_57 (by decide) (fun c57 => ?_) (fun c57 => ?_)
        · refine lv_iload_n hx hb dX1_makeSum_64 rfl (lv_at hl 0 rfl) ?_
          refine lv_aload_n hx hb dX1_makeSum_65 rfl (lv_at hl 1 rfl) ?_
          refine va_get (D := D) (ci := 1) (v := .int (nI q)) (C := RX1) (T := TX1) (N := 5) hx hb hts hiX1 hown hK hP 0 rfl rfl 0 (by decide) hf28 (fun _ h9 => h9) rfl dX1_makeSum_66 ?_
          refine nv_subE (r := (a + b) - q) hx hb (by omega) rfl dX1_makeSum_69 ?_
          exact ctR_ret (v := (nI ((a + b) - q))) hx hb hr rfl dX1_makeSum_70 hlocks (by rw [mk_1 hq k_1 k_2 c5 c14 c27, if_neg (by omega)])
        · refine lv_iload_n hx hb dX1_makeSum_60 rfl (lv_at hl 0 rfl) ?_
          refine lv_goto (tgt := 70) hx hb dX1_makeSum_61 (by decide) ?_
          exact ctR_ret (v := (nI (a + b))) hx hb hr rfl dX1_makeSum_70 hlocks (by rw [mk_1 hq k_1 k_2 c5 c14 c27, if_pos c57])
      · refine lv_iload_n hx hb dX1_makeSum_30 rfl (lv_at hl 1 rfl) ?_
        refine lv_iload_n hx hb dX1_makeSum_31 rfl (lv_at hl 2 rfl) ?_
        refine nv_addE (r := a + b) hx hb rfl dX1_makeSum_32 ?_
        refine lv_iconst (v := nI 3) hx hb dX1_makeSum_33 (by decide) ?_
        refine nv_remE (r := (a + b) % 3) hx hb (by omega) (by decide) (by decide) rfl dX1_makeSum_34 ?_
        refine lv_iconst (v := nI 3) hx hb dX1_makeSum_35 (by decide) ?_
        refine lv_iload_n hx hb dX1_makeSum_36 rfl (lv_at hl 1 rfl) ?_
        refine lv_iconst (v := nI 3) hx hb dX1_makeSum_37 (by decide) ?_
        refine nv_divE (r := a / 3) hx hb (by omega) (by decide) (by decide) rfl dX1_makeSum_38 ?_
        refine lv_iload_n hx hb dX1_makeSum_39 rfl (lv_at hl 2 rfl) ?_
        refine lv_iconst (v := nI 3) hx hb dX1_makeSum_40 (by decide) ?_
        refine nv_divE (r := b / 3) hx hb (by omega) (by decide) (by decide) rfl dX1_makeSum_41 ?_
        refine nv_addE (r := (a / 3) + (b / 3)) hx hb rfl dX1_makeSum_42 ?_
        refine lv_iconst (v := nI 3) hx hb dX1_makeSum_43 (by decide) ?_
        refine nv_remE (r := ((a / 3) + (b / 3)) % 3) hx hb (by omega) (by decide) (by decide) rfl dX1_makeSum_44 ?_
        refine nv_mulE (r := 3 * (((a / 3) + (b / 3)) % 3)) hx hb rfl dX1_makeSum_45 ?_
        refine nv_addE (r := ((a + b) % 3) + (3 * (((a / 3) + (b / 3)) % 3))) hx hb rfl dX1_makeSum_46 ?_
        exact ctR_ret (v := (nI (((a + b) % 3) + (3 * (((a / 3) + (b / 3)) % 3))))) hx hb hr rfl dX1_makeSum_47 hlocks (by rw [mk_1b q hq a k_1 b k_2 c27])
    · refine lv_iload_n hx hb dX1_makeSum_17 rfl (lv_at hl 1 rfl) ?_
      refine lv_iload_n hx hb dX1_makeSum_18 rfl (lv_at hl 2 rfl) ?_
      refine lv_ixor hx hb dX1_makeSum_19 ?_
      refine nv_top (v' := .int (nI (a ^^^ b))) (congrArg Value.int (nx_xor a b)) ?_
      exact ctR_ret (v := (nI (a ^^^ b))) hx hb hr rfl dX1_makeSum_20 hlocks (by rw [mk_1a q hq a k_1 b k_2 (Or.inr c14)])

set_option maxHeartbeats 4000000 in
set_option maxRecDepth 100000 in
theorem c_X1_bitProduct (l : Launch) (D : va_G) (cI cZ : ClassId) (ad : Nat → Nat) (q : Nat) (sm : Nat → Nat) (pr : Nat → Nat) (op : Nat → Nat) (iv : Nat → Nat) (hq : q ∈ qs) (v : Nat) (a : Nat) (b : Nat) (k_0 : okv q v) (k_1 : a < q) (k_2 : b < q) : CtR l yX1_bitProduct wsX1_bitProduct { frames := 0, cells := 0, slots := 0, locals := 0 } D (tyG cI cZ) [.ref (ad 0), .int (nI a), .int (nI b), .int (nI v)] [(ad 0, .inr (1, [.int (nI q), .ref (ad 1), .ref (ad 2), .ref (ad 3), .ref (ad 4)])), (ad 1, .inl (cI, 81, .inl (nF sm))), (ad 2, .inl (cI, 81, .inl (nF pr))), (ad 3, .inl (cI, 9, .inl (nF op))), (ad 4, .inl (cI, 9, .inl (nF iv)))] (.int (nI (fmul q a b))) := by
  refine Met.ofW (cc := cX1_bitProduct) (maxL := 7) (ret := some .int) (by decide) rfl ?_
  intro p e s m args below meth c s₁ B hml hv
  obtain ⟨rfl, hP, hK, hN⟩ := hv
  have hx := B.exec
  have hb := B.bytes
  have hr := B.returns
  have hts := atoms_spec (ws := wsX1_bitProduct) B.pre
  have hown : s.vm.findClass RX1 = some m.cls := findClass_of_methodNamed B.named
  have hlocks := B.notSynchronized
  have hf28 := hts (.fieldLink RX1 28 "FinitePlanes$Field" "q" "I") (by decide +kernel)
  have hiX1 : ∀ w ∈ u_ws RX1 TX1 5, w ∈ wsX1_bitProduct := by decide +kernel
  have hl := lv_entry ([.ref (ad 0), .int (nI a), .int (nI b), .int (nI v)]) (n := 7) (Nat.le_of_ble_eq_true rfl)
  rw [lg_entry_eq]
  generalize (lg_sl ([.ref (ad 0), .int (nI a), .int (nI b), .int (nI v)]) ++ List.replicate (7 - (lg_sl ([.ref (ad 0), .int (nI a), .int (nI b), .int (nI v)])).length) Slot.unset).toArray = ls at hl ⊢
  have hl : lv_has ls 7 [(0, .ref (ad 0)), (1, .int (nI a)), (2, .int (nI b)), (3, .int (nI v))] := hl
  have hq2 := qs_le hq
  refine lv_iconst (v := nI 0) hx hb dX1_bitProduct_0 (by decide) ?_
  refine lv_istore (lv' := [(4, .int (nI 0)), (0, .ref (ad 0)), (1, .int (nI a)), (2, .int (nI b)), (3, .int (nI v))]) hx hb dX1_bitProduct_1 hl (by decide) rfl (fun ls hl => ?_)
  refine lv_iload_n hx hb dX1_bitProduct_3 rfl (lv_at hl 2 rfl) ?_
  refine lv_istore (lv' := [(5, .int (nI a)), (4, .int (nI 0)), (0, .ref (ad 0)), (1, .int (nI a)), (2, .int (nI b)), (3, .int (nI v))]) hx hb dX1_bitProduct_4 hl (by decide) rfl (fun ls hl => ?_)
  refine lv_iconst (v := nI 0) hx hb dX1_bitProduct_6 (by decide) ?_
  refine lv_istore (lv' := [(6, .int (nI 0)), (5, .int (nI a)), (4, .int (nI 0)), (0, .ref (ad 0)), (1, .int (nI a)), (2, .int (nI b)), (3, .int (nI v))]) hx hb dX1_bitProduct_7 hl (by decide) rfl (fun ls hl => ?_)
  have L9 : ∀ (N9 : Nat) (i : Nat) (x : Nat) (y : Nat) (ls : Array Slot), 3 - i < N9 → (i ≤ 3) → (x = bpP q v a b i) → (y = bpS q v a i) → lv_has ls 7 [(0, .ref (ad 0)), (1, .int (nI a)), (2, .int (nI b)), (3, .int (nI v)), (4, .int (nI x)), (5, .int (nI y)), (6, .int (nI i))] → WR p l e wsX1_bitProduct { frames := 0, cells := 0, slots := 0, locals := 0 } s m [.ref (ad 0), .int (nI a), .int (nI b), .int (nI v)] below meth c (.int (nI (fmul q a b))) 9 ls [] := by
    intro N9
    induction N9 with
    | zero => intro i x y ls hN; exact absurd hN (Nat.not_lt_zero _)
    | succ N9 ih9 =>
      intro i x y ls hN9 k_i k_x k_y hl
      have hl1 := bp_lt (k := i) k_0 k_1 k_2 (by omega)
      rw [← k_x, ← k_y] at hl1
      refine lv_iload hx hb dX1_bitProduct_9 (lv_at hl 6 rfl) ?_
      refine lv_iconst (v := nI 3) hx hb dX1_bitProduct_11 (by decide) ?_
      refine nv_icmp_ge (tgt := 59) hx hb (by omega) (by decide) dX1_bitProduct_12 (by decide) (fun c12 => ?_) (fun c12 => ?_)
      · refine lv_iload hx hb dX1_bitProduct_59 (lv_at hl 4 rfl) ?_
        exact ctR_ret (v := (nI x)) hx hb hr rfl dX1_bitProduct_61 hlocks (by rw [k_x, show i = 3 by omega, bp_end k_0 k_1 k_2])
      · refine lv_iload_n hx hb dX1_bitProduct_15 rfl (lv_at hl 2 rfl) ?_
        refine lv_iload hx hb dX1_bitProduct_16 (lv_at hl 6 rfl) ?_
        refine lv_ishr hx hb dX1_bitProduct_18 ?_
        refine nv_top (v' := .int (nI (b / 2 ^ i))) (congrArg Value.int (nx_shr (by omega) (by omega))) ?_
        refine lv_iconst (v := nI 1) hx hb dX1_bitProduct_19 (by decide) ?_
        refine lv_iand hx hb dX1_bitProduct_20 ?_
        refine nv_top (v' := .int (nI ((b / 2 ^ i) &&& 1))) (congrArg Value.int (nx_and _ 1)) ?_
        refine nv_if_eq (tgt := 31) hx hb (Nat.lt_of_le_of_lt Nat.and_le_right (by decide)) dX1_bitProduct_21 (by decide) (fun c21 => ?_) (fun c21 => ?_)
        · refine lv_iload hx hb dX1_bitProduct_31 (lv_at hl 5 rfl) ?_
          refine lv_iconst (v := nI 1) hx hb dX1_bitProduct_33 (by decide) ?_
          refine lv_ishl hx hb dX1_bitProduct_34 ?_
          refine nv_top (v' := .int (nI (y * 2))) (congrArg Value.int (nx_shl1 (by omega))) ?_
          refine lv_istore (lv' := [(5, .int (nI (y * 2))), (0, .ref (ad 0)), (1, .int (nI a)), (2, .int (nI b)), (3, .int (nI v)), (4, .int (nI x)), (6, .int (nI i))]) hx hb dX1_bitProduct_35 hl (by decide) rfl (fun ls hl => ?_)
          refine lv_iload hx hb dX1_bitProduct_37 (lv_at hl 0 rfl) ?_
          refine lv_aload_n hx hb dX1_bitProduct_39 rfl (lv_at hl 1 rfl) ?_
          refine va_get (D := D) (ci := 1) (v := .int (nI q)) (C := RX1) (T := TX1) (N := 5) hx hb hts hiX1 hown hK hP 0 rfl rfl 0 (by decide) hf28 (fun _ h9 => h9) rfl dX1_bitProduct_40 ?_
          refine lv_iand hx hb dX1_bitProduct_43 ?_
          refine nv_top (v' := .int (nI ((y * 2) &&& q))) (congrArg Value.int (nx_and _ _)) ?_
          refine nv_if_eq (tgt := 53) hx hb (Nat.lt_of_le_of_lt Nat.and_le_left (by omega)) dX1_bitProduct_44 (by decide) (fun c44 => ?_) (fun c44 => ?_)
          · refine lv_iinc (v := nI (i + 1)) (lv' := [(6, .int (nI (i + 1))), (5, .int (nI (y * 2))), (0, .ref (ad 0)), (1, .int (nI a)), (2, .int (nI b)), (3, .int (nI v)), (4, .int (nI x))]) hx hb dX1_bitProduct_53 hl (k := 6) rfl (nI_inc i) (by decide) rfl (fun ls hl => ?_)
            refine lv_goto (tgt := 9) hx hb dX1_bitProduct_56 (by decide) ?_
            exact ih9 (i + 1) x (y * 2) ls (by omega) (by omega) (by rw [bpP, if_pos c21, k_x]) (by rw [bpS, ← k_y, if_pos c44]) (lv_sub hl [2, 3, 4, 5, 6, 1, 0] rfl)
          · refine lv_iload hx hb dX1_bitProduct_47 (lv_at hl 0 rfl) ?_
            refine lv_iload_n hx hb dX1_bitProduct_49 rfl (lv_at hl 4 rfl) ?_
            refine lv_ixor hx hb dX1_bitProduct_50 ?_
            refine nv_top (v' := .int (nI ((y * 2) ^^^ v))) (congrArg Value.int (nx_xor _ _)) ?_
            refine lv_istore (lv' := [(5, .int (nI ((y * 2) ^^^ v))), (0, .ref (ad 0)), (1, .int (nI a)), (2, .int (nI b)), (3, .int (nI v)), (4, .int (nI x)), (6, .int (nI i))]) hx hb dX1_bitProduct_51 hl (by decide) rfl (fun ls hl => ?_)
            refine lv_iinc (v := nI (i + 1)) (lv' := [(6, .int (nI (i + 1))), (5, .int (nI ((y * 2) ^^^ v))), (0, .ref (ad 0)), (1, .int (nI a)), (2, .int (nI b)), (3, .int (nI v)), (4, .int (nI x))]) hx hb dX1_bitProduct_53 hl (k := 6) rfl (nI_inc i) (by decide) rfl (fun ls hl => ?_)
            refine lv_goto (tgt := 9) hx hb dX1_bitProduct_56 (by decide) ?_
            exact ih9 (i + 1) x ((y * 2) ^^^ v) ls (by omega) (by omega) (by rw [bpP, if_pos c21, k_x]) (by rw [bpS, ← k_y, if_neg c44]) (lv_sub hl [2, 3, 4, 5, 6, 1, 0] rfl)
        · refine lv_iload hx hb dX1_bitProduct_24 (lv_at hl 4 rfl) ?_
          refine lv_iload hx hb dX1_bitProduct_26 (lv_at hl 5 rfl) ?_
          refine lv_ixor hx hb dX1_bitProduct_28 ?_
          refine nv_top (v' := .int (nI (x ^^^ y))) (congrArg Value.int (nx_xor x y)) ?_
          refine lv_istore (lv' := [(4, .int (nI (x ^^^ y))), (0, .ref (ad 0)), (1, .int (nI a)), (2, .int (nI b)), (3, .int (nI v)), (5, .int (nI y)), (6, .int (nI i))]) hx hb dX1_bitProduct_29 hl (by decide) rfl (fun ls hl => ?_)
          refine lv_iload hx hb dX1_bitProduct_31 (lv_at hl 5 rfl) ?_
          refine lv_iconst (v := nI 1) hx hb dX1_bitProduct_33 (by decide) ?_
          refine lv_ishl hx hb dX1_bitProduct_34 ?_
          refine nv_top (v' := .int (nI (y * 2))) (congrArg Value.int (nx_shl1 (by omega))) ?_
          refine lv_istore (lv' := [(5, .int (nI (y * 2))), (4, .int (nI (x ^^^ y))), (0, .ref (ad 0)), (1, .int (nI a)), (2, .int (nI b)), (3, .int (nI v)), (6, .int (nI i))]) hx hb dX1_bitProduct_35 hl (by decide) rfl (fun ls hl => ?_)
          refine lv_iload hx hb dX1_bitProduct_37 (lv_at hl 0 rfl) ?_
          refine lv_aload_n hx hb dX1_bitProduct_39 rfl (lv_at hl 2 rfl) ?_
          refine va_get (D := D) (ci := 1) (v := .int (nI q)) (C := RX1) (T := TX1) (N := 5) hx hb hts hiX1 hown hK hP 0 rfl rfl 0 (by decide) hf28 (fun _ h9 => h9) rfl dX1_bitProduct_40 ?_
          refine lv_iand hx hb dX1_bitProduct_43 ?_
          refine nv_top (v' := .int (nI ((y * 2) &&& q))) (congrArg Value.int (nx_and _ _)) ?_
          refine nv_if_eq (tgt := 53) hx hb (Nat.lt_of_le_of_lt Nat.and_le_left (by omega)) dX1_bitProduct_44 (by decide) (fun c44 => ?_) (fun c44 => ?_)
          · refine lv_iinc (v := nI (i + 1)) (lv' := [(6, .int (nI (i + 1))), (5, .int (nI (y * 2))), (4, .int (nI (x ^^^ y))), (0, .ref (ad 0)), (1, .int (nI a)), (2, .int (nI b)), (3, .int (nI v))]) hx hb dX1_bitProduct_53 hl (k := 6) rfl (nI_inc i) (by decide) rfl (fun ls hl => ?_)
            refine lv_goto (tgt := 9) hx hb dX1_bitProduct_56 (by decide) ?_
            exact ih9 (i + 1) (x ^^^ y) (y * 2) ls (by omega) (by omega) (by rw [bpP, if_neg c21, ← k_x, ← k_y]) (by rw [bpS, ← k_y, if_pos c44]) (lv_sub hl [3, 4, 5, 6, 2, 1, 0] rfl)
          · refine lv_iload hx hb dX1_bitProduct_47 (lv_at hl 0 rfl) ?_
            refine lv_iload_n hx hb dX1_bitProduct_49 rfl (lv_at hl 5 rfl) ?_
            refine lv_ixor hx hb dX1_bitProduct_50 ?_
            refine nv_top (v' := .int (nI ((y * 2) ^^^ v))) (congrArg Value.int (nx_xor _ _)) ?_
            refine lv_istore (lv' := [(5, .int (nI ((y * 2) ^^^ v))), (4, .int (nI (x ^^^ y))), (0, .ref (ad 0)), (1, .int (nI a)), (2, .int (nI b)), (3, .int (nI v)), (6, .int (nI i))]) hx hb dX1_bitProduct_51 hl (by decide) rfl (fun ls hl => ?_)
            refine lv_iinc (v := nI (i + 1)) (lv' := [(6, .int (nI (i + 1))), (5, .int (nI ((y * 2) ^^^ v))), (4, .int (nI (x ^^^ y))), (0, .ref (ad 0)), (1, .int (nI a)), (2, .int (nI b)), (3, .int (nI v))]) hx hb dX1_bitProduct_53 hl (k := 6) rfl (nI_inc i) (by decide) rfl (fun ls hl => ?_)
            refine lv_goto (tgt := 9) hx hb dX1_bitProduct_56 (by decide) ?_
            exact ih9 (i + 1) (x ^^^ y) ((y * 2) ^^^ v) ls (by omega) (by omega) (by rw [bpP, if_neg c21, ← k_x, ← k_y]) (by rw [bpS, ← k_y, if_neg c44]) (lv_sub hl [3, 4, 5, 6, 2, 1, 0] rfl)
  exact L9 (3 - 0 + 1) 0 0 a ls (by omega) (by decide) rfl rfl (lv_sub hl [3, 4, 5, 6, 2, 1, 0] rfl)

set_option maxHeartbeats 4000000 in
set_option maxRecDepth 100000 in
theorem c_X1_makeProduct (l : Launch) (D : va_G) (cI cZ : ClassId) (ad : Nat → Nat) (q : Nat) (sm : Nat → Nat) (pr : Nat → Nat) (op : Nat → Nat) (iv : Nat → Nat) (hq : q ∈ qs) (a : Nat) (b : Nat) (k_1 : a < q) (k_2 : b < q) : CtR l yX1_makeProduct wsX1_makeProduct { frames := 1, cells := 0, slots := 0, locals := 26 } D (tyG cI cZ) [.ref (ad 0), .int (nI a), .int (nI b)] [(ad 0, .inr (1, [.int (nI q), .ref (ad 1), .ref (ad 2), .ref (ad 3), .ref (ad 4)])), (ad 1, .inl (cI, 81, .inl (nF sm))), (ad 2, .inl (cI, 81, .inl (nF pr))), (ad 3, .inl (cI, 9, .inl (nF op))), (ad 4, .inl (cI, 9, .inl (nF iv)))] (.int (nI (fmul q a b))) := by
  refine Met.ofW (cc := cX1_makeProduct) (maxL := 5) (ret := some .int) (by decide) rfl ?_
  intro p e s m args below meth c s₁ B hml hv
  obtain ⟨rfl, hP, hK, hN⟩ := hv
  have hx := B.exec
  have hb := B.bytes
  have hr := B.returns
  have hts := atoms_spec (ws := wsX1_makeProduct) B.pre
  have hown : s.vm.findClass RX1 = some m.cls := findClass_of_methodNamed B.named
  have hlocks := B.notSynchronized
  have hf28 := hts (.fieldLink RX1 28 "FinitePlanes$Field" "q" "I") (by decide +kernel)
  have hiX1 : ∀ w ∈ u_ws RX1 TX1 5, w ∈ wsX1_makeProduct := by decide +kernel
  have hl := lv_entry ([.ref (ad 0), .int (nI a), .int (nI b)]) (n := 5) (Nat.le_of_ble_eq_true rfl)
  rw [lg_entry_eq]
  generalize (lg_sl ([.ref (ad 0), .int (nI a), .int (nI b)]) ++ List.replicate (5 - (lg_sl ([.ref (ad 0), .int (nI a), .int (nI b)])).length) Slot.unset).toArray = ls at hl ⊢
  have hl : lv_has ls 5 [(0, .ref (ad 0)), (1, .int (nI a)), (2, .int (nI b))] := hl
  have hq2 := qs_le hq
  refine lv_aload_n hx hb dX1_makeProduct_0 rfl (lv_at hl 0 rfl) ?_
  refine va_get (D := D) (ci := 1) (v := .int (nI q)) (C := RX1) (T := TX1) (N := 5) hx hb hts hiX1 hown hK hP 0 rfl rfl 0 (by decide) hf28 (fun _ h9 => h9) rfl dX1_makeProduct_1 ?_
  refine lv_iconst (v := nI 4) hx hb dX1_makeProduct_4 (by decide) ?_
  refine nv_icmp_ne (tgt := 17) hx hb (by omega) (by decide) dX1_makeProduct_5 (by decide) (fun c5 => ?_) (fun c5 => ?_)
  · refine lv_aload_n hx hb dX1_makeProduct_17 rfl (lv_at hl 0 rfl) ?_
    refine va_get (D := D) (ci := 1) (v := .int (nI q)) (C := RX1) (T := TX1) (N := 5) hx hb hts hiX1 hown hK hP 0 rfl rfl 0 (by decide) hf28 (fun _ h9 => h9) rfl dX1_makeProduct_18 ?_
    refine lv_bipush (v := nI 8) hx hb dX1_makeProduct_21 (by decide) ?_
    refine nv_icmp_ne (tgt := 35) hx hb (by omega) (by decide) dX1_makeProduct_23 (by decide) (fun c23 => ?_) (fun c23 => ?_)
    · refine lv_aload_n hx hb dX1_makeProduct_35 rfl (lv_at hl 0 rfl) ?_
      refine va_get (D := D) (ci := 1) (v := .int (nI q)) (C := RX1) (T := TX1) (N := 5) hx hb hts hiX1 hown hK hP 0 rfl rfl 0 (by decide) hf28 (fun _ h9 => h9) rfl dX1_makeProduct_36 ?_
      refine lv_bipush (v := nI 9) hx hb dX1_makeProduct_39 (by decide) ?_
      refine nv_icmp_ne (tgt := 82) hx hb (by omega) (by decide) dX1_makeProduct_41 (by decide) (fun c41 => ?_) (fun c41 => ?_)
      · refine lv_iconst (v := nI 0) hx hb dX1_makeProduct_82 (by decide) ?_
        refine lv_istore_n (lv' := [(3, .int (nI 0)), (0, .ref (ad 0)), (1, .int (nI a)), (2, .int (nI b))]) hx hb dX1_makeProduct_83 rfl hl (by decide) rfl (fun ls hl => ?_)
        refine lv_iconst (v := nI 0) hx hb dX1_makeProduct_84 (by decide) ?_
        refine lv_istore (lv' := [(4, .int (nI 0)), (3, .int (nI 0)), (0, .ref (ad 0)), (1, .int (nI a)), (2, .int (nI b))]) hx hb dX1_makeProduct_85 hl (by decide) rfl (fun ls hl => ?_)
        have L87 : ∀ (N87 : Nat) (i : Nat) (x : Nat) (ls : Array Slot), b - i < N87 → (i ≤ b) → (x = fmul q a i) → lv_has ls 5 [(0, .ref (ad 0)), (1, .int (nI a)), (2, .int (nI b)), (3, .int (nI x)), (4, .int (nI i))] → WR p l e wsX1_makeProduct { frames := 1, cells := 0, slots := 0, locals := 26 } s m [.ref (ad 0), .int (nI a), .int (nI b)] below meth c (.int (nI (fmul q a b))) 87 ls [] := by
          intro N87
          induction N87 with
          | zero => intro i x ls hN; exact absurd hN (Nat.not_lt_zero _)
          | succ N87 ih87 =>
            intro i x ls hN87 k_i k_x hl
            have hx9 := fmul_lt (b := i) hq k_1 (by omega)
            rw [← k_x] at hx9
            refine lv_iload hx hb dX1_makeProduct_87 (lv_at hl 4 rfl) ?_
            refine lv_iload_n hx hb dX1_makeProduct_89 rfl (lv_at hl 2 rfl) ?_
            refine nv_icmp_ge (tgt := 106) hx hb (by omega) (by omega) dX1_makeProduct_90 (by decide) (fun c90 => ?_) (fun c90 => ?_)
            · refine lv_iload_n hx hb dX1_makeProduct_106 rfl (lv_at hl 3 rfl) ?_
              exact ctR_ret (v := (nI x)) hx hb hr rfl dX1_makeProduct_107 hlocks (by rw [k_x, show i = b by omega])
            · refine lv_aload_n hx hb dX1_makeProduct_93 rfl (lv_at hl 0 rfl) ?_
              refine lv_iload_n hx hb dX1_makeProduct_94 rfl (lv_at hl 3 rfl) ?_
              refine lv_iload_n hx hb dX1_makeProduct_95 rfl (lv_at hl 1 rfl) ?_
              refine ctR_V (As := [.int (nI x), .int (nI a)]) (rest := []) (r := .int (nI (fadd q x a))) ⟨hx, hb, hml, hown, hts⟩ (c_X1_makeSum l D cI cZ ad q sm pr op iv hq x a (by omega) (by omega)) (cwV 2 hts gX1_makeProduct_X1_makeSum rfl rfl rfl hdV_X1_makeSum ⟨Nat.le_of_ble_eq_true rfl, Nat.le_of_ble_eq_true rfl⟩) hK hN hP [0, 1, 2, 3, 4] rfl 0 1 rfl rfl rfl hl.1 rfl (Nat.le_of_ble_eq_true rfl) ⟨Nat.zero_le _, Nat.zero_le _⟩ dX1_makeProduct_96 ?_
              have hh_1 : fadd q x a < q := fadd_lt hq (by omega) (by omega)
              refine lv_istore_n (lv' := [(3, .int (nI (fadd q x a))), (0, .ref (ad 0)), (1, .int (nI a)), (2, .int (nI b)), (4, .int (nI i))]) hx hb dX1_makeProduct_99 rfl hl (by decide) rfl (fun ls hl => ?_)
              refine lv_iinc (v := nI (i + 1)) (lv' := [(4, .int (nI (i + 1))), (3, .int (nI (fadd q x a))), (0, .ref (ad 0)), (1, .int (nI a)), (2, .int (nI b))]) hx hb dX1_makeProduct_100 hl (k := 4) rfl (nI_inc i) (by decide) rfl (fun ls hl => ?_)
              refine lv_goto (tgt := 87) hx hb dX1_makeProduct_103 (by decide) ?_
              exact ih87 (i + 1) (fadd q x a) ls (by omega) (by omega) (by rw [k_x]; exact mk_2 hq k_1 (by omega) c5 c23 c41) (lv_sub hl [2, 3, 4, 1, 0] rfl)
        exact L87 (b - 0 + 1) 0 0 ls (by omega) (Nat.zero_le _) (mk_2a q hq a k_1).symm (lv_sub hl [2, 3, 4, 1, 0] rfl)
      · have m1 : a * b ≤ 81 := Nat.mul_le_mul (show a ≤ 9 by omega) (show b ≤ 9 by omega)
        have m2 : 2 * (a / 3) * (b / 3) ≤ 6 * 3 := Nat.mul_le_mul (by omega) (by omega)
        have m3 : a * (b / 3) ≤ 9 * 3 := Nat.mul_le_mul (by omega) (by omega)
        have m4 : a / 3 * b ≤ 3 * 9 := Nat.mul_le_mul (by omega) (by omega)
        refine lv_iload_n hx hb dX1_makeProduct_44 rfl (lv_at hl 1 rfl) ?_
        refine lv_iload_n hx hb dX1_makeProduct_45 rfl (lv_at hl 2 rfl) ?_
        refine nv_mulE (r := a * b) hx hb rfl dX1_makeProduct_46 ?_
        refine lv_iconst (v := nI 2) hx hb dX1_makeProduct_47 (by decide) ?_
        refine lv_iload_n hx hb dX1_makeProduct_48 rfl (lv_at hl 1 rfl) ?_
        refine lv_iconst (v := nI 3) hx hb dX1_makeProduct_49 (by decide) ?_
        refine nv_divE (r := a / 3) hx hb (by omega) (by decide) (by decide) rfl dX1_makeProduct_50 ?_
        refine nv_mulE (r := 2 * (a / 3)) hx hb rfl dX1_makeProduct_51 ?_
        refine lv_iload_n hx hb dX1_makeProduct_52 rfl (lv_at hl 2 rfl) ?_
        refine lv_iconst (v := nI 3) hx hb dX1_makeProduct_53 (by decide) ?_
        refine nv_divE (r := b / 3) hx hb (by omega) (by decide) (by decide) rfl dX1_makeProduct_54 ?_
        refine nv_mulE (r := (2 * (a / 3)) * (b / 3)) hx hb rfl dX1_makeProduct_55 ?_
        refine nv_addE (r := (a * b) + ((2 * (a / 3)) * (b / 3))) hx hb rfl dX1_makeProduct_56 ?_
        refine lv_istore_n (lv' := [(3, .int (nI ((a * b) + ((2 * (a / 3)) * (b / 3))))), (0, .ref (ad 0)), (1, .int (nI a)), (2, .int (nI b))]) hx hb dX1_makeProduct_57 rfl hl (by decide) rfl (fun ls hl => ?_)
        refine lv_iload_n hx hb dX1_makeProduct_58 rfl (lv_at hl 2 rfl) ?_
        refine lv_iload_n hx hb dX1_makeProduct_59 rfl (lv_at hl 3 rfl) ?_
        refine lv_iconst (v := nI 3) hx hb dX1_makeProduct_60 (by decide) ?_
        refine nv_divE (r := b / 3) hx hb (by omega) (by decide) (by decide) rfl dX1_makeProduct_61 ?_
        refine nv_mulE (r := a * (b / 3)) hx hb rfl dX1_makeProduct_62 ?_
        refine lv_iload_n hx hb dX1_makeProduct_63 rfl (lv_at hl 2 rfl) ?_
        refine lv_iconst (v := nI 3) hx hb dX1_makeProduct_64 (by decide) ?_
        refine nv_divE (r := a / 3) hx hb (by omega) (by decide) (by decide) rfl dX1_makeProduct_65 ?_
        refine lv_iload_n hx hb dX1_makeProduct_66 rfl (lv_at hl 3 rfl) ?_
        refine nv_mulE (r := (a / 3) * b) hx hb rfl dX1_makeProduct_67 ?_
        refine nv_addE (r := (a * (b / 3)) + ((a / 3) * b)) hx hb rfl dX1_makeProduct_68 ?_
        refine lv_istore (lv' := [(4, .int (nI ((a * (b / 3)) + ((a / 3) * b)))), (3, .int (nI ((a * b) + ((2 * (a / 3)) * (b / 3))))), (0, .ref (ad 0)), (1, .int (nI a)), (2, .int (nI b))]) hx hb dX1_makeProduct_69 hl (by decide) rfl (fun ls hl => ?_)
        refine lv_iload_n hx hb dX1_makeProduct_71 rfl (lv_at hl 1 rfl) ?_
        refine lv_iconst (v := nI 3) hx hb dX1_makeProduct_72 (by decide) ?_
        refine nv_remE (r := ((a * b) + ((2 * (a / 3)) * (b / 3))) % 3) hx hb (by omega) (by decide) (by decide) rfl dX1_makeProduct_73 ?_
        refine lv_iconst (v := nI 3) hx hb dX1_makeProduct_74 (by decide) ?_
        refine lv_iload hx hb dX1_makeProduct_75 (lv_at hl 0 rfl) ?_
        refine lv_iconst (v := nI 3) hx hb dX1_makeProduct_77 (by decide) ?_
        refine nv_remE (r := ((a * (b / 3)) + ((a / 3) * b)) % 3) hx hb (by omega) (by decide) (by decide) rfl dX1_makeProduct_78 ?_
        refine nv_mulE (r := 3 * (((a * (b / 3)) + ((a / 3) * b)) % 3)) hx hb rfl dX1_makeProduct_79 ?_
        refine nv_addE (r := (((a * b) + ((2 * (a / 3)) * (b / 3))) % 3) + (3 * (((a * (b / 3)) + ((a / 3) * b)) % 3))) hx hb rfl dX1_makeProduct_80 ?_
        exact ctR_ret (v := (nI ((((a * b) + ((2 * (a / 3)) * (b / 3))) % 3) + (3 * (((a * (b / 3)) + ((a / 3) * b)) % 3))))) hx hb hr rfl dX1_makeProduct_81 hlocks (by rw [mk_2b q hq a k_1 b k_2 c41])
    · refine lv_aload_n hx hb dX1_makeProduct_26 rfl (lv_at hl 0 rfl) ?_
      refine lv_iload_n hx hb dX1_makeProduct_27 rfl (lv_at hl 1 rfl) ?_
      refine lv_iload_n hx hb dX1_makeProduct_28 rfl (lv_at hl 2 rfl) ?_
      refine lv_bipush (v := nI 11) hx hb dX1_makeProduct_29 (by decide) ?_
      refine ctR_V (As := [.int (nI a), .int (nI b), .int (nI 11)]) (rest := []) (r := .int (nI (fmul q a b))) ⟨hx, hb, hml, hown, hts⟩ (c_X1_bitProduct l D cI cZ ad q sm pr op iv hq 11 a b (Or.inr ⟨c23, rfl⟩) (by omega) (by omega)) (cwV 3 hts gX1_makeProduct_X1_bitProduct rfl rfl rfl hdV_X1_bitProduct ⟨Nat.le_of_ble_eq_true rfl, Nat.le_of_ble_eq_true rfl⟩) hK hN hP [0, 1, 2, 3, 4] rfl 0 1 rfl rfl rfl hl.1 rfl (Nat.le_of_ble_eq_true rfl) ⟨Nat.zero_le _, Nat.zero_le _⟩ dX1_makeProduct_31 ?_
      have hh_2 : fmul q a b < q := fmul_lt hq (by omega) (by omega)
      exact ctR_ret (v := (nI (fmul q a b))) hx hb hr rfl dX1_makeProduct_34 hlocks rfl
  · refine lv_aload_n hx hb dX1_makeProduct_8 rfl (lv_at hl 0 rfl) ?_
    refine lv_iload_n hx hb dX1_makeProduct_9 rfl (lv_at hl 1 rfl) ?_
    refine lv_iload_n hx hb dX1_makeProduct_10 rfl (lv_at hl 2 rfl) ?_
    refine lv_bipush (v := nI 7) hx hb dX1_makeProduct_11 (by decide) ?_
    refine ctR_V (As := [.int (nI a), .int (nI b), .int (nI 7)]) (rest := []) (r := .int (nI (fmul q a b))) ⟨hx, hb, hml, hown, hts⟩ (c_X1_bitProduct l D cI cZ ad q sm pr op iv hq 7 a b (Or.inl ⟨c5, rfl⟩) (by omega) (by omega)) (cwV 3 hts gX1_makeProduct_X1_bitProduct rfl rfl rfl hdV_X1_bitProduct ⟨Nat.le_of_ble_eq_true rfl, Nat.le_of_ble_eq_true rfl⟩) hK hN hP [0, 1, 2, 3, 4] rfl 0 1 rfl rfl rfl hl.1 rfl (Nat.le_of_ble_eq_true rfl) ⟨Nat.zero_le _, Nat.zero_le _⟩ dX1_makeProduct_13 ?_
    have hh_3 : fmul q a b < q := fmul_lt hq (by omega) (by omega)
    exact ctR_ret (v := (nI (fmul q a b))) hx hb hr rfl dX1_makeProduct_16 hlocks rfl

set_option maxHeartbeats 4000000 in
set_option maxRecDepth 100000 in
theorem c_X1_build (l : Launch) (D : va_G) (cI cZ : ClassId) (ad : Nat → Nat) (q2 : Nat) (sm : Nat → Nat) (pr : Nat → Nat) (op : Nat → Nat) (iv : Nat → Nat) (q : Nat) (hq : q ∈ qs) : CtW (S := (Nat → Nat) × (Nat → Nat) × (Nat → Nat) × (Nat → Nat)) l yX1_build wsX1_build { frames := 2, cells := 0, slots := 0, locals := 50 } D (tyG cI cZ) [.ref (ad 0), .int (nI q)] [(ad 0, .inr (1, [.int (nI q2), .ref (ad 1), .ref (ad 2), .ref (ad 3), .ref (ad 4)])), (ad 1, .inl (cI, 81, .inl (nF sm))), (ad 2, .inl (cI, 81, .inl (nF pr))), (ad 3, .inl (cI, 9, .inl (nF op))), (ad 4, .inl (cI, 9, .inl (nF iv)))] (fun u => (fun (sm3 : Nat → Nat) (pr3 : Nat → Nat) (op3 : Nat → Nat) (iv3 : Nat → Nat) => FOK q sm3 pr3 op3 iv3) u.1 u.2.1 u.2.2.1 u.2.2.2) (fun u => (fun (sm3 : Nat → Nat) (pr3 : Nat → Nat) (op3 : Nat → Nat) (iv3 : Nat → Nat) => none) u.1 u.2.1 u.2.2.1 u.2.2.2) (fun u => (fun (sm3 : Nat → Nat) (pr3 : Nat → Nat) (op3 : Nat → Nat) (iv3 : Nat → Nat) => [(ad 0, .inr (1, [.int (nI q), .ref (ad 1), .ref (ad 2), .ref (ad 3), .ref (ad 4)])), (ad 1, .inl (cI, 81, .inl (nF sm3))), (ad 2, .inl (cI, 81, .inl (nF pr3))), (ad 3, .inl (cI, 9, .inl (nF op3))), (ad 4, .inl (cI, 9, .inl (nF iv3)))]) u.1 u.2.1 u.2.2.1 u.2.2.2) := by
  intro sz; refine Met.ofW (cc := cX1_build) (maxL := 5) (ret := none) (by decide) rfl ?_
  intro p e s m args below meth c s₁ B hml hv
  obtain ⟨rfl, hsz, hP, hK, hD0, hN⟩ := hv
  have hx := B.exec
  have hb := B.bytes
  have hr := B.returns
  have hts := atoms_spec (ws := wsX1_build) B.pre
  have hown : s.vm.findClass RX1 = some m.cls := findClass_of_methodNamed B.named
  have hlocks := B.notSynchronized
  subst hsz
  have hD := hD0.self (sz := s.heap.size)
  generalize hAe : va_A [(ad 0, .inr (1, [.int (nI q2), .ref (ad 1), .ref (ad 2), .ref (ad 3), .ref (ad 4)])), (ad 1, .inl (cI, 81, .inl (nF sm))), (ad 2, .inl (cI, 81, .inl (nF pr))), (ad 3, .inl (cI, 9, .inl (nF op))), (ad 4, .inl (cI, 9, .inl (nF iv)))] s.heap.size = A at hD ⊢
  have hA : ∀ q : Nat, s.heap.size ≤ q → A q := fun q h => by rw [← hAe]; exact Or.inr h
  have hS : va_S A s.heap s.heap [] := va_S.rf
  have hP : va_P D vwCl [(ad 0, .inr (1, [.int (nI q2), .ref (ad 1), .ref (ad 2), .ref (ad 3), .ref (ad 4)])), (ad 1, .inl (cI, 81, .inl (nF sm))), (ad 2, .inl (cI, 81, .inl (nF pr))), (ad 3, .inl (cI, 9, .inl (nF op))), (ad 4, .inl (cI, 9, .inl (nF iv)))] s.heap := hP
  have hf9 := hts (.fieldLink RX1 9 "FinitePlanes$Field" "sums" "[I") (by decide +kernel)
  have hf15 := hts (.fieldLink RX1 15 "FinitePlanes$Field" "products" "[I") (by decide +kernel)
  have hf18 := hts (.fieldLink RX1 18 "FinitePlanes$Field" "opposites" "[I") (by decide +kernel)
  have hf21 := hts (.fieldLink RX1 21 "FinitePlanes$Field" "inverses" "[I") (by decide +kernel)
  have hf28 := hts (.fieldLink RX1 28 "FinitePlanes$Field" "q" "I") (by decide +kernel)
  have hiX1 : ∀ w ∈ u_ws RX1 TX1 5, w ∈ wsX1_build := by decide +kernel
  have hl := lv_entry ([.ref (ad 0), .int (nI q)]) (n := 5) (Nat.le_of_ble_eq_true rfl)
  rw [lg_entry_eq]
  generalize (lg_sl ([.ref (ad 0), .int (nI q)]) ++ List.replicate (5 - (lg_sl ([.ref (ad 0), .int (nI q)])).length) Slot.unset).toArray = ls at hl ⊢
  have hl : lv_has ls 5 [(0, .ref (ad 0)), (1, .int (nI q))] := hl
  have hq2 := qs_le hq
  refine lv_aload_n hx hb dX1_build_0 rfl (lv_at hl 0 rfl) ?_
  refine lv_iload_n hx hb dX1_build_1 rfl (lv_at hl 1 rfl) ?_
  refine va_put (D := D) (ci := 1) (v := .int (nI q)) (ty := .int) (C := RX1) (T := TX1) (N := 5) hx hb hts hiX1 tyX1 tyX1_ok nmX1 hown hK hP hD hS 0 rfl rfl 0 (by decide) hf28 (fun _ h9 => h9) rfl (by decide +kernel) rfl rfl (Nat.le_of_ble_eq_true rfl) dX1_build_2 (fun H locs hP hD hS => ?_)
  have hP : va_P D vwCl [(ad 0, .inr (1, [.int (nI q), .ref (ad 1), .ref (ad 2), .ref (ad 3), .ref (ad 4)])), (ad 1, .inl (cI, 81, .inl (nF sm))), (ad 2, .inl (cI, 81, .inl (nF pr))), (ad 3, .inl (cI, 9, .inl (nF op))), (ad 4, .inl (cI, 9, .inl (nF iv)))] H := hP
  have hD : va_D A [(ad 0, .inr (1, [.int (nI q), .ref (ad 1), .ref (ad 2), .ref (ad 3), .ref (ad 4)])), (ad 1, .inl (cI, 81, .inl (nF sm))), (ad 2, .inl (cI, 81, .inl (nF pr))), (ad 3, .inl (cI, 9, .inl (nF op))), (ad 4, .inl (cI, 9, .inl (nF iv)))] := hD
  refine lv_iconst (v := nI 0) hx hb dX1_build_5 (by decide) ?_
  refine lv_istore_n (lv' := [(2, .int (nI 0)), (0, .ref (ad 0)), (1, .int (nI q))]) hx hb dX1_build_6 rfl hl (by decide) rfl (fun ls hl => ?_)
  have L7 : ∀ (N7 : Nat) (a : Nat) (s1 : Nat → Nat) (p1 : Nat → Nat) (o1 : Nat → Nat) (v1 : Nat → Nat) (ls : Array Slot) (H : Heap) (locs : List Loc), q - a < N7 → (a ≤ q) → (FP q a 0 s1 p1 o1 v1) → lv_has ls 5 [(0, .ref (ad 0)), (1, .int (nI q)), (2, .int (nI a))] → va_P D vwCl [(ad 0, .inr (1, [.int (nI q), .ref (ad 1), .ref (ad 2), .ref (ad 3), .ref (ad 4)])), (ad 1, .inl (cI, 81, .inl (nF s1))), (ad 2, .inl (cI, 81, .inl (nF p1))), (ad 3, .inl (cI, 9, .inl (nF o1))), (ad 4, .inl (cI, 9, .inl (nF v1)))] H → va_D A [(ad 0, .inr (1, [.int (nI q), .ref (ad 1), .ref (ad 2), .ref (ad 3), .ref (ad 4)])), (ad 1, .inl (cI, 81, .inl (nF s1))), (ad 2, .inl (cI, 81, .inl (nF p1))), (ad 3, .inl (cI, 9, .inl (nF o1))), (ad 4, .inl (cI, 9, .inl (nF v1)))] → va_S A s.heap H locs → WG p l e wsX1_build { frames := 2, cells := 0, slots := 0, locals := 50 } s m [.ref (ad 0), .int (nI q)] below meth c H locs (CQ (S := (Nat → Nat) × (Nat → Nat) × (Nat → Nat) × (Nat → Nat)) D (fun u => (fun (sm3 : Nat → Nat) (pr3 : Nat → Nat) (op3 : Nat → Nat) (iv3 : Nat → Nat) => FOK q sm3 pr3 op3 iv3) u.1 u.2.1 u.2.2.1 u.2.2.2) (fun u => (fun (sm3 : Nat → Nat) (pr3 : Nat → Nat) (op3 : Nat → Nat) (iv3 : Nat → Nat) => none) u.1 u.2.1 u.2.2.1 u.2.2.2) (fun u => (fun (sm3 : Nat → Nat) (pr3 : Nat → Nat) (op3 : Nat → Nat) (iv3 : Nat → Nat) => [(ad 0, .inr (1, [.int (nI q), .ref (ad 1), .ref (ad 2), .ref (ad 3), .ref (ad 4)])), (ad 1, .inl (cI, 81, .inl (nF sm3))), (ad 2, .inl (cI, 81, .inl (nF pr3))), (ad 3, .inl (cI, 9, .inl (nF op3))), (ad 4, .inl (cI, 9, .inl (nF iv3)))]) u.1 u.2.1 u.2.2.1 u.2.2.2) A) A 7 ls [] := by
    intro N7
    induction N7 with
    | zero => intro a s1 p1 o1 v1 ls H locs hN; exact absurd hN (Nat.not_lt_zero _)
    | succ N7 ih7 =>
      intro a s1 p1 o1 v1 ls H locs hN7 k_a k_f hl hP hD hS
      refine lv_iload_n hx hb dX1_build_7 rfl (lv_at hl 2 rfl) ?_
      refine lv_aload_n hx hb dX1_build_8 rfl (lv_at hl 0 rfl) ?_
      refine va_get (D := D) (ci := 1) (v := .int (nI q)) (C := RX1) (T := TX1) (N := 5) hx hb hts hiX1 hown hK hP 0 rfl rfl 0 (by decide) hf28 (fun _ h9 => h9) rfl dX1_build_9 ?_
      refine nv_icmp_ge (tgt := 106) hx hb (by omega) (by omega) dX1_build_12 (by decide) (fun c12 => ?_) (fun c12 => ?_)
      · exact ctW_retV (s1, p1, o1, v1) hx hb hr dX1_build_106 hlocks hS hP hD (by dsimp only; exact (FP_end hq (by rw [show a = q by omega] at k_f; exact k_f))) rfl
      · refine lv_iconst (v := nI 0) hx hb dX1_build_15 (by decide) ?_
        refine lv_istore_n (lv' := [(3, .int (nI 0)), (0, .ref (ad 0)), (1, .int (nI q)), (2, .int (nI a))]) hx hb dX1_build_16 rfl hl (by decide) rfl (fun ls hl => ?_)
        have L17 : ∀ (N17 : Nat) (b : Nat) (s1 : Nat → Nat) (p1 : Nat → Nat) (o1 : Nat → Nat) (v1 : Nat → Nat) (ls : Array Slot) (H : Heap) (locs : List Loc), q - b < N17 → (b ≤ q) → (FP q a b s1 p1 o1 v1) → lv_has ls 5 [(0, .ref (ad 0)), (1, .int (nI q)), (2, .int (nI a)), (3, .int (nI b))] → va_P D vwCl [(ad 0, .inr (1, [.int (nI q), .ref (ad 1), .ref (ad 2), .ref (ad 3), .ref (ad 4)])), (ad 1, .inl (cI, 81, .inl (nF s1))), (ad 2, .inl (cI, 81, .inl (nF p1))), (ad 3, .inl (cI, 9, .inl (nF o1))), (ad 4, .inl (cI, 9, .inl (nF v1)))] H → va_D A [(ad 0, .inr (1, [.int (nI q), .ref (ad 1), .ref (ad 2), .ref (ad 3), .ref (ad 4)])), (ad 1, .inl (cI, 81, .inl (nF s1))), (ad 2, .inl (cI, 81, .inl (nF p1))), (ad 3, .inl (cI, 9, .inl (nF o1))), (ad 4, .inl (cI, 9, .inl (nF v1)))] → va_S A s.heap H locs → WG p l e wsX1_build { frames := 2, cells := 0, slots := 0, locals := 50 } s m [.ref (ad 0), .int (nI q)] below meth c H locs (CQ (S := (Nat → Nat) × (Nat → Nat) × (Nat → Nat) × (Nat → Nat)) D (fun u => (fun (sm3 : Nat → Nat) (pr3 : Nat → Nat) (op3 : Nat → Nat) (iv3 : Nat → Nat) => FOK q sm3 pr3 op3 iv3) u.1 u.2.1 u.2.2.1 u.2.2.2) (fun u => (fun (sm3 : Nat → Nat) (pr3 : Nat → Nat) (op3 : Nat → Nat) (iv3 : Nat → Nat) => none) u.1 u.2.1 u.2.2.1 u.2.2.2) (fun u => (fun (sm3 : Nat → Nat) (pr3 : Nat → Nat) (op3 : Nat → Nat) (iv3 : Nat → Nat) => [(ad 0, .inr (1, [.int (nI q), .ref (ad 1), .ref (ad 2), .ref (ad 3), .ref (ad 4)])), (ad 1, .inl (cI, 81, .inl (nF sm3))), (ad 2, .inl (cI, 81, .inl (nF pr3))), (ad 3, .inl (cI, 9, .inl (nF op3))), (ad 4, .inl (cI, 9, .inl (nF iv3)))]) u.1 u.2.1 u.2.2.1 u.2.2.2) A) A 17 ls [] := by
          intro N17
          induction N17 with
          | zero => intro b s1 p1 o1 v1 ls H locs hN; exact absurd hN (Nat.not_lt_zero _)
          | succ N17 ih17 =>
            intro b s1 p1 o1 v1 ls H locs hN17 k_b k_g hl hP hD hS
            refine lv_iload_n hx hb dX1_build_17 rfl (lv_at hl 3 rfl) ?_
            refine lv_aload_n hx hb dX1_build_18 rfl (lv_at hl 0 rfl) ?_
            refine va_get (D := D) (ci := 1) (v := .int (nI q)) (C := RX1) (T := TX1) (N := 5) hx hb hts hiX1 hown hK hP 0 rfl rfl 0 (by decide) hf28 (fun _ h9 => h9) rfl dX1_build_19 ?_
            refine nv_icmp_ge (tgt := 100) hx hb (by omega) (by omega) dX1_build_22 (by decide) (fun c22 => ?_) (fun c22 => ?_)
            · refine lv_iinc (v := nI (a + 1)) (lv' := [(2, .int (nI (a + 1))), (0, .ref (ad 0)), (1, .int (nI q)), (3, .int (nI b))]) hx hb dX1_build_100 hl (k := 2) rfl (nI_inc a) (by decide) rfl (fun ls hl => ?_)
              refine lv_goto (tgt := 7) hx hb dX1_build_103 (by decide) ?_
              exact ih7 (a + 1) s1 p1 o1 v1 ls _ _ (by omega) (by omega) (FP_row (by rw [show b = q by omega] at k_g; exact k_g)) (lv_sub hl [1, 2, 0] rfl) hP hD hS
            · refine lv_iload_n hx hb dX1_build_25 rfl (lv_at hl 2 rfl) ?_
              refine lv_bipush (v := nI 9) hx hb dX1_build_26 (by decide) ?_
              refine nv_mulE (r := a * 9) hx hb rfl dX1_build_28 ?_
              refine lv_iload_n hx hb dX1_build_29 rfl (lv_at hl 3 rfl) ?_
              refine nv_addE (r := (a * 9) + b) hx hb rfl dX1_build_30 ?_
              refine lv_istore (lv' := [(4, .int (nI ((a * 9) + b))), (0, .ref (ad 0)), (1, .int (nI q)), (2, .int (nI a)), (3, .int (nI b))]) hx hb dX1_build_31 hl (by decide) rfl (fun ls hl => ?_)
              refine lv_aload_n hx hb dX1_build_33 rfl (lv_at hl 1 rfl) ?_
              refine va_get (D := D) (ci := 1) (v := .ref (ad 1)) (C := RX1) (T := TX1) (N := 5) hx hb hts hiX1 hown hK hP 0 rfl rfl 1 (by decide) hf9 (fun _ h9 => h9) rfl dX1_build_34 ?_
              refine lv_iload hx hb dX1_build_37 (lv_at hl 0 rfl) ?_
              refine lv_aload_n hx hb dX1_build_39 rfl (lv_at hl 1 rfl) ?_
              refine lv_iload_n hx hb dX1_build_40 rfl (lv_at hl 3 rfl) ?_
              refine lv_iload_n hx hb dX1_build_41 rfl (lv_at hl 4 rfl) ?_
              refine ctR_V (As := [.int (nI a), .int (nI b)]) (rest := [.int (nI ((a * 9) + b)), .ref (ad 1)]) (r := .int (nI (fadd q a b))) ⟨hx, hb, hml, hown, hts⟩ (c_X1_makeSum l D cI cZ ad q s1 p1 o1 v1 hq a b (by omega) (by omega)) (cwV 2 hts gX1_build_X1_makeSum rfl rfl rfl hdV_X1_makeSum ⟨Nat.le_of_ble_eq_true rfl, Nat.le_of_ble_eq_true rfl⟩) hK hN hP [0, 1, 2, 3, 4] rfl 0 1 rfl rfl rfl hl.1 rfl (Nat.le_of_ble_eq_true rfl) ⟨Nat.zero_le _, Nat.zero_le _⟩ dX1_build_42 ?_
              have hh_1 : fadd q a b < q := fadd_lt hq (by omega) (by omega)
              refine nv_iast hx hb hK hP hD hS 1 0 rfl rfl (by omega) (by decide) dX1_build_45 (fun H locs hP hD hS => ?_)
              have hP : va_P D vwCl [(ad 0, .inr (1, [.int (nI q), .ref (ad 1), .ref (ad 2), .ref (ad 3), .ref (ad 4)])), (ad 1, .inl (cI, 81, .inl (nF (upN s1 ((a * 9) + b) (fadd q a b))))), (ad 2, .inl (cI, 81, .inl (nF p1))), (ad 3, .inl (cI, 9, .inl (nF o1))), (ad 4, .inl (cI, 9, .inl (nF v1)))] H := hP
              have hD : va_D A [(ad 0, .inr (1, [.int (nI q), .ref (ad 1), .ref (ad 2), .ref (ad 3), .ref (ad 4)])), (ad 1, .inl (cI, 81, .inl (nF (upN s1 ((a * 9) + b) (fadd q a b))))), (ad 2, .inl (cI, 81, .inl (nF p1))), (ad 3, .inl (cI, 9, .inl (nF o1))), (ad 4, .inl (cI, 9, .inl (nF v1)))] := hD
              refine lv_aload_n hx hb dX1_build_46 rfl (lv_at hl 1 rfl) ?_
              refine va_get (D := D) (ci := 1) (v := .ref (ad 2)) (C := RX1) (T := TX1) (N := 5) hx hb hts hiX1 hown hK hP 0 rfl rfl 2 (by decide) hf15 (fun _ h9 => h9) rfl dX1_build_47 ?_
              refine lv_iload hx hb dX1_build_50 (lv_at hl 0 rfl) ?_
              refine lv_aload_n hx hb dX1_build_52 rfl (lv_at hl 1 rfl) ?_
              refine lv_iload_n hx hb dX1_build_53 rfl (lv_at hl 3 rfl) ?_
              refine lv_iload_n hx hb dX1_build_54 rfl (lv_at hl 4 rfl) ?_
              refine ctR_V (As := [.int (nI a), .int (nI b)]) (rest := [.int (nI ((a * 9) + b)), .ref (ad 2)]) (r := .int (nI (fmul q a b))) ⟨hx, hb, hml, hown, hts⟩ (c_X1_makeProduct l D cI cZ ad q (upN s1 ((a * 9) + b) (fadd q a b)) p1 o1 v1 hq a b (by omega) (by omega)) (cwV 2 hts gX1_build_X1_makeProduct rfl rfl rfl hdV_X1_makeProduct ⟨Nat.le_of_ble_eq_true rfl, Nat.le_of_ble_eq_true rfl⟩) hK hN hP [0, 1, 2, 3, 4] rfl 0 1 rfl rfl rfl hl.1 rfl (Nat.le_of_ble_eq_true rfl) ⟨Nat.zero_le _, Nat.zero_le _⟩ dX1_build_55 ?_
              have hh_2 : fmul q a b < q := fmul_lt hq (by omega) (by omega)
              refine nv_iast hx hb hK hP hD hS 2 0 rfl rfl (by omega) (by decide) dX1_build_58 (fun H locs hP hD hS => ?_)
              have hP : va_P D vwCl [(ad 0, .inr (1, [.int (nI q), .ref (ad 1), .ref (ad 2), .ref (ad 3), .ref (ad 4)])), (ad 1, .inl (cI, 81, .inl (nF (upN s1 ((a * 9) + b) (fadd q a b))))), (ad 2, .inl (cI, 81, .inl (nF (upN p1 ((a * 9) + b) (fmul q a b))))), (ad 3, .inl (cI, 9, .inl (nF o1))), (ad 4, .inl (cI, 9, .inl (nF v1)))] H := hP
              have hD : va_D A [(ad 0, .inr (1, [.int (nI q), .ref (ad 1), .ref (ad 2), .ref (ad 3), .ref (ad 4)])), (ad 1, .inl (cI, 81, .inl (nF (upN s1 ((a * 9) + b) (fadd q a b))))), (ad 2, .inl (cI, 81, .inl (nF (upN p1 ((a * 9) + b) (fmul q a b))))), (ad 3, .inl (cI, 9, .inl (nF o1))), (ad 4, .inl (cI, 9, .inl (nF v1)))] := hD
              refine lv_aload_n hx hb dX1_build_59 rfl (lv_at hl 1 rfl) ?_
              refine va_get (D := D) (ci := 1) (v := .ref (ad 1)) (C := RX1) (T := TX1) (N := 5) hx hb hts hiX1 hown hK hP 0 rfl rfl 1 (by decide) hf9 (fun _ h9 => h9) rfl dX1_build_60 ?_
              refine lv_iload hx hb dX1_build_63 (lv_at hl 0 rfl) ?_
              refine nv_iald hx hb hK hP 1 0 rfl rfl (by omega) (by decide) dX1_build_65 ?_
              refine nv_top (v' := .int (nI (fadd q a b))) (congrArg (fun t => Value.int (nI t)) upN_s) ?_
              refine nv_if_ne (tgt := 76) hx hb (by omega) dX1_build_66 (by decide) (fun c66 => ?_) (fun c66 => ?_)
              · refine lv_aload_n hx hb dX1_build_76 rfl (lv_at hl 1 rfl) ?_
                refine va_get (D := D) (ci := 1) (v := .ref (ad 2)) (C := RX1) (T := TX1) (N := 5) hx hb hts hiX1 hown hK hP 0 rfl rfl 2 (by decide) hf15 (fun _ h9 => h9) rfl dX1_build_77 ?_
                refine lv_iload hx hb dX1_build_80 (lv_at hl 0 rfl) ?_
                refine nv_iald hx hb hK hP 2 0 rfl rfl (by omega) (by decide) dX1_build_82 ?_
                refine nv_top (v' := .int (nI (fmul q a b))) (congrArg (fun t => Value.int (nI t)) upN_s) ?_
                refine lv_iconst (v := nI 1) hx hb dX1_build_83 (by decide) ?_
                refine nv_icmp_ne (tgt := 94) hx hb (by omega) (by decide) dX1_build_84 (by decide) (fun c84 => ?_) (fun c84 => ?_)
                · refine lv_iinc (v := nI (b + 1)) (lv' := [(3, .int (nI (b + 1))), (4, .int (nI ((a * 9) + b))), (0, .ref (ad 0)), (1, .int (nI q)), (2, .int (nI a))]) hx hb dX1_build_94 hl (k := 4) rfl (nI_inc b) (by decide) rfl (fun ls hl => ?_)
                  refine lv_goto (tgt := 17) hx hb dX1_build_97 (by decide) ?_
                  exact ih17 (b + 1) (upN s1 ((a * 9) + b) (fadd q a b)) (upN p1 ((a * 9) + b) (fmul q a b)) o1 v1 ls _ _ (by omega) (by omega) (FP_step hq (by omega) (by omega) k_g (Or.inr ⟨c66, rfl⟩) (Or.inr ⟨c84, rfl⟩)) (lv_sub hl [2, 3, 4, 0] rfl) hP hD hS
                · refine lv_aload_n hx hb dX1_build_87 rfl (lv_at hl 1 rfl) ?_
                  refine va_get (D := D) (ci := 1) (v := .ref (ad 4)) (C := RX1) (T := TX1) (N := 5) hx hb hts hiX1 hown hK hP 0 rfl rfl 4 (by decide) hf21 (fun _ h9 => h9) rfl dX1_build_88 ?_
                  refine lv_iload_n hx hb dX1_build_91 rfl (lv_at hl 3 rfl) ?_
                  refine lv_iload_n hx hb dX1_build_92 rfl (lv_at hl 4 rfl) ?_
                  refine nv_iast hx hb hK hP hD hS 4 0 rfl rfl (by omega) (by decide) dX1_build_93 (fun H locs hP hD hS => ?_)
                  have hP : va_P D vwCl [(ad 0, .inr (1, [.int (nI q), .ref (ad 1), .ref (ad 2), .ref (ad 3), .ref (ad 4)])), (ad 1, .inl (cI, 81, .inl (nF (upN s1 ((a * 9) + b) (fadd q a b))))), (ad 2, .inl (cI, 81, .inl (nF (upN p1 ((a * 9) + b) (fmul q a b))))), (ad 3, .inl (cI, 9, .inl (nF o1))), (ad 4, .inl (cI, 9, .inl (nF (upN v1 a b))))] H := hP
                  have hD : va_D A [(ad 0, .inr (1, [.int (nI q), .ref (ad 1), .ref (ad 2), .ref (ad 3), .ref (ad 4)])), (ad 1, .inl (cI, 81, .inl (nF (upN s1 ((a * 9) + b) (fadd q a b))))), (ad 2, .inl (cI, 81, .inl (nF (upN p1 ((a * 9) + b) (fmul q a b))))), (ad 3, .inl (cI, 9, .inl (nF o1))), (ad 4, .inl (cI, 9, .inl (nF (upN v1 a b))))] := hD
                  refine lv_iinc (v := nI (b + 1)) (lv' := [(3, .int (nI (b + 1))), (4, .int (nI ((a * 9) + b))), (0, .ref (ad 0)), (1, .int (nI q)), (2, .int (nI a))]) hx hb dX1_build_94 hl (k := 4) rfl (nI_inc b) (by decide) rfl (fun ls hl => ?_)
                  refine lv_goto (tgt := 17) hx hb dX1_build_97 (by decide) ?_
                  exact ih17 (b + 1) (upN s1 ((a * 9) + b) (fadd q a b)) (upN p1 ((a * 9) + b) (fmul q a b)) o1 (upN v1 a b) ls _ _ (by omega) (by omega) (FP_step hq (by omega) (by omega) k_g (Or.inr ⟨c66, rfl⟩) (Or.inl ⟨c84, rfl⟩)) (lv_sub hl [2, 3, 4, 0] rfl) hP hD hS
              · refine lv_aload_n hx hb dX1_build_69 rfl (lv_at hl 1 rfl) ?_
                refine va_get (D := D) (ci := 1) (v := .ref (ad 3)) (C := RX1) (T := TX1) (N := 5) hx hb hts hiX1 hown hK hP 0 rfl rfl 3 (by decide) hf18 (fun _ h9 => h9) rfl dX1_build_70 ?_
                refine lv_iload_n hx hb dX1_build_73 rfl (lv_at hl 3 rfl) ?_
                refine lv_iload_n hx hb dX1_build_74 rfl (lv_at hl 4 rfl) ?_
                refine nv_iast hx hb hK hP hD hS 3 0 rfl rfl (by omega) (by decide) dX1_build_75 (fun H locs hP hD hS => ?_)
                have hP : va_P D vwCl [(ad 0, .inr (1, [.int (nI q), .ref (ad 1), .ref (ad 2), .ref (ad 3), .ref (ad 4)])), (ad 1, .inl (cI, 81, .inl (nF (upN s1 ((a * 9) + b) (fadd q a b))))), (ad 2, .inl (cI, 81, .inl (nF (upN p1 ((a * 9) + b) (fmul q a b))))), (ad 3, .inl (cI, 9, .inl (nF (upN o1 a b)))), (ad 4, .inl (cI, 9, .inl (nF v1)))] H := hP
                have hD : va_D A [(ad 0, .inr (1, [.int (nI q), .ref (ad 1), .ref (ad 2), .ref (ad 3), .ref (ad 4)])), (ad 1, .inl (cI, 81, .inl (nF (upN s1 ((a * 9) + b) (fadd q a b))))), (ad 2, .inl (cI, 81, .inl (nF (upN p1 ((a * 9) + b) (fmul q a b))))), (ad 3, .inl (cI, 9, .inl (nF (upN o1 a b)))), (ad 4, .inl (cI, 9, .inl (nF v1)))] := hD
                refine lv_aload_n hx hb dX1_build_76 rfl (lv_at hl 1 rfl) ?_
                refine va_get (D := D) (ci := 1) (v := .ref (ad 2)) (C := RX1) (T := TX1) (N := 5) hx hb hts hiX1 hown hK hP 0 rfl rfl 2 (by decide) hf15 (fun _ h9 => h9) rfl dX1_build_77 ?_
                refine lv_iload hx hb dX1_build_80 (lv_at hl 0 rfl) ?_
                refine nv_iald hx hb hK hP 2 0 rfl rfl (by omega) (by decide) dX1_build_82 ?_
                refine nv_top (v' := .int (nI (fmul q a b))) (congrArg (fun t => Value.int (nI t)) upN_s) ?_
                refine lv_iconst (v := nI 1) hx hb dX1_build_83 (by decide) ?_
                refine nv_icmp_ne (tgt := 94) hx hb (by omega) (by decide) dX1_build_84 (by decide) (fun c84 => ?_) (fun c84 => ?_)
                · refine lv_iinc (v := nI (b + 1)) (lv' := [(3, .int (nI (b + 1))), (4, .int (nI ((a * 9) + b))), (0, .ref (ad 0)), (1, .int (nI q)), (2, .int (nI a))]) hx hb dX1_build_94 hl (k := 4) rfl (nI_inc b) (by decide) rfl (fun ls hl => ?_)
                  refine lv_goto (tgt := 17) hx hb dX1_build_97 (by decide) ?_
                  exact ih17 (b + 1) (upN s1 ((a * 9) + b) (fadd q a b)) (upN p1 ((a * 9) + b) (fmul q a b)) (upN o1 a b) v1 ls _ _ (by omega) (by omega) (FP_step hq (by omega) (by omega) k_g (Or.inl ⟨c66, rfl⟩) (Or.inr ⟨c84, rfl⟩)) (lv_sub hl [2, 3, 4, 0] rfl) hP hD hS
                · refine lv_aload_n hx hb dX1_build_87 rfl (lv_at hl 1 rfl) ?_
                  refine va_get (D := D) (ci := 1) (v := .ref (ad 4)) (C := RX1) (T := TX1) (N := 5) hx hb hts hiX1 hown hK hP 0 rfl rfl 4 (by decide) hf21 (fun _ h9 => h9) rfl dX1_build_88 ?_
                  refine lv_iload_n hx hb dX1_build_91 rfl (lv_at hl 3 rfl) ?_
                  refine lv_iload_n hx hb dX1_build_92 rfl (lv_at hl 4 rfl) ?_
                  refine nv_iast hx hb hK hP hD hS 4 0 rfl rfl (by omega) (by decide) dX1_build_93 (fun H locs hP hD hS => ?_)
                  have hP : va_P D vwCl [(ad 0, .inr (1, [.int (nI q), .ref (ad 1), .ref (ad 2), .ref (ad 3), .ref (ad 4)])), (ad 1, .inl (cI, 81, .inl (nF (upN s1 ((a * 9) + b) (fadd q a b))))), (ad 2, .inl (cI, 81, .inl (nF (upN p1 ((a * 9) + b) (fmul q a b))))), (ad 3, .inl (cI, 9, .inl (nF (upN o1 a b)))), (ad 4, .inl (cI, 9, .inl (nF (upN v1 a b))))] H := hP
                  have hD : va_D A [(ad 0, .inr (1, [.int (nI q), .ref (ad 1), .ref (ad 2), .ref (ad 3), .ref (ad 4)])), (ad 1, .inl (cI, 81, .inl (nF (upN s1 ((a * 9) + b) (fadd q a b))))), (ad 2, .inl (cI, 81, .inl (nF (upN p1 ((a * 9) + b) (fmul q a b))))), (ad 3, .inl (cI, 9, .inl (nF (upN o1 a b)))), (ad 4, .inl (cI, 9, .inl (nF (upN v1 a b))))] := hD
                  refine lv_iinc (v := nI (b + 1)) (lv' := [(3, .int (nI (b + 1))), (4, .int (nI ((a * 9) + b))), (0, .ref (ad 0)), (1, .int (nI q)), (2, .int (nI a))]) hx hb dX1_build_94 hl (k := 4) rfl (nI_inc b) (by decide) rfl (fun ls hl => ?_)
                  refine lv_goto (tgt := 17) hx hb dX1_build_97 (by decide) ?_
                  exact ih17 (b + 1) (upN s1 ((a * 9) + b) (fadd q a b)) (upN p1 ((a * 9) + b) (fmul q a b)) (upN o1 a b) (upN v1 a b) ls _ _ (by omega) (by omega) (FP_step hq (by omega) (by omega) k_g (Or.inl ⟨c66, rfl⟩) (Or.inl ⟨c84, rfl⟩)) (lv_sub hl [2, 3, 4, 0] rfl) hP hD hS
        exact L17 (q - 0 + 1) 0 s1 p1 o1 v1 ls _ _ (by omega) (by omega) k_f (lv_sub hl [1, 2, 3, 0] rfl) hP hD hS
  exact L7 (q - 0 + 1) 0 sm pr op iv ls _ _ (by omega) (by omega) FP_0 (lv_sub hl [1, 2, 0] rfl) hP hD hS

set_option maxHeartbeats 4000000 in
set_option maxRecDepth 100000 in
theorem c_X7_marks (l : Launch) (D : va_G) (cI cZ : ClassId) (md : Nat → Nat) (q : Nat) (w : Nat) (mk : Nat → Bool) (ln : Nat → Nat) (k_t : TRl ln mk) (k_w : w ≤ 13) (k_w1 : 1 ≤ w) (k_l : LNK ln) (k_b : bitW ln w) : CtR l yX7_marks wsX7_marks { frames := 0, cells := 0, slots := 0, locals := 0 } D (tyG cI cZ) [.ref (md 0)] [(md 0, .inr (7, [.int (nI q), .int (nI (nn q)), .ref (md 1), .ref (md 2), .ref (md 3), .ref (md 4), .ref (md 5), .ref (md 6), .ref (md 7), .ref (md 8), .ref (md 9), .ref (md 10), .ref (md 11), .ref (md 12), .ref (md 13), .ref (md 14), .ref (md 15), .ref (md 16), .int (nI w), .ref (md 17)])), (md 17, .inl (cZ, 169, .inl (bF mk)))] (.int (nI (sumq (fun t => pcn (ln t)) w))) := by
  refine Met.ofW (cc := cX7_marks) (maxL := 3) (ret := some .int) (by decide) rfl ?_
  intro p e s m args below meth c s₁ B hml hv
  obtain ⟨rfl, hP, hK, hN⟩ := hv
  have hx := B.exec
  have hb := B.bytes
  have hr := B.returns
  have hts := atoms_spec (ws := wsX7_marks) B.pre
  have hown : s.vm.findClass RX7 = some m.cls := findClass_of_methodNamed B.named
  have hlocks := B.notSynchronized
  have hf59 := hts (.fieldLink RX7 59 "FinitePlanesModel" "isMarked" "[Z") (by decide +kernel)
  have hiX7 : ∀ w ∈ u_ws RX7 TX7 20, w ∈ wsX7_marks := by decide +kernel
  have hl := lv_entry ([.ref (md 0)]) (n := 3) (Nat.le_of_ble_eq_true rfl)
  rw [lg_entry_eq]
  generalize (lg_sl ([.ref (md 0)]) ++ List.replicate (3 - (lg_sl ([.ref (md 0)])).length) Slot.unset).toArray = ls at hl ⊢
  have hl : lv_has ls 3 [(0, .ref (md 0))] := hl
  refine lv_iconst (v := nI 0) hx hb dX7_marks_0 (by decide) ?_
  refine lv_istore_n (lv' := [(1, .int (nI 0)), (0, .ref (md 0))]) hx hb dX7_marks_1 rfl hl (by decide) rfl (fun ls hl => ?_)
  refine lv_iconst (v := nI 0) hx hb dX7_marks_2 (by decide) ?_
  refine lv_istore_n (lv' := [(2, .int (nI 0)), (1, .int (nI 0)), (0, .ref (md 0))]) hx hb dX7_marks_3 rfl hl (by decide) rfl (fun ls hl => ?_)
  have L4 : ∀ (N4 : Nat) (i : Nat) (x : Nat) (ls : Array Slot), 169 - i < N4 → (i ≤ 169) → (x = cnt mk i) → lv_has ls 3 [(0, .ref (md 0)), (1, .int (nI x)), (2, .int (nI i))] → WR p l e wsX7_marks { frames := 0, cells := 0, slots := 0, locals := 0 } s m [.ref (md 0)] below meth c (.int (nI (sumq (fun t => pcn (ln t)) w))) 4 ls [] := by
    intro N4
    induction N4 with
    | zero => intro i x ls hN; exact absurd hN (Nat.not_lt_zero _)
    | succ N4 ih4 =>
      intro i x ls hN4 k_i k_x hl
      have hc := cnt_le mk i
      refine lv_iload_n hx hb dX7_marks_4 rfl (lv_at hl 2 rfl) ?_
      refine lv_sipush (v := nI 169) hx hb dX7_marks_5 (by decide) ?_
      refine nv_icmp_ge (tgt := 34) hx hb (by omega) (by decide) dX7_marks_8 (by decide) (fun c8 => ?_) (fun c8 => ?_)
      · refine lv_iload_n hx hb dX7_marks_34 rfl (lv_at hl 1 rfl) ?_
        exact ctR_ret (v := (nI x)) hx hb hr rfl dX7_marks_35 hlocks (by rw [k_x, show i = 169 by omega, marks_eq k_t k_b k_w])
      · refine lv_aload_n hx hb dX7_marks_11 rfl (lv_at hl 0 rfl) ?_
        refine va_get (D := D) (ci := 7) (v := .ref (md 17)) (C := RX7) (T := TX7) (N := 20) hx hb hts hiX7 hown hK hP 0 rfl rfl 19 (by decide) hf59 (fun _ h9 => h9) rfl dX7_marks_12 ?_
        refine lv_iload_n hx hb dX7_marks_15 rfl (lv_at hl 2 rfl) ?_
        refine nv_zald hx hb hK hP 1 1 rfl rfl (by omega) (by decide) dX7_marks_16 ?_
        refine nv_ifb_eq (tgt := 26) hx hb dX7_marks_17 (by decide) (fun c17 => ?_) (fun c17 => ?_)
        · refine lv_iload_n hx hb dX7_marks_26 rfl (lv_at hl 1 rfl) ?_
          refine lv_istore_n (lv' := [(1, .int (nI x)), (0, .ref (md 0)), (2, .int (nI i))]) hx hb dX7_marks_27 rfl hl (by decide) rfl (fun ls hl => ?_)
          refine lv_iinc (v := nI (i + 1)) (lv' := [(2, .int (nI (i + 1))), (1, .int (nI x)), (0, .ref (md 0))]) hx hb dX7_marks_28 hl (k := 2) rfl (nI_inc i) (by decide) rfl (fun ls hl => ?_)
          refine lv_goto (tgt := 4) hx hb dX7_marks_31 (by decide) ?_
          exact ih4 (i + 1) x ls (by omega) (by omega) (by rw [cnt, c17, k_x]; rfl) (lv_sub hl [2, 1, 0] rfl)
        · refine lv_iload_n hx hb dX7_marks_20 rfl (lv_at hl 1 rfl) ?_
          refine lv_iconst (v := nI 1) hx hb dX7_marks_21 (by decide) ?_
          refine nv_addE (r := x + 1) hx hb rfl dX7_marks_22 ?_
          refine lv_goto (tgt := 27) hx hb dX7_marks_23 (by decide) ?_
          refine lv_istore_n (lv' := [(1, .int (nI (x + 1))), (0, .ref (md 0)), (2, .int (nI i))]) hx hb dX7_marks_27 rfl hl (by decide) rfl (fun ls hl => ?_)
          refine lv_iinc (v := nI (i + 1)) (lv' := [(2, .int (nI (i + 1))), (1, .int (nI (x + 1))), (0, .ref (md 0))]) hx hb dX7_marks_28 hl (k := 2) rfl (nI_inc i) (by decide) rfl (fun ls hl => ?_)
          refine lv_goto (tgt := 4) hx hb dX7_marks_31 (by decide) ?_
          exact ih4 (i + 1) (x + 1) ls (by omega) (by omega) (by rw [cnt, c17, k_x]; rfl) (lv_sub hl [2, 1, 0] rfl)
  exact L4 (169 - 0 + 1) 0 0 ls (by omega) (Nat.zero_le _) rfl (lv_sub hl [2, 1, 0] rfl)

set_option maxHeartbeats 4000000 in
set_option maxRecDepth 100000 in
theorem c_X7_table (l : Launch) (D : va_G) (cI cZ : ClassId) (md : Nat → Nat) (q : Nat) (w : Nat) (mk : Nat → Bool) (k_w : w ≤ 13) (x1 : Int32) : CtW (S := (Nat) × (Nat → Bool)) l yX7_table wsX7_table { frames := 1, cells := 0, slots := 0, locals := 22 } D (tyG cI cZ) [.ref (md 0), .int x1] [(md 0, .inr (7, [.int (nI q), .int (nI (nn q)), .ref (md 1), .ref (md 2), .ref (md 3), .ref (md 4), .ref (md 5), .ref (md 6), .ref (md 7), .ref (md 8), .ref (md 9), .ref (md 10), .ref (md 11), .ref (md 12), .ref (md 13), .ref (md 14), .ref (md 15), .ref (md 16), .int (nI w), .ref (md 17)])), (md 17, .inl (cZ, 169, .inl (bF mk)))] (fun u => (fun (w3 : Nat) (mk3 : Nat → Bool) => tabK w mk x1 w3 mk3) u.1 u.2) (fun u => (fun (w3 : Nat) (mk3 : Nat → Bool) => some (.int (tabZ w x1))) u.1 u.2) (fun u => (fun (w3 : Nat) (mk3 : Nat → Bool) => [(md 0, .inr (7, [.int (nI q), .int (nI (nn q)), .ref (md 1), .ref (md 2), .ref (md 3), .ref (md 4), .ref (md 5), .ref (md 6), .ref (md 7), .ref (md 8), .ref (md 9), .ref (md 10), .ref (md 11), .ref (md 12), .ref (md 13), .ref (md 14), .ref (md 15), .ref (md 16), .int (nI w3), .ref (md 17)])), (md 17, .inl (cZ, 169, .inl (bF mk3)))]) u.1 u.2) := by
  intro sz; refine Met.ofW (cc := cX7_table) (maxL := 4) (ret := some .int) (by decide) rfl ?_
  intro p e s m args below meth c s₁ B hml hv
  obtain ⟨rfl, hsz, hP, hK, hD0, hN⟩ := hv
  have hx := B.exec
  have hb := B.bytes
  have hr := B.returns
  have hts := atoms_spec (ws := wsX7_table) B.pre
  have hown : s.vm.findClass RX7 = some m.cls := findClass_of_methodNamed B.named
  have hlocks := B.notSynchronized
  subst hsz
  have hD := hD0.self (sz := s.heap.size)
  generalize hAe : va_A [(md 0, .inr (7, [.int (nI q), .int (nI (nn q)), .ref (md 1), .ref (md 2), .ref (md 3), .ref (md 4), .ref (md 5), .ref (md 6), .ref (md 7), .ref (md 8), .ref (md 9), .ref (md 10), .ref (md 11), .ref (md 12), .ref (md 13), .ref (md 14), .ref (md 15), .ref (md 16), .int (nI w), .ref (md 17)])), (md 17, .inl (cZ, 169, .inl (bF mk)))] s.heap.size = A at hD ⊢
  have hA : ∀ q : Nat, s.heap.size ≤ q → A q := fun q h => by rw [← hAe]; exact Or.inr h
  have hS : va_S A s.heap s.heap [] := va_S.rf
  have hP : va_P D vwCl [(md 0, .inr (7, [.int (nI q), .int (nI (nn q)), .ref (md 1), .ref (md 2), .ref (md 3), .ref (md 4), .ref (md 5), .ref (md 6), .ref (md 7), .ref (md 8), .ref (md 9), .ref (md 10), .ref (md 11), .ref (md 12), .ref (md 13), .ref (md 14), .ref (md 15), .ref (md 16), .int (nI w), .ref (md 17)])), (md 17, .inl (cZ, 169, .inl (bF mk)))] s.heap := hP
  have hf59 := hts (.fieldLink RX7 59 "FinitePlanesModel" "isMarked" "[Z") (by decide +kernel)
  have hf66 := hts (.fieldLink RX7 66 "FinitePlanesModel" "w" "I") (by decide +kernel)
  have hiX7 : ∀ w ∈ u_ws RX7 TX7 20, w ∈ wsX7_table := by decide +kernel
  have hl := lv_entry ([.ref (md 0), .int x1]) (n := 4) (Nat.le_of_ble_eq_true rfl)
  rw [lg_entry_eq]
  generalize (lg_sl ([.ref (md 0), .int x1]) ++ List.replicate (4 - (lg_sl ([.ref (md 0), .int x1])).length) Slot.unset).toArray = ls at hl ⊢
  have hl : lv_has ls 4 [(0, .ref (md 0)), (1, .int x1)] := hl
  refine lv_iload_n hx hb dX7_table_0 rfl (lv_at hl 1 rfl) ?_
  refine lv_iconst (v := nI 1) hx hb dX7_table_1 (by decide) ?_
  refine lv_bipush (v := nI 13) hx hb dX7_table_2 (by decide) ?_
  refine ctR_S (As := [.int x1, .int (nI 1), .int (nI 13)]) (rest := []) (r := .int (nI (inR x1 1 13).toNat)) ⟨hx, hb, hml, hown, hts⟩ (c_X7_isFrom l D cI cZ x1 1 13 (by omega) (by omega)) (va_cwS 3 hts gX7_table_X7_isFrom rfl rfl rfl hdS_X7_isFrom ⟨Nat.le_of_ble_eq_true rfl, Nat.le_of_ble_eq_true rfl⟩) hK hN hP [] rfl rfl hl.1 rfl (Nat.le_of_ble_eq_true rfl) ⟨Nat.zero_le _, Nat.zero_le _⟩ dX7_table_4 ?_
  refine nv_ifb_ne (tgt := 13) hx hb dX7_table_7 (by decide) (fun c7 => ?_) (fun c7 => ?_)
  · have h9 := c7
    obtain ⟨j, hj1, hj, rfl⟩ := inR_of (by decide) c7
    refine lv_aload_n hx hb dX7_table_13 rfl (lv_at hl 0 rfl) ?_
    refine va_get (D := D) (ci := 7) (v := .int (nI w)) (C := RX7) (T := TX7) (N := 20) hx hb hts hiX7 hown hK hP 0 rfl rfl 18 (by decide) hf66 (fun _ h9 => h9) rfl dX7_table_14 ?_
    refine lv_istore_n (lv' := [(2, .int (nI w)), (0, .ref (md 0)), (1, .int (nI j))]) hx hb dX7_table_17 rfl hl (by decide) rfl (fun ls hl => ?_)
    refine lv_aload_n hx hb dX7_table_18 rfl (lv_at hl 1 rfl) ?_
    refine lv_iload_n hx hb dX7_table_19 rfl (lv_at hl 2 rfl) ?_
    refine va_put (D := D) (ci := 7) (v := .int (nI j)) (ty := .int) (C := RX7) (T := TX7) (N := 20) hx hb hts hiX7 tyX7 tyX7_ok nmX7 hown hK hP hD hS 0 rfl rfl 18 (by decide) hf66 (fun _ h9 => h9) rfl (by decide +kernel) rfl rfl (Nat.le_of_ble_eq_true rfl) dX7_table_20 (fun H locs hP hD hS => ?_)
    have hP : va_P D vwCl [(md 0, .inr (7, [.int (nI q), .int (nI (nn q)), .ref (md 1), .ref (md 2), .ref (md 3), .ref (md 4), .ref (md 5), .ref (md 6), .ref (md 7), .ref (md 8), .ref (md 9), .ref (md 10), .ref (md 11), .ref (md 12), .ref (md 13), .ref (md 14), .ref (md 15), .ref (md 16), .int (nI j), .ref (md 17)])), (md 17, .inl (cZ, 169, .inl (bF mk)))] H := hP
    have hD : va_D A [(md 0, .inr (7, [.int (nI q), .int (nI (nn q)), .ref (md 1), .ref (md 2), .ref (md 3), .ref (md 4), .ref (md 5), .ref (md 6), .ref (md 7), .ref (md 8), .ref (md 9), .ref (md 10), .ref (md 11), .ref (md 12), .ref (md 13), .ref (md 14), .ref (md 15), .ref (md 16), .int (nI j), .ref (md 17)])), (md 17, .inl (cZ, 169, .inl (bF mk)))] := hD
    refine lv_iconst (v := nI 0) hx hb dX7_table_23 (by decide) ?_
    refine lv_istore_n (lv' := [(3, .int (nI 0)), (2, .int (nI w)), (0, .ref (md 0)), (1, .int (nI j))]) hx hb dX7_table_24 rfl hl (by decide) rfl (fun ls hl => ?_)
    have L25 : ∀ (N25 : Nat) (i : Nat) (m1 : Nat → Bool) (ls : Array Slot) (H : Heap) (locs : List Loc), 169 - i < N25 → (i ≤ 169) → (∀ t, t < i → m1 t = false) → lv_has ls 4 [(0, .ref (md 0)), (1, .int (nI j)), (2, .int (nI w)), (3, .int (nI i))] → va_P D vwCl [(md 0, .inr (7, [.int (nI q), .int (nI (nn q)), .ref (md 1), .ref (md 2), .ref (md 3), .ref (md 4), .ref (md 5), .ref (md 6), .ref (md 7), .ref (md 8), .ref (md 9), .ref (md 10), .ref (md 11), .ref (md 12), .ref (md 13), .ref (md 14), .ref (md 15), .ref (md 16), .int (nI j), .ref (md 17)])), (md 17, .inl (cZ, 169, .inl (bF m1)))] H → va_D A [(md 0, .inr (7, [.int (nI q), .int (nI (nn q)), .ref (md 1), .ref (md 2), .ref (md 3), .ref (md 4), .ref (md 5), .ref (md 6), .ref (md 7), .ref (md 8), .ref (md 9), .ref (md 10), .ref (md 11), .ref (md 12), .ref (md 13), .ref (md 14), .ref (md 15), .ref (md 16), .int (nI j), .ref (md 17)])), (md 17, .inl (cZ, 169, .inl (bF m1)))] → va_S A s.heap H locs → WG p l e wsX7_table { frames := 1, cells := 0, slots := 0, locals := 22 } s m [.ref (md 0), .int (nI j)] below meth c H locs (CQ (S := (Nat) × (Nat → Bool)) D (fun u => (fun (w3 : Nat) (mk3 : Nat → Bool) => tabK w mk (nI j) w3 mk3) u.1 u.2) (fun u => (fun (w3 : Nat) (mk3 : Nat → Bool) => some (.int (tabZ w (nI j)))) u.1 u.2) (fun u => (fun (w3 : Nat) (mk3 : Nat → Bool) => [(md 0, .inr (7, [.int (nI q), .int (nI (nn q)), .ref (md 1), .ref (md 2), .ref (md 3), .ref (md 4), .ref (md 5), .ref (md 6), .ref (md 7), .ref (md 8), .ref (md 9), .ref (md 10), .ref (md 11), .ref (md 12), .ref (md 13), .ref (md 14), .ref (md 15), .ref (md 16), .int (nI w3), .ref (md 17)])), (md 17, .inl (cZ, 169, .inl (bF mk3)))]) u.1 u.2) A) A 25 ls [] := by
      intro N25
      induction N25 with
      | zero => intro i m1 ls H locs hN; exact absurd hN (Nat.not_lt_zero _)
      | succ N25 ih25 =>
        intro i m1 ls H locs hN25 k_i k_s hl hP hD hS
        refine lv_iload_n hx hb dX7_table_25 rfl (lv_at hl 3 rfl) ?_
        refine lv_sipush (v := nI 169) hx hb dX7_table_26 (by decide) ?_
        refine nv_icmp_ge (tgt := 45) hx hb (by omega) (by decide) dX7_table_29 (by decide) (fun c29 => ?_) (fun c29 => ?_)
        · refine lv_iload_n hx hb dX7_table_45 rfl (lv_at hl 2 rfl) ?_
          exact ctW_retI (v := (nI w)) (j, m1) hx hb hr rfl dX7_table_46 hlocks hS hP hD (by dsimp only; exact (tabK_yes h9 (nv_nI (by omega)).symm (fun t ht => k_s t (by omega)))) (by rw [tabZ, if_neg (bool_nf h9)])
        · refine lv_aload_n hx hb dX7_table_32 rfl (lv_at hl 0 rfl) ?_
          refine va_get (D := D) (ci := 7) (v := .ref (md 17)) (C := RX7) (T := TX7) (N := 20) hx hb hts hiX7 hown hK hP 0 rfl rfl 19 (by decide) hf59 (fun _ h9 => h9) rfl dX7_table_33 ?_
          refine lv_iload_n hx hb dX7_table_36 rfl (lv_at hl 3 rfl) ?_
          refine lv_iconst (v := nI 0) hx hb dX7_table_37 (by decide) ?_
          refine nv_zast hx hb hK hP hD hS 1 1 rfl rfl false (by omega) (by decide) dX7_table_38 (fun H locs hP hD hS => ?_)
          have hP : va_P D vwCl [(md 0, .inr (7, [.int (nI q), .int (nI (nn q)), .ref (md 1), .ref (md 2), .ref (md 3), .ref (md 4), .ref (md 5), .ref (md 6), .ref (md 7), .ref (md 8), .ref (md 9), .ref (md 10), .ref (md 11), .ref (md 12), .ref (md 13), .ref (md 14), .ref (md 15), .ref (md 16), .int (nI j), .ref (md 17)])), (md 17, .inl (cZ, 169, .inl (bF (upB m1 i false))))] H := hP
          have hD : va_D A [(md 0, .inr (7, [.int (nI q), .int (nI (nn q)), .ref (md 1), .ref (md 2), .ref (md 3), .ref (md 4), .ref (md 5), .ref (md 6), .ref (md 7), .ref (md 8), .ref (md 9), .ref (md 10), .ref (md 11), .ref (md 12), .ref (md 13), .ref (md 14), .ref (md 15), .ref (md 16), .int (nI j), .ref (md 17)])), (md 17, .inl (cZ, 169, .inl (bF (upB m1 i false))))] := hD
          refine lv_iinc (v := nI (i + 1)) (lv' := [(3, .int (nI (i + 1))), (0, .ref (md 0)), (1, .int (nI j)), (2, .int (nI w))]) hx hb dX7_table_39 hl (k := 3) rfl (nI_inc i) (by decide) rfl (fun ls hl => ?_)
          refine lv_goto (tgt := 25) hx hb dX7_table_42 (by decide) ?_
          exact ih25 (i + 1) (upB m1 i false) ls _ _ (by omega) (by omega) (fun t ht => (Nat.lt_succ_iff_lt_or_eq.mp ht).elim (fun h => by rw [upB_n (by omega)]; exact k_s t h) (fun h => by rw [h, upB_s])) (lv_sub hl [1, 2, 3, 0] rfl) hP hD hS
    exact L25 (169 - 0 + 1) 0 mk ls _ _ (by omega) (Nat.zero_le _) (fun t h => absurd h (Nat.not_lt_zero t)) (lv_sub hl [2, 3, 1, 0] rfl) hP hD hS
  · refine lv_bipush (v := (-2)) hx hb dX7_table_10 (by decide) ?_
    exact ctW_retI (v := (-2)) (w, mk) hx hb hr rfl dX7_table_12 hlocks hS hP hD (by dsimp only; exact (tabK_no c7)) (by rw [tabZ, if_pos c7])

set_option maxHeartbeats 4000000 in
set_option maxRecDepth 100000 in
theorem c_X7_mark (l : Launch) (D : va_G) (cI cZ : ClassId) (md : Nat → Nat) (q : Nat) (w : Nat) (mk : Nat → Bool) (ln : Nat → Nat) (k_t : TRl ln mk) (k_w : w ≤ 13) (k_w1 : 1 ≤ w) (k_l : LNK ln) (k_b : bitW ln w) (xa : Int32) (xb : Int32) (b : Bool) : CtW (S := (Nat → Bool)) l yX7_mark wsX7_mark { frames := 1, cells := 0, slots := 0, locals := 22 } D (tyG cI cZ) [.ref (md 0), .int xa, .int xb, .int (nI (b).toNat)] [(md 0, .inr (7, [.int (nI q), .int (nI (nn q)), .ref (md 1), .ref (md 2), .ref (md 3), .ref (md 4), .ref (md 5), .ref (md 6), .ref (md 7), .ref (md 8), .ref (md 9), .ref (md 10), .ref (md 11), .ref (md 12), .ref (md 13), .ref (md 14), .ref (md 15), .ref (md 16), .int (nI w), .ref (md 17)])), (md 17, .inl (cZ, 169, .inl (bF mk)))] (fun (mk3 : Nat → Bool) => mk3 = marK w mk xa xb b) (fun (mk3 : Nat → Bool) => some (.int (marZ w ln xa xb))) (fun (mk3 : Nat → Bool) => [(md 0, .inr (7, [.int (nI q), .int (nI (nn q)), .ref (md 1), .ref (md 2), .ref (md 3), .ref (md 4), .ref (md 5), .ref (md 6), .ref (md 7), .ref (md 8), .ref (md 9), .ref (md 10), .ref (md 11), .ref (md 12), .ref (md 13), .ref (md 14), .ref (md 15), .ref (md 16), .int (nI w), .ref (md 17)])), (md 17, .inl (cZ, 169, .inl (bF mk3)))]) := by
  intro sz; refine Met.ofW (cc := cX7_mark) (maxL := 5) (ret := some .int) (by decide) rfl ?_
  intro p e s m args below meth c s₁ B hml hv
  obtain ⟨rfl, hsz, hP, hK, hD0, hN⟩ := hv
  have hx := B.exec
  have hb := B.bytes
  have hr := B.returns
  have hts := atoms_spec (ws := wsX7_mark) B.pre
  have hown : s.vm.findClass RX7 = some m.cls := findClass_of_methodNamed B.named
  have hlocks := B.notSynchronized
  subst hsz
  have hD := hD0.self (sz := s.heap.size)
  generalize hAe : va_A [(md 0, .inr (7, [.int (nI q), .int (nI (nn q)), .ref (md 1), .ref (md 2), .ref (md 3), .ref (md 4), .ref (md 5), .ref (md 6), .ref (md 7), .ref (md 8), .ref (md 9), .ref (md 10), .ref (md 11), .ref (md 12), .ref (md 13), .ref (md 14), .ref (md 15), .ref (md 16), .int (nI w), .ref (md 17)])), (md 17, .inl (cZ, 169, .inl (bF mk)))] s.heap.size = A at hD ⊢
  have hA : ∀ q : Nat, s.heap.size ≤ q → A q := fun q h => by rw [← hAe]; exact Or.inr h
  have hS : va_S A s.heap s.heap [] := va_S.rf
  have hP : va_P D vwCl [(md 0, .inr (7, [.int (nI q), .int (nI (nn q)), .ref (md 1), .ref (md 2), .ref (md 3), .ref (md 4), .ref (md 5), .ref (md 6), .ref (md 7), .ref (md 8), .ref (md 9), .ref (md 10), .ref (md 11), .ref (md 12), .ref (md 13), .ref (md 14), .ref (md 15), .ref (md 16), .int (nI w), .ref (md 17)])), (md 17, .inl (cZ, 169, .inl (bF mk)))] s.heap := hP
  have hf59 := hts (.fieldLink RX7 59 "FinitePlanesModel" "isMarked" "[Z") (by decide +kernel)
  have hf66 := hts (.fieldLink RX7 66 "FinitePlanesModel" "w" "I") (by decide +kernel)
  have hiX7 : ∀ w ∈ u_ws RX7 TX7 20, w ∈ wsX7_mark := by decide +kernel
  have hl := lv_entry ([.ref (md 0), .int xa, .int xb, .int (nI (b).toNat)]) (n := 5) (Nat.le_of_ble_eq_true rfl)
  rw [lg_entry_eq]
  generalize (lg_sl ([.ref (md 0), .int xa, .int xb, .int (nI (b).toNat)]) ++ List.replicate (5 - (lg_sl ([.ref (md 0), .int xa, .int xb, .int (nI (b).toNat)])).length) Slot.unset).toArray = ls at hl ⊢
  have hl : lv_has ls 5 [(0, .ref (md 0)), (1, .int xa), (2, .int xb), (3, .int (nI (b).toNat))] := hl
  refine lv_iload_n hx hb dX7_mark_0 rfl (lv_at hl 1 rfl) ?_
  refine lv_iconst (v := nI 0) hx hb dX7_mark_1 (by decide) ?_
  refine lv_aload_n hx hb dX7_mark_2 rfl (lv_at hl 0 rfl) ?_
  refine va_get (D := D) (ci := 7) (v := .int (nI w)) (C := RX7) (T := TX7) (N := 20) hx hb hts hiX7 hown hK hP 0 rfl rfl 18 (by decide) hf66 (fun _ h9 => h9) rfl dX7_mark_3 ?_
  refine lv_iconst (v := nI 1) hx hb dX7_mark_6 (by decide) ?_
  refine nv_subE (r := w - 1) hx hb (by omega) rfl dX7_mark_7 ?_
  refine ctR_S (As := [.int xa, .int (nI 0), .int (nI (w - 1))]) (rest := []) (r := .int (nI (inR xa 0 (w - 1)).toNat)) ⟨hx, hb, hml, hown, hts⟩ (c_X7_isFrom l D cI cZ xa 0 (w - 1) (by omega) (by omega)) (va_cwS 3 hts gX7_mark_X7_isFrom rfl rfl rfl hdS_X7_isFrom ⟨Nat.le_of_ble_eq_true rfl, Nat.le_of_ble_eq_true rfl⟩) hK hN hP [] rfl rfl hl.1 rfl (Nat.le_of_ble_eq_true rfl) ⟨Nat.zero_le _, Nat.zero_le _⟩ dX7_mark_8 ?_
  refine nv_top (v' := .int (nI (inB xa w).toNat)) (by rw [inR_B k_w1]) ?_
  refine nv_ifb_eq (tgt := 28) hx hb dX7_mark_11 (by decide) (fun c11 => ?_) (fun c11 => ?_)
  · refine lv_bipush (v := (-2)) hx hb dX7_mark_28 (by decide) ?_
    exact ctW_retI (v := (-2)) mk hx hb hr rfl dX7_mark_30 hlocks hS hP hD (by first | rw [marK, if_pos c11] | rw [marK, if_neg (bool_nf c11), if_pos c25]) (by first | rw [marZ, if_pos c11] | rw [marZ, if_neg (bool_nf c11), if_pos c25])
  · refine lv_iload_n hx hb dX7_mark_14 rfl (lv_at hl 2 rfl) ?_
    refine lv_iconst (v := nI 0) hx hb dX7_mark_15 (by decide) ?_
    refine lv_aload_n hx hb dX7_mark_16 rfl (lv_at hl 0 rfl) ?_
    refine va_get (D := D) (ci := 7) (v := .int (nI w)) (C := RX7) (T := TX7) (N := 20) hx hb hts hiX7 hown hK hP 0 rfl rfl 18 (by decide) hf66 (fun _ h9 => h9) rfl dX7_mark_17 ?_
    refine lv_iconst (v := nI 1) hx hb dX7_mark_20 (by decide) ?_
    refine nv_subE (r := w - 1) hx hb (by omega) rfl dX7_mark_21 ?_
    refine ctR_S (As := [.int xb, .int (nI 0), .int (nI (w - 1))]) (rest := []) (r := .int (nI (inR xb 0 (w - 1)).toNat)) ⟨hx, hb, hml, hown, hts⟩ (c_X7_isFrom l D cI cZ xb 0 (w - 1) (by omega) (by omega)) (va_cwS 3 hts gX7_mark_X7_isFrom rfl rfl rfl hdS_X7_isFrom ⟨Nat.le_of_ble_eq_true rfl, Nat.le_of_ble_eq_true rfl⟩) hK hN hP [] rfl rfl hl.1 rfl (Nat.le_of_ble_eq_true rfl) ⟨Nat.zero_le _, Nat.zero_le _⟩ dX7_mark_22 ?_
    refine nv_top (v' := .int (nI (inB xb w).toNat)) (by rw [inR_B k_w1]) ?_
    refine nv_ifb_ne (tgt := 31) hx hb dX7_mark_25 (by decide) (fun c25 => ?_) (fun c25 => ?_)
    · have h1 := c11
      have h2 := c25
      obtain ⟨ja, hja, rfl⟩ := inB_of (by omega) c11
      obtain ⟨jb, hjb, rfl⟩ := inB_of (by omega) c25
      refine lv_aload_n hx hb dX7_mark_31 rfl (lv_at hl 0 rfl) ?_
      refine va_get (D := D) (ci := 7) (v := .ref (md 17)) (C := RX7) (T := TX7) (N := 20) hx hb hts hiX7 hown hK hP 0 rfl rfl 19 (by decide) hf59 (fun _ h9 => h9) rfl dX7_mark_32 ?_
      refine lv_bipush (v := nI 13) hx hb dX7_mark_35 (by decide) ?_
      refine lv_iload_n hx hb dX7_mark_37 rfl (lv_at hl 1 rfl) ?_
      refine nv_mulE (r := 13 * ja) hx hb rfl dX7_mark_38 ?_
      refine lv_iload_n hx hb dX7_mark_39 rfl (lv_at hl 2 rfl) ?_
      refine nv_addE (r := (13 * ja) + jb) hx hb rfl dX7_mark_40 ?_
      refine nv_zald hx hb hK hP 1 1 rfl rfl (by omega) (by decide) dX7_mark_41 ?_
      refine nv_ifb_eq (tgt := 49) hx hb dX7_mark_42 (by decide) (fun c42 => ?_) (fun c42 => ?_)
      · refine lv_iconst (v := nI 0) hx hb dX7_mark_49 (by decide) ?_
        refine lv_istore (lv' := [(4, .int (nI 0)), (0, .ref (md 0)), (1, .int (nI ja)), (2, .int (nI jb)), (3, .int (nI (b).toNat))]) hx hb dX7_mark_50 hl (by decide) rfl (fun ls hl => ?_)
        refine lv_aload_n hx hb dX7_mark_52 rfl (lv_at hl 1 rfl) ?_
        refine va_get (D := D) (ci := 7) (v := .ref (md 17)) (C := RX7) (T := TX7) (N := 20) hx hb hts hiX7 hown hK hP 0 rfl rfl 19 (by decide) hf59 (fun _ h9 => h9) rfl dX7_mark_53 ?_
        refine lv_bipush (v := nI 13) hx hb dX7_mark_56 (by decide) ?_
        refine lv_iload_n hx hb dX7_mark_58 rfl (lv_at hl 2 rfl) ?_
        refine nv_mulE (r := 13 * ja) hx hb rfl dX7_mark_59 ?_
        refine lv_iload_n hx hb dX7_mark_60 rfl (lv_at hl 3 rfl) ?_
        refine nv_addE (r := (13 * ja) + jb) hx hb rfl dX7_mark_61 ?_
        refine lv_iload_n hx hb dX7_mark_62 rfl (lv_at hl 4 rfl) ?_
        refine nv_zast hx hb hK hP hD hS 1 1 rfl rfl b (by omega) (by decide) dX7_mark_63 (fun H locs hP hD hS => ?_)
        have hP : va_P D vwCl [(md 0, .inr (7, [.int (nI q), .int (nI (nn q)), .ref (md 1), .ref (md 2), .ref (md 3), .ref (md 4), .ref (md 5), .ref (md 6), .ref (md 7), .ref (md 8), .ref (md 9), .ref (md 10), .ref (md 11), .ref (md 12), .ref (md 13), .ref (md 14), .ref (md 15), .ref (md 16), .int (nI w), .ref (md 17)])), (md 17, .inl (cZ, 169, .inl (bF (upB mk ((13 * ja) + jb) b))))] H := hP
        have hD : va_D A [(md 0, .inr (7, [.int (nI q), .int (nI (nn q)), .ref (md 1), .ref (md 2), .ref (md 3), .ref (md 4), .ref (md 5), .ref (md 6), .ref (md 7), .ref (md 8), .ref (md 9), .ref (md 10), .ref (md 11), .ref (md 12), .ref (md 13), .ref (md 14), .ref (md 15), .ref (md 16), .int (nI w), .ref (md 17)])), (md 17, .inl (cZ, 169, .inl (bF (upB mk ((13 * ja) + jb) b))))] := hD
        refine lv_iload hx hb dX7_mark_64 (lv_at hl 0 rfl) ?_
        exact ctW_retI (v := (nI 0)) (upB mk ((13 * ja) + jb) b) hx hb hr rfl dX7_mark_66 hlocks hS hP hD (by rw [marK, if_neg (bool_nf h1), if_neg (bool_nf h2), nv_nI (by omega), nv_nI (by omega)]) (by rw [marZ, if_neg (bool_nf h1), if_neg (bool_nf h2), nv_nI (by omega), nv_nI (by omega), ← k_t ja jb (by omega) (by omega), c42]; rfl)
      · refine lv_iconst (v := nI 1) hx hb dX7_mark_45 (by decide) ?_
        refine lv_goto (tgt := 50) hx hb dX7_mark_46 (by decide) ?_
        refine lv_istore (lv' := [(4, .int (nI 1)), (0, .ref (md 0)), (1, .int (nI ja)), (2, .int (nI jb)), (3, .int (nI (b).toNat))]) hx hb dX7_mark_50 hl (by decide) rfl (fun ls hl => ?_)
        refine lv_aload_n hx hb dX7_mark_52 rfl (lv_at hl 1 rfl) ?_
        refine va_get (D := D) (ci := 7) (v := .ref (md 17)) (C := RX7) (T := TX7) (N := 20) hx hb hts hiX7 hown hK hP 0 rfl rfl 19 (by decide) hf59 (fun _ h9 => h9) rfl dX7_mark_53 ?_
        refine lv_bipush (v := nI 13) hx hb dX7_mark_56 (by decide) ?_
        refine lv_iload_n hx hb dX7_mark_58 rfl (lv_at hl 2 rfl) ?_
        refine nv_mulE (r := 13 * ja) hx hb rfl dX7_mark_59 ?_
        refine lv_iload_n hx hb dX7_mark_60 rfl (lv_at hl 3 rfl) ?_
        refine nv_addE (r := (13 * ja) + jb) hx hb rfl dX7_mark_61 ?_
        refine lv_iload_n hx hb dX7_mark_62 rfl (lv_at hl 4 rfl) ?_
        refine nv_zast hx hb hK hP hD hS 1 1 rfl rfl b (by omega) (by decide) dX7_mark_63 (fun H locs hP hD hS => ?_)
        have hP : va_P D vwCl [(md 0, .inr (7, [.int (nI q), .int (nI (nn q)), .ref (md 1), .ref (md 2), .ref (md 3), .ref (md 4), .ref (md 5), .ref (md 6), .ref (md 7), .ref (md 8), .ref (md 9), .ref (md 10), .ref (md 11), .ref (md 12), .ref (md 13), .ref (md 14), .ref (md 15), .ref (md 16), .int (nI w), .ref (md 17)])), (md 17, .inl (cZ, 169, .inl (bF (upB mk ((13 * ja) + jb) b))))] H := hP
        have hD : va_D A [(md 0, .inr (7, [.int (nI q), .int (nI (nn q)), .ref (md 1), .ref (md 2), .ref (md 3), .ref (md 4), .ref (md 5), .ref (md 6), .ref (md 7), .ref (md 8), .ref (md 9), .ref (md 10), .ref (md 11), .ref (md 12), .ref (md 13), .ref (md 14), .ref (md 15), .ref (md 16), .int (nI w), .ref (md 17)])), (md 17, .inl (cZ, 169, .inl (bF (upB mk ((13 * ja) + jb) b))))] := hD
        refine lv_iload hx hb dX7_mark_64 (lv_at hl 0 rfl) ?_
        exact ctW_retI (v := (nI 1)) (upB mk ((13 * ja) + jb) b) hx hb hr rfl dX7_mark_66 hlocks hS hP hD (by rw [marK, if_neg (bool_nf h1), if_neg (bool_nf h2), nv_nI (by omega), nv_nI (by omega)]) (by rw [marZ, if_neg (bool_nf h1), if_neg (bool_nf h2), nv_nI (by omega), nv_nI (by omega), ← k_t ja jb (by omega) (by omega), c42]; rfl)
    · refine lv_bipush (v := (-2)) hx hb dX7_mark_28 (by decide) ?_
      exact ctW_retI (v := (-2)) mk hx hb hr rfl dX7_mark_30 hlocks hS hP hD (by first | rw [marK, if_pos c11] | rw [marK, if_neg (bool_nf c11), if_pos c25]) (by first | rw [marZ, if_pos c11] | rw [marZ, if_neg (bool_nf c11), if_pos c25])

set_option maxHeartbeats 4000000 in
set_option maxRecDepth 100000 in
theorem c_X7_together (l : Launch) (D : va_G) (cI cZ : ClassId) (md : Nat → Nat) (q : Nat) (w : Nat) (mk : Nat → Bool) (ln : Nat → Nat) (k_t : TRl ln mk) (k_w : w ≤ 13) (k_w1 : 1 ≤ w) (k_l : LNK ln) (k_b : bitW ln w) (i : Nat) (j : Nat) (b : Bool) (k_1 : i < w) (k_2 : j < w) : CtR l yX7_together wsX7_together { frames := 0, cells := 0, slots := 0, locals := 0 } D (tyG cI cZ) [.ref (md 0), .int (nI i), .int (nI j), .int (nI (b).toNat)] [(md 0, .inr (7, [.int (nI q), .int (nI (nn q)), .ref (md 1), .ref (md 2), .ref (md 3), .ref (md 4), .ref (md 5), .ref (md 6), .ref (md 7), .ref (md 8), .ref (md 9), .ref (md 10), .ref (md 11), .ref (md 12), .ref (md 13), .ref (md 14), .ref (md 15), .ref (md 16), .int (nI w), .ref (md 17)])), (md 17, .inl (cZ, 169, .inl (bF mk)))] (.int (nI (togq ln w i j b))) := by
  refine Met.ofW (cc := cX7_together) (maxL := 6) (ret := some .int) (by decide) rfl ?_
  intro p e s m args below meth c s₁ B hml hv
  obtain ⟨rfl, hP, hK, hN⟩ := hv
  have hx := B.exec
  have hb := B.bytes
  have hr := B.returns
  have hts := atoms_spec (ws := wsX7_together) B.pre
  have hown : s.vm.findClass RX7 = some m.cls := findClass_of_methodNamed B.named
  have hlocks := B.notSynchronized
  have hf59 := hts (.fieldLink RX7 59 "FinitePlanesModel" "isMarked" "[Z") (by decide +kernel)
  have hf66 := hts (.fieldLink RX7 66 "FinitePlanesModel" "w" "I") (by decide +kernel)
  have hiX7 : ∀ w ∈ u_ws RX7 TX7 20, w ∈ wsX7_together := by decide +kernel
  have hl := lv_entry ([.ref (md 0), .int (nI i), .int (nI j), .int (nI (b).toNat)]) (n := 6) (Nat.le_of_ble_eq_true rfl)
  rw [lg_entry_eq]
  generalize (lg_sl ([.ref (md 0), .int (nI i), .int (nI j), .int (nI (b).toNat)]) ++ List.replicate (6 - (lg_sl ([.ref (md 0), .int (nI i), .int (nI j), .int (nI (b).toNat)])).length) Slot.unset).toArray = ls at hl ⊢
  have hl : lv_has ls 6 [(0, .ref (md 0)), (1, .int (nI i)), (2, .int (nI j)), (3, .int (nI (b).toNat))] := hl
  refine lv_iconst (v := nI 0) hx hb dX7_together_0 (by decide) ?_
  refine lv_istore (lv' := [(4, .int (nI 0)), (0, .ref (md 0)), (1, .int (nI i)), (2, .int (nI j)), (3, .int (nI (b).toNat))]) hx hb dX7_together_1 hl (by decide) rfl (fun ls hl => ?_)
  refine lv_iconst (v := nI 0) hx hb dX7_together_3 (by decide) ?_
  refine lv_istore (lv' := [(5, .int (nI 0)), (4, .int (nI 0)), (0, .ref (md 0)), (1, .int (nI i)), (2, .int (nI j)), (3, .int (nI (b).toNat))]) hx hb dX7_together_4 hl (by decide) rfl (fun ls hl => ?_)
  have L6 : ∀ (N6 : Nat) (t : Nat) (x : Nat) (ls : Array Slot), w - t < N6 → (t ≤ w) → (x = togq ln t i j b) → (x ≤ t) → lv_has ls 6 [(0, .ref (md 0)), (1, .int (nI i)), (2, .int (nI j)), (3, .int (nI (b).toNat)), (4, .int (nI x)), (5, .int (nI t))] → WR p l e wsX7_together { frames := 0, cells := 0, slots := 0, locals := 0 } s m [.ref (md 0), .int (nI i), .int (nI j), .int (nI (b).toNat)] below meth c (.int (nI (togq ln w i j b))) 6 ls [] := by
    intro N6
    induction N6 with
    | zero => intro t x ls hN; exact absurd hN (Nat.not_lt_zero _)
    | succ N6 ih6 =>
      intro t x ls hN6 k_i k_x k_c hl
      refine lv_iload hx hb dX7_together_6 (lv_at hl 5 rfl) ?_
      refine lv_aload_n hx hb dX7_together_8 rfl (lv_at hl 0 rfl) ?_
      refine va_get (D := D) (ci := 7) (v := .int (nI w)) (C := RX7) (T := TX7) (N := 20) hx hb hts hiX7 hown hK hP 0 rfl rfl 18 (by decide) hf66 (fun _ h9 => h9) rfl dX7_together_9 ?_
      refine nv_icmp_ge (tgt := 90) hx hb (by omega) (by omega) dX7_together_12 (by decide) (fun c12 => ?_) (fun c12 => ?_)
      · refine lv_iload hx hb dX7_together_90 (lv_at hl 4 rfl) ?_
        exact ctR_ret (v := (nI x)) hx hb hr rfl dX7_together_92 hlocks (by rw [k_x, show t = w by omega])
      · refine lv_aload_n hx hb dX7_together_15 rfl (lv_at hl 0 rfl) ?_
        refine va_get (D := D) (ci := 7) (v := .ref (md 17)) (C := RX7) (T := TX7) (N := 20) hx hb hts hiX7 hown hK hP 0 rfl rfl 19 (by decide) hf59 (fun _ h9 => h9) rfl dX7_together_16 ?_
        refine lv_iload_n hx hb dX7_together_19 rfl (lv_at hl 3 rfl) ?_
        refine nv_ifb_eq (tgt := 33) hx hb dX7_together_20 (by decide) (fun c20 => ?_) (fun c20 => ?_)
        · refine lv_bipush (v := nI 13) hx hb dX7_together_33 (by decide) ?_
          refine lv_iload hx hb dX7_together_35 (lv_at hl 5 rfl) ?_
          refine nv_mulE (r := 13 * t) hx hb rfl dX7_together_37 ?_
          refine lv_iload_n hx hb dX7_together_38 rfl (lv_at hl 1 rfl) ?_
          refine nv_addE (r := (13 * t) + i) hx hb rfl dX7_together_39 ?_
          refine nv_zald hx hb hK hP 1 1 rfl rfl (by omega) (by decide) dX7_together_40 ?_
          refine nv_ifb_eq (tgt := 80) hx hb dX7_together_41 (by decide) (fun c41 => ?_) (fun c41 => ?_)
          · refine lv_iload hx hb dX7_together_80 (lv_at hl 4 rfl) ?_
            refine lv_istore (lv' := [(4, .int (nI x)), (0, .ref (md 0)), (1, .int (nI i)), (2, .int (nI j)), (3, .int (nI (b).toNat)), (5, .int (nI t))]) hx hb dX7_together_82 hl (by decide) rfl (fun ls hl => ?_)
            refine lv_iinc (v := nI (t + 1)) (lv' := [(5, .int (nI (t + 1))), (4, .int (nI x)), (0, .ref (md 0)), (1, .int (nI i)), (2, .int (nI j)), (3, .int (nI (b).toNat))]) hx hb dX7_together_84 hl (k := 5) rfl (nI_inc t) (by decide) rfl (fun ls hl => ?_)
            refine lv_goto (tgt := 6) hx hb dX7_together_87 (by decide) ?_
            exact ih6 (t + 1) x ls (by omega) (by omega) (by first | (rw [togq, if_neg (by rw [c20]; decide), cnt, ← k_t t i (by omega) (by omega), c41]; rw [togq, if_neg (by rw [c20]; decide)] at k_x; rw [k_x]; rfl) | (rw [togq, if_neg (by rw [c20]; decide), cnt, ← k_t t i (by omega) (by omega), ← k_t t j (by omega) (by omega), c41, c70]; rw [togq, if_neg (by rw [c20]; decide)] at k_x; rw [k_x]; rfl) | (rw [togq, if_pos c20, cnt, ← k_t i t (by omega) (by omega), c41]; rw [togq, if_pos c20] at k_x; rw [k_x]; rfl) | (rw [togq, if_pos c20, cnt, ← k_t i t (by omega) (by omega), ← k_t j t (by omega) (by omega), c41, c70]; rw [togq, if_pos c20] at k_x; rw [k_x]; rfl) | exact absurd (c20.symm.trans c49) (by decide)) (by omega) (lv_sub hl [2, 3, 4, 5, 1, 0] rfl)
          · refine lv_aload_n hx hb dX7_together_44 rfl (lv_at hl 0 rfl) ?_
            refine va_get (D := D) (ci := 7) (v := .ref (md 17)) (C := RX7) (T := TX7) (N := 20) hx hb hts hiX7 hown hK hP 0 rfl rfl 19 (by decide) hf59 (fun _ h9 => h9) rfl dX7_together_45 ?_
            refine lv_iload_n hx hb dX7_together_48 rfl (lv_at hl 3 rfl) ?_
            refine nv_ifb_eq (tgt := 62) hx hb dX7_together_49 (by decide) (fun c49 => ?_) (fun c49 => ?_)
            · refine lv_bipush (v := nI 13) hx hb dX7_together_62 (by decide) ?_
              refine lv_iload hx hb dX7_together_64 (lv_at hl 5 rfl) ?_
              refine nv_mulE (r := 13 * t) hx hb rfl dX7_together_66 ?_
              refine lv_iload_n hx hb dX7_together_67 rfl (lv_at hl 2 rfl) ?_
              refine nv_addE (r := (13 * t) + j) hx hb rfl dX7_together_68 ?_
              refine nv_zald hx hb hK hP 1 1 rfl rfl (by omega) (by decide) dX7_together_69 ?_
              refine nv_ifb_eq (tgt := 80) hx hb dX7_together_70 (by decide) (fun c70 => ?_) (fun c70 => ?_)
              · refine lv_iload hx hb dX7_together_80 (lv_at hl 4 rfl) ?_
                refine lv_istore (lv' := [(4, .int (nI x)), (0, .ref (md 0)), (1, .int (nI i)), (2, .int (nI j)), (3, .int (nI (b).toNat)), (5, .int (nI t))]) hx hb dX7_together_82 hl (by decide) rfl (fun ls hl => ?_)
                refine lv_iinc (v := nI (t + 1)) (lv' := [(5, .int (nI (t + 1))), (4, .int (nI x)), (0, .ref (md 0)), (1, .int (nI i)), (2, .int (nI j)), (3, .int (nI (b).toNat))]) hx hb dX7_together_84 hl (k := 5) rfl (nI_inc t) (by decide) rfl (fun ls hl => ?_)
                refine lv_goto (tgt := 6) hx hb dX7_together_87 (by decide) ?_
                exact ih6 (t + 1) x ls (by omega) (by omega) (by first | (rw [togq, if_neg (by rw [c20]; decide), cnt, ← k_t t i (by omega) (by omega), c41]; rw [togq, if_neg (by rw [c20]; decide)] at k_x; rw [k_x]; rfl) | (rw [togq, if_neg (by rw [c20]; decide), cnt, ← k_t t i (by omega) (by omega), ← k_t t j (by omega) (by omega), c41, c70]; rw [togq, if_neg (by rw [c20]; decide)] at k_x; rw [k_x]; rfl) | (rw [togq, if_pos c20, cnt, ← k_t i t (by omega) (by omega), c41]; rw [togq, if_pos c20] at k_x; rw [k_x]; rfl) | (rw [togq, if_pos c20, cnt, ← k_t i t (by omega) (by omega), ← k_t j t (by omega) (by omega), c41, c70]; rw [togq, if_pos c20] at k_x; rw [k_x]; rfl) | exact absurd (c20.symm.trans c49) (by decide)) (by omega) (lv_sub hl [2, 3, 4, 5, 1, 0] rfl)
              · refine lv_iload hx hb dX7_together_73 (lv_at hl 4 rfl) ?_
                refine lv_iconst (v := nI 1) hx hb dX7_together_75 (by decide) ?_
                refine nv_addE (r := x + 1) hx hb rfl dX7_together_76 ?_
                refine lv_goto (tgt := 82) hx hb dX7_together_77 (by decide) ?_
                refine lv_istore (lv' := [(4, .int (nI (x + 1))), (0, .ref (md 0)), (1, .int (nI i)), (2, .int (nI j)), (3, .int (nI (b).toNat)), (5, .int (nI t))]) hx hb dX7_together_82 hl (by decide) rfl (fun ls hl => ?_)
                refine lv_iinc (v := nI (t + 1)) (lv' := [(5, .int (nI (t + 1))), (4, .int (nI (x + 1))), (0, .ref (md 0)), (1, .int (nI i)), (2, .int (nI j)), (3, .int (nI (b).toNat))]) hx hb dX7_together_84 hl (k := 5) rfl (nI_inc t) (by decide) rfl (fun ls hl => ?_)
                refine lv_goto (tgt := 6) hx hb dX7_together_87 (by decide) ?_
                exact ih6 (t + 1) (x + 1) ls (by omega) (by omega) (by first | (rw [togq, if_neg (by rw [c20]; decide), cnt, ← k_t t i (by omega) (by omega), c41]; rw [togq, if_neg (by rw [c20]; decide)] at k_x; rw [k_x]; rfl) | (rw [togq, if_neg (by rw [c20]; decide), cnt, ← k_t t i (by omega) (by omega), ← k_t t j (by omega) (by omega), c41, c70]; rw [togq, if_neg (by rw [c20]; decide)] at k_x; rw [k_x]; rfl) | (rw [togq, if_pos c20, cnt, ← k_t i t (by omega) (by omega), c41]; rw [togq, if_pos c20] at k_x; rw [k_x]; rfl) | (rw [togq, if_pos c20, cnt, ← k_t i t (by omega) (by omega), ← k_t j t (by omega) (by omega), c41, c70]; rw [togq, if_pos c20] at k_x; rw [k_x]; rfl) | exact absurd (c20.symm.trans c49) (by decide)) (by omega) (lv_sub hl [2, 3, 4, 5, 1, 0] rfl)
            · refine lv_bipush (v := nI 13) hx hb dX7_together_52 (by decide) ?_
              refine lv_iload_n hx hb dX7_together_54 rfl (lv_at hl 2 rfl) ?_
              refine nv_mulE (r := 13 * j) hx hb rfl dX7_together_55 ?_
              refine lv_iload hx hb dX7_together_56 (lv_at hl 5 rfl) ?_
              refine nv_addE (r := (13 * j) + t) hx hb rfl dX7_together_58 ?_
              refine lv_goto (tgt := 69) hx hb dX7_together_59 (by decide) ?_
              refine nv_zald hx hb hK hP 1 1 rfl rfl (by omega) (by decide) dX7_together_69 ?_
              refine nv_ifb_eq (tgt := 80) hx hb dX7_together_70 (by decide) (fun c70 => ?_) (fun c70 => ?_)
              · refine lv_iload hx hb dX7_together_80 (lv_at hl 4 rfl) ?_
                refine lv_istore (lv' := [(4, .int (nI x)), (0, .ref (md 0)), (1, .int (nI i)), (2, .int (nI j)), (3, .int (nI (b).toNat)), (5, .int (nI t))]) hx hb dX7_together_82 hl (by decide) rfl (fun ls hl => ?_)
                refine lv_iinc (v := nI (t + 1)) (lv' := [(5, .int (nI (t + 1))), (4, .int (nI x)), (0, .ref (md 0)), (1, .int (nI i)), (2, .int (nI j)), (3, .int (nI (b).toNat))]) hx hb dX7_together_84 hl (k := 5) rfl (nI_inc t) (by decide) rfl (fun ls hl => ?_)
                refine lv_goto (tgt := 6) hx hb dX7_together_87 (by decide) ?_
                exact ih6 (t + 1) x ls (by omega) (by omega) (by first | (rw [togq, if_neg (by rw [c20]; decide), cnt, ← k_t t i (by omega) (by omega), c41]; rw [togq, if_neg (by rw [c20]; decide)] at k_x; rw [k_x]; rfl) | (rw [togq, if_neg (by rw [c20]; decide), cnt, ← k_t t i (by omega) (by omega), ← k_t t j (by omega) (by omega), c41, c70]; rw [togq, if_neg (by rw [c20]; decide)] at k_x; rw [k_x]; rfl) | (rw [togq, if_pos c20, cnt, ← k_t i t (by omega) (by omega), c41]; rw [togq, if_pos c20] at k_x; rw [k_x]; rfl) | (rw [togq, if_pos c20, cnt, ← k_t i t (by omega) (by omega), ← k_t j t (by omega) (by omega), c41, c70]; rw [togq, if_pos c20] at k_x; rw [k_x]; rfl) | exact absurd (c20.symm.trans c49) (by decide)) (by omega) (lv_sub hl [2, 3, 4, 5, 1, 0] rfl)
              · refine lv_iload hx hb dX7_together_73 (lv_at hl 4 rfl) ?_
                refine lv_iconst (v := nI 1) hx hb dX7_together_75 (by decide) ?_
                refine nv_addE (r := x + 1) hx hb rfl dX7_together_76 ?_
                refine lv_goto (tgt := 82) hx hb dX7_together_77 (by decide) ?_
                refine lv_istore (lv' := [(4, .int (nI (x + 1))), (0, .ref (md 0)), (1, .int (nI i)), (2, .int (nI j)), (3, .int (nI (b).toNat)), (5, .int (nI t))]) hx hb dX7_together_82 hl (by decide) rfl (fun ls hl => ?_)
                refine lv_iinc (v := nI (t + 1)) (lv' := [(5, .int (nI (t + 1))), (4, .int (nI (x + 1))), (0, .ref (md 0)), (1, .int (nI i)), (2, .int (nI j)), (3, .int (nI (b).toNat))]) hx hb dX7_together_84 hl (k := 5) rfl (nI_inc t) (by decide) rfl (fun ls hl => ?_)
                refine lv_goto (tgt := 6) hx hb dX7_together_87 (by decide) ?_
                exact ih6 (t + 1) (x + 1) ls (by omega) (by omega) (by first | (rw [togq, if_neg (by rw [c20]; decide), cnt, ← k_t t i (by omega) (by omega), c41]; rw [togq, if_neg (by rw [c20]; decide)] at k_x; rw [k_x]; rfl) | (rw [togq, if_neg (by rw [c20]; decide), cnt, ← k_t t i (by omega) (by omega), ← k_t t j (by omega) (by omega), c41, c70]; rw [togq, if_neg (by rw [c20]; decide)] at k_x; rw [k_x]; rfl) | (rw [togq, if_pos c20, cnt, ← k_t i t (by omega) (by omega), c41]; rw [togq, if_pos c20] at k_x; rw [k_x]; rfl) | (rw [togq, if_pos c20, cnt, ← k_t i t (by omega) (by omega), ← k_t j t (by omega) (by omega), c41, c70]; rw [togq, if_pos c20] at k_x; rw [k_x]; rfl) | exact absurd (c20.symm.trans c49) (by decide)) (by omega) (lv_sub hl [2, 3, 4, 5, 1, 0] rfl)
        · refine lv_bipush (v := nI 13) hx hb dX7_together_23 (by decide) ?_
          refine lv_iload_n hx hb dX7_together_25 rfl (lv_at hl 1 rfl) ?_
          refine nv_mulE (r := 13 * i) hx hb rfl dX7_together_26 ?_
          refine lv_iload hx hb dX7_together_27 (lv_at hl 5 rfl) ?_
          refine nv_addE (r := (13 * i) + t) hx hb rfl dX7_together_29 ?_
          refine lv_goto (tgt := 40) hx hb dX7_together_30 (by decide) ?_
          refine nv_zald hx hb hK hP 1 1 rfl rfl (by omega) (by decide) dX7_together_40 ?_
          refine nv_ifb_eq (tgt := 80) hx hb dX7_together_41 (by decide) (fun c41 => ?_) (fun c41 => ?_)
          · refine lv_iload hx hb dX7_together_80 (lv_at hl 4 rfl) ?_
            refine lv_istore (lv' := [(4, .int (nI x)), (0, .ref (md 0)), (1, .int (nI i)), (2, .int (nI j)), (3, .int (nI (b).toNat)), (5, .int (nI t))]) hx hb dX7_together_82 hl (by decide) rfl (fun ls hl => ?_)
            refine lv_iinc (v := nI (t + 1)) (lv' := [(5, .int (nI (t + 1))), (4, .int (nI x)), (0, .ref (md 0)), (1, .int (nI i)), (2, .int (nI j)), (3, .int (nI (b).toNat))]) hx hb dX7_together_84 hl (k := 5) rfl (nI_inc t) (by decide) rfl (fun ls hl => ?_)
            refine lv_goto (tgt := 6) hx hb dX7_together_87 (by decide) ?_
            exact ih6 (t + 1) x ls (by omega) (by omega) (by first | (rw [togq, if_neg (by rw [c20]; decide), cnt, ← k_t t i (by omega) (by omega), c41]; rw [togq, if_neg (by rw [c20]; decide)] at k_x; rw [k_x]; rfl) | (rw [togq, if_neg (by rw [c20]; decide), cnt, ← k_t t i (by omega) (by omega), ← k_t t j (by omega) (by omega), c41, c70]; rw [togq, if_neg (by rw [c20]; decide)] at k_x; rw [k_x]; rfl) | (rw [togq, if_pos c20, cnt, ← k_t i t (by omega) (by omega), c41]; rw [togq, if_pos c20] at k_x; rw [k_x]; rfl) | (rw [togq, if_pos c20, cnt, ← k_t i t (by omega) (by omega), ← k_t j t (by omega) (by omega), c41, c70]; rw [togq, if_pos c20] at k_x; rw [k_x]; rfl) | exact absurd (c20.symm.trans c49) (by decide)) (by omega) (lv_sub hl [2, 3, 4, 5, 1, 0] rfl)
          · refine lv_aload_n hx hb dX7_together_44 rfl (lv_at hl 0 rfl) ?_
            refine va_get (D := D) (ci := 7) (v := .ref (md 17)) (C := RX7) (T := TX7) (N := 20) hx hb hts hiX7 hown hK hP 0 rfl rfl 19 (by decide) hf59 (fun _ h9 => h9) rfl dX7_together_45 ?_
            refine lv_iload_n hx hb dX7_together_48 rfl (lv_at hl 3 rfl) ?_
            refine nv_ifb_eq (tgt := 62) hx hb dX7_together_49 (by decide) (fun c49 => ?_) (fun c49 => ?_)
            · refine lv_bipush (v := nI 13) hx hb dX7_together_62 (by decide) ?_
              refine lv_iload hx hb dX7_together_64 (lv_at hl 5 rfl) ?_
              refine nv_mulE (r := 13 * t) hx hb rfl dX7_together_66 ?_
              refine lv_iload_n hx hb dX7_together_67 rfl (lv_at hl 2 rfl) ?_
              refine nv_addE (r := (13 * t) + j) hx hb rfl dX7_together_68 ?_
              refine nv_zald hx hb hK hP 1 1 rfl rfl (by omega) (by decide) dX7_together_69 ?_
              refine nv_ifb_eq (tgt := 80) hx hb dX7_together_70 (by decide) (fun c70 => ?_) (fun c70 => ?_)
              · refine lv_iload hx hb dX7_together_80 (lv_at hl 4 rfl) ?_
                refine lv_istore (lv' := [(4, .int (nI x)), (0, .ref (md 0)), (1, .int (nI i)), (2, .int (nI j)), (3, .int (nI (b).toNat)), (5, .int (nI t))]) hx hb dX7_together_82 hl (by decide) rfl (fun ls hl => ?_)
                refine lv_iinc (v := nI (t + 1)) (lv' := [(5, .int (nI (t + 1))), (4, .int (nI x)), (0, .ref (md 0)), (1, .int (nI i)), (2, .int (nI j)), (3, .int (nI (b).toNat))]) hx hb dX7_together_84 hl (k := 5) rfl (nI_inc t) (by decide) rfl (fun ls hl => ?_)
                refine lv_goto (tgt := 6) hx hb dX7_together_87 (by decide) ?_
                exact ih6 (t + 1) x ls (by omega) (by omega) (by first | (rw [togq, if_neg (by rw [c20]; decide), cnt, ← k_t t i (by omega) (by omega), c41]; rw [togq, if_neg (by rw [c20]; decide)] at k_x; rw [k_x]; rfl) | (rw [togq, if_neg (by rw [c20]; decide), cnt, ← k_t t i (by omega) (by omega), ← k_t t j (by omega) (by omega), c41, c70]; rw [togq, if_neg (by rw [c20]; decide)] at k_x; rw [k_x]; rfl) | (rw [togq, if_pos c20, cnt, ← k_t i t (by omega) (by omega), c41]; rw [togq, if_pos c20] at k_x; rw [k_x]; rfl) | (rw [togq, if_pos c20, cnt, ← k_t i t (by omega) (by omega), ← k_t j t (by omega) (by omega), c41, c70]; rw [togq, if_pos c20] at k_x; rw [k_x]; rfl) | exact absurd (c20.symm.trans c49) (by decide)) (by omega) (lv_sub hl [2, 3, 4, 5, 1, 0] rfl)
              · refine lv_iload hx hb dX7_together_73 (lv_at hl 4 rfl) ?_
                refine lv_iconst (v := nI 1) hx hb dX7_together_75 (by decide) ?_
                refine nv_addE (r := x + 1) hx hb rfl dX7_together_76 ?_
                refine lv_goto (tgt := 82) hx hb dX7_together_77 (by decide) ?_
                refine lv_istore (lv' := [(4, .int (nI (x + 1))), (0, .ref (md 0)), (1, .int (nI i)), (2, .int (nI j)), (3, .int (nI (b).toNat)), (5, .int (nI t))]) hx hb dX7_together_82 hl (by decide) rfl (fun ls hl => ?_)
                refine lv_iinc (v := nI (t + 1)) (lv' := [(5, .int (nI (t + 1))), (4, .int (nI (x + 1))), (0, .ref (md 0)), (1, .int (nI i)), (2, .int (nI j)), (3, .int (nI (b).toNat))]) hx hb dX7_together_84 hl (k := 5) rfl (nI_inc t) (by decide) rfl (fun ls hl => ?_)
                refine lv_goto (tgt := 6) hx hb dX7_together_87 (by decide) ?_
                exact ih6 (t + 1) (x + 1) ls (by omega) (by omega) (by first | (rw [togq, if_neg (by rw [c20]; decide), cnt, ← k_t t i (by omega) (by omega), c41]; rw [togq, if_neg (by rw [c20]; decide)] at k_x; rw [k_x]; rfl) | (rw [togq, if_neg (by rw [c20]; decide), cnt, ← k_t t i (by omega) (by omega), ← k_t t j (by omega) (by omega), c41, c70]; rw [togq, if_neg (by rw [c20]; decide)] at k_x; rw [k_x]; rfl) | (rw [togq, if_pos c20, cnt, ← k_t i t (by omega) (by omega), c41]; rw [togq, if_pos c20] at k_x; rw [k_x]; rfl) | (rw [togq, if_pos c20, cnt, ← k_t i t (by omega) (by omega), ← k_t j t (by omega) (by omega), c41, c70]; rw [togq, if_pos c20] at k_x; rw [k_x]; rfl) | exact absurd (c20.symm.trans c49) (by decide)) (by omega) (lv_sub hl [2, 3, 4, 5, 1, 0] rfl)
            · refine lv_bipush (v := nI 13) hx hb dX7_together_52 (by decide) ?_
              refine lv_iload_n hx hb dX7_together_54 rfl (lv_at hl 2 rfl) ?_
              refine nv_mulE (r := 13 * j) hx hb rfl dX7_together_55 ?_
              refine lv_iload hx hb dX7_together_56 (lv_at hl 5 rfl) ?_
              refine nv_addE (r := (13 * j) + t) hx hb rfl dX7_together_58 ?_
              refine lv_goto (tgt := 69) hx hb dX7_together_59 (by decide) ?_
              refine nv_zald hx hb hK hP 1 1 rfl rfl (by omega) (by decide) dX7_together_69 ?_
              refine nv_ifb_eq (tgt := 80) hx hb dX7_together_70 (by decide) (fun c70 => ?_) (fun c70 => ?_)
              · refine lv_iload hx hb dX7_together_80 (lv_at hl 4 rfl) ?_
                refine lv_istore (lv' := [(4, .int (nI x)), (0, .ref (md 0)), (1, .int (nI i)), (2, .int (nI j)), (3, .int (nI (b).toNat)), (5, .int (nI t))]) hx hb dX7_together_82 hl (by decide) rfl (fun ls hl => ?_)
                refine lv_iinc (v := nI (t + 1)) (lv' := [(5, .int (nI (t + 1))), (4, .int (nI x)), (0, .ref (md 0)), (1, .int (nI i)), (2, .int (nI j)), (3, .int (nI (b).toNat))]) hx hb dX7_together_84 hl (k := 5) rfl (nI_inc t) (by decide) rfl (fun ls hl => ?_)
                refine lv_goto (tgt := 6) hx hb dX7_together_87 (by decide) ?_
                exact ih6 (t + 1) x ls (by omega) (by omega) (by first | (rw [togq, if_neg (by rw [c20]; decide), cnt, ← k_t t i (by omega) (by omega), c41]; rw [togq, if_neg (by rw [c20]; decide)] at k_x; rw [k_x]; rfl) | (rw [togq, if_neg (by rw [c20]; decide), cnt, ← k_t t i (by omega) (by omega), ← k_t t j (by omega) (by omega), c41, c70]; rw [togq, if_neg (by rw [c20]; decide)] at k_x; rw [k_x]; rfl) | (rw [togq, if_pos c20, cnt, ← k_t i t (by omega) (by omega), c41]; rw [togq, if_pos c20] at k_x; rw [k_x]; rfl) | (rw [togq, if_pos c20, cnt, ← k_t i t (by omega) (by omega), ← k_t j t (by omega) (by omega), c41, c70]; rw [togq, if_pos c20] at k_x; rw [k_x]; rfl) | exact absurd (c20.symm.trans c49) (by decide)) (by omega) (lv_sub hl [2, 3, 4, 5, 1, 0] rfl)
              · refine lv_iload hx hb dX7_together_73 (lv_at hl 4 rfl) ?_
                refine lv_iconst (v := nI 1) hx hb dX7_together_75 (by decide) ?_
                refine nv_addE (r := x + 1) hx hb rfl dX7_together_76 ?_
                refine lv_goto (tgt := 82) hx hb dX7_together_77 (by decide) ?_
                refine lv_istore (lv' := [(4, .int (nI (x + 1))), (0, .ref (md 0)), (1, .int (nI i)), (2, .int (nI j)), (3, .int (nI (b).toNat)), (5, .int (nI t))]) hx hb dX7_together_82 hl (by decide) rfl (fun ls hl => ?_)
                refine lv_iinc (v := nI (t + 1)) (lv' := [(5, .int (nI (t + 1))), (4, .int (nI (x + 1))), (0, .ref (md 0)), (1, .int (nI i)), (2, .int (nI j)), (3, .int (nI (b).toNat))]) hx hb dX7_together_84 hl (k := 5) rfl (nI_inc t) (by decide) rfl (fun ls hl => ?_)
                refine lv_goto (tgt := 6) hx hb dX7_together_87 (by decide) ?_
                exact ih6 (t + 1) (x + 1) ls (by omega) (by omega) (by first | (rw [togq, if_neg (by rw [c20]; decide), cnt, ← k_t t i (by omega) (by omega), c41]; rw [togq, if_neg (by rw [c20]; decide)] at k_x; rw [k_x]; rfl) | (rw [togq, if_neg (by rw [c20]; decide), cnt, ← k_t t i (by omega) (by omega), ← k_t t j (by omega) (by omega), c41, c70]; rw [togq, if_neg (by rw [c20]; decide)] at k_x; rw [k_x]; rfl) | (rw [togq, if_pos c20, cnt, ← k_t i t (by omega) (by omega), c41]; rw [togq, if_pos c20] at k_x; rw [k_x]; rfl) | (rw [togq, if_pos c20, cnt, ← k_t i t (by omega) (by omega), ← k_t j t (by omega) (by omega), c41, c70]; rw [togq, if_pos c20] at k_x; rw [k_x]; rfl) | exact absurd (c20.symm.trans c49) (by decide)) (by omega) (lv_sub hl [2, 3, 4, 5, 1, 0] rfl)
  exact L6 (w - 0 + 1) 0 0 ls (by omega) (Nat.zero_le _) (by rw [togq]; split <;> rfl) (Nat.le_refl 0) (lv_sub hl [2, 3, 4, 5, 1, 0] rfl)

set_option maxHeartbeats 4000000 in
set_option maxRecDepth 100000 in
theorem c_X7_flawOf (l : Launch) (D : va_G) (cI cZ : ClassId) (md : Nat → Nat) (q : Nat) (w : Nat) (mk : Nat → Bool) (ln : Nat → Nat) (k_t : TRl ln mk) (k_w : w ≤ 13) (k_w1 : 1 ≤ w) (k_l : LNK ln) (k_b : bitW ln w) (b : Bool) : CtR l yX7_flawOf wsX7_flawOf { frames := 1, cells := 0, slots := 0, locals := 25 } D (tyG cI cZ) [.ref (md 0), .int (nI (b).toNat)] [(md 0, .inr (7, [.int (nI q), .int (nI (nn q)), .ref (md 1), .ref (md 2), .ref (md 3), .ref (md 4), .ref (md 5), .ref (md 6), .ref (md 7), .ref (md 8), .ref (md 9), .ref (md 10), .ref (md 11), .ref (md 12), .ref (md 13), .ref (md 14), .ref (md 15), .ref (md 16), .int (nI w), .ref (md 17)])), (md 17, .inl (cZ, 169, .inl (bF mk)))] (.int (nI (flv b (fstT (badB ln w b) 169)))) := by
  refine Met.ofW (cc := cX7_flawOf) (maxL := 5) (ret := some .int) (by decide) rfl ?_
  intro p e s m args below meth c s₁ B hml hv
  obtain ⟨rfl, hP, hK, hN⟩ := hv
  have hx := B.exec
  have hb := B.bytes
  have hr := B.returns
  have hts := atoms_spec (ws := wsX7_flawOf) B.pre
  have hown : s.vm.findClass RX7 = some m.cls := findClass_of_methodNamed B.named
  have hlocks := B.notSynchronized
  have hf66 := hts (.fieldLink RX7 66 "FinitePlanesModel" "w" "I") (by decide +kernel)
  have hiX7 : ∀ w ∈ u_ws RX7 TX7 20, w ∈ wsX7_flawOf := by decide +kernel
  have hl := lv_entry ([.ref (md 0), .int (nI (b).toNat)]) (n := 5) (Nat.le_of_ble_eq_true rfl)
  rw [lg_entry_eq]
  generalize (lg_sl ([.ref (md 0), .int (nI (b).toNat)]) ++ List.replicate (5 - (lg_sl ([.ref (md 0), .int (nI (b).toNat)])).length) Slot.unset).toArray = ls at hl ⊢
  have hl : lv_has ls 5 [(0, .ref (md 0)), (1, .int (nI (b).toNat))] := hl
  refine lv_iconst (v := nI 0) hx hb dX7_flawOf_0 (by decide) ?_
  refine lv_istore_n (lv' := [(2, .int (nI 0)), (0, .ref (md 0)), (1, .int (nI (b).toNat))]) hx hb dX7_flawOf_1 rfl hl (by decide) rfl (fun ls hl => ?_)
  refine lv_iconst (v := nI 0) hx hb dX7_flawOf_2 (by decide) ?_
  refine lv_istore_n (lv' := [(3, .int (nI 0)), (2, .int (nI 0)), (0, .ref (md 0)), (1, .int (nI (b).toNat))]) hx hb dX7_flawOf_3 rfl hl (by decide) rfl (fun ls hl => ?_)
  have L4 : ∀ (N4 : Nat) (f : Nat) (a : Nat) (ls : Array Slot), w - a < N4 → (a ≤ w) → (f = flv b (fstT (badB ln w b) (a * 13))) → (f < 4000) → lv_has ls 5 [(0, .ref (md 0)), (1, .int (nI (b).toNat)), (2, .int (nI f)), (3, .int (nI a))] → WR p l e wsX7_flawOf { frames := 1, cells := 0, slots := 0, locals := 25 } s m [.ref (md 0), .int (nI (b).toNat)] below meth c (.int (nI (flv b (fstT (badB ln w b) 169)))) 4 ls [] := by
    intro N4
    induction N4 with
    | zero => intro f a ls hN; exact absurd hN (Nat.not_lt_zero _)
    | succ N4 ih4 =>
      intro f a ls hN4 k_a k_f k_s hl
      refine lv_iload_n hx hb dX7_flawOf_4 rfl (lv_at hl 3 rfl) ?_
      refine lv_aload_n hx hb dX7_flawOf_5 rfl (lv_at hl 0 rfl) ?_
      refine va_get (D := D) (ci := 7) (v := .int (nI w)) (C := RX7) (T := TX7) (N := 20) hx hb hts hiX7 hown hK hP 0 rfl rfl 18 (by decide) hf66 (fun _ h9 => h9) rfl dX7_flawOf_6 ?_
      refine nv_icmp_ge (tgt := 80) hx hb (by omega) (by omega) dX7_flawOf_9 (by decide) (fun c9 => ?_) (fun c9 => ?_)
      · refine lv_iload_n hx hb dX7_flawOf_80 rfl (lv_at hl 2 rfl) ?_
        exact ctR_ret (v := (nI f)) hx hb hr rfl dX7_flawOf_81 hlocks (by have h9 := fst_skip2 (P := badB ln w b) (n := a * 13) (k := 169) (by omega) (fun t h1 h2 => badB_no (by omega)); rw [h9, k_f])
      · refine lv_iload_n hx hb dX7_flawOf_12 rfl (lv_at hl 3 rfl) ?_
        refine lv_iconst (v := nI 1) hx hb dX7_flawOf_13 (by decide) ?_
        refine nv_addE (r := a + 1) hx hb rfl dX7_flawOf_14 ?_
        refine lv_istore (lv' := [(4, .int (nI (a + 1))), (0, .ref (md 0)), (1, .int (nI (b).toNat)), (2, .int (nI f)), (3, .int (nI a))]) hx hb dX7_flawOf_15 hl (by decide) rfl (fun ls hl => ?_)
        have L17 : ∀ (N17 : Nat) (f : Nat) (g : Nat) (ls : Array Slot), w - g < N17 → (a < g) → (g ≤ w) → (f = flv b (fstT (badB ln w b) (a * 13 + g))) → (f < 4000) → lv_has ls 5 [(0, .ref (md 0)), (1, .int (nI (b).toNat)), (2, .int (nI f)), (3, .int (nI a)), (4, .int (nI g))] → WR p l e wsX7_flawOf { frames := 1, cells := 0, slots := 0, locals := 25 } s m [.ref (md 0), .int (nI (b).toNat)] below meth c (.int (nI (flv b (fstT (badB ln w b) 169)))) 17 ls [] := by
          intro N17
          induction N17 with
          | zero => intro f g ls hN; exact absurd hN (Nat.not_lt_zero _)
          | succ N17 ih17 =>
            intro f g ls hN17 k_g k_g2 k_h k_s hl
            refine lv_iload hx hb dX7_flawOf_17 (lv_at hl 4 rfl) ?_
            refine lv_aload_n hx hb dX7_flawOf_19 rfl (lv_at hl 0 rfl) ?_
            refine va_get (D := D) (ci := 7) (v := .int (nI w)) (C := RX7) (T := TX7) (N := 20) hx hb hts hiX7 hown hK hP 0 rfl rfl 18 (by decide) hf66 (fun _ h9 => h9) rfl dX7_flawOf_20 ?_
            refine nv_icmp_ge (tgt := 74) hx hb (by omega) (by omega) dX7_flawOf_23 (by decide) (fun c23 => ?_) (fun c23 => ?_)
            · refine lv_iinc (v := nI (a + 1)) (lv' := [(3, .int (nI (a + 1))), (0, .ref (md 0)), (1, .int (nI (b).toNat)), (2, .int (nI f)), (4, .int (nI g))]) hx hb dX7_flawOf_74 hl (k := 3) rfl (nI_inc a) (by decide) rfl (fun ls hl => ?_)
              refine lv_goto (tgt := 4) hx hb dX7_flawOf_77 (by decide) ?_
              exact ih4 f (a + 1) ls (by omega) (by omega) (by rw [fst_skip2 (n := a * 13 + g) (by omega) (fun t h1 h2 => badB_no (by omega))]; exact k_h) (by omega) (lv_sub hl [1, 2, 3, 0] rfl)
            · refine lv_iload_n hx hb dX7_flawOf_26 rfl (lv_at hl 2 rfl) ?_
              refine nv_if_ne (tgt := 66) hx hb (by omega) dX7_flawOf_27 (by decide) (fun c27 => ?_) (fun c27 => ?_)
              · refine lv_iload_n hx hb dX7_flawOf_66 rfl (lv_at hl 2 rfl) ?_
                refine lv_istore_n (lv' := [(2, .int (nI f)), (0, .ref (md 0)), (1, .int (nI (b).toNat)), (3, .int (nI a)), (4, .int (nI g))]) hx hb dX7_flawOf_67 rfl hl (by decide) rfl (fun ls hl => ?_)
                refine lv_iinc (v := nI (g + 1)) (lv' := [(4, .int (nI (g + 1))), (2, .int (nI f)), (0, .ref (md 0)), (1, .int (nI (b).toNat)), (3, .int (nI a))]) hx hb dX7_flawOf_68 hl (k := 4) rfl (nI_inc g) (by decide) rfl (fun ls hl => ?_)
                refine lv_goto (tgt := 17) hx hb dX7_flawOf_71 (by decide) ?_
                exact ih17 f (g + 1) ls (by omega) (by omega) (by omega) (flv_go k_h (Or.inl c27)) (by omega) (lv_sub hl [2, 3, 1, 4, 0] rfl)
              · refine lv_aload_n hx hb dX7_flawOf_30 rfl (lv_at hl 0 rfl) ?_
                refine lv_iload_n hx hb dX7_flawOf_31 rfl (lv_at hl 3 rfl) ?_
                refine lv_iload hx hb dX7_flawOf_32 (lv_at hl 4 rfl) ?_
                refine lv_iload_n hx hb dX7_flawOf_34 rfl (lv_at hl 1 rfl) ?_
                refine ctR_V (As := [.int (nI a), .int (nI g), .int (nI (b).toNat)]) (rest := []) (r := .int (nI (togq ln w a g b))) ⟨hx, hb, hml, hown, hts⟩ (c_X7_together l D cI cZ md q w mk ln k_t k_w k_w1 k_l k_b a g b (by omega) (by omega)) (cwV 3 hts gX7_flawOf_X7_together rfl rfl rfl hdV_X7_together ⟨Nat.le_of_ble_eq_true rfl, Nat.le_of_ble_eq_true rfl⟩) hK hN hP [0, 1] rfl 0 7 rfl rfl rfl hl.1 rfl (Nat.le_of_ble_eq_true rfl) ⟨Nat.zero_le _, Nat.zero_le _⟩ dX7_flawOf_35 ?_
                have hh_1 : togq ln w a g b ≤ w := togq_le
                refine lv_iconst (v := nI 1) hx hb dX7_flawOf_38 (by decide) ?_
                refine nv_icmp_eq (tgt := 66) hx hb (by omega) (by decide) dX7_flawOf_39 (by decide) (fun c39 => ?_) (fun c39 => ?_)
                · refine lv_iload_n hx hb dX7_flawOf_66 rfl (lv_at hl 2 rfl) ?_
                  refine lv_istore_n (lv' := [(2, .int (nI f)), (0, .ref (md 0)), (1, .int (nI (b).toNat)), (3, .int (nI a)), (4, .int (nI g))]) hx hb dX7_flawOf_67 rfl hl (by decide) rfl (fun ls hl => ?_)
                  refine lv_iinc (v := nI (g + 1)) (lv' := [(4, .int (nI (g + 1))), (2, .int (nI f)), (0, .ref (md 0)), (1, .int (nI (b).toNat)), (3, .int (nI a))]) hx hb dX7_flawOf_68 hl (k := 4) rfl (nI_inc g) (by decide) rfl (fun ls hl => ?_)
                  refine lv_goto (tgt := 17) hx hb dX7_flawOf_71 (by decide) ?_
                  exact ih17 f (g + 1) ls (by omega) (by omega) (by omega) (flv_go (n := a * 13 + g) k_h (Or.inr ((badB_at k_g c23 k_w).trans (decide_eq_false (fun z => z c39))))) (by omega) (lv_sub hl [2, 3, 1, 4, 0] rfl)
                · refine lv_iload_n hx hb dX7_flawOf_42 rfl (lv_at hl 1 rfl) ?_
                  refine nv_ifb_eq (tgt := 52) hx hb dX7_flawOf_43 (by decide) (fun c43 => ?_) (fun c43 => ?_)
                  · refine lv_sipush (v := nI 2000) hx hb dX7_flawOf_52 (by decide) ?_
                    refine lv_bipush (v := nI 20) hx hb dX7_flawOf_55 (by decide) ?_
                    refine lv_iload_n hx hb dX7_flawOf_57 rfl (lv_at hl 3 rfl) ?_
                    refine nv_mulE (r := 20 * a) hx hb rfl dX7_flawOf_58 ?_
                    refine nv_addE (r := 2000 + (20 * a)) hx hb rfl dX7_flawOf_59 ?_
                    refine lv_iload hx hb dX7_flawOf_60 (lv_at hl 4 rfl) ?_
                    refine nv_addE (r := (2000 + (20 * a)) + g) hx hb rfl dX7_flawOf_62 ?_
                    refine lv_goto (tgt := 67) hx hb dX7_flawOf_63 (by decide) ?_
                    refine lv_istore_n (lv' := [(2, .int (nI ((2000 + (20 * a)) + g))), (0, .ref (md 0)), (1, .int (nI (b).toNat)), (3, .int (nI a)), (4, .int (nI g))]) hx hb dX7_flawOf_67 rfl hl (by decide) rfl (fun ls hl => ?_)
                    refine lv_iinc (v := nI (g + 1)) (lv' := [(4, .int (nI (g + 1))), (2, .int (nI ((2000 + (20 * a)) + g))), (0, .ref (md 0)), (1, .int (nI (b).toNat)), (3, .int (nI a))]) hx hb dX7_flawOf_68 hl (k := 4) rfl (nI_inc g) (by decide) rfl (fun ls hl => ?_)
                    refine lv_goto (tgt := 17) hx hb dX7_flawOf_71 (by decide) ?_
                    exact ih17 ((2000 + (20 * a)) + g) (g + 1) ls (by omega) (by omega) (by omega) (by have h9 := flv_hit (by omega) k_h c27 (by rw [badB_at k_g c23 k_w]; exact decide_eq_true c39); rw [if_neg (by rw [c43]; decide)] at h9; exact h9) (by omega) (lv_sub hl [2, 3, 1, 4, 0] rfl)
                  · refine lv_sipush (v := nI 1000) hx hb dX7_flawOf_46 (by decide) ?_
                    refine lv_goto (tgt := 55) hx hb dX7_flawOf_49 (by decide) ?_
                    refine lv_bipush (v := nI 20) hx hb dX7_flawOf_55 (by decide) ?_
                    refine lv_iload_n hx hb dX7_flawOf_57 rfl (lv_at hl 3 rfl) ?_
                    refine nv_mulE (r := 20 * a) hx hb rfl dX7_flawOf_58 ?_
                    refine nv_addE (r := 1000 + (20 * a)) hx hb rfl dX7_flawOf_59 ?_
                    refine lv_iload hx hb dX7_flawOf_60 (lv_at hl 4 rfl) ?_
                    refine nv_addE (r := (1000 + (20 * a)) + g) hx hb rfl dX7_flawOf_62 ?_
                    refine lv_goto (tgt := 67) hx hb dX7_flawOf_63 (by decide) ?_
                    refine lv_istore_n (lv' := [(2, .int (nI ((1000 + (20 * a)) + g))), (0, .ref (md 0)), (1, .int (nI (b).toNat)), (3, .int (nI a)), (4, .int (nI g))]) hx hb dX7_flawOf_67 rfl hl (by decide) rfl (fun ls hl => ?_)
                    refine lv_iinc (v := nI (g + 1)) (lv' := [(4, .int (nI (g + 1))), (2, .int (nI ((1000 + (20 * a)) + g))), (0, .ref (md 0)), (1, .int (nI (b).toNat)), (3, .int (nI a))]) hx hb dX7_flawOf_68 hl (k := 4) rfl (nI_inc g) (by decide) rfl (fun ls hl => ?_)
                    refine lv_goto (tgt := 17) hx hb dX7_flawOf_71 (by decide) ?_
                    exact ih17 ((1000 + (20 * a)) + g) (g + 1) ls (by omega) (by omega) (by omega) (by have h9 := flv_hit (by omega) k_h c27 (by rw [badB_at k_g c23 k_w]; exact decide_eq_true c39); rw [if_pos c43] at h9; exact h9) (by omega) (lv_sub hl [2, 3, 1, 4, 0] rfl)
        exact L17 (w - (a + 1) + 1) f (a + 1) ls (by omega) (by omega) (by omega) (by rw [fst_skip2 (n := a * 13) (by omega) (fun t h1 h2 => badB_no (by omega))]; exact k_f) k_s (lv_sub hl [1, 2, 3, 4, 0] rfl)
  exact L4 (w - 0 + 1) 0 0 ls (by omega) (Nat.zero_le _) rfl (by decide) (lv_sub hl [2, 3, 1, 0] rfl)

set_option maxHeartbeats 4000000 in
set_option maxRecDepth 100000 in
theorem c_X7_isTableLine (l : Launch) (D : va_G) (cI cZ : ClassId) (md : Nat → Nat) (q : Nat) (w : Nat) (mk : Nat → Bool) (ln : Nat → Nat) (k_t : TRl ln mk) (k_w : w ≤ 13) (k_w1 : 1 ≤ w) (k_l : LNK ln) (k_b : bitW ln w) (i : Nat) (j : Nat) (k : Nat) (k_1 : i < w) (k_2 : j < w) (k_3 : k < w) : CtR l yX7_isTableLine wsX7_isTableLine { frames := 0, cells := 0, slots := 0, locals := 0 } D (tyG cI cZ) [.ref (md 0), .int (nI i), .int (nI j), .int (nI k)] [(md 0, .inr (7, [.int (nI q), .int (nI (nn q)), .ref (md 1), .ref (md 2), .ref (md 3), .ref (md 4), .ref (md 5), .ref (md 6), .ref (md 7), .ref (md 8), .ref (md 9), .ref (md 10), .ref (md 11), .ref (md 12), .ref (md 13), .ref (md 14), .ref (md 15), .ref (md 16), .int (nI w), .ref (md 17)])), (md 17, .inl (cZ, 169, .inl (bF mk)))] (.int (nI (lin3 ln w i j k).toNat)) := by
  refine Met.ofW (cc := cX7_isTableLine) (maxL := 6) (ret := some .boolean) (by decide) rfl ?_
  intro p e s m args below meth c s₁ B hml hv
  obtain ⟨rfl, hP, hK, hN⟩ := hv
  have hx := B.exec
  have hb := B.bytes
  have hr := B.returns
  have hts := atoms_spec (ws := wsX7_isTableLine) B.pre
  have hown : s.vm.findClass RX7 = some m.cls := findClass_of_methodNamed B.named
  have hlocks := B.notSynchronized
  have hf59 := hts (.fieldLink RX7 59 "FinitePlanesModel" "isMarked" "[Z") (by decide +kernel)
  have hf66 := hts (.fieldLink RX7 66 "FinitePlanesModel" "w" "I") (by decide +kernel)
  have hiX7 : ∀ w ∈ u_ws RX7 TX7 20, w ∈ wsX7_isTableLine := by decide +kernel
  have hl := lv_entry ([.ref (md 0), .int (nI i), .int (nI j), .int (nI k)]) (n := 6) (Nat.le_of_ble_eq_true rfl)
  rw [lg_entry_eq]
  generalize (lg_sl ([.ref (md 0), .int (nI i), .int (nI j), .int (nI k)]) ++ List.replicate (6 - (lg_sl ([.ref (md 0), .int (nI i), .int (nI j), .int (nI k)])).length) Slot.unset).toArray = ls at hl ⊢
  have hl : lv_has ls 6 [(0, .ref (md 0)), (1, .int (nI i)), (2, .int (nI j)), (3, .int (nI k))] := hl
  refine lv_iconst (v := nI 0) hx hb dX7_isTableLine_0 (by decide) ?_
  refine lv_istore (lv' := [(4, .int (nI 0)), (0, .ref (md 0)), (1, .int (nI i)), (2, .int (nI j)), (3, .int (nI k))]) hx hb dX7_isTableLine_1 hl (by decide) rfl (fun ls hl => ?_)
  refine lv_iconst (v := nI 0) hx hb dX7_isTableLine_3 (by decide) ?_
  refine lv_istore (lv' := [(5, .int (nI 0)), (4, .int (nI 0)), (0, .ref (md 0)), (1, .int (nI i)), (2, .int (nI j)), (3, .int (nI k))]) hx hb dX7_isTableLine_4 hl (by decide) rfl (fun ls hl => ?_)
  have L6 : ∀ (N6 : Nat) (y : Bool) (l1 : Nat) (ls : Array Slot), w - l1 < N6 → (l1 ≤ w) → (y = anyB (fun l => tbl ln l i && tbl ln l j && tbl ln l k) l1) → lv_has ls 6 [(0, .ref (md 0)), (1, .int (nI i)), (2, .int (nI j)), (3, .int (nI k)), (4, .int (nI (y).toNat)), (5, .int (nI l1))] → WR p l e wsX7_isTableLine { frames := 0, cells := 0, slots := 0, locals := 0 } s m [.ref (md 0), .int (nI i), .int (nI j), .int (nI k)] below meth c (.int (nI (lin3 ln w i j k).toNat)) 6 ls [] := by
    intro N6
    induction N6 with
    | zero => intro y l1 ls hN; exact absurd hN (Nat.not_lt_zero _)
    | succ N6 ih6 =>
      intro y l1 ls hN6 k_i k_y hl
      refine lv_iload hx hb dX7_isTableLine_6 (lv_at hl 5 rfl) ?_
      refine lv_aload_n hx hb dX7_isTableLine_8 rfl (lv_at hl 0 rfl) ?_
      refine va_get (D := D) (ci := 7) (v := .int (nI w)) (C := RX7) (T := TX7) (N := 20) hx hb hts hiX7 hown hK hP 0 rfl rfl 18 (by decide) hf66 (fun _ h9 => h9) rfl dX7_isTableLine_9 ?_
      refine nv_icmp_ge (tgt := 78) hx hb (by omega) (by omega) dX7_isTableLine_12 (by decide) (fun c12 => ?_) (fun c12 => ?_)
      · refine lv_iload hx hb dX7_isTableLine_78 (lv_at hl 4 rfl) ?_
        exact ctR_ret (v := (nI (y).toNat)) hx hb hr (nar_bool y) dX7_isTableLine_80 hlocks (by rw [k_y, show l1 = w by omega]; rfl)
      · refine lv_iload hx hb dX7_isTableLine_15 (lv_at hl 4 rfl) ?_
        refine nv_ifb_ne (tgt := 65) hx hb dX7_isTableLine_17 (by decide) (fun c17 => ?_) (fun c17 => ?_)
        · refine lv_iconst (v := nI 1) hx hb dX7_isTableLine_65 (by decide) ?_
          refine lv_goto (tgt := 70) hx hb dX7_isTableLine_66 (by decide) ?_
          refine lv_istore (lv' := [(4, .int (nI 1)), (0, .ref (md 0)), (1, .int (nI i)), (2, .int (nI j)), (3, .int (nI k)), (5, .int (nI l1))]) hx hb dX7_isTableLine_70 hl (by decide) rfl (fun ls hl => ?_)
          refine lv_iinc (v := nI (l1 + 1)) (lv' := [(5, .int (nI (l1 + 1))), (4, .int (nI 1)), (0, .ref (md 0)), (1, .int (nI i)), (2, .int (nI j)), (3, .int (nI k))]) hx hb dX7_isTableLine_72 hl (k := 5) rfl (nI_inc l1) (by decide) rfl (fun ls hl => ?_)
          refine lv_goto (tgt := 6) hx hb dX7_isTableLine_75 (by decide) ?_
          exact ih6 true (l1 + 1) ls (by omega) (by omega) (by rw [anyB, ← k_y, c17]; rfl) (lv_sub hl [2, 3, 4, 5, 1, 0] rfl)
        · refine lv_aload_n hx hb dX7_isTableLine_20 rfl (lv_at hl 0 rfl) ?_
          refine va_get (D := D) (ci := 7) (v := .ref (md 17)) (C := RX7) (T := TX7) (N := 20) hx hb hts hiX7 hown hK hP 0 rfl rfl 19 (by decide) hf59 (fun _ h9 => h9) rfl dX7_isTableLine_21 ?_
          refine lv_bipush (v := nI 13) hx hb dX7_isTableLine_24 (by decide) ?_
          refine lv_iload hx hb dX7_isTableLine_26 (lv_at hl 5 rfl) ?_
          refine nv_mulE (r := 13 * l1) hx hb rfl dX7_isTableLine_28 ?_
          refine lv_iload_n hx hb dX7_isTableLine_29 rfl (lv_at hl 1 rfl) ?_
          refine nv_addE (r := (13 * l1) + i) hx hb rfl dX7_isTableLine_30 ?_
          refine nv_zald hx hb hK hP 1 1 rfl rfl (by omega) (by decide) dX7_isTableLine_31 ?_
          refine nv_top (v' := .int (nI (tbl ln l1 i).toNat)) (congrArg (fun z : Bool => Value.int (nI z.toNat)) (k_t l1 i (by omega) (by omega))) ?_
          refine nv_ifb_eq (tgt := 69) hx hb dX7_isTableLine_32 (by decide) (fun c32 => ?_) (fun c32 => ?_)
          · refine lv_iconst (v := nI 0) hx hb dX7_isTableLine_69 (by decide) ?_
            refine lv_istore (lv' := [(4, .int (nI 0)), (0, .ref (md 0)), (1, .int (nI i)), (2, .int (nI j)), (3, .int (nI k)), (5, .int (nI l1))]) hx hb dX7_isTableLine_70 hl (by decide) rfl (fun ls hl => ?_)
            refine lv_iinc (v := nI (l1 + 1)) (lv' := [(5, .int (nI (l1 + 1))), (4, .int (nI 0)), (0, .ref (md 0)), (1, .int (nI i)), (2, .int (nI j)), (3, .int (nI k))]) hx hb dX7_isTableLine_72 hl (k := 5) rfl (nI_inc l1) (by decide) rfl (fun ls hl => ?_)
            refine lv_goto (tgt := 6) hx hb dX7_isTableLine_75 (by decide) ?_
            exact ih6 false (l1 + 1) ls (by omega) (by omega) (by rw [anyB, ← k_y, c17, c32]; rfl) (lv_sub hl [2, 3, 4, 5, 1, 0] rfl)
          · refine lv_aload_n hx hb dX7_isTableLine_35 rfl (lv_at hl 0 rfl) ?_
            refine va_get (D := D) (ci := 7) (v := .ref (md 17)) (C := RX7) (T := TX7) (N := 20) hx hb hts hiX7 hown hK hP 0 rfl rfl 19 (by decide) hf59 (fun _ h9 => h9) rfl dX7_isTableLine_36 ?_
            refine lv_bipush (v := nI 13) hx hb dX7_isTableLine_39 (by decide) ?_
            refine lv_iload hx hb dX7_isTableLine_41 (lv_at hl 5 rfl) ?_
            refine nv_mulE (r := 13 * l1) hx hb rfl dX7_isTableLine_43 ?_
            refine lv_iload_n hx hb dX7_isTableLine_44 rfl (lv_at hl 2 rfl) ?_
            refine nv_addE (r := (13 * l1) + j) hx hb rfl dX7_isTableLine_45 ?_
            refine nv_zald hx hb hK hP 1 1 rfl rfl (by omega) (by decide) dX7_isTableLine_46 ?_
            refine nv_top (v' := .int (nI (tbl ln l1 j).toNat)) (congrArg (fun z : Bool => Value.int (nI z.toNat)) (k_t l1 j (by omega) (by omega))) ?_
            refine nv_ifb_eq (tgt := 69) hx hb dX7_isTableLine_47 (by decide) (fun c47 => ?_) (fun c47 => ?_)
            · refine lv_iconst (v := nI 0) hx hb dX7_isTableLine_69 (by decide) ?_
              refine lv_istore (lv' := [(4, .int (nI 0)), (0, .ref (md 0)), (1, .int (nI i)), (2, .int (nI j)), (3, .int (nI k)), (5, .int (nI l1))]) hx hb dX7_isTableLine_70 hl (by decide) rfl (fun ls hl => ?_)
              refine lv_iinc (v := nI (l1 + 1)) (lv' := [(5, .int (nI (l1 + 1))), (4, .int (nI 0)), (0, .ref (md 0)), (1, .int (nI i)), (2, .int (nI j)), (3, .int (nI k))]) hx hb dX7_isTableLine_72 hl (k := 5) rfl (nI_inc l1) (by decide) rfl (fun ls hl => ?_)
              refine lv_goto (tgt := 6) hx hb dX7_isTableLine_75 (by decide) ?_
              exact ih6 false (l1 + 1) ls (by omega) (by omega) (by rw [anyB, ← k_y, c17, c32, c47]; rfl) (lv_sub hl [2, 3, 4, 5, 1, 0] rfl)
            · refine lv_aload_n hx hb dX7_isTableLine_50 rfl (lv_at hl 0 rfl) ?_
              refine va_get (D := D) (ci := 7) (v := .ref (md 17)) (C := RX7) (T := TX7) (N := 20) hx hb hts hiX7 hown hK hP 0 rfl rfl 19 (by decide) hf59 (fun _ h9 => h9) rfl dX7_isTableLine_51 ?_
              refine lv_bipush (v := nI 13) hx hb dX7_isTableLine_54 (by decide) ?_
              refine lv_iload hx hb dX7_isTableLine_56 (lv_at hl 5 rfl) ?_
              refine nv_mulE (r := 13 * l1) hx hb rfl dX7_isTableLine_58 ?_
              refine lv_iload_n hx hb dX7_isTableLine_59 rfl (lv_at hl 3 rfl) ?_
              refine nv_addE (r := (13 * l1) + k) hx hb rfl dX7_isTableLine_60 ?_
              refine nv_zald hx hb hK hP 1 1 rfl rfl (by omega) (by decide) dX7_isTableLine_61 ?_
              refine nv_top (v' := .int (nI (tbl ln l1 k).toNat)) (congrArg (fun z : Bool => Value.int (nI z.toNat)) (k_t l1 k (by omega) (by omega))) ?_
              refine nv_ifb_eq (tgt := 69) hx hb dX7_isTableLine_62 (by decide) (fun c62 => ?_) (fun c62 => ?_)
              · refine lv_iconst (v := nI 0) hx hb dX7_isTableLine_69 (by decide) ?_
                refine lv_istore (lv' := [(4, .int (nI 0)), (0, .ref (md 0)), (1, .int (nI i)), (2, .int (nI j)), (3, .int (nI k)), (5, .int (nI l1))]) hx hb dX7_isTableLine_70 hl (by decide) rfl (fun ls hl => ?_)
                refine lv_iinc (v := nI (l1 + 1)) (lv' := [(5, .int (nI (l1 + 1))), (4, .int (nI 0)), (0, .ref (md 0)), (1, .int (nI i)), (2, .int (nI j)), (3, .int (nI k))]) hx hb dX7_isTableLine_72 hl (k := 5) rfl (nI_inc l1) (by decide) rfl (fun ls hl => ?_)
                refine lv_goto (tgt := 6) hx hb dX7_isTableLine_75 (by decide) ?_
                exact ih6 false (l1 + 1) ls (by omega) (by omega) (by rw [anyB, ← k_y, c17, c32, c47, c62]; rfl) (lv_sub hl [2, 3, 4, 5, 1, 0] rfl)
              · refine lv_iconst (v := nI 1) hx hb dX7_isTableLine_65 (by decide) ?_
                refine lv_goto (tgt := 70) hx hb dX7_isTableLine_66 (by decide) ?_
                refine lv_istore (lv' := [(4, .int (nI 1)), (0, .ref (md 0)), (1, .int (nI i)), (2, .int (nI j)), (3, .int (nI k)), (5, .int (nI l1))]) hx hb dX7_isTableLine_70 hl (by decide) rfl (fun ls hl => ?_)
                refine lv_iinc (v := nI (l1 + 1)) (lv' := [(5, .int (nI (l1 + 1))), (4, .int (nI 1)), (0, .ref (md 0)), (1, .int (nI i)), (2, .int (nI j)), (3, .int (nI k))]) hx hb dX7_isTableLine_72 hl (k := 5) rfl (nI_inc l1) (by decide) rfl (fun ls hl => ?_)
                refine lv_goto (tgt := 6) hx hb dX7_isTableLine_75 (by decide) ?_
                exact ih6 true (l1 + 1) ls (by omega) (by omega) (by rw [anyB, ← k_y, c17, c32, c47, c62]; rfl) (lv_sub hl [2, 3, 4, 5, 1, 0] rfl)
  exact L6 (w - 0 + 1) false 0 ls (by omega) (Nat.zero_le _) rfl (lv_sub hl [2, 3, 4, 5, 1, 0] rfl)

set_option maxHeartbeats 4000000 in
set_option maxRecDepth 100000 in
theorem c_X7_hasFrame (l : Launch) (D : va_G) (cI cZ : ClassId) (md : Nat → Nat) (q : Nat) (w : Nat) (mk : Nat → Bool) (ln : Nat → Nat) (k_t : TRl ln mk) (k_w : w ≤ 13) (k_w1 : 1 ≤ w) (k_l : LNK ln) (k_b : bitW ln w) : CtR l yX7_hasFrame wsX7_hasFrame { frames := 1, cells := 0, slots := 0, locals := 25 } D (tyG cI cZ) [.ref (md 0)] [(md 0, .inr (7, [.int (nI q), .int (nI (nn q)), .ref (md 1), .ref (md 2), .ref (md 3), .ref (md 4), .ref (md 5), .ref (md 6), .ref (md 7), .ref (md 8), .ref (md 9), .ref (md 10), .ref (md 11), .ref (md 12), .ref (md 13), .ref (md 14), .ref (md 15), .ref (md 16), .int (nI w), .ref (md 17)])), (md 17, .inl (cZ, 169, .inl (bF mk)))] (.int (nI (hasF ln w).toNat)) := by
  refine Met.ofW (cc := cX7_hasFrame) (maxL := 6) (ret := some .boolean) (by decide) rfl ?_
  intro p e s m args below meth c s₁ B hml hv
  obtain ⟨rfl, hP, hK, hN⟩ := hv
  have hx := B.exec
  have hb := B.bytes
  have hr := B.returns
  have hts := atoms_spec (ws := wsX7_hasFrame) B.pre
  have hown : s.vm.findClass RX7 = some m.cls := findClass_of_methodNamed B.named
  have hlocks := B.notSynchronized
  have hf66 := hts (.fieldLink RX7 66 "FinitePlanesModel" "w" "I") (by decide +kernel)
  have hiX7 : ∀ w ∈ u_ws RX7 TX7 20, w ∈ wsX7_hasFrame := by decide +kernel
  have hl := lv_entry ([.ref (md 0)]) (n := 6) (Nat.le_of_ble_eq_true rfl)
  rw [lg_entry_eq]
  generalize (lg_sl ([.ref (md 0)]) ++ List.replicate (6 - (lg_sl ([.ref (md 0)])).length) Slot.unset).toArray = ls at hl ⊢
  have hl : lv_has ls 6 [(0, .ref (md 0))] := hl
  refine lv_iconst (v := nI 0) hx hb dX7_hasFrame_0 (by decide) ?_
  refine lv_istore_n (lv' := [(1, .int (nI 0)), (0, .ref (md 0))]) hx hb dX7_hasFrame_1 rfl hl (by decide) rfl (fun ls hl => ?_)
  refine lv_iconst (v := nI 0) hx hb dX7_hasFrame_2 (by decide) ?_
  refine lv_istore_n (lv' := [(2, .int (nI 0)), (1, .int (nI 0)), (0, .ref (md 0))]) hx hb dX7_hasFrame_3 rfl hl (by decide) rfl (fun ls hl => ?_)
  have L4 : ∀ (N4 : Nat) (y : Bool) (a : Nat) (ls : Array Slot), w - a < N4 → (a ≤ w) → (y = true → hasF ln w = true) → (y = false → ∀ a1 b1 c1 d1, a1 < a → a1 < b1 → b1 < c1 → c1 < d1 → d1 < w → frm ln w a1 b1 c1 d1 = false) → lv_has ls 6 [(0, .ref (md 0)), (1, .int (nI (y).toNat)), (2, .int (nI a))] → WR p l e wsX7_hasFrame { frames := 1, cells := 0, slots := 0, locals := 25 } s m [.ref (md 0)] below meth c (.int (nI (hasF ln w).toNat)) 4 ls [] := by
    intro N4
    induction N4 with
    | zero => intro y a ls hN; exact absurd hN (Nat.not_lt_zero _)
    | succ N4 ih4 =>
      intro y a ls hN4 k_a t1 n1 hl
      refine lv_iload_n hx hb dX7_hasFrame_4 rfl (lv_at hl 2 rfl) ?_
      refine lv_aload_n hx hb dX7_hasFrame_5 rfl (lv_at hl 0 rfl) ?_
      refine va_get (D := D) (ci := 7) (v := .int (nI w)) (C := RX7) (T := TX7) (N := 20) hx hb hts hiX7 hown hK hP 0 rfl rfl 18 (by decide) hf66 (fun _ h9 => h9) rfl dX7_hasFrame_6 ?_
      refine nv_icmp_ge (tgt := 137) hx hb (by omega) (by omega) dX7_hasFrame_9 (by decide) (fun c9 => ?_) (fun c9 => ?_)
      · refine lv_iload_n hx hb dX7_hasFrame_137 rfl (lv_at hl 1 rfl) ?_
        exact ctR_ret (v := (nI (y).toNat)) hx hb hr (nar_bool y) dX7_hasFrame_138 hlocks (by cases y; (rw [hasF_no (fun a1 b1 c1 d1 h0 => n1 rfl a1 b1 c1 d1 (by omega))]); (rw [t1 rfl]))
      · refine lv_iload_n hx hb dX7_hasFrame_12 rfl (lv_at hl 2 rfl) ?_
        refine lv_iconst (v := nI 1) hx hb dX7_hasFrame_13 (by decide) ?_
        refine nv_addE (r := a + 1) hx hb rfl dX7_hasFrame_14 ?_
        refine lv_istore_n (lv' := [(3, .int (nI (a + 1))), (0, .ref (md 0)), (1, .int (nI (y).toNat)), (2, .int (nI a))]) hx hb dX7_hasFrame_15 rfl hl (by decide) rfl (fun ls hl => ?_)
        have L16 : ∀ (N16 : Nat) (y : Bool) (b : Nat) (ls : Array Slot), w - b < N16 → (a < b) → (b ≤ w) → (y = true → hasF ln w = true) → (y = false → ∀ a1 b1 c1 d1, a1 < a → a1 < b1 → b1 < c1 → c1 < d1 → d1 < w → frm ln w a1 b1 c1 d1 = false) → (y = false → ∀ b1 c1 d1, a < b1 → b1 < b → b1 < c1 → c1 < d1 → d1 < w → frm ln w a b1 c1 d1 = false) → lv_has ls 6 [(0, .ref (md 0)), (1, .int (nI (y).toNat)), (2, .int (nI a)), (3, .int (nI b))] → WR p l e wsX7_hasFrame { frames := 1, cells := 0, slots := 0, locals := 25 } s m [.ref (md 0)] below meth c (.int (nI (hasF ln w).toNat)) 16 ls [] := by
          intro N16
          induction N16 with
          | zero => intro y b ls hN; exact absurd hN (Nat.not_lt_zero _)
          | succ N16 ih16 =>
            intro y b ls hN16 k_b1 k_b2 t1 n1 n2 hl
            refine lv_iload_n hx hb dX7_hasFrame_16 rfl (lv_at hl 3 rfl) ?_
            refine lv_aload_n hx hb dX7_hasFrame_17 rfl (lv_at hl 0 rfl) ?_
            refine va_get (D := D) (ci := 7) (v := .int (nI w)) (C := RX7) (T := TX7) (N := 20) hx hb hts hiX7 hown hK hP 0 rfl rfl 18 (by decide) hf66 (fun _ h9 => h9) rfl dX7_hasFrame_18 ?_
            refine nv_icmp_ge (tgt := 131) hx hb (by omega) (by omega) dX7_hasFrame_21 (by decide) (fun c21 => ?_) (fun c21 => ?_)
            · refine lv_iinc (v := nI (a + 1)) (lv' := [(2, .int (nI (a + 1))), (0, .ref (md 0)), (1, .int (nI (y).toNat)), (3, .int (nI b))]) hx hb dX7_hasFrame_131 hl (k := 2) rfl (nI_inc a) (by decide) rfl (fun ls hl => ?_)
              refine lv_goto (tgt := 4) hx hb dX7_hasFrame_134 (by decide) ?_
              exact ih4 y (a + 1) ls (by omega) (by omega) t1 (fun hy a1 b1 c1 d1 h0 h1 h2 h3 h4 => (Nat.lt_succ_iff_lt_or_eq.mp h0).elim (fun z => n1 hy a1 b1 c1 d1 z h1 h2 h3 h4) (fun z => by subst z; exact n2 hy b1 c1 d1 h1 (by omega) h2 h3 h4)) (lv_sub hl [1, 2, 0] rfl)
            · refine lv_iload_n hx hb dX7_hasFrame_24 rfl (lv_at hl 3 rfl) ?_
              refine lv_iconst (v := nI 1) hx hb dX7_hasFrame_25 (by decide) ?_
              refine nv_addE (r := b + 1) hx hb rfl dX7_hasFrame_26 ?_
              refine lv_istore (lv' := [(4, .int (nI (b + 1))), (0, .ref (md 0)), (1, .int (nI (y).toNat)), (2, .int (nI a)), (3, .int (nI b))]) hx hb dX7_hasFrame_27 hl (by decide) rfl (fun ls hl => ?_)
              have L29 : ∀ (N29 : Nat) (y : Bool) (g : Nat) (ls : Array Slot), w - g < N29 → (b < g) → (g ≤ w) → (y = true → hasF ln w = true) → (y = false → ∀ a1 b1 c1 d1, a1 < a → a1 < b1 → b1 < c1 → c1 < d1 → d1 < w → frm ln w a1 b1 c1 d1 = false) → (y = false → ∀ b1 c1 d1, a < b1 → b1 < b → b1 < c1 → c1 < d1 → d1 < w → frm ln w a b1 c1 d1 = false) → (y = false → ∀ c1 d1, b < c1 → c1 < g → c1 < d1 → d1 < w → frm ln w a b c1 d1 = false) → lv_has ls 6 [(0, .ref (md 0)), (1, .int (nI (y).toNat)), (2, .int (nI a)), (3, .int (nI b)), (4, .int (nI g))] → WR p l e wsX7_hasFrame { frames := 1, cells := 0, slots := 0, locals := 25 } s m [.ref (md 0)] below meth c (.int (nI (hasF ln w).toNat)) 29 ls [] := by
                intro N29
                induction N29 with
                | zero => intro y g ls hN; exact absurd hN (Nat.not_lt_zero _)
                | succ N29 ih29 =>
                  intro y g ls hN29 k_g k_g2 t1 n1 n2 n3 hl
                  refine lv_iload hx hb dX7_hasFrame_29 (lv_at hl 4 rfl) ?_
                  refine lv_aload_n hx hb dX7_hasFrame_31 rfl (lv_at hl 0 rfl) ?_
                  refine va_get (D := D) (ci := 7) (v := .int (nI w)) (C := RX7) (T := TX7) (N := 20) hx hb hts hiX7 hown hK hP 0 rfl rfl 18 (by decide) hf66 (fun _ h9 => h9) rfl dX7_hasFrame_32 ?_
                  refine nv_icmp_ge (tgt := 125) hx hb (by omega) (by omega) dX7_hasFrame_35 (by decide) (fun c35 => ?_) (fun c35 => ?_)
                  · refine lv_iinc (v := nI (b + 1)) (lv' := [(3, .int (nI (b + 1))), (0, .ref (md 0)), (1, .int (nI (y).toNat)), (2, .int (nI a)), (4, .int (nI g))]) hx hb dX7_hasFrame_125 hl (k := 3) rfl (nI_inc b) (by decide) rfl (fun ls hl => ?_)
                    refine lv_goto (tgt := 16) hx hb dX7_hasFrame_128 (by decide) ?_
                    exact ih16 y (b + 1) ls (by omega) (by omega) (by omega) t1 n1 (fun hy b1 c1 d1 h0 h1 h2 h3 h4 => (Nat.lt_succ_iff_lt_or_eq.mp h1).elim (fun z => n2 hy b1 c1 d1 h0 z h2 h3 h4) (fun z => by subst z; exact n3 hy c1 d1 h2 (by omega) h3 h4)) (lv_sub hl [1, 2, 3, 0] rfl)
                  · refine lv_iload_n hx hb dX7_hasFrame_38 rfl (lv_at hl 1 rfl) ?_
                    refine nv_ifb_ne (tgt := 125) hx hb dX7_hasFrame_39 (by decide) (fun c39 => ?_) (fun c39 => ?_)
                    · refine lv_iinc (v := nI (b + 1)) (lv' := [(3, .int (nI (b + 1))), (0, .ref (md 0)), (1, .int (nI (y).toNat)), (2, .int (nI a)), (4, .int (nI g))]) hx hb dX7_hasFrame_125 hl (k := 3) rfl (nI_inc b) (by decide) rfl (fun ls hl => ?_)
                      refine lv_goto (tgt := 16) hx hb dX7_hasFrame_128 (by decide) ?_
                      exact ih16 y (b + 1) ls (by omega) (by omega) (by omega) t1 n1 (fun hy => by rw [c39] at hy; cases hy) (lv_sub hl [1, 2, 3, 0] rfl)
                    · refine lv_iload hx hb dX7_hasFrame_42 (lv_at hl 4 rfl) ?_
                      refine lv_iconst (v := nI 1) hx hb dX7_hasFrame_44 (by decide) ?_
                      refine nv_addE (r := g + 1) hx hb rfl dX7_hasFrame_45 ?_
                      refine lv_istore (lv' := [(5, .int (nI (g + 1))), (0, .ref (md 0)), (1, .int (nI (y).toNat)), (2, .int (nI a)), (3, .int (nI b)), (4, .int (nI g))]) hx hb dX7_hasFrame_46 hl (by decide) rfl (fun ls hl => ?_)
                      have L48 : ∀ (N48 : Nat) (y : Bool) (d : Nat) (ls : Array Slot), w - d < N48 → (g < d) → (d ≤ w) → (y = true → hasF ln w = true) → (y = false → ∀ a1 b1 c1 d1, a1 < a → a1 < b1 → b1 < c1 → c1 < d1 → d1 < w → frm ln w a1 b1 c1 d1 = false) → (y = false → ∀ b1 c1 d1, a < b1 → b1 < b → b1 < c1 → c1 < d1 → d1 < w → frm ln w a b1 c1 d1 = false) → (y = false → ∀ c1 d1, b < c1 → c1 < g → c1 < d1 → d1 < w → frm ln w a b c1 d1 = false) → (y = false → ∀ d1, g < d1 → d1 < d → frm ln w a b g d1 = false) → lv_has ls 6 [(0, .ref (md 0)), (1, .int (nI (y).toNat)), (2, .int (nI a)), (3, .int (nI b)), (4, .int (nI g)), (5, .int (nI d))] → WR p l e wsX7_hasFrame { frames := 1, cells := 0, slots := 0, locals := 25 } s m [.ref (md 0)] below meth c (.int (nI (hasF ln w).toNat)) 48 ls [] := by
                        intro N48
                        induction N48 with
                        | zero => intro y d ls hN; exact absurd hN (Nat.not_lt_zero _)
                        | succ N48 ih48 =>
                          intro y d ls hN48 k_d k_d2 t1 n1 n2 n3 n4 hl
                          refine lv_iload hx hb dX7_hasFrame_48 (lv_at hl 5 rfl) ?_
                          refine lv_aload_n hx hb dX7_hasFrame_50 rfl (lv_at hl 0 rfl) ?_
                          refine va_get (D := D) (ci := 7) (v := .int (nI w)) (C := RX7) (T := TX7) (N := 20) hx hb hts hiX7 hown hK hP 0 rfl rfl 18 (by decide) hf66 (fun _ h9 => h9) rfl dX7_hasFrame_51 ?_
                          refine nv_icmp_ge (tgt := 119) hx hb (by omega) (by omega) dX7_hasFrame_54 (by decide) (fun c54 => ?_) (fun c54 => ?_)
                          · refine lv_iinc (v := nI (g + 1)) (lv' := [(4, .int (nI (g + 1))), (0, .ref (md 0)), (1, .int (nI (y).toNat)), (2, .int (nI a)), (3, .int (nI b)), (5, .int (nI d))]) hx hb dX7_hasFrame_119 hl (k := 4) rfl (nI_inc g) (by decide) rfl (fun ls hl => ?_)
                            refine lv_goto (tgt := 29) hx hb dX7_hasFrame_122 (by decide) ?_
                            exact ih29 y (g + 1) ls (by omega) (by omega) (by omega) t1 n1 n2 (fun hy c1 d1 h0 h1 h2 h3 => (Nat.lt_succ_iff_lt_or_eq.mp h1).elim (fun z => n3 hy c1 d1 h0 z h2 h3) (fun z => by subst z; exact n4 hy d1 h2 (by omega))) (lv_sub hl [1, 2, 3, 4, 0] rfl)
                          · refine lv_iload_n hx hb dX7_hasFrame_57 rfl (lv_at hl 1 rfl) ?_
                            refine nv_ifb_ne (tgt := 119) hx hb dX7_hasFrame_58 (by decide) (fun c58 => ?_) (fun c58 => ?_)
                            · refine lv_iinc (v := nI (g + 1)) (lv' := [(4, .int (nI (g + 1))), (0, .ref (md 0)), (1, .int (nI (y).toNat)), (2, .int (nI a)), (3, .int (nI b)), (5, .int (nI d))]) hx hb dX7_hasFrame_119 hl (k := 4) rfl (nI_inc g) (by decide) rfl (fun ls hl => ?_)
                              refine lv_goto (tgt := 29) hx hb dX7_hasFrame_122 (by decide) ?_
                              exact ih29 y (g + 1) ls (by omega) (by omega) (by omega) t1 n1 n2 (fun hy => by rw [c58] at hy; cases hy) (lv_sub hl [1, 2, 3, 4, 0] rfl)
                            · refine lv_aload_n hx hb dX7_hasFrame_61 rfl (lv_at hl 0 rfl) ?_
                              refine lv_iload_n hx hb dX7_hasFrame_62 rfl (lv_at hl 2 rfl) ?_
                              refine lv_iload_n hx hb dX7_hasFrame_63 rfl (lv_at hl 3 rfl) ?_
                              refine lv_iload hx hb dX7_hasFrame_64 (lv_at hl 4 rfl) ?_
                              refine ctR_V (As := [.int (nI a), .int (nI b), .int (nI g)]) (rest := []) (r := .int (nI (lin3 ln w a b g).toNat)) ⟨hx, hb, hml, hown, hts⟩ (c_X7_isTableLine l D cI cZ md q w mk ln k_t k_w k_w1 k_l k_b a b g (by omega) (by omega) (by omega)) (cwV 3 hts gX7_hasFrame_X7_isTableLine rfl rfl rfl hdV_X7_isTableLine ⟨Nat.le_of_ble_eq_true rfl, Nat.le_of_ble_eq_true rfl⟩) hK hN hP [0, 1] rfl 0 7 rfl rfl rfl hl.1 rfl (Nat.le_of_ble_eq_true rfl) ⟨Nat.zero_le _, Nat.zero_le _⟩ dX7_hasFrame_66 ?_
                              refine nv_ifb_ne (tgt := 111) hx hb dX7_hasFrame_69 (by decide) (fun c69 => ?_) (fun c69 => ?_)
                              · refine lv_iconst (v := nI 0) hx hb dX7_hasFrame_111 (by decide) ?_
                                refine lv_istore_n (lv' := [(1, .int (nI 0)), (0, .ref (md 0)), (2, .int (nI a)), (3, .int (nI b)), (4, .int (nI g)), (5, .int (nI d))]) hx hb dX7_hasFrame_112 rfl hl (by decide) rfl (fun ls hl => ?_)
                                refine lv_iinc (v := nI (d + 1)) (lv' := [(5, .int (nI (d + 1))), (1, .int (nI 0)), (0, .ref (md 0)), (2, .int (nI a)), (3, .int (nI b)), (4, .int (nI g))]) hx hb dX7_hasFrame_113 hl (k := 5) rfl (nI_inc d) (by decide) rfl (fun ls hl => ?_)
                                refine lv_goto (tgt := 48) hx hb dX7_hasFrame_116 (by decide) ?_
                                exact ih48 false (d + 1) ls (by omega) (by omega) (by omega) (fun h => by cases h) (fun _ => n1 c58) (fun _ => n2 c58) (fun _ => n3 c58) (fun _ d1 h0 h1 => (Nat.lt_succ_iff_lt_or_eq.mp h1).elim (fun z => n4 c58 d1 h0 z) (fun z => by subst z; rw [frm_eq k_b1 k_g k_d (by omega)]; simp [c69])) (lv_sub hl [2, 1, 3, 4, 5, 0] rfl)
                              · refine lv_aload_n hx hb dX7_hasFrame_72 rfl (lv_at hl 0 rfl) ?_
                                refine lv_iload_n hx hb dX7_hasFrame_73 rfl (lv_at hl 2 rfl) ?_
                                refine lv_iload_n hx hb dX7_hasFrame_74 rfl (lv_at hl 3 rfl) ?_
                                refine lv_iload hx hb dX7_hasFrame_75 (lv_at hl 5 rfl) ?_
                                refine ctR_V (As := [.int (nI a), .int (nI b), .int (nI d)]) (rest := []) (r := .int (nI (lin3 ln w a b d).toNat)) ⟨hx, hb, hml, hown, hts⟩ (c_X7_isTableLine l D cI cZ md q w mk ln k_t k_w k_w1 k_l k_b a b d (by omega) (by omega) (by omega)) (cwV 3 hts gX7_hasFrame_X7_isTableLine rfl rfl rfl hdV_X7_isTableLine ⟨Nat.le_of_ble_eq_true rfl, Nat.le_of_ble_eq_true rfl⟩) hK hN hP [0, 1] rfl 0 7 rfl rfl rfl hl.1 rfl (Nat.le_of_ble_eq_true rfl) ⟨Nat.zero_le _, Nat.zero_le _⟩ dX7_hasFrame_77 ?_
                                refine nv_ifb_ne (tgt := 111) hx hb dX7_hasFrame_80 (by decide) (fun c80 => ?_) (fun c80 => ?_)
                                · refine lv_iconst (v := nI 0) hx hb dX7_hasFrame_111 (by decide) ?_
                                  refine lv_istore_n (lv' := [(1, .int (nI 0)), (0, .ref (md 0)), (2, .int (nI a)), (3, .int (nI b)), (4, .int (nI g)), (5, .int (nI d))]) hx hb dX7_hasFrame_112 rfl hl (by decide) rfl (fun ls hl => ?_)
                                  refine lv_iinc (v := nI (d + 1)) (lv' := [(5, .int (nI (d + 1))), (1, .int (nI 0)), (0, .ref (md 0)), (2, .int (nI a)), (3, .int (nI b)), (4, .int (nI g))]) hx hb dX7_hasFrame_113 hl (k := 5) rfl (nI_inc d) (by decide) rfl (fun ls hl => ?_)
                                  refine lv_goto (tgt := 48) hx hb dX7_hasFrame_116 (by decide) ?_
                                  exact ih48 false (d + 1) ls (by omega) (by omega) (by omega) (fun h => by cases h) (fun _ => n1 c58) (fun _ => n2 c58) (fun _ => n3 c58) (fun _ d1 h0 h1 => (Nat.lt_succ_iff_lt_or_eq.mp h1).elim (fun z => n4 c58 d1 h0 z) (fun z => by subst z; rw [frm_eq k_b1 k_g k_d (by omega)]; simp [c80])) (lv_sub hl [2, 1, 3, 4, 5, 0] rfl)
                                · refine lv_aload_n hx hb dX7_hasFrame_83 rfl (lv_at hl 0 rfl) ?_
                                  refine lv_iload_n hx hb dX7_hasFrame_84 rfl (lv_at hl 2 rfl) ?_
                                  refine lv_iload hx hb dX7_hasFrame_85 (lv_at hl 4 rfl) ?_
                                  refine lv_iload hx hb dX7_hasFrame_87 (lv_at hl 5 rfl) ?_
                                  refine ctR_V (As := [.int (nI a), .int (nI g), .int (nI d)]) (rest := []) (r := .int (nI (lin3 ln w a g d).toNat)) ⟨hx, hb, hml, hown, hts⟩ (c_X7_isTableLine l D cI cZ md q w mk ln k_t k_w k_w1 k_l k_b a g d (by omega) (by omega) (by omega)) (cwV 3 hts gX7_hasFrame_X7_isTableLine rfl rfl rfl hdV_X7_isTableLine ⟨Nat.le_of_ble_eq_true rfl, Nat.le_of_ble_eq_true rfl⟩) hK hN hP [0, 1] rfl 0 7 rfl rfl rfl hl.1 rfl (Nat.le_of_ble_eq_true rfl) ⟨Nat.zero_le _, Nat.zero_le _⟩ dX7_hasFrame_89 ?_
                                  refine nv_ifb_ne (tgt := 111) hx hb dX7_hasFrame_92 (by decide) (fun c92 => ?_) (fun c92 => ?_)
                                  · refine lv_iconst (v := nI 0) hx hb dX7_hasFrame_111 (by decide) ?_
                                    refine lv_istore_n (lv' := [(1, .int (nI 0)), (0, .ref (md 0)), (2, .int (nI a)), (3, .int (nI b)), (4, .int (nI g)), (5, .int (nI d))]) hx hb dX7_hasFrame_112 rfl hl (by decide) rfl (fun ls hl => ?_)
                                    refine lv_iinc (v := nI (d + 1)) (lv' := [(5, .int (nI (d + 1))), (1, .int (nI 0)), (0, .ref (md 0)), (2, .int (nI a)), (3, .int (nI b)), (4, .int (nI g))]) hx hb dX7_hasFrame_113 hl (k := 5) rfl (nI_inc d) (by decide) rfl (fun ls hl => ?_)
                                    refine lv_goto (tgt := 48) hx hb dX7_hasFrame_116 (by decide) ?_
                                    exact ih48 false (d + 1) ls (by omega) (by omega) (by omega) (fun h => by cases h) (fun _ => n1 c58) (fun _ => n2 c58) (fun _ => n3 c58) (fun _ d1 h0 h1 => (Nat.lt_succ_iff_lt_or_eq.mp h1).elim (fun z => n4 c58 d1 h0 z) (fun z => by subst z; rw [frm_eq k_b1 k_g k_d (by omega)]; simp [c92])) (lv_sub hl [2, 1, 3, 4, 5, 0] rfl)
                                  · refine lv_aload_n hx hb dX7_hasFrame_95 rfl (lv_at hl 0 rfl) ?_
                                    refine lv_iload_n hx hb dX7_hasFrame_96 rfl (lv_at hl 3 rfl) ?_
                                    refine lv_iload hx hb dX7_hasFrame_97 (lv_at hl 4 rfl) ?_
                                    refine lv_iload hx hb dX7_hasFrame_99 (lv_at hl 5 rfl) ?_
                                    refine ctR_V (As := [.int (nI b), .int (nI g), .int (nI d)]) (rest := []) (r := .int (nI (lin3 ln w b g d).toNat)) ⟨hx, hb, hml, hown, hts⟩ (c_X7_isTableLine l D cI cZ md q w mk ln k_t k_w k_w1 k_l k_b b g d (by omega) (by omega) (by omega)) (cwV 3 hts gX7_hasFrame_X7_isTableLine rfl rfl rfl hdV_X7_isTableLine ⟨Nat.le_of_ble_eq_true rfl, Nat.le_of_ble_eq_true rfl⟩) hK hN hP [0, 1] rfl 0 7 rfl rfl rfl hl.1 rfl (Nat.le_of_ble_eq_true rfl) ⟨Nat.zero_le _, Nat.zero_le _⟩ dX7_hasFrame_101 ?_
                                    refine nv_ifb_ne (tgt := 111) hx hb dX7_hasFrame_104 (by decide) (fun c104 => ?_) (fun c104 => ?_)
                                    · refine lv_iconst (v := nI 0) hx hb dX7_hasFrame_111 (by decide) ?_
                                      refine lv_istore_n (lv' := [(1, .int (nI 0)), (0, .ref (md 0)), (2, .int (nI a)), (3, .int (nI b)), (4, .int (nI g)), (5, .int (nI d))]) hx hb dX7_hasFrame_112 rfl hl (by decide) rfl (fun ls hl => ?_)
                                      refine lv_iinc (v := nI (d + 1)) (lv' := [(5, .int (nI (d + 1))), (1, .int (nI 0)), (0, .ref (md 0)), (2, .int (nI a)), (3, .int (nI b)), (4, .int (nI g))]) hx hb dX7_hasFrame_113 hl (k := 5) rfl (nI_inc d) (by decide) rfl (fun ls hl => ?_)
                                      refine lv_goto (tgt := 48) hx hb dX7_hasFrame_116 (by decide) ?_
                                      exact ih48 false (d + 1) ls (by omega) (by omega) (by omega) (fun h => by cases h) (fun _ => n1 c58) (fun _ => n2 c58) (fun _ => n3 c58) (fun _ d1 h0 h1 => (Nat.lt_succ_iff_lt_or_eq.mp h1).elim (fun z => n4 c58 d1 h0 z) (fun z => by subst z; rw [frm_eq k_b1 k_g k_d (by omega)]; simp [c104])) (lv_sub hl [2, 1, 3, 4, 5, 0] rfl)
                                    · refine lv_iconst (v := nI 1) hx hb dX7_hasFrame_107 (by decide) ?_
                                      refine lv_goto (tgt := 112) hx hb dX7_hasFrame_108 (by decide) ?_
                                      refine lv_istore_n (lv' := [(1, .int (nI 1)), (0, .ref (md 0)), (2, .int (nI a)), (3, .int (nI b)), (4, .int (nI g)), (5, .int (nI d))]) hx hb dX7_hasFrame_112 rfl hl (by decide) rfl (fun ls hl => ?_)
                                      refine lv_iinc (v := nI (d + 1)) (lv' := [(5, .int (nI (d + 1))), (1, .int (nI 1)), (0, .ref (md 0)), (2, .int (nI a)), (3, .int (nI b)), (4, .int (nI g))]) hx hb dX7_hasFrame_113 hl (k := 5) rfl (nI_inc d) (by decide) rfl (fun ls hl => ?_)
                                      refine lv_goto (tgt := 48) hx hb dX7_hasFrame_116 (by decide) ?_
                                      exact ih48 true (d + 1) ls (by omega) (by omega) (by omega) (fun _ => hasF_yes k_b1 k_g k_d c54 (by rw [frm_eq k_b1 k_g k_d (by omega), c69, c80, c92, c104]; rfl)) (fun h => by cases h) (fun h => by cases h) (fun h => by cases h) (fun h => by cases h) (lv_sub hl [2, 1, 3, 4, 5, 0] rfl)
                      exact L48 (w - (g + 1) + 1) y (g + 1) ls (by omega) (by omega) (by omega) t1 n1 n2 n3 (fun _ _ h h2 => absurd h (by omega)) (lv_sub hl [1, 2, 3, 4, 5, 0] rfl)
              exact L29 (w - (b + 1) + 1) y (b + 1) ls (by omega) (by omega) (by omega) t1 n1 n2 (fun _ _ _ h h2 => absurd h (by omega)) (lv_sub hl [1, 2, 3, 4, 0] rfl)
        exact L16 (w - (a + 1) + 1) y (a + 1) ls (by omega) (by omega) (by omega) t1 n1 (fun _ _ _ _ h h2 => absurd h (by omega)) (lv_sub hl [1, 2, 3, 0] rfl)
  exact L4 (w - 0 + 1) false 0 ls (by omega) (Nat.zero_le _) (fun h => by cases h) (fun _ _ _ _ _ h => absurd h (Nat.not_lt_zero _)) (lv_sub hl [2, 1, 0] rfl)

set_option maxHeartbeats 4000000 in
set_option maxRecDepth 100000 in
theorem c_X7_flaw (l : Launch) (D : va_G) (cI cZ : ClassId) (md : Nat → Nat) (q : Nat) (w : Nat) (mk : Nat → Bool) (ln : Nat → Nat) (k_t : TRl ln mk) (k_w : w ≤ 13) (k_w1 : 1 ≤ w) (k_l : LNK ln) (k_b : bitW ln w) : CtR l yX7_flaw wsX7_flaw { frames := 2, cells := 0, slots := 0, locals := 50 } D (tyG cI cZ) [.ref (md 0)] [(md 0, .inr (7, [.int (nI q), .int (nI (nn q)), .ref (md 1), .ref (md 2), .ref (md 3), .ref (md 4), .ref (md 5), .ref (md 6), .ref (md 7), .ref (md 8), .ref (md 9), .ref (md 10), .ref (md 11), .ref (md 12), .ref (md 13), .ref (md 14), .ref (md 15), .ref (md 16), .int (nI w), .ref (md 17)])), (md 17, .inl (cZ, 169, .inl (bF mk)))] (.int (nI (flaN ln w 169))) := by
  refine Met.ofW (cc := cX7_flaw) (maxL := 2) (ret := some .int) (by decide) rfl ?_
  intro p e s m args below meth c s₁ B hml hv
  obtain ⟨rfl, hP, hK, hN⟩ := hv
  have hx := B.exec
  have hb := B.bytes
  have hr := B.returns
  have hts := atoms_spec (ws := wsX7_flaw) B.pre
  have hown : s.vm.findClass RX7 = some m.cls := findClass_of_methodNamed B.named
  have hlocks := B.notSynchronized
  have hl := lv_entry ([.ref (md 0)]) (n := 2) (Nat.le_of_ble_eq_true rfl)
  rw [lg_entry_eq]
  generalize (lg_sl ([.ref (md 0)]) ++ List.replicate (2 - (lg_sl ([.ref (md 0)])).length) Slot.unset).toArray = ls at hl ⊢
  have hl : lv_has ls 2 [(0, .ref (md 0))] := hl
  refine lv_aload_n hx hb dX7_flaw_0 rfl (lv_at hl 0 rfl) ?_
  refine lv_iconst (v := nI 1) hx hb dX7_flaw_1 (by decide) ?_
  refine ctR_V (As := [.int (nI 1)]) (rest := []) (r := .int (nI (flv true (fstT (badB ln w true) 169)))) ⟨hx, hb, hml, hown, hts⟩ (c_X7_flawOf l D cI cZ md q w mk ln k_t k_w k_w1 k_l k_b true) (cwV 1 hts gX7_flaw_X7_flawOf rfl rfl rfl hdV_X7_flawOf ⟨Nat.le_of_ble_eq_true rfl, Nat.le_of_ble_eq_true rfl⟩) hK hN hP [0, 1] rfl 0 7 rfl rfl rfl hl.1 rfl (Nat.le_of_ble_eq_true rfl) ⟨Nat.zero_le _, Nat.zero_le _⟩ dX7_flaw_2 ?_
  refine nv_top (v' := .int (nI (flv true (fstT (badL ln w) 169)))) (by rw [badB_L k_b k_w]) ?_
  refine lv_istore_n (lv' := [(1, .int (nI (flv true (fstT (badL ln w) 169)))), (0, .ref (md 0))]) hx hb dX7_flaw_5 rfl hl (by decide) rfl (fun ls hl => ?_)
  refine lv_iload_n hx hb dX7_flaw_6 rfl (lv_at hl 0 rfl) ?_
  refine nv_if_ne (tgt := 18) hx hb flv_lt dX7_flaw_7 (by decide) (fun c7 => ?_) (fun c7 => ?_)
  · refine lv_iload_n hx hb dX7_flaw_18 rfl (lv_at hl 0 rfl) ?_
    refine lv_istore_n (lv' := [(1, .int (nI (flv true (fstT (badL ln w) 169)))), (0, .ref (md 0))]) hx hb dX7_flaw_19 rfl hl (by decide) rfl (fun ls hl => ?_)
    refine lv_iload_n hx hb dX7_flaw_20 rfl (lv_at hl 0 rfl) ?_
    refine nv_if_eq (tgt := 28) hx hb flv_lt dX7_flaw_21 (by decide) (fun c21 => ?_) (fun c21 => ?_)
    · refine lv_aload_n hx hb dX7_flaw_28 rfl (lv_at hl 1 rfl) ?_
      refine ctR_V (As := []) (rest := []) (r := .int (nI (hasF ln w).toNat)) ⟨hx, hb, hml, hown, hts⟩ (c_X7_hasFrame l D cI cZ md q w mk ln k_t k_w k_w1 k_l k_b) (cwV 0 hts gX7_flaw_X7_hasFrame rfl rfl rfl hdV_X7_hasFrame ⟨Nat.le_of_ble_eq_true rfl, Nat.le_of_ble_eq_true rfl⟩) hK hN hP [0, 1] rfl 0 7 rfl rfl rfl hl.1 rfl (Nat.le_of_ble_eq_true rfl) ⟨Nat.zero_le _, Nat.zero_le _⟩ dX7_flaw_29 ?_
      refine nv_ifb_eq (tgt := 39) hx hb dX7_flaw_32 (by decide) (fun c32 => ?_) (fun c32 => ?_)
      · refine lv_sipush (v := nI 3000) hx hb dX7_flaw_39 (by decide) ?_
        exact ctR_ret (v := (nI 3000)) hx hb hr rfl dX7_flaw_42 hlocks (flaN_N (flv_0.mp c21) (by have h9 := c7; exact absurd c21 h9) c32)
      · refine lv_iconst (v := nI 0) hx hb dX7_flaw_35 (by decide) ?_
        refine lv_goto (tgt := 42) hx hb dX7_flaw_36 (by decide) ?_
        exact ctR_ret (v := (nI 0)) hx hb hr rfl dX7_flaw_42 hlocks (flaN_F (flv_0.mp c21) (by have h9 := c7; exact absurd c21 h9) c32)
    · refine lv_iload_n hx hb dX7_flaw_24 rfl (lv_at hl 0 rfl) ?_
      refine lv_goto (tgt := 42) hx hb dX7_flaw_25 (by decide) ?_
      exact ctR_ret (v := (nI (flv true (fstT (badL ln w) 169)))) hx hb hr rfl dX7_flaw_42 hlocks (flaN_0 rfl c7)
  · refine lv_aload_n hx hb dX7_flaw_10 rfl (lv_at hl 1 rfl) ?_
    refine lv_iconst (v := nI 0) hx hb dX7_flaw_11 (by decide) ?_
    refine ctR_V (As := [.int (nI 0)]) (rest := []) (r := .int (nI (flv false (fstT (badB ln w false) 169)))) ⟨hx, hb, hml, hown, hts⟩ (c_X7_flawOf l D cI cZ md q w mk ln k_t k_w k_w1 k_l k_b false) (cwV 1 hts gX7_flaw_X7_flawOf rfl rfl rfl hdV_X7_flawOf ⟨Nat.le_of_ble_eq_true rfl, Nat.le_of_ble_eq_true rfl⟩) hK hN hP [0, 1] rfl 0 7 rfl rfl rfl hl.1 rfl (Nat.le_of_ble_eq_true rfl) ⟨Nat.zero_le _, Nat.zero_le _⟩ dX7_flaw_12 ?_
    refine nv_top (v' := .int (nI (flv false (fstT (badP ln w) 169)))) (by rw [badB_P]) ?_
    refine lv_goto (tgt := 19) hx hb dX7_flaw_15 (by decide) ?_
    refine lv_istore_n (lv' := [(1, .int (nI (flv false (fstT (badP ln w) 169)))), (0, .ref (md 0))]) hx hb dX7_flaw_19 rfl hl (by decide) rfl (fun ls hl => ?_)
    refine lv_iload_n hx hb dX7_flaw_20 rfl (lv_at hl 0 rfl) ?_
    refine nv_if_eq (tgt := 28) hx hb flv_lt dX7_flaw_21 (by decide) (fun c21 => ?_) (fun c21 => ?_)
    · refine lv_aload_n hx hb dX7_flaw_28 rfl (lv_at hl 1 rfl) ?_
      refine ctR_V (As := []) (rest := []) (r := .int (nI (hasF ln w).toNat)) ⟨hx, hb, hml, hown, hts⟩ (c_X7_hasFrame l D cI cZ md q w mk ln k_t k_w k_w1 k_l k_b) (cwV 0 hts gX7_flaw_X7_hasFrame rfl rfl rfl hdV_X7_hasFrame ⟨Nat.le_of_ble_eq_true rfl, Nat.le_of_ble_eq_true rfl⟩) hK hN hP [0, 1] rfl 0 7 rfl rfl rfl hl.1 rfl (Nat.le_of_ble_eq_true rfl) ⟨Nat.zero_le _, Nat.zero_le _⟩ dX7_flaw_29 ?_
      refine nv_ifb_eq (tgt := 39) hx hb dX7_flaw_32 (by decide) (fun c32 => ?_) (fun c32 => ?_)
      · refine lv_sipush (v := nI 3000) hx hb dX7_flaw_39 (by decide) ?_
        exact ctR_ret (v := (nI 3000)) hx hb hr rfl dX7_flaw_42 hlocks (flaN_N (flv_0.mp c7) (flv_0.mp c21) c32)
      · refine lv_iconst (v := nI 0) hx hb dX7_flaw_35 (by decide) ?_
        refine lv_goto (tgt := 42) hx hb dX7_flaw_36 (by decide) ?_
        exact ctR_ret (v := (nI 0)) hx hb hr rfl dX7_flaw_42 hlocks (flaN_F (flv_0.mp c7) (flv_0.mp c21) c32)
    · refine lv_iload_n hx hb dX7_flaw_24 rfl (lv_at hl 0 rfl) ?_
      refine lv_goto (tgt := 42) hx hb dX7_flaw_25 (by decide) ?_
      exact ctR_ret (v := (nI (flv false (fstT (badP ln w) 169)))) hx hb hr rfl dX7_flaw_42 hlocks (flaN_1 c7 rfl c21)

set_option maxHeartbeats 4000000 in
set_option maxRecDepth 100000 in
theorem c_X7_told (l : Launch) (D : va_G) (cI cZ : ClassId) (md : Nat → Nat) (q : Nat) (w : Nat) (su : Nat → Nat) (po : Nat → Nat) (xs : Nat → Nat) (ys : Nat → Nat) (zs : Nat → Nat) (hM : MOK q su po xs ys zs) (mk : Nat → Bool) (k_w : w ≤ 13) : CtW (S := (Nat) × (Nat → Bool)) l yX7_told wsX7_told { frames := 2, cells := 0, slots := 0, locals := 45 } D (tyG cI cZ) [.ref (md 0)] [(md 0, .inr (7, [.int (nI q), .int (nI (nn q)), .ref (md 1), .ref (md 2), .ref (md 3), .ref (md 4), .ref (md 5), .ref (md 6), .ref (md 7), .ref (md 8), .ref (md 9), .ref (md 10), .ref (md 11), .ref (md 12), .ref (md 13), .ref (md 14), .ref (md 15), .ref (md 16), .int (nI w), .ref (md 17)])), (md 1, .inl (cI, 81, .inl (nF su))), (md 2, .inl (cI, 81, .inl (nF po))), (md 3, .inl (cI, 91, .inl (nF xs))), (md 4, .inl (cI, 91, .inl (nF ys))), (md 5, .inl (cI, 91, .inl (nF zs))), (md 17, .inl (cZ, 169, .inl (bF mk)))] (fun u => (fun (w3 : Nat) (mk3 : Nat → Bool) => tolK q w mk w3 mk3) u.1 u.2) (fun u => (fun (w3 : Nat) (mk3 : Nat → Bool) => some (.int (tolZ q))) u.1 u.2) (fun u => (fun (w3 : Nat) (mk3 : Nat → Bool) => [(md 0, .inr (7, [.int (nI q), .int (nI (nn q)), .ref (md 1), .ref (md 2), .ref (md 3), .ref (md 4), .ref (md 5), .ref (md 6), .ref (md 7), .ref (md 8), .ref (md 9), .ref (md 10), .ref (md 11), .ref (md 12), .ref (md 13), .ref (md 14), .ref (md 15), .ref (md 16), .int (nI w3), .ref (md 17)])), (md 1, .inl (cI, 81, .inl (nF su))), (md 2, .inl (cI, 81, .inl (nF po))), (md 3, .inl (cI, 91, .inl (nF xs))), (md 4, .inl (cI, 91, .inl (nF ys))), (md 5, .inl (cI, 91, .inl (nF zs))), (md 17, .inl (cZ, 169, .inl (bF mk3)))]) u.1 u.2) := by
  intro sz; refine Met.ofW (cc := cX7_told) (maxL := 3) (ret := some .int) (by decide) rfl ?_
  intro p e s m args below meth c s₁ B hml hv
  obtain ⟨rfl, hsz, hP, hK, hD0, hN⟩ := hv
  have hx := B.exec
  have hb := B.bytes
  have hr := B.returns
  have hts := atoms_spec (ws := wsX7_told) B.pre
  have hown : s.vm.findClass RX7 = some m.cls := findClass_of_methodNamed B.named
  have hlocks := B.notSynchronized
  subst hsz
  have hD := hD0.self (sz := s.heap.size)
  generalize hAe : va_A [(md 0, .inr (7, [.int (nI q), .int (nI (nn q)), .ref (md 1), .ref (md 2), .ref (md 3), .ref (md 4), .ref (md 5), .ref (md 6), .ref (md 7), .ref (md 8), .ref (md 9), .ref (md 10), .ref (md 11), .ref (md 12), .ref (md 13), .ref (md 14), .ref (md 15), .ref (md 16), .int (nI w), .ref (md 17)])), (md 1, .inl (cI, 81, .inl (nF su))), (md 2, .inl (cI, 81, .inl (nF po))), (md 3, .inl (cI, 91, .inl (nF xs))), (md 4, .inl (cI, 91, .inl (nF ys))), (md 5, .inl (cI, 91, .inl (nF zs))), (md 17, .inl (cZ, 169, .inl (bF mk)))] s.heap.size = A at hD ⊢
  have hA : ∀ q : Nat, s.heap.size ≤ q → A q := fun q h => by rw [← hAe]; exact Or.inr h
  have hS : va_S A s.heap s.heap [] := va_S.rf
  have hP : va_P D vwCl [(md 0, .inr (7, [.int (nI q), .int (nI (nn q)), .ref (md 1), .ref (md 2), .ref (md 3), .ref (md 4), .ref (md 5), .ref (md 6), .ref (md 7), .ref (md 8), .ref (md 9), .ref (md 10), .ref (md 11), .ref (md 12), .ref (md 13), .ref (md 14), .ref (md 15), .ref (md 16), .int (nI w), .ref (md 17)])), (md 1, .inl (cI, 81, .inl (nF su))), (md 2, .inl (cI, 81, .inl (nF po))), (md 3, .inl (cI, 91, .inl (nF xs))), (md 4, .inl (cI, 91, .inl (nF ys))), (md 5, .inl (cI, 91, .inl (nF zs))), (md 17, .inl (cZ, 169, .inl (bF mk)))] s.heap := hP
  have hf59 := hts (.fieldLink RX7 59 "FinitePlanesModel" "isMarked" "[Z") (by decide +kernel)
  have hf66 := hts (.fieldLink RX7 66 "FinitePlanesModel" "w" "I") (by decide +kernel)
  have hf74 := hts (.fieldLink RX7 74 "FinitePlanesModel" "q" "I") (by decide +kernel)
  have hf83 := hts (.fieldLink RX7 83 "FinitePlanesModel" "n" "I") (by decide +kernel)
  have hiX7 : ∀ w ∈ u_ws RX7 TX7 20, w ∈ wsX7_told := by decide +kernel
  have hl := lv_entry ([.ref (md 0)]) (n := 3) (Nat.le_of_ble_eq_true rfl)
  rw [lg_entry_eq]
  generalize (lg_sl ([.ref (md 0)]) ++ List.replicate (3 - (lg_sl ([.ref (md 0)])).length) Slot.unset).toArray = ls at hl ⊢
  have hl : lv_has ls 3 [(0, .ref (md 0))] := hl
  have hq2 := qs_le hM.1
  have hn2 := nn_le hM.1
  refine lv_aload_n hx hb dX7_told_0 rfl (lv_at hl 0 rfl) ?_
  refine va_get (D := D) (ci := 7) (v := .int (nI q)) (C := RX7) (T := TX7) (N := 20) hx hb hts hiX7 hown hK hP 0 rfl rfl 0 (by decide) hf74 (fun _ h9 => h9) rfl dX7_told_1 ?_
  refine lv_iconst (v := nI 3) hx hb dX7_told_4 (by decide) ?_
  refine nv_icmp_le (tgt := 11) hx hb (by omega) (by decide) dX7_told_5 (by decide) (fun c5 => ?_) (fun c5 => ?_)
  · refine lv_aload_n hx hb dX7_told_11 rfl (lv_at hl 0 rfl) ?_
    refine lv_aload_n hx hb dX7_told_12 rfl (lv_at hl 0 rfl) ?_
    refine va_get (D := D) (ci := 7) (v := .int (nI (nn q))) (C := RX7) (T := TX7) (N := 20) hx hb hts hiX7 hown hK hP 0 rfl rfl 1 (by decide) hf83 (fun _ h9 => h9) rfl dX7_told_13 ?_
    refine ctW_V (As := [.int (nI (nn q))]) (rest := []) (wr := [(md 1, .inl (cI, 81, .inl (nF su))), (md 2, .inl (cI, 81, .inl (nF po))), (md 3, .inl (cI, 91, .inl (nF xs))), (md 4, .inl (cI, 91, .inl (nF ys))), (md 5, .inl (cI, 91, .inl (nF zs)))]) ⟨hx, hb, hml, hown, hts⟩ (c_X7_table l D cI cZ md q w mk k_w (nI (nn q))) (cwV 1 hts gX7_told_X7_table rfl rfl rfl hdV_X7_table ⟨Nat.le_of_ble_eq_true rfl, Nat.le_of_ble_eq_true rfl⟩) hK hN hP hD hS hA [0, 6] [1, 2, 3, 4, 5] rfl rfl rfl (by decide) (by decide) (by decide) 0 7 rfl rfl rfl hl.1 rfl (Nat.le_of_ble_eq_true rfl) ⟨Nat.zero_le _, Nat.zero_le _⟩ dX7_told_16 (fun u H locs hu16 hP hD hS => ?_)
    obtain ⟨w_1, mk_2⟩ := u
    try dsimp only at hu16
    have hP : va_P D vwCl [(md 0, .inr (7, [.int (nI q), .int (nI (nn q)), .ref (md 1), .ref (md 2), .ref (md 3), .ref (md 4), .ref (md 5), .ref (md 6), .ref (md 7), .ref (md 8), .ref (md 9), .ref (md 10), .ref (md 11), .ref (md 12), .ref (md 13), .ref (md 14), .ref (md 15), .ref (md 16), .int (nI w_1), .ref (md 17)])), (md 1, .inl (cI, 81, .inl (nF su))), (md 2, .inl (cI, 81, .inl (nF po))), (md 3, .inl (cI, 91, .inl (nF xs))), (md 4, .inl (cI, 91, .inl (nF ys))), (md 5, .inl (cI, 91, .inl (nF zs))), (md 17, .inl (cZ, 169, .inl (bF mk_2)))] H := hP.sub [5, 0, 1, 2, 3, 4, 6] rfl
    have hD : va_D A [(md 0, .inr (7, [.int (nI q), .int (nI (nn q)), .ref (md 1), .ref (md 2), .ref (md 3), .ref (md 4), .ref (md 5), .ref (md 6), .ref (md 7), .ref (md 8), .ref (md 9), .ref (md 10), .ref (md 11), .ref (md 12), .ref (md 13), .ref (md 14), .ref (md 15), .ref (md 16), .int (nI w_1), .ref (md 17)])), (md 1, .inl (cI, 81, .inl (nF su))), (md 2, .inl (cI, 81, .inl (nF po))), (md 3, .inl (cI, 91, .inl (nF xs))), (md 4, .inl (cI, 91, .inl (nF ys))), (md 5, .inl (cI, 91, .inl (nF zs))), (md 17, .inl (cZ, 169, .inl (bF mk_2)))] := hD.sub [5, 0, 1, 2, 3, 4, 6] (by decide) rfl
    refine W.eq (g2 := F0 m 19 ls [.int (tabZ w (nI (nn q)))]) rfl ?_
    have hn13 : nn q ≤ 13 := by have h9 : q * q ≤ 3 * 3 := Nat.mul_le_mul c5 c5; omega
    have hz : w_1 = nn q ∧ ∀ t, t < 169 → mk_2 t = false := by
      rcases hu16 with ⟨h9, _⟩ | ⟨_, h8, h7⟩
      · have h6 := of_decide_eq_false h9; rw [nI_toInt (by omega)] at h6; omega
      · exact ⟨by rw [h8, nv_nI (by omega)], h7⟩
    have hz9 := hz.2
    refine lv_pop hx hb dX7_told_19 rfl ?_
    refine lv_iconst (v := nI 0) hx hb dX7_told_20 (by decide) ?_
    refine lv_istore_n (lv' := [(1, .int (nI 0)), (0, .ref (md 0))]) hx hb dX7_told_21 rfl hl (by decide) rfl (fun ls hl => ?_)
    have L22 : ∀ (N22 : Nat) (i : Nat) (m1 : Nat → Bool) (ls : Array Slot) (H : Heap) (locs : List Loc), nn q - i < N22 → (i ≤ nn q) → (∀ l p, l < 13 → p < 13 → m1 (13 * l + p) = (decide (l < i ∧ p < nn q) && onq q p l)) → lv_has ls 3 [(0, .ref (md 0)), (1, .int (nI i))] → va_P D vwCl [(md 0, .inr (7, [.int (nI q), .int (nI (nn q)), .ref (md 1), .ref (md 2), .ref (md 3), .ref (md 4), .ref (md 5), .ref (md 6), .ref (md 7), .ref (md 8), .ref (md 9), .ref (md 10), .ref (md 11), .ref (md 12), .ref (md 13), .ref (md 14), .ref (md 15), .ref (md 16), .int (nI w_1), .ref (md 17)])), (md 1, .inl (cI, 81, .inl (nF su))), (md 2, .inl (cI, 81, .inl (nF po))), (md 3, .inl (cI, 91, .inl (nF xs))), (md 4, .inl (cI, 91, .inl (nF ys))), (md 5, .inl (cI, 91, .inl (nF zs))), (md 17, .inl (cZ, 169, .inl (bF m1)))] H → va_D A [(md 0, .inr (7, [.int (nI q), .int (nI (nn q)), .ref (md 1), .ref (md 2), .ref (md 3), .ref (md 4), .ref (md 5), .ref (md 6), .ref (md 7), .ref (md 8), .ref (md 9), .ref (md 10), .ref (md 11), .ref (md 12), .ref (md 13), .ref (md 14), .ref (md 15), .ref (md 16), .int (nI w_1), .ref (md 17)])), (md 1, .inl (cI, 81, .inl (nF su))), (md 2, .inl (cI, 81, .inl (nF po))), (md 3, .inl (cI, 91, .inl (nF xs))), (md 4, .inl (cI, 91, .inl (nF ys))), (md 5, .inl (cI, 91, .inl (nF zs))), (md 17, .inl (cZ, 169, .inl (bF m1)))] → va_S A s.heap H locs → WG p l e wsX7_told { frames := 2, cells := 0, slots := 0, locals := 45 } s m [.ref (md 0)] below meth c H locs (CQ (S := (Nat) × (Nat → Bool)) D (fun u => (fun (w3 : Nat) (mk3 : Nat → Bool) => tolK q w mk w3 mk3) u.1 u.2) (fun u => (fun (w3 : Nat) (mk3 : Nat → Bool) => some (.int (tolZ q))) u.1 u.2) (fun u => (fun (w3 : Nat) (mk3 : Nat → Bool) => [(md 0, .inr (7, [.int (nI q), .int (nI (nn q)), .ref (md 1), .ref (md 2), .ref (md 3), .ref (md 4), .ref (md 5), .ref (md 6), .ref (md 7), .ref (md 8), .ref (md 9), .ref (md 10), .ref (md 11), .ref (md 12), .ref (md 13), .ref (md 14), .ref (md 15), .ref (md 16), .int (nI w3), .ref (md 17)])), (md 1, .inl (cI, 81, .inl (nF su))), (md 2, .inl (cI, 81, .inl (nF po))), (md 3, .inl (cI, 91, .inl (nF xs))), (md 4, .inl (cI, 91, .inl (nF ys))), (md 5, .inl (cI, 91, .inl (nF zs))), (md 17, .inl (cZ, 169, .inl (bF mk3)))]) u.1 u.2) A) A 22 ls [] := by
      intro N22
      induction N22 with
      | zero => intro i m1 ls H locs hN; exact absurd hN (Nat.not_lt_zero _)
      | succ N22 ih22 =>
        intro i m1 ls H locs hN22 k_i k_u hl hP hD hS
        refine lv_iload_n hx hb dX7_told_22 rfl (lv_at hl 1 rfl) ?_
        refine lv_aload_n hx hb dX7_told_23 rfl (lv_at hl 0 rfl) ?_
        refine va_get (D := D) (ci := 7) (v := .int (nI (nn q))) (C := RX7) (T := TX7) (N := 20) hx hb hts hiX7 hown hK hP 0 rfl rfl 1 (by decide) hf83 (fun _ h9 => h9) rfl dX7_told_24 ?_
        refine nv_icmp_ge (tgt := 69) hx hb (by omega) (by omega) dX7_told_27 (by decide) (fun c27 => ?_) (fun c27 => ?_)
        · refine lv_aload_n hx hb dX7_told_69 rfl (lv_at hl 0 rfl) ?_
          refine va_get (D := D) (ci := 7) (v := .int (nI w_1)) (C := RX7) (T := TX7) (N := 20) hx hb hts hiX7 hown hK hP 0 rfl rfl 18 (by decide) hf66 (fun _ h9 => h9) rfl dX7_told_70 ?_
          exact ctW_retI (v := (nI w_1)) (w_1, m1) hx hb hr rfl dX7_told_73 hlocks hS hP hD (by dsimp only; exact (Or.inr ⟨c5, hz.1, by rw [show i = nn q by omega] at k_u; exact k_u⟩)) (by rw [tolZ, if_neg (by omega), hz.1])
        · refine lv_iconst (v := nI 0) hx hb dX7_told_30 (by decide) ?_
          refine lv_istore_n (lv' := [(2, .int (nI 0)), (0, .ref (md 0)), (1, .int (nI i))]) hx hb dX7_told_31 rfl hl (by decide) rfl (fun ls hl => ?_)
          have L32 : ∀ (N32 : Nat) (g : Nat) (m1 : Nat → Bool) (ls : Array Slot) (H : Heap) (locs : List Loc), nn q - g < N32 → (g ≤ nn q) → (∀ l p, l < 13 → p < 13 → m1 (13 * l + p) = (decide (l < i ∧ p < nn q ∨ l = i ∧ p < g) && onq q p l)) → lv_has ls 3 [(0, .ref (md 0)), (1, .int (nI i)), (2, .int (nI g))] → va_P D vwCl [(md 0, .inr (7, [.int (nI q), .int (nI (nn q)), .ref (md 1), .ref (md 2), .ref (md 3), .ref (md 4), .ref (md 5), .ref (md 6), .ref (md 7), .ref (md 8), .ref (md 9), .ref (md 10), .ref (md 11), .ref (md 12), .ref (md 13), .ref (md 14), .ref (md 15), .ref (md 16), .int (nI w_1), .ref (md 17)])), (md 1, .inl (cI, 81, .inl (nF su))), (md 2, .inl (cI, 81, .inl (nF po))), (md 3, .inl (cI, 91, .inl (nF xs))), (md 4, .inl (cI, 91, .inl (nF ys))), (md 5, .inl (cI, 91, .inl (nF zs))), (md 17, .inl (cZ, 169, .inl (bF m1)))] H → va_D A [(md 0, .inr (7, [.int (nI q), .int (nI (nn q)), .ref (md 1), .ref (md 2), .ref (md 3), .ref (md 4), .ref (md 5), .ref (md 6), .ref (md 7), .ref (md 8), .ref (md 9), .ref (md 10), .ref (md 11), .ref (md 12), .ref (md 13), .ref (md 14), .ref (md 15), .ref (md 16), .int (nI w_1), .ref (md 17)])), (md 1, .inl (cI, 81, .inl (nF su))), (md 2, .inl (cI, 81, .inl (nF po))), (md 3, .inl (cI, 91, .inl (nF xs))), (md 4, .inl (cI, 91, .inl (nF ys))), (md 5, .inl (cI, 91, .inl (nF zs))), (md 17, .inl (cZ, 169, .inl (bF m1)))] → va_S A s.heap H locs → WG p l e wsX7_told { frames := 2, cells := 0, slots := 0, locals := 45 } s m [.ref (md 0)] below meth c H locs (CQ (S := (Nat) × (Nat → Bool)) D (fun u => (fun (w3 : Nat) (mk3 : Nat → Bool) => tolK q w mk w3 mk3) u.1 u.2) (fun u => (fun (w3 : Nat) (mk3 : Nat → Bool) => some (.int (tolZ q))) u.1 u.2) (fun u => (fun (w3 : Nat) (mk3 : Nat → Bool) => [(md 0, .inr (7, [.int (nI q), .int (nI (nn q)), .ref (md 1), .ref (md 2), .ref (md 3), .ref (md 4), .ref (md 5), .ref (md 6), .ref (md 7), .ref (md 8), .ref (md 9), .ref (md 10), .ref (md 11), .ref (md 12), .ref (md 13), .ref (md 14), .ref (md 15), .ref (md 16), .int (nI w3), .ref (md 17)])), (md 1, .inl (cI, 81, .inl (nF su))), (md 2, .inl (cI, 81, .inl (nF po))), (md 3, .inl (cI, 91, .inl (nF xs))), (md 4, .inl (cI, 91, .inl (nF ys))), (md 5, .inl (cI, 91, .inl (nF zs))), (md 17, .inl (cZ, 169, .inl (bF mk3)))]) u.1 u.2) A) A 32 ls [] := by
            intro N32
            induction N32 with
            | zero => intro g m1 ls H locs hN; exact absurd hN (Nat.not_lt_zero _)
            | succ N32 ih32 =>
              intro g m1 ls H locs hN32 k_g k_v hl hP hD hS
              refine lv_iload_n hx hb dX7_told_32 rfl (lv_at hl 2 rfl) ?_
              refine lv_aload_n hx hb dX7_told_33 rfl (lv_at hl 0 rfl) ?_
              refine va_get (D := D) (ci := 7) (v := .int (nI (nn q))) (C := RX7) (T := TX7) (N := 20) hx hb hts hiX7 hown hK hP 0 rfl rfl 1 (by decide) hf83 (fun _ h9 => h9) rfl dX7_told_34 ?_
              refine nv_icmp_ge (tgt := 63) hx hb (by omega) (by omega) dX7_told_37 (by decide) (fun c37 => ?_) (fun c37 => ?_)
              · refine lv_iinc (v := nI (i + 1)) (lv' := [(1, .int (nI (i + 1))), (0, .ref (md 0)), (2, .int (nI g))]) hx hb dX7_told_63 hl (k := 1) rfl (nI_inc i) (by decide) rfl (fun ls hl => ?_)
                refine lv_goto (tgt := 22) hx hb dX7_told_66 (by decide) ?_
                exact ih22 (i + 1) m1 ls _ _ (by omega) (by omega) (fun l1 p1 h1 h2 => by rw [k_v l1 p1 h1 h2]; exact congrArg (fun z => z && onq q p1 l1) (decide_eq_decide.mpr (by omega))) (lv_sub hl [1, 0] rfl) hP hD hS
              · refine lv_aload_n hx hb dX7_told_40 rfl (lv_at hl 0 rfl) ?_
                refine va_get (D := D) (ci := 7) (v := .ref (md 17)) (C := RX7) (T := TX7) (N := 20) hx hb hts hiX7 hown hK hP 0 rfl rfl 19 (by decide) hf59 (fun _ h9 => h9) rfl dX7_told_41 ?_
                refine lv_bipush (v := nI 13) hx hb dX7_told_44 (by decide) ?_
                refine lv_iload_n hx hb dX7_told_46 rfl (lv_at hl 1 rfl) ?_
                refine nv_mulE (r := 13 * i) hx hb rfl dX7_told_47 ?_
                refine lv_iload_n hx hb dX7_told_48 rfl (lv_at hl 2 rfl) ?_
                refine nv_addE (r := (13 * i) + g) hx hb rfl dX7_told_49 ?_
                refine lv_aload_n hx hb dX7_told_50 rfl (lv_at hl 0 rfl) ?_
                refine lv_iload_n hx hb dX7_told_51 rfl (lv_at hl 2 rfl) ?_
                refine lv_iload_n hx hb dX7_told_52 rfl (lv_at hl 1 rfl) ?_
                refine ctR_V (As := [.int (nI g), .int (nI i)]) (rest := [.int (nI ((13 * i) + g)), .ref (md 17)]) (r := .int (nI (onq q g i).toNat)) ⟨hx, hb, hml, hown, hts⟩ (c_X7_isOn l D cI cZ md q w_1 su po xs ys zs hM g i (by omega) (by omega)) (cwV 2 hts gX7_told_X7_isOn rfl rfl rfl hdV_X7_isOn ⟨Nat.le_of_ble_eq_true rfl, Nat.le_of_ble_eq_true rfl⟩) hK hN hP [0, 1, 2, 3, 4, 5] rfl 0 7 rfl rfl rfl hl.1 rfl (Nat.le_of_ble_eq_true rfl) ⟨Nat.zero_le _, Nat.zero_le _⟩ dX7_told_53 ?_
                refine nv_zast hx hb hK hP hD hS 6 1 rfl rfl (onq q g i) (by omega) (by decide) dX7_told_56 (fun H locs hP hD hS => ?_)
                have hP : va_P D vwCl [(md 0, .inr (7, [.int (nI q), .int (nI (nn q)), .ref (md 1), .ref (md 2), .ref (md 3), .ref (md 4), .ref (md 5), .ref (md 6), .ref (md 7), .ref (md 8), .ref (md 9), .ref (md 10), .ref (md 11), .ref (md 12), .ref (md 13), .ref (md 14), .ref (md 15), .ref (md 16), .int (nI w_1), .ref (md 17)])), (md 1, .inl (cI, 81, .inl (nF su))), (md 2, .inl (cI, 81, .inl (nF po))), (md 3, .inl (cI, 91, .inl (nF xs))), (md 4, .inl (cI, 91, .inl (nF ys))), (md 5, .inl (cI, 91, .inl (nF zs))), (md 17, .inl (cZ, 169, .inl (bF (upB m1 ((13 * i) + g) (onq q g i)))))] H := hP
                have hD : va_D A [(md 0, .inr (7, [.int (nI q), .int (nI (nn q)), .ref (md 1), .ref (md 2), .ref (md 3), .ref (md 4), .ref (md 5), .ref (md 6), .ref (md 7), .ref (md 8), .ref (md 9), .ref (md 10), .ref (md 11), .ref (md 12), .ref (md 13), .ref (md 14), .ref (md 15), .ref (md 16), .int (nI w_1), .ref (md 17)])), (md 1, .inl (cI, 81, .inl (nF su))), (md 2, .inl (cI, 81, .inl (nF po))), (md 3, .inl (cI, 91, .inl (nF xs))), (md 4, .inl (cI, 91, .inl (nF ys))), (md 5, .inl (cI, 91, .inl (nF zs))), (md 17, .inl (cZ, 169, .inl (bF (upB m1 ((13 * i) + g) (onq q g i)))))] := hD
                refine lv_iinc (v := nI (g + 1)) (lv' := [(2, .int (nI (g + 1))), (0, .ref (md 0)), (1, .int (nI i))]) hx hb dX7_told_57 hl (k := 2) rfl (nI_inc g) (by decide) rfl (fun ls hl => ?_)
                refine lv_goto (tgt := 32) hx hb dX7_told_60 (by decide) ?_
                exact ih32 (g + 1) (upB m1 ((13 * i) + g) (onq q g i)) ls _ _ (by omega) (by omega) (fun l1 p1 h1 h2 => tolk_step (by omega) (by omega) h1 h2 k_v) (lv_sub hl [1, 2, 0] rfl) hP hD hS
          exact L32 (nn q - 0 + 1) 0 m1 ls _ _ (by omega) (Nat.zero_le _) (fun l1 p1 h1 h2 => by rw [k_u l1 p1 h1 h2]; exact congrArg (fun z => z && onq q p1 l1) (decide_eq_decide.mpr (by omega))) (lv_sub hl [1, 2, 0] rfl) hP hD hS
    exact L22 (nn q - 0 + 1) 0 mk_2 ls _ _ (by omega) (Nat.zero_le _) (fun l1 p1 h1 h2 => by rw [hz9 _ (by omega), decide_eq_false (by omega)]; rfl) (lv_sub hl [1, 0] rfl) hP hD hS
  · refine lv_bipush (v := (-2)) hx hb dX7_told_8 (by decide) ?_
    exact ctW_retI (v := (-2)) (w, mk) hx hb hr rfl dX7_told_10 hlocks hS hP hD (by dsimp only; exact (Or.inl ⟨c5, rfl, rfl⟩)) (by rw [tolZ, if_pos c5])

set_option maxHeartbeats 4000000 in
set_option maxRecDepth 100000 in
theorem c_X7_count (l : Launch) (D : va_G) (cI cZ : ClassId) (md : Nat → Nat) (q : Nat) (w : Nat) (su : Nat → Nat) (po : Nat → Nat) (xs : Nat → Nat) (ys : Nat → Nat) (zs : Nat → Nat) (hM : MOK q su po xs ys zs) (S : Nat → Bool) (cd : Nat → Bool) (mk : Nat → Bool) (ln : Nat → Nat) (k_t : TRl ln mk) (k_w : w ≤ 13) (k_w1 : 1 ≤ w) (k_l : LNK ln) (k_b : bitW ln w) (x1 : Int32) : CtW (S := (Nat → Bool)) l yX7_count wsX7_count { frames := 5, cells := 0, slots := 0, locals := 113 } D (tyG cI cZ) [.ref (md 0), .int x1] [(md 0, .inr (7, [.int (nI q), .int (nI (nn q)), .ref (md 1), .ref (md 2), .ref (md 3), .ref (md 4), .ref (md 5), .ref (md 6), .ref (md 7), .ref (md 8), .ref (md 9), .ref (md 10), .ref (md 11), .ref (md 12), .ref (md 13), .ref (md 14), .ref (md 15), .ref (md 16), .int (nI w), .ref (md 17)])), (md 1, .inl (cI, 81, .inl (nF su))), (md 2, .inl (cI, 81, .inl (nF po))), (md 3, .inl (cI, 91, .inl (nF xs))), (md 4, .inl (cI, 91, .inl (nF ys))), (md 5, .inl (cI, 91, .inl (nF zs))), (md 6, .inl (cZ, 91, .inl (bF S))), (md 8, .inl (cZ, 91, .inl (bF cd))), (md 17, .inl (cZ, 169, .inl (bF mk)))] (fun (cd3 : Nat → Bool) => True) (fun (cd3 : Nat → Bool) => some (.int (couZ q S w ln x1))) (fun (cd3 : Nat → Bool) => [(md 0, .inr (7, [.int (nI q), .int (nI (nn q)), .ref (md 1), .ref (md 2), .ref (md 3), .ref (md 4), .ref (md 5), .ref (md 6), .ref (md 7), .ref (md 8), .ref (md 9), .ref (md 10), .ref (md 11), .ref (md 12), .ref (md 13), .ref (md 14), .ref (md 15), .ref (md 16), .int (nI w), .ref (md 17)])), (md 1, .inl (cI, 81, .inl (nF su))), (md 2, .inl (cI, 81, .inl (nF po))), (md 3, .inl (cI, 91, .inl (nF xs))), (md 4, .inl (cI, 91, .inl (nF ys))), (md 5, .inl (cI, 91, .inl (nF zs))), (md 6, .inl (cZ, 91, .inl (bF S))), (md 8, .inl (cZ, 91, .inl (bF cd3))), (md 17, .inl (cZ, 169, .inl (bF mk)))]) := by
  intro sz; refine Met.ofW (cc := cX7_count) (maxL := 2) (ret := some .int) (by decide) rfl ?_
  intro p e s m args below meth c s₁ B hml hv
  obtain ⟨rfl, hsz, hP, hK, hD0, hN⟩ := hv
  have hx := B.exec
  have hb := B.bytes
  have hr := B.returns
  have hts := atoms_spec (ws := wsX7_count) B.pre
  have hown : s.vm.findClass RX7 = some m.cls := findClass_of_methodNamed B.named
  have hlocks := B.notSynchronized
  subst hsz
  have hD := hD0.self (sz := s.heap.size)
  generalize hAe : va_A [(md 0, .inr (7, [.int (nI q), .int (nI (nn q)), .ref (md 1), .ref (md 2), .ref (md 3), .ref (md 4), .ref (md 5), .ref (md 6), .ref (md 7), .ref (md 8), .ref (md 9), .ref (md 10), .ref (md 11), .ref (md 12), .ref (md 13), .ref (md 14), .ref (md 15), .ref (md 16), .int (nI w), .ref (md 17)])), (md 1, .inl (cI, 81, .inl (nF su))), (md 2, .inl (cI, 81, .inl (nF po))), (md 3, .inl (cI, 91, .inl (nF xs))), (md 4, .inl (cI, 91, .inl (nF ys))), (md 5, .inl (cI, 91, .inl (nF zs))), (md 6, .inl (cZ, 91, .inl (bF S))), (md 8, .inl (cZ, 91, .inl (bF cd))), (md 17, .inl (cZ, 169, .inl (bF mk)))] s.heap.size = A at hD ⊢
  have hA : ∀ q : Nat, s.heap.size ≤ q → A q := fun q h => by rw [← hAe]; exact Or.inr h
  have hS : va_S A s.heap s.heap [] := va_S.rf
  have hP : va_P D vwCl [(md 0, .inr (7, [.int (nI q), .int (nI (nn q)), .ref (md 1), .ref (md 2), .ref (md 3), .ref (md 4), .ref (md 5), .ref (md 6), .ref (md 7), .ref (md 8), .ref (md 9), .ref (md 10), .ref (md 11), .ref (md 12), .ref (md 13), .ref (md 14), .ref (md 15), .ref (md 16), .int (nI w), .ref (md 17)])), (md 1, .inl (cI, 81, .inl (nF su))), (md 2, .inl (cI, 81, .inl (nF po))), (md 3, .inl (cI, 91, .inl (nF xs))), (md 4, .inl (cI, 91, .inl (nF ys))), (md 5, .inl (cI, 91, .inl (nF zs))), (md 6, .inl (cZ, 91, .inl (bF S))), (md 8, .inl (cZ, 91, .inl (bF cd))), (md 17, .inl (cZ, 169, .inl (bF mk)))] s.heap := hP
  have hf25 := hts (.fieldLink RX7 25 "FinitePlanesModel" "isIn" "[Z") (by decide +kernel)
  have hf32 := hts (.fieldLink RX7 32 "FinitePlanesModel" "closed" "[Z") (by decide +kernel)
  have hf66 := hts (.fieldLink RX7 66 "FinitePlanesModel" "w" "I") (by decide +kernel)
  have hf74 := hts (.fieldLink RX7 74 "FinitePlanesModel" "q" "I") (by decide +kernel)
  have hf83 := hts (.fieldLink RX7 83 "FinitePlanesModel" "n" "I") (by decide +kernel)
  have hiX7 : ∀ w ∈ u_ws RX7 TX7 20, w ∈ wsX7_count := by decide +kernel
  have hl := lv_entry ([.ref (md 0), .int x1]) (n := 2) (Nat.le_of_ble_eq_true rfl)
  rw [lg_entry_eq]
  generalize (lg_sl ([.ref (md 0), .int x1]) ++ List.replicate (2 - (lg_sl ([.ref (md 0), .int x1])).length) Slot.unset).toArray = ls at hl ⊢
  have hl : lv_has ls 2 [(0, .ref (md 0)), (1, .int x1)] := hl
  have hq2 := qs_le hM.1
  have hn2 := nn_le hM.1
  refine lv_iload_n hx hb dX7_count_0 rfl (lv_at hl 1 rfl) ?_
  rcases (show (x1).toInt = 0 ∨ (x1).toInt = 1 ∨ (x1).toInt = 2 ∨ (x1).toInt = 3 ∨ (x1).toInt = 4 ∨ (x1).toInt = 5 ∨ (x1).toInt = 6 ∨ (x1).toInt = 7 ∨ ((x1).toInt < 0 ∨ 7 < (x1).toInt) by omega) with sw | sw | sw | sw | sw | sw | sw | sw | sw
  · refine lv_tableIn (tgt := 48) hx hb dX7_count_1 (by omega) (by omega) (by rw [sw]; rfl) (by decide) ?_
    obtain rfl : x1 = nI 0 := toInt_nI (by decide) sw
    refine lv_aload_n hx hb dX7_count_48 rfl (lv_at hl 0 rfl) ?_
    refine va_get (D := D) (ci := 7) (v := .int (nI q)) (C := RX7) (T := TX7) (N := 20) hx hb hts hiX7 hown hK hP 0 rfl rfl 0 (by decide) hf74 (fun _ h9 => h9) rfl dX7_count_49 ?_
    exact ctW_retI (v := (nI q)) cd hx hb hr rfl dX7_count_52 hlocks hS hP hD trivial (by rw [couZ, if_pos rfl])
  · refine lv_tableIn (tgt := 53) hx hb dX7_count_1 (by omega) (by omega) (by rw [sw]; rfl) (by decide) ?_
    obtain rfl : x1 = nI 1 := toInt_nI (by decide) sw
    refine lv_aload_n hx hb dX7_count_53 rfl (lv_at hl 0 rfl) ?_
    refine va_get (D := D) (ci := 7) (v := .int (nI (nn q))) (C := RX7) (T := TX7) (N := 20) hx hb hts hiX7 hown hK hP 0 rfl rfl 1 (by decide) hf83 (fun _ h9 => h9) rfl dX7_count_54 ?_
    exact ctW_retI (v := (nI (nn q))) cd hx hb hr rfl dX7_count_57 hlocks hS hP hD trivial (by rw [couZ, if_neg (by decide), if_pos rfl])
  · refine lv_tableIn (tgt := 58) hx hb dX7_count_1 (by omega) (by omega) (by rw [sw]; rfl) (by decide) ?_
    obtain rfl : x1 = nI 2 := toInt_nI (by decide) sw
    refine lv_aload_n hx hb dX7_count_58 rfl (lv_at hl 0 rfl) ?_
    refine lv_aload_n hx hb dX7_count_59 rfl (lv_at hl 0 rfl) ?_
    refine va_get (D := D) (ci := 7) (v := .ref (md 6)) (C := RX7) (T := TX7) (N := 20) hx hb hts hiX7 hown hK hP 0 rfl rfl 7 (by decide) hf25 (fun _ h9 => h9) rfl dX7_count_60 ?_
    refine ctR_V (As := [.ref (md 6)]) (rest := []) (r := .int (nI (cnt S (nn q)))) ⟨hx, hb, hml, hown, hts⟩ (c_X7_sizeOf l D cI cZ md q w su po xs ys zs hM (md 6) S) (cwV 1 hts gX7_count_X7_sizeOf rfl rfl rfl hdV_X7_sizeOf ⟨Nat.le_of_ble_eq_true rfl, Nat.le_of_ble_eq_true rfl⟩) hK hN hP [0, 1, 2, 3, 4, 5, 6] rfl 0 7 rfl rfl rfl hl.1 rfl (Nat.le_of_ble_eq_true rfl) ⟨Nat.zero_le _, Nat.zero_le _⟩ dX7_count_63 ?_
    have hh_1 : cnt S (nn q) ≤ nn q := cnt_le _ _
    exact ctW_retI (v := (nI (cnt S (nn q)))) cd hx hb hr rfl dX7_count_66 hlocks hS hP hD trivial (by rw [couZ, if_neg (by decide), if_neg (by decide), if_pos rfl])
  · refine lv_tableIn (tgt := 67) hx hb dX7_count_1 (by omega) (by omega) (by rw [sw]; rfl) (by decide) ?_
    obtain rfl : x1 = nI 3 := toInt_nI (by decide) sw
    refine lv_aload_n hx hb dX7_count_67 rfl (lv_at hl 0 rfl) ?_
    refine ctW_V (As := []) (rest := []) (wr := [(md 8, .inl (cZ, 91, .inl (bF cd))), (md 17, .inl (cZ, 169, .inl (bF mk)))]) ⟨hx, hb, hml, hown, hts⟩ (c_X7_spares l D cI cZ md q w su po xs ys zs hM S) (cwV 0 hts gX7_count_X7_spares rfl rfl rfl hdV_X7_spares ⟨Nat.le_of_ble_eq_true rfl, Nat.le_of_ble_eq_true rfl⟩) hK hN hP hD hS hA [0, 1, 2, 3, 4, 5, 6] [7, 8] rfl rfl rfl (by decide) (by decide) (by decide) 0 7 rfl rfl rfl hl.1 rfl (Nat.le_of_ble_eq_true rfl) ⟨Nat.zero_le _, Nat.zero_le _⟩ dX7_count_68 (fun _ H locs hu68 hP hD hS => ?_)
    try dsimp only at hu68
    have hP : va_P D vwCl [(md 0, .inr (7, [.int (nI q), .int (nI (nn q)), .ref (md 1), .ref (md 2), .ref (md 3), .ref (md 4), .ref (md 5), .ref (md 6), .ref (md 7), .ref (md 8), .ref (md 9), .ref (md 10), .ref (md 11), .ref (md 12), .ref (md 13), .ref (md 14), .ref (md 15), .ref (md 16), .int (nI w), .ref (md 17)])), (md 1, .inl (cI, 81, .inl (nF su))), (md 2, .inl (cI, 81, .inl (nF po))), (md 3, .inl (cI, 91, .inl (nF xs))), (md 4, .inl (cI, 91, .inl (nF ys))), (md 5, .inl (cI, 91, .inl (nF zs))), (md 6, .inl (cZ, 91, .inl (bF S))), (md 8, .inl (cZ, 91, .inl (bF cd))), (md 17, .inl (cZ, 169, .inl (bF mk)))] H := hP.sub [2, 3, 4, 5, 6, 7, 8, 0, 1] rfl
    have hD : va_D A [(md 0, .inr (7, [.int (nI q), .int (nI (nn q)), .ref (md 1), .ref (md 2), .ref (md 3), .ref (md 4), .ref (md 5), .ref (md 6), .ref (md 7), .ref (md 8), .ref (md 9), .ref (md 10), .ref (md 11), .ref (md 12), .ref (md 13), .ref (md 14), .ref (md 15), .ref (md 16), .int (nI w), .ref (md 17)])), (md 1, .inl (cI, 81, .inl (nF su))), (md 2, .inl (cI, 81, .inl (nF po))), (md 3, .inl (cI, 91, .inl (nF xs))), (md 4, .inl (cI, 91, .inl (nF ys))), (md 5, .inl (cI, 91, .inl (nF zs))), (md 6, .inl (cZ, 91, .inl (bF S))), (md 8, .inl (cZ, 91, .inl (bF cd))), (md 17, .inl (cZ, 169, .inl (bF mk)))] := hD.sub [2, 3, 4, 5, 6, 7, 8, 0, 1] (by decide) rfl
    refine W.eq (g2 := F0 m 71 ls [.int (nI (spaq q S))]) rfl ?_
    have hh_2 : spaq q S ≤ nn q := spaq_le
    exact ctW_retI (v := (nI (spaq q S))) cd hx hb hr rfl dX7_count_71 hlocks hS hP hD trivial (by rw [couZ, if_neg (by decide), if_neg (by decide), if_neg (by decide), if_pos rfl])
  · refine lv_tableIn (tgt := 72) hx hb dX7_count_1 (by omega) (by omega) (by rw [sw]; rfl) (by decide) ?_
    obtain rfl : x1 = nI 4 := toInt_nI (by decide) sw
    refine lv_aload_n hx hb dX7_count_72 rfl (lv_at hl 0 rfl) ?_
    refine ctW_V (As := []) (rest := []) (wr := [(md 17, .inl (cZ, 169, .inl (bF mk)))]) ⟨hx, hb, hml, hown, hts⟩ (c_X7_close l D cI cZ md q w su po xs ys zs hM S cd) (cwV 0 hts gX7_count_X7_close rfl rfl rfl hdV_X7_close ⟨Nat.le_of_ble_eq_true rfl, Nat.le_of_ble_eq_true rfl⟩) hK hN hP hD hS hA [0, 1, 2, 3, 4, 5, 6, 7] [8] rfl rfl rfl (by decide) (by decide) (by decide) 0 7 rfl rfl rfl hl.1 rfl (Nat.le_of_ble_eq_true rfl) ⟨Nat.zero_le _, Nat.zero_le _⟩ dX7_count_73 (fun cd_3 H locs hu73 hP hD hS => ?_)
    try dsimp only at hu73
    have hP : va_P D vwCl [(md 0, .inr (7, [.int (nI q), .int (nI (nn q)), .ref (md 1), .ref (md 2), .ref (md 3), .ref (md 4), .ref (md 5), .ref (md 6), .ref (md 7), .ref (md 8), .ref (md 9), .ref (md 10), .ref (md 11), .ref (md 12), .ref (md 13), .ref (md 14), .ref (md 15), .ref (md 16), .int (nI w), .ref (md 17)])), (md 1, .inl (cI, 81, .inl (nF su))), (md 2, .inl (cI, 81, .inl (nF po))), (md 3, .inl (cI, 91, .inl (nF xs))), (md 4, .inl (cI, 91, .inl (nF ys))), (md 5, .inl (cI, 91, .inl (nF zs))), (md 6, .inl (cZ, 91, .inl (bF S))), (md 8, .inl (cZ, 91, .inl (bF cd_3))), (md 17, .inl (cZ, 169, .inl (bF mk)))] H := hP.sub [1, 2, 3, 4, 5, 6, 7, 8, 0] rfl
    have hD : va_D A [(md 0, .inr (7, [.int (nI q), .int (nI (nn q)), .ref (md 1), .ref (md 2), .ref (md 3), .ref (md 4), .ref (md 5), .ref (md 6), .ref (md 7), .ref (md 8), .ref (md 9), .ref (md 10), .ref (md 11), .ref (md 12), .ref (md 13), .ref (md 14), .ref (md 15), .ref (md 16), .int (nI w), .ref (md 17)])), (md 1, .inl (cI, 81, .inl (nF su))), (md 2, .inl (cI, 81, .inl (nF po))), (md 3, .inl (cI, 91, .inl (nF xs))), (md 4, .inl (cI, 91, .inl (nF ys))), (md 5, .inl (cI, 91, .inl (nF zs))), (md 6, .inl (cZ, 91, .inl (bF S))), (md 8, .inl (cZ, 91, .inl (bF cd_3))), (md 17, .inl (cZ, 169, .inl (bF mk)))] := hD.sub [1, 2, 3, 4, 5, 6, 7, 8, 0] (by decide) rfl
    refine W.eq (g2 := F0 m 76 ls []) rfl ?_
    refine lv_aload_n hx hb dX7_count_76 rfl (lv_at hl 0 rfl) ?_
    refine lv_aload_n hx hb dX7_count_77 rfl (lv_at hl 0 rfl) ?_
    refine va_get (D := D) (ci := 7) (v := .ref (md 8)) (C := RX7) (T := TX7) (N := 20) hx hb hts hiX7 hown hK hP 0 rfl rfl 9 (by decide) hf32 (fun _ h9 => h9) rfl dX7_count_78 ?_
    refine ctR_V (As := [.ref (md 8)]) (rest := []) (r := .int (nI (cnt cd_3 (nn q)))) ⟨hx, hb, hml, hown, hts⟩ (c_X7_sizeOf l D cI cZ md q w su po xs ys zs hM (md 8) cd_3) (cwV 1 hts gX7_count_X7_sizeOf rfl rfl rfl hdV_X7_sizeOf ⟨Nat.le_of_ble_eq_true rfl, Nat.le_of_ble_eq_true rfl⟩) hK hN hP [0, 1, 2, 3, 4, 5, 7] rfl 0 7 rfl rfl rfl hl.1 rfl (Nat.le_of_ble_eq_true rfl) ⟨Nat.zero_le _, Nat.zero_le _⟩ dX7_count_81 ?_
    have hh_4 : cnt cd_3 (nn q) ≤ nn q := cnt_le _ _
    exact ctW_retI (v := (nI (cnt cd_3 (nn q)))) cd_3 hx hb hr rfl dX7_count_84 hlocks hS hP hD trivial (by rw [couZ, if_neg (by decide), if_neg (by decide), if_neg (by decide), if_neg (by decide), if_pos rfl, cnt_congr hu73])
  · refine lv_tableIn (tgt := 85) hx hb dX7_count_1 (by omega) (by omega) (by rw [sw]; rfl) (by decide) ?_
    obtain rfl : x1 = nI 5 := toInt_nI (by decide) sw
    refine lv_aload_n hx hb dX7_count_85 rfl (lv_at hl 0 rfl) ?_
    refine ctW_V (As := []) (rest := []) (wr := [(md 8, .inl (cZ, 91, .inl (bF cd))), (md 17, .inl (cZ, 169, .inl (bF mk)))]) ⟨hx, hb, hml, hown, hts⟩ (c_X7_comers l D cI cZ md q w su po xs ys zs hM S) (cwV 0 hts gX7_count_X7_comers rfl rfl rfl hdV_X7_comers ⟨Nat.le_of_ble_eq_true rfl, Nat.le_of_ble_eq_true rfl⟩) hK hN hP hD hS hA [0, 1, 2, 3, 4, 5, 6] [7, 8] rfl rfl rfl (by decide) (by decide) (by decide) 0 7 rfl rfl rfl hl.1 rfl (Nat.le_of_ble_eq_true rfl) ⟨Nat.zero_le _, Nat.zero_le _⟩ dX7_count_86 (fun _ H locs hu86 hP hD hS => ?_)
    try dsimp only at hu86
    have hP : va_P D vwCl [(md 0, .inr (7, [.int (nI q), .int (nI (nn q)), .ref (md 1), .ref (md 2), .ref (md 3), .ref (md 4), .ref (md 5), .ref (md 6), .ref (md 7), .ref (md 8), .ref (md 9), .ref (md 10), .ref (md 11), .ref (md 12), .ref (md 13), .ref (md 14), .ref (md 15), .ref (md 16), .int (nI w), .ref (md 17)])), (md 1, .inl (cI, 81, .inl (nF su))), (md 2, .inl (cI, 81, .inl (nF po))), (md 3, .inl (cI, 91, .inl (nF xs))), (md 4, .inl (cI, 91, .inl (nF ys))), (md 5, .inl (cI, 91, .inl (nF zs))), (md 6, .inl (cZ, 91, .inl (bF S))), (md 8, .inl (cZ, 91, .inl (bF cd))), (md 17, .inl (cZ, 169, .inl (bF mk)))] H := hP.sub [2, 3, 4, 5, 6, 7, 8, 0, 1] rfl
    have hD : va_D A [(md 0, .inr (7, [.int (nI q), .int (nI (nn q)), .ref (md 1), .ref (md 2), .ref (md 3), .ref (md 4), .ref (md 5), .ref (md 6), .ref (md 7), .ref (md 8), .ref (md 9), .ref (md 10), .ref (md 11), .ref (md 12), .ref (md 13), .ref (md 14), .ref (md 15), .ref (md 16), .int (nI w), .ref (md 17)])), (md 1, .inl (cI, 81, .inl (nF su))), (md 2, .inl (cI, 81, .inl (nF po))), (md 3, .inl (cI, 91, .inl (nF xs))), (md 4, .inl (cI, 91, .inl (nF ys))), (md 5, .inl (cI, 91, .inl (nF zs))), (md 6, .inl (cZ, 91, .inl (bF S))), (md 8, .inl (cZ, 91, .inl (bF cd))), (md 17, .inl (cZ, 169, .inl (bF mk)))] := hD.sub [2, 3, 4, 5, 6, 7, 8, 0, 1] (by decide) rfl
    refine W.eq (g2 := F0 m 89 ls [.int (nI (newq q S))]) rfl ?_
    have hh_5 : newq q S ≤ nn q := newq_le
    exact ctW_retI (v := (nI (newq q S))) cd hx hb hr rfl dX7_count_89 hlocks hS hP hD trivial (by rw [couZ, if_neg (by decide), if_neg (by decide), if_neg (by decide), if_neg (by decide), if_neg (by decide), if_pos rfl])
  · refine lv_tableIn (tgt := 90) hx hb dX7_count_1 (by omega) (by omega) (by rw [sw]; rfl) (by decide) ?_
    obtain rfl : x1 = nI 6 := toInt_nI (by decide) sw
    refine lv_aload_n hx hb dX7_count_90 rfl (lv_at hl 0 rfl) ?_
    refine va_get (D := D) (ci := 7) (v := .int (nI w)) (C := RX7) (T := TX7) (N := 20) hx hb hts hiX7 hown hK hP 0 rfl rfl 18 (by decide) hf66 (fun _ h9 => h9) rfl dX7_count_91 ?_
    exact ctW_retI (v := (nI w)) cd hx hb hr rfl dX7_count_94 hlocks hS hP hD trivial (by rw [couZ, if_neg (by decide), if_neg (by decide), if_neg (by decide), if_neg (by decide), if_neg (by decide), if_neg (by decide), if_pos rfl])
  · refine lv_tableIn (tgt := 95) hx hb dX7_count_1 (by omega) (by omega) (by rw [sw]; rfl) (by decide) ?_
    obtain rfl : x1 = nI 7 := toInt_nI (by decide) sw
    refine lv_aload_n hx hb dX7_count_95 rfl (lv_at hl 0 rfl) ?_
    refine ctR_V (As := []) (rest := []) (r := .int (nI (sumq (fun t => pcn (ln t)) w))) ⟨hx, hb, hml, hown, hts⟩ (c_X7_marks l D cI cZ md q w mk ln k_t k_w k_w1 k_l k_b) (cwV 0 hts gX7_count_X7_marks rfl rfl rfl hdV_X7_marks ⟨Nat.le_of_ble_eq_true rfl, Nat.le_of_ble_eq_true rfl⟩) hK hN hP [0, 8] rfl 0 7 rfl rfl rfl hl.1 rfl (Nat.le_of_ble_eq_true rfl) ⟨Nat.zero_le _, Nat.zero_le _⟩ dX7_count_96 ?_
    exact ctW_retI (v := (nI (sumq (fun t => pcn (ln t)) w))) cd hx hb hr rfl dX7_count_99 hlocks hS hP hD trivial (by rw [couZ, if_neg (by decide), if_neg (by decide), if_neg (by decide), if_neg (by decide), if_neg (by decide), if_neg (by decide), if_neg (by decide), if_pos rfl])
  · refine lv_tableOut (tgt := 100) hx hb dX7_count_1 sw (by decide) ?_
    refine lv_bipush (v := (-2)) hx hb dX7_count_100 (by decide) ?_
    exact ctW_retI (v := (-2)) cd hx hb hr rfl dX7_count_102 hlocks hS hP hD trivial (by rw [couZ, if_neg (sw_ne sw (by decide)), if_neg (sw_ne sw (by decide)), if_neg (sw_ne sw (by decide)), if_neg (sw_ne sw (by decide)), if_neg (sw_ne sw (by decide)), if_neg (sw_ne sw (by decide)), if_neg (sw_ne sw (by decide)), if_neg (sw_ne sw (by decide))])

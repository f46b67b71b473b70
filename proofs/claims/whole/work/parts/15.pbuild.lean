set_option maxHeartbeats 4000000 in
set_option maxRecDepth 100000 in
theorem c_X3_setTriple (l : Launch) (D : va_G) (cI cZ : ClassId) (ad : Nat → Nat) (n : Nat) (tr : Nat → Nat) (i : Nat) (x : Nat) (y : Nat) (z : Nat) (k_1 : i < 91) : CtW (S := Unit) l yX3_setTriple wsX3_setTriple { frames := 0, cells := 0, slots := 0, locals := 0 } D (tyG cI cZ) [.ref (ad 5), .int (nI i), .int (nI x), .int (nI y), .int (nI z)] [(ad 5, .inr (3, [.ref (ad 0), .int (nI n), .ref (ad 6), .ref (ad 7)])), (ad 6, .inl (cI, 273, .inl (nF tr)))] (fun (_ : Unit) => True) (fun (_ : Unit) => none) (fun (_ : Unit) => [(ad 5, .inr (3, [.ref (ad 0), .int (nI n), .ref (ad 6), .ref (ad 7)])), (ad 6, .inl (cI, 273, .inl (nF (upN (upN (upN tr (3 * i) x) (3 * i + 1) y) (3 * i + 2) z))))]) := by
  intro sz; refine Met.ofW (cc := cX3_setTriple) (maxL := 5) (ret := none) (by decide) rfl ?_
  intro p e s m args below meth c s₁ B hml hv
  obtain ⟨rfl, hsz, hP, hK, hD0, hN⟩ := hv
  have hx := B.exec
  have hb := B.bytes
  have hr := B.returns
  have hts := atoms_spec (ws := wsX3_setTriple) B.pre
  have hown : s.vm.findClass RX3 = some m.cls := findClass_of_methodNamed B.named
  have hlocks := B.notSynchronized
  subst hsz
  have hD := hD0.self (sz := s.heap.size)
  generalize hAe : va_A [(ad 5, .inr (3, [.ref (ad 0), .int (nI n), .ref (ad 6), .ref (ad 7)])), (ad 6, .inl (cI, 273, .inl (nF tr)))] s.heap.size = A at hD ⊢
  have hA : ∀ q : Nat, s.heap.size ≤ q → A q := fun q h => by rw [← hAe]; exact Or.inr h
  have hS : va_S A s.heap s.heap [] := va_S.rf
  have hP : va_P D vwCl [(ad 5, .inr (3, [.ref (ad 0), .int (nI n), .ref (ad 6), .ref (ad 7)])), (ad 6, .inl (cI, 273, .inl (nF tr)))] s.heap := hP
  have hf9 := hts (.fieldLink RX3 9 "FinitePlanes$Plane" "triples" "[I") (by decide +kernel)
  have hiX3 : ∀ w ∈ u_ws RX3 TX3 4, w ∈ wsX3_setTriple := by decide +kernel
  have hl := lv_entry ([.ref (ad 5), .int (nI i), .int (nI x), .int (nI y), .int (nI z)]) (n := 5) (Nat.le_of_ble_eq_true rfl)
  rw [lg_entry_eq]
  generalize (lg_sl ([.ref (ad 5), .int (nI i), .int (nI x), .int (nI y), .int (nI z)]) ++ List.replicate (5 - (lg_sl ([.ref (ad 5), .int (nI i), .int (nI x), .int (nI y), .int (nI z)])).length) Slot.unset).toArray = ls at hl ⊢
  have hl : lv_has ls 5 [(0, .ref (ad 5)), (1, .int (nI i)), (2, .int (nI x)), (3, .int (nI y)), (4, .int (nI z))] := hl
  refine lv_aload_n hx hb dX3_setTriple_0 rfl (lv_at hl 0 rfl) ?_
  refine va_get (D := D) (ci := 3) (v := .ref (ad 6)) (C := RX3) (T := TX3) (N := 4) hx hb hts hiX3 hown hK hP 0 rfl rfl 2 (by decide) hf9 (fun _ h9 => h9) rfl dX3_setTriple_1 ?_
  refine lv_iconst (v := nI 3) hx hb dX3_setTriple_4 (by decide) ?_
  refine lv_iload_n hx hb dX3_setTriple_5 rfl (lv_at hl 1 rfl) ?_
  refine nv_mulE (r := 3 * i) hx hb rfl dX3_setTriple_6 ?_
  refine lv_iload_n hx hb dX3_setTriple_7 rfl (lv_at hl 2 rfl) ?_
  refine nv_iast hx hb hK hP hD hS 1 0 rfl rfl (by omega) (by decide) dX3_setTriple_8 (fun H locs hP hD hS => ?_)
  have hP : va_P D vwCl [(ad 5, .inr (3, [.ref (ad 0), .int (nI n), .ref (ad 6), .ref (ad 7)])), (ad 6, .inl (cI, 273, .inl (nF (upN tr (3 * i) x))))] H := hP
  have hD : va_D A [(ad 5, .inr (3, [.ref (ad 0), .int (nI n), .ref (ad 6), .ref (ad 7)])), (ad 6, .inl (cI, 273, .inl (nF (upN tr (3 * i) x))))] := hD
  refine lv_aload_n hx hb dX3_setTriple_9 rfl (lv_at hl 0 rfl) ?_
  refine va_get (D := D) (ci := 3) (v := .ref (ad 6)) (C := RX3) (T := TX3) (N := 4) hx hb hts hiX3 hown hK hP 0 rfl rfl 2 (by decide) hf9 (fun _ h9 => h9) rfl dX3_setTriple_10 ?_
  refine lv_iconst (v := nI 3) hx hb dX3_setTriple_13 (by decide) ?_
  refine lv_iload_n hx hb dX3_setTriple_14 rfl (lv_at hl 1 rfl) ?_
  refine nv_mulE (r := 3 * i) hx hb rfl dX3_setTriple_15 ?_
  refine lv_iconst (v := nI 1) hx hb dX3_setTriple_16 (by decide) ?_
  refine nv_addE (r := (3 * i) + 1) hx hb rfl dX3_setTriple_17 ?_
  refine lv_iload_n hx hb dX3_setTriple_18 rfl (lv_at hl 3 rfl) ?_
  refine nv_iast hx hb hK hP hD hS 1 0 rfl rfl (by omega) (by decide) dX3_setTriple_19 (fun H locs hP hD hS => ?_)
  have hP : va_P D vwCl [(ad 5, .inr (3, [.ref (ad 0), .int (nI n), .ref (ad 6), .ref (ad 7)])), (ad 6, .inl (cI, 273, .inl (nF (upN (upN tr (3 * i) x) ((3 * i) + 1) y))))] H := hP
  have hD : va_D A [(ad 5, .inr (3, [.ref (ad 0), .int (nI n), .ref (ad 6), .ref (ad 7)])), (ad 6, .inl (cI, 273, .inl (nF (upN (upN tr (3 * i) x) ((3 * i) + 1) y))))] := hD
  refine lv_aload_n hx hb dX3_setTriple_20 rfl (lv_at hl 0 rfl) ?_
  refine va_get (D := D) (ci := 3) (v := .ref (ad 6)) (C := RX3) (T := TX3) (N := 4) hx hb hts hiX3 hown hK hP 0 rfl rfl 2 (by decide) hf9 (fun _ h9 => h9) rfl dX3_setTriple_21 ?_
  refine lv_iconst (v := nI 3) hx hb dX3_setTriple_24 (by decide) ?_
  refine lv_iload_n hx hb dX3_setTriple_25 rfl (lv_at hl 1 rfl) ?_
  refine nv_mulE (r := 3 * i) hx hb rfl dX3_setTriple_26 ?_
  refine lv_iconst (v := nI 2) hx hb dX3_setTriple_27 (by decide) ?_
  refine nv_addE (r := (3 * i) + 2) hx hb rfl dX3_setTriple_28 ?_
  refine lv_iload hx hb dX3_setTriple_29 (lv_at hl 4 rfl) ?_
  refine nv_iast hx hb hK hP hD hS 1 0 rfl rfl (by omega) (by decide) dX3_setTriple_31 (fun H locs hP hD hS => ?_)
  have hP : va_P D vwCl [(ad 5, .inr (3, [.ref (ad 0), .int (nI n), .ref (ad 6), .ref (ad 7)])), (ad 6, .inl (cI, 273, .inl (nF (upN (upN (upN tr (3 * i) x) ((3 * i) + 1) y) ((3 * i) + 2) z))))] H := hP
  have hD : va_D A [(ad 5, .inr (3, [.ref (ad 0), .int (nI n), .ref (ad 6), .ref (ad 7)])), (ad 6, .inl (cI, 273, .inl (nF (upN (upN (upN tr (3 * i) x) ((3 * i) + 1) y) ((3 * i) + 2) z))))] := hD
  exact ctW_retV () hx hb hr dX3_setTriple_32 hlocks hS hP hD trivial rfl

set_option maxHeartbeats 4000000 in
set_option maxRecDepth 100000 in
theorem c_X3_listRow (l : Launch) (D : va_G) (cI cZ : ClassId) (ad : Nat → Nat) (q : Nat) (sm : Nat → Nat) (pr : Nat → Nat) (op : Nat → Nat) (iv : Nat → Nat) (hF : FOK q sm pr op iv) (tr : Nat → Nat) (ro : Nat → Nat) (hT : TOK q tr) (i : Nat) (k_1 : i < nn q) : CtW (S := (Nat → Nat)) l yX3_listRow wsX3_listRow { frames := 2, cells := 0, slots := 0, locals := 46 } D (tyG cI cZ) [.ref (ad 5), .int (nI i)] [(ad 0, .inr (1, [.int (nI q), .ref (ad 1), .ref (ad 2), .ref (ad 3), .ref (ad 4)])), (ad 1, .inl (cI, 81, .inl (nF sm))), (ad 2, .inl (cI, 81, .inl (nF pr))), (ad 3, .inl (cI, 9, .inl (nF op))), (ad 4, .inl (cI, 9, .inl (nF iv))), (ad 5, .inr (3, [.ref (ad 0), .int (nI (nn q)), .ref (ad 6), .ref (ad 7)])), (ad 6, .inl (cI, 273, .inl (nF tr))), (ad 7, .inl (cI, 910, .inl (nF ro)))] (fun (ro3 : Nat → Nat) => (∀ t, t ≤ q → ro3 (i * 10 + t) = rowq q i t) ∧ RowF ro3 ro (i * 10)) (fun (ro3 : Nat → Nat) => none) (fun (ro3 : Nat → Nat) => [(ad 0, .inr (1, [.int (nI q), .ref (ad 1), .ref (ad 2), .ref (ad 3), .ref (ad 4)])), (ad 1, .inl (cI, 81, .inl (nF sm))), (ad 2, .inl (cI, 81, .inl (nF pr))), (ad 3, .inl (cI, 9, .inl (nF op))), (ad 4, .inl (cI, 9, .inl (nF iv))), (ad 5, .inr (3, [.ref (ad 0), .int (nI (nn q)), .ref (ad 6), .ref (ad 7)])), (ad 6, .inl (cI, 273, .inl (nF tr))), (ad 7, .inl (cI, 910, .inl (nF ro3)))]) := by
  intro sz; refine Met.ofW (cc := cX3_listRow) (maxL := 8) (ret := none) (by decide) rfl ?_
  intro p e s m args below meth c s₁ B hml hv
  obtain ⟨rfl, hsz, hP, hK, hD0, hN⟩ := hv
  have hx := B.exec
  have hb := B.bytes
  have hr := B.returns
  have hts := atoms_spec (ws := wsX3_listRow) B.pre
  have hown : s.vm.findClass RX3 = some m.cls := findClass_of_methodNamed B.named
  have hlocks := B.notSynchronized
  subst hsz
  have hD := hD0.self (sz := s.heap.size)
  generalize hAe : va_A [(ad 0, .inr (1, [.int (nI q), .ref (ad 1), .ref (ad 2), .ref (ad 3), .ref (ad 4)])), (ad 1, .inl (cI, 81, .inl (nF sm))), (ad 2, .inl (cI, 81, .inl (nF pr))), (ad 3, .inl (cI, 9, .inl (nF op))), (ad 4, .inl (cI, 9, .inl (nF iv))), (ad 5, .inr (3, [.ref (ad 0), .int (nI (nn q)), .ref (ad 6), .ref (ad 7)])), (ad 6, .inl (cI, 273, .inl (nF tr))), (ad 7, .inl (cI, 910, .inl (nF ro)))] s.heap.size = A at hD ⊢
  have hA : ∀ q : Nat, s.heap.size ≤ q → A q := fun q h => by rw [← hAe]; exact Or.inr h
  have hS : va_S A s.heap s.heap [] := va_S.rf
  have hP : va_P D vwCl [(ad 0, .inr (1, [.int (nI q), .ref (ad 1), .ref (ad 2), .ref (ad 3), .ref (ad 4)])), (ad 1, .inl (cI, 81, .inl (nF sm))), (ad 2, .inl (cI, 81, .inl (nF pr))), (ad 3, .inl (cI, 9, .inl (nF op))), (ad 4, .inl (cI, 9, .inl (nF iv))), (ad 5, .inr (3, [.ref (ad 0), .int (nI (nn q)), .ref (ad 6), .ref (ad 7)])), (ad 6, .inl (cI, 273, .inl (nF tr))), (ad 7, .inl (cI, 910, .inl (nF ro)))] s.heap := hP
  have hf15 := hts (.fieldLink RX3 15 "FinitePlanes$Plane" "rows" "[I") (by decide +kernel)
  have hf18 := hts (.fieldLink RX3 18 "FinitePlanes$Plane" "field" "LFinitePlanes$Field;") (by decide +kernel)
  have hf25 := hN.use (w := .fieldLinkNest RX3 25 "FinitePlanes$Field" "q" "I" "FinitePlanes") (by decide +kernel) (A := [.ref (ad 5), .int (nI i)].toArray)
  have hiX1 : ∀ w ∈ u_ws RX1 TX1 5, w ∈ wsX3_listRow := by decide +kernel
  have hiX3 : ∀ w ∈ u_ws RX3 TX3 4, w ∈ wsX3_listRow := by decide +kernel
  have hl := lv_entry ([.ref (ad 5), .int (nI i)]) (n := 8) (Nat.le_of_ble_eq_true rfl)
  rw [lg_entry_eq]
  generalize (lg_sl ([.ref (ad 5), .int (nI i)]) ++ List.replicate (8 - (lg_sl ([.ref (ad 5), .int (nI i)])).length) Slot.unset).toArray = ls at hl ⊢
  have hl : lv_has ls 8 [(0, .ref (ad 5)), (1, .int (nI i))] := hl
  have hq2 := qs_le hF.1
  have hn2 := nn_le hF.1
  refine lv_iload_n hx hb dX3_listRow_0 rfl (lv_at hl 1 rfl) ?_
  refine lv_bipush (v := nI 10) hx hb dX3_listRow_1 (by decide) ?_
  refine nv_mulE (r := i * 10) hx hb rfl dX3_listRow_3 ?_
  refine lv_istore_n (lv' := [(2, .int (nI (i * 10))), (0, .ref (ad 5)), (1, .int (nI i))]) hx hb dX3_listRow_4 rfl hl (by decide) rfl (fun ls hl => ?_)
  refine lv_aload_n hx hb dX3_listRow_5 rfl (lv_at hl 1 rfl) ?_
  refine lv_iload_n hx hb dX3_listRow_6 rfl (lv_at hl 2 rfl) ?_
  refine lv_iconst (v := nI 2) hx hb dX3_listRow_7 (by decide) ?_
  refine ctR_V (As := [.int (nI i), .int (nI 2)]) (rest := []) (r := .int (nI (pt q i 2))) ⟨hx, hb, hml, hown, hts⟩ (c_X3_part l D cI cZ ad q sm pr op iv hF tr ro hT i 2 (by omega) (by omega)) (cwV 2 hts gX3_listRow_X3_part rfl rfl rfl hdV_X3_part ⟨Nat.le_of_ble_eq_true rfl, Nat.le_of_ble_eq_true rfl⟩) hK hN hP [0, 1, 2, 3, 4, 5, 6, 7] rfl 5 3 rfl rfl rfl hl.1 rfl (Nat.le_of_ble_eq_true rfl) ⟨Nat.zero_le _, Nat.zero_le _⟩ dX3_listRow_8 ?_
  have hh_1 : pt q i 2 < q := pt_lt hF.1 (by omega) (by omega)
  refine lv_istore_n (lv' := [(3, .int (nI (pt q i 2))), (2, .int (nI (i * 10))), (0, .ref (ad 5)), (1, .int (nI i))]) hx hb dX3_listRow_11 rfl hl (by decide) rfl (fun ls hl => ?_)
  refine lv_iload_n hx hb dX3_listRow_12 rfl (lv_at hl 0 rfl) ?_
  refine nv_if_ne (tgt := 26) hx hb (by omega) dX3_listRow_13 (by decide) (fun c13 => ?_) (fun c13 => ?_)
  · refine lv_iconst (v := nI 0) hx hb dX3_listRow_26 (by decide) ?_
    refine lv_istore (lv' := [(4, .int (nI 0)), (3, .int (nI (pt q i 2))), (2, .int (nI (i * 10))), (0, .ref (ad 5)), (1, .int (nI i))]) hx hb dX3_listRow_27 hl (by decide) rfl (fun ls hl => ?_)
    have L29 : ∀ (N29 : Nat) (j : Nat) (x : Nat) (r1 : Nat → Nat) (ls : Array Slot) (H : Heap) (locs : List Loc), q + 1 - j < N29 → (j ≤ q + 1) → (x = i * 10 + (rowK q i j).length) → (RowP r1 (i * 10) (rowK q i j)) → (RowF r1 ro (i * 10)) → lv_has ls 8 [(0, .ref (ad 5)), (1, .int (nI i)), (2, .int (nI x)), (3, .int (nI (pt q i 2))), (4, .int (nI j))] → va_P D vwCl [(ad 0, .inr (1, [.int (nI q), .ref (ad 1), .ref (ad 2), .ref (ad 3), .ref (ad 4)])), (ad 1, .inl (cI, 81, .inl (nF sm))), (ad 2, .inl (cI, 81, .inl (nF pr))), (ad 3, .inl (cI, 9, .inl (nF op))), (ad 4, .inl (cI, 9, .inl (nF iv))), (ad 5, .inr (3, [.ref (ad 0), .int (nI (nn q)), .ref (ad 6), .ref (ad 7)])), (ad 6, .inl (cI, 273, .inl (nF tr))), (ad 7, .inl (cI, 910, .inl (nF r1)))] H → va_D A [(ad 0, .inr (1, [.int (nI q), .ref (ad 1), .ref (ad 2), .ref (ad 3), .ref (ad 4)])), (ad 1, .inl (cI, 81, .inl (nF sm))), (ad 2, .inl (cI, 81, .inl (nF pr))), (ad 3, .inl (cI, 9, .inl (nF op))), (ad 4, .inl (cI, 9, .inl (nF iv))), (ad 5, .inr (3, [.ref (ad 0), .int (nI (nn q)), .ref (ad 6), .ref (ad 7)])), (ad 6, .inl (cI, 273, .inl (nF tr))), (ad 7, .inl (cI, 910, .inl (nF r1)))] → va_S A s.heap H locs → WG p l e wsX3_listRow { frames := 2, cells := 0, slots := 0, locals := 46 } s m [.ref (ad 5), .int (nI i)] below meth c H locs (CQ (S := (Nat → Nat)) D (fun (ro3 : Nat → Nat) => (∀ t, t ≤ q → ro3 (i * 10 + t) = rowq q i t) ∧ RowF ro3 ro (i * 10)) (fun (ro3 : Nat → Nat) => none) (fun (ro3 : Nat → Nat) => [(ad 0, .inr (1, [.int (nI q), .ref (ad 1), .ref (ad 2), .ref (ad 3), .ref (ad 4)])), (ad 1, .inl (cI, 81, .inl (nF sm))), (ad 2, .inl (cI, 81, .inl (nF pr))), (ad 3, .inl (cI, 9, .inl (nF op))), (ad 4, .inl (cI, 9, .inl (nF iv))), (ad 5, .inr (3, [.ref (ad 0), .int (nI (nn q)), .ref (ad 6), .ref (ad 7)])), (ad 6, .inl (cI, 273, .inl (nF tr))), (ad 7, .inl (cI, 910, .inl (nF ro3)))]) A) A 29 ls [] := by
      intro N29
      induction N29 with
      | zero => intro j x r1 ls H locs hN; exact absurd hN (Nat.not_lt_zero _)
      | succ N29 ih29 =>
        intro j x r1 ls H locs hN29 k_j k_x k_p k_r hl hP hD hS
        have hle := rowK_len q hF.1 i k_1 j (by omega)
        refine lv_iload hx hb dX3_listRow_29 (lv_at hl 4 rfl) ?_
        refine lv_aload_n hx hb dX3_listRow_31 rfl (lv_at hl 0 rfl) ?_
        refine va_get (D := D) (ci := 3) (v := .ref (ad 0)) (C := RX3) (T := TX3) (N := 4) hx hb hts hiX3 hown hK hP 5 rfl rfl 0 (by decide) hf18 (fun _ h9 => h9) rfl dX3_listRow_32 ?_
        refine va_getN (D := D) (ci := 1) (v := .int (nI q)) (C := RX1) (T := TX1) (N := 5) hx hb hts hiX1 hown hK hP 0 rfl rfl 0 (by decide) hf25 (fun _ h9 => h9) rfl dX3_listRow_35 ?_
        refine nv_icmp_gt (tgt := 156) hx hb (by omega) (by omega) dX3_listRow_38 (by decide) (fun c38 => ?_) (fun c38 => ?_)
        · have hj9 : j = q + 1 := by omega
          rw [hj9, rowK_end] at k_p
          exact ctW_retV r1 hx hb hr dX3_listRow_156 hlocks hS hP hD ⟨fun t ht => k_p t (by rw [row_tab q hF.1 i k_1]; omega), k_r⟩ rfl
        · obtain ⟨f, k_f⟩ : ∃ f, f = 1 + j * q := ⟨_, rfl⟩
          have hjq : j * q ≤ q * q := Nat.mul_le_mul_right q c38
          have hfn : f + q ≤ nn q := by omega
          have hs := rowK_s q hF.1 i k_1 j (by omega)
          have hle2 := rowK_len q hF.1 i k_1 (j + 1) (by omega)
          rw [← k_f] at hs
          refine lv_iconst (v := nI 1) hx hb dX3_listRow_41 (by decide) ?_
          refine lv_iload hx hb dX3_listRow_42 (lv_at hl 4 rfl) ?_
          refine lv_aload_n hx hb dX3_listRow_44 rfl (lv_at hl 0 rfl) ?_
          refine va_get (D := D) (ci := 3) (v := .ref (ad 0)) (C := RX3) (T := TX3) (N := 4) hx hb hts hiX3 hown hK hP 5 rfl rfl 0 (by decide) hf18 (fun _ h9 => h9) rfl dX3_listRow_45 ?_
          refine va_getN (D := D) (ci := 1) (v := .int (nI q)) (C := RX1) (T := TX1) (N := 5) hx hb hts hiX1 hown hK hP 0 rfl rfl 0 (by decide) hf25 (fun _ h9 => h9) rfl dX3_listRow_48 ?_
          refine nv_mulE (r := j * q) hx hb rfl dX3_listRow_51 ?_
          refine nv_addE (r := f) hx hb k_f.symm dX3_listRow_52 ?_
          refine lv_istore (lv' := [(5, .int (nI f)), (0, .ref (ad 5)), (1, .int (nI i)), (2, .int (nI x)), (3, .int (nI (pt q i 2))), (4, .int (nI j))]) hx hb dX3_listRow_53 hl (by decide) rfl (fun ls hl => ?_)
          refine lv_aload_n hx hb dX3_listRow_55 rfl (lv_at hl 1 rfl) ?_
          refine lv_iload_n hx hb dX3_listRow_56 rfl (lv_at hl 2 rfl) ?_
          refine lv_iload hx hb dX3_listRow_57 (lv_at hl 0 rfl) ?_
          refine ctR_V (As := [.int (nI i), .int (nI f)]) (rest := []) (r := .int (nI (vdot q (pt q i) (pt q f)))) ⟨hx, hb, hml, hown, hts⟩ (c_X3_dot l D cI cZ ad q sm pr op iv hF tr r1 hT i f (by omega) (by omega)) (cwV 2 hts gX3_listRow_X3_dot rfl rfl rfl hdV_X3_dot ⟨Nat.le_of_ble_eq_true rfl, Nat.le_of_ble_eq_true rfl⟩) hK hN hP [0, 1, 2, 3, 4, 5, 6, 7] rfl 5 3 rfl rfl rfl hl.1 rfl (Nat.le_of_ble_eq_true rfl) ⟨Nat.zero_le _, Nat.zero_le _⟩ dX3_listRow_59 ?_
          have hh_2 : vdot q (pt q i) (pt q f) < q := vdot_lt hF.1 (ptv hF.1 (by omega)) (ptv hF.1 (by omega))
          refine lv_istore (lv' := [(6, .int (nI (vdot q (pt q i) (pt q f)))), (5, .int (nI f)), (0, .ref (ad 5)), (1, .int (nI i)), (2, .int (nI x)), (3, .int (nI (pt q i 2))), (4, .int (nI j))]) hx hb dX3_listRow_62 hl (by decide) rfl (fun ls hl => ?_)
          refine lv_iload_n hx hb dX3_listRow_64 rfl (lv_at hl 5 rfl) ?_
          refine nv_if_eq (tgt := 100) hx hb (by omega) dX3_listRow_65 (by decide) (fun c65 => ?_) (fun c65 => ?_)
          · rw [if_neg (fun z => z c65)] at hs
            refine lv_iload hx hb dX3_listRow_100 (lv_at hl 0 rfl) ?_
            refine nv_if_ne (tgt := 150) hx hb (by omega) dX3_listRow_102 (by decide) (fun c102 => ?_) (fun c102 => ?_)
            · rw [if_neg c102, List.append_nil] at hs
              refine lv_iinc (v := nI (j + 1)) (lv' := [(4, .int (nI (j + 1))), (6, .int (nI (vdot q (pt q i) (pt q f)))), (5, .int (nI f)), (0, .ref (ad 5)), (1, .int (nI i)), (2, .int (nI x)), (3, .int (nI (pt q i 2)))]) hx hb dX3_listRow_150 hl (k := 6) rfl (nI_inc j) (by decide) rfl (fun ls hl => ?_)
              refine lv_goto (tgt := 29) hx hb dX3_listRow_153 (by decide) ?_
              exact ih29 (j + 1) x r1 ls _ _ (by omega) (by omega) (by rw [hs]; exact k_x) (by rw [hs]; exact k_p) k_r (lv_sub hl [3, 4, 5, 6, 0] rfl) hP hD hS
            · rw [if_pos c102] at hs
              rw [hs, List.length_append, List.length_map, List.length_range] at hle2
              refine lv_iconst (v := nI 0) hx hb dX3_listRow_105 (by decide) ?_
              refine lv_istore (lv' := [(7, .int (nI 0)), (6, .int (nI (vdot q (pt q i) (pt q f)))), (5, .int (nI f)), (0, .ref (ad 5)), (1, .int (nI i)), (2, .int (nI x)), (3, .int (nI (pt q i 2))), (4, .int (nI j))]) hx hb dX3_listRow_106 hl (by decide) rfl (fun ls hl => ?_)
              have L108 : ∀ (N108 : Nat) (z : Nat) (r2 : Nat → Nat) (ls : Array Slot) (H : Heap) (locs : List Loc), q - z < N108 → (z ≤ q) → (RowP r2 (i * 10) (rowK q i j ++ (List.range z).map (fun z => f + z))) → (RowF r2 ro (i * 10)) → lv_has ls 8 [(0, .ref (ad 5)), (1, .int (nI i)), (2, .int (nI x)), (3, .int (nI (pt q i 2))), (4, .int (nI j)), (5, .int (nI f)), (6, .int (nI (vdot q (pt q i) (pt q f)))), (7, .int (nI z))] → va_P D vwCl [(ad 0, .inr (1, [.int (nI q), .ref (ad 1), .ref (ad 2), .ref (ad 3), .ref (ad 4)])), (ad 1, .inl (cI, 81, .inl (nF sm))), (ad 2, .inl (cI, 81, .inl (nF pr))), (ad 3, .inl (cI, 9, .inl (nF op))), (ad 4, .inl (cI, 9, .inl (nF iv))), (ad 5, .inr (3, [.ref (ad 0), .int (nI (nn q)), .ref (ad 6), .ref (ad 7)])), (ad 6, .inl (cI, 273, .inl (nF tr))), (ad 7, .inl (cI, 910, .inl (nF r2)))] H → va_D A [(ad 0, .inr (1, [.int (nI q), .ref (ad 1), .ref (ad 2), .ref (ad 3), .ref (ad 4)])), (ad 1, .inl (cI, 81, .inl (nF sm))), (ad 2, .inl (cI, 81, .inl (nF pr))), (ad 3, .inl (cI, 9, .inl (nF op))), (ad 4, .inl (cI, 9, .inl (nF iv))), (ad 5, .inr (3, [.ref (ad 0), .int (nI (nn q)), .ref (ad 6), .ref (ad 7)])), (ad 6, .inl (cI, 273, .inl (nF tr))), (ad 7, .inl (cI, 910, .inl (nF r2)))] → va_S A s.heap H locs → WG p l e wsX3_listRow { frames := 2, cells := 0, slots := 0, locals := 46 } s m [.ref (ad 5), .int (nI i)] below meth c H locs (CQ (S := (Nat → Nat)) D (fun (ro3 : Nat → Nat) => (∀ t, t ≤ q → ro3 (i * 10 + t) = rowq q i t) ∧ RowF ro3 ro (i * 10)) (fun (ro3 : Nat → Nat) => none) (fun (ro3 : Nat → Nat) => [(ad 0, .inr (1, [.int (nI q), .ref (ad 1), .ref (ad 2), .ref (ad 3), .ref (ad 4)])), (ad 1, .inl (cI, 81, .inl (nF sm))), (ad 2, .inl (cI, 81, .inl (nF pr))), (ad 3, .inl (cI, 9, .inl (nF op))), (ad 4, .inl (cI, 9, .inl (nF iv))), (ad 5, .inr (3, [.ref (ad 0), .int (nI (nn q)), .ref (ad 6), .ref (ad 7)])), (ad 6, .inl (cI, 273, .inl (nF tr))), (ad 7, .inl (cI, 910, .inl (nF ro3)))]) A) A 108 ls [] := by
                intro N108
                induction N108 with
                | zero => intro z r2 ls H locs hN; exact absurd hN (Nat.not_lt_zero _)
                | succ N108 ih108 =>
                  intro z r2 ls H locs hN108 k_z k_q k_s hl hP hD hS
                  refine lv_iload hx hb dX3_listRow_108 (lv_at hl 7 rfl) ?_
                  refine lv_aload_n hx hb dX3_listRow_110 rfl (lv_at hl 0 rfl) ?_
                  refine va_get (D := D) (ci := 3) (v := .ref (ad 0)) (C := RX3) (T := TX3) (N := 4) hx hb hts hiX3 hown hK hP 5 rfl rfl 0 (by decide) hf18 (fun _ h9 => h9) rfl dX3_listRow_111 ?_
                  refine va_getN (D := D) (ci := 1) (v := .int (nI q)) (C := RX1) (T := TX1) (N := 5) hx hb hts hiX1 hown hK hP 0 rfl rfl 0 (by decide) hf25 (fun _ h9 => h9) rfl dX3_listRow_114 ?_
                  refine nv_icmp_ge (tgt := 140) hx hb (by omega) (by omega) dX3_listRow_117 (by decide) (fun c117 => ?_) (fun c117 => ?_)
                  · refine lv_iload_n hx hb dX3_listRow_140 rfl (lv_at hl 2 rfl) ?_
                    refine lv_aload_n hx hb dX3_listRow_141 rfl (lv_at hl 0 rfl) ?_
                    refine va_get (D := D) (ci := 3) (v := .ref (ad 0)) (C := RX3) (T := TX3) (N := 4) hx hb hts hiX3 hown hK hP 5 rfl rfl 0 (by decide) hf18 (fun _ h9 => h9) rfl dX3_listRow_142 ?_
                    refine va_getN (D := D) (ci := 1) (v := .int (nI q)) (C := RX1) (T := TX1) (N := 5) hx hb hts hiX1 hown hK hP 0 rfl rfl 0 (by decide) hf25 (fun _ h9 => h9) rfl dX3_listRow_145 ?_
                    refine nv_addE (r := x + q) hx hb rfl dX3_listRow_148 ?_
                    refine lv_istore_n (lv' := [(2, .int (nI (x + q))), (0, .ref (ad 5)), (1, .int (nI i)), (3, .int (nI (pt q i 2))), (4, .int (nI j)), (5, .int (nI f)), (6, .int (nI (vdot q (pt q i) (pt q f)))), (7, .int (nI z))]) hx hb dX3_listRow_149 rfl hl (by decide) rfl (fun ls hl => ?_)
                    refine lv_iinc (v := nI (j + 1)) (lv' := [(4, .int (nI (j + 1))), (2, .int (nI (x + q))), (0, .ref (ad 5)), (1, .int (nI i)), (3, .int (nI (pt q i 2))), (5, .int (nI f)), (6, .int (nI (vdot q (pt q i) (pt q f)))), (7, .int (nI z))]) hx hb dX3_listRow_150 hl (k := 4) rfl (nI_inc j) (by decide) rfl (fun ls hl => ?_)
                    refine lv_goto (tgt := 29) hx hb dX3_listRow_153 (by decide) ?_
                    exact ih29 (j + 1) (x + q) r2 ls _ _ (by omega) (by omega) (by rw [hs, List.length_append, List.length_map, List.length_range]; omega) (by rw [hs]; rw [show z = q by omega] at k_q; exact k_q) k_s (lv_sub hl [2, 3, 1, 4, 0] rfl) hP hD hS
                  · refine lv_aload_n hx hb dX3_listRow_120 rfl (lv_at hl 0 rfl) ?_
                    refine va_get (D := D) (ci := 3) (v := .ref (ad 7)) (C := RX3) (T := TX3) (N := 4) hx hb hts hiX3 hown hK hP 5 rfl rfl 3 (by decide) hf15 (fun _ h9 => h9) rfl dX3_listRow_121 ?_
                    refine lv_iload_n hx hb dX3_listRow_124 rfl (lv_at hl 2 rfl) ?_
                    refine lv_iload hx hb dX3_listRow_125 (lv_at hl 7 rfl) ?_
                    refine nv_addE (r := x + z) hx hb rfl dX3_listRow_127 ?_
                    refine lv_iload hx hb dX3_listRow_128 (lv_at hl 5 rfl) ?_
                    refine lv_iload hx hb dX3_listRow_130 (lv_at hl 7 rfl) ?_
                    refine nv_addE (r := f + z) hx hb rfl dX3_listRow_132 ?_
                    refine nv_iast hx hb hK hP hD hS 7 0 rfl rfl (by omega) (by decide) dX3_listRow_133 (fun H locs hP hD hS => ?_)
                    have hP : va_P D vwCl [(ad 0, .inr (1, [.int (nI q), .ref (ad 1), .ref (ad 2), .ref (ad 3), .ref (ad 4)])), (ad 1, .inl (cI, 81, .inl (nF sm))), (ad 2, .inl (cI, 81, .inl (nF pr))), (ad 3, .inl (cI, 9, .inl (nF op))), (ad 4, .inl (cI, 9, .inl (nF iv))), (ad 5, .inr (3, [.ref (ad 0), .int (nI (nn q)), .ref (ad 6), .ref (ad 7)])), (ad 6, .inl (cI, 273, .inl (nF tr))), (ad 7, .inl (cI, 910, .inl (nF (upN r2 (x + z) (f + z)))))] H := hP
                    have hD : va_D A [(ad 0, .inr (1, [.int (nI q), .ref (ad 1), .ref (ad 2), .ref (ad 3), .ref (ad 4)])), (ad 1, .inl (cI, 81, .inl (nF sm))), (ad 2, .inl (cI, 81, .inl (nF pr))), (ad 3, .inl (cI, 9, .inl (nF op))), (ad 4, .inl (cI, 9, .inl (nF iv))), (ad 5, .inr (3, [.ref (ad 0), .int (nI (nn q)), .ref (ad 6), .ref (ad 7)])), (ad 6, .inl (cI, 273, .inl (nF tr))), (ad 7, .inl (cI, 910, .inl (nF (upN r2 (x + z) (f + z)))))] := hD
                    refine lv_iinc (v := nI (z + 1)) (lv' := [(7, .int (nI (z + 1))), (0, .ref (ad 5)), (1, .int (nI i)), (2, .int (nI x)), (3, .int (nI (pt q i 2))), (4, .int (nI j)), (5, .int (nI f)), (6, .int (nI (vdot q (pt q i) (pt q f))))]) hx hb dX3_listRow_134 hl (k := 7) rfl (nI_inc z) (by decide) rfl (fun ls hl => ?_)
                    refine lv_goto (tgt := 108) hx hb dX3_listRow_137 (by decide) ?_
                    exact ih108 (z + 1) (upN r2 (x + z) (f + z)) ls _ _ (by omega) (by omega) (by rw [List.range_succ, List.map_append, ← List.append_assoc]; exact RowP_snoc k_q (f + z) (by rw [List.length_append, List.length_map, List.length_range]; omega)) (RowF_up k_s (by omega) (by omega)) (lv_sub hl [1, 2, 3, 4, 5, 6, 7, 0] rfl) hP hD hS
              exact L108 (q - 0 + 1) 0 r1 ls _ _ (by omega) (Nat.zero_le _) (by rw [List.range_zero, List.map_nil, List.append_nil]; exact k_p) k_r (lv_sub hl [3, 4, 5, 6, 7, 2, 1, 0] rfl) hP hD hS
          · rw [if_pos c65] at hs
            rw [hs, List.length_append, List.length_singleton] at hle2
            refine lv_aload_n hx hb dX3_listRow_68 rfl (lv_at hl 2 rfl) ?_
            refine va_get (D := D) (ci := 3) (v := .ref (ad 7)) (C := RX3) (T := TX3) (N := 4) hx hb hts hiX3 hown hK hP 5 rfl rfl 3 (by decide) hf15 (fun _ h9 => h9) rfl dX3_listRow_69 ?_
            refine lv_iload_n hx hb dX3_listRow_72 rfl (lv_at hl 4 rfl) ?_
            refine lv_iload hx hb dX3_listRow_73 (lv_at hl 1 rfl) ?_
            refine lv_aload_n hx hb dX3_listRow_75 rfl (lv_at hl 2 rfl) ?_
            refine va_get (D := D) (ci := 3) (v := .ref (ad 0)) (C := RX3) (T := TX3) (N := 4) hx hb hts hiX3 hown hK hP 5 rfl rfl 0 (by decide) hf18 (fun _ h9 => h9) rfl dX3_listRow_76 ?_
            refine lv_aload_n hx hb dX3_listRow_79 rfl (lv_at hl 2 rfl) ?_
            refine va_get (D := D) (ci := 3) (v := .ref (ad 0)) (C := RX3) (T := TX3) (N := 4) hx hb hts hiX3 hown hK hP 5 rfl rfl 0 (by decide) hf18 (fun _ h9 => h9) rfl dX3_listRow_80 ?_
            refine lv_iload hx hb dX3_listRow_83 (lv_at hl 0 rfl) ?_
            refine ctR_V (As := [.int (nI (vdot q (pt q i) (pt q f)))]) (rest := [.ref (ad 0), .int (nI f), .int (nI x), .ref (ad 7)]) (r := .int (nI (fneg q (vdot q (pt q i) (pt q f))))) ⟨hx, hb, hml, hown, hts⟩ (c_X1_opposite l D cI cZ ad q sm pr op iv hF (vdot q (pt q i) (pt q f)) (by omega)) (cwV 1 hts gX3_listRow_X1_opposite rfl rfl rfl hdV_X1_opposite ⟨Nat.le_of_ble_eq_true rfl, Nat.le_of_ble_eq_true rfl⟩) hK hN hP [0, 1, 2, 3, 4] rfl 0 1 rfl rfl rfl hl.1 rfl (Nat.le_of_ble_eq_true rfl) ⟨Nat.zero_le _, Nat.zero_le _⟩ dX3_listRow_85 ?_
            have hh_3 : fneg q (vdot q (pt q i) (pt q f)) < q := fneg_lt hF.1 (by omega)
            refine lv_iload_n hx hb dX3_listRow_88 rfl (lv_at hl 5 rfl) ?_
            refine ctR_V (As := [.int (nI (fneg q (vdot q (pt q i) (pt q f)))), .int (nI (pt q i 2))]) (rest := [.int (nI f), .int (nI x), .ref (ad 7)]) (r := .int (nI (fdiv q (fneg q (vdot q (pt q i) (pt q f))) (pt q i 2)))) ⟨hx, hb, hml, hown, hts⟩ (c_X1_over l D cI cZ ad q sm pr op iv hF (fneg q (vdot q (pt q i) (pt q f))) (pt q i 2) (by omega) (by omega) c65) (cwV 2 hts gX3_listRow_X1_over rfl rfl rfl hdV_X1_over ⟨Nat.le_of_ble_eq_true rfl, Nat.le_of_ble_eq_true rfl⟩) hK hN hP [0, 1, 2, 3, 4] rfl 0 1 rfl rfl rfl hl.1 rfl (Nat.le_of_ble_eq_true rfl) ⟨Nat.zero_le _, Nat.zero_le _⟩ dX3_listRow_89 ?_
            have hh_4 : fdiv q (fneg q (vdot q (pt q i) (pt q f))) (pt q i 2) < q := fdiv_lt hF.1 (by omega) (by omega)
            refine nv_addE (r := f + (fdiv q (fneg q (vdot q (pt q i) (pt q f))) (pt q i 2))) hx hb rfl dX3_listRow_92 ?_
            refine nv_iast hx hb hK hP hD hS 7 0 rfl rfl (by omega) (by decide) dX3_listRow_93 (fun H locs hP hD hS => ?_)
            have hP : va_P D vwCl [(ad 0, .inr (1, [.int (nI q), .ref (ad 1), .ref (ad 2), .ref (ad 3), .ref (ad 4)])), (ad 1, .inl (cI, 81, .inl (nF sm))), (ad 2, .inl (cI, 81, .inl (nF pr))), (ad 3, .inl (cI, 9, .inl (nF op))), (ad 4, .inl (cI, 9, .inl (nF iv))), (ad 5, .inr (3, [.ref (ad 0), .int (nI (nn q)), .ref (ad 6), .ref (ad 7)])), (ad 6, .inl (cI, 273, .inl (nF tr))), (ad 7, .inl (cI, 910, .inl (nF (upN r1 x (f + (fdiv q (fneg q (vdot q (pt q i) (pt q f))) (pt q i 2)))))))] H := hP
            have hD : va_D A [(ad 0, .inr (1, [.int (nI q), .ref (ad 1), .ref (ad 2), .ref (ad 3), .ref (ad 4)])), (ad 1, .inl (cI, 81, .inl (nF sm))), (ad 2, .inl (cI, 81, .inl (nF pr))), (ad 3, .inl (cI, 9, .inl (nF op))), (ad 4, .inl (cI, 9, .inl (nF iv))), (ad 5, .inr (3, [.ref (ad 0), .int (nI (nn q)), .ref (ad 6), .ref (ad 7)])), (ad 6, .inl (cI, 273, .inl (nF tr))), (ad 7, .inl (cI, 910, .inl (nF (upN r1 x (f + (fdiv q (fneg q (vdot q (pt q i) (pt q f))) (pt q i 2)))))))] := hD
            refine lv_iinc (v := nI (x + 1)) (lv' := [(2, .int (nI (x + 1))), (6, .int (nI (vdot q (pt q i) (pt q f)))), (5, .int (nI f)), (0, .ref (ad 5)), (1, .int (nI i)), (3, .int (nI (pt q i 2))), (4, .int (nI j))]) hx hb dX3_listRow_94 hl (k := 4) rfl (nI_inc x) (by decide) rfl (fun ls hl => ?_)
            refine lv_goto (tgt := 150) hx hb dX3_listRow_97 (by decide) ?_
            refine lv_iinc (v := nI (j + 1)) (lv' := [(4, .int (nI (j + 1))), (2, .int (nI (x + 1))), (6, .int (nI (vdot q (pt q i) (pt q f)))), (5, .int (nI f)), (0, .ref (ad 5)), (1, .int (nI i)), (3, .int (nI (pt q i 2)))]) hx hb dX3_listRow_150 hl (k := 6) rfl (nI_inc j) (by decide) rfl (fun ls hl => ?_)
            refine lv_goto (tgt := 29) hx hb dX3_listRow_153 (by decide) ?_
            exact ih29 (j + 1) (x + 1) (upN r1 x (f + (fdiv q (fneg q (vdot q (pt q i) (pt q f))) (pt q i 2)))) ls _ _ (by omega) (by omega) (by rw [hs, List.length_append, List.length_singleton]; omega) (by rw [hs]; exact RowP_snoc k_p _ k_x) (RowF_up k_r (by omega) (by omega)) (lv_sub hl [4, 5, 1, 6, 0] rfl) hP hD hS
    exact L29 (q + 1 - 0 + 1) 0 (i * 10) ro ls _ _ (by omega) (Nat.zero_le _) (by rw [rowK_0 q hF.1 i k_1, if_neg c13]; rfl) (by rw [rowK_0 q hF.1 i k_1, if_neg c13]; exact RowP_0) (fun _ _ => rfl) (lv_sub hl [3, 4, 2, 1, 0] rfl) hP hD hS
  · refine lv_aload_n hx hb dX3_listRow_16 rfl (lv_at hl 2 rfl) ?_
    refine va_get (D := D) (ci := 3) (v := .ref (ad 7)) (C := RX3) (T := TX3) (N := 4) hx hb hts hiX3 hown hK hP 5 rfl rfl 3 (by decide) hf15 (fun _ h9 => h9) rfl dX3_listRow_17 ?_
    refine lv_iload_n hx hb dX3_listRow_20 rfl (lv_at hl 1 rfl) ?_
    refine lv_iconst (v := nI 0) hx hb dX3_listRow_21 (by decide) ?_
    refine nv_iast hx hb hK hP hD hS 7 0 rfl rfl (by omega) (by decide) dX3_listRow_22 (fun H locs hP hD hS => ?_)
    have hP : va_P D vwCl [(ad 0, .inr (1, [.int (nI q), .ref (ad 1), .ref (ad 2), .ref (ad 3), .ref (ad 4)])), (ad 1, .inl (cI, 81, .inl (nF sm))), (ad 2, .inl (cI, 81, .inl (nF pr))), (ad 3, .inl (cI, 9, .inl (nF op))), (ad 4, .inl (cI, 9, .inl (nF iv))), (ad 5, .inr (3, [.ref (ad 0), .int (nI (nn q)), .ref (ad 6), .ref (ad 7)])), (ad 6, .inl (cI, 273, .inl (nF tr))), (ad 7, .inl (cI, 910, .inl (nF (upN ro (i * 10) 0))))] H := hP
    have hD : va_D A [(ad 0, .inr (1, [.int (nI q), .ref (ad 1), .ref (ad 2), .ref (ad 3), .ref (ad 4)])), (ad 1, .inl (cI, 81, .inl (nF sm))), (ad 2, .inl (cI, 81, .inl (nF pr))), (ad 3, .inl (cI, 9, .inl (nF op))), (ad 4, .inl (cI, 9, .inl (nF iv))), (ad 5, .inr (3, [.ref (ad 0), .int (nI (nn q)), .ref (ad 6), .ref (ad 7)])), (ad 6, .inl (cI, 273, .inl (nF tr))), (ad 7, .inl (cI, 910, .inl (nF (upN ro (i * 10) 0))))] := hD
    refine lv_iinc (v := nI (i * 10 + 1)) (lv' := [(2, .int (nI (i * 10 + 1))), (3, .int (nI (pt q i 2))), (0, .ref (ad 5)), (1, .int (nI i))]) hx hb dX3_listRow_23 hl (k := 1) rfl (nI_inc (i * 10)) (by decide) rfl (fun ls hl => ?_)
    refine lv_iconst (v := nI 0) hx hb dX3_listRow_26 (by decide) ?_
    refine lv_istore (lv' := [(4, .int (nI 0)), (2, .int (nI (i * 10 + 1))), (3, .int (nI (pt q i 2))), (0, .ref (ad 5)), (1, .int (nI i))]) hx hb dX3_listRow_27 hl (by decide) rfl (fun ls hl => ?_)
    have L29 : ∀ (N29 : Nat) (j : Nat) (x : Nat) (r1 : Nat → Nat) (ls : Array Slot) (H : Heap) (locs : List Loc), q + 1 - j < N29 → (j ≤ q + 1) → (x = i * 10 + (rowK q i j).length) → (RowP r1 (i * 10) (rowK q i j)) → (RowF r1 ro (i * 10)) → lv_has ls 8 [(0, .ref (ad 5)), (1, .int (nI i)), (2, .int (nI x)), (3, .int (nI (pt q i 2))), (4, .int (nI j))] → va_P D vwCl [(ad 0, .inr (1, [.int (nI q), .ref (ad 1), .ref (ad 2), .ref (ad 3), .ref (ad 4)])), (ad 1, .inl (cI, 81, .inl (nF sm))), (ad 2, .inl (cI, 81, .inl (nF pr))), (ad 3, .inl (cI, 9, .inl (nF op))), (ad 4, .inl (cI, 9, .inl (nF iv))), (ad 5, .inr (3, [.ref (ad 0), .int (nI (nn q)), .ref (ad 6), .ref (ad 7)])), (ad 6, .inl (cI, 273, .inl (nF tr))), (ad 7, .inl (cI, 910, .inl (nF r1)))] H → va_D A [(ad 0, .inr (1, [.int (nI q), .ref (ad 1), .ref (ad 2), .ref (ad 3), .ref (ad 4)])), (ad 1, .inl (cI, 81, .inl (nF sm))), (ad 2, .inl (cI, 81, .inl (nF pr))), (ad 3, .inl (cI, 9, .inl (nF op))), (ad 4, .inl (cI, 9, .inl (nF iv))), (ad 5, .inr (3, [.ref (ad 0), .int (nI (nn q)), .ref (ad 6), .ref (ad 7)])), (ad 6, .inl (cI, 273, .inl (nF tr))), (ad 7, .inl (cI, 910, .inl (nF r1)))] → va_S A s.heap H locs → WG p l e wsX3_listRow { frames := 2, cells := 0, slots := 0, locals := 46 } s m [.ref (ad 5), .int (nI i)] below meth c H locs (CQ (S := (Nat → Nat)) D (fun (ro3 : Nat → Nat) => (∀ t, t ≤ q → ro3 (i * 10 + t) = rowq q i t) ∧ RowF ro3 ro (i * 10)) (fun (ro3 : Nat → Nat) => none) (fun (ro3 : Nat → Nat) => [(ad 0, .inr (1, [.int (nI q), .ref (ad 1), .ref (ad 2), .ref (ad 3), .ref (ad 4)])), (ad 1, .inl (cI, 81, .inl (nF sm))), (ad 2, .inl (cI, 81, .inl (nF pr))), (ad 3, .inl (cI, 9, .inl (nF op))), (ad 4, .inl (cI, 9, .inl (nF iv))), (ad 5, .inr (3, [.ref (ad 0), .int (nI (nn q)), .ref (ad 6), .ref (ad 7)])), (ad 6, .inl (cI, 273, .inl (nF tr))), (ad 7, .inl (cI, 910, .inl (nF ro3)))]) A) A 29 ls [] := by
      intro N29
      induction N29 with
      | zero => intro j x r1 ls H locs hN; exact absurd hN (Nat.not_lt_zero _)
      | succ N29 ih29 =>
        intro j x r1 ls H locs hN29 k_j k_x k_p k_r hl hP hD hS
        have hle := rowK_len q hF.1 i k_1 j (by omega)
        refine lv_iload hx hb dX3_listRow_29 (lv_at hl 4 rfl) ?_
        refine lv_aload_n hx hb dX3_listRow_31 rfl (lv_at hl 0 rfl) ?_
        refine va_get (D := D) (ci := 3) (v := .ref (ad 0)) (C := RX3) (T := TX3) (N := 4) hx hb hts hiX3 hown hK hP 5 rfl rfl 0 (by decide) hf18 (fun _ h9 => h9) rfl dX3_listRow_32 ?_
        refine va_getN (D := D) (ci := 1) (v := .int (nI q)) (C := RX1) (T := TX1) (N := 5) hx hb hts hiX1 hown hK hP 0 rfl rfl 0 (by decide) hf25 (fun _ h9 => h9) rfl dX3_listRow_35 ?_
        refine nv_icmp_gt (tgt := 156) hx hb (by omega) (by omega) dX3_listRow_38 (by decide) (fun c38 => ?_) (fun c38 => ?_)
        · have hj9 : j = q + 1 := by omega
          rw [hj9, rowK_end] at k_p
          exact ctW_retV r1 hx hb hr dX3_listRow_156 hlocks hS hP hD ⟨fun t ht => k_p t (by rw [row_tab q hF.1 i k_1]; omega), k_r⟩ rfl
        · obtain ⟨f, k_f⟩ : ∃ f, f = 1 + j * q := ⟨_, rfl⟩
          have hjq : j * q ≤ q * q := Nat.mul_le_mul_right q c38
          have hfn : f + q ≤ nn q := by omega
          have hs := rowK_s q hF.1 i k_1 j (by omega)
          have hle2 := rowK_len q hF.1 i k_1 (j + 1) (by omega)
          rw [← k_f] at hs
          refine lv_iconst (v := nI 1) hx hb dX3_listRow_41 (by decide) ?_
          refine lv_iload hx hb dX3_listRow_42 (lv_at hl 4 rfl) ?_
          refine lv_aload_n hx hb dX3_listRow_44 rfl (lv_at hl 0 rfl) ?_
          refine va_get (D := D) (ci := 3) (v := .ref (ad 0)) (C := RX3) (T := TX3) (N := 4) hx hb hts hiX3 hown hK hP 5 rfl rfl 0 (by decide) hf18 (fun _ h9 => h9) rfl dX3_listRow_45 ?_
          refine va_getN (D := D) (ci := 1) (v := .int (nI q)) (C := RX1) (T := TX1) (N := 5) hx hb hts hiX1 hown hK hP 0 rfl rfl 0 (by decide) hf25 (fun _ h9 => h9) rfl dX3_listRow_48 ?_
          refine nv_mulE (r := j * q) hx hb rfl dX3_listRow_51 ?_
          refine nv_addE (r := f) hx hb k_f.symm dX3_listRow_52 ?_
          refine lv_istore (lv' := [(5, .int (nI f)), (0, .ref (ad 5)), (1, .int (nI i)), (2, .int (nI x)), (3, .int (nI (pt q i 2))), (4, .int (nI j))]) hx hb dX3_listRow_53 hl (by decide) rfl (fun ls hl => ?_)
          refine lv_aload_n hx hb dX3_listRow_55 rfl (lv_at hl 1 rfl) ?_
          refine lv_iload_n hx hb dX3_listRow_56 rfl (lv_at hl 2 rfl) ?_
          refine lv_iload hx hb dX3_listRow_57 (lv_at hl 0 rfl) ?_
          refine ctR_V (As := [.int (nI i), .int (nI f)]) (rest := []) (r := .int (nI (vdot q (pt q i) (pt q f)))) ⟨hx, hb, hml, hown, hts⟩ (c_X3_dot l D cI cZ ad q sm pr op iv hF tr r1 hT i f (by omega) (by omega)) (cwV 2 hts gX3_listRow_X3_dot rfl rfl rfl hdV_X3_dot ⟨Nat.le_of_ble_eq_true rfl, Nat.le_of_ble_eq_true rfl⟩) hK hN hP [0, 1, 2, 3, 4, 5, 6, 7] rfl 5 3 rfl rfl rfl hl.1 rfl (Nat.le_of_ble_eq_true rfl) ⟨Nat.zero_le _, Nat.zero_le _⟩ dX3_listRow_59 ?_
          have hh_5 : vdot q (pt q i) (pt q f) < q := vdot_lt hF.1 (ptv hF.1 (by omega)) (ptv hF.1 (by omega))
          refine lv_istore (lv' := [(6, .int (nI (vdot q (pt q i) (pt q f)))), (5, .int (nI f)), (0, .ref (ad 5)), (1, .int (nI i)), (2, .int (nI x)), (3, .int (nI (pt q i 2))), (4, .int (nI j))]) hx hb dX3_listRow_62 hl (by decide) rfl (fun ls hl => ?_)
          refine lv_iload_n hx hb dX3_listRow_64 rfl (lv_at hl 5 rfl) ?_
          refine nv_if_eq (tgt := 100) hx hb (by omega) dX3_listRow_65 (by decide) (fun c65 => ?_) (fun c65 => ?_)
          · rw [if_neg (fun z => z c65)] at hs
            refine lv_iload hx hb dX3_listRow_100 (lv_at hl 0 rfl) ?_
            refine nv_if_ne (tgt := 150) hx hb (by omega) dX3_listRow_102 (by decide) (fun c102 => ?_) (fun c102 => ?_)
            · rw [if_neg c102, List.append_nil] at hs
              refine lv_iinc (v := nI (j + 1)) (lv' := [(4, .int (nI (j + 1))), (6, .int (nI (vdot q (pt q i) (pt q f)))), (5, .int (nI f)), (0, .ref (ad 5)), (1, .int (nI i)), (2, .int (nI x)), (3, .int (nI (pt q i 2)))]) hx hb dX3_listRow_150 hl (k := 6) rfl (nI_inc j) (by decide) rfl (fun ls hl => ?_)
              refine lv_goto (tgt := 29) hx hb dX3_listRow_153 (by decide) ?_
              exact ih29 (j + 1) x r1 ls _ _ (by omega) (by omega) (by rw [hs]; exact k_x) (by rw [hs]; exact k_p) k_r (lv_sub hl [3, 4, 5, 6, 0] rfl) hP hD hS
            · rw [if_pos c102] at hs
              rw [hs, List.length_append, List.length_map, List.length_range] at hle2
              refine lv_iconst (v := nI 0) hx hb dX3_listRow_105 (by decide) ?_
              refine lv_istore (lv' := [(7, .int (nI 0)), (6, .int (nI (vdot q (pt q i) (pt q f)))), (5, .int (nI f)), (0, .ref (ad 5)), (1, .int (nI i)), (2, .int (nI x)), (3, .int (nI (pt q i 2))), (4, .int (nI j))]) hx hb dX3_listRow_106 hl (by decide) rfl (fun ls hl => ?_)
              have L108 : ∀ (N108 : Nat) (z : Nat) (r2 : Nat → Nat) (ls : Array Slot) (H : Heap) (locs : List Loc), q - z < N108 → (z ≤ q) → (RowP r2 (i * 10) (rowK q i j ++ (List.range z).map (fun z => f + z))) → (RowF r2 ro (i * 10)) → lv_has ls 8 [(0, .ref (ad 5)), (1, .int (nI i)), (2, .int (nI x)), (3, .int (nI (pt q i 2))), (4, .int (nI j)), (5, .int (nI f)), (6, .int (nI (vdot q (pt q i) (pt q f)))), (7, .int (nI z))] → va_P D vwCl [(ad 0, .inr (1, [.int (nI q), .ref (ad 1), .ref (ad 2), .ref (ad 3), .ref (ad 4)])), (ad 1, .inl (cI, 81, .inl (nF sm))), (ad 2, .inl (cI, 81, .inl (nF pr))), (ad 3, .inl (cI, 9, .inl (nF op))), (ad 4, .inl (cI, 9, .inl (nF iv))), (ad 5, .inr (3, [.ref (ad 0), .int (nI (nn q)), .ref (ad 6), .ref (ad 7)])), (ad 6, .inl (cI, 273, .inl (nF tr))), (ad 7, .inl (cI, 910, .inl (nF r2)))] H → va_D A [(ad 0, .inr (1, [.int (nI q), .ref (ad 1), .ref (ad 2), .ref (ad 3), .ref (ad 4)])), (ad 1, .inl (cI, 81, .inl (nF sm))), (ad 2, .inl (cI, 81, .inl (nF pr))), (ad 3, .inl (cI, 9, .inl (nF op))), (ad 4, .inl (cI, 9, .inl (nF iv))), (ad 5, .inr (3, [.ref (ad 0), .int (nI (nn q)), .ref (ad 6), .ref (ad 7)])), (ad 6, .inl (cI, 273, .inl (nF tr))), (ad 7, .inl (cI, 910, .inl (nF r2)))] → va_S A s.heap H locs → WG p l e wsX3_listRow { frames := 2, cells := 0, slots := 0, locals := 46 } s m [.ref (ad 5), .int (nI i)] below meth c H locs (CQ (S := (Nat → Nat)) D (fun (ro3 : Nat → Nat) => (∀ t, t ≤ q → ro3 (i * 10 + t) = rowq q i t) ∧ RowF ro3 ro (i * 10)) (fun (ro3 : Nat → Nat) => none) (fun (ro3 : Nat → Nat) => [(ad 0, .inr (1, [.int (nI q), .ref (ad 1), .ref (ad 2), .ref (ad 3), .ref (ad 4)])), (ad 1, .inl (cI, 81, .inl (nF sm))), (ad 2, .inl (cI, 81, .inl (nF pr))), (ad 3, .inl (cI, 9, .inl (nF op))), (ad 4, .inl (cI, 9, .inl (nF iv))), (ad 5, .inr (3, [.ref (ad 0), .int (nI (nn q)), .ref (ad 6), .ref (ad 7)])), (ad 6, .inl (cI, 273, .inl (nF tr))), (ad 7, .inl (cI, 910, .inl (nF ro3)))]) A) A 108 ls [] := by
                intro N108
                induction N108 with
                | zero => intro z r2 ls H locs hN; exact absurd hN (Nat.not_lt_zero _)
                | succ N108 ih108 =>
                  intro z r2 ls H locs hN108 k_z k_q k_s hl hP hD hS
                  refine lv_iload hx hb dX3_listRow_108 (lv_at hl 7 rfl) ?_
                  refine lv_aload_n hx hb dX3_listRow_110 rfl (lv_at hl 0 rfl) ?_
                  refine va_get (D := D) (ci := 3) (v := .ref (ad 0)) (C := RX3) (T := TX3) (N := 4) hx hb hts hiX3 hown hK hP 5 rfl rfl 0 (by decide) hf18 (fun _ h9 => h9) rfl dX3_listRow_111 ?_
                  refine va_getN (D := D) (ci := 1) (v := .int (nI q)) (C := RX1) (T := TX1) (N := 5) hx hb hts hiX1 hown hK hP 0 rfl rfl 0 (by decide) hf25 (fun _ h9 => h9) rfl dX3_listRow_114 ?_
                  refine nv_icmp_ge (tgt := 140) hx hb (by omega) (by omega) dX3_listRow_117 (by decide) (fun c117 => ?_) (fun c117 => ?_)
                  · refine lv_iload_n hx hb dX3_listRow_140 rfl (lv_at hl 2 rfl) ?_
                    refine lv_aload_n hx hb dX3_listRow_141 rfl (lv_at hl 0 rfl) ?_
                    refine va_get (D := D) (ci := 3) (v := .ref (ad 0)) (C := RX3) (T := TX3) (N := 4) hx hb hts hiX3 hown hK hP 5 rfl rfl 0 (by decide) hf18 (fun _ h9 => h9) rfl dX3_listRow_142 ?_
                    refine va_getN (D := D) (ci := 1) (v := .int (nI q)) (C := RX1) (T := TX1) (N := 5) hx hb hts hiX1 hown hK hP 0 rfl rfl 0 (by decide) hf25 (fun _ h9 => h9) rfl dX3_listRow_145 ?_
                    refine nv_addE (r := x + q) hx hb rfl dX3_listRow_148 ?_
                    refine lv_istore_n (lv' := [(2, .int (nI (x + q))), (0, .ref (ad 5)), (1, .int (nI i)), (3, .int (nI (pt q i 2))), (4, .int (nI j)), (5, .int (nI f)), (6, .int (nI (vdot q (pt q i) (pt q f)))), (7, .int (nI z))]) hx hb dX3_listRow_149 rfl hl (by decide) rfl (fun ls hl => ?_)
                    refine lv_iinc (v := nI (j + 1)) (lv' := [(4, .int (nI (j + 1))), (2, .int (nI (x + q))), (0, .ref (ad 5)), (1, .int (nI i)), (3, .int (nI (pt q i 2))), (5, .int (nI f)), (6, .int (nI (vdot q (pt q i) (pt q f)))), (7, .int (nI z))]) hx hb dX3_listRow_150 hl (k := 4) rfl (nI_inc j) (by decide) rfl (fun ls hl => ?_)
                    refine lv_goto (tgt := 29) hx hb dX3_listRow_153 (by decide) ?_
                    exact ih29 (j + 1) (x + q) r2 ls _ _ (by omega) (by omega) (by rw [hs, List.length_append, List.length_map, List.length_range]; omega) (by rw [hs]; rw [show z = q by omega] at k_q; exact k_q) k_s (lv_sub hl [2, 3, 1, 4, 0] rfl) hP hD hS
                  · refine lv_aload_n hx hb dX3_listRow_120 rfl (lv_at hl 0 rfl) ?_
                    refine va_get (D := D) (ci := 3) (v := .ref (ad 7)) (C := RX3) (T := TX3) (N := 4) hx hb hts hiX3 hown hK hP 5 rfl rfl 3 (by decide) hf15 (fun _ h9 => h9) rfl dX3_listRow_121 ?_
                    refine lv_iload_n hx hb dX3_listRow_124 rfl (lv_at hl 2 rfl) ?_
                    refine lv_iload hx hb dX3_listRow_125 (lv_at hl 7 rfl) ?_
                    refine nv_addE (r := x + z) hx hb rfl dX3_listRow_127 ?_
                    refine lv_iload hx hb dX3_listRow_128 (lv_at hl 5 rfl) ?_
                    refine lv_iload hx hb dX3_listRow_130 (lv_at hl 7 rfl) ?_
                    refine nv_addE (r := f + z) hx hb rfl dX3_listRow_132 ?_
                    refine nv_iast hx hb hK hP hD hS 7 0 rfl rfl (by omega) (by decide) dX3_listRow_133 (fun H locs hP hD hS => ?_)
                    have hP : va_P D vwCl [(ad 0, .inr (1, [.int (nI q), .ref (ad 1), .ref (ad 2), .ref (ad 3), .ref (ad 4)])), (ad 1, .inl (cI, 81, .inl (nF sm))), (ad 2, .inl (cI, 81, .inl (nF pr))), (ad 3, .inl (cI, 9, .inl (nF op))), (ad 4, .inl (cI, 9, .inl (nF iv))), (ad 5, .inr (3, [.ref (ad 0), .int (nI (nn q)), .ref (ad 6), .ref (ad 7)])), (ad 6, .inl (cI, 273, .inl (nF tr))), (ad 7, .inl (cI, 910, .inl (nF (upN r2 (x + z) (f + z)))))] H := hP
                    have hD : va_D A [(ad 0, .inr (1, [.int (nI q), .ref (ad 1), .ref (ad 2), .ref (ad 3), .ref (ad 4)])), (ad 1, .inl (cI, 81, .inl (nF sm))), (ad 2, .inl (cI, 81, .inl (nF pr))), (ad 3, .inl (cI, 9, .inl (nF op))), (ad 4, .inl (cI, 9, .inl (nF iv))), (ad 5, .inr (3, [.ref (ad 0), .int (nI (nn q)), .ref (ad 6), .ref (ad 7)])), (ad 6, .inl (cI, 273, .inl (nF tr))), (ad 7, .inl (cI, 910, .inl (nF (upN r2 (x + z) (f + z)))))] := hD
                    refine lv_iinc (v := nI (z + 1)) (lv' := [(7, .int (nI (z + 1))), (0, .ref (ad 5)), (1, .int (nI i)), (2, .int (nI x)), (3, .int (nI (pt q i 2))), (4, .int (nI j)), (5, .int (nI f)), (6, .int (nI (vdot q (pt q i) (pt q f))))]) hx hb dX3_listRow_134 hl (k := 7) rfl (nI_inc z) (by decide) rfl (fun ls hl => ?_)
                    refine lv_goto (tgt := 108) hx hb dX3_listRow_137 (by decide) ?_
                    exact ih108 (z + 1) (upN r2 (x + z) (f + z)) ls _ _ (by omega) (by omega) (by rw [List.range_succ, List.map_append, ← List.append_assoc]; exact RowP_snoc k_q (f + z) (by rw [List.length_append, List.length_map, List.length_range]; omega)) (RowF_up k_s (by omega) (by omega)) (lv_sub hl [1, 2, 3, 4, 5, 6, 7, 0] rfl) hP hD hS
              exact L108 (q - 0 + 1) 0 r1 ls _ _ (by omega) (Nat.zero_le _) (by rw [List.range_zero, List.map_nil, List.append_nil]; exact k_p) k_r (lv_sub hl [3, 4, 5, 6, 7, 2, 1, 0] rfl) hP hD hS
          · rw [if_pos c65] at hs
            rw [hs, List.length_append, List.length_singleton] at hle2
            refine lv_aload_n hx hb dX3_listRow_68 rfl (lv_at hl 2 rfl) ?_
            refine va_get (D := D) (ci := 3) (v := .ref (ad 7)) (C := RX3) (T := TX3) (N := 4) hx hb hts hiX3 hown hK hP 5 rfl rfl 3 (by decide) hf15 (fun _ h9 => h9) rfl dX3_listRow_69 ?_
            refine lv_iload_n hx hb dX3_listRow_72 rfl (lv_at hl 4 rfl) ?_
            refine lv_iload hx hb dX3_listRow_73 (lv_at hl 1 rfl) ?_
            refine lv_aload_n hx hb dX3_listRow_75 rfl (lv_at hl 2 rfl) ?_
            refine va_get (D := D) (ci := 3) (v := .ref (ad 0)) (C := RX3) (T := TX3) (N := 4) hx hb hts hiX3 hown hK hP 5 rfl rfl 0 (by decide) hf18 (fun _ h9 => h9) rfl dX3_listRow_76 ?_
            refine lv_aload_n hx hb dX3_listRow_79 rfl (lv_at hl 2 rfl) ?_
            refine va_get (D := D) (ci := 3) (v := .ref (ad 0)) (C := RX3) (T := TX3) (N := 4) hx hb hts hiX3 hown hK hP 5 rfl rfl 0 (by decide) hf18 (fun _ h9 => h9) rfl dX3_listRow_80 ?_
            refine lv_iload hx hb dX3_listRow_83 (lv_at hl 0 rfl) ?_
            refine ctR_V (As := [.int (nI (vdot q (pt q i) (pt q f)))]) (rest := [.ref (ad 0), .int (nI f), .int (nI x), .ref (ad 7)]) (r := .int (nI (fneg q (vdot q (pt q i) (pt q f))))) ⟨hx, hb, hml, hown, hts⟩ (c_X1_opposite l D cI cZ ad q sm pr op iv hF (vdot q (pt q i) (pt q f)) (by omega)) (cwV 1 hts gX3_listRow_X1_opposite rfl rfl rfl hdV_X1_opposite ⟨Nat.le_of_ble_eq_true rfl, Nat.le_of_ble_eq_true rfl⟩) hK hN hP [0, 1, 2, 3, 4] rfl 0 1 rfl rfl rfl hl.1 rfl (Nat.le_of_ble_eq_true rfl) ⟨Nat.zero_le _, Nat.zero_le _⟩ dX3_listRow_85 ?_
            have hh_6 : fneg q (vdot q (pt q i) (pt q f)) < q := fneg_lt hF.1 (by omega)
            refine lv_iload_n hx hb dX3_listRow_88 rfl (lv_at hl 5 rfl) ?_
            refine ctR_V (As := [.int (nI (fneg q (vdot q (pt q i) (pt q f)))), .int (nI (pt q i 2))]) (rest := [.int (nI f), .int (nI x), .ref (ad 7)]) (r := .int (nI (fdiv q (fneg q (vdot q (pt q i) (pt q f))) (pt q i 2)))) ⟨hx, hb, hml, hown, hts⟩ (c_X1_over l D cI cZ ad q sm pr op iv hF (fneg q (vdot q (pt q i) (pt q f))) (pt q i 2) (by omega) (by omega) c65) (cwV 2 hts gX3_listRow_X1_over rfl rfl rfl hdV_X1_over ⟨Nat.le_of_ble_eq_true rfl, Nat.le_of_ble_eq_true rfl⟩) hK hN hP [0, 1, 2, 3, 4] rfl 0 1 rfl rfl rfl hl.1 rfl (Nat.le_of_ble_eq_true rfl) ⟨Nat.zero_le _, Nat.zero_le _⟩ dX3_listRow_89 ?_
            have hh_7 : fdiv q (fneg q (vdot q (pt q i) (pt q f))) (pt q i 2) < q := fdiv_lt hF.1 (by omega) (by omega)
            refine nv_addE (r := f + (fdiv q (fneg q (vdot q (pt q i) (pt q f))) (pt q i 2))) hx hb rfl dX3_listRow_92 ?_
            refine nv_iast hx hb hK hP hD hS 7 0 rfl rfl (by omega) (by decide) dX3_listRow_93 (fun H locs hP hD hS => ?_)
            have hP : va_P D vwCl [(ad 0, .inr (1, [.int (nI q), .ref (ad 1), .ref (ad 2), .ref (ad 3), .ref (ad 4)])), (ad 1, .inl (cI, 81, .inl (nF sm))), (ad 2, .inl (cI, 81, .inl (nF pr))), (ad 3, .inl (cI, 9, .inl (nF op))), (ad 4, .inl (cI, 9, .inl (nF iv))), (ad 5, .inr (3, [.ref (ad 0), .int (nI (nn q)), .ref (ad 6), .ref (ad 7)])), (ad 6, .inl (cI, 273, .inl (nF tr))), (ad 7, .inl (cI, 910, .inl (nF (upN r1 x (f + (fdiv q (fneg q (vdot q (pt q i) (pt q f))) (pt q i 2)))))))] H := hP
            have hD : va_D A [(ad 0, .inr (1, [.int (nI q), .ref (ad 1), .ref (ad 2), .ref (ad 3), .ref (ad 4)])), (ad 1, .inl (cI, 81, .inl (nF sm))), (ad 2, .inl (cI, 81, .inl (nF pr))), (ad 3, .inl (cI, 9, .inl (nF op))), (ad 4, .inl (cI, 9, .inl (nF iv))), (ad 5, .inr (3, [.ref (ad 0), .int (nI (nn q)), .ref (ad 6), .ref (ad 7)])), (ad 6, .inl (cI, 273, .inl (nF tr))), (ad 7, .inl (cI, 910, .inl (nF (upN r1 x (f + (fdiv q (fneg q (vdot q (pt q i) (pt q f))) (pt q i 2)))))))] := hD
            refine lv_iinc (v := nI (x + 1)) (lv' := [(2, .int (nI (x + 1))), (6, .int (nI (vdot q (pt q i) (pt q f)))), (5, .int (nI f)), (0, .ref (ad 5)), (1, .int (nI i)), (3, .int (nI (pt q i 2))), (4, .int (nI j))]) hx hb dX3_listRow_94 hl (k := 4) rfl (nI_inc x) (by decide) rfl (fun ls hl => ?_)
            refine lv_goto (tgt := 150) hx hb dX3_listRow_97 (by decide) ?_
            refine lv_iinc (v := nI (j + 1)) (lv' := [(4, .int (nI (j + 1))), (2, .int (nI (x + 1))), (6, .int (nI (vdot q (pt q i) (pt q f)))), (5, .int (nI f)), (0, .ref (ad 5)), (1, .int (nI i)), (3, .int (nI (pt q i 2)))]) hx hb dX3_listRow_150 hl (k := 6) rfl (nI_inc j) (by decide) rfl (fun ls hl => ?_)
            refine lv_goto (tgt := 29) hx hb dX3_listRow_153 (by decide) ?_
            exact ih29 (j + 1) (x + 1) (upN r1 x (f + (fdiv q (fneg q (vdot q (pt q i) (pt q f))) (pt q i 2)))) ls _ _ (by omega) (by omega) (by rw [hs, List.length_append, List.length_singleton]; omega) (by rw [hs]; exact RowP_snoc k_p _ k_x) (RowF_up k_r (by omega) (by omega)) (lv_sub hl [4, 5, 1, 6, 0] rfl) hP hD hS
    exact L29 (q + 1 - 0 + 1) 0 (i * 10 + 1) (upN ro (i * 10) 0) ls _ _ (by omega) (Nat.zero_le _) (by rw [rowK_0 q hF.1 i k_1, if_pos c13]; rfl) (by rw [rowK_0 q hF.1 i k_1, if_pos c13]; exact RowP_snoc RowP_0 0 rfl) (RowF_up (fun _ _ => rfl) (by omega) (by omega)) (lv_sub hl [3, 4, 1, 2, 0] rfl) hP hD hS

set_option maxHeartbeats 4000000 in
set_option maxRecDepth 100000 in
theorem c_X3_build (l : Launch) (D : va_G) (cI cZ : ClassId) (ad : Nat → Nat) (q : Nat) (sm : Nat → Nat) (pr : Nat → Nat) (op : Nat → Nat) (iv : Nat → Nat) (hF : FOK q sm pr op iv) (n : Nat) (tr : Nat → Nat) (ro : Nat → Nat) : CtW (S := (Nat → Nat) × (Nat → Nat)) l yX3_build wsX3_build { frames := 3, cells := 0, slots := 0, locals := 73 } D (tyG cI cZ) [.ref (ad 5)] [(ad 0, .inr (1, [.int (nI q), .ref (ad 1), .ref (ad 2), .ref (ad 3), .ref (ad 4)])), (ad 1, .inl (cI, 81, .inl (nF sm))), (ad 2, .inl (cI, 81, .inl (nF pr))), (ad 3, .inl (cI, 9, .inl (nF op))), (ad 4, .inl (cI, 9, .inl (nF iv))), (ad 5, .inr (3, [.ref (ad 0), .int (nI n), .ref (ad 6), .ref (ad 7)])), (ad 6, .inl (cI, 273, .inl (nF tr))), (ad 7, .inl (cI, 910, .inl (nF ro)))] (fun u => (fun (tr3 : Nat → Nat) (ro3 : Nat → Nat) => TOK q tr3 ∧ ROK q ro3) u.1 u.2) (fun u => (fun (tr3 : Nat → Nat) (ro3 : Nat → Nat) => none) u.1 u.2) (fun u => (fun (tr3 : Nat → Nat) (ro3 : Nat → Nat) => [(ad 0, .inr (1, [.int (nI q), .ref (ad 1), .ref (ad 2), .ref (ad 3), .ref (ad 4)])), (ad 1, .inl (cI, 81, .inl (nF sm))), (ad 2, .inl (cI, 81, .inl (nF pr))), (ad 3, .inl (cI, 9, .inl (nF op))), (ad 4, .inl (cI, 9, .inl (nF iv))), (ad 5, .inr (3, [.ref (ad 0), .int (nI (nn q)), .ref (ad 6), .ref (ad 7)])), (ad 6, .inl (cI, 273, .inl (nF tr3))), (ad 7, .inl (cI, 910, .inl (nF ro3)))]) u.1 u.2) := by
  intro sz; refine Met.ofW (cc := cX3_build) (maxL := 4) (ret := none) (by decide) rfl ?_
  intro p e s m args below meth c s₁ B hml hv
  obtain ⟨rfl, hsz, hP, hK, hD0, hN⟩ := hv
  have hx := B.exec
  have hb := B.bytes
  have hr := B.returns
  have hts := atoms_spec (ws := wsX3_build) B.pre
  have hown : s.vm.findClass RX3 = some m.cls := findClass_of_methodNamed B.named
  have hlocks := B.notSynchronized
  subst hsz
  have hD := hD0.self (sz := s.heap.size)
  generalize hAe : va_A [(ad 0, .inr (1, [.int (nI q), .ref (ad 1), .ref (ad 2), .ref (ad 3), .ref (ad 4)])), (ad 1, .inl (cI, 81, .inl (nF sm))), (ad 2, .inl (cI, 81, .inl (nF pr))), (ad 3, .inl (cI, 9, .inl (nF op))), (ad 4, .inl (cI, 9, .inl (nF iv))), (ad 5, .inr (3, [.ref (ad 0), .int (nI n), .ref (ad 6), .ref (ad 7)])), (ad 6, .inl (cI, 273, .inl (nF tr))), (ad 7, .inl (cI, 910, .inl (nF ro)))] s.heap.size = A at hD ⊢
  have hA : ∀ q : Nat, s.heap.size ≤ q → A q := fun q h => by rw [← hAe]; exact Or.inr h
  have hS : va_S A s.heap s.heap [] := va_S.rf
  have hP : va_P D vwCl [(ad 0, .inr (1, [.int (nI q), .ref (ad 1), .ref (ad 2), .ref (ad 3), .ref (ad 4)])), (ad 1, .inl (cI, 81, .inl (nF sm))), (ad 2, .inl (cI, 81, .inl (nF pr))), (ad 3, .inl (cI, 9, .inl (nF op))), (ad 4, .inl (cI, 9, .inl (nF iv))), (ad 5, .inr (3, [.ref (ad 0), .int (nI n), .ref (ad 6), .ref (ad 7)])), (ad 6, .inl (cI, 273, .inl (nF tr))), (ad 7, .inl (cI, 910, .inl (nF ro)))] s.heap := hP
  have hf18 := hts (.fieldLink RX3 18 "FinitePlanes$Plane" "field" "LFinitePlanes$Field;") (by decide +kernel)
  have hf25 := hN.use (w := .fieldLinkNest RX3 25 "FinitePlanes$Field" "q" "I" "FinitePlanes") (by decide +kernel) (A := [.ref (ad 5)].toArray)
  have hf31 := hts (.fieldLink RX3 31 "FinitePlanes$Plane" "n" "I") (by decide +kernel)
  have hiX1 : ∀ w ∈ u_ws RX1 TX1 5, w ∈ wsX3_build := by decide +kernel
  have hiX3 : ∀ w ∈ u_ws RX3 TX3 4, w ∈ wsX3_build := by decide +kernel
  have hl := lv_entry ([.ref (ad 5)]) (n := 4) (Nat.le_of_ble_eq_true rfl)
  rw [lg_entry_eq]
  generalize (lg_sl ([.ref (ad 5)]) ++ List.replicate (4 - (lg_sl ([.ref (ad 5)])).length) Slot.unset).toArray = ls at hl ⊢
  have hl : lv_has ls 4 [(0, .ref (ad 5))] := hl
  have hq2 := qs_le hF.1
  have hn2 := nn_le hF.1
  refine lv_aload_n hx hb dX3_build_0 rfl (lv_at hl 0 rfl) ?_
  refine va_get (D := D) (ci := 3) (v := .ref (ad 0)) (C := RX3) (T := TX3) (N := 4) hx hb hts hiX3 hown hK hP 5 rfl rfl 0 (by decide) hf18 (fun _ h9 => h9) rfl dX3_build_1 ?_
  refine va_getN (D := D) (ci := 1) (v := .int (nI q)) (C := RX1) (T := TX1) (N := 5) hx hb hts hiX1 hown hK hP 0 rfl rfl 0 (by decide) hf25 (fun _ h9 => h9) rfl dX3_build_4 ?_
  refine lv_istore_n (lv' := [(1, .int (nI q)), (0, .ref (ad 5))]) hx hb dX3_build_7 rfl hl (by decide) rfl (fun ls hl => ?_)
  refine lv_aload_n hx hb dX3_build_8 rfl (lv_at hl 1 rfl) ?_
  refine lv_iload_n hx hb dX3_build_9 rfl (lv_at hl 0 rfl) ?_
  refine lv_iload_n hx hb dX3_build_10 rfl (lv_at hl 0 rfl) ?_
  refine nv_mulE (r := q * q) hx hb rfl dX3_build_11 ?_
  refine lv_iload_n hx hb dX3_build_12 rfl (lv_at hl 0 rfl) ?_
  refine nv_addE (r := (q * q) + q) hx hb rfl dX3_build_13 ?_
  refine lv_iconst (v := nI 1) hx hb dX3_build_14 (by decide) ?_
  refine nv_addE (r := nn q) hx hb rfl dX3_build_15 ?_
  refine va_put (D := D) (ci := 3) (v := .int (nI (nn q))) (ty := .int) (C := RX3) (T := TX3) (N := 4) hx hb hts hiX3 tyX3 tyX3_ok nmX3 hown hK hP hD hS 5 rfl rfl 1 (by decide) hf31 (fun _ h9 => h9) rfl (by decide +kernel) rfl rfl (Nat.le_of_ble_eq_true rfl) dX3_build_16 (fun H locs hP hD hS => ?_)
  have hP : va_P D vwCl [(ad 0, .inr (1, [.int (nI q), .ref (ad 1), .ref (ad 2), .ref (ad 3), .ref (ad 4)])), (ad 1, .inl (cI, 81, .inl (nF sm))), (ad 2, .inl (cI, 81, .inl (nF pr))), (ad 3, .inl (cI, 9, .inl (nF op))), (ad 4, .inl (cI, 9, .inl (nF iv))), (ad 5, .inr (3, [.ref (ad 0), .int (nI (nn q)), .ref (ad 6), .ref (ad 7)])), (ad 6, .inl (cI, 273, .inl (nF tr))), (ad 7, .inl (cI, 910, .inl (nF ro)))] H := hP
  have hD : va_D A [(ad 0, .inr (1, [.int (nI q), .ref (ad 1), .ref (ad 2), .ref (ad 3), .ref (ad 4)])), (ad 1, .inl (cI, 81, .inl (nF sm))), (ad 2, .inl (cI, 81, .inl (nF pr))), (ad 3, .inl (cI, 9, .inl (nF op))), (ad 4, .inl (cI, 9, .inl (nF iv))), (ad 5, .inr (3, [.ref (ad 0), .int (nI (nn q)), .ref (ad 6), .ref (ad 7)])), (ad 6, .inl (cI, 273, .inl (nF tr))), (ad 7, .inl (cI, 910, .inl (nF ro)))] := hD
  refine lv_aload_n hx hb dX3_build_19 rfl (lv_at hl 1 rfl) ?_
  refine lv_iconst (v := nI 0) hx hb dX3_build_20 (by decide) ?_
  refine lv_iconst (v := nI 0) hx hb dX3_build_21 (by decide) ?_
  refine lv_iconst (v := nI 0) hx hb dX3_build_22 (by decide) ?_
  refine lv_iconst (v := nI 1) hx hb dX3_build_23 (by decide) ?_
  refine ctW_V (As := [.int (nI 0), .int (nI 0), .int (nI 0), .int (nI 1)]) (rest := []) (wr := [(ad 0, .inr (1, [.int (nI q), .ref (ad 1), .ref (ad 2), .ref (ad 3), .ref (ad 4)])), (ad 1, .inl (cI, 81, .inl (nF sm))), (ad 2, .inl (cI, 81, .inl (nF pr))), (ad 3, .inl (cI, 9, .inl (nF op))), (ad 4, .inl (cI, 9, .inl (nF iv))), (ad 7, .inl (cI, 910, .inl (nF ro)))]) ⟨hx, hb, hml, hown, hts⟩ (c_X3_setTriple l D cI cZ ad (nn q) tr 0 0 0 1 (by omega)) (cwV 4 hts gX3_build_X3_setTriple rfl rfl rfl hdV_X3_setTriple ⟨Nat.le_of_ble_eq_true rfl, Nat.le_of_ble_eq_true rfl⟩) hK hN hP hD hS hA [5, 6] [0, 1, 2, 3, 4, 7] rfl rfl rfl (by decide) (by decide) (by decide) 5 3 rfl rfl rfl hl.1 rfl (Nat.le_of_ble_eq_true rfl) ⟨Nat.zero_le _, Nat.zero_le _⟩ dX3_build_24 (fun _ H locs hu24 hP hD hS => ?_)
  try dsimp only at hu24
  have hP : va_P D vwCl [(ad 0, .inr (1, [.int (nI q), .ref (ad 1), .ref (ad 2), .ref (ad 3), .ref (ad 4)])), (ad 1, .inl (cI, 81, .inl (nF sm))), (ad 2, .inl (cI, 81, .inl (nF pr))), (ad 3, .inl (cI, 9, .inl (nF op))), (ad 4, .inl (cI, 9, .inl (nF iv))), (ad 5, .inr (3, [.ref (ad 0), .int (nI (nn q)), .ref (ad 6), .ref (ad 7)])), (ad 6, .inl (cI, 273, .inl (nF (upN (upN (upN tr (3 * 0) 0) (3 * 0 + 1) 0) (3 * 0 + 2) 1)))), (ad 7, .inl (cI, 910, .inl (nF ro)))] H := hP.sub [0, 1, 2, 3, 4, 6, 7, 5] rfl
  have hD : va_D A [(ad 0, .inr (1, [.int (nI q), .ref (ad 1), .ref (ad 2), .ref (ad 3), .ref (ad 4)])), (ad 1, .inl (cI, 81, .inl (nF sm))), (ad 2, .inl (cI, 81, .inl (nF pr))), (ad 3, .inl (cI, 9, .inl (nF op))), (ad 4, .inl (cI, 9, .inl (nF iv))), (ad 5, .inr (3, [.ref (ad 0), .int (nI (nn q)), .ref (ad 6), .ref (ad 7)])), (ad 6, .inl (cI, 273, .inl (nF (upN (upN (upN tr (3 * 0) 0) (3 * 0 + 1) 0) (3 * 0 + 2) 1)))), (ad 7, .inl (cI, 910, .inl (nF ro)))] := hD.sub [0, 1, 2, 3, 4, 6, 7, 5] (by decide) rfl
  refine W.eq (g2 := F0 m 27 ls []) rfl ?_
  refine lv_iconst (v := nI 0) hx hb dX3_build_27 (by decide) ?_
  refine lv_istore_n (lv' := [(2, .int (nI 0)), (1, .int (nI q)), (0, .ref (ad 5))]) hx hb dX3_build_28 rfl hl (by decide) rfl (fun ls hl => ?_)
  have L29 : ∀ (N29 : Nat) (z : Nat) (t1 : Nat → Nat) (ls : Array Slot) (H : Heap) (locs : List Loc), q - z < N29 → (z ≤ q) → (TPK q (1 + z) t1) → lv_has ls 4 [(0, .ref (ad 5)), (1, .int (nI q)), (2, .int (nI z))] → va_P D vwCl [(ad 0, .inr (1, [.int (nI q), .ref (ad 1), .ref (ad 2), .ref (ad 3), .ref (ad 4)])), (ad 1, .inl (cI, 81, .inl (nF sm))), (ad 2, .inl (cI, 81, .inl (nF pr))), (ad 3, .inl (cI, 9, .inl (nF op))), (ad 4, .inl (cI, 9, .inl (nF iv))), (ad 5, .inr (3, [.ref (ad 0), .int (nI (nn q)), .ref (ad 6), .ref (ad 7)])), (ad 6, .inl (cI, 273, .inl (nF t1))), (ad 7, .inl (cI, 910, .inl (nF ro)))] H → va_D A [(ad 0, .inr (1, [.int (nI q), .ref (ad 1), .ref (ad 2), .ref (ad 3), .ref (ad 4)])), (ad 1, .inl (cI, 81, .inl (nF sm))), (ad 2, .inl (cI, 81, .inl (nF pr))), (ad 3, .inl (cI, 9, .inl (nF op))), (ad 4, .inl (cI, 9, .inl (nF iv))), (ad 5, .inr (3, [.ref (ad 0), .int (nI (nn q)), .ref (ad 6), .ref (ad 7)])), (ad 6, .inl (cI, 273, .inl (nF t1))), (ad 7, .inl (cI, 910, .inl (nF ro)))] → va_S A s.heap H locs → WG p l e wsX3_build { frames := 3, cells := 0, slots := 0, locals := 73 } s m [.ref (ad 5)] below meth c H locs (CQ (S := (Nat → Nat) × (Nat → Nat)) D (fun u => (fun (tr3 : Nat → Nat) (ro3 : Nat → Nat) => TOK q tr3 ∧ ROK q ro3) u.1 u.2) (fun u => (fun (tr3 : Nat → Nat) (ro3 : Nat → Nat) => none) u.1 u.2) (fun u => (fun (tr3 : Nat → Nat) (ro3 : Nat → Nat) => [(ad 0, .inr (1, [.int (nI q), .ref (ad 1), .ref (ad 2), .ref (ad 3), .ref (ad 4)])), (ad 1, .inl (cI, 81, .inl (nF sm))), (ad 2, .inl (cI, 81, .inl (nF pr))), (ad 3, .inl (cI, 9, .inl (nF op))), (ad 4, .inl (cI, 9, .inl (nF iv))), (ad 5, .inr (3, [.ref (ad 0), .int (nI (nn q)), .ref (ad 6), .ref (ad 7)])), (ad 6, .inl (cI, 273, .inl (nF tr3))), (ad 7, .inl (cI, 910, .inl (nF ro3)))]) u.1 u.2) A) A 29 ls [] := by
    intro N29
    induction N29 with
    | zero => intro z t1 ls H locs hN; exact absurd hN (Nat.not_lt_zero _)
    | succ N29 ih29 =>
      intro z t1 ls H locs hN29 k_z k_t hl hP hD hS
      refine lv_iload_n hx hb dX3_build_29 rfl (lv_at hl 2 rfl) ?_
      refine lv_iload_n hx hb dX3_build_30 rfl (lv_at hl 1 rfl) ?_
      refine nv_icmp_ge (tgt := 50) hx hb (by omega) (by omega) dX3_build_31 (by decide) (fun c31 => ?_) (fun c31 => ?_)
      · refine lv_iconst (v := nI 0) hx hb dX3_build_50 (by decide) ?_
        refine lv_istore_n (lv' := [(2, .int (nI 0)), (0, .ref (ad 5)), (1, .int (nI q))]) hx hb dX3_build_51 rfl hl (by decide) rfl (fun ls hl => ?_)
        have L52 : ∀ (N52 : Nat) (y : Nat) (t2 : Nat → Nat) (ls : Array Slot) (H : Heap) (locs : List Loc), q - y < N52 → (y ≤ q) → (TPK q (1 + q + y * q) t2) → lv_has ls 4 [(0, .ref (ad 5)), (1, .int (nI q)), (2, .int (nI y))] → va_P D vwCl [(ad 0, .inr (1, [.int (nI q), .ref (ad 1), .ref (ad 2), .ref (ad 3), .ref (ad 4)])), (ad 1, .inl (cI, 81, .inl (nF sm))), (ad 2, .inl (cI, 81, .inl (nF pr))), (ad 3, .inl (cI, 9, .inl (nF op))), (ad 4, .inl (cI, 9, .inl (nF iv))), (ad 5, .inr (3, [.ref (ad 0), .int (nI (nn q)), .ref (ad 6), .ref (ad 7)])), (ad 6, .inl (cI, 273, .inl (nF t2))), (ad 7, .inl (cI, 910, .inl (nF ro)))] H → va_D A [(ad 0, .inr (1, [.int (nI q), .ref (ad 1), .ref (ad 2), .ref (ad 3), .ref (ad 4)])), (ad 1, .inl (cI, 81, .inl (nF sm))), (ad 2, .inl (cI, 81, .inl (nF pr))), (ad 3, .inl (cI, 9, .inl (nF op))), (ad 4, .inl (cI, 9, .inl (nF iv))), (ad 5, .inr (3, [.ref (ad 0), .int (nI (nn q)), .ref (ad 6), .ref (ad 7)])), (ad 6, .inl (cI, 273, .inl (nF t2))), (ad 7, .inl (cI, 910, .inl (nF ro)))] → va_S A s.heap H locs → WG p l e wsX3_build { frames := 3, cells := 0, slots := 0, locals := 73 } s m [.ref (ad 5)] below meth c H locs (CQ (S := (Nat → Nat) × (Nat → Nat)) D (fun u => (fun (tr3 : Nat → Nat) (ro3 : Nat → Nat) => TOK q tr3 ∧ ROK q ro3) u.1 u.2) (fun u => (fun (tr3 : Nat → Nat) (ro3 : Nat → Nat) => none) u.1 u.2) (fun u => (fun (tr3 : Nat → Nat) (ro3 : Nat → Nat) => [(ad 0, .inr (1, [.int (nI q), .ref (ad 1), .ref (ad 2), .ref (ad 3), .ref (ad 4)])), (ad 1, .inl (cI, 81, .inl (nF sm))), (ad 2, .inl (cI, 81, .inl (nF pr))), (ad 3, .inl (cI, 9, .inl (nF op))), (ad 4, .inl (cI, 9, .inl (nF iv))), (ad 5, .inr (3, [.ref (ad 0), .int (nI (nn q)), .ref (ad 6), .ref (ad 7)])), (ad 6, .inl (cI, 273, .inl (nF tr3))), (ad 7, .inl (cI, 910, .inl (nF ro3)))]) u.1 u.2) A) A 52 ls [] := by
          intro N52
          induction N52 with
          | zero => intro y t2 ls H locs hN; exact absurd hN (Nat.not_lt_zero _)
          | succ N52 ih52 =>
            intro y t2 ls H locs hN52 k_y k_u hl hP hD hS
            refine lv_iload_n hx hb dX3_build_52 rfl (lv_at hl 2 rfl) ?_
            refine lv_iload_n hx hb dX3_build_53 rfl (lv_at hl 1 rfl) ?_
            refine nv_icmp_ge (tgt := 92) hx hb (by omega) (by omega) dX3_build_54 (by decide) (fun c54 => ?_) (fun c54 => ?_)
            · have hT : TOK q t2 := fun i k hi hk => k_u i k (by rw [show y = q by omega]; omega) hk
              refine lv_iconst (v := nI 0) hx hb dX3_build_92 (by decide) ?_
              refine lv_istore_n (lv' := [(2, .int (nI 0)), (0, .ref (ad 5)), (1, .int (nI q))]) hx hb dX3_build_93 rfl hl (by decide) rfl (fun ls hl => ?_)
              have L94 : ∀ (N94 : Nat) (i : Nat) (r1 : Nat → Nat) (ls : Array Slot) (H : Heap) (locs : List Loc), nn q - i < N94 → (i ≤ nn q) → (ROKk q i r1) → lv_has ls 4 [(0, .ref (ad 5)), (1, .int (nI q)), (2, .int (nI i))] → va_P D vwCl [(ad 0, .inr (1, [.int (nI q), .ref (ad 1), .ref (ad 2), .ref (ad 3), .ref (ad 4)])), (ad 1, .inl (cI, 81, .inl (nF sm))), (ad 2, .inl (cI, 81, .inl (nF pr))), (ad 3, .inl (cI, 9, .inl (nF op))), (ad 4, .inl (cI, 9, .inl (nF iv))), (ad 5, .inr (3, [.ref (ad 0), .int (nI (nn q)), .ref (ad 6), .ref (ad 7)])), (ad 6, .inl (cI, 273, .inl (nF t2))), (ad 7, .inl (cI, 910, .inl (nF r1)))] H → va_D A [(ad 0, .inr (1, [.int (nI q), .ref (ad 1), .ref (ad 2), .ref (ad 3), .ref (ad 4)])), (ad 1, .inl (cI, 81, .inl (nF sm))), (ad 2, .inl (cI, 81, .inl (nF pr))), (ad 3, .inl (cI, 9, .inl (nF op))), (ad 4, .inl (cI, 9, .inl (nF iv))), (ad 5, .inr (3, [.ref (ad 0), .int (nI (nn q)), .ref (ad 6), .ref (ad 7)])), (ad 6, .inl (cI, 273, .inl (nF t2))), (ad 7, .inl (cI, 910, .inl (nF r1)))] → va_S A s.heap H locs → WG p l e wsX3_build { frames := 3, cells := 0, slots := 0, locals := 73 } s m [.ref (ad 5)] below meth c H locs (CQ (S := (Nat → Nat) × (Nat → Nat)) D (fun u => (fun (tr3 : Nat → Nat) (ro3 : Nat → Nat) => TOK q tr3 ∧ ROK q ro3) u.1 u.2) (fun u => (fun (tr3 : Nat → Nat) (ro3 : Nat → Nat) => none) u.1 u.2) (fun u => (fun (tr3 : Nat → Nat) (ro3 : Nat → Nat) => [(ad 0, .inr (1, [.int (nI q), .ref (ad 1), .ref (ad 2), .ref (ad 3), .ref (ad 4)])), (ad 1, .inl (cI, 81, .inl (nF sm))), (ad 2, .inl (cI, 81, .inl (nF pr))), (ad 3, .inl (cI, 9, .inl (nF op))), (ad 4, .inl (cI, 9, .inl (nF iv))), (ad 5, .inr (3, [.ref (ad 0), .int (nI (nn q)), .ref (ad 6), .ref (ad 7)])), (ad 6, .inl (cI, 273, .inl (nF tr3))), (ad 7, .inl (cI, 910, .inl (nF ro3)))]) u.1 u.2) A) A 94 ls [] := by
                intro N94
                induction N94 with
                | zero => intro i r1 ls H locs hN; exact absurd hN (Nat.not_lt_zero _)
                | succ N94 ih94 =>
                  intro i r1 ls H locs hN94 k_i k_r hl hP hD hS
                  refine lv_iload_n hx hb dX3_build_94 rfl (lv_at hl 2 rfl) ?_
                  refine lv_aload_n hx hb dX3_build_95 rfl (lv_at hl 0 rfl) ?_
                  refine va_get (D := D) (ci := 3) (v := .int (nI (nn q))) (C := RX3) (T := TX3) (N := 4) hx hb hts hiX3 hown hK hP 5 rfl rfl 1 (by decide) hf31 (fun _ h9 => h9) rfl dX3_build_96 ?_
                  refine nv_icmp_ge (tgt := 113) hx hb (by omega) (by omega) dX3_build_99 (by decide) (fun c99 => ?_) (fun c99 => ?_)
                  · exact ctW_retV (t2, r1) hx hb hr dX3_build_113 hlocks hS hP hD (by dsimp only; exact ⟨hT, by rw [show i = nn q by omega] at k_r; exact k_r⟩) rfl
                  · refine lv_aload_n hx hb dX3_build_102 rfl (lv_at hl 0 rfl) ?_
                    refine lv_iload_n hx hb dX3_build_103 rfl (lv_at hl 2 rfl) ?_
                    refine ctW_V (As := [.int (nI i)]) (rest := []) (wr := []) ⟨hx, hb, hml, hown, hts⟩ (c_X3_listRow l D cI cZ ad q sm pr op iv hF t2 r1 hT i (by omega)) (cwV 1 hts gX3_build_X3_listRow rfl rfl rfl hdV_X3_listRow ⟨Nat.le_of_ble_eq_true rfl, Nat.le_of_ble_eq_true rfl⟩) hK hN hP hD hS hA [0, 1, 2, 3, 4, 5, 6, 7] [] rfl rfl rfl (by decide) (by decide) (by decide) 5 3 rfl rfl rfl hl.1 rfl (Nat.le_of_ble_eq_true rfl) ⟨Nat.zero_le _, Nat.zero_le _⟩ dX3_build_104 (fun ro_1 H locs hu104 hP hD hS => ?_)
                    try dsimp only at hu104
                    have hP : va_P D vwCl [(ad 0, .inr (1, [.int (nI q), .ref (ad 1), .ref (ad 2), .ref (ad 3), .ref (ad 4)])), (ad 1, .inl (cI, 81, .inl (nF sm))), (ad 2, .inl (cI, 81, .inl (nF pr))), (ad 3, .inl (cI, 9, .inl (nF op))), (ad 4, .inl (cI, 9, .inl (nF iv))), (ad 5, .inr (3, [.ref (ad 0), .int (nI (nn q)), .ref (ad 6), .ref (ad 7)])), (ad 6, .inl (cI, 273, .inl (nF t2))), (ad 7, .inl (cI, 910, .inl (nF ro_1)))] H := hP.sub [0, 1, 2, 3, 4, 5, 6, 7] rfl
                    have hD : va_D A [(ad 0, .inr (1, [.int (nI q), .ref (ad 1), .ref (ad 2), .ref (ad 3), .ref (ad 4)])), (ad 1, .inl (cI, 81, .inl (nF sm))), (ad 2, .inl (cI, 81, .inl (nF pr))), (ad 3, .inl (cI, 9, .inl (nF op))), (ad 4, .inl (cI, 9, .inl (nF iv))), (ad 5, .inr (3, [.ref (ad 0), .int (nI (nn q)), .ref (ad 6), .ref (ad 7)])), (ad 6, .inl (cI, 273, .inl (nF t2))), (ad 7, .inl (cI, 910, .inl (nF ro_1)))] := hD.sub [0, 1, 2, 3, 4, 5, 6, 7] (by decide) rfl
                    refine W.eq (g2 := F0 m 107 ls []) rfl ?_
                    refine lv_iinc (v := nI (i + 1)) (lv' := [(2, .int (nI (i + 1))), (0, .ref (ad 5)), (1, .int (nI q))]) hx hb dX3_build_107 hl (k := 2) rfl (nI_inc i) (by decide) rfl (fun ls hl => ?_)
                    refine lv_goto (tgt := 94) hx hb dX3_build_110 (by decide) ?_
                    exact ih94 (i + 1) ro_1 ls _ _ (by omega) (by omega) (ROKk_step (by omega) k_r hu104.1 hu104.2) (lv_sub hl [1, 2, 0] rfl) hP hD hS
              exact L94 (nn q - 0 + 1) 0 ro ls _ _ (by omega) (Nat.zero_le _) (fun l _ h => absurd h (Nat.not_lt_zero l)) (lv_sub hl [1, 2, 0] rfl) hP hD hS
            · refine lv_iconst (v := nI 0) hx hb dX3_build_57 (by decide) ?_
              refine lv_istore_n (lv' := [(3, .int (nI 0)), (0, .ref (ad 5)), (1, .int (nI q)), (2, .int (nI y))]) hx hb dX3_build_58 rfl hl (by decide) rfl (fun ls hl => ?_)
              have L59 : ∀ (N59 : Nat) (z : Nat) (t3 : Nat → Nat) (ls : Array Slot) (H : Heap) (locs : List Loc), q - z < N59 → (z ≤ q) → (TPK q (1 + q + y * q + z) t3) → lv_has ls 4 [(0, .ref (ad 5)), (1, .int (nI q)), (2, .int (nI y)), (3, .int (nI z))] → va_P D vwCl [(ad 0, .inr (1, [.int (nI q), .ref (ad 1), .ref (ad 2), .ref (ad 3), .ref (ad 4)])), (ad 1, .inl (cI, 81, .inl (nF sm))), (ad 2, .inl (cI, 81, .inl (nF pr))), (ad 3, .inl (cI, 9, .inl (nF op))), (ad 4, .inl (cI, 9, .inl (nF iv))), (ad 5, .inr (3, [.ref (ad 0), .int (nI (nn q)), .ref (ad 6), .ref (ad 7)])), (ad 6, .inl (cI, 273, .inl (nF t3))), (ad 7, .inl (cI, 910, .inl (nF ro)))] H → va_D A [(ad 0, .inr (1, [.int (nI q), .ref (ad 1), .ref (ad 2), .ref (ad 3), .ref (ad 4)])), (ad 1, .inl (cI, 81, .inl (nF sm))), (ad 2, .inl (cI, 81, .inl (nF pr))), (ad 3, .inl (cI, 9, .inl (nF op))), (ad 4, .inl (cI, 9, .inl (nF iv))), (ad 5, .inr (3, [.ref (ad 0), .int (nI (nn q)), .ref (ad 6), .ref (ad 7)])), (ad 6, .inl (cI, 273, .inl (nF t3))), (ad 7, .inl (cI, 910, .inl (nF ro)))] → va_S A s.heap H locs → WG p l e wsX3_build { frames := 3, cells := 0, slots := 0, locals := 73 } s m [.ref (ad 5)] below meth c H locs (CQ (S := (Nat → Nat) × (Nat → Nat)) D (fun u => (fun (tr3 : Nat → Nat) (ro3 : Nat → Nat) => TOK q tr3 ∧ ROK q ro3) u.1 u.2) (fun u => (fun (tr3 : Nat → Nat) (ro3 : Nat → Nat) => none) u.1 u.2) (fun u => (fun (tr3 : Nat → Nat) (ro3 : Nat → Nat) => [(ad 0, .inr (1, [.int (nI q), .ref (ad 1), .ref (ad 2), .ref (ad 3), .ref (ad 4)])), (ad 1, .inl (cI, 81, .inl (nF sm))), (ad 2, .inl (cI, 81, .inl (nF pr))), (ad 3, .inl (cI, 9, .inl (nF op))), (ad 4, .inl (cI, 9, .inl (nF iv))), (ad 5, .inr (3, [.ref (ad 0), .int (nI (nn q)), .ref (ad 6), .ref (ad 7)])), (ad 6, .inl (cI, 273, .inl (nF tr3))), (ad 7, .inl (cI, 910, .inl (nF ro3)))]) u.1 u.2) A) A 59 ls [] := by
                intro N59
                induction N59 with
                | zero => intro z t3 ls H locs hN; exact absurd hN (Nat.not_lt_zero _)
                | succ N59 ih59 =>
                  intro z t3 ls H locs hN59 k_w k_v hl hP hD hS
                  refine lv_iload_n hx hb dX3_build_59 rfl (lv_at hl 3 rfl) ?_
                  refine lv_iload_n hx hb dX3_build_60 rfl (lv_at hl 1 rfl) ?_
                  refine nv_icmp_ge (tgt := 86) hx hb (by omega) (by omega) dX3_build_61 (by decide) (fun c61 => ?_) (fun c61 => ?_)
                  · refine lv_iinc (v := nI (y + 1)) (lv' := [(2, .int (nI (y + 1))), (0, .ref (ad 5)), (1, .int (nI q)), (3, .int (nI z))]) hx hb dX3_build_86 hl (k := 2) rfl (nI_inc y) (by decide) rfl (fun ls hl => ?_)
                    refine lv_goto (tgt := 52) hx hb dX3_build_89 (by decide) ?_
                    exact ih52 (y + 1) t3 ls _ _ (by omega) (by omega) (by rw [Nat.succ_mul]; rw [show z = q by omega] at k_v; rw [← Nat.add_assoc]; exact k_v) (lv_sub hl [1, 2, 0] rfl) hP hD hS
                  · have hyz := yz_lt c54 c61
                    refine lv_aload_n hx hb dX3_build_64 rfl (lv_at hl 0 rfl) ?_
                    refine lv_iconst (v := nI 1) hx hb dX3_build_65 (by decide) ?_
                    refine lv_iload_n hx hb dX3_build_66 rfl (lv_at hl 1 rfl) ?_
                    refine nv_addE (r := 1 + q) hx hb rfl dX3_build_67 ?_
                    refine lv_iload_n hx hb dX3_build_68 rfl (lv_at hl 2 rfl) ?_
                    refine lv_iload_n hx hb dX3_build_69 rfl (lv_at hl 1 rfl) ?_
                    refine nv_mulE (r := y * q) hx hb rfl dX3_build_70 ?_
                    refine nv_addE (r := (1 + q) + (y * q)) hx hb rfl dX3_build_71 ?_
                    refine lv_iload_n hx hb dX3_build_72 rfl (lv_at hl 3 rfl) ?_
                    refine nv_addE (r := ((1 + q) + (y * q)) + z) hx hb rfl dX3_build_73 ?_
                    refine lv_iconst (v := nI 1) hx hb dX3_build_74 (by decide) ?_
                    refine lv_iload_n hx hb dX3_build_75 rfl (lv_at hl 2 rfl) ?_
                    refine lv_iload_n hx hb dX3_build_76 rfl (lv_at hl 3 rfl) ?_
                    refine ctW_V (As := [.int (nI (((1 + q) + (y * q)) + z)), .int (nI 1), .int (nI y), .int (nI z)]) (rest := []) (wr := [(ad 0, .inr (1, [.int (nI q), .ref (ad 1), .ref (ad 2), .ref (ad 3), .ref (ad 4)])), (ad 1, .inl (cI, 81, .inl (nF sm))), (ad 2, .inl (cI, 81, .inl (nF pr))), (ad 3, .inl (cI, 9, .inl (nF op))), (ad 4, .inl (cI, 9, .inl (nF iv))), (ad 7, .inl (cI, 910, .inl (nF ro)))]) ⟨hx, hb, hml, hown, hts⟩ (c_X3_setTriple l D cI cZ ad (nn q) t3 (((1 + q) + (y * q)) + z) 1 y z (by omega)) (cwV 4 hts gX3_build_X3_setTriple rfl rfl rfl hdV_X3_setTriple ⟨Nat.le_of_ble_eq_true rfl, Nat.le_of_ble_eq_true rfl⟩) hK hN hP hD hS hA [5, 6] [0, 1, 2, 3, 4, 7] rfl rfl rfl (by decide) (by decide) (by decide) 5 3 rfl rfl rfl hl.1 rfl (Nat.le_of_ble_eq_true rfl) ⟨Nat.zero_le _, Nat.zero_le _⟩ dX3_build_77 (fun _ H locs hu77 hP hD hS => ?_)
                    try dsimp only at hu77
                    have hP : va_P D vwCl [(ad 0, .inr (1, [.int (nI q), .ref (ad 1), .ref (ad 2), .ref (ad 3), .ref (ad 4)])), (ad 1, .inl (cI, 81, .inl (nF sm))), (ad 2, .inl (cI, 81, .inl (nF pr))), (ad 3, .inl (cI, 9, .inl (nF op))), (ad 4, .inl (cI, 9, .inl (nF iv))), (ad 5, .inr (3, [.ref (ad 0), .int (nI (nn q)), .ref (ad 6), .ref (ad 7)])), (ad 6, .inl (cI, 273, .inl (nF (upN (upN (upN t3 (3 * (((1 + q) + (y * q)) + z)) 1) (3 * (((1 + q) + (y * q)) + z) + 1) y) (3 * (((1 + q) + (y * q)) + z) + 2) z)))), (ad 7, .inl (cI, 910, .inl (nF ro)))] H := hP.sub [0, 1, 2, 3, 4, 6, 7, 5] rfl
                    have hD : va_D A [(ad 0, .inr (1, [.int (nI q), .ref (ad 1), .ref (ad 2), .ref (ad 3), .ref (ad 4)])), (ad 1, .inl (cI, 81, .inl (nF sm))), (ad 2, .inl (cI, 81, .inl (nF pr))), (ad 3, .inl (cI, 9, .inl (nF op))), (ad 4, .inl (cI, 9, .inl (nF iv))), (ad 5, .inr (3, [.ref (ad 0), .int (nI (nn q)), .ref (ad 6), .ref (ad 7)])), (ad 6, .inl (cI, 273, .inl (nF (upN (upN (upN t3 (3 * (((1 + q) + (y * q)) + z)) 1) (3 * (((1 + q) + (y * q)) + z) + 1) y) (3 * (((1 + q) + (y * q)) + z) + 2) z)))), (ad 7, .inl (cI, 910, .inl (nF ro)))] := hD.sub [0, 1, 2, 3, 4, 6, 7, 5] (by decide) rfl
                    refine W.eq (g2 := F0 m 80 ls []) rfl ?_
                    refine lv_iinc (v := nI (z + 1)) (lv' := [(3, .int (nI (z + 1))), (0, .ref (ad 5)), (1, .int (nI q)), (2, .int (nI y))]) hx hb dX3_build_80 hl (k := 3) rfl (nI_inc z) (by decide) rfl (fun ls hl => ?_)
                    refine lv_goto (tgt := 59) hx hb dX3_build_83 (by decide) ?_
                    exact ih59 (z + 1) (upN (upN (upN t3 (3 * (((1 + q) + (y * q)) + z)) 1) (3 * (((1 + q) + (y * q)) + z) + 1) y) (3 * (((1 + q) + (y * q)) + z) + 2) z) ls _ _ (by omega) (by omega) (TPK_step k_v (pt_hi c61).1 (pt_hi c61).2.1 (pt_hi c61).2.2) (lv_sub hl [1, 2, 3, 0] rfl) hP hD hS
              exact L59 (q - 0 + 1) 0 t2 ls _ _ (by omega) (Nat.zero_le _) k_u (lv_sub hl [1, 2, 3, 0] rfl) hP hD hS
        exact L52 (q - 0 + 1) 0 t1 ls _ _ (by omega) (Nat.zero_le _) (by rw [show z = q by omega] at k_t; rw [Nat.zero_mul]; exact k_t) (lv_sub hl [1, 2, 0] rfl) hP hD hS
      · refine lv_aload_n hx hb dX3_build_34 rfl (lv_at hl 0 rfl) ?_
        refine lv_iconst (v := nI 1) hx hb dX3_build_35 (by decide) ?_
        refine lv_iload_n hx hb dX3_build_36 rfl (lv_at hl 2 rfl) ?_
        refine nv_addE (r := 1 + z) hx hb rfl dX3_build_37 ?_
        refine lv_iconst (v := nI 0) hx hb dX3_build_38 (by decide) ?_
        refine lv_iconst (v := nI 1) hx hb dX3_build_39 (by decide) ?_
        refine lv_iload_n hx hb dX3_build_40 rfl (lv_at hl 2 rfl) ?_
        refine ctW_V (As := [.int (nI (1 + z)), .int (nI 0), .int (nI 1), .int (nI z)]) (rest := []) (wr := [(ad 0, .inr (1, [.int (nI q), .ref (ad 1), .ref (ad 2), .ref (ad 3), .ref (ad 4)])), (ad 1, .inl (cI, 81, .inl (nF sm))), (ad 2, .inl (cI, 81, .inl (nF pr))), (ad 3, .inl (cI, 9, .inl (nF op))), (ad 4, .inl (cI, 9, .inl (nF iv))), (ad 7, .inl (cI, 910, .inl (nF ro)))]) ⟨hx, hb, hml, hown, hts⟩ (c_X3_setTriple l D cI cZ ad (nn q) t1 (1 + z) 0 1 z (by omega)) (cwV 4 hts gX3_build_X3_setTriple rfl rfl rfl hdV_X3_setTriple ⟨Nat.le_of_ble_eq_true rfl, Nat.le_of_ble_eq_true rfl⟩) hK hN hP hD hS hA [5, 6] [0, 1, 2, 3, 4, 7] rfl rfl rfl (by decide) (by decide) (by decide) 5 3 rfl rfl rfl hl.1 rfl (Nat.le_of_ble_eq_true rfl) ⟨Nat.zero_le _, Nat.zero_le _⟩ dX3_build_41 (fun _ H locs hu41 hP hD hS => ?_)
        try dsimp only at hu41
        have hP : va_P D vwCl [(ad 0, .inr (1, [.int (nI q), .ref (ad 1), .ref (ad 2), .ref (ad 3), .ref (ad 4)])), (ad 1, .inl (cI, 81, .inl (nF sm))), (ad 2, .inl (cI, 81, .inl (nF pr))), (ad 3, .inl (cI, 9, .inl (nF op))), (ad 4, .inl (cI, 9, .inl (nF iv))), (ad 5, .inr (3, [.ref (ad 0), .int (nI (nn q)), .ref (ad 6), .ref (ad 7)])), (ad 6, .inl (cI, 273, .inl (nF (upN (upN (upN t1 (3 * (1 + z)) 0) (3 * (1 + z) + 1) 1) (3 * (1 + z) + 2) z)))), (ad 7, .inl (cI, 910, .inl (nF ro)))] H := hP.sub [0, 1, 2, 3, 4, 6, 7, 5] rfl
        have hD : va_D A [(ad 0, .inr (1, [.int (nI q), .ref (ad 1), .ref (ad 2), .ref (ad 3), .ref (ad 4)])), (ad 1, .inl (cI, 81, .inl (nF sm))), (ad 2, .inl (cI, 81, .inl (nF pr))), (ad 3, .inl (cI, 9, .inl (nF op))), (ad 4, .inl (cI, 9, .inl (nF iv))), (ad 5, .inr (3, [.ref (ad 0), .int (nI (nn q)), .ref (ad 6), .ref (ad 7)])), (ad 6, .inl (cI, 273, .inl (nF (upN (upN (upN t1 (3 * (1 + z)) 0) (3 * (1 + z) + 1) 1) (3 * (1 + z) + 2) z)))), (ad 7, .inl (cI, 910, .inl (nF ro)))] := hD.sub [0, 1, 2, 3, 4, 6, 7, 5] (by decide) rfl
        refine W.eq (g2 := F0 m 44 ls []) rfl ?_
        refine lv_iinc (v := nI (z + 1)) (lv' := [(2, .int (nI (z + 1))), (0, .ref (ad 5)), (1, .int (nI q))]) hx hb dX3_build_44 hl (k := 2) rfl (nI_inc z) (by decide) rfl (fun ls hl => ?_)
        refine lv_goto (tgt := 29) hx hb dX3_build_47 (by decide) ?_
        exact ih29 (z + 1) (upN (upN (upN t1 (3 * (1 + z)) 0) (3 * (1 + z) + 1) 1) (3 * (1 + z) + 2) z) ls _ _ (by omega) (by omega) (TPK_step k_t (pt_mid c31).1 (pt_mid c31).2.1 (pt_mid c31).2.2) (lv_sub hl [1, 2, 0] rfl) hP hD hS
  exact L29 (q - 0 + 1) 0 (upN (upN (upN tr (3 * 0) 0) (3 * 0 + 1) 0) (3 * 0 + 2) 1) ls _ _ (by omega) (Nat.zero_le _) (TPK_step TPK_0 rfl rfl rfl) (lv_sub hl [2, 1, 0] rfl) hP hD hS

set_option maxHeartbeats 4000000 in
set_option maxRecDepth 100000 in
theorem c_X3_tally (l : Launch) (D : va_G) (cI cZ : ClassId) (ad : Nat → Nat) (q : Nat) (sm : Nat → Nat) (pr : Nat → Nat) (op : Nat → Nat) (iv : Nat → Nat) (hF : FOK q sm pr op iv) (tr : Nat → Nat) (ro : Nat → Nat) (hT : TOK q tr) (hR : ROK q ro) (aS : Nat) (S : Nat → Bool) (aO : Nat) (ol : Nat → Nat) : CtW (S := (Nat → Nat)) l yX3_tally wsX3_tally { frames := 1, cells := 0, slots := 0, locals := 22 } D (tyG cI cZ) [.ref (ad 5), .ref aS, .ref aO] [(ad 0, .inr (1, [.int (nI q), .ref (ad 1), .ref (ad 2), .ref (ad 3), .ref (ad 4)])), (ad 1, .inl (cI, 81, .inl (nF sm))), (ad 2, .inl (cI, 81, .inl (nF pr))), (ad 3, .inl (cI, 9, .inl (nF op))), (ad 4, .inl (cI, 9, .inl (nF iv))), (ad 5, .inr (3, [.ref (ad 0), .int (nI (nn q)), .ref (ad 6), .ref (ad 7)])), (ad 6, .inl (cI, 273, .inl (nF tr))), (ad 7, .inl (cI, 910, .inl (nF ro))), (aS, .inl (cZ, 91, .inl (bF S))), (aO, .inl (cI, 91, .inl (nF ol)))] (fun (ol3 : Nat → Nat) => ∀ t, t < nn q → ol3 t = metq q S t) (fun (ol3 : Nat → Nat) => none) (fun (ol3 : Nat → Nat) => [(ad 0, .inr (1, [.int (nI q), .ref (ad 1), .ref (ad 2), .ref (ad 3), .ref (ad 4)])), (ad 1, .inl (cI, 81, .inl (nF sm))), (ad 2, .inl (cI, 81, .inl (nF pr))), (ad 3, .inl (cI, 9, .inl (nF op))), (ad 4, .inl (cI, 9, .inl (nF iv))), (ad 5, .inr (3, [.ref (ad 0), .int (nI (nn q)), .ref (ad 6), .ref (ad 7)])), (ad 6, .inl (cI, 273, .inl (nF tr))), (ad 7, .inl (cI, 910, .inl (nF ro))), (aS, .inl (cZ, 91, .inl (bF S))), (aO, .inl (cI, 91, .inl (nF ol3)))]) := by
  intro sz; refine Met.ofW (cc := cX3_tally) (maxL := 6) (ret := none) (by decide) rfl ?_
  intro p e s m args below meth c s₁ B hml hv
  obtain ⟨rfl, hsz, hP, hK, hD0, hN⟩ := hv
  have hx := B.exec
  have hb := B.bytes
  have hr := B.returns
  have hts := atoms_spec (ws := wsX3_tally) B.pre
  have hown : s.vm.findClass RX3 = some m.cls := findClass_of_methodNamed B.named
  have hlocks := B.notSynchronized
  subst hsz
  have hD := hD0.self (sz := s.heap.size)
  generalize hAe : va_A [(ad 0, .inr (1, [.int (nI q), .ref (ad 1), .ref (ad 2), .ref (ad 3), .ref (ad 4)])), (ad 1, .inl (cI, 81, .inl (nF sm))), (ad 2, .inl (cI, 81, .inl (nF pr))), (ad 3, .inl (cI, 9, .inl (nF op))), (ad 4, .inl (cI, 9, .inl (nF iv))), (ad 5, .inr (3, [.ref (ad 0), .int (nI (nn q)), .ref (ad 6), .ref (ad 7)])), (ad 6, .inl (cI, 273, .inl (nF tr))), (ad 7, .inl (cI, 910, .inl (nF ro))), (aS, .inl (cZ, 91, .inl (bF S))), (aO, .inl (cI, 91, .inl (nF ol)))] s.heap.size = A at hD ⊢
  have hA : ∀ q : Nat, s.heap.size ≤ q → A q := fun q h => by rw [← hAe]; exact Or.inr h
  have hS : va_S A s.heap s.heap [] := va_S.rf
  have hP : va_P D vwCl [(ad 0, .inr (1, [.int (nI q), .ref (ad 1), .ref (ad 2), .ref (ad 3), .ref (ad 4)])), (ad 1, .inl (cI, 81, .inl (nF sm))), (ad 2, .inl (cI, 81, .inl (nF pr))), (ad 3, .inl (cI, 9, .inl (nF op))), (ad 4, .inl (cI, 9, .inl (nF iv))), (ad 5, .inr (3, [.ref (ad 0), .int (nI (nn q)), .ref (ad 6), .ref (ad 7)])), (ad 6, .inl (cI, 273, .inl (nF tr))), (ad 7, .inl (cI, 910, .inl (nF ro))), (aS, .inl (cZ, 91, .inl (bF S))), (aO, .inl (cI, 91, .inl (nF ol)))] s.heap := hP
  have hf18 := hts (.fieldLink RX3 18 "FinitePlanes$Plane" "field" "LFinitePlanes$Field;") (by decide +kernel)
  have hf25 := hN.use (w := .fieldLinkNest RX3 25 "FinitePlanes$Field" "q" "I" "FinitePlanes") (by decide +kernel) (A := [.ref (ad 5), .ref aS, .ref aO].toArray)
  have hf31 := hts (.fieldLink RX3 31 "FinitePlanes$Plane" "n" "I") (by decide +kernel)
  have hiX1 : ∀ w ∈ u_ws RX1 TX1 5, w ∈ wsX3_tally := by decide +kernel
  have hiX3 : ∀ w ∈ u_ws RX3 TX3 4, w ∈ wsX3_tally := by decide +kernel
  have hl := lv_entry ([.ref (ad 5), .ref aS, .ref aO]) (n := 6) (Nat.le_of_ble_eq_true rfl)
  rw [lg_entry_eq]
  generalize (lg_sl ([.ref (ad 5), .ref aS, .ref aO]) ++ List.replicate (6 - (lg_sl ([.ref (ad 5), .ref aS, .ref aO])).length) Slot.unset).toArray = ls at hl ⊢
  have hl : lv_has ls 6 [(0, .ref (ad 5)), (1, .ref aS), (2, .ref aO)] := hl
  have hq2 := qs_le hF.1
  have hn2 := nn_le hF.1
  refine lv_iconst (v := nI 0) hx hb dX3_tally_0 (by decide) ?_
  refine lv_istore_n (lv' := [(3, .int (nI 0)), (0, .ref (ad 5)), (1, .ref aS), (2, .ref aO)]) hx hb dX3_tally_1 rfl hl (by decide) rfl (fun ls hl => ?_)
  have L2 : ∀ (N2 : Nat) (i : Nat) (o1 : Nat → Nat) (ls : Array Slot) (H : Heap) (locs : List Loc), nn q - i < N2 → (i ≤ nn q) → (∀ t, t < i → o1 t = metq q S t) → lv_has ls 6 [(0, .ref (ad 5)), (1, .ref aS), (2, .ref aO), (3, .int (nI i))] → va_P D vwCl [(ad 0, .inr (1, [.int (nI q), .ref (ad 1), .ref (ad 2), .ref (ad 3), .ref (ad 4)])), (ad 1, .inl (cI, 81, .inl (nF sm))), (ad 2, .inl (cI, 81, .inl (nF pr))), (ad 3, .inl (cI, 9, .inl (nF op))), (ad 4, .inl (cI, 9, .inl (nF iv))), (ad 5, .inr (3, [.ref (ad 0), .int (nI (nn q)), .ref (ad 6), .ref (ad 7)])), (ad 6, .inl (cI, 273, .inl (nF tr))), (ad 7, .inl (cI, 910, .inl (nF ro))), (aS, .inl (cZ, 91, .inl (bF S))), (aO, .inl (cI, 91, .inl (nF o1)))] H → va_D A [(ad 0, .inr (1, [.int (nI q), .ref (ad 1), .ref (ad 2), .ref (ad 3), .ref (ad 4)])), (ad 1, .inl (cI, 81, .inl (nF sm))), (ad 2, .inl (cI, 81, .inl (nF pr))), (ad 3, .inl (cI, 9, .inl (nF op))), (ad 4, .inl (cI, 9, .inl (nF iv))), (ad 5, .inr (3, [.ref (ad 0), .int (nI (nn q)), .ref (ad 6), .ref (ad 7)])), (ad 6, .inl (cI, 273, .inl (nF tr))), (ad 7, .inl (cI, 910, .inl (nF ro))), (aS, .inl (cZ, 91, .inl (bF S))), (aO, .inl (cI, 91, .inl (nF o1)))] → va_S A s.heap H locs → WG p l e wsX3_tally { frames := 1, cells := 0, slots := 0, locals := 22 } s m [.ref (ad 5), .ref aS, .ref aO] below meth c H locs (CQ (S := (Nat → Nat)) D (fun (ol3 : Nat → Nat) => ∀ t, t < nn q → ol3 t = metq q S t) (fun (ol3 : Nat → Nat) => none) (fun (ol3 : Nat → Nat) => [(ad 0, .inr (1, [.int (nI q), .ref (ad 1), .ref (ad 2), .ref (ad 3), .ref (ad 4)])), (ad 1, .inl (cI, 81, .inl (nF sm))), (ad 2, .inl (cI, 81, .inl (nF pr))), (ad 3, .inl (cI, 9, .inl (nF op))), (ad 4, .inl (cI, 9, .inl (nF iv))), (ad 5, .inr (3, [.ref (ad 0), .int (nI (nn q)), .ref (ad 6), .ref (ad 7)])), (ad 6, .inl (cI, 273, .inl (nF tr))), (ad 7, .inl (cI, 910, .inl (nF ro))), (aS, .inl (cZ, 91, .inl (bF S))), (aO, .inl (cI, 91, .inl (nF ol3)))]) A) A 2 ls [] := by
    intro N2
    induction N2 with
    | zero => intro i o1 ls H locs hN; exact absurd hN (Nat.not_lt_zero _)
    | succ N2 ih2 =>
      intro i o1 ls H locs hN2 k_i k_o hl hP hD hS
      refine lv_iload_n hx hb dX3_tally_2 rfl (lv_at hl 3 rfl) ?_
      refine lv_aload_n hx hb dX3_tally_3 rfl (lv_at hl 0 rfl) ?_
      refine va_get (D := D) (ci := 3) (v := .int (nI (nn q))) (C := RX3) (T := TX3) (N := 4) hx hb hts hiX3 hown hK hP 5 rfl rfl 1 (by decide) hf31 (fun _ h9 => h9) rfl dX3_tally_4 ?_
      refine nv_icmp_ge (tgt := 60) hx hb (by omega) (by omega) dX3_tally_7 (by decide) (fun c7 => ?_) (fun c7 => ?_)
      · exact ctW_retV o1 hx hb hr dX3_tally_60 hlocks hS hP hD (fun t ht => k_o t (by omega)) rfl
      · refine lv_iconst (v := nI 0) hx hb dX3_tally_10 (by decide) ?_
        refine lv_istore (lv' := [(4, .int (nI 0)), (0, .ref (ad 5)), (1, .ref aS), (2, .ref aO), (3, .int (nI i))]) hx hb dX3_tally_11 hl (by decide) rfl (fun ls hl => ?_)
        refine lv_iconst (v := nI 0) hx hb dX3_tally_13 (by decide) ?_
        refine lv_istore (lv' := [(5, .int (nI 0)), (4, .int (nI 0)), (0, .ref (ad 5)), (1, .ref aS), (2, .ref aO), (3, .int (nI i))]) hx hb dX3_tally_14 hl (by decide) rfl (fun ls hl => ?_)
        have L16 : ∀ (N16 : Nat) (j : Nat) (x : Nat) (ls : Array Slot) (H : Heap) (locs : List Loc), q + 1 - j < N16 → (j ≤ q + 1) → (x = cnt (fun t => S (rowq q i t)) j) → lv_has ls 6 [(0, .ref (ad 5)), (1, .ref aS), (2, .ref aO), (3, .int (nI i)), (4, .int (nI x)), (5, .int (nI j))] → va_P D vwCl [(ad 0, .inr (1, [.int (nI q), .ref (ad 1), .ref (ad 2), .ref (ad 3), .ref (ad 4)])), (ad 1, .inl (cI, 81, .inl (nF sm))), (ad 2, .inl (cI, 81, .inl (nF pr))), (ad 3, .inl (cI, 9, .inl (nF op))), (ad 4, .inl (cI, 9, .inl (nF iv))), (ad 5, .inr (3, [.ref (ad 0), .int (nI (nn q)), .ref (ad 6), .ref (ad 7)])), (ad 6, .inl (cI, 273, .inl (nF tr))), (ad 7, .inl (cI, 910, .inl (nF ro))), (aS, .inl (cZ, 91, .inl (bF S))), (aO, .inl (cI, 91, .inl (nF o1)))] H → va_D A [(ad 0, .inr (1, [.int (nI q), .ref (ad 1), .ref (ad 2), .ref (ad 3), .ref (ad 4)])), (ad 1, .inl (cI, 81, .inl (nF sm))), (ad 2, .inl (cI, 81, .inl (nF pr))), (ad 3, .inl (cI, 9, .inl (nF op))), (ad 4, .inl (cI, 9, .inl (nF iv))), (ad 5, .inr (3, [.ref (ad 0), .int (nI (nn q)), .ref (ad 6), .ref (ad 7)])), (ad 6, .inl (cI, 273, .inl (nF tr))), (ad 7, .inl (cI, 910, .inl (nF ro))), (aS, .inl (cZ, 91, .inl (bF S))), (aO, .inl (cI, 91, .inl (nF o1)))] → va_S A s.heap H locs → WG p l e wsX3_tally { frames := 1, cells := 0, slots := 0, locals := 22 } s m [.ref (ad 5), .ref aS, .ref aO] below meth c H locs (CQ (S := (Nat → Nat)) D (fun (ol3 : Nat → Nat) => ∀ t, t < nn q → ol3 t = metq q S t) (fun (ol3 : Nat → Nat) => none) (fun (ol3 : Nat → Nat) => [(ad 0, .inr (1, [.int (nI q), .ref (ad 1), .ref (ad 2), .ref (ad 3), .ref (ad 4)])), (ad 1, .inl (cI, 81, .inl (nF sm))), (ad 2, .inl (cI, 81, .inl (nF pr))), (ad 3, .inl (cI, 9, .inl (nF op))), (ad 4, .inl (cI, 9, .inl (nF iv))), (ad 5, .inr (3, [.ref (ad 0), .int (nI (nn q)), .ref (ad 6), .ref (ad 7)])), (ad 6, .inl (cI, 273, .inl (nF tr))), (ad 7, .inl (cI, 910, .inl (nF ro))), (aS, .inl (cZ, 91, .inl (bF S))), (aO, .inl (cI, 91, .inl (nF ol3)))]) A) A 16 ls [] := by
          intro N16
          induction N16 with
          | zero => intro j x ls H locs hN; exact absurd hN (Nat.not_lt_zero _)
          | succ N16 ih16 =>
            intro j x ls H locs hN16 k_j k_x hl hP hD hS
            have hc := cnt_le (fun t => S (rowq q i t)) j
            refine lv_iload hx hb dX3_tally_16 (lv_at hl 5 rfl) ?_
            refine lv_aload_n hx hb dX3_tally_18 rfl (lv_at hl 0 rfl) ?_
            refine va_get (D := D) (ci := 3) (v := .ref (ad 0)) (C := RX3) (T := TX3) (N := 4) hx hb hts hiX3 hown hK hP 5 rfl rfl 0 (by decide) hf18 (fun _ h9 => h9) rfl dX3_tally_19 ?_
            refine va_getN (D := D) (ci := 1) (v := .int (nI q)) (C := RX1) (T := TX1) (N := 5) hx hb hts hiX1 hown hK hP 0 rfl rfl 0 (by decide) hf25 (fun _ h9 => h9) rfl dX3_tally_22 ?_
            refine nv_icmp_gt (tgt := 49) hx hb (by omega) (by omega) dX3_tally_25 (by decide) (fun c25 => ?_) (fun c25 => ?_)
            · refine lv_aload_n hx hb dX3_tally_49 rfl (lv_at hl 2 rfl) ?_
              refine lv_iload_n hx hb dX3_tally_50 rfl (lv_at hl 3 rfl) ?_
              refine lv_iload hx hb dX3_tally_51 (lv_at hl 4 rfl) ?_
              refine nv_iast hx hb hK hP hD hS 9 0 rfl rfl (by omega) (by decide) dX3_tally_53 (fun H locs hP hD hS => ?_)
              have hP : va_P D vwCl [(ad 0, .inr (1, [.int (nI q), .ref (ad 1), .ref (ad 2), .ref (ad 3), .ref (ad 4)])), (ad 1, .inl (cI, 81, .inl (nF sm))), (ad 2, .inl (cI, 81, .inl (nF pr))), (ad 3, .inl (cI, 9, .inl (nF op))), (ad 4, .inl (cI, 9, .inl (nF iv))), (ad 5, .inr (3, [.ref (ad 0), .int (nI (nn q)), .ref (ad 6), .ref (ad 7)])), (ad 6, .inl (cI, 273, .inl (nF tr))), (ad 7, .inl (cI, 910, .inl (nF ro))), (aS, .inl (cZ, 91, .inl (bF S))), (aO, .inl (cI, 91, .inl (nF (upN o1 i x))))] H := hP
              have hD : va_D A [(ad 0, .inr (1, [.int (nI q), .ref (ad 1), .ref (ad 2), .ref (ad 3), .ref (ad 4)])), (ad 1, .inl (cI, 81, .inl (nF sm))), (ad 2, .inl (cI, 81, .inl (nF pr))), (ad 3, .inl (cI, 9, .inl (nF op))), (ad 4, .inl (cI, 9, .inl (nF iv))), (ad 5, .inr (3, [.ref (ad 0), .int (nI (nn q)), .ref (ad 6), .ref (ad 7)])), (ad 6, .inl (cI, 273, .inl (nF tr))), (ad 7, .inl (cI, 910, .inl (nF ro))), (aS, .inl (cZ, 91, .inl (bF S))), (aO, .inl (cI, 91, .inl (nF (upN o1 i x))))] := hD
              refine lv_iinc (v := nI (i + 1)) (lv' := [(3, .int (nI (i + 1))), (0, .ref (ad 5)), (1, .ref aS), (2, .ref aO), (4, .int (nI x)), (5, .int (nI j))]) hx hb dX3_tally_54 hl (k := 3) rfl (nI_inc i) (by decide) rfl (fun ls hl => ?_)
              refine lv_goto (tgt := 2) hx hb dX3_tally_57 (by decide) ?_
              exact ih2 (i + 1) (upN o1 i x) ls _ _ (by omega) (by omega) (fun t ht => (Nat.lt_succ_iff_lt_or_eq.mp ht).elim (fun h => by rw [upN_n (by omega)]; exact k_o t h) (fun h => by rw [h, upN_s, k_x, show j = q + 1 by omega]; exact tal_met S hF.1 (by omega))) (lv_sub hl [1, 2, 3, 0] rfl) hP hD hS
            · refine lv_aload_n hx hb dX3_tally_28 rfl (lv_at hl 1 rfl) ?_
              refine lv_aload_n hx hb dX3_tally_29 rfl (lv_at hl 0 rfl) ?_
              refine lv_iload_n hx hb dX3_tally_30 rfl (lv_at hl 3 rfl) ?_
              refine lv_iload hx hb dX3_tally_31 (lv_at hl 5 rfl) ?_
              refine ctR_V (As := [.int (nI i), .int (nI j)]) (rest := [.ref aS]) (r := .int (nI (rowq q i j))) ⟨hx, hb, hml, hown, hts⟩ (c_X3_onRow l D cI cZ ad q sm pr op iv hF tr ro hT hR i j (by omega) (by omega)) (cwV 2 hts gX3_tally_X3_onRow rfl rfl rfl hdV_X3_onRow ⟨Nat.le_of_ble_eq_true rfl, Nat.le_of_ble_eq_true rfl⟩) hK hN hP [0, 1, 2, 3, 4, 5, 6, 7] rfl 5 3 rfl rfl rfl hl.1 rfl (Nat.le_of_ble_eq_true rfl) ⟨Nat.zero_le _, Nat.zero_le _⟩ dX3_tally_33 ?_
              have hh_1 : rowq q i j < nn q := rowq_lt hF.1 (by omega) (by omega)
              refine nv_zald hx hb hK hP 8 1 rfl rfl (by omega) (by decide) dX3_tally_36 ?_
              refine nv_ifb_eq (tgt := 43) hx hb dX3_tally_37 (by decide) (fun c37 => ?_) (fun c37 => ?_)
              · refine lv_iinc (v := nI (j + 1)) (lv' := [(5, .int (nI (j + 1))), (0, .ref (ad 5)), (1, .ref aS), (2, .ref aO), (3, .int (nI i)), (4, .int (nI x))]) hx hb dX3_tally_43 hl (k := 5) rfl (nI_inc j) (by decide) rfl (fun ls hl => ?_)
                refine lv_goto (tgt := 16) hx hb dX3_tally_46 (by decide) ?_
                exact ih16 (j + 1) x ls _ _ (by omega) (by omega) (by rw [cnt, c37, k_x]; rfl) (lv_sub hl [1, 2, 3, 4, 5, 0] rfl) hP hD hS
              · refine lv_iinc (v := nI (x + 1)) (lv' := [(4, .int (nI (x + 1))), (0, .ref (ad 5)), (1, .ref aS), (2, .ref aO), (3, .int (nI i)), (5, .int (nI j))]) hx hb dX3_tally_40 hl (k := 4) rfl (nI_inc x) (by decide) rfl (fun ls hl => ?_)
                refine lv_iinc (v := nI (j + 1)) (lv' := [(5, .int (nI (j + 1))), (4, .int (nI (x + 1))), (0, .ref (ad 5)), (1, .ref aS), (2, .ref aO), (3, .int (nI i))]) hx hb dX3_tally_43 hl (k := 5) rfl (nI_inc j) (by decide) rfl (fun ls hl => ?_)
                refine lv_goto (tgt := 16) hx hb dX3_tally_46 (by decide) ?_
                exact ih16 (j + 1) (x + 1) ls _ _ (by omega) (by omega) (by rw [cnt, c37, k_x]; rfl) (lv_sub hl [2, 3, 4, 5, 1, 0] rfl) hP hD hS
        exact L16 (q + 1 - 0 + 1) 0 0 ls _ _ (by omega) (Nat.zero_le _) rfl (lv_sub hl [2, 3, 4, 5, 1, 0] rfl) hP hD hS
  exact L2 (nn q - 0 + 1) 0 ol ls _ _ (by omega) (Nat.zero_le _) (fun t h => absurd h (Nat.not_lt_zero t)) (lv_sub hl [1, 2, 3, 0] rfl) hP hD hS

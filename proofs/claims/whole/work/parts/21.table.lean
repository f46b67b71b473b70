set_option maxHeartbeats 4000000 in
set_option maxRecDepth 100000 in
theorem c_bitCountR (l : Launch) (D : va_G) (cI cZ : ClassId) (x : Int32) : CtR l yJ6_bitCount_0f7a4 wsJ6_bitCount_0f7a4 { frames := 0, cells := 0, slots := 0, locals := 0 } D (tyG cI cZ) [.int x] [] (.int (bcR x)) := by
  refine Met.ofW (cc := cJ6_bitCount_0f7a4) (maxL := 1) (ret := some .int) (by decide) rfl ?_
  intro p e s m args below meth c s₁ B hml hv
  obtain ⟨rfl, hP, hK, hN⟩ := hv
  have hx := B.exec
  have hb := B.bytes
  have hr := B.returns
  have hts := atoms_spec (ws := wsJ6_bitCount_0f7a4) B.pre
  have hown : s.vm.findClass RJ6 = some m.cls := findClass_of_methodNamed B.named
  have hlocks := B.notSynchronized
  have hl := lv_entry ([.int x]) (n := 1) (Nat.le_of_ble_eq_true rfl)
  rw [lg_entry_eq]
  generalize (lg_sl ([.int x]) ++ List.replicate (1 - (lg_sl ([.int x])).length) Slot.unset).toArray = ls at hl ⊢
  have hl : lv_has ls 1 [(0, .int x)] := hl
  refine lv_iload_n hx hb dJ6_bitCount_0f7a4_0 rfl (lv_at hl 0 rfl) ?_
  refine lv_iload_n hx hb dJ6_bitCount_0f7a4_1 rfl (lv_at hl 0 rfl) ?_
  refine lv_iconst (v := nI 1) hx hb dJ6_bitCount_0f7a4_2 (by decide) ?_
  refine lv_iushr (v := (x.toUInt32 >>> ((nI 1).toUInt32 &&& Int32.toUInt32 31)).toInt32) hx hb dJ6_bitCount_0f7a4_3 rfl ?_
  refine lv_ldcw (v := 1431655765) hx hb hown (hts (.constant RJ6 265 1431655765) (by decide +kernel)) dJ6_bitCount_0f7a4_4 ?_
  refine lv_iand hx hb dJ6_bitCount_0f7a4_7 ?_
  refine lv_isub hx hb dJ6_bitCount_0f7a4_8 ?_
  refine lv_topi (fun z1 ez1 => ?_)
  refine lv_istore_n (lv' := [(0, .int z1)]) hx hb dJ6_bitCount_0f7a4_9 rfl hl (by decide) rfl (fun ls hl => ?_)
  refine lv_iload_n hx hb dJ6_bitCount_0f7a4_10 rfl (lv_at hl 0 rfl) ?_
  refine lv_ldcw (v := 858993459) hx hb hown (hts (.constant RJ6 266 858993459) (by decide +kernel)) dJ6_bitCount_0f7a4_11 ?_
  refine lv_iand hx hb dJ6_bitCount_0f7a4_14 ?_
  refine lv_iload_n hx hb dJ6_bitCount_0f7a4_15 rfl (lv_at hl 0 rfl) ?_
  refine lv_iconst (v := nI 2) hx hb dJ6_bitCount_0f7a4_16 (by decide) ?_
  refine lv_iushr (v := (z1.toUInt32 >>> ((nI 2).toUInt32 &&& Int32.toUInt32 31)).toInt32) hx hb dJ6_bitCount_0f7a4_17 rfl ?_
  refine lv_ldcw (v := 858993459) hx hb hown (hts (.constant RJ6 266 858993459) (by decide +kernel)) dJ6_bitCount_0f7a4_18 ?_
  refine lv_iand hx hb dJ6_bitCount_0f7a4_21 ?_
  refine lv_iadd hx hb dJ6_bitCount_0f7a4_22 ?_
  refine lv_topi (fun z2 ez2 => ?_)
  refine lv_istore_n (lv' := [(0, .int z2)]) hx hb dJ6_bitCount_0f7a4_23 rfl hl (by decide) rfl (fun ls hl => ?_)
  refine lv_iload_n hx hb dJ6_bitCount_0f7a4_24 rfl (lv_at hl 0 rfl) ?_
  refine lv_iload_n hx hb dJ6_bitCount_0f7a4_25 rfl (lv_at hl 0 rfl) ?_
  refine lv_iconst (v := nI 4) hx hb dJ6_bitCount_0f7a4_26 (by decide) ?_
  refine lv_iushr (v := (z2.toUInt32 >>> ((nI 4).toUInt32 &&& Int32.toUInt32 31)).toInt32) hx hb dJ6_bitCount_0f7a4_27 rfl ?_
  refine lv_iadd hx hb dJ6_bitCount_0f7a4_28 ?_
  refine lv_ldcw (v := 252645135) hx hb hown (hts (.constant RJ6 267 252645135) (by decide +kernel)) dJ6_bitCount_0f7a4_29 ?_
  refine lv_iand hx hb dJ6_bitCount_0f7a4_32 ?_
  refine lv_topi (fun z3 ez3 => ?_)
  refine lv_istore_n (lv' := [(0, .int z3)]) hx hb dJ6_bitCount_0f7a4_33 rfl hl (by decide) rfl (fun ls hl => ?_)
  refine lv_iload_n hx hb dJ6_bitCount_0f7a4_34 rfl (lv_at hl 0 rfl) ?_
  refine lv_iload_n hx hb dJ6_bitCount_0f7a4_35 rfl (lv_at hl 0 rfl) ?_
  refine lv_bipush (v := nI 8) hx hb dJ6_bitCount_0f7a4_36 (by decide) ?_
  refine lv_iushr (v := (z3.toUInt32 >>> ((nI 8).toUInt32 &&& Int32.toUInt32 31)).toInt32) hx hb dJ6_bitCount_0f7a4_38 rfl ?_
  refine lv_iadd hx hb dJ6_bitCount_0f7a4_39 ?_
  refine lv_topi (fun z4 ez4 => ?_)
  refine lv_istore_n (lv' := [(0, .int z4)]) hx hb dJ6_bitCount_0f7a4_40 rfl hl (by decide) rfl (fun ls hl => ?_)
  refine lv_iload_n hx hb dJ6_bitCount_0f7a4_41 rfl (lv_at hl 0 rfl) ?_
  refine lv_iload_n hx hb dJ6_bitCount_0f7a4_42 rfl (lv_at hl 0 rfl) ?_
  refine lv_bipush (v := nI 16) hx hb dJ6_bitCount_0f7a4_43 (by decide) ?_
  refine lv_iushr (v := (z4.toUInt32 >>> ((nI 16).toUInt32 &&& Int32.toUInt32 31)).toInt32) hx hb dJ6_bitCount_0f7a4_45 rfl ?_
  refine lv_iadd hx hb dJ6_bitCount_0f7a4_46 ?_
  refine lv_topi (fun z5 ez5 => ?_)
  refine lv_istore_n (lv' := [(0, .int z5)]) hx hb dJ6_bitCount_0f7a4_47 rfl hl (by decide) rfl (fun ls hl => ?_)
  refine lv_iload_n hx hb dJ6_bitCount_0f7a4_48 rfl (lv_at hl 0 rfl) ?_
  refine lv_bipush (v := nI 63) hx hb dJ6_bitCount_0f7a4_49 (by decide) ?_
  refine lv_iand hx hb dJ6_bitCount_0f7a4_51 ?_
  exact ctR_ret (v := (z5 &&& (nI 63))) hx hb hr rfl dJ6_bitCount_0f7a4_52 hlocks (by rw [ez5, ez4, ez3, ez2, ez1]; rfl)

theorem c_J6_bitCount_0f7a4 (l : Launch) (D : va_G) (cI cZ : ClassId) (n : Nat) (k_1 : n < 8192) : CtR l yJ6_bitCount_0f7a4 wsJ6_bitCount_0f7a4 { frames := 0, cells := 0, slots := 0, locals := 0 } D (tyG cI cZ) [.int (nI n)] [] (.int (nI (pcn n))) := by
  have h := c_bitCountR l D cI cZ (nI n)
  rw [bcR_eq k_1] at h
  exact h

set_option maxHeartbeats 4000000 in
set_option maxRecDepth 100000 in
theorem c_X5_empty (l : Launch) (D : va_G) (cI cZ : ClassId) (ad : Nat → Nat) (w : Nat) (ln : Nat → Nat) (w3 : Nat) : CtW (S := (Nat → Nat)) l yX5_empty wsX5_empty { frames := 0, cells := 0, slots := 0, locals := 0 } D (tyG cI cZ) [.ref (ad 24), .int (nI w3)] [(ad 24, .inr (5, [.int (nI w), .ref (ad 25)])), (ad 25, .inl (cI, 13, .inl (nF ln)))] (fun (ln3 : Nat → Nat) => ∀ t, t < 13 → ln3 t = 0) (fun (ln3 : Nat → Nat) => none) (fun (ln3 : Nat → Nat) => [(ad 24, .inr (5, [.int (nI w3), .ref (ad 25)])), (ad 25, .inl (cI, 13, .inl (nF ln3)))]) := by
  intro sz; refine Met.ofW (cc := cX5_empty) (maxL := 3) (ret := none) (by decide) rfl ?_
  intro p e s m args below meth c s₁ B hml hv
  obtain ⟨rfl, hsz, hP, hK, hD0, hN⟩ := hv
  have hx := B.exec
  have hb := B.bytes
  have hr := B.returns
  have hts := atoms_spec (ws := wsX5_empty) B.pre
  have hown : s.vm.findClass RX5 = some m.cls := findClass_of_methodNamed B.named
  have hlocks := B.notSynchronized
  subst hsz
  have hD := hD0.self (sz := s.heap.size)
  generalize hAe : va_A [(ad 24, .inr (5, [.int (nI w), .ref (ad 25)])), (ad 25, .inl (cI, 13, .inl (nF ln)))] s.heap.size = A at hD ⊢
  have hA : ∀ q : Nat, s.heap.size ≤ q → A q := fun q h => by rw [← hAe]; exact Or.inr h
  have hS : va_S A s.heap s.heap [] := va_S.rf
  have hP : va_P D vwCl [(ad 24, .inr (5, [.int (nI w), .ref (ad 25)])), (ad 25, .inl (cI, 13, .inl (nF ln)))] s.heap := hP
  have hf9 := hts (.fieldLink RX5 9 "FinitePlanes$Table" "w" "I") (by decide +kernel)
  have hf15 := hts (.fieldLink RX5 15 "FinitePlanes$Table" "lines" "[I") (by decide +kernel)
  have hiX5 : ∀ w ∈ u_ws RX5 TX5 2, w ∈ wsX5_empty := by decide +kernel
  have hl := lv_entry ([.ref (ad 24), .int (nI w3)]) (n := 3) (Nat.le_of_ble_eq_true rfl)
  rw [lg_entry_eq]
  generalize (lg_sl ([.ref (ad 24), .int (nI w3)]) ++ List.replicate (3 - (lg_sl ([.ref (ad 24), .int (nI w3)])).length) Slot.unset).toArray = ls at hl ⊢
  have hl : lv_has ls 3 [(0, .ref (ad 24)), (1, .int (nI w3))] := hl
  refine lv_aload_n hx hb dX5_empty_0 rfl (lv_at hl 0 rfl) ?_
  refine lv_iload_n hx hb dX5_empty_1 rfl (lv_at hl 1 rfl) ?_
  refine va_put (D := D) (ci := 5) (v := .int (nI w3)) (ty := .int) (C := RX5) (T := TX5) (N := 2) hx hb hts hiX5 tyX5 tyX5_ok nmX5 hown hK hP hD hS 0 rfl rfl 0 (by decide) hf9 (fun _ h9 => h9) rfl (by decide +kernel) rfl rfl (Nat.le_of_ble_eq_true rfl) dX5_empty_2 (fun H locs hP hD hS => ?_)
  have hP : va_P D vwCl [(ad 24, .inr (5, [.int (nI w3), .ref (ad 25)])), (ad 25, .inl (cI, 13, .inl (nF ln)))] H := hP
  have hD : va_D A [(ad 24, .inr (5, [.int (nI w3), .ref (ad 25)])), (ad 25, .inl (cI, 13, .inl (nF ln)))] := hD
  refine lv_iconst (v := nI 0) hx hb dX5_empty_5 (by decide) ?_
  refine lv_istore_n (lv' := [(2, .int (nI 0)), (0, .ref (ad 24)), (1, .int (nI w3))]) hx hb dX5_empty_6 rfl hl (by decide) rfl (fun ls hl => ?_)
  have L7 : ∀ (N7 : Nat) (i : Nat) (n1 : Nat → Nat) (ls : Array Slot) (H : Heap) (locs : List Loc), 13 - i < N7 → (i ≤ 13) → (∀ t, t < i → n1 t = 0) → lv_has ls 3 [(0, .ref (ad 24)), (1, .int (nI w3)), (2, .int (nI i))] → va_P D vwCl [(ad 24, .inr (5, [.int (nI w3), .ref (ad 25)])), (ad 25, .inl (cI, 13, .inl (nF n1)))] H → va_D A [(ad 24, .inr (5, [.int (nI w3), .ref (ad 25)])), (ad 25, .inl (cI, 13, .inl (nF n1)))] → va_S A s.heap H locs → WG p l e wsX5_empty { frames := 0, cells := 0, slots := 0, locals := 0 } s m [.ref (ad 24), .int (nI w3)] below meth c H locs (CQ (S := (Nat → Nat)) D (fun (ln3 : Nat → Nat) => ∀ t, t < 13 → ln3 t = 0) (fun (ln3 : Nat → Nat) => none) (fun (ln3 : Nat → Nat) => [(ad 24, .inr (5, [.int (nI w3), .ref (ad 25)])), (ad 25, .inl (cI, 13, .inl (nF ln3)))]) A) A 7 ls [] := by
    intro N7
    induction N7 with
    | zero => intro i n1 ls H locs hN; exact absurd hN (Nat.not_lt_zero _)
    | succ N7 ih7 =>
      intro i n1 ls H locs hN7 k_i k_s hl hP hD hS
      refine lv_iload_n hx hb dX5_empty_7 rfl (lv_at hl 2 rfl) ?_
      refine lv_bipush (v := nI 13) hx hb dX5_empty_8 (by decide) ?_
      refine nv_icmp_ge (tgt := 26) hx hb (by omega) (by decide) dX5_empty_10 (by decide) (fun c10 => ?_) (fun c10 => ?_)
      · exact ctW_retV n1 hx hb hr dX5_empty_26 hlocks hS hP hD (fun t ht => k_s t (by omega)) rfl
      · refine lv_aload_n hx hb dX5_empty_13 rfl (lv_at hl 0 rfl) ?_
        refine va_get (D := D) (ci := 5) (v := .ref (ad 25)) (C := RX5) (T := TX5) (N := 2) hx hb hts hiX5 hown hK hP 0 rfl rfl 1 (by decide) hf15 (fun _ h9 => h9) rfl dX5_empty_14 ?_
        refine lv_iload_n hx hb dX5_empty_17 rfl (lv_at hl 2 rfl) ?_
        refine lv_iconst (v := nI 0) hx hb dX5_empty_18 (by decide) ?_
        refine nv_iast hx hb hK hP hD hS 1 0 rfl rfl (by omega) (by decide) dX5_empty_19 (fun H locs hP hD hS => ?_)
        have hP : va_P D vwCl [(ad 24, .inr (5, [.int (nI w3), .ref (ad 25)])), (ad 25, .inl (cI, 13, .inl (nF (upN n1 i 0))))] H := hP
        have hD : va_D A [(ad 24, .inr (5, [.int (nI w3), .ref (ad 25)])), (ad 25, .inl (cI, 13, .inl (nF (upN n1 i 0))))] := hD
        refine lv_iinc (v := nI (i + 1)) (lv' := [(2, .int (nI (i + 1))), (0, .ref (ad 24)), (1, .int (nI w3))]) hx hb dX5_empty_20 hl (k := 2) rfl (nI_inc i) (by decide) rfl (fun ls hl => ?_)
        refine lv_goto (tgt := 7) hx hb dX5_empty_23 (by decide) ?_
        exact ih7 (i + 1) (upN n1 i 0) ls _ _ (by omega) (by omega) (fun t ht => (Nat.lt_succ_iff_lt_or_eq.mp ht).elim (fun h => by rw [upN_n (by omega)]; exact k_s t h) (fun h => by rw [h, upN_s])) (lv_sub hl [1, 2, 0] rfl) hP hD hS
  exact L7 (13 - 0 + 1) 0 ln ls _ _ (by omega) (Nat.zero_le _) (fun t h => absurd h (Nat.not_lt_zero t)) (lv_sub hl [1, 2, 0] rfl) hP hD hS

set_option maxHeartbeats 4000000 in
set_option maxRecDepth 100000 in
theorem c_X5_has (l : Launch) (D : va_G) (cI cZ : ClassId) (ad : Nat → Nat) (w : Nat) (ln : Nat → Nat) (k_w : w ≤ 13) (x : Int32) : CtR l yX5_has wsX5_has { frames := 0, cells := 0, slots := 0, locals := 0 } D (tyG cI cZ) [.ref (ad 24), .int x] [(ad 24, .inr (5, [.int (nI w), .ref (ad 25)])), (ad 25, .inl (cI, 13, .inl (nF ln)))] (.int (nI (inB x w).toNat)) := by
  refine Met.ofW (cc := cX5_has) (maxL := 2) (ret := some .boolean) (by decide) rfl ?_
  intro p e s m args below meth c s₁ B hml hv
  obtain ⟨rfl, hP, hK, hN⟩ := hv
  have hx := B.exec
  have hb := B.bytes
  have hr := B.returns
  have hts := atoms_spec (ws := wsX5_has) B.pre
  have hown : s.vm.findClass RX5 = some m.cls := findClass_of_methodNamed B.named
  have hlocks := B.notSynchronized
  have hf9 := hts (.fieldLink RX5 9 "FinitePlanes$Table" "w" "I") (by decide +kernel)
  have hiX5 : ∀ w ∈ u_ws RX5 TX5 2, w ∈ wsX5_has := by decide +kernel
  have hl := lv_entry ([.ref (ad 24), .int x]) (n := 2) (Nat.le_of_ble_eq_true rfl)
  rw [lg_entry_eq]
  generalize (lg_sl ([.ref (ad 24), .int x]) ++ List.replicate (2 - (lg_sl ([.ref (ad 24), .int x])).length) Slot.unset).toArray = ls at hl ⊢
  have hl : lv_has ls 2 [(0, .ref (ad 24)), (1, .int x)] := hl
  refine lv_iload_n hx hb dX5_has_0 rfl (lv_at hl 1 rfl) ?_
  refine lv_if_lt (tgt := 16) hx hb dX5_has_1 (by decide) (fun c1 => ?_) (fun c1 => ?_)
  · refine lv_iconst (v := nI 0) hx hb dX5_has_16 (by decide) ?_
    exact ctR_ret (v := (nI 0)) hx hb hr (nar_bool false) dX5_has_17 hlocks (by rw [inB_lt c1]; rfl)
  · refine lv_iload_n hx hb dX5_has_4 rfl (lv_at hl 1 rfl) ?_
    refine lv_aload_n hx hb dX5_has_5 rfl (lv_at hl 0 rfl) ?_
    refine va_get (D := D) (ci := 5) (v := .int (nI w)) (C := RX5) (T := TX5) (N := 2) hx hb hts hiX5 hown hK hP 0 rfl rfl 0 (by decide) hf9 (fun _ h9 => h9) rfl dX5_has_6 ?_
    refine lv_icmp_ge (tgt := 16) hx hb dX5_has_9 (by decide) (fun c9 => ?_) (fun c9 => ?_)
    · refine lv_iconst (v := nI 0) hx hb dX5_has_16 (by decide) ?_
      exact ctR_ret (v := (nI 0)) hx hb hr (nar_bool false) dX5_has_17 hlocks (by rw [inB_ge (by omega) c9]; rfl)
    · refine lv_iconst (v := nI 1) hx hb dX5_has_12 (by decide) ?_
      refine lv_goto (tgt := 17) hx hb dX5_has_13 (by decide) ?_
      exact ctR_ret (v := (nI 1)) hx hb hr (nar_bool true) dX5_has_17 hlocks (by rw [inB_in (by omega) c1 c9]; rfl)

set_option maxHeartbeats 4000000 in
set_option maxRecDepth 100000 in
theorem c_X5_isMarked (l : Launch) (D : va_G) (cI cZ : ClassId) (ad : Nat → Nat) (w : Nat) (ln : Nat → Nat) (k_w : w ≤ 13) (k_l : LNK ln) (i : Nat) (j : Nat) (k_1 : i < 13) (k_2 : j < 13) : CtR l yX5_isMarked wsX5_isMarked { frames := 0, cells := 0, slots := 0, locals := 0 } D (tyG cI cZ) [.ref (ad 24), .int (nI i), .int (nI j)] [(ad 24, .inr (5, [.int (nI w), .ref (ad 25)])), (ad 25, .inl (cI, 13, .inl (nF ln)))] (.int (nI (tbl ln i j).toNat)) := by
  refine Met.ofW (cc := cX5_isMarked) (maxL := 3) (ret := some .boolean) (by decide) rfl ?_
  intro p e s m args below meth c s₁ B hml hv
  obtain ⟨rfl, hP, hK, hN⟩ := hv
  have hx := B.exec
  have hb := B.bytes
  have hr := B.returns
  have hts := atoms_spec (ws := wsX5_isMarked) B.pre
  have hown : s.vm.findClass RX5 = some m.cls := findClass_of_methodNamed B.named
  have hlocks := B.notSynchronized
  have hf15 := hts (.fieldLink RX5 15 "FinitePlanes$Table" "lines" "[I") (by decide +kernel)
  have hiX5 : ∀ w ∈ u_ws RX5 TX5 2, w ∈ wsX5_isMarked := by decide +kernel
  have hl := lv_entry ([.ref (ad 24), .int (nI i), .int (nI j)]) (n := 3) (Nat.le_of_ble_eq_true rfl)
  rw [lg_entry_eq]
  generalize (lg_sl ([.ref (ad 24), .int (nI i), .int (nI j)]) ++ List.replicate (3 - (lg_sl ([.ref (ad 24), .int (nI i), .int (nI j)])).length) Slot.unset).toArray = ls at hl ⊢
  have hl : lv_has ls 3 [(0, .ref (ad 24)), (1, .int (nI i)), (2, .int (nI j))] := hl
  refine lv_aload_n hx hb dX5_isMarked_0 rfl (lv_at hl 0 rfl) ?_
  refine va_get (D := D) (ci := 5) (v := .ref (ad 25)) (C := RX5) (T := TX5) (N := 2) hx hb hts hiX5 hown hK hP 0 rfl rfl 1 (by decide) hf15 (fun _ h9 => h9) rfl dX5_isMarked_1 ?_
  refine lv_iload_n hx hb dX5_isMarked_4 rfl (lv_at hl 1 rfl) ?_
  have hb9 := k_l i k_1
  refine nv_iald hx hb hK hP 1 0 rfl rfl (by omega) (by decide) dX5_isMarked_5 ?_
  refine lv_iload_n hx hb dX5_isMarked_6 rfl (lv_at hl 2 rfl) ?_
  refine lv_ishr hx hb dX5_isMarked_7 ?_
  refine nv_top (v' := .int (nI (ln i / 2 ^ j))) (congrArg Value.int (nx_shr (by omega) (by omega))) ?_
  refine lv_iconst (v := nI 1) hx hb dX5_isMarked_8 (by decide) ?_
  refine lv_iand hx hb dX5_isMarked_9 ?_
  refine nv_top (v' := .int (nI ((ln i / 2 ^ j) &&& 1))) (congrArg Value.int (nx_and _ 1)) ?_
  refine lv_iconst (v := nI 1) hx hb dX5_isMarked_10 (by decide) ?_
  refine nv_icmp_ne (tgt := 18) hx hb (Nat.lt_of_le_of_lt Nat.and_le_right (by decide)) (by decide) dX5_isMarked_11 (by decide) (fun c11 => ?_) (fun c11 => ?_)
  · refine lv_iconst (v := nI 0) hx hb dX5_isMarked_18 (by decide) ?_
    exact ctR_ret (v := (nI 0)) hx hb hr (nar_bool false) dX5_isMarked_19 hlocks (by rw [tbl, Bool.eq_false_iff.mpr (fun z => c11 (tb_1.mpr z))]; rfl)
  · refine lv_iconst (v := nI 1) hx hb dX5_isMarked_14 (by decide) ?_
    refine lv_goto (tgt := 19) hx hb dX5_isMarked_15 (by decide) ?_
    exact ctR_ret (v := (nI 1)) hx hb hr (nar_bool true) dX5_isMarked_19 hlocks (by rw [tbl, tb_1.mp c11]; rfl)

set_option maxHeartbeats 4000000 in
set_option maxRecDepth 100000 in
theorem c_X5_setMark (l : Launch) (D : va_G) (cI cZ : ClassId) (ad : Nat → Nat) (w : Nat) (ln : Nat → Nat) (k_w : w ≤ 13) (k_l : LNK ln) (i : Nat) (j : Nat) (k_1 : i < 13) (k_2 : j < 13) (b : Bool) : CtW (S := Unit) l yX5_setMark wsX5_setMark { frames := 0, cells := 0, slots := 0, locals := 0 } D (tyG cI cZ) [.ref (ad 24), .int (nI i), .int (nI j), .int (nI (b).toNat)] [(ad 24, .inr (5, [.int (nI w), .ref (ad 25)])), (ad 25, .inl (cI, 13, .inl (nF ln)))] (fun (_ : Unit) => True) (fun (_ : Unit) => none) (fun (_ : Unit) => [(ad 24, .inr (5, [.int (nI w), .ref (ad 25)])), (ad 25, .inl (cI, 13, .inl (nF (upN ln i (smk (ln i) j b)))))]) := by
  intro sz; refine Met.ofW (cc := cX5_setMark) (maxL := 4) (ret := none) (by decide) rfl ?_
  intro p e s m args below meth c s₁ B hml hv
  obtain ⟨rfl, hsz, hP, hK, hD0, hN⟩ := hv
  have hx := B.exec
  have hb := B.bytes
  have hr := B.returns
  have hts := atoms_spec (ws := wsX5_setMark) B.pre
  have hown : s.vm.findClass RX5 = some m.cls := findClass_of_methodNamed B.named
  have hlocks := B.notSynchronized
  subst hsz
  have hD := hD0.self (sz := s.heap.size)
  generalize hAe : va_A [(ad 24, .inr (5, [.int (nI w), .ref (ad 25)])), (ad 25, .inl (cI, 13, .inl (nF ln)))] s.heap.size = A at hD ⊢
  have hA : ∀ q : Nat, s.heap.size ≤ q → A q := fun q h => by rw [← hAe]; exact Or.inr h
  have hS : va_S A s.heap s.heap [] := va_S.rf
  have hP : va_P D vwCl [(ad 24, .inr (5, [.int (nI w), .ref (ad 25)])), (ad 25, .inl (cI, 13, .inl (nF ln)))] s.heap := hP
  have hf15 := hts (.fieldLink RX5 15 "FinitePlanes$Table" "lines" "[I") (by decide +kernel)
  have hiX5 : ∀ w ∈ u_ws RX5 TX5 2, w ∈ wsX5_setMark := by decide +kernel
  have hl := lv_entry ([.ref (ad 24), .int (nI i), .int (nI j), .int (nI (b).toNat)]) (n := 4) (Nat.le_of_ble_eq_true rfl)
  rw [lg_entry_eq]
  generalize (lg_sl ([.ref (ad 24), .int (nI i), .int (nI j), .int (nI (b).toNat)]) ++ List.replicate (4 - (lg_sl ([.ref (ad 24), .int (nI i), .int (nI j), .int (nI (b).toNat)])).length) Slot.unset).toArray = ls at hl ⊢
  have hl : lv_has ls 4 [(0, .ref (ad 24)), (1, .int (nI i)), (2, .int (nI j)), (3, .int (nI (b).toNat))] := hl
  refine lv_aload_n hx hb dX5_setMark_0 rfl (lv_at hl 0 rfl) ?_
  refine va_get (D := D) (ci := 5) (v := .ref (ad 25)) (C := RX5) (T := TX5) (N := 2) hx hb hts hiX5 hown hK hP 0 rfl rfl 1 (by decide) hf15 (fun _ h9 => h9) rfl dX5_setMark_1 ?_
  refine lv_iload_n hx hb dX5_setMark_4 rfl (lv_at hl 1 rfl) ?_
  have hb9 := k_l i k_1
  refine lv_iload_n hx hb dX5_setMark_5 rfl (lv_at hl 3 rfl) ?_
  refine nv_ifb_eq (tgt := 22) hx hb dX5_setMark_6 (by decide) (fun c6 => ?_) (fun c6 => ?_)
  · refine lv_aload_n hx hb dX5_setMark_22 rfl (lv_at hl 0 rfl) ?_
    refine va_get (D := D) (ci := 5) (v := .ref (ad 25)) (C := RX5) (T := TX5) (N := 2) hx hb hts hiX5 hown hK hP 0 rfl rfl 1 (by decide) hf15 (fun _ h9 => h9) rfl dX5_setMark_23 ?_
    refine lv_iload_n hx hb dX5_setMark_26 rfl (lv_at hl 1 rfl) ?_
    refine nv_iald hx hb hK hP 1 0 rfl rfl (by omega) (by decide) dX5_setMark_27 ?_
    refine lv_iconst (v := nI 1) hx hb dX5_setMark_28 (by decide) ?_
    refine lv_iload_n hx hb dX5_setMark_29 rfl (lv_at hl 2 rfl) ?_
    refine lv_ishl hx hb dX5_setMark_30 ?_
    refine nv_top (v' := .int (nI (2 ^ j))) (congrArg Value.int (nx_bit1 k_2)) ?_
    refine lv_iconst (v := (-1)) hx hb dX5_setMark_31 (by decide) ?_
    refine lv_ixor hx hb dX5_setMark_32 ?_
    refine nv_top (v' := .int (nI (2 ^ j) ^^^ (-1))) rfl ?_
    refine lv_iand hx hb dX5_setMark_33 ?_
    refine nv_top (v' := .int (nI (smk (ln i) j b))) (by rw [smk, if_neg (by rw [c6]; decide)]; exact congrArg Value.int (nx_clr hb9 k_2)) ?_
    refine nv_iast hx hb hK hP hD hS 1 0 rfl rfl (by omega) (by decide) dX5_setMark_34 (fun H locs hP hD hS => ?_)
    have hP : va_P D vwCl [(ad 24, .inr (5, [.int (nI w), .ref (ad 25)])), (ad 25, .inl (cI, 13, .inl (nF (upN ln i (smk (ln i) j b)))))] H := hP
    have hD : va_D A [(ad 24, .inr (5, [.int (nI w), .ref (ad 25)])), (ad 25, .inl (cI, 13, .inl (nF (upN ln i (smk (ln i) j b)))))] := hD
    exact ctW_retV () hx hb hr dX5_setMark_35 hlocks hS hP hD trivial rfl
  · refine lv_aload_n hx hb dX5_setMark_9 rfl (lv_at hl 0 rfl) ?_
    refine va_get (D := D) (ci := 5) (v := .ref (ad 25)) (C := RX5) (T := TX5) (N := 2) hx hb hts hiX5 hown hK hP 0 rfl rfl 1 (by decide) hf15 (fun _ h9 => h9) rfl dX5_setMark_10 ?_
    refine lv_iload_n hx hb dX5_setMark_13 rfl (lv_at hl 1 rfl) ?_
    refine nv_iald hx hb hK hP 1 0 rfl rfl (by omega) (by decide) dX5_setMark_14 ?_
    refine lv_iconst (v := nI 1) hx hb dX5_setMark_15 (by decide) ?_
    refine lv_iload_n hx hb dX5_setMark_16 rfl (lv_at hl 2 rfl) ?_
    refine lv_ishl hx hb dX5_setMark_17 ?_
    refine nv_top (v' := .int (nI (2 ^ j))) (congrArg Value.int (nx_bit1 k_2)) ?_
    refine lv_ior hx hb dX5_setMark_18 ?_
    refine nv_top (v' := .int (nI (smk (ln i) j b))) (by rw [smk, if_pos c6]; exact congrArg Value.int (nx_or _ _)) ?_
    refine lv_goto (tgt := 34) hx hb dX5_setMark_19 (by decide) ?_
    refine nv_iast hx hb hK hP hD hS 1 0 rfl rfl (by omega) (by decide) dX5_setMark_34 (fun H locs hP hD hS => ?_)
    have hP : va_P D vwCl [(ad 24, .inr (5, [.int (nI w), .ref (ad 25)])), (ad 25, .inl (cI, 13, .inl (nF (upN ln i (smk (ln i) j b)))))] H := hP
    have hD : va_D A [(ad 24, .inr (5, [.int (nI w), .ref (ad 25)])), (ad 25, .inl (cI, 13, .inl (nF (upN ln i (smk (ln i) j b)))))] := hD
    exact ctW_retV () hx hb hr dX5_setMark_35 hlocks hS hP hD trivial rfl

set_option maxHeartbeats 4000000 in
set_option maxRecDepth 100000 in
theorem c_X5_marks (l : Launch) (D : va_G) (cI cZ : ClassId) (ad : Nat → Nat) (w : Nat) (ln : Nat → Nat) (k_w : w ≤ 13) (k_l : LNK ln) : CtR l yX5_marks wsX5_marks { frames := 1, cells := 0, slots := 0, locals := 20 } D (tyG cI cZ) [.ref (ad 24)] [(ad 24, .inr (5, [.int (nI w), .ref (ad 25)])), (ad 25, .inl (cI, 13, .inl (nF ln)))] (.int (nI (sumq (fun t => pcn (ln t)) w))) := by
  refine Met.ofW (cc := cX5_marks) (maxL := 3) (ret := some .int) (by decide) rfl ?_
  intro p e s m args below meth c s₁ B hml hv
  obtain ⟨rfl, hP, hK, hN⟩ := hv
  have hx := B.exec
  have hb := B.bytes
  have hr := B.returns
  have hts := atoms_spec (ws := wsX5_marks) B.pre
  have hown : s.vm.findClass RX5 = some m.cls := findClass_of_methodNamed B.named
  have hlocks := B.notSynchronized
  have hf9 := hts (.fieldLink RX5 9 "FinitePlanes$Table" "w" "I") (by decide +kernel)
  have hf15 := hts (.fieldLink RX5 15 "FinitePlanes$Table" "lines" "[I") (by decide +kernel)
  have hiX5 : ∀ w ∈ u_ws RX5 TX5 2, w ∈ wsX5_marks := by decide +kernel
  have hl := lv_entry ([.ref (ad 24)]) (n := 3) (Nat.le_of_ble_eq_true rfl)
  rw [lg_entry_eq]
  generalize (lg_sl ([.ref (ad 24)]) ++ List.replicate (3 - (lg_sl ([.ref (ad 24)])).length) Slot.unset).toArray = ls at hl ⊢
  have hl : lv_has ls 3 [(0, .ref (ad 24))] := hl
  refine lv_iconst (v := nI 0) hx hb dX5_marks_0 (by decide) ?_
  refine lv_istore_n (lv' := [(1, .int (nI 0)), (0, .ref (ad 24))]) hx hb dX5_marks_1 rfl hl (by decide) rfl (fun ls hl => ?_)
  refine lv_iconst (v := nI 0) hx hb dX5_marks_2 (by decide) ?_
  refine lv_istore_n (lv' := [(2, .int (nI 0)), (1, .int (nI 0)), (0, .ref (ad 24))]) hx hb dX5_marks_3 rfl hl (by decide) rfl (fun ls hl => ?_)
  have L4 : ∀ (N4 : Nat) (i : Nat) (x : Nat) (ls : Array Slot), w - i < N4 → (i ≤ w) → (x = sumq (fun t => pcn (ln t)) i) → lv_has ls 3 [(0, .ref (ad 24)), (1, .int (nI x)), (2, .int (nI i))] → WR p l e wsX5_marks { frames := 1, cells := 0, slots := 0, locals := 20 } s m [.ref (ad 24)] below meth c (.int (nI (sumq (fun t => pcn (ln t)) w))) 4 ls [] := by
    intro N4
    induction N4 with
    | zero => intro i x ls hN; exact absurd hN (Nat.not_lt_zero _)
    | succ N4 ih4 =>
      intro i x ls hN4 k_i k_x hl
      refine lv_iload_n hx hb dX5_marks_4 rfl (lv_at hl 2 rfl) ?_
      refine lv_aload_n hx hb dX5_marks_5 rfl (lv_at hl 0 rfl) ?_
      refine va_get (D := D) (ci := 5) (v := .int (nI w)) (C := RX5) (T := TX5) (N := 2) hx hb hts hiX5 hown hK hP 0 rfl rfl 0 (by decide) hf9 (fun _ h9 => h9) rfl dX5_marks_6 ?_
      refine nv_icmp_ge (tgt := 30) hx hb (by omega) (by omega) dX5_marks_9 (by decide) (fun c9 => ?_) (fun c9 => ?_)
      · refine lv_iload_n hx hb dX5_marks_30 rfl (lv_at hl 1 rfl) ?_
        exact ctR_ret (v := (nI x)) hx hb hr rfl dX5_marks_31 hlocks (by rw [k_x, show i = w by omega])
      · refine lv_iload_n hx hb dX5_marks_12 rfl (lv_at hl 1 rfl) ?_
        refine lv_aload_n hx hb dX5_marks_13 rfl (lv_at hl 0 rfl) ?_
        refine va_get (D := D) (ci := 5) (v := .ref (ad 25)) (C := RX5) (T := TX5) (N := 2) hx hb hts hiX5 hown hK hP 0 rfl rfl 1 (by decide) hf15 (fun _ h9 => h9) rfl dX5_marks_14 ?_
        refine lv_iload_n hx hb dX5_marks_17 rfl (lv_at hl 2 rfl) ?_
        refine nv_iald hx hb hK hP 1 0 rfl rfl (by omega) (by decide) dX5_marks_18 ?_
        refine ctR_S (As := [.int (nI (ln i))]) (rest := [.int (nI x)]) (r := .int (nI (pcn (ln i)))) ⟨hx, hb, hml, hown, hts⟩ (c_J6_bitCount_0f7a4 l D cI cZ (ln i) (k_l i (by omega))) (va_cwS 1 hts gX5_marks_J6_bitCount_0f7a4 rfl rfl rfl hdS_J6_bitCount_0f7a4 ⟨Nat.le_of_ble_eq_true rfl, Nat.le_of_ble_eq_true rfl⟩) hK hN hP [] rfl rfl hl.1 rfl (Nat.le_of_ble_eq_true rfl) ⟨Nat.zero_le _, Nat.zero_le _⟩ dX5_marks_19 ?_
        have hh_1 : pcn (ln i) ≤ 13 := pcn_le _
        refine nv_addE (r := x + (pcn (ln i))) hx hb rfl dX5_marks_22 ?_
        refine lv_istore_n (lv' := [(1, .int (nI (x + (pcn (ln i))))), (0, .ref (ad 24)), (2, .int (nI i))]) hx hb dX5_marks_23 rfl hl (by decide) rfl (fun ls hl => ?_)
        refine lv_iinc (v := nI (i + 1)) (lv' := [(2, .int (nI (i + 1))), (1, .int (nI (x + (pcn (ln i))))), (0, .ref (ad 24))]) hx hb dX5_marks_24 hl (k := 2) rfl (nI_inc i) (by decide) rfl (fun ls hl => ?_)
        refine lv_goto (tgt := 4) hx hb dX5_marks_27 (by decide) ?_
        exact ih4 (i + 1) (x + (pcn (ln i))) ls (by omega) (by omega) (by rw [sumq, k_x]) (lv_sub hl [2, 1, 0] rfl)
  exact L4 (w - 0 + 1) 0 0 ls (by omega) (Nat.zero_le _) rfl (lv_sub hl [2, 1, 0] rfl)

set_option maxHeartbeats 4000000 in
set_option maxRecDepth 100000 in
theorem c_X5_takePlane (l : Launch) (D : va_G) (cI cZ : ClassId) (ad : Nat → Nat) (q : Nat) (sm : Nat → Nat) (pr : Nat → Nat) (op : Nat → Nat) (iv : Nat → Nat) (hF : FOK q sm pr op iv) (tr : Nat → Nat) (ro : Nat → Nat) (hT : TOK q tr) (w : Nat) (ln : Nat → Nat) (k_q : q ≤ 3) : CtW (S := (Nat → Nat)) l yX5_takePlane wsX5_takePlane { frames := 3, cells := 0, slots := 0, locals := 68 } D (tyG cI cZ) [.ref (ad 24), .ref (ad 5)] [(ad 0, .inr (1, [.int (nI q), .ref (ad 1), .ref (ad 2), .ref (ad 3), .ref (ad 4)])), (ad 1, .inl (cI, 81, .inl (nF sm))), (ad 2, .inl (cI, 81, .inl (nF pr))), (ad 3, .inl (cI, 9, .inl (nF op))), (ad 4, .inl (cI, 9, .inl (nF iv))), (ad 5, .inr (3, [.ref (ad 0), .int (nI (nn q)), .ref (ad 6), .ref (ad 7)])), (ad 6, .inl (cI, 273, .inl (nF tr))), (ad 7, .inl (cI, 910, .inl (nF ro))), (ad 24, .inr (5, [.int (nI w), .ref (ad 25)])), (ad 25, .inl (cI, 13, .inl (nF ln)))] (fun (ln3 : Nat → Nat) => LNK ln3 ∧ (∀ t j, t < nn q → j < nn q → tbl ln3 t j = onq q j t) ∧ (∀ t j, t < 13 → j < 13 → ¬ (t < nn q ∧ j < nn q) → tbl ln3 t j = false)) (fun (ln3 : Nat → Nat) => none) (fun (ln3 : Nat → Nat) => [(ad 0, .inr (1, [.int (nI q), .ref (ad 1), .ref (ad 2), .ref (ad 3), .ref (ad 4)])), (ad 1, .inl (cI, 81, .inl (nF sm))), (ad 2, .inl (cI, 81, .inl (nF pr))), (ad 3, .inl (cI, 9, .inl (nF op))), (ad 4, .inl (cI, 9, .inl (nF iv))), (ad 5, .inr (3, [.ref (ad 0), .int (nI (nn q)), .ref (ad 6), .ref (ad 7)])), (ad 6, .inl (cI, 273, .inl (nF tr))), (ad 7, .inl (cI, 910, .inl (nF ro))), (ad 24, .inr (5, [.int (nI (nn q)), .ref (ad 25)])), (ad 25, .inl (cI, 13, .inl (nF ln3)))]) := by
  intro sz; refine Met.ofW (cc := cX5_takePlane) (maxL := 4) (ret := none) (by decide) rfl ?_
  intro p e s m args below meth c s₁ B hml hv
  obtain ⟨rfl, hsz, hP, hK, hD0, hN⟩ := hv
  have hx := B.exec
  have hb := B.bytes
  have hr := B.returns
  have hts := atoms_spec (ws := wsX5_takePlane) B.pre
  have hown : s.vm.findClass RX5 = some m.cls := findClass_of_methodNamed B.named
  have hlocks := B.notSynchronized
  subst hsz
  have hD := hD0.self (sz := s.heap.size)
  generalize hAe : va_A [(ad 0, .inr (1, [.int (nI q), .ref (ad 1), .ref (ad 2), .ref (ad 3), .ref (ad 4)])), (ad 1, .inl (cI, 81, .inl (nF sm))), (ad 2, .inl (cI, 81, .inl (nF pr))), (ad 3, .inl (cI, 9, .inl (nF op))), (ad 4, .inl (cI, 9, .inl (nF iv))), (ad 5, .inr (3, [.ref (ad 0), .int (nI (nn q)), .ref (ad 6), .ref (ad 7)])), (ad 6, .inl (cI, 273, .inl (nF tr))), (ad 7, .inl (cI, 910, .inl (nF ro))), (ad 24, .inr (5, [.int (nI w), .ref (ad 25)])), (ad 25, .inl (cI, 13, .inl (nF ln)))] s.heap.size = A at hD ⊢
  have hA : ∀ q : Nat, s.heap.size ≤ q → A q := fun q h => by rw [← hAe]; exact Or.inr h
  have hS : va_S A s.heap s.heap [] := va_S.rf
  have hP : va_P D vwCl [(ad 0, .inr (1, [.int (nI q), .ref (ad 1), .ref (ad 2), .ref (ad 3), .ref (ad 4)])), (ad 1, .inl (cI, 81, .inl (nF sm))), (ad 2, .inl (cI, 81, .inl (nF pr))), (ad 3, .inl (cI, 9, .inl (nF op))), (ad 4, .inl (cI, 9, .inl (nF iv))), (ad 5, .inr (3, [.ref (ad 0), .int (nI (nn q)), .ref (ad 6), .ref (ad 7)])), (ad 6, .inl (cI, 273, .inl (nF tr))), (ad 7, .inl (cI, 910, .inl (nF ro))), (ad 24, .inr (5, [.int (nI w), .ref (ad 25)])), (ad 25, .inl (cI, 13, .inl (nF ln)))] s.heap := hP
  have hf9 := hts (.fieldLink RX5 9 "FinitePlanes$Table" "w" "I") (by decide +kernel)
  have hf25 := hN.use (w := .fieldLinkNest RX5 25 "FinitePlanes$Plane" "n" "I" "FinitePlanes") (by decide +kernel) (A := [.ref (ad 24), .ref (ad 5)].toArray)
  have hiX3 : ∀ w ∈ u_ws RX3 TX3 4, w ∈ wsX5_takePlane := by decide +kernel
  have hiX5 : ∀ w ∈ u_ws RX5 TX5 2, w ∈ wsX5_takePlane := by decide +kernel
  have hl := lv_entry ([.ref (ad 24), .ref (ad 5)]) (n := 4) (Nat.le_of_ble_eq_true rfl)
  rw [lg_entry_eq]
  generalize (lg_sl ([.ref (ad 24), .ref (ad 5)]) ++ List.replicate (4 - (lg_sl ([.ref (ad 24), .ref (ad 5)])).length) Slot.unset).toArray = ls at hl ⊢
  have hl : lv_has ls 4 [(0, .ref (ad 24)), (1, .ref (ad 5))] := hl
  have hq2 := qs_le hF.1
  have hn2 := nn_le hF.1
  have hn13 : nn q ≤ 13 := by have h9 : q * q ≤ 3 * 3 := Nat.mul_le_mul k_q k_q; omega
  refine lv_aload_n hx hb dX5_takePlane_0 rfl (lv_at hl 0 rfl) ?_
  refine lv_aload_n hx hb dX5_takePlane_1 rfl (lv_at hl 1 rfl) ?_
  refine va_getN (D := D) (ci := 3) (v := .int (nI (nn q))) (C := RX3) (T := TX3) (N := 4) hx hb hts hiX3 hown hK hP 5 rfl rfl 1 (by decide) hf25 (fun _ h9 => h9) rfl dX5_takePlane_2 ?_
  refine lv_bipush (v := nI 13) hx hb dX5_takePlane_5 (by decide) ?_
  refine va_mmin hx hb (hml.trans hl.1.symm) hown (hts (.methodLink RX5 30 Lib.Math.min.name) (by decide +kernel)) (hts (.static Lib.Math.min.name) (by decide +kernel)) (hts (.initialized "java/lang/Math") (by decide +kernel)) (hts (.code Lib.Math.min.name Lib.Math.min.code 2 (some .int)) (by decide +kernel)) (Nat.le_of_ble_eq_true rfl) (Nat.le_of_ble_eq_true rfl) (Nat.zero_le _) (Nat.zero_le _) dX5_takePlane_7 ?_
  refine nv_top (congrArg Value.int (nI_min (by omega) (by decide))) ?_
  refine nv_top (v' := .int (nI (nn q))) (by rw [show Nmin (nn q) 13 = nn q from if_pos hn13]) ?_
  refine ctW_V (As := [.int (nI (nn q))]) (rest := []) (wr := [(ad 0, .inr (1, [.int (nI q), .ref (ad 1), .ref (ad 2), .ref (ad 3), .ref (ad 4)])), (ad 1, .inl (cI, 81, .inl (nF sm))), (ad 2, .inl (cI, 81, .inl (nF pr))), (ad 3, .inl (cI, 9, .inl (nF op))), (ad 4, .inl (cI, 9, .inl (nF iv))), (ad 5, .inr (3, [.ref (ad 0), .int (nI (nn q)), .ref (ad 6), .ref (ad 7)])), (ad 6, .inl (cI, 273, .inl (nF tr))), (ad 7, .inl (cI, 910, .inl (nF ro)))]) ⟨hx, hb, hml, hown, hts⟩ (c_X5_empty l D cI cZ ad w ln (nn q)) (cwV 1 hts gX5_takePlane_X5_empty rfl rfl rfl hdV_X5_empty ⟨Nat.le_of_ble_eq_true rfl, Nat.le_of_ble_eq_true rfl⟩) hK hN hP hD hS hA [8, 9] [0, 1, 2, 3, 4, 5, 6, 7] rfl rfl rfl (by decide) (by decide) (by decide) 8 5 rfl rfl rfl hl.1 rfl (Nat.le_of_ble_eq_true rfl) ⟨Nat.zero_le _, Nat.zero_le _⟩ dX5_takePlane_10 (fun ln_1 H locs hu10 hP hD hS => ?_)
  try dsimp only at hu10
  have hP : va_P D vwCl [(ad 0, .inr (1, [.int (nI q), .ref (ad 1), .ref (ad 2), .ref (ad 3), .ref (ad 4)])), (ad 1, .inl (cI, 81, .inl (nF sm))), (ad 2, .inl (cI, 81, .inl (nF pr))), (ad 3, .inl (cI, 9, .inl (nF op))), (ad 4, .inl (cI, 9, .inl (nF iv))), (ad 5, .inr (3, [.ref (ad 0), .int (nI (nn q)), .ref (ad 6), .ref (ad 7)])), (ad 6, .inl (cI, 273, .inl (nF tr))), (ad 7, .inl (cI, 910, .inl (nF ro))), (ad 24, .inr (5, [.int (nI (nn q)), .ref (ad 25)])), (ad 25, .inl (cI, 13, .inl (nF ln_1)))] H := hP.sub [0, 1, 2, 3, 4, 5, 6, 7, 8, 9] rfl
  have hD : va_D A [(ad 0, .inr (1, [.int (nI q), .ref (ad 1), .ref (ad 2), .ref (ad 3), .ref (ad 4)])), (ad 1, .inl (cI, 81, .inl (nF sm))), (ad 2, .inl (cI, 81, .inl (nF pr))), (ad 3, .inl (cI, 9, .inl (nF op))), (ad 4, .inl (cI, 9, .inl (nF iv))), (ad 5, .inr (3, [.ref (ad 0), .int (nI (nn q)), .ref (ad 6), .ref (ad 7)])), (ad 6, .inl (cI, 273, .inl (nF tr))), (ad 7, .inl (cI, 910, .inl (nF ro))), (ad 24, .inr (5, [.int (nI (nn q)), .ref (ad 25)])), (ad 25, .inl (cI, 13, .inl (nF ln_1)))] := hD.sub [0, 1, 2, 3, 4, 5, 6, 7, 8, 9] (by decide) rfl
  refine W.eq (g2 := F0 m 13 ls []) rfl ?_
  refine lv_iconst (v := nI 0) hx hb dX5_takePlane_13 (by decide) ?_
  refine lv_istore_n (lv' := [(2, .int (nI 0)), (0, .ref (ad 24)), (1, .ref (ad 5))]) hx hb dX5_takePlane_14 rfl hl (by decide) rfl (fun ls hl => ?_)
  have L15 : ∀ (N15 : Nat) (i : Nat) (n1 : Nat → Nat) (ls : Array Slot) (H : Heap) (locs : List Loc), nn q - i < N15 → (i ≤ nn q) → (LNK n1) → (∀ t j, t < 13 → j < 13 → tbl n1 t j = (decide (t < i ∧ j < nn q) && onq q j t)) → lv_has ls 4 [(0, .ref (ad 24)), (1, .ref (ad 5)), (2, .int (nI i))] → va_P D vwCl [(ad 0, .inr (1, [.int (nI q), .ref (ad 1), .ref (ad 2), .ref (ad 3), .ref (ad 4)])), (ad 1, .inl (cI, 81, .inl (nF sm))), (ad 2, .inl (cI, 81, .inl (nF pr))), (ad 3, .inl (cI, 9, .inl (nF op))), (ad 4, .inl (cI, 9, .inl (nF iv))), (ad 5, .inr (3, [.ref (ad 0), .int (nI (nn q)), .ref (ad 6), .ref (ad 7)])), (ad 6, .inl (cI, 273, .inl (nF tr))), (ad 7, .inl (cI, 910, .inl (nF ro))), (ad 24, .inr (5, [.int (nI (nn q)), .ref (ad 25)])), (ad 25, .inl (cI, 13, .inl (nF n1)))] H → va_D A [(ad 0, .inr (1, [.int (nI q), .ref (ad 1), .ref (ad 2), .ref (ad 3), .ref (ad 4)])), (ad 1, .inl (cI, 81, .inl (nF sm))), (ad 2, .inl (cI, 81, .inl (nF pr))), (ad 3, .inl (cI, 9, .inl (nF op))), (ad 4, .inl (cI, 9, .inl (nF iv))), (ad 5, .inr (3, [.ref (ad 0), .int (nI (nn q)), .ref (ad 6), .ref (ad 7)])), (ad 6, .inl (cI, 273, .inl (nF tr))), (ad 7, .inl (cI, 910, .inl (nF ro))), (ad 24, .inr (5, [.int (nI (nn q)), .ref (ad 25)])), (ad 25, .inl (cI, 13, .inl (nF n1)))] → va_S A s.heap H locs → WG p l e wsX5_takePlane { frames := 3, cells := 0, slots := 0, locals := 68 } s m [.ref (ad 24), .ref (ad 5)] below meth c H locs (CQ (S := (Nat → Nat)) D (fun (ln3 : Nat → Nat) => LNK ln3 ∧ (∀ t j, t < nn q → j < nn q → tbl ln3 t j = onq q j t) ∧ (∀ t j, t < 13 → j < 13 → ¬ (t < nn q ∧ j < nn q) → tbl ln3 t j = false)) (fun (ln3 : Nat → Nat) => none) (fun (ln3 : Nat → Nat) => [(ad 0, .inr (1, [.int (nI q), .ref (ad 1), .ref (ad 2), .ref (ad 3), .ref (ad 4)])), (ad 1, .inl (cI, 81, .inl (nF sm))), (ad 2, .inl (cI, 81, .inl (nF pr))), (ad 3, .inl (cI, 9, .inl (nF op))), (ad 4, .inl (cI, 9, .inl (nF iv))), (ad 5, .inr (3, [.ref (ad 0), .int (nI (nn q)), .ref (ad 6), .ref (ad 7)])), (ad 6, .inl (cI, 273, .inl (nF tr))), (ad 7, .inl (cI, 910, .inl (nF ro))), (ad 24, .inr (5, [.int (nI (nn q)), .ref (ad 25)])), (ad 25, .inl (cI, 13, .inl (nF ln3)))]) A) A 15 ls [] := by
    intro N15
    induction N15 with
    | zero => intro i n1 ls H locs hN; exact absurd hN (Nat.not_lt_zero _)
    | succ N15 ih15 =>
      intro i n1 ls H locs hN15 k_i k_l k_t hl hP hD hS
      refine lv_iload_n hx hb dX5_takePlane_15 rfl (lv_at hl 2 rfl) ?_
      refine lv_aload_n hx hb dX5_takePlane_16 rfl (lv_at hl 0 rfl) ?_
      refine va_get (D := D) (ci := 5) (v := .int (nI (nn q))) (C := RX5) (T := TX5) (N := 2) hx hb hts hiX5 hown hK hP 8 rfl rfl 0 (by decide) hf9 (fun _ h9 => h9) rfl dX5_takePlane_17 ?_
      refine nv_icmp_ge (tgt := 57) hx hb (by omega) (by omega) dX5_takePlane_20 (by decide) (fun c20 => ?_) (fun c20 => ?_)
      · exact ctW_retV n1 hx hb hr dX5_takePlane_57 hlocks hS hP hD ⟨k_l, fun t j ht hj => by rw [k_t t j (by omega) (by omega), decide_eq_true (by omega)]; rfl, fun t j ht hj hn => by rw [k_t t j ht hj, decide_eq_false (by omega)]; rfl⟩ rfl
      · refine lv_iconst (v := nI 0) hx hb dX5_takePlane_23 (by decide) ?_
        refine lv_istore_n (lv' := [(3, .int (nI 0)), (0, .ref (ad 24)), (1, .ref (ad 5)), (2, .int (nI i))]) hx hb dX5_takePlane_24 rfl hl (by decide) rfl (fun ls hl => ?_)
        have L25 : ∀ (N25 : Nat) (g : Nat) (n1 : Nat → Nat) (ls : Array Slot) (H : Heap) (locs : List Loc), nn q - g < N25 → (g ≤ nn q) → (LNK n1) → (∀ t j, t < 13 → j < 13 → tbl n1 t j = (decide (t < i ∧ j < nn q ∨ t = i ∧ j < g) && onq q j t)) → lv_has ls 4 [(0, .ref (ad 24)), (1, .ref (ad 5)), (2, .int (nI i)), (3, .int (nI g))] → va_P D vwCl [(ad 0, .inr (1, [.int (nI q), .ref (ad 1), .ref (ad 2), .ref (ad 3), .ref (ad 4)])), (ad 1, .inl (cI, 81, .inl (nF sm))), (ad 2, .inl (cI, 81, .inl (nF pr))), (ad 3, .inl (cI, 9, .inl (nF op))), (ad 4, .inl (cI, 9, .inl (nF iv))), (ad 5, .inr (3, [.ref (ad 0), .int (nI (nn q)), .ref (ad 6), .ref (ad 7)])), (ad 6, .inl (cI, 273, .inl (nF tr))), (ad 7, .inl (cI, 910, .inl (nF ro))), (ad 24, .inr (5, [.int (nI (nn q)), .ref (ad 25)])), (ad 25, .inl (cI, 13, .inl (nF n1)))] H → va_D A [(ad 0, .inr (1, [.int (nI q), .ref (ad 1), .ref (ad 2), .ref (ad 3), .ref (ad 4)])), (ad 1, .inl (cI, 81, .inl (nF sm))), (ad 2, .inl (cI, 81, .inl (nF pr))), (ad 3, .inl (cI, 9, .inl (nF op))), (ad 4, .inl (cI, 9, .inl (nF iv))), (ad 5, .inr (3, [.ref (ad 0), .int (nI (nn q)), .ref (ad 6), .ref (ad 7)])), (ad 6, .inl (cI, 273, .inl (nF tr))), (ad 7, .inl (cI, 910, .inl (nF ro))), (ad 24, .inr (5, [.int (nI (nn q)), .ref (ad 25)])), (ad 25, .inl (cI, 13, .inl (nF n1)))] → va_S A s.heap H locs → WG p l e wsX5_takePlane { frames := 3, cells := 0, slots := 0, locals := 68 } s m [.ref (ad 24), .ref (ad 5)] below meth c H locs (CQ (S := (Nat → Nat)) D (fun (ln3 : Nat → Nat) => LNK ln3 ∧ (∀ t j, t < nn q → j < nn q → tbl ln3 t j = onq q j t) ∧ (∀ t j, t < 13 → j < 13 → ¬ (t < nn q ∧ j < nn q) → tbl ln3 t j = false)) (fun (ln3 : Nat → Nat) => none) (fun (ln3 : Nat → Nat) => [(ad 0, .inr (1, [.int (nI q), .ref (ad 1), .ref (ad 2), .ref (ad 3), .ref (ad 4)])), (ad 1, .inl (cI, 81, .inl (nF sm))), (ad 2, .inl (cI, 81, .inl (nF pr))), (ad 3, .inl (cI, 9, .inl (nF op))), (ad 4, .inl (cI, 9, .inl (nF iv))), (ad 5, .inr (3, [.ref (ad 0), .int (nI (nn q)), .ref (ad 6), .ref (ad 7)])), (ad 6, .inl (cI, 273, .inl (nF tr))), (ad 7, .inl (cI, 910, .inl (nF ro))), (ad 24, .inr (5, [.int (nI (nn q)), .ref (ad 25)])), (ad 25, .inl (cI, 13, .inl (nF ln3)))]) A) A 25 ls [] := by
          intro N25
          induction N25 with
          | zero => intro g n1 ls H locs hN; exact absurd hN (Nat.not_lt_zero _)
          | succ N25 ih25 =>
            intro g n1 ls H locs hN25 k_g k_o k_u hl hP hD hS
            refine lv_iload_n hx hb dX5_takePlane_25 rfl (lv_at hl 3 rfl) ?_
            refine lv_aload_n hx hb dX5_takePlane_26 rfl (lv_at hl 0 rfl) ?_
            refine va_get (D := D) (ci := 5) (v := .int (nI (nn q))) (C := RX5) (T := TX5) (N := 2) hx hb hts hiX5 hown hK hP 8 rfl rfl 0 (by decide) hf9 (fun _ h9 => h9) rfl dX5_takePlane_27 ?_
            refine nv_icmp_ge (tgt := 51) hx hb (by omega) (by omega) dX5_takePlane_30 (by decide) (fun c30 => ?_) (fun c30 => ?_)
            · refine lv_iinc (v := nI (i + 1)) (lv' := [(2, .int (nI (i + 1))), (0, .ref (ad 24)), (1, .ref (ad 5)), (3, .int (nI g))]) hx hb dX5_takePlane_51 hl (k := 2) rfl (nI_inc i) (by decide) rfl (fun ls hl => ?_)
              refine lv_goto (tgt := 15) hx hb dX5_takePlane_54 (by decide) ?_
              exact ih15 (i + 1) n1 ls _ _ (by omega) (by omega) k_o (fun t j ht hj => by rw [k_u t j ht hj]; exact congrArg (fun z => z && onq q j t) (decide_eq_decide.mpr (by omega))) (lv_sub hl [1, 2, 0] rfl) hP hD hS
            · refine lv_aload_n hx hb dX5_takePlane_33 rfl (lv_at hl 0 rfl) ?_
              refine lv_iload_n hx hb dX5_takePlane_34 rfl (lv_at hl 2 rfl) ?_
              refine lv_iload_n hx hb dX5_takePlane_35 rfl (lv_at hl 3 rfl) ?_
              refine lv_aload_n hx hb dX5_takePlane_36 rfl (lv_at hl 1 rfl) ?_
              refine lv_iload_n hx hb dX5_takePlane_37 rfl (lv_at hl 3 rfl) ?_
              refine lv_iload_n hx hb dX5_takePlane_38 rfl (lv_at hl 2 rfl) ?_
              refine ctR_V (As := [.int (nI g), .int (nI i)]) (rest := [.int (nI g), .int (nI i), .ref (ad 24)]) (r := .int (nI (onq q g i).toNat)) ⟨hx, hb, hml, hown, hts⟩ (c_X3_isOn l D cI cZ ad q sm pr op iv hF tr ro hT g i (by omega) (by omega)) (cwV 2 hts gX5_takePlane_X3_isOn rfl rfl rfl hdV_X3_isOn ⟨Nat.le_of_ble_eq_true rfl, Nat.le_of_ble_eq_true rfl⟩) hK hN hP [0, 1, 2, 3, 4, 5, 6, 7] rfl 5 3 rfl rfl rfl hl.1 rfl (Nat.le_of_ble_eq_true rfl) ⟨Nat.zero_le _, Nat.zero_le _⟩ dX5_takePlane_39 ?_
              refine ctW_V (As := [.int (nI i), .int (nI g), .int (nI (onq q g i).toNat)]) (rest := []) (wr := [(ad 0, .inr (1, [.int (nI q), .ref (ad 1), .ref (ad 2), .ref (ad 3), .ref (ad 4)])), (ad 1, .inl (cI, 81, .inl (nF sm))), (ad 2, .inl (cI, 81, .inl (nF pr))), (ad 3, .inl (cI, 9, .inl (nF op))), (ad 4, .inl (cI, 9, .inl (nF iv))), (ad 5, .inr (3, [.ref (ad 0), .int (nI (nn q)), .ref (ad 6), .ref (ad 7)])), (ad 6, .inl (cI, 273, .inl (nF tr))), (ad 7, .inl (cI, 910, .inl (nF ro)))]) ⟨hx, hb, hml, hown, hts⟩ (c_X5_setMark l D cI cZ ad (nn q) n1 (by omega) k_o i g (by omega) (by omega) (onq q g i)) (cwV 3 hts gX5_takePlane_X5_setMark rfl rfl rfl hdV_X5_setMark ⟨Nat.le_of_ble_eq_true rfl, Nat.le_of_ble_eq_true rfl⟩) hK hN hP hD hS hA [8, 9] [0, 1, 2, 3, 4, 5, 6, 7] rfl rfl rfl (by decide) (by decide) (by decide) 8 5 rfl rfl rfl hl.1 rfl (Nat.le_of_ble_eq_true rfl) ⟨Nat.zero_le _, Nat.zero_le _⟩ dX5_takePlane_42 (fun _ H locs hu42 hP hD hS => ?_)
              try dsimp only at hu42
              have hP : va_P D vwCl [(ad 0, .inr (1, [.int (nI q), .ref (ad 1), .ref (ad 2), .ref (ad 3), .ref (ad 4)])), (ad 1, .inl (cI, 81, .inl (nF sm))), (ad 2, .inl (cI, 81, .inl (nF pr))), (ad 3, .inl (cI, 9, .inl (nF op))), (ad 4, .inl (cI, 9, .inl (nF iv))), (ad 5, .inr (3, [.ref (ad 0), .int (nI (nn q)), .ref (ad 6), .ref (ad 7)])), (ad 6, .inl (cI, 273, .inl (nF tr))), (ad 7, .inl (cI, 910, .inl (nF ro))), (ad 24, .inr (5, [.int (nI (nn q)), .ref (ad 25)])), (ad 25, .inl (cI, 13, .inl (nF (upN n1 i (smk (n1 i) g (onq q g i))))))] H := hP.sub [0, 1, 2, 3, 4, 5, 6, 7, 8, 9] rfl
              have hD : va_D A [(ad 0, .inr (1, [.int (nI q), .ref (ad 1), .ref (ad 2), .ref (ad 3), .ref (ad 4)])), (ad 1, .inl (cI, 81, .inl (nF sm))), (ad 2, .inl (cI, 81, .inl (nF pr))), (ad 3, .inl (cI, 9, .inl (nF op))), (ad 4, .inl (cI, 9, .inl (nF iv))), (ad 5, .inr (3, [.ref (ad 0), .int (nI (nn q)), .ref (ad 6), .ref (ad 7)])), (ad 6, .inl (cI, 273, .inl (nF tr))), (ad 7, .inl (cI, 910, .inl (nF ro))), (ad 24, .inr (5, [.int (nI (nn q)), .ref (ad 25)])), (ad 25, .inl (cI, 13, .inl (nF (upN n1 i (smk (n1 i) g (onq q g i))))))] := hD.sub [0, 1, 2, 3, 4, 5, 6, 7, 8, 9] (by decide) rfl
              refine W.eq (g2 := F0 m 45 ls []) rfl ?_
              refine lv_iinc (v := nI (g + 1)) (lv' := [(3, .int (nI (g + 1))), (0, .ref (ad 24)), (1, .ref (ad 5)), (2, .int (nI i))]) hx hb dX5_takePlane_45 hl (k := 3) rfl (nI_inc g) (by decide) rfl (fun ls hl => ?_)
              refine lv_goto (tgt := 25) hx hb dX5_takePlane_48 (by decide) ?_
              exact ih25 (g + 1) (upN n1 i (smk (n1 i) g (onq q g i))) ls _ _ (by omega) (by omega) (fun t ht => by by_cases z : t = i; (rw [z, upN_s]; exact smk_lt (k_o i (by omega)) (by omega)); (rw [upN_n z]; exact k_o t ht)) (fun t j ht hj => tp_step (by omega) (by omega) ht hj k_u) (lv_sub hl [1, 2, 3, 0] rfl) hP hD hS
        exact L25 (nn q - 0 + 1) 0 n1 ls _ _ (by omega) (Nat.zero_le _) k_l (fun t j ht hj => by rw [k_t t j ht hj]; exact congrArg (fun z => z && onq q j t) (decide_eq_decide.mpr (by omega))) (lv_sub hl [1, 2, 3, 0] rfl) hP hD hS
  exact L15 (nn q - 0 + 1) 0 ln_1 ls _ _ (by omega) (Nat.zero_le _) (fun t ht => by rw [hu10 t ht]; decide) (fun t j ht hj => by rw [tbl, hu10 t ht, decide_eq_false (by omega), Nat.zero_testBit]; rfl) (lv_sub hl [1, 2, 0] rfl) hP hD hS

set_option maxHeartbeats 4000000 in
set_option maxRecDepth 100000 in
theorem c_X5_linesWithBoth (l : Launch) (D : va_G) (cI cZ : ClassId) (ad : Nat → Nat) (w : Nat) (ln : Nat → Nat) (k_w : w ≤ 13) (k_l : LNK ln) (i : Nat) (j : Nat) (k_1 : i < 13) (k_2 : j < 13) : CtR l yX5_linesWithBoth wsX5_linesWithBoth { frames := 0, cells := 0, slots := 0, locals := 0 } D (tyG cI cZ) [.ref (ad 24), .int (nI i), .int (nI j)] [(ad 24, .inr (5, [.int (nI w), .ref (ad 25)])), (ad 25, .inl (cI, 13, .inl (nF ln)))] (.int (nI (cnt (fun t => tbl ln t i && tbl ln t j) w))) := by
  refine Met.ofW (cc := cX5_linesWithBoth) (maxL := 6) (ret := some .int) (by decide) rfl ?_
  intro p e s m args below meth c s₁ B hml hv
  obtain ⟨rfl, hP, hK, hN⟩ := hv
  have hx := B.exec
  have hb := B.bytes
  have hr := B.returns
  have hts := atoms_spec (ws := wsX5_linesWithBoth) B.pre
  have hown : s.vm.findClass RX5 = some m.cls := findClass_of_methodNamed B.named
  have hlocks := B.notSynchronized
  have hf9 := hts (.fieldLink RX5 9 "FinitePlanes$Table" "w" "I") (by decide +kernel)
  have hf15 := hts (.fieldLink RX5 15 "FinitePlanes$Table" "lines" "[I") (by decide +kernel)
  have hiX5 : ∀ w ∈ u_ws RX5 TX5 2, w ∈ wsX5_linesWithBoth := by decide +kernel
  have hl := lv_entry ([.ref (ad 24), .int (nI i), .int (nI j)]) (n := 6) (Nat.le_of_ble_eq_true rfl)
  rw [lg_entry_eq]
  generalize (lg_sl ([.ref (ad 24), .int (nI i), .int (nI j)]) ++ List.replicate (6 - (lg_sl ([.ref (ad 24), .int (nI i), .int (nI j)])).length) Slot.unset).toArray = ls at hl ⊢
  have hl : lv_has ls 6 [(0, .ref (ad 24)), (1, .int (nI i)), (2, .int (nI j))] := hl
  have hor : 2 ^ i ||| 2 ^ j < 8192 := Nat.or_lt_two_pow (n := 13) (pw_le k_1) (pw_le k_2)
  refine lv_iconst (v := nI 1) hx hb dX5_linesWithBoth_0 (by decide) ?_
  refine lv_iload_n hx hb dX5_linesWithBoth_1 rfl (lv_at hl 1 rfl) ?_
  refine lv_ishl hx hb dX5_linesWithBoth_2 ?_
  refine nv_top (v' := .int (nI (2 ^ i))) (congrArg Value.int (nx_bit1 k_1)) ?_
  refine lv_iconst (v := nI 1) hx hb dX5_linesWithBoth_3 (by decide) ?_
  refine lv_iload_n hx hb dX5_linesWithBoth_4 rfl (lv_at hl 2 rfl) ?_
  refine lv_ishl hx hb dX5_linesWithBoth_5 ?_
  refine nv_top (v' := .int (nI (2 ^ j))) (congrArg Value.int (nx_bit1 k_2)) ?_
  refine lv_ior hx hb dX5_linesWithBoth_6 ?_
  refine nv_top (v' := .int (nI (2 ^ i ||| 2 ^ j))) (congrArg Value.int (nx_or _ _)) ?_
  refine lv_istore_n (lv' := [(3, .int (nI (2 ^ i ||| 2 ^ j))), (0, .ref (ad 24)), (1, .int (nI i)), (2, .int (nI j))]) hx hb dX5_linesWithBoth_7 rfl hl (by decide) rfl (fun ls hl => ?_)
  refine lv_iconst (v := nI 0) hx hb dX5_linesWithBoth_8 (by decide) ?_
  refine lv_istore (lv' := [(4, .int (nI 0)), (3, .int (nI (2 ^ i ||| 2 ^ j))), (0, .ref (ad 24)), (1, .int (nI i)), (2, .int (nI j))]) hx hb dX5_linesWithBoth_9 hl (by decide) rfl (fun ls hl => ?_)
  refine lv_iconst (v := nI 0) hx hb dX5_linesWithBoth_11 (by decide) ?_
  refine lv_istore (lv' := [(5, .int (nI 0)), (4, .int (nI 0)), (3, .int (nI (2 ^ i ||| 2 ^ j))), (0, .ref (ad 24)), (1, .int (nI i)), (2, .int (nI j))]) hx hb dX5_linesWithBoth_12 hl (by decide) rfl (fun ls hl => ?_)
  have L14 : ∀ (N14 : Nat) (t : Nat) (x : Nat) (ls : Array Slot), w - t < N14 → (t ≤ w) → (x = cnt (fun t => tbl ln t i && tbl ln t j) t) → lv_has ls 6 [(0, .ref (ad 24)), (1, .int (nI i)), (2, .int (nI j)), (3, .int (nI (2 ^ i ||| 2 ^ j))), (4, .int (nI x)), (5, .int (nI t))] → WR p l e wsX5_linesWithBoth { frames := 0, cells := 0, slots := 0, locals := 0 } s m [.ref (ad 24), .int (nI i), .int (nI j)] below meth c (.int (nI (cnt (fun t => tbl ln t i && tbl ln t j) w))) 14 ls [] := by
    intro N14
    induction N14 with
    | zero => intro t x ls hN; exact absurd hN (Nat.not_lt_zero _)
    | succ N14 ih14 =>
      intro t x ls hN14 k_i k_x hl
      have hc := cnt_le (fun t => tbl ln t i && tbl ln t j) t
      refine lv_iload hx hb dX5_linesWithBoth_14 (lv_at hl 5 rfl) ?_
      refine lv_aload_n hx hb dX5_linesWithBoth_16 rfl (lv_at hl 0 rfl) ?_
      refine va_get (D := D) (ci := 5) (v := .int (nI w)) (C := RX5) (T := TX5) (N := 2) hx hb hts hiX5 hown hK hP 0 rfl rfl 0 (by decide) hf9 (fun _ h9 => h9) rfl dX5_linesWithBoth_17 ?_
      refine nv_icmp_ge (tgt := 45) hx hb (by omega) (by omega) dX5_linesWithBoth_20 (by decide) (fun c20 => ?_) (fun c20 => ?_)
      · refine lv_iload hx hb dX5_linesWithBoth_45 (lv_at hl 4 rfl) ?_
        exact ctR_ret (v := (nI x)) hx hb hr rfl dX5_linesWithBoth_47 hlocks (by rw [k_x, show t = w by omega])
      · refine lv_aload_n hx hb dX5_linesWithBoth_23 rfl (lv_at hl 0 rfl) ?_
        refine va_get (D := D) (ci := 5) (v := .ref (ad 25)) (C := RX5) (T := TX5) (N := 2) hx hb hts hiX5 hown hK hP 0 rfl rfl 1 (by decide) hf15 (fun _ h9 => h9) rfl dX5_linesWithBoth_24 ?_
        refine lv_iload hx hb dX5_linesWithBoth_27 (lv_at hl 5 rfl) ?_
        refine nv_iald hx hb hK hP 1 0 rfl rfl (by omega) (by decide) dX5_linesWithBoth_29 ?_
        refine lv_iload_n hx hb dX5_linesWithBoth_30 rfl (lv_at hl 3 rfl) ?_
        refine lv_iand hx hb dX5_linesWithBoth_31 ?_
        refine nv_top (v' := .int (nI (ln t &&& (2 ^ i ||| 2 ^ j)))) (congrArg Value.int (nx_and _ _)) ?_
        refine lv_iload_n hx hb dX5_linesWithBoth_32 rfl (lv_at hl 3 rfl) ?_
        refine nv_icmp_ne (tgt := 39) hx hb (Nat.lt_of_le_of_lt Nat.and_le_right (by omega)) (by omega) dX5_linesWithBoth_33 (by decide) (fun c33 => ?_) (fun c33 => ?_)
        · refine lv_iinc (v := nI (t + 1)) (lv' := [(5, .int (nI (t + 1))), (0, .ref (ad 24)), (1, .int (nI i)), (2, .int (nI j)), (3, .int (nI (2 ^ i ||| 2 ^ j))), (4, .int (nI x))]) hx hb dX5_linesWithBoth_39 hl (k := 5) rfl (nI_inc t) (by decide) rfl (fun ls hl => ?_)
          refine lv_goto (tgt := 14) hx hb dX5_linesWithBoth_42 (by decide) ?_
          exact ih14 (t + 1) x ls (by omega) (by omega) (by rw [cnt, show (tbl ln t i && tbl ln t j) = false from Bool.eq_false_iff.mpr (fun z => c33 (both_iff.mpr z)), k_x]; rfl) (lv_sub hl [1, 2, 3, 4, 5, 0] rfl)
        · refine lv_iinc (v := nI (x + 1)) (lv' := [(4, .int (nI (x + 1))), (0, .ref (ad 24)), (1, .int (nI i)), (2, .int (nI j)), (3, .int (nI (2 ^ i ||| 2 ^ j))), (5, .int (nI t))]) hx hb dX5_linesWithBoth_36 hl (k := 4) rfl (nI_inc x) (by decide) rfl (fun ls hl => ?_)
          refine lv_iinc (v := nI (t + 1)) (lv' := [(5, .int (nI (t + 1))), (4, .int (nI (x + 1))), (0, .ref (ad 24)), (1, .int (nI i)), (2, .int (nI j)), (3, .int (nI (2 ^ i ||| 2 ^ j)))]) hx hb dX5_linesWithBoth_39 hl (k := 5) rfl (nI_inc t) (by decide) rfl (fun ls hl => ?_)
          refine lv_goto (tgt := 14) hx hb dX5_linesWithBoth_42 (by decide) ?_
          exact ih14 (t + 1) (x + 1) ls (by omega) (by omega) (by rw [cnt, show (tbl ln t i && tbl ln t j) = true from both_iff.mp c33, k_x]; rfl) (lv_sub hl [2, 3, 4, 5, 1, 0] rfl)
  exact L14 (w - 0 + 1) 0 0 ls (by omega) (Nat.zero_le _) rfl (lv_sub hl [3, 4, 5, 2, 1, 0] rfl)

set_option maxHeartbeats 4000000 in
set_option maxRecDepth 100000 in
theorem c_X5_isFrameHere (l : Launch) (D : va_G) (cI cZ : ClassId) (ad : Nat → Nat) (w : Nat) (ln : Nat → Nat) (k_w : w ≤ 13) (k_l : LNK ln) (f : Nat) (k_1 : f < 8192) : CtR l yX5_isFrameHere wsX5_isFrameHere { frames := 1, cells := 0, slots := 0, locals := 20 } D (tyG cI cZ) [.ref (ad 24), .int (nI f)] [(ad 24, .inr (5, [.int (nI w), .ref (ad 25)])), (ad 25, .inl (cI, 13, .inl (nF ln)))] (.int (nI (allB (fun t => decide (pcn (ln t &&& f) ≤ 2)) w).toNat)) := by
  refine Met.ofW (cc := cX5_isFrameHere) (maxL := 3) (ret := some .boolean) (by decide) rfl ?_
  intro p e s m args below meth c s₁ B hml hv
  obtain ⟨rfl, hP, hK, hN⟩ := hv
  have hx := B.exec
  have hb := B.bytes
  have hr := B.returns
  have hts := atoms_spec (ws := wsX5_isFrameHere) B.pre
  have hown : s.vm.findClass RX5 = some m.cls := findClass_of_methodNamed B.named
  have hlocks := B.notSynchronized
  have hf9 := hts (.fieldLink RX5 9 "FinitePlanes$Table" "w" "I") (by decide +kernel)
  have hf15 := hts (.fieldLink RX5 15 "FinitePlanes$Table" "lines" "[I") (by decide +kernel)
  have hiX5 : ∀ w ∈ u_ws RX5 TX5 2, w ∈ wsX5_isFrameHere := by decide +kernel
  have hl := lv_entry ([.ref (ad 24), .int (nI f)]) (n := 3) (Nat.le_of_ble_eq_true rfl)
  rw [lg_entry_eq]
  generalize (lg_sl ([.ref (ad 24), .int (nI f)]) ++ List.replicate (3 - (lg_sl ([.ref (ad 24), .int (nI f)])).length) Slot.unset).toArray = ls at hl ⊢
  have hl : lv_has ls 3 [(0, .ref (ad 24)), (1, .int (nI f))] := hl
  refine lv_iconst (v := nI 0) hx hb dX5_isFrameHere_0 (by decide) ?_
  refine lv_istore_n (lv' := [(2, .int (nI 0)), (0, .ref (ad 24)), (1, .int (nI f))]) hx hb dX5_isFrameHere_1 rfl hl (by decide) rfl (fun ls hl => ?_)
  have L2 : ∀ (N2 : Nat) (i : Nat) (ls : Array Slot), w - i < N2 → (i ≤ w) → (allB (fun t => decide (pcn (ln t &&& f) ≤ 2)) i = true) → lv_has ls 3 [(0, .ref (ad 24)), (1, .int (nI f)), (2, .int (nI i))] → WR p l e wsX5_isFrameHere { frames := 1, cells := 0, slots := 0, locals := 20 } s m [.ref (ad 24), .int (nI f)] below meth c (.int (nI (allB (fun t => decide (pcn (ln t &&& f) ≤ 2)) w).toNat)) 2 ls [] := by
    intro N2
    induction N2 with
    | zero => intro i ls hN; exact absurd hN (Nat.not_lt_zero _)
    | succ N2 ih2 =>
      intro i ls hN2 k_i k_y hl
      refine lv_iload_n hx hb dX5_isFrameHere_2 rfl (lv_at hl 2 rfl) ?_
      refine lv_aload_n hx hb dX5_isFrameHere_3 rfl (lv_at hl 0 rfl) ?_
      refine va_get (D := D) (ci := 5) (v := .int (nI w)) (C := RX5) (T := TX5) (N := 2) hx hb hts hiX5 hown hK hP 0 rfl rfl 0 (by decide) hf9 (fun _ h9 => h9) rfl dX5_isFrameHere_4 ?_
      refine nv_icmp_ge (tgt := 33) hx hb (by omega) (by omega) dX5_isFrameHere_7 (by decide) (fun c7 => ?_) (fun c7 => ?_)
      · refine lv_iconst (v := nI 1) hx hb dX5_isFrameHere_33 (by decide) ?_
        exact ctR_ret (v := (nI 1)) hx hb hr (nar_bool true) dX5_isFrameHere_34 hlocks (by rw [← show i = w by omega, k_y]; rfl)
      · refine lv_aload_n hx hb dX5_isFrameHere_10 rfl (lv_at hl 0 rfl) ?_
        refine va_get (D := D) (ci := 5) (v := .ref (ad 25)) (C := RX5) (T := TX5) (N := 2) hx hb hts hiX5 hown hK hP 0 rfl rfl 1 (by decide) hf15 (fun _ h9 => h9) rfl dX5_isFrameHere_11 ?_
        refine lv_iload_n hx hb dX5_isFrameHere_14 rfl (lv_at hl 2 rfl) ?_
        refine nv_iald hx hb hK hP 1 0 rfl rfl (by omega) (by decide) dX5_isFrameHere_15 ?_
        refine lv_iload_n hx hb dX5_isFrameHere_16 rfl (lv_at hl 1 rfl) ?_
        refine lv_iand hx hb dX5_isFrameHere_17 ?_
        refine nv_top (v' := .int (nI (ln i &&& f))) (congrArg Value.int (nx_and _ _)) ?_
        refine ctR_S (As := [.int (nI (ln i &&& f))]) (rest := []) (r := .int (nI (pcn (ln i &&& f)))) ⟨hx, hb, hml, hown, hts⟩ (c_J6_bitCount_0f7a4 l D cI cZ (ln i &&& f) (Nat.lt_of_le_of_lt Nat.and_le_right k_1)) (va_cwS 1 hts gX5_isFrameHere_J6_bitCount_0f7a4 rfl rfl rfl hdS_J6_bitCount_0f7a4 ⟨Nat.le_of_ble_eq_true rfl, Nat.le_of_ble_eq_true rfl⟩) hK hN hP [] rfl rfl hl.1 rfl (Nat.le_of_ble_eq_true rfl) ⟨Nat.zero_le _, Nat.zero_le _⟩ dX5_isFrameHere_18 ?_
        have hh_1 : pcn (ln i &&& f) ≤ 13 := pcn_le _
        refine lv_iconst (v := nI 2) hx hb dX5_isFrameHere_21 (by decide) ?_
        refine nv_icmp_le (tgt := 27) hx hb (by omega) (by decide) dX5_isFrameHere_22 (by decide) (fun c22 => ?_) (fun c22 => ?_)
        · refine lv_iinc (v := nI (i + 1)) (lv' := [(2, .int (nI (i + 1))), (0, .ref (ad 24)), (1, .int (nI f))]) hx hb dX5_isFrameHere_27 hl (k := 2) rfl (nI_inc i) (by decide) rfl (fun ls hl => ?_)
          refine lv_goto (tgt := 2) hx hb dX5_isFrameHere_30 (by decide) ?_
          exact ih2 (i + 1) ls (by omega) (by omega) (by rw [allB, k_y, decide_eq_true c22]; rfl) (lv_sub hl [1, 2, 0] rfl)
        · refine lv_iconst (v := nI 0) hx hb dX5_isFrameHere_25 (by decide) ?_
          exact ctR_ret (v := (nI 0)) hx hb hr (nar_bool false) dX5_isFrameHere_26 hlocks (by rw [allB_f (i := i + 1) (by omega) (by rw [allB, decide_eq_false (by omega), Bool.and_false])]; rfl)
  exact L2 (w - 0 + 1) 0 ls (by omega) (Nat.zero_le _) rfl (lv_sub hl [1, 2, 0] rfl)

set_option maxHeartbeats 4000000 in
set_option maxRecDepth 100000 in
theorem c_X5_hasFrame (l : Launch) (D : va_G) (cI cZ : ClassId) (ad : Nat → Nat) (w : Nat) (ln : Nat → Nat) (k_w : w ≤ 13) (k_l : LNK ln) : CtR l yX5_hasFrame wsX5_hasFrame { frames := 2, cells := 0, slots := 0, locals := 42 } D (tyG cI cZ) [.ref (ad 24)] [(ad 24, .inr (5, [.int (nI w), .ref (ad 25)])), (ad 25, .inl (cI, 13, .inl (nF ln)))] (.int (nI (hasF ln w).toNat)) := by
  refine Met.ofW (cc := cX5_hasFrame) (maxL := 5) (ret := some .boolean) (by decide) rfl ?_
  intro p e s m args below meth c s₁ B hml hv
  obtain ⟨rfl, hP, hK, hN⟩ := hv
  have hx := B.exec
  have hb := B.bytes
  have hr := B.returns
  have hts := atoms_spec (ws := wsX5_hasFrame) B.pre
  have hown : s.vm.findClass RX5 = some m.cls := findClass_of_methodNamed B.named
  have hlocks := B.notSynchronized
  have hf9 := hts (.fieldLink RX5 9 "FinitePlanes$Table" "w" "I") (by decide +kernel)
  have hiX5 : ∀ w ∈ u_ws RX5 TX5 2, w ∈ wsX5_hasFrame := by decide +kernel
  have hl := lv_entry ([.ref (ad 24)]) (n := 5) (Nat.le_of_ble_eq_true rfl)
  rw [lg_entry_eq]
  generalize (lg_sl ([.ref (ad 24)]) ++ List.replicate (5 - (lg_sl ([.ref (ad 24)])).length) Slot.unset).toArray = ls at hl ⊢
  have hl : lv_has ls 5 [(0, .ref (ad 24))] := hl
  refine lv_iconst (v := nI 0) hx hb dX5_hasFrame_0 (by decide) ?_
  refine lv_istore_n (lv' := [(1, .int (nI 0)), (0, .ref (ad 24))]) hx hb dX5_hasFrame_1 rfl hl (by decide) rfl (fun ls hl => ?_)
  have L2 : ∀ (N2 : Nat) (a : Nat) (ls : Array Slot), w - a < N2 → (∀ a1 b1 c1 d1, a1 < a → a1 < b1 → b1 < c1 → c1 < d1 → d1 < w → frm ln w a1 b1 c1 d1 = false) → (a ≤ w) → lv_has ls 5 [(0, .ref (ad 24)), (1, .int (nI a))] → WR p l e wsX5_hasFrame { frames := 2, cells := 0, slots := 0, locals := 42 } s m [.ref (ad 24)] below meth c (.int (nI (hasF ln w).toNat)) 2 ls [] := by
    intro N2
    induction N2 with
    | zero => intro a ls hN; exact absurd hN (Nat.not_lt_zero _)
    | succ N2 ih2 =>
      intro a ls hN2 n1 k_a hl
      refine lv_iload_n hx hb dX5_hasFrame_2 rfl (lv_at hl 1 rfl) ?_
      refine lv_aload_n hx hb dX5_hasFrame_3 rfl (lv_at hl 0 rfl) ?_
      refine va_get (D := D) (ci := 5) (v := .int (nI w)) (C := RX5) (T := TX5) (N := 2) hx hb hts hiX5 hown hK hP 0 rfl rfl 0 (by decide) hf9 (fun _ h9 => h9) rfl dX5_hasFrame_4 ?_
      refine nv_icmp_ge (tgt := 97) hx hb (by omega) (by omega) dX5_hasFrame_7 (by decide) (fun c7 => ?_) (fun c7 => ?_)
      · refine lv_iconst (v := nI 0) hx hb dX5_hasFrame_97 (by decide) ?_
        exact ctR_ret (v := (nI 0)) hx hb hr (nar_bool false) dX5_hasFrame_98 hlocks (by rw [hasF_no (fun a1 b1 c1 d1 h0 => n1 a1 b1 c1 d1 (by omega))]; rfl)
      · refine lv_iload_n hx hb dX5_hasFrame_10 rfl (lv_at hl 1 rfl) ?_
        refine lv_iconst (v := nI 1) hx hb dX5_hasFrame_11 (by decide) ?_
        refine nv_addE (r := a + 1) hx hb rfl dX5_hasFrame_12 ?_
        refine lv_istore_n (lv' := [(2, .int (nI (a + 1))), (0, .ref (ad 24)), (1, .int (nI a))]) hx hb dX5_hasFrame_13 rfl hl (by decide) rfl (fun ls hl => ?_)
        have L14 : ∀ (N14 : Nat) (b : Nat) (ls : Array Slot), w - b < N14 → (∀ b1 c1 d1, a < b1 → b1 < b → b1 < c1 → c1 < d1 → d1 < w → frm ln w a b1 c1 d1 = false) → (a < b) → (b ≤ w) → lv_has ls 5 [(0, .ref (ad 24)), (1, .int (nI a)), (2, .int (nI b))] → WR p l e wsX5_hasFrame { frames := 2, cells := 0, slots := 0, locals := 42 } s m [.ref (ad 24)] below meth c (.int (nI (hasF ln w).toNat)) 14 ls [] := by
          intro N14
          induction N14 with
          | zero => intro b ls hN; exact absurd hN (Nat.not_lt_zero _)
          | succ N14 ih14 =>
            intro b ls hN14 n2 k_b k_b2 hl
            refine lv_iload_n hx hb dX5_hasFrame_14 rfl (lv_at hl 2 rfl) ?_
            refine lv_aload_n hx hb dX5_hasFrame_15 rfl (lv_at hl 0 rfl) ?_
            refine va_get (D := D) (ci := 5) (v := .int (nI w)) (C := RX5) (T := TX5) (N := 2) hx hb hts hiX5 hown hK hP 0 rfl rfl 0 (by decide) hf9 (fun _ h9 => h9) rfl dX5_hasFrame_16 ?_
            refine nv_icmp_ge (tgt := 91) hx hb (by omega) (by omega) dX5_hasFrame_19 (by decide) (fun c19 => ?_) (fun c19 => ?_)
            · refine lv_iinc (v := nI (a + 1)) (lv' := [(1, .int (nI (a + 1))), (0, .ref (ad 24)), (2, .int (nI b))]) hx hb dX5_hasFrame_91 hl (k := 1) rfl (nI_inc a) (by decide) rfl (fun ls hl => ?_)
              refine lv_goto (tgt := 2) hx hb dX5_hasFrame_94 (by decide) ?_
              exact ih2 (a + 1) ls (by omega) (fun a1 b1 c1 d1 h0 h1 h2 h3 h4 => (Nat.lt_succ_iff_lt_or_eq.mp h0).elim (fun z => n1 a1 b1 c1 d1 z h1 h2 h3 h4) (fun z => by subst z; exact n2 b1 c1 d1 h1 (by omega) h2 h3 h4)) (by omega) (lv_sub hl [1, 0] rfl)
            · refine lv_iload_n hx hb dX5_hasFrame_22 rfl (lv_at hl 2 rfl) ?_
              refine lv_iconst (v := nI 1) hx hb dX5_hasFrame_23 (by decide) ?_
              refine nv_addE (r := b + 1) hx hb rfl dX5_hasFrame_24 ?_
              refine lv_istore_n (lv' := [(3, .int (nI (b + 1))), (0, .ref (ad 24)), (1, .int (nI a)), (2, .int (nI b))]) hx hb dX5_hasFrame_25 rfl hl (by decide) rfl (fun ls hl => ?_)
              have L26 : ∀ (N26 : Nat) (g : Nat) (ls : Array Slot), w - g < N26 → (∀ c1 d1, b < c1 → c1 < g → c1 < d1 → d1 < w → frm ln w a b c1 d1 = false) → (b < g) → (g ≤ w) → lv_has ls 5 [(0, .ref (ad 24)), (1, .int (nI a)), (2, .int (nI b)), (3, .int (nI g))] → WR p l e wsX5_hasFrame { frames := 2, cells := 0, slots := 0, locals := 42 } s m [.ref (ad 24)] below meth c (.int (nI (hasF ln w).toNat)) 26 ls [] := by
                intro N26
                induction N26 with
                | zero => intro g ls hN; exact absurd hN (Nat.not_lt_zero _)
                | succ N26 ih26 =>
                  intro g ls hN26 n3 k_g k_g2 hl
                  refine lv_iload_n hx hb dX5_hasFrame_26 rfl (lv_at hl 3 rfl) ?_
                  refine lv_aload_n hx hb dX5_hasFrame_27 rfl (lv_at hl 0 rfl) ?_
                  refine va_get (D := D) (ci := 5) (v := .int (nI w)) (C := RX5) (T := TX5) (N := 2) hx hb hts hiX5 hown hK hP 0 rfl rfl 0 (by decide) hf9 (fun _ h9 => h9) rfl dX5_hasFrame_28 ?_
                  refine nv_icmp_ge (tgt := 85) hx hb (by omega) (by omega) dX5_hasFrame_31 (by decide) (fun c31 => ?_) (fun c31 => ?_)
                  · refine lv_iinc (v := nI (b + 1)) (lv' := [(2, .int (nI (b + 1))), (0, .ref (ad 24)), (1, .int (nI a)), (3, .int (nI g))]) hx hb dX5_hasFrame_85 hl (k := 2) rfl (nI_inc b) (by decide) rfl (fun ls hl => ?_)
                    refine lv_goto (tgt := 14) hx hb dX5_hasFrame_88 (by decide) ?_
                    exact ih14 (b + 1) ls (by omega) (fun b1 c1 d1 h0 h1 h2 h3 h4 => (Nat.lt_succ_iff_lt_or_eq.mp h1).elim (fun z => n2 b1 c1 d1 h0 z h2 h3 h4) (fun z => by subst z; exact n3 c1 d1 h2 (by omega) h3 h4)) (by omega) (by omega) (lv_sub hl [1, 2, 0] rfl)
                  · refine lv_iload_n hx hb dX5_hasFrame_34 rfl (lv_at hl 3 rfl) ?_
                    refine lv_iconst (v := nI 1) hx hb dX5_hasFrame_35 (by decide) ?_
                    refine nv_addE (r := g + 1) hx hb rfl dX5_hasFrame_36 ?_
                    refine lv_istore (lv' := [(4, .int (nI (g + 1))), (0, .ref (ad 24)), (1, .int (nI a)), (2, .int (nI b)), (3, .int (nI g))]) hx hb dX5_hasFrame_37 hl (by decide) rfl (fun ls hl => ?_)
                    have L39 : ∀ (N39 : Nat) (d : Nat) (ls : Array Slot), w - d < N39 → (∀ d1, g < d1 → d1 < d → frm ln w a b g d1 = false) → (g < d) → (d ≤ w) → lv_has ls 5 [(0, .ref (ad 24)), (1, .int (nI a)), (2, .int (nI b)), (3, .int (nI g)), (4, .int (nI d))] → WR p l e wsX5_hasFrame { frames := 2, cells := 0, slots := 0, locals := 42 } s m [.ref (ad 24)] below meth c (.int (nI (hasF ln w).toNat)) 39 ls [] := by
                      intro N39
                      induction N39 with
                      | zero => intro d ls hN; exact absurd hN (Nat.not_lt_zero _)
                      | succ N39 ih39 =>
                        intro d ls hN39 n4 k_d k_d2 hl
                        refine lv_iload hx hb dX5_hasFrame_39 (lv_at hl 4 rfl) ?_
                        refine lv_aload_n hx hb dX5_hasFrame_41 rfl (lv_at hl 0 rfl) ?_
                        refine va_get (D := D) (ci := 5) (v := .int (nI w)) (C := RX5) (T := TX5) (N := 2) hx hb hts hiX5 hown hK hP 0 rfl rfl 0 (by decide) hf9 (fun _ h9 => h9) rfl dX5_hasFrame_42 ?_
                        refine nv_icmp_ge (tgt := 79) hx hb (by omega) (by omega) dX5_hasFrame_45 (by decide) (fun c45 => ?_) (fun c45 => ?_)
                        · refine lv_iinc (v := nI (g + 1)) (lv' := [(3, .int (nI (g + 1))), (0, .ref (ad 24)), (1, .int (nI a)), (2, .int (nI b)), (4, .int (nI d))]) hx hb dX5_hasFrame_79 hl (k := 3) rfl (nI_inc g) (by decide) rfl (fun ls hl => ?_)
                          refine lv_goto (tgt := 26) hx hb dX5_hasFrame_82 (by decide) ?_
                          exact ih26 (g + 1) ls (by omega) (fun c1 d1 h0 h1 h2 h3 => (Nat.lt_succ_iff_lt_or_eq.mp h1).elim (fun z => n3 c1 d1 h0 z h2 h3) (fun z => by subst z; exact n4 d1 h2 (by omega))) (by omega) (by omega) (lv_sub hl [1, 2, 3, 0] rfl)
                        · refine lv_aload_n hx hb dX5_hasFrame_48 rfl (lv_at hl 0 rfl) ?_
                          refine lv_iconst (v := nI 1) hx hb dX5_hasFrame_49 (by decide) ?_
                          refine lv_iload_n hx hb dX5_hasFrame_50 rfl (lv_at hl 1 rfl) ?_
                          refine lv_ishl hx hb dX5_hasFrame_51 ?_
                          refine nv_top (v' := .int (nI (2 ^ a))) (congrArg Value.int (nx_bit1 (by omega))) ?_
                          refine lv_iconst (v := nI 1) hx hb dX5_hasFrame_52 (by decide) ?_
                          refine lv_iload_n hx hb dX5_hasFrame_53 rfl (lv_at hl 2 rfl) ?_
                          refine lv_ishl hx hb dX5_hasFrame_54 ?_
                          refine nv_top (v' := .int (nI (2 ^ b))) (congrArg Value.int (nx_bit1 (by omega))) ?_
                          refine lv_ior hx hb dX5_hasFrame_55 ?_
                          refine nv_top (v' := .int (nI (2 ^ a ||| 2 ^ b))) (congrArg Value.int (nx_or _ _)) ?_
                          refine lv_iconst (v := nI 1) hx hb dX5_hasFrame_56 (by decide) ?_
                          refine lv_iload_n hx hb dX5_hasFrame_57 rfl (lv_at hl 3 rfl) ?_
                          refine lv_ishl hx hb dX5_hasFrame_58 ?_
                          refine nv_top (v' := .int (nI (2 ^ g))) (congrArg Value.int (nx_bit1 (by omega))) ?_
                          refine lv_ior hx hb dX5_hasFrame_59 ?_
                          refine nv_top (v' := .int (nI (2 ^ a ||| 2 ^ b ||| 2 ^ g))) (congrArg Value.int (nx_or _ _)) ?_
                          refine lv_iconst (v := nI 1) hx hb dX5_hasFrame_60 (by decide) ?_
                          refine lv_iload hx hb dX5_hasFrame_61 (lv_at hl 4 rfl) ?_
                          refine lv_ishl hx hb dX5_hasFrame_63 ?_
                          refine nv_top (v' := .int (nI (2 ^ d))) (congrArg Value.int (nx_bit1 (by omega))) ?_
                          refine lv_ior hx hb dX5_hasFrame_64 ?_
                          refine nv_top (v' := .int (nI (2 ^ a ||| 2 ^ b ||| 2 ^ g ||| 2 ^ d))) (congrArg Value.int (nx_or _ _)) ?_
                          refine ctR_V (As := [.int (nI (2 ^ a ||| 2 ^ b ||| 2 ^ g ||| 2 ^ d))]) (rest := []) (r := .int (nI (allB (fun t => decide (pcn (ln t &&& (2 ^ a ||| 2 ^ b ||| 2 ^ g ||| 2 ^ d)) ≤ 2)) w).toNat)) ⟨hx, hb, hml, hown, hts⟩ (c_X5_isFrameHere l D cI cZ ad w ln k_w k_l (2 ^ a ||| 2 ^ b ||| 2 ^ g ||| 2 ^ d) (Nat.or_lt_two_pow (n := 13) (Nat.or_lt_two_pow (n := 13) (Nat.or_lt_two_pow (n := 13) (pw_le (by omega)) (pw_le (by omega))) (pw_le (by omega))) (pw_le (by omega)))) (cwV 1 hts gX5_hasFrame_X5_isFrameHere rfl rfl rfl hdV_X5_isFrameHere ⟨Nat.le_of_ble_eq_true rfl, Nat.le_of_ble_eq_true rfl⟩) hK hN hP [0, 1] rfl 0 5 rfl rfl rfl hl.1 rfl (Nat.le_of_ble_eq_true rfl) ⟨Nat.zero_le _, Nat.zero_le _⟩ dX5_hasFrame_65 ?_
                          refine nv_top (v' := .int (nI (frm ln w a b g d).toNat)) rfl ?_
                          refine nv_ifb_eq (tgt := 73) hx hb dX5_hasFrame_68 (by decide) (fun c68 => ?_) (fun c68 => ?_)
                          · refine lv_iinc (v := nI (d + 1)) (lv' := [(4, .int (nI (d + 1))), (0, .ref (ad 24)), (1, .int (nI a)), (2, .int (nI b)), (3, .int (nI g))]) hx hb dX5_hasFrame_73 hl (k := 4) rfl (nI_inc d) (by decide) rfl (fun ls hl => ?_)
                            refine lv_goto (tgt := 39) hx hb dX5_hasFrame_76 (by decide) ?_
                            exact ih39 (d + 1) ls (by omega) (fun d1 h0 h1 => (Nat.lt_succ_iff_lt_or_eq.mp h1).elim (fun z => n4 d1 h0 z) (fun z => by subst z; exact c68)) (by omega) (by omega) (lv_sub hl [1, 2, 3, 4, 0] rfl)
                          · refine lv_iconst (v := nI 1) hx hb dX5_hasFrame_71 (by decide) ?_
                            exact ctR_ret (v := (nI 1)) hx hb hr (nar_bool true) dX5_hasFrame_72 hlocks (by rw [hasF_yes k_b k_g k_d c45 c68]; rfl)
                    exact L39 (w - (g + 1) + 1) (g + 1) ls (by omega) (fun _ h h2 => absurd h (by omega)) (by omega) (by omega) (lv_sub hl [1, 2, 3, 4, 0] rfl)
              exact L26 (w - (b + 1) + 1) (b + 1) ls (by omega) (fun _ _ h h2 => absurd h (by omega)) (by omega) (by omega) (lv_sub hl [1, 2, 3, 0] rfl)
        exact L14 (w - (a + 1) + 1) (a + 1) ls (by omega) (fun _ _ _ h h2 => absurd h (by omega)) (by omega) (by omega) (lv_sub hl [1, 2, 0] rfl)
  exact L2 (w - 0 + 1) 0 ls (by omega) (fun _ _ _ _ h => absurd h (Nat.not_lt_zero _)) (Nat.zero_le _) (lv_sub hl [1, 0] rfl)

set_option maxHeartbeats 4000000 in
set_option maxRecDepth 100000 in
theorem c_X5_firstFlaw (l : Launch) (D : va_G) (cI cZ : ClassId) (ad : Nat → Nat) (w : Nat) (ln : Nat → Nat) (k_w : w ≤ 13) (k_l : LNK ln) : CtR l yX5_firstFlaw wsX5_firstFlaw { frames := 3, cells := 0, slots := 0, locals := 66 } D (tyG cI cZ) [.ref (ad 24)] [(ad 24, .inr (5, [.int (nI w), .ref (ad 25)])), (ad 25, .inl (cI, 13, .inl (nF ln)))] (.int (nI (flaN ln w 169))) := by
  refine Met.ofW (cc := cX5_firstFlaw) (maxL := 3) (ret := some .int) (by decide) rfl ?_
  intro p e s m args below meth c s₁ B hml hv
  obtain ⟨rfl, hP, hK, hN⟩ := hv
  have hx := B.exec
  have hb := B.bytes
  have hr := B.returns
  have hts := atoms_spec (ws := wsX5_firstFlaw) B.pre
  have hown : s.vm.findClass RX5 = some m.cls := findClass_of_methodNamed B.named
  have hlocks := B.notSynchronized
  have hf9 := hts (.fieldLink RX5 9 "FinitePlanes$Table" "w" "I") (by decide +kernel)
  have hf15 := hts (.fieldLink RX5 15 "FinitePlanes$Table" "lines" "[I") (by decide +kernel)
  have hiX5 : ∀ w ∈ u_ws RX5 TX5 2, w ∈ wsX5_firstFlaw := by decide +kernel
  have hl := lv_entry ([.ref (ad 24)]) (n := 3) (Nat.le_of_ble_eq_true rfl)
  rw [lg_entry_eq]
  generalize (lg_sl ([.ref (ad 24)]) ++ List.replicate (3 - (lg_sl ([.ref (ad 24)])).length) Slot.unset).toArray = ls at hl ⊢
  have hl : lv_has ls 3 [(0, .ref (ad 24))] := hl
  refine lv_iconst (v := nI 0) hx hb dX5_firstFlaw_0 (by decide) ?_
  refine lv_istore_n (lv' := [(1, .int (nI 0)), (0, .ref (ad 24))]) hx hb dX5_firstFlaw_1 rfl hl (by decide) rfl (fun ls hl => ?_)
  have L2 : ∀ (N2 : Nat) (a : Nat) (ls : Array Slot), w - a < N2 → (∀ t, t < a * 13 → badL ln w t = false) → (a ≤ w) → lv_has ls 3 [(0, .ref (ad 24)), (1, .int (nI a))] → WR p l e wsX5_firstFlaw { frames := 3, cells := 0, slots := 0, locals := 66 } s m [.ref (ad 24)] below meth c (.int (nI (flaN ln w 169))) 2 ls [] := by
    intro N2
    induction N2 with
    | zero => intro a ls hN; exact absurd hN (Nat.not_lt_zero _)
    | succ N2 ih2 =>
      intro a ls hN2 n1 k_a hl
      refine lv_iload_n hx hb dX5_firstFlaw_2 rfl (lv_at hl 1 rfl) ?_
      refine lv_aload_n hx hb dX5_firstFlaw_3 rfl (lv_at hl 0 rfl) ?_
      refine va_get (D := D) (ci := 5) (v := .int (nI w)) (C := RX5) (T := TX5) (N := 2) hx hb hts hiX5 hown hK hP 0 rfl rfl 0 (by decide) hf9 (fun _ h9 => h9) rfl dX5_firstFlaw_4 ?_
      refine nv_icmp_ge (tgt := 65) hx hb (by omega) (by omega) dX5_firstFlaw_7 (by decide) (fun c7 => ?_) (fun c7 => ?_)
      · have hL : fstT (badL ln w) 169 = none := fst_none (fun t ht => (Nat.lt_or_ge t (a * 13)).elim (n1 t) (fun z => badL_no (by omega)))
        refine lv_iconst (v := nI 0) hx hb dX5_firstFlaw_65 (by decide) ?_
        refine lv_istore_n (lv' := [(1, .int (nI 0)), (0, .ref (ad 24))]) hx hb dX5_firstFlaw_66 rfl hl (by decide) rfl (fun ls hl => ?_)
        have L67 : ∀ (N67 : Nat) (e1 : Nat) (ls : Array Slot), w - e1 < N67 → (∀ t, t < e1 * 13 → badP ln w t = false) → (e1 ≤ w) → lv_has ls 3 [(0, .ref (ad 24)), (1, .int (nI e1))] → WR p l e wsX5_firstFlaw { frames := 3, cells := 0, slots := 0, locals := 66 } s m [.ref (ad 24)] below meth c (.int (nI (flaN ln w 169))) 67 ls [] := by
          intro N67
          induction N67 with
          | zero => intro e1 ls hN; exact absurd hN (Nat.not_lt_zero _)
          | succ N67 ih67 =>
            intro e1 ls hN67 m1 k_e hl
            refine lv_iload_n hx hb dX5_firstFlaw_67 rfl (lv_at hl 1 rfl) ?_
            refine lv_aload_n hx hb dX5_firstFlaw_68 rfl (lv_at hl 0 rfl) ?_
            refine va_get (D := D) (ci := 5) (v := .int (nI w)) (C := RX5) (T := TX5) (N := 2) hx hb hts hiX5 hown hK hP 0 rfl rfl 0 (by decide) hf9 (fun _ h9 => h9) rfl dX5_firstFlaw_69 ?_
            refine nv_icmp_ge (tgt := 120) hx hb (by omega) (by omega) dX5_firstFlaw_72 (by decide) (fun c72 => ?_) (fun c72 => ?_)
            · have hP9 : fstT (badP ln w) 169 = none := fst_none (fun t ht => (Nat.lt_or_ge t (e1 * 13)).elim (m1 t) (fun z => badP_no (by omega)))
              refine lv_aload_n hx hb dX5_firstFlaw_120 rfl (lv_at hl 0 rfl) ?_
              refine ctR_V (As := []) (rest := []) (r := .int (nI (hasF ln w).toNat)) ⟨hx, hb, hml, hown, hts⟩ (c_X5_hasFrame l D cI cZ ad w ln k_w k_l) (cwV 0 hts gX5_firstFlaw_X5_hasFrame rfl rfl rfl hdV_X5_hasFrame ⟨Nat.le_of_ble_eq_true rfl, Nat.le_of_ble_eq_true rfl⟩) hK hN hP [0, 1] rfl 0 5 rfl rfl rfl hl.1 rfl (Nat.le_of_ble_eq_true rfl) ⟨Nat.zero_le _, Nat.zero_le _⟩ dX5_firstFlaw_121 ?_
              refine nv_ifb_eq (tgt := 131) hx hb dX5_firstFlaw_124 (by decide) (fun c124 => ?_) (fun c124 => ?_)
              · refine lv_sipush (v := nI 3000) hx hb dX5_firstFlaw_131 (by decide) ?_
                exact ctR_ret (v := (nI 3000)) hx hb hr rfl dX5_firstFlaw_134 hlocks (flaN_N hL hP9 c124)
              · refine lv_iconst (v := nI 0) hx hb dX5_firstFlaw_127 (by decide) ?_
                refine lv_goto (tgt := 134) hx hb dX5_firstFlaw_128 (by decide) ?_
                exact ctR_ret (v := (nI 0)) hx hb hr rfl dX5_firstFlaw_134 hlocks (flaN_F hL hP9 c124)
            · refine lv_iload_n hx hb dX5_firstFlaw_75 rfl (lv_at hl 1 rfl) ?_
              refine lv_iconst (v := nI 1) hx hb dX5_firstFlaw_76 (by decide) ?_
              refine nv_addE (r := e1 + 1) hx hb rfl dX5_firstFlaw_77 ?_
              refine lv_istore_n (lv' := [(2, .int (nI (e1 + 1))), (0, .ref (ad 24)), (1, .int (nI e1))]) hx hb dX5_firstFlaw_78 rfl hl (by decide) rfl (fun ls hl => ?_)
              have L79 : ∀ (N79 : Nat) (e2 : Nat) (ls : Array Slot), w - e2 < N79 → (∀ t, t < e1 * 13 + e2 → badP ln w t = false) → (e1 < e2) → (e2 ≤ w) → lv_has ls 3 [(0, .ref (ad 24)), (1, .int (nI e1)), (2, .int (nI e2))] → WR p l e wsX5_firstFlaw { frames := 3, cells := 0, slots := 0, locals := 66 } s m [.ref (ad 24)] below meth c (.int (nI (flaN ln w 169))) 79 ls [] := by
                intro N79
                induction N79 with
                | zero => intro e2 ls hN; exact absurd hN (Nat.not_lt_zero _)
                | succ N79 ih79 =>
                  intro e2 ls hN79 m2 k_f k_f2 hl
                  refine lv_iload_n hx hb dX5_firstFlaw_79 rfl (lv_at hl 2 rfl) ?_
                  refine lv_aload_n hx hb dX5_firstFlaw_80 rfl (lv_at hl 0 rfl) ?_
                  refine va_get (D := D) (ci := 5) (v := .int (nI w)) (C := RX5) (T := TX5) (N := 2) hx hb hts hiX5 hown hK hP 0 rfl rfl 0 (by decide) hf9 (fun _ h9 => h9) rfl dX5_firstFlaw_81 ?_
                  refine nv_icmp_ge (tgt := 114) hx hb (by omega) (by omega) dX5_firstFlaw_84 (by decide) (fun c84 => ?_) (fun c84 => ?_)
                  · refine lv_iinc (v := nI (e1 + 1)) (lv' := [(1, .int (nI (e1 + 1))), (0, .ref (ad 24)), (2, .int (nI e2))]) hx hb dX5_firstFlaw_114 hl (k := 1) rfl (nI_inc e1) (by decide) rfl (fun ls hl => ?_)
                    refine lv_goto (tgt := 67) hx hb dX5_firstFlaw_117 (by decide) ?_
                    exact ih67 (e1 + 1) ls (by omega) (fun t ht => (Nat.lt_or_ge t (e1 * 13 + e2)).elim (m2 t) (fun z => badP_no (by omega))) (by omega) (lv_sub hl [1, 0] rfl)
                  · refine lv_aload_n hx hb dX5_firstFlaw_87 rfl (lv_at hl 0 rfl) ?_
                    refine lv_iload_n hx hb dX5_firstFlaw_88 rfl (lv_at hl 1 rfl) ?_
                    refine lv_iload_n hx hb dX5_firstFlaw_89 rfl (lv_at hl 2 rfl) ?_
                    refine ctR_V (As := [.int (nI e1), .int (nI e2)]) (rest := []) (r := .int (nI (cnt (fun t => tbl ln t e1 && tbl ln t e2) w))) ⟨hx, hb, hml, hown, hts⟩ (c_X5_linesWithBoth l D cI cZ ad w ln k_w k_l e1 e2 (by omega) (by omega)) (cwV 2 hts gX5_firstFlaw_X5_linesWithBoth rfl rfl rfl hdV_X5_linesWithBoth ⟨Nat.le_of_ble_eq_true rfl, Nat.le_of_ble_eq_true rfl⟩) hK hN hP [0, 1] rfl 0 5 rfl rfl rfl hl.1 rfl (Nat.le_of_ble_eq_true rfl) ⟨Nat.zero_le _, Nat.zero_le _⟩ dX5_firstFlaw_90 ?_
                    have hh_1 : cnt (fun t => tbl ln t e1 && tbl ln t e2) w ≤ w := cnt_le _ _
                    refine lv_iconst (v := nI 1) hx hb dX5_firstFlaw_93 (by decide) ?_
                    refine nv_icmp_eq (tgt := 108) hx hb (by omega) (by decide) dX5_firstFlaw_94 (by decide) (fun c94 => ?_) (fun c94 => ?_)
                    · refine lv_iinc (v := nI (e2 + 1)) (lv' := [(2, .int (nI (e2 + 1))), (0, .ref (ad 24)), (1, .int (nI e1))]) hx hb dX5_firstFlaw_108 hl (k := 2) rfl (nI_inc e2) (by decide) rfl (fun ls hl => ?_)
                      refine lv_goto (tgt := 79) hx hb dX5_firstFlaw_111 (by decide) ?_
                      exact ih79 (e2 + 1) ls (by omega) (fun t ht => (show t < e1 * 13 + e2 ∨ t = e1 * 13 + e2 by omega).elim (m2 t) (fun z => by rw [z, badP_at k_f c84 k_w]; exact decide_eq_false (fun y => y c94))) (by omega) (by omega) (lv_sub hl [1, 2, 0] rfl)
                    · refine lv_sipush (v := nI 2000) hx hb dX5_firstFlaw_97 (by decide) ?_
                      refine lv_bipush (v := nI 20) hx hb dX5_firstFlaw_100 (by decide) ?_
                      refine lv_iload_n hx hb dX5_firstFlaw_102 rfl (lv_at hl 1 rfl) ?_
                      refine nv_mulE (r := 20 * e1) hx hb rfl dX5_firstFlaw_103 ?_
                      refine nv_addE (r := 2000 + (20 * e1)) hx hb rfl dX5_firstFlaw_104 ?_
                      refine lv_iload_n hx hb dX5_firstFlaw_105 rfl (lv_at hl 2 rfl) ?_
                      refine nv_addE (r := (2000 + (20 * e1)) + e2) hx hb rfl dX5_firstFlaw_106 ?_
                      exact ctR_ret (v := (nI ((2000 + (20 * e1)) + e2))) hx hb hr rfl dX5_firstFlaw_107 hlocks (flaN_P (by omega) hL (fst_some m2 (by rw [badP_at k_f c84 k_w]; exact decide_eq_true c94) (by omega)))
              exact L79 (w - (e1 + 1) + 1) (e1 + 1) ls (by omega) (fun t ht => (Nat.lt_or_ge t (e1 * 13)).elim (m1 t) (fun z => badP_no (by omega))) (by omega) (by omega) (lv_sub hl [1, 2, 0] rfl)
        exact L67 (w - 0 + 1) 0 ls (by omega) (fun t h => absurd h (by omega)) (Nat.zero_le _) (lv_sub hl [1, 0] rfl)
      · refine lv_iload_n hx hb dX5_firstFlaw_10 rfl (lv_at hl 1 rfl) ?_
        refine lv_iconst (v := nI 1) hx hb dX5_firstFlaw_11 (by decide) ?_
        refine nv_addE (r := a + 1) hx hb rfl dX5_firstFlaw_12 ?_
        refine lv_istore_n (lv' := [(2, .int (nI (a + 1))), (0, .ref (ad 24)), (1, .int (nI a))]) hx hb dX5_firstFlaw_13 rfl hl (by decide) rfl (fun ls hl => ?_)
        have L14 : ∀ (N14 : Nat) (b : Nat) (ls : Array Slot), w - b < N14 → (∀ t, t < a * 13 + b → badL ln w t = false) → (a < b) → (b ≤ w) → lv_has ls 3 [(0, .ref (ad 24)), (1, .int (nI a)), (2, .int (nI b))] → WR p l e wsX5_firstFlaw { frames := 3, cells := 0, slots := 0, locals := 66 } s m [.ref (ad 24)] below meth c (.int (nI (flaN ln w 169))) 14 ls [] := by
          intro N14
          induction N14 with
          | zero => intro b ls hN; exact absurd hN (Nat.not_lt_zero _)
          | succ N14 ih14 =>
            intro b ls hN14 n2 k_b k_b2 hl
            refine lv_iload_n hx hb dX5_firstFlaw_14 rfl (lv_at hl 2 rfl) ?_
            refine lv_aload_n hx hb dX5_firstFlaw_15 rfl (lv_at hl 0 rfl) ?_
            refine va_get (D := D) (ci := 5) (v := .int (nI w)) (C := RX5) (T := TX5) (N := 2) hx hb hts hiX5 hown hK hP 0 rfl rfl 0 (by decide) hf9 (fun _ h9 => h9) rfl dX5_firstFlaw_16 ?_
            refine nv_icmp_ge (tgt := 59) hx hb (by omega) (by omega) dX5_firstFlaw_19 (by decide) (fun c19 => ?_) (fun c19 => ?_)
            · refine lv_iinc (v := nI (a + 1)) (lv' := [(1, .int (nI (a + 1))), (0, .ref (ad 24)), (2, .int (nI b))]) hx hb dX5_firstFlaw_59 hl (k := 1) rfl (nI_inc a) (by decide) rfl (fun ls hl => ?_)
              refine lv_goto (tgt := 2) hx hb dX5_firstFlaw_62 (by decide) ?_
              exact ih2 (a + 1) ls (by omega) (fun t ht => (Nat.lt_or_ge t (a * 13 + b)).elim (n2 t) (fun z => badL_no (by omega))) (by omega) (lv_sub hl [1, 0] rfl)
            · refine lv_aload_n hx hb dX5_firstFlaw_22 rfl (lv_at hl 0 rfl) ?_
              refine va_get (D := D) (ci := 5) (v := .ref (ad 25)) (C := RX5) (T := TX5) (N := 2) hx hb hts hiX5 hown hK hP 0 rfl rfl 1 (by decide) hf15 (fun _ h9 => h9) rfl dX5_firstFlaw_23 ?_
              refine lv_iload_n hx hb dX5_firstFlaw_26 rfl (lv_at hl 1 rfl) ?_
              refine nv_iald hx hb hK hP 1 0 rfl rfl (by omega) (by decide) dX5_firstFlaw_27 ?_
              refine lv_aload_n hx hb dX5_firstFlaw_28 rfl (lv_at hl 0 rfl) ?_
              refine va_get (D := D) (ci := 5) (v := .ref (ad 25)) (C := RX5) (T := TX5) (N := 2) hx hb hts hiX5 hown hK hP 0 rfl rfl 1 (by decide) hf15 (fun _ h9 => h9) rfl dX5_firstFlaw_29 ?_
              refine lv_iload_n hx hb dX5_firstFlaw_32 rfl (lv_at hl 2 rfl) ?_
              refine nv_iald hx hb hK hP 1 0 rfl rfl (by omega) (by decide) dX5_firstFlaw_33 ?_
              refine lv_iand hx hb dX5_firstFlaw_34 ?_
              refine nv_top (v' := .int (nI (ln a &&& ln b))) (congrArg Value.int (nx_and _ _)) ?_
              refine ctR_S (As := [.int (nI (ln a &&& ln b))]) (rest := []) (r := .int (nI (pcn (ln a &&& ln b)))) ⟨hx, hb, hml, hown, hts⟩ (c_J6_bitCount_0f7a4 l D cI cZ (ln a &&& ln b) (Nat.lt_of_le_of_lt Nat.and_le_left (k_l a (by omega)))) (va_cwS 1 hts gX5_firstFlaw_J6_bitCount_0f7a4 rfl rfl rfl hdS_J6_bitCount_0f7a4 ⟨Nat.le_of_ble_eq_true rfl, Nat.le_of_ble_eq_true rfl⟩) hK hN hP [] rfl rfl hl.1 rfl (Nat.le_of_ble_eq_true rfl) ⟨Nat.zero_le _, Nat.zero_le _⟩ dX5_firstFlaw_35 ?_
              have hh_2 : pcn (ln a &&& ln b) ≤ 13 := pcn_le _
              refine lv_iconst (v := nI 1) hx hb dX5_firstFlaw_38 (by decide) ?_
              refine nv_icmp_eq (tgt := 53) hx hb (by omega) (by decide) dX5_firstFlaw_39 (by decide) (fun c39 => ?_) (fun c39 => ?_)
              · refine lv_iinc (v := nI (b + 1)) (lv' := [(2, .int (nI (b + 1))), (0, .ref (ad 24)), (1, .int (nI a))]) hx hb dX5_firstFlaw_53 hl (k := 2) rfl (nI_inc b) (by decide) rfl (fun ls hl => ?_)
                refine lv_goto (tgt := 14) hx hb dX5_firstFlaw_56 (by decide) ?_
                exact ih14 (b + 1) ls (by omega) (fun t ht => (show t < a * 13 + b ∨ t = a * 13 + b by omega).elim (n2 t) (fun z => by rw [z, badL_at k_b c19 k_w]; exact decide_eq_false (fun y => y c39))) (by omega) (by omega) (lv_sub hl [1, 2, 0] rfl)
              · refine lv_sipush (v := nI 1000) hx hb dX5_firstFlaw_42 (by decide) ?_
                refine lv_bipush (v := nI 20) hx hb dX5_firstFlaw_45 (by decide) ?_
                refine lv_iload_n hx hb dX5_firstFlaw_47 rfl (lv_at hl 1 rfl) ?_
                refine nv_mulE (r := 20 * a) hx hb rfl dX5_firstFlaw_48 ?_
                refine nv_addE (r := 1000 + (20 * a)) hx hb rfl dX5_firstFlaw_49 ?_
                refine lv_iload_n hx hb dX5_firstFlaw_50 rfl (lv_at hl 2 rfl) ?_
                refine nv_addE (r := (1000 + (20 * a)) + b) hx hb rfl dX5_firstFlaw_51 ?_
                exact ctR_ret (v := (nI ((1000 + (20 * a)) + b))) hx hb hr rfl dX5_firstFlaw_52 hlocks (flaN_L (by omega) (fst_some n2 (by rw [badL_at k_b c19 k_w]; exact decide_eq_true c39) (by omega)))
        exact L14 (w - (a + 1) + 1) (a + 1) ls (by omega) (fun t ht => (Nat.lt_or_ge t (a * 13)).elim (n1 t) (fun z => badL_no (by omega))) (by omega) (by omega) (lv_sub hl [1, 2, 0] rfl)
  exact L2 (w - 0 + 1) 0 ls (by omega) (fun t h => absurd h (by omega)) (Nat.zero_le _) (lv_sub hl [1, 0] rfl)

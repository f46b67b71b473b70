set_option maxHeartbeats 4000000 in
set_option maxRecDepth 100000 in
theorem c_X0_findPivot (l : Launch) (D : va_G) (cI cZ : ClassId) (ad : Nat → Nat) (mx : Nat → Nat) (a : Nat) (g : Nat) (k_1 : a ≤ 5) (k_2 : g < 6) (k_3 : ∀ r, r < 5 → mx (r * 6 + g) < 2 ^ 31) : CtR l yX0_findPivot wsX0_findPivot { frames := 0, cells := 0, slots := 0, locals := 0 } D (tyG cI cZ) [.ref (ad 12), .int (nI a), .int (nI g)] [(ad 12, .inr (0, [.ref (ad 5), .ref (ad 0), .ref (ad 13), .ref (ad 14), .ref (ad 15)])), (ad 14, .inl (cI, 30, .inl (nF mx)))] (.int (fpZ mx g (5 - a) a)) := by
  refine Met.ofW (cc := cX0_findPivot) (maxL := 4) (ret := some .int) (by decide) rfl ?_
  intro p e s m args below meth c s₁ B hml hv
  obtain ⟨rfl, hP, hK, hN⟩ := hv
  have hx := B.exec
  have hb := B.bytes
  have hr := B.returns
  have hts := atoms_spec (ws := wsX0_findPivot) B.pre
  have hown : s.vm.findClass RX0 = some m.cls := findClass_of_methodNamed B.named
  have hlocks := B.notSynchronized
  have hf15 := hts (.fieldLink RX0 15 "FinitePlanes$Conic" "matrix" "[I") (by decide +kernel)
  have hiX0 : ∀ w ∈ u_ws RX0 TX0 5, w ∈ wsX0_findPivot := by decide +kernel
  have hl := lv_entry ([.ref (ad 12), .int (nI a), .int (nI g)]) (n := 4) (Nat.le_of_ble_eq_true rfl)
  rw [lg_entry_eq]
  generalize (lg_sl ([.ref (ad 12), .int (nI a), .int (nI g)]) ++ List.replicate (4 - (lg_sl ([.ref (ad 12), .int (nI a), .int (nI g)])).length) Slot.unset).toArray = ls at hl ⊢
  have hl : lv_has ls 4 [(0, .ref (ad 12)), (1, .int (nI a)), (2, .int (nI g))] := hl
  refine lv_iload_n hx hb dX0_findPivot_0 rfl (lv_at hl 1 rfl) ?_
  refine lv_istore_n (lv' := [(3, .int (nI a)), (0, .ref (ad 12)), (1, .int (nI a)), (2, .int (nI g))]) hx hb dX0_findPivot_1 rfl hl (by decide) rfl (fun ls hl => ?_)
  have L2 : ∀ (N2 : Nat) (i : Nat) (ls : Array Slot), 5 - i < N2 → (i ≤ 5) → (fpZ mx g (5 - a) a = fpZ mx g (5 - i) i) → lv_has ls 4 [(0, .ref (ad 12)), (1, .int (nI a)), (2, .int (nI g)), (3, .int (nI i))] → WR p l e wsX0_findPivot { frames := 0, cells := 0, slots := 0, locals := 0 } s m [.ref (ad 12), .int (nI a), .int (nI g)] below meth c (.int (fpZ mx g (5 - a) a)) 2 ls [] := by
    intro N2
    induction N2 with
    | zero => intro i ls hN; exact absurd hN (Nat.not_lt_zero _)
    | succ N2 ih2 =>
      intro i ls hN2 k_i k_s hl
      refine lv_iload_n hx hb dX0_findPivot_2 rfl (lv_at hl 3 rfl) ?_
      refine lv_iconst (v := nI 5) hx hb dX0_findPivot_3 (by decide) ?_
      refine nv_icmp_ge (tgt := 29) hx hb (by omega) (by decide) dX0_findPivot_4 (by decide) (fun c4 => ?_) (fun c4 => ?_)
      · refine lv_iconst (v := (-1)) hx hb dX0_findPivot_29 (by decide) ?_
        exact ctR_ret (v := (-1)) hx hb hr rfl dX0_findPivot_30 hlocks (by rw [k_s, fpZ_e c4])
      · refine lv_aload_n hx hb dX0_findPivot_7 rfl (lv_at hl 0 rfl) ?_
        refine va_get (D := D) (ci := 0) (v := .ref (ad 14)) (C := RX0) (T := TX0) (N := 5) hx hb hts hiX0 hown hK hP 0 rfl rfl 3 (by decide) hf15 (fun _ h9 => h9) rfl dX0_findPivot_8 ?_
        refine lv_iload_n hx hb dX0_findPivot_11 rfl (lv_at hl 3 rfl) ?_
        refine lv_bipush (v := nI 6) hx hb dX0_findPivot_12 (by decide) ?_
        refine nv_mulE (r := i * 6) hx hb rfl dX0_findPivot_14 ?_
        refine lv_iload_n hx hb dX0_findPivot_15 rfl (lv_at hl 2 rfl) ?_
        refine nv_addE (r := (i * 6) + g) hx hb rfl dX0_findPivot_16 ?_
        refine nv_iald hx hb hK hP 1 0 rfl rfl (by omega) (by decide) dX0_findPivot_17 ?_
        refine nv_if_eq (tgt := 23) hx hb (k_3 i c4) dX0_findPivot_18 (by decide) (fun c18 => ?_) (fun c18 => ?_)
        · refine lv_iinc (v := nI (i + 1)) (lv' := [(3, .int (nI (i + 1))), (0, .ref (ad 12)), (1, .int (nI a)), (2, .int (nI g))]) hx hb dX0_findPivot_23 hl (k := 3) rfl (nI_inc i) (by decide) rfl (fun ls hl => ?_)
          refine lv_goto (tgt := 2) hx hb dX0_findPivot_26 (by decide) ?_
          exact ih2 (i + 1) ls (by omega) (by omega) (k_s.trans (fpZ_s0 c4 c18)) (lv_sub hl [1, 2, 3, 0] rfl)
        · refine lv_iload_n hx hb dX0_findPivot_21 rfl (lv_at hl 3 rfl) ?_
          exact ctR_ret (v := (nI i)) hx hb hr rfl dX0_findPivot_22 hlocks (by rw [k_s, fpZ_s1 c4 c18])
  exact L2 (5 - a + 1) a ls (by omega) k_1 rfl (lv_sub hl [1, 2, 3, 0] rfl)

set_option maxHeartbeats 4000000 in
set_option maxRecDepth 100000 in
theorem c_X0_swapRows (l : Launch) (D : va_G) (cI cZ : ClassId) (ad : Nat → Nat) (mx : Nat → Nat) (a : Nat) (b : Nat) (k_1 : a < 5) (k_2 : b < 5) : CtW (S := (Nat → Nat)) l yX0_swapRows wsX0_swapRows { frames := 0, cells := 0, slots := 0, locals := 0 } D (tyG cI cZ) [.ref (ad 12), .int (nI a), .int (nI b)] [(ad 12, .inr (0, [.ref (ad 5), .ref (ad 0), .ref (ad 13), .ref (ad 14), .ref (ad 15)])), (ad 14, .inl (cI, 30, .inl (nF mx)))] (fun (mx3 : Nat → Nat) => eqM mx3 (swF mx a b)) (fun (mx3 : Nat → Nat) => none) (fun (mx3 : Nat → Nat) => [(ad 12, .inr (0, [.ref (ad 5), .ref (ad 0), .ref (ad 13), .ref (ad 14), .ref (ad 15)])), (ad 14, .inl (cI, 30, .inl (nF mx3)))]) := by
  intro sz; refine Met.ofW (cc := cX0_swapRows) (maxL := 5) (ret := none) (by decide) rfl ?_
  intro p e s m args below meth c s₁ B hml hv
  obtain ⟨rfl, hsz, hP, hK, hD0, hN⟩ := hv
  have hx := B.exec
  have hb := B.bytes
  have hr := B.returns
  have hts := atoms_spec (ws := wsX0_swapRows) B.pre
  have hown : s.vm.findClass RX0 = some m.cls := findClass_of_methodNamed B.named
  have hlocks := B.notSynchronized
  subst hsz
  have hD := hD0.self (sz := s.heap.size)
  generalize hAe : va_A [(ad 12, .inr (0, [.ref (ad 5), .ref (ad 0), .ref (ad 13), .ref (ad 14), .ref (ad 15)])), (ad 14, .inl (cI, 30, .inl (nF mx)))] s.heap.size = A at hD ⊢
  have hA : ∀ q : Nat, s.heap.size ≤ q → A q := fun q h => by rw [← hAe]; exact Or.inr h
  have hS : va_S A s.heap s.heap [] := va_S.rf
  have hP : va_P D vwCl [(ad 12, .inr (0, [.ref (ad 5), .ref (ad 0), .ref (ad 13), .ref (ad 14), .ref (ad 15)])), (ad 14, .inl (cI, 30, .inl (nF mx)))] s.heap := hP
  have hf15 := hts (.fieldLink RX0 15 "FinitePlanes$Conic" "matrix" "[I") (by decide +kernel)
  have hiX0 : ∀ w ∈ u_ws RX0 TX0 5, w ∈ wsX0_swapRows := by decide +kernel
  have hl := lv_entry ([.ref (ad 12), .int (nI a), .int (nI b)]) (n := 5) (Nat.le_of_ble_eq_true rfl)
  rw [lg_entry_eq]
  generalize (lg_sl ([.ref (ad 12), .int (nI a), .int (nI b)]) ++ List.replicate (5 - (lg_sl ([.ref (ad 12), .int (nI a), .int (nI b)])).length) Slot.unset).toArray = ls at hl ⊢
  have hl : lv_has ls 5 [(0, .ref (ad 12)), (1, .int (nI a)), (2, .int (nI b))] := hl
  refine lv_iconst (v := nI 0) hx hb dX0_swapRows_0 (by decide) ?_
  refine lv_istore_n (lv' := [(3, .int (nI 0)), (0, .ref (ad 12)), (1, .int (nI a)), (2, .int (nI b))]) hx hb dX0_swapRows_1 rfl hl (by decide) rfl (fun ls hl => ?_)
  have L2 : ∀ (N2 : Nat) (i : Nat) (m1 : Nat → Nat) (ls : Array Slot) (H : Heap) (locs : List Loc), 6 - i < N2 → (i ≤ 6) → (half mx (swF mx a b) i m1) → lv_has ls 5 [(0, .ref (ad 12)), (1, .int (nI a)), (2, .int (nI b)), (3, .int (nI i))] → va_P D vwCl [(ad 12, .inr (0, [.ref (ad 5), .ref (ad 0), .ref (ad 13), .ref (ad 14), .ref (ad 15)])), (ad 14, .inl (cI, 30, .inl (nF m1)))] H → va_D A [(ad 12, .inr (0, [.ref (ad 5), .ref (ad 0), .ref (ad 13), .ref (ad 14), .ref (ad 15)])), (ad 14, .inl (cI, 30, .inl (nF m1)))] → va_S A s.heap H locs → WG p l e wsX0_swapRows { frames := 0, cells := 0, slots := 0, locals := 0 } s m [.ref (ad 12), .int (nI a), .int (nI b)] below meth c H locs (CQ (S := (Nat → Nat)) D (fun (mx3 : Nat → Nat) => eqM mx3 (swF mx a b)) (fun (mx3 : Nat → Nat) => none) (fun (mx3 : Nat → Nat) => [(ad 12, .inr (0, [.ref (ad 5), .ref (ad 0), .ref (ad 13), .ref (ad 14), .ref (ad 15)])), (ad 14, .inl (cI, 30, .inl (nF mx3)))]) A) A 2 ls [] := by
    intro N2
    induction N2 with
    | zero => intro i m1 ls H locs hN; exact absurd hN (Nat.not_lt_zero _)
    | succ N2 ih2 =>
      intro i m1 ls H locs hN2 k_i k_s hl hP hD hS
      refine lv_iload_n hx hb dX0_swapRows_2 rfl (lv_at hl 3 rfl) ?_
      refine lv_bipush (v := nI 6) hx hb dX0_swapRows_3 (by decide) ?_
      refine nv_icmp_ge (tgt := 62) hx hb (by omega) (by decide) dX0_swapRows_5 (by decide) (fun c5 => ?_) (fun c5 => ?_)
      · exact ctW_retV m1 hx hb hr dX0_swapRows_62 hlocks hS hP hD (half_e k_s c5) rfl
      · refine lv_aload_n hx hb dX0_swapRows_8 rfl (lv_at hl 0 rfl) ?_
        refine va_get (D := D) (ci := 0) (v := .ref (ad 14)) (C := RX0) (T := TX0) (N := 5) hx hb hts hiX0 hown hK hP 0 rfl rfl 3 (by decide) hf15 (fun _ h9 => h9) rfl dX0_swapRows_9 ?_
        refine lv_iload_n hx hb dX0_swapRows_12 rfl (lv_at hl 1 rfl) ?_
        refine lv_bipush (v := nI 6) hx hb dX0_swapRows_13 (by decide) ?_
        refine nv_mulE (r := a * 6) hx hb rfl dX0_swapRows_15 ?_
        refine lv_iload_n hx hb dX0_swapRows_16 rfl (lv_at hl 3 rfl) ?_
        refine nv_addE (r := (a * 6) + i) hx hb rfl dX0_swapRows_17 ?_
        refine nv_iald hx hb hK hP 1 0 rfl rfl (by omega) (by decide) dX0_swapRows_18 ?_
        refine lv_istore (lv' := [(4, .int (nI (m1 ((a * 6) + i)))), (0, .ref (ad 12)), (1, .int (nI a)), (2, .int (nI b)), (3, .int (nI i))]) hx hb dX0_swapRows_19 hl (by decide) rfl (fun ls hl => ?_)
        refine lv_aload_n hx hb dX0_swapRows_21 rfl (lv_at hl 1 rfl) ?_
        refine va_get (D := D) (ci := 0) (v := .ref (ad 14)) (C := RX0) (T := TX0) (N := 5) hx hb hts hiX0 hown hK hP 0 rfl rfl 3 (by decide) hf15 (fun _ h9 => h9) rfl dX0_swapRows_22 ?_
        refine lv_iload_n hx hb dX0_swapRows_25 rfl (lv_at hl 2 rfl) ?_
        refine lv_bipush (v := nI 6) hx hb dX0_swapRows_26 (by decide) ?_
        refine nv_mulE (r := a * 6) hx hb rfl dX0_swapRows_28 ?_
        refine lv_iload_n hx hb dX0_swapRows_29 rfl (lv_at hl 4 rfl) ?_
        refine nv_addE (r := (a * 6) + i) hx hb rfl dX0_swapRows_30 ?_
        refine lv_aload_n hx hb dX0_swapRows_31 rfl (lv_at hl 1 rfl) ?_
        refine va_get (D := D) (ci := 0) (v := .ref (ad 14)) (C := RX0) (T := TX0) (N := 5) hx hb hts hiX0 hown hK hP 0 rfl rfl 3 (by decide) hf15 (fun _ h9 => h9) rfl dX0_swapRows_32 ?_
        refine lv_iload_n hx hb dX0_swapRows_35 rfl (lv_at hl 3 rfl) ?_
        refine lv_bipush (v := nI 6) hx hb dX0_swapRows_36 (by decide) ?_
        refine nv_mulE (r := b * 6) hx hb rfl dX0_swapRows_38 ?_
        refine lv_iload_n hx hb dX0_swapRows_39 rfl (lv_at hl 4 rfl) ?_
        refine nv_addE (r := (b * 6) + i) hx hb rfl dX0_swapRows_40 ?_
        refine nv_iald hx hb hK hP 1 0 rfl rfl (by omega) (by decide) dX0_swapRows_41 ?_
        refine nv_iast hx hb hK hP hD hS 1 0 rfl rfl (by omega) (by decide) dX0_swapRows_42 (fun H locs hP hD hS => ?_)
        have hP : va_P D vwCl [(ad 12, .inr (0, [.ref (ad 5), .ref (ad 0), .ref (ad 13), .ref (ad 14), .ref (ad 15)])), (ad 14, .inl (cI, 30, .inl (nF (upN m1 ((a * 6) + i) (m1 ((b * 6) + i))))))] H := hP
        have hD : va_D A [(ad 12, .inr (0, [.ref (ad 5), .ref (ad 0), .ref (ad 13), .ref (ad 14), .ref (ad 15)])), (ad 14, .inl (cI, 30, .inl (nF (upN m1 ((a * 6) + i) (m1 ((b * 6) + i))))))] := hD
        refine lv_aload_n hx hb dX0_swapRows_43 rfl (lv_at hl 1 rfl) ?_
        refine va_get (D := D) (ci := 0) (v := .ref (ad 14)) (C := RX0) (T := TX0) (N := 5) hx hb hts hiX0 hown hK hP 0 rfl rfl 3 (by decide) hf15 (fun _ h9 => h9) rfl dX0_swapRows_44 ?_
        refine lv_iload_n hx hb dX0_swapRows_47 rfl (lv_at hl 3 rfl) ?_
        refine lv_bipush (v := nI 6) hx hb dX0_swapRows_48 (by decide) ?_
        refine nv_mulE (r := b * 6) hx hb rfl dX0_swapRows_50 ?_
        refine lv_iload_n hx hb dX0_swapRows_51 rfl (lv_at hl 4 rfl) ?_
        refine nv_addE (r := (b * 6) + i) hx hb rfl dX0_swapRows_52 ?_
        refine lv_iload hx hb dX0_swapRows_53 (lv_at hl 0 rfl) ?_
        refine nv_iast hx hb hK hP hD hS 1 0 rfl rfl (by omega) (by decide) dX0_swapRows_55 (fun H locs hP hD hS => ?_)
        have hP : va_P D vwCl [(ad 12, .inr (0, [.ref (ad 5), .ref (ad 0), .ref (ad 13), .ref (ad 14), .ref (ad 15)])), (ad 14, .inl (cI, 30, .inl (nF (upN (upN m1 ((a * 6) + i) (m1 ((b * 6) + i))) ((b * 6) + i) (m1 ((a * 6) + i))))))] H := hP
        have hD : va_D A [(ad 12, .inr (0, [.ref (ad 5), .ref (ad 0), .ref (ad 13), .ref (ad 14), .ref (ad 15)])), (ad 14, .inl (cI, 30, .inl (nF (upN (upN m1 ((a * 6) + i) (m1 ((b * 6) + i))) ((b * 6) + i) (m1 ((a * 6) + i))))))] := hD
        refine lv_iinc (v := nI (i + 1)) (lv' := [(3, .int (nI (i + 1))), (4, .int (nI (m1 ((a * 6) + i)))), (0, .ref (ad 12)), (1, .int (nI a)), (2, .int (nI b))]) hx hb dX0_swapRows_56 hl (k := 4) rfl (nI_inc i) (by decide) rfl (fun ls hl => ?_)
        refine lv_goto (tgt := 2) hx hb dX0_swapRows_59 (by decide) ?_
        exact ih2 (i + 1) (upN (upN m1 ((a * 6) + i) (m1 ((b * 6) + i))) ((b * 6) + i) (m1 ((a * 6) + i))) ls _ _ (by omega) (by omega) (sw_step k_1 k_2 c5 k_s) (lv_sub hl [2, 3, 4, 0] rfl) hP hD hS
  exact L2 (6 - 0 + 1) 0 mx ls _ _ (by omega) (Nat.zero_le _) half_0 (lv_sub hl [1, 2, 3, 0] rfl) hP hD hS

set_option maxHeartbeats 4000000 in
set_option maxRecDepth 100000 in
theorem c_X0_takeMultiple (l : Launch) (D : va_G) (cI cZ : ClassId) (ad : Nat → Nat) (q : Nat) (sm : Nat → Nat) (pr : Nat → Nat) (op : Nat → Nat) (iv : Nat → Nat) (hF : FOK q sm pr op iv) (mx : Nat → Nat) (j : Nat) (a : Nat) (f : Nat) (k_1 : j < 5) (k_2 : a < 5) (k_3 : f < q) (k_4 : okM q mx) : CtW (S := (Nat → Nat)) l yX0_takeMultiple wsX0_takeMultiple { frames := 1, cells := 0, slots := 0, locals := 22 } D (tyG cI cZ) [.ref (ad 12), .int (nI j), .int (nI a), .int (nI f)] [(ad 0, .inr (1, [.int (nI q), .ref (ad 1), .ref (ad 2), .ref (ad 3), .ref (ad 4)])), (ad 1, .inl (cI, 81, .inl (nF sm))), (ad 2, .inl (cI, 81, .inl (nF pr))), (ad 3, .inl (cI, 9, .inl (nF op))), (ad 4, .inl (cI, 9, .inl (nF iv))), (ad 12, .inr (0, [.ref (ad 5), .ref (ad 0), .ref (ad 13), .ref (ad 14), .ref (ad 15)])), (ad 14, .inl (cI, 30, .inl (nF mx)))] (fun (mx3 : Nat → Nat) => eqM mx3 (tkF q mx j a f)) (fun (mx3 : Nat → Nat) => none) (fun (mx3 : Nat → Nat) => [(ad 0, .inr (1, [.int (nI q), .ref (ad 1), .ref (ad 2), .ref (ad 3), .ref (ad 4)])), (ad 1, .inl (cI, 81, .inl (nF sm))), (ad 2, .inl (cI, 81, .inl (nF pr))), (ad 3, .inl (cI, 9, .inl (nF op))), (ad 4, .inl (cI, 9, .inl (nF iv))), (ad 12, .inr (0, [.ref (ad 5), .ref (ad 0), .ref (ad 13), .ref (ad 14), .ref (ad 15)])), (ad 14, .inl (cI, 30, .inl (nF mx3)))]) := by
  intro sz; refine Met.ofW (cc := cX0_takeMultiple) (maxL := 7) (ret := none) (by decide) rfl ?_
  intro p e s m args below meth c s₁ B hml hv
  obtain ⟨rfl, hsz, hP, hK, hD0, hN⟩ := hv
  have hx := B.exec
  have hb := B.bytes
  have hr := B.returns
  have hts := atoms_spec (ws := wsX0_takeMultiple) B.pre
  have hown : s.vm.findClass RX0 = some m.cls := findClass_of_methodNamed B.named
  have hlocks := B.notSynchronized
  subst hsz
  have hD := hD0.self (sz := s.heap.size)
  generalize hAe : va_A [(ad 0, .inr (1, [.int (nI q), .ref (ad 1), .ref (ad 2), .ref (ad 3), .ref (ad 4)])), (ad 1, .inl (cI, 81, .inl (nF sm))), (ad 2, .inl (cI, 81, .inl (nF pr))), (ad 3, .inl (cI, 9, .inl (nF op))), (ad 4, .inl (cI, 9, .inl (nF iv))), (ad 12, .inr (0, [.ref (ad 5), .ref (ad 0), .ref (ad 13), .ref (ad 14), .ref (ad 15)])), (ad 14, .inl (cI, 30, .inl (nF mx)))] s.heap.size = A at hD ⊢
  have hA : ∀ q : Nat, s.heap.size ≤ q → A q := fun q h => by rw [← hAe]; exact Or.inr h
  have hS : va_S A s.heap s.heap [] := va_S.rf
  have hP : va_P D vwCl [(ad 0, .inr (1, [.int (nI q), .ref (ad 1), .ref (ad 2), .ref (ad 3), .ref (ad 4)])), (ad 1, .inl (cI, 81, .inl (nF sm))), (ad 2, .inl (cI, 81, .inl (nF pr))), (ad 3, .inl (cI, 9, .inl (nF op))), (ad 4, .inl (cI, 9, .inl (nF iv))), (ad 12, .inr (0, [.ref (ad 5), .ref (ad 0), .ref (ad 13), .ref (ad 14), .ref (ad 15)])), (ad 14, .inl (cI, 30, .inl (nF mx)))] s.heap := hP
  have hf15 := hts (.fieldLink RX0 15 "FinitePlanes$Conic" "matrix" "[I") (by decide +kernel)
  have hf31 := hts (.fieldLink RX0 31 "FinitePlanes$Conic" "field" "LFinitePlanes$Field;") (by decide +kernel)
  have hiX0 : ∀ w ∈ u_ws RX0 TX0 5, w ∈ wsX0_takeMultiple := by decide +kernel
  have hl := lv_entry ([.ref (ad 12), .int (nI j), .int (nI a), .int (nI f)]) (n := 7) (Nat.le_of_ble_eq_true rfl)
  rw [lg_entry_eq]
  generalize (lg_sl ([.ref (ad 12), .int (nI j), .int (nI a), .int (nI f)]) ++ List.replicate (7 - (lg_sl ([.ref (ad 12), .int (nI j), .int (nI a), .int (nI f)])).length) Slot.unset).toArray = ls at hl ⊢
  have hl : lv_has ls 7 [(0, .ref (ad 12)), (1, .int (nI j)), (2, .int (nI a)), (3, .int (nI f))] := hl
  have hq2 := qs_le hF.1
  refine lv_iconst (v := nI 0) hx hb dX0_takeMultiple_0 (by decide) ?_
  refine lv_istore (lv' := [(4, .int (nI 0)), (0, .ref (ad 12)), (1, .int (nI j)), (2, .int (nI a)), (3, .int (nI f))]) hx hb dX0_takeMultiple_1 hl (by decide) rfl (fun ls hl => ?_)
  have L3 : ∀ (N3 : Nat) (i : Nat) (m1 : Nat → Nat) (ls : Array Slot) (H : Heap) (locs : List Loc), 6 - i < N3 → (i ≤ 6) → (half mx (tkF q mx j a f) i m1) → lv_has ls 7 [(0, .ref (ad 12)), (1, .int (nI j)), (2, .int (nI a)), (3, .int (nI f)), (4, .int (nI i))] → va_P D vwCl [(ad 0, .inr (1, [.int (nI q), .ref (ad 1), .ref (ad 2), .ref (ad 3), .ref (ad 4)])), (ad 1, .inl (cI, 81, .inl (nF sm))), (ad 2, .inl (cI, 81, .inl (nF pr))), (ad 3, .inl (cI, 9, .inl (nF op))), (ad 4, .inl (cI, 9, .inl (nF iv))), (ad 12, .inr (0, [.ref (ad 5), .ref (ad 0), .ref (ad 13), .ref (ad 14), .ref (ad 15)])), (ad 14, .inl (cI, 30, .inl (nF m1)))] H → va_D A [(ad 0, .inr (1, [.int (nI q), .ref (ad 1), .ref (ad 2), .ref (ad 3), .ref (ad 4)])), (ad 1, .inl (cI, 81, .inl (nF sm))), (ad 2, .inl (cI, 81, .inl (nF pr))), (ad 3, .inl (cI, 9, .inl (nF op))), (ad 4, .inl (cI, 9, .inl (nF iv))), (ad 12, .inr (0, [.ref (ad 5), .ref (ad 0), .ref (ad 13), .ref (ad 14), .ref (ad 15)])), (ad 14, .inl (cI, 30, .inl (nF m1)))] → va_S A s.heap H locs → WG p l e wsX0_takeMultiple { frames := 1, cells := 0, slots := 0, locals := 22 } s m [.ref (ad 12), .int (nI j), .int (nI a), .int (nI f)] below meth c H locs (CQ (S := (Nat → Nat)) D (fun (mx3 : Nat → Nat) => eqM mx3 (tkF q mx j a f)) (fun (mx3 : Nat → Nat) => none) (fun (mx3 : Nat → Nat) => [(ad 0, .inr (1, [.int (nI q), .ref (ad 1), .ref (ad 2), .ref (ad 3), .ref (ad 4)])), (ad 1, .inl (cI, 81, .inl (nF sm))), (ad 2, .inl (cI, 81, .inl (nF pr))), (ad 3, .inl (cI, 9, .inl (nF op))), (ad 4, .inl (cI, 9, .inl (nF iv))), (ad 12, .inr (0, [.ref (ad 5), .ref (ad 0), .ref (ad 13), .ref (ad 14), .ref (ad 15)])), (ad 14, .inl (cI, 30, .inl (nF mx3)))]) A) A 3 ls [] := by
    intro N3
    induction N3 with
    | zero => intro i m1 ls H locs hN; exact absurd hN (Nat.not_lt_zero _)
    | succ N3 ih3 =>
      intro i m1 ls H locs hN3 k_i k_s hl hP hD hS
      refine lv_iload hx hb dX0_takeMultiple_3 (lv_at hl 4 rfl) ?_
      refine lv_bipush (v := nI 6) hx hb dX0_takeMultiple_5 (by decide) ?_
      refine nv_icmp_ge (tgt := 70) hx hb (by omega) (by decide) dX0_takeMultiple_7 (by decide) (fun c7 => ?_) (fun c7 => ?_)
      · exact ctW_retV m1 hx hb hr dX0_takeMultiple_70 hlocks hS hP hD (half_e k_s c7) rfl
      · have v1 := k_4 a i k_2 c7
        have v2 := k_4 j i k_1 c7
        refine lv_iload_n hx hb dX0_takeMultiple_10 rfl (lv_at hl 1 rfl) ?_
        refine lv_bipush (v := nI 6) hx hb dX0_takeMultiple_11 (by decide) ?_
        refine nv_mulE (r := j * 6) hx hb rfl dX0_takeMultiple_13 ?_
        refine lv_iload hx hb dX0_takeMultiple_14 (lv_at hl 4 rfl) ?_
        refine nv_addE (r := (j * 6) + i) hx hb rfl dX0_takeMultiple_16 ?_
        refine lv_istore (lv' := [(5, .int (nI ((j * 6) + i))), (0, .ref (ad 12)), (1, .int (nI j)), (2, .int (nI a)), (3, .int (nI f)), (4, .int (nI i))]) hx hb dX0_takeMultiple_17 hl (by decide) rfl (fun ls hl => ?_)
        refine lv_aload_n hx hb dX0_takeMultiple_19 rfl (lv_at hl 1 rfl) ?_
        refine va_get (D := D) (ci := 0) (v := .ref (ad 0)) (C := RX0) (T := TX0) (N := 5) hx hb hts hiX0 hown hK hP 5 rfl rfl 1 (by decide) hf31 (fun _ h9 => h9) rfl dX0_takeMultiple_20 ?_
        refine lv_iload_n hx hb dX0_takeMultiple_23 rfl (lv_at hl 4 rfl) ?_
        refine lv_aload_n hx hb dX0_takeMultiple_24 rfl (lv_at hl 1 rfl) ?_
        refine va_get (D := D) (ci := 0) (v := .ref (ad 14)) (C := RX0) (T := TX0) (N := 5) hx hb hts hiX0 hown hK hP 5 rfl rfl 3 (by decide) hf15 (fun _ h9 => h9) rfl dX0_takeMultiple_25 ?_
        refine lv_iload_n hx hb dX0_takeMultiple_28 rfl (lv_at hl 3 rfl) ?_
        refine lv_bipush (v := nI 6) hx hb dX0_takeMultiple_29 (by decide) ?_
        refine nv_mulE (r := a * 6) hx hb rfl dX0_takeMultiple_31 ?_
        refine lv_iload hx hb dX0_takeMultiple_32 (lv_at hl 5 rfl) ?_
        refine nv_addE (r := (a * 6) + i) hx hb rfl dX0_takeMultiple_34 ?_
        refine nv_iald hx hb hK hP 6 0 rfl rfl (by omega) (by decide) dX0_takeMultiple_35 ?_
        refine nv_top (v' := .int (nI (mx (a * 6 + i)))) (by rw [half_at k_s k_2 c7]) ?_
        refine ctR_V (As := [.int (nI f), .int (nI (mx (a * 6 + i)))]) (rest := []) (r := .int (nI (fmul q f (mx (a * 6 + i))))) ⟨hx, hb, hml, hown, hts⟩ (c_X1_times l D cI cZ ad q sm pr op iv hF f (mx (a * 6 + i)) (by omega) (by omega)) (cwV 2 hts gX0_takeMultiple_X1_times rfl rfl rfl hdV_X1_times ⟨Nat.le_of_ble_eq_true rfl, Nat.le_of_ble_eq_true rfl⟩) hK hN hP [0, 1, 2, 3, 4] rfl 0 1 rfl rfl rfl hl.1 rfl (Nat.le_of_ble_eq_true rfl) ⟨Nat.zero_le _, Nat.zero_le _⟩ dX0_takeMultiple_36 ?_
        have hh_1 : fmul q f (mx (a * 6 + i)) < q := fmul_lt hF.1 (by omega) (by omega)
        refine lv_istore (lv' := [(6, .int (nI (fmul q f (mx (a * 6 + i))))), (5, .int (nI ((j * 6) + i))), (0, .ref (ad 12)), (1, .int (nI j)), (2, .int (nI a)), (3, .int (nI f)), (4, .int (nI i))]) hx hb dX0_takeMultiple_39 hl (by decide) rfl (fun ls hl => ?_)
        refine lv_aload_n hx hb dX0_takeMultiple_41 rfl (lv_at hl 2 rfl) ?_
        refine va_get (D := D) (ci := 0) (v := .ref (ad 14)) (C := RX0) (T := TX0) (N := 5) hx hb hts hiX0 hown hK hP 5 rfl rfl 3 (by decide) hf15 (fun _ h9 => h9) rfl dX0_takeMultiple_42 ?_
        refine lv_iload hx hb dX0_takeMultiple_45 (lv_at hl 1 rfl) ?_
        refine lv_aload_n hx hb dX0_takeMultiple_47 rfl (lv_at hl 2 rfl) ?_
        refine va_get (D := D) (ci := 0) (v := .ref (ad 0)) (C := RX0) (T := TX0) (N := 5) hx hb hts hiX0 hown hK hP 5 rfl rfl 1 (by decide) hf31 (fun _ h9 => h9) rfl dX0_takeMultiple_48 ?_
        refine lv_aload_n hx hb dX0_takeMultiple_51 rfl (lv_at hl 2 rfl) ?_
        refine va_get (D := D) (ci := 0) (v := .ref (ad 14)) (C := RX0) (T := TX0) (N := 5) hx hb hts hiX0 hown hK hP 5 rfl rfl 3 (by decide) hf15 (fun _ h9 => h9) rfl dX0_takeMultiple_52 ?_
        refine lv_iload hx hb dX0_takeMultiple_55 (lv_at hl 1 rfl) ?_
        refine nv_iald hx hb hK hP 6 0 rfl rfl (by omega) (by decide) dX0_takeMultiple_57 ?_
        refine nv_top (v' := .int (nI (mx (j * 6 + i)))) (by rw [half_at k_s k_1 c7]) ?_
        refine lv_iload hx hb dX0_takeMultiple_58 (lv_at hl 0 rfl) ?_
        refine ctR_V (As := [.int (nI (mx (j * 6 + i))), .int (nI (fmul q f (mx (a * 6 + i))))]) (rest := [.int (nI ((j * 6) + i)), .ref (ad 14)]) (r := .int (nI (fsub q (mx (j * 6 + i)) (fmul q f (mx (a * 6 + i)))))) ⟨hx, hb, hml, hown, hts⟩ (c_X1_minus l D cI cZ ad q sm pr op iv hF (mx (j * 6 + i)) (fmul q f (mx (a * 6 + i))) (by omega) (by omega)) (cwV 2 hts gX0_takeMultiple_X1_minus rfl rfl rfl hdV_X1_minus ⟨Nat.le_of_ble_eq_true rfl, Nat.le_of_ble_eq_true rfl⟩) hK hN hP [0, 1, 2, 3, 4] rfl 0 1 rfl rfl rfl hl.1 rfl (Nat.le_of_ble_eq_true rfl) ⟨Nat.zero_le _, Nat.zero_le _⟩ dX0_takeMultiple_60 ?_
        have hh_2 : fsub q (mx (j * 6 + i)) (fmul q f (mx (a * 6 + i))) < q := fsub_lt hF.1 (by omega) (by omega)
        refine nv_iast hx hb hK hP hD hS 6 0 rfl rfl (by omega) (by decide) dX0_takeMultiple_63 (fun H locs hP hD hS => ?_)
        have hP : va_P D vwCl [(ad 0, .inr (1, [.int (nI q), .ref (ad 1), .ref (ad 2), .ref (ad 3), .ref (ad 4)])), (ad 1, .inl (cI, 81, .inl (nF sm))), (ad 2, .inl (cI, 81, .inl (nF pr))), (ad 3, .inl (cI, 9, .inl (nF op))), (ad 4, .inl (cI, 9, .inl (nF iv))), (ad 12, .inr (0, [.ref (ad 5), .ref (ad 0), .ref (ad 13), .ref (ad 14), .ref (ad 15)])), (ad 14, .inl (cI, 30, .inl (nF (upN m1 ((j * 6) + i) (fsub q (mx (j * 6 + i)) (fmul q f (mx (a * 6 + i))))))))] H := hP
        have hD : va_D A [(ad 0, .inr (1, [.int (nI q), .ref (ad 1), .ref (ad 2), .ref (ad 3), .ref (ad 4)])), (ad 1, .inl (cI, 81, .inl (nF sm))), (ad 2, .inl (cI, 81, .inl (nF pr))), (ad 3, .inl (cI, 9, .inl (nF op))), (ad 4, .inl (cI, 9, .inl (nF iv))), (ad 12, .inr (0, [.ref (ad 5), .ref (ad 0), .ref (ad 13), .ref (ad 14), .ref (ad 15)])), (ad 14, .inl (cI, 30, .inl (nF (upN m1 ((j * 6) + i) (fsub q (mx (j * 6 + i)) (fmul q f (mx (a * 6 + i))))))))] := hD
        refine lv_iinc (v := nI (i + 1)) (lv' := [(4, .int (nI (i + 1))), (6, .int (nI (fmul q f (mx (a * 6 + i))))), (5, .int (nI ((j * 6) + i))), (0, .ref (ad 12)), (1, .int (nI j)), (2, .int (nI a)), (3, .int (nI f))]) hx hb dX0_takeMultiple_64 hl (k := 6) rfl (nI_inc i) (by decide) rfl (fun ls hl => ?_)
        refine lv_goto (tgt := 3) hx hb dX0_takeMultiple_67 (by decide) ?_
        exact ih3 (i + 1) (upN m1 ((j * 6) + i) (fsub q (mx (j * 6 + i)) (fmul q f (mx (a * 6 + i))))) ls _ _ (by omega) (by omega) (tk_step k_1 c7 k_s) (lv_sub hl [3, 4, 5, 6, 0] rfl) hP hD hS
  exact L3 (6 - 0 + 1) 0 mx ls _ _ (by omega) (Nat.zero_le _) half_0 (lv_sub hl [1, 2, 3, 4, 0] rfl) hP hD hS

set_option maxHeartbeats 4000000 in
set_option maxRecDepth 100000 in
theorem c_X0_clearColumn (l : Launch) (D : va_G) (cI cZ : ClassId) (ad : Nat → Nat) (q : Nat) (sm : Nat → Nat) (pr : Nat → Nat) (op : Nat → Nat) (iv : Nat → Nat) (hF : FOK q sm pr op iv) (mx : Nat → Nat) (Z : (Nat → Nat) → Prop) (a : Nat) (g : Nat) (k_1 : a < 5) (k_2 : g < 6) (k_3 : ¬ mx (a * 6 + g) = 0) (k_4 : KS q Z mx) : CtW (S := (Nat → Nat)) l yX0_clearColumn wsX0_clearColumn { frames := 2, cells := 0, slots := 0, locals := 48 } D (tyG cI cZ) [.ref (ad 12), .int (nI a), .int (nI g)] [(ad 0, .inr (1, [.int (nI q), .ref (ad 1), .ref (ad 2), .ref (ad 3), .ref (ad 4)])), (ad 1, .inl (cI, 81, .inl (nF sm))), (ad 2, .inl (cI, 81, .inl (nF pr))), (ad 3, .inl (cI, 9, .inl (nF op))), (ad 4, .inl (cI, 9, .inl (nF iv))), (ad 12, .inr (0, [.ref (ad 5), .ref (ad 0), .ref (ad 13), .ref (ad 14), .ref (ad 15)])), (ad 14, .inl (cI, 30, .inl (nF mx)))] (fun (mx3 : Nat → Nat) => eqM mx3 (clR q mx a g 5)) (fun (mx3 : Nat → Nat) => none) (fun (mx3 : Nat → Nat) => [(ad 0, .inr (1, [.int (nI q), .ref (ad 1), .ref (ad 2), .ref (ad 3), .ref (ad 4)])), (ad 1, .inl (cI, 81, .inl (nF sm))), (ad 2, .inl (cI, 81, .inl (nF pr))), (ad 3, .inl (cI, 9, .inl (nF op))), (ad 4, .inl (cI, 9, .inl (nF iv))), (ad 12, .inr (0, [.ref (ad 5), .ref (ad 0), .ref (ad 13), .ref (ad 14), .ref (ad 15)])), (ad 14, .inl (cI, 30, .inl (nF mx3)))]) := by
  intro sz; refine Met.ofW (cc := cX0_clearColumn) (maxL := 6) (ret := none) (by decide) rfl ?_
  intro p e s m args below meth c s₁ B hml hv
  obtain ⟨rfl, hsz, hP, hK, hD0, hN⟩ := hv
  have hx := B.exec
  have hb := B.bytes
  have hr := B.returns
  have hts := atoms_spec (ws := wsX0_clearColumn) B.pre
  have hown : s.vm.findClass RX0 = some m.cls := findClass_of_methodNamed B.named
  have hlocks := B.notSynchronized
  subst hsz
  have hD := hD0.self (sz := s.heap.size)
  generalize hAe : va_A [(ad 0, .inr (1, [.int (nI q), .ref (ad 1), .ref (ad 2), .ref (ad 3), .ref (ad 4)])), (ad 1, .inl (cI, 81, .inl (nF sm))), (ad 2, .inl (cI, 81, .inl (nF pr))), (ad 3, .inl (cI, 9, .inl (nF op))), (ad 4, .inl (cI, 9, .inl (nF iv))), (ad 12, .inr (0, [.ref (ad 5), .ref (ad 0), .ref (ad 13), .ref (ad 14), .ref (ad 15)])), (ad 14, .inl (cI, 30, .inl (nF mx)))] s.heap.size = A at hD ⊢
  have hA : ∀ q : Nat, s.heap.size ≤ q → A q := fun q h => by rw [← hAe]; exact Or.inr h
  have hS : va_S A s.heap s.heap [] := va_S.rf
  have hP : va_P D vwCl [(ad 0, .inr (1, [.int (nI q), .ref (ad 1), .ref (ad 2), .ref (ad 3), .ref (ad 4)])), (ad 1, .inl (cI, 81, .inl (nF sm))), (ad 2, .inl (cI, 81, .inl (nF pr))), (ad 3, .inl (cI, 9, .inl (nF op))), (ad 4, .inl (cI, 9, .inl (nF iv))), (ad 12, .inr (0, [.ref (ad 5), .ref (ad 0), .ref (ad 13), .ref (ad 14), .ref (ad 15)])), (ad 14, .inl (cI, 30, .inl (nF mx)))] s.heap := hP
  have hf15 := hts (.fieldLink RX0 15 "FinitePlanes$Conic" "matrix" "[I") (by decide +kernel)
  have hf31 := hts (.fieldLink RX0 31 "FinitePlanes$Conic" "field" "LFinitePlanes$Field;") (by decide +kernel)
  have hiX0 : ∀ w ∈ u_ws RX0 TX0 5, w ∈ wsX0_clearColumn := by decide +kernel
  have hl := lv_entry ([.ref (ad 12), .int (nI a), .int (nI g)]) (n := 6) (Nat.le_of_ble_eq_true rfl)
  rw [lg_entry_eq]
  generalize (lg_sl ([.ref (ad 12), .int (nI a), .int (nI g)]) ++ List.replicate (6 - (lg_sl ([.ref (ad 12), .int (nI a), .int (nI g)])).length) Slot.unset).toArray = ls at hl ⊢
  have hl : lv_has ls 6 [(0, .ref (ad 12)), (1, .int (nI a)), (2, .int (nI g))] := hl
  have hq2 := qs_le hF.1
  have v0 := k_4.1 a g k_1 k_2
  refine lv_aload_n hx hb dX0_clearColumn_0 rfl (lv_at hl 0 rfl) ?_
  refine va_get (D := D) (ci := 0) (v := .ref (ad 14)) (C := RX0) (T := TX0) (N := 5) hx hb hts hiX0 hown hK hP 5 rfl rfl 3 (by decide) hf15 (fun _ h9 => h9) rfl dX0_clearColumn_1 ?_
  refine lv_iload_n hx hb dX0_clearColumn_4 rfl (lv_at hl 1 rfl) ?_
  refine lv_bipush (v := nI 6) hx hb dX0_clearColumn_5 (by decide) ?_
  refine nv_mulE (r := a * 6) hx hb rfl dX0_clearColumn_7 ?_
  refine lv_iload_n hx hb dX0_clearColumn_8 rfl (lv_at hl 2 rfl) ?_
  refine nv_addE (r := (a * 6) + g) hx hb rfl dX0_clearColumn_9 ?_
  refine nv_iald hx hb hK hP 6 0 rfl rfl (by omega) (by decide) dX0_clearColumn_10 ?_
  refine lv_istore_n (lv' := [(3, .int (nI (mx ((a * 6) + g)))), (0, .ref (ad 12)), (1, .int (nI a)), (2, .int (nI g))]) hx hb dX0_clearColumn_11 rfl hl (by decide) rfl (fun ls hl => ?_)
  refine lv_iconst (v := nI 0) hx hb dX0_clearColumn_12 (by decide) ?_
  refine lv_istore (lv' := [(4, .int (nI 0)), (3, .int (nI (mx ((a * 6) + g)))), (0, .ref (ad 12)), (1, .int (nI a)), (2, .int (nI g))]) hx hb dX0_clearColumn_13 hl (by decide) rfl (fun ls hl => ?_)
  have L15 : ∀ (N15 : Nat) (i : Nat) (m1 : Nat → Nat) (ls : Array Slot) (H : Heap) (locs : List Loc), 6 - i < N15 → (i ≤ 6) → (half mx (scF q mx a (mx ((a * 6) + g))) i m1) → lv_has ls 6 [(0, .ref (ad 12)), (1, .int (nI a)), (2, .int (nI g)), (3, .int (nI (mx ((a * 6) + g)))), (4, .int (nI i))] → va_P D vwCl [(ad 0, .inr (1, [.int (nI q), .ref (ad 1), .ref (ad 2), .ref (ad 3), .ref (ad 4)])), (ad 1, .inl (cI, 81, .inl (nF sm))), (ad 2, .inl (cI, 81, .inl (nF pr))), (ad 3, .inl (cI, 9, .inl (nF op))), (ad 4, .inl (cI, 9, .inl (nF iv))), (ad 12, .inr (0, [.ref (ad 5), .ref (ad 0), .ref (ad 13), .ref (ad 14), .ref (ad 15)])), (ad 14, .inl (cI, 30, .inl (nF m1)))] H → va_D A [(ad 0, .inr (1, [.int (nI q), .ref (ad 1), .ref (ad 2), .ref (ad 3), .ref (ad 4)])), (ad 1, .inl (cI, 81, .inl (nF sm))), (ad 2, .inl (cI, 81, .inl (nF pr))), (ad 3, .inl (cI, 9, .inl (nF op))), (ad 4, .inl (cI, 9, .inl (nF iv))), (ad 12, .inr (0, [.ref (ad 5), .ref (ad 0), .ref (ad 13), .ref (ad 14), .ref (ad 15)])), (ad 14, .inl (cI, 30, .inl (nF m1)))] → va_S A s.heap H locs → WG p l e wsX0_clearColumn { frames := 2, cells := 0, slots := 0, locals := 48 } s m [.ref (ad 12), .int (nI a), .int (nI g)] below meth c H locs (CQ (S := (Nat → Nat)) D (fun (mx3 : Nat → Nat) => eqM mx3 (clR q mx a g 5)) (fun (mx3 : Nat → Nat) => none) (fun (mx3 : Nat → Nat) => [(ad 0, .inr (1, [.int (nI q), .ref (ad 1), .ref (ad 2), .ref (ad 3), .ref (ad 4)])), (ad 1, .inl (cI, 81, .inl (nF sm))), (ad 2, .inl (cI, 81, .inl (nF pr))), (ad 3, .inl (cI, 9, .inl (nF op))), (ad 4, .inl (cI, 9, .inl (nF iv))), (ad 12, .inr (0, [.ref (ad 5), .ref (ad 0), .ref (ad 13), .ref (ad 14), .ref (ad 15)])), (ad 14, .inl (cI, 30, .inl (nF mx3)))]) A) A 15 ls [] := by
    intro N15
    induction N15 with
    | zero => intro i m1 ls H locs hN; exact absurd hN (Nat.not_lt_zero _)
    | succ N15 ih15 =>
      intro i m1 ls H locs hN15 k_i k_s hl hP hD hS
      refine lv_iload hx hb dX0_clearColumn_15 (lv_at hl 4 rfl) ?_
      refine lv_bipush (v := nI 6) hx hb dX0_clearColumn_17 (by decide) ?_
      refine nv_icmp_ge (tgt := 59) hx hb (by omega) (by decide) dX0_clearColumn_19 (by decide) (fun c19 => ?_) (fun c19 => ?_)
      · refine lv_iconst (v := nI 0) hx hb dX0_clearColumn_59 (by decide) ?_
        refine lv_istore (lv' := [(4, .int (nI 0)), (0, .ref (ad 12)), (1, .int (nI a)), (2, .int (nI g)), (3, .int (nI (mx ((a * 6) + g))))]) hx hb dX0_clearColumn_60 hl (by decide) rfl (fun ls hl => ?_)
        have L62 : ∀ (N62 : Nat) (i2 : Nat) (m2 : Nat → Nat) (ls : Array Slot) (H : Heap) (locs : List Loc), 5 - i2 < N62 → (i2 ≤ 5) → (eqM m2 (clR q mx a g i2)) → lv_has ls 6 [(0, .ref (ad 12)), (1, .int (nI a)), (2, .int (nI g)), (3, .int (nI (mx ((a * 6) + g)))), (4, .int (nI i2))] → va_P D vwCl [(ad 0, .inr (1, [.int (nI q), .ref (ad 1), .ref (ad 2), .ref (ad 3), .ref (ad 4)])), (ad 1, .inl (cI, 81, .inl (nF sm))), (ad 2, .inl (cI, 81, .inl (nF pr))), (ad 3, .inl (cI, 9, .inl (nF op))), (ad 4, .inl (cI, 9, .inl (nF iv))), (ad 12, .inr (0, [.ref (ad 5), .ref (ad 0), .ref (ad 13), .ref (ad 14), .ref (ad 15)])), (ad 14, .inl (cI, 30, .inl (nF m2)))] H → va_D A [(ad 0, .inr (1, [.int (nI q), .ref (ad 1), .ref (ad 2), .ref (ad 3), .ref (ad 4)])), (ad 1, .inl (cI, 81, .inl (nF sm))), (ad 2, .inl (cI, 81, .inl (nF pr))), (ad 3, .inl (cI, 9, .inl (nF op))), (ad 4, .inl (cI, 9, .inl (nF iv))), (ad 12, .inr (0, [.ref (ad 5), .ref (ad 0), .ref (ad 13), .ref (ad 14), .ref (ad 15)])), (ad 14, .inl (cI, 30, .inl (nF m2)))] → va_S A s.heap H locs → WG p l e wsX0_clearColumn { frames := 2, cells := 0, slots := 0, locals := 48 } s m [.ref (ad 12), .int (nI a), .int (nI g)] below meth c H locs (CQ (S := (Nat → Nat)) D (fun (mx3 : Nat → Nat) => eqM mx3 (clR q mx a g 5)) (fun (mx3 : Nat → Nat) => none) (fun (mx3 : Nat → Nat) => [(ad 0, .inr (1, [.int (nI q), .ref (ad 1), .ref (ad 2), .ref (ad 3), .ref (ad 4)])), (ad 1, .inl (cI, 81, .inl (nF sm))), (ad 2, .inl (cI, 81, .inl (nF pr))), (ad 3, .inl (cI, 9, .inl (nF op))), (ad 4, .inl (cI, 9, .inl (nF iv))), (ad 12, .inr (0, [.ref (ad 5), .ref (ad 0), .ref (ad 13), .ref (ad 14), .ref (ad 15)])), (ad 14, .inl (cI, 30, .inl (nF mx3)))]) A) A 62 ls [] := by
          intro N62
          induction N62 with
          | zero => intro i2 m2 ls H locs hN; exact absurd hN (Nat.not_lt_zero _)
          | succ N62 ih62 =>
            intro i2 m2 ls H locs hN62 k_i2 k_s2 hl hP hD hS
            have hok := eqM_ok k_s2 (KS_cl hF.1 k_1 k_2 k_3 k_4 i2 k_i2).1
            refine lv_iload hx hb dX0_clearColumn_62 (lv_at hl 4 rfl) ?_
            refine lv_iconst (v := nI 5) hx hb dX0_clearColumn_64 (by decide) ?_
            refine nv_icmp_ge (tgt := 99) hx hb (by omega) (by decide) dX0_clearColumn_65 (by decide) (fun c65 => ?_) (fun c65 => ?_)
            · exact ctW_retV m2 hx hb hr dX0_clearColumn_99 hlocks hS hP hD (fun r k hr hk => by rw [k_s2 r k hr hk, show i2 = 5 by omega]) rfl
            · refine lv_iload hx hb dX0_clearColumn_68 (lv_at hl 4 rfl) ?_
              refine lv_iload_n hx hb dX0_clearColumn_70 rfl (lv_at hl 1 rfl) ?_
              refine nv_icmp_eq (tgt := 93) hx hb (by omega) (by omega) dX0_clearColumn_71 (by decide) (fun c71 => ?_) (fun c71 => ?_)
              · refine lv_iinc (v := nI (i2 + 1)) (lv' := [(4, .int (nI (i2 + 1))), (0, .ref (ad 12)), (1, .int (nI a)), (2, .int (nI g)), (3, .int (nI (mx ((a * 6) + g))))]) hx hb dX0_clearColumn_93 hl (k := 4) rfl (nI_inc i2) (by decide) rfl (fun ls hl => ?_)
                refine lv_goto (tgt := 62) hx hb dX0_clearColumn_96 (by decide) ?_
                exact ih62 (i2 + 1) m2 ls _ _ (by omega) (by omega) (cl_skip c71 k_s2) (lv_sub hl [1, 2, 3, 4, 0] rfl) hP hD hS
              · refine lv_aload_n hx hb dX0_clearColumn_74 rfl (lv_at hl 0 rfl) ?_
                refine lv_iload hx hb dX0_clearColumn_75 (lv_at hl 4 rfl) ?_
                refine lv_iload_n hx hb dX0_clearColumn_77 rfl (lv_at hl 1 rfl) ?_
                have v3 := hok i2 g c65 k_2
                refine lv_aload_n hx hb dX0_clearColumn_78 rfl (lv_at hl 0 rfl) ?_
                refine va_get (D := D) (ci := 0) (v := .ref (ad 14)) (C := RX0) (T := TX0) (N := 5) hx hb hts hiX0 hown hK hP 5 rfl rfl 3 (by decide) hf15 (fun _ h9 => h9) rfl dX0_clearColumn_79 ?_
                refine lv_iload hx hb dX0_clearColumn_82 (lv_at hl 4 rfl) ?_
                refine lv_bipush (v := nI 6) hx hb dX0_clearColumn_84 (by decide) ?_
                refine nv_mulE (r := i2 * 6) hx hb rfl dX0_clearColumn_86 ?_
                refine lv_iload_n hx hb dX0_clearColumn_87 rfl (lv_at hl 2 rfl) ?_
                refine nv_addE (r := (i2 * 6) + g) hx hb rfl dX0_clearColumn_88 ?_
                refine nv_iald hx hb hK hP 6 0 rfl rfl (by omega) (by decide) dX0_clearColumn_89 ?_
                refine ctW_V (As := [.int (nI i2), .int (nI a), .int (nI (m2 ((i2 * 6) + g)))]) (rest := []) (wr := []) ⟨hx, hb, hml, hown, hts⟩ (c_X0_takeMultiple l D cI cZ ad q sm pr op iv hF m2 i2 a (m2 ((i2 * 6) + g)) (by omega) (by omega) (by omega) hok) (cwV 3 hts gX0_clearColumn_X0_takeMultiple rfl rfl rfl hdV_X0_takeMultiple ⟨Nat.le_of_ble_eq_true rfl, Nat.le_of_ble_eq_true rfl⟩) hK hN hP hD hS hA [0, 1, 2, 3, 4, 5, 6] [] rfl rfl rfl (by decide) (by decide) (by decide) 5 0 rfl rfl rfl hl.1 rfl (Nat.le_of_ble_eq_true rfl) ⟨Nat.zero_le _, Nat.zero_le _⟩ dX0_clearColumn_90 (fun mx_1 H locs hu90 hP hD hS => ?_)
                try dsimp only at hu90
                have hP : va_P D vwCl [(ad 0, .inr (1, [.int (nI q), .ref (ad 1), .ref (ad 2), .ref (ad 3), .ref (ad 4)])), (ad 1, .inl (cI, 81, .inl (nF sm))), (ad 2, .inl (cI, 81, .inl (nF pr))), (ad 3, .inl (cI, 9, .inl (nF op))), (ad 4, .inl (cI, 9, .inl (nF iv))), (ad 12, .inr (0, [.ref (ad 5), .ref (ad 0), .ref (ad 13), .ref (ad 14), .ref (ad 15)])), (ad 14, .inl (cI, 30, .inl (nF mx_1)))] H := hP.sub [0, 1, 2, 3, 4, 5, 6] rfl
                have hD : va_D A [(ad 0, .inr (1, [.int (nI q), .ref (ad 1), .ref (ad 2), .ref (ad 3), .ref (ad 4)])), (ad 1, .inl (cI, 81, .inl (nF sm))), (ad 2, .inl (cI, 81, .inl (nF pr))), (ad 3, .inl (cI, 9, .inl (nF op))), (ad 4, .inl (cI, 9, .inl (nF iv))), (ad 12, .inr (0, [.ref (ad 5), .ref (ad 0), .ref (ad 13), .ref (ad 14), .ref (ad 15)])), (ad 14, .inl (cI, 30, .inl (nF mx_1)))] := hD.sub [0, 1, 2, 3, 4, 5, 6] (by decide) rfl
                refine W.eq (g2 := F0 m 93 ls []) rfl ?_
                refine lv_iinc (v := nI (i2 + 1)) (lv' := [(4, .int (nI (i2 + 1))), (0, .ref (ad 12)), (1, .int (nI a)), (2, .int (nI g)), (3, .int (nI (mx ((a * 6) + g))))]) hx hb dX0_clearColumn_93 hl (k := 4) rfl (nI_inc i2) (by decide) rfl (fun ls hl => ?_)
                refine lv_goto (tgt := 62) hx hb dX0_clearColumn_96 (by decide) ?_
                exact ih62 (i2 + 1) mx_1 ls _ _ (by omega) (by omega) (cl_step c65 k_1 k_2 c71 k_s2 hu90) (lv_sub hl [1, 2, 3, 4, 0] rfl) hP hD hS
        exact L62 (5 - 0 + 1) 0 m1 ls _ _ (by omega) (Nat.zero_le _) (half_e k_s c19) (lv_sub hl [1, 2, 3, 4, 0] rfl) hP hD hS
      · refine lv_iload_n hx hb dX0_clearColumn_22 rfl (lv_at hl 1 rfl) ?_
        refine lv_bipush (v := nI 6) hx hb dX0_clearColumn_23 (by decide) ?_
        refine nv_mulE (r := a * 6) hx hb rfl dX0_clearColumn_25 ?_
        refine lv_iload hx hb dX0_clearColumn_26 (lv_at hl 4 rfl) ?_
        refine nv_addE (r := (a * 6) + i) hx hb rfl dX0_clearColumn_28 ?_
        refine lv_istore (lv' := [(5, .int (nI ((a * 6) + i))), (0, .ref (ad 12)), (1, .int (nI a)), (2, .int (nI g)), (3, .int (nI (mx ((a * 6) + g)))), (4, .int (nI i))]) hx hb dX0_clearColumn_29 hl (by decide) rfl (fun ls hl => ?_)
        have v1 := k_4.1 a i k_1 c19
        refine lv_aload_n hx hb dX0_clearColumn_31 rfl (lv_at hl 1 rfl) ?_
        refine va_get (D := D) (ci := 0) (v := .ref (ad 14)) (C := RX0) (T := TX0) (N := 5) hx hb hts hiX0 hown hK hP 5 rfl rfl 3 (by decide) hf15 (fun _ h9 => h9) rfl dX0_clearColumn_32 ?_
        refine lv_iload hx hb dX0_clearColumn_35 (lv_at hl 0 rfl) ?_
        refine lv_aload_n hx hb dX0_clearColumn_37 rfl (lv_at hl 1 rfl) ?_
        refine va_get (D := D) (ci := 0) (v := .ref (ad 0)) (C := RX0) (T := TX0) (N := 5) hx hb hts hiX0 hown hK hP 5 rfl rfl 1 (by decide) hf31 (fun _ h9 => h9) rfl dX0_clearColumn_38 ?_
        refine lv_aload_n hx hb dX0_clearColumn_41 rfl (lv_at hl 1 rfl) ?_
        refine va_get (D := D) (ci := 0) (v := .ref (ad 14)) (C := RX0) (T := TX0) (N := 5) hx hb hts hiX0 hown hK hP 5 rfl rfl 3 (by decide) hf15 (fun _ h9 => h9) rfl dX0_clearColumn_42 ?_
        refine lv_iload hx hb dX0_clearColumn_45 (lv_at hl 0 rfl) ?_
        refine nv_iald hx hb hK hP 6 0 rfl rfl (by omega) (by decide) dX0_clearColumn_47 ?_
        refine nv_top (v' := .int (nI (mx (a * 6 + i)))) (by rw [half_at k_s k_1 c19]) ?_
        refine lv_iload_n hx hb dX0_clearColumn_48 rfl (lv_at hl 4 rfl) ?_
        refine ctR_V (As := [.int (nI (mx (a * 6 + i))), .int (nI (mx ((a * 6) + g)))]) (rest := [.int (nI ((a * 6) + i)), .ref (ad 14)]) (r := .int (nI (fdiv q (mx (a * 6 + i)) (mx ((a * 6) + g))))) ⟨hx, hb, hml, hown, hts⟩ (c_X1_over l D cI cZ ad q sm pr op iv hF (mx (a * 6 + i)) (mx ((a * 6) + g)) (by omega) (by omega) k_3) (cwV 2 hts gX0_clearColumn_X1_over rfl rfl rfl hdV_X1_over ⟨Nat.le_of_ble_eq_true rfl, Nat.le_of_ble_eq_true rfl⟩) hK hN hP [0, 1, 2, 3, 4] rfl 0 1 rfl rfl rfl hl.1 rfl (Nat.le_of_ble_eq_true rfl) ⟨Nat.zero_le _, Nat.zero_le _⟩ dX0_clearColumn_49 ?_
        have hh_2 : fdiv q (mx (a * 6 + i)) (mx ((a * 6) + g)) < q := fdiv_lt hF.1 (by omega) (by omega)
        refine nv_iast hx hb hK hP hD hS 6 0 rfl rfl (by omega) (by decide) dX0_clearColumn_52 (fun H locs hP hD hS => ?_)
        have hP : va_P D vwCl [(ad 0, .inr (1, [.int (nI q), .ref (ad 1), .ref (ad 2), .ref (ad 3), .ref (ad 4)])), (ad 1, .inl (cI, 81, .inl (nF sm))), (ad 2, .inl (cI, 81, .inl (nF pr))), (ad 3, .inl (cI, 9, .inl (nF op))), (ad 4, .inl (cI, 9, .inl (nF iv))), (ad 12, .inr (0, [.ref (ad 5), .ref (ad 0), .ref (ad 13), .ref (ad 14), .ref (ad 15)])), (ad 14, .inl (cI, 30, .inl (nF (upN m1 ((a * 6) + i) (fdiv q (mx (a * 6 + i)) (mx ((a * 6) + g)))))))] H := hP
        have hD : va_D A [(ad 0, .inr (1, [.int (nI q), .ref (ad 1), .ref (ad 2), .ref (ad 3), .ref (ad 4)])), (ad 1, .inl (cI, 81, .inl (nF sm))), (ad 2, .inl (cI, 81, .inl (nF pr))), (ad 3, .inl (cI, 9, .inl (nF op))), (ad 4, .inl (cI, 9, .inl (nF iv))), (ad 12, .inr (0, [.ref (ad 5), .ref (ad 0), .ref (ad 13), .ref (ad 14), .ref (ad 15)])), (ad 14, .inl (cI, 30, .inl (nF (upN m1 ((a * 6) + i) (fdiv q (mx (a * 6 + i)) (mx ((a * 6) + g)))))))] := hD
        refine lv_iinc (v := nI (i + 1)) (lv' := [(4, .int (nI (i + 1))), (5, .int (nI ((a * 6) + i))), (0, .ref (ad 12)), (1, .int (nI a)), (2, .int (nI g)), (3, .int (nI (mx ((a * 6) + g))))]) hx hb dX0_clearColumn_53 hl (k := 5) rfl (nI_inc i) (by decide) rfl (fun ls hl => ?_)
        refine lv_goto (tgt := 15) hx hb dX0_clearColumn_56 (by decide) ?_
        exact ih15 (i + 1) (upN m1 ((a * 6) + i) (fdiv q (mx (a * 6 + i)) (mx ((a * 6) + g)))) ls _ _ (by omega) (by omega) (sc_step k_1 c19 k_s) (lv_sub hl [2, 3, 4, 5, 0] rfl) hP hD hS
  exact L15 (6 - 0 + 1) 0 mx ls _ _ (by omega) (Nat.zero_le _) half_0 (lv_sub hl [2, 3, 4, 1, 0] rfl) hP hD hS

set_option maxHeartbeats 4000000 in
set_option maxRecDepth 100000 in
theorem c_X0_reduce (l : Launch) (D : va_G) (cI cZ : ClassId) (ad : Nat → Nat) (q : Nat) (sm : Nat → Nat) (pr : Nat → Nat) (op : Nat → Nat) (iv : Nat → Nat) (hF : FOK q sm pr op iv) (mx : Nat → Nat) (pv : Nat → Nat) (Z : (Nat → Nat) → Prop) (k_z : KS q Z mx) : CtW (S := (Nat) × (Nat → Nat) × (Nat → Nat)) l yX0_reduce wsX0_reduce { frames := 3, cells := 0, slots := 0, locals := 73 } D (tyG cI cZ) [.ref (ad 12)] [(ad 0, .inr (1, [.int (nI q), .ref (ad 1), .ref (ad 2), .ref (ad 3), .ref (ad 4)])), (ad 1, .inl (cI, 81, .inl (nF sm))), (ad 2, .inl (cI, 81, .inl (nF pr))), (ad 3, .inl (cI, 9, .inl (nF op))), (ad 4, .inl (cI, 9, .inl (nF iv))), (ad 12, .inr (0, [.ref (ad 5), .ref (ad 0), .ref (ad 13), .ref (ad 14), .ref (ad 15)])), (ad 14, .inl (cI, 30, .inl (nF mx))), (ad 15, .inl (cI, 5, .inl (nF pv)))] (fun u => (fun (fr3 : Nat) (mx3 : Nat → Nat) (pv3 : Nat → Nat) => JG q Z mx3 pv3 5 6 fr3) u.1 u.2.1 u.2.2) (fun u => (fun (fr3 : Nat) (mx3 : Nat → Nat) (pv3 : Nat → Nat) => some (.int (nI fr3))) u.1 u.2.1 u.2.2) (fun u => (fun (fr3 : Nat) (mx3 : Nat → Nat) (pv3 : Nat → Nat) => [(ad 0, .inr (1, [.int (nI q), .ref (ad 1), .ref (ad 2), .ref (ad 3), .ref (ad 4)])), (ad 1, .inl (cI, 81, .inl (nF sm))), (ad 2, .inl (cI, 81, .inl (nF pr))), (ad 3, .inl (cI, 9, .inl (nF op))), (ad 4, .inl (cI, 9, .inl (nF iv))), (ad 12, .inr (0, [.ref (ad 5), .ref (ad 0), .ref (ad 13), .ref (ad 14), .ref (ad 15)])), (ad 14, .inl (cI, 30, .inl (nF mx3))), (ad 15, .inl (cI, 5, .inl (nF pv3)))]) u.1 u.2.1 u.2.2) := by
  intro sz; refine Met.ofW (cc := cX0_reduce) (maxL := 5) (ret := some .int) (by decide) rfl ?_
  intro p e s m args below meth c s₁ B hml hv
  obtain ⟨rfl, hsz, hP, hK, hD0, hN⟩ := hv
  have hx := B.exec
  have hb := B.bytes
  have hr := B.returns
  have hts := atoms_spec (ws := wsX0_reduce) B.pre
  have hown : s.vm.findClass RX0 = some m.cls := findClass_of_methodNamed B.named
  have hlocks := B.notSynchronized
  subst hsz
  have hD := hD0.self (sz := s.heap.size)
  generalize hAe : va_A [(ad 0, .inr (1, [.int (nI q), .ref (ad 1), .ref (ad 2), .ref (ad 3), .ref (ad 4)])), (ad 1, .inl (cI, 81, .inl (nF sm))), (ad 2, .inl (cI, 81, .inl (nF pr))), (ad 3, .inl (cI, 9, .inl (nF op))), (ad 4, .inl (cI, 9, .inl (nF iv))), (ad 12, .inr (0, [.ref (ad 5), .ref (ad 0), .ref (ad 13), .ref (ad 14), .ref (ad 15)])), (ad 14, .inl (cI, 30, .inl (nF mx))), (ad 15, .inl (cI, 5, .inl (nF pv)))] s.heap.size = A at hD ⊢
  have hA : ∀ q : Nat, s.heap.size ≤ q → A q := fun q h => by rw [← hAe]; exact Or.inr h
  have hS : va_S A s.heap s.heap [] := va_S.rf
  have hP : va_P D vwCl [(ad 0, .inr (1, [.int (nI q), .ref (ad 1), .ref (ad 2), .ref (ad 3), .ref (ad 4)])), (ad 1, .inl (cI, 81, .inl (nF sm))), (ad 2, .inl (cI, 81, .inl (nF pr))), (ad 3, .inl (cI, 9, .inl (nF op))), (ad 4, .inl (cI, 9, .inl (nF iv))), (ad 12, .inr (0, [.ref (ad 5), .ref (ad 0), .ref (ad 13), .ref (ad 14), .ref (ad 15)])), (ad 14, .inl (cI, 30, .inl (nF mx))), (ad 15, .inl (cI, 5, .inl (nF pv)))] s.heap := hP
  have hf18 := hts (.fieldLink RX0 18 "FinitePlanes$Conic" "pivots" "[I") (by decide +kernel)
  have hiX0 : ∀ w ∈ u_ws RX0 TX0 5, w ∈ wsX0_reduce := by decide +kernel
  have hl := lv_entry ([.ref (ad 12)]) (n := 5) (Nat.le_of_ble_eq_true rfl)
  rw [lg_entry_eq]
  generalize (lg_sl ([.ref (ad 12)]) ++ List.replicate (5 - (lg_sl ([.ref (ad 12)])).length) Slot.unset).toArray = ls at hl ⊢
  have hl : lv_has ls 5 [(0, .ref (ad 12))] := hl
  have hq2 := qs_le hF.1
  refine lv_iconst (v := nI 5) hx hb dX0_reduce_0 (by decide) ?_
  refine lv_istore_n (lv' := [(1, .int (nI 5)), (0, .ref (ad 12))]) hx hb dX0_reduce_1 rfl hl (by decide) rfl (fun ls hl => ?_)
  refine lv_iconst (v := nI 0) hx hb dX0_reduce_2 (by decide) ?_
  refine lv_istore_n (lv' := [(2, .int (nI 0)), (1, .int (nI 5)), (0, .ref (ad 12))]) hx hb dX0_reduce_3 rfl hl (by decide) rfl (fun ls hl => ?_)
  refine lv_iconst (v := nI 0) hx hb dX0_reduce_4 (by decide) ?_
  refine lv_istore_n (lv' := [(3, .int (nI 0)), (2, .int (nI 0)), (1, .int (nI 5)), (0, .ref (ad 12))]) hx hb dX0_reduce_5 rfl hl (by decide) rfl (fun ls hl => ?_)
  have L6 : ∀ (N6 : Nat) (fr : Nat) (rk : Nat) (co : Nat) (m1 : Nat → Nat) (p1 : Nat → Nat) (ls : Array Slot) (H : Heap) (locs : List Loc), 6 - co < N6 → (co ≤ 6) → (JG q Z m1 p1 rk co fr) → lv_has ls 5 [(0, .ref (ad 12)), (1, .int (nI fr)), (2, .int (nI rk)), (3, .int (nI co))] → va_P D vwCl [(ad 0, .inr (1, [.int (nI q), .ref (ad 1), .ref (ad 2), .ref (ad 3), .ref (ad 4)])), (ad 1, .inl (cI, 81, .inl (nF sm))), (ad 2, .inl (cI, 81, .inl (nF pr))), (ad 3, .inl (cI, 9, .inl (nF op))), (ad 4, .inl (cI, 9, .inl (nF iv))), (ad 12, .inr (0, [.ref (ad 5), .ref (ad 0), .ref (ad 13), .ref (ad 14), .ref (ad 15)])), (ad 14, .inl (cI, 30, .inl (nF m1))), (ad 15, .inl (cI, 5, .inl (nF p1)))] H → va_D A [(ad 0, .inr (1, [.int (nI q), .ref (ad 1), .ref (ad 2), .ref (ad 3), .ref (ad 4)])), (ad 1, .inl (cI, 81, .inl (nF sm))), (ad 2, .inl (cI, 81, .inl (nF pr))), (ad 3, .inl (cI, 9, .inl (nF op))), (ad 4, .inl (cI, 9, .inl (nF iv))), (ad 12, .inr (0, [.ref (ad 5), .ref (ad 0), .ref (ad 13), .ref (ad 14), .ref (ad 15)])), (ad 14, .inl (cI, 30, .inl (nF m1))), (ad 15, .inl (cI, 5, .inl (nF p1)))] → va_S A s.heap H locs → WG p l e wsX0_reduce { frames := 3, cells := 0, slots := 0, locals := 73 } s m [.ref (ad 12)] below meth c H locs (CQ (S := (Nat) × (Nat → Nat) × (Nat → Nat)) D (fun u => (fun (fr3 : Nat) (mx3 : Nat → Nat) (pv3 : Nat → Nat) => JG q Z mx3 pv3 5 6 fr3) u.1 u.2.1 u.2.2) (fun u => (fun (fr3 : Nat) (mx3 : Nat → Nat) (pv3 : Nat → Nat) => some (.int (nI fr3))) u.1 u.2.1 u.2.2) (fun u => (fun (fr3 : Nat) (mx3 : Nat → Nat) (pv3 : Nat → Nat) => [(ad 0, .inr (1, [.int (nI q), .ref (ad 1), .ref (ad 2), .ref (ad 3), .ref (ad 4)])), (ad 1, .inl (cI, 81, .inl (nF sm))), (ad 2, .inl (cI, 81, .inl (nF pr))), (ad 3, .inl (cI, 9, .inl (nF op))), (ad 4, .inl (cI, 9, .inl (nF iv))), (ad 12, .inr (0, [.ref (ad 5), .ref (ad 0), .ref (ad 13), .ref (ad 14), .ref (ad 15)])), (ad 14, .inl (cI, 30, .inl (nF mx3))), (ad 15, .inl (cI, 5, .inl (nF pv3)))]) u.1 u.2.1 u.2.2) A) A 6 ls [] := by
    intro N6
    induction N6 with
    | zero => intro fr rk co m1 p1 ls H locs hN; exact absurd hN (Nat.not_lt_zero _)
    | succ N6 ih6 =>
      intro fr rk co m1 p1 ls H locs hN6 k_c k_j hl hP hD hS
      have k_r := k_j.2.1
      refine lv_iload_n hx hb dX0_reduce_6 rfl (lv_at hl 3 rfl) ?_
      refine lv_bipush (v := nI 6) hx hb dX0_reduce_7 (by decide) ?_
      refine nv_icmp_ge (tgt := 60) hx hb (by omega) (by decide) dX0_reduce_9 (by decide) (fun c9 => ?_) (fun c9 => ?_)
      · refine lv_iload_n hx hb dX0_reduce_60 rfl (lv_at hl 1 rfl) ?_
        exact ctW_retI (v := (nI fr)) (fr, m1, p1) hx hb hr rfl dX0_reduce_61 hlocks hS hP hD (by dsimp only; exact (JG_fin hF.1 k_j (by omega))) rfl
      · refine lv_aload_n hx hb dX0_reduce_12 rfl (lv_at hl 0 rfl) ?_
        refine lv_iload_n hx hb dX0_reduce_13 rfl (lv_at hl 2 rfl) ?_
        refine lv_iload_n hx hb dX0_reduce_14 rfl (lv_at hl 3 rfl) ?_
        refine ctR_V (As := [.int (nI rk), .int (nI co)]) (rest := []) (r := .int (fpZ m1 co (5 - rk) rk)) ⟨hx, hb, hml, hown, hts⟩ (c_X0_findPivot l D cI cZ ad m1 rk co (by omega) (by omega) (fun r hr => Nat.lt_trans (k_j.1.1 r co hr c9) (by omega))) (cwV 2 hts gX0_reduce_X0_findPivot rfl rfl rfl hdV_X0_findPivot ⟨Nat.le_of_ble_eq_true rfl, Nat.le_of_ble_eq_true rfl⟩) hK hN hP [5, 6] rfl 5 0 rfl rfl rfl hl.1 rfl (Nat.le_of_ble_eq_true rfl) ⟨Nat.zero_le _, Nat.zero_le _⟩ dX0_reduce_15 ?_
        refine lv_istore (lv' := [(4, .int (fpZ m1 co (5 - rk) rk)), (0, .ref (ad 12)), (1, .int (nI fr)), (2, .int (nI rk)), (3, .int (nI co))]) hx hb dX0_reduce_18 hl (by decide) rfl (fun ls hl => ?_)
        refine lv_iload hx hb dX0_reduce_20 (lv_at hl 0 rfl) ?_
        refine lv_iconst (v := (-1)) hx hb dX0_reduce_22 (by decide) ?_
        refine lv_icmp_ne (tgt := 31) hx hb dX0_reduce_23 (by decide) (fun c23 => ?_) (fun c23 => ?_)
        · obtain ⟨fd, g1, g2, g3, g4⟩ := fpZ_yes c23
          have g2 : fd < 5 := by omega
          have hrk : rk < 5 := by omega
          rw [g4] at hl
          refine lv_aload_n hx hb dX0_reduce_31 rfl (lv_at hl 1 rfl) ?_
          refine lv_iload_n hx hb dX0_reduce_32 rfl (lv_at hl 3 rfl) ?_
          refine lv_iload hx hb dX0_reduce_33 (lv_at hl 0 rfl) ?_
          refine ctW_V (As := [.int (nI rk), .int (nI fd)]) (rest := []) (wr := [(ad 0, .inr (1, [.int (nI q), .ref (ad 1), .ref (ad 2), .ref (ad 3), .ref (ad 4)])), (ad 1, .inl (cI, 81, .inl (nF sm))), (ad 2, .inl (cI, 81, .inl (nF pr))), (ad 3, .inl (cI, 9, .inl (nF op))), (ad 4, .inl (cI, 9, .inl (nF iv))), (ad 15, .inl (cI, 5, .inl (nF p1)))]) ⟨hx, hb, hml, hown, hts⟩ (c_X0_swapRows l D cI cZ ad m1 rk fd (by omega) (by omega)) (cwV 2 hts gX0_reduce_X0_swapRows rfl rfl rfl hdV_X0_swapRows ⟨Nat.le_of_ble_eq_true rfl, Nat.le_of_ble_eq_true rfl⟩) hK hN hP hD hS hA [5, 6] [0, 1, 2, 3, 4, 7] rfl rfl rfl (by decide) (by decide) (by decide) 5 0 rfl rfl rfl hl.1 rfl (Nat.le_of_ble_eq_true rfl) ⟨Nat.zero_le _, Nat.zero_le _⟩ dX0_reduce_35 (fun mx_1 H locs hu35 hP hD hS => ?_)
          try dsimp only at hu35
          have hP : va_P D vwCl [(ad 0, .inr (1, [.int (nI q), .ref (ad 1), .ref (ad 2), .ref (ad 3), .ref (ad 4)])), (ad 1, .inl (cI, 81, .inl (nF sm))), (ad 2, .inl (cI, 81, .inl (nF pr))), (ad 3, .inl (cI, 9, .inl (nF op))), (ad 4, .inl (cI, 9, .inl (nF iv))), (ad 12, .inr (0, [.ref (ad 5), .ref (ad 0), .ref (ad 13), .ref (ad 14), .ref (ad 15)])), (ad 14, .inl (cI, 30, .inl (nF mx_1))), (ad 15, .inl (cI, 5, .inl (nF p1)))] H := hP.sub [0, 1, 2, 3, 4, 6, 7, 5] rfl
          have hD : va_D A [(ad 0, .inr (1, [.int (nI q), .ref (ad 1), .ref (ad 2), .ref (ad 3), .ref (ad 4)])), (ad 1, .inl (cI, 81, .inl (nF sm))), (ad 2, .inl (cI, 81, .inl (nF pr))), (ad 3, .inl (cI, 9, .inl (nF op))), (ad 4, .inl (cI, 9, .inl (nF iv))), (ad 12, .inr (0, [.ref (ad 5), .ref (ad 0), .ref (ad 13), .ref (ad 14), .ref (ad 15)])), (ad 14, .inl (cI, 30, .inl (nF mx_1))), (ad 15, .inl (cI, 5, .inl (nF p1)))] := hD.sub [0, 1, 2, 3, 4, 6, 7, 5] (by decide) rfl
          refine W.eq (g2 := F0 m 38 ls []) rfl ?_
          have hs3 := KS_congr hu35 (KS_sw hrk g2 k_j.1)
          have g5 : ¬ m1 (fd * 6 + co) = 0 := g3
          have g6 : ¬ mx_1 (rk * 6 + co) = 0 := by rw [hu35 rk co hrk c9, swF_at c9, sw, if_pos rfl]; exact g3
          refine lv_aload_n hx hb dX0_reduce_38 rfl (lv_at hl 1 rfl) ?_
          refine lv_iload_n hx hb dX0_reduce_39 rfl (lv_at hl 3 rfl) ?_
          refine lv_iload_n hx hb dX0_reduce_40 rfl (lv_at hl 4 rfl) ?_
          refine ctW_V (As := [.int (nI rk), .int (nI co)]) (rest := []) (wr := [(ad 15, .inl (cI, 5, .inl (nF p1)))]) ⟨hx, hb, hml, hown, hts⟩ (c_X0_clearColumn l D cI cZ ad q sm pr op iv hF mx_1 Z rk co (by omega) (by omega) g6 hs3) (cwV 2 hts gX0_reduce_X0_clearColumn rfl rfl rfl hdV_X0_clearColumn ⟨Nat.le_of_ble_eq_true rfl, Nat.le_of_ble_eq_true rfl⟩) hK hN hP hD hS hA [0, 1, 2, 3, 4, 5, 6] [7] rfl rfl rfl (by decide) (by decide) (by decide) 5 0 rfl rfl rfl hl.1 rfl (Nat.le_of_ble_eq_true rfl) ⟨Nat.zero_le _, Nat.zero_le _⟩ dX0_reduce_41 (fun mx_2 H locs hu41 hP hD hS => ?_)
          try dsimp only at hu41
          have hP : va_P D vwCl [(ad 0, .inr (1, [.int (nI q), .ref (ad 1), .ref (ad 2), .ref (ad 3), .ref (ad 4)])), (ad 1, .inl (cI, 81, .inl (nF sm))), (ad 2, .inl (cI, 81, .inl (nF pr))), (ad 3, .inl (cI, 9, .inl (nF op))), (ad 4, .inl (cI, 9, .inl (nF iv))), (ad 12, .inr (0, [.ref (ad 5), .ref (ad 0), .ref (ad 13), .ref (ad 14), .ref (ad 15)])), (ad 14, .inl (cI, 30, .inl (nF mx_2))), (ad 15, .inl (cI, 5, .inl (nF p1)))] H := hP.sub [1, 2, 3, 4, 5, 6, 7, 0] rfl
          have hD : va_D A [(ad 0, .inr (1, [.int (nI q), .ref (ad 1), .ref (ad 2), .ref (ad 3), .ref (ad 4)])), (ad 1, .inl (cI, 81, .inl (nF sm))), (ad 2, .inl (cI, 81, .inl (nF pr))), (ad 3, .inl (cI, 9, .inl (nF op))), (ad 4, .inl (cI, 9, .inl (nF iv))), (ad 12, .inr (0, [.ref (ad 5), .ref (ad 0), .ref (ad 13), .ref (ad 14), .ref (ad 15)])), (ad 14, .inl (cI, 30, .inl (nF mx_2))), (ad 15, .inl (cI, 5, .inl (nF p1)))] := hD.sub [1, 2, 3, 4, 5, 6, 7, 0] (by decide) rfl
          refine W.eq (g2 := F0 m 44 ls []) rfl ?_
          refine lv_aload_n hx hb dX0_reduce_44 rfl (lv_at hl 1 rfl) ?_
          refine va_get (D := D) (ci := 0) (v := .ref (ad 15)) (C := RX0) (T := TX0) (N := 5) hx hb hts hiX0 hown hK hP 5 rfl rfl 4 (by decide) hf18 (fun _ h9 => h9) rfl dX0_reduce_45 ?_
          refine lv_iload_n hx hb dX0_reduce_48 rfl (lv_at hl 3 rfl) ?_
          refine lv_iload_n hx hb dX0_reduce_49 rfl (lv_at hl 4 rfl) ?_
          refine nv_iast hx hb hK hP hD hS 7 0 rfl rfl (by omega) (by decide) dX0_reduce_50 (fun H locs hP hD hS => ?_)
          have hP : va_P D vwCl [(ad 0, .inr (1, [.int (nI q), .ref (ad 1), .ref (ad 2), .ref (ad 3), .ref (ad 4)])), (ad 1, .inl (cI, 81, .inl (nF sm))), (ad 2, .inl (cI, 81, .inl (nF pr))), (ad 3, .inl (cI, 9, .inl (nF op))), (ad 4, .inl (cI, 9, .inl (nF iv))), (ad 12, .inr (0, [.ref (ad 5), .ref (ad 0), .ref (ad 13), .ref (ad 14), .ref (ad 15)])), (ad 14, .inl (cI, 30, .inl (nF mx_2))), (ad 15, .inl (cI, 5, .inl (nF (upN p1 rk co))))] H := hP
          have hD : va_D A [(ad 0, .inr (1, [.int (nI q), .ref (ad 1), .ref (ad 2), .ref (ad 3), .ref (ad 4)])), (ad 1, .inl (cI, 81, .inl (nF sm))), (ad 2, .inl (cI, 81, .inl (nF pr))), (ad 3, .inl (cI, 9, .inl (nF op))), (ad 4, .inl (cI, 9, .inl (nF iv))), (ad 12, .inr (0, [.ref (ad 5), .ref (ad 0), .ref (ad 13), .ref (ad 14), .ref (ad 15)])), (ad 14, .inl (cI, 30, .inl (nF mx_2))), (ad 15, .inl (cI, 5, .inl (nF (upN p1 rk co))))] := hD
          refine lv_iinc (v := nI (rk + 1)) (lv' := [(2, .int (nI (rk + 1))), (4, .int (nI fd)), (0, .ref (ad 12)), (1, .int (nI fr)), (3, .int (nI co))]) hx hb dX0_reduce_51 hl (k := 3) rfl (nI_inc rk) (by decide) rfl (fun ls hl => ?_)
          refine lv_iinc (v := nI (co + 1)) (lv' := [(3, .int (nI (co + 1))), (2, .int (nI (rk + 1))), (4, .int (nI fd)), (0, .ref (ad 12)), (1, .int (nI fr))]) hx hb dX0_reduce_54 hl (k := 4) rfl (nI_inc co) (by decide) rfl (fun ls hl => ?_)
          refine lv_goto (tgt := 6) hx hb dX0_reduce_57 (by decide) ?_
          exact ih6 fr (rk + 1) (co + 1) mx_2 (upN p1 rk co) ls _ _ (by omega) (by omega) (JG_congr (by omega) (fun r k hr hk => by rw [hu41 r k hr hk, clR_congr hF.1 hrk c9 hu35 r k hr hk]) (fun j hj => rfl) (JG_yes hF.1 k_j c9 g1 g2 g3)) (lv_sub hl [3, 4, 1, 0] rfl) hP hD hS
        · refine lv_iload_n hx hb dX0_reduce_26 rfl (lv_at hl 4 rfl) ?_
          refine lv_istore_n (lv' := [(1, .int (nI co)), (4, .int (fpZ m1 co (5 - rk) rk)), (0, .ref (ad 12)), (2, .int (nI rk)), (3, .int (nI co))]) hx hb dX0_reduce_27 rfl hl (by decide) rfl (fun ls hl => ?_)
          refine lv_goto (tgt := 54) hx hb dX0_reduce_28 (by decide) ?_
          refine lv_iinc (v := nI (co + 1)) (lv' := [(3, .int (nI (co + 1))), (1, .int (nI co)), (4, .int (fpZ m1 co (5 - rk) rk)), (0, .ref (ad 12)), (2, .int (nI rk))]) hx hb dX0_reduce_54 hl (k := 4) rfl (nI_inc co) (by decide) rfl (fun ls hl => ?_)
          refine lv_goto (tgt := 6) hx hb dX0_reduce_57 (by decide) ?_
          exact ih6 co rk (co + 1) m1 p1 ls _ _ (by omega) (by omega) (JG_no k_j (fun r h1 h2 => fpZ_no (by omega) c23 r h1 (by omega))) (lv_sub hl [3, 1, 4, 0] rfl) hP hD hS
  exact L6 (6 - 0 + 1) 5 0 0 mx pv ls _ _ (by omega) (Nat.zero_le _) (JG_0 k_z) (lv_sub hl [3, 2, 1, 0] rfl) hP hD hS

set_option maxHeartbeats 4000000 in
set_option maxRecDepth 100000 in
theorem c_X0_listTerms (l : Launch) (D : va_G) (cI cZ : ClassId) (ad : Nat → Nat) (q : Nat) (sm : Nat → Nat) (pr : Nat → Nat) (op : Nat → Nat) (iv : Nat → Nat) (hF : FOK q sm pr op iv) (tr : Nat → Nat) (ro : Nat → Nat) (hT : TOK q tr) (mx : Nat → Nat) (aS : Nat) (S : Nat → Bool) (k_f : fiv q S) : CtW (S := (Nat → Nat)) l yX0_listTerms wsX0_listTerms { frames := 2, cells := 0, slots := 0, locals := 47 } D (tyG cI cZ) [.ref (ad 12), .ref aS] [(ad 0, .inr (1, [.int (nI q), .ref (ad 1), .ref (ad 2), .ref (ad 3), .ref (ad 4)])), (ad 1, .inl (cI, 81, .inl (nF sm))), (ad 2, .inl (cI, 81, .inl (nF pr))), (ad 3, .inl (cI, 9, .inl (nF op))), (ad 4, .inl (cI, 9, .inl (nF iv))), (ad 5, .inr (3, [.ref (ad 0), .int (nI (nn q)), .ref (ad 6), .ref (ad 7)])), (ad 6, .inl (cI, 273, .inl (nF tr))), (ad 7, .inl (cI, 910, .inl (nF ro))), (ad 12, .inr (0, [.ref (ad 5), .ref (ad 0), .ref (ad 13), .ref (ad 14), .ref (ad 15)])), (ad 14, .inl (cI, 30, .inl (nF mx))), (aS, .inl (cZ, 91, .inl (bF S)))] (fun (mx3 : Nat → Nat) => lsM q S 5 mx3) (fun (mx3 : Nat → Nat) => none) (fun (mx3 : Nat → Nat) => [(ad 0, .inr (1, [.int (nI q), .ref (ad 1), .ref (ad 2), .ref (ad 3), .ref (ad 4)])), (ad 1, .inl (cI, 81, .inl (nF sm))), (ad 2, .inl (cI, 81, .inl (nF pr))), (ad 3, .inl (cI, 9, .inl (nF op))), (ad 4, .inl (cI, 9, .inl (nF iv))), (ad 5, .inr (3, [.ref (ad 0), .int (nI (nn q)), .ref (ad 6), .ref (ad 7)])), (ad 6, .inl (cI, 273, .inl (nF tr))), (ad 7, .inl (cI, 910, .inl (nF ro))), (ad 12, .inr (0, [.ref (ad 5), .ref (ad 0), .ref (ad 13), .ref (ad 14), .ref (ad 15)])), (ad 14, .inl (cI, 30, .inl (nF mx3))), (aS, .inl (cZ, 91, .inl (bF S)))]) := by
  intro sz; refine Met.ofW (cc := cX0_listTerms) (maxL := 5) (ret := none) (by decide) rfl ?_
  intro p e s m args below meth c s₁ B hml hv
  obtain ⟨rfl, hsz, hP, hK, hD0, hN⟩ := hv
  have hx := B.exec
  have hb := B.bytes
  have hr := B.returns
  have hts := atoms_spec (ws := wsX0_listTerms) B.pre
  have hown : s.vm.findClass RX0 = some m.cls := findClass_of_methodNamed B.named
  have hlocks := B.notSynchronized
  subst hsz
  have hD := hD0.self (sz := s.heap.size)
  generalize hAe : va_A [(ad 0, .inr (1, [.int (nI q), .ref (ad 1), .ref (ad 2), .ref (ad 3), .ref (ad 4)])), (ad 1, .inl (cI, 81, .inl (nF sm))), (ad 2, .inl (cI, 81, .inl (nF pr))), (ad 3, .inl (cI, 9, .inl (nF op))), (ad 4, .inl (cI, 9, .inl (nF iv))), (ad 5, .inr (3, [.ref (ad 0), .int (nI (nn q)), .ref (ad 6), .ref (ad 7)])), (ad 6, .inl (cI, 273, .inl (nF tr))), (ad 7, .inl (cI, 910, .inl (nF ro))), (ad 12, .inr (0, [.ref (ad 5), .ref (ad 0), .ref (ad 13), .ref (ad 14), .ref (ad 15)])), (ad 14, .inl (cI, 30, .inl (nF mx))), (aS, .inl (cZ, 91, .inl (bF S)))] s.heap.size = A at hD ⊢
  have hA : ∀ q : Nat, s.heap.size ≤ q → A q := fun q h => by rw [← hAe]; exact Or.inr h
  have hS : va_S A s.heap s.heap [] := va_S.rf
  have hP : va_P D vwCl [(ad 0, .inr (1, [.int (nI q), .ref (ad 1), .ref (ad 2), .ref (ad 3), .ref (ad 4)])), (ad 1, .inl (cI, 81, .inl (nF sm))), (ad 2, .inl (cI, 81, .inl (nF pr))), (ad 3, .inl (cI, 9, .inl (nF op))), (ad 4, .inl (cI, 9, .inl (nF iv))), (ad 5, .inr (3, [.ref (ad 0), .int (nI (nn q)), .ref (ad 6), .ref (ad 7)])), (ad 6, .inl (cI, 273, .inl (nF tr))), (ad 7, .inl (cI, 910, .inl (nF ro))), (ad 12, .inr (0, [.ref (ad 5), .ref (ad 0), .ref (ad 13), .ref (ad 14), .ref (ad 15)])), (ad 14, .inl (cI, 30, .inl (nF mx))), (aS, .inl (cZ, 91, .inl (bF S)))] s.heap := hP
  have hf15 := hts (.fieldLink RX0 15 "FinitePlanes$Conic" "matrix" "[I") (by decide +kernel)
  have hf21 := hts (.fieldLink RX0 21 "FinitePlanes$Conic" "plane" "LFinitePlanes$Plane;") (by decide +kernel)
  have hiX0 : ∀ w ∈ u_ws RX0 TX0 5, w ∈ wsX0_listTerms := by decide +kernel
  have hl := lv_entry ([.ref (ad 12), .ref aS]) (n := 5) (Nat.le_of_ble_eq_true rfl)
  rw [lg_entry_eq]
  generalize (lg_sl ([.ref (ad 12), .ref aS]) ++ List.replicate (5 - (lg_sl ([.ref (ad 12), .ref aS])).length) Slot.unset).toArray = ls at hl ⊢
  have hl : lv_has ls 5 [(0, .ref (ad 12)), (1, .ref aS)] := hl
  have hq2 := qs_le hF.1
  have hn2 := nn_le hF.1
  refine lv_iconst (v := nI 0) hx hb dX0_listTerms_0 (by decide) ?_
  refine lv_istore_n (lv' := [(2, .int (nI 0)), (0, .ref (ad 12)), (1, .ref aS)]) hx hb dX0_listTerms_1 rfl hl (by decide) rfl (fun ls hl => ?_)
  have L2 : ∀ (N2 : Nat) (i : Nat) (m1 : Nat → Nat) (ls : Array Slot) (H : Heap) (locs : List Loc), 5 - i < N2 → (i ≤ 5) → (lsM q S i m1) → lv_has ls 5 [(0, .ref (ad 12)), (1, .ref aS), (2, .int (nI i))] → va_P D vwCl [(ad 0, .inr (1, [.int (nI q), .ref (ad 1), .ref (ad 2), .ref (ad 3), .ref (ad 4)])), (ad 1, .inl (cI, 81, .inl (nF sm))), (ad 2, .inl (cI, 81, .inl (nF pr))), (ad 3, .inl (cI, 9, .inl (nF op))), (ad 4, .inl (cI, 9, .inl (nF iv))), (ad 5, .inr (3, [.ref (ad 0), .int (nI (nn q)), .ref (ad 6), .ref (ad 7)])), (ad 6, .inl (cI, 273, .inl (nF tr))), (ad 7, .inl (cI, 910, .inl (nF ro))), (ad 12, .inr (0, [.ref (ad 5), .ref (ad 0), .ref (ad 13), .ref (ad 14), .ref (ad 15)])), (ad 14, .inl (cI, 30, .inl (nF m1))), (aS, .inl (cZ, 91, .inl (bF S)))] H → va_D A [(ad 0, .inr (1, [.int (nI q), .ref (ad 1), .ref (ad 2), .ref (ad 3), .ref (ad 4)])), (ad 1, .inl (cI, 81, .inl (nF sm))), (ad 2, .inl (cI, 81, .inl (nF pr))), (ad 3, .inl (cI, 9, .inl (nF op))), (ad 4, .inl (cI, 9, .inl (nF iv))), (ad 5, .inr (3, [.ref (ad 0), .int (nI (nn q)), .ref (ad 6), .ref (ad 7)])), (ad 6, .inl (cI, 273, .inl (nF tr))), (ad 7, .inl (cI, 910, .inl (nF ro))), (ad 12, .inr (0, [.ref (ad 5), .ref (ad 0), .ref (ad 13), .ref (ad 14), .ref (ad 15)])), (ad 14, .inl (cI, 30, .inl (nF m1))), (aS, .inl (cZ, 91, .inl (bF S)))] → va_S A s.heap H locs → WG p l e wsX0_listTerms { frames := 2, cells := 0, slots := 0, locals := 47 } s m [.ref (ad 12), .ref aS] below meth c H locs (CQ (S := (Nat → Nat)) D (fun (mx3 : Nat → Nat) => lsM q S 5 mx3) (fun (mx3 : Nat → Nat) => none) (fun (mx3 : Nat → Nat) => [(ad 0, .inr (1, [.int (nI q), .ref (ad 1), .ref (ad 2), .ref (ad 3), .ref (ad 4)])), (ad 1, .inl (cI, 81, .inl (nF sm))), (ad 2, .inl (cI, 81, .inl (nF pr))), (ad 3, .inl (cI, 9, .inl (nF op))), (ad 4, .inl (cI, 9, .inl (nF iv))), (ad 5, .inr (3, [.ref (ad 0), .int (nI (nn q)), .ref (ad 6), .ref (ad 7)])), (ad 6, .inl (cI, 273, .inl (nF tr))), (ad 7, .inl (cI, 910, .inl (nF ro))), (ad 12, .inr (0, [.ref (ad 5), .ref (ad 0), .ref (ad 13), .ref (ad 14), .ref (ad 15)])), (ad 14, .inl (cI, 30, .inl (nF mx3))), (aS, .inl (cZ, 91, .inl (bF S)))]) A) A 2 ls [] := by
    intro N2
    induction N2 with
    | zero => intro i m1 ls H locs hN; exact absurd hN (Nat.not_lt_zero _)
    | succ N2 ih2 =>
      intro i m1 ls H locs hN2 k_i k_s hl hP hD hS
      refine lv_iload_n hx hb dX0_listTerms_2 rfl (lv_at hl 2 rfl) ?_
      refine lv_iconst (v := nI 5) hx hb dX0_listTerms_3 (by decide) ?_
      refine nv_icmp_ge (tgt := 67) hx hb (by omega) (by decide) dX0_listTerms_4 (by decide) (fun c4 => ?_) (fun c4 => ?_)
      · exact ctW_retV m1 hx hb hr dX0_listTerms_67 hlocks hS hP hD (by rw [show i = 5 by omega] at k_s; exact k_s) rfl
      · have h5 : i < cnt S (nn q) := by rw [k_f.1]; exact c4
        have hm9 := (mbr_in h5).1
        refine lv_aload_n hx hb dX0_listTerms_7 rfl (lv_at hl 0 rfl) ?_
        refine va_get (D := D) (ci := 0) (v := .ref (ad 5)) (C := RX0) (T := TX0) (N := 5) hx hb hts hiX0 hown hK hP 8 rfl rfl 0 (by decide) hf21 (fun _ h9 => h9) rfl dX0_listTerms_8 ?_
        refine lv_aload_n hx hb dX0_listTerms_11 rfl (lv_at hl 1 rfl) ?_
        refine lv_iload_n hx hb dX0_listTerms_12 rfl (lv_at hl 2 rfl) ?_
        refine ctR_V (As := [.ref aS, .int (nI i)]) (rest := []) (r := .int (pickZ S (nn q) (nI i))) ⟨hx, hb, hml, hown, hts⟩ (c_X3_pick l D cI cZ ad q sm pr op iv hF tr ro hT aS S (nI i)) (cwV 2 hts gX0_listTerms_X3_pick rfl rfl rfl hdV_X3_pick ⟨Nat.le_of_ble_eq_true rfl, Nat.le_of_ble_eq_true rfl⟩) hK hN hP [0, 1, 2, 3, 4, 5, 6, 7, 10] rfl 5 3 rfl rfl rfl hl.1 rfl (Nat.le_of_ble_eq_true rfl) ⟨Nat.zero_le _, Nat.zero_le _⟩ dX0_listTerms_13 ?_
        refine nv_top (v' := .int (nI (mbr q S i))) (congrArg Value.int (mbr_pick hF.1 h5)) ?_
        refine lv_istore_n (lv' := [(3, .int (nI (mbr q S i))), (0, .ref (ad 12)), (1, .ref aS), (2, .int (nI i))]) hx hb dX0_listTerms_16 rfl hl (by decide) rfl (fun ls hl => ?_)
        refine lv_iconst (v := nI 0) hx hb dX0_listTerms_17 (by decide) ?_
        refine lv_istore (lv' := [(4, .int (nI 0)), (3, .int (nI (mbr q S i))), (0, .ref (ad 12)), (1, .ref aS), (2, .int (nI i))]) hx hb dX0_listTerms_18 hl (by decide) rfl (fun ls hl => ?_)
        refine lv_iload hx hb dX0_listTerms_20 (lv_at hl 0 rfl) ?_
        refine lv_bipush (v := nI 6) hx hb dX0_listTerms_22 (by decide) ?_
        refine nv_icmp_ge (tgt := 61) hx hb (by decide) (by decide) dX0_listTerms_24 (by decide) (fun c24 => absurd c24 (by omega)) (fun c24 => ?_)
        refine lv_aload_n hx hb dX0_listTerms_27 rfl (lv_at hl 2 rfl) ?_
        refine va_get (D := D) (ci := 0) (v := .ref (ad 14)) (C := RX0) (T := TX0) (N := 5) hx hb hts hiX0 hown hK hP 8 rfl rfl 3 (by decide) hf15 (fun _ h9 => h9) rfl dX0_listTerms_28 ?_
        refine lv_iload_n hx hb dX0_listTerms_31 rfl (lv_at hl 4 rfl) ?_
        refine lv_bipush (v := nI 6) hx hb dX0_listTerms_32 (by decide) ?_
        refine nv_mulE (r := i * 6) hx hb rfl dX0_listTerms_34 ?_
        refine lv_iload hx hb dX0_listTerms_35 (lv_at hl 0 rfl) ?_
        refine nv_addE (r := (i * 6) + 0) hx hb rfl dX0_listTerms_37 ?_
        refine lv_iload_n hx hb dX0_listTerms_38 rfl (lv_at hl 1 rfl) ?_
        refine lv_iconst (v := (-1)) hx hb dX0_listTerms_39 (by decide) ?_
        refine lv_icmp_ne (tgt := 47) hx hb dX0_listTerms_40 (by decide) (fun c40 => ?_) (fun c40 => absurd c40 (nI_ne1 (by omega)))
        refine lv_aload_n hx hb dX0_listTerms_47 rfl (lv_at hl 2 rfl) ?_
        refine lv_iload_n hx hb dX0_listTerms_48 rfl (lv_at hl 1 rfl) ?_
        refine lv_iload hx hb dX0_listTerms_49 (lv_at hl 0 rfl) ?_
        refine ctR_V (As := [.int (nI (mbr q S i)), .int (nI 0)]) (rest := [.int (nI ((i * 6) + 0)), .ref (ad 14)]) (r := .int (nI (trm q (mbr q S i) 0))) ⟨hx, hb, hml, hown, hts⟩ (c_X0_term_0 l D cI cZ ad q sm pr op iv hF tr ro hT (mbr q S i) (by omega)) (cwV 2 hts gX0_listTerms_X0_term rfl rfl rfl hdV_X0_term ⟨Nat.le_of_ble_eq_true rfl, Nat.le_of_ble_eq_true rfl⟩) hK hN hP [0, 1, 2, 3, 4, 5, 6, 7, 8] rfl 8 0 rfl rfl rfl hl.1 rfl (Nat.le_of_ble_eq_true rfl) ⟨Nat.zero_le _, Nat.zero_le _⟩ dX0_listTerms_51 ?_
        have hh_1 : trm q (mbr q S i) 0 < q := trm_lt hF.1 (by omega)
        refine nv_iast hx hb hK hP hD hS 9 0 rfl rfl (by omega) (by decide) dX0_listTerms_54 (fun H locs hP hD hS => ?_)
        have hP : va_P D vwCl [(ad 0, .inr (1, [.int (nI q), .ref (ad 1), .ref (ad 2), .ref (ad 3), .ref (ad 4)])), (ad 1, .inl (cI, 81, .inl (nF sm))), (ad 2, .inl (cI, 81, .inl (nF pr))), (ad 3, .inl (cI, 9, .inl (nF op))), (ad 4, .inl (cI, 9, .inl (nF iv))), (ad 5, .inr (3, [.ref (ad 0), .int (nI (nn q)), .ref (ad 6), .ref (ad 7)])), (ad 6, .inl (cI, 273, .inl (nF tr))), (ad 7, .inl (cI, 910, .inl (nF ro))), (ad 12, .inr (0, [.ref (ad 5), .ref (ad 0), .ref (ad 13), .ref (ad 14), .ref (ad 15)])), (ad 14, .inl (cI, 30, .inl (nF (upN m1 ((i * 6) + 0) (trm q (mbr q S i) 0))))), (aS, .inl (cZ, 91, .inl (bF S)))] H := hP
        have hD : va_D A [(ad 0, .inr (1, [.int (nI q), .ref (ad 1), .ref (ad 2), .ref (ad 3), .ref (ad 4)])), (ad 1, .inl (cI, 81, .inl (nF sm))), (ad 2, .inl (cI, 81, .inl (nF pr))), (ad 3, .inl (cI, 9, .inl (nF op))), (ad 4, .inl (cI, 9, .inl (nF iv))), (ad 5, .inr (3, [.ref (ad 0), .int (nI (nn q)), .ref (ad 6), .ref (ad 7)])), (ad 6, .inl (cI, 273, .inl (nF tr))), (ad 7, .inl (cI, 910, .inl (nF ro))), (ad 12, .inr (0, [.ref (ad 5), .ref (ad 0), .ref (ad 13), .ref (ad 14), .ref (ad 15)])), (ad 14, .inl (cI, 30, .inl (nF (upN m1 ((i * 6) + 0) (trm q (mbr q S i) 0))))), (aS, .inl (cZ, 91, .inl (bF S)))] := hD
        refine lv_iinc (v := nI 1) (lv' := [(4, .int (nI 1)), (3, .int (nI (mbr q S i))), (0, .ref (ad 12)), (1, .ref aS), (2, .int (nI i))]) hx hb dX0_listTerms_55 hl (k := 0) rfl (nI_inc 0) (by decide) rfl (fun ls hl => ?_)
        refine lv_goto (tgt := 20) hx hb dX0_listTerms_58 (by decide) ?_
        refine lv_iload hx hb dX0_listTerms_20 (lv_at hl 0 rfl) ?_
        refine lv_bipush (v := nI 6) hx hb dX0_listTerms_22 (by decide) ?_
        refine nv_icmp_ge (tgt := 61) hx hb (by decide) (by decide) dX0_listTerms_24 (by decide) (fun c24 => absurd c24 (by omega)) (fun c24 => ?_)
        refine lv_aload_n hx hb dX0_listTerms_27 rfl (lv_at hl 2 rfl) ?_
        refine va_get (D := D) (ci := 0) (v := .ref (ad 14)) (C := RX0) (T := TX0) (N := 5) hx hb hts hiX0 hown hK hP 8 rfl rfl 3 (by decide) hf15 (fun _ h9 => h9) rfl dX0_listTerms_28 ?_
        refine lv_iload_n hx hb dX0_listTerms_31 rfl (lv_at hl 4 rfl) ?_
        refine lv_bipush (v := nI 6) hx hb dX0_listTerms_32 (by decide) ?_
        refine nv_mulE (r := i * 6) hx hb rfl dX0_listTerms_34 ?_
        refine lv_iload hx hb dX0_listTerms_35 (lv_at hl 0 rfl) ?_
        refine nv_addE (r := (i * 6) + 1) hx hb rfl dX0_listTerms_37 ?_
        refine lv_iload_n hx hb dX0_listTerms_38 rfl (lv_at hl 1 rfl) ?_
        refine lv_iconst (v := (-1)) hx hb dX0_listTerms_39 (by decide) ?_
        refine lv_icmp_ne (tgt := 47) hx hb dX0_listTerms_40 (by decide) (fun c40 => ?_) (fun c40 => absurd c40 (nI_ne1 (by omega)))
        refine lv_aload_n hx hb dX0_listTerms_47 rfl (lv_at hl 2 rfl) ?_
        refine lv_iload_n hx hb dX0_listTerms_48 rfl (lv_at hl 1 rfl) ?_
        refine lv_iload hx hb dX0_listTerms_49 (lv_at hl 0 rfl) ?_
        refine ctR_V (As := [.int (nI (mbr q S i)), .int (nI 1)]) (rest := [.int (nI ((i * 6) + 1)), .ref (ad 14)]) (r := .int (nI (trm q (mbr q S i) 1))) ⟨hx, hb, hml, hown, hts⟩ (c_X0_term_1 l D cI cZ ad q sm pr op iv hF tr ro hT (mbr q S i) (by omega)) (cwV 2 hts gX0_listTerms_X0_term rfl rfl rfl hdV_X0_term ⟨Nat.le_of_ble_eq_true rfl, Nat.le_of_ble_eq_true rfl⟩) hK hN hP [0, 1, 2, 3, 4, 5, 6, 7, 8] rfl 8 0 rfl rfl rfl hl.1 rfl (Nat.le_of_ble_eq_true rfl) ⟨Nat.zero_le _, Nat.zero_le _⟩ dX0_listTerms_51 ?_
        have hh_2 : trm q (mbr q S i) 1 < q := trm_lt hF.1 (by omega)
        refine nv_iast hx hb hK hP hD hS 9 0 rfl rfl (by omega) (by decide) dX0_listTerms_54 (fun H locs hP hD hS => ?_)
        have hP : va_P D vwCl [(ad 0, .inr (1, [.int (nI q), .ref (ad 1), .ref (ad 2), .ref (ad 3), .ref (ad 4)])), (ad 1, .inl (cI, 81, .inl (nF sm))), (ad 2, .inl (cI, 81, .inl (nF pr))), (ad 3, .inl (cI, 9, .inl (nF op))), (ad 4, .inl (cI, 9, .inl (nF iv))), (ad 5, .inr (3, [.ref (ad 0), .int (nI (nn q)), .ref (ad 6), .ref (ad 7)])), (ad 6, .inl (cI, 273, .inl (nF tr))), (ad 7, .inl (cI, 910, .inl (nF ro))), (ad 12, .inr (0, [.ref (ad 5), .ref (ad 0), .ref (ad 13), .ref (ad 14), .ref (ad 15)])), (ad 14, .inl (cI, 30, .inl (nF (upN (upN m1 ((i * 6) + 0) (trm q (mbr q S i) 0)) ((i * 6) + 1) (trm q (mbr q S i) 1))))), (aS, .inl (cZ, 91, .inl (bF S)))] H := hP
        have hD : va_D A [(ad 0, .inr (1, [.int (nI q), .ref (ad 1), .ref (ad 2), .ref (ad 3), .ref (ad 4)])), (ad 1, .inl (cI, 81, .inl (nF sm))), (ad 2, .inl (cI, 81, .inl (nF pr))), (ad 3, .inl (cI, 9, .inl (nF op))), (ad 4, .inl (cI, 9, .inl (nF iv))), (ad 5, .inr (3, [.ref (ad 0), .int (nI (nn q)), .ref (ad 6), .ref (ad 7)])), (ad 6, .inl (cI, 273, .inl (nF tr))), (ad 7, .inl (cI, 910, .inl (nF ro))), (ad 12, .inr (0, [.ref (ad 5), .ref (ad 0), .ref (ad 13), .ref (ad 14), .ref (ad 15)])), (ad 14, .inl (cI, 30, .inl (nF (upN (upN m1 ((i * 6) + 0) (trm q (mbr q S i) 0)) ((i * 6) + 1) (trm q (mbr q S i) 1))))), (aS, .inl (cZ, 91, .inl (bF S)))] := hD
        refine lv_iinc (v := nI 2) (lv' := [(4, .int (nI 2)), (3, .int (nI (mbr q S i))), (0, .ref (ad 12)), (1, .ref aS), (2, .int (nI i))]) hx hb dX0_listTerms_55 hl (k := 0) rfl (nI_inc 1) (by decide) rfl (fun ls hl => ?_)
        refine lv_goto (tgt := 20) hx hb dX0_listTerms_58 (by decide) ?_
        refine lv_iload hx hb dX0_listTerms_20 (lv_at hl 0 rfl) ?_
        refine lv_bipush (v := nI 6) hx hb dX0_listTerms_22 (by decide) ?_
        refine nv_icmp_ge (tgt := 61) hx hb (by decide) (by decide) dX0_listTerms_24 (by decide) (fun c24 => absurd c24 (by omega)) (fun c24 => ?_)
        refine lv_aload_n hx hb dX0_listTerms_27 rfl (lv_at hl 2 rfl) ?_
        refine va_get (D := D) (ci := 0) (v := .ref (ad 14)) (C := RX0) (T := TX0) (N := 5) hx hb hts hiX0 hown hK hP 8 rfl rfl 3 (by decide) hf15 (fun _ h9 => h9) rfl dX0_listTerms_28 ?_
        refine lv_iload_n hx hb dX0_listTerms_31 rfl (lv_at hl 4 rfl) ?_
        refine lv_bipush (v := nI 6) hx hb dX0_listTerms_32 (by decide) ?_
        refine nv_mulE (r := i * 6) hx hb rfl dX0_listTerms_34 ?_
        refine lv_iload hx hb dX0_listTerms_35 (lv_at hl 0 rfl) ?_
        refine nv_addE (r := (i * 6) + 2) hx hb rfl dX0_listTerms_37 ?_
        refine lv_iload_n hx hb dX0_listTerms_38 rfl (lv_at hl 1 rfl) ?_
        refine lv_iconst (v := (-1)) hx hb dX0_listTerms_39 (by decide) ?_
        refine lv_icmp_ne (tgt := 47) hx hb dX0_listTerms_40 (by decide) (fun c40 => ?_) (fun c40 => absurd c40 (nI_ne1 (by omega)))
        refine lv_aload_n hx hb dX0_listTerms_47 rfl (lv_at hl 2 rfl) ?_
        refine lv_iload_n hx hb dX0_listTerms_48 rfl (lv_at hl 1 rfl) ?_
        refine lv_iload hx hb dX0_listTerms_49 (lv_at hl 0 rfl) ?_
        refine ctR_V (As := [.int (nI (mbr q S i)), .int (nI 2)]) (rest := [.int (nI ((i * 6) + 2)), .ref (ad 14)]) (r := .int (nI (trm q (mbr q S i) 2))) ⟨hx, hb, hml, hown, hts⟩ (c_X0_term_2 l D cI cZ ad q sm pr op iv hF tr ro hT (mbr q S i) (by omega)) (cwV 2 hts gX0_listTerms_X0_term rfl rfl rfl hdV_X0_term ⟨Nat.le_of_ble_eq_true rfl, Nat.le_of_ble_eq_true rfl⟩) hK hN hP [0, 1, 2, 3, 4, 5, 6, 7, 8] rfl 8 0 rfl rfl rfl hl.1 rfl (Nat.le_of_ble_eq_true rfl) ⟨Nat.zero_le _, Nat.zero_le _⟩ dX0_listTerms_51 ?_
        have hh_3 : trm q (mbr q S i) 2 < q := trm_lt hF.1 (by omega)
        refine nv_iast hx hb hK hP hD hS 9 0 rfl rfl (by omega) (by decide) dX0_listTerms_54 (fun H locs hP hD hS => ?_)
        have hP : va_P D vwCl [(ad 0, .inr (1, [.int (nI q), .ref (ad 1), .ref (ad 2), .ref (ad 3), .ref (ad 4)])), (ad 1, .inl (cI, 81, .inl (nF sm))), (ad 2, .inl (cI, 81, .inl (nF pr))), (ad 3, .inl (cI, 9, .inl (nF op))), (ad 4, .inl (cI, 9, .inl (nF iv))), (ad 5, .inr (3, [.ref (ad 0), .int (nI (nn q)), .ref (ad 6), .ref (ad 7)])), (ad 6, .inl (cI, 273, .inl (nF tr))), (ad 7, .inl (cI, 910, .inl (nF ro))), (ad 12, .inr (0, [.ref (ad 5), .ref (ad 0), .ref (ad 13), .ref (ad 14), .ref (ad 15)])), (ad 14, .inl (cI, 30, .inl (nF (upN (upN (upN m1 ((i * 6) + 0) (trm q (mbr q S i) 0)) ((i * 6) + 1) (trm q (mbr q S i) 1)) ((i * 6) + 2) (trm q (mbr q S i) 2))))), (aS, .inl (cZ, 91, .inl (bF S)))] H := hP
        have hD : va_D A [(ad 0, .inr (1, [.int (nI q), .ref (ad 1), .ref (ad 2), .ref (ad 3), .ref (ad 4)])), (ad 1, .inl (cI, 81, .inl (nF sm))), (ad 2, .inl (cI, 81, .inl (nF pr))), (ad 3, .inl (cI, 9, .inl (nF op))), (ad 4, .inl (cI, 9, .inl (nF iv))), (ad 5, .inr (3, [.ref (ad 0), .int (nI (nn q)), .ref (ad 6), .ref (ad 7)])), (ad 6, .inl (cI, 273, .inl (nF tr))), (ad 7, .inl (cI, 910, .inl (nF ro))), (ad 12, .inr (0, [.ref (ad 5), .ref (ad 0), .ref (ad 13), .ref (ad 14), .ref (ad 15)])), (ad 14, .inl (cI, 30, .inl (nF (upN (upN (upN m1 ((i * 6) + 0) (trm q (mbr q S i) 0)) ((i * 6) + 1) (trm q (mbr q S i) 1)) ((i * 6) + 2) (trm q (mbr q S i) 2))))), (aS, .inl (cZ, 91, .inl (bF S)))] := hD
        refine lv_iinc (v := nI 3) (lv' := [(4, .int (nI 3)), (3, .int (nI (mbr q S i))), (0, .ref (ad 12)), (1, .ref aS), (2, .int (nI i))]) hx hb dX0_listTerms_55 hl (k := 0) rfl (nI_inc 2) (by decide) rfl (fun ls hl => ?_)
        refine lv_goto (tgt := 20) hx hb dX0_listTerms_58 (by decide) ?_
        refine lv_iload hx hb dX0_listTerms_20 (lv_at hl 0 rfl) ?_
        refine lv_bipush (v := nI 6) hx hb dX0_listTerms_22 (by decide) ?_
        refine nv_icmp_ge (tgt := 61) hx hb (by decide) (by decide) dX0_listTerms_24 (by decide) (fun c24 => absurd c24 (by omega)) (fun c24 => ?_)
        refine lv_aload_n hx hb dX0_listTerms_27 rfl (lv_at hl 2 rfl) ?_
        refine va_get (D := D) (ci := 0) (v := .ref (ad 14)) (C := RX0) (T := TX0) (N := 5) hx hb hts hiX0 hown hK hP 8 rfl rfl 3 (by decide) hf15 (fun _ h9 => h9) rfl dX0_listTerms_28 ?_
        refine lv_iload_n hx hb dX0_listTerms_31 rfl (lv_at hl 4 rfl) ?_
        refine lv_bipush (v := nI 6) hx hb dX0_listTerms_32 (by decide) ?_
        refine nv_mulE (r := i * 6) hx hb rfl dX0_listTerms_34 ?_
        refine lv_iload hx hb dX0_listTerms_35 (lv_at hl 0 rfl) ?_
        refine nv_addE (r := (i * 6) + 3) hx hb rfl dX0_listTerms_37 ?_
        refine lv_iload_n hx hb dX0_listTerms_38 rfl (lv_at hl 1 rfl) ?_
        refine lv_iconst (v := (-1)) hx hb dX0_listTerms_39 (by decide) ?_
        refine lv_icmp_ne (tgt := 47) hx hb dX0_listTerms_40 (by decide) (fun c40 => ?_) (fun c40 => absurd c40 (nI_ne1 (by omega)))
        refine lv_aload_n hx hb dX0_listTerms_47 rfl (lv_at hl 2 rfl) ?_
        refine lv_iload_n hx hb dX0_listTerms_48 rfl (lv_at hl 1 rfl) ?_
        refine lv_iload hx hb dX0_listTerms_49 (lv_at hl 0 rfl) ?_
        refine ctR_V (As := [.int (nI (mbr q S i)), .int (nI 3)]) (rest := [.int (nI ((i * 6) + 3)), .ref (ad 14)]) (r := .int (nI (trm q (mbr q S i) 3))) ⟨hx, hb, hml, hown, hts⟩ (c_X0_term_3 l D cI cZ ad q sm pr op iv hF tr ro hT (mbr q S i) (by omega)) (cwV 2 hts gX0_listTerms_X0_term rfl rfl rfl hdV_X0_term ⟨Nat.le_of_ble_eq_true rfl, Nat.le_of_ble_eq_true rfl⟩) hK hN hP [0, 1, 2, 3, 4, 5, 6, 7, 8] rfl 8 0 rfl rfl rfl hl.1 rfl (Nat.le_of_ble_eq_true rfl) ⟨Nat.zero_le _, Nat.zero_le _⟩ dX0_listTerms_51 ?_
        have hh_4 : trm q (mbr q S i) 3 < q := trm_lt hF.1 (by omega)
        refine nv_iast hx hb hK hP hD hS 9 0 rfl rfl (by omega) (by decide) dX0_listTerms_54 (fun H locs hP hD hS => ?_)
        have hP : va_P D vwCl [(ad 0, .inr (1, [.int (nI q), .ref (ad 1), .ref (ad 2), .ref (ad 3), .ref (ad 4)])), (ad 1, .inl (cI, 81, .inl (nF sm))), (ad 2, .inl (cI, 81, .inl (nF pr))), (ad 3, .inl (cI, 9, .inl (nF op))), (ad 4, .inl (cI, 9, .inl (nF iv))), (ad 5, .inr (3, [.ref (ad 0), .int (nI (nn q)), .ref (ad 6), .ref (ad 7)])), (ad 6, .inl (cI, 273, .inl (nF tr))), (ad 7, .inl (cI, 910, .inl (nF ro))), (ad 12, .inr (0, [.ref (ad 5), .ref (ad 0), .ref (ad 13), .ref (ad 14), .ref (ad 15)])), (ad 14, .inl (cI, 30, .inl (nF (upN (upN (upN (upN m1 ((i * 6) + 0) (trm q (mbr q S i) 0)) ((i * 6) + 1) (trm q (mbr q S i) 1)) ((i * 6) + 2) (trm q (mbr q S i) 2)) ((i * 6) + 3) (trm q (mbr q S i) 3))))), (aS, .inl (cZ, 91, .inl (bF S)))] H := hP
        have hD : va_D A [(ad 0, .inr (1, [.int (nI q), .ref (ad 1), .ref (ad 2), .ref (ad 3), .ref (ad 4)])), (ad 1, .inl (cI, 81, .inl (nF sm))), (ad 2, .inl (cI, 81, .inl (nF pr))), (ad 3, .inl (cI, 9, .inl (nF op))), (ad 4, .inl (cI, 9, .inl (nF iv))), (ad 5, .inr (3, [.ref (ad 0), .int (nI (nn q)), .ref (ad 6), .ref (ad 7)])), (ad 6, .inl (cI, 273, .inl (nF tr))), (ad 7, .inl (cI, 910, .inl (nF ro))), (ad 12, .inr (0, [.ref (ad 5), .ref (ad 0), .ref (ad 13), .ref (ad 14), .ref (ad 15)])), (ad 14, .inl (cI, 30, .inl (nF (upN (upN (upN (upN m1 ((i * 6) + 0) (trm q (mbr q S i) 0)) ((i * 6) + 1) (trm q (mbr q S i) 1)) ((i * 6) + 2) (trm q (mbr q S i) 2)) ((i * 6) + 3) (trm q (mbr q S i) 3))))), (aS, .inl (cZ, 91, .inl (bF S)))] := hD
        refine lv_iinc (v := nI 4) (lv' := [(4, .int (nI 4)), (3, .int (nI (mbr q S i))), (0, .ref (ad 12)), (1, .ref aS), (2, .int (nI i))]) hx hb dX0_listTerms_55 hl (k := 0) rfl (nI_inc 3) (by decide) rfl (fun ls hl => ?_)
        refine lv_goto (tgt := 20) hx hb dX0_listTerms_58 (by decide) ?_
        refine lv_iload hx hb dX0_listTerms_20 (lv_at hl 0 rfl) ?_
        refine lv_bipush (v := nI 6) hx hb dX0_listTerms_22 (by decide) ?_
        refine nv_icmp_ge (tgt := 61) hx hb (by decide) (by decide) dX0_listTerms_24 (by decide) (fun c24 => absurd c24 (by omega)) (fun c24 => ?_)
        refine lv_aload_n hx hb dX0_listTerms_27 rfl (lv_at hl 2 rfl) ?_
        refine va_get (D := D) (ci := 0) (v := .ref (ad 14)) (C := RX0) (T := TX0) (N := 5) hx hb hts hiX0 hown hK hP 8 rfl rfl 3 (by decide) hf15 (fun _ h9 => h9) rfl dX0_listTerms_28 ?_
        refine lv_iload_n hx hb dX0_listTerms_31 rfl (lv_at hl 4 rfl) ?_
        refine lv_bipush (v := nI 6) hx hb dX0_listTerms_32 (by decide) ?_
        refine nv_mulE (r := i * 6) hx hb rfl dX0_listTerms_34 ?_
        refine lv_iload hx hb dX0_listTerms_35 (lv_at hl 0 rfl) ?_
        refine nv_addE (r := (i * 6) + 4) hx hb rfl dX0_listTerms_37 ?_
        refine lv_iload_n hx hb dX0_listTerms_38 rfl (lv_at hl 1 rfl) ?_
        refine lv_iconst (v := (-1)) hx hb dX0_listTerms_39 (by decide) ?_
        refine lv_icmp_ne (tgt := 47) hx hb dX0_listTerms_40 (by decide) (fun c40 => ?_) (fun c40 => absurd c40 (nI_ne1 (by omega)))
        refine lv_aload_n hx hb dX0_listTerms_47 rfl (lv_at hl 2 rfl) ?_
        refine lv_iload_n hx hb dX0_listTerms_48 rfl (lv_at hl 1 rfl) ?_
        refine lv_iload hx hb dX0_listTerms_49 (lv_at hl 0 rfl) ?_
        refine ctR_V (As := [.int (nI (mbr q S i)), .int (nI 4)]) (rest := [.int (nI ((i * 6) + 4)), .ref (ad 14)]) (r := .int (nI (trm q (mbr q S i) 4))) ⟨hx, hb, hml, hown, hts⟩ (c_X0_term_4 l D cI cZ ad q sm pr op iv hF tr ro hT (mbr q S i) (by omega)) (cwV 2 hts gX0_listTerms_X0_term rfl rfl rfl hdV_X0_term ⟨Nat.le_of_ble_eq_true rfl, Nat.le_of_ble_eq_true rfl⟩) hK hN hP [0, 1, 2, 3, 4, 5, 6, 7, 8] rfl 8 0 rfl rfl rfl hl.1 rfl (Nat.le_of_ble_eq_true rfl) ⟨Nat.zero_le _, Nat.zero_le _⟩ dX0_listTerms_51 ?_
        have hh_5 : trm q (mbr q S i) 4 < q := trm_lt hF.1 (by omega)
        refine nv_iast hx hb hK hP hD hS 9 0 rfl rfl (by omega) (by decide) dX0_listTerms_54 (fun H locs hP hD hS => ?_)
        have hP : va_P D vwCl [(ad 0, .inr (1, [.int (nI q), .ref (ad 1), .ref (ad 2), .ref (ad 3), .ref (ad 4)])), (ad 1, .inl (cI, 81, .inl (nF sm))), (ad 2, .inl (cI, 81, .inl (nF pr))), (ad 3, .inl (cI, 9, .inl (nF op))), (ad 4, .inl (cI, 9, .inl (nF iv))), (ad 5, .inr (3, [.ref (ad 0), .int (nI (nn q)), .ref (ad 6), .ref (ad 7)])), (ad 6, .inl (cI, 273, .inl (nF tr))), (ad 7, .inl (cI, 910, .inl (nF ro))), (ad 12, .inr (0, [.ref (ad 5), .ref (ad 0), .ref (ad 13), .ref (ad 14), .ref (ad 15)])), (ad 14, .inl (cI, 30, .inl (nF (upN (upN (upN (upN (upN m1 ((i * 6) + 0) (trm q (mbr q S i) 0)) ((i * 6) + 1) (trm q (mbr q S i) 1)) ((i * 6) + 2) (trm q (mbr q S i) 2)) ((i * 6) + 3) (trm q (mbr q S i) 3)) ((i * 6) + 4) (trm q (mbr q S i) 4))))), (aS, .inl (cZ, 91, .inl (bF S)))] H := hP
        have hD : va_D A [(ad 0, .inr (1, [.int (nI q), .ref (ad 1), .ref (ad 2), .ref (ad 3), .ref (ad 4)])), (ad 1, .inl (cI, 81, .inl (nF sm))), (ad 2, .inl (cI, 81, .inl (nF pr))), (ad 3, .inl (cI, 9, .inl (nF op))), (ad 4, .inl (cI, 9, .inl (nF iv))), (ad 5, .inr (3, [.ref (ad 0), .int (nI (nn q)), .ref (ad 6), .ref (ad 7)])), (ad 6, .inl (cI, 273, .inl (nF tr))), (ad 7, .inl (cI, 910, .inl (nF ro))), (ad 12, .inr (0, [.ref (ad 5), .ref (ad 0), .ref (ad 13), .ref (ad 14), .ref (ad 15)])), (ad 14, .inl (cI, 30, .inl (nF (upN (upN (upN (upN (upN m1 ((i * 6) + 0) (trm q (mbr q S i) 0)) ((i * 6) + 1) (trm q (mbr q S i) 1)) ((i * 6) + 2) (trm q (mbr q S i) 2)) ((i * 6) + 3) (trm q (mbr q S i) 3)) ((i * 6) + 4) (trm q (mbr q S i) 4))))), (aS, .inl (cZ, 91, .inl (bF S)))] := hD
        refine lv_iinc (v := nI 5) (lv' := [(4, .int (nI 5)), (3, .int (nI (mbr q S i))), (0, .ref (ad 12)), (1, .ref aS), (2, .int (nI i))]) hx hb dX0_listTerms_55 hl (k := 0) rfl (nI_inc 4) (by decide) rfl (fun ls hl => ?_)
        refine lv_goto (tgt := 20) hx hb dX0_listTerms_58 (by decide) ?_
        refine lv_iload hx hb dX0_listTerms_20 (lv_at hl 0 rfl) ?_
        refine lv_bipush (v := nI 6) hx hb dX0_listTerms_22 (by decide) ?_
        refine nv_icmp_ge (tgt := 61) hx hb (by decide) (by decide) dX0_listTerms_24 (by decide) (fun c24 => absurd c24 (by omega)) (fun c24 => ?_)
        refine lv_aload_n hx hb dX0_listTerms_27 rfl (lv_at hl 2 rfl) ?_
        refine va_get (D := D) (ci := 0) (v := .ref (ad 14)) (C := RX0) (T := TX0) (N := 5) hx hb hts hiX0 hown hK hP 8 rfl rfl 3 (by decide) hf15 (fun _ h9 => h9) rfl dX0_listTerms_28 ?_
        refine lv_iload_n hx hb dX0_listTerms_31 rfl (lv_at hl 4 rfl) ?_
        refine lv_bipush (v := nI 6) hx hb dX0_listTerms_32 (by decide) ?_
        refine nv_mulE (r := i * 6) hx hb rfl dX0_listTerms_34 ?_
        refine lv_iload hx hb dX0_listTerms_35 (lv_at hl 0 rfl) ?_
        refine nv_addE (r := (i * 6) + 5) hx hb rfl dX0_listTerms_37 ?_
        refine lv_iload_n hx hb dX0_listTerms_38 rfl (lv_at hl 1 rfl) ?_
        refine lv_iconst (v := (-1)) hx hb dX0_listTerms_39 (by decide) ?_
        refine lv_icmp_ne (tgt := 47) hx hb dX0_listTerms_40 (by decide) (fun c40 => ?_) (fun c40 => absurd c40 (nI_ne1 (by omega)))
        refine lv_aload_n hx hb dX0_listTerms_47 rfl (lv_at hl 2 rfl) ?_
        refine lv_iload_n hx hb dX0_listTerms_48 rfl (lv_at hl 1 rfl) ?_
        refine lv_iload hx hb dX0_listTerms_49 (lv_at hl 0 rfl) ?_
        refine ctR_V (As := [.int (nI (mbr q S i)), .int (nI 5)]) (rest := [.int (nI ((i * 6) + 5)), .ref (ad 14)]) (r := .int (nI (trm q (mbr q S i) 5))) ⟨hx, hb, hml, hown, hts⟩ (c_X0_term_5 l D cI cZ ad q sm pr op iv hF tr ro hT (mbr q S i) (by omega)) (cwV 2 hts gX0_listTerms_X0_term rfl rfl rfl hdV_X0_term ⟨Nat.le_of_ble_eq_true rfl, Nat.le_of_ble_eq_true rfl⟩) hK hN hP [0, 1, 2, 3, 4, 5, 6, 7, 8] rfl 8 0 rfl rfl rfl hl.1 rfl (Nat.le_of_ble_eq_true rfl) ⟨Nat.zero_le _, Nat.zero_le _⟩ dX0_listTerms_51 ?_
        have hh_6 : trm q (mbr q S i) 5 < q := trm_lt hF.1 (by omega)
        refine nv_iast hx hb hK hP hD hS 9 0 rfl rfl (by omega) (by decide) dX0_listTerms_54 (fun H locs hP hD hS => ?_)
        have hP : va_P D vwCl [(ad 0, .inr (1, [.int (nI q), .ref (ad 1), .ref (ad 2), .ref (ad 3), .ref (ad 4)])), (ad 1, .inl (cI, 81, .inl (nF sm))), (ad 2, .inl (cI, 81, .inl (nF pr))), (ad 3, .inl (cI, 9, .inl (nF op))), (ad 4, .inl (cI, 9, .inl (nF iv))), (ad 5, .inr (3, [.ref (ad 0), .int (nI (nn q)), .ref (ad 6), .ref (ad 7)])), (ad 6, .inl (cI, 273, .inl (nF tr))), (ad 7, .inl (cI, 910, .inl (nF ro))), (ad 12, .inr (0, [.ref (ad 5), .ref (ad 0), .ref (ad 13), .ref (ad 14), .ref (ad 15)])), (ad 14, .inl (cI, 30, .inl (nF (upN (upN (upN (upN (upN (upN m1 ((i * 6) + 0) (trm q (mbr q S i) 0)) ((i * 6) + 1) (trm q (mbr q S i) 1)) ((i * 6) + 2) (trm q (mbr q S i) 2)) ((i * 6) + 3) (trm q (mbr q S i) 3)) ((i * 6) + 4) (trm q (mbr q S i) 4)) ((i * 6) + 5) (trm q (mbr q S i) 5))))), (aS, .inl (cZ, 91, .inl (bF S)))] H := hP
        have hD : va_D A [(ad 0, .inr (1, [.int (nI q), .ref (ad 1), .ref (ad 2), .ref (ad 3), .ref (ad 4)])), (ad 1, .inl (cI, 81, .inl (nF sm))), (ad 2, .inl (cI, 81, .inl (nF pr))), (ad 3, .inl (cI, 9, .inl (nF op))), (ad 4, .inl (cI, 9, .inl (nF iv))), (ad 5, .inr (3, [.ref (ad 0), .int (nI (nn q)), .ref (ad 6), .ref (ad 7)])), (ad 6, .inl (cI, 273, .inl (nF tr))), (ad 7, .inl (cI, 910, .inl (nF ro))), (ad 12, .inr (0, [.ref (ad 5), .ref (ad 0), .ref (ad 13), .ref (ad 14), .ref (ad 15)])), (ad 14, .inl (cI, 30, .inl (nF (upN (upN (upN (upN (upN (upN m1 ((i * 6) + 0) (trm q (mbr q S i) 0)) ((i * 6) + 1) (trm q (mbr q S i) 1)) ((i * 6) + 2) (trm q (mbr q S i) 2)) ((i * 6) + 3) (trm q (mbr q S i) 3)) ((i * 6) + 4) (trm q (mbr q S i) 4)) ((i * 6) + 5) (trm q (mbr q S i) 5))))), (aS, .inl (cZ, 91, .inl (bF S)))] := hD
        refine lv_iinc (v := nI 6) (lv' := [(4, .int (nI 6)), (3, .int (nI (mbr q S i))), (0, .ref (ad 12)), (1, .ref aS), (2, .int (nI i))]) hx hb dX0_listTerms_55 hl (k := 0) rfl (nI_inc 5) (by decide) rfl (fun ls hl => ?_)
        refine lv_goto (tgt := 20) hx hb dX0_listTerms_58 (by decide) ?_
        refine lv_iload hx hb dX0_listTerms_20 (lv_at hl 0 rfl) ?_
        refine lv_bipush (v := nI 6) hx hb dX0_listTerms_22 (by decide) ?_
        refine nv_icmp_ge (tgt := 61) hx hb (by decide) (by decide) dX0_listTerms_24 (by decide) (fun c24 => ?_) (fun c24 => absurd c24 (by omega))
        refine lv_iinc (v := nI (i + 1)) (lv' := [(2, .int (nI (i + 1))), (4, .int (nI 6)), (3, .int (nI (mbr q S i))), (0, .ref (ad 12)), (1, .ref aS)]) hx hb dX0_listTerms_61 hl (k := 4) rfl (nI_inc i) (by decide) rfl (fun ls hl => ?_)
        refine lv_goto (tgt := 2) hx hb dX0_listTerms_64 (by decide) ?_
        exact ih2 (i + 1) (upN (upN (upN (upN (upN (upN m1 ((i * 6) + 0) (trm q (mbr q S i) 0)) ((i * 6) + 1) (trm q (mbr q S i) 1)) ((i * 6) + 2) (trm q (mbr q S i) 2)) ((i * 6) + 3) (trm q (mbr q S i) 3)) ((i * 6) + 4) (trm q (mbr q S i) 4)) ((i * 6) + 5) (trm q (mbr q S i) 5)) ls _ _ (by omega) (by omega) (ls_step k_s) (lv_sub hl [3, 4, 0] rfl) hP hD hS
  exact L2 (5 - 0 + 1) 0 mx ls _ _ (by omega) (Nat.zero_le _) (fun r k hr _ => absurd hr (Nat.not_lt_zero r)) (lv_sub hl [1, 2, 0] rfl) hP hD hS

set_option maxHeartbeats 4000000 in
set_option maxRecDepth 100000 in
theorem c_X0_passThrough (l : Launch) (D : va_G) (cI cZ : ClassId) (ad : Nat → Nat) (q : Nat) (sm : Nat → Nat) (pr : Nat → Nat) (op : Nat → Nat) (iv : Nat → Nat) (hF : FOK q sm pr op iv) (tr : Nat → Nat) (ro : Nat → Nat) (hT : TOK q tr) (nb : Nat → Nat) (mx : Nat → Nat) (pv : Nat → Nat) (aS : Nat) (S : Nat → Bool) (k_f : fiv q S) : CtW (S := (Nat → Nat) × (Nat → Nat) × (Nat → Nat)) l yX0_passThrough wsX0_passThrough { frames := 4, cells := 0, slots := 0, locals := 97 } D (tyG cI cZ) [.ref (ad 12), .ref aS] [(ad 0, .inr (1, [.int (nI q), .ref (ad 1), .ref (ad 2), .ref (ad 3), .ref (ad 4)])), (ad 1, .inl (cI, 81, .inl (nF sm))), (ad 2, .inl (cI, 81, .inl (nF pr))), (ad 3, .inl (cI, 9, .inl (nF op))), (ad 4, .inl (cI, 9, .inl (nF iv))), (ad 5, .inr (3, [.ref (ad 0), .int (nI (nn q)), .ref (ad 6), .ref (ad 7)])), (ad 6, .inl (cI, 273, .inl (nF tr))), (ad 7, .inl (cI, 910, .inl (nF ro))), (ad 12, .inr (0, [.ref (ad 5), .ref (ad 0), .ref (ad 13), .ref (ad 14), .ref (ad 15)])), (ad 13, .inl (cI, 6, .inl (nF nb))), (ad 14, .inl (cI, 30, .inl (nF mx))), (ad 15, .inl (cI, 5, .inl (nF pv))), (aS, .inl (cZ, 91, .inl (bF S)))] (fun u => (fun (nb3 : Nat → Nat) (mx3 : Nat → Nat) (pv3 : Nat → Nat) => ∀ t, t < 6 → nb3 t = thrV q S t) u.1 u.2.1 u.2.2) (fun u => (fun (nb3 : Nat → Nat) (mx3 : Nat → Nat) (pv3 : Nat → Nat) => none) u.1 u.2.1 u.2.2) (fun u => (fun (nb3 : Nat → Nat) (mx3 : Nat → Nat) (pv3 : Nat → Nat) => [(ad 0, .inr (1, [.int (nI q), .ref (ad 1), .ref (ad 2), .ref (ad 3), .ref (ad 4)])), (ad 1, .inl (cI, 81, .inl (nF sm))), (ad 2, .inl (cI, 81, .inl (nF pr))), (ad 3, .inl (cI, 9, .inl (nF op))), (ad 4, .inl (cI, 9, .inl (nF iv))), (ad 5, .inr (3, [.ref (ad 0), .int (nI (nn q)), .ref (ad 6), .ref (ad 7)])), (ad 6, .inl (cI, 273, .inl (nF tr))), (ad 7, .inl (cI, 910, .inl (nF ro))), (ad 12, .inr (0, [.ref (ad 5), .ref (ad 0), .ref (ad 13), .ref (ad 14), .ref (ad 15)])), (ad 13, .inl (cI, 6, .inl (nF nb3))), (ad 14, .inl (cI, 30, .inl (nF mx3))), (ad 15, .inl (cI, 5, .inl (nF pv3))), (aS, .inl (cZ, 91, .inl (bF S)))]) u.1 u.2.1 u.2.2) := by
  intro sz; refine Met.ofW (cc := cX0_passThrough) (maxL := 4) (ret := none) (by decide) rfl ?_
  intro p e s m args below meth c s₁ B hml hv
  obtain ⟨rfl, hsz, hP, hK, hD0, hN⟩ := hv
  have hx := B.exec
  have hb := B.bytes
  have hr := B.returns
  have hts := atoms_spec (ws := wsX0_passThrough) B.pre
  have hown : s.vm.findClass RX0 = some m.cls := findClass_of_methodNamed B.named
  have hlocks := B.notSynchronized
  subst hsz
  have hD := hD0.self (sz := s.heap.size)
  generalize hAe : va_A [(ad 0, .inr (1, [.int (nI q), .ref (ad 1), .ref (ad 2), .ref (ad 3), .ref (ad 4)])), (ad 1, .inl (cI, 81, .inl (nF sm))), (ad 2, .inl (cI, 81, .inl (nF pr))), (ad 3, .inl (cI, 9, .inl (nF op))), (ad 4, .inl (cI, 9, .inl (nF iv))), (ad 5, .inr (3, [.ref (ad 0), .int (nI (nn q)), .ref (ad 6), .ref (ad 7)])), (ad 6, .inl (cI, 273, .inl (nF tr))), (ad 7, .inl (cI, 910, .inl (nF ro))), (ad 12, .inr (0, [.ref (ad 5), .ref (ad 0), .ref (ad 13), .ref (ad 14), .ref (ad 15)])), (ad 13, .inl (cI, 6, .inl (nF nb))), (ad 14, .inl (cI, 30, .inl (nF mx))), (ad 15, .inl (cI, 5, .inl (nF pv))), (aS, .inl (cZ, 91, .inl (bF S)))] s.heap.size = A at hD ⊢
  have hA : ∀ q : Nat, s.heap.size ≤ q → A q := fun q h => by rw [← hAe]; exact Or.inr h
  have hS : va_S A s.heap s.heap [] := va_S.rf
  have hP : va_P D vwCl [(ad 0, .inr (1, [.int (nI q), .ref (ad 1), .ref (ad 2), .ref (ad 3), .ref (ad 4)])), (ad 1, .inl (cI, 81, .inl (nF sm))), (ad 2, .inl (cI, 81, .inl (nF pr))), (ad 3, .inl (cI, 9, .inl (nF op))), (ad 4, .inl (cI, 9, .inl (nF iv))), (ad 5, .inr (3, [.ref (ad 0), .int (nI (nn q)), .ref (ad 6), .ref (ad 7)])), (ad 6, .inl (cI, 273, .inl (nF tr))), (ad 7, .inl (cI, 910, .inl (nF ro))), (ad 12, .inr (0, [.ref (ad 5), .ref (ad 0), .ref (ad 13), .ref (ad 14), .ref (ad 15)])), (ad 13, .inl (cI, 6, .inl (nF nb))), (ad 14, .inl (cI, 30, .inl (nF mx))), (ad 15, .inl (cI, 5, .inl (nF pv))), (aS, .inl (cZ, 91, .inl (bF S)))] s.heap := hP
  have hf9 := hts (.fieldLink RX0 9 "FinitePlanes$Conic" "numbers" "[I") (by decide +kernel)
  have hf15 := hts (.fieldLink RX0 15 "FinitePlanes$Conic" "matrix" "[I") (by decide +kernel)
  have hf18 := hts (.fieldLink RX0 18 "FinitePlanes$Conic" "pivots" "[I") (by decide +kernel)
  have hf31 := hts (.fieldLink RX0 31 "FinitePlanes$Conic" "field" "LFinitePlanes$Field;") (by decide +kernel)
  have hiX0 : ∀ w ∈ u_ws RX0 TX0 5, w ∈ wsX0_passThrough := by decide +kernel
  have hl := lv_entry ([.ref (ad 12), .ref aS]) (n := 4) (Nat.le_of_ble_eq_true rfl)
  rw [lg_entry_eq]
  generalize (lg_sl ([.ref (ad 12), .ref aS]) ++ List.replicate (4 - (lg_sl ([.ref (ad 12), .ref aS])).length) Slot.unset).toArray = ls at hl ⊢
  have hl : lv_has ls 4 [(0, .ref (ad 12)), (1, .ref aS)] := hl
  have hq2 := qs_le hF.1
  have hn2 := nn_le hF.1
  refine lv_aload_n hx hb dX0_passThrough_0 rfl (lv_at hl 0 rfl) ?_
  refine lv_aload_n hx hb dX0_passThrough_1 rfl (lv_at hl 1 rfl) ?_
  refine ctW_V (As := [.ref aS]) (rest := []) (wr := [(ad 13, .inl (cI, 6, .inl (nF nb))), (ad 15, .inl (cI, 5, .inl (nF pv)))]) ⟨hx, hb, hml, hown, hts⟩ (c_X0_listTerms l D cI cZ ad q sm pr op iv hF tr ro hT mx aS S (by omega)) (cwV 1 hts gX0_passThrough_X0_listTerms rfl rfl rfl hdV_X0_listTerms ⟨Nat.le_of_ble_eq_true rfl, Nat.le_of_ble_eq_true rfl⟩) hK hN hP hD hS hA [0, 1, 2, 3, 4, 5, 6, 7, 8, 10, 12] [9, 11] rfl rfl rfl (by decide) (by decide) (by decide) 8 0 rfl rfl rfl hl.1 rfl (Nat.le_of_ble_eq_true rfl) ⟨Nat.zero_le _, Nat.zero_le _⟩ dX0_passThrough_2 (fun mx_1 H locs hu2 hP hD hS => ?_)
  try dsimp only at hu2
  have hP : va_P D vwCl [(ad 0, .inr (1, [.int (nI q), .ref (ad 1), .ref (ad 2), .ref (ad 3), .ref (ad 4)])), (ad 1, .inl (cI, 81, .inl (nF sm))), (ad 2, .inl (cI, 81, .inl (nF pr))), (ad 3, .inl (cI, 9, .inl (nF op))), (ad 4, .inl (cI, 9, .inl (nF iv))), (ad 5, .inr (3, [.ref (ad 0), .int (nI (nn q)), .ref (ad 6), .ref (ad 7)])), (ad 6, .inl (cI, 273, .inl (nF tr))), (ad 7, .inl (cI, 910, .inl (nF ro))), (ad 12, .inr (0, [.ref (ad 5), .ref (ad 0), .ref (ad 13), .ref (ad 14), .ref (ad 15)])), (ad 13, .inl (cI, 6, .inl (nF nb))), (ad 14, .inl (cI, 30, .inl (nF mx_1))), (ad 15, .inl (cI, 5, .inl (nF pv))), (aS, .inl (cZ, 91, .inl (bF S)))] H := hP.sub [2, 3, 4, 5, 6, 7, 8, 9, 10, 0, 11, 1, 12] rfl
  have hD : va_D A [(ad 0, .inr (1, [.int (nI q), .ref (ad 1), .ref (ad 2), .ref (ad 3), .ref (ad 4)])), (ad 1, .inl (cI, 81, .inl (nF sm))), (ad 2, .inl (cI, 81, .inl (nF pr))), (ad 3, .inl (cI, 9, .inl (nF op))), (ad 4, .inl (cI, 9, .inl (nF iv))), (ad 5, .inr (3, [.ref (ad 0), .int (nI (nn q)), .ref (ad 6), .ref (ad 7)])), (ad 6, .inl (cI, 273, .inl (nF tr))), (ad 7, .inl (cI, 910, .inl (nF ro))), (ad 12, .inr (0, [.ref (ad 5), .ref (ad 0), .ref (ad 13), .ref (ad 14), .ref (ad 15)])), (ad 13, .inl (cI, 6, .inl (nF nb))), (ad 14, .inl (cI, 30, .inl (nF mx_1))), (ad 15, .inl (cI, 5, .inl (nF pv))), (aS, .inl (cZ, 91, .inl (bF S)))] := hD.sub [2, 3, 4, 5, 6, 7, 8, 9, 10, 0, 11, 1, 12] (by decide) rfl
  refine W.eq (g2 := F0 m 5 ls []) rfl ?_
  refine lv_aload_n hx hb dX0_passThrough_5 rfl (lv_at hl 0 rfl) ?_
  refine ctW_V (As := []) (rest := []) (wr := [(ad 5, .inr (3, [.ref (ad 0), .int (nI (nn q)), .ref (ad 6), .ref (ad 7)])), (ad 6, .inl (cI, 273, .inl (nF tr))), (ad 7, .inl (cI, 910, .inl (nF ro))), (ad 13, .inl (cI, 6, .inl (nF nb))), (aS, .inl (cZ, 91, .inl (bF S)))]) ⟨hx, hb, hml, hown, hts⟩ (c_X0_reduce l D cI cZ ad q sm pr op iv hF mx_1 pv (thrS q S) (KS_thr hF.1 k_f (fun r k hr hk => hu2 r k hr hk))) (cwV 0 hts gX0_passThrough_X0_reduce rfl rfl rfl hdV_X0_reduce ⟨Nat.le_of_ble_eq_true rfl, Nat.le_of_ble_eq_true rfl⟩) hK hN hP hD hS hA [0, 1, 2, 3, 4, 8, 10, 11] [5, 6, 7, 9, 12] rfl rfl rfl (by decide) (by decide) (by decide) 8 0 rfl rfl rfl hl.1 rfl (Nat.le_of_ble_eq_true rfl) ⟨Nat.zero_le _, Nat.zero_le _⟩ dX0_passThrough_6 (fun u H locs hu6 hP hD hS => ?_)
  obtain ⟨fr_2, mx_3, pv_4⟩ := u
  try dsimp only at hu6
  have hP : va_P D vwCl [(ad 0, .inr (1, [.int (nI q), .ref (ad 1), .ref (ad 2), .ref (ad 3), .ref (ad 4)])), (ad 1, .inl (cI, 81, .inl (nF sm))), (ad 2, .inl (cI, 81, .inl (nF pr))), (ad 3, .inl (cI, 9, .inl (nF op))), (ad 4, .inl (cI, 9, .inl (nF iv))), (ad 5, .inr (3, [.ref (ad 0), .int (nI (nn q)), .ref (ad 6), .ref (ad 7)])), (ad 6, .inl (cI, 273, .inl (nF tr))), (ad 7, .inl (cI, 910, .inl (nF ro))), (ad 12, .inr (0, [.ref (ad 5), .ref (ad 0), .ref (ad 13), .ref (ad 14), .ref (ad 15)])), (ad 13, .inl (cI, 6, .inl (nF nb))), (ad 14, .inl (cI, 30, .inl (nF mx_3))), (ad 15, .inl (cI, 5, .inl (nF pv_4))), (aS, .inl (cZ, 91, .inl (bF S)))] H := hP.sub [5, 6, 7, 8, 9, 0, 1, 2, 10, 3, 11, 12, 4] rfl
  have hD : va_D A [(ad 0, .inr (1, [.int (nI q), .ref (ad 1), .ref (ad 2), .ref (ad 3), .ref (ad 4)])), (ad 1, .inl (cI, 81, .inl (nF sm))), (ad 2, .inl (cI, 81, .inl (nF pr))), (ad 3, .inl (cI, 9, .inl (nF op))), (ad 4, .inl (cI, 9, .inl (nF iv))), (ad 5, .inr (3, [.ref (ad 0), .int (nI (nn q)), .ref (ad 6), .ref (ad 7)])), (ad 6, .inl (cI, 273, .inl (nF tr))), (ad 7, .inl (cI, 910, .inl (nF ro))), (ad 12, .inr (0, [.ref (ad 5), .ref (ad 0), .ref (ad 13), .ref (ad 14), .ref (ad 15)])), (ad 13, .inl (cI, 6, .inl (nF nb))), (ad 14, .inl (cI, 30, .inl (nF mx_3))), (ad 15, .inl (cI, 5, .inl (nF pv_4))), (aS, .inl (cZ, 91, .inl (bF S)))] := hD.sub [5, 6, 7, 8, 9, 0, 1, 2, 10, 3, 11, 12, 4] (by decide) rfl
  refine W.eq (g2 := F0 m 9 ls [.int (nI fr_2)]) rfl ?_
  have E9 := JG_end hF.1 hu6
  have E91 := E9.2.1
  refine lv_istore_n (lv' := [(2, .int (nI fr_2)), (0, .ref (ad 12)), (1, .ref aS)]) hx hb dX0_passThrough_9 rfl hl (by decide) rfl (fun ls hl => ?_)
  refine lv_iconst (v := nI 0) hx hb dX0_passThrough_10 (by decide) ?_
  refine lv_istore_n (lv' := [(3, .int (nI 0)), (2, .int (nI fr_2)), (0, .ref (ad 12)), (1, .ref aS)]) hx hb dX0_passThrough_11 rfl hl (by decide) rfl (fun ls hl => ?_)
  have L12 : ∀ (N12 : Nat) (i : Nat) (n1 : Nat → Nat) (ls : Array Slot) (H : Heap) (locs : List Loc), 6 - i < N12 → (i ≤ 6) → (∀ t, t < i → n1 t = if t = fr_2 then 1 else 0) → lv_has ls 4 [(0, .ref (ad 12)), (1, .ref aS), (2, .int (nI fr_2)), (3, .int (nI i))] → va_P D vwCl [(ad 0, .inr (1, [.int (nI q), .ref (ad 1), .ref (ad 2), .ref (ad 3), .ref (ad 4)])), (ad 1, .inl (cI, 81, .inl (nF sm))), (ad 2, .inl (cI, 81, .inl (nF pr))), (ad 3, .inl (cI, 9, .inl (nF op))), (ad 4, .inl (cI, 9, .inl (nF iv))), (ad 5, .inr (3, [.ref (ad 0), .int (nI (nn q)), .ref (ad 6), .ref (ad 7)])), (ad 6, .inl (cI, 273, .inl (nF tr))), (ad 7, .inl (cI, 910, .inl (nF ro))), (ad 12, .inr (0, [.ref (ad 5), .ref (ad 0), .ref (ad 13), .ref (ad 14), .ref (ad 15)])), (ad 13, .inl (cI, 6, .inl (nF n1))), (ad 14, .inl (cI, 30, .inl (nF mx_3))), (ad 15, .inl (cI, 5, .inl (nF pv_4))), (aS, .inl (cZ, 91, .inl (bF S)))] H → va_D A [(ad 0, .inr (1, [.int (nI q), .ref (ad 1), .ref (ad 2), .ref (ad 3), .ref (ad 4)])), (ad 1, .inl (cI, 81, .inl (nF sm))), (ad 2, .inl (cI, 81, .inl (nF pr))), (ad 3, .inl (cI, 9, .inl (nF op))), (ad 4, .inl (cI, 9, .inl (nF iv))), (ad 5, .inr (3, [.ref (ad 0), .int (nI (nn q)), .ref (ad 6), .ref (ad 7)])), (ad 6, .inl (cI, 273, .inl (nF tr))), (ad 7, .inl (cI, 910, .inl (nF ro))), (ad 12, .inr (0, [.ref (ad 5), .ref (ad 0), .ref (ad 13), .ref (ad 14), .ref (ad 15)])), (ad 13, .inl (cI, 6, .inl (nF n1))), (ad 14, .inl (cI, 30, .inl (nF mx_3))), (ad 15, .inl (cI, 5, .inl (nF pv_4))), (aS, .inl (cZ, 91, .inl (bF S)))] → va_S A s.heap H locs → WG p l e wsX0_passThrough { frames := 4, cells := 0, slots := 0, locals := 97 } s m [.ref (ad 12), .ref aS] below meth c H locs (CQ (S := (Nat → Nat) × (Nat → Nat) × (Nat → Nat)) D (fun u => (fun (nb3 : Nat → Nat) (mx3 : Nat → Nat) (pv3 : Nat → Nat) => ∀ t, t < 6 → nb3 t = thrV q S t) u.1 u.2.1 u.2.2) (fun u => (fun (nb3 : Nat → Nat) (mx3 : Nat → Nat) (pv3 : Nat → Nat) => none) u.1 u.2.1 u.2.2) (fun u => (fun (nb3 : Nat → Nat) (mx3 : Nat → Nat) (pv3 : Nat → Nat) => [(ad 0, .inr (1, [.int (nI q), .ref (ad 1), .ref (ad 2), .ref (ad 3), .ref (ad 4)])), (ad 1, .inl (cI, 81, .inl (nF sm))), (ad 2, .inl (cI, 81, .inl (nF pr))), (ad 3, .inl (cI, 9, .inl (nF op))), (ad 4, .inl (cI, 9, .inl (nF iv))), (ad 5, .inr (3, [.ref (ad 0), .int (nI (nn q)), .ref (ad 6), .ref (ad 7)])), (ad 6, .inl (cI, 273, .inl (nF tr))), (ad 7, .inl (cI, 910, .inl (nF ro))), (ad 12, .inr (0, [.ref (ad 5), .ref (ad 0), .ref (ad 13), .ref (ad 14), .ref (ad 15)])), (ad 13, .inl (cI, 6, .inl (nF nb3))), (ad 14, .inl (cI, 30, .inl (nF mx3))), (ad 15, .inl (cI, 5, .inl (nF pv3))), (aS, .inl (cZ, 91, .inl (bF S)))]) u.1 u.2.1 u.2.2) A) A 12 ls [] := by
    intro N12
    induction N12 with
    | zero => intro i n1 ls H locs hN; exact absurd hN (Nat.not_lt_zero _)
    | succ N12 ih12 =>
      intro i n1 ls H locs hN12 k_i k_s hl hP hD hS
      refine lv_iload_n hx hb dX0_passThrough_12 rfl (lv_at hl 3 rfl) ?_
      refine lv_bipush (v := nI 6) hx hb dX0_passThrough_13 (by decide) ?_
      refine nv_icmp_ge (tgt := 40) hx hb (by omega) (by decide) dX0_passThrough_15 (by decide) (fun c15 => ?_) (fun c15 => ?_)
      · refine lv_iconst (v := nI 0) hx hb dX0_passThrough_40 (by decide) ?_
        refine lv_istore_n (lv' := [(3, .int (nI 0)), (0, .ref (ad 12)), (1, .ref aS), (2, .int (nI fr_2))]) hx hb dX0_passThrough_41 rfl hl (by decide) rfl (fun ls hl => ?_)
        have L42 : ∀ (N42 : Nat) (j : Nat) (n2 : Nat → Nat) (ls : Array Slot) (H : Heap) (locs : List Loc), 5 - j < N42 → (j ≤ 5) → (n2 fr_2 = 1) → (∀ t, t < j → n2 (pv_4 t) = fneg q (mx_3 (t * 6 + fr_2))) → lv_has ls 4 [(0, .ref (ad 12)), (1, .ref aS), (2, .int (nI fr_2)), (3, .int (nI j))] → va_P D vwCl [(ad 0, .inr (1, [.int (nI q), .ref (ad 1), .ref (ad 2), .ref (ad 3), .ref (ad 4)])), (ad 1, .inl (cI, 81, .inl (nF sm))), (ad 2, .inl (cI, 81, .inl (nF pr))), (ad 3, .inl (cI, 9, .inl (nF op))), (ad 4, .inl (cI, 9, .inl (nF iv))), (ad 5, .inr (3, [.ref (ad 0), .int (nI (nn q)), .ref (ad 6), .ref (ad 7)])), (ad 6, .inl (cI, 273, .inl (nF tr))), (ad 7, .inl (cI, 910, .inl (nF ro))), (ad 12, .inr (0, [.ref (ad 5), .ref (ad 0), .ref (ad 13), .ref (ad 14), .ref (ad 15)])), (ad 13, .inl (cI, 6, .inl (nF n2))), (ad 14, .inl (cI, 30, .inl (nF mx_3))), (ad 15, .inl (cI, 5, .inl (nF pv_4))), (aS, .inl (cZ, 91, .inl (bF S)))] H → va_D A [(ad 0, .inr (1, [.int (nI q), .ref (ad 1), .ref (ad 2), .ref (ad 3), .ref (ad 4)])), (ad 1, .inl (cI, 81, .inl (nF sm))), (ad 2, .inl (cI, 81, .inl (nF pr))), (ad 3, .inl (cI, 9, .inl (nF op))), (ad 4, .inl (cI, 9, .inl (nF iv))), (ad 5, .inr (3, [.ref (ad 0), .int (nI (nn q)), .ref (ad 6), .ref (ad 7)])), (ad 6, .inl (cI, 273, .inl (nF tr))), (ad 7, .inl (cI, 910, .inl (nF ro))), (ad 12, .inr (0, [.ref (ad 5), .ref (ad 0), .ref (ad 13), .ref (ad 14), .ref (ad 15)])), (ad 13, .inl (cI, 6, .inl (nF n2))), (ad 14, .inl (cI, 30, .inl (nF mx_3))), (ad 15, .inl (cI, 5, .inl (nF pv_4))), (aS, .inl (cZ, 91, .inl (bF S)))] → va_S A s.heap H locs → WG p l e wsX0_passThrough { frames := 4, cells := 0, slots := 0, locals := 97 } s m [.ref (ad 12), .ref aS] below meth c H locs (CQ (S := (Nat → Nat) × (Nat → Nat) × (Nat → Nat)) D (fun u => (fun (nb3 : Nat → Nat) (mx3 : Nat → Nat) (pv3 : Nat → Nat) => ∀ t, t < 6 → nb3 t = thrV q S t) u.1 u.2.1 u.2.2) (fun u => (fun (nb3 : Nat → Nat) (mx3 : Nat → Nat) (pv3 : Nat → Nat) => none) u.1 u.2.1 u.2.2) (fun u => (fun (nb3 : Nat → Nat) (mx3 : Nat → Nat) (pv3 : Nat → Nat) => [(ad 0, .inr (1, [.int (nI q), .ref (ad 1), .ref (ad 2), .ref (ad 3), .ref (ad 4)])), (ad 1, .inl (cI, 81, .inl (nF sm))), (ad 2, .inl (cI, 81, .inl (nF pr))), (ad 3, .inl (cI, 9, .inl (nF op))), (ad 4, .inl (cI, 9, .inl (nF iv))), (ad 5, .inr (3, [.ref (ad 0), .int (nI (nn q)), .ref (ad 6), .ref (ad 7)])), (ad 6, .inl (cI, 273, .inl (nF tr))), (ad 7, .inl (cI, 910, .inl (nF ro))), (ad 12, .inr (0, [.ref (ad 5), .ref (ad 0), .ref (ad 13), .ref (ad 14), .ref (ad 15)])), (ad 13, .inl (cI, 6, .inl (nF nb3))), (ad 14, .inl (cI, 30, .inl (nF mx3))), (ad 15, .inl (cI, 5, .inl (nF pv3))), (aS, .inl (cZ, 91, .inl (bF S)))]) u.1 u.2.1 u.2.2) A) A 42 ls [] := by
          intro N42
          induction N42 with
          | zero => intro j n2 ls H locs hN; exact absurd hN (Nat.not_lt_zero _)
          | succ N42 ih42 =>
            intro j n2 ls H locs hN42 k_j k_1 k_t hl hP hD hS
            refine lv_iload_n hx hb dX0_passThrough_42 rfl (lv_at hl 3 rfl) ?_
            refine lv_iconst (v := nI 5) hx hb dX0_passThrough_43 (by decide) ?_
            refine nv_icmp_ge (tgt := 82) hx hb (by omega) (by decide) dX0_passThrough_44 (by decide) (fun c44 => ?_) (fun c44 => ?_)
            · have hj5 : j = 5 := by omega
              subst hj5
              obtain ⟨d1, d2, d3⟩ := JG_sol hF.1 hu6 k_1 k_t
              have d4 : sol6 q S n2 := ⟨d1, d2, hdf_of E9.2.1 (by rw [k_1]; decide)⟩
              refine lv_aload_n hx hb dX0_passThrough_82 rfl (lv_at hl 0 rfl) ?_
              refine va_get (D := D) (ci := 0) (v := .ref (ad 0)) (C := RX0) (T := TX0) (N := 5) hx hb hts hiX0 hown hK hP 8 rfl rfl 1 (by decide) hf31 (fun _ h9 => h9) rfl dX0_passThrough_83 ?_
              refine lv_aload_n hx hb dX0_passThrough_86 rfl (lv_at hl 0 rfl) ?_
              refine va_get (D := D) (ci := 0) (v := .ref (ad 13)) (C := RX0) (T := TX0) (N := 5) hx hb hts hiX0 hown hK hP 8 rfl rfl 2 (by decide) hf9 (fun _ h9 => h9) rfl dX0_passThrough_87 ?_
              refine ctW_SN (As := [.ref (ad 0), .ref (ad 13)]) (rest := []) (wr := [(ad 5, .inr (3, [.ref (ad 0), .int (nI (nn q)), .ref (ad 6), .ref (ad 7)])), (ad 6, .inl (cI, 273, .inl (nF tr))), (ad 7, .inl (cI, 910, .inl (nF ro))), (ad 12, .inr (0, [.ref (ad 5), .ref (ad 0), .ref (ad 13), .ref (ad 14), .ref (ad 15)])), (ad 14, .inl (cI, 30, .inl (nF mx_3))), (ad 15, .inl (cI, 5, .inl (nF pv_4))), (aS, .inl (cZ, 91, .inl (bF S)))]) ⟨hx, hb, hml, hown, hts⟩ (c_X6_scaleToTold_6 l D cI cZ ad q sm pr op iv hF (ad 13) n2 d1) ⟨va_cnB 2 hts gX0_passThrough_X6_scaleToTold_n63 rfl rfl rfl (hN _ (by decide +kernel) : va_Nw (.methodLinkNest RX0 63 yX6_scaleToTold "FinitePlanes") s) (hts (.initialized RX6) (by decide +kernel)) hdS_X6_scaleToTold ⟨Nat.le_of_ble_eq_true rfl, Nat.le_of_ble_eq_true rfl⟩, hts (.static yX6_scaleToTold) (by decide +kernel), trivial⟩ hK hN hP hD hS hA [0, 1, 2, 3, 4, 9] [5, 6, 7, 8, 10, 11, 12] rfl rfl rfl (by decide) (by decide) (by decide) rfl hl.1 rfl (Nat.le_of_ble_eq_true rfl) ⟨Nat.zero_le _, Nat.zero_le _⟩ dX0_passThrough_90 (fun nb_5 H locs hu90 hP hD hS => ?_)
              try dsimp only at hu90
              have hP : va_P D vwCl [(ad 0, .inr (1, [.int (nI q), .ref (ad 1), .ref (ad 2), .ref (ad 3), .ref (ad 4)])), (ad 1, .inl (cI, 81, .inl (nF sm))), (ad 2, .inl (cI, 81, .inl (nF pr))), (ad 3, .inl (cI, 9, .inl (nF op))), (ad 4, .inl (cI, 9, .inl (nF iv))), (ad 5, .inr (3, [.ref (ad 0), .int (nI (nn q)), .ref (ad 6), .ref (ad 7)])), (ad 6, .inl (cI, 273, .inl (nF tr))), (ad 7, .inl (cI, 910, .inl (nF ro))), (ad 12, .inr (0, [.ref (ad 5), .ref (ad 0), .ref (ad 13), .ref (ad 14), .ref (ad 15)])), (ad 13, .inl (cI, 6, .inl (nF nb_5))), (ad 14, .inl (cI, 30, .inl (nF mx_3))), (ad 15, .inl (cI, 5, .inl (nF pv_4))), (aS, .inl (cZ, 91, .inl (bF S)))] H := hP.sub [7, 8, 9, 10, 11, 0, 1, 2, 3, 12, 4, 5, 6] rfl
              have hD : va_D A [(ad 0, .inr (1, [.int (nI q), .ref (ad 1), .ref (ad 2), .ref (ad 3), .ref (ad 4)])), (ad 1, .inl (cI, 81, .inl (nF sm))), (ad 2, .inl (cI, 81, .inl (nF pr))), (ad 3, .inl (cI, 9, .inl (nF op))), (ad 4, .inl (cI, 9, .inl (nF iv))), (ad 5, .inr (3, [.ref (ad 0), .int (nI (nn q)), .ref (ad 6), .ref (ad 7)])), (ad 6, .inl (cI, 273, .inl (nF tr))), (ad 7, .inl (cI, 910, .inl (nF ro))), (ad 12, .inr (0, [.ref (ad 5), .ref (ad 0), .ref (ad 13), .ref (ad 14), .ref (ad 15)])), (ad 13, .inl (cI, 6, .inl (nF nb_5))), (ad 14, .inl (cI, 30, .inl (nF mx_3))), (ad 15, .inl (cI, 5, .inl (nF pv_4))), (aS, .inl (cZ, 91, .inl (bF S)))] := hD.sub [7, 8, 9, 10, 11, 0, 1, 2, 3, 12, 4, 5, 6] (by decide) rfl
              refine W.eq (g2 := F0 m 93 ls []) rfl ?_
              exact ctW_retV (nb_5, mx_3, pv_4) hx hb hr dX0_passThrough_93 hlocks hS hP hD (by dsimp only; exact (fun t ht => by rw [hu90 t ht]; exact thr_V hF.1 k_f d4 ht)) rfl
            · have v1 := hu6.1.1 j fr_2 c44 E9.2.1
              have v2 := E9.2.2.2.1 j c44
              refine lv_aload_n hx hb dX0_passThrough_47 rfl (lv_at hl 0 rfl) ?_
              refine va_get (D := D) (ci := 0) (v := .ref (ad 13)) (C := RX0) (T := TX0) (N := 5) hx hb hts hiX0 hown hK hP 8 rfl rfl 2 (by decide) hf9 (fun _ h9 => h9) rfl dX0_passThrough_48 ?_
              refine lv_aload_n hx hb dX0_passThrough_51 rfl (lv_at hl 0 rfl) ?_
              refine va_get (D := D) (ci := 0) (v := .ref (ad 15)) (C := RX0) (T := TX0) (N := 5) hx hb hts hiX0 hown hK hP 8 rfl rfl 4 (by decide) hf18 (fun _ h9 => h9) rfl dX0_passThrough_52 ?_
              refine lv_iload_n hx hb dX0_passThrough_55 rfl (lv_at hl 3 rfl) ?_
              refine nv_iald hx hb hK hP 11 0 rfl rfl (by omega) (by decide) dX0_passThrough_56 ?_
              refine lv_aload_n hx hb dX0_passThrough_57 rfl (lv_at hl 0 rfl) ?_
              refine va_get (D := D) (ci := 0) (v := .ref (ad 0)) (C := RX0) (T := TX0) (N := 5) hx hb hts hiX0 hown hK hP 8 rfl rfl 1 (by decide) hf31 (fun _ h9 => h9) rfl dX0_passThrough_58 ?_
              refine lv_aload_n hx hb dX0_passThrough_61 rfl (lv_at hl 0 rfl) ?_
              refine va_get (D := D) (ci := 0) (v := .ref (ad 14)) (C := RX0) (T := TX0) (N := 5) hx hb hts hiX0 hown hK hP 8 rfl rfl 3 (by decide) hf15 (fun _ h9 => h9) rfl dX0_passThrough_62 ?_
              refine lv_iload_n hx hb dX0_passThrough_65 rfl (lv_at hl 3 rfl) ?_
              refine lv_bipush (v := nI 6) hx hb dX0_passThrough_66 (by decide) ?_
              refine nv_mulE (r := j * 6) hx hb rfl dX0_passThrough_68 ?_
              refine lv_iload_n hx hb dX0_passThrough_69 rfl (lv_at hl 2 rfl) ?_
              refine nv_addE (r := (j * 6) + fr_2) hx hb rfl dX0_passThrough_70 ?_
              refine nv_iald hx hb hK hP 10 0 rfl rfl (by omega) (by decide) dX0_passThrough_71 ?_
              refine ctR_V (As := [.int (nI (mx_3 ((j * 6) + fr_2)))]) (rest := [.int (nI (pv_4 j)), .ref (ad 13)]) (r := .int (nI (fneg q (mx_3 ((j * 6) + fr_2))))) ⟨hx, hb, hml, hown, hts⟩ (c_X1_opposite l D cI cZ ad q sm pr op iv hF (mx_3 ((j * 6) + fr_2)) (by omega)) (cwV 1 hts gX0_passThrough_X1_opposite rfl rfl rfl hdV_X1_opposite ⟨Nat.le_of_ble_eq_true rfl, Nat.le_of_ble_eq_true rfl⟩) hK hN hP [0, 1, 2, 3, 4] rfl 0 1 rfl rfl rfl hl.1 rfl (Nat.le_of_ble_eq_true rfl) ⟨Nat.zero_le _, Nat.zero_le _⟩ dX0_passThrough_72 ?_
              have hh_6 : fneg q (mx_3 ((j * 6) + fr_2)) < q := fneg_lt hF.1 (by omega)
              refine nv_iast hx hb hK hP hD hS 9 0 rfl rfl (by omega) (by decide) dX0_passThrough_75 (fun H locs hP hD hS => ?_)
              have hP : va_P D vwCl [(ad 0, .inr (1, [.int (nI q), .ref (ad 1), .ref (ad 2), .ref (ad 3), .ref (ad 4)])), (ad 1, .inl (cI, 81, .inl (nF sm))), (ad 2, .inl (cI, 81, .inl (nF pr))), (ad 3, .inl (cI, 9, .inl (nF op))), (ad 4, .inl (cI, 9, .inl (nF iv))), (ad 5, .inr (3, [.ref (ad 0), .int (nI (nn q)), .ref (ad 6), .ref (ad 7)])), (ad 6, .inl (cI, 273, .inl (nF tr))), (ad 7, .inl (cI, 910, .inl (nF ro))), (ad 12, .inr (0, [.ref (ad 5), .ref (ad 0), .ref (ad 13), .ref (ad 14), .ref (ad 15)])), (ad 13, .inl (cI, 6, .inl (nF (upN n2 (pv_4 j) (fneg q (mx_3 ((j * 6) + fr_2))))))), (ad 14, .inl (cI, 30, .inl (nF mx_3))), (ad 15, .inl (cI, 5, .inl (nF pv_4))), (aS, .inl (cZ, 91, .inl (bF S)))] H := hP
              have hD : va_D A [(ad 0, .inr (1, [.int (nI q), .ref (ad 1), .ref (ad 2), .ref (ad 3), .ref (ad 4)])), (ad 1, .inl (cI, 81, .inl (nF sm))), (ad 2, .inl (cI, 81, .inl (nF pr))), (ad 3, .inl (cI, 9, .inl (nF op))), (ad 4, .inl (cI, 9, .inl (nF iv))), (ad 5, .inr (3, [.ref (ad 0), .int (nI (nn q)), .ref (ad 6), .ref (ad 7)])), (ad 6, .inl (cI, 273, .inl (nF tr))), (ad 7, .inl (cI, 910, .inl (nF ro))), (ad 12, .inr (0, [.ref (ad 5), .ref (ad 0), .ref (ad 13), .ref (ad 14), .ref (ad 15)])), (ad 13, .inl (cI, 6, .inl (nF (upN n2 (pv_4 j) (fneg q (mx_3 ((j * 6) + fr_2))))))), (ad 14, .inl (cI, 30, .inl (nF mx_3))), (ad 15, .inl (cI, 5, .inl (nF pv_4))), (aS, .inl (cZ, 91, .inl (bF S)))] := hD
              refine lv_iinc (v := nI (j + 1)) (lv' := [(3, .int (nI (j + 1))), (0, .ref (ad 12)), (1, .ref aS), (2, .int (nI fr_2))]) hx hb dX0_passThrough_76 hl (k := 3) rfl (nI_inc j) (by decide) rfl (fun ls hl => ?_)
              refine lv_goto (tgt := 42) hx hb dX0_passThrough_79 (by decide) ?_
              exact ih42 (j + 1) (upN n2 (pv_4 j) (fneg q (mx_3 ((j * 6) + fr_2)))) ls _ _ (by omega) (by omega) (by rw [upN_n (fun z => E9.2.2.1 j c44 z.symm)]; exact k_1) (fun t ht => (Nat.lt_succ_iff_lt_or_eq.mp ht).elim (fun h => by rw [upN_n (fun y => by have := E9.2.2.2.2.1 t j (by omega) c44 y; omega)]; exact k_t t h) (fun h => by rw [h, upN_s])) (lv_sub hl [1, 2, 3, 0] rfl) hP hD hS
        exact L42 (5 - 0 + 1) 0 n1 ls _ _ (by omega) (Nat.zero_le _) (by rw [k_s fr_2 (by omega), if_pos rfl]) (fun t h => absurd h (Nat.not_lt_zero t)) (lv_sub hl [1, 2, 3, 0] rfl) hP hD hS
      · refine lv_aload_n hx hb dX0_passThrough_18 rfl (lv_at hl 0 rfl) ?_
        refine va_get (D := D) (ci := 0) (v := .ref (ad 13)) (C := RX0) (T := TX0) (N := 5) hx hb hts hiX0 hown hK hP 8 rfl rfl 2 (by decide) hf9 (fun _ h9 => h9) rfl dX0_passThrough_19 ?_
        refine lv_iload_n hx hb dX0_passThrough_22 rfl (lv_at hl 3 rfl) ?_
        refine lv_iload_n hx hb dX0_passThrough_23 rfl (lv_at hl 3 rfl) ?_
        refine lv_iload_n hx hb dX0_passThrough_24 rfl (lv_at hl 2 rfl) ?_
        refine nv_icmp_ne (tgt := 32) hx hb (by omega) (by omega) dX0_passThrough_25 (by decide) (fun c25 => ?_) (fun c25 => ?_)
        · refine lv_iconst (v := nI 0) hx hb dX0_passThrough_32 (by decide) ?_
          refine nv_iast hx hb hK hP hD hS 9 0 rfl rfl (by omega) (by decide) dX0_passThrough_33 (fun H locs hP hD hS => ?_)
          have hP : va_P D vwCl [(ad 0, .inr (1, [.int (nI q), .ref (ad 1), .ref (ad 2), .ref (ad 3), .ref (ad 4)])), (ad 1, .inl (cI, 81, .inl (nF sm))), (ad 2, .inl (cI, 81, .inl (nF pr))), (ad 3, .inl (cI, 9, .inl (nF op))), (ad 4, .inl (cI, 9, .inl (nF iv))), (ad 5, .inr (3, [.ref (ad 0), .int (nI (nn q)), .ref (ad 6), .ref (ad 7)])), (ad 6, .inl (cI, 273, .inl (nF tr))), (ad 7, .inl (cI, 910, .inl (nF ro))), (ad 12, .inr (0, [.ref (ad 5), .ref (ad 0), .ref (ad 13), .ref (ad 14), .ref (ad 15)])), (ad 13, .inl (cI, 6, .inl (nF (upN n1 i 0)))), (ad 14, .inl (cI, 30, .inl (nF mx_3))), (ad 15, .inl (cI, 5, .inl (nF pv_4))), (aS, .inl (cZ, 91, .inl (bF S)))] H := hP
          have hD : va_D A [(ad 0, .inr (1, [.int (nI q), .ref (ad 1), .ref (ad 2), .ref (ad 3), .ref (ad 4)])), (ad 1, .inl (cI, 81, .inl (nF sm))), (ad 2, .inl (cI, 81, .inl (nF pr))), (ad 3, .inl (cI, 9, .inl (nF op))), (ad 4, .inl (cI, 9, .inl (nF iv))), (ad 5, .inr (3, [.ref (ad 0), .int (nI (nn q)), .ref (ad 6), .ref (ad 7)])), (ad 6, .inl (cI, 273, .inl (nF tr))), (ad 7, .inl (cI, 910, .inl (nF ro))), (ad 12, .inr (0, [.ref (ad 5), .ref (ad 0), .ref (ad 13), .ref (ad 14), .ref (ad 15)])), (ad 13, .inl (cI, 6, .inl (nF (upN n1 i 0)))), (ad 14, .inl (cI, 30, .inl (nF mx_3))), (ad 15, .inl (cI, 5, .inl (nF pv_4))), (aS, .inl (cZ, 91, .inl (bF S)))] := hD
          refine lv_iinc (v := nI (i + 1)) (lv' := [(3, .int (nI (i + 1))), (0, .ref (ad 12)), (1, .ref aS), (2, .int (nI fr_2))]) hx hb dX0_passThrough_34 hl (k := 3) rfl (nI_inc i) (by decide) rfl (fun ls hl => ?_)
          refine lv_goto (tgt := 12) hx hb dX0_passThrough_37 (by decide) ?_
          exact ih12 (i + 1) (upN n1 i 0) ls _ _ (by omega) (by omega) (fun t ht => (Nat.lt_succ_iff_lt_or_eq.mp ht).elim (fun h => by rw [upN_n (by omega)]; exact k_s t h) (fun h => by rw [h, upN_s, if_neg c25])) (lv_sub hl [1, 2, 3, 0] rfl) hP hD hS
        · refine lv_iconst (v := nI 1) hx hb dX0_passThrough_28 (by decide) ?_
          refine lv_goto (tgt := 33) hx hb dX0_passThrough_29 (by decide) ?_
          refine nv_iast hx hb hK hP hD hS 9 0 rfl rfl (by omega) (by decide) dX0_passThrough_33 (fun H locs hP hD hS => ?_)
          have hP : va_P D vwCl [(ad 0, .inr (1, [.int (nI q), .ref (ad 1), .ref (ad 2), .ref (ad 3), .ref (ad 4)])), (ad 1, .inl (cI, 81, .inl (nF sm))), (ad 2, .inl (cI, 81, .inl (nF pr))), (ad 3, .inl (cI, 9, .inl (nF op))), (ad 4, .inl (cI, 9, .inl (nF iv))), (ad 5, .inr (3, [.ref (ad 0), .int (nI (nn q)), .ref (ad 6), .ref (ad 7)])), (ad 6, .inl (cI, 273, .inl (nF tr))), (ad 7, .inl (cI, 910, .inl (nF ro))), (ad 12, .inr (0, [.ref (ad 5), .ref (ad 0), .ref (ad 13), .ref (ad 14), .ref (ad 15)])), (ad 13, .inl (cI, 6, .inl (nF (upN n1 i 1)))), (ad 14, .inl (cI, 30, .inl (nF mx_3))), (ad 15, .inl (cI, 5, .inl (nF pv_4))), (aS, .inl (cZ, 91, .inl (bF S)))] H := hP
          have hD : va_D A [(ad 0, .inr (1, [.int (nI q), .ref (ad 1), .ref (ad 2), .ref (ad 3), .ref (ad 4)])), (ad 1, .inl (cI, 81, .inl (nF sm))), (ad 2, .inl (cI, 81, .inl (nF pr))), (ad 3, .inl (cI, 9, .inl (nF op))), (ad 4, .inl (cI, 9, .inl (nF iv))), (ad 5, .inr (3, [.ref (ad 0), .int (nI (nn q)), .ref (ad 6), .ref (ad 7)])), (ad 6, .inl (cI, 273, .inl (nF tr))), (ad 7, .inl (cI, 910, .inl (nF ro))), (ad 12, .inr (0, [.ref (ad 5), .ref (ad 0), .ref (ad 13), .ref (ad 14), .ref (ad 15)])), (ad 13, .inl (cI, 6, .inl (nF (upN n1 i 1)))), (ad 14, .inl (cI, 30, .inl (nF mx_3))), (ad 15, .inl (cI, 5, .inl (nF pv_4))), (aS, .inl (cZ, 91, .inl (bF S)))] := hD
          refine lv_iinc (v := nI (i + 1)) (lv' := [(3, .int (nI (i + 1))), (0, .ref (ad 12)), (1, .ref aS), (2, .int (nI fr_2))]) hx hb dX0_passThrough_34 hl (k := 3) rfl (nI_inc i) (by decide) rfl (fun ls hl => ?_)
          refine lv_goto (tgt := 12) hx hb dX0_passThrough_37 (by decide) ?_
          exact ih12 (i + 1) (upN n1 i 1) ls _ _ (by omega) (by omega) (fun t ht => (Nat.lt_succ_iff_lt_or_eq.mp ht).elim (fun h => by rw [upN_n (by omega)]; exact k_s t h) (fun h => by rw [h, upN_s, if_pos c25])) (lv_sub hl [1, 2, 3, 0] rfl) hP hD hS
  exact L12 (6 - 0 + 1) 0 nb ls _ _ (by omega) (Nat.zero_le _) (fun t h => absurd h (Nat.not_lt_zero t)) (lv_sub hl [2, 3, 1, 0] rfl) hP hD hS

set_option maxHeartbeats 4000000 in
set_option maxRecDepth 100000 in
theorem c_X6_through (l : Launch) (D : va_G) (cI cZ : ClassId) (ad : Nat → Nat) (q : Nat) (sm : Nat → Nat) (pr : Nat → Nat) (op : Nat → Nat) (iv : Nat → Nat) (hF : FOK q sm pr op iv) (tr : Nat → Nat) (ro : Nat → Nat) (hT : TOK q tr) (hR : ROK q ro) (S : Nat → Bool) (gr : Nat → Bool) (ol : Nat → Nat) (nb : Nat → Nat) (mx : Nat → Nat) (pv : Nat → Nat) (k : Int32) : CtW (S := (Nat → Nat) × (Nat → Nat) × (Nat → Nat) × (Nat → Nat)) l yX6_through wsX6_through { frames := 5, cells := 0, slots := 0, locals := 120 } D (tyG cI cZ) [.ref (ad 26), .int k] [(ad 0, .inr (1, [.int (nI q), .ref (ad 1), .ref (ad 2), .ref (ad 3), .ref (ad 4)])), (ad 1, .inl (cI, 81, .inl (nF sm))), (ad 2, .inl (cI, 81, .inl (nF pr))), (ad 3, .inl (cI, 9, .inl (nF op))), (ad 4, .inl (cI, 9, .inl (nF iv))), (ad 5, .inr (3, [.ref (ad 0), .int (nI (nn q)), .ref (ad 6), .ref (ad 7)])), (ad 6, .inl (cI, 273, .inl (nF tr))), (ad 7, .inl (cI, 910, .inl (nF ro))), (ad 8, .inr (4, [.ref (ad 5), .ref (ad 9), .ref (ad 10), .ref (ad 11)])), (ad 9, .inl (cZ, 91, .inl (bF S))), (ad 10, .inl (cZ, 91, .inl (bF gr))), (ad 11, .inl (cI, 91, .inl (nF ol))), (ad 12, .inr (0, [.ref (ad 5), .ref (ad 0), .ref (ad 13), .ref (ad 14), .ref (ad 15)])), (ad 13, .inl (cI, 6, .inl (nF nb))), (ad 14, .inl (cI, 30, .inl (nF mx))), (ad 15, .inl (cI, 5, .inl (nF pv))), (ad 26, .inr (6, [.ref (ad 0), .ref (ad 5), .ref (ad 8), .ref (ad 12), .ref (ad 16), .ref (ad 20), .ref (ad 24)]))] (fun u => (fun (ol3 : Nat → Nat) (nb3 : Nat → Nat) (mx3 : Nat → Nat) (pv3 : Nat → Nat) => True) u.1 u.2.1 u.2.2.1 u.2.2.2) (fun u => (fun (ol3 : Nat → Nat) (nb3 : Nat → Nat) (mx3 : Nat → Nat) (pv3 : Nat → Nat) => some (.int (thrZ q S k))) u.1 u.2.1 u.2.2.1 u.2.2.2) (fun u => (fun (ol3 : Nat → Nat) (nb3 : Nat → Nat) (mx3 : Nat → Nat) (pv3 : Nat → Nat) => [(ad 0, .inr (1, [.int (nI q), .ref (ad 1), .ref (ad 2), .ref (ad 3), .ref (ad 4)])), (ad 1, .inl (cI, 81, .inl (nF sm))), (ad 2, .inl (cI, 81, .inl (nF pr))), (ad 3, .inl (cI, 9, .inl (nF op))), (ad 4, .inl (cI, 9, .inl (nF iv))), (ad 5, .inr (3, [.ref (ad 0), .int (nI (nn q)), .ref (ad 6), .ref (ad 7)])), (ad 6, .inl (cI, 273, .inl (nF tr))), (ad 7, .inl (cI, 910, .inl (nF ro))), (ad 8, .inr (4, [.ref (ad 5), .ref (ad 9), .ref (ad 10), .ref (ad 11)])), (ad 9, .inl (cZ, 91, .inl (bF S))), (ad 10, .inl (cZ, 91, .inl (bF gr))), (ad 11, .inl (cI, 91, .inl (nF ol3))), (ad 12, .inr (0, [.ref (ad 5), .ref (ad 0), .ref (ad 13), .ref (ad 14), .ref (ad 15)])), (ad 13, .inl (cI, 6, .inl (nF nb3))), (ad 14, .inl (cI, 30, .inl (nF mx3))), (ad 15, .inl (cI, 5, .inl (nF pv3))), (ad 26, .inr (6, [.ref (ad 0), .ref (ad 5), .ref (ad 8), .ref (ad 12), .ref (ad 16), .ref (ad 20), .ref (ad 24)]))]) u.1 u.2.1 u.2.2.1 u.2.2.2) := by
  intro sz; refine Met.ofW (cc := cX6_through) (maxL := 2) (ret := some .int) (by decide) rfl ?_
  intro p e s m args below meth c s₁ B hml hv
  obtain ⟨rfl, hsz, hP, hK, hD0, hN⟩ := hv
  have hx := B.exec
  have hb := B.bytes
  have hr := B.returns
  have hts := atoms_spec (ws := wsX6_through) B.pre
  have hown : s.vm.findClass RX6 = some m.cls := findClass_of_methodNamed B.named
  have hlocks := B.notSynchronized
  subst hsz
  have hD := hD0.self (sz := s.heap.size)
  generalize hAe : va_A [(ad 0, .inr (1, [.int (nI q), .ref (ad 1), .ref (ad 2), .ref (ad 3), .ref (ad 4)])), (ad 1, .inl (cI, 81, .inl (nF sm))), (ad 2, .inl (cI, 81, .inl (nF pr))), (ad 3, .inl (cI, 9, .inl (nF op))), (ad 4, .inl (cI, 9, .inl (nF iv))), (ad 5, .inr (3, [.ref (ad 0), .int (nI (nn q)), .ref (ad 6), .ref (ad 7)])), (ad 6, .inl (cI, 273, .inl (nF tr))), (ad 7, .inl (cI, 910, .inl (nF ro))), (ad 8, .inr (4, [.ref (ad 5), .ref (ad 9), .ref (ad 10), .ref (ad 11)])), (ad 9, .inl (cZ, 91, .inl (bF S))), (ad 10, .inl (cZ, 91, .inl (bF gr))), (ad 11, .inl (cI, 91, .inl (nF ol))), (ad 12, .inr (0, [.ref (ad 5), .ref (ad 0), .ref (ad 13), .ref (ad 14), .ref (ad 15)])), (ad 13, .inl (cI, 6, .inl (nF nb))), (ad 14, .inl (cI, 30, .inl (nF mx))), (ad 15, .inl (cI, 5, .inl (nF pv))), (ad 26, .inr (6, [.ref (ad 0), .ref (ad 5), .ref (ad 8), .ref (ad 12), .ref (ad 16), .ref (ad 20), .ref (ad 24)]))] s.heap.size = A at hD ⊢
  have hA : ∀ q : Nat, s.heap.size ≤ q → A q := fun q h => by rw [← hAe]; exact Or.inr h
  have hS : va_S A s.heap s.heap [] := va_S.rf
  have hP : va_P D vwCl [(ad 0, .inr (1, [.int (nI q), .ref (ad 1), .ref (ad 2), .ref (ad 3), .ref (ad 4)])), (ad 1, .inl (cI, 81, .inl (nF sm))), (ad 2, .inl (cI, 81, .inl (nF pr))), (ad 3, .inl (cI, 9, .inl (nF op))), (ad 4, .inl (cI, 9, .inl (nF iv))), (ad 5, .inr (3, [.ref (ad 0), .int (nI (nn q)), .ref (ad 6), .ref (ad 7)])), (ad 6, .inl (cI, 273, .inl (nF tr))), (ad 7, .inl (cI, 910, .inl (nF ro))), (ad 8, .inr (4, [.ref (ad 5), .ref (ad 9), .ref (ad 10), .ref (ad 11)])), (ad 9, .inl (cZ, 91, .inl (bF S))), (ad 10, .inl (cZ, 91, .inl (bF gr))), (ad 11, .inl (cI, 91, .inl (nF ol))), (ad 12, .inr (0, [.ref (ad 5), .ref (ad 0), .ref (ad 13), .ref (ad 14), .ref (ad 15)])), (ad 13, .inl (cI, 6, .inl (nF nb))), (ad 14, .inl (cI, 30, .inl (nF mx))), (ad 15, .inl (cI, 5, .inl (nF pv))), (ad 26, .inr (6, [.ref (ad 0), .ref (ad 5), .ref (ad 8), .ref (ad 12), .ref (ad 16), .ref (ad 20), .ref (ad 24)]))] s.heap := hP
  have hf21 := hts (.fieldLink RX6 21 "FinitePlanes" "plane" "LFinitePlanes$Plane;") (by decide +kernel)
  have hf30 := hts (.fieldLink RX6 30 "FinitePlanes" "set" "LFinitePlanes$PointSet;") (by decide +kernel)
  have hf37 := hts (.fieldLink RX6 37 "FinitePlanes" "conic" "LFinitePlanes$Conic;") (by decide +kernel)
  have hf116 := hN.use (w := .fieldLinkNest RX6 116 "FinitePlanes$PointSet" "in" "[Z" "FinitePlanes") (by decide +kernel) (A := [.ref (ad 26), .int k].toArray)
  have hf176 := hN.use (w := .fieldLinkNest RX6 176 "FinitePlanes$Conic" "numbers" "[I" "FinitePlanes") (by decide +kernel) (A := [.ref (ad 26), .int k].toArray)
  have hiX0 : ∀ w ∈ u_ws RX0 TX0 5, w ∈ wsX6_through := by decide +kernel
  have hiX4 : ∀ w ∈ u_ws RX4 TX4 4, w ∈ wsX6_through := by decide +kernel
  have hiX6 : ∀ w ∈ u_ws RX6 TX6 7, w ∈ wsX6_through := by decide +kernel
  have hl := lv_entry ([.ref (ad 26), .int k]) (n := 2) (Nat.le_of_ble_eq_true rfl)
  rw [lg_entry_eq]
  generalize (lg_sl ([.ref (ad 26), .int k]) ++ List.replicate (2 - (lg_sl ([.ref (ad 26), .int k])).length) Slot.unset).toArray = ls at hl ⊢
  have hl : lv_has ls 2 [(0, .ref (ad 26)), (1, .int k)] := hl
  have hq2 := qs_le hF.1
  have hn2 := nn_le hF.1
  refine lv_iload_n hx hb dX6_through_0 rfl (lv_at hl 1 rfl) ?_
  refine lv_if_lt (tgt := 10) hx hb dX6_through_1 (by decide) (fun c1 => ?_) (fun c1 => ?_)
  · refine lv_bipush (v := (-2)) hx hb dX6_through_10 (by decide) ?_
    exact ctW_retI (v := (-2)) (ol, nb, mx, pv) hx hb hr rfl dX6_through_12 hlocks hS hP hD trivial (by rw [thrZ, if_pos (inR_l0 c1)])
  · refine lv_iload_n hx hb dX6_through_4 rfl (lv_at hl 1 rfl) ?_
    refine lv_bipush (v := nI 6) hx hb dX6_through_5 (by decide) ?_
    refine lv_icmp_lt (tgt := 13) hx hb dX6_through_7 (by decide) (fun c7 => ?_) (fun c7 => ?_)
    · have hk9 : inR k 0 5 = true := inR_ok (by decide) c1 (fun z => by rw [Int32.lt_iff_toInt_lt] at z c7; rw [nI_toInt (by decide)] at z c7; omega)
      obtain ⟨j, hj1, hj, rfl⟩ := inR_of (by omega) hk9
      refine lv_aload_n hx hb dX6_through_13 rfl (lv_at hl 0 rfl) ?_
      refine va_get (D := D) (ci := 6) (v := .ref (ad 5)) (C := RX6) (T := TX6) (N := 7) hx hb hts hiX6 hown hK hP 16 rfl rfl 1 (by decide) hf21 (fun _ h9 => h9) rfl dX6_through_14 ?_
      refine lv_aload_n hx hb dX6_through_17 rfl (lv_at hl 0 rfl) ?_
      refine va_get (D := D) (ci := 6) (v := .ref (ad 8)) (C := RX6) (T := TX6) (N := 7) hx hb hts hiX6 hown hK hP 16 rfl rfl 2 (by decide) hf30 (fun _ h9 => h9) rfl dX6_through_18 ?_
      refine va_getN (D := D) (ci := 4) (v := .ref (ad 9)) (C := RX4) (T := TX4) (N := 4) hx hb hts hiX4 hown hK hP 8 rfl rfl 1 (by decide) hf116 (fun _ h9 => h9) rfl dX6_through_21 ?_
      refine ctR_V (As := [.ref (ad 9)]) (rest := []) (r := .int (nI (cnt S (nn q)))) ⟨hx, hb, hml, hown, hts⟩ (c_X3_sizeOf l D cI cZ ad q sm pr op iv hF tr ro hT (ad 9) S) (cwV 1 hts gX6_through_X3_sizeOf rfl rfl rfl hdV_X3_sizeOf ⟨Nat.le_of_ble_eq_true rfl, Nat.le_of_ble_eq_true rfl⟩) hK hN hP [0, 1, 2, 3, 4, 5, 6, 7, 9] rfl 5 3 rfl rfl rfl hl.1 rfl (Nat.le_of_ble_eq_true rfl) ⟨Nat.zero_le _, Nat.zero_le _⟩ dX6_through_24 ?_
      have hh_1 : cnt S (nn q) ≤ nn q := cnt_le _ _
      refine lv_iconst (v := nI 5) hx hb dX6_through_27 (by decide) ?_
      refine nv_icmp_ne (tgt := 42) hx hb (by omega) (by decide) dX6_through_28 (by decide) (fun c28 => ?_) (fun c28 => ?_)
      · refine lv_iconst (v := (-1)) hx hb dX6_through_42 (by decide) ?_
        exact ctW_retI (v := (-1)) (ol, nb, mx, pv) hx hb hr rfl dX6_through_43 hlocks hS hP hD trivial (by rw [thrZ, if_neg (bool_nf hk9), if_pos (fiv_no (fun z => c28 z.1))])
      · refine lv_aload_n hx hb dX6_through_31 rfl (lv_at hl 0 rfl) ?_
        refine va_get (D := D) (ci := 6) (v := .ref (ad 8)) (C := RX6) (T := TX6) (N := 7) hx hb hts hiX6 hown hK hP 16 rfl rfl 2 (by decide) hf30 (fun _ h9 => h9) rfl dX6_through_32 ?_
        refine ctW_V (As := []) (rest := []) (wr := [(ad 12, .inr (0, [.ref (ad 5), .ref (ad 0), .ref (ad 13), .ref (ad 14), .ref (ad 15)])), (ad 13, .inl (cI, 6, .inl (nF nb))), (ad 14, .inl (cI, 30, .inl (nF mx))), (ad 15, .inl (cI, 5, .inl (nF pv))), (ad 26, .inr (6, [.ref (ad 0), .ref (ad 5), .ref (ad 8), .ref (ad 12), .ref (ad 16), .ref (ad 20), .ref (ad 24)]))]) ⟨hx, hb, hml, hown, hts⟩ (c_X4_mostOnLine l D cI cZ ad q sm pr op iv hF tr ro hT hR S gr ol) (cwV 0 hts gX6_through_X4_mostOnLine rfl rfl rfl hdV_X4_mostOnLine ⟨Nat.le_of_ble_eq_true rfl, Nat.le_of_ble_eq_true rfl⟩) hK hN hP hD hS hA [0, 1, 2, 3, 4, 5, 6, 7, 8, 9, 10, 11] [12, 13, 14, 15, 16] rfl rfl rfl (by decide) (by decide) (by decide) 8 4 rfl rfl rfl hl.1 rfl (Nat.le_of_ble_eq_true rfl) ⟨Nat.zero_le _, Nat.zero_le _⟩ dX6_through_35 (fun ol_2 H locs hu35 hP hD hS => ?_)
        try dsimp only at hu35
        have hP : va_P D vwCl [(ad 0, .inr (1, [.int (nI q), .ref (ad 1), .ref (ad 2), .ref (ad 3), .ref (ad 4)])), (ad 1, .inl (cI, 81, .inl (nF sm))), (ad 2, .inl (cI, 81, .inl (nF pr))), (ad 3, .inl (cI, 9, .inl (nF op))), (ad 4, .inl (cI, 9, .inl (nF iv))), (ad 5, .inr (3, [.ref (ad 0), .int (nI (nn q)), .ref (ad 6), .ref (ad 7)])), (ad 6, .inl (cI, 273, .inl (nF tr))), (ad 7, .inl (cI, 910, .inl (nF ro))), (ad 8, .inr (4, [.ref (ad 5), .ref (ad 9), .ref (ad 10), .ref (ad 11)])), (ad 9, .inl (cZ, 91, .inl (bF S))), (ad 10, .inl (cZ, 91, .inl (bF gr))), (ad 11, .inl (cI, 91, .inl (nF ol_2))), (ad 12, .inr (0, [.ref (ad 5), .ref (ad 0), .ref (ad 13), .ref (ad 14), .ref (ad 15)])), (ad 13, .inl (cI, 6, .inl (nF nb))), (ad 14, .inl (cI, 30, .inl (nF mx))), (ad 15, .inl (cI, 5, .inl (nF pv))), (ad 26, .inr (6, [.ref (ad 0), .ref (ad 5), .ref (ad 8), .ref (ad 12), .ref (ad 16), .ref (ad 20), .ref (ad 24)]))] H := hP.sub [5, 6, 7, 8, 9, 10, 11, 12, 13, 14, 15, 16, 0, 1, 2, 3, 4] rfl
        have hD : va_D A [(ad 0, .inr (1, [.int (nI q), .ref (ad 1), .ref (ad 2), .ref (ad 3), .ref (ad 4)])), (ad 1, .inl (cI, 81, .inl (nF sm))), (ad 2, .inl (cI, 81, .inl (nF pr))), (ad 3, .inl (cI, 9, .inl (nF op))), (ad 4, .inl (cI, 9, .inl (nF iv))), (ad 5, .inr (3, [.ref (ad 0), .int (nI (nn q)), .ref (ad 6), .ref (ad 7)])), (ad 6, .inl (cI, 273, .inl (nF tr))), (ad 7, .inl (cI, 910, .inl (nF ro))), (ad 8, .inr (4, [.ref (ad 5), .ref (ad 9), .ref (ad 10), .ref (ad 11)])), (ad 9, .inl (cZ, 91, .inl (bF S))), (ad 10, .inl (cZ, 91, .inl (bF gr))), (ad 11, .inl (cI, 91, .inl (nF ol_2))), (ad 12, .inr (0, [.ref (ad 5), .ref (ad 0), .ref (ad 13), .ref (ad 14), .ref (ad 15)])), (ad 13, .inl (cI, 6, .inl (nF nb))), (ad 14, .inl (cI, 30, .inl (nF mx))), (ad 15, .inl (cI, 5, .inl (nF pv))), (ad 26, .inr (6, [.ref (ad 0), .ref (ad 5), .ref (ad 8), .ref (ad 12), .ref (ad 16), .ref (ad 20), .ref (ad 24)]))] := hD.sub [5, 6, 7, 8, 9, 10, 11, 12, 13, 14, 15, 16, 0, 1, 2, 3, 4] (by decide) rfl
        refine W.eq (g2 := F0 m 38 ls [.int (nI (mxq (metq q S) (nn q)))]) rfl ?_
        have hh_3 : mxq (metq q S) (nn q) ≤ nn q := mxq_le.mpr (fun t _ => metq_le q S t)
        refine lv_iconst (v := nI 3) hx hb dX6_through_38 (by decide) ?_
        refine nv_icmp_le (tgt := 44) hx hb (by omega) (by decide) dX6_through_39 (by decide) (fun c39 => ?_) (fun c39 => ?_)
        · refine lv_aload_n hx hb dX6_through_44 rfl (lv_at hl 0 rfl) ?_
          refine va_get (D := D) (ci := 6) (v := .ref (ad 12)) (C := RX6) (T := TX6) (N := 7) hx hb hts hiX6 hown hK hP 16 rfl rfl 3 (by decide) hf37 (fun _ h9 => h9) rfl dX6_through_45 ?_
          refine lv_aload_n hx hb dX6_through_48 rfl (lv_at hl 0 rfl) ?_
          refine va_get (D := D) (ci := 6) (v := .ref (ad 8)) (C := RX6) (T := TX6) (N := 7) hx hb hts hiX6 hown hK hP 16 rfl rfl 2 (by decide) hf30 (fun _ h9 => h9) rfl dX6_through_49 ?_
          refine va_getN (D := D) (ci := 4) (v := .ref (ad 9)) (C := RX4) (T := TX4) (N := 4) hx hb hts hiX4 hown hK hP 8 rfl rfl 1 (by decide) hf116 (fun _ h9 => h9) rfl dX6_through_52 ?_
          refine ctW_V (As := [.ref (ad 9)]) (rest := []) (wr := [(ad 8, .inr (4, [.ref (ad 5), .ref (ad 9), .ref (ad 10), .ref (ad 11)])), (ad 10, .inl (cZ, 91, .inl (bF gr))), (ad 11, .inl (cI, 91, .inl (nF ol_2))), (ad 26, .inr (6, [.ref (ad 0), .ref (ad 5), .ref (ad 8), .ref (ad 12), .ref (ad 16), .ref (ad 20), .ref (ad 24)]))]) ⟨hx, hb, hml, hown, hts⟩ (c_X0_passThrough l D cI cZ ad q sm pr op iv hF tr ro hT nb mx pv (ad 9) S (fiv_mx.mpr ⟨c28, c39⟩)) (cwV 1 hts gX6_through_X0_passThrough rfl rfl rfl hdV_X0_passThrough ⟨Nat.le_of_ble_eq_true rfl, Nat.le_of_ble_eq_true rfl⟩) hK hN hP hD hS hA [0, 1, 2, 3, 4, 5, 6, 7, 12, 13, 14, 15, 9] [8, 10, 11, 16] rfl rfl rfl (by decide) (by decide) (by decide) 12 0 rfl rfl rfl hl.1 rfl (Nat.le_of_ble_eq_true rfl) ⟨Nat.zero_le _, Nat.zero_le _⟩ dX6_through_55 (fun u H locs hu55 hP hD hS => ?_)
          obtain ⟨nb_4, mx_5, pv_6⟩ := u
          try dsimp only at hu55
          have hP : va_P D vwCl [(ad 0, .inr (1, [.int (nI q), .ref (ad 1), .ref (ad 2), .ref (ad 3), .ref (ad 4)])), (ad 1, .inl (cI, 81, .inl (nF sm))), (ad 2, .inl (cI, 81, .inl (nF pr))), (ad 3, .inl (cI, 9, .inl (nF op))), (ad 4, .inl (cI, 9, .inl (nF iv))), (ad 5, .inr (3, [.ref (ad 0), .int (nI (nn q)), .ref (ad 6), .ref (ad 7)])), (ad 6, .inl (cI, 273, .inl (nF tr))), (ad 7, .inl (cI, 910, .inl (nF ro))), (ad 8, .inr (4, [.ref (ad 5), .ref (ad 9), .ref (ad 10), .ref (ad 11)])), (ad 9, .inl (cZ, 91, .inl (bF S))), (ad 10, .inl (cZ, 91, .inl (bF gr))), (ad 11, .inl (cI, 91, .inl (nF ol_2))), (ad 12, .inr (0, [.ref (ad 5), .ref (ad 0), .ref (ad 13), .ref (ad 14), .ref (ad 15)])), (ad 13, .inl (cI, 6, .inl (nF nb_4))), (ad 14, .inl (cI, 30, .inl (nF mx_5))), (ad 15, .inl (cI, 5, .inl (nF pv_6))), (ad 26, .inr (6, [.ref (ad 0), .ref (ad 5), .ref (ad 8), .ref (ad 12), .ref (ad 16), .ref (ad 20), .ref (ad 24)]))] H := hP.sub [4, 5, 6, 7, 8, 9, 10, 11, 0, 16, 1, 2, 12, 13, 14, 15, 3] rfl
          have hD : va_D A [(ad 0, .inr (1, [.int (nI q), .ref (ad 1), .ref (ad 2), .ref (ad 3), .ref (ad 4)])), (ad 1, .inl (cI, 81, .inl (nF sm))), (ad 2, .inl (cI, 81, .inl (nF pr))), (ad 3, .inl (cI, 9, .inl (nF op))), (ad 4, .inl (cI, 9, .inl (nF iv))), (ad 5, .inr (3, [.ref (ad 0), .int (nI (nn q)), .ref (ad 6), .ref (ad 7)])), (ad 6, .inl (cI, 273, .inl (nF tr))), (ad 7, .inl (cI, 910, .inl (nF ro))), (ad 8, .inr (4, [.ref (ad 5), .ref (ad 9), .ref (ad 10), .ref (ad 11)])), (ad 9, .inl (cZ, 91, .inl (bF S))), (ad 10, .inl (cZ, 91, .inl (bF gr))), (ad 11, .inl (cI, 91, .inl (nF ol_2))), (ad 12, .inr (0, [.ref (ad 5), .ref (ad 0), .ref (ad 13), .ref (ad 14), .ref (ad 15)])), (ad 13, .inl (cI, 6, .inl (nF nb_4))), (ad 14, .inl (cI, 30, .inl (nF mx_5))), (ad 15, .inl (cI, 5, .inl (nF pv_6))), (ad 26, .inr (6, [.ref (ad 0), .ref (ad 5), .ref (ad 8), .ref (ad 12), .ref (ad 16), .ref (ad 20), .ref (ad 24)]))] := hD.sub [4, 5, 6, 7, 8, 9, 10, 11, 0, 16, 1, 2, 12, 13, 14, 15, 3] (by decide) rfl
          refine W.eq (g2 := F0 m 58 ls []) rfl ?_
          refine lv_aload_n hx hb dX6_through_58 rfl (lv_at hl 0 rfl) ?_
          refine va_get (D := D) (ci := 6) (v := .ref (ad 12)) (C := RX6) (T := TX6) (N := 7) hx hb hts hiX6 hown hK hP 16 rfl rfl 3 (by decide) hf37 (fun _ h9 => h9) rfl dX6_through_59 ?_
          refine va_getN (D := D) (ci := 0) (v := .ref (ad 13)) (C := RX0) (T := TX0) (N := 5) hx hb hts hiX0 hown hK hP 12 rfl rfl 2 (by decide) hf176 (fun _ h9 => h9) rfl dX6_through_62 ?_
          refine lv_iload_n hx hb dX6_through_65 rfl (lv_at hl 1 rfl) ?_
          refine nv_iald hx hb hK hP 13 0 rfl rfl (by omega) (by decide) dX6_through_66 ?_
          exact ctW_retI (v := (nI (nb_4 j))) (ol_2, nb_4, mx_5, pv_6) hx hb hr rfl dX6_through_67 hlocks hS hP hD trivial (by rw [thrZ, if_neg (bool_nf hk9), if_neg (fun z => by rw [fivB_iff.mpr (fiv_mx.mpr ⟨c28, c39⟩)] at z; cases z), nv_nI (by omega), hu55 j (by omega)])
        · refine lv_iconst (v := (-1)) hx hb dX6_through_42 (by decide) ?_
          exact ctW_retI (v := (-1)) (ol_2, nb, mx, pv) hx hb hr rfl dX6_through_43 hlocks hS hP hD trivial (by rw [thrZ, if_neg (bool_nf hk9), if_pos (fiv_no (fun z => absurd (fiv_mx.mp z).2 (by omega)))])
    · refine lv_bipush (v := (-2)) hx hb dX6_through_10 (by decide) ?_
      exact ctW_retI (v := (-2)) (ol, nb, mx, pv) hx hb hr rfl dX6_through_12 hlocks hS hP hD trivial (by rw [thrZ, if_pos (inR_hi (by decide) (by rw [Int32.lt_iff_toInt_lt, nI_toInt (by decide)]; rw [Int32.lt_iff_toInt_lt, nI_toInt (by decide)] at c7; omega))])

set_option maxHeartbeats 4000000 in
set_option maxRecDepth 100000 in
theorem c_X4_clear (l : Launch) (D : va_G) (cI cZ : ClassId) (ad : Nat → Nat) (S : Nat → Bool) : CtW (S := (Nat → Bool)) l yX4_clear wsX4_clear { frames := 0, cells := 0, slots := 0, locals := 0 } D (tyG cI cZ) [.ref (ad 8)] [(ad 8, .inr (4, [.ref (ad 5), .ref (ad 9), .ref (ad 10), .ref (ad 11)])), (ad 9, .inl (cZ, 91, .inl (bF S)))] (fun (S3 : Nat → Bool) => ∀ t, t < 91 → S3 t = false) (fun (S3 : Nat → Bool) => none) (fun (S3 : Nat → Bool) => [(ad 8, .inr (4, [.ref (ad 5), .ref (ad 9), .ref (ad 10), .ref (ad 11)])), (ad 9, .inl (cZ, 91, .inl (bF S3)))]) := by
  intro sz; refine Met.ofW (cc := cX4_clear) (maxL := 2) (ret := none) (by decide) rfl ?_
  intro p e s m args below meth c s₁ B hml hv
  obtain ⟨rfl, hsz, hP, hK, hD0, hN⟩ := hv
  have hx := B.exec
  have hb := B.bytes
  have hr := B.returns
  have hts := atoms_spec (ws := wsX4_clear) B.pre
  have hown : s.vm.findClass RX4 = some m.cls := findClass_of_methodNamed B.named
  have hlocks := B.notSynchronized
  subst hsz
  have hD := hD0.self (sz := s.heap.size)
  generalize hAe : va_A [(ad 8, .inr (4, [.ref (ad 5), .ref (ad 9), .ref (ad 10), .ref (ad 11)])), (ad 9, .inl (cZ, 91, .inl (bF S)))] s.heap.size = A at hD ⊢
  have hA : ∀ q : Nat, s.heap.size ≤ q → A q := fun q h => by rw [← hAe]; exact Or.inr h
  have hS : va_S A s.heap s.heap [] := va_S.rf
  have hP : va_P D vwCl [(ad 8, .inr (4, [.ref (ad 5), .ref (ad 9), .ref (ad 10), .ref (ad 11)])), (ad 9, .inl (cZ, 91, .inl (bF S)))] s.heap := hP
  have hf9 := hts (.fieldLink RX4 9 "FinitePlanes$PointSet" "in" "[Z") (by decide +kernel)
  have hiX4 : ∀ w ∈ u_ws RX4 TX4 4, w ∈ wsX4_clear := by decide +kernel
  have hl := lv_entry ([.ref (ad 8)]) (n := 2) (Nat.le_of_ble_eq_true rfl)
  rw [lg_entry_eq]
  generalize (lg_sl ([.ref (ad 8)]) ++ List.replicate (2 - (lg_sl ([.ref (ad 8)])).length) Slot.unset).toArray = ls at hl ⊢
  have hl : lv_has ls 2 [(0, .ref (ad 8))] := hl
  refine lv_iconst (v := nI 0) hx hb dX4_clear_0 (by decide) ?_
  refine lv_istore_n (lv' := [(1, .int (nI 0)), (0, .ref (ad 8))]) hx hb dX4_clear_1 rfl hl (by decide) rfl (fun ls hl => ?_)
  have L2 : ∀ (N2 : Nat) (i : Nat) (S1 : Nat → Bool) (ls : Array Slot) (H : Heap) (locs : List Loc), 91 - i < N2 → (i ≤ 91) → (∀ t, t < i → S1 t = false) → lv_has ls 2 [(0, .ref (ad 8)), (1, .int (nI i))] → va_P D vwCl [(ad 8, .inr (4, [.ref (ad 5), .ref (ad 9), .ref (ad 10), .ref (ad 11)])), (ad 9, .inl (cZ, 91, .inl (bF S1)))] H → va_D A [(ad 8, .inr (4, [.ref (ad 5), .ref (ad 9), .ref (ad 10), .ref (ad 11)])), (ad 9, .inl (cZ, 91, .inl (bF S1)))] → va_S A s.heap H locs → WG p l e wsX4_clear { frames := 0, cells := 0, slots := 0, locals := 0 } s m [.ref (ad 8)] below meth c H locs (CQ (S := (Nat → Bool)) D (fun (S3 : Nat → Bool) => ∀ t, t < 91 → S3 t = false) (fun (S3 : Nat → Bool) => none) (fun (S3 : Nat → Bool) => [(ad 8, .inr (4, [.ref (ad 5), .ref (ad 9), .ref (ad 10), .ref (ad 11)])), (ad 9, .inl (cZ, 91, .inl (bF S3)))]) A) A 2 ls [] := by
    intro N2
    induction N2 with
    | zero => intro i S1 ls H locs hN; exact absurd hN (Nat.not_lt_zero _)
    | succ N2 ih2 =>
      intro i S1 ls H locs hN2 k_i k_s hl hP hD hS
      refine lv_iload_n hx hb dX4_clear_2 rfl (lv_at hl 1 rfl) ?_
      refine lv_bipush (v := nI 91) hx hb dX4_clear_3 (by decide) ?_
      refine nv_icmp_ge (tgt := 21) hx hb (by omega) (by decide) dX4_clear_5 (by decide) (fun c5 => ?_) (fun c5 => ?_)
      · exact ctW_retV S1 hx hb hr dX4_clear_21 hlocks hS hP hD (fun t ht => k_s t (by omega)) rfl
      · refine lv_aload_n hx hb dX4_clear_8 rfl (lv_at hl 0 rfl) ?_
        refine va_get (D := D) (ci := 4) (v := .ref (ad 9)) (C := RX4) (T := TX4) (N := 4) hx hb hts hiX4 hown hK hP 0 rfl rfl 1 (by decide) hf9 (fun _ h9 => h9) rfl dX4_clear_9 ?_
        refine lv_iload_n hx hb dX4_clear_12 rfl (lv_at hl 1 rfl) ?_
        refine lv_iconst (v := nI 0) hx hb dX4_clear_13 (by decide) ?_
        refine nv_zast hx hb hK hP hD hS 1 1 rfl rfl false (by omega) (by decide) dX4_clear_14 (fun H locs hP hD hS => ?_)
        have hP : va_P D vwCl [(ad 8, .inr (4, [.ref (ad 5), .ref (ad 9), .ref (ad 10), .ref (ad 11)])), (ad 9, .inl (cZ, 91, .inl (bF (upB S1 i false))))] H := hP
        have hD : va_D A [(ad 8, .inr (4, [.ref (ad 5), .ref (ad 9), .ref (ad 10), .ref (ad 11)])), (ad 9, .inl (cZ, 91, .inl (bF (upB S1 i false))))] := hD
        refine lv_iinc (v := nI (i + 1)) (lv' := [(1, .int (nI (i + 1))), (0, .ref (ad 8))]) hx hb dX4_clear_15 hl (k := 1) rfl (nI_inc i) (by decide) rfl (fun ls hl => ?_)
        refine lv_goto (tgt := 2) hx hb dX4_clear_18 (by decide) ?_
        exact ih2 (i + 1) (upB S1 i false) ls _ _ (by omega) (by omega) (fun t ht => (Nat.lt_succ_iff_lt_or_eq.mp ht).elim (fun h => by rw [upB_n (by omega)]; exact k_s t h) (fun h => by rw [h, upB_s])) (lv_sub hl [1, 0] rfl) hP hD hS
  exact L2 (91 - 0 + 1) 0 S ls _ _ (by omega) (Nat.zero_le _) (fun t h => absurd h (Nat.not_lt_zero t)) (lv_sub hl [1, 0] rfl) hP hD hS

set_option maxHeartbeats 4000000 in
set_option maxRecDepth 100000 in
theorem c_X4_linesWith (l : Launch) (D : va_G) (cI cZ : ClassId) (ad : Nat → Nat) (q : Nat) (sm : Nat → Nat) (pr : Nat → Nat) (op : Nat → Nat) (iv : Nat → Nat) (hF : FOK q sm pr op iv) (tr : Nat → Nat) (ro : Nat → Nat) (hT : TOK q tr) (hR : ROK q ro) (S : Nat → Bool) (gr : Nat → Bool) (ol : Nat → Nat) (k : Int32) : CtW (S := (Nat → Nat)) l yX4_linesWith wsX4_linesWith { frames := 2, cells := 0, slots := 0, locals := 47 } D (tyG cI cZ) [.ref (ad 8), .int k] [(ad 0, .inr (1, [.int (nI q), .ref (ad 1), .ref (ad 2), .ref (ad 3), .ref (ad 4)])), (ad 1, .inl (cI, 81, .inl (nF sm))), (ad 2, .inl (cI, 81, .inl (nF pr))), (ad 3, .inl (cI, 9, .inl (nF op))), (ad 4, .inl (cI, 9, .inl (nF iv))), (ad 5, .inr (3, [.ref (ad 0), .int (nI (nn q)), .ref (ad 6), .ref (ad 7)])), (ad 6, .inl (cI, 273, .inl (nF tr))), (ad 7, .inl (cI, 910, .inl (nF ro))), (ad 8, .inr (4, [.ref (ad 5), .ref (ad 9), .ref (ad 10), .ref (ad 11)])), (ad 9, .inl (cZ, 91, .inl (bF S))), (ad 10, .inl (cZ, 91, .inl (bF gr))), (ad 11, .inl (cI, 91, .inl (nF ol)))] (fun (ol3 : Nat → Nat) => ∀ t, t < nn q → ol3 t = metq q S t) (fun (ol3 : Nat → Nat) => some (.int (nI (linq q S k)))) (fun (ol3 : Nat → Nat) => [(ad 0, .inr (1, [.int (nI q), .ref (ad 1), .ref (ad 2), .ref (ad 3), .ref (ad 4)])), (ad 1, .inl (cI, 81, .inl (nF sm))), (ad 2, .inl (cI, 81, .inl (nF pr))), (ad 3, .inl (cI, 9, .inl (nF op))), (ad 4, .inl (cI, 9, .inl (nF iv))), (ad 5, .inr (3, [.ref (ad 0), .int (nI (nn q)), .ref (ad 6), .ref (ad 7)])), (ad 6, .inl (cI, 273, .inl (nF tr))), (ad 7, .inl (cI, 910, .inl (nF ro))), (ad 8, .inr (4, [.ref (ad 5), .ref (ad 9), .ref (ad 10), .ref (ad 11)])), (ad 9, .inl (cZ, 91, .inl (bF S))), (ad 10, .inl (cZ, 91, .inl (bF gr))), (ad 11, .inl (cI, 91, .inl (nF ol3)))]) := by
  intro sz; refine Met.ofW (cc := cX4_linesWith) (maxL := 4) (ret := some .int) (by decide) rfl ?_
  intro p e s m args below meth c s₁ B hml hv
  obtain ⟨rfl, hsz, hP, hK, hD0, hN⟩ := hv
  have hx := B.exec
  have hb := B.bytes
  have hr := B.returns
  have hts := atoms_spec (ws := wsX4_linesWith) B.pre
  have hown : s.vm.findClass RX4 = some m.cls := findClass_of_methodNamed B.named
  have hlocks := B.notSynchronized
  subst hsz
  have hD := hD0.self (sz := s.heap.size)
  generalize hAe : va_A [(ad 0, .inr (1, [.int (nI q), .ref (ad 1), .ref (ad 2), .ref (ad 3), .ref (ad 4)])), (ad 1, .inl (cI, 81, .inl (nF sm))), (ad 2, .inl (cI, 81, .inl (nF pr))), (ad 3, .inl (cI, 9, .inl (nF op))), (ad 4, .inl (cI, 9, .inl (nF iv))), (ad 5, .inr (3, [.ref (ad 0), .int (nI (nn q)), .ref (ad 6), .ref (ad 7)])), (ad 6, .inl (cI, 273, .inl (nF tr))), (ad 7, .inl (cI, 910, .inl (nF ro))), (ad 8, .inr (4, [.ref (ad 5), .ref (ad 9), .ref (ad 10), .ref (ad 11)])), (ad 9, .inl (cZ, 91, .inl (bF S))), (ad 10, .inl (cZ, 91, .inl (bF gr))), (ad 11, .inl (cI, 91, .inl (nF ol)))] s.heap.size = A at hD ⊢
  have hA : ∀ q : Nat, s.heap.size ≤ q → A q := fun q h => by rw [← hAe]; exact Or.inr h
  have hS : va_S A s.heap s.heap [] := va_S.rf
  have hP : va_P D vwCl [(ad 0, .inr (1, [.int (nI q), .ref (ad 1), .ref (ad 2), .ref (ad 3), .ref (ad 4)])), (ad 1, .inl (cI, 81, .inl (nF sm))), (ad 2, .inl (cI, 81, .inl (nF pr))), (ad 3, .inl (cI, 9, .inl (nF op))), (ad 4, .inl (cI, 9, .inl (nF iv))), (ad 5, .inr (3, [.ref (ad 0), .int (nI (nn q)), .ref (ad 6), .ref (ad 7)])), (ad 6, .inl (cI, 273, .inl (nF tr))), (ad 7, .inl (cI, 910, .inl (nF ro))), (ad 8, .inr (4, [.ref (ad 5), .ref (ad 9), .ref (ad 10), .ref (ad 11)])), (ad 9, .inl (cZ, 91, .inl (bF S))), (ad 10, .inl (cZ, 91, .inl (bF gr))), (ad 11, .inl (cI, 91, .inl (nF ol)))] s.heap := hP
  have hf9 := hts (.fieldLink RX4 9 "FinitePlanes$PointSet" "in" "[Z") (by decide +kernel)
  have hf18 := hts (.fieldLink RX4 18 "FinitePlanes$PointSet" "onLine" "[I") (by decide +kernel)
  have hf22 := hts (.fieldLink RX4 22 "FinitePlanes$PointSet" "plane" "LFinitePlanes$Plane;") (by decide +kernel)
  have hf32 := hN.use (w := .fieldLinkNest RX4 32 "FinitePlanes$Plane" "n" "I" "FinitePlanes") (by decide +kernel) (A := [.ref (ad 8), .int k].toArray)
  have hiX3 : ∀ w ∈ u_ws RX3 TX3 4, w ∈ wsX4_linesWith := by decide +kernel
  have hiX4 : ∀ w ∈ u_ws RX4 TX4 4, w ∈ wsX4_linesWith := by decide +kernel
  have hl := lv_entry ([.ref (ad 8), .int k]) (n := 4) (Nat.le_of_ble_eq_true rfl)
  rw [lg_entry_eq]
  generalize (lg_sl ([.ref (ad 8), .int k]) ++ List.replicate (4 - (lg_sl ([.ref (ad 8), .int k])).length) Slot.unset).toArray = ls at hl ⊢
  have hl : lv_has ls 4 [(0, .ref (ad 8)), (1, .int k)] := hl
  have hq2 := qs_le hF.1
  have hn2 := nn_le hF.1
  refine lv_aload_n hx hb dX4_linesWith_0 rfl (lv_at hl 0 rfl) ?_
  refine va_get (D := D) (ci := 4) (v := .ref (ad 5)) (C := RX4) (T := TX4) (N := 4) hx hb hts hiX4 hown hK hP 8 rfl rfl 0 (by decide) hf22 (fun _ h9 => h9) rfl dX4_linesWith_1 ?_
  refine lv_aload_n hx hb dX4_linesWith_4 rfl (lv_at hl 0 rfl) ?_
  refine va_get (D := D) (ci := 4) (v := .ref (ad 9)) (C := RX4) (T := TX4) (N := 4) hx hb hts hiX4 hown hK hP 8 rfl rfl 1 (by decide) hf9 (fun _ h9 => h9) rfl dX4_linesWith_5 ?_
  refine lv_aload_n hx hb dX4_linesWith_8 rfl (lv_at hl 0 rfl) ?_
  refine va_get (D := D) (ci := 4) (v := .ref (ad 11)) (C := RX4) (T := TX4) (N := 4) hx hb hts hiX4 hown hK hP 8 rfl rfl 3 (by decide) hf18 (fun _ h9 => h9) rfl dX4_linesWith_9 ?_
  refine ctW_V (As := [.ref (ad 9), .ref (ad 11)]) (rest := []) (wr := [(ad 8, .inr (4, [.ref (ad 5), .ref (ad 9), .ref (ad 10), .ref (ad 11)])), (ad 10, .inl (cZ, 91, .inl (bF gr)))]) ⟨hx, hb, hml, hown, hts⟩ (c_X3_tally l D cI cZ ad q sm pr op iv hF tr ro hT hR (ad 9) S (ad 11) ol) (cwV 2 hts gX4_linesWith_X3_tally rfl rfl rfl hdV_X3_tally ⟨Nat.le_of_ble_eq_true rfl, Nat.le_of_ble_eq_true rfl⟩) hK hN hP hD hS hA [0, 1, 2, 3, 4, 5, 6, 7, 9, 11] [8, 10] rfl rfl rfl (by decide) (by decide) (by decide) 5 3 rfl rfl rfl hl.1 rfl (Nat.le_of_ble_eq_true rfl) ⟨Nat.zero_le _, Nat.zero_le _⟩ dX4_linesWith_12 (fun ol_1 H locs hu12 hP hD hS => ?_)
  try dsimp only at hu12
  have hP : va_P D vwCl [(ad 0, .inr (1, [.int (nI q), .ref (ad 1), .ref (ad 2), .ref (ad 3), .ref (ad 4)])), (ad 1, .inl (cI, 81, .inl (nF sm))), (ad 2, .inl (cI, 81, .inl (nF pr))), (ad 3, .inl (cI, 9, .inl (nF op))), (ad 4, .inl (cI, 9, .inl (nF iv))), (ad 5, .inr (3, [.ref (ad 0), .int (nI (nn q)), .ref (ad 6), .ref (ad 7)])), (ad 6, .inl (cI, 273, .inl (nF tr))), (ad 7, .inl (cI, 910, .inl (nF ro))), (ad 8, .inr (4, [.ref (ad 5), .ref (ad 9), .ref (ad 10), .ref (ad 11)])), (ad 9, .inl (cZ, 91, .inl (bF S))), (ad 10, .inl (cZ, 91, .inl (bF gr))), (ad 11, .inl (cI, 91, .inl (nF ol_1)))] H := hP.sub [2, 3, 4, 5, 6, 7, 8, 9, 0, 10, 1, 11] rfl
  have hD : va_D A [(ad 0, .inr (1, [.int (nI q), .ref (ad 1), .ref (ad 2), .ref (ad 3), .ref (ad 4)])), (ad 1, .inl (cI, 81, .inl (nF sm))), (ad 2, .inl (cI, 81, .inl (nF pr))), (ad 3, .inl (cI, 9, .inl (nF op))), (ad 4, .inl (cI, 9, .inl (nF iv))), (ad 5, .inr (3, [.ref (ad 0), .int (nI (nn q)), .ref (ad 6), .ref (ad 7)])), (ad 6, .inl (cI, 273, .inl (nF tr))), (ad 7, .inl (cI, 910, .inl (nF ro))), (ad 8, .inr (4, [.ref (ad 5), .ref (ad 9), .ref (ad 10), .ref (ad 11)])), (ad 9, .inl (cZ, 91, .inl (bF S))), (ad 10, .inl (cZ, 91, .inl (bF gr))), (ad 11, .inl (cI, 91, .inl (nF ol_1)))] := hD.sub [2, 3, 4, 5, 6, 7, 8, 9, 0, 10, 1, 11] (by decide) rfl
  refine W.eq (g2 := F0 m 15 ls []) rfl ?_
  refine lv_iconst (v := nI 0) hx hb dX4_linesWith_15 (by decide) ?_
  refine lv_istore_n (lv' := [(2, .int (nI 0)), (0, .ref (ad 8)), (1, .int k)]) hx hb dX4_linesWith_16 rfl hl (by decide) rfl (fun ls hl => ?_)
  refine lv_iconst (v := nI 0) hx hb dX4_linesWith_17 (by decide) ?_
  refine lv_istore_n (lv' := [(3, .int (nI 0)), (2, .int (nI 0)), (0, .ref (ad 8)), (1, .int k)]) hx hb dX4_linesWith_18 rfl hl (by decide) rfl (fun ls hl => ?_)
  have L19 : ∀ (N19 : Nat) (i : Nat) (x : Nat) (ls : Array Slot) (H : Heap) (locs : List Loc), nn q - i < N19 → (i ≤ nn q) → (x = cnt (fun t => decide (nI (metq q S t) = k)) i) → lv_has ls 4 [(0, .ref (ad 8)), (1, .int k), (2, .int (nI x)), (3, .int (nI i))] → va_P D vwCl [(ad 0, .inr (1, [.int (nI q), .ref (ad 1), .ref (ad 2), .ref (ad 3), .ref (ad 4)])), (ad 1, .inl (cI, 81, .inl (nF sm))), (ad 2, .inl (cI, 81, .inl (nF pr))), (ad 3, .inl (cI, 9, .inl (nF op))), (ad 4, .inl (cI, 9, .inl (nF iv))), (ad 5, .inr (3, [.ref (ad 0), .int (nI (nn q)), .ref (ad 6), .ref (ad 7)])), (ad 6, .inl (cI, 273, .inl (nF tr))), (ad 7, .inl (cI, 910, .inl (nF ro))), (ad 8, .inr (4, [.ref (ad 5), .ref (ad 9), .ref (ad 10), .ref (ad 11)])), (ad 9, .inl (cZ, 91, .inl (bF S))), (ad 10, .inl (cZ, 91, .inl (bF gr))), (ad 11, .inl (cI, 91, .inl (nF ol_1)))] H → va_D A [(ad 0, .inr (1, [.int (nI q), .ref (ad 1), .ref (ad 2), .ref (ad 3), .ref (ad 4)])), (ad 1, .inl (cI, 81, .inl (nF sm))), (ad 2, .inl (cI, 81, .inl (nF pr))), (ad 3, .inl (cI, 9, .inl (nF op))), (ad 4, .inl (cI, 9, .inl (nF iv))), (ad 5, .inr (3, [.ref (ad 0), .int (nI (nn q)), .ref (ad 6), .ref (ad 7)])), (ad 6, .inl (cI, 273, .inl (nF tr))), (ad 7, .inl (cI, 910, .inl (nF ro))), (ad 8, .inr (4, [.ref (ad 5), .ref (ad 9), .ref (ad 10), .ref (ad 11)])), (ad 9, .inl (cZ, 91, .inl (bF S))), (ad 10, .inl (cZ, 91, .inl (bF gr))), (ad 11, .inl (cI, 91, .inl (nF ol_1)))] → va_S A s.heap H locs → WG p l e wsX4_linesWith { frames := 2, cells := 0, slots := 0, locals := 47 } s m [.ref (ad 8), .int k] below meth c H locs (CQ (S := (Nat → Nat)) D (fun (ol3 : Nat → Nat) => ∀ t, t < nn q → ol3 t = metq q S t) (fun (ol3 : Nat → Nat) => some (.int (nI (linq q S k)))) (fun (ol3 : Nat → Nat) => [(ad 0, .inr (1, [.int (nI q), .ref (ad 1), .ref (ad 2), .ref (ad 3), .ref (ad 4)])), (ad 1, .inl (cI, 81, .inl (nF sm))), (ad 2, .inl (cI, 81, .inl (nF pr))), (ad 3, .inl (cI, 9, .inl (nF op))), (ad 4, .inl (cI, 9, .inl (nF iv))), (ad 5, .inr (3, [.ref (ad 0), .int (nI (nn q)), .ref (ad 6), .ref (ad 7)])), (ad 6, .inl (cI, 273, .inl (nF tr))), (ad 7, .inl (cI, 910, .inl (nF ro))), (ad 8, .inr (4, [.ref (ad 5), .ref (ad 9), .ref (ad 10), .ref (ad 11)])), (ad 9, .inl (cZ, 91, .inl (bF S))), (ad 10, .inl (cZ, 91, .inl (bF gr))), (ad 11, .inl (cI, 91, .inl (nF ol3)))]) A) A 19 ls [] := by
    intro N19
    induction N19 with
    | zero => intro i x ls H locs hN; exact absurd hN (Nat.not_lt_zero _)
    | succ N19 ih19 =>
      intro i x ls H locs hN19 k_i k_x hl hP hD hS
      have hc := cnt_le (fun t => decide (nI (metq q S t) = k)) i
      refine lv_iload_n hx hb dX4_linesWith_19 rfl (lv_at hl 3 rfl) ?_
      refine lv_aload_n hx hb dX4_linesWith_20 rfl (lv_at hl 0 rfl) ?_
      refine va_get (D := D) (ci := 4) (v := .ref (ad 5)) (C := RX4) (T := TX4) (N := 4) hx hb hts hiX4 hown hK hP 8 rfl rfl 0 (by decide) hf22 (fun _ h9 => h9) rfl dX4_linesWith_21 ?_
      refine va_getN (D := D) (ci := 3) (v := .int (nI (nn q))) (C := RX3) (T := TX3) (N := 4) hx hb hts hiX3 hown hK hP 5 rfl rfl 1 (by decide) hf32 (fun _ h9 => h9) rfl dX4_linesWith_24 ?_
      refine nv_icmp_ge (tgt := 49) hx hb (by omega) (by omega) dX4_linesWith_27 (by decide) (fun c27 => ?_) (fun c27 => ?_)
      · refine lv_iload_n hx hb dX4_linesWith_49 rfl (lv_at hl 2 rfl) ?_
        exact ctW_retI (v := (nI x)) ol_1 hx hb hr rfl dX4_linesWith_50 hlocks hS hP hD hu12 (by rw [k_x, show i = nn q by omega]; rfl)
      · refine lv_aload_n hx hb dX4_linesWith_30 rfl (lv_at hl 0 rfl) ?_
        refine va_get (D := D) (ci := 4) (v := .ref (ad 11)) (C := RX4) (T := TX4) (N := 4) hx hb hts hiX4 hown hK hP 8 rfl rfl 3 (by decide) hf18 (fun _ h9 => h9) rfl dX4_linesWith_31 ?_
        refine lv_iload_n hx hb dX4_linesWith_34 rfl (lv_at hl 3 rfl) ?_
        refine nv_iald hx hb hK hP 11 0 rfl rfl (by omega) (by decide) dX4_linesWith_35 ?_
        refine nv_top (v' := .int (nI (metq q S i))) (congrArg (fun t => Value.int (nI t)) (hu12 i (by omega))) ?_
        have hm9 := metq_le q S i
        refine lv_iload_n hx hb dX4_linesWith_36 rfl (lv_at hl 1 rfl) ?_
        refine lv_icmp_ne (tgt := 43) hx hb dX4_linesWith_37 (by decide) (fun c37 => ?_) (fun c37 => ?_)
        · refine lv_iinc (v := nI (i + 1)) (lv' := [(3, .int (nI (i + 1))), (0, .ref (ad 8)), (1, .int k), (2, .int (nI x))]) hx hb dX4_linesWith_43 hl (k := 3) rfl (nI_inc i) (by decide) rfl (fun ls hl => ?_)
          refine lv_goto (tgt := 19) hx hb dX4_linesWith_46 (by decide) ?_
          exact ih19 (i + 1) x ls _ _ (by omega) (by omega) (by rw [cnt, decide_eq_false c37, k_x]; rfl) (lv_sub hl [1, 2, 3, 0] rfl) hP hD hS
        · refine lv_iinc (v := nI (x + 1)) (lv' := [(2, .int (nI (x + 1))), (0, .ref (ad 8)), (1, .int k), (3, .int (nI i))]) hx hb dX4_linesWith_40 hl (k := 2) rfl (nI_inc x) (by decide) rfl (fun ls hl => ?_)
          refine lv_iinc (v := nI (i + 1)) (lv' := [(3, .int (nI (i + 1))), (2, .int (nI (x + 1))), (0, .ref (ad 8)), (1, .int k)]) hx hb dX4_linesWith_43 hl (k := 3) rfl (nI_inc i) (by decide) rfl (fun ls hl => ?_)
          refine lv_goto (tgt := 19) hx hb dX4_linesWith_46 (by decide) ?_
          exact ih19 (i + 1) (x + 1) ls _ _ (by omega) (by omega) (by rw [cnt, decide_eq_true c37, k_x]; rfl) (lv_sub hl [2, 3, 1, 0] rfl) hP hD hS
  exact L19 (nn q - 0 + 1) 0 0 ls _ _ (by omega) (Nat.zero_le _) rfl (lv_sub hl [2, 3, 1, 0] rfl) hP hD hS

set_option maxHeartbeats 4000000 in
set_option maxRecDepth 100000 in
theorem c_X4_mostOnLine (l : Launch) (D : va_G) (cI cZ : ClassId) (ad : Nat → Nat) (q : Nat) (sm : Nat → Nat) (pr : Nat → Nat) (op : Nat → Nat) (iv : Nat → Nat) (hF : FOK q sm pr op iv) (tr : Nat → Nat) (ro : Nat → Nat) (hT : TOK q tr) (hR : ROK q ro) (S : Nat → Bool) (gr : Nat → Bool) (ol : Nat → Nat) : CtW (S := (Nat → Nat)) l yX4_mostOnLine wsX4_mostOnLine { frames := 2, cells := 0, slots := 0, locals := 47 } D (tyG cI cZ) [.ref (ad 8)] [(ad 0, .inr (1, [.int (nI q), .ref (ad 1), .ref (ad 2), .ref (ad 3), .ref (ad 4)])), (ad 1, .inl (cI, 81, .inl (nF sm))), (ad 2, .inl (cI, 81, .inl (nF pr))), (ad 3, .inl (cI, 9, .inl (nF op))), (ad 4, .inl (cI, 9, .inl (nF iv))), (ad 5, .inr (3, [.ref (ad 0), .int (nI (nn q)), .ref (ad 6), .ref (ad 7)])), (ad 6, .inl (cI, 273, .inl (nF tr))), (ad 7, .inl (cI, 910, .inl (nF ro))), (ad 8, .inr (4, [.ref (ad 5), .ref (ad 9), .ref (ad 10), .ref (ad 11)])), (ad 9, .inl (cZ, 91, .inl (bF S))), (ad 10, .inl (cZ, 91, .inl (bF gr))), (ad 11, .inl (cI, 91, .inl (nF ol)))] (fun (ol3 : Nat → Nat) => ∀ t, t < nn q → ol3 t = metq q S t) (fun (ol3 : Nat → Nat) => some (.int (nI (mxq (metq q S) (nn q))))) (fun (ol3 : Nat → Nat) => [(ad 0, .inr (1, [.int (nI q), .ref (ad 1), .ref (ad 2), .ref (ad 3), .ref (ad 4)])), (ad 1, .inl (cI, 81, .inl (nF sm))), (ad 2, .inl (cI, 81, .inl (nF pr))), (ad 3, .inl (cI, 9, .inl (nF op))), (ad 4, .inl (cI, 9, .inl (nF iv))), (ad 5, .inr (3, [.ref (ad 0), .int (nI (nn q)), .ref (ad 6), .ref (ad 7)])), (ad 6, .inl (cI, 273, .inl (nF tr))), (ad 7, .inl (cI, 910, .inl (nF ro))), (ad 8, .inr (4, [.ref (ad 5), .ref (ad 9), .ref (ad 10), .ref (ad 11)])), (ad 9, .inl (cZ, 91, .inl (bF S))), (ad 10, .inl (cZ, 91, .inl (bF gr))), (ad 11, .inl (cI, 91, .inl (nF ol3)))]) := by
  intro sz; refine Met.ofW (cc := cX4_mostOnLine) (maxL := 3) (ret := some .int) (by decide) rfl ?_
  intro p e s m args below meth c s₁ B hml hv
  obtain ⟨rfl, hsz, hP, hK, hD0, hN⟩ := hv
  have hx := B.exec
  have hb := B.bytes
  have hr := B.returns
  have hts := atoms_spec (ws := wsX4_mostOnLine) B.pre
  have hown : s.vm.findClass RX4 = some m.cls := findClass_of_methodNamed B.named
  have hlocks := B.notSynchronized
  subst hsz
  have hD := hD0.self (sz := s.heap.size)
  generalize hAe : va_A [(ad 0, .inr (1, [.int (nI q), .ref (ad 1), .ref (ad 2), .ref (ad 3), .ref (ad 4)])), (ad 1, .inl (cI, 81, .inl (nF sm))), (ad 2, .inl (cI, 81, .inl (nF pr))), (ad 3, .inl (cI, 9, .inl (nF op))), (ad 4, .inl (cI, 9, .inl (nF iv))), (ad 5, .inr (3, [.ref (ad 0), .int (nI (nn q)), .ref (ad 6), .ref (ad 7)])), (ad 6, .inl (cI, 273, .inl (nF tr))), (ad 7, .inl (cI, 910, .inl (nF ro))), (ad 8, .inr (4, [.ref (ad 5), .ref (ad 9), .ref (ad 10), .ref (ad 11)])), (ad 9, .inl (cZ, 91, .inl (bF S))), (ad 10, .inl (cZ, 91, .inl (bF gr))), (ad 11, .inl (cI, 91, .inl (nF ol)))] s.heap.size = A at hD ⊢
  have hA : ∀ q : Nat, s.heap.size ≤ q → A q := fun q h => by rw [← hAe]; exact Or.inr h
  have hS : va_S A s.heap s.heap [] := va_S.rf
  have hP : va_P D vwCl [(ad 0, .inr (1, [.int (nI q), .ref (ad 1), .ref (ad 2), .ref (ad 3), .ref (ad 4)])), (ad 1, .inl (cI, 81, .inl (nF sm))), (ad 2, .inl (cI, 81, .inl (nF pr))), (ad 3, .inl (cI, 9, .inl (nF op))), (ad 4, .inl (cI, 9, .inl (nF iv))), (ad 5, .inr (3, [.ref (ad 0), .int (nI (nn q)), .ref (ad 6), .ref (ad 7)])), (ad 6, .inl (cI, 273, .inl (nF tr))), (ad 7, .inl (cI, 910, .inl (nF ro))), (ad 8, .inr (4, [.ref (ad 5), .ref (ad 9), .ref (ad 10), .ref (ad 11)])), (ad 9, .inl (cZ, 91, .inl (bF S))), (ad 10, .inl (cZ, 91, .inl (bF gr))), (ad 11, .inl (cI, 91, .inl (nF ol)))] s.heap := hP
  have hf9 := hts (.fieldLink RX4 9 "FinitePlanes$PointSet" "in" "[Z") (by decide +kernel)
  have hf18 := hts (.fieldLink RX4 18 "FinitePlanes$PointSet" "onLine" "[I") (by decide +kernel)
  have hf22 := hts (.fieldLink RX4 22 "FinitePlanes$PointSet" "plane" "LFinitePlanes$Plane;") (by decide +kernel)
  have hf32 := hN.use (w := .fieldLinkNest RX4 32 "FinitePlanes$Plane" "n" "I" "FinitePlanes") (by decide +kernel) (A := [.ref (ad 8)].toArray)
  have hiX3 : ∀ w ∈ u_ws RX3 TX3 4, w ∈ wsX4_mostOnLine := by decide +kernel
  have hiX4 : ∀ w ∈ u_ws RX4 TX4 4, w ∈ wsX4_mostOnLine := by decide +kernel
  have hl := lv_entry ([.ref (ad 8)]) (n := 3) (Nat.le_of_ble_eq_true rfl)
  rw [lg_entry_eq]
  generalize (lg_sl ([.ref (ad 8)]) ++ List.replicate (3 - (lg_sl ([.ref (ad 8)])).length) Slot.unset).toArray = ls at hl ⊢
  have hl : lv_has ls 3 [(0, .ref (ad 8))] := hl
  have hq2 := qs_le hF.1
  have hn2 := nn_le hF.1
  refine lv_aload_n hx hb dX4_mostOnLine_0 rfl (lv_at hl 0 rfl) ?_
  refine va_get (D := D) (ci := 4) (v := .ref (ad 5)) (C := RX4) (T := TX4) (N := 4) hx hb hts hiX4 hown hK hP 8 rfl rfl 0 (by decide) hf22 (fun _ h9 => h9) rfl dX4_mostOnLine_1 ?_
  refine lv_aload_n hx hb dX4_mostOnLine_4 rfl (lv_at hl 0 rfl) ?_
  refine va_get (D := D) (ci := 4) (v := .ref (ad 9)) (C := RX4) (T := TX4) (N := 4) hx hb hts hiX4 hown hK hP 8 rfl rfl 1 (by decide) hf9 (fun _ h9 => h9) rfl dX4_mostOnLine_5 ?_
  refine lv_aload_n hx hb dX4_mostOnLine_8 rfl (lv_at hl 0 rfl) ?_
  refine va_get (D := D) (ci := 4) (v := .ref (ad 11)) (C := RX4) (T := TX4) (N := 4) hx hb hts hiX4 hown hK hP 8 rfl rfl 3 (by decide) hf18 (fun _ h9 => h9) rfl dX4_mostOnLine_9 ?_
  refine ctW_V (As := [.ref (ad 9), .ref (ad 11)]) (rest := []) (wr := [(ad 8, .inr (4, [.ref (ad 5), .ref (ad 9), .ref (ad 10), .ref (ad 11)])), (ad 10, .inl (cZ, 91, .inl (bF gr)))]) ⟨hx, hb, hml, hown, hts⟩ (c_X3_tally l D cI cZ ad q sm pr op iv hF tr ro hT hR (ad 9) S (ad 11) ol) (cwV 2 hts gX4_mostOnLine_X3_tally rfl rfl rfl hdV_X3_tally ⟨Nat.le_of_ble_eq_true rfl, Nat.le_of_ble_eq_true rfl⟩) hK hN hP hD hS hA [0, 1, 2, 3, 4, 5, 6, 7, 9, 11] [8, 10] rfl rfl rfl (by decide) (by decide) (by decide) 5 3 rfl rfl rfl hl.1 rfl (Nat.le_of_ble_eq_true rfl) ⟨Nat.zero_le _, Nat.zero_le _⟩ dX4_mostOnLine_12 (fun ol_1 H locs hu12 hP hD hS => ?_)
  try dsimp only at hu12
  have hP : va_P D vwCl [(ad 0, .inr (1, [.int (nI q), .ref (ad 1), .ref (ad 2), .ref (ad 3), .ref (ad 4)])), (ad 1, .inl (cI, 81, .inl (nF sm))), (ad 2, .inl (cI, 81, .inl (nF pr))), (ad 3, .inl (cI, 9, .inl (nF op))), (ad 4, .inl (cI, 9, .inl (nF iv))), (ad 5, .inr (3, [.ref (ad 0), .int (nI (nn q)), .ref (ad 6), .ref (ad 7)])), (ad 6, .inl (cI, 273, .inl (nF tr))), (ad 7, .inl (cI, 910, .inl (nF ro))), (ad 8, .inr (4, [.ref (ad 5), .ref (ad 9), .ref (ad 10), .ref (ad 11)])), (ad 9, .inl (cZ, 91, .inl (bF S))), (ad 10, .inl (cZ, 91, .inl (bF gr))), (ad 11, .inl (cI, 91, .inl (nF ol_1)))] H := hP.sub [2, 3, 4, 5, 6, 7, 8, 9, 0, 10, 1, 11] rfl
  have hD : va_D A [(ad 0, .inr (1, [.int (nI q), .ref (ad 1), .ref (ad 2), .ref (ad 3), .ref (ad 4)])), (ad 1, .inl (cI, 81, .inl (nF sm))), (ad 2, .inl (cI, 81, .inl (nF pr))), (ad 3, .inl (cI, 9, .inl (nF op))), (ad 4, .inl (cI, 9, .inl (nF iv))), (ad 5, .inr (3, [.ref (ad 0), .int (nI (nn q)), .ref (ad 6), .ref (ad 7)])), (ad 6, .inl (cI, 273, .inl (nF tr))), (ad 7, .inl (cI, 910, .inl (nF ro))), (ad 8, .inr (4, [.ref (ad 5), .ref (ad 9), .ref (ad 10), .ref (ad 11)])), (ad 9, .inl (cZ, 91, .inl (bF S))), (ad 10, .inl (cZ, 91, .inl (bF gr))), (ad 11, .inl (cI, 91, .inl (nF ol_1)))] := hD.sub [2, 3, 4, 5, 6, 7, 8, 9, 0, 10, 1, 11] (by decide) rfl
  refine W.eq (g2 := F0 m 15 ls []) rfl ?_
  refine lv_iconst (v := nI 0) hx hb dX4_mostOnLine_15 (by decide) ?_
  refine lv_istore_n (lv' := [(1, .int (nI 0)), (0, .ref (ad 8))]) hx hb dX4_mostOnLine_16 rfl hl (by decide) rfl (fun ls hl => ?_)
  refine lv_iconst (v := nI 0) hx hb dX4_mostOnLine_17 (by decide) ?_
  refine lv_istore_n (lv' := [(2, .int (nI 0)), (1, .int (nI 0)), (0, .ref (ad 8))]) hx hb dX4_mostOnLine_18 rfl hl (by decide) rfl (fun ls hl => ?_)
  have L19 : ∀ (N19 : Nat) (i : Nat) (x : Nat) (ls : Array Slot) (H : Heap) (locs : List Loc), nn q - i < N19 → (i ≤ nn q) → (x = mxq (metq q S) i) → lv_has ls 3 [(0, .ref (ad 8)), (1, .int (nI x)), (2, .int (nI i))] → va_P D vwCl [(ad 0, .inr (1, [.int (nI q), .ref (ad 1), .ref (ad 2), .ref (ad 3), .ref (ad 4)])), (ad 1, .inl (cI, 81, .inl (nF sm))), (ad 2, .inl (cI, 81, .inl (nF pr))), (ad 3, .inl (cI, 9, .inl (nF op))), (ad 4, .inl (cI, 9, .inl (nF iv))), (ad 5, .inr (3, [.ref (ad 0), .int (nI (nn q)), .ref (ad 6), .ref (ad 7)])), (ad 6, .inl (cI, 273, .inl (nF tr))), (ad 7, .inl (cI, 910, .inl (nF ro))), (ad 8, .inr (4, [.ref (ad 5), .ref (ad 9), .ref (ad 10), .ref (ad 11)])), (ad 9, .inl (cZ, 91, .inl (bF S))), (ad 10, .inl (cZ, 91, .inl (bF gr))), (ad 11, .inl (cI, 91, .inl (nF ol_1)))] H → va_D A [(ad 0, .inr (1, [.int (nI q), .ref (ad 1), .ref (ad 2), .ref (ad 3), .ref (ad 4)])), (ad 1, .inl (cI, 81, .inl (nF sm))), (ad 2, .inl (cI, 81, .inl (nF pr))), (ad 3, .inl (cI, 9, .inl (nF op))), (ad 4, .inl (cI, 9, .inl (nF iv))), (ad 5, .inr (3, [.ref (ad 0), .int (nI (nn q)), .ref (ad 6), .ref (ad 7)])), (ad 6, .inl (cI, 273, .inl (nF tr))), (ad 7, .inl (cI, 910, .inl (nF ro))), (ad 8, .inr (4, [.ref (ad 5), .ref (ad 9), .ref (ad 10), .ref (ad 11)])), (ad 9, .inl (cZ, 91, .inl (bF S))), (ad 10, .inl (cZ, 91, .inl (bF gr))), (ad 11, .inl (cI, 91, .inl (nF ol_1)))] → va_S A s.heap H locs → WG p l e wsX4_mostOnLine { frames := 2, cells := 0, slots := 0, locals := 47 } s m [.ref (ad 8)] below meth c H locs (CQ (S := (Nat → Nat)) D (fun (ol3 : Nat → Nat) => ∀ t, t < nn q → ol3 t = metq q S t) (fun (ol3 : Nat → Nat) => some (.int (nI (mxq (metq q S) (nn q))))) (fun (ol3 : Nat → Nat) => [(ad 0, .inr (1, [.int (nI q), .ref (ad 1), .ref (ad 2), .ref (ad 3), .ref (ad 4)])), (ad 1, .inl (cI, 81, .inl (nF sm))), (ad 2, .inl (cI, 81, .inl (nF pr))), (ad 3, .inl (cI, 9, .inl (nF op))), (ad 4, .inl (cI, 9, .inl (nF iv))), (ad 5, .inr (3, [.ref (ad 0), .int (nI (nn q)), .ref (ad 6), .ref (ad 7)])), (ad 6, .inl (cI, 273, .inl (nF tr))), (ad 7, .inl (cI, 910, .inl (nF ro))), (ad 8, .inr (4, [.ref (ad 5), .ref (ad 9), .ref (ad 10), .ref (ad 11)])), (ad 9, .inl (cZ, 91, .inl (bF S))), (ad 10, .inl (cZ, 91, .inl (bF gr))), (ad 11, .inl (cI, 91, .inl (nF ol3)))]) A) A 19 ls [] := by
    intro N19
    induction N19 with
    | zero => intro i x ls H locs hN; exact absurd hN (Nat.not_lt_zero _)
    | succ N19 ih19 =>
      intro i x ls H locs hN19 k_i k_x hl hP hD hS
      have hc : x ≤ nn q := by rw [k_x]; exact mxq_le.mpr (fun t _ => metq_le q S t)
      refine lv_iload_n hx hb dX4_mostOnLine_19 rfl (lv_at hl 2 rfl) ?_
      refine lv_aload_n hx hb dX4_mostOnLine_20 rfl (lv_at hl 0 rfl) ?_
      refine va_get (D := D) (ci := 4) (v := .ref (ad 5)) (C := RX4) (T := TX4) (N := 4) hx hb hts hiX4 hown hK hP 8 rfl rfl 0 (by decide) hf22 (fun _ h9 => h9) rfl dX4_mostOnLine_21 ?_
      refine va_getN (D := D) (ci := 3) (v := .int (nI (nn q))) (C := RX3) (T := TX3) (N := 4) hx hb hts hiX3 hown hK hP 5 rfl rfl 1 (by decide) hf32 (fun _ h9 => h9) rfl dX4_mostOnLine_24 ?_
      refine nv_icmp_ge (tgt := 47) hx hb (by omega) (by omega) dX4_mostOnLine_27 (by decide) (fun c27 => ?_) (fun c27 => ?_)
      · refine lv_iload_n hx hb dX4_mostOnLine_47 rfl (lv_at hl 1 rfl) ?_
        exact ctW_retI (v := (nI x)) ol_1 hx hb hr rfl dX4_mostOnLine_48 hlocks hS hP hD hu12 (by rw [k_x, show i = nn q by omega])
      · refine lv_iload_n hx hb dX4_mostOnLine_30 rfl (lv_at hl 1 rfl) ?_
        refine lv_aload_n hx hb dX4_mostOnLine_31 rfl (lv_at hl 0 rfl) ?_
        refine va_get (D := D) (ci := 4) (v := .ref (ad 11)) (C := RX4) (T := TX4) (N := 4) hx hb hts hiX4 hown hK hP 8 rfl rfl 3 (by decide) hf18 (fun _ h9 => h9) rfl dX4_mostOnLine_32 ?_
        refine lv_iload_n hx hb dX4_mostOnLine_35 rfl (lv_at hl 2 rfl) ?_
        refine nv_iald hx hb hK hP 11 0 rfl rfl (by omega) (by decide) dX4_mostOnLine_36 ?_
        refine nv_top (v' := .int (nI (metq q S i))) (congrArg (fun t => Value.int (nI t)) (hu12 i (by omega))) ?_
        have hm9 := metq_le q S i
        refine va_mmax hx hb (hml.trans hl.1.symm) hown (hts (.methodLink RX4 36 Lib.Math.max.name) (by decide +kernel)) (hts (.static Lib.Math.max.name) (by decide +kernel)) (hts (.initialized "java/lang/Math") (by decide +kernel)) (hts (.code Lib.Math.max.name Lib.Math.max.code 2 (some .int)) (by decide +kernel)) (Nat.le_of_ble_eq_true rfl) (Nat.le_of_ble_eq_true rfl) (Nat.zero_le _) (Nat.zero_le _) dX4_mostOnLine_37 ?_
        refine nv_top (congrArg Value.int (nI_max (by omega) (by omega))) ?_
        refine lv_istore_n (lv' := [(1, .int (nI (Nmax x (metq q S i)))), (0, .ref (ad 8)), (2, .int (nI i))]) hx hb dX4_mostOnLine_40 rfl hl (by decide) rfl (fun ls hl => ?_)
        refine lv_iinc (v := nI (i + 1)) (lv' := [(2, .int (nI (i + 1))), (1, .int (nI (Nmax x (metq q S i)))), (0, .ref (ad 8))]) hx hb dX4_mostOnLine_41 hl (k := 2) rfl (nI_inc i) (by decide) rfl (fun ls hl => ?_)
        refine lv_goto (tgt := 19) hx hb dX4_mostOnLine_44 (by decide) ?_
        exact ih19 (i + 1) (Nmax x (metq q S i)) ls _ _ (by omega) (by omega) (by rw [mxq, k_x]) (lv_sub hl [2, 1, 0] rfl) hP hD hS
  exact L19 (nn q - 0 + 1) 0 0 ls _ _ (by omega) (Nat.zero_le _) rfl (lv_sub hl [2, 1, 0] rfl) hP hD hS

set_option maxHeartbeats 4000000 in
set_option maxRecDepth 100000 in
theorem c_X4_isArc (l : Launch) (D : va_G) (cI cZ : ClassId) (ad : Nat → Nat) (q : Nat) (sm : Nat → Nat) (pr : Nat → Nat) (op : Nat → Nat) (iv : Nat → Nat) (hF : FOK q sm pr op iv) (tr : Nat → Nat) (ro : Nat → Nat) (hT : TOK q tr) (hR : ROK q ro) (S : Nat → Bool) (gr : Nat → Bool) (ol : Nat → Nat) : CtW (S := (Nat → Nat)) l yX4_isArc wsX4_isArc { frames := 3, cells := 0, slots := 0, locals := 69 } D (tyG cI cZ) [.ref (ad 8)] [(ad 0, .inr (1, [.int (nI q), .ref (ad 1), .ref (ad 2), .ref (ad 3), .ref (ad 4)])), (ad 1, .inl (cI, 81, .inl (nF sm))), (ad 2, .inl (cI, 81, .inl (nF pr))), (ad 3, .inl (cI, 9, .inl (nF op))), (ad 4, .inl (cI, 9, .inl (nF iv))), (ad 5, .inr (3, [.ref (ad 0), .int (nI (nn q)), .ref (ad 6), .ref (ad 7)])), (ad 6, .inl (cI, 273, .inl (nF tr))), (ad 7, .inl (cI, 910, .inl (nF ro))), (ad 8, .inr (4, [.ref (ad 5), .ref (ad 9), .ref (ad 10), .ref (ad 11)])), (ad 9, .inl (cZ, 91, .inl (bF S))), (ad 10, .inl (cZ, 91, .inl (bF gr))), (ad 11, .inl (cI, 91, .inl (nF ol)))] (fun (ol3 : Nat → Nat) => ∀ t, t < nn q → ol3 t = metq q S t) (fun (ol3 : Nat → Nat) => some (.int (nI (arcq q S).toNat))) (fun (ol3 : Nat → Nat) => [(ad 0, .inr (1, [.int (nI q), .ref (ad 1), .ref (ad 2), .ref (ad 3), .ref (ad 4)])), (ad 1, .inl (cI, 81, .inl (nF sm))), (ad 2, .inl (cI, 81, .inl (nF pr))), (ad 3, .inl (cI, 9, .inl (nF op))), (ad 4, .inl (cI, 9, .inl (nF iv))), (ad 5, .inr (3, [.ref (ad 0), .int (nI (nn q)), .ref (ad 6), .ref (ad 7)])), (ad 6, .inl (cI, 273, .inl (nF tr))), (ad 7, .inl (cI, 910, .inl (nF ro))), (ad 8, .inr (4, [.ref (ad 5), .ref (ad 9), .ref (ad 10), .ref (ad 11)])), (ad 9, .inl (cZ, 91, .inl (bF S))), (ad 10, .inl (cZ, 91, .inl (bF gr))), (ad 11, .inl (cI, 91, .inl (nF ol3)))]) := by
  intro sz; refine Met.ofW (cc := cX4_isArc) (maxL := 1) (ret := some .boolean) (by decide) rfl ?_
  intro p e s m args below meth c s₁ B hml hv
  obtain ⟨rfl, hsz, hP, hK, hD0, hN⟩ := hv
  have hx := B.exec
  have hb := B.bytes
  have hr := B.returns
  have hts := atoms_spec (ws := wsX4_isArc) B.pre
  have hown : s.vm.findClass RX4 = some m.cls := findClass_of_methodNamed B.named
  have hlocks := B.notSynchronized
  subst hsz
  have hD := hD0.self (sz := s.heap.size)
  generalize hAe : va_A [(ad 0, .inr (1, [.int (nI q), .ref (ad 1), .ref (ad 2), .ref (ad 3), .ref (ad 4)])), (ad 1, .inl (cI, 81, .inl (nF sm))), (ad 2, .inl (cI, 81, .inl (nF pr))), (ad 3, .inl (cI, 9, .inl (nF op))), (ad 4, .inl (cI, 9, .inl (nF iv))), (ad 5, .inr (3, [.ref (ad 0), .int (nI (nn q)), .ref (ad 6), .ref (ad 7)])), (ad 6, .inl (cI, 273, .inl (nF tr))), (ad 7, .inl (cI, 910, .inl (nF ro))), (ad 8, .inr (4, [.ref (ad 5), .ref (ad 9), .ref (ad 10), .ref (ad 11)])), (ad 9, .inl (cZ, 91, .inl (bF S))), (ad 10, .inl (cZ, 91, .inl (bF gr))), (ad 11, .inl (cI, 91, .inl (nF ol)))] s.heap.size = A at hD ⊢
  have hA : ∀ q : Nat, s.heap.size ≤ q → A q := fun q h => by rw [← hAe]; exact Or.inr h
  have hS : va_S A s.heap s.heap [] := va_S.rf
  have hP : va_P D vwCl [(ad 0, .inr (1, [.int (nI q), .ref (ad 1), .ref (ad 2), .ref (ad 3), .ref (ad 4)])), (ad 1, .inl (cI, 81, .inl (nF sm))), (ad 2, .inl (cI, 81, .inl (nF pr))), (ad 3, .inl (cI, 9, .inl (nF op))), (ad 4, .inl (cI, 9, .inl (nF iv))), (ad 5, .inr (3, [.ref (ad 0), .int (nI (nn q)), .ref (ad 6), .ref (ad 7)])), (ad 6, .inl (cI, 273, .inl (nF tr))), (ad 7, .inl (cI, 910, .inl (nF ro))), (ad 8, .inr (4, [.ref (ad 5), .ref (ad 9), .ref (ad 10), .ref (ad 11)])), (ad 9, .inl (cZ, 91, .inl (bF S))), (ad 10, .inl (cZ, 91, .inl (bF gr))), (ad 11, .inl (cI, 91, .inl (nF ol)))] s.heap := hP
  have hl := lv_entry ([.ref (ad 8)]) (n := 1) (Nat.le_of_ble_eq_true rfl)
  rw [lg_entry_eq]
  generalize (lg_sl ([.ref (ad 8)]) ++ List.replicate (1 - (lg_sl ([.ref (ad 8)])).length) Slot.unset).toArray = ls at hl ⊢
  have hl : lv_has ls 1 [(0, .ref (ad 8))] := hl
  have hq2 := qs_le hF.1
  have hn2 := nn_le hF.1
  refine lv_aload_n hx hb dX4_isArc_0 rfl (lv_at hl 0 rfl) ?_
  refine ctW_V (As := []) (rest := []) (wr := []) ⟨hx, hb, hml, hown, hts⟩ (c_X4_mostOnLine l D cI cZ ad q sm pr op iv hF tr ro hT hR S gr ol) (cwV 0 hts gX4_isArc_X4_mostOnLine rfl rfl rfl hdV_X4_mostOnLine ⟨Nat.le_of_ble_eq_true rfl, Nat.le_of_ble_eq_true rfl⟩) hK hN hP hD hS hA [0, 1, 2, 3, 4, 5, 6, 7, 8, 9, 10, 11] [] rfl rfl rfl (by decide) (by decide) (by decide) 8 4 rfl rfl rfl hl.1 rfl (Nat.le_of_ble_eq_true rfl) ⟨Nat.zero_le _, Nat.zero_le _⟩ dX4_isArc_1 (fun ol_1 H locs hu1 hP hD hS => ?_)
  try dsimp only at hu1
  have hP : va_P D vwCl [(ad 0, .inr (1, [.int (nI q), .ref (ad 1), .ref (ad 2), .ref (ad 3), .ref (ad 4)])), (ad 1, .inl (cI, 81, .inl (nF sm))), (ad 2, .inl (cI, 81, .inl (nF pr))), (ad 3, .inl (cI, 9, .inl (nF op))), (ad 4, .inl (cI, 9, .inl (nF iv))), (ad 5, .inr (3, [.ref (ad 0), .int (nI (nn q)), .ref (ad 6), .ref (ad 7)])), (ad 6, .inl (cI, 273, .inl (nF tr))), (ad 7, .inl (cI, 910, .inl (nF ro))), (ad 8, .inr (4, [.ref (ad 5), .ref (ad 9), .ref (ad 10), .ref (ad 11)])), (ad 9, .inl (cZ, 91, .inl (bF S))), (ad 10, .inl (cZ, 91, .inl (bF gr))), (ad 11, .inl (cI, 91, .inl (nF ol_1)))] H := hP.sub [0, 1, 2, 3, 4, 5, 6, 7, 8, 9, 10, 11] rfl
  have hD : va_D A [(ad 0, .inr (1, [.int (nI q), .ref (ad 1), .ref (ad 2), .ref (ad 3), .ref (ad 4)])), (ad 1, .inl (cI, 81, .inl (nF sm))), (ad 2, .inl (cI, 81, .inl (nF pr))), (ad 3, .inl (cI, 9, .inl (nF op))), (ad 4, .inl (cI, 9, .inl (nF iv))), (ad 5, .inr (3, [.ref (ad 0), .int (nI (nn q)), .ref (ad 6), .ref (ad 7)])), (ad 6, .inl (cI, 273, .inl (nF tr))), (ad 7, .inl (cI, 910, .inl (nF ro))), (ad 8, .inr (4, [.ref (ad 5), .ref (ad 9), .ref (ad 10), .ref (ad 11)])), (ad 9, .inl (cZ, 91, .inl (bF S))), (ad 10, .inl (cZ, 91, .inl (bF gr))), (ad 11, .inl (cI, 91, .inl (nF ol_1)))] := hD.sub [0, 1, 2, 3, 4, 5, 6, 7, 8, 9, 10, 11] (by decide) rfl
  refine W.eq (g2 := F0 m 4 ls [.int (nI (mxq (metq q S) (nn q)))]) rfl ?_
  have hh_2 : mxq (metq q S) (nn q) ≤ nn q := mxq_le.mpr (fun t _ => metq_le q S t)
  refine lv_iconst (v := nI 2) hx hb dX4_isArc_4 (by decide) ?_
  refine nv_icmp_gt (tgt := 12) hx hb (by omega) (by decide) dX4_isArc_5 (by decide) (fun c5 => ?_) (fun c5 => ?_)
  · refine lv_iconst (v := nI 0) hx hb dX4_isArc_12 (by decide) ?_
    exact ctW_retI (v := (nI 0)) ol_1 hx hb hr (nar_bool false) dX4_isArc_13 hlocks hS hP hD hu1 (by first | (rw [arc_mx, decide_eq_true c5]; rfl) | (rw [arc_mx, decide_eq_false (by omega)]; rfl))
  · refine lv_iconst (v := nI 1) hx hb dX4_isArc_8 (by decide) ?_
    refine lv_goto (tgt := 13) hx hb dX4_isArc_9 (by decide) ?_
    exact ctW_retI (v := (nI 1)) ol_1 hx hb hr (nar_bool true) dX4_isArc_13 hlocks hS hP hD hu1 (by first | (rw [arc_mx, decide_eq_true c5]; rfl) | (rw [arc_mx, decide_eq_false (by omega)]; rfl))

set_option maxHeartbeats 4000000 in
set_option maxRecDepth 100000 in
theorem c_X4_blocks (l : Launch) (D : va_G) (cI cZ : ClassId) (ad : Nat → Nat) (q : Nat) (sm : Nat → Nat) (pr : Nat → Nat) (op : Nat → Nat) (iv : Nat → Nat) (hF : FOK q sm pr op iv) (tr : Nat → Nat) (ro : Nat → Nat) (hT : TOK q tr) (hR : ROK q ro) (S : Nat → Bool) (gr : Nat → Bool) (ol : Nat → Nat) : CtW (S := (Nat → Nat)) l yX4_blocks wsX4_blocks { frames := 3, cells := 0, slots := 0, locals := 70 } D (tyG cI cZ) [.ref (ad 8)] [(ad 0, .inr (1, [.int (nI q), .ref (ad 1), .ref (ad 2), .ref (ad 3), .ref (ad 4)])), (ad 1, .inl (cI, 81, .inl (nF sm))), (ad 2, .inl (cI, 81, .inl (nF pr))), (ad 3, .inl (cI, 9, .inl (nF op))), (ad 4, .inl (cI, 9, .inl (nF iv))), (ad 5, .inr (3, [.ref (ad 0), .int (nI (nn q)), .ref (ad 6), .ref (ad 7)])), (ad 6, .inl (cI, 273, .inl (nF tr))), (ad 7, .inl (cI, 910, .inl (nF ro))), (ad 8, .inr (4, [.ref (ad 5), .ref (ad 9), .ref (ad 10), .ref (ad 11)])), (ad 9, .inl (cZ, 91, .inl (bF S))), (ad 10, .inl (cZ, 91, .inl (bF gr))), (ad 11, .inl (cI, 91, .inl (nF ol)))] (fun (ol3 : Nat → Nat) => ∀ t, t < nn q → ol3 t = metq q S t) (fun (ol3 : Nat → Nat) => some (.int (nI (blkq q S).toNat))) (fun (ol3 : Nat → Nat) => [(ad 0, .inr (1, [.int (nI q), .ref (ad 1), .ref (ad 2), .ref (ad 3), .ref (ad 4)])), (ad 1, .inl (cI, 81, .inl (nF sm))), (ad 2, .inl (cI, 81, .inl (nF pr))), (ad 3, .inl (cI, 9, .inl (nF op))), (ad 4, .inl (cI, 9, .inl (nF iv))), (ad 5, .inr (3, [.ref (ad 0), .int (nI (nn q)), .ref (ad 6), .ref (ad 7)])), (ad 6, .inl (cI, 273, .inl (nF tr))), (ad 7, .inl (cI, 910, .inl (nF ro))), (ad 8, .inr (4, [.ref (ad 5), .ref (ad 9), .ref (ad 10), .ref (ad 11)])), (ad 9, .inl (cZ, 91, .inl (bF S))), (ad 10, .inl (cZ, 91, .inl (bF gr))), (ad 11, .inl (cI, 91, .inl (nF ol3)))]) := by
  intro sz; refine Met.ofW (cc := cX4_blocks) (maxL := 1) (ret := some .boolean) (by decide) rfl ?_
  intro p e s m args below meth c s₁ B hml hv
  obtain ⟨rfl, hsz, hP, hK, hD0, hN⟩ := hv
  have hx := B.exec
  have hb := B.bytes
  have hr := B.returns
  have hts := atoms_spec (ws := wsX4_blocks) B.pre
  have hown : s.vm.findClass RX4 = some m.cls := findClass_of_methodNamed B.named
  have hlocks := B.notSynchronized
  subst hsz
  have hD := hD0.self (sz := s.heap.size)
  generalize hAe : va_A [(ad 0, .inr (1, [.int (nI q), .ref (ad 1), .ref (ad 2), .ref (ad 3), .ref (ad 4)])), (ad 1, .inl (cI, 81, .inl (nF sm))), (ad 2, .inl (cI, 81, .inl (nF pr))), (ad 3, .inl (cI, 9, .inl (nF op))), (ad 4, .inl (cI, 9, .inl (nF iv))), (ad 5, .inr (3, [.ref (ad 0), .int (nI (nn q)), .ref (ad 6), .ref (ad 7)])), (ad 6, .inl (cI, 273, .inl (nF tr))), (ad 7, .inl (cI, 910, .inl (nF ro))), (ad 8, .inr (4, [.ref (ad 5), .ref (ad 9), .ref (ad 10), .ref (ad 11)])), (ad 9, .inl (cZ, 91, .inl (bF S))), (ad 10, .inl (cZ, 91, .inl (bF gr))), (ad 11, .inl (cI, 91, .inl (nF ol)))] s.heap.size = A at hD ⊢
  have hA : ∀ q : Nat, s.heap.size ≤ q → A q := fun q h => by rw [← hAe]; exact Or.inr h
  have hS : va_S A s.heap s.heap [] := va_S.rf
  have hP : va_P D vwCl [(ad 0, .inr (1, [.int (nI q), .ref (ad 1), .ref (ad 2), .ref (ad 3), .ref (ad 4)])), (ad 1, .inl (cI, 81, .inl (nF sm))), (ad 2, .inl (cI, 81, .inl (nF pr))), (ad 3, .inl (cI, 9, .inl (nF op))), (ad 4, .inl (cI, 9, .inl (nF iv))), (ad 5, .inr (3, [.ref (ad 0), .int (nI (nn q)), .ref (ad 6), .ref (ad 7)])), (ad 6, .inl (cI, 273, .inl (nF tr))), (ad 7, .inl (cI, 910, .inl (nF ro))), (ad 8, .inr (4, [.ref (ad 5), .ref (ad 9), .ref (ad 10), .ref (ad 11)])), (ad 9, .inl (cZ, 91, .inl (bF S))), (ad 10, .inl (cZ, 91, .inl (bF gr))), (ad 11, .inl (cI, 91, .inl (nF ol)))] s.heap := hP
  have hl := lv_entry ([.ref (ad 8)]) (n := 1) (Nat.le_of_ble_eq_true rfl)
  rw [lg_entry_eq]
  generalize (lg_sl ([.ref (ad 8)]) ++ List.replicate (1 - (lg_sl ([.ref (ad 8)])).length) Slot.unset).toArray = ls at hl ⊢
  have hl : lv_has ls 1 [(0, .ref (ad 8))] := hl
  have hq2 := qs_le hF.1
  have hn2 := nn_le hF.1
  refine lv_aload_n hx hb dX4_blocks_0 rfl (lv_at hl 0 rfl) ?_
  refine lv_iconst (v := nI 0) hx hb dX4_blocks_1 (by decide) ?_
  refine ctW_V (As := [.int (nI 0)]) (rest := []) (wr := []) ⟨hx, hb, hml, hown, hts⟩ (c_X4_linesWith l D cI cZ ad q sm pr op iv hF tr ro hT hR S gr ol (nI 0)) (cwV 1 hts gX4_blocks_X4_linesWith rfl rfl rfl hdV_X4_linesWith ⟨Nat.le_of_ble_eq_true rfl, Nat.le_of_ble_eq_true rfl⟩) hK hN hP hD hS hA [0, 1, 2, 3, 4, 5, 6, 7, 8, 9, 10, 11] [] rfl rfl rfl (by decide) (by decide) (by decide) 8 4 rfl rfl rfl hl.1 rfl (Nat.le_of_ble_eq_true rfl) ⟨Nat.zero_le _, Nat.zero_le _⟩ dX4_blocks_2 (fun ol_1 H locs hu2 hP hD hS => ?_)
  try dsimp only at hu2
  have hP : va_P D vwCl [(ad 0, .inr (1, [.int (nI q), .ref (ad 1), .ref (ad 2), .ref (ad 3), .ref (ad 4)])), (ad 1, .inl (cI, 81, .inl (nF sm))), (ad 2, .inl (cI, 81, .inl (nF pr))), (ad 3, .inl (cI, 9, .inl (nF op))), (ad 4, .inl (cI, 9, .inl (nF iv))), (ad 5, .inr (3, [.ref (ad 0), .int (nI (nn q)), .ref (ad 6), .ref (ad 7)])), (ad 6, .inl (cI, 273, .inl (nF tr))), (ad 7, .inl (cI, 910, .inl (nF ro))), (ad 8, .inr (4, [.ref (ad 5), .ref (ad 9), .ref (ad 10), .ref (ad 11)])), (ad 9, .inl (cZ, 91, .inl (bF S))), (ad 10, .inl (cZ, 91, .inl (bF gr))), (ad 11, .inl (cI, 91, .inl (nF ol_1)))] H := hP.sub [0, 1, 2, 3, 4, 5, 6, 7, 8, 9, 10, 11] rfl
  have hD : va_D A [(ad 0, .inr (1, [.int (nI q), .ref (ad 1), .ref (ad 2), .ref (ad 3), .ref (ad 4)])), (ad 1, .inl (cI, 81, .inl (nF sm))), (ad 2, .inl (cI, 81, .inl (nF pr))), (ad 3, .inl (cI, 9, .inl (nF op))), (ad 4, .inl (cI, 9, .inl (nF iv))), (ad 5, .inr (3, [.ref (ad 0), .int (nI (nn q)), .ref (ad 6), .ref (ad 7)])), (ad 6, .inl (cI, 273, .inl (nF tr))), (ad 7, .inl (cI, 910, .inl (nF ro))), (ad 8, .inr (4, [.ref (ad 5), .ref (ad 9), .ref (ad 10), .ref (ad 11)])), (ad 9, .inl (cZ, 91, .inl (bF S))), (ad 10, .inl (cZ, 91, .inl (bF gr))), (ad 11, .inl (cI, 91, .inl (nF ol_1)))] := hD.sub [0, 1, 2, 3, 4, 5, 6, 7, 8, 9, 10, 11] (by decide) rfl
  refine W.eq (g2 := F0 m 5 ls [.int (nI (linq q S (nI 0)))]) rfl ?_
  have hh_2 : linq q S (nI 0) ≤ nn q := cnt_le _ _
  refine nv_if_ne (tgt := 12) hx hb (by omega) dX4_blocks_5 (by decide) (fun c5 => ?_) (fun c5 => ?_)
  · refine lv_iconst (v := nI 0) hx hb dX4_blocks_12 (by decide) ?_
    exact ctW_retI (v := (nI 0)) ol_1 hx hb hr (nar_bool false) dX4_blocks_13 hlocks hS hP hD hu2 (by first | (rw [blk_lin hF.1, decide_eq_true c5]; rfl) | (rw [blk_lin hF.1, decide_eq_false c5]; rfl))
  · refine lv_iconst (v := nI 1) hx hb dX4_blocks_8 (by decide) ?_
    refine lv_goto (tgt := 13) hx hb dX4_blocks_9 (by decide) ?_
    exact ctW_retI (v := (nI 1)) ol_1 hx hb hr (nar_bool true) dX4_blocks_13 hlocks hS hP hD hu2 (by first | (rw [blk_lin hF.1, decide_eq_true c5]; rfl) | (rw [blk_lin hF.1, decide_eq_false c5]; rfl))

set_option maxHeartbeats 4000000 in
set_option maxRecDepth 100000 in
theorem c_X4_spares (l : Launch) (D : va_G) (cI cZ : ClassId) (ad : Nat → Nat) (q : Nat) (sm : Nat → Nat) (pr : Nat → Nat) (op : Nat → Nat) (iv : Nat → Nat) (hF : FOK q sm pr op iv) (tr : Nat → Nat) (ro : Nat → Nat) (hT : TOK q tr) (hR : ROK q ro) (S : Nat → Bool) (gr : Nat → Bool) (ol : Nat → Nat) : CtW (S := (Nat → Nat)) l yX4_spares wsX4_spares { frames := 4, cells := 0, slots := 0, locals := 90 } D (tyG cI cZ) [.ref (ad 8)] [(ad 0, .inr (1, [.int (nI q), .ref (ad 1), .ref (ad 2), .ref (ad 3), .ref (ad 4)])), (ad 1, .inl (cI, 81, .inl (nF sm))), (ad 2, .inl (cI, 81, .inl (nF pr))), (ad 3, .inl (cI, 9, .inl (nF op))), (ad 4, .inl (cI, 9, .inl (nF iv))), (ad 5, .inr (3, [.ref (ad 0), .int (nI (nn q)), .ref (ad 6), .ref (ad 7)])), (ad 6, .inl (cI, 273, .inl (nF tr))), (ad 7, .inl (cI, 910, .inl (nF ro))), (ad 8, .inr (4, [.ref (ad 5), .ref (ad 9), .ref (ad 10), .ref (ad 11)])), (ad 9, .inl (cZ, 91, .inl (bF S))), (ad 10, .inl (cZ, 91, .inl (bF gr))), (ad 11, .inl (cI, 91, .inl (nF ol)))] (fun (ol3 : Nat → Nat) => ∀ t, t < nn q → ol3 t = metq q S t) (fun (ol3 : Nat → Nat) => some (.int (nI (spaq q S)))) (fun (ol3 : Nat → Nat) => [(ad 0, .inr (1, [.int (nI q), .ref (ad 1), .ref (ad 2), .ref (ad 3), .ref (ad 4)])), (ad 1, .inl (cI, 81, .inl (nF sm))), (ad 2, .inl (cI, 81, .inl (nF pr))), (ad 3, .inl (cI, 9, .inl (nF op))), (ad 4, .inl (cI, 9, .inl (nF iv))), (ad 5, .inr (3, [.ref (ad 0), .int (nI (nn q)), .ref (ad 6), .ref (ad 7)])), (ad 6, .inl (cI, 273, .inl (nF tr))), (ad 7, .inl (cI, 910, .inl (nF ro))), (ad 8, .inr (4, [.ref (ad 5), .ref (ad 9), .ref (ad 10), .ref (ad 11)])), (ad 9, .inl (cZ, 91, .inl (bF S))), (ad 10, .inl (cZ, 91, .inl (bF gr))), (ad 11, .inl (cI, 91, .inl (nF ol3)))]) := by
  intro sz; refine Met.ofW (cc := cX4_spares) (maxL := 3) (ret := some .int) (by decide) rfl ?_
  intro p e s m args below meth c s₁ B hml hv
  obtain ⟨rfl, hsz, hP, hK, hD0, hN⟩ := hv
  have hx := B.exec
  have hb := B.bytes
  have hr := B.returns
  have hts := atoms_spec (ws := wsX4_spares) B.pre
  have hown : s.vm.findClass RX4 = some m.cls := findClass_of_methodNamed B.named
  have hlocks := B.notSynchronized
  subst hsz
  have hD := hD0.self (sz := s.heap.size)
  generalize hAe : va_A [(ad 0, .inr (1, [.int (nI q), .ref (ad 1), .ref (ad 2), .ref (ad 3), .ref (ad 4)])), (ad 1, .inl (cI, 81, .inl (nF sm))), (ad 2, .inl (cI, 81, .inl (nF pr))), (ad 3, .inl (cI, 9, .inl (nF op))), (ad 4, .inl (cI, 9, .inl (nF iv))), (ad 5, .inr (3, [.ref (ad 0), .int (nI (nn q)), .ref (ad 6), .ref (ad 7)])), (ad 6, .inl (cI, 273, .inl (nF tr))), (ad 7, .inl (cI, 910, .inl (nF ro))), (ad 8, .inr (4, [.ref (ad 5), .ref (ad 9), .ref (ad 10), .ref (ad 11)])), (ad 9, .inl (cZ, 91, .inl (bF S))), (ad 10, .inl (cZ, 91, .inl (bF gr))), (ad 11, .inl (cI, 91, .inl (nF ol)))] s.heap.size = A at hD ⊢
  have hA : ∀ q : Nat, s.heap.size ≤ q → A q := fun q h => by rw [← hAe]; exact Or.inr h
  have hS : va_S A s.heap s.heap [] := va_S.rf
  have hP : va_P D vwCl [(ad 0, .inr (1, [.int (nI q), .ref (ad 1), .ref (ad 2), .ref (ad 3), .ref (ad 4)])), (ad 1, .inl (cI, 81, .inl (nF sm))), (ad 2, .inl (cI, 81, .inl (nF pr))), (ad 3, .inl (cI, 9, .inl (nF op))), (ad 4, .inl (cI, 9, .inl (nF iv))), (ad 5, .inr (3, [.ref (ad 0), .int (nI (nn q)), .ref (ad 6), .ref (ad 7)])), (ad 6, .inl (cI, 273, .inl (nF tr))), (ad 7, .inl (cI, 910, .inl (nF ro))), (ad 8, .inr (4, [.ref (ad 5), .ref (ad 9), .ref (ad 10), .ref (ad 11)])), (ad 9, .inl (cZ, 91, .inl (bF S))), (ad 10, .inl (cZ, 91, .inl (bF gr))), (ad 11, .inl (cI, 91, .inl (nF ol)))] s.heap := hP
  have hf9 := hts (.fieldLink RX4 9 "FinitePlanes$PointSet" "in" "[Z") (by decide +kernel)
  have hf18 := hts (.fieldLink RX4 18 "FinitePlanes$PointSet" "onLine" "[I") (by decide +kernel)
  have hf22 := hts (.fieldLink RX4 22 "FinitePlanes$PointSet" "plane" "LFinitePlanes$Plane;") (by decide +kernel)
  have hf32 := hN.use (w := .fieldLinkNest RX4 32 "FinitePlanes$Plane" "n" "I" "FinitePlanes") (by decide +kernel) (A := [.ref (ad 8)].toArray)
  have hf58 := hN.use (w := .fieldLinkNest RX4 58 "FinitePlanes$Plane" "field" "LFinitePlanes$Field;" "FinitePlanes") (by decide +kernel) (A := [.ref (ad 8)].toArray)
  have hf62 := hN.use (w := .fieldLinkNest RX4 62 "FinitePlanes$Field" "q" "I" "FinitePlanes") (by decide +kernel) (A := [.ref (ad 8)].toArray)
  have hiX1 : ∀ w ∈ u_ws RX1 TX1 5, w ∈ wsX4_spares := by decide +kernel
  have hiX3 : ∀ w ∈ u_ws RX3 TX3 4, w ∈ wsX4_spares := by decide +kernel
  have hiX4 : ∀ w ∈ u_ws RX4 TX4 4, w ∈ wsX4_spares := by decide +kernel
  have hl := lv_entry ([.ref (ad 8)]) (n := 3) (Nat.le_of_ble_eq_true rfl)
  rw [lg_entry_eq]
  generalize (lg_sl ([.ref (ad 8)]) ++ List.replicate (3 - (lg_sl ([.ref (ad 8)])).length) Slot.unset).toArray = ls at hl ⊢
  have hl : lv_has ls 3 [(0, .ref (ad 8))] := hl
  have hq2 := qs_le hF.1
  have hn2 := nn_le hF.1
  refine lv_aload_n hx hb dX4_spares_0 rfl (lv_at hl 0 rfl) ?_
  refine ctW_V (As := []) (rest := []) (wr := []) ⟨hx, hb, hml, hown, hts⟩ (c_X4_blocks l D cI cZ ad q sm pr op iv hF tr ro hT hR S gr ol) (cwV 0 hts gX4_spares_X4_blocks rfl rfl rfl hdV_X4_blocks ⟨Nat.le_of_ble_eq_true rfl, Nat.le_of_ble_eq_true rfl⟩) hK hN hP hD hS hA [0, 1, 2, 3, 4, 5, 6, 7, 8, 9, 10, 11] [] rfl rfl rfl (by decide) (by decide) (by decide) 8 4 rfl rfl rfl hl.1 rfl (Nat.le_of_ble_eq_true rfl) ⟨Nat.zero_le _, Nat.zero_le _⟩ dX4_spares_1 (fun ol_1 H locs hu1 hP hD hS => ?_)
  try dsimp only at hu1
  have hP : va_P D vwCl [(ad 0, .inr (1, [.int (nI q), .ref (ad 1), .ref (ad 2), .ref (ad 3), .ref (ad 4)])), (ad 1, .inl (cI, 81, .inl (nF sm))), (ad 2, .inl (cI, 81, .inl (nF pr))), (ad 3, .inl (cI, 9, .inl (nF op))), (ad 4, .inl (cI, 9, .inl (nF iv))), (ad 5, .inr (3, [.ref (ad 0), .int (nI (nn q)), .ref (ad 6), .ref (ad 7)])), (ad 6, .inl (cI, 273, .inl (nF tr))), (ad 7, .inl (cI, 910, .inl (nF ro))), (ad 8, .inr (4, [.ref (ad 5), .ref (ad 9), .ref (ad 10), .ref (ad 11)])), (ad 9, .inl (cZ, 91, .inl (bF S))), (ad 10, .inl (cZ, 91, .inl (bF gr))), (ad 11, .inl (cI, 91, .inl (nF ol_1)))] H := hP.sub [0, 1, 2, 3, 4, 5, 6, 7, 8, 9, 10, 11] rfl
  have hD : va_D A [(ad 0, .inr (1, [.int (nI q), .ref (ad 1), .ref (ad 2), .ref (ad 3), .ref (ad 4)])), (ad 1, .inl (cI, 81, .inl (nF sm))), (ad 2, .inl (cI, 81, .inl (nF pr))), (ad 3, .inl (cI, 9, .inl (nF op))), (ad 4, .inl (cI, 9, .inl (nF iv))), (ad 5, .inr (3, [.ref (ad 0), .int (nI (nn q)), .ref (ad 6), .ref (ad 7)])), (ad 6, .inl (cI, 273, .inl (nF tr))), (ad 7, .inl (cI, 910, .inl (nF ro))), (ad 8, .inr (4, [.ref (ad 5), .ref (ad 9), .ref (ad 10), .ref (ad 11)])), (ad 9, .inl (cZ, 91, .inl (bF S))), (ad 10, .inl (cZ, 91, .inl (bF gr))), (ad 11, .inl (cI, 91, .inl (nF ol_1)))] := hD.sub [0, 1, 2, 3, 4, 5, 6, 7, 8, 9, 10, 11] (by decide) rfl
  refine W.eq (g2 := F0 m 4 ls [.int (nI (blkq q S).toNat)]) rfl ?_
  refine nv_ifb_ne (tgt := 9) hx hb dX4_spares_4 (by decide) (fun c4 => ?_) (fun c4 => ?_)
  · refine lv_iconst (v := nI 0) hx hb dX4_spares_9 (by decide) ?_
    refine lv_istore_n (lv' := [(1, .int (nI 0)), (0, .ref (ad 8))]) hx hb dX4_spares_10 rfl hl (by decide) rfl (fun ls hl => ?_)
    refine lv_iconst (v := nI 0) hx hb dX4_spares_11 (by decide) ?_
    refine lv_istore_n (lv' := [(2, .int (nI 0)), (1, .int (nI 0)), (0, .ref (ad 8))]) hx hb dX4_spares_12 rfl hl (by decide) rfl (fun ls hl => ?_)
    have L13 : ∀ (N13 : Nat) (i : Nat) (x : Nat) (ls : Array Slot) (H : Heap) (locs : List Loc), nn q - i < N13 → (i ≤ nn q) → (x = cnt (fun t => S t && decide (secq q (metq q S) t = q + 1)) i) → lv_has ls 3 [(0, .ref (ad 8)), (1, .int (nI x)), (2, .int (nI i))] → va_P D vwCl [(ad 0, .inr (1, [.int (nI q), .ref (ad 1), .ref (ad 2), .ref (ad 3), .ref (ad 4)])), (ad 1, .inl (cI, 81, .inl (nF sm))), (ad 2, .inl (cI, 81, .inl (nF pr))), (ad 3, .inl (cI, 9, .inl (nF op))), (ad 4, .inl (cI, 9, .inl (nF iv))), (ad 5, .inr (3, [.ref (ad 0), .int (nI (nn q)), .ref (ad 6), .ref (ad 7)])), (ad 6, .inl (cI, 273, .inl (nF tr))), (ad 7, .inl (cI, 910, .inl (nF ro))), (ad 8, .inr (4, [.ref (ad 5), .ref (ad 9), .ref (ad 10), .ref (ad 11)])), (ad 9, .inl (cZ, 91, .inl (bF S))), (ad 10, .inl (cZ, 91, .inl (bF gr))), (ad 11, .inl (cI, 91, .inl (nF ol_1)))] H → va_D A [(ad 0, .inr (1, [.int (nI q), .ref (ad 1), .ref (ad 2), .ref (ad 3), .ref (ad 4)])), (ad 1, .inl (cI, 81, .inl (nF sm))), (ad 2, .inl (cI, 81, .inl (nF pr))), (ad 3, .inl (cI, 9, .inl (nF op))), (ad 4, .inl (cI, 9, .inl (nF iv))), (ad 5, .inr (3, [.ref (ad 0), .int (nI (nn q)), .ref (ad 6), .ref (ad 7)])), (ad 6, .inl (cI, 273, .inl (nF tr))), (ad 7, .inl (cI, 910, .inl (nF ro))), (ad 8, .inr (4, [.ref (ad 5), .ref (ad 9), .ref (ad 10), .ref (ad 11)])), (ad 9, .inl (cZ, 91, .inl (bF S))), (ad 10, .inl (cZ, 91, .inl (bF gr))), (ad 11, .inl (cI, 91, .inl (nF ol_1)))] → va_S A s.heap H locs → WG p l e wsX4_spares { frames := 4, cells := 0, slots := 0, locals := 90 } s m [.ref (ad 8)] below meth c H locs (CQ (S := (Nat → Nat)) D (fun (ol3 : Nat → Nat) => ∀ t, t < nn q → ol3 t = metq q S t) (fun (ol3 : Nat → Nat) => some (.int (nI (spaq q S)))) (fun (ol3 : Nat → Nat) => [(ad 0, .inr (1, [.int (nI q), .ref (ad 1), .ref (ad 2), .ref (ad 3), .ref (ad 4)])), (ad 1, .inl (cI, 81, .inl (nF sm))), (ad 2, .inl (cI, 81, .inl (nF pr))), (ad 3, .inl (cI, 9, .inl (nF op))), (ad 4, .inl (cI, 9, .inl (nF iv))), (ad 5, .inr (3, [.ref (ad 0), .int (nI (nn q)), .ref (ad 6), .ref (ad 7)])), (ad 6, .inl (cI, 273, .inl (nF tr))), (ad 7, .inl (cI, 910, .inl (nF ro))), (ad 8, .inr (4, [.ref (ad 5), .ref (ad 9), .ref (ad 10), .ref (ad 11)])), (ad 9, .inl (cZ, 91, .inl (bF S))), (ad 10, .inl (cZ, 91, .inl (bF gr))), (ad 11, .inl (cI, 91, .inl (nF ol3)))]) A) A 13 ls [] := by
      intro N13
      induction N13 with
      | zero => intro i x ls H locs hN; exact absurd hN (Nat.not_lt_zero _)
      | succ N13 ih13 =>
        intro i x ls H locs hN13 k_i k_x hl hP hD hS
        have hc := cnt_le (fun t => S t && decide (secq q (metq q S) t = q + 1)) i
        refine lv_iload_n hx hb dX4_spares_13 rfl (lv_at hl 2 rfl) ?_
        refine lv_aload_n hx hb dX4_spares_14 rfl (lv_at hl 0 rfl) ?_
        refine va_get (D := D) (ci := 4) (v := .ref (ad 5)) (C := RX4) (T := TX4) (N := 4) hx hb hts hiX4 hown hK hP 8 rfl rfl 0 (by decide) hf22 (fun _ h9 => h9) rfl dX4_spares_15 ?_
        refine va_getN (D := D) (ci := 3) (v := .int (nI (nn q))) (C := RX3) (T := TX3) (N := 4) hx hb hts hiX3 hown hK hP 5 rfl rfl 1 (by decide) hf32 (fun _ h9 => h9) rfl dX4_spares_18 ?_
        refine nv_icmp_ge (tgt := 69) hx hb (by omega) (by omega) dX4_spares_21 (by decide) (fun c21 => ?_) (fun c21 => ?_)
        · refine lv_iload_n hx hb dX4_spares_69 rfl (lv_at hl 1 rfl) ?_
          exact ctW_retI (v := (nI x)) ol_1 hx hb hr rfl dX4_spares_70 hlocks hS hP hD hu1 (by rw [spaq, if_pos c4, k_x, show i = nn q by omega])
        · refine lv_aload_n hx hb dX4_spares_24 rfl (lv_at hl 0 rfl) ?_
          refine va_get (D := D) (ci := 4) (v := .ref (ad 9)) (C := RX4) (T := TX4) (N := 4) hx hb hts hiX4 hown hK hP 8 rfl rfl 1 (by decide) hf9 (fun _ h9 => h9) rfl dX4_spares_25 ?_
          refine lv_iload_n hx hb dX4_spares_28 rfl (lv_at hl 2 rfl) ?_
          refine nv_zald hx hb hK hP 9 1 rfl rfl (by omega) (by decide) dX4_spares_29 ?_
          refine nv_ifb_eq (tgt := 63) hx hb dX4_spares_30 (by decide) (fun c30 => ?_) (fun c30 => ?_)
          · refine lv_iinc (v := nI (i + 1)) (lv' := [(2, .int (nI (i + 1))), (0, .ref (ad 8)), (1, .int (nI x))]) hx hb dX4_spares_63 hl (k := 2) rfl (nI_inc i) (by decide) rfl (fun ls hl => ?_)
            refine lv_goto (tgt := 13) hx hb dX4_spares_66 (by decide) ?_
            exact ih13 (i + 1) x ls _ _ (by omega) (by omega) (by rw [cnt, c30, k_x]; rfl) (lv_sub hl [1, 2, 0] rfl) hP hD hS
          · refine lv_aload_n hx hb dX4_spares_33 rfl (lv_at hl 0 rfl) ?_
            refine va_get (D := D) (ci := 4) (v := .ref (ad 5)) (C := RX4) (T := TX4) (N := 4) hx hb hts hiX4 hown hK hP 8 rfl rfl 0 (by decide) hf22 (fun _ h9 => h9) rfl dX4_spares_34 ?_
            refine lv_iload_n hx hb dX4_spares_37 rfl (lv_at hl 2 rfl) ?_
            refine lv_aload_n hx hb dX4_spares_38 rfl (lv_at hl 0 rfl) ?_
            refine va_get (D := D) (ci := 4) (v := .ref (ad 11)) (C := RX4) (T := TX4) (N := 4) hx hb hts hiX4 hown hK hP 8 rfl rfl 3 (by decide) hf18 (fun _ h9 => h9) rfl dX4_spares_39 ?_
            refine ctR_V (As := [.int (nI i), .ref (ad 11)]) (rest := []) (r := .int (nI (secq q ol_1 i))) ⟨hx, hb, hml, hown, hts⟩ (c_X3_secants l D cI cZ ad q sm pr op iv hF tr ro hT hR (ad 11) ol_1 i (by omega) (fun j hj => by rw [hu1 j hj]; have := metq_le q S j; omega)) (cwV 2 hts gX4_spares_X3_secants rfl rfl rfl hdV_X3_secants ⟨Nat.le_of_ble_eq_true rfl, Nat.le_of_ble_eq_true rfl⟩) hK hN hP [0, 1, 2, 3, 4, 5, 6, 7, 11] rfl 5 3 rfl rfl rfl hl.1 rfl (Nat.le_of_ble_eq_true rfl) ⟨Nat.zero_le _, Nat.zero_le _⟩ dX4_spares_42 ?_
            have hh_2 : secq q ol_1 i ≤ q + 1 := cnt_le _ _
            refine nv_top (v' := .int (nI (secq q (metq q S) i))) (congrArg (fun t => Value.int (nI t)) (secq_congr hF.1 (by omega) hu1)) ?_
            have hs9 : secq q (metq q S) i ≤ q + 1 := cnt_le _ _
            refine lv_aload_n hx hb dX4_spares_45 rfl (lv_at hl 0 rfl) ?_
            refine va_get (D := D) (ci := 4) (v := .ref (ad 5)) (C := RX4) (T := TX4) (N := 4) hx hb hts hiX4 hown hK hP 8 rfl rfl 0 (by decide) hf22 (fun _ h9 => h9) rfl dX4_spares_46 ?_
            refine va_getN (D := D) (ci := 3) (v := .ref (ad 0)) (C := RX3) (T := TX3) (N := 4) hx hb hts hiX3 hown hK hP 5 rfl rfl 0 (by decide) hf58 (fun _ h9 => h9) rfl dX4_spares_49 ?_
            refine va_getN (D := D) (ci := 1) (v := .int (nI q)) (C := RX1) (T := TX1) (N := 5) hx hb hts hiX1 hown hK hP 0 rfl rfl 0 (by decide) hf62 (fun _ h9 => h9) rfl dX4_spares_52 ?_
            refine lv_iconst (v := nI 1) hx hb dX4_spares_55 (by decide) ?_
            refine nv_addE (r := q + 1) hx hb rfl dX4_spares_56 ?_
            refine nv_icmp_ne (tgt := 63) hx hb (by omega) (by omega) dX4_spares_57 (by decide) (fun c57 => ?_) (fun c57 => ?_)
            · refine lv_iinc (v := nI (i + 1)) (lv' := [(2, .int (nI (i + 1))), (0, .ref (ad 8)), (1, .int (nI x))]) hx hb dX4_spares_63 hl (k := 2) rfl (nI_inc i) (by decide) rfl (fun ls hl => ?_)
              refine lv_goto (tgt := 13) hx hb dX4_spares_66 (by decide) ?_
              exact ih13 (i + 1) x ls _ _ (by omega) (by omega) (by rw [cnt, decide_eq_false c57, Bool.and_false, k_x]; rfl) (lv_sub hl [1, 2, 0] rfl) hP hD hS
            · refine lv_iinc (v := nI (x + 1)) (lv' := [(1, .int (nI (x + 1))), (0, .ref (ad 8)), (2, .int (nI i))]) hx hb dX4_spares_60 hl (k := 1) rfl (nI_inc x) (by decide) rfl (fun ls hl => ?_)
              refine lv_iinc (v := nI (i + 1)) (lv' := [(2, .int (nI (i + 1))), (1, .int (nI (x + 1))), (0, .ref (ad 8))]) hx hb dX4_spares_63 hl (k := 2) rfl (nI_inc i) (by decide) rfl (fun ls hl => ?_)
              refine lv_goto (tgt := 13) hx hb dX4_spares_66 (by decide) ?_
              exact ih13 (i + 1) (x + 1) ls _ _ (by omega) (by omega) (by rw [cnt, c30, decide_eq_true c57, k_x]; rfl) (lv_sub hl [2, 1, 0] rfl) hP hD hS
    exact L13 (nn q - 0 + 1) 0 0 ls _ _ (by omega) (Nat.zero_le _) rfl (lv_sub hl [2, 1, 0] rfl) hP hD hS
  · refine lv_iconst (v := nI 0) hx hb dX4_spares_7 (by decide) ?_
    exact ctW_retI (v := (nI 0)) ol_1 hx hb hr rfl dX4_spares_8 hlocks hS hP hD hu1 (by rw [spaq, c4]; rfl)

set_option maxHeartbeats 4000000 in
set_option maxRecDepth 100000 in
theorem c_X4_arcNewcomers (l : Launch) (D : va_G) (cI cZ : ClassId) (ad : Nat → Nat) (q : Nat) (sm : Nat → Nat) (pr : Nat → Nat) (op : Nat → Nat) (iv : Nat → Nat) (hF : FOK q sm pr op iv) (tr : Nat → Nat) (ro : Nat → Nat) (hT : TOK q tr) (hR : ROK q ro) (S : Nat → Bool) (gr : Nat → Bool) (ol : Nat → Nat) : CtW (S := (Nat → Nat)) l yX4_arcNewcomers wsX4_arcNewcomers { frames := 4, cells := 0, slots := 0, locals := 89 } D (tyG cI cZ) [.ref (ad 8)] [(ad 0, .inr (1, [.int (nI q), .ref (ad 1), .ref (ad 2), .ref (ad 3), .ref (ad 4)])), (ad 1, .inl (cI, 81, .inl (nF sm))), (ad 2, .inl (cI, 81, .inl (nF pr))), (ad 3, .inl (cI, 9, .inl (nF op))), (ad 4, .inl (cI, 9, .inl (nF iv))), (ad 5, .inr (3, [.ref (ad 0), .int (nI (nn q)), .ref (ad 6), .ref (ad 7)])), (ad 6, .inl (cI, 273, .inl (nF tr))), (ad 7, .inl (cI, 910, .inl (nF ro))), (ad 8, .inr (4, [.ref (ad 5), .ref (ad 9), .ref (ad 10), .ref (ad 11)])), (ad 9, .inl (cZ, 91, .inl (bF S))), (ad 10, .inl (cZ, 91, .inl (bF gr))), (ad 11, .inl (cI, 91, .inl (nF ol)))] (fun (ol3 : Nat → Nat) => ∀ t, t < nn q → ol3 t = metq q S t) (fun (ol3 : Nat → Nat) => some (.int (nI (newq q S)))) (fun (ol3 : Nat → Nat) => [(ad 0, .inr (1, [.int (nI q), .ref (ad 1), .ref (ad 2), .ref (ad 3), .ref (ad 4)])), (ad 1, .inl (cI, 81, .inl (nF sm))), (ad 2, .inl (cI, 81, .inl (nF pr))), (ad 3, .inl (cI, 9, .inl (nF op))), (ad 4, .inl (cI, 9, .inl (nF iv))), (ad 5, .inr (3, [.ref (ad 0), .int (nI (nn q)), .ref (ad 6), .ref (ad 7)])), (ad 6, .inl (cI, 273, .inl (nF tr))), (ad 7, .inl (cI, 910, .inl (nF ro))), (ad 8, .inr (4, [.ref (ad 5), .ref (ad 9), .ref (ad 10), .ref (ad 11)])), (ad 9, .inl (cZ, 91, .inl (bF S))), (ad 10, .inl (cZ, 91, .inl (bF gr))), (ad 11, .inl (cI, 91, .inl (nF ol3)))]) := by
  intro sz; refine Met.ofW (cc := cX4_arcNewcomers) (maxL := 3) (ret := some .int) (by decide) rfl ?_
  intro p e s m args below meth c s₁ B hml hv
  obtain ⟨rfl, hsz, hP, hK, hD0, hN⟩ := hv
  have hx := B.exec
  have hb := B.bytes
  have hr := B.returns
  have hts := atoms_spec (ws := wsX4_arcNewcomers) B.pre
  have hown : s.vm.findClass RX4 = some m.cls := findClass_of_methodNamed B.named
  have hlocks := B.notSynchronized
  subst hsz
  have hD := hD0.self (sz := s.heap.size)
  generalize hAe : va_A [(ad 0, .inr (1, [.int (nI q), .ref (ad 1), .ref (ad 2), .ref (ad 3), .ref (ad 4)])), (ad 1, .inl (cI, 81, .inl (nF sm))), (ad 2, .inl (cI, 81, .inl (nF pr))), (ad 3, .inl (cI, 9, .inl (nF op))), (ad 4, .inl (cI, 9, .inl (nF iv))), (ad 5, .inr (3, [.ref (ad 0), .int (nI (nn q)), .ref (ad 6), .ref (ad 7)])), (ad 6, .inl (cI, 273, .inl (nF tr))), (ad 7, .inl (cI, 910, .inl (nF ro))), (ad 8, .inr (4, [.ref (ad 5), .ref (ad 9), .ref (ad 10), .ref (ad 11)])), (ad 9, .inl (cZ, 91, .inl (bF S))), (ad 10, .inl (cZ, 91, .inl (bF gr))), (ad 11, .inl (cI, 91, .inl (nF ol)))] s.heap.size = A at hD ⊢
  have hA : ∀ q : Nat, s.heap.size ≤ q → A q := fun q h => by rw [← hAe]; exact Or.inr h
  have hS : va_S A s.heap s.heap [] := va_S.rf
  have hP : va_P D vwCl [(ad 0, .inr (1, [.int (nI q), .ref (ad 1), .ref (ad 2), .ref (ad 3), .ref (ad 4)])), (ad 1, .inl (cI, 81, .inl (nF sm))), (ad 2, .inl (cI, 81, .inl (nF pr))), (ad 3, .inl (cI, 9, .inl (nF op))), (ad 4, .inl (cI, 9, .inl (nF iv))), (ad 5, .inr (3, [.ref (ad 0), .int (nI (nn q)), .ref (ad 6), .ref (ad 7)])), (ad 6, .inl (cI, 273, .inl (nF tr))), (ad 7, .inl (cI, 910, .inl (nF ro))), (ad 8, .inr (4, [.ref (ad 5), .ref (ad 9), .ref (ad 10), .ref (ad 11)])), (ad 9, .inl (cZ, 91, .inl (bF S))), (ad 10, .inl (cZ, 91, .inl (bF gr))), (ad 11, .inl (cI, 91, .inl (nF ol)))] s.heap := hP
  have hf9 := hts (.fieldLink RX4 9 "FinitePlanes$PointSet" "in" "[Z") (by decide +kernel)
  have hf18 := hts (.fieldLink RX4 18 "FinitePlanes$PointSet" "onLine" "[I") (by decide +kernel)
  have hf22 := hts (.fieldLink RX4 22 "FinitePlanes$PointSet" "plane" "LFinitePlanes$Plane;") (by decide +kernel)
  have hf32 := hN.use (w := .fieldLinkNest RX4 32 "FinitePlanes$Plane" "n" "I" "FinitePlanes") (by decide +kernel) (A := [.ref (ad 8)].toArray)
  have hiX3 : ∀ w ∈ u_ws RX3 TX3 4, w ∈ wsX4_arcNewcomers := by decide +kernel
  have hiX4 : ∀ w ∈ u_ws RX4 TX4 4, w ∈ wsX4_arcNewcomers := by decide +kernel
  have hl := lv_entry ([.ref (ad 8)]) (n := 3) (Nat.le_of_ble_eq_true rfl)
  rw [lg_entry_eq]
  generalize (lg_sl ([.ref (ad 8)]) ++ List.replicate (3 - (lg_sl ([.ref (ad 8)])).length) Slot.unset).toArray = ls at hl ⊢
  have hl : lv_has ls 3 [(0, .ref (ad 8))] := hl
  have hq2 := qs_le hF.1
  have hn2 := nn_le hF.1
  refine lv_aload_n hx hb dX4_arcNewcomers_0 rfl (lv_at hl 0 rfl) ?_
  refine ctW_V (As := []) (rest := []) (wr := []) ⟨hx, hb, hml, hown, hts⟩ (c_X4_isArc l D cI cZ ad q sm pr op iv hF tr ro hT hR S gr ol) (cwV 0 hts gX4_arcNewcomers_X4_isArc rfl rfl rfl hdV_X4_isArc ⟨Nat.le_of_ble_eq_true rfl, Nat.le_of_ble_eq_true rfl⟩) hK hN hP hD hS hA [0, 1, 2, 3, 4, 5, 6, 7, 8, 9, 10, 11] [] rfl rfl rfl (by decide) (by decide) (by decide) 8 4 rfl rfl rfl hl.1 rfl (Nat.le_of_ble_eq_true rfl) ⟨Nat.zero_le _, Nat.zero_le _⟩ dX4_arcNewcomers_1 (fun ol_1 H locs hu1 hP hD hS => ?_)
  try dsimp only at hu1
  have hP : va_P D vwCl [(ad 0, .inr (1, [.int (nI q), .ref (ad 1), .ref (ad 2), .ref (ad 3), .ref (ad 4)])), (ad 1, .inl (cI, 81, .inl (nF sm))), (ad 2, .inl (cI, 81, .inl (nF pr))), (ad 3, .inl (cI, 9, .inl (nF op))), (ad 4, .inl (cI, 9, .inl (nF iv))), (ad 5, .inr (3, [.ref (ad 0), .int (nI (nn q)), .ref (ad 6), .ref (ad 7)])), (ad 6, .inl (cI, 273, .inl (nF tr))), (ad 7, .inl (cI, 910, .inl (nF ro))), (ad 8, .inr (4, [.ref (ad 5), .ref (ad 9), .ref (ad 10), .ref (ad 11)])), (ad 9, .inl (cZ, 91, .inl (bF S))), (ad 10, .inl (cZ, 91, .inl (bF gr))), (ad 11, .inl (cI, 91, .inl (nF ol_1)))] H := hP.sub [0, 1, 2, 3, 4, 5, 6, 7, 8, 9, 10, 11] rfl
  have hD : va_D A [(ad 0, .inr (1, [.int (nI q), .ref (ad 1), .ref (ad 2), .ref (ad 3), .ref (ad 4)])), (ad 1, .inl (cI, 81, .inl (nF sm))), (ad 2, .inl (cI, 81, .inl (nF pr))), (ad 3, .inl (cI, 9, .inl (nF op))), (ad 4, .inl (cI, 9, .inl (nF iv))), (ad 5, .inr (3, [.ref (ad 0), .int (nI (nn q)), .ref (ad 6), .ref (ad 7)])), (ad 6, .inl (cI, 273, .inl (nF tr))), (ad 7, .inl (cI, 910, .inl (nF ro))), (ad 8, .inr (4, [.ref (ad 5), .ref (ad 9), .ref (ad 10), .ref (ad 11)])), (ad 9, .inl (cZ, 91, .inl (bF S))), (ad 10, .inl (cZ, 91, .inl (bF gr))), (ad 11, .inl (cI, 91, .inl (nF ol_1)))] := hD.sub [0, 1, 2, 3, 4, 5, 6, 7, 8, 9, 10, 11] (by decide) rfl
  refine W.eq (g2 := F0 m 4 ls [.int (nI (arcq q S).toNat)]) rfl ?_
  refine nv_ifb_ne (tgt := 9) hx hb dX4_arcNewcomers_4 (by decide) (fun c4 => ?_) (fun c4 => ?_)
  · refine lv_iconst (v := nI 0) hx hb dX4_arcNewcomers_9 (by decide) ?_
    refine lv_istore_n (lv' := [(1, .int (nI 0)), (0, .ref (ad 8))]) hx hb dX4_arcNewcomers_10 rfl hl (by decide) rfl (fun ls hl => ?_)
    refine lv_iconst (v := nI 0) hx hb dX4_arcNewcomers_11 (by decide) ?_
    refine lv_istore_n (lv' := [(2, .int (nI 0)), (1, .int (nI 0)), (0, .ref (ad 8))]) hx hb dX4_arcNewcomers_12 rfl hl (by decide) rfl (fun ls hl => ?_)
    have L13 : ∀ (N13 : Nat) (i : Nat) (x : Nat) (ls : Array Slot) (H : Heap) (locs : List Loc), nn q - i < N13 → (i ≤ nn q) → (x = cnt (fun t => !S t && decide (secq q (metq q S) t = 0)) i) → lv_has ls 3 [(0, .ref (ad 8)), (1, .int (nI x)), (2, .int (nI i))] → va_P D vwCl [(ad 0, .inr (1, [.int (nI q), .ref (ad 1), .ref (ad 2), .ref (ad 3), .ref (ad 4)])), (ad 1, .inl (cI, 81, .inl (nF sm))), (ad 2, .inl (cI, 81, .inl (nF pr))), (ad 3, .inl (cI, 9, .inl (nF op))), (ad 4, .inl (cI, 9, .inl (nF iv))), (ad 5, .inr (3, [.ref (ad 0), .int (nI (nn q)), .ref (ad 6), .ref (ad 7)])), (ad 6, .inl (cI, 273, .inl (nF tr))), (ad 7, .inl (cI, 910, .inl (nF ro))), (ad 8, .inr (4, [.ref (ad 5), .ref (ad 9), .ref (ad 10), .ref (ad 11)])), (ad 9, .inl (cZ, 91, .inl (bF S))), (ad 10, .inl (cZ, 91, .inl (bF gr))), (ad 11, .inl (cI, 91, .inl (nF ol_1)))] H → va_D A [(ad 0, .inr (1, [.int (nI q), .ref (ad 1), .ref (ad 2), .ref (ad 3), .ref (ad 4)])), (ad 1, .inl (cI, 81, .inl (nF sm))), (ad 2, .inl (cI, 81, .inl (nF pr))), (ad 3, .inl (cI, 9, .inl (nF op))), (ad 4, .inl (cI, 9, .inl (nF iv))), (ad 5, .inr (3, [.ref (ad 0), .int (nI (nn q)), .ref (ad 6), .ref (ad 7)])), (ad 6, .inl (cI, 273, .inl (nF tr))), (ad 7, .inl (cI, 910, .inl (nF ro))), (ad 8, .inr (4, [.ref (ad 5), .ref (ad 9), .ref (ad 10), .ref (ad 11)])), (ad 9, .inl (cZ, 91, .inl (bF S))), (ad 10, .inl (cZ, 91, .inl (bF gr))), (ad 11, .inl (cI, 91, .inl (nF ol_1)))] → va_S A s.heap H locs → WG p l e wsX4_arcNewcomers { frames := 4, cells := 0, slots := 0, locals := 89 } s m [.ref (ad 8)] below meth c H locs (CQ (S := (Nat → Nat)) D (fun (ol3 : Nat → Nat) => ∀ t, t < nn q → ol3 t = metq q S t) (fun (ol3 : Nat → Nat) => some (.int (nI (newq q S)))) (fun (ol3 : Nat → Nat) => [(ad 0, .inr (1, [.int (nI q), .ref (ad 1), .ref (ad 2), .ref (ad 3), .ref (ad 4)])), (ad 1, .inl (cI, 81, .inl (nF sm))), (ad 2, .inl (cI, 81, .inl (nF pr))), (ad 3, .inl (cI, 9, .inl (nF op))), (ad 4, .inl (cI, 9, .inl (nF iv))), (ad 5, .inr (3, [.ref (ad 0), .int (nI (nn q)), .ref (ad 6), .ref (ad 7)])), (ad 6, .inl (cI, 273, .inl (nF tr))), (ad 7, .inl (cI, 910, .inl (nF ro))), (ad 8, .inr (4, [.ref (ad 5), .ref (ad 9), .ref (ad 10), .ref (ad 11)])), (ad 9, .inl (cZ, 91, .inl (bF S))), (ad 10, .inl (cZ, 91, .inl (bF gr))), (ad 11, .inl (cI, 91, .inl (nF ol3)))]) A) A 13 ls [] := by
      intro N13
      induction N13 with
      | zero => intro i x ls H locs hN; exact absurd hN (Nat.not_lt_zero _)
      | succ N13 ih13 =>
        intro i x ls H locs hN13 k_i k_x hl hP hD hS
        have hc := cnt_le (fun t => !S t && decide (secq q (metq q S) t = 0)) i
        refine lv_iload_n hx hb dX4_arcNewcomers_13 rfl (lv_at hl 2 rfl) ?_
        refine lv_aload_n hx hb dX4_arcNewcomers_14 rfl (lv_at hl 0 rfl) ?_
        refine va_get (D := D) (ci := 4) (v := .ref (ad 5)) (C := RX4) (T := TX4) (N := 4) hx hb hts hiX4 hown hK hP 8 rfl rfl 0 (by decide) hf22 (fun _ h9 => h9) rfl dX4_arcNewcomers_15 ?_
        refine va_getN (D := D) (ci := 3) (v := .int (nI (nn q))) (C := RX3) (T := TX3) (N := 4) hx hb hts hiX3 hown hK hP 5 rfl rfl 1 (by decide) hf32 (fun _ h9 => h9) rfl dX4_arcNewcomers_18 ?_
        refine nv_icmp_ge (tgt := 57) hx hb (by omega) (by omega) dX4_arcNewcomers_21 (by decide) (fun c21 => ?_) (fun c21 => ?_)
        · refine lv_iload_n hx hb dX4_arcNewcomers_57 rfl (lv_at hl 1 rfl) ?_
          exact ctW_retI (v := (nI x)) ol_1 hx hb hr rfl dX4_arcNewcomers_58 hlocks hS hP hD hu1 (by rw [newq, if_pos c4, k_x, show i = nn q by omega])
        · refine lv_aload_n hx hb dX4_arcNewcomers_24 rfl (lv_at hl 0 rfl) ?_
          refine va_get (D := D) (ci := 4) (v := .ref (ad 9)) (C := RX4) (T := TX4) (N := 4) hx hb hts hiX4 hown hK hP 8 rfl rfl 1 (by decide) hf9 (fun _ h9 => h9) rfl dX4_arcNewcomers_25 ?_
          refine lv_iload_n hx hb dX4_arcNewcomers_28 rfl (lv_at hl 2 rfl) ?_
          refine nv_zald hx hb hK hP 9 1 rfl rfl (by omega) (by decide) dX4_arcNewcomers_29 ?_
          refine nv_ifb_ne (tgt := 51) hx hb dX4_arcNewcomers_30 (by decide) (fun c30 => ?_) (fun c30 => ?_)
          · refine lv_iinc (v := nI (i + 1)) (lv' := [(2, .int (nI (i + 1))), (0, .ref (ad 8)), (1, .int (nI x))]) hx hb dX4_arcNewcomers_51 hl (k := 2) rfl (nI_inc i) (by decide) rfl (fun ls hl => ?_)
            refine lv_goto (tgt := 13) hx hb dX4_arcNewcomers_54 (by decide) ?_
            exact ih13 (i + 1) x ls _ _ (by omega) (by omega) (by rw [cnt, c30, k_x]; rfl) (lv_sub hl [1, 2, 0] rfl) hP hD hS
          · refine lv_aload_n hx hb dX4_arcNewcomers_33 rfl (lv_at hl 0 rfl) ?_
            refine va_get (D := D) (ci := 4) (v := .ref (ad 5)) (C := RX4) (T := TX4) (N := 4) hx hb hts hiX4 hown hK hP 8 rfl rfl 0 (by decide) hf22 (fun _ h9 => h9) rfl dX4_arcNewcomers_34 ?_
            refine lv_iload_n hx hb dX4_arcNewcomers_37 rfl (lv_at hl 2 rfl) ?_
            refine lv_aload_n hx hb dX4_arcNewcomers_38 rfl (lv_at hl 0 rfl) ?_
            refine va_get (D := D) (ci := 4) (v := .ref (ad 11)) (C := RX4) (T := TX4) (N := 4) hx hb hts hiX4 hown hK hP 8 rfl rfl 3 (by decide) hf18 (fun _ h9 => h9) rfl dX4_arcNewcomers_39 ?_
            refine ctR_V (As := [.int (nI i), .ref (ad 11)]) (rest := []) (r := .int (nI (secq q ol_1 i))) ⟨hx, hb, hml, hown, hts⟩ (c_X3_secants l D cI cZ ad q sm pr op iv hF tr ro hT hR (ad 11) ol_1 i (by omega) (fun j hj => by rw [hu1 j hj]; have := metq_le q S j; omega)) (cwV 2 hts gX4_arcNewcomers_X3_secants rfl rfl rfl hdV_X3_secants ⟨Nat.le_of_ble_eq_true rfl, Nat.le_of_ble_eq_true rfl⟩) hK hN hP [0, 1, 2, 3, 4, 5, 6, 7, 11] rfl 5 3 rfl rfl rfl hl.1 rfl (Nat.le_of_ble_eq_true rfl) ⟨Nat.zero_le _, Nat.zero_le _⟩ dX4_arcNewcomers_42 ?_
            have hh_2 : secq q ol_1 i ≤ q + 1 := cnt_le _ _
            refine nv_top (v' := .int (nI (secq q (metq q S) i))) (congrArg (fun t => Value.int (nI t)) (secq_congr hF.1 (by omega) hu1)) ?_
            have hs9 : secq q (metq q S) i ≤ q + 1 := cnt_le _ _
            refine nv_if_ne (tgt := 51) hx hb (by omega) dX4_arcNewcomers_45 (by decide) (fun c45 => ?_) (fun c45 => ?_)
            · refine lv_iinc (v := nI (i + 1)) (lv' := [(2, .int (nI (i + 1))), (0, .ref (ad 8)), (1, .int (nI x))]) hx hb dX4_arcNewcomers_51 hl (k := 2) rfl (nI_inc i) (by decide) rfl (fun ls hl => ?_)
              refine lv_goto (tgt := 13) hx hb dX4_arcNewcomers_54 (by decide) ?_
              exact ih13 (i + 1) x ls _ _ (by omega) (by omega) (by rw [cnt, decide_eq_false c45, Bool.and_false, k_x]; rfl) (lv_sub hl [1, 2, 0] rfl) hP hD hS
            · refine lv_iinc (v := nI (x + 1)) (lv' := [(1, .int (nI (x + 1))), (0, .ref (ad 8)), (2, .int (nI i))]) hx hb dX4_arcNewcomers_48 hl (k := 1) rfl (nI_inc x) (by decide) rfl (fun ls hl => ?_)
              refine lv_iinc (v := nI (i + 1)) (lv' := [(2, .int (nI (i + 1))), (1, .int (nI (x + 1))), (0, .ref (ad 8))]) hx hb dX4_arcNewcomers_51 hl (k := 2) rfl (nI_inc i) (by decide) rfl (fun ls hl => ?_)
              refine lv_goto (tgt := 13) hx hb dX4_arcNewcomers_54 (by decide) ?_
              exact ih13 (i + 1) (x + 1) ls _ _ (by omega) (by omega) (by rw [cnt, c30, decide_eq_true c45, k_x]; rfl) (lv_sub hl [2, 1, 0] rfl) hP hD hS
    exact L13 (nn q - 0 + 1) 0 0 ls _ _ (by omega) (Nat.zero_le _) rfl (lv_sub hl [2, 1, 0] rfl) hP hD hS
  · refine lv_iconst (v := nI 0) hx hb dX4_arcNewcomers_7 (by decide) ?_
    exact ctW_retI (v := (nI 0)) ol_1 hx hb hr rfl dX4_arcNewcomers_8 hlocks hS hP hD hu1 (by rw [newq, c4]; rfl)

set_option maxHeartbeats 4000000 in
set_option maxRecDepth 100000 in
theorem c_X4_startGrowing (l : Launch) (D : va_G) (cI cZ : ClassId) (ad : Nat → Nat) (q : Nat) (sm : Nat → Nat) (pr : Nat → Nat) (op : Nat → Nat) (iv : Nat → Nat) (hF : FOK q sm pr op iv) (tr : Nat → Nat) (ro : Nat → Nat) (hT : TOK q tr) (hR : ROK q ro) (S : Nat → Bool) (gr : Nat → Bool) (ol : Nat → Nat) : CtW (S := (Nat → Bool) × (Nat → Nat)) l yX4_startGrowing wsX4_startGrowing { frames := 2, cells := 0, slots := 0, locals := 47 } D (tyG cI cZ) [.ref (ad 8)] [(ad 0, .inr (1, [.int (nI q), .ref (ad 1), .ref (ad 2), .ref (ad 3), .ref (ad 4)])), (ad 1, .inl (cI, 81, .inl (nF sm))), (ad 2, .inl (cI, 81, .inl (nF pr))), (ad 3, .inl (cI, 9, .inl (nF op))), (ad 4, .inl (cI, 9, .inl (nF iv))), (ad 5, .inr (3, [.ref (ad 0), .int (nI (nn q)), .ref (ad 6), .ref (ad 7)])), (ad 6, .inl (cI, 273, .inl (nF tr))), (ad 7, .inl (cI, 910, .inl (nF ro))), (ad 8, .inr (4, [.ref (ad 5), .ref (ad 9), .ref (ad 10), .ref (ad 11)])), (ad 9, .inl (cZ, 91, .inl (bF S))), (ad 10, .inl (cZ, 91, .inl (bF gr))), (ad 11, .inl (cI, 91, .inl (nF ol)))] (fun u => (fun (gr3 : Nat → Bool) (ol3 : Nat → Nat) => eqN (nn q) gr3 S ∧ ∀ t, t < nn q → ol3 t = metq q S t) u.1 u.2) (fun u => (fun (gr3 : Nat → Bool) (ol3 : Nat → Nat) => none) u.1 u.2) (fun u => (fun (gr3 : Nat → Bool) (ol3 : Nat → Nat) => [(ad 0, .inr (1, [.int (nI q), .ref (ad 1), .ref (ad 2), .ref (ad 3), .ref (ad 4)])), (ad 1, .inl (cI, 81, .inl (nF sm))), (ad 2, .inl (cI, 81, .inl (nF pr))), (ad 3, .inl (cI, 9, .inl (nF op))), (ad 4, .inl (cI, 9, .inl (nF iv))), (ad 5, .inr (3, [.ref (ad 0), .int (nI (nn q)), .ref (ad 6), .ref (ad 7)])), (ad 6, .inl (cI, 273, .inl (nF tr))), (ad 7, .inl (cI, 910, .inl (nF ro))), (ad 8, .inr (4, [.ref (ad 5), .ref (ad 9), .ref (ad 10), .ref (ad 11)])), (ad 9, .inl (cZ, 91, .inl (bF S))), (ad 10, .inl (cZ, 91, .inl (bF gr3))), (ad 11, .inl (cI, 91, .inl (nF ol3)))]) u.1 u.2) := by
  intro sz; refine Met.ofW (cc := cX4_startGrowing) (maxL := 2) (ret := none) (by decide) rfl ?_
  intro p e s m args below meth c s₁ B hml hv
  obtain ⟨rfl, hsz, hP, hK, hD0, hN⟩ := hv
  have hx := B.exec
  have hb := B.bytes
  have hr := B.returns
  have hts := atoms_spec (ws := wsX4_startGrowing) B.pre
  have hown : s.vm.findClass RX4 = some m.cls := findClass_of_methodNamed B.named
  have hlocks := B.notSynchronized
  subst hsz
  have hD := hD0.self (sz := s.heap.size)
  generalize hAe : va_A [(ad 0, .inr (1, [.int (nI q), .ref (ad 1), .ref (ad 2), .ref (ad 3), .ref (ad 4)])), (ad 1, .inl (cI, 81, .inl (nF sm))), (ad 2, .inl (cI, 81, .inl (nF pr))), (ad 3, .inl (cI, 9, .inl (nF op))), (ad 4, .inl (cI, 9, .inl (nF iv))), (ad 5, .inr (3, [.ref (ad 0), .int (nI (nn q)), .ref (ad 6), .ref (ad 7)])), (ad 6, .inl (cI, 273, .inl (nF tr))), (ad 7, .inl (cI, 910, .inl (nF ro))), (ad 8, .inr (4, [.ref (ad 5), .ref (ad 9), .ref (ad 10), .ref (ad 11)])), (ad 9, .inl (cZ, 91, .inl (bF S))), (ad 10, .inl (cZ, 91, .inl (bF gr))), (ad 11, .inl (cI, 91, .inl (nF ol)))] s.heap.size = A at hD ⊢
  have hA : ∀ q : Nat, s.heap.size ≤ q → A q := fun q h => by rw [← hAe]; exact Or.inr h
  have hS : va_S A s.heap s.heap [] := va_S.rf
  have hP : va_P D vwCl [(ad 0, .inr (1, [.int (nI q), .ref (ad 1), .ref (ad 2), .ref (ad 3), .ref (ad 4)])), (ad 1, .inl (cI, 81, .inl (nF sm))), (ad 2, .inl (cI, 81, .inl (nF pr))), (ad 3, .inl (cI, 9, .inl (nF op))), (ad 4, .inl (cI, 9, .inl (nF iv))), (ad 5, .inr (3, [.ref (ad 0), .int (nI (nn q)), .ref (ad 6), .ref (ad 7)])), (ad 6, .inl (cI, 273, .inl (nF tr))), (ad 7, .inl (cI, 910, .inl (nF ro))), (ad 8, .inr (4, [.ref (ad 5), .ref (ad 9), .ref (ad 10), .ref (ad 11)])), (ad 9, .inl (cZ, 91, .inl (bF S))), (ad 10, .inl (cZ, 91, .inl (bF gr))), (ad 11, .inl (cI, 91, .inl (nF ol)))] s.heap := hP
  have hf9 := hts (.fieldLink RX4 9 "FinitePlanes$PointSet" "in" "[Z") (by decide +kernel)
  have hf15 := hts (.fieldLink RX4 15 "FinitePlanes$PointSet" "grown" "[Z") (by decide +kernel)
  have hf18 := hts (.fieldLink RX4 18 "FinitePlanes$PointSet" "onLine" "[I") (by decide +kernel)
  have hf22 := hts (.fieldLink RX4 22 "FinitePlanes$PointSet" "plane" "LFinitePlanes$Plane;") (by decide +kernel)
  have hf32 := hN.use (w := .fieldLinkNest RX4 32 "FinitePlanes$Plane" "n" "I" "FinitePlanes") (by decide +kernel) (A := [.ref (ad 8)].toArray)
  have hiX3 : ∀ w ∈ u_ws RX3 TX3 4, w ∈ wsX4_startGrowing := by decide +kernel
  have hiX4 : ∀ w ∈ u_ws RX4 TX4 4, w ∈ wsX4_startGrowing := by decide +kernel
  have hl := lv_entry ([.ref (ad 8)]) (n := 2) (Nat.le_of_ble_eq_true rfl)
  rw [lg_entry_eq]
  generalize (lg_sl ([.ref (ad 8)]) ++ List.replicate (2 - (lg_sl ([.ref (ad 8)])).length) Slot.unset).toArray = ls at hl ⊢
  have hl : lv_has ls 2 [(0, .ref (ad 8))] := hl
  have hq2 := qs_le hF.1
  have hn2 := nn_le hF.1
  refine lv_iconst (v := nI 0) hx hb dX4_startGrowing_0 (by decide) ?_
  refine lv_istore_n (lv' := [(1, .int (nI 0)), (0, .ref (ad 8))]) hx hb dX4_startGrowing_1 rfl hl (by decide) rfl (fun ls hl => ?_)
  have L2 : ∀ (N2 : Nat) (i : Nat) (G1 : Nat → Bool) (ls : Array Slot) (H : Heap) (locs : List Loc), nn q - i < N2 → (i ≤ nn q) → (∀ t, t < i → G1 t = S t) → lv_has ls 2 [(0, .ref (ad 8)), (1, .int (nI i))] → va_P D vwCl [(ad 0, .inr (1, [.int (nI q), .ref (ad 1), .ref (ad 2), .ref (ad 3), .ref (ad 4)])), (ad 1, .inl (cI, 81, .inl (nF sm))), (ad 2, .inl (cI, 81, .inl (nF pr))), (ad 3, .inl (cI, 9, .inl (nF op))), (ad 4, .inl (cI, 9, .inl (nF iv))), (ad 5, .inr (3, [.ref (ad 0), .int (nI (nn q)), .ref (ad 6), .ref (ad 7)])), (ad 6, .inl (cI, 273, .inl (nF tr))), (ad 7, .inl (cI, 910, .inl (nF ro))), (ad 8, .inr (4, [.ref (ad 5), .ref (ad 9), .ref (ad 10), .ref (ad 11)])), (ad 9, .inl (cZ, 91, .inl (bF S))), (ad 10, .inl (cZ, 91, .inl (bF G1))), (ad 11, .inl (cI, 91, .inl (nF ol)))] H → va_D A [(ad 0, .inr (1, [.int (nI q), .ref (ad 1), .ref (ad 2), .ref (ad 3), .ref (ad 4)])), (ad 1, .inl (cI, 81, .inl (nF sm))), (ad 2, .inl (cI, 81, .inl (nF pr))), (ad 3, .inl (cI, 9, .inl (nF op))), (ad 4, .inl (cI, 9, .inl (nF iv))), (ad 5, .inr (3, [.ref (ad 0), .int (nI (nn q)), .ref (ad 6), .ref (ad 7)])), (ad 6, .inl (cI, 273, .inl (nF tr))), (ad 7, .inl (cI, 910, .inl (nF ro))), (ad 8, .inr (4, [.ref (ad 5), .ref (ad 9), .ref (ad 10), .ref (ad 11)])), (ad 9, .inl (cZ, 91, .inl (bF S))), (ad 10, .inl (cZ, 91, .inl (bF G1))), (ad 11, .inl (cI, 91, .inl (nF ol)))] → va_S A s.heap H locs → WG p l e wsX4_startGrowing { frames := 2, cells := 0, slots := 0, locals := 47 } s m [.ref (ad 8)] below meth c H locs (CQ (S := (Nat → Bool) × (Nat → Nat)) D (fun u => (fun (gr3 : Nat → Bool) (ol3 : Nat → Nat) => eqN (nn q) gr3 S ∧ ∀ t, t < nn q → ol3 t = metq q S t) u.1 u.2) (fun u => (fun (gr3 : Nat → Bool) (ol3 : Nat → Nat) => none) u.1 u.2) (fun u => (fun (gr3 : Nat → Bool) (ol3 : Nat → Nat) => [(ad 0, .inr (1, [.int (nI q), .ref (ad 1), .ref (ad 2), .ref (ad 3), .ref (ad 4)])), (ad 1, .inl (cI, 81, .inl (nF sm))), (ad 2, .inl (cI, 81, .inl (nF pr))), (ad 3, .inl (cI, 9, .inl (nF op))), (ad 4, .inl (cI, 9, .inl (nF iv))), (ad 5, .inr (3, [.ref (ad 0), .int (nI (nn q)), .ref (ad 6), .ref (ad 7)])), (ad 6, .inl (cI, 273, .inl (nF tr))), (ad 7, .inl (cI, 910, .inl (nF ro))), (ad 8, .inr (4, [.ref (ad 5), .ref (ad 9), .ref (ad 10), .ref (ad 11)])), (ad 9, .inl (cZ, 91, .inl (bF S))), (ad 10, .inl (cZ, 91, .inl (bF gr3))), (ad 11, .inl (cI, 91, .inl (nF ol3)))]) u.1 u.2) A) A 2 ls [] := by
    intro N2
    induction N2 with
    | zero => intro i G1 ls H locs hN; exact absurd hN (Nat.not_lt_zero _)
    | succ N2 ih2 =>
      intro i G1 ls H locs hN2 k_i k_s hl hP hD hS
      refine lv_iload_n hx hb dX4_startGrowing_2 rfl (lv_at hl 1 rfl) ?_
      refine lv_aload_n hx hb dX4_startGrowing_3 rfl (lv_at hl 0 rfl) ?_
      refine va_get (D := D) (ci := 4) (v := .ref (ad 5)) (C := RX4) (T := TX4) (N := 4) hx hb hts hiX4 hown hK hP 8 rfl rfl 0 (by decide) hf22 (fun _ h9 => h9) rfl dX4_startGrowing_4 ?_
      refine va_getN (D := D) (ci := 3) (v := .int (nI (nn q))) (C := RX3) (T := TX3) (N := 4) hx hb hts hiX3 hown hK hP 5 rfl rfl 1 (by decide) hf32 (fun _ h9 => h9) rfl dX4_startGrowing_7 ?_
      refine nv_icmp_ge (tgt := 31) hx hb (by omega) (by omega) dX4_startGrowing_10 (by decide) (fun c10 => ?_) (fun c10 => ?_)
      · refine lv_aload_n hx hb dX4_startGrowing_31 rfl (lv_at hl 0 rfl) ?_
        refine va_get (D := D) (ci := 4) (v := .ref (ad 5)) (C := RX4) (T := TX4) (N := 4) hx hb hts hiX4 hown hK hP 8 rfl rfl 0 (by decide) hf22 (fun _ h9 => h9) rfl dX4_startGrowing_32 ?_
        refine lv_aload_n hx hb dX4_startGrowing_35 rfl (lv_at hl 0 rfl) ?_
        refine va_get (D := D) (ci := 4) (v := .ref (ad 10)) (C := RX4) (T := TX4) (N := 4) hx hb hts hiX4 hown hK hP 8 rfl rfl 2 (by decide) hf15 (fun _ h9 => h9) rfl dX4_startGrowing_36 ?_
        refine lv_aload_n hx hb dX4_startGrowing_39 rfl (lv_at hl 0 rfl) ?_
        refine va_get (D := D) (ci := 4) (v := .ref (ad 11)) (C := RX4) (T := TX4) (N := 4) hx hb hts hiX4 hown hK hP 8 rfl rfl 3 (by decide) hf18 (fun _ h9 => h9) rfl dX4_startGrowing_40 ?_
        refine ctW_V (As := [.ref (ad 10), .ref (ad 11)]) (rest := []) (wr := [(ad 8, .inr (4, [.ref (ad 5), .ref (ad 9), .ref (ad 10), .ref (ad 11)])), (ad 9, .inl (cZ, 91, .inl (bF S)))]) ⟨hx, hb, hml, hown, hts⟩ (c_X3_tally l D cI cZ ad q sm pr op iv hF tr ro hT hR (ad 10) G1 (ad 11) ol) (cwV 2 hts gX4_startGrowing_X3_tally rfl rfl rfl hdV_X3_tally ⟨Nat.le_of_ble_eq_true rfl, Nat.le_of_ble_eq_true rfl⟩) hK hN hP hD hS hA [0, 1, 2, 3, 4, 5, 6, 7, 10, 11] [8, 9] rfl rfl rfl (by decide) (by decide) (by decide) 5 3 rfl rfl rfl hl.1 rfl (Nat.le_of_ble_eq_true rfl) ⟨Nat.zero_le _, Nat.zero_le _⟩ dX4_startGrowing_43 (fun ol_1 H locs hu43 hP hD hS => ?_)
        try dsimp only at hu43
        have hP : va_P D vwCl [(ad 0, .inr (1, [.int (nI q), .ref (ad 1), .ref (ad 2), .ref (ad 3), .ref (ad 4)])), (ad 1, .inl (cI, 81, .inl (nF sm))), (ad 2, .inl (cI, 81, .inl (nF pr))), (ad 3, .inl (cI, 9, .inl (nF op))), (ad 4, .inl (cI, 9, .inl (nF iv))), (ad 5, .inr (3, [.ref (ad 0), .int (nI (nn q)), .ref (ad 6), .ref (ad 7)])), (ad 6, .inl (cI, 273, .inl (nF tr))), (ad 7, .inl (cI, 910, .inl (nF ro))), (ad 8, .inr (4, [.ref (ad 5), .ref (ad 9), .ref (ad 10), .ref (ad 11)])), (ad 9, .inl (cZ, 91, .inl (bF S))), (ad 10, .inl (cZ, 91, .inl (bF G1))), (ad 11, .inl (cI, 91, .inl (nF ol_1)))] H := hP.sub [2, 3, 4, 5, 6, 7, 8, 9, 0, 1, 10, 11] rfl
        have hD : va_D A [(ad 0, .inr (1, [.int (nI q), .ref (ad 1), .ref (ad 2), .ref (ad 3), .ref (ad 4)])), (ad 1, .inl (cI, 81, .inl (nF sm))), (ad 2, .inl (cI, 81, .inl (nF pr))), (ad 3, .inl (cI, 9, .inl (nF op))), (ad 4, .inl (cI, 9, .inl (nF iv))), (ad 5, .inr (3, [.ref (ad 0), .int (nI (nn q)), .ref (ad 6), .ref (ad 7)])), (ad 6, .inl (cI, 273, .inl (nF tr))), (ad 7, .inl (cI, 910, .inl (nF ro))), (ad 8, .inr (4, [.ref (ad 5), .ref (ad 9), .ref (ad 10), .ref (ad 11)])), (ad 9, .inl (cZ, 91, .inl (bF S))), (ad 10, .inl (cZ, 91, .inl (bF G1))), (ad 11, .inl (cI, 91, .inl (nF ol_1)))] := hD.sub [2, 3, 4, 5, 6, 7, 8, 9, 0, 1, 10, 11] (by decide) rfl
        refine W.eq (g2 := F0 m 46 ls []) rfl ?_
        exact ctW_retV (G1, ol_1) hx hb hr dX4_startGrowing_46 hlocks hS hP hD (by dsimp only; exact ⟨fun t ht => k_s t (by omega), fun t ht => by rw [hu43 t ht]; exact met_congr (fun t ht => k_s t (by omega))⟩) rfl
      · refine lv_aload_n hx hb dX4_startGrowing_13 rfl (lv_at hl 0 rfl) ?_
        refine va_get (D := D) (ci := 4) (v := .ref (ad 10)) (C := RX4) (T := TX4) (N := 4) hx hb hts hiX4 hown hK hP 8 rfl rfl 2 (by decide) hf15 (fun _ h9 => h9) rfl dX4_startGrowing_14 ?_
        refine lv_iload_n hx hb dX4_startGrowing_17 rfl (lv_at hl 1 rfl) ?_
        refine lv_aload_n hx hb dX4_startGrowing_18 rfl (lv_at hl 0 rfl) ?_
        refine va_get (D := D) (ci := 4) (v := .ref (ad 9)) (C := RX4) (T := TX4) (N := 4) hx hb hts hiX4 hown hK hP 8 rfl rfl 1 (by decide) hf9 (fun _ h9 => h9) rfl dX4_startGrowing_19 ?_
        refine lv_iload_n hx hb dX4_startGrowing_22 rfl (lv_at hl 1 rfl) ?_
        refine nv_zald hx hb hK hP 9 1 rfl rfl (by omega) (by decide) dX4_startGrowing_23 ?_
        refine nv_zast hx hb hK hP hD hS 10 1 rfl rfl (S i) (by omega) (by decide) dX4_startGrowing_24 (fun H locs hP hD hS => ?_)
        have hP : va_P D vwCl [(ad 0, .inr (1, [.int (nI q), .ref (ad 1), .ref (ad 2), .ref (ad 3), .ref (ad 4)])), (ad 1, .inl (cI, 81, .inl (nF sm))), (ad 2, .inl (cI, 81, .inl (nF pr))), (ad 3, .inl (cI, 9, .inl (nF op))), (ad 4, .inl (cI, 9, .inl (nF iv))), (ad 5, .inr (3, [.ref (ad 0), .int (nI (nn q)), .ref (ad 6), .ref (ad 7)])), (ad 6, .inl (cI, 273, .inl (nF tr))), (ad 7, .inl (cI, 910, .inl (nF ro))), (ad 8, .inr (4, [.ref (ad 5), .ref (ad 9), .ref (ad 10), .ref (ad 11)])), (ad 9, .inl (cZ, 91, .inl (bF S))), (ad 10, .inl (cZ, 91, .inl (bF (upB G1 i (S i))))), (ad 11, .inl (cI, 91, .inl (nF ol)))] H := hP
        have hD : va_D A [(ad 0, .inr (1, [.int (nI q), .ref (ad 1), .ref (ad 2), .ref (ad 3), .ref (ad 4)])), (ad 1, .inl (cI, 81, .inl (nF sm))), (ad 2, .inl (cI, 81, .inl (nF pr))), (ad 3, .inl (cI, 9, .inl (nF op))), (ad 4, .inl (cI, 9, .inl (nF iv))), (ad 5, .inr (3, [.ref (ad 0), .int (nI (nn q)), .ref (ad 6), .ref (ad 7)])), (ad 6, .inl (cI, 273, .inl (nF tr))), (ad 7, .inl (cI, 910, .inl (nF ro))), (ad 8, .inr (4, [.ref (ad 5), .ref (ad 9), .ref (ad 10), .ref (ad 11)])), (ad 9, .inl (cZ, 91, .inl (bF S))), (ad 10, .inl (cZ, 91, .inl (bF (upB G1 i (S i))))), (ad 11, .inl (cI, 91, .inl (nF ol)))] := hD
        refine lv_iinc (v := nI (i + 1)) (lv' := [(1, .int (nI (i + 1))), (0, .ref (ad 8))]) hx hb dX4_startGrowing_25 hl (k := 1) rfl (nI_inc i) (by decide) rfl (fun ls hl => ?_)
        refine lv_goto (tgt := 2) hx hb dX4_startGrowing_28 (by decide) ?_
        exact ih2 (i + 1) (upB G1 i (S i)) ls _ _ (by omega) (by omega) (fun t ht => (Nat.lt_succ_iff_lt_or_eq.mp ht).elim (fun h => by rw [upB_n (by omega)]; exact k_s t h) (fun h => by rw [h, upB_s])) (lv_sub hl [1, 0] rfl) hP hD hS
  exact L2 (nn q - 0 + 1) 0 gr ls _ _ (by omega) (Nat.zero_le _) (fun t h => absurd h (Nat.not_lt_zero t)) (lv_sub hl [1, 0] rfl) hP hD hS

set_option maxHeartbeats 4000000 in
set_option maxRecDepth 100000 in
theorem c_X4_addCrossings (l : Launch) (D : va_G) (cI cZ : ClassId) (ad : Nat → Nat) (q : Nat) (sm : Nat → Nat) (pr : Nat → Nat) (op : Nat → Nat) (iv : Nat → Nat) (hF : FOK q sm pr op iv) (tr : Nat → Nat) (ro : Nat → Nat) (hT : TOK q tr) (hR : ROK q ro) (S : Nat → Bool) (gr : Nat → Bool) (ol : Nat → Nat) (k_o : ∀ t, t < nn q → ol t < 2 ^ 31) : CtW (S := (Nat → Bool) × (Bool)) l yX4_addCrossings wsX4_addCrossings { frames := 2, cells := 0, slots := 0, locals := 46 } D (tyG cI cZ) [.ref (ad 8)] [(ad 0, .inr (1, [.int (nI q), .ref (ad 1), .ref (ad 2), .ref (ad 3), .ref (ad 4)])), (ad 1, .inl (cI, 81, .inl (nF sm))), (ad 2, .inl (cI, 81, .inl (nF pr))), (ad 3, .inl (cI, 9, .inl (nF op))), (ad 4, .inl (cI, 9, .inl (nF iv))), (ad 5, .inr (3, [.ref (ad 0), .int (nI (nn q)), .ref (ad 6), .ref (ad 7)])), (ad 6, .inl (cI, 273, .inl (nF tr))), (ad 7, .inl (cI, 910, .inl (nF ro))), (ad 8, .inr (4, [.ref (ad 5), .ref (ad 9), .ref (ad 10), .ref (ad 11)])), (ad 9, .inl (cZ, 91, .inl (bF S))), (ad 10, .inl (cZ, 91, .inl (bF gr))), (ad 11, .inl (cI, 91, .inl (nF ol)))] (fun u => (fun (gr3 : Nat → Bool) (b3 : Bool) => (∀ t, t < nn q → gr3 t = (gr t || decide (2 ≤ secq q ol t))) ∧ b3 = anyB (fun t => !gr t && decide (2 ≤ secq q ol t)) (nn q)) u.1 u.2) (fun u => (fun (gr3 : Nat → Bool) (b3 : Bool) => some (.int (nI (b3).toNat))) u.1 u.2) (fun u => (fun (gr3 : Nat → Bool) (b3 : Bool) => [(ad 0, .inr (1, [.int (nI q), .ref (ad 1), .ref (ad 2), .ref (ad 3), .ref (ad 4)])), (ad 1, .inl (cI, 81, .inl (nF sm))), (ad 2, .inl (cI, 81, .inl (nF pr))), (ad 3, .inl (cI, 9, .inl (nF op))), (ad 4, .inl (cI, 9, .inl (nF iv))), (ad 5, .inr (3, [.ref (ad 0), .int (nI (nn q)), .ref (ad 6), .ref (ad 7)])), (ad 6, .inl (cI, 273, .inl (nF tr))), (ad 7, .inl (cI, 910, .inl (nF ro))), (ad 8, .inr (4, [.ref (ad 5), .ref (ad 9), .ref (ad 10), .ref (ad 11)])), (ad 9, .inl (cZ, 91, .inl (bF S))), (ad 10, .inl (cZ, 91, .inl (bF gr3))), (ad 11, .inl (cI, 91, .inl (nF ol)))]) u.1 u.2) := by
  intro sz; refine Met.ofW (cc := cX4_addCrossings) (maxL := 3) (ret := some .boolean) (by decide) rfl ?_
  intro p e s m args below meth c s₁ B hml hv
  obtain ⟨rfl, hsz, hP, hK, hD0, hN⟩ := hv
  have hx := B.exec
  have hb := B.bytes
  have hr := B.returns
  have hts := atoms_spec (ws := wsX4_addCrossings) B.pre
  have hown : s.vm.findClass RX4 = some m.cls := findClass_of_methodNamed B.named
  have hlocks := B.notSynchronized
  subst hsz
  have hD := hD0.self (sz := s.heap.size)
  generalize hAe : va_A [(ad 0, .inr (1, [.int (nI q), .ref (ad 1), .ref (ad 2), .ref (ad 3), .ref (ad 4)])), (ad 1, .inl (cI, 81, .inl (nF sm))), (ad 2, .inl (cI, 81, .inl (nF pr))), (ad 3, .inl (cI, 9, .inl (nF op))), (ad 4, .inl (cI, 9, .inl (nF iv))), (ad 5, .inr (3, [.ref (ad 0), .int (nI (nn q)), .ref (ad 6), .ref (ad 7)])), (ad 6, .inl (cI, 273, .inl (nF tr))), (ad 7, .inl (cI, 910, .inl (nF ro))), (ad 8, .inr (4, [.ref (ad 5), .ref (ad 9), .ref (ad 10), .ref (ad 11)])), (ad 9, .inl (cZ, 91, .inl (bF S))), (ad 10, .inl (cZ, 91, .inl (bF gr))), (ad 11, .inl (cI, 91, .inl (nF ol)))] s.heap.size = A at hD ⊢
  have hA : ∀ q : Nat, s.heap.size ≤ q → A q := fun q h => by rw [← hAe]; exact Or.inr h
  have hS : va_S A s.heap s.heap [] := va_S.rf
  have hP : va_P D vwCl [(ad 0, .inr (1, [.int (nI q), .ref (ad 1), .ref (ad 2), .ref (ad 3), .ref (ad 4)])), (ad 1, .inl (cI, 81, .inl (nF sm))), (ad 2, .inl (cI, 81, .inl (nF pr))), (ad 3, .inl (cI, 9, .inl (nF op))), (ad 4, .inl (cI, 9, .inl (nF iv))), (ad 5, .inr (3, [.ref (ad 0), .int (nI (nn q)), .ref (ad 6), .ref (ad 7)])), (ad 6, .inl (cI, 273, .inl (nF tr))), (ad 7, .inl (cI, 910, .inl (nF ro))), (ad 8, .inr (4, [.ref (ad 5), .ref (ad 9), .ref (ad 10), .ref (ad 11)])), (ad 9, .inl (cZ, 91, .inl (bF S))), (ad 10, .inl (cZ, 91, .inl (bF gr))), (ad 11, .inl (cI, 91, .inl (nF ol)))] s.heap := hP
  have hf15 := hts (.fieldLink RX4 15 "FinitePlanes$PointSet" "grown" "[Z") (by decide +kernel)
  have hf18 := hts (.fieldLink RX4 18 "FinitePlanes$PointSet" "onLine" "[I") (by decide +kernel)
  have hf22 := hts (.fieldLink RX4 22 "FinitePlanes$PointSet" "plane" "LFinitePlanes$Plane;") (by decide +kernel)
  have hf32 := hN.use (w := .fieldLinkNest RX4 32 "FinitePlanes$Plane" "n" "I" "FinitePlanes") (by decide +kernel) (A := [.ref (ad 8)].toArray)
  have hiX3 : ∀ w ∈ u_ws RX3 TX3 4, w ∈ wsX4_addCrossings := by decide +kernel
  have hiX4 : ∀ w ∈ u_ws RX4 TX4 4, w ∈ wsX4_addCrossings := by decide +kernel
  have hl := lv_entry ([.ref (ad 8)]) (n := 3) (Nat.le_of_ble_eq_true rfl)
  rw [lg_entry_eq]
  generalize (lg_sl ([.ref (ad 8)]) ++ List.replicate (3 - (lg_sl ([.ref (ad 8)])).length) Slot.unset).toArray = ls at hl ⊢
  have hl : lv_has ls 3 [(0, .ref (ad 8))] := hl
  have hq2 := qs_le hF.1
  have hn2 := nn_le hF.1
  refine lv_iconst (v := nI 0) hx hb dX4_addCrossings_0 (by decide) ?_
  refine lv_istore_n (lv' := [(1, .int (nI 0)), (0, .ref (ad 8))]) hx hb dX4_addCrossings_1 rfl hl (by decide) rfl (fun ls hl => ?_)
  refine lv_iconst (v := nI 0) hx hb dX4_addCrossings_2 (by decide) ?_
  refine lv_istore_n (lv' := [(2, .int (nI 0)), (1, .int (nI 0)), (0, .ref (ad 8))]) hx hb dX4_addCrossings_3 rfl hl (by decide) rfl (fun ls hl => ?_)
  have L4 : ∀ (N4 : Nat) (b : Bool) (i : Nat) (G1 : Nat → Bool) (ls : Array Slot) (H : Heap) (locs : List Loc), nn q - i < N4 → (i ≤ nn q) → (∀ t, t < i → G1 t = (gr t || decide (2 ≤ secq q ol t))) → (∀ t, i ≤ t → G1 t = gr t) → (b = anyB (fun t => !gr t && decide (2 ≤ secq q ol t)) i) → lv_has ls 3 [(0, .ref (ad 8)), (1, .int (nI (b).toNat)), (2, .int (nI i))] → va_P D vwCl [(ad 0, .inr (1, [.int (nI q), .ref (ad 1), .ref (ad 2), .ref (ad 3), .ref (ad 4)])), (ad 1, .inl (cI, 81, .inl (nF sm))), (ad 2, .inl (cI, 81, .inl (nF pr))), (ad 3, .inl (cI, 9, .inl (nF op))), (ad 4, .inl (cI, 9, .inl (nF iv))), (ad 5, .inr (3, [.ref (ad 0), .int (nI (nn q)), .ref (ad 6), .ref (ad 7)])), (ad 6, .inl (cI, 273, .inl (nF tr))), (ad 7, .inl (cI, 910, .inl (nF ro))), (ad 8, .inr (4, [.ref (ad 5), .ref (ad 9), .ref (ad 10), .ref (ad 11)])), (ad 9, .inl (cZ, 91, .inl (bF S))), (ad 10, .inl (cZ, 91, .inl (bF G1))), (ad 11, .inl (cI, 91, .inl (nF ol)))] H → va_D A [(ad 0, .inr (1, [.int (nI q), .ref (ad 1), .ref (ad 2), .ref (ad 3), .ref (ad 4)])), (ad 1, .inl (cI, 81, .inl (nF sm))), (ad 2, .inl (cI, 81, .inl (nF pr))), (ad 3, .inl (cI, 9, .inl (nF op))), (ad 4, .inl (cI, 9, .inl (nF iv))), (ad 5, .inr (3, [.ref (ad 0), .int (nI (nn q)), .ref (ad 6), .ref (ad 7)])), (ad 6, .inl (cI, 273, .inl (nF tr))), (ad 7, .inl (cI, 910, .inl (nF ro))), (ad 8, .inr (4, [.ref (ad 5), .ref (ad 9), .ref (ad 10), .ref (ad 11)])), (ad 9, .inl (cZ, 91, .inl (bF S))), (ad 10, .inl (cZ, 91, .inl (bF G1))), (ad 11, .inl (cI, 91, .inl (nF ol)))] → va_S A s.heap H locs → WG p l e wsX4_addCrossings { frames := 2, cells := 0, slots := 0, locals := 46 } s m [.ref (ad 8)] below meth c H locs (CQ (S := (Nat → Bool) × (Bool)) D (fun u => (fun (gr3 : Nat → Bool) (b3 : Bool) => (∀ t, t < nn q → gr3 t = (gr t || decide (2 ≤ secq q ol t))) ∧ b3 = anyB (fun t => !gr t && decide (2 ≤ secq q ol t)) (nn q)) u.1 u.2) (fun u => (fun (gr3 : Nat → Bool) (b3 : Bool) => some (.int (nI (b3).toNat))) u.1 u.2) (fun u => (fun (gr3 : Nat → Bool) (b3 : Bool) => [(ad 0, .inr (1, [.int (nI q), .ref (ad 1), .ref (ad 2), .ref (ad 3), .ref (ad 4)])), (ad 1, .inl (cI, 81, .inl (nF sm))), (ad 2, .inl (cI, 81, .inl (nF pr))), (ad 3, .inl (cI, 9, .inl (nF op))), (ad 4, .inl (cI, 9, .inl (nF iv))), (ad 5, .inr (3, [.ref (ad 0), .int (nI (nn q)), .ref (ad 6), .ref (ad 7)])), (ad 6, .inl (cI, 273, .inl (nF tr))), (ad 7, .inl (cI, 910, .inl (nF ro))), (ad 8, .inr (4, [.ref (ad 5), .ref (ad 9), .ref (ad 10), .ref (ad 11)])), (ad 9, .inl (cZ, 91, .inl (bF S))), (ad 10, .inl (cZ, 91, .inl (bF gr3))), (ad 11, .inl (cI, 91, .inl (nF ol)))]) u.1 u.2) A) A 4 ls [] := by
    intro N4
    induction N4 with
    | zero => intro b i G1 ls H locs hN; exact absurd hN (Nat.not_lt_zero _)
    | succ N4 ih4 =>
      intro b i G1 ls H locs hN4 k_i k_s k_h k_b hl hP hD hS
      refine lv_iload_n hx hb dX4_addCrossings_4 rfl (lv_at hl 2 rfl) ?_
      refine lv_aload_n hx hb dX4_addCrossings_5 rfl (lv_at hl 0 rfl) ?_
      refine va_get (D := D) (ci := 4) (v := .ref (ad 5)) (C := RX4) (T := TX4) (N := 4) hx hb hts hiX4 hown hK hP 8 rfl rfl 0 (by decide) hf22 (fun _ h9 => h9) rfl dX4_addCrossings_6 ?_
      refine va_getN (D := D) (ci := 3) (v := .int (nI (nn q))) (C := RX3) (T := TX3) (N := 4) hx hb hts hiX3 hown hK hP 5 rfl rfl 1 (by decide) hf32 (fun _ h9 => h9) rfl dX4_addCrossings_9 ?_
      refine nv_icmp_ge (tgt := 55) hx hb (by omega) (by omega) dX4_addCrossings_12 (by decide) (fun c12 => ?_) (fun c12 => ?_)
      · refine lv_iload_n hx hb dX4_addCrossings_55 rfl (lv_at hl 1 rfl) ?_
        exact ctW_retI (v := (nI (b).toNat)) (G1, b) hx hb hr (nar_bool b) dX4_addCrossings_56 hlocks hS hP hD (by dsimp only; exact ⟨fun t ht => k_s t (by omega), by rw [k_b, show i = nn q by omega]⟩) rfl
      · refine lv_aload_n hx hb dX4_addCrossings_15 rfl (lv_at hl 0 rfl) ?_
        refine va_get (D := D) (ci := 4) (v := .ref (ad 10)) (C := RX4) (T := TX4) (N := 4) hx hb hts hiX4 hown hK hP 8 rfl rfl 2 (by decide) hf15 (fun _ h9 => h9) rfl dX4_addCrossings_16 ?_
        refine lv_iload_n hx hb dX4_addCrossings_19 rfl (lv_at hl 2 rfl) ?_
        refine nv_zald hx hb hK hP 10 1 rfl rfl (by omega) (by decide) dX4_addCrossings_20 ?_
        refine nv_ifb_ne (tgt := 49) hx hb dX4_addCrossings_21 (by decide) (fun c21 => ?_) (fun c21 => ?_)
        · refine lv_iinc (v := nI (i + 1)) (lv' := [(2, .int (nI (i + 1))), (0, .ref (ad 8)), (1, .int (nI (b).toNat))]) hx hb dX4_addCrossings_49 hl (k := 2) rfl (nI_inc i) (by decide) rfl (fun ls hl => ?_)
          refine lv_goto (tgt := 4) hx hb dX4_addCrossings_52 (by decide) ?_
          exact ih4 b (i + 1) G1 ls _ _ (by omega) (by omega) (fun t ht => (Nat.lt_succ_iff_lt_or_eq.mp ht).elim (k_s t) (fun h => by rw [h, ← k_h i (Nat.le_refl i), c21]; rfl)) (fun t ht => k_h t (by omega)) (by rw [anyB, ← k_h i (Nat.le_refl i), c21, k_b]; simp) (lv_sub hl [1, 2, 0] rfl) hP hD hS
        · refine lv_aload_n hx hb dX4_addCrossings_24 rfl (lv_at hl 0 rfl) ?_
          refine va_get (D := D) (ci := 4) (v := .ref (ad 5)) (C := RX4) (T := TX4) (N := 4) hx hb hts hiX4 hown hK hP 8 rfl rfl 0 (by decide) hf22 (fun _ h9 => h9) rfl dX4_addCrossings_25 ?_
          refine lv_iload_n hx hb dX4_addCrossings_28 rfl (lv_at hl 2 rfl) ?_
          refine lv_aload_n hx hb dX4_addCrossings_29 rfl (lv_at hl 0 rfl) ?_
          refine va_get (D := D) (ci := 4) (v := .ref (ad 11)) (C := RX4) (T := TX4) (N := 4) hx hb hts hiX4 hown hK hP 8 rfl rfl 3 (by decide) hf18 (fun _ h9 => h9) rfl dX4_addCrossings_30 ?_
          refine ctR_V (As := [.int (nI i), .ref (ad 11)]) (rest := []) (r := .int (nI (secq q ol i))) ⟨hx, hb, hml, hown, hts⟩ (c_X3_secants l D cI cZ ad q sm pr op iv hF tr ro hT hR (ad 11) ol i (by omega) k_o) (cwV 2 hts gX4_addCrossings_X3_secants rfl rfl rfl hdV_X3_secants ⟨Nat.le_of_ble_eq_true rfl, Nat.le_of_ble_eq_true rfl⟩) hK hN hP [0, 1, 2, 3, 4, 5, 6, 7, 11] rfl 5 3 rfl rfl rfl hl.1 rfl (Nat.le_of_ble_eq_true rfl) ⟨Nat.zero_le _, Nat.zero_le _⟩ dX4_addCrossings_33 ?_
          have hh_1 : secq q ol i ≤ q + 1 := cnt_le _ _
          refine lv_iconst (v := nI 2) hx hb dX4_addCrossings_36 (by decide) ?_
          refine nv_icmp_lt (tgt := 49) hx hb (by omega) (by decide) dX4_addCrossings_37 (by decide) (fun c37 => ?_) (fun c37 => ?_)
          · refine lv_iinc (v := nI (i + 1)) (lv' := [(2, .int (nI (i + 1))), (0, .ref (ad 8)), (1, .int (nI (b).toNat))]) hx hb dX4_addCrossings_49 hl (k := 2) rfl (nI_inc i) (by decide) rfl (fun ls hl => ?_)
            refine lv_goto (tgt := 4) hx hb dX4_addCrossings_52 (by decide) ?_
            exact ih4 b (i + 1) G1 ls _ _ (by omega) (by omega) (fun t ht => (Nat.lt_succ_iff_lt_or_eq.mp ht).elim (k_s t) (fun h => by rw [h, k_h i (Nat.le_refl i), decide_eq_false (by omega), Bool.or_false])) (fun t ht => k_h t (by omega)) (by rw [anyB, decide_eq_false (by omega), Bool.and_false, Bool.or_false, k_b]) (lv_sub hl [1, 2, 0] rfl) hP hD hS
          · refine lv_aload_n hx hb dX4_addCrossings_40 rfl (lv_at hl 0 rfl) ?_
            refine va_get (D := D) (ci := 4) (v := .ref (ad 10)) (C := RX4) (T := TX4) (N := 4) hx hb hts hiX4 hown hK hP 8 rfl rfl 2 (by decide) hf15 (fun _ h9 => h9) rfl dX4_addCrossings_41 ?_
            refine lv_iload_n hx hb dX4_addCrossings_44 rfl (lv_at hl 2 rfl) ?_
            refine lv_iconst (v := nI 1) hx hb dX4_addCrossings_45 (by decide) ?_
            refine nv_zast hx hb hK hP hD hS 10 1 rfl rfl true (by omega) (by decide) dX4_addCrossings_46 (fun H locs hP hD hS => ?_)
            have hP : va_P D vwCl [(ad 0, .inr (1, [.int (nI q), .ref (ad 1), .ref (ad 2), .ref (ad 3), .ref (ad 4)])), (ad 1, .inl (cI, 81, .inl (nF sm))), (ad 2, .inl (cI, 81, .inl (nF pr))), (ad 3, .inl (cI, 9, .inl (nF op))), (ad 4, .inl (cI, 9, .inl (nF iv))), (ad 5, .inr (3, [.ref (ad 0), .int (nI (nn q)), .ref (ad 6), .ref (ad 7)])), (ad 6, .inl (cI, 273, .inl (nF tr))), (ad 7, .inl (cI, 910, .inl (nF ro))), (ad 8, .inr (4, [.ref (ad 5), .ref (ad 9), .ref (ad 10), .ref (ad 11)])), (ad 9, .inl (cZ, 91, .inl (bF S))), (ad 10, .inl (cZ, 91, .inl (bF (upB G1 i true)))), (ad 11, .inl (cI, 91, .inl (nF ol)))] H := hP
            have hD : va_D A [(ad 0, .inr (1, [.int (nI q), .ref (ad 1), .ref (ad 2), .ref (ad 3), .ref (ad 4)])), (ad 1, .inl (cI, 81, .inl (nF sm))), (ad 2, .inl (cI, 81, .inl (nF pr))), (ad 3, .inl (cI, 9, .inl (nF op))), (ad 4, .inl (cI, 9, .inl (nF iv))), (ad 5, .inr (3, [.ref (ad 0), .int (nI (nn q)), .ref (ad 6), .ref (ad 7)])), (ad 6, .inl (cI, 273, .inl (nF tr))), (ad 7, .inl (cI, 910, .inl (nF ro))), (ad 8, .inr (4, [.ref (ad 5), .ref (ad 9), .ref (ad 10), .ref (ad 11)])), (ad 9, .inl (cZ, 91, .inl (bF S))), (ad 10, .inl (cZ, 91, .inl (bF (upB G1 i true)))), (ad 11, .inl (cI, 91, .inl (nF ol)))] := hD
            refine lv_iconst (v := nI 1) hx hb dX4_addCrossings_47 (by decide) ?_
            refine lv_istore_n (lv' := [(1, .int (nI 1)), (0, .ref (ad 8)), (2, .int (nI i))]) hx hb dX4_addCrossings_48 rfl hl (by decide) rfl (fun ls hl => ?_)
            refine lv_iinc (v := nI (i + 1)) (lv' := [(2, .int (nI (i + 1))), (1, .int (nI 1)), (0, .ref (ad 8))]) hx hb dX4_addCrossings_49 hl (k := 2) rfl (nI_inc i) (by decide) rfl (fun ls hl => ?_)
            refine lv_goto (tgt := 4) hx hb dX4_addCrossings_52 (by decide) ?_
            exact ih4 true (i + 1) (upB G1 i true) ls _ _ (by omega) (by omega) (fun t ht => (Nat.lt_succ_iff_lt_or_eq.mp ht).elim (fun h => by rw [upB_n (by omega)]; exact k_s t h) (fun h => by rw [h, upB_s, decide_eq_true c37, Bool.or_true])) (fun t ht => by rw [upB_n (by omega)]; exact k_h t (by omega)) (by rw [anyB, ← k_h i (Nat.le_refl i), c21, decide_eq_true c37]; simp) (lv_sub hl [2, 1, 0] rfl) hP hD hS
  exact L4 (nn q - 0 + 1) false 0 gr ls _ _ (by omega) (Nat.zero_le _) (fun t h => absurd h (Nat.not_lt_zero t)) (fun _ _ => rfl) rfl (lv_sub hl [2, 1, 0] rfl) hP hD hS

set_option maxHeartbeats 4000000 in
set_option maxRecDepth 100000 in
theorem c_X4_close (l : Launch) (D : va_G) (cI cZ : ClassId) (ad : Nat → Nat) (q : Nat) (sm : Nat → Nat) (pr : Nat → Nat) (op : Nat → Nat) (iv : Nat → Nat) (hF : FOK q sm pr op iv) (tr : Nat → Nat) (ro : Nat → Nat) (hT : TOK q tr) (hR : ROK q ro) (S : Nat → Bool) (gr : Nat → Bool) (ol : Nat → Nat) : CtW (S := (Nat → Bool) × (Nat → Nat)) l yX4_close wsX4_close { frames := 3, cells := 0, slots := 0, locals := 68 } D (tyG cI cZ) [.ref (ad 8)] [(ad 0, .inr (1, [.int (nI q), .ref (ad 1), .ref (ad 2), .ref (ad 3), .ref (ad 4)])), (ad 1, .inl (cI, 81, .inl (nF sm))), (ad 2, .inl (cI, 81, .inl (nF pr))), (ad 3, .inl (cI, 9, .inl (nF op))), (ad 4, .inl (cI, 9, .inl (nF iv))), (ad 5, .inr (3, [.ref (ad 0), .int (nI (nn q)), .ref (ad 6), .ref (ad 7)])), (ad 6, .inl (cI, 273, .inl (nF tr))), (ad 7, .inl (cI, 910, .inl (nF ro))), (ad 8, .inr (4, [.ref (ad 5), .ref (ad 9), .ref (ad 10), .ref (ad 11)])), (ad 9, .inl (cZ, 91, .inl (bF S))), (ad 10, .inl (cZ, 91, .inl (bF gr))), (ad 11, .inl (cI, 91, .inl (nF ol)))] (fun u => (fun (gr3 : Nat → Bool) (ol3 : Nat → Nat) => eqN (nn q) gr3 (cloq q S)) u.1 u.2) (fun u => (fun (gr3 : Nat → Bool) (ol3 : Nat → Nat) => some (.ref (ad 10))) u.1 u.2) (fun u => (fun (gr3 : Nat → Bool) (ol3 : Nat → Nat) => [(ad 0, .inr (1, [.int (nI q), .ref (ad 1), .ref (ad 2), .ref (ad 3), .ref (ad 4)])), (ad 1, .inl (cI, 81, .inl (nF sm))), (ad 2, .inl (cI, 81, .inl (nF pr))), (ad 3, .inl (cI, 9, .inl (nF op))), (ad 4, .inl (cI, 9, .inl (nF iv))), (ad 5, .inr (3, [.ref (ad 0), .int (nI (nn q)), .ref (ad 6), .ref (ad 7)])), (ad 6, .inl (cI, 273, .inl (nF tr))), (ad 7, .inl (cI, 910, .inl (nF ro))), (ad 8, .inr (4, [.ref (ad 5), .ref (ad 9), .ref (ad 10), .ref (ad 11)])), (ad 9, .inl (cZ, 91, .inl (bF S))), (ad 10, .inl (cZ, 91, .inl (bF gr3))), (ad 11, .inl (cI, 91, .inl (nF ol3)))]) u.1 u.2) := by
  intro sz; refine Met.ofW (cc := cX4_close) (maxL := 3) (ret := some (.array .boolean)) (by decide) rfl ?_
  intro p e s m args below meth c s₁ B hml hv
  obtain ⟨rfl, hsz, hP, hK, hD0, hN⟩ := hv
  have hx := B.exec
  have hb := B.bytes
  have hr := B.returns
  have hts := atoms_spec (ws := wsX4_close) B.pre
  have hown : s.vm.findClass RX4 = some m.cls := findClass_of_methodNamed B.named
  have hlocks := B.notSynchronized
  subst hsz
  have hD := hD0.self (sz := s.heap.size)
  generalize hAe : va_A [(ad 0, .inr (1, [.int (nI q), .ref (ad 1), .ref (ad 2), .ref (ad 3), .ref (ad 4)])), (ad 1, .inl (cI, 81, .inl (nF sm))), (ad 2, .inl (cI, 81, .inl (nF pr))), (ad 3, .inl (cI, 9, .inl (nF op))), (ad 4, .inl (cI, 9, .inl (nF iv))), (ad 5, .inr (3, [.ref (ad 0), .int (nI (nn q)), .ref (ad 6), .ref (ad 7)])), (ad 6, .inl (cI, 273, .inl (nF tr))), (ad 7, .inl (cI, 910, .inl (nF ro))), (ad 8, .inr (4, [.ref (ad 5), .ref (ad 9), .ref (ad 10), .ref (ad 11)])), (ad 9, .inl (cZ, 91, .inl (bF S))), (ad 10, .inl (cZ, 91, .inl (bF gr))), (ad 11, .inl (cI, 91, .inl (nF ol)))] s.heap.size = A at hD ⊢
  have hA : ∀ q : Nat, s.heap.size ≤ q → A q := fun q h => by rw [← hAe]; exact Or.inr h
  have hS : va_S A s.heap s.heap [] := va_S.rf
  have hP : va_P D vwCl [(ad 0, .inr (1, [.int (nI q), .ref (ad 1), .ref (ad 2), .ref (ad 3), .ref (ad 4)])), (ad 1, .inl (cI, 81, .inl (nF sm))), (ad 2, .inl (cI, 81, .inl (nF pr))), (ad 3, .inl (cI, 9, .inl (nF op))), (ad 4, .inl (cI, 9, .inl (nF iv))), (ad 5, .inr (3, [.ref (ad 0), .int (nI (nn q)), .ref (ad 6), .ref (ad 7)])), (ad 6, .inl (cI, 273, .inl (nF tr))), (ad 7, .inl (cI, 910, .inl (nF ro))), (ad 8, .inr (4, [.ref (ad 5), .ref (ad 9), .ref (ad 10), .ref (ad 11)])), (ad 9, .inl (cZ, 91, .inl (bF S))), (ad 10, .inl (cZ, 91, .inl (bF gr))), (ad 11, .inl (cI, 91, .inl (nF ol)))] s.heap := hP
  have hf15 := hts (.fieldLink RX4 15 "FinitePlanes$PointSet" "grown" "[Z") (by decide +kernel)
  have hf18 := hts (.fieldLink RX4 18 "FinitePlanes$PointSet" "onLine" "[I") (by decide +kernel)
  have hf22 := hts (.fieldLink RX4 22 "FinitePlanes$PointSet" "plane" "LFinitePlanes$Plane;") (by decide +kernel)
  have hf32 := hN.use (w := .fieldLinkNest RX4 32 "FinitePlanes$Plane" "n" "I" "FinitePlanes") (by decide +kernel) (A := [.ref (ad 8)].toArray)
  have hiX3 : ∀ w ∈ u_ws RX3 TX3 4, w ∈ wsX4_close := by decide +kernel
  have hiX4 : ∀ w ∈ u_ws RX4 TX4 4, w ∈ wsX4_close := by decide +kernel
  have hl := lv_entry ([.ref (ad 8)]) (n := 3) (Nat.le_of_ble_eq_true rfl)
  rw [lg_entry_eq]
  generalize (lg_sl ([.ref (ad 8)]) ++ List.replicate (3 - (lg_sl ([.ref (ad 8)])).length) Slot.unset).toArray = ls at hl ⊢
  have hl : lv_has ls 3 [(0, .ref (ad 8))] := hl
  have hq2 := qs_le hF.1
  have hn2 := nn_le hF.1
  refine lv_aload_n hx hb dX4_close_0 rfl (lv_at hl 0 rfl) ?_
  refine ctW_V (As := []) (rest := []) (wr := []) ⟨hx, hb, hml, hown, hts⟩ (c_X4_startGrowing l D cI cZ ad q sm pr op iv hF tr ro hT hR S gr ol) (cwV 0 hts gX4_close_X4_startGrowing rfl rfl rfl hdV_X4_startGrowing ⟨Nat.le_of_ble_eq_true rfl, Nat.le_of_ble_eq_true rfl⟩) hK hN hP hD hS hA [0, 1, 2, 3, 4, 5, 6, 7, 8, 9, 10, 11] [] rfl rfl rfl (by decide) (by decide) (by decide) 8 4 rfl rfl rfl hl.1 rfl (Nat.le_of_ble_eq_true rfl) ⟨Nat.zero_le _, Nat.zero_le _⟩ dX4_close_1 (fun u H locs hu1 hP hD hS => ?_)
  obtain ⟨gr_1, ol_2⟩ := u
  try dsimp only at hu1
  have hP : va_P D vwCl [(ad 0, .inr (1, [.int (nI q), .ref (ad 1), .ref (ad 2), .ref (ad 3), .ref (ad 4)])), (ad 1, .inl (cI, 81, .inl (nF sm))), (ad 2, .inl (cI, 81, .inl (nF pr))), (ad 3, .inl (cI, 9, .inl (nF op))), (ad 4, .inl (cI, 9, .inl (nF iv))), (ad 5, .inr (3, [.ref (ad 0), .int (nI (nn q)), .ref (ad 6), .ref (ad 7)])), (ad 6, .inl (cI, 273, .inl (nF tr))), (ad 7, .inl (cI, 910, .inl (nF ro))), (ad 8, .inr (4, [.ref (ad 5), .ref (ad 9), .ref (ad 10), .ref (ad 11)])), (ad 9, .inl (cZ, 91, .inl (bF S))), (ad 10, .inl (cZ, 91, .inl (bF gr_1))), (ad 11, .inl (cI, 91, .inl (nF ol_2)))] H := hP.sub [0, 1, 2, 3, 4, 5, 6, 7, 8, 9, 10, 11] rfl
  have hD : va_D A [(ad 0, .inr (1, [.int (nI q), .ref (ad 1), .ref (ad 2), .ref (ad 3), .ref (ad 4)])), (ad 1, .inl (cI, 81, .inl (nF sm))), (ad 2, .inl (cI, 81, .inl (nF pr))), (ad 3, .inl (cI, 9, .inl (nF op))), (ad 4, .inl (cI, 9, .inl (nF iv))), (ad 5, .inr (3, [.ref (ad 0), .int (nI (nn q)), .ref (ad 6), .ref (ad 7)])), (ad 6, .inl (cI, 273, .inl (nF tr))), (ad 7, .inl (cI, 910, .inl (nF ro))), (ad 8, .inr (4, [.ref (ad 5), .ref (ad 9), .ref (ad 10), .ref (ad 11)])), (ad 9, .inl (cZ, 91, .inl (bF S))), (ad 10, .inl (cZ, 91, .inl (bF gr_1))), (ad 11, .inl (cI, 91, .inl (nF ol_2)))] := hD.sub [0, 1, 2, 3, 4, 5, 6, 7, 8, 9, 10, 11] (by decide) rfl
  refine W.eq (g2 := F0 m 4 ls []) rfl ?_
  refine lv_iconst (v := nI 1) hx hb dX4_close_4 (by decide) ?_
  refine lv_istore_n (lv' := [(1, .int (nI 1)), (0, .ref (ad 8))]) hx hb dX4_close_5 rfl hl (by decide) rfl (fun ls hl => ?_)
  refine lv_iconst (v := nI 0) hx hb dX4_close_6 (by decide) ?_
  refine lv_istore_n (lv' := [(2, .int (nI 0)), (1, .int (nI 1)), (0, .ref (ad 8))]) hx hb dX4_close_7 rfl hl (by decide) rfl (fun ls hl => ?_)
  have L8 : ∀ (N8 : Nat) (b : Bool) (i : Nat) (G1 : Nat → Bool) (o1 : Nat → Nat) (ls : Array Slot) (H : Heap) (locs : List Loc), nn q - i < N8 → (i ≤ nn q) → (eqN (nn q) G1 (itC q S i)) → (∀ t, t < nn q → o1 t = metq q G1 t) → (b = false → ∀ j, eqN (nn q) (itC q S (i + j)) (itC q S i)) → lv_has ls 3 [(0, .ref (ad 8)), (1, .int (nI (b).toNat)), (2, .int (nI i))] → va_P D vwCl [(ad 0, .inr (1, [.int (nI q), .ref (ad 1), .ref (ad 2), .ref (ad 3), .ref (ad 4)])), (ad 1, .inl (cI, 81, .inl (nF sm))), (ad 2, .inl (cI, 81, .inl (nF pr))), (ad 3, .inl (cI, 9, .inl (nF op))), (ad 4, .inl (cI, 9, .inl (nF iv))), (ad 5, .inr (3, [.ref (ad 0), .int (nI (nn q)), .ref (ad 6), .ref (ad 7)])), (ad 6, .inl (cI, 273, .inl (nF tr))), (ad 7, .inl (cI, 910, .inl (nF ro))), (ad 8, .inr (4, [.ref (ad 5), .ref (ad 9), .ref (ad 10), .ref (ad 11)])), (ad 9, .inl (cZ, 91, .inl (bF S))), (ad 10, .inl (cZ, 91, .inl (bF G1))), (ad 11, .inl (cI, 91, .inl (nF o1)))] H → va_D A [(ad 0, .inr (1, [.int (nI q), .ref (ad 1), .ref (ad 2), .ref (ad 3), .ref (ad 4)])), (ad 1, .inl (cI, 81, .inl (nF sm))), (ad 2, .inl (cI, 81, .inl (nF pr))), (ad 3, .inl (cI, 9, .inl (nF op))), (ad 4, .inl (cI, 9, .inl (nF iv))), (ad 5, .inr (3, [.ref (ad 0), .int (nI (nn q)), .ref (ad 6), .ref (ad 7)])), (ad 6, .inl (cI, 273, .inl (nF tr))), (ad 7, .inl (cI, 910, .inl (nF ro))), (ad 8, .inr (4, [.ref (ad 5), .ref (ad 9), .ref (ad 10), .ref (ad 11)])), (ad 9, .inl (cZ, 91, .inl (bF S))), (ad 10, .inl (cZ, 91, .inl (bF G1))), (ad 11, .inl (cI, 91, .inl (nF o1)))] → va_S A s.heap H locs → WG p l e wsX4_close { frames := 3, cells := 0, slots := 0, locals := 68 } s m [.ref (ad 8)] below meth c H locs (CQ (S := (Nat → Bool) × (Nat → Nat)) D (fun u => (fun (gr3 : Nat → Bool) (ol3 : Nat → Nat) => eqN (nn q) gr3 (cloq q S)) u.1 u.2) (fun u => (fun (gr3 : Nat → Bool) (ol3 : Nat → Nat) => some (.ref (ad 10))) u.1 u.2) (fun u => (fun (gr3 : Nat → Bool) (ol3 : Nat → Nat) => [(ad 0, .inr (1, [.int (nI q), .ref (ad 1), .ref (ad 2), .ref (ad 3), .ref (ad 4)])), (ad 1, .inl (cI, 81, .inl (nF sm))), (ad 2, .inl (cI, 81, .inl (nF pr))), (ad 3, .inl (cI, 9, .inl (nF op))), (ad 4, .inl (cI, 9, .inl (nF iv))), (ad 5, .inr (3, [.ref (ad 0), .int (nI (nn q)), .ref (ad 6), .ref (ad 7)])), (ad 6, .inl (cI, 273, .inl (nF tr))), (ad 7, .inl (cI, 910, .inl (nF ro))), (ad 8, .inr (4, [.ref (ad 5), .ref (ad 9), .ref (ad 10), .ref (ad 11)])), (ad 9, .inl (cZ, 91, .inl (bF S))), (ad 10, .inl (cZ, 91, .inl (bF gr3))), (ad 11, .inl (cI, 91, .inl (nF ol3)))]) u.1 u.2) A) A 8 ls [] := by
    intro N8
    induction N8 with
    | zero => intro b i G1 o1 ls H locs hN; exact absurd hN (Nat.not_lt_zero _)
    | succ N8 ih8 =>
      intro b i G1 o1 ls H locs hN8 k_i k_e k_o k_g hl hP hD hS
      refine lv_iload_n hx hb dX4_close_8 rfl (lv_at hl 1 rfl) ?_
      refine nv_ifb_eq (tgt := 49) hx hb dX4_close_9 (by decide) (fun c9 => ?_) (fun c9 => ?_)
      · refine lv_aload_n hx hb dX4_close_49 rfl (lv_at hl 0 rfl) ?_
        refine va_get (D := D) (ci := 4) (v := .ref (ad 10)) (C := RX4) (T := TX4) (N := 4) hx hb hts hiX4 hown hK hP 8 rfl rfl 2 (by decide) hf15 (fun _ h9 => h9) rfl dX4_close_50 ?_
        exact ctW_retA (G1, o1) hx hb hr dX4_close_53 hlocks hS hP hD (by dsimp only; exact (fun t ht => (k_e t ht).trans (by have := (k_g c9 (nn q - i)) t ht; rw [show i + (nn q - i) = nn q by omega] at this; exact this.symm))) rfl
      · refine lv_iload_n hx hb dX4_close_12 rfl (lv_at hl 2 rfl) ?_
        refine lv_aload_n hx hb dX4_close_13 rfl (lv_at hl 0 rfl) ?_
        refine va_get (D := D) (ci := 4) (v := .ref (ad 5)) (C := RX4) (T := TX4) (N := 4) hx hb hts hiX4 hown hK hP 8 rfl rfl 0 (by decide) hf22 (fun _ h9 => h9) rfl dX4_close_14 ?_
        refine va_getN (D := D) (ci := 3) (v := .int (nI (nn q))) (C := RX3) (T := TX3) (N := 4) hx hb hts hiX3 hown hK hP 5 rfl rfl 1 (by decide) hf32 (fun _ h9 => h9) rfl dX4_close_17 ?_
        refine nv_icmp_ge (tgt := 49) hx hb (by omega) (by omega) dX4_close_20 (by decide) (fun c20 => ?_) (fun c20 => ?_)
        · refine lv_aload_n hx hb dX4_close_49 rfl (lv_at hl 0 rfl) ?_
          refine va_get (D := D) (ci := 4) (v := .ref (ad 10)) (C := RX4) (T := TX4) (N := 4) hx hb hts hiX4 hown hK hP 8 rfl rfl 2 (by decide) hf15 (fun _ h9 => h9) rfl dX4_close_50 ?_
          exact ctW_retA (G1, o1) hx hb hr dX4_close_53 hlocks hS hP hD (by dsimp only; exact (by rw [cloq]; rw [show itC q S i = itC q S (nn q) by rw [show i = nn q by omega]] at k_e; exact k_e)) rfl
        · refine lv_aload_n hx hb dX4_close_23 rfl (lv_at hl 0 rfl) ?_
          refine ctW_V (As := []) (rest := []) (wr := []) ⟨hx, hb, hml, hown, hts⟩ (c_X4_addCrossings l D cI cZ ad q sm pr op iv hF tr ro hT hR S G1 o1 (fun t ht => by rw [k_o t ht]; have := metq_le q G1 t; omega)) (cwV 0 hts gX4_close_X4_addCrossings rfl rfl rfl hdV_X4_addCrossings ⟨Nat.le_of_ble_eq_true rfl, Nat.le_of_ble_eq_true rfl⟩) hK hN hP hD hS hA [0, 1, 2, 3, 4, 5, 6, 7, 8, 9, 10, 11] [] rfl rfl rfl (by decide) (by decide) (by decide) 8 4 rfl rfl rfl hl.1 rfl (Nat.le_of_ble_eq_true rfl) ⟨Nat.zero_le _, Nat.zero_le _⟩ dX4_close_24 (fun u H locs hu24 hP hD hS => ?_)
          obtain ⟨gr_3, b_4⟩ := u
          try dsimp only at hu24
          have hP : va_P D vwCl [(ad 0, .inr (1, [.int (nI q), .ref (ad 1), .ref (ad 2), .ref (ad 3), .ref (ad 4)])), (ad 1, .inl (cI, 81, .inl (nF sm))), (ad 2, .inl (cI, 81, .inl (nF pr))), (ad 3, .inl (cI, 9, .inl (nF op))), (ad 4, .inl (cI, 9, .inl (nF iv))), (ad 5, .inr (3, [.ref (ad 0), .int (nI (nn q)), .ref (ad 6), .ref (ad 7)])), (ad 6, .inl (cI, 273, .inl (nF tr))), (ad 7, .inl (cI, 910, .inl (nF ro))), (ad 8, .inr (4, [.ref (ad 5), .ref (ad 9), .ref (ad 10), .ref (ad 11)])), (ad 9, .inl (cZ, 91, .inl (bF S))), (ad 10, .inl (cZ, 91, .inl (bF gr_3))), (ad 11, .inl (cI, 91, .inl (nF o1)))] H := hP.sub [0, 1, 2, 3, 4, 5, 6, 7, 8, 9, 10, 11] rfl
          have hD : va_D A [(ad 0, .inr (1, [.int (nI q), .ref (ad 1), .ref (ad 2), .ref (ad 3), .ref (ad 4)])), (ad 1, .inl (cI, 81, .inl (nF sm))), (ad 2, .inl (cI, 81, .inl (nF pr))), (ad 3, .inl (cI, 9, .inl (nF op))), (ad 4, .inl (cI, 9, .inl (nF iv))), (ad 5, .inr (3, [.ref (ad 0), .int (nI (nn q)), .ref (ad 6), .ref (ad 7)])), (ad 6, .inl (cI, 273, .inl (nF tr))), (ad 7, .inl (cI, 910, .inl (nF ro))), (ad 8, .inr (4, [.ref (ad 5), .ref (ad 9), .ref (ad 10), .ref (ad 11)])), (ad 9, .inl (cZ, 91, .inl (bF S))), (ad 10, .inl (cZ, 91, .inl (bF gr_3))), (ad 11, .inl (cI, 91, .inl (nF o1)))] := hD.sub [0, 1, 2, 3, 4, 5, 6, 7, 8, 9, 10, 11] (by decide) rfl
          refine W.eq (g2 := F0 m 27 ls [.int (nI (b_4).toNat)]) rfl ?_
          have he24 : eqN (nn q) (stpC q G1) (itC q S (i + 1)) := stp_congr hF.1 k_e
          have he25 : eqN (nn q) gr_3 (itC q S (i + 1)) := fun t ht => by rw [hu24.1 t ht, ← he24 t ht, stpC, secq_congr hF.1 ht k_o]
          refine lv_istore_n (lv' := [(1, .int (nI (b_4).toNat)), (0, .ref (ad 8)), (2, .int (nI i))]) hx hb dX4_close_27 rfl hl (by decide) rfl (fun ls hl => ?_)
          refine lv_aload_n hx hb dX4_close_28 rfl (lv_at hl 1 rfl) ?_
          refine va_get (D := D) (ci := 4) (v := .ref (ad 5)) (C := RX4) (T := TX4) (N := 4) hx hb hts hiX4 hown hK hP 8 rfl rfl 0 (by decide) hf22 (fun _ h9 => h9) rfl dX4_close_29 ?_
          refine lv_aload_n hx hb dX4_close_32 rfl (lv_at hl 1 rfl) ?_
          refine va_get (D := D) (ci := 4) (v := .ref (ad 10)) (C := RX4) (T := TX4) (N := 4) hx hb hts hiX4 hown hK hP 8 rfl rfl 2 (by decide) hf15 (fun _ h9 => h9) rfl dX4_close_33 ?_
          refine lv_aload_n hx hb dX4_close_36 rfl (lv_at hl 1 rfl) ?_
          refine va_get (D := D) (ci := 4) (v := .ref (ad 11)) (C := RX4) (T := TX4) (N := 4) hx hb hts hiX4 hown hK hP 8 rfl rfl 3 (by decide) hf18 (fun _ h9 => h9) rfl dX4_close_37 ?_
          refine ctW_V (As := [.ref (ad 10), .ref (ad 11)]) (rest := []) (wr := [(ad 8, .inr (4, [.ref (ad 5), .ref (ad 9), .ref (ad 10), .ref (ad 11)])), (ad 9, .inl (cZ, 91, .inl (bF S)))]) ⟨hx, hb, hml, hown, hts⟩ (c_X3_tally l D cI cZ ad q sm pr op iv hF tr ro hT hR (ad 10) gr_3 (ad 11) o1) (cwV 2 hts gX4_close_X3_tally rfl rfl rfl hdV_X3_tally ⟨Nat.le_of_ble_eq_true rfl, Nat.le_of_ble_eq_true rfl⟩) hK hN hP hD hS hA [0, 1, 2, 3, 4, 5, 6, 7, 10, 11] [8, 9] rfl rfl rfl (by decide) (by decide) (by decide) 5 3 rfl rfl rfl hl.1 rfl (Nat.le_of_ble_eq_true rfl) ⟨Nat.zero_le _, Nat.zero_le _⟩ dX4_close_40 (fun ol_5 H locs hu40 hP hD hS => ?_)
          try dsimp only at hu40
          have hP : va_P D vwCl [(ad 0, .inr (1, [.int (nI q), .ref (ad 1), .ref (ad 2), .ref (ad 3), .ref (ad 4)])), (ad 1, .inl (cI, 81, .inl (nF sm))), (ad 2, .inl (cI, 81, .inl (nF pr))), (ad 3, .inl (cI, 9, .inl (nF op))), (ad 4, .inl (cI, 9, .inl (nF iv))), (ad 5, .inr (3, [.ref (ad 0), .int (nI (nn q)), .ref (ad 6), .ref (ad 7)])), (ad 6, .inl (cI, 273, .inl (nF tr))), (ad 7, .inl (cI, 910, .inl (nF ro))), (ad 8, .inr (4, [.ref (ad 5), .ref (ad 9), .ref (ad 10), .ref (ad 11)])), (ad 9, .inl (cZ, 91, .inl (bF S))), (ad 10, .inl (cZ, 91, .inl (bF gr_3))), (ad 11, .inl (cI, 91, .inl (nF ol_5)))] H := hP.sub [2, 3, 4, 5, 6, 7, 8, 9, 0, 1, 10, 11] rfl
          have hD : va_D A [(ad 0, .inr (1, [.int (nI q), .ref (ad 1), .ref (ad 2), .ref (ad 3), .ref (ad 4)])), (ad 1, .inl (cI, 81, .inl (nF sm))), (ad 2, .inl (cI, 81, .inl (nF pr))), (ad 3, .inl (cI, 9, .inl (nF op))), (ad 4, .inl (cI, 9, .inl (nF iv))), (ad 5, .inr (3, [.ref (ad 0), .int (nI (nn q)), .ref (ad 6), .ref (ad 7)])), (ad 6, .inl (cI, 273, .inl (nF tr))), (ad 7, .inl (cI, 910, .inl (nF ro))), (ad 8, .inr (4, [.ref (ad 5), .ref (ad 9), .ref (ad 10), .ref (ad 11)])), (ad 9, .inl (cZ, 91, .inl (bF S))), (ad 10, .inl (cZ, 91, .inl (bF gr_3))), (ad 11, .inl (cI, 91, .inl (nF ol_5)))] := hD.sub [2, 3, 4, 5, 6, 7, 8, 9, 0, 1, 10, 11] (by decide) rfl
          refine W.eq (g2 := F0 m 43 ls []) rfl ?_
          refine lv_iinc (v := nI (i + 1)) (lv' := [(2, .int (nI (i + 1))), (1, .int (nI (b_4).toNat)), (0, .ref (ad 8))]) hx hb dX4_close_43 hl (k := 2) rfl (nI_inc i) (by decide) rfl (fun ls hl => ?_)
          refine lv_goto (tgt := 8) hx hb dX4_close_46 (by decide) ?_
          exact ih8 b_4 (i + 1) gr_3 ol_5 ls _ _ (by omega) (by omega) he25 hu40 (fun h => it_stab (i := i + 1) hF.1 ((stp_congr hF.1 (close_no hF.1 k_e k_o hu24.2 h)).tr (fun _ _ => rfl))) (lv_sub hl [2, 1, 0] rfl) hP hD hS
  exact L8 (nn q - 0 + 1) true 0 gr_1 ol_2 ls _ _ (by omega) (Nat.zero_le _) hu1.1 (fun t ht => by rw [hu1.2 t ht]; exact met_congr hu1.1.sy) (fun h => by cases h) (lv_sub hl [2, 1, 0] rfl) hP hD hS

set_option maxHeartbeats 4000000 in
set_option maxRecDepth 100000 in
theorem c_X4_growArc (l : Launch) (D : va_G) (cI cZ : ClassId) (ad : Nat → Nat) (q : Nat) (sm : Nat → Nat) (pr : Nat → Nat) (op : Nat → Nat) (iv : Nat → Nat) (hF : FOK q sm pr op iv) (tr : Nat → Nat) (ro : Nat → Nat) (hT : TOK q tr) (hR : ROK q ro) (S : Nat → Bool) (gr : Nat → Bool) (ol : Nat → Nat) : CtW (S := (Nat → Bool) × (Nat → Nat)) l yX4_growArc wsX4_growArc { frames := 3, cells := 0, slots := 0, locals := 68 } D (tyG cI cZ) [.ref (ad 8)] [(ad 0, .inr (1, [.int (nI q), .ref (ad 1), .ref (ad 2), .ref (ad 3), .ref (ad 4)])), (ad 1, .inl (cI, 81, .inl (nF sm))), (ad 2, .inl (cI, 81, .inl (nF pr))), (ad 3, .inl (cI, 9, .inl (nF op))), (ad 4, .inl (cI, 9, .inl (nF iv))), (ad 5, .inr (3, [.ref (ad 0), .int (nI (nn q)), .ref (ad 6), .ref (ad 7)])), (ad 6, .inl (cI, 273, .inl (nF tr))), (ad 7, .inl (cI, 910, .inl (nF ro))), (ad 8, .inr (4, [.ref (ad 5), .ref (ad 9), .ref (ad 10), .ref (ad 11)])), (ad 9, .inl (cZ, 91, .inl (bF S))), (ad 10, .inl (cZ, 91, .inl (bF gr))), (ad 11, .inl (cI, 91, .inl (nF ol)))] (fun u => (fun (gr3 : Nat → Bool) (ol3 : Nat → Nat) => eqN (nn q) gr3 (grq q S (nn q))) u.1 u.2) (fun u => (fun (gr3 : Nat → Bool) (ol3 : Nat → Nat) => some (.ref (ad 10))) u.1 u.2) (fun u => (fun (gr3 : Nat → Bool) (ol3 : Nat → Nat) => [(ad 0, .inr (1, [.int (nI q), .ref (ad 1), .ref (ad 2), .ref (ad 3), .ref (ad 4)])), (ad 1, .inl (cI, 81, .inl (nF sm))), (ad 2, .inl (cI, 81, .inl (nF pr))), (ad 3, .inl (cI, 9, .inl (nF op))), (ad 4, .inl (cI, 9, .inl (nF iv))), (ad 5, .inr (3, [.ref (ad 0), .int (nI (nn q)), .ref (ad 6), .ref (ad 7)])), (ad 6, .inl (cI, 273, .inl (nF tr))), (ad 7, .inl (cI, 910, .inl (nF ro))), (ad 8, .inr (4, [.ref (ad 5), .ref (ad 9), .ref (ad 10), .ref (ad 11)])), (ad 9, .inl (cZ, 91, .inl (bF S))), (ad 10, .inl (cZ, 91, .inl (bF gr3))), (ad 11, .inl (cI, 91, .inl (nF ol3)))]) u.1 u.2) := by
  intro sz; refine Met.ofW (cc := cX4_growArc) (maxL := 2) (ret := some (.array .boolean)) (by decide) rfl ?_
  intro p e s m args below meth c s₁ B hml hv
  obtain ⟨rfl, hsz, hP, hK, hD0, hN⟩ := hv
  have hx := B.exec
  have hb := B.bytes
  have hr := B.returns
  have hts := atoms_spec (ws := wsX4_growArc) B.pre
  have hown : s.vm.findClass RX4 = some m.cls := findClass_of_methodNamed B.named
  have hlocks := B.notSynchronized
  subst hsz
  have hD := hD0.self (sz := s.heap.size)
  generalize hAe : va_A [(ad 0, .inr (1, [.int (nI q), .ref (ad 1), .ref (ad 2), .ref (ad 3), .ref (ad 4)])), (ad 1, .inl (cI, 81, .inl (nF sm))), (ad 2, .inl (cI, 81, .inl (nF pr))), (ad 3, .inl (cI, 9, .inl (nF op))), (ad 4, .inl (cI, 9, .inl (nF iv))), (ad 5, .inr (3, [.ref (ad 0), .int (nI (nn q)), .ref (ad 6), .ref (ad 7)])), (ad 6, .inl (cI, 273, .inl (nF tr))), (ad 7, .inl (cI, 910, .inl (nF ro))), (ad 8, .inr (4, [.ref (ad 5), .ref (ad 9), .ref (ad 10), .ref (ad 11)])), (ad 9, .inl (cZ, 91, .inl (bF S))), (ad 10, .inl (cZ, 91, .inl (bF gr))), (ad 11, .inl (cI, 91, .inl (nF ol)))] s.heap.size = A at hD ⊢
  have hA : ∀ q : Nat, s.heap.size ≤ q → A q := fun q h => by rw [← hAe]; exact Or.inr h
  have hS : va_S A s.heap s.heap [] := va_S.rf
  have hP : va_P D vwCl [(ad 0, .inr (1, [.int (nI q), .ref (ad 1), .ref (ad 2), .ref (ad 3), .ref (ad 4)])), (ad 1, .inl (cI, 81, .inl (nF sm))), (ad 2, .inl (cI, 81, .inl (nF pr))), (ad 3, .inl (cI, 9, .inl (nF op))), (ad 4, .inl (cI, 9, .inl (nF iv))), (ad 5, .inr (3, [.ref (ad 0), .int (nI (nn q)), .ref (ad 6), .ref (ad 7)])), (ad 6, .inl (cI, 273, .inl (nF tr))), (ad 7, .inl (cI, 910, .inl (nF ro))), (ad 8, .inr (4, [.ref (ad 5), .ref (ad 9), .ref (ad 10), .ref (ad 11)])), (ad 9, .inl (cZ, 91, .inl (bF S))), (ad 10, .inl (cZ, 91, .inl (bF gr))), (ad 11, .inl (cI, 91, .inl (nF ol)))] s.heap := hP
  have hf15 := hts (.fieldLink RX4 15 "FinitePlanes$PointSet" "grown" "[Z") (by decide +kernel)
  have hf18 := hts (.fieldLink RX4 18 "FinitePlanes$PointSet" "onLine" "[I") (by decide +kernel)
  have hf22 := hts (.fieldLink RX4 22 "FinitePlanes$PointSet" "plane" "LFinitePlanes$Plane;") (by decide +kernel)
  have hf32 := hN.use (w := .fieldLinkNest RX4 32 "FinitePlanes$Plane" "n" "I" "FinitePlanes") (by decide +kernel) (A := [.ref (ad 8)].toArray)
  have hiX3 : ∀ w ∈ u_ws RX3 TX3 4, w ∈ wsX4_growArc := by decide +kernel
  have hiX4 : ∀ w ∈ u_ws RX4 TX4 4, w ∈ wsX4_growArc := by decide +kernel
  have hl := lv_entry ([.ref (ad 8)]) (n := 2) (Nat.le_of_ble_eq_true rfl)
  rw [lg_entry_eq]
  generalize (lg_sl ([.ref (ad 8)]) ++ List.replicate (2 - (lg_sl ([.ref (ad 8)])).length) Slot.unset).toArray = ls at hl ⊢
  have hl : lv_has ls 2 [(0, .ref (ad 8))] := hl
  have hq2 := qs_le hF.1
  have hn2 := nn_le hF.1
  refine lv_aload_n hx hb dX4_growArc_0 rfl (lv_at hl 0 rfl) ?_
  refine ctW_V (As := []) (rest := []) (wr := []) ⟨hx, hb, hml, hown, hts⟩ (c_X4_startGrowing l D cI cZ ad q sm pr op iv hF tr ro hT hR S gr ol) (cwV 0 hts gX4_growArc_X4_startGrowing rfl rfl rfl hdV_X4_startGrowing ⟨Nat.le_of_ble_eq_true rfl, Nat.le_of_ble_eq_true rfl⟩) hK hN hP hD hS hA [0, 1, 2, 3, 4, 5, 6, 7, 8, 9, 10, 11] [] rfl rfl rfl (by decide) (by decide) (by decide) 8 4 rfl rfl rfl hl.1 rfl (Nat.le_of_ble_eq_true rfl) ⟨Nat.zero_le _, Nat.zero_le _⟩ dX4_growArc_1 (fun u H locs hu1 hP hD hS => ?_)
  obtain ⟨gr_1, ol_2⟩ := u
  try dsimp only at hu1
  have hP : va_P D vwCl [(ad 0, .inr (1, [.int (nI q), .ref (ad 1), .ref (ad 2), .ref (ad 3), .ref (ad 4)])), (ad 1, .inl (cI, 81, .inl (nF sm))), (ad 2, .inl (cI, 81, .inl (nF pr))), (ad 3, .inl (cI, 9, .inl (nF op))), (ad 4, .inl (cI, 9, .inl (nF iv))), (ad 5, .inr (3, [.ref (ad 0), .int (nI (nn q)), .ref (ad 6), .ref (ad 7)])), (ad 6, .inl (cI, 273, .inl (nF tr))), (ad 7, .inl (cI, 910, .inl (nF ro))), (ad 8, .inr (4, [.ref (ad 5), .ref (ad 9), .ref (ad 10), .ref (ad 11)])), (ad 9, .inl (cZ, 91, .inl (bF S))), (ad 10, .inl (cZ, 91, .inl (bF gr_1))), (ad 11, .inl (cI, 91, .inl (nF ol_2)))] H := hP.sub [0, 1, 2, 3, 4, 5, 6, 7, 8, 9, 10, 11] rfl
  have hD : va_D A [(ad 0, .inr (1, [.int (nI q), .ref (ad 1), .ref (ad 2), .ref (ad 3), .ref (ad 4)])), (ad 1, .inl (cI, 81, .inl (nF sm))), (ad 2, .inl (cI, 81, .inl (nF pr))), (ad 3, .inl (cI, 9, .inl (nF op))), (ad 4, .inl (cI, 9, .inl (nF iv))), (ad 5, .inr (3, [.ref (ad 0), .int (nI (nn q)), .ref (ad 6), .ref (ad 7)])), (ad 6, .inl (cI, 273, .inl (nF tr))), (ad 7, .inl (cI, 910, .inl (nF ro))), (ad 8, .inr (4, [.ref (ad 5), .ref (ad 9), .ref (ad 10), .ref (ad 11)])), (ad 9, .inl (cZ, 91, .inl (bF S))), (ad 10, .inl (cZ, 91, .inl (bF gr_1))), (ad 11, .inl (cI, 91, .inl (nF ol_2)))] := hD.sub [0, 1, 2, 3, 4, 5, 6, 7, 8, 9, 10, 11] (by decide) rfl
  refine W.eq (g2 := F0 m 4 ls []) rfl ?_
  refine lv_iconst (v := nI 0) hx hb dX4_growArc_4 (by decide) ?_
  refine lv_istore_n (lv' := [(1, .int (nI 0)), (0, .ref (ad 8))]) hx hb dX4_growArc_5 rfl hl (by decide) rfl (fun ls hl => ?_)
  have L6 : ∀ (N6 : Nat) (i : Nat) (G1 : Nat → Bool) (o1 : Nat → Nat) (ls : Array Slot) (H : Heap) (locs : List Loc), nn q - i < N6 → (i ≤ nn q) → (eqN (nn q) G1 (grq q S i)) → (∀ t, t < nn q → o1 t = metq q G1 t) → lv_has ls 2 [(0, .ref (ad 8)), (1, .int (nI i))] → va_P D vwCl [(ad 0, .inr (1, [.int (nI q), .ref (ad 1), .ref (ad 2), .ref (ad 3), .ref (ad 4)])), (ad 1, .inl (cI, 81, .inl (nF sm))), (ad 2, .inl (cI, 81, .inl (nF pr))), (ad 3, .inl (cI, 9, .inl (nF op))), (ad 4, .inl (cI, 9, .inl (nF iv))), (ad 5, .inr (3, [.ref (ad 0), .int (nI (nn q)), .ref (ad 6), .ref (ad 7)])), (ad 6, .inl (cI, 273, .inl (nF tr))), (ad 7, .inl (cI, 910, .inl (nF ro))), (ad 8, .inr (4, [.ref (ad 5), .ref (ad 9), .ref (ad 10), .ref (ad 11)])), (ad 9, .inl (cZ, 91, .inl (bF S))), (ad 10, .inl (cZ, 91, .inl (bF G1))), (ad 11, .inl (cI, 91, .inl (nF o1)))] H → va_D A [(ad 0, .inr (1, [.int (nI q), .ref (ad 1), .ref (ad 2), .ref (ad 3), .ref (ad 4)])), (ad 1, .inl (cI, 81, .inl (nF sm))), (ad 2, .inl (cI, 81, .inl (nF pr))), (ad 3, .inl (cI, 9, .inl (nF op))), (ad 4, .inl (cI, 9, .inl (nF iv))), (ad 5, .inr (3, [.ref (ad 0), .int (nI (nn q)), .ref (ad 6), .ref (ad 7)])), (ad 6, .inl (cI, 273, .inl (nF tr))), (ad 7, .inl (cI, 910, .inl (nF ro))), (ad 8, .inr (4, [.ref (ad 5), .ref (ad 9), .ref (ad 10), .ref (ad 11)])), (ad 9, .inl (cZ, 91, .inl (bF S))), (ad 10, .inl (cZ, 91, .inl (bF G1))), (ad 11, .inl (cI, 91, .inl (nF o1)))] → va_S A s.heap H locs → WG p l e wsX4_growArc { frames := 3, cells := 0, slots := 0, locals := 68 } s m [.ref (ad 8)] below meth c H locs (CQ (S := (Nat → Bool) × (Nat → Nat)) D (fun u => (fun (gr3 : Nat → Bool) (ol3 : Nat → Nat) => eqN (nn q) gr3 (grq q S (nn q))) u.1 u.2) (fun u => (fun (gr3 : Nat → Bool) (ol3 : Nat → Nat) => some (.ref (ad 10))) u.1 u.2) (fun u => (fun (gr3 : Nat → Bool) (ol3 : Nat → Nat) => [(ad 0, .inr (1, [.int (nI q), .ref (ad 1), .ref (ad 2), .ref (ad 3), .ref (ad 4)])), (ad 1, .inl (cI, 81, .inl (nF sm))), (ad 2, .inl (cI, 81, .inl (nF pr))), (ad 3, .inl (cI, 9, .inl (nF op))), (ad 4, .inl (cI, 9, .inl (nF iv))), (ad 5, .inr (3, [.ref (ad 0), .int (nI (nn q)), .ref (ad 6), .ref (ad 7)])), (ad 6, .inl (cI, 273, .inl (nF tr))), (ad 7, .inl (cI, 910, .inl (nF ro))), (ad 8, .inr (4, [.ref (ad 5), .ref (ad 9), .ref (ad 10), .ref (ad 11)])), (ad 9, .inl (cZ, 91, .inl (bF S))), (ad 10, .inl (cZ, 91, .inl (bF gr3))), (ad 11, .inl (cI, 91, .inl (nF ol3)))]) u.1 u.2) A) A 6 ls [] := by
    intro N6
    induction N6 with
    | zero => intro i G1 o1 ls H locs hN; exact absurd hN (Nat.not_lt_zero _)
    | succ N6 ih6 =>
      intro i G1 o1 ls H locs hN6 k_i k_e k_o hl hP hD hS
      refine lv_iload_n hx hb dX4_growArc_6 rfl (lv_at hl 1 rfl) ?_
      refine lv_aload_n hx hb dX4_growArc_7 rfl (lv_at hl 0 rfl) ?_
      refine va_get (D := D) (ci := 4) (v := .ref (ad 5)) (C := RX4) (T := TX4) (N := 4) hx hb hts hiX4 hown hK hP 8 rfl rfl 0 (by decide) hf22 (fun _ h9 => h9) rfl dX4_growArc_8 ?_
      refine va_getN (D := D) (ci := 3) (v := .int (nI (nn q))) (C := RX3) (T := TX3) (N := 4) hx hb hts hiX3 hown hK hP 5 rfl rfl 1 (by decide) hf32 (fun _ h9 => h9) rfl dX4_growArc_11 ?_
      refine nv_icmp_ge (tgt := 69) hx hb (by omega) (by omega) dX4_growArc_14 (by decide) (fun c14 => ?_) (fun c14 => ?_)
      · refine lv_aload_n hx hb dX4_growArc_69 rfl (lv_at hl 0 rfl) ?_
        refine va_get (D := D) (ci := 4) (v := .ref (ad 10)) (C := RX4) (T := TX4) (N := 4) hx hb hts hiX4 hown hK hP 8 rfl rfl 2 (by decide) hf15 (fun _ h9 => h9) rfl dX4_growArc_70 ?_
        exact ctW_retA (G1, o1) hx hb hr dX4_growArc_73 hlocks hS hP hD (by dsimp only; exact (by rw [show grq q S i = grq q S (nn q) by rw [show i = nn q by omega]] at k_e; exact k_e)) rfl
      · refine lv_aload_n hx hb dX4_growArc_17 rfl (lv_at hl 0 rfl) ?_
        refine va_get (D := D) (ci := 4) (v := .ref (ad 10)) (C := RX4) (T := TX4) (N := 4) hx hb hts hiX4 hown hK hP 8 rfl rfl 2 (by decide) hf15 (fun _ h9 => h9) rfl dX4_growArc_18 ?_
        refine lv_iload_n hx hb dX4_growArc_21 rfl (lv_at hl 1 rfl) ?_
        refine nv_zald hx hb hK hP 10 1 rfl rfl (by omega) (by decide) dX4_growArc_22 ?_
        refine nv_ifb_ne (tgt := 63) hx hb dX4_growArc_23 (by decide) (fun c23 => ?_) (fun c23 => ?_)
        · refine lv_iinc (v := nI (i + 1)) (lv' := [(1, .int (nI (i + 1))), (0, .ref (ad 8))]) hx hb dX4_growArc_63 hl (k := 1) rfl (nI_inc i) (by decide) rfl (fun ls hl => ?_)
          refine lv_goto (tgt := 6) hx hb dX4_growArc_66 (by decide) ?_
          exact ih6 (i + 1) G1 o1 ls _ _ (by omega) (by omega) (by rw [grq, if_neg (fun z => by rw [← k_e i (by omega), c23] at z; cases z.1)]; exact k_e) k_o (lv_sub hl [1, 0] rfl) hP hD hS
        · refine lv_aload_n hx hb dX4_growArc_26 rfl (lv_at hl 0 rfl) ?_
          refine va_get (D := D) (ci := 4) (v := .ref (ad 5)) (C := RX4) (T := TX4) (N := 4) hx hb hts hiX4 hown hK hP 8 rfl rfl 0 (by decide) hf22 (fun _ h9 => h9) rfl dX4_growArc_27 ?_
          refine lv_iload_n hx hb dX4_growArc_30 rfl (lv_at hl 1 rfl) ?_
          refine lv_aload_n hx hb dX4_growArc_31 rfl (lv_at hl 0 rfl) ?_
          refine va_get (D := D) (ci := 4) (v := .ref (ad 11)) (C := RX4) (T := TX4) (N := 4) hx hb hts hiX4 hown hK hP 8 rfl rfl 3 (by decide) hf18 (fun _ h9 => h9) rfl dX4_growArc_32 ?_
          refine ctR_V (As := [.int (nI i), .ref (ad 11)]) (rest := []) (r := .int (nI (secq q o1 i))) ⟨hx, hb, hml, hown, hts⟩ (c_X3_secants l D cI cZ ad q sm pr op iv hF tr ro hT hR (ad 11) o1 i (by omega) (fun j hj => by rw [k_o j hj]; have := metq_le q G1 j; omega)) (cwV 2 hts gX4_growArc_X3_secants rfl rfl rfl hdV_X3_secants ⟨Nat.le_of_ble_eq_true rfl, Nat.le_of_ble_eq_true rfl⟩) hK hN hP [0, 1, 2, 3, 4, 5, 6, 7, 11] rfl 5 3 rfl rfl rfl hl.1 rfl (Nat.le_of_ble_eq_true rfl) ⟨Nat.zero_le _, Nat.zero_le _⟩ dX4_growArc_35 ?_
          have hh_3 : secq q o1 i ≤ q + 1 := cnt_le _ _
          have hs9 : secq q o1 i ≤ q + 1 := cnt_le _ _
          have hs8 : secq q o1 i = secq q (metq q (grq q S i)) i := (secq_congr hF.1 (by omega) k_o).trans (sec_congr hF.1 (by omega) k_e)
          refine nv_if_ne (tgt := 63) hx hb (by omega) dX4_growArc_38 (by decide) (fun c38 => ?_) (fun c38 => ?_)
          · refine lv_iinc (v := nI (i + 1)) (lv' := [(1, .int (nI (i + 1))), (0, .ref (ad 8))]) hx hb dX4_growArc_63 hl (k := 1) rfl (nI_inc i) (by decide) rfl (fun ls hl => ?_)
            refine lv_goto (tgt := 6) hx hb dX4_growArc_66 (by decide) ?_
            exact ih6 (i + 1) G1 o1 ls _ _ (by omega) (by omega) (by rw [grq, if_neg (fun z => c38 (by rw [hs8]; exact z.2))]; exact k_e) k_o (lv_sub hl [1, 0] rfl) hP hD hS
          · refine lv_aload_n hx hb dX4_growArc_41 rfl (lv_at hl 0 rfl) ?_
            refine va_get (D := D) (ci := 4) (v := .ref (ad 10)) (C := RX4) (T := TX4) (N := 4) hx hb hts hiX4 hown hK hP 8 rfl rfl 2 (by decide) hf15 (fun _ h9 => h9) rfl dX4_growArc_42 ?_
            refine lv_iload_n hx hb dX4_growArc_45 rfl (lv_at hl 1 rfl) ?_
            refine lv_iconst (v := nI 1) hx hb dX4_growArc_46 (by decide) ?_
            refine nv_zast hx hb hK hP hD hS 10 1 rfl rfl true (by omega) (by decide) dX4_growArc_47 (fun H locs hP hD hS => ?_)
            have hP : va_P D vwCl [(ad 0, .inr (1, [.int (nI q), .ref (ad 1), .ref (ad 2), .ref (ad 3), .ref (ad 4)])), (ad 1, .inl (cI, 81, .inl (nF sm))), (ad 2, .inl (cI, 81, .inl (nF pr))), (ad 3, .inl (cI, 9, .inl (nF op))), (ad 4, .inl (cI, 9, .inl (nF iv))), (ad 5, .inr (3, [.ref (ad 0), .int (nI (nn q)), .ref (ad 6), .ref (ad 7)])), (ad 6, .inl (cI, 273, .inl (nF tr))), (ad 7, .inl (cI, 910, .inl (nF ro))), (ad 8, .inr (4, [.ref (ad 5), .ref (ad 9), .ref (ad 10), .ref (ad 11)])), (ad 9, .inl (cZ, 91, .inl (bF S))), (ad 10, .inl (cZ, 91, .inl (bF (upB G1 i true)))), (ad 11, .inl (cI, 91, .inl (nF o1)))] H := hP
            have hD : va_D A [(ad 0, .inr (1, [.int (nI q), .ref (ad 1), .ref (ad 2), .ref (ad 3), .ref (ad 4)])), (ad 1, .inl (cI, 81, .inl (nF sm))), (ad 2, .inl (cI, 81, .inl (nF pr))), (ad 3, .inl (cI, 9, .inl (nF op))), (ad 4, .inl (cI, 9, .inl (nF iv))), (ad 5, .inr (3, [.ref (ad 0), .int (nI (nn q)), .ref (ad 6), .ref (ad 7)])), (ad 6, .inl (cI, 273, .inl (nF tr))), (ad 7, .inl (cI, 910, .inl (nF ro))), (ad 8, .inr (4, [.ref (ad 5), .ref (ad 9), .ref (ad 10), .ref (ad 11)])), (ad 9, .inl (cZ, 91, .inl (bF S))), (ad 10, .inl (cZ, 91, .inl (bF (upB G1 i true)))), (ad 11, .inl (cI, 91, .inl (nF o1)))] := hD
            refine lv_aload_n hx hb dX4_growArc_48 rfl (lv_at hl 0 rfl) ?_
            refine va_get (D := D) (ci := 4) (v := .ref (ad 5)) (C := RX4) (T := TX4) (N := 4) hx hb hts hiX4 hown hK hP 8 rfl rfl 0 (by decide) hf22 (fun _ h9 => h9) rfl dX4_growArc_49 ?_
            refine lv_aload_n hx hb dX4_growArc_52 rfl (lv_at hl 0 rfl) ?_
            refine va_get (D := D) (ci := 4) (v := .ref (ad 10)) (C := RX4) (T := TX4) (N := 4) hx hb hts hiX4 hown hK hP 8 rfl rfl 2 (by decide) hf15 (fun _ h9 => h9) rfl dX4_growArc_53 ?_
            refine lv_aload_n hx hb dX4_growArc_56 rfl (lv_at hl 0 rfl) ?_
            refine va_get (D := D) (ci := 4) (v := .ref (ad 11)) (C := RX4) (T := TX4) (N := 4) hx hb hts hiX4 hown hK hP 8 rfl rfl 3 (by decide) hf18 (fun _ h9 => h9) rfl dX4_growArc_57 ?_
            refine ctW_V (As := [.ref (ad 10), .ref (ad 11)]) (rest := []) (wr := [(ad 8, .inr (4, [.ref (ad 5), .ref (ad 9), .ref (ad 10), .ref (ad 11)])), (ad 9, .inl (cZ, 91, .inl (bF S)))]) ⟨hx, hb, hml, hown, hts⟩ (c_X3_tally l D cI cZ ad q sm pr op iv hF tr ro hT hR (ad 10) (upB G1 i true) (ad 11) o1) (cwV 2 hts gX4_growArc_X3_tally rfl rfl rfl hdV_X3_tally ⟨Nat.le_of_ble_eq_true rfl, Nat.le_of_ble_eq_true rfl⟩) hK hN hP hD hS hA [0, 1, 2, 3, 4, 5, 6, 7, 10, 11] [8, 9] rfl rfl rfl (by decide) (by decide) (by decide) 5 3 rfl rfl rfl hl.1 rfl (Nat.le_of_ble_eq_true rfl) ⟨Nat.zero_le _, Nat.zero_le _⟩ dX4_growArc_60 (fun ol_4 H locs hu60 hP hD hS => ?_)
            try dsimp only at hu60
            have hP : va_P D vwCl [(ad 0, .inr (1, [.int (nI q), .ref (ad 1), .ref (ad 2), .ref (ad 3), .ref (ad 4)])), (ad 1, .inl (cI, 81, .inl (nF sm))), (ad 2, .inl (cI, 81, .inl (nF pr))), (ad 3, .inl (cI, 9, .inl (nF op))), (ad 4, .inl (cI, 9, .inl (nF iv))), (ad 5, .inr (3, [.ref (ad 0), .int (nI (nn q)), .ref (ad 6), .ref (ad 7)])), (ad 6, .inl (cI, 273, .inl (nF tr))), (ad 7, .inl (cI, 910, .inl (nF ro))), (ad 8, .inr (4, [.ref (ad 5), .ref (ad 9), .ref (ad 10), .ref (ad 11)])), (ad 9, .inl (cZ, 91, .inl (bF S))), (ad 10, .inl (cZ, 91, .inl (bF (upB G1 i true)))), (ad 11, .inl (cI, 91, .inl (nF ol_4)))] H := hP.sub [2, 3, 4, 5, 6, 7, 8, 9, 0, 1, 10, 11] rfl
            have hD : va_D A [(ad 0, .inr (1, [.int (nI q), .ref (ad 1), .ref (ad 2), .ref (ad 3), .ref (ad 4)])), (ad 1, .inl (cI, 81, .inl (nF sm))), (ad 2, .inl (cI, 81, .inl (nF pr))), (ad 3, .inl (cI, 9, .inl (nF op))), (ad 4, .inl (cI, 9, .inl (nF iv))), (ad 5, .inr (3, [.ref (ad 0), .int (nI (nn q)), .ref (ad 6), .ref (ad 7)])), (ad 6, .inl (cI, 273, .inl (nF tr))), (ad 7, .inl (cI, 910, .inl (nF ro))), (ad 8, .inr (4, [.ref (ad 5), .ref (ad 9), .ref (ad 10), .ref (ad 11)])), (ad 9, .inl (cZ, 91, .inl (bF S))), (ad 10, .inl (cZ, 91, .inl (bF (upB G1 i true)))), (ad 11, .inl (cI, 91, .inl (nF ol_4)))] := hD.sub [2, 3, 4, 5, 6, 7, 8, 9, 0, 1, 10, 11] (by decide) rfl
            refine W.eq (g2 := F0 m 63 ls []) rfl ?_
            refine lv_iinc (v := nI (i + 1)) (lv' := [(1, .int (nI (i + 1))), (0, .ref (ad 8))]) hx hb dX4_growArc_63 hl (k := 1) rfl (nI_inc i) (by decide) rfl (fun ls hl => ?_)
            refine lv_goto (tgt := 6) hx hb dX4_growArc_66 (by decide) ?_
            exact ih6 (i + 1) (upB G1 i true) ol_4 ls _ _ (by omega) (by omega) (by rw [grq, if_pos ⟨by rw [← k_e i (by omega)]; exact c23, by rw [← hs8]; exact c38⟩]; exact up_congr k_e) hu60 (lv_sub hl [1, 0] rfl) hP hD hS
  exact L6 (nn q - 0 + 1) 0 gr_1 ol_2 ls _ _ (by omega) (Nat.zero_le _) hu1.1 (fun t ht => by rw [hu1.2 t ht]; exact met_congr hu1.1.sy) (lv_sub hl [1, 0] rfl) hP hD hS

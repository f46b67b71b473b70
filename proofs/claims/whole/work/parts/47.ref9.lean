set_option maxHeartbeats 4000000 in
set_option maxRecDepth 100000 in
theorem c_X7_fits (l : Launch) (D : va_G) (cI cZ : ClassId) (md : Nat → Nat) (q : Nat) (w : Nat) (su : Nat → Nat) (po : Nat → Nat) (xs : Nat → Nat) (ys : Nat → Nat) (zs : Nat → Nat) (hM : MOK q su po xs ys zs) (td : Nat → Bool) (i : Nat) (k_1 : i < nn q) : CtR l yX7_fits wsX7_fits { frames := 3, cells := 0, slots := 0, locals := 68 } D (tyG cI cZ) [.ref (md 0), .int (nI i)] [(md 0, .inr (7, [.int (nI q), .int (nI (nn q)), .ref (md 1), .ref (md 2), .ref (md 3), .ref (md 4), .ref (md 5), .ref (md 6), .ref (md 7), .ref (md 8), .ref (md 9), .ref (md 10), .ref (md 11), .ref (md 12), .ref (md 13), .ref (md 14), .ref (md 15), .ref (md 16), .int (nI w), .ref (md 17)])), (md 1, .inl (cI, 81, .inl (nF su))), (md 2, .inl (cI, 81, .inl (nF po))), (md 3, .inl (cI, 91, .inl (nF xs))), (md 4, .inl (cI, 91, .inl (nF ys))), (md 5, .inl (cI, 91, .inl (nF zs))), (md 9, .inl (cZ, 91, .inl (bF td)))] (.int (nI (fitq q td i).toNat)) := by
  refine Met.ofW (cc := cX7_fits) (maxL := 4) (ret := some .boolean) (by decide) rfl ?_
  intro p e s m args below meth c s₁ B hml hv
  obtain ⟨rfl, hP, hK, hN⟩ := hv
  have hx := B.exec
  have hb := B.bytes
  have hr := B.returns
  have hts := atoms_spec (ws := wsX7_fits) B.pre
  have hown : s.vm.findClass RX7 = some m.cls := findClass_of_methodNamed B.named
  have hlocks := B.notSynchronized
  have hf35 := hts (.fieldLink RX7 35 "FinitePlanesModel" "tried" "[Z") (by decide +kernel)
  have hf83 := hts (.fieldLink RX7 83 "FinitePlanesModel" "n" "I") (by decide +kernel)
  have hiX7 : ∀ w ∈ u_ws RX7 TX7 20, w ∈ wsX7_fits := by decide +kernel
  have hl := lv_entry ([.ref (md 0), .int (nI i)]) (n := 4) (Nat.le_of_ble_eq_true rfl)
  rw [lg_entry_eq]
  generalize (lg_sl ([.ref (md 0), .int (nI i)]) ++ List.replicate (4 - (lg_sl ([.ref (md 0), .int (nI i)])).length) Slot.unset).toArray = ls at hl ⊢
  have hl : lv_has ls 4 [(0, .ref (md 0)), (1, .int (nI i))] := hl
  have hq2 := qs_le hM.1
  have hn2 := nn_le hM.1
  refine lv_aload_n hx hb dX7_fits_0 rfl (lv_at hl 0 rfl) ?_
  refine va_get (D := D) (ci := 7) (v := .ref (md 9)) (C := RX7) (T := TX7) (N := 20) hx hb hts hiX7 hown hK hP 0 rfl rfl 10 (by decide) hf35 (fun _ h9 => h9) rfl dX7_fits_1 ?_
  refine lv_iload_n hx hb dX7_fits_4 rfl (lv_at hl 1 rfl) ?_
  refine nv_zald hx hb hK hP 6 1 rfl rfl (by omega) (by decide) dX7_fits_5 ?_
  refine nv_ifb_eq (tgt := 11) hx hb dX7_fits_6 (by decide) (fun c6 => ?_) (fun c6 => ?_)
  · refine lv_iconst (v := nI 1) hx hb dX7_fits_11 (by decide) ?_
    refine lv_istore_n (lv' := [(2, .int (nI 1)), (0, .ref (md 0)), (1, .int (nI i))]) hx hb dX7_fits_12 rfl hl (by decide) rfl (fun ls hl => ?_)
    refine lv_iconst (v := nI 0) hx hb dX7_fits_13 (by decide) ?_
    refine lv_istore_n (lv' := [(3, .int (nI 0)), (2, .int (nI 1)), (0, .ref (md 0)), (1, .int (nI i))]) hx hb dX7_fits_14 rfl hl (by decide) rfl (fun ls hl => ?_)
    have L15 : ∀ (N15 : Nat) (j : Nat) (y : Bool) (ls : Array Slot), nn q - j < N15 → (j ≤ nn q) → (y = allB (fun l => !onq q i l || decide (metq q td l < 2)) j) → lv_has ls 4 [(0, .ref (md 0)), (1, .int (nI i)), (2, .int (nI (y).toNat)), (3, .int (nI j))] → WR p l e wsX7_fits { frames := 3, cells := 0, slots := 0, locals := 68 } s m [.ref (md 0), .int (nI i)] below meth c (.int (nI (fitq q td i).toNat)) 15 ls [] := by
      intro N15
      induction N15 with
      | zero => intro j y ls hN; exact absurd hN (Nat.not_lt_zero _)
      | succ N15 ih15 =>
        intro j y ls hN15 k_j k_a hl
        refine lv_iload_n hx hb dX7_fits_15 rfl (lv_at hl 3 rfl) ?_
        refine lv_aload_n hx hb dX7_fits_16 rfl (lv_at hl 0 rfl) ?_
        refine va_get (D := D) (ci := 7) (v := .int (nI (nn q))) (C := RX7) (T := TX7) (N := 20) hx hb hts hiX7 hown hK hP 0 rfl rfl 1 (by decide) hf83 (fun _ h9 => h9) rfl dX7_fits_17 ?_
        refine nv_icmp_ge (tgt := 61) hx hb (by omega) (by omega) dX7_fits_20 (by decide) (fun c20 => ?_) (fun c20 => ?_)
        · refine lv_iload_n hx hb dX7_fits_61 rfl (lv_at hl 2 rfl) ?_
          exact ctR_ret (v := (nI (y).toNat)) hx hb hr (nar_bool y) dX7_fits_62 hlocks (by rw [fit_all hM.1 k_1 c6, k_a, show j = nn q by omega])
        · refine lv_iload_n hx hb dX7_fits_23 rfl (lv_at hl 2 rfl) ?_
          refine nv_ifb_eq (tgt := 61) hx hb dX7_fits_24 (by decide) (fun c24 => ?_) (fun c24 => ?_)
          · refine lv_iload_n hx hb dX7_fits_61 rfl (lv_at hl 2 rfl) ?_
            exact ctR_ret (v := (nI (y).toNat)) hx hb hr (nar_bool y) dX7_fits_62 hlocks (by rw [fit_all hM.1 k_1 c6, allB_f k_j (k_a.symm.trans c24), c24])
          · refine lv_aload_n hx hb dX7_fits_27 rfl (lv_at hl 0 rfl) ?_
            refine lv_iload_n hx hb dX7_fits_28 rfl (lv_at hl 1 rfl) ?_
            refine lv_iload_n hx hb dX7_fits_29 rfl (lv_at hl 3 rfl) ?_
            refine ctR_V (As := [.int (nI i), .int (nI j)]) (rest := []) (r := .int (nI (onq q i j).toNat)) ⟨hx, hb, hml, hown, hts⟩ (c_X7_isOn l D cI cZ md q w su po xs ys zs hM i j (by omega) (by omega)) (cwV 2 hts gX7_fits_X7_isOn rfl rfl rfl hdV_X7_isOn ⟨Nat.le_of_ble_eq_true rfl, Nat.le_of_ble_eq_true rfl⟩) hK hN hP [0, 1, 2, 3, 4, 5] rfl 0 7 rfl rfl rfl hl.1 rfl (Nat.le_of_ble_eq_true rfl) ⟨Nat.zero_le _, Nat.zero_le _⟩ dX7_fits_30 ?_
            refine nv_ifb_eq (tgt := 49) hx hb dX7_fits_33 (by decide) (fun c33 => ?_) (fun c33 => ?_)
            · refine lv_iconst (v := nI 1) hx hb dX7_fits_49 (by decide) ?_
              refine lv_goto (tgt := 54) hx hb dX7_fits_50 (by decide) ?_
              refine lv_istore_n (lv' := [(2, .int (nI 1)), (0, .ref (md 0)), (1, .int (nI i)), (3, .int (nI j))]) hx hb dX7_fits_54 rfl hl (by decide) rfl (fun ls hl => ?_)
              refine lv_iinc (v := nI (j + 1)) (lv' := [(3, .int (nI (j + 1))), (2, .int (nI 1)), (0, .ref (md 0)), (1, .int (nI i))]) hx hb dX7_fits_55 hl (k := 3) rfl (nI_inc j) (by decide) rfl (fun ls hl => ?_)
              refine lv_goto (tgt := 15) hx hb dX7_fits_58 (by decide) ?_
              exact ih15 (j + 1) true ls (by omega) (by omega) (by rw [allB, ← k_a, c24, c33]; rfl) (lv_sub hl [2, 3, 1, 0] rfl)
            · refine lv_aload_n hx hb dX7_fits_36 rfl (lv_at hl 0 rfl) ?_
              refine lv_aload_n hx hb dX7_fits_37 rfl (lv_at hl 0 rfl) ?_
              refine va_get (D := D) (ci := 7) (v := .ref (md 9)) (C := RX7) (T := TX7) (N := 20) hx hb hts hiX7 hown hK hP 0 rfl rfl 10 (by decide) hf35 (fun _ h9 => h9) rfl dX7_fits_38 ?_
              refine lv_iload_n hx hb dX7_fits_41 rfl (lv_at hl 3 rfl) ?_
              refine ctR_V (As := [.ref (md 9), .int (nI j)]) (rest := []) (r := .int (nI (metq q td j))) ⟨hx, hb, hml, hown, hts⟩ (c_X7_met l D cI cZ md q w su po xs ys zs hM (md 9) td j (by omega)) (cwV 2 hts gX7_fits_X7_met rfl rfl rfl hdV_X7_met ⟨Nat.le_of_ble_eq_true rfl, Nat.le_of_ble_eq_true rfl⟩) hK hN hP [0, 1, 2, 3, 4, 5, 6] rfl 0 7 rfl rfl rfl hl.1 rfl (Nat.le_of_ble_eq_true rfl) ⟨Nat.zero_le _, Nat.zero_le _⟩ dX7_fits_42 ?_
              have hh_1 : metq q td j ≤ nn q := cnt_le _ _
              refine lv_iconst (v := nI 2) hx hb dX7_fits_45 (by decide) ?_
              refine nv_icmp_ge (tgt := 53) hx hb (by omega) (by decide) dX7_fits_46 (by decide) (fun c46 => ?_) (fun c46 => ?_)
              · refine lv_iconst (v := nI 0) hx hb dX7_fits_53 (by decide) ?_
                refine lv_istore_n (lv' := [(2, .int (nI 0)), (0, .ref (md 0)), (1, .int (nI i)), (3, .int (nI j))]) hx hb dX7_fits_54 rfl hl (by decide) rfl (fun ls hl => ?_)
                refine lv_iinc (v := nI (j + 1)) (lv' := [(3, .int (nI (j + 1))), (2, .int (nI 0)), (0, .ref (md 0)), (1, .int (nI i))]) hx hb dX7_fits_55 hl (k := 3) rfl (nI_inc j) (by decide) rfl (fun ls hl => ?_)
                refine lv_goto (tgt := 15) hx hb dX7_fits_58 (by decide) ?_
                exact ih15 (j + 1) false ls (by omega) (by omega) (by rw [allB, c33, decide_eq_false (by omega)]; exact (Bool.and_false _).symm) (lv_sub hl [2, 3, 1, 0] rfl)
              · refine lv_iconst (v := nI 1) hx hb dX7_fits_49 (by decide) ?_
                refine lv_goto (tgt := 54) hx hb dX7_fits_50 (by decide) ?_
                refine lv_istore_n (lv' := [(2, .int (nI 1)), (0, .ref (md 0)), (1, .int (nI i)), (3, .int (nI j))]) hx hb dX7_fits_54 rfl hl (by decide) rfl (fun ls hl => ?_)
                refine lv_iinc (v := nI (j + 1)) (lv' := [(3, .int (nI (j + 1))), (2, .int (nI 1)), (0, .ref (md 0)), (1, .int (nI i))]) hx hb dX7_fits_55 hl (k := 3) rfl (nI_inc j) (by decide) rfl (fun ls hl => ?_)
                refine lv_goto (tgt := 15) hx hb dX7_fits_58 (by decide) ?_
                exact ih15 (j + 1) true ls (by omega) (by omega) (by rw [allB, ← k_a, c24, decide_eq_true c46, Bool.or_true]; rfl) (lv_sub hl [2, 3, 1, 0] rfl)
    exact L15 (nn q - 0 + 1) 0 true ls (by omega) (Nat.zero_le _) rfl (lv_sub hl [2, 3, 1, 0] rfl)
  · refine lv_iconst (v := nI 0) hx hb dX7_fits_9 (by decide) ?_
    exact ctR_ret (v := (nI 0)) hx hb hr (nar_bool false) dX7_fits_10 hlocks (by rw [fitq, c6]; rfl)

set_option maxHeartbeats 4000000 in
set_option maxRecDepth 100000 in
theorem c_X7_findGreatest (l : Launch) (D : va_G) (cI cZ : ClassId) (md : Nat → Nat) (q : Nat) (w : Nat) (su : Nat → Nat) (po : Nat → Nat) (xs : Nat → Nat) (ys : Nat → Nat) (zs : Nat → Nat) (hM : MOK q su po xs ys zs) (S : Nat → Bool) (td : Nat → Bool) (be : Nat → Bool) (pl : Nat → Nat) (k_a : arcq q S = true) (k_q : q ∈ qa) : CtW (S := (Nat → Bool) × (Nat → Bool) × (Nat → Nat)) l yX7_findGreatest wsX7_findGreatest { frames := 4, cells := 0, slots := 0, locals := 91 } D (tyG cI cZ) [.ref (md 0)] [(md 0, .inr (7, [.int (nI q), .int (nI (nn q)), .ref (md 1), .ref (md 2), .ref (md 3), .ref (md 4), .ref (md 5), .ref (md 6), .ref (md 7), .ref (md 8), .ref (md 9), .ref (md 10), .ref (md 11), .ref (md 12), .ref (md 13), .ref (md 14), .ref (md 15), .ref (md 16), .int (nI w), .ref (md 17)])), (md 1, .inl (cI, 81, .inl (nF su))), (md 2, .inl (cI, 81, .inl (nF po))), (md 3, .inl (cI, 91, .inl (nF xs))), (md 4, .inl (cI, 91, .inl (nF ys))), (md 5, .inl (cI, 91, .inl (nF zs))), (md 6, .inl (cZ, 91, .inl (bF S))), (md 9, .inl (cZ, 91, .inl (bF td))), (md 10, .inl (cZ, 91, .inl (bF be))), (md 11, .inl (cI, 92, .inl (nF pl)))] (fun u => (fun (td3 : Nat → Bool) (be3 : Nat → Bool) (pl3 : Nat → Nat) => eqN (nn q) be3 (grq q S (nn q))) u.1 u.2.1 u.2.2) (fun u => (fun (td3 : Nat → Bool) (be3 : Nat → Bool) (pl3 : Nat → Nat) => none) u.1 u.2.1 u.2.2) (fun u => (fun (td3 : Nat → Bool) (be3 : Nat → Bool) (pl3 : Nat → Nat) => [(md 0, .inr (7, [.int (nI q), .int (nI (nn q)), .ref (md 1), .ref (md 2), .ref (md 3), .ref (md 4), .ref (md 5), .ref (md 6), .ref (md 7), .ref (md 8), .ref (md 9), .ref (md 10), .ref (md 11), .ref (md 12), .ref (md 13), .ref (md 14), .ref (md 15), .ref (md 16), .int (nI w), .ref (md 17)])), (md 1, .inl (cI, 81, .inl (nF su))), (md 2, .inl (cI, 81, .inl (nF po))), (md 3, .inl (cI, 91, .inl (nF xs))), (md 4, .inl (cI, 91, .inl (nF ys))), (md 5, .inl (cI, 91, .inl (nF zs))), (md 6, .inl (cZ, 91, .inl (bF S))), (md 9, .inl (cZ, 91, .inl (bF td3))), (md 10, .inl (cZ, 91, .inl (bF be3))), (md 11, .inl (cI, 92, .inl (nF pl3)))]) u.1 u.2.1 u.2.2) := by
  intro sz; refine Met.ofW (cc := cX7_findGreatest) (maxL := 6) (ret := none) (by decide) rfl ?_
  intro p e s m args below meth c s₁ B hml hv
  obtain ⟨rfl, hsz, hP, hK, hD0, hN⟩ := hv
  have hx := B.exec
  have hb := B.bytes
  have hr := B.returns
  have hts := atoms_spec (ws := wsX7_findGreatest) B.pre
  have hown : s.vm.findClass RX7 = some m.cls := findClass_of_methodNamed B.named
  have hlocks := B.notSynchronized
  subst hsz
  have hD := hD0.self (sz := s.heap.size)
  generalize hAe : va_A [(md 0, .inr (7, [.int (nI q), .int (nI (nn q)), .ref (md 1), .ref (md 2), .ref (md 3), .ref (md 4), .ref (md 5), .ref (md 6), .ref (md 7), .ref (md 8), .ref (md 9), .ref (md 10), .ref (md 11), .ref (md 12), .ref (md 13), .ref (md 14), .ref (md 15), .ref (md 16), .int (nI w), .ref (md 17)])), (md 1, .inl (cI, 81, .inl (nF su))), (md 2, .inl (cI, 81, .inl (nF po))), (md 3, .inl (cI, 91, .inl (nF xs))), (md 4, .inl (cI, 91, .inl (nF ys))), (md 5, .inl (cI, 91, .inl (nF zs))), (md 6, .inl (cZ, 91, .inl (bF S))), (md 9, .inl (cZ, 91, .inl (bF td))), (md 10, .inl (cZ, 91, .inl (bF be))), (md 11, .inl (cI, 92, .inl (nF pl)))] s.heap.size = A at hD ⊢
  have hA : ∀ q : Nat, s.heap.size ≤ q → A q := fun q h => by rw [← hAe]; exact Or.inr h
  have hS : va_S A s.heap s.heap [] := va_S.rf
  have hP : va_P D vwCl [(md 0, .inr (7, [.int (nI q), .int (nI (nn q)), .ref (md 1), .ref (md 2), .ref (md 3), .ref (md 4), .ref (md 5), .ref (md 6), .ref (md 7), .ref (md 8), .ref (md 9), .ref (md 10), .ref (md 11), .ref (md 12), .ref (md 13), .ref (md 14), .ref (md 15), .ref (md 16), .int (nI w), .ref (md 17)])), (md 1, .inl (cI, 81, .inl (nF su))), (md 2, .inl (cI, 81, .inl (nF po))), (md 3, .inl (cI, 91, .inl (nF xs))), (md 4, .inl (cI, 91, .inl (nF ys))), (md 5, .inl (cI, 91, .inl (nF zs))), (md 6, .inl (cZ, 91, .inl (bF S))), (md 9, .inl (cZ, 91, .inl (bF td))), (md 10, .inl (cZ, 91, .inl (bF be))), (md 11, .inl (cI, 92, .inl (nF pl)))] s.heap := hP
  have hf25 := hts (.fieldLink RX7 25 "FinitePlanesModel" "isIn" "[Z") (by decide +kernel)
  have hf35 := hts (.fieldLink RX7 35 "FinitePlanesModel" "tried" "[Z") (by decide +kernel)
  have hf38 := hts (.fieldLink RX7 38 "FinitePlanesModel" "best" "[Z") (by decide +kernel)
  have hf41 := hts (.fieldLink RX7 41 "FinitePlanesModel" "pile" "[I") (by decide +kernel)
  have hf83 := hts (.fieldLink RX7 83 "FinitePlanesModel" "n" "I") (by decide +kernel)
  have hiX7 : ∀ w ∈ u_ws RX7 TX7 20, w ∈ wsX7_findGreatest := by decide +kernel
  have hl := lv_entry ([.ref (md 0)]) (n := 6) (Nat.le_of_ble_eq_true rfl)
  rw [lg_entry_eq]
  generalize (lg_sl ([.ref (md 0)]) ++ List.replicate (6 - (lg_sl ([.ref (md 0)])).length) Slot.unset).toArray = ls at hl ⊢
  have hl : lv_has ls 6 [(0, .ref (md 0))] := hl
  have hq2 := qs_le hM.1
  have hn2 := nn_le hM.1
  refine lv_iconst (v := nI 0) hx hb dX7_findGreatest_0 (by decide) ?_
  refine lv_istore_n (lv' := [(1, .int (nI 0)), (0, .ref (md 0))]) hx hb dX7_findGreatest_1 rfl hl (by decide) rfl (fun ls hl => ?_)
  have L2 : ∀ (N2 : Nat) (i : Nat) (td1 : Nat → Bool) (be1 : Nat → Bool) (ls : Array Slot) (H : Heap) (locs : List Loc), nn q - i < N2 → (i ≤ nn q) → (∀ t, t < i → td1 t = S t) → (∀ t, t < i → be1 t = S t) → lv_has ls 6 [(0, .ref (md 0)), (1, .int (nI i))] → va_P D vwCl [(md 0, .inr (7, [.int (nI q), .int (nI (nn q)), .ref (md 1), .ref (md 2), .ref (md 3), .ref (md 4), .ref (md 5), .ref (md 6), .ref (md 7), .ref (md 8), .ref (md 9), .ref (md 10), .ref (md 11), .ref (md 12), .ref (md 13), .ref (md 14), .ref (md 15), .ref (md 16), .int (nI w), .ref (md 17)])), (md 1, .inl (cI, 81, .inl (nF su))), (md 2, .inl (cI, 81, .inl (nF po))), (md 3, .inl (cI, 91, .inl (nF xs))), (md 4, .inl (cI, 91, .inl (nF ys))), (md 5, .inl (cI, 91, .inl (nF zs))), (md 6, .inl (cZ, 91, .inl (bF S))), (md 9, .inl (cZ, 91, .inl (bF td1))), (md 10, .inl (cZ, 91, .inl (bF be1))), (md 11, .inl (cI, 92, .inl (nF pl)))] H → va_D A [(md 0, .inr (7, [.int (nI q), .int (nI (nn q)), .ref (md 1), .ref (md 2), .ref (md 3), .ref (md 4), .ref (md 5), .ref (md 6), .ref (md 7), .ref (md 8), .ref (md 9), .ref (md 10), .ref (md 11), .ref (md 12), .ref (md 13), .ref (md 14), .ref (md 15), .ref (md 16), .int (nI w), .ref (md 17)])), (md 1, .inl (cI, 81, .inl (nF su))), (md 2, .inl (cI, 81, .inl (nF po))), (md 3, .inl (cI, 91, .inl (nF xs))), (md 4, .inl (cI, 91, .inl (nF ys))), (md 5, .inl (cI, 91, .inl (nF zs))), (md 6, .inl (cZ, 91, .inl (bF S))), (md 9, .inl (cZ, 91, .inl (bF td1))), (md 10, .inl (cZ, 91, .inl (bF be1))), (md 11, .inl (cI, 92, .inl (nF pl)))] → va_S A s.heap H locs → WG p l e wsX7_findGreatest { frames := 4, cells := 0, slots := 0, locals := 91 } s m [.ref (md 0)] below meth c H locs (CQ (S := (Nat → Bool) × (Nat → Bool) × (Nat → Nat)) D (fun u => (fun (td3 : Nat → Bool) (be3 : Nat → Bool) (pl3 : Nat → Nat) => eqN (nn q) be3 (grq q S (nn q))) u.1 u.2.1 u.2.2) (fun u => (fun (td3 : Nat → Bool) (be3 : Nat → Bool) (pl3 : Nat → Nat) => none) u.1 u.2.1 u.2.2) (fun u => (fun (td3 : Nat → Bool) (be3 : Nat → Bool) (pl3 : Nat → Nat) => [(md 0, .inr (7, [.int (nI q), .int (nI (nn q)), .ref (md 1), .ref (md 2), .ref (md 3), .ref (md 4), .ref (md 5), .ref (md 6), .ref (md 7), .ref (md 8), .ref (md 9), .ref (md 10), .ref (md 11), .ref (md 12), .ref (md 13), .ref (md 14), .ref (md 15), .ref (md 16), .int (nI w), .ref (md 17)])), (md 1, .inl (cI, 81, .inl (nF su))), (md 2, .inl (cI, 81, .inl (nF po))), (md 3, .inl (cI, 91, .inl (nF xs))), (md 4, .inl (cI, 91, .inl (nF ys))), (md 5, .inl (cI, 91, .inl (nF zs))), (md 6, .inl (cZ, 91, .inl (bF S))), (md 9, .inl (cZ, 91, .inl (bF td3))), (md 10, .inl (cZ, 91, .inl (bF be3))), (md 11, .inl (cI, 92, .inl (nF pl3)))]) u.1 u.2.1 u.2.2) A) A 2 ls [] := by
    intro N2
    induction N2 with
    | zero => intro i td1 be1 ls H locs hN; exact absurd hN (Nat.not_lt_zero _)
    | succ N2 ih2 =>
      intro i td1 be1 ls H locs hN2 k_i k_t k_b hl hP hD hS
      refine lv_iload_n hx hb dX7_findGreatest_2 rfl (lv_at hl 1 rfl) ?_
      refine lv_aload_n hx hb dX7_findGreatest_3 rfl (lv_at hl 0 rfl) ?_
      refine va_get (D := D) (ci := 7) (v := .int (nI (nn q))) (C := RX7) (T := TX7) (N := 20) hx hb hts hiX7 hown hK hP 0 rfl rfl 1 (by decide) hf83 (fun _ h9 => h9) rfl dX7_findGreatest_4 ?_
      refine nv_icmp_ge (tgt := 40) hx hb (by omega) (by omega) dX7_findGreatest_7 (by decide) (fun c7 => ?_) (fun c7 => ?_)
      · refine lv_iconst (v := nI 0) hx hb dX7_findGreatest_40 (by decide) ?_
        refine lv_istore_n (lv' := [(1, .int (nI 0)), (0, .ref (md 0))]) hx hb dX7_findGreatest_41 rfl hl (by decide) rfl (fun ls hl => ?_)
        refine lv_iconst (v := nI 0) hx hb dX7_findGreatest_42 (by decide) ?_
        refine lv_istore_n (lv' := [(2, .int (nI 0)), (1, .int (nI 0)), (0, .ref (md 0))]) hx hb dX7_findGreatest_43 rfl hl (by decide) rfl (fun ls hl => ?_)
        refine lv_iconst (v := nI 0) hx hb dX7_findGreatest_44 (by decide) ?_
        refine lv_istore_n (lv' := [(3, .int (nI 0)), (2, .int (nI 0)), (1, .int (nI 0)), (0, .ref (md 0))]) hx hb dX7_findGreatest_45 rfl hl (by decide) rfl (fun ls hl => ?_)
        refine lv_iconst (v := nI 1) hx hb dX7_findGreatest_46 (by decide) ?_
        refine lv_istore (lv' := [(4, .int (nI 1)), (3, .int (nI 0)), (2, .int (nI 0)), (1, .int (nI 0)), (0, .ref (md 0))]) hx hb dX7_findGreatest_47 hl (by decide) rfl (fun ls hl => ?_)
        have L49 : ∀ (N49 : Nat) (mo : Nat) (tp : Nat) (p0 : Nat) (y : Bool) (td2 : Nat → Bool) (be2 : Nat → Bool) (pl2 : Nat → Nat) (ls : Array Slot) (H : Heap) (locs : List Loc), pot q pl2 tp p0 + y.toNat < N49 → (GI q S pl2 td2 tp p0) → (GP q S be2 td2 mo tp p0) → (mo ≤ nn q) → (y = false → eqN (nn q) be2 (grq q S (nn q))) → lv_has ls 6 [(0, .ref (md 0)), (1, .int (nI mo)), (2, .int (nI tp)), (3, .int (nI p0)), (4, .int (nI (y).toNat))] → va_P D vwCl [(md 0, .inr (7, [.int (nI q), .int (nI (nn q)), .ref (md 1), .ref (md 2), .ref (md 3), .ref (md 4), .ref (md 5), .ref (md 6), .ref (md 7), .ref (md 8), .ref (md 9), .ref (md 10), .ref (md 11), .ref (md 12), .ref (md 13), .ref (md 14), .ref (md 15), .ref (md 16), .int (nI w), .ref (md 17)])), (md 1, .inl (cI, 81, .inl (nF su))), (md 2, .inl (cI, 81, .inl (nF po))), (md 3, .inl (cI, 91, .inl (nF xs))), (md 4, .inl (cI, 91, .inl (nF ys))), (md 5, .inl (cI, 91, .inl (nF zs))), (md 6, .inl (cZ, 91, .inl (bF S))), (md 9, .inl (cZ, 91, .inl (bF td2))), (md 10, .inl (cZ, 91, .inl (bF be2))), (md 11, .inl (cI, 92, .inl (nF pl2)))] H → va_D A [(md 0, .inr (7, [.int (nI q), .int (nI (nn q)), .ref (md 1), .ref (md 2), .ref (md 3), .ref (md 4), .ref (md 5), .ref (md 6), .ref (md 7), .ref (md 8), .ref (md 9), .ref (md 10), .ref (md 11), .ref (md 12), .ref (md 13), .ref (md 14), .ref (md 15), .ref (md 16), .int (nI w), .ref (md 17)])), (md 1, .inl (cI, 81, .inl (nF su))), (md 2, .inl (cI, 81, .inl (nF po))), (md 3, .inl (cI, 91, .inl (nF xs))), (md 4, .inl (cI, 91, .inl (nF ys))), (md 5, .inl (cI, 91, .inl (nF zs))), (md 6, .inl (cZ, 91, .inl (bF S))), (md 9, .inl (cZ, 91, .inl (bF td2))), (md 10, .inl (cZ, 91, .inl (bF be2))), (md 11, .inl (cI, 92, .inl (nF pl2)))] → va_S A s.heap H locs → WG p l e wsX7_findGreatest { frames := 4, cells := 0, slots := 0, locals := 91 } s m [.ref (md 0)] below meth c H locs (CQ (S := (Nat → Bool) × (Nat → Bool) × (Nat → Nat)) D (fun u => (fun (td3 : Nat → Bool) (be3 : Nat → Bool) (pl3 : Nat → Nat) => eqN (nn q) be3 (grq q S (nn q))) u.1 u.2.1 u.2.2) (fun u => (fun (td3 : Nat → Bool) (be3 : Nat → Bool) (pl3 : Nat → Nat) => none) u.1 u.2.1 u.2.2) (fun u => (fun (td3 : Nat → Bool) (be3 : Nat → Bool) (pl3 : Nat → Nat) => [(md 0, .inr (7, [.int (nI q), .int (nI (nn q)), .ref (md 1), .ref (md 2), .ref (md 3), .ref (md 4), .ref (md 5), .ref (md 6), .ref (md 7), .ref (md 8), .ref (md 9), .ref (md 10), .ref (md 11), .ref (md 12), .ref (md 13), .ref (md 14), .ref (md 15), .ref (md 16), .int (nI w), .ref (md 17)])), (md 1, .inl (cI, 81, .inl (nF su))), (md 2, .inl (cI, 81, .inl (nF po))), (md 3, .inl (cI, 91, .inl (nF xs))), (md 4, .inl (cI, 91, .inl (nF ys))), (md 5, .inl (cI, 91, .inl (nF zs))), (md 6, .inl (cZ, 91, .inl (bF S))), (md 9, .inl (cZ, 91, .inl (bF td3))), (md 10, .inl (cZ, 91, .inl (bF be3))), (md 11, .inl (cI, 92, .inl (nF pl3)))]) u.1 u.2.1 u.2.2) A) A 49 ls [] := by
          intro N49
          induction N49 with
          | zero => intro mo tp p0 y td2 be2 pl2 ls H locs hN; exact absurd hN (Nat.not_lt_zero _)
          | succ N49 ih49 =>
            intro mo tp p0 y td2 be2 pl2 ls H locs hN49 k_g k_f k_o k_y hl hP hD hS
            have k_l := GI_le k_g
            refine lv_iload hx hb dX7_findGreatest_49 (lv_at hl 4 rfl) ?_
            refine nv_ifb_eq (tgt := 183) hx hb dX7_findGreatest_51 (by decide) (fun c51 => ?_) (fun c51 => ?_)
            · exact ctW_retV (td2, be2, pl2) hx hb hr dX7_findGreatest_183 hlocks hS hP hD (by dsimp only; exact (k_y c51)) rfl
            · have L54 : ∀ (N54 : Nat) (p1 : Nat) (ls : Array Slot) (H : Heap) (locs : List Loc), nn q - p1 < N54 → (p1 ≤ nn q) → (GI q S pl2 td2 tp p1) → (GP q S be2 td2 mo tp p1) → (pot q pl2 tp p1 ≤ pot q pl2 tp p0) → lv_has ls 6 [(0, .ref (md 0)), (1, .int (nI mo)), (2, .int (nI tp)), (3, .int (nI p1)), (4, .int (nI (y).toNat))] → va_P D vwCl [(md 0, .inr (7, [.int (nI q), .int (nI (nn q)), .ref (md 1), .ref (md 2), .ref (md 3), .ref (md 4), .ref (md 5), .ref (md 6), .ref (md 7), .ref (md 8), .ref (md 9), .ref (md 10), .ref (md 11), .ref (md 12), .ref (md 13), .ref (md 14), .ref (md 15), .ref (md 16), .int (nI w), .ref (md 17)])), (md 1, .inl (cI, 81, .inl (nF su))), (md 2, .inl (cI, 81, .inl (nF po))), (md 3, .inl (cI, 91, .inl (nF xs))), (md 4, .inl (cI, 91, .inl (nF ys))), (md 5, .inl (cI, 91, .inl (nF zs))), (md 6, .inl (cZ, 91, .inl (bF S))), (md 9, .inl (cZ, 91, .inl (bF td2))), (md 10, .inl (cZ, 91, .inl (bF be2))), (md 11, .inl (cI, 92, .inl (nF pl2)))] H → va_D A [(md 0, .inr (7, [.int (nI q), .int (nI (nn q)), .ref (md 1), .ref (md 2), .ref (md 3), .ref (md 4), .ref (md 5), .ref (md 6), .ref (md 7), .ref (md 8), .ref (md 9), .ref (md 10), .ref (md 11), .ref (md 12), .ref (md 13), .ref (md 14), .ref (md 15), .ref (md 16), .int (nI w), .ref (md 17)])), (md 1, .inl (cI, 81, .inl (nF su))), (md 2, .inl (cI, 81, .inl (nF po))), (md 3, .inl (cI, 91, .inl (nF xs))), (md 4, .inl (cI, 91, .inl (nF ys))), (md 5, .inl (cI, 91, .inl (nF zs))), (md 6, .inl (cZ, 91, .inl (bF S))), (md 9, .inl (cZ, 91, .inl (bF td2))), (md 10, .inl (cZ, 91, .inl (bF be2))), (md 11, .inl (cI, 92, .inl (nF pl2)))] → va_S A s.heap H locs → WG p l e wsX7_findGreatest { frames := 4, cells := 0, slots := 0, locals := 91 } s m [.ref (md 0)] below meth c H locs (CQ (S := (Nat → Bool) × (Nat → Bool) × (Nat → Nat)) D (fun u => (fun (td3 : Nat → Bool) (be3 : Nat → Bool) (pl3 : Nat → Nat) => eqN (nn q) be3 (grq q S (nn q))) u.1 u.2.1 u.2.2) (fun u => (fun (td3 : Nat → Bool) (be3 : Nat → Bool) (pl3 : Nat → Nat) => none) u.1 u.2.1 u.2.2) (fun u => (fun (td3 : Nat → Bool) (be3 : Nat → Bool) (pl3 : Nat → Nat) => [(md 0, .inr (7, [.int (nI q), .int (nI (nn q)), .ref (md 1), .ref (md 2), .ref (md 3), .ref (md 4), .ref (md 5), .ref (md 6), .ref (md 7), .ref (md 8), .ref (md 9), .ref (md 10), .ref (md 11), .ref (md 12), .ref (md 13), .ref (md 14), .ref (md 15), .ref (md 16), .int (nI w), .ref (md 17)])), (md 1, .inl (cI, 81, .inl (nF su))), (md 2, .inl (cI, 81, .inl (nF po))), (md 3, .inl (cI, 91, .inl (nF xs))), (md 4, .inl (cI, 91, .inl (nF ys))), (md 5, .inl (cI, 91, .inl (nF zs))), (md 6, .inl (cZ, 91, .inl (bF S))), (md 9, .inl (cZ, 91, .inl (bF td3))), (md 10, .inl (cZ, 91, .inl (bF be3))), (md 11, .inl (cI, 92, .inl (nF pl3)))]) u.1 u.2.1 u.2.2) A) A 54 ls [] := by
                intro N54
                induction N54 with
                | zero => intro p1 ls H locs hN; exact absurd hN (Nat.not_lt_zero _)
                | succ N54 ih54 =>
                  intro p1 ls H locs hN54 k_1 k_g1 k_f1 k_m hl hP hD hS
                  refine lv_iload_n hx hb dX7_findGreatest_54 rfl (lv_at hl 3 rfl) ?_
                  refine lv_aload_n hx hb dX7_findGreatest_55 rfl (lv_at hl 0 rfl) ?_
                  refine va_get (D := D) (ci := 7) (v := .int (nI (nn q))) (C := RX7) (T := TX7) (N := 20) hx hb hts hiX7 hown hK hP 0 rfl rfl 1 (by decide) hf83 (fun _ h9 => h9) rfl dX7_findGreatest_56 ?_
                  refine nv_icmp_ge (tgt := 76) hx hb (by omega) (by omega) dX7_findGreatest_59 (by decide) (fun c59 => ?_) (fun c59 => ?_)
                  · refine lv_iload_n hx hb dX7_findGreatest_76 rfl (lv_at hl 3 rfl) ?_
                    refine lv_aload_n hx hb dX7_findGreatest_77 rfl (lv_at hl 0 rfl) ?_
                    refine va_get (D := D) (ci := 7) (v := .int (nI (nn q))) (C := RX7) (T := TX7) (N := 20) hx hb hts hiX7 hown hK hP 0 rfl rfl 1 (by decide) hf83 (fun _ h9 => h9) rfl dX7_findGreatest_78 ?_
                    refine nv_icmp_ge (tgt := 146) hx hb (by omega) (by omega) dX7_findGreatest_81 (by decide) (fun c81 => ?_) (fun c81 => absurd c81 (by omega))
                    refine lv_iload_n hx hb dX7_findGreatest_146 rfl (lv_at hl 2 rfl) ?_
                    refine nv_if_le (tgt := 177) hx hb (by omega) dX7_findGreatest_147 (by decide) (fun c147 => ?_) (fun c147 => ?_)
                    · refine lv_iconst (v := nI 0) hx hb dX7_findGreatest_177 (by decide) ?_
                      refine lv_istore (lv' := [(4, .int (nI 0)), (0, .ref (md 0)), (1, .int (nI mo)), (2, .int (nI tp)), (3, .int (nI p1))]) hx hb dX7_findGreatest_178 hl (by decide) rfl (fun ls hl => ?_)
                      refine lv_goto (tgt := 49) hx hb dX7_findGreatest_180 (by decide) ?_
                      exact ih49 mo tp p1 false td2 be2 pl2 ls _ _ (by rw [c51] at hN49; simp at hN49 ⊢; omega) k_g1 k_f1 (by omega) (fun _ => (GP_end k_g1 k_f1 (by omega)).1) (lv_sub hl [1, 2, 3, 4, 0] rfl) hP hD hS
                    · have hpp := GI_pop k_g1 c147
                      have hpp1 := hpp.1
                      refine lv_iinc (v := nI (tp - 1)) (lv' := [(2, .int (nI (tp - 1))), (0, .ref (md 0)), (1, .int (nI mo)), (3, .int (nI p1)), (4, .int (nI (y).toNat))]) hx hb dX7_findGreatest_150 hl (k := 2) rfl (nI_dec (by omega)) (by decide) rfl (fun ls hl => ?_)
                      refine lv_aload_n hx hb dX7_findGreatest_153 rfl (lv_at hl 1 rfl) ?_
                      refine va_get (D := D) (ci := 7) (v := .ref (md 9)) (C := RX7) (T := TX7) (N := 20) hx hb hts hiX7 hown hK hP 0 rfl rfl 10 (by decide) hf35 (fun _ h9 => h9) rfl dX7_findGreatest_154 ?_
                      refine lv_aload_n hx hb dX7_findGreatest_157 rfl (lv_at hl 1 rfl) ?_
                      refine va_get (D := D) (ci := 7) (v := .ref (md 11)) (C := RX7) (T := TX7) (N := 20) hx hb hts hiX7 hown hK hP 0 rfl rfl 12 (by decide) hf41 (fun _ h9 => h9) rfl dX7_findGreatest_158 ?_
                      refine lv_iload_n hx hb dX7_findGreatest_161 rfl (lv_at hl 0 rfl) ?_
                      refine nv_iald hx hb hK hP 9 0 rfl rfl (by omega) (by decide) dX7_findGreatest_162 ?_
                      refine lv_iconst (v := nI 0) hx hb dX7_findGreatest_163 (by decide) ?_
                      refine nv_zast hx hb hK hP hD hS 7 1 rfl rfl false (by omega) (by decide) dX7_findGreatest_164 (fun H locs hP hD hS => ?_)
                      have hP : va_P D vwCl [(md 0, .inr (7, [.int (nI q), .int (nI (nn q)), .ref (md 1), .ref (md 2), .ref (md 3), .ref (md 4), .ref (md 5), .ref (md 6), .ref (md 7), .ref (md 8), .ref (md 9), .ref (md 10), .ref (md 11), .ref (md 12), .ref (md 13), .ref (md 14), .ref (md 15), .ref (md 16), .int (nI w), .ref (md 17)])), (md 1, .inl (cI, 81, .inl (nF su))), (md 2, .inl (cI, 81, .inl (nF po))), (md 3, .inl (cI, 91, .inl (nF xs))), (md 4, .inl (cI, 91, .inl (nF ys))), (md 5, .inl (cI, 91, .inl (nF zs))), (md 6, .inl (cZ, 91, .inl (bF S))), (md 9, .inl (cZ, 91, .inl (bF (upB td2 (pl2 (tp - 1)) false)))), (md 10, .inl (cZ, 91, .inl (bF be2))), (md 11, .inl (cI, 92, .inl (nF pl2)))] H := hP
                      have hD : va_D A [(md 0, .inr (7, [.int (nI q), .int (nI (nn q)), .ref (md 1), .ref (md 2), .ref (md 3), .ref (md 4), .ref (md 5), .ref (md 6), .ref (md 7), .ref (md 8), .ref (md 9), .ref (md 10), .ref (md 11), .ref (md 12), .ref (md 13), .ref (md 14), .ref (md 15), .ref (md 16), .int (nI w), .ref (md 17)])), (md 1, .inl (cI, 81, .inl (nF su))), (md 2, .inl (cI, 81, .inl (nF po))), (md 3, .inl (cI, 91, .inl (nF xs))), (md 4, .inl (cI, 91, .inl (nF ys))), (md 5, .inl (cI, 91, .inl (nF zs))), (md 6, .inl (cZ, 91, .inl (bF S))), (md 9, .inl (cZ, 91, .inl (bF (upB td2 (pl2 (tp - 1)) false)))), (md 10, .inl (cZ, 91, .inl (bF be2))), (md 11, .inl (cI, 92, .inl (nF pl2)))] := hD
                      refine lv_aload_n hx hb dX7_findGreatest_165 rfl (lv_at hl 1 rfl) ?_
                      refine va_get (D := D) (ci := 7) (v := .ref (md 11)) (C := RX7) (T := TX7) (N := 20) hx hb hts hiX7 hown hK hP 0 rfl rfl 12 (by decide) hf41 (fun _ h9 => h9) rfl dX7_findGreatest_166 ?_
                      refine lv_iload_n hx hb dX7_findGreatest_169 rfl (lv_at hl 0 rfl) ?_
                      refine nv_iald hx hb hK hP 9 0 rfl rfl (by omega) (by decide) dX7_findGreatest_170 ?_
                      refine lv_iconst (v := nI 1) hx hb dX7_findGreatest_171 (by decide) ?_
                      refine nv_addE (r := (pl2 (tp - 1)) + 1) hx hb rfl dX7_findGreatest_172 ?_
                      refine lv_istore_n (lv' := [(3, .int (nI ((pl2 (tp - 1)) + 1))), (2, .int (nI (tp - 1))), (0, .ref (md 0)), (1, .int (nI mo)), (4, .int (nI (y).toNat))]) hx hb dX7_findGreatest_173 rfl hl (by decide) rfl (fun ls hl => ?_)
                      refine lv_goto (tgt := 49) hx hb dX7_findGreatest_174 (by decide) ?_
                      exact ih49 mo (tp - 1) ((pl2 (tp - 1)) + 1) y (upB td2 (pl2 (tp - 1)) false) be2 pl2 ls _ _ (by have := pot_pop c147 hpp.1 (show p1 = nn q by omega); omega) hpp.2 (Or.inr (GP_end k_g1 k_f1 (by omega))) (by omega) (fun h => by rw [c51] at h; cases h) (lv_sub hl [2, 3, 1, 0, 4] rfl) hP hD hS
                  · refine lv_aload_n hx hb dX7_findGreatest_62 rfl (lv_at hl 0 rfl) ?_
                    refine lv_iload_n hx hb dX7_findGreatest_63 rfl (lv_at hl 3 rfl) ?_
                    refine ctR_V (As := [.int (nI p1)]) (rest := []) (r := .int (nI (fitq q td2 p1).toNat)) ⟨hx, hb, hml, hown, hts⟩ (c_X7_fits l D cI cZ md q w su po xs ys zs hM td2 p1 (by omega)) (cwV 1 hts gX7_findGreatest_X7_fits rfl rfl rfl hdV_X7_fits ⟨Nat.le_of_ble_eq_true rfl, Nat.le_of_ble_eq_true rfl⟩) hK hN hP [0, 1, 2, 3, 4, 5, 7] rfl 0 7 rfl rfl rfl hl.1 rfl (Nat.le_of_ble_eq_true rfl) ⟨Nat.zero_le _, Nat.zero_le _⟩ dX7_findGreatest_64 ?_
                    refine nv_ifb_ne (tgt := 76) hx hb dX7_findGreatest_67 (by decide) (fun c67 => ?_) (fun c67 => ?_)
                    · refine lv_iload_n hx hb dX7_findGreatest_76 rfl (lv_at hl 3 rfl) ?_
                      refine lv_aload_n hx hb dX7_findGreatest_77 rfl (lv_at hl 0 rfl) ?_
                      refine va_get (D := D) (ci := 7) (v := .int (nI (nn q))) (C := RX7) (T := TX7) (N := 20) hx hb hts hiX7 hown hK hP 0 rfl rfl 1 (by decide) hf83 (fun _ h9 => h9) rfl dX7_findGreatest_78 ?_
                      refine nv_icmp_ge (tgt := 146) hx hb (by omega) (by omega) dX7_findGreatest_81 (by decide) (fun c81 => absurd c81 (by omega)) (fun c81 => ?_)
                      have hps := GI_push hM.1 k_g1 c81 c67
                      refine lv_aload_n hx hb dX7_findGreatest_84 rfl (lv_at hl 0 rfl) ?_
                      refine va_get (D := D) (ci := 7) (v := .ref (md 9)) (C := RX7) (T := TX7) (N := 20) hx hb hts hiX7 hown hK hP 0 rfl rfl 10 (by decide) hf35 (fun _ h9 => h9) rfl dX7_findGreatest_85 ?_
                      refine lv_iload_n hx hb dX7_findGreatest_88 rfl (lv_at hl 3 rfl) ?_
                      refine lv_iconst (v := nI 1) hx hb dX7_findGreatest_89 (by decide) ?_
                      refine nv_zast hx hb hK hP hD hS 7 1 rfl rfl true (by omega) (by decide) dX7_findGreatest_90 (fun H locs hP hD hS => ?_)
                      have hP : va_P D vwCl [(md 0, .inr (7, [.int (nI q), .int (nI (nn q)), .ref (md 1), .ref (md 2), .ref (md 3), .ref (md 4), .ref (md 5), .ref (md 6), .ref (md 7), .ref (md 8), .ref (md 9), .ref (md 10), .ref (md 11), .ref (md 12), .ref (md 13), .ref (md 14), .ref (md 15), .ref (md 16), .int (nI w), .ref (md 17)])), (md 1, .inl (cI, 81, .inl (nF su))), (md 2, .inl (cI, 81, .inl (nF po))), (md 3, .inl (cI, 91, .inl (nF xs))), (md 4, .inl (cI, 91, .inl (nF ys))), (md 5, .inl (cI, 91, .inl (nF zs))), (md 6, .inl (cZ, 91, .inl (bF S))), (md 9, .inl (cZ, 91, .inl (bF (upB td2 p1 true)))), (md 10, .inl (cZ, 91, .inl (bF be2))), (md 11, .inl (cI, 92, .inl (nF pl2)))] H := hP
                      have hD : va_D A [(md 0, .inr (7, [.int (nI q), .int (nI (nn q)), .ref (md 1), .ref (md 2), .ref (md 3), .ref (md 4), .ref (md 5), .ref (md 6), .ref (md 7), .ref (md 8), .ref (md 9), .ref (md 10), .ref (md 11), .ref (md 12), .ref (md 13), .ref (md 14), .ref (md 15), .ref (md 16), .int (nI w), .ref (md 17)])), (md 1, .inl (cI, 81, .inl (nF su))), (md 2, .inl (cI, 81, .inl (nF po))), (md 3, .inl (cI, 91, .inl (nF xs))), (md 4, .inl (cI, 91, .inl (nF ys))), (md 5, .inl (cI, 91, .inl (nF zs))), (md 6, .inl (cZ, 91, .inl (bF S))), (md 9, .inl (cZ, 91, .inl (bF (upB td2 p1 true)))), (md 10, .inl (cZ, 91, .inl (bF be2))), (md 11, .inl (cI, 92, .inl (nF pl2)))] := hD
                      refine lv_aload_n hx hb dX7_findGreatest_91 rfl (lv_at hl 0 rfl) ?_
                      refine va_get (D := D) (ci := 7) (v := .ref (md 11)) (C := RX7) (T := TX7) (N := 20) hx hb hts hiX7 hown hK hP 0 rfl rfl 12 (by decide) hf41 (fun _ h9 => h9) rfl dX7_findGreatest_92 ?_
                      refine lv_iload_n hx hb dX7_findGreatest_95 rfl (lv_at hl 2 rfl) ?_
                      refine lv_iload_n hx hb dX7_findGreatest_96 rfl (lv_at hl 3 rfl) ?_
                      refine nv_iast hx hb hK hP hD hS 9 0 rfl rfl (by omega) (by decide) dX7_findGreatest_97 (fun H locs hP hD hS => ?_)
                      have hP : va_P D vwCl [(md 0, .inr (7, [.int (nI q), .int (nI (nn q)), .ref (md 1), .ref (md 2), .ref (md 3), .ref (md 4), .ref (md 5), .ref (md 6), .ref (md 7), .ref (md 8), .ref (md 9), .ref (md 10), .ref (md 11), .ref (md 12), .ref (md 13), .ref (md 14), .ref (md 15), .ref (md 16), .int (nI w), .ref (md 17)])), (md 1, .inl (cI, 81, .inl (nF su))), (md 2, .inl (cI, 81, .inl (nF po))), (md 3, .inl (cI, 91, .inl (nF xs))), (md 4, .inl (cI, 91, .inl (nF ys))), (md 5, .inl (cI, 91, .inl (nF zs))), (md 6, .inl (cZ, 91, .inl (bF S))), (md 9, .inl (cZ, 91, .inl (bF (upB td2 p1 true)))), (md 10, .inl (cZ, 91, .inl (bF be2))), (md 11, .inl (cI, 92, .inl (nF (upN pl2 tp p1))))] H := hP
                      have hD : va_D A [(md 0, .inr (7, [.int (nI q), .int (nI (nn q)), .ref (md 1), .ref (md 2), .ref (md 3), .ref (md 4), .ref (md 5), .ref (md 6), .ref (md 7), .ref (md 8), .ref (md 9), .ref (md 10), .ref (md 11), .ref (md 12), .ref (md 13), .ref (md 14), .ref (md 15), .ref (md 16), .int (nI w), .ref (md 17)])), (md 1, .inl (cI, 81, .inl (nF su))), (md 2, .inl (cI, 81, .inl (nF po))), (md 3, .inl (cI, 91, .inl (nF xs))), (md 4, .inl (cI, 91, .inl (nF ys))), (md 5, .inl (cI, 91, .inl (nF zs))), (md 6, .inl (cZ, 91, .inl (bF S))), (md 9, .inl (cZ, 91, .inl (bF (upB td2 p1 true)))), (md 10, .inl (cZ, 91, .inl (bF be2))), (md 11, .inl (cI, 92, .inl (nF (upN pl2 tp p1))))] := hD
                      refine lv_iinc (v := nI (tp + 1)) (lv' := [(2, .int (nI (tp + 1))), (0, .ref (md 0)), (1, .int (nI mo)), (3, .int (nI p1)), (4, .int (nI (y).toNat))]) hx hb dX7_findGreatest_98 hl (k := 2) rfl (nI_inc tp) (by decide) rfl (fun ls hl => ?_)
                      refine lv_iload_n hx hb dX7_findGreatest_101 rfl (lv_at hl 0 rfl) ?_
                      refine lv_iload_n hx hb dX7_findGreatest_102 rfl (lv_at hl 2 rfl) ?_
                      refine nv_icmp_le (tgt := 140) hx hb (by omega) (by omega) dX7_findGreatest_103 (by decide) (fun c103 => ?_) (fun c103 => ?_)
                      · refine lv_iinc (v := nI (p1 + 1)) (lv' := [(3, .int (nI (p1 + 1))), (2, .int (nI (tp + 1))), (0, .ref (md 0)), (1, .int (nI mo)), (4, .int (nI (y).toNat))]) hx hb dX7_findGreatest_140 hl (k := 3) rfl (nI_inc p1) (by decide) rfl (fun ls hl => ?_)
                        refine lv_goto (tgt := 49) hx hb dX7_findGreatest_143 (by decide) ?_
                        exact ih49 mo (tp + 1) (p1 + 1) y (upB td2 p1 true) be2 (upN pl2 tp p1) ls _ _ (by have := pot_push (tp := tp) (pl := pl2) c81; omega) hps (GP_push0 k_f1 c103) (by omega) (fun h => by rw [c51] at h; cases h) (lv_sub hl [2, 3, 1, 0, 4] rfl) hP hD hS
                      · refine lv_iload_n hx hb dX7_findGreatest_106 rfl (lv_at hl 0 rfl) ?_
                        refine lv_istore_n (lv' := [(1, .int (nI (tp + 1))), (2, .int (nI (tp + 1))), (0, .ref (md 0)), (3, .int (nI p1)), (4, .int (nI (y).toNat))]) hx hb dX7_findGreatest_107 rfl hl (by decide) rfl (fun ls hl => ?_)
                        refine lv_iconst (v := nI 0) hx hb dX7_findGreatest_108 (by decide) ?_
                        refine lv_istore (lv' := [(5, .int (nI 0)), (1, .int (nI (tp + 1))), (2, .int (nI (tp + 1))), (0, .ref (md 0)), (3, .int (nI p1)), (4, .int (nI (y).toNat))]) hx hb dX7_findGreatest_109 hl (by decide) rfl (fun ls hl => ?_)
                        have L111 : ∀ (N111 : Nat) (j : Nat) (be4 : Nat → Bool) (ls : Array Slot) (H : Heap) (locs : List Loc), nn q - j < N111 → (j ≤ nn q) → (∀ t, t < j → be4 t = upB td2 p1 true t) → lv_has ls 6 [(0, .ref (md 0)), (1, .int (nI (tp + 1))), (2, .int (nI (tp + 1))), (3, .int (nI p1)), (4, .int (nI (y).toNat)), (5, .int (nI j))] → va_P D vwCl [(md 0, .inr (7, [.int (nI q), .int (nI (nn q)), .ref (md 1), .ref (md 2), .ref (md 3), .ref (md 4), .ref (md 5), .ref (md 6), .ref (md 7), .ref (md 8), .ref (md 9), .ref (md 10), .ref (md 11), .ref (md 12), .ref (md 13), .ref (md 14), .ref (md 15), .ref (md 16), .int (nI w), .ref (md 17)])), (md 1, .inl (cI, 81, .inl (nF su))), (md 2, .inl (cI, 81, .inl (nF po))), (md 3, .inl (cI, 91, .inl (nF xs))), (md 4, .inl (cI, 91, .inl (nF ys))), (md 5, .inl (cI, 91, .inl (nF zs))), (md 6, .inl (cZ, 91, .inl (bF S))), (md 9, .inl (cZ, 91, .inl (bF (upB td2 p1 true)))), (md 10, .inl (cZ, 91, .inl (bF be4))), (md 11, .inl (cI, 92, .inl (nF (upN pl2 tp p1))))] H → va_D A [(md 0, .inr (7, [.int (nI q), .int (nI (nn q)), .ref (md 1), .ref (md 2), .ref (md 3), .ref (md 4), .ref (md 5), .ref (md 6), .ref (md 7), .ref (md 8), .ref (md 9), .ref (md 10), .ref (md 11), .ref (md 12), .ref (md 13), .ref (md 14), .ref (md 15), .ref (md 16), .int (nI w), .ref (md 17)])), (md 1, .inl (cI, 81, .inl (nF su))), (md 2, .inl (cI, 81, .inl (nF po))), (md 3, .inl (cI, 91, .inl (nF xs))), (md 4, .inl (cI, 91, .inl (nF ys))), (md 5, .inl (cI, 91, .inl (nF zs))), (md 6, .inl (cZ, 91, .inl (bF S))), (md 9, .inl (cZ, 91, .inl (bF (upB td2 p1 true)))), (md 10, .inl (cZ, 91, .inl (bF be4))), (md 11, .inl (cI, 92, .inl (nF (upN pl2 tp p1))))] → va_S A s.heap H locs → WG p l e wsX7_findGreatest { frames := 4, cells := 0, slots := 0, locals := 91 } s m [.ref (md 0)] below meth c H locs (CQ (S := (Nat → Bool) × (Nat → Bool) × (Nat → Nat)) D (fun u => (fun (td3 : Nat → Bool) (be3 : Nat → Bool) (pl3 : Nat → Nat) => eqN (nn q) be3 (grq q S (nn q))) u.1 u.2.1 u.2.2) (fun u => (fun (td3 : Nat → Bool) (be3 : Nat → Bool) (pl3 : Nat → Nat) => none) u.1 u.2.1 u.2.2) (fun u => (fun (td3 : Nat → Bool) (be3 : Nat → Bool) (pl3 : Nat → Nat) => [(md 0, .inr (7, [.int (nI q), .int (nI (nn q)), .ref (md 1), .ref (md 2), .ref (md 3), .ref (md 4), .ref (md 5), .ref (md 6), .ref (md 7), .ref (md 8), .ref (md 9), .ref (md 10), .ref (md 11), .ref (md 12), .ref (md 13), .ref (md 14), .ref (md 15), .ref (md 16), .int (nI w), .ref (md 17)])), (md 1, .inl (cI, 81, .inl (nF su))), (md 2, .inl (cI, 81, .inl (nF po))), (md 3, .inl (cI, 91, .inl (nF xs))), (md 4, .inl (cI, 91, .inl (nF ys))), (md 5, .inl (cI, 91, .inl (nF zs))), (md 6, .inl (cZ, 91, .inl (bF S))), (md 9, .inl (cZ, 91, .inl (bF td3))), (md 10, .inl (cZ, 91, .inl (bF be3))), (md 11, .inl (cI, 92, .inl (nF pl3)))]) u.1 u.2.1 u.2.2) A) A 111 ls [] := by
                          intro N111
                          induction N111 with
                          | zero => intro j be4 ls H locs hN; exact absurd hN (Nat.not_lt_zero _)
                          | succ N111 ih111 =>
                            intro j be4 ls H locs hN111 k_j k_s hl hP hD hS
                            refine lv_iload hx hb dX7_findGreatest_111 (lv_at hl 5 rfl) ?_
                            refine lv_aload_n hx hb dX7_findGreatest_113 rfl (lv_at hl 0 rfl) ?_
                            refine va_get (D := D) (ci := 7) (v := .int (nI (nn q))) (C := RX7) (T := TX7) (N := 20) hx hb hts hiX7 hown hK hP 0 rfl rfl 1 (by decide) hf83 (fun _ h9 => h9) rfl dX7_findGreatest_114 ?_
                            refine nv_icmp_ge (tgt := 140) hx hb (by omega) (by omega) dX7_findGreatest_117 (by decide) (fun c117 => ?_) (fun c117 => ?_)
                            · refine lv_iinc (v := nI (p1 + 1)) (lv' := [(3, .int (nI (p1 + 1))), (0, .ref (md 0)), (1, .int (nI (tp + 1))), (2, .int (nI (tp + 1))), (4, .int (nI (y).toNat)), (5, .int (nI j))]) hx hb dX7_findGreatest_140 hl (k := 3) rfl (nI_inc p1) (by decide) rfl (fun ls hl => ?_)
                              refine lv_goto (tgt := 49) hx hb dX7_findGreatest_143 (by decide) ?_
                              exact ih49 (tp + 1) (tp + 1) (p1 + 1) y (upB td2 p1 true) be4 (upN pl2 tp p1) ls _ _ (by have := pot_push (tp := tp) (pl := pl2) c81; omega) hps (GP_push1 k_q k_a k_g1 k_f1 c81 c67 c103 (fun t ht => k_s t (by omega))) (GI_le hps) (fun h => by rw [c51] at h; cases h) (lv_sub hl [1, 2, 3, 0, 4] rfl) hP hD hS
                            · refine lv_aload_n hx hb dX7_findGreatest_120 rfl (lv_at hl 0 rfl) ?_
                              refine va_get (D := D) (ci := 7) (v := .ref (md 10)) (C := RX7) (T := TX7) (N := 20) hx hb hts hiX7 hown hK hP 0 rfl rfl 11 (by decide) hf38 (fun _ h9 => h9) rfl dX7_findGreatest_121 ?_
                              refine lv_iload hx hb dX7_findGreatest_124 (lv_at hl 5 rfl) ?_
                              refine lv_aload_n hx hb dX7_findGreatest_126 rfl (lv_at hl 0 rfl) ?_
                              refine va_get (D := D) (ci := 7) (v := .ref (md 9)) (C := RX7) (T := TX7) (N := 20) hx hb hts hiX7 hown hK hP 0 rfl rfl 10 (by decide) hf35 (fun _ h9 => h9) rfl dX7_findGreatest_127 ?_
                              refine lv_iload hx hb dX7_findGreatest_130 (lv_at hl 5 rfl) ?_
                              refine nv_zald hx hb hK hP 7 1 rfl rfl (by omega) (by decide) dX7_findGreatest_132 ?_
                              refine nv_zast hx hb hK hP hD hS 8 1 rfl rfl ((upB td2 p1 true) j) (by omega) (by decide) dX7_findGreatest_133 (fun H locs hP hD hS => ?_)
                              have hP : va_P D vwCl [(md 0, .inr (7, [.int (nI q), .int (nI (nn q)), .ref (md 1), .ref (md 2), .ref (md 3), .ref (md 4), .ref (md 5), .ref (md 6), .ref (md 7), .ref (md 8), .ref (md 9), .ref (md 10), .ref (md 11), .ref (md 12), .ref (md 13), .ref (md 14), .ref (md 15), .ref (md 16), .int (nI w), .ref (md 17)])), (md 1, .inl (cI, 81, .inl (nF su))), (md 2, .inl (cI, 81, .inl (nF po))), (md 3, .inl (cI, 91, .inl (nF xs))), (md 4, .inl (cI, 91, .inl (nF ys))), (md 5, .inl (cI, 91, .inl (nF zs))), (md 6, .inl (cZ, 91, .inl (bF S))), (md 9, .inl (cZ, 91, .inl (bF (upB td2 p1 true)))), (md 10, .inl (cZ, 91, .inl (bF (upB be4 j ((upB td2 p1 true) j))))), (md 11, .inl (cI, 92, .inl (nF (upN pl2 tp p1))))] H := hP
                              have hD : va_D A [(md 0, .inr (7, [.int (nI q), .int (nI (nn q)), .ref (md 1), .ref (md 2), .ref (md 3), .ref (md 4), .ref (md 5), .ref (md 6), .ref (md 7), .ref (md 8), .ref (md 9), .ref (md 10), .ref (md 11), .ref (md 12), .ref (md 13), .ref (md 14), .ref (md 15), .ref (md 16), .int (nI w), .ref (md 17)])), (md 1, .inl (cI, 81, .inl (nF su))), (md 2, .inl (cI, 81, .inl (nF po))), (md 3, .inl (cI, 91, .inl (nF xs))), (md 4, .inl (cI, 91, .inl (nF ys))), (md 5, .inl (cI, 91, .inl (nF zs))), (md 6, .inl (cZ, 91, .inl (bF S))), (md 9, .inl (cZ, 91, .inl (bF (upB td2 p1 true)))), (md 10, .inl (cZ, 91, .inl (bF (upB be4 j ((upB td2 p1 true) j))))), (md 11, .inl (cI, 92, .inl (nF (upN pl2 tp p1))))] := hD
                              refine lv_iinc (v := nI (j + 1)) (lv' := [(5, .int (nI (j + 1))), (0, .ref (md 0)), (1, .int (nI (tp + 1))), (2, .int (nI (tp + 1))), (3, .int (nI p1)), (4, .int (nI (y).toNat))]) hx hb dX7_findGreatest_134 hl (k := 5) rfl (nI_inc j) (by decide) rfl (fun ls hl => ?_)
                              refine lv_goto (tgt := 111) hx hb dX7_findGreatest_137 (by decide) ?_
                              exact ih111 (j + 1) (upB be4 j ((upB td2 p1 true) j)) ls _ _ (by omega) (by omega) (fun t ht => (Nat.lt_succ_iff_lt_or_eq.mp ht).elim (fun h => by rw [upB_n (by omega)]; exact k_s t h) (fun h => by rw [h, upB_s])) (lv_sub hl [1, 2, 3, 4, 5, 0] rfl) hP hD hS
                        exact L111 (nn q - 0 + 1) 0 be2 ls _ _ (by omega) (Nat.zero_le _) (fun t h => absurd h (Nat.not_lt_zero t)) (lv_sub hl [3, 1, 2, 4, 5, 0] rfl) hP hD hS
                    · refine lv_iinc (v := nI (p1 + 1)) (lv' := [(3, .int (nI (p1 + 1))), (0, .ref (md 0)), (1, .int (nI mo)), (2, .int (nI tp)), (4, .int (nI (y).toNat))]) hx hb dX7_findGreatest_70 hl (k := 3) rfl (nI_inc p1) (by decide) rfl (fun ls hl => ?_)
                      refine lv_goto (tgt := 54) hx hb dX7_findGreatest_73 (by decide) ?_
                      exact ih54 (p1 + 1) ls _ _ (by omega) (by omega) (GI_skip k_g1 c59) (GP_skip hM.1 k_f1 c59 c67) (Nat.le_trans pot_skip k_m) (lv_sub hl [1, 2, 3, 0, 4] rfl) hP hD hS
              exact L54 (nn q - p0 + 1) p0 ls _ _ (by omega) k_g.1 k_g k_f (Nat.le_refl _) (lv_sub hl [0, 1, 2, 3, 4] rfl) hP hD hS
        exact L49 (pot q pl 0 0 + true.toNat + 1) 0 0 0 true td1 be1 pl ls _ _ (by omega) (GI_0 k_a (fun t ht => k_t t (by omega))) (Or.inl ⟨rfl, fun t ht => (k_b t (by omega)).trans (k_t t (by omega)).symm, fun t ht => k_t t (by omega)⟩) (Nat.zero_le _) (fun h => by cases h) (lv_sub hl [4, 3, 2, 1, 0] rfl) hP hD hS
      · refine lv_aload_n hx hb dX7_findGreatest_10 rfl (lv_at hl 0 rfl) ?_
        refine va_get (D := D) (ci := 7) (v := .ref (md 9)) (C := RX7) (T := TX7) (N := 20) hx hb hts hiX7 hown hK hP 0 rfl rfl 10 (by decide) hf35 (fun _ h9 => h9) rfl dX7_findGreatest_11 ?_
        refine lv_iload_n hx hb dX7_findGreatest_14 rfl (lv_at hl 1 rfl) ?_
        refine lv_aload_n hx hb dX7_findGreatest_15 rfl (lv_at hl 0 rfl) ?_
        refine va_get (D := D) (ci := 7) (v := .ref (md 6)) (C := RX7) (T := TX7) (N := 20) hx hb hts hiX7 hown hK hP 0 rfl rfl 7 (by decide) hf25 (fun _ h9 => h9) rfl dX7_findGreatest_16 ?_
        refine lv_iload_n hx hb dX7_findGreatest_19 rfl (lv_at hl 1 rfl) ?_
        refine nv_zald hx hb hK hP 6 1 rfl rfl (by omega) (by decide) dX7_findGreatest_20 ?_
        refine nv_zast hx hb hK hP hD hS 7 1 rfl rfl (S i) (by omega) (by decide) dX7_findGreatest_21 (fun H locs hP hD hS => ?_)
        have hP : va_P D vwCl [(md 0, .inr (7, [.int (nI q), .int (nI (nn q)), .ref (md 1), .ref (md 2), .ref (md 3), .ref (md 4), .ref (md 5), .ref (md 6), .ref (md 7), .ref (md 8), .ref (md 9), .ref (md 10), .ref (md 11), .ref (md 12), .ref (md 13), .ref (md 14), .ref (md 15), .ref (md 16), .int (nI w), .ref (md 17)])), (md 1, .inl (cI, 81, .inl (nF su))), (md 2, .inl (cI, 81, .inl (nF po))), (md 3, .inl (cI, 91, .inl (nF xs))), (md 4, .inl (cI, 91, .inl (nF ys))), (md 5, .inl (cI, 91, .inl (nF zs))), (md 6, .inl (cZ, 91, .inl (bF S))), (md 9, .inl (cZ, 91, .inl (bF (upB td1 i (S i))))), (md 10, .inl (cZ, 91, .inl (bF be1))), (md 11, .inl (cI, 92, .inl (nF pl)))] H := hP
        have hD : va_D A [(md 0, .inr (7, [.int (nI q), .int (nI (nn q)), .ref (md 1), .ref (md 2), .ref (md 3), .ref (md 4), .ref (md 5), .ref (md 6), .ref (md 7), .ref (md 8), .ref (md 9), .ref (md 10), .ref (md 11), .ref (md 12), .ref (md 13), .ref (md 14), .ref (md 15), .ref (md 16), .int (nI w), .ref (md 17)])), (md 1, .inl (cI, 81, .inl (nF su))), (md 2, .inl (cI, 81, .inl (nF po))), (md 3, .inl (cI, 91, .inl (nF xs))), (md 4, .inl (cI, 91, .inl (nF ys))), (md 5, .inl (cI, 91, .inl (nF zs))), (md 6, .inl (cZ, 91, .inl (bF S))), (md 9, .inl (cZ, 91, .inl (bF (upB td1 i (S i))))), (md 10, .inl (cZ, 91, .inl (bF be1))), (md 11, .inl (cI, 92, .inl (nF pl)))] := hD
        refine lv_aload_n hx hb dX7_findGreatest_22 rfl (lv_at hl 0 rfl) ?_
        refine va_get (D := D) (ci := 7) (v := .ref (md 10)) (C := RX7) (T := TX7) (N := 20) hx hb hts hiX7 hown hK hP 0 rfl rfl 11 (by decide) hf38 (fun _ h9 => h9) rfl dX7_findGreatest_23 ?_
        refine lv_iload_n hx hb dX7_findGreatest_26 rfl (lv_at hl 1 rfl) ?_
        refine lv_aload_n hx hb dX7_findGreatest_27 rfl (lv_at hl 0 rfl) ?_
        refine va_get (D := D) (ci := 7) (v := .ref (md 6)) (C := RX7) (T := TX7) (N := 20) hx hb hts hiX7 hown hK hP 0 rfl rfl 7 (by decide) hf25 (fun _ h9 => h9) rfl dX7_findGreatest_28 ?_
        refine lv_iload_n hx hb dX7_findGreatest_31 rfl (lv_at hl 1 rfl) ?_
        refine nv_zald hx hb hK hP 6 1 rfl rfl (by omega) (by decide) dX7_findGreatest_32 ?_
        refine nv_zast hx hb hK hP hD hS 8 1 rfl rfl (S i) (by omega) (by decide) dX7_findGreatest_33 (fun H locs hP hD hS => ?_)
        have hP : va_P D vwCl [(md 0, .inr (7, [.int (nI q), .int (nI (nn q)), .ref (md 1), .ref (md 2), .ref (md 3), .ref (md 4), .ref (md 5), .ref (md 6), .ref (md 7), .ref (md 8), .ref (md 9), .ref (md 10), .ref (md 11), .ref (md 12), .ref (md 13), .ref (md 14), .ref (md 15), .ref (md 16), .int (nI w), .ref (md 17)])), (md 1, .inl (cI, 81, .inl (nF su))), (md 2, .inl (cI, 81, .inl (nF po))), (md 3, .inl (cI, 91, .inl (nF xs))), (md 4, .inl (cI, 91, .inl (nF ys))), (md 5, .inl (cI, 91, .inl (nF zs))), (md 6, .inl (cZ, 91, .inl (bF S))), (md 9, .inl (cZ, 91, .inl (bF (upB td1 i (S i))))), (md 10, .inl (cZ, 91, .inl (bF (upB be1 i (S i))))), (md 11, .inl (cI, 92, .inl (nF pl)))] H := hP
        have hD : va_D A [(md 0, .inr (7, [.int (nI q), .int (nI (nn q)), .ref (md 1), .ref (md 2), .ref (md 3), .ref (md 4), .ref (md 5), .ref (md 6), .ref (md 7), .ref (md 8), .ref (md 9), .ref (md 10), .ref (md 11), .ref (md 12), .ref (md 13), .ref (md 14), .ref (md 15), .ref (md 16), .int (nI w), .ref (md 17)])), (md 1, .inl (cI, 81, .inl (nF su))), (md 2, .inl (cI, 81, .inl (nF po))), (md 3, .inl (cI, 91, .inl (nF xs))), (md 4, .inl (cI, 91, .inl (nF ys))), (md 5, .inl (cI, 91, .inl (nF zs))), (md 6, .inl (cZ, 91, .inl (bF S))), (md 9, .inl (cZ, 91, .inl (bF (upB td1 i (S i))))), (md 10, .inl (cZ, 91, .inl (bF (upB be1 i (S i))))), (md 11, .inl (cI, 92, .inl (nF pl)))] := hD
        refine lv_iinc (v := nI (i + 1)) (lv' := [(1, .int (nI (i + 1))), (0, .ref (md 0))]) hx hb dX7_findGreatest_34 hl (k := 1) rfl (nI_inc i) (by decide) rfl (fun ls hl => ?_)
        refine lv_goto (tgt := 2) hx hb dX7_findGreatest_37 (by decide) ?_
        exact ih2 (i + 1) (upB td1 i (S i)) (upB be1 i (S i)) ls _ _ (by omega) (by omega) (fun t ht => (Nat.lt_succ_iff_lt_or_eq.mp ht).elim (fun h => by rw [upB_n (by omega)]; exact k_t t h) (fun h => by rw [h, upB_s])) (fun t ht => (Nat.lt_succ_iff_lt_or_eq.mp ht).elim (fun h => by rw [upB_n (by omega)]; exact k_b t h) (fun h => by rw [h, upB_s])) (lv_sub hl [1, 0] rfl) hP hD hS
  exact L2 (nn q - 0 + 1) 0 td be ls _ _ (by omega) (Nat.zero_le _) (fun t h => absurd h (Nat.not_lt_zero t)) (fun t h => absurd h (Nat.not_lt_zero t)) (lv_sub hl [1, 0] rfl) hP hD hS

set_option maxHeartbeats 4000000 in
set_option maxRecDepth 100000 in
theorem c_X7_greatest (l : Launch) (D : va_G) (cI cZ : ClassId) (md : Nat → Nat) (q : Nat) (w : Nat) (su : Nat → Nat) (po : Nat → Nat) (xs : Nat → Nat) (ys : Nat → Nat) (zs : Nat → Nat) (hM : MOK q su po xs ys zs) (S : Nat → Bool) (td : Nat → Bool) (be : Nat → Bool) (pl : Nat → Nat) (k : Int32) : CtW (S := (Nat → Bool) × (Nat → Bool) × (Nat → Nat)) l yX7_greatest wsX7_greatest { frames := 5, cells := 0, slots := 0, locals := 116 } D (tyG cI cZ) [.ref (md 0), .int k] [(md 0, .inr (7, [.int (nI q), .int (nI (nn q)), .ref (md 1), .ref (md 2), .ref (md 3), .ref (md 4), .ref (md 5), .ref (md 6), .ref (md 7), .ref (md 8), .ref (md 9), .ref (md 10), .ref (md 11), .ref (md 12), .ref (md 13), .ref (md 14), .ref (md 15), .ref (md 16), .int (nI w), .ref (md 17)])), (md 1, .inl (cI, 81, .inl (nF su))), (md 2, .inl (cI, 81, .inl (nF po))), (md 3, .inl (cI, 91, .inl (nF xs))), (md 4, .inl (cI, 91, .inl (nF ys))), (md 5, .inl (cI, 91, .inl (nF zs))), (md 6, .inl (cZ, 91, .inl (bF S))), (md 9, .inl (cZ, 91, .inl (bF td))), (md 10, .inl (cZ, 91, .inl (bF be))), (md 11, .inl (cI, 92, .inl (nF pl)))] (fun u => (fun (td3 : Nat → Bool) (be3 : Nat → Bool) (pl3 : Nat → Nat) => True) u.1 u.2.1 u.2.2) (fun u => (fun (td3 : Nat → Bool) (be3 : Nat → Bool) (pl3 : Nat → Nat) => some (.int (greZ q S k))) u.1 u.2.1 u.2.2) (fun u => (fun (td3 : Nat → Bool) (be3 : Nat → Bool) (pl3 : Nat → Nat) => [(md 0, .inr (7, [.int (nI q), .int (nI (nn q)), .ref (md 1), .ref (md 2), .ref (md 3), .ref (md 4), .ref (md 5), .ref (md 6), .ref (md 7), .ref (md 8), .ref (md 9), .ref (md 10), .ref (md 11), .ref (md 12), .ref (md 13), .ref (md 14), .ref (md 15), .ref (md 16), .int (nI w), .ref (md 17)])), (md 1, .inl (cI, 81, .inl (nF su))), (md 2, .inl (cI, 81, .inl (nF po))), (md 3, .inl (cI, 91, .inl (nF xs))), (md 4, .inl (cI, 91, .inl (nF ys))), (md 5, .inl (cI, 91, .inl (nF zs))), (md 6, .inl (cZ, 91, .inl (bF S))), (md 9, .inl (cZ, 91, .inl (bF td3))), (md 10, .inl (cZ, 91, .inl (bF be3))), (md 11, .inl (cI, 92, .inl (nF pl3)))]) u.1 u.2.1 u.2.2) := by
  intro sz; refine Met.ofW (cc := cX7_greatest) (maxL := 2) (ret := some .int) (by decide) rfl ?_
  intro p e s m args below meth c s₁ B hml hv
  obtain ⟨rfl, hsz, hP, hK, hD0, hN⟩ := hv
  have hx := B.exec
  have hb := B.bytes
  have hr := B.returns
  have hts := atoms_spec (ws := wsX7_greatest) B.pre
  have hown : s.vm.findClass RX7 = some m.cls := findClass_of_methodNamed B.named
  have hlocks := B.notSynchronized
  subst hsz
  have hD := hD0.self (sz := s.heap.size)
  generalize hAe : va_A [(md 0, .inr (7, [.int (nI q), .int (nI (nn q)), .ref (md 1), .ref (md 2), .ref (md 3), .ref (md 4), .ref (md 5), .ref (md 6), .ref (md 7), .ref (md 8), .ref (md 9), .ref (md 10), .ref (md 11), .ref (md 12), .ref (md 13), .ref (md 14), .ref (md 15), .ref (md 16), .int (nI w), .ref (md 17)])), (md 1, .inl (cI, 81, .inl (nF su))), (md 2, .inl (cI, 81, .inl (nF po))), (md 3, .inl (cI, 91, .inl (nF xs))), (md 4, .inl (cI, 91, .inl (nF ys))), (md 5, .inl (cI, 91, .inl (nF zs))), (md 6, .inl (cZ, 91, .inl (bF S))), (md 9, .inl (cZ, 91, .inl (bF td))), (md 10, .inl (cZ, 91, .inl (bF be))), (md 11, .inl (cI, 92, .inl (nF pl)))] s.heap.size = A at hD ⊢
  have hA : ∀ q : Nat, s.heap.size ≤ q → A q := fun q h => by rw [← hAe]; exact Or.inr h
  have hS : va_S A s.heap s.heap [] := va_S.rf
  have hP : va_P D vwCl [(md 0, .inr (7, [.int (nI q), .int (nI (nn q)), .ref (md 1), .ref (md 2), .ref (md 3), .ref (md 4), .ref (md 5), .ref (md 6), .ref (md 7), .ref (md 8), .ref (md 9), .ref (md 10), .ref (md 11), .ref (md 12), .ref (md 13), .ref (md 14), .ref (md 15), .ref (md 16), .int (nI w), .ref (md 17)])), (md 1, .inl (cI, 81, .inl (nF su))), (md 2, .inl (cI, 81, .inl (nF po))), (md 3, .inl (cI, 91, .inl (nF xs))), (md 4, .inl (cI, 91, .inl (nF ys))), (md 5, .inl (cI, 91, .inl (nF zs))), (md 6, .inl (cZ, 91, .inl (bF S))), (md 9, .inl (cZ, 91, .inl (bF td))), (md 10, .inl (cZ, 91, .inl (bF be))), (md 11, .inl (cI, 92, .inl (nF pl)))] s.heap := hP
  have hf25 := hts (.fieldLink RX7 25 "FinitePlanesModel" "isIn" "[Z") (by decide +kernel)
  have hf38 := hts (.fieldLink RX7 38 "FinitePlanesModel" "best" "[Z") (by decide +kernel)
  have hf74 := hts (.fieldLink RX7 74 "FinitePlanesModel" "q" "I") (by decide +kernel)
  have hiX7 : ∀ w ∈ u_ws RX7 TX7 20, w ∈ wsX7_greatest := by decide +kernel
  have hl := lv_entry ([.ref (md 0), .int k]) (n := 2) (Nat.le_of_ble_eq_true rfl)
  rw [lg_entry_eq]
  generalize (lg_sl ([.ref (md 0), .int k]) ++ List.replicate (2 - (lg_sl ([.ref (md 0), .int k])).length) Slot.unset).toArray = ls at hl ⊢
  have hl : lv_has ls 2 [(0, .ref (md 0)), (1, .int k)] := hl
  have hq2 := qs_le hM.1
  have hn2 := nn_le hM.1
  refine lv_aload_n hx hb dX7_greatest_0 rfl (lv_at hl 0 rfl) ?_
  refine va_get (D := D) (ci := 7) (v := .int (nI q)) (C := RX7) (T := TX7) (N := 20) hx hb hts hiX7 hown hK hP 0 rfl rfl 0 (by decide) hf74 (fun _ h9 => h9) rfl dX7_greatest_1 ?_
  refine lv_iconst (v := nI 5) hx hb dX7_greatest_4 (by decide) ?_
  refine nv_icmp_le (tgt := 11) hx hb (by omega) (by decide) dX7_greatest_5 (by decide) (fun c5 => ?_) (fun c5 => ?_)
  · refine lv_aload_n hx hb dX7_greatest_11 rfl (lv_at hl 0 rfl) ?_
    refine lv_aload_n hx hb dX7_greatest_12 rfl (lv_at hl 0 rfl) ?_
    refine va_get (D := D) (ci := 7) (v := .ref (md 6)) (C := RX7) (T := TX7) (N := 20) hx hb hts hiX7 hown hK hP 0 rfl rfl 7 (by decide) hf25 (fun _ h9 => h9) rfl dX7_greatest_13 ?_
    refine ctR_V (As := [.ref (md 6)]) (rest := []) (r := .int (nI (arcq q S).toNat)) ⟨hx, hb, hml, hown, hts⟩ (c_X7_isArc l D cI cZ md q w su po xs ys zs hM (md 6) S) (cwV 1 hts gX7_greatest_X7_isArc rfl rfl rfl hdV_X7_isArc ⟨Nat.le_of_ble_eq_true rfl, Nat.le_of_ble_eq_true rfl⟩) hK hN hP [0, 1, 2, 3, 4, 5, 6] rfl 0 7 rfl rfl rfl hl.1 rfl (Nat.le_of_ble_eq_true rfl) ⟨Nat.zero_le _, Nat.zero_le _⟩ dX7_greatest_16 ?_
    refine nv_ifb_ne (tgt := 24) hx hb dX7_greatest_19 (by decide) (fun c19 => ?_) (fun c19 => ?_)
    · refine lv_aload_n hx hb dX7_greatest_24 rfl (lv_at hl 0 rfl) ?_
      refine ctW_V (As := []) (rest := []) (wr := []) ⟨hx, hb, hml, hown, hts⟩ (c_X7_findGreatest l D cI cZ md q w su po xs ys zs hM S td be pl c19 (qa_of hM.1 c5)) (cwV 0 hts gX7_greatest_X7_findGreatest rfl rfl rfl hdV_X7_findGreatest ⟨Nat.le_of_ble_eq_true rfl, Nat.le_of_ble_eq_true rfl⟩) hK hN hP hD hS hA [0, 1, 2, 3, 4, 5, 6, 7, 8, 9] [] rfl rfl rfl (by decide) (by decide) (by decide) 0 7 rfl rfl rfl hl.1 rfl (Nat.le_of_ble_eq_true rfl) ⟨Nat.zero_le _, Nat.zero_le _⟩ dX7_greatest_25 (fun u H locs hu25 hP hD hS => ?_)
      obtain ⟨td_1, be_2, pl_3⟩ := u
      try dsimp only at hu25
      have hP : va_P D vwCl [(md 0, .inr (7, [.int (nI q), .int (nI (nn q)), .ref (md 1), .ref (md 2), .ref (md 3), .ref (md 4), .ref (md 5), .ref (md 6), .ref (md 7), .ref (md 8), .ref (md 9), .ref (md 10), .ref (md 11), .ref (md 12), .ref (md 13), .ref (md 14), .ref (md 15), .ref (md 16), .int (nI w), .ref (md 17)])), (md 1, .inl (cI, 81, .inl (nF su))), (md 2, .inl (cI, 81, .inl (nF po))), (md 3, .inl (cI, 91, .inl (nF xs))), (md 4, .inl (cI, 91, .inl (nF ys))), (md 5, .inl (cI, 91, .inl (nF zs))), (md 6, .inl (cZ, 91, .inl (bF S))), (md 9, .inl (cZ, 91, .inl (bF td_1))), (md 10, .inl (cZ, 91, .inl (bF be_2))), (md 11, .inl (cI, 92, .inl (nF pl_3)))] H := hP.sub [0, 1, 2, 3, 4, 5, 6, 7, 8, 9] rfl
      have hD : va_D A [(md 0, .inr (7, [.int (nI q), .int (nI (nn q)), .ref (md 1), .ref (md 2), .ref (md 3), .ref (md 4), .ref (md 5), .ref (md 6), .ref (md 7), .ref (md 8), .ref (md 9), .ref (md 10), .ref (md 11), .ref (md 12), .ref (md 13), .ref (md 14), .ref (md 15), .ref (md 16), .int (nI w), .ref (md 17)])), (md 1, .inl (cI, 81, .inl (nF su))), (md 2, .inl (cI, 81, .inl (nF po))), (md 3, .inl (cI, 91, .inl (nF xs))), (md 4, .inl (cI, 91, .inl (nF ys))), (md 5, .inl (cI, 91, .inl (nF zs))), (md 6, .inl (cZ, 91, .inl (bF S))), (md 9, .inl (cZ, 91, .inl (bF td_1))), (md 10, .inl (cZ, 91, .inl (bF be_2))), (md 11, .inl (cI, 92, .inl (nF pl_3)))] := hD.sub [0, 1, 2, 3, 4, 5, 6, 7, 8, 9] (by decide) rfl
      refine W.eq (g2 := F0 m 28 ls []) rfl ?_
      refine lv_iload_n hx hb dX7_greatest_28 rfl (lv_at hl 1 rfl) ?_
      refine lv_iconst (v := (-1)) hx hb dX7_greatest_29 (by decide) ?_
      refine lv_icmp_ne (tgt := 44) hx hb dX7_greatest_30 (by decide) (fun c30 => ?_) (fun c30 => ?_)
      · refine lv_aload_n hx hb dX7_greatest_44 rfl (lv_at hl 0 rfl) ?_
        refine lv_aload_n hx hb dX7_greatest_45 rfl (lv_at hl 0 rfl) ?_
        refine va_get (D := D) (ci := 7) (v := .ref (md 10)) (C := RX7) (T := TX7) (N := 20) hx hb hts hiX7 hown hK hP 0 rfl rfl 11 (by decide) hf38 (fun _ h9 => h9) rfl dX7_greatest_46 ?_
        refine lv_iload_n hx hb dX7_greatest_49 rfl (lv_at hl 1 rfl) ?_
        refine ctR_V (As := [.ref (md 10), .int k]) (rest := []) (r := .int (pickZ be_2 (nn q) k)) ⟨hx, hb, hml, hown, hts⟩ (c_X7_memberOf l D cI cZ md q w su po xs ys zs hM (md 10) be_2 k) (cwV 2 hts gX7_greatest_X7_memberOf rfl rfl rfl hdV_X7_memberOf ⟨Nat.le_of_ble_eq_true rfl, Nat.le_of_ble_eq_true rfl⟩) hK hN hP [0, 1, 2, 3, 4, 5, 8] rfl 0 7 rfl rfl rfl hl.1 rfl (Nat.le_of_ble_eq_true rfl) ⟨Nat.zero_le _, Nat.zero_le _⟩ dX7_greatest_50 ?_
        exact ctW_retI (v := (pickZ be_2 (nn q) k)) (td_1, be_2, pl_3) hx hb hr rfl dX7_greatest_53 hlocks hS hP hD trivial (by rw [greZ, if_neg (by omega), if_neg (bool_nf c19), if_neg c30, pick_congr hu25])
      · refine lv_aload_n hx hb dX7_greatest_33 rfl (lv_at hl 0 rfl) ?_
        refine lv_aload_n hx hb dX7_greatest_34 rfl (lv_at hl 0 rfl) ?_
        refine va_get (D := D) (ci := 7) (v := .ref (md 10)) (C := RX7) (T := TX7) (N := 20) hx hb hts hiX7 hown hK hP 0 rfl rfl 11 (by decide) hf38 (fun _ h9 => h9) rfl dX7_greatest_35 ?_
        refine ctR_V (As := [.ref (md 10)]) (rest := []) (r := .int (nI (cnt be_2 (nn q)))) ⟨hx, hb, hml, hown, hts⟩ (c_X7_sizeOf l D cI cZ md q w su po xs ys zs hM (md 10) be_2) (cwV 1 hts gX7_greatest_X7_sizeOf rfl rfl rfl hdV_X7_sizeOf ⟨Nat.le_of_ble_eq_true rfl, Nat.le_of_ble_eq_true rfl⟩) hK hN hP [0, 1, 2, 3, 4, 5, 8] rfl 0 7 rfl rfl rfl hl.1 rfl (Nat.le_of_ble_eq_true rfl) ⟨Nat.zero_le _, Nat.zero_le _⟩ dX7_greatest_38 ?_
        have hh_4 : cnt be_2 (nn q) ≤ nn q := cnt_le _ _
        refine lv_goto (tgt := 53) hx hb dX7_greatest_41 (by decide) ?_
        exact ctW_retI (v := (nI (cnt be_2 (nn q)))) (td_1, be_2, pl_3) hx hb hr rfl dX7_greatest_53 hlocks hS hP hD trivial (by rw [greZ, if_neg (by omega), if_neg (bool_nf c19), if_pos c30, cnt_congr hu25])
    · refine lv_iconst (v := (-1)) hx hb dX7_greatest_22 (by decide) ?_
      exact ctW_retI (v := (-1)) (td, be, pl) hx hb hr rfl dX7_greatest_23 hlocks hS hP hD trivial (by rw [greZ, if_neg (by omega), if_pos c19])
  · refine lv_bipush (v := (-2)) hx hb dX7_greatest_8 (by decide) ?_
    exact ctW_retI (v := (-2)) (td, be, pl) hx hb hr rfl dX7_greatest_10 hlocks hS hP hD trivial (by rw [greZ, if_pos c5])

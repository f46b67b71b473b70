set_option maxHeartbeats 4000000 in
set_option maxRecDepth 100000 in
theorem c_X7_spares (l : Launch) (D : va_G) (cI cZ : ClassId) (md : Nat → Nat) (q : Nat) (w : Nat) (su : Nat → Nat) (po : Nat → Nat) (xs : Nat → Nat) (ys : Nat → Nat) (zs : Nat → Nat) (hM : MOK q su po xs ys zs) (S : Nat → Bool) : CtW (S := Unit) l yX7_spares wsX7_spares { frames := 4, cells := 0, slots := 0, locals := 90 } D (tyG cI cZ) [.ref (md 0)] [(md 0, .inr (7, [.int (nI q), .int (nI (nn q)), .ref (md 1), .ref (md 2), .ref (md 3), .ref (md 4), .ref (md 5), .ref (md 6), .ref (md 7), .ref (md 8), .ref (md 9), .ref (md 10), .ref (md 11), .ref (md 12), .ref (md 13), .ref (md 14), .ref (md 15), .ref (md 16), .int (nI w), .ref (md 17)])), (md 1, .inl (cI, 81, .inl (nF su))), (md 2, .inl (cI, 81, .inl (nF po))), (md 3, .inl (cI, 91, .inl (nF xs))), (md 4, .inl (cI, 91, .inl (nF ys))), (md 5, .inl (cI, 91, .inl (nF zs))), (md 6, .inl (cZ, 91, .inl (bF S)))] (fun (_ : Unit) => True) (fun (_ : Unit) => some (.int (nI (spaq q S)))) (fun (_ : Unit) => [(md 0, .inr (7, [.int (nI q), .int (nI (nn q)), .ref (md 1), .ref (md 2), .ref (md 3), .ref (md 4), .ref (md 5), .ref (md 6), .ref (md 7), .ref (md 8), .ref (md 9), .ref (md 10), .ref (md 11), .ref (md 12), .ref (md 13), .ref (md 14), .ref (md 15), .ref (md 16), .int (nI w), .ref (md 17)])), (md 1, .inl (cI, 81, .inl (nF su))), (md 2, .inl (cI, 81, .inl (nF po))), (md 3, .inl (cI, 91, .inl (nF xs))), (md 4, .inl (cI, 91, .inl (nF ys))), (md 5, .inl (cI, 91, .inl (nF zs))), (md 6, .inl (cZ, 91, .inl (bF S)))]) := by
  intro sz; refine Met.ofW (cc := cX7_spares) (maxL := 3) (ret := some .int) (by decide) rfl ?_
  intro p e s m args below meth c s₁ B hml hv
  obtain ⟨rfl, hsz, hP, hK, hD0, hN⟩ := hv
  have hx := B.exec
  have hb := B.bytes
  have hr := B.returns
  have hts := atoms_spec (ws := wsX7_spares) B.pre
  have hown : s.vm.findClass RX7 = some m.cls := findClass_of_methodNamed B.named
  have hlocks := B.notSynchronized
  subst hsz
  have hD := hD0.self (sz := s.heap.size)
  generalize hAe : va_A [(md 0, .inr (7, [.int (nI q), .int (nI (nn q)), .ref (md 1), .ref (md 2), .ref (md 3), .ref (md 4), .ref (md 5), .ref (md 6), .ref (md 7), .ref (md 8), .ref (md 9), .ref (md 10), .ref (md 11), .ref (md 12), .ref (md 13), .ref (md 14), .ref (md 15), .ref (md 16), .int (nI w), .ref (md 17)])), (md 1, .inl (cI, 81, .inl (nF su))), (md 2, .inl (cI, 81, .inl (nF po))), (md 3, .inl (cI, 91, .inl (nF xs))), (md 4, .inl (cI, 91, .inl (nF ys))), (md 5, .inl (cI, 91, .inl (nF zs))), (md 6, .inl (cZ, 91, .inl (bF S)))] s.heap.size = A at hD ⊢
  have hA : ∀ q : Nat, s.heap.size ≤ q → A q := fun q h => by rw [← hAe]; exact Or.inr h
  have hS : va_S A s.heap s.heap [] := va_S.rf
  have hP : va_P D vwCl [(md 0, .inr (7, [.int (nI q), .int (nI (nn q)), .ref (md 1), .ref (md 2), .ref (md 3), .ref (md 4), .ref (md 5), .ref (md 6), .ref (md 7), .ref (md 8), .ref (md 9), .ref (md 10), .ref (md 11), .ref (md 12), .ref (md 13), .ref (md 14), .ref (md 15), .ref (md 16), .int (nI w), .ref (md 17)])), (md 1, .inl (cI, 81, .inl (nF su))), (md 2, .inl (cI, 81, .inl (nF po))), (md 3, .inl (cI, 91, .inl (nF xs))), (md 4, .inl (cI, 91, .inl (nF ys))), (md 5, .inl (cI, 91, .inl (nF zs))), (md 6, .inl (cZ, 91, .inl (bF S)))] s.heap := hP
  have hf25 := hts (.fieldLink RX7 25 "FinitePlanesModel" "isIn" "[Z") (by decide +kernel)
  have hf83 := hts (.fieldLink RX7 83 "FinitePlanesModel" "n" "I") (by decide +kernel)
  have hiX7 : ∀ w ∈ u_ws RX7 TX7 20, w ∈ wsX7_spares := by decide +kernel
  have hl := lv_entry ([.ref (md 0)]) (n := 3) (Nat.le_of_ble_eq_true rfl)
  rw [lg_entry_eq]
  generalize (lg_sl ([.ref (md 0)]) ++ List.replicate (3 - (lg_sl ([.ref (md 0)])).length) Slot.unset).toArray = ls at hl ⊢
  have hl : lv_has ls 3 [(0, .ref (md 0))] := hl
  have hq2 := qs_le hM.1
  have hn2 := nn_le hM.1
  refine lv_iconst (v := nI 0) hx hb dX7_spares_0 (by decide) ?_
  refine lv_istore_n (lv' := [(1, .int (nI 0)), (0, .ref (md 0))]) hx hb dX7_spares_1 rfl hl (by decide) rfl (fun ls hl => ?_)
  refine lv_iconst (v := nI 0) hx hb dX7_spares_2 (by decide) ?_
  refine lv_istore_n (lv' := [(2, .int (nI 0)), (1, .int (nI 0)), (0, .ref (md 0))]) hx hb dX7_spares_3 rfl hl (by decide) rfl (fun ls hl => ?_)
  have L4 : ∀ (N4 : Nat) (i : Nat) (x : Nat) (ls : Array Slot) (H : Heap) (locs : List Loc), nn q - i < N4 → (i ≤ nn q) → (blkq q S = true → x = cnt (fun t => S t && decide (secq q (metq q S) t = q + 1)) i) → (x ≤ i) → (blkq q S = false → x = 0) → lv_has ls 3 [(0, .ref (md 0)), (1, .int (nI x)), (2, .int (nI i))] → va_P D vwCl [(md 0, .inr (7, [.int (nI q), .int (nI (nn q)), .ref (md 1), .ref (md 2), .ref (md 3), .ref (md 4), .ref (md 5), .ref (md 6), .ref (md 7), .ref (md 8), .ref (md 9), .ref (md 10), .ref (md 11), .ref (md 12), .ref (md 13), .ref (md 14), .ref (md 15), .ref (md 16), .int (nI w), .ref (md 17)])), (md 1, .inl (cI, 81, .inl (nF su))), (md 2, .inl (cI, 81, .inl (nF po))), (md 3, .inl (cI, 91, .inl (nF xs))), (md 4, .inl (cI, 91, .inl (nF ys))), (md 5, .inl (cI, 91, .inl (nF zs))), (md 6, .inl (cZ, 91, .inl (bF S)))] H → va_D A [(md 0, .inr (7, [.int (nI q), .int (nI (nn q)), .ref (md 1), .ref (md 2), .ref (md 3), .ref (md 4), .ref (md 5), .ref (md 6), .ref (md 7), .ref (md 8), .ref (md 9), .ref (md 10), .ref (md 11), .ref (md 12), .ref (md 13), .ref (md 14), .ref (md 15), .ref (md 16), .int (nI w), .ref (md 17)])), (md 1, .inl (cI, 81, .inl (nF su))), (md 2, .inl (cI, 81, .inl (nF po))), (md 3, .inl (cI, 91, .inl (nF xs))), (md 4, .inl (cI, 91, .inl (nF ys))), (md 5, .inl (cI, 91, .inl (nF zs))), (md 6, .inl (cZ, 91, .inl (bF S)))] → va_S A s.heap H locs → WG p l e wsX7_spares { frames := 4, cells := 0, slots := 0, locals := 90 } s m [.ref (md 0)] below meth c H locs (CQ (S := Unit) D (fun (_ : Unit) => True) (fun (_ : Unit) => some (.int (nI (spaq q S)))) (fun (_ : Unit) => [(md 0, .inr (7, [.int (nI q), .int (nI (nn q)), .ref (md 1), .ref (md 2), .ref (md 3), .ref (md 4), .ref (md 5), .ref (md 6), .ref (md 7), .ref (md 8), .ref (md 9), .ref (md 10), .ref (md 11), .ref (md 12), .ref (md 13), .ref (md 14), .ref (md 15), .ref (md 16), .int (nI w), .ref (md 17)])), (md 1, .inl (cI, 81, .inl (nF su))), (md 2, .inl (cI, 81, .inl (nF po))), (md 3, .inl (cI, 91, .inl (nF xs))), (md 4, .inl (cI, 91, .inl (nF ys))), (md 5, .inl (cI, 91, .inl (nF zs))), (md 6, .inl (cZ, 91, .inl (bF S)))]) A) A 4 ls [] := by
    intro N4
    induction N4 with
    | zero => intro i x ls H locs hN; exact absurd hN (Nat.not_lt_zero _)
    | succ N4 ih4 =>
      intro i x ls H locs hN4 k_i k_x k_0 k_z hl hP hD hS
      refine lv_iload_n hx hb dX7_spares_4 rfl (lv_at hl 2 rfl) ?_
      refine lv_aload_n hx hb dX7_spares_5 rfl (lv_at hl 0 rfl) ?_
      refine va_get (D := D) (ci := 7) (v := .int (nI (nn q))) (C := RX7) (T := TX7) (N := 20) hx hb hts hiX7 hown hK hP 0 rfl rfl 1 (by decide) hf83 (fun _ h9 => h9) rfl dX7_spares_6 ?_
      refine nv_icmp_ge (tgt := 63) hx hb (by omega) (by omega) dX7_spares_9 (by decide) (fun c9 => ?_) (fun c9 => ?_)
      · refine lv_iload_n hx hb dX7_spares_63 rfl (lv_at hl 1 rfl) ?_
        exact ctW_retI (v := (nI x)) () hx hb hr rfl dX7_spares_64 hlocks hS hP hD trivial (by first | (cases hb9 : blkq q S; (rw [spaq, hb9, k_z hb9]; rfl); (rw [spaq, if_pos hb9, k_x hb9, show i = nn q by omega])) | (rw [spaq, c16, k_z c16]; rfl))
      · refine lv_aload_n hx hb dX7_spares_12 rfl (lv_at hl 0 rfl) ?_
        refine ctR_V (As := []) (rest := []) (r := .int (nI (blkq q S).toNat)) ⟨hx, hb, hml, hown, hts⟩ (c_X7_isBlocking l D cI cZ md q w su po xs ys zs hM S) (cwV 0 hts gX7_spares_X7_isBlocking rfl rfl rfl hdV_X7_isBlocking ⟨Nat.le_of_ble_eq_true rfl, Nat.le_of_ble_eq_true rfl⟩) hK hN hP [0, 1, 2, 3, 4, 5, 6] rfl 0 7 rfl rfl rfl hl.1 rfl (Nat.le_of_ble_eq_true rfl) ⟨Nat.zero_le _, Nat.zero_le _⟩ dX7_spares_13 ?_
        refine nv_ifb_eq (tgt := 63) hx hb dX7_spares_16 (by decide) (fun c16 => ?_) (fun c16 => ?_)
        · refine lv_iload_n hx hb dX7_spares_63 rfl (lv_at hl 1 rfl) ?_
          exact ctW_retI (v := (nI x)) () hx hb hr rfl dX7_spares_64 hlocks hS hP hD trivial (by first | (cases hb9 : blkq q S; (rw [spaq, hb9, k_z hb9]; rfl); (rw [spaq, if_pos hb9, k_x hb9, show i = nn q by omega])) | (rw [spaq, c16, k_z c16]; rfl))
        · refine lv_aload_n hx hb dX7_spares_19 rfl (lv_at hl 0 rfl) ?_
          refine va_get (D := D) (ci := 7) (v := .ref (md 6)) (C := RX7) (T := TX7) (N := 20) hx hb hts hiX7 hown hK hP 0 rfl rfl 7 (by decide) hf25 (fun _ h9 => h9) rfl dX7_spares_20 ?_
          refine lv_iload_n hx hb dX7_spares_23 rfl (lv_at hl 2 rfl) ?_
          refine nv_zald hx hb hK hP 6 1 rfl rfl (by omega) (by decide) dX7_spares_24 ?_
          refine nv_ifb_eq (tgt := 57) hx hb dX7_spares_25 (by decide) (fun c25 => ?_) (fun c25 => ?_)
          · refine lv_iinc (v := nI (i + 1)) (lv' := [(2, .int (nI (i + 1))), (0, .ref (md 0)), (1, .int (nI x))]) hx hb dX7_spares_57 hl (k := 2) rfl (nI_inc i) (by decide) rfl (fun ls hl => ?_)
            refine lv_goto (tgt := 4) hx hb dX7_spares_60 (by decide) ?_
            exact ih4 (i + 1) x ls _ _ (by omega) (by omega) (fun h => by rw [cnt, c25, k_x h]; rfl) (by omega) (fun h => by rw [c16] at h; cases h) (lv_sub hl [1, 2, 0] rfl) hP hD hS
          · refine lv_aload_n hx hb dX7_spares_28 rfl (lv_at hl 0 rfl) ?_
            refine va_get (D := D) (ci := 7) (v := .ref (md 6)) (C := RX7) (T := TX7) (N := 20) hx hb hts hiX7 hown hK hP 0 rfl rfl 7 (by decide) hf25 (fun _ h9 => h9) rfl dX7_spares_29 ?_
            refine lv_iload_n hx hb dX7_spares_32 rfl (lv_at hl 2 rfl) ?_
            refine lv_iconst (v := nI 0) hx hb dX7_spares_33 (by decide) ?_
            refine nv_zast hx hb hK hP hD hS 6 1 rfl rfl false (by omega) (by decide) dX7_spares_34 (fun H locs hP hD hS => ?_)
            have hP : va_P D vwCl [(md 0, .inr (7, [.int (nI q), .int (nI (nn q)), .ref (md 1), .ref (md 2), .ref (md 3), .ref (md 4), .ref (md 5), .ref (md 6), .ref (md 7), .ref (md 8), .ref (md 9), .ref (md 10), .ref (md 11), .ref (md 12), .ref (md 13), .ref (md 14), .ref (md 15), .ref (md 16), .int (nI w), .ref (md 17)])), (md 1, .inl (cI, 81, .inl (nF su))), (md 2, .inl (cI, 81, .inl (nF po))), (md 3, .inl (cI, 91, .inl (nF xs))), (md 4, .inl (cI, 91, .inl (nF ys))), (md 5, .inl (cI, 91, .inl (nF zs))), (md 6, .inl (cZ, 91, .inl (bF (upB S i false))))] H := hP
            have hD : va_D A [(md 0, .inr (7, [.int (nI q), .int (nI (nn q)), .ref (md 1), .ref (md 2), .ref (md 3), .ref (md 4), .ref (md 5), .ref (md 6), .ref (md 7), .ref (md 8), .ref (md 9), .ref (md 10), .ref (md 11), .ref (md 12), .ref (md 13), .ref (md 14), .ref (md 15), .ref (md 16), .int (nI w), .ref (md 17)])), (md 1, .inl (cI, 81, .inl (nF su))), (md 2, .inl (cI, 81, .inl (nF po))), (md 3, .inl (cI, 91, .inl (nF xs))), (md 4, .inl (cI, 91, .inl (nF ys))), (md 5, .inl (cI, 91, .inl (nF zs))), (md 6, .inl (cZ, 91, .inl (bF (upB S i false))))] := hD
            refine lv_aload_n hx hb dX7_spares_35 rfl (lv_at hl 0 rfl) ?_
            refine ctR_V (As := []) (rest := []) (r := .int (nI (blkq q (upB S i false)).toNat)) ⟨hx, hb, hml, hown, hts⟩ (c_X7_isBlocking l D cI cZ md q w su po xs ys zs hM (upB S i false)) (cwV 0 hts gX7_spares_X7_isBlocking rfl rfl rfl hdV_X7_isBlocking ⟨Nat.le_of_ble_eq_true rfl, Nat.le_of_ble_eq_true rfl⟩) hK hN hP [0, 1, 2, 3, 4, 5, 6] rfl 0 7 rfl rfl rfl hl.1 rfl (Nat.le_of_ble_eq_true rfl) ⟨Nat.zero_le _, Nat.zero_le _⟩ dX7_spares_36 ?_
            refine nv_ifb_eq (tgt := 48) hx hb dX7_spares_39 (by decide) (fun c39 => ?_) (fun c39 => ?_)
            · refine lv_iload_n hx hb dX7_spares_48 rfl (lv_at hl 1 rfl) ?_
              refine lv_istore_n (lv' := [(1, .int (nI x)), (0, .ref (md 0)), (2, .int (nI i))]) hx hb dX7_spares_49 rfl hl (by decide) rfl (fun ls hl => ?_)
              refine lv_aload_n hx hb dX7_spares_50 rfl (lv_at hl 1 rfl) ?_
              refine va_get (D := D) (ci := 7) (v := .ref (md 6)) (C := RX7) (T := TX7) (N := 20) hx hb hts hiX7 hown hK hP 0 rfl rfl 7 (by decide) hf25 (fun _ h9 => h9) rfl dX7_spares_51 ?_
              refine lv_iload_n hx hb dX7_spares_54 rfl (lv_at hl 2 rfl) ?_
              refine lv_iconst (v := nI 1) hx hb dX7_spares_55 (by decide) ?_
              refine nv_zast hx hb hK hP hD hS 6 1 rfl rfl true (by omega) (by decide) dX7_spares_56 (fun H locs hP hD hS => ?_)
              rw [show bF (upB (upB S i false) i true) = bF S from (congrArg bF (upB_back c25))] at hP hD
              have hP : va_P D vwCl [(md 0, .inr (7, [.int (nI q), .int (nI (nn q)), .ref (md 1), .ref (md 2), .ref (md 3), .ref (md 4), .ref (md 5), .ref (md 6), .ref (md 7), .ref (md 8), .ref (md 9), .ref (md 10), .ref (md 11), .ref (md 12), .ref (md 13), .ref (md 14), .ref (md 15), .ref (md 16), .int (nI w), .ref (md 17)])), (md 1, .inl (cI, 81, .inl (nF su))), (md 2, .inl (cI, 81, .inl (nF po))), (md 3, .inl (cI, 91, .inl (nF xs))), (md 4, .inl (cI, 91, .inl (nF ys))), (md 5, .inl (cI, 91, .inl (nF zs))), (md 6, .inl (cZ, 91, .inl (bF S)))] H := hP
              have hD : va_D A [(md 0, .inr (7, [.int (nI q), .int (nI (nn q)), .ref (md 1), .ref (md 2), .ref (md 3), .ref (md 4), .ref (md 5), .ref (md 6), .ref (md 7), .ref (md 8), .ref (md 9), .ref (md 10), .ref (md 11), .ref (md 12), .ref (md 13), .ref (md 14), .ref (md 15), .ref (md 16), .int (nI w), .ref (md 17)])), (md 1, .inl (cI, 81, .inl (nF su))), (md 2, .inl (cI, 81, .inl (nF po))), (md 3, .inl (cI, 91, .inl (nF xs))), (md 4, .inl (cI, 91, .inl (nF ys))), (md 5, .inl (cI, 91, .inl (nF zs))), (md 6, .inl (cZ, 91, .inl (bF S)))] := hD
              refine lv_iinc (v := nI (i + 1)) (lv' := [(2, .int (nI (i + 1))), (1, .int (nI x)), (0, .ref (md 0))]) hx hb dX7_spares_57 hl (k := 2) rfl (nI_inc i) (by decide) rfl (fun ls hl => ?_)
              refine lv_goto (tgt := 4) hx hb dX7_spares_60 (by decide) ?_
              exact ih4 (i + 1) x ls _ _ (by omega) (by omega) (fun h => by rw [cnt, c25, ← spa_eq hM.1 (by omega) h c25, c39, k_x h]; rfl) (by omega) (fun h => by rw [c16] at h; cases h) (lv_sub hl [2, 1, 0] rfl) hP hD hS
            · refine lv_iload_n hx hb dX7_spares_42 rfl (lv_at hl 1 rfl) ?_
              refine lv_iconst (v := nI 1) hx hb dX7_spares_43 (by decide) ?_
              refine nv_addE (r := x + 1) hx hb rfl dX7_spares_44 ?_
              refine lv_goto (tgt := 49) hx hb dX7_spares_45 (by decide) ?_
              refine lv_istore_n (lv' := [(1, .int (nI (x + 1))), (0, .ref (md 0)), (2, .int (nI i))]) hx hb dX7_spares_49 rfl hl (by decide) rfl (fun ls hl => ?_)
              refine lv_aload_n hx hb dX7_spares_50 rfl (lv_at hl 1 rfl) ?_
              refine va_get (D := D) (ci := 7) (v := .ref (md 6)) (C := RX7) (T := TX7) (N := 20) hx hb hts hiX7 hown hK hP 0 rfl rfl 7 (by decide) hf25 (fun _ h9 => h9) rfl dX7_spares_51 ?_
              refine lv_iload_n hx hb dX7_spares_54 rfl (lv_at hl 2 rfl) ?_
              refine lv_iconst (v := nI 1) hx hb dX7_spares_55 (by decide) ?_
              refine nv_zast hx hb hK hP hD hS 6 1 rfl rfl true (by omega) (by decide) dX7_spares_56 (fun H locs hP hD hS => ?_)
              rw [show bF (upB (upB S i false) i true) = bF S from (congrArg bF (upB_back c25))] at hP hD
              have hP : va_P D vwCl [(md 0, .inr (7, [.int (nI q), .int (nI (nn q)), .ref (md 1), .ref (md 2), .ref (md 3), .ref (md 4), .ref (md 5), .ref (md 6), .ref (md 7), .ref (md 8), .ref (md 9), .ref (md 10), .ref (md 11), .ref (md 12), .ref (md 13), .ref (md 14), .ref (md 15), .ref (md 16), .int (nI w), .ref (md 17)])), (md 1, .inl (cI, 81, .inl (nF su))), (md 2, .inl (cI, 81, .inl (nF po))), (md 3, .inl (cI, 91, .inl (nF xs))), (md 4, .inl (cI, 91, .inl (nF ys))), (md 5, .inl (cI, 91, .inl (nF zs))), (md 6, .inl (cZ, 91, .inl (bF S)))] H := hP
              have hD : va_D A [(md 0, .inr (7, [.int (nI q), .int (nI (nn q)), .ref (md 1), .ref (md 2), .ref (md 3), .ref (md 4), .ref (md 5), .ref (md 6), .ref (md 7), .ref (md 8), .ref (md 9), .ref (md 10), .ref (md 11), .ref (md 12), .ref (md 13), .ref (md 14), .ref (md 15), .ref (md 16), .int (nI w), .ref (md 17)])), (md 1, .inl (cI, 81, .inl (nF su))), (md 2, .inl (cI, 81, .inl (nF po))), (md 3, .inl (cI, 91, .inl (nF xs))), (md 4, .inl (cI, 91, .inl (nF ys))), (md 5, .inl (cI, 91, .inl (nF zs))), (md 6, .inl (cZ, 91, .inl (bF S)))] := hD
              refine lv_iinc (v := nI (i + 1)) (lv' := [(2, .int (nI (i + 1))), (1, .int (nI (x + 1))), (0, .ref (md 0))]) hx hb dX7_spares_57 hl (k := 2) rfl (nI_inc i) (by decide) rfl (fun ls hl => ?_)
              refine lv_goto (tgt := 4) hx hb dX7_spares_60 (by decide) ?_
              exact ih4 (i + 1) (x + 1) ls _ _ (by omega) (by omega) (fun h => by rw [cnt, c25, ← spa_eq hM.1 (by omega) h c25, c39, k_x h]; rfl) (by omega) (fun h => by rw [c16] at h; cases h) (lv_sub hl [2, 1, 0] rfl) hP hD hS
  exact L4 (nn q - 0 + 1) 0 0 ls _ _ (by omega) (Nat.zero_le _) (fun _ => rfl) (Nat.le_refl 0) (fun _ => rfl) (lv_sub hl [2, 1, 0] rfl) hP hD hS

set_option maxHeartbeats 4000000 in
set_option maxRecDepth 100000 in
theorem c_X7_comers (l : Launch) (D : va_G) (cI cZ : ClassId) (md : Nat → Nat) (q : Nat) (w : Nat) (su : Nat → Nat) (po : Nat → Nat) (xs : Nat → Nat) (ys : Nat → Nat) (zs : Nat → Nat) (hM : MOK q su po xs ys zs) (S : Nat → Bool) : CtW (S := Unit) l yX7_comers wsX7_comers { frames := 4, cells := 0, slots := 0, locals := 91 } D (tyG cI cZ) [.ref (md 0)] [(md 0, .inr (7, [.int (nI q), .int (nI (nn q)), .ref (md 1), .ref (md 2), .ref (md 3), .ref (md 4), .ref (md 5), .ref (md 6), .ref (md 7), .ref (md 8), .ref (md 9), .ref (md 10), .ref (md 11), .ref (md 12), .ref (md 13), .ref (md 14), .ref (md 15), .ref (md 16), .int (nI w), .ref (md 17)])), (md 1, .inl (cI, 81, .inl (nF su))), (md 2, .inl (cI, 81, .inl (nF po))), (md 3, .inl (cI, 91, .inl (nF xs))), (md 4, .inl (cI, 91, .inl (nF ys))), (md 5, .inl (cI, 91, .inl (nF zs))), (md 6, .inl (cZ, 91, .inl (bF S)))] (fun (_ : Unit) => True) (fun (_ : Unit) => some (.int (nI (newq q S)))) (fun (_ : Unit) => [(md 0, .inr (7, [.int (nI q), .int (nI (nn q)), .ref (md 1), .ref (md 2), .ref (md 3), .ref (md 4), .ref (md 5), .ref (md 6), .ref (md 7), .ref (md 8), .ref (md 9), .ref (md 10), .ref (md 11), .ref (md 12), .ref (md 13), .ref (md 14), .ref (md 15), .ref (md 16), .int (nI w), .ref (md 17)])), (md 1, .inl (cI, 81, .inl (nF su))), (md 2, .inl (cI, 81, .inl (nF po))), (md 3, .inl (cI, 91, .inl (nF xs))), (md 4, .inl (cI, 91, .inl (nF ys))), (md 5, .inl (cI, 91, .inl (nF zs))), (md 6, .inl (cZ, 91, .inl (bF S)))]) := by
  intro sz; refine Met.ofW (cc := cX7_comers) (maxL := 3) (ret := some .int) (by decide) rfl ?_
  intro p e s m args below meth c s₁ B hml hv
  obtain ⟨rfl, hsz, hP, hK, hD0, hN⟩ := hv
  have hx := B.exec
  have hb := B.bytes
  have hr := B.returns
  have hts := atoms_spec (ws := wsX7_comers) B.pre
  have hown : s.vm.findClass RX7 = some m.cls := findClass_of_methodNamed B.named
  have hlocks := B.notSynchronized
  subst hsz
  have hD := hD0.self (sz := s.heap.size)
  generalize hAe : va_A [(md 0, .inr (7, [.int (nI q), .int (nI (nn q)), .ref (md 1), .ref (md 2), .ref (md 3), .ref (md 4), .ref (md 5), .ref (md 6), .ref (md 7), .ref (md 8), .ref (md 9), .ref (md 10), .ref (md 11), .ref (md 12), .ref (md 13), .ref (md 14), .ref (md 15), .ref (md 16), .int (nI w), .ref (md 17)])), (md 1, .inl (cI, 81, .inl (nF su))), (md 2, .inl (cI, 81, .inl (nF po))), (md 3, .inl (cI, 91, .inl (nF xs))), (md 4, .inl (cI, 91, .inl (nF ys))), (md 5, .inl (cI, 91, .inl (nF zs))), (md 6, .inl (cZ, 91, .inl (bF S)))] s.heap.size = A at hD ⊢
  have hA : ∀ q : Nat, s.heap.size ≤ q → A q := fun q h => by rw [← hAe]; exact Or.inr h
  have hS : va_S A s.heap s.heap [] := va_S.rf
  have hP : va_P D vwCl [(md 0, .inr (7, [.int (nI q), .int (nI (nn q)), .ref (md 1), .ref (md 2), .ref (md 3), .ref (md 4), .ref (md 5), .ref (md 6), .ref (md 7), .ref (md 8), .ref (md 9), .ref (md 10), .ref (md 11), .ref (md 12), .ref (md 13), .ref (md 14), .ref (md 15), .ref (md 16), .int (nI w), .ref (md 17)])), (md 1, .inl (cI, 81, .inl (nF su))), (md 2, .inl (cI, 81, .inl (nF po))), (md 3, .inl (cI, 91, .inl (nF xs))), (md 4, .inl (cI, 91, .inl (nF ys))), (md 5, .inl (cI, 91, .inl (nF zs))), (md 6, .inl (cZ, 91, .inl (bF S)))] s.heap := hP
  have hf25 := hts (.fieldLink RX7 25 "FinitePlanesModel" "isIn" "[Z") (by decide +kernel)
  have hf83 := hts (.fieldLink RX7 83 "FinitePlanesModel" "n" "I") (by decide +kernel)
  have hiX7 : ∀ w ∈ u_ws RX7 TX7 20, w ∈ wsX7_comers := by decide +kernel
  have hl := lv_entry ([.ref (md 0)]) (n := 3) (Nat.le_of_ble_eq_true rfl)
  rw [lg_entry_eq]
  generalize (lg_sl ([.ref (md 0)]) ++ List.replicate (3 - (lg_sl ([.ref (md 0)])).length) Slot.unset).toArray = ls at hl ⊢
  have hl : lv_has ls 3 [(0, .ref (md 0))] := hl
  have hq2 := qs_le hM.1
  have hn2 := nn_le hM.1
  refine lv_iconst (v := nI 0) hx hb dX7_comers_0 (by decide) ?_
  refine lv_istore_n (lv' := [(1, .int (nI 0)), (0, .ref (md 0))]) hx hb dX7_comers_1 rfl hl (by decide) rfl (fun ls hl => ?_)
  refine lv_iconst (v := nI 0) hx hb dX7_comers_2 (by decide) ?_
  refine lv_istore_n (lv' := [(2, .int (nI 0)), (1, .int (nI 0)), (0, .ref (md 0))]) hx hb dX7_comers_3 rfl hl (by decide) rfl (fun ls hl => ?_)
  have L4 : ∀ (N4 : Nat) (i : Nat) (x : Nat) (ls : Array Slot) (H : Heap) (locs : List Loc), nn q - i < N4 → (i ≤ nn q) → (arcq q S = true → x = cnt (fun t => !S t && decide (secq q (metq q S) t = 0)) i) → (x ≤ i) → (arcq q S = false → x = 0) → lv_has ls 3 [(0, .ref (md 0)), (1, .int (nI x)), (2, .int (nI i))] → va_P D vwCl [(md 0, .inr (7, [.int (nI q), .int (nI (nn q)), .ref (md 1), .ref (md 2), .ref (md 3), .ref (md 4), .ref (md 5), .ref (md 6), .ref (md 7), .ref (md 8), .ref (md 9), .ref (md 10), .ref (md 11), .ref (md 12), .ref (md 13), .ref (md 14), .ref (md 15), .ref (md 16), .int (nI w), .ref (md 17)])), (md 1, .inl (cI, 81, .inl (nF su))), (md 2, .inl (cI, 81, .inl (nF po))), (md 3, .inl (cI, 91, .inl (nF xs))), (md 4, .inl (cI, 91, .inl (nF ys))), (md 5, .inl (cI, 91, .inl (nF zs))), (md 6, .inl (cZ, 91, .inl (bF S)))] H → va_D A [(md 0, .inr (7, [.int (nI q), .int (nI (nn q)), .ref (md 1), .ref (md 2), .ref (md 3), .ref (md 4), .ref (md 5), .ref (md 6), .ref (md 7), .ref (md 8), .ref (md 9), .ref (md 10), .ref (md 11), .ref (md 12), .ref (md 13), .ref (md 14), .ref (md 15), .ref (md 16), .int (nI w), .ref (md 17)])), (md 1, .inl (cI, 81, .inl (nF su))), (md 2, .inl (cI, 81, .inl (nF po))), (md 3, .inl (cI, 91, .inl (nF xs))), (md 4, .inl (cI, 91, .inl (nF ys))), (md 5, .inl (cI, 91, .inl (nF zs))), (md 6, .inl (cZ, 91, .inl (bF S)))] → va_S A s.heap H locs → WG p l e wsX7_comers { frames := 4, cells := 0, slots := 0, locals := 91 } s m [.ref (md 0)] below meth c H locs (CQ (S := Unit) D (fun (_ : Unit) => True) (fun (_ : Unit) => some (.int (nI (newq q S)))) (fun (_ : Unit) => [(md 0, .inr (7, [.int (nI q), .int (nI (nn q)), .ref (md 1), .ref (md 2), .ref (md 3), .ref (md 4), .ref (md 5), .ref (md 6), .ref (md 7), .ref (md 8), .ref (md 9), .ref (md 10), .ref (md 11), .ref (md 12), .ref (md 13), .ref (md 14), .ref (md 15), .ref (md 16), .int (nI w), .ref (md 17)])), (md 1, .inl (cI, 81, .inl (nF su))), (md 2, .inl (cI, 81, .inl (nF po))), (md 3, .inl (cI, 91, .inl (nF xs))), (md 4, .inl (cI, 91, .inl (nF ys))), (md 5, .inl (cI, 91, .inl (nF zs))), (md 6, .inl (cZ, 91, .inl (bF S)))]) A) A 4 ls [] := by
    intro N4
    induction N4 with
    | zero => intro i x ls H locs hN; exact absurd hN (Nat.not_lt_zero _)
    | succ N4 ih4 =>
      intro i x ls H locs hN4 k_i k_x k_0 k_z hl hP hD hS
      refine lv_iload_n hx hb dX7_comers_4 rfl (lv_at hl 2 rfl) ?_
      refine lv_aload_n hx hb dX7_comers_5 rfl (lv_at hl 0 rfl) ?_
      refine va_get (D := D) (ci := 7) (v := .int (nI (nn q))) (C := RX7) (T := TX7) (N := 20) hx hb hts hiX7 hown hK hP 0 rfl rfl 1 (by decide) hf83 (fun _ h9 => h9) rfl dX7_comers_6 ?_
      refine nv_icmp_ge (tgt := 71) hx hb (by omega) (by omega) dX7_comers_9 (by decide) (fun c9 => ?_) (fun c9 => ?_)
      · refine lv_iload_n hx hb dX7_comers_71 rfl (lv_at hl 1 rfl) ?_
        exact ctW_retI (v := (nI x)) () hx hb hr rfl dX7_comers_72 hlocks hS hP hD trivial (by first | (cases hb9 : arcq q S; (rw [newq, hb9, k_z hb9]; rfl); (rw [newq, if_pos hb9, k_x hb9, show i = nn q by omega])) | (rw [newq, c20, k_z c20]; rfl))
      · refine lv_aload_n hx hb dX7_comers_12 rfl (lv_at hl 0 rfl) ?_
        refine lv_aload_n hx hb dX7_comers_13 rfl (lv_at hl 0 rfl) ?_
        refine va_get (D := D) (ci := 7) (v := .ref (md 6)) (C := RX7) (T := TX7) (N := 20) hx hb hts hiX7 hown hK hP 0 rfl rfl 7 (by decide) hf25 (fun _ h9 => h9) rfl dX7_comers_14 ?_
        refine ctR_V (As := [.ref (md 6)]) (rest := []) (r := .int (nI (arcq q S).toNat)) ⟨hx, hb, hml, hown, hts⟩ (c_X7_isArc l D cI cZ md q w su po xs ys zs hM (md 6) S) (cwV 1 hts gX7_comers_X7_isArc rfl rfl rfl hdV_X7_isArc ⟨Nat.le_of_ble_eq_true rfl, Nat.le_of_ble_eq_true rfl⟩) hK hN hP [0, 1, 2, 3, 4, 5, 6] rfl 0 7 rfl rfl rfl hl.1 rfl (Nat.le_of_ble_eq_true rfl) ⟨Nat.zero_le _, Nat.zero_le _⟩ dX7_comers_17 ?_
        refine nv_ifb_eq (tgt := 71) hx hb dX7_comers_20 (by decide) (fun c20 => ?_) (fun c20 => ?_)
        · refine lv_iload_n hx hb dX7_comers_71 rfl (lv_at hl 1 rfl) ?_
          exact ctW_retI (v := (nI x)) () hx hb hr rfl dX7_comers_72 hlocks hS hP hD trivial (by first | (cases hb9 : arcq q S; (rw [newq, hb9, k_z hb9]; rfl); (rw [newq, if_pos hb9, k_x hb9, show i = nn q by omega])) | (rw [newq, c20, k_z c20]; rfl))
        · refine lv_aload_n hx hb dX7_comers_23 rfl (lv_at hl 0 rfl) ?_
          refine va_get (D := D) (ci := 7) (v := .ref (md 6)) (C := RX7) (T := TX7) (N := 20) hx hb hts hiX7 hown hK hP 0 rfl rfl 7 (by decide) hf25 (fun _ h9 => h9) rfl dX7_comers_24 ?_
          refine lv_iload_n hx hb dX7_comers_27 rfl (lv_at hl 2 rfl) ?_
          refine nv_zald hx hb hK hP 6 1 rfl rfl (by omega) (by decide) dX7_comers_28 ?_
          refine nv_ifb_ne (tgt := 65) hx hb dX7_comers_29 (by decide) (fun c29 => ?_) (fun c29 => ?_)
          · refine lv_iinc (v := nI (i + 1)) (lv' := [(2, .int (nI (i + 1))), (0, .ref (md 0)), (1, .int (nI x))]) hx hb dX7_comers_65 hl (k := 2) rfl (nI_inc i) (by decide) rfl (fun ls hl => ?_)
            refine lv_goto (tgt := 4) hx hb dX7_comers_68 (by decide) ?_
            exact ih4 (i + 1) x ls _ _ (by omega) (by omega) (fun h => by rw [cnt, c29, k_x h]; rfl) (by omega) (fun h => by rw [c20] at h; cases h) (lv_sub hl [1, 2, 0] rfl) hP hD hS
          · refine lv_aload_n hx hb dX7_comers_32 rfl (lv_at hl 0 rfl) ?_
            refine va_get (D := D) (ci := 7) (v := .ref (md 6)) (C := RX7) (T := TX7) (N := 20) hx hb hts hiX7 hown hK hP 0 rfl rfl 7 (by decide) hf25 (fun _ h9 => h9) rfl dX7_comers_33 ?_
            refine lv_iload_n hx hb dX7_comers_36 rfl (lv_at hl 2 rfl) ?_
            refine lv_iconst (v := nI 1) hx hb dX7_comers_37 (by decide) ?_
            refine nv_zast hx hb hK hP hD hS 6 1 rfl rfl true (by omega) (by decide) dX7_comers_38 (fun H locs hP hD hS => ?_)
            have hP : va_P D vwCl [(md 0, .inr (7, [.int (nI q), .int (nI (nn q)), .ref (md 1), .ref (md 2), .ref (md 3), .ref (md 4), .ref (md 5), .ref (md 6), .ref (md 7), .ref (md 8), .ref (md 9), .ref (md 10), .ref (md 11), .ref (md 12), .ref (md 13), .ref (md 14), .ref (md 15), .ref (md 16), .int (nI w), .ref (md 17)])), (md 1, .inl (cI, 81, .inl (nF su))), (md 2, .inl (cI, 81, .inl (nF po))), (md 3, .inl (cI, 91, .inl (nF xs))), (md 4, .inl (cI, 91, .inl (nF ys))), (md 5, .inl (cI, 91, .inl (nF zs))), (md 6, .inl (cZ, 91, .inl (bF (upB S i true))))] H := hP
            have hD : va_D A [(md 0, .inr (7, [.int (nI q), .int (nI (nn q)), .ref (md 1), .ref (md 2), .ref (md 3), .ref (md 4), .ref (md 5), .ref (md 6), .ref (md 7), .ref (md 8), .ref (md 9), .ref (md 10), .ref (md 11), .ref (md 12), .ref (md 13), .ref (md 14), .ref (md 15), .ref (md 16), .int (nI w), .ref (md 17)])), (md 1, .inl (cI, 81, .inl (nF su))), (md 2, .inl (cI, 81, .inl (nF po))), (md 3, .inl (cI, 91, .inl (nF xs))), (md 4, .inl (cI, 91, .inl (nF ys))), (md 5, .inl (cI, 91, .inl (nF zs))), (md 6, .inl (cZ, 91, .inl (bF (upB S i true))))] := hD
            refine lv_aload_n hx hb dX7_comers_39 rfl (lv_at hl 0 rfl) ?_
            refine lv_aload_n hx hb dX7_comers_40 rfl (lv_at hl 0 rfl) ?_
            refine va_get (D := D) (ci := 7) (v := .ref (md 6)) (C := RX7) (T := TX7) (N := 20) hx hb hts hiX7 hown hK hP 0 rfl rfl 7 (by decide) hf25 (fun _ h9 => h9) rfl dX7_comers_41 ?_
            refine ctR_V (As := [.ref (md 6)]) (rest := []) (r := .int (nI (arcq q (upB S i true)).toNat)) ⟨hx, hb, hml, hown, hts⟩ (c_X7_isArc l D cI cZ md q w su po xs ys zs hM (md 6) (upB S i true)) (cwV 1 hts gX7_comers_X7_isArc rfl rfl rfl hdV_X7_isArc ⟨Nat.le_of_ble_eq_true rfl, Nat.le_of_ble_eq_true rfl⟩) hK hN hP [0, 1, 2, 3, 4, 5, 6] rfl 0 7 rfl rfl rfl hl.1 rfl (Nat.le_of_ble_eq_true rfl) ⟨Nat.zero_le _, Nat.zero_le _⟩ dX7_comers_44 ?_
            refine nv_ifb_eq (tgt := 56) hx hb dX7_comers_47 (by decide) (fun c47 => ?_) (fun c47 => ?_)
            · refine lv_iload_n hx hb dX7_comers_56 rfl (lv_at hl 1 rfl) ?_
              refine lv_istore_n (lv' := [(1, .int (nI x)), (0, .ref (md 0)), (2, .int (nI i))]) hx hb dX7_comers_57 rfl hl (by decide) rfl (fun ls hl => ?_)
              refine lv_aload_n hx hb dX7_comers_58 rfl (lv_at hl 1 rfl) ?_
              refine va_get (D := D) (ci := 7) (v := .ref (md 6)) (C := RX7) (T := TX7) (N := 20) hx hb hts hiX7 hown hK hP 0 rfl rfl 7 (by decide) hf25 (fun _ h9 => h9) rfl dX7_comers_59 ?_
              refine lv_iload_n hx hb dX7_comers_62 rfl (lv_at hl 2 rfl) ?_
              refine lv_iconst (v := nI 0) hx hb dX7_comers_63 (by decide) ?_
              refine nv_zast hx hb hK hP hD hS 6 1 rfl rfl false (by omega) (by decide) dX7_comers_64 (fun H locs hP hD hS => ?_)
              rw [show bF (upB (upB S i true) i false) = bF S from (congrArg bF (upB_back c29))] at hP hD
              have hP : va_P D vwCl [(md 0, .inr (7, [.int (nI q), .int (nI (nn q)), .ref (md 1), .ref (md 2), .ref (md 3), .ref (md 4), .ref (md 5), .ref (md 6), .ref (md 7), .ref (md 8), .ref (md 9), .ref (md 10), .ref (md 11), .ref (md 12), .ref (md 13), .ref (md 14), .ref (md 15), .ref (md 16), .int (nI w), .ref (md 17)])), (md 1, .inl (cI, 81, .inl (nF su))), (md 2, .inl (cI, 81, .inl (nF po))), (md 3, .inl (cI, 91, .inl (nF xs))), (md 4, .inl (cI, 91, .inl (nF ys))), (md 5, .inl (cI, 91, .inl (nF zs))), (md 6, .inl (cZ, 91, .inl (bF S)))] H := hP
              have hD : va_D A [(md 0, .inr (7, [.int (nI q), .int (nI (nn q)), .ref (md 1), .ref (md 2), .ref (md 3), .ref (md 4), .ref (md 5), .ref (md 6), .ref (md 7), .ref (md 8), .ref (md 9), .ref (md 10), .ref (md 11), .ref (md 12), .ref (md 13), .ref (md 14), .ref (md 15), .ref (md 16), .int (nI w), .ref (md 17)])), (md 1, .inl (cI, 81, .inl (nF su))), (md 2, .inl (cI, 81, .inl (nF po))), (md 3, .inl (cI, 91, .inl (nF xs))), (md 4, .inl (cI, 91, .inl (nF ys))), (md 5, .inl (cI, 91, .inl (nF zs))), (md 6, .inl (cZ, 91, .inl (bF S)))] := hD
              refine lv_iinc (v := nI (i + 1)) (lv' := [(2, .int (nI (i + 1))), (1, .int (nI x)), (0, .ref (md 0))]) hx hb dX7_comers_65 hl (k := 2) rfl (nI_inc i) (by decide) rfl (fun ls hl => ?_)
              refine lv_goto (tgt := 4) hx hb dX7_comers_68 (by decide) ?_
              exact ih4 (i + 1) x ls _ _ (by omega) (by omega) (fun h => by rw [cnt, c29, ← new_eq hM.1 (by omega) h c29, c47, k_x h]; rfl) (by omega) (fun h => by rw [c20] at h; cases h) (lv_sub hl [2, 1, 0] rfl) hP hD hS
            · refine lv_iload_n hx hb dX7_comers_50 rfl (lv_at hl 1 rfl) ?_
              refine lv_iconst (v := nI 1) hx hb dX7_comers_51 (by decide) ?_
              refine nv_addE (r := x + 1) hx hb rfl dX7_comers_52 ?_
              refine lv_goto (tgt := 57) hx hb dX7_comers_53 (by decide) ?_
              refine lv_istore_n (lv' := [(1, .int (nI (x + 1))), (0, .ref (md 0)), (2, .int (nI i))]) hx hb dX7_comers_57 rfl hl (by decide) rfl (fun ls hl => ?_)
              refine lv_aload_n hx hb dX7_comers_58 rfl (lv_at hl 1 rfl) ?_
              refine va_get (D := D) (ci := 7) (v := .ref (md 6)) (C := RX7) (T := TX7) (N := 20) hx hb hts hiX7 hown hK hP 0 rfl rfl 7 (by decide) hf25 (fun _ h9 => h9) rfl dX7_comers_59 ?_
              refine lv_iload_n hx hb dX7_comers_62 rfl (lv_at hl 2 rfl) ?_
              refine lv_iconst (v := nI 0) hx hb dX7_comers_63 (by decide) ?_
              refine nv_zast hx hb hK hP hD hS 6 1 rfl rfl false (by omega) (by decide) dX7_comers_64 (fun H locs hP hD hS => ?_)
              rw [show bF (upB (upB S i true) i false) = bF S from (congrArg bF (upB_back c29))] at hP hD
              have hP : va_P D vwCl [(md 0, .inr (7, [.int (nI q), .int (nI (nn q)), .ref (md 1), .ref (md 2), .ref (md 3), .ref (md 4), .ref (md 5), .ref (md 6), .ref (md 7), .ref (md 8), .ref (md 9), .ref (md 10), .ref (md 11), .ref (md 12), .ref (md 13), .ref (md 14), .ref (md 15), .ref (md 16), .int (nI w), .ref (md 17)])), (md 1, .inl (cI, 81, .inl (nF su))), (md 2, .inl (cI, 81, .inl (nF po))), (md 3, .inl (cI, 91, .inl (nF xs))), (md 4, .inl (cI, 91, .inl (nF ys))), (md 5, .inl (cI, 91, .inl (nF zs))), (md 6, .inl (cZ, 91, .inl (bF S)))] H := hP
              have hD : va_D A [(md 0, .inr (7, [.int (nI q), .int (nI (nn q)), .ref (md 1), .ref (md 2), .ref (md 3), .ref (md 4), .ref (md 5), .ref (md 6), .ref (md 7), .ref (md 8), .ref (md 9), .ref (md 10), .ref (md 11), .ref (md 12), .ref (md 13), .ref (md 14), .ref (md 15), .ref (md 16), .int (nI w), .ref (md 17)])), (md 1, .inl (cI, 81, .inl (nF su))), (md 2, .inl (cI, 81, .inl (nF po))), (md 3, .inl (cI, 91, .inl (nF xs))), (md 4, .inl (cI, 91, .inl (nF ys))), (md 5, .inl (cI, 91, .inl (nF zs))), (md 6, .inl (cZ, 91, .inl (bF S)))] := hD
              refine lv_iinc (v := nI (i + 1)) (lv' := [(2, .int (nI (i + 1))), (1, .int (nI (x + 1))), (0, .ref (md 0))]) hx hb dX7_comers_65 hl (k := 2) rfl (nI_inc i) (by decide) rfl (fun ls hl => ?_)
              refine lv_goto (tgt := 4) hx hb dX7_comers_68 (by decide) ?_
              exact ih4 (i + 1) (x + 1) ls _ _ (by omega) (by omega) (fun h => by rw [cnt, c29, ← new_eq hM.1 (by omega) h c29, c47, k_x h]; rfl) (by omega) (fun h => by rw [c20] at h; cases h) (lv_sub hl [2, 1, 0] rfl) hP hD hS
  exact L4 (nn q - 0 + 1) 0 0 ls _ _ (by omega) (Nat.zero_le _) (fun _ => rfl) (Nat.le_refl 0) (fun _ => rfl) (lv_sub hl [2, 1, 0] rfl) hP hD hS

set_option maxHeartbeats 4000000 in
set_option maxRecDepth 100000 in
theorem c_X7_close (l : Launch) (D : va_G) (cI cZ : ClassId) (md : Nat → Nat) (q : Nat) (w : Nat) (su : Nat → Nat) (po : Nat → Nat) (xs : Nat → Nat) (ys : Nat → Nat) (zs : Nat → Nat) (hM : MOK q su po xs ys zs) (S : Nat → Bool) (cd : Nat → Bool) : CtW (S := (Nat → Bool)) l yX7_close wsX7_close { frames := 3, cells := 0, slots := 0, locals := 68 } D (tyG cI cZ) [.ref (md 0)] [(md 0, .inr (7, [.int (nI q), .int (nI (nn q)), .ref (md 1), .ref (md 2), .ref (md 3), .ref (md 4), .ref (md 5), .ref (md 6), .ref (md 7), .ref (md 8), .ref (md 9), .ref (md 10), .ref (md 11), .ref (md 12), .ref (md 13), .ref (md 14), .ref (md 15), .ref (md 16), .int (nI w), .ref (md 17)])), (md 1, .inl (cI, 81, .inl (nF su))), (md 2, .inl (cI, 81, .inl (nF po))), (md 3, .inl (cI, 91, .inl (nF xs))), (md 4, .inl (cI, 91, .inl (nF ys))), (md 5, .inl (cI, 91, .inl (nF zs))), (md 6, .inl (cZ, 91, .inl (bF S))), (md 8, .inl (cZ, 91, .inl (bF cd)))] (fun (cd3 : Nat → Bool) => eqN (nn q) cd3 (cloq q S)) (fun (cd3 : Nat → Bool) => none) (fun (cd3 : Nat → Bool) => [(md 0, .inr (7, [.int (nI q), .int (nI (nn q)), .ref (md 1), .ref (md 2), .ref (md 3), .ref (md 4), .ref (md 5), .ref (md 6), .ref (md 7), .ref (md 8), .ref (md 9), .ref (md 10), .ref (md 11), .ref (md 12), .ref (md 13), .ref (md 14), .ref (md 15), .ref (md 16), .int (nI w), .ref (md 17)])), (md 1, .inl (cI, 81, .inl (nF su))), (md 2, .inl (cI, 81, .inl (nF po))), (md 3, .inl (cI, 91, .inl (nF xs))), (md 4, .inl (cI, 91, .inl (nF ys))), (md 5, .inl (cI, 91, .inl (nF zs))), (md 6, .inl (cZ, 91, .inl (bF S))), (md 8, .inl (cZ, 91, .inl (bF cd3)))]) := by
  intro sz; refine Met.ofW (cc := cX7_close) (maxL := 5) (ret := none) (by decide) rfl ?_
  intro p e s m args below meth c s₁ B hml hv
  obtain ⟨rfl, hsz, hP, hK, hD0, hN⟩ := hv
  have hx := B.exec
  have hb := B.bytes
  have hr := B.returns
  have hts := atoms_spec (ws := wsX7_close) B.pre
  have hown : s.vm.findClass RX7 = some m.cls := findClass_of_methodNamed B.named
  have hlocks := B.notSynchronized
  subst hsz
  have hD := hD0.self (sz := s.heap.size)
  generalize hAe : va_A [(md 0, .inr (7, [.int (nI q), .int (nI (nn q)), .ref (md 1), .ref (md 2), .ref (md 3), .ref (md 4), .ref (md 5), .ref (md 6), .ref (md 7), .ref (md 8), .ref (md 9), .ref (md 10), .ref (md 11), .ref (md 12), .ref (md 13), .ref (md 14), .ref (md 15), .ref (md 16), .int (nI w), .ref (md 17)])), (md 1, .inl (cI, 81, .inl (nF su))), (md 2, .inl (cI, 81, .inl (nF po))), (md 3, .inl (cI, 91, .inl (nF xs))), (md 4, .inl (cI, 91, .inl (nF ys))), (md 5, .inl (cI, 91, .inl (nF zs))), (md 6, .inl (cZ, 91, .inl (bF S))), (md 8, .inl (cZ, 91, .inl (bF cd)))] s.heap.size = A at hD ⊢
  have hA : ∀ q : Nat, s.heap.size ≤ q → A q := fun q h => by rw [← hAe]; exact Or.inr h
  have hS : va_S A s.heap s.heap [] := va_S.rf
  have hP : va_P D vwCl [(md 0, .inr (7, [.int (nI q), .int (nI (nn q)), .ref (md 1), .ref (md 2), .ref (md 3), .ref (md 4), .ref (md 5), .ref (md 6), .ref (md 7), .ref (md 8), .ref (md 9), .ref (md 10), .ref (md 11), .ref (md 12), .ref (md 13), .ref (md 14), .ref (md 15), .ref (md 16), .int (nI w), .ref (md 17)])), (md 1, .inl (cI, 81, .inl (nF su))), (md 2, .inl (cI, 81, .inl (nF po))), (md 3, .inl (cI, 91, .inl (nF xs))), (md 4, .inl (cI, 91, .inl (nF ys))), (md 5, .inl (cI, 91, .inl (nF zs))), (md 6, .inl (cZ, 91, .inl (bF S))), (md 8, .inl (cZ, 91, .inl (bF cd)))] s.heap := hP
  have hf25 := hts (.fieldLink RX7 25 "FinitePlanesModel" "isIn" "[Z") (by decide +kernel)
  have hf32 := hts (.fieldLink RX7 32 "FinitePlanesModel" "closed" "[Z") (by decide +kernel)
  have hf83 := hts (.fieldLink RX7 83 "FinitePlanesModel" "n" "I") (by decide +kernel)
  have hiX7 : ∀ w ∈ u_ws RX7 TX7 20, w ∈ wsX7_close := by decide +kernel
  have hl := lv_entry ([.ref (md 0)]) (n := 5) (Nat.le_of_ble_eq_true rfl)
  rw [lg_entry_eq]
  generalize (lg_sl ([.ref (md 0)]) ++ List.replicate (5 - (lg_sl ([.ref (md 0)])).length) Slot.unset).toArray = ls at hl ⊢
  have hl : lv_has ls 5 [(0, .ref (md 0))] := hl
  have hq2 := qs_le hM.1
  have hn2 := nn_le hM.1
  refine lv_iconst (v := nI 0) hx hb dX7_close_0 (by decide) ?_
  refine lv_istore_n (lv' := [(1, .int (nI 0)), (0, .ref (md 0))]) hx hb dX7_close_1 rfl hl (by decide) rfl (fun ls hl => ?_)
  have L2 : ∀ (N2 : Nat) (i : Nat) (G1 : Nat → Bool) (ls : Array Slot) (H : Heap) (locs : List Loc), nn q - i < N2 → (i ≤ nn q) → (∀ t, t < i → G1 t = S t) → lv_has ls 5 [(0, .ref (md 0)), (1, .int (nI i))] → va_P D vwCl [(md 0, .inr (7, [.int (nI q), .int (nI (nn q)), .ref (md 1), .ref (md 2), .ref (md 3), .ref (md 4), .ref (md 5), .ref (md 6), .ref (md 7), .ref (md 8), .ref (md 9), .ref (md 10), .ref (md 11), .ref (md 12), .ref (md 13), .ref (md 14), .ref (md 15), .ref (md 16), .int (nI w), .ref (md 17)])), (md 1, .inl (cI, 81, .inl (nF su))), (md 2, .inl (cI, 81, .inl (nF po))), (md 3, .inl (cI, 91, .inl (nF xs))), (md 4, .inl (cI, 91, .inl (nF ys))), (md 5, .inl (cI, 91, .inl (nF zs))), (md 6, .inl (cZ, 91, .inl (bF S))), (md 8, .inl (cZ, 91, .inl (bF G1)))] H → va_D A [(md 0, .inr (7, [.int (nI q), .int (nI (nn q)), .ref (md 1), .ref (md 2), .ref (md 3), .ref (md 4), .ref (md 5), .ref (md 6), .ref (md 7), .ref (md 8), .ref (md 9), .ref (md 10), .ref (md 11), .ref (md 12), .ref (md 13), .ref (md 14), .ref (md 15), .ref (md 16), .int (nI w), .ref (md 17)])), (md 1, .inl (cI, 81, .inl (nF su))), (md 2, .inl (cI, 81, .inl (nF po))), (md 3, .inl (cI, 91, .inl (nF xs))), (md 4, .inl (cI, 91, .inl (nF ys))), (md 5, .inl (cI, 91, .inl (nF zs))), (md 6, .inl (cZ, 91, .inl (bF S))), (md 8, .inl (cZ, 91, .inl (bF G1)))] → va_S A s.heap H locs → WG p l e wsX7_close { frames := 3, cells := 0, slots := 0, locals := 68 } s m [.ref (md 0)] below meth c H locs (CQ (S := (Nat → Bool)) D (fun (cd3 : Nat → Bool) => eqN (nn q) cd3 (cloq q S)) (fun (cd3 : Nat → Bool) => none) (fun (cd3 : Nat → Bool) => [(md 0, .inr (7, [.int (nI q), .int (nI (nn q)), .ref (md 1), .ref (md 2), .ref (md 3), .ref (md 4), .ref (md 5), .ref (md 6), .ref (md 7), .ref (md 8), .ref (md 9), .ref (md 10), .ref (md 11), .ref (md 12), .ref (md 13), .ref (md 14), .ref (md 15), .ref (md 16), .int (nI w), .ref (md 17)])), (md 1, .inl (cI, 81, .inl (nF su))), (md 2, .inl (cI, 81, .inl (nF po))), (md 3, .inl (cI, 91, .inl (nF xs))), (md 4, .inl (cI, 91, .inl (nF ys))), (md 5, .inl (cI, 91, .inl (nF zs))), (md 6, .inl (cZ, 91, .inl (bF S))), (md 8, .inl (cZ, 91, .inl (bF cd3)))]) A) A 2 ls [] := by
    intro N2
    induction N2 with
    | zero => intro i G1 ls H locs hN; exact absurd hN (Nat.not_lt_zero _)
    | succ N2 ih2 =>
      intro i G1 ls H locs hN2 k_i k_s hl hP hD hS
      refine lv_iload_n hx hb dX7_close_2 rfl (lv_at hl 1 rfl) ?_
      refine lv_aload_n hx hb dX7_close_3 rfl (lv_at hl 0 rfl) ?_
      refine va_get (D := D) (ci := 7) (v := .int (nI (nn q))) (C := RX7) (T := TX7) (N := 20) hx hb hts hiX7 hown hK hP 0 rfl rfl 1 (by decide) hf83 (fun _ h9 => h9) rfl dX7_close_4 ?_
      refine nv_icmp_ge (tgt := 28) hx hb (by omega) (by omega) dX7_close_7 (by decide) (fun c7 => ?_) (fun c7 => ?_)
      · refine lv_iconst (v := nI 1) hx hb dX7_close_28 (by decide) ?_
        refine lv_istore_n (lv' := [(1, .int (nI 1)), (0, .ref (md 0))]) hx hb dX7_close_29 rfl hl (by decide) rfl (fun ls hl => ?_)
        have L30 : ∀ (N30 : Nat) (b : Bool) (C : Nat → Bool) (ls : Array Slot) (H : Heap) (locs : List Loc), clM b C (nn q) < N30 → (subN (nn q) S C) → (subN (nn q) C (cloq q S)) → (b = false → clsd q C) → lv_has ls 5 [(0, .ref (md 0)), (1, .int (nI (b).toNat))] → va_P D vwCl [(md 0, .inr (7, [.int (nI q), .int (nI (nn q)), .ref (md 1), .ref (md 2), .ref (md 3), .ref (md 4), .ref (md 5), .ref (md 6), .ref (md 7), .ref (md 8), .ref (md 9), .ref (md 10), .ref (md 11), .ref (md 12), .ref (md 13), .ref (md 14), .ref (md 15), .ref (md 16), .int (nI w), .ref (md 17)])), (md 1, .inl (cI, 81, .inl (nF su))), (md 2, .inl (cI, 81, .inl (nF po))), (md 3, .inl (cI, 91, .inl (nF xs))), (md 4, .inl (cI, 91, .inl (nF ys))), (md 5, .inl (cI, 91, .inl (nF zs))), (md 6, .inl (cZ, 91, .inl (bF S))), (md 8, .inl (cZ, 91, .inl (bF C)))] H → va_D A [(md 0, .inr (7, [.int (nI q), .int (nI (nn q)), .ref (md 1), .ref (md 2), .ref (md 3), .ref (md 4), .ref (md 5), .ref (md 6), .ref (md 7), .ref (md 8), .ref (md 9), .ref (md 10), .ref (md 11), .ref (md 12), .ref (md 13), .ref (md 14), .ref (md 15), .ref (md 16), .int (nI w), .ref (md 17)])), (md 1, .inl (cI, 81, .inl (nF su))), (md 2, .inl (cI, 81, .inl (nF po))), (md 3, .inl (cI, 91, .inl (nF xs))), (md 4, .inl (cI, 91, .inl (nF ys))), (md 5, .inl (cI, 91, .inl (nF zs))), (md 6, .inl (cZ, 91, .inl (bF S))), (md 8, .inl (cZ, 91, .inl (bF C)))] → va_S A s.heap H locs → WG p l e wsX7_close { frames := 3, cells := 0, slots := 0, locals := 68 } s m [.ref (md 0)] below meth c H locs (CQ (S := (Nat → Bool)) D (fun (cd3 : Nat → Bool) => eqN (nn q) cd3 (cloq q S)) (fun (cd3 : Nat → Bool) => none) (fun (cd3 : Nat → Bool) => [(md 0, .inr (7, [.int (nI q), .int (nI (nn q)), .ref (md 1), .ref (md 2), .ref (md 3), .ref (md 4), .ref (md 5), .ref (md 6), .ref (md 7), .ref (md 8), .ref (md 9), .ref (md 10), .ref (md 11), .ref (md 12), .ref (md 13), .ref (md 14), .ref (md 15), .ref (md 16), .int (nI w), .ref (md 17)])), (md 1, .inl (cI, 81, .inl (nF su))), (md 2, .inl (cI, 81, .inl (nF po))), (md 3, .inl (cI, 91, .inl (nF xs))), (md 4, .inl (cI, 91, .inl (nF ys))), (md 5, .inl (cI, 91, .inl (nF zs))), (md 6, .inl (cZ, 91, .inl (bF S))), (md 8, .inl (cZ, 91, .inl (bF cd3)))]) A) A 30 ls [] := by
          intro N30
          induction N30 with
          | zero => intro b C ls H locs hN; exact absurd hN (Nat.not_lt_zero _)
          | succ N30 ih30 =>
            intro b C ls H locs hN30 a1 a2 a3 hl hP hD hS
            refine lv_iload_n hx hb dX7_close_30 rfl (lv_at hl 1 rfl) ?_
            refine nv_ifb_eq (tgt := 130) hx hb dX7_close_31 (by decide) (fun c31 => ?_) (fun c31 => ?_)
            · exact ctW_retV C hx hb hr dX7_close_130 hlocks hS hP hD (clo_eq hM.1 a1 a2 (a3 c31)) rfl
            · refine lv_iconst (v := nI 0) hx hb dX7_close_34 (by decide) ?_
              refine lv_istore_n (lv' := [(1, .int (nI 0)), (0, .ref (md 0))]) hx hb dX7_close_35 rfl hl (by decide) rfl (fun ls hl => ?_)
              refine lv_iconst (v := nI 0) hx hb dX7_close_36 (by decide) ?_
              refine lv_istore_n (lv' := [(2, .int (nI 0)), (1, .int (nI 0)), (0, .ref (md 0))]) hx hb dX7_close_37 rfl hl (by decide) rfl (fun ls hl => ?_)
              have L38 : ∀ (N38 : Nat) (y : Bool) (i : Nat) (C1 : Nat → Bool) (ls : Array Slot) (H : Heap) (locs : List Loc), nn q - i < N38 → (i ≤ nn q) → (subN (nn q) S C1) → (subN (nn q) C1 (cloq q S)) → (cnt C (nn q) ≤ cnt C1 (nn q)) → (y = true → cnt C (nn q) < cnt C1 (nn q)) → (y = false → ∀ l1 k1, l1 < i → k1 < l1 → 1 < metq q C1 l1 → 1 < metq q C1 k1 → C1 (joinq q l1 k1) = true) → lv_has ls 5 [(0, .ref (md 0)), (1, .int (nI (y).toNat)), (2, .int (nI i))] → va_P D vwCl [(md 0, .inr (7, [.int (nI q), .int (nI (nn q)), .ref (md 1), .ref (md 2), .ref (md 3), .ref (md 4), .ref (md 5), .ref (md 6), .ref (md 7), .ref (md 8), .ref (md 9), .ref (md 10), .ref (md 11), .ref (md 12), .ref (md 13), .ref (md 14), .ref (md 15), .ref (md 16), .int (nI w), .ref (md 17)])), (md 1, .inl (cI, 81, .inl (nF su))), (md 2, .inl (cI, 81, .inl (nF po))), (md 3, .inl (cI, 91, .inl (nF xs))), (md 4, .inl (cI, 91, .inl (nF ys))), (md 5, .inl (cI, 91, .inl (nF zs))), (md 6, .inl (cZ, 91, .inl (bF S))), (md 8, .inl (cZ, 91, .inl (bF C1)))] H → va_D A [(md 0, .inr (7, [.int (nI q), .int (nI (nn q)), .ref (md 1), .ref (md 2), .ref (md 3), .ref (md 4), .ref (md 5), .ref (md 6), .ref (md 7), .ref (md 8), .ref (md 9), .ref (md 10), .ref (md 11), .ref (md 12), .ref (md 13), .ref (md 14), .ref (md 15), .ref (md 16), .int (nI w), .ref (md 17)])), (md 1, .inl (cI, 81, .inl (nF su))), (md 2, .inl (cI, 81, .inl (nF po))), (md 3, .inl (cI, 91, .inl (nF xs))), (md 4, .inl (cI, 91, .inl (nF ys))), (md 5, .inl (cI, 91, .inl (nF zs))), (md 6, .inl (cZ, 91, .inl (bF S))), (md 8, .inl (cZ, 91, .inl (bF C1)))] → va_S A s.heap H locs → WG p l e wsX7_close { frames := 3, cells := 0, slots := 0, locals := 68 } s m [.ref (md 0)] below meth c H locs (CQ (S := (Nat → Bool)) D (fun (cd3 : Nat → Bool) => eqN (nn q) cd3 (cloq q S)) (fun (cd3 : Nat → Bool) => none) (fun (cd3 : Nat → Bool) => [(md 0, .inr (7, [.int (nI q), .int (nI (nn q)), .ref (md 1), .ref (md 2), .ref (md 3), .ref (md 4), .ref (md 5), .ref (md 6), .ref (md 7), .ref (md 8), .ref (md 9), .ref (md 10), .ref (md 11), .ref (md 12), .ref (md 13), .ref (md 14), .ref (md 15), .ref (md 16), .int (nI w), .ref (md 17)])), (md 1, .inl (cI, 81, .inl (nF su))), (md 2, .inl (cI, 81, .inl (nF po))), (md 3, .inl (cI, 91, .inl (nF xs))), (md 4, .inl (cI, 91, .inl (nF ys))), (md 5, .inl (cI, 91, .inl (nF zs))), (md 6, .inl (cZ, 91, .inl (bF S))), (md 8, .inl (cZ, 91, .inl (bF cd3)))]) A) A 38 ls [] := by
                intro N38
                induction N38 with
                | zero => intro y i C1 ls H locs hN; exact absurd hN (Nat.not_lt_zero _)
                | succ N38 ih38 =>
                  intro y i C1 ls H locs hN38 k_i2 m1 m2 m3 m4 m5 hl hP hD hS
                  refine lv_iload_n hx hb dX7_close_38 rfl (lv_at hl 2 rfl) ?_
                  refine lv_aload_n hx hb dX7_close_39 rfl (lv_at hl 0 rfl) ?_
                  refine va_get (D := D) (ci := 7) (v := .int (nI (nn q))) (C := RX7) (T := TX7) (N := 20) hx hb hts hiX7 hown hK hP 0 rfl rfl 1 (by decide) hf83 (fun _ h9 => h9) rfl dX7_close_40 ?_
                  refine nv_icmp_ge (tgt := 127) hx hb (by omega) (by omega) dX7_close_43 (by decide) (fun c43 => ?_) (fun c43 => ?_)
                  · refine lv_goto (tgt := 30) hx hb dX7_close_127 (by decide) ?_
                    exact ih30 y C1 ls _ _ (clM_lt hN30 c31 m4) m1 m2 (fun h l1 k1 hl1 hk1 => m5 h l1 k1 (by omega) hk1) (lv_sub hl [0, 1] rfl) hP hD hS
                  · refine lv_iconst (v := nI 0) hx hb dX7_close_46 (by decide) ?_
                    refine lv_istore_n (lv' := [(3, .int (nI 0)), (0, .ref (md 0)), (1, .int (nI (y).toNat)), (2, .int (nI i))]) hx hb dX7_close_47 rfl hl (by decide) rfl (fun ls hl => ?_)
                    have L48 : ∀ (N48 : Nat) (y : Bool) (j : Nat) (C1 : Nat → Bool) (ls : Array Slot) (H : Heap) (locs : List Loc), i - j < N48 → (j ≤ i) → (subN (nn q) S C1) → (subN (nn q) C1 (cloq q S)) → (cnt C (nn q) ≤ cnt C1 (nn q)) → (y = true → cnt C (nn q) < cnt C1 (nn q)) → (y = false → ∀ l1 k1, l1 < i → k1 < l1 → 1 < metq q C1 l1 → 1 < metq q C1 k1 → C1 (joinq q l1 k1) = true) → (y = false → ∀ k1, k1 < j → 1 < metq q C1 i → 1 < metq q C1 k1 → C1 (joinq q i k1) = true) → lv_has ls 5 [(0, .ref (md 0)), (1, .int (nI (y).toNat)), (2, .int (nI i)), (3, .int (nI j))] → va_P D vwCl [(md 0, .inr (7, [.int (nI q), .int (nI (nn q)), .ref (md 1), .ref (md 2), .ref (md 3), .ref (md 4), .ref (md 5), .ref (md 6), .ref (md 7), .ref (md 8), .ref (md 9), .ref (md 10), .ref (md 11), .ref (md 12), .ref (md 13), .ref (md 14), .ref (md 15), .ref (md 16), .int (nI w), .ref (md 17)])), (md 1, .inl (cI, 81, .inl (nF su))), (md 2, .inl (cI, 81, .inl (nF po))), (md 3, .inl (cI, 91, .inl (nF xs))), (md 4, .inl (cI, 91, .inl (nF ys))), (md 5, .inl (cI, 91, .inl (nF zs))), (md 6, .inl (cZ, 91, .inl (bF S))), (md 8, .inl (cZ, 91, .inl (bF C1)))] H → va_D A [(md 0, .inr (7, [.int (nI q), .int (nI (nn q)), .ref (md 1), .ref (md 2), .ref (md 3), .ref (md 4), .ref (md 5), .ref (md 6), .ref (md 7), .ref (md 8), .ref (md 9), .ref (md 10), .ref (md 11), .ref (md 12), .ref (md 13), .ref (md 14), .ref (md 15), .ref (md 16), .int (nI w), .ref (md 17)])), (md 1, .inl (cI, 81, .inl (nF su))), (md 2, .inl (cI, 81, .inl (nF po))), (md 3, .inl (cI, 91, .inl (nF xs))), (md 4, .inl (cI, 91, .inl (nF ys))), (md 5, .inl (cI, 91, .inl (nF zs))), (md 6, .inl (cZ, 91, .inl (bF S))), (md 8, .inl (cZ, 91, .inl (bF C1)))] → va_S A s.heap H locs → WG p l e wsX7_close { frames := 3, cells := 0, slots := 0, locals := 68 } s m [.ref (md 0)] below meth c H locs (CQ (S := (Nat → Bool)) D (fun (cd3 : Nat → Bool) => eqN (nn q) cd3 (cloq q S)) (fun (cd3 : Nat → Bool) => none) (fun (cd3 : Nat → Bool) => [(md 0, .inr (7, [.int (nI q), .int (nI (nn q)), .ref (md 1), .ref (md 2), .ref (md 3), .ref (md 4), .ref (md 5), .ref (md 6), .ref (md 7), .ref (md 8), .ref (md 9), .ref (md 10), .ref (md 11), .ref (md 12), .ref (md 13), .ref (md 14), .ref (md 15), .ref (md 16), .int (nI w), .ref (md 17)])), (md 1, .inl (cI, 81, .inl (nF su))), (md 2, .inl (cI, 81, .inl (nF po))), (md 3, .inl (cI, 91, .inl (nF xs))), (md 4, .inl (cI, 91, .inl (nF ys))), (md 5, .inl (cI, 91, .inl (nF zs))), (md 6, .inl (cZ, 91, .inl (bF S))), (md 8, .inl (cZ, 91, .inl (bF cd3)))]) A) A 48 ls [] := by
                      intro N48
                      induction N48 with
                      | zero => intro y j C1 ls H locs hN; exact absurd hN (Nat.not_lt_zero _)
                      | succ N48 ih48 =>
                        intro y j C1 ls H locs hN48 k_j m1 m2 m3 m4 m5 m6 hl hP hD hS
                        refine lv_iload_n hx hb dX7_close_48 rfl (lv_at hl 3 rfl) ?_
                        refine lv_iload_n hx hb dX7_close_49 rfl (lv_at hl 2 rfl) ?_
                        refine nv_icmp_ge (tgt := 121) hx hb (by omega) (by omega) dX7_close_50 (by decide) (fun c50 => ?_) (fun c50 => ?_)
                        · refine lv_iinc (v := nI (i + 1)) (lv' := [(2, .int (nI (i + 1))), (0, .ref (md 0)), (1, .int (nI (y).toNat)), (3, .int (nI j))]) hx hb dX7_close_121 hl (k := 2) rfl (nI_inc i) (by decide) rfl (fun ls hl => ?_)
                          refine lv_goto (tgt := 38) hx hb dX7_close_124 (by decide) ?_
                          exact ih38 y (i + 1) C1 ls _ _ (by omega) (by omega) m1 m2 m3 m4 (fun h l1 k1 hl1 hk1 => (Nat.lt_succ_iff_lt_or_eq.mp hl1).elim (fun z => m5 h l1 k1 z hk1) (fun z => by subst z; exact m6 h k1 (by omega))) (lv_sub hl [1, 2, 0] rfl) hP hD hS
                        · refine lv_aload_n hx hb dX7_close_53 rfl (lv_at hl 0 rfl) ?_
                          refine lv_aload_n hx hb dX7_close_54 rfl (lv_at hl 0 rfl) ?_
                          refine va_get (D := D) (ci := 7) (v := .ref (md 8)) (C := RX7) (T := TX7) (N := 20) hx hb hts hiX7 hown hK hP 0 rfl rfl 9 (by decide) hf32 (fun _ h9 => h9) rfl dX7_close_55 ?_
                          refine lv_iload_n hx hb dX7_close_58 rfl (lv_at hl 2 rfl) ?_
                          refine ctR_V (As := [.ref (md 8), .int (nI i)]) (rest := []) (r := .int (nI (metq q C1 i))) ⟨hx, hb, hml, hown, hts⟩ (c_X7_met l D cI cZ md q w su po xs ys zs hM (md 8) C1 i (by omega)) (cwV 2 hts gX7_close_X7_met rfl rfl rfl hdV_X7_met ⟨Nat.le_of_ble_eq_true rfl, Nat.le_of_ble_eq_true rfl⟩) hK hN hP [0, 1, 2, 3, 4, 5, 7] rfl 0 7 rfl rfl rfl hl.1 rfl (Nat.le_of_ble_eq_true rfl) ⟨Nat.zero_le _, Nat.zero_le _⟩ dX7_close_59 ?_
                          have hh_1 : metq q C1 i ≤ nn q := cnt_le _ _
                          refine lv_iconst (v := nI 1) hx hb dX7_close_62 (by decide) ?_
                          refine nv_icmp_le (tgt := 115) hx hb (by omega) (by decide) dX7_close_63 (by decide) (fun c63 => ?_) (fun c63 => ?_)
                          · refine lv_iinc (v := nI (j + 1)) (lv' := [(3, .int (nI (j + 1))), (0, .ref (md 0)), (1, .int (nI (y).toNat)), (2, .int (nI i))]) hx hb dX7_close_115 hl (k := 3) rfl (nI_inc j) (by decide) rfl (fun ls hl => ?_)
                            refine lv_goto (tgt := 48) hx hb dX7_close_118 (by decide) ?_
                            exact ih48 y (j + 1) C1 ls _ _ (by omega) (by omega) m1 m2 m3 m4 m5 (fun h k1 hk1 x1 x2 => (Nat.lt_succ_iff_lt_or_eq.mp hk1).elim (fun z => m6 h k1 z x1 x2) (fun z => by subst z; exact absurd x1 (by omega))) (lv_sub hl [1, 2, 3, 0] rfl) hP hD hS
                          · refine lv_aload_n hx hb dX7_close_66 rfl (lv_at hl 0 rfl) ?_
                            refine lv_aload_n hx hb dX7_close_67 rfl (lv_at hl 0 rfl) ?_
                            refine va_get (D := D) (ci := 7) (v := .ref (md 8)) (C := RX7) (T := TX7) (N := 20) hx hb hts hiX7 hown hK hP 0 rfl rfl 9 (by decide) hf32 (fun _ h9 => h9) rfl dX7_close_68 ?_
                            refine lv_iload_n hx hb dX7_close_71 rfl (lv_at hl 3 rfl) ?_
                            refine ctR_V (As := [.ref (md 8), .int (nI j)]) (rest := []) (r := .int (nI (metq q C1 j))) ⟨hx, hb, hml, hown, hts⟩ (c_X7_met l D cI cZ md q w su po xs ys zs hM (md 8) C1 j (by omega)) (cwV 2 hts gX7_close_X7_met rfl rfl rfl hdV_X7_met ⟨Nat.le_of_ble_eq_true rfl, Nat.le_of_ble_eq_true rfl⟩) hK hN hP [0, 1, 2, 3, 4, 5, 7] rfl 0 7 rfl rfl rfl hl.1 rfl (Nat.le_of_ble_eq_true rfl) ⟨Nat.zero_le _, Nat.zero_le _⟩ dX7_close_72 ?_
                            have hh_2 : metq q C1 j ≤ nn q := cnt_le _ _
                            refine lv_iconst (v := nI 1) hx hb dX7_close_75 (by decide) ?_
                            refine nv_icmp_le (tgt := 115) hx hb (by omega) (by decide) dX7_close_76 (by decide) (fun c76 => ?_) (fun c76 => ?_)
                            · refine lv_iinc (v := nI (j + 1)) (lv' := [(3, .int (nI (j + 1))), (0, .ref (md 0)), (1, .int (nI (y).toNat)), (2, .int (nI i))]) hx hb dX7_close_115 hl (k := 3) rfl (nI_inc j) (by decide) rfl (fun ls hl => ?_)
                              refine lv_goto (tgt := 48) hx hb dX7_close_118 (by decide) ?_
                              exact ih48 y (j + 1) C1 ls _ _ (by omega) (by omega) m1 m2 m3 m4 m5 (fun h k1 hk1 x1 x2 => (Nat.lt_succ_iff_lt_or_eq.mp hk1).elim (fun z => m6 h k1 z x1 x2) (fun z => by subst z; exact absurd x2 (by omega))) (lv_sub hl [1, 2, 3, 0] rfl) hP hD hS
                            · refine lv_aload_n hx hb dX7_close_79 rfl (lv_at hl 0 rfl) ?_
                              refine lv_iload_n hx hb dX7_close_80 rfl (lv_at hl 2 rfl) ?_
                              refine lv_iload_n hx hb dX7_close_81 rfl (lv_at hl 3 rfl) ?_
                              refine ctR_V (As := [.int (nI i), .int (nI j)]) (rest := []) (r := .int (nI (joinq q i j))) ⟨hx, hb, hml, hown, hts⟩ (c_X7_joinOf l D cI cZ md q w su po xs ys zs hM i j (by omega) (by omega) (by omega)) (cwV 2 hts gX7_close_X7_joinOf rfl rfl rfl hdV_X7_joinOf ⟨Nat.le_of_ble_eq_true rfl, Nat.le_of_ble_eq_true rfl⟩) hK hN hP [0, 1, 2, 3, 4, 5] rfl 0 7 rfl rfl rfl hl.1 rfl (Nat.le_of_ble_eq_true rfl) ⟨Nat.zero_le _, Nat.zero_le _⟩ dX7_close_82 ?_
                              have hh_3 : joinq q i j < nn q := (join_ok hM.1 (by omega) (by omega) (by omega)).1
                              refine lv_istore (lv' := [(4, .int (nI (joinq q i j))), (0, .ref (md 0)), (1, .int (nI (y).toNat)), (2, .int (nI i)), (3, .int (nI j))]) hx hb dX7_close_85 hl (by decide) rfl (fun ls hl => ?_)
                              refine lv_iload_n hx hb dX7_close_87 rfl (lv_at hl 2 rfl) ?_
                              refine nv_ifb_ne (tgt := 101) hx hb dX7_close_88 (by decide) (fun c88 => ?_) (fun c88 => ?_)
                              · refine lv_iconst (v := nI 1) hx hb dX7_close_101 (by decide) ?_
                                refine lv_goto (tgt := 106) hx hb dX7_close_102 (by decide) ?_
                                refine lv_istore_n (lv' := [(1, .int (nI 1)), (4, .int (nI (joinq q i j))), (0, .ref (md 0)), (2, .int (nI i)), (3, .int (nI j))]) hx hb dX7_close_106 rfl hl (by decide) rfl (fun ls hl => ?_)
                                refine lv_aload_n hx hb dX7_close_107 rfl (lv_at hl 2 rfl) ?_
                                refine va_get (D := D) (ci := 7) (v := .ref (md 8)) (C := RX7) (T := TX7) (N := 20) hx hb hts hiX7 hown hK hP 0 rfl rfl 9 (by decide) hf32 (fun _ h9 => h9) rfl dX7_close_108 ?_
                                refine lv_iload hx hb dX7_close_111 (lv_at hl 1 rfl) ?_
                                refine lv_iconst (v := nI 1) hx hb dX7_close_113 (by decide) ?_
                                refine nv_zast hx hb hK hP hD hS 7 1 rfl rfl true (by omega) (by decide) dX7_close_114 (fun H locs hP hD hS => ?_)
                                have hP : va_P D vwCl [(md 0, .inr (7, [.int (nI q), .int (nI (nn q)), .ref (md 1), .ref (md 2), .ref (md 3), .ref (md 4), .ref (md 5), .ref (md 6), .ref (md 7), .ref (md 8), .ref (md 9), .ref (md 10), .ref (md 11), .ref (md 12), .ref (md 13), .ref (md 14), .ref (md 15), .ref (md 16), .int (nI w), .ref (md 17)])), (md 1, .inl (cI, 81, .inl (nF su))), (md 2, .inl (cI, 81, .inl (nF po))), (md 3, .inl (cI, 91, .inl (nF xs))), (md 4, .inl (cI, 91, .inl (nF ys))), (md 5, .inl (cI, 91, .inl (nF zs))), (md 6, .inl (cZ, 91, .inl (bF S))), (md 8, .inl (cZ, 91, .inl (bF (upB C1 (joinq q i j) true))))] H := hP
                                have hD : va_D A [(md 0, .inr (7, [.int (nI q), .int (nI (nn q)), .ref (md 1), .ref (md 2), .ref (md 3), .ref (md 4), .ref (md 5), .ref (md 6), .ref (md 7), .ref (md 8), .ref (md 9), .ref (md 10), .ref (md 11), .ref (md 12), .ref (md 13), .ref (md 14), .ref (md 15), .ref (md 16), .int (nI w), .ref (md 17)])), (md 1, .inl (cI, 81, .inl (nF su))), (md 2, .inl (cI, 81, .inl (nF po))), (md 3, .inl (cI, 91, .inl (nF xs))), (md 4, .inl (cI, 91, .inl (nF ys))), (md 5, .inl (cI, 91, .inl (nF zs))), (md 6, .inl (cZ, 91, .inl (bF S))), (md 8, .inl (cZ, 91, .inl (bF (upB C1 (joinq q i j) true))))] := hD
                                refine lv_iinc (v := nI (j + 1)) (lv' := [(3, .int (nI (j + 1))), (1, .int (nI 1)), (4, .int (nI (joinq q i j))), (0, .ref (md 0)), (2, .int (nI i))]) hx hb dX7_close_115 hl (k := 4) rfl (nI_inc j) (by decide) rfl (fun ls hl => ?_)
                                refine lv_goto (tgt := 48) hx hb dX7_close_118 (by decide) ?_
                                exact ih48 true (j + 1) (upB C1 (joinq q i j) true) ls _ _ (by omega) (by omega) (fun t ht h => up_sub t ht (m1 t ht h)) (clo_add hM.1 m2 c43 c50 c63 c76) (Nat.le_trans m3 (cnt_sub up_sub)) (fun _ => Nat.lt_of_lt_of_le (m4 c88) (cnt_sub up_sub)) (fun h => by cases h) (fun h => by cases h) (lv_sub hl [3, 1, 4, 0] rfl) hP hD hS
                              · refine lv_aload_n hx hb dX7_close_91 rfl (lv_at hl 1 rfl) ?_
                                refine va_get (D := D) (ci := 7) (v := .ref (md 8)) (C := RX7) (T := TX7) (N := 20) hx hb hts hiX7 hown hK hP 0 rfl rfl 9 (by decide) hf32 (fun _ h9 => h9) rfl dX7_close_92 ?_
                                refine lv_iload hx hb dX7_close_95 (lv_at hl 0 rfl) ?_
                                refine nv_zald hx hb hK hP 7 1 rfl rfl (by omega) (by decide) dX7_close_97 ?_
                                refine nv_ifb_ne (tgt := 105) hx hb dX7_close_98 (by decide) (fun c98 => ?_) (fun c98 => ?_)
                                · refine lv_iconst (v := nI 0) hx hb dX7_close_105 (by decide) ?_
                                  refine lv_istore_n (lv' := [(1, .int (nI 0)), (4, .int (nI (joinq q i j))), (0, .ref (md 0)), (2, .int (nI i)), (3, .int (nI j))]) hx hb dX7_close_106 rfl hl (by decide) rfl (fun ls hl => ?_)
                                  refine lv_aload_n hx hb dX7_close_107 rfl (lv_at hl 2 rfl) ?_
                                  refine va_get (D := D) (ci := 7) (v := .ref (md 8)) (C := RX7) (T := TX7) (N := 20) hx hb hts hiX7 hown hK hP 0 rfl rfl 9 (by decide) hf32 (fun _ h9 => h9) rfl dX7_close_108 ?_
                                  refine lv_iload hx hb dX7_close_111 (lv_at hl 1 rfl) ?_
                                  refine lv_iconst (v := nI 1) hx hb dX7_close_113 (by decide) ?_
                                  refine nv_zast hx hb hK hP hD hS 7 1 rfl rfl true (by omega) (by decide) dX7_close_114 (fun H locs hP hD hS => ?_)
                                  have hP : va_P D vwCl [(md 0, .inr (7, [.int (nI q), .int (nI (nn q)), .ref (md 1), .ref (md 2), .ref (md 3), .ref (md 4), .ref (md 5), .ref (md 6), .ref (md 7), .ref (md 8), .ref (md 9), .ref (md 10), .ref (md 11), .ref (md 12), .ref (md 13), .ref (md 14), .ref (md 15), .ref (md 16), .int (nI w), .ref (md 17)])), (md 1, .inl (cI, 81, .inl (nF su))), (md 2, .inl (cI, 81, .inl (nF po))), (md 3, .inl (cI, 91, .inl (nF xs))), (md 4, .inl (cI, 91, .inl (nF ys))), (md 5, .inl (cI, 91, .inl (nF zs))), (md 6, .inl (cZ, 91, .inl (bF S))), (md 8, .inl (cZ, 91, .inl (bF (upB C1 (joinq q i j) true))))] H := hP
                                  have hD : va_D A [(md 0, .inr (7, [.int (nI q), .int (nI (nn q)), .ref (md 1), .ref (md 2), .ref (md 3), .ref (md 4), .ref (md 5), .ref (md 6), .ref (md 7), .ref (md 8), .ref (md 9), .ref (md 10), .ref (md 11), .ref (md 12), .ref (md 13), .ref (md 14), .ref (md 15), .ref (md 16), .int (nI w), .ref (md 17)])), (md 1, .inl (cI, 81, .inl (nF su))), (md 2, .inl (cI, 81, .inl (nF po))), (md 3, .inl (cI, 91, .inl (nF xs))), (md 4, .inl (cI, 91, .inl (nF ys))), (md 5, .inl (cI, 91, .inl (nF zs))), (md 6, .inl (cZ, 91, .inl (bF S))), (md 8, .inl (cZ, 91, .inl (bF (upB C1 (joinq q i j) true))))] := hD
                                  refine lv_iinc (v := nI (j + 1)) (lv' := [(3, .int (nI (j + 1))), (1, .int (nI 0)), (4, .int (nI (joinq q i j))), (0, .ref (md 0)), (2, .int (nI i))]) hx hb dX7_close_115 hl (k := 4) rfl (nI_inc j) (by decide) rfl (fun ls hl => ?_)
                                  refine lv_goto (tgt := 48) hx hb dX7_close_118 (by decide) ?_
                                  exact ih48 false (j + 1) (upB C1 (joinq q i j) true) ls _ _ (by omega) (by omega) (fun t ht h => up_sub t ht (m1 t ht h)) (clo_add hM.1 m2 c43 c50 c63 c76) (Nat.le_trans m3 (cnt_sub up_sub)) (fun h => by cases h) (fun _ => by rw [upB_same c98]; exact m5 c88) (fun _ k1 hk1 x1 x2 => by rw [upB_same c98] at x1 x2 ⊢; exact (Nat.lt_succ_iff_lt_or_eq.mp hk1).elim (fun z => m6 c88 k1 z x1 x2) (fun z => by subst z; exact c98)) (lv_sub hl [3, 1, 4, 0] rfl) hP hD hS
                                · refine lv_iconst (v := nI 1) hx hb dX7_close_101 (by decide) ?_
                                  refine lv_goto (tgt := 106) hx hb dX7_close_102 (by decide) ?_
                                  refine lv_istore_n (lv' := [(1, .int (nI 1)), (4, .int (nI (joinq q i j))), (0, .ref (md 0)), (2, .int (nI i)), (3, .int (nI j))]) hx hb dX7_close_106 rfl hl (by decide) rfl (fun ls hl => ?_)
                                  refine lv_aload_n hx hb dX7_close_107 rfl (lv_at hl 2 rfl) ?_
                                  refine va_get (D := D) (ci := 7) (v := .ref (md 8)) (C := RX7) (T := TX7) (N := 20) hx hb hts hiX7 hown hK hP 0 rfl rfl 9 (by decide) hf32 (fun _ h9 => h9) rfl dX7_close_108 ?_
                                  refine lv_iload hx hb dX7_close_111 (lv_at hl 1 rfl) ?_
                                  refine lv_iconst (v := nI 1) hx hb dX7_close_113 (by decide) ?_
                                  refine nv_zast hx hb hK hP hD hS 7 1 rfl rfl true (by omega) (by decide) dX7_close_114 (fun H locs hP hD hS => ?_)
                                  have hP : va_P D vwCl [(md 0, .inr (7, [.int (nI q), .int (nI (nn q)), .ref (md 1), .ref (md 2), .ref (md 3), .ref (md 4), .ref (md 5), .ref (md 6), .ref (md 7), .ref (md 8), .ref (md 9), .ref (md 10), .ref (md 11), .ref (md 12), .ref (md 13), .ref (md 14), .ref (md 15), .ref (md 16), .int (nI w), .ref (md 17)])), (md 1, .inl (cI, 81, .inl (nF su))), (md 2, .inl (cI, 81, .inl (nF po))), (md 3, .inl (cI, 91, .inl (nF xs))), (md 4, .inl (cI, 91, .inl (nF ys))), (md 5, .inl (cI, 91, .inl (nF zs))), (md 6, .inl (cZ, 91, .inl (bF S))), (md 8, .inl (cZ, 91, .inl (bF (upB C1 (joinq q i j) true))))] H := hP
                                  have hD : va_D A [(md 0, .inr (7, [.int (nI q), .int (nI (nn q)), .ref (md 1), .ref (md 2), .ref (md 3), .ref (md 4), .ref (md 5), .ref (md 6), .ref (md 7), .ref (md 8), .ref (md 9), .ref (md 10), .ref (md 11), .ref (md 12), .ref (md 13), .ref (md 14), .ref (md 15), .ref (md 16), .int (nI w), .ref (md 17)])), (md 1, .inl (cI, 81, .inl (nF su))), (md 2, .inl (cI, 81, .inl (nF po))), (md 3, .inl (cI, 91, .inl (nF xs))), (md 4, .inl (cI, 91, .inl (nF ys))), (md 5, .inl (cI, 91, .inl (nF zs))), (md 6, .inl (cZ, 91, .inl (bF S))), (md 8, .inl (cZ, 91, .inl (bF (upB C1 (joinq q i j) true))))] := hD
                                  refine lv_iinc (v := nI (j + 1)) (lv' := [(3, .int (nI (j + 1))), (1, .int (nI 1)), (4, .int (nI (joinq q i j))), (0, .ref (md 0)), (2, .int (nI i))]) hx hb dX7_close_115 hl (k := 4) rfl (nI_inc j) (by decide) rfl (fun ls hl => ?_)
                                  refine lv_goto (tgt := 48) hx hb dX7_close_118 (by decide) ?_
                                  exact ih48 true (j + 1) (upB C1 (joinq q i j) true) ls _ _ (by omega) (by omega) (fun t ht h => up_sub t ht (m1 t ht h)) (clo_add hM.1 m2 c43 c50 c63 c76) (Nat.le_trans m3 (cnt_sub up_sub)) (fun _ => Nat.lt_of_le_of_lt m3 (it_grow.cnt_strict up_sub (by omega) c98 upB_s)) (fun h => by cases h) (fun h => by cases h) (lv_sub hl [3, 1, 4, 0] rfl) hP hD hS
                    exact L48 (i - 0 + 1) y 0 C1 ls _ _ (by omega) (Nat.zero_le _) m1 m2 m3 m4 m5 (fun _ k1 h => absurd h (Nat.not_lt_zero k1)) (lv_sub hl [1, 2, 3, 0] rfl) hP hD hS
              exact L38 (nn q - 0 + 1) false 0 C ls _ _ (by omega) (Nat.zero_le _) a1 a2 (Nat.le_refl _) (fun h => by cases h) (fun _ l1 _ h => absurd h (Nat.not_lt_zero l1)) (lv_sub hl [2, 1, 0] rfl) hP hD hS
        exact L30 (clM true G1 (nn q) + 1) true G1 ls _ _ (by omega) (fun t ht h => by rw [k_s t (by omega)]; exact h) (fun t ht h => clo_sub (nn q) t ht (by rw [← k_s t (by omega)]; exact h)) (fun h => by cases h) (lv_sub hl [1, 0] rfl) hP hD hS
      · refine lv_aload_n hx hb dX7_close_10 rfl (lv_at hl 0 rfl) ?_
        refine va_get (D := D) (ci := 7) (v := .ref (md 8)) (C := RX7) (T := TX7) (N := 20) hx hb hts hiX7 hown hK hP 0 rfl rfl 9 (by decide) hf32 (fun _ h9 => h9) rfl dX7_close_11 ?_
        refine lv_iload_n hx hb dX7_close_14 rfl (lv_at hl 1 rfl) ?_
        refine lv_aload_n hx hb dX7_close_15 rfl (lv_at hl 0 rfl) ?_
        refine va_get (D := D) (ci := 7) (v := .ref (md 6)) (C := RX7) (T := TX7) (N := 20) hx hb hts hiX7 hown hK hP 0 rfl rfl 7 (by decide) hf25 (fun _ h9 => h9) rfl dX7_close_16 ?_
        refine lv_iload_n hx hb dX7_close_19 rfl (lv_at hl 1 rfl) ?_
        refine nv_zald hx hb hK hP 6 1 rfl rfl (by omega) (by decide) dX7_close_20 ?_
        refine nv_zast hx hb hK hP hD hS 7 1 rfl rfl (S i) (by omega) (by decide) dX7_close_21 (fun H locs hP hD hS => ?_)
        have hP : va_P D vwCl [(md 0, .inr (7, [.int (nI q), .int (nI (nn q)), .ref (md 1), .ref (md 2), .ref (md 3), .ref (md 4), .ref (md 5), .ref (md 6), .ref (md 7), .ref (md 8), .ref (md 9), .ref (md 10), .ref (md 11), .ref (md 12), .ref (md 13), .ref (md 14), .ref (md 15), .ref (md 16), .int (nI w), .ref (md 17)])), (md 1, .inl (cI, 81, .inl (nF su))), (md 2, .inl (cI, 81, .inl (nF po))), (md 3, .inl (cI, 91, .inl (nF xs))), (md 4, .inl (cI, 91, .inl (nF ys))), (md 5, .inl (cI, 91, .inl (nF zs))), (md 6, .inl (cZ, 91, .inl (bF S))), (md 8, .inl (cZ, 91, .inl (bF (upB G1 i (S i)))))] H := hP
        have hD : va_D A [(md 0, .inr (7, [.int (nI q), .int (nI (nn q)), .ref (md 1), .ref (md 2), .ref (md 3), .ref (md 4), .ref (md 5), .ref (md 6), .ref (md 7), .ref (md 8), .ref (md 9), .ref (md 10), .ref (md 11), .ref (md 12), .ref (md 13), .ref (md 14), .ref (md 15), .ref (md 16), .int (nI w), .ref (md 17)])), (md 1, .inl (cI, 81, .inl (nF su))), (md 2, .inl (cI, 81, .inl (nF po))), (md 3, .inl (cI, 91, .inl (nF xs))), (md 4, .inl (cI, 91, .inl (nF ys))), (md 5, .inl (cI, 91, .inl (nF zs))), (md 6, .inl (cZ, 91, .inl (bF S))), (md 8, .inl (cZ, 91, .inl (bF (upB G1 i (S i)))))] := hD
        refine lv_iinc (v := nI (i + 1)) (lv' := [(1, .int (nI (i + 1))), (0, .ref (md 0))]) hx hb dX7_close_22 hl (k := 1) rfl (nI_inc i) (by decide) rfl (fun ls hl => ?_)
        refine lv_goto (tgt := 2) hx hb dX7_close_25 (by decide) ?_
        exact ih2 (i + 1) (upB G1 i (S i)) ls _ _ (by omega) (by omega) (fun t ht => (Nat.lt_succ_iff_lt_or_eq.mp ht).elim (fun h => by rw [upB_n (by omega)]; exact k_s t h) (fun h => by rw [h, upB_s])) (lv_sub hl [1, 0] rfl) hP hD hS
  exact L2 (nn q - 0 + 1) 0 cd ls _ _ (by omega) (Nat.zero_le _) (fun t h => absurd h (Nat.not_lt_zero t)) (lv_sub hl [1, 0] rfl) hP hD hS

set_option maxHeartbeats 4000000 in
set_option maxRecDepth 100000 in
theorem c_X7_closure (l : Launch) (D : va_G) (cI cZ : ClassId) (md : Nat → Nat) (q : Nat) (w : Nat) (su : Nat → Nat) (po : Nat → Nat) (xs : Nat → Nat) (ys : Nat → Nat) (zs : Nat → Nat) (hM : MOK q su po xs ys zs) (S : Nat → Bool) (cd : Nat → Bool) (k : Int32) : CtW (S := (Nat → Bool)) l yX7_closure wsX7_closure { frames := 4, cells := 0, slots := 0, locals := 92 } D (tyG cI cZ) [.ref (md 0), .int k] [(md 0, .inr (7, [.int (nI q), .int (nI (nn q)), .ref (md 1), .ref (md 2), .ref (md 3), .ref (md 4), .ref (md 5), .ref (md 6), .ref (md 7), .ref (md 8), .ref (md 9), .ref (md 10), .ref (md 11), .ref (md 12), .ref (md 13), .ref (md 14), .ref (md 15), .ref (md 16), .int (nI w), .ref (md 17)])), (md 1, .inl (cI, 81, .inl (nF su))), (md 2, .inl (cI, 81, .inl (nF po))), (md 3, .inl (cI, 91, .inl (nF xs))), (md 4, .inl (cI, 91, .inl (nF ys))), (md 5, .inl (cI, 91, .inl (nF zs))), (md 6, .inl (cZ, 91, .inl (bF S))), (md 8, .inl (cZ, 91, .inl (bF cd)))] (fun (cd3 : Nat → Bool) => True) (fun (cd3 : Nat → Bool) => some (.int (pickZ (cloq q S) (nn q) k))) (fun (cd3 : Nat → Bool) => [(md 0, .inr (7, [.int (nI q), .int (nI (nn q)), .ref (md 1), .ref (md 2), .ref (md 3), .ref (md 4), .ref (md 5), .ref (md 6), .ref (md 7), .ref (md 8), .ref (md 9), .ref (md 10), .ref (md 11), .ref (md 12), .ref (md 13), .ref (md 14), .ref (md 15), .ref (md 16), .int (nI w), .ref (md 17)])), (md 1, .inl (cI, 81, .inl (nF su))), (md 2, .inl (cI, 81, .inl (nF po))), (md 3, .inl (cI, 91, .inl (nF xs))), (md 4, .inl (cI, 91, .inl (nF ys))), (md 5, .inl (cI, 91, .inl (nF zs))), (md 6, .inl (cZ, 91, .inl (bF S))), (md 8, .inl (cZ, 91, .inl (bF cd3)))]) := by
  intro sz; refine Met.ofW (cc := cX7_closure) (maxL := 2) (ret := some .int) (by decide) rfl ?_
  intro p e s m args below meth c s₁ B hml hv
  obtain ⟨rfl, hsz, hP, hK, hD0, hN⟩ := hv
  have hx := B.exec
  have hb := B.bytes
  have hr := B.returns
  have hts := atoms_spec (ws := wsX7_closure) B.pre
  have hown : s.vm.findClass RX7 = some m.cls := findClass_of_methodNamed B.named
  have hlocks := B.notSynchronized
  subst hsz
  have hD := hD0.self (sz := s.heap.size)
  generalize hAe : va_A [(md 0, .inr (7, [.int (nI q), .int (nI (nn q)), .ref (md 1), .ref (md 2), .ref (md 3), .ref (md 4), .ref (md 5), .ref (md 6), .ref (md 7), .ref (md 8), .ref (md 9), .ref (md 10), .ref (md 11), .ref (md 12), .ref (md 13), .ref (md 14), .ref (md 15), .ref (md 16), .int (nI w), .ref (md 17)])), (md 1, .inl (cI, 81, .inl (nF su))), (md 2, .inl (cI, 81, .inl (nF po))), (md 3, .inl (cI, 91, .inl (nF xs))), (md 4, .inl (cI, 91, .inl (nF ys))), (md 5, .inl (cI, 91, .inl (nF zs))), (md 6, .inl (cZ, 91, .inl (bF S))), (md 8, .inl (cZ, 91, .inl (bF cd)))] s.heap.size = A at hD ⊢
  have hA : ∀ q : Nat, s.heap.size ≤ q → A q := fun q h => by rw [← hAe]; exact Or.inr h
  have hS : va_S A s.heap s.heap [] := va_S.rf
  have hP : va_P D vwCl [(md 0, .inr (7, [.int (nI q), .int (nI (nn q)), .ref (md 1), .ref (md 2), .ref (md 3), .ref (md 4), .ref (md 5), .ref (md 6), .ref (md 7), .ref (md 8), .ref (md 9), .ref (md 10), .ref (md 11), .ref (md 12), .ref (md 13), .ref (md 14), .ref (md 15), .ref (md 16), .int (nI w), .ref (md 17)])), (md 1, .inl (cI, 81, .inl (nF su))), (md 2, .inl (cI, 81, .inl (nF po))), (md 3, .inl (cI, 91, .inl (nF xs))), (md 4, .inl (cI, 91, .inl (nF ys))), (md 5, .inl (cI, 91, .inl (nF zs))), (md 6, .inl (cZ, 91, .inl (bF S))), (md 8, .inl (cZ, 91, .inl (bF cd)))] s.heap := hP
  have hf32 := hts (.fieldLink RX7 32 "FinitePlanesModel" "closed" "[Z") (by decide +kernel)
  have hiX7 : ∀ w ∈ u_ws RX7 TX7 20, w ∈ wsX7_closure := by decide +kernel
  have hl := lv_entry ([.ref (md 0), .int k]) (n := 2) (Nat.le_of_ble_eq_true rfl)
  rw [lg_entry_eq]
  generalize (lg_sl ([.ref (md 0), .int k]) ++ List.replicate (2 - (lg_sl ([.ref (md 0), .int k])).length) Slot.unset).toArray = ls at hl ⊢
  have hl : lv_has ls 2 [(0, .ref (md 0)), (1, .int k)] := hl
  have hq2 := qs_le hM.1
  have hn2 := nn_le hM.1
  refine lv_aload_n hx hb dX7_closure_0 rfl (lv_at hl 0 rfl) ?_
  refine ctW_V (As := []) (rest := []) (wr := []) ⟨hx, hb, hml, hown, hts⟩ (c_X7_close l D cI cZ md q w su po xs ys zs hM S cd) (cwV 0 hts gX7_closure_X7_close rfl rfl rfl hdV_X7_close ⟨Nat.le_of_ble_eq_true rfl, Nat.le_of_ble_eq_true rfl⟩) hK hN hP hD hS hA [0, 1, 2, 3, 4, 5, 6, 7] [] rfl rfl rfl (by decide) (by decide) (by decide) 0 7 rfl rfl rfl hl.1 rfl (Nat.le_of_ble_eq_true rfl) ⟨Nat.zero_le _, Nat.zero_le _⟩ dX7_closure_1 (fun cd_1 H locs hu1 hP hD hS => ?_)
  try dsimp only at hu1
  have hP : va_P D vwCl [(md 0, .inr (7, [.int (nI q), .int (nI (nn q)), .ref (md 1), .ref (md 2), .ref (md 3), .ref (md 4), .ref (md 5), .ref (md 6), .ref (md 7), .ref (md 8), .ref (md 9), .ref (md 10), .ref (md 11), .ref (md 12), .ref (md 13), .ref (md 14), .ref (md 15), .ref (md 16), .int (nI w), .ref (md 17)])), (md 1, .inl (cI, 81, .inl (nF su))), (md 2, .inl (cI, 81, .inl (nF po))), (md 3, .inl (cI, 91, .inl (nF xs))), (md 4, .inl (cI, 91, .inl (nF ys))), (md 5, .inl (cI, 91, .inl (nF zs))), (md 6, .inl (cZ, 91, .inl (bF S))), (md 8, .inl (cZ, 91, .inl (bF cd_1)))] H := hP.sub [0, 1, 2, 3, 4, 5, 6, 7] rfl
  have hD : va_D A [(md 0, .inr (7, [.int (nI q), .int (nI (nn q)), .ref (md 1), .ref (md 2), .ref (md 3), .ref (md 4), .ref (md 5), .ref (md 6), .ref (md 7), .ref (md 8), .ref (md 9), .ref (md 10), .ref (md 11), .ref (md 12), .ref (md 13), .ref (md 14), .ref (md 15), .ref (md 16), .int (nI w), .ref (md 17)])), (md 1, .inl (cI, 81, .inl (nF su))), (md 2, .inl (cI, 81, .inl (nF po))), (md 3, .inl (cI, 91, .inl (nF xs))), (md 4, .inl (cI, 91, .inl (nF ys))), (md 5, .inl (cI, 91, .inl (nF zs))), (md 6, .inl (cZ, 91, .inl (bF S))), (md 8, .inl (cZ, 91, .inl (bF cd_1)))] := hD.sub [0, 1, 2, 3, 4, 5, 6, 7] (by decide) rfl
  refine W.eq (g2 := F0 m 4 ls []) rfl ?_
  refine lv_aload_n hx hb dX7_closure_4 rfl (lv_at hl 0 rfl) ?_
  refine lv_aload_n hx hb dX7_closure_5 rfl (lv_at hl 0 rfl) ?_
  refine va_get (D := D) (ci := 7) (v := .ref (md 8)) (C := RX7) (T := TX7) (N := 20) hx hb hts hiX7 hown hK hP 0 rfl rfl 9 (by decide) hf32 (fun _ h9 => h9) rfl dX7_closure_6 ?_
  refine lv_iload_n hx hb dX7_closure_9 rfl (lv_at hl 1 rfl) ?_
  refine ctR_V (As := [.ref (md 8), .int k]) (rest := []) (r := .int (pickZ cd_1 (nn q) k)) ⟨hx, hb, hml, hown, hts⟩ (c_X7_memberOf l D cI cZ md q w su po xs ys zs hM (md 8) cd_1 k) (cwV 2 hts gX7_closure_X7_memberOf rfl rfl rfl hdV_X7_memberOf ⟨Nat.le_of_ble_eq_true rfl, Nat.le_of_ble_eq_true rfl⟩) hK hN hP [0, 1, 2, 3, 4, 5, 7] rfl 0 7 rfl rfl rfl hl.1 rfl (Nat.le_of_ble_eq_true rfl) ⟨Nat.zero_le _, Nat.zero_le _⟩ dX7_closure_10 ?_
  exact ctW_retI (v := (pickZ cd_1 (nn q) k)) cd_1 hx hb hr rfl dX7_closure_13 hlocks hS hP hD trivial (by rw [pick_congr hu1])

set_option maxHeartbeats 4000000 in
set_option maxRecDepth 100000 in
theorem c_X7_is (l : Launch) (D : va_G) (cI cZ : ClassId) (md : Nat → Nat) (q : Nat) (w : Nat) (su : Nat → Nat) (po : Nat → Nat) (xs : Nat → Nat) (ys : Nat → Nat) (zs : Nat → Nat) (hM : MOK q su po xs ys zs) (S : Nat → Bool) (cd : Nat → Bool) (x1 : Int32) : CtW (S := (Nat → Bool)) l yX7_is wsX7_is { frames := 5, cells := 0, slots := 0, locals := 113 } D (tyG cI cZ) [.ref (md 0), .int x1] [(md 0, .inr (7, [.int (nI q), .int (nI (nn q)), .ref (md 1), .ref (md 2), .ref (md 3), .ref (md 4), .ref (md 5), .ref (md 6), .ref (md 7), .ref (md 8), .ref (md 9), .ref (md 10), .ref (md 11), .ref (md 12), .ref (md 13), .ref (md 14), .ref (md 15), .ref (md 16), .int (nI w), .ref (md 17)])), (md 1, .inl (cI, 81, .inl (nF su))), (md 2, .inl (cI, 81, .inl (nF po))), (md 3, .inl (cI, 91, .inl (nF xs))), (md 4, .inl (cI, 91, .inl (nF ys))), (md 5, .inl (cI, 91, .inl (nF zs))), (md 6, .inl (cZ, 91, .inl (bF S))), (md 8, .inl (cZ, 91, .inl (bF cd)))] (fun (cd3 : Nat → Bool) => True) (fun (cd3 : Nat → Bool) => some (.int (isZ q S x1))) (fun (cd3 : Nat → Bool) => [(md 0, .inr (7, [.int (nI q), .int (nI (nn q)), .ref (md 1), .ref (md 2), .ref (md 3), .ref (md 4), .ref (md 5), .ref (md 6), .ref (md 7), .ref (md 8), .ref (md 9), .ref (md 10), .ref (md 11), .ref (md 12), .ref (md 13), .ref (md 14), .ref (md 15), .ref (md 16), .int (nI w), .ref (md 17)])), (md 1, .inl (cI, 81, .inl (nF su))), (md 2, .inl (cI, 81, .inl (nF po))), (md 3, .inl (cI, 91, .inl (nF xs))), (md 4, .inl (cI, 91, .inl (nF ys))), (md 5, .inl (cI, 91, .inl (nF zs))), (md 6, .inl (cZ, 91, .inl (bF S))), (md 8, .inl (cZ, 91, .inl (bF cd3)))]) := by
  intro sz; refine Met.ofW (cc := cX7_is) (maxL := 2) (ret := some .int) (by decide) rfl ?_
  intro p e s m args below meth c s₁ B hml hv
  obtain ⟨rfl, hsz, hP, hK, hD0, hN⟩ := hv
  have hx := B.exec
  have hb := B.bytes
  have hr := B.returns
  have hts := atoms_spec (ws := wsX7_is) B.pre
  have hown : s.vm.findClass RX7 = some m.cls := findClass_of_methodNamed B.named
  have hlocks := B.notSynchronized
  subst hsz
  have hD := hD0.self (sz := s.heap.size)
  generalize hAe : va_A [(md 0, .inr (7, [.int (nI q), .int (nI (nn q)), .ref (md 1), .ref (md 2), .ref (md 3), .ref (md 4), .ref (md 5), .ref (md 6), .ref (md 7), .ref (md 8), .ref (md 9), .ref (md 10), .ref (md 11), .ref (md 12), .ref (md 13), .ref (md 14), .ref (md 15), .ref (md 16), .int (nI w), .ref (md 17)])), (md 1, .inl (cI, 81, .inl (nF su))), (md 2, .inl (cI, 81, .inl (nF po))), (md 3, .inl (cI, 91, .inl (nF xs))), (md 4, .inl (cI, 91, .inl (nF ys))), (md 5, .inl (cI, 91, .inl (nF zs))), (md 6, .inl (cZ, 91, .inl (bF S))), (md 8, .inl (cZ, 91, .inl (bF cd)))] s.heap.size = A at hD ⊢
  have hA : ∀ q : Nat, s.heap.size ≤ q → A q := fun q h => by rw [← hAe]; exact Or.inr h
  have hS : va_S A s.heap s.heap [] := va_S.rf
  have hP : va_P D vwCl [(md 0, .inr (7, [.int (nI q), .int (nI (nn q)), .ref (md 1), .ref (md 2), .ref (md 3), .ref (md 4), .ref (md 5), .ref (md 6), .ref (md 7), .ref (md 8), .ref (md 9), .ref (md 10), .ref (md 11), .ref (md 12), .ref (md 13), .ref (md 14), .ref (md 15), .ref (md 16), .int (nI w), .ref (md 17)])), (md 1, .inl (cI, 81, .inl (nF su))), (md 2, .inl (cI, 81, .inl (nF po))), (md 3, .inl (cI, 91, .inl (nF xs))), (md 4, .inl (cI, 91, .inl (nF ys))), (md 5, .inl (cI, 91, .inl (nF zs))), (md 6, .inl (cZ, 91, .inl (bF S))), (md 8, .inl (cZ, 91, .inl (bF cd)))] s.heap := hP
  have hf25 := hts (.fieldLink RX7 25 "FinitePlanesModel" "isIn" "[Z") (by decide +kernel)
  have hf32 := hts (.fieldLink RX7 32 "FinitePlanesModel" "closed" "[Z") (by decide +kernel)
  have hiX7 : ∀ w ∈ u_ws RX7 TX7 20, w ∈ wsX7_is := by decide +kernel
  have hl := lv_entry ([.ref (md 0), .int x1]) (n := 2) (Nat.le_of_ble_eq_true rfl)
  rw [lg_entry_eq]
  generalize (lg_sl ([.ref (md 0), .int x1]) ++ List.replicate (2 - (lg_sl ([.ref (md 0), .int x1])).length) Slot.unset).toArray = ls at hl ⊢
  have hl : lv_has ls 2 [(0, .ref (md 0)), (1, .int x1)] := hl
  have hq2 := qs_le hM.1
  have hn2 := nn_le hM.1
  refine lv_iload_n hx hb dX7_is_0 rfl (lv_at hl 1 rfl) ?_
  rcases (show (x1).toInt = 0 ∨ (x1).toInt = 1 ∨ (x1).toInt = 2 ∨ (x1).toInt = 3 ∨ ((x1).toInt < 0 ∨ 3 < (x1).toInt) by omega) with sw | sw | sw | sw | sw
  · refine lv_tableIn (tgt := 32) hx hb dX7_is_1 (by omega) (by omega) (by rw [sw]; rfl) (by decide) ?_
    obtain rfl : x1 = nI 0 := toInt_nI (by decide) sw
    refine lv_aload_n hx hb dX7_is_32 rfl (lv_at hl 0 rfl) ?_
    refine lv_aload_n hx hb dX7_is_33 rfl (lv_at hl 0 rfl) ?_
    refine va_get (D := D) (ci := 7) (v := .ref (md 6)) (C := RX7) (T := TX7) (N := 20) hx hb hts hiX7 hown hK hP 0 rfl rfl 7 (by decide) hf25 (fun _ h9 => h9) rfl dX7_is_34 ?_
    refine ctR_V (As := [.ref (md 6)]) (rest := []) (r := .int (nI (arcq q S).toNat)) ⟨hx, hb, hml, hown, hts⟩ (c_X7_isArc l D cI cZ md q w su po xs ys zs hM (md 6) S) (cwV 1 hts gX7_is_X7_isArc rfl rfl rfl hdV_X7_isArc ⟨Nat.le_of_ble_eq_true rfl, Nat.le_of_ble_eq_true rfl⟩) hK hN hP [0, 1, 2, 3, 4, 5, 6] rfl 0 7 rfl rfl rfl hl.1 rfl (Nat.le_of_ble_eq_true rfl) ⟨Nat.zero_le _, Nat.zero_le _⟩ dX7_is_37 ?_
    refine nv_ifb_eq (tgt := 47) hx hb dX7_is_40 (by decide) (fun c40 => ?_) (fun c40 => ?_)
    · refine lv_iconst (v := nI 0) hx hb dX7_is_47 (by decide) ?_
      exact ctW_retI (v := (nI 0)) cd hx hb hr rfl dX7_is_48 hlocks hS hP hD trivial (by rw [isZ, if_pos rfl, c40]; rfl)
    · refine lv_iconst (v := nI 1) hx hb dX7_is_43 (by decide) ?_
      refine lv_goto (tgt := 48) hx hb dX7_is_44 (by decide) ?_
      exact ctW_retI (v := (nI 1)) cd hx hb hr rfl dX7_is_48 hlocks hS hP hD trivial (by rw [isZ, if_pos rfl, c40]; rfl)
  · refine lv_tableIn (tgt := 49) hx hb dX7_is_1 (by omega) (by omega) (by rw [sw]; rfl) (by decide) ?_
    obtain rfl : x1 = nI 1 := toInt_nI (by decide) sw
    refine lv_aload_n hx hb dX7_is_49 rfl (lv_at hl 0 rfl) ?_
    refine lv_aload_n hx hb dX7_is_50 rfl (lv_at hl 0 rfl) ?_
    refine va_get (D := D) (ci := 7) (v := .ref (md 6)) (C := RX7) (T := TX7) (N := 20) hx hb hts hiX7 hown hK hP 0 rfl rfl 7 (by decide) hf25 (fun _ h9 => h9) rfl dX7_is_51 ?_
    refine ctR_V (As := [.ref (md 6)]) (rest := []) (r := .int (nI (arcq q S).toNat)) ⟨hx, hb, hml, hown, hts⟩ (c_X7_isArc l D cI cZ md q w su po xs ys zs hM (md 6) S) (cwV 1 hts gX7_is_X7_isArc rfl rfl rfl hdV_X7_isArc ⟨Nat.le_of_ble_eq_true rfl, Nat.le_of_ble_eq_true rfl⟩) hK hN hP [0, 1, 2, 3, 4, 5, 6] rfl 0 7 rfl rfl rfl hl.1 rfl (Nat.le_of_ble_eq_true rfl) ⟨Nat.zero_le _, Nat.zero_le _⟩ dX7_is_54 ?_
    refine nv_ifb_eq (tgt := 71) hx hb dX7_is_57 (by decide) (fun c57 => ?_) (fun c57 => ?_)
    · refine lv_iconst (v := nI 0) hx hb dX7_is_71 (by decide) ?_
      exact ctW_retI (v := (nI 0)) cd hx hb hr rfl dX7_is_72 hlocks hS hP hD trivial (by first | (rw [isZ, if_neg (by decide), if_pos rfl, c57]; rfl) | (rw [isZ, if_neg (by decide), if_pos rfl, c57]; done) | (rw [isZ, if_neg (by decide), if_pos rfl, decide_eq_false c64, Bool.and_false]; rfl) | (rw [isZ, if_neg (by decide), if_pos rfl, decide_eq_false c64, Bool.and_false]; done) | (rw [isZ, if_neg (by decide), if_pos rfl, c57, decide_eq_true c64]; rfl) | (rw [isZ, if_neg (by decide), if_pos rfl, c57, decide_eq_true c64]; done))
    · refine lv_aload_n hx hb dX7_is_60 rfl (lv_at hl 0 rfl) ?_
      refine ctW_V (As := []) (rest := []) (wr := [(md 8, .inl (cZ, 91, .inl (bF cd)))]) ⟨hx, hb, hml, hown, hts⟩ (c_X7_comers l D cI cZ md q w su po xs ys zs hM S) (cwV 0 hts gX7_is_X7_comers rfl rfl rfl hdV_X7_comers ⟨Nat.le_of_ble_eq_true rfl, Nat.le_of_ble_eq_true rfl⟩) hK hN hP hD hS hA [0, 1, 2, 3, 4, 5, 6] [7] rfl rfl rfl (by decide) (by decide) (by decide) 0 7 rfl rfl rfl hl.1 rfl (Nat.le_of_ble_eq_true rfl) ⟨Nat.zero_le _, Nat.zero_le _⟩ dX7_is_61 (fun _ H locs hu61 hP hD hS => ?_)
      try dsimp only at hu61
      have hP : va_P D vwCl [(md 0, .inr (7, [.int (nI q), .int (nI (nn q)), .ref (md 1), .ref (md 2), .ref (md 3), .ref (md 4), .ref (md 5), .ref (md 6), .ref (md 7), .ref (md 8), .ref (md 9), .ref (md 10), .ref (md 11), .ref (md 12), .ref (md 13), .ref (md 14), .ref (md 15), .ref (md 16), .int (nI w), .ref (md 17)])), (md 1, .inl (cI, 81, .inl (nF su))), (md 2, .inl (cI, 81, .inl (nF po))), (md 3, .inl (cI, 91, .inl (nF xs))), (md 4, .inl (cI, 91, .inl (nF ys))), (md 5, .inl (cI, 91, .inl (nF zs))), (md 6, .inl (cZ, 91, .inl (bF S))), (md 8, .inl (cZ, 91, .inl (bF cd)))] H := hP.sub [1, 2, 3, 4, 5, 6, 7, 0] rfl
      have hD : va_D A [(md 0, .inr (7, [.int (nI q), .int (nI (nn q)), .ref (md 1), .ref (md 2), .ref (md 3), .ref (md 4), .ref (md 5), .ref (md 6), .ref (md 7), .ref (md 8), .ref (md 9), .ref (md 10), .ref (md 11), .ref (md 12), .ref (md 13), .ref (md 14), .ref (md 15), .ref (md 16), .int (nI w), .ref (md 17)])), (md 1, .inl (cI, 81, .inl (nF su))), (md 2, .inl (cI, 81, .inl (nF po))), (md 3, .inl (cI, 91, .inl (nF xs))), (md 4, .inl (cI, 91, .inl (nF ys))), (md 5, .inl (cI, 91, .inl (nF zs))), (md 6, .inl (cZ, 91, .inl (bF S))), (md 8, .inl (cZ, 91, .inl (bF cd)))] := hD.sub [1, 2, 3, 4, 5, 6, 7, 0] (by decide) rfl
      refine W.eq (g2 := F0 m 64 ls [.int (nI (newq q S))]) rfl ?_
      have hh_1 : newq q S ≤ nn q := newq_le
      refine nv_if_ne (tgt := 71) hx hb (by omega) dX7_is_64 (by decide) (fun c64 => ?_) (fun c64 => ?_)
      · refine lv_iconst (v := nI 0) hx hb dX7_is_71 (by decide) ?_
        exact ctW_retI (v := (nI 0)) cd hx hb hr rfl dX7_is_72 hlocks hS hP hD trivial (by first | (rw [isZ, if_neg (by decide), if_pos rfl, c57]; rfl) | (rw [isZ, if_neg (by decide), if_pos rfl, c57]; done) | (rw [isZ, if_neg (by decide), if_pos rfl, decide_eq_false c64, Bool.and_false]; rfl) | (rw [isZ, if_neg (by decide), if_pos rfl, decide_eq_false c64, Bool.and_false]; done) | (rw [isZ, if_neg (by decide), if_pos rfl, c57, decide_eq_true c64]; rfl) | (rw [isZ, if_neg (by decide), if_pos rfl, c57, decide_eq_true c64]; done))
      · refine lv_iconst (v := nI 1) hx hb dX7_is_67 (by decide) ?_
        refine lv_goto (tgt := 72) hx hb dX7_is_68 (by decide) ?_
        exact ctW_retI (v := (nI 1)) cd hx hb hr rfl dX7_is_72 hlocks hS hP hD trivial (by first | (rw [isZ, if_neg (by decide), if_pos rfl, c57]; rfl) | (rw [isZ, if_neg (by decide), if_pos rfl, c57]; done) | (rw [isZ, if_neg (by decide), if_pos rfl, decide_eq_false c64, Bool.and_false]; rfl) | (rw [isZ, if_neg (by decide), if_pos rfl, decide_eq_false c64, Bool.and_false]; done) | (rw [isZ, if_neg (by decide), if_pos rfl, c57, decide_eq_true c64]; rfl) | (rw [isZ, if_neg (by decide), if_pos rfl, c57, decide_eq_true c64]; done))
  · refine lv_tableIn (tgt := 73) hx hb dX7_is_1 (by omega) (by omega) (by rw [sw]; rfl) (by decide) ?_
    obtain rfl : x1 = nI 2 := toInt_nI (by decide) sw
    refine lv_aload_n hx hb dX7_is_73 rfl (lv_at hl 0 rfl) ?_
    refine ctR_V (As := []) (rest := []) (r := .int (nI (blkq q S).toNat)) ⟨hx, hb, hml, hown, hts⟩ (c_X7_isBlocking l D cI cZ md q w su po xs ys zs hM S) (cwV 0 hts gX7_is_X7_isBlocking rfl rfl rfl hdV_X7_isBlocking ⟨Nat.le_of_ble_eq_true rfl, Nat.le_of_ble_eq_true rfl⟩) hK hN hP [0, 1, 2, 3, 4, 5, 6] rfl 0 7 rfl rfl rfl hl.1 rfl (Nat.le_of_ble_eq_true rfl) ⟨Nat.zero_le _, Nat.zero_le _⟩ dX7_is_74 ?_
    refine nv_ifb_eq (tgt := 84) hx hb dX7_is_77 (by decide) (fun c77 => ?_) (fun c77 => ?_)
    · refine lv_iconst (v := nI 0) hx hb dX7_is_84 (by decide) ?_
      exact ctW_retI (v := (nI 0)) cd hx hb hr rfl dX7_is_85 hlocks hS hP hD trivial (by rw [isZ, if_neg (by decide), if_neg (by decide), if_pos rfl, c77]; rfl)
    · refine lv_iconst (v := nI 1) hx hb dX7_is_80 (by decide) ?_
      refine lv_goto (tgt := 85) hx hb dX7_is_81 (by decide) ?_
      exact ctW_retI (v := (nI 1)) cd hx hb hr rfl dX7_is_85 hlocks hS hP hD trivial (by rw [isZ, if_neg (by decide), if_neg (by decide), if_pos rfl, c77]; rfl)
  · refine lv_tableIn (tgt := 86) hx hb dX7_is_1 (by omega) (by omega) (by rw [sw]; rfl) (by decide) ?_
    obtain rfl : x1 = nI 3 := toInt_nI (by decide) sw
    refine lv_aload_n hx hb dX7_is_86 rfl (lv_at hl 0 rfl) ?_
    refine ctW_V (As := []) (rest := []) (wr := []) ⟨hx, hb, hml, hown, hts⟩ (c_X7_close l D cI cZ md q w su po xs ys zs hM S cd) (cwV 0 hts gX7_is_X7_close rfl rfl rfl hdV_X7_close ⟨Nat.le_of_ble_eq_true rfl, Nat.le_of_ble_eq_true rfl⟩) hK hN hP hD hS hA [0, 1, 2, 3, 4, 5, 6, 7] [] rfl rfl rfl (by decide) (by decide) (by decide) 0 7 rfl rfl rfl hl.1 rfl (Nat.le_of_ble_eq_true rfl) ⟨Nat.zero_le _, Nat.zero_le _⟩ dX7_is_87 (fun cd_2 H locs hu87 hP hD hS => ?_)
    try dsimp only at hu87
    have hP : va_P D vwCl [(md 0, .inr (7, [.int (nI q), .int (nI (nn q)), .ref (md 1), .ref (md 2), .ref (md 3), .ref (md 4), .ref (md 5), .ref (md 6), .ref (md 7), .ref (md 8), .ref (md 9), .ref (md 10), .ref (md 11), .ref (md 12), .ref (md 13), .ref (md 14), .ref (md 15), .ref (md 16), .int (nI w), .ref (md 17)])), (md 1, .inl (cI, 81, .inl (nF su))), (md 2, .inl (cI, 81, .inl (nF po))), (md 3, .inl (cI, 91, .inl (nF xs))), (md 4, .inl (cI, 91, .inl (nF ys))), (md 5, .inl (cI, 91, .inl (nF zs))), (md 6, .inl (cZ, 91, .inl (bF S))), (md 8, .inl (cZ, 91, .inl (bF cd_2)))] H := hP.sub [0, 1, 2, 3, 4, 5, 6, 7] rfl
    have hD : va_D A [(md 0, .inr (7, [.int (nI q), .int (nI (nn q)), .ref (md 1), .ref (md 2), .ref (md 3), .ref (md 4), .ref (md 5), .ref (md 6), .ref (md 7), .ref (md 8), .ref (md 9), .ref (md 10), .ref (md 11), .ref (md 12), .ref (md 13), .ref (md 14), .ref (md 15), .ref (md 16), .int (nI w), .ref (md 17)])), (md 1, .inl (cI, 81, .inl (nF su))), (md 2, .inl (cI, 81, .inl (nF po))), (md 3, .inl (cI, 91, .inl (nF xs))), (md 4, .inl (cI, 91, .inl (nF ys))), (md 5, .inl (cI, 91, .inl (nF zs))), (md 6, .inl (cZ, 91, .inl (bF S))), (md 8, .inl (cZ, 91, .inl (bF cd_2)))] := hD.sub [0, 1, 2, 3, 4, 5, 6, 7] (by decide) rfl
    refine W.eq (g2 := F0 m 90 ls []) rfl ?_
    refine lv_aload_n hx hb dX7_is_90 rfl (lv_at hl 0 rfl) ?_
    refine lv_aload_n hx hb dX7_is_91 rfl (lv_at hl 0 rfl) ?_
    refine va_get (D := D) (ci := 7) (v := .ref (md 8)) (C := RX7) (T := TX7) (N := 20) hx hb hts hiX7 hown hK hP 0 rfl rfl 9 (by decide) hf32 (fun _ h9 => h9) rfl dX7_is_92 ?_
    refine ctR_V (As := [.ref (md 8)]) (rest := []) (r := .int (nI (cnt cd_2 (nn q)))) ⟨hx, hb, hml, hown, hts⟩ (c_X7_sizeOf l D cI cZ md q w su po xs ys zs hM (md 8) cd_2) (cwV 1 hts gX7_is_X7_sizeOf rfl rfl rfl hdV_X7_sizeOf ⟨Nat.le_of_ble_eq_true rfl, Nat.le_of_ble_eq_true rfl⟩) hK hN hP [0, 1, 2, 3, 4, 5, 7] rfl 0 7 rfl rfl rfl hl.1 rfl (Nat.le_of_ble_eq_true rfl) ⟨Nat.zero_le _, Nat.zero_le _⟩ dX7_is_95 ?_
    have hh_3 : cnt cd_2 (nn q) ≤ nn q := cnt_le _ _
    refine nv_top (v' := .int (nI (cnt (cloq q S) (nn q)))) (by rw [cnt_congr hu87]) ?_
    have hz9 := cnt_le (cloq q S) (nn q)
    refine lv_aload_n hx hb dX7_is_98 rfl (lv_at hl 0 rfl) ?_
    refine lv_aload_n hx hb dX7_is_99 rfl (lv_at hl 0 rfl) ?_
    refine va_get (D := D) (ci := 7) (v := .ref (md 6)) (C := RX7) (T := TX7) (N := 20) hx hb hts hiX7 hown hK hP 0 rfl rfl 7 (by decide) hf25 (fun _ h9 => h9) rfl dX7_is_100 ?_
    refine ctR_V (As := [.ref (md 6)]) (rest := [.int (nI (cnt (cloq q S) (nn q)))]) (r := .int (nI (cnt S (nn q)))) ⟨hx, hb, hml, hown, hts⟩ (c_X7_sizeOf l D cI cZ md q w su po xs ys zs hM (md 6) S) (cwV 1 hts gX7_is_X7_sizeOf rfl rfl rfl hdV_X7_sizeOf ⟨Nat.le_of_ble_eq_true rfl, Nat.le_of_ble_eq_true rfl⟩) hK hN hP [0, 1, 2, 3, 4, 5, 6] rfl 0 7 rfl rfl rfl hl.1 rfl (Nat.le_of_ble_eq_true rfl) ⟨Nat.zero_le _, Nat.zero_le _⟩ dX7_is_103 ?_
    have hh_4 : cnt S (nn q) ≤ nn q := cnt_le _ _
    refine nv_icmp_ne (tgt := 113) hx hb (by omega) (by omega) dX7_is_106 (by decide) (fun c106 => ?_) (fun c106 => ?_)
    · refine lv_iconst (v := nI 0) hx hb dX7_is_113 (by decide) ?_
      exact ctW_retI (v := (nI 0)) cd_2 hx hb hr rfl dX7_is_114 hlocks hS hP hD trivial (by first | (rw [isZ, if_neg (by decide), if_neg (by decide), if_neg (by decide), if_pos rfl, decide_eq_false c106]; rfl) | (rw [isZ, if_neg (by decide), if_neg (by decide), if_neg (by decide), if_pos rfl, decide_eq_false c106]; done) | (rw [isZ, if_neg (by decide), if_neg (by decide), if_neg (by decide), if_pos rfl, decide_eq_true c106]; rfl) | (rw [isZ, if_neg (by decide), if_neg (by decide), if_neg (by decide), if_pos rfl, decide_eq_true c106]; done))
    · refine lv_iconst (v := nI 1) hx hb dX7_is_109 (by decide) ?_
      refine lv_goto (tgt := 114) hx hb dX7_is_110 (by decide) ?_
      exact ctW_retI (v := (nI 1)) cd_2 hx hb hr rfl dX7_is_114 hlocks hS hP hD trivial (by first | (rw [isZ, if_neg (by decide), if_neg (by decide), if_neg (by decide), if_pos rfl, decide_eq_false c106]; rfl) | (rw [isZ, if_neg (by decide), if_neg (by decide), if_neg (by decide), if_pos rfl, decide_eq_false c106]; done) | (rw [isZ, if_neg (by decide), if_neg (by decide), if_neg (by decide), if_pos rfl, decide_eq_true c106]; rfl) | (rw [isZ, if_neg (by decide), if_neg (by decide), if_neg (by decide), if_pos rfl, decide_eq_true c106]; done))
  · refine lv_tableOut (tgt := 115) hx hb dX7_is_1 sw (by decide) ?_
    refine lv_bipush (v := (-2)) hx hb dX7_is_115 (by decide) ?_
    exact ctW_retI (v := (-2)) cd hx hb hr rfl dX7_is_117 hlocks hS hP hD trivial (by rw [isZ, if_neg (sw_ne sw (by decide)), if_neg (sw_ne sw (by decide)), if_neg (sw_ne sw (by decide)), if_neg (sw_ne sw (by decide))])

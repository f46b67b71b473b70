set_option maxHeartbeats 4000000 in
set_option maxRecDepth 100000 in
theorem c_X7_settle (l : Launch) (D : va_G) (cI cZ : ClassId) (md : Nat → Nat) (q : Nat) (w : Nat) (su : Nat → Nat) (po : Nat → Nat) (xs : Nat → Nat) (ys : Nat → Nat) (zs : Nat → Nat) (hM : MOK q su po xs ys zs) (mp : Nat → Nat) (k_m : MPK q mp) (k_h : ¬ hdf mp 9 = 0) : CtW (S := (Nat → Nat)) l yX7_settle wsX7_settle { frames := 2, cells := 0, slots := 0, locals := 45 } D (tyG cI cZ) [.ref (md 0)] [(md 0, .inr (7, [.int (nI q), .int (nI (nn q)), .ref (md 1), .ref (md 2), .ref (md 3), .ref (md 4), .ref (md 5), .ref (md 6), .ref (md 7), .ref (md 8), .ref (md 9), .ref (md 10), .ref (md 11), .ref (md 12), .ref (md 13), .ref (md 14), .ref (md 15), .ref (md 16), .int (nI w), .ref (md 17)])), (md 1, .inl (cI, 81, .inl (nF su))), (md 2, .inl (cI, 81, .inl (nF po))), (md 3, .inl (cI, 91, .inl (nF xs))), (md 4, .inl (cI, 91, .inl (nF ys))), (md 5, .inl (cI, 91, .inl (nF zs))), (md 7, .inl (cI, 9, .inl (nF mp)))] (fun (mp3 : Nat → Nat) => ∀ t, t < 9 → mp3 t = tldq q mp t) (fun (mp3 : Nat → Nat) => none) (fun (mp3 : Nat → Nat) => [(md 0, .inr (7, [.int (nI q), .int (nI (nn q)), .ref (md 1), .ref (md 2), .ref (md 3), .ref (md 4), .ref (md 5), .ref (md 6), .ref (md 7), .ref (md 8), .ref (md 9), .ref (md 10), .ref (md 11), .ref (md 12), .ref (md 13), .ref (md 14), .ref (md 15), .ref (md 16), .int (nI w), .ref (md 17)])), (md 1, .inl (cI, 81, .inl (nF su))), (md 2, .inl (cI, 81, .inl (nF po))), (md 3, .inl (cI, 91, .inl (nF xs))), (md 4, .inl (cI, 91, .inl (nF ys))), (md 5, .inl (cI, 91, .inl (nF zs))), (md 7, .inl (cI, 9, .inl (nF mp3)))]) := by
  intro sz; refine Met.ofW (cc := cX7_settle) (maxL := 3) (ret := none) (by decide) rfl ?_
  intro p e s m args below meth c s₁ B hml hv
  obtain ⟨rfl, hsz, hP, hK, hD0, hN⟩ := hv
  have hx := B.exec
  have hb := B.bytes
  have hr := B.returns
  have hts := atoms_spec (ws := wsX7_settle) B.pre
  have hown : s.vm.findClass RX7 = some m.cls := findClass_of_methodNamed B.named
  have hlocks := B.notSynchronized
  subst hsz
  have hD := hD0.self (sz := s.heap.size)
  generalize hAe : va_A [(md 0, .inr (7, [.int (nI q), .int (nI (nn q)), .ref (md 1), .ref (md 2), .ref (md 3), .ref (md 4), .ref (md 5), .ref (md 6), .ref (md 7), .ref (md 8), .ref (md 9), .ref (md 10), .ref (md 11), .ref (md 12), .ref (md 13), .ref (md 14), .ref (md 15), .ref (md 16), .int (nI w), .ref (md 17)])), (md 1, .inl (cI, 81, .inl (nF su))), (md 2, .inl (cI, 81, .inl (nF po))), (md 3, .inl (cI, 91, .inl (nF xs))), (md 4, .inl (cI, 91, .inl (nF ys))), (md 5, .inl (cI, 91, .inl (nF zs))), (md 7, .inl (cI, 9, .inl (nF mp)))] s.heap.size = A at hD ⊢
  have hA : ∀ q : Nat, s.heap.size ≤ q → A q := fun q h => by rw [← hAe]; exact Or.inr h
  have hS : va_S A s.heap s.heap [] := va_S.rf
  have hP : va_P D vwCl [(md 0, .inr (7, [.int (nI q), .int (nI (nn q)), .ref (md 1), .ref (md 2), .ref (md 3), .ref (md 4), .ref (md 5), .ref (md 6), .ref (md 7), .ref (md 8), .ref (md 9), .ref (md 10), .ref (md 11), .ref (md 12), .ref (md 13), .ref (md 14), .ref (md 15), .ref (md 16), .int (nI w), .ref (md 17)])), (md 1, .inl (cI, 81, .inl (nF su))), (md 2, .inl (cI, 81, .inl (nF po))), (md 3, .inl (cI, 91, .inl (nF xs))), (md 4, .inl (cI, 91, .inl (nF ys))), (md 5, .inl (cI, 91, .inl (nF zs))), (md 7, .inl (cI, 9, .inl (nF mp)))] s.heap := hP
  have hf29 := hts (.fieldLink RX7 29 "FinitePlanesModel" "map" "[I") (by decide +kernel)
  have hiX7 : ∀ w ∈ u_ws RX7 TX7 20, w ∈ wsX7_settle := by decide +kernel
  have hl := lv_entry ([.ref (md 0)]) (n := 3) (Nat.le_of_ble_eq_true rfl)
  rw [lg_entry_eq]
  generalize (lg_sl ([.ref (md 0)]) ++ List.replicate (3 - (lg_sl ([.ref (md 0)])).length) Slot.unset).toArray = ls at hl ⊢
  have hl : lv_has ls 3 [(0, .ref (md 0))] := hl
  have hq2 := qs_le hM.1
  have hn2 := nn_le hM.1
  refine lv_iconst (v := nI 0) hx hb dX7_settle_0 (by decide) ?_
  refine lv_istore_n (lv' := [(1, .int (nI 0)), (0, .ref (md 0))]) hx hb dX7_settle_1 rfl hl (by decide) rfl (fun ls hl => ?_)
  refine lv_iconst (v := nI 0) hx hb dX7_settle_2 (by decide) ?_
  refine lv_istore_n (lv' := [(2, .int (nI 0)), (1, .int (nI 0)), (0, .ref (md 0))]) hx hb dX7_settle_3 rfl hl (by decide) rfl (fun ls hl => ?_)
  have L4 : ∀ (N4 : Nat) (x : Nat) (i : Nat) (ls : Array Slot) (H : Heap) (locs : List Loc), 9 - i < N4 → (i ≤ 9) → (x = hdf mp i) → lv_has ls 3 [(0, .ref (md 0)), (1, .int (nI x)), (2, .int (nI i))] → va_P D vwCl [(md 0, .inr (7, [.int (nI q), .int (nI (nn q)), .ref (md 1), .ref (md 2), .ref (md 3), .ref (md 4), .ref (md 5), .ref (md 6), .ref (md 7), .ref (md 8), .ref (md 9), .ref (md 10), .ref (md 11), .ref (md 12), .ref (md 13), .ref (md 14), .ref (md 15), .ref (md 16), .int (nI w), .ref (md 17)])), (md 1, .inl (cI, 81, .inl (nF su))), (md 2, .inl (cI, 81, .inl (nF po))), (md 3, .inl (cI, 91, .inl (nF xs))), (md 4, .inl (cI, 91, .inl (nF ys))), (md 5, .inl (cI, 91, .inl (nF zs))), (md 7, .inl (cI, 9, .inl (nF mp)))] H → va_D A [(md 0, .inr (7, [.int (nI q), .int (nI (nn q)), .ref (md 1), .ref (md 2), .ref (md 3), .ref (md 4), .ref (md 5), .ref (md 6), .ref (md 7), .ref (md 8), .ref (md 9), .ref (md 10), .ref (md 11), .ref (md 12), .ref (md 13), .ref (md 14), .ref (md 15), .ref (md 16), .int (nI w), .ref (md 17)])), (md 1, .inl (cI, 81, .inl (nF su))), (md 2, .inl (cI, 81, .inl (nF po))), (md 3, .inl (cI, 91, .inl (nF xs))), (md 4, .inl (cI, 91, .inl (nF ys))), (md 5, .inl (cI, 91, .inl (nF zs))), (md 7, .inl (cI, 9, .inl (nF mp)))] → va_S A s.heap H locs → WG p l e wsX7_settle { frames := 2, cells := 0, slots := 0, locals := 45 } s m [.ref (md 0)] below meth c H locs (CQ (S := (Nat → Nat)) D (fun (mp3 : Nat → Nat) => ∀ t, t < 9 → mp3 t = tldq q mp t) (fun (mp3 : Nat → Nat) => none) (fun (mp3 : Nat → Nat) => [(md 0, .inr (7, [.int (nI q), .int (nI (nn q)), .ref (md 1), .ref (md 2), .ref (md 3), .ref (md 4), .ref (md 5), .ref (md 6), .ref (md 7), .ref (md 8), .ref (md 9), .ref (md 10), .ref (md 11), .ref (md 12), .ref (md 13), .ref (md 14), .ref (md 15), .ref (md 16), .int (nI w), .ref (md 17)])), (md 1, .inl (cI, 81, .inl (nF su))), (md 2, .inl (cI, 81, .inl (nF po))), (md 3, .inl (cI, 91, .inl (nF xs))), (md 4, .inl (cI, 91, .inl (nF ys))), (md 5, .inl (cI, 91, .inl (nF zs))), (md 7, .inl (cI, 9, .inl (nF mp3)))]) A) A 4 ls [] := by
    intro N4
    induction N4 with
    | zero => intro x i ls H locs hN; exact absurd hN (Nat.not_lt_zero _)
    | succ N4 ih4 =>
      intro x i ls H locs hN4 k_i k_x hl hP hD hS
      have hx9 : x < q := by rw [k_x]; exact hdf_lt (by omega) (fun t ht => k_m t (by omega))
      refine lv_iload_n hx hb dX7_settle_4 rfl (lv_at hl 2 rfl) ?_
      refine lv_bipush (v := nI 9) hx hb dX7_settle_5 (by decide) ?_
      refine nv_icmp_ge (tgt := 31) hx hb (by omega) (by decide) dX7_settle_7 (by decide) (fun c7 => ?_) (fun c7 => ?_)
      · have hx0 : x = hdf mp 9 := by rw [k_x, show i = 9 by omega]
        have hx1 : ¬ x = 0 := by rw [hx0]; exact k_h
        refine lv_iconst (v := nI 0) hx hb dX7_settle_31 (by decide) ?_
        refine lv_istore_n (lv' := [(2, .int (nI 0)), (0, .ref (md 0)), (1, .int (nI x))]) hx hb dX7_settle_32 rfl hl (by decide) rfl (fun ls hl => ?_)
        have L33 : ∀ (N33 : Nat) (j : Nat) (n1 : Nat → Nat) (ls : Array Slot) (H : Heap) (locs : List Loc), 9 - j < N33 → (j ≤ 9) → (∀ t, t < j → n1 t = tldq q mp t) → (∀ t, j ≤ t → n1 t = mp t) → lv_has ls 3 [(0, .ref (md 0)), (1, .int (nI x)), (2, .int (nI j))] → va_P D vwCl [(md 0, .inr (7, [.int (nI q), .int (nI (nn q)), .ref (md 1), .ref (md 2), .ref (md 3), .ref (md 4), .ref (md 5), .ref (md 6), .ref (md 7), .ref (md 8), .ref (md 9), .ref (md 10), .ref (md 11), .ref (md 12), .ref (md 13), .ref (md 14), .ref (md 15), .ref (md 16), .int (nI w), .ref (md 17)])), (md 1, .inl (cI, 81, .inl (nF su))), (md 2, .inl (cI, 81, .inl (nF po))), (md 3, .inl (cI, 91, .inl (nF xs))), (md 4, .inl (cI, 91, .inl (nF ys))), (md 5, .inl (cI, 91, .inl (nF zs))), (md 7, .inl (cI, 9, .inl (nF n1)))] H → va_D A [(md 0, .inr (7, [.int (nI q), .int (nI (nn q)), .ref (md 1), .ref (md 2), .ref (md 3), .ref (md 4), .ref (md 5), .ref (md 6), .ref (md 7), .ref (md 8), .ref (md 9), .ref (md 10), .ref (md 11), .ref (md 12), .ref (md 13), .ref (md 14), .ref (md 15), .ref (md 16), .int (nI w), .ref (md 17)])), (md 1, .inl (cI, 81, .inl (nF su))), (md 2, .inl (cI, 81, .inl (nF po))), (md 3, .inl (cI, 91, .inl (nF xs))), (md 4, .inl (cI, 91, .inl (nF ys))), (md 5, .inl (cI, 91, .inl (nF zs))), (md 7, .inl (cI, 9, .inl (nF n1)))] → va_S A s.heap H locs → WG p l e wsX7_settle { frames := 2, cells := 0, slots := 0, locals := 45 } s m [.ref (md 0)] below meth c H locs (CQ (S := (Nat → Nat)) D (fun (mp3 : Nat → Nat) => ∀ t, t < 9 → mp3 t = tldq q mp t) (fun (mp3 : Nat → Nat) => none) (fun (mp3 : Nat → Nat) => [(md 0, .inr (7, [.int (nI q), .int (nI (nn q)), .ref (md 1), .ref (md 2), .ref (md 3), .ref (md 4), .ref (md 5), .ref (md 6), .ref (md 7), .ref (md 8), .ref (md 9), .ref (md 10), .ref (md 11), .ref (md 12), .ref (md 13), .ref (md 14), .ref (md 15), .ref (md 16), .int (nI w), .ref (md 17)])), (md 1, .inl (cI, 81, .inl (nF su))), (md 2, .inl (cI, 81, .inl (nF po))), (md 3, .inl (cI, 91, .inl (nF xs))), (md 4, .inl (cI, 91, .inl (nF ys))), (md 5, .inl (cI, 91, .inl (nF zs))), (md 7, .inl (cI, 9, .inl (nF mp3)))]) A) A 33 ls [] := by
          intro N33
          induction N33 with
          | zero => intro j n1 ls H locs hN; exact absurd hN (Nat.not_lt_zero _)
          | succ N33 ih33 =>
            intro j n1 ls H locs hN33 k_j k_s k_r hl hP hD hS
            refine lv_iload_n hx hb dX7_settle_33 rfl (lv_at hl 2 rfl) ?_
            refine lv_bipush (v := nI 9) hx hb dX7_settle_34 (by decide) ?_
            refine nv_icmp_ge (tgt := 62) hx hb (by omega) (by decide) dX7_settle_36 (by decide) (fun c36 => ?_) (fun c36 => ?_)
            · exact ctW_retV n1 hx hb hr dX7_settle_62 hlocks hS hP hD (fun t ht => k_s t (by omega)) rfl
            · refine lv_aload_n hx hb dX7_settle_39 rfl (lv_at hl 0 rfl) ?_
              refine va_get (D := D) (ci := 7) (v := .ref (md 7)) (C := RX7) (T := TX7) (N := 20) hx hb hts hiX7 hown hK hP 0 rfl rfl 8 (by decide) hf29 (fun _ h9 => h9) rfl dX7_settle_40 ?_
              refine lv_iload_n hx hb dX7_settle_43 rfl (lv_at hl 2 rfl) ?_
              refine lv_aload_n hx hb dX7_settle_44 rfl (lv_at hl 0 rfl) ?_
              refine lv_aload_n hx hb dX7_settle_45 rfl (lv_at hl 0 rfl) ?_
              refine va_get (D := D) (ci := 7) (v := .ref (md 7)) (C := RX7) (T := TX7) (N := 20) hx hb hts hiX7 hown hK hP 0 rfl rfl 8 (by decide) hf29 (fun _ h9 => h9) rfl dX7_settle_46 ?_
              refine lv_iload_n hx hb dX7_settle_49 rfl (lv_at hl 2 rfl) ?_
              refine nv_iald hx hb hK hP 6 0 rfl rfl (by omega) (by decide) dX7_settle_50 ?_
              have hm9 : n1 j < q := by rw [k_r j (Nat.le_refl j)]; exact k_m j (by omega)
              refine lv_iload_n hx hb dX7_settle_51 rfl (lv_at hl 1 rfl) ?_
              refine ctR_V (As := [.int (nI (n1 j)), .int (nI x)]) (rest := [.int (nI j), .ref (md 7)]) (r := .int (nI (fdiv q (n1 j) x))) ⟨hx, hb, hml, hown, hts⟩ (c_X7_by l D cI cZ md q w su po xs ys zs hM (n1 j) x (by omega) (by omega) hx1) (cwV 2 hts gX7_settle_X7_by rfl rfl rfl hdV_X7_by ⟨Nat.le_of_ble_eq_true rfl, Nat.le_of_ble_eq_true rfl⟩) hK hN hP [0, 1, 2, 3, 4, 5] rfl 0 7 rfl rfl rfl hl.1 rfl (Nat.le_of_ble_eq_true rfl) ⟨Nat.zero_le _, Nat.zero_le _⟩ dX7_settle_52 ?_
              have hh_1 : fdiv q (n1 j) x < q := fdiv_lt hM.1 (by omega) (by omega)
              refine nv_iast hx hb hK hP hD hS 6 0 rfl rfl (by omega) (by decide) dX7_settle_55 (fun H locs hP hD hS => ?_)
              have hP : va_P D vwCl [(md 0, .inr (7, [.int (nI q), .int (nI (nn q)), .ref (md 1), .ref (md 2), .ref (md 3), .ref (md 4), .ref (md 5), .ref (md 6), .ref (md 7), .ref (md 8), .ref (md 9), .ref (md 10), .ref (md 11), .ref (md 12), .ref (md 13), .ref (md 14), .ref (md 15), .ref (md 16), .int (nI w), .ref (md 17)])), (md 1, .inl (cI, 81, .inl (nF su))), (md 2, .inl (cI, 81, .inl (nF po))), (md 3, .inl (cI, 91, .inl (nF xs))), (md 4, .inl (cI, 91, .inl (nF ys))), (md 5, .inl (cI, 91, .inl (nF zs))), (md 7, .inl (cI, 9, .inl (nF (upN n1 j (fdiv q (n1 j) x)))))] H := hP
              have hD : va_D A [(md 0, .inr (7, [.int (nI q), .int (nI (nn q)), .ref (md 1), .ref (md 2), .ref (md 3), .ref (md 4), .ref (md 5), .ref (md 6), .ref (md 7), .ref (md 8), .ref (md 9), .ref (md 10), .ref (md 11), .ref (md 12), .ref (md 13), .ref (md 14), .ref (md 15), .ref (md 16), .int (nI w), .ref (md 17)])), (md 1, .inl (cI, 81, .inl (nF su))), (md 2, .inl (cI, 81, .inl (nF po))), (md 3, .inl (cI, 91, .inl (nF xs))), (md 4, .inl (cI, 91, .inl (nF ys))), (md 5, .inl (cI, 91, .inl (nF zs))), (md 7, .inl (cI, 9, .inl (nF (upN n1 j (fdiv q (n1 j) x)))))] := hD
              refine lv_iinc (v := nI (j + 1)) (lv' := [(2, .int (nI (j + 1))), (0, .ref (md 0)), (1, .int (nI x))]) hx hb dX7_settle_56 hl (k := 2) rfl (nI_inc j) (by decide) rfl (fun ls hl => ?_)
              refine lv_goto (tgt := 33) hx hb dX7_settle_59 (by decide) ?_
              exact ih33 (j + 1) (upN n1 j (fdiv q (n1 j) x)) ls _ _ (by omega) (by omega) (fun t ht => (Nat.lt_succ_iff_lt_or_eq.mp ht).elim (fun h => by rw [upN_n (by omega)]; exact k_s t h) (fun h => by rw [h, upN_s, k_r j (Nat.le_refl j), hx0]; exact set_tld hM.1 (fun k hk => k_m k hk) k_h (by omega))) (fun t ht => by rw [upN_n (by omega)]; exact k_r t (by omega)) (lv_sub hl [1, 2, 0] rfl) hP hD hS
        exact L33 (9 - 0 + 1) 0 mp ls _ _ (by omega) (Nat.zero_le _) (fun t h => absurd h (Nat.not_lt_zero t)) (fun _ _ => rfl) (lv_sub hl [1, 2, 0] rfl) hP hD hS
      · refine lv_iload_n hx hb dX7_settle_10 rfl (lv_at hl 1 rfl) ?_
        refine nv_if_ne (tgt := 23) hx hb (by omega) dX7_settle_11 (by decide) (fun c11 => ?_) (fun c11 => ?_)
        · refine lv_iload_n hx hb dX7_settle_23 rfl (lv_at hl 1 rfl) ?_
          refine lv_istore_n (lv' := [(1, .int (nI x)), (0, .ref (md 0)), (2, .int (nI i))]) hx hb dX7_settle_24 rfl hl (by decide) rfl (fun ls hl => ?_)
          refine lv_iinc (v := nI (i + 1)) (lv' := [(2, .int (nI (i + 1))), (1, .int (nI x)), (0, .ref (md 0))]) hx hb dX7_settle_25 hl (k := 2) rfl (nI_inc i) (by decide) rfl (fun ls hl => ?_)
          refine lv_goto (tgt := 4) hx hb dX7_settle_28 (by decide) ?_
          exact ih4 x (i + 1) ls _ _ (by omega) (by omega) (by rw [hdf, ← k_x, if_neg c11]) (lv_sub hl [2, 1, 0] rfl) hP hD hS
        · refine lv_aload_n hx hb dX7_settle_14 rfl (lv_at hl 0 rfl) ?_
          refine va_get (D := D) (ci := 7) (v := .ref (md 7)) (C := RX7) (T := TX7) (N := 20) hx hb hts hiX7 hown hK hP 0 rfl rfl 8 (by decide) hf29 (fun _ h9 => h9) rfl dX7_settle_15 ?_
          refine lv_iload_n hx hb dX7_settle_18 rfl (lv_at hl 2 rfl) ?_
          refine nv_iald hx hb hK hP 6 0 rfl rfl (by omega) (by decide) dX7_settle_19 ?_
          refine lv_goto (tgt := 24) hx hb dX7_settle_20 (by decide) ?_
          refine lv_istore_n (lv' := [(1, .int (nI (mp i))), (0, .ref (md 0)), (2, .int (nI i))]) hx hb dX7_settle_24 rfl hl (by decide) rfl (fun ls hl => ?_)
          refine lv_iinc (v := nI (i + 1)) (lv' := [(2, .int (nI (i + 1))), (1, .int (nI (mp i))), (0, .ref (md 0))]) hx hb dX7_settle_25 hl (k := 2) rfl (nI_inc i) (by decide) rfl (fun ls hl => ?_)
          refine lv_goto (tgt := 4) hx hb dX7_settle_28 (by decide) ?_
          exact ih4 (mp i) (i + 1) ls _ _ (by omega) (by omega) (by rw [hdf, ← k_x, if_pos c11]) (lv_sub hl [2, 1, 0] rfl) hP hD hS
  exact L4 (9 - 0 + 1) 0 0 ls _ _ (by omega) (Nat.zero_le _) rfl (lv_sub hl [2, 1, 0] rfl) hP hD hS

set_option maxHeartbeats 4000000 in
set_option maxRecDepth 100000 in
theorem c_X7_invert (l : Launch) (D : va_G) (cI cZ : ClassId) (md : Nat → Nat) (q : Nat) (w : Nat) (su : Nat → Nat) (po : Nat → Nat) (xs : Nat → Nat) (ys : Nat → Nat) (zs : Nat → Nat) (hM : MOK q su po xs ys zs) (mp : Nat → Nat) (ot : Nat → Nat) (k_m : MPK q mp) : CtW (S := (Nat → Nat) × (Nat → Nat)) l yX7_invert wsX7_invert { frames := 4, cells := 0, slots := 0, locals := 92 } D (tyG cI cZ) [.ref (md 0)] [(md 0, .inr (7, [.int (nI q), .int (nI (nn q)), .ref (md 1), .ref (md 2), .ref (md 3), .ref (md 4), .ref (md 5), .ref (md 6), .ref (md 7), .ref (md 8), .ref (md 9), .ref (md 10), .ref (md 11), .ref (md 12), .ref (md 13), .ref (md 14), .ref (md 15), .ref (md 16), .int (nI w), .ref (md 17)])), (md 1, .inl (cI, 81, .inl (nF su))), (md 2, .inl (cI, 81, .inl (nF po))), (md 3, .inl (cI, 91, .inl (nF xs))), (md 4, .inl (cI, 91, .inl (nF ys))), (md 5, .inl (cI, 91, .inl (nF zs))), (md 7, .inl (cI, 9, .inl (nF mp))), (md 14, .inl (cI, 9, .inl (nF ot)))] (fun u => (fun (mp3 : Nat → Nat) (ot3 : Nat → Nat) => ∀ t, t < 9 → mp3 t = invM q mp t) u.1 u.2) (fun u => (fun (mp3 : Nat → Nat) (ot3 : Nat → Nat) => some (.int (invZ q mp))) u.1 u.2) (fun u => (fun (mp3 : Nat → Nat) (ot3 : Nat → Nat) => [(md 0, .inr (7, [.int (nI q), .int (nI (nn q)), .ref (md 1), .ref (md 2), .ref (md 3), .ref (md 4), .ref (md 5), .ref (md 6), .ref (md 7), .ref (md 8), .ref (md 9), .ref (md 10), .ref (md 11), .ref (md 12), .ref (md 13), .ref (md 14), .ref (md 15), .ref (md 16), .int (nI w), .ref (md 17)])), (md 1, .inl (cI, 81, .inl (nF su))), (md 2, .inl (cI, 81, .inl (nF po))), (md 3, .inl (cI, 91, .inl (nF xs))), (md 4, .inl (cI, 91, .inl (nF ys))), (md 5, .inl (cI, 91, .inl (nF zs))), (md 7, .inl (cI, 9, .inl (nF mp3))), (md 14, .inl (cI, 9, .inl (nF ot3)))]) u.1 u.2) := by
  intro sz; refine Met.ofW (cc := cX7_invert) (maxL := 7) (ret := some .int) (by decide) rfl ?_
  intro p e s m args below meth c s₁ B hml hv
  obtain ⟨rfl, hsz, hP, hK, hD0, hN⟩ := hv
  have hx := B.exec
  have hb := B.bytes
  have hr := B.returns
  have hts := atoms_spec (ws := wsX7_invert) B.pre
  have hown : s.vm.findClass RX7 = some m.cls := findClass_of_methodNamed B.named
  have hlocks := B.notSynchronized
  subst hsz
  have hD := hD0.self (sz := s.heap.size)
  generalize hAe : va_A [(md 0, .inr (7, [.int (nI q), .int (nI (nn q)), .ref (md 1), .ref (md 2), .ref (md 3), .ref (md 4), .ref (md 5), .ref (md 6), .ref (md 7), .ref (md 8), .ref (md 9), .ref (md 10), .ref (md 11), .ref (md 12), .ref (md 13), .ref (md 14), .ref (md 15), .ref (md 16), .int (nI w), .ref (md 17)])), (md 1, .inl (cI, 81, .inl (nF su))), (md 2, .inl (cI, 81, .inl (nF po))), (md 3, .inl (cI, 91, .inl (nF xs))), (md 4, .inl (cI, 91, .inl (nF ys))), (md 5, .inl (cI, 91, .inl (nF zs))), (md 7, .inl (cI, 9, .inl (nF mp))), (md 14, .inl (cI, 9, .inl (nF ot)))] s.heap.size = A at hD ⊢
  have hA : ∀ q : Nat, s.heap.size ≤ q → A q := fun q h => by rw [← hAe]; exact Or.inr h
  have hS : va_S A s.heap s.heap [] := va_S.rf
  have hP : va_P D vwCl [(md 0, .inr (7, [.int (nI q), .int (nI (nn q)), .ref (md 1), .ref (md 2), .ref (md 3), .ref (md 4), .ref (md 5), .ref (md 6), .ref (md 7), .ref (md 8), .ref (md 9), .ref (md 10), .ref (md 11), .ref (md 12), .ref (md 13), .ref (md 14), .ref (md 15), .ref (md 16), .int (nI w), .ref (md 17)])), (md 1, .inl (cI, 81, .inl (nF su))), (md 2, .inl (cI, 81, .inl (nF po))), (md 3, .inl (cI, 91, .inl (nF xs))), (md 4, .inl (cI, 91, .inl (nF ys))), (md 5, .inl (cI, 91, .inl (nF zs))), (md 7, .inl (cI, 9, .inl (nF mp))), (md 14, .inl (cI, 9, .inl (nF ot)))] s.heap := hP
  have hf29 := hts (.fieldLink RX7 29 "FinitePlanesModel" "map" "[I") (by decide +kernel)
  have hf50 := hts (.fieldLink RX7 50 "FinitePlanesModel" "other" "[I") (by decide +kernel)
  have hiX7 : ∀ w ∈ u_ws RX7 TX7 20, w ∈ wsX7_invert := by decide +kernel
  have hl := lv_entry ([.ref (md 0)]) (n := 7) (Nat.le_of_ble_eq_true rfl)
  rw [lg_entry_eq]
  generalize (lg_sl ([.ref (md 0)]) ++ List.replicate (7 - (lg_sl ([.ref (md 0)])).length) Slot.unset).toArray = ls at hl ⊢
  have hl : lv_has ls 7 [(0, .ref (md 0))] := hl
  have hq2 := qs_le hM.1
  have hn2 := nn_le hM.1
  refine lv_aload_n hx hb dX7_invert_0 rfl (lv_at hl 0 rfl) ?_
  refine ctR_V (As := []) (rest := []) (r := .int (nI (detq q mp))) ⟨hx, hb, hml, hown, hts⟩ (c_X7_determinant l D cI cZ md q w su po xs ys zs hM mp k_m) (cwV 0 hts gX7_invert_X7_determinant rfl rfl rfl hdV_X7_determinant ⟨Nat.le_of_ble_eq_true rfl, Nat.le_of_ble_eq_true rfl⟩) hK hN hP [0, 1, 2, 3, 4, 5, 6] rfl 0 7 rfl rfl rfl hl.1 rfl (Nat.le_of_ble_eq_true rfl) ⟨Nat.zero_le _, Nat.zero_le _⟩ dX7_invert_1 ?_
  have hh_1 : detq q mp < q := detq_lt hM.1 k_m
  refine nv_if_ne (tgt := 10) hx hb (by omega) dX7_invert_4 (by decide) (fun c4 => ?_) (fun c4 => ?_)
  · have w0 := k_m 0 (by omega)
    have w1 := k_m 1 (by omega)
    have w2 := k_m 2 (by omega)
    have w3 := k_m 3 (by omega)
    have w4 := k_m 4 (by omega)
    have w5 := k_m 5 (by omega)
    have w6 := k_m 6 (by omega)
    have w7 := k_m 7 (by omega)
    have w8 := k_m 8 (by omega)
    refine lv_iconst (v := nI 0) hx hb dX7_invert_10 (by decide) ?_
    refine lv_istore_n (lv' := [(1, .int (nI 0)), (0, .ref (md 0))]) hx hb dX7_invert_11 rfl hl (by decide) rfl (fun ls hl => ?_)
    refine lv_iload_n hx hb dX7_invert_12 rfl (lv_at hl 0 rfl) ?_
    refine lv_iconst (v := nI 3) hx hb dX7_invert_13 (by decide) ?_
    refine nv_icmp_ge (tgt := 123) hx hb (by decide) (by decide) dX7_invert_14 (by decide) (fun c14 => absurd c14 (by omega)) (fun c14 => ?_)
    refine lv_iconst (v := nI 0) hx hb dX7_invert_17 (by decide) ?_
    refine lv_istore_n (lv' := [(2, .int (nI 0)), (1, .int (nI 0)), (0, .ref (md 0))]) hx hb dX7_invert_18 rfl hl (by decide) rfl (fun ls hl => ?_)
    refine lv_iload_n hx hb dX7_invert_19 rfl (lv_at hl 0 rfl) ?_
    refine lv_iconst (v := nI 3) hx hb dX7_invert_20 (by decide) ?_
    refine nv_icmp_ge (tgt := 117) hx hb (by decide) (by decide) dX7_invert_21 (by decide) (fun c21 => absurd c21 (by omega)) (fun c21 => ?_)
    refine lv_iload_n hx hb dX7_invert_24 rfl (lv_at hl 1 rfl) ?_
    refine lv_iconst (v := nI 1) hx hb dX7_invert_25 (by decide) ?_
    refine nv_addE (r := 1) hx hb rfl dX7_invert_26 ?_
    refine lv_iconst (v := nI 3) hx hb dX7_invert_27 (by decide) ?_
    refine nv_remE (r := 1) hx hb (by decide) (by decide) (by decide) rfl dX7_invert_28 ?_
    refine lv_istore_n (lv' := [(3, .int (nI 1)), (2, .int (nI 0)), (1, .int (nI 0)), (0, .ref (md 0))]) hx hb dX7_invert_29 rfl hl (by decide) rfl (fun ls hl => ?_)
    refine lv_iload_n hx hb dX7_invert_30 rfl (lv_at hl 2 rfl) ?_
    refine lv_iconst (v := nI 2) hx hb dX7_invert_31 (by decide) ?_
    refine nv_addE (r := 2) hx hb rfl dX7_invert_32 ?_
    refine lv_iconst (v := nI 3) hx hb dX7_invert_33 (by decide) ?_
    refine nv_remE (r := 2) hx hb (by decide) (by decide) (by decide) rfl dX7_invert_34 ?_
    refine lv_istore (lv' := [(4, .int (nI 2)), (3, .int (nI 1)), (2, .int (nI 0)), (1, .int (nI 0)), (0, .ref (md 0))]) hx hb dX7_invert_35 hl (by decide) rfl (fun ls hl => ?_)
    refine lv_iload_n hx hb dX7_invert_37 rfl (lv_at hl 2 rfl) ?_
    refine lv_iconst (v := nI 1) hx hb dX7_invert_38 (by decide) ?_
    refine nv_addE (r := 1) hx hb rfl dX7_invert_39 ?_
    refine lv_iconst (v := nI 3) hx hb dX7_invert_40 (by decide) ?_
    refine nv_remE (r := 1) hx hb (by decide) (by decide) (by decide) rfl dX7_invert_41 ?_
    refine lv_istore (lv' := [(5, .int (nI 1)), (4, .int (nI 2)), (3, .int (nI 1)), (2, .int (nI 0)), (1, .int (nI 0)), (0, .ref (md 0))]) hx hb dX7_invert_42 hl (by decide) rfl (fun ls hl => ?_)
    refine lv_iload_n hx hb dX7_invert_44 rfl (lv_at hl 3 rfl) ?_
    refine lv_iconst (v := nI 2) hx hb dX7_invert_45 (by decide) ?_
    refine nv_addE (r := 2) hx hb rfl dX7_invert_46 ?_
    refine lv_iconst (v := nI 3) hx hb dX7_invert_47 (by decide) ?_
    refine nv_remE (r := 2) hx hb (by decide) (by decide) (by decide) rfl dX7_invert_48 ?_
    refine lv_istore (lv' := [(6, .int (nI 2)), (5, .int (nI 1)), (4, .int (nI 2)), (3, .int (nI 1)), (2, .int (nI 0)), (1, .int (nI 0)), (0, .ref (md 0))]) hx hb dX7_invert_49 hl (by decide) rfl (fun ls hl => ?_)
    refine lv_aload_n hx hb dX7_invert_51 rfl (lv_at hl 6 rfl) ?_
    refine va_get (D := D) (ci := 7) (v := .ref (md 14)) (C := RX7) (T := TX7) (N := 20) hx hb hts hiX7 hown hK hP 0 rfl rfl 15 (by decide) hf50 (fun _ h9 => h9) rfl dX7_invert_52 ?_
    refine lv_iconst (v := nI 3) hx hb dX7_invert_55 (by decide) ?_
    refine lv_iload_n hx hb dX7_invert_56 rfl (lv_at hl 4 rfl) ?_
    refine nv_mulE (r := 0) hx hb rfl dX7_invert_57 ?_
    refine lv_iload_n hx hb dX7_invert_58 rfl (lv_at hl 5 rfl) ?_
    refine nv_addE (r := 0) hx hb rfl dX7_invert_59 ?_
    refine lv_aload_n hx hb dX7_invert_60 rfl (lv_at hl 6 rfl) ?_
    refine lv_aload_n hx hb dX7_invert_61 rfl (lv_at hl 6 rfl) ?_
    refine va_get (D := D) (ci := 7) (v := .ref (md 7)) (C := RX7) (T := TX7) (N := 20) hx hb hts hiX7 hown hK hP 0 rfl rfl 8 (by decide) hf29 (fun _ h9 => h9) rfl dX7_invert_62 ?_
    refine lv_iconst (v := nI 3) hx hb dX7_invert_65 (by decide) ?_
    refine lv_iload_n hx hb dX7_invert_66 rfl (lv_at hl 3 rfl) ?_
    refine nv_mulE (r := 3) hx hb rfl dX7_invert_67 ?_
    refine lv_iload hx hb dX7_invert_68 (lv_at hl 1 rfl) ?_
    refine nv_addE (r := 4) hx hb rfl dX7_invert_70 ?_
    refine nv_iald hx hb hK hP 6 0 rfl rfl (by omega) (by decide) dX7_invert_71 ?_
    refine lv_aload_n hx hb dX7_invert_72 rfl (lv_at hl 6 rfl) ?_
    refine va_get (D := D) (ci := 7) (v := .ref (md 7)) (C := RX7) (T := TX7) (N := 20) hx hb hts hiX7 hown hK hP 0 rfl rfl 8 (by decide) hf29 (fun _ h9 => h9) rfl dX7_invert_73 ?_
    refine lv_iconst (v := nI 3) hx hb dX7_invert_76 (by decide) ?_
    refine lv_iload_n hx hb dX7_invert_77 rfl (lv_at hl 3 rfl) ?_
    refine nv_mulE (r := 3) hx hb rfl dX7_invert_78 ?_
    refine lv_iload hx hb dX7_invert_79 (lv_at hl 0 rfl) ?_
    refine nv_addE (r := 5) hx hb rfl dX7_invert_81 ?_
    refine nv_iald hx hb hK hP 6 0 rfl rfl (by omega) (by decide) dX7_invert_82 ?_
    refine lv_aload_n hx hb dX7_invert_83 rfl (lv_at hl 6 rfl) ?_
    refine va_get (D := D) (ci := 7) (v := .ref (md 7)) (C := RX7) (T := TX7) (N := 20) hx hb hts hiX7 hown hK hP 0 rfl rfl 8 (by decide) hf29 (fun _ h9 => h9) rfl dX7_invert_84 ?_
    refine lv_iconst (v := nI 3) hx hb dX7_invert_87 (by decide) ?_
    refine lv_iload hx hb dX7_invert_88 (lv_at hl 2 rfl) ?_
    refine nv_mulE (r := 6) hx hb rfl dX7_invert_90 ?_
    refine lv_iload hx hb dX7_invert_91 (lv_at hl 1 rfl) ?_
    refine nv_addE (r := 7) hx hb rfl dX7_invert_93 ?_
    refine nv_iald hx hb hK hP 6 0 rfl rfl (by omega) (by decide) dX7_invert_94 ?_
    refine lv_aload_n hx hb dX7_invert_95 rfl (lv_at hl 6 rfl) ?_
    refine va_get (D := D) (ci := 7) (v := .ref (md 7)) (C := RX7) (T := TX7) (N := 20) hx hb hts hiX7 hown hK hP 0 rfl rfl 8 (by decide) hf29 (fun _ h9 => h9) rfl dX7_invert_96 ?_
    refine lv_iconst (v := nI 3) hx hb dX7_invert_99 (by decide) ?_
    refine lv_iload hx hb dX7_invert_100 (lv_at hl 2 rfl) ?_
    refine nv_mulE (r := 6) hx hb rfl dX7_invert_102 ?_
    refine lv_iload hx hb dX7_invert_103 (lv_at hl 0 rfl) ?_
    refine nv_addE (r := 8) hx hb rfl dX7_invert_105 ?_
    refine nv_iald hx hb hK hP 6 0 rfl rfl (by omega) (by decide) dX7_invert_106 ?_
    refine ctR_V (As := [.int (nI (mp 4)), .int (nI (mp 5)), .int (nI (mp 7)), .int (nI (mp 8))]) (rest := [.int (nI 0), .ref (md 14)]) (r := .int (nI (fcw q (mp 4) (mp 5) (mp 7) (mp 8)))) ⟨hx, hb, hml, hown, hts⟩ (c_X7_minor l D cI cZ md q w su po xs ys zs hM (mp 4) (mp 5) (mp 7) (mp 8) (by omega) (by omega) (by omega) (by omega)) (cwV 4 hts gX7_invert_X7_minor rfl rfl rfl hdV_X7_minor ⟨Nat.le_of_ble_eq_true rfl, Nat.le_of_ble_eq_true rfl⟩) hK hN hP [0, 1, 2, 3, 4, 5] rfl 0 7 rfl rfl rfl hl.1 rfl (Nat.le_of_ble_eq_true rfl) ⟨Nat.zero_le _, Nat.zero_le _⟩ dX7_invert_107 ?_
    have hh_2 : fcw q (mp 4) (mp 5) (mp 7) (mp 8) < q := fcw_lt hM.1 (by omega) (by omega) (by omega) (by omega)
    refine nv_iast hx hb hK hP hD hS 7 0 rfl rfl (by omega) (by decide) dX7_invert_110 (fun H locs hP hD hS => ?_)
    have hP : va_P D vwCl [(md 0, .inr (7, [.int (nI q), .int (nI (nn q)), .ref (md 1), .ref (md 2), .ref (md 3), .ref (md 4), .ref (md 5), .ref (md 6), .ref (md 7), .ref (md 8), .ref (md 9), .ref (md 10), .ref (md 11), .ref (md 12), .ref (md 13), .ref (md 14), .ref (md 15), .ref (md 16), .int (nI w), .ref (md 17)])), (md 1, .inl (cI, 81, .inl (nF su))), (md 2, .inl (cI, 81, .inl (nF po))), (md 3, .inl (cI, 91, .inl (nF xs))), (md 4, .inl (cI, 91, .inl (nF ys))), (md 5, .inl (cI, 91, .inl (nF zs))), (md 7, .inl (cI, 9, .inl (nF mp))), (md 14, .inl (cI, 9, .inl (nF (upN ot 0 (fcw q (mp 4) (mp 5) (mp 7) (mp 8))))))] H := hP
    have hD : va_D A [(md 0, .inr (7, [.int (nI q), .int (nI (nn q)), .ref (md 1), .ref (md 2), .ref (md 3), .ref (md 4), .ref (md 5), .ref (md 6), .ref (md 7), .ref (md 8), .ref (md 9), .ref (md 10), .ref (md 11), .ref (md 12), .ref (md 13), .ref (md 14), .ref (md 15), .ref (md 16), .int (nI w), .ref (md 17)])), (md 1, .inl (cI, 81, .inl (nF su))), (md 2, .inl (cI, 81, .inl (nF po))), (md 3, .inl (cI, 91, .inl (nF xs))), (md 4, .inl (cI, 91, .inl (nF ys))), (md 5, .inl (cI, 91, .inl (nF zs))), (md 7, .inl (cI, 9, .inl (nF mp))), (md 14, .inl (cI, 9, .inl (nF (upN ot 0 (fcw q (mp 4) (mp 5) (mp 7) (mp 8))))))] := hD
    refine lv_iinc (v := nI 1) (lv' := [(2, .int (nI 1)), (6, .int (nI 2)), (5, .int (nI 1)), (4, .int (nI 2)), (3, .int (nI 1)), (1, .int (nI 0)), (0, .ref (md 0))]) hx hb dX7_invert_111 hl (k := 4) rfl (nI_inc 0) (by decide) rfl (fun ls hl => ?_)
    refine lv_goto (tgt := 19) hx hb dX7_invert_114 (by decide) ?_
    refine lv_iload_n hx hb dX7_invert_19 rfl (lv_at hl 0 rfl) ?_
    refine lv_iconst (v := nI 3) hx hb dX7_invert_20 (by decide) ?_
    refine nv_icmp_ge (tgt := 117) hx hb (by decide) (by decide) dX7_invert_21 (by decide) (fun c21 => absurd c21 (by omega)) (fun c21 => ?_)
    refine lv_iload_n hx hb dX7_invert_24 rfl (lv_at hl 5 rfl) ?_
    refine lv_iconst (v := nI 1) hx hb dX7_invert_25 (by decide) ?_
    refine nv_addE (r := 1) hx hb rfl dX7_invert_26 ?_
    refine lv_iconst (v := nI 3) hx hb dX7_invert_27 (by decide) ?_
    refine nv_remE (r := 1) hx hb (by decide) (by decide) (by decide) rfl dX7_invert_28 ?_
    refine lv_istore_n (lv' := [(3, .int (nI 1)), (2, .int (nI 1)), (6, .int (nI 2)), (5, .int (nI 1)), (4, .int (nI 2)), (1, .int (nI 0)), (0, .ref (md 0))]) hx hb dX7_invert_29 rfl hl (by decide) rfl (fun ls hl => ?_)
    refine lv_iload_n hx hb dX7_invert_30 rfl (lv_at hl 5 rfl) ?_
    refine lv_iconst (v := nI 2) hx hb dX7_invert_31 (by decide) ?_
    refine nv_addE (r := 2) hx hb rfl dX7_invert_32 ?_
    refine lv_iconst (v := nI 3) hx hb dX7_invert_33 (by decide) ?_
    refine nv_remE (r := 2) hx hb (by decide) (by decide) (by decide) rfl dX7_invert_34 ?_
    refine lv_istore (lv' := [(4, .int (nI 2)), (3, .int (nI 1)), (2, .int (nI 1)), (6, .int (nI 2)), (5, .int (nI 1)), (1, .int (nI 0)), (0, .ref (md 0))]) hx hb dX7_invert_35 hl (by decide) rfl (fun ls hl => ?_)
    refine lv_iload_n hx hb dX7_invert_37 rfl (lv_at hl 2 rfl) ?_
    refine lv_iconst (v := nI 1) hx hb dX7_invert_38 (by decide) ?_
    refine nv_addE (r := 2) hx hb rfl dX7_invert_39 ?_
    refine lv_iconst (v := nI 3) hx hb dX7_invert_40 (by decide) ?_
    refine nv_remE (r := 2) hx hb (by decide) (by decide) (by decide) rfl dX7_invert_41 ?_
    refine lv_istore (lv' := [(5, .int (nI 2)), (4, .int (nI 2)), (3, .int (nI 1)), (2, .int (nI 1)), (6, .int (nI 2)), (1, .int (nI 0)), (0, .ref (md 0))]) hx hb dX7_invert_42 hl (by decide) rfl (fun ls hl => ?_)
    refine lv_iload_n hx hb dX7_invert_44 rfl (lv_at hl 3 rfl) ?_
    refine lv_iconst (v := nI 2) hx hb dX7_invert_45 (by decide) ?_
    refine nv_addE (r := 3) hx hb rfl dX7_invert_46 ?_
    refine lv_iconst (v := nI 3) hx hb dX7_invert_47 (by decide) ?_
    refine nv_remE (r := 0) hx hb (by decide) (by decide) (by decide) rfl dX7_invert_48 ?_
    refine lv_istore (lv' := [(6, .int (nI 0)), (5, .int (nI 2)), (4, .int (nI 2)), (3, .int (nI 1)), (2, .int (nI 1)), (1, .int (nI 0)), (0, .ref (md 0))]) hx hb dX7_invert_49 hl (by decide) rfl (fun ls hl => ?_)
    refine lv_aload_n hx hb dX7_invert_51 rfl (lv_at hl 6 rfl) ?_
    refine va_get (D := D) (ci := 7) (v := .ref (md 14)) (C := RX7) (T := TX7) (N := 20) hx hb hts hiX7 hown hK hP 0 rfl rfl 15 (by decide) hf50 (fun _ h9 => h9) rfl dX7_invert_52 ?_
    refine lv_iconst (v := nI 3) hx hb dX7_invert_55 (by decide) ?_
    refine lv_iload_n hx hb dX7_invert_56 rfl (lv_at hl 4 rfl) ?_
    refine nv_mulE (r := 3) hx hb rfl dX7_invert_57 ?_
    refine lv_iload_n hx hb dX7_invert_58 rfl (lv_at hl 5 rfl) ?_
    refine nv_addE (r := 3) hx hb rfl dX7_invert_59 ?_
    refine lv_aload_n hx hb dX7_invert_60 rfl (lv_at hl 6 rfl) ?_
    refine lv_aload_n hx hb dX7_invert_61 rfl (lv_at hl 6 rfl) ?_
    refine va_get (D := D) (ci := 7) (v := .ref (md 7)) (C := RX7) (T := TX7) (N := 20) hx hb hts hiX7 hown hK hP 0 rfl rfl 8 (by decide) hf29 (fun _ h9 => h9) rfl dX7_invert_62 ?_
    refine lv_iconst (v := nI 3) hx hb dX7_invert_65 (by decide) ?_
    refine lv_iload_n hx hb dX7_invert_66 rfl (lv_at hl 3 rfl) ?_
    refine nv_mulE (r := 3) hx hb rfl dX7_invert_67 ?_
    refine lv_iload hx hb dX7_invert_68 (lv_at hl 1 rfl) ?_
    refine nv_addE (r := 5) hx hb rfl dX7_invert_70 ?_
    refine nv_iald hx hb hK hP 6 0 rfl rfl (by omega) (by decide) dX7_invert_71 ?_
    refine lv_aload_n hx hb dX7_invert_72 rfl (lv_at hl 6 rfl) ?_
    refine va_get (D := D) (ci := 7) (v := .ref (md 7)) (C := RX7) (T := TX7) (N := 20) hx hb hts hiX7 hown hK hP 0 rfl rfl 8 (by decide) hf29 (fun _ h9 => h9) rfl dX7_invert_73 ?_
    refine lv_iconst (v := nI 3) hx hb dX7_invert_76 (by decide) ?_
    refine lv_iload_n hx hb dX7_invert_77 rfl (lv_at hl 3 rfl) ?_
    refine nv_mulE (r := 3) hx hb rfl dX7_invert_78 ?_
    refine lv_iload hx hb dX7_invert_79 (lv_at hl 0 rfl) ?_
    refine nv_addE (r := 3) hx hb rfl dX7_invert_81 ?_
    refine nv_iald hx hb hK hP 6 0 rfl rfl (by omega) (by decide) dX7_invert_82 ?_
    refine lv_aload_n hx hb dX7_invert_83 rfl (lv_at hl 6 rfl) ?_
    refine va_get (D := D) (ci := 7) (v := .ref (md 7)) (C := RX7) (T := TX7) (N := 20) hx hb hts hiX7 hown hK hP 0 rfl rfl 8 (by decide) hf29 (fun _ h9 => h9) rfl dX7_invert_84 ?_
    refine lv_iconst (v := nI 3) hx hb dX7_invert_87 (by decide) ?_
    refine lv_iload hx hb dX7_invert_88 (lv_at hl 2 rfl) ?_
    refine nv_mulE (r := 6) hx hb rfl dX7_invert_90 ?_
    refine lv_iload hx hb dX7_invert_91 (lv_at hl 1 rfl) ?_
    refine nv_addE (r := 8) hx hb rfl dX7_invert_93 ?_
    refine nv_iald hx hb hK hP 6 0 rfl rfl (by omega) (by decide) dX7_invert_94 ?_
    refine lv_aload_n hx hb dX7_invert_95 rfl (lv_at hl 6 rfl) ?_
    refine va_get (D := D) (ci := 7) (v := .ref (md 7)) (C := RX7) (T := TX7) (N := 20) hx hb hts hiX7 hown hK hP 0 rfl rfl 8 (by decide) hf29 (fun _ h9 => h9) rfl dX7_invert_96 ?_
    refine lv_iconst (v := nI 3) hx hb dX7_invert_99 (by decide) ?_
    refine lv_iload hx hb dX7_invert_100 (lv_at hl 2 rfl) ?_
    refine nv_mulE (r := 6) hx hb rfl dX7_invert_102 ?_
    refine lv_iload hx hb dX7_invert_103 (lv_at hl 0 rfl) ?_
    refine nv_addE (r := 6) hx hb rfl dX7_invert_105 ?_
    refine nv_iald hx hb hK hP 6 0 rfl rfl (by omega) (by decide) dX7_invert_106 ?_
    refine ctR_V (As := [.int (nI (mp 5)), .int (nI (mp 3)), .int (nI (mp 8)), .int (nI (mp 6))]) (rest := [.int (nI 3), .ref (md 14)]) (r := .int (nI (fcw q (mp 5) (mp 3) (mp 8) (mp 6)))) ⟨hx, hb, hml, hown, hts⟩ (c_X7_minor l D cI cZ md q w su po xs ys zs hM (mp 5) (mp 3) (mp 8) (mp 6) (by omega) (by omega) (by omega) (by omega)) (cwV 4 hts gX7_invert_X7_minor rfl rfl rfl hdV_X7_minor ⟨Nat.le_of_ble_eq_true rfl, Nat.le_of_ble_eq_true rfl⟩) hK hN hP [0, 1, 2, 3, 4, 5] rfl 0 7 rfl rfl rfl hl.1 rfl (Nat.le_of_ble_eq_true rfl) ⟨Nat.zero_le _, Nat.zero_le _⟩ dX7_invert_107 ?_
    have hh_3 : fcw q (mp 5) (mp 3) (mp 8) (mp 6) < q := fcw_lt hM.1 (by omega) (by omega) (by omega) (by omega)
    refine nv_iast hx hb hK hP hD hS 7 0 rfl rfl (by omega) (by decide) dX7_invert_110 (fun H locs hP hD hS => ?_)
    have hP : va_P D vwCl [(md 0, .inr (7, [.int (nI q), .int (nI (nn q)), .ref (md 1), .ref (md 2), .ref (md 3), .ref (md 4), .ref (md 5), .ref (md 6), .ref (md 7), .ref (md 8), .ref (md 9), .ref (md 10), .ref (md 11), .ref (md 12), .ref (md 13), .ref (md 14), .ref (md 15), .ref (md 16), .int (nI w), .ref (md 17)])), (md 1, .inl (cI, 81, .inl (nF su))), (md 2, .inl (cI, 81, .inl (nF po))), (md 3, .inl (cI, 91, .inl (nF xs))), (md 4, .inl (cI, 91, .inl (nF ys))), (md 5, .inl (cI, 91, .inl (nF zs))), (md 7, .inl (cI, 9, .inl (nF mp))), (md 14, .inl (cI, 9, .inl (nF (upN (upN ot 0 (fcw q (mp 4) (mp 5) (mp 7) (mp 8))) 3 (fcw q (mp 5) (mp 3) (mp 8) (mp 6))))))] H := hP
    have hD : va_D A [(md 0, .inr (7, [.int (nI q), .int (nI (nn q)), .ref (md 1), .ref (md 2), .ref (md 3), .ref (md 4), .ref (md 5), .ref (md 6), .ref (md 7), .ref (md 8), .ref (md 9), .ref (md 10), .ref (md 11), .ref (md 12), .ref (md 13), .ref (md 14), .ref (md 15), .ref (md 16), .int (nI w), .ref (md 17)])), (md 1, .inl (cI, 81, .inl (nF su))), (md 2, .inl (cI, 81, .inl (nF po))), (md 3, .inl (cI, 91, .inl (nF xs))), (md 4, .inl (cI, 91, .inl (nF ys))), (md 5, .inl (cI, 91, .inl (nF zs))), (md 7, .inl (cI, 9, .inl (nF mp))), (md 14, .inl (cI, 9, .inl (nF (upN (upN ot 0 (fcw q (mp 4) (mp 5) (mp 7) (mp 8))) 3 (fcw q (mp 5) (mp 3) (mp 8) (mp 6))))))] := hD
    refine lv_iinc (v := nI 2) (lv' := [(2, .int (nI 2)), (6, .int (nI 0)), (5, .int (nI 2)), (4, .int (nI 2)), (3, .int (nI 1)), (1, .int (nI 0)), (0, .ref (md 0))]) hx hb dX7_invert_111 hl (k := 4) rfl (nI_inc 1) (by decide) rfl (fun ls hl => ?_)
    refine lv_goto (tgt := 19) hx hb dX7_invert_114 (by decide) ?_
    refine lv_iload_n hx hb dX7_invert_19 rfl (lv_at hl 0 rfl) ?_
    refine lv_iconst (v := nI 3) hx hb dX7_invert_20 (by decide) ?_
    refine nv_icmp_ge (tgt := 117) hx hb (by decide) (by decide) dX7_invert_21 (by decide) (fun c21 => absurd c21 (by omega)) (fun c21 => ?_)
    refine lv_iload_n hx hb dX7_invert_24 rfl (lv_at hl 5 rfl) ?_
    refine lv_iconst (v := nI 1) hx hb dX7_invert_25 (by decide) ?_
    refine nv_addE (r := 1) hx hb rfl dX7_invert_26 ?_
    refine lv_iconst (v := nI 3) hx hb dX7_invert_27 (by decide) ?_
    refine nv_remE (r := 1) hx hb (by decide) (by decide) (by decide) rfl dX7_invert_28 ?_
    refine lv_istore_n (lv' := [(3, .int (nI 1)), (2, .int (nI 2)), (6, .int (nI 0)), (5, .int (nI 2)), (4, .int (nI 2)), (1, .int (nI 0)), (0, .ref (md 0))]) hx hb dX7_invert_29 rfl hl (by decide) rfl (fun ls hl => ?_)
    refine lv_iload_n hx hb dX7_invert_30 rfl (lv_at hl 5 rfl) ?_
    refine lv_iconst (v := nI 2) hx hb dX7_invert_31 (by decide) ?_
    refine nv_addE (r := 2) hx hb rfl dX7_invert_32 ?_
    refine lv_iconst (v := nI 3) hx hb dX7_invert_33 (by decide) ?_
    refine nv_remE (r := 2) hx hb (by decide) (by decide) (by decide) rfl dX7_invert_34 ?_
    refine lv_istore (lv' := [(4, .int (nI 2)), (3, .int (nI 1)), (2, .int (nI 2)), (6, .int (nI 0)), (5, .int (nI 2)), (1, .int (nI 0)), (0, .ref (md 0))]) hx hb dX7_invert_35 hl (by decide) rfl (fun ls hl => ?_)
    refine lv_iload_n hx hb dX7_invert_37 rfl (lv_at hl 2 rfl) ?_
    refine lv_iconst (v := nI 1) hx hb dX7_invert_38 (by decide) ?_
    refine nv_addE (r := 3) hx hb rfl dX7_invert_39 ?_
    refine lv_iconst (v := nI 3) hx hb dX7_invert_40 (by decide) ?_
    refine nv_remE (r := 0) hx hb (by decide) (by decide) (by decide) rfl dX7_invert_41 ?_
    refine lv_istore (lv' := [(5, .int (nI 0)), (4, .int (nI 2)), (3, .int (nI 1)), (2, .int (nI 2)), (6, .int (nI 0)), (1, .int (nI 0)), (0, .ref (md 0))]) hx hb dX7_invert_42 hl (by decide) rfl (fun ls hl => ?_)
    refine lv_iload_n hx hb dX7_invert_44 rfl (lv_at hl 3 rfl) ?_
    refine lv_iconst (v := nI 2) hx hb dX7_invert_45 (by decide) ?_
    refine nv_addE (r := 4) hx hb rfl dX7_invert_46 ?_
    refine lv_iconst (v := nI 3) hx hb dX7_invert_47 (by decide) ?_
    refine nv_remE (r := 1) hx hb (by decide) (by decide) (by decide) rfl dX7_invert_48 ?_
    refine lv_istore (lv' := [(6, .int (nI 1)), (5, .int (nI 0)), (4, .int (nI 2)), (3, .int (nI 1)), (2, .int (nI 2)), (1, .int (nI 0)), (0, .ref (md 0))]) hx hb dX7_invert_49 hl (by decide) rfl (fun ls hl => ?_)
    refine lv_aload_n hx hb dX7_invert_51 rfl (lv_at hl 6 rfl) ?_
    refine va_get (D := D) (ci := 7) (v := .ref (md 14)) (C := RX7) (T := TX7) (N := 20) hx hb hts hiX7 hown hK hP 0 rfl rfl 15 (by decide) hf50 (fun _ h9 => h9) rfl dX7_invert_52 ?_
    refine lv_iconst (v := nI 3) hx hb dX7_invert_55 (by decide) ?_
    refine lv_iload_n hx hb dX7_invert_56 rfl (lv_at hl 4 rfl) ?_
    refine nv_mulE (r := 6) hx hb rfl dX7_invert_57 ?_
    refine lv_iload_n hx hb dX7_invert_58 rfl (lv_at hl 5 rfl) ?_
    refine nv_addE (r := 6) hx hb rfl dX7_invert_59 ?_
    refine lv_aload_n hx hb dX7_invert_60 rfl (lv_at hl 6 rfl) ?_
    refine lv_aload_n hx hb dX7_invert_61 rfl (lv_at hl 6 rfl) ?_
    refine va_get (D := D) (ci := 7) (v := .ref (md 7)) (C := RX7) (T := TX7) (N := 20) hx hb hts hiX7 hown hK hP 0 rfl rfl 8 (by decide) hf29 (fun _ h9 => h9) rfl dX7_invert_62 ?_
    refine lv_iconst (v := nI 3) hx hb dX7_invert_65 (by decide) ?_
    refine lv_iload_n hx hb dX7_invert_66 rfl (lv_at hl 3 rfl) ?_
    refine nv_mulE (r := 3) hx hb rfl dX7_invert_67 ?_
    refine lv_iload hx hb dX7_invert_68 (lv_at hl 1 rfl) ?_
    refine nv_addE (r := 3) hx hb rfl dX7_invert_70 ?_
    refine nv_iald hx hb hK hP 6 0 rfl rfl (by omega) (by decide) dX7_invert_71 ?_
    refine lv_aload_n hx hb dX7_invert_72 rfl (lv_at hl 6 rfl) ?_
    refine va_get (D := D) (ci := 7) (v := .ref (md 7)) (C := RX7) (T := TX7) (N := 20) hx hb hts hiX7 hown hK hP 0 rfl rfl 8 (by decide) hf29 (fun _ h9 => h9) rfl dX7_invert_73 ?_
    refine lv_iconst (v := nI 3) hx hb dX7_invert_76 (by decide) ?_
    refine lv_iload_n hx hb dX7_invert_77 rfl (lv_at hl 3 rfl) ?_
    refine nv_mulE (r := 3) hx hb rfl dX7_invert_78 ?_
    refine lv_iload hx hb dX7_invert_79 (lv_at hl 0 rfl) ?_
    refine nv_addE (r := 4) hx hb rfl dX7_invert_81 ?_
    refine nv_iald hx hb hK hP 6 0 rfl rfl (by omega) (by decide) dX7_invert_82 ?_
    refine lv_aload_n hx hb dX7_invert_83 rfl (lv_at hl 6 rfl) ?_
    refine va_get (D := D) (ci := 7) (v := .ref (md 7)) (C := RX7) (T := TX7) (N := 20) hx hb hts hiX7 hown hK hP 0 rfl rfl 8 (by decide) hf29 (fun _ h9 => h9) rfl dX7_invert_84 ?_
    refine lv_iconst (v := nI 3) hx hb dX7_invert_87 (by decide) ?_
    refine lv_iload hx hb dX7_invert_88 (lv_at hl 2 rfl) ?_
    refine nv_mulE (r := 6) hx hb rfl dX7_invert_90 ?_
    refine lv_iload hx hb dX7_invert_91 (lv_at hl 1 rfl) ?_
    refine nv_addE (r := 6) hx hb rfl dX7_invert_93 ?_
    refine nv_iald hx hb hK hP 6 0 rfl rfl (by omega) (by decide) dX7_invert_94 ?_
    refine lv_aload_n hx hb dX7_invert_95 rfl (lv_at hl 6 rfl) ?_
    refine va_get (D := D) (ci := 7) (v := .ref (md 7)) (C := RX7) (T := TX7) (N := 20) hx hb hts hiX7 hown hK hP 0 rfl rfl 8 (by decide) hf29 (fun _ h9 => h9) rfl dX7_invert_96 ?_
    refine lv_iconst (v := nI 3) hx hb dX7_invert_99 (by decide) ?_
    refine lv_iload hx hb dX7_invert_100 (lv_at hl 2 rfl) ?_
    refine nv_mulE (r := 6) hx hb rfl dX7_invert_102 ?_
    refine lv_iload hx hb dX7_invert_103 (lv_at hl 0 rfl) ?_
    refine nv_addE (r := 7) hx hb rfl dX7_invert_105 ?_
    refine nv_iald hx hb hK hP 6 0 rfl rfl (by omega) (by decide) dX7_invert_106 ?_
    refine ctR_V (As := [.int (nI (mp 3)), .int (nI (mp 4)), .int (nI (mp 6)), .int (nI (mp 7))]) (rest := [.int (nI 6), .ref (md 14)]) (r := .int (nI (fcw q (mp 3) (mp 4) (mp 6) (mp 7)))) ⟨hx, hb, hml, hown, hts⟩ (c_X7_minor l D cI cZ md q w su po xs ys zs hM (mp 3) (mp 4) (mp 6) (mp 7) (by omega) (by omega) (by omega) (by omega)) (cwV 4 hts gX7_invert_X7_minor rfl rfl rfl hdV_X7_minor ⟨Nat.le_of_ble_eq_true rfl, Nat.le_of_ble_eq_true rfl⟩) hK hN hP [0, 1, 2, 3, 4, 5] rfl 0 7 rfl rfl rfl hl.1 rfl (Nat.le_of_ble_eq_true rfl) ⟨Nat.zero_le _, Nat.zero_le _⟩ dX7_invert_107 ?_
    have hh_4 : fcw q (mp 3) (mp 4) (mp 6) (mp 7) < q := fcw_lt hM.1 (by omega) (by omega) (by omega) (by omega)
    refine nv_iast hx hb hK hP hD hS 7 0 rfl rfl (by omega) (by decide) dX7_invert_110 (fun H locs hP hD hS => ?_)
    have hP : va_P D vwCl [(md 0, .inr (7, [.int (nI q), .int (nI (nn q)), .ref (md 1), .ref (md 2), .ref (md 3), .ref (md 4), .ref (md 5), .ref (md 6), .ref (md 7), .ref (md 8), .ref (md 9), .ref (md 10), .ref (md 11), .ref (md 12), .ref (md 13), .ref (md 14), .ref (md 15), .ref (md 16), .int (nI w), .ref (md 17)])), (md 1, .inl (cI, 81, .inl (nF su))), (md 2, .inl (cI, 81, .inl (nF po))), (md 3, .inl (cI, 91, .inl (nF xs))), (md 4, .inl (cI, 91, .inl (nF ys))), (md 5, .inl (cI, 91, .inl (nF zs))), (md 7, .inl (cI, 9, .inl (nF mp))), (md 14, .inl (cI, 9, .inl (nF (upN (upN (upN ot 0 (fcw q (mp 4) (mp 5) (mp 7) (mp 8))) 3 (fcw q (mp 5) (mp 3) (mp 8) (mp 6))) 6 (fcw q (mp 3) (mp 4) (mp 6) (mp 7))))))] H := hP
    have hD : va_D A [(md 0, .inr (7, [.int (nI q), .int (nI (nn q)), .ref (md 1), .ref (md 2), .ref (md 3), .ref (md 4), .ref (md 5), .ref (md 6), .ref (md 7), .ref (md 8), .ref (md 9), .ref (md 10), .ref (md 11), .ref (md 12), .ref (md 13), .ref (md 14), .ref (md 15), .ref (md 16), .int (nI w), .ref (md 17)])), (md 1, .inl (cI, 81, .inl (nF su))), (md 2, .inl (cI, 81, .inl (nF po))), (md 3, .inl (cI, 91, .inl (nF xs))), (md 4, .inl (cI, 91, .inl (nF ys))), (md 5, .inl (cI, 91, .inl (nF zs))), (md 7, .inl (cI, 9, .inl (nF mp))), (md 14, .inl (cI, 9, .inl (nF (upN (upN (upN ot 0 (fcw q (mp 4) (mp 5) (mp 7) (mp 8))) 3 (fcw q (mp 5) (mp 3) (mp 8) (mp 6))) 6 (fcw q (mp 3) (mp 4) (mp 6) (mp 7))))))] := hD
    refine lv_iinc (v := nI 3) (lv' := [(2, .int (nI 3)), (6, .int (nI 1)), (5, .int (nI 0)), (4, .int (nI 2)), (3, .int (nI 1)), (1, .int (nI 0)), (0, .ref (md 0))]) hx hb dX7_invert_111 hl (k := 4) rfl (nI_inc 2) (by decide) rfl (fun ls hl => ?_)
    refine lv_goto (tgt := 19) hx hb dX7_invert_114 (by decide) ?_
    refine lv_iload_n hx hb dX7_invert_19 rfl (lv_at hl 0 rfl) ?_
    refine lv_iconst (v := nI 3) hx hb dX7_invert_20 (by decide) ?_
    refine nv_icmp_ge (tgt := 117) hx hb (by decide) (by decide) dX7_invert_21 (by decide) (fun c21 => ?_) (fun c21 => absurd c21 (by omega))
    refine lv_iinc (v := nI 1) (lv' := [(1, .int (nI 1)), (2, .int (nI 3)), (6, .int (nI 1)), (5, .int (nI 0)), (4, .int (nI 2)), (3, .int (nI 1)), (0, .ref (md 0))]) hx hb dX7_invert_117 hl (k := 5) rfl (nI_inc 0) (by decide) rfl (fun ls hl => ?_)
    refine lv_goto (tgt := 12) hx hb dX7_invert_120 (by decide) ?_
    refine lv_iload_n hx hb dX7_invert_12 rfl (lv_at hl 0 rfl) ?_
    refine lv_iconst (v := nI 3) hx hb dX7_invert_13 (by decide) ?_
    refine nv_icmp_ge (tgt := 123) hx hb (by decide) (by decide) dX7_invert_14 (by decide) (fun c14 => absurd c14 (by omega)) (fun c14 => ?_)
    refine lv_iconst (v := nI 0) hx hb dX7_invert_17 (by decide) ?_
    refine lv_istore_n (lv' := [(2, .int (nI 0)), (1, .int (nI 1)), (6, .int (nI 1)), (5, .int (nI 0)), (4, .int (nI 2)), (3, .int (nI 1)), (0, .ref (md 0))]) hx hb dX7_invert_18 rfl hl (by decide) rfl (fun ls hl => ?_)
    refine lv_iload_n hx hb dX7_invert_19 rfl (lv_at hl 0 rfl) ?_
    refine lv_iconst (v := nI 3) hx hb dX7_invert_20 (by decide) ?_
    refine nv_icmp_ge (tgt := 117) hx hb (by decide) (by decide) dX7_invert_21 (by decide) (fun c21 => absurd c21 (by omega)) (fun c21 => ?_)
    refine lv_iload_n hx hb dX7_invert_24 rfl (lv_at hl 1 rfl) ?_
    refine lv_iconst (v := nI 1) hx hb dX7_invert_25 (by decide) ?_
    refine nv_addE (r := 2) hx hb rfl dX7_invert_26 ?_
    refine lv_iconst (v := nI 3) hx hb dX7_invert_27 (by decide) ?_
    refine nv_remE (r := 2) hx hb (by decide) (by decide) (by decide) rfl dX7_invert_28 ?_
    refine lv_istore_n (lv' := [(3, .int (nI 2)), (2, .int (nI 0)), (1, .int (nI 1)), (6, .int (nI 1)), (5, .int (nI 0)), (4, .int (nI 2)), (0, .ref (md 0))]) hx hb dX7_invert_29 rfl hl (by decide) rfl (fun ls hl => ?_)
    refine lv_iload_n hx hb dX7_invert_30 rfl (lv_at hl 2 rfl) ?_
    refine lv_iconst (v := nI 2) hx hb dX7_invert_31 (by decide) ?_
    refine nv_addE (r := 3) hx hb rfl dX7_invert_32 ?_
    refine lv_iconst (v := nI 3) hx hb dX7_invert_33 (by decide) ?_
    refine nv_remE (r := 0) hx hb (by decide) (by decide) (by decide) rfl dX7_invert_34 ?_
    refine lv_istore (lv' := [(4, .int (nI 0)), (3, .int (nI 2)), (2, .int (nI 0)), (1, .int (nI 1)), (6, .int (nI 1)), (5, .int (nI 0)), (0, .ref (md 0))]) hx hb dX7_invert_35 hl (by decide) rfl (fun ls hl => ?_)
    refine lv_iload_n hx hb dX7_invert_37 rfl (lv_at hl 2 rfl) ?_
    refine lv_iconst (v := nI 1) hx hb dX7_invert_38 (by decide) ?_
    refine nv_addE (r := 1) hx hb rfl dX7_invert_39 ?_
    refine lv_iconst (v := nI 3) hx hb dX7_invert_40 (by decide) ?_
    refine nv_remE (r := 1) hx hb (by decide) (by decide) (by decide) rfl dX7_invert_41 ?_
    refine lv_istore (lv' := [(5, .int (nI 1)), (4, .int (nI 0)), (3, .int (nI 2)), (2, .int (nI 0)), (1, .int (nI 1)), (6, .int (nI 1)), (0, .ref (md 0))]) hx hb dX7_invert_42 hl (by decide) rfl (fun ls hl => ?_)
    refine lv_iload_n hx hb dX7_invert_44 rfl (lv_at hl 3 rfl) ?_
    refine lv_iconst (v := nI 2) hx hb dX7_invert_45 (by decide) ?_
    refine nv_addE (r := 2) hx hb rfl dX7_invert_46 ?_
    refine lv_iconst (v := nI 3) hx hb dX7_invert_47 (by decide) ?_
    refine nv_remE (r := 2) hx hb (by decide) (by decide) (by decide) rfl dX7_invert_48 ?_
    refine lv_istore (lv' := [(6, .int (nI 2)), (5, .int (nI 1)), (4, .int (nI 0)), (3, .int (nI 2)), (2, .int (nI 0)), (1, .int (nI 1)), (0, .ref (md 0))]) hx hb dX7_invert_49 hl (by decide) rfl (fun ls hl => ?_)
    refine lv_aload_n hx hb dX7_invert_51 rfl (lv_at hl 6 rfl) ?_
    refine va_get (D := D) (ci := 7) (v := .ref (md 14)) (C := RX7) (T := TX7) (N := 20) hx hb hts hiX7 hown hK hP 0 rfl rfl 15 (by decide) hf50 (fun _ h9 => h9) rfl dX7_invert_52 ?_
    refine lv_iconst (v := nI 3) hx hb dX7_invert_55 (by decide) ?_
    refine lv_iload_n hx hb dX7_invert_56 rfl (lv_at hl 4 rfl) ?_
    refine nv_mulE (r := 0) hx hb rfl dX7_invert_57 ?_
    refine lv_iload_n hx hb dX7_invert_58 rfl (lv_at hl 5 rfl) ?_
    refine nv_addE (r := 1) hx hb rfl dX7_invert_59 ?_
    refine lv_aload_n hx hb dX7_invert_60 rfl (lv_at hl 6 rfl) ?_
    refine lv_aload_n hx hb dX7_invert_61 rfl (lv_at hl 6 rfl) ?_
    refine va_get (D := D) (ci := 7) (v := .ref (md 7)) (C := RX7) (T := TX7) (N := 20) hx hb hts hiX7 hown hK hP 0 rfl rfl 8 (by decide) hf29 (fun _ h9 => h9) rfl dX7_invert_62 ?_
    refine lv_iconst (v := nI 3) hx hb dX7_invert_65 (by decide) ?_
    refine lv_iload_n hx hb dX7_invert_66 rfl (lv_at hl 3 rfl) ?_
    refine nv_mulE (r := 6) hx hb rfl dX7_invert_67 ?_
    refine lv_iload hx hb dX7_invert_68 (lv_at hl 1 rfl) ?_
    refine nv_addE (r := 7) hx hb rfl dX7_invert_70 ?_
    refine nv_iald hx hb hK hP 6 0 rfl rfl (by omega) (by decide) dX7_invert_71 ?_
    refine lv_aload_n hx hb dX7_invert_72 rfl (lv_at hl 6 rfl) ?_
    refine va_get (D := D) (ci := 7) (v := .ref (md 7)) (C := RX7) (T := TX7) (N := 20) hx hb hts hiX7 hown hK hP 0 rfl rfl 8 (by decide) hf29 (fun _ h9 => h9) rfl dX7_invert_73 ?_
    refine lv_iconst (v := nI 3) hx hb dX7_invert_76 (by decide) ?_
    refine lv_iload_n hx hb dX7_invert_77 rfl (lv_at hl 3 rfl) ?_
    refine nv_mulE (r := 6) hx hb rfl dX7_invert_78 ?_
    refine lv_iload hx hb dX7_invert_79 (lv_at hl 0 rfl) ?_
    refine nv_addE (r := 8) hx hb rfl dX7_invert_81 ?_
    refine nv_iald hx hb hK hP 6 0 rfl rfl (by omega) (by decide) dX7_invert_82 ?_
    refine lv_aload_n hx hb dX7_invert_83 rfl (lv_at hl 6 rfl) ?_
    refine va_get (D := D) (ci := 7) (v := .ref (md 7)) (C := RX7) (T := TX7) (N := 20) hx hb hts hiX7 hown hK hP 0 rfl rfl 8 (by decide) hf29 (fun _ h9 => h9) rfl dX7_invert_84 ?_
    refine lv_iconst (v := nI 3) hx hb dX7_invert_87 (by decide) ?_
    refine lv_iload hx hb dX7_invert_88 (lv_at hl 2 rfl) ?_
    refine nv_mulE (r := 0) hx hb rfl dX7_invert_90 ?_
    refine lv_iload hx hb dX7_invert_91 (lv_at hl 1 rfl) ?_
    refine nv_addE (r := 1) hx hb rfl dX7_invert_93 ?_
    refine nv_iald hx hb hK hP 6 0 rfl rfl (by omega) (by decide) dX7_invert_94 ?_
    refine lv_aload_n hx hb dX7_invert_95 rfl (lv_at hl 6 rfl) ?_
    refine va_get (D := D) (ci := 7) (v := .ref (md 7)) (C := RX7) (T := TX7) (N := 20) hx hb hts hiX7 hown hK hP 0 rfl rfl 8 (by decide) hf29 (fun _ h9 => h9) rfl dX7_invert_96 ?_
    refine lv_iconst (v := nI 3) hx hb dX7_invert_99 (by decide) ?_
    refine lv_iload hx hb dX7_invert_100 (lv_at hl 2 rfl) ?_
    refine nv_mulE (r := 0) hx hb rfl dX7_invert_102 ?_
    refine lv_iload hx hb dX7_invert_103 (lv_at hl 0 rfl) ?_
    refine nv_addE (r := 2) hx hb rfl dX7_invert_105 ?_
    refine nv_iald hx hb hK hP 6 0 rfl rfl (by omega) (by decide) dX7_invert_106 ?_
    refine ctR_V (As := [.int (nI (mp 7)), .int (nI (mp 8)), .int (nI (mp 1)), .int (nI (mp 2))]) (rest := [.int (nI 1), .ref (md 14)]) (r := .int (nI (fcw q (mp 7) (mp 8) (mp 1) (mp 2)))) ⟨hx, hb, hml, hown, hts⟩ (c_X7_minor l D cI cZ md q w su po xs ys zs hM (mp 7) (mp 8) (mp 1) (mp 2) (by omega) (by omega) (by omega) (by omega)) (cwV 4 hts gX7_invert_X7_minor rfl rfl rfl hdV_X7_minor ⟨Nat.le_of_ble_eq_true rfl, Nat.le_of_ble_eq_true rfl⟩) hK hN hP [0, 1, 2, 3, 4, 5] rfl 0 7 rfl rfl rfl hl.1 rfl (Nat.le_of_ble_eq_true rfl) ⟨Nat.zero_le _, Nat.zero_le _⟩ dX7_invert_107 ?_
    have hh_5 : fcw q (mp 7) (mp 8) (mp 1) (mp 2) < q := fcw_lt hM.1 (by omega) (by omega) (by omega) (by omega)
    refine nv_iast hx hb hK hP hD hS 7 0 rfl rfl (by omega) (by decide) dX7_invert_110 (fun H locs hP hD hS => ?_)
    have hP : va_P D vwCl [(md 0, .inr (7, [.int (nI q), .int (nI (nn q)), .ref (md 1), .ref (md 2), .ref (md 3), .ref (md 4), .ref (md 5), .ref (md 6), .ref (md 7), .ref (md 8), .ref (md 9), .ref (md 10), .ref (md 11), .ref (md 12), .ref (md 13), .ref (md 14), .ref (md 15), .ref (md 16), .int (nI w), .ref (md 17)])), (md 1, .inl (cI, 81, .inl (nF su))), (md 2, .inl (cI, 81, .inl (nF po))), (md 3, .inl (cI, 91, .inl (nF xs))), (md 4, .inl (cI, 91, .inl (nF ys))), (md 5, .inl (cI, 91, .inl (nF zs))), (md 7, .inl (cI, 9, .inl (nF mp))), (md 14, .inl (cI, 9, .inl (nF (upN (upN (upN (upN ot 0 (fcw q (mp 4) (mp 5) (mp 7) (mp 8))) 3 (fcw q (mp 5) (mp 3) (mp 8) (mp 6))) 6 (fcw q (mp 3) (mp 4) (mp 6) (mp 7))) 1 (fcw q (mp 7) (mp 8) (mp 1) (mp 2))))))] H := hP
    have hD : va_D A [(md 0, .inr (7, [.int (nI q), .int (nI (nn q)), .ref (md 1), .ref (md 2), .ref (md 3), .ref (md 4), .ref (md 5), .ref (md 6), .ref (md 7), .ref (md 8), .ref (md 9), .ref (md 10), .ref (md 11), .ref (md 12), .ref (md 13), .ref (md 14), .ref (md 15), .ref (md 16), .int (nI w), .ref (md 17)])), (md 1, .inl (cI, 81, .inl (nF su))), (md 2, .inl (cI, 81, .inl (nF po))), (md 3, .inl (cI, 91, .inl (nF xs))), (md 4, .inl (cI, 91, .inl (nF ys))), (md 5, .inl (cI, 91, .inl (nF zs))), (md 7, .inl (cI, 9, .inl (nF mp))), (md 14, .inl (cI, 9, .inl (nF (upN (upN (upN (upN ot 0 (fcw q (mp 4) (mp 5) (mp 7) (mp 8))) 3 (fcw q (mp 5) (mp 3) (mp 8) (mp 6))) 6 (fcw q (mp 3) (mp 4) (mp 6) (mp 7))) 1 (fcw q (mp 7) (mp 8) (mp 1) (mp 2))))))] := hD
    refine lv_iinc (v := nI 1) (lv' := [(2, .int (nI 1)), (6, .int (nI 2)), (5, .int (nI 1)), (4, .int (nI 0)), (3, .int (nI 2)), (1, .int (nI 1)), (0, .ref (md 0))]) hx hb dX7_invert_111 hl (k := 4) rfl (nI_inc 0) (by decide) rfl (fun ls hl => ?_)
    refine lv_goto (tgt := 19) hx hb dX7_invert_114 (by decide) ?_
    refine lv_iload_n hx hb dX7_invert_19 rfl (lv_at hl 0 rfl) ?_
    refine lv_iconst (v := nI 3) hx hb dX7_invert_20 (by decide) ?_
    refine nv_icmp_ge (tgt := 117) hx hb (by decide) (by decide) dX7_invert_21 (by decide) (fun c21 => absurd c21 (by omega)) (fun c21 => ?_)
    refine lv_iload_n hx hb dX7_invert_24 rfl (lv_at hl 5 rfl) ?_
    refine lv_iconst (v := nI 1) hx hb dX7_invert_25 (by decide) ?_
    refine nv_addE (r := 2) hx hb rfl dX7_invert_26 ?_
    refine lv_iconst (v := nI 3) hx hb dX7_invert_27 (by decide) ?_
    refine nv_remE (r := 2) hx hb (by decide) (by decide) (by decide) rfl dX7_invert_28 ?_
    refine lv_istore_n (lv' := [(3, .int (nI 2)), (2, .int (nI 1)), (6, .int (nI 2)), (5, .int (nI 1)), (4, .int (nI 0)), (1, .int (nI 1)), (0, .ref (md 0))]) hx hb dX7_invert_29 rfl hl (by decide) rfl (fun ls hl => ?_)
    refine lv_iload_n hx hb dX7_invert_30 rfl (lv_at hl 5 rfl) ?_
    refine lv_iconst (v := nI 2) hx hb dX7_invert_31 (by decide) ?_
    refine nv_addE (r := 3) hx hb rfl dX7_invert_32 ?_
    refine lv_iconst (v := nI 3) hx hb dX7_invert_33 (by decide) ?_
    refine nv_remE (r := 0) hx hb (by decide) (by decide) (by decide) rfl dX7_invert_34 ?_
    refine lv_istore (lv' := [(4, .int (nI 0)), (3, .int (nI 2)), (2, .int (nI 1)), (6, .int (nI 2)), (5, .int (nI 1)), (1, .int (nI 1)), (0, .ref (md 0))]) hx hb dX7_invert_35 hl (by decide) rfl (fun ls hl => ?_)
    refine lv_iload_n hx hb dX7_invert_37 rfl (lv_at hl 2 rfl) ?_
    refine lv_iconst (v := nI 1) hx hb dX7_invert_38 (by decide) ?_
    refine nv_addE (r := 2) hx hb rfl dX7_invert_39 ?_
    refine lv_iconst (v := nI 3) hx hb dX7_invert_40 (by decide) ?_
    refine nv_remE (r := 2) hx hb (by decide) (by decide) (by decide) rfl dX7_invert_41 ?_
    refine lv_istore (lv' := [(5, .int (nI 2)), (4, .int (nI 0)), (3, .int (nI 2)), (2, .int (nI 1)), (6, .int (nI 2)), (1, .int (nI 1)), (0, .ref (md 0))]) hx hb dX7_invert_42 hl (by decide) rfl (fun ls hl => ?_)
    refine lv_iload_n hx hb dX7_invert_44 rfl (lv_at hl 3 rfl) ?_
    refine lv_iconst (v := nI 2) hx hb dX7_invert_45 (by decide) ?_
    refine nv_addE (r := 3) hx hb rfl dX7_invert_46 ?_
    refine lv_iconst (v := nI 3) hx hb dX7_invert_47 (by decide) ?_
    refine nv_remE (r := 0) hx hb (by decide) (by decide) (by decide) rfl dX7_invert_48 ?_
    refine lv_istore (lv' := [(6, .int (nI 0)), (5, .int (nI 2)), (4, .int (nI 0)), (3, .int (nI 2)), (2, .int (nI 1)), (1, .int (nI 1)), (0, .ref (md 0))]) hx hb dX7_invert_49 hl (by decide) rfl (fun ls hl => ?_)
    refine lv_aload_n hx hb dX7_invert_51 rfl (lv_at hl 6 rfl) ?_
    refine va_get (D := D) (ci := 7) (v := .ref (md 14)) (C := RX7) (T := TX7) (N := 20) hx hb hts hiX7 hown hK hP 0 rfl rfl 15 (by decide) hf50 (fun _ h9 => h9) rfl dX7_invert_52 ?_
    refine lv_iconst (v := nI 3) hx hb dX7_invert_55 (by decide) ?_
    refine lv_iload_n hx hb dX7_invert_56 rfl (lv_at hl 4 rfl) ?_
    refine nv_mulE (r := 3) hx hb rfl dX7_invert_57 ?_
    refine lv_iload_n hx hb dX7_invert_58 rfl (lv_at hl 5 rfl) ?_
    refine nv_addE (r := 4) hx hb rfl dX7_invert_59 ?_
    refine lv_aload_n hx hb dX7_invert_60 rfl (lv_at hl 6 rfl) ?_
    refine lv_aload_n hx hb dX7_invert_61 rfl (lv_at hl 6 rfl) ?_
    refine va_get (D := D) (ci := 7) (v := .ref (md 7)) (C := RX7) (T := TX7) (N := 20) hx hb hts hiX7 hown hK hP 0 rfl rfl 8 (by decide) hf29 (fun _ h9 => h9) rfl dX7_invert_62 ?_
    refine lv_iconst (v := nI 3) hx hb dX7_invert_65 (by decide) ?_
    refine lv_iload_n hx hb dX7_invert_66 rfl (lv_at hl 3 rfl) ?_
    refine nv_mulE (r := 6) hx hb rfl dX7_invert_67 ?_
    refine lv_iload hx hb dX7_invert_68 (lv_at hl 1 rfl) ?_
    refine nv_addE (r := 8) hx hb rfl dX7_invert_70 ?_
    refine nv_iald hx hb hK hP 6 0 rfl rfl (by omega) (by decide) dX7_invert_71 ?_
    refine lv_aload_n hx hb dX7_invert_72 rfl (lv_at hl 6 rfl) ?_
    refine va_get (D := D) (ci := 7) (v := .ref (md 7)) (C := RX7) (T := TX7) (N := 20) hx hb hts hiX7 hown hK hP 0 rfl rfl 8 (by decide) hf29 (fun _ h9 => h9) rfl dX7_invert_73 ?_
    refine lv_iconst (v := nI 3) hx hb dX7_invert_76 (by decide) ?_
    refine lv_iload_n hx hb dX7_invert_77 rfl (lv_at hl 3 rfl) ?_
    refine nv_mulE (r := 6) hx hb rfl dX7_invert_78 ?_
    refine lv_iload hx hb dX7_invert_79 (lv_at hl 0 rfl) ?_
    refine nv_addE (r := 6) hx hb rfl dX7_invert_81 ?_
    refine nv_iald hx hb hK hP 6 0 rfl rfl (by omega) (by decide) dX7_invert_82 ?_
    refine lv_aload_n hx hb dX7_invert_83 rfl (lv_at hl 6 rfl) ?_
    refine va_get (D := D) (ci := 7) (v := .ref (md 7)) (C := RX7) (T := TX7) (N := 20) hx hb hts hiX7 hown hK hP 0 rfl rfl 8 (by decide) hf29 (fun _ h9 => h9) rfl dX7_invert_84 ?_
    refine lv_iconst (v := nI 3) hx hb dX7_invert_87 (by decide) ?_
    refine lv_iload hx hb dX7_invert_88 (lv_at hl 2 rfl) ?_
    refine nv_mulE (r := 0) hx hb rfl dX7_invert_90 ?_
    refine lv_iload hx hb dX7_invert_91 (lv_at hl 1 rfl) ?_
    refine nv_addE (r := 2) hx hb rfl dX7_invert_93 ?_
    refine nv_iald hx hb hK hP 6 0 rfl rfl (by omega) (by decide) dX7_invert_94 ?_
    refine lv_aload_n hx hb dX7_invert_95 rfl (lv_at hl 6 rfl) ?_
    refine va_get (D := D) (ci := 7) (v := .ref (md 7)) (C := RX7) (T := TX7) (N := 20) hx hb hts hiX7 hown hK hP 0 rfl rfl 8 (by decide) hf29 (fun _ h9 => h9) rfl dX7_invert_96 ?_
    refine lv_iconst (v := nI 3) hx hb dX7_invert_99 (by decide) ?_
    refine lv_iload hx hb dX7_invert_100 (lv_at hl 2 rfl) ?_
    refine nv_mulE (r := 0) hx hb rfl dX7_invert_102 ?_
    refine lv_iload hx hb dX7_invert_103 (lv_at hl 0 rfl) ?_
    refine nv_addE (r := 0) hx hb rfl dX7_invert_105 ?_
    refine nv_iald hx hb hK hP 6 0 rfl rfl (by omega) (by decide) dX7_invert_106 ?_
    refine ctR_V (As := [.int (nI (mp 8)), .int (nI (mp 6)), .int (nI (mp 2)), .int (nI (mp 0))]) (rest := [.int (nI 4), .ref (md 14)]) (r := .int (nI (fcw q (mp 8) (mp 6) (mp 2) (mp 0)))) ⟨hx, hb, hml, hown, hts⟩ (c_X7_minor l D cI cZ md q w su po xs ys zs hM (mp 8) (mp 6) (mp 2) (mp 0) (by omega) (by omega) (by omega) (by omega)) (cwV 4 hts gX7_invert_X7_minor rfl rfl rfl hdV_X7_minor ⟨Nat.le_of_ble_eq_true rfl, Nat.le_of_ble_eq_true rfl⟩) hK hN hP [0, 1, 2, 3, 4, 5] rfl 0 7 rfl rfl rfl hl.1 rfl (Nat.le_of_ble_eq_true rfl) ⟨Nat.zero_le _, Nat.zero_le _⟩ dX7_invert_107 ?_
    have hh_6 : fcw q (mp 8) (mp 6) (mp 2) (mp 0) < q := fcw_lt hM.1 (by omega) (by omega) (by omega) (by omega)
    refine nv_iast hx hb hK hP hD hS 7 0 rfl rfl (by omega) (by decide) dX7_invert_110 (fun H locs hP hD hS => ?_)
    have hP : va_P D vwCl [(md 0, .inr (7, [.int (nI q), .int (nI (nn q)), .ref (md 1), .ref (md 2), .ref (md 3), .ref (md 4), .ref (md 5), .ref (md 6), .ref (md 7), .ref (md 8), .ref (md 9), .ref (md 10), .ref (md 11), .ref (md 12), .ref (md 13), .ref (md 14), .ref (md 15), .ref (md 16), .int (nI w), .ref (md 17)])), (md 1, .inl (cI, 81, .inl (nF su))), (md 2, .inl (cI, 81, .inl (nF po))), (md 3, .inl (cI, 91, .inl (nF xs))), (md 4, .inl (cI, 91, .inl (nF ys))), (md 5, .inl (cI, 91, .inl (nF zs))), (md 7, .inl (cI, 9, .inl (nF mp))), (md 14, .inl (cI, 9, .inl (nF (upN (upN (upN (upN (upN ot 0 (fcw q (mp 4) (mp 5) (mp 7) (mp 8))) 3 (fcw q (mp 5) (mp 3) (mp 8) (mp 6))) 6 (fcw q (mp 3) (mp 4) (mp 6) (mp 7))) 1 (fcw q (mp 7) (mp 8) (mp 1) (mp 2))) 4 (fcw q (mp 8) (mp 6) (mp 2) (mp 0))))))] H := hP
    have hD : va_D A [(md 0, .inr (7, [.int (nI q), .int (nI (nn q)), .ref (md 1), .ref (md 2), .ref (md 3), .ref (md 4), .ref (md 5), .ref (md 6), .ref (md 7), .ref (md 8), .ref (md 9), .ref (md 10), .ref (md 11), .ref (md 12), .ref (md 13), .ref (md 14), .ref (md 15), .ref (md 16), .int (nI w), .ref (md 17)])), (md 1, .inl (cI, 81, .inl (nF su))), (md 2, .inl (cI, 81, .inl (nF po))), (md 3, .inl (cI, 91, .inl (nF xs))), (md 4, .inl (cI, 91, .inl (nF ys))), (md 5, .inl (cI, 91, .inl (nF zs))), (md 7, .inl (cI, 9, .inl (nF mp))), (md 14, .inl (cI, 9, .inl (nF (upN (upN (upN (upN (upN ot 0 (fcw q (mp 4) (mp 5) (mp 7) (mp 8))) 3 (fcw q (mp 5) (mp 3) (mp 8) (mp 6))) 6 (fcw q (mp 3) (mp 4) (mp 6) (mp 7))) 1 (fcw q (mp 7) (mp 8) (mp 1) (mp 2))) 4 (fcw q (mp 8) (mp 6) (mp 2) (mp 0))))))] := hD
    refine lv_iinc (v := nI 2) (lv' := [(2, .int (nI 2)), (6, .int (nI 0)), (5, .int (nI 2)), (4, .int (nI 0)), (3, .int (nI 2)), (1, .int (nI 1)), (0, .ref (md 0))]) hx hb dX7_invert_111 hl (k := 4) rfl (nI_inc 1) (by decide) rfl (fun ls hl => ?_)
    refine lv_goto (tgt := 19) hx hb dX7_invert_114 (by decide) ?_
    refine lv_iload_n hx hb dX7_invert_19 rfl (lv_at hl 0 rfl) ?_
    refine lv_iconst (v := nI 3) hx hb dX7_invert_20 (by decide) ?_
    refine nv_icmp_ge (tgt := 117) hx hb (by decide) (by decide) dX7_invert_21 (by decide) (fun c21 => absurd c21 (by omega)) (fun c21 => ?_)
    refine lv_iload_n hx hb dX7_invert_24 rfl (lv_at hl 5 rfl) ?_
    refine lv_iconst (v := nI 1) hx hb dX7_invert_25 (by decide) ?_
    refine nv_addE (r := 2) hx hb rfl dX7_invert_26 ?_
    refine lv_iconst (v := nI 3) hx hb dX7_invert_27 (by decide) ?_
    refine nv_remE (r := 2) hx hb (by decide) (by decide) (by decide) rfl dX7_invert_28 ?_
    refine lv_istore_n (lv' := [(3, .int (nI 2)), (2, .int (nI 2)), (6, .int (nI 0)), (5, .int (nI 2)), (4, .int (nI 0)), (1, .int (nI 1)), (0, .ref (md 0))]) hx hb dX7_invert_29 rfl hl (by decide) rfl (fun ls hl => ?_)
    refine lv_iload_n hx hb dX7_invert_30 rfl (lv_at hl 5 rfl) ?_
    refine lv_iconst (v := nI 2) hx hb dX7_invert_31 (by decide) ?_
    refine nv_addE (r := 3) hx hb rfl dX7_invert_32 ?_
    refine lv_iconst (v := nI 3) hx hb dX7_invert_33 (by decide) ?_
    refine nv_remE (r := 0) hx hb (by decide) (by decide) (by decide) rfl dX7_invert_34 ?_
    refine lv_istore (lv' := [(4, .int (nI 0)), (3, .int (nI 2)), (2, .int (nI 2)), (6, .int (nI 0)), (5, .int (nI 2)), (1, .int (nI 1)), (0, .ref (md 0))]) hx hb dX7_invert_35 hl (by decide) rfl (fun ls hl => ?_)
    refine lv_iload_n hx hb dX7_invert_37 rfl (lv_at hl 2 rfl) ?_
    refine lv_iconst (v := nI 1) hx hb dX7_invert_38 (by decide) ?_
    refine nv_addE (r := 3) hx hb rfl dX7_invert_39 ?_
    refine lv_iconst (v := nI 3) hx hb dX7_invert_40 (by decide) ?_
    refine nv_remE (r := 0) hx hb (by decide) (by decide) (by decide) rfl dX7_invert_41 ?_
    refine lv_istore (lv' := [(5, .int (nI 0)), (4, .int (nI 0)), (3, .int (nI 2)), (2, .int (nI 2)), (6, .int (nI 0)), (1, .int (nI 1)), (0, .ref (md 0))]) hx hb dX7_invert_42 hl (by decide) rfl (fun ls hl => ?_)
    refine lv_iload_n hx hb dX7_invert_44 rfl (lv_at hl 3 rfl) ?_
    refine lv_iconst (v := nI 2) hx hb dX7_invert_45 (by decide) ?_
    refine nv_addE (r := 4) hx hb rfl dX7_invert_46 ?_
    refine lv_iconst (v := nI 3) hx hb dX7_invert_47 (by decide) ?_
    refine nv_remE (r := 1) hx hb (by decide) (by decide) (by decide) rfl dX7_invert_48 ?_
    refine lv_istore (lv' := [(6, .int (nI 1)), (5, .int (nI 0)), (4, .int (nI 0)), (3, .int (nI 2)), (2, .int (nI 2)), (1, .int (nI 1)), (0, .ref (md 0))]) hx hb dX7_invert_49 hl (by decide) rfl (fun ls hl => ?_)
    refine lv_aload_n hx hb dX7_invert_51 rfl (lv_at hl 6 rfl) ?_
    refine va_get (D := D) (ci := 7) (v := .ref (md 14)) (C := RX7) (T := TX7) (N := 20) hx hb hts hiX7 hown hK hP 0 rfl rfl 15 (by decide) hf50 (fun _ h9 => h9) rfl dX7_invert_52 ?_
    refine lv_iconst (v := nI 3) hx hb dX7_invert_55 (by decide) ?_
    refine lv_iload_n hx hb dX7_invert_56 rfl (lv_at hl 4 rfl) ?_
    refine nv_mulE (r := 6) hx hb rfl dX7_invert_57 ?_
    refine lv_iload_n hx hb dX7_invert_58 rfl (lv_at hl 5 rfl) ?_
    refine nv_addE (r := 7) hx hb rfl dX7_invert_59 ?_
    refine lv_aload_n hx hb dX7_invert_60 rfl (lv_at hl 6 rfl) ?_
    refine lv_aload_n hx hb dX7_invert_61 rfl (lv_at hl 6 rfl) ?_
    refine va_get (D := D) (ci := 7) (v := .ref (md 7)) (C := RX7) (T := TX7) (N := 20) hx hb hts hiX7 hown hK hP 0 rfl rfl 8 (by decide) hf29 (fun _ h9 => h9) rfl dX7_invert_62 ?_
    refine lv_iconst (v := nI 3) hx hb dX7_invert_65 (by decide) ?_
    refine lv_iload_n hx hb dX7_invert_66 rfl (lv_at hl 3 rfl) ?_
    refine nv_mulE (r := 6) hx hb rfl dX7_invert_67 ?_
    refine lv_iload hx hb dX7_invert_68 (lv_at hl 1 rfl) ?_
    refine nv_addE (r := 6) hx hb rfl dX7_invert_70 ?_
    refine nv_iald hx hb hK hP 6 0 rfl rfl (by omega) (by decide) dX7_invert_71 ?_
    refine lv_aload_n hx hb dX7_invert_72 rfl (lv_at hl 6 rfl) ?_
    refine va_get (D := D) (ci := 7) (v := .ref (md 7)) (C := RX7) (T := TX7) (N := 20) hx hb hts hiX7 hown hK hP 0 rfl rfl 8 (by decide) hf29 (fun _ h9 => h9) rfl dX7_invert_73 ?_
    refine lv_iconst (v := nI 3) hx hb dX7_invert_76 (by decide) ?_
    refine lv_iload_n hx hb dX7_invert_77 rfl (lv_at hl 3 rfl) ?_
    refine nv_mulE (r := 6) hx hb rfl dX7_invert_78 ?_
    refine lv_iload hx hb dX7_invert_79 (lv_at hl 0 rfl) ?_
    refine nv_addE (r := 7) hx hb rfl dX7_invert_81 ?_
    refine nv_iald hx hb hK hP 6 0 rfl rfl (by omega) (by decide) dX7_invert_82 ?_
    refine lv_aload_n hx hb dX7_invert_83 rfl (lv_at hl 6 rfl) ?_
    refine va_get (D := D) (ci := 7) (v := .ref (md 7)) (C := RX7) (T := TX7) (N := 20) hx hb hts hiX7 hown hK hP 0 rfl rfl 8 (by decide) hf29 (fun _ h9 => h9) rfl dX7_invert_84 ?_
    refine lv_iconst (v := nI 3) hx hb dX7_invert_87 (by decide) ?_
    refine lv_iload hx hb dX7_invert_88 (lv_at hl 2 rfl) ?_
    refine nv_mulE (r := 0) hx hb rfl dX7_invert_90 ?_
    refine lv_iload hx hb dX7_invert_91 (lv_at hl 1 rfl) ?_
    refine nv_addE (r := 0) hx hb rfl dX7_invert_93 ?_
    refine nv_iald hx hb hK hP 6 0 rfl rfl (by omega) (by decide) dX7_invert_94 ?_
    refine lv_aload_n hx hb dX7_invert_95 rfl (lv_at hl 6 rfl) ?_
    refine va_get (D := D) (ci := 7) (v := .ref (md 7)) (C := RX7) (T := TX7) (N := 20) hx hb hts hiX7 hown hK hP 0 rfl rfl 8 (by decide) hf29 (fun _ h9 => h9) rfl dX7_invert_96 ?_
    refine lv_iconst (v := nI 3) hx hb dX7_invert_99 (by decide) ?_
    refine lv_iload hx hb dX7_invert_100 (lv_at hl 2 rfl) ?_
    refine nv_mulE (r := 0) hx hb rfl dX7_invert_102 ?_
    refine lv_iload hx hb dX7_invert_103 (lv_at hl 0 rfl) ?_
    refine nv_addE (r := 1) hx hb rfl dX7_invert_105 ?_
    refine nv_iald hx hb hK hP 6 0 rfl rfl (by omega) (by decide) dX7_invert_106 ?_
    refine ctR_V (As := [.int (nI (mp 6)), .int (nI (mp 7)), .int (nI (mp 0)), .int (nI (mp 1))]) (rest := [.int (nI 7), .ref (md 14)]) (r := .int (nI (fcw q (mp 6) (mp 7) (mp 0) (mp 1)))) ⟨hx, hb, hml, hown, hts⟩ (c_X7_minor l D cI cZ md q w su po xs ys zs hM (mp 6) (mp 7) (mp 0) (mp 1) (by omega) (by omega) (by omega) (by omega)) (cwV 4 hts gX7_invert_X7_minor rfl rfl rfl hdV_X7_minor ⟨Nat.le_of_ble_eq_true rfl, Nat.le_of_ble_eq_true rfl⟩) hK hN hP [0, 1, 2, 3, 4, 5] rfl 0 7 rfl rfl rfl hl.1 rfl (Nat.le_of_ble_eq_true rfl) ⟨Nat.zero_le _, Nat.zero_le _⟩ dX7_invert_107 ?_
    have hh_7 : fcw q (mp 6) (mp 7) (mp 0) (mp 1) < q := fcw_lt hM.1 (by omega) (by omega) (by omega) (by omega)
    refine nv_iast hx hb hK hP hD hS 7 0 rfl rfl (by omega) (by decide) dX7_invert_110 (fun H locs hP hD hS => ?_)
    have hP : va_P D vwCl [(md 0, .inr (7, [.int (nI q), .int (nI (nn q)), .ref (md 1), .ref (md 2), .ref (md 3), .ref (md 4), .ref (md 5), .ref (md 6), .ref (md 7), .ref (md 8), .ref (md 9), .ref (md 10), .ref (md 11), .ref (md 12), .ref (md 13), .ref (md 14), .ref (md 15), .ref (md 16), .int (nI w), .ref (md 17)])), (md 1, .inl (cI, 81, .inl (nF su))), (md 2, .inl (cI, 81, .inl (nF po))), (md 3, .inl (cI, 91, .inl (nF xs))), (md 4, .inl (cI, 91, .inl (nF ys))), (md 5, .inl (cI, 91, .inl (nF zs))), (md 7, .inl (cI, 9, .inl (nF mp))), (md 14, .inl (cI, 9, .inl (nF (upN (upN (upN (upN (upN (upN ot 0 (fcw q (mp 4) (mp 5) (mp 7) (mp 8))) 3 (fcw q (mp 5) (mp 3) (mp 8) (mp 6))) 6 (fcw q (mp 3) (mp 4) (mp 6) (mp 7))) 1 (fcw q (mp 7) (mp 8) (mp 1) (mp 2))) 4 (fcw q (mp 8) (mp 6) (mp 2) (mp 0))) 7 (fcw q (mp 6) (mp 7) (mp 0) (mp 1))))))] H := hP
    have hD : va_D A [(md 0, .inr (7, [.int (nI q), .int (nI (nn q)), .ref (md 1), .ref (md 2), .ref (md 3), .ref (md 4), .ref (md 5), .ref (md 6), .ref (md 7), .ref (md 8), .ref (md 9), .ref (md 10), .ref (md 11), .ref (md 12), .ref (md 13), .ref (md 14), .ref (md 15), .ref (md 16), .int (nI w), .ref (md 17)])), (md 1, .inl (cI, 81, .inl (nF su))), (md 2, .inl (cI, 81, .inl (nF po))), (md 3, .inl (cI, 91, .inl (nF xs))), (md 4, .inl (cI, 91, .inl (nF ys))), (md 5, .inl (cI, 91, .inl (nF zs))), (md 7, .inl (cI, 9, .inl (nF mp))), (md 14, .inl (cI, 9, .inl (nF (upN (upN (upN (upN (upN (upN ot 0 (fcw q (mp 4) (mp 5) (mp 7) (mp 8))) 3 (fcw q (mp 5) (mp 3) (mp 8) (mp 6))) 6 (fcw q (mp 3) (mp 4) (mp 6) (mp 7))) 1 (fcw q (mp 7) (mp 8) (mp 1) (mp 2))) 4 (fcw q (mp 8) (mp 6) (mp 2) (mp 0))) 7 (fcw q (mp 6) (mp 7) (mp 0) (mp 1))))))] := hD
    refine lv_iinc (v := nI 3) (lv' := [(2, .int (nI 3)), (6, .int (nI 1)), (5, .int (nI 0)), (4, .int (nI 0)), (3, .int (nI 2)), (1, .int (nI 1)), (0, .ref (md 0))]) hx hb dX7_invert_111 hl (k := 4) rfl (nI_inc 2) (by decide) rfl (fun ls hl => ?_)
    refine lv_goto (tgt := 19) hx hb dX7_invert_114 (by decide) ?_
    refine lv_iload_n hx hb dX7_invert_19 rfl (lv_at hl 0 rfl) ?_
    refine lv_iconst (v := nI 3) hx hb dX7_invert_20 (by decide) ?_
    refine nv_icmp_ge (tgt := 117) hx hb (by decide) (by decide) dX7_invert_21 (by decide) (fun c21 => ?_) (fun c21 => absurd c21 (by omega))
    refine lv_iinc (v := nI 2) (lv' := [(1, .int (nI 2)), (2, .int (nI 3)), (6, .int (nI 1)), (5, .int (nI 0)), (4, .int (nI 0)), (3, .int (nI 2)), (0, .ref (md 0))]) hx hb dX7_invert_117 hl (k := 5) rfl (nI_inc 1) (by decide) rfl (fun ls hl => ?_)
    refine lv_goto (tgt := 12) hx hb dX7_invert_120 (by decide) ?_
    refine lv_iload_n hx hb dX7_invert_12 rfl (lv_at hl 0 rfl) ?_
    refine lv_iconst (v := nI 3) hx hb dX7_invert_13 (by decide) ?_
    refine nv_icmp_ge (tgt := 123) hx hb (by decide) (by decide) dX7_invert_14 (by decide) (fun c14 => absurd c14 (by omega)) (fun c14 => ?_)
    refine lv_iconst (v := nI 0) hx hb dX7_invert_17 (by decide) ?_
    refine lv_istore_n (lv' := [(2, .int (nI 0)), (1, .int (nI 2)), (6, .int (nI 1)), (5, .int (nI 0)), (4, .int (nI 0)), (3, .int (nI 2)), (0, .ref (md 0))]) hx hb dX7_invert_18 rfl hl (by decide) rfl (fun ls hl => ?_)
    refine lv_iload_n hx hb dX7_invert_19 rfl (lv_at hl 0 rfl) ?_
    refine lv_iconst (v := nI 3) hx hb dX7_invert_20 (by decide) ?_
    refine nv_icmp_ge (tgt := 117) hx hb (by decide) (by decide) dX7_invert_21 (by decide) (fun c21 => absurd c21 (by omega)) (fun c21 => ?_)
    refine lv_iload_n hx hb dX7_invert_24 rfl (lv_at hl 1 rfl) ?_
    refine lv_iconst (v := nI 1) hx hb dX7_invert_25 (by decide) ?_
    refine nv_addE (r := 3) hx hb rfl dX7_invert_26 ?_
    refine lv_iconst (v := nI 3) hx hb dX7_invert_27 (by decide) ?_
    refine nv_remE (r := 0) hx hb (by decide) (by decide) (by decide) rfl dX7_invert_28 ?_
    refine lv_istore_n (lv' := [(3, .int (nI 0)), (2, .int (nI 0)), (1, .int (nI 2)), (6, .int (nI 1)), (5, .int (nI 0)), (4, .int (nI 0)), (0, .ref (md 0))]) hx hb dX7_invert_29 rfl hl (by decide) rfl (fun ls hl => ?_)
    refine lv_iload_n hx hb dX7_invert_30 rfl (lv_at hl 2 rfl) ?_
    refine lv_iconst (v := nI 2) hx hb dX7_invert_31 (by decide) ?_
    refine nv_addE (r := 4) hx hb rfl dX7_invert_32 ?_
    refine lv_iconst (v := nI 3) hx hb dX7_invert_33 (by decide) ?_
    refine nv_remE (r := 1) hx hb (by decide) (by decide) (by decide) rfl dX7_invert_34 ?_
    refine lv_istore (lv' := [(4, .int (nI 1)), (3, .int (nI 0)), (2, .int (nI 0)), (1, .int (nI 2)), (6, .int (nI 1)), (5, .int (nI 0)), (0, .ref (md 0))]) hx hb dX7_invert_35 hl (by decide) rfl (fun ls hl => ?_)
    refine lv_iload_n hx hb dX7_invert_37 rfl (lv_at hl 2 rfl) ?_
    refine lv_iconst (v := nI 1) hx hb dX7_invert_38 (by decide) ?_
    refine nv_addE (r := 1) hx hb rfl dX7_invert_39 ?_
    refine lv_iconst (v := nI 3) hx hb dX7_invert_40 (by decide) ?_
    refine nv_remE (r := 1) hx hb (by decide) (by decide) (by decide) rfl dX7_invert_41 ?_
    refine lv_istore (lv' := [(5, .int (nI 1)), (4, .int (nI 1)), (3, .int (nI 0)), (2, .int (nI 0)), (1, .int (nI 2)), (6, .int (nI 1)), (0, .ref (md 0))]) hx hb dX7_invert_42 hl (by decide) rfl (fun ls hl => ?_)
    refine lv_iload_n hx hb dX7_invert_44 rfl (lv_at hl 3 rfl) ?_
    refine lv_iconst (v := nI 2) hx hb dX7_invert_45 (by decide) ?_
    refine nv_addE (r := 2) hx hb rfl dX7_invert_46 ?_
    refine lv_iconst (v := nI 3) hx hb dX7_invert_47 (by decide) ?_
    refine nv_remE (r := 2) hx hb (by decide) (by decide) (by decide) rfl dX7_invert_48 ?_
    refine lv_istore (lv' := [(6, .int (nI 2)), (5, .int (nI 1)), (4, .int (nI 1)), (3, .int (nI 0)), (2, .int (nI 0)), (1, .int (nI 2)), (0, .ref (md 0))]) hx hb dX7_invert_49 hl (by decide) rfl (fun ls hl => ?_)
    refine lv_aload_n hx hb dX7_invert_51 rfl (lv_at hl 6 rfl) ?_
    refine va_get (D := D) (ci := 7) (v := .ref (md 14)) (C := RX7) (T := TX7) (N := 20) hx hb hts hiX7 hown hK hP 0 rfl rfl 15 (by decide) hf50 (fun _ h9 => h9) rfl dX7_invert_52 ?_
    refine lv_iconst (v := nI 3) hx hb dX7_invert_55 (by decide) ?_
    refine lv_iload_n hx hb dX7_invert_56 rfl (lv_at hl 4 rfl) ?_
    refine nv_mulE (r := 0) hx hb rfl dX7_invert_57 ?_
    refine lv_iload_n hx hb dX7_invert_58 rfl (lv_at hl 5 rfl) ?_
    refine nv_addE (r := 2) hx hb rfl dX7_invert_59 ?_
    refine lv_aload_n hx hb dX7_invert_60 rfl (lv_at hl 6 rfl) ?_
    refine lv_aload_n hx hb dX7_invert_61 rfl (lv_at hl 6 rfl) ?_
    refine va_get (D := D) (ci := 7) (v := .ref (md 7)) (C := RX7) (T := TX7) (N := 20) hx hb hts hiX7 hown hK hP 0 rfl rfl 8 (by decide) hf29 (fun _ h9 => h9) rfl dX7_invert_62 ?_
    refine lv_iconst (v := nI 3) hx hb dX7_invert_65 (by decide) ?_
    refine lv_iload_n hx hb dX7_invert_66 rfl (lv_at hl 3 rfl) ?_
    refine nv_mulE (r := 0) hx hb rfl dX7_invert_67 ?_
    refine lv_iload hx hb dX7_invert_68 (lv_at hl 1 rfl) ?_
    refine nv_addE (r := 1) hx hb rfl dX7_invert_70 ?_
    refine nv_iald hx hb hK hP 6 0 rfl rfl (by omega) (by decide) dX7_invert_71 ?_
    refine lv_aload_n hx hb dX7_invert_72 rfl (lv_at hl 6 rfl) ?_
    refine va_get (D := D) (ci := 7) (v := .ref (md 7)) (C := RX7) (T := TX7) (N := 20) hx hb hts hiX7 hown hK hP 0 rfl rfl 8 (by decide) hf29 (fun _ h9 => h9) rfl dX7_invert_73 ?_
    refine lv_iconst (v := nI 3) hx hb dX7_invert_76 (by decide) ?_
    refine lv_iload_n hx hb dX7_invert_77 rfl (lv_at hl 3 rfl) ?_
    refine nv_mulE (r := 0) hx hb rfl dX7_invert_78 ?_
    refine lv_iload hx hb dX7_invert_79 (lv_at hl 0 rfl) ?_
    refine nv_addE (r := 2) hx hb rfl dX7_invert_81 ?_
    refine nv_iald hx hb hK hP 6 0 rfl rfl (by omega) (by decide) dX7_invert_82 ?_
    refine lv_aload_n hx hb dX7_invert_83 rfl (lv_at hl 6 rfl) ?_
    refine va_get (D := D) (ci := 7) (v := .ref (md 7)) (C := RX7) (T := TX7) (N := 20) hx hb hts hiX7 hown hK hP 0 rfl rfl 8 (by decide) hf29 (fun _ h9 => h9) rfl dX7_invert_84 ?_
    refine lv_iconst (v := nI 3) hx hb dX7_invert_87 (by decide) ?_
    refine lv_iload hx hb dX7_invert_88 (lv_at hl 2 rfl) ?_
    refine nv_mulE (r := 3) hx hb rfl dX7_invert_90 ?_
    refine lv_iload hx hb dX7_invert_91 (lv_at hl 1 rfl) ?_
    refine nv_addE (r := 4) hx hb rfl dX7_invert_93 ?_
    refine nv_iald hx hb hK hP 6 0 rfl rfl (by omega) (by decide) dX7_invert_94 ?_
    refine lv_aload_n hx hb dX7_invert_95 rfl (lv_at hl 6 rfl) ?_
    refine va_get (D := D) (ci := 7) (v := .ref (md 7)) (C := RX7) (T := TX7) (N := 20) hx hb hts hiX7 hown hK hP 0 rfl rfl 8 (by decide) hf29 (fun _ h9 => h9) rfl dX7_invert_96 ?_
    refine lv_iconst (v := nI 3) hx hb dX7_invert_99 (by decide) ?_
    refine lv_iload hx hb dX7_invert_100 (lv_at hl 2 rfl) ?_
    refine nv_mulE (r := 3) hx hb rfl dX7_invert_102 ?_
    refine lv_iload hx hb dX7_invert_103 (lv_at hl 0 rfl) ?_
    refine nv_addE (r := 5) hx hb rfl dX7_invert_105 ?_
    refine nv_iald hx hb hK hP 6 0 rfl rfl (by omega) (by decide) dX7_invert_106 ?_
    refine ctR_V (As := [.int (nI (mp 1)), .int (nI (mp 2)), .int (nI (mp 4)), .int (nI (mp 5))]) (rest := [.int (nI 2), .ref (md 14)]) (r := .int (nI (fcw q (mp 1) (mp 2) (mp 4) (mp 5)))) ⟨hx, hb, hml, hown, hts⟩ (c_X7_minor l D cI cZ md q w su po xs ys zs hM (mp 1) (mp 2) (mp 4) (mp 5) (by omega) (by omega) (by omega) (by omega)) (cwV 4 hts gX7_invert_X7_minor rfl rfl rfl hdV_X7_minor ⟨Nat.le_of_ble_eq_true rfl, Nat.le_of_ble_eq_true rfl⟩) hK hN hP [0, 1, 2, 3, 4, 5] rfl 0 7 rfl rfl rfl hl.1 rfl (Nat.le_of_ble_eq_true rfl) ⟨Nat.zero_le _, Nat.zero_le _⟩ dX7_invert_107 ?_
    have hh_8 : fcw q (mp 1) (mp 2) (mp 4) (mp 5) < q := fcw_lt hM.1 (by omega) (by omega) (by omega) (by omega)
    refine nv_iast hx hb hK hP hD hS 7 0 rfl rfl (by omega) (by decide) dX7_invert_110 (fun H locs hP hD hS => ?_)
    have hP : va_P D vwCl [(md 0, .inr (7, [.int (nI q), .int (nI (nn q)), .ref (md 1), .ref (md 2), .ref (md 3), .ref (md 4), .ref (md 5), .ref (md 6), .ref (md 7), .ref (md 8), .ref (md 9), .ref (md 10), .ref (md 11), .ref (md 12), .ref (md 13), .ref (md 14), .ref (md 15), .ref (md 16), .int (nI w), .ref (md 17)])), (md 1, .inl (cI, 81, .inl (nF su))), (md 2, .inl (cI, 81, .inl (nF po))), (md 3, .inl (cI, 91, .inl (nF xs))), (md 4, .inl (cI, 91, .inl (nF ys))), (md 5, .inl (cI, 91, .inl (nF zs))), (md 7, .inl (cI, 9, .inl (nF mp))), (md 14, .inl (cI, 9, .inl (nF (upN (upN (upN (upN (upN (upN (upN ot 0 (fcw q (mp 4) (mp 5) (mp 7) (mp 8))) 3 (fcw q (mp 5) (mp 3) (mp 8) (mp 6))) 6 (fcw q (mp 3) (mp 4) (mp 6) (mp 7))) 1 (fcw q (mp 7) (mp 8) (mp 1) (mp 2))) 4 (fcw q (mp 8) (mp 6) (mp 2) (mp 0))) 7 (fcw q (mp 6) (mp 7) (mp 0) (mp 1))) 2 (fcw q (mp 1) (mp 2) (mp 4) (mp 5))))))] H := hP
    have hD : va_D A [(md 0, .inr (7, [.int (nI q), .int (nI (nn q)), .ref (md 1), .ref (md 2), .ref (md 3), .ref (md 4), .ref (md 5), .ref (md 6), .ref (md 7), .ref (md 8), .ref (md 9), .ref (md 10), .ref (md 11), .ref (md 12), .ref (md 13), .ref (md 14), .ref (md 15), .ref (md 16), .int (nI w), .ref (md 17)])), (md 1, .inl (cI, 81, .inl (nF su))), (md 2, .inl (cI, 81, .inl (nF po))), (md 3, .inl (cI, 91, .inl (nF xs))), (md 4, .inl (cI, 91, .inl (nF ys))), (md 5, .inl (cI, 91, .inl (nF zs))), (md 7, .inl (cI, 9, .inl (nF mp))), (md 14, .inl (cI, 9, .inl (nF (upN (upN (upN (upN (upN (upN (upN ot 0 (fcw q (mp 4) (mp 5) (mp 7) (mp 8))) 3 (fcw q (mp 5) (mp 3) (mp 8) (mp 6))) 6 (fcw q (mp 3) (mp 4) (mp 6) (mp 7))) 1 (fcw q (mp 7) (mp 8) (mp 1) (mp 2))) 4 (fcw q (mp 8) (mp 6) (mp 2) (mp 0))) 7 (fcw q (mp 6) (mp 7) (mp 0) (mp 1))) 2 (fcw q (mp 1) (mp 2) (mp 4) (mp 5))))))] := hD
    refine lv_iinc (v := nI 1) (lv' := [(2, .int (nI 1)), (6, .int (nI 2)), (5, .int (nI 1)), (4, .int (nI 1)), (3, .int (nI 0)), (1, .int (nI 2)), (0, .ref (md 0))]) hx hb dX7_invert_111 hl (k := 4) rfl (nI_inc 0) (by decide) rfl (fun ls hl => ?_)
    refine lv_goto (tgt := 19) hx hb dX7_invert_114 (by decide) ?_
    refine lv_iload_n hx hb dX7_invert_19 rfl (lv_at hl 0 rfl) ?_
    refine lv_iconst (v := nI 3) hx hb dX7_invert_20 (by decide) ?_
    refine nv_icmp_ge (tgt := 117) hx hb (by decide) (by decide) dX7_invert_21 (by decide) (fun c21 => absurd c21 (by omega)) (fun c21 => ?_)
    refine lv_iload_n hx hb dX7_invert_24 rfl (lv_at hl 5 rfl) ?_
    refine lv_iconst (v := nI 1) hx hb dX7_invert_25 (by decide) ?_
    refine nv_addE (r := 3) hx hb rfl dX7_invert_26 ?_
    refine lv_iconst (v := nI 3) hx hb dX7_invert_27 (by decide) ?_
    refine nv_remE (r := 0) hx hb (by decide) (by decide) (by decide) rfl dX7_invert_28 ?_
    refine lv_istore_n (lv' := [(3, .int (nI 0)), (2, .int (nI 1)), (6, .int (nI 2)), (5, .int (nI 1)), (4, .int (nI 1)), (1, .int (nI 2)), (0, .ref (md 0))]) hx hb dX7_invert_29 rfl hl (by decide) rfl (fun ls hl => ?_)
    refine lv_iload_n hx hb dX7_invert_30 rfl (lv_at hl 5 rfl) ?_
    refine lv_iconst (v := nI 2) hx hb dX7_invert_31 (by decide) ?_
    refine nv_addE (r := 4) hx hb rfl dX7_invert_32 ?_
    refine lv_iconst (v := nI 3) hx hb dX7_invert_33 (by decide) ?_
    refine nv_remE (r := 1) hx hb (by decide) (by decide) (by decide) rfl dX7_invert_34 ?_
    refine lv_istore (lv' := [(4, .int (nI 1)), (3, .int (nI 0)), (2, .int (nI 1)), (6, .int (nI 2)), (5, .int (nI 1)), (1, .int (nI 2)), (0, .ref (md 0))]) hx hb dX7_invert_35 hl (by decide) rfl (fun ls hl => ?_)
    refine lv_iload_n hx hb dX7_invert_37 rfl (lv_at hl 2 rfl) ?_
    refine lv_iconst (v := nI 1) hx hb dX7_invert_38 (by decide) ?_
    refine nv_addE (r := 2) hx hb rfl dX7_invert_39 ?_
    refine lv_iconst (v := nI 3) hx hb dX7_invert_40 (by decide) ?_
    refine nv_remE (r := 2) hx hb (by decide) (by decide) (by decide) rfl dX7_invert_41 ?_
    refine lv_istore (lv' := [(5, .int (nI 2)), (4, .int (nI 1)), (3, .int (nI 0)), (2, .int (nI 1)), (6, .int (nI 2)), (1, .int (nI 2)), (0, .ref (md 0))]) hx hb dX7_invert_42 hl (by decide) rfl (fun ls hl => ?_)
    refine lv_iload_n hx hb dX7_invert_44 rfl (lv_at hl 3 rfl) ?_
    refine lv_iconst (v := nI 2) hx hb dX7_invert_45 (by decide) ?_
    refine nv_addE (r := 3) hx hb rfl dX7_invert_46 ?_
    refine lv_iconst (v := nI 3) hx hb dX7_invert_47 (by decide) ?_
    refine nv_remE (r := 0) hx hb (by decide) (by decide) (by decide) rfl dX7_invert_48 ?_
    refine lv_istore (lv' := [(6, .int (nI 0)), (5, .int (nI 2)), (4, .int (nI 1)), (3, .int (nI 0)), (2, .int (nI 1)), (1, .int (nI 2)), (0, .ref (md 0))]) hx hb dX7_invert_49 hl (by decide) rfl (fun ls hl => ?_)
    refine lv_aload_n hx hb dX7_invert_51 rfl (lv_at hl 6 rfl) ?_
    refine va_get (D := D) (ci := 7) (v := .ref (md 14)) (C := RX7) (T := TX7) (N := 20) hx hb hts hiX7 hown hK hP 0 rfl rfl 15 (by decide) hf50 (fun _ h9 => h9) rfl dX7_invert_52 ?_
    refine lv_iconst (v := nI 3) hx hb dX7_invert_55 (by decide) ?_
    refine lv_iload_n hx hb dX7_invert_56 rfl (lv_at hl 4 rfl) ?_
    refine nv_mulE (r := 3) hx hb rfl dX7_invert_57 ?_
    refine lv_iload_n hx hb dX7_invert_58 rfl (lv_at hl 5 rfl) ?_
    refine nv_addE (r := 5) hx hb rfl dX7_invert_59 ?_
    refine lv_aload_n hx hb dX7_invert_60 rfl (lv_at hl 6 rfl) ?_
    refine lv_aload_n hx hb dX7_invert_61 rfl (lv_at hl 6 rfl) ?_
    refine va_get (D := D) (ci := 7) (v := .ref (md 7)) (C := RX7) (T := TX7) (N := 20) hx hb hts hiX7 hown hK hP 0 rfl rfl 8 (by decide) hf29 (fun _ h9 => h9) rfl dX7_invert_62 ?_
    refine lv_iconst (v := nI 3) hx hb dX7_invert_65 (by decide) ?_
    refine lv_iload_n hx hb dX7_invert_66 rfl (lv_at hl 3 rfl) ?_
    refine nv_mulE (r := 0) hx hb rfl dX7_invert_67 ?_
    refine lv_iload hx hb dX7_invert_68 (lv_at hl 1 rfl) ?_
    refine nv_addE (r := 2) hx hb rfl dX7_invert_70 ?_
    refine nv_iald hx hb hK hP 6 0 rfl rfl (by omega) (by decide) dX7_invert_71 ?_
    refine lv_aload_n hx hb dX7_invert_72 rfl (lv_at hl 6 rfl) ?_
    refine va_get (D := D) (ci := 7) (v := .ref (md 7)) (C := RX7) (T := TX7) (N := 20) hx hb hts hiX7 hown hK hP 0 rfl rfl 8 (by decide) hf29 (fun _ h9 => h9) rfl dX7_invert_73 ?_
    refine lv_iconst (v := nI 3) hx hb dX7_invert_76 (by decide) ?_
    refine lv_iload_n hx hb dX7_invert_77 rfl (lv_at hl 3 rfl) ?_
    refine nv_mulE (r := 0) hx hb rfl dX7_invert_78 ?_
    refine lv_iload hx hb dX7_invert_79 (lv_at hl 0 rfl) ?_
    refine nv_addE (r := 0) hx hb rfl dX7_invert_81 ?_
    refine nv_iald hx hb hK hP 6 0 rfl rfl (by omega) (by decide) dX7_invert_82 ?_
    refine lv_aload_n hx hb dX7_invert_83 rfl (lv_at hl 6 rfl) ?_
    refine va_get (D := D) (ci := 7) (v := .ref (md 7)) (C := RX7) (T := TX7) (N := 20) hx hb hts hiX7 hown hK hP 0 rfl rfl 8 (by decide) hf29 (fun _ h9 => h9) rfl dX7_invert_84 ?_
    refine lv_iconst (v := nI 3) hx hb dX7_invert_87 (by decide) ?_
    refine lv_iload hx hb dX7_invert_88 (lv_at hl 2 rfl) ?_
    refine nv_mulE (r := 3) hx hb rfl dX7_invert_90 ?_
    refine lv_iload hx hb dX7_invert_91 (lv_at hl 1 rfl) ?_
    refine nv_addE (r := 5) hx hb rfl dX7_invert_93 ?_
    refine nv_iald hx hb hK hP 6 0 rfl rfl (by omega) (by decide) dX7_invert_94 ?_
    refine lv_aload_n hx hb dX7_invert_95 rfl (lv_at hl 6 rfl) ?_
    refine va_get (D := D) (ci := 7) (v := .ref (md 7)) (C := RX7) (T := TX7) (N := 20) hx hb hts hiX7 hown hK hP 0 rfl rfl 8 (by decide) hf29 (fun _ h9 => h9) rfl dX7_invert_96 ?_
    refine lv_iconst (v := nI 3) hx hb dX7_invert_99 (by decide) ?_
    refine lv_iload hx hb dX7_invert_100 (lv_at hl 2 rfl) ?_
    refine nv_mulE (r := 3) hx hb rfl dX7_invert_102 ?_
    refine lv_iload hx hb dX7_invert_103 (lv_at hl 0 rfl) ?_
    refine nv_addE (r := 3) hx hb rfl dX7_invert_105 ?_
    refine nv_iald hx hb hK hP 6 0 rfl rfl (by omega) (by decide) dX7_invert_106 ?_
    refine ctR_V (As := [.int (nI (mp 2)), .int (nI (mp 0)), .int (nI (mp 5)), .int (nI (mp 3))]) (rest := [.int (nI 5), .ref (md 14)]) (r := .int (nI (fcw q (mp 2) (mp 0) (mp 5) (mp 3)))) ⟨hx, hb, hml, hown, hts⟩ (c_X7_minor l D cI cZ md q w su po xs ys zs hM (mp 2) (mp 0) (mp 5) (mp 3) (by omega) (by omega) (by omega) (by omega)) (cwV 4 hts gX7_invert_X7_minor rfl rfl rfl hdV_X7_minor ⟨Nat.le_of_ble_eq_true rfl, Nat.le_of_ble_eq_true rfl⟩) hK hN hP [0, 1, 2, 3, 4, 5] rfl 0 7 rfl rfl rfl hl.1 rfl (Nat.le_of_ble_eq_true rfl) ⟨Nat.zero_le _, Nat.zero_le _⟩ dX7_invert_107 ?_
    have hh_9 : fcw q (mp 2) (mp 0) (mp 5) (mp 3) < q := fcw_lt hM.1 (by omega) (by omega) (by omega) (by omega)
    refine nv_iast hx hb hK hP hD hS 7 0 rfl rfl (by omega) (by decide) dX7_invert_110 (fun H locs hP hD hS => ?_)
    have hP : va_P D vwCl [(md 0, .inr (7, [.int (nI q), .int (nI (nn q)), .ref (md 1), .ref (md 2), .ref (md 3), .ref (md 4), .ref (md 5), .ref (md 6), .ref (md 7), .ref (md 8), .ref (md 9), .ref (md 10), .ref (md 11), .ref (md 12), .ref (md 13), .ref (md 14), .ref (md 15), .ref (md 16), .int (nI w), .ref (md 17)])), (md 1, .inl (cI, 81, .inl (nF su))), (md 2, .inl (cI, 81, .inl (nF po))), (md 3, .inl (cI, 91, .inl (nF xs))), (md 4, .inl (cI, 91, .inl (nF ys))), (md 5, .inl (cI, 91, .inl (nF zs))), (md 7, .inl (cI, 9, .inl (nF mp))), (md 14, .inl (cI, 9, .inl (nF (upN (upN (upN (upN (upN (upN (upN (upN ot 0 (fcw q (mp 4) (mp 5) (mp 7) (mp 8))) 3 (fcw q (mp 5) (mp 3) (mp 8) (mp 6))) 6 (fcw q (mp 3) (mp 4) (mp 6) (mp 7))) 1 (fcw q (mp 7) (mp 8) (mp 1) (mp 2))) 4 (fcw q (mp 8) (mp 6) (mp 2) (mp 0))) 7 (fcw q (mp 6) (mp 7) (mp 0) (mp 1))) 2 (fcw q (mp 1) (mp 2) (mp 4) (mp 5))) 5 (fcw q (mp 2) (mp 0) (mp 5) (mp 3))))))] H := hP
    have hD : va_D A [(md 0, .inr (7, [.int (nI q), .int (nI (nn q)), .ref (md 1), .ref (md 2), .ref (md 3), .ref (md 4), .ref (md 5), .ref (md 6), .ref (md 7), .ref (md 8), .ref (md 9), .ref (md 10), .ref (md 11), .ref (md 12), .ref (md 13), .ref (md 14), .ref (md 15), .ref (md 16), .int (nI w), .ref (md 17)])), (md 1, .inl (cI, 81, .inl (nF su))), (md 2, .inl (cI, 81, .inl (nF po))), (md 3, .inl (cI, 91, .inl (nF xs))), (md 4, .inl (cI, 91, .inl (nF ys))), (md 5, .inl (cI, 91, .inl (nF zs))), (md 7, .inl (cI, 9, .inl (nF mp))), (md 14, .inl (cI, 9, .inl (nF (upN (upN (upN (upN (upN (upN (upN (upN ot 0 (fcw q (mp 4) (mp 5) (mp 7) (mp 8))) 3 (fcw q (mp 5) (mp 3) (mp 8) (mp 6))) 6 (fcw q (mp 3) (mp 4) (mp 6) (mp 7))) 1 (fcw q (mp 7) (mp 8) (mp 1) (mp 2))) 4 (fcw q (mp 8) (mp 6) (mp 2) (mp 0))) 7 (fcw q (mp 6) (mp 7) (mp 0) (mp 1))) 2 (fcw q (mp 1) (mp 2) (mp 4) (mp 5))) 5 (fcw q (mp 2) (mp 0) (mp 5) (mp 3))))))] := hD
    refine lv_iinc (v := nI 2) (lv' := [(2, .int (nI 2)), (6, .int (nI 0)), (5, .int (nI 2)), (4, .int (nI 1)), (3, .int (nI 0)), (1, .int (nI 2)), (0, .ref (md 0))]) hx hb dX7_invert_111 hl (k := 4) rfl (nI_inc 1) (by decide) rfl (fun ls hl => ?_)
    refine lv_goto (tgt := 19) hx hb dX7_invert_114 (by decide) ?_
    refine lv_iload_n hx hb dX7_invert_19 rfl (lv_at hl 0 rfl) ?_
    refine lv_iconst (v := nI 3) hx hb dX7_invert_20 (by decide) ?_
    refine nv_icmp_ge (tgt := 117) hx hb (by decide) (by decide) dX7_invert_21 (by decide) (fun c21 => absurd c21 (by omega)) (fun c21 => ?_)
    refine lv_iload_n hx hb dX7_invert_24 rfl (lv_at hl 5 rfl) ?_
    refine lv_iconst (v := nI 1) hx hb dX7_invert_25 (by decide) ?_
    refine nv_addE (r := 3) hx hb rfl dX7_invert_26 ?_
    refine lv_iconst (v := nI 3) hx hb dX7_invert_27 (by decide) ?_
    refine nv_remE (r := 0) hx hb (by decide) (by decide) (by decide) rfl dX7_invert_28 ?_
    refine lv_istore_n (lv' := [(3, .int (nI 0)), (2, .int (nI 2)), (6, .int (nI 0)), (5, .int (nI 2)), (4, .int (nI 1)), (1, .int (nI 2)), (0, .ref (md 0))]) hx hb dX7_invert_29 rfl hl (by decide) rfl (fun ls hl => ?_)
    refine lv_iload_n hx hb dX7_invert_30 rfl (lv_at hl 5 rfl) ?_
    refine lv_iconst (v := nI 2) hx hb dX7_invert_31 (by decide) ?_
    refine nv_addE (r := 4) hx hb rfl dX7_invert_32 ?_
    refine lv_iconst (v := nI 3) hx hb dX7_invert_33 (by decide) ?_
    refine nv_remE (r := 1) hx hb (by decide) (by decide) (by decide) rfl dX7_invert_34 ?_
    refine lv_istore (lv' := [(4, .int (nI 1)), (3, .int (nI 0)), (2, .int (nI 2)), (6, .int (nI 0)), (5, .int (nI 2)), (1, .int (nI 2)), (0, .ref (md 0))]) hx hb dX7_invert_35 hl (by decide) rfl (fun ls hl => ?_)
    refine lv_iload_n hx hb dX7_invert_37 rfl (lv_at hl 2 rfl) ?_
    refine lv_iconst (v := nI 1) hx hb dX7_invert_38 (by decide) ?_
    refine nv_addE (r := 3) hx hb rfl dX7_invert_39 ?_
    refine lv_iconst (v := nI 3) hx hb dX7_invert_40 (by decide) ?_
    refine nv_remE (r := 0) hx hb (by decide) (by decide) (by decide) rfl dX7_invert_41 ?_
    refine lv_istore (lv' := [(5, .int (nI 0)), (4, .int (nI 1)), (3, .int (nI 0)), (2, .int (nI 2)), (6, .int (nI 0)), (1, .int (nI 2)), (0, .ref (md 0))]) hx hb dX7_invert_42 hl (by decide) rfl (fun ls hl => ?_)
    refine lv_iload_n hx hb dX7_invert_44 rfl (lv_at hl 3 rfl) ?_
    refine lv_iconst (v := nI 2) hx hb dX7_invert_45 (by decide) ?_
    refine nv_addE (r := 4) hx hb rfl dX7_invert_46 ?_
    refine lv_iconst (v := nI 3) hx hb dX7_invert_47 (by decide) ?_
    refine nv_remE (r := 1) hx hb (by decide) (by decide) (by decide) rfl dX7_invert_48 ?_
    refine lv_istore (lv' := [(6, .int (nI 1)), (5, .int (nI 0)), (4, .int (nI 1)), (3, .int (nI 0)), (2, .int (nI 2)), (1, .int (nI 2)), (0, .ref (md 0))]) hx hb dX7_invert_49 hl (by decide) rfl (fun ls hl => ?_)
    refine lv_aload_n hx hb dX7_invert_51 rfl (lv_at hl 6 rfl) ?_
    refine va_get (D := D) (ci := 7) (v := .ref (md 14)) (C := RX7) (T := TX7) (N := 20) hx hb hts hiX7 hown hK hP 0 rfl rfl 15 (by decide) hf50 (fun _ h9 => h9) rfl dX7_invert_52 ?_
    refine lv_iconst (v := nI 3) hx hb dX7_invert_55 (by decide) ?_
    refine lv_iload_n hx hb dX7_invert_56 rfl (lv_at hl 4 rfl) ?_
    refine nv_mulE (r := 6) hx hb rfl dX7_invert_57 ?_
    refine lv_iload_n hx hb dX7_invert_58 rfl (lv_at hl 5 rfl) ?_
    refine nv_addE (r := 8) hx hb rfl dX7_invert_59 ?_
    refine lv_aload_n hx hb dX7_invert_60 rfl (lv_at hl 6 rfl) ?_
    refine lv_aload_n hx hb dX7_invert_61 rfl (lv_at hl 6 rfl) ?_
    refine va_get (D := D) (ci := 7) (v := .ref (md 7)) (C := RX7) (T := TX7) (N := 20) hx hb hts hiX7 hown hK hP 0 rfl rfl 8 (by decide) hf29 (fun _ h9 => h9) rfl dX7_invert_62 ?_
    refine lv_iconst (v := nI 3) hx hb dX7_invert_65 (by decide) ?_
    refine lv_iload_n hx hb dX7_invert_66 rfl (lv_at hl 3 rfl) ?_
    refine nv_mulE (r := 0) hx hb rfl dX7_invert_67 ?_
    refine lv_iload hx hb dX7_invert_68 (lv_at hl 1 rfl) ?_
    refine nv_addE (r := 0) hx hb rfl dX7_invert_70 ?_
    refine nv_iald hx hb hK hP 6 0 rfl rfl (by omega) (by decide) dX7_invert_71 ?_
    refine lv_aload_n hx hb dX7_invert_72 rfl (lv_at hl 6 rfl) ?_
    refine va_get (D := D) (ci := 7) (v := .ref (md 7)) (C := RX7) (T := TX7) (N := 20) hx hb hts hiX7 hown hK hP 0 rfl rfl 8 (by decide) hf29 (fun _ h9 => h9) rfl dX7_invert_73 ?_
    refine lv_iconst (v := nI 3) hx hb dX7_invert_76 (by decide) ?_
    refine lv_iload_n hx hb dX7_invert_77 rfl (lv_at hl 3 rfl) ?_
    refine nv_mulE (r := 0) hx hb rfl dX7_invert_78 ?_
    refine lv_iload hx hb dX7_invert_79 (lv_at hl 0 rfl) ?_
    refine nv_addE (r := 1) hx hb rfl dX7_invert_81 ?_
    refine nv_iald hx hb hK hP 6 0 rfl rfl (by omega) (by decide) dX7_invert_82 ?_
    refine lv_aload_n hx hb dX7_invert_83 rfl (lv_at hl 6 rfl) ?_
    refine va_get (D := D) (ci := 7) (v := .ref (md 7)) (C := RX7) (T := TX7) (N := 20) hx hb hts hiX7 hown hK hP 0 rfl rfl 8 (by decide) hf29 (fun _ h9 => h9) rfl dX7_invert_84 ?_
    refine lv_iconst (v := nI 3) hx hb dX7_invert_87 (by decide) ?_
    refine lv_iload hx hb dX7_invert_88 (lv_at hl 2 rfl) ?_
    refine nv_mulE (r := 3) hx hb rfl dX7_invert_90 ?_
    refine lv_iload hx hb dX7_invert_91 (lv_at hl 1 rfl) ?_
    refine nv_addE (r := 3) hx hb rfl dX7_invert_93 ?_
    refine nv_iald hx hb hK hP 6 0 rfl rfl (by omega) (by decide) dX7_invert_94 ?_
    refine lv_aload_n hx hb dX7_invert_95 rfl (lv_at hl 6 rfl) ?_
    refine va_get (D := D) (ci := 7) (v := .ref (md 7)) (C := RX7) (T := TX7) (N := 20) hx hb hts hiX7 hown hK hP 0 rfl rfl 8 (by decide) hf29 (fun _ h9 => h9) rfl dX7_invert_96 ?_
    refine lv_iconst (v := nI 3) hx hb dX7_invert_99 (by decide) ?_
    refine lv_iload hx hb dX7_invert_100 (lv_at hl 2 rfl) ?_
    refine nv_mulE (r := 3) hx hb rfl dX7_invert_102 ?_
    refine lv_iload hx hb dX7_invert_103 (lv_at hl 0 rfl) ?_
    refine nv_addE (r := 4) hx hb rfl dX7_invert_105 ?_
    refine nv_iald hx hb hK hP 6 0 rfl rfl (by omega) (by decide) dX7_invert_106 ?_
    refine ctR_V (As := [.int (nI (mp 0)), .int (nI (mp 1)), .int (nI (mp 3)), .int (nI (mp 4))]) (rest := [.int (nI 8), .ref (md 14)]) (r := .int (nI (fcw q (mp 0) (mp 1) (mp 3) (mp 4)))) ⟨hx, hb, hml, hown, hts⟩ (c_X7_minor l D cI cZ md q w su po xs ys zs hM (mp 0) (mp 1) (mp 3) (mp 4) (by omega) (by omega) (by omega) (by omega)) (cwV 4 hts gX7_invert_X7_minor rfl rfl rfl hdV_X7_minor ⟨Nat.le_of_ble_eq_true rfl, Nat.le_of_ble_eq_true rfl⟩) hK hN hP [0, 1, 2, 3, 4, 5] rfl 0 7 rfl rfl rfl hl.1 rfl (Nat.le_of_ble_eq_true rfl) ⟨Nat.zero_le _, Nat.zero_le _⟩ dX7_invert_107 ?_
    have hh_10 : fcw q (mp 0) (mp 1) (mp 3) (mp 4) < q := fcw_lt hM.1 (by omega) (by omega) (by omega) (by omega)
    refine nv_iast hx hb hK hP hD hS 7 0 rfl rfl (by omega) (by decide) dX7_invert_110 (fun H locs hP hD hS => ?_)
    have hP : va_P D vwCl [(md 0, .inr (7, [.int (nI q), .int (nI (nn q)), .ref (md 1), .ref (md 2), .ref (md 3), .ref (md 4), .ref (md 5), .ref (md 6), .ref (md 7), .ref (md 8), .ref (md 9), .ref (md 10), .ref (md 11), .ref (md 12), .ref (md 13), .ref (md 14), .ref (md 15), .ref (md 16), .int (nI w), .ref (md 17)])), (md 1, .inl (cI, 81, .inl (nF su))), (md 2, .inl (cI, 81, .inl (nF po))), (md 3, .inl (cI, 91, .inl (nF xs))), (md 4, .inl (cI, 91, .inl (nF ys))), (md 5, .inl (cI, 91, .inl (nF zs))), (md 7, .inl (cI, 9, .inl (nF mp))), (md 14, .inl (cI, 9, .inl (nF (upN (upN (upN (upN (upN (upN (upN (upN (upN ot 0 (fcw q (mp 4) (mp 5) (mp 7) (mp 8))) 3 (fcw q (mp 5) (mp 3) (mp 8) (mp 6))) 6 (fcw q (mp 3) (mp 4) (mp 6) (mp 7))) 1 (fcw q (mp 7) (mp 8) (mp 1) (mp 2))) 4 (fcw q (mp 8) (mp 6) (mp 2) (mp 0))) 7 (fcw q (mp 6) (mp 7) (mp 0) (mp 1))) 2 (fcw q (mp 1) (mp 2) (mp 4) (mp 5))) 5 (fcw q (mp 2) (mp 0) (mp 5) (mp 3))) 8 (fcw q (mp 0) (mp 1) (mp 3) (mp 4))))))] H := hP
    have hD : va_D A [(md 0, .inr (7, [.int (nI q), .int (nI (nn q)), .ref (md 1), .ref (md 2), .ref (md 3), .ref (md 4), .ref (md 5), .ref (md 6), .ref (md 7), .ref (md 8), .ref (md 9), .ref (md 10), .ref (md 11), .ref (md 12), .ref (md 13), .ref (md 14), .ref (md 15), .ref (md 16), .int (nI w), .ref (md 17)])), (md 1, .inl (cI, 81, .inl (nF su))), (md 2, .inl (cI, 81, .inl (nF po))), (md 3, .inl (cI, 91, .inl (nF xs))), (md 4, .inl (cI, 91, .inl (nF ys))), (md 5, .inl (cI, 91, .inl (nF zs))), (md 7, .inl (cI, 9, .inl (nF mp))), (md 14, .inl (cI, 9, .inl (nF (upN (upN (upN (upN (upN (upN (upN (upN (upN ot 0 (fcw q (mp 4) (mp 5) (mp 7) (mp 8))) 3 (fcw q (mp 5) (mp 3) (mp 8) (mp 6))) 6 (fcw q (mp 3) (mp 4) (mp 6) (mp 7))) 1 (fcw q (mp 7) (mp 8) (mp 1) (mp 2))) 4 (fcw q (mp 8) (mp 6) (mp 2) (mp 0))) 7 (fcw q (mp 6) (mp 7) (mp 0) (mp 1))) 2 (fcw q (mp 1) (mp 2) (mp 4) (mp 5))) 5 (fcw q (mp 2) (mp 0) (mp 5) (mp 3))) 8 (fcw q (mp 0) (mp 1) (mp 3) (mp 4))))))] := hD
    refine lv_iinc (v := nI 3) (lv' := [(2, .int (nI 3)), (6, .int (nI 1)), (5, .int (nI 0)), (4, .int (nI 1)), (3, .int (nI 0)), (1, .int (nI 2)), (0, .ref (md 0))]) hx hb dX7_invert_111 hl (k := 4) rfl (nI_inc 2) (by decide) rfl (fun ls hl => ?_)
    refine lv_goto (tgt := 19) hx hb dX7_invert_114 (by decide) ?_
    refine lv_iload_n hx hb dX7_invert_19 rfl (lv_at hl 0 rfl) ?_
    refine lv_iconst (v := nI 3) hx hb dX7_invert_20 (by decide) ?_
    refine nv_icmp_ge (tgt := 117) hx hb (by decide) (by decide) dX7_invert_21 (by decide) (fun c21 => ?_) (fun c21 => absurd c21 (by omega))
    refine lv_iinc (v := nI 3) (lv' := [(1, .int (nI 3)), (2, .int (nI 3)), (6, .int (nI 1)), (5, .int (nI 0)), (4, .int (nI 1)), (3, .int (nI 0)), (0, .ref (md 0))]) hx hb dX7_invert_117 hl (k := 5) rfl (nI_inc 2) (by decide) rfl (fun ls hl => ?_)
    refine lv_goto (tgt := 12) hx hb dX7_invert_120 (by decide) ?_
    refine lv_iload_n hx hb dX7_invert_12 rfl (lv_at hl 0 rfl) ?_
    refine lv_iconst (v := nI 3) hx hb dX7_invert_13 (by decide) ?_
    refine nv_icmp_ge (tgt := 123) hx hb (by decide) (by decide) dX7_invert_14 (by decide) (fun c14 => ?_) (fun c14 => absurd c14 (by omega))
    have hoth : ∀ t, t < 9 → ((upN (upN (upN (upN (upN (upN (upN (upN (upN ot 0 (fcw q (mp 4) (mp 5) (mp 7) (mp 8))) 3 (fcw q (mp 5) (mp 3) (mp 8) (mp 6))) 6 (fcw q (mp 3) (mp 4) (mp 6) (mp 7))) 1 (fcw q (mp 7) (mp 8) (mp 1) (mp 2))) 4 (fcw q (mp 8) (mp 6) (mp 2) (mp 0))) 7 (fcw q (mp 6) (mp 7) (mp 0) (mp 1))) 2 (fcw q (mp 1) (mp 2) (mp 4) (mp 5))) 5 (fcw q (mp 2) (mp 0) (mp 5) (mp 3))) 8 (fcw q (mp 0) (mp 1) (mp 3) (mp 4)))) t = cofq q mp (t % 3) (t / 3) := all9 rfl rfl rfl rfl rfl rfl rfl rfl rfl
    refine lv_iconst (v := nI 0) hx hb dX7_invert_123 (by decide) ?_
    refine lv_istore_n (lv' := [(1, .int (nI 0)), (2, .int (nI 3)), (6, .int (nI 1)), (5, .int (nI 0)), (4, .int (nI 1)), (3, .int (nI 0)), (0, .ref (md 0))]) hx hb dX7_invert_124 rfl hl (by decide) rfl (fun ls hl => ?_)
    have L125 : ∀ (N125 : Nat) (i : Nat) (n1 : Nat → Nat) (ls : Array Slot) (H : Heap) (locs : List Loc), 9 - i < N125 → (i ≤ 9) → (∀ t, t < i → n1 t = cofq q mp (t % 3) (t / 3)) → lv_has ls 7 [(0, .ref (md 0)), (1, .int (nI i))] → va_P D vwCl [(md 0, .inr (7, [.int (nI q), .int (nI (nn q)), .ref (md 1), .ref (md 2), .ref (md 3), .ref (md 4), .ref (md 5), .ref (md 6), .ref (md 7), .ref (md 8), .ref (md 9), .ref (md 10), .ref (md 11), .ref (md 12), .ref (md 13), .ref (md 14), .ref (md 15), .ref (md 16), .int (nI w), .ref (md 17)])), (md 1, .inl (cI, 81, .inl (nF su))), (md 2, .inl (cI, 81, .inl (nF po))), (md 3, .inl (cI, 91, .inl (nF xs))), (md 4, .inl (cI, 91, .inl (nF ys))), (md 5, .inl (cI, 91, .inl (nF zs))), (md 7, .inl (cI, 9, .inl (nF n1))), (md 14, .inl (cI, 9, .inl (nF (upN (upN (upN (upN (upN (upN (upN (upN (upN ot 0 (fcw q (mp 4) (mp 5) (mp 7) (mp 8))) 3 (fcw q (mp 5) (mp 3) (mp 8) (mp 6))) 6 (fcw q (mp 3) (mp 4) (mp 6) (mp 7))) 1 (fcw q (mp 7) (mp 8) (mp 1) (mp 2))) 4 (fcw q (mp 8) (mp 6) (mp 2) (mp 0))) 7 (fcw q (mp 6) (mp 7) (mp 0) (mp 1))) 2 (fcw q (mp 1) (mp 2) (mp 4) (mp 5))) 5 (fcw q (mp 2) (mp 0) (mp 5) (mp 3))) 8 (fcw q (mp 0) (mp 1) (mp 3) (mp 4))))))] H → va_D A [(md 0, .inr (7, [.int (nI q), .int (nI (nn q)), .ref (md 1), .ref (md 2), .ref (md 3), .ref (md 4), .ref (md 5), .ref (md 6), .ref (md 7), .ref (md 8), .ref (md 9), .ref (md 10), .ref (md 11), .ref (md 12), .ref (md 13), .ref (md 14), .ref (md 15), .ref (md 16), .int (nI w), .ref (md 17)])), (md 1, .inl (cI, 81, .inl (nF su))), (md 2, .inl (cI, 81, .inl (nF po))), (md 3, .inl (cI, 91, .inl (nF xs))), (md 4, .inl (cI, 91, .inl (nF ys))), (md 5, .inl (cI, 91, .inl (nF zs))), (md 7, .inl (cI, 9, .inl (nF n1))), (md 14, .inl (cI, 9, .inl (nF (upN (upN (upN (upN (upN (upN (upN (upN (upN ot 0 (fcw q (mp 4) (mp 5) (mp 7) (mp 8))) 3 (fcw q (mp 5) (mp 3) (mp 8) (mp 6))) 6 (fcw q (mp 3) (mp 4) (mp 6) (mp 7))) 1 (fcw q (mp 7) (mp 8) (mp 1) (mp 2))) 4 (fcw q (mp 8) (mp 6) (mp 2) (mp 0))) 7 (fcw q (mp 6) (mp 7) (mp 0) (mp 1))) 2 (fcw q (mp 1) (mp 2) (mp 4) (mp 5))) 5 (fcw q (mp 2) (mp 0) (mp 5) (mp 3))) 8 (fcw q (mp 0) (mp 1) (mp 3) (mp 4))))))] → va_S A s.heap H locs → WG p l e wsX7_invert { frames := 4, cells := 0, slots := 0, locals := 92 } s m [.ref (md 0)] below meth c H locs (CQ (S := (Nat → Nat) × (Nat → Nat)) D (fun u => (fun (mp3 : Nat → Nat) (ot3 : Nat → Nat) => ∀ t, t < 9 → mp3 t = invM q mp t) u.1 u.2) (fun u => (fun (mp3 : Nat → Nat) (ot3 : Nat → Nat) => some (.int (invZ q mp))) u.1 u.2) (fun u => (fun (mp3 : Nat → Nat) (ot3 : Nat → Nat) => [(md 0, .inr (7, [.int (nI q), .int (nI (nn q)), .ref (md 1), .ref (md 2), .ref (md 3), .ref (md 4), .ref (md 5), .ref (md 6), .ref (md 7), .ref (md 8), .ref (md 9), .ref (md 10), .ref (md 11), .ref (md 12), .ref (md 13), .ref (md 14), .ref (md 15), .ref (md 16), .int (nI w), .ref (md 17)])), (md 1, .inl (cI, 81, .inl (nF su))), (md 2, .inl (cI, 81, .inl (nF po))), (md 3, .inl (cI, 91, .inl (nF xs))), (md 4, .inl (cI, 91, .inl (nF ys))), (md 5, .inl (cI, 91, .inl (nF zs))), (md 7, .inl (cI, 9, .inl (nF mp3))), (md 14, .inl (cI, 9, .inl (nF ot3)))]) u.1 u.2) A) A 125 ls [] := by
      intro N125
      induction N125 with
      | zero => intro i n1 ls H locs hN; exact absurd hN (Nat.not_lt_zero _)
      | succ N125 ih125 =>
        intro i n1 ls H locs hN125 k_i k_s hl hP hD hS
        refine lv_iload_n hx hb dX7_invert_125 rfl (lv_at hl 1 rfl) ?_
        refine lv_bipush (v := nI 9) hx hb dX7_invert_126 (by decide) ?_
        refine nv_icmp_ge (tgt := 149) hx hb (by omega) (by decide) dX7_invert_128 (by decide) (fun c128 => ?_) (fun c128 => ?_)
        · refine lv_aload_n hx hb dX7_invert_149 rfl (lv_at hl 0 rfl) ?_
          refine ctW_V (As := []) (rest := []) (wr := [(md 14, .inl (cI, 9, .inl (nF (upN (upN (upN (upN (upN (upN (upN (upN (upN ot 0 (fcw q (mp 4) (mp 5) (mp 7) (mp 8))) 3 (fcw q (mp 5) (mp 3) (mp 8) (mp 6))) 6 (fcw q (mp 3) (mp 4) (mp 6) (mp 7))) 1 (fcw q (mp 7) (mp 8) (mp 1) (mp 2))) 4 (fcw q (mp 8) (mp 6) (mp 2) (mp 0))) 7 (fcw q (mp 6) (mp 7) (mp 0) (mp 1))) 2 (fcw q (mp 1) (mp 2) (mp 4) (mp 5))) 5 (fcw q (mp 2) (mp 0) (mp 5) (mp 3))) 8 (fcw q (mp 0) (mp 1) (mp 3) (mp 4))))))]) ⟨hx, hb, hml, hown, hts⟩ (c_X7_settle l D cI cZ md q w su po xs ys zs hM n1 (fun t ht => by rw [k_s t (by omega)]; exact cofq_lt hM.1 k_m) (by rw [hdf_congr (fun t ht => k_s t (by omega))]; exact det_cof hM.1 k_m c4)) (cwV 0 hts gX7_invert_X7_settle rfl rfl rfl hdV_X7_settle ⟨Nat.le_of_ble_eq_true rfl, Nat.le_of_ble_eq_true rfl⟩) hK hN hP hD hS hA [0, 1, 2, 3, 4, 5, 6] [7] rfl rfl rfl (by decide) (by decide) (by decide) 0 7 rfl rfl rfl hl.1 rfl (Nat.le_of_ble_eq_true rfl) ⟨Nat.zero_le _, Nat.zero_le _⟩ dX7_invert_150 (fun mp_11 H locs hu150 hP hD hS => ?_)
          try dsimp only at hu150
          have hP : va_P D vwCl [(md 0, .inr (7, [.int (nI q), .int (nI (nn q)), .ref (md 1), .ref (md 2), .ref (md 3), .ref (md 4), .ref (md 5), .ref (md 6), .ref (md 7), .ref (md 8), .ref (md 9), .ref (md 10), .ref (md 11), .ref (md 12), .ref (md 13), .ref (md 14), .ref (md 15), .ref (md 16), .int (nI w), .ref (md 17)])), (md 1, .inl (cI, 81, .inl (nF su))), (md 2, .inl (cI, 81, .inl (nF po))), (md 3, .inl (cI, 91, .inl (nF xs))), (md 4, .inl (cI, 91, .inl (nF ys))), (md 5, .inl (cI, 91, .inl (nF zs))), (md 7, .inl (cI, 9, .inl (nF mp_11))), (md 14, .inl (cI, 9, .inl (nF (upN (upN (upN (upN (upN (upN (upN (upN (upN ot 0 (fcw q (mp 4) (mp 5) (mp 7) (mp 8))) 3 (fcw q (mp 5) (mp 3) (mp 8) (mp 6))) 6 (fcw q (mp 3) (mp 4) (mp 6) (mp 7))) 1 (fcw q (mp 7) (mp 8) (mp 1) (mp 2))) 4 (fcw q (mp 8) (mp 6) (mp 2) (mp 0))) 7 (fcw q (mp 6) (mp 7) (mp 0) (mp 1))) 2 (fcw q (mp 1) (mp 2) (mp 4) (mp 5))) 5 (fcw q (mp 2) (mp 0) (mp 5) (mp 3))) 8 (fcw q (mp 0) (mp 1) (mp 3) (mp 4))))))] H := hP.sub [1, 2, 3, 4, 5, 6, 7, 0] rfl
          have hD : va_D A [(md 0, .inr (7, [.int (nI q), .int (nI (nn q)), .ref (md 1), .ref (md 2), .ref (md 3), .ref (md 4), .ref (md 5), .ref (md 6), .ref (md 7), .ref (md 8), .ref (md 9), .ref (md 10), .ref (md 11), .ref (md 12), .ref (md 13), .ref (md 14), .ref (md 15), .ref (md 16), .int (nI w), .ref (md 17)])), (md 1, .inl (cI, 81, .inl (nF su))), (md 2, .inl (cI, 81, .inl (nF po))), (md 3, .inl (cI, 91, .inl (nF xs))), (md 4, .inl (cI, 91, .inl (nF ys))), (md 5, .inl (cI, 91, .inl (nF zs))), (md 7, .inl (cI, 9, .inl (nF mp_11))), (md 14, .inl (cI, 9, .inl (nF (upN (upN (upN (upN (upN (upN (upN (upN (upN ot 0 (fcw q (mp 4) (mp 5) (mp 7) (mp 8))) 3 (fcw q (mp 5) (mp 3) (mp 8) (mp 6))) 6 (fcw q (mp 3) (mp 4) (mp 6) (mp 7))) 1 (fcw q (mp 7) (mp 8) (mp 1) (mp 2))) 4 (fcw q (mp 8) (mp 6) (mp 2) (mp 0))) 7 (fcw q (mp 6) (mp 7) (mp 0) (mp 1))) 2 (fcw q (mp 1) (mp 2) (mp 4) (mp 5))) 5 (fcw q (mp 2) (mp 0) (mp 5) (mp 3))) 8 (fcw q (mp 0) (mp 1) (mp 3) (mp 4))))))] := hD.sub [1, 2, 3, 4, 5, 6, 7, 0] (by decide) rfl
          refine W.eq (g2 := F0 m 153 ls []) rfl ?_
          refine lv_iconst (v := nI 1) hx hb dX7_invert_153 (by decide) ?_
          exact ctW_retI (v := (nI 1)) (mp_11, (upN (upN (upN (upN (upN (upN (upN (upN (upN ot 0 (fcw q (mp 4) (mp 5) (mp 7) (mp 8))) 3 (fcw q (mp 5) (mp 3) (mp 8) (mp 6))) 6 (fcw q (mp 3) (mp 4) (mp 6) (mp 7))) 1 (fcw q (mp 7) (mp 8) (mp 1) (mp 2))) 4 (fcw q (mp 8) (mp 6) (mp 2) (mp 0))) 7 (fcw q (mp 6) (mp 7) (mp 0) (mp 1))) 2 (fcw q (mp 1) (mp 2) (mp 4) (mp 5))) 5 (fcw q (mp 2) (mp 0) (mp 5) (mp 3))) 8 (fcw q (mp 0) (mp 1) (mp 3) (mp 4)))) hx hb hr rfl dX7_invert_154 hlocks hS hP hD (by dsimp only; exact (fun t ht => by rw [invM, if_neg c4, hu150 t ht]; exact tld_congr ht (fun t ht => k_s t (by omega)))) (by rw [invZ, if_neg c4])
        · refine lv_aload_n hx hb dX7_invert_131 rfl (lv_at hl 0 rfl) ?_
          refine va_get (D := D) (ci := 7) (v := .ref (md 7)) (C := RX7) (T := TX7) (N := 20) hx hb hts hiX7 hown hK hP 0 rfl rfl 8 (by decide) hf29 (fun _ h9 => h9) rfl dX7_invert_132 ?_
          refine lv_iload_n hx hb dX7_invert_135 rfl (lv_at hl 1 rfl) ?_
          refine lv_aload_n hx hb dX7_invert_136 rfl (lv_at hl 0 rfl) ?_
          refine va_get (D := D) (ci := 7) (v := .ref (md 14)) (C := RX7) (T := TX7) (N := 20) hx hb hts hiX7 hown hK hP 0 rfl rfl 15 (by decide) hf50 (fun _ h9 => h9) rfl dX7_invert_137 ?_
          refine lv_iload_n hx hb dX7_invert_140 rfl (lv_at hl 1 rfl) ?_
          refine nv_iald hx hb hK hP 7 0 rfl rfl (by omega) (by decide) dX7_invert_141 ?_
          refine nv_iast hx hb hK hP hD hS 6 0 rfl rfl (by omega) (by decide) dX7_invert_142 (fun H locs hP hD hS => ?_)
          have hP : va_P D vwCl [(md 0, .inr (7, [.int (nI q), .int (nI (nn q)), .ref (md 1), .ref (md 2), .ref (md 3), .ref (md 4), .ref (md 5), .ref (md 6), .ref (md 7), .ref (md 8), .ref (md 9), .ref (md 10), .ref (md 11), .ref (md 12), .ref (md 13), .ref (md 14), .ref (md 15), .ref (md 16), .int (nI w), .ref (md 17)])), (md 1, .inl (cI, 81, .inl (nF su))), (md 2, .inl (cI, 81, .inl (nF po))), (md 3, .inl (cI, 91, .inl (nF xs))), (md 4, .inl (cI, 91, .inl (nF ys))), (md 5, .inl (cI, 91, .inl (nF zs))), (md 7, .inl (cI, 9, .inl (nF (upN n1 i ((upN (upN (upN (upN (upN (upN (upN (upN (upN ot 0 (fcw q (mp 4) (mp 5) (mp 7) (mp 8))) 3 (fcw q (mp 5) (mp 3) (mp 8) (mp 6))) 6 (fcw q (mp 3) (mp 4) (mp 6) (mp 7))) 1 (fcw q (mp 7) (mp 8) (mp 1) (mp 2))) 4 (fcw q (mp 8) (mp 6) (mp 2) (mp 0))) 7 (fcw q (mp 6) (mp 7) (mp 0) (mp 1))) 2 (fcw q (mp 1) (mp 2) (mp 4) (mp 5))) 5 (fcw q (mp 2) (mp 0) (mp 5) (mp 3))) 8 (fcw q (mp 0) (mp 1) (mp 3) (mp 4))) i))))), (md 14, .inl (cI, 9, .inl (nF (upN (upN (upN (upN (upN (upN (upN (upN (upN ot 0 (fcw q (mp 4) (mp 5) (mp 7) (mp 8))) 3 (fcw q (mp 5) (mp 3) (mp 8) (mp 6))) 6 (fcw q (mp 3) (mp 4) (mp 6) (mp 7))) 1 (fcw q (mp 7) (mp 8) (mp 1) (mp 2))) 4 (fcw q (mp 8) (mp 6) (mp 2) (mp 0))) 7 (fcw q (mp 6) (mp 7) (mp 0) (mp 1))) 2 (fcw q (mp 1) (mp 2) (mp 4) (mp 5))) 5 (fcw q (mp 2) (mp 0) (mp 5) (mp 3))) 8 (fcw q (mp 0) (mp 1) (mp 3) (mp 4))))))] H := hP
          have hD : va_D A [(md 0, .inr (7, [.int (nI q), .int (nI (nn q)), .ref (md 1), .ref (md 2), .ref (md 3), .ref (md 4), .ref (md 5), .ref (md 6), .ref (md 7), .ref (md 8), .ref (md 9), .ref (md 10), .ref (md 11), .ref (md 12), .ref (md 13), .ref (md 14), .ref (md 15), .ref (md 16), .int (nI w), .ref (md 17)])), (md 1, .inl (cI, 81, .inl (nF su))), (md 2, .inl (cI, 81, .inl (nF po))), (md 3, .inl (cI, 91, .inl (nF xs))), (md 4, .inl (cI, 91, .inl (nF ys))), (md 5, .inl (cI, 91, .inl (nF zs))), (md 7, .inl (cI, 9, .inl (nF (upN n1 i ((upN (upN (upN (upN (upN (upN (upN (upN (upN ot 0 (fcw q (mp 4) (mp 5) (mp 7) (mp 8))) 3 (fcw q (mp 5) (mp 3) (mp 8) (mp 6))) 6 (fcw q (mp 3) (mp 4) (mp 6) (mp 7))) 1 (fcw q (mp 7) (mp 8) (mp 1) (mp 2))) 4 (fcw q (mp 8) (mp 6) (mp 2) (mp 0))) 7 (fcw q (mp 6) (mp 7) (mp 0) (mp 1))) 2 (fcw q (mp 1) (mp 2) (mp 4) (mp 5))) 5 (fcw q (mp 2) (mp 0) (mp 5) (mp 3))) 8 (fcw q (mp 0) (mp 1) (mp 3) (mp 4))) i))))), (md 14, .inl (cI, 9, .inl (nF (upN (upN (upN (upN (upN (upN (upN (upN (upN ot 0 (fcw q (mp 4) (mp 5) (mp 7) (mp 8))) 3 (fcw q (mp 5) (mp 3) (mp 8) (mp 6))) 6 (fcw q (mp 3) (mp 4) (mp 6) (mp 7))) 1 (fcw q (mp 7) (mp 8) (mp 1) (mp 2))) 4 (fcw q (mp 8) (mp 6) (mp 2) (mp 0))) 7 (fcw q (mp 6) (mp 7) (mp 0) (mp 1))) 2 (fcw q (mp 1) (mp 2) (mp 4) (mp 5))) 5 (fcw q (mp 2) (mp 0) (mp 5) (mp 3))) 8 (fcw q (mp 0) (mp 1) (mp 3) (mp 4))))))] := hD
          refine lv_iinc (v := nI (i + 1)) (lv' := [(1, .int (nI (i + 1))), (0, .ref (md 0))]) hx hb dX7_invert_143 hl (k := 1) rfl (nI_inc i) (by decide) rfl (fun ls hl => ?_)
          refine lv_goto (tgt := 125) hx hb dX7_invert_146 (by decide) ?_
          exact ih125 (i + 1) (upN n1 i ((upN (upN (upN (upN (upN (upN (upN (upN (upN ot 0 (fcw q (mp 4) (mp 5) (mp 7) (mp 8))) 3 (fcw q (mp 5) (mp 3) (mp 8) (mp 6))) 6 (fcw q (mp 3) (mp 4) (mp 6) (mp 7))) 1 (fcw q (mp 7) (mp 8) (mp 1) (mp 2))) 4 (fcw q (mp 8) (mp 6) (mp 2) (mp 0))) 7 (fcw q (mp 6) (mp 7) (mp 0) (mp 1))) 2 (fcw q (mp 1) (mp 2) (mp 4) (mp 5))) 5 (fcw q (mp 2) (mp 0) (mp 5) (mp 3))) 8 (fcw q (mp 0) (mp 1) (mp 3) (mp 4))) i)) ls _ _ (by omega) (by omega) (fun t ht => (Nat.lt_succ_iff_lt_or_eq.mp ht).elim (fun h => by rw [upN_n (by omega)]; exact k_s t h) (fun h => by rw [h, upN_s]; exact hoth i c128)) (lv_sub hl [1, 0] rfl) hP hD hS
    exact L125 (9 - 0 + 1) 0 mp ls _ _ (by omega) (Nat.zero_le _) (fun t h => absurd h (Nat.not_lt_zero t)) (lv_sub hl [6, 0] rfl) hP hD hS
  · refine lv_bipush (v := (-3)) hx hb dX7_invert_7 (by decide) ?_
    exact ctW_retI (v := (-3)) (mp, ot) hx hb hr rfl dX7_invert_9 hlocks hS hP hD (by dsimp only; exact (fun t _ => by rw [invM, if_pos c4])) (by rw [invZ, if_pos c4])

set_option maxHeartbeats 4000000 in
set_option maxRecDepth 100000 in
theorem c_X7_isLine (l : Launch) (D : va_G) (cI cZ : ClassId) (md : Nat → Nat) (q : Nat) (w : Nat) (su : Nat → Nat) (po : Nat → Nat) (xs : Nat → Nat) (ys : Nat → Nat) (zs : Nat → Nat) (hM : MOK q su po xs ys zs) (i : Nat) (j : Nat) (k : Nat) (k_1 : i < nn q) (k_2 : j < nn q) (k_3 : k < nn q) : CtR l yX7_isLine wsX7_isLine { frames := 2, cells := 0, slots := 0, locals := 44 } D (tyG cI cZ) [.ref (md 0), .int (nI i), .int (nI j), .int (nI k)] [(md 0, .inr (7, [.int (nI q), .int (nI (nn q)), .ref (md 1), .ref (md 2), .ref (md 3), .ref (md 4), .ref (md 5), .ref (md 6), .ref (md 7), .ref (md 8), .ref (md 9), .ref (md 10), .ref (md 11), .ref (md 12), .ref (md 13), .ref (md 14), .ref (md 15), .ref (md 16), .int (nI w), .ref (md 17)])), (md 1, .inl (cI, 81, .inl (nF su))), (md 2, .inl (cI, 81, .inl (nF po))), (md 3, .inl (cI, 91, .inl (nF xs))), (md 4, .inl (cI, 91, .inl (nF ys))), (md 5, .inl (cI, 91, .inl (nF zs)))] (.int (nI (vdet q (pt q i) (pt q j) (pt q k) == 0).toNat)) := by
  refine Met.ofW (cc := cX7_isLine) (maxL := 6) (ret := some .boolean) (by decide) rfl ?_
  intro p e s m args below meth c s₁ B hml hv
  obtain ⟨rfl, hP, hK, hN⟩ := hv
  have hx := B.exec
  have hb := B.bytes
  have hr := B.returns
  have hts := atoms_spec (ws := wsX7_isLine) B.pre
  have hown : s.vm.findClass RX7 = some m.cls := findClass_of_methodNamed B.named
  have hlocks := B.notSynchronized
  have hf83 := hts (.fieldLink RX7 83 "FinitePlanesModel" "n" "I") (by decide +kernel)
  have hiX7 : ∀ w ∈ u_ws RX7 TX7 20, w ∈ wsX7_isLine := by decide +kernel
  have hl := lv_entry ([.ref (md 0), .int (nI i), .int (nI j), .int (nI k)]) (n := 6) (Nat.le_of_ble_eq_true rfl)
  rw [lg_entry_eq]
  generalize (lg_sl ([.ref (md 0), .int (nI i), .int (nI j), .int (nI k)]) ++ List.replicate (6 - (lg_sl ([.ref (md 0), .int (nI i), .int (nI j), .int (nI k)])).length) Slot.unset).toArray = ls at hl ⊢
  have hl : lv_has ls 6 [(0, .ref (md 0)), (1, .int (nI i)), (2, .int (nI j)), (3, .int (nI k))] := hl
  have hq2 := qs_le hM.1
  have hn2 := nn_le hM.1
  refine lv_iconst (v := nI 0) hx hb dX7_isLine_0 (by decide) ?_
  refine lv_istore (lv' := [(4, .int (nI 0)), (0, .ref (md 0)), (1, .int (nI i)), (2, .int (nI j)), (3, .int (nI k))]) hx hb dX7_isLine_1 hl (by decide) rfl (fun ls hl => ?_)
  refine lv_iconst (v := nI 0) hx hb dX7_isLine_3 (by decide) ?_
  refine lv_istore (lv' := [(5, .int (nI 0)), (4, .int (nI 0)), (0, .ref (md 0)), (1, .int (nI i)), (2, .int (nI j)), (3, .int (nI k))]) hx hb dX7_isLine_4 hl (by decide) rfl (fun ls hl => ?_)
  have L6 : ∀ (N6 : Nat) (y : Bool) (t : Nat) (ls : Array Slot), nn q - t < N6 → (t ≤ nn q) → (y = anyB (fun l => onq q i l && onq q j l && onq q k l) t) → lv_has ls 6 [(0, .ref (md 0)), (1, .int (nI i)), (2, .int (nI j)), (3, .int (nI k)), (4, .int (nI (y).toNat)), (5, .int (nI t))] → WR p l e wsX7_isLine { frames := 2, cells := 0, slots := 0, locals := 44 } s m [.ref (md 0), .int (nI i), .int (nI j), .int (nI k)] below meth c (.int (nI (vdet q (pt q i) (pt q j) (pt q k) == 0).toNat)) 6 ls [] := by
    intro N6
    induction N6 with
    | zero => intro y t ls hN; exact absurd hN (Nat.not_lt_zero _)
    | succ N6 ih6 =>
      intro y t ls hN6 k_i k_y hl
      refine lv_iload hx hb dX7_isLine_6 (lv_at hl 5 rfl) ?_
      refine lv_aload_n hx hb dX7_isLine_8 rfl (lv_at hl 0 rfl) ?_
      refine va_get (D := D) (ci := 7) (v := .int (nI (nn q))) (C := RX7) (T := TX7) (N := 20) hx hb hts hiX7 hown hK hP 0 rfl rfl 1 (by decide) hf83 (fun _ h9 => h9) rfl dX7_isLine_9 ?_
      refine nv_icmp_ge (tgt := 63) hx hb (by omega) (by omega) dX7_isLine_12 (by decide) (fun c12 => ?_) (fun c12 => ?_)
      · refine lv_iload hx hb dX7_isLine_63 (lv_at hl 4 rfl) ?_
        exact ctR_ret (v := (nI (y).toNat)) hx hb hr (nar_bool y) dX7_isLine_65 hlocks (by rw [← line_det hM.1 k_1 k_2 k_3, k_y, show t = nn q by omega]; rfl)
      · refine lv_iload hx hb dX7_isLine_15 (lv_at hl 4 rfl) ?_
        refine nv_ifb_ne (tgt := 50) hx hb dX7_isLine_17 (by decide) (fun c17 => ?_) (fun c17 => ?_)
        · refine lv_iconst (v := nI 1) hx hb dX7_isLine_50 (by decide) ?_
          refine lv_goto (tgt := 55) hx hb dX7_isLine_51 (by decide) ?_
          refine lv_istore (lv' := [(4, .int (nI 1)), (0, .ref (md 0)), (1, .int (nI i)), (2, .int (nI j)), (3, .int (nI k)), (5, .int (nI t))]) hx hb dX7_isLine_55 hl (by decide) rfl (fun ls hl => ?_)
          refine lv_iinc (v := nI (t + 1)) (lv' := [(5, .int (nI (t + 1))), (4, .int (nI 1)), (0, .ref (md 0)), (1, .int (nI i)), (2, .int (nI j)), (3, .int (nI k))]) hx hb dX7_isLine_57 hl (k := 5) rfl (nI_inc t) (by decide) rfl (fun ls hl => ?_)
          refine lv_goto (tgt := 6) hx hb dX7_isLine_60 (by decide) ?_
          exact ih6 true (t + 1) ls (by omega) (by omega) (by rw [anyB, ← k_y, c17]; rfl) (lv_sub hl [2, 3, 4, 5, 1, 0] rfl)
        · refine lv_aload_n hx hb dX7_isLine_20 rfl (lv_at hl 0 rfl) ?_
          refine lv_iload_n hx hb dX7_isLine_21 rfl (lv_at hl 1 rfl) ?_
          refine lv_iload hx hb dX7_isLine_22 (lv_at hl 5 rfl) ?_
          refine ctR_V (As := [.int (nI i), .int (nI t)]) (rest := []) (r := .int (nI (onq q i t).toNat)) ⟨hx, hb, hml, hown, hts⟩ (c_X7_isOn l D cI cZ md q w su po xs ys zs hM i t (by omega) (by omega)) (cwV 2 hts gX7_isLine_X7_isOn rfl rfl rfl hdV_X7_isOn ⟨Nat.le_of_ble_eq_true rfl, Nat.le_of_ble_eq_true rfl⟩) hK hN hP [0, 1, 2, 3, 4, 5] rfl 0 7 rfl rfl rfl hl.1 rfl (Nat.le_of_ble_eq_true rfl) ⟨Nat.zero_le _, Nat.zero_le _⟩ dX7_isLine_24 ?_
          refine nv_ifb_eq (tgt := 54) hx hb dX7_isLine_27 (by decide) (fun c27 => ?_) (fun c27 => ?_)
          · refine lv_iconst (v := nI 0) hx hb dX7_isLine_54 (by decide) ?_
            refine lv_istore (lv' := [(4, .int (nI 0)), (0, .ref (md 0)), (1, .int (nI i)), (2, .int (nI j)), (3, .int (nI k)), (5, .int (nI t))]) hx hb dX7_isLine_55 hl (by decide) rfl (fun ls hl => ?_)
            refine lv_iinc (v := nI (t + 1)) (lv' := [(5, .int (nI (t + 1))), (4, .int (nI 0)), (0, .ref (md 0)), (1, .int (nI i)), (2, .int (nI j)), (3, .int (nI k))]) hx hb dX7_isLine_57 hl (k := 5) rfl (nI_inc t) (by decide) rfl (fun ls hl => ?_)
            refine lv_goto (tgt := 6) hx hb dX7_isLine_60 (by decide) ?_
            exact ih6 false (t + 1) ls (by omega) (by omega) (by rw [anyB, ← k_y, c17, c27]; rfl) (lv_sub hl [2, 3, 4, 5, 1, 0] rfl)
          · refine lv_aload_n hx hb dX7_isLine_30 rfl (lv_at hl 0 rfl) ?_
            refine lv_iload_n hx hb dX7_isLine_31 rfl (lv_at hl 2 rfl) ?_
            refine lv_iload hx hb dX7_isLine_32 (lv_at hl 5 rfl) ?_
            refine ctR_V (As := [.int (nI j), .int (nI t)]) (rest := []) (r := .int (nI (onq q j t).toNat)) ⟨hx, hb, hml, hown, hts⟩ (c_X7_isOn l D cI cZ md q w su po xs ys zs hM j t (by omega) (by omega)) (cwV 2 hts gX7_isLine_X7_isOn rfl rfl rfl hdV_X7_isOn ⟨Nat.le_of_ble_eq_true rfl, Nat.le_of_ble_eq_true rfl⟩) hK hN hP [0, 1, 2, 3, 4, 5] rfl 0 7 rfl rfl rfl hl.1 rfl (Nat.le_of_ble_eq_true rfl) ⟨Nat.zero_le _, Nat.zero_le _⟩ dX7_isLine_34 ?_
            refine nv_ifb_eq (tgt := 54) hx hb dX7_isLine_37 (by decide) (fun c37 => ?_) (fun c37 => ?_)
            · refine lv_iconst (v := nI 0) hx hb dX7_isLine_54 (by decide) ?_
              refine lv_istore (lv' := [(4, .int (nI 0)), (0, .ref (md 0)), (1, .int (nI i)), (2, .int (nI j)), (3, .int (nI k)), (5, .int (nI t))]) hx hb dX7_isLine_55 hl (by decide) rfl (fun ls hl => ?_)
              refine lv_iinc (v := nI (t + 1)) (lv' := [(5, .int (nI (t + 1))), (4, .int (nI 0)), (0, .ref (md 0)), (1, .int (nI i)), (2, .int (nI j)), (3, .int (nI k))]) hx hb dX7_isLine_57 hl (k := 5) rfl (nI_inc t) (by decide) rfl (fun ls hl => ?_)
              refine lv_goto (tgt := 6) hx hb dX7_isLine_60 (by decide) ?_
              exact ih6 false (t + 1) ls (by omega) (by omega) (by rw [anyB, ← k_y, c17, c27, c37]; rfl) (lv_sub hl [2, 3, 4, 5, 1, 0] rfl)
            · refine lv_aload_n hx hb dX7_isLine_40 rfl (lv_at hl 0 rfl) ?_
              refine lv_iload_n hx hb dX7_isLine_41 rfl (lv_at hl 3 rfl) ?_
              refine lv_iload hx hb dX7_isLine_42 (lv_at hl 5 rfl) ?_
              refine ctR_V (As := [.int (nI k), .int (nI t)]) (rest := []) (r := .int (nI (onq q k t).toNat)) ⟨hx, hb, hml, hown, hts⟩ (c_X7_isOn l D cI cZ md q w su po xs ys zs hM k t (by omega) (by omega)) (cwV 2 hts gX7_isLine_X7_isOn rfl rfl rfl hdV_X7_isOn ⟨Nat.le_of_ble_eq_true rfl, Nat.le_of_ble_eq_true rfl⟩) hK hN hP [0, 1, 2, 3, 4, 5] rfl 0 7 rfl rfl rfl hl.1 rfl (Nat.le_of_ble_eq_true rfl) ⟨Nat.zero_le _, Nat.zero_le _⟩ dX7_isLine_44 ?_
              refine nv_ifb_eq (tgt := 54) hx hb dX7_isLine_47 (by decide) (fun c47 => ?_) (fun c47 => ?_)
              · refine lv_iconst (v := nI 0) hx hb dX7_isLine_54 (by decide) ?_
                refine lv_istore (lv' := [(4, .int (nI 0)), (0, .ref (md 0)), (1, .int (nI i)), (2, .int (nI j)), (3, .int (nI k)), (5, .int (nI t))]) hx hb dX7_isLine_55 hl (by decide) rfl (fun ls hl => ?_)
                refine lv_iinc (v := nI (t + 1)) (lv' := [(5, .int (nI (t + 1))), (4, .int (nI 0)), (0, .ref (md 0)), (1, .int (nI i)), (2, .int (nI j)), (3, .int (nI k))]) hx hb dX7_isLine_57 hl (k := 5) rfl (nI_inc t) (by decide) rfl (fun ls hl => ?_)
                refine lv_goto (tgt := 6) hx hb dX7_isLine_60 (by decide) ?_
                exact ih6 false (t + 1) ls (by omega) (by omega) (by rw [anyB, ← k_y, c17, c27, c37, c47]; rfl) (lv_sub hl [2, 3, 4, 5, 1, 0] rfl)
              · refine lv_iconst (v := nI 1) hx hb dX7_isLine_50 (by decide) ?_
                refine lv_goto (tgt := 55) hx hb dX7_isLine_51 (by decide) ?_
                refine lv_istore (lv' := [(4, .int (nI 1)), (0, .ref (md 0)), (1, .int (nI i)), (2, .int (nI j)), (3, .int (nI k)), (5, .int (nI t))]) hx hb dX7_isLine_55 hl (by decide) rfl (fun ls hl => ?_)
                refine lv_iinc (v := nI (t + 1)) (lv' := [(5, .int (nI (t + 1))), (4, .int (nI 1)), (0, .ref (md 0)), (1, .int (nI i)), (2, .int (nI j)), (3, .int (nI k))]) hx hb dX7_isLine_57 hl (k := 5) rfl (nI_inc t) (by decide) rfl (fun ls hl => ?_)
                refine lv_goto (tgt := 6) hx hb dX7_isLine_60 (by decide) ?_
                exact ih6 true (t + 1) ls (by omega) (by omega) (by rw [anyB, ← k_y, c17, c27, c37, c47]; rfl) (lv_sub hl [2, 3, 4, 5, 1, 0] rfl)
  exact L6 (nn q - 0 + 1) false 0 ls (by omega) (Nat.zero_le _) rfl (lv_sub hl [2, 3, 4, 5, 1, 0] rfl)

set_option maxHeartbeats 4000000 in
set_option maxRecDepth 100000 in
theorem c_X7_isFrame (l : Launch) (D : va_G) (cI cZ : ClassId) (md : Nat → Nat) (q : Nat) (w : Nat) (su : Nat → Nat) (po : Nat → Nat) (xs : Nat → Nat) (ys : Nat → Nat) (zs : Nat → Nat) (hM : MOK q su po xs ys zs) (i : Nat) (j : Nat) (k : Nat) (r : Nat) (k_1 : i < nn q) (k_2 : j < nn q) (k_3 : k < nn q) (k_4 : r < nn q) : CtR l yX7_isFrame wsX7_isFrame { frames := 3, cells := 0, slots := 0, locals := 69 } D (tyG cI cZ) [.ref (md 0), .int (nI i), .int (nI j), .int (nI k), .int (nI r)] [(md 0, .inr (7, [.int (nI q), .int (nI (nn q)), .ref (md 1), .ref (md 2), .ref (md 3), .ref (md 4), .ref (md 5), .ref (md 6), .ref (md 7), .ref (md 8), .ref (md 9), .ref (md 10), .ref (md 11), .ref (md 12), .ref (md 13), .ref (md 14), .ref (md 15), .ref (md 16), .int (nI w), .ref (md 17)])), (md 1, .inl (cI, 81, .inl (nF su))), (md 2, .inl (cI, 81, .inl (nF po))), (md 3, .inl (cI, 91, .inl (nF xs))), (md 4, .inl (cI, 91, .inl (nF ys))), (md 5, .inl (cI, 91, .inl (nF zs)))] (.int (nI (frq q i j k r).toNat)) := by
  refine Met.ofW (cc := cX7_isFrame) (maxL := 5) (ret := some .boolean) (by decide) rfl ?_
  intro p e s m args below meth c s₁ B hml hv
  obtain ⟨rfl, hP, hK, hN⟩ := hv
  have hx := B.exec
  have hb := B.bytes
  have hr := B.returns
  have hts := atoms_spec (ws := wsX7_isFrame) B.pre
  have hown : s.vm.findClass RX7 = some m.cls := findClass_of_methodNamed B.named
  have hlocks := B.notSynchronized
  have hl := lv_entry ([.ref (md 0), .int (nI i), .int (nI j), .int (nI k), .int (nI r)]) (n := 5) (Nat.le_of_ble_eq_true rfl)
  rw [lg_entry_eq]
  generalize (lg_sl ([.ref (md 0), .int (nI i), .int (nI j), .int (nI k), .int (nI r)]) ++ List.replicate (5 - (lg_sl ([.ref (md 0), .int (nI i), .int (nI j), .int (nI k), .int (nI r)])).length) Slot.unset).toArray = ls at hl ⊢
  have hl : lv_has ls 5 [(0, .ref (md 0)), (1, .int (nI i)), (2, .int (nI j)), (3, .int (nI k)), (4, .int (nI r))] := hl
  have hq2 := qs_le hM.1
  have hn2 := nn_le hM.1
  refine lv_aload_n hx hb dX7_isFrame_0 rfl (lv_at hl 0 rfl) ?_
  refine lv_iload_n hx hb dX7_isFrame_1 rfl (lv_at hl 1 rfl) ?_
  refine lv_iload_n hx hb dX7_isFrame_2 rfl (lv_at hl 2 rfl) ?_
  refine lv_iload_n hx hb dX7_isFrame_3 rfl (lv_at hl 3 rfl) ?_
  refine ctR_V (As := [.int (nI i), .int (nI j), .int (nI k)]) (rest := []) (r := .int (nI (vdet q (pt q i) (pt q j) (pt q k) == 0).toNat)) ⟨hx, hb, hml, hown, hts⟩ (c_X7_isLine l D cI cZ md q w su po xs ys zs hM i j k (by omega) (by omega) (by omega)) (cwV 3 hts gX7_isFrame_X7_isLine rfl rfl rfl hdV_X7_isLine ⟨Nat.le_of_ble_eq_true rfl, Nat.le_of_ble_eq_true rfl⟩) hK hN hP [0, 1, 2, 3, 4, 5] rfl 0 7 rfl rfl rfl hl.1 rfl (Nat.le_of_ble_eq_true rfl) ⟨Nat.zero_le _, Nat.zero_le _⟩ dX7_isFrame_4 ?_
  refine nv_ifb_ne (tgt := 47) hx hb dX7_isFrame_7 (by decide) (fun c7 => ?_) (fun c7 => ?_)
  · refine lv_iconst (v := nI 0) hx hb dX7_isFrame_47 (by decide) ?_
    exact ctR_ret (v := (nI 0)) hx hb hr (nar_bool false) dX7_isFrame_48 hlocks (by rw [frq, c7]; rfl)
  · refine lv_aload_n hx hb dX7_isFrame_10 rfl (lv_at hl 0 rfl) ?_
    refine lv_iload_n hx hb dX7_isFrame_11 rfl (lv_at hl 1 rfl) ?_
    refine lv_iload_n hx hb dX7_isFrame_12 rfl (lv_at hl 2 rfl) ?_
    refine lv_iload hx hb dX7_isFrame_13 (lv_at hl 4 rfl) ?_
    refine ctR_V (As := [.int (nI i), .int (nI j), .int (nI r)]) (rest := []) (r := .int (nI (vdet q (pt q i) (pt q j) (pt q r) == 0).toNat)) ⟨hx, hb, hml, hown, hts⟩ (c_X7_isLine l D cI cZ md q w su po xs ys zs hM i j r (by omega) (by omega) (by omega)) (cwV 3 hts gX7_isFrame_X7_isLine rfl rfl rfl hdV_X7_isLine ⟨Nat.le_of_ble_eq_true rfl, Nat.le_of_ble_eq_true rfl⟩) hK hN hP [0, 1, 2, 3, 4, 5] rfl 0 7 rfl rfl rfl hl.1 rfl (Nat.le_of_ble_eq_true rfl) ⟨Nat.zero_le _, Nat.zero_le _⟩ dX7_isFrame_15 ?_
    refine nv_ifb_ne (tgt := 47) hx hb dX7_isFrame_18 (by decide) (fun c18 => ?_) (fun c18 => ?_)
    · refine lv_iconst (v := nI 0) hx hb dX7_isFrame_47 (by decide) ?_
      exact ctR_ret (v := (nI 0)) hx hb hr (nar_bool false) dX7_isFrame_48 hlocks (by rw [frq, c18]; simp)
    · refine lv_aload_n hx hb dX7_isFrame_21 rfl (lv_at hl 0 rfl) ?_
      refine lv_iload_n hx hb dX7_isFrame_22 rfl (lv_at hl 1 rfl) ?_
      refine lv_iload_n hx hb dX7_isFrame_23 rfl (lv_at hl 3 rfl) ?_
      refine lv_iload hx hb dX7_isFrame_24 (lv_at hl 4 rfl) ?_
      refine ctR_V (As := [.int (nI i), .int (nI k), .int (nI r)]) (rest := []) (r := .int (nI (vdet q (pt q i) (pt q k) (pt q r) == 0).toNat)) ⟨hx, hb, hml, hown, hts⟩ (c_X7_isLine l D cI cZ md q w su po xs ys zs hM i k r (by omega) (by omega) (by omega)) (cwV 3 hts gX7_isFrame_X7_isLine rfl rfl rfl hdV_X7_isLine ⟨Nat.le_of_ble_eq_true rfl, Nat.le_of_ble_eq_true rfl⟩) hK hN hP [0, 1, 2, 3, 4, 5] rfl 0 7 rfl rfl rfl hl.1 rfl (Nat.le_of_ble_eq_true rfl) ⟨Nat.zero_le _, Nat.zero_le _⟩ dX7_isFrame_26 ?_
      refine nv_ifb_ne (tgt := 47) hx hb dX7_isFrame_29 (by decide) (fun c29 => ?_) (fun c29 => ?_)
      · refine lv_iconst (v := nI 0) hx hb dX7_isFrame_47 (by decide) ?_
        exact ctR_ret (v := (nI 0)) hx hb hr (nar_bool false) dX7_isFrame_48 hlocks (by rw [frq, c29]; simp)
      · refine lv_aload_n hx hb dX7_isFrame_32 rfl (lv_at hl 0 rfl) ?_
        refine lv_iload_n hx hb dX7_isFrame_33 rfl (lv_at hl 2 rfl) ?_
        refine lv_iload_n hx hb dX7_isFrame_34 rfl (lv_at hl 3 rfl) ?_
        refine lv_iload hx hb dX7_isFrame_35 (lv_at hl 4 rfl) ?_
        refine ctR_V (As := [.int (nI j), .int (nI k), .int (nI r)]) (rest := []) (r := .int (nI (vdet q (pt q j) (pt q k) (pt q r) == 0).toNat)) ⟨hx, hb, hml, hown, hts⟩ (c_X7_isLine l D cI cZ md q w su po xs ys zs hM j k r (by omega) (by omega) (by omega)) (cwV 3 hts gX7_isFrame_X7_isLine rfl rfl rfl hdV_X7_isLine ⟨Nat.le_of_ble_eq_true rfl, Nat.le_of_ble_eq_true rfl⟩) hK hN hP [0, 1, 2, 3, 4, 5] rfl 0 7 rfl rfl rfl hl.1 rfl (Nat.le_of_ble_eq_true rfl) ⟨Nat.zero_le _, Nat.zero_le _⟩ dX7_isFrame_37 ?_
        refine nv_ifb_ne (tgt := 47) hx hb dX7_isFrame_40 (by decide) (fun c40 => ?_) (fun c40 => ?_)
        · refine lv_iconst (v := nI 0) hx hb dX7_isFrame_47 (by decide) ?_
          exact ctR_ret (v := (nI 0)) hx hb hr (nar_bool false) dX7_isFrame_48 hlocks (by rw [frq, c40]; simp)
        · refine lv_iconst (v := nI 1) hx hb dX7_isFrame_43 (by decide) ?_
          refine lv_goto (tgt := 48) hx hb dX7_isFrame_44 (by decide) ?_
          exact ctR_ret (v := (nI 1)) hx hb hr (nar_bool true) dX7_isFrame_48 hlocks (by rw [frq, c7, c18, c29, c40]; rfl)

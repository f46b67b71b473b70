set_option maxHeartbeats 4000000 in
set_option maxRecDepth 100000 in
theorem c_X7_findFrame (l : Launch) (D : va_G) (cI cZ : ClassId) (md : Nat → Nat) (q : Nat) (w : Nat) (su : Nat → Nat) (po : Nat → Nat) (xs : Nat → Nat) (ys : Nat → Nat) (zs : Nat → Nat) (hM : MOK q su po xs ys zs) (ot : Nat → Nat) (a : Nat) (b : Nat) (g : Nat) (d : Nat) (k_1 : a < nn q) (k_2 : b < nn q) (k_3 : g < nn q) (k_4 : d < nn q) (k_v : ¬ vdet q (pt q a) (pt q b) (pt q g) = 0) : CtW (S := (Nat → Nat)) l yX7_findFrame wsX7_findFrame { frames := 1, cells := 0, slots := 0, locals := 23 } D (tyG cI cZ) [.ref (md 0), .int (nI a), .int (nI b), .int (nI g), .int (nI d)] [(md 0, .inr (7, [.int (nI q), .int (nI (nn q)), .ref (md 1), .ref (md 2), .ref (md 3), .ref (md 4), .ref (md 5), .ref (md 6), .ref (md 7), .ref (md 8), .ref (md 9), .ref (md 10), .ref (md 11), .ref (md 12), .ref (md 13), .ref (md 14), .ref (md 15), .ref (md 16), .int (nI w), .ref (md 17)])), (md 1, .inl (cI, 81, .inl (nF su))), (md 2, .inl (cI, 81, .inl (nF po))), (md 3, .inl (cI, 91, .inl (nF xs))), (md 4, .inl (cI, 91, .inl (nF ys))), (md 5, .inl (cI, 91, .inl (nF zs))), (md 14, .inl (cI, 9, .inl (nF ot)))] (fun (ot3 : Nat → Nat) => ∃ s1 t1 u1, s1 < q ∧ t1 < q ∧ u1 < q ∧ sol3 q a b g d s1 t1 u1 ∧ ∀ t, t < 9 → ot3 t = colq q s1 t1 u1 a b g t) (fun (ot3 : Nat → Nat) => none) (fun (ot3 : Nat → Nat) => [(md 0, .inr (7, [.int (nI q), .int (nI (nn q)), .ref (md 1), .ref (md 2), .ref (md 3), .ref (md 4), .ref (md 5), .ref (md 6), .ref (md 7), .ref (md 8), .ref (md 9), .ref (md 10), .ref (md 11), .ref (md 12), .ref (md 13), .ref (md 14), .ref (md 15), .ref (md 16), .int (nI w), .ref (md 17)])), (md 1, .inl (cI, 81, .inl (nF su))), (md 2, .inl (cI, 81, .inl (nF po))), (md 3, .inl (cI, 91, .inl (nF xs))), (md 4, .inl (cI, 91, .inl (nF ys))), (md 5, .inl (cI, 91, .inl (nF zs))), (md 14, .inl (cI, 9, .inl (nF ot3)))]) := by
  intro sz; refine Met.ofW (cc := cX7_findFrame) (maxL := 11) (ret := none) (by decide) rfl ?_
  intro p e s m args below meth c s₁ B hml hv
  obtain ⟨rfl, hsz, hP, hK, hD0, hN⟩ := hv
  have hx := B.exec
  have hb := B.bytes
  have hr := B.returns
  have hts := atoms_spec (ws := wsX7_findFrame) B.pre
  have hown : s.vm.findClass RX7 = some m.cls := findClass_of_methodNamed B.named
  have hlocks := B.notSynchronized
  subst hsz
  have hD := hD0.self (sz := s.heap.size)
  generalize hAe : va_A [(md 0, .inr (7, [.int (nI q), .int (nI (nn q)), .ref (md 1), .ref (md 2), .ref (md 3), .ref (md 4), .ref (md 5), .ref (md 6), .ref (md 7), .ref (md 8), .ref (md 9), .ref (md 10), .ref (md 11), .ref (md 12), .ref (md 13), .ref (md 14), .ref (md 15), .ref (md 16), .int (nI w), .ref (md 17)])), (md 1, .inl (cI, 81, .inl (nF su))), (md 2, .inl (cI, 81, .inl (nF po))), (md 3, .inl (cI, 91, .inl (nF xs))), (md 4, .inl (cI, 91, .inl (nF ys))), (md 5, .inl (cI, 91, .inl (nF zs))), (md 14, .inl (cI, 9, .inl (nF ot)))] s.heap.size = A at hD ⊢
  have hA : ∀ q : Nat, s.heap.size ≤ q → A q := fun q h => by rw [← hAe]; exact Or.inr h
  have hS : va_S A s.heap s.heap [] := va_S.rf
  have hP : va_P D vwCl [(md 0, .inr (7, [.int (nI q), .int (nI (nn q)), .ref (md 1), .ref (md 2), .ref (md 3), .ref (md 4), .ref (md 5), .ref (md 6), .ref (md 7), .ref (md 8), .ref (md 9), .ref (md 10), .ref (md 11), .ref (md 12), .ref (md 13), .ref (md 14), .ref (md 15), .ref (md 16), .int (nI w), .ref (md 17)])), (md 1, .inl (cI, 81, .inl (nF su))), (md 2, .inl (cI, 81, .inl (nF po))), (md 3, .inl (cI, 91, .inl (nF xs))), (md 4, .inl (cI, 91, .inl (nF ys))), (md 5, .inl (cI, 91, .inl (nF zs))), (md 14, .inl (cI, 9, .inl (nF ot)))] s.heap := hP
  have hf16 := hts (.fieldLink RX7 16 "FinitePlanesModel" "xs" "[I") (by decide +kernel)
  have hf19 := hts (.fieldLink RX7 19 "FinitePlanesModel" "ys" "[I") (by decide +kernel)
  have hf22 := hts (.fieldLink RX7 22 "FinitePlanesModel" "zs" "[I") (by decide +kernel)
  have hf50 := hts (.fieldLink RX7 50 "FinitePlanesModel" "other" "[I") (by decide +kernel)
  have hf74 := hts (.fieldLink RX7 74 "FinitePlanesModel" "q" "I") (by decide +kernel)
  have hiX7 : ∀ w ∈ u_ws RX7 TX7 20, w ∈ wsX7_findFrame := by decide +kernel
  have hl := lv_entry ([.ref (md 0), .int (nI a), .int (nI b), .int (nI g), .int (nI d)]) (n := 11) (Nat.le_of_ble_eq_true rfl)
  rw [lg_entry_eq]
  generalize (lg_sl ([.ref (md 0), .int (nI a), .int (nI b), .int (nI g), .int (nI d)]) ++ List.replicate (11 - (lg_sl ([.ref (md 0), .int (nI a), .int (nI b), .int (nI g), .int (nI d)])).length) Slot.unset).toArray = ls at hl ⊢
  have hl : lv_has ls 11 [(0, .ref (md 0)), (1, .int (nI a)), (2, .int (nI b)), (3, .int (nI g)), (4, .int (nI d))] := hl
  have hq2 := qs_le hM.1
  have hn2 := nn_le hM.1
  have hvn := vld_n q hM.1
  have hqq : q * q ≤ 9 * 9 := Nat.mul_le_mul hq2.2 hq2.2
  refine lv_iconst (v := nI 0) hx hb dX7_findFrame_0 (by decide) ?_
  refine lv_istore (lv' := [(5, .int (nI 0)), (0, .ref (md 0)), (1, .int (nI a)), (2, .int (nI b)), (3, .int (nI g)), (4, .int (nI d))]) hx hb dX7_findFrame_1 hl (by decide) rfl (fun ls hl => ?_)
  refine lv_iconst (v := nI 0) hx hb dX7_findFrame_3 (by decide) ?_
  refine lv_istore (lv' := [(6, .int (nI 0)), (5, .int (nI 0)), (0, .ref (md 0)), (1, .int (nI a)), (2, .int (nI b)), (3, .int (nI g)), (4, .int (nI d))]) hx hb dX7_findFrame_4 hl (by decide) rfl (fun ls hl => ?_)
  have L6 : ∀ (N6 : Nat) (y : Bool) (k : Nat) (o1 : Nat → Nat) (ls : Array Slot) (H : Heap) (locs : List Loc), q * q * q - k < N6 → (k ≤ q * q * q) → (y = false → ∀ j, j < k → ¬ solK q a b g d j) → (y = true → ∃ s1 t1 u1, s1 < q ∧ t1 < q ∧ u1 < q ∧ sol3 q a b g d s1 t1 u1 ∧ ∀ t, t < 9 → o1 t = colq q s1 t1 u1 a b g t) → lv_has ls 11 [(0, .ref (md 0)), (1, .int (nI a)), (2, .int (nI b)), (3, .int (nI g)), (4, .int (nI d)), (5, .int (nI (y).toNat)), (6, .int (nI k))] → va_P D vwCl [(md 0, .inr (7, [.int (nI q), .int (nI (nn q)), .ref (md 1), .ref (md 2), .ref (md 3), .ref (md 4), .ref (md 5), .ref (md 6), .ref (md 7), .ref (md 8), .ref (md 9), .ref (md 10), .ref (md 11), .ref (md 12), .ref (md 13), .ref (md 14), .ref (md 15), .ref (md 16), .int (nI w), .ref (md 17)])), (md 1, .inl (cI, 81, .inl (nF su))), (md 2, .inl (cI, 81, .inl (nF po))), (md 3, .inl (cI, 91, .inl (nF xs))), (md 4, .inl (cI, 91, .inl (nF ys))), (md 5, .inl (cI, 91, .inl (nF zs))), (md 14, .inl (cI, 9, .inl (nF o1)))] H → va_D A [(md 0, .inr (7, [.int (nI q), .int (nI (nn q)), .ref (md 1), .ref (md 2), .ref (md 3), .ref (md 4), .ref (md 5), .ref (md 6), .ref (md 7), .ref (md 8), .ref (md 9), .ref (md 10), .ref (md 11), .ref (md 12), .ref (md 13), .ref (md 14), .ref (md 15), .ref (md 16), .int (nI w), .ref (md 17)])), (md 1, .inl (cI, 81, .inl (nF su))), (md 2, .inl (cI, 81, .inl (nF po))), (md 3, .inl (cI, 91, .inl (nF xs))), (md 4, .inl (cI, 91, .inl (nF ys))), (md 5, .inl (cI, 91, .inl (nF zs))), (md 14, .inl (cI, 9, .inl (nF o1)))] → va_S A s.heap H locs → WG p l e wsX7_findFrame { frames := 1, cells := 0, slots := 0, locals := 23 } s m [.ref (md 0), .int (nI a), .int (nI b), .int (nI g), .int (nI d)] below meth c H locs (CQ (S := (Nat → Nat)) D (fun (ot3 : Nat → Nat) => ∃ s1 t1 u1, s1 < q ∧ t1 < q ∧ u1 < q ∧ sol3 q a b g d s1 t1 u1 ∧ ∀ t, t < 9 → ot3 t = colq q s1 t1 u1 a b g t) (fun (ot3 : Nat → Nat) => none) (fun (ot3 : Nat → Nat) => [(md 0, .inr (7, [.int (nI q), .int (nI (nn q)), .ref (md 1), .ref (md 2), .ref (md 3), .ref (md 4), .ref (md 5), .ref (md 6), .ref (md 7), .ref (md 8), .ref (md 9), .ref (md 10), .ref (md 11), .ref (md 12), .ref (md 13), .ref (md 14), .ref (md 15), .ref (md 16), .int (nI w), .ref (md 17)])), (md 1, .inl (cI, 81, .inl (nF su))), (md 2, .inl (cI, 81, .inl (nF po))), (md 3, .inl (cI, 91, .inl (nF xs))), (md 4, .inl (cI, 91, .inl (nF ys))), (md 5, .inl (cI, 91, .inl (nF zs))), (md 14, .inl (cI, 9, .inl (nF ot3)))]) A) A 6 ls [] := by
    intro N6
    induction N6 with
    | zero => intro y k o1 ls H locs hN; exact absurd hN (Nat.not_lt_zero _)
    | succ N6 ih6 =>
      intro y k o1 ls H locs hN6 k_k k_n k_y hl hP hD hS
      have d2 : k / q % q < q := Nat.mod_lt _ (by omega)
      have d3 : k % q < q := Nat.mod_lt _ (by omega)
      refine lv_iload hx hb dX7_findFrame_6 (lv_at hl 6 rfl) ?_
      refine lv_aload_n hx hb dX7_findFrame_8 rfl (lv_at hl 0 rfl) ?_
      refine va_get (D := D) (ci := 7) (v := .int (nI q)) (C := RX7) (T := TX7) (N := 20) hx hb hts hiX7 hown hK hP 0 rfl rfl 0 (by decide) hf74 (fun _ h9 => h9) rfl dX7_findFrame_9 ?_
      refine lv_aload_n hx hb dX7_findFrame_12 rfl (lv_at hl 0 rfl) ?_
      refine va_get (D := D) (ci := 7) (v := .int (nI q)) (C := RX7) (T := TX7) (N := 20) hx hb hts hiX7 hown hK hP 0 rfl rfl 0 (by decide) hf74 (fun _ h9 => h9) rfl dX7_findFrame_13 ?_
      refine nv_mulE (r := q * q) hx hb rfl dX7_findFrame_16 ?_
      refine lv_aload_n hx hb dX7_findFrame_17 rfl (lv_at hl 0 rfl) ?_
      refine va_get (D := D) (ci := 7) (v := .int (nI q)) (C := RX7) (T := TX7) (N := 20) hx hb hts hiX7 hown hK hP 0 rfl rfl 0 (by decide) hf74 (fun _ h9 => h9) rfl dX7_findFrame_18 ?_
      refine nv_mulE (r := (q * q) * q) hx hb rfl dX7_findFrame_21 ?_
      refine nv_icmp_ge (tgt := 380) hx hb (by omega) (by omega) dX7_findFrame_22 (by decide) (fun c22 => ?_) (fun c22 => ?_)
      · have hy9 : y = true := by
          cases e : y
          · obtain ⟨j, hj, hs⟩ := sol_K hM.1 k_1 k_2 k_3 k_4 k_v
            exact absurd hs (k_n e j (by omega))
          · rfl
        have hfin := k_y hy9
        exact ctW_retV o1 hx hb hr dX7_findFrame_380 hlocks hS hP hD hfin rfl
      · refine lv_iload hx hb dX7_findFrame_25 (lv_at hl 5 rfl) ?_
        refine nv_ifb_ne (tgt := 380) hx hb dX7_findFrame_27 (by decide) (fun c27 => ?_) (fun c27 => ?_)
        · have hfin := k_y c27
          exact ctW_retV o1 hx hb hr dX7_findFrame_380 hlocks hS hP hD hfin rfl
        · have d1 : k / (q * q) < q := Nat.div_lt_of_lt_mul c22
          have pa0 := pt_lt (k := 0) hM.1 k_1 (by decide)
          have pa1 := pt_lt (k := 1) hM.1 k_1 (by decide)
          have pa2 := pt_lt (k := 2) hM.1 k_1 (by decide)
          have pb0 := pt_lt (k := 0) hM.1 k_2 (by decide)
          have pb1 := pt_lt (k := 1) hM.1 k_2 (by decide)
          have pb2 := pt_lt (k := 2) hM.1 k_2 (by decide)
          have pg0 := pt_lt (k := 0) hM.1 k_3 (by decide)
          have pg1 := pt_lt (k := 1) hM.1 k_3 (by decide)
          have pg2 := pt_lt (k := 2) hM.1 k_3 (by decide)
          have pd0 := pt_lt (k := 0) hM.1 k_4 (by decide)
          have pd1 := pt_lt (k := 1) hM.1 k_4 (by decide)
          have pd2 := pt_lt (k := 2) hM.1 k_4 (by decide)
          refine lv_iload hx hb dX7_findFrame_30 (lv_at hl 6 rfl) ?_
          refine lv_aload_n hx hb dX7_findFrame_32 rfl (lv_at hl 0 rfl) ?_
          refine va_get (D := D) (ci := 7) (v := .int (nI q)) (C := RX7) (T := TX7) (N := 20) hx hb hts hiX7 hown hK hP 0 rfl rfl 0 (by decide) hf74 (fun _ h9 => h9) rfl dX7_findFrame_33 ?_
          refine lv_aload_n hx hb dX7_findFrame_36 rfl (lv_at hl 0 rfl) ?_
          refine va_get (D := D) (ci := 7) (v := .int (nI q)) (C := RX7) (T := TX7) (N := 20) hx hb hts hiX7 hown hK hP 0 rfl rfl 0 (by decide) hf74 (fun _ h9 => h9) rfl dX7_findFrame_37 ?_
          refine nv_mulE (r := q * q) hx hb rfl dX7_findFrame_40 ?_
          refine nv_divE (r := k / (q * q)) hx hb (by omega) (Nat.mul_pos (by omega) (by omega)) (Nat.lt_of_le_of_lt hqq (by decide)) rfl dX7_findFrame_41 ?_
          refine lv_istore (lv' := [(7, .int (nI (k / (q * q)))), (0, .ref (md 0)), (1, .int (nI a)), (2, .int (nI b)), (3, .int (nI g)), (4, .int (nI d)), (5, .int (nI (y).toNat)), (6, .int (nI k))]) hx hb dX7_findFrame_42 hl (by decide) rfl (fun ls hl => ?_)
          refine lv_iload hx hb dX7_findFrame_44 (lv_at hl 7 rfl) ?_
          refine lv_aload_n hx hb dX7_findFrame_46 rfl (lv_at hl 1 rfl) ?_
          refine va_get (D := D) (ci := 7) (v := .int (nI q)) (C := RX7) (T := TX7) (N := 20) hx hb hts hiX7 hown hK hP 0 rfl rfl 0 (by decide) hf74 (fun _ h9 => h9) rfl dX7_findFrame_47 ?_
          refine nv_divE (r := k / q) hx hb (by omega) (by omega) (by omega) rfl dX7_findFrame_50 ?_
          refine lv_aload_n hx hb dX7_findFrame_51 rfl (lv_at hl 1 rfl) ?_
          refine va_get (D := D) (ci := 7) (v := .int (nI q)) (C := RX7) (T := TX7) (N := 20) hx hb hts hiX7 hown hK hP 0 rfl rfl 0 (by decide) hf74 (fun _ h9 => h9) rfl dX7_findFrame_52 ?_
          refine nv_remE (r := (k / q) % q) hx hb (Nat.lt_of_le_of_lt (Nat.div_le_self _ _) (by omega)) (by omega) (by omega) rfl dX7_findFrame_55 ?_
          refine lv_istore (lv' := [(8, .int (nI ((k / q) % q))), (7, .int (nI (k / (q * q)))), (0, .ref (md 0)), (1, .int (nI a)), (2, .int (nI b)), (3, .int (nI g)), (4, .int (nI d)), (5, .int (nI (y).toNat)), (6, .int (nI k))]) hx hb dX7_findFrame_56 hl (by decide) rfl (fun ls hl => ?_)
          refine lv_iload hx hb dX7_findFrame_58 (lv_at hl 8 rfl) ?_
          refine lv_aload_n hx hb dX7_findFrame_60 rfl (lv_at hl 2 rfl) ?_
          refine va_get (D := D) (ci := 7) (v := .int (nI q)) (C := RX7) (T := TX7) (N := 20) hx hb hts hiX7 hown hK hP 0 rfl rfl 0 (by decide) hf74 (fun _ h9 => h9) rfl dX7_findFrame_61 ?_
          refine nv_remE (r := k % q) hx hb (by omega) (by omega) (by omega) rfl dX7_findFrame_64 ?_
          refine lv_istore (lv' := [(9, .int (nI (k % q))), (8, .int (nI ((k / q) % q))), (7, .int (nI (k / (q * q)))), (0, .ref (md 0)), (1, .int (nI a)), (2, .int (nI b)), (3, .int (nI g)), (4, .int (nI d)), (5, .int (nI (y).toNat)), (6, .int (nI k))]) hx hb dX7_findFrame_65 hl (by decide) rfl (fun ls hl => ?_)
          refine lv_aload_n hx hb dX7_findFrame_67 rfl (lv_at hl 3 rfl) ?_
          refine lv_aload_n hx hb dX7_findFrame_68 rfl (lv_at hl 3 rfl) ?_
          refine lv_aload_n hx hb dX7_findFrame_69 rfl (lv_at hl 3 rfl) ?_
          refine lv_iload hx hb dX7_findFrame_70 (lv_at hl 2 rfl) ?_
          refine lv_aload_n hx hb dX7_findFrame_72 rfl (lv_at hl 3 rfl) ?_
          refine va_get (D := D) (ci := 7) (v := .ref (md 3)) (C := RX7) (T := TX7) (N := 20) hx hb hts hiX7 hown hK hP 0 rfl rfl 4 (by decide) hf16 (fun _ h9 => h9) rfl dX7_findFrame_73 ?_
          refine lv_iload_n hx hb dX7_findFrame_76 rfl (lv_at hl 4 rfl) ?_
          refine nv_iald hx hb hK hP 3 0 rfl rfl (by omega) (by decide) dX7_findFrame_77 ?_
          refine nv_top (v' := .int (nI (pt q a 0))) (by rw [(hM.2.2.2 a (by omega)).1]) ?_
          refine ctR_V (As := [.int (nI (k / (q * q))), .int (nI (pt q a 0))]) (rest := [.ref (md 0), .ref (md 0)]) (r := .int (nI (fmul q (k / (q * q)) (pt q a 0)))) ⟨hx, hb, hml, hown, hts⟩ (c_X7_times l D cI cZ md q w su po xs ys zs hM (k / (q * q)) (pt q a 0) (by omega) (by omega)) (cwV 2 hts gX7_findFrame_X7_times rfl rfl rfl hdV_X7_times ⟨Nat.le_of_ble_eq_true rfl, Nat.le_of_ble_eq_true rfl⟩) hK hN hP [0, 1, 2, 3, 4, 5] rfl 0 7 rfl rfl rfl hl.1 rfl (Nat.le_of_ble_eq_true rfl) ⟨Nat.zero_le _, Nat.zero_le _⟩ dX7_findFrame_78 ?_
          have hh_1 : fmul q (k / (q * q)) (pt q a 0) < q := fmul_lt hM.1 (by omega) (by omega)
          refine lv_aload_n hx hb dX7_findFrame_81 rfl (lv_at hl 3 rfl) ?_
          refine lv_iload hx hb dX7_findFrame_82 (lv_at hl 1 rfl) ?_
          refine lv_aload_n hx hb dX7_findFrame_84 rfl (lv_at hl 3 rfl) ?_
          refine va_get (D := D) (ci := 7) (v := .ref (md 3)) (C := RX7) (T := TX7) (N := 20) hx hb hts hiX7 hown hK hP 0 rfl rfl 4 (by decide) hf16 (fun _ h9 => h9) rfl dX7_findFrame_85 ?_
          refine lv_iload_n hx hb dX7_findFrame_88 rfl (lv_at hl 5 rfl) ?_
          refine nv_iald hx hb hK hP 3 0 rfl rfl (by omega) (by decide) dX7_findFrame_89 ?_
          refine nv_top (v' := .int (nI (pt q b 0))) (by rw [(hM.2.2.2 b (by omega)).1]) ?_
          refine ctR_V (As := [.int (nI ((k / q) % q)), .int (nI (pt q b 0))]) (rest := [.int (nI (fmul q (k / (q * q)) (pt q a 0))), .ref (md 0), .ref (md 0)]) (r := .int (nI (fmul q ((k / q) % q) (pt q b 0)))) ⟨hx, hb, hml, hown, hts⟩ (c_X7_times l D cI cZ md q w su po xs ys zs hM ((k / q) % q) (pt q b 0) (by omega) (by omega)) (cwV 2 hts gX7_findFrame_X7_times rfl rfl rfl hdV_X7_times ⟨Nat.le_of_ble_eq_true rfl, Nat.le_of_ble_eq_true rfl⟩) hK hN hP [0, 1, 2, 3, 4, 5] rfl 0 7 rfl rfl rfl hl.1 rfl (Nat.le_of_ble_eq_true rfl) ⟨Nat.zero_le _, Nat.zero_le _⟩ dX7_findFrame_90 ?_
          have hh_2 : fmul q ((k / q) % q) (pt q b 0) < q := fmul_lt hM.1 (by omega) (by omega)
          refine ctR_V (As := [.int (nI (fmul q (k / (q * q)) (pt q a 0))), .int (nI (fmul q ((k / q) % q) (pt q b 0)))]) (rest := [.ref (md 0)]) (r := .int (nI (fadd q (fmul q (k / (q * q)) (pt q a 0)) (fmul q ((k / q) % q) (pt q b 0))))) ⟨hx, hb, hml, hown, hts⟩ (c_X7_add l D cI cZ md q w su po xs ys zs hM (fmul q (k / (q * q)) (pt q a 0)) (fmul q ((k / q) % q) (pt q b 0)) (by omega) (by omega)) (cwV 2 hts gX7_findFrame_X7_add rfl rfl rfl hdV_X7_add ⟨Nat.le_of_ble_eq_true rfl, Nat.le_of_ble_eq_true rfl⟩) hK hN hP [0, 1, 2, 3, 4, 5] rfl 0 7 rfl rfl rfl hl.1 rfl (Nat.le_of_ble_eq_true rfl) ⟨Nat.zero_le _, Nat.zero_le _⟩ dX7_findFrame_93 ?_
          have hh_3 : fadd q (fmul q (k / (q * q)) (pt q a 0)) (fmul q ((k / q) % q) (pt q b 0)) < q := fadd_lt hM.1 (by omega) (by omega)
          refine lv_aload_n hx hb dX7_findFrame_96 rfl (lv_at hl 3 rfl) ?_
          refine lv_iload hx hb dX7_findFrame_97 (lv_at hl 0 rfl) ?_
          refine lv_aload_n hx hb dX7_findFrame_99 rfl (lv_at hl 3 rfl) ?_
          refine va_get (D := D) (ci := 7) (v := .ref (md 3)) (C := RX7) (T := TX7) (N := 20) hx hb hts hiX7 hown hK hP 0 rfl rfl 4 (by decide) hf16 (fun _ h9 => h9) rfl dX7_findFrame_100 ?_
          refine lv_iload_n hx hb dX7_findFrame_103 rfl (lv_at hl 6 rfl) ?_
          refine nv_iald hx hb hK hP 3 0 rfl rfl (by omega) (by decide) dX7_findFrame_104 ?_
          refine nv_top (v' := .int (nI (pt q g 0))) (by rw [(hM.2.2.2 g (by omega)).1]) ?_
          refine ctR_V (As := [.int (nI (k % q)), .int (nI (pt q g 0))]) (rest := [.int (nI (fadd q (fmul q (k / (q * q)) (pt q a 0)) (fmul q ((k / q) % q) (pt q b 0)))), .ref (md 0)]) (r := .int (nI (fmul q (k % q) (pt q g 0)))) ⟨hx, hb, hml, hown, hts⟩ (c_X7_times l D cI cZ md q w su po xs ys zs hM (k % q) (pt q g 0) (by omega) (by omega)) (cwV 2 hts gX7_findFrame_X7_times rfl rfl rfl hdV_X7_times ⟨Nat.le_of_ble_eq_true rfl, Nat.le_of_ble_eq_true rfl⟩) hK hN hP [0, 1, 2, 3, 4, 5] rfl 0 7 rfl rfl rfl hl.1 rfl (Nat.le_of_ble_eq_true rfl) ⟨Nat.zero_le _, Nat.zero_le _⟩ dX7_findFrame_105 ?_
          have hh_4 : fmul q (k % q) (pt q g 0) < q := fmul_lt hM.1 (by omega) (by omega)
          refine ctR_V (As := [.int (nI (fadd q (fmul q (k / (q * q)) (pt q a 0)) (fmul q ((k / q) % q) (pt q b 0)))), .int (nI (fmul q (k % q) (pt q g 0)))]) (rest := []) (r := .int (nI (fadd q (fadd q (fmul q (k / (q * q)) (pt q a 0)) (fmul q ((k / q) % q) (pt q b 0))) (fmul q (k % q) (pt q g 0))))) ⟨hx, hb, hml, hown, hts⟩ (c_X7_add l D cI cZ md q w su po xs ys zs hM (fadd q (fmul q (k / (q * q)) (pt q a 0)) (fmul q ((k / q) % q) (pt q b 0))) (fmul q (k % q) (pt q g 0)) (by omega) (by omega)) (cwV 2 hts gX7_findFrame_X7_add rfl rfl rfl hdV_X7_add ⟨Nat.le_of_ble_eq_true rfl, Nat.le_of_ble_eq_true rfl⟩) hK hN hP [0, 1, 2, 3, 4, 5] rfl 0 7 rfl rfl rfl hl.1 rfl (Nat.le_of_ble_eq_true rfl) ⟨Nat.zero_le _, Nat.zero_le _⟩ dX7_findFrame_108 ?_
          have hh_5 : fadd q (fadd q (fmul q (k / (q * q)) (pt q a 0)) (fmul q ((k / q) % q) (pt q b 0))) (fmul q (k % q) (pt q g 0)) < q := fadd_lt hM.1 (by omega) (by omega)
          refine lv_aload_n hx hb dX7_findFrame_111 rfl (lv_at hl 3 rfl) ?_
          refine va_get (D := D) (ci := 7) (v := .ref (md 3)) (C := RX7) (T := TX7) (N := 20) hx hb hts hiX7 hown hK hP 0 rfl rfl 4 (by decide) hf16 (fun _ h9 => h9) rfl dX7_findFrame_112 ?_
          refine lv_iload hx hb dX7_findFrame_115 (lv_at hl 7 rfl) ?_
          refine nv_iald hx hb hK hP 3 0 rfl rfl (by omega) (by decide) dX7_findFrame_117 ?_
          refine nv_top (v' := .int (nI (pt q d 0))) (by rw [(hM.2.2.2 d (by omega)).1]) ?_
          refine nv_icmp_ne (tgt := 233) hx hb (by omega) (by omega) dX7_findFrame_118 (by decide) (fun c118 => ?_) (fun c118 => ?_)
          · refine lv_iconst (v := nI 0) hx hb dX7_findFrame_233 (by decide) ?_
            refine lv_istore (lv' := [(5, .int (nI 0)), (9, .int (nI (k % q))), (8, .int (nI ((k / q) % q))), (7, .int (nI (k / (q * q)))), (0, .ref (md 0)), (1, .int (nI a)), (2, .int (nI b)), (3, .int (nI g)), (4, .int (nI d)), (6, .int (nI k))]) hx hb dX7_findFrame_234 hl (by decide) rfl (fun ls hl => ?_)
            refine lv_iload hx hb dX7_findFrame_236 (lv_at hl 0 rfl) ?_
            refine nv_if_eq (tgt := 374) hx hb (by decide) dX7_findFrame_238 (by decide) (fun c238 => ?_) (fun c238 => absurd c238 (by omega))
            refine lv_iinc (v := nI (k + 1)) (lv' := [(6, .int (nI (k + 1))), (5, .int (nI 0)), (9, .int (nI (k % q))), (8, .int (nI ((k / q) % q))), (7, .int (nI (k / (q * q)))), (0, .ref (md 0)), (1, .int (nI a)), (2, .int (nI b)), (3, .int (nI g)), (4, .int (nI d))]) hx hb dX7_findFrame_374 hl (k := 9) rfl (nI_inc k) (by decide) rfl (fun ls hl => ?_)
            refine lv_goto (tgt := 6) hx hb dX7_findFrame_377 (by decide) ?_
            exact ih6 false (k + 1) o1 ls _ _ (by omega) (by omega) (fun _ j hj => (Nat.lt_succ_iff_lt_or_eq.mp hj).elim (k_n c27 j) (fun z => by rw [z]; exact sol_no 0 (by decide) c118)) (fun h => by cases h) (lv_sub hl [5, 6, 7, 8, 9, 1, 0] rfl) hP hD hS
          · refine lv_aload_n hx hb dX7_findFrame_121 rfl (lv_at hl 3 rfl) ?_
            refine lv_aload_n hx hb dX7_findFrame_122 rfl (lv_at hl 3 rfl) ?_
            refine lv_aload_n hx hb dX7_findFrame_123 rfl (lv_at hl 3 rfl) ?_
            refine lv_iload hx hb dX7_findFrame_124 (lv_at hl 2 rfl) ?_
            refine lv_aload_n hx hb dX7_findFrame_126 rfl (lv_at hl 3 rfl) ?_
            refine va_get (D := D) (ci := 7) (v := .ref (md 4)) (C := RX7) (T := TX7) (N := 20) hx hb hts hiX7 hown hK hP 0 rfl rfl 5 (by decide) hf19 (fun _ h9 => h9) rfl dX7_findFrame_127 ?_
            refine lv_iload_n hx hb dX7_findFrame_130 rfl (lv_at hl 4 rfl) ?_
            refine nv_iald hx hb hK hP 4 0 rfl rfl (by omega) (by decide) dX7_findFrame_131 ?_
            refine nv_top (v' := .int (nI (pt q a 1))) (by rw [(hM.2.2.2 a (by omega)).2.1]) ?_
            refine ctR_V (As := [.int (nI (k / (q * q))), .int (nI (pt q a 1))]) (rest := [.ref (md 0), .ref (md 0)]) (r := .int (nI (fmul q (k / (q * q)) (pt q a 1)))) ⟨hx, hb, hml, hown, hts⟩ (c_X7_times l D cI cZ md q w su po xs ys zs hM (k / (q * q)) (pt q a 1) (by omega) (by omega)) (cwV 2 hts gX7_findFrame_X7_times rfl rfl rfl hdV_X7_times ⟨Nat.le_of_ble_eq_true rfl, Nat.le_of_ble_eq_true rfl⟩) hK hN hP [0, 1, 2, 3, 4, 5] rfl 0 7 rfl rfl rfl hl.1 rfl (Nat.le_of_ble_eq_true rfl) ⟨Nat.zero_le _, Nat.zero_le _⟩ dX7_findFrame_132 ?_
            have hh_6 : fmul q (k / (q * q)) (pt q a 1) < q := fmul_lt hM.1 (by omega) (by omega)
            refine lv_aload_n hx hb dX7_findFrame_135 rfl (lv_at hl 3 rfl) ?_
            refine lv_iload hx hb dX7_findFrame_136 (lv_at hl 1 rfl) ?_
            refine lv_aload_n hx hb dX7_findFrame_138 rfl (lv_at hl 3 rfl) ?_
            refine va_get (D := D) (ci := 7) (v := .ref (md 4)) (C := RX7) (T := TX7) (N := 20) hx hb hts hiX7 hown hK hP 0 rfl rfl 5 (by decide) hf19 (fun _ h9 => h9) rfl dX7_findFrame_139 ?_
            refine lv_iload_n hx hb dX7_findFrame_142 rfl (lv_at hl 5 rfl) ?_
            refine nv_iald hx hb hK hP 4 0 rfl rfl (by omega) (by decide) dX7_findFrame_143 ?_
            refine nv_top (v' := .int (nI (pt q b 1))) (by rw [(hM.2.2.2 b (by omega)).2.1]) ?_
            refine ctR_V (As := [.int (nI ((k / q) % q)), .int (nI (pt q b 1))]) (rest := [.int (nI (fmul q (k / (q * q)) (pt q a 1))), .ref (md 0), .ref (md 0)]) (r := .int (nI (fmul q ((k / q) % q) (pt q b 1)))) ⟨hx, hb, hml, hown, hts⟩ (c_X7_times l D cI cZ md q w su po xs ys zs hM ((k / q) % q) (pt q b 1) (by omega) (by omega)) (cwV 2 hts gX7_findFrame_X7_times rfl rfl rfl hdV_X7_times ⟨Nat.le_of_ble_eq_true rfl, Nat.le_of_ble_eq_true rfl⟩) hK hN hP [0, 1, 2, 3, 4, 5] rfl 0 7 rfl rfl rfl hl.1 rfl (Nat.le_of_ble_eq_true rfl) ⟨Nat.zero_le _, Nat.zero_le _⟩ dX7_findFrame_144 ?_
            have hh_7 : fmul q ((k / q) % q) (pt q b 1) < q := fmul_lt hM.1 (by omega) (by omega)
            refine ctR_V (As := [.int (nI (fmul q (k / (q * q)) (pt q a 1))), .int (nI (fmul q ((k / q) % q) (pt q b 1)))]) (rest := [.ref (md 0)]) (r := .int (nI (fadd q (fmul q (k / (q * q)) (pt q a 1)) (fmul q ((k / q) % q) (pt q b 1))))) ⟨hx, hb, hml, hown, hts⟩ (c_X7_add l D cI cZ md q w su po xs ys zs hM (fmul q (k / (q * q)) (pt q a 1)) (fmul q ((k / q) % q) (pt q b 1)) (by omega) (by omega)) (cwV 2 hts gX7_findFrame_X7_add rfl rfl rfl hdV_X7_add ⟨Nat.le_of_ble_eq_true rfl, Nat.le_of_ble_eq_true rfl⟩) hK hN hP [0, 1, 2, 3, 4, 5] rfl 0 7 rfl rfl rfl hl.1 rfl (Nat.le_of_ble_eq_true rfl) ⟨Nat.zero_le _, Nat.zero_le _⟩ dX7_findFrame_147 ?_
            have hh_8 : fadd q (fmul q (k / (q * q)) (pt q a 1)) (fmul q ((k / q) % q) (pt q b 1)) < q := fadd_lt hM.1 (by omega) (by omega)
            refine lv_aload_n hx hb dX7_findFrame_150 rfl (lv_at hl 3 rfl) ?_
            refine lv_iload hx hb dX7_findFrame_151 (lv_at hl 0 rfl) ?_
            refine lv_aload_n hx hb dX7_findFrame_153 rfl (lv_at hl 3 rfl) ?_
            refine va_get (D := D) (ci := 7) (v := .ref (md 4)) (C := RX7) (T := TX7) (N := 20) hx hb hts hiX7 hown hK hP 0 rfl rfl 5 (by decide) hf19 (fun _ h9 => h9) rfl dX7_findFrame_154 ?_
            refine lv_iload_n hx hb dX7_findFrame_157 rfl (lv_at hl 6 rfl) ?_
            refine nv_iald hx hb hK hP 4 0 rfl rfl (by omega) (by decide) dX7_findFrame_158 ?_
            refine nv_top (v' := .int (nI (pt q g 1))) (by rw [(hM.2.2.2 g (by omega)).2.1]) ?_
            refine ctR_V (As := [.int (nI (k % q)), .int (nI (pt q g 1))]) (rest := [.int (nI (fadd q (fmul q (k / (q * q)) (pt q a 1)) (fmul q ((k / q) % q) (pt q b 1)))), .ref (md 0)]) (r := .int (nI (fmul q (k % q) (pt q g 1)))) ⟨hx, hb, hml, hown, hts⟩ (c_X7_times l D cI cZ md q w su po xs ys zs hM (k % q) (pt q g 1) (by omega) (by omega)) (cwV 2 hts gX7_findFrame_X7_times rfl rfl rfl hdV_X7_times ⟨Nat.le_of_ble_eq_true rfl, Nat.le_of_ble_eq_true rfl⟩) hK hN hP [0, 1, 2, 3, 4, 5] rfl 0 7 rfl rfl rfl hl.1 rfl (Nat.le_of_ble_eq_true rfl) ⟨Nat.zero_le _, Nat.zero_le _⟩ dX7_findFrame_159 ?_
            have hh_9 : fmul q (k % q) (pt q g 1) < q := fmul_lt hM.1 (by omega) (by omega)
            refine ctR_V (As := [.int (nI (fadd q (fmul q (k / (q * q)) (pt q a 1)) (fmul q ((k / q) % q) (pt q b 1)))), .int (nI (fmul q (k % q) (pt q g 1)))]) (rest := []) (r := .int (nI (fadd q (fadd q (fmul q (k / (q * q)) (pt q a 1)) (fmul q ((k / q) % q) (pt q b 1))) (fmul q (k % q) (pt q g 1))))) ⟨hx, hb, hml, hown, hts⟩ (c_X7_add l D cI cZ md q w su po xs ys zs hM (fadd q (fmul q (k / (q * q)) (pt q a 1)) (fmul q ((k / q) % q) (pt q b 1))) (fmul q (k % q) (pt q g 1)) (by omega) (by omega)) (cwV 2 hts gX7_findFrame_X7_add rfl rfl rfl hdV_X7_add ⟨Nat.le_of_ble_eq_true rfl, Nat.le_of_ble_eq_true rfl⟩) hK hN hP [0, 1, 2, 3, 4, 5] rfl 0 7 rfl rfl rfl hl.1 rfl (Nat.le_of_ble_eq_true rfl) ⟨Nat.zero_le _, Nat.zero_le _⟩ dX7_findFrame_162 ?_
            have hh_10 : fadd q (fadd q (fmul q (k / (q * q)) (pt q a 1)) (fmul q ((k / q) % q) (pt q b 1))) (fmul q (k % q) (pt q g 1)) < q := fadd_lt hM.1 (by omega) (by omega)
            refine lv_aload_n hx hb dX7_findFrame_165 rfl (lv_at hl 3 rfl) ?_
            refine va_get (D := D) (ci := 7) (v := .ref (md 4)) (C := RX7) (T := TX7) (N := 20) hx hb hts hiX7 hown hK hP 0 rfl rfl 5 (by decide) hf19 (fun _ h9 => h9) rfl dX7_findFrame_166 ?_
            refine lv_iload hx hb dX7_findFrame_169 (lv_at hl 7 rfl) ?_
            refine nv_iald hx hb hK hP 4 0 rfl rfl (by omega) (by decide) dX7_findFrame_171 ?_
            refine nv_top (v' := .int (nI (pt q d 1))) (by rw [(hM.2.2.2 d (by omega)).2.1]) ?_
            refine nv_icmp_ne (tgt := 233) hx hb (by omega) (by omega) dX7_findFrame_172 (by decide) (fun c172 => ?_) (fun c172 => ?_)
            · refine lv_iconst (v := nI 0) hx hb dX7_findFrame_233 (by decide) ?_
              refine lv_istore (lv' := [(5, .int (nI 0)), (9, .int (nI (k % q))), (8, .int (nI ((k / q) % q))), (7, .int (nI (k / (q * q)))), (0, .ref (md 0)), (1, .int (nI a)), (2, .int (nI b)), (3, .int (nI g)), (4, .int (nI d)), (6, .int (nI k))]) hx hb dX7_findFrame_234 hl (by decide) rfl (fun ls hl => ?_)
              refine lv_iload hx hb dX7_findFrame_236 (lv_at hl 0 rfl) ?_
              refine nv_if_eq (tgt := 374) hx hb (by decide) dX7_findFrame_238 (by decide) (fun c238 => ?_) (fun c238 => absurd c238 (by omega))
              refine lv_iinc (v := nI (k + 1)) (lv' := [(6, .int (nI (k + 1))), (5, .int (nI 0)), (9, .int (nI (k % q))), (8, .int (nI ((k / q) % q))), (7, .int (nI (k / (q * q)))), (0, .ref (md 0)), (1, .int (nI a)), (2, .int (nI b)), (3, .int (nI g)), (4, .int (nI d))]) hx hb dX7_findFrame_374 hl (k := 9) rfl (nI_inc k) (by decide) rfl (fun ls hl => ?_)
              refine lv_goto (tgt := 6) hx hb dX7_findFrame_377 (by decide) ?_
              exact ih6 false (k + 1) o1 ls _ _ (by omega) (by omega) (fun _ j hj => (Nat.lt_succ_iff_lt_or_eq.mp hj).elim (k_n c27 j) (fun z => by rw [z]; exact sol_no 1 (by decide) c172)) (fun h => by cases h) (lv_sub hl [5, 6, 7, 8, 9, 1, 0] rfl) hP hD hS
            · refine lv_aload_n hx hb dX7_findFrame_175 rfl (lv_at hl 3 rfl) ?_
              refine lv_aload_n hx hb dX7_findFrame_176 rfl (lv_at hl 3 rfl) ?_
              refine lv_aload_n hx hb dX7_findFrame_177 rfl (lv_at hl 3 rfl) ?_
              refine lv_iload hx hb dX7_findFrame_178 (lv_at hl 2 rfl) ?_
              refine lv_aload_n hx hb dX7_findFrame_180 rfl (lv_at hl 3 rfl) ?_
              refine va_get (D := D) (ci := 7) (v := .ref (md 5)) (C := RX7) (T := TX7) (N := 20) hx hb hts hiX7 hown hK hP 0 rfl rfl 6 (by decide) hf22 (fun _ h9 => h9) rfl dX7_findFrame_181 ?_
              refine lv_iload_n hx hb dX7_findFrame_184 rfl (lv_at hl 4 rfl) ?_
              refine nv_iald hx hb hK hP 5 0 rfl rfl (by omega) (by decide) dX7_findFrame_185 ?_
              refine nv_top (v' := .int (nI (pt q a 2))) (by rw [(hM.2.2.2 a (by omega)).2.2]) ?_
              refine ctR_V (As := [.int (nI (k / (q * q))), .int (nI (pt q a 2))]) (rest := [.ref (md 0), .ref (md 0)]) (r := .int (nI (fmul q (k / (q * q)) (pt q a 2)))) ⟨hx, hb, hml, hown, hts⟩ (c_X7_times l D cI cZ md q w su po xs ys zs hM (k / (q * q)) (pt q a 2) (by omega) (by omega)) (cwV 2 hts gX7_findFrame_X7_times rfl rfl rfl hdV_X7_times ⟨Nat.le_of_ble_eq_true rfl, Nat.le_of_ble_eq_true rfl⟩) hK hN hP [0, 1, 2, 3, 4, 5] rfl 0 7 rfl rfl rfl hl.1 rfl (Nat.le_of_ble_eq_true rfl) ⟨Nat.zero_le _, Nat.zero_le _⟩ dX7_findFrame_186 ?_
              have hh_11 : fmul q (k / (q * q)) (pt q a 2) < q := fmul_lt hM.1 (by omega) (by omega)
              refine lv_aload_n hx hb dX7_findFrame_189 rfl (lv_at hl 3 rfl) ?_
              refine lv_iload hx hb dX7_findFrame_190 (lv_at hl 1 rfl) ?_
              refine lv_aload_n hx hb dX7_findFrame_192 rfl (lv_at hl 3 rfl) ?_
              refine va_get (D := D) (ci := 7) (v := .ref (md 5)) (C := RX7) (T := TX7) (N := 20) hx hb hts hiX7 hown hK hP 0 rfl rfl 6 (by decide) hf22 (fun _ h9 => h9) rfl dX7_findFrame_193 ?_
              refine lv_iload_n hx hb dX7_findFrame_196 rfl (lv_at hl 5 rfl) ?_
              refine nv_iald hx hb hK hP 5 0 rfl rfl (by omega) (by decide) dX7_findFrame_197 ?_
              refine nv_top (v' := .int (nI (pt q b 2))) (by rw [(hM.2.2.2 b (by omega)).2.2]) ?_
              refine ctR_V (As := [.int (nI ((k / q) % q)), .int (nI (pt q b 2))]) (rest := [.int (nI (fmul q (k / (q * q)) (pt q a 2))), .ref (md 0), .ref (md 0)]) (r := .int (nI (fmul q ((k / q) % q) (pt q b 2)))) ⟨hx, hb, hml, hown, hts⟩ (c_X7_times l D cI cZ md q w su po xs ys zs hM ((k / q) % q) (pt q b 2) (by omega) (by omega)) (cwV 2 hts gX7_findFrame_X7_times rfl rfl rfl hdV_X7_times ⟨Nat.le_of_ble_eq_true rfl, Nat.le_of_ble_eq_true rfl⟩) hK hN hP [0, 1, 2, 3, 4, 5] rfl 0 7 rfl rfl rfl hl.1 rfl (Nat.le_of_ble_eq_true rfl) ⟨Nat.zero_le _, Nat.zero_le _⟩ dX7_findFrame_198 ?_
              have hh_12 : fmul q ((k / q) % q) (pt q b 2) < q := fmul_lt hM.1 (by omega) (by omega)
              refine ctR_V (As := [.int (nI (fmul q (k / (q * q)) (pt q a 2))), .int (nI (fmul q ((k / q) % q) (pt q b 2)))]) (rest := [.ref (md 0)]) (r := .int (nI (fadd q (fmul q (k / (q * q)) (pt q a 2)) (fmul q ((k / q) % q) (pt q b 2))))) ⟨hx, hb, hml, hown, hts⟩ (c_X7_add l D cI cZ md q w su po xs ys zs hM (fmul q (k / (q * q)) (pt q a 2)) (fmul q ((k / q) % q) (pt q b 2)) (by omega) (by omega)) (cwV 2 hts gX7_findFrame_X7_add rfl rfl rfl hdV_X7_add ⟨Nat.le_of_ble_eq_true rfl, Nat.le_of_ble_eq_true rfl⟩) hK hN hP [0, 1, 2, 3, 4, 5] rfl 0 7 rfl rfl rfl hl.1 rfl (Nat.le_of_ble_eq_true rfl) ⟨Nat.zero_le _, Nat.zero_le _⟩ dX7_findFrame_201 ?_
              have hh_13 : fadd q (fmul q (k / (q * q)) (pt q a 2)) (fmul q ((k / q) % q) (pt q b 2)) < q := fadd_lt hM.1 (by omega) (by omega)
              refine lv_aload_n hx hb dX7_findFrame_204 rfl (lv_at hl 3 rfl) ?_
              refine lv_iload hx hb dX7_findFrame_205 (lv_at hl 0 rfl) ?_
              refine lv_aload_n hx hb dX7_findFrame_207 rfl (lv_at hl 3 rfl) ?_
              refine va_get (D := D) (ci := 7) (v := .ref (md 5)) (C := RX7) (T := TX7) (N := 20) hx hb hts hiX7 hown hK hP 0 rfl rfl 6 (by decide) hf22 (fun _ h9 => h9) rfl dX7_findFrame_208 ?_
              refine lv_iload_n hx hb dX7_findFrame_211 rfl (lv_at hl 6 rfl) ?_
              refine nv_iald hx hb hK hP 5 0 rfl rfl (by omega) (by decide) dX7_findFrame_212 ?_
              refine nv_top (v' := .int (nI (pt q g 2))) (by rw [(hM.2.2.2 g (by omega)).2.2]) ?_
              refine ctR_V (As := [.int (nI (k % q)), .int (nI (pt q g 2))]) (rest := [.int (nI (fadd q (fmul q (k / (q * q)) (pt q a 2)) (fmul q ((k / q) % q) (pt q b 2)))), .ref (md 0)]) (r := .int (nI (fmul q (k % q) (pt q g 2)))) ⟨hx, hb, hml, hown, hts⟩ (c_X7_times l D cI cZ md q w su po xs ys zs hM (k % q) (pt q g 2) (by omega) (by omega)) (cwV 2 hts gX7_findFrame_X7_times rfl rfl rfl hdV_X7_times ⟨Nat.le_of_ble_eq_true rfl, Nat.le_of_ble_eq_true rfl⟩) hK hN hP [0, 1, 2, 3, 4, 5] rfl 0 7 rfl rfl rfl hl.1 rfl (Nat.le_of_ble_eq_true rfl) ⟨Nat.zero_le _, Nat.zero_le _⟩ dX7_findFrame_213 ?_
              have hh_14 : fmul q (k % q) (pt q g 2) < q := fmul_lt hM.1 (by omega) (by omega)
              refine ctR_V (As := [.int (nI (fadd q (fmul q (k / (q * q)) (pt q a 2)) (fmul q ((k / q) % q) (pt q b 2)))), .int (nI (fmul q (k % q) (pt q g 2)))]) (rest := []) (r := .int (nI (fadd q (fadd q (fmul q (k / (q * q)) (pt q a 2)) (fmul q ((k / q) % q) (pt q b 2))) (fmul q (k % q) (pt q g 2))))) ⟨hx, hb, hml, hown, hts⟩ (c_X7_add l D cI cZ md q w su po xs ys zs hM (fadd q (fmul q (k / (q * q)) (pt q a 2)) (fmul q ((k / q) % q) (pt q b 2))) (fmul q (k % q) (pt q g 2)) (by omega) (by omega)) (cwV 2 hts gX7_findFrame_X7_add rfl rfl rfl hdV_X7_add ⟨Nat.le_of_ble_eq_true rfl, Nat.le_of_ble_eq_true rfl⟩) hK hN hP [0, 1, 2, 3, 4, 5] rfl 0 7 rfl rfl rfl hl.1 rfl (Nat.le_of_ble_eq_true rfl) ⟨Nat.zero_le _, Nat.zero_le _⟩ dX7_findFrame_216 ?_
              have hh_15 : fadd q (fadd q (fmul q (k / (q * q)) (pt q a 2)) (fmul q ((k / q) % q) (pt q b 2))) (fmul q (k % q) (pt q g 2)) < q := fadd_lt hM.1 (by omega) (by omega)
              refine lv_aload_n hx hb dX7_findFrame_219 rfl (lv_at hl 3 rfl) ?_
              refine va_get (D := D) (ci := 7) (v := .ref (md 5)) (C := RX7) (T := TX7) (N := 20) hx hb hts hiX7 hown hK hP 0 rfl rfl 6 (by decide) hf22 (fun _ h9 => h9) rfl dX7_findFrame_220 ?_
              refine lv_iload hx hb dX7_findFrame_223 (lv_at hl 7 rfl) ?_
              refine nv_iald hx hb hK hP 5 0 rfl rfl (by omega) (by decide) dX7_findFrame_225 ?_
              refine nv_top (v' := .int (nI (pt q d 2))) (by rw [(hM.2.2.2 d (by omega)).2.2]) ?_
              refine nv_icmp_ne (tgt := 233) hx hb (by omega) (by omega) dX7_findFrame_226 (by decide) (fun c226 => ?_) (fun c226 => ?_)
              · refine lv_iconst (v := nI 0) hx hb dX7_findFrame_233 (by decide) ?_
                refine lv_istore (lv' := [(5, .int (nI 0)), (9, .int (nI (k % q))), (8, .int (nI ((k / q) % q))), (7, .int (nI (k / (q * q)))), (0, .ref (md 0)), (1, .int (nI a)), (2, .int (nI b)), (3, .int (nI g)), (4, .int (nI d)), (6, .int (nI k))]) hx hb dX7_findFrame_234 hl (by decide) rfl (fun ls hl => ?_)
                refine lv_iload hx hb dX7_findFrame_236 (lv_at hl 0 rfl) ?_
                refine nv_if_eq (tgt := 374) hx hb (by decide) dX7_findFrame_238 (by decide) (fun c238 => ?_) (fun c238 => absurd c238 (by omega))
                refine lv_iinc (v := nI (k + 1)) (lv' := [(6, .int (nI (k + 1))), (5, .int (nI 0)), (9, .int (nI (k % q))), (8, .int (nI ((k / q) % q))), (7, .int (nI (k / (q * q)))), (0, .ref (md 0)), (1, .int (nI a)), (2, .int (nI b)), (3, .int (nI g)), (4, .int (nI d))]) hx hb dX7_findFrame_374 hl (k := 9) rfl (nI_inc k) (by decide) rfl (fun ls hl => ?_)
                refine lv_goto (tgt := 6) hx hb dX7_findFrame_377 (by decide) ?_
                exact ih6 false (k + 1) o1 ls _ _ (by omega) (by omega) (fun _ j hj => (Nat.lt_succ_iff_lt_or_eq.mp hj).elim (k_n c27 j) (fun z => by rw [z]; exact sol_no 2 (by decide) c226)) (fun h => by cases h) (lv_sub hl [5, 6, 7, 8, 9, 1, 0] rfl) hP hD hS
              · refine lv_iconst (v := nI 1) hx hb dX7_findFrame_229 (by decide) ?_
                refine lv_goto (tgt := 234) hx hb dX7_findFrame_230 (by decide) ?_
                refine lv_istore (lv' := [(5, .int (nI 1)), (9, .int (nI (k % q))), (8, .int (nI ((k / q) % q))), (7, .int (nI (k / (q * q)))), (0, .ref (md 0)), (1, .int (nI a)), (2, .int (nI b)), (3, .int (nI g)), (4, .int (nI d)), (6, .int (nI k))]) hx hb dX7_findFrame_234 hl (by decide) rfl (fun ls hl => ?_)
                refine lv_iload hx hb dX7_findFrame_236 (lv_at hl 0 rfl) ?_
                refine nv_if_eq (tgt := 374) hx hb (by decide) dX7_findFrame_238 (by decide) (fun c238 => absurd c238 (by omega)) (fun c238 => ?_)
                refine lv_iconst (v := nI 0) hx hb dX7_findFrame_241 (by decide) ?_
                refine lv_istore (lv' := [(10, .int (nI 0)), (5, .int (nI 1)), (9, .int (nI (k % q))), (8, .int (nI ((k / q) % q))), (7, .int (nI (k / (q * q)))), (0, .ref (md 0)), (1, .int (nI a)), (2, .int (nI b)), (3, .int (nI g)), (4, .int (nI d)), (6, .int (nI k))]) hx hb dX7_findFrame_242 hl (by decide) rfl (fun ls hl => ?_)
                refine lv_iload hx hb dX7_findFrame_244 (lv_at hl 0 rfl) ?_
                refine lv_iconst (v := nI 3) hx hb dX7_findFrame_246 (by decide) ?_
                refine nv_icmp_ge (tgt := 374) hx hb (by decide) (by decide) dX7_findFrame_247 (by decide) (fun c247 => absurd c247 (by omega)) (fun c247 => ?_)
                refine lv_aload_n hx hb dX7_findFrame_250 rfl (lv_at hl 5 rfl) ?_
                refine va_get (D := D) (ci := 7) (v := .ref (md 14)) (C := RX7) (T := TX7) (N := 20) hx hb hts hiX7 hown hK hP 0 rfl rfl 15 (by decide) hf50 (fun _ h9 => h9) rfl dX7_findFrame_251 ?_
                refine lv_iconst (v := nI 3) hx hb dX7_findFrame_254 (by decide) ?_
                refine lv_iload hx hb dX7_findFrame_255 (lv_at hl 0 rfl) ?_
                refine nv_mulE (r := 0) hx hb rfl dX7_findFrame_257 ?_
                refine lv_aload_n hx hb dX7_findFrame_258 rfl (lv_at hl 5 rfl) ?_
                refine lv_iload hx hb dX7_findFrame_259 (lv_at hl 4 rfl) ?_
                refine lv_aload_n hx hb dX7_findFrame_261 rfl (lv_at hl 5 rfl) ?_
                refine va_get (D := D) (ci := 7) (v := .ref (md 3)) (C := RX7) (T := TX7) (N := 20) hx hb hts hiX7 hown hK hP 0 rfl rfl 4 (by decide) hf16 (fun _ h9 => h9) rfl dX7_findFrame_262 ?_
                refine lv_iload_n hx hb dX7_findFrame_265 rfl (lv_at hl 6 rfl) ?_
                refine nv_iald hx hb hK hP 3 0 rfl rfl (by omega) (by decide) dX7_findFrame_266 ?_
                refine nv_top (v' := .int (nI (pt q a 0))) (by rw [(hM.2.2.2 a (by omega)).1]) ?_
                refine lv_aload_n hx hb dX7_findFrame_267 rfl (lv_at hl 5 rfl) ?_
                refine va_get (D := D) (ci := 7) (v := .ref (md 4)) (C := RX7) (T := TX7) (N := 20) hx hb hts hiX7 hown hK hP 0 rfl rfl 5 (by decide) hf19 (fun _ h9 => h9) rfl dX7_findFrame_268 ?_
                refine lv_iload_n hx hb dX7_findFrame_271 rfl (lv_at hl 6 rfl) ?_
                refine nv_iald hx hb hK hP 4 0 rfl rfl (by omega) (by decide) dX7_findFrame_272 ?_
                refine nv_top (v' := .int (nI (pt q a 1))) (by rw [(hM.2.2.2 a (by omega)).2.1]) ?_
                refine lv_aload_n hx hb dX7_findFrame_273 rfl (lv_at hl 5 rfl) ?_
                refine va_get (D := D) (ci := 7) (v := .ref (md 5)) (C := RX7) (T := TX7) (N := 20) hx hb hts hiX7 hown hK hP 0 rfl rfl 6 (by decide) hf22 (fun _ h9 => h9) rfl dX7_findFrame_274 ?_
                refine lv_iload_n hx hb dX7_findFrame_277 rfl (lv_at hl 6 rfl) ?_
                refine nv_iald hx hb hK hP 5 0 rfl rfl (by omega) (by decide) dX7_findFrame_278 ?_
                refine nv_top (v' := .int (nI (pt q a 2))) (by rw [(hM.2.2.2 a (by omega)).2.2]) ?_
                refine lv_iload hx hb dX7_findFrame_279 (lv_at hl 0 rfl) ?_
                refine ctR_S (As := [.int (nI (pt q a 0)), .int (nI (pt q a 1)), .int (nI (pt q a 2)), .int (nI 0)]) (rest := [.int (nI (k / (q * q))), .ref (md 0), .int (nI 0), .ref (md 14)]) (r := .int (nI (th3 (pt q a 0) (pt q a 1) (pt q a 2) 0))) ⟨hx, hb, hml, hown, hts⟩ (c_X7_three l D cI cZ (pt q a 0) (pt q a 1) (pt q a 2) 0 (by decide)) (va_cwS 4 hts gX7_findFrame_X7_three rfl rfl rfl hdS_X7_three ⟨Nat.le_of_ble_eq_true rfl, Nat.le_of_ble_eq_true rfl⟩) hK hN hP [] rfl rfl hl.1 rfl (Nat.le_of_ble_eq_true rfl) ⟨Nat.zero_le _, Nat.zero_le _⟩ dX7_findFrame_281 ?_
                refine nv_top (v' := .int (nI (pt q a 0))) rfl ?_
                refine ctR_V (As := [.int (nI (k / (q * q))), .int (nI (pt q a 0))]) (rest := [.int (nI 0), .ref (md 14)]) (r := .int (nI (fmul q (k / (q * q)) (pt q a 0)))) ⟨hx, hb, hml, hown, hts⟩ (c_X7_times l D cI cZ md q w su po xs ys zs hM (k / (q * q)) (pt q a 0) (by omega) (by omega)) (cwV 2 hts gX7_findFrame_X7_times rfl rfl rfl hdV_X7_times ⟨Nat.le_of_ble_eq_true rfl, Nat.le_of_ble_eq_true rfl⟩) hK hN hP [0, 1, 2, 3, 4, 5] rfl 0 7 rfl rfl rfl hl.1 rfl (Nat.le_of_ble_eq_true rfl) ⟨Nat.zero_le _, Nat.zero_le _⟩ dX7_findFrame_284 ?_
                have hh_16 : fmul q (k / (q * q)) (pt q a 0) < q := fmul_lt hM.1 (by omega) (by omega)
                refine nv_iast hx hb hK hP hD hS 6 0 rfl rfl (by omega) (by decide) dX7_findFrame_287 (fun H locs hP hD hS => ?_)
                have hP : va_P D vwCl [(md 0, .inr (7, [.int (nI q), .int (nI (nn q)), .ref (md 1), .ref (md 2), .ref (md 3), .ref (md 4), .ref (md 5), .ref (md 6), .ref (md 7), .ref (md 8), .ref (md 9), .ref (md 10), .ref (md 11), .ref (md 12), .ref (md 13), .ref (md 14), .ref (md 15), .ref (md 16), .int (nI w), .ref (md 17)])), (md 1, .inl (cI, 81, .inl (nF su))), (md 2, .inl (cI, 81, .inl (nF po))), (md 3, .inl (cI, 91, .inl (nF xs))), (md 4, .inl (cI, 91, .inl (nF ys))), (md 5, .inl (cI, 91, .inl (nF zs))), (md 14, .inl (cI, 9, .inl (nF (upN o1 0 (fmul q (k / (q * q)) (pt q a 0))))))] H := hP
                have hD : va_D A [(md 0, .inr (7, [.int (nI q), .int (nI (nn q)), .ref (md 1), .ref (md 2), .ref (md 3), .ref (md 4), .ref (md 5), .ref (md 6), .ref (md 7), .ref (md 8), .ref (md 9), .ref (md 10), .ref (md 11), .ref (md 12), .ref (md 13), .ref (md 14), .ref (md 15), .ref (md 16), .int (nI w), .ref (md 17)])), (md 1, .inl (cI, 81, .inl (nF su))), (md 2, .inl (cI, 81, .inl (nF po))), (md 3, .inl (cI, 91, .inl (nF xs))), (md 4, .inl (cI, 91, .inl (nF ys))), (md 5, .inl (cI, 91, .inl (nF zs))), (md 14, .inl (cI, 9, .inl (nF (upN o1 0 (fmul q (k / (q * q)) (pt q a 0))))))] := hD
                refine lv_aload_n hx hb dX7_findFrame_288 rfl (lv_at hl 5 rfl) ?_
                refine va_get (D := D) (ci := 7) (v := .ref (md 14)) (C := RX7) (T := TX7) (N := 20) hx hb hts hiX7 hown hK hP 0 rfl rfl 15 (by decide) hf50 (fun _ h9 => h9) rfl dX7_findFrame_289 ?_
                refine lv_iconst (v := nI 3) hx hb dX7_findFrame_292 (by decide) ?_
                refine lv_iload hx hb dX7_findFrame_293 (lv_at hl 0 rfl) ?_
                refine nv_mulE (r := 0) hx hb rfl dX7_findFrame_295 ?_
                refine lv_iconst (v := nI 1) hx hb dX7_findFrame_296 (by decide) ?_
                refine nv_addE (r := 1) hx hb rfl dX7_findFrame_297 ?_
                refine lv_aload_n hx hb dX7_findFrame_298 rfl (lv_at hl 5 rfl) ?_
                refine lv_iload hx hb dX7_findFrame_299 (lv_at hl 3 rfl) ?_
                refine lv_aload_n hx hb dX7_findFrame_301 rfl (lv_at hl 5 rfl) ?_
                refine va_get (D := D) (ci := 7) (v := .ref (md 3)) (C := RX7) (T := TX7) (N := 20) hx hb hts hiX7 hown hK hP 0 rfl rfl 4 (by decide) hf16 (fun _ h9 => h9) rfl dX7_findFrame_302 ?_
                refine lv_iload_n hx hb dX7_findFrame_305 rfl (lv_at hl 7 rfl) ?_
                refine nv_iald hx hb hK hP 3 0 rfl rfl (by omega) (by decide) dX7_findFrame_306 ?_
                refine nv_top (v' := .int (nI (pt q b 0))) (by rw [(hM.2.2.2 b (by omega)).1]) ?_
                refine lv_aload_n hx hb dX7_findFrame_307 rfl (lv_at hl 5 rfl) ?_
                refine va_get (D := D) (ci := 7) (v := .ref (md 4)) (C := RX7) (T := TX7) (N := 20) hx hb hts hiX7 hown hK hP 0 rfl rfl 5 (by decide) hf19 (fun _ h9 => h9) rfl dX7_findFrame_308 ?_
                refine lv_iload_n hx hb dX7_findFrame_311 rfl (lv_at hl 7 rfl) ?_
                refine nv_iald hx hb hK hP 4 0 rfl rfl (by omega) (by decide) dX7_findFrame_312 ?_
                refine nv_top (v' := .int (nI (pt q b 1))) (by rw [(hM.2.2.2 b (by omega)).2.1]) ?_
                refine lv_aload_n hx hb dX7_findFrame_313 rfl (lv_at hl 5 rfl) ?_
                refine va_get (D := D) (ci := 7) (v := .ref (md 5)) (C := RX7) (T := TX7) (N := 20) hx hb hts hiX7 hown hK hP 0 rfl rfl 6 (by decide) hf22 (fun _ h9 => h9) rfl dX7_findFrame_314 ?_
                refine lv_iload_n hx hb dX7_findFrame_317 rfl (lv_at hl 7 rfl) ?_
                refine nv_iald hx hb hK hP 5 0 rfl rfl (by omega) (by decide) dX7_findFrame_318 ?_
                refine nv_top (v' := .int (nI (pt q b 2))) (by rw [(hM.2.2.2 b (by omega)).2.2]) ?_
                refine lv_iload hx hb dX7_findFrame_319 (lv_at hl 0 rfl) ?_
                refine ctR_S (As := [.int (nI (pt q b 0)), .int (nI (pt q b 1)), .int (nI (pt q b 2)), .int (nI 0)]) (rest := [.int (nI ((k / q) % q)), .ref (md 0), .int (nI 1), .ref (md 14)]) (r := .int (nI (th3 (pt q b 0) (pt q b 1) (pt q b 2) 0))) ⟨hx, hb, hml, hown, hts⟩ (c_X7_three l D cI cZ (pt q b 0) (pt q b 1) (pt q b 2) 0 (by decide)) (va_cwS 4 hts gX7_findFrame_X7_three rfl rfl rfl hdS_X7_three ⟨Nat.le_of_ble_eq_true rfl, Nat.le_of_ble_eq_true rfl⟩) hK hN hP [] rfl rfl hl.1 rfl (Nat.le_of_ble_eq_true rfl) ⟨Nat.zero_le _, Nat.zero_le _⟩ dX7_findFrame_321 ?_
                refine nv_top (v' := .int (nI (pt q b 0))) rfl ?_
                refine ctR_V (As := [.int (nI ((k / q) % q)), .int (nI (pt q b 0))]) (rest := [.int (nI 1), .ref (md 14)]) (r := .int (nI (fmul q ((k / q) % q) (pt q b 0)))) ⟨hx, hb, hml, hown, hts⟩ (c_X7_times l D cI cZ md q w su po xs ys zs hM ((k / q) % q) (pt q b 0) (by omega) (by omega)) (cwV 2 hts gX7_findFrame_X7_times rfl rfl rfl hdV_X7_times ⟨Nat.le_of_ble_eq_true rfl, Nat.le_of_ble_eq_true rfl⟩) hK hN hP [0, 1, 2, 3, 4, 5] rfl 0 7 rfl rfl rfl hl.1 rfl (Nat.le_of_ble_eq_true rfl) ⟨Nat.zero_le _, Nat.zero_le _⟩ dX7_findFrame_324 ?_
                have hh_17 : fmul q ((k / q) % q) (pt q b 0) < q := fmul_lt hM.1 (by omega) (by omega)
                refine nv_iast hx hb hK hP hD hS 6 0 rfl rfl (by omega) (by decide) dX7_findFrame_327 (fun H locs hP hD hS => ?_)
                have hP : va_P D vwCl [(md 0, .inr (7, [.int (nI q), .int (nI (nn q)), .ref (md 1), .ref (md 2), .ref (md 3), .ref (md 4), .ref (md 5), .ref (md 6), .ref (md 7), .ref (md 8), .ref (md 9), .ref (md 10), .ref (md 11), .ref (md 12), .ref (md 13), .ref (md 14), .ref (md 15), .ref (md 16), .int (nI w), .ref (md 17)])), (md 1, .inl (cI, 81, .inl (nF su))), (md 2, .inl (cI, 81, .inl (nF po))), (md 3, .inl (cI, 91, .inl (nF xs))), (md 4, .inl (cI, 91, .inl (nF ys))), (md 5, .inl (cI, 91, .inl (nF zs))), (md 14, .inl (cI, 9, .inl (nF (upN (upN o1 0 (fmul q (k / (q * q)) (pt q a 0))) 1 (fmul q ((k / q) % q) (pt q b 0))))))] H := hP
                have hD : va_D A [(md 0, .inr (7, [.int (nI q), .int (nI (nn q)), .ref (md 1), .ref (md 2), .ref (md 3), .ref (md 4), .ref (md 5), .ref (md 6), .ref (md 7), .ref (md 8), .ref (md 9), .ref (md 10), .ref (md 11), .ref (md 12), .ref (md 13), .ref (md 14), .ref (md 15), .ref (md 16), .int (nI w), .ref (md 17)])), (md 1, .inl (cI, 81, .inl (nF su))), (md 2, .inl (cI, 81, .inl (nF po))), (md 3, .inl (cI, 91, .inl (nF xs))), (md 4, .inl (cI, 91, .inl (nF ys))), (md 5, .inl (cI, 91, .inl (nF zs))), (md 14, .inl (cI, 9, .inl (nF (upN (upN o1 0 (fmul q (k / (q * q)) (pt q a 0))) 1 (fmul q ((k / q) % q) (pt q b 0))))))] := hD
                refine lv_aload_n hx hb dX7_findFrame_328 rfl (lv_at hl 5 rfl) ?_
                refine va_get (D := D) (ci := 7) (v := .ref (md 14)) (C := RX7) (T := TX7) (N := 20) hx hb hts hiX7 hown hK hP 0 rfl rfl 15 (by decide) hf50 (fun _ h9 => h9) rfl dX7_findFrame_329 ?_
                refine lv_iconst (v := nI 3) hx hb dX7_findFrame_332 (by decide) ?_
                refine lv_iload hx hb dX7_findFrame_333 (lv_at hl 0 rfl) ?_
                refine nv_mulE (r := 0) hx hb rfl dX7_findFrame_335 ?_
                refine lv_iconst (v := nI 2) hx hb dX7_findFrame_336 (by decide) ?_
                refine nv_addE (r := 2) hx hb rfl dX7_findFrame_337 ?_
                refine lv_aload_n hx hb dX7_findFrame_338 rfl (lv_at hl 5 rfl) ?_
                refine lv_iload hx hb dX7_findFrame_339 (lv_at hl 2 rfl) ?_
                refine lv_aload_n hx hb dX7_findFrame_341 rfl (lv_at hl 5 rfl) ?_
                refine va_get (D := D) (ci := 7) (v := .ref (md 3)) (C := RX7) (T := TX7) (N := 20) hx hb hts hiX7 hown hK hP 0 rfl rfl 4 (by decide) hf16 (fun _ h9 => h9) rfl dX7_findFrame_342 ?_
                refine lv_iload_n hx hb dX7_findFrame_345 rfl (lv_at hl 8 rfl) ?_
                refine nv_iald hx hb hK hP 3 0 rfl rfl (by omega) (by decide) dX7_findFrame_346 ?_
                refine nv_top (v' := .int (nI (pt q g 0))) (by rw [(hM.2.2.2 g (by omega)).1]) ?_
                refine lv_aload_n hx hb dX7_findFrame_347 rfl (lv_at hl 5 rfl) ?_
                refine va_get (D := D) (ci := 7) (v := .ref (md 4)) (C := RX7) (T := TX7) (N := 20) hx hb hts hiX7 hown hK hP 0 rfl rfl 5 (by decide) hf19 (fun _ h9 => h9) rfl dX7_findFrame_348 ?_
                refine lv_iload_n hx hb dX7_findFrame_351 rfl (lv_at hl 8 rfl) ?_
                refine nv_iald hx hb hK hP 4 0 rfl rfl (by omega) (by decide) dX7_findFrame_352 ?_
                refine nv_top (v' := .int (nI (pt q g 1))) (by rw [(hM.2.2.2 g (by omega)).2.1]) ?_
                refine lv_aload_n hx hb dX7_findFrame_353 rfl (lv_at hl 5 rfl) ?_
                refine va_get (D := D) (ci := 7) (v := .ref (md 5)) (C := RX7) (T := TX7) (N := 20) hx hb hts hiX7 hown hK hP 0 rfl rfl 6 (by decide) hf22 (fun _ h9 => h9) rfl dX7_findFrame_354 ?_
                refine lv_iload_n hx hb dX7_findFrame_357 rfl (lv_at hl 8 rfl) ?_
                refine nv_iald hx hb hK hP 5 0 rfl rfl (by omega) (by decide) dX7_findFrame_358 ?_
                refine nv_top (v' := .int (nI (pt q g 2))) (by rw [(hM.2.2.2 g (by omega)).2.2]) ?_
                refine lv_iload hx hb dX7_findFrame_359 (lv_at hl 0 rfl) ?_
                refine ctR_S (As := [.int (nI (pt q g 0)), .int (nI (pt q g 1)), .int (nI (pt q g 2)), .int (nI 0)]) (rest := [.int (nI (k % q)), .ref (md 0), .int (nI 2), .ref (md 14)]) (r := .int (nI (th3 (pt q g 0) (pt q g 1) (pt q g 2) 0))) ⟨hx, hb, hml, hown, hts⟩ (c_X7_three l D cI cZ (pt q g 0) (pt q g 1) (pt q g 2) 0 (by decide)) (va_cwS 4 hts gX7_findFrame_X7_three rfl rfl rfl hdS_X7_three ⟨Nat.le_of_ble_eq_true rfl, Nat.le_of_ble_eq_true rfl⟩) hK hN hP [] rfl rfl hl.1 rfl (Nat.le_of_ble_eq_true rfl) ⟨Nat.zero_le _, Nat.zero_le _⟩ dX7_findFrame_361 ?_
                refine nv_top (v' := .int (nI (pt q g 0))) rfl ?_
                refine ctR_V (As := [.int (nI (k % q)), .int (nI (pt q g 0))]) (rest := [.int (nI 2), .ref (md 14)]) (r := .int (nI (fmul q (k % q) (pt q g 0)))) ⟨hx, hb, hml, hown, hts⟩ (c_X7_times l D cI cZ md q w su po xs ys zs hM (k % q) (pt q g 0) (by omega) (by omega)) (cwV 2 hts gX7_findFrame_X7_times rfl rfl rfl hdV_X7_times ⟨Nat.le_of_ble_eq_true rfl, Nat.le_of_ble_eq_true rfl⟩) hK hN hP [0, 1, 2, 3, 4, 5] rfl 0 7 rfl rfl rfl hl.1 rfl (Nat.le_of_ble_eq_true rfl) ⟨Nat.zero_le _, Nat.zero_le _⟩ dX7_findFrame_364 ?_
                have hh_18 : fmul q (k % q) (pt q g 0) < q := fmul_lt hM.1 (by omega) (by omega)
                refine nv_iast hx hb hK hP hD hS 6 0 rfl rfl (by omega) (by decide) dX7_findFrame_367 (fun H locs hP hD hS => ?_)
                have hP : va_P D vwCl [(md 0, .inr (7, [.int (nI q), .int (nI (nn q)), .ref (md 1), .ref (md 2), .ref (md 3), .ref (md 4), .ref (md 5), .ref (md 6), .ref (md 7), .ref (md 8), .ref (md 9), .ref (md 10), .ref (md 11), .ref (md 12), .ref (md 13), .ref (md 14), .ref (md 15), .ref (md 16), .int (nI w), .ref (md 17)])), (md 1, .inl (cI, 81, .inl (nF su))), (md 2, .inl (cI, 81, .inl (nF po))), (md 3, .inl (cI, 91, .inl (nF xs))), (md 4, .inl (cI, 91, .inl (nF ys))), (md 5, .inl (cI, 91, .inl (nF zs))), (md 14, .inl (cI, 9, .inl (nF (upN (upN (upN o1 0 (fmul q (k / (q * q)) (pt q a 0))) 1 (fmul q ((k / q) % q) (pt q b 0))) 2 (fmul q (k % q) (pt q g 0))))))] H := hP
                have hD : va_D A [(md 0, .inr (7, [.int (nI q), .int (nI (nn q)), .ref (md 1), .ref (md 2), .ref (md 3), .ref (md 4), .ref (md 5), .ref (md 6), .ref (md 7), .ref (md 8), .ref (md 9), .ref (md 10), .ref (md 11), .ref (md 12), .ref (md 13), .ref (md 14), .ref (md 15), .ref (md 16), .int (nI w), .ref (md 17)])), (md 1, .inl (cI, 81, .inl (nF su))), (md 2, .inl (cI, 81, .inl (nF po))), (md 3, .inl (cI, 91, .inl (nF xs))), (md 4, .inl (cI, 91, .inl (nF ys))), (md 5, .inl (cI, 91, .inl (nF zs))), (md 14, .inl (cI, 9, .inl (nF (upN (upN (upN o1 0 (fmul q (k / (q * q)) (pt q a 0))) 1 (fmul q ((k / q) % q) (pt q b 0))) 2 (fmul q (k % q) (pt q g 0))))))] := hD
                refine lv_iinc (v := nI 1) (lv' := [(10, .int (nI 1)), (5, .int (nI 1)), (9, .int (nI (k % q))), (8, .int (nI ((k / q) % q))), (7, .int (nI (k / (q * q)))), (0, .ref (md 0)), (1, .int (nI a)), (2, .int (nI b)), (3, .int (nI g)), (4, .int (nI d)), (6, .int (nI k))]) hx hb dX7_findFrame_368 hl (k := 0) rfl (nI_inc 0) (by decide) rfl (fun ls hl => ?_)
                refine lv_goto (tgt := 244) hx hb dX7_findFrame_371 (by decide) ?_
                refine lv_iload hx hb dX7_findFrame_244 (lv_at hl 0 rfl) ?_
                refine lv_iconst (v := nI 3) hx hb dX7_findFrame_246 (by decide) ?_
                refine nv_icmp_ge (tgt := 374) hx hb (by decide) (by decide) dX7_findFrame_247 (by decide) (fun c247 => absurd c247 (by omega)) (fun c247 => ?_)
                refine lv_aload_n hx hb dX7_findFrame_250 rfl (lv_at hl 5 rfl) ?_
                refine va_get (D := D) (ci := 7) (v := .ref (md 14)) (C := RX7) (T := TX7) (N := 20) hx hb hts hiX7 hown hK hP 0 rfl rfl 15 (by decide) hf50 (fun _ h9 => h9) rfl dX7_findFrame_251 ?_
                refine lv_iconst (v := nI 3) hx hb dX7_findFrame_254 (by decide) ?_
                refine lv_iload hx hb dX7_findFrame_255 (lv_at hl 0 rfl) ?_
                refine nv_mulE (r := 3) hx hb rfl dX7_findFrame_257 ?_
                refine lv_aload_n hx hb dX7_findFrame_258 rfl (lv_at hl 5 rfl) ?_
                refine lv_iload hx hb dX7_findFrame_259 (lv_at hl 4 rfl) ?_
                refine lv_aload_n hx hb dX7_findFrame_261 rfl (lv_at hl 5 rfl) ?_
                refine va_get (D := D) (ci := 7) (v := .ref (md 3)) (C := RX7) (T := TX7) (N := 20) hx hb hts hiX7 hown hK hP 0 rfl rfl 4 (by decide) hf16 (fun _ h9 => h9) rfl dX7_findFrame_262 ?_
                refine lv_iload_n hx hb dX7_findFrame_265 rfl (lv_at hl 6 rfl) ?_
                refine nv_iald hx hb hK hP 3 0 rfl rfl (by omega) (by decide) dX7_findFrame_266 ?_
                refine nv_top (v' := .int (nI (pt q a 0))) (by rw [(hM.2.2.2 a (by omega)).1]) ?_
                refine lv_aload_n hx hb dX7_findFrame_267 rfl (lv_at hl 5 rfl) ?_
                refine va_get (D := D) (ci := 7) (v := .ref (md 4)) (C := RX7) (T := TX7) (N := 20) hx hb hts hiX7 hown hK hP 0 rfl rfl 5 (by decide) hf19 (fun _ h9 => h9) rfl dX7_findFrame_268 ?_
                refine lv_iload_n hx hb dX7_findFrame_271 rfl (lv_at hl 6 rfl) ?_
                refine nv_iald hx hb hK hP 4 0 rfl rfl (by omega) (by decide) dX7_findFrame_272 ?_
                refine nv_top (v' := .int (nI (pt q a 1))) (by rw [(hM.2.2.2 a (by omega)).2.1]) ?_
                refine lv_aload_n hx hb dX7_findFrame_273 rfl (lv_at hl 5 rfl) ?_
                refine va_get (D := D) (ci := 7) (v := .ref (md 5)) (C := RX7) (T := TX7) (N := 20) hx hb hts hiX7 hown hK hP 0 rfl rfl 6 (by decide) hf22 (fun _ h9 => h9) rfl dX7_findFrame_274 ?_
                refine lv_iload_n hx hb dX7_findFrame_277 rfl (lv_at hl 6 rfl) ?_
                refine nv_iald hx hb hK hP 5 0 rfl rfl (by omega) (by decide) dX7_findFrame_278 ?_
                refine nv_top (v' := .int (nI (pt q a 2))) (by rw [(hM.2.2.2 a (by omega)).2.2]) ?_
                refine lv_iload hx hb dX7_findFrame_279 (lv_at hl 0 rfl) ?_
                refine ctR_S (As := [.int (nI (pt q a 0)), .int (nI (pt q a 1)), .int (nI (pt q a 2)), .int (nI 1)]) (rest := [.int (nI (k / (q * q))), .ref (md 0), .int (nI 3), .ref (md 14)]) (r := .int (nI (th3 (pt q a 0) (pt q a 1) (pt q a 2) 1))) ⟨hx, hb, hml, hown, hts⟩ (c_X7_three l D cI cZ (pt q a 0) (pt q a 1) (pt q a 2) 1 (by decide)) (va_cwS 4 hts gX7_findFrame_X7_three rfl rfl rfl hdS_X7_three ⟨Nat.le_of_ble_eq_true rfl, Nat.le_of_ble_eq_true rfl⟩) hK hN hP [] rfl rfl hl.1 rfl (Nat.le_of_ble_eq_true rfl) ⟨Nat.zero_le _, Nat.zero_le _⟩ dX7_findFrame_281 ?_
                refine nv_top (v' := .int (nI (pt q a 1))) rfl ?_
                refine ctR_V (As := [.int (nI (k / (q * q))), .int (nI (pt q a 1))]) (rest := [.int (nI 3), .ref (md 14)]) (r := .int (nI (fmul q (k / (q * q)) (pt q a 1)))) ⟨hx, hb, hml, hown, hts⟩ (c_X7_times l D cI cZ md q w su po xs ys zs hM (k / (q * q)) (pt q a 1) (by omega) (by omega)) (cwV 2 hts gX7_findFrame_X7_times rfl rfl rfl hdV_X7_times ⟨Nat.le_of_ble_eq_true rfl, Nat.le_of_ble_eq_true rfl⟩) hK hN hP [0, 1, 2, 3, 4, 5] rfl 0 7 rfl rfl rfl hl.1 rfl (Nat.le_of_ble_eq_true rfl) ⟨Nat.zero_le _, Nat.zero_le _⟩ dX7_findFrame_284 ?_
                have hh_19 : fmul q (k / (q * q)) (pt q a 1) < q := fmul_lt hM.1 (by omega) (by omega)
                refine nv_iast hx hb hK hP hD hS 6 0 rfl rfl (by omega) (by decide) dX7_findFrame_287 (fun H locs hP hD hS => ?_)
                have hP : va_P D vwCl [(md 0, .inr (7, [.int (nI q), .int (nI (nn q)), .ref (md 1), .ref (md 2), .ref (md 3), .ref (md 4), .ref (md 5), .ref (md 6), .ref (md 7), .ref (md 8), .ref (md 9), .ref (md 10), .ref (md 11), .ref (md 12), .ref (md 13), .ref (md 14), .ref (md 15), .ref (md 16), .int (nI w), .ref (md 17)])), (md 1, .inl (cI, 81, .inl (nF su))), (md 2, .inl (cI, 81, .inl (nF po))), (md 3, .inl (cI, 91, .inl (nF xs))), (md 4, .inl (cI, 91, .inl (nF ys))), (md 5, .inl (cI, 91, .inl (nF zs))), (md 14, .inl (cI, 9, .inl (nF (upN (upN (upN (upN o1 0 (fmul q (k / (q * q)) (pt q a 0))) 1 (fmul q ((k / q) % q) (pt q b 0))) 2 (fmul q (k % q) (pt q g 0))) 3 (fmul q (k / (q * q)) (pt q a 1))))))] H := hP
                have hD : va_D A [(md 0, .inr (7, [.int (nI q), .int (nI (nn q)), .ref (md 1), .ref (md 2), .ref (md 3), .ref (md 4), .ref (md 5), .ref (md 6), .ref (md 7), .ref (md 8), .ref (md 9), .ref (md 10), .ref (md 11), .ref (md 12), .ref (md 13), .ref (md 14), .ref (md 15), .ref (md 16), .int (nI w), .ref (md 17)])), (md 1, .inl (cI, 81, .inl (nF su))), (md 2, .inl (cI, 81, .inl (nF po))), (md 3, .inl (cI, 91, .inl (nF xs))), (md 4, .inl (cI, 91, .inl (nF ys))), (md 5, .inl (cI, 91, .inl (nF zs))), (md 14, .inl (cI, 9, .inl (nF (upN (upN (upN (upN o1 0 (fmul q (k / (q * q)) (pt q a 0))) 1 (fmul q ((k / q) % q) (pt q b 0))) 2 (fmul q (k % q) (pt q g 0))) 3 (fmul q (k / (q * q)) (pt q a 1))))))] := hD
                refine lv_aload_n hx hb dX7_findFrame_288 rfl (lv_at hl 5 rfl) ?_
                refine va_get (D := D) (ci := 7) (v := .ref (md 14)) (C := RX7) (T := TX7) (N := 20) hx hb hts hiX7 hown hK hP 0 rfl rfl 15 (by decide) hf50 (fun _ h9 => h9) rfl dX7_findFrame_289 ?_
                refine lv_iconst (v := nI 3) hx hb dX7_findFrame_292 (by decide) ?_
                refine lv_iload hx hb dX7_findFrame_293 (lv_at hl 0 rfl) ?_
                refine nv_mulE (r := 3) hx hb rfl dX7_findFrame_295 ?_
                refine lv_iconst (v := nI 1) hx hb dX7_findFrame_296 (by decide) ?_
                refine nv_addE (r := 4) hx hb rfl dX7_findFrame_297 ?_
                refine lv_aload_n hx hb dX7_findFrame_298 rfl (lv_at hl 5 rfl) ?_
                refine lv_iload hx hb dX7_findFrame_299 (lv_at hl 3 rfl) ?_
                refine lv_aload_n hx hb dX7_findFrame_301 rfl (lv_at hl 5 rfl) ?_
                refine va_get (D := D) (ci := 7) (v := .ref (md 3)) (C := RX7) (T := TX7) (N := 20) hx hb hts hiX7 hown hK hP 0 rfl rfl 4 (by decide) hf16 (fun _ h9 => h9) rfl dX7_findFrame_302 ?_
                refine lv_iload_n hx hb dX7_findFrame_305 rfl (lv_at hl 7 rfl) ?_
                refine nv_iald hx hb hK hP 3 0 rfl rfl (by omega) (by decide) dX7_findFrame_306 ?_
                refine nv_top (v' := .int (nI (pt q b 0))) (by rw [(hM.2.2.2 b (by omega)).1]) ?_
                refine lv_aload_n hx hb dX7_findFrame_307 rfl (lv_at hl 5 rfl) ?_
                refine va_get (D := D) (ci := 7) (v := .ref (md 4)) (C := RX7) (T := TX7) (N := 20) hx hb hts hiX7 hown hK hP 0 rfl rfl 5 (by decide) hf19 (fun _ h9 => h9) rfl dX7_findFrame_308 ?_
                refine lv_iload_n hx hb dX7_findFrame_311 rfl (lv_at hl 7 rfl) ?_
                refine nv_iald hx hb hK hP 4 0 rfl rfl (by omega) (by decide) dX7_findFrame_312 ?_
                refine nv_top (v' := .int (nI (pt q b 1))) (by rw [(hM.2.2.2 b (by omega)).2.1]) ?_
                refine lv_aload_n hx hb dX7_findFrame_313 rfl (lv_at hl 5 rfl) ?_
                refine va_get (D := D) (ci := 7) (v := .ref (md 5)) (C := RX7) (T := TX7) (N := 20) hx hb hts hiX7 hown hK hP 0 rfl rfl 6 (by decide) hf22 (fun _ h9 => h9) rfl dX7_findFrame_314 ?_
                refine lv_iload_n hx hb dX7_findFrame_317 rfl (lv_at hl 7 rfl) ?_
                refine nv_iald hx hb hK hP 5 0 rfl rfl (by omega) (by decide) dX7_findFrame_318 ?_
                refine nv_top (v' := .int (nI (pt q b 2))) (by rw [(hM.2.2.2 b (by omega)).2.2]) ?_
                refine lv_iload hx hb dX7_findFrame_319 (lv_at hl 0 rfl) ?_
                refine ctR_S (As := [.int (nI (pt q b 0)), .int (nI (pt q b 1)), .int (nI (pt q b 2)), .int (nI 1)]) (rest := [.int (nI ((k / q) % q)), .ref (md 0), .int (nI 4), .ref (md 14)]) (r := .int (nI (th3 (pt q b 0) (pt q b 1) (pt q b 2) 1))) ⟨hx, hb, hml, hown, hts⟩ (c_X7_three l D cI cZ (pt q b 0) (pt q b 1) (pt q b 2) 1 (by decide)) (va_cwS 4 hts gX7_findFrame_X7_three rfl rfl rfl hdS_X7_three ⟨Nat.le_of_ble_eq_true rfl, Nat.le_of_ble_eq_true rfl⟩) hK hN hP [] rfl rfl hl.1 rfl (Nat.le_of_ble_eq_true rfl) ⟨Nat.zero_le _, Nat.zero_le _⟩ dX7_findFrame_321 ?_
                refine nv_top (v' := .int (nI (pt q b 1))) rfl ?_
                refine ctR_V (As := [.int (nI ((k / q) % q)), .int (nI (pt q b 1))]) (rest := [.int (nI 4), .ref (md 14)]) (r := .int (nI (fmul q ((k / q) % q) (pt q b 1)))) ⟨hx, hb, hml, hown, hts⟩ (c_X7_times l D cI cZ md q w su po xs ys zs hM ((k / q) % q) (pt q b 1) (by omega) (by omega)) (cwV 2 hts gX7_findFrame_X7_times rfl rfl rfl hdV_X7_times ⟨Nat.le_of_ble_eq_true rfl, Nat.le_of_ble_eq_true rfl⟩) hK hN hP [0, 1, 2, 3, 4, 5] rfl 0 7 rfl rfl rfl hl.1 rfl (Nat.le_of_ble_eq_true rfl) ⟨Nat.zero_le _, Nat.zero_le _⟩ dX7_findFrame_324 ?_
                have hh_20 : fmul q ((k / q) % q) (pt q b 1) < q := fmul_lt hM.1 (by omega) (by omega)
                refine nv_iast hx hb hK hP hD hS 6 0 rfl rfl (by omega) (by decide) dX7_findFrame_327 (fun H locs hP hD hS => ?_)
                have hP : va_P D vwCl [(md 0, .inr (7, [.int (nI q), .int (nI (nn q)), .ref (md 1), .ref (md 2), .ref (md 3), .ref (md 4), .ref (md 5), .ref (md 6), .ref (md 7), .ref (md 8), .ref (md 9), .ref (md 10), .ref (md 11), .ref (md 12), .ref (md 13), .ref (md 14), .ref (md 15), .ref (md 16), .int (nI w), .ref (md 17)])), (md 1, .inl (cI, 81, .inl (nF su))), (md 2, .inl (cI, 81, .inl (nF po))), (md 3, .inl (cI, 91, .inl (nF xs))), (md 4, .inl (cI, 91, .inl (nF ys))), (md 5, .inl (cI, 91, .inl (nF zs))), (md 14, .inl (cI, 9, .inl (nF (upN (upN (upN (upN (upN o1 0 (fmul q (k / (q * q)) (pt q a 0))) 1 (fmul q ((k / q) % q) (pt q b 0))) 2 (fmul q (k % q) (pt q g 0))) 3 (fmul q (k / (q * q)) (pt q a 1))) 4 (fmul q ((k / q) % q) (pt q b 1))))))] H := hP
                have hD : va_D A [(md 0, .inr (7, [.int (nI q), .int (nI (nn q)), .ref (md 1), .ref (md 2), .ref (md 3), .ref (md 4), .ref (md 5), .ref (md 6), .ref (md 7), .ref (md 8), .ref (md 9), .ref (md 10), .ref (md 11), .ref (md 12), .ref (md 13), .ref (md 14), .ref (md 15), .ref (md 16), .int (nI w), .ref (md 17)])), (md 1, .inl (cI, 81, .inl (nF su))), (md 2, .inl (cI, 81, .inl (nF po))), (md 3, .inl (cI, 91, .inl (nF xs))), (md 4, .inl (cI, 91, .inl (nF ys))), (md 5, .inl (cI, 91, .inl (nF zs))), (md 14, .inl (cI, 9, .inl (nF (upN (upN (upN (upN (upN o1 0 (fmul q (k / (q * q)) (pt q a 0))) 1 (fmul q ((k / q) % q) (pt q b 0))) 2 (fmul q (k % q) (pt q g 0))) 3 (fmul q (k / (q * q)) (pt q a 1))) 4 (fmul q ((k / q) % q) (pt q b 1))))))] := hD
                refine lv_aload_n hx hb dX7_findFrame_328 rfl (lv_at hl 5 rfl) ?_
                refine va_get (D := D) (ci := 7) (v := .ref (md 14)) (C := RX7) (T := TX7) (N := 20) hx hb hts hiX7 hown hK hP 0 rfl rfl 15 (by decide) hf50 (fun _ h9 => h9) rfl dX7_findFrame_329 ?_
                refine lv_iconst (v := nI 3) hx hb dX7_findFrame_332 (by decide) ?_
                refine lv_iload hx hb dX7_findFrame_333 (lv_at hl 0 rfl) ?_
                refine nv_mulE (r := 3) hx hb rfl dX7_findFrame_335 ?_
                refine lv_iconst (v := nI 2) hx hb dX7_findFrame_336 (by decide) ?_
                refine nv_addE (r := 5) hx hb rfl dX7_findFrame_337 ?_
                refine lv_aload_n hx hb dX7_findFrame_338 rfl (lv_at hl 5 rfl) ?_
                refine lv_iload hx hb dX7_findFrame_339 (lv_at hl 2 rfl) ?_
                refine lv_aload_n hx hb dX7_findFrame_341 rfl (lv_at hl 5 rfl) ?_
                refine va_get (D := D) (ci := 7) (v := .ref (md 3)) (C := RX7) (T := TX7) (N := 20) hx hb hts hiX7 hown hK hP 0 rfl rfl 4 (by decide) hf16 (fun _ h9 => h9) rfl dX7_findFrame_342 ?_
                refine lv_iload_n hx hb dX7_findFrame_345 rfl (lv_at hl 8 rfl) ?_
                refine nv_iald hx hb hK hP 3 0 rfl rfl (by omega) (by decide) dX7_findFrame_346 ?_
                refine nv_top (v' := .int (nI (pt q g 0))) (by rw [(hM.2.2.2 g (by omega)).1]) ?_
                refine lv_aload_n hx hb dX7_findFrame_347 rfl (lv_at hl 5 rfl) ?_
                refine va_get (D := D) (ci := 7) (v := .ref (md 4)) (C := RX7) (T := TX7) (N := 20) hx hb hts hiX7 hown hK hP 0 rfl rfl 5 (by decide) hf19 (fun _ h9 => h9) rfl dX7_findFrame_348 ?_
                refine lv_iload_n hx hb dX7_findFrame_351 rfl (lv_at hl 8 rfl) ?_
                refine nv_iald hx hb hK hP 4 0 rfl rfl (by omega) (by decide) dX7_findFrame_352 ?_
                refine nv_top (v' := .int (nI (pt q g 1))) (by rw [(hM.2.2.2 g (by omega)).2.1]) ?_
                refine lv_aload_n hx hb dX7_findFrame_353 rfl (lv_at hl 5 rfl) ?_
                refine va_get (D := D) (ci := 7) (v := .ref (md 5)) (C := RX7) (T := TX7) (N := 20) hx hb hts hiX7 hown hK hP 0 rfl rfl 6 (by decide) hf22 (fun _ h9 => h9) rfl dX7_findFrame_354 ?_
                refine lv_iload_n hx hb dX7_findFrame_357 rfl (lv_at hl 8 rfl) ?_
                refine nv_iald hx hb hK hP 5 0 rfl rfl (by omega) (by decide) dX7_findFrame_358 ?_
                refine nv_top (v' := .int (nI (pt q g 2))) (by rw [(hM.2.2.2 g (by omega)).2.2]) ?_
                refine lv_iload hx hb dX7_findFrame_359 (lv_at hl 0 rfl) ?_
                refine ctR_S (As := [.int (nI (pt q g 0)), .int (nI (pt q g 1)), .int (nI (pt q g 2)), .int (nI 1)]) (rest := [.int (nI (k % q)), .ref (md 0), .int (nI 5), .ref (md 14)]) (r := .int (nI (th3 (pt q g 0) (pt q g 1) (pt q g 2) 1))) ⟨hx, hb, hml, hown, hts⟩ (c_X7_three l D cI cZ (pt q g 0) (pt q g 1) (pt q g 2) 1 (by decide)) (va_cwS 4 hts gX7_findFrame_X7_three rfl rfl rfl hdS_X7_three ⟨Nat.le_of_ble_eq_true rfl, Nat.le_of_ble_eq_true rfl⟩) hK hN hP [] rfl rfl hl.1 rfl (Nat.le_of_ble_eq_true rfl) ⟨Nat.zero_le _, Nat.zero_le _⟩ dX7_findFrame_361 ?_
                refine nv_top (v' := .int (nI (pt q g 1))) rfl ?_
                refine ctR_V (As := [.int (nI (k % q)), .int (nI (pt q g 1))]) (rest := [.int (nI 5), .ref (md 14)]) (r := .int (nI (fmul q (k % q) (pt q g 1)))) ⟨hx, hb, hml, hown, hts⟩ (c_X7_times l D cI cZ md q w su po xs ys zs hM (k % q) (pt q g 1) (by omega) (by omega)) (cwV 2 hts gX7_findFrame_X7_times rfl rfl rfl hdV_X7_times ⟨Nat.le_of_ble_eq_true rfl, Nat.le_of_ble_eq_true rfl⟩) hK hN hP [0, 1, 2, 3, 4, 5] rfl 0 7 rfl rfl rfl hl.1 rfl (Nat.le_of_ble_eq_true rfl) ⟨Nat.zero_le _, Nat.zero_le _⟩ dX7_findFrame_364 ?_
                have hh_21 : fmul q (k % q) (pt q g 1) < q := fmul_lt hM.1 (by omega) (by omega)
                refine nv_iast hx hb hK hP hD hS 6 0 rfl rfl (by omega) (by decide) dX7_findFrame_367 (fun H locs hP hD hS => ?_)
                have hP : va_P D vwCl [(md 0, .inr (7, [.int (nI q), .int (nI (nn q)), .ref (md 1), .ref (md 2), .ref (md 3), .ref (md 4), .ref (md 5), .ref (md 6), .ref (md 7), .ref (md 8), .ref (md 9), .ref (md 10), .ref (md 11), .ref (md 12), .ref (md 13), .ref (md 14), .ref (md 15), .ref (md 16), .int (nI w), .ref (md 17)])), (md 1, .inl (cI, 81, .inl (nF su))), (md 2, .inl (cI, 81, .inl (nF po))), (md 3, .inl (cI, 91, .inl (nF xs))), (md 4, .inl (cI, 91, .inl (nF ys))), (md 5, .inl (cI, 91, .inl (nF zs))), (md 14, .inl (cI, 9, .inl (nF (upN (upN (upN (upN (upN (upN o1 0 (fmul q (k / (q * q)) (pt q a 0))) 1 (fmul q ((k / q) % q) (pt q b 0))) 2 (fmul q (k % q) (pt q g 0))) 3 (fmul q (k / (q * q)) (pt q a 1))) 4 (fmul q ((k / q) % q) (pt q b 1))) 5 (fmul q (k % q) (pt q g 1))))))] H := hP
                have hD : va_D A [(md 0, .inr (7, [.int (nI q), .int (nI (nn q)), .ref (md 1), .ref (md 2), .ref (md 3), .ref (md 4), .ref (md 5), .ref (md 6), .ref (md 7), .ref (md 8), .ref (md 9), .ref (md 10), .ref (md 11), .ref (md 12), .ref (md 13), .ref (md 14), .ref (md 15), .ref (md 16), .int (nI w), .ref (md 17)])), (md 1, .inl (cI, 81, .inl (nF su))), (md 2, .inl (cI, 81, .inl (nF po))), (md 3, .inl (cI, 91, .inl (nF xs))), (md 4, .inl (cI, 91, .inl (nF ys))), (md 5, .inl (cI, 91, .inl (nF zs))), (md 14, .inl (cI, 9, .inl (nF (upN (upN (upN (upN (upN (upN o1 0 (fmul q (k / (q * q)) (pt q a 0))) 1 (fmul q ((k / q) % q) (pt q b 0))) 2 (fmul q (k % q) (pt q g 0))) 3 (fmul q (k / (q * q)) (pt q a 1))) 4 (fmul q ((k / q) % q) (pt q b 1))) 5 (fmul q (k % q) (pt q g 1))))))] := hD
                refine lv_iinc (v := nI 2) (lv' := [(10, .int (nI 2)), (5, .int (nI 1)), (9, .int (nI (k % q))), (8, .int (nI ((k / q) % q))), (7, .int (nI (k / (q * q)))), (0, .ref (md 0)), (1, .int (nI a)), (2, .int (nI b)), (3, .int (nI g)), (4, .int (nI d)), (6, .int (nI k))]) hx hb dX7_findFrame_368 hl (k := 0) rfl (nI_inc 1) (by decide) rfl (fun ls hl => ?_)
                refine lv_goto (tgt := 244) hx hb dX7_findFrame_371 (by decide) ?_
                refine lv_iload hx hb dX7_findFrame_244 (lv_at hl 0 rfl) ?_
                refine lv_iconst (v := nI 3) hx hb dX7_findFrame_246 (by decide) ?_
                refine nv_icmp_ge (tgt := 374) hx hb (by decide) (by decide) dX7_findFrame_247 (by decide) (fun c247 => absurd c247 (by omega)) (fun c247 => ?_)
                refine lv_aload_n hx hb dX7_findFrame_250 rfl (lv_at hl 5 rfl) ?_
                refine va_get (D := D) (ci := 7) (v := .ref (md 14)) (C := RX7) (T := TX7) (N := 20) hx hb hts hiX7 hown hK hP 0 rfl rfl 15 (by decide) hf50 (fun _ h9 => h9) rfl dX7_findFrame_251 ?_
                refine lv_iconst (v := nI 3) hx hb dX7_findFrame_254 (by decide) ?_
                refine lv_iload hx hb dX7_findFrame_255 (lv_at hl 0 rfl) ?_
                refine nv_mulE (r := 6) hx hb rfl dX7_findFrame_257 ?_
                refine lv_aload_n hx hb dX7_findFrame_258 rfl (lv_at hl 5 rfl) ?_
                refine lv_iload hx hb dX7_findFrame_259 (lv_at hl 4 rfl) ?_
                refine lv_aload_n hx hb dX7_findFrame_261 rfl (lv_at hl 5 rfl) ?_
                refine va_get (D := D) (ci := 7) (v := .ref (md 3)) (C := RX7) (T := TX7) (N := 20) hx hb hts hiX7 hown hK hP 0 rfl rfl 4 (by decide) hf16 (fun _ h9 => h9) rfl dX7_findFrame_262 ?_
                refine lv_iload_n hx hb dX7_findFrame_265 rfl (lv_at hl 6 rfl) ?_
                refine nv_iald hx hb hK hP 3 0 rfl rfl (by omega) (by decide) dX7_findFrame_266 ?_
                refine nv_top (v' := .int (nI (pt q a 0))) (by rw [(hM.2.2.2 a (by omega)).1]) ?_
                refine lv_aload_n hx hb dX7_findFrame_267 rfl (lv_at hl 5 rfl) ?_
                refine va_get (D := D) (ci := 7) (v := .ref (md 4)) (C := RX7) (T := TX7) (N := 20) hx hb hts hiX7 hown hK hP 0 rfl rfl 5 (by decide) hf19 (fun _ h9 => h9) rfl dX7_findFrame_268 ?_
                refine lv_iload_n hx hb dX7_findFrame_271 rfl (lv_at hl 6 rfl) ?_
                refine nv_iald hx hb hK hP 4 0 rfl rfl (by omega) (by decide) dX7_findFrame_272 ?_
                refine nv_top (v' := .int (nI (pt q a 1))) (by rw [(hM.2.2.2 a (by omega)).2.1]) ?_
                refine lv_aload_n hx hb dX7_findFrame_273 rfl (lv_at hl 5 rfl) ?_
                refine va_get (D := D) (ci := 7) (v := .ref (md 5)) (C := RX7) (T := TX7) (N := 20) hx hb hts hiX7 hown hK hP 0 rfl rfl 6 (by decide) hf22 (fun _ h9 => h9) rfl dX7_findFrame_274 ?_
                refine lv_iload_n hx hb dX7_findFrame_277 rfl (lv_at hl 6 rfl) ?_
                refine nv_iald hx hb hK hP 5 0 rfl rfl (by omega) (by decide) dX7_findFrame_278 ?_
                refine nv_top (v' := .int (nI (pt q a 2))) (by rw [(hM.2.2.2 a (by omega)).2.2]) ?_
                refine lv_iload hx hb dX7_findFrame_279 (lv_at hl 0 rfl) ?_
                refine ctR_S (As := [.int (nI (pt q a 0)), .int (nI (pt q a 1)), .int (nI (pt q a 2)), .int (nI 2)]) (rest := [.int (nI (k / (q * q))), .ref (md 0), .int (nI 6), .ref (md 14)]) (r := .int (nI (th3 (pt q a 0) (pt q a 1) (pt q a 2) 2))) ⟨hx, hb, hml, hown, hts⟩ (c_X7_three l D cI cZ (pt q a 0) (pt q a 1) (pt q a 2) 2 (by decide)) (va_cwS 4 hts gX7_findFrame_X7_three rfl rfl rfl hdS_X7_three ⟨Nat.le_of_ble_eq_true rfl, Nat.le_of_ble_eq_true rfl⟩) hK hN hP [] rfl rfl hl.1 rfl (Nat.le_of_ble_eq_true rfl) ⟨Nat.zero_le _, Nat.zero_le _⟩ dX7_findFrame_281 ?_
                refine nv_top (v' := .int (nI (pt q a 2))) rfl ?_
                refine ctR_V (As := [.int (nI (k / (q * q))), .int (nI (pt q a 2))]) (rest := [.int (nI 6), .ref (md 14)]) (r := .int (nI (fmul q (k / (q * q)) (pt q a 2)))) ⟨hx, hb, hml, hown, hts⟩ (c_X7_times l D cI cZ md q w su po xs ys zs hM (k / (q * q)) (pt q a 2) (by omega) (by omega)) (cwV 2 hts gX7_findFrame_X7_times rfl rfl rfl hdV_X7_times ⟨Nat.le_of_ble_eq_true rfl, Nat.le_of_ble_eq_true rfl⟩) hK hN hP [0, 1, 2, 3, 4, 5] rfl 0 7 rfl rfl rfl hl.1 rfl (Nat.le_of_ble_eq_true rfl) ⟨Nat.zero_le _, Nat.zero_le _⟩ dX7_findFrame_284 ?_
                have hh_22 : fmul q (k / (q * q)) (pt q a 2) < q := fmul_lt hM.1 (by omega) (by omega)
                refine nv_iast hx hb hK hP hD hS 6 0 rfl rfl (by omega) (by decide) dX7_findFrame_287 (fun H locs hP hD hS => ?_)
                have hP : va_P D vwCl [(md 0, .inr (7, [.int (nI q), .int (nI (nn q)), .ref (md 1), .ref (md 2), .ref (md 3), .ref (md 4), .ref (md 5), .ref (md 6), .ref (md 7), .ref (md 8), .ref (md 9), .ref (md 10), .ref (md 11), .ref (md 12), .ref (md 13), .ref (md 14), .ref (md 15), .ref (md 16), .int (nI w), .ref (md 17)])), (md 1, .inl (cI, 81, .inl (nF su))), (md 2, .inl (cI, 81, .inl (nF po))), (md 3, .inl (cI, 91, .inl (nF xs))), (md 4, .inl (cI, 91, .inl (nF ys))), (md 5, .inl (cI, 91, .inl (nF zs))), (md 14, .inl (cI, 9, .inl (nF (upN (upN (upN (upN (upN (upN (upN o1 0 (fmul q (k / (q * q)) (pt q a 0))) 1 (fmul q ((k / q) % q) (pt q b 0))) 2 (fmul q (k % q) (pt q g 0))) 3 (fmul q (k / (q * q)) (pt q a 1))) 4 (fmul q ((k / q) % q) (pt q b 1))) 5 (fmul q (k % q) (pt q g 1))) 6 (fmul q (k / (q * q)) (pt q a 2))))))] H := hP
                have hD : va_D A [(md 0, .inr (7, [.int (nI q), .int (nI (nn q)), .ref (md 1), .ref (md 2), .ref (md 3), .ref (md 4), .ref (md 5), .ref (md 6), .ref (md 7), .ref (md 8), .ref (md 9), .ref (md 10), .ref (md 11), .ref (md 12), .ref (md 13), .ref (md 14), .ref (md 15), .ref (md 16), .int (nI w), .ref (md 17)])), (md 1, .inl (cI, 81, .inl (nF su))), (md 2, .inl (cI, 81, .inl (nF po))), (md 3, .inl (cI, 91, .inl (nF xs))), (md 4, .inl (cI, 91, .inl (nF ys))), (md 5, .inl (cI, 91, .inl (nF zs))), (md 14, .inl (cI, 9, .inl (nF (upN (upN (upN (upN (upN (upN (upN o1 0 (fmul q (k / (q * q)) (pt q a 0))) 1 (fmul q ((k / q) % q) (pt q b 0))) 2 (fmul q (k % q) (pt q g 0))) 3 (fmul q (k / (q * q)) (pt q a 1))) 4 (fmul q ((k / q) % q) (pt q b 1))) 5 (fmul q (k % q) (pt q g 1))) 6 (fmul q (k / (q * q)) (pt q a 2))))))] := hD
                refine lv_aload_n hx hb dX7_findFrame_288 rfl (lv_at hl 5 rfl) ?_
                refine va_get (D := D) (ci := 7) (v := .ref (md 14)) (C := RX7) (T := TX7) (N := 20) hx hb hts hiX7 hown hK hP 0 rfl rfl 15 (by decide) hf50 (fun _ h9 => h9) rfl dX7_findFrame_289 ?_
                refine lv_iconst (v := nI 3) hx hb dX7_findFrame_292 (by decide) ?_
                refine lv_iload hx hb dX7_findFrame_293 (lv_at hl 0 rfl) ?_
                refine nv_mulE (r := 6) hx hb rfl dX7_findFrame_295 ?_
                refine lv_iconst (v := nI 1) hx hb dX7_findFrame_296 (by decide) ?_
                refine nv_addE (r := 7) hx hb rfl dX7_findFrame_297 ?_
                refine lv_aload_n hx hb dX7_findFrame_298 rfl (lv_at hl 5 rfl) ?_
                refine lv_iload hx hb dX7_findFrame_299 (lv_at hl 3 rfl) ?_
                refine lv_aload_n hx hb dX7_findFrame_301 rfl (lv_at hl 5 rfl) ?_
                refine va_get (D := D) (ci := 7) (v := .ref (md 3)) (C := RX7) (T := TX7) (N := 20) hx hb hts hiX7 hown hK hP 0 rfl rfl 4 (by decide) hf16 (fun _ h9 => h9) rfl dX7_findFrame_302 ?_
                refine lv_iload_n hx hb dX7_findFrame_305 rfl (lv_at hl 7 rfl) ?_
                refine nv_iald hx hb hK hP 3 0 rfl rfl (by omega) (by decide) dX7_findFrame_306 ?_
                refine nv_top (v' := .int (nI (pt q b 0))) (by rw [(hM.2.2.2 b (by omega)).1]) ?_
                refine lv_aload_n hx hb dX7_findFrame_307 rfl (lv_at hl 5 rfl) ?_
                refine va_get (D := D) (ci := 7) (v := .ref (md 4)) (C := RX7) (T := TX7) (N := 20) hx hb hts hiX7 hown hK hP 0 rfl rfl 5 (by decide) hf19 (fun _ h9 => h9) rfl dX7_findFrame_308 ?_
                refine lv_iload_n hx hb dX7_findFrame_311 rfl (lv_at hl 7 rfl) ?_
                refine nv_iald hx hb hK hP 4 0 rfl rfl (by omega) (by decide) dX7_findFrame_312 ?_
                refine nv_top (v' := .int (nI (pt q b 1))) (by rw [(hM.2.2.2 b (by omega)).2.1]) ?_
                refine lv_aload_n hx hb dX7_findFrame_313 rfl (lv_at hl 5 rfl) ?_
                refine va_get (D := D) (ci := 7) (v := .ref (md 5)) (C := RX7) (T := TX7) (N := 20) hx hb hts hiX7 hown hK hP 0 rfl rfl 6 (by decide) hf22 (fun _ h9 => h9) rfl dX7_findFrame_314 ?_
                refine lv_iload_n hx hb dX7_findFrame_317 rfl (lv_at hl 7 rfl) ?_
                refine nv_iald hx hb hK hP 5 0 rfl rfl (by omega) (by decide) dX7_findFrame_318 ?_
                refine nv_top (v' := .int (nI (pt q b 2))) (by rw [(hM.2.2.2 b (by omega)).2.2]) ?_
                refine lv_iload hx hb dX7_findFrame_319 (lv_at hl 0 rfl) ?_
                refine ctR_S (As := [.int (nI (pt q b 0)), .int (nI (pt q b 1)), .int (nI (pt q b 2)), .int (nI 2)]) (rest := [.int (nI ((k / q) % q)), .ref (md 0), .int (nI 7), .ref (md 14)]) (r := .int (nI (th3 (pt q b 0) (pt q b 1) (pt q b 2) 2))) ⟨hx, hb, hml, hown, hts⟩ (c_X7_three l D cI cZ (pt q b 0) (pt q b 1) (pt q b 2) 2 (by decide)) (va_cwS 4 hts gX7_findFrame_X7_three rfl rfl rfl hdS_X7_three ⟨Nat.le_of_ble_eq_true rfl, Nat.le_of_ble_eq_true rfl⟩) hK hN hP [] rfl rfl hl.1 rfl (Nat.le_of_ble_eq_true rfl) ⟨Nat.zero_le _, Nat.zero_le _⟩ dX7_findFrame_321 ?_
                refine nv_top (v' := .int (nI (pt q b 2))) rfl ?_
                refine ctR_V (As := [.int (nI ((k / q) % q)), .int (nI (pt q b 2))]) (rest := [.int (nI 7), .ref (md 14)]) (r := .int (nI (fmul q ((k / q) % q) (pt q b 2)))) ⟨hx, hb, hml, hown, hts⟩ (c_X7_times l D cI cZ md q w su po xs ys zs hM ((k / q) % q) (pt q b 2) (by omega) (by omega)) (cwV 2 hts gX7_findFrame_X7_times rfl rfl rfl hdV_X7_times ⟨Nat.le_of_ble_eq_true rfl, Nat.le_of_ble_eq_true rfl⟩) hK hN hP [0, 1, 2, 3, 4, 5] rfl 0 7 rfl rfl rfl hl.1 rfl (Nat.le_of_ble_eq_true rfl) ⟨Nat.zero_le _, Nat.zero_le _⟩ dX7_findFrame_324 ?_
                have hh_23 : fmul q ((k / q) % q) (pt q b 2) < q := fmul_lt hM.1 (by omega) (by omega)
                refine nv_iast hx hb hK hP hD hS 6 0 rfl rfl (by omega) (by decide) dX7_findFrame_327 (fun H locs hP hD hS => ?_)
                have hP : va_P D vwCl [(md 0, .inr (7, [.int (nI q), .int (nI (nn q)), .ref (md 1), .ref (md 2), .ref (md 3), .ref (md 4), .ref (md 5), .ref (md 6), .ref (md 7), .ref (md 8), .ref (md 9), .ref (md 10), .ref (md 11), .ref (md 12), .ref (md 13), .ref (md 14), .ref (md 15), .ref (md 16), .int (nI w), .ref (md 17)])), (md 1, .inl (cI, 81, .inl (nF su))), (md 2, .inl (cI, 81, .inl (nF po))), (md 3, .inl (cI, 91, .inl (nF xs))), (md 4, .inl (cI, 91, .inl (nF ys))), (md 5, .inl (cI, 91, .inl (nF zs))), (md 14, .inl (cI, 9, .inl (nF (upN (upN (upN (upN (upN (upN (upN (upN o1 0 (fmul q (k / (q * q)) (pt q a 0))) 1 (fmul q ((k / q) % q) (pt q b 0))) 2 (fmul q (k % q) (pt q g 0))) 3 (fmul q (k / (q * q)) (pt q a 1))) 4 (fmul q ((k / q) % q) (pt q b 1))) 5 (fmul q (k % q) (pt q g 1))) 6 (fmul q (k / (q * q)) (pt q a 2))) 7 (fmul q ((k / q) % q) (pt q b 2))))))] H := hP
                have hD : va_D A [(md 0, .inr (7, [.int (nI q), .int (nI (nn q)), .ref (md 1), .ref (md 2), .ref (md 3), .ref (md 4), .ref (md 5), .ref (md 6), .ref (md 7), .ref (md 8), .ref (md 9), .ref (md 10), .ref (md 11), .ref (md 12), .ref (md 13), .ref (md 14), .ref (md 15), .ref (md 16), .int (nI w), .ref (md 17)])), (md 1, .inl (cI, 81, .inl (nF su))), (md 2, .inl (cI, 81, .inl (nF po))), (md 3, .inl (cI, 91, .inl (nF xs))), (md 4, .inl (cI, 91, .inl (nF ys))), (md 5, .inl (cI, 91, .inl (nF zs))), (md 14, .inl (cI, 9, .inl (nF (upN (upN (upN (upN (upN (upN (upN (upN o1 0 (fmul q (k / (q * q)) (pt q a 0))) 1 (fmul q ((k / q) % q) (pt q b 0))) 2 (fmul q (k % q) (pt q g 0))) 3 (fmul q (k / (q * q)) (pt q a 1))) 4 (fmul q ((k / q) % q) (pt q b 1))) 5 (fmul q (k % q) (pt q g 1))) 6 (fmul q (k / (q * q)) (pt q a 2))) 7 (fmul q ((k / q) % q) (pt q b 2))))))] := hD
                refine lv_aload_n hx hb dX7_findFrame_328 rfl (lv_at hl 5 rfl) ?_
                refine va_get (D := D) (ci := 7) (v := .ref (md 14)) (C := RX7) (T := TX7) (N := 20) hx hb hts hiX7 hown hK hP 0 rfl rfl 15 (by decide) hf50 (fun _ h9 => h9) rfl dX7_findFrame_329 ?_
                refine lv_iconst (v := nI 3) hx hb dX7_findFrame_332 (by decide) ?_
                refine lv_iload hx hb dX7_findFrame_333 (lv_at hl 0 rfl) ?_
                refine nv_mulE (r := 6) hx hb rfl dX7_findFrame_335 ?_
                refine lv_iconst (v := nI 2) hx hb dX7_findFrame_336 (by decide) ?_
                refine nv_addE (r := 8) hx hb rfl dX7_findFrame_337 ?_
                refine lv_aload_n hx hb dX7_findFrame_338 rfl (lv_at hl 5 rfl) ?_
                refine lv_iload hx hb dX7_findFrame_339 (lv_at hl 2 rfl) ?_
                refine lv_aload_n hx hb dX7_findFrame_341 rfl (lv_at hl 5 rfl) ?_
                refine va_get (D := D) (ci := 7) (v := .ref (md 3)) (C := RX7) (T := TX7) (N := 20) hx hb hts hiX7 hown hK hP 0 rfl rfl 4 (by decide) hf16 (fun _ h9 => h9) rfl dX7_findFrame_342 ?_
                refine lv_iload_n hx hb dX7_findFrame_345 rfl (lv_at hl 8 rfl) ?_
                refine nv_iald hx hb hK hP 3 0 rfl rfl (by omega) (by decide) dX7_findFrame_346 ?_
                refine nv_top (v' := .int (nI (pt q g 0))) (by rw [(hM.2.2.2 g (by omega)).1]) ?_
                refine lv_aload_n hx hb dX7_findFrame_347 rfl (lv_at hl 5 rfl) ?_
                refine va_get (D := D) (ci := 7) (v := .ref (md 4)) (C := RX7) (T := TX7) (N := 20) hx hb hts hiX7 hown hK hP 0 rfl rfl 5 (by decide) hf19 (fun _ h9 => h9) rfl dX7_findFrame_348 ?_
                refine lv_iload_n hx hb dX7_findFrame_351 rfl (lv_at hl 8 rfl) ?_
                refine nv_iald hx hb hK hP 4 0 rfl rfl (by omega) (by decide) dX7_findFrame_352 ?_
                refine nv_top (v' := .int (nI (pt q g 1))) (by rw [(hM.2.2.2 g (by omega)).2.1]) ?_
                refine lv_aload_n hx hb dX7_findFrame_353 rfl (lv_at hl 5 rfl) ?_
                refine va_get (D := D) (ci := 7) (v := .ref (md 5)) (C := RX7) (T := TX7) (N := 20) hx hb hts hiX7 hown hK hP 0 rfl rfl 6 (by decide) hf22 (fun _ h9 => h9) rfl dX7_findFrame_354 ?_
                refine lv_iload_n hx hb dX7_findFrame_357 rfl (lv_at hl 8 rfl) ?_
                refine nv_iald hx hb hK hP 5 0 rfl rfl (by omega) (by decide) dX7_findFrame_358 ?_
                refine nv_top (v' := .int (nI (pt q g 2))) (by rw [(hM.2.2.2 g (by omega)).2.2]) ?_
                refine lv_iload hx hb dX7_findFrame_359 (lv_at hl 0 rfl) ?_
                refine ctR_S (As := [.int (nI (pt q g 0)), .int (nI (pt q g 1)), .int (nI (pt q g 2)), .int (nI 2)]) (rest := [.int (nI (k % q)), .ref (md 0), .int (nI 8), .ref (md 14)]) (r := .int (nI (th3 (pt q g 0) (pt q g 1) (pt q g 2) 2))) ⟨hx, hb, hml, hown, hts⟩ (c_X7_three l D cI cZ (pt q g 0) (pt q g 1) (pt q g 2) 2 (by decide)) (va_cwS 4 hts gX7_findFrame_X7_three rfl rfl rfl hdS_X7_three ⟨Nat.le_of_ble_eq_true rfl, Nat.le_of_ble_eq_true rfl⟩) hK hN hP [] rfl rfl hl.1 rfl (Nat.le_of_ble_eq_true rfl) ⟨Nat.zero_le _, Nat.zero_le _⟩ dX7_findFrame_361 ?_
                refine nv_top (v' := .int (nI (pt q g 2))) rfl ?_
                refine ctR_V (As := [.int (nI (k % q)), .int (nI (pt q g 2))]) (rest := [.int (nI 8), .ref (md 14)]) (r := .int (nI (fmul q (k % q) (pt q g 2)))) ⟨hx, hb, hml, hown, hts⟩ (c_X7_times l D cI cZ md q w su po xs ys zs hM (k % q) (pt q g 2) (by omega) (by omega)) (cwV 2 hts gX7_findFrame_X7_times rfl rfl rfl hdV_X7_times ⟨Nat.le_of_ble_eq_true rfl, Nat.le_of_ble_eq_true rfl⟩) hK hN hP [0, 1, 2, 3, 4, 5] rfl 0 7 rfl rfl rfl hl.1 rfl (Nat.le_of_ble_eq_true rfl) ⟨Nat.zero_le _, Nat.zero_le _⟩ dX7_findFrame_364 ?_
                have hh_24 : fmul q (k % q) (pt q g 2) < q := fmul_lt hM.1 (by omega) (by omega)
                refine nv_iast hx hb hK hP hD hS 6 0 rfl rfl (by omega) (by decide) dX7_findFrame_367 (fun H locs hP hD hS => ?_)
                have hP : va_P D vwCl [(md 0, .inr (7, [.int (nI q), .int (nI (nn q)), .ref (md 1), .ref (md 2), .ref (md 3), .ref (md 4), .ref (md 5), .ref (md 6), .ref (md 7), .ref (md 8), .ref (md 9), .ref (md 10), .ref (md 11), .ref (md 12), .ref (md 13), .ref (md 14), .ref (md 15), .ref (md 16), .int (nI w), .ref (md 17)])), (md 1, .inl (cI, 81, .inl (nF su))), (md 2, .inl (cI, 81, .inl (nF po))), (md 3, .inl (cI, 91, .inl (nF xs))), (md 4, .inl (cI, 91, .inl (nF ys))), (md 5, .inl (cI, 91, .inl (nF zs))), (md 14, .inl (cI, 9, .inl (nF (upN (upN (upN (upN (upN (upN (upN (upN (upN o1 0 (fmul q (k / (q * q)) (pt q a 0))) 1 (fmul q ((k / q) % q) (pt q b 0))) 2 (fmul q (k % q) (pt q g 0))) 3 (fmul q (k / (q * q)) (pt q a 1))) 4 (fmul q ((k / q) % q) (pt q b 1))) 5 (fmul q (k % q) (pt q g 1))) 6 (fmul q (k / (q * q)) (pt q a 2))) 7 (fmul q ((k / q) % q) (pt q b 2))) 8 (fmul q (k % q) (pt q g 2))))))] H := hP
                have hD : va_D A [(md 0, .inr (7, [.int (nI q), .int (nI (nn q)), .ref (md 1), .ref (md 2), .ref (md 3), .ref (md 4), .ref (md 5), .ref (md 6), .ref (md 7), .ref (md 8), .ref (md 9), .ref (md 10), .ref (md 11), .ref (md 12), .ref (md 13), .ref (md 14), .ref (md 15), .ref (md 16), .int (nI w), .ref (md 17)])), (md 1, .inl (cI, 81, .inl (nF su))), (md 2, .inl (cI, 81, .inl (nF po))), (md 3, .inl (cI, 91, .inl (nF xs))), (md 4, .inl (cI, 91, .inl (nF ys))), (md 5, .inl (cI, 91, .inl (nF zs))), (md 14, .inl (cI, 9, .inl (nF (upN (upN (upN (upN (upN (upN (upN (upN (upN o1 0 (fmul q (k / (q * q)) (pt q a 0))) 1 (fmul q ((k / q) % q) (pt q b 0))) 2 (fmul q (k % q) (pt q g 0))) 3 (fmul q (k / (q * q)) (pt q a 1))) 4 (fmul q ((k / q) % q) (pt q b 1))) 5 (fmul q (k % q) (pt q g 1))) 6 (fmul q (k / (q * q)) (pt q a 2))) 7 (fmul q ((k / q) % q) (pt q b 2))) 8 (fmul q (k % q) (pt q g 2))))))] := hD
                refine lv_iinc (v := nI 3) (lv' := [(10, .int (nI 3)), (5, .int (nI 1)), (9, .int (nI (k % q))), (8, .int (nI ((k / q) % q))), (7, .int (nI (k / (q * q)))), (0, .ref (md 0)), (1, .int (nI a)), (2, .int (nI b)), (3, .int (nI g)), (4, .int (nI d)), (6, .int (nI k))]) hx hb dX7_findFrame_368 hl (k := 0) rfl (nI_inc 2) (by decide) rfl (fun ls hl => ?_)
                refine lv_goto (tgt := 244) hx hb dX7_findFrame_371 (by decide) ?_
                refine lv_iload hx hb dX7_findFrame_244 (lv_at hl 0 rfl) ?_
                refine lv_iconst (v := nI 3) hx hb dX7_findFrame_246 (by decide) ?_
                refine nv_icmp_ge (tgt := 374) hx hb (by decide) (by decide) dX7_findFrame_247 (by decide) (fun c247 => ?_) (fun c247 => absurd c247 (by omega))
                refine lv_iinc (v := nI (k + 1)) (lv' := [(6, .int (nI (k + 1))), (10, .int (nI 3)), (5, .int (nI 1)), (9, .int (nI (k % q))), (8, .int (nI ((k / q) % q))), (7, .int (nI (k / (q * q)))), (0, .ref (md 0)), (1, .int (nI a)), (2, .int (nI b)), (3, .int (nI g)), (4, .int (nI d))]) hx hb dX7_findFrame_374 hl (k := 10) rfl (nI_inc k) (by decide) rfl (fun ls hl => ?_)
                refine lv_goto (tgt := 6) hx hb dX7_findFrame_377 (by decide) ?_
                exact ih6 true (k + 1) (upN (upN (upN (upN (upN (upN (upN (upN (upN o1 0 (fmul q (k / (q * q)) (pt q a 0))) 1 (fmul q ((k / q) % q) (pt q b 0))) 2 (fmul q (k % q) (pt q g 0))) 3 (fmul q (k / (q * q)) (pt q a 1))) 4 (fmul q ((k / q) % q) (pt q b 1))) 5 (fmul q (k % q) (pt q g 1))) 6 (fmul q (k / (q * q)) (pt q a 2))) 7 (fmul q ((k / q) % q) (pt q b 2))) 8 (fmul q (k % q) (pt q g 2))) ls _ _ (by omega) (by omega) (fun h => by cases h) (fun _ => ⟨_, _, _, d1, d2, d3, sol_yes c118 c172 c226, all9 rfl rfl rfl rfl rfl rfl rfl rfl rfl⟩) (lv_sub hl [6, 7, 8, 9, 10, 2, 0] rfl) hP hD hS
  exact L6 (q * q * q - 0 + 1) false 0 ot ls _ _ (by omega) (Nat.zero_le _) (fun _ j h => absurd h (Nat.not_lt_zero j)) (fun h => by cases h) (lv_sub hl [2, 3, 4, 5, 6, 1, 0] rfl) hP hD hS

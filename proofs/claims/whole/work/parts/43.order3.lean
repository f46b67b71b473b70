theorem per_eq {q m N : Nat} {mm : Nat → Nat} (h4 : ∀ k, 0 < k → k < N → ¬ FXq q mm k) (h0 : 0 < m) (hu : m ≤ N) (h : FXq q mm m) : N = m := by
  rcases Nat.lt_or_ge m N with z | z
  · exact absurd h (h4 m h0 z)
  · omega
set_option maxHeartbeats 4000000 in
set_option maxRecDepth 100000 in
theorem c_X6_order (l : Launch) (D : va_G) (cI cZ : ClassId) (ad : Nat → Nat) (q : Nat) (sm : Nat → Nat) (pr : Nat → Nat) (op : Nat → Nat) (iv : Nat → Nat) (hF : FOK q sm pr op iv) (tr : Nat → Nat) (ro : Nat → Nat) (hT : TOK q tr) (mm : Nat → Nat) (me : Nat → Nat) (rc : Nat → Bool) (k_m : MPK q mm) : CtR l yX6_order wsX6_order { frames := 4, cells := 0, slots := 0, locals := 94 } D (tyG cI cZ) [.ref (ad 26)] [(ad 0, .inr (1, [.int (nI q), .ref (ad 1), .ref (ad 2), .ref (ad 3), .ref (ad 4)])), (ad 1, .inl (cI, 81, .inl (nF sm))), (ad 2, .inl (cI, 81, .inl (nF pr))), (ad 3, .inl (cI, 9, .inl (nF op))), (ad 4, .inl (cI, 9, .inl (nF iv))), (ad 5, .inr (3, [.ref (ad 0), .int (nI (nn q)), .ref (ad 6), .ref (ad 7)])), (ad 6, .inl (cI, 273, .inl (nF tr))), (ad 7, .inl (cI, 910, .inl (nF ro))), (ad 16, .inr (2, [.ref (ad 5), .ref (ad 0), .ref (ad 17), .ref (ad 18), .ref (ad 19)])), (ad 17, .inl (cI, 9, .inl (nF mm))), (ad 18, .inl (cI, 9, .inl (nF me))), (ad 19, .inl (cZ, 91, .inl (bF rc))), (ad 26, .inr (6, [.ref (ad 0), .ref (ad 5), .ref (ad 8), .ref (ad 12), .ref (ad 16), .ref (ad 20), .ref (ad 24)]))] (.int (ordZ q mm)) := by
  refine Met.ofW (cc := cX6_order) (maxL := 1) (ret := some .int) (by decide) rfl ?_
  intro p e s m args below meth c s₁ B hml hv
  obtain ⟨rfl, hP, hK, hN⟩ := hv
  have hx := B.exec
  have hb := B.bytes
  have hr := B.returns
  have hts := atoms_spec (ws := wsX6_order) B.pre
  have hown : s.vm.findClass RX6 = some m.cls := findClass_of_methodNamed B.named
  have hlocks := B.notSynchronized
  have hf44 := hts (.fieldLink RX6 44 "FinitePlanes" "map" "LFinitePlanes$Mapping;") (by decide +kernel)
  have hiX6 : ∀ w ∈ u_ws RX6 TX6 7, w ∈ wsX6_order := by decide +kernel
  have hl := lv_entry ([.ref (ad 26)]) (n := 1) (Nat.le_of_ble_eq_true rfl)
  rw [lg_entry_eq]
  generalize (lg_sl ([.ref (ad 26)]) ++ List.replicate (1 - (lg_sl ([.ref (ad 26)])).length) Slot.unset).toArray = ls at hl ⊢
  have hl : lv_has ls 1 [(0, .ref (ad 26))] := hl
  have hq2 := qs_le hF.1
  have hn2 := nn_le hF.1
  refine lv_aload_n hx hb dX6_order_0 rfl (lv_at hl 0 rfl) ?_
  refine va_get (D := D) (ci := 6) (v := .ref (ad 16)) (C := RX6) (T := TX6) (N := 7) hx hb hts hiX6 hown hK hP 12 rfl rfl 4 (by decide) hf44 (fun _ h9 => h9) rfl dX6_order_1 ?_
  refine ctR_V (As := []) (rest := []) (r := .int (nI (detq q mm))) ⟨hx, hb, hml, hown, hts⟩ (c_X2_det l D cI cZ ad q sm pr op iv hF tr ro hT (fun k => ad (16 + k)) mm me rc k_m) (cwV 0 hts gX6_order_X2_det rfl rfl rfl hdV_X2_det ⟨Nat.le_of_ble_eq_true rfl, Nat.le_of_ble_eq_true rfl⟩) hK hN hP [0, 1, 2, 3, 4, 5, 6, 7, 8, 9, 10, 11] rfl 8 2 rfl rfl rfl hl.1 rfl (Nat.le_of_ble_eq_true rfl) ⟨Nat.zero_le _, Nat.zero_le _⟩ dX6_order_4 ?_
  have hh_1 : detq q mm < q := detq_lt hF.1 k_m
  refine nv_if_ne (tgt := 15) hx hb (by omega) dX6_order_7 (by decide) (fun c7 => ?_) (fun c7 => ?_)
  · have hO := ord_spec hF.1 k_m c7
    have hN1 := hO.1
    have hN2 := hO.2.1
    refine lv_aload_n hx hb dX6_order_15 rfl (lv_at hl 0 rfl) ?_
    refine va_get (D := D) (ci := 6) (v := .ref (ad 16)) (C := RX6) (T := TX6) (N := 7) hx hb hts hiX6 hown hK hP 12 rfl rfl 4 (by decide) hf44 (fun _ h9 => h9) rfl dX6_order_16 ?_
    refine ctR_V (As := []) (rest := []) (r := .int (nI (ordq q mm))) ⟨hx, hb, hml, hown, hts⟩ (c_X2_period l D cI cZ ad q sm pr op iv hF tr ro hT (fun k => ad (16 + k)) mm me rc k_m (ordq q mm) (by omega) (by omega) hO.2.2.1 hO.2.2.2 (img_im hF.1 k_m c7)) (cwV 0 hts gX6_order_X2_period rfl rfl rfl hdV_X2_period ⟨Nat.le_of_ble_eq_true rfl, Nat.le_of_ble_eq_true rfl⟩) hK hN hP [0, 1, 2, 3, 4, 5, 6, 7, 8, 9, 10, 11] rfl 8 2 rfl rfl rfl hl.1 rfl (Nat.le_of_ble_eq_true rfl) ⟨Nat.zero_le _, Nat.zero_le _⟩ dX6_order_19 ?_
    exact ctR_ret (v := (nI (ordq q mm))) hx hb hr rfl dX6_order_22 hlocks (by rw [ordZ, if_neg c7])
  · refine lv_bipush (v := (-3)) hx hb dX6_order_10 (by decide) ?_
    refine lv_goto (tgt := 22) hx hb dX6_order_12 (by decide) ?_
    exact ctR_ret (v := (-3)) hx hb hr rfl dX6_order_22 hlocks (by rw [ordZ, if_pos c7])

set_option maxHeartbeats 4000000 in
set_option maxRecDepth 100000 in
theorem c_X7_order (l : Launch) (D : va_G) (cI cZ : ClassId) (md : Nat → Nat) (q : Nat) (w : Nat) (su : Nat → Nat) (po : Nat → Nat) (xs : Nat → Nat) (ys : Nat → Nat) (zs : Nat → Nat) (hM : MOK q su po xs ys zs) (mp : Nat → Nat) (k_m : MPK q mp) (go : Nat → Nat) (nw : Nat → Nat) : CtW (S := (Nat → Nat) × (Nat → Nat)) l yX7_order wsX7_order { frames := 4, cells := 0, slots := 0, locals := 97 } D (tyG cI cZ) [.ref (md 0)] [(md 0, .inr (7, [.int (nI q), .int (nI (nn q)), .ref (md 1), .ref (md 2), .ref (md 3), .ref (md 4), .ref (md 5), .ref (md 6), .ref (md 7), .ref (md 8), .ref (md 9), .ref (md 10), .ref (md 11), .ref (md 12), .ref (md 13), .ref (md 14), .ref (md 15), .ref (md 16), .int (nI w), .ref (md 17)])), (md 1, .inl (cI, 81, .inl (nF su))), (md 2, .inl (cI, 81, .inl (nF po))), (md 3, .inl (cI, 91, .inl (nF xs))), (md 4, .inl (cI, 91, .inl (nF ys))), (md 5, .inl (cI, 91, .inl (nF zs))), (md 7, .inl (cI, 9, .inl (nF mp))), (md 12, .inl (cI, 91, .inl (nF go))), (md 13, .inl (cI, 91, .inl (nF nw)))] (fun u => (fun (go3 : Nat → Nat) (nw3 : Nat → Nat) => True) u.1 u.2) (fun u => (fun (go3 : Nat → Nat) (nw3 : Nat → Nat) => some (.int (ordZ q mp))) u.1 u.2) (fun u => (fun (go3 : Nat → Nat) (nw3 : Nat → Nat) => [(md 0, .inr (7, [.int (nI q), .int (nI (nn q)), .ref (md 1), .ref (md 2), .ref (md 3), .ref (md 4), .ref (md 5), .ref (md 6), .ref (md 7), .ref (md 8), .ref (md 9), .ref (md 10), .ref (md 11), .ref (md 12), .ref (md 13), .ref (md 14), .ref (md 15), .ref (md 16), .int (nI w), .ref (md 17)])), (md 1, .inl (cI, 81, .inl (nF su))), (md 2, .inl (cI, 81, .inl (nF po))), (md 3, .inl (cI, 91, .inl (nF xs))), (md 4, .inl (cI, 91, .inl (nF ys))), (md 5, .inl (cI, 91, .inl (nF zs))), (md 7, .inl (cI, 9, .inl (nF mp))), (md 12, .inl (cI, 91, .inl (nF go3))), (md 13, .inl (cI, 91, .inl (nF nw3)))]) u.1 u.2) := by
  intro sz; refine Met.ofW (cc := cX7_order) (maxL := 4) (ret := some .int) (by decide) rfl ?_
  intro p e s m args below meth c s₁ B hml hv
  obtain ⟨rfl, hsz, hP, hK, hD0, hN⟩ := hv
  have hx := B.exec
  have hb := B.bytes
  have hr := B.returns
  have hts := atoms_spec (ws := wsX7_order) B.pre
  have hown : s.vm.findClass RX7 = some m.cls := findClass_of_methodNamed B.named
  have hlocks := B.notSynchronized
  subst hsz
  have hD := hD0.self (sz := s.heap.size)
  generalize hAe : va_A [(md 0, .inr (7, [.int (nI q), .int (nI (nn q)), .ref (md 1), .ref (md 2), .ref (md 3), .ref (md 4), .ref (md 5), .ref (md 6), .ref (md 7), .ref (md 8), .ref (md 9), .ref (md 10), .ref (md 11), .ref (md 12), .ref (md 13), .ref (md 14), .ref (md 15), .ref (md 16), .int (nI w), .ref (md 17)])), (md 1, .inl (cI, 81, .inl (nF su))), (md 2, .inl (cI, 81, .inl (nF po))), (md 3, .inl (cI, 91, .inl (nF xs))), (md 4, .inl (cI, 91, .inl (nF ys))), (md 5, .inl (cI, 91, .inl (nF zs))), (md 7, .inl (cI, 9, .inl (nF mp))), (md 12, .inl (cI, 91, .inl (nF go))), (md 13, .inl (cI, 91, .inl (nF nw)))] s.heap.size = A at hD ⊢
  have hA : ∀ q : Nat, s.heap.size ≤ q → A q := fun q h => by rw [← hAe]; exact Or.inr h
  have hS : va_S A s.heap s.heap [] := va_S.rf
  have hP : va_P D vwCl [(md 0, .inr (7, [.int (nI q), .int (nI (nn q)), .ref (md 1), .ref (md 2), .ref (md 3), .ref (md 4), .ref (md 5), .ref (md 6), .ref (md 7), .ref (md 8), .ref (md 9), .ref (md 10), .ref (md 11), .ref (md 12), .ref (md 13), .ref (md 14), .ref (md 15), .ref (md 16), .int (nI w), .ref (md 17)])), (md 1, .inl (cI, 81, .inl (nF su))), (md 2, .inl (cI, 81, .inl (nF po))), (md 3, .inl (cI, 91, .inl (nF xs))), (md 4, .inl (cI, 91, .inl (nF ys))), (md 5, .inl (cI, 91, .inl (nF zs))), (md 7, .inl (cI, 9, .inl (nF mp))), (md 12, .inl (cI, 91, .inl (nF go))), (md 13, .inl (cI, 91, .inl (nF nw)))] s.heap := hP
  have hf44 := hts (.fieldLink RX7 44 "FinitePlanesModel" "goes" "[I") (by decide +kernel)
  have hf47 := hts (.fieldLink RX7 47 "FinitePlanesModel" "now" "[I") (by decide +kernel)
  have hf83 := hts (.fieldLink RX7 83 "FinitePlanesModel" "n" "I") (by decide +kernel)
  have hiX7 : ∀ w ∈ u_ws RX7 TX7 20, w ∈ wsX7_order := by decide +kernel
  have hl := lv_entry ([.ref (md 0)]) (n := 4) (Nat.le_of_ble_eq_true rfl)
  rw [lg_entry_eq]
  generalize (lg_sl ([.ref (md 0)]) ++ List.replicate (4 - (lg_sl ([.ref (md 0)])).length) Slot.unset).toArray = ls at hl ⊢
  have hl : lv_has ls 4 [(0, .ref (md 0))] := hl
  have hq2 := qs_le hM.1
  have hn2 := nn_le hM.1
  refine lv_aload_n hx hb dX7_order_0 rfl (lv_at hl 0 rfl) ?_
  refine ctR_V (As := []) (rest := []) (r := .int (nI (detq q mp))) ⟨hx, hb, hml, hown, hts⟩ (c_X7_determinant l D cI cZ md q w su po xs ys zs hM mp k_m) (cwV 0 hts gX7_order_X7_determinant rfl rfl rfl hdV_X7_determinant ⟨Nat.le_of_ble_eq_true rfl, Nat.le_of_ble_eq_true rfl⟩) hK hN hP [0, 1, 2, 3, 4, 5, 6] rfl 0 7 rfl rfl rfl hl.1 rfl (Nat.le_of_ble_eq_true rfl) ⟨Nat.zero_le _, Nat.zero_le _⟩ dX7_order_1 ?_
  have hh_1 : detq q mp < q := detq_lt hM.1 k_m
  refine nv_if_ne (tgt := 10) hx hb (by omega) dX7_order_4 (by decide) (fun c4 => ?_) (fun c4 => ?_)
  · have hO := ord_spec hM.1 k_m c4
    have hN1 := hO.1
    have hN2 := hO.2.1
    have him := img_im hM.1 k_m c4
    refine lv_iconst (v := nI 0) hx hb dX7_order_10 (by decide) ?_
    refine lv_istore_n (lv' := [(1, .int (nI 0)), (0, .ref (md 0))]) hx hb dX7_order_11 rfl hl (by decide) rfl (fun ls hl => ?_)
    have L12 : ∀ (N12 : Nat) (i : Nat) (go1 : Nat → Nat) (nw0 : Nat → Nat) (ls : Array Slot) (H : Heap) (locs : List Loc), nn q - i < N12 → (i ≤ nn q) → (∀ t, t < i → go1 t = imq q mp t) → (∀ t, t < i → nw0 t = imq q mp t) → lv_has ls 4 [(0, .ref (md 0)), (1, .int (nI i))] → va_P D vwCl [(md 0, .inr (7, [.int (nI q), .int (nI (nn q)), .ref (md 1), .ref (md 2), .ref (md 3), .ref (md 4), .ref (md 5), .ref (md 6), .ref (md 7), .ref (md 8), .ref (md 9), .ref (md 10), .ref (md 11), .ref (md 12), .ref (md 13), .ref (md 14), .ref (md 15), .ref (md 16), .int (nI w), .ref (md 17)])), (md 1, .inl (cI, 81, .inl (nF su))), (md 2, .inl (cI, 81, .inl (nF po))), (md 3, .inl (cI, 91, .inl (nF xs))), (md 4, .inl (cI, 91, .inl (nF ys))), (md 5, .inl (cI, 91, .inl (nF zs))), (md 7, .inl (cI, 9, .inl (nF mp))), (md 12, .inl (cI, 91, .inl (nF go1))), (md 13, .inl (cI, 91, .inl (nF nw0)))] H → va_D A [(md 0, .inr (7, [.int (nI q), .int (nI (nn q)), .ref (md 1), .ref (md 2), .ref (md 3), .ref (md 4), .ref (md 5), .ref (md 6), .ref (md 7), .ref (md 8), .ref (md 9), .ref (md 10), .ref (md 11), .ref (md 12), .ref (md 13), .ref (md 14), .ref (md 15), .ref (md 16), .int (nI w), .ref (md 17)])), (md 1, .inl (cI, 81, .inl (nF su))), (md 2, .inl (cI, 81, .inl (nF po))), (md 3, .inl (cI, 91, .inl (nF xs))), (md 4, .inl (cI, 91, .inl (nF ys))), (md 5, .inl (cI, 91, .inl (nF zs))), (md 7, .inl (cI, 9, .inl (nF mp))), (md 12, .inl (cI, 91, .inl (nF go1))), (md 13, .inl (cI, 91, .inl (nF nw0)))] → va_S A s.heap H locs → WG p l e wsX7_order { frames := 4, cells := 0, slots := 0, locals := 97 } s m [.ref (md 0)] below meth c H locs (CQ (S := (Nat → Nat) × (Nat → Nat)) D (fun u => (fun (go3 : Nat → Nat) (nw3 : Nat → Nat) => True) u.1 u.2) (fun u => (fun (go3 : Nat → Nat) (nw3 : Nat → Nat) => some (.int (ordZ q mp))) u.1 u.2) (fun u => (fun (go3 : Nat → Nat) (nw3 : Nat → Nat) => [(md 0, .inr (7, [.int (nI q), .int (nI (nn q)), .ref (md 1), .ref (md 2), .ref (md 3), .ref (md 4), .ref (md 5), .ref (md 6), .ref (md 7), .ref (md 8), .ref (md 9), .ref (md 10), .ref (md 11), .ref (md 12), .ref (md 13), .ref (md 14), .ref (md 15), .ref (md 16), .int (nI w), .ref (md 17)])), (md 1, .inl (cI, 81, .inl (nF su))), (md 2, .inl (cI, 81, .inl (nF po))), (md 3, .inl (cI, 91, .inl (nF xs))), (md 4, .inl (cI, 91, .inl (nF ys))), (md 5, .inl (cI, 91, .inl (nF zs))), (md 7, .inl (cI, 9, .inl (nF mp))), (md 12, .inl (cI, 91, .inl (nF go3))), (md 13, .inl (cI, 91, .inl (nF nw3)))]) u.1 u.2) A) A 12 ls [] := by
      intro N12
      induction N12 with
      | zero => intro i go1 nw0 ls H locs hN; exact absurd hN (Nat.not_lt_zero _)
      | succ N12 ih12 =>
        intro i go1 nw0 ls H locs hN12 k_i k_g k_n hl hP hD hS
        refine lv_iload_n hx hb dX7_order_12 rfl (lv_at hl 1 rfl) ?_
        refine lv_aload_n hx hb dX7_order_13 rfl (lv_at hl 0 rfl) ?_
        refine va_get (D := D) (ci := 7) (v := .int (nI (nn q))) (C := RX7) (T := TX7) (N := 20) hx hb hts hiX7 hown hK hP 0 rfl rfl 1 (by decide) hf83 (fun _ h9 => h9) rfl dX7_order_14 ?_
        refine nv_icmp_ge (tgt := 49) hx hb (by omega) (by omega) dX7_order_17 (by decide) (fun c17 => ?_) (fun c17 => ?_)
        · refine lv_iconst (v := nI 1) hx hb dX7_order_49 (by decide) ?_
          refine lv_istore_n (lv' := [(1, .int (nI 1)), (0, .ref (md 0))]) hx hb dX7_order_50 rfl hl (by decide) rfl (fun ls hl => ?_)
          refine lv_iconst (v := nI 0) hx hb dX7_order_51 (by decide) ?_
          refine lv_istore_n (lv' := [(2, .int (nI 0)), (1, .int (nI 1)), (0, .ref (md 0))]) hx hb dX7_order_52 rfl hl (by decide) rfl (fun ls hl => ?_)
          have L53 : ∀ (N53 : Nat) (mo : Nat) (y : Bool) (nw1 : Nat → Nat) (ls : Array Slot) (H : Heap) (locs : List Loc), 2 * (ordq q mp - mo) + (!y).toNat < N53 → (0 < mo) → (mo ≤ ordq q mp) → (∀ t, t < nn q → nw1 t = itI q mp mo t) → (y = true → FXq q mp mo) → lv_has ls 4 [(0, .ref (md 0)), (1, .int (nI mo)), (2, .int (nI (y).toNat))] → va_P D vwCl [(md 0, .inr (7, [.int (nI q), .int (nI (nn q)), .ref (md 1), .ref (md 2), .ref (md 3), .ref (md 4), .ref (md 5), .ref (md 6), .ref (md 7), .ref (md 8), .ref (md 9), .ref (md 10), .ref (md 11), .ref (md 12), .ref (md 13), .ref (md 14), .ref (md 15), .ref (md 16), .int (nI w), .ref (md 17)])), (md 1, .inl (cI, 81, .inl (nF su))), (md 2, .inl (cI, 81, .inl (nF po))), (md 3, .inl (cI, 91, .inl (nF xs))), (md 4, .inl (cI, 91, .inl (nF ys))), (md 5, .inl (cI, 91, .inl (nF zs))), (md 7, .inl (cI, 9, .inl (nF mp))), (md 12, .inl (cI, 91, .inl (nF go1))), (md 13, .inl (cI, 91, .inl (nF nw1)))] H → va_D A [(md 0, .inr (7, [.int (nI q), .int (nI (nn q)), .ref (md 1), .ref (md 2), .ref (md 3), .ref (md 4), .ref (md 5), .ref (md 6), .ref (md 7), .ref (md 8), .ref (md 9), .ref (md 10), .ref (md 11), .ref (md 12), .ref (md 13), .ref (md 14), .ref (md 15), .ref (md 16), .int (nI w), .ref (md 17)])), (md 1, .inl (cI, 81, .inl (nF su))), (md 2, .inl (cI, 81, .inl (nF po))), (md 3, .inl (cI, 91, .inl (nF xs))), (md 4, .inl (cI, 91, .inl (nF ys))), (md 5, .inl (cI, 91, .inl (nF zs))), (md 7, .inl (cI, 9, .inl (nF mp))), (md 12, .inl (cI, 91, .inl (nF go1))), (md 13, .inl (cI, 91, .inl (nF nw1)))] → va_S A s.heap H locs → WG p l e wsX7_order { frames := 4, cells := 0, slots := 0, locals := 97 } s m [.ref (md 0)] below meth c H locs (CQ (S := (Nat → Nat) × (Nat → Nat)) D (fun u => (fun (go3 : Nat → Nat) (nw3 : Nat → Nat) => True) u.1 u.2) (fun u => (fun (go3 : Nat → Nat) (nw3 : Nat → Nat) => some (.int (ordZ q mp))) u.1 u.2) (fun u => (fun (go3 : Nat → Nat) (nw3 : Nat → Nat) => [(md 0, .inr (7, [.int (nI q), .int (nI (nn q)), .ref (md 1), .ref (md 2), .ref (md 3), .ref (md 4), .ref (md 5), .ref (md 6), .ref (md 7), .ref (md 8), .ref (md 9), .ref (md 10), .ref (md 11), .ref (md 12), .ref (md 13), .ref (md 14), .ref (md 15), .ref (md 16), .int (nI w), .ref (md 17)])), (md 1, .inl (cI, 81, .inl (nF su))), (md 2, .inl (cI, 81, .inl (nF po))), (md 3, .inl (cI, 91, .inl (nF xs))), (md 4, .inl (cI, 91, .inl (nF ys))), (md 5, .inl (cI, 91, .inl (nF zs))), (md 7, .inl (cI, 9, .inl (nF mp))), (md 12, .inl (cI, 91, .inl (nF go3))), (md 13, .inl (cI, 91, .inl (nF nw3)))]) u.1 u.2) A) A 53 ls [] := by
            intro N53
            induction N53 with
            | zero => intro mo y nw1 ls H locs hN; exact absurd hN (Nat.not_lt_zero _)
            | succ N53 ih53 =>
              intro mo y nw1 ls H locs hN53 k_1 k_2 k_w k_y hl hP hD hS
              refine lv_iload_n hx hb dX7_order_53 rfl (lv_at hl 2 rfl) ?_
              refine nv_ifb_ne (tgt := 138) hx hb dX7_order_54 (by decide) (fun c54 => ?_) (fun c54 => ?_)
              · refine lv_iload_n hx hb dX7_order_138 rfl (lv_at hl 1 rfl) ?_
                exact ctW_retI (v := (nI mo)) (go1, nw1) hx hb hr rfl dX7_order_139 hlocks hS hP hD trivial (by rw [ordZ, if_neg c4, per_eq hO.2.2.2 k_1 k_2 (k_y c54)])
              · refine lv_iconst (v := nI 1) hx hb dX7_order_57 (by decide) ?_
                refine lv_istore_n (lv' := [(2, .int (nI 1)), (0, .ref (md 0)), (1, .int (nI mo))]) hx hb dX7_order_58 rfl hl (by decide) rfl (fun ls hl => ?_)
                refine lv_iconst (v := nI 0) hx hb dX7_order_59 (by decide) ?_
                refine lv_istore_n (lv' := [(3, .int (nI 0)), (2, .int (nI 1)), (0, .ref (md 0)), (1, .int (nI mo))]) hx hb dX7_order_60 rfl hl (by decide) rfl (fun ls hl => ?_)
                have L61 : ∀ (N61 : Nat) (y2 : Bool) (j : Nat) (ls : Array Slot) (H : Heap) (locs : List Loc), nn q - j < N61 → (j ≤ nn q) → (y2 = allB (fun t => decide (nw1 t = t)) j) → lv_has ls 4 [(0, .ref (md 0)), (1, .int (nI mo)), (2, .int (nI (y2).toNat)), (3, .int (nI j))] → va_P D vwCl [(md 0, .inr (7, [.int (nI q), .int (nI (nn q)), .ref (md 1), .ref (md 2), .ref (md 3), .ref (md 4), .ref (md 5), .ref (md 6), .ref (md 7), .ref (md 8), .ref (md 9), .ref (md 10), .ref (md 11), .ref (md 12), .ref (md 13), .ref (md 14), .ref (md 15), .ref (md 16), .int (nI w), .ref (md 17)])), (md 1, .inl (cI, 81, .inl (nF su))), (md 2, .inl (cI, 81, .inl (nF po))), (md 3, .inl (cI, 91, .inl (nF xs))), (md 4, .inl (cI, 91, .inl (nF ys))), (md 5, .inl (cI, 91, .inl (nF zs))), (md 7, .inl (cI, 9, .inl (nF mp))), (md 12, .inl (cI, 91, .inl (nF go1))), (md 13, .inl (cI, 91, .inl (nF nw1)))] H → va_D A [(md 0, .inr (7, [.int (nI q), .int (nI (nn q)), .ref (md 1), .ref (md 2), .ref (md 3), .ref (md 4), .ref (md 5), .ref (md 6), .ref (md 7), .ref (md 8), .ref (md 9), .ref (md 10), .ref (md 11), .ref (md 12), .ref (md 13), .ref (md 14), .ref (md 15), .ref (md 16), .int (nI w), .ref (md 17)])), (md 1, .inl (cI, 81, .inl (nF su))), (md 2, .inl (cI, 81, .inl (nF po))), (md 3, .inl (cI, 91, .inl (nF xs))), (md 4, .inl (cI, 91, .inl (nF ys))), (md 5, .inl (cI, 91, .inl (nF zs))), (md 7, .inl (cI, 9, .inl (nF mp))), (md 12, .inl (cI, 91, .inl (nF go1))), (md 13, .inl (cI, 91, .inl (nF nw1)))] → va_S A s.heap H locs → WG p l e wsX7_order { frames := 4, cells := 0, slots := 0, locals := 97 } s m [.ref (md 0)] below meth c H locs (CQ (S := (Nat → Nat) × (Nat → Nat)) D (fun u => (fun (go3 : Nat → Nat) (nw3 : Nat → Nat) => True) u.1 u.2) (fun u => (fun (go3 : Nat → Nat) (nw3 : Nat → Nat) => some (.int (ordZ q mp))) u.1 u.2) (fun u => (fun (go3 : Nat → Nat) (nw3 : Nat → Nat) => [(md 0, .inr (7, [.int (nI q), .int (nI (nn q)), .ref (md 1), .ref (md 2), .ref (md 3), .ref (md 4), .ref (md 5), .ref (md 6), .ref (md 7), .ref (md 8), .ref (md 9), .ref (md 10), .ref (md 11), .ref (md 12), .ref (md 13), .ref (md 14), .ref (md 15), .ref (md 16), .int (nI w), .ref (md 17)])), (md 1, .inl (cI, 81, .inl (nF su))), (md 2, .inl (cI, 81, .inl (nF po))), (md 3, .inl (cI, 91, .inl (nF xs))), (md 4, .inl (cI, 91, .inl (nF ys))), (md 5, .inl (cI, 91, .inl (nF zs))), (md 7, .inl (cI, 9, .inl (nF mp))), (md 12, .inl (cI, 91, .inl (nF go3))), (md 13, .inl (cI, 91, .inl (nF nw3)))]) u.1 u.2) A) A 61 ls [] := by
                  intro N61
                  induction N61 with
                  | zero => intro y2 j ls H locs hN; exact absurd hN (Nat.not_lt_zero _)
                  | succ N61 ih61 =>
                    intro y2 j ls H locs hN61 k_j k_a hl hP hD hS
                    refine lv_iload_n hx hb dX7_order_61 rfl (lv_at hl 3 rfl) ?_
                    refine lv_aload_n hx hb dX7_order_62 rfl (lv_at hl 0 rfl) ?_
                    refine va_get (D := D) (ci := 7) (v := .int (nI (nn q))) (C := RX7) (T := TX7) (N := 20) hx hb hts hiX7 hown hK hP 0 rfl rfl 1 (by decide) hf83 (fun _ h9 => h9) rfl dX7_order_63 ?_
                    refine nv_icmp_ge (tgt := 95) hx hb (by omega) (by omega) dX7_order_66 (by decide) (fun c66 => ?_) (fun c66 => ?_)
                    · have hj9 : j = nn q := by omega
                      refine lv_iload_n hx hb dX7_order_95 rfl (lv_at hl 2 rfl) ?_
                      refine nv_ifb_ne (tgt := 53) hx hb dX7_order_96 (by decide) (fun c96 => ?_) (fun c96 => ?_)
                      · have hfx : FXq q mp mo := all_fx hM.1 (fun t ht => by
                          rw [← k_w t ht]
                          exact of_decide_eq_true (allB_iff.mp (show allB (fun t => decide (nw1 t = t)) (nn q) = true by rw [← hj9, ← k_a, c96]) t ht))
                        exact ih53 mo y2 nw1 ls _ _ (by rw [c96]; exact ms_t (by rw [c54] at hN53; exact hN53)) (by omega) (by omega) k_w (fun _ => hfx) (lv_sub hl [0, 1, 2] rfl) hP hD hS
                      · have hnf : ¬ FXq q mp mo := fun z => by
                          have h8 := allB_iff.mpr (show ∀ t, t < nn q → decide (nw1 t = t) = true from fun t ht => decide_eq_true ((k_w t ht).trans (fx_all hM.1 k_m c4 z t ht)))
                          rw [← hj9, ← k_a, c96] at h8; cases h8
                        have hm9 : mo + 1 ≤ ordq q mp := by
                          have : ¬ mo = ordq q mp := fun z => hnf (by rw [z]; exact hO.2.2.1)
                          omega
                        refine lv_iinc (v := nI (mo + 1)) (lv' := [(1, .int (nI (mo + 1))), (0, .ref (md 0)), (2, .int (nI (y2).toNat)), (3, .int (nI j))]) hx hb dX7_order_99 hl (k := 1) rfl (nI_inc mo) (by decide) rfl (fun ls hl => ?_)
                        refine lv_iconst (v := nI 0) hx hb dX7_order_102 (by decide) ?_
                        refine lv_istore_n (lv' := [(3, .int (nI 0)), (1, .int (nI (mo + 1))), (0, .ref (md 0)), (2, .int (nI (y2).toNat))]) hx hb dX7_order_103 rfl hl (by decide) rfl (fun ls hl => ?_)
                        have L104 : ∀ (N104 : Nat) (g : Nat) (nw2 : Nat → Nat) (ls : Array Slot) (H : Heap) (locs : List Loc), nn q - g < N104 → (g ≤ nn q) → (∀ t, t < g → nw2 t = itI q mp (mo + 1) t) → (∀ t, g ≤ t → nw2 t = nw1 t) → lv_has ls 4 [(0, .ref (md 0)), (1, .int (nI (mo + 1))), (2, .int (nI (y2).toNat)), (3, .int (nI g))] → va_P D vwCl [(md 0, .inr (7, [.int (nI q), .int (nI (nn q)), .ref (md 1), .ref (md 2), .ref (md 3), .ref (md 4), .ref (md 5), .ref (md 6), .ref (md 7), .ref (md 8), .ref (md 9), .ref (md 10), .ref (md 11), .ref (md 12), .ref (md 13), .ref (md 14), .ref (md 15), .ref (md 16), .int (nI w), .ref (md 17)])), (md 1, .inl (cI, 81, .inl (nF su))), (md 2, .inl (cI, 81, .inl (nF po))), (md 3, .inl (cI, 91, .inl (nF xs))), (md 4, .inl (cI, 91, .inl (nF ys))), (md 5, .inl (cI, 91, .inl (nF zs))), (md 7, .inl (cI, 9, .inl (nF mp))), (md 12, .inl (cI, 91, .inl (nF go1))), (md 13, .inl (cI, 91, .inl (nF nw2)))] H → va_D A [(md 0, .inr (7, [.int (nI q), .int (nI (nn q)), .ref (md 1), .ref (md 2), .ref (md 3), .ref (md 4), .ref (md 5), .ref (md 6), .ref (md 7), .ref (md 8), .ref (md 9), .ref (md 10), .ref (md 11), .ref (md 12), .ref (md 13), .ref (md 14), .ref (md 15), .ref (md 16), .int (nI w), .ref (md 17)])), (md 1, .inl (cI, 81, .inl (nF su))), (md 2, .inl (cI, 81, .inl (nF po))), (md 3, .inl (cI, 91, .inl (nF xs))), (md 4, .inl (cI, 91, .inl (nF ys))), (md 5, .inl (cI, 91, .inl (nF zs))), (md 7, .inl (cI, 9, .inl (nF mp))), (md 12, .inl (cI, 91, .inl (nF go1))), (md 13, .inl (cI, 91, .inl (nF nw2)))] → va_S A s.heap H locs → WG p l e wsX7_order { frames := 4, cells := 0, slots := 0, locals := 97 } s m [.ref (md 0)] below meth c H locs (CQ (S := (Nat → Nat) × (Nat → Nat)) D (fun u => (fun (go3 : Nat → Nat) (nw3 : Nat → Nat) => True) u.1 u.2) (fun u => (fun (go3 : Nat → Nat) (nw3 : Nat → Nat) => some (.int (ordZ q mp))) u.1 u.2) (fun u => (fun (go3 : Nat → Nat) (nw3 : Nat → Nat) => [(md 0, .inr (7, [.int (nI q), .int (nI (nn q)), .ref (md 1), .ref (md 2), .ref (md 3), .ref (md 4), .ref (md 5), .ref (md 6), .ref (md 7), .ref (md 8), .ref (md 9), .ref (md 10), .ref (md 11), .ref (md 12), .ref (md 13), .ref (md 14), .ref (md 15), .ref (md 16), .int (nI w), .ref (md 17)])), (md 1, .inl (cI, 81, .inl (nF su))), (md 2, .inl (cI, 81, .inl (nF po))), (md 3, .inl (cI, 91, .inl (nF xs))), (md 4, .inl (cI, 91, .inl (nF ys))), (md 5, .inl (cI, 91, .inl (nF zs))), (md 7, .inl (cI, 9, .inl (nF mp))), (md 12, .inl (cI, 91, .inl (nF go3))), (md 13, .inl (cI, 91, .inl (nF nw3)))]) u.1 u.2) A) A 104 ls [] := by
                          intro N104
                          induction N104 with
                          | zero => intro g nw2 ls H locs hN; exact absurd hN (Nat.not_lt_zero _)
                          | succ N104 ih104 =>
                            intro g nw2 ls H locs hN104 k_g2 k_p k_r hl hP hD hS
                            refine lv_iload_n hx hb dX7_order_104 rfl (lv_at hl 3 rfl) ?_
                            refine lv_aload_n hx hb dX7_order_105 rfl (lv_at hl 0 rfl) ?_
                            refine va_get (D := D) (ci := 7) (v := .int (nI (nn q))) (C := RX7) (T := TX7) (N := 20) hx hb hts hiX7 hown hK hP 0 rfl rfl 1 (by decide) hf83 (fun _ h9 => h9) rfl dX7_order_106 ?_
                            refine nv_icmp_ge (tgt := 135) hx hb (by omega) (by omega) dX7_order_109 (by decide) (fun c109 => ?_) (fun c109 => ?_)
                            · refine lv_goto (tgt := 53) hx hb dX7_order_135 (by decide) ?_
                              exact ih53 (mo + 1) y2 nw2 ls _ _ (by rw [c96]; exact ms_f (by rw [c54] at hN53; exact hN53) (by omega)) (Nat.succ_pos mo) hm9 (fun t ht => k_p t (by omega)) (fun h => by rw [c96] at h; cases h) (lv_sub hl [0, 1, 2] rfl) hP hD hS
                            · refine lv_aload_n hx hb dX7_order_112 rfl (lv_at hl 0 rfl) ?_
                              refine va_get (D := D) (ci := 7) (v := .ref (md 13)) (C := RX7) (T := TX7) (N := 20) hx hb hts hiX7 hown hK hP 0 rfl rfl 14 (by decide) hf47 (fun _ h9 => h9) rfl dX7_order_113 ?_
                              refine lv_iload_n hx hb dX7_order_116 rfl (lv_at hl 3 rfl) ?_
                              refine lv_aload_n hx hb dX7_order_117 rfl (lv_at hl 0 rfl) ?_
                              refine va_get (D := D) (ci := 7) (v := .ref (md 12)) (C := RX7) (T := TX7) (N := 20) hx hb hts hiX7 hown hK hP 0 rfl rfl 13 (by decide) hf44 (fun _ h9 => h9) rfl dX7_order_118 ?_
                              refine lv_aload_n hx hb dX7_order_121 rfl (lv_at hl 0 rfl) ?_
                              refine va_get (D := D) (ci := 7) (v := .ref (md 13)) (C := RX7) (T := TX7) (N := 20) hx hb hts hiX7 hown hK hP 0 rfl rfl 14 (by decide) hf47 (fun _ h9 => h9) rfl dX7_order_122 ?_
                              refine lv_iload_n hx hb dX7_order_125 rfl (lv_at hl 3 rfl) ?_
                              refine nv_iald hx hb hK hP 8 0 rfl rfl (by omega) (by decide) dX7_order_126 ?_
                              refine nv_top (v' := .int (nI (itI q mp mo g))) (by rw [k_r g (Nat.le_refl g), k_w g (by omega)]) ?_
                              have hg1 := itI_lt hM.1 k_m (show g < nn q by omega) mo
                              have hg2 := k_g (itI q mp mo g) (by omega)
                              refine nv_iald hx hb hK hP 7 0 rfl rfl (by omega) (by decide) dX7_order_127 ?_
                              refine nv_iast hx hb hK hP hD hS 8 0 rfl rfl (by omega) (by decide) dX7_order_128 (fun H locs hP hD hS => ?_)
                              have hP : va_P D vwCl [(md 0, .inr (7, [.int (nI q), .int (nI (nn q)), .ref (md 1), .ref (md 2), .ref (md 3), .ref (md 4), .ref (md 5), .ref (md 6), .ref (md 7), .ref (md 8), .ref (md 9), .ref (md 10), .ref (md 11), .ref (md 12), .ref (md 13), .ref (md 14), .ref (md 15), .ref (md 16), .int (nI w), .ref (md 17)])), (md 1, .inl (cI, 81, .inl (nF su))), (md 2, .inl (cI, 81, .inl (nF po))), (md 3, .inl (cI, 91, .inl (nF xs))), (md 4, .inl (cI, 91, .inl (nF ys))), (md 5, .inl (cI, 91, .inl (nF zs))), (md 7, .inl (cI, 9, .inl (nF mp))), (md 12, .inl (cI, 91, .inl (nF go1))), (md 13, .inl (cI, 91, .inl (nF (upN nw2 g (go1 (itI q mp mo g))))))] H := hP
                              have hD : va_D A [(md 0, .inr (7, [.int (nI q), .int (nI (nn q)), .ref (md 1), .ref (md 2), .ref (md 3), .ref (md 4), .ref (md 5), .ref (md 6), .ref (md 7), .ref (md 8), .ref (md 9), .ref (md 10), .ref (md 11), .ref (md 12), .ref (md 13), .ref (md 14), .ref (md 15), .ref (md 16), .int (nI w), .ref (md 17)])), (md 1, .inl (cI, 81, .inl (nF su))), (md 2, .inl (cI, 81, .inl (nF po))), (md 3, .inl (cI, 91, .inl (nF xs))), (md 4, .inl (cI, 91, .inl (nF ys))), (md 5, .inl (cI, 91, .inl (nF zs))), (md 7, .inl (cI, 9, .inl (nF mp))), (md 12, .inl (cI, 91, .inl (nF go1))), (md 13, .inl (cI, 91, .inl (nF (upN nw2 g (go1 (itI q mp mo g))))))] := hD
                              refine lv_iinc (v := nI (g + 1)) (lv' := [(3, .int (nI (g + 1))), (0, .ref (md 0)), (1, .int (nI (mo + 1))), (2, .int (nI (y2).toNat))]) hx hb dX7_order_129 hl (k := 3) rfl (nI_inc g) (by decide) rfl (fun ls hl => ?_)
                              refine lv_goto (tgt := 104) hx hb dX7_order_132 (by decide) ?_
                              exact ih104 (g + 1) (upN nw2 g (go1 (itI q mp mo g))) ls _ _ (by omega) (by omega) (fun t ht => (Nat.lt_succ_iff_lt_or_eq.mp ht).elim (fun h => by rw [upN_n (by omega)]; exact k_p t h) (fun h => by rw [h, upN_s, hg2]; rfl)) (fun t ht => by rw [upN_n (by omega)]; exact k_r t (by omega)) (lv_sub hl [1, 2, 3, 0] rfl) hP hD hS
                        exact L104 (nn q - 0 + 1) 0 nw1 ls _ _ (by omega) (Nat.zero_le _) (fun t h => absurd h (Nat.not_lt_zero t)) (fun _ _ => rfl) (lv_sub hl [2, 1, 3, 0] rfl) hP hD hS
                    · refine lv_iload_n hx hb dX7_order_69 rfl (lv_at hl 2 rfl) ?_
                      refine nv_ifb_eq (tgt := 87) hx hb dX7_order_70 (by decide) (fun c70 => ?_) (fun c70 => ?_)
                      · refine lv_iconst (v := nI 0) hx hb dX7_order_87 (by decide) ?_
                        refine lv_istore_n (lv' := [(2, .int (nI 0)), (0, .ref (md 0)), (1, .int (nI mo)), (3, .int (nI j))]) hx hb dX7_order_88 rfl hl (by decide) rfl (fun ls hl => ?_)
                        refine lv_iinc (v := nI (j + 1)) (lv' := [(3, .int (nI (j + 1))), (2, .int (nI 0)), (0, .ref (md 0)), (1, .int (nI mo))]) hx hb dX7_order_89 hl (k := 3) rfl (nI_inc j) (by decide) rfl (fun ls hl => ?_)
                        refine lv_goto (tgt := 61) hx hb dX7_order_92 (by decide) ?_
                        exact ih61 false (j + 1) ls _ _ (by omega) (by omega) (by rw [allB, ← k_a, c70]; rfl) (lv_sub hl [2, 3, 1, 0] rfl) hP hD hS
                      · refine lv_aload_n hx hb dX7_order_73 rfl (lv_at hl 0 rfl) ?_
                        refine va_get (D := D) (ci := 7) (v := .ref (md 13)) (C := RX7) (T := TX7) (N := 20) hx hb hts hiX7 hown hK hP 0 rfl rfl 14 (by decide) hf47 (fun _ h9 => h9) rfl dX7_order_74 ?_
                        refine lv_iload_n hx hb dX7_order_77 rfl (lv_at hl 3 rfl) ?_
                        have hb9 : nw1 j < nn q := by rw [k_w j (by omega)]; exact itI_lt hM.1 k_m (by omega) mo
                        refine nv_iald hx hb hK hP 8 0 rfl rfl (by omega) (by decide) dX7_order_78 ?_
                        refine lv_iload_n hx hb dX7_order_79 rfl (lv_at hl 3 rfl) ?_
                        refine nv_icmp_ne (tgt := 87) hx hb (by omega) (by omega) dX7_order_80 (by decide) (fun c80 => ?_) (fun c80 => ?_)
                        · refine lv_iconst (v := nI 0) hx hb dX7_order_87 (by decide) ?_
                          refine lv_istore_n (lv' := [(2, .int (nI 0)), (0, .ref (md 0)), (1, .int (nI mo)), (3, .int (nI j))]) hx hb dX7_order_88 rfl hl (by decide) rfl (fun ls hl => ?_)
                          refine lv_iinc (v := nI (j + 1)) (lv' := [(3, .int (nI (j + 1))), (2, .int (nI 0)), (0, .ref (md 0)), (1, .int (nI mo))]) hx hb dX7_order_89 hl (k := 3) rfl (nI_inc j) (by decide) rfl (fun ls hl => ?_)
                          refine lv_goto (tgt := 61) hx hb dX7_order_92 (by decide) ?_
                          exact ih61 false (j + 1) ls _ _ (by omega) (by omega) (by rw [allB, decide_eq_false c80, Bool.and_false]) (lv_sub hl [2, 3, 1, 0] rfl) hP hD hS
                        · refine lv_iconst (v := nI 1) hx hb dX7_order_83 (by decide) ?_
                          refine lv_goto (tgt := 88) hx hb dX7_order_84 (by decide) ?_
                          refine lv_istore_n (lv' := [(2, .int (nI 1)), (0, .ref (md 0)), (1, .int (nI mo)), (3, .int (nI j))]) hx hb dX7_order_88 rfl hl (by decide) rfl (fun ls hl => ?_)
                          refine lv_iinc (v := nI (j + 1)) (lv' := [(3, .int (nI (j + 1))), (2, .int (nI 1)), (0, .ref (md 0)), (1, .int (nI mo))]) hx hb dX7_order_89 hl (k := 3) rfl (nI_inc j) (by decide) rfl (fun ls hl => ?_)
                          refine lv_goto (tgt := 61) hx hb dX7_order_92 (by decide) ?_
                          exact ih61 true (j + 1) ls _ _ (by omega) (by omega) (by rw [allB, ← k_a, c70, decide_eq_true c80]; rfl) (lv_sub hl [2, 3, 1, 0] rfl) hP hD hS
                exact L61 (nn q - 0 + 1) true 0 ls _ _ (by omega) (Nat.zero_le _) rfl (lv_sub hl [2, 3, 1, 0] rfl) hP hD hS
          exact L53 (2 * (ordq q mp - 1) + (!false).toNat + 1) 1 false nw0 ls _ _ (by omega) (by decide) hN1 (fun t ht => k_n t (by omega)) (fun h => by cases h) (lv_sub hl [2, 1, 0] rfl) hP hD hS
        · refine lv_aload_n hx hb dX7_order_20 rfl (lv_at hl 0 rfl) ?_
          refine va_get (D := D) (ci := 7) (v := .ref (md 12)) (C := RX7) (T := TX7) (N := 20) hx hb hts hiX7 hown hK hP 0 rfl rfl 13 (by decide) hf44 (fun _ h9 => h9) rfl dX7_order_21 ?_
          refine lv_iload_n hx hb dX7_order_24 rfl (lv_at hl 1 rfl) ?_
          refine lv_aload_n hx hb dX7_order_25 rfl (lv_at hl 0 rfl) ?_
          refine lv_iload_n hx hb dX7_order_26 rfl (lv_at hl 1 rfl) ?_
          refine ctR_V (As := [.int (nI i)]) (rest := [.int (nI i), .ref (md 12)]) (r := .int (imgZ q mp i)) ⟨hx, hb, hml, hown, hts⟩ (c_X7_imageOf l D cI cZ md q w su po xs ys zs hM mp k_m i (by omega)) (cwV 1 hts gX7_order_X7_imageOf rfl rfl rfl hdV_X7_imageOf ⟨Nat.le_of_ble_eq_true rfl, Nat.le_of_ble_eq_true rfl⟩) hK hN hP [0, 1, 2, 3, 4, 5, 6] rfl 0 7 rfl rfl rfl hl.1 rfl (Nat.le_of_ble_eq_true rfl) ⟨Nat.zero_le _, Nat.zero_le _⟩ dX7_order_27 ?_
          refine nv_top (v' := .int (nI (imq q mp i))) (congrArg Value.int (him i (by omega)).1) ?_
          refine nv_iast hx hb hK hP hD hS 7 0 rfl rfl (by omega) (by decide) dX7_order_30 (fun H locs hP hD hS => ?_)
          have hP : va_P D vwCl [(md 0, .inr (7, [.int (nI q), .int (nI (nn q)), .ref (md 1), .ref (md 2), .ref (md 3), .ref (md 4), .ref (md 5), .ref (md 6), .ref (md 7), .ref (md 8), .ref (md 9), .ref (md 10), .ref (md 11), .ref (md 12), .ref (md 13), .ref (md 14), .ref (md 15), .ref (md 16), .int (nI w), .ref (md 17)])), (md 1, .inl (cI, 81, .inl (nF su))), (md 2, .inl (cI, 81, .inl (nF po))), (md 3, .inl (cI, 91, .inl (nF xs))), (md 4, .inl (cI, 91, .inl (nF ys))), (md 5, .inl (cI, 91, .inl (nF zs))), (md 7, .inl (cI, 9, .inl (nF mp))), (md 12, .inl (cI, 91, .inl (nF (upN go1 i (imq q mp i))))), (md 13, .inl (cI, 91, .inl (nF nw0)))] H := hP
          have hD : va_D A [(md 0, .inr (7, [.int (nI q), .int (nI (nn q)), .ref (md 1), .ref (md 2), .ref (md 3), .ref (md 4), .ref (md 5), .ref (md 6), .ref (md 7), .ref (md 8), .ref (md 9), .ref (md 10), .ref (md 11), .ref (md 12), .ref (md 13), .ref (md 14), .ref (md 15), .ref (md 16), .int (nI w), .ref (md 17)])), (md 1, .inl (cI, 81, .inl (nF su))), (md 2, .inl (cI, 81, .inl (nF po))), (md 3, .inl (cI, 91, .inl (nF xs))), (md 4, .inl (cI, 91, .inl (nF ys))), (md 5, .inl (cI, 91, .inl (nF zs))), (md 7, .inl (cI, 9, .inl (nF mp))), (md 12, .inl (cI, 91, .inl (nF (upN go1 i (imq q mp i))))), (md 13, .inl (cI, 91, .inl (nF nw0)))] := hD
          refine lv_aload_n hx hb dX7_order_31 rfl (lv_at hl 0 rfl) ?_
          refine va_get (D := D) (ci := 7) (v := .ref (md 13)) (C := RX7) (T := TX7) (N := 20) hx hb hts hiX7 hown hK hP 0 rfl rfl 14 (by decide) hf47 (fun _ h9 => h9) rfl dX7_order_32 ?_
          refine lv_iload_n hx hb dX7_order_35 rfl (lv_at hl 1 rfl) ?_
          refine lv_aload_n hx hb dX7_order_36 rfl (lv_at hl 0 rfl) ?_
          refine va_get (D := D) (ci := 7) (v := .ref (md 12)) (C := RX7) (T := TX7) (N := 20) hx hb hts hiX7 hown hK hP 0 rfl rfl 13 (by decide) hf44 (fun _ h9 => h9) rfl dX7_order_37 ?_
          refine lv_iload_n hx hb dX7_order_40 rfl (lv_at hl 1 rfl) ?_
          refine nv_iald hx hb hK hP 7 0 rfl rfl (by omega) (by decide) dX7_order_41 ?_
          refine nv_iast hx hb hK hP hD hS 8 0 rfl rfl (by omega) (by decide) dX7_order_42 (fun H locs hP hD hS => ?_)
          have hP : va_P D vwCl [(md 0, .inr (7, [.int (nI q), .int (nI (nn q)), .ref (md 1), .ref (md 2), .ref (md 3), .ref (md 4), .ref (md 5), .ref (md 6), .ref (md 7), .ref (md 8), .ref (md 9), .ref (md 10), .ref (md 11), .ref (md 12), .ref (md 13), .ref (md 14), .ref (md 15), .ref (md 16), .int (nI w), .ref (md 17)])), (md 1, .inl (cI, 81, .inl (nF su))), (md 2, .inl (cI, 81, .inl (nF po))), (md 3, .inl (cI, 91, .inl (nF xs))), (md 4, .inl (cI, 91, .inl (nF ys))), (md 5, .inl (cI, 91, .inl (nF zs))), (md 7, .inl (cI, 9, .inl (nF mp))), (md 12, .inl (cI, 91, .inl (nF (upN go1 i (imq q mp i))))), (md 13, .inl (cI, 91, .inl (nF (upN nw0 i ((upN go1 i (imq q mp i)) i)))))] H := hP
          have hD : va_D A [(md 0, .inr (7, [.int (nI q), .int (nI (nn q)), .ref (md 1), .ref (md 2), .ref (md 3), .ref (md 4), .ref (md 5), .ref (md 6), .ref (md 7), .ref (md 8), .ref (md 9), .ref (md 10), .ref (md 11), .ref (md 12), .ref (md 13), .ref (md 14), .ref (md 15), .ref (md 16), .int (nI w), .ref (md 17)])), (md 1, .inl (cI, 81, .inl (nF su))), (md 2, .inl (cI, 81, .inl (nF po))), (md 3, .inl (cI, 91, .inl (nF xs))), (md 4, .inl (cI, 91, .inl (nF ys))), (md 5, .inl (cI, 91, .inl (nF zs))), (md 7, .inl (cI, 9, .inl (nF mp))), (md 12, .inl (cI, 91, .inl (nF (upN go1 i (imq q mp i))))), (md 13, .inl (cI, 91, .inl (nF (upN nw0 i ((upN go1 i (imq q mp i)) i)))))] := hD
          refine lv_iinc (v := nI (i + 1)) (lv' := [(1, .int (nI (i + 1))), (0, .ref (md 0))]) hx hb dX7_order_43 hl (k := 1) rfl (nI_inc i) (by decide) rfl (fun ls hl => ?_)
          refine lv_goto (tgt := 12) hx hb dX7_order_46 (by decide) ?_
          exact ih12 (i + 1) (upN go1 i (imq q mp i)) (upN nw0 i ((upN go1 i (imq q mp i)) i)) ls _ _ (by omega) (by omega) (fun t ht => (Nat.lt_succ_iff_lt_or_eq.mp ht).elim (fun h => by rw [upN_n (by omega)]; exact k_g t h) (fun h => by rw [h, upN_s])) (fun t ht => (Nat.lt_succ_iff_lt_or_eq.mp ht).elim (fun h => by rw [upN_n (by omega)]; exact k_n t h) (fun h => by rw [h, upN_s]; exact upN_s)) (lv_sub hl [1, 0] rfl) hP hD hS
    exact L12 (nn q - 0 + 1) 0 go nw ls _ _ (by omega) (Nat.zero_le _) (fun t h => absurd h (Nat.not_lt_zero t)) (fun t h => absurd h (Nat.not_lt_zero t)) (lv_sub hl [1, 0] rfl) hP hD hS
  · refine lv_bipush (v := (-3)) hx hb dX7_order_7 (by decide) ?_
    exact ctW_retI (v := (-3)) (go, nw) hx hb hr rfl dX7_order_9 hlocks hS hP hD trivial (by rw [ordZ, if_pos c4])

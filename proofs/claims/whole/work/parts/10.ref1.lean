set_option maxHeartbeats 4000000 in
set_option maxRecDepth 100000 in
theorem c_X7_isFrom (l : Launch) (D : va_G) (cI cZ : ClassId) (x : Int32) (lo : Nat) (hi : Nat) (k_1 : lo < 2 ^ 31) (k_2 : hi < 2 ^ 31) : CtR l yX7_isFrom wsX7_isFrom { frames := 0, cells := 0, slots := 0, locals := 0 } D (tyG cI cZ) [.int x, .int (nI lo), .int (nI hi)] [] (.int (nI (inR x lo hi).toNat)) := by
  refine Met.ofW (cc := cX7_isFrom) (maxL := 3) (ret := some .boolean) (by decide) rfl ?_
  intro p e s m args below meth c s₁ B hml hv
  obtain ⟨rfl, hP, hK, hN⟩ := hv
  have hx := B.exec
  have hb := B.bytes
  have hr := B.returns
  have hts := atoms_spec (ws := wsX7_isFrom) B.pre
  have hown : s.vm.findClass RX7 = some m.cls := findClass_of_methodNamed B.named
  have hlocks := B.notSynchronized
  have hl := lv_entry ([.int x, .int (nI lo), .int (nI hi)]) (n := 3) (Nat.le_of_ble_eq_true rfl)
  rw [lg_entry_eq]
  generalize (lg_sl ([.int x, .int (nI lo), .int (nI hi)]) ++ List.replicate (3 - (lg_sl ([.int x, .int (nI lo), .int (nI hi)])).length) Slot.unset).toArray = ls at hl ⊢
  have hl : lv_has ls 3 [(0, .int x), (1, .int (nI lo)), (2, .int (nI hi))] := hl
  refine lv_iload_n hx hb dX7_isFrom_0 rfl (lv_at hl 0 rfl) ?_
  refine lv_iload_n hx hb dX7_isFrom_1 rfl (lv_at hl 1 rfl) ?_
  refine lv_icmp_lt (tgt := 14) hx hb dX7_isFrom_2 (by decide) (fun c2 => ?_) (fun c2 => ?_)
  · refine lv_iconst (v := nI 0) hx hb dX7_isFrom_14 (by decide) ?_
    exact ctR_ret (v := (nI 0)) hx hb hr (nar_bool false) dX7_isFrom_15 hlocks (by rw [inR_lo k_1 c2]; rfl)
  · refine lv_iload_n hx hb dX7_isFrom_5 rfl (lv_at hl 0 rfl) ?_
    refine lv_iload_n hx hb dX7_isFrom_6 rfl (lv_at hl 2 rfl) ?_
    refine lv_icmp_gt (tgt := 14) hx hb dX7_isFrom_7 (by decide) (fun c7 => ?_) (fun c7 => ?_)
    · refine lv_iconst (v := nI 0) hx hb dX7_isFrom_14 (by decide) ?_
      exact ctR_ret (v := (nI 0)) hx hb hr (nar_bool false) dX7_isFrom_15 hlocks (by rw [inR_hi k_2 c7]; rfl)
    · refine lv_iconst (v := nI 1) hx hb dX7_isFrom_10 (by decide) ?_
      refine lv_goto (tgt := 15) hx hb dX7_isFrom_11 (by decide) ?_
      exact ctR_ret (v := (nI 1)) hx hb hr (nar_bool true) dX7_isFrom_15 hlocks (by rw [inR_in k_1 k_2 c2 c7]; rfl)

set_option maxHeartbeats 4000000 in
set_option maxRecDepth 100000 in
theorem c_X7_add (l : Launch) (D : va_G) (cI cZ : ClassId) (md : Nat → Nat) (q : Nat) (w : Nat) (su : Nat → Nat) (po : Nat → Nat) (xs : Nat → Nat) (ys : Nat → Nat) (zs : Nat → Nat) (hM : MOK q su po xs ys zs) (a : Nat) (b : Nat) (k_1 : a < q) (k_2 : b < q) : CtR l yX7_add wsX7_add { frames := 0, cells := 0, slots := 0, locals := 0 } D (tyG cI cZ) [.ref (md 0), .int (nI a), .int (nI b)] [(md 0, .inr (7, [.int (nI q), .int (nI (nn q)), .ref (md 1), .ref (md 2), .ref (md 3), .ref (md 4), .ref (md 5), .ref (md 6), .ref (md 7), .ref (md 8), .ref (md 9), .ref (md 10), .ref (md 11), .ref (md 12), .ref (md 13), .ref (md 14), .ref (md 15), .ref (md 16), .int (nI w), .ref (md 17)])), (md 1, .inl (cI, 81, .inl (nF su))), (md 2, .inl (cI, 81, .inl (nF po))), (md 3, .inl (cI, 91, .inl (nF xs))), (md 4, .inl (cI, 91, .inl (nF ys))), (md 5, .inl (cI, 91, .inl (nF zs)))] (.int (nI (fadd q a b))) := by
  refine Met.ofW (cc := cX7_add) (maxL := 3) (ret := some .int) (by decide) rfl ?_
  intro p e s m args below meth c s₁ B hml hv
  obtain ⟨rfl, hP, hK, hN⟩ := hv
  have hx := B.exec
  have hb := B.bytes
  have hr := B.returns
  have hts := atoms_spec (ws := wsX7_add) B.pre
  have hown : s.vm.findClass RX7 = some m.cls := findClass_of_methodNamed B.named
  have hlocks := B.notSynchronized
  have hf7 := hts (.fieldLink RX7 7 "FinitePlanesModel" "sum" "[I") (by decide +kernel)
  have hiX7 : ∀ w ∈ u_ws RX7 TX7 20, w ∈ wsX7_add := by decide +kernel
  have hl := lv_entry ([.ref (md 0), .int (nI a), .int (nI b)]) (n := 3) (Nat.le_of_ble_eq_true rfl)
  rw [lg_entry_eq]
  generalize (lg_sl ([.ref (md 0), .int (nI a), .int (nI b)]) ++ List.replicate (3 - (lg_sl ([.ref (md 0), .int (nI a), .int (nI b)])).length) Slot.unset).toArray = ls at hl ⊢
  have hl : lv_has ls 3 [(0, .ref (md 0)), (1, .int (nI a)), (2, .int (nI b))] := hl
  have hq2 := qs_le hM.1
  have hn2 := nn_le hM.1
  refine lv_aload_n hx hb dX7_add_0 rfl (lv_at hl 0 rfl) ?_
  refine va_get (D := D) (ci := 7) (v := .ref (md 1)) (C := RX7) (T := TX7) (N := 20) hx hb hts hiX7 hown hK hP 0 rfl rfl 2 (by decide) hf7 (fun _ h9 => h9) rfl dX7_add_1 ?_
  refine lv_bipush (v := nI 9) hx hb dX7_add_4 (by decide) ?_
  refine lv_iload_n hx hb dX7_add_6 rfl (lv_at hl 1 rfl) ?_
  refine nv_mulE (r := 9 * a) hx hb rfl dX7_add_7 ?_
  refine lv_iload_n hx hb dX7_add_8 rfl (lv_at hl 2 rfl) ?_
  refine nv_addE (r := (9 * a) + b) hx hb rfl dX7_add_9 ?_
  refine nv_iald hx hb hK hP 1 0 rfl rfl (by omega) (by decide) dX7_add_10 ?_
  exact ctR_ret (v := (nI (su ((9 * a) + b)))) hx hb hr rfl dX7_add_11 hlocks (by rw [hM.2.1 a b k_1 k_2])

set_option maxHeartbeats 4000000 in
set_option maxRecDepth 100000 in
theorem c_X7_times (l : Launch) (D : va_G) (cI cZ : ClassId) (md : Nat → Nat) (q : Nat) (w : Nat) (su : Nat → Nat) (po : Nat → Nat) (xs : Nat → Nat) (ys : Nat → Nat) (zs : Nat → Nat) (hM : MOK q su po xs ys zs) (a : Nat) (b : Nat) (k_1 : a < q) (k_2 : b < q) : CtR l yX7_times wsX7_times { frames := 0, cells := 0, slots := 0, locals := 0 } D (tyG cI cZ) [.ref (md 0), .int (nI a), .int (nI b)] [(md 0, .inr (7, [.int (nI q), .int (nI (nn q)), .ref (md 1), .ref (md 2), .ref (md 3), .ref (md 4), .ref (md 5), .ref (md 6), .ref (md 7), .ref (md 8), .ref (md 9), .ref (md 10), .ref (md 11), .ref (md 12), .ref (md 13), .ref (md 14), .ref (md 15), .ref (md 16), .int (nI w), .ref (md 17)])), (md 1, .inl (cI, 81, .inl (nF su))), (md 2, .inl (cI, 81, .inl (nF po))), (md 3, .inl (cI, 91, .inl (nF xs))), (md 4, .inl (cI, 91, .inl (nF ys))), (md 5, .inl (cI, 91, .inl (nF zs)))] (.int (nI (fmul q a b))) := by
  refine Met.ofW (cc := cX7_times) (maxL := 3) (ret := some .int) (by decide) rfl ?_
  intro p e s m args below meth c s₁ B hml hv
  obtain ⟨rfl, hP, hK, hN⟩ := hv
  have hx := B.exec
  have hb := B.bytes
  have hr := B.returns
  have hts := atoms_spec (ws := wsX7_times) B.pre
  have hown : s.vm.findClass RX7 = some m.cls := findClass_of_methodNamed B.named
  have hlocks := B.notSynchronized
  have hf13 := hts (.fieldLink RX7 13 "FinitePlanesModel" "product" "[I") (by decide +kernel)
  have hiX7 : ∀ w ∈ u_ws RX7 TX7 20, w ∈ wsX7_times := by decide +kernel
  have hl := lv_entry ([.ref (md 0), .int (nI a), .int (nI b)]) (n := 3) (Nat.le_of_ble_eq_true rfl)
  rw [lg_entry_eq]
  generalize (lg_sl ([.ref (md 0), .int (nI a), .int (nI b)]) ++ List.replicate (3 - (lg_sl ([.ref (md 0), .int (nI a), .int (nI b)])).length) Slot.unset).toArray = ls at hl ⊢
  have hl : lv_has ls 3 [(0, .ref (md 0)), (1, .int (nI a)), (2, .int (nI b))] := hl
  have hq2 := qs_le hM.1
  have hn2 := nn_le hM.1
  refine lv_aload_n hx hb dX7_times_0 rfl (lv_at hl 0 rfl) ?_
  refine va_get (D := D) (ci := 7) (v := .ref (md 2)) (C := RX7) (T := TX7) (N := 20) hx hb hts hiX7 hown hK hP 0 rfl rfl 3 (by decide) hf13 (fun _ h9 => h9) rfl dX7_times_1 ?_
  refine lv_bipush (v := nI 9) hx hb dX7_times_4 (by decide) ?_
  refine lv_iload_n hx hb dX7_times_6 rfl (lv_at hl 1 rfl) ?_
  refine nv_mulE (r := 9 * a) hx hb rfl dX7_times_7 ?_
  refine lv_iload_n hx hb dX7_times_8 rfl (lv_at hl 2 rfl) ?_
  refine nv_addE (r := (9 * a) + b) hx hb rfl dX7_times_9 ?_
  refine nv_iald hx hb hK hP 2 0 rfl rfl (by omega) (by decide) dX7_times_10 ?_
  exact ctR_ret (v := (nI (po ((9 * a) + b)))) hx hb hr rfl dX7_times_11 hlocks (by rw [hM.2.2.1 a b k_1 k_2])

set_option maxHeartbeats 4000000 in
set_option maxRecDepth 100000 in
theorem c_X7_less (l : Launch) (D : va_G) (cI cZ : ClassId) (md : Nat → Nat) (q : Nat) (w : Nat) (su : Nat → Nat) (po : Nat → Nat) (xs : Nat → Nat) (ys : Nat → Nat) (zs : Nat → Nat) (hM : MOK q su po xs ys zs) (a : Nat) (b : Nat) (k_1 : a < q) (k_2 : b < q) : CtR l yX7_less wsX7_less { frames := 1, cells := 0, slots := 0, locals := 22 } D (tyG cI cZ) [.ref (md 0), .int (nI a), .int (nI b)] [(md 0, .inr (7, [.int (nI q), .int (nI (nn q)), .ref (md 1), .ref (md 2), .ref (md 3), .ref (md 4), .ref (md 5), .ref (md 6), .ref (md 7), .ref (md 8), .ref (md 9), .ref (md 10), .ref (md 11), .ref (md 12), .ref (md 13), .ref (md 14), .ref (md 15), .ref (md 16), .int (nI w), .ref (md 17)])), (md 1, .inl (cI, 81, .inl (nF su))), (md 2, .inl (cI, 81, .inl (nF po))), (md 3, .inl (cI, 91, .inl (nF xs))), (md 4, .inl (cI, 91, .inl (nF ys))), (md 5, .inl (cI, 91, .inl (nF zs)))] (.int (nI (fsub q a b))) := by
  refine Met.ofW (cc := cX7_less) (maxL := 4) (ret := some .int) (by decide) rfl ?_
  intro p e s m args below meth c s₁ B hml hv
  obtain ⟨rfl, hP, hK, hN⟩ := hv
  have hx := B.exec
  have hb := B.bytes
  have hr := B.returns
  have hts := atoms_spec (ws := wsX7_less) B.pre
  have hown : s.vm.findClass RX7 = some m.cls := findClass_of_methodNamed B.named
  have hlocks := B.notSynchronized
  have hl := lv_entry ([.ref (md 0), .int (nI a), .int (nI b)]) (n := 4) (Nat.le_of_ble_eq_true rfl)
  rw [lg_entry_eq]
  generalize (lg_sl ([.ref (md 0), .int (nI a), .int (nI b)]) ++ List.replicate (4 - (lg_sl ([.ref (md 0), .int (nI a), .int (nI b)])).length) Slot.unset).toArray = ls at hl ⊢
  have hl : lv_has ls 4 [(0, .ref (md 0)), (1, .int (nI a)), (2, .int (nI b))] := hl
  have hq2 := qs_le hM.1
  have hn2 := nn_le hM.1
  refine lv_iconst (v := nI 0) hx hb dX7_less_0 (by decide) ?_
  refine lv_istore_n (lv' := [(3, .int (nI 0)), (0, .ref (md 0)), (1, .int (nI a)), (2, .int (nI b))]) hx hb dX7_less_1 rfl hl (by decide) rfl (fun ls hl => ?_)
  have L2 : ∀ (N2 : Nat) (i : Nat) (ls : Array Slot), fsub q a b - i < N2 → (i ≤ fsub q a b) → lv_has ls 4 [(0, .ref (md 0)), (1, .int (nI a)), (2, .int (nI b)), (3, .int (nI i))] → WR p l e wsX7_less { frames := 1, cells := 0, slots := 0, locals := 22 } s m [.ref (md 0), .int (nI a), .int (nI b)] below meth c (.int (nI (fsub q a b))) 2 ls [] := by
    intro N2
    induction N2 with
    | zero => intro i ls hN; exact absurd hN (Nat.not_lt_zero _)
    | succ N2 ih2 =>
      intro i ls hN2 k_i hl
      have hf := fsub_lt hM.1 k_1 k_2
      refine lv_aload_n hx hb dX7_less_2 rfl (lv_at hl 0 rfl) ?_
      refine lv_iload_n hx hb dX7_less_3 rfl (lv_at hl 3 rfl) ?_
      refine lv_iload_n hx hb dX7_less_4 rfl (lv_at hl 2 rfl) ?_
      refine ctR_V (As := [.int (nI i), .int (nI b)]) (rest := []) (r := .int (nI (fadd q i b))) ⟨hx, hb, hml, hown, hts⟩ (c_X7_add l D cI cZ md q w su po xs ys zs hM i b (by omega) (by omega)) (cwV 2 hts gX7_less_X7_add rfl rfl rfl hdV_X7_add ⟨Nat.le_of_ble_eq_true rfl, Nat.le_of_ble_eq_true rfl⟩) hK hN hP [0, 1, 2, 3, 4, 5] rfl 0 7 rfl rfl rfl hl.1 rfl (Nat.le_of_ble_eq_true rfl) ⟨Nat.zero_le _, Nat.zero_le _⟩ dX7_less_5 ?_
      have hh_1 : fadd q i b < q := fadd_lt hM.1 (by omega) (by omega)
      refine lv_iload_n hx hb dX7_less_8 rfl (lv_at hl 1 rfl) ?_
      refine nv_icmp_eq (tgt := 18) hx hb (by omega) (by omega) dX7_less_9 (by decide) (fun c9 => ?_) (fun c9 => ?_)
      · refine lv_iload_n hx hb dX7_less_18 rfl (lv_at hl 3 rfl) ?_
        exact ctR_ret (v := (nI i)) hx hb hr rfl dX7_less_19 hlocks (by rw [(F_less q hM.1 a k_1 b k_2 i (by omega)).mp c9])
      · have h9 : ¬ i = fsub q a b := fun z => c9 ((F_less q hM.1 a k_1 b k_2 i (by omega)).mpr z)
        have hi : i + 1 ≤ fsub q a b := by omega
        refine lv_iinc (v := nI (i + 1)) (lv' := [(3, .int (nI (i + 1))), (0, .ref (md 0)), (1, .int (nI a)), (2, .int (nI b))]) hx hb dX7_less_12 hl (k := 3) rfl (nI_inc i) (by decide) rfl (fun ls hl => ?_)
        refine lv_goto (tgt := 2) hx hb dX7_less_15 (by decide) ?_
        exact ih2 (i + 1) ls (by omega) hi (lv_sub hl [1, 2, 3, 0] rfl)
  exact L2 (fsub q a b - 0 + 1) 0 ls (by omega) (Nat.zero_le _) (lv_sub hl [1, 2, 3, 0] rfl)

set_option maxHeartbeats 4000000 in
set_option maxRecDepth 100000 in
theorem c_X7_by (l : Launch) (D : va_G) (cI cZ : ClassId) (md : Nat → Nat) (q : Nat) (w : Nat) (su : Nat → Nat) (po : Nat → Nat) (xs : Nat → Nat) (ys : Nat → Nat) (zs : Nat → Nat) (hM : MOK q su po xs ys zs) (a : Nat) (b : Nat) (k_1 : a < q) (k_2 : b < q) (k_3 : ¬ b = 0) : CtR l yX7_by wsX7_by { frames := 1, cells := 0, slots := 0, locals := 22 } D (tyG cI cZ) [.ref (md 0), .int (nI a), .int (nI b)] [(md 0, .inr (7, [.int (nI q), .int (nI (nn q)), .ref (md 1), .ref (md 2), .ref (md 3), .ref (md 4), .ref (md 5), .ref (md 6), .ref (md 7), .ref (md 8), .ref (md 9), .ref (md 10), .ref (md 11), .ref (md 12), .ref (md 13), .ref (md 14), .ref (md 15), .ref (md 16), .int (nI w), .ref (md 17)])), (md 1, .inl (cI, 81, .inl (nF su))), (md 2, .inl (cI, 81, .inl (nF po))), (md 3, .inl (cI, 91, .inl (nF xs))), (md 4, .inl (cI, 91, .inl (nF ys))), (md 5, .inl (cI, 91, .inl (nF zs)))] (.int (nI (fdiv q a b))) := by
  refine Met.ofW (cc := cX7_by) (maxL := 4) (ret := some .int) (by decide) rfl ?_
  intro p e s m args below meth c s₁ B hml hv
  obtain ⟨rfl, hP, hK, hN⟩ := hv
  have hx := B.exec
  have hb := B.bytes
  have hr := B.returns
  have hts := atoms_spec (ws := wsX7_by) B.pre
  have hown : s.vm.findClass RX7 = some m.cls := findClass_of_methodNamed B.named
  have hlocks := B.notSynchronized
  have hl := lv_entry ([.ref (md 0), .int (nI a), .int (nI b)]) (n := 4) (Nat.le_of_ble_eq_true rfl)
  rw [lg_entry_eq]
  generalize (lg_sl ([.ref (md 0), .int (nI a), .int (nI b)]) ++ List.replicate (4 - (lg_sl ([.ref (md 0), .int (nI a), .int (nI b)])).length) Slot.unset).toArray = ls at hl ⊢
  have hl : lv_has ls 4 [(0, .ref (md 0)), (1, .int (nI a)), (2, .int (nI b))] := hl
  have hq2 := qs_le hM.1
  have hn2 := nn_le hM.1
  refine lv_iconst (v := nI 0) hx hb dX7_by_0 (by decide) ?_
  refine lv_istore_n (lv' := [(3, .int (nI 0)), (0, .ref (md 0)), (1, .int (nI a)), (2, .int (nI b))]) hx hb dX7_by_1 rfl hl (by decide) rfl (fun ls hl => ?_)
  have L2 : ∀ (N2 : Nat) (i : Nat) (ls : Array Slot), fdiv q a b - i < N2 → (i ≤ fdiv q a b) → lv_has ls 4 [(0, .ref (md 0)), (1, .int (nI a)), (2, .int (nI b)), (3, .int (nI i))] → WR p l e wsX7_by { frames := 1, cells := 0, slots := 0, locals := 22 } s m [.ref (md 0), .int (nI a), .int (nI b)] below meth c (.int (nI (fdiv q a b))) 2 ls [] := by
    intro N2
    induction N2 with
    | zero => intro i ls hN; exact absurd hN (Nat.not_lt_zero _)
    | succ N2 ih2 =>
      intro i ls hN2 k_i hl
      have hf := fdiv_lt hM.1 k_1 k_2
      refine lv_aload_n hx hb dX7_by_2 rfl (lv_at hl 0 rfl) ?_
      refine lv_iload_n hx hb dX7_by_3 rfl (lv_at hl 3 rfl) ?_
      refine lv_iload_n hx hb dX7_by_4 rfl (lv_at hl 2 rfl) ?_
      refine ctR_V (As := [.int (nI i), .int (nI b)]) (rest := []) (r := .int (nI (fmul q i b))) ⟨hx, hb, hml, hown, hts⟩ (c_X7_times l D cI cZ md q w su po xs ys zs hM i b (by omega) (by omega)) (cwV 2 hts gX7_by_X7_times rfl rfl rfl hdV_X7_times ⟨Nat.le_of_ble_eq_true rfl, Nat.le_of_ble_eq_true rfl⟩) hK hN hP [0, 1, 2, 3, 4, 5] rfl 0 7 rfl rfl rfl hl.1 rfl (Nat.le_of_ble_eq_true rfl) ⟨Nat.zero_le _, Nat.zero_le _⟩ dX7_by_5 ?_
      have hh_1 : fmul q i b < q := fmul_lt hM.1 (by omega) (by omega)
      refine lv_iload_n hx hb dX7_by_8 rfl (lv_at hl 1 rfl) ?_
      refine nv_icmp_eq (tgt := 18) hx hb (by omega) (by omega) dX7_by_9 (by decide) (fun c9 => ?_) (fun c9 => ?_)
      · refine lv_iload_n hx hb dX7_by_18 rfl (lv_at hl 3 rfl) ?_
        exact ctR_ret (v := (nI i)) hx hb hr rfl dX7_by_19 hlocks (by rw [(F_by q hM.1 a k_1 b k_2 k_3 i (by omega)).mp c9])
      · have h9 : ¬ i = fdiv q a b := fun z => c9 ((F_by q hM.1 a k_1 b k_2 k_3 i (by omega)).mpr z)
        have hi : i + 1 ≤ fdiv q a b := by omega
        refine lv_iinc (v := nI (i + 1)) (lv' := [(3, .int (nI (i + 1))), (0, .ref (md 0)), (1, .int (nI a)), (2, .int (nI b))]) hx hb dX7_by_12 hl (k := 3) rfl (nI_inc i) (by decide) rfl (fun ls hl => ?_)
        refine lv_goto (tgt := 2) hx hb dX7_by_15 (by decide) ?_
        exact ih2 (i + 1) ls (by omega) hi (lv_sub hl [1, 2, 3, 0] rfl)
  exact L2 (fdiv q a b - 0 + 1) 0 ls (by omega) (Nat.zero_le _) (lv_sub hl [1, 2, 3, 0] rfl)

set_option maxHeartbeats 4000000 in
set_option maxRecDepth 100000 in
theorem c_X7_isNumber (l : Launch) (D : va_G) (cI cZ : ClassId) (md : Nat → Nat) (q : Nat) (w : Nat) (su : Nat → Nat) (po : Nat → Nat) (xs : Nat → Nat) (ys : Nat → Nat) (zs : Nat → Nat) (hM : MOK q su po xs ys zs) (x : Int32) : CtR l yX7_isNumber wsX7_isNumber { frames := 1, cells := 0, slots := 0, locals := 22 } D (tyG cI cZ) [.ref (md 0), .int x] [(md 0, .inr (7, [.int (nI q), .int (nI (nn q)), .ref (md 1), .ref (md 2), .ref (md 3), .ref (md 4), .ref (md 5), .ref (md 6), .ref (md 7), .ref (md 8), .ref (md 9), .ref (md 10), .ref (md 11), .ref (md 12), .ref (md 13), .ref (md 14), .ref (md 15), .ref (md 16), .int (nI w), .ref (md 17)])), (md 1, .inl (cI, 81, .inl (nF su))), (md 2, .inl (cI, 81, .inl (nF po))), (md 3, .inl (cI, 91, .inl (nF xs))), (md 4, .inl (cI, 91, .inl (nF ys))), (md 5, .inl (cI, 91, .inl (nF zs)))] (.int (nI (inB x q).toNat)) := by
  refine Met.ofW (cc := cX7_isNumber) (maxL := 2) (ret := some .boolean) (by decide) rfl ?_
  intro p e s m args below meth c s₁ B hml hv
  obtain ⟨rfl, hP, hK, hN⟩ := hv
  have hx := B.exec
  have hb := B.bytes
  have hr := B.returns
  have hts := atoms_spec (ws := wsX7_isNumber) B.pre
  have hown : s.vm.findClass RX7 = some m.cls := findClass_of_methodNamed B.named
  have hlocks := B.notSynchronized
  have hf74 := hts (.fieldLink RX7 74 "FinitePlanesModel" "q" "I") (by decide +kernel)
  have hiX7 : ∀ w ∈ u_ws RX7 TX7 20, w ∈ wsX7_isNumber := by decide +kernel
  have hl := lv_entry ([.ref (md 0), .int x]) (n := 2) (Nat.le_of_ble_eq_true rfl)
  rw [lg_entry_eq]
  generalize (lg_sl ([.ref (md 0), .int x]) ++ List.replicate (2 - (lg_sl ([.ref (md 0), .int x])).length) Slot.unset).toArray = ls at hl ⊢
  have hl : lv_has ls 2 [(0, .ref (md 0)), (1, .int x)] := hl
  have hq2 := qs_le hM.1
  have hn2 := nn_le hM.1
  refine lv_iload_n hx hb dX7_isNumber_0 rfl (lv_at hl 1 rfl) ?_
  refine lv_iconst (v := nI 0) hx hb dX7_isNumber_1 (by decide) ?_
  refine lv_aload_n hx hb dX7_isNumber_2 rfl (lv_at hl 0 rfl) ?_
  refine va_get (D := D) (ci := 7) (v := .int (nI q)) (C := RX7) (T := TX7) (N := 20) hx hb hts hiX7 hown hK hP 0 rfl rfl 0 (by decide) hf74 (fun _ h9 => h9) rfl dX7_isNumber_3 ?_
  refine lv_iconst (v := nI 1) hx hb dX7_isNumber_6 (by decide) ?_
  refine nv_subE (r := q - 1) hx hb (by omega) rfl dX7_isNumber_7 ?_
  refine ctR_S (As := [.int x, .int (nI 0), .int (nI (q - 1))]) (rest := []) (r := .int (nI (inR x 0 (q - 1)).toNat)) ⟨hx, hb, hml, hown, hts⟩ (c_X7_isFrom l D cI cZ x 0 (q - 1) (by omega) (by omega)) (va_cwS 3 hts gX7_isNumber_X7_isFrom rfl rfl rfl hdS_X7_isFrom ⟨Nat.le_of_ble_eq_true rfl, Nat.le_of_ble_eq_true rfl⟩) hK hN hP [] rfl rfl hl.1 rfl (Nat.le_of_ble_eq_true rfl) ⟨Nat.zero_le _, Nat.zero_le _⟩ dX7_isNumber_8 ?_
  refine nv_top (v' := .int (nI (inB x q).toNat)) (by rw [inR_B (by omega)]) ?_
  exact ctR_ret (v := (nI (inB x q).toNat)) hx hb hr (nar_bool (inB x q)) dX7_isNumber_11 hlocks rfl

set_option maxHeartbeats 4000000 in
set_option maxRecDepth 100000 in
theorem c_X7_isPoint (l : Launch) (D : va_G) (cI cZ : ClassId) (md : Nat → Nat) (q : Nat) (w : Nat) (su : Nat → Nat) (po : Nat → Nat) (xs : Nat → Nat) (ys : Nat → Nat) (zs : Nat → Nat) (hM : MOK q su po xs ys zs) (x : Int32) : CtR l yX7_isPoint wsX7_isPoint { frames := 1, cells := 0, slots := 0, locals := 22 } D (tyG cI cZ) [.ref (md 0), .int x] [(md 0, .inr (7, [.int (nI q), .int (nI (nn q)), .ref (md 1), .ref (md 2), .ref (md 3), .ref (md 4), .ref (md 5), .ref (md 6), .ref (md 7), .ref (md 8), .ref (md 9), .ref (md 10), .ref (md 11), .ref (md 12), .ref (md 13), .ref (md 14), .ref (md 15), .ref (md 16), .int (nI w), .ref (md 17)])), (md 1, .inl (cI, 81, .inl (nF su))), (md 2, .inl (cI, 81, .inl (nF po))), (md 3, .inl (cI, 91, .inl (nF xs))), (md 4, .inl (cI, 91, .inl (nF ys))), (md 5, .inl (cI, 91, .inl (nF zs)))] (.int (nI (inB x (nn q)).toNat)) := by
  refine Met.ofW (cc := cX7_isPoint) (maxL := 2) (ret := some .boolean) (by decide) rfl ?_
  intro p e s m args below meth c s₁ B hml hv
  obtain ⟨rfl, hP, hK, hN⟩ := hv
  have hx := B.exec
  have hb := B.bytes
  have hr := B.returns
  have hts := atoms_spec (ws := wsX7_isPoint) B.pre
  have hown : s.vm.findClass RX7 = some m.cls := findClass_of_methodNamed B.named
  have hlocks := B.notSynchronized
  have hf83 := hts (.fieldLink RX7 83 "FinitePlanesModel" "n" "I") (by decide +kernel)
  have hiX7 : ∀ w ∈ u_ws RX7 TX7 20, w ∈ wsX7_isPoint := by decide +kernel
  have hl := lv_entry ([.ref (md 0), .int x]) (n := 2) (Nat.le_of_ble_eq_true rfl)
  rw [lg_entry_eq]
  generalize (lg_sl ([.ref (md 0), .int x]) ++ List.replicate (2 - (lg_sl ([.ref (md 0), .int x])).length) Slot.unset).toArray = ls at hl ⊢
  have hl : lv_has ls 2 [(0, .ref (md 0)), (1, .int x)] := hl
  have hq2 := qs_le hM.1
  have hn2 := nn_le hM.1
  refine lv_iload_n hx hb dX7_isPoint_0 rfl (lv_at hl 1 rfl) ?_
  refine lv_iconst (v := nI 0) hx hb dX7_isPoint_1 (by decide) ?_
  refine lv_aload_n hx hb dX7_isPoint_2 rfl (lv_at hl 0 rfl) ?_
  refine va_get (D := D) (ci := 7) (v := .int (nI (nn q))) (C := RX7) (T := TX7) (N := 20) hx hb hts hiX7 hown hK hP 0 rfl rfl 1 (by decide) hf83 (fun _ h9 => h9) rfl dX7_isPoint_3 ?_
  refine lv_iconst (v := nI 1) hx hb dX7_isPoint_6 (by decide) ?_
  refine nv_subE (r := (nn q) - 1) hx hb (by omega) rfl dX7_isPoint_7 ?_
  refine ctR_S (As := [.int x, .int (nI 0), .int (nI ((nn q) - 1))]) (rest := []) (r := .int (nI (inR x 0 ((nn q) - 1)).toNat)) ⟨hx, hb, hml, hown, hts⟩ (c_X7_isFrom l D cI cZ x 0 ((nn q) - 1) (by omega) (by omega)) (va_cwS 3 hts gX7_isPoint_X7_isFrom rfl rfl rfl hdS_X7_isFrom ⟨Nat.le_of_ble_eq_true rfl, Nat.le_of_ble_eq_true rfl⟩) hK hN hP [] rfl rfl hl.1 rfl (Nat.le_of_ble_eq_true rfl) ⟨Nat.zero_le _, Nat.zero_le _⟩ dX7_isPoint_8 ?_
  refine nv_top (v' := .int (nI (inB x (nn q)).toNat)) (by rw [inR_B (by omega)]) ?_
  exact ctR_ret (v := (nI (inB x (nn q)).toNat)) hx hb hr (nar_bool (inB x (nn q))) dX7_isPoint_11 hlocks rfl

set_option maxHeartbeats 4000000 in
set_option maxRecDepth 100000 in
theorem c_X7_three (l : Launch) (D : va_G) (cI cZ : ClassId) (a : Nat) (b : Nat) (g3 : Nat) (k : Nat) (k_1 : k < 3) : CtR l yX7_three wsX7_three { frames := 0, cells := 0, slots := 0, locals := 0 } D (tyG cI cZ) [.int (nI a), .int (nI b), .int (nI g3), .int (nI k)] [] (.int (nI (th3 a b g3 k))) := by
  refine Met.ofW (cc := cX7_three) (maxL := 4) (ret := some .int) (by decide) rfl ?_
  intro p e s m args below meth c s₁ B hml hv
  obtain ⟨rfl, hP, hK, hN⟩ := hv
  have hx := B.exec
  have hb := B.bytes
  have hr := B.returns
  have hts := atoms_spec (ws := wsX7_three) B.pre
  have hown : s.vm.findClass RX7 = some m.cls := findClass_of_methodNamed B.named
  have hlocks := B.notSynchronized
  have hl := lv_entry ([.int (nI a), .int (nI b), .int (nI g3), .int (nI k)]) (n := 4) (Nat.le_of_ble_eq_true rfl)
  rw [lg_entry_eq]
  generalize (lg_sl ([.int (nI a), .int (nI b), .int (nI g3), .int (nI k)]) ++ List.replicate (4 - (lg_sl ([.int (nI a), .int (nI b), .int (nI g3), .int (nI k)])).length) Slot.unset).toArray = ls at hl ⊢
  have hl : lv_has ls 4 [(0, .int (nI a)), (1, .int (nI b)), (2, .int (nI g3)), (3, .int (nI k))] := hl
  refine lv_iload_n hx hb dX7_three_0 rfl (lv_at hl 3 rfl) ?_
  refine nv_if_ne (tgt := 8) hx hb (by omega) dX7_three_1 (by decide) (fun c1 => ?_) (fun c1 => ?_)
  · refine lv_iload_n hx hb dX7_three_8 rfl (lv_at hl 3 rfl) ?_
    refine lv_iconst (v := nI 1) hx hb dX7_three_9 (by decide) ?_
    refine nv_icmp_ne (tgt := 17) hx hb (by omega) (by decide) dX7_three_10 (by decide) (fun c10 => ?_) (fun c10 => ?_)
    · refine lv_iload_n hx hb dX7_three_17 rfl (lv_at hl 2 rfl) ?_
      exact ctR_ret (v := (nI g3)) hx hb hr rfl dX7_three_18 hlocks (by rw [th3, if_neg c1, if_neg c10])
    · refine lv_iload_n hx hb dX7_three_13 rfl (lv_at hl 1 rfl) ?_
      refine lv_goto (tgt := 18) hx hb dX7_three_14 (by decide) ?_
      exact ctR_ret (v := (nI b)) hx hb hr rfl dX7_three_18 hlocks (by rw [th3, if_neg c1, if_pos c10])
  · refine lv_iload_n hx hb dX7_three_4 rfl (lv_at hl 0 rfl) ?_
    refine lv_goto (tgt := 18) hx hb dX7_three_5 (by decide) ?_
    exact ctR_ret (v := (nI a)) hx hb hr rfl dX7_three_18 hlocks (by rw [th3, if_pos c1])

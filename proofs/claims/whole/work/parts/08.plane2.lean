set_option maxHeartbeats 4000000 in
set_option maxRecDepth 100000 in
theorem c_X3_sizeOf (l : Launch) (D : va_G) (cI cZ : ClassId) (ad : Nat → Nat) (q : Nat) (sm : Nat → Nat) (pr : Nat → Nat) (op : Nat → Nat) (iv : Nat → Nat) (hF : FOK q sm pr op iv) (tr : Nat → Nat) (ro : Nat → Nat) (hT : TOK q tr) (aS : Nat) (S : Nat → Bool) : CtR l yX3_sizeOf wsX3_sizeOf { frames := 0, cells := 0, slots := 0, locals := 0 } D (tyG cI cZ) [.ref (ad 5), .ref aS] [(ad 0, .inr (1, [.int (nI q), .ref (ad 1), .ref (ad 2), .ref (ad 3), .ref (ad 4)])), (ad 1, .inl (cI, 81, .inl (nF sm))), (ad 2, .inl (cI, 81, .inl (nF pr))), (ad 3, .inl (cI, 9, .inl (nF op))), (ad 4, .inl (cI, 9, .inl (nF iv))), (ad 5, .inr (3, [.ref (ad 0), .int (nI (nn q)), .ref (ad 6), .ref (ad 7)])), (ad 6, .inl (cI, 273, .inl (nF tr))), (ad 7, .inl (cI, 910, .inl (nF ro))), (aS, .inl (cZ, 91, .inl (bF S)))] (.int (nI (cnt S (nn q)))) := by
  refine Met.ofW (cc := cX3_sizeOf) (maxL := 4) (ret := some .int) (by decide) rfl ?_
  intro p e s m args below meth c s₁ B hml hv
  obtain ⟨rfl, hP, hK, hN⟩ := hv
  have hx := B.exec
  have hb := B.bytes
  have hr := B.returns
  have hts := atoms_spec (ws := wsX3_sizeOf) B.pre
  have hown : s.vm.findClass RX3 = some m.cls := findClass_of_methodNamed B.named
  have hlocks := B.notSynchronized
  have hf31 := hts (.fieldLink RX3 31 "FinitePlanes$Plane" "n" "I") (by decide +kernel)
  have hiX3 : ∀ w ∈ u_ws RX3 TX3 4, w ∈ wsX3_sizeOf := by decide +kernel
  have hl := lv_entry ([.ref (ad 5), .ref aS]) (n := 4) (Nat.le_of_ble_eq_true rfl)
  rw [lg_entry_eq]
  generalize (lg_sl ([.ref (ad 5), .ref aS]) ++ List.replicate (4 - (lg_sl ([.ref (ad 5), .ref aS])).length) Slot.unset).toArray = ls at hl ⊢
  have hl : lv_has ls 4 [(0, .ref (ad 5)), (1, .ref aS)] := hl
  have hq2 := qs_le hF.1
  have hn2 := nn_le hF.1
  refine lv_iconst (v := nI 0) hx hb dX3_sizeOf_0 (by decide) ?_
  refine lv_istore_n (lv' := [(2, .int (nI 0)), (0, .ref (ad 5)), (1, .ref aS)]) hx hb dX3_sizeOf_1 rfl hl (by decide) rfl (fun ls hl => ?_)
  refine lv_iconst (v := nI 0) hx hb dX3_sizeOf_2 (by decide) ?_
  refine lv_istore_n (lv' := [(3, .int (nI 0)), (2, .int (nI 0)), (0, .ref (ad 5)), (1, .ref aS)]) hx hb dX3_sizeOf_3 rfl hl (by decide) rfl (fun ls hl => ?_)
  have L4 : ∀ (N4 : Nat) (i : Nat) (x : Nat) (ls : Array Slot), nn q - i < N4 → (i ≤ nn q) → (x = cnt S i) → lv_has ls 4 [(0, .ref (ad 5)), (1, .ref aS), (2, .int (nI x)), (3, .int (nI i))] → WR p l e wsX3_sizeOf { frames := 0, cells := 0, slots := 0, locals := 0 } s m [.ref (ad 5), .ref aS] below meth c (.int (nI (cnt S (nn q)))) 4 ls [] := by
    intro N4
    induction N4 with
    | zero => intro i x ls hN; exact absurd hN (Nat.not_lt_zero _)
    | succ N4 ih4 =>
      intro i x ls hN4 k_i k_x hl
      have hc := cnt_le S i
      refine lv_iload_n hx hb dX3_sizeOf_4 rfl (lv_at hl 3 rfl) ?_
      refine lv_aload_n hx hb dX3_sizeOf_5 rfl (lv_at hl 0 rfl) ?_
      refine va_get (D := D) (ci := 3) (v := .int (nI (nn q))) (C := RX3) (T := TX3) (N := 4) hx hb hts hiX3 hown hK hP 5 rfl rfl 1 (by decide) hf31 (fun _ h9 => h9) rfl dX3_sizeOf_6 ?_
      refine nv_icmp_ge (tgt := 27) hx hb (by omega) (by omega) dX3_sizeOf_9 (by decide) (fun c9 => ?_) (fun c9 => ?_)
      · refine lv_iload_n hx hb dX3_sizeOf_27 rfl (lv_at hl 2 rfl) ?_
        exact ctR_ret (v := (nI x)) hx hb hr rfl dX3_sizeOf_28 hlocks (by rw [k_x, show i = nn q by omega])
      · refine lv_aload_n hx hb dX3_sizeOf_12 rfl (lv_at hl 1 rfl) ?_
        refine lv_iload_n hx hb dX3_sizeOf_13 rfl (lv_at hl 3 rfl) ?_
        refine nv_zald hx hb hK hP 8 1 rfl rfl (by omega) (by decide) dX3_sizeOf_14 ?_
        refine nv_ifb_eq (tgt := 21) hx hb dX3_sizeOf_15 (by decide) (fun c15 => ?_) (fun c15 => ?_)
        · refine lv_iinc (v := nI (i + 1)) (lv' := [(3, .int (nI (i + 1))), (0, .ref (ad 5)), (1, .ref aS), (2, .int (nI x))]) hx hb dX3_sizeOf_21 hl (k := 3) rfl (nI_inc i) (by decide) rfl (fun ls hl => ?_)
          refine lv_goto (tgt := 4) hx hb dX3_sizeOf_24 (by decide) ?_
          exact ih4 (i + 1) x ls (by omega) (by omega) (by rw [cnt, c15, k_x]; rfl) (lv_sub hl [1, 2, 3, 0] rfl)
        · refine lv_iinc (v := nI (x + 1)) (lv' := [(2, .int (nI (x + 1))), (0, .ref (ad 5)), (1, .ref aS), (3, .int (nI i))]) hx hb dX3_sizeOf_18 hl (k := 2) rfl (nI_inc x) (by decide) rfl (fun ls hl => ?_)
          refine lv_iinc (v := nI (i + 1)) (lv' := [(3, .int (nI (i + 1))), (2, .int (nI (x + 1))), (0, .ref (ad 5)), (1, .ref aS)]) hx hb dX3_sizeOf_21 hl (k := 3) rfl (nI_inc i) (by decide) rfl (fun ls hl => ?_)
          refine lv_goto (tgt := 4) hx hb dX3_sizeOf_24 (by decide) ?_
          exact ih4 (i + 1) (x + 1) ls (by omega) (by omega) (by rw [cnt, c15, k_x]; rfl) (lv_sub hl [2, 3, 1, 0] rfl)
  exact L4 (nn q - 0 + 1) 0 0 ls (by omega) (by omega) rfl (lv_sub hl [2, 3, 1, 0] rfl)

set_option maxHeartbeats 4000000 in
set_option maxRecDepth 100000 in
theorem c_X3_pick (l : Launch) (D : va_G) (cI cZ : ClassId) (ad : Nat → Nat) (q : Nat) (sm : Nat → Nat) (pr : Nat → Nat) (op : Nat → Nat) (iv : Nat → Nat) (hF : FOK q sm pr op iv) (tr : Nat → Nat) (ro : Nat → Nat) (hT : TOK q tr) (aS : Nat) (S : Nat → Bool) (k : Int32) : CtR l yX3_pick wsX3_pick { frames := 0, cells := 0, slots := 0, locals := 0 } D (tyG cI cZ) [.ref (ad 5), .ref aS, .int k] [(ad 0, .inr (1, [.int (nI q), .ref (ad 1), .ref (ad 2), .ref (ad 3), .ref (ad 4)])), (ad 1, .inl (cI, 81, .inl (nF sm))), (ad 2, .inl (cI, 81, .inl (nF pr))), (ad 3, .inl (cI, 9, .inl (nF op))), (ad 4, .inl (cI, 9, .inl (nF iv))), (ad 5, .inr (3, [.ref (ad 0), .int (nI (nn q)), .ref (ad 6), .ref (ad 7)])), (ad 6, .inl (cI, 273, .inl (nF tr))), (ad 7, .inl (cI, 910, .inl (nF ro))), (aS, .inl (cZ, 91, .inl (bF S)))] (.int (pickZ S (nn q) k)) := by
  refine Met.ofW (cc := cX3_pick) (maxL := 5) (ret := some .int) (by decide) rfl ?_
  intro p e s m args below meth c s₁ B hml hv
  obtain ⟨rfl, hP, hK, hN⟩ := hv
  have hx := B.exec
  have hb := B.bytes
  have hr := B.returns
  have hts := atoms_spec (ws := wsX3_pick) B.pre
  have hown : s.vm.findClass RX3 = some m.cls := findClass_of_methodNamed B.named
  have hlocks := B.notSynchronized
  have hf31 := hts (.fieldLink RX3 31 "FinitePlanes$Plane" "n" "I") (by decide +kernel)
  have hiX3 : ∀ w ∈ u_ws RX3 TX3 4, w ∈ wsX3_pick := by decide +kernel
  have hl := lv_entry ([.ref (ad 5), .ref aS, .int k]) (n := 5) (Nat.le_of_ble_eq_true rfl)
  rw [lg_entry_eq]
  generalize (lg_sl ([.ref (ad 5), .ref aS, .int k]) ++ List.replicate (5 - (lg_sl ([.ref (ad 5), .ref aS, .int k])).length) Slot.unset).toArray = ls at hl ⊢
  have hl : lv_has ls 5 [(0, .ref (ad 5)), (1, .ref aS), (2, .int k)] := hl
  have hq2 := qs_le hF.1
  have hn2 := nn_le hF.1
  refine lv_iconst (v := nI 0) hx hb dX3_pick_0 (by decide) ?_
  refine lv_istore_n (lv' := [(3, .int (nI 0)), (0, .ref (ad 5)), (1, .ref aS), (2, .int k)]) hx hb dX3_pick_1 rfl hl (by decide) rfl (fun ls hl => ?_)
  refine lv_iconst (v := nI 0) hx hb dX3_pick_2 (by decide) ?_
  refine lv_istore (lv' := [(4, .int (nI 0)), (3, .int (nI 0)), (0, .ref (ad 5)), (1, .ref aS), (2, .int k)]) hx hb dX3_pick_3 hl (by decide) rfl (fun ls hl => ?_)
  have L5 : ∀ (N5 : Nat) (i : Nat) (x : Nat) (ls : Array Slot), nn q - i < N5 → (i ≤ nn q) → (x = cnt S i) → (∀ j, j < i → S j = true → ¬ nI (cnt S j) = k) → lv_has ls 5 [(0, .ref (ad 5)), (1, .ref aS), (2, .int k), (3, .int (nI x)), (4, .int (nI i))] → WR p l e wsX3_pick { frames := 0, cells := 0, slots := 0, locals := 0 } s m [.ref (ad 5), .ref aS, .int k] below meth c (.int (pickZ S (nn q) k)) 5 ls [] := by
    intro N5
    induction N5 with
    | zero => intro i x ls hN; exact absurd hN (Nat.not_lt_zero _)
    | succ N5 ih5 =>
      intro i x ls hN5 k_i k_x k_n hl
      have hc := cnt_le S i
      refine lv_iload hx hb dX3_pick_5 (lv_at hl 4 rfl) ?_
      refine lv_aload_n hx hb dX3_pick_7 rfl (lv_at hl 0 rfl) ?_
      refine va_get (D := D) (ci := 3) (v := .int (nI (nn q))) (C := RX3) (T := TX3) (N := 4) hx hb hts hiX3 hown hK hP 5 rfl rfl 1 (by decide) hf31 (fun _ h9 => h9) rfl dX3_pick_8 ?_
      refine nv_icmp_ge (tgt := 38) hx hb (by omega) (by omega) dX3_pick_11 (by decide) (fun c11 => ?_) (fun c11 => ?_)
      · refine lv_iconst (v := (-1)) hx hb dX3_pick_38 (by decide) ?_
        exact ctR_ret (v := (-1)) hx hb hr rfl dX3_pick_39 hlocks (pick_none (by omega) k_n)
      · refine lv_aload_n hx hb dX3_pick_14 rfl (lv_at hl 1 rfl) ?_
        refine lv_iload hx hb dX3_pick_15 (lv_at hl 4 rfl) ?_
        refine nv_zald hx hb hK hP 8 1 rfl rfl (by omega) (by decide) dX3_pick_17 ?_
        refine nv_ifb_eq (tgt := 32) hx hb dX3_pick_18 (by decide) (fun c18 => ?_) (fun c18 => ?_)
        · refine lv_iinc (v := nI (i + 1)) (lv' := [(4, .int (nI (i + 1))), (0, .ref (ad 5)), (1, .ref aS), (2, .int k), (3, .int (nI x))]) hx hb dX3_pick_32 hl (k := 4) rfl (nI_inc i) (by decide) rfl (fun ls hl => ?_)
          refine lv_goto (tgt := 5) hx hb dX3_pick_35 (by decide) ?_
          exact ih5 (i + 1) x ls (by omega) (by omega) (by rw [cnt, c18, k_x]; rfl) (fun j hj hS => (Nat.lt_succ_iff_lt_or_eq.mp hj).elim (fun h => k_n j h hS) (fun h => by rw [h, c18] at hS; cases hS)) (lv_sub hl [1, 2, 3, 4, 0] rfl)
        · refine lv_iload_n hx hb dX3_pick_21 rfl (lv_at hl 3 rfl) ?_
          refine lv_iload_n hx hb dX3_pick_22 rfl (lv_at hl 2 rfl) ?_
          refine lv_icmp_ne (tgt := 29) hx hb dX3_pick_23 (by decide) (fun c23 => ?_) (fun c23 => ?_)
          · refine lv_iinc (v := nI (x + 1)) (lv' := [(3, .int (nI (x + 1))), (0, .ref (ad 5)), (1, .ref aS), (2, .int k), (4, .int (nI i))]) hx hb dX3_pick_29 hl (k := 3) rfl (nI_inc x) (by decide) rfl (fun ls hl => ?_)
            refine lv_iinc (v := nI (i + 1)) (lv' := [(4, .int (nI (i + 1))), (3, .int (nI (x + 1))), (0, .ref (ad 5)), (1, .ref aS), (2, .int k)]) hx hb dX3_pick_32 hl (k := 4) rfl (nI_inc i) (by decide) rfl (fun ls hl => ?_)
            refine lv_goto (tgt := 5) hx hb dX3_pick_35 (by decide) ?_
            exact ih5 (i + 1) (x + 1) ls (by omega) (by omega) (by rw [cnt, c18, k_x]; rfl) (fun j hj hS => (Nat.lt_succ_iff_lt_or_eq.mp hj).elim (fun h => k_n j h hS) (fun h => by rw [h, ← k_x]; exact c23)) (lv_sub hl [2, 3, 4, 1, 0] rfl)
          · refine lv_iload hx hb dX3_pick_26 (lv_at hl 4 rfl) ?_
            exact ctR_ret (v := (nI i)) hx hb hr rfl dX3_pick_28 hlocks (pick_some (by omega) k_n (by omega) c18 (by rw [← k_x]; exact c23))
  exact L5 (nn q - 0 + 1) 0 0 ls (by omega) (by omega) rfl (fun j hj => absurd hj (Nat.not_lt_zero j)) (lv_sub hl [2, 3, 4, 1, 0] rfl)

set_option maxHeartbeats 4000000 in
set_option maxRecDepth 100000 in
theorem c_X3_secants (l : Launch) (D : va_G) (cI cZ : ClassId) (ad : Nat → Nat) (q : Nat) (sm : Nat → Nat) (pr : Nat → Nat) (op : Nat → Nat) (iv : Nat → Nat) (hF : FOK q sm pr op iv) (tr : Nat → Nat) (ro : Nat → Nat) (hT : TOK q tr) (hR : ROK q ro) (aO : Nat) (ol : Nat → Nat) (p0 : Nat) (k_1 : p0 < nn q) (k_2 : ∀ j, j < nn q → ol j < 2 ^ 31) : CtR l yX3_secants wsX3_secants { frames := 1, cells := 0, slots := 0, locals := 22 } D (tyG cI cZ) [.ref (ad 5), .int (nI p0), .ref aO] [(ad 0, .inr (1, [.int (nI q), .ref (ad 1), .ref (ad 2), .ref (ad 3), .ref (ad 4)])), (ad 1, .inl (cI, 81, .inl (nF sm))), (ad 2, .inl (cI, 81, .inl (nF pr))), (ad 3, .inl (cI, 9, .inl (nF op))), (ad 4, .inl (cI, 9, .inl (nF iv))), (ad 5, .inr (3, [.ref (ad 0), .int (nI (nn q)), .ref (ad 6), .ref (ad 7)])), (ad 6, .inl (cI, 273, .inl (nF tr))), (ad 7, .inl (cI, 910, .inl (nF ro))), (aO, .inl (cI, 91, .inl (nF ol)))] (.int (nI (secq q ol p0))) := by
  refine Met.ofW (cc := cX3_secants) (maxL := 5) (ret := some .int) (by decide) rfl ?_
  intro p e s m args below meth c s₁ B hml hv
  obtain ⟨rfl, hP, hK, hN⟩ := hv
  have hx := B.exec
  have hb := B.bytes
  have hr := B.returns
  have hts := atoms_spec (ws := wsX3_secants) B.pre
  have hown : s.vm.findClass RX3 = some m.cls := findClass_of_methodNamed B.named
  have hlocks := B.notSynchronized
  have hf18 := hts (.fieldLink RX3 18 "FinitePlanes$Plane" "field" "LFinitePlanes$Field;") (by decide +kernel)
  have hf25 := hN.use (w := .fieldLinkNest RX3 25 "FinitePlanes$Field" "q" "I" "FinitePlanes") (by decide +kernel) (A := [.ref (ad 5), .int (nI p0), .ref aO].toArray)
  have hiX1 : ∀ w ∈ u_ws RX1 TX1 5, w ∈ wsX3_secants := by decide +kernel
  have hiX3 : ∀ w ∈ u_ws RX3 TX3 4, w ∈ wsX3_secants := by decide +kernel
  have hl := lv_entry ([.ref (ad 5), .int (nI p0), .ref aO]) (n := 5) (Nat.le_of_ble_eq_true rfl)
  rw [lg_entry_eq]
  generalize (lg_sl ([.ref (ad 5), .int (nI p0), .ref aO]) ++ List.replicate (5 - (lg_sl ([.ref (ad 5), .int (nI p0), .ref aO])).length) Slot.unset).toArray = ls at hl ⊢
  have hl : lv_has ls 5 [(0, .ref (ad 5)), (1, .int (nI p0)), (2, .ref aO)] := hl
  have hq2 := qs_le hF.1
  have hn2 := nn_le hF.1
  refine lv_iconst (v := nI 0) hx hb dX3_secants_0 (by decide) ?_
  refine lv_istore_n (lv' := [(3, .int (nI 0)), (0, .ref (ad 5)), (1, .int (nI p0)), (2, .ref aO)]) hx hb dX3_secants_1 rfl hl (by decide) rfl (fun ls hl => ?_)
  refine lv_iconst (v := nI 0) hx hb dX3_secants_2 (by decide) ?_
  refine lv_istore (lv' := [(4, .int (nI 0)), (3, .int (nI 0)), (0, .ref (ad 5)), (1, .int (nI p0)), (2, .ref aO)]) hx hb dX3_secants_3 hl (by decide) rfl (fun ls hl => ?_)
  have L5 : ∀ (N5 : Nat) (i : Nat) (x : Nat) (ls : Array Slot), q + 1 - i < N5 → (i ≤ q + 1) → (x = cnt (fun t => decide (2 ≤ ol (rowq q p0 t))) i) → lv_has ls 5 [(0, .ref (ad 5)), (1, .int (nI p0)), (2, .ref aO), (3, .int (nI x)), (4, .int (nI i))] → WR p l e wsX3_secants { frames := 1, cells := 0, slots := 0, locals := 22 } s m [.ref (ad 5), .int (nI p0), .ref aO] below meth c (.int (nI (secq q ol p0))) 5 ls [] := by
    intro N5
    induction N5 with
    | zero => intro i x ls hN; exact absurd hN (Nat.not_lt_zero _)
    | succ N5 ih5 =>
      intro i x ls hN5 k_i k_x hl
      have hc := cnt_le (fun t => decide (2 ≤ ol (rowq q p0 t))) i
      refine lv_iload hx hb dX3_secants_5 (lv_at hl 4 rfl) ?_
      refine lv_aload_n hx hb dX3_secants_7 rfl (lv_at hl 0 rfl) ?_
      refine va_get (D := D) (ci := 3) (v := .ref (ad 0)) (C := RX3) (T := TX3) (N := 4) hx hb hts hiX3 hown hK hP 5 rfl rfl 0 (by decide) hf18 (fun _ h9 => h9) rfl dX3_secants_8 ?_
      refine va_getN (D := D) (ci := 1) (v := .int (nI q)) (C := RX1) (T := TX1) (N := 5) hx hb hts hiX1 hown hK hP 0 rfl rfl 0 (by decide) hf25 (fun _ h9 => h9) rfl dX3_secants_11 ?_
      refine nv_icmp_gt (tgt := 39) hx hb (by omega) (by omega) dX3_secants_14 (by decide) (fun c14 => ?_) (fun c14 => ?_)
      · refine lv_iload_n hx hb dX3_secants_39 rfl (lv_at hl 3 rfl) ?_
        exact ctR_ret (v := (nI x)) hx hb hr rfl dX3_secants_40 hlocks (by rw [k_x, show i = q + 1 by omega]; rfl)
      · refine lv_aload_n hx hb dX3_secants_17 rfl (lv_at hl 2 rfl) ?_
        refine lv_aload_n hx hb dX3_secants_18 rfl (lv_at hl 0 rfl) ?_
        refine lv_iload_n hx hb dX3_secants_19 rfl (lv_at hl 1 rfl) ?_
        refine lv_iload hx hb dX3_secants_20 (lv_at hl 4 rfl) ?_
        refine ctR_V (As := [.int (nI p0), .int (nI i)]) (rest := [.ref aO]) (r := .int (nI (rowq q p0 i))) ⟨hx, hb, hml, hown, hts⟩ (c_X3_onRow l D cI cZ ad q sm pr op iv hF tr ro hT hR p0 i (by omega) (by omega)) (cwV 2 hts gX3_secants_X3_onRow rfl rfl rfl hdV_X3_onRow ⟨Nat.le_of_ble_eq_true rfl, Nat.le_of_ble_eq_true rfl⟩) hK hN hP [0, 1, 2, 3, 4, 5, 6, 7] rfl 5 3 rfl rfl rfl hl.1 rfl (Nat.le_of_ble_eq_true rfl) ⟨Nat.zero_le _, Nat.zero_le _⟩ dX3_secants_22 ?_
        have hh_1 : rowq q p0 i < nn q := rowq_lt hF.1 (by omega) (by omega)
        refine nv_iald hx hb hK hP 8 0 rfl rfl (by omega) (by decide) dX3_secants_25 ?_
        refine lv_iconst (v := nI 2) hx hb dX3_secants_26 (by decide) ?_
        refine nv_icmp_lt (tgt := 33) hx hb (k_2 _ (by omega)) (by decide) dX3_secants_27 (by decide) (fun c27 => ?_) (fun c27 => ?_)
        · refine lv_iinc (v := nI (i + 1)) (lv' := [(4, .int (nI (i + 1))), (0, .ref (ad 5)), (1, .int (nI p0)), (2, .ref aO), (3, .int (nI x))]) hx hb dX3_secants_33 hl (k := 4) rfl (nI_inc i) (by decide) rfl (fun ls hl => ?_)
          refine lv_goto (tgt := 5) hx hb dX3_secants_36 (by decide) ?_
          exact ih5 (i + 1) x ls (by omega) (by omega) (by rw [cnt, decide_eq_false (by omega), k_x]; rfl) (lv_sub hl [1, 2, 3, 4, 0] rfl)
        · refine lv_iinc (v := nI (x + 1)) (lv' := [(3, .int (nI (x + 1))), (0, .ref (ad 5)), (1, .int (nI p0)), (2, .ref aO), (4, .int (nI i))]) hx hb dX3_secants_30 hl (k := 3) rfl (nI_inc x) (by decide) rfl (fun ls hl => ?_)
          refine lv_iinc (v := nI (i + 1)) (lv' := [(4, .int (nI (i + 1))), (3, .int (nI (x + 1))), (0, .ref (ad 5)), (1, .int (nI p0)), (2, .ref aO)]) hx hb dX3_secants_33 hl (k := 4) rfl (nI_inc i) (by decide) rfl (fun ls hl => ?_)
          refine lv_goto (tgt := 5) hx hb dX3_secants_36 (by decide) ?_
          exact ih5 (i + 1) (x + 1) ls (by omega) (by omega) (by rw [cnt, decide_eq_true c27, k_x]; rfl) (lv_sub hl [2, 3, 4, 1, 0] rfl)
  exact L5 (q + 1 - 0 + 1) 0 0 ls (by omega) (by omega) rfl (lv_sub hl [2, 3, 4, 1, 0] rfl)

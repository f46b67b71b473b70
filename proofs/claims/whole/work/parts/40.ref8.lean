set_option maxHeartbeats 4000000 in
set_option maxRecDepth 100000 in
theorem c_X7_frame (l : Launch) (D : va_G) (cI cZ : ClassId) (md : Nat → Nat) (q : Nat) (w : Nat) (su : Nat → Nat) (po : Nat → Nat) (xs : Nat → Nat) (ys : Nat → Nat) (zs : Nat → Nat) (hM : MOK q su po xs ys zs) (mp : Nat → Nat) (k_m : MPK q mp) (ot : Nat → Nat) (xa : Int32) (xb : Int32) (xc : Int32) (xd : Int32) : CtW (S := (Nat → Nat) × (Nat → Nat)) l yX7_frame wsX7_frame { frames := 4, cells := 0, slots := 0, locals := 93 } D (tyG cI cZ) [.ref (md 0), .int xa, .int xb, .int xc, .int xd] [(md 0, .inr (7, [.int (nI q), .int (nI (nn q)), .ref (md 1), .ref (md 2), .ref (md 3), .ref (md 4), .ref (md 5), .ref (md 6), .ref (md 7), .ref (md 8), .ref (md 9), .ref (md 10), .ref (md 11), .ref (md 12), .ref (md 13), .ref (md 14), .ref (md 15), .ref (md 16), .int (nI w), .ref (md 17)])), (md 1, .inl (cI, 81, .inl (nF su))), (md 2, .inl (cI, 81, .inl (nF po))), (md 3, .inl (cI, 91, .inl (nF xs))), (md 4, .inl (cI, 91, .inl (nF ys))), (md 5, .inl (cI, 91, .inl (nF zs))), (md 7, .inl (cI, 9, .inl (nF mp))), (md 14, .inl (cI, 9, .inl (nF ot)))] (fun u => (fun (mp3 : Nat → Nat) (ot3 : Nat → Nat) => ∀ t, t < 9 → mp3 t = fraM q mp xa xb xc xd t) u.1 u.2) (fun u => (fun (mp3 : Nat → Nat) (ot3 : Nat → Nat) => some (.int (fraZ q xa xb xc xd))) u.1 u.2) (fun u => (fun (mp3 : Nat → Nat) (ot3 : Nat → Nat) => [(md 0, .inr (7, [.int (nI q), .int (nI (nn q)), .ref (md 1), .ref (md 2), .ref (md 3), .ref (md 4), .ref (md 5), .ref (md 6), .ref (md 7), .ref (md 8), .ref (md 9), .ref (md 10), .ref (md 11), .ref (md 12), .ref (md 13), .ref (md 14), .ref (md 15), .ref (md 16), .int (nI w), .ref (md 17)])), (md 1, .inl (cI, 81, .inl (nF su))), (md 2, .inl (cI, 81, .inl (nF po))), (md 3, .inl (cI, 91, .inl (nF xs))), (md 4, .inl (cI, 91, .inl (nF ys))), (md 5, .inl (cI, 91, .inl (nF zs))), (md 7, .inl (cI, 9, .inl (nF mp3))), (md 14, .inl (cI, 9, .inl (nF ot3)))]) u.1 u.2) := by
  intro sz; refine Met.ofW (cc := cX7_frame) (maxL := 6) (ret := some .int) (by decide) rfl ?_
  intro p e s m args below meth c s₁ B hml hv
  obtain ⟨rfl, hsz, hP, hK, hD0, hN⟩ := hv
  have hx := B.exec
  have hb := B.bytes
  have hr := B.returns
  have hts := atoms_spec (ws := wsX7_frame) B.pre
  have hown : s.vm.findClass RX7 = some m.cls := findClass_of_methodNamed B.named
  have hlocks := B.notSynchronized
  subst hsz
  have hD := hD0.self (sz := s.heap.size)
  generalize hAe : va_A [(md 0, .inr (7, [.int (nI q), .int (nI (nn q)), .ref (md 1), .ref (md 2), .ref (md 3), .ref (md 4), .ref (md 5), .ref (md 6), .ref (md 7), .ref (md 8), .ref (md 9), .ref (md 10), .ref (md 11), .ref (md 12), .ref (md 13), .ref (md 14), .ref (md 15), .ref (md 16), .int (nI w), .ref (md 17)])), (md 1, .inl (cI, 81, .inl (nF su))), (md 2, .inl (cI, 81, .inl (nF po))), (md 3, .inl (cI, 91, .inl (nF xs))), (md 4, .inl (cI, 91, .inl (nF ys))), (md 5, .inl (cI, 91, .inl (nF zs))), (md 7, .inl (cI, 9, .inl (nF mp))), (md 14, .inl (cI, 9, .inl (nF ot)))] s.heap.size = A at hD ⊢
  have hA : ∀ q : Nat, s.heap.size ≤ q → A q := fun q h => by rw [← hAe]; exact Or.inr h
  have hS : va_S A s.heap s.heap [] := va_S.rf
  have hP : va_P D vwCl [(md 0, .inr (7, [.int (nI q), .int (nI (nn q)), .ref (md 1), .ref (md 2), .ref (md 3), .ref (md 4), .ref (md 5), .ref (md 6), .ref (md 7), .ref (md 8), .ref (md 9), .ref (md 10), .ref (md 11), .ref (md 12), .ref (md 13), .ref (md 14), .ref (md 15), .ref (md 16), .int (nI w), .ref (md 17)])), (md 1, .inl (cI, 81, .inl (nF su))), (md 2, .inl (cI, 81, .inl (nF po))), (md 3, .inl (cI, 91, .inl (nF xs))), (md 4, .inl (cI, 91, .inl (nF ys))), (md 5, .inl (cI, 91, .inl (nF zs))), (md 7, .inl (cI, 9, .inl (nF mp))), (md 14, .inl (cI, 9, .inl (nF ot)))] s.heap := hP
  have hf29 := hts (.fieldLink RX7 29 "FinitePlanesModel" "map" "[I") (by decide +kernel)
  have hf50 := hts (.fieldLink RX7 50 "FinitePlanesModel" "other" "[I") (by decide +kernel)
  have hiX7 : ∀ w ∈ u_ws RX7 TX7 20, w ∈ wsX7_frame := by decide +kernel
  have hl := lv_entry ([.ref (md 0), .int xa, .int xb, .int xc, .int xd]) (n := 6) (Nat.le_of_ble_eq_true rfl)
  rw [lg_entry_eq]
  generalize (lg_sl ([.ref (md 0), .int xa, .int xb, .int xc, .int xd]) ++ List.replicate (6 - (lg_sl ([.ref (md 0), .int xa, .int xb, .int xc, .int xd])).length) Slot.unset).toArray = ls at hl ⊢
  have hl : lv_has ls 6 [(0, .ref (md 0)), (1, .int xa), (2, .int xb), (3, .int xc), (4, .int xd)] := hl
  have hq2 := qs_le hM.1
  have hn2 := nn_le hM.1
  refine lv_aload_n hx hb dX7_frame_0 rfl (lv_at hl 0 rfl) ?_
  refine lv_iload_n hx hb dX7_frame_1 rfl (lv_at hl 1 rfl) ?_
  refine ctR_V (As := [.int xa]) (rest := []) (r := .int (nI (inB xa (nn q)).toNat)) ⟨hx, hb, hml, hown, hts⟩ (c_X7_isPoint l D cI cZ md q w su po xs ys zs hM xa) (cwV 1 hts gX7_frame_X7_isPoint rfl rfl rfl hdV_X7_isPoint ⟨Nat.le_of_ble_eq_true rfl, Nat.le_of_ble_eq_true rfl⟩) hK hN hP [0, 1, 2, 3, 4, 5] rfl 0 7 rfl rfl rfl hl.1 rfl (Nat.le_of_ble_eq_true rfl) ⟨Nat.zero_le _, Nat.zero_le _⟩ dX7_frame_2 ?_
  refine nv_ifb_eq (tgt := 33) hx hb dX7_frame_5 (by decide) (fun c5 => ?_) (fun c5 => ?_)
  · refine lv_bipush (v := (-2)) hx hb dX7_frame_33 (by decide) ?_
    exact ctW_retI (v := (-2)) (mp, ot) hx hb hr rfl dX7_frame_35 hlocks hS hP hD (by dsimp only; exact (fun t _ => by rw [fraM, if_pos (by rw [c5]; rfl)])) (by rw [fraZ, if_pos (by rw [c5]; rfl)])
  · refine lv_aload_n hx hb dX7_frame_8 rfl (lv_at hl 0 rfl) ?_
    refine lv_iload_n hx hb dX7_frame_9 rfl (lv_at hl 2 rfl) ?_
    refine ctR_V (As := [.int xb]) (rest := []) (r := .int (nI (inB xb (nn q)).toNat)) ⟨hx, hb, hml, hown, hts⟩ (c_X7_isPoint l D cI cZ md q w su po xs ys zs hM xb) (cwV 1 hts gX7_frame_X7_isPoint rfl rfl rfl hdV_X7_isPoint ⟨Nat.le_of_ble_eq_true rfl, Nat.le_of_ble_eq_true rfl⟩) hK hN hP [0, 1, 2, 3, 4, 5] rfl 0 7 rfl rfl rfl hl.1 rfl (Nat.le_of_ble_eq_true rfl) ⟨Nat.zero_le _, Nat.zero_le _⟩ dX7_frame_10 ?_
    refine nv_ifb_eq (tgt := 33) hx hb dX7_frame_13 (by decide) (fun c13 => ?_) (fun c13 => ?_)
    · refine lv_bipush (v := (-2)) hx hb dX7_frame_33 (by decide) ?_
      exact ctW_retI (v := (-2)) (mp, ot) hx hb hr rfl dX7_frame_35 hlocks hS hP hD (by dsimp only; exact (fun t _ => by rw [fraM, if_pos (by rw [c5, c13]; rfl)])) (by rw [fraZ, if_pos (by rw [c5, c13]; rfl)])
    · refine lv_aload_n hx hb dX7_frame_16 rfl (lv_at hl 0 rfl) ?_
      refine lv_iload_n hx hb dX7_frame_17 rfl (lv_at hl 3 rfl) ?_
      refine ctR_V (As := [.int xc]) (rest := []) (r := .int (nI (inB xc (nn q)).toNat)) ⟨hx, hb, hml, hown, hts⟩ (c_X7_isPoint l D cI cZ md q w su po xs ys zs hM xc) (cwV 1 hts gX7_frame_X7_isPoint rfl rfl rfl hdV_X7_isPoint ⟨Nat.le_of_ble_eq_true rfl, Nat.le_of_ble_eq_true rfl⟩) hK hN hP [0, 1, 2, 3, 4, 5] rfl 0 7 rfl rfl rfl hl.1 rfl (Nat.le_of_ble_eq_true rfl) ⟨Nat.zero_le _, Nat.zero_le _⟩ dX7_frame_18 ?_
      refine nv_ifb_eq (tgt := 33) hx hb dX7_frame_21 (by decide) (fun c21 => ?_) (fun c21 => ?_)
      · refine lv_bipush (v := (-2)) hx hb dX7_frame_33 (by decide) ?_
        exact ctW_retI (v := (-2)) (mp, ot) hx hb hr rfl dX7_frame_35 hlocks hS hP hD (by dsimp only; exact (fun t _ => by rw [fraM, if_pos (by rw [c5, c13, c21]; rfl)])) (by rw [fraZ, if_pos (by rw [c5, c13, c21]; rfl)])
      · refine lv_aload_n hx hb dX7_frame_24 rfl (lv_at hl 0 rfl) ?_
        refine lv_iload hx hb dX7_frame_25 (lv_at hl 4 rfl) ?_
        refine ctR_V (As := [.int xd]) (rest := []) (r := .int (nI (inB xd (nn q)).toNat)) ⟨hx, hb, hml, hown, hts⟩ (c_X7_isPoint l D cI cZ md q w su po xs ys zs hM xd) (cwV 1 hts gX7_frame_X7_isPoint rfl rfl rfl hdV_X7_isPoint ⟨Nat.le_of_ble_eq_true rfl, Nat.le_of_ble_eq_true rfl⟩) hK hN hP [0, 1, 2, 3, 4, 5] rfl 0 7 rfl rfl rfl hl.1 rfl (Nat.le_of_ble_eq_true rfl) ⟨Nat.zero_le _, Nat.zero_le _⟩ dX7_frame_27 ?_
        refine nv_ifb_ne (tgt := 36) hx hb dX7_frame_30 (by decide) (fun c30 => ?_) (fun c30 => ?_)
        · have h4 : (inB xa (nn q) && inB xb (nn q) && inB xc (nn q) && inB xd (nn q)) = true := by rw [c5, c13, c21, c30]; rfl
          obtain ⟨ja, hja, rfl⟩ := inB_of (by omega) c5
          obtain ⟨jb, hjb, rfl⟩ := inB_of (by omega) c13
          obtain ⟨jc, hjc, rfl⟩ := inB_of (by omega) c21
          obtain ⟨jd, hjd, rfl⟩ := inB_of (by omega) c30
          refine lv_aload_n hx hb dX7_frame_36 rfl (lv_at hl 0 rfl) ?_
          refine lv_iload_n hx hb dX7_frame_37 rfl (lv_at hl 1 rfl) ?_
          refine lv_iload_n hx hb dX7_frame_38 rfl (lv_at hl 2 rfl) ?_
          refine lv_iload_n hx hb dX7_frame_39 rfl (lv_at hl 3 rfl) ?_
          refine lv_iload hx hb dX7_frame_40 (lv_at hl 4 rfl) ?_
          refine ctR_V (As := [.int (nI ja), .int (nI jb), .int (nI jc), .int (nI jd)]) (rest := []) (r := .int (nI (frq q ja jb jc jd).toNat)) ⟨hx, hb, hml, hown, hts⟩ (c_X7_isFrame l D cI cZ md q w su po xs ys zs hM ja jb jc jd (by omega) (by omega) (by omega) (by omega)) (cwV 4 hts gX7_frame_X7_isFrame rfl rfl rfl hdV_X7_isFrame ⟨Nat.le_of_ble_eq_true rfl, Nat.le_of_ble_eq_true rfl⟩) hK hN hP [0, 1, 2, 3, 4, 5] rfl 0 7 rfl rfl rfl hl.1 rfl (Nat.le_of_ble_eq_true rfl) ⟨Nat.zero_le _, Nat.zero_le _⟩ dX7_frame_42 ?_
          refine nv_ifb_ne (tgt := 50) hx hb dX7_frame_45 (by decide) (fun c45 => ?_) (fun c45 => ?_)
          · refine lv_aload_n hx hb dX7_frame_50 rfl (lv_at hl 0 rfl) ?_
            refine lv_iload_n hx hb dX7_frame_51 rfl (lv_at hl 1 rfl) ?_
            refine lv_iload_n hx hb dX7_frame_52 rfl (lv_at hl 2 rfl) ?_
            refine lv_iload_n hx hb dX7_frame_53 rfl (lv_at hl 3 rfl) ?_
            refine lv_iload hx hb dX7_frame_54 (lv_at hl 4 rfl) ?_
            refine ctW_V (As := [.int (nI ja), .int (nI jb), .int (nI jc), .int (nI jd)]) (rest := []) (wr := [(md 7, .inl (cI, 9, .inl (nF mp)))]) ⟨hx, hb, hml, hown, hts⟩ (c_X7_findFrame l D cI cZ md q w su po xs ys zs hM ot ja jb jc jd (by omega) (by omega) (by omega) (by omega) (frq_v c45)) (cwV 4 hts gX7_frame_X7_findFrame rfl rfl rfl hdV_X7_findFrame ⟨Nat.le_of_ble_eq_true rfl, Nat.le_of_ble_eq_true rfl⟩) hK hN hP hD hS hA [0, 1, 2, 3, 4, 5, 7] [6] rfl rfl rfl (by decide) (by decide) (by decide) 0 7 rfl rfl rfl hl.1 rfl (Nat.le_of_ble_eq_true rfl) ⟨Nat.zero_le _, Nat.zero_le _⟩ dX7_frame_56 (fun ot_1 H locs hu56 hP hD hS => ?_)
            try dsimp only at hu56
            have hP : va_P D vwCl [(md 0, .inr (7, [.int (nI q), .int (nI (nn q)), .ref (md 1), .ref (md 2), .ref (md 3), .ref (md 4), .ref (md 5), .ref (md 6), .ref (md 7), .ref (md 8), .ref (md 9), .ref (md 10), .ref (md 11), .ref (md 12), .ref (md 13), .ref (md 14), .ref (md 15), .ref (md 16), .int (nI w), .ref (md 17)])), (md 1, .inl (cI, 81, .inl (nF su))), (md 2, .inl (cI, 81, .inl (nF po))), (md 3, .inl (cI, 91, .inl (nF xs))), (md 4, .inl (cI, 91, .inl (nF ys))), (md 5, .inl (cI, 91, .inl (nF zs))), (md 7, .inl (cI, 9, .inl (nF mp))), (md 14, .inl (cI, 9, .inl (nF ot_1)))] H := hP.sub [1, 2, 3, 4, 5, 6, 0, 7] rfl
            have hD : va_D A [(md 0, .inr (7, [.int (nI q), .int (nI (nn q)), .ref (md 1), .ref (md 2), .ref (md 3), .ref (md 4), .ref (md 5), .ref (md 6), .ref (md 7), .ref (md 8), .ref (md 9), .ref (md 10), .ref (md 11), .ref (md 12), .ref (md 13), .ref (md 14), .ref (md 15), .ref (md 16), .int (nI w), .ref (md 17)])), (md 1, .inl (cI, 81, .inl (nF su))), (md 2, .inl (cI, 81, .inl (nF po))), (md 3, .inl (cI, 91, .inl (nF xs))), (md 4, .inl (cI, 91, .inl (nF ys))), (md 5, .inl (cI, 91, .inl (nF zs))), (md 7, .inl (cI, 9, .inl (nF mp))), (md 14, .inl (cI, 9, .inl (nF ot_1)))] := hD.sub [1, 2, 3, 4, 5, 6, 0, 7] (by decide) rfl
            refine W.eq (g2 := F0 m 59 ls []) rfl ?_
            obtain ⟨s1, t1, u1, hs1, ht1, hu1, hso, hot⟩ := hu56
            refine lv_iconst (v := nI 0) hx hb dX7_frame_59 (by decide) ?_
            refine lv_istore (lv' := [(5, .int (nI 0)), (0, .ref (md 0)), (1, .int (nI ja)), (2, .int (nI jb)), (3, .int (nI jc)), (4, .int (nI jd))]) hx hb dX7_frame_60 hl (by decide) rfl (fun ls hl => ?_)
            have L62 : ∀ (N62 : Nat) (i : Nat) (n1 : Nat → Nat) (ls : Array Slot) (H : Heap) (locs : List Loc), 9 - i < N62 → (i ≤ 9) → (∀ t, t < i → n1 t = ot_1 t) → lv_has ls 6 [(0, .ref (md 0)), (5, .int (nI i))] → va_P D vwCl [(md 0, .inr (7, [.int (nI q), .int (nI (nn q)), .ref (md 1), .ref (md 2), .ref (md 3), .ref (md 4), .ref (md 5), .ref (md 6), .ref (md 7), .ref (md 8), .ref (md 9), .ref (md 10), .ref (md 11), .ref (md 12), .ref (md 13), .ref (md 14), .ref (md 15), .ref (md 16), .int (nI w), .ref (md 17)])), (md 1, .inl (cI, 81, .inl (nF su))), (md 2, .inl (cI, 81, .inl (nF po))), (md 3, .inl (cI, 91, .inl (nF xs))), (md 4, .inl (cI, 91, .inl (nF ys))), (md 5, .inl (cI, 91, .inl (nF zs))), (md 7, .inl (cI, 9, .inl (nF n1))), (md 14, .inl (cI, 9, .inl (nF ot_1)))] H → va_D A [(md 0, .inr (7, [.int (nI q), .int (nI (nn q)), .ref (md 1), .ref (md 2), .ref (md 3), .ref (md 4), .ref (md 5), .ref (md 6), .ref (md 7), .ref (md 8), .ref (md 9), .ref (md 10), .ref (md 11), .ref (md 12), .ref (md 13), .ref (md 14), .ref (md 15), .ref (md 16), .int (nI w), .ref (md 17)])), (md 1, .inl (cI, 81, .inl (nF su))), (md 2, .inl (cI, 81, .inl (nF po))), (md 3, .inl (cI, 91, .inl (nF xs))), (md 4, .inl (cI, 91, .inl (nF ys))), (md 5, .inl (cI, 91, .inl (nF zs))), (md 7, .inl (cI, 9, .inl (nF n1))), (md 14, .inl (cI, 9, .inl (nF ot_1)))] → va_S A s.heap H locs → WG p l e wsX7_frame { frames := 4, cells := 0, slots := 0, locals := 93 } s m [.ref (md 0), .int (nI ja), .int (nI jb), .int (nI jc), .int (nI jd)] below meth c H locs (CQ (S := (Nat → Nat) × (Nat → Nat)) D (fun u => (fun (mp3 : Nat → Nat) (ot3 : Nat → Nat) => ∀ t, t < 9 → mp3 t = fraM q mp (nI ja) (nI jb) (nI jc) (nI jd) t) u.1 u.2) (fun u => (fun (mp3 : Nat → Nat) (ot3 : Nat → Nat) => some (.int (fraZ q (nI ja) (nI jb) (nI jc) (nI jd)))) u.1 u.2) (fun u => (fun (mp3 : Nat → Nat) (ot3 : Nat → Nat) => [(md 0, .inr (7, [.int (nI q), .int (nI (nn q)), .ref (md 1), .ref (md 2), .ref (md 3), .ref (md 4), .ref (md 5), .ref (md 6), .ref (md 7), .ref (md 8), .ref (md 9), .ref (md 10), .ref (md 11), .ref (md 12), .ref (md 13), .ref (md 14), .ref (md 15), .ref (md 16), .int (nI w), .ref (md 17)])), (md 1, .inl (cI, 81, .inl (nF su))), (md 2, .inl (cI, 81, .inl (nF po))), (md 3, .inl (cI, 91, .inl (nF xs))), (md 4, .inl (cI, 91, .inl (nF ys))), (md 5, .inl (cI, 91, .inl (nF zs))), (md 7, .inl (cI, 9, .inl (nF mp3))), (md 14, .inl (cI, 9, .inl (nF ot3)))]) u.1 u.2) A) A 62 ls [] := by
              intro N62
              induction N62 with
              | zero => intro i n1 ls H locs hN; exact absurd hN (Nat.not_lt_zero _)
              | succ N62 ih62 =>
                intro i n1 ls H locs hN62 k_i k_s hl hP hD hS
                refine lv_iload hx hb dX7_frame_62 (lv_at hl 1 rfl) ?_
                refine lv_bipush (v := nI 9) hx hb dX7_frame_64 (by decide) ?_
                refine nv_icmp_ge (tgt := 89) hx hb (by omega) (by decide) dX7_frame_66 (by decide) (fun c66 => ?_) (fun c66 => ?_)
                · have hcol : ∀ t, t < 9 → n1 t = colq q s1 t1 u1 ja jb jc t := fun t ht => (k_s t (by omega)).trans (hot t ht)
                  refine lv_aload_n hx hb dX7_frame_89 rfl (lv_at hl 0 rfl) ?_
                  refine ctW_V (As := []) (rest := []) (wr := [(md 14, .inl (cI, 9, .inl (nF ot_1)))]) ⟨hx, hb, hml, hown, hts⟩ (c_X7_settle l D cI cZ md q w su po xs ys zs hM n1 (fun t ht => by rw [hcol t ht]; exact colq_lt hM.1 hs1 ht1 hu1 hja hjb hjc ht) (by rw [hdf_congr hcol]; exact frm_ne hM.1 hjd hso)) (cwV 0 hts gX7_frame_X7_settle rfl rfl rfl hdV_X7_settle ⟨Nat.le_of_ble_eq_true rfl, Nat.le_of_ble_eq_true rfl⟩) hK hN hP hD hS hA [0, 1, 2, 3, 4, 5, 6] [7] rfl rfl rfl (by decide) (by decide) (by decide) 0 7 rfl rfl rfl hl.1 rfl (Nat.le_of_ble_eq_true rfl) ⟨Nat.zero_le _, Nat.zero_le _⟩ dX7_frame_90 (fun mp_2 H locs hu90 hP hD hS => ?_)
                  try dsimp only at hu90
                  have hP : va_P D vwCl [(md 0, .inr (7, [.int (nI q), .int (nI (nn q)), .ref (md 1), .ref (md 2), .ref (md 3), .ref (md 4), .ref (md 5), .ref (md 6), .ref (md 7), .ref (md 8), .ref (md 9), .ref (md 10), .ref (md 11), .ref (md 12), .ref (md 13), .ref (md 14), .ref (md 15), .ref (md 16), .int (nI w), .ref (md 17)])), (md 1, .inl (cI, 81, .inl (nF su))), (md 2, .inl (cI, 81, .inl (nF po))), (md 3, .inl (cI, 91, .inl (nF xs))), (md 4, .inl (cI, 91, .inl (nF ys))), (md 5, .inl (cI, 91, .inl (nF zs))), (md 7, .inl (cI, 9, .inl (nF mp_2))), (md 14, .inl (cI, 9, .inl (nF ot_1)))] H := hP.sub [1, 2, 3, 4, 5, 6, 7, 0] rfl
                  have hD : va_D A [(md 0, .inr (7, [.int (nI q), .int (nI (nn q)), .ref (md 1), .ref (md 2), .ref (md 3), .ref (md 4), .ref (md 5), .ref (md 6), .ref (md 7), .ref (md 8), .ref (md 9), .ref (md 10), .ref (md 11), .ref (md 12), .ref (md 13), .ref (md 14), .ref (md 15), .ref (md 16), .int (nI w), .ref (md 17)])), (md 1, .inl (cI, 81, .inl (nF su))), (md 2, .inl (cI, 81, .inl (nF po))), (md 3, .inl (cI, 91, .inl (nF xs))), (md 4, .inl (cI, 91, .inl (nF ys))), (md 5, .inl (cI, 91, .inl (nF zs))), (md 7, .inl (cI, 9, .inl (nF mp_2))), (md 14, .inl (cI, 9, .inl (nF ot_1)))] := hD.sub [1, 2, 3, 4, 5, 6, 7, 0] (by decide) rfl
                  refine W.eq (g2 := F0 m 93 ls []) rfl ?_
                  refine lv_iconst (v := nI 1) hx hb dX7_frame_93 (by decide) ?_
                  exact ctW_retI (v := (nI 1)) (mp_2, ot_1) hx hb hr rfl dX7_frame_94 hlocks hS hP hD (by dsimp only; exact (fun t ht => by rw [fraM, if_neg (bool_nf h4), nv_nI (show ja < 2 ^ 31 by omega), nv_nI (show jb < 2 ^ 31 by omega), nv_nI (show jc < 2 ^ 31 by omega), nv_nI (show jd < 2 ^ 31 by omega), if_neg (bool_nf c45), hu90 t ht, tld_congr ht hcol]; exact frm_tld hM.1 hja hjb hjc hs1 ht1 hu1 hso (frq_v c45) ht)) (by rw [fraZ, if_neg (bool_nf h4), nv_nI (show ja < 2 ^ 31 by omega), nv_nI (show jb < 2 ^ 31 by omega), nv_nI (show jc < 2 ^ 31 by omega), nv_nI (show jd < 2 ^ 31 by omega), if_neg (bool_nf c45)])
                · refine lv_aload_n hx hb dX7_frame_69 rfl (lv_at hl 0 rfl) ?_
                  refine va_get (D := D) (ci := 7) (v := .ref (md 7)) (C := RX7) (T := TX7) (N := 20) hx hb hts hiX7 hown hK hP 0 rfl rfl 8 (by decide) hf29 (fun _ h9 => h9) rfl dX7_frame_70 ?_
                  refine lv_iload hx hb dX7_frame_73 (lv_at hl 1 rfl) ?_
                  refine lv_aload_n hx hb dX7_frame_75 rfl (lv_at hl 0 rfl) ?_
                  refine va_get (D := D) (ci := 7) (v := .ref (md 14)) (C := RX7) (T := TX7) (N := 20) hx hb hts hiX7 hown hK hP 0 rfl rfl 15 (by decide) hf50 (fun _ h9 => h9) rfl dX7_frame_76 ?_
                  refine lv_iload hx hb dX7_frame_79 (lv_at hl 1 rfl) ?_
                  refine nv_iald hx hb hK hP 7 0 rfl rfl (by omega) (by decide) dX7_frame_81 ?_
                  refine nv_iast hx hb hK hP hD hS 6 0 rfl rfl (by omega) (by decide) dX7_frame_82 (fun H locs hP hD hS => ?_)
                  have hP : va_P D vwCl [(md 0, .inr (7, [.int (nI q), .int (nI (nn q)), .ref (md 1), .ref (md 2), .ref (md 3), .ref (md 4), .ref (md 5), .ref (md 6), .ref (md 7), .ref (md 8), .ref (md 9), .ref (md 10), .ref (md 11), .ref (md 12), .ref (md 13), .ref (md 14), .ref (md 15), .ref (md 16), .int (nI w), .ref (md 17)])), (md 1, .inl (cI, 81, .inl (nF su))), (md 2, .inl (cI, 81, .inl (nF po))), (md 3, .inl (cI, 91, .inl (nF xs))), (md 4, .inl (cI, 91, .inl (nF ys))), (md 5, .inl (cI, 91, .inl (nF zs))), (md 7, .inl (cI, 9, .inl (nF (upN n1 i (ot_1 i))))), (md 14, .inl (cI, 9, .inl (nF ot_1)))] H := hP
                  have hD : va_D A [(md 0, .inr (7, [.int (nI q), .int (nI (nn q)), .ref (md 1), .ref (md 2), .ref (md 3), .ref (md 4), .ref (md 5), .ref (md 6), .ref (md 7), .ref (md 8), .ref (md 9), .ref (md 10), .ref (md 11), .ref (md 12), .ref (md 13), .ref (md 14), .ref (md 15), .ref (md 16), .int (nI w), .ref (md 17)])), (md 1, .inl (cI, 81, .inl (nF su))), (md 2, .inl (cI, 81, .inl (nF po))), (md 3, .inl (cI, 91, .inl (nF xs))), (md 4, .inl (cI, 91, .inl (nF ys))), (md 5, .inl (cI, 91, .inl (nF zs))), (md 7, .inl (cI, 9, .inl (nF (upN n1 i (ot_1 i))))), (md 14, .inl (cI, 9, .inl (nF ot_1)))] := hD
                  refine lv_iinc (v := nI (i + 1)) (lv' := [(5, .int (nI (i + 1))), (0, .ref (md 0))]) hx hb dX7_frame_83 hl (k := 1) rfl (nI_inc i) (by decide) rfl (fun ls hl => ?_)
                  refine lv_goto (tgt := 62) hx hb dX7_frame_86 (by decide) ?_
                  exact ih62 (i + 1) (upN n1 i (ot_1 i)) ls _ _ (by omega) (by omega) (fun t ht => (Nat.lt_succ_iff_lt_or_eq.mp ht).elim (fun h => by rw [upN_n (by omega)]; exact k_s t h) (fun h => by rw [h, upN_s])) (lv_sub hl [1, 0] rfl) hP hD hS
            exact L62 (9 - 0 + 1) 0 mp ls _ _ (by omega) (Nat.zero_le _) (fun t h => absurd h (Nat.not_lt_zero t)) (lv_sub hl [1, 0] rfl) hP hD hS
          · refine lv_iconst (v := (-1)) hx hb dX7_frame_48 (by decide) ?_
            exact ctW_retI (v := (-1)) (mp, ot) hx hb hr rfl dX7_frame_49 hlocks hS hP hD (by dsimp only; exact (fun t _ => by rw [fraM, if_neg (bool_nf h4), nv_nI (show ja < 2 ^ 31 by omega), nv_nI (show jb < 2 ^ 31 by omega), nv_nI (show jc < 2 ^ 31 by omega), nv_nI (show jd < 2 ^ 31 by omega), if_pos c45])) (by rw [fraZ, if_neg (bool_nf h4), nv_nI (show ja < 2 ^ 31 by omega), nv_nI (show jb < 2 ^ 31 by omega), nv_nI (show jc < 2 ^ 31 by omega), nv_nI (show jd < 2 ^ 31 by omega), if_pos c45])
        · refine lv_bipush (v := (-2)) hx hb dX7_frame_33 (by decide) ?_
          exact ctW_retI (v := (-2)) (mp, ot) hx hb hr rfl dX7_frame_35 hlocks hS hP hD (by dsimp only; exact (fun t _ => by rw [fraM, if_pos (by rw [c5, c13, c21, c30]; rfl)])) (by rw [fraZ, if_pos (by rw [c5, c13, c21, c30]; rfl)])

set_option maxHeartbeats 4000000 in
set_option maxRecDepth 100000 in
theorem c_X7_behind (l : Launch) (D : va_G) (cI cZ : ClassId) (md : Nat → Nat) (q : Nat) (w : Nat) (su : Nat → Nat) (po : Nat → Nat) (xs : Nat → Nat) (ys : Nat → Nat) (zs : Nat → Nat) (hM : MOK q su po xs ys zs) (mp : Nat → Nat) (k_m : MPK q mp) (ot : Nat → Nat) (tw : Nat → Nat) (xa : Int32) (xb : Int32) (xc : Int32) (xd : Int32) : CtW (S := (Nat → Nat) × (Nat → Nat) × (Nat → Nat)) l yX7_behind wsX7_behind { frames := 4, cells := 0, slots := 0, locals := 93 } D (tyG cI cZ) [.ref (md 0), .int xa, .int xb, .int xc, .int xd] [(md 0, .inr (7, [.int (nI q), .int (nI (nn q)), .ref (md 1), .ref (md 2), .ref (md 3), .ref (md 4), .ref (md 5), .ref (md 6), .ref (md 7), .ref (md 8), .ref (md 9), .ref (md 10), .ref (md 11), .ref (md 12), .ref (md 13), .ref (md 14), .ref (md 15), .ref (md 16), .int (nI w), .ref (md 17)])), (md 1, .inl (cI, 81, .inl (nF su))), (md 2, .inl (cI, 81, .inl (nF po))), (md 3, .inl (cI, 91, .inl (nF xs))), (md 4, .inl (cI, 91, .inl (nF ys))), (md 5, .inl (cI, 91, .inl (nF zs))), (md 7, .inl (cI, 9, .inl (nF mp))), (md 14, .inl (cI, 9, .inl (nF ot))), (md 16, .inl (cI, 9, .inl (nF tw)))] (fun u => (fun (mp3 : Nat → Nat) (ot3 : Nat → Nat) (tw3 : Nat → Nat) => ∀ t, t < 9 → mp3 t = behM q mp xa xb xc xd t) u.1 u.2.1 u.2.2) (fun u => (fun (mp3 : Nat → Nat) (ot3 : Nat → Nat) (tw3 : Nat → Nat) => some (.int (behZ q mp xa xb xc xd))) u.1 u.2.1 u.2.2) (fun u => (fun (mp3 : Nat → Nat) (ot3 : Nat → Nat) (tw3 : Nat → Nat) => [(md 0, .inr (7, [.int (nI q), .int (nI (nn q)), .ref (md 1), .ref (md 2), .ref (md 3), .ref (md 4), .ref (md 5), .ref (md 6), .ref (md 7), .ref (md 8), .ref (md 9), .ref (md 10), .ref (md 11), .ref (md 12), .ref (md 13), .ref (md 14), .ref (md 15), .ref (md 16), .int (nI w), .ref (md 17)])), (md 1, .inl (cI, 81, .inl (nF su))), (md 2, .inl (cI, 81, .inl (nF po))), (md 3, .inl (cI, 91, .inl (nF xs))), (md 4, .inl (cI, 91, .inl (nF ys))), (md 5, .inl (cI, 91, .inl (nF zs))), (md 7, .inl (cI, 9, .inl (nF mp3))), (md 14, .inl (cI, 9, .inl (nF ot3))), (md 16, .inl (cI, 9, .inl (nF tw3)))]) u.1 u.2.1 u.2.2) := by
  intro sz; refine Met.ofW (cc := cX7_behind) (maxL := 6) (ret := some .int) (by decide) rfl ?_
  intro p e s m args below meth c s₁ B hml hv
  obtain ⟨rfl, hsz, hP, hK, hD0, hN⟩ := hv
  have hx := B.exec
  have hb := B.bytes
  have hr := B.returns
  have hts := atoms_spec (ws := wsX7_behind) B.pre
  have hown : s.vm.findClass RX7 = some m.cls := findClass_of_methodNamed B.named
  have hlocks := B.notSynchronized
  subst hsz
  have hD := hD0.self (sz := s.heap.size)
  generalize hAe : va_A [(md 0, .inr (7, [.int (nI q), .int (nI (nn q)), .ref (md 1), .ref (md 2), .ref (md 3), .ref (md 4), .ref (md 5), .ref (md 6), .ref (md 7), .ref (md 8), .ref (md 9), .ref (md 10), .ref (md 11), .ref (md 12), .ref (md 13), .ref (md 14), .ref (md 15), .ref (md 16), .int (nI w), .ref (md 17)])), (md 1, .inl (cI, 81, .inl (nF su))), (md 2, .inl (cI, 81, .inl (nF po))), (md 3, .inl (cI, 91, .inl (nF xs))), (md 4, .inl (cI, 91, .inl (nF ys))), (md 5, .inl (cI, 91, .inl (nF zs))), (md 7, .inl (cI, 9, .inl (nF mp))), (md 14, .inl (cI, 9, .inl (nF ot))), (md 16, .inl (cI, 9, .inl (nF tw)))] s.heap.size = A at hD ⊢
  have hA : ∀ q : Nat, s.heap.size ≤ q → A q := fun q h => by rw [← hAe]; exact Or.inr h
  have hS : va_S A s.heap s.heap [] := va_S.rf
  have hP : va_P D vwCl [(md 0, .inr (7, [.int (nI q), .int (nI (nn q)), .ref (md 1), .ref (md 2), .ref (md 3), .ref (md 4), .ref (md 5), .ref (md 6), .ref (md 7), .ref (md 8), .ref (md 9), .ref (md 10), .ref (md 11), .ref (md 12), .ref (md 13), .ref (md 14), .ref (md 15), .ref (md 16), .int (nI w), .ref (md 17)])), (md 1, .inl (cI, 81, .inl (nF su))), (md 2, .inl (cI, 81, .inl (nF po))), (md 3, .inl (cI, 91, .inl (nF xs))), (md 4, .inl (cI, 91, .inl (nF ys))), (md 5, .inl (cI, 91, .inl (nF zs))), (md 7, .inl (cI, 9, .inl (nF mp))), (md 14, .inl (cI, 9, .inl (nF ot))), (md 16, .inl (cI, 9, .inl (nF tw)))] s.heap := hP
  have hf29 := hts (.fieldLink RX7 29 "FinitePlanesModel" "map" "[I") (by decide +kernel)
  have hf50 := hts (.fieldLink RX7 50 "FinitePlanesModel" "other" "[I") (by decide +kernel)
  have hf56 := hts (.fieldLink RX7 56 "FinitePlanesModel" "twice" "[I") (by decide +kernel)
  have hiX7 : ∀ w ∈ u_ws RX7 TX7 20, w ∈ wsX7_behind := by decide +kernel
  have hl := lv_entry ([.ref (md 0), .int xa, .int xb, .int xc, .int xd]) (n := 6) (Nat.le_of_ble_eq_true rfl)
  rw [lg_entry_eq]
  generalize (lg_sl ([.ref (md 0), .int xa, .int xb, .int xc, .int xd]) ++ List.replicate (6 - (lg_sl ([.ref (md 0), .int xa, .int xb, .int xc, .int xd])).length) Slot.unset).toArray = ls at hl ⊢
  have hl : lv_has ls 6 [(0, .ref (md 0)), (1, .int xa), (2, .int xb), (3, .int xc), (4, .int xd)] := hl
  have hq2 := qs_le hM.1
  have hn2 := nn_le hM.1
  refine lv_aload_n hx hb dX7_behind_0 rfl (lv_at hl 0 rfl) ?_
  refine lv_iload_n hx hb dX7_behind_1 rfl (lv_at hl 1 rfl) ?_
  refine ctR_V (As := [.int xa]) (rest := []) (r := .int (nI (inB xa (nn q)).toNat)) ⟨hx, hb, hml, hown, hts⟩ (c_X7_isPoint l D cI cZ md q w su po xs ys zs hM xa) (cwV 1 hts gX7_behind_X7_isPoint rfl rfl rfl hdV_X7_isPoint ⟨Nat.le_of_ble_eq_true rfl, Nat.le_of_ble_eq_true rfl⟩) hK hN hP [0, 1, 2, 3, 4, 5] rfl 0 7 rfl rfl rfl hl.1 rfl (Nat.le_of_ble_eq_true rfl) ⟨Nat.zero_le _, Nat.zero_le _⟩ dX7_behind_2 ?_
  refine nv_ifb_eq (tgt := 33) hx hb dX7_behind_5 (by decide) (fun c5 => ?_) (fun c5 => ?_)
  · refine lv_bipush (v := (-2)) hx hb dX7_behind_33 (by decide) ?_
    exact ctW_retI (v := (-2)) (mp, ot, tw) hx hb hr rfl dX7_behind_35 hlocks hS hP hD (by dsimp only; exact (fun t _ => by rw [behM, if_pos (by rw [c5]; rfl)])) (by rw [behZ, if_pos (by rw [c5]; rfl)])
  · refine lv_aload_n hx hb dX7_behind_8 rfl (lv_at hl 0 rfl) ?_
    refine lv_iload_n hx hb dX7_behind_9 rfl (lv_at hl 2 rfl) ?_
    refine ctR_V (As := [.int xb]) (rest := []) (r := .int (nI (inB xb (nn q)).toNat)) ⟨hx, hb, hml, hown, hts⟩ (c_X7_isPoint l D cI cZ md q w su po xs ys zs hM xb) (cwV 1 hts gX7_behind_X7_isPoint rfl rfl rfl hdV_X7_isPoint ⟨Nat.le_of_ble_eq_true rfl, Nat.le_of_ble_eq_true rfl⟩) hK hN hP [0, 1, 2, 3, 4, 5] rfl 0 7 rfl rfl rfl hl.1 rfl (Nat.le_of_ble_eq_true rfl) ⟨Nat.zero_le _, Nat.zero_le _⟩ dX7_behind_10 ?_
    refine nv_ifb_eq (tgt := 33) hx hb dX7_behind_13 (by decide) (fun c13 => ?_) (fun c13 => ?_)
    · refine lv_bipush (v := (-2)) hx hb dX7_behind_33 (by decide) ?_
      exact ctW_retI (v := (-2)) (mp, ot, tw) hx hb hr rfl dX7_behind_35 hlocks hS hP hD (by dsimp only; exact (fun t _ => by rw [behM, if_pos (by rw [c5, c13]; rfl)])) (by rw [behZ, if_pos (by rw [c5, c13]; rfl)])
    · refine lv_aload_n hx hb dX7_behind_16 rfl (lv_at hl 0 rfl) ?_
      refine lv_iload_n hx hb dX7_behind_17 rfl (lv_at hl 3 rfl) ?_
      refine ctR_V (As := [.int xc]) (rest := []) (r := .int (nI (inB xc (nn q)).toNat)) ⟨hx, hb, hml, hown, hts⟩ (c_X7_isPoint l D cI cZ md q w su po xs ys zs hM xc) (cwV 1 hts gX7_behind_X7_isPoint rfl rfl rfl hdV_X7_isPoint ⟨Nat.le_of_ble_eq_true rfl, Nat.le_of_ble_eq_true rfl⟩) hK hN hP [0, 1, 2, 3, 4, 5] rfl 0 7 rfl rfl rfl hl.1 rfl (Nat.le_of_ble_eq_true rfl) ⟨Nat.zero_le _, Nat.zero_le _⟩ dX7_behind_18 ?_
      refine nv_ifb_eq (tgt := 33) hx hb dX7_behind_21 (by decide) (fun c21 => ?_) (fun c21 => ?_)
      · refine lv_bipush (v := (-2)) hx hb dX7_behind_33 (by decide) ?_
        exact ctW_retI (v := (-2)) (mp, ot, tw) hx hb hr rfl dX7_behind_35 hlocks hS hP hD (by dsimp only; exact (fun t _ => by rw [behM, if_pos (by rw [c5, c13, c21]; rfl)])) (by rw [behZ, if_pos (by rw [c5, c13, c21]; rfl)])
      · refine lv_aload_n hx hb dX7_behind_24 rfl (lv_at hl 0 rfl) ?_
        refine lv_iload hx hb dX7_behind_25 (lv_at hl 4 rfl) ?_
        refine ctR_V (As := [.int xd]) (rest := []) (r := .int (nI (inB xd (nn q)).toNat)) ⟨hx, hb, hml, hown, hts⟩ (c_X7_isPoint l D cI cZ md q w su po xs ys zs hM xd) (cwV 1 hts gX7_behind_X7_isPoint rfl rfl rfl hdV_X7_isPoint ⟨Nat.le_of_ble_eq_true rfl, Nat.le_of_ble_eq_true rfl⟩) hK hN hP [0, 1, 2, 3, 4, 5] rfl 0 7 rfl rfl rfl hl.1 rfl (Nat.le_of_ble_eq_true rfl) ⟨Nat.zero_le _, Nat.zero_le _⟩ dX7_behind_27 ?_
        refine nv_ifb_ne (tgt := 36) hx hb dX7_behind_30 (by decide) (fun c30 => ?_) (fun c30 => ?_)
        · have h4 : (inB xa (nn q) && inB xb (nn q) && inB xc (nn q) && inB xd (nn q)) = true := by rw [c5, c13, c21, c30]; rfl
          obtain ⟨ja, hja, rfl⟩ := inB_of (by omega) c5
          obtain ⟨jb, hjb, rfl⟩ := inB_of (by omega) c13
          obtain ⟨jc, hjc, rfl⟩ := inB_of (by omega) c21
          obtain ⟨jd, hjd, rfl⟩ := inB_of (by omega) c30
          refine lv_aload_n hx hb dX7_behind_36 rfl (lv_at hl 0 rfl) ?_
          refine lv_iload_n hx hb dX7_behind_37 rfl (lv_at hl 1 rfl) ?_
          refine lv_iload_n hx hb dX7_behind_38 rfl (lv_at hl 2 rfl) ?_
          refine lv_iload_n hx hb dX7_behind_39 rfl (lv_at hl 3 rfl) ?_
          refine lv_iload hx hb dX7_behind_40 (lv_at hl 4 rfl) ?_
          refine ctR_V (As := [.int (nI ja), .int (nI jb), .int (nI jc), .int (nI jd)]) (rest := []) (r := .int (nI (frq q ja jb jc jd).toNat)) ⟨hx, hb, hml, hown, hts⟩ (c_X7_isFrame l D cI cZ md q w su po xs ys zs hM ja jb jc jd (by omega) (by omega) (by omega) (by omega)) (cwV 4 hts gX7_behind_X7_isFrame rfl rfl rfl hdV_X7_isFrame ⟨Nat.le_of_ble_eq_true rfl, Nat.le_of_ble_eq_true rfl⟩) hK hN hP [0, 1, 2, 3, 4, 5] rfl 0 7 rfl rfl rfl hl.1 rfl (Nat.le_of_ble_eq_true rfl) ⟨Nat.zero_le _, Nat.zero_le _⟩ dX7_behind_42 ?_
          refine nv_ifb_ne (tgt := 50) hx hb dX7_behind_45 (by decide) (fun c45 => ?_) (fun c45 => ?_)
          · refine lv_aload_n hx hb dX7_behind_50 rfl (lv_at hl 0 rfl) ?_
            refine ctR_V (As := []) (rest := []) (r := .int (nI (detq q mp))) ⟨hx, hb, hml, hown, hts⟩ (c_X7_determinant l D cI cZ md q w su po xs ys zs hM mp k_m) (cwV 0 hts gX7_behind_X7_determinant rfl rfl rfl hdV_X7_determinant ⟨Nat.le_of_ble_eq_true rfl, Nat.le_of_ble_eq_true rfl⟩) hK hN hP [0, 1, 2, 3, 4, 5, 6] rfl 0 7 rfl rfl rfl hl.1 rfl (Nat.le_of_ble_eq_true rfl) ⟨Nat.zero_le _, Nat.zero_le _⟩ dX7_behind_51 ?_
            have hh_1 : detq q mp < q := detq_lt hM.1 k_m
            refine nv_if_ne (tgt := 60) hx hb (by omega) dX7_behind_54 (by decide) (fun c54 => ?_) (fun c54 => ?_)
            · refine lv_aload_n hx hb dX7_behind_60 rfl (lv_at hl 0 rfl) ?_
              refine lv_iload_n hx hb dX7_behind_61 rfl (lv_at hl 1 rfl) ?_
              refine lv_iload_n hx hb dX7_behind_62 rfl (lv_at hl 2 rfl) ?_
              refine lv_iload_n hx hb dX7_behind_63 rfl (lv_at hl 3 rfl) ?_
              refine lv_iload hx hb dX7_behind_64 (lv_at hl 4 rfl) ?_
              refine ctW_V (As := [.int (nI ja), .int (nI jb), .int (nI jc), .int (nI jd)]) (rest := []) (wr := [(md 7, .inl (cI, 9, .inl (nF mp))), (md 16, .inl (cI, 9, .inl (nF tw)))]) ⟨hx, hb, hml, hown, hts⟩ (c_X7_findFrame l D cI cZ md q w su po xs ys zs hM ot ja jb jc jd (by omega) (by omega) (by omega) (by omega) (frq_v c45)) (cwV 4 hts gX7_behind_X7_findFrame rfl rfl rfl hdV_X7_findFrame ⟨Nat.le_of_ble_eq_true rfl, Nat.le_of_ble_eq_true rfl⟩) hK hN hP hD hS hA [0, 1, 2, 3, 4, 5, 7] [6, 8] rfl rfl rfl (by decide) (by decide) (by decide) 0 7 rfl rfl rfl hl.1 rfl (Nat.le_of_ble_eq_true rfl) ⟨Nat.zero_le _, Nat.zero_le _⟩ dX7_behind_66 (fun ot_2 H locs hu66 hP hD hS => ?_)
              try dsimp only at hu66
              have hP : va_P D vwCl [(md 0, .inr (7, [.int (nI q), .int (nI (nn q)), .ref (md 1), .ref (md 2), .ref (md 3), .ref (md 4), .ref (md 5), .ref (md 6), .ref (md 7), .ref (md 8), .ref (md 9), .ref (md 10), .ref (md 11), .ref (md 12), .ref (md 13), .ref (md 14), .ref (md 15), .ref (md 16), .int (nI w), .ref (md 17)])), (md 1, .inl (cI, 81, .inl (nF su))), (md 2, .inl (cI, 81, .inl (nF po))), (md 3, .inl (cI, 91, .inl (nF xs))), (md 4, .inl (cI, 91, .inl (nF ys))), (md 5, .inl (cI, 91, .inl (nF zs))), (md 7, .inl (cI, 9, .inl (nF mp))), (md 14, .inl (cI, 9, .inl (nF ot_2))), (md 16, .inl (cI, 9, .inl (nF tw)))] H := hP.sub [2, 3, 4, 5, 6, 7, 0, 8, 1] rfl
              have hD : va_D A [(md 0, .inr (7, [.int (nI q), .int (nI (nn q)), .ref (md 1), .ref (md 2), .ref (md 3), .ref (md 4), .ref (md 5), .ref (md 6), .ref (md 7), .ref (md 8), .ref (md 9), .ref (md 10), .ref (md 11), .ref (md 12), .ref (md 13), .ref (md 14), .ref (md 15), .ref (md 16), .int (nI w), .ref (md 17)])), (md 1, .inl (cI, 81, .inl (nF su))), (md 2, .inl (cI, 81, .inl (nF po))), (md 3, .inl (cI, 91, .inl (nF xs))), (md 4, .inl (cI, 91, .inl (nF ys))), (md 5, .inl (cI, 91, .inl (nF zs))), (md 7, .inl (cI, 9, .inl (nF mp))), (md 14, .inl (cI, 9, .inl (nF ot_2))), (md 16, .inl (cI, 9, .inl (nF tw)))] := hD.sub [2, 3, 4, 5, 6, 7, 0, 8, 1] (by decide) rfl
              refine W.eq (g2 := F0 m 69 ls []) rfl ?_
              obtain ⟨s1, t1, u1, hs1, ht1, hu1, hso, hot⟩ := hu66
              refine lv_iconst (v := nI 0) hx hb dX7_behind_69 (by decide) ?_
              refine lv_istore (lv' := [(5, .int (nI 0)), (0, .ref (md 0)), (1, .int (nI ja)), (2, .int (nI jb)), (3, .int (nI jc)), (4, .int (nI jd))]) hx hb dX7_behind_70 hl (by decide) rfl (fun ls hl => ?_)
              have L72 : ∀ (N72 : Nat) (i : Nat) (n1 : Nat → Nat) (ls : Array Slot) (H : Heap) (locs : List Loc), 9 - i < N72 → (i ≤ 9) → (∀ t, t < i → n1 t = mulq q mp (colq q s1 t1 u1 ja jb jc) t) → lv_has ls 6 [(0, .ref (md 0)), (5, .int (nI i))] → va_P D vwCl [(md 0, .inr (7, [.int (nI q), .int (nI (nn q)), .ref (md 1), .ref (md 2), .ref (md 3), .ref (md 4), .ref (md 5), .ref (md 6), .ref (md 7), .ref (md 8), .ref (md 9), .ref (md 10), .ref (md 11), .ref (md 12), .ref (md 13), .ref (md 14), .ref (md 15), .ref (md 16), .int (nI w), .ref (md 17)])), (md 1, .inl (cI, 81, .inl (nF su))), (md 2, .inl (cI, 81, .inl (nF po))), (md 3, .inl (cI, 91, .inl (nF xs))), (md 4, .inl (cI, 91, .inl (nF ys))), (md 5, .inl (cI, 91, .inl (nF zs))), (md 7, .inl (cI, 9, .inl (nF mp))), (md 14, .inl (cI, 9, .inl (nF ot_2))), (md 16, .inl (cI, 9, .inl (nF n1)))] H → va_D A [(md 0, .inr (7, [.int (nI q), .int (nI (nn q)), .ref (md 1), .ref (md 2), .ref (md 3), .ref (md 4), .ref (md 5), .ref (md 6), .ref (md 7), .ref (md 8), .ref (md 9), .ref (md 10), .ref (md 11), .ref (md 12), .ref (md 13), .ref (md 14), .ref (md 15), .ref (md 16), .int (nI w), .ref (md 17)])), (md 1, .inl (cI, 81, .inl (nF su))), (md 2, .inl (cI, 81, .inl (nF po))), (md 3, .inl (cI, 91, .inl (nF xs))), (md 4, .inl (cI, 91, .inl (nF ys))), (md 5, .inl (cI, 91, .inl (nF zs))), (md 7, .inl (cI, 9, .inl (nF mp))), (md 14, .inl (cI, 9, .inl (nF ot_2))), (md 16, .inl (cI, 9, .inl (nF n1)))] → va_S A s.heap H locs → WG p l e wsX7_behind { frames := 4, cells := 0, slots := 0, locals := 93 } s m [.ref (md 0), .int (nI ja), .int (nI jb), .int (nI jc), .int (nI jd)] below meth c H locs (CQ (S := (Nat → Nat) × (Nat → Nat) × (Nat → Nat)) D (fun u => (fun (mp3 : Nat → Nat) (ot3 : Nat → Nat) (tw3 : Nat → Nat) => ∀ t, t < 9 → mp3 t = behM q mp (nI ja) (nI jb) (nI jc) (nI jd) t) u.1 u.2.1 u.2.2) (fun u => (fun (mp3 : Nat → Nat) (ot3 : Nat → Nat) (tw3 : Nat → Nat) => some (.int (behZ q mp (nI ja) (nI jb) (nI jc) (nI jd)))) u.1 u.2.1 u.2.2) (fun u => (fun (mp3 : Nat → Nat) (ot3 : Nat → Nat) (tw3 : Nat → Nat) => [(md 0, .inr (7, [.int (nI q), .int (nI (nn q)), .ref (md 1), .ref (md 2), .ref (md 3), .ref (md 4), .ref (md 5), .ref (md 6), .ref (md 7), .ref (md 8), .ref (md 9), .ref (md 10), .ref (md 11), .ref (md 12), .ref (md 13), .ref (md 14), .ref (md 15), .ref (md 16), .int (nI w), .ref (md 17)])), (md 1, .inl (cI, 81, .inl (nF su))), (md 2, .inl (cI, 81, .inl (nF po))), (md 3, .inl (cI, 91, .inl (nF xs))), (md 4, .inl (cI, 91, .inl (nF ys))), (md 5, .inl (cI, 91, .inl (nF zs))), (md 7, .inl (cI, 9, .inl (nF mp3))), (md 14, .inl (cI, 9, .inl (nF ot3))), (md 16, .inl (cI, 9, .inl (nF tw3)))]) u.1 u.2.1 u.2.2) A) A 72 ls [] := by
                intro N72
                induction N72 with
                | zero => intro i n1 ls H locs hN; exact absurd hN (Nat.not_lt_zero _)
                | succ N72 ih72 =>
                  intro i n1 ls H locs hN72 k_i k_s hl hP hD hS
                  refine lv_iload hx hb dX7_behind_72 (lv_at hl 1 rfl) ?_
                  refine lv_bipush (v := nI 9) hx hb dX7_behind_74 (by decide) ?_
                  refine nv_icmp_ge (tgt := 134) hx hb (by omega) (by decide) dX7_behind_76 (by decide) (fun c76 => ?_) (fun c76 => ?_)
                  · refine lv_iconst (v := nI 0) hx hb dX7_behind_134 (by decide) ?_
                    refine lv_istore (lv' := [(5, .int (nI 0)), (0, .ref (md 0))]) hx hb dX7_behind_135 hl (by decide) rfl (fun ls hl => ?_)
                    have L137 : ∀ (N137 : Nat) (j : Nat) (n2 : Nat → Nat) (ls : Array Slot) (H : Heap) (locs : List Loc), 9 - j < N137 → (j ≤ 9) → (∀ t, t < j → n2 t = n1 t) → lv_has ls 6 [(0, .ref (md 0)), (5, .int (nI j))] → va_P D vwCl [(md 0, .inr (7, [.int (nI q), .int (nI (nn q)), .ref (md 1), .ref (md 2), .ref (md 3), .ref (md 4), .ref (md 5), .ref (md 6), .ref (md 7), .ref (md 8), .ref (md 9), .ref (md 10), .ref (md 11), .ref (md 12), .ref (md 13), .ref (md 14), .ref (md 15), .ref (md 16), .int (nI w), .ref (md 17)])), (md 1, .inl (cI, 81, .inl (nF su))), (md 2, .inl (cI, 81, .inl (nF po))), (md 3, .inl (cI, 91, .inl (nF xs))), (md 4, .inl (cI, 91, .inl (nF ys))), (md 5, .inl (cI, 91, .inl (nF zs))), (md 7, .inl (cI, 9, .inl (nF n2))), (md 14, .inl (cI, 9, .inl (nF ot_2))), (md 16, .inl (cI, 9, .inl (nF n1)))] H → va_D A [(md 0, .inr (7, [.int (nI q), .int (nI (nn q)), .ref (md 1), .ref (md 2), .ref (md 3), .ref (md 4), .ref (md 5), .ref (md 6), .ref (md 7), .ref (md 8), .ref (md 9), .ref (md 10), .ref (md 11), .ref (md 12), .ref (md 13), .ref (md 14), .ref (md 15), .ref (md 16), .int (nI w), .ref (md 17)])), (md 1, .inl (cI, 81, .inl (nF su))), (md 2, .inl (cI, 81, .inl (nF po))), (md 3, .inl (cI, 91, .inl (nF xs))), (md 4, .inl (cI, 91, .inl (nF ys))), (md 5, .inl (cI, 91, .inl (nF zs))), (md 7, .inl (cI, 9, .inl (nF n2))), (md 14, .inl (cI, 9, .inl (nF ot_2))), (md 16, .inl (cI, 9, .inl (nF n1)))] → va_S A s.heap H locs → WG p l e wsX7_behind { frames := 4, cells := 0, slots := 0, locals := 93 } s m [.ref (md 0), .int (nI ja), .int (nI jb), .int (nI jc), .int (nI jd)] below meth c H locs (CQ (S := (Nat → Nat) × (Nat → Nat) × (Nat → Nat)) D (fun u => (fun (mp3 : Nat → Nat) (ot3 : Nat → Nat) (tw3 : Nat → Nat) => ∀ t, t < 9 → mp3 t = behM q mp (nI ja) (nI jb) (nI jc) (nI jd) t) u.1 u.2.1 u.2.2) (fun u => (fun (mp3 : Nat → Nat) (ot3 : Nat → Nat) (tw3 : Nat → Nat) => some (.int (behZ q mp (nI ja) (nI jb) (nI jc) (nI jd)))) u.1 u.2.1 u.2.2) (fun u => (fun (mp3 : Nat → Nat) (ot3 : Nat → Nat) (tw3 : Nat → Nat) => [(md 0, .inr (7, [.int (nI q), .int (nI (nn q)), .ref (md 1), .ref (md 2), .ref (md 3), .ref (md 4), .ref (md 5), .ref (md 6), .ref (md 7), .ref (md 8), .ref (md 9), .ref (md 10), .ref (md 11), .ref (md 12), .ref (md 13), .ref (md 14), .ref (md 15), .ref (md 16), .int (nI w), .ref (md 17)])), (md 1, .inl (cI, 81, .inl (nF su))), (md 2, .inl (cI, 81, .inl (nF po))), (md 3, .inl (cI, 91, .inl (nF xs))), (md 4, .inl (cI, 91, .inl (nF ys))), (md 5, .inl (cI, 91, .inl (nF zs))), (md 7, .inl (cI, 9, .inl (nF mp3))), (md 14, .inl (cI, 9, .inl (nF ot3))), (md 16, .inl (cI, 9, .inl (nF tw3)))]) u.1 u.2.1 u.2.2) A) A 137 ls [] := by
                      intro N137
                      induction N137 with
                      | zero => intro j n2 ls H locs hN; exact absurd hN (Nat.not_lt_zero _)
                      | succ N137 ih137 =>
                        intro j n2 ls H locs hN137 k_j k_t hl hP hD hS
                        refine lv_iload hx hb dX7_behind_137 (lv_at hl 1 rfl) ?_
                        refine lv_bipush (v := nI 9) hx hb dX7_behind_139 (by decide) ?_
                        refine nv_icmp_ge (tgt := 164) hx hb (by omega) (by decide) dX7_behind_141 (by decide) (fun c141 => ?_) (fun c141 => ?_)
                        · have hmul : ∀ t, t < 9 → n2 t = mulq q mp (colq q s1 t1 u1 ja jb jc) t := fun t ht => (k_t t (by omega)).trans (k_s t (by omega))
                          have hC : MPK q (colq q s1 t1 u1 ja jb jc) := fun t ht => colq_lt hM.1 hs1 ht1 hu1 hja hjb hjc ht
                          refine lv_aload_n hx hb dX7_behind_164 rfl (lv_at hl 0 rfl) ?_
                          refine ctW_V (As := []) (rest := []) (wr := [(md 14, .inl (cI, 9, .inl (nF ot_2))), (md 16, .inl (cI, 9, .inl (nF n1)))]) ⟨hx, hb, hml, hown, hts⟩ (c_X7_settle l D cI cZ md q w su po xs ys zs hM n2 (fun t ht => by rw [hmul t ht]; exact mulq_lt hM.1 k_m hC ht) (by rw [hdf_congr hmul]; exact beh_ne hM.1 k_m hja hjb hjc hjd hs1 ht1 hu1 hso c54)) (cwV 0 hts gX7_behind_X7_settle rfl rfl rfl hdV_X7_settle ⟨Nat.le_of_ble_eq_true rfl, Nat.le_of_ble_eq_true rfl⟩) hK hN hP hD hS hA [0, 1, 2, 3, 4, 5, 6] [7, 8] rfl rfl rfl (by decide) (by decide) (by decide) 0 7 rfl rfl rfl hl.1 rfl (Nat.le_of_ble_eq_true rfl) ⟨Nat.zero_le _, Nat.zero_le _⟩ dX7_behind_165 (fun mp_3 H locs hu165 hP hD hS => ?_)
                          try dsimp only at hu165
                          have hP : va_P D vwCl [(md 0, .inr (7, [.int (nI q), .int (nI (nn q)), .ref (md 1), .ref (md 2), .ref (md 3), .ref (md 4), .ref (md 5), .ref (md 6), .ref (md 7), .ref (md 8), .ref (md 9), .ref (md 10), .ref (md 11), .ref (md 12), .ref (md 13), .ref (md 14), .ref (md 15), .ref (md 16), .int (nI w), .ref (md 17)])), (md 1, .inl (cI, 81, .inl (nF su))), (md 2, .inl (cI, 81, .inl (nF po))), (md 3, .inl (cI, 91, .inl (nF xs))), (md 4, .inl (cI, 91, .inl (nF ys))), (md 5, .inl (cI, 91, .inl (nF zs))), (md 7, .inl (cI, 9, .inl (nF mp_3))), (md 14, .inl (cI, 9, .inl (nF ot_2))), (md 16, .inl (cI, 9, .inl (nF n1)))] H := hP.sub [2, 3, 4, 5, 6, 7, 8, 0, 1] rfl
                          have hD : va_D A [(md 0, .inr (7, [.int (nI q), .int (nI (nn q)), .ref (md 1), .ref (md 2), .ref (md 3), .ref (md 4), .ref (md 5), .ref (md 6), .ref (md 7), .ref (md 8), .ref (md 9), .ref (md 10), .ref (md 11), .ref (md 12), .ref (md 13), .ref (md 14), .ref (md 15), .ref (md 16), .int (nI w), .ref (md 17)])), (md 1, .inl (cI, 81, .inl (nF su))), (md 2, .inl (cI, 81, .inl (nF po))), (md 3, .inl (cI, 91, .inl (nF xs))), (md 4, .inl (cI, 91, .inl (nF ys))), (md 5, .inl (cI, 91, .inl (nF zs))), (md 7, .inl (cI, 9, .inl (nF mp_3))), (md 14, .inl (cI, 9, .inl (nF ot_2))), (md 16, .inl (cI, 9, .inl (nF n1)))] := hD.sub [2, 3, 4, 5, 6, 7, 8, 0, 1] (by decide) rfl
                          refine W.eq (g2 := F0 m 168 ls []) rfl ?_
                          refine lv_iconst (v := nI 1) hx hb dX7_behind_168 (by decide) ?_
                          exact ctW_retI (v := (nI 1)) (mp_3, ot_2, n1) hx hb hr rfl dX7_behind_169 hlocks hS hP hD (by dsimp only; exact (fun t ht => by rw [behM, if_neg (bool_nf h4), nv_nI (show ja < 2 ^ 31 by omega), nv_nI (show jb < 2 ^ 31 by omega), nv_nI (show jc < 2 ^ 31 by omega), nv_nI (show jd < 2 ^ 31 by omega), if_neg (bool_nf c45), if_neg c54, hu165 t ht, tld_congr ht hmul]; exact beh_tld hM.1 k_m hja hjb hjc hjd hs1 ht1 hu1 hso (frq_v c45) ht)) (by rw [behZ, if_neg (bool_nf h4), nv_nI (show ja < 2 ^ 31 by omega), nv_nI (show jb < 2 ^ 31 by omega), nv_nI (show jc < 2 ^ 31 by omega), nv_nI (show jd < 2 ^ 31 by omega), if_neg (bool_nf c45), if_neg c54])
                        · refine lv_aload_n hx hb dX7_behind_144 rfl (lv_at hl 0 rfl) ?_
                          refine va_get (D := D) (ci := 7) (v := .ref (md 7)) (C := RX7) (T := TX7) (N := 20) hx hb hts hiX7 hown hK hP 0 rfl rfl 8 (by decide) hf29 (fun _ h9 => h9) rfl dX7_behind_145 ?_
                          refine lv_iload hx hb dX7_behind_148 (lv_at hl 1 rfl) ?_
                          refine lv_aload_n hx hb dX7_behind_150 rfl (lv_at hl 0 rfl) ?_
                          refine va_get (D := D) (ci := 7) (v := .ref (md 16)) (C := RX7) (T := TX7) (N := 20) hx hb hts hiX7 hown hK hP 0 rfl rfl 17 (by decide) hf56 (fun _ h9 => h9) rfl dX7_behind_151 ?_
                          refine lv_iload hx hb dX7_behind_154 (lv_at hl 1 rfl) ?_
                          refine nv_iald hx hb hK hP 8 0 rfl rfl (by omega) (by decide) dX7_behind_156 ?_
                          refine nv_iast hx hb hK hP hD hS 6 0 rfl rfl (by omega) (by decide) dX7_behind_157 (fun H locs hP hD hS => ?_)
                          have hP : va_P D vwCl [(md 0, .inr (7, [.int (nI q), .int (nI (nn q)), .ref (md 1), .ref (md 2), .ref (md 3), .ref (md 4), .ref (md 5), .ref (md 6), .ref (md 7), .ref (md 8), .ref (md 9), .ref (md 10), .ref (md 11), .ref (md 12), .ref (md 13), .ref (md 14), .ref (md 15), .ref (md 16), .int (nI w), .ref (md 17)])), (md 1, .inl (cI, 81, .inl (nF su))), (md 2, .inl (cI, 81, .inl (nF po))), (md 3, .inl (cI, 91, .inl (nF xs))), (md 4, .inl (cI, 91, .inl (nF ys))), (md 5, .inl (cI, 91, .inl (nF zs))), (md 7, .inl (cI, 9, .inl (nF (upN n2 j (n1 j))))), (md 14, .inl (cI, 9, .inl (nF ot_2))), (md 16, .inl (cI, 9, .inl (nF n1)))] H := hP
                          have hD : va_D A [(md 0, .inr (7, [.int (nI q), .int (nI (nn q)), .ref (md 1), .ref (md 2), .ref (md 3), .ref (md 4), .ref (md 5), .ref (md 6), .ref (md 7), .ref (md 8), .ref (md 9), .ref (md 10), .ref (md 11), .ref (md 12), .ref (md 13), .ref (md 14), .ref (md 15), .ref (md 16), .int (nI w), .ref (md 17)])), (md 1, .inl (cI, 81, .inl (nF su))), (md 2, .inl (cI, 81, .inl (nF po))), (md 3, .inl (cI, 91, .inl (nF xs))), (md 4, .inl (cI, 91, .inl (nF ys))), (md 5, .inl (cI, 91, .inl (nF zs))), (md 7, .inl (cI, 9, .inl (nF (upN n2 j (n1 j))))), (md 14, .inl (cI, 9, .inl (nF ot_2))), (md 16, .inl (cI, 9, .inl (nF n1)))] := hD
                          refine lv_iinc (v := nI (j + 1)) (lv' := [(5, .int (nI (j + 1))), (0, .ref (md 0))]) hx hb dX7_behind_158 hl (k := 1) rfl (nI_inc j) (by decide) rfl (fun ls hl => ?_)
                          refine lv_goto (tgt := 137) hx hb dX7_behind_161 (by decide) ?_
                          exact ih137 (j + 1) (upN n2 j (n1 j)) ls _ _ (by omega) (by omega) (fun t ht => (Nat.lt_succ_iff_lt_or_eq.mp ht).elim (fun h => by rw [upN_n (by omega)]; exact k_t t h) (fun h => by rw [h, upN_s])) (lv_sub hl [1, 0] rfl) hP hD hS
                    exact L137 (9 - 0 + 1) 0 mp ls _ _ (by omega) (Nat.zero_le _) (fun t h => absurd h (Nat.not_lt_zero t)) (lv_sub hl [1, 0] rfl) hP hD hS
                  · have b0 : ot_2 (i % 3) < q := by rw [hot _ (by omega)]; exact colq_lt hM.1 hs1 ht1 hu1 hja hjb hjc (by omega)
                    have b1 : ot_2 (3 + i % 3) < q := by rw [hot _ (by omega)]; exact colq_lt hM.1 hs1 ht1 hu1 hja hjb hjc (by omega)
                    have b2 : ot_2 (6 + i % 3) < q := by rw [hot _ (by omega)]; exact colq_lt hM.1 hs1 ht1 hu1 hja hjb hjc (by omega)
                    refine lv_aload_n hx hb dX7_behind_79 rfl (lv_at hl 0 rfl) ?_
                    refine va_get (D := D) (ci := 7) (v := .ref (md 16)) (C := RX7) (T := TX7) (N := 20) hx hb hts hiX7 hown hK hP 0 rfl rfl 17 (by decide) hf56 (fun _ h9 => h9) rfl dX7_behind_80 ?_
                    refine lv_iload hx hb dX7_behind_83 (lv_at hl 1 rfl) ?_
                    refine lv_aload_n hx hb dX7_behind_85 rfl (lv_at hl 0 rfl) ?_
                    refine lv_iload hx hb dX7_behind_86 (lv_at hl 1 rfl) ?_
                    refine lv_iconst (v := nI 3) hx hb dX7_behind_88 (by decide) ?_
                    refine nv_divE (r := i / 3) hx hb (by omega) (by decide) (by decide) rfl dX7_behind_89 ?_
                    refine lv_iconst (v := nI 3) hx hb dX7_behind_90 (by decide) ?_
                    refine nv_mulE (r := (i / 3) * 3) hx hb rfl dX7_behind_91 ?_
                    refine lv_aload_n hx hb dX7_behind_92 rfl (lv_at hl 0 rfl) ?_
                    refine va_get (D := D) (ci := 7) (v := .ref (md 14)) (C := RX7) (T := TX7) (N := 20) hx hb hts hiX7 hown hK hP 0 rfl rfl 15 (by decide) hf50 (fun _ h9 => h9) rfl dX7_behind_93 ?_
                    refine lv_iload hx hb dX7_behind_96 (lv_at hl 1 rfl) ?_
                    refine lv_iconst (v := nI 3) hx hb dX7_behind_98 (by decide) ?_
                    refine nv_remE (r := i % 3) hx hb (by omega) (by decide) (by decide) rfl dX7_behind_99 ?_
                    refine nv_iald hx hb hK hP 7 0 rfl rfl (by omega) (by decide) dX7_behind_100 ?_
                    refine lv_aload_n hx hb dX7_behind_101 rfl (lv_at hl 0 rfl) ?_
                    refine va_get (D := D) (ci := 7) (v := .ref (md 14)) (C := RX7) (T := TX7) (N := 20) hx hb hts hiX7 hown hK hP 0 rfl rfl 15 (by decide) hf50 (fun _ h9 => h9) rfl dX7_behind_102 ?_
                    refine lv_iconst (v := nI 3) hx hb dX7_behind_105 (by decide) ?_
                    refine lv_iload hx hb dX7_behind_106 (lv_at hl 1 rfl) ?_
                    refine lv_iconst (v := nI 3) hx hb dX7_behind_108 (by decide) ?_
                    refine nv_remE (r := i % 3) hx hb (by omega) (by decide) (by decide) rfl dX7_behind_109 ?_
                    refine nv_addE (r := 3 + (i % 3)) hx hb rfl dX7_behind_110 ?_
                    refine nv_iald hx hb hK hP 7 0 rfl rfl (by omega) (by decide) dX7_behind_111 ?_
                    refine lv_aload_n hx hb dX7_behind_112 rfl (lv_at hl 0 rfl) ?_
                    refine va_get (D := D) (ci := 7) (v := .ref (md 14)) (C := RX7) (T := TX7) (N := 20) hx hb hts hiX7 hown hK hP 0 rfl rfl 15 (by decide) hf50 (fun _ h9 => h9) rfl dX7_behind_113 ?_
                    refine lv_bipush (v := nI 6) hx hb dX7_behind_116 (by decide) ?_
                    refine lv_iload hx hb dX7_behind_118 (lv_at hl 1 rfl) ?_
                    refine lv_iconst (v := nI 3) hx hb dX7_behind_120 (by decide) ?_
                    refine nv_remE (r := i % 3) hx hb (by omega) (by decide) (by decide) rfl dX7_behind_121 ?_
                    refine nv_addE (r := 6 + (i % 3)) hx hb rfl dX7_behind_122 ?_
                    refine nv_iald hx hb hK hP 7 0 rfl rfl (by omega) (by decide) dX7_behind_123 ?_
                    refine ctR_V (As := [.int (nI ((i / 3) * 3)), .int (nI (ot_2 (i % 3))), .int (nI (ot_2 (3 + (i % 3)))), .int (nI (ot_2 (6 + (i % 3))))]) (rest := [.int (nI i), .ref (md 16)]) (r := .int (nI (fadd q (fadd q (fmul q (mp ((i / 3) * 3)) (ot_2 (i % 3))) (fmul q (mp (((i / 3) * 3) + 1)) (ot_2 (3 + (i % 3))))) (fmul q (mp (((i / 3) * 3) + 2)) (ot_2 (6 + (i % 3))))))) ⟨hx, hb, hml, hown, hts⟩ (c_X7_rowOf l D cI cZ md q w su po xs ys zs hM mp k_m ((i / 3) * 3) (ot_2 (i % 3)) (ot_2 (3 + (i % 3))) (ot_2 (6 + (i % 3))) (by omega) (by omega) (by omega) (by omega)) (cwV 4 hts gX7_behind_X7_rowOf rfl rfl rfl hdV_X7_rowOf ⟨Nat.le_of_ble_eq_true rfl, Nat.le_of_ble_eq_true rfl⟩) hK hN hP [0, 1, 2, 3, 4, 5, 6] rfl 0 7 rfl rfl rfl hl.1 rfl (Nat.le_of_ble_eq_true rfl) ⟨Nat.zero_le _, Nat.zero_le _⟩ dX7_behind_124 ?_
                    have hh_4 : fadd q (fadd q (fmul q (mp ((i / 3) * 3)) (ot_2 (i % 3))) (fmul q (mp (((i / 3) * 3) + 1)) (ot_2 (3 + (i % 3))))) (fmul q (mp (((i / 3) * 3) + 2)) (ot_2 (6 + (i % 3)))) < q := fadd_lt hM.1 (fadd_lt hM.1 (fmul_lt hM.1 (k_m _ (by omega)) (by omega)) (fmul_lt hM.1 (k_m _ (by omega)) (by omega))) (fmul_lt hM.1 (k_m _ (by omega)) (by omega))
                    refine nv_iast hx hb hK hP hD hS 8 0 rfl rfl (by omega) (by decide) dX7_behind_127 (fun H locs hP hD hS => ?_)
                    have hP : va_P D vwCl [(md 0, .inr (7, [.int (nI q), .int (nI (nn q)), .ref (md 1), .ref (md 2), .ref (md 3), .ref (md 4), .ref (md 5), .ref (md 6), .ref (md 7), .ref (md 8), .ref (md 9), .ref (md 10), .ref (md 11), .ref (md 12), .ref (md 13), .ref (md 14), .ref (md 15), .ref (md 16), .int (nI w), .ref (md 17)])), (md 1, .inl (cI, 81, .inl (nF su))), (md 2, .inl (cI, 81, .inl (nF po))), (md 3, .inl (cI, 91, .inl (nF xs))), (md 4, .inl (cI, 91, .inl (nF ys))), (md 5, .inl (cI, 91, .inl (nF zs))), (md 7, .inl (cI, 9, .inl (nF mp))), (md 14, .inl (cI, 9, .inl (nF ot_2))), (md 16, .inl (cI, 9, .inl (nF (upN n1 i (fadd q (fadd q (fmul q (mp ((i / 3) * 3)) (ot_2 (i % 3))) (fmul q (mp (((i / 3) * 3) + 1)) (ot_2 (3 + (i % 3))))) (fmul q (mp (((i / 3) * 3) + 2)) (ot_2 (6 + (i % 3)))))))))] H := hP
                    have hD : va_D A [(md 0, .inr (7, [.int (nI q), .int (nI (nn q)), .ref (md 1), .ref (md 2), .ref (md 3), .ref (md 4), .ref (md 5), .ref (md 6), .ref (md 7), .ref (md 8), .ref (md 9), .ref (md 10), .ref (md 11), .ref (md 12), .ref (md 13), .ref (md 14), .ref (md 15), .ref (md 16), .int (nI w), .ref (md 17)])), (md 1, .inl (cI, 81, .inl (nF su))), (md 2, .inl (cI, 81, .inl (nF po))), (md 3, .inl (cI, 91, .inl (nF xs))), (md 4, .inl (cI, 91, .inl (nF ys))), (md 5, .inl (cI, 91, .inl (nF zs))), (md 7, .inl (cI, 9, .inl (nF mp))), (md 14, .inl (cI, 9, .inl (nF ot_2))), (md 16, .inl (cI, 9, .inl (nF (upN n1 i (fadd q (fadd q (fmul q (mp ((i / 3) * 3)) (ot_2 (i % 3))) (fmul q (mp (((i / 3) * 3) + 1)) (ot_2 (3 + (i % 3))))) (fmul q (mp (((i / 3) * 3) + 2)) (ot_2 (6 + (i % 3)))))))))] := hD
                    refine lv_iinc (v := nI (i + 1)) (lv' := [(5, .int (nI (i + 1))), (0, .ref (md 0))]) hx hb dX7_behind_128 hl (k := 1) rfl (nI_inc i) (by decide) rfl (fun ls hl => ?_)
                    refine lv_goto (tgt := 72) hx hb dX7_behind_131 (by decide) ?_
                    exact ih72 (i + 1) (upN n1 i (fadd q (fadd q (fmul q (mp ((i / 3) * 3)) (ot_2 (i % 3))) (fmul q (mp (((i / 3) * 3) + 1)) (ot_2 (3 + (i % 3))))) (fmul q (mp (((i / 3) * 3) + 2)) (ot_2 (6 + (i % 3)))))) ls _ _ (by omega) (by omega) (fun t ht => (Nat.lt_succ_iff_lt_or_eq.mp ht).elim (fun h => by rw [upN_n (by omega)]; exact k_s t h) (fun h => by rw [h, upN_s, hot _ (by omega), hot _ (by omega), hot _ (by omega), mulq, vdot, Nat.mul_comm (i / 3) 3, Nat.add_comm 3 (i % 3), Nat.add_comm 6 (i % 3)]; simp only [Nat.mul_zero, Nat.mul_one, Nat.zero_add, Nat.add_zero, Nat.add_comm])) (lv_sub hl [1, 0] rfl) hP hD hS
              exact L72 (9 - 0 + 1) 0 tw ls _ _ (by omega) (Nat.zero_le _) (fun t h => absurd h (Nat.not_lt_zero t)) (lv_sub hl [1, 0] rfl) hP hD hS
            · refine lv_bipush (v := (-3)) hx hb dX7_behind_57 (by decide) ?_
              exact ctW_retI (v := (-3)) (mp, ot, tw) hx hb hr rfl dX7_behind_59 hlocks hS hP hD (by dsimp only; exact (fun t _ => by rw [behM, if_neg (bool_nf h4), nv_nI (show ja < 2 ^ 31 by omega), nv_nI (show jb < 2 ^ 31 by omega), nv_nI (show jc < 2 ^ 31 by omega), nv_nI (show jd < 2 ^ 31 by omega), if_neg (bool_nf c45), if_pos c54])) (by rw [behZ, if_neg (bool_nf h4), nv_nI (show ja < 2 ^ 31 by omega), nv_nI (show jb < 2 ^ 31 by omega), nv_nI (show jc < 2 ^ 31 by omega), nv_nI (show jd < 2 ^ 31 by omega), if_neg (bool_nf c45), if_pos c54])
          · refine lv_iconst (v := (-1)) hx hb dX7_behind_48 (by decide) ?_
            exact ctW_retI (v := (-1)) (mp, ot, tw) hx hb hr rfl dX7_behind_49 hlocks hS hP hD (by dsimp only; exact (fun t _ => by rw [behM, if_neg (bool_nf h4), nv_nI (show ja < 2 ^ 31 by omega), nv_nI (show jb < 2 ^ 31 by omega), nv_nI (show jc < 2 ^ 31 by omega), nv_nI (show jd < 2 ^ 31 by omega), if_pos c45])) (by rw [behZ, if_neg (bool_nf h4), nv_nI (show ja < 2 ^ 31 by omega), nv_nI (show jb < 2 ^ 31 by omega), nv_nI (show jc < 2 ^ 31 by omega), nv_nI (show jd < 2 ^ 31 by omega), if_pos c45])
        · refine lv_bipush (v := (-2)) hx hb dX7_behind_33 (by decide) ?_
          exact ctW_retI (v := (-2)) (mp, ot, tw) hx hb hr rfl dX7_behind_35 hlocks hS hP hD (by dsimp only; exact (fun t _ => by rw [behM, if_pos (by rw [c5, c13, c21, c30]; rfl)])) (by rw [behZ, if_pos (by rw [c5, c13, c21, c30]; rfl)])

set_option maxHeartbeats 4000000 in
set_option maxRecDepth 100000 in
theorem c_X7_isSum (l : Launch) (D : va_G) (cI cZ : ClassId) (md : Nat → Nat) (q : Nat) (w : Nat) (su : Nat → Nat) (po : Nat → Nat) (xs : Nat → Nat) (ys : Nat → Nat) (zs : Nat → Nat) (hM : MOK q su po xs ys zs) (g : Nat) (a : Nat) (b : Nat) (s1 : Nat) (t1 : Nat) (k_1 : g < nn q) (k_2 : a < nn q) (k_3 : b < nn q) (k_4 : s1 < q) (k_5 : t1 < q) : CtR l yX7_isSum wsX7_isSum { frames := 1, cells := 0, slots := 0, locals := 22 } D (tyG cI cZ) [.ref (md 0), .int (nI g), .int (nI a), .int (nI b), .int (nI s1), .int (nI t1)] [(md 0, .inr (7, [.int (nI q), .int (nI (nn q)), .ref (md 1), .ref (md 2), .ref (md 3), .ref (md 4), .ref (md 5), .ref (md 6), .ref (md 7), .ref (md 8), .ref (md 9), .ref (md 10), .ref (md 11), .ref (md 12), .ref (md 13), .ref (md 14), .ref (md 15), .ref (md 16), .int (nI w), .ref (md 17)])), (md 1, .inl (cI, 81, .inl (nF su))), (md 2, .inl (cI, 81, .inl (nF po))), (md 3, .inl (cI, 91, .inl (nF xs))), (md 4, .inl (cI, 91, .inl (nF ys))), (md 5, .inl (cI, 91, .inl (nF zs)))] (.int (nI (sol2B q g a b s1 t1).toNat)) := by
  refine Met.ofW (cc := cX7_isSum) (maxL := 6) (ret := some .boolean) (by decide) rfl ?_
  intro p e s m args below meth c s₁ B hml hv
  obtain ⟨rfl, hP, hK, hN⟩ := hv
  have hx := B.exec
  have hb := B.bytes
  have hr := B.returns
  have hts := atoms_spec (ws := wsX7_isSum) B.pre
  have hown : s.vm.findClass RX7 = some m.cls := findClass_of_methodNamed B.named
  have hlocks := B.notSynchronized
  have hf16 := hts (.fieldLink RX7 16 "FinitePlanesModel" "xs" "[I") (by decide +kernel)
  have hf19 := hts (.fieldLink RX7 19 "FinitePlanesModel" "ys" "[I") (by decide +kernel)
  have hf22 := hts (.fieldLink RX7 22 "FinitePlanesModel" "zs" "[I") (by decide +kernel)
  have hiX7 : ∀ w ∈ u_ws RX7 TX7 20, w ∈ wsX7_isSum := by decide +kernel
  have hl := lv_entry ([.ref (md 0), .int (nI g), .int (nI a), .int (nI b), .int (nI s1), .int (nI t1)]) (n := 6) (Nat.le_of_ble_eq_true rfl)
  rw [lg_entry_eq]
  generalize (lg_sl ([.ref (md 0), .int (nI g), .int (nI a), .int (nI b), .int (nI s1), .int (nI t1)]) ++ List.replicate (6 - (lg_sl ([.ref (md 0), .int (nI g), .int (nI a), .int (nI b), .int (nI s1), .int (nI t1)])).length) Slot.unset).toArray = ls at hl ⊢
  have hl : lv_has ls 6 [(0, .ref (md 0)), (1, .int (nI g)), (2, .int (nI a)), (3, .int (nI b)), (4, .int (nI s1)), (5, .int (nI t1))] := hl
  have hq2 := qs_le hM.1
  have hn2 := nn_le hM.1
  have pg0 := pt_lt (k := 0) hM.1 k_1 (by decide)
  have pg1 := pt_lt (k := 1) hM.1 k_1 (by decide)
  have pg2 := pt_lt (k := 2) hM.1 k_1 (by decide)
  have pa0 := pt_lt (k := 0) hM.1 k_2 (by decide)
  have pa1 := pt_lt (k := 1) hM.1 k_2 (by decide)
  have pa2 := pt_lt (k := 2) hM.1 k_2 (by decide)
  have pb0 := pt_lt (k := 0) hM.1 k_3 (by decide)
  have pb1 := pt_lt (k := 1) hM.1 k_3 (by decide)
  have pb2 := pt_lt (k := 2) hM.1 k_3 (by decide)
  refine lv_aload_n hx hb dX7_isSum_0 rfl (lv_at hl 0 rfl) ?_
  refine lv_aload_n hx hb dX7_isSum_1 rfl (lv_at hl 0 rfl) ?_
  refine lv_iload hx hb dX7_isSum_2 (lv_at hl 4 rfl) ?_
  refine lv_aload_n hx hb dX7_isSum_4 rfl (lv_at hl 0 rfl) ?_
  refine va_get (D := D) (ci := 7) (v := .ref (md 3)) (C := RX7) (T := TX7) (N := 20) hx hb hts hiX7 hown hK hP 0 rfl rfl 4 (by decide) hf16 (fun _ h9 => h9) rfl dX7_isSum_5 ?_
  refine lv_iload_n hx hb dX7_isSum_8 rfl (lv_at hl 2 rfl) ?_
  refine nv_iald hx hb hK hP 3 0 rfl rfl (by omega) (by decide) dX7_isSum_9 ?_
  refine nv_top (v' := .int (nI (pt q a 0))) (by rw [(hM.2.2.2 a (by omega)).1]) ?_
  refine ctR_V (As := [.int (nI s1), .int (nI (pt q a 0))]) (rest := [.ref (md 0)]) (r := .int (nI (fmul q s1 (pt q a 0)))) ⟨hx, hb, hml, hown, hts⟩ (c_X7_times l D cI cZ md q w su po xs ys zs hM s1 (pt q a 0) (by omega) (by omega)) (cwV 2 hts gX7_isSum_X7_times rfl rfl rfl hdV_X7_times ⟨Nat.le_of_ble_eq_true rfl, Nat.le_of_ble_eq_true rfl⟩) hK hN hP [0, 1, 2, 3, 4, 5] rfl 0 7 rfl rfl rfl hl.1 rfl (Nat.le_of_ble_eq_true rfl) ⟨Nat.zero_le _, Nat.zero_le _⟩ dX7_isSum_10 ?_
  have hh_1 : fmul q s1 (pt q a 0) < q := fmul_lt hM.1 (by omega) (by omega)
  refine lv_aload_n hx hb dX7_isSum_13 rfl (lv_at hl 0 rfl) ?_
  refine lv_iload hx hb dX7_isSum_14 (lv_at hl 5 rfl) ?_
  refine lv_aload_n hx hb dX7_isSum_16 rfl (lv_at hl 0 rfl) ?_
  refine va_get (D := D) (ci := 7) (v := .ref (md 3)) (C := RX7) (T := TX7) (N := 20) hx hb hts hiX7 hown hK hP 0 rfl rfl 4 (by decide) hf16 (fun _ h9 => h9) rfl dX7_isSum_17 ?_
  refine lv_iload_n hx hb dX7_isSum_20 rfl (lv_at hl 3 rfl) ?_
  refine nv_iald hx hb hK hP 3 0 rfl rfl (by omega) (by decide) dX7_isSum_21 ?_
  refine nv_top (v' := .int (nI (pt q b 0))) (by rw [(hM.2.2.2 b (by omega)).1]) ?_
  refine ctR_V (As := [.int (nI t1), .int (nI (pt q b 0))]) (rest := [.int (nI (fmul q s1 (pt q a 0))), .ref (md 0)]) (r := .int (nI (fmul q t1 (pt q b 0)))) ⟨hx, hb, hml, hown, hts⟩ (c_X7_times l D cI cZ md q w su po xs ys zs hM t1 (pt q b 0) (by omega) (by omega)) (cwV 2 hts gX7_isSum_X7_times rfl rfl rfl hdV_X7_times ⟨Nat.le_of_ble_eq_true rfl, Nat.le_of_ble_eq_true rfl⟩) hK hN hP [0, 1, 2, 3, 4, 5] rfl 0 7 rfl rfl rfl hl.1 rfl (Nat.le_of_ble_eq_true rfl) ⟨Nat.zero_le _, Nat.zero_le _⟩ dX7_isSum_22 ?_
  have hh_2 : fmul q t1 (pt q b 0) < q := fmul_lt hM.1 (by omega) (by omega)
  refine ctR_V (As := [.int (nI (fmul q s1 (pt q a 0))), .int (nI (fmul q t1 (pt q b 0)))]) (rest := []) (r := .int (nI (fadd q (fmul q s1 (pt q a 0)) (fmul q t1 (pt q b 0))))) ⟨hx, hb, hml, hown, hts⟩ (c_X7_add l D cI cZ md q w su po xs ys zs hM (fmul q s1 (pt q a 0)) (fmul q t1 (pt q b 0)) (by omega) (by omega)) (cwV 2 hts gX7_isSum_X7_add rfl rfl rfl hdV_X7_add ⟨Nat.le_of_ble_eq_true rfl, Nat.le_of_ble_eq_true rfl⟩) hK hN hP [0, 1, 2, 3, 4, 5] rfl 0 7 rfl rfl rfl hl.1 rfl (Nat.le_of_ble_eq_true rfl) ⟨Nat.zero_le _, Nat.zero_le _⟩ dX7_isSum_25 ?_
  have hh_3 : fadd q (fmul q s1 (pt q a 0)) (fmul q t1 (pt q b 0)) < q := fadd_lt hM.1 (by omega) (by omega)
  refine lv_aload_n hx hb dX7_isSum_28 rfl (lv_at hl 0 rfl) ?_
  refine va_get (D := D) (ci := 7) (v := .ref (md 3)) (C := RX7) (T := TX7) (N := 20) hx hb hts hiX7 hown hK hP 0 rfl rfl 4 (by decide) hf16 (fun _ h9 => h9) rfl dX7_isSum_29 ?_
  refine lv_iload_n hx hb dX7_isSum_32 rfl (lv_at hl 1 rfl) ?_
  refine nv_iald hx hb hK hP 3 0 rfl rfl (by omega) (by decide) dX7_isSum_33 ?_
  refine nv_top (v' := .int (nI (pt q g 0))) (by rw [(hM.2.2.2 g (by omega)).1]) ?_
  refine nv_icmp_ne (tgt := 115) hx hb (by omega) (by omega) dX7_isSum_34 (by decide) (fun c34 => ?_) (fun c34 => ?_)
  · refine lv_iconst (v := nI 0) hx hb dX7_isSum_115 (by decide) ?_
    exact ctR_ret (v := (nI 0)) hx hb hr (nar_bool false) dX7_isSum_116 hlocks (by rw [sol2B, beq_eq_false_iff_ne.mpr c34]; rfl)
  · refine lv_aload_n hx hb dX7_isSum_37 rfl (lv_at hl 0 rfl) ?_
    refine lv_aload_n hx hb dX7_isSum_38 rfl (lv_at hl 0 rfl) ?_
    refine lv_iload hx hb dX7_isSum_39 (lv_at hl 4 rfl) ?_
    refine lv_aload_n hx hb dX7_isSum_41 rfl (lv_at hl 0 rfl) ?_
    refine va_get (D := D) (ci := 7) (v := .ref (md 4)) (C := RX7) (T := TX7) (N := 20) hx hb hts hiX7 hown hK hP 0 rfl rfl 5 (by decide) hf19 (fun _ h9 => h9) rfl dX7_isSum_42 ?_
    refine lv_iload_n hx hb dX7_isSum_45 rfl (lv_at hl 2 rfl) ?_
    refine nv_iald hx hb hK hP 4 0 rfl rfl (by omega) (by decide) dX7_isSum_46 ?_
    refine nv_top (v' := .int (nI (pt q a 1))) (by rw [(hM.2.2.2 a (by omega)).2.1]) ?_
    refine ctR_V (As := [.int (nI s1), .int (nI (pt q a 1))]) (rest := [.ref (md 0)]) (r := .int (nI (fmul q s1 (pt q a 1)))) ⟨hx, hb, hml, hown, hts⟩ (c_X7_times l D cI cZ md q w su po xs ys zs hM s1 (pt q a 1) (by omega) (by omega)) (cwV 2 hts gX7_isSum_X7_times rfl rfl rfl hdV_X7_times ⟨Nat.le_of_ble_eq_true rfl, Nat.le_of_ble_eq_true rfl⟩) hK hN hP [0, 1, 2, 3, 4, 5] rfl 0 7 rfl rfl rfl hl.1 rfl (Nat.le_of_ble_eq_true rfl) ⟨Nat.zero_le _, Nat.zero_le _⟩ dX7_isSum_47 ?_
    have hh_4 : fmul q s1 (pt q a 1) < q := fmul_lt hM.1 (by omega) (by omega)
    refine lv_aload_n hx hb dX7_isSum_50 rfl (lv_at hl 0 rfl) ?_
    refine lv_iload hx hb dX7_isSum_51 (lv_at hl 5 rfl) ?_
    refine lv_aload_n hx hb dX7_isSum_53 rfl (lv_at hl 0 rfl) ?_
    refine va_get (D := D) (ci := 7) (v := .ref (md 4)) (C := RX7) (T := TX7) (N := 20) hx hb hts hiX7 hown hK hP 0 rfl rfl 5 (by decide) hf19 (fun _ h9 => h9) rfl dX7_isSum_54 ?_
    refine lv_iload_n hx hb dX7_isSum_57 rfl (lv_at hl 3 rfl) ?_
    refine nv_iald hx hb hK hP 4 0 rfl rfl (by omega) (by decide) dX7_isSum_58 ?_
    refine nv_top (v' := .int (nI (pt q b 1))) (by rw [(hM.2.2.2 b (by omega)).2.1]) ?_
    refine ctR_V (As := [.int (nI t1), .int (nI (pt q b 1))]) (rest := [.int (nI (fmul q s1 (pt q a 1))), .ref (md 0)]) (r := .int (nI (fmul q t1 (pt q b 1)))) ⟨hx, hb, hml, hown, hts⟩ (c_X7_times l D cI cZ md q w su po xs ys zs hM t1 (pt q b 1) (by omega) (by omega)) (cwV 2 hts gX7_isSum_X7_times rfl rfl rfl hdV_X7_times ⟨Nat.le_of_ble_eq_true rfl, Nat.le_of_ble_eq_true rfl⟩) hK hN hP [0, 1, 2, 3, 4, 5] rfl 0 7 rfl rfl rfl hl.1 rfl (Nat.le_of_ble_eq_true rfl) ⟨Nat.zero_le _, Nat.zero_le _⟩ dX7_isSum_59 ?_
    have hh_5 : fmul q t1 (pt q b 1) < q := fmul_lt hM.1 (by omega) (by omega)
    refine ctR_V (As := [.int (nI (fmul q s1 (pt q a 1))), .int (nI (fmul q t1 (pt q b 1)))]) (rest := []) (r := .int (nI (fadd q (fmul q s1 (pt q a 1)) (fmul q t1 (pt q b 1))))) ⟨hx, hb, hml, hown, hts⟩ (c_X7_add l D cI cZ md q w su po xs ys zs hM (fmul q s1 (pt q a 1)) (fmul q t1 (pt q b 1)) (by omega) (by omega)) (cwV 2 hts gX7_isSum_X7_add rfl rfl rfl hdV_X7_add ⟨Nat.le_of_ble_eq_true rfl, Nat.le_of_ble_eq_true rfl⟩) hK hN hP [0, 1, 2, 3, 4, 5] rfl 0 7 rfl rfl rfl hl.1 rfl (Nat.le_of_ble_eq_true rfl) ⟨Nat.zero_le _, Nat.zero_le _⟩ dX7_isSum_62 ?_
    have hh_6 : fadd q (fmul q s1 (pt q a 1)) (fmul q t1 (pt q b 1)) < q := fadd_lt hM.1 (by omega) (by omega)
    refine lv_aload_n hx hb dX7_isSum_65 rfl (lv_at hl 0 rfl) ?_
    refine va_get (D := D) (ci := 7) (v := .ref (md 4)) (C := RX7) (T := TX7) (N := 20) hx hb hts hiX7 hown hK hP 0 rfl rfl 5 (by decide) hf19 (fun _ h9 => h9) rfl dX7_isSum_66 ?_
    refine lv_iload_n hx hb dX7_isSum_69 rfl (lv_at hl 1 rfl) ?_
    refine nv_iald hx hb hK hP 4 0 rfl rfl (by omega) (by decide) dX7_isSum_70 ?_
    refine nv_top (v' := .int (nI (pt q g 1))) (by rw [(hM.2.2.2 g (by omega)).2.1]) ?_
    refine nv_icmp_ne (tgt := 115) hx hb (by omega) (by omega) dX7_isSum_71 (by decide) (fun c71 => ?_) (fun c71 => ?_)
    · refine lv_iconst (v := nI 0) hx hb dX7_isSum_115 (by decide) ?_
      exact ctR_ret (v := (nI 0)) hx hb hr (nar_bool false) dX7_isSum_116 hlocks (by rw [sol2B, beq_eq_false_iff_ne.mpr c71, Bool.and_false]; rfl)
    · refine lv_aload_n hx hb dX7_isSum_74 rfl (lv_at hl 0 rfl) ?_
      refine lv_aload_n hx hb dX7_isSum_75 rfl (lv_at hl 0 rfl) ?_
      refine lv_iload hx hb dX7_isSum_76 (lv_at hl 4 rfl) ?_
      refine lv_aload_n hx hb dX7_isSum_78 rfl (lv_at hl 0 rfl) ?_
      refine va_get (D := D) (ci := 7) (v := .ref (md 5)) (C := RX7) (T := TX7) (N := 20) hx hb hts hiX7 hown hK hP 0 rfl rfl 6 (by decide) hf22 (fun _ h9 => h9) rfl dX7_isSum_79 ?_
      refine lv_iload_n hx hb dX7_isSum_82 rfl (lv_at hl 2 rfl) ?_
      refine nv_iald hx hb hK hP 5 0 rfl rfl (by omega) (by decide) dX7_isSum_83 ?_
      refine nv_top (v' := .int (nI (pt q a 2))) (by rw [(hM.2.2.2 a (by omega)).2.2]) ?_
      refine ctR_V (As := [.int (nI s1), .int (nI (pt q a 2))]) (rest := [.ref (md 0)]) (r := .int (nI (fmul q s1 (pt q a 2)))) ⟨hx, hb, hml, hown, hts⟩ (c_X7_times l D cI cZ md q w su po xs ys zs hM s1 (pt q a 2) (by omega) (by omega)) (cwV 2 hts gX7_isSum_X7_times rfl rfl rfl hdV_X7_times ⟨Nat.le_of_ble_eq_true rfl, Nat.le_of_ble_eq_true rfl⟩) hK hN hP [0, 1, 2, 3, 4, 5] rfl 0 7 rfl rfl rfl hl.1 rfl (Nat.le_of_ble_eq_true rfl) ⟨Nat.zero_le _, Nat.zero_le _⟩ dX7_isSum_84 ?_
      have hh_7 : fmul q s1 (pt q a 2) < q := fmul_lt hM.1 (by omega) (by omega)
      refine lv_aload_n hx hb dX7_isSum_87 rfl (lv_at hl 0 rfl) ?_
      refine lv_iload hx hb dX7_isSum_88 (lv_at hl 5 rfl) ?_
      refine lv_aload_n hx hb dX7_isSum_90 rfl (lv_at hl 0 rfl) ?_
      refine va_get (D := D) (ci := 7) (v := .ref (md 5)) (C := RX7) (T := TX7) (N := 20) hx hb hts hiX7 hown hK hP 0 rfl rfl 6 (by decide) hf22 (fun _ h9 => h9) rfl dX7_isSum_91 ?_
      refine lv_iload_n hx hb dX7_isSum_94 rfl (lv_at hl 3 rfl) ?_
      refine nv_iald hx hb hK hP 5 0 rfl rfl (by omega) (by decide) dX7_isSum_95 ?_
      refine nv_top (v' := .int (nI (pt q b 2))) (by rw [(hM.2.2.2 b (by omega)).2.2]) ?_
      refine ctR_V (As := [.int (nI t1), .int (nI (pt q b 2))]) (rest := [.int (nI (fmul q s1 (pt q a 2))), .ref (md 0)]) (r := .int (nI (fmul q t1 (pt q b 2)))) ⟨hx, hb, hml, hown, hts⟩ (c_X7_times l D cI cZ md q w su po xs ys zs hM t1 (pt q b 2) (by omega) (by omega)) (cwV 2 hts gX7_isSum_X7_times rfl rfl rfl hdV_X7_times ⟨Nat.le_of_ble_eq_true rfl, Nat.le_of_ble_eq_true rfl⟩) hK hN hP [0, 1, 2, 3, 4, 5] rfl 0 7 rfl rfl rfl hl.1 rfl (Nat.le_of_ble_eq_true rfl) ⟨Nat.zero_le _, Nat.zero_le _⟩ dX7_isSum_96 ?_
      have hh_8 : fmul q t1 (pt q b 2) < q := fmul_lt hM.1 (by omega) (by omega)
      refine ctR_V (As := [.int (nI (fmul q s1 (pt q a 2))), .int (nI (fmul q t1 (pt q b 2)))]) (rest := []) (r := .int (nI (fadd q (fmul q s1 (pt q a 2)) (fmul q t1 (pt q b 2))))) ⟨hx, hb, hml, hown, hts⟩ (c_X7_add l D cI cZ md q w su po xs ys zs hM (fmul q s1 (pt q a 2)) (fmul q t1 (pt q b 2)) (by omega) (by omega)) (cwV 2 hts gX7_isSum_X7_add rfl rfl rfl hdV_X7_add ⟨Nat.le_of_ble_eq_true rfl, Nat.le_of_ble_eq_true rfl⟩) hK hN hP [0, 1, 2, 3, 4, 5] rfl 0 7 rfl rfl rfl hl.1 rfl (Nat.le_of_ble_eq_true rfl) ⟨Nat.zero_le _, Nat.zero_le _⟩ dX7_isSum_99 ?_
      have hh_9 : fadd q (fmul q s1 (pt q a 2)) (fmul q t1 (pt q b 2)) < q := fadd_lt hM.1 (by omega) (by omega)
      refine lv_aload_n hx hb dX7_isSum_102 rfl (lv_at hl 0 rfl) ?_
      refine va_get (D := D) (ci := 7) (v := .ref (md 5)) (C := RX7) (T := TX7) (N := 20) hx hb hts hiX7 hown hK hP 0 rfl rfl 6 (by decide) hf22 (fun _ h9 => h9) rfl dX7_isSum_103 ?_
      refine lv_iload_n hx hb dX7_isSum_106 rfl (lv_at hl 1 rfl) ?_
      refine nv_iald hx hb hK hP 5 0 rfl rfl (by omega) (by decide) dX7_isSum_107 ?_
      refine nv_top (v' := .int (nI (pt q g 2))) (by rw [(hM.2.2.2 g (by omega)).2.2]) ?_
      refine nv_icmp_ne (tgt := 115) hx hb (by omega) (by omega) dX7_isSum_108 (by decide) (fun c108 => ?_) (fun c108 => ?_)
      · refine lv_iconst (v := nI 0) hx hb dX7_isSum_115 (by decide) ?_
        exact ctR_ret (v := (nI 0)) hx hb hr (nar_bool false) dX7_isSum_116 hlocks (by rw [sol2B, beq_eq_false_iff_ne.mpr c108, Bool.and_false]; rfl)
      · refine lv_iconst (v := nI 1) hx hb dX7_isSum_111 (by decide) ?_
        refine lv_goto (tgt := 116) hx hb dX7_isSum_112 (by decide) ?_
        exact ctR_ret (v := (nI 1)) hx hb hr (nar_bool true) dX7_isSum_116 hlocks (by rw [sol2B, beq_iff_eq.mpr c34, beq_iff_eq.mpr c71, beq_iff_eq.mpr c108]; rfl)

set_option maxHeartbeats 4000000 in
set_option maxRecDepth 100000 in
theorem c_X7_sumNumber (l : Launch) (D : va_G) (cI cZ : ClassId) (md : Nat → Nat) (q : Nat) (w : Nat) (su : Nat → Nat) (po : Nat → Nat) (xs : Nat → Nat) (ys : Nat → Nat) (zs : Nat → Nat) (hM : MOK q su po xs ys zs) (g : Nat) (a : Nat) (b : Nat) (k_1 : g < nn q) (k_2 : a < nn q) (k_3 : b < nn q) : CtR l yX7_sumNumber wsX7_sumNumber { frames := 2, cells := 0, slots := 0, locals := 47 } D (tyG cI cZ) [.ref (md 0), .int (nI g), .int (nI a), .int (nI b)] [(md 0, .inr (7, [.int (nI q), .int (nI (nn q)), .ref (md 1), .ref (md 2), .ref (md 3), .ref (md 4), .ref (md 5), .ref (md 6), .ref (md 7), .ref (md 8), .ref (md 9), .ref (md 10), .ref (md 11), .ref (md 12), .ref (md 13), .ref (md 14), .ref (md 15), .ref (md 16), .int (nI w), .ref (md 17)])), (md 1, .inl (cI, 81, .inl (nF su))), (md 2, .inl (cI, 81, .inl (nF po))), (md 3, .inl (cI, 91, .inl (nF xs))), (md 4, .inl (cI, 91, .inl (nF ys))), (md 5, .inl (cI, 91, .inl (nF zs)))] (.int (nI (lsN q g a b (q * q)))) := by
  refine Met.ofW (cc := cX7_sumNumber) (maxL := 6) (ret := some .int) (by decide) rfl ?_
  intro p e s m args below meth c s₁ B hml hv
  obtain ⟨rfl, hP, hK, hN⟩ := hv
  have hx := B.exec
  have hb := B.bytes
  have hr := B.returns
  have hts := atoms_spec (ws := wsX7_sumNumber) B.pre
  have hown : s.vm.findClass RX7 = some m.cls := findClass_of_methodNamed B.named
  have hlocks := B.notSynchronized
  have hf74 := hts (.fieldLink RX7 74 "FinitePlanesModel" "q" "I") (by decide +kernel)
  have hiX7 : ∀ w ∈ u_ws RX7 TX7 20, w ∈ wsX7_sumNumber := by decide +kernel
  have hl := lv_entry ([.ref (md 0), .int (nI g), .int (nI a), .int (nI b)]) (n := 6) (Nat.le_of_ble_eq_true rfl)
  rw [lg_entry_eq]
  generalize (lg_sl ([.ref (md 0), .int (nI g), .int (nI a), .int (nI b)]) ++ List.replicate (6 - (lg_sl ([.ref (md 0), .int (nI g), .int (nI a), .int (nI b)])).length) Slot.unset).toArray = ls at hl ⊢
  have hl : lv_has ls 6 [(0, .ref (md 0)), (1, .int (nI g)), (2, .int (nI a)), (3, .int (nI b))] := hl
  have hq2 := qs_le hM.1
  have hn2 := nn_le hM.1
  have hqq : q * q ≤ 9 * 9 := Nat.mul_le_mul hq2.2 hq2.2
  refine lv_iconst (v := nI 0) hx hb dX7_sumNumber_0 (by decide) ?_
  refine lv_istore (lv' := [(4, .int (nI 0)), (0, .ref (md 0)), (1, .int (nI g)), (2, .int (nI a)), (3, .int (nI b))]) hx hb dX7_sumNumber_1 hl (by decide) rfl (fun ls hl => ?_)
  refine lv_iconst (v := nI 0) hx hb dX7_sumNumber_3 (by decide) ?_
  refine lv_istore (lv' := [(5, .int (nI 0)), (4, .int (nI 0)), (0, .ref (md 0)), (1, .int (nI g)), (2, .int (nI a)), (3, .int (nI b))]) hx hb dX7_sumNumber_4 hl (by decide) rfl (fun ls hl => ?_)
  have L6 : ∀ (N6 : Nat) (x : Nat) (i : Nat) (ls : Array Slot), q * q - i < N6 → (i ≤ q * q) → (x = lsN q g a b i) → lv_has ls 6 [(0, .ref (md 0)), (1, .int (nI g)), (2, .int (nI a)), (3, .int (nI b)), (4, .int (nI x)), (5, .int (nI i))] → WR p l e wsX7_sumNumber { frames := 2, cells := 0, slots := 0, locals := 47 } s m [.ref (md 0), .int (nI g), .int (nI a), .int (nI b)] below meth c (.int (nI (lsN q g a b (q * q)))) 6 ls [] := by
    intro N6
    induction N6 with
    | zero => intro x i ls hN; exact absurd hN (Nat.not_lt_zero _)
    | succ N6 ih6 =>
      intro x i ls hN6 k_i k_x hl
      refine lv_iload hx hb dX7_sumNumber_6 (lv_at hl 5 rfl) ?_
      refine lv_aload_n hx hb dX7_sumNumber_8 rfl (lv_at hl 0 rfl) ?_
      refine va_get (D := D) (ci := 7) (v := .int (nI q)) (C := RX7) (T := TX7) (N := 20) hx hb hts hiX7 hown hK hP 0 rfl rfl 0 (by decide) hf74 (fun _ h9 => h9) rfl dX7_sumNumber_9 ?_
      refine lv_aload_n hx hb dX7_sumNumber_12 rfl (lv_at hl 0 rfl) ?_
      refine va_get (D := D) (ci := 7) (v := .int (nI q)) (C := RX7) (T := TX7) (N := 20) hx hb hts hiX7 hown hK hP 0 rfl rfl 0 (by decide) hf74 (fun _ h9 => h9) rfl dX7_sumNumber_13 ?_
      refine nv_mulE (r := q * q) hx hb rfl dX7_sumNumber_16 ?_
      refine nv_icmp_ge (tgt := 59) hx hb (by omega) (by omega) dX7_sumNumber_17 (by decide) (fun c17 => ?_) (fun c17 => ?_)
      · refine lv_iload hx hb dX7_sumNumber_59 (lv_at hl 4 rfl) ?_
        exact ctR_ret (v := (nI x)) hx hb hr rfl dX7_sumNumber_61 hlocks (by rw [k_x, show i = q * q by omega])
      · have d1 : i / q < q := Nat.div_lt_of_lt_mul c17
        have d2 : i % q < q := Nat.mod_lt _ (by omega)
        refine lv_aload_n hx hb dX7_sumNumber_20 rfl (lv_at hl 0 rfl) ?_
        refine lv_iload_n hx hb dX7_sumNumber_21 rfl (lv_at hl 1 rfl) ?_
        refine lv_iload_n hx hb dX7_sumNumber_22 rfl (lv_at hl 2 rfl) ?_
        refine lv_iload_n hx hb dX7_sumNumber_23 rfl (lv_at hl 3 rfl) ?_
        refine lv_iload hx hb dX7_sumNumber_24 (lv_at hl 5 rfl) ?_
        refine lv_aload_n hx hb dX7_sumNumber_26 rfl (lv_at hl 0 rfl) ?_
        refine va_get (D := D) (ci := 7) (v := .int (nI q)) (C := RX7) (T := TX7) (N := 20) hx hb hts hiX7 hown hK hP 0 rfl rfl 0 (by decide) hf74 (fun _ h9 => h9) rfl dX7_sumNumber_27 ?_
        refine nv_divE (r := i / q) hx hb (by omega) (by omega) (by omega) rfl dX7_sumNumber_30 ?_
        refine lv_iload hx hb dX7_sumNumber_31 (lv_at hl 5 rfl) ?_
        refine lv_aload_n hx hb dX7_sumNumber_33 rfl (lv_at hl 0 rfl) ?_
        refine va_get (D := D) (ci := 7) (v := .int (nI q)) (C := RX7) (T := TX7) (N := 20) hx hb hts hiX7 hown hK hP 0 rfl rfl 0 (by decide) hf74 (fun _ h9 => h9) rfl dX7_sumNumber_34 ?_
        refine nv_remE (r := i % q) hx hb (by omega) (by omega) (by omega) rfl dX7_sumNumber_37 ?_
        refine ctR_V (As := [.int (nI g), .int (nI a), .int (nI b), .int (nI (i / q)), .int (nI (i % q))]) (rest := []) (r := .int (nI (sol2B q g a b (i / q) (i % q)).toNat)) ⟨hx, hb, hml, hown, hts⟩ (c_X7_isSum l D cI cZ md q w su po xs ys zs hM g a b (i / q) (i % q) (by omega) (by omega) (by omega) (by omega) (by omega)) (cwV 5 hts gX7_sumNumber_X7_isSum rfl rfl rfl hdV_X7_isSum ⟨Nat.le_of_ble_eq_true rfl, Nat.le_of_ble_eq_true rfl⟩) hK hN hP [0, 1, 2, 3, 4, 5] rfl 0 7 rfl rfl rfl hl.1 rfl (Nat.le_of_ble_eq_true rfl) ⟨Nat.zero_le _, Nat.zero_le _⟩ dX7_sumNumber_38 ?_
        refine nv_ifb_eq (tgt := 49) hx hb dX7_sumNumber_41 (by decide) (fun c41 => ?_) (fun c41 => ?_)
        · refine lv_iload hx hb dX7_sumNumber_49 (lv_at hl 4 rfl) ?_
          refine lv_istore (lv' := [(4, .int (nI x)), (0, .ref (md 0)), (1, .int (nI g)), (2, .int (nI a)), (3, .int (nI b)), (5, .int (nI i))]) hx hb dX7_sumNumber_51 hl (by decide) rfl (fun ls hl => ?_)
          refine lv_iinc (v := nI (i + 1)) (lv' := [(5, .int (nI (i + 1))), (4, .int (nI x)), (0, .ref (md 0)), (1, .int (nI g)), (2, .int (nI a)), (3, .int (nI b))]) hx hb dX7_sumNumber_53 hl (k := 5) rfl (nI_inc i) (by decide) rfl (fun ls hl => ?_)
          refine lv_goto (tgt := 6) hx hb dX7_sumNumber_56 (by decide) ?_
          exact ih6 x (i + 1) ls (by omega) (by omega) (by rw [lsN, if_neg (by rw [c41]; decide), k_x]) (lv_sub hl [2, 3, 4, 5, 1, 0] rfl)
        · refine lv_iload hx hb dX7_sumNumber_44 (lv_at hl 5 rfl) ?_
          refine lv_goto (tgt := 51) hx hb dX7_sumNumber_46 (by decide) ?_
          refine lv_istore (lv' := [(4, .int (nI i)), (0, .ref (md 0)), (1, .int (nI g)), (2, .int (nI a)), (3, .int (nI b)), (5, .int (nI i))]) hx hb dX7_sumNumber_51 hl (by decide) rfl (fun ls hl => ?_)
          refine lv_iinc (v := nI (i + 1)) (lv' := [(5, .int (nI (i + 1))), (4, .int (nI i)), (0, .ref (md 0)), (1, .int (nI g)), (2, .int (nI a)), (3, .int (nI b))]) hx hb dX7_sumNumber_53 hl (k := 5) rfl (nI_inc i) (by decide) rfl (fun ls hl => ?_)
          refine lv_goto (tgt := 6) hx hb dX7_sumNumber_56 (by decide) ?_
          exact ih6 i (i + 1) ls (by omega) (by omega) (by rw [lsN, if_pos c41]) (lv_sub hl [2, 3, 4, 5, 1, 0] rfl)
  exact L6 (q * q - 0 + 1) 0 0 ls (by omega) (Nat.zero_le _) rfl (lv_sub hl [2, 3, 4, 5, 1, 0] rfl)

set_option maxHeartbeats 4000000 in
set_option maxRecDepth 100000 in
theorem c_X7_ratio (l : Launch) (D : va_G) (cI cZ : ClassId) (md : Nat → Nat) (q : Nat) (w : Nat) (su : Nat → Nat) (po : Nat → Nat) (xs : Nat → Nat) (ys : Nat → Nat) (zs : Nat → Nat) (hM : MOK q su po xs ys zs) (xa : Int32) (xb : Int32) (xc : Int32) (xd : Int32) : CtR l yX7_ratio wsX7_ratio { frames := 3, cells := 0, slots := 0, locals := 72 } D (tyG cI cZ) [.ref (md 0), .int xa, .int xb, .int xc, .int xd] [(md 0, .inr (7, [.int (nI q), .int (nI (nn q)), .ref (md 1), .ref (md 2), .ref (md 3), .ref (md 4), .ref (md 5), .ref (md 6), .ref (md 7), .ref (md 8), .ref (md 9), .ref (md 10), .ref (md 11), .ref (md 12), .ref (md 13), .ref (md 14), .ref (md 15), .ref (md 16), .int (nI w), .ref (md 17)])), (md 1, .inl (cI, 81, .inl (nF su))), (md 2, .inl (cI, 81, .inl (nF po))), (md 3, .inl (cI, 91, .inl (nF xs))), (md 4, .inl (cI, 91, .inl (nF ys))), (md 5, .inl (cI, 91, .inl (nF zs)))] (.int (rtoZ q xa xb xc xd)) := by
  refine Met.ofW (cc := cX7_ratio) (maxL := 9) (ret := some .int) (by decide) rfl ?_
  intro p e s m args below meth c s₁ B hml hv
  obtain ⟨rfl, hP, hK, hN⟩ := hv
  have hx := B.exec
  have hb := B.bytes
  have hr := B.returns
  have hts := atoms_spec (ws := wsX7_ratio) B.pre
  have hown : s.vm.findClass RX7 = some m.cls := findClass_of_methodNamed B.named
  have hlocks := B.notSynchronized
  have hf74 := hts (.fieldLink RX7 74 "FinitePlanesModel" "q" "I") (by decide +kernel)
  have hiX7 : ∀ w ∈ u_ws RX7 TX7 20, w ∈ wsX7_ratio := by decide +kernel
  have hl := lv_entry ([.ref (md 0), .int xa, .int xb, .int xc, .int xd]) (n := 9) (Nat.le_of_ble_eq_true rfl)
  rw [lg_entry_eq]
  generalize (lg_sl ([.ref (md 0), .int xa, .int xb, .int xc, .int xd]) ++ List.replicate (9 - (lg_sl ([.ref (md 0), .int xa, .int xb, .int xc, .int xd])).length) Slot.unset).toArray = ls at hl ⊢
  have hl : lv_has ls 9 [(0, .ref (md 0)), (1, .int xa), (2, .int xb), (3, .int xc), (4, .int xd)] := hl
  have hq2 := qs_le hM.1
  have hn2 := nn_le hM.1
  refine lv_aload_n hx hb dX7_ratio_0 rfl (lv_at hl 0 rfl) ?_
  refine lv_iload_n hx hb dX7_ratio_1 rfl (lv_at hl 1 rfl) ?_
  refine ctR_V (As := [.int xa]) (rest := []) (r := .int (nI (inB xa (nn q)).toNat)) ⟨hx, hb, hml, hown, hts⟩ (c_X7_isPoint l D cI cZ md q w su po xs ys zs hM xa) (cwV 1 hts gX7_ratio_X7_isPoint rfl rfl rfl hdV_X7_isPoint ⟨Nat.le_of_ble_eq_true rfl, Nat.le_of_ble_eq_true rfl⟩) hK hN hP [0, 1, 2, 3, 4, 5] rfl 0 7 rfl rfl rfl hl.1 rfl (Nat.le_of_ble_eq_true rfl) ⟨Nat.zero_le _, Nat.zero_le _⟩ dX7_ratio_2 ?_
  refine nv_ifb_eq (tgt := 33) hx hb dX7_ratio_5 (by decide) (fun c5 => ?_) (fun c5 => ?_)
  · refine lv_bipush (v := (-2)) hx hb dX7_ratio_33 (by decide) ?_
    exact ctR_ret (v := (-2)) hx hb hr rfl dX7_ratio_35 hlocks (by rw [rtoZ, if_pos (by rw [c5]; rfl)])
  · refine lv_aload_n hx hb dX7_ratio_8 rfl (lv_at hl 0 rfl) ?_
    refine lv_iload_n hx hb dX7_ratio_9 rfl (lv_at hl 2 rfl) ?_
    refine ctR_V (As := [.int xb]) (rest := []) (r := .int (nI (inB xb (nn q)).toNat)) ⟨hx, hb, hml, hown, hts⟩ (c_X7_isPoint l D cI cZ md q w su po xs ys zs hM xb) (cwV 1 hts gX7_ratio_X7_isPoint rfl rfl rfl hdV_X7_isPoint ⟨Nat.le_of_ble_eq_true rfl, Nat.le_of_ble_eq_true rfl⟩) hK hN hP [0, 1, 2, 3, 4, 5] rfl 0 7 rfl rfl rfl hl.1 rfl (Nat.le_of_ble_eq_true rfl) ⟨Nat.zero_le _, Nat.zero_le _⟩ dX7_ratio_10 ?_
    refine nv_ifb_eq (tgt := 33) hx hb dX7_ratio_13 (by decide) (fun c13 => ?_) (fun c13 => ?_)
    · refine lv_bipush (v := (-2)) hx hb dX7_ratio_33 (by decide) ?_
      exact ctR_ret (v := (-2)) hx hb hr rfl dX7_ratio_35 hlocks (by rw [rtoZ, if_pos (by rw [c5, c13]; rfl)])
    · refine lv_aload_n hx hb dX7_ratio_16 rfl (lv_at hl 0 rfl) ?_
      refine lv_iload_n hx hb dX7_ratio_17 rfl (lv_at hl 3 rfl) ?_
      refine ctR_V (As := [.int xc]) (rest := []) (r := .int (nI (inB xc (nn q)).toNat)) ⟨hx, hb, hml, hown, hts⟩ (c_X7_isPoint l D cI cZ md q w su po xs ys zs hM xc) (cwV 1 hts gX7_ratio_X7_isPoint rfl rfl rfl hdV_X7_isPoint ⟨Nat.le_of_ble_eq_true rfl, Nat.le_of_ble_eq_true rfl⟩) hK hN hP [0, 1, 2, 3, 4, 5] rfl 0 7 rfl rfl rfl hl.1 rfl (Nat.le_of_ble_eq_true rfl) ⟨Nat.zero_le _, Nat.zero_le _⟩ dX7_ratio_18 ?_
      refine nv_ifb_eq (tgt := 33) hx hb dX7_ratio_21 (by decide) (fun c21 => ?_) (fun c21 => ?_)
      · refine lv_bipush (v := (-2)) hx hb dX7_ratio_33 (by decide) ?_
        exact ctR_ret (v := (-2)) hx hb hr rfl dX7_ratio_35 hlocks (by rw [rtoZ, if_pos (by rw [c5, c13, c21]; rfl)])
      · refine lv_aload_n hx hb dX7_ratio_24 rfl (lv_at hl 0 rfl) ?_
        refine lv_iload hx hb dX7_ratio_25 (lv_at hl 4 rfl) ?_
        refine ctR_V (As := [.int xd]) (rest := []) (r := .int (nI (inB xd (nn q)).toNat)) ⟨hx, hb, hml, hown, hts⟩ (c_X7_isPoint l D cI cZ md q w su po xs ys zs hM xd) (cwV 1 hts gX7_ratio_X7_isPoint rfl rfl rfl hdV_X7_isPoint ⟨Nat.le_of_ble_eq_true rfl, Nat.le_of_ble_eq_true rfl⟩) hK hN hP [0, 1, 2, 3, 4, 5] rfl 0 7 rfl rfl rfl hl.1 rfl (Nat.le_of_ble_eq_true rfl) ⟨Nat.zero_le _, Nat.zero_le _⟩ dX7_ratio_27 ?_
        refine nv_ifb_ne (tgt := 36) hx hb dX7_ratio_30 (by decide) (fun c30 => ?_) (fun c30 => ?_)
        · have h4 : (inB xa (nn q) && inB xb (nn q) && inB xc (nn q) && inB xd (nn q)) = true := by rw [c5, c13, c21, c30]; rfl
          obtain ⟨ja, hja, rfl⟩ := inB_of (by omega) c5
          obtain ⟨jb, hjb, rfl⟩ := inB_of (by omega) c13
          obtain ⟨jc, hjc, rfl⟩ := inB_of (by omega) c21
          obtain ⟨jd, hjd, rfl⟩ := inB_of (by omega) c30
          refine lv_iload_n hx hb dX7_ratio_36 rfl (lv_at hl 1 rfl) ?_
          refine lv_iload_n hx hb dX7_ratio_37 rfl (lv_at hl 2 rfl) ?_
          refine nv_icmp_eq (tgt := 80) hx hb (by omega) (by omega) dX7_ratio_38 (by decide) (fun c38 => ?_) (fun c38 => ?_)
          · refine lv_iconst (v := (-1)) hx hb dX7_ratio_80 (by decide) ?_
            exact ctR_ret (v := (-1)) hx hb hr rfl dX7_ratio_81 hlocks (by rw [rtoZ, if_neg (bool_nf h4), nv_nI (show ja < 2 ^ 31 by omega), nv_nI (show jb < 2 ^ 31 by omega), nv_nI (show jc < 2 ^ 31 by omega), nv_nI (show jd < 2 ^ 31 by omega), if_pos (Or.inl c38)])
          · refine lv_iload_n hx hb dX7_ratio_41 rfl (lv_at hl 1 rfl) ?_
            refine lv_iload_n hx hb dX7_ratio_42 rfl (lv_at hl 3 rfl) ?_
            refine nv_icmp_eq (tgt := 80) hx hb (by omega) (by omega) dX7_ratio_43 (by decide) (fun c43 => ?_) (fun c43 => ?_)
            · refine lv_iconst (v := (-1)) hx hb dX7_ratio_80 (by decide) ?_
              exact ctR_ret (v := (-1)) hx hb hr rfl dX7_ratio_81 hlocks (by rw [rtoZ, if_neg (bool_nf h4), nv_nI (show ja < 2 ^ 31 by omega), nv_nI (show jb < 2 ^ 31 by omega), nv_nI (show jc < 2 ^ 31 by omega), nv_nI (show jd < 2 ^ 31 by omega), if_pos (Or.inr (Or.inl c43))])
            · refine lv_iload_n hx hb dX7_ratio_46 rfl (lv_at hl 2 rfl) ?_
              refine lv_iload_n hx hb dX7_ratio_47 rfl (lv_at hl 3 rfl) ?_
              refine nv_icmp_eq (tgt := 80) hx hb (by omega) (by omega) dX7_ratio_48 (by decide) (fun c48 => ?_) (fun c48 => ?_)
              · refine lv_iconst (v := (-1)) hx hb dX7_ratio_80 (by decide) ?_
                exact ctR_ret (v := (-1)) hx hb hr rfl dX7_ratio_81 hlocks (by rw [rtoZ, if_neg (bool_nf h4), nv_nI (show ja < 2 ^ 31 by omega), nv_nI (show jb < 2 ^ 31 by omega), nv_nI (show jc < 2 ^ 31 by omega), nv_nI (show jd < 2 ^ 31 by omega), if_pos (Or.inr (Or.inr (Or.inl c48)))])
              · refine lv_aload_n hx hb dX7_ratio_51 rfl (lv_at hl 0 rfl) ?_
                refine lv_iload_n hx hb dX7_ratio_52 rfl (lv_at hl 3 rfl) ?_
                refine lv_aload_n hx hb dX7_ratio_53 rfl (lv_at hl 0 rfl) ?_
                refine lv_iload_n hx hb dX7_ratio_54 rfl (lv_at hl 1 rfl) ?_
                refine lv_iload_n hx hb dX7_ratio_55 rfl (lv_at hl 2 rfl) ?_
                refine ctR_V (As := [.int (nI ja), .int (nI jb)]) (rest := [.int (nI jc), .ref (md 0)]) (r := .int (nI (joinq q ja jb))) ⟨hx, hb, hml, hown, hts⟩ (c_X7_joinOf l D cI cZ md q w su po xs ys zs hM ja jb (by omega) (by omega) c38) (cwV 2 hts gX7_ratio_X7_joinOf rfl rfl rfl hdV_X7_joinOf ⟨Nat.le_of_ble_eq_true rfl, Nat.le_of_ble_eq_true rfl⟩) hK hN hP [0, 1, 2, 3, 4, 5] rfl 0 7 rfl rfl rfl hl.1 rfl (Nat.le_of_ble_eq_true rfl) ⟨Nat.zero_le _, Nat.zero_le _⟩ dX7_ratio_56 ?_
                have hh_1 : joinq q ja jb < nn q := (join_ok hM.1 (by omega) (by omega) (by omega)).1
                refine ctR_V (As := [.int (nI jc), .int (nI (joinq q ja jb))]) (rest := []) (r := .int (nI (onq q jc (joinq q ja jb)).toNat)) ⟨hx, hb, hml, hown, hts⟩ (c_X7_isOn l D cI cZ md q w su po xs ys zs hM jc (joinq q ja jb) (by omega) (by omega)) (cwV 2 hts gX7_ratio_X7_isOn rfl rfl rfl hdV_X7_isOn ⟨Nat.le_of_ble_eq_true rfl, Nat.le_of_ble_eq_true rfl⟩) hK hN hP [0, 1, 2, 3, 4, 5] rfl 0 7 rfl rfl rfl hl.1 rfl (Nat.le_of_ble_eq_true rfl) ⟨Nat.zero_le _, Nat.zero_le _⟩ dX7_ratio_59 ?_
                refine nv_ifb_eq (tgt := 80) hx hb dX7_ratio_62 (by decide) (fun c62 => ?_) (fun c62 => ?_)
                · refine lv_iconst (v := (-1)) hx hb dX7_ratio_80 (by decide) ?_
                  exact ctR_ret (v := (-1)) hx hb hr rfl dX7_ratio_81 hlocks (by rw [rtoZ, if_neg (bool_nf h4), nv_nI (show ja < 2 ^ 31 by omega), nv_nI (show jb < 2 ^ 31 by omega), nv_nI (show jc < 2 ^ 31 by omega), nv_nI (show jd < 2 ^ 31 by omega), if_pos (Or.inr (Or.inr (Or.inr (Or.inl (fun z => by rw [(on_dt hM.1 hja hjb hjc c38).mpr z] at c62; cases c62)))))])
                · refine lv_aload_n hx hb dX7_ratio_65 rfl (lv_at hl 0 rfl) ?_
                  refine lv_iload hx hb dX7_ratio_66 (lv_at hl 4 rfl) ?_
                  refine lv_aload_n hx hb dX7_ratio_68 rfl (lv_at hl 0 rfl) ?_
                  refine lv_iload_n hx hb dX7_ratio_69 rfl (lv_at hl 1 rfl) ?_
                  refine lv_iload_n hx hb dX7_ratio_70 rfl (lv_at hl 2 rfl) ?_
                  refine ctR_V (As := [.int (nI ja), .int (nI jb)]) (rest := [.int (nI jd), .ref (md 0)]) (r := .int (nI (joinq q ja jb))) ⟨hx, hb, hml, hown, hts⟩ (c_X7_joinOf l D cI cZ md q w su po xs ys zs hM ja jb (by omega) (by omega) c38) (cwV 2 hts gX7_ratio_X7_joinOf rfl rfl rfl hdV_X7_joinOf ⟨Nat.le_of_ble_eq_true rfl, Nat.le_of_ble_eq_true rfl⟩) hK hN hP [0, 1, 2, 3, 4, 5] rfl 0 7 rfl rfl rfl hl.1 rfl (Nat.le_of_ble_eq_true rfl) ⟨Nat.zero_le _, Nat.zero_le _⟩ dX7_ratio_71 ?_
                  have hh_2 : joinq q ja jb < nn q := (join_ok hM.1 (by omega) (by omega) (by omega)).1
                  refine ctR_V (As := [.int (nI jd), .int (nI (joinq q ja jb))]) (rest := []) (r := .int (nI (onq q jd (joinq q ja jb)).toNat)) ⟨hx, hb, hml, hown, hts⟩ (c_X7_isOn l D cI cZ md q w su po xs ys zs hM jd (joinq q ja jb) (by omega) (by omega)) (cwV 2 hts gX7_ratio_X7_isOn rfl rfl rfl hdV_X7_isOn ⟨Nat.le_of_ble_eq_true rfl, Nat.le_of_ble_eq_true rfl⟩) hK hN hP [0, 1, 2, 3, 4, 5] rfl 0 7 rfl rfl rfl hl.1 rfl (Nat.le_of_ble_eq_true rfl) ⟨Nat.zero_le _, Nat.zero_le _⟩ dX7_ratio_74 ?_
                  refine nv_ifb_ne (tgt := 82) hx hb dX7_ratio_77 (by decide) (fun c77 => ?_) (fun c77 => ?_)
                  · have z1 := (on_dt hM.1 hja hjb hjc c38).mp c62
                    have z2 := (on_dt hM.1 hja hjb hjd c38).mp c77
                    have w1 := ls_spec hM.1 hja hjb hjc c38 z1
                    have w2 := ls_spec hM.1 hja hjb hjd c38 z2
                    have w3 := s2_u hM.1 hja hjb hjc w1.2.1 c48 w1.2.2
                    have w4 := rat_eq hM.1 hja hjb hjc w1.1 w1.2.1 w2.1 w2.2.1 c38 c48 w1.2.2 w2.2.2
                    have v11 := w1.1
                    have v12 := w1.2.1
                    have v21 := w2.1
                    have v22 := w2.2.1
                    have hqq : q * q ≤ 9 * 9 := Nat.mul_le_mul hq2.2 hq2.2
                    refine lv_aload_n hx hb dX7_ratio_82 rfl (lv_at hl 0 rfl) ?_
                    refine lv_iload_n hx hb dX7_ratio_83 rfl (lv_at hl 3 rfl) ?_
                    refine lv_iload_n hx hb dX7_ratio_84 rfl (lv_at hl 1 rfl) ?_
                    refine lv_iload_n hx hb dX7_ratio_85 rfl (lv_at hl 2 rfl) ?_
                    refine ctR_V (As := [.int (nI jc), .int (nI ja), .int (nI jb)]) (rest := []) (r := .int (nI (lsN q jc ja jb (q * q)))) ⟨hx, hb, hml, hown, hts⟩ (c_X7_sumNumber l D cI cZ md q w su po xs ys zs hM jc ja jb (by omega) (by omega) (by omega)) (cwV 3 hts gX7_ratio_X7_sumNumber rfl rfl rfl hdV_X7_sumNumber ⟨Nat.le_of_ble_eq_true rfl, Nat.le_of_ble_eq_true rfl⟩) hK hN hP [0, 1, 2, 3, 4, 5] rfl 0 7 rfl rfl rfl hl.1 rfl (Nat.le_of_ble_eq_true rfl) ⟨Nat.zero_le _, Nat.zero_le _⟩ dX7_ratio_86 ?_
                    have hh_3 : lsN q jc ja jb (q * q) < q * q := lsN_lt (Nat.mul_pos (by omega) (by omega))
                    refine lv_aload_n hx hb dX7_ratio_89 rfl (lv_at hl 0 rfl) ?_
                    refine va_get (D := D) (ci := 7) (v := .int (nI q)) (C := RX7) (T := TX7) (N := 20) hx hb hts hiX7 hown hK hP 0 rfl rfl 0 (by decide) hf74 (fun _ h9 => h9) rfl dX7_ratio_90 ?_
                    refine nv_divE (r := (lsN q jc ja jb (q * q)) / q) hx hb (by omega) (by omega) (by omega) rfl dX7_ratio_93 ?_
                    refine lv_istore (lv' := [(5, .int (nI ((lsN q jc ja jb (q * q)) / q))), (0, .ref (md 0)), (1, .int (nI ja)), (2, .int (nI jb)), (3, .int (nI jc)), (4, .int (nI jd))]) hx hb dX7_ratio_94 hl (by decide) rfl (fun ls hl => ?_)
                    refine lv_aload_n hx hb dX7_ratio_96 rfl (lv_at hl 1 rfl) ?_
                    refine lv_iload_n hx hb dX7_ratio_97 rfl (lv_at hl 4 rfl) ?_
                    refine lv_iload_n hx hb dX7_ratio_98 rfl (lv_at hl 2 rfl) ?_
                    refine lv_iload_n hx hb dX7_ratio_99 rfl (lv_at hl 3 rfl) ?_
                    refine ctR_V (As := [.int (nI jc), .int (nI ja), .int (nI jb)]) (rest := []) (r := .int (nI (lsN q jc ja jb (q * q)))) ⟨hx, hb, hml, hown, hts⟩ (c_X7_sumNumber l D cI cZ md q w su po xs ys zs hM jc ja jb (by omega) (by omega) (by omega)) (cwV 3 hts gX7_ratio_X7_sumNumber rfl rfl rfl hdV_X7_sumNumber ⟨Nat.le_of_ble_eq_true rfl, Nat.le_of_ble_eq_true rfl⟩) hK hN hP [0, 1, 2, 3, 4, 5] rfl 0 7 rfl rfl rfl hl.1 rfl (Nat.le_of_ble_eq_true rfl) ⟨Nat.zero_le _, Nat.zero_le _⟩ dX7_ratio_100 ?_
                    have hh_4 : lsN q jc ja jb (q * q) < q * q := lsN_lt (Nat.mul_pos (by omega) (by omega))
                    refine lv_aload_n hx hb dX7_ratio_103 rfl (lv_at hl 1 rfl) ?_
                    refine va_get (D := D) (ci := 7) (v := .int (nI q)) (C := RX7) (T := TX7) (N := 20) hx hb hts hiX7 hown hK hP 0 rfl rfl 0 (by decide) hf74 (fun _ h9 => h9) rfl dX7_ratio_104 ?_
                    refine nv_remE (r := (lsN q jc ja jb (q * q)) % q) hx hb (by omega) (by omega) (by omega) rfl dX7_ratio_107 ?_
                    refine lv_istore (lv' := [(6, .int (nI ((lsN q jc ja jb (q * q)) % q))), (5, .int (nI ((lsN q jc ja jb (q * q)) / q))), (0, .ref (md 0)), (1, .int (nI ja)), (2, .int (nI jb)), (3, .int (nI jc)), (4, .int (nI jd))]) hx hb dX7_ratio_108 hl (by decide) rfl (fun ls hl => ?_)
                    refine lv_aload_n hx hb dX7_ratio_110 rfl (lv_at hl 2 rfl) ?_
                    refine lv_iload hx hb dX7_ratio_111 (lv_at hl 6 rfl) ?_
                    refine lv_iload_n hx hb dX7_ratio_113 rfl (lv_at hl 3 rfl) ?_
                    refine lv_iload_n hx hb dX7_ratio_114 rfl (lv_at hl 4 rfl) ?_
                    refine ctR_V (As := [.int (nI jd), .int (nI ja), .int (nI jb)]) (rest := []) (r := .int (nI (lsN q jd ja jb (q * q)))) ⟨hx, hb, hml, hown, hts⟩ (c_X7_sumNumber l D cI cZ md q w su po xs ys zs hM jd ja jb (by omega) (by omega) (by omega)) (cwV 3 hts gX7_ratio_X7_sumNumber rfl rfl rfl hdV_X7_sumNumber ⟨Nat.le_of_ble_eq_true rfl, Nat.le_of_ble_eq_true rfl⟩) hK hN hP [0, 1, 2, 3, 4, 5] rfl 0 7 rfl rfl rfl hl.1 rfl (Nat.le_of_ble_eq_true rfl) ⟨Nat.zero_le _, Nat.zero_le _⟩ dX7_ratio_115 ?_
                    have hh_5 : lsN q jd ja jb (q * q) < q * q := lsN_lt (Nat.mul_pos (by omega) (by omega))
                    refine lv_aload_n hx hb dX7_ratio_118 rfl (lv_at hl 2 rfl) ?_
                    refine va_get (D := D) (ci := 7) (v := .int (nI q)) (C := RX7) (T := TX7) (N := 20) hx hb hts hiX7 hown hK hP 0 rfl rfl 0 (by decide) hf74 (fun _ h9 => h9) rfl dX7_ratio_119 ?_
                    refine nv_divE (r := (lsN q jd ja jb (q * q)) / q) hx hb (by omega) (by omega) (by omega) rfl dX7_ratio_122 ?_
                    refine lv_istore (lv' := [(7, .int (nI ((lsN q jd ja jb (q * q)) / q))), (6, .int (nI ((lsN q jc ja jb (q * q)) % q))), (5, .int (nI ((lsN q jc ja jb (q * q)) / q))), (0, .ref (md 0)), (1, .int (nI ja)), (2, .int (nI jb)), (3, .int (nI jc)), (4, .int (nI jd))]) hx hb dX7_ratio_123 hl (by decide) rfl (fun ls hl => ?_)
                    refine lv_aload_n hx hb dX7_ratio_125 rfl (lv_at hl 3 rfl) ?_
                    refine lv_iload hx hb dX7_ratio_126 (lv_at hl 7 rfl) ?_
                    refine lv_iload_n hx hb dX7_ratio_128 rfl (lv_at hl 4 rfl) ?_
                    refine lv_iload_n hx hb dX7_ratio_129 rfl (lv_at hl 5 rfl) ?_
                    refine ctR_V (As := [.int (nI jd), .int (nI ja), .int (nI jb)]) (rest := []) (r := .int (nI (lsN q jd ja jb (q * q)))) ⟨hx, hb, hml, hown, hts⟩ (c_X7_sumNumber l D cI cZ md q w su po xs ys zs hM jd ja jb (by omega) (by omega) (by omega)) (cwV 3 hts gX7_ratio_X7_sumNumber rfl rfl rfl hdV_X7_sumNumber ⟨Nat.le_of_ble_eq_true rfl, Nat.le_of_ble_eq_true rfl⟩) hK hN hP [0, 1, 2, 3, 4, 5] rfl 0 7 rfl rfl rfl hl.1 rfl (Nat.le_of_ble_eq_true rfl) ⟨Nat.zero_le _, Nat.zero_le _⟩ dX7_ratio_130 ?_
                    have hh_6 : lsN q jd ja jb (q * q) < q * q := lsN_lt (Nat.mul_pos (by omega) (by omega))
                    refine lv_aload_n hx hb dX7_ratio_133 rfl (lv_at hl 3 rfl) ?_
                    refine va_get (D := D) (ci := 7) (v := .int (nI q)) (C := RX7) (T := TX7) (N := 20) hx hb hts hiX7 hown hK hP 0 rfl rfl 0 (by decide) hf74 (fun _ h9 => h9) rfl dX7_ratio_134 ?_
                    refine nv_remE (r := (lsN q jd ja jb (q * q)) % q) hx hb (by omega) (by omega) (by omega) rfl dX7_ratio_137 ?_
                    refine lv_istore (lv' := [(8, .int (nI ((lsN q jd ja jb (q * q)) % q))), (7, .int (nI ((lsN q jd ja jb (q * q)) / q))), (6, .int (nI ((lsN q jc ja jb (q * q)) % q))), (5, .int (nI ((lsN q jc ja jb (q * q)) / q))), (0, .ref (md 0)), (1, .int (nI ja)), (2, .int (nI jb)), (3, .int (nI jc)), (4, .int (nI jd))]) hx hb dX7_ratio_138 hl (by decide) rfl (fun ls hl => ?_)
                    refine lv_iload hx hb dX7_ratio_140 (lv_at hl 0 rfl) ?_
                    refine nv_if_ne (tgt := 152) hx hb (by omega) dX7_ratio_142 (by decide) (fun c142 => ?_) (fun c142 => ?_)
                    · refine lv_aload_n hx hb dX7_ratio_152 rfl (lv_at hl 4 rfl) ?_
                      refine lv_aload_n hx hb dX7_ratio_153 rfl (lv_at hl 4 rfl) ?_
                      refine lv_iload hx hb dX7_ratio_154 (lv_at hl 1 rfl) ?_
                      refine lv_iload hx hb dX7_ratio_156 (lv_at hl 2 rfl) ?_
                      refine ctR_V (As := [.int (nI ((lsN q jd ja jb (q * q)) / q)), .int (nI ((lsN q jc ja jb (q * q)) % q))]) (rest := [.ref (md 0)]) (r := .int (nI (fmul q ((lsN q jd ja jb (q * q)) / q) ((lsN q jc ja jb (q * q)) % q)))) ⟨hx, hb, hml, hown, hts⟩ (c_X7_times l D cI cZ md q w su po xs ys zs hM ((lsN q jd ja jb (q * q)) / q) ((lsN q jc ja jb (q * q)) % q) (by omega) (by omega)) (cwV 2 hts gX7_ratio_X7_times rfl rfl rfl hdV_X7_times ⟨Nat.le_of_ble_eq_true rfl, Nat.le_of_ble_eq_true rfl⟩) hK hN hP [0, 1, 2, 3, 4, 5] rfl 0 7 rfl rfl rfl hl.1 rfl (Nat.le_of_ble_eq_true rfl) ⟨Nat.zero_le _, Nat.zero_le _⟩ dX7_ratio_158 ?_
                      have hh_7 : fmul q ((lsN q jd ja jb (q * q)) / q) ((lsN q jc ja jb (q * q)) % q) < q := fmul_lt hM.1 (by omega) (by omega)
                      refine lv_aload_n hx hb dX7_ratio_161 rfl (lv_at hl 4 rfl) ?_
                      refine lv_iload hx hb dX7_ratio_162 (lv_at hl 0 rfl) ?_
                      refine lv_iload hx hb dX7_ratio_164 (lv_at hl 3 rfl) ?_
                      refine ctR_V (As := [.int (nI ((lsN q jd ja jb (q * q)) % q)), .int (nI ((lsN q jc ja jb (q * q)) / q))]) (rest := [.int (nI (fmul q ((lsN q jd ja jb (q * q)) / q) ((lsN q jc ja jb (q * q)) % q))), .ref (md 0)]) (r := .int (nI (fmul q ((lsN q jd ja jb (q * q)) % q) ((lsN q jc ja jb (q * q)) / q)))) ⟨hx, hb, hml, hown, hts⟩ (c_X7_times l D cI cZ md q w su po xs ys zs hM ((lsN q jd ja jb (q * q)) % q) ((lsN q jc ja jb (q * q)) / q) (by omega) (by omega)) (cwV 2 hts gX7_ratio_X7_times rfl rfl rfl hdV_X7_times ⟨Nat.le_of_ble_eq_true rfl, Nat.le_of_ble_eq_true rfl⟩) hK hN hP [0, 1, 2, 3, 4, 5] rfl 0 7 rfl rfl rfl hl.1 rfl (Nat.le_of_ble_eq_true rfl) ⟨Nat.zero_le _, Nat.zero_le _⟩ dX7_ratio_166 ?_
                      have hh_8 : fmul q ((lsN q jd ja jb (q * q)) % q) ((lsN q jc ja jb (q * q)) / q) < q := fmul_lt hM.1 (by omega) (by omega)
                      refine ctR_V (As := [.int (nI (fmul q ((lsN q jd ja jb (q * q)) / q) ((lsN q jc ja jb (q * q)) % q))), .int (nI (fmul q ((lsN q jd ja jb (q * q)) % q) ((lsN q jc ja jb (q * q)) / q)))]) (rest := []) (r := .int (nI (fdiv q (fmul q ((lsN q jd ja jb (q * q)) / q) ((lsN q jc ja jb (q * q)) % q)) (fmul q ((lsN q jd ja jb (q * q)) % q) ((lsN q jc ja jb (q * q)) / q))))) ⟨hx, hb, hml, hown, hts⟩ (c_X7_by l D cI cZ md q w su po xs ys zs hM (fmul q ((lsN q jd ja jb (q * q)) / q) ((lsN q jc ja jb (q * q)) % q)) (fmul q ((lsN q jd ja jb (q * q)) % q) ((lsN q jc ja jb (q * q)) / q)) (by omega) (by omega) (fun y => ((F_z q hM.1 _ v22 _ v11).1.mp y).elim c142 w3)) (cwV 2 hts gX7_ratio_X7_by rfl rfl rfl hdV_X7_by ⟨Nat.le_of_ble_eq_true rfl, Nat.le_of_ble_eq_true rfl⟩) hK hN hP [0, 1, 2, 3, 4, 5] rfl 0 7 rfl rfl rfl hl.1 rfl (Nat.le_of_ble_eq_true rfl) ⟨Nat.zero_le _, Nat.zero_le _⟩ dX7_ratio_169 ?_
                      have hh_9 : fdiv q (fmul q ((lsN q jd ja jb (q * q)) / q) ((lsN q jc ja jb (q * q)) % q)) (fmul q ((lsN q jd ja jb (q * q)) % q) ((lsN q jc ja jb (q * q)) / q)) < q := fdiv_lt hM.1 (by omega) (by omega)
                      exact ctR_ret (v := (nI (fdiv q (fmul q ((lsN q jd ja jb (q * q)) / q) ((lsN q jc ja jb (q * q)) % q)) (fmul q ((lsN q jd ja jb (q * q)) % q) ((lsN q jc ja jb (q * q)) / q))))) hx hb hr rfl dX7_ratio_172 hlocks (by rw [rtoZ, if_neg (bool_nf h4), nv_nI (show ja < 2 ^ 31 by omega), nv_nI (show jb < 2 ^ 31 by omega), nv_nI (show jc < 2 ^ 31 by omega), nv_nI (show jd < 2 ^ 31 by omega), if_neg (fun z => z.elim c38 (fun z => z.elim c43 (fun z => z.elim c48 (fun z => z.elim (fun z => z z1) (fun z => z z2))))), w4, if_neg c142])
                    · refine lv_aload_n hx hb dX7_ratio_145 rfl (lv_at hl 4 rfl) ?_
                      refine va_get (D := D) (ci := 7) (v := .int (nI q)) (C := RX7) (T := TX7) (N := 20) hx hb hts hiX7 hown hK hP 0 rfl rfl 0 (by decide) hf74 (fun _ h9 => h9) rfl dX7_ratio_146 ?_
                      refine lv_goto (tgt := 172) hx hb dX7_ratio_149 (by decide) ?_
                      exact ctR_ret (v := (nI q)) hx hb hr rfl dX7_ratio_172 hlocks (by rw [rtoZ, if_neg (bool_nf h4), nv_nI (show ja < 2 ^ 31 by omega), nv_nI (show jb < 2 ^ 31 by omega), nv_nI (show jc < 2 ^ 31 by omega), nv_nI (show jd < 2 ^ 31 by omega), if_neg (fun z => z.elim c38 (fun z => z.elim c43 (fun z => z.elim c48 (fun z => z.elim (fun z => z z1) (fun z => z z2))))), w4, if_pos c142])
                  · refine lv_iconst (v := (-1)) hx hb dX7_ratio_80 (by decide) ?_
                    exact ctR_ret (v := (-1)) hx hb hr rfl dX7_ratio_81 hlocks (by rw [rtoZ, if_neg (bool_nf h4), nv_nI (show ja < 2 ^ 31 by omega), nv_nI (show jb < 2 ^ 31 by omega), nv_nI (show jc < 2 ^ 31 by omega), nv_nI (show jd < 2 ^ 31 by omega), if_pos (Or.inr (Or.inr (Or.inr (Or.inr (fun z => by rw [(on_dt hM.1 hja hjb hjd c38).mpr z] at c77; cases c77)))))])
        · refine lv_bipush (v := (-2)) hx hb dX7_ratio_33 (by decide) ?_
          exact ctR_ret (v := (-2)) hx hb hr rfl dX7_ratio_35 hlocks (by rw [rtoZ, if_pos (by rw [c5, c13, c21, c30]; rfl)])
